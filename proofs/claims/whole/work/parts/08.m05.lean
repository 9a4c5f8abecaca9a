/-! the reference, method by method: 5 -/
set_option maxRecDepth 20000 in
def sX12_serve_j463 (a2 : Int32) (a8 : Int32) (w : xW) : Option (Unit × xW) :=
  (if xin (4 : Int32) 8 then (if xin (4 : Int32) 8 then (if xin (0 : Int32) 8 then some ((), (xwi (xwi (xwi w 0 34 (a2 &&& (-32 : Int32))) 9 ((4 : Int32).toNatClampNeg) ((w.1 9 ((4 : Int32).toNatClampNeg)) + (4 : Int32))) 9 ((0 : Int32).toNatClampNeg) a8)) else none) else none) else none)
set_option maxRecDepth 20000 in
theorem tX12_serve_j463 (a2 : Int32) (a8 : Int32) (w : xW) : xJ ιV mX12_serve lM (0, 0) 463 [(0, .ref 0), (2, .int a2), (8, .int a8)] [] w (sX12_serve_j463 a2 a8 w) := by
  unfold sX12_serve_j463
  refine xj_aloadn 0 dX12_serve_463 rfl rfl ?_
  refine xj_iloadn 1 dX12_serve_464 rfl rfl ?_
  refine xj_bipush (v := -32) dX12_serve_465 cb_m32 ?_
  refine xj_iand dX12_serve_467 ?_
  refine pfX12_40 dX12_serve_468 rfl ?_
  refine xj_aloadn 0 dX12_serve_471 rfl rfl ?_
  refine gfX12_44 dX12_serve_472 rfl ?_
  refine xj_iconst (v := 4) dX12_serve_475 ci_4 ?_
  refine xj_dup2 dX12_serve_476 rfl rfl ?_
  refine xj_iald (k := 9) dX12_serve_477 rfl ?_
  refine xj_iconst (v := 4) dX12_serve_478 ci_4 ?_
  refine xj_iadd dX12_serve_479 ?_
  refine xj_iast (k := 9) dX12_serve_480 rfl ?_
  refine xj_aloadn 0 dX12_serve_481 rfl rfl ?_
  refine gfX12_44 dX12_serve_482 rfl ?_
  refine xj_iconst (v := 0) dX12_serve_485 ci_0 ?_
  refine xj_iload 2 dX12_serve_486 rfl ?_
  refine xj_iast (k := 9) dX12_serve_488 rfl ?_
  exact xj_rv dX12_serve_489 rfl
set_option maxRecDepth 20000 in
def sX12_serve_l157 : Nat → Int32 → Int64 → Int64 → Int32 → Int32 → xW → Option (Unit × xW)
  | 0, _, _, _, _, _, _ => none
  | n + 1, a2, a3, a5, a7, a8, w =>
  (if a7 = 0 then sX12_serve_j463 a2 a8 w else (if a8.toInt64 < a5 then (if (w.1 0 8) < (1024 : Int32) then (if xin ((a3.toInt32 - (65536 : Int32)) + a8) 65536 then (if xin (w.1 0 8) 1024 then (sX12_serve_l157 n) a2 a3 a5 a7 (a8 + (1 : Int32)) (xwi (xwi w 4 ((w.1 0 8).toNatClampNeg) (w.1 2 (((a3.toInt32 - (65536 : Int32)) + a8).toNatClampNeg))) 0 8 ((w.1 0 8) + (1 : Int32))) else none) else none) else sX12_serve_j463 a2 a8 w) else sX12_serve_j463 a2 a8 w))
set_option maxRecDepth 20000 in
theorem tX12_serve_l157 : ∀ (n : Nat) (a2 : Int32) (a3 : Int64) (a5 : Int64) (a7 : Int32) (a8 : Int32) (w : xW), xJ ιV mX12_serve lM (0, 0) 157 [(0, .ref 0), (2, .int a2), (3, .long a3), (5, .long a5), (7, .int a7), (8, .int a8)] [] w (sX12_serve_l157 n a2 a3 a5 a7 a8 w) := by
  intro n
  induction n with
  | zero => intros; exact xj_none
  | succ n ih =>
    intro a2 a3 a5 a7 a8 w
    rw [sX12_serve_l157]
    refine xj_iload 4 dX12_serve_157 rfl ?_
    refine xj_ifeq (tgt := 463) dX12_serve_159 rfl ?_ ?_
    · refine xj_sub (lv2 := [(0, .ref 0), (2, .int a2), (8, .int a8)]) [0, 1, 5] rfl ?_
      exact tX12_serve_j463 _ _ _
    · refine xj_iload 5 dX12_serve_162 rfl ?_
      refine xj_i2l dX12_serve_164 ?_
      refine xj_lload 3 dX12_serve_165 rfl ?_
      refine xj_lge (tgt := 463) dX12_serve_167 dX12_serve_168 rfl ?_ ?_
      · refine xj_aloadn 0 dX12_serve_171 rfl rfl ?_
        refine gfX12_398 (v := (w.1 0 8)) dX12_serve_172 rfl rfl ?_
        refine xj_sipush (v := 1024) dX12_serve_175 cs_1024 ?_
        refine xj_ige (tgt := 463) dX12_serve_178 rfl ?_ ?_
        · refine xj_aloadn 0 dX12_serve_181 rfl rfl ?_
          refine gfX12_20 dX12_serve_182 rfl ?_
          refine xj_aloadn 0 dX12_serve_185 rfl rfl ?_
          refine gfX12_398 (v := (w.1 0 8)) dX12_serve_186 rfl rfl ?_
          refine xj_aloadn 0 dX12_serve_189 rfl rfl ?_
          refine gfX12_14 dX12_serve_190 rfl ?_
          refine xj_lloadn 2 dX12_serve_193 rfl rfl ?_
          refine xj_l2i dX12_serve_194 ?_
          refine xj_ldc (v := 65536) tw1900 dX12_serve_195 ?_
          refine xj_isub dX12_serve_197 ?_
          refine xj_iload 5 dX12_serve_198 rfl ?_
          refine xj_iadd dX12_serve_200 ?_
          refine xj_iald (k := 2) dX12_serve_201 rfl ?_
          refine xj_iast (k := 4) dX12_serve_202 rfl ?_
          refine xj_aloadn 0 dX12_serve_203 rfl rfl ?_
          refine xj_dup dX12_serve_204 rfl ?_
          refine gfX12_398 (v := (w.1 0 8)) dX12_serve_205 rfl rfl ?_
          refine xj_iconst (v := 1) dX12_serve_208 ci_1 ?_
          refine xj_iadd dX12_serve_209 ?_
          refine pfX12_398 dX12_serve_210 rfl ?_
          refine xj_iinc (n := 5) (lv2 := [(8, .int (a8 + (1 : Int32))), (0, .ref 0), (2, .int a2), (3, .long a3), (5, .long a5), (7, .int a7)]) dX12_serve_213 rfl ci_1 (Nat.le_of_ble_eq_true rfl) rfl ?_
          refine xj_goto (tgt := 157) dX12_serve_216 rfl ?_
          refine xj_sub (lv2 := [(0, .ref 0), (2, .int a2), (3, .long a3), (5, .long a5), (7, .int a7), (8, .int (a8 + (1 : Int32)))]) [1, 2, 3, 4, 5, 0] rfl ?_
          exact ih _ _ _ _ _ _
        · refine xj_sub (lv2 := [(0, .ref 0), (2, .int a2), (8, .int a8)]) [0, 1, 5] rfl ?_
          exact tX12_serve_j463 _ _ _
      · refine xj_sub (lv2 := [(0, .ref 0), (2, .int a2), (8, .int a8)]) [0, 1, 5] rfl ?_
        exact tX12_serve_j463 _ _ _
set_option maxRecDepth 20000 in
def sX12_serve_l232 : Nat → Int32 → Int64 → Int64 → Int32 → Int32 → xW → Option (Unit × xW)
  | 0, _, _, _, _, _, _ => none
  | n + 1, a2, a3, a5, a7, a8, w =>
  (if a7 = 0 then sX12_serve_j463 a2 a8 w else (if a8.toInt64 < a5 then (if 0 < (w.1 0 6) then (if xin (w.1 0 5) 256 then (if xin ((a3.toInt32 - (65536 : Int32)) + a8) 65536 then (if ¬ (256 : Int32) = 0 then (sX12_serve_l232 n) a2 a3 a5 a7 (a8 + (1 : Int32)) (xwi (xwi (xwi w 2 (((a3.toInt32 - (65536 : Int32)) + a8).toNatClampNeg) (w.1 3 ((w.1 0 5).toNatClampNeg))) 0 5 (((w.1 0 5) + (1 : Int32)) - ((w.1 0 5) + (1 : Int32)) / (256 : Int32) * (256 : Int32))) 0 6 ((w.1 0 6) - (1 : Int32))) else none) else none) else none) else sX12_serve_j463 a2 a8 w) else sX12_serve_j463 a2 a8 w))
set_option maxRecDepth 20000 in
theorem tX12_serve_l232 : ∀ (n : Nat) (a2 : Int32) (a3 : Int64) (a5 : Int64) (a7 : Int32) (a8 : Int32) (w : xW), xJ ιV mX12_serve lM (0, 0) 232 [(0, .ref 0), (2, .int a2), (3, .long a3), (5, .long a5), (7, .int a7), (8, .int a8)] [] w (sX12_serve_l232 n a2 a3 a5 a7 a8 w) := by
  intro n
  induction n with
  | zero => intros; exact xj_none
  | succ n ih =>
    intro a2 a3 a5 a7 a8 w
    rw [sX12_serve_l232]
    refine xj_iload 4 dX12_serve_232 rfl ?_
    refine xj_ifeq (tgt := 463) dX12_serve_234 rfl ?_ ?_
    · refine xj_sub (lv2 := [(0, .ref 0), (2, .int a2), (8, .int a8)]) [0, 1, 5] rfl ?_
      exact tX12_serve_j463 _ _ _
    · refine xj_iload 5 dX12_serve_237 rfl ?_
      refine xj_i2l dX12_serve_239 ?_
      refine xj_lload 3 dX12_serve_240 rfl ?_
      refine xj_lge (tgt := 463) dX12_serve_242 dX12_serve_243 rfl ?_ ?_
      · refine xj_aloadn 0 dX12_serve_246 rfl rfl ?_
        refine gfX12_401 (v := (w.1 0 6)) dX12_serve_247 rfl rfl ?_
        refine xj_ifle (tgt := 463) dX12_serve_250 rfl ?_ ?_
        · refine xj_aloadn 0 dX12_serve_253 rfl rfl ?_
          refine gfX12_14 dX12_serve_254 rfl ?_
          refine xj_lloadn 2 dX12_serve_257 rfl rfl ?_
          refine xj_l2i dX12_serve_258 ?_
          refine xj_ldc (v := 65536) tw1900 dX12_serve_259 ?_
          refine xj_isub dX12_serve_261 ?_
          refine xj_iload 5 dX12_serve_262 rfl ?_
          refine xj_iadd dX12_serve_264 ?_
          refine xj_aloadn 0 dX12_serve_265 rfl rfl ?_
          refine gfX12_17 dX12_serve_266 rfl ?_
          refine xj_aloadn 0 dX12_serve_269 rfl rfl ?_
          refine gfX12_404 (v := (w.1 0 5)) dX12_serve_270 rfl rfl ?_
          refine xj_iald (k := 3) dX12_serve_273 rfl ?_
          refine xj_iast (k := 2) dX12_serve_274 rfl ?_
          refine xj_aloadn 0 dX12_serve_275 rfl rfl ?_
          refine xj_aloadn 0 dX12_serve_276 rfl rfl ?_
          refine gfX12_404 (v := (w.1 0 5)) dX12_serve_277 rfl rfl ?_
          refine xj_iconst (v := 1) dX12_serve_280 ci_1 ?_
          refine xj_iadd dX12_serve_281 ?_
          refine xj_sipush (v := 256) dX12_serve_282 cs_256 ?_
          refine xj_irem dX12_serve_285 ?_
          refine pfX12_404 dX12_serve_286 rfl ?_
          refine xj_aloadn 0 dX12_serve_289 rfl rfl ?_
          refine xj_dup dX12_serve_290 rfl ?_
          refine gfX12_401 (v := (w.1 0 6)) dX12_serve_291 rfl rfl ?_
          refine xj_iconst (v := 1) dX12_serve_294 ci_1 ?_
          refine xj_isub dX12_serve_295 ?_
          refine pfX12_401 dX12_serve_296 rfl ?_
          refine xj_iinc (n := 5) (lv2 := [(8, .int (a8 + (1 : Int32))), (0, .ref 0), (2, .int a2), (3, .long a3), (5, .long a5), (7, .int a7)]) dX12_serve_299 rfl ci_1 (Nat.le_of_ble_eq_true rfl) rfl ?_
          refine xj_goto (tgt := 232) dX12_serve_302 rfl ?_
          refine xj_sub (lv2 := [(0, .ref 0), (2, .int a2), (3, .long a3), (5, .long a5), (7, .int a7), (8, .int (a8 + (1 : Int32)))]) [1, 2, 3, 4, 5, 0] rfl ?_
          exact ih _ _ _ _ _ _
        · refine xj_sub (lv2 := [(0, .ref 0), (2, .int a2), (8, .int a8)]) [0, 1, 5] rfl ?_
          exact tX12_serve_j463 _ _ _
      · refine xj_sub (lv2 := [(0, .ref 0), (2, .int a2), (8, .int a8)]) [0, 1, 5] rfl ?_
        exact tX12_serve_j463 _ _ _
set_option maxRecDepth 20000 in
def sX12_serve_j345 (a2 : Int32) (b0 : Int32) (w : xW) : Option (Unit × xW) :=
  sX12_serve_j463 a2 b0 (xwi w 0 42 b0)
set_option maxRecDepth 20000 in
theorem tX12_serve_j345 (a2 : Int32) (b0 : Int32) (w : xW) : xJ ιV mX12_serve lM (0, 0) 345 [(0, .ref 0), (2, .int a2)] [.int b0, .ref 0] w (sX12_serve_j345 a2 b0 w) := by
  unfold sX12_serve_j345
  refine pfX12_47 dX12_serve_345 rfl ?_
  refine xj_aloadn 0 dX12_serve_348 rfl rfl ?_
  refine gfX12_47 (v := b0) dX12_serve_349 rfl rfl ?_
  refine xj_istore (lv2 := [(8, .int b0), (0, .ref 0), (2, .int a2)]) dX12_serve_352 (Nat.le_of_ble_eq_true rfl) rfl ?_
  refine xj_goto (tgt := 463) dX12_serve_354 rfl ?_
  refine xj_sub (lv2 := [(0, .ref 0), (2, .int a2), (8, .int b0)]) [1, 2, 0] rfl ?_
  exact tX12_serve_j463 _ _ _
set_option maxRecDepth 20000 in
def sX12_serve_j341 (a2 : Int32) (w : xW) : Option (Unit × xW) :=
  sX12_serve_j345 a2 (w.1 0 42) w
set_option maxRecDepth 20000 in
theorem tX12_serve_j341 (a2 : Int32) (w : xW) : xJ ιV mX12_serve lM (0, 0) 341 [(0, .ref 0), (2, .int a2)] [.ref 0] w (sX12_serve_j341 a2 w) := by
  unfold sX12_serve_j341
  refine xj_aloadn 0 dX12_serve_341 rfl rfl ?_
  refine gfX12_47 (v := (w.1 0 42)) dX12_serve_342 rfl rfl ?_
  exact tX12_serve_j345 _ _ _
set_option maxRecDepth 20000 in
def sX12_serve_j448 (a2 : Int32) (a8 : Int32) (w : xW) : Option (Unit × xW) :=
  sX12_serve_j463 a2 a8 w
set_option maxRecDepth 20000 in
theorem tX12_serve_j448 (a2 : Int32) (a8 : Int32) (w : xW) : xJ ιV mX12_serve lM (0, 0) 448 [(0, .ref 0), (2, .int a2), (8, .int a8)] [] w (sX12_serve_j448 a2 a8 w) := by
  unfold sX12_serve_j448
  refine xj_goto (tgt := 463) dX12_serve_448 rfl ?_
  exact tX12_serve_j463 _ _ _
set_option maxRecDepth 20000 in
def sX12_serve_l405 : Nat → Int32 → Int64 → Int64 → Int32 → Int32 → Int64 → xW → Option (Unit × xW)
  | 0, _, _, _, _, _, _, _ => none
  | n + 1, a2, a3, a5, a7, a8, a9, w =>
  (if a7 = 0 then sX12_serve_j448 a2 a8 w else (if a9 < a5 then (if xin ((a3 + a9).toInt32 - (65536 : Int32)) 65536 then xlet (((31 : Int32) * a8) + (w.1 2 (((a3 + a9).toInt32 - (65536 : Int32)).toNatClampNeg))) (fun x1 => (sX12_serve_l405 n) a2 a3 a5 a7 x1 (a9 + (1 : Int64)) w) else none) else sX12_serve_j448 a2 a8 w))
set_option maxRecDepth 20000 in
theorem tX12_serve_l405 : ∀ (n : Nat) (a2 : Int32) (a3 : Int64) (a5 : Int64) (a7 : Int32) (a8 : Int32) (a9 : Int64) (w : xW), xJ ιV mX12_serve lM (0, 0) 405 [(0, .ref 0), (2, .int a2), (3, .long a3), (5, .long a5), (7, .int a7), (8, .int a8), (9, .long a9)] [] w (sX12_serve_l405 n a2 a3 a5 a7 a8 a9 w) := by
  intro n
  induction n with
  | zero => intros; exact xj_none
  | succ n ih =>
    intro a2 a3 a5 a7 a8 a9 w
    rw [sX12_serve_l405]
    refine xj_iload 4 dX12_serve_405 rfl ?_
    refine xj_ifeq (tgt := 448) dX12_serve_407 rfl ?_ ?_
    · refine xj_sub (lv2 := [(0, .ref 0), (2, .int a2), (8, .int a8)]) [0, 1, 5] rfl ?_
      exact tX12_serve_j448 _ _ _
    · refine xj_lload 6 dX12_serve_410 rfl ?_
      refine xj_lload 3 dX12_serve_412 rfl ?_
      refine xj_lge (tgt := 448) dX12_serve_414 dX12_serve_415 rfl ?_ ?_
      · refine xj_bipush (v := 31) dX12_serve_418 cb_31 ?_
        refine xj_iload 5 dX12_serve_420 rfl ?_
        refine xj_imul dX12_serve_422 ?_
        refine xj_aloadn 0 dX12_serve_423 rfl rfl ?_
        refine gfX12_14 dX12_serve_424 rfl ?_
        refine xj_lloadn 2 dX12_serve_427 rfl rfl ?_
        refine xj_lload 6 dX12_serve_428 rfl ?_
        refine xj_ladd dX12_serve_430 ?_
        refine xj_l2i dX12_serve_431 ?_
        refine xj_ldc (v := 65536) tw1900 dX12_serve_432 ?_
        refine xj_isub dX12_serve_434 ?_
        refine xj_iald (k := 2) dX12_serve_435 rfl ?_
        refine xj_iadd dX12_serve_436 ?_
        refine xj_leti (fun x1 => ?_)
        refine xj_istore (lv2 := [(8, .int x1), (0, .ref 0), (2, .int a2), (3, .long a3), (5, .long a5), (7, .int a7), (9, .long a9)]) dX12_serve_437 (Nat.le_of_ble_eq_true rfl) rfl ?_
        refine xj_lload 6 dX12_serve_439 rfl ?_
        refine xj_lconst (v := 1) dX12_serve_441 cl_1 ?_
        refine xj_ladd dX12_serve_442 ?_
        refine xj_lstore (lv2 := [(9, .long (a9 + (1 : Int64))), (8, .int x1), (0, .ref 0), (2, .int a2), (3, .long a3), (5, .long a5), (7, .int a7)]) dX12_serve_443 (Nat.le_of_ble_eq_true rfl) rfl ?_
        refine xj_goto (tgt := 405) dX12_serve_445 rfl ?_
        refine xj_sub (lv2 := [(0, .ref 0), (2, .int a2), (3, .long a3), (5, .long a5), (7, .int a7), (8, .int x1), (9, .long (a9 + (1 : Int64)))]) [2, 3, 4, 5, 6, 1, 0] rfl ?_
        exact ih _ _ _ _ _ _ _
      · refine xj_sub (lv2 := [(0, .ref 0), (2, .int a2), (8, .int a8)]) [0, 1, 5] rfl ?_
        exact tX12_serve_j448 _ _ _
set_option maxRecDepth 20000 in
def sX12_serve_j96 (a1 : Int32) (a2 : Int32) (a3 : Int64) (a5 : Int64) (b0 : Int32) (w : xW) : Option (Unit × xW) :=
  xsw a1 (1) [(if b0 = 0 then sX12_serve_l157 70000 a2 a3 a5 b0 (-14 : Int32) w else sX12_serve_l157 70000 a2 a3 a5 b0 (0 : Int32) w), (if b0 = 0 then sX12_serve_l232 70000 a2 a3 a5 b0 (-14 : Int32) w else sX12_serve_l232 70000 a2 a3 a5 b0 (0 : Int32) w), sX12_serve_j463 a2 ((w.2 0 44).toInt32) w, (if a3 < (65536 : Int64) then sX12_serve_j341 a2 w else (if a3 < (131072 : Int64) then (if xin (3 : Int32) 8 then sX12_serve_j345 a2 (w.1 9 ((3 : Int32).toNatClampNeg)) w else none) else sX12_serve_j341 a2 w)), xlet ((xushr (((w.1 0 43) * (1103515245 : Int32)) + (12345 : Int32)) (16 : Int32)) &&& (32767 : Int32)) (fun x1 => sX12_serve_j463 a2 x1 (xwi w 0 43 (((w.1 0 43) * (1103515245 : Int32)) + (12345 : Int32)))), (if b0 = 0 then sX12_serve_l405 70000 a2 a3 a5 b0 (-14 : Int32) (0 : Int64) w else sX12_serve_l405 70000 a2 a3 a5 b0 (0 : Int32) (0 : Int64) w), sX12_serve_j463 a2 (0 : Int32) (xwi w 0 33 (7 : Int32))] (sX12_serve_j463 a2 (-38 : Int32) w)
set_option maxRecDepth 20000 in
theorem tX12_serve_j96 (a1 : Int32) (a2 : Int32) (a3 : Int64) (a5 : Int64) (b0 : Int32) (w : xW) : xJ ιV mX12_serve lM (0, 0) 96 [(0, .ref 0), (1, .int a1), (2, .int a2), (3, .long a3), (5, .long a5)] [.int b0] w (sX12_serve_j96 a1 a2 a3 a5 b0 w) := by
  unfold sX12_serve_j96
  refine xj_istore (lv2 := [(7, .int b0), (0, .ref 0), (1, .int a1), (2, .int a2), (3, .long a3), (5, .long a5)]) dX12_serve_96 (Nat.le_of_ble_eq_true rfl) rfl ?_
  refine xj_bipush (v := -38) dX12_serve_98 cb_m38 ?_
  refine xj_istore (lv2 := [(8, .int (-38 : Int32)), (7, .int b0), (0, .ref 0), (1, .int a1), (2, .int a2), (3, .long a3), (5, .long a5)]) dX12_serve_100 (Nat.le_of_ble_eq_true rfl) rfl ?_
  refine xj_iloadn 3 dX12_serve_102 rfl rfl ?_
  refine xj_tsw (tgtd := 463) [144, 219, 305, 315, 357, 389, 451] dX12_serve_103 rfl rfl rfl rfl ?_ ⟨?_, ?_, ?_, ?_, ?_, ?_, ?_, trivial⟩
  · refine xj_sub (lv2 := [(0, .ref 0), (2, .int a2), (8, .int (-38 : Int32))]) [2, 4, 0] rfl ?_
    exact tX12_serve_j463 _ _ _
  · refine xj_iload 1 dX12_serve_144 rfl ?_
    refine xj_ifeq (tgt := 153) dX12_serve_146 rfl ?_ ?_
    · refine xj_bipush (v := -14) dX12_serve_153 cb_m14 ?_
      refine xj_istore (lv2 := [(8, .int (-14 : Int32)), (7, .int b0), (0, .ref 0), (1, .int a1), (2, .int a2), (3, .long a3), (5, .long a5)]) dX12_serve_155 (Nat.le_of_ble_eq_true rfl) rfl ?_
      refine xj_sub (lv2 := [(0, .ref 0), (2, .int a2), (3, .long a3), (5, .long a5), (7, .int b0), (8, .int (-14 : Int32))]) [2, 4, 5, 6, 1, 0] rfl ?_
      exact tX12_serve_l157 _ _ _ _ _ _ _
    · refine xj_iconst (v := 0) dX12_serve_149 ci_0 ?_
      refine xj_goto (tgt := 155) dX12_serve_150 rfl ?_
      refine xj_istore (lv2 := [(8, .int (0 : Int32)), (7, .int b0), (0, .ref 0), (1, .int a1), (2, .int a2), (3, .long a3), (5, .long a5)]) dX12_serve_155 (Nat.le_of_ble_eq_true rfl) rfl ?_
      refine xj_sub (lv2 := [(0, .ref 0), (2, .int a2), (3, .long a3), (5, .long a5), (7, .int b0), (8, .int (0 : Int32))]) [2, 4, 5, 6, 1, 0] rfl ?_
      exact tX12_serve_l157 _ _ _ _ _ _ _
  · refine xj_iload 1 dX12_serve_219 rfl ?_
    refine xj_ifeq (tgt := 228) dX12_serve_221 rfl ?_ ?_
    · refine xj_bipush (v := -14) dX12_serve_228 cb_m14 ?_
      refine xj_istore (lv2 := [(8, .int (-14 : Int32)), (7, .int b0), (0, .ref 0), (1, .int a1), (2, .int a2), (3, .long a3), (5, .long a5)]) dX12_serve_230 (Nat.le_of_ble_eq_true rfl) rfl ?_
      refine xj_sub (lv2 := [(0, .ref 0), (2, .int a2), (3, .long a3), (5, .long a5), (7, .int b0), (8, .int (-14 : Int32))]) [2, 4, 5, 6, 1, 0] rfl ?_
      exact tX12_serve_l232 _ _ _ _ _ _ _
    · refine xj_iconst (v := 0) dX12_serve_224 ci_0 ?_
      refine xj_goto (tgt := 230) dX12_serve_225 rfl ?_
      refine xj_istore (lv2 := [(8, .int (0 : Int32)), (7, .int b0), (0, .ref 0), (1, .int a1), (2, .int a2), (3, .long a3), (5, .long a5)]) dX12_serve_230 (Nat.le_of_ble_eq_true rfl) rfl ?_
      refine xj_sub (lv2 := [(0, .ref 0), (2, .int a2), (3, .long a3), (5, .long a5), (7, .int b0), (8, .int (0 : Int32))]) [2, 4, 5, 6, 1, 0] rfl ?_
      exact tX12_serve_l232 _ _ _ _ _ _ _
  · refine xj_aloadn 2 dX12_serve_305 rfl rfl ?_
    refine gfX12_407 (v := (w.2 0 44)) dX12_serve_306 rfl rfl ?_
    refine xj_l2i dX12_serve_309 ?_
    refine xj_istore (lv2 := [(8, .int ((w.2 0 44).toInt32)), (7, .int b0), (0, .ref 0), (1, .int a1), (2, .int a2), (3, .long a3), (5, .long a5)]) dX12_serve_310 (Nat.le_of_ble_eq_true rfl) rfl ?_
    refine xj_goto (tgt := 463) dX12_serve_312 rfl ?_
    refine xj_sub (lv2 := [(0, .ref 0), (2, .int a2), (8, .int ((w.2 0 44).toInt32))]) [2, 4, 0] rfl ?_
    exact tX12_serve_j463 _ _ _
  · refine xj_aloadn 2 dX12_serve_315 rfl rfl ?_
    refine xj_lloadn 5 dX12_serve_316 rfl rfl ?_
    refine xj_ldc2 (v := 65536) tw2158 dX12_serve_317 ?_
    refine xj_llt (tgt := 341) dX12_serve_320 dX12_serve_321 rfl ?_ ?_
    · refine xj_sub (lv2 := [(0, .ref 0), (2, .int a2)]) [2, 4] rfl ?_
      exact tX12_serve_j341 _ _
    · refine xj_lloadn 5 dX12_serve_324 rfl rfl ?_
      refine xj_ldc2 (v := 131072) tw2159 dX12_serve_325 ?_
      refine xj_lge (tgt := 341) dX12_serve_328 dX12_serve_329 rfl ?_ ?_
      · refine xj_aloadn 2 dX12_serve_332 rfl rfl ?_
        refine gfX12_44 dX12_serve_333 rfl ?_
        refine xj_iconst (v := 3) dX12_serve_336 ci_3 ?_
        refine xj_iald (k := 9) dX12_serve_337 rfl ?_
        refine xj_goto (tgt := 345) dX12_serve_338 rfl ?_
        refine xj_sub (lv2 := [(0, .ref 0), (2, .int a2)]) [2, 4] rfl ?_
        exact tX12_serve_j345 _ _ _
      · refine xj_sub (lv2 := [(0, .ref 0), (2, .int a2)]) [2, 4] rfl ?_
        exact tX12_serve_j341 _ _
  · refine xj_aloadn 2 dX12_serve_357 rfl rfl ?_
    refine xj_aloadn 2 dX12_serve_358 rfl rfl ?_
    refine gfX12_411 (v := (w.1 0 43)) dX12_serve_359 rfl rfl ?_
    refine xj_ldcw (v := 1103515245) tw2285 dX12_serve_362 ?_
    refine xj_imul dX12_serve_365 ?_
    refine xj_sipush (v := 12345) dX12_serve_366 cs_12345 ?_
    refine xj_iadd dX12_serve_369 ?_
    refine pfX12_411 dX12_serve_370 rfl ?_
    refine xj_aloadn 2 dX12_serve_373 rfl rfl ?_
    refine gfX12_411 (v := (((w.1 0 43) * (1103515245 : Int32)) + (12345 : Int32))) dX12_serve_374 rfl rfl ?_
    refine xj_bipush (v := 16) dX12_serve_377 cb_16 ?_
    refine xj_iushr dX12_serve_379 ?_
    refine xj_sipush (v := 32767) dX12_serve_380 cs_32767 ?_
    refine xj_iand dX12_serve_383 ?_
    refine xj_leti (fun x1 => ?_)
    refine xj_istore (lv2 := [(8, .int x1), (7, .int b0), (0, .ref 0), (1, .int a1), (2, .int a2), (3, .long a3), (5, .long a5)]) dX12_serve_384 (Nat.le_of_ble_eq_true rfl) rfl ?_
    refine xj_goto (tgt := 463) dX12_serve_386 rfl ?_
    refine xj_sub (lv2 := [(0, .ref 0), (2, .int a2), (8, .int x1)]) [2, 4, 0] rfl ?_
    exact tX12_serve_j463 _ _ _
  · refine xj_iload 1 dX12_serve_389 rfl ?_
    refine xj_ifeq (tgt := 398) dX12_serve_391 rfl ?_ ?_
    · refine xj_bipush (v := -14) dX12_serve_398 cb_m14 ?_
      refine xj_istore (lv2 := [(8, .int (-14 : Int32)), (7, .int b0), (0, .ref 0), (1, .int a1), (2, .int a2), (3, .long a3), (5, .long a5)]) dX12_serve_400 (Nat.le_of_ble_eq_true rfl) rfl ?_
      refine xj_lconst (v := 0) dX12_serve_402 cl_0 ?_
      refine xj_lstore (lv2 := [(9, .long (0 : Int64)), (8, .int (-14 : Int32)), (7, .int b0), (0, .ref 0), (1, .int a1), (2, .int a2), (3, .long a3), (5, .long a5)]) dX12_serve_403 (Nat.le_of_ble_eq_true rfl) rfl ?_
      refine xj_sub (lv2 := [(0, .ref 0), (2, .int a2), (3, .long a3), (5, .long a5), (7, .int b0), (8, .int (-14 : Int32)), (9, .long (0 : Int64))]) [3, 5, 6, 7, 2, 1, 0] rfl ?_
      exact tX12_serve_l405 _ _ _ _ _ _ _ _
    · refine xj_iconst (v := 0) dX12_serve_394 ci_0 ?_
      refine xj_goto (tgt := 400) dX12_serve_395 rfl ?_
      refine xj_istore (lv2 := [(8, .int (0 : Int32)), (7, .int b0), (0, .ref 0), (1, .int a1), (2, .int a2), (3, .long a3), (5, .long a5)]) dX12_serve_400 (Nat.le_of_ble_eq_true rfl) rfl ?_
      refine xj_lconst (v := 0) dX12_serve_402 cl_0 ?_
      refine xj_lstore (lv2 := [(9, .long (0 : Int64)), (8, .int (0 : Int32)), (7, .int b0), (0, .ref 0), (1, .int a1), (2, .int a2), (3, .long a3), (5, .long a5)]) dX12_serve_403 (Nat.le_of_ble_eq_true rfl) rfl ?_
      refine xj_sub (lv2 := [(0, .ref 0), (2, .int a2), (3, .long a3), (5, .long a5), (7, .int b0), (8, .int (0 : Int32)), (9, .long (0 : Int64))]) [3, 5, 6, 7, 2, 1, 0] rfl ?_
      exact tX12_serve_l405 _ _ _ _ _ _ _ _
  · refine xj_iconst (v := 0) dX12_serve_451 ci_0 ?_
    refine xj_istore (lv2 := [(8, .int (0 : Int32)), (7, .int b0), (0, .ref 0), (1, .int a1), (2, .int a2), (3, .long a3), (5, .long a5)]) dX12_serve_452 (Nat.le_of_ble_eq_true rfl) rfl ?_
    refine xj_aloadn 2 dX12_serve_454 rfl rfl ?_
    refine xj_bipush (v := 7) dX12_serve_455 cb_7 ?_
    refine pfX12_395 dX12_serve_457 rfl ?_
    refine xj_goto (tgt := 463) dX12_serve_460 rfl ?_
    refine xj_sub (lv2 := [(0, .ref 0), (2, .int a2), (8, .int (0 : Int32))]) [2, 4, 0] rfl ?_
    exact tX12_serve_j463 _ _ _
set_option maxRecDepth 20000 in
def sX12_serve_j91 (a1 : Int32) (a2 : Int32) (a3 : Int64) (a5 : Int64) (w : xW) : Option (Unit × xW) :=
  sX12_serve_j96 a1 a2 a3 a5 (1 : Int32) w
set_option maxRecDepth 20000 in
theorem tX12_serve_j91 (a1 : Int32) (a2 : Int32) (a3 : Int64) (a5 : Int64) (w : xW) : xJ ιV mX12_serve lM (0, 0) 91 [(0, .ref 0), (1, .int a1), (2, .int a2), (3, .long a3), (5, .long a5)] [] w (sX12_serve_j91 a1 a2 a3 a5 w) := by
  unfold sX12_serve_j91
  refine xj_iconst (v := 1) dX12_serve_91 ci_1 ?_
  refine xj_goto (tgt := 96) dX12_serve_92 rfl ?_
  exact tX12_serve_j96 _ _ _ _ _ _
set_option maxRecDepth 20000 in
def sX12_serve_j95 (a1 : Int32) (a2 : Int32) (a3 : Int64) (a5 : Int64) (w : xW) : Option (Unit × xW) :=
  sX12_serve_j96 a1 a2 a3 a5 (0 : Int32) w
set_option maxRecDepth 20000 in
theorem tX12_serve_j95 (a1 : Int32) (a2 : Int32) (a3 : Int64) (a5 : Int64) (w : xW) : xJ ιV mX12_serve lM (0, 0) 95 [(0, .ref 0), (1, .int a1), (2, .int a2), (3, .long a3), (5, .long a5)] [] w (sX12_serve_j95 a1 a2 a3 a5 w) := by
  unfold sX12_serve_j95
  refine xj_iconst (v := 0) dX12_serve_95 ci_0 ?_
  exact tX12_serve_j96 _ _ _ _ _ _
set_option maxRecDepth 20000 in
def sX12_serve (p1 : Int32) (w : xW) : Option (Unit × xW) :=
  (if p1 = 0 then (if xin (3 : Int32) 8 then some ((), (xwi (xwi w 0 41 (w.1 9 ((3 : Int32).toNatClampNeg))) 0 33 (2 : Int32))) else none) else (if xin (4 : Int32) 8 then xbd (sX12_read (w.1 9 ((4 : Int32).toNatClampNeg)) (4 : Int32) w) (fun x1 w2 => (if (w2.1 0 45) = 0 then (if xin (3 : Int32) 8 then xlet ((w2.1 9 ((3 : Int32).toNatClampNeg)).toInt64 &&& (4294967295 : Int64)) (fun x3 => (if xin (1 : Int32) 8 then xlet ((w2.1 9 ((1 : Int32).toNatClampNeg)).toInt64 &&& (4294967295 : Int64)) (fun x4 => (if x4 = (0 : Int64) then sX12_serve_j91 p1 x1 x3 x4 w2 else (if x3 < (65536 : Int64) then sX12_serve_j95 p1 x1 x3 x4 w2 else (if (131072 : Int64) < (x3 + x4) then sX12_serve_j95 p1 x1 x3 x4 w2 else sX12_serve_j91 p1 x1 x3 x4 w2)))) else none)) else none) else some ((), w2))) else none))
set_option maxRecDepth 20000 in
theorem tX12_serve (p1 : Int32) (w : xW) : xJ ιV mX12_serve lM (0, 0) 0 [(0, .ref 0), (1, .int p1)] [] w (sX12_serve p1 w) := by
  unfold sX12_serve
  refine xj_iloadn 1 dX12_serve_0 rfl rfl ?_
  refine xj_ifne (tgt := 20) dX12_serve_1 rfl ?_ ?_
  · refine xj_aloadn 0 dX12_serve_4 rfl rfl ?_
    refine xj_aloadn 0 dX12_serve_5 rfl rfl ?_
    refine gfX12_44 dX12_serve_6 rfl ?_
    refine xj_iconst (v := 3) dX12_serve_9 ci_3 ?_
    refine xj_iald (k := 9) dX12_serve_10 rfl ?_
    refine pfX12_392 dX12_serve_11 rfl ?_
    refine xj_aloadn 0 dX12_serve_14 rfl rfl ?_
    refine xj_iconst (v := 2) dX12_serve_15 ci_2 ?_
    refine pfX12_395 dX12_serve_16 rfl ?_
    exact xj_rv dX12_serve_19 rfl
  · refine xj_aloadn 0 dX12_serve_20 rfl rfl ?_
    refine xj_aloadn 0 dX12_serve_21 rfl rfl ?_
    refine gfX12_44 dX12_serve_22 rfl ?_
    refine xj_iconst (v := 4) dX12_serve_25 ci_4 ?_
    refine xj_iald (k := 9) dX12_serve_26 rfl ?_
    refine xj_iconst (v := 4) dX12_serve_27 ci_4 ?_
    refine xj_cVi (argv := [.int (w.1 9 ((4 : Int32).toNatClampNeg)), .int (4 : Int32)]) (rest := []) dX12_serve_28 (kX12_read (w.1 9 ((4 : Int32).toNatClampNeg)) (4 : Int32) w) mkX12_read tw2281 rfl rfl rfl rfl rfl rfl (fun x1 w2 => ?_)
    refine xj_istoren (lv2 := [(2, .int x1), (0, .ref 0), (1, .int p1)]) dX12_serve_31 rfl (Nat.le_of_ble_eq_true rfl) rfl ?_
    refine xj_aloadn 1 dX12_serve_32 rfl rfl ?_
    refine gfX12_272 (v := (w2.1 0 45)) dX12_serve_33 rfl rfl ?_
    refine xj_ifeq (tgt := 40) dX12_serve_36 rfl ?_ ?_
    · refine xj_aloadn 1 dX12_serve_40 rfl rfl ?_
      refine gfX12_44 dX12_serve_41 rfl ?_
      refine xj_iconst (v := 3) dX12_serve_44 ci_3 ?_
      refine xj_iald (k := 9) dX12_serve_45 rfl ?_
      refine xj_i2l dX12_serve_46 ?_
      refine xj_ldc2 (v := 4294967295) tw2157 dX12_serve_47 ?_
      refine xj_land dX12_serve_50 ?_
      refine xj_letl (fun x3 => ?_)
      refine xj_lstoren (lv2 := [(3, .long x3), (2, .int x1), (0, .ref 0), (1, .int p1)]) dX12_serve_51 rfl (Nat.le_of_ble_eq_true rfl) rfl ?_
      refine xj_aloadn 2 dX12_serve_52 rfl rfl ?_
      refine gfX12_44 dX12_serve_53 rfl ?_
      refine xj_iconst (v := 1) dX12_serve_56 ci_1 ?_
      refine xj_iald (k := 9) dX12_serve_57 rfl ?_
      refine xj_i2l dX12_serve_58 ?_
      refine xj_ldc2 (v := 4294967295) tw2157 dX12_serve_59 ?_
      refine xj_land dX12_serve_62 ?_
      refine xj_letl (fun x4 => ?_)
      refine xj_lstore (lv2 := [(5, .long x4), (3, .long x3), (2, .int x1), (0, .ref 0), (1, .int p1)]) dX12_serve_63 (Nat.le_of_ble_eq_true rfl) rfl ?_
      refine xj_lload 0 dX12_serve_65 rfl ?_
      refine xj_lconst (v := 0) dX12_serve_67 cl_0 ?_
      refine xj_leq (tgt := 91) dX12_serve_68 dX12_serve_69 rfl ?_ ?_
      · refine xj_sub (lv2 := [(0, .ref 0), (1, .int p1), (2, .int x1), (3, .long x3), (5, .long x4)]) [3, 4, 2, 1, 0] rfl ?_
        exact tX12_serve_j91 _ _ _ _ _
      · refine xj_lloadn 1 dX12_serve_72 rfl rfl ?_
        refine xj_ldc2 (v := 65536) tw2158 dX12_serve_73 ?_
        refine xj_llt (tgt := 95) dX12_serve_76 dX12_serve_77 rfl ?_ ?_
        · refine xj_sub (lv2 := [(0, .ref 0), (1, .int p1), (2, .int x1), (3, .long x3), (5, .long x4)]) [3, 4, 2, 1, 0] rfl ?_
          exact tX12_serve_j95 _ _ _ _ _
        · refine xj_lloadn 1 dX12_serve_80 rfl rfl ?_
          refine xj_lload 0 dX12_serve_81 rfl ?_
          refine xj_ladd dX12_serve_83 ?_
          refine xj_ldc2 (v := 131072) tw2159 dX12_serve_84 ?_
          refine xj_lgt (tgt := 95) dX12_serve_87 dX12_serve_88 rfl ?_ ?_
          · refine xj_sub (lv2 := [(0, .ref 0), (1, .int p1), (2, .int x1), (3, .long x3), (5, .long x4)]) [3, 4, 2, 1, 0] rfl ?_
            exact tX12_serve_j95 _ _ _ _ _
          · refine xj_sub (lv2 := [(0, .ref 0), (1, .int p1), (2, .int x1), (3, .long x3), (5, .long x4)]) [3, 4, 2, 1, 0] rfl ?_
            exact tX12_serve_j91 _ _ _ _ _
    · exact xj_rv dX12_serve_39 rfl
theorem kX12_serve (p1 : Int32) (w : xW) : xMet jV mX12_serve lM (0, 0) [.ref 0, .int p1] w (sX12_serve p1 w) := xj_met lM_ok (by decide) (Nat.le_of_ble_eq_true rfl) (Nat.zero_le _) (Nat.zero_le _) (tX12_serve p1 w)
set_option maxRecDepth 20000 in
def sX12_step_l250 : Nat → Int32 → Int32 → Int32 → Int32 → Int32 → Int32 → Int32 → xW → Option (Int32 × xW)
  | 0, _, _, _, _, _, _, _, _ => none
  | n + 1, a3, a4, a5, a6, a7, a8, a10, w =>
  (if a10 < (8 : Int32) then (if xin a10 8 then (if xin a10 8 then (sX12_step_l250 n) a3 a4 a5 a6 a7 a8 (a10 + (1 : Int32)) (xwi w 9 a10.toNatClampNeg (w.1 10 a10.toNatClampNeg)) else none) else none) else (if xz a3 then (if xz a4 then (if xz a5 then (if xz a6 then (if xz a7 then some ((0 : Int32), (xwi (xwi (xwi (xwi (xwi (xwi (xwi w 0 36 a3) 0 37 a4) 0 38 a5) 0 39 a6) 0 40 a7) 0 34 a8) 0 33 (w.1 0 45))) else none) else none) else none) else none) else none))
set_option maxRecDepth 20000 in
theorem tX12_step_l250 : ∀ (n : Nat) (a3 : Int32) (a4 : Int32) (a5 : Int32) (a6 : Int32) (a7 : Int32) (a8 : Int32) (a10 : Int32) (w : xW), xJ ιI mX12_step lM (0, 0) 250 [(0, .ref 0), (3, .int a3), (4, .int a4), (5, .int a5), (6, .int a6), (7, .int a7), (8, .int a8), (10, .int a10)] [] w (sX12_step_l250 n a3 a4 a5 a6 a7 a8 a10 w) := by
  intro n
  induction n with
  | zero => intros; exact xj_none
  | succ n ih =>
    intro a3 a4 a5 a6 a7 a8 a10 w
    rw [sX12_step_l250]
    refine xj_iload 7 dX12_step_250 rfl ?_
    refine xj_bipush (v := 8) dX12_step_252 cb_8 ?_
    refine xj_ige (tgt := 277) dX12_step_254 rfl ?_ ?_
    · refine xj_aloadn 0 dX12_step_257 rfl rfl ?_
      refine gfX12_44 dX12_step_258 rfl ?_
      refine xj_iload 7 dX12_step_261 rfl ?_
      refine xj_aloadn 0 dX12_step_263 rfl rfl ?_
      refine gfX12_50 dX12_step_264 rfl ?_
      refine xj_iload 7 dX12_step_267 rfl ?_
      refine xj_iald (k := 10) dX12_step_269 rfl ?_
      refine xj_iast (k := 9) dX12_step_270 rfl ?_
      refine xj_iinc (n := 7) (lv2 := [(10, .int (a10 + (1 : Int32))), (0, .ref 0), (3, .int a3), (4, .int a4), (5, .int a5), (6, .int a6), (7, .int a7), (8, .int a8)]) dX12_step_271 rfl ci_1 (Nat.le_of_ble_eq_true rfl) rfl ?_
      refine xj_goto (tgt := 250) dX12_step_274 rfl ?_
      refine xj_sub (lv2 := [(0, .ref 0), (3, .int a3), (4, .int a4), (5, .int a5), (6, .int a6), (7, .int a7), (8, .int a8), (10, .int (a10 + (1 : Int32)))]) [1, 2, 3, 4, 5, 6, 7, 0] rfl ?_
      exact ih _ _ _ _ _ _ _ _
    · refine xj_aloadn 0 dX12_step_277 rfl rfl ?_
      refine xj_iloadn 1 dX12_step_278 rfl rfl ?_
      refine xj_guard (fun hz => ?_)
      refine pfX12_320 dX12_step_279 rfl hz ?_
      refine xj_aloadn 0 dX12_step_282 rfl rfl ?_
      refine xj_iload 2 dX12_step_283 rfl ?_
      refine xj_guard (fun hz => ?_)
      refine pfX12_317 dX12_step_285 rfl hz ?_
      refine xj_aloadn 0 dX12_step_288 rfl rfl ?_
      refine xj_iload 3 dX12_step_289 rfl ?_
      refine xj_guard (fun hz => ?_)
      refine pfX12_307 dX12_step_291 rfl hz ?_
      refine xj_aloadn 0 dX12_step_294 rfl rfl ?_
      refine xj_iload 4 dX12_step_295 rfl ?_
      refine xj_guard (fun hz => ?_)
      refine pfX12_314 dX12_step_297 rfl hz ?_
      refine xj_aloadn 0 dX12_step_300 rfl rfl ?_
      refine xj_iload 5 dX12_step_301 rfl ?_
      refine xj_guard (fun hz => ?_)
      refine pfX12_323 dX12_step_303 rfl hz ?_
      refine xj_aloadn 0 dX12_step_306 rfl rfl ?_
      refine xj_iload 6 dX12_step_307 rfl ?_
      refine pfX12_40 dX12_step_309 rfl ?_
      refine xj_aloadn 0 dX12_step_312 rfl rfl ?_
      refine xj_aloadn 0 dX12_step_313 rfl rfl ?_
      refine gfX12_272 (v := (w.1 0 45)) dX12_step_314 rfl rfl ?_
      refine pfX12_395 dX12_step_317 rfl ?_
      refine xj_iconst (v := 0) dX12_step_320 ci_0 ?_
      exact xj_rz dX12_step_321 rfl (Or.inl rfl)
set_option maxRecDepth 20000 in
def sX12_step_j212 (a3 : Int32) (a4 : Int32) (a5 : Int32) (a6 : Int32) (a7 : Int32) (a8 : Int32) (a9 : Int32) (w : xW) : Option (Int32 × xW) :=
  (if (w.1 0 45) = 0 then (if a9 < 0 then some ((1 : Int32), (xwl w 0 44 ((w.2 0 44) + (1 : Int64)))) else (if xin a9 2048 then (if xin a9 2048 then some ((1 : Int32), (xwi (xwl w 0 44 ((w.2 0 44) + (1 : Int64))) 6 a9.toNatClampNeg ((w.1 6 a9.toNatClampNeg) + (1 : Int32)))) else none) else none)) else sX12_step_l250 70000 a3 a4 a5 a6 a7 a8 (0 : Int32) w)
set_option maxRecDepth 20000 in
theorem tX12_step_j212 (a3 : Int32) (a4 : Int32) (a5 : Int32) (a6 : Int32) (a7 : Int32) (a8 : Int32) (a9 : Int32) (w : xW) : xJ ιI mX12_step lM (0, 0) 212 [(0, .ref 0), (3, .int a3), (4, .int a4), (5, .int a5), (6, .int a6), (7, .int a7), (8, .int a8), (9, .int a9)] [] w (sX12_step_j212 a3 a4 a5 a6 a7 a8 a9 w) := by
  unfold sX12_step_j212
  refine xj_aloadn 0 dX12_step_212 rfl rfl ?_
  refine gfX12_272 (v := (w.1 0 45)) dX12_step_213 rfl rfl ?_
  refine xj_ifne (tgt := 247) dX12_step_216 rfl ?_ ?_
  · refine xj_aloadn 0 dX12_step_219 rfl rfl ?_
    refine xj_dup dX12_step_220 rfl ?_
    refine gfX12_407 (v := (w.2 0 44)) dX12_step_221 rfl rfl ?_
    refine xj_lconst (v := 1) dX12_step_224 cl_1 ?_
    refine xj_ladd dX12_step_225 ?_
    refine pfX12_407 dX12_step_226 rfl ?_
    refine xj_iload 7 dX12_step_229 rfl ?_
    refine xj_iflt (tgt := 245) dX12_step_231 rfl ?_ ?_
    · refine xj_iconst (v := 1) dX12_step_245 ci_1 ?_
      exact xj_rz dX12_step_246 rfl (Or.inr rfl)
    · refine xj_aloadn 0 dX12_step_234 rfl rfl ?_
      refine gfX12_30 dX12_step_235 rfl ?_
      refine xj_iload 7 dX12_step_238 rfl ?_
      refine xj_dup2 dX12_step_240 rfl rfl ?_
      refine xj_iald (k := 6) dX12_step_241 rfl ?_
      refine xj_iconst (v := 1) dX12_step_242 ci_1 ?_
      refine xj_iadd dX12_step_243 ?_
      refine xj_iast (k := 6) dX12_step_244 rfl ?_
      refine xj_iconst (v := 1) dX12_step_245 ci_1 ?_
      exact xj_rz dX12_step_246 rfl (Or.inr rfl)
  · refine xj_iconst (v := 0) dX12_step_247 ci_0 ?_
    refine xj_istore (lv2 := [(10, .int (0 : Int32)), (0, .ref 0), (3, .int a3), (4, .int a4), (5, .int a5), (6, .int a6), (7, .int a7), (8, .int a8), (9, .int a9)]) dX12_step_248 (Nat.le_of_ble_eq_true rfl) rfl ?_
    refine xj_sub (lv2 := [(0, .ref 0), (3, .int a3), (4, .int a4), (5, .int a5), (6, .int a6), (7, .int a7), (8, .int a8), (10, .int (0 : Int32))]) [1, 2, 3, 4, 5, 6, 7, 0] rfl ?_
    exact tX12_step_l250 _ _ _ _ _ _ _ _ _
set_option maxRecDepth 20000 in
def sX12_step_j129 (a3 : Int32) (a4 : Int32) (a5 : Int32) (a6 : Int32) (a7 : Int32) (a8 : Int32) (a9 : Int32) (w : xW) : Option (Int32 × xW) :=
  sX12_step_j212 a3 a4 a5 a6 a7 a8 a9 (xwi w 0 45 (5 : Int32))
set_option maxRecDepth 20000 in
theorem tX12_step_j129 (a3 : Int32) (a4 : Int32) (a5 : Int32) (a6 : Int32) (a7 : Int32) (a8 : Int32) (a9 : Int32) (w : xW) : xJ ιI mX12_step lM (0, 0) 129 [(0, .ref 0), (3, .int a3), (4, .int a4), (5, .int a5), (6, .int a6), (7, .int a7), (8, .int a8), (9, .int a9)] [] w (sX12_step_j129 a3 a4 a5 a6 a7 a8 a9 w) := by
  unfold sX12_step_j129
  refine xj_aloadn 0 dX12_step_129 rfl rfl ?_
  refine xj_iconst (v := 5) dX12_step_130 ci_5 ?_
  refine pfX12_272 dX12_step_131 rfl ?_
  refine xj_goto (tgt := 212) dX12_step_134 rfl ?_
  exact tX12_step_j212 _ _ _ _ _ _ _ _
set_option maxRecDepth 20000 in
def sX12_step_j171 (a3 : Int32) (a4 : Int32) (a5 : Int32) (a6 : Int32) (a7 : Int32) (a8 : Int32) (a9 : Int32) (w : xW) : Option (Int32 × xW) :=
  sX12_step_j212 a3 a4 a5 a6 a7 a8 a9 (xwi w 0 45 (6 : Int32))
set_option maxRecDepth 20000 in
theorem tX12_step_j171 (a3 : Int32) (a4 : Int32) (a5 : Int32) (a6 : Int32) (a7 : Int32) (a8 : Int32) (a9 : Int32) (w : xW) : xJ ιI mX12_step lM (0, 0) 171 [(0, .ref 0), (3, .int a3), (4, .int a4), (5, .int a5), (6, .int a6), (7, .int a7), (8, .int a8), (9, .int a9)] [] w (sX12_step_j171 a3 a4 a5 a6 a7 a8 a9 w) := by
  unfold sX12_step_j171
  refine xj_aloadn 0 dX12_step_171 rfl rfl ?_
  refine xj_bipush (v := 6) dX12_step_172 cb_6 ?_
  refine pfX12_272 dX12_step_174 rfl ?_
  refine xj_goto (tgt := 212) dX12_step_177 rfl ?_
  exact tX12_step_j212 _ _ _ _ _ _ _ _
set_option maxRecDepth 20000 in
def sX12_step_j209 (a3 : Int32) (a4 : Int32) (a5 : Int32) (a6 : Int32) (a7 : Int32) (a8 : Int32) (a9 : Int32) (b0 : Int32) (w : xW) : Option (Int32 × xW) :=
  sX12_step_j212 a3 a4 a5 a6 a7 a8 a9 (xwi w 0 33 b0)
set_option maxRecDepth 20000 in
theorem tX12_step_j209 (a3 : Int32) (a4 : Int32) (a5 : Int32) (a6 : Int32) (a7 : Int32) (a8 : Int32) (a9 : Int32) (b0 : Int32) (w : xW) : xJ ιI mX12_step lM (0, 0) 209 [(0, .ref 0), (3, .int a3), (4, .int a4), (5, .int a5), (6, .int a6), (7, .int a7), (8, .int a8), (9, .int a9)] [.int b0, .ref 0] w (sX12_step_j209 a3 a4 a5 a6 a7 a8 a9 b0 w) := by
  unfold sX12_step_j209
  refine pfX12_395 dX12_step_209 rfl ?_
  exact tX12_step_j212 _ _ _ _ _ _ _ _
set_option maxRecDepth 20000 in
def sX12_step_j205 (a3 : Int32) (a4 : Int32) (a5 : Int32) (a6 : Int32) (a7 : Int32) (a8 : Int32) (a9 : Int32) (w : xW) : Option (Int32 × xW) :=
  sX12_step_j209 a3 a4 a5 a6 a7 a8 a9 (w.1 0 33) w
set_option maxRecDepth 20000 in
theorem tX12_step_j205 (a3 : Int32) (a4 : Int32) (a5 : Int32) (a6 : Int32) (a7 : Int32) (a8 : Int32) (a9 : Int32) (w : xW) : xJ ιI mX12_step lM (0, 0) 205 [(0, .ref 0), (3, .int a3), (4, .int a4), (5, .int a5), (6, .int a6), (7, .int a7), (8, .int a8), (9, .int a9)] [.ref 0] w (sX12_step_j205 a3 a4 a5 a6 a7 a8 a9 w) := by
  unfold sX12_step_j205
  refine xj_aloadn 0 dX12_step_205 rfl rfl ?_
  refine gfX12_395 (v := (w.1 0 33)) dX12_step_206 rfl rfl ?_
  exact tX12_step_j209 _ _ _ _ _ _ _ _ _
set_option maxRecDepth 20000 in
def sX12_step_j180 (a3 : Int32) (a4 : Int32) (a5 : Int32) (a6 : Int32) (a7 : Int32) (a8 : Int32) (a9 : Int32) (w : xW) : Option (Int32 × xW) :=
  xbd (sX12_doOne w) (fun _ w1 => (if (w1.1 0 45) = 0 then (if (w1.1 0 17) = (32 : Int32) then sX12_step_j209 a3 a4 a5 a6 a7 a8 a9 (3 : Int32) w1 else sX12_step_j205 a3 a4 a5 a6 a7 a8 a9 w1) else sX12_step_j205 a3 a4 a5 a6 a7 a8 a9 w1))
set_option maxRecDepth 20000 in
theorem tX12_step_j180 (a3 : Int32) (a4 : Int32) (a5 : Int32) (a6 : Int32) (a7 : Int32) (a8 : Int32) (a9 : Int32) (w : xW) : xJ ιI mX12_step lM (0, 0) 180 [(0, .ref 0), (3, .int a3), (4, .int a4), (5, .int a5), (6, .int a6), (7, .int a7), (8, .int a8), (9, .int a9)] [] w (sX12_step_j180 a3 a4 a5 a6 a7 a8 a9 w) := by
  unfold sX12_step_j180
  refine xj_aloadn 0 dX12_step_180 rfl rfl ?_
  refine xj_cVv (argv := []) (rest := []) dX12_step_181 (kX12_doOne w) mkX12_doOne tw2286 rfl rfl rfl rfl rfl rfl (fun _ w1 => ?_)
  refine xj_aloadn 0 dX12_step_184 rfl rfl ?_
  refine xj_aloadn 0 dX12_step_185 rfl rfl ?_
  refine gfX12_272 (v := (w1.1 0 45)) dX12_step_186 rfl rfl ?_
  refine xj_ifne (tgt := 205) dX12_step_189 rfl ?_ ?_
  · refine xj_aloadn 0 dX12_step_192 rfl rfl ?_
    refine gfX12_70 (v := (w1.1 0 17)) dX12_step_193 rfl rfl ?_
    refine xj_bipush (v := 32) dX12_step_196 cb_32 ?_
    refine xj_ine (tgt := 205) dX12_step_198 rfl ?_ ?_
    · refine xj_iconst (v := 3) dX12_step_201 ci_3 ?_
      refine xj_goto (tgt := 209) dX12_step_202 rfl ?_
      exact tX12_step_j209 _ _ _ _ _ _ _ _ _
    · exact tX12_step_j205 _ _ _ _ _ _ _ _
  · exact tX12_step_j205 _ _ _ _ _ _ _ _
set_option maxRecDepth 20000 in
def sX12_step_l53 : Nat → Int64 → Int32 → Int32 → Int32 → Int32 → Int32 → Int32 → Int32 → xW → Option (Int32 × xW)
  | 0, _, _, _, _, _, _, _, _, _ => none
  | n + 1, a1, a3, a4, a5, a6, a7, a8, a9, w =>
  (if a9 < (8 : Int32) then (if xin a9 8 then (if xin a9 8 then (sX12_step_l53 n) a1 a3 a4 a5 a6 a7 a8 (a9 + (1 : Int32)) (xwi w 10 a9.toNatClampNeg (w.1 9 a9.toNatClampNeg)) else none) else none) else xbd (sX12_isGate a1 w) (fun x1 w2 => (if x1 = 0 then (if a1 < (4096 : Int64) then sX12_step_j129 a3 a4 a5 a6 a7 a8 (-1 : Int32) w2 else (if a1 < ((4096 : Int32) + (w2.1 0 2)).toInt64 then xbd (sX12_take (a1.toInt32 - (4096 : Int32)) w2) (fun x3 w4 => (if x3 = 0 then sX12_step_j171 a3 a4 a5 a6 a7 a8 (a1.toInt32 - (4096 : Int32)) w4 else (if (w4.1 0 9) = 0 then sX12_step_j180 a3 a4 a5 a6 a7 a8 (a1.toInt32 - (4096 : Int32)) w4 else (if xin (a1.toInt32 - (4096 : Int32)) 2048 then (if (w4.1 5 ((a1.toInt32 - (4096 : Int32)).toNatClampNeg)) = 0 then sX12_step_j171 a3 a4 a5 a6 a7 a8 (a1.toInt32 - (4096 : Int32)) w4 else sX12_step_j180 a3 a4 a5 a6 a7 a8 (a1.toInt32 - (4096 : Int32)) w4) else none)))) else sX12_step_j129 a3 a4 a5 a6 a7 a8 (-1 : Int32) w2)) else (if ¬ (32 : Int32) = 0 then xbd (sX12_serve ((a1 - (1024 : Int64)).toInt32 / (32 : Int32)) w2) (fun _ w5 => sX12_step_j212 a3 a4 a5 a6 a7 a8 (-1 : Int32) w5) else none))))
set_option maxRecDepth 20000 in
theorem tX12_step_l53 : ∀ (n : Nat) (a1 : Int64) (a3 : Int32) (a4 : Int32) (a5 : Int32) (a6 : Int32) (a7 : Int32) (a8 : Int32) (a9 : Int32) (w : xW), xJ ιI mX12_step lM (0, 0) 53 [(0, .ref 0), (1, .long a1), (3, .int a3), (4, .int a4), (5, .int a5), (6, .int a6), (7, .int a7), (8, .int a8), (9, .int a9)] [] w (sX12_step_l53 n a1 a3 a4 a5 a6 a7 a8 a9 w) := by
  intro n
  induction n with
  | zero => intros; exact xj_none
  | succ n ih =>
    intro a1 a3 a4 a5 a6 a7 a8 a9 w
    rw [sX12_step_l53]
    refine xj_iload 8 dX12_step_53 rfl ?_
    refine xj_bipush (v := 8) dX12_step_55 cb_8 ?_
    refine xj_ige (tgt := 80) dX12_step_57 rfl ?_ ?_
    · refine xj_aloadn 0 dX12_step_60 rfl rfl ?_
      refine gfX12_50 dX12_step_61 rfl ?_
      refine xj_iload 8 dX12_step_64 rfl ?_
      refine xj_aloadn 0 dX12_step_66 rfl rfl ?_
      refine gfX12_44 dX12_step_67 rfl ?_
      refine xj_iload 8 dX12_step_70 rfl ?_
      refine xj_iald (k := 9) dX12_step_72 rfl ?_
      refine xj_iast (k := 10) dX12_step_73 rfl ?_
      refine xj_iinc (n := 8) (lv2 := [(9, .int (a9 + (1 : Int32))), (0, .ref 0), (1, .long a1), (3, .int a3), (4, .int a4), (5, .int a5), (6, .int a6), (7, .int a7), (8, .int a8)]) dX12_step_74 rfl ci_1 (Nat.le_of_ble_eq_true rfl) rfl ?_
      refine xj_goto (tgt := 53) dX12_step_77 rfl ?_
      refine xj_sub (lv2 := [(0, .ref 0), (1, .long a1), (3, .int a3), (4, .int a4), (5, .int a5), (6, .int a6), (7, .int a7), (8, .int a8), (9, .int (a9 + (1 : Int32)))]) [1, 2, 3, 4, 5, 6, 7, 8, 0] rfl ?_
      exact ih _ _ _ _ _ _ _ _ _
    · refine xj_iconst (v := -1) dX12_step_80 ci_m1 ?_
      refine xj_istore (lv2 := [(9, .int (-1 : Int32)), (0, .ref 0), (1, .long a1), (3, .int a3), (4, .int a4), (5, .int a5), (6, .int a6), (7, .int a7), (8, .int a8)]) dX12_step_81 (Nat.le_of_ble_eq_true rfl) rfl ?_
      refine xj_aloadn 1 dX12_step_83 rfl rfl ?_
      refine xj_lloadn 2 dX12_step_84 rfl rfl ?_
      refine xj_cVi (argv := [.long a1]) (rest := []) dX12_step_85 (kX12_isGate a1 w) mkX12_isGate tw2161 rfl rfl rfl rfl rfl rfl (fun x1 w2 => ?_)
      refine xj_ifeq (tgt := 107) dX12_step_88 rfl ?_ ?_
      · refine xj_lloadn 2 dX12_step_107 rfl rfl ?_
        refine xj_ldc2 (v := 4096) tw2160 dX12_step_108 ?_
        refine xj_llt (tgt := 129) dX12_step_111 dX12_step_112 rfl ?_ ?_
        · refine xj_sub (lv2 := [(0, .ref 0), (3, .int a3), (4, .int a4), (5, .int a5), (6, .int a6), (7, .int a7), (8, .int a8), (9, .int (-1 : Int32))]) [1, 3, 4, 5, 6, 7, 8, 0] rfl ?_
          exact tX12_step_j129 _ _ _ _ _ _ _ _
        · refine xj_lloadn 2 dX12_step_115 rfl rfl ?_
          refine xj_sipush (v := 4096) dX12_step_116 cs_4096 ?_
          refine xj_aloadn 1 dX12_step_119 rfl rfl ?_
          refine gfX12_59 (v := (w2.1 0 2)) dX12_step_120 rfl rfl ?_
          refine xj_iadd dX12_step_123 ?_
          refine xj_i2l dX12_step_124 ?_
          refine xj_llt (tgt := 137) dX12_step_125 dX12_step_126 rfl ?_ ?_
          · refine xj_lloadn 2 dX12_step_137 rfl rfl ?_
            refine xj_l2i dX12_step_138 ?_
            refine xj_sipush (v := 4096) dX12_step_139 cs_4096 ?_
            refine xj_isub dX12_step_142 ?_
            refine xj_istore (lv2 := [(9, .int (a1.toInt32 - (4096 : Int32))), (0, .ref 0), (1, .long a1), (3, .int a3), (4, .int a4), (5, .int a5), (6, .int a6), (7, .int a7), (8, .int a8)]) dX12_step_143 (Nat.le_of_ble_eq_true rfl) rfl ?_
            refine xj_aloadn 1 dX12_step_145 rfl rfl ?_
            refine xj_iload 0 dX12_step_146 rfl ?_
            refine xj_cVi (argv := [.int (a1.toInt32 - (4096 : Int32))]) (rest := []) dX12_step_148 (kX12_take (a1.toInt32 - (4096 : Int32)) w2) mkX12_take tw2059 rfl rfl rfl rfl rfl rfl (fun x3 w4 => ?_)
            refine xj_ifeq (tgt := 171) dX12_step_151 rfl ?_ ?_
            · refine xj_sub (lv2 := [(0, .ref 0), (3, .int a3), (4, .int a4), (5, .int a5), (6, .int a6), (7, .int a7), (8, .int a8), (9, .int (a1.toInt32 - (4096 : Int32)))]) [1, 3, 4, 5, 6, 7, 8, 0] rfl ?_
              exact tX12_step_j171 _ _ _ _ _ _ _ _
            · refine xj_aloadn 1 dX12_step_154 rfl rfl ?_
              refine gfX12_195 (v := (w4.1 0 9)) dX12_step_155 rfl rfl ?_
              refine xj_ifeq (tgt := 180) dX12_step_158 rfl ?_ ?_
              · refine xj_sub (lv2 := [(0, .ref 0), (3, .int a3), (4, .int a4), (5, .int a5), (6, .int a6), (7, .int a7), (8, .int a8), (9, .int (a1.toInt32 - (4096 : Int32)))]) [1, 3, 4, 5, 6, 7, 8, 0] rfl ?_
                exact tX12_step_j180 _ _ _ _ _ _ _ _
              · refine xj_aloadn 1 dX12_step_161 rfl rfl ?_
                refine gfX12_27 dX12_step_162 rfl ?_
                refine xj_iload 0 dX12_step_165 rfl ?_
                refine xj_iald (k := 5) dX12_step_167 rfl ?_
                refine xj_ifne (tgt := 180) dX12_step_168 rfl ?_ ?_
                · refine xj_sub (lv2 := [(0, .ref 0), (3, .int a3), (4, .int a4), (5, .int a5), (6, .int a6), (7, .int a7), (8, .int a8), (9, .int (a1.toInt32 - (4096 : Int32)))]) [1, 3, 4, 5, 6, 7, 8, 0] rfl ?_
                  exact tX12_step_j171 _ _ _ _ _ _ _ _
                · refine xj_sub (lv2 := [(0, .ref 0), (3, .int a3), (4, .int a4), (5, .int a5), (6, .int a6), (7, .int a7), (8, .int a8), (9, .int (a1.toInt32 - (4096 : Int32)))]) [1, 3, 4, 5, 6, 7, 8, 0] rfl ?_
                  exact tX12_step_j180 _ _ _ _ _ _ _ _
          · refine xj_sub (lv2 := [(0, .ref 0), (3, .int a3), (4, .int a4), (5, .int a5), (6, .int a6), (7, .int a7), (8, .int a8), (9, .int (-1 : Int32))]) [1, 3, 4, 5, 6, 7, 8, 0] rfl ?_
            exact tX12_step_j129 _ _ _ _ _ _ _ _
      · refine xj_aloadn 1 dX12_step_91 rfl rfl ?_
        refine xj_lloadn 2 dX12_step_92 rfl rfl ?_
        refine xj_ldc2 (v := 1024) tw2165 dX12_step_93 ?_
        refine xj_lsub dX12_step_96 ?_
        refine xj_l2i dX12_step_97 ?_
        refine xj_bipush (v := 32) dX12_step_98 cb_32 ?_
        refine xj_idiv dX12_step_100 ?_
        refine xj_cVv (argv := [.int ((a1 - (1024 : Int64)).toInt32 / (32 : Int32))]) (rest := []) dX12_step_101 (kX12_serve ((a1 - (1024 : Int64)).toInt32 / (32 : Int32)) w2) mkX12_serve tw2277 rfl rfl rfl rfl rfl rfl (fun _ w5 => ?_)
        refine xj_goto (tgt := 212) dX12_step_104 rfl ?_
        refine xj_sub (lv2 := [(0, .ref 0), (3, .int a3), (4, .int a4), (5, .int a5), (6, .int a6), (7, .int a7), (8, .int a8), (9, .int (-1 : Int32))]) [1, 3, 4, 5, 6, 7, 8, 0] rfl ?_
        exact tX12_step_j212 _ _ _ _ _ _ _ _
set_option maxRecDepth 20000 in
def sX12_step (w : xW) : Option (Int32 × xW) :=
  xlet ((w.1 0 34).toInt64 &&& (4294967295 : Int64)) (fun x1 => sX12_step_l53 70000 x1 (w.1 0 36) (w.1 0 37) (w.1 0 38) (w.1 0 39) (w.1 0 40) (w.1 0 34) (0 : Int32) (xwi w 0 45 (0 : Int32)))
set_option maxRecDepth 20000 in
theorem tX12_step (w : xW) : xJ ιI mX12_step lM (0, 0) 0 [(0, .ref 0)] [] w (sX12_step w) := by
  unfold sX12_step
  refine xj_aloadn 0 dX12_step_0 rfl rfl ?_
  refine gfX12_40 (v := (w.1 0 34)) dX12_step_1 rfl rfl ?_
  refine xj_i2l dX12_step_4 ?_
  refine xj_ldc2 (v := 4294967295) tw2157 dX12_step_5 ?_
  refine xj_land dX12_step_8 ?_
  refine xj_letl (fun x1 => ?_)
  refine xj_lstoren (lv2 := [(1, .long x1), (0, .ref 0)]) dX12_step_9 rfl (Nat.le_of_ble_eq_true rfl) rfl ?_
  refine xj_aloadn 1 dX12_step_10 rfl rfl ?_
  refine gfX12_320 (v := (w.1 0 36)) dX12_step_11 rfl rfl ?_
  refine xj_istoren (lv2 := [(3, .int (w.1 0 36)), (1, .long x1), (0, .ref 0)]) dX12_step_14 rfl (Nat.le_of_ble_eq_true rfl) rfl ?_
  refine xj_aloadn 2 dX12_step_15 rfl rfl ?_
  refine gfX12_317 (v := (w.1 0 37)) dX12_step_16 rfl rfl ?_
  refine xj_istore (lv2 := [(4, .int (w.1 0 37)), (3, .int (w.1 0 36)), (1, .long x1), (0, .ref 0)]) dX12_step_19 (Nat.le_of_ble_eq_true rfl) rfl ?_
  refine xj_aloadn 3 dX12_step_21 rfl rfl ?_
  refine gfX12_307 (v := (w.1 0 38)) dX12_step_22 rfl rfl ?_
  refine xj_istore (lv2 := [(5, .int (w.1 0 38)), (4, .int (w.1 0 37)), (3, .int (w.1 0 36)), (1, .long x1), (0, .ref 0)]) dX12_step_25 (Nat.le_of_ble_eq_true rfl) rfl ?_
  refine xj_aloadn 4 dX12_step_27 rfl rfl ?_
  refine gfX12_314 (v := (w.1 0 39)) dX12_step_28 rfl rfl ?_
  refine xj_istore (lv2 := [(6, .int (w.1 0 39)), (5, .int (w.1 0 38)), (4, .int (w.1 0 37)), (3, .int (w.1 0 36)), (1, .long x1), (0, .ref 0)]) dX12_step_31 (Nat.le_of_ble_eq_true rfl) rfl ?_
  refine xj_aloadn 5 dX12_step_33 rfl rfl ?_
  refine gfX12_323 (v := (w.1 0 40)) dX12_step_34 rfl rfl ?_
  refine xj_istore (lv2 := [(7, .int (w.1 0 40)), (6, .int (w.1 0 39)), (5, .int (w.1 0 38)), (4, .int (w.1 0 37)), (3, .int (w.1 0 36)), (1, .long x1), (0, .ref 0)]) dX12_step_37 (Nat.le_of_ble_eq_true rfl) rfl ?_
  refine xj_aloadn 6 dX12_step_39 rfl rfl ?_
  refine gfX12_40 (v := (w.1 0 34)) dX12_step_40 rfl rfl ?_
  refine xj_istore (lv2 := [(8, .int (w.1 0 34)), (7, .int (w.1 0 40)), (6, .int (w.1 0 39)), (5, .int (w.1 0 38)), (4, .int (w.1 0 37)), (3, .int (w.1 0 36)), (1, .long x1), (0, .ref 0)]) dX12_step_43 (Nat.le_of_ble_eq_true rfl) rfl ?_
  refine xj_aloadn 7 dX12_step_45 rfl rfl ?_
  refine xj_iconst (v := 0) dX12_step_46 ci_0 ?_
  refine pfX12_272 dX12_step_47 rfl ?_
  refine xj_iconst (v := 0) dX12_step_50 ci_0 ?_
  refine xj_istore (lv2 := [(9, .int (0 : Int32)), (8, .int (w.1 0 34)), (7, .int (w.1 0 40)), (6, .int (w.1 0 39)), (5, .int (w.1 0 38)), (4, .int (w.1 0 37)), (3, .int (w.1 0 36)), (1, .long x1), (0, .ref 0)]) dX12_step_51 (Nat.le_of_ble_eq_true rfl) rfl ?_
  refine xj_sub (lv2 := [(0, .ref 0), (1, .long x1), (3, .int (w.1 0 36)), (4, .int (w.1 0 37)), (5, .int (w.1 0 38)), (6, .int (w.1 0 39)), (7, .int (w.1 0 40)), (8, .int (w.1 0 34)), (9, .int (0 : Int32))]) [8, 7, 6, 5, 4, 3, 2, 1, 0] rfl ?_
  exact tX12_step_l53 _ _ _ _ _ _ _ _ _ _
theorem kX12_step (w : xW) : xMet jI mX12_step lM (0, 0) [.ref 0] w (sX12_step w) := xj_met lM_ok (by decide) (Nat.le_of_ble_eq_true rfl) (Nat.zero_le _) (Nat.zero_le _) (tX12_step w)
set_option maxRecDepth 20000 in
def sX12_change_l22 : Nat → Int32 → xW → Option (Unit × xW)
  | 0, _, _ => none
  | n + 1, a1, w =>
  (if a1 < (2048 : Int32) then (if xin a1 2048 then (sX12_change_l22 n) (a1 + (1 : Int32)) (xwi w 5 a1.toNatClampNeg (0 : Int32)) else none) else some ((), w))
set_option maxRecDepth 20000 in
theorem tX12_change_l22 : ∀ (n : Nat) (a1 : Int32) (w : xW), xJ ιV mX12_change lM (0, 0) 22 [(0, .ref 0), (1, .int a1)] [] w (sX12_change_l22 n a1 w) := by
  intro n
  induction n with
  | zero => intros; exact xj_none
  | succ n ih =>
    intro a1 w
    rw [sX12_change_l22]
    refine xj_iloadn 1 dX12_change_22 rfl rfl ?_
    refine xj_sipush (v := 2048) dX12_change_23 cs_2048 ?_
    refine xj_ige (tgt := 42) dX12_change_26 rfl ?_ ?_
    · refine xj_aloadn 0 dX12_change_29 rfl rfl ?_
      refine gfX12_27 dX12_change_30 rfl ?_
      refine xj_iloadn 1 dX12_change_33 rfl rfl ?_
      refine xj_iconst (v := 0) dX12_change_34 ci_0 ?_
      refine xj_iast (k := 5) dX12_change_35 rfl ?_
      refine xj_iinc (n := 1) (lv2 := [(1, .int (a1 + (1 : Int32))), (0, .ref 0)]) dX12_change_36 rfl ci_1 (Nat.le_of_ble_eq_true rfl) rfl ?_
      refine xj_goto (tgt := 22) dX12_change_39 rfl ?_
      refine xj_sub (lv2 := [(0, .ref 0), (1, .int (a1 + (1 : Int32)))]) [1, 0] rfl ?_
      exact ih _ _
    · exact xj_rv dX12_change_42 rfl
set_option maxRecDepth 20000 in
def sX12_change (w : xW) : Option (Unit × xW) :=
  sX12_change_l22 70000 (0 : Int32) (xwi (xwi (xwi (xwi w 0 9 (0 : Int32)) 0 10 (0 : Int32)) 0 11 (-1 : Int32)) 0 33 (0 : Int32))
set_option maxRecDepth 20000 in
theorem tX12_change (w : xW) : xJ ιV mX12_change lM (0, 0) 0 [(0, .ref 0)] [] w (sX12_change w) := by
  unfold sX12_change
  refine xj_aloadn 0 dX12_change_0 rfl rfl ?_
  refine xj_iconst (v := 0) dX12_change_1 ci_0 ?_
  refine pfX12_195 dX12_change_2 rfl (Or.inl rfl) ?_
  refine xj_aloadn 0 dX12_change_5 rfl rfl ?_
  refine xj_iconst (v := 0) dX12_change_6 ci_0 ?_
  refine pfX12_192 dX12_change_7 rfl ?_
  refine xj_aloadn 0 dX12_change_10 rfl rfl ?_
  refine xj_iconst (v := -1) dX12_change_11 ci_m1 ?_
  refine pfX12_23 dX12_change_12 rfl ?_
  refine xj_aloadn 0 dX12_change_15 rfl rfl ?_
  refine xj_iconst (v := 0) dX12_change_16 ci_0 ?_
  refine pfX12_395 dX12_change_17 rfl ?_
  refine xj_iconst (v := 0) dX12_change_20 ci_0 ?_
  refine xj_istoren (lv2 := [(1, .int (0 : Int32)), (0, .ref 0)]) dX12_change_21 rfl (Nat.le_of_ble_eq_true rfl) rfl ?_
  refine xj_sub (lv2 := [(0, .ref 0), (1, .int (0 : Int32))]) [1, 0] rfl ?_
  exact tX12_change_l22 _ _ _
theorem kX12_change (w : xW) : xMet jV mX12_change lM (0, 0) [.ref 0] w (sX12_change w) := xj_met lM_ok (by decide) (Nat.le_of_ble_eq_true rfl) (Nat.zero_le _) (Nat.zero_le _) (tX12_change w)
set_option maxRecDepth 20000 in
def sX12_feed_l47 : Nat → Int32 → Int64 → Int32 → xW → Option (Int32 × xW)
  | 0, _, _, _, _ => none
  | n + 1, a1, a2, a4, w =>
  (if a4 < a1 then (if xin (w.1 0 2) 2048 then (sX12_feed_l47 n) a1 a2 (a4 + (1 : Int32)) (xwi (xwi w 1 ((w.1 0 2).toNatClampNeg) (((xlshr a2 ((8 : Int32) * a4)) &&& (255 : Int64)).toInt32)) 0 2 ((w.1 0 2) + (1 : Int32))) else none) else xbd (sX12_change w) (fun _ w1 => some ((w1.1 0 2), w1)))
set_option maxRecDepth 20000 in
theorem tX12_feed_l47 : ∀ (n : Nat) (a1 : Int32) (a2 : Int64) (a4 : Int32) (w : xW), xJ ιI mX12_feed lM (0, 0) 47 [(0, .ref 0), (1, .int a1), (2, .long a2), (4, .int a4)] [] w (sX12_feed_l47 n a1 a2 a4 w) := by
  intro n
  induction n with
  | zero => intros; exact xj_none
  | succ n ih =>
    intro a1 a2 a4 w
    rw [sX12_feed_l47]
    refine xj_iload 3 dX12_feed_47 rfl ?_
    refine xj_iloadn 1 dX12_feed_49 rfl rfl ?_
    refine xj_ige (tgt := 90) dX12_feed_50 rfl ?_ ?_
    · refine xj_aloadn 0 dX12_feed_53 rfl rfl ?_
      refine gfX12_7 dX12_feed_54 rfl ?_
      refine xj_aloadn 0 dX12_feed_57 rfl rfl ?_
      refine gfX12_59 (v := (w.1 0 2)) dX12_feed_58 rfl rfl ?_
      refine xj_lloadn 2 dX12_feed_61 rfl rfl ?_
      refine xj_bipush (v := 8) dX12_feed_62 cb_8 ?_
      refine xj_iload 3 dX12_feed_64 rfl ?_
      refine xj_imul dX12_feed_66 ?_
      refine xj_lshr dX12_feed_67 ?_
      refine xj_ldc2 (v := 255) tw2230 dX12_feed_68 ?_
      refine xj_land dX12_feed_71 ?_
      refine xj_l2i dX12_feed_72 ?_
      refine xj_iast (k := 1) dX12_feed_73 rfl ?_
      refine xj_aloadn 0 dX12_feed_74 rfl rfl ?_
      refine xj_dup dX12_feed_75 rfl ?_
      refine gfX12_59 (v := (w.1 0 2)) dX12_feed_76 rfl rfl ?_
      refine xj_iconst (v := 1) dX12_feed_79 ci_1 ?_
      refine xj_iadd dX12_feed_80 ?_
      refine pfX12_59 dX12_feed_81 rfl ?_
      refine xj_iinc (n := 3) (lv2 := [(4, .int (a4 + (1 : Int32))), (0, .ref 0), (1, .int a1), (2, .long a2)]) dX12_feed_84 rfl ci_1 (Nat.le_of_ble_eq_true rfl) rfl ?_
      refine xj_goto (tgt := 47) dX12_feed_87 rfl ?_
      refine xj_sub (lv2 := [(0, .ref 0), (1, .int a1), (2, .long a2), (4, .int (a4 + (1 : Int32)))]) [1, 2, 3, 0] rfl ?_
      exact ih _ _ _ _
    · refine xj_aloadn 0 dX12_feed_90 rfl rfl ?_
      refine xj_cVv (argv := []) (rest := []) dX12_feed_91 (kX12_change w) mkX12_change tw2231 rfl rfl rfl rfl rfl rfl (fun _ w1 => ?_)
      refine xj_aloadn 0 dX12_feed_94 rfl rfl ?_
      refine gfX12_59 (v := (w1.1 0 2)) dX12_feed_95 rfl rfl ?_
      exact xj_ri dX12_feed_98 rfl
set_option maxRecDepth 20000 in
def sX12_feed_j18 (a1 : Int32) (a2 : Int64) (b0 : Int32) (w : xW) : Option (Int32 × xW) :=
  (if 0 < b0 then some ((0 : Int32), (xwi w 0 0 b0)) else (if (2048 : Int32) < ((w.1 0 2) + a1) then some ((-1 : Int32), (xwi w 0 0 b0)) else sX12_feed_l47 70000 a1 a2 (0 : Int32) (xwi w 0 0 b0)))
set_option maxRecDepth 20000 in
theorem tX12_feed_j18 (a1 : Int32) (a2 : Int64) (b0 : Int32) (w : xW) : xJ ιI mX12_feed lM (0, 0) 18 [(0, .ref 0), (1, .int a1), (2, .long a2)] [.int b0, .ref 0] w (sX12_feed_j18 a1 a2 b0 w) := by
  unfold sX12_feed_j18
  refine pfX12_53 dX12_feed_18 rfl ?_
  refine xj_aloadn 0 dX12_feed_21 rfl rfl ?_
  refine gfX12_53 (v := b0) dX12_feed_22 rfl rfl ?_
  refine xj_ifle (tgt := 30) dX12_feed_25 rfl ?_ ?_
  · refine xj_iconst (v := 0) dX12_feed_28 ci_0 ?_
    exact xj_ri dX12_feed_29 rfl
  · refine xj_aloadn 0 dX12_feed_30 rfl rfl ?_
    refine gfX12_59 (v := (w.1 0 2)) dX12_feed_31 rfl rfl ?_
    refine xj_iloadn 1 dX12_feed_34 rfl rfl ?_
    refine xj_iadd dX12_feed_35 ?_
    refine xj_sipush (v := 2048) dX12_feed_36 cs_2048 ?_
    refine xj_ile (tgt := 44) dX12_feed_39 rfl ?_ ?_
    · refine xj_iconst (v := -1) dX12_feed_42 ci_m1 ?_
      exact xj_ri dX12_feed_43 rfl
    · refine xj_iconst (v := 0) dX12_feed_44 ci_0 ?_
      refine xj_istore (lv2 := [(4, .int (0 : Int32)), (0, .ref 0), (1, .int a1), (2, .long a2)]) dX12_feed_45 (Nat.le_of_ble_eq_true rfl) rfl ?_
      refine xj_sub (lv2 := [(0, .ref 0), (1, .int a1), (2, .long a2), (4, .int (0 : Int32))]) [1, 2, 3, 0] rfl ?_
      exact tX12_feed_l47 _ _ _ _ _
set_option maxRecDepth 20000 in
def sX12_feed (p1 : Int32) (p2 : Int64) (w : xW) : Option (Int32 × xW) :=
  xbd (sX12_isIn p1.toInt64 (1 : Int64) (8 : Int64) w) (fun x1 w2 => (if x1 = 0 then sX12_feed_j18 p1 p2 (1 : Int32) w2 else sX12_feed_j18 p1 p2 (0 : Int32) w2))
set_option maxRecDepth 20000 in
theorem tX12_feed (p1 : Int32) (p2 : Int64) (w : xW) : xJ ιI mX12_feed lM (0, 0) 0 [(0, .ref 0), (1, .int p1), (2, .long p2)] [] w (sX12_feed p1 p2 w) := by
  unfold sX12_feed
  refine xj_aloadn 0 dX12_feed_0 rfl rfl ?_
  refine xj_iloadn 1 dX12_feed_1 rfl rfl ?_
  refine xj_i2l dX12_feed_2 ?_
  refine xj_lconst (v := 1) dX12_feed_3 cl_1 ?_
  refine xj_ldc2 (v := 8) tw2229 dX12_feed_4 ?_
  refine xj_cSi (argv := [.long p1.toInt64, .long (1 : Int64), .long (8 : Int64)]) (rest := [.ref 0]) dX12_feed_7 (kX12_isIn p1.toInt64 (1 : Int64) (8 : Int64) w) mkX12_isIn tw2150 rfl rfl rfl rfl (fun x1 w2 => ?_)
  refine xj_ifeq (tgt := 17) dX12_feed_10 rfl ?_ ?_
  · refine xj_iconst (v := 1) dX12_feed_17 ci_1 ?_
    exact tX12_feed_j18 _ _ _ _
  · refine xj_iconst (v := 0) dX12_feed_13 ci_0 ?_
    refine xj_goto (tgt := 18) dX12_feed_14 rfl ?_
    exact tX12_feed_j18 _ _ _ _
theorem kX12_feed (p1 : Int32) (p2 : Int64) (w : xW) : xMet jI mX12_feed lM (0, 0) [.ref 0, .int p1, .long p2] w (sX12_feed p1 p2 w) := xj_met lM_ok (by decide) (Nat.le_of_ble_eq_true rfl) (Nat.zero_le _) (Nat.zero_le _) (tX12_feed p1 p2 w)
set_option maxRecDepth 20000 in
def sX12_wipe (w : xW) : Option (Int32 × xW) :=
  xbd (sX12_change (xwi (xwi w 0 0 (0 : Int32)) 0 2 (0 : Int32))) (fun _ w1 => some ((w.1 0 2), w1))
set_option maxRecDepth 20000 in
theorem tX12_wipe (w : xW) : xJ ιI mX12_wipe lM (0, 0) 0 [(0, .ref 0)] [] w (sX12_wipe w) := by
  unfold sX12_wipe
  refine xj_aloadn 0 dX12_wipe_0 rfl rfl ?_
  refine xj_iconst (v := 0) dX12_wipe_1 ci_0 ?_
  refine pfX12_53 dX12_wipe_2 rfl ?_
  refine xj_aloadn 0 dX12_wipe_5 rfl rfl ?_
  refine gfX12_59 (v := (w.1 0 2)) dX12_wipe_6 rfl rfl ?_
  refine xj_istoren (lv2 := [(1, .int (w.1 0 2)), (0, .ref 0)]) dX12_wipe_9 rfl (Nat.le_of_ble_eq_true rfl) rfl ?_
  refine xj_aloadn 1 dX12_wipe_10 rfl rfl ?_
  refine xj_iconst (v := 0) dX12_wipe_11 ci_0 ?_
  refine pfX12_59 dX12_wipe_12 rfl ?_
  refine xj_aloadn 1 dX12_wipe_15 rfl rfl ?_
  refine xj_cVv (argv := []) (rest := []) dX12_wipe_16 (kX12_change (xwi (xwi w 0 0 (0 : Int32)) 0 2 (0 : Int32))) mkX12_change tw2231 rfl rfl rfl rfl rfl rfl (fun _ w1 => ?_)
  refine xj_iloadn 0 dX12_wipe_19 rfl rfl ?_
  exact xj_ri dX12_wipe_20 rfl
theorem kX12_wipe (w : xW) : xMet jI mX12_wipe lM (0, 0) [.ref 0] w (sX12_wipe w) := xj_met lM_ok (by decide) (Nat.le_of_ble_eq_true rfl) (Nat.zero_le _) (Nat.zero_le _) (tX12_wipe w)
set_option maxRecDepth 20000 in
def sX12_poke_j32 (a1 : Int32) (a2 : Int32) (b0 : Int32) (w : xW) : Option (Int32 × xW) :=
  (if 0 < b0 then some ((0 : Int32), (xwi w 0 0 b0)) else (if xin (a1 - (65536 : Int32)) 65536 then xlet (w.1 2 ((a1 - (65536 : Int32)).toNatClampNeg)) (fun x1 => (if xin (a1 - (65536 : Int32)) 65536 then some (x1, (xwi (xwi w 0 0 b0) 2 ((a1 - (65536 : Int32)).toNatClampNeg) a2)) else none)) else none))
set_option maxRecDepth 20000 in
theorem tX12_poke_j32 (a1 : Int32) (a2 : Int32) (b0 : Int32) (w : xW) : xJ ιI mX12_poke lM (0, 0) 32 [(0, .ref 0), (1, .int a1), (2, .int a2)] [.int b0, .ref 0] w (sX12_poke_j32 a1 a2 b0 w) := by
  unfold sX12_poke_j32
  refine pfX12_53 dX12_poke_32 rfl ?_
  refine xj_aloadn 0 dX12_poke_35 rfl rfl ?_
  refine gfX12_53 (v := b0) dX12_poke_36 rfl rfl ?_
  refine xj_ifle (tgt := 44) dX12_poke_39 rfl ?_ ?_
  · refine xj_iconst (v := 0) dX12_poke_42 ci_0 ?_
    exact xj_ri dX12_poke_43 rfl
  · refine xj_aloadn 0 dX12_poke_44 rfl rfl ?_
    refine gfX12_14 dX12_poke_45 rfl ?_
    refine xj_iloadn 1 dX12_poke_48 rfl rfl ?_
    refine xj_ldc (v := 65536) tw1900 dX12_poke_49 ?_
    refine xj_isub dX12_poke_51 ?_
    refine xj_iald (k := 2) dX12_poke_52 rfl ?_
    refine xj_leti (fun x1 => ?_)
    refine xj_istoren (lv2 := [(3, .int x1), (0, .ref 0), (1, .int a1), (2, .int a2)]) dX12_poke_53 rfl (Nat.le_of_ble_eq_true rfl) rfl ?_
    refine xj_aloadn 1 dX12_poke_54 rfl rfl ?_
    refine gfX12_14 dX12_poke_55 rfl ?_
    refine xj_iloadn 2 dX12_poke_58 rfl rfl ?_
    refine xj_ldc (v := 65536) tw1900 dX12_poke_59 ?_
    refine xj_isub dX12_poke_61 ?_
    refine xj_iloadn 3 dX12_poke_62 rfl rfl ?_
    refine xj_iast (k := 2) dX12_poke_63 rfl ?_
    refine xj_iloadn 0 dX12_poke_64 rfl rfl ?_
    exact xj_ri dX12_poke_65 rfl
set_option maxRecDepth 20000 in
def sX12_poke_j27 (a1 : Int32) (a2 : Int32) (w : xW) : Option (Int32 × xW) :=
  sX12_poke_j32 a1 a2 (1 : Int32) w
set_option maxRecDepth 20000 in
theorem tX12_poke_j27 (a1 : Int32) (a2 : Int32) (w : xW) : xJ ιI mX12_poke lM (0, 0) 27 [(0, .ref 0), (1, .int a1), (2, .int a2)] [.ref 0] w (sX12_poke_j27 a1 a2 w) := by
  unfold sX12_poke_j27
  refine xj_iconst (v := 1) dX12_poke_27 ci_1 ?_
  refine xj_goto (tgt := 32) dX12_poke_28 rfl ?_
  exact tX12_poke_j32 _ _ _ _
set_option maxRecDepth 20000 in
def sX12_poke (p1 : Int32) (p2 : Int32) (w : xW) : Option (Int32 × xW) :=
  xbd (sX12_isIn p1.toInt64 (65536 : Int64) (131071 : Int64) w) (fun x1 w2 => (if x1 = 0 then sX12_poke_j27 p1 p2 w2 else xbd (sX12_isIn p2.toInt64 (0 : Int64) (255 : Int64) w2) (fun x3 w4 => (if x3 = 0 then sX12_poke_j27 p1 p2 w4 else sX12_poke_j32 p1 p2 (0 : Int32) w4))))
set_option maxRecDepth 20000 in
theorem tX12_poke (p1 : Int32) (p2 : Int32) (w : xW) : xJ ιI mX12_poke lM (0, 0) 0 [(0, .ref 0), (1, .int p1), (2, .int p2)] [] w (sX12_poke p1 p2 w) := by
  unfold sX12_poke
  refine xj_aloadn 0 dX12_poke_0 rfl rfl ?_
  refine xj_iloadn 1 dX12_poke_1 rfl rfl ?_
  refine xj_i2l dX12_poke_2 ?_
  refine xj_ldc2 (v := 65536) tw2158 dX12_poke_3 ?_
  refine xj_ldc2 (v := 131071) tw2243 dX12_poke_6 ?_
  refine xj_cSi (argv := [.long p1.toInt64, .long (65536 : Int64), .long (131071 : Int64)]) (rest := [.ref 0]) dX12_poke_9 (kX12_isIn p1.toInt64 (65536 : Int64) (131071 : Int64) w) mkX12_isIn tw2150 rfl rfl rfl rfl (fun x1 w2 => ?_)
  refine xj_ifeq (tgt := 27) dX12_poke_12 rfl ?_ ?_
  · exact tX12_poke_j27 _ _ _
  · refine xj_iloadn 2 dX12_poke_15 rfl rfl ?_
    refine xj_i2l dX12_poke_16 ?_
    refine xj_lconst (v := 0) dX12_poke_17 cl_0 ?_
    refine xj_ldc2 (v := 255) tw2230 dX12_poke_18 ?_
    refine xj_cSi (argv := [.long p2.toInt64, .long (0 : Int64), .long (255 : Int64)]) (rest := [.ref 0]) dX12_poke_21 (kX12_isIn p2.toInt64 (0 : Int64) (255 : Int64) w2) mkX12_isIn tw2150 rfl rfl rfl rfl (fun x3 w4 => ?_)
    refine xj_ifne (tgt := 31) dX12_poke_24 rfl ?_ ?_
    · exact tX12_poke_j27 _ _ _
    · refine xj_iconst (v := 0) dX12_poke_31 ci_0 ?_
      exact tX12_poke_j32 _ _ _ _
theorem kX12_poke (p1 : Int32) (p2 : Int32) (w : xW) : xMet jI mX12_poke lM (0, 0) [.ref 0, .int p1, .int p2] w (sX12_poke p1 p2 w) := xj_met lM_ok (by decide) (Nat.le_of_ble_eq_true rfl) (Nat.zero_le _) (Nat.zero_le _) (tX12_poke p1 p2 w)
set_option maxRecDepth 20000 in
def sX12_peek_j25 (a1 : Int32) (w : xW) : Option (Int32 × xW) :=
  xbd (sX12_byteAt a1.toInt64 w) (fun x1 w2 => some (x1, w2))
set_option maxRecDepth 20000 in
theorem tX12_peek_j25 (a1 : Int32) (w : xW) : xJ ιI mX12_peek lM (0, 0) 25 [(0, .ref 0), (1, .int a1)] [] w (sX12_peek_j25 a1 w) := by
  unfold sX12_peek_j25
  refine xj_aloadn 0 dX12_peek_25 rfl rfl ?_
  refine xj_iloadn 1 dX12_peek_26 rfl rfl ?_
  refine xj_i2l dX12_peek_27 ?_
  refine xj_cVi (argv := [.long a1.toInt64]) (rest := []) dX12_peek_28 (kX12_byteAt a1.toInt64 w) mkX12_byteAt tw2256 rfl rfl rfl rfl rfl rfl (fun x1 w2 => ?_)
  refine xj_goto (tgt := 35) dX12_peek_31 rfl ?_
  exact xj_ri dX12_peek_35 rfl
set_option maxRecDepth 20000 in
def sX12_peek (p1 : Int32) (w : xW) : Option (Int32 × xW) :=
  xbd (sX12_inData p1.toInt64 (1 : Int32) (xwi w 0 0 (0 : Int32))) (fun x1 w2 => (if x1 = 0 then xbd (sX12_inImage p1.toInt64 (1 : Int32) w2) (fun x3 w4 => (if x3 = 0 then some ((-1 : Int32), w4) else sX12_peek_j25 p1 w4)) else sX12_peek_j25 p1 w2))
set_option maxRecDepth 20000 in
theorem tX12_peek (p1 : Int32) (w : xW) : xJ ιI mX12_peek lM (0, 0) 0 [(0, .ref 0), (1, .int p1)] [] w (sX12_peek p1 w) := by
  unfold sX12_peek
  refine xj_aloadn 0 dX12_peek_0 rfl rfl ?_
  refine xj_iconst (v := 0) dX12_peek_1 ci_0 ?_
  refine pfX12_53 dX12_peek_2 rfl ?_
  refine xj_aloadn 0 dX12_peek_5 rfl rfl ?_
  refine xj_iloadn 1 dX12_peek_6 rfl rfl ?_
  refine xj_i2l dX12_peek_7 ?_
  refine xj_iconst (v := 1) dX12_peek_8 ci_1 ?_
  refine xj_cVi (argv := [.long p1.toInt64, .int (1 : Int32)]) (rest := []) dX12_peek_9 (kX12_inData p1.toInt64 (1 : Int32) (xwi w 0 0 (0 : Int32))) mkX12_inData tw2248 rfl rfl rfl rfl rfl rfl (fun x1 w2 => ?_)
  refine xj_ifne (tgt := 25) dX12_peek_12 rfl ?_ ?_
  · refine xj_aloadn 0 dX12_peek_15 rfl rfl ?_
    refine xj_iloadn 1 dX12_peek_16 rfl rfl ?_
    refine xj_i2l dX12_peek_17 ?_
    refine xj_iconst (v := 1) dX12_peek_18 ci_1 ?_
    refine xj_cVi (argv := [.long p1.toInt64, .int (1 : Int32)]) (rest := []) dX12_peek_19 (kX12_inImage p1.toInt64 (1 : Int32) w2) mkX12_inImage tw2252 rfl rfl rfl rfl rfl rfl (fun x3 w4 => ?_)
    refine xj_ifeq (tgt := 34) dX12_peek_22 rfl ?_ ?_
    · refine xj_iconst (v := -1) dX12_peek_34 ci_m1 ?_
      exact xj_ri dX12_peek_35 rfl
    · exact tX12_peek_j25 _ _
  · exact tX12_peek_j25 _ _
theorem kX12_peek (p1 : Int32) (w : xW) : xMet jI mX12_peek lM (0, 0) [.ref 0, .int p1] w (sX12_peek p1 w) := xj_met lM_ok (by decide) (Nat.le_of_ble_eq_true rfl) (Nat.zero_le _) (Nat.zero_le _) (tX12_peek p1 w)
set_option maxRecDepth 20000 in
def sX12_give_l47 : Nat → Int32 → Int64 → Int32 → xW → Option (Int32 × xW)
  | 0, _, _, _, _ => none
  | n + 1, a1, a2, a4, w =>
  (if a4 < a1 then (if ¬ (256 : Int32) = 0 then (if xin (((w.1 0 5) + (w.1 0 6)) - ((w.1 0 5) + (w.1 0 6)) / (256 : Int32) * (256 : Int32)) 256 then (sX12_give_l47 n) a1 a2 (a4 + (1 : Int32)) (xwi (xwi w 3 ((((w.1 0 5) + (w.1 0 6)) - ((w.1 0 5) + (w.1 0 6)) / (256 : Int32) * (256 : Int32)).toNatClampNeg) (((xlshr a2 ((8 : Int32) * a4)) &&& (255 : Int64)).toInt32)) 0 6 ((w.1 0 6) + (1 : Int32))) else none) else none) else some ((w.1 0 6), w))
set_option maxRecDepth 20000 in
theorem tX12_give_l47 : ∀ (n : Nat) (a1 : Int32) (a2 : Int64) (a4 : Int32) (w : xW), xJ ιI mX12_give lM (0, 0) 47 [(0, .ref 0), (1, .int a1), (2, .long a2), (4, .int a4)] [] w (sX12_give_l47 n a1 a2 a4 w) := by
  intro n
  induction n with
  | zero => intros; exact xj_none
  | succ n ih =>
    intro a1 a2 a4 w
    rw [sX12_give_l47]
    refine xj_iload 3 dX12_give_47 rfl ?_
    refine xj_iloadn 1 dX12_give_49 rfl rfl ?_
    refine xj_ige (tgt := 99) dX12_give_50 rfl ?_ ?_
    · refine xj_aloadn 0 dX12_give_53 rfl rfl ?_
      refine gfX12_17 dX12_give_54 rfl ?_
      refine xj_aloadn 0 dX12_give_57 rfl rfl ?_
      refine gfX12_404 (v := (w.1 0 5)) dX12_give_58 rfl rfl ?_
      refine xj_aloadn 0 dX12_give_61 rfl rfl ?_
      refine gfX12_401 (v := (w.1 0 6)) dX12_give_62 rfl rfl ?_
      refine xj_iadd dX12_give_65 ?_
      refine xj_sipush (v := 256) dX12_give_66 cs_256 ?_
      refine xj_irem dX12_give_69 ?_
      refine xj_lloadn 2 dX12_give_70 rfl rfl ?_
      refine xj_bipush (v := 8) dX12_give_71 cb_8 ?_
      refine xj_iload 3 dX12_give_73 rfl ?_
      refine xj_imul dX12_give_75 ?_
      refine xj_lshr dX12_give_76 ?_
      refine xj_ldc2 (v := 255) tw2230 dX12_give_77 ?_
      refine xj_land dX12_give_80 ?_
      refine xj_l2i dX12_give_81 ?_
      refine xj_iast (k := 3) dX12_give_82 rfl ?_
      refine xj_aloadn 0 dX12_give_83 rfl rfl ?_
      refine xj_dup dX12_give_84 rfl ?_
      refine gfX12_401 (v := (w.1 0 6)) dX12_give_85 rfl rfl ?_
      refine xj_iconst (v := 1) dX12_give_88 ci_1 ?_
      refine xj_iadd dX12_give_89 ?_
      refine pfX12_401 dX12_give_90 rfl ?_
      refine xj_iinc (n := 3) (lv2 := [(4, .int (a4 + (1 : Int32))), (0, .ref 0), (1, .int a1), (2, .long a2)]) dX12_give_93 rfl ci_1 (Nat.le_of_ble_eq_true rfl) rfl ?_
      refine xj_goto (tgt := 47) dX12_give_96 rfl ?_
      refine xj_sub (lv2 := [(0, .ref 0), (1, .int a1), (2, .long a2), (4, .int (a4 + (1 : Int32)))]) [1, 2, 3, 0] rfl ?_
      exact ih _ _ _ _
    · refine xj_aloadn 0 dX12_give_99 rfl rfl ?_
      refine gfX12_401 (v := (w.1 0 6)) dX12_give_100 rfl rfl ?_
      exact xj_ri dX12_give_103 rfl
set_option maxRecDepth 20000 in
def sX12_give_j18 (a1 : Int32) (a2 : Int64) (b0 : Int32) (w : xW) : Option (Int32 × xW) :=
  (if 0 < b0 then some ((0 : Int32), (xwi w 0 0 b0)) else (if (256 : Int32) < ((w.1 0 6) + a1) then some ((-1 : Int32), (xwi w 0 0 b0)) else sX12_give_l47 70000 a1 a2 (0 : Int32) (xwi w 0 0 b0)))
set_option maxRecDepth 20000 in
theorem tX12_give_j18 (a1 : Int32) (a2 : Int64) (b0 : Int32) (w : xW) : xJ ιI mX12_give lM (0, 0) 18 [(0, .ref 0), (1, .int a1), (2, .long a2)] [.int b0, .ref 0] w (sX12_give_j18 a1 a2 b0 w) := by
  unfold sX12_give_j18
  refine pfX12_53 dX12_give_18 rfl ?_
  refine xj_aloadn 0 dX12_give_21 rfl rfl ?_
  refine gfX12_53 (v := b0) dX12_give_22 rfl rfl ?_
  refine xj_ifle (tgt := 30) dX12_give_25 rfl ?_ ?_
  · refine xj_iconst (v := 0) dX12_give_28 ci_0 ?_
    exact xj_ri dX12_give_29 rfl
  · refine xj_aloadn 0 dX12_give_30 rfl rfl ?_
    refine gfX12_401 (v := (w.1 0 6)) dX12_give_31 rfl rfl ?_
    refine xj_iloadn 1 dX12_give_34 rfl rfl ?_
    refine xj_iadd dX12_give_35 ?_
    refine xj_sipush (v := 256) dX12_give_36 cs_256 ?_
    refine xj_ile (tgt := 44) dX12_give_39 rfl ?_ ?_
    · refine xj_iconst (v := -1) dX12_give_42 ci_m1 ?_
      exact xj_ri dX12_give_43 rfl
    · refine xj_iconst (v := 0) dX12_give_44 ci_0 ?_
      refine xj_istore (lv2 := [(4, .int (0 : Int32)), (0, .ref 0), (1, .int a1), (2, .long a2)]) dX12_give_45 (Nat.le_of_ble_eq_true rfl) rfl ?_
      refine xj_sub (lv2 := [(0, .ref 0), (1, .int a1), (2, .long a2), (4, .int (0 : Int32))]) [1, 2, 3, 0] rfl ?_
      exact tX12_give_l47 _ _ _ _ _
set_option maxRecDepth 20000 in
def sX12_give (p1 : Int32) (p2 : Int64) (w : xW) : Option (Int32 × xW) :=
  xbd (sX12_isIn p1.toInt64 (1 : Int64) (8 : Int64) w) (fun x1 w2 => (if x1 = 0 then sX12_give_j18 p1 p2 (1 : Int32) w2 else sX12_give_j18 p1 p2 (0 : Int32) w2))
set_option maxRecDepth 20000 in
theorem tX12_give (p1 : Int32) (p2 : Int64) (w : xW) : xJ ιI mX12_give lM (0, 0) 0 [(0, .ref 0), (1, .int p1), (2, .long p2)] [] w (sX12_give p1 p2 w) := by
  unfold sX12_give
  refine xj_aloadn 0 dX12_give_0 rfl rfl ?_
  refine xj_iloadn 1 dX12_give_1 rfl rfl ?_
  refine xj_i2l dX12_give_2 ?_
  refine xj_lconst (v := 1) dX12_give_3 cl_1 ?_
  refine xj_ldc2 (v := 8) tw2229 dX12_give_4 ?_
  refine xj_cSi (argv := [.long p1.toInt64, .long (1 : Int64), .long (8 : Int64)]) (rest := [.ref 0]) dX12_give_7 (kX12_isIn p1.toInt64 (1 : Int64) (8 : Int64) w) mkX12_isIn tw2150 rfl rfl rfl rfl (fun x1 w2 => ?_)
  refine xj_ifeq (tgt := 17) dX12_give_10 rfl ?_ ?_
  · refine xj_iconst (v := 1) dX12_give_17 ci_1 ?_
    exact tX12_give_j18 _ _ _ _
  · refine xj_iconst (v := 0) dX12_give_13 ci_0 ?_
    refine xj_goto (tgt := 18) dX12_give_14 rfl ?_
    exact tX12_give_j18 _ _ _ _
theorem kX12_give (p1 : Int32) (p2 : Int64) (w : xW) : xMet jI mX12_give lM (0, 0) [.ref 0, .int p1, .long p2] w (sX12_give p1 p2 w) := xj_met lM_ok (by decide) (Nat.le_of_ble_eq_true rfl) (Nat.zero_le _) (Nat.zero_le _) (tX12_give p1 p2 w)
set_option maxRecDepth 20000 in
def sX12_begin_l131 : Nat → Int32 → xW → Option (Unit × xW)
  | 0, _, _ => none
  | n + 1, a2, w =>
  (if a2 < (2048 : Int32) then (if xin a2 2048 then (sX12_begin_l131 n) (a2 + (1 : Int32)) (xwi w 6 a2.toNatClampNeg (0 : Int32)) else none) else some ((), w))
set_option maxRecDepth 20000 in
theorem tX12_begin_l131 : ∀ (n : Nat) (a2 : Int32) (w : xW), xJ ιV mX12_begin lM (0, 0) 131 [(0, .ref 0), (2, .int a2)] [] w (sX12_begin_l131 n a2 w) := by
  intro n
  induction n with
  | zero => intros; exact xj_none
  | succ n ih =>
    intro a2 w
    rw [sX12_begin_l131]
    refine xj_iloadn 1 dX12_begin_131 rfl rfl ?_
    refine xj_sipush (v := 2048) dX12_begin_132 cs_2048 ?_
    refine xj_ige (tgt := 151) dX12_begin_135 rfl ?_ ?_
    · refine xj_aloadn 0 dX12_begin_138 rfl rfl ?_
      refine gfX12_30 dX12_begin_139 rfl ?_
      refine xj_iloadn 1 dX12_begin_142 rfl rfl ?_
      refine xj_iconst (v := 0) dX12_begin_143 ci_0 ?_
      refine xj_iast (k := 6) dX12_begin_144 rfl ?_
      refine xj_iinc (n := 1) (lv2 := [(2, .int (a2 + (1 : Int32))), (0, .ref 0)]) dX12_begin_145 rfl ci_1 (Nat.le_of_ble_eq_true rfl) rfl ?_
      refine xj_goto (tgt := 131) dX12_begin_148 rfl ?_
      refine xj_sub (lv2 := [(0, .ref 0), (2, .int (a2 + (1 : Int32)))]) [1, 0] rfl ?_
      exact ih _ _
    · exact xj_rv dX12_begin_151 rfl
set_option maxRecDepth 20000 in
def sX12_begin_l37 : Nat → Int32 → xW → Option (Unit × xW)
  | 0, _, _ => none
  | n + 1, a2, w =>
  (if a2 < (8 : Int32) then (if a2 = (4 : Int32) then (if xin a2 8 then (sX12_begin_l37 n) (a2 + (1 : Int32)) (xwi w 9 a2.toNatClampNeg (131072 : Int32)) else none) else (if xin a2 8 then (sX12_begin_l37 n) (a2 + (1 : Int32)) (xwi w 9 a2.toNatClampNeg (0 : Int32)) else none)) else sX12_begin_l131 70000 (0 : Int32) (xwi (xwl (xwi (xwi (xwi (xwi (xwi (xwi (xwi (xwi (xwi (xwi w 0 36 (0 : Int32)) 0 37 (0 : Int32)) 0 38 (0 : Int32)) 0 39 (0 : Int32)) 0 40 (0 : Int32)) 0 34 (4096 : Int32)) 0 33 (1 : Int32)) 0 41 (0 : Int32)) 0 42 (65536 : Int32)) 0 43 (0 : Int32)) 0 44 (0 : Int64)) 0 8 (0 : Int32)))
set_option maxRecDepth 20000 in
theorem tX12_begin_l37 : ∀ (n : Nat) (a2 : Int32) (w : xW), xJ ιV mX12_begin lM (0, 0) 37 [(0, .ref 0), (2, .int a2)] [] w (sX12_begin_l37 n a2 w) := by
  intro n
  induction n with
  | zero => intros; exact xj_none
  | succ n ih =>
    intro a2 w
    rw [sX12_begin_l37]
    refine xj_iloadn 1 dX12_begin_37 rfl rfl ?_
    refine xj_bipush (v := 8) dX12_begin_38 cb_8 ?_
    refine xj_ige (tgt := 66) dX12_begin_40 rfl ?_ ?_
    · refine xj_aloadn 0 dX12_begin_43 rfl rfl ?_
      refine gfX12_44 dX12_begin_44 rfl ?_
      refine xj_iloadn 1 dX12_begin_47 rfl rfl ?_
      refine xj_iloadn 1 dX12_begin_48 rfl rfl ?_
      refine xj_iconst (v := 4) dX12_begin_49 ci_4 ?_
      refine xj_ine (tgt := 58) dX12_begin_50 rfl ?_ ?_
      · refine xj_ldc (v := 131072) tw1901 dX12_begin_53 ?_
        refine xj_goto (tgt := 59) dX12_begin_55 rfl ?_
        refine xj_iast (k := 9) dX12_begin_59 rfl ?_
        refine xj_iinc (n := 1) (lv2 := [(2, .int (a2 + (1 : Int32))), (0, .ref 0)]) dX12_begin_60 rfl ci_1 (Nat.le_of_ble_eq_true rfl) rfl ?_
        refine xj_goto (tgt := 37) dX12_begin_63 rfl ?_
        refine xj_sub (lv2 := [(0, .ref 0), (2, .int (a2 + (1 : Int32)))]) [1, 0] rfl ?_
        exact ih _ _
      · refine xj_iconst (v := 0) dX12_begin_58 ci_0 ?_
        refine xj_iast (k := 9) dX12_begin_59 rfl ?_
        refine xj_iinc (n := 1) (lv2 := [(2, .int (a2 + (1 : Int32))), (0, .ref 0)]) dX12_begin_60 rfl ci_1 (Nat.le_of_ble_eq_true rfl) rfl ?_
        refine xj_goto (tgt := 37) dX12_begin_63 rfl ?_
        refine xj_sub (lv2 := [(0, .ref 0), (2, .int (a2 + (1 : Int32)))]) [1, 0] rfl ?_
        exact ih _ _
    · refine xj_aloadn 0 dX12_begin_66 rfl rfl ?_
      refine xj_iconst (v := 0) dX12_begin_67 ci_0 ?_
      refine pfX12_320 dX12_begin_68 rfl (Or.inl rfl) ?_
      refine xj_aloadn 0 dX12_begin_71 rfl rfl ?_
      refine xj_iconst (v := 0) dX12_begin_72 ci_0 ?_
      refine pfX12_317 dX12_begin_73 rfl (Or.inl rfl) ?_
      refine xj_aloadn 0 dX12_begin_76 rfl rfl ?_
      refine xj_iconst (v := 0) dX12_begin_77 ci_0 ?_
      refine pfX12_307 dX12_begin_78 rfl (Or.inl rfl) ?_
      refine xj_aloadn 0 dX12_begin_81 rfl rfl ?_
      refine xj_iconst (v := 0) dX12_begin_82 ci_0 ?_
      refine pfX12_314 dX12_begin_83 rfl (Or.inl rfl) ?_
      refine xj_aloadn 0 dX12_begin_86 rfl rfl ?_
      refine xj_iconst (v := 0) dX12_begin_87 ci_0 ?_
      refine pfX12_323 dX12_begin_88 rfl (Or.inl rfl) ?_
      refine xj_aloadn 0 dX12_begin_91 rfl rfl ?_
      refine xj_sipush (v := 4096) dX12_begin_92 cs_4096 ?_
      refine pfX12_40 dX12_begin_95 rfl ?_
      refine xj_aloadn 0 dX12_begin_98 rfl rfl ?_
      refine xj_iconst (v := 1) dX12_begin_99 ci_1 ?_
      refine pfX12_395 dX12_begin_100 rfl ?_
      refine xj_aloadn 0 dX12_begin_103 rfl rfl ?_
      refine xj_iconst (v := 0) dX12_begin_104 ci_0 ?_
      refine pfX12_392 dX12_begin_105 rfl ?_
      refine xj_aloadn 0 dX12_begin_108 rfl rfl ?_
      refine xj_ldc (v := 65536) tw1900 dX12_begin_109 ?_
      refine pfX12_47 dX12_begin_111 rfl ?_
      refine xj_aloadn 0 dX12_begin_114 rfl rfl ?_
      refine xj_iconst (v := 0) dX12_begin_115 ci_0 ?_
      refine pfX12_411 dX12_begin_116 rfl ?_
      refine xj_aloadn 0 dX12_begin_119 rfl rfl ?_
      refine xj_lconst (v := 0) dX12_begin_120 cl_0 ?_
      refine pfX12_407 dX12_begin_121 rfl ?_
      refine xj_aloadn 0 dX12_begin_124 rfl rfl ?_
      refine xj_iconst (v := 0) dX12_begin_125 ci_0 ?_
      refine pfX12_398 dX12_begin_126 rfl ?_
      refine xj_iconst (v := 0) dX12_begin_129 ci_0 ?_
      refine xj_istoren (lv2 := [(2, .int (0 : Int32)), (0, .ref 0)]) dX12_begin_130 rfl (Nat.le_of_ble_eq_true rfl) rfl ?_
      refine xj_sub (lv2 := [(0, .ref 0), (2, .int (0 : Int32))]) [1, 0] rfl ?_
      exact tX12_begin_l131 _ _ _
set_option maxRecDepth 20000 in
def sX12_begin_j24 (b0 : Int32) (w : xW) : Option (Unit × xW) :=
  (if 0 < b0 then some ((), (xwi w 0 0 b0)) else sX12_begin_l37 70000 (0 : Int32) (xwi w 0 0 b0))
set_option maxRecDepth 20000 in
theorem tX12_begin_j24 (b0 : Int32) (w : xW) : xJ ιV mX12_begin lM (0, 0) 24 [(0, .ref 0)] [.int b0, .ref 0] w (sX12_begin_j24 b0 w) := by
  unfold sX12_begin_j24
  refine pfX12_53 dX12_begin_24 rfl ?_
  refine xj_aloadn 0 dX12_begin_27 rfl rfl ?_
  refine gfX12_53 (v := b0) dX12_begin_28 rfl rfl ?_
  refine xj_ifle (tgt := 35) dX12_begin_31 rfl ?_ ?_
  · exact xj_rv dX12_begin_34 rfl
  · refine xj_iconst (v := 0) dX12_begin_35 ci_0 ?_
    refine xj_istoren (lv2 := [(2, .int (0 : Int32)), (0, .ref 0)]) dX12_begin_36 rfl (Nat.le_of_ble_eq_true rfl) rfl ?_
    refine xj_sub (lv2 := [(0, .ref 0), (2, .int (0 : Int32))]) [1, 0] rfl ?_
    exact tX12_begin_l37 _ _ _
set_option maxRecDepth 20000 in
def sX12_begin_j19 (w : xW) : Option (Unit × xW) :=
  sX12_begin_j24 (1 : Int32) w
set_option maxRecDepth 20000 in
theorem tX12_begin_j19 (w : xW) : xJ ιV mX12_begin lM (0, 0) 19 [(0, .ref 0)] [.ref 0] w (sX12_begin_j19 w) := by
  unfold sX12_begin_j19
  refine xj_iconst (v := 1) dX12_begin_19 ci_1 ?_
  refine xj_goto (tgt := 24) dX12_begin_20 rfl ?_
  exact tX12_begin_j24 _ _
set_option maxRecDepth 20000 in
def sX12_begin_j12 (w : xW) : Option (Unit × xW) :=
  (if (w.1 0 2) = 0 then sX12_begin_j19 w else sX12_begin_j24 (0 : Int32) w)
set_option maxRecDepth 20000 in
theorem tX12_begin_j12 (w : xW) : xJ ιV mX12_begin lM (0, 0) 12 [(0, .ref 0)] [.ref 0] w (sX12_begin_j12 w) := by
  unfold sX12_begin_j12
  refine xj_aloadn 0 dX12_begin_12 rfl rfl ?_
  refine gfX12_59 (v := (w.1 0 2)) dX12_begin_13 rfl rfl ?_
  refine xj_ifne (tgt := 23) dX12_begin_16 rfl ?_ ?_
  · exact tX12_begin_j19 _
  · refine xj_iconst (v := 0) dX12_begin_23 ci_0 ?_
    exact tX12_begin_j24 _ _
set_option maxRecDepth 20000 in
def sX12_begin (p1 : Int32) (w : xW) : Option (Unit × xW) :=
  (if (w.1 0 9) = 0 then (if p1 = 0 then sX12_begin_j19 w else sX12_begin_j12 w) else sX12_begin_j12 w)
set_option maxRecDepth 20000 in
theorem tX12_begin (p1 : Int32) (w : xW) : xJ ιV mX12_begin lM (0, 0) 0 [(0, .ref 0), (1, .int p1)] [] w (sX12_begin p1 w) := by
  unfold sX12_begin
  refine xj_aloadn 0 dX12_begin_0 rfl rfl ?_
  refine xj_aloadn 0 dX12_begin_1 rfl rfl ?_
  refine gfX12_195 (v := (w.1 0 9)) dX12_begin_2 rfl rfl ?_
  refine xj_ifne (tgt := 12) dX12_begin_5 rfl ?_ ?_
  · refine xj_iloadn 1 dX12_begin_8 rfl rfl ?_
    refine xj_ifeq (tgt := 19) dX12_begin_9 rfl ?_ ?_
    · refine xj_sub (lv2 := [(0, .ref 0)]) [0] rfl ?_
      exact tX12_begin_j19 _
    · refine xj_sub (lv2 := [(0, .ref 0)]) [0] rfl ?_
      exact tX12_begin_j12 _
  · refine xj_sub (lv2 := [(0, .ref 0)]) [0] rfl ?_
    exact tX12_begin_j12 _
theorem kX12_begin (p1 : Int32) (w : xW) : xMet jV mX12_begin lM (0, 0) [.ref 0, .int p1] w (sX12_begin p1 w) := xj_met lM_ok (by decide) (Nat.le_of_ble_eq_true rfl) (Nat.zero_le _) (Nat.zero_le _) (tX12_begin p1 w)
set_option maxRecDepth 20000 in
def sX12_run_j152 (K75 : Int32 → Int32 → Int32 → xW → Option (Int32 × xW)) (a1 : Int32) (b0 : Int32) (b1 : Int32) (w : xW) : Option (Int32 × xW) :=
  K75 a1 (b1 + b0) (0 : Int32) w
set_option maxRecDepth 20000 in
theorem tX12_run_j152 (K75 : Int32 → Int32 → Int32 → xW → Option (Int32 × xW)) (hK75 : ∀ (a1 : Int32) (a2 : Int32) (a3 : Int32) (w : xW), xJ ιI mX12_run lM (0, 0) 75 [(0, .ref 0), (1, .int a1), (2, .int a2), (3, .int a3)] [] w (K75 a1 a2 a3 w)) (a1 : Int32) (b0 : Int32) (b1 : Int32) (w : xW) : xJ ιI mX12_run lM (0, 0) 152 [(0, .ref 0), (1, .int a1)] [.int b0, .int b1] w (sX12_run_j152 K75 a1 b0 b1 w) := by
  unfold sX12_run_j152
  refine xj_iadd dX12_run_152 ?_
  refine xj_istoren (lv2 := [(2, .int (b1 + b0)), (0, .ref 0), (1, .int a1)]) dX12_run_153 rfl (Nat.le_of_ble_eq_true rfl) rfl ?_
  refine xj_iconst (v := 0) dX12_run_154 ci_0 ?_
  refine xj_istoren (lv2 := [(3, .int (0 : Int32)), (2, .int (b1 + b0)), (0, .ref 0), (1, .int a1)]) dX12_run_155 rfl (Nat.le_of_ble_eq_true rfl) rfl ?_
  refine xj_goto (tgt := 75) dX12_run_156 rfl ?_
  refine xj_sub (lv2 := [(0, .ref 0), (1, .int a1), (2, .int (b1 + b0)), (3, .int (0 : Int32))]) [2, 3, 1, 0] rfl ?_
  exact hK75 _ _ _ _
set_option maxRecDepth 20000 in
def sX12_run_j139 (K75 : Int32 → Int32 → Int32 → xW → Option (Int32 × xW)) (a1 : Int32) (a2 : Int32) (w : xW) : Option (Int32 × xW) :=
  xbd (sX12_step w) (fun x1 w2 => (if x1 = 0 then sX12_run_j152 K75 a1 (0 : Int32) a2 w2 else sX12_run_j152 K75 a1 (1 : Int32) a2 w2))
set_option maxRecDepth 20000 in
theorem tX12_run_j139 (K75 : Int32 → Int32 → Int32 → xW → Option (Int32 × xW)) (hK75 : ∀ (a1 : Int32) (a2 : Int32) (a3 : Int32) (w : xW), xJ ιI mX12_run lM (0, 0) 75 [(0, .ref 0), (1, .int a1), (2, .int a2), (3, .int a3)] [] w (K75 a1 a2 a3 w)) (a1 : Int32) (a2 : Int32) (w : xW) : xJ ιI mX12_run lM (0, 0) 139 [(0, .ref 0), (1, .int a1), (2, .int a2)] [] w (sX12_run_j139 K75 a1 a2 w) := by
  unfold sX12_run_j139
  refine xj_iloadn 2 dX12_run_139 rfl rfl ?_
  refine xj_aloadn 0 dX12_run_140 rfl rfl ?_
  refine xj_cVi (argv := []) (rest := [.int a2]) dX12_run_141 (kX12_step w) mkX12_step tw2273 rfl rfl rfl rfl rfl rfl (fun x1 w2 => ?_)
  refine xj_ifeq (tgt := 151) dX12_run_144 rfl ?_ ?_
  · refine xj_iconst (v := 0) dX12_run_151 ci_0 ?_
    refine xj_sub (lv2 := [(0, .ref 0), (1, .int a1)]) [0, 1] rfl ?_
    exact tX12_run_j152 K75 hK75 _ _ _ _
  · refine xj_iconst (v := 1) dX12_run_147 ci_1 ?_
    refine xj_goto (tgt := 152) dX12_run_148 rfl ?_
    refine xj_sub (lv2 := [(0, .ref 0), (1, .int a1)]) [0, 1] rfl ?_
    exact tX12_run_j152 K75 hK75 _ _ _ _
set_option maxRecDepth 20000 in
def sX12_run_l75 : Nat → Int32 → Int32 → Int32 → xW → Option (Int32 × xW)
  | 0, _, _, _, _ => none
  | n + 1, a1, a2, a3, w =>
  (if a2 < a1 then (if (w.1 0 33) = (1 : Int32) then xlet (((w.1 0 34).toInt64 &&& (4294967295 : Int64)) - (4096 : Int64)) (fun x1 => (if a3 = 0 then xbd (sX12_isIn x1 (0 : Int64) (2047 : Int64) w) (fun x2 w3 => (if x2 = 0 then sX12_run_j139 (sX12_run_l75 n) a1 a2 w3 else (if xin x1.toInt32 2048 then (if (w3.1 7 x1.toInt32.toNatClampNeg) = 0 then sX12_run_j139 (sX12_run_l75 n) a1 a2 w3 else (sX12_run_l75 n) a1 a2 (0 : Int32) (xwi w3 0 33 (8 : Int32))) else none))) else sX12_run_j139 (sX12_run_l75 n) a1 a2 w)) else some (a2, w)) else some (a2, w))
set_option maxRecDepth 20000 in
theorem tX12_run_l75 : ∀ (n : Nat) (a1 : Int32) (a2 : Int32) (a3 : Int32) (w : xW), xJ ιI mX12_run lM (0, 0) 75 [(0, .ref 0), (1, .int a1), (2, .int a2), (3, .int a3)] [] w (sX12_run_l75 n a1 a2 a3 w) := by
  intro n
  induction n with
  | zero => intros; exact xj_none
  | succ n ih =>
    intro a1 a2 a3 w
    rw [sX12_run_l75]
    refine xj_iloadn 2 dX12_run_75 rfl rfl ?_
    refine xj_iloadn 1 dX12_run_76 rfl rfl ?_
    refine xj_ige (tgt := 159) dX12_run_77 rfl ?_ ?_
    · refine xj_aloadn 0 dX12_run_80 rfl rfl ?_
      refine gfX12_395 (v := (w.1 0 33)) dX12_run_81 rfl rfl ?_
      refine xj_iconst (v := 1) dX12_run_84 ci_1 ?_
      refine xj_ine (tgt := 159) dX12_run_85 rfl ?_ ?_
      · refine xj_aloadn 0 dX12_run_88 rfl rfl ?_
        refine gfX12_40 (v := (w.1 0 34)) dX12_run_89 rfl rfl ?_
        refine xj_i2l dX12_run_92 ?_
        refine xj_ldc2 (v := 4294967295) tw2157 dX12_run_93 ?_
        refine xj_land dX12_run_96 ?_
        refine xj_ldc2 (v := 4096) tw2160 dX12_run_97 ?_
        refine xj_lsub dX12_run_100 ?_
        refine xj_letl (fun x1 => ?_)
        refine xj_lstore (lv2 := [(4, .long x1), (0, .ref 0), (1, .int a1), (2, .int a2), (3, .int a3)]) dX12_run_101 (Nat.le_of_ble_eq_true rfl) rfl ?_
        refine xj_iloadn 4 dX12_run_103 rfl rfl ?_
        refine xj_ifne (tgt := 139) dX12_run_104 rfl ?_ ?_
        · refine xj_lload 0 dX12_run_107 rfl ?_
          refine xj_lconst (v := 0) dX12_run_109 cl_0 ?_
          refine xj_ldc2 (v := 2047) tw2149 dX12_run_110 ?_
          refine xj_cSi (argv := [.long x1, .long (0 : Int64), .long (2047 : Int64)]) (rest := []) dX12_run_113 (kX12_isIn x1 (0 : Int64) (2047 : Int64) w) mkX12_isIn tw2150 rfl rfl rfl rfl (fun x2 w3 => ?_)
          refine xj_ifeq (tgt := 139) dX12_run_116 rfl ?_ ?_
          · refine xj_sub (lv2 := [(0, .ref 0), (1, .int a1), (2, .int a2)]) [1, 2, 3] rfl ?_
            exact tX12_run_j139 (sX12_run_l75 n) ih _ _ _
          · refine xj_aloadn 1 dX12_run_119 rfl rfl ?_
            refine gfX12_33 dX12_run_120 rfl ?_
            refine xj_lload 0 dX12_run_123 rfl ?_
            refine xj_l2i dX12_run_125 ?_
            refine xj_zald (k := 7) dX12_run_126 rfl ?_
            refine xj_ifeq (tgt := 139) dX12_run_127 rfl ?_ ?_
            · refine xj_sub (lv2 := [(0, .ref 0), (1, .int a1), (2, .int a2)]) [1, 2, 3] rfl ?_
              exact tX12_run_j139 (sX12_run_l75 n) ih _ _ _
            · refine xj_aloadn 1 dX12_run_130 rfl rfl ?_
              refine xj_bipush (v := 8) dX12_run_131 cb_8 ?_
              refine pfX12_395 dX12_run_133 rfl ?_
              refine xj_goto (tgt := 154) dX12_run_136 rfl ?_
              refine xj_iconst (v := 0) dX12_run_154 ci_0 ?_
              refine xj_istoren (lv2 := [(3, .int (0 : Int32)), (4, .long x1), (0, .ref 0), (1, .int a1), (2, .int a2)]) dX12_run_155 rfl (Nat.le_of_ble_eq_true rfl) rfl ?_
              refine xj_goto (tgt := 75) dX12_run_156 rfl ?_
              refine xj_sub (lv2 := [(0, .ref 0), (1, .int a1), (2, .int a2), (3, .int (0 : Int32))]) [2, 3, 4, 0] rfl ?_
              exact ih _ _ _ _
        · refine xj_sub (lv2 := [(0, .ref 0), (1, .int a1), (2, .int a2)]) [1, 2, 3] rfl ?_
          exact tX12_run_j139 (sX12_run_l75 n) ih _ _ _
      · refine xj_iloadn 2 dX12_run_159 rfl rfl ?_
        exact xj_ri dX12_run_160 rfl
    · refine xj_iloadn 2 dX12_run_159 rfl rfl ?_
      exact xj_ri dX12_run_160 rfl
set_option maxRecDepth 20000 in
def sX12_run_j68 (a1 : Int32) (b0 : Int32) (w : xW) : Option (Int32 × xW) :=
  sX12_run_l75 70000 a1 (0 : Int32) (1 : Int32) (xwi w 0 33 b0)
set_option maxRecDepth 20000 in
theorem tX12_run_j68 (a1 : Int32) (b0 : Int32) (w : xW) : xJ ιI mX12_run lM (0, 0) 68 [(0, .ref 0), (1, .int a1)] [.int b0, .ref 0] w (sX12_run_j68 a1 b0 w) := by
  unfold sX12_run_j68
  refine pfX12_395 dX12_run_68 rfl ?_
  refine xj_iconst (v := 0) dX12_run_71 ci_0 ?_
  refine xj_istoren (lv2 := [(2, .int (0 : Int32)), (0, .ref 0), (1, .int a1)]) dX12_run_72 rfl (Nat.le_of_ble_eq_true rfl) rfl ?_
  refine xj_iconst (v := 1) dX12_run_73 ci_1 ?_
  refine xj_istoren (lv2 := [(3, .int (1 : Int32)), (2, .int (0 : Int32)), (0, .ref 0), (1, .int a1)]) dX12_run_74 rfl (Nat.le_of_ble_eq_true rfl) rfl ?_
  refine xj_sub (lv2 := [(0, .ref 0), (1, .int a1), (2, .int (0 : Int32)), (3, .int (1 : Int32))]) [2, 3, 1, 0] rfl ?_
  exact tX12_run_l75 _ _ _ _ _
set_option maxRecDepth 20000 in
def sX12_run_j60 (a1 : Int32) (w : xW) : Option (Int32 × xW) :=
  sX12_run_j68 a1 (1 : Int32) w
set_option maxRecDepth 20000 in
theorem tX12_run_j60 (a1 : Int32) (w : xW) : xJ ιI mX12_run lM (0, 0) 60 [(0, .ref 0), (1, .int a1)] [.ref 0] w (sX12_run_j60 a1 w) := by
  unfold sX12_run_j60
  refine xj_iconst (v := 1) dX12_run_60 ci_1 ?_
  refine xj_goto (tgt := 68) dX12_run_61 rfl ?_
  exact tX12_run_j68 _ _ _
set_option maxRecDepth 20000 in
def sX12_run_j29 (a1 : Int32) (b0 : Int32) (w : xW) : Option (Int32 × xW) :=
  (if 0 < b0 then some ((0 : Int32), (xwi w 0 0 b0)) else (if (w.1 0 33) = (7 : Int32) then sX12_run_j60 a1 (xwi w 0 0 b0) else (if (w.1 0 33) = (8 : Int32) then sX12_run_j60 a1 (xwi w 0 0 b0) else sX12_run_j68 a1 (w.1 0 33) (xwi w 0 0 b0))))
set_option maxRecDepth 20000 in
theorem tX12_run_j29 (a1 : Int32) (b0 : Int32) (w : xW) : xJ ιI mX12_run lM (0, 0) 29 [(0, .ref 0), (1, .int a1)] [.int b0, .ref 0] w (sX12_run_j29 a1 b0 w) := by
  unfold sX12_run_j29
  refine pfX12_53 dX12_run_29 rfl ?_
  refine xj_aloadn 0 dX12_run_32 rfl rfl ?_
  refine gfX12_53 (v := b0) dX12_run_33 rfl rfl ?_
  refine xj_ifle (tgt := 41) dX12_run_36 rfl ?_ ?_
  · refine xj_iconst (v := 0) dX12_run_39 ci_0 ?_
    exact xj_ri dX12_run_40 rfl
  · refine xj_aloadn 0 dX12_run_41 rfl rfl ?_
    refine xj_aloadn 0 dX12_run_42 rfl rfl ?_
    refine gfX12_395 (v := (w.1 0 33)) dX12_run_43 rfl rfl ?_
    refine xj_bipush (v := 7) dX12_run_46 cb_7 ?_
    refine xj_ieq (tgt := 60) dX12_run_48 rfl ?_ ?_
    · exact tX12_run_j60 _ _
    · refine xj_aloadn 0 dX12_run_51 rfl rfl ?_
      refine gfX12_395 (v := (w.1 0 33)) dX12_run_52 rfl rfl ?_
      refine xj_bipush (v := 8) dX12_run_55 cb_8 ?_
      refine xj_ine (tgt := 64) dX12_run_57 rfl ?_ ?_
      · exact tX12_run_j60 _ _
      · refine xj_aloadn 0 dX12_run_64 rfl rfl ?_
        refine gfX12_395 (v := (w.1 0 33)) dX12_run_65 rfl rfl ?_
        exact tX12_run_j68 _ _ _
set_option maxRecDepth 20000 in
def sX12_run (p1 : Int32) (w : xW) : Option (Int32 × xW) :=
  xbd (sX12_isIn p1.toInt64 (0 : Int64) (10000 : Int64) w) (fun x1 w2 => (if x1 = 0 then sX12_run_j29 p1 (1 : Int32) w2 else (if (w2.1 0 33) = 0 then sX12_run_j29 p1 (2 : Int32) w2 else sX12_run_j29 p1 (0 : Int32) w2)))
set_option maxRecDepth 20000 in
theorem tX12_run (p1 : Int32) (w : xW) : xJ ιI mX12_run lM (0, 0) 0 [(0, .ref 0), (1, .int p1)] [] w (sX12_run p1 w) := by
  unfold sX12_run
  refine xj_aloadn 0 dX12_run_0 rfl rfl ?_
  refine xj_iloadn 1 dX12_run_1 rfl rfl ?_
  refine xj_i2l dX12_run_2 ?_
  refine xj_lconst (v := 0) dX12_run_3 cl_0 ?_
  refine xj_ldc2 (v := 10000) tw2272 dX12_run_4 ?_
  refine xj_cSi (argv := [.long p1.toInt64, .long (0 : Int64), .long (10000 : Int64)]) (rest := [.ref 0]) dX12_run_7 (kX12_isIn p1.toInt64 (0 : Int64) (10000 : Int64) w) mkX12_isIn tw2150 rfl rfl rfl rfl (fun x1 w2 => ?_)
  refine xj_ifne (tgt := 17) dX12_run_10 rfl ?_ ?_
  · refine xj_iconst (v := 1) dX12_run_13 ci_1 ?_
    refine xj_goto (tgt := 29) dX12_run_14 rfl ?_
    exact tX12_run_j29 _ _ _
  · refine xj_aloadn 0 dX12_run_17 rfl rfl ?_
    refine gfX12_395 (v := (w2.1 0 33)) dX12_run_18 rfl rfl ?_
    refine xj_ifne (tgt := 28) dX12_run_21 rfl ?_ ?_
    · refine xj_iconst (v := 2) dX12_run_24 ci_2 ?_
      refine xj_goto (tgt := 29) dX12_run_25 rfl ?_
      exact tX12_run_j29 _ _ _
    · refine xj_iconst (v := 0) dX12_run_28 ci_0 ?_
      exact tX12_run_j29 _ _ _
theorem kX12_run (p1 : Int32) (w : xW) : xMet jI mX12_run lM (0, 0) [.ref 0, .int p1] w (sX12_run p1 w) := xj_met lM_ok (by decide) (Nat.le_of_ble_eq_true rfl) (Nat.zero_le _) (Nat.zero_le _) (tX12_run p1 w)
set_option maxRecDepth 20000 in
def sX12_stop_j18 (a1 : Int32) (a2 : Int32) (b0 : Int32) (w : xW) : Option (Int32 × xW) :=
  (if 0 < b0 then some ((0 : Int32), (xwi w 0 0 b0)) else (if xin a1 2048 then (if xin a1 2048 ∧ xz a2 then (if xz (w.1 7 a1.toNatClampNeg) then some ((w.1 7 a1.toNatClampNeg), (xwi (xwi w 0 0 b0) 7 a1.toNatClampNeg a2)) else none) else none) else none))
set_option maxRecDepth 20000 in
theorem tX12_stop_j18 (a1 : Int32) (a2 : Int32) (b0 : Int32) (w : xW) : xJ ιI mX12_stop lM (0, 0) 18 [(0, .ref 0), (1, .int a1), (2, .int a2)] [.int b0, .ref 0] w (sX12_stop_j18 a1 a2 b0 w) := by
  unfold sX12_stop_j18
  refine pfX12_53 dX12_stop_18 rfl ?_
  refine xj_aloadn 0 dX12_stop_21 rfl rfl ?_
  refine gfX12_53 (v := b0) dX12_stop_22 rfl rfl ?_
  refine xj_ifle (tgt := 30) dX12_stop_25 rfl ?_ ?_
  · refine xj_iconst (v := 0) dX12_stop_28 ci_0 ?_
    exact xj_rz dX12_stop_29 rfl (Or.inl rfl)
  · refine xj_aloadn 0 dX12_stop_30 rfl rfl ?_
    refine gfX12_33 dX12_stop_31 rfl ?_
    refine xj_iloadn 1 dX12_stop_34 rfl rfl ?_
    refine xj_zald (k := 7) dX12_stop_35 rfl ?_
    refine xj_istoren (lv2 := [(3, .int (w.1 7 a1.toNatClampNeg)), (0, .ref 0), (1, .int a1), (2, .int a2)]) dX12_stop_36 rfl (Nat.le_of_ble_eq_true rfl) rfl ?_
    refine xj_aloadn 1 dX12_stop_37 rfl rfl ?_
    refine gfX12_33 dX12_stop_38 rfl ?_
    refine xj_iloadn 2 dX12_stop_41 rfl rfl ?_
    refine xj_iloadn 3 dX12_stop_42 rfl rfl ?_
    refine xj_zast (k := 7) dX12_stop_43 rfl ?_
    refine xj_iloadn 0 dX12_stop_44 rfl rfl ?_
    exact xj_guard (fun h => xj_rz dX12_stop_45 rfl h)
set_option maxRecDepth 20000 in
def sX12_stop (p1 : Int32) (p2 : Int32) (w : xW) : Option (Int32 × xW) :=
  xbd (sX12_isIn p1.toInt64 (0 : Int64) (2047 : Int64) w) (fun x1 w2 => (if x1 = 0 then sX12_stop_j18 p1 p2 (1 : Int32) w2 else sX12_stop_j18 p1 p2 (0 : Int32) w2))
set_option maxRecDepth 20000 in
theorem tX12_stop (p1 : Int32) (p2 : Int32) (w : xW) : xJ ιI mX12_stop lM (0, 0) 0 [(0, .ref 0), (1, .int p1), (2, .int p2)] [] w (sX12_stop p1 p2 w) := by
  unfold sX12_stop
  refine xj_aloadn 0 dX12_stop_0 rfl rfl ?_
  refine xj_iloadn 1 dX12_stop_1 rfl rfl ?_
  refine xj_i2l dX12_stop_2 ?_
  refine xj_lconst (v := 0) dX12_stop_3 cl_0 ?_
  refine xj_ldc2 (v := 2047) tw2149 dX12_stop_4 ?_
  refine xj_cSi (argv := [.long p1.toInt64, .long (0 : Int64), .long (2047 : Int64)]) (rest := [.ref 0]) dX12_stop_7 (kX12_isIn p1.toInt64 (0 : Int64) (2047 : Int64) w) mkX12_isIn tw2150 rfl rfl rfl rfl (fun x1 w2 => ?_)
  refine xj_ifeq (tgt := 17) dX12_stop_10 rfl ?_ ?_
  · refine xj_iconst (v := 1) dX12_stop_17 ci_1 ?_
    exact tX12_stop_j18 _ _ _ _
  · refine xj_iconst (v := 0) dX12_stop_13 ci_0 ?_
    refine xj_goto (tgt := 18) dX12_stop_14 rfl ?_
    exact tX12_stop_j18 _ _ _ _
theorem kX12_stop (p1 : Int32) (p2 : Int32) (w : xW) : xMet jI mX12_stop lM (0, 0) [.ref 0, .int p1, .int p2] w (sX12_stop p1 p2 w) := xj_met lM_ok (by decide) (Nat.le_of_ble_eq_true rfl) (Nat.zero_le _) (Nat.zero_le _) (tX12_stop p1 p2 w)
set_option maxRecDepth 20000 in
def sX12_told_j160 (b0 : Int32) (b1 : Int32) (w : xW) : Option (Int32 × xW) :=
  (if (w.1 0 40) = 0 then some (((b1 + b0) + (0 : Int32)), w) else some (((b1 + b0) + (2048 : Int32)), w))
set_option maxRecDepth 20000 in
theorem tX12_told_j160 (b0 : Int32) (b1 : Int32) (w : xW) : xJ ιI mX12_told lM (0, 0) 160 [(0, .ref 0)] [.int b0, .int b1] w (sX12_told_j160 b0 b1 w) := by
  unfold sX12_told_j160
  refine xj_iadd dX12_told_160 ?_
  refine xj_aloadn 0 dX12_told_161 rfl rfl ?_
  refine gfX12_323 (v := (w.1 0 40)) dX12_told_162 rfl rfl ?_
  refine xj_ifeq (tgt := 174) dX12_told_165 rfl ?_ ?_
  · refine xj_iconst (v := 0) dX12_told_174 ci_0 ?_
    refine xj_iadd dX12_told_175 ?_
    exact xj_ri dX12_told_176 rfl
  · refine xj_sipush (v := 2048) dX12_told_168 cs_2048 ?_
    refine xj_goto (tgt := 175) dX12_told_171 rfl ?_
    refine xj_iadd dX12_told_175 ?_
    exact xj_ri dX12_told_176 rfl
set_option maxRecDepth 20000 in
def sX12_told_j145 (b0 : Int32) (b1 : Int32) (w : xW) : Option (Int32 × xW) :=
  (if (w.1 0 39) = 0 then sX12_told_j160 (0 : Int32) (b1 + b0) w else sX12_told_j160 (128 : Int32) (b1 + b0) w)
set_option maxRecDepth 20000 in
theorem tX12_told_j145 (b0 : Int32) (b1 : Int32) (w : xW) : xJ ιI mX12_told lM (0, 0) 145 [(0, .ref 0)] [.int b0, .int b1] w (sX12_told_j145 b0 b1 w) := by
  unfold sX12_told_j145
  refine xj_iadd dX12_told_145 ?_
  refine xj_aloadn 0 dX12_told_146 rfl rfl ?_
  refine gfX12_314 (v := (w.1 0 39)) dX12_told_147 rfl rfl ?_
  refine xj_ifeq (tgt := 159) dX12_told_150 rfl ?_ ?_
  · refine xj_iconst (v := 0) dX12_told_159 ci_0 ?_
    exact tX12_told_j160 _ _ _
  · refine xj_sipush (v := 128) dX12_told_153 cs_128 ?_
    refine xj_goto (tgt := 160) dX12_told_156 rfl ?_
    exact tX12_told_j160 _ _ _
set_option maxRecDepth 20000 in
def sX12_told_j131 (b0 : Int32) (b1 : Int32) (w : xW) : Option (Int32 × xW) :=
  (if (w.1 0 38) = 0 then sX12_told_j145 (0 : Int32) (b1 + b0) w else sX12_told_j145 (64 : Int32) (b1 + b0) w)
set_option maxRecDepth 20000 in
theorem tX12_told_j131 (b0 : Int32) (b1 : Int32) (w : xW) : xJ ιI mX12_told lM (0, 0) 131 [(0, .ref 0)] [.int b0, .int b1] w (sX12_told_j131 b0 b1 w) := by
  unfold sX12_told_j131
  refine xj_iadd dX12_told_131 ?_
  refine xj_aloadn 0 dX12_told_132 rfl rfl ?_
  refine gfX12_307 (v := (w.1 0 38)) dX12_told_133 rfl rfl ?_
  refine xj_ifeq (tgt := 144) dX12_told_136 rfl ?_ ?_
  · refine xj_iconst (v := 0) dX12_told_144 ci_0 ?_
    exact tX12_told_j145 _ _ _
  · refine xj_bipush (v := 64) dX12_told_139 cb_64 ?_
    refine xj_goto (tgt := 145) dX12_told_141 rfl ?_
    exact tX12_told_j145 _ _ _
set_option maxRecDepth 20000 in
def sX12_told_j119 (b0 : Int32) (w : xW) : Option (Int32 × xW) :=
  (if (w.1 0 37) = 0 then sX12_told_j131 (0 : Int32) b0 w else sX12_told_j131 (4 : Int32) b0 w)
set_option maxRecDepth 20000 in
theorem tX12_told_j119 (b0 : Int32) (w : xW) : xJ ιI mX12_told lM (0, 0) 119 [(0, .ref 0)] [.int b0] w (sX12_told_j119 b0 w) := by
  unfold sX12_told_j119
  refine xj_aloadn 0 dX12_told_119 rfl rfl ?_
  refine gfX12_317 (v := (w.1 0 37)) dX12_told_120 rfl rfl ?_
  refine xj_ifeq (tgt := 130) dX12_told_123 rfl ?_ ?_
  · refine xj_iconst (v := 0) dX12_told_130 ci_0 ?_
    exact tX12_told_j131 _ _ _
  · refine xj_iconst (v := 4) dX12_told_126 ci_4 ?_
    refine xj_goto (tgt := 131) dX12_told_127 rfl ?_
    exact tX12_told_j131 _ _ _
set_option maxRecDepth 20000 in
def sX12_told_j18 (a1 : Int32) (b0 : Int32) (w : xW) : Option (Int32 × xW) :=
  (if 0 < b0 then some ((0 : Int32), (xwi w 0 0 b0)) else xsw a1 (0) [some ((w.1 0 33), (xwi w 0 0 b0)), some ((w.1 0 34), (xwi w 0 0 b0)), some ((w.1 0 41), (xwi w 0 0 b0)), some ((w.1 0 8), (xwi w 0 0 b0)), some ((w.1 0 6), (xwi w 0 0 b0)), some ((w.1 0 42), (xwi w 0 0 b0)), some ((w.1 0 43), (xwi w 0 0 b0))] ((if (w.1 0 36) = 0 then sX12_told_j119 (0 : Int32) (xwi w 0 0 b0) else sX12_told_j119 (1 : Int32) (xwi w 0 0 b0))))
set_option maxRecDepth 20000 in
theorem tX12_told_j18 (a1 : Int32) (b0 : Int32) (w : xW) : xJ ιI mX12_told lM (0, 0) 18 [(0, .ref 0), (1, .int a1)] [.int b0, .ref 0] w (sX12_told_j18 a1 b0 w) := by
  unfold sX12_told_j18
  refine pfX12_53 dX12_told_18 rfl ?_
  refine xj_aloadn 0 dX12_told_21 rfl rfl ?_
  refine gfX12_53 (v := b0) dX12_told_22 rfl rfl ?_
  refine xj_ifle (tgt := 30) dX12_told_25 rfl ?_ ?_
  · refine xj_iconst (v := 0) dX12_told_28 ci_0 ?_
    exact xj_ri dX12_told_29 rfl
  · refine xj_iloadn 1 dX12_told_30 rfl rfl ?_
    refine xj_tsw (tgtd := 107) [72, 77, 82, 87, 92, 97, 102] dX12_told_31 rfl rfl rfl rfl ?_ ⟨?_, ?_, ?_, ?_, ?_, ?_, ?_, trivial⟩
    · refine xj_aloadn 0 dX12_told_107 rfl rfl ?_
      refine gfX12_320 (v := (w.1 0 36)) dX12_told_108 rfl rfl ?_
      refine xj_ifeq (tgt := 118) dX12_told_111 rfl ?_ ?_
      · refine xj_iconst (v := 0) dX12_told_118 ci_0 ?_
        refine xj_sub (lv2 := [(0, .ref 0)]) [0] rfl ?_
        exact tX12_told_j119 _ _
      · refine xj_iconst (v := 1) dX12_told_114 ci_1 ?_
        refine xj_goto (tgt := 119) dX12_told_115 rfl ?_
        refine xj_sub (lv2 := [(0, .ref 0)]) [0] rfl ?_
        exact tX12_told_j119 _ _
    · refine xj_aloadn 0 dX12_told_72 rfl rfl ?_
      refine gfX12_395 (v := (w.1 0 33)) dX12_told_73 rfl rfl ?_
      exact xj_ri dX12_told_76 rfl
    · refine xj_aloadn 0 dX12_told_77 rfl rfl ?_
      refine gfX12_40 (v := (w.1 0 34)) dX12_told_78 rfl rfl ?_
      exact xj_ri dX12_told_81 rfl
    · refine xj_aloadn 0 dX12_told_82 rfl rfl ?_
      refine gfX12_392 (v := (w.1 0 41)) dX12_told_83 rfl rfl ?_
      exact xj_ri dX12_told_86 rfl
    · refine xj_aloadn 0 dX12_told_87 rfl rfl ?_
      refine gfX12_398 (v := (w.1 0 8)) dX12_told_88 rfl rfl ?_
      exact xj_ri dX12_told_91 rfl
    · refine xj_aloadn 0 dX12_told_92 rfl rfl ?_
      refine gfX12_401 (v := (w.1 0 6)) dX12_told_93 rfl rfl ?_
      exact xj_ri dX12_told_96 rfl
    · refine xj_aloadn 0 dX12_told_97 rfl rfl ?_
      refine gfX12_47 (v := (w.1 0 42)) dX12_told_98 rfl rfl ?_
      exact xj_ri dX12_told_101 rfl
    · refine xj_aloadn 0 dX12_told_102 rfl rfl ?_
      refine gfX12_411 (v := (w.1 0 43)) dX12_told_103 rfl rfl ?_
      exact xj_ri dX12_told_106 rfl
set_option maxRecDepth 20000 in
def sX12_told (p1 : Int32) (w : xW) : Option (Int32 × xW) :=
  xbd (sX12_isIn p1.toInt64 (0 : Int64) (7 : Int64) w) (fun x1 w2 => (if x1 = 0 then sX12_told_j18 p1 (1 : Int32) w2 else sX12_told_j18 p1 (0 : Int32) w2))
set_option maxRecDepth 20000 in
theorem tX12_told (p1 : Int32) (w : xW) : xJ ιI mX12_told lM (0, 0) 0 [(0, .ref 0), (1, .int p1)] [] w (sX12_told p1 w) := by
  unfold sX12_told
  refine xj_aloadn 0 dX12_told_0 rfl rfl ?_
  refine xj_iloadn 1 dX12_told_1 rfl rfl ?_
  refine xj_i2l dX12_told_2 ?_
  refine xj_lconst (v := 0) dX12_told_3 cl_0 ?_
  refine xj_ldc2 (v := 7) tw2224 dX12_told_4 ?_
  refine xj_cSi (argv := [.long p1.toInt64, .long (0 : Int64), .long (7 : Int64)]) (rest := [.ref 0]) dX12_told_7 (kX12_isIn p1.toInt64 (0 : Int64) (7 : Int64) w) mkX12_isIn tw2150 rfl rfl rfl rfl (fun x1 w2 => ?_)
  refine xj_ifeq (tgt := 17) dX12_told_10 rfl ?_ ?_
  · refine xj_iconst (v := 1) dX12_told_17 ci_1 ?_
    exact tX12_told_j18 _ _ _
  · refine xj_iconst (v := 0) dX12_told_13 ci_0 ?_
    refine xj_goto (tgt := 18) dX12_told_14 rfl ?_
    exact tX12_told_j18 _ _ _
theorem kX12_told (p1 : Int32) (w : xW) : xMet jI mX12_told lM (0, 0) [.ref 0, .int p1] w (sX12_told p1 w) := xj_met lM_ok (by decide) (Nat.le_of_ble_eq_true rfl) (Nat.zero_le _) (Nat.zero_le _) (tX12_told p1 w)
set_option maxRecDepth 20000 in
def sX12_steps (w : xW) : Option (Int64 × xW) :=
  some ((w.2 0 44), (xwi w 0 0 (0 : Int32)))
set_option maxRecDepth 20000 in
theorem tX12_steps (w : xW) : xJ ιL mX12_steps lM (0, 0) 0 [(0, .ref 0)] [] w (sX12_steps w) := by
  unfold sX12_steps
  refine xj_aloadn 0 dX12_steps_0 rfl rfl ?_
  refine xj_iconst (v := 0) dX12_steps_1 ci_0 ?_
  refine pfX12_53 dX12_steps_2 rfl ?_
  refine xj_aloadn 0 dX12_steps_5 rfl rfl ?_
  refine gfX12_407 (v := (w.2 0 44)) dX12_steps_6 rfl rfl ?_
  exact xj_rl dX12_steps_9 rfl
theorem kX12_steps (w : xW) : xMet jL mX12_steps lM (0, 0) [.ref 0] w (sX12_steps w) := xj_met lM_ok (by decide) (Nat.le_of_ble_eq_true rfl) (Nat.zero_le _) (Nat.zero_le _) (tX12_steps w)
set_option maxRecDepth 20000 in
def sX12_register_j18 (a1 : Int32) (b0 : Int32) (w : xW) : Option (Int32 × xW) :=
  (if 0 < b0 then some ((0 : Int32), (xwi w 0 0 b0)) else (if xin a1 8 then some ((w.1 9 a1.toNatClampNeg), (xwi w 0 0 b0)) else none))
set_option maxRecDepth 20000 in
theorem tX12_register_j18 (a1 : Int32) (b0 : Int32) (w : xW) : xJ ιI mX12_register lM (0, 0) 18 [(0, .ref 0), (1, .int a1)] [.int b0, .ref 0] w (sX12_register_j18 a1 b0 w) := by
  unfold sX12_register_j18
  refine pfX12_53 dX12_register_18 rfl ?_
  refine xj_aloadn 0 dX12_register_21 rfl rfl ?_
  refine gfX12_53 (v := b0) dX12_register_22 rfl rfl ?_
  refine xj_ifle (tgt := 32) dX12_register_25 rfl ?_ ?_
  · refine xj_iconst (v := 0) dX12_register_28 ci_0 ?_
    refine xj_goto (tgt := 38) dX12_register_29 rfl ?_
    exact xj_ri dX12_register_38 rfl
  · refine xj_aloadn 0 dX12_register_32 rfl rfl ?_
    refine gfX12_44 dX12_register_33 rfl ?_
    refine xj_iloadn 1 dX12_register_36 rfl rfl ?_
    refine xj_iald (k := 9) dX12_register_37 rfl ?_
    exact xj_ri dX12_register_38 rfl
set_option maxRecDepth 20000 in
def sX12_register (p1 : Int32) (w : xW) : Option (Int32 × xW) :=
  xbd (sX12_isIn p1.toInt64 (0 : Int64) (7 : Int64) w) (fun x1 w2 => (if x1 = 0 then sX12_register_j18 p1 (1 : Int32) w2 else sX12_register_j18 p1 (0 : Int32) w2))
set_option maxRecDepth 20000 in
theorem tX12_register (p1 : Int32) (w : xW) : xJ ιI mX12_register lM (0, 0) 0 [(0, .ref 0), (1, .int p1)] [] w (sX12_register p1 w) := by
  unfold sX12_register
  refine xj_aloadn 0 dX12_register_0 rfl rfl ?_
  refine xj_iloadn 1 dX12_register_1 rfl rfl ?_
  refine xj_i2l dX12_register_2 ?_
  refine xj_lconst (v := 0) dX12_register_3 cl_0 ?_
  refine xj_ldc2 (v := 7) tw2224 dX12_register_4 ?_
  refine xj_cSi (argv := [.long p1.toInt64, .long (0 : Int64), .long (7 : Int64)]) (rest := [.ref 0]) dX12_register_7 (kX12_isIn p1.toInt64 (0 : Int64) (7 : Int64) w) mkX12_isIn tw2150 rfl rfl rfl rfl (fun x1 w2 => ?_)
  refine xj_ifeq (tgt := 17) dX12_register_10 rfl ?_ ?_
  · refine xj_iconst (v := 1) dX12_register_17 ci_1 ?_
    exact tX12_register_j18 _ _ _
  · refine xj_iconst (v := 0) dX12_register_13 ci_0 ?_
    refine xj_goto (tgt := 18) dX12_register_14 rfl ?_
    exact tX12_register_j18 _ _ _
theorem kX12_register (p1 : Int32) (w : xW) : xMet jI mX12_register lM (0, 0) [.ref 0, .int p1] w (sX12_register p1 w) := xj_met lM_ok (by decide) (Nat.le_of_ble_eq_true rfl) (Nat.zero_le _) (Nat.zero_le _) (tX12_register p1 w)
set_option maxRecDepth 20000 in
def sX12_put_j29 (a1 : Int32) (a2 : Int32) (b0 : Int32) (w : xW) : Option (Int32 × xW) :=
  (if 0 < b0 then some ((0 : Int32), (xwi w 0 0 b0)) else (if xin a1 8 then (if xin a1 8 then some ((w.1 9 a1.toNatClampNeg), (xwi (xwi w 0 0 b0) 9 a1.toNatClampNeg a2)) else none) else none))
set_option maxRecDepth 20000 in
theorem tX12_put_j29 (a1 : Int32) (a2 : Int32) (b0 : Int32) (w : xW) : xJ ιI mX12_put lM (0, 0) 29 [(0, .ref 0), (1, .int a1), (2, .int a2)] [.int b0, .ref 0] w (sX12_put_j29 a1 a2 b0 w) := by
  unfold sX12_put_j29
  refine pfX12_53 dX12_put_29 rfl ?_
  refine xj_aloadn 0 dX12_put_32 rfl rfl ?_
  refine gfX12_53 (v := b0) dX12_put_33 rfl rfl ?_
  refine xj_ifle (tgt := 41) dX12_put_36 rfl ?_ ?_
  · refine xj_iconst (v := 0) dX12_put_39 ci_0 ?_
    exact xj_ri dX12_put_40 rfl
  · refine xj_aloadn 0 dX12_put_41 rfl rfl ?_
    refine gfX12_44 dX12_put_42 rfl ?_
    refine xj_iloadn 1 dX12_put_45 rfl rfl ?_
    refine xj_iald (k := 9) dX12_put_46 rfl ?_
    refine xj_istoren (lv2 := [(3, .int (w.1 9 a1.toNatClampNeg)), (0, .ref 0), (1, .int a1), (2, .int a2)]) dX12_put_47 rfl (Nat.le_of_ble_eq_true rfl) rfl ?_
    refine xj_aloadn 1 dX12_put_48 rfl rfl ?_
    refine gfX12_44 dX12_put_49 rfl ?_
    refine xj_iloadn 2 dX12_put_52 rfl rfl ?_
    refine xj_iloadn 3 dX12_put_53 rfl rfl ?_
    refine xj_iast (k := 9) dX12_put_54 rfl ?_
    refine xj_iloadn 0 dX12_put_55 rfl rfl ?_
    exact xj_ri dX12_put_56 rfl
set_option maxRecDepth 20000 in
def sX12_put (p1 : Int32) (p2 : Int32) (w : xW) : Option (Int32 × xW) :=
  xbd (sX12_isIn p1.toInt64 (0 : Int64) (7 : Int64) w) (fun x1 w2 => (if x1 = 0 then sX12_put_j29 p1 p2 (1 : Int32) w2 else (if (w2.1 0 33) = 0 then sX12_put_j29 p1 p2 (2 : Int32) w2 else sX12_put_j29 p1 p2 (0 : Int32) w2)))
set_option maxRecDepth 20000 in
theorem tX12_put (p1 : Int32) (p2 : Int32) (w : xW) : xJ ιI mX12_put lM (0, 0) 0 [(0, .ref 0), (1, .int p1), (2, .int p2)] [] w (sX12_put p1 p2 w) := by
  unfold sX12_put
  refine xj_aloadn 0 dX12_put_0 rfl rfl ?_
  refine xj_iloadn 1 dX12_put_1 rfl rfl ?_
  refine xj_i2l dX12_put_2 ?_
  refine xj_lconst (v := 0) dX12_put_3 cl_0 ?_
  refine xj_ldc2 (v := 7) tw2224 dX12_put_4 ?_
  refine xj_cSi (argv := [.long p1.toInt64, .long (0 : Int64), .long (7 : Int64)]) (rest := [.ref 0]) dX12_put_7 (kX12_isIn p1.toInt64 (0 : Int64) (7 : Int64) w) mkX12_isIn tw2150 rfl rfl rfl rfl (fun x1 w2 => ?_)
  refine xj_ifne (tgt := 17) dX12_put_10 rfl ?_ ?_
  · refine xj_iconst (v := 1) dX12_put_13 ci_1 ?_
    refine xj_goto (tgt := 29) dX12_put_14 rfl ?_
    exact tX12_put_j29 _ _ _ _
  · refine xj_aloadn 0 dX12_put_17 rfl rfl ?_
    refine gfX12_395 (v := (w2.1 0 33)) dX12_put_18 rfl rfl ?_
    refine xj_ifne (tgt := 28) dX12_put_21 rfl ?_ ?_
    · refine xj_iconst (v := 2) dX12_put_24 ci_2 ?_
      refine xj_goto (tgt := 29) dX12_put_25 rfl ?_
      exact tX12_put_j29 _ _ _ _
    · refine xj_iconst (v := 0) dX12_put_28 ci_0 ?_
      exact tX12_put_j29 _ _ _ _
theorem kX12_put (p1 : Int32) (p2 : Int32) (w : xW) : xMet jI mX12_put lM (0, 0) [.ref 0, .int p1, .int p2] w (sX12_put p1 p2 w) := xj_met lM_ok (by decide) (Nat.le_of_ble_eq_true rfl) (Nat.zero_le _) (Nat.zero_le _) (tX12_put p1 p2 w)
set_option maxRecDepth 20000 in
def sX12_output (p1 : Int32) (w : xW) : Option (Int32 × xW) :=
  xbd (sX12_isIn p1.toInt64 (0 : Int64) ((w.1 0 8).toInt64 - (1 : Int64)) (xwi w 0 0 (0 : Int32))) (fun x1 w2 => (if x1 = 0 then some ((-1 : Int32), w2) else (if xin p1 1024 then some ((w2.1 4 p1.toNatClampNeg), w2) else none)))
set_option maxRecDepth 20000 in
theorem tX12_output (p1 : Int32) (w : xW) : xJ ιI mX12_output lM (0, 0) 0 [(0, .ref 0), (1, .int p1)] [] w (sX12_output p1 w) := by
  unfold sX12_output
  refine xj_aloadn 0 dX12_output_0 rfl rfl ?_
  refine xj_iconst (v := 0) dX12_output_1 ci_0 ?_
  refine pfX12_53 dX12_output_2 rfl ?_
  refine xj_iloadn 1 dX12_output_5 rfl rfl ?_
  refine xj_i2l dX12_output_6 ?_
  refine xj_lconst (v := 0) dX12_output_7 cl_0 ?_
  refine xj_aloadn 0 dX12_output_8 rfl rfl ?_
  refine gfX12_398 (v := (w.1 0 8)) dX12_output_9 rfl rfl ?_
  refine xj_i2l dX12_output_12 ?_
  refine xj_lconst (v := 1) dX12_output_13 cl_1 ?_
  refine xj_lsub dX12_output_14 ?_
  refine xj_cSi (argv := [.long p1.toInt64, .long (0 : Int64), .long ((w.1 0 8).toInt64 - (1 : Int64))]) (rest := []) dX12_output_15 (kX12_isIn p1.toInt64 (0 : Int64) ((w.1 0 8).toInt64 - (1 : Int64)) (xwi w 0 0 (0 : Int32))) mkX12_isIn tw2150 rfl rfl rfl rfl (fun x1 w2 => ?_)
  refine xj_ifeq (tgt := 30) dX12_output_18 rfl ?_ ?_
  · refine xj_iconst (v := -1) dX12_output_30 ci_m1 ?_
    exact xj_ri dX12_output_31 rfl
  · refine xj_aloadn 0 dX12_output_21 rfl rfl ?_
    refine gfX12_20 dX12_output_22 rfl ?_
    refine xj_iloadn 1 dX12_output_25 rfl rfl ?_
    refine xj_iald (k := 4) dX12_output_26 rfl ?_
    refine xj_goto (tgt := 31) dX12_output_27 rfl ?_
    exact xj_ri dX12_output_31 rfl
theorem kX12_output (p1 : Int32) (w : xW) : xMet jI mX12_output lM (0, 0) [.ref 0, .int p1] w (sX12_output p1 w) := xj_met lM_ok (by decide) (Nat.le_of_ble_eq_true rfl) (Nat.zero_le _) (Nat.zero_le _) (tX12_output p1 w)
set_option maxRecDepth 20000 in
def sX12_passed_j18 (a1 : Int32) (b0 : Int32) (w : xW) : Option (Int32 × xW) :=
  (if 0 < b0 then some ((0 : Int32), (xwi w 0 0 b0)) else (if xin a1 2048 then some ((w.1 6 a1.toNatClampNeg), (xwi w 0 0 b0)) else none))
set_option maxRecDepth 20000 in
theorem tX12_passed_j18 (a1 : Int32) (b0 : Int32) (w : xW) : xJ ιI mX12_passed lM (0, 0) 18 [(0, .ref 0), (1, .int a1)] [.int b0, .ref 0] w (sX12_passed_j18 a1 b0 w) := by
  unfold sX12_passed_j18
  refine pfX12_53 dX12_passed_18 rfl ?_
  refine xj_aloadn 0 dX12_passed_21 rfl rfl ?_
  refine gfX12_53 (v := b0) dX12_passed_22 rfl rfl ?_
  refine xj_ifle (tgt := 32) dX12_passed_25 rfl ?_ ?_
  · refine xj_iconst (v := 0) dX12_passed_28 ci_0 ?_
    refine xj_goto (tgt := 38) dX12_passed_29 rfl ?_
    exact xj_ri dX12_passed_38 rfl
  · refine xj_aloadn 0 dX12_passed_32 rfl rfl ?_
    refine gfX12_30 dX12_passed_33 rfl ?_
    refine xj_iloadn 1 dX12_passed_36 rfl rfl ?_
    refine xj_iald (k := 6) dX12_passed_37 rfl ?_
    exact xj_ri dX12_passed_38 rfl
set_option maxRecDepth 20000 in
def sX12_passed (p1 : Int32) (w : xW) : Option (Int32 × xW) :=
  xbd (sX12_isIn p1.toInt64 (0 : Int64) (2047 : Int64) w) (fun x1 w2 => (if x1 = 0 then sX12_passed_j18 p1 (1 : Int32) w2 else sX12_passed_j18 p1 (0 : Int32) w2))
set_option maxRecDepth 20000 in
theorem tX12_passed (p1 : Int32) (w : xW) : xJ ιI mX12_passed lM (0, 0) 0 [(0, .ref 0), (1, .int p1)] [] w (sX12_passed p1 w) := by
  unfold sX12_passed
  refine xj_aloadn 0 dX12_passed_0 rfl rfl ?_
  refine xj_iloadn 1 dX12_passed_1 rfl rfl ?_
  refine xj_i2l dX12_passed_2 ?_
  refine xj_lconst (v := 0) dX12_passed_3 cl_0 ?_
  refine xj_ldc2 (v := 2047) tw2149 dX12_passed_4 ?_
  refine xj_cSi (argv := [.long p1.toInt64, .long (0 : Int64), .long (2047 : Int64)]) (rest := [.ref 0]) dX12_passed_7 (kX12_isIn p1.toInt64 (0 : Int64) (2047 : Int64) w) mkX12_isIn tw2150 rfl rfl rfl rfl (fun x1 w2 => ?_)
  refine xj_ifeq (tgt := 17) dX12_passed_10 rfl ?_ ?_
  · refine xj_iconst (v := 1) dX12_passed_17 ci_1 ?_
    exact tX12_passed_j18 _ _ _
  · refine xj_iconst (v := 0) dX12_passed_13 ci_0 ?_
    refine xj_goto (tgt := 18) dX12_passed_14 rfl ?_
    exact tX12_passed_j18 _ _ _
theorem kX12_passed (p1 : Int32) (w : xW) : xMet jI mX12_passed lM (0, 0) [.ref 0, .int p1] w (sX12_passed p1 w) := xj_met lM_ok (by decide) (Nat.le_of_ble_eq_true rfl) (Nat.zero_le _) (Nat.zero_le _) (tX12_passed p1 w)
