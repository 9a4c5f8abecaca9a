/-! the reference, method by method: 2 -/
set_option maxRecDepth 20000 in
def sX12_take_j380 (a1 : Int32) (w : xW) : Option (Int32 × xW) :=
  (if xz (w.1 0 32) then some ((w.1 0 32), (xwi w 0 30 ((w.1 0 31) - a1))) else none)
set_option maxRecDepth 20000 in
theorem tX12_take_j380 (a1 : Int32) (w : xW) : xJ ιI mX12_take lM (0, 0) 380 [(0, .ref 0), (1, .int a1)] [] w (sX12_take_j380 a1 w) := by
  unfold sX12_take_j380
  refine xj_aloadn 0 dX12_take_380 rfl rfl ?_
  refine xj_aloadn 0 dX12_take_381 rfl rfl ?_
  refine gfX12_56 (v := (w.1 0 31)) dX12_take_382 rfl rfl ?_
  refine xj_iloadn 1 dX12_take_385 rfl rfl ?_
  refine xj_isub dX12_take_386 ?_
  refine pfX12_138 dX12_take_387 rfl ?_
  refine xj_aloadn 0 dX12_take_390 rfl rfl ?_
  refine gfX12_62 (v := (w.1 0 32)) dX12_take_391 rfl rfl ?_
  exact xj_guard (fun h => xj_rz dX12_take_394 rfl h)
set_option maxRecDepth 20000 in
def sX12_take_j348 (a1 : Int32) (a2 : Int32) (a3 : Int32) (w : xW) : Option (Int32 × xW) :=
  (if a2 = (15 : Int32) then xbd (sX12_takeSecond w) (fun _ w3 => sX12_take_j380 a1 w3) else (if a2 = (102 : Int32) then xbd (sX12_takeWord w) (fun _ w2 => sX12_take_j380 a1 w2) else xbd (sX12_takeOther a2 a3 w) (fun _ w1 => sX12_take_j380 a1 w1)))
set_option maxRecDepth 20000 in
theorem tX12_take_j348 (a1 : Int32) (a2 : Int32) (a3 : Int32) (w : xW) : xJ ιI mX12_take lM (0, 0) 348 [(0, .ref 0), (1, .int a1), (2, .int a2), (3, .int a3)] [] w (sX12_take_j348 a1 a2 a3 w) := by
  unfold sX12_take_j348
  refine xj_iloadn 2 dX12_take_348 rfl rfl ?_
  refine xj_bipush (v := 15) dX12_take_349 cb_15 ?_
  refine xj_ine (tgt := 361) dX12_take_351 rfl ?_ ?_
  · refine xj_aloadn 0 dX12_take_354 rfl rfl ?_
    refine xj_cVv (argv := []) (rest := []) dX12_take_355 (kX12_takeSecond w) mkX12_takeSecond tw2091 rfl rfl rfl rfl rfl rfl (fun _ w3 => ?_)
    refine xj_goto (tgt := 380) dX12_take_358 rfl ?_
    refine xj_sub (lv2 := [(0, .ref 0), (1, .int a1)]) [0, 1] rfl ?_
    exact tX12_take_j380 _ _
  · refine xj_iloadn 2 dX12_take_361 rfl rfl ?_
    refine xj_bipush (v := 102) dX12_take_362 cb_102 ?_
    refine xj_ine (tgt := 374) dX12_take_364 rfl ?_ ?_
    · refine xj_aloadn 0 dX12_take_367 rfl rfl ?_
      refine xj_cVv (argv := []) (rest := []) dX12_take_368 (kX12_takeWord w) mkX12_takeWord tw2099 rfl rfl rfl rfl rfl rfl (fun _ w2 => ?_)
      refine xj_goto (tgt := 380) dX12_take_371 rfl ?_
      refine xj_sub (lv2 := [(0, .ref 0), (1, .int a1)]) [0, 1] rfl ?_
      exact tX12_take_j380 _ _
    · refine xj_aloadn 0 dX12_take_374 rfl rfl ?_
      refine xj_iloadn 2 dX12_take_375 rfl rfl ?_
      refine xj_iloadn 3 dX12_take_376 rfl rfl ?_
      refine xj_cVv (argv := [.int a2, .int a3]) (rest := []) dX12_take_377 (kX12_takeOther a2 a3 w) mkX12_takeOther tw2103 rfl rfl rfl rfl rfl rfl (fun _ w1 => ?_)
      refine xj_sub (lv2 := [(0, .ref 0), (1, .int a1)]) [0, 1] rfl ?_
      exact tX12_take_j380 _ _
set_option maxRecDepth 20000 in
def sX12_take_j326 (a1 : Int32) (a2 : Int32) (b0 : Int32) (b1 : Int32) (b2 : Int32) (w : xW) : Option (Int32 × xW) :=
  xbd (sX12_is b2 b1 b0 w) (fun _ w1 => xbd (sX12_number (w1.1 0 20) (xwi w1 0 24 (a2 &&& (7 : Int32)))) (fun _ w2 => sX12_take_j380 a1 w2))
set_option maxRecDepth 20000 in
theorem tX12_take_j326 (a1 : Int32) (a2 : Int32) (b0 : Int32) (b1 : Int32) (b2 : Int32) (w : xW) : xJ ιI mX12_take lM (0, 0) 326 [(0, .ref 0), (1, .int a1), (2, .int a2)] [.int b0, .int b1, .int b2, .ref 0] w (sX12_take_j326 a1 a2 b0 b1 b2 w) := by
  unfold sX12_take_j326
  refine xj_cVv (argv := [.int b2, .int b1, .int b0]) (rest := []) dX12_take_326 (kX12_is b2 b1 b0 w) mkX12_is tw2067 rfl rfl rfl rfl rfl rfl (fun _ w1 => ?_)
  refine xj_aloadn 0 dX12_take_329 rfl rfl ?_
  refine xj_iloadn 2 dX12_take_330 rfl rfl ?_
  refine xj_bipush (v := 7) dX12_take_331 cb_7 ?_
  refine xj_iand dX12_take_333 ?_
  refine pfX12_88 dX12_take_334 rfl ?_
  refine xj_aloadn 0 dX12_take_337 rfl rfl ?_
  refine xj_aloadn 0 dX12_take_338 rfl rfl ?_
  refine gfX12_76 (v := (w1.1 0 20)) dX12_take_339 rfl rfl ?_
  refine xj_cVv (argv := [.int (w1.1 0 20)]) (rest := []) dX12_take_342 (kX12_number (w1.1 0 20) (xwi w1 0 24 (a2 &&& (7 : Int32)))) mkX12_number tw2071 rfl rfl rfl rfl rfl rfl (fun _ w2 => ?_)
  refine xj_goto (tgt := 380) dX12_take_345 rfl ?_
  refine xj_sub (lv2 := [(0, .ref 0), (1, .int a1)]) [0, 1] rfl ?_
  exact tX12_take_j380 _ _
set_option maxRecDepth 20000 in
def sX12_take_j295 (a1 : Int32) (a2 : Int32) (a3 : Int32) (w : xW) : Option (Int32 × xW) :=
  (if a2 < (176 : Int32) then sX12_take_j348 a1 a2 a3 w else (if a2 < (192 : Int32) then (if a2 < (184 : Int32) then sX12_take_j326 a1 a2 (1 : Int32) (13 : Int32) (16 : Int32) w else sX12_take_j326 a1 a2 (4 : Int32) (13 : Int32) (16 : Int32) w) else sX12_take_j348 a1 a2 a3 w))
set_option maxRecDepth 20000 in
theorem tX12_take_j295 (a1 : Int32) (a2 : Int32) (a3 : Int32) (w : xW) : xJ ιI mX12_take lM (0, 0) 295 [(0, .ref 0), (1, .int a1), (2, .int a2), (3, .int a3)] [] w (sX12_take_j295 a1 a2 a3 w) := by
  unfold sX12_take_j295
  refine xj_iloadn 2 dX12_take_295 rfl rfl ?_
  refine xj_sipush (v := 176) dX12_take_296 cs_176 ?_
  refine xj_ilt (tgt := 348) dX12_take_299 rfl ?_ ?_
  · exact tX12_take_j348 _ _ _ _
  · refine xj_iloadn 2 dX12_take_302 rfl rfl ?_
    refine xj_sipush (v := 192) dX12_take_303 cs_192 ?_
    refine xj_ige (tgt := 348) dX12_take_306 rfl ?_ ?_
    · refine xj_aloadn 0 dX12_take_309 rfl rfl ?_
      refine xj_bipush (v := 16) dX12_take_310 cb_16 ?_
      refine xj_bipush (v := 13) dX12_take_312 cb_13 ?_
      refine xj_iloadn 2 dX12_take_314 rfl rfl ?_
      refine xj_sipush (v := 184) dX12_take_315 cs_184 ?_
      refine xj_ige (tgt := 325) dX12_take_318 rfl ?_ ?_
      · refine xj_iconst (v := 1) dX12_take_321 ci_1 ?_
        refine xj_goto (tgt := 326) dX12_take_322 rfl ?_
        refine xj_sub (lv2 := [(0, .ref 0), (1, .int a1), (2, .int a2)]) [0, 1, 2] rfl ?_
        exact tX12_take_j326 _ _ _ _ _ _
      · refine xj_iconst (v := 4) dX12_take_325 ci_4 ?_
        refine xj_sub (lv2 := [(0, .ref 0), (1, .int a1), (2, .int a2)]) [0, 1, 2] rfl ?_
        exact tX12_take_j326 _ _ _ _ _ _
    · exact tX12_take_j348 _ _ _ _
set_option maxRecDepth 20000 in
def sX12_take_j261 (a1 : Int32) (a2 : Int32) (a3 : Int32) (w : xW) : Option (Int32 × xW) :=
  (if a2 < (145 : Int32) then sX12_take_j295 a1 a2 a3 w else (if a2 < (152 : Int32) then xbd (sX12_is (15 : Int32) (14 : Int32) (4 : Int32) w) (fun _ w1 => sX12_take_j380 a1 (xwi w1 0 24 (a2 &&& (7 : Int32)))) else sX12_take_j295 a1 a2 a3 w))
set_option maxRecDepth 20000 in
theorem tX12_take_j261 (a1 : Int32) (a2 : Int32) (a3 : Int32) (w : xW) : xJ ιI mX12_take lM (0, 0) 261 [(0, .ref 0), (1, .int a1), (2, .int a2), (3, .int a3)] [] w (sX12_take_j261 a1 a2 a3 w) := by
  unfold sX12_take_j261
  refine xj_iloadn 2 dX12_take_261 rfl rfl ?_
  refine xj_sipush (v := 145) dX12_take_262 cs_145 ?_
  refine xj_ilt (tgt := 295) dX12_take_265 rfl ?_ ?_
  · exact tX12_take_j295 _ _ _ _
  · refine xj_iloadn 2 dX12_take_268 rfl rfl ?_
    refine xj_sipush (v := 152) dX12_take_269 cs_152 ?_
    refine xj_ige (tgt := 295) dX12_take_272 rfl ?_ ?_
    · refine xj_aloadn 0 dX12_take_275 rfl rfl ?_
      refine xj_bipush (v := 15) dX12_take_276 cb_15 ?_
      refine xj_bipush (v := 14) dX12_take_278 cb_14 ?_
      refine xj_iconst (v := 4) dX12_take_280 ci_4 ?_
      refine xj_cVv (argv := [.int (15 : Int32), .int (14 : Int32), .int (4 : Int32)]) (rest := []) dX12_take_281 (kX12_is (15 : Int32) (14 : Int32) (4 : Int32) w) mkX12_is tw2067 rfl rfl rfl rfl rfl rfl (fun _ w1 => ?_)
      refine xj_aloadn 0 dX12_take_284 rfl rfl ?_
      refine xj_iloadn 2 dX12_take_285 rfl rfl ?_
      refine xj_bipush (v := 7) dX12_take_286 cb_7 ?_
      refine xj_iand dX12_take_288 ?_
      refine pfX12_88 dX12_take_289 rfl ?_
      refine xj_goto (tgt := 380) dX12_take_292 rfl ?_
      refine xj_sub (lv2 := [(0, .ref 0), (1, .int a1)]) [0, 1] rfl ?_
      exact tX12_take_j380 _ _
    · exact tX12_take_j295 _ _ _ _
set_option maxRecDepth 20000 in
def sX12_take_j223 (a1 : Int32) (a2 : Int32) (a3 : Int32) (w : xW) : Option (Int32 × xW) :=
  (if a2 < (112 : Int32) then sX12_take_j261 a1 a2 a3 w else (if a2 < (128 : Int32) then xbd (sX12_is (13 : Int32) (8 : Int32) (4 : Int32) w) (fun _ w1 => xbd (sX12_place (1 : Int32) (xwi w1 0 19 (a2 &&& (15 : Int32)))) (fun _ w2 => sX12_take_j380 a1 w2)) else sX12_take_j261 a1 a2 a3 w))
set_option maxRecDepth 20000 in
theorem tX12_take_j223 (a1 : Int32) (a2 : Int32) (a3 : Int32) (w : xW) : xJ ιI mX12_take lM (0, 0) 223 [(0, .ref 0), (1, .int a1), (2, .int a2), (3, .int a3)] [] w (sX12_take_j223 a1 a2 a3 w) := by
  unfold sX12_take_j223
  refine xj_iloadn 2 dX12_take_223 rfl rfl ?_
  refine xj_bipush (v := 112) dX12_take_224 cb_112 ?_
  refine xj_ilt (tgt := 261) dX12_take_226 rfl ?_ ?_
  · exact tX12_take_j261 _ _ _ _
  · refine xj_iloadn 2 dX12_take_229 rfl rfl ?_
    refine xj_sipush (v := 128) dX12_take_230 cs_128 ?_
    refine xj_ige (tgt := 261) dX12_take_233 rfl ?_ ?_
    · refine xj_aloadn 0 dX12_take_236 rfl rfl ?_
      refine xj_bipush (v := 13) dX12_take_237 cb_13 ?_
      refine xj_bipush (v := 8) dX12_take_239 cb_8 ?_
      refine xj_iconst (v := 4) dX12_take_241 ci_4 ?_
      refine xj_cVv (argv := [.int (13 : Int32), .int (8 : Int32), .int (4 : Int32)]) (rest := []) dX12_take_242 (kX12_is (13 : Int32) (8 : Int32) (4 : Int32) w) mkX12_is tw2067 rfl rfl rfl rfl rfl rfl (fun _ w1 => ?_)
      refine xj_aloadn 0 dX12_take_245 rfl rfl ?_
      refine xj_iloadn 2 dX12_take_246 rfl rfl ?_
      refine xj_bipush (v := 15) dX12_take_247 cb_15 ?_
      refine xj_iand dX12_take_249 ?_
      refine pfX12_115 dX12_take_250 rfl ?_
      refine xj_aloadn 0 dX12_take_253 rfl rfl ?_
      refine xj_iconst (v := 1) dX12_take_254 ci_1 ?_
      refine xj_cVv (argv := [.int (1 : Int32)]) (rest := []) dX12_take_255 (kX12_place (1 : Int32) (xwi w1 0 19 (a2 &&& (15 : Int32)))) mkX12_place tw2087 rfl rfl rfl rfl rfl rfl (fun _ w2 => ?_)
      refine xj_goto (tgt := 380) dX12_take_258 rfl ?_
      refine xj_sub (lv2 := [(0, .ref 0), (1, .int a1)]) [0, 1] rfl ?_
      exact tX12_take_j380 _ _
    · exact tX12_take_j261 _ _ _ _
set_option maxRecDepth 20000 in
def sX12_take_j206 (a1 : Int32) (a2 : Int32) (b0 : Int32) (w : xW) : Option (Int32 × xW) :=
  xbd (sX12_is b0 (6 : Int32) (4 : Int32) w) (fun _ w1 => sX12_take_j380 a1 (xwi w1 0 24 (a2 &&& (7 : Int32))))
set_option maxRecDepth 20000 in
theorem tX12_take_j206 (a1 : Int32) (a2 : Int32) (b0 : Int32) (w : xW) : xJ ιI mX12_take lM (0, 0) 206 [(0, .ref 0), (1, .int a1), (2, .int a2)] [.int b0, .ref 0] w (sX12_take_j206 a1 a2 b0 w) := by
  unfold sX12_take_j206
  refine xj_bipush (v := 6) dX12_take_206 cb_6 ?_
  refine xj_iconst (v := 4) dX12_take_208 ci_4 ?_
  refine xj_cVv (argv := [.int b0, .int (6 : Int32), .int (4 : Int32)]) (rest := []) dX12_take_209 (kX12_is b0 (6 : Int32) (4 : Int32) w) mkX12_is tw2067 rfl rfl rfl rfl rfl rfl (fun _ w1 => ?_)
  refine xj_aloadn 0 dX12_take_212 rfl rfl ?_
  refine xj_iloadn 2 dX12_take_213 rfl rfl ?_
  refine xj_bipush (v := 7) dX12_take_214 cb_7 ?_
  refine xj_iand dX12_take_216 ?_
  refine pfX12_88 dX12_take_217 rfl ?_
  refine xj_goto (tgt := 380) dX12_take_220 rfl ?_
  refine xj_sub (lv2 := [(0, .ref 0), (1, .int a1)]) [0, 1] rfl ?_
  exact tX12_take_j380 _ _
set_option maxRecDepth 20000 in
def sX12_take_j158 (a1 : Int32) (a2 : Int32) (a3 : Int32) (w : xW) : Option (Int32 × xW) :=
  (if a2 < (64 : Int32) then sX12_take_j223 a1 a2 a3 w else (if a2 < (96 : Int32) then (if a2 < (72 : Int32) then sX12_take_j206 a1 a2 (8 : Int32) w else (if a2 < (80 : Int32) then sX12_take_j206 a1 a2 (9 : Int32) w else (if a2 < (88 : Int32) then sX12_take_j206 a1 a2 (10 : Int32) w else sX12_take_j206 a1 a2 (11 : Int32) w))) else sX12_take_j223 a1 a2 a3 w))
set_option maxRecDepth 20000 in
theorem tX12_take_j158 (a1 : Int32) (a2 : Int32) (a3 : Int32) (w : xW) : xJ ιI mX12_take lM (0, 0) 158 [(0, .ref 0), (1, .int a1), (2, .int a2), (3, .int a3)] [] w (sX12_take_j158 a1 a2 a3 w) := by
  unfold sX12_take_j158
  refine xj_iloadn 2 dX12_take_158 rfl rfl ?_
  refine xj_bipush (v := 64) dX12_take_159 cb_64 ?_
  refine xj_ilt (tgt := 223) dX12_take_161 rfl ?_ ?_
  · exact tX12_take_j223 _ _ _ _
  · refine xj_iloadn 2 dX12_take_164 rfl rfl ?_
    refine xj_bipush (v := 96) dX12_take_165 cb_96 ?_
    refine xj_ige (tgt := 223) dX12_take_167 rfl ?_ ?_
    · refine xj_aloadn 0 dX12_take_170 rfl rfl ?_
      refine xj_iloadn 2 dX12_take_171 rfl rfl ?_
      refine xj_bipush (v := 72) dX12_take_172 cb_72 ?_
      refine xj_ige (tgt := 182) dX12_take_174 rfl ?_ ?_
      · refine xj_bipush (v := 8) dX12_take_177 cb_8 ?_
        refine xj_goto (tgt := 206) dX12_take_179 rfl ?_
        refine xj_sub (lv2 := [(0, .ref 0), (1, .int a1), (2, .int a2)]) [0, 1, 2] rfl ?_
        exact tX12_take_j206 _ _ _ _
      · refine xj_iloadn 2 dX12_take_182 rfl rfl ?_
        refine xj_bipush (v := 80) dX12_take_183 cb_80 ?_
        refine xj_ige (tgt := 193) dX12_take_185 rfl ?_ ?_
        · refine xj_bipush (v := 9) dX12_take_188 cb_9 ?_
          refine xj_goto (tgt := 206) dX12_take_190 rfl ?_
          refine xj_sub (lv2 := [(0, .ref 0), (1, .int a1), (2, .int a2)]) [0, 1, 2] rfl ?_
          exact tX12_take_j206 _ _ _ _
        · refine xj_iloadn 2 dX12_take_193 rfl rfl ?_
          refine xj_bipush (v := 88) dX12_take_194 cb_88 ?_
          refine xj_ige (tgt := 204) dX12_take_196 rfl ?_ ?_
          · refine xj_bipush (v := 10) dX12_take_199 cb_10 ?_
            refine xj_goto (tgt := 206) dX12_take_201 rfl ?_
            refine xj_sub (lv2 := [(0, .ref 0), (1, .int a1), (2, .int a2)]) [0, 1, 2] rfl ?_
            exact tX12_take_j206 _ _ _ _
          · refine xj_bipush (v := 11) dX12_take_204 cb_11 ?_
            refine xj_sub (lv2 := [(0, .ref 0), (1, .int a1), (2, .int a2)]) [0, 1, 2] rfl ?_
            exact tX12_take_j206 _ _ _ _
    · exact tX12_take_j223 _ _ _ _
set_option maxRecDepth 20000 in
def sX12_take_j131 (a1 : Int32) (a3 : Int32) (b0 : Int32) (b1 : Int32) (w : xW) : Option (Int32 × xW) :=
  xbd (sX12_is b1 b0 a3 w) (fun _ w1 => (if (w1.1 0 18) = (3 : Int32) then xbd (sX12_number a3 w1) (fun _ w3 => sX12_take_j380 a1 w3) else xbd (sX12_operand w1) (fun _ w2 => sX12_take_j380 a1 w2)))
set_option maxRecDepth 20000 in
theorem tX12_take_j131 (a1 : Int32) (a3 : Int32) (b0 : Int32) (b1 : Int32) (w : xW) : xJ ιI mX12_take lM (0, 0) 131 [(0, .ref 0), (1, .int a1), (3, .int a3)] [.int b0, .int b1, .ref 0] w (sX12_take_j131 a1 a3 b0 b1 w) := by
  unfold sX12_take_j131
  refine xj_iloadn 2 dX12_take_131 rfl rfl ?_
  refine xj_cVv (argv := [.int b1, .int b0, .int a3]) (rest := []) dX12_take_132 (kX12_is b1 b0 a3 w) mkX12_is tw2067 rfl rfl rfl rfl rfl rfl (fun _ w1 => ?_)
  refine xj_aloadn 0 dX12_take_135 rfl rfl ?_
  refine gfX12_73 (v := (w1.1 0 18)) dX12_take_136 rfl rfl ?_
  refine xj_iconst (v := 3) dX12_take_139 ci_3 ?_
  refine xj_ine (tgt := 151) dX12_take_140 rfl ?_ ?_
  · refine xj_aloadn 0 dX12_take_143 rfl rfl ?_
    refine xj_iloadn 2 dX12_take_144 rfl rfl ?_
    refine xj_cVv (argv := [.int a3]) (rest := []) dX12_take_145 (kX12_number a3 w1) mkX12_number tw2071 rfl rfl rfl rfl rfl rfl (fun _ w3 => ?_)
    refine xj_goto (tgt := 380) dX12_take_148 rfl ?_
    refine xj_sub (lv2 := [(0, .ref 0), (1, .int a1)]) [0, 1] rfl ?_
    exact tX12_take_j380 _ _
  · refine xj_aloadn 0 dX12_take_151 rfl rfl ?_
    refine xj_cVv (argv := []) (rest := []) dX12_take_152 (kX12_operand w1) mkX12_operand tw2083 rfl rfl rfl rfl rfl rfl (fun _ w2 => ?_)
    refine xj_goto (tgt := 380) dX12_take_155 rfl ?_
    refine xj_sub (lv2 := [(0, .ref 0), (1, .int a1)]) [0, 1] rfl ?_
    exact tX12_take_j380 _ _
set_option maxRecDepth 20000 in
def sX12_take_j86 (a1 : Int32) (a2 : Int32) (b0 : Int32) (w : xW) : Option (Int32 × xW) :=
  (if a2 < (64 : Int32) then (if (a2 &&& (7 : Int32)) < (6 : Int32) then (if (a2 &&& (7 : Int32)) < (2 : Int32) then sX12_take_j131 a1 b0 (1 : Int32) (a2 >>> ((3 : Int32) &&& 31)) w else (if (a2 &&& (7 : Int32)) < (4 : Int32) then sX12_take_j131 a1 b0 (2 : Int32) (a2 >>> ((3 : Int32) &&& 31)) w else sX12_take_j131 a1 b0 (3 : Int32) (a2 >>> ((3 : Int32) &&& 31)) w)) else sX12_take_j158 a1 a2 b0 w) else sX12_take_j158 a1 a2 b0 w)
set_option maxRecDepth 20000 in
theorem tX12_take_j86 (a1 : Int32) (a2 : Int32) (b0 : Int32) (w : xW) : xJ ιI mX12_take lM (0, 0) 86 [(0, .ref 0), (1, .int a1), (2, .int a2)] [.int b0] w (sX12_take_j86 a1 a2 b0 w) := by
  unfold sX12_take_j86
  refine xj_istoren (lv2 := [(3, .int b0), (0, .ref 0), (1, .int a1), (2, .int a2)]) dX12_take_86 rfl (Nat.le_of_ble_eq_true rfl) rfl ?_
  refine xj_iloadn 3 dX12_take_87 rfl rfl ?_
  refine xj_bipush (v := 64) dX12_take_88 cb_64 ?_
  refine xj_ige (tgt := 158) dX12_take_90 rfl ?_ ?_
  · refine xj_iloadn 3 dX12_take_93 rfl rfl ?_
    refine xj_bipush (v := 7) dX12_take_94 cb_7 ?_
    refine xj_iand dX12_take_96 ?_
    refine xj_bipush (v := 6) dX12_take_97 cb_6 ?_
    refine xj_ige (tgt := 158) dX12_take_99 rfl ?_ ?_
    · refine xj_aloadn 1 dX12_take_102 rfl rfl ?_
      refine xj_iloadn 3 dX12_take_103 rfl rfl ?_
      refine xj_iconst (v := 3) dX12_take_104 ci_3 ?_
      refine xj_ishr dX12_take_105 ?_
      refine xj_iloadn 3 dX12_take_106 rfl rfl ?_
      refine xj_bipush (v := 7) dX12_take_107 cb_7 ?_
      refine xj_iand dX12_take_109 ?_
      refine xj_iconst (v := 2) dX12_take_110 ci_2 ?_
      refine xj_ige (tgt := 118) dX12_take_111 rfl ?_ ?_
      · refine xj_iconst (v := 1) dX12_take_114 ci_1 ?_
        refine xj_goto (tgt := 131) dX12_take_115 rfl ?_
        refine xj_sub (lv2 := [(0, .ref 0), (1, .int a1), (3, .int b0)]) [1, 2, 0] rfl ?_
        exact tX12_take_j131 _ _ _ _ _
      · refine xj_iloadn 3 dX12_take_118 rfl rfl ?_
        refine xj_bipush (v := 7) dX12_take_119 cb_7 ?_
        refine xj_iand dX12_take_121 ?_
        refine xj_iconst (v := 4) dX12_take_122 ci_4 ?_
        refine xj_ige (tgt := 130) dX12_take_123 rfl ?_ ?_
        · refine xj_iconst (v := 2) dX12_take_126 ci_2 ?_
          refine xj_goto (tgt := 131) dX12_take_127 rfl ?_
          refine xj_sub (lv2 := [(0, .ref 0), (1, .int a1), (3, .int b0)]) [1, 2, 0] rfl ?_
          exact tX12_take_j131 _ _ _ _ _
        · refine xj_iconst (v := 3) dX12_take_130 ci_3 ?_
          refine xj_sub (lv2 := [(0, .ref 0), (1, .int a1), (3, .int b0)]) [1, 2, 0] rfl ?_
          exact tX12_take_j131 _ _ _ _ _
    · refine xj_sub (lv2 := [(0, .ref 0), (1, .int a1), (2, .int a2), (3, .int b0)]) [1, 2, 3, 0] rfl ?_
      exact tX12_take_j158 _ _ _ _
  · refine xj_sub (lv2 := [(0, .ref 0), (1, .int a1), (2, .int a2), (3, .int b0)]) [1, 2, 3, 0] rfl ?_
    exact tX12_take_j158 _ _ _ _
set_option maxRecDepth 20000 in
def sX12_take_j23 (a1 : Int32) (b0 : Int32) (w : xW) : Option (Int32 × xW) :=
  (if xz b0 then (if b0 = 0 then some ((0 : Int32), (xwi (xwi (xwi (xwi (xwi (xwi (xwi (xwi w 0 32 b0) 0 22 (3 : Int32)) 0 19 (0 : Int32)) 0 29 (0 : Int32)) 0 23 (0 : Int32)) 0 24 (0 : Int32)) 0 25 (-1 : Int32)) 0 26 (-1 : Int32))) else xbd (sX12_next (xwi (xwi (xwi (xwi (xwi (xwi (xwi (xwi w 0 32 b0) 0 22 (3 : Int32)) 0 19 (0 : Int32)) 0 29 (0 : Int32)) 0 23 (0 : Int32)) 0 24 (0 : Int32)) 0 25 (-1 : Int32)) 0 26 (-1 : Int32))) (fun x1 w2 => (if (x1 &&& (1 : Int32)) = 0 then sX12_take_j86 a1 x1 (1 : Int32) w2 else sX12_take_j86 a1 x1 (4 : Int32) w2))) else none)
set_option maxRecDepth 20000 in
theorem tX12_take_j23 (a1 : Int32) (b0 : Int32) (w : xW) : xJ ιI mX12_take lM (0, 0) 23 [(0, .ref 0), (1, .int a1)] [.int b0, .ref 0] w (sX12_take_j23 a1 b0 w) := by
  unfold sX12_take_j23
  refine xj_guard (fun hz => ?_)
  refine pfX12_62 dX12_take_23 rfl hz ?_
  refine xj_aloadn 0 dX12_take_26 rfl rfl ?_
  refine xj_iconst (v := 3) dX12_take_27 ci_3 ?_
  refine pfX12_82 dX12_take_28 rfl ?_
  refine xj_aloadn 0 dX12_take_31 rfl rfl ?_
  refine xj_iconst (v := 0) dX12_take_32 ci_0 ?_
  refine pfX12_115 dX12_take_33 rfl ?_
  refine xj_aloadn 0 dX12_take_36 rfl rfl ?_
  refine xj_iconst (v := 0) dX12_take_37 ci_0 ?_
  refine pfX12_109 dX12_take_38 rfl ?_
  refine xj_aloadn 0 dX12_take_41 rfl rfl ?_
  refine xj_iconst (v := 0) dX12_take_42 ci_0 ?_
  refine pfX12_85 dX12_take_43 rfl ?_
  refine xj_aloadn 0 dX12_take_46 rfl rfl ?_
  refine xj_iconst (v := 0) dX12_take_47 ci_0 ?_
  refine pfX12_88 dX12_take_48 rfl ?_
  refine xj_aloadn 0 dX12_take_51 rfl rfl ?_
  refine xj_iconst (v := -1) dX12_take_52 ci_m1 ?_
  refine pfX12_91 dX12_take_53 rfl ?_
  refine xj_aloadn 0 dX12_take_56 rfl rfl ?_
  refine xj_iconst (v := -1) dX12_take_57 ci_m1 ?_
  refine pfX12_94 dX12_take_58 rfl ?_
  refine xj_aloadn 0 dX12_take_61 rfl rfl ?_
  refine gfX12_62 (v := b0) dX12_take_62 rfl rfl ?_
  refine xj_ifne (tgt := 70) dX12_take_65 rfl ?_ ?_
  · refine xj_iconst (v := 0) dX12_take_68 ci_0 ?_
    exact xj_rz dX12_take_69 rfl (Or.inl rfl)
  · refine xj_aloadn 0 dX12_take_70 rfl rfl ?_
    refine xj_cVi (argv := []) (rest := []) dX12_take_71 (kX12_next (xwi (xwi (xwi (xwi (xwi (xwi (xwi (xwi w 0 32 b0) 0 22 (3 : Int32)) 0 19 (0 : Int32)) 0 29 (0 : Int32)) 0 23 (0 : Int32)) 0 24 (0 : Int32)) 0 25 (-1 : Int32)) 0 26 (-1 : Int32))) mkX12_next tw2063 rfl rfl rfl rfl rfl rfl (fun x1 w2 => ?_)
    refine xj_istoren (lv2 := [(2, .int x1), (0, .ref 0), (1, .int a1)]) dX12_take_74 rfl (Nat.le_of_ble_eq_true rfl) rfl ?_
    refine xj_iloadn 0 dX12_take_75 rfl rfl ?_
    refine xj_iconst (v := 1) dX12_take_76 ci_1 ?_
    refine xj_iand dX12_take_77 ?_
    refine xj_ifne (tgt := 85) dX12_take_78 rfl ?_ ?_
    · refine xj_iconst (v := 1) dX12_take_81 ci_1 ?_
      refine xj_goto (tgt := 86) dX12_take_82 rfl ?_
      refine xj_sub (lv2 := [(0, .ref 0), (1, .int a1), (2, .int x1)]) [1, 2, 0] rfl ?_
      exact tX12_take_j86 _ _ _ _
    · refine xj_iconst (v := 4) dX12_take_85 ci_4 ?_
      refine xj_sub (lv2 := [(0, .ref 0), (1, .int a1), (2, .int x1)]) [1, 2, 0] rfl ?_
      exact tX12_take_j86 _ _ _ _
set_option maxRecDepth 20000 in
def sX12_take_j22 (a1 : Int32) (w : xW) : Option (Int32 × xW) :=
  sX12_take_j23 a1 (0 : Int32) w
set_option maxRecDepth 20000 in
theorem tX12_take_j22 (a1 : Int32) (w : xW) : xJ ιI mX12_take lM (0, 0) 22 [(0, .ref 0), (1, .int a1)] [.ref 0] w (sX12_take_j22 a1 w) := by
  unfold sX12_take_j22
  refine xj_iconst (v := 0) dX12_take_22 ci_0 ?_
  exact tX12_take_j23 _ _ _
set_option maxRecDepth 20000 in
def sX12_take (p1 : Int32) (w : xW) : Option (Int32 × xW) :=
  (if p1 < 0 then sX12_take_j22 p1 (xwi w 0 31 p1) else (if p1 < (w.1 0 2) then sX12_take_j23 p1 (1 : Int32) (xwi w 0 31 p1) else sX12_take_j22 p1 (xwi w 0 31 p1)))
set_option maxRecDepth 20000 in
theorem tX12_take (p1 : Int32) (w : xW) : xJ ιI mX12_take lM (0, 0) 0 [(0, .ref 0), (1, .int p1)] [] w (sX12_take p1 w) := by
  unfold sX12_take
  refine xj_aloadn 0 dX12_take_0 rfl rfl ?_
  refine xj_iloadn 1 dX12_take_1 rfl rfl ?_
  refine pfX12_56 dX12_take_2 rfl ?_
  refine xj_aloadn 0 dX12_take_5 rfl rfl ?_
  refine xj_iloadn 1 dX12_take_6 rfl rfl ?_
  refine xj_iflt (tgt := 22) dX12_take_7 rfl ?_ ?_
  · exact tX12_take_j22 _ _
  · refine xj_iloadn 1 dX12_take_10 rfl rfl ?_
    refine xj_aloadn 0 dX12_take_11 rfl rfl ?_
    refine gfX12_59 (v := (w.1 0 2)) dX12_take_12 rfl rfl ?_
    refine xj_ige (tgt := 22) dX12_take_15 rfl ?_ ?_
    · refine xj_iconst (v := 1) dX12_take_18 ci_1 ?_
      refine xj_goto (tgt := 23) dX12_take_19 rfl ?_
      exact tX12_take_j23 _ _ _
    · exact tX12_take_j22 _ _
theorem kX12_take (p1 : Int32) (w : xW) : xMet jI mX12_take lM (0, 0) [.ref 0, .int p1] w (sX12_take p1 w) := xj_met lM_ok (by decide) (Nat.le_of_ble_eq_true rfl) (Nat.zero_le _) (Nat.zero_le _) (tX12_take p1 w)
set_option maxRecDepth 20000 in
def sX12_hasE (w : xW) : Option (Int32 × xW) :=
  (if (w.1 0 18) = (1 : Int32) then some ((1 : Int32), w) else (if (w.1 0 18) = (2 : Int32) then some ((1 : Int32), w) else (if (w.1 0 18) = (4 : Int32) then some ((1 : Int32), w) else (if (w.1 0 18) = (5 : Int32) then some ((1 : Int32), w) else (if (w.1 0 18) = (9 : Int32) then some ((1 : Int32), w) else (if (w.1 0 18) = (10 : Int32) then some ((1 : Int32), w) else (if (w.1 0 18) = (11 : Int32) then some ((1 : Int32), w) else (if (w.1 0 18) = (12 : Int32) then some ((1 : Int32), w) else some ((0 : Int32), w)))))))))
set_option maxRecDepth 20000 in
theorem tX12_hasE (w : xW) : xJ ιI mX12_hasE lM (0, 0) 0 [(0, .ref 0)] [] w (sX12_hasE w) := by
  unfold sX12_hasE
  refine xj_aloadn 0 dX12_hasE_0 rfl rfl ?_
  refine gfX12_73 (v := (w.1 0 18)) dX12_hasE_1 rfl rfl ?_
  refine xj_iconst (v := 1) dX12_hasE_4 ci_1 ?_
  refine xj_ieq (tgt := 68) dX12_hasE_5 rfl ?_ ?_
  · refine xj_iconst (v := 1) dX12_hasE_68 ci_1 ?_
    refine xj_goto (tgt := 73) dX12_hasE_69 rfl ?_
    exact xj_rz dX12_hasE_73 rfl (Or.inr rfl)
  · refine xj_aloadn 0 dX12_hasE_8 rfl rfl ?_
    refine gfX12_73 (v := (w.1 0 18)) dX12_hasE_9 rfl rfl ?_
    refine xj_iconst (v := 2) dX12_hasE_12 ci_2 ?_
    refine xj_ieq (tgt := 68) dX12_hasE_13 rfl ?_ ?_
    · refine xj_iconst (v := 1) dX12_hasE_68 ci_1 ?_
      refine xj_goto (tgt := 73) dX12_hasE_69 rfl ?_
      exact xj_rz dX12_hasE_73 rfl (Or.inr rfl)
    · refine xj_aloadn 0 dX12_hasE_16 rfl rfl ?_
      refine gfX12_73 (v := (w.1 0 18)) dX12_hasE_17 rfl rfl ?_
      refine xj_iconst (v := 4) dX12_hasE_20 ci_4 ?_
      refine xj_ieq (tgt := 68) dX12_hasE_21 rfl ?_ ?_
      · refine xj_iconst (v := 1) dX12_hasE_68 ci_1 ?_
        refine xj_goto (tgt := 73) dX12_hasE_69 rfl ?_
        exact xj_rz dX12_hasE_73 rfl (Or.inr rfl)
      · refine xj_aloadn 0 dX12_hasE_24 rfl rfl ?_
        refine gfX12_73 (v := (w.1 0 18)) dX12_hasE_25 rfl rfl ?_
        refine xj_iconst (v := 5) dX12_hasE_28 ci_5 ?_
        refine xj_ieq (tgt := 68) dX12_hasE_29 rfl ?_ ?_
        · refine xj_iconst (v := 1) dX12_hasE_68 ci_1 ?_
          refine xj_goto (tgt := 73) dX12_hasE_69 rfl ?_
          exact xj_rz dX12_hasE_73 rfl (Or.inr rfl)
        · refine xj_aloadn 0 dX12_hasE_32 rfl rfl ?_
          refine gfX12_73 (v := (w.1 0 18)) dX12_hasE_33 rfl rfl ?_
          refine xj_bipush (v := 9) dX12_hasE_36 cb_9 ?_
          refine xj_ieq (tgt := 68) dX12_hasE_38 rfl ?_ ?_
          · refine xj_iconst (v := 1) dX12_hasE_68 ci_1 ?_
            refine xj_goto (tgt := 73) dX12_hasE_69 rfl ?_
            exact xj_rz dX12_hasE_73 rfl (Or.inr rfl)
          · refine xj_aloadn 0 dX12_hasE_41 rfl rfl ?_
            refine gfX12_73 (v := (w.1 0 18)) dX12_hasE_42 rfl rfl ?_
            refine xj_bipush (v := 10) dX12_hasE_45 cb_10 ?_
            refine xj_ieq (tgt := 68) dX12_hasE_47 rfl ?_ ?_
            · refine xj_iconst (v := 1) dX12_hasE_68 ci_1 ?_
              refine xj_goto (tgt := 73) dX12_hasE_69 rfl ?_
              exact xj_rz dX12_hasE_73 rfl (Or.inr rfl)
            · refine xj_aloadn 0 dX12_hasE_50 rfl rfl ?_
              refine gfX12_73 (v := (w.1 0 18)) dX12_hasE_51 rfl rfl ?_
              refine xj_bipush (v := 11) dX12_hasE_54 cb_11 ?_
              refine xj_ieq (tgt := 68) dX12_hasE_56 rfl ?_ ?_
              · refine xj_iconst (v := 1) dX12_hasE_68 ci_1 ?_
                refine xj_goto (tgt := 73) dX12_hasE_69 rfl ?_
                exact xj_rz dX12_hasE_73 rfl (Or.inr rfl)
              · refine xj_aloadn 0 dX12_hasE_59 rfl rfl ?_
                refine gfX12_73 (v := (w.1 0 18)) dX12_hasE_60 rfl rfl ?_
                refine xj_bipush (v := 12) dX12_hasE_63 cb_12 ?_
                refine xj_ine (tgt := 72) dX12_hasE_65 rfl ?_ ?_
                · refine xj_iconst (v := 1) dX12_hasE_68 ci_1 ?_
                  refine xj_goto (tgt := 73) dX12_hasE_69 rfl ?_
                  exact xj_rz dX12_hasE_73 rfl (Or.inr rfl)
                · refine xj_iconst (v := 0) dX12_hasE_72 ci_0 ?_
                  exact xj_rz dX12_hasE_73 rfl (Or.inl rfl)
theorem kX12_hasE (w : xW) : xMet jI mX12_hasE lM (0, 0) [.ref 0] w (sX12_hasE w) := xj_met lM_ok (by decide) (Nat.le_of_ble_eq_true rfl) (Nat.zero_le _) (Nat.zero_le _) (tX12_hasE w)
set_option maxRecDepth 20000 in
def sX12_writesFirst_j63 (w : xW) : Option (Int32 × xW) :=
  (if (w.1 0 17) = (36 : Int32) then some ((1 : Int32), w) else (if (w.1 0 17) = (37 : Int32) then some ((1 : Int32), w) else (if (w.1 0 17) = (45 : Int32) then some ((1 : Int32), w) else (if (w.1 0 17) = (46 : Int32) then some ((1 : Int32), w) else (if (w.1 0 17) = (47 : Int32) then some ((1 : Int32), w) else (if (w.1 0 17) = (48 : Int32) then some ((1 : Int32), w) else (if (w.1 0 17) = (53 : Int32) then some ((1 : Int32), w) else some ((0 : Int32), w))))))))
set_option maxRecDepth 20000 in
theorem tX12_writesFirst_j63 (w : xW) : xJ ιI mX12_writesFirst lM (0, 0) 63 [(0, .ref 0)] [] w (sX12_writesFirst_j63 w) := by
  unfold sX12_writesFirst_j63
  refine xj_aloadn 0 dX12_writesFirst_63 rfl rfl ?_
  refine gfX12_70 (v := (w.1 0 17)) dX12_writesFirst_64 rfl rfl ?_
  refine xj_bipush (v := 36) dX12_writesFirst_67 cb_36 ?_
  refine xj_ieq (tgt := 126) dX12_writesFirst_69 rfl ?_ ?_
  · refine xj_iconst (v := 1) dX12_writesFirst_126 ci_1 ?_
    refine xj_goto (tgt := 131) dX12_writesFirst_127 rfl ?_
    exact xj_rz dX12_writesFirst_131 rfl (Or.inr rfl)
  · refine xj_aloadn 0 dX12_writesFirst_72 rfl rfl ?_
    refine gfX12_70 (v := (w.1 0 17)) dX12_writesFirst_73 rfl rfl ?_
    refine xj_bipush (v := 37) dX12_writesFirst_76 cb_37 ?_
    refine xj_ieq (tgt := 126) dX12_writesFirst_78 rfl ?_ ?_
    · refine xj_iconst (v := 1) dX12_writesFirst_126 ci_1 ?_
      refine xj_goto (tgt := 131) dX12_writesFirst_127 rfl ?_
      exact xj_rz dX12_writesFirst_131 rfl (Or.inr rfl)
    · refine xj_aloadn 0 dX12_writesFirst_81 rfl rfl ?_
      refine gfX12_70 (v := (w.1 0 17)) dX12_writesFirst_82 rfl rfl ?_
      refine xj_bipush (v := 45) dX12_writesFirst_85 cb_45 ?_
      refine xj_ieq (tgt := 126) dX12_writesFirst_87 rfl ?_ ?_
      · refine xj_iconst (v := 1) dX12_writesFirst_126 ci_1 ?_
        refine xj_goto (tgt := 131) dX12_writesFirst_127 rfl ?_
        exact xj_rz dX12_writesFirst_131 rfl (Or.inr rfl)
      · refine xj_aloadn 0 dX12_writesFirst_90 rfl rfl ?_
        refine gfX12_70 (v := (w.1 0 17)) dX12_writesFirst_91 rfl rfl ?_
        refine xj_bipush (v := 46) dX12_writesFirst_94 cb_46 ?_
        refine xj_ieq (tgt := 126) dX12_writesFirst_96 rfl ?_ ?_
        · refine xj_iconst (v := 1) dX12_writesFirst_126 ci_1 ?_
          refine xj_goto (tgt := 131) dX12_writesFirst_127 rfl ?_
          exact xj_rz dX12_writesFirst_131 rfl (Or.inr rfl)
        · refine xj_aloadn 0 dX12_writesFirst_99 rfl rfl ?_
          refine gfX12_70 (v := (w.1 0 17)) dX12_writesFirst_100 rfl rfl ?_
          refine xj_bipush (v := 47) dX12_writesFirst_103 cb_47 ?_
          refine xj_ieq (tgt := 126) dX12_writesFirst_105 rfl ?_ ?_
          · refine xj_iconst (v := 1) dX12_writesFirst_126 ci_1 ?_
            refine xj_goto (tgt := 131) dX12_writesFirst_127 rfl ?_
            exact xj_rz dX12_writesFirst_131 rfl (Or.inr rfl)
          · refine xj_aloadn 0 dX12_writesFirst_108 rfl rfl ?_
            refine gfX12_70 (v := (w.1 0 17)) dX12_writesFirst_109 rfl rfl ?_
            refine xj_bipush (v := 48) dX12_writesFirst_112 cb_48 ?_
            refine xj_ieq (tgt := 126) dX12_writesFirst_114 rfl ?_ ?_
            · refine xj_iconst (v := 1) dX12_writesFirst_126 ci_1 ?_
              refine xj_goto (tgt := 131) dX12_writesFirst_127 rfl ?_
              exact xj_rz dX12_writesFirst_131 rfl (Or.inr rfl)
            · refine xj_aloadn 0 dX12_writesFirst_117 rfl rfl ?_
              refine gfX12_70 (v := (w.1 0 17)) dX12_writesFirst_118 rfl rfl ?_
              refine xj_bipush (v := 53) dX12_writesFirst_121 cb_53 ?_
              refine xj_ine (tgt := 130) dX12_writesFirst_123 rfl ?_ ?_
              · refine xj_iconst (v := 1) dX12_writesFirst_126 ci_1 ?_
                refine xj_goto (tgt := 131) dX12_writesFirst_127 rfl ?_
                exact xj_rz dX12_writesFirst_131 rfl (Or.inr rfl)
              · refine xj_iconst (v := 0) dX12_writesFirst_130 ci_0 ?_
                exact xj_rz dX12_writesFirst_131 rfl (Or.inl rfl)
set_option maxRecDepth 20000 in
def sX12_writesFirst_j18 (w : xW) : Option (Int32 × xW) :=
  (if (w.1 0 17) = (11 : Int32) then some ((1 : Int32), w) else (if (w.1 0 17) = (15 : Int32) then some ((1 : Int32), w) else (if (w.1 0 17) = (16 : Int32) then some ((1 : Int32), w) else (if (w.1 0 17) < (21 : Int32) then sX12_writesFirst_j63 w else (if (27 : Int32) < (w.1 0 17) then sX12_writesFirst_j63 w else some ((1 : Int32), w))))))
set_option maxRecDepth 20000 in
theorem tX12_writesFirst_j18 (w : xW) : xJ ιI mX12_writesFirst lM (0, 0) 18 [(0, .ref 0)] [] w (sX12_writesFirst_j18 w) := by
  unfold sX12_writesFirst_j18
  refine xj_aloadn 0 dX12_writesFirst_18 rfl rfl ?_
  refine gfX12_70 (v := (w.1 0 17)) dX12_writesFirst_19 rfl rfl ?_
  refine xj_bipush (v := 11) dX12_writesFirst_22 cb_11 ?_
  refine xj_ieq (tgt := 126) dX12_writesFirst_24 rfl ?_ ?_
  · refine xj_iconst (v := 1) dX12_writesFirst_126 ci_1 ?_
    refine xj_goto (tgt := 131) dX12_writesFirst_127 rfl ?_
    exact xj_rz dX12_writesFirst_131 rfl (Or.inr rfl)
  · refine xj_aloadn 0 dX12_writesFirst_27 rfl rfl ?_
    refine gfX12_70 (v := (w.1 0 17)) dX12_writesFirst_28 rfl rfl ?_
    refine xj_bipush (v := 15) dX12_writesFirst_31 cb_15 ?_
    refine xj_ieq (tgt := 126) dX12_writesFirst_33 rfl ?_ ?_
    · refine xj_iconst (v := 1) dX12_writesFirst_126 ci_1 ?_
      refine xj_goto (tgt := 131) dX12_writesFirst_127 rfl ?_
      exact xj_rz dX12_writesFirst_131 rfl (Or.inr rfl)
    · refine xj_aloadn 0 dX12_writesFirst_36 rfl rfl ?_
      refine gfX12_70 (v := (w.1 0 17)) dX12_writesFirst_37 rfl rfl ?_
      refine xj_bipush (v := 16) dX12_writesFirst_40 cb_16 ?_
      refine xj_ieq (tgt := 126) dX12_writesFirst_42 rfl ?_ ?_
      · refine xj_iconst (v := 1) dX12_writesFirst_126 ci_1 ?_
        refine xj_goto (tgt := 131) dX12_writesFirst_127 rfl ?_
        exact xj_rz dX12_writesFirst_131 rfl (Or.inr rfl)
      · refine xj_aloadn 0 dX12_writesFirst_45 rfl rfl ?_
        refine gfX12_70 (v := (w.1 0 17)) dX12_writesFirst_46 rfl rfl ?_
        refine xj_bipush (v := 21) dX12_writesFirst_49 cb_21 ?_
        refine xj_ilt (tgt := 63) dX12_writesFirst_51 rfl ?_ ?_
        · exact tX12_writesFirst_j63 _
        · refine xj_aloadn 0 dX12_writesFirst_54 rfl rfl ?_
          refine gfX12_70 (v := (w.1 0 17)) dX12_writesFirst_55 rfl rfl ?_
          refine xj_bipush (v := 27) dX12_writesFirst_58 cb_27 ?_
          refine xj_ile (tgt := 126) dX12_writesFirst_60 rfl ?_ ?_
          · exact tX12_writesFirst_j63 _
          · refine xj_iconst (v := 1) dX12_writesFirst_126 ci_1 ?_
            refine xj_goto (tgt := 131) dX12_writesFirst_127 rfl ?_
            exact xj_rz dX12_writesFirst_131 rfl (Or.inr rfl)
set_option maxRecDepth 20000 in
def sX12_writesFirst (w : xW) : Option (Int32 × xW) :=
  (if (9 : Int32) < (w.1 0 17) then sX12_writesFirst_j18 w else (if (w.1 0 17) = (7 : Int32) then sX12_writesFirst_j18 w else some ((1 : Int32), w)))
set_option maxRecDepth 20000 in
theorem tX12_writesFirst (w : xW) : xJ ιI mX12_writesFirst lM (0, 0) 0 [(0, .ref 0)] [] w (sX12_writesFirst w) := by
  unfold sX12_writesFirst
  refine xj_aloadn 0 dX12_writesFirst_0 rfl rfl ?_
  refine gfX12_70 (v := (w.1 0 17)) dX12_writesFirst_1 rfl rfl ?_
  refine xj_bipush (v := 9) dX12_writesFirst_4 cb_9 ?_
  refine xj_igt (tgt := 18) dX12_writesFirst_6 rfl ?_ ?_
  · exact tX12_writesFirst_j18 _
  · refine xj_aloadn 0 dX12_writesFirst_9 rfl rfl ?_
    refine gfX12_70 (v := (w.1 0 17)) dX12_writesFirst_10 rfl rfl ?_
    refine xj_bipush (v := 7) dX12_writesFirst_13 cb_7 ?_
    refine xj_ine (tgt := 126) dX12_writesFirst_15 rfl ?_ ?_
    · exact tX12_writesFirst_j18 _
    · refine xj_iconst (v := 1) dX12_writesFirst_126 ci_1 ?_
      refine xj_goto (tgt := 131) dX12_writesFirst_127 rfl ?_
      exact xj_rz dX12_writesFirst_131 rfl (Or.inr rfl)
theorem kX12_writesFirst (w : xW) : xMet jI mX12_writesFirst lM (0, 0) [.ref 0] w (sX12_writesFirst w) := xj_met lM_ok (by decide) (Nat.le_of_ble_eq_true rfl) (Nat.zero_le _) (Nat.zero_le _) (tX12_writesFirst w)
set_option maxRecDepth 20000 in
def sX12_writesE (w : xW) : Option (Int32 × xW) :=
  xbd (sX12_hasE w) (fun x1 w2 => (if x1 = 0 then some ((0 : Int32), w2) else (if (w2.1 0 18) = (2 : Int32) then some ((0 : Int32), w2) else (if (w2.1 0 18) = (9 : Int32) then some ((0 : Int32), w2) else xbd (sX12_writesFirst w2) (fun x3 w4 => (if xz x3 then some (x3, w4) else none))))))
set_option maxRecDepth 20000 in
theorem tX12_writesE (w : xW) : xJ ιI mX12_writesE lM (0, 0) 0 [(0, .ref 0)] [] w (sX12_writesE w) := by
  unfold sX12_writesE
  refine xj_aloadn 0 dX12_writesE_0 rfl rfl ?_
  refine xj_cVi (argv := []) (rest := []) dX12_writesE_1 (kX12_hasE w) mkX12_hasE tw2128 rfl rfl rfl rfl rfl rfl (fun x1 w2 => ?_)
  refine xj_ifne (tgt := 9) dX12_writesE_4 rfl ?_ ?_
  · refine xj_iconst (v := 0) dX12_writesE_7 ci_0 ?_
    exact xj_rz dX12_writesE_8 rfl (Or.inl rfl)
  · refine xj_aloadn 0 dX12_writesE_9 rfl rfl ?_
    refine gfX12_73 (v := (w2.1 0 18)) dX12_writesE_10 rfl rfl ?_
    refine xj_iconst (v := 2) dX12_writesE_13 ci_2 ?_
    refine xj_ieq (tgt := 26) dX12_writesE_14 rfl ?_ ?_
    · refine xj_iconst (v := 0) dX12_writesE_26 ci_0 ?_
      refine xj_goto (tgt := 34) dX12_writesE_27 rfl ?_
      exact xj_rz dX12_writesE_34 rfl (Or.inl rfl)
    · refine xj_aloadn 0 dX12_writesE_17 rfl rfl ?_
      refine gfX12_73 (v := (w2.1 0 18)) dX12_writesE_18 rfl rfl ?_
      refine xj_bipush (v := 9) dX12_writesE_21 cb_9 ?_
      refine xj_ine (tgt := 30) dX12_writesE_23 rfl ?_ ?_
      · refine xj_iconst (v := 0) dX12_writesE_26 ci_0 ?_
        refine xj_goto (tgt := 34) dX12_writesE_27 rfl ?_
        exact xj_rz dX12_writesE_34 rfl (Or.inl rfl)
      · refine xj_aloadn 0 dX12_writesE_30 rfl rfl ?_
        refine xj_cVi (argv := []) (rest := []) dX12_writesE_31 (kX12_writesFirst w2) mkX12_writesFirst tw2132 rfl rfl rfl rfl rfl rfl (fun x3 w4 => ?_)
        exact xj_guard (fun h => xj_rz dX12_writesE_34 rfl h)
theorem kX12_writesE (w : xW) : xMet jI mX12_writesE lM (0, 0) [.ref 0] w (sX12_writesE w) := xj_met lM_ok (by decide) (Nat.le_of_ble_eq_true rfl) (Nat.zero_le _) (Nat.zero_le _) (tX12_writesE w)
set_option maxRecDepth 20000 in
def sX12_writesMemory (w : xW) : Option (Int32 × xW) :=
  (if (w.1 0 22) = (3 : Int32) then some ((0 : Int32), w) else xbd (sX12_writesE w) (fun x1 w2 => (if x1 = 0 then some ((0 : Int32), w2) else some ((1 : Int32), w2))))
set_option maxRecDepth 20000 in
theorem tX12_writesMemory (w : xW) : xJ ιI mX12_writesMemory lM (0, 0) 0 [(0, .ref 0)] [] w (sX12_writesMemory w) := by
  unfold sX12_writesMemory
  refine xj_aloadn 0 dX12_writesMemory_0 rfl rfl ?_
  refine gfX12_82 (v := (w.1 0 22)) dX12_writesMemory_1 rfl rfl ?_
  refine xj_iconst (v := 3) dX12_writesMemory_4 ci_3 ?_
  refine xj_ieq (tgt := 19) dX12_writesMemory_5 rfl ?_ ?_
  · refine xj_iconst (v := 0) dX12_writesMemory_19 ci_0 ?_
    exact xj_rz dX12_writesMemory_20 rfl (Or.inl rfl)
  · refine xj_aloadn 0 dX12_writesMemory_8 rfl rfl ?_
    refine xj_cVi (argv := []) (rest := []) dX12_writesMemory_9 (kX12_writesE w) mkX12_writesE tw2124 rfl rfl rfl rfl rfl rfl (fun x1 w2 => ?_)
    refine xj_ifeq (tgt := 19) dX12_writesMemory_12 rfl ?_ ?_
    · refine xj_iconst (v := 0) dX12_writesMemory_19 ci_0 ?_
      exact xj_rz dX12_writesMemory_20 rfl (Or.inl rfl)
    · refine xj_iconst (v := 1) dX12_writesMemory_15 ci_1 ?_
      refine xj_goto (tgt := 20) dX12_writesMemory_16 rfl ?_
      exact xj_rz dX12_writesMemory_20 rfl (Or.inr rfl)
theorem kX12_writesMemory (w : xW) : xMet jI mX12_writesMemory lM (0, 0) [.ref 0] w (sX12_writesMemory w) := xj_met lM_ok (by decide) (Nat.le_of_ble_eq_true rfl) (Nat.zero_le _) (Nat.zero_le _) (tX12_writesMemory w)
set_option maxRecDepth 20000 in
def sX12_writesG_j31 (b0 : Int32) (w : xW) : Option (Int32 × xW) :=
  (if b0 = 0 then (if (w.1 0 18) = (9 : Int32) then some ((1 : Int32), w) else (if (w.1 0 18) = (1 : Int32) then (if (w.1 0 17) = (15 : Int32) then some ((1 : Int32), w) else (if (w.1 0 17) = (53 : Int32) then some ((1 : Int32), w) else some ((0 : Int32), w))) else some ((0 : Int32), w))) else some ((1 : Int32), w))
set_option maxRecDepth 20000 in
theorem tX12_writesG_j31 (b0 : Int32) (w : xW) : xJ ιI mX12_writesG lM (0, 0) 31 [(0, .ref 0)] [.int b0] w (sX12_writesG_j31 b0 w) := by
  unfold sX12_writesG_j31
  refine xj_istoren (lv2 := [(1, .int b0), (0, .ref 0)]) dX12_writesG_31 rfl (Nat.le_of_ble_eq_true rfl) rfl ?_
  refine xj_iloadn 0 dX12_writesG_32 rfl rfl ?_
  refine xj_ifne (tgt := 71) dX12_writesG_33 rfl ?_ ?_
  · refine xj_aloadn 1 dX12_writesG_36 rfl rfl ?_
    refine gfX12_73 (v := (w.1 0 18)) dX12_writesG_37 rfl rfl ?_
    refine xj_bipush (v := 9) dX12_writesG_40 cb_9 ?_
    refine xj_ieq (tgt := 71) dX12_writesG_42 rfl ?_ ?_
    · refine xj_iconst (v := 1) dX12_writesG_71 ci_1 ?_
      refine xj_goto (tgt := 76) dX12_writesG_72 rfl ?_
      exact xj_rz dX12_writesG_76 rfl (Or.inr rfl)
    · refine xj_aloadn 1 dX12_writesG_45 rfl rfl ?_
      refine gfX12_73 (v := (w.1 0 18)) dX12_writesG_46 rfl rfl ?_
      refine xj_iconst (v := 1) dX12_writesG_49 ci_1 ?_
      refine xj_ine (tgt := 75) dX12_writesG_50 rfl ?_ ?_
      · refine xj_aloadn 1 dX12_writesG_53 rfl rfl ?_
        refine gfX12_70 (v := (w.1 0 17)) dX12_writesG_54 rfl rfl ?_
        refine xj_bipush (v := 15) dX12_writesG_57 cb_15 ?_
        refine xj_ieq (tgt := 71) dX12_writesG_59 rfl ?_ ?_
        · refine xj_iconst (v := 1) dX12_writesG_71 ci_1 ?_
          refine xj_goto (tgt := 76) dX12_writesG_72 rfl ?_
          exact xj_rz dX12_writesG_76 rfl (Or.inr rfl)
        · refine xj_aloadn 1 dX12_writesG_62 rfl rfl ?_
          refine gfX12_70 (v := (w.1 0 17)) dX12_writesG_63 rfl rfl ?_
          refine xj_bipush (v := 53) dX12_writesG_66 cb_53 ?_
          refine xj_ine (tgt := 75) dX12_writesG_68 rfl ?_ ?_
          · refine xj_iconst (v := 1) dX12_writesG_71 ci_1 ?_
            refine xj_goto (tgt := 76) dX12_writesG_72 rfl ?_
            exact xj_rz dX12_writesG_76 rfl (Or.inr rfl)
          · refine xj_iconst (v := 0) dX12_writesG_75 ci_0 ?_
            exact xj_rz dX12_writesG_76 rfl (Or.inl rfl)
      · refine xj_iconst (v := 0) dX12_writesG_75 ci_0 ?_
        exact xj_rz dX12_writesG_76 rfl (Or.inl rfl)
  · refine xj_iconst (v := 1) dX12_writesG_71 ci_1 ?_
    refine xj_goto (tgt := 76) dX12_writesG_72 rfl ?_
    exact xj_rz dX12_writesG_76 rfl (Or.inr rfl)
set_option maxRecDepth 20000 in
def sX12_writesG_j30 (w : xW) : Option (Int32 × xW) :=
  sX12_writesG_j31 (0 : Int32) w
set_option maxRecDepth 20000 in
theorem tX12_writesG_j30 (w : xW) : xJ ιI mX12_writesG lM (0, 0) 30 [(0, .ref 0)] [] w (sX12_writesG_j30 w) := by
  unfold sX12_writesG_j30
  refine xj_iconst (v := 0) dX12_writesG_30 ci_0 ?_
  exact tX12_writesG_j31 _ _
set_option maxRecDepth 20000 in
def sX12_writesG (w : xW) : Option (Int32 × xW) :=
  (if (w.1 0 18) = (2 : Int32) then (if (w.1 0 17) = (7 : Int32) then sX12_writesG_j30 w else (if (w.1 0 17) = (14 : Int32) then sX12_writesG_j30 w else sX12_writesG_j31 (1 : Int32) w)) else sX12_writesG_j30 w)
set_option maxRecDepth 20000 in
theorem tX12_writesG (w : xW) : xJ ιI mX12_writesG lM (0, 0) 0 [(0, .ref 0)] [] w (sX12_writesG w) := by
  unfold sX12_writesG
  refine xj_aloadn 0 dX12_writesG_0 rfl rfl ?_
  refine gfX12_73 (v := (w.1 0 18)) dX12_writesG_1 rfl rfl ?_
  refine xj_iconst (v := 2) dX12_writesG_4 ci_2 ?_
  refine xj_ine (tgt := 30) dX12_writesG_5 rfl ?_ ?_
  · refine xj_aloadn 0 dX12_writesG_8 rfl rfl ?_
    refine gfX12_70 (v := (w.1 0 17)) dX12_writesG_9 rfl rfl ?_
    refine xj_bipush (v := 7) dX12_writesG_12 cb_7 ?_
    refine xj_ieq (tgt := 30) dX12_writesG_14 rfl ?_ ?_
    · exact tX12_writesG_j30 _
    · refine xj_aloadn 0 dX12_writesG_17 rfl rfl ?_
      refine gfX12_70 (v := (w.1 0 17)) dX12_writesG_18 rfl rfl ?_
      refine xj_bipush (v := 14) dX12_writesG_21 cb_14 ?_
      refine xj_ieq (tgt := 30) dX12_writesG_23 rfl ?_ ?_
      · exact tX12_writesG_j30 _
      · refine xj_iconst (v := 1) dX12_writesG_26 ci_1 ?_
        refine xj_goto (tgt := 31) dX12_writesG_27 rfl ?_
        exact tX12_writesG_j31 _ _
  · exact tX12_writesG_j30 _
theorem kX12_writesG (w : xW) : xMet jI mX12_writesG lM (0, 0) [.ref 0] w (sX12_writesG w) := xj_met lM_ok (by decide) (Nat.le_of_ble_eq_true rfl) (Nat.zero_le _) (Nat.zero_le _) (tX12_writesG w)
set_option maxRecDepth 20000 in
def sX12_writesStack_j131 (a1 : Int32) (a2 : Int32) (b0 : Int32) (w : xW) : Option (Int32 × xW) :=
  (if a1 = 0 then (if a2 = 0 then (if b0 = 0 then some ((0 : Int32), w) else some ((1 : Int32), w)) else some ((1 : Int32), w)) else some ((1 : Int32), w))
set_option maxRecDepth 20000 in
theorem tX12_writesStack_j131 (a1 : Int32) (a2 : Int32) (b0 : Int32) (w : xW) : xJ ιI mX12_writesStack lM (0, 0) 131 [(1, .int a1), (2, .int a2)] [.int b0] w (sX12_writesStack_j131 a1 a2 b0 w) := by
  unfold sX12_writesStack_j131
  refine xj_istoren (lv2 := [(3, .int b0), (1, .int a1), (2, .int a2)]) dX12_writesStack_131 rfl (Nat.le_of_ble_eq_true rfl) rfl ?_
  refine xj_iloadn 1 dX12_writesStack_132 rfl rfl ?_
  refine xj_ifne (tgt := 144) dX12_writesStack_133 rfl ?_ ?_
  · refine xj_iloadn 2 dX12_writesStack_136 rfl rfl ?_
    refine xj_ifne (tgt := 144) dX12_writesStack_137 rfl ?_ ?_
    · refine xj_iloadn 0 dX12_writesStack_140 rfl rfl ?_
      refine xj_ifeq (tgt := 148) dX12_writesStack_141 rfl ?_ ?_
      · refine xj_iconst (v := 0) dX12_writesStack_148 ci_0 ?_
        exact xj_rz dX12_writesStack_149 rfl (Or.inl rfl)
      · refine xj_iconst (v := 1) dX12_writesStack_144 ci_1 ?_
        refine xj_goto (tgt := 149) dX12_writesStack_145 rfl ?_
        exact xj_rz dX12_writesStack_149 rfl (Or.inr rfl)
    · refine xj_iconst (v := 1) dX12_writesStack_144 ci_1 ?_
      refine xj_goto (tgt := 149) dX12_writesStack_145 rfl ?_
      exact xj_rz dX12_writesStack_149 rfl (Or.inr rfl)
  · refine xj_iconst (v := 1) dX12_writesStack_144 ci_1 ?_
    refine xj_goto (tgt := 149) dX12_writesStack_145 rfl ?_
    exact xj_rz dX12_writesStack_149 rfl (Or.inr rfl)
set_option maxRecDepth 20000 in
def sX12_writesStack_j130 (a1 : Int32) (a2 : Int32) (w : xW) : Option (Int32 × xW) :=
  sX12_writesStack_j131 a1 a2 (0 : Int32) w
set_option maxRecDepth 20000 in
theorem tX12_writesStack_j130 (a1 : Int32) (a2 : Int32) (w : xW) : xJ ιI mX12_writesStack lM (0, 0) 130 [(1, .int a1), (2, .int a2)] [] w (sX12_writesStack_j130 a1 a2 w) := by
  unfold sX12_writesStack_j130
  refine xj_iconst (v := 0) dX12_writesStack_130 ci_0 ?_
  exact tX12_writesStack_j131 _ _ _ _
set_option maxRecDepth 20000 in
def sX12_writesStack_j126 (a1 : Int32) (a2 : Int32) (w : xW) : Option (Int32 × xW) :=
  sX12_writesStack_j131 a1 a2 (1 : Int32) w
set_option maxRecDepth 20000 in
theorem tX12_writesStack_j126 (a1 : Int32) (a2 : Int32) (w : xW) : xJ ιI mX12_writesStack lM (0, 0) 126 [(1, .int a1), (2, .int a2)] [] w (sX12_writesStack_j126 a1 a2 w) := by
  unfold sX12_writesStack_j126
  refine xj_iconst (v := 1) dX12_writesStack_126 ci_1 ?_
  refine xj_goto (tgt := 131) dX12_writesStack_127 rfl ?_
  exact tX12_writesStack_j131 _ _ _ _
set_option maxRecDepth 20000 in
def sX12_writesStack_j101 (a1 : Int32) (a2 : Int32) (w : xW) : Option (Int32 × xW) :=
  (if (w.1 0 18) = (13 : Int32) then (if (1 : Int32) < (w.1 0 20) then (if (w.1 0 24) = (4 : Int32) then sX12_writesStack_j126 a1 a2 w else sX12_writesStack_j130 a1 a2 w) else sX12_writesStack_j130 a1 a2 w) else sX12_writesStack_j130 a1 a2 w)
set_option maxRecDepth 20000 in
theorem tX12_writesStack_j101 (a1 : Int32) (a2 : Int32) (w : xW) : xJ ιI mX12_writesStack lM (0, 0) 101 [(0, .ref 0), (1, .int a1), (2, .int a2)] [] w (sX12_writesStack_j101 a1 a2 w) := by
  unfold sX12_writesStack_j101
  refine xj_aloadn 0 dX12_writesStack_101 rfl rfl ?_
  refine gfX12_73 (v := (w.1 0 18)) dX12_writesStack_102 rfl rfl ?_
  refine xj_bipush (v := 13) dX12_writesStack_105 cb_13 ?_
  refine xj_ine (tgt := 130) dX12_writesStack_107 rfl ?_ ?_
  · refine xj_aloadn 0 dX12_writesStack_110 rfl rfl ?_
    refine gfX12_76 (v := (w.1 0 20)) dX12_writesStack_111 rfl rfl ?_
    refine xj_iconst (v := 1) dX12_writesStack_114 ci_1 ?_
    refine xj_ile (tgt := 130) dX12_writesStack_115 rfl ?_ ?_
    · refine xj_aloadn 0 dX12_writesStack_118 rfl rfl ?_
      refine gfX12_88 (v := (w.1 0 24)) dX12_writesStack_119 rfl rfl ?_
      refine xj_iconst (v := 4) dX12_writesStack_122 ci_4 ?_
      refine xj_ine (tgt := 130) dX12_writesStack_123 rfl ?_ ?_
      · refine xj_sub (lv2 := [(1, .int a1), (2, .int a2)]) [1, 2] rfl ?_
        exact tX12_writesStack_j126 _ _ _
      · refine xj_sub (lv2 := [(1, .int a1), (2, .int a2)]) [1, 2] rfl ?_
        exact tX12_writesStack_j130 _ _ _
    · refine xj_sub (lv2 := [(1, .int a1), (2, .int a2)]) [1, 2] rfl ?_
      exact tX12_writesStack_j130 _ _ _
  · refine xj_sub (lv2 := [(1, .int a1), (2, .int a2)]) [1, 2] rfl ?_
    exact tX12_writesStack_j130 _ _ _
set_option maxRecDepth 20000 in
def sX12_writesStack_j93 (a1 : Int32) (a2 : Int32) (w : xW) : Option (Int32 × xW) :=
  (if (w.1 0 24) = (4 : Int32) then sX12_writesStack_j126 a1 a2 w else sX12_writesStack_j101 a1 a2 w)
set_option maxRecDepth 20000 in
theorem tX12_writesStack_j93 (a1 : Int32) (a2 : Int32) (w : xW) : xJ ιI mX12_writesStack lM (0, 0) 93 [(0, .ref 0), (1, .int a1), (2, .int a2)] [] w (sX12_writesStack_j93 a1 a2 w) := by
  unfold sX12_writesStack_j93
  refine xj_aloadn 0 dX12_writesStack_93 rfl rfl ?_
  refine gfX12_88 (v := (w.1 0 24)) dX12_writesStack_94 rfl rfl ?_
  refine xj_iconst (v := 4) dX12_writesStack_97 ci_4 ?_
  refine xj_ieq (tgt := 126) dX12_writesStack_98 rfl ?_ ?_
  · refine xj_sub (lv2 := [(1, .int a1), (2, .int a2)]) [1, 2] rfl ?_
    exact tX12_writesStack_j126 _ _ _
  · exact tX12_writesStack_j101 _ _ _
set_option maxRecDepth 20000 in
def sX12_writesStack_j84 (a1 : Int32) (a2 : Int32) (w : xW) : Option (Int32 × xW) :=
  (if (w.1 0 18) = (14 : Int32) then sX12_writesStack_j93 a1 a2 w else sX12_writesStack_j101 a1 a2 w)
set_option maxRecDepth 20000 in
theorem tX12_writesStack_j84 (a1 : Int32) (a2 : Int32) (w : xW) : xJ ιI mX12_writesStack lM (0, 0) 84 [(0, .ref 0), (1, .int a1), (2, .int a2)] [] w (sX12_writesStack_j84 a1 a2 w) := by
  unfold sX12_writesStack_j84
  refine xj_aloadn 0 dX12_writesStack_84 rfl rfl ?_
  refine gfX12_73 (v := (w.1 0 18)) dX12_writesStack_85 rfl rfl ?_
  refine xj_bipush (v := 14) dX12_writesStack_88 cb_14 ?_
  refine xj_ine (tgt := 101) dX12_writesStack_90 rfl ?_ ?_
  · exact tX12_writesStack_j93 _ _ _
  · exact tX12_writesStack_j101 _ _ _
set_option maxRecDepth 20000 in
def sX12_writesStack_j65 (a1 : Int32) (b0 : Int32) (w : xW) : Option (Int32 × xW) :=
  (if (w.1 0 18) = (6 : Int32) then (if (w.1 0 17) = (10 : Int32) then sX12_writesStack_j84 a1 b0 w else sX12_writesStack_j93 a1 b0 w) else sX12_writesStack_j84 a1 b0 w)
set_option maxRecDepth 20000 in
theorem tX12_writesStack_j65 (a1 : Int32) (b0 : Int32) (w : xW) : xJ ιI mX12_writesStack lM (0, 0) 65 [(0, .ref 0), (1, .int a1)] [.int b0] w (sX12_writesStack_j65 a1 b0 w) := by
  unfold sX12_writesStack_j65
  refine xj_istoren (lv2 := [(2, .int b0), (0, .ref 0), (1, .int a1)]) dX12_writesStack_65 rfl (Nat.le_of_ble_eq_true rfl) rfl ?_
  refine xj_aloadn 1 dX12_writesStack_66 rfl rfl ?_
  refine gfX12_73 (v := (w.1 0 18)) dX12_writesStack_67 rfl rfl ?_
  refine xj_bipush (v := 6) dX12_writesStack_70 cb_6 ?_
  refine xj_ine (tgt := 84) dX12_writesStack_72 rfl ?_ ?_
  · refine xj_aloadn 1 dX12_writesStack_75 rfl rfl ?_
    refine gfX12_70 (v := (w.1 0 17)) dX12_writesStack_76 rfl rfl ?_
    refine xj_bipush (v := 10) dX12_writesStack_79 cb_10 ?_
    refine xj_ine (tgt := 93) dX12_writesStack_81 rfl ?_ ?_
    · refine xj_sub (lv2 := [(0, .ref 0), (1, .int a1), (2, .int b0)]) [1, 2, 0] rfl ?_
      exact tX12_writesStack_j84 _ _ _
    · refine xj_sub (lv2 := [(0, .ref 0), (1, .int a1), (2, .int b0)]) [1, 2, 0] rfl ?_
      exact tX12_writesStack_j93 _ _ _
  · refine xj_sub (lv2 := [(0, .ref 0), (1, .int a1), (2, .int b0)]) [1, 2, 0] rfl ?_
    exact tX12_writesStack_j84 _ _ _
set_option maxRecDepth 20000 in
def sX12_writesStack_j64 (a1 : Int32) (w : xW) : Option (Int32 × xW) :=
  sX12_writesStack_j65 a1 (0 : Int32) w
set_option maxRecDepth 20000 in
theorem tX12_writesStack_j64 (a1 : Int32) (w : xW) : xJ ιI mX12_writesStack lM (0, 0) 64 [(0, .ref 0), (1, .int a1)] [] w (sX12_writesStack_j64 a1 w) := by
  unfold sX12_writesStack_j64
  refine xj_iconst (v := 0) dX12_writesStack_64 ci_0 ?_
  exact tX12_writesStack_j65 _ _ _
set_option maxRecDepth 20000 in
def sX12_writesStack_j28 (b0 : Int32) (w : xW) : Option (Int32 × xW) :=
  xbd (sX12_writesE w) (fun x1 w2 => (if x1 = 0 then sX12_writesStack_j64 b0 w2 else (if (w2.1 0 22) = (3 : Int32) then (if (1 : Int32) < (w2.1 0 21) then (if (w2.1 0 24) = (4 : Int32) then sX12_writesStack_j65 b0 (1 : Int32) w2 else sX12_writesStack_j64 b0 w2) else sX12_writesStack_j64 b0 w2) else sX12_writesStack_j64 b0 w2)))
set_option maxRecDepth 20000 in
theorem tX12_writesStack_j28 (b0 : Int32) (w : xW) : xJ ιI mX12_writesStack lM (0, 0) 28 [(0, .ref 0)] [.int b0] w (sX12_writesStack_j28 b0 w) := by
  unfold sX12_writesStack_j28
  refine xj_istoren (lv2 := [(1, .int b0), (0, .ref 0)]) dX12_writesStack_28 rfl (Nat.le_of_ble_eq_true rfl) rfl ?_
  refine xj_aloadn 1 dX12_writesStack_29 rfl rfl ?_
  refine xj_cVi (argv := []) (rest := []) dX12_writesStack_30 (kX12_writesE w) mkX12_writesE tw2124 rfl rfl rfl rfl rfl rfl (fun x1 w2 => ?_)
  refine xj_ifeq (tgt := 64) dX12_writesStack_33 rfl ?_ ?_
  · refine xj_sub (lv2 := [(0, .ref 0), (1, .int b0)]) [1, 0] rfl ?_
    exact tX12_writesStack_j64 _ _
  · refine xj_aloadn 1 dX12_writesStack_36 rfl rfl ?_
    refine gfX12_82 (v := (w2.1 0 22)) dX12_writesStack_37 rfl rfl ?_
    refine xj_iconst (v := 3) dX12_writesStack_40 ci_3 ?_
    refine xj_ine (tgt := 64) dX12_writesStack_41 rfl ?_ ?_
    · refine xj_aloadn 1 dX12_writesStack_44 rfl rfl ?_
      refine gfX12_79 (v := (w2.1 0 21)) dX12_writesStack_45 rfl rfl ?_
      refine xj_iconst (v := 1) dX12_writesStack_48 ci_1 ?_
      refine xj_ile (tgt := 64) dX12_writesStack_49 rfl ?_ ?_
      · refine xj_aloadn 1 dX12_writesStack_52 rfl rfl ?_
        refine gfX12_88 (v := (w2.1 0 24)) dX12_writesStack_53 rfl rfl ?_
        refine xj_iconst (v := 4) dX12_writesStack_56 ci_4 ?_
        refine xj_ine (tgt := 64) dX12_writesStack_57 rfl ?_ ?_
        · refine xj_iconst (v := 1) dX12_writesStack_60 ci_1 ?_
          refine xj_goto (tgt := 65) dX12_writesStack_61 rfl ?_
          refine xj_sub (lv2 := [(0, .ref 0), (1, .int b0)]) [1, 0] rfl ?_
          exact tX12_writesStack_j65 _ _ _
        · refine xj_sub (lv2 := [(0, .ref 0), (1, .int b0)]) [1, 0] rfl ?_
          exact tX12_writesStack_j64 _ _
      · refine xj_sub (lv2 := [(0, .ref 0), (1, .int b0)]) [1, 0] rfl ?_
        exact tX12_writesStack_j64 _ _
    · refine xj_sub (lv2 := [(0, .ref 0), (1, .int b0)]) [1, 0] rfl ?_
      exact tX12_writesStack_j64 _ _
set_option maxRecDepth 20000 in
def sX12_writesStack_j27 (w : xW) : Option (Int32 × xW) :=
  sX12_writesStack_j28 (0 : Int32) w
set_option maxRecDepth 20000 in
theorem tX12_writesStack_j27 (w : xW) : xJ ιI mX12_writesStack lM (0, 0) 27 [(0, .ref 0)] [] w (sX12_writesStack_j27 w) := by
  unfold sX12_writesStack_j27
  refine xj_iconst (v := 0) dX12_writesStack_27 ci_0 ?_
  exact tX12_writesStack_j28 _ _
set_option maxRecDepth 20000 in
def sX12_writesStack (w : xW) : Option (Int32 × xW) :=
  xbd (sX12_writesG w) (fun x1 w2 => (if x1 = 0 then sX12_writesStack_j27 w2 else (if (1 : Int32) < (w2.1 0 20) then (if (w2.1 0 23) = (4 : Int32) then sX12_writesStack_j28 (1 : Int32) w2 else sX12_writesStack_j27 w2) else sX12_writesStack_j27 w2)))
set_option maxRecDepth 20000 in
theorem tX12_writesStack (w : xW) : xJ ιI mX12_writesStack lM (0, 0) 0 [(0, .ref 0)] [] w (sX12_writesStack w) := by
  unfold sX12_writesStack
  refine xj_aloadn 0 dX12_writesStack_0 rfl rfl ?_
  refine xj_cVi (argv := []) (rest := []) dX12_writesStack_1 (kX12_writesG w) mkX12_writesG tw2120 rfl rfl rfl rfl rfl rfl (fun x1 w2 => ?_)
  refine xj_ifeq (tgt := 27) dX12_writesStack_4 rfl ?_ ?_
  · exact tX12_writesStack_j27 _
  · refine xj_aloadn 0 dX12_writesStack_7 rfl rfl ?_
    refine gfX12_76 (v := (w2.1 0 20)) dX12_writesStack_8 rfl rfl ?_
    refine xj_iconst (v := 1) dX12_writesStack_11 ci_1 ?_
    refine xj_ile (tgt := 27) dX12_writesStack_12 rfl ?_ ?_
    · refine xj_aloadn 0 dX12_writesStack_15 rfl rfl ?_
      refine gfX12_85 (v := (w2.1 0 23)) dX12_writesStack_16 rfl rfl ?_
      refine xj_iconst (v := 4) dX12_writesStack_19 ci_4 ?_
      refine xj_ine (tgt := 27) dX12_writesStack_20 rfl ?_ ?_
      · refine xj_iconst (v := 1) dX12_writesStack_23 ci_1 ?_
        refine xj_goto (tgt := 28) dX12_writesStack_24 rfl ?_
        exact tX12_writesStack_j28 _ _
      · exact tX12_writesStack_j27 _
    · exact tX12_writesStack_j27 _
theorem kX12_writesStack (w : xW) : xMet jI mX12_writesStack lM (0, 0) [.ref 0] w (sX12_writesStack w) := xj_met lM_ok (by decide) (Nat.le_of_ble_eq_true rfl) (Nat.zero_le _) (Nat.zero_le _) (tX12_writesStack w)
set_option maxRecDepth 20000 in
def sX12_isFenceAnd_j55 (w : xW) : Option (Int32 × xW) :=
  (if (w.1 0 29) = (65535 : Int32) then (if (w.1 0 30) = (6 : Int32) then some ((1 : Int32), w) else some ((0 : Int32), w)) else some ((0 : Int32), w))
set_option maxRecDepth 20000 in
theorem tX12_isFenceAnd_j55 (w : xW) : xJ ιI mX12_isFenceAnd lM (0, 0) 55 [(0, .ref 0)] [] w (sX12_isFenceAnd_j55 w) := by
  unfold sX12_isFenceAnd_j55
  refine xj_aloadn 0 dX12_isFenceAnd_55 rfl rfl ?_
  refine gfX12_109 (v := (w.1 0 29)) dX12_isFenceAnd_56 rfl rfl ?_
  refine xj_ldc (v := 65535) tw2115 dX12_isFenceAnd_59 ?_
  refine xj_ine (tgt := 77) dX12_isFenceAnd_61 rfl ?_ ?_
  · refine xj_aloadn 0 dX12_isFenceAnd_64 rfl rfl ?_
    refine gfX12_138 (v := (w.1 0 30)) dX12_isFenceAnd_65 rfl rfl ?_
    refine xj_bipush (v := 6) dX12_isFenceAnd_68 cb_6 ?_
    refine xj_ine (tgt := 77) dX12_isFenceAnd_70 rfl ?_ ?_
    · refine xj_iconst (v := 1) dX12_isFenceAnd_73 ci_1 ?_
      refine xj_goto (tgt := 78) dX12_isFenceAnd_74 rfl ?_
      exact xj_rz dX12_isFenceAnd_78 rfl (Or.inr rfl)
    · refine xj_iconst (v := 0) dX12_isFenceAnd_77 ci_0 ?_
      exact xj_rz dX12_isFenceAnd_78 rfl (Or.inl rfl)
  · refine xj_iconst (v := 0) dX12_isFenceAnd_77 ci_0 ?_
    exact xj_rz dX12_isFenceAnd_78 rfl (Or.inl rfl)
set_option maxRecDepth 20000 in
def sX12_isFenceAnd (p1 : Int32) (w : xW) : Option (Int32 × xW) :=
  (if (w.1 0 17) = (4 : Int32) then (if (w.1 0 18) = (4 : Int32) then (if (w.1 0 20) = (4 : Int32) then (if (w.1 0 22) = (3 : Int32) then (if p1 < 0 then (if (w.1 0 24) = (4 : Int32) then some ((0 : Int32), w) else sX12_isFenceAnd_j55 w) else (if (w.1 0 24) = p1 then sX12_isFenceAnd_j55 w else some ((0 : Int32), w))) else some ((0 : Int32), w)) else some ((0 : Int32), w)) else some ((0 : Int32), w)) else some ((0 : Int32), w))
set_option maxRecDepth 20000 in
theorem tX12_isFenceAnd (p1 : Int32) (w : xW) : xJ ιI mX12_isFenceAnd lM (0, 0) 0 [(0, .ref 0), (1, .int p1)] [] w (sX12_isFenceAnd p1 w) := by
  unfold sX12_isFenceAnd
  refine xj_aloadn 0 dX12_isFenceAnd_0 rfl rfl ?_
  refine gfX12_70 (v := (w.1 0 17)) dX12_isFenceAnd_1 rfl rfl ?_
  refine xj_iconst (v := 4) dX12_isFenceAnd_4 ci_4 ?_
  refine xj_ine (tgt := 77) dX12_isFenceAnd_5 rfl ?_ ?_
  · refine xj_aloadn 0 dX12_isFenceAnd_8 rfl rfl ?_
    refine gfX12_73 (v := (w.1 0 18)) dX12_isFenceAnd_9 rfl rfl ?_
    refine xj_iconst (v := 4) dX12_isFenceAnd_12 ci_4 ?_
    refine xj_ine (tgt := 77) dX12_isFenceAnd_13 rfl ?_ ?_
    · refine xj_aloadn 0 dX12_isFenceAnd_16 rfl rfl ?_
      refine gfX12_76 (v := (w.1 0 20)) dX12_isFenceAnd_17 rfl rfl ?_
      refine xj_iconst (v := 4) dX12_isFenceAnd_20 ci_4 ?_
      refine xj_ine (tgt := 77) dX12_isFenceAnd_21 rfl ?_ ?_
      · refine xj_aloadn 0 dX12_isFenceAnd_24 rfl rfl ?_
        refine gfX12_82 (v := (w.1 0 22)) dX12_isFenceAnd_25 rfl rfl ?_
        refine xj_iconst (v := 3) dX12_isFenceAnd_28 ci_3 ?_
        refine xj_ine (tgt := 77) dX12_isFenceAnd_29 rfl ?_ ?_
        · refine xj_iloadn 1 dX12_isFenceAnd_32 rfl rfl ?_
          refine xj_ifge (tgt := 47) dX12_isFenceAnd_33 rfl ?_ ?_
          · refine xj_aloadn 0 dX12_isFenceAnd_36 rfl rfl ?_
            refine gfX12_88 (v := (w.1 0 24)) dX12_isFenceAnd_37 rfl rfl ?_
            refine xj_iconst (v := 4) dX12_isFenceAnd_40 ci_4 ?_
            refine xj_ieq (tgt := 77) dX12_isFenceAnd_41 rfl ?_ ?_
            · refine xj_iconst (v := 0) dX12_isFenceAnd_77 ci_0 ?_
              exact xj_rz dX12_isFenceAnd_78 rfl (Or.inl rfl)
            · refine xj_goto (tgt := 55) dX12_isFenceAnd_44 rfl ?_
              refine xj_sub (lv2 := [(0, .ref 0)]) [0] rfl ?_
              exact tX12_isFenceAnd_j55 _
          · refine xj_aloadn 0 dX12_isFenceAnd_47 rfl rfl ?_
            refine gfX12_88 (v := (w.1 0 24)) dX12_isFenceAnd_48 rfl rfl ?_
            refine xj_iloadn 1 dX12_isFenceAnd_51 rfl rfl ?_
            refine xj_ine (tgt := 77) dX12_isFenceAnd_52 rfl ?_ ?_
            · refine xj_sub (lv2 := [(0, .ref 0)]) [0] rfl ?_
              exact tX12_isFenceAnd_j55 _
            · refine xj_iconst (v := 0) dX12_isFenceAnd_77 ci_0 ?_
              exact xj_rz dX12_isFenceAnd_78 rfl (Or.inl rfl)
        · refine xj_iconst (v := 0) dX12_isFenceAnd_77 ci_0 ?_
          exact xj_rz dX12_isFenceAnd_78 rfl (Or.inl rfl)
      · refine xj_iconst (v := 0) dX12_isFenceAnd_77 ci_0 ?_
        exact xj_rz dX12_isFenceAnd_78 rfl (Or.inl rfl)
    · refine xj_iconst (v := 0) dX12_isFenceAnd_77 ci_0 ?_
      exact xj_rz dX12_isFenceAnd_78 rfl (Or.inl rfl)
  · refine xj_iconst (v := 0) dX12_isFenceAnd_77 ci_0 ?_
    exact xj_rz dX12_isFenceAnd_78 rfl (Or.inl rfl)
theorem kX12_isFenceAnd (p1 : Int32) (w : xW) : xMet jI mX12_isFenceAnd lM (0, 0) [.ref 0, .int p1] w (sX12_isFenceAnd p1 w) := xj_met lM_ok (by decide) (Nat.le_of_ble_eq_true rfl) (Nat.zero_le _) (Nat.zero_le _) (tX12_isFenceAnd p1 w)
set_option maxRecDepth 20000 in
def sX12_isFenceOr (p1 : Int32) (w : xW) : Option (Int32 × xW) :=
  (if (w.1 0 17) = (1 : Int32) then (if (w.1 0 18) = (4 : Int32) then (if (w.1 0 20) = (4 : Int32) then (if (w.1 0 22) = (3 : Int32) then (if (w.1 0 24) = p1 then (if (w.1 0 29) = (65536 : Int32) then (if (w.1 0 30) = (6 : Int32) then some ((1 : Int32), w) else some ((0 : Int32), w)) else some ((0 : Int32), w)) else some ((0 : Int32), w)) else some ((0 : Int32), w)) else some ((0 : Int32), w)) else some ((0 : Int32), w)) else some ((0 : Int32), w))
set_option maxRecDepth 20000 in
theorem tX12_isFenceOr (p1 : Int32) (w : xW) : xJ ιI mX12_isFenceOr lM (0, 0) 0 [(0, .ref 0), (1, .int p1)] [] w (sX12_isFenceOr p1 w) := by
  unfold sX12_isFenceOr
  refine xj_aloadn 0 dX12_isFenceOr_0 rfl rfl ?_
  refine gfX12_70 (v := (w.1 0 17)) dX12_isFenceOr_1 rfl rfl ?_
  refine xj_iconst (v := 1) dX12_isFenceOr_4 ci_1 ?_
  refine xj_ine (tgt := 62) dX12_isFenceOr_5 rfl ?_ ?_
  · refine xj_aloadn 0 dX12_isFenceOr_8 rfl rfl ?_
    refine gfX12_73 (v := (w.1 0 18)) dX12_isFenceOr_9 rfl rfl ?_
    refine xj_iconst (v := 4) dX12_isFenceOr_12 ci_4 ?_
    refine xj_ine (tgt := 62) dX12_isFenceOr_13 rfl ?_ ?_
    · refine xj_aloadn 0 dX12_isFenceOr_16 rfl rfl ?_
      refine gfX12_76 (v := (w.1 0 20)) dX12_isFenceOr_17 rfl rfl ?_
      refine xj_iconst (v := 4) dX12_isFenceOr_20 ci_4 ?_
      refine xj_ine (tgt := 62) dX12_isFenceOr_21 rfl ?_ ?_
      · refine xj_aloadn 0 dX12_isFenceOr_24 rfl rfl ?_
        refine gfX12_82 (v := (w.1 0 22)) dX12_isFenceOr_25 rfl rfl ?_
        refine xj_iconst (v := 3) dX12_isFenceOr_28 ci_3 ?_
        refine xj_ine (tgt := 62) dX12_isFenceOr_29 rfl ?_ ?_
        · refine xj_aloadn 0 dX12_isFenceOr_32 rfl rfl ?_
          refine gfX12_88 (v := (w.1 0 24)) dX12_isFenceOr_33 rfl rfl ?_
          refine xj_iloadn 1 dX12_isFenceOr_36 rfl rfl ?_
          refine xj_ine (tgt := 62) dX12_isFenceOr_37 rfl ?_ ?_
          · refine xj_aloadn 0 dX12_isFenceOr_40 rfl rfl ?_
            refine gfX12_109 (v := (w.1 0 29)) dX12_isFenceOr_41 rfl rfl ?_
            refine xj_ldc (v := 65536) tw1900 dX12_isFenceOr_44 ?_
            refine xj_ine (tgt := 62) dX12_isFenceOr_46 rfl ?_ ?_
            · refine xj_aloadn 0 dX12_isFenceOr_49 rfl rfl ?_
              refine gfX12_138 (v := (w.1 0 30)) dX12_isFenceOr_50 rfl rfl ?_
              refine xj_bipush (v := 6) dX12_isFenceOr_53 cb_6 ?_
              refine xj_ine (tgt := 62) dX12_isFenceOr_55 rfl ?_ ?_
              · refine xj_iconst (v := 1) dX12_isFenceOr_58 ci_1 ?_
                refine xj_goto (tgt := 63) dX12_isFenceOr_59 rfl ?_
                exact xj_rz dX12_isFenceOr_63 rfl (Or.inr rfl)
              · refine xj_iconst (v := 0) dX12_isFenceOr_62 ci_0 ?_
                exact xj_rz dX12_isFenceOr_63 rfl (Or.inl rfl)
            · refine xj_iconst (v := 0) dX12_isFenceOr_62 ci_0 ?_
              exact xj_rz dX12_isFenceOr_63 rfl (Or.inl rfl)
          · refine xj_iconst (v := 0) dX12_isFenceOr_62 ci_0 ?_
            exact xj_rz dX12_isFenceOr_63 rfl (Or.inl rfl)
        · refine xj_iconst (v := 0) dX12_isFenceOr_62 ci_0 ?_
          exact xj_rz dX12_isFenceOr_63 rfl (Or.inl rfl)
      · refine xj_iconst (v := 0) dX12_isFenceOr_62 ci_0 ?_
        exact xj_rz dX12_isFenceOr_63 rfl (Or.inl rfl)
    · refine xj_iconst (v := 0) dX12_isFenceOr_62 ci_0 ?_
      exact xj_rz dX12_isFenceOr_63 rfl (Or.inl rfl)
  · refine xj_iconst (v := 0) dX12_isFenceOr_62 ci_0 ?_
    exact xj_rz dX12_isFenceOr_63 rfl (Or.inl rfl)
theorem kX12_isFenceOr (p1 : Int32) (w : xW) : xMet jI mX12_isFenceOr lM (0, 0) [.ref 0, .int p1] w (sX12_isFenceOr p1 w) := xj_met lM_ok (by decide) (Nat.le_of_ble_eq_true rfl) (Nat.zero_le _) (Nat.zero_le _) (tX12_isFenceOr p1 w)
set_option maxRecDepth 20000 in
def sX12_isNear (w : xW) : Option (Int32 × xW) :=
  (if (w.1 0 26) = (-1 : Int32) then xbd (sX12_isIn ((w.1 0 28).toInt64) (-2048 : Int64) (2047 : Int64) w) (fun x1 w2 => (if x1 = 0 then some ((0 : Int32), w2) else some ((1 : Int32), w2))) else some ((0 : Int32), w))
set_option maxRecDepth 20000 in
theorem tX12_isNear (w : xW) : xJ ιI mX12_isNear lM (0, 0) 0 [(0, .ref 0)] [] w (sX12_isNear w) := by
  unfold sX12_isNear
  refine xj_aloadn 0 dX12_isNear_0 rfl rfl ?_
  refine gfX12_94 (v := (w.1 0 26)) dX12_isNear_1 rfl rfl ?_
  refine xj_iconst (v := -1) dX12_isNear_4 ci_m1 ?_
  refine xj_ine (tgt := 29) dX12_isNear_5 rfl ?_ ?_
  · refine xj_aloadn 0 dX12_isNear_8 rfl rfl ?_
    refine gfX12_100 (v := (w.1 0 28)) dX12_isNear_9 rfl rfl ?_
    refine xj_i2l dX12_isNear_12 ?_
    refine xj_ldc2 (v := -2048) tw2148 dX12_isNear_13 ?_
    refine xj_ldc2 (v := 2047) tw2149 dX12_isNear_16 ?_
    refine xj_cSi (argv := [.long ((w.1 0 28).toInt64), .long (-2048 : Int64), .long (2047 : Int64)]) (rest := []) dX12_isNear_19 (kX12_isIn ((w.1 0 28).toInt64) (-2048 : Int64) (2047 : Int64) w) mkX12_isIn tw2150 rfl rfl rfl rfl (fun x1 w2 => ?_)
    refine xj_ifeq (tgt := 29) dX12_isNear_22 rfl ?_ ?_
    · refine xj_iconst (v := 0) dX12_isNear_29 ci_0 ?_
      exact xj_rz dX12_isNear_30 rfl (Or.inl rfl)
    · refine xj_iconst (v := 1) dX12_isNear_25 ci_1 ?_
      refine xj_goto (tgt := 30) dX12_isNear_26 rfl ?_
      exact xj_rz dX12_isNear_30 rfl (Or.inr rfl)
  · refine xj_iconst (v := 0) dX12_isNear_29 ci_0 ?_
    exact xj_rz dX12_isNear_30 rfl (Or.inl rfl)
theorem kX12_isNear (w : xW) : xMet jI mX12_isNear lM (0, 0) [.ref 0] w (sX12_isNear w) := xj_met lM_ok (by decide) (Nat.le_of_ble_eq_true rfl) (Nat.zero_le _) (Nat.zero_le _) (tX12_isNear w)
set_option maxRecDepth 20000 in
def sX12_longer_j368 (a8 : Int32) (b0 : Int32) (w : xW) : Option (Int32 × xW) :=
  (if b0 = 0 then some ((-1 : Int32), w) else some ((a8 + (w.1 0 30)), w))
set_option maxRecDepth 20000 in
theorem tX12_longer_j368 (a8 : Int32) (b0 : Int32) (w : xW) : xJ ιI mX12_longer lM (0, 0) 368 [(0, .ref 0), (8, .int a8)] [.int b0] w (sX12_longer_j368 a8 b0 w) := by
  unfold sX12_longer_j368
  refine xj_istore (lv2 := [(11, .int b0), (0, .ref 0), (8, .int a8)]) dX12_longer_368 (Nat.le_of_ble_eq_true rfl) rfl ?_
  refine xj_iload 0 dX12_longer_370 rfl ?_
  refine xj_ifeq (tgt := 385) dX12_longer_372 rfl ?_ ?_
  · refine xj_iconst (v := -1) dX12_longer_385 ci_m1 ?_
    exact xj_ri dX12_longer_386 rfl
  · refine xj_iload 2 dX12_longer_375 rfl ?_
    refine xj_aloadn 1 dX12_longer_377 rfl rfl ?_
    refine gfX12_138 (v := (w.1 0 30)) dX12_longer_378 rfl rfl ?_
    refine xj_iadd dX12_longer_381 ?_
    refine xj_goto (tgt := 386) dX12_longer_382 rfl ?_
    exact xj_ri dX12_longer_386 rfl
set_option maxRecDepth 20000 in
def sX12_longer_j367 (a8 : Int32) (w : xW) : Option (Int32 × xW) :=
  sX12_longer_j368 a8 (0 : Int32) w
set_option maxRecDepth 20000 in
theorem tX12_longer_j367 (a8 : Int32) (w : xW) : xJ ιI mX12_longer lM (0, 0) 367 [(0, .ref 0), (8, .int a8)] [] w (sX12_longer_j367 a8 w) := by
  unfold sX12_longer_j367
  refine xj_iconst (v := 0) dX12_longer_367 ci_0 ?_
  exact tX12_longer_j368 _ _ _
set_option maxRecDepth 20000 in
def sX12_longer_j277 (a2 : Int32) (a4 : Int32) (a6 : Int32) (a8 : Int32) (b0 : Int32) (w : xW) : Option (Int32 × xW) :=
  (if b0 = 0 then some ((-1 : Int32), w) else (if a6 = 0 then (if a2 < (a8 + (w.1 0 30)) then some ((-1 : Int32), w) else some ((a8 + (w.1 0 30)), w)) else xbd (sX12_take (a8 + (w.1 0 30)) w) (fun x1 w2 => (if x1 = 0 then sX12_longer_j367 (a8 + (w.1 0 30)) w2 else xbd (sX12_writesMemory w2) (fun x3 w4 => (if x3 = 0 then sX12_longer_j367 (a8 + (w.1 0 30)) w4 else (if (w4.1 0 25) = a4 then xbd (sX12_isNear w4) (fun x5 w6 => (if x5 = 0 then sX12_longer_j367 (a8 + (w.1 0 30)) w6 else xbd (sX12_writesStack w6) (fun x7 w8 => (if x7 = 0 then (if a2 < ((a8 + (w.1 0 30)) + (w8.1 0 30)) then sX12_longer_j367 (a8 + (w.1 0 30)) w8 else sX12_longer_j368 (a8 + (w.1 0 30)) (1 : Int32) w8) else sX12_longer_j367 (a8 + (w.1 0 30)) w8)))) else sX12_longer_j367 (a8 + (w.1 0 30)) w4)))))))
set_option maxRecDepth 20000 in
theorem tX12_longer_j277 (a2 : Int32) (a4 : Int32) (a6 : Int32) (a8 : Int32) (b0 : Int32) (w : xW) : xJ ιI mX12_longer lM (0, 0) 277 [(0, .ref 0), (2, .int a2), (4, .int a4), (6, .int a6), (8, .int a8)] [.int b0] w (sX12_longer_j277 a2 a4 a6 a8 b0 w) := by
  unfold sX12_longer_j277
  refine xj_istore (lv2 := [(10, .int b0), (0, .ref 0), (2, .int a2), (4, .int a4), (6, .int a6), (8, .int a8)]) dX12_longer_277 (Nat.le_of_ble_eq_true rfl) rfl ?_
  refine xj_iload 0 dX12_longer_279 rfl ?_
  refine xj_ifne (tgt := 286) dX12_longer_281 rfl ?_ ?_
  · refine xj_iconst (v := -1) dX12_longer_284 ci_m1 ?_
    exact xj_ri dX12_longer_285 rfl
  · refine xj_iload 5 dX12_longer_286 rfl ?_
    refine xj_aloadn 1 dX12_longer_288 rfl rfl ?_
    refine gfX12_138 (v := (w.1 0 30)) dX12_longer_289 rfl rfl ?_
    refine xj_iadd dX12_longer_292 ?_
    refine xj_istore (lv2 := [(8, .int (a8 + (w.1 0 30))), (10, .int b0), (0, .ref 0), (2, .int a2), (4, .int a4), (6, .int a6)]) dX12_longer_293 (Nat.le_of_ble_eq_true rfl) rfl ?_
    refine xj_iload 5 dX12_longer_295 rfl ?_
    refine xj_ifne (tgt := 313) dX12_longer_297 rfl ?_ ?_
    · refine xj_iload 0 dX12_longer_300 rfl ?_
      refine xj_iloadn 3 dX12_longer_302 rfl rfl ?_
      refine xj_igt (tgt := 311) dX12_longer_303 rfl ?_ ?_
      · refine xj_iconst (v := -1) dX12_longer_311 ci_m1 ?_
        exact xj_ri dX12_longer_312 rfl
      · refine xj_iload 0 dX12_longer_306 rfl ?_
        refine xj_goto (tgt := 312) dX12_longer_308 rfl ?_
        exact xj_ri dX12_longer_312 rfl
    · refine xj_aloadn 2 dX12_longer_313 rfl rfl ?_
      refine xj_iload 0 dX12_longer_314 rfl ?_
      refine xj_cVi (argv := [.int (a8 + (w.1 0 30))]) (rest := []) dX12_longer_316 (kX12_take (a8 + (w.1 0 30)) w) mkX12_take tw2059 rfl rfl rfl rfl rfl rfl (fun x1 w2 => ?_)
      refine xj_ifeq (tgt := 367) dX12_longer_319 rfl ?_ ?_
      · refine xj_sub (lv2 := [(0, .ref 0), (8, .int (a8 + (w.1 0 30)))]) [2, 0] rfl ?_
        exact tX12_longer_j367 _ _
      · refine xj_aloadn 2 dX12_longer_322 rfl rfl ?_
        refine xj_cVi (argv := []) (rest := []) dX12_longer_323 (kX12_writesMemory w2) mkX12_writesMemory tw2136 rfl rfl rfl rfl rfl rfl (fun x3 w4 => ?_)
        refine xj_ifeq (tgt := 367) dX12_longer_326 rfl ?_ ?_
        · refine xj_sub (lv2 := [(0, .ref 0), (8, .int (a8 + (w.1 0 30)))]) [2, 0] rfl ?_
          exact tX12_longer_j367 _ _
        · refine xj_aloadn 2 dX12_longer_329 rfl rfl ?_
          refine gfX12_91 (v := (w4.1 0 25)) dX12_longer_330 rfl rfl ?_
          refine xj_iload 4 dX12_longer_333 rfl ?_
          refine xj_ine (tgt := 367) dX12_longer_335 rfl ?_ ?_
          · refine xj_aloadn 2 dX12_longer_338 rfl rfl ?_
            refine xj_cVi (argv := []) (rest := []) dX12_longer_339 (kX12_isNear w4) mkX12_isNear tw2144 rfl rfl rfl rfl rfl rfl (fun x5 w6 => ?_)
            refine xj_ifeq (tgt := 367) dX12_longer_342 rfl ?_ ?_
            · refine xj_sub (lv2 := [(0, .ref 0), (8, .int (a8 + (w.1 0 30)))]) [2, 0] rfl ?_
              exact tX12_longer_j367 _ _
            · refine xj_aloadn 2 dX12_longer_345 rfl rfl ?_
              refine xj_cVi (argv := []) (rest := []) dX12_longer_346 (kX12_writesStack w6) mkX12_writesStack tw2116 rfl rfl rfl rfl rfl rfl (fun x7 w8 => ?_)
              refine xj_ifne (tgt := 367) dX12_longer_349 rfl ?_ ?_
              · refine xj_iload 0 dX12_longer_352 rfl ?_
                refine xj_aloadn 2 dX12_longer_354 rfl rfl ?_
                refine gfX12_138 (v := (w8.1 0 30)) dX12_longer_355 rfl rfl ?_
                refine xj_iadd dX12_longer_358 ?_
                refine xj_iloadn 3 dX12_longer_359 rfl rfl ?_
                refine xj_igt (tgt := 367) dX12_longer_360 rfl ?_ ?_
                · refine xj_sub (lv2 := [(0, .ref 0), (8, .int (a8 + (w.1 0 30)))]) [2, 0] rfl ?_
                  exact tX12_longer_j367 _ _
                · refine xj_iconst (v := 1) dX12_longer_363 ci_1 ?_
                  refine xj_goto (tgt := 368) dX12_longer_364 rfl ?_
                  refine xj_sub (lv2 := [(0, .ref 0), (8, .int (a8 + (w.1 0 30)))]) [2, 0] rfl ?_
                  exact tX12_longer_j368 _ _ _
              · refine xj_sub (lv2 := [(0, .ref 0), (8, .int (a8 + (w.1 0 30)))]) [2, 0] rfl ?_
                exact tX12_longer_j367 _ _
          · refine xj_sub (lv2 := [(0, .ref 0), (8, .int (a8 + (w.1 0 30)))]) [2, 0] rfl ?_
            exact tX12_longer_j367 _ _
set_option maxRecDepth 20000 in
def sX12_longer_j276 (a2 : Int32) (a4 : Int32) (a6 : Int32) (a8 : Int32) (w : xW) : Option (Int32 × xW) :=
  sX12_longer_j277 a2 a4 a6 a8 (0 : Int32) w
set_option maxRecDepth 20000 in
theorem tX12_longer_j276 (a2 : Int32) (a4 : Int32) (a6 : Int32) (a8 : Int32) (w : xW) : xJ ιI mX12_longer lM (0, 0) 276 [(0, .ref 0), (2, .int a2), (4, .int a4), (6, .int a6), (8, .int a8)] [] w (sX12_longer_j276 a2 a4 a6 a8 w) := by
  unfold sX12_longer_j276
  refine xj_iconst (v := 0) dX12_longer_276 ci_0 ?_
  exact tX12_longer_j277 _ _ _ _ _ _
set_option maxRecDepth 20000 in
def sX12_longer_j254 (a2 : Int32) (a4 : Int32) (a6 : Int32) (a8 : Int32) (a9 : Int32) (w : xW) : Option (Int32 × xW) :=
  xbd (sX12_take a8 w) (fun x1 w2 => (if x1 = 0 then sX12_longer_j276 a2 a4 a6 a8 w2 else xbd (sX12_isFenceOr a9 w2) (fun x3 w4 => (if x3 = 0 then sX12_longer_j276 a2 a4 a6 a8 w4 else sX12_longer_j277 a2 a4 a6 a8 (1 : Int32) w4))))
set_option maxRecDepth 20000 in
theorem tX12_longer_j254 (a2 : Int32) (a4 : Int32) (a6 : Int32) (a8 : Int32) (a9 : Int32) (w : xW) : xJ ιI mX12_longer lM (0, 0) 254 [(0, .ref 0), (2, .int a2), (4, .int a4), (6, .int a6), (8, .int a8), (9, .int a9)] [] w (sX12_longer_j254 a2 a4 a6 a8 a9 w) := by
  unfold sX12_longer_j254
  refine xj_aloadn 0 dX12_longer_254 rfl rfl ?_
  refine xj_iload 4 dX12_longer_255 rfl ?_
  refine xj_cVi (argv := [.int a8]) (rest := []) dX12_longer_257 (kX12_take a8 w) mkX12_take tw2059 rfl rfl rfl rfl rfl rfl (fun x1 w2 => ?_)
  refine xj_ifeq (tgt := 276) dX12_longer_260 rfl ?_ ?_
  · refine xj_sub (lv2 := [(0, .ref 0), (2, .int a2), (4, .int a4), (6, .int a6), (8, .int a8)]) [0, 1, 2, 3, 4] rfl ?_
    exact tX12_longer_j276 _ _ _ _ _
  · refine xj_aloadn 0 dX12_longer_263 rfl rfl ?_
    refine xj_iload 5 dX12_longer_264 rfl ?_
    refine xj_cVi (argv := [.int a9]) (rest := []) dX12_longer_266 (kX12_isFenceOr a9 w2) mkX12_isFenceOr tw2140 rfl rfl rfl rfl rfl rfl (fun x3 w4 => ?_)
    refine xj_ifeq (tgt := 276) dX12_longer_269 rfl ?_ ?_
    · refine xj_sub (lv2 := [(0, .ref 0), (2, .int a2), (4, .int a4), (6, .int a6), (8, .int a8)]) [0, 1, 2, 3, 4] rfl ?_
      exact tX12_longer_j276 _ _ _ _ _
    · refine xj_iconst (v := 1) dX12_longer_272 ci_1 ?_
      refine xj_goto (tgt := 277) dX12_longer_273 rfl ?_
      refine xj_sub (lv2 := [(0, .ref 0), (2, .int a2), (4, .int a4), (6, .int a6), (8, .int a8)]) [0, 1, 2, 3, 4] rfl ?_
      exact tX12_longer_j277 _ _ _ _ _ _
set_option maxRecDepth 20000 in
def sX12_longer_j236 (a2 : Int32) (a4 : Int32) (a6 : Int32) (a8 : Int32) (a9 : Int32) (b0 : Int32) (w : xW) : Option (Int32 × xW) :=
  (if b0 = 0 then some ((-1 : Int32), w) else sX12_longer_j254 a2 a4 a6 (a8 + (w.1 0 30)) a9 w)
set_option maxRecDepth 20000 in
theorem tX12_longer_j236 (a2 : Int32) (a4 : Int32) (a6 : Int32) (a8 : Int32) (a9 : Int32) (b0 : Int32) (w : xW) : xJ ιI mX12_longer lM (0, 0) 236 [(0, .ref 0), (2, .int a2), (4, .int a4), (6, .int a6), (8, .int a8), (9, .int a9)] [.int b0] w (sX12_longer_j236 a2 a4 a6 a8 a9 b0 w) := by
  unfold sX12_longer_j236
  refine xj_istore (lv2 := [(10, .int b0), (0, .ref 0), (2, .int a2), (4, .int a4), (6, .int a6), (8, .int a8), (9, .int a9)]) dX12_longer_236 (Nat.le_of_ble_eq_true rfl) rfl ?_
  refine xj_iload 0 dX12_longer_238 rfl ?_
  refine xj_ifne (tgt := 245) dX12_longer_240 rfl ?_ ?_
  · refine xj_iconst (v := -1) dX12_longer_243 ci_m1 ?_
    exact xj_ri dX12_longer_244 rfl
  · refine xj_iload 5 dX12_longer_245 rfl ?_
    refine xj_aloadn 1 dX12_longer_247 rfl rfl ?_
    refine gfX12_138 (v := (w.1 0 30)) dX12_longer_248 rfl rfl ?_
    refine xj_iadd dX12_longer_251 ?_
    refine xj_istore (lv2 := [(8, .int (a8 + (w.1 0 30))), (10, .int b0), (0, .ref 0), (2, .int a2), (4, .int a4), (6, .int a6), (9, .int a9)]) dX12_longer_252 (Nat.le_of_ble_eq_true rfl) rfl ?_
    refine xj_sub (lv2 := [(0, .ref 0), (2, .int a2), (4, .int a4), (6, .int a6), (8, .int (a8 + (w.1 0 30))), (9, .int a9)]) [2, 3, 4, 5, 0, 6] rfl ?_
    exact tX12_longer_j254 _ _ _ _ _ _
set_option maxRecDepth 20000 in
def sX12_longer_j235 (a2 : Int32) (a4 : Int32) (a6 : Int32) (a8 : Int32) (a9 : Int32) (w : xW) : Option (Int32 × xW) :=
  sX12_longer_j236 a2 a4 a6 a8 a9 (0 : Int32) w
set_option maxRecDepth 20000 in
theorem tX12_longer_j235 (a2 : Int32) (a4 : Int32) (a6 : Int32) (a8 : Int32) (a9 : Int32) (w : xW) : xJ ιI mX12_longer lM (0, 0) 235 [(0, .ref 0), (2, .int a2), (4, .int a4), (6, .int a6), (8, .int a8), (9, .int a9)] [] w (sX12_longer_j235 a2 a4 a6 a8 a9 w) := by
  unfold sX12_longer_j235
  refine xj_iconst (v := 0) dX12_longer_235 ci_0 ?_
  exact tX12_longer_j236 _ _ _ _ _ _ _
set_option maxRecDepth 20000 in
def sX12_longer_j207 (a2 : Int32) (a4 : Int32) (a6 : Int32) (a8 : Int32) (b0 : Int32) (w : xW) : Option (Int32 × xW) :=
  (if a6 = 0 then xbd (sX12_take a8 w) (fun x1 w2 => (if x1 = 0 then sX12_longer_j235 a2 a4 a6 a8 b0 w2 else xbd (sX12_isFenceAnd (4 : Int32) w2) (fun x3 w4 => (if x3 = 0 then sX12_longer_j235 a2 a4 a6 a8 b0 w4 else sX12_longer_j236 a2 a4 a6 a8 b0 (1 : Int32) w4)))) else sX12_longer_j254 a2 a4 a6 a8 b0 w)
set_option maxRecDepth 20000 in
theorem tX12_longer_j207 (a2 : Int32) (a4 : Int32) (a6 : Int32) (a8 : Int32) (b0 : Int32) (w : xW) : xJ ιI mX12_longer lM (0, 0) 207 [(0, .ref 0), (2, .int a2), (4, .int a4), (6, .int a6), (8, .int a8)] [.int b0] w (sX12_longer_j207 a2 a4 a6 a8 b0 w) := by
  unfold sX12_longer_j207
  refine xj_istore (lv2 := [(9, .int b0), (0, .ref 0), (2, .int a2), (4, .int a4), (6, .int a6), (8, .int a8)]) dX12_longer_207 (Nat.le_of_ble_eq_true rfl) rfl ?_
  refine xj_iload 4 dX12_longer_209 rfl ?_
  refine xj_ifne (tgt := 254) dX12_longer_211 rfl ?_ ?_
  · refine xj_aloadn 1 dX12_longer_214 rfl rfl ?_
    refine xj_iload 5 dX12_longer_215 rfl ?_
    refine xj_cVi (argv := [.int a8]) (rest := []) dX12_longer_217 (kX12_take a8 w) mkX12_take tw2059 rfl rfl rfl rfl rfl rfl (fun x1 w2 => ?_)
    refine xj_ifeq (tgt := 235) dX12_longer_220 rfl ?_ ?_
    · refine xj_sub (lv2 := [(0, .ref 0), (2, .int a2), (4, .int a4), (6, .int a6), (8, .int a8), (9, .int b0)]) [1, 2, 3, 4, 5, 0] rfl ?_
      exact tX12_longer_j235 _ _ _ _ _ _
    · refine xj_aloadn 1 dX12_longer_223 rfl rfl ?_
      refine xj_iconst (v := 4) dX12_longer_224 ci_4 ?_
      refine xj_cVi (argv := [.int (4 : Int32)]) (rest := []) dX12_longer_225 (kX12_isFenceAnd (4 : Int32) w2) mkX12_isFenceAnd tw2111 rfl rfl rfl rfl rfl rfl (fun x3 w4 => ?_)
      refine xj_ifeq (tgt := 235) dX12_longer_228 rfl ?_ ?_
      · refine xj_sub (lv2 := [(0, .ref 0), (2, .int a2), (4, .int a4), (6, .int a6), (8, .int a8), (9, .int b0)]) [1, 2, 3, 4, 5, 0] rfl ?_
        exact tX12_longer_j235 _ _ _ _ _ _
      · refine xj_iconst (v := 1) dX12_longer_231 ci_1 ?_
        refine xj_goto (tgt := 236) dX12_longer_232 rfl ?_
        refine xj_sub (lv2 := [(0, .ref 0), (2, .int a2), (4, .int a4), (6, .int a6), (8, .int a8), (9, .int b0)]) [1, 2, 3, 4, 5, 0] rfl ?_
        exact tX12_longer_j236 _ _ _ _ _ _ _
  · refine xj_sub (lv2 := [(0, .ref 0), (2, .int a2), (4, .int a4), (6, .int a6), (8, .int a8), (9, .int b0)]) [1, 2, 3, 4, 5, 0] rfl ?_
    exact tX12_longer_j254 _ _ _ _ _ _
set_option maxRecDepth 20000 in
def sX12_longer_j196 (a2 : Int32) (a4 : Int32) (a6 : Int32) (a8 : Int32) (w : xW) : Option (Int32 × xW) :=
  (if a6 = 0 then sX12_longer_j207 a2 a4 a6 a8 (4 : Int32) w else sX12_longer_j207 a2 a4 a6 a8 a4 w)
set_option maxRecDepth 20000 in
theorem tX12_longer_j196 (a2 : Int32) (a4 : Int32) (a6 : Int32) (a8 : Int32) (w : xW) : xJ ιI mX12_longer lM (0, 0) 196 [(0, .ref 0), (2, .int a2), (4, .int a4), (6, .int a6), (8, .int a8)] [] w (sX12_longer_j196 a2 a4 a6 a8 w) := by
  unfold sX12_longer_j196
  refine xj_iload 3 dX12_longer_196 rfl ?_
  refine xj_ifeq (tgt := 206) dX12_longer_198 rfl ?_ ?_
  · refine xj_iconst (v := 4) dX12_longer_206 ci_4 ?_
    exact tX12_longer_j207 _ _ _ _ _ _
  · refine xj_iload 2 dX12_longer_201 rfl ?_
    refine xj_goto (tgt := 207) dX12_longer_203 rfl ?_
    exact tX12_longer_j207 _ _ _ _ _ _
set_option maxRecDepth 20000 in
def sX12_longer_j167 (a8 : Int32) (b0 : Int32) (w : xW) : Option (Int32 × xW) :=
  (if b0 = 0 then some ((-1 : Int32), w) else some ((a8 + (w.1 0 30)), w))
set_option maxRecDepth 20000 in
theorem tX12_longer_j167 (a8 : Int32) (b0 : Int32) (w : xW) : xJ ιI mX12_longer lM (0, 0) 167 [(0, .ref 0), (8, .int a8)] [.int b0] w (sX12_longer_j167 a8 b0 w) := by
  unfold sX12_longer_j167
  refine xj_istore (lv2 := [(9, .int b0), (0, .ref 0), (8, .int a8)]) dX12_longer_167 (Nat.le_of_ble_eq_true rfl) rfl ?_
  refine xj_iload 0 dX12_longer_169 rfl ?_
  refine xj_ifeq (tgt := 184) dX12_longer_171 rfl ?_ ?_
  · refine xj_iconst (v := -1) dX12_longer_184 ci_m1 ?_
    exact xj_ri dX12_longer_185 rfl
  · refine xj_iload 2 dX12_longer_174 rfl ?_
    refine xj_aloadn 1 dX12_longer_176 rfl rfl ?_
    refine gfX12_138 (v := (w.1 0 30)) dX12_longer_177 rfl rfl ?_
    refine xj_iadd dX12_longer_180 ?_
    refine xj_goto (tgt := 185) dX12_longer_181 rfl ?_
    exact xj_ri dX12_longer_185 rfl
set_option maxRecDepth 20000 in
def sX12_longer_j166 (a8 : Int32) (w : xW) : Option (Int32 × xW) :=
  sX12_longer_j167 a8 (0 : Int32) w
set_option maxRecDepth 20000 in
theorem tX12_longer_j166 (a8 : Int32) (w : xW) : xJ ιI mX12_longer lM (0, 0) 166 [(0, .ref 0), (8, .int a8)] [] w (sX12_longer_j166 a8 w) := by
  unfold sX12_longer_j166
  refine xj_iconst (v := 0) dX12_longer_166 ci_0 ?_
  exact tX12_longer_j167 _ _ _
set_option maxRecDepth 20000 in
def sX12_longer_j142 (a2 : Int32) (a4 : Int32) (a8 : Int32) (w : xW) : Option (Int32 × xW) :=
  (if (w.1 0 24) = a4 then (if a2 < (a8 + (w.1 0 30)) then sX12_longer_j166 a8 w else sX12_longer_j167 a8 (1 : Int32) w) else sX12_longer_j166 a8 w)
set_option maxRecDepth 20000 in
theorem tX12_longer_j142 (a2 : Int32) (a4 : Int32) (a8 : Int32) (w : xW) : xJ ιI mX12_longer lM (0, 0) 142 [(0, .ref 0), (2, .int a2), (4, .int a4), (8, .int a8)] [] w (sX12_longer_j142 a2 a4 a8 w) := by
  unfold sX12_longer_j142
  refine xj_aloadn 0 dX12_longer_142 rfl rfl ?_
  refine gfX12_88 (v := (w.1 0 24)) dX12_longer_143 rfl rfl ?_
  refine xj_iload 2 dX12_longer_146 rfl ?_
  refine xj_ine (tgt := 166) dX12_longer_148 rfl ?_ ?_
  · refine xj_iload 3 dX12_longer_151 rfl ?_
    refine xj_aloadn 0 dX12_longer_153 rfl rfl ?_
    refine gfX12_138 (v := (w.1 0 30)) dX12_longer_154 rfl rfl ?_
    refine xj_iadd dX12_longer_157 ?_
    refine xj_iloadn 1 dX12_longer_158 rfl rfl ?_
    refine xj_igt (tgt := 166) dX12_longer_159 rfl ?_ ?_
    · refine xj_sub (lv2 := [(0, .ref 0), (8, .int a8)]) [0, 3] rfl ?_
      exact tX12_longer_j166 _ _
    · refine xj_iconst (v := 1) dX12_longer_162 ci_1 ?_
      refine xj_goto (tgt := 167) dX12_longer_163 rfl ?_
      refine xj_sub (lv2 := [(0, .ref 0), (8, .int a8)]) [0, 3] rfl ?_
      exact tX12_longer_j167 _ _ _
  · refine xj_sub (lv2 := [(0, .ref 0), (8, .int a8)]) [0, 3] rfl ?_
    exact tX12_longer_j166 _ _
set_option maxRecDepth 20000 in
def sX12_longer_j100 (a1 : Int32) (a2 : Int32) (a4 : Int32) (a5 : Int32) (a6 : Int32) (b0 : Int32) (w : xW) : Option (Int32 × xW) :=
  (if a5 = 0 then (if a6 = 0 then (if b0 = 0 then some ((-1 : Int32), w) else sX12_longer_j196 a2 a4 a6 (a1 + (w.1 0 30)) w) else sX12_longer_j196 a2 a4 a6 (a1 + (w.1 0 30)) w) else xbd (sX12_take (a1 + (w.1 0 30)) w) (fun x1 w2 => (if x1 = 0 then sX12_longer_j166 (a1 + (w.1 0 30)) w2 else (if (w2.1 0 17) = (42 : Int32) then sX12_longer_j142 a2 a4 (a1 + (w.1 0 30)) w2 else (if (w2.1 0 17) = (43 : Int32) then sX12_longer_j142 a2 a4 (a1 + (w.1 0 30)) w2 else sX12_longer_j166 (a1 + (w.1 0 30)) w2)))))
set_option maxRecDepth 20000 in
theorem tX12_longer_j100 (a1 : Int32) (a2 : Int32) (a4 : Int32) (a5 : Int32) (a6 : Int32) (b0 : Int32) (w : xW) : xJ ιI mX12_longer lM (0, 0) 100 [(0, .ref 0), (1, .int a1), (2, .int a2), (4, .int a4), (5, .int a5), (6, .int a6)] [.int b0] w (sX12_longer_j100 a1 a2 a4 a5 a6 b0 w) := by
  unfold sX12_longer_j100
  refine xj_istore (lv2 := [(7, .int b0), (0, .ref 0), (1, .int a1), (2, .int a2), (4, .int a4), (5, .int a5), (6, .int a6)]) dX12_longer_100 (Nat.le_of_ble_eq_true rfl) rfl ?_
  refine xj_iloadn 2 dX12_longer_102 rfl rfl ?_
  refine xj_aloadn 1 dX12_longer_103 rfl rfl ?_
  refine gfX12_138 (v := (w.1 0 30)) dX12_longer_104 rfl rfl ?_
  refine xj_iadd dX12_longer_107 ?_
  refine xj_istore (lv2 := [(8, .int (a1 + (w.1 0 30))), (7, .int b0), (0, .ref 0), (1, .int a1), (2, .int a2), (4, .int a4), (5, .int a5), (6, .int a6)]) dX12_longer_108 (Nat.le_of_ble_eq_true rfl) rfl ?_
  refine xj_iload 6 dX12_longer_110 rfl ?_
  refine xj_ifeq (tgt := 186) dX12_longer_112 rfl ?_ ?_
  · refine xj_iload 7 dX12_longer_186 rfl ?_
    refine xj_ifne (tgt := 196) dX12_longer_188 rfl ?_ ?_
    · refine xj_iload 1 dX12_longer_191 rfl ?_
      refine xj_ifeq (tgt := 387) dX12_longer_193 rfl ?_ ?_
      · refine xj_iconst (v := -1) dX12_longer_387 ci_m1 ?_
        exact xj_ri dX12_longer_388 rfl
      · refine xj_sub (lv2 := [(0, .ref 0), (2, .int a2), (4, .int a4), (6, .int a6), (8, .int (a1 + (w.1 0 30)))]) [2, 4, 5, 7, 0] rfl ?_
        exact tX12_longer_j196 _ _ _ _ _
    · refine xj_sub (lv2 := [(0, .ref 0), (2, .int a2), (4, .int a4), (6, .int a6), (8, .int (a1 + (w.1 0 30)))]) [2, 4, 5, 7, 0] rfl ?_
      exact tX12_longer_j196 _ _ _ _ _
  · refine xj_aloadn 2 dX12_longer_115 rfl rfl ?_
    refine xj_iload 0 dX12_longer_116 rfl ?_
    refine xj_cVi (argv := [.int (a1 + (w.1 0 30))]) (rest := []) dX12_longer_118 (kX12_take (a1 + (w.1 0 30)) w) mkX12_take tw2059 rfl rfl rfl rfl rfl rfl (fun x1 w2 => ?_)
    refine xj_ifeq (tgt := 166) dX12_longer_121 rfl ?_ ?_
    · refine xj_sub (lv2 := [(0, .ref 0), (8, .int (a1 + (w.1 0 30)))]) [2, 0] rfl ?_
      exact tX12_longer_j166 _ _
    · refine xj_aloadn 2 dX12_longer_124 rfl rfl ?_
      refine gfX12_70 (v := (w2.1 0 17)) dX12_longer_125 rfl rfl ?_
      refine xj_bipush (v := 42) dX12_longer_128 cb_42 ?_
      refine xj_ieq (tgt := 142) dX12_longer_130 rfl ?_ ?_
      · refine xj_sub (lv2 := [(0, .ref 0), (2, .int a2), (4, .int a4), (8, .int (a1 + (w.1 0 30)))]) [2, 4, 5, 0] rfl ?_
        exact tX12_longer_j142 _ _ _ _
      · refine xj_aloadn 2 dX12_longer_133 rfl rfl ?_
        refine gfX12_70 (v := (w2.1 0 17)) dX12_longer_134 rfl rfl ?_
        refine xj_bipush (v := 43) dX12_longer_137 cb_43 ?_
        refine xj_ine (tgt := 166) dX12_longer_139 rfl ?_ ?_
        · refine xj_sub (lv2 := [(0, .ref 0), (2, .int a2), (4, .int a4), (8, .int (a1 + (w.1 0 30)))]) [2, 4, 5, 0] rfl ?_
          exact tX12_longer_j142 _ _ _ _
        · refine xj_sub (lv2 := [(0, .ref 0), (8, .int (a1 + (w.1 0 30)))]) [2, 0] rfl ?_
          exact tX12_longer_j166 _ _
set_option maxRecDepth 20000 in
def sX12_longer_j99 (a1 : Int32) (a2 : Int32) (a4 : Int32) (a5 : Int32) (a6 : Int32) (w : xW) : Option (Int32 × xW) :=
  sX12_longer_j100 a1 a2 a4 a5 a6 (0 : Int32) w
set_option maxRecDepth 20000 in
theorem tX12_longer_j99 (a1 : Int32) (a2 : Int32) (a4 : Int32) (a5 : Int32) (a6 : Int32) (w : xW) : xJ ιI mX12_longer lM (0, 0) 99 [(0, .ref 0), (1, .int a1), (2, .int a2), (4, .int a4), (5, .int a5), (6, .int a6)] [] w (sX12_longer_j99 a1 a2 a4 a5 a6 w) := by
  unfold sX12_longer_j99
  refine xj_iconst (v := 0) dX12_longer_99 ci_0 ?_
  exact tX12_longer_j100 _ _ _ _ _ _ _
set_option maxRecDepth 20000 in
def sX12_longer_j72 (a1 : Int32) (a2 : Int32) (a4 : Int32) (b0 : Int32) (w : xW) : Option (Int32 × xW) :=
  xbd (sX12_isFenceAnd (-1 : Int32) w) (fun x1 w2 => xbd (sX12_writesStack w2) (fun x3 w4 => (if x3 = 0 then sX12_longer_j99 a1 a2 a4 b0 x1 w4 else xbd (sX12_writesMemory w4) (fun x5 w6 => (if x5 = 0 then sX12_longer_j100 a1 a2 a4 b0 x1 (1 : Int32) w6 else sX12_longer_j99 a1 a2 a4 b0 x1 w6)))))
set_option maxRecDepth 20000 in
theorem tX12_longer_j72 (a1 : Int32) (a2 : Int32) (a4 : Int32) (b0 : Int32) (w : xW) : xJ ιI mX12_longer lM (0, 0) 72 [(0, .ref 0), (1, .int a1), (2, .int a2), (4, .int a4)] [.int b0] w (sX12_longer_j72 a1 a2 a4 b0 w) := by
  unfold sX12_longer_j72
  refine xj_istore (lv2 := [(5, .int b0), (0, .ref 0), (1, .int a1), (2, .int a2), (4, .int a4)]) dX12_longer_72 (Nat.le_of_ble_eq_true rfl) rfl ?_
  refine xj_aloadn 1 dX12_longer_74 rfl rfl ?_
  refine xj_iconst (v := -1) dX12_longer_75 ci_m1 ?_
  refine xj_cVi (argv := [.int (-1 : Int32)]) (rest := []) dX12_longer_76 (kX12_isFenceAnd (-1 : Int32) w) mkX12_isFenceAnd tw2111 rfl rfl rfl rfl rfl rfl (fun x1 w2 => ?_)
  refine xj_istore (lv2 := [(6, .int x1), (5, .int b0), (0, .ref 0), (1, .int a1), (2, .int a2), (4, .int a4)]) dX12_longer_79 (Nat.le_of_ble_eq_true rfl) rfl ?_
  refine xj_aloadn 2 dX12_longer_81 rfl rfl ?_
  refine xj_cVi (argv := []) (rest := []) dX12_longer_82 (kX12_writesStack w2) mkX12_writesStack tw2116 rfl rfl rfl rfl rfl rfl (fun x3 w4 => ?_)
  refine xj_ifeq (tgt := 99) dX12_longer_85 rfl ?_ ?_
  · refine xj_sub (lv2 := [(0, .ref 0), (1, .int a1), (2, .int a2), (4, .int a4), (5, .int b0), (6, .int x1)]) [2, 3, 4, 5, 1, 0] rfl ?_
    exact tX12_longer_j99 _ _ _ _ _ _
  · refine xj_aloadn 2 dX12_longer_88 rfl rfl ?_
    refine xj_cVi (argv := []) (rest := []) dX12_longer_89 (kX12_writesMemory w4) mkX12_writesMemory tw2136 rfl rfl rfl rfl rfl rfl (fun x5 w6 => ?_)
    refine xj_ifne (tgt := 99) dX12_longer_92 rfl ?_ ?_
    · refine xj_iconst (v := 1) dX12_longer_95 ci_1 ?_
      refine xj_goto (tgt := 100) dX12_longer_96 rfl ?_
      refine xj_sub (lv2 := [(0, .ref 0), (1, .int a1), (2, .int a2), (4, .int a4), (5, .int b0), (6, .int x1)]) [2, 3, 4, 5, 1, 0] rfl ?_
      exact tX12_longer_j100 _ _ _ _ _ _ _
    · refine xj_sub (lv2 := [(0, .ref 0), (1, .int a1), (2, .int a2), (4, .int a4), (5, .int b0), (6, .int x1)]) [2, 3, 4, 5, 1, 0] rfl ?_
      exact tX12_longer_j99 _ _ _ _ _ _
set_option maxRecDepth 20000 in
def sX12_longer_j71 (a1 : Int32) (a2 : Int32) (a4 : Int32) (w : xW) : Option (Int32 × xW) :=
  sX12_longer_j72 a1 a2 a4 (0 : Int32) w
set_option maxRecDepth 20000 in
theorem tX12_longer_j71 (a1 : Int32) (a2 : Int32) (a4 : Int32) (w : xW) : xJ ιI mX12_longer lM (0, 0) 71 [(0, .ref 0), (1, .int a1), (2, .int a2), (4, .int a4)] [] w (sX12_longer_j71 a1 a2 a4 w) := by
  unfold sX12_longer_j71
  refine xj_iconst (v := 0) dX12_longer_71 ci_0 ?_
  exact tX12_longer_j72 _ _ _ _ _
set_option maxRecDepth 20000 in
def sX12_longer (p1 : Int32) (p2 : Int32) (w : xW) : Option (Int32 × xW) :=
  xbd (sX12_take p1 w) (fun x1 w2 => (if (w2.1 0 17) = (4 : Int32) then (if (w2.1 0 18) = (4 : Int32) then (if (w2.1 0 20) = (4 : Int32) then (if (w2.1 0 22) = (3 : Int32) then (if (w2.1 0 30) = (3 : Int32) then (if (w2.1 0 29) = (-32 : Int32) then (if (w2.1 0 24) = (4 : Int32) then sX12_longer_j71 p1 p2 (w2.1 0 24) w2 else sX12_longer_j72 p1 p2 (w2.1 0 24) (1 : Int32) w2) else sX12_longer_j71 p1 p2 (w2.1 0 24) w2) else sX12_longer_j71 p1 p2 (w2.1 0 24) w2) else sX12_longer_j71 p1 p2 (w2.1 0 24) w2) else sX12_longer_j71 p1 p2 (w2.1 0 24) w2) else sX12_longer_j71 p1 p2 (w2.1 0 24) w2) else sX12_longer_j71 p1 p2 (w2.1 0 24) w2))
set_option maxRecDepth 20000 in
theorem tX12_longer (p1 : Int32) (p2 : Int32) (w : xW) : xJ ιI mX12_longer lM (0, 0) 0 [(0, .ref 0), (1, .int p1), (2, .int p2)] [] w (sX12_longer p1 p2 w) := by
  unfold sX12_longer
  refine xj_aloadn 0 dX12_longer_0 rfl rfl ?_
  refine xj_iloadn 1 dX12_longer_1 rfl rfl ?_
  refine xj_cVi (argv := [.int p1]) (rest := []) dX12_longer_2 (kX12_take p1 w) mkX12_take tw2059 rfl rfl rfl rfl rfl rfl (fun x1 w2 => ?_)
  refine xj_istoren (lv2 := [(3, .int x1), (0, .ref 0), (1, .int p1), (2, .int p2)]) dX12_longer_5 rfl (Nat.le_of_ble_eq_true rfl) rfl ?_
  refine xj_aloadn 1 dX12_longer_6 rfl rfl ?_
  refine gfX12_88 (v := (w2.1 0 24)) dX12_longer_7 rfl rfl ?_
  refine xj_istore (lv2 := [(4, .int (w2.1 0 24)), (3, .int x1), (0, .ref 0), (1, .int p1), (2, .int p2)]) dX12_longer_10 (Nat.le_of_ble_eq_true rfl) rfl ?_
  refine xj_aloadn 2 dX12_longer_12 rfl rfl ?_
  refine gfX12_70 (v := (w2.1 0 17)) dX12_longer_13 rfl rfl ?_
  refine xj_iconst (v := 4) dX12_longer_16 ci_4 ?_
  refine xj_ine (tgt := 71) dX12_longer_17 rfl ?_ ?_
  · refine xj_aloadn 2 dX12_longer_20 rfl rfl ?_
    refine gfX12_73 (v := (w2.1 0 18)) dX12_longer_21 rfl rfl ?_
    refine xj_iconst (v := 4) dX12_longer_24 ci_4 ?_
    refine xj_ine (tgt := 71) dX12_longer_25 rfl ?_ ?_
    · refine xj_aloadn 2 dX12_longer_28 rfl rfl ?_
      refine gfX12_76 (v := (w2.1 0 20)) dX12_longer_29 rfl rfl ?_
      refine xj_iconst (v := 4) dX12_longer_32 ci_4 ?_
      refine xj_ine (tgt := 71) dX12_longer_33 rfl ?_ ?_
      · refine xj_aloadn 2 dX12_longer_36 rfl rfl ?_
        refine gfX12_82 (v := (w2.1 0 22)) dX12_longer_37 rfl rfl ?_
        refine xj_iconst (v := 3) dX12_longer_40 ci_3 ?_
        refine xj_ine (tgt := 71) dX12_longer_41 rfl ?_ ?_
        · refine xj_aloadn 2 dX12_longer_44 rfl rfl ?_
          refine gfX12_138 (v := (w2.1 0 30)) dX12_longer_45 rfl rfl ?_
          refine xj_iconst (v := 3) dX12_longer_48 ci_3 ?_
          refine xj_ine (tgt := 71) dX12_longer_49 rfl ?_ ?_
          · refine xj_aloadn 2 dX12_longer_52 rfl rfl ?_
            refine gfX12_109 (v := (w2.1 0 29)) dX12_longer_53 rfl rfl ?_
            refine xj_bipush (v := -32) dX12_longer_56 cb_m32 ?_
            refine xj_ine (tgt := 71) dX12_longer_58 rfl ?_ ?_
            · refine xj_iload 0 dX12_longer_61 rfl ?_
              refine xj_iconst (v := 4) dX12_longer_63 ci_4 ?_
              refine xj_ieq (tgt := 71) dX12_longer_64 rfl ?_ ?_
              · refine xj_sub (lv2 := [(0, .ref 0), (1, .int p1), (2, .int p2), (4, .int (w2.1 0 24))]) [2, 3, 4, 0] rfl ?_
                exact tX12_longer_j71 _ _ _ _
              · refine xj_iconst (v := 1) dX12_longer_67 ci_1 ?_
                refine xj_goto (tgt := 72) dX12_longer_68 rfl ?_
                refine xj_sub (lv2 := [(0, .ref 0), (1, .int p1), (2, .int p2), (4, .int (w2.1 0 24))]) [2, 3, 4, 0] rfl ?_
                exact tX12_longer_j72 _ _ _ _ _
            · refine xj_sub (lv2 := [(0, .ref 0), (1, .int p1), (2, .int p2), (4, .int (w2.1 0 24))]) [2, 3, 4, 0] rfl ?_
              exact tX12_longer_j71 _ _ _ _
          · refine xj_sub (lv2 := [(0, .ref 0), (1, .int p1), (2, .int p2), (4, .int (w2.1 0 24))]) [2, 3, 4, 0] rfl ?_
            exact tX12_longer_j71 _ _ _ _
        · refine xj_sub (lv2 := [(0, .ref 0), (1, .int p1), (2, .int p2), (4, .int (w2.1 0 24))]) [2, 3, 4, 0] rfl ?_
          exact tX12_longer_j71 _ _ _ _
      · refine xj_sub (lv2 := [(0, .ref 0), (1, .int p1), (2, .int p2), (4, .int (w2.1 0 24))]) [2, 3, 4, 0] rfl ?_
        exact tX12_longer_j71 _ _ _ _
    · refine xj_sub (lv2 := [(0, .ref 0), (1, .int p1), (2, .int p2), (4, .int (w2.1 0 24))]) [2, 3, 4, 0] rfl ?_
      exact tX12_longer_j71 _ _ _ _
  · refine xj_sub (lv2 := [(0, .ref 0), (1, .int p1), (2, .int p2), (4, .int (w2.1 0 24))]) [2, 3, 4, 0] rfl ?_
    exact tX12_longer_j71 _ _ _ _
theorem kX12_longer (p1 : Int32) (p2 : Int32) (w : xW) : xMet jI mX12_longer lM (0, 0) [.ref 0, .int p1, .int p2] w (sX12_longer p1 p2 w) := xj_met lM_ok (by decide) (Nat.le_of_ble_eq_true rfl) (Nat.zero_le _) (Nat.zero_le _) (tX12_longer p1 p2 w)
set_option maxRecDepth 20000 in
def sX12_faultAt_j123 (a3 : Int32) (w : xW) : Option (Int32 × xW) :=
  (if a3 = 0 then some ((5 : Int32), w) else some ((0 : Int32), w))
set_option maxRecDepth 20000 in
theorem tX12_faultAt_j123 (a3 : Int32) (w : xW) : xJ ιI mX12_faultAt lM (0, 0) 123 [(3, .int a3)] [] w (sX12_faultAt_j123 a3 w) := by
  unfold sX12_faultAt_j123
  refine xj_iloadn 0 dX12_faultAt_123 rfl rfl ?_
  refine xj_ifne (tgt := 131) dX12_faultAt_124 rfl ?_ ?_
  · refine xj_iconst (v := 5) dX12_faultAt_127 ci_5 ?_
    refine xj_goto (tgt := 132) dX12_faultAt_128 rfl ?_
    exact xj_ri dX12_faultAt_132 rfl
  · refine xj_iconst (v := 0) dX12_faultAt_131 ci_0 ?_
    exact xj_ri dX12_faultAt_132 rfl
set_option maxRecDepth 20000 in
def sX12_faultAt_j90 (b0 : Int32) (w : xW) : Option (Int32 × xW) :=
  xbd (sX12_writesStack w) (fun x1 w2 => (if x1 = 0 then xbd (sX12_writesMemory w2) (fun x3 w4 => (if x3 = 0 then some ((0 : Int32), w4) else (if (w4.1 0 25) = (4 : Int32) then xbd (sX12_isNear w4) (fun x5 w6 => (if x5 = 0 then sX12_faultAt_j123 b0 w6 else some ((0 : Int32), w6))) else sX12_faultAt_j123 b0 w4))) else some ((6 : Int32), w2)))
set_option maxRecDepth 20000 in
theorem tX12_faultAt_j90 (b0 : Int32) (w : xW) : xJ ιI mX12_faultAt lM (0, 0) 90 [(0, .ref 0)] [.int b0] w (sX12_faultAt_j90 b0 w) := by
  unfold sX12_faultAt_j90
  refine xj_istoren (lv2 := [(3, .int b0), (0, .ref 0)]) dX12_faultAt_90 rfl (Nat.le_of_ble_eq_true rfl) rfl ?_
  refine xj_aloadn 1 dX12_faultAt_91 rfl rfl ?_
  refine xj_cVi (argv := []) (rest := []) dX12_faultAt_92 (kX12_writesStack w) mkX12_writesStack tw2116 rfl rfl rfl rfl rfl rfl (fun x1 w2 => ?_)
  refine xj_ifeq (tgt := 101) dX12_faultAt_95 rfl ?_ ?_
  · refine xj_aloadn 1 dX12_faultAt_101 rfl rfl ?_
    refine xj_cVi (argv := []) (rest := []) dX12_faultAt_102 (kX12_writesMemory w2) mkX12_writesMemory tw2136 rfl rfl rfl rfl rfl rfl (fun x3 w4 => ?_)
    refine xj_ifeq (tgt := 131) dX12_faultAt_105 rfl ?_ ?_
    · refine xj_iconst (v := 0) dX12_faultAt_131 ci_0 ?_
      exact xj_ri dX12_faultAt_132 rfl
    · refine xj_aloadn 1 dX12_faultAt_108 rfl rfl ?_
      refine gfX12_91 (v := (w4.1 0 25)) dX12_faultAt_109 rfl rfl ?_
      refine xj_iconst (v := 4) dX12_faultAt_112 ci_4 ?_
      refine xj_ine (tgt := 123) dX12_faultAt_113 rfl ?_ ?_
      · refine xj_aloadn 1 dX12_faultAt_116 rfl rfl ?_
        refine xj_cVi (argv := []) (rest := []) dX12_faultAt_117 (kX12_isNear w4) mkX12_isNear tw2144 rfl rfl rfl rfl rfl rfl (fun x5 w6 => ?_)
        refine xj_ifne (tgt := 131) dX12_faultAt_120 rfl ?_ ?_
        · refine xj_sub (lv2 := [(3, .int b0)]) [0] rfl ?_
          exact tX12_faultAt_j123 _ _
        · refine xj_iconst (v := 0) dX12_faultAt_131 ci_0 ?_
          exact xj_ri dX12_faultAt_132 rfl
      · refine xj_sub (lv2 := [(3, .int b0)]) [0] rfl ?_
        exact tX12_faultAt_j123 _ _
  · refine xj_bipush (v := 6) dX12_faultAt_98 cb_6 ?_
    exact xj_ri dX12_faultAt_100 rfl
set_option maxRecDepth 20000 in
def sX12_faultAt_j89 (w : xW) : Option (Int32 × xW) :=
  sX12_faultAt_j90 (0 : Int32) w
set_option maxRecDepth 20000 in
theorem tX12_faultAt_j89 (w : xW) : xJ ιI mX12_faultAt lM (0, 0) 89 [(0, .ref 0)] [] w (sX12_faultAt_j89 w) := by
  unfold sX12_faultAt_j89
  refine xj_iconst (v := 0) dX12_faultAt_89 ci_0 ?_
  exact tX12_faultAt_j90 _ _
set_option maxRecDepth 20000 in
def sX12_faultAt (p1 : Int32) (p2 : Int32) (w : xW) : Option (Int32 × xW) :=
  xbd (sX12_take p1 w) (fun x1 w2 => (if x1 = 0 then some ((2 : Int32), w2) else (if p2 < (p1 + (w2.1 0 30)) then some ((3 : Int32), w2) else (if (w2.1 0 17) = (42 : Int32) then some ((4 : Int32), w2) else (if (w2.1 0 17) = (43 : Int32) then some ((4 : Int32), w2) else (if (w2.1 0 25) = (-1 : Int32) then (if (w2.1 0 26) = (-1 : Int32) then xbd (sX12_isIn ((w2.1 0 28).toInt64 &&& (4294967295 : Int64)) (65536 : Int64) ((131072 : Int64) - (w2.1 0 21).toInt64) w2) (fun x3 w4 => (if x3 = 0 then sX12_faultAt_j89 w4 else sX12_faultAt_j90 (1 : Int32) w4)) else sX12_faultAt_j89 w2) else sX12_faultAt_j89 w2))))))
set_option maxRecDepth 20000 in
theorem tX12_faultAt (p1 : Int32) (p2 : Int32) (w : xW) : xJ ιI mX12_faultAt lM (0, 0) 0 [(0, .ref 0), (1, .int p1), (2, .int p2)] [] w (sX12_faultAt p1 p2 w) := by
  unfold sX12_faultAt
  refine xj_aloadn 0 dX12_faultAt_0 rfl rfl ?_
  refine xj_iloadn 1 dX12_faultAt_1 rfl rfl ?_
  refine xj_cVi (argv := [.int p1]) (rest := []) dX12_faultAt_2 (kX12_take p1 w) mkX12_take tw2059 rfl rfl rfl rfl rfl rfl (fun x1 w2 => ?_)
  refine xj_ifne (tgt := 10) dX12_faultAt_5 rfl ?_ ?_
  · refine xj_iconst (v := 2) dX12_faultAt_8 ci_2 ?_
    exact xj_ri dX12_faultAt_9 rfl
  · refine xj_iloadn 1 dX12_faultAt_10 rfl rfl ?_
    refine xj_aloadn 0 dX12_faultAt_11 rfl rfl ?_
    refine gfX12_138 (v := (w2.1 0 30)) dX12_faultAt_12 rfl rfl ?_
    refine xj_iadd dX12_faultAt_15 ?_
    refine xj_iloadn 2 dX12_faultAt_16 rfl rfl ?_
    refine xj_ile (tgt := 22) dX12_faultAt_17 rfl ?_ ?_
    · refine xj_iconst (v := 3) dX12_faultAt_20 ci_3 ?_
      exact xj_ri dX12_faultAt_21 rfl
    · refine xj_aloadn 0 dX12_faultAt_22 rfl rfl ?_
      refine gfX12_70 (v := (w2.1 0 17)) dX12_faultAt_23 rfl rfl ?_
      refine xj_bipush (v := 42) dX12_faultAt_26 cb_42 ?_
      refine xj_ieq (tgt := 40) dX12_faultAt_28 rfl ?_ ?_
      · refine xj_iconst (v := 4) dX12_faultAt_40 ci_4 ?_
        exact xj_ri dX12_faultAt_41 rfl
      · refine xj_aloadn 0 dX12_faultAt_31 rfl rfl ?_
        refine gfX12_70 (v := (w2.1 0 17)) dX12_faultAt_32 rfl rfl ?_
        refine xj_bipush (v := 43) dX12_faultAt_35 cb_43 ?_
        refine xj_ine (tgt := 42) dX12_faultAt_37 rfl ?_ ?_
        · refine xj_iconst (v := 4) dX12_faultAt_40 ci_4 ?_
          exact xj_ri dX12_faultAt_41 rfl
        · refine xj_aloadn 0 dX12_faultAt_42 rfl rfl ?_
          refine gfX12_91 (v := (w2.1 0 25)) dX12_faultAt_43 rfl rfl ?_
          refine xj_iconst (v := -1) dX12_faultAt_46 ci_m1 ?_
          refine xj_ine (tgt := 89) dX12_faultAt_47 rfl ?_ ?_
          · refine xj_aloadn 0 dX12_faultAt_50 rfl rfl ?_
            refine gfX12_94 (v := (w2.1 0 26)) dX12_faultAt_51 rfl rfl ?_
            refine xj_iconst (v := -1) dX12_faultAt_54 ci_m1 ?_
            refine xj_ine (tgt := 89) dX12_faultAt_55 rfl ?_ ?_
            · refine xj_aloadn 0 dX12_faultAt_58 rfl rfl ?_
              refine gfX12_100 (v := (w2.1 0 28)) dX12_faultAt_59 rfl rfl ?_
              refine xj_i2l dX12_faultAt_62 ?_
              refine xj_ldc2 (v := 4294967295) tw2157 dX12_faultAt_63 ?_
              refine xj_land dX12_faultAt_66 ?_
              refine xj_ldc2 (v := 65536) tw2158 dX12_faultAt_67 ?_
              refine xj_ldc2 (v := 131072) tw2159 dX12_faultAt_70 ?_
              refine xj_aloadn 0 dX12_faultAt_73 rfl rfl ?_
              refine gfX12_79 (v := (w2.1 0 21)) dX12_faultAt_74 rfl rfl ?_
              refine xj_i2l dX12_faultAt_77 ?_
              refine xj_lsub dX12_faultAt_78 ?_
              refine xj_cSi (argv := [.long ((w2.1 0 28).toInt64 &&& (4294967295 : Int64)), .long (65536 : Int64), .long ((131072 : Int64) - (w2.1 0 21).toInt64)]) (rest := []) dX12_faultAt_79 (kX12_isIn ((w2.1 0 28).toInt64 &&& (4294967295 : Int64)) (65536 : Int64) ((131072 : Int64) - (w2.1 0 21).toInt64) w2) mkX12_isIn tw2150 rfl rfl rfl rfl (fun x3 w4 => ?_)
              refine xj_ifeq (tgt := 89) dX12_faultAt_82 rfl ?_ ?_
              · refine xj_sub (lv2 := [(0, .ref 0)]) [0] rfl ?_
                exact tX12_faultAt_j89 _
              · refine xj_iconst (v := 1) dX12_faultAt_85 ci_1 ?_
                refine xj_goto (tgt := 90) dX12_faultAt_86 rfl ?_
                refine xj_sub (lv2 := [(0, .ref 0)]) [0] rfl ?_
                exact tX12_faultAt_j90 _ _
            · refine xj_sub (lv2 := [(0, .ref 0)]) [0] rfl ?_
              exact tX12_faultAt_j89 _
          · refine xj_sub (lv2 := [(0, .ref 0)]) [0] rfl ?_
            exact tX12_faultAt_j89 _
theorem kX12_faultAt (p1 : Int32) (p2 : Int32) (w : xW) : xMet jI mX12_faultAt lM (0, 0) [.ref 0, .int p1, .int p2] w (sX12_faultAt p1 p2 w) := xj_met lM_ok (by decide) (Nat.le_of_ble_eq_true rfl) (Nat.zero_le _) (Nat.zero_le _) (tX12_faultAt p1 p2 w)
set_option maxRecDepth 20000 in
def sX12_bad (p1 : Int32) (p2 : Int32) (w : xW) : Option (Int32 × xW) :=
  some ((-1 : Int32), (xwi (xwi (xwi w 0 10 p1) 0 11 p2) 0 9 (0 : Int32)))
set_option maxRecDepth 20000 in
theorem tX12_bad (p1 : Int32) (p2 : Int32) (w : xW) : xJ ιI mX12_bad lM (0, 0) 0 [(0, .ref 0), (1, .int p1), (2, .int p2)] [] w (sX12_bad p1 p2 w) := by
  unfold sX12_bad
  refine xj_aloadn 0 dX12_bad_0 rfl rfl ?_
  refine xj_iloadn 1 dX12_bad_1 rfl rfl ?_
  refine pfX12_192 dX12_bad_2 rfl ?_
  refine xj_aloadn 0 dX12_bad_5 rfl rfl ?_
  refine xj_iloadn 2 dX12_bad_6 rfl rfl ?_
  refine pfX12_23 dX12_bad_7 rfl ?_
  refine xj_aloadn 0 dX12_bad_10 rfl rfl ?_
  refine xj_iconst (v := 0) dX12_bad_11 ci_0 ?_
  refine pfX12_195 dX12_bad_12 rfl (Or.inl rfl) ?_
  refine xj_iconst (v := -1) dX12_bad_15 ci_m1 ?_
  exact xj_ri dX12_bad_16 rfl
theorem kX12_bad (p1 : Int32) (p2 : Int32) (w : xW) : xMet jI mX12_bad lM (0, 0) [.ref 0, .int p1, .int p2] w (sX12_bad p1 p2 w) := xj_met lM_ok (by decide) (Nat.le_of_ble_eq_true rfl) (Nat.zero_le _) (Nat.zero_le _) (tX12_bad p1 p2 w)
set_option maxRecDepth 20000 in
def sX12_isGate (p1 : Int64) (w : xW) : Option (Int32 × xW) :=
  (if p1 < (1024 : Int64) then some ((0 : Int32), w) else (if p1 < (1536 : Int64) then (if ¬ (32 : Int64) = 0 then (if (p1 - p1 / (32 : Int64) * (32 : Int64)) = (0 : Int64) then some ((1 : Int32), w) else some ((0 : Int32), w)) else none) else some ((0 : Int32), w)))
set_option maxRecDepth 20000 in
theorem tX12_isGate (p1 : Int64) (w : xW) : xJ ιI mX12_isGate lM (0, 0) 0 [(0, .ref 0), (1, .long p1)] [] w (sX12_isGate p1 w) := by
  unfold sX12_isGate
  refine xj_lloadn 1 dX12_isGate_0 rfl rfl ?_
  refine xj_ldc2 (v := 1024) tw2165 dX12_isGate_1 ?_
  refine xj_llt (tgt := 30) dX12_isGate_4 dX12_isGate_5 rfl ?_ ?_
  · refine xj_iconst (v := 0) dX12_isGate_30 ci_0 ?_
    exact xj_rz dX12_isGate_31 rfl (Or.inl rfl)
  · refine xj_lloadn 1 dX12_isGate_8 rfl rfl ?_
    refine xj_ldc2 (v := 1536) tw2166 dX12_isGate_9 ?_
    refine xj_lge (tgt := 30) dX12_isGate_12 dX12_isGate_13 rfl ?_ ?_
    · refine xj_lloadn 1 dX12_isGate_16 rfl rfl ?_
      refine xj_ldc2 (v := 32) tw2167 dX12_isGate_17 ?_
      refine xj_lrem dX12_isGate_20 ?_
      refine xj_lconst (v := 0) dX12_isGate_21 cl_0 ?_
      refine xj_lne (tgt := 30) dX12_isGate_22 dX12_isGate_23 rfl ?_ ?_
      · refine xj_iconst (v := 1) dX12_isGate_26 ci_1 ?_
        refine xj_goto (tgt := 31) dX12_isGate_27 rfl ?_
        exact xj_rz dX12_isGate_31 rfl (Or.inr rfl)
      · refine xj_iconst (v := 0) dX12_isGate_30 ci_0 ?_
        exact xj_rz dX12_isGate_31 rfl (Or.inl rfl)
    · refine xj_iconst (v := 0) dX12_isGate_30 ci_0 ?_
      exact xj_rz dX12_isGate_31 rfl (Or.inl rfl)
theorem kX12_isGate (p1 : Int64) (w : xW) : xMet jI mX12_isGate lM (0, 0) [.ref 0, .long p1] w (sX12_isGate p1 w) := xj_met lM_ok (by decide) (Nat.le_of_ble_eq_true rfl) (Nat.zero_le _) (Nat.zero_le _) (tX12_isGate p1 w)
set_option maxRecDepth 20000 in
def sX12_look_j44 (w : xW) : Option (Int32 × xW) :=
  xbd (sX12_bad (1 : Int32) (0 : Int32) w) (fun x1 w2 => some (x1, w2))
set_option maxRecDepth 20000 in
theorem tX12_look_j44 (w : xW) : xJ ιI mX12_look lM (0, 0) 44 [(0, .ref 0)] [] w (sX12_look_j44 w) := by
  unfold sX12_look_j44
  refine xj_aloadn 0 dX12_look_44 rfl rfl ?_
  refine xj_iconst (v := 1) dX12_look_45 ci_1 ?_
  refine xj_iconst (v := 0) dX12_look_46 ci_0 ?_
  refine xj_cVi (argv := [.int (1 : Int32), .int (0 : Int32)]) (rest := []) dX12_look_47 (kX12_bad (1 : Int32) (0 : Int32) w) mkX12_bad tw2055 rfl rfl rfl rfl rfl rfl (fun x1 w2 => ?_)
  exact xj_ri dX12_look_50 rfl
set_option maxRecDepth 20000 in
def sX12_look_j404 (a2 : Int32) (a3 : Int32) (b0 : Int32) (w : xW) : Option (Int32 × xW) :=
  (if b0 = 0 then xbd (sX12_bad (8 : Int32) a3 w) (fun x1 w2 => some (x1, w2)) else some (a2, (xwi (xwi (xwi w 0 9 (1 : Int32)) 0 10 (0 : Int32)) 0 11 (-1 : Int32))))
set_option maxRecDepth 20000 in
theorem tX12_look_j404 (a2 : Int32) (a3 : Int32) (b0 : Int32) (w : xW) : xJ ιI mX12_look lM (0, 0) 404 [(0, .ref 0), (2, .int a2), (3, .int a3)] [.int b0] w (sX12_look_j404 a2 a3 b0 w) := by
  unfold sX12_look_j404
  refine xj_istore (lv2 := [(5, .int b0), (0, .ref 0), (2, .int a2), (3, .int a3)]) dX12_look_404 (Nat.le_of_ble_eq_true rfl) rfl ?_
  refine xj_iload 0 dX12_look_406 rfl ?_
  refine xj_ifne (tgt := 419) dX12_look_408 rfl ?_ ?_
  · refine xj_aloadn 1 dX12_look_411 rfl rfl ?_
    refine xj_bipush (v := 8) dX12_look_412 cb_8 ?_
    refine xj_iloadn 3 dX12_look_414 rfl rfl ?_
    refine xj_cVi (argv := [.int (8 : Int32), .int a3]) (rest := []) dX12_look_415 (kX12_bad (8 : Int32) a3 w) mkX12_bad tw2055 rfl rfl rfl rfl rfl rfl (fun x1 w2 => ?_)
    exact xj_ri dX12_look_418 rfl
  · refine xj_aloadn 1 dX12_look_419 rfl rfl ?_
    refine xj_iconst (v := 1) dX12_look_420 ci_1 ?_
    refine pfX12_195 dX12_look_421 rfl (Or.inr rfl) ?_
    refine xj_aloadn 1 dX12_look_424 rfl rfl ?_
    refine xj_iconst (v := 0) dX12_look_425 ci_0 ?_
    refine pfX12_192 dX12_look_426 rfl ?_
    refine xj_aloadn 1 dX12_look_429 rfl rfl ?_
    refine xj_iconst (v := -1) dX12_look_430 ci_m1 ?_
    refine pfX12_23 dX12_look_431 rfl ?_
    refine xj_iloadn 2 dX12_look_434 rfl rfl ?_
    exact xj_ri dX12_look_435 rfl
set_option maxRecDepth 20000 in
def sX12_look_j403 (a2 : Int32) (a3 : Int32) (w : xW) : Option (Int32 × xW) :=
  sX12_look_j404 a2 a3 (0 : Int32) w
set_option maxRecDepth 20000 in
theorem tX12_look_j403 (a2 : Int32) (a3 : Int32) (w : xW) : xJ ιI mX12_look lM (0, 0) 403 [(0, .ref 0), (2, .int a2), (3, .int a3)] [] w (sX12_look_j403 a2 a3 w) := by
  unfold sX12_look_j403
  refine xj_iconst (v := 0) dX12_look_403 ci_0 ?_
  exact tX12_look_j404 _ _ _ _
set_option maxRecDepth 20000 in
def sX12_look_j399 (a2 : Int32) (a3 : Int32) (w : xW) : Option (Int32 × xW) :=
  sX12_look_j404 a2 a3 (1 : Int32) w
set_option maxRecDepth 20000 in
theorem tX12_look_j399 (a2 : Int32) (a3 : Int32) (w : xW) : xJ ιI mX12_look lM (0, 0) 399 [(0, .ref 0), (2, .int a2), (3, .int a3)] [] w (sX12_look_j399 a2 a3 w) := by
  unfold sX12_look_j399
  refine xj_iconst (v := 1) dX12_look_399 ci_1 ?_
  refine xj_goto (tgt := 404) dX12_look_400 rfl ?_
  exact tX12_look_j404 _ _ _ _
set_option maxRecDepth 20000 in
def sX12_look_l329 : Nat → Int32 → Int32 → Int32 → Int32 → xW → Option (Int32 × xW)
  | 0, _, _, _, _, _ => none
  | n + 1, a2, a3, a4, a5, w =>
  (if a5 < (w.1 0 2) then (if xin a5 2048 then (if 0 < (w.1 5 a5.toNatClampNeg) then (sX12_look_l329 n) a2 a3 a5 (a5 + (1 : Int32)) w else (sX12_look_l329 n) a2 a3 a4 (a5 + (1 : Int32)) w) else none) else xbd (sX12_take a4 w) (fun x1 w2 => (if x1 = 0 then sX12_look_j403 a2 a3 w2 else (if (w2.1 0 17) = (32 : Int32) then sX12_look_j399 a2 a3 w2 else (if (w2.1 0 17) = (31 : Int32) then sX12_look_j399 a2 a3 w2 else (if (w2.1 0 17) = (43 : Int32) then sX12_look_j399 a2 a3 w2 else sX12_look_j403 a2 a3 w2))))))
set_option maxRecDepth 20000 in
theorem tX12_look_l329 : ∀ (n : Nat) (a2 : Int32) (a3 : Int32) (a4 : Int32) (a5 : Int32) (w : xW), xJ ιI mX12_look lM (0, 0) 329 [(0, .ref 0), (2, .int a2), (3, .int a3), (4, .int a4), (5, .int a5)] [] w (sX12_look_l329 n a2 a3 a4 a5 w) := by
  intro n
  induction n with
  | zero => intros; exact xj_none
  | succ n ih =>
    intro a2 a3 a4 a5 w
    rw [sX12_look_l329]
    refine xj_iload 4 dX12_look_329 rfl ?_
    refine xj_aloadn 0 dX12_look_331 rfl rfl ?_
    refine gfX12_59 (v := (w.1 0 2)) dX12_look_332 rfl rfl ?_
    refine xj_ige (tgt := 363) dX12_look_335 rfl ?_ ?_
    · refine xj_aloadn 0 dX12_look_338 rfl rfl ?_
      refine gfX12_27 dX12_look_339 rfl ?_
      refine xj_iload 4 dX12_look_342 rfl ?_
      refine xj_iald (k := 5) dX12_look_344 rfl ?_
      refine xj_ifle (tgt := 353) dX12_look_345 rfl ?_ ?_
      · refine xj_iload 4 dX12_look_348 rfl ?_
        refine xj_goto (tgt := 355) dX12_look_350 rfl ?_
        refine xj_istore (lv2 := [(4, .int a5), (0, .ref 0), (2, .int a2), (3, .int a3), (5, .int a5)]) dX12_look_355 (Nat.le_of_ble_eq_true rfl) rfl ?_
        refine xj_iinc (n := 4) (lv2 := [(5, .int (a5 + (1 : Int32))), (4, .int a5), (0, .ref 0), (2, .int a2), (3, .int a3)]) dX12_look_357 rfl ci_1 (Nat.le_of_ble_eq_true rfl) rfl ?_
        refine xj_goto (tgt := 329) dX12_look_360 rfl ?_
        refine xj_sub (lv2 := [(0, .ref 0), (2, .int a2), (3, .int a3), (4, .int a5), (5, .int (a5 + (1 : Int32)))]) [2, 3, 4, 1, 0] rfl ?_
        exact ih _ _ _ _ _
      · refine xj_iload 3 dX12_look_353 rfl ?_
        refine xj_istore (lv2 := [(4, .int a4), (0, .ref 0), (2, .int a2), (3, .int a3), (5, .int a5)]) dX12_look_355 (Nat.le_of_ble_eq_true rfl) rfl ?_
        refine xj_iinc (n := 4) (lv2 := [(5, .int (a5 + (1 : Int32))), (4, .int a4), (0, .ref 0), (2, .int a2), (3, .int a3)]) dX12_look_357 rfl ci_1 (Nat.le_of_ble_eq_true rfl) rfl ?_
        refine xj_goto (tgt := 329) dX12_look_360 rfl ?_
        refine xj_sub (lv2 := [(0, .ref 0), (2, .int a2), (3, .int a3), (4, .int a4), (5, .int (a5 + (1 : Int32)))]) [2, 3, 4, 1, 0] rfl ?_
        exact ih _ _ _ _ _
    · refine xj_aloadn 0 dX12_look_363 rfl rfl ?_
      refine xj_iload 3 dX12_look_364 rfl ?_
      refine xj_cVi (argv := [.int a4]) (rest := []) dX12_look_366 (kX12_take a4 w) mkX12_take tw2059 rfl rfl rfl rfl rfl rfl (fun x1 w2 => ?_)
      refine xj_ifeq (tgt := 403) dX12_look_369 rfl ?_ ?_
      · refine xj_sub (lv2 := [(0, .ref 0), (2, .int a2), (3, .int a3)]) [0, 1, 2] rfl ?_
        exact tX12_look_j403 _ _ _
      · refine xj_aloadn 0 dX12_look_372 rfl rfl ?_
        refine gfX12_70 (v := (w2.1 0 17)) dX12_look_373 rfl rfl ?_
        refine xj_bipush (v := 32) dX12_look_376 cb_32 ?_
        refine xj_ieq (tgt := 399) dX12_look_378 rfl ?_ ?_
        · refine xj_sub (lv2 := [(0, .ref 0), (2, .int a2), (3, .int a3)]) [0, 1, 2] rfl ?_
          exact tX12_look_j399 _ _ _
        · refine xj_aloadn 0 dX12_look_381 rfl rfl ?_
          refine gfX12_70 (v := (w2.1 0 17)) dX12_look_382 rfl rfl ?_
          refine xj_bipush (v := 31) dX12_look_385 cb_31 ?_
          refine xj_ieq (tgt := 399) dX12_look_387 rfl ?_ ?_
          · refine xj_sub (lv2 := [(0, .ref 0), (2, .int a2), (3, .int a3)]) [0, 1, 2] rfl ?_
            exact tX12_look_j399 _ _ _
          · refine xj_aloadn 0 dX12_look_390 rfl rfl ?_
            refine gfX12_70 (v := (w2.1 0 17)) dX12_look_391 rfl rfl ?_
            refine xj_bipush (v := 43) dX12_look_394 cb_43 ?_
            refine xj_ine (tgt := 403) dX12_look_396 rfl ?_ ?_
            · refine xj_sub (lv2 := [(0, .ref 0), (2, .int a2), (3, .int a3)]) [0, 1, 2] rfl ?_
              exact tX12_look_j399 _ _ _
            · refine xj_sub (lv2 := [(0, .ref 0), (2, .int a2), (3, .int a3)]) [0, 1, 2] rfl ?_
              exact tX12_look_j403 _ _ _
set_option maxRecDepth 20000 in
def sX12_look_j299 (K198 : Int32 → Int32 → Int32 → xW → Option (Int32 × xW)) (a2 : Int32) (a3 : Int32) (a4 : Int32) (b0 : Int32) (w : xW) : Option (Int32 × xW) :=
  (if b0 = 0 then xbd (sX12_bad (7 : Int32) a4 w) (fun x1 w2 => some (x1, w2)) else K198 a2 a3 (a4 + (1 : Int32)) w)
set_option maxRecDepth 20000 in
theorem tX12_look_j299 (K198 : Int32 → Int32 → Int32 → xW → Option (Int32 × xW)) (hK198 : ∀ (a2 : Int32) (a3 : Int32) (a4 : Int32) (w : xW), xJ ιI mX12_look lM (0, 0) 198 [(0, .ref 0), (2, .int a2), (3, .int a3), (4, .int a4)] [] w (K198 a2 a3 a4 w)) (a2 : Int32) (a3 : Int32) (a4 : Int32) (b0 : Int32) (w : xW) : xJ ιI mX12_look lM (0, 0) 299 [(0, .ref 0), (2, .int a2), (3, .int a3), (4, .int a4)] [.int b0] w (sX12_look_j299 K198 a2 a3 a4 b0 w) := by
  unfold sX12_look_j299
  refine xj_istore (lv2 := [(7, .int b0), (0, .ref 0), (2, .int a2), (3, .int a3), (4, .int a4)]) dX12_look_299 (Nat.le_of_ble_eq_true rfl) rfl ?_
  refine xj_iload 0 dX12_look_301 rfl ?_
  refine xj_ifne (tgt := 315) dX12_look_303 rfl ?_ ?_
  · refine xj_aloadn 1 dX12_look_306 rfl rfl ?_
    refine xj_bipush (v := 7) dX12_look_307 cb_7 ?_
    refine xj_iload 4 dX12_look_309 rfl ?_
    refine xj_cVi (argv := [.int (7 : Int32), .int a4]) (rest := []) dX12_look_311 (kX12_bad (7 : Int32) a4 w) mkX12_bad tw2055 rfl rfl rfl rfl rfl rfl (fun x1 w2 => ?_)
    exact xj_ri dX12_look_314 rfl
  · refine xj_iinc (n := 4) (lv2 := [(4, .int (a4 + (1 : Int32))), (7, .int b0), (0, .ref 0), (2, .int a2), (3, .int a3)]) dX12_look_315 rfl ci_1 (Nat.le_of_ble_eq_true rfl) rfl ?_
    refine xj_goto (tgt := 198) dX12_look_318 rfl ?_
    refine xj_sub (lv2 := [(0, .ref 0), (2, .int a2), (3, .int a3), (4, .int (a4 + (1 : Int32)))]) [2, 3, 4, 0] rfl ?_
    exact hK198 _ _ _ _
set_option maxRecDepth 20000 in
def sX12_look_j294 (K198 : Int32 → Int32 → Int32 → xW → Option (Int32 × xW)) (a2 : Int32) (a3 : Int32) (a4 : Int32) (w : xW) : Option (Int32 × xW) :=
  sX12_look_j299 K198 a2 a3 a4 (1 : Int32) w
set_option maxRecDepth 20000 in
theorem tX12_look_j294 (K198 : Int32 → Int32 → Int32 → xW → Option (Int32 × xW)) (hK198 : ∀ (a2 : Int32) (a3 : Int32) (a4 : Int32) (w : xW), xJ ιI mX12_look lM (0, 0) 198 [(0, .ref 0), (2, .int a2), (3, .int a3), (4, .int a4)] [] w (K198 a2 a3 a4 w)) (a2 : Int32) (a3 : Int32) (a4 : Int32) (w : xW) : xJ ιI mX12_look lM (0, 0) 294 [(0, .ref 0), (2, .int a2), (3, .int a3), (4, .int a4)] [] w (sX12_look_j294 K198 a2 a3 a4 w) := by
  unfold sX12_look_j294
  refine xj_iconst (v := 1) dX12_look_294 ci_1 ?_
  refine xj_goto (tgt := 299) dX12_look_295 rfl ?_
  exact tX12_look_j299 K198 hK198 _ _ _ _ _
set_option maxRecDepth 20000 in
def sX12_look_j298 (K198 : Int32 → Int32 → Int32 → xW → Option (Int32 × xW)) (a2 : Int32) (a3 : Int32) (a4 : Int32) (w : xW) : Option (Int32 × xW) :=
  sX12_look_j299 K198 a2 a3 a4 (0 : Int32) w
set_option maxRecDepth 20000 in
theorem tX12_look_j298 (K198 : Int32 → Int32 → Int32 → xW → Option (Int32 × xW)) (hK198 : ∀ (a2 : Int32) (a3 : Int32) (a4 : Int32) (w : xW), xJ ιI mX12_look lM (0, 0) 198 [(0, .ref 0), (2, .int a2), (3, .int a3), (4, .int a4)] [] w (K198 a2 a3 a4 w)) (a2 : Int32) (a3 : Int32) (a4 : Int32) (w : xW) : xJ ιI mX12_look lM (0, 0) 298 [(0, .ref 0), (2, .int a2), (3, .int a3), (4, .int a4)] [] w (sX12_look_j298 K198 a2 a3 a4 w) := by
  unfold sX12_look_j298
  refine xj_iconst (v := 0) dX12_look_298 ci_0 ?_
  exact tX12_look_j299 K198 hK198 _ _ _ _ _
set_option maxRecDepth 20000 in
def sX12_look_l198 : Nat → Int32 → Int32 → Int32 → xW → Option (Int32 × xW)
  | 0, _, _, _, _ => none
  | n + 1, a2, a3, a4, w =>
  (if a4 < (w.1 0 2) then (if xin a4 2048 then (if 0 < (w.1 5 a4.toNatClampNeg) then xbd (sX12_take a4 w) (fun x1 w2 => (if x1 = 0 then (sX12_look_l198 n) a2 a3 (a4 + (1 : Int32)) w2 else (if (w2.1 0 18) = (8 : Int32) then xlet (((w2.1 0 29).toInt64 &&& (4294967295 : Int64)) - (4096 : Int64)) (fun x3 => xbd (sX12_isGate ((w2.1 0 29).toInt64 &&& (4294967295 : Int64)) w2) (fun x4 w5 => (if x4 = 0 then xbd (sX12_isIn x3 (0 : Int64) ((w5.1 0 2).toInt64 - (1 : Int64)) w5) (fun x6 w7 => (if x6 = 0 then sX12_look_j298 (sX12_look_l198 n) a2 a3 a4 w7 else (if xin x3.toInt32 2048 then (if (w7.1 5 x3.toInt32.toNatClampNeg) = (1 : Int32) then sX12_look_j294 (sX12_look_l198 n) a2 a3 a4 w7 else sX12_look_j298 (sX12_look_l198 n) a2 a3 a4 w7) else none))) else sX12_look_j294 (sX12_look_l198 n) a2 a3 a4 w5))) else (sX12_look_l198 n) a2 a3 (a4 + (1 : Int32)) w2))) else (sX12_look_l198 n) a2 a3 (a4 + (1 : Int32)) w) else none) else sX12_look_l329 70000 a2 a3 a3 (a3 + (1 : Int32)) w)
set_option maxRecDepth 20000 in
theorem tX12_look_l198 : ∀ (n : Nat) (a2 : Int32) (a3 : Int32) (a4 : Int32) (w : xW), xJ ιI mX12_look lM (0, 0) 198 [(0, .ref 0), (2, .int a2), (3, .int a3), (4, .int a4)] [] w (sX12_look_l198 n a2 a3 a4 w) := by
  intro n
  induction n with
  | zero => intros; exact xj_none
  | succ n ih =>
    intro a2 a3 a4 w
    rw [sX12_look_l198]
    refine xj_iload 3 dX12_look_198 rfl ?_
    refine xj_aloadn 0 dX12_look_200 rfl rfl ?_
    refine gfX12_59 (v := (w.1 0 2)) dX12_look_201 rfl rfl ?_
    refine xj_ige (tgt := 321) dX12_look_204 rfl ?_ ?_
    · refine xj_aloadn 0 dX12_look_207 rfl rfl ?_
      refine gfX12_27 dX12_look_208 rfl ?_
      refine xj_iload 3 dX12_look_211 rfl ?_
      refine xj_iald (k := 5) dX12_look_213 rfl ?_
      refine xj_ifle (tgt := 315) dX12_look_214 rfl ?_ ?_
      · refine xj_aloadn 0 dX12_look_217 rfl rfl ?_
        refine xj_iload 3 dX12_look_218 rfl ?_
        refine xj_cVi (argv := [.int a4]) (rest := []) dX12_look_220 (kX12_take a4 w) mkX12_take tw2059 rfl rfl rfl rfl rfl rfl (fun x1 w2 => ?_)
        refine xj_ifeq (tgt := 315) dX12_look_223 rfl ?_ ?_
        · refine xj_iinc (n := 3) (lv2 := [(4, .int (a4 + (1 : Int32))), (0, .ref 0), (2, .int a2), (3, .int a3)]) dX12_look_315 rfl ci_1 (Nat.le_of_ble_eq_true rfl) rfl ?_
          refine xj_goto (tgt := 198) dX12_look_318 rfl ?_
          refine xj_sub (lv2 := [(0, .ref 0), (2, .int a2), (3, .int a3), (4, .int (a4 + (1 : Int32)))]) [1, 2, 3, 0] rfl ?_
          exact ih _ _ _ _
        · refine xj_aloadn 0 dX12_look_226 rfl rfl ?_
          refine gfX12_73 (v := (w2.1 0 18)) dX12_look_227 rfl rfl ?_
          refine xj_bipush (v := 8) dX12_look_230 cb_8 ?_
          refine xj_ine (tgt := 315) dX12_look_232 rfl ?_ ?_
          · refine xj_aloadn 0 dX12_look_235 rfl rfl ?_
            refine gfX12_109 (v := (w2.1 0 29)) dX12_look_236 rfl rfl ?_
            refine xj_i2l dX12_look_239 ?_
            refine xj_ldc2 (v := 4294967295) tw2157 dX12_look_240 ?_
            refine xj_land dX12_look_243 ?_
            refine xj_ldc2 (v := 4096) tw2160 dX12_look_244 ?_
            refine xj_lsub dX12_look_247 ?_
            refine xj_letl (fun x3 => ?_)
            refine xj_lstore (lv2 := [(5, .long x3), (0, .ref 0), (2, .int a2), (3, .int a3), (4, .int a4)]) dX12_look_248 (Nat.le_of_ble_eq_true rfl) rfl ?_
            refine xj_aloadn 1 dX12_look_250 rfl rfl ?_
            refine xj_aloadn 1 dX12_look_251 rfl rfl ?_
            refine gfX12_109 (v := (w2.1 0 29)) dX12_look_252 rfl rfl ?_
            refine xj_i2l dX12_look_255 ?_
            refine xj_ldc2 (v := 4294967295) tw2157 dX12_look_256 ?_
            refine xj_land dX12_look_259 ?_
            refine xj_cVi (argv := [.long ((w2.1 0 29).toInt64 &&& (4294967295 : Int64))]) (rest := []) dX12_look_260 (kX12_isGate ((w2.1 0 29).toInt64 &&& (4294967295 : Int64)) w2) mkX12_isGate tw2161 rfl rfl rfl rfl rfl rfl (fun x4 w5 => ?_)
            refine xj_ifne (tgt := 294) dX12_look_263 rfl ?_ ?_
            · refine xj_lload 0 dX12_look_266 rfl ?_
              refine xj_lconst (v := 0) dX12_look_268 cl_0 ?_
              refine xj_aloadn 1 dX12_look_269 rfl rfl ?_
              refine gfX12_59 (v := (w5.1 0 2)) dX12_look_270 rfl rfl ?_
              refine xj_i2l dX12_look_273 ?_
              refine xj_lconst (v := 1) dX12_look_274 cl_1 ?_
              refine xj_lsub dX12_look_275 ?_
              refine xj_cSi (argv := [.long x3, .long (0 : Int64), .long ((w5.1 0 2).toInt64 - (1 : Int64))]) (rest := []) dX12_look_276 (kX12_isIn x3 (0 : Int64) ((w5.1 0 2).toInt64 - (1 : Int64)) w5) mkX12_isIn tw2150 rfl rfl rfl rfl (fun x6 w7 => ?_)
              refine xj_ifeq (tgt := 298) dX12_look_279 rfl ?_ ?_
              · refine xj_sub (lv2 := [(0, .ref 0), (2, .int a2), (3, .int a3), (4, .int a4)]) [1, 2, 3, 4] rfl ?_
                exact tX12_look_j298 (sX12_look_l198 n) ih _ _ _ _
              · refine xj_aloadn 1 dX12_look_282 rfl rfl ?_
                refine gfX12_27 dX12_look_283 rfl ?_
                refine xj_lload 0 dX12_look_286 rfl ?_
                refine xj_l2i dX12_look_288 ?_
                refine xj_iald (k := 5) dX12_look_289 rfl ?_
                refine xj_iconst (v := 1) dX12_look_290 ci_1 ?_
                refine xj_ine (tgt := 298) dX12_look_291 rfl ?_ ?_
                · refine xj_sub (lv2 := [(0, .ref 0), (2, .int a2), (3, .int a3), (4, .int a4)]) [1, 2, 3, 4] rfl ?_
                  exact tX12_look_j294 (sX12_look_l198 n) ih _ _ _ _
                · refine xj_sub (lv2 := [(0, .ref 0), (2, .int a2), (3, .int a3), (4, .int a4)]) [1, 2, 3, 4] rfl ?_
                  exact tX12_look_j298 (sX12_look_l198 n) ih _ _ _ _
            · refine xj_sub (lv2 := [(0, .ref 0), (2, .int a2), (3, .int a3), (4, .int a4)]) [1, 2, 3, 4] rfl ?_
              exact tX12_look_j294 (sX12_look_l198 n) ih _ _ _ _
          · refine xj_iinc (n := 3) (lv2 := [(4, .int (a4 + (1 : Int32))), (0, .ref 0), (2, .int a2), (3, .int a3)]) dX12_look_315 rfl ci_1 (Nat.le_of_ble_eq_true rfl) rfl ?_
            refine xj_goto (tgt := 198) dX12_look_318 rfl ?_
            refine xj_sub (lv2 := [(0, .ref 0), (2, .int a2), (3, .int a3), (4, .int (a4 + (1 : Int32)))]) [1, 2, 3, 0] rfl ?_
            exact ih _ _ _ _
      · refine xj_iinc (n := 3) (lv2 := [(4, .int (a4 + (1 : Int32))), (0, .ref 0), (2, .int a2), (3, .int a3)]) dX12_look_315 rfl ci_1 (Nat.le_of_ble_eq_true rfl) rfl ?_
        refine xj_goto (tgt := 198) dX12_look_318 rfl ?_
        refine xj_sub (lv2 := [(0, .ref 0), (2, .int a2), (3, .int a3), (4, .int (a4 + (1 : Int32)))]) [1, 2, 3, 0] rfl ?_
        exact ih _ _ _ _
    · refine xj_iloadn 2 dX12_look_321 rfl rfl ?_
      refine xj_istore (lv2 := [(4, .int a3), (0, .ref 0), (2, .int a2), (3, .int a3)]) dX12_look_322 (Nat.le_of_ble_eq_true rfl) rfl ?_
      refine xj_iloadn 3 dX12_look_324 rfl rfl ?_
      refine xj_iconst (v := 1) dX12_look_325 ci_1 ?_
      refine xj_iadd dX12_look_326 ?_
      refine xj_istore (lv2 := [(5, .int (a3 + (1 : Int32))), (4, .int a3), (0, .ref 0), (2, .int a2), (3, .int a3)]) dX12_look_327 (Nat.le_of_ble_eq_true rfl) rfl ?_
      refine xj_sub (lv2 := [(0, .ref 0), (2, .int a2), (3, .int a3), (4, .int a3), (5, .int (a3 + (1 : Int32)))]) [2, 3, 4, 1, 0] rfl ?_
      exact tX12_look_l329 _ _ _ _ _ _
set_option maxRecDepth 20000 in
def sX12_look_j178 (K57 : Int32 → Int32 → Int32 → xW → Option (Int32 × xW)) (K149 : Int32 → Int32 → Int32 → Int32 → Int32 → xW → Option (Int32 × xW)) (a1 : Int32) (a2 : Int32) (a3 : Int32) (a5 : Int32) (a6 : Int32) (b0 : Int32) (b1 : Int32) (w : xW) : Option (Int32 × xW) :=
  (if xin b1 2048 then K149 (a1 + (w.1 0 30)) (a2 + (1 : Int32)) a3 a5 a6 (xwi w 5 b1.toNatClampNeg b0) else none)
set_option maxRecDepth 20000 in
theorem tX12_look_j178 (K57 : Int32 → Int32 → Int32 → xW → Option (Int32 × xW)) (K149 : Int32 → Int32 → Int32 → Int32 → Int32 → xW → Option (Int32 × xW)) (hK57 : ∀ (a1 : Int32) (a2 : Int32) (a3 : Int32) (w : xW), xJ ιI mX12_look lM (0, 0) 57 [(0, .ref 0), (1, .int a1), (2, .int a2), (3, .int a3)] [] w (K57 a1 a2 a3 w)) (hK149 : ∀ (a1 : Int32) (a2 : Int32) (a3 : Int32) (a5 : Int32) (a6 : Int32) (w : xW), xJ ιI mX12_look lM (0, 0) 149 [(0, .ref 0), (1, .int a1), (2, .int a2), (3, .int a3), (5, .int a5), (6, .int a6)] [] w (K149 a1 a2 a3 a5 a6 w)) (a1 : Int32) (a2 : Int32) (a3 : Int32) (a5 : Int32) (a6 : Int32) (b0 : Int32) (b1 : Int32) (w : xW) : xJ ιI mX12_look lM (0, 0) 178 [(0, .ref 0), (1, .int a1), (2, .int a2), (3, .int a3), (5, .int a5), (6, .int a6)] [.int b0, .int b1, .ref 5] w (sX12_look_j178 K57 K149 a1 a2 a3 a5 a6 b0 b1 w) := by
  unfold sX12_look_j178
  refine xj_iast (k := 5) dX12_look_178 rfl ?_
  refine xj_iinc (n := 2) (lv2 := [(2, .int (a2 + (1 : Int32))), (0, .ref 0), (1, .int a1), (3, .int a3), (5, .int a5), (6, .int a6)]) dX12_look_179 rfl ci_1 (Nat.le_of_ble_eq_true rfl) rfl ?_
  refine xj_iloadn 2 dX12_look_182 rfl rfl ?_
  refine xj_aloadn 1 dX12_look_183 rfl rfl ?_
  refine gfX12_138 (v := (w.1 0 30)) dX12_look_184 rfl rfl ?_
  refine xj_iadd dX12_look_187 ?_
  refine xj_istoren (lv2 := [(1, .int (a1 + (w.1 0 30))), (2, .int (a2 + (1 : Int32))), (0, .ref 0), (3, .int a3), (5, .int a5), (6, .int a6)]) dX12_look_188 rfl (Nat.le_of_ble_eq_true rfl) rfl ?_
  refine xj_goto (tgt := 149) dX12_look_189 rfl ?_
  refine xj_sub (lv2 := [(0, .ref 0), (1, .int (a1 + (w.1 0 30))), (2, .int (a2 + (1 : Int32))), (3, .int a3), (5, .int a5), (6, .int a6)]) [2, 0, 1, 3, 4, 5] rfl ?_
  exact hK149 _ _ _ _ _ _
set_option maxRecDepth 20000 in
def sX12_look_l149 (K57 : Int32 → Int32 → Int32 → xW → Option (Int32 × xW)) : Nat → Int32 → Int32 → Int32 → Int32 → Int32 → xW → Option (Int32 × xW)
  | 0, _, _, _, _, _, _ => none
  | n + 1, a1, a2, a3, a5, a6, w =>
  (if a1 < a5 then xbd (sX12_take a1 w) (fun x1 w2 => (if a1 = a6 then sX12_look_j178 K57 (sX12_look_l149 K57 n) a1 a2 a3 a5 a6 (1 : Int32) a1 w2 else sX12_look_j178 K57 (sX12_look_l149 K57 n) a1 a2 a3 a5 a6 (2 : Int32) a1 w2)) else K57 a1 a2 a3 w)
set_option maxRecDepth 20000 in
theorem tX12_look_l149 (K57 : Int32 → Int32 → Int32 → xW → Option (Int32 × xW)) (hK57 : ∀ (a1 : Int32) (a2 : Int32) (a3 : Int32) (w : xW), xJ ιI mX12_look lM (0, 0) 57 [(0, .ref 0), (1, .int a1), (2, .int a2), (3, .int a3)] [] w (K57 a1 a2 a3 w)) : ∀ (n : Nat) (a1 : Int32) (a2 : Int32) (a3 : Int32) (a5 : Int32) (a6 : Int32) (w : xW), xJ ιI mX12_look lM (0, 0) 149 [(0, .ref 0), (1, .int a1), (2, .int a2), (3, .int a3), (5, .int a5), (6, .int a6)] [] w (sX12_look_l149 K57 n a1 a2 a3 a5 a6 w) := by
  intro n
  induction n with
  | zero => intros; exact xj_none
  | succ n ih =>
    intro a1 a2 a3 a5 a6 w
    rw [sX12_look_l149]
    refine xj_iloadn 1 dX12_look_149 rfl rfl ?_
    refine xj_iload 4 dX12_look_150 rfl ?_
    refine xj_ige (tgt := 192) dX12_look_152 rfl ?_ ?_
    · refine xj_aloadn 0 dX12_look_155 rfl rfl ?_
      refine xj_iloadn 1 dX12_look_156 rfl rfl ?_
      refine xj_cVi (argv := [.int a1]) (rest := []) dX12_look_157 (kX12_take a1 w) mkX12_take tw2059 rfl rfl rfl rfl rfl rfl (fun x1 w2 => ?_)
      refine xj_istore (lv2 := [(7, .int x1), (0, .ref 0), (1, .int a1), (2, .int a2), (3, .int a3), (5, .int a5), (6, .int a6)]) dX12_look_160 (Nat.le_of_ble_eq_true rfl) rfl ?_
      refine xj_aloadn 1 dX12_look_162 rfl rfl ?_
      refine gfX12_27 dX12_look_163 rfl ?_
      refine xj_iloadn 2 dX12_look_166 rfl rfl ?_
      refine xj_iloadn 2 dX12_look_167 rfl rfl ?_
      refine xj_iload 6 dX12_look_168 rfl ?_
      refine xj_ine (tgt := 177) dX12_look_170 rfl ?_ ?_
      · refine xj_iconst (v := 1) dX12_look_173 ci_1 ?_
        refine xj_goto (tgt := 178) dX12_look_174 rfl ?_
        refine xj_sub (lv2 := [(0, .ref 0), (1, .int a1), (2, .int a2), (3, .int a3), (5, .int a5), (6, .int a6)]) [1, 2, 3, 4, 5, 6] rfl ?_
        exact tX12_look_j178 K57 (sX12_look_l149 K57 n) hK57 ih _ _ _ _ _ _ _ _
      · refine xj_iconst (v := 2) dX12_look_177 ci_2 ?_
        refine xj_sub (lv2 := [(0, .ref 0), (1, .int a1), (2, .int a2), (3, .int a3), (5, .int a5), (6, .int a6)]) [1, 2, 3, 4, 5, 6] rfl ?_
        exact tX12_look_j178 K57 (sX12_look_l149 K57 n) hK57 ih _ _ _ _ _ _ _ _
    · refine xj_goto (tgt := 57) dX12_look_192 rfl ?_
      refine xj_sub (lv2 := [(0, .ref 0), (1, .int a1), (2, .int a2), (3, .int a3)]) [0, 1, 2, 3] rfl ?_
      exact hK57 _ _ _ _
set_option maxRecDepth 20000 in
def sX12_look_j106 (K57 : Int32 → Int32 → Int32 → xW → Option (Int32 × xW)) (a1 : Int32) (a2 : Int32) (a4 : Int32) (b0 : Int32) (w : xW) : Option (Int32 × xW) :=
  (if b0 = (-1 : Int32) then xbd (sX12_faultAt a1 a4 w) (fun x1 w2 => (if 0 < x1 then xbd (sX12_bad x1 a1 w2) (fun x3 w4 => some (x3, w4)) else sX12_look_l149 K57 70000 a1 a2 a1 (a1 + (w2.1 0 30)) a1 w2)) else sX12_look_l149 K57 70000 a1 a2 a1 b0 a1 w)
set_option maxRecDepth 20000 in
theorem tX12_look_j106 (K57 : Int32 → Int32 → Int32 → xW → Option (Int32 × xW)) (hK57 : ∀ (a1 : Int32) (a2 : Int32) (a3 : Int32) (w : xW), xJ ιI mX12_look lM (0, 0) 57 [(0, .ref 0), (1, .int a1), (2, .int a2), (3, .int a3)] [] w (K57 a1 a2 a3 w)) (a1 : Int32) (a2 : Int32) (a4 : Int32) (b0 : Int32) (w : xW) : xJ ιI mX12_look lM (0, 0) 106 [(0, .ref 0), (1, .int a1), (2, .int a2), (4, .int a4)] [.int b0] w (sX12_look_j106 K57 a1 a2 a4 b0 w) := by
  unfold sX12_look_j106
  refine xj_istore (lv2 := [(5, .int b0), (0, .ref 0), (1, .int a1), (2, .int a2), (4, .int a4)]) dX12_look_106 (Nat.le_of_ble_eq_true rfl) rfl ?_
  refine xj_iload 0 dX12_look_108 rfl ?_
  refine xj_iconst (v := -1) dX12_look_110 ci_m1 ?_
  refine xj_ine (tgt := 144) dX12_look_111 rfl ?_ ?_
  · refine xj_aloadn 1 dX12_look_114 rfl rfl ?_
    refine xj_iloadn 2 dX12_look_115 rfl rfl ?_
    refine xj_iload 4 dX12_look_116 rfl ?_
    refine xj_cVi (argv := [.int a1, .int a4]) (rest := []) dX12_look_118 (kX12_faultAt a1 a4 w) mkX12_faultAt tw2153 rfl rfl rfl rfl rfl rfl (fun x1 w2 => ?_)
    refine xj_istore (lv2 := [(6, .int x1), (5, .int b0), (0, .ref 0), (1, .int a1), (2, .int a2), (4, .int a4)]) dX12_look_121 (Nat.le_of_ble_eq_true rfl) rfl ?_
    refine xj_iload 0 dX12_look_123 rfl ?_
    refine xj_ifle (tgt := 136) dX12_look_125 rfl ?_ ?_
    · refine xj_aloadn 2 dX12_look_128 rfl rfl ?_
      refine xj_iload 0 dX12_look_129 rfl ?_
      refine xj_iloadn 3 dX12_look_131 rfl rfl ?_
      refine xj_cVi (argv := [.int x1, .int a1]) (rest := []) dX12_look_132 (kX12_bad x1 a1 w2) mkX12_bad tw2055 rfl rfl rfl rfl rfl rfl (fun x3 w4 => ?_)
      exact xj_ri dX12_look_135 rfl
    · refine xj_iloadn 3 dX12_look_136 rfl rfl ?_
      refine xj_aloadn 2 dX12_look_137 rfl rfl ?_
      refine gfX12_138 (v := (w2.1 0 30)) dX12_look_138 rfl rfl ?_
      refine xj_iadd dX12_look_141 ?_
      refine xj_istore (lv2 := [(5, .int (a1 + (w2.1 0 30))), (6, .int x1), (0, .ref 0), (1, .int a1), (2, .int a2), (4, .int a4)]) dX12_look_142 (Nat.le_of_ble_eq_true rfl) rfl ?_
      refine xj_iloadn 3 dX12_look_144 rfl rfl ?_
      refine xj_istoren (lv2 := [(3, .int a1), (5, .int (a1 + (w2.1 0 30))), (6, .int x1), (0, .ref 0), (1, .int a1), (2, .int a2), (4, .int a4)]) dX12_look_145 rfl (Nat.le_of_ble_eq_true rfl) rfl ?_
      refine xj_iloadn 4 dX12_look_146 rfl rfl ?_
      refine xj_istore (lv2 := [(6, .int a1), (3, .int a1), (5, .int (a1 + (w2.1 0 30))), (0, .ref 0), (1, .int a1), (2, .int a2), (4, .int a4)]) dX12_look_147 (Nat.le_of_ble_eq_true rfl) rfl ?_
      refine xj_sub (lv2 := [(0, .ref 0), (1, .int a1), (2, .int a2), (3, .int a1), (5, .int (a1 + (w2.1 0 30))), (6, .int a1)]) [3, 4, 5, 1, 2, 0] rfl ?_
      exact tX12_look_l149 K57 hK57 _ _ _ _ _ _ _
  · refine xj_iloadn 2 dX12_look_144 rfl rfl ?_
    refine xj_istoren (lv2 := [(3, .int a1), (5, .int b0), (0, .ref 0), (1, .int a1), (2, .int a2), (4, .int a4)]) dX12_look_145 rfl (Nat.le_of_ble_eq_true rfl) rfl ?_
    refine xj_iloadn 3 dX12_look_146 rfl rfl ?_
    refine xj_istore (lv2 := [(6, .int a1), (3, .int a1), (5, .int b0), (0, .ref 0), (1, .int a1), (2, .int a2), (4, .int a4)]) dX12_look_147 (Nat.le_of_ble_eq_true rfl) rfl ?_
    refine xj_sub (lv2 := [(0, .ref 0), (1, .int a1), (2, .int a2), (3, .int a1), (5, .int b0), (6, .int a1)]) [3, 4, 5, 1, 2, 0] rfl ?_
    exact tX12_look_l149 K57 hK57 _ _ _ _ _ _ _
set_option maxRecDepth 20000 in
def sX12_look_j105 (K57 : Int32 → Int32 → Int32 → xW → Option (Int32 × xW)) (a1 : Int32) (a2 : Int32) (a4 : Int32) (w : xW) : Option (Int32 × xW) :=
  sX12_look_j106 K57 a1 a2 a4 (-1 : Int32) w
set_option maxRecDepth 20000 in
theorem tX12_look_j105 (K57 : Int32 → Int32 → Int32 → xW → Option (Int32 × xW)) (hK57 : ∀ (a1 : Int32) (a2 : Int32) (a3 : Int32) (w : xW), xJ ιI mX12_look lM (0, 0) 57 [(0, .ref 0), (1, .int a1), (2, .int a2), (3, .int a3)] [] w (K57 a1 a2 a3 w)) (a1 : Int32) (a2 : Int32) (a4 : Int32) (w : xW) : xJ ιI mX12_look lM (0, 0) 105 [(0, .ref 0), (1, .int a1), (2, .int a2), (4, .int a4)] [] w (sX12_look_j105 K57 a1 a2 a4 w) := by
  unfold sX12_look_j105
  refine xj_iconst (v := -1) dX12_look_105 ci_m1 ?_
  exact tX12_look_j106 K57 hK57 _ _ _ _ _
set_option maxRecDepth 20000 in
def sX12_look_l57 : Nat → Int32 → Int32 → Int32 → xW → Option (Int32 × xW)
  | 0, _, _, _, _ => none
  | n + 1, a1, a2, a3, w =>
  (if a1 < (w.1 0 2) then (if ¬ (32 : Int32) = 0 then xlet (((a1 / (32 : Int32)) + (1 : Int32)) * (32 : Int32)) (fun x1 => xbd (sX12_take a1 w) (fun x2 w3 => (if x2 = 0 then sX12_look_j105 (sX12_look_l57 n) a1 a2 x1 w3 else (if x1 < (a1 + (w3.1 0 30)) then sX12_look_j105 (sX12_look_l57 n) a1 a2 x1 w3 else xbd (sX12_longer a1 x1 w3) (fun x4 w5 => sX12_look_j106 (sX12_look_l57 n) a1 a2 x1 x4 w5))))) else none) else sX12_look_l198 70000 a2 a3 (0 : Int32) w)
set_option maxRecDepth 20000 in
theorem tX12_look_l57 : ∀ (n : Nat) (a1 : Int32) (a2 : Int32) (a3 : Int32) (w : xW), xJ ιI mX12_look lM (0, 0) 57 [(0, .ref 0), (1, .int a1), (2, .int a2), (3, .int a3)] [] w (sX12_look_l57 n a1 a2 a3 w) := by
  intro n
  induction n with
  | zero => intros; exact xj_none
  | succ n ih =>
    intro a1 a2 a3 w
    rw [sX12_look_l57]
    refine xj_iloadn 1 dX12_look_57 rfl rfl ?_
    refine xj_aloadn 0 dX12_look_58 rfl rfl ?_
    refine gfX12_59 (v := (w.1 0 2)) dX12_look_59 rfl rfl ?_
    refine xj_ige (tgt := 195) dX12_look_62 rfl ?_ ?_
    · refine xj_iloadn 1 dX12_look_65 rfl rfl ?_
      refine xj_bipush (v := 32) dX12_look_66 cb_32 ?_
      refine xj_idiv dX12_look_68 ?_
      refine xj_iconst (v := 1) dX12_look_69 ci_1 ?_
      refine xj_iadd dX12_look_70 ?_
      refine xj_bipush (v := 32) dX12_look_71 cb_32 ?_
      refine xj_imul dX12_look_73 ?_
      refine xj_leti (fun x1 => ?_)
      refine xj_istore (lv2 := [(4, .int x1), (0, .ref 0), (1, .int a1), (2, .int a2), (3, .int a3)]) dX12_look_74 (Nat.le_of_ble_eq_true rfl) rfl ?_
      refine xj_aloadn 1 dX12_look_76 rfl rfl ?_
      refine xj_iloadn 2 dX12_look_77 rfl rfl ?_
      refine xj_cVi (argv := [.int a1]) (rest := []) dX12_look_78 (kX12_take a1 w) mkX12_take tw2059 rfl rfl rfl rfl rfl rfl (fun x2 w3 => ?_)
      refine xj_ifeq (tgt := 105) dX12_look_81 rfl ?_ ?_
      · refine xj_sub (lv2 := [(0, .ref 0), (1, .int a1), (2, .int a2), (4, .int x1)]) [1, 2, 3, 0] rfl ?_
        exact tX12_look_j105 (sX12_look_l57 n) ih _ _ _ _
      · refine xj_iloadn 2 dX12_look_84 rfl rfl ?_
        refine xj_aloadn 1 dX12_look_85 rfl rfl ?_
        refine gfX12_138 (v := (w3.1 0 30)) dX12_look_86 rfl rfl ?_
        refine xj_iadd dX12_look_89 ?_
        refine xj_iload 0 dX12_look_90 rfl ?_
        refine xj_igt (tgt := 105) dX12_look_92 rfl ?_ ?_
        · refine xj_sub (lv2 := [(0, .ref 0), (1, .int a1), (2, .int a2), (4, .int x1)]) [1, 2, 3, 0] rfl ?_
          exact tX12_look_j105 (sX12_look_l57 n) ih _ _ _ _
        · refine xj_aloadn 1 dX12_look_95 rfl rfl ?_
          refine xj_iloadn 2 dX12_look_96 rfl rfl ?_
          refine xj_iload 0 dX12_look_97 rfl ?_
          refine xj_cVi (argv := [.int a1, .int x1]) (rest := []) dX12_look_99 (kX12_longer a1 x1 w3) mkX12_longer tw2107 rfl rfl rfl rfl rfl rfl (fun x4 w5 => ?_)
          refine xj_goto (tgt := 106) dX12_look_102 rfl ?_
          refine xj_sub (lv2 := [(0, .ref 0), (1, .int a1), (2, .int a2), (4, .int x1)]) [1, 2, 3, 0] rfl ?_
          exact tX12_look_j106 (sX12_look_l57 n) ih _ _ _ _ _
    · refine xj_iconst (v := 0) dX12_look_195 ci_0 ?_
      refine xj_istore (lv2 := [(4, .int (0 : Int32)), (0, .ref 0), (1, .int a1), (2, .int a2), (3, .int a3)]) dX12_look_196 (Nat.le_of_ble_eq_true rfl) rfl ?_
      refine xj_sub (lv2 := [(0, .ref 0), (2, .int a2), (3, .int a3), (4, .int (0 : Int32))]) [1, 3, 4, 0] rfl ?_
      exact tX12_look_l198 _ _ _ _ _
set_option maxRecDepth 20000 in
def sX12_look_l7 : Nat → Int32 → xW → Option (Int32 × xW)
  | 0, _, _ => none
  | n + 1, a1, w =>
  (if a1 < (2048 : Int32) then (if xin a1 2048 then (sX12_look_l7 n) (a1 + (1 : Int32)) (xwi w 5 a1.toNatClampNeg (0 : Int32)) else none) else (if (w.1 0 2) = 0 then sX12_look_j44 w else (if ¬ (32 : Int32) = 0 then (if ((w.1 0 2) - (w.1 0 2) / (32 : Int32) * (32 : Int32)) = 0 then sX12_look_l57 70000 (0 : Int32) (0 : Int32) (0 : Int32) w else sX12_look_j44 w) else none)))
set_option maxRecDepth 20000 in
theorem tX12_look_l7 : ∀ (n : Nat) (a1 : Int32) (w : xW), xJ ιI mX12_look lM (0, 0) 7 [(0, .ref 0), (1, .int a1)] [] w (sX12_look_l7 n a1 w) := by
  intro n
  induction n with
  | zero => intros; exact xj_none
  | succ n ih =>
    intro a1 w
    rw [sX12_look_l7]
    refine xj_iloadn 1 dX12_look_7 rfl rfl ?_
    refine xj_sipush (v := 2048) dX12_look_8 cs_2048 ?_
    refine xj_ige (tgt := 27) dX12_look_11 rfl ?_ ?_
    · refine xj_aloadn 0 dX12_look_14 rfl rfl ?_
      refine gfX12_27 dX12_look_15 rfl ?_
      refine xj_iloadn 1 dX12_look_18 rfl rfl ?_
      refine xj_iconst (v := 0) dX12_look_19 ci_0 ?_
      refine xj_iast (k := 5) dX12_look_20 rfl ?_
      refine xj_iinc (n := 1) (lv2 := [(1, .int (a1 + (1 : Int32))), (0, .ref 0)]) dX12_look_21 rfl ci_1 (Nat.le_of_ble_eq_true rfl) rfl ?_
      refine xj_goto (tgt := 7) dX12_look_24 rfl ?_
      refine xj_sub (lv2 := [(0, .ref 0), (1, .int (a1 + (1 : Int32)))]) [1, 0] rfl ?_
      exact ih _ _
    · refine xj_aloadn 0 dX12_look_27 rfl rfl ?_
      refine gfX12_59 (v := (w.1 0 2)) dX12_look_28 rfl rfl ?_
      refine xj_ifeq (tgt := 44) dX12_look_31 rfl ?_ ?_
      · refine xj_sub (lv2 := [(0, .ref 0)]) [0] rfl ?_
        exact tX12_look_j44 _
      · refine xj_aloadn 0 dX12_look_34 rfl rfl ?_
        refine gfX12_59 (v := (w.1 0 2)) dX12_look_35 rfl rfl ?_
        refine xj_bipush (v := 32) dX12_look_38 cb_32 ?_
        refine xj_irem dX12_look_40 ?_
        refine xj_ifeq (tgt := 51) dX12_look_41 rfl ?_ ?_
        · refine xj_iconst (v := 0) dX12_look_51 ci_0 ?_
          refine xj_istoren (lv2 := [(1, .int (0 : Int32)), (0, .ref 0)]) dX12_look_52 rfl (Nat.le_of_ble_eq_true rfl) rfl ?_
          refine xj_iconst (v := 0) dX12_look_53 ci_0 ?_
          refine xj_istoren (lv2 := [(2, .int (0 : Int32)), (1, .int (0 : Int32)), (0, .ref 0)]) dX12_look_54 rfl (Nat.le_of_ble_eq_true rfl) rfl ?_
          refine xj_iconst (v := 0) dX12_look_55 ci_0 ?_
          refine xj_istoren (lv2 := [(3, .int (0 : Int32)), (2, .int (0 : Int32)), (1, .int (0 : Int32)), (0, .ref 0)]) dX12_look_56 rfl (Nat.le_of_ble_eq_true rfl) rfl ?_
          refine xj_sub (lv2 := [(0, .ref 0), (1, .int (0 : Int32)), (2, .int (0 : Int32)), (3, .int (0 : Int32))]) [3, 2, 1, 0] rfl ?_
          exact tX12_look_l57 _ _ _ _ _
        · refine xj_sub (lv2 := [(0, .ref 0)]) [0] rfl ?_
          exact tX12_look_j44 _
set_option maxRecDepth 20000 in
def sX12_look (w : xW) : Option (Int32 × xW) :=
  sX12_look_l7 70000 (0 : Int32) (xwi w 0 0 (0 : Int32))
set_option maxRecDepth 20000 in
theorem tX12_look (w : xW) : xJ ιI mX12_look lM (0, 0) 0 [(0, .ref 0)] [] w (sX12_look w) := by
  unfold sX12_look
  refine xj_aloadn 0 dX12_look_0 rfl rfl ?_
  refine xj_iconst (v := 0) dX12_look_1 ci_0 ?_
  refine pfX12_53 dX12_look_2 rfl ?_
  refine xj_iconst (v := 0) dX12_look_5 ci_0 ?_
  refine xj_istoren (lv2 := [(1, .int (0 : Int32)), (0, .ref 0)]) dX12_look_6 rfl (Nat.le_of_ble_eq_true rfl) rfl ?_
  refine xj_sub (lv2 := [(0, .ref 0), (1, .int (0 : Int32))]) [1, 0] rfl ?_
  exact tX12_look_l7 _ _ _
theorem kX12_look (w : xW) : xMet jI mX12_look lM (0, 0) [.ref 0] w (sX12_look w) := xj_met lM_ok (by decide) (Nat.le_of_ble_eq_true rfl) (Nat.zero_le _) (Nat.zero_le _) (tX12_look w)
