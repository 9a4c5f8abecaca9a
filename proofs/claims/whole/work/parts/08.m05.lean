/-! the reference, method by method: 5 -/
set_option maxRecDepth 20000 in
def sX12_doOther_j210 (a1 : Int32) (a4 : Int32) (b0 : Int32) (w : xW) : Option (Int32 × xW) :=
  xbd (sX12_setFirst b0 w) (fun _ w1 => (if xz a4 then some (a1, (xwi w1 0 36 a4)) else none))
set_option maxRecDepth 20000 in
theorem tX12_doOther_j210 (a1 : Int32) (a4 : Int32) (b0 : Int32) (w : xW) : xJ ιI mX12_doOther lM (0, 0) 210 [(0, .ref 0), (1, .int a1), (4, .int a4)] [.int b0, .ref 0] w (sX12_doOther_j210 a1 a4 b0 w) := by
  unfold sX12_doOther_j210
  refine xj_cVv (argv := [.int b0]) (rest := []) dX12_doOther_210 (kX12_setFirst b0 w) mkX12_setFirst tw2332 rfl rfl rfl rfl rfl rfl (fun _ w1 => ?_)
  refine xj_aloadn 0 dX12_doOther_213 rfl rfl ?_
  refine xj_iload 2 dX12_doOther_214 rfl ?_
  refine xj_guard (fun hz => ?_)
  refine pfX12_320 dX12_doOther_216 rfl hz ?_
  refine xj_iloadn 1 dX12_doOther_219 rfl rfl ?_
  exact xj_ri dX12_doOther_220 rfl
set_option maxRecDepth 20000 in
def sX12_doOther_j164 (a1 : Int32) (w : xW) : Option (Int32 × xW) :=
  xbd (sX12_firstOf w) (fun x1 w2 => (if (w2.1 0 17) = (8 : Int32) then xbd (sX12_sum x1 (1 : Int32) (0 : Int32) (w2.1 0 20) w2) (fun x5 w6 => sX12_doOther_j210 a1 (w.1 0 36) x5 w6) else xbd (sX12_difference x1 (1 : Int32) (0 : Int32) (w2.1 0 20) w2) (fun x3 w4 => sX12_doOther_j210 a1 (w.1 0 36) x3 w4)))
set_option maxRecDepth 20000 in
theorem tX12_doOther_j164 (a1 : Int32) (w : xW) : xJ ιI mX12_doOther lM (0, 0) 164 [(0, .ref 0), (1, .int a1)] [] w (sX12_doOther_j164 a1 w) := by
  unfold sX12_doOther_j164
  refine xj_aloadn 0 dX12_doOther_164 rfl rfl ?_
  refine gfX12_320 (v := (w.1 0 36)) dX12_doOther_165 rfl rfl ?_
  refine xj_istore (lv2 := [(4, .int (w.1 0 36)), (0, .ref 0), (1, .int a1)]) dX12_doOther_168 (Nat.le_of_ble_eq_true rfl) rfl ?_
  refine xj_aloadn 1 dX12_doOther_170 rfl rfl ?_
  refine xj_cVi (argv := []) (rest := []) dX12_doOther_171 (kX12_firstOf w) mkX12_firstOf tw2290 rfl rfl rfl rfl rfl rfl (fun x1 w2 => ?_)
  refine xj_istoren (lv2 := [(2, .int x1), (4, .int (w.1 0 36)), (0, .ref 0), (1, .int a1)]) dX12_doOther_174 rfl (Nat.le_of_ble_eq_true rfl) rfl ?_
  refine xj_aloadn 2 dX12_doOther_175 rfl rfl ?_
  refine xj_aloadn 2 dX12_doOther_176 rfl rfl ?_
  refine gfX12_70 (v := (w2.1 0 17)) dX12_doOther_177 rfl rfl ?_
  refine xj_bipush (v := 8) dX12_doOther_180 cb_8 ?_
  refine xj_ine (tgt := 199) dX12_doOther_182 rfl ?_ ?_
  · refine xj_aloadn 2 dX12_doOther_185 rfl rfl ?_
    refine xj_iloadn 0 dX12_doOther_186 rfl rfl ?_
    refine xj_iconst (v := 1) dX12_doOther_187 ci_1 ?_
    refine xj_iconst (v := 0) dX12_doOther_188 ci_0 ?_
    refine xj_aloadn 2 dX12_doOther_189 rfl rfl ?_
    refine gfX12_76 (v := (w2.1 0 20)) dX12_doOther_190 rfl rfl ?_
    refine xj_cVi (argv := [.int x1, .int (1 : Int32), .int (0 : Int32), .int (w2.1 0 20)]) (rest := [.ref 0]) dX12_doOther_193 (kX12_sum x1 (1 : Int32) (0 : Int32) (w2.1 0 20) w2) mkX12_sum tw2314 rfl rfl rfl rfl rfl rfl (fun x5 w6 => ?_)
    refine xj_goto (tgt := 210) dX12_doOther_196 rfl ?_
    refine xj_sub (lv2 := [(0, .ref 0), (1, .int a1), (4, .int (w.1 0 36))]) [2, 3, 1] rfl ?_
    exact tX12_doOther_j210 _ _ _ _
  · refine xj_aloadn 2 dX12_doOther_199 rfl rfl ?_
    refine xj_iloadn 0 dX12_doOther_200 rfl rfl ?_
    refine xj_iconst (v := 1) dX12_doOther_201 ci_1 ?_
    refine xj_iconst (v := 0) dX12_doOther_202 ci_0 ?_
    refine xj_aloadn 2 dX12_doOther_203 rfl rfl ?_
    refine gfX12_76 (v := (w2.1 0 20)) dX12_doOther_204 rfl rfl ?_
    refine xj_cVi (argv := [.int x1, .int (1 : Int32), .int (0 : Int32), .int (w2.1 0 20)]) (rest := [.ref 0]) dX12_doOther_207 (kX12_difference x1 (1 : Int32) (0 : Int32) (w2.1 0 20) w2) mkX12_difference tw2328 rfl rfl rfl rfl rfl rfl (fun x3 w4 => ?_)
    refine xj_sub (lv2 := [(0, .ref 0), (1, .int a1), (4, .int (w.1 0 36))]) [2, 3, 1] rfl ?_
    exact tX12_doOther_j210 _ _ _ _
set_option maxRecDepth 20000 in
def sX12_doOther_j269 (a1 : Int32) (a2 : Int32) (b0 : Int32) (w : xW) : Option (Int32 × xW) :=
  xbd (sX12_setFirst a2 (xwi w 0 46 b0)) (fun _ w1 => some (a1, w1))
set_option maxRecDepth 20000 in
theorem tX12_doOther_j269 (a1 : Int32) (a2 : Int32) (b0 : Int32) (w : xW) : xJ ιI mX12_doOther lM (0, 0) 269 [(0, .ref 0), (1, .int a1), (2, .int a2)] [.int b0, .ref 0] w (sX12_doOther_j269 a1 a2 b0 w) := by
  unfold sX12_doOther_j269
  refine pfX12_288 dX12_doOther_269 rfl ?_
  refine xj_aloadn 0 dX12_doOther_272 rfl rfl ?_
  refine xj_iloadn 2 dX12_doOther_273 rfl rfl ?_
  refine xj_cVv (argv := [.int a2]) (rest := []) dX12_doOther_274 (kX12_setFirst a2 (xwi w 0 46 b0)) mkX12_setFirst tw2332 rfl rfl rfl rfl rfl rfl (fun _ w1 => ?_)
  refine xj_iloadn 1 dX12_doOther_277 rfl rfl ?_
  exact xj_ri dX12_doOther_278 rfl
set_option maxRecDepth 20000 in
def sX12_doOther_j311 (a1 : Int32) (a2 : Int32) (b0 : Int64) (w : xW) : Option (Int32 × xW) :=
  xbd (sX12_product b0 a2.toInt64 w) (fun _ w1 => some (a1, w1))
set_option maxRecDepth 20000 in
theorem tX12_doOther_j311 (a1 : Int32) (a2 : Int32) (b0 : Int64) (w : xW) : xJ ιI mX12_doOther lM (0, 0) 311 [(1, .int a1), (2, .int a2)] [.long b0, .ref 0] w (sX12_doOther_j311 a1 a2 b0 w) := by
  unfold sX12_doOther_j311
  refine xj_iloadn 1 dX12_doOther_311 rfl rfl ?_
  refine xj_i2l dX12_doOther_312 ?_
  refine xj_cVv (argv := [.long b0, .long a2.toInt64]) (rest := []) dX12_doOther_313 (kX12_product b0 a2.toInt64 w) mkX12_product tw2372 rfl rfl rfl rfl rfl rfl (fun _ w1 => ?_)
  refine xj_iloadn 0 dX12_doOther_316 rfl rfl ?_
  exact xj_ri dX12_doOther_317 rfl
set_option maxRecDepth 20000 in
def sX12_doOther_j514 (a1 : Int32) (b0 : Int32) (w : xW) : Option (Int32 × xW) :=
  (if (w.1 0 18) = (4 : Int32) then xbd (sX12_setE (w.1 0 29) (xwi w 0 46 b0)) (fun _ w4 => some (a1, w4)) else xbd (sX12_part (w.1 0 23) (w.1 0 20) (xwi w 0 46 b0)) (fun x1 w2 => xbd (sX12_setE x1 w2) (fun _ w3 => some (a1, w3))))
set_option maxRecDepth 20000 in
theorem tX12_doOther_j514 (a1 : Int32) (b0 : Int32) (w : xW) : xJ ιI mX12_doOther lM (0, 0) 514 [(0, .ref 0), (1, .int a1)] [.int b0, .ref 0] w (sX12_doOther_j514 a1 b0 w) := by
  unfold sX12_doOther_j514
  refine pfX12_288 dX12_doOther_514 rfl ?_
  refine xj_aloadn 0 dX12_doOther_517 rfl rfl ?_
  refine xj_aloadn 0 dX12_doOther_518 rfl rfl ?_
  refine gfX12_73 (v := (w.1 0 18)) dX12_doOther_519 rfl rfl ?_
  refine xj_iconst (v := 4) dX12_doOther_522 ci_4 ?_
  refine xj_ine (tgt := 533) dX12_doOther_523 rfl ?_ ?_
  · refine xj_aloadn 0 dX12_doOther_526 rfl rfl ?_
    refine gfX12_109 (v := (w.1 0 29)) dX12_doOther_527 rfl rfl ?_
    refine xj_goto (tgt := 545) dX12_doOther_530 rfl ?_
    refine xj_cVv (argv := [.int (w.1 0 29)]) (rest := []) dX12_doOther_545 (kX12_setE (w.1 0 29) (xwi w 0 46 b0)) mkX12_setE tw2342 rfl rfl rfl rfl rfl rfl (fun _ w4 => ?_)
    refine xj_iloadn 1 dX12_doOther_548 rfl rfl ?_
    exact xj_ri dX12_doOther_549 rfl
  · refine xj_aloadn 0 dX12_doOther_533 rfl rfl ?_
    refine xj_aloadn 0 dX12_doOther_534 rfl rfl ?_
    refine gfX12_85 (v := (w.1 0 23)) dX12_doOther_535 rfl rfl ?_
    refine xj_aloadn 0 dX12_doOther_538 rfl rfl ?_
    refine gfX12_76 (v := (w.1 0 20)) dX12_doOther_539 rfl rfl ?_
    refine xj_cVi (argv := [.int (w.1 0 23), .int (w.1 0 20)]) (rest := [.ref 0]) dX12_doOther_542 (kX12_part (w.1 0 23) (w.1 0 20) (xwi w 0 46 b0)) mkX12_part tw2294 rfl rfl rfl rfl rfl rfl (fun x1 w2 => ?_)
    refine xj_cVv (argv := [.int x1]) (rest := []) dX12_doOther_545 (kX12_setE x1 w2) mkX12_setE tw2342 rfl rfl rfl rfl rfl rfl (fun _ w3 => ?_)
    refine xj_iloadn 1 dX12_doOther_548 rfl rfl ?_
    exact xj_ri dX12_doOther_549 rfl
set_option maxRecDepth 20000 in
def sX12_doOther_j703 (a1 : Int32) (w : xW) : Option (Int32 × xW) :=
  (if (w.1 0 17) = (35 : Int32) then some (a1, (xwi w 0 36 (1 : Int32))) else some (a1, (xwi w 0 36 (0 : Int32))))
set_option maxRecDepth 20000 in
theorem tX12_doOther_j703 (a1 : Int32) (w : xW) : xJ ιI mX12_doOther lM (0, 0) 703 [(0, .ref 0), (1, .int a1)] [] w (sX12_doOther_j703 a1 w) := by
  unfold sX12_doOther_j703
  refine xj_aloadn 0 dX12_doOther_703 rfl rfl ?_
  refine xj_aloadn 0 dX12_doOther_704 rfl rfl ?_
  refine gfX12_70 (v := (w.1 0 17)) dX12_doOther_705 rfl rfl ?_
  refine xj_bipush (v := 35) dX12_doOther_708 cb_35 ?_
  refine xj_ine (tgt := 717) dX12_doOther_710 rfl ?_ ?_
  · refine xj_iconst (v := 1) dX12_doOther_713 ci_1 ?_
    refine xj_goto (tgt := 718) dX12_doOther_714 rfl ?_
    refine pfX12_320 dX12_doOther_718 rfl (Or.inr rfl) ?_
    refine xj_iloadn 1 dX12_doOther_721 rfl rfl ?_
    exact xj_ri dX12_doOther_722 rfl
  · refine xj_iconst (v := 0) dX12_doOther_717 ci_0 ?_
    refine pfX12_320 dX12_doOther_718 rfl (Or.inl rfl) ?_
    refine xj_iloadn 1 dX12_doOther_721 rfl rfl ?_
    exact xj_ri dX12_doOther_722 rfl
set_option maxRecDepth 20000 in
def sX12_doOther (p1 : Int32) (w : xW) : Option (Int32 × xW) :=
  xsw (w.1 0 17) (8) [sX12_doOther_j164 p1 w, sX12_doOther_j164 p1 w, (if (w.1 0 18) = (7 : Int32) then xbd (sX12_push (w.1 0 29) w) (fun _ w6 => some (p1, w6)) else xbd (sX12_firstOf w) (fun x3 w4 => xbd (sX12_push x3 w4) (fun _ w5 => some (p1, w5)))), xbd (sX12_pop w) (fun x7 w8 => (if (w8.1 0 22) = (3 : Int32) then sX12_doOther_j269 p1 x7 (0 : Int32) w8 else xbd (sX12_address w8) (fun x9 w10 => sX12_doOther_j269 p1 x7 x9 w10))), xbd (sX12_getE w) (fun x11 w12 => (if (w12.1 0 18) = (2 : Int32) then (if xin (w12.1 0 23) 8 then sX12_doOther_j311 p1 x11 ((w12.1 9 ((w12.1 0 23).toNatClampNeg)).toInt64) w12 else none) else sX12_doOther_j311 p1 x11 ((w12.1 0 29).toInt64) w12)), xbd (sX12_holds (w.1 0 19) w) (fun x13 w14 => (if x13 = 0 then some (p1, w14) else some ((w14.1 0 29), w14))), xbd (sX12_firstOf w) (fun x15 w16 => xbd (sX12_secondOf w16) (fun x17 w18 => xbd (sX12_eight (4 : Int32) x15 x17 (w18.1 0 20) w18) (fun x19 w20 => some (p1, w20)))), (if (w.1 0 18) = (14 : Int32) then (if xin (0 : Int32) 8 then xlet (w.1 9 ((0 : Int32).toNatClampNeg)) (fun x27 => (if xin (w.1 0 24) 8 then (if xin (0 : Int32) 8 then (if xin (w.1 0 24) 8 then some (p1, (xwi (xwi w 9 ((0 : Int32).toNatClampNeg) (w.1 9 ((w.1 0 24).toNatClampNeg))) 9 ((w.1 0 24).toNatClampNeg) x27)) else none) else none) else none)) else none) else xbd (sX12_getE w) (fun x21 w22 => xbd (sX12_part (w22.1 0 23) (w22.1 0 20) w22) (fun x23 w24 => xbd (sX12_setE x23 w24) (fun _ w25 => xbd (sX12_setRegister (w25.1 0 23) (w25.1 0 20) x21 w25) (fun _ w26 => some (p1, w26)))))), (if (w.1 0 18) = (13 : Int32) then xbd (sX12_setRegister (w.1 0 24) (w.1 0 20) (w.1 0 29) w) (fun _ w33 => some (p1, w33)) else (if (w.1 0 18) = (2 : Int32) then xbd (sX12_getE w) (fun x30 w31 => xbd (sX12_setRegister (w.1 0 23) (w.1 0 20) x30 w31) (fun _ w32 => some (p1, w32))) else (if (w.1 0 22) = (3 : Int32) then sX12_doOther_j514 p1 (0 : Int32) w else xbd (sX12_address w) (fun x28 w29 => sX12_doOther_j514 p1 x28 w29)))), xbd (sX12_address w) (fun x34 w35 => (if xin (w.1 0 23) 8 then some (p1, (xwi w35 9 ((w.1 0 23).toNatClampNeg) x34)) else none)), xbd (sX12_doRest p1 w) (fun x36 w37 => some (x36, w37)), (if xin (0 : Int32) 8 then (if xin (0 : Int32) 8 then some (p1, (xwi w 9 ((0 : Int32).toNatClampNeg) ((w.1 9 ((0 : Int32).toNatClampNeg)).toInt16.toInt32))) else none) else none), (if xin (0 : Int32) 8 then (if xin (2 : Int32) 8 then some (p1, (xwi w 9 ((2 : Int32).toNatClampNeg) ((w.1 9 ((0 : Int32).toNatClampNeg)) >>> ((31 : Int32) &&& 31)))) else none) else none), xbd (sX12_doRest p1 w) (fun x38 w39 => some (x38, w39)), xbd (sX12_doRest p1 w) (fun x40 w41 => some (x40, w41)), xbd (sX12_doRest p1 w) (fun x42 w43 => some (x42, w43)), xbd (sX12_doRest p1 w) (fun x44 w45 => some (x44, w45)), xbd (sX12_doRest p1 w) (fun x46 w47 => some (x46, w47)), xbd (sX12_doRest p1 w) (fun x48 w49 => some (x48, w49)), xbd (sX12_doRest p1 w) (fun x50 w51 => some (x50, w51)), (if xin (1 : Int32) 8 then (if xin (1 : Int32) 8 then (if xin (1 : Int32) 8 then (if ((w.1 9 ((1 : Int32).toNatClampNeg)) - (1 : Int32)) = 0 then some (p1, (xwi w 9 ((1 : Int32).toNatClampNeg) ((w.1 9 ((1 : Int32).toNatClampNeg)) - (1 : Int32)))) else some ((w.1 0 29), (xwi w 9 ((1 : Int32).toNatClampNeg) ((w.1 9 ((1 : Int32).toNatClampNeg)) - (1 : Int32))))) else none) else none) else none), (if xin (1 : Int32) 8 then (if (w.1 9 ((1 : Int32).toNatClampNeg)) = 0 then some ((w.1 0 29), w) else some (p1, w)) else none), xbd (sX12_push p1 w) (fun _ w52 => some ((w52.1 0 29), w52)), some ((w.1 0 29), w), xbd (sX12_doRest p1 w) (fun x53 w54 => some (x53, w54)), (if (w.1 0 36) = 0 then some (p1, (xwi w 0 36 (1 : Int32))) else some (p1, (xwi w 0 36 (0 : Int32)))), sX12_doOther_j703 p1 w, sX12_doOther_j703 p1 w, xbd (sX12_getE w) (fun x55 w56 => xbd (sX12_setE (x55 ^^^ (-1 : Int32)) w56) (fun _ w57 => some (p1, w57))), xbd (sX12_getE w) (fun x58 w59 => xbd (sX12_difference (0 : Int32) x58 (0 : Int32) (w59.1 0 20) w59) (fun x60 w61 => xbd (sX12_setE x60 w61) (fun _ w62 => some (p1, w62)))), xbd (sX12_wholeProduct w) (fun _ w63 => some (p1, w63)), xbd (sX12_wholeProduct w) (fun _ w64 => some (p1, w64)), xbd (sX12_quotient w) (fun _ w65 => some (p1, w65)), xbd (sX12_quotient w) (fun _ w66 => some (p1, w66)), (if xin (w.1 0 24) 8 then xlet (w.1 9 ((w.1 0 24).toNatClampNeg)) (fun x67 => xbd (sX12_push p1 w) (fun _ w68 => some (x67, w68))) else none), (if xin (w.1 0 24) 8 then some ((w.1 9 ((w.1 0 24).toNatClampNeg)), w) else none)] (xbd (sX12_doRest p1 w) (fun x1 w2 => some (x1, w2)))
set_option maxRecDepth 20000 in
theorem tX12_doOther (p1 : Int32) (w : xW) : xJ ιI mX12_doOther lM (0, 0) 0 [(0, .ref 0), (1, .int p1)] [] w (sX12_doOther p1 w) := by
  unfold sX12_doOther
  refine xj_aloadn 0 dX12_doOther_0 rfl rfl ?_
  refine gfX12_70 (v := (w.1 0 17)) dX12_doOther_1 rfl rfl ?_
  refine xj_tsw (tgtd := 771) [164, 164, 221, 247, 279, 318, 338, 360, 442, 550, 771, 565, 580, 771, 771, 771, 771, 771, 771, 771, 597, 625, 643, 653, 771, 685, 703, 703, 723, 737, 759, 759, 765, 765, 658, 675] dX12_doOther_4 rfl rfl rfl rfl ?_ ⟨?_, ?_, ?_, ?_, ?_, ?_, ?_, ?_, ?_, ?_, ?_, ?_, ?_, ?_, ?_, ?_, ?_, ?_, ?_, ?_, ?_, ?_, ?_, ?_, ?_, ?_, ?_, ?_, ?_, ?_, ?_, ?_, ?_, ?_, ?_, ?_, trivial⟩
  · refine xj_aloadn 0 dX12_doOther_771 rfl rfl ?_
    refine xj_iloadn 1 dX12_doOther_772 rfl rfl ?_
    refine xj_cVi (argv := [.int p1]) (rest := []) dX12_doOther_773 (kX12_doRest p1 w) mkX12_doRest tw2392 rfl rfl rfl rfl rfl rfl (fun x1 w2 => ?_)
    exact xj_ri dX12_doOther_776 rfl
  · exact tX12_doOther_j164 _ _
  · exact tX12_doOther_j164 _ _
  · refine xj_aloadn 0 dX12_doOther_221 rfl rfl ?_
    refine xj_aloadn 0 dX12_doOther_222 rfl rfl ?_
    refine gfX12_73 (v := (w.1 0 18)) dX12_doOther_223 rfl rfl ?_
    refine xj_bipush (v := 7) dX12_doOther_226 cb_7 ?_
    refine xj_ine (tgt := 238) dX12_doOther_228 rfl ?_ ?_
    · refine xj_aloadn 0 dX12_doOther_231 rfl rfl ?_
      refine gfX12_109 (v := (w.1 0 29)) dX12_doOther_232 rfl rfl ?_
      refine xj_goto (tgt := 242) dX12_doOther_235 rfl ?_
      refine xj_cVv (argv := [.int (w.1 0 29)]) (rest := []) dX12_doOther_242 (kX12_push (w.1 0 29) w) mkX12_push tw2364 rfl rfl rfl rfl rfl rfl (fun _ w6 => ?_)
      refine xj_iloadn 1 dX12_doOther_245 rfl rfl ?_
      exact xj_ri dX12_doOther_246 rfl
    · refine xj_aloadn 0 dX12_doOther_238 rfl rfl ?_
      refine xj_cVi (argv := []) (rest := [.ref 0]) dX12_doOther_239 (kX12_firstOf w) mkX12_firstOf tw2290 rfl rfl rfl rfl rfl rfl (fun x3 w4 => ?_)
      refine xj_cVv (argv := [.int x3]) (rest := []) dX12_doOther_242 (kX12_push x3 w4) mkX12_push tw2364 rfl rfl rfl rfl rfl rfl (fun _ w5 => ?_)
      refine xj_iloadn 1 dX12_doOther_245 rfl rfl ?_
      exact xj_ri dX12_doOther_246 rfl
  · refine xj_aloadn 0 dX12_doOther_247 rfl rfl ?_
    refine xj_cVi (argv := []) (rest := []) dX12_doOther_248 (kX12_pop w) mkX12_pop tw2368 rfl rfl rfl rfl rfl rfl (fun x7 w8 => ?_)
    refine xj_istoren (lv2 := [(2, .int x7), (0, .ref 0), (1, .int p1)]) dX12_doOther_251 rfl (Nat.le_of_ble_eq_true rfl) rfl ?_
    refine xj_aloadn 1 dX12_doOther_252 rfl rfl ?_
    refine xj_aloadn 1 dX12_doOther_253 rfl rfl ?_
    refine gfX12_82 (v := (w8.1 0 22)) dX12_doOther_254 rfl rfl ?_
    refine xj_iconst (v := 3) dX12_doOther_257 ci_3 ?_
    refine xj_ine (tgt := 265) dX12_doOther_258 rfl ?_ ?_
    · refine xj_iconst (v := 0) dX12_doOther_261 ci_0 ?_
      refine xj_goto (tgt := 269) dX12_doOther_262 rfl ?_
      refine xj_sub (lv2 := [(0, .ref 0), (1, .int p1), (2, .int x7)]) [1, 2, 0] rfl ?_
      exact tX12_doOther_j269 _ _ _ _
    · refine xj_aloadn 1 dX12_doOther_265 rfl rfl ?_
      refine xj_cVi (argv := []) (rest := [.ref 0]) dX12_doOther_266 (kX12_address w8) mkX12_address tw2302 rfl rfl rfl rfl rfl rfl (fun x9 w10 => ?_)
      refine xj_sub (lv2 := [(0, .ref 0), (1, .int p1), (2, .int x7)]) [1, 2, 0] rfl ?_
      exact tX12_doOther_j269 _ _ _ _
  · refine xj_aloadn 0 dX12_doOther_279 rfl rfl ?_
    refine xj_cVi (argv := []) (rest := []) dX12_doOther_280 (kX12_getE w) mkX12_getE tw2298 rfl rfl rfl rfl rfl rfl (fun x11 w12 => ?_)
    refine xj_istoren (lv2 := [(2, .int x11), (0, .ref 0), (1, .int p1)]) dX12_doOther_283 rfl (Nat.le_of_ble_eq_true rfl) rfl ?_
    refine xj_aloadn 1 dX12_doOther_284 rfl rfl ?_
    refine xj_aloadn 1 dX12_doOther_285 rfl rfl ?_
    refine gfX12_73 (v := (w12.1 0 18)) dX12_doOther_286 rfl rfl ?_
    refine xj_iconst (v := 2) dX12_doOther_289 ci_2 ?_
    refine xj_ine (tgt := 306) dX12_doOther_290 rfl ?_ ?_
    · refine xj_aloadn 1 dX12_doOther_293 rfl rfl ?_
      refine gfX12_44 dX12_doOther_294 rfl ?_
      refine xj_aloadn 1 dX12_doOther_297 rfl rfl ?_
      refine gfX12_85 (v := (w12.1 0 23)) dX12_doOther_298 rfl rfl ?_
      refine xj_iald (k := 9) dX12_doOther_301 rfl ?_
      refine xj_i2l dX12_doOther_302 ?_
      refine xj_goto (tgt := 311) dX12_doOther_303 rfl ?_
      refine xj_sub (lv2 := [(1, .int p1), (2, .int x11)]) [2, 0] rfl ?_
      exact tX12_doOther_j311 _ _ _ _
    · refine xj_aloadn 1 dX12_doOther_306 rfl rfl ?_
      refine gfX12_109 (v := (w12.1 0 29)) dX12_doOther_307 rfl rfl ?_
      refine xj_i2l dX12_doOther_310 ?_
      refine xj_sub (lv2 := [(1, .int p1), (2, .int x11)]) [2, 0] rfl ?_
      exact tX12_doOther_j311 _ _ _ _
  · refine xj_aloadn 0 dX12_doOther_318 rfl rfl ?_
    refine xj_aloadn 0 dX12_doOther_319 rfl rfl ?_
    refine gfX12_115 (v := (w.1 0 19)) dX12_doOther_320 rfl rfl ?_
    refine xj_cVi (argv := [.int (w.1 0 19)]) (rest := []) dX12_doOther_323 (kX12_holds (w.1 0 19) w) mkX12_holds tw2376 rfl rfl rfl rfl rfl rfl (fun x13 w14 => ?_)
    refine xj_ifeq (tgt := 336) dX12_doOther_326 rfl ?_ ?_
    · refine xj_iloadn 1 dX12_doOther_336 rfl rfl ?_
      exact xj_ri dX12_doOther_337 rfl
    · refine xj_aloadn 0 dX12_doOther_329 rfl rfl ?_
      refine gfX12_109 (v := (w14.1 0 29)) dX12_doOther_330 rfl rfl ?_
      refine xj_goto (tgt := 337) dX12_doOther_333 rfl ?_
      exact xj_ri dX12_doOther_337 rfl
  · refine xj_aloadn 0 dX12_doOther_338 rfl rfl ?_
    refine xj_cVi (argv := []) (rest := []) dX12_doOther_339 (kX12_firstOf w) mkX12_firstOf tw2290 rfl rfl rfl rfl rfl rfl (fun x15 w16 => ?_)
    refine xj_istoren (lv2 := [(2, .int x15), (0, .ref 0), (1, .int p1)]) dX12_doOther_342 rfl (Nat.le_of_ble_eq_true rfl) rfl ?_
    refine xj_aloadn 1 dX12_doOther_343 rfl rfl ?_
    refine xj_iconst (v := 4) dX12_doOther_344 ci_4 ?_
    refine xj_iloadn 0 dX12_doOther_345 rfl rfl ?_
    refine xj_aloadn 1 dX12_doOther_346 rfl rfl ?_
    refine xj_cVi (argv := []) (rest := [.int x15, .int (4 : Int32), .ref 0]) dX12_doOther_347 (kX12_secondOf w16) mkX12_secondOf tw2306 rfl rfl rfl rfl rfl rfl (fun x17 w18 => ?_)
    refine xj_aloadn 1 dX12_doOther_350 rfl rfl ?_
    refine gfX12_76 (v := (w18.1 0 20)) dX12_doOther_351 rfl rfl ?_
    refine xj_cVi (argv := [.int (4 : Int32), .int x15, .int x17, .int (w18.1 0 20)]) (rest := []) dX12_doOther_354 (kX12_eight (4 : Int32) x15 x17 (w18.1 0 20) w18) mkX12_eight tw2310 rfl rfl rfl rfl rfl rfl (fun x19 w20 => ?_)
    refine xj_istoren (lv2 := [(2, .int x19), (0, .ref 0), (1, .int p1)]) dX12_doOther_357 rfl (Nat.le_of_ble_eq_true rfl) rfl ?_
    refine xj_iloadn 2 dX12_doOther_358 rfl rfl ?_
    exact xj_ri dX12_doOther_359 rfl
  · refine xj_aloadn 0 dX12_doOther_360 rfl rfl ?_
    refine gfX12_73 (v := (w.1 0 18)) dX12_doOther_361 rfl rfl ?_
    refine xj_bipush (v := 14) dX12_doOther_364 cb_14 ?_
    refine xj_ine (tgt := 404) dX12_doOther_366 rfl ?_ ?_
    · refine xj_aloadn 0 dX12_doOther_369 rfl rfl ?_
      refine gfX12_44 dX12_doOther_370 rfl ?_
      refine xj_iconst (v := 0) dX12_doOther_373 ci_0 ?_
      refine xj_iald (k := 9) dX12_doOther_374 rfl ?_
      refine xj_leti (fun x27 => ?_)
      refine xj_istoren (lv2 := [(2, .int x27), (0, .ref 0), (1, .int p1)]) dX12_doOther_375 rfl (Nat.le_of_ble_eq_true rfl) rfl ?_
      refine xj_aloadn 1 dX12_doOther_376 rfl rfl ?_
      refine gfX12_44 dX12_doOther_377 rfl ?_
      refine xj_iconst (v := 0) dX12_doOther_380 ci_0 ?_
      refine xj_aloadn 1 dX12_doOther_381 rfl rfl ?_
      refine gfX12_44 dX12_doOther_382 rfl ?_
      refine xj_aloadn 1 dX12_doOther_385 rfl rfl ?_
      refine gfX12_88 (v := (w.1 0 24)) dX12_doOther_386 rfl rfl ?_
      refine xj_iald (k := 9) dX12_doOther_389 rfl ?_
      refine xj_iast (k := 9) dX12_doOther_390 rfl ?_
      refine xj_aloadn 1 dX12_doOther_391 rfl rfl ?_
      refine gfX12_44 dX12_doOther_392 rfl ?_
      refine xj_aloadn 1 dX12_doOther_395 rfl rfl ?_
      refine gfX12_88 (v := (w.1 0 24)) dX12_doOther_396 rfl rfl ?_
      refine xj_iloadn 0 dX12_doOther_399 rfl rfl ?_
      refine xj_iast (k := 9) dX12_doOther_400 rfl ?_
      refine xj_goto (tgt := 440) dX12_doOther_401 rfl ?_
      refine xj_iloadn 2 dX12_doOther_440 rfl rfl ?_
      exact xj_ri dX12_doOther_441 rfl
    · refine xj_aloadn 0 dX12_doOther_404 rfl rfl ?_
      refine xj_cVi (argv := []) (rest := []) dX12_doOther_405 (kX12_getE w) mkX12_getE tw2298 rfl rfl rfl rfl rfl rfl (fun x21 w22 => ?_)
      refine xj_istoren (lv2 := [(2, .int x21), (0, .ref 0), (1, .int p1)]) dX12_doOther_408 rfl (Nat.le_of_ble_eq_true rfl) rfl ?_
      refine xj_aloadn 1 dX12_doOther_409 rfl rfl ?_
      refine xj_aloadn 1 dX12_doOther_410 rfl rfl ?_
      refine gfX12_85 (v := (w22.1 0 23)) dX12_doOther_411 rfl rfl ?_
      refine xj_aloadn 1 dX12_doOther_414 rfl rfl ?_
      refine gfX12_76 (v := (w22.1 0 20)) dX12_doOther_415 rfl rfl ?_
      refine xj_cVi (argv := [.int (w22.1 0 23), .int (w22.1 0 20)]) (rest := []) dX12_doOther_418 (kX12_part (w22.1 0 23) (w22.1 0 20) w22) mkX12_part tw2294 rfl rfl rfl rfl rfl rfl (fun x23 w24 => ?_)
      refine xj_istoren (lv2 := [(3, .int x23), (2, .int x21), (0, .ref 0), (1, .int p1)]) dX12_doOther_421 rfl (Nat.le_of_ble_eq_true rfl) rfl ?_
      refine xj_aloadn 2 dX12_doOther_422 rfl rfl ?_
      refine xj_iloadn 0 dX12_doOther_423 rfl rfl ?_
      refine xj_cVv (argv := [.int x23]) (rest := []) dX12_doOther_424 (kX12_setE x23 w24) mkX12_setE tw2342 rfl rfl rfl rfl rfl rfl (fun _ w25 => ?_)
      refine xj_aloadn 2 dX12_doOther_427 rfl rfl ?_
      refine xj_aloadn 2 dX12_doOther_428 rfl rfl ?_
      refine gfX12_85 (v := (w25.1 0 23)) dX12_doOther_429 rfl rfl ?_
      refine xj_aloadn 2 dX12_doOther_432 rfl rfl ?_
      refine gfX12_76 (v := (w25.1 0 20)) dX12_doOther_433 rfl rfl ?_
      refine xj_iloadn 1 dX12_doOther_436 rfl rfl ?_
      refine xj_cVv (argv := [.int (w25.1 0 23), .int (w25.1 0 20), .int x21]) (rest := []) dX12_doOther_437 (kX12_setRegister (w25.1 0 23) (w25.1 0 20) x21 w25) mkX12_setRegister tw2336 rfl rfl rfl rfl rfl rfl (fun _ w26 => ?_)
      refine xj_iloadn 3 dX12_doOther_440 rfl rfl ?_
      exact xj_ri dX12_doOther_441 rfl
  · refine xj_aloadn 0 dX12_doOther_442 rfl rfl ?_
    refine gfX12_73 (v := (w.1 0 18)) dX12_doOther_443 rfl rfl ?_
    refine xj_bipush (v := 13) dX12_doOther_446 cb_13 ?_
    refine xj_ine (tgt := 470) dX12_doOther_448 rfl ?_ ?_
    · refine xj_aloadn 0 dX12_doOther_451 rfl rfl ?_
      refine xj_aloadn 0 dX12_doOther_452 rfl rfl ?_
      refine gfX12_88 (v := (w.1 0 24)) dX12_doOther_453 rfl rfl ?_
      refine xj_aloadn 0 dX12_doOther_456 rfl rfl ?_
      refine gfX12_76 (v := (w.1 0 20)) dX12_doOther_457 rfl rfl ?_
      refine xj_aloadn 0 dX12_doOther_460 rfl rfl ?_
      refine gfX12_109 (v := (w.1 0 29)) dX12_doOther_461 rfl rfl ?_
      refine xj_cVv (argv := [.int (w.1 0 24), .int (w.1 0 20), .int (w.1 0 29)]) (rest := []) dX12_doOther_464 (kX12_setRegister (w.1 0 24) (w.1 0 20) (w.1 0 29) w) mkX12_setRegister tw2336 rfl rfl rfl rfl rfl rfl (fun _ w33 => ?_)
      refine xj_goto (tgt := 548) dX12_doOther_467 rfl ?_
      refine xj_iloadn 1 dX12_doOther_548 rfl rfl ?_
      exact xj_ri dX12_doOther_549 rfl
    · refine xj_aloadn 0 dX12_doOther_470 rfl rfl ?_
      refine gfX12_73 (v := (w.1 0 18)) dX12_doOther_471 rfl rfl ?_
      refine xj_iconst (v := 2) dX12_doOther_474 ci_2 ?_
      refine xj_ine (tgt := 497) dX12_doOther_475 rfl ?_ ?_
      · refine xj_aloadn 0 dX12_doOther_478 rfl rfl ?_
        refine xj_aloadn 0 dX12_doOther_479 rfl rfl ?_
        refine gfX12_85 (v := (w.1 0 23)) dX12_doOther_480 rfl rfl ?_
        refine xj_aloadn 0 dX12_doOther_483 rfl rfl ?_
        refine gfX12_76 (v := (w.1 0 20)) dX12_doOther_484 rfl rfl ?_
        refine xj_aloadn 0 dX12_doOther_487 rfl rfl ?_
        refine xj_cVi (argv := []) (rest := [.int (w.1 0 20), .int (w.1 0 23), .ref 0]) dX12_doOther_488 (kX12_getE w) mkX12_getE tw2298 rfl rfl rfl rfl rfl rfl (fun x30 w31 => ?_)
        refine xj_cVv (argv := [.int (w.1 0 23), .int (w.1 0 20), .int x30]) (rest := []) dX12_doOther_491 (kX12_setRegister (w.1 0 23) (w.1 0 20) x30 w31) mkX12_setRegister tw2336 rfl rfl rfl rfl rfl rfl (fun _ w32 => ?_)
        refine xj_goto (tgt := 548) dX12_doOther_494 rfl ?_
        refine xj_iloadn 1 dX12_doOther_548 rfl rfl ?_
        exact xj_ri dX12_doOther_549 rfl
      · refine xj_aloadn 0 dX12_doOther_497 rfl rfl ?_
        refine xj_aloadn 0 dX12_doOther_498 rfl rfl ?_
        refine gfX12_82 (v := (w.1 0 22)) dX12_doOther_499 rfl rfl ?_
        refine xj_iconst (v := 3) dX12_doOther_502 ci_3 ?_
        refine xj_ine (tgt := 510) dX12_doOther_503 rfl ?_ ?_
        · refine xj_iconst (v := 0) dX12_doOther_506 ci_0 ?_
          refine xj_goto (tgt := 514) dX12_doOther_507 rfl ?_
          exact tX12_doOther_j514 _ _ _
        · refine xj_aloadn 0 dX12_doOther_510 rfl rfl ?_
          refine xj_cVi (argv := []) (rest := [.ref 0]) dX12_doOther_511 (kX12_address w) mkX12_address tw2302 rfl rfl rfl rfl rfl rfl (fun x28 w29 => ?_)
          exact tX12_doOther_j514 _ _ _
  · refine xj_aloadn 0 dX12_doOther_550 rfl rfl ?_
    refine gfX12_44 dX12_doOther_551 rfl ?_
    refine xj_aloadn 0 dX12_doOther_554 rfl rfl ?_
    refine gfX12_85 (v := (w.1 0 23)) dX12_doOther_555 rfl rfl ?_
    refine xj_aloadn 0 dX12_doOther_558 rfl rfl ?_
    refine xj_cVi (argv := []) (rest := [.int (w.1 0 23), .ref 9]) dX12_doOther_559 (kX12_address w) mkX12_address tw2302 rfl rfl rfl rfl rfl rfl (fun x34 w35 => ?_)
    refine xj_iast (k := 9) dX12_doOther_562 rfl ?_
    refine xj_iloadn 1 dX12_doOther_563 rfl rfl ?_
    exact xj_ri dX12_doOther_564 rfl
  · refine xj_aloadn 0 dX12_doOther_771 rfl rfl ?_
    refine xj_iloadn 1 dX12_doOther_772 rfl rfl ?_
    refine xj_cVi (argv := [.int p1]) (rest := []) dX12_doOther_773 (kX12_doRest p1 w) mkX12_doRest tw2392 rfl rfl rfl rfl rfl rfl (fun x36 w37 => ?_)
    exact xj_ri dX12_doOther_776 rfl
  · refine xj_aloadn 0 dX12_doOther_565 rfl rfl ?_
    refine gfX12_44 dX12_doOther_566 rfl ?_
    refine xj_iconst (v := 0) dX12_doOther_569 ci_0 ?_
    refine xj_aloadn 0 dX12_doOther_570 rfl rfl ?_
    refine gfX12_44 dX12_doOther_571 rfl ?_
    refine xj_iconst (v := 0) dX12_doOther_574 ci_0 ?_
    refine xj_iald (k := 9) dX12_doOther_575 rfl ?_
    refine xj_i2s dX12_doOther_576 ?_
    refine xj_iast (k := 9) dX12_doOther_577 rfl ?_
    refine xj_iloadn 1 dX12_doOther_578 rfl rfl ?_
    exact xj_ri dX12_doOther_579 rfl
  · refine xj_aloadn 0 dX12_doOther_580 rfl rfl ?_
    refine gfX12_44 dX12_doOther_581 rfl ?_
    refine xj_iconst (v := 2) dX12_doOther_584 ci_2 ?_
    refine xj_aloadn 0 dX12_doOther_585 rfl rfl ?_
    refine gfX12_44 dX12_doOther_586 rfl ?_
    refine xj_iconst (v := 0) dX12_doOther_589 ci_0 ?_
    refine xj_iald (k := 9) dX12_doOther_590 rfl ?_
    refine xj_bipush (v := 31) dX12_doOther_591 cb_31 ?_
    refine xj_ishr dX12_doOther_593 ?_
    refine xj_iast (k := 9) dX12_doOther_594 rfl ?_
    refine xj_iloadn 1 dX12_doOther_595 rfl rfl ?_
    exact xj_ri dX12_doOther_596 rfl
  · refine xj_aloadn 0 dX12_doOther_771 rfl rfl ?_
    refine xj_iloadn 1 dX12_doOther_772 rfl rfl ?_
    refine xj_cVi (argv := [.int p1]) (rest := []) dX12_doOther_773 (kX12_doRest p1 w) mkX12_doRest tw2392 rfl rfl rfl rfl rfl rfl (fun x38 w39 => ?_)
    exact xj_ri dX12_doOther_776 rfl
  · refine xj_aloadn 0 dX12_doOther_771 rfl rfl ?_
    refine xj_iloadn 1 dX12_doOther_772 rfl rfl ?_
    refine xj_cVi (argv := [.int p1]) (rest := []) dX12_doOther_773 (kX12_doRest p1 w) mkX12_doRest tw2392 rfl rfl rfl rfl rfl rfl (fun x40 w41 => ?_)
    exact xj_ri dX12_doOther_776 rfl
  · refine xj_aloadn 0 dX12_doOther_771 rfl rfl ?_
    refine xj_iloadn 1 dX12_doOther_772 rfl rfl ?_
    refine xj_cVi (argv := [.int p1]) (rest := []) dX12_doOther_773 (kX12_doRest p1 w) mkX12_doRest tw2392 rfl rfl rfl rfl rfl rfl (fun x42 w43 => ?_)
    exact xj_ri dX12_doOther_776 rfl
  · refine xj_aloadn 0 dX12_doOther_771 rfl rfl ?_
    refine xj_iloadn 1 dX12_doOther_772 rfl rfl ?_
    refine xj_cVi (argv := [.int p1]) (rest := []) dX12_doOther_773 (kX12_doRest p1 w) mkX12_doRest tw2392 rfl rfl rfl rfl rfl rfl (fun x44 w45 => ?_)
    exact xj_ri dX12_doOther_776 rfl
  · refine xj_aloadn 0 dX12_doOther_771 rfl rfl ?_
    refine xj_iloadn 1 dX12_doOther_772 rfl rfl ?_
    refine xj_cVi (argv := [.int p1]) (rest := []) dX12_doOther_773 (kX12_doRest p1 w) mkX12_doRest tw2392 rfl rfl rfl rfl rfl rfl (fun x46 w47 => ?_)
    exact xj_ri dX12_doOther_776 rfl
  · refine xj_aloadn 0 dX12_doOther_771 rfl rfl ?_
    refine xj_iloadn 1 dX12_doOther_772 rfl rfl ?_
    refine xj_cVi (argv := [.int p1]) (rest := []) dX12_doOther_773 (kX12_doRest p1 w) mkX12_doRest tw2392 rfl rfl rfl rfl rfl rfl (fun x48 w49 => ?_)
    exact xj_ri dX12_doOther_776 rfl
  · refine xj_aloadn 0 dX12_doOther_771 rfl rfl ?_
    refine xj_iloadn 1 dX12_doOther_772 rfl rfl ?_
    refine xj_cVi (argv := [.int p1]) (rest := []) dX12_doOther_773 (kX12_doRest p1 w) mkX12_doRest tw2392 rfl rfl rfl rfl rfl rfl (fun x50 w51 => ?_)
    exact xj_ri dX12_doOther_776 rfl
  · refine xj_aloadn 0 dX12_doOther_597 rfl rfl ?_
    refine gfX12_44 dX12_doOther_598 rfl ?_
    refine xj_iconst (v := 1) dX12_doOther_601 ci_1 ?_
    refine xj_dup2 dX12_doOther_602 rfl rfl ?_
    refine xj_iald (k := 9) dX12_doOther_603 rfl ?_
    refine xj_iconst (v := 1) dX12_doOther_604 ci_1 ?_
    refine xj_isub dX12_doOther_605 ?_
    refine xj_iast (k := 9) dX12_doOther_606 rfl ?_
    refine xj_aloadn 0 dX12_doOther_607 rfl rfl ?_
    refine gfX12_44 dX12_doOther_608 rfl ?_
    refine xj_iconst (v := 1) dX12_doOther_611 ci_1 ?_
    refine xj_iald (k := 9) dX12_doOther_612 rfl ?_
    refine xj_ifeq (tgt := 623) dX12_doOther_613 rfl ?_ ?_
    · refine xj_iloadn 1 dX12_doOther_623 rfl rfl ?_
      exact xj_ri dX12_doOther_624 rfl
    · refine xj_aloadn 0 dX12_doOther_616 rfl rfl ?_
      refine gfX12_109 (v := (w.1 0 29)) dX12_doOther_617 rfl rfl ?_
      refine xj_goto (tgt := 624) dX12_doOther_620 rfl ?_
      exact xj_ri dX12_doOther_624 rfl
  · refine xj_aloadn 0 dX12_doOther_625 rfl rfl ?_
    refine gfX12_44 dX12_doOther_626 rfl ?_
    refine xj_iconst (v := 1) dX12_doOther_629 ci_1 ?_
    refine xj_iald (k := 9) dX12_doOther_630 rfl ?_
    refine xj_ifne (tgt := 641) dX12_doOther_631 rfl ?_ ?_
    · refine xj_aloadn 0 dX12_doOther_634 rfl rfl ?_
      refine gfX12_109 (v := (w.1 0 29)) dX12_doOther_635 rfl rfl ?_
      refine xj_goto (tgt := 642) dX12_doOther_638 rfl ?_
      exact xj_ri dX12_doOther_642 rfl
    · refine xj_iloadn 1 dX12_doOther_641 rfl rfl ?_
      exact xj_ri dX12_doOther_642 rfl
  · refine xj_aloadn 0 dX12_doOther_643 rfl rfl ?_
    refine xj_iloadn 1 dX12_doOther_644 rfl rfl ?_
    refine xj_cVv (argv := [.int p1]) (rest := []) dX12_doOther_645 (kX12_push p1 w) mkX12_push tw2364 rfl rfl rfl rfl rfl rfl (fun _ w52 => ?_)
    refine xj_aloadn 0 dX12_doOther_648 rfl rfl ?_
    refine gfX12_109 (v := (w52.1 0 29)) dX12_doOther_649 rfl rfl ?_
    exact xj_ri dX12_doOther_652 rfl
  · refine xj_aloadn 0 dX12_doOther_653 rfl rfl ?_
    refine gfX12_109 (v := (w.1 0 29)) dX12_doOther_654 rfl rfl ?_
    exact xj_ri dX12_doOther_657 rfl
  · refine xj_aloadn 0 dX12_doOther_771 rfl rfl ?_
    refine xj_iloadn 1 dX12_doOther_772 rfl rfl ?_
    refine xj_cVi (argv := [.int p1]) (rest := []) dX12_doOther_773 (kX12_doRest p1 w) mkX12_doRest tw2392 rfl rfl rfl rfl rfl rfl (fun x53 w54 => ?_)
    exact xj_ri dX12_doOther_776 rfl
  · refine xj_aloadn 0 dX12_doOther_685 rfl rfl ?_
    refine xj_aloadn 0 dX12_doOther_686 rfl rfl ?_
    refine gfX12_320 (v := (w.1 0 36)) dX12_doOther_687 rfl rfl ?_
    refine xj_ifne (tgt := 697) dX12_doOther_690 rfl ?_ ?_
    · refine xj_iconst (v := 1) dX12_doOther_693 ci_1 ?_
      refine xj_goto (tgt := 698) dX12_doOther_694 rfl ?_
      refine pfX12_320 dX12_doOther_698 rfl (Or.inr rfl) ?_
      refine xj_iloadn 1 dX12_doOther_701 rfl rfl ?_
      exact xj_ri dX12_doOther_702 rfl
    · refine xj_iconst (v := 0) dX12_doOther_697 ci_0 ?_
      refine pfX12_320 dX12_doOther_698 rfl (Or.inl rfl) ?_
      refine xj_iloadn 1 dX12_doOther_701 rfl rfl ?_
      exact xj_ri dX12_doOther_702 rfl
  · exact tX12_doOther_j703 _ _
  · exact tX12_doOther_j703 _ _
  · refine xj_aloadn 0 dX12_doOther_723 rfl rfl ?_
    refine xj_cVi (argv := []) (rest := []) dX12_doOther_724 (kX12_getE w) mkX12_getE tw2298 rfl rfl rfl rfl rfl rfl (fun x55 w56 => ?_)
    refine xj_istoren (lv2 := [(2, .int x55), (0, .ref 0), (1, .int p1)]) dX12_doOther_727 rfl (Nat.le_of_ble_eq_true rfl) rfl ?_
    refine xj_aloadn 1 dX12_doOther_728 rfl rfl ?_
    refine xj_iloadn 0 dX12_doOther_729 rfl rfl ?_
    refine xj_iconst (v := -1) dX12_doOther_730 ci_m1 ?_
    refine xj_ixor dX12_doOther_731 ?_
    refine xj_cVv (argv := [.int (x55 ^^^ (-1 : Int32))]) (rest := []) dX12_doOther_732 (kX12_setE (x55 ^^^ (-1 : Int32)) w56) mkX12_setE tw2342 rfl rfl rfl rfl rfl rfl (fun _ w57 => ?_)
    refine xj_iloadn 2 dX12_doOther_735 rfl rfl ?_
    exact xj_ri dX12_doOther_736 rfl
  · refine xj_aloadn 0 dX12_doOther_737 rfl rfl ?_
    refine xj_cVi (argv := []) (rest := []) dX12_doOther_738 (kX12_getE w) mkX12_getE tw2298 rfl rfl rfl rfl rfl rfl (fun x58 w59 => ?_)
    refine xj_istoren (lv2 := [(2, .int x58), (0, .ref 0), (1, .int p1)]) dX12_doOther_741 rfl (Nat.le_of_ble_eq_true rfl) rfl ?_
    refine xj_aloadn 1 dX12_doOther_742 rfl rfl ?_
    refine xj_aloadn 1 dX12_doOther_743 rfl rfl ?_
    refine xj_iconst (v := 0) dX12_doOther_744 ci_0 ?_
    refine xj_iloadn 0 dX12_doOther_745 rfl rfl ?_
    refine xj_iconst (v := 0) dX12_doOther_746 ci_0 ?_
    refine xj_aloadn 1 dX12_doOther_747 rfl rfl ?_
    refine gfX12_76 (v := (w59.1 0 20)) dX12_doOther_748 rfl rfl ?_
    refine xj_cVi (argv := [.int (0 : Int32), .int x58, .int (0 : Int32), .int (w59.1 0 20)]) (rest := [.ref 0]) dX12_doOther_751 (kX12_difference (0 : Int32) x58 (0 : Int32) (w59.1 0 20) w59) mkX12_difference tw2328 rfl rfl rfl rfl rfl rfl (fun x60 w61 => ?_)
    refine xj_cVv (argv := [.int x60]) (rest := []) dX12_doOther_754 (kX12_setE x60 w61) mkX12_setE tw2342 rfl rfl rfl rfl rfl rfl (fun _ w62 => ?_)
    refine xj_iloadn 2 dX12_doOther_757 rfl rfl ?_
    exact xj_ri dX12_doOther_758 rfl
  · refine xj_aloadn 0 dX12_doOther_759 rfl rfl ?_
    refine xj_cVv (argv := []) (rest := []) dX12_doOther_760 (kX12_wholeProduct w) mkX12_wholeProduct tw2380 rfl rfl rfl rfl rfl rfl (fun _ w63 => ?_)
    refine xj_iloadn 1 dX12_doOther_763 rfl rfl ?_
    exact xj_ri dX12_doOther_764 rfl
  · refine xj_aloadn 0 dX12_doOther_759 rfl rfl ?_
    refine xj_cVv (argv := []) (rest := []) dX12_doOther_760 (kX12_wholeProduct w) mkX12_wholeProduct tw2380 rfl rfl rfl rfl rfl rfl (fun _ w64 => ?_)
    refine xj_iloadn 1 dX12_doOther_763 rfl rfl ?_
    exact xj_ri dX12_doOther_764 rfl
  · refine xj_aloadn 0 dX12_doOther_765 rfl rfl ?_
    refine xj_cVv (argv := []) (rest := []) dX12_doOther_766 (kX12_quotient w) mkX12_quotient tw2384 rfl rfl rfl rfl rfl rfl (fun _ w65 => ?_)
    refine xj_iloadn 1 dX12_doOther_769 rfl rfl ?_
    exact xj_ri dX12_doOther_770 rfl
  · refine xj_aloadn 0 dX12_doOther_765 rfl rfl ?_
    refine xj_cVv (argv := []) (rest := []) dX12_doOther_766 (kX12_quotient w) mkX12_quotient tw2384 rfl rfl rfl rfl rfl rfl (fun _ w66 => ?_)
    refine xj_iloadn 1 dX12_doOther_769 rfl rfl ?_
    exact xj_ri dX12_doOther_770 rfl
  · refine xj_aloadn 0 dX12_doOther_658 rfl rfl ?_
    refine gfX12_44 dX12_doOther_659 rfl ?_
    refine xj_aloadn 0 dX12_doOther_662 rfl rfl ?_
    refine gfX12_88 (v := (w.1 0 24)) dX12_doOther_663 rfl rfl ?_
    refine xj_iald (k := 9) dX12_doOther_666 rfl ?_
    refine xj_leti (fun x67 => ?_)
    refine xj_istoren (lv2 := [(2, .int x67), (0, .ref 0), (1, .int p1)]) dX12_doOther_667 rfl (Nat.le_of_ble_eq_true rfl) rfl ?_
    refine xj_aloadn 1 dX12_doOther_668 rfl rfl ?_
    refine xj_iloadn 2 dX12_doOther_669 rfl rfl ?_
    refine xj_cVv (argv := [.int p1]) (rest := []) dX12_doOther_670 (kX12_push p1 w) mkX12_push tw2364 rfl rfl rfl rfl rfl rfl (fun _ w68 => ?_)
    refine xj_iloadn 0 dX12_doOther_673 rfl rfl ?_
    exact xj_ri dX12_doOther_674 rfl
  · refine xj_aloadn 0 dX12_doOther_675 rfl rfl ?_
    refine gfX12_44 dX12_doOther_676 rfl ?_
    refine xj_aloadn 0 dX12_doOther_679 rfl rfl ?_
    refine gfX12_88 (v := (w.1 0 24)) dX12_doOther_680 rfl rfl ?_
    refine xj_iald (k := 9) dX12_doOther_683 rfl ?_
    exact xj_ri dX12_doOther_684 rfl
theorem kX12_doOther (p1 : Int32) (w : xW) : xMet jI mX12_doOther lM (0, 0) [.ref 0, .int p1] w (sX12_doOther p1 w) := xj_met lM_ok (by decide) (Nat.le_of_ble_eq_true rfl) (Nat.zero_le _) (Nat.zero_le _) (tX12_doOther p1 w)
set_option maxRecDepth 20000 in
def sX12_doOne_j92 (a1 : Int32) (w : xW) : Option (Unit × xW) :=
  xbd (sX12_doOther a1 w) (fun x1 w2 => some ((), (xwi w2 0 34 x1)))
set_option maxRecDepth 20000 in
theorem tX12_doOne_j92 (a1 : Int32) (w : xW) : xJ ιV mX12_doOne lM (0, 0) 92 [(0, .ref 0), (1, .int a1)] [] w (sX12_doOne_j92 a1 w) := by
  unfold sX12_doOne_j92
  refine xj_aloadn 0 dX12_doOne_92 rfl rfl ?_
  refine xj_iloadn 1 dX12_doOne_93 rfl rfl ?_
  refine xj_cVi (argv := [.int a1]) (rest := []) dX12_doOne_94 (kX12_doOther a1 w) mkX12_doOther tw2360 rfl rfl rfl rfl rfl rfl (fun x1 w2 => ?_)
  refine xj_istoren (lv2 := [(2, .int x1), (0, .ref 0), (1, .int a1)]) dX12_doOne_97 rfl (Nat.le_of_ble_eq_true rfl) rfl ?_
  refine xj_aloadn 1 dX12_doOne_98 rfl rfl ?_
  refine xj_iloadn 0 dX12_doOne_99 rfl rfl ?_
  refine pfX12_40 dX12_doOne_100 rfl ?_
  exact xj_rv dX12_doOne_103 rfl
set_option maxRecDepth 20000 in
def sX12_doOne_j64 (a2 : Int32) (w : xW) : Option (Unit × xW) :=
  some ((), (xwi w 0 34 a2))
set_option maxRecDepth 20000 in
theorem tX12_doOne_j64 (a2 : Int32) (w : xW) : xJ ιV mX12_doOne lM (0, 0) 64 [(0, .ref 0), (2, .int a2)] [] w (sX12_doOne_j64 a2 w) := by
  unfold sX12_doOne_j64
  refine xj_goto (tgt := 98) dX12_doOne_64 rfl ?_
  refine xj_aloadn 0 dX12_doOne_98 rfl rfl ?_
  refine xj_iloadn 1 dX12_doOne_99 rfl rfl ?_
  refine pfX12_40 dX12_doOne_100 rfl ?_
  exact xj_rv dX12_doOne_103 rfl
set_option maxRecDepth 20000 in
def sX12_doOne (w : xW) : Option (Unit × xW) :=
  (if (7 : Int32) < (w.1 0 17) then (if (w.1 0 17) < (21 : Int32) then sX12_doOne_j92 ((w.1 0 34) + (w.1 0 30)) w else (if (27 : Int32) < (w.1 0 17) then sX12_doOne_j92 ((w.1 0 34) + (w.1 0 30)) w else xbd (sX12_shifts w) (fun _ w1 => some ((), (xwi w1 0 34 ((w.1 0 34) + (w.1 0 30))))))) else xbd (sX12_firstOf w) (fun x2 w3 => xbd (sX12_secondOf w3) (fun x4 w5 => xbd (sX12_eight (w5.1 0 17) x2 x4 (w5.1 0 20) w5) (fun x6 w7 => (if (w7.1 0 17) = (7 : Int32) then sX12_doOne_j64 ((w.1 0 34) + (w.1 0 30)) w7 else xbd (sX12_setFirst x6 w7) (fun _ w8 => sX12_doOne_j64 ((w.1 0 34) + (w.1 0 30)) w8))))))
set_option maxRecDepth 20000 in
theorem tX12_doOne (w : xW) : xJ ιV mX12_doOne lM (0, 0) 0 [(0, .ref 0)] [] w (sX12_doOne w) := by
  unfold sX12_doOne
  refine xj_aloadn 0 dX12_doOne_0 rfl rfl ?_
  refine gfX12_40 (v := (w.1 0 34)) dX12_doOne_1 rfl rfl ?_
  refine xj_aloadn 0 dX12_doOne_4 rfl rfl ?_
  refine gfX12_138 (v := (w.1 0 30)) dX12_doOne_5 rfl rfl ?_
  refine xj_iadd dX12_doOne_8 ?_
  refine xj_istoren (lv2 := [(1, .int ((w.1 0 34) + (w.1 0 30))), (0, .ref 0)]) dX12_doOne_9 rfl (Nat.le_of_ble_eq_true rfl) rfl ?_
  refine xj_iloadn 0 dX12_doOne_10 rfl rfl ?_
  refine xj_istoren (lv2 := [(2, .int ((w.1 0 34) + (w.1 0 30))), (1, .int ((w.1 0 34) + (w.1 0 30))), (0, .ref 0)]) dX12_doOne_11 rfl (Nat.le_of_ble_eq_true rfl) rfl ?_
  refine xj_aloadn 2 dX12_doOne_12 rfl rfl ?_
  refine gfX12_70 (v := (w.1 0 17)) dX12_doOne_13 rfl rfl ?_
  refine xj_bipush (v := 7) dX12_doOne_16 cb_7 ?_
  refine xj_igt (tgt := 67) dX12_doOne_18 rfl ?_ ?_
  · refine xj_aloadn 2 dX12_doOne_67 rfl rfl ?_
    refine gfX12_70 (v := (w.1 0 17)) dX12_doOne_68 rfl rfl ?_
    refine xj_bipush (v := 21) dX12_doOne_71 cb_21 ?_
    refine xj_ilt (tgt := 92) dX12_doOne_73 rfl ?_ ?_
    · refine xj_sub (lv2 := [(0, .ref 0), (1, .int ((w.1 0 34) + (w.1 0 30)))]) [2, 1] rfl ?_
      exact tX12_doOne_j92 _ _
    · refine xj_aloadn 2 dX12_doOne_76 rfl rfl ?_
      refine gfX12_70 (v := (w.1 0 17)) dX12_doOne_77 rfl rfl ?_
      refine xj_bipush (v := 27) dX12_doOne_80 cb_27 ?_
      refine xj_igt (tgt := 92) dX12_doOne_82 rfl ?_ ?_
      · refine xj_sub (lv2 := [(0, .ref 0), (1, .int ((w.1 0 34) + (w.1 0 30)))]) [2, 1] rfl ?_
        exact tX12_doOne_j92 _ _
      · refine xj_aloadn 2 dX12_doOne_85 rfl rfl ?_
        refine xj_cVv (argv := []) (rest := []) dX12_doOne_86 (kX12_shifts w) mkX12_shifts tw2352 rfl rfl rfl rfl rfl rfl (fun _ w1 => ?_)
        refine xj_goto (tgt := 98) dX12_doOne_89 rfl ?_
        refine xj_aloadn 2 dX12_doOne_98 rfl rfl ?_
        refine xj_iloadn 0 dX12_doOne_99 rfl rfl ?_
        refine pfX12_40 dX12_doOne_100 rfl ?_
        exact xj_rv dX12_doOne_103 rfl
  · refine xj_aloadn 2 dX12_doOne_21 rfl rfl ?_
    refine xj_cVi (argv := []) (rest := []) dX12_doOne_22 (kX12_firstOf w) mkX12_firstOf tw2290 rfl rfl rfl rfl rfl rfl (fun x2 w3 => ?_)
    refine xj_istoren (lv2 := [(3, .int x2), (2, .int ((w.1 0 34) + (w.1 0 30))), (1, .int ((w.1 0 34) + (w.1 0 30))), (0, .ref 0)]) dX12_doOne_25 rfl (Nat.le_of_ble_eq_true rfl) rfl ?_
    refine xj_aloadn 3 dX12_doOne_26 rfl rfl ?_
    refine xj_cVi (argv := []) (rest := []) dX12_doOne_27 (kX12_secondOf w3) mkX12_secondOf tw2306 rfl rfl rfl rfl rfl rfl (fun x4 w5 => ?_)
    refine xj_istore (lv2 := [(4, .int x4), (3, .int x2), (2, .int ((w.1 0 34) + (w.1 0 30))), (1, .int ((w.1 0 34) + (w.1 0 30))), (0, .ref 0)]) dX12_doOne_30 (Nat.le_of_ble_eq_true rfl) rfl ?_
    refine xj_aloadn 4 dX12_doOne_32 rfl rfl ?_
    refine xj_aloadn 4 dX12_doOne_33 rfl rfl ?_
    refine gfX12_70 (v := (w5.1 0 17)) dX12_doOne_34 rfl rfl ?_
    refine xj_iloadn 1 dX12_doOne_37 rfl rfl ?_
    refine xj_iload 0 dX12_doOne_38 rfl ?_
    refine xj_aloadn 4 dX12_doOne_40 rfl rfl ?_
    refine gfX12_76 (v := (w5.1 0 20)) dX12_doOne_41 rfl rfl ?_
    refine xj_cVi (argv := [.int (w5.1 0 17), .int x2, .int x4, .int (w5.1 0 20)]) (rest := []) dX12_doOne_44 (kX12_eight (w5.1 0 17) x2 x4 (w5.1 0 20) w5) mkX12_eight tw2310 rfl rfl rfl rfl rfl rfl (fun x6 w7 => ?_)
    refine xj_istore (lv2 := [(5, .int x6), (4, .int x4), (3, .int x2), (2, .int ((w.1 0 34) + (w.1 0 30))), (1, .int ((w.1 0 34) + (w.1 0 30))), (0, .ref 0)]) dX12_doOne_47 (Nat.le_of_ble_eq_true rfl) rfl ?_
    refine xj_aloadn 5 dX12_doOne_49 rfl rfl ?_
    refine gfX12_70 (v := (w7.1 0 17)) dX12_doOne_50 rfl rfl ?_
    refine xj_bipush (v := 7) dX12_doOne_53 cb_7 ?_
    refine xj_ieq (tgt := 64) dX12_doOne_55 rfl ?_ ?_
    · refine xj_sub (lv2 := [(0, .ref 0), (2, .int ((w.1 0 34) + (w.1 0 30)))]) [5, 3] rfl ?_
      exact tX12_doOne_j64 _ _
    · refine xj_aloadn 5 dX12_doOne_58 rfl rfl ?_
      refine xj_iload 0 dX12_doOne_59 rfl ?_
      refine xj_cVv (argv := [.int x6]) (rest := []) dX12_doOne_61 (kX12_setFirst x6 w7) mkX12_setFirst tw2332 rfl rfl rfl rfl rfl rfl (fun _ w8 => ?_)
      refine xj_sub (lv2 := [(0, .ref 0), (2, .int ((w.1 0 34) + (w.1 0 30)))]) [5, 3] rfl ?_
      exact tX12_doOne_j64 _ _
theorem kX12_doOne (w : xW) : xMet jV mX12_doOne lM (0, 0) [.ref 0] w (sX12_doOne w) := xj_met lM_ok (by decide) (Nat.le_of_ble_eq_true rfl) (Nat.zero_le _) (Nat.zero_le _) (tX12_doOne w)
set_option maxRecDepth 20000 in
def sX12_serve_j463 (a2 : Int32) (a8 : Int32) (w : xW) : Option (Unit × xW) :=
  (if xin (4 : Int32) 8 then (if xin (4 : Int32) 8 then (if xin (0 : Int32) 8 then some ((), (xwi (xwi (xwi w 0 34 (a2 &&& (-32 : Int32))) 9 ((4 : Int32).toNatClampNeg) ((w.1 9 ((4 : Int32).toNatClampNeg)) + (4 : Int32))) 9 ((0 : Int32).toNatClampNeg) a8)) else none) else none) else none)
set_option maxRecDepth 20000 in
theorem tX12_serve_j463 (a2 : Int32) (a8 : Int32) (w : xW) : xJ ιV mX12_serve lM (0, 0) 463 [(0, .ref 0), (2, .int a2), (8, .int a8)] [] w (sX12_serve_j463 a2 a8 w) := by
  unfold sX12_serve_j463
  refine xj_aloadn 0 dX12_serve_463 rfl rfl ?_
  refine xj_iloadn 1 dX12_serve_464 rfl rfl ?_
  refine xj_bipush (v := -32) dX12_serve_465 cb_m32 ?_
  refine xj_iand dX12_serve_467 ?_
  refine pfX12_40 dX12_serve_468 rfl ?_
  refine xj_aloadn 0 dX12_serve_471 rfl rfl ?_
  refine gfX12_44 dX12_serve_472 rfl ?_
  refine xj_iconst (v := 4) dX12_serve_475 ci_4 ?_
  refine xj_dup2 dX12_serve_476 rfl rfl ?_
  refine xj_iald (k := 9) dX12_serve_477 rfl ?_
  refine xj_iconst (v := 4) dX12_serve_478 ci_4 ?_
  refine xj_iadd dX12_serve_479 ?_
  refine xj_iast (k := 9) dX12_serve_480 rfl ?_
  refine xj_aloadn 0 dX12_serve_481 rfl rfl ?_
  refine gfX12_44 dX12_serve_482 rfl ?_
  refine xj_iconst (v := 0) dX12_serve_485 ci_0 ?_
  refine xj_iload 2 dX12_serve_486 rfl ?_
  refine xj_iast (k := 9) dX12_serve_488 rfl ?_
  exact xj_rv dX12_serve_489 rfl
set_option maxRecDepth 20000 in
def sX12_serve_l157 : Nat → Int32 → Int64 → Int64 → Int32 → Int32 → xW → Option (Unit × xW)
  | 0, _, _, _, _, _, _ => none
  | n + 1, a2, a3, a5, a7, a8, w =>
  (if a7 = 0 then sX12_serve_j463 a2 a8 w else (if a8.toInt64 < a5 then (if (w.1 0 8) < (1024 : Int32) then (if xin ((a3.toInt32 - (65536 : Int32)) + a8) 65536 then (if xin (w.1 0 8) 1024 then (sX12_serve_l157 n) a2 a3 a5 a7 (a8 + (1 : Int32)) (xwi (xwi w 4 ((w.1 0 8).toNatClampNeg) (w.1 2 (((a3.toInt32 - (65536 : Int32)) + a8).toNatClampNeg))) 0 8 ((w.1 0 8) + (1 : Int32))) else none) else none) else sX12_serve_j463 a2 a8 w) else sX12_serve_j463 a2 a8 w))
set_option maxRecDepth 20000 in
theorem tX12_serve_l157 : ∀ (n : Nat) (a2 : Int32) (a3 : Int64) (a5 : Int64) (a7 : Int32) (a8 : Int32) (w : xW), xJ ιV mX12_serve lM (0, 0) 157 [(0, .ref 0), (2, .int a2), (3, .long a3), (5, .long a5), (7, .int a7), (8, .int a8)] [] w (sX12_serve_l157 n a2 a3 a5 a7 a8 w) := by
  intro n
  induction n with
  | zero => intros; exact xj_none
  | succ n ih =>
    intro a2 a3 a5 a7 a8 w
    rw [sX12_serve_l157]
    refine xj_iload 4 dX12_serve_157 rfl ?_
    refine xj_ifeq (tgt := 463) dX12_serve_159 rfl ?_ ?_
    · refine xj_sub (lv2 := [(0, .ref 0), (2, .int a2), (8, .int a8)]) [0, 1, 5] rfl ?_
      exact tX12_serve_j463 _ _ _
    · refine xj_iload 5 dX12_serve_162 rfl ?_
      refine xj_i2l dX12_serve_164 ?_
      refine xj_lload 3 dX12_serve_165 rfl ?_
      refine xj_lge (tgt := 463) dX12_serve_167 dX12_serve_168 rfl ?_ ?_
      · refine xj_aloadn 0 dX12_serve_171 rfl rfl ?_
        refine gfX12_398 (v := (w.1 0 8)) dX12_serve_172 rfl rfl ?_
        refine xj_sipush (v := 1024) dX12_serve_175 cs_1024 ?_
        refine xj_ige (tgt := 463) dX12_serve_178 rfl ?_ ?_
        · refine xj_aloadn 0 dX12_serve_181 rfl rfl ?_
          refine gfX12_20 dX12_serve_182 rfl ?_
          refine xj_aloadn 0 dX12_serve_185 rfl rfl ?_
          refine gfX12_398 (v := (w.1 0 8)) dX12_serve_186 rfl rfl ?_
          refine xj_aloadn 0 dX12_serve_189 rfl rfl ?_
          refine gfX12_14 dX12_serve_190 rfl ?_
          refine xj_lloadn 2 dX12_serve_193 rfl rfl ?_
          refine xj_l2i dX12_serve_194 ?_
          refine xj_ldc (v := 65536) tw1900 dX12_serve_195 ?_
          refine xj_isub dX12_serve_197 ?_
          refine xj_iload 5 dX12_serve_198 rfl ?_
          refine xj_iadd dX12_serve_200 ?_
          refine xj_iald (k := 2) dX12_serve_201 rfl ?_
          refine xj_iast (k := 4) dX12_serve_202 rfl ?_
          refine xj_aloadn 0 dX12_serve_203 rfl rfl ?_
          refine xj_dup dX12_serve_204 rfl ?_
          refine gfX12_398 (v := (w.1 0 8)) dX12_serve_205 rfl rfl ?_
          refine xj_iconst (v := 1) dX12_serve_208 ci_1 ?_
          refine xj_iadd dX12_serve_209 ?_
          refine pfX12_398 dX12_serve_210 rfl ?_
          refine xj_iinc (n := 5) (lv2 := [(8, .int (a8 + (1 : Int32))), (0, .ref 0), (2, .int a2), (3, .long a3), (5, .long a5), (7, .int a7)]) dX12_serve_213 rfl ci_1 (Nat.le_of_ble_eq_true rfl) rfl ?_
          refine xj_goto (tgt := 157) dX12_serve_216 rfl ?_
          refine xj_sub (lv2 := [(0, .ref 0), (2, .int a2), (3, .long a3), (5, .long a5), (7, .int a7), (8, .int (a8 + (1 : Int32)))]) [1, 2, 3, 4, 5, 0] rfl ?_
          exact ih _ _ _ _ _ _
        · refine xj_sub (lv2 := [(0, .ref 0), (2, .int a2), (8, .int a8)]) [0, 1, 5] rfl ?_
          exact tX12_serve_j463 _ _ _
      · refine xj_sub (lv2 := [(0, .ref 0), (2, .int a2), (8, .int a8)]) [0, 1, 5] rfl ?_
        exact tX12_serve_j463 _ _ _
set_option maxRecDepth 20000 in
def sX12_serve_l232 : Nat → Int32 → Int64 → Int64 → Int32 → Int32 → xW → Option (Unit × xW)
  | 0, _, _, _, _, _, _ => none
  | n + 1, a2, a3, a5, a7, a8, w =>
  (if a7 = 0 then sX12_serve_j463 a2 a8 w else (if a8.toInt64 < a5 then (if 0 < (w.1 0 6) then (if xin (w.1 0 5) 256 then (if xin ((a3.toInt32 - (65536 : Int32)) + a8) 65536 then (if ¬ (256 : Int32) = 0 then (sX12_serve_l232 n) a2 a3 a5 a7 (a8 + (1 : Int32)) (xwi (xwi (xwi w 2 (((a3.toInt32 - (65536 : Int32)) + a8).toNatClampNeg) (w.1 3 ((w.1 0 5).toNatClampNeg))) 0 5 (((w.1 0 5) + (1 : Int32)) - ((w.1 0 5) + (1 : Int32)) / (256 : Int32) * (256 : Int32))) 0 6 ((w.1 0 6) - (1 : Int32))) else none) else none) else none) else sX12_serve_j463 a2 a8 w) else sX12_serve_j463 a2 a8 w))
set_option maxRecDepth 20000 in
theorem tX12_serve_l232 : ∀ (n : Nat) (a2 : Int32) (a3 : Int64) (a5 : Int64) (a7 : Int32) (a8 : Int32) (w : xW), xJ ιV mX12_serve lM (0, 0) 232 [(0, .ref 0), (2, .int a2), (3, .long a3), (5, .long a5), (7, .int a7), (8, .int a8)] [] w (sX12_serve_l232 n a2 a3 a5 a7 a8 w) := by
  intro n
  induction n with
  | zero => intros; exact xj_none
  | succ n ih =>
    intro a2 a3 a5 a7 a8 w
    rw [sX12_serve_l232]
    refine xj_iload 4 dX12_serve_232 rfl ?_
    refine xj_ifeq (tgt := 463) dX12_serve_234 rfl ?_ ?_
    · refine xj_sub (lv2 := [(0, .ref 0), (2, .int a2), (8, .int a8)]) [0, 1, 5] rfl ?_
      exact tX12_serve_j463 _ _ _
    · refine xj_iload 5 dX12_serve_237 rfl ?_
      refine xj_i2l dX12_serve_239 ?_
      refine xj_lload 3 dX12_serve_240 rfl ?_
      refine xj_lge (tgt := 463) dX12_serve_242 dX12_serve_243 rfl ?_ ?_
      · refine xj_aloadn 0 dX12_serve_246 rfl rfl ?_
        refine gfX12_401 (v := (w.1 0 6)) dX12_serve_247 rfl rfl ?_
        refine xj_ifle (tgt := 463) dX12_serve_250 rfl ?_ ?_
        · refine xj_aloadn 0 dX12_serve_253 rfl rfl ?_
          refine gfX12_14 dX12_serve_254 rfl ?_
          refine xj_lloadn 2 dX12_serve_257 rfl rfl ?_
          refine xj_l2i dX12_serve_258 ?_
          refine xj_ldc (v := 65536) tw1900 dX12_serve_259 ?_
          refine xj_isub dX12_serve_261 ?_
          refine xj_iload 5 dX12_serve_262 rfl ?_
          refine xj_iadd dX12_serve_264 ?_
          refine xj_aloadn 0 dX12_serve_265 rfl rfl ?_
          refine gfX12_17 dX12_serve_266 rfl ?_
          refine xj_aloadn 0 dX12_serve_269 rfl rfl ?_
          refine gfX12_404 (v := (w.1 0 5)) dX12_serve_270 rfl rfl ?_
          refine xj_iald (k := 3) dX12_serve_273 rfl ?_
          refine xj_iast (k := 2) dX12_serve_274 rfl ?_
          refine xj_aloadn 0 dX12_serve_275 rfl rfl ?_
          refine xj_aloadn 0 dX12_serve_276 rfl rfl ?_
          refine gfX12_404 (v := (w.1 0 5)) dX12_serve_277 rfl rfl ?_
          refine xj_iconst (v := 1) dX12_serve_280 ci_1 ?_
          refine xj_iadd dX12_serve_281 ?_
          refine xj_sipush (v := 256) dX12_serve_282 cs_256 ?_
          refine xj_irem dX12_serve_285 ?_
          refine pfX12_404 dX12_serve_286 rfl ?_
          refine xj_aloadn 0 dX12_serve_289 rfl rfl ?_
          refine xj_dup dX12_serve_290 rfl ?_
          refine gfX12_401 (v := (w.1 0 6)) dX12_serve_291 rfl rfl ?_
          refine xj_iconst (v := 1) dX12_serve_294 ci_1 ?_
          refine xj_isub dX12_serve_295 ?_
          refine pfX12_401 dX12_serve_296 rfl ?_
          refine xj_iinc (n := 5) (lv2 := [(8, .int (a8 + (1 : Int32))), (0, .ref 0), (2, .int a2), (3, .long a3), (5, .long a5), (7, .int a7)]) dX12_serve_299 rfl ci_1 (Nat.le_of_ble_eq_true rfl) rfl ?_
          refine xj_goto (tgt := 232) dX12_serve_302 rfl ?_
          refine xj_sub (lv2 := [(0, .ref 0), (2, .int a2), (3, .long a3), (5, .long a5), (7, .int a7), (8, .int (a8 + (1 : Int32)))]) [1, 2, 3, 4, 5, 0] rfl ?_
          exact ih _ _ _ _ _ _
        · refine xj_sub (lv2 := [(0, .ref 0), (2, .int a2), (8, .int a8)]) [0, 1, 5] rfl ?_
          exact tX12_serve_j463 _ _ _
      · refine xj_sub (lv2 := [(0, .ref 0), (2, .int a2), (8, .int a8)]) [0, 1, 5] rfl ?_
        exact tX12_serve_j463 _ _ _
set_option maxRecDepth 20000 in
def sX12_serve_j345 (a2 : Int32) (b0 : Int32) (w : xW) : Option (Unit × xW) :=
  sX12_serve_j463 a2 b0 (xwi w 0 42 b0)
set_option maxRecDepth 20000 in
theorem tX12_serve_j345 (a2 : Int32) (b0 : Int32) (w : xW) : xJ ιV mX12_serve lM (0, 0) 345 [(0, .ref 0), (2, .int a2)] [.int b0, .ref 0] w (sX12_serve_j345 a2 b0 w) := by
  unfold sX12_serve_j345
  refine pfX12_47 dX12_serve_345 rfl ?_
  refine xj_aloadn 0 dX12_serve_348 rfl rfl ?_
  refine gfX12_47 (v := b0) dX12_serve_349 rfl rfl ?_
  refine xj_istore (lv2 := [(8, .int b0), (0, .ref 0), (2, .int a2)]) dX12_serve_352 (Nat.le_of_ble_eq_true rfl) rfl ?_
  refine xj_goto (tgt := 463) dX12_serve_354 rfl ?_
  refine xj_sub (lv2 := [(0, .ref 0), (2, .int a2), (8, .int b0)]) [1, 2, 0] rfl ?_
  exact tX12_serve_j463 _ _ _
set_option maxRecDepth 20000 in
def sX12_serve_j341 (a2 : Int32) (w : xW) : Option (Unit × xW) :=
  sX12_serve_j345 a2 (w.1 0 42) w
set_option maxRecDepth 20000 in
theorem tX12_serve_j341 (a2 : Int32) (w : xW) : xJ ιV mX12_serve lM (0, 0) 341 [(0, .ref 0), (2, .int a2)] [.ref 0] w (sX12_serve_j341 a2 w) := by
  unfold sX12_serve_j341
  refine xj_aloadn 0 dX12_serve_341 rfl rfl ?_
  refine gfX12_47 (v := (w.1 0 42)) dX12_serve_342 rfl rfl ?_
  exact tX12_serve_j345 _ _ _
set_option maxRecDepth 20000 in
def sX12_serve_j448 (a2 : Int32) (a8 : Int32) (w : xW) : Option (Unit × xW) :=
  sX12_serve_j463 a2 a8 w
set_option maxRecDepth 20000 in
theorem tX12_serve_j448 (a2 : Int32) (a8 : Int32) (w : xW) : xJ ιV mX12_serve lM (0, 0) 448 [(0, .ref 0), (2, .int a2), (8, .int a8)] [] w (sX12_serve_j448 a2 a8 w) := by
  unfold sX12_serve_j448
  refine xj_goto (tgt := 463) dX12_serve_448 rfl ?_
  exact tX12_serve_j463 _ _ _
set_option maxRecDepth 20000 in
def sX12_serve_l405 : Nat → Int32 → Int64 → Int64 → Int32 → Int32 → Int64 → xW → Option (Unit × xW)
  | 0, _, _, _, _, _, _, _ => none
  | n + 1, a2, a3, a5, a7, a8, a9, w =>
  (if a7 = 0 then sX12_serve_j448 a2 a8 w else (if a9 < a5 then (if xin ((a3 + a9).toInt32 - (65536 : Int32)) 65536 then xlet (((31 : Int32) * a8) + (w.1 2 (((a3 + a9).toInt32 - (65536 : Int32)).toNatClampNeg))) (fun x1 => (sX12_serve_l405 n) a2 a3 a5 a7 x1 (a9 + (1 : Int64)) w) else none) else sX12_serve_j448 a2 a8 w))
set_option maxRecDepth 20000 in
theorem tX12_serve_l405 : ∀ (n : Nat) (a2 : Int32) (a3 : Int64) (a5 : Int64) (a7 : Int32) (a8 : Int32) (a9 : Int64) (w : xW), xJ ιV mX12_serve lM (0, 0) 405 [(0, .ref 0), (2, .int a2), (3, .long a3), (5, .long a5), (7, .int a7), (8, .int a8), (9, .long a9)] [] w (sX12_serve_l405 n a2 a3 a5 a7 a8 a9 w) := by
  intro n
  induction n with
  | zero => intros; exact xj_none
  | succ n ih =>
    intro a2 a3 a5 a7 a8 a9 w
    rw [sX12_serve_l405]
    refine xj_iload 4 dX12_serve_405 rfl ?_
    refine xj_ifeq (tgt := 448) dX12_serve_407 rfl ?_ ?_
    · refine xj_sub (lv2 := [(0, .ref 0), (2, .int a2), (8, .int a8)]) [0, 1, 5] rfl ?_
      exact tX12_serve_j448 _ _ _
    · refine xj_lload 6 dX12_serve_410 rfl ?_
      refine xj_lload 3 dX12_serve_412 rfl ?_
      refine xj_lge (tgt := 448) dX12_serve_414 dX12_serve_415 rfl ?_ ?_
      · refine xj_bipush (v := 31) dX12_serve_418 cb_31 ?_
        refine xj_iload 5 dX12_serve_420 rfl ?_
        refine xj_imul dX12_serve_422 ?_
        refine xj_aloadn 0 dX12_serve_423 rfl rfl ?_
        refine gfX12_14 dX12_serve_424 rfl ?_
        refine xj_lloadn 2 dX12_serve_427 rfl rfl ?_
        refine xj_lload 6 dX12_serve_428 rfl ?_
        refine xj_ladd dX12_serve_430 ?_
        refine xj_l2i dX12_serve_431 ?_
        refine xj_ldc (v := 65536) tw1900 dX12_serve_432 ?_
        refine xj_isub dX12_serve_434 ?_
        refine xj_iald (k := 2) dX12_serve_435 rfl ?_
        refine xj_iadd dX12_serve_436 ?_
        refine xj_leti (fun x1 => ?_)
        refine xj_istore (lv2 := [(8, .int x1), (0, .ref 0), (2, .int a2), (3, .long a3), (5, .long a5), (7, .int a7), (9, .long a9)]) dX12_serve_437 (Nat.le_of_ble_eq_true rfl) rfl ?_
        refine xj_lload 6 dX12_serve_439 rfl ?_
        refine xj_lconst (v := 1) dX12_serve_441 cl_1 ?_
        refine xj_ladd dX12_serve_442 ?_
        refine xj_lstore (lv2 := [(9, .long (a9 + (1 : Int64))), (8, .int x1), (0, .ref 0), (2, .int a2), (3, .long a3), (5, .long a5), (7, .int a7)]) dX12_serve_443 (Nat.le_of_ble_eq_true rfl) rfl ?_
        refine xj_goto (tgt := 405) dX12_serve_445 rfl ?_
        refine xj_sub (lv2 := [(0, .ref 0), (2, .int a2), (3, .long a3), (5, .long a5), (7, .int a7), (8, .int x1), (9, .long (a9 + (1 : Int64)))]) [2, 3, 4, 5, 6, 1, 0] rfl ?_
        exact ih _ _ _ _ _ _ _
      · refine xj_sub (lv2 := [(0, .ref 0), (2, .int a2), (8, .int a8)]) [0, 1, 5] rfl ?_
        exact tX12_serve_j448 _ _ _
set_option maxRecDepth 20000 in
def sX12_serve_j96 (a1 : Int32) (a2 : Int32) (a3 : Int64) (a5 : Int64) (b0 : Int32) (w : xW) : Option (Unit × xW) :=
  xsw a1 (1) [(if b0 = 0 then sX12_serve_l157 70000 a2 a3 a5 b0 (-14 : Int32) w else sX12_serve_l157 70000 a2 a3 a5 b0 (0 : Int32) w), (if b0 = 0 then sX12_serve_l232 70000 a2 a3 a5 b0 (-14 : Int32) w else sX12_serve_l232 70000 a2 a3 a5 b0 (0 : Int32) w), sX12_serve_j463 a2 ((w.2 0 44).toInt32) w, (if a3 < (65536 : Int64) then sX12_serve_j341 a2 w else (if a3 < (131072 : Int64) then (if xin (3 : Int32) 8 then sX12_serve_j345 a2 (w.1 9 ((3 : Int32).toNatClampNeg)) w else none) else sX12_serve_j341 a2 w)), xlet ((xushr (((w.1 0 43) * (1103515245 : Int32)) + (12345 : Int32)) (16 : Int32)) &&& (32767 : Int32)) (fun x1 => sX12_serve_j463 a2 x1 (xwi w 0 43 (((w.1 0 43) * (1103515245 : Int32)) + (12345 : Int32)))), (if b0 = 0 then sX12_serve_l405 70000 a2 a3 a5 b0 (-14 : Int32) (0 : Int64) w else sX12_serve_l405 70000 a2 a3 a5 b0 (0 : Int32) (0 : Int64) w), sX12_serve_j463 a2 (0 : Int32) (xwi w 0 33 (7 : Int32))] (sX12_serve_j463 a2 (-38 : Int32) w)
set_option maxRecDepth 20000 in
theorem tX12_serve_j96 (a1 : Int32) (a2 : Int32) (a3 : Int64) (a5 : Int64) (b0 : Int32) (w : xW) : xJ ιV mX12_serve lM (0, 0) 96 [(0, .ref 0), (1, .int a1), (2, .int a2), (3, .long a3), (5, .long a5)] [.int b0] w (sX12_serve_j96 a1 a2 a3 a5 b0 w) := by
  unfold sX12_serve_j96
  refine xj_istore (lv2 := [(7, .int b0), (0, .ref 0), (1, .int a1), (2, .int a2), (3, .long a3), (5, .long a5)]) dX12_serve_96 (Nat.le_of_ble_eq_true rfl) rfl ?_
  refine xj_bipush (v := -38) dX12_serve_98 cb_m38 ?_
  refine xj_istore (lv2 := [(8, .int (-38 : Int32)), (7, .int b0), (0, .ref 0), (1, .int a1), (2, .int a2), (3, .long a3), (5, .long a5)]) dX12_serve_100 (Nat.le_of_ble_eq_true rfl) rfl ?_
  refine xj_iloadn 3 dX12_serve_102 rfl rfl ?_
  refine xj_tsw (tgtd := 463) [144, 219, 305, 315, 357, 389, 451] dX12_serve_103 rfl rfl rfl rfl ?_ ⟨?_, ?_, ?_, ?_, ?_, ?_, ?_, trivial⟩
  · refine xj_sub (lv2 := [(0, .ref 0), (2, .int a2), (8, .int (-38 : Int32))]) [2, 4, 0] rfl ?_
    exact tX12_serve_j463 _ _ _
  · refine xj_iload 1 dX12_serve_144 rfl ?_
    refine xj_ifeq (tgt := 153) dX12_serve_146 rfl ?_ ?_
    · refine xj_bipush (v := -14) dX12_serve_153 cb_m14 ?_
      refine xj_istore (lv2 := [(8, .int (-14 : Int32)), (7, .int b0), (0, .ref 0), (1, .int a1), (2, .int a2), (3, .long a3), (5, .long a5)]) dX12_serve_155 (Nat.le_of_ble_eq_true rfl) rfl ?_
      refine xj_sub (lv2 := [(0, .ref 0), (2, .int a2), (3, .long a3), (5, .long a5), (7, .int b0), (8, .int (-14 : Int32))]) [2, 4, 5, 6, 1, 0] rfl ?_
      exact tX12_serve_l157 _ _ _ _ _ _ _
    · refine xj_iconst (v := 0) dX12_serve_149 ci_0 ?_
      refine xj_goto (tgt := 155) dX12_serve_150 rfl ?_
      refine xj_istore (lv2 := [(8, .int (0 : Int32)), (7, .int b0), (0, .ref 0), (1, .int a1), (2, .int a2), (3, .long a3), (5, .long a5)]) dX12_serve_155 (Nat.le_of_ble_eq_true rfl) rfl ?_
      refine xj_sub (lv2 := [(0, .ref 0), (2, .int a2), (3, .long a3), (5, .long a5), (7, .int b0), (8, .int (0 : Int32))]) [2, 4, 5, 6, 1, 0] rfl ?_
      exact tX12_serve_l157 _ _ _ _ _ _ _
  · refine xj_iload 1 dX12_serve_219 rfl ?_
    refine xj_ifeq (tgt := 228) dX12_serve_221 rfl ?_ ?_
    · refine xj_bipush (v := -14) dX12_serve_228 cb_m14 ?_
      refine xj_istore (lv2 := [(8, .int (-14 : Int32)), (7, .int b0), (0, .ref 0), (1, .int a1), (2, .int a2), (3, .long a3), (5, .long a5)]) dX12_serve_230 (Nat.le_of_ble_eq_true rfl) rfl ?_
      refine xj_sub (lv2 := [(0, .ref 0), (2, .int a2), (3, .long a3), (5, .long a5), (7, .int b0), (8, .int (-14 : Int32))]) [2, 4, 5, 6, 1, 0] rfl ?_
      exact tX12_serve_l232 _ _ _ _ _ _ _
    · refine xj_iconst (v := 0) dX12_serve_224 ci_0 ?_
      refine xj_goto (tgt := 230) dX12_serve_225 rfl ?_
      refine xj_istore (lv2 := [(8, .int (0 : Int32)), (7, .int b0), (0, .ref 0), (1, .int a1), (2, .int a2), (3, .long a3), (5, .long a5)]) dX12_serve_230 (Nat.le_of_ble_eq_true rfl) rfl ?_
      refine xj_sub (lv2 := [(0, .ref 0), (2, .int a2), (3, .long a3), (5, .long a5), (7, .int b0), (8, .int (0 : Int32))]) [2, 4, 5, 6, 1, 0] rfl ?_
      exact tX12_serve_l232 _ _ _ _ _ _ _
  · refine xj_aloadn 2 dX12_serve_305 rfl rfl ?_
    refine gfX12_407 (v := (w.2 0 44)) dX12_serve_306 rfl rfl ?_
    refine xj_l2i dX12_serve_309 ?_
    refine xj_istore (lv2 := [(8, .int ((w.2 0 44).toInt32)), (7, .int b0), (0, .ref 0), (1, .int a1), (2, .int a2), (3, .long a3), (5, .long a5)]) dX12_serve_310 (Nat.le_of_ble_eq_true rfl) rfl ?_
    refine xj_goto (tgt := 463) dX12_serve_312 rfl ?_
    refine xj_sub (lv2 := [(0, .ref 0), (2, .int a2), (8, .int ((w.2 0 44).toInt32))]) [2, 4, 0] rfl ?_
    exact tX12_serve_j463 _ _ _
  · refine xj_aloadn 2 dX12_serve_315 rfl rfl ?_
    refine xj_lloadn 5 dX12_serve_316 rfl rfl ?_
    refine xj_ldc2 (v := 65536) tw2158 dX12_serve_317 ?_
    refine xj_llt (tgt := 341) dX12_serve_320 dX12_serve_321 rfl ?_ ?_
    · refine xj_sub (lv2 := [(0, .ref 0), (2, .int a2)]) [2, 4] rfl ?_
      exact tX12_serve_j341 _ _
    · refine xj_lloadn 5 dX12_serve_324 rfl rfl ?_
      refine xj_ldc2 (v := 131072) tw2159 dX12_serve_325 ?_
      refine xj_lge (tgt := 341) dX12_serve_328 dX12_serve_329 rfl ?_ ?_
      · refine xj_aloadn 2 dX12_serve_332 rfl rfl ?_
        refine gfX12_44 dX12_serve_333 rfl ?_
        refine xj_iconst (v := 3) dX12_serve_336 ci_3 ?_
        refine xj_iald (k := 9) dX12_serve_337 rfl ?_
        refine xj_goto (tgt := 345) dX12_serve_338 rfl ?_
        refine xj_sub (lv2 := [(0, .ref 0), (2, .int a2)]) [2, 4] rfl ?_
        exact tX12_serve_j345 _ _ _
      · refine xj_sub (lv2 := [(0, .ref 0), (2, .int a2)]) [2, 4] rfl ?_
        exact tX12_serve_j341 _ _
  · refine xj_aloadn 2 dX12_serve_357 rfl rfl ?_
    refine xj_aloadn 2 dX12_serve_358 rfl rfl ?_
    refine gfX12_411 (v := (w.1 0 43)) dX12_serve_359 rfl rfl ?_
    refine xj_ldcw (v := 1103515245) tw2285 dX12_serve_362 ?_
    refine xj_imul dX12_serve_365 ?_
    refine xj_sipush (v := 12345) dX12_serve_366 cs_12345 ?_
    refine xj_iadd dX12_serve_369 ?_
    refine pfX12_411 dX12_serve_370 rfl ?_
    refine xj_aloadn 2 dX12_serve_373 rfl rfl ?_
    refine gfX12_411 (v := (((w.1 0 43) * (1103515245 : Int32)) + (12345 : Int32))) dX12_serve_374 rfl rfl ?_
    refine xj_bipush (v := 16) dX12_serve_377 cb_16 ?_
    refine xj_iushr dX12_serve_379 ?_
    refine xj_sipush (v := 32767) dX12_serve_380 cs_32767 ?_
    refine xj_iand dX12_serve_383 ?_
    refine xj_leti (fun x1 => ?_)
    refine xj_istore (lv2 := [(8, .int x1), (7, .int b0), (0, .ref 0), (1, .int a1), (2, .int a2), (3, .long a3), (5, .long a5)]) dX12_serve_384 (Nat.le_of_ble_eq_true rfl) rfl ?_
    refine xj_goto (tgt := 463) dX12_serve_386 rfl ?_
    refine xj_sub (lv2 := [(0, .ref 0), (2, .int a2), (8, .int x1)]) [2, 4, 0] rfl ?_
    exact tX12_serve_j463 _ _ _
  · refine xj_iload 1 dX12_serve_389 rfl ?_
    refine xj_ifeq (tgt := 398) dX12_serve_391 rfl ?_ ?_
    · refine xj_bipush (v := -14) dX12_serve_398 cb_m14 ?_
      refine xj_istore (lv2 := [(8, .int (-14 : Int32)), (7, .int b0), (0, .ref 0), (1, .int a1), (2, .int a2), (3, .long a3), (5, .long a5)]) dX12_serve_400 (Nat.le_of_ble_eq_true rfl) rfl ?_
      refine xj_lconst (v := 0) dX12_serve_402 cl_0 ?_
      refine xj_lstore (lv2 := [(9, .long (0 : Int64)), (8, .int (-14 : Int32)), (7, .int b0), (0, .ref 0), (1, .int a1), (2, .int a2), (3, .long a3), (5, .long a5)]) dX12_serve_403 (Nat.le_of_ble_eq_true rfl) rfl ?_
      refine xj_sub (lv2 := [(0, .ref 0), (2, .int a2), (3, .long a3), (5, .long a5), (7, .int b0), (8, .int (-14 : Int32)), (9, .long (0 : Int64))]) [3, 5, 6, 7, 2, 1, 0] rfl ?_
      exact tX12_serve_l405 _ _ _ _ _ _ _ _
    · refine xj_iconst (v := 0) dX12_serve_394 ci_0 ?_
      refine xj_goto (tgt := 400) dX12_serve_395 rfl ?_
      refine xj_istore (lv2 := [(8, .int (0 : Int32)), (7, .int b0), (0, .ref 0), (1, .int a1), (2, .int a2), (3, .long a3), (5, .long a5)]) dX12_serve_400 (Nat.le_of_ble_eq_true rfl) rfl ?_
      refine xj_lconst (v := 0) dX12_serve_402 cl_0 ?_
      refine xj_lstore (lv2 := [(9, .long (0 : Int64)), (8, .int (0 : Int32)), (7, .int b0), (0, .ref 0), (1, .int a1), (2, .int a2), (3, .long a3), (5, .long a5)]) dX12_serve_403 (Nat.le_of_ble_eq_true rfl) rfl ?_
      refine xj_sub (lv2 := [(0, .ref 0), (2, .int a2), (3, .long a3), (5, .long a5), (7, .int b0), (8, .int (0 : Int32)), (9, .long (0 : Int64))]) [3, 5, 6, 7, 2, 1, 0] rfl ?_
      exact tX12_serve_l405 _ _ _ _ _ _ _ _
  · refine xj_iconst (v := 0) dX12_serve_451 ci_0 ?_
    refine xj_istore (lv2 := [(8, .int (0 : Int32)), (7, .int b0), (0, .ref 0), (1, .int a1), (2, .int a2), (3, .long a3), (5, .long a5)]) dX12_serve_452 (Nat.le_of_ble_eq_true rfl) rfl ?_
    refine xj_aloadn 2 dX12_serve_454 rfl rfl ?_
    refine xj_bipush (v := 7) dX12_serve_455 cb_7 ?_
    refine pfX12_395 dX12_serve_457 rfl ?_
    refine xj_goto (tgt := 463) dX12_serve_460 rfl ?_
    refine xj_sub (lv2 := [(0, .ref 0), (2, .int a2), (8, .int (0 : Int32))]) [2, 4, 0] rfl ?_
    exact tX12_serve_j463 _ _ _
set_option maxRecDepth 20000 in
def sX12_serve_j91 (a1 : Int32) (a2 : Int32) (a3 : Int64) (a5 : Int64) (w : xW) : Option (Unit × xW) :=
  sX12_serve_j96 a1 a2 a3 a5 (1 : Int32) w
set_option maxRecDepth 20000 in
theorem tX12_serve_j91 (a1 : Int32) (a2 : Int32) (a3 : Int64) (a5 : Int64) (w : xW) : xJ ιV mX12_serve lM (0, 0) 91 [(0, .ref 0), (1, .int a1), (2, .int a2), (3, .long a3), (5, .long a5)] [] w (sX12_serve_j91 a1 a2 a3 a5 w) := by
  unfold sX12_serve_j91
  refine xj_iconst (v := 1) dX12_serve_91 ci_1 ?_
  refine xj_goto (tgt := 96) dX12_serve_92 rfl ?_
  exact tX12_serve_j96 _ _ _ _ _ _
set_option maxRecDepth 20000 in
def sX12_serve_j95 (a1 : Int32) (a2 : Int32) (a3 : Int64) (a5 : Int64) (w : xW) : Option (Unit × xW) :=
  sX12_serve_j96 a1 a2 a3 a5 (0 : Int32) w
set_option maxRecDepth 20000 in
theorem tX12_serve_j95 (a1 : Int32) (a2 : Int32) (a3 : Int64) (a5 : Int64) (w : xW) : xJ ιV mX12_serve lM (0, 0) 95 [(0, .ref 0), (1, .int a1), (2, .int a2), (3, .long a3), (5, .long a5)] [] w (sX12_serve_j95 a1 a2 a3 a5 w) := by
  unfold sX12_serve_j95
  refine xj_iconst (v := 0) dX12_serve_95 ci_0 ?_
  exact tX12_serve_j96 _ _ _ _ _ _
set_option maxRecDepth 20000 in
def sX12_serve (p1 : Int32) (w : xW) : Option (Unit × xW) :=
  (if p1 = 0 then (if xin (3 : Int32) 8 then some ((), (xwi (xwi w 0 41 (w.1 9 ((3 : Int32).toNatClampNeg))) 0 33 (2 : Int32))) else none) else (if xin (4 : Int32) 8 then xbd (sX12_read (w.1 9 ((4 : Int32).toNatClampNeg)) (4 : Int32) w) (fun x1 w2 => (if (w2.1 0 45) = 0 then (if xin (3 : Int32) 8 then xlet ((w2.1 9 ((3 : Int32).toNatClampNeg)).toInt64 &&& (4294967295 : Int64)) (fun x3 => (if xin (1 : Int32) 8 then xlet ((w2.1 9 ((1 : Int32).toNatClampNeg)).toInt64 &&& (4294967295 : Int64)) (fun x4 => (if x4 = (0 : Int64) then sX12_serve_j91 p1 x1 x3 x4 w2 else (if x3 < (65536 : Int64) then sX12_serve_j95 p1 x1 x3 x4 w2 else (if (131072 : Int64) < (x3 + x4) then sX12_serve_j95 p1 x1 x3 x4 w2 else sX12_serve_j91 p1 x1 x3 x4 w2)))) else none)) else none) else some ((), w2))) else none))
set_option maxRecDepth 20000 in
theorem tX12_serve (p1 : Int32) (w : xW) : xJ ιV mX12_serve lM (0, 0) 0 [(0, .ref 0), (1, .int p1)] [] w (sX12_serve p1 w) := by
  unfold sX12_serve
  refine xj_iloadn 1 dX12_serve_0 rfl rfl ?_
  refine xj_ifne (tgt := 20) dX12_serve_1 rfl ?_ ?_
  · refine xj_aloadn 0 dX12_serve_4 rfl rfl ?_
    refine xj_aloadn 0 dX12_serve_5 rfl rfl ?_
    refine gfX12_44 dX12_serve_6 rfl ?_
    refine xj_iconst (v := 3) dX12_serve_9 ci_3 ?_
    refine xj_iald (k := 9) dX12_serve_10 rfl ?_
    refine pfX12_392 dX12_serve_11 rfl ?_
    refine xj_aloadn 0 dX12_serve_14 rfl rfl ?_
    refine xj_iconst (v := 2) dX12_serve_15 ci_2 ?_
    refine pfX12_395 dX12_serve_16 rfl ?_
    exact xj_rv dX12_serve_19 rfl
  · refine xj_aloadn 0 dX12_serve_20 rfl rfl ?_
    refine xj_aloadn 0 dX12_serve_21 rfl rfl ?_
    refine gfX12_44 dX12_serve_22 rfl ?_
    refine xj_iconst (v := 4) dX12_serve_25 ci_4 ?_
    refine xj_iald (k := 9) dX12_serve_26 rfl ?_
    refine xj_iconst (v := 4) dX12_serve_27 ci_4 ?_
    refine xj_cVi (argv := [.int (w.1 9 ((4 : Int32).toNatClampNeg)), .int (4 : Int32)]) (rest := []) dX12_serve_28 (kX12_read (w.1 9 ((4 : Int32).toNatClampNeg)) (4 : Int32) w) mkX12_read tw2281 rfl rfl rfl rfl rfl rfl (fun x1 w2 => ?_)
    refine xj_istoren (lv2 := [(2, .int x1), (0, .ref 0), (1, .int p1)]) dX12_serve_31 rfl (Nat.le_of_ble_eq_true rfl) rfl ?_
    refine xj_aloadn 1 dX12_serve_32 rfl rfl ?_
    refine gfX12_272 (v := (w2.1 0 45)) dX12_serve_33 rfl rfl ?_
    refine xj_ifeq (tgt := 40) dX12_serve_36 rfl ?_ ?_
    · refine xj_aloadn 1 dX12_serve_40 rfl rfl ?_
      refine gfX12_44 dX12_serve_41 rfl ?_
      refine xj_iconst (v := 3) dX12_serve_44 ci_3 ?_
      refine xj_iald (k := 9) dX12_serve_45 rfl ?_
      refine xj_i2l dX12_serve_46 ?_
      refine xj_ldc2 (v := 4294967295) tw2157 dX12_serve_47 ?_
      refine xj_land dX12_serve_50 ?_
      refine xj_letl (fun x3 => ?_)
      refine xj_lstoren (lv2 := [(3, .long x3), (2, .int x1), (0, .ref 0), (1, .int p1)]) dX12_serve_51 rfl (Nat.le_of_ble_eq_true rfl) rfl ?_
      refine xj_aloadn 2 dX12_serve_52 rfl rfl ?_
      refine gfX12_44 dX12_serve_53 rfl ?_
      refine xj_iconst (v := 1) dX12_serve_56 ci_1 ?_
      refine xj_iald (k := 9) dX12_serve_57 rfl ?_
      refine xj_i2l dX12_serve_58 ?_
      refine xj_ldc2 (v := 4294967295) tw2157 dX12_serve_59 ?_
      refine xj_land dX12_serve_62 ?_
      refine xj_letl (fun x4 => ?_)
      refine xj_lstore (lv2 := [(5, .long x4), (3, .long x3), (2, .int x1), (0, .ref 0), (1, .int p1)]) dX12_serve_63 (Nat.le_of_ble_eq_true rfl) rfl ?_
      refine xj_lload 0 dX12_serve_65 rfl ?_
      refine xj_lconst (v := 0) dX12_serve_67 cl_0 ?_
      refine xj_leq (tgt := 91) dX12_serve_68 dX12_serve_69 rfl ?_ ?_
      · refine xj_sub (lv2 := [(0, .ref 0), (1, .int p1), (2, .int x1), (3, .long x3), (5, .long x4)]) [3, 4, 2, 1, 0] rfl ?_
        exact tX12_serve_j91 _ _ _ _ _
      · refine xj_lloadn 1 dX12_serve_72 rfl rfl ?_
        refine xj_ldc2 (v := 65536) tw2158 dX12_serve_73 ?_
        refine xj_llt (tgt := 95) dX12_serve_76 dX12_serve_77 rfl ?_ ?_
        · refine xj_sub (lv2 := [(0, .ref 0), (1, .int p1), (2, .int x1), (3, .long x3), (5, .long x4)]) [3, 4, 2, 1, 0] rfl ?_
          exact tX12_serve_j95 _ _ _ _ _
        · refine xj_lloadn 1 dX12_serve_80 rfl rfl ?_
          refine xj_lload 0 dX12_serve_81 rfl ?_
          refine xj_ladd dX12_serve_83 ?_
          refine xj_ldc2 (v := 131072) tw2159 dX12_serve_84 ?_
          refine xj_lgt (tgt := 95) dX12_serve_87 dX12_serve_88 rfl ?_ ?_
          · refine xj_sub (lv2 := [(0, .ref 0), (1, .int p1), (2, .int x1), (3, .long x3), (5, .long x4)]) [3, 4, 2, 1, 0] rfl ?_
            exact tX12_serve_j95 _ _ _ _ _
          · refine xj_sub (lv2 := [(0, .ref 0), (1, .int p1), (2, .int x1), (3, .long x3), (5, .long x4)]) [3, 4, 2, 1, 0] rfl ?_
            exact tX12_serve_j91 _ _ _ _ _
    · exact xj_rv dX12_serve_39 rfl
theorem kX12_serve (p1 : Int32) (w : xW) : xMet jV mX12_serve lM (0, 0) [.ref 0, .int p1] w (sX12_serve p1 w) := xj_met lM_ok (by decide) (Nat.le_of_ble_eq_true rfl) (Nat.zero_le _) (Nat.zero_le _) (tX12_serve p1 w)
set_option maxRecDepth 20000 in
def sX12_step_l250 : Nat → Int32 → Int32 → Int32 → Int32 → Int32 → Int32 → Int32 → xW → Option (Int32 × xW)
  | 0, _, _, _, _, _, _, _, _ => none
  | n + 1, a3, a4, a5, a6, a7, a8, a10, w =>
  (if a10 < (8 : Int32) then (if xin a10 8 then (if xin a10 8 then (sX12_step_l250 n) a3 a4 a5 a6 a7 a8 (a10 + (1 : Int32)) (xwi w 9 a10.toNatClampNeg (w.1 10 a10.toNatClampNeg)) else none) else none) else (if xz a3 then (if xz a4 then (if xz a5 then (if xz a6 then (if xz a7 then some ((0 : Int32), (xwi (xwi (xwi (xwi (xwi (xwi (xwi w 0 36 a3) 0 37 a4) 0 38 a5) 0 39 a6) 0 40 a7) 0 34 a8) 0 33 (w.1 0 45))) else none) else none) else none) else none) else none))
set_option maxRecDepth 20000 in
theorem tX12_step_l250 : ∀ (n : Nat) (a3 : Int32) (a4 : Int32) (a5 : Int32) (a6 : Int32) (a7 : Int32) (a8 : Int32) (a10 : Int32) (w : xW), xJ ιI mX12_step lM (0, 0) 250 [(0, .ref 0), (3, .int a3), (4, .int a4), (5, .int a5), (6, .int a6), (7, .int a7), (8, .int a8), (10, .int a10)] [] w (sX12_step_l250 n a3 a4 a5 a6 a7 a8 a10 w) := by
  intro n
  induction n with
  | zero => intros; exact xj_none
  | succ n ih =>
    intro a3 a4 a5 a6 a7 a8 a10 w
    rw [sX12_step_l250]
    refine xj_iload 7 dX12_step_250 rfl ?_
    refine xj_bipush (v := 8) dX12_step_252 cb_8 ?_
    refine xj_ige (tgt := 277) dX12_step_254 rfl ?_ ?_
    · refine xj_aloadn 0 dX12_step_257 rfl rfl ?_
      refine gfX12_44 dX12_step_258 rfl ?_
      refine xj_iload 7 dX12_step_261 rfl ?_
      refine xj_aloadn 0 dX12_step_263 rfl rfl ?_
      refine gfX12_50 dX12_step_264 rfl ?_
      refine xj_iload 7 dX12_step_267 rfl ?_
      refine xj_iald (k := 10) dX12_step_269 rfl ?_
      refine xj_iast (k := 9) dX12_step_270 rfl ?_
      refine xj_iinc (n := 7) (lv2 := [(10, .int (a10 + (1 : Int32))), (0, .ref 0), (3, .int a3), (4, .int a4), (5, .int a5), (6, .int a6), (7, .int a7), (8, .int a8)]) dX12_step_271 rfl ci_1 (Nat.le_of_ble_eq_true rfl) rfl ?_
      refine xj_goto (tgt := 250) dX12_step_274 rfl ?_
      refine xj_sub (lv2 := [(0, .ref 0), (3, .int a3), (4, .int a4), (5, .int a5), (6, .int a6), (7, .int a7), (8, .int a8), (10, .int (a10 + (1 : Int32)))]) [1, 2, 3, 4, 5, 6, 7, 0] rfl ?_
      exact ih _ _ _ _ _ _ _ _
    · refine xj_aloadn 0 dX12_step_277 rfl rfl ?_
      refine xj_iloadn 1 dX12_step_278 rfl rfl ?_
      refine xj_guard (fun hz => ?_)
      refine pfX12_320 dX12_step_279 rfl hz ?_
      refine xj_aloadn 0 dX12_step_282 rfl rfl ?_
      refine xj_iload 2 dX12_step_283 rfl ?_
      refine xj_guard (fun hz => ?_)
      refine pfX12_317 dX12_step_285 rfl hz ?_
      refine xj_aloadn 0 dX12_step_288 rfl rfl ?_
      refine xj_iload 3 dX12_step_289 rfl ?_
      refine xj_guard (fun hz => ?_)
      refine pfX12_307 dX12_step_291 rfl hz ?_
      refine xj_aloadn 0 dX12_step_294 rfl rfl ?_
      refine xj_iload 4 dX12_step_295 rfl ?_
      refine xj_guard (fun hz => ?_)
      refine pfX12_314 dX12_step_297 rfl hz ?_
      refine xj_aloadn 0 dX12_step_300 rfl rfl ?_
      refine xj_iload 5 dX12_step_301 rfl ?_
      refine xj_guard (fun hz => ?_)
      refine pfX12_323 dX12_step_303 rfl hz ?_
      refine xj_aloadn 0 dX12_step_306 rfl rfl ?_
      refine xj_iload 6 dX12_step_307 rfl ?_
      refine pfX12_40 dX12_step_309 rfl ?_
      refine xj_aloadn 0 dX12_step_312 rfl rfl ?_
      refine xj_aloadn 0 dX12_step_313 rfl rfl ?_
      refine gfX12_272 (v := (w.1 0 45)) dX12_step_314 rfl rfl ?_
      refine pfX12_395 dX12_step_317 rfl ?_
      refine xj_iconst (v := 0) dX12_step_320 ci_0 ?_
      exact xj_rz dX12_step_321 rfl (Or.inl rfl)
set_option maxRecDepth 20000 in
def sX12_step_j212 (a3 : Int32) (a4 : Int32) (a5 : Int32) (a6 : Int32) (a7 : Int32) (a8 : Int32) (a9 : Int32) (w : xW) : Option (Int32 × xW) :=
  (if (w.1 0 45) = 0 then (if a9 < 0 then some ((1 : Int32), (xwl w 0 44 ((w.2 0 44) + (1 : Int64)))) else (if xin a9 2048 then (if xin a9 2048 then some ((1 : Int32), (xwi (xwl w 0 44 ((w.2 0 44) + (1 : Int64))) 6 a9.toNatClampNeg ((w.1 6 a9.toNatClampNeg) + (1 : Int32)))) else none) else none)) else sX12_step_l250 70000 a3 a4 a5 a6 a7 a8 (0 : Int32) w)
set_option maxRecDepth 20000 in
theorem tX12_step_j212 (a3 : Int32) (a4 : Int32) (a5 : Int32) (a6 : Int32) (a7 : Int32) (a8 : Int32) (a9 : Int32) (w : xW) : xJ ιI mX12_step lM (0, 0) 212 [(0, .ref 0), (3, .int a3), (4, .int a4), (5, .int a5), (6, .int a6), (7, .int a7), (8, .int a8), (9, .int a9)] [] w (sX12_step_j212 a3 a4 a5 a6 a7 a8 a9 w) := by
  unfold sX12_step_j212
  refine xj_aloadn 0 dX12_step_212 rfl rfl ?_
  refine gfX12_272 (v := (w.1 0 45)) dX12_step_213 rfl rfl ?_
  refine xj_ifne (tgt := 247) dX12_step_216 rfl ?_ ?_
  · refine xj_aloadn 0 dX12_step_219 rfl rfl ?_
    refine xj_dup dX12_step_220 rfl ?_
    refine gfX12_407 (v := (w.2 0 44)) dX12_step_221 rfl rfl ?_
    refine xj_lconst (v := 1) dX12_step_224 cl_1 ?_
    refine xj_ladd dX12_step_225 ?_
    refine pfX12_407 dX12_step_226 rfl ?_
    refine xj_iload 7 dX12_step_229 rfl ?_
    refine xj_iflt (tgt := 245) dX12_step_231 rfl ?_ ?_
    · refine xj_iconst (v := 1) dX12_step_245 ci_1 ?_
      exact xj_rz dX12_step_246 rfl (Or.inr rfl)
    · refine xj_aloadn 0 dX12_step_234 rfl rfl ?_
      refine gfX12_30 dX12_step_235 rfl ?_
      refine xj_iload 7 dX12_step_238 rfl ?_
      refine xj_dup2 dX12_step_240 rfl rfl ?_
      refine xj_iald (k := 6) dX12_step_241 rfl ?_
      refine xj_iconst (v := 1) dX12_step_242 ci_1 ?_
      refine xj_iadd dX12_step_243 ?_
      refine xj_iast (k := 6) dX12_step_244 rfl ?_
      refine xj_iconst (v := 1) dX12_step_245 ci_1 ?_
      exact xj_rz dX12_step_246 rfl (Or.inr rfl)
  · refine xj_iconst (v := 0) dX12_step_247 ci_0 ?_
    refine xj_istore (lv2 := [(10, .int (0 : Int32)), (0, .ref 0), (3, .int a3), (4, .int a4), (5, .int a5), (6, .int a6), (7, .int a7), (8, .int a8), (9, .int a9)]) dX12_step_248 (Nat.le_of_ble_eq_true rfl) rfl ?_
    refine xj_sub (lv2 := [(0, .ref 0), (3, .int a3), (4, .int a4), (5, .int a5), (6, .int a6), (7, .int a7), (8, .int a8), (10, .int (0 : Int32))]) [1, 2, 3, 4, 5, 6, 7, 0] rfl ?_
    exact tX12_step_l250 _ _ _ _ _ _ _ _ _
set_option maxRecDepth 20000 in
def sX12_step_j129 (a3 : Int32) (a4 : Int32) (a5 : Int32) (a6 : Int32) (a7 : Int32) (a8 : Int32) (a9 : Int32) (w : xW) : Option (Int32 × xW) :=
  sX12_step_j212 a3 a4 a5 a6 a7 a8 a9 (xwi w 0 45 (5 : Int32))
set_option maxRecDepth 20000 in
theorem tX12_step_j129 (a3 : Int32) (a4 : Int32) (a5 : Int32) (a6 : Int32) (a7 : Int32) (a8 : Int32) (a9 : Int32) (w : xW) : xJ ιI mX12_step lM (0, 0) 129 [(0, .ref 0), (3, .int a3), (4, .int a4), (5, .int a5), (6, .int a6), (7, .int a7), (8, .int a8), (9, .int a9)] [] w (sX12_step_j129 a3 a4 a5 a6 a7 a8 a9 w) := by
  unfold sX12_step_j129
  refine xj_aloadn 0 dX12_step_129 rfl rfl ?_
  refine xj_iconst (v := 5) dX12_step_130 ci_5 ?_
  refine pfX12_272 dX12_step_131 rfl ?_
  refine xj_goto (tgt := 212) dX12_step_134 rfl ?_
  exact tX12_step_j212 _ _ _ _ _ _ _ _
set_option maxRecDepth 20000 in
def sX12_step_j171 (a3 : Int32) (a4 : Int32) (a5 : Int32) (a6 : Int32) (a7 : Int32) (a8 : Int32) (a9 : Int32) (w : xW) : Option (Int32 × xW) :=
  sX12_step_j212 a3 a4 a5 a6 a7 a8 a9 (xwi w 0 45 (6 : Int32))
set_option maxRecDepth 20000 in
theorem tX12_step_j171 (a3 : Int32) (a4 : Int32) (a5 : Int32) (a6 : Int32) (a7 : Int32) (a8 : Int32) (a9 : Int32) (w : xW) : xJ ιI mX12_step lM (0, 0) 171 [(0, .ref 0), (3, .int a3), (4, .int a4), (5, .int a5), (6, .int a6), (7, .int a7), (8, .int a8), (9, .int a9)] [] w (sX12_step_j171 a3 a4 a5 a6 a7 a8 a9 w) := by
  unfold sX12_step_j171
  refine xj_aloadn 0 dX12_step_171 rfl rfl ?_
  refine xj_bipush (v := 6) dX12_step_172 cb_6 ?_
  refine pfX12_272 dX12_step_174 rfl ?_
  refine xj_goto (tgt := 212) dX12_step_177 rfl ?_
  exact tX12_step_j212 _ _ _ _ _ _ _ _
set_option maxRecDepth 20000 in
def sX12_step_j209 (a3 : Int32) (a4 : Int32) (a5 : Int32) (a6 : Int32) (a7 : Int32) (a8 : Int32) (a9 : Int32) (b0 : Int32) (w : xW) : Option (Int32 × xW) :=
  sX12_step_j212 a3 a4 a5 a6 a7 a8 a9 (xwi w 0 33 b0)
set_option maxRecDepth 20000 in
theorem tX12_step_j209 (a3 : Int32) (a4 : Int32) (a5 : Int32) (a6 : Int32) (a7 : Int32) (a8 : Int32) (a9 : Int32) (b0 : Int32) (w : xW) : xJ ιI mX12_step lM (0, 0) 209 [(0, .ref 0), (3, .int a3), (4, .int a4), (5, .int a5), (6, .int a6), (7, .int a7), (8, .int a8), (9, .int a9)] [.int b0, .ref 0] w (sX12_step_j209 a3 a4 a5 a6 a7 a8 a9 b0 w) := by
  unfold sX12_step_j209
  refine pfX12_395 dX12_step_209 rfl ?_
  exact tX12_step_j212 _ _ _ _ _ _ _ _
set_option maxRecDepth 20000 in
def sX12_step_j205 (a3 : Int32) (a4 : Int32) (a5 : Int32) (a6 : Int32) (a7 : Int32) (a8 : Int32) (a9 : Int32) (w : xW) : Option (Int32 × xW) :=
  sX12_step_j209 a3 a4 a5 a6 a7 a8 a9 (w.1 0 33) w
set_option maxRecDepth 20000 in
theorem tX12_step_j205 (a3 : Int32) (a4 : Int32) (a5 : Int32) (a6 : Int32) (a7 : Int32) (a8 : Int32) (a9 : Int32) (w : xW) : xJ ιI mX12_step lM (0, 0) 205 [(0, .ref 0), (3, .int a3), (4, .int a4), (5, .int a5), (6, .int a6), (7, .int a7), (8, .int a8), (9, .int a9)] [.ref 0] w (sX12_step_j205 a3 a4 a5 a6 a7 a8 a9 w) := by
  unfold sX12_step_j205
  refine xj_aloadn 0 dX12_step_205 rfl rfl ?_
  refine gfX12_395 (v := (w.1 0 33)) dX12_step_206 rfl rfl ?_
  exact tX12_step_j209 _ _ _ _ _ _ _ _ _
set_option maxRecDepth 20000 in
def sX12_step_j180 (a3 : Int32) (a4 : Int32) (a5 : Int32) (a6 : Int32) (a7 : Int32) (a8 : Int32) (a9 : Int32) (w : xW) : Option (Int32 × xW) :=
  xbd (sX12_doOne w) (fun _ w1 => (if (w1.1 0 45) = 0 then (if (w1.1 0 17) = (32 : Int32) then sX12_step_j209 a3 a4 a5 a6 a7 a8 a9 (3 : Int32) w1 else sX12_step_j205 a3 a4 a5 a6 a7 a8 a9 w1) else sX12_step_j205 a3 a4 a5 a6 a7 a8 a9 w1))
set_option maxRecDepth 20000 in
theorem tX12_step_j180 (a3 : Int32) (a4 : Int32) (a5 : Int32) (a6 : Int32) (a7 : Int32) (a8 : Int32) (a9 : Int32) (w : xW) : xJ ιI mX12_step lM (0, 0) 180 [(0, .ref 0), (3, .int a3), (4, .int a4), (5, .int a5), (6, .int a6), (7, .int a7), (8, .int a8), (9, .int a9)] [] w (sX12_step_j180 a3 a4 a5 a6 a7 a8 a9 w) := by
  unfold sX12_step_j180
  refine xj_aloadn 0 dX12_step_180 rfl rfl ?_
  refine xj_cVv (argv := []) (rest := []) dX12_step_181 (kX12_doOne w) mkX12_doOne tw2286 rfl rfl rfl rfl rfl rfl (fun _ w1 => ?_)
  refine xj_aloadn 0 dX12_step_184 rfl rfl ?_
  refine xj_aloadn 0 dX12_step_185 rfl rfl ?_
  refine gfX12_272 (v := (w1.1 0 45)) dX12_step_186 rfl rfl ?_
  refine xj_ifne (tgt := 205) dX12_step_189 rfl ?_ ?_
  · refine xj_aloadn 0 dX12_step_192 rfl rfl ?_
    refine gfX12_70 (v := (w1.1 0 17)) dX12_step_193 rfl rfl ?_
    refine xj_bipush (v := 32) dX12_step_196 cb_32 ?_
    refine xj_ine (tgt := 205) dX12_step_198 rfl ?_ ?_
    · refine xj_iconst (v := 3) dX12_step_201 ci_3 ?_
      refine xj_goto (tgt := 209) dX12_step_202 rfl ?_
      exact tX12_step_j209 _ _ _ _ _ _ _ _ _
    · exact tX12_step_j205 _ _ _ _ _ _ _ _
  · exact tX12_step_j205 _ _ _ _ _ _ _ _
set_option maxRecDepth 20000 in
def sX12_step_l53 : Nat → Int64 → Int32 → Int32 → Int32 → Int32 → Int32 → Int32 → Int32 → xW → Option (Int32 × xW)
  | 0, _, _, _, _, _, _, _, _, _ => none
  | n + 1, a1, a3, a4, a5, a6, a7, a8, a9, w =>
  (if a9 < (8 : Int32) then (if xin a9 8 then (if xin a9 8 then (sX12_step_l53 n) a1 a3 a4 a5 a6 a7 a8 (a9 + (1 : Int32)) (xwi w 10 a9.toNatClampNeg (w.1 9 a9.toNatClampNeg)) else none) else none) else xbd (sX12_isGate a1 w) (fun x1 w2 => (if x1 = 0 then (if a1 < (4096 : Int64) then sX12_step_j129 a3 a4 a5 a6 a7 a8 (-1 : Int32) w2 else (if a1 < ((4096 : Int32) + (w2.1 0 2)).toInt64 then xbd (sX12_take (a1.toInt32 - (4096 : Int32)) w2) (fun x3 w4 => (if x3 = 0 then sX12_step_j171 a3 a4 a5 a6 a7 a8 (a1.toInt32 - (4096 : Int32)) w4 else (if (w4.1 0 9) = 0 then sX12_step_j180 a3 a4 a5 a6 a7 a8 (a1.toInt32 - (4096 : Int32)) w4 else (if xin (a1.toInt32 - (4096 : Int32)) 2048 then (if (w4.1 5 ((a1.toInt32 - (4096 : Int32)).toNatClampNeg)) = 0 then sX12_step_j171 a3 a4 a5 a6 a7 a8 (a1.toInt32 - (4096 : Int32)) w4 else sX12_step_j180 a3 a4 a5 a6 a7 a8 (a1.toInt32 - (4096 : Int32)) w4) else none)))) else sX12_step_j129 a3 a4 a5 a6 a7 a8 (-1 : Int32) w2)) else (if ¬ (32 : Int32) = 0 then xbd (sX12_serve ((a1 - (1024 : Int64)).toInt32 / (32 : Int32)) w2) (fun _ w5 => sX12_step_j212 a3 a4 a5 a6 a7 a8 (-1 : Int32) w5) else none))))
set_option maxRecDepth 20000 in
theorem tX12_step_l53 : ∀ (n : Nat) (a1 : Int64) (a3 : Int32) (a4 : Int32) (a5 : Int32) (a6 : Int32) (a7 : Int32) (a8 : Int32) (a9 : Int32) (w : xW), xJ ιI mX12_step lM (0, 0) 53 [(0, .ref 0), (1, .long a1), (3, .int a3), (4, .int a4), (5, .int a5), (6, .int a6), (7, .int a7), (8, .int a8), (9, .int a9)] [] w (sX12_step_l53 n a1 a3 a4 a5 a6 a7 a8 a9 w) := by
  intro n
  induction n with
  | zero => intros; exact xj_none
  | succ n ih =>
    intro a1 a3 a4 a5 a6 a7 a8 a9 w
    rw [sX12_step_l53]
    refine xj_iload 8 dX12_step_53 rfl ?_
    refine xj_bipush (v := 8) dX12_step_55 cb_8 ?_
    refine xj_ige (tgt := 80) dX12_step_57 rfl ?_ ?_
    · refine xj_aloadn 0 dX12_step_60 rfl rfl ?_
      refine gfX12_50 dX12_step_61 rfl ?_
      refine xj_iload 8 dX12_step_64 rfl ?_
      refine xj_aloadn 0 dX12_step_66 rfl rfl ?_
      refine gfX12_44 dX12_step_67 rfl ?_
      refine xj_iload 8 dX12_step_70 rfl ?_
      refine xj_iald (k := 9) dX12_step_72 rfl ?_
      refine xj_iast (k := 10) dX12_step_73 rfl ?_
      refine xj_iinc (n := 8) (lv2 := [(9, .int (a9 + (1 : Int32))), (0, .ref 0), (1, .long a1), (3, .int a3), (4, .int a4), (5, .int a5), (6, .int a6), (7, .int a7), (8, .int a8)]) dX12_step_74 rfl ci_1 (Nat.le_of_ble_eq_true rfl) rfl ?_
      refine xj_goto (tgt := 53) dX12_step_77 rfl ?_
      refine xj_sub (lv2 := [(0, .ref 0), (1, .long a1), (3, .int a3), (4, .int a4), (5, .int a5), (6, .int a6), (7, .int a7), (8, .int a8), (9, .int (a9 + (1 : Int32)))]) [1, 2, 3, 4, 5, 6, 7, 8, 0] rfl ?_
      exact ih _ _ _ _ _ _ _ _ _
    · refine xj_iconst (v := -1) dX12_step_80 ci_m1 ?_
      refine xj_istore (lv2 := [(9, .int (-1 : Int32)), (0, .ref 0), (1, .long a1), (3, .int a3), (4, .int a4), (5, .int a5), (6, .int a6), (7, .int a7), (8, .int a8)]) dX12_step_81 (Nat.le_of_ble_eq_true rfl) rfl ?_
      refine xj_aloadn 1 dX12_step_83 rfl rfl ?_
      refine xj_lloadn 2 dX12_step_84 rfl rfl ?_
      refine xj_cVi (argv := [.long a1]) (rest := []) dX12_step_85 (kX12_isGate a1 w) mkX12_isGate tw2161 rfl rfl rfl rfl rfl rfl (fun x1 w2 => ?_)
      refine xj_ifeq (tgt := 107) dX12_step_88 rfl ?_ ?_
      · refine xj_lloadn 2 dX12_step_107 rfl rfl ?_
        refine xj_ldc2 (v := 4096) tw2160 dX12_step_108 ?_
        refine xj_llt (tgt := 129) dX12_step_111 dX12_step_112 rfl ?_ ?_
        · refine xj_sub (lv2 := [(0, .ref 0), (3, .int a3), (4, .int a4), (5, .int a5), (6, .int a6), (7, .int a7), (8, .int a8), (9, .int (-1 : Int32))]) [1, 3, 4, 5, 6, 7, 8, 0] rfl ?_
          exact tX12_step_j129 _ _ _ _ _ _ _ _
        · refine xj_lloadn 2 dX12_step_115 rfl rfl ?_
          refine xj_sipush (v := 4096) dX12_step_116 cs_4096 ?_
          refine xj_aloadn 1 dX12_step_119 rfl rfl ?_
          refine gfX12_59 (v := (w2.1 0 2)) dX12_step_120 rfl rfl ?_
          refine xj_iadd dX12_step_123 ?_
          refine xj_i2l dX12_step_124 ?_
          refine xj_llt (tgt := 137) dX12_step_125 dX12_step_126 rfl ?_ ?_
          · refine xj_lloadn 2 dX12_step_137 rfl rfl ?_
            refine xj_l2i dX12_step_138 ?_
            refine xj_sipush (v := 4096) dX12_step_139 cs_4096 ?_
            refine xj_isub dX12_step_142 ?_
            refine xj_istore (lv2 := [(9, .int (a1.toInt32 - (4096 : Int32))), (0, .ref 0), (1, .long a1), (3, .int a3), (4, .int a4), (5, .int a5), (6, .int a6), (7, .int a7), (8, .int a8)]) dX12_step_143 (Nat.le_of_ble_eq_true rfl) rfl ?_
            refine xj_aloadn 1 dX12_step_145 rfl rfl ?_
            refine xj_iload 0 dX12_step_146 rfl ?_
            refine xj_cVi (argv := [.int (a1.toInt32 - (4096 : Int32))]) (rest := []) dX12_step_148 (kX12_take (a1.toInt32 - (4096 : Int32)) w2) mkX12_take tw2059 rfl rfl rfl rfl rfl rfl (fun x3 w4 => ?_)
            refine xj_ifeq (tgt := 171) dX12_step_151 rfl ?_ ?_
            · refine xj_sub (lv2 := [(0, .ref 0), (3, .int a3), (4, .int a4), (5, .int a5), (6, .int a6), (7, .int a7), (8, .int a8), (9, .int (a1.toInt32 - (4096 : Int32)))]) [1, 3, 4, 5, 6, 7, 8, 0] rfl ?_
              exact tX12_step_j171 _ _ _ _ _ _ _ _
            · refine xj_aloadn 1 dX12_step_154 rfl rfl ?_
              refine gfX12_195 (v := (w4.1 0 9)) dX12_step_155 rfl rfl ?_
              refine xj_ifeq (tgt := 180) dX12_step_158 rfl ?_ ?_
              · refine xj_sub (lv2 := [(0, .ref 0), (3, .int a3), (4, .int a4), (5, .int a5), (6, .int a6), (7, .int a7), (8, .int a8), (9, .int (a1.toInt32 - (4096 : Int32)))]) [1, 3, 4, 5, 6, 7, 8, 0] rfl ?_
                exact tX12_step_j180 _ _ _ _ _ _ _ _
              · refine xj_aloadn 1 dX12_step_161 rfl rfl ?_
                refine gfX12_27 dX12_step_162 rfl ?_
                refine xj_iload 0 dX12_step_165 rfl ?_
                refine xj_iald (k := 5) dX12_step_167 rfl ?_
                refine xj_ifne (tgt := 180) dX12_step_168 rfl ?_ ?_
                · refine xj_sub (lv2 := [(0, .ref 0), (3, .int a3), (4, .int a4), (5, .int a5), (6, .int a6), (7, .int a7), (8, .int a8), (9, .int (a1.toInt32 - (4096 : Int32)))]) [1, 3, 4, 5, 6, 7, 8, 0] rfl ?_
                  exact tX12_step_j171 _ _ _ _ _ _ _ _
                · refine xj_sub (lv2 := [(0, .ref 0), (3, .int a3), (4, .int a4), (5, .int a5), (6, .int a6), (7, .int a7), (8, .int a8), (9, .int (a1.toInt32 - (4096 : Int32)))]) [1, 3, 4, 5, 6, 7, 8, 0] rfl ?_
                  exact tX12_step_j180 _ _ _ _ _ _ _ _
          · refine xj_sub (lv2 := [(0, .ref 0), (3, .int a3), (4, .int a4), (5, .int a5), (6, .int a6), (7, .int a7), (8, .int a8), (9, .int (-1 : Int32))]) [1, 3, 4, 5, 6, 7, 8, 0] rfl ?_
            exact tX12_step_j129 _ _ _ _ _ _ _ _
      · refine xj_aloadn 1 dX12_step_91 rfl rfl ?_
        refine xj_lloadn 2 dX12_step_92 rfl rfl ?_
        refine xj_ldc2 (v := 1024) tw2165 dX12_step_93 ?_
        refine xj_lsub dX12_step_96 ?_
        refine xj_l2i dX12_step_97 ?_
        refine xj_bipush (v := 32) dX12_step_98 cb_32 ?_
        refine xj_idiv dX12_step_100 ?_
        refine xj_cVv (argv := [.int ((a1 - (1024 : Int64)).toInt32 / (32 : Int32))]) (rest := []) dX12_step_101 (kX12_serve ((a1 - (1024 : Int64)).toInt32 / (32 : Int32)) w2) mkX12_serve tw2277 rfl rfl rfl rfl rfl rfl (fun _ w5 => ?_)
        refine xj_goto (tgt := 212) dX12_step_104 rfl ?_
        refine xj_sub (lv2 := [(0, .ref 0), (3, .int a3), (4, .int a4), (5, .int a5), (6, .int a6), (7, .int a7), (8, .int a8), (9, .int (-1 : Int32))]) [1, 3, 4, 5, 6, 7, 8, 0] rfl ?_
        exact tX12_step_j212 _ _ _ _ _ _ _ _
set_option maxRecDepth 20000 in
def sX12_step (w : xW) : Option (Int32 × xW) :=
  xlet ((w.1 0 34).toInt64 &&& (4294967295 : Int64)) (fun x1 => sX12_step_l53 70000 x1 (w.1 0 36) (w.1 0 37) (w.1 0 38) (w.1 0 39) (w.1 0 40) (w.1 0 34) (0 : Int32) (xwi w 0 45 (0 : Int32)))
set_option maxRecDepth 20000 in
theorem tX12_step (w : xW) : xJ ιI mX12_step lM (0, 0) 0 [(0, .ref 0)] [] w (sX12_step w) := by
  unfold sX12_step
  refine xj_aloadn 0 dX12_step_0 rfl rfl ?_
  refine gfX12_40 (v := (w.1 0 34)) dX12_step_1 rfl rfl ?_
  refine xj_i2l dX12_step_4 ?_
  refine xj_ldc2 (v := 4294967295) tw2157 dX12_step_5 ?_
  refine xj_land dX12_step_8 ?_
  refine xj_letl (fun x1 => ?_)
  refine xj_lstoren (lv2 := [(1, .long x1), (0, .ref 0)]) dX12_step_9 rfl (Nat.le_of_ble_eq_true rfl) rfl ?_
  refine xj_aloadn 1 dX12_step_10 rfl rfl ?_
  refine gfX12_320 (v := (w.1 0 36)) dX12_step_11 rfl rfl ?_
  refine xj_istoren (lv2 := [(3, .int (w.1 0 36)), (1, .long x1), (0, .ref 0)]) dX12_step_14 rfl (Nat.le_of_ble_eq_true rfl) rfl ?_
  refine xj_aloadn 2 dX12_step_15 rfl rfl ?_
  refine gfX12_317 (v := (w.1 0 37)) dX12_step_16 rfl rfl ?_
  refine xj_istore (lv2 := [(4, .int (w.1 0 37)), (3, .int (w.1 0 36)), (1, .long x1), (0, .ref 0)]) dX12_step_19 (Nat.le_of_ble_eq_true rfl) rfl ?_
  refine xj_aloadn 3 dX12_step_21 rfl rfl ?_
  refine gfX12_307 (v := (w.1 0 38)) dX12_step_22 rfl rfl ?_
  refine xj_istore (lv2 := [(5, .int (w.1 0 38)), (4, .int (w.1 0 37)), (3, .int (w.1 0 36)), (1, .long x1), (0, .ref 0)]) dX12_step_25 (Nat.le_of_ble_eq_true rfl) rfl ?_
  refine xj_aloadn 4 dX12_step_27 rfl rfl ?_
  refine gfX12_314 (v := (w.1 0 39)) dX12_step_28 rfl rfl ?_
  refine xj_istore (lv2 := [(6, .int (w.1 0 39)), (5, .int (w.1 0 38)), (4, .int (w.1 0 37)), (3, .int (w.1 0 36)), (1, .long x1), (0, .ref 0)]) dX12_step_31 (Nat.le_of_ble_eq_true rfl) rfl ?_
  refine xj_aloadn 5 dX12_step_33 rfl rfl ?_
  refine gfX12_323 (v := (w.1 0 40)) dX12_step_34 rfl rfl ?_
  refine xj_istore (lv2 := [(7, .int (w.1 0 40)), (6, .int (w.1 0 39)), (5, .int (w.1 0 38)), (4, .int (w.1 0 37)), (3, .int (w.1 0 36)), (1, .long x1), (0, .ref 0)]) dX12_step_37 (Nat.le_of_ble_eq_true rfl) rfl ?_
  refine xj_aloadn 6 dX12_step_39 rfl rfl ?_
  refine gfX12_40 (v := (w.1 0 34)) dX12_step_40 rfl rfl ?_
  refine xj_istore (lv2 := [(8, .int (w.1 0 34)), (7, .int (w.1 0 40)), (6, .int (w.1 0 39)), (5, .int (w.1 0 38)), (4, .int (w.1 0 37)), (3, .int (w.1 0 36)), (1, .long x1), (0, .ref 0)]) dX12_step_43 (Nat.le_of_ble_eq_true rfl) rfl ?_
  refine xj_aloadn 7 dX12_step_45 rfl rfl ?_
  refine xj_iconst (v := 0) dX12_step_46 ci_0 ?_
  refine pfX12_272 dX12_step_47 rfl ?_
  refine xj_iconst (v := 0) dX12_step_50 ci_0 ?_
  refine xj_istore (lv2 := [(9, .int (0 : Int32)), (8, .int (w.1 0 34)), (7, .int (w.1 0 40)), (6, .int (w.1 0 39)), (5, .int (w.1 0 38)), (4, .int (w.1 0 37)), (3, .int (w.1 0 36)), (1, .long x1), (0, .ref 0)]) dX12_step_51 (Nat.le_of_ble_eq_true rfl) rfl ?_
  refine xj_sub (lv2 := [(0, .ref 0), (1, .long x1), (3, .int (w.1 0 36)), (4, .int (w.1 0 37)), (5, .int (w.1 0 38)), (6, .int (w.1 0 39)), (7, .int (w.1 0 40)), (8, .int (w.1 0 34)), (9, .int (0 : Int32))]) [8, 7, 6, 5, 4, 3, 2, 1, 0] rfl ?_
  exact tX12_step_l53 _ _ _ _ _ _ _ _ _ _
theorem kX12_step (w : xW) : xMet jI mX12_step lM (0, 0) [.ref 0] w (sX12_step w) := xj_met lM_ok (by decide) (Nat.le_of_ble_eq_true rfl) (Nat.zero_le _) (Nat.zero_le _) (tX12_step w)
set_option maxRecDepth 20000 in
def sX12_change_l22 : Nat → Int32 → xW → Option (Unit × xW)
  | 0, _, _ => none
  | n + 1, a1, w =>
  (if a1 < (2048 : Int32) then (if xin a1 2048 then (sX12_change_l22 n) (a1 + (1 : Int32)) (xwi w 5 a1.toNatClampNeg (0 : Int32)) else none) else some ((), w))
set_option maxRecDepth 20000 in
theorem tX12_change_l22 : ∀ (n : Nat) (a1 : Int32) (w : xW), xJ ιV mX12_change lM (0, 0) 22 [(0, .ref 0), (1, .int a1)] [] w (sX12_change_l22 n a1 w) := by
  intro n
  induction n with
  | zero => intros; exact xj_none
  | succ n ih =>
    intro a1 w
    rw [sX12_change_l22]
    refine xj_iloadn 1 dX12_change_22 rfl rfl ?_
    refine xj_sipush (v := 2048) dX12_change_23 cs_2048 ?_
    refine xj_ige (tgt := 42) dX12_change_26 rfl ?_ ?_
    · refine xj_aloadn 0 dX12_change_29 rfl rfl ?_
      refine gfX12_27 dX12_change_30 rfl ?_
      refine xj_iloadn 1 dX12_change_33 rfl rfl ?_
      refine xj_iconst (v := 0) dX12_change_34 ci_0 ?_
      refine xj_iast (k := 5) dX12_change_35 rfl ?_
      refine xj_iinc (n := 1) (lv2 := [(1, .int (a1 + (1 : Int32))), (0, .ref 0)]) dX12_change_36 rfl ci_1 (Nat.le_of_ble_eq_true rfl) rfl ?_
      refine xj_goto (tgt := 22) dX12_change_39 rfl ?_
      refine xj_sub (lv2 := [(0, .ref 0), (1, .int (a1 + (1 : Int32)))]) [1, 0] rfl ?_
      exact ih _ _
    · exact xj_rv dX12_change_42 rfl
set_option maxRecDepth 20000 in
def sX12_change (w : xW) : Option (Unit × xW) :=
  sX12_change_l22 70000 (0 : Int32) (xwi (xwi (xwi (xwi w 0 9 (0 : Int32)) 0 10 (0 : Int32)) 0 11 (-1 : Int32)) 0 33 (0 : Int32))
set_option maxRecDepth 20000 in
theorem tX12_change (w : xW) : xJ ιV mX12_change lM (0, 0) 0 [(0, .ref 0)] [] w (sX12_change w) := by
  unfold sX12_change
  refine xj_aloadn 0 dX12_change_0 rfl rfl ?_
  refine xj_iconst (v := 0) dX12_change_1 ci_0 ?_
  refine pfX12_195 dX12_change_2 rfl (Or.inl rfl) ?_
  refine xj_aloadn 0 dX12_change_5 rfl rfl ?_
  refine xj_iconst (v := 0) dX12_change_6 ci_0 ?_
  refine pfX12_192 dX12_change_7 rfl ?_
  refine xj_aloadn 0 dX12_change_10 rfl rfl ?_
  refine xj_iconst (v := -1) dX12_change_11 ci_m1 ?_
  refine pfX12_23 dX12_change_12 rfl ?_
  refine xj_aloadn 0 dX12_change_15 rfl rfl ?_
  refine xj_iconst (v := 0) dX12_change_16 ci_0 ?_
  refine pfX12_395 dX12_change_17 rfl ?_
  refine xj_iconst (v := 0) dX12_change_20 ci_0 ?_
  refine xj_istoren (lv2 := [(1, .int (0 : Int32)), (0, .ref 0)]) dX12_change_21 rfl (Nat.le_of_ble_eq_true rfl) rfl ?_
  refine xj_sub (lv2 := [(0, .ref 0), (1, .int (0 : Int32))]) [1, 0] rfl ?_
  exact tX12_change_l22 _ _ _
theorem kX12_change (w : xW) : xMet jV mX12_change lM (0, 0) [.ref 0] w (sX12_change w) := xj_met lM_ok (by decide) (Nat.le_of_ble_eq_true rfl) (Nat.zero_le _) (Nat.zero_le _) (tX12_change w)
set_option maxRecDepth 20000 in
def sX12_feed_l47 : Nat → Int32 → Int64 → Int32 → xW → Option (Int32 × xW)
  | 0, _, _, _, _ => none
  | n + 1, a1, a2, a4, w =>
  (if a4 < a1 then (if xin (w.1 0 2) 2048 then (sX12_feed_l47 n) a1 a2 (a4 + (1 : Int32)) (xwi (xwi w 1 ((w.1 0 2).toNatClampNeg) (((xlshr a2 ((8 : Int32) * a4)) &&& (255 : Int64)).toInt32)) 0 2 ((w.1 0 2) + (1 : Int32))) else none) else xbd (sX12_change w) (fun _ w1 => some ((w1.1 0 2), w1)))
set_option maxRecDepth 20000 in
theorem tX12_feed_l47 : ∀ (n : Nat) (a1 : Int32) (a2 : Int64) (a4 : Int32) (w : xW), xJ ιI mX12_feed lM (0, 0) 47 [(0, .ref 0), (1, .int a1), (2, .long a2), (4, .int a4)] [] w (sX12_feed_l47 n a1 a2 a4 w) := by
  intro n
  induction n with
  | zero => intros; exact xj_none
  | succ n ih =>
    intro a1 a2 a4 w
    rw [sX12_feed_l47]
    refine xj_iload 3 dX12_feed_47 rfl ?_
    refine xj_iloadn 1 dX12_feed_49 rfl rfl ?_
    refine xj_ige (tgt := 90) dX12_feed_50 rfl ?_ ?_
    · refine xj_aloadn 0 dX12_feed_53 rfl rfl ?_
      refine gfX12_7 dX12_feed_54 rfl ?_
      refine xj_aloadn 0 dX12_feed_57 rfl rfl ?_
      refine gfX12_59 (v := (w.1 0 2)) dX12_feed_58 rfl rfl ?_
      refine xj_lloadn 2 dX12_feed_61 rfl rfl ?_
      refine xj_bipush (v := 8) dX12_feed_62 cb_8 ?_
      refine xj_iload 3 dX12_feed_64 rfl ?_
      refine xj_imul dX12_feed_66 ?_
      refine xj_lshr dX12_feed_67 ?_
      refine xj_ldc2 (v := 255) tw2230 dX12_feed_68 ?_
      refine xj_land dX12_feed_71 ?_
      refine xj_l2i dX12_feed_72 ?_
      refine xj_iast (k := 1) dX12_feed_73 rfl ?_
      refine xj_aloadn 0 dX12_feed_74 rfl rfl ?_
      refine xj_dup dX12_feed_75 rfl ?_
      refine gfX12_59 (v := (w.1 0 2)) dX12_feed_76 rfl rfl ?_
      refine xj_iconst (v := 1) dX12_feed_79 ci_1 ?_
      refine xj_iadd dX12_feed_80 ?_
      refine pfX12_59 dX12_feed_81 rfl ?_
      refine xj_iinc (n := 3) (lv2 := [(4, .int (a4 + (1 : Int32))), (0, .ref 0), (1, .int a1), (2, .long a2)]) dX12_feed_84 rfl ci_1 (Nat.le_of_ble_eq_true rfl) rfl ?_
      refine xj_goto (tgt := 47) dX12_feed_87 rfl ?_
      refine xj_sub (lv2 := [(0, .ref 0), (1, .int a1), (2, .long a2), (4, .int (a4 + (1 : Int32)))]) [1, 2, 3, 0] rfl ?_
      exact ih _ _ _ _
    · refine xj_aloadn 0 dX12_feed_90 rfl rfl ?_
      refine xj_cVv (argv := []) (rest := []) dX12_feed_91 (kX12_change w) mkX12_change tw2231 rfl rfl rfl rfl rfl rfl (fun _ w1 => ?_)
      refine xj_aloadn 0 dX12_feed_94 rfl rfl ?_
      refine gfX12_59 (v := (w1.1 0 2)) dX12_feed_95 rfl rfl ?_
      exact xj_ri dX12_feed_98 rfl
set_option maxRecDepth 20000 in
def sX12_feed_j18 (a1 : Int32) (a2 : Int64) (b0 : Int32) (w : xW) : Option (Int32 × xW) :=
  (if 0 < b0 then some ((0 : Int32), (xwi w 0 0 b0)) else (if (2048 : Int32) < ((w.1 0 2) + a1) then some ((-1 : Int32), (xwi w 0 0 b0)) else sX12_feed_l47 70000 a1 a2 (0 : Int32) (xwi w 0 0 b0)))
set_option maxRecDepth 20000 in
theorem tX12_feed_j18 (a1 : Int32) (a2 : Int64) (b0 : Int32) (w : xW) : xJ ιI mX12_feed lM (0, 0) 18 [(0, .ref 0), (1, .int a1), (2, .long a2)] [.int b0, .ref 0] w (sX12_feed_j18 a1 a2 b0 w) := by
  unfold sX12_feed_j18
  refine pfX12_53 dX12_feed_18 rfl ?_
  refine xj_aloadn 0 dX12_feed_21 rfl rfl ?_
  refine gfX12_53 (v := b0) dX12_feed_22 rfl rfl ?_
  refine xj_ifle (tgt := 30) dX12_feed_25 rfl ?_ ?_
  · refine xj_iconst (v := 0) dX12_feed_28 ci_0 ?_
    exact xj_ri dX12_feed_29 rfl
  · refine xj_aloadn 0 dX12_feed_30 rfl rfl ?_
    refine gfX12_59 (v := (w.1 0 2)) dX12_feed_31 rfl rfl ?_
    refine xj_iloadn 1 dX12_feed_34 rfl rfl ?_
    refine xj_iadd dX12_feed_35 ?_
    refine xj_sipush (v := 2048) dX12_feed_36 cs_2048 ?_
    refine xj_ile (tgt := 44) dX12_feed_39 rfl ?_ ?_
    · refine xj_iconst (v := -1) dX12_feed_42 ci_m1 ?_
      exact xj_ri dX12_feed_43 rfl
    · refine xj_iconst (v := 0) dX12_feed_44 ci_0 ?_
      refine xj_istore (lv2 := [(4, .int (0 : Int32)), (0, .ref 0), (1, .int a1), (2, .long a2)]) dX12_feed_45 (Nat.le_of_ble_eq_true rfl) rfl ?_
      refine xj_sub (lv2 := [(0, .ref 0), (1, .int a1), (2, .long a2), (4, .int (0 : Int32))]) [1, 2, 3, 0] rfl ?_
      exact tX12_feed_l47 _ _ _ _ _
set_option maxRecDepth 20000 in
def sX12_feed (p1 : Int32) (p2 : Int64) (w : xW) : Option (Int32 × xW) :=
  xbd (sX12_isIn p1.toInt64 (1 : Int64) (8 : Int64) w) (fun x1 w2 => (if x1 = 0 then sX12_feed_j18 p1 p2 (1 : Int32) w2 else sX12_feed_j18 p1 p2 (0 : Int32) w2))
set_option maxRecDepth 20000 in
theorem tX12_feed (p1 : Int32) (p2 : Int64) (w : xW) : xJ ιI mX12_feed lM (0, 0) 0 [(0, .ref 0), (1, .int p1), (2, .long p2)] [] w (sX12_feed p1 p2 w) := by
  unfold sX12_feed
  refine xj_aloadn 0 dX12_feed_0 rfl rfl ?_
  refine xj_iloadn 1 dX12_feed_1 rfl rfl ?_
  refine xj_i2l dX12_feed_2 ?_
  refine xj_lconst (v := 1) dX12_feed_3 cl_1 ?_
  refine xj_ldc2 (v := 8) tw2229 dX12_feed_4 ?_
  refine xj_cSi (argv := [.long p1.toInt64, .long (1 : Int64), .long (8 : Int64)]) (rest := [.ref 0]) dX12_feed_7 (kX12_isIn p1.toInt64 (1 : Int64) (8 : Int64) w) mkX12_isIn tw2150 rfl rfl rfl rfl (fun x1 w2 => ?_)
  refine xj_ifeq (tgt := 17) dX12_feed_10 rfl ?_ ?_
  · refine xj_iconst (v := 1) dX12_feed_17 ci_1 ?_
    exact tX12_feed_j18 _ _ _ _
  · refine xj_iconst (v := 0) dX12_feed_13 ci_0 ?_
    refine xj_goto (tgt := 18) dX12_feed_14 rfl ?_
    exact tX12_feed_j18 _ _ _ _
theorem kX12_feed (p1 : Int32) (p2 : Int64) (w : xW) : xMet jI mX12_feed lM (0, 0) [.ref 0, .int p1, .long p2] w (sX12_feed p1 p2 w) := xj_met lM_ok (by decide) (Nat.le_of_ble_eq_true rfl) (Nat.zero_le _) (Nat.zero_le _) (tX12_feed p1 p2 w)
set_option maxRecDepth 20000 in
def sX12_wipe (w : xW) : Option (Int32 × xW) :=
  xbd (sX12_change (xwi (xwi w 0 0 (0 : Int32)) 0 2 (0 : Int32))) (fun _ w1 => some ((w.1 0 2), w1))
set_option maxRecDepth 20000 in
theorem tX12_wipe (w : xW) : xJ ιI mX12_wipe lM (0, 0) 0 [(0, .ref 0)] [] w (sX12_wipe w) := by
  unfold sX12_wipe
  refine xj_aloadn 0 dX12_wipe_0 rfl rfl ?_
  refine xj_iconst (v := 0) dX12_wipe_1 ci_0 ?_
  refine pfX12_53 dX12_wipe_2 rfl ?_
  refine xj_aloadn 0 dX12_wipe_5 rfl rfl ?_
  refine gfX12_59 (v := (w.1 0 2)) dX12_wipe_6 rfl rfl ?_
  refine xj_istoren (lv2 := [(1, .int (w.1 0 2)), (0, .ref 0)]) dX12_wipe_9 rfl (Nat.le_of_ble_eq_true rfl) rfl ?_
  refine xj_aloadn 1 dX12_wipe_10 rfl rfl ?_
  refine xj_iconst (v := 0) dX12_wipe_11 ci_0 ?_
  refine pfX12_59 dX12_wipe_12 rfl ?_
  refine xj_aloadn 1 dX12_wipe_15 rfl rfl ?_
  refine xj_cVv (argv := []) (rest := []) dX12_wipe_16 (kX12_change (xwi (xwi w 0 0 (0 : Int32)) 0 2 (0 : Int32))) mkX12_change tw2231 rfl rfl rfl rfl rfl rfl (fun _ w1 => ?_)
  refine xj_iloadn 0 dX12_wipe_19 rfl rfl ?_
  exact xj_ri dX12_wipe_20 rfl
theorem kX12_wipe (w : xW) : xMet jI mX12_wipe lM (0, 0) [.ref 0] w (sX12_wipe w) := xj_met lM_ok (by decide) (Nat.le_of_ble_eq_true rfl) (Nat.zero_le _) (Nat.zero_le _) (tX12_wipe w)
set_option maxRecDepth 20000 in
def sX12_poke_j32 (a1 : Int32) (a2 : Int32) (b0 : Int32) (w : xW) : Option (Int32 × xW) :=
  (if 0 < b0 then some ((0 : Int32), (xwi w 0 0 b0)) else (if xin (a1 - (65536 : Int32)) 65536 then xlet (w.1 2 ((a1 - (65536 : Int32)).toNatClampNeg)) (fun x1 => (if xin (a1 - (65536 : Int32)) 65536 then some (x1, (xwi (xwi w 0 0 b0) 2 ((a1 - (65536 : Int32)).toNatClampNeg) a2)) else none)) else none))
set_option maxRecDepth 20000 in
theorem tX12_poke_j32 (a1 : Int32) (a2 : Int32) (b0 : Int32) (w : xW) : xJ ιI mX12_poke lM (0, 0) 32 [(0, .ref 0), (1, .int a1), (2, .int a2)] [.int b0, .ref 0] w (sX12_poke_j32 a1 a2 b0 w) := by
  unfold sX12_poke_j32
  refine pfX12_53 dX12_poke_32 rfl ?_
  refine xj_aloadn 0 dX12_poke_35 rfl rfl ?_
  refine gfX12_53 (v := b0) dX12_poke_36 rfl rfl ?_
  refine xj_ifle (tgt := 44) dX12_poke_39 rfl ?_ ?_
  · refine xj_iconst (v := 0) dX12_poke_42 ci_0 ?_
    exact xj_ri dX12_poke_43 rfl
  · refine xj_aloadn 0 dX12_poke_44 rfl rfl ?_
    refine gfX12_14 dX12_poke_45 rfl ?_
    refine xj_iloadn 1 dX12_poke_48 rfl rfl ?_
    refine xj_ldc (v := 65536) tw1900 dX12_poke_49 ?_
    refine xj_isub dX12_poke_51 ?_
    refine xj_iald (k := 2) dX12_poke_52 rfl ?_
    refine xj_leti (fun x1 => ?_)
    refine xj_istoren (lv2 := [(3, .int x1), (0, .ref 0), (1, .int a1), (2, .int a2)]) dX12_poke_53 rfl (Nat.le_of_ble_eq_true rfl) rfl ?_
    refine xj_aloadn 1 dX12_poke_54 rfl rfl ?_
    refine gfX12_14 dX12_poke_55 rfl ?_
    refine xj_iloadn 2 dX12_poke_58 rfl rfl ?_
    refine xj_ldc (v := 65536) tw1900 dX12_poke_59 ?_
    refine xj_isub dX12_poke_61 ?_
    refine xj_iloadn 3 dX12_poke_62 rfl rfl ?_
    refine xj_iast (k := 2) dX12_poke_63 rfl ?_
    refine xj_iloadn 0 dX12_poke_64 rfl rfl ?_
    exact xj_ri dX12_poke_65 rfl
set_option maxRecDepth 20000 in
def sX12_poke_j27 (a1 : Int32) (a2 : Int32) (w : xW) : Option (Int32 × xW) :=
  sX12_poke_j32 a1 a2 (1 : Int32) w
set_option maxRecDepth 20000 in
theorem tX12_poke_j27 (a1 : Int32) (a2 : Int32) (w : xW) : xJ ιI mX12_poke lM (0, 0) 27 [(0, .ref 0), (1, .int a1), (2, .int a2)] [.ref 0] w (sX12_poke_j27 a1 a2 w) := by
  unfold sX12_poke_j27
  refine xj_iconst (v := 1) dX12_poke_27 ci_1 ?_
  refine xj_goto (tgt := 32) dX12_poke_28 rfl ?_
  exact tX12_poke_j32 _ _ _ _
set_option maxRecDepth 20000 in
def sX12_poke (p1 : Int32) (p2 : Int32) (w : xW) : Option (Int32 × xW) :=
  xbd (sX12_isIn p1.toInt64 (65536 : Int64) (131071 : Int64) w) (fun x1 w2 => (if x1 = 0 then sX12_poke_j27 p1 p2 w2 else xbd (sX12_isIn p2.toInt64 (0 : Int64) (255 : Int64) w2) (fun x3 w4 => (if x3 = 0 then sX12_poke_j27 p1 p2 w4 else sX12_poke_j32 p1 p2 (0 : Int32) w4))))
set_option maxRecDepth 20000 in
theorem tX12_poke (p1 : Int32) (p2 : Int32) (w : xW) : xJ ιI mX12_poke lM (0, 0) 0 [(0, .ref 0), (1, .int p1), (2, .int p2)] [] w (sX12_poke p1 p2 w) := by
  unfold sX12_poke
  refine xj_aloadn 0 dX12_poke_0 rfl rfl ?_
  refine xj_iloadn 1 dX12_poke_1 rfl rfl ?_
  refine xj_i2l dX12_poke_2 ?_
  refine xj_ldc2 (v := 65536) tw2158 dX12_poke_3 ?_
  refine xj_ldc2 (v := 131071) tw2243 dX12_poke_6 ?_
  refine xj_cSi (argv := [.long p1.toInt64, .long (65536 : Int64), .long (131071 : Int64)]) (rest := [.ref 0]) dX12_poke_9 (kX12_isIn p1.toInt64 (65536 : Int64) (131071 : Int64) w) mkX12_isIn tw2150 rfl rfl rfl rfl (fun x1 w2 => ?_)
  refine xj_ifeq (tgt := 27) dX12_poke_12 rfl ?_ ?_
  · exact tX12_poke_j27 _ _ _
  · refine xj_iloadn 2 dX12_poke_15 rfl rfl ?_
    refine xj_i2l dX12_poke_16 ?_
    refine xj_lconst (v := 0) dX12_poke_17 cl_0 ?_
    refine xj_ldc2 (v := 255) tw2230 dX12_poke_18 ?_
    refine xj_cSi (argv := [.long p2.toInt64, .long (0 : Int64), .long (255 : Int64)]) (rest := [.ref 0]) dX12_poke_21 (kX12_isIn p2.toInt64 (0 : Int64) (255 : Int64) w2) mkX12_isIn tw2150 rfl rfl rfl rfl (fun x3 w4 => ?_)
    refine xj_ifne (tgt := 31) dX12_poke_24 rfl ?_ ?_
    · exact tX12_poke_j27 _ _ _
    · refine xj_iconst (v := 0) dX12_poke_31 ci_0 ?_
      exact tX12_poke_j32 _ _ _ _
theorem kX12_poke (p1 : Int32) (p2 : Int32) (w : xW) : xMet jI mX12_poke lM (0, 0) [.ref 0, .int p1, .int p2] w (sX12_poke p1 p2 w) := xj_met lM_ok (by decide) (Nat.le_of_ble_eq_true rfl) (Nat.zero_le _) (Nat.zero_le _) (tX12_poke p1 p2 w)
set_option maxRecDepth 20000 in
def sX12_peek_j25 (a1 : Int32) (w : xW) : Option (Int32 × xW) :=
  xbd (sX12_byteAt a1.toInt64 w) (fun x1 w2 => some (x1, w2))
set_option maxRecDepth 20000 in
theorem tX12_peek_j25 (a1 : Int32) (w : xW) : xJ ιI mX12_peek lM (0, 0) 25 [(0, .ref 0), (1, .int a1)] [] w (sX12_peek_j25 a1 w) := by
  unfold sX12_peek_j25
  refine xj_aloadn 0 dX12_peek_25 rfl rfl ?_
  refine xj_iloadn 1 dX12_peek_26 rfl rfl ?_
  refine xj_i2l dX12_peek_27 ?_
  refine xj_cVi (argv := [.long a1.toInt64]) (rest := []) dX12_peek_28 (kX12_byteAt a1.toInt64 w) mkX12_byteAt tw2256 rfl rfl rfl rfl rfl rfl (fun x1 w2 => ?_)
  refine xj_goto (tgt := 35) dX12_peek_31 rfl ?_
  exact xj_ri dX12_peek_35 rfl
set_option maxRecDepth 20000 in
def sX12_peek (p1 : Int32) (w : xW) : Option (Int32 × xW) :=
  xbd (sX12_inData p1.toInt64 (1 : Int32) (xwi w 0 0 (0 : Int32))) (fun x1 w2 => (if x1 = 0 then xbd (sX12_inImage p1.toInt64 (1 : Int32) w2) (fun x3 w4 => (if x3 = 0 then some ((-1 : Int32), w4) else sX12_peek_j25 p1 w4)) else sX12_peek_j25 p1 w2))
set_option maxRecDepth 20000 in
theorem tX12_peek (p1 : Int32) (w : xW) : xJ ιI mX12_peek lM (0, 0) 0 [(0, .ref 0), (1, .int p1)] [] w (sX12_peek p1 w) := by
  unfold sX12_peek
  refine xj_aloadn 0 dX12_peek_0 rfl rfl ?_
  refine xj_iconst (v := 0) dX12_peek_1 ci_0 ?_
  refine pfX12_53 dX12_peek_2 rfl ?_
  refine xj_aloadn 0 dX12_peek_5 rfl rfl ?_
  refine xj_iloadn 1 dX12_peek_6 rfl rfl ?_
  refine xj_i2l dX12_peek_7 ?_
  refine xj_iconst (v := 1) dX12_peek_8 ci_1 ?_
  refine xj_cVi (argv := [.long p1.toInt64, .int (1 : Int32)]) (rest := []) dX12_peek_9 (kX12_inData p1.toInt64 (1 : Int32) (xwi w 0 0 (0 : Int32))) mkX12_inData tw2248 rfl rfl rfl rfl rfl rfl (fun x1 w2 => ?_)
  refine xj_ifne (tgt := 25) dX12_peek_12 rfl ?_ ?_
  · refine xj_aloadn 0 dX12_peek_15 rfl rfl ?_
    refine xj_iloadn 1 dX12_peek_16 rfl rfl ?_
    refine xj_i2l dX12_peek_17 ?_
    refine xj_iconst (v := 1) dX12_peek_18 ci_1 ?_
    refine xj_cVi (argv := [.long p1.toInt64, .int (1 : Int32)]) (rest := []) dX12_peek_19 (kX12_inImage p1.toInt64 (1 : Int32) w2) mkX12_inImage tw2252 rfl rfl rfl rfl rfl rfl (fun x3 w4 => ?_)
    refine xj_ifeq (tgt := 34) dX12_peek_22 rfl ?_ ?_
    · refine xj_iconst (v := -1) dX12_peek_34 ci_m1 ?_
      exact xj_ri dX12_peek_35 rfl
    · exact tX12_peek_j25 _ _
  · exact tX12_peek_j25 _ _
theorem kX12_peek (p1 : Int32) (w : xW) : xMet jI mX12_peek lM (0, 0) [.ref 0, .int p1] w (sX12_peek p1 w) := xj_met lM_ok (by decide) (Nat.le_of_ble_eq_true rfl) (Nat.zero_le _) (Nat.zero_le _) (tX12_peek p1 w)
set_option maxRecDepth 20000 in
def sX12_give_l47 : Nat → Int32 → Int64 → Int32 → xW → Option (Int32 × xW)
  | 0, _, _, _, _ => none
  | n + 1, a1, a2, a4, w =>
  (if a4 < a1 then (if ¬ (256 : Int32) = 0 then (if xin (((w.1 0 5) + (w.1 0 6)) - ((w.1 0 5) + (w.1 0 6)) / (256 : Int32) * (256 : Int32)) 256 then (sX12_give_l47 n) a1 a2 (a4 + (1 : Int32)) (xwi (xwi w 3 ((((w.1 0 5) + (w.1 0 6)) - ((w.1 0 5) + (w.1 0 6)) / (256 : Int32) * (256 : Int32)).toNatClampNeg) (((xlshr a2 ((8 : Int32) * a4)) &&& (255 : Int64)).toInt32)) 0 6 ((w.1 0 6) + (1 : Int32))) else none) else none) else some ((w.1 0 6), w))
set_option maxRecDepth 20000 in
theorem tX12_give_l47 : ∀ (n : Nat) (a1 : Int32) (a2 : Int64) (a4 : Int32) (w : xW), xJ ιI mX12_give lM (0, 0) 47 [(0, .ref 0), (1, .int a1), (2, .long a2), (4, .int a4)] [] w (sX12_give_l47 n a1 a2 a4 w) := by
  intro n
  induction n with
  | zero => intros; exact xj_none
  | succ n ih =>
    intro a1 a2 a4 w
    rw [sX12_give_l47]
    refine xj_iload 3 dX12_give_47 rfl ?_
    refine xj_iloadn 1 dX12_give_49 rfl rfl ?_
    refine xj_ige (tgt := 99) dX12_give_50 rfl ?_ ?_
    · refine xj_aloadn 0 dX12_give_53 rfl rfl ?_
      refine gfX12_17 dX12_give_54 rfl ?_
      refine xj_aloadn 0 dX12_give_57 rfl rfl ?_
      refine gfX12_404 (v := (w.1 0 5)) dX12_give_58 rfl rfl ?_
      refine xj_aloadn 0 dX12_give_61 rfl rfl ?_
      refine gfX12_401 (v := (w.1 0 6)) dX12_give_62 rfl rfl ?_
      refine xj_iadd dX12_give_65 ?_
      refine xj_sipush (v := 256) dX12_give_66 cs_256 ?_
      refine xj_irem dX12_give_69 ?_
      refine xj_lloadn 2 dX12_give_70 rfl rfl ?_
      refine xj_bipush (v := 8) dX12_give_71 cb_8 ?_
      refine xj_iload 3 dX12_give_73 rfl ?_
      refine xj_imul dX12_give_75 ?_
      refine xj_lshr dX12_give_76 ?_
      refine xj_ldc2 (v := 255) tw2230 dX12_give_77 ?_
      refine xj_land dX12_give_80 ?_
      refine xj_l2i dX12_give_81 ?_
      refine xj_iast (k := 3) dX12_give_82 rfl ?_
      refine xj_aloadn 0 dX12_give_83 rfl rfl ?_
      refine xj_dup dX12_give_84 rfl ?_
      refine gfX12_401 (v := (w.1 0 6)) dX12_give_85 rfl rfl ?_
      refine xj_iconst (v := 1) dX12_give_88 ci_1 ?_
      refine xj_iadd dX12_give_89 ?_
      refine pfX12_401 dX12_give_90 rfl ?_
      refine xj_iinc (n := 3) (lv2 := [(4, .int (a4 + (1 : Int32))), (0, .ref 0), (1, .int a1), (2, .long a2)]) dX12_give_93 rfl ci_1 (Nat.le_of_ble_eq_true rfl) rfl ?_
      refine xj_goto (tgt := 47) dX12_give_96 rfl ?_
      refine xj_sub (lv2 := [(0, .ref 0), (1, .int a1), (2, .long a2), (4, .int (a4 + (1 : Int32)))]) [1, 2, 3, 0] rfl ?_
      exact ih _ _ _ _
    · refine xj_aloadn 0 dX12_give_99 rfl rfl ?_
      refine gfX12_401 (v := (w.1 0 6)) dX12_give_100 rfl rfl ?_
      exact xj_ri dX12_give_103 rfl
set_option maxRecDepth 20000 in
def sX12_give_j18 (a1 : Int32) (a2 : Int64) (b0 : Int32) (w : xW) : Option (Int32 × xW) :=
  (if 0 < b0 then some ((0 : Int32), (xwi w 0 0 b0)) else (if (256 : Int32) < ((w.1 0 6) + a1) then some ((-1 : Int32), (xwi w 0 0 b0)) else sX12_give_l47 70000 a1 a2 (0 : Int32) (xwi w 0 0 b0)))
set_option maxRecDepth 20000 in
theorem tX12_give_j18 (a1 : Int32) (a2 : Int64) (b0 : Int32) (w : xW) : xJ ιI mX12_give lM (0, 0) 18 [(0, .ref 0), (1, .int a1), (2, .long a2)] [.int b0, .ref 0] w (sX12_give_j18 a1 a2 b0 w) := by
  unfold sX12_give_j18
  refine pfX12_53 dX12_give_18 rfl ?_
  refine xj_aloadn 0 dX12_give_21 rfl rfl ?_
  refine gfX12_53 (v := b0) dX12_give_22 rfl rfl ?_
  refine xj_ifle (tgt := 30) dX12_give_25 rfl ?_ ?_
  · refine xj_iconst (v := 0) dX12_give_28 ci_0 ?_
    exact xj_ri dX12_give_29 rfl
  · refine xj_aloadn 0 dX12_give_30 rfl rfl ?_
    refine gfX12_401 (v := (w.1 0 6)) dX12_give_31 rfl rfl ?_
    refine xj_iloadn 1 dX12_give_34 rfl rfl ?_
    refine xj_iadd dX12_give_35 ?_
    refine xj_sipush (v := 256) dX12_give_36 cs_256 ?_
    refine xj_ile (tgt := 44) dX12_give_39 rfl ?_ ?_
    · refine xj_iconst (v := -1) dX12_give_42 ci_m1 ?_
      exact xj_ri dX12_give_43 rfl
    · refine xj_iconst (v := 0) dX12_give_44 ci_0 ?_
      refine xj_istore (lv2 := [(4, .int (0 : Int32)), (0, .ref 0), (1, .int a1), (2, .long a2)]) dX12_give_45 (Nat.le_of_ble_eq_true rfl) rfl ?_
      refine xj_sub (lv2 := [(0, .ref 0), (1, .int a1), (2, .long a2), (4, .int (0 : Int32))]) [1, 2, 3, 0] rfl ?_
      exact tX12_give_l47 _ _ _ _ _
set_option maxRecDepth 20000 in
def sX12_give (p1 : Int32) (p2 : Int64) (w : xW) : Option (Int32 × xW) :=
  xbd (sX12_isIn p1.toInt64 (1 : Int64) (8 : Int64) w) (fun x1 w2 => (if x1 = 0 then sX12_give_j18 p1 p2 (1 : Int32) w2 else sX12_give_j18 p1 p2 (0 : Int32) w2))
set_option maxRecDepth 20000 in
theorem tX12_give (p1 : Int32) (p2 : Int64) (w : xW) : xJ ιI mX12_give lM (0, 0) 0 [(0, .ref 0), (1, .int p1), (2, .long p2)] [] w (sX12_give p1 p2 w) := by
  unfold sX12_give
  refine xj_aloadn 0 dX12_give_0 rfl rfl ?_
  refine xj_iloadn 1 dX12_give_1 rfl rfl ?_
  refine xj_i2l dX12_give_2 ?_
  refine xj_lconst (v := 1) dX12_give_3 cl_1 ?_
  refine xj_ldc2 (v := 8) tw2229 dX12_give_4 ?_
  refine xj_cSi (argv := [.long p1.toInt64, .long (1 : Int64), .long (8 : Int64)]) (rest := [.ref 0]) dX12_give_7 (kX12_isIn p1.toInt64 (1 : Int64) (8 : Int64) w) mkX12_isIn tw2150 rfl rfl rfl rfl (fun x1 w2 => ?_)
  refine xj_ifeq (tgt := 17) dX12_give_10 rfl ?_ ?_
  · refine xj_iconst (v := 1) dX12_give_17 ci_1 ?_
    exact tX12_give_j18 _ _ _ _
  · refine xj_iconst (v := 0) dX12_give_13 ci_0 ?_
    refine xj_goto (tgt := 18) dX12_give_14 rfl ?_
    exact tX12_give_j18 _ _ _ _
theorem kX12_give (p1 : Int32) (p2 : Int64) (w : xW) : xMet jI mX12_give lM (0, 0) [.ref 0, .int p1, .long p2] w (sX12_give p1 p2 w) := xj_met lM_ok (by decide) (Nat.le_of_ble_eq_true rfl) (Nat.zero_le _) (Nat.zero_le _) (tX12_give p1 p2 w)
set_option maxRecDepth 20000 in
def sX12_begin_l131 : Nat → Int32 → xW → Option (Unit × xW)
  | 0, _, _ => none
  | n + 1, a2, w =>
  (if a2 < (2048 : Int32) then (if xin a2 2048 then (sX12_begin_l131 n) (a2 + (1 : Int32)) (xwi w 6 a2.toNatClampNeg (0 : Int32)) else none) else some ((), w))
set_option maxRecDepth 20000 in
theorem tX12_begin_l131 : ∀ (n : Nat) (a2 : Int32) (w : xW), xJ ιV mX12_begin lM (0, 0) 131 [(0, .ref 0), (2, .int a2)] [] w (sX12_begin_l131 n a2 w) := by
  intro n
  induction n with
  | zero => intros; exact xj_none
  | succ n ih =>
    intro a2 w
    rw [sX12_begin_l131]
    refine xj_iloadn 1 dX12_begin_131 rfl rfl ?_
    refine xj_sipush (v := 2048) dX12_begin_132 cs_2048 ?_
    refine xj_ige (tgt := 151) dX12_begin_135 rfl ?_ ?_
    · refine xj_aloadn 0 dX12_begin_138 rfl rfl ?_
      refine gfX12_30 dX12_begin_139 rfl ?_
      refine xj_iloadn 1 dX12_begin_142 rfl rfl ?_
      refine xj_iconst (v := 0) dX12_begin_143 ci_0 ?_
      refine xj_iast (k := 6) dX12_begin_144 rfl ?_
      refine xj_iinc (n := 1) (lv2 := [(2, .int (a2 + (1 : Int32))), (0, .ref 0)]) dX12_begin_145 rfl ci_1 (Nat.le_of_ble_eq_true rfl) rfl ?_
      refine xj_goto (tgt := 131) dX12_begin_148 rfl ?_
      refine xj_sub (lv2 := [(0, .ref 0), (2, .int (a2 + (1 : Int32)))]) [1, 0] rfl ?_
      exact ih _ _
    · exact xj_rv dX12_begin_151 rfl
set_option maxRecDepth 20000 in
def sX12_begin_l37 : Nat → Int32 → xW → Option (Unit × xW)
  | 0, _, _ => none
  | n + 1, a2, w =>
  (if a2 < (8 : Int32) then (if a2 = (4 : Int32) then (if xin a2 8 then (sX12_begin_l37 n) (a2 + (1 : Int32)) (xwi w 9 a2.toNatClampNeg (131072 : Int32)) else none) else (if xin a2 8 then (sX12_begin_l37 n) (a2 + (1 : Int32)) (xwi w 9 a2.toNatClampNeg (0 : Int32)) else none)) else sX12_begin_l131 70000 (0 : Int32) (xwi (xwl (xwi (xwi (xwi (xwi (xwi (xwi (xwi (xwi (xwi (xwi w 0 36 (0 : Int32)) 0 37 (0 : Int32)) 0 38 (0 : Int32)) 0 39 (0 : Int32)) 0 40 (0 : Int32)) 0 34 (4096 : Int32)) 0 33 (1 : Int32)) 0 41 (0 : Int32)) 0 42 (65536 : Int32)) 0 43 (0 : Int32)) 0 44 (0 : Int64)) 0 8 (0 : Int32)))
set_option maxRecDepth 20000 in
theorem tX12_begin_l37 : ∀ (n : Nat) (a2 : Int32) (w : xW), xJ ιV mX12_begin lM (0, 0) 37 [(0, .ref 0), (2, .int a2)] [] w (sX12_begin_l37 n a2 w) := by
  intro n
  induction n with
  | zero => intros; exact xj_none
  | succ n ih =>
    intro a2 w
    rw [sX12_begin_l37]
    refine xj_iloadn 1 dX12_begin_37 rfl rfl ?_
    refine xj_bipush (v := 8) dX12_begin_38 cb_8 ?_
    refine xj_ige (tgt := 66) dX12_begin_40 rfl ?_ ?_
    · refine xj_aloadn 0 dX12_begin_43 rfl rfl ?_
      refine gfX12_44 dX12_begin_44 rfl ?_
      refine xj_iloadn 1 dX12_begin_47 rfl rfl ?_
      refine xj_iloadn 1 dX12_begin_48 rfl rfl ?_
      refine xj_iconst (v := 4) dX12_begin_49 ci_4 ?_
      refine xj_ine (tgt := 58) dX12_begin_50 rfl ?_ ?_
      · refine xj_ldc (v := 131072) tw1901 dX12_begin_53 ?_
        refine xj_goto (tgt := 59) dX12_begin_55 rfl ?_
        refine xj_iast (k := 9) dX12_begin_59 rfl ?_
        refine xj_iinc (n := 1) (lv2 := [(2, .int (a2 + (1 : Int32))), (0, .ref 0)]) dX12_begin_60 rfl ci_1 (Nat.le_of_ble_eq_true rfl) rfl ?_
        refine xj_goto (tgt := 37) dX12_begin_63 rfl ?_
        refine xj_sub (lv2 := [(0, .ref 0), (2, .int (a2 + (1 : Int32)))]) [1, 0] rfl ?_
        exact ih _ _
      · refine xj_iconst (v := 0) dX12_begin_58 ci_0 ?_
        refine xj_iast (k := 9) dX12_begin_59 rfl ?_
        refine xj_iinc (n := 1) (lv2 := [(2, .int (a2 + (1 : Int32))), (0, .ref 0)]) dX12_begin_60 rfl ci_1 (Nat.le_of_ble_eq_true rfl) rfl ?_
        refine xj_goto (tgt := 37) dX12_begin_63 rfl ?_
        refine xj_sub (lv2 := [(0, .ref 0), (2, .int (a2 + (1 : Int32)))]) [1, 0] rfl ?_
        exact ih _ _
    · refine xj_aloadn 0 dX12_begin_66 rfl rfl ?_
      refine xj_iconst (v := 0) dX12_begin_67 ci_0 ?_
      refine pfX12_320 dX12_begin_68 rfl (Or.inl rfl) ?_
      refine xj_aloadn 0 dX12_begin_71 rfl rfl ?_
      refine xj_iconst (v := 0) dX12_begin_72 ci_0 ?_
      refine pfX12_317 dX12_begin_73 rfl (Or.inl rfl) ?_
      refine xj_aloadn 0 dX12_begin_76 rfl rfl ?_
      refine xj_iconst (v := 0) dX12_begin_77 ci_0 ?_
      refine pfX12_307 dX12_begin_78 rfl (Or.inl rfl) ?_
      refine xj_aloadn 0 dX12_begin_81 rfl rfl ?_
      refine xj_iconst (v := 0) dX12_begin_82 ci_0 ?_
      refine pfX12_314 dX12_begin_83 rfl (Or.inl rfl) ?_
      refine xj_aloadn 0 dX12_begin_86 rfl rfl ?_
      refine xj_iconst (v := 0) dX12_begin_87 ci_0 ?_
      refine pfX12_323 dX12_begin_88 rfl (Or.inl rfl) ?_
      refine xj_aloadn 0 dX12_begin_91 rfl rfl ?_
      refine xj_sipush (v := 4096) dX12_begin_92 cs_4096 ?_
      refine pfX12_40 dX12_begin_95 rfl ?_
      refine xj_aloadn 0 dX12_begin_98 rfl rfl ?_
      refine xj_iconst (v := 1) dX12_begin_99 ci_1 ?_
      refine pfX12_395 dX12_begin_100 rfl ?_
      refine xj_aloadn 0 dX12_begin_103 rfl rfl ?_
      refine xj_iconst (v := 0) dX12_begin_104 ci_0 ?_
      refine pfX12_392 dX12_begin_105 rfl ?_
      refine xj_aloadn 0 dX12_begin_108 rfl rfl ?_
      refine xj_ldc (v := 65536) tw1900 dX12_begin_109 ?_
      refine pfX12_47 dX12_begin_111 rfl ?_
      refine xj_aloadn 0 dX12_begin_114 rfl rfl ?_
      refine xj_iconst (v := 0) dX12_begin_115 ci_0 ?_
      refine pfX12_411 dX12_begin_116 rfl ?_
      refine xj_aloadn 0 dX12_begin_119 rfl rfl ?_
      refine xj_lconst (v := 0) dX12_begin_120 cl_0 ?_
      refine pfX12_407 dX12_begin_121 rfl ?_
      refine xj_aloadn 0 dX12_begin_124 rfl rfl ?_
      refine xj_iconst (v := 0) dX12_begin_125 ci_0 ?_
      refine pfX12_398 dX12_begin_126 rfl ?_
      refine xj_iconst (v := 0) dX12_begin_129 ci_0 ?_
      refine xj_istoren (lv2 := [(2, .int (0 : Int32)), (0, .ref 0)]) dX12_begin_130 rfl (Nat.le_of_ble_eq_true rfl) rfl ?_
      refine xj_sub (lv2 := [(0, .ref 0), (2, .int (0 : Int32))]) [1, 0] rfl ?_
      exact tX12_begin_l131 _ _ _
set_option maxRecDepth 20000 in
def sX12_begin_j24 (b0 : Int32) (w : xW) : Option (Unit × xW) :=
  (if 0 < b0 then some ((), (xwi w 0 0 b0)) else sX12_begin_l37 70000 (0 : Int32) (xwi w 0 0 b0))
set_option maxRecDepth 20000 in
theorem tX12_begin_j24 (b0 : Int32) (w : xW) : xJ ιV mX12_begin lM (0, 0) 24 [(0, .ref 0)] [.int b0, .ref 0] w (sX12_begin_j24 b0 w) := by
  unfold sX12_begin_j24
  refine pfX12_53 dX12_begin_24 rfl ?_
  refine xj_aloadn 0 dX12_begin_27 rfl rfl ?_
  refine gfX12_53 (v := b0) dX12_begin_28 rfl rfl ?_
  refine xj_ifle (tgt := 35) dX12_begin_31 rfl ?_ ?_
  · exact xj_rv dX12_begin_34 rfl
  · refine xj_iconst (v := 0) dX12_begin_35 ci_0 ?_
    refine xj_istoren (lv2 := [(2, .int (0 : Int32)), (0, .ref 0)]) dX12_begin_36 rfl (Nat.le_of_ble_eq_true rfl) rfl ?_
    refine xj_sub (lv2 := [(0, .ref 0), (2, .int (0 : Int32))]) [1, 0] rfl ?_
    exact tX12_begin_l37 _ _ _
set_option maxRecDepth 20000 in
def sX12_begin_j19 (w : xW) : Option (Unit × xW) :=
  sX12_begin_j24 (1 : Int32) w
set_option maxRecDepth 20000 in
theorem tX12_begin_j19 (w : xW) : xJ ιV mX12_begin lM (0, 0) 19 [(0, .ref 0)] [.ref 0] w (sX12_begin_j19 w) := by
  unfold sX12_begin_j19
  refine xj_iconst (v := 1) dX12_begin_19 ci_1 ?_
  refine xj_goto (tgt := 24) dX12_begin_20 rfl ?_
  exact tX12_begin_j24 _ _
set_option maxRecDepth 20000 in
def sX12_begin_j12 (w : xW) : Option (Unit × xW) :=
  (if (w.1 0 2) = 0 then sX12_begin_j19 w else sX12_begin_j24 (0 : Int32) w)
set_option maxRecDepth 20000 in
theorem tX12_begin_j12 (w : xW) : xJ ιV mX12_begin lM (0, 0) 12 [(0, .ref 0)] [.ref 0] w (sX12_begin_j12 w) := by
  unfold sX12_begin_j12
  refine xj_aloadn 0 dX12_begin_12 rfl rfl ?_
  refine gfX12_59 (v := (w.1 0 2)) dX12_begin_13 rfl rfl ?_
  refine xj_ifne (tgt := 23) dX12_begin_16 rfl ?_ ?_
  · exact tX12_begin_j19 _
  · refine xj_iconst (v := 0) dX12_begin_23 ci_0 ?_
    exact tX12_begin_j24 _ _
set_option maxRecDepth 20000 in
def sX12_begin (p1 : Int32) (w : xW) : Option (Unit × xW) :=
  (if (w.1 0 9) = 0 then (if p1 = 0 then sX12_begin_j19 w else sX12_begin_j12 w) else sX12_begin_j12 w)
set_option maxRecDepth 20000 in
theorem tX12_begin (p1 : Int32) (w : xW) : xJ ιV mX12_begin lM (0, 0) 0 [(0, .ref 0), (1, .int p1)] [] w (sX12_begin p1 w) := by
  unfold sX12_begin
  refine xj_aloadn 0 dX12_begin_0 rfl rfl ?_
  refine xj_aloadn 0 dX12_begin_1 rfl rfl ?_
  refine gfX12_195 (v := (w.1 0 9)) dX12_begin_2 rfl rfl ?_
  refine xj_ifne (tgt := 12) dX12_begin_5 rfl ?_ ?_
  · refine xj_iloadn 1 dX12_begin_8 rfl rfl ?_
    refine xj_ifeq (tgt := 19) dX12_begin_9 rfl ?_ ?_
    · refine xj_sub (lv2 := [(0, .ref 0)]) [0] rfl ?_
      exact tX12_begin_j19 _
    · refine xj_sub (lv2 := [(0, .ref 0)]) [0] rfl ?_
      exact tX12_begin_j12 _
  · refine xj_sub (lv2 := [(0, .ref 0)]) [0] rfl ?_
    exact tX12_begin_j12 _
theorem kX12_begin (p1 : Int32) (w : xW) : xMet jV mX12_begin lM (0, 0) [.ref 0, .int p1] w (sX12_begin p1 w) := xj_met lM_ok (by decide) (Nat.le_of_ble_eq_true rfl) (Nat.zero_le _) (Nat.zero_le _) (tX12_begin p1 w)
