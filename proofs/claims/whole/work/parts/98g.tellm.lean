/-! Teller, tell, text, method by method -/
set_option maxRecDepth 20000 in
def sX10_addRegister_j46 (a3 : Int32) (b0 : Nat) (w : xW) : Option (Unit × xW) :=
  xbd (sbB b0 ((2 : Int32) * a3) (((2 : Int32) * a3) + (2 : Int32)) w) (fun _ w1 => some ((), w1))
set_option maxRecDepth 20000 in
theorem tX10_addRegister_j46 (a3 : Int32) (b0 : Nat) (w : xW) : xJ ιV mX10_addRegister lC (3, 482) 46 [(0, .ref 5), (3, .int a3)] [.ref (1000 + b0)] w (sX10_addRegister_j46 a3 b0 w) := by
  unfold sX10_addRegister_j46
  refine xj_astore (lv2 := [(4, .ref (1000 + b0)), (0, .ref 5), (3, .int a3)]) dX10_addRegister_46 (Nat.le_of_ble_eq_true rfl) rfl ?_
  refine xj_aloadn 1 dX10_addRegister_48 rfl rfl ?_
  refine gfX10_12 dX10_addRegister_49 rfl ?_
  refine xj_aload 0 dX10_addRegister_52 rfl ?_
  refine xj_iconst (v := 2) dX10_addRegister_54 ci_2 ?_
  refine xj_iloadn 2 dX10_addRegister_55 rfl rfl ?_
  refine xj_imul dX10_addRegister_56 ?_
  refine xj_iconst (v := 2) dX10_addRegister_57 ci_2 ?_
  refine xj_iloadn 2 dX10_addRegister_58 rfl rfl ?_
  refine xj_imul dX10_addRegister_59 ?_
  refine xj_iconst (v := 2) dX10_addRegister_60 ci_2 ?_
  refine xj_iadd dX10_addRegister_61 ?_
  refine xj_sbB (b2 := (0, 0)) rfl dX10_addRegister_62 dX10_addRegister_65 tw1365 tw1306 rfl rfl rfl rfl rfl (fun w1 => ?_)
  refine xj_pop dX10_addRegister_68 rfl ?_
  exact xj_rv dX10_addRegister_69 rfl
set_option maxRecDepth 20000 in
def sX10_addRegister (p1 : Int32) (p2 : Int32) (w : xW) : Option (Unit × xW) :=
  (if p2 = (4 : Int32) then xbd (sbB 7 ((3 : Int32) * (p1 &&& (7 : Int32))) (((3 : Int32) * (p1 &&& (7 : Int32))) + (3 : Int32)) w) (fun _ w1 => some ((), w1)) else (if p2 = (2 : Int32) then sX10_addRegister_j46 (p1 &&& (7 : Int32)) 8 w else sX10_addRegister_j46 (p1 &&& (7 : Int32)) 9 w))
set_option maxRecDepth 20000 in
theorem tX10_addRegister (p1 : Int32) (p2 : Int32) (w : xW) : xJ ιV mX10_addRegister lC (3, 482) 0 [(0, .ref 5), (1, .int p1), (2, .int p2)] [] w (sX10_addRegister p1 p2 w) := by
  unfold sX10_addRegister
  refine xj_iloadn 1 dX10_addRegister_0 rfl rfl ?_
  refine xj_bipush (v := 7) dX10_addRegister_1 cb_7 ?_
  refine xj_iand dX10_addRegister_3 ?_
  refine xj_istoren (lv2 := [(3, .int (p1 &&& (7 : Int32))), (0, .ref 5), (1, .int p1), (2, .int p2)]) dX10_addRegister_4 rfl (Nat.le_of_ble_eq_true rfl) rfl ?_
  refine xj_iloadn 3 dX10_addRegister_5 rfl rfl ?_
  refine xj_iconst (v := 4) dX10_addRegister_6 ci_4 ?_
  refine xj_ine (tgt := 34) dX10_addRegister_7 rfl ?_ ?_
  · refine xj_aloadn 1 dX10_addRegister_10 rfl rfl ?_
    refine gfX10_12 dX10_addRegister_11 rfl ?_
    refine xj_lds (s := 7) (tx := "eaxecxedxebxespebpesiedi") dX10_addRegister_14 rfl (fun G A U H h => h.2.2.2.2.2.2.1 ("BundleFence$Teller", 113, "eaxecxedxebxespebpesiedi", 7) (List.mem_of_getElem? (i := 7) rfl)) ?_
    refine xj_iconst (v := 3) dX10_addRegister_16 ci_3 ?_
    refine xj_iloadn 0 dX10_addRegister_17 rfl rfl ?_
    refine xj_imul dX10_addRegister_18 ?_
    refine xj_iconst (v := 3) dX10_addRegister_19 ci_3 ?_
    refine xj_iloadn 0 dX10_addRegister_20 rfl rfl ?_
    refine xj_imul dX10_addRegister_21 ?_
    refine xj_iconst (v := 3) dX10_addRegister_22 ci_3 ?_
    refine xj_iadd dX10_addRegister_23 ?_
    refine xj_sbB (b2 := (0, 0)) rfl dX10_addRegister_24 dX10_addRegister_27 tw1365 tw1306 rfl rfl rfl rfl rfl (fun w1 => ?_)
    refine xj_pop dX10_addRegister_30 rfl ?_
    refine xj_goto (tgt := 69) dX10_addRegister_31 rfl ?_
    exact xj_rv dX10_addRegister_69 rfl
  · refine xj_iloadn 3 dX10_addRegister_34 rfl rfl ?_
    refine xj_iconst (v := 2) dX10_addRegister_35 ci_2 ?_
    refine xj_ine (tgt := 44) dX10_addRegister_36 rfl ?_ ?_
    · refine xj_lds (s := 8) (tx := "axcxdxbxspbpsidi") dX10_addRegister_39 rfl (fun G A U H h => h.2.2.2.2.2.2.1 ("BundleFence$Teller", 119, "axcxdxbxspbpsidi", 8) (List.mem_of_getElem? (i := 8) rfl)) ?_
      refine xj_goto (tgt := 46) dX10_addRegister_41 rfl ?_
      refine xj_sub (lv2 := [(0, .ref 5), (3, .int (p1 &&& (7 : Int32)))]) [1, 0] rfl ?_
      exact tX10_addRegister_j46 _ _ _
    · refine xj_lds (s := 9) (tx := "alcldlblahchdhbh") dX10_addRegister_44 rfl (fun G A U H h => h.2.2.2.2.2.2.1 ("BundleFence$Teller", 121, "alcldlblahchdhbh", 9) (List.mem_of_getElem? (i := 9) rfl)) ?_
      refine xj_sub (lv2 := [(0, .ref 5), (3, .int (p1 &&& (7 : Int32)))]) [1, 0] rfl ?_
      exact tX10_addRegister_j46 _ _ _
theorem kX10_addRegister (p1 : Int32) (p2 : Int32) (w : xW) : xMet jV mX10_addRegister lC (3, 482) [.ref 5, .int p1, .int p2] w (sX10_addRegister p1 p2 w) := xj_met lC_ok (by decide) (Nat.le_of_ble_eq_true rfl) (Nat.le_refl _) (Nat.le_refl _) (tX10_addRegister p1 p2 w)
set_option maxRecDepth 20000 in
def sX10_addLastNumber (w : xW) : Option (Unit × xW) :=
  xbd (sbC (44 : Int32) w) (fun _ w1 => xbd (sbI (w1.1 2 13) w1) (fun _ w2 => some ((), w2)))
set_option maxRecDepth 20000 in
theorem tX10_addLastNumber (w : xW) : xJ ιV mX10_addLastNumber lC (2, 804) 0 [(0, .ref 5)] [] w (sX10_addLastNumber w) := by
  unfold sX10_addLastNumber
  refine xj_aloadn 0 dX10_addLastNumber_0 rfl rfl ?_
  refine gfX10_12 dX10_addLastNumber_1 rfl ?_
  refine xj_bipush (v := 44) dX10_addLastNumber_4 cb_44 ?_
  refine xj_sbC (b2 := (1, 402)) rfl dX10_addLastNumber_6 tw1339 rfl rfl rfl (fun w1 => ?_)
  refine xj_aloadn 0 dX10_addLastNumber_9 rfl rfl ?_
  refine gfX10_18 dX10_addLastNumber_10 rfl ?_
  refine gfX10_98 (v := (w1.1 2 13)) dX10_addLastNumber_13 rfl rfl ?_
  refine xj_sbI (b2 := (0, 0)) rfl dX10_addLastNumber_16 tw1395 rfl rfl rfl (fun w2 => ?_)
  refine xj_pop dX10_addLastNumber_19 rfl ?_
  exact xj_rv dX10_addLastNumber_20 rfl
theorem kX10_addLastNumber (w : xW) : xMet jV mX10_addLastNumber lC (2, 804) [.ref 5] w (sX10_addLastNumber w) := xj_met lC_ok (by decide) (Nat.le_of_ble_eq_true rfl) (Nat.le_refl _) (Nat.le_refl _) (tX10_addLastNumber w)
set_option maxRecDepth 20000 in
def sX10_addUnsigned_j27 (a2 : Int64) (w : xW) : Option (Unit × xW) :=
  (if ¬ (10 : Int64) = 0 then xbd (sbI ((a2 - a2 / (10 : Int64) * (10 : Int64)).toInt32) w) (fun _ w1 => some ((), w1)) else none)
set_option maxRecDepth 20000 in
theorem tX10_addUnsigned_j27 (a2 : Int64) (w : xW) : xJ ιV mX10_addUnsigned lC (1, 402) 27 [(0, .ref 5), (2, .long a2)] [] w (sX10_addUnsigned_j27 a2 w) := by
  unfold sX10_addUnsigned_j27
  refine xj_aloadn 0 dX10_addUnsigned_27 rfl rfl ?_
  refine gfX10_12 dX10_addUnsigned_28 rfl ?_
  refine xj_lloadn 1 dX10_addUnsigned_31 rfl rfl ?_
  refine xj_ldc2 (v := 10) tw1409 dX10_addUnsigned_32 ?_
  refine xj_lrem dX10_addUnsigned_35 ?_
  refine xj_l2i dX10_addUnsigned_36 ?_
  refine xj_sbI (b2 := (0, 0)) rfl dX10_addUnsigned_37 tw1395 rfl rfl rfl (fun w1 => ?_)
  refine xj_pop dX10_addUnsigned_40 rfl ?_
  exact xj_rv dX10_addUnsigned_41 rfl
set_option maxRecDepth 20000 in
def sX10_addUnsigned (p1 : Int32) (w : xW) : Option (Unit × xW) :=
  xbd (sX11_unsigned p1 w) (fun x1 w2 => (if x1 < (10 : Int64) then sX10_addUnsigned_j27 x1 w2 else (if ¬ (10 : Int64) = 0 then xbd (sbI ((x1 / (10 : Int64)).toInt32) w2) (fun _ w3 => sX10_addUnsigned_j27 x1 w3) else none)))
set_option maxRecDepth 20000 in
theorem tX10_addUnsigned (p1 : Int32) (w : xW) : xJ ιV mX10_addUnsigned lC (2, 804) 0 [(0, .ref 5), (1, .int p1)] [] w (sX10_addUnsigned p1 w) := by
  unfold sX10_addUnsigned
  refine xj_iloadn 1 dX10_addUnsigned_0 rfl rfl ?_
  refine xj_cSNl (argv := [.int p1]) (rest := []) dX10_addUnsigned_1 (kX11_unsigned p1 w) mkX11_unsigned tw1405 rfl rfl rfl rfl (fun x1 w2 => ?_)
  refine xj_lstoren (lv2 := [(2, .long x1), (0, .ref 5), (1, .int p1)]) dX10_addUnsigned_4 rfl (Nat.le_of_ble_eq_true rfl) rfl ?_
  refine xj_lloadn 0 dX10_addUnsigned_5 rfl rfl ?_
  refine xj_ldc2 (v := 10) tw1409 dX10_addUnsigned_6 ?_
  refine xj_llt (tgt := 27) dX10_addUnsigned_9 dX10_addUnsigned_10 rfl ?_ ?_
  · refine xj_wid (b2 := (1, 402)) rfl rfl ?_
    refine xj_sub (lv2 := [(0, .ref 5), (2, .long x1)]) [1, 0] rfl ?_
    exact tX10_addUnsigned_j27 _ _
  · refine xj_aloadn 1 dX10_addUnsigned_13 rfl rfl ?_
    refine gfX10_12 dX10_addUnsigned_14 rfl ?_
    refine xj_lloadn 0 dX10_addUnsigned_17 rfl rfl ?_
    refine xj_ldc2 (v := 10) tw1409 dX10_addUnsigned_18 ?_
    refine xj_ldiv dX10_addUnsigned_21 ?_
    refine xj_l2i dX10_addUnsigned_22 ?_
    refine xj_sbI (b2 := (1, 402)) rfl dX10_addUnsigned_23 tw1395 rfl rfl rfl (fun w3 => ?_)
    refine xj_pop dX10_addUnsigned_26 rfl ?_
    refine xj_sub (lv2 := [(0, .ref 5), (2, .long x1)]) [1, 0] rfl ?_
    exact tX10_addUnsigned_j27 _ _
theorem kX10_addUnsigned (p1 : Int32) (w : xW) : xMet jV mX10_addUnsigned lC (2, 804) [.ref 5, .int p1] w (sX10_addUnsigned p1 w) := xj_met lC_ok (by decide) (Nat.le_of_ble_eq_true rfl) (Nat.le_refl _) (Nat.le_refl _) (tX10_addUnsigned p1 w)
set_option maxRecDepth 20000 in
def sX10_addCondition (w : xW) : Option (Unit × xW) :=
  xlet ((2 : Int32) * ((w.1 2 3) &&& (15 : Int32))) (fun x1 => (if 5 < strN ∧ xin x1 (strLenN 5) then xbd (sbC (strAt 5 x1) w) (fun _ w2 => (if 5 < strN ∧ xin (x1 + (1 : Int32)) (strLenN 5) then (if (strAt 5 (x1 + (1 : Int32))) = (32 : Int32) then some ((), w2) else (if 5 < strN ∧ xin (x1 + (1 : Int32)) (strLenN 5) then xbd (sbC (strAt 5 (x1 + (1 : Int32))) w2) (fun _ w3 => some ((), w3)) else none)) else none)) else none))
set_option maxRecDepth 20000 in
theorem tX10_addCondition (w : xW) : xJ ιV mX10_addCondition lC (2, 804) 0 [(0, .ref 5)] [] w (sX10_addCondition w) := by
  unfold sX10_addCondition
  refine xj_iconst (v := 2) dX10_addCondition_0 ci_2 ?_
  refine xj_aloadn 0 dX10_addCondition_1 rfl rfl ?_
  refine gfX10_18 dX10_addCondition_2 rfl ?_
  refine gfX10_72 (v := (w.1 2 3)) dX10_addCondition_5 rfl rfl ?_
  refine xj_bipush (v := 15) dX10_addCondition_8 cb_15 ?_
  refine xj_iand dX10_addCondition_10 ?_
  refine xj_imul dX10_addCondition_11 ?_
  refine xj_leti (fun x1 => ?_)
  refine xj_istoren (lv2 := [(1, .int x1), (0, .ref 5)]) dX10_addCondition_12 rfl (Nat.le_of_ble_eq_true rfl) rfl ?_
  refine xj_aloadn 1 dX10_addCondition_13 rfl rfl ?_
  refine gfX10_12 dX10_addCondition_14 rfl ?_
  refine xj_lds (s := 5) (tx := "o nob aee nebea s nsp npl geleg ") dX10_addCondition_17 rfl (fun G A U H h => h.2.2.2.2.2.2.1 ("BundleFence$Teller", 75, "o nob aee nebea s nsp npl geleg ", 5) (List.mem_of_getElem? (i := 5) rfl)) ?_
  refine xj_iloadn 0 dX10_addCondition_19 rfl rfl ?_
  refine xj_schar (rest := [.ref 30]) lC_ok lC_str dX10_addCondition_20 tw1315 rfl rfl ?_
  refine xj_sbC (b2 := (1, 402)) rfl dX10_addCondition_23 tw1339 rfl rfl rfl (fun w2 => ?_)
  refine xj_pop dX10_addCondition_26 rfl ?_
  refine xj_lds (s := 5) (tx := "o nob aee nebea s nsp npl geleg ") dX10_addCondition_27 rfl (fun G A U H h => h.2.2.2.2.2.2.1 ("BundleFence$Teller", 75, "o nob aee nebea s nsp npl geleg ", 5) (List.mem_of_getElem? (i := 5) rfl)) ?_
  refine xj_iloadn 0 dX10_addCondition_29 rfl rfl ?_
  refine xj_iconst (v := 1) dX10_addCondition_30 ci_1 ?_
  refine xj_iadd dX10_addCondition_31 ?_
  refine xj_schar (rest := []) lC_ok lC_str dX10_addCondition_32 tw1315 rfl rfl ?_
  refine xj_bipush (v := 32) dX10_addCondition_35 cb_32 ?_
  refine xj_ieq (tgt := 56) dX10_addCondition_37 rfl ?_ ?_
  · refine xj_wid (b2 := (0, 0)) rfl rfl ?_
    exact xj_rv dX10_addCondition_56 rfl
  · refine xj_aloadn 1 dX10_addCondition_40 rfl rfl ?_
    refine gfX10_12 dX10_addCondition_41 rfl ?_
    refine xj_lds (s := 5) (tx := "o nob aee nebea s nsp npl geleg ") dX10_addCondition_44 rfl (fun G A U H h => h.2.2.2.2.2.2.1 ("BundleFence$Teller", 75, "o nob aee nebea s nsp npl geleg ", 5) (List.mem_of_getElem? (i := 5) rfl)) ?_
    refine xj_iloadn 0 dX10_addCondition_46 rfl rfl ?_
    refine xj_iconst (v := 1) dX10_addCondition_47 ci_1 ?_
    refine xj_iadd dX10_addCondition_48 ?_
    refine xj_schar (rest := [.ref 30]) lC_ok lC_str dX10_addCondition_49 tw1315 rfl rfl ?_
    refine xj_sbC (b2 := (0, 0)) rfl dX10_addCondition_52 tw1339 rfl rfl rfl (fun w3 => ?_)
    refine xj_pop dX10_addCondition_55 rfl ?_
    exact xj_rv dX10_addCondition_56 rfl
theorem kX10_addCondition (w : xW) : xMet jV mX10_addCondition lC (2, 804) [.ref 5] w (sX10_addCondition w) := xj_met lC_ok (by decide) (Nat.le_of_ble_eq_true rfl) (Nat.le_refl _) (Nat.le_refl _) (tX10_addCondition w)
set_option maxRecDepth 20000 in
def sX10_addAddress_j157 (w : xW) : Option (Unit × xW) :=
  xbd (sbI (w.1 2 12) w) (fun _ w1 => some ((), w1))
set_option maxRecDepth 20000 in
theorem tX10_addAddress_j157 (w : xW) : xJ ιV mX10_addAddress lC (1, 402) 157 [(0, .ref 5)] [] w (sX10_addAddress_j157 w) := by
  unfold sX10_addAddress_j157
  refine xj_aloadn 0 dX10_addAddress_157 rfl rfl ?_
  refine gfX10_12 dX10_addAddress_158 rfl ?_
  refine xj_aloadn 0 dX10_addAddress_161 rfl rfl ?_
  refine gfX10_18 dX10_addAddress_162 rfl ?_
  refine gfX10_145 (v := (w.1 2 12)) dX10_addAddress_165 rfl rfl ?_
  refine xj_sbI (b2 := (0, 0)) rfl dX10_addAddress_168 tw1395 rfl rfl rfl (fun w1 => ?_)
  refine xj_pop dX10_addAddress_171 rfl ?_
  exact xj_rv dX10_addAddress_172 rfl
set_option maxRecDepth 20000 in
def sX10_addAddress_j143 (a1 : Int32) (w : xW) : Option (Unit × xW) :=
  (if a1 = 0 then (if (w.1 2 12) = 0 then some ((), w) else sX10_addAddress_j157 w) else sX10_addAddress_j157 w)
set_option maxRecDepth 20000 in
theorem tX10_addAddress_j143 (a1 : Int32) (w : xW) : xJ ιV mX10_addAddress lC (1, 402) 143 [(0, .ref 5), (1, .int a1)] [] w (sX10_addAddress_j143 a1 w) := by
  unfold sX10_addAddress_j143
  refine xj_iloadn 1 dX10_addAddress_143 rfl rfl ?_
  refine xj_ifne (tgt := 157) dX10_addAddress_144 rfl ?_ ?_
  · refine xj_aloadn 0 dX10_addAddress_147 rfl rfl ?_
    refine gfX10_18 dX10_addAddress_148 rfl ?_
    refine gfX10_145 (v := (w.1 2 12)) dX10_addAddress_151 rfl rfl ?_
    refine xj_ifeq (tgt := 172) dX10_addAddress_154 rfl ?_ ?_
    · refine xj_wid (b2 := (0, 0)) rfl rfl ?_
      exact xj_rv dX10_addAddress_172 rfl
    · refine xj_sub (lv2 := [(0, .ref 5)]) [0] rfl ?_
      exact tX10_addAddress_j157 _
  · refine xj_sub (lv2 := [(0, .ref 5)]) [0] rfl ?_
    exact tX10_addAddress_j157 _
set_option maxRecDepth 20000 in
def sX10_addAddress_j118 (b0 : Int32) (w : xW) : Option (Unit × xW) :=
  (if b0 = 0 then (if 0 < (w.1 2 12) then xbd (sbC (43 : Int32) w) (fun _ w1 => sX10_addAddress_j143 b0 w1) else sX10_addAddress_j143 b0 w) else sX10_addAddress_j143 b0 w)
set_option maxRecDepth 20000 in
theorem tX10_addAddress_j118 (b0 : Int32) (w : xW) : xJ ιV mX10_addAddress lC (2, 804) 118 [(0, .ref 5)] [.int b0] w (sX10_addAddress_j118 b0 w) := by
  unfold sX10_addAddress_j118
  refine xj_istoren (lv2 := [(1, .int b0), (0, .ref 5)]) dX10_addAddress_118 rfl (Nat.le_of_ble_eq_true rfl) rfl ?_
  refine xj_iloadn 0 dX10_addAddress_119 rfl rfl ?_
  refine xj_ifne (tgt := 143) dX10_addAddress_120 rfl ?_ ?_
  · refine xj_aloadn 1 dX10_addAddress_123 rfl rfl ?_
    refine gfX10_18 dX10_addAddress_124 rfl ?_
    refine gfX10_145 (v := (w.1 2 12)) dX10_addAddress_127 rfl rfl ?_
    refine xj_ifle (tgt := 143) dX10_addAddress_130 rfl ?_ ?_
    · refine xj_aloadn 1 dX10_addAddress_133 rfl rfl ?_
      refine gfX10_12 dX10_addAddress_134 rfl ?_
      refine xj_bipush (v := 43) dX10_addAddress_137 cb_43 ?_
      refine xj_sbC (b2 := (1, 402)) rfl dX10_addAddress_139 tw1339 rfl rfl rfl (fun w1 => ?_)
      refine xj_pop dX10_addAddress_142 rfl ?_
      refine xj_sub (lv2 := [(0, .ref 5), (1, .int b0)]) [1, 0] rfl ?_
      exact tX10_addAddress_j143 _ _
    · refine xj_wid (b2 := (1, 402)) rfl rfl ?_
      refine xj_sub (lv2 := [(0, .ref 5), (1, .int b0)]) [1, 0] rfl ?_
      exact tX10_addAddress_j143 _ _
  · refine xj_wid (b2 := (1, 402)) rfl rfl ?_
    refine xj_sub (lv2 := [(0, .ref 5), (1, .int b0)]) [1, 0] rfl ?_
    exact tX10_addAddress_j143 _ _
set_option maxRecDepth 20000 in
def sX10_addAddress_j117 (w : xW) : Option (Unit × xW) :=
  sX10_addAddress_j118 (0 : Int32) w
set_option maxRecDepth 20000 in
theorem tX10_addAddress_j117 (w : xW) : xJ ιV mX10_addAddress lC (2, 804) 117 [(0, .ref 5)] [] w (sX10_addAddress_j117 w) := by
  unfold sX10_addAddress_j117
  refine xj_iconst (v := 0) dX10_addAddress_117 ci_0 ?_
  exact tX10_addAddress_j118 _ _
set_option maxRecDepth 20000 in
def sX10_addAddress_j91 (w : xW) : Option (Unit × xW) :=
  (if (w.1 2 9) = (-1 : Int32) then (if (w.1 2 10) = (-1 : Int32) then sX10_addAddress_j118 (1 : Int32) w else sX10_addAddress_j117 w) else sX10_addAddress_j117 w)
set_option maxRecDepth 20000 in
theorem tX10_addAddress_j91 (w : xW) : xJ ιV mX10_addAddress lC (2, 804) 91 [(0, .ref 5)] [] w (sX10_addAddress_j91 w) := by
  unfold sX10_addAddress_j91
  refine xj_aloadn 0 dX10_addAddress_91 rfl rfl ?_
  refine gfX10_18 dX10_addAddress_92 rfl ?_
  refine gfX10_136 (v := (w.1 2 9)) dX10_addAddress_95 rfl rfl ?_
  refine xj_iconst (v := -1) dX10_addAddress_98 ci_m1 ?_
  refine xj_ine (tgt := 117) dX10_addAddress_99 rfl ?_ ?_
  · refine xj_aloadn 0 dX10_addAddress_102 rfl rfl ?_
    refine gfX10_18 dX10_addAddress_103 rfl ?_
    refine gfX10_139 (v := (w.1 2 10)) dX10_addAddress_106 rfl rfl ?_
    refine xj_iconst (v := -1) dX10_addAddress_109 ci_m1 ?_
    refine xj_ine (tgt := 117) dX10_addAddress_110 rfl ?_ ?_
    · refine xj_iconst (v := 1) dX10_addAddress_113 ci_1 ?_
      refine xj_goto (tgt := 118) dX10_addAddress_114 rfl ?_
      exact tX10_addAddress_j118 _ _
    · exact tX10_addAddress_j117 _
  · exact tX10_addAddress_j117 _
set_option maxRecDepth 20000 in
def sX10_addAddress_j55 (w : xW) : Option (Unit × xW) :=
  xbd (sX10_addRegister (w.1 2 10) (4 : Int32) w) (fun _ w1 => xbd (sbC (42 : Int32) w1) (fun _ w2 => xbd (sbI ((1 : Int32) <<< (((w2.1 2 11) &&& (3 : Int32)) &&& 31)) w2) (fun _ w3 => sX10_addAddress_j91 w3)))
set_option maxRecDepth 20000 in
theorem tX10_addAddress_j55 (w : xW) : xJ ιV mX10_addAddress lC (7, 2090) 55 [(0, .ref 5)] [] w (sX10_addAddress_j55 w) := by
  unfold sX10_addAddress_j55
  refine xj_aloadn 0 dX10_addAddress_55 rfl rfl ?_
  refine xj_aloadn 0 dX10_addAddress_56 rfl rfl ?_
  refine gfX10_18 dX10_addAddress_57 rfl ?_
  refine gfX10_139 (v := (w.1 2 10)) dX10_addAddress_60 rfl rfl ?_
  refine xj_iconst (v := 4) dX10_addAddress_63 ci_4 ?_
  refine xj_bVv (b2 := (3, 482)) (b3 := (4, 1608)) (argv := [.int (w.1 2 10), .int (4 : Int32)]) (rest := []) rfl dX10_addAddress_64 (kX10_addRegister (w.1 2 10) (4 : Int32) w) mkX10_addRegister tw1360 rfl rfl rfl rfl rfl rfl (fun _ w1 => ?_)
  refine xj_aloadn 0 dX10_addAddress_67 rfl rfl ?_
  refine gfX10_12 dX10_addAddress_68 rfl ?_
  refine xj_bipush (v := 42) dX10_addAddress_71 cb_42 ?_
  refine xj_sbC (b2 := (3, 1206)) rfl dX10_addAddress_73 tw1339 rfl rfl rfl (fun w2 => ?_)
  refine xj_iconst (v := 1) dX10_addAddress_76 ci_1 ?_
  refine xj_aloadn 0 dX10_addAddress_77 rfl rfl ?_
  refine gfX10_18 dX10_addAddress_78 rfl ?_
  refine gfX10_142 (v := (w2.1 2 11)) dX10_addAddress_81 rfl rfl ?_
  refine xj_iconst (v := 3) dX10_addAddress_84 ci_3 ?_
  refine xj_iand dX10_addAddress_85 ?_
  refine xj_ishl dX10_addAddress_86 ?_
  refine xj_sbI (b2 := (2, 804)) rfl dX10_addAddress_87 tw1395 rfl rfl rfl (fun w3 => ?_)
  refine xj_pop dX10_addAddress_90 rfl ?_
  exact tX10_addAddress_j91 _
set_option maxRecDepth 20000 in
def sX10_addAddress_j23 (w : xW) : Option (Unit × xW) :=
  (if (w.1 2 10) = (-1 : Int32) then sX10_addAddress_j91 w else (if (w.1 2 9) = (-1 : Int32) then sX10_addAddress_j55 w else xbd (sbC (43 : Int32) w) (fun _ w1 => sX10_addAddress_j55 w1)))
set_option maxRecDepth 20000 in
theorem tX10_addAddress_j23 (w : xW) : xJ ιV mX10_addAddress lC (8, 2492) 23 [(0, .ref 5)] [] w (sX10_addAddress_j23 w) := by
  unfold sX10_addAddress_j23
  refine xj_aloadn 0 dX10_addAddress_23 rfl rfl ?_
  refine gfX10_18 dX10_addAddress_24 rfl ?_
  refine gfX10_139 (v := (w.1 2 10)) dX10_addAddress_27 rfl rfl ?_
  refine xj_iconst (v := -1) dX10_addAddress_30 ci_m1 ?_
  refine xj_ieq (tgt := 91) dX10_addAddress_31 rfl ?_ ?_
  · refine xj_wid (b2 := (2, 804)) rfl rfl ?_
    exact tX10_addAddress_j91 _
  · refine xj_aloadn 0 dX10_addAddress_34 rfl rfl ?_
    refine gfX10_18 dX10_addAddress_35 rfl ?_
    refine gfX10_136 (v := (w.1 2 9)) dX10_addAddress_38 rfl rfl ?_
    refine xj_iconst (v := -1) dX10_addAddress_41 ci_m1 ?_
    refine xj_ieq (tgt := 55) dX10_addAddress_42 rfl ?_ ?_
    · refine xj_wid (b2 := (7, 2090)) rfl rfl ?_
      exact tX10_addAddress_j55 _
    · refine xj_aloadn 0 dX10_addAddress_45 rfl rfl ?_
      refine gfX10_12 dX10_addAddress_46 rfl ?_
      refine xj_bipush (v := 43) dX10_addAddress_49 cb_43 ?_
      refine xj_sbC (b2 := (7, 2090)) rfl dX10_addAddress_51 tw1339 rfl rfl rfl (fun w1 => ?_)
      refine xj_pop dX10_addAddress_54 rfl ?_
      exact tX10_addAddress_j55 _
set_option maxRecDepth 20000 in
def sX10_addAddress (w : xW) : Option (Unit × xW) :=
  (if (w.1 2 9) = (-1 : Int32) then sX10_addAddress_j23 w else xbd (sX10_addRegister (w.1 2 9) (4 : Int32) w) (fun _ w1 => sX10_addAddress_j23 w1))
set_option maxRecDepth 20000 in
theorem tX10_addAddress (w : xW) : xJ ιV mX10_addAddress lC (11, 2974) 0 [(0, .ref 5)] [] w (sX10_addAddress w) := by
  unfold sX10_addAddress
  refine xj_aloadn 0 dX10_addAddress_0 rfl rfl ?_
  refine gfX10_18 dX10_addAddress_1 rfl ?_
  refine gfX10_136 (v := (w.1 2 9)) dX10_addAddress_4 rfl rfl ?_
  refine xj_iconst (v := -1) dX10_addAddress_7 ci_m1 ?_
  refine xj_ieq (tgt := 23) dX10_addAddress_8 rfl ?_ ?_
  · refine xj_wid (b2 := (8, 2492)) rfl rfl ?_
    exact tX10_addAddress_j23 _
  · refine xj_aloadn 0 dX10_addAddress_11 rfl rfl ?_
    refine xj_aloadn 0 dX10_addAddress_12 rfl rfl ?_
    refine gfX10_18 dX10_addAddress_13 rfl ?_
    refine gfX10_136 (v := (w.1 2 9)) dX10_addAddress_16 rfl rfl ?_
    refine xj_iconst (v := 4) dX10_addAddress_19 ci_4 ?_
    refine xj_bVv (b2 := (3, 482)) (b3 := (8, 2492)) (argv := [.int (w.1 2 9), .int (4 : Int32)]) (rest := []) rfl dX10_addAddress_20 (kX10_addRegister (w.1 2 9) (4 : Int32) w) mkX10_addRegister tw1360 rfl rfl rfl rfl rfl rfl (fun _ w1 => ?_)
    exact tX10_addAddress_j23 _
theorem kX10_addAddress (w : xW) : xMet jV mX10_addAddress lC (11, 2974) [.ref 5] w (sX10_addAddress w) := xj_met lC_ok (by decide) (Nat.le_of_ble_eq_true rfl) (Nat.le_refl _) (Nat.le_refl _) (tX10_addAddress w)
set_option maxRecDepth 20000 in
def sX10_addE_j67 (b0 : Int32) (w : xW) : Option (Unit × xW) :=
  xbd (sbC b0 w) (fun _ w1 => xbd (sbC (91 : Int32) w1) (fun _ w2 => xbd (sX10_addAddress w2) (fun _ w3 => xbd (sbC (93 : Int32) w3) (fun _ w4 => some ((), w4)))))
set_option maxRecDepth 20000 in
theorem tX10_addE_j67 (b0 : Int32) (w : xW) : xJ ιV mX10_addE lC (14, 4180) 67 [(0, .ref 5)] [.int b0, .ref 30] w (sX10_addE_j67 b0 w) := by
  unfold sX10_addE_j67
  refine xj_sbC (b2 := (13, 3778)) rfl dX10_addE_67 tw1339 rfl rfl rfl (fun w1 => ?_)
  refine xj_pop dX10_addE_70 rfl ?_
  refine xj_aloadn 0 dX10_addE_71 rfl rfl ?_
  refine gfX10_12 dX10_addE_72 rfl ?_
  refine xj_bipush (v := 91) dX10_addE_75 cb_91 ?_
  refine xj_sbC (b2 := (12, 3376)) rfl dX10_addE_77 tw1339 rfl rfl rfl (fun w2 => ?_)
  refine xj_pop dX10_addE_80 rfl ?_
  refine xj_aloadn 0 dX10_addE_81 rfl rfl ?_
  refine xj_bVv (b2 := (11, 2974)) (b3 := (1, 402)) (argv := []) (rest := []) rfl dX10_addE_82 (kX10_addAddress w2) mkX10_addAddress tw1391 rfl rfl rfl rfl rfl rfl (fun _ w3 => ?_)
  refine xj_aloadn 0 dX10_addE_85 rfl rfl ?_
  refine gfX10_12 dX10_addE_86 rfl ?_
  refine xj_bipush (v := 93) dX10_addE_89 cb_93 ?_
  refine xj_sbC (b2 := (0, 0)) rfl dX10_addE_91 tw1339 rfl rfl rfl (fun w4 => ?_)
  refine xj_pop dX10_addE_94 rfl ?_
  exact xj_rv dX10_addE_95 rfl
set_option maxRecDepth 20000 in
def sX10_addE (w : xW) : Option (Unit × xW) :=
  (if (w.1 2 6) = 0 then xbd (sX10_addRegister (w.1 2 7) (w.1 2 5) w) (fun _ w1 => some ((), w1)) else (if (w.1 2 5) = (1 : Int32) then sX10_addE_j67 (98 : Int32) w else (if (w.1 2 5) = (2 : Int32) then sX10_addE_j67 (119 : Int32) w else sX10_addE_j67 (100 : Int32) w)))
set_option maxRecDepth 20000 in
theorem tX10_addE (w : xW) : xJ ιV mX10_addE lC (14, 4180) 0 [(0, .ref 5)] [] w (sX10_addE w) := by
  unfold sX10_addE
  refine xj_aloadn 0 dX10_addE_0 rfl rfl ?_
  refine gfX10_18 dX10_addE_1 rfl ?_
  refine gfX10_123 (v := (w.1 2 6)) dX10_addE_4 rfl rfl ?_
  refine xj_ifne (tgt := 29) dX10_addE_7 rfl ?_ ?_
  · refine xj_wid (b2 := (3, 482)) rfl rfl ?_
    refine xj_aloadn 0 dX10_addE_10 rfl rfl ?_
    refine xj_aloadn 0 dX10_addE_11 rfl rfl ?_
    refine gfX10_18 dX10_addE_12 rfl ?_
    refine gfX10_127 (v := (w.1 2 7)) dX10_addE_15 rfl rfl ?_
    refine xj_aloadn 0 dX10_addE_18 rfl rfl ?_
    refine gfX10_18 dX10_addE_19 rfl ?_
    refine gfX10_130 (v := (w.1 2 5)) dX10_addE_22 rfl rfl ?_
    refine xj_bVv (b2 := (3, 482)) (b3 := (0, 0)) (argv := [.int (w.1 2 7), .int (w.1 2 5)]) (rest := []) rfl dX10_addE_25 (kX10_addRegister (w.1 2 7) (w.1 2 5) w) mkX10_addRegister tw1360 rfl rfl rfl rfl rfl rfl (fun _ w1 => ?_)
    exact xj_rv dX10_addE_28 rfl
  · refine xj_aloadn 0 dX10_addE_29 rfl rfl ?_
    refine gfX10_12 dX10_addE_30 rfl ?_
    refine xj_aloadn 0 dX10_addE_33 rfl rfl ?_
    refine gfX10_18 dX10_addE_34 rfl ?_
    refine gfX10_130 (v := (w.1 2 5)) dX10_addE_37 rfl rfl ?_
    refine xj_iconst (v := 1) dX10_addE_40 ci_1 ?_
    refine xj_ine (tgt := 49) dX10_addE_41 rfl ?_ ?_
    · refine xj_bipush (v := 98) dX10_addE_44 cb_98 ?_
      refine xj_goto (tgt := 67) dX10_addE_46 rfl ?_
      exact tX10_addE_j67 _ _
    · refine xj_aloadn 0 dX10_addE_49 rfl rfl ?_
      refine gfX10_18 dX10_addE_50 rfl ?_
      refine gfX10_130 (v := (w.1 2 5)) dX10_addE_53 rfl rfl ?_
      refine xj_iconst (v := 2) dX10_addE_56 ci_2 ?_
      refine xj_ine (tgt := 65) dX10_addE_57 rfl ?_ ?_
      · refine xj_bipush (v := 119) dX10_addE_60 cb_119 ?_
        refine xj_goto (tgt := 67) dX10_addE_62 rfl ?_
        exact tX10_addE_j67 _ _
      · refine xj_bipush (v := 100) dX10_addE_65 cb_100 ?_
        exact tX10_addE_j67 _ _
theorem kX10_addE (w : xW) : xMet jV mX10_addE lC (14, 4180) [.ref 5] w (sX10_addE w) := xj_met lC_ok (by decide) (Nat.le_of_ble_eq_true rfl) (Nat.le_refl _) (Nat.le_refl _) (tX10_addE w)
set_option maxRecDepth 20000 in
def sX10_addOperands_j253 (w : xW) : Option (Unit × xW) :=
  xbd (sbI (w.1 2 13) w) (fun _ w1 => some ((), w1))
set_option maxRecDepth 20000 in
theorem tX10_addOperands_j253 (w : xW) : xJ ιV mX10_addOperands lC (1, 402) 253 [(0, .ref 5)] [] w (sX10_addOperands_j253 w) := by
  unfold sX10_addOperands_j253
  refine xj_aloadn 0 dX10_addOperands_253 rfl rfl ?_
  refine gfX10_12 dX10_addOperands_254 rfl ?_
  refine xj_aloadn 0 dX10_addOperands_257 rfl rfl ?_
  refine gfX10_18 dX10_addOperands_258 rfl ?_
  refine gfX10_98 (v := (w.1 2 13)) dX10_addOperands_261 rfl rfl ?_
  refine xj_sbI (b2 := (0, 0)) rfl dX10_addOperands_264 tw1395 rfl rfl rfl (fun w1 => ?_)
  refine xj_pop dX10_addOperands_267 rfl ?_
  exact xj_rv dX10_addOperands_268 rfl
set_option maxRecDepth 20000 in
def sX10_addOperands (w : xW) : Option (Unit × xW) :=
  xsw (w.1 2 1) (1) [xbd (sX10_addE w) (fun _ w1 => xbd (sbC (44 : Int32) w1) (fun _ w2 => xbd (sX10_addRegister (w2.1 2 8) (w2.1 2 4) w2) (fun _ w3 => some ((), w3)))), xbd (sX10_addRegister (w.1 2 8) (w.1 2 4) w) (fun _ w4 => xbd (sbC (44 : Int32) w4) (fun _ w5 => xbd (sX10_addE w5) (fun _ w6 => some ((), w6)))), xbd (sX10_addE w) (fun _ w7 => xbd (sX10_addLastNumber w7) (fun _ w8 => some ((), w8))), xbd (sX10_addE w) (fun _ w9 => xbd (sbS 6 w9) (fun _ w10 => some ((), w10))), xbd (sX10_addE w) (fun _ w11 => some ((), w11)), sX10_addOperands_j253 w, xbd (sX10_addRegister (w.1 2 8) (w.1 2 4) w) (fun _ w12 => xbd (sbC (44 : Int32) w12) (fun _ w13 => xbd (sX10_addE w13) (fun _ w14 => xbd (sX10_addLastNumber w14) (fun _ w15 => some ((), w15))))), xbd (sX10_addE w) (fun _ w16 => xbd (sbC (44 : Int32) w16) (fun _ w17 => xbd (sX10_addRegister (w17.1 2 8) (w17.1 2 4) w17) (fun _ w18 => xbd (sX10_addLastNumber w18) (fun _ w19 => some ((), w19))))), xbd (sX10_addUnsigned (w.1 2 13) w) (fun _ w20 => some ((), w20))] (sX10_addOperands_j253 w)
set_option maxRecDepth 20000 in
theorem tX10_addOperands (w : xW) : xJ ιV mX10_addOperands lC (20, 5868) 0 [(0, .ref 5)] [] w (sX10_addOperands w) := by
  unfold sX10_addOperands
  refine xj_aloadn 0 dX10_addOperands_0 rfl rfl ?_
  refine gfX10_18 dX10_addOperands_1 rfl ?_
  refine gfX10_54 (v := (w.1 2 1)) dX10_addOperands_4 rfl rfl ?_
  refine xj_tsw (tgtd := 253) [56, 91, 126, 137, 154, 253, 161, 200, 239] dX10_addOperands_7 rfl rfl rfl rfl ?_ ⟨?_, ?_, ?_, ?_, ?_, ?_, ?_, ?_, ?_, trivial⟩
  · refine xj_wid (b2 := (1, 402)) rfl rfl ?_
    exact tX10_addOperands_j253 _
  · refine xj_wid (b2 := (18, 5064)) rfl rfl ?_
    refine xj_aloadn 0 dX10_addOperands_56 rfl rfl ?_
    refine xj_bVv (b2 := (14, 4180)) (b3 := (4, 884)) (argv := []) (rest := []) rfl dX10_addOperands_57 (kX10_addE w) mkX10_addE tw1356 rfl rfl rfl rfl rfl rfl (fun _ w1 => ?_)
    refine xj_aloadn 0 dX10_addOperands_60 rfl rfl ?_
    refine gfX10_12 dX10_addOperands_61 rfl ?_
    refine xj_bipush (v := 44) dX10_addOperands_64 cb_44 ?_
    refine xj_sbC (b2 := (3, 482)) rfl dX10_addOperands_66 tw1339 rfl rfl rfl (fun w2 => ?_)
    refine xj_pop dX10_addOperands_69 rfl ?_
    refine xj_aloadn 0 dX10_addOperands_70 rfl rfl ?_
    refine xj_aloadn 0 dX10_addOperands_71 rfl rfl ?_
    refine gfX10_18 dX10_addOperands_72 rfl ?_
    refine gfX10_83 (v := (w2.1 2 8)) dX10_addOperands_75 rfl rfl ?_
    refine xj_aloadn 0 dX10_addOperands_78 rfl rfl ?_
    refine gfX10_18 dX10_addOperands_79 rfl ?_
    refine gfX10_86 (v := (w2.1 2 4)) dX10_addOperands_82 rfl rfl ?_
    refine xj_bVv (b2 := (3, 482)) (b3 := (0, 0)) (argv := [.int (w2.1 2 8), .int (w2.1 2 4)]) (rest := []) rfl dX10_addOperands_85 (kX10_addRegister (w2.1 2 8) (w2.1 2 4) w2) mkX10_addRegister tw1360 rfl rfl rfl rfl rfl rfl (fun _ w3 => ?_)
    refine xj_goto (tgt := 268) dX10_addOperands_88 rfl ?_
    exact xj_rv dX10_addOperands_268 rfl
  · refine xj_wid (b2 := (18, 5064)) rfl rfl ?_
    refine xj_aloadn 0 dX10_addOperands_91 rfl rfl ?_
    refine xj_aloadn 0 dX10_addOperands_92 rfl rfl ?_
    refine gfX10_18 dX10_addOperands_93 rfl ?_
    refine gfX10_83 (v := (w.1 2 8)) dX10_addOperands_96 rfl rfl ?_
    refine xj_aloadn 0 dX10_addOperands_99 rfl rfl ?_
    refine gfX10_18 dX10_addOperands_100 rfl ?_
    refine gfX10_86 (v := (w.1 2 4)) dX10_addOperands_103 rfl rfl ?_
    refine xj_bVv (b2 := (3, 482)) (b3 := (15, 4582)) (argv := [.int (w.1 2 8), .int (w.1 2 4)]) (rest := []) rfl dX10_addOperands_106 (kX10_addRegister (w.1 2 8) (w.1 2 4) w) mkX10_addRegister tw1360 rfl rfl rfl rfl rfl rfl (fun _ w4 => ?_)
    refine xj_aloadn 0 dX10_addOperands_109 rfl rfl ?_
    refine gfX10_12 dX10_addOperands_110 rfl ?_
    refine xj_bipush (v := 44) dX10_addOperands_113 cb_44 ?_
    refine xj_sbC (b2 := (14, 4180)) rfl dX10_addOperands_115 tw1339 rfl rfl rfl (fun w5 => ?_)
    refine xj_pop dX10_addOperands_118 rfl ?_
    refine xj_aloadn 0 dX10_addOperands_119 rfl rfl ?_
    refine xj_bVv (b2 := (14, 4180)) (b3 := (0, 0)) (argv := []) (rest := []) rfl dX10_addOperands_120 (kX10_addE w5) mkX10_addE tw1356 rfl rfl rfl rfl rfl rfl (fun _ w6 => ?_)
    refine xj_goto (tgt := 268) dX10_addOperands_123 rfl ?_
    exact xj_rv dX10_addOperands_268 rfl
  · refine xj_wid (b2 := (16, 4984)) rfl rfl ?_
    refine xj_aloadn 0 dX10_addOperands_126 rfl rfl ?_
    refine xj_bVv (b2 := (14, 4180)) (b3 := (2, 804)) (argv := []) (rest := []) rfl dX10_addOperands_127 (kX10_addE w) mkX10_addE tw1356 rfl rfl rfl rfl rfl rfl (fun _ w7 => ?_)
    refine xj_aloadn 0 dX10_addOperands_130 rfl rfl ?_
    refine xj_bVv (b2 := (2, 804)) (b3 := (0, 0)) (argv := []) (rest := []) rfl dX10_addOperands_131 (kX10_addLastNumber w7) mkX10_addLastNumber tw1396 rfl rfl rfl rfl rfl rfl (fun _ w8 => ?_)
    refine xj_goto (tgt := 268) dX10_addOperands_134 rfl ?_
    exact xj_rv dX10_addOperands_268 rfl
  · refine xj_wid (b2 := (15, 4582)) rfl rfl ?_
    refine xj_aloadn 0 dX10_addOperands_137 rfl rfl ?_
    refine xj_bVv (b2 := (14, 4180)) (b3 := (1, 402)) (argv := []) (rest := []) rfl dX10_addOperands_138 (kX10_addE w) mkX10_addE tw1356 rfl rfl rfl rfl rfl rfl (fun _ w9 => ?_)
    refine xj_aloadn 0 dX10_addOperands_141 rfl rfl ?_
    refine gfX10_12 dX10_addOperands_142 rfl ?_
    refine xj_lds (s := 6) (tx := ",cl") dX10_addOperands_145 rfl (fun G A U H h => h.2.2.2.2.2.2.1 ("BundleFence$Teller", 96, ",cl", 6) (List.mem_of_getElem? (i := 6) rfl)) ?_
    refine xj_sbS (b2 := (0, 0)) rfl dX10_addOperands_147 tw1306 rfl rfl rfl (fun w10 => ?_)
    refine xj_pop dX10_addOperands_150 rfl ?_
    refine xj_goto (tgt := 268) dX10_addOperands_151 rfl ?_
    exact xj_rv dX10_addOperands_268 rfl
  · refine xj_wid (b2 := (14, 4180)) rfl rfl ?_
    refine xj_aloadn 0 dX10_addOperands_154 rfl rfl ?_
    refine xj_bVv (b2 := (14, 4180)) (b3 := (0, 0)) (argv := []) (rest := []) rfl dX10_addOperands_155 (kX10_addE w) mkX10_addE tw1356 rfl rfl rfl rfl rfl rfl (fun _ w11 => ?_)
    refine xj_goto (tgt := 268) dX10_addOperands_158 rfl ?_
    exact xj_rv dX10_addOperands_268 rfl
  · refine xj_wid (b2 := (1, 402)) rfl rfl ?_
    exact tX10_addOperands_j253 _
  · refine xj_aloadn 0 dX10_addOperands_161 rfl rfl ?_
    refine xj_aloadn 0 dX10_addOperands_162 rfl rfl ?_
    refine gfX10_18 dX10_addOperands_163 rfl ?_
    refine gfX10_83 (v := (w.1 2 8)) dX10_addOperands_166 rfl rfl ?_
    refine xj_aloadn 0 dX10_addOperands_169 rfl rfl ?_
    refine gfX10_18 dX10_addOperands_170 rfl ?_
    refine gfX10_86 (v := (w.1 2 4)) dX10_addOperands_173 rfl rfl ?_
    refine xj_bVv (b2 := (3, 482)) (b3 := (17, 5386)) (argv := [.int (w.1 2 8), .int (w.1 2 4)]) (rest := []) rfl dX10_addOperands_176 (kX10_addRegister (w.1 2 8) (w.1 2 4) w) mkX10_addRegister tw1360 rfl rfl rfl rfl rfl rfl (fun _ w12 => ?_)
    refine xj_aloadn 0 dX10_addOperands_179 rfl rfl ?_
    refine gfX10_12 dX10_addOperands_180 rfl ?_
    refine xj_bipush (v := 44) dX10_addOperands_183 cb_44 ?_
    refine xj_sbC (b2 := (16, 4984)) rfl dX10_addOperands_185 tw1339 rfl rfl rfl (fun w13 => ?_)
    refine xj_pop dX10_addOperands_188 rfl ?_
    refine xj_aloadn 0 dX10_addOperands_189 rfl rfl ?_
    refine xj_bVv (b2 := (14, 4180)) (b3 := (2, 804)) (argv := []) (rest := []) rfl dX10_addOperands_190 (kX10_addE w13) mkX10_addE tw1356 rfl rfl rfl rfl rfl rfl (fun _ w14 => ?_)
    refine xj_aloadn 0 dX10_addOperands_193 rfl rfl ?_
    refine xj_bVv (b2 := (2, 804)) (b3 := (0, 0)) (argv := []) (rest := []) rfl dX10_addOperands_194 (kX10_addLastNumber w14) mkX10_addLastNumber tw1396 rfl rfl rfl rfl rfl rfl (fun _ w15 => ?_)
    refine xj_goto (tgt := 268) dX10_addOperands_197 rfl ?_
    exact xj_rv dX10_addOperands_268 rfl
  · refine xj_aloadn 0 dX10_addOperands_200 rfl rfl ?_
    refine xj_bVv (b2 := (14, 4180)) (b3 := (6, 1688)) (argv := []) (rest := []) rfl dX10_addOperands_201 (kX10_addE w) mkX10_addE tw1356 rfl rfl rfl rfl rfl rfl (fun _ w16 => ?_)
    refine xj_aloadn 0 dX10_addOperands_204 rfl rfl ?_
    refine gfX10_12 dX10_addOperands_205 rfl ?_
    refine xj_bipush (v := 44) dX10_addOperands_208 cb_44 ?_
    refine xj_sbC (b2 := (5, 1286)) rfl dX10_addOperands_210 tw1339 rfl rfl rfl (fun w17 => ?_)
    refine xj_pop dX10_addOperands_213 rfl ?_
    refine xj_aloadn 0 dX10_addOperands_214 rfl rfl ?_
    refine xj_aloadn 0 dX10_addOperands_215 rfl rfl ?_
    refine gfX10_18 dX10_addOperands_216 rfl ?_
    refine gfX10_83 (v := (w17.1 2 8)) dX10_addOperands_219 rfl rfl ?_
    refine xj_aloadn 0 dX10_addOperands_222 rfl rfl ?_
    refine gfX10_18 dX10_addOperands_223 rfl ?_
    refine gfX10_86 (v := (w17.1 2 4)) dX10_addOperands_226 rfl rfl ?_
    refine xj_bVv (b2 := (3, 482)) (b3 := (2, 804)) (argv := [.int (w17.1 2 8), .int (w17.1 2 4)]) (rest := []) rfl dX10_addOperands_229 (kX10_addRegister (w17.1 2 8) (w17.1 2 4) w17) mkX10_addRegister tw1360 rfl rfl rfl rfl rfl rfl (fun _ w18 => ?_)
    refine xj_aloadn 0 dX10_addOperands_232 rfl rfl ?_
    refine xj_bVv (b2 := (2, 804)) (b3 := (0, 0)) (argv := []) (rest := []) rfl dX10_addOperands_233 (kX10_addLastNumber w18) mkX10_addLastNumber tw1396 rfl rfl rfl rfl rfl rfl (fun _ w19 => ?_)
    refine xj_goto (tgt := 268) dX10_addOperands_236 rfl ?_
    exact xj_rv dX10_addOperands_268 rfl
  · refine xj_wid (b2 := (2, 804)) rfl rfl ?_
    refine xj_aloadn 0 dX10_addOperands_239 rfl rfl ?_
    refine xj_aloadn 0 dX10_addOperands_240 rfl rfl ?_
    refine gfX10_18 dX10_addOperands_241 rfl ?_
    refine gfX10_98 (v := (w.1 2 13)) dX10_addOperands_244 rfl rfl ?_
    refine xj_bVv (b2 := (2, 804)) (b3 := (0, 0)) (argv := [.int (w.1 2 13)]) (rest := []) rfl dX10_addOperands_247 (kX10_addUnsigned (w.1 2 13) w) mkX10_addUnsigned tw1401 rfl rfl rfl rfl rfl rfl (fun _ w20 => ?_)
    refine xj_goto (tgt := 268) dX10_addOperands_250 rfl ?_
    exact xj_rv dX10_addOperands_268 rfl
theorem kX10_addOperands (w : xW) : xMet jV mX10_addOperands lC (20, 5868) [.ref 5] w (sX10_addOperands w) := xj_met lC_ok (by decide) (Nat.le_of_ble_eq_true rfl) (Nat.le_refl _) (Nat.le_refl _) (tX10_addOperands w)
set_option maxRecDepth 20000 in
def sX10_compose_j69 (w : xW) : Option (Int32 × xW) :=
  (if (w.1 2 1) = 0 then some ((w.1 41 0), w) else xbd (sbC (32 : Int32) w) (fun _ w1 => xbd (sX10_addOperands w1) (fun _ w2 => some ((w2.1 41 0), w2))))
set_option maxRecDepth 20000 in
theorem tX10_compose_j69 (w : xW) : xJ ιI mX10_compose lC (21, 6270) 69 [(0, .ref 5)] [] w (sX10_compose_j69 w) := by
  unfold sX10_compose_j69
  refine xj_aloadn 0 dX10_compose_69 rfl rfl ?_
  refine gfX10_18 dX10_compose_70 rfl ?_
  refine gfX10_54 (v := (w.1 2 1)) dX10_compose_73 rfl rfl ?_
  refine xj_ifeq (tgt := 93) dX10_compose_76 rfl ?_ ?_
  · refine xj_wid (b2 := (0, 0)) rfl rfl ?_
    refine xj_aloadn 0 dX10_compose_93 rfl rfl ?_
    refine gfX10_12 dX10_compose_94 rfl ?_
    refine xj_sbL dX10_compose_97 tw1410 rfl rfl rfl ?_
    exact xj_ri dX10_compose_100 rfl
  · refine xj_aloadn 0 dX10_compose_79 rfl rfl ?_
    refine gfX10_12 dX10_compose_80 rfl ?_
    refine xj_bipush (v := 32) dX10_compose_83 cb_32 ?_
    refine xj_sbC (b2 := (20, 5868)) rfl dX10_compose_85 tw1339 rfl rfl rfl (fun w1 => ?_)
    refine xj_pop dX10_compose_88 rfl ?_
    refine xj_aloadn 0 dX10_compose_89 rfl rfl ?_
    refine xj_bVv (b2 := (20, 5868)) (b3 := (0, 0)) (argv := []) (rest := []) rfl dX10_compose_90 (kX10_addOperands w1) mkX10_addOperands tw1352 rfl rfl rfl rfl rfl rfl (fun _ w2 => ?_)
    refine xj_aloadn 0 dX10_compose_93 rfl rfl ?_
    refine gfX10_12 dX10_compose_94 rfl ?_
    refine xj_sbL dX10_compose_97 tw1410 rfl rfl rfl ?_
    exact xj_ri dX10_compose_100 rfl
set_option maxRecDepth 20000 in
def sX10_compose_j65 (w : xW) : Option (Int32 × xW) :=
  xbd (sX10_addCondition w) (fun _ w1 => sX10_compose_j69 w1)
set_option maxRecDepth 20000 in
theorem tX10_compose_j65 (w : xW) : xJ ιI mX10_compose lC (23, 7074) 65 [(0, .ref 5)] [] w (sX10_compose_j65 w) := by
  unfold sX10_compose_j65
  refine xj_aloadn 0 dX10_compose_65 rfl rfl ?_
  refine xj_bVv (b2 := (2, 804)) (b3 := (21, 6270)) (argv := []) (rest := []) rfl dX10_compose_66 (kX10_addCondition w) mkX10_addCondition tw1310 rfl rfl rfl rfl rfl rfl (fun _ w1 => ?_)
  exact tX10_compose_j69 _
set_option maxRecDepth 20000 in
def sX10_compose (w : xW) : Option (Int32 × xW) :=
  xbd (sbZ w) (fun _ w1 => (if xin (w1.1 2 0) 54 then xbd (sbS (opWd (w1.1 2 0)) w1) (fun _ w2 => (if xin (w2.1 2 0) 54 ∧ xin (46 : Int32) 54 then (if (w2.1 2 0) = (46 : Int32) then sX10_compose_j65 w2 else (if xin (w2.1 2 0) 54 ∧ xin (33 : Int32) 54 then (if (w2.1 2 0) = (33 : Int32) then sX10_compose_j65 w2 else (if xin (w2.1 2 0) 54 ∧ xin (32 : Int32) 54 then (if (w2.1 2 0) = (32 : Int32) then sX10_compose_j65 w2 else sX10_compose_j69 w2) else none)) else none)) else none)) else none))
set_option maxRecDepth 20000 in
theorem tX10_compose (w : xW) : xJ ιI mX10_compose lC (25, 7878) 0 [(0, .ref 5)] [] w (sX10_compose w) := by
  unfold sX10_compose
  refine xj_aloadn 0 dX10_compose_0 rfl rfl ?_
  refine gfX10_12 dX10_compose_1 rfl ?_
  refine xj_iconst (v := 0) dX10_compose_4 ci_0 ?_
  refine xj_sbZ (b2 := (24, 7476)) rfl dX10_compose_5 tw964 rfl rfl rfl (fun w1 => ?_)
  refine xj_aloadn 0 dX10_compose_8 rfl rfl ?_
  refine gfX10_12 dX10_compose_9 rfl ?_
  refine xj_aloadn 0 dX10_compose_12 rfl rfl ?_
  refine gfX10_18 dX10_compose_13 rfl ?_
  refine gfX10_26 (v := (w1.1 2 0)) dX10_compose_16 rfl rfl ?_
  refine xj_opword dX10_compose_19 tw2447 ?_
  refine xj_sbS (b2 := (23, 7074)) rfl dX10_compose_22 tw1306 rfl rfl rfl (fun w2 => ?_)
  refine xj_pop dX10_compose_25 rfl ?_
  refine xj_aloadn 0 dX10_compose_26 rfl rfl ?_
  refine gfX10_18 dX10_compose_27 rfl ?_
  refine gfX10_26 (v := (w2.1 2 0)) dX10_compose_30 rfl rfl ?_
  refine xj_gse (n := 46) 46 dX10_compose_33 (Nat.le_of_ble_eq_true rfl) rfl tw1307 ?_
  refine xj_guard (fun hq => ?_)
  refine xj_aeq hq.1 hq.2 (tgt := 65) dX10_compose_36 rfl ?_ ?_
  · exact tX10_compose_j65 _
  · refine xj_aloadn 0 dX10_compose_39 rfl rfl ?_
    refine gfX10_18 dX10_compose_40 rfl ?_
    refine gfX10_26 (v := (w2.1 2 0)) dX10_compose_43 rfl rfl ?_
    refine xj_gse (n := 33) 33 dX10_compose_46 (Nat.le_of_ble_eq_true rfl) rfl tw1308 ?_
    refine xj_guard (fun hq => ?_)
    refine xj_aeq hq.1 hq.2 (tgt := 65) dX10_compose_49 rfl ?_ ?_
    · exact tX10_compose_j65 _
    · refine xj_aloadn 0 dX10_compose_52 rfl rfl ?_
      refine gfX10_18 dX10_compose_53 rfl ?_
      refine gfX10_26 (v := (w2.1 2 0)) dX10_compose_56 rfl rfl ?_
      refine xj_gse (n := 32) 32 dX10_compose_59 (Nat.le_of_ble_eq_true rfl) rfl tw1309 ?_
      refine xj_guard (fun hq => ?_)
      refine xj_ane hq.1 hq.2 (tgt := 69) dX10_compose_62 rfl ?_ ?_
      · exact tX10_compose_j65 _
      · refine xj_wid (b2 := (21, 6270)) rfl rfl ?_
        exact tX10_compose_j69 _
theorem kX10_compose (w : xW) : xMet jI mX10_compose lC (25, 7878) [.ref 5] w (sX10_compose w) := xj_met lC_ok (by decide) (Nat.le_of_ble_eq_true rfl) (Nat.le_refl _) (Nat.le_refl _) (tX10_compose w)
set_option maxRecDepth 20000 in
def sX10_eightFrom_j70 (K6 : Int32 → Int64 → Int32 → xW → Option (Int64 × xW)) (a1 : Int32) (a4 : Int32) (b0 : Int32) (b1 : Int64) (w : xW) : Option (Int64 × xW) :=
  K6 a1 (b1 ||| b0.toInt64) (a4 + (-1 : Int32)) w
set_option maxRecDepth 20000 in
theorem tX10_eightFrom_j70 (K6 : Int32 → Int64 → Int32 → xW → Option (Int64 × xW)) (hK6 : ∀ (a1 : Int32) (a2 : Int64) (a4 : Int32) (w : xW), xJ ιL mX10_eightFrom lC (0, 0) 6 [(0, .ref 5), (1, .int a1), (2, .long a2), (4, .int a4)] [] w (K6 a1 a2 a4 w)) (a1 : Int32) (a4 : Int32) (b0 : Int32) (b1 : Int64) (w : xW) : xJ ιL mX10_eightFrom lC (0, 0) 70 [(0, .ref 5), (1, .int a1), (4, .int a4)] [.int b0, .long b1] w (sX10_eightFrom_j70 K6 a1 a4 b0 b1 w) := by
  unfold sX10_eightFrom_j70
  refine xj_i2l dX10_eightFrom_70 ?_
  refine xj_lor dX10_eightFrom_71 ?_
  refine xj_lstoren (lv2 := [(2, .long (b1 ||| b0.toInt64)), (0, .ref 5), (1, .int a1), (4, .int a4)]) dX10_eightFrom_72 rfl (Nat.le_of_ble_eq_true rfl) rfl ?_
  refine xj_iinc (n := 3) (lv2 := [(4, .int (a4 + (-1 : Int32))), (2, .long (b1 ||| b0.toInt64)), (0, .ref 5), (1, .int a1)]) dX10_eightFrom_73 rfl ci_m1 (Nat.le_of_ble_eq_true rfl) rfl ?_
  refine xj_goto (tgt := 6) dX10_eightFrom_76 rfl ?_
  refine xj_sub (lv2 := [(0, .ref 5), (1, .int a1), (2, .long (b1 ||| b0.toInt64)), (4, .int (a4 + (-1 : Int32)))]) [2, 3, 1, 0] rfl ?_
  exact hK6 _ _ _ _
set_option maxRecDepth 20000 in
def sX10_eightFrom_j45 (K6 : Int32 → Int64 → Int32 → xW → Option (Int64 × xW)) (a1 : Int32) (a2 : Int64) (a4 : Int32) (a5 : Int64) (b0 : Int32) (w : xW) : Option (Int64 × xW) :=
  (if b0 = 0 then sX10_eightFrom_j70 K6 a1 a4 (0 : Int32) (xlshl a2 (8 : Int32)) w else (if xin a5.toInt32 ((w.1 41 0)).toNatClampNeg then sX10_eightFrom_j70 K6 a1 a4 (w.1 40 a5.toInt32.toNatClampNeg) (xlshl a2 (8 : Int32)) w else none))
set_option maxRecDepth 20000 in
theorem tX10_eightFrom_j45 (K6 : Int32 → Int64 → Int32 → xW → Option (Int64 × xW)) (hK6 : ∀ (a1 : Int32) (a2 : Int64) (a4 : Int32) (w : xW), xJ ιL mX10_eightFrom lC (0, 0) 6 [(0, .ref 5), (1, .int a1), (2, .long a2), (4, .int a4)] [] w (K6 a1 a2 a4 w)) (a1 : Int32) (a2 : Int64) (a4 : Int32) (a5 : Int64) (b0 : Int32) (w : xW) : xJ ιL mX10_eightFrom lC (0, 0) 45 [(0, .ref 5), (1, .int a1), (2, .long a2), (4, .int a4), (5, .long a5)] [.int b0] w (sX10_eightFrom_j45 K6 a1 a2 a4 a5 b0 w) := by
  unfold sX10_eightFrom_j45
  refine xj_istore (lv2 := [(7, .int b0), (0, .ref 5), (1, .int a1), (2, .long a2), (4, .int a4), (5, .long a5)]) dX10_eightFrom_45 (Nat.le_of_ble_eq_true rfl) rfl ?_
  refine xj_lloadn 3 dX10_eightFrom_47 rfl rfl ?_
  refine xj_bipush (v := 8) dX10_eightFrom_48 cb_8 ?_
  refine xj_lshl dX10_eightFrom_50 ?_
  refine xj_iload 0 dX10_eightFrom_51 rfl ?_
  refine xj_ifeq (tgt := 69) dX10_eightFrom_53 rfl ?_ ?_
  · refine xj_iconst (v := 0) dX10_eightFrom_69 ci_0 ?_
    refine xj_sub (lv2 := [(0, .ref 5), (1, .int a1), (4, .int a4)]) [1, 2, 4] rfl ?_
    exact tX10_eightFrom_j70 K6 hK6 _ _ _ _ _
  · refine xj_aloadn 1 dX10_eightFrom_56 rfl rfl ?_
    refine gfX10_12 dX10_eightFrom_57 rfl ?_
    refine xj_lload 5 dX10_eightFrom_60 rfl ?_
    refine xj_l2i dX10_eightFrom_62 ?_
    refine xj_sbA dX10_eightFrom_63 tw1419 rfl rfl rfl ?_
    refine xj_goto (tgt := 70) dX10_eightFrom_66 rfl ?_
    refine xj_sub (lv2 := [(0, .ref 5), (1, .int a1), (4, .int a4)]) [1, 2, 4] rfl ?_
    exact tX10_eightFrom_j70 K6 hK6 _ _ _ _ _
set_option maxRecDepth 20000 in
def sX10_eightFrom_j44 (K6 : Int32 → Int64 → Int32 → xW → Option (Int64 × xW)) (a1 : Int32) (a2 : Int64) (a4 : Int32) (a5 : Int64) (w : xW) : Option (Int64 × xW) :=
  sX10_eightFrom_j45 K6 a1 a2 a4 a5 (0 : Int32) w
set_option maxRecDepth 20000 in
theorem tX10_eightFrom_j44 (K6 : Int32 → Int64 → Int32 → xW → Option (Int64 × xW)) (hK6 : ∀ (a1 : Int32) (a2 : Int64) (a4 : Int32) (w : xW), xJ ιL mX10_eightFrom lC (0, 0) 6 [(0, .ref 5), (1, .int a1), (2, .long a2), (4, .int a4)] [] w (K6 a1 a2 a4 w)) (a1 : Int32) (a2 : Int64) (a4 : Int32) (a5 : Int64) (w : xW) : xJ ιL mX10_eightFrom lC (0, 0) 44 [(0, .ref 5), (1, .int a1), (2, .long a2), (4, .int a4), (5, .long a5)] [] w (sX10_eightFrom_j44 K6 a1 a2 a4 a5 w) := by
  unfold sX10_eightFrom_j44
  refine xj_iconst (v := 0) dX10_eightFrom_44 ci_0 ?_
  exact tX10_eightFrom_j45 K6 hK6 _ _ _ _ _ _
set_option maxRecDepth 20000 in
def sX10_eightFrom_l6 : Nat → Int32 → Int64 → Int32 → xW → Option (Int64 × xW)
  | 0, _, _, _, _ => none
  | n + 1, a1, a2, a4, w =>
  (if a4 < 0 then some (a2, w) else (if (a1.toInt64 + a4.toInt64) < (0 : Int64) then sX10_eightFrom_j44 (sX10_eightFrom_l6 n) a1 a2 a4 (a1.toInt64 + a4.toInt64) w else (if (a1.toInt64 + a4.toInt64) < (w.1 41 0).toInt64 then sX10_eightFrom_j45 (sX10_eightFrom_l6 n) a1 a2 a4 (a1.toInt64 + a4.toInt64) (1 : Int32) w else sX10_eightFrom_j44 (sX10_eightFrom_l6 n) a1 a2 a4 (a1.toInt64 + a4.toInt64) w)))
set_option maxRecDepth 20000 in
theorem tX10_eightFrom_l6 : ∀ (n : Nat) (a1 : Int32) (a2 : Int64) (a4 : Int32) (w : xW), xJ ιL mX10_eightFrom lC (0, 0) 6 [(0, .ref 5), (1, .int a1), (2, .long a2), (4, .int a4)] [] w (sX10_eightFrom_l6 n a1 a2 a4 w) := by
  intro n
  induction n with
  | zero => intros; exact xj_none
  | succ n ih =>
    intro a1 a2 a4 w
    rw [sX10_eightFrom_l6]
    refine xj_iload 3 dX10_eightFrom_6 rfl ?_
    refine xj_iflt (tgt := 79) dX10_eightFrom_8 rfl ?_ ?_
    · refine xj_lloadn 2 dX10_eightFrom_79 rfl rfl ?_
      exact xj_rl dX10_eightFrom_80 rfl
    · refine xj_iloadn 1 dX10_eightFrom_11 rfl rfl ?_
      refine xj_i2l dX10_eightFrom_12 ?_
      refine xj_iload 3 dX10_eightFrom_13 rfl ?_
      refine xj_i2l dX10_eightFrom_15 ?_
      refine xj_ladd dX10_eightFrom_16 ?_
      refine xj_lstore (lv2 := [(5, .long (a1.toInt64 + a4.toInt64)), (0, .ref 5), (1, .int a1), (2, .long a2), (4, .int a4)]) dX10_eightFrom_17 (Nat.le_of_ble_eq_true rfl) rfl ?_
      refine xj_lload 0 dX10_eightFrom_19 rfl ?_
      refine xj_lconst (v := 0) dX10_eightFrom_21 cl_0 ?_
      refine xj_llt (tgt := 44) dX10_eightFrom_22 dX10_eightFrom_23 rfl ?_ ?_
      · refine xj_sub (lv2 := [(0, .ref 5), (1, .int a1), (2, .long a2), (4, .int a4), (5, .long (a1.toInt64 + a4.toInt64))]) [1, 2, 3, 4, 0] rfl ?_
        exact tX10_eightFrom_j44 (sX10_eightFrom_l6 n) ih _ _ _ _ _
      · refine xj_lload 0 dX10_eightFrom_26 rfl ?_
        refine xj_aloadn 1 dX10_eightFrom_28 rfl rfl ?_
        refine gfX10_12 dX10_eightFrom_29 rfl ?_
        refine xj_sbL dX10_eightFrom_32 tw1410 rfl rfl rfl ?_
        refine xj_i2l dX10_eightFrom_35 ?_
        refine xj_lge (tgt := 44) dX10_eightFrom_36 dX10_eightFrom_37 rfl ?_ ?_
        · refine xj_iconst (v := 1) dX10_eightFrom_40 ci_1 ?_
          refine xj_goto (tgt := 45) dX10_eightFrom_41 rfl ?_
          refine xj_sub (lv2 := [(0, .ref 5), (1, .int a1), (2, .long a2), (4, .int a4), (5, .long (a1.toInt64 + a4.toInt64))]) [1, 2, 3, 4, 0] rfl ?_
          exact tX10_eightFrom_j45 (sX10_eightFrom_l6 n) ih _ _ _ _ _ _
        · refine xj_sub (lv2 := [(0, .ref 5), (1, .int a1), (2, .long a2), (4, .int a4), (5, .long (a1.toInt64 + a4.toInt64))]) [1, 2, 3, 4, 0] rfl ?_
          exact tX10_eightFrom_j44 (sX10_eightFrom_l6 n) ih _ _ _ _ _
set_option maxRecDepth 20000 in
def sX10_eightFrom (p1 : Int32) (w : xW) : Option (Int64 × xW) :=
  sX10_eightFrom_l6 70000 p1 (0 : Int64) (7 : Int32) w
set_option maxRecDepth 20000 in
theorem tX10_eightFrom (p1 : Int32) (w : xW) : xJ ιL mX10_eightFrom lC (0, 0) 0 [(0, .ref 5), (1, .int p1)] [] w (sX10_eightFrom p1 w) := by
  unfold sX10_eightFrom
  refine xj_lconst (v := 0) dX10_eightFrom_0 cl_0 ?_
  refine xj_lstoren (lv2 := [(2, .long (0 : Int64)), (0, .ref 5), (1, .int p1)]) dX10_eightFrom_1 rfl (Nat.le_of_ble_eq_true rfl) rfl ?_
  refine xj_bipush (v := 7) dX10_eightFrom_2 cb_7 ?_
  refine xj_istore (lv2 := [(4, .int (7 : Int32)), (2, .long (0 : Int64)), (0, .ref 5), (1, .int p1)]) dX10_eightFrom_4 (Nat.le_of_ble_eq_true rfl) rfl ?_
  refine xj_sub (lv2 := [(0, .ref 5), (1, .int p1), (2, .long (0 : Int64)), (4, .int (7 : Int32))]) [2, 3, 1, 0] rfl ?_
  exact tX10_eightFrom_l6 _ _ _ _ _
theorem kX10_eightFrom (p1 : Int32) (w : xW) : xMet jL mX10_eightFrom lC (0, 0) [.ref 5, .int p1] w (sX10_eightFrom p1 w) := xj_met lC_ok (by decide) (Nat.le_of_ble_eq_true rfl) (Nat.zero_le _) (Nat.zero_le _) (tX10_eightFrom p1 w)
set_option maxRecDepth 20000 in
def sX11_tell (p1 : Int32) (w : xW) : Option (Int32 × xW) :=
  xbd (sX1_decode p1 w) (fun x1 w2 => (if x1 = 0 then some ((-1 : Int32), w2) else xbd (sX10_compose w2) (fun x3 w4 => some (x3, w4))))
set_option maxRecDepth 20000 in
theorem tX11_tell (p1 : Int32) (w : xW) : xJ ιI mX11_tell lC (25, 7878) 0 [(0, .ref 0), (1, .int p1)] [] w (sX11_tell p1 w) := by
  unfold sX11_tell
  refine xj_aloadn 0 dX11_tell_0 rfl rfl ?_
  refine gfX11_28 dX11_tell_1 rfl ?_
  refine xj_iloadn 1 dX11_tell_4 rfl rfl ?_
  refine xj_cVi (argv := [.int p1]) (rest := []) dX11_tell_5 (kX1_decode p1 w) mkX1_decode tw955 rfl rfl rfl rfl rfl rfl (fun x1 w2 => ?_)
  refine xj_ifne (tgt := 13) dX11_tell_8 rfl ?_ ?_
  · refine xj_wid (b2 := (0, 0)) rfl rfl ?_
    refine xj_iconst (v := -1) dX11_tell_11 ci_m1 ?_
    exact xj_ri dX11_tell_12 rfl
  · refine xj_aloadn 0 dX11_tell_13 rfl rfl ?_
    refine gfX11_46 dX11_tell_14 rfl ?_
    refine xj_bVi (b2 := (25, 7878)) (b3 := (0, 0)) (argv := []) (rest := []) rfl dX11_tell_17 (kX10_compose w2) mkX10_compose tw960 rfl rfl rfl rfl rfl rfl (fun x3 w4 => ?_)
    exact xj_ri dX11_tell_20 rfl
theorem kX11_tell (p1 : Int32) (w : xW) : xMet jI mX11_tell lC (25, 7878) [.ref 0, .int p1] w (sX11_tell p1 w) := xj_met lC_ok (by decide) (Nat.le_of_ble_eq_true rfl) (Nat.le_refl _) (Nat.le_refl _) (tX11_tell p1 w)
set_option maxRecDepth 20000 in
def sX11_text (p1 : Int32) (w : xW) : Option (Int64 × xW) :=
  xbd (sX10_eightFrom p1 w) (fun x1 w2 => some (x1, w2))
set_option maxRecDepth 20000 in
theorem tX11_text (p1 : Int32) (w : xW) : xJ ιL mX11_text lC (0, 0) 0 [(0, .ref 0), (1, .int p1)] [] w (sX11_text p1 w) := by
  unfold sX11_text
  refine xj_aloadn 0 dX11_text_0 rfl rfl ?_
  refine gfX11_46 dX11_text_1 rfl ?_
  refine xj_iloadn 1 dX11_text_4 rfl rfl ?_
  refine xj_cVl (argv := [.int p1]) (rest := []) dX11_text_5 (kX10_eightFrom p1 w) mkX10_eightFrom tw1415 rfl rfl rfl rfl rfl rfl (fun x1 w2 => ?_)
  exact xj_rl dX11_text_8 rfl
theorem kX11_text (p1 : Int32) (w : xW) : xMet jL mX11_text lC (0, 0) [.ref 0, .int p1] w (sX11_text p1 w) := xj_met lC_ok (by decide) (Nat.le_of_ble_eq_true rfl) (Nat.zero_le _) (Nat.zero_le _) (tX11_text p1 w)
