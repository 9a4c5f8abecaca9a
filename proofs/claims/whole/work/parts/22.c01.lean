/-! the class, method by method: 1 -/
set_option maxRecDepth 20000 in
def sX6_clear (w : xW) : Option (Unit × xW) :=
  some ((), (xwi (xwi (xwi (xwi (xwi (xwi (xwi (xwi (xwi (xwi (xwi (xwi (xwi (xwi (xwi w 2 0 (50 : Int32)) 2 1 (0 : Int32)) 2 2 (0 : Int32)) 2 3 (0 : Int32)) 2 4 (4 : Int32)) 2 5 (4 : Int32)) 2 7 (0 : Int32)) 2 8 (0 : Int32)) 2 13 (0 : Int32)) 2 14 (0 : Int32)) 2 6 (0 : Int32)) 2 9 (-1 : Int32)) 2 10 (-1 : Int32)) 2 11 (0 : Int32)) 2 12 (0 : Int32)))
set_option maxRecDepth 20000 in
theorem tX6_clear (w : xW) : xJ ιV mX6_clear lC (0, 0) 0 [(0, .ref 2)] [] w (sX6_clear w) := by
  unfold sX6_clear
  refine xj_aloadn 0 dX6_clear_0 rfl rfl ?_
  refine xj_gse (n := 50) 50 dX6_clear_1 (Nat.le_of_ble_eq_true rfl) rfl tw221 ?_
  refine pfX6_15 dX6_clear_4 rfl ?_
  refine xj_aloadn 0 dX6_clear_7 rfl rfl ?_
  refine xj_iconst (v := 0) dX6_clear_8 ci_0 ?_
  refine pfX6_20 dX6_clear_9 rfl ?_
  refine xj_aloadn 0 dX6_clear_12 rfl rfl ?_
  refine xj_iconst (v := 0) dX6_clear_13 ci_0 ?_
  refine pfX6_24 dX6_clear_14 rfl ?_
  refine xj_aloadn 0 dX6_clear_17 rfl rfl ?_
  refine xj_iconst (v := 0) dX6_clear_18 ci_0 ?_
  refine pfX6_27 dX6_clear_19 rfl ?_
  refine xj_aloadn 0 dX6_clear_22 rfl rfl ?_
  refine xj_iconst (v := 4) dX6_clear_23 ci_4 ?_
  refine pfX6_30 dX6_clear_24 rfl ?_
  refine xj_aloadn 0 dX6_clear_27 rfl rfl ?_
  refine xj_iconst (v := 4) dX6_clear_28 ci_4 ?_
  refine pfX6_33 dX6_clear_29 rfl ?_
  refine xj_aloadn 0 dX6_clear_32 rfl rfl ?_
  refine xj_iconst (v := 0) dX6_clear_33 ci_0 ?_
  refine pfX6_36 dX6_clear_34 rfl ?_
  refine xj_aloadn 0 dX6_clear_37 rfl rfl ?_
  refine xj_iconst (v := 0) dX6_clear_38 ci_0 ?_
  refine pfX6_39 dX6_clear_39 rfl ?_
  refine xj_aloadn 0 dX6_clear_42 rfl rfl ?_
  refine xj_iconst (v := 0) dX6_clear_43 ci_0 ?_
  refine pfX6_42 dX6_clear_44 rfl ?_
  refine xj_aloadn 0 dX6_clear_47 rfl rfl ?_
  refine xj_iconst (v := 0) dX6_clear_48 ci_0 ?_
  refine pfX6_45 dX6_clear_49 rfl ?_
  refine xj_aloadn 0 dX6_clear_52 rfl rfl ?_
  refine xj_iconst (v := 0) dX6_clear_53 ci_0 ?_
  refine pfX6_48 dX6_clear_54 rfl (Or.inl rfl) ?_
  refine xj_aloadn 0 dX6_clear_57 rfl rfl ?_
  refine xj_iconst (v := -1) dX6_clear_58 ci_m1 ?_
  refine pfX6_52 dX6_clear_59 rfl ?_
  refine xj_aloadn 0 dX6_clear_62 rfl rfl ?_
  refine xj_iconst (v := -1) dX6_clear_63 ci_m1 ?_
  refine pfX6_55 dX6_clear_64 rfl ?_
  refine xj_aloadn 0 dX6_clear_67 rfl rfl ?_
  refine xj_iconst (v := 0) dX6_clear_68 ci_0 ?_
  refine pfX6_58 dX6_clear_69 rfl ?_
  refine xj_aloadn 0 dX6_clear_72 rfl rfl ?_
  refine xj_iconst (v := 0) dX6_clear_73 ci_0 ?_
  refine pfX6_61 dX6_clear_74 rfl ?_
  exact xj_rv dX6_clear_77 rfl
theorem kX6_clear (w : xW) : xMet jV mX6_clear lC (0, 0) [.ref 2] w (sX6_clear w) := xj_met lC_ok (by decide) (Nat.le_of_ble_eq_true rfl) (Nat.zero_le _) (Nat.zero_le _) (tX6_clear w)
set_option maxRecDepth 20000 in
def sX4_has (p1 : Int32) (w : xW) : Option (Int32 × xW) :=
  (if p1 < 0 then some ((0 : Int32), w) else (if p1 < (w.1 1 1) then (if p1 < (2048 : Int32) then some ((1 : Int32), w) else some ((0 : Int32), w)) else some ((0 : Int32), w)))
set_option maxRecDepth 20000 in
theorem tX4_has (p1 : Int32) (w : xW) : xJ ιI mX4_has lC (0, 0) 0 [(0, .ref 1), (1, .int p1)] [] w (sX4_has p1 w) := by
  unfold sX4_has
  refine xj_iloadn 1 dX4_has_0 rfl rfl ?_
  refine xj_iflt (tgt := 23) dX4_has_1 rfl ?_ ?_
  · refine xj_iconst (v := 0) dX4_has_23 ci_0 ?_
    exact xj_rz dX4_has_24 rfl (Or.inl rfl)
  · refine xj_iloadn 1 dX4_has_4 rfl rfl ?_
    refine xj_aloadn 0 dX4_has_5 rfl rfl ?_
    refine gfX4_13 (v := (w.1 1 1)) dX4_has_6 rfl rfl ?_
    refine xj_ige (tgt := 23) dX4_has_9 rfl ?_ ?_
    · refine xj_iloadn 1 dX4_has_12 rfl rfl ?_
      refine xj_sipush (v := 2048) dX4_has_13 cs_2048 ?_
      refine xj_ige (tgt := 23) dX4_has_16 rfl ?_ ?_
      · refine xj_iconst (v := 1) dX4_has_19 ci_1 ?_
        refine xj_goto (tgt := 24) dX4_has_20 rfl ?_
        exact xj_rz dX4_has_24 rfl (Or.inr rfl)
      · refine xj_iconst (v := 0) dX4_has_23 ci_0 ?_
        exact xj_rz dX4_has_24 rfl (Or.inl rfl)
    · refine xj_iconst (v := 0) dX4_has_23 ci_0 ?_
      exact xj_rz dX4_has_24 rfl (Or.inl rfl)
theorem kX4_has (p1 : Int32) (w : xW) : xMet jI mX4_has lC (0, 0) [.ref 1, .int p1] w (sX4_has p1 w) := xj_met lC_ok (by decide) (Nat.le_of_ble_eq_true rfl) (Nat.zero_le _) (Nat.zero_le _) (tX4_has p1 w)
set_option maxRecDepth 20000 in
def sX1_nextByte_j31 (w : xW) : Option (Int32 × xW) :=
  some ((0 : Int32), (xwi w 3 3 (1 : Int32)))
set_option maxRecDepth 20000 in
theorem tX1_nextByte_j31 (w : xW) : xJ ιI mX1_nextByte lC (0, 0) 31 [(0, .ref 3)] [] w (sX1_nextByte_j31 w) := by
  unfold sX1_nextByte_j31
  refine xj_aloadn 0 dX1_nextByte_31 rfl rfl ?_
  refine xj_iconst (v := 1) dX1_nextByte_32 ci_1 ?_
  refine pfX1_34 dX1_nextByte_33 rfl (Or.inr rfl) ?_
  refine xj_iconst (v := 0) dX1_nextByte_36 ci_0 ?_
  exact xj_ri dX1_nextByte_37 rfl
set_option maxRecDepth 20000 in
def sX1_nextByte (w : xW) : Option (Int32 × xW) :=
  (if (w.1 3 2) < 0 then sX1_nextByte_j31 w else (if (w.1 3 2) < (w.1 1 1) then (if (w.1 3 2) < (2048 : Int32) then (if xin (w.1 3 2) 2048 then xlet ((w.1 10 ((w.1 3 2).toNatClampNeg)) &&& (255 : Int32)) (fun x1 => some (x1, (xwi w 3 2 ((w.1 3 2) + (1 : Int32))))) else none) else sX1_nextByte_j31 w) else sX1_nextByte_j31 w))
set_option maxRecDepth 20000 in
theorem tX1_nextByte (w : xW) : xJ ιI mX1_nextByte lC (0, 0) 0 [(0, .ref 3)] [] w (sX1_nextByte w) := by
  unfold sX1_nextByte
  refine xj_aloadn 0 dX1_nextByte_0 rfl rfl ?_
  refine gfX1_30 (v := (w.1 3 2)) dX1_nextByte_1 rfl rfl ?_
  refine xj_iflt (tgt := 31) dX1_nextByte_4 rfl ?_ ?_
  · exact tX1_nextByte_j31 _
  · refine xj_aloadn 0 dX1_nextByte_7 rfl rfl ?_
    refine gfX1_30 (v := (w.1 3 2)) dX1_nextByte_8 rfl rfl ?_
    refine xj_aloadn 0 dX1_nextByte_11 rfl rfl ?_
    refine gfX1_9 dX1_nextByte_12 rfl ?_
    refine gfX1_90 (v := (w.1 1 1)) dX1_nextByte_15 rfl rfl ?_
    refine xj_ige (tgt := 31) dX1_nextByte_18 rfl ?_ ?_
    · refine xj_aloadn 0 dX1_nextByte_21 rfl rfl ?_
      refine gfX1_30 (v := (w.1 3 2)) dX1_nextByte_22 rfl rfl ?_
      refine xj_sipush (v := 2048) dX1_nextByte_25 cs_2048 ?_
      refine xj_ilt (tgt := 38) dX1_nextByte_28 rfl ?_ ?_
      · refine xj_aloadn 0 dX1_nextByte_38 rfl rfl ?_
        refine gfX1_9 dX1_nextByte_39 rfl ?_
        refine gfX1_93 dX1_nextByte_42 rfl ?_
        refine xj_aloadn 0 dX1_nextByte_45 rfl rfl ?_
        refine gfX1_30 (v := (w.1 3 2)) dX1_nextByte_46 rfl rfl ?_
        refine xj_bald (k := 10) dX1_nextByte_49 rfl ?_
        refine xj_sipush (v := 255) dX1_nextByte_50 cs_255 ?_
        refine xj_iand dX1_nextByte_53 ?_
        refine xj_leti (fun x1 => ?_)
        refine xj_istoren (lv2 := [(1, .int x1), (0, .ref 3)]) dX1_nextByte_54 rfl (Nat.le_of_ble_eq_true rfl) rfl ?_
        refine xj_aloadn 1 dX1_nextByte_55 rfl rfl ?_
        refine xj_dup dX1_nextByte_56 rfl ?_
        refine gfX1_30 (v := (w.1 3 2)) dX1_nextByte_57 rfl rfl ?_
        refine xj_iconst (v := 1) dX1_nextByte_60 ci_1 ?_
        refine xj_iadd dX1_nextByte_61 ?_
        refine pfX1_30 dX1_nextByte_62 rfl ?_
        refine xj_iloadn 0 dX1_nextByte_65 rfl rfl ?_
        exact xj_ri dX1_nextByte_66 rfl
      · exact tX1_nextByte_j31 _
    · exact tX1_nextByte_j31 _
theorem kX1_nextByte (w : xW) : xMet jI mX1_nextByte lC (0, 0) [.ref 3] w (sX1_nextByte w) := xj_met lC_ok (by decide) (Nat.le_of_ble_eq_true rfl) (Nat.zero_le _) (Nat.zero_le _) (tX1_nextByte w)
set_option maxRecDepth 20000 in
def sX1_withE (p1 : Int32) (p2 : Int32) (p3 : Int32) (w : xW) : Option (Unit × xW) :=
  some ((), (xwi (xwi (xwi (xwi (xwi w 2 0 p1) 2 1 p2) 2 4 p3) 2 5 p3) 3 5 (1 : Int32)))
set_option maxRecDepth 20000 in
theorem tX1_withE (p1 : Int32) (p2 : Int32) (p3 : Int32) (w : xW) : xJ ιV mX1_withE lC (0, 0) 0 [(0, .ref 3), (1, .ref (2000 + p1.toNatClampNeg)), (2, .int p2), (3, .int p3)] [] w (sX1_withE p1 p2 p3 w) := by
  unfold sX1_withE
  refine xj_aloadn 0 dX1_withE_0 rfl rfl ?_
  refine gfX1_15 dX1_withE_1 rfl ?_
  refine xj_aloadn 1 dX1_withE_4 rfl rfl ?_
  refine pfX1_122 dX1_withE_5 rfl ?_
  refine xj_aloadn 0 dX1_withE_8 rfl rfl ?_
  refine gfX1_15 dX1_withE_9 rfl ?_
  refine xj_iloadn 2 dX1_withE_12 rfl rfl ?_
  refine pfX1_87 dX1_withE_13 rfl ?_
  refine xj_aloadn 0 dX1_withE_16 rfl rfl ?_
  refine gfX1_15 dX1_withE_17 rfl ?_
  refine xj_iloadn 3 dX1_withE_20 rfl rfl ?_
  refine pfX1_137 dX1_withE_21 rfl ?_
  refine xj_aloadn 0 dX1_withE_24 rfl rfl ?_
  refine gfX1_15 dX1_withE_25 rfl ?_
  refine xj_iloadn 3 dX1_withE_28 rfl rfl ?_
  refine pfX1_140 dX1_withE_29 rfl ?_
  refine xj_aloadn 0 dX1_withE_32 rfl rfl ?_
  refine xj_iconst (v := 1) dX1_withE_33 ci_1 ?_
  refine pfX1_41 dX1_withE_34 rfl (Or.inr rfl) ?_
  exact xj_rv dX1_withE_37 rfl
theorem kX1_withE (p1 : Int32) (p2 : Int32) (p3 : Int32) (w : xW) : xMet jV mX1_withE lC (0, 0) [.ref 3, .ref (2000 + p1.toNatClampNeg), .int p2, .int p3] w (sX1_withE p1 p2 p3 w) := xj_met lC_ok (by decide) (Nat.le_of_ble_eq_true rfl) (Nat.zero_le _) (Nat.zero_le _) (tX1_withE p1 p2 p3 w)
set_option maxRecDepth 20000 in
def sX1_plain (p1 : Int32) (p2 : Int32) (p3 : Int32) (p4 : Int32) (w : xW) : Option (Unit × xW) :=
  some ((), (xwi (xwi (xwi (xwi (xwi w 2 0 p1) 2 1 p2) 2 4 p3) 2 5 p3) 3 7 p4))
set_option maxRecDepth 20000 in
theorem tX1_plain (p1 : Int32) (p2 : Int32) (p3 : Int32) (p4 : Int32) (w : xW) : xJ ιV mX1_plain lC (0, 0) 0 [(0, .ref 3), (1, .ref (2000 + p1.toNatClampNeg)), (2, .int p2), (3, .int p3), (4, .int p4)] [] w (sX1_plain p1 p2 p3 p4 w) := by
  unfold sX1_plain
  refine xj_aloadn 0 dX1_plain_0 rfl rfl ?_
  refine gfX1_15 dX1_plain_1 rfl ?_
  refine xj_aloadn 1 dX1_plain_4 rfl rfl ?_
  refine pfX1_122 dX1_plain_5 rfl ?_
  refine xj_aloadn 0 dX1_plain_8 rfl rfl ?_
  refine gfX1_15 dX1_plain_9 rfl ?_
  refine xj_iloadn 2 dX1_plain_12 rfl rfl ?_
  refine pfX1_87 dX1_plain_13 rfl ?_
  refine xj_aloadn 0 dX1_plain_16 rfl rfl ?_
  refine gfX1_15 dX1_plain_17 rfl ?_
  refine xj_iloadn 3 dX1_plain_20 rfl rfl ?_
  refine pfX1_137 dX1_plain_21 rfl ?_
  refine xj_aloadn 0 dX1_plain_24 rfl rfl ?_
  refine gfX1_15 dX1_plain_25 rfl ?_
  refine xj_iloadn 3 dX1_plain_28 rfl rfl ?_
  refine pfX1_140 dX1_plain_29 rfl ?_
  refine xj_aloadn 0 dX1_plain_32 rfl rfl ?_
  refine xj_iload 4 dX1_plain_33 rfl ?_
  refine pfX1_47 dX1_plain_35 rfl ?_
  exact xj_rv dX1_plain_38 rfl
theorem kX1_plain (p1 : Int32) (p2 : Int32) (p3 : Int32) (p4 : Int32) (w : xW) : xMet jV mX1_plain lC (0, 0) [.ref 3, .ref (2000 + p1.toNatClampNeg), .int p2, .int p3, .int p4] w (sX1_plain p1 p2 p3 p4 w) := xj_met lC_ok (by decide) (Nat.le_of_ble_eq_true rfl) (Nat.zero_le _) (Nat.zero_le _) (tX1_plain p1 p2 p3 p4 w)
set_option maxRecDepth 20000 in
def sX1_chooseLongMore_j145 (b0 : Int32) (w : xW) : Option (Unit × xW) :=
  xbd (sX1_withE b0 (8 : Int32) (4 : Int32) w) (fun _ w1 => some ((), (xwi w1 3 7 (1 : Int32))))
set_option maxRecDepth 20000 in
theorem tX1_chooseLongMore_j145 (b0 : Int32) (w : xW) : xJ ιV mX1_chooseLongMore lC (0, 0) 145 [(0, .ref 3)] [.ref (2000 + b0.toNatClampNeg), .ref 3] w (sX1_chooseLongMore_j145 b0 w) := by
  unfold sX1_chooseLongMore_j145
  refine xj_bipush (v := 8) dX1_chooseLongMore_145 cb_8 ?_
  refine xj_iconst (v := 4) dX1_chooseLongMore_147 ci_4 ?_
  refine xj_cVv (argv := [.ref (2000 + b0.toNatClampNeg), .int (8 : Int32), .int (4 : Int32)]) (rest := []) dX1_chooseLongMore_148 (kX1_withE b0 (8 : Int32) (4 : Int32) w) mkX1_withE tw644 rfl rfl rfl rfl rfl rfl (fun _ w1 => ?_)
  refine xj_aloadn 0 dX1_chooseLongMore_151 rfl rfl ?_
  refine xj_iconst (v := 1) dX1_chooseLongMore_152 ci_1 ?_
  refine pfX1_47 dX1_chooseLongMore_153 rfl ?_
  refine xj_goto (tgt := 275) dX1_chooseLongMore_156 rfl ?_
  exact xj_rv dX1_chooseLongMore_275 rfl
set_option maxRecDepth 20000 in
def sX1_chooseLongMore_j128 (a1 : Int32) (w : xW) : Option (Unit × xW) :=
  (if a1 = (164 : Int32) then sX1_chooseLongMore_j145 (21 : Int32) w else sX1_chooseLongMore_j145 (22 : Int32) w)
set_option maxRecDepth 20000 in
theorem tX1_chooseLongMore_j128 (a1 : Int32) (w : xW) : xJ ιV mX1_chooseLongMore lC (0, 0) 128 [(0, .ref 3), (1, .int a1)] [] w (sX1_chooseLongMore_j128 a1 w) := by
  unfold sX1_chooseLongMore_j128
  refine xj_aloadn 0 dX1_chooseLongMore_128 rfl rfl ?_
  refine xj_iloadn 1 dX1_chooseLongMore_129 rfl rfl ?_
  refine xj_sipush (v := 164) dX1_chooseLongMore_130 cs_164 ?_
  refine xj_ine (tgt := 142) dX1_chooseLongMore_133 rfl ?_ ?_
  · refine xj_gse (n := 21) 21 dX1_chooseLongMore_136 (Nat.le_of_ble_eq_true rfl) rfl tw662 ?_
    refine xj_goto (tgt := 145) dX1_chooseLongMore_139 rfl ?_
    refine xj_sub (lv2 := [(0, .ref 3)]) [0] rfl ?_
    exact tX1_chooseLongMore_j145 _ _
  · refine xj_gse (n := 22) 22 dX1_chooseLongMore_142 (Nat.le_of_ble_eq_true rfl) rfl tw664 ?_
    refine xj_sub (lv2 := [(0, .ref 3)]) [0] rfl ?_
    exact tX1_chooseLongMore_j145 _ _
set_option maxRecDepth 20000 in
def sX1_chooseLongMore_j183 (a1 : Int32) (w : xW) : Option (Unit × xW) :=
  xbd (sX1_withE (29 : Int32) (2 : Int32) (4 : Int32) w) (fun _ w1 => (if a1 = (182 : Int32) then some ((), (xwi w1 2 5 (1 : Int32))) else some ((), (xwi w1 2 5 (2 : Int32)))))
set_option maxRecDepth 20000 in
theorem tX1_chooseLongMore_j183 (a1 : Int32) (w : xW) : xJ ιV mX1_chooseLongMore lC (0, 0) 183 [(0, .ref 3), (1, .int a1)] [] w (sX1_chooseLongMore_j183 a1 w) := by
  unfold sX1_chooseLongMore_j183
  refine xj_aloadn 0 dX1_chooseLongMore_183 rfl rfl ?_
  refine xj_gse (n := 29) 29 dX1_chooseLongMore_184 (Nat.le_of_ble_eq_true rfl) rfl tw670 ?_
  refine xj_iconst (v := 2) dX1_chooseLongMore_187 ci_2 ?_
  refine xj_iconst (v := 4) dX1_chooseLongMore_188 ci_4 ?_
  refine xj_cVv (argv := [.ref (2000 + (29 : Int32).toNatClampNeg), .int (2 : Int32), .int (4 : Int32)]) (rest := []) dX1_chooseLongMore_189 (kX1_withE (29 : Int32) (2 : Int32) (4 : Int32) w) mkX1_withE tw644 rfl rfl rfl rfl rfl rfl (fun _ w1 => ?_)
  refine xj_aloadn 0 dX1_chooseLongMore_192 rfl rfl ?_
  refine gfX1_15 dX1_chooseLongMore_193 rfl ?_
  refine xj_iloadn 1 dX1_chooseLongMore_196 rfl rfl ?_
  refine xj_sipush (v := 182) dX1_chooseLongMore_197 cs_182 ?_
  refine xj_ine (tgt := 207) dX1_chooseLongMore_200 rfl ?_ ?_
  · refine xj_iconst (v := 1) dX1_chooseLongMore_203 ci_1 ?_
    refine xj_goto (tgt := 208) dX1_chooseLongMore_204 rfl ?_
    refine pfX1_140 dX1_chooseLongMore_208 rfl ?_
    refine xj_goto (tgt := 275) dX1_chooseLongMore_211 rfl ?_
    exact xj_rv dX1_chooseLongMore_275 rfl
  · refine xj_iconst (v := 2) dX1_chooseLongMore_207 ci_2 ?_
    refine pfX1_140 dX1_chooseLongMore_208 rfl ?_
    refine xj_goto (tgt := 275) dX1_chooseLongMore_211 rfl ?_
    exact xj_rv dX1_chooseLongMore_275 rfl
set_option maxRecDepth 20000 in
def sX1_chooseLongMore_j231 (b0 : Int32) (w : xW) : Option (Unit × xW) :=
  xbd (sX1_withE b0 (2 : Int32) (4 : Int32) w) (fun _ w1 => some ((), w1))
set_option maxRecDepth 20000 in
theorem tX1_chooseLongMore_j231 (b0 : Int32) (w : xW) : xJ ιV mX1_chooseLongMore lC (0, 0) 231 [] [.ref (2000 + b0.toNatClampNeg), .ref 3] w (sX1_chooseLongMore_j231 b0 w) := by
  unfold sX1_chooseLongMore_j231
  refine xj_iconst (v := 2) dX1_chooseLongMore_231 ci_2 ?_
  refine xj_iconst (v := 4) dX1_chooseLongMore_232 ci_4 ?_
  refine xj_cVv (argv := [.ref (2000 + b0.toNatClampNeg), .int (2 : Int32), .int (4 : Int32)]) (rest := []) dX1_chooseLongMore_233 (kX1_withE b0 (2 : Int32) (4 : Int32) w) mkX1_withE tw644 rfl rfl rfl rfl rfl rfl (fun _ w1 => ?_)
  refine xj_goto (tgt := 275) dX1_chooseLongMore_236 rfl ?_
  exact xj_rv dX1_chooseLongMore_275 rfl
set_option maxRecDepth 20000 in
def sX1_chooseLongMore_j214 (a1 : Int32) (w : xW) : Option (Unit × xW) :=
  (if a1 = (188 : Int32) then sX1_chooseLongMore_j231 (34 : Int32) w else sX1_chooseLongMore_j231 (35 : Int32) w)
set_option maxRecDepth 20000 in
theorem tX1_chooseLongMore_j214 (a1 : Int32) (w : xW) : xJ ιV mX1_chooseLongMore lC (0, 0) 214 [(0, .ref 3), (1, .int a1)] [] w (sX1_chooseLongMore_j214 a1 w) := by
  unfold sX1_chooseLongMore_j214
  refine xj_aloadn 0 dX1_chooseLongMore_214 rfl rfl ?_
  refine xj_iloadn 1 dX1_chooseLongMore_215 rfl rfl ?_
  refine xj_sipush (v := 188) dX1_chooseLongMore_216 cs_188 ?_
  refine xj_ine (tgt := 228) dX1_chooseLongMore_219 rfl ?_ ?_
  · refine xj_gse (n := 34) 34 dX1_chooseLongMore_222 (Nat.le_of_ble_eq_true rfl) rfl tw672 ?_
    refine xj_goto (tgt := 231) dX1_chooseLongMore_225 rfl ?_
    refine xj_sub (lv2 := []) [] rfl ?_
    exact tX1_chooseLongMore_j231 _ _
  · refine xj_gse (n := 35) 35 dX1_chooseLongMore_228 (Nat.le_of_ble_eq_true rfl) rfl tw674 ?_
    refine xj_sub (lv2 := []) [] rfl ?_
    exact tX1_chooseLongMore_j231 _ _
set_option maxRecDepth 20000 in
def sX1_chooseLongMore_j239 (a1 : Int32) (w : xW) : Option (Unit × xW) :=
  xbd (sX1_withE (30 : Int32) (2 : Int32) (4 : Int32) w) (fun _ w1 => (if a1 = (190 : Int32) then some ((), (xwi w1 2 5 (1 : Int32))) else some ((), (xwi w1 2 5 (2 : Int32)))))
set_option maxRecDepth 20000 in
theorem tX1_chooseLongMore_j239 (a1 : Int32) (w : xW) : xJ ιV mX1_chooseLongMore lC (0, 0) 239 [(0, .ref 3), (1, .int a1)] [] w (sX1_chooseLongMore_j239 a1 w) := by
  unfold sX1_chooseLongMore_j239
  refine xj_aloadn 0 dX1_chooseLongMore_239 rfl rfl ?_
  refine xj_gse (n := 30) 30 dX1_chooseLongMore_240 (Nat.le_of_ble_eq_true rfl) rfl tw676 ?_
  refine xj_iconst (v := 2) dX1_chooseLongMore_243 ci_2 ?_
  refine xj_iconst (v := 4) dX1_chooseLongMore_244 ci_4 ?_
  refine xj_cVv (argv := [.ref (2000 + (30 : Int32).toNatClampNeg), .int (2 : Int32), .int (4 : Int32)]) (rest := []) dX1_chooseLongMore_245 (kX1_withE (30 : Int32) (2 : Int32) (4 : Int32) w) mkX1_withE tw644 rfl rfl rfl rfl rfl rfl (fun _ w1 => ?_)
  refine xj_aloadn 0 dX1_chooseLongMore_248 rfl rfl ?_
  refine gfX1_15 dX1_chooseLongMore_249 rfl ?_
  refine xj_iloadn 1 dX1_chooseLongMore_252 rfl rfl ?_
  refine xj_sipush (v := 190) dX1_chooseLongMore_253 cs_190 ?_
  refine xj_ine (tgt := 263) dX1_chooseLongMore_256 rfl ?_ ?_
  · refine xj_iconst (v := 1) dX1_chooseLongMore_259 ci_1 ?_
    refine xj_goto (tgt := 264) dX1_chooseLongMore_260 rfl ?_
    refine pfX1_140 dX1_chooseLongMore_264 rfl ?_
    refine xj_goto (tgt := 275) dX1_chooseLongMore_267 rfl ?_
    exact xj_rv dX1_chooseLongMore_275 rfl
  · refine xj_iconst (v := 2) dX1_chooseLongMore_263 ci_2 ?_
    refine pfX1_140 dX1_chooseLongMore_264 rfl ?_
    refine xj_goto (tgt := 275) dX1_chooseLongMore_267 rfl ?_
    exact xj_rv dX1_chooseLongMore_275 rfl
set_option maxRecDepth 20000 in
def sX1_chooseLongMore (p1 : Int32) (w : xW) : Option (Unit × xW) :=
  xsw p1 (164) [sX1_chooseLongMore_j128 p1 w, some ((), (xwi w 3 4 (0 : Int32))), some ((), (xwi w 3 4 (0 : Int32))), some ((), (xwi w 3 4 (0 : Int32))), some ((), (xwi w 3 4 (0 : Int32))), some ((), (xwi w 3 4 (0 : Int32))), some ((), (xwi w 3 4 (0 : Int32))), some ((), (xwi w 3 4 (0 : Int32))), sX1_chooseLongMore_j128 p1 w, some ((), (xwi w 3 4 (0 : Int32))), some ((), (xwi w 3 4 (0 : Int32))), xbd (sX1_withE (25 : Int32) (2 : Int32) (4 : Int32) w) (fun _ w1 => some ((), w1)), some ((), (xwi w 3 4 (0 : Int32))), xbd (sX1_withE (41 : Int32) (1 : Int32) (4 : Int32) w) (fun _ w2 => some ((), w2)), some ((), (xwi w 3 4 (0 : Int32))), some ((), (xwi w 3 4 (0 : Int32))), some ((), (xwi w 3 4 (0 : Int32))), some ((), (xwi w 3 4 (0 : Int32))), sX1_chooseLongMore_j183 p1 w, sX1_chooseLongMore_j183 p1 w, some ((), (xwi w 3 4 (0 : Int32))), some ((), (xwi w 3 4 (0 : Int32))), some ((), (xwi w 3 4 (0 : Int32))), some ((), (xwi w 3 4 (0 : Int32))), sX1_chooseLongMore_j214 p1 w, sX1_chooseLongMore_j214 p1 w, sX1_chooseLongMore_j239 p1 w, sX1_chooseLongMore_j239 p1 w] (some ((), (xwi w 3 4 (0 : Int32))))
set_option maxRecDepth 20000 in
theorem tX1_chooseLongMore (p1 : Int32) (w : xW) : xJ ιV mX1_chooseLongMore lC (0, 0) 0 [(0, .ref 3), (1, .int p1)] [] w (sX1_chooseLongMore p1 w) := by
  unfold sX1_chooseLongMore
  refine xj_iloadn 1 dX1_chooseLongMore_0 rfl rfl ?_
  refine xj_tsw (tgtd := 270) [128, 270, 270, 270, 270, 270, 270, 270, 128, 270, 270, 159, 270, 171, 270, 270, 270, 270, 183, 183, 270, 270, 270, 270, 214, 214, 239, 239] dX1_chooseLongMore_1 rfl rfl rfl rfl ?_ ⟨?_, ?_, ?_, ?_, ?_, ?_, ?_, ?_, ?_, ?_, ?_, ?_, ?_, ?_, ?_, ?_, ?_, ?_, ?_, ?_, ?_, ?_, ?_, ?_, ?_, ?_, ?_, ?_, trivial⟩
  · refine xj_aloadn 0 dX1_chooseLongMore_270 rfl rfl ?_
    refine xj_iconst (v := 0) dX1_chooseLongMore_271 ci_0 ?_
    refine pfX1_38 dX1_chooseLongMore_272 rfl (Or.inl rfl) ?_
    exact xj_rv dX1_chooseLongMore_275 rfl
  · exact tX1_chooseLongMore_j128 _ _
  · refine xj_aloadn 0 dX1_chooseLongMore_270 rfl rfl ?_
    refine xj_iconst (v := 0) dX1_chooseLongMore_271 ci_0 ?_
    refine pfX1_38 dX1_chooseLongMore_272 rfl (Or.inl rfl) ?_
    exact xj_rv dX1_chooseLongMore_275 rfl
  · refine xj_aloadn 0 dX1_chooseLongMore_270 rfl rfl ?_
    refine xj_iconst (v := 0) dX1_chooseLongMore_271 ci_0 ?_
    refine pfX1_38 dX1_chooseLongMore_272 rfl (Or.inl rfl) ?_
    exact xj_rv dX1_chooseLongMore_275 rfl
  · refine xj_aloadn 0 dX1_chooseLongMore_270 rfl rfl ?_
    refine xj_iconst (v := 0) dX1_chooseLongMore_271 ci_0 ?_
    refine pfX1_38 dX1_chooseLongMore_272 rfl (Or.inl rfl) ?_
    exact xj_rv dX1_chooseLongMore_275 rfl
  · refine xj_aloadn 0 dX1_chooseLongMore_270 rfl rfl ?_
    refine xj_iconst (v := 0) dX1_chooseLongMore_271 ci_0 ?_
    refine pfX1_38 dX1_chooseLongMore_272 rfl (Or.inl rfl) ?_
    exact xj_rv dX1_chooseLongMore_275 rfl
  · refine xj_aloadn 0 dX1_chooseLongMore_270 rfl rfl ?_
    refine xj_iconst (v := 0) dX1_chooseLongMore_271 ci_0 ?_
    refine pfX1_38 dX1_chooseLongMore_272 rfl (Or.inl rfl) ?_
    exact xj_rv dX1_chooseLongMore_275 rfl
  · refine xj_aloadn 0 dX1_chooseLongMore_270 rfl rfl ?_
    refine xj_iconst (v := 0) dX1_chooseLongMore_271 ci_0 ?_
    refine pfX1_38 dX1_chooseLongMore_272 rfl (Or.inl rfl) ?_
    exact xj_rv dX1_chooseLongMore_275 rfl
  · refine xj_aloadn 0 dX1_chooseLongMore_270 rfl rfl ?_
    refine xj_iconst (v := 0) dX1_chooseLongMore_271 ci_0 ?_
    refine pfX1_38 dX1_chooseLongMore_272 rfl (Or.inl rfl) ?_
    exact xj_rv dX1_chooseLongMore_275 rfl
  · exact tX1_chooseLongMore_j128 _ _
  · refine xj_aloadn 0 dX1_chooseLongMore_270 rfl rfl ?_
    refine xj_iconst (v := 0) dX1_chooseLongMore_271 ci_0 ?_
    refine pfX1_38 dX1_chooseLongMore_272 rfl (Or.inl rfl) ?_
    exact xj_rv dX1_chooseLongMore_275 rfl
  · refine xj_aloadn 0 dX1_chooseLongMore_270 rfl rfl ?_
    refine xj_iconst (v := 0) dX1_chooseLongMore_271 ci_0 ?_
    refine pfX1_38 dX1_chooseLongMore_272 rfl (Or.inl rfl) ?_
    exact xj_rv dX1_chooseLongMore_275 rfl
  · refine xj_aloadn 0 dX1_chooseLongMore_159 rfl rfl ?_
    refine xj_gse (n := 25) 25 dX1_chooseLongMore_160 (Nat.le_of_ble_eq_true rfl) rfl tw666 ?_
    refine xj_iconst (v := 2) dX1_chooseLongMore_163 ci_2 ?_
    refine xj_iconst (v := 4) dX1_chooseLongMore_164 ci_4 ?_
    refine xj_cVv (argv := [.ref (2000 + (25 : Int32).toNatClampNeg), .int (2 : Int32), .int (4 : Int32)]) (rest := []) dX1_chooseLongMore_165 (kX1_withE (25 : Int32) (2 : Int32) (4 : Int32) w) mkX1_withE tw644 rfl rfl rfl rfl rfl rfl (fun _ w1 => ?_)
    refine xj_goto (tgt := 275) dX1_chooseLongMore_168 rfl ?_
    exact xj_rv dX1_chooseLongMore_275 rfl
  · refine xj_aloadn 0 dX1_chooseLongMore_270 rfl rfl ?_
    refine xj_iconst (v := 0) dX1_chooseLongMore_271 ci_0 ?_
    refine pfX1_38 dX1_chooseLongMore_272 rfl (Or.inl rfl) ?_
    exact xj_rv dX1_chooseLongMore_275 rfl
  · refine xj_aloadn 0 dX1_chooseLongMore_171 rfl rfl ?_
    refine xj_gse (n := 41) 41 dX1_chooseLongMore_172 (Nat.le_of_ble_eq_true rfl) rfl tw668 ?_
    refine xj_iconst (v := 1) dX1_chooseLongMore_175 ci_1 ?_
    refine xj_iconst (v := 4) dX1_chooseLongMore_176 ci_4 ?_
    refine xj_cVv (argv := [.ref (2000 + (41 : Int32).toNatClampNeg), .int (1 : Int32), .int (4 : Int32)]) (rest := []) dX1_chooseLongMore_177 (kX1_withE (41 : Int32) (1 : Int32) (4 : Int32) w) mkX1_withE tw644 rfl rfl rfl rfl rfl rfl (fun _ w2 => ?_)
    refine xj_goto (tgt := 275) dX1_chooseLongMore_180 rfl ?_
    exact xj_rv dX1_chooseLongMore_275 rfl
  · refine xj_aloadn 0 dX1_chooseLongMore_270 rfl rfl ?_
    refine xj_iconst (v := 0) dX1_chooseLongMore_271 ci_0 ?_
    refine pfX1_38 dX1_chooseLongMore_272 rfl (Or.inl rfl) ?_
    exact xj_rv dX1_chooseLongMore_275 rfl
  · refine xj_aloadn 0 dX1_chooseLongMore_270 rfl rfl ?_
    refine xj_iconst (v := 0) dX1_chooseLongMore_271 ci_0 ?_
    refine pfX1_38 dX1_chooseLongMore_272 rfl (Or.inl rfl) ?_
    exact xj_rv dX1_chooseLongMore_275 rfl
  · refine xj_aloadn 0 dX1_chooseLongMore_270 rfl rfl ?_
    refine xj_iconst (v := 0) dX1_chooseLongMore_271 ci_0 ?_
    refine pfX1_38 dX1_chooseLongMore_272 rfl (Or.inl rfl) ?_
    exact xj_rv dX1_chooseLongMore_275 rfl
  · refine xj_aloadn 0 dX1_chooseLongMore_270 rfl rfl ?_
    refine xj_iconst (v := 0) dX1_chooseLongMore_271 ci_0 ?_
    refine pfX1_38 dX1_chooseLongMore_272 rfl (Or.inl rfl) ?_
    exact xj_rv dX1_chooseLongMore_275 rfl
  · exact tX1_chooseLongMore_j183 _ _
  · exact tX1_chooseLongMore_j183 _ _
  · refine xj_aloadn 0 dX1_chooseLongMore_270 rfl rfl ?_
    refine xj_iconst (v := 0) dX1_chooseLongMore_271 ci_0 ?_
    refine pfX1_38 dX1_chooseLongMore_272 rfl (Or.inl rfl) ?_
    exact xj_rv dX1_chooseLongMore_275 rfl
  · refine xj_aloadn 0 dX1_chooseLongMore_270 rfl rfl ?_
    refine xj_iconst (v := 0) dX1_chooseLongMore_271 ci_0 ?_
    refine pfX1_38 dX1_chooseLongMore_272 rfl (Or.inl rfl) ?_
    exact xj_rv dX1_chooseLongMore_275 rfl
  · refine xj_aloadn 0 dX1_chooseLongMore_270 rfl rfl ?_
    refine xj_iconst (v := 0) dX1_chooseLongMore_271 ci_0 ?_
    refine pfX1_38 dX1_chooseLongMore_272 rfl (Or.inl rfl) ?_
    exact xj_rv dX1_chooseLongMore_275 rfl
  · refine xj_aloadn 0 dX1_chooseLongMore_270 rfl rfl ?_
    refine xj_iconst (v := 0) dX1_chooseLongMore_271 ci_0 ?_
    refine pfX1_38 dX1_chooseLongMore_272 rfl (Or.inl rfl) ?_
    exact xj_rv dX1_chooseLongMore_275 rfl
  · exact tX1_chooseLongMore_j214 _ _
  · exact tX1_chooseLongMore_j214 _ _
  · exact tX1_chooseLongMore_j239 _ _
  · exact tX1_chooseLongMore_j239 _ _
theorem kX1_chooseLongMore (p1 : Int32) (w : xW) : xMet jV mX1_chooseLongMore lC (0, 0) [.ref 3, .int p1] w (sX1_chooseLongMore p1 w) := xj_met lC_ok (by decide) (Nat.le_of_ble_eq_true rfl) (Nat.zero_le _) (Nat.zero_le _) (tX1_chooseLongMore p1 w)
set_option maxRecDepth 20000 in
def sX1_withRegister (p1 : Int32) (p2 : Int32) (w : xW) : Option (Unit × xW) :=
  xbd (sX1_plain p1 (5 : Int32) (4 : Int32) (0 : Int32) w) (fun _ w1 => some ((), (xwi w1 2 7 p2)))
set_option maxRecDepth 20000 in
theorem tX1_withRegister (p1 : Int32) (p2 : Int32) (w : xW) : xJ ιV mX1_withRegister lC (0, 0) 0 [(0, .ref 3), (1, .ref (2000 + p1.toNatClampNeg)), (2, .int p2)] [] w (sX1_withRegister p1 p2 w) := by
  unfold sX1_withRegister
  refine xj_aloadn 0 dX1_withRegister_0 rfl rfl ?_
  refine xj_aloadn 1 dX1_withRegister_1 rfl rfl ?_
  refine xj_iconst (v := 5) dX1_withRegister_2 ci_5 ?_
  refine xj_iconst (v := 4) dX1_withRegister_3 ci_4 ?_
  refine xj_iconst (v := 0) dX1_withRegister_4 ci_0 ?_
  refine xj_cVv (argv := [.ref (2000 + p1.toNatClampNeg), .int (5 : Int32), .int (4 : Int32), .int (0 : Int32)]) (rest := []) dX1_withRegister_5 (kX1_plain p1 (5 : Int32) (4 : Int32) (0 : Int32) w) mkX1_plain tw652 rfl rfl rfl rfl rfl rfl (fun _ w1 => ?_)
  refine xj_aloadn 0 dX1_withRegister_8 rfl rfl ?_
  refine gfX1_15 dX1_withRegister_9 rfl ?_
  refine xj_iloadn 2 dX1_withRegister_12 rfl rfl ?_
  refine pfX1_100 dX1_withRegister_13 rfl ?_
  exact xj_rv dX1_withRegister_16 rfl
theorem kX1_withRegister (p1 : Int32) (p2 : Int32) (w : xW) : xMet jV mX1_withRegister lC (0, 0) [.ref 3, .ref (2000 + p1.toNatClampNeg), .int p2] w (sX1_withRegister p1 p2 w) := xj_met lC_ok (by decide) (Nat.le_of_ble_eq_true rfl) (Nat.zero_le _) (Nat.zero_le _) (tX1_withRegister p1 p2 w)
set_option maxRecDepth 20000 in
def sX1_chooseSwap (p1 : Int32) (w : xW) : Option (Unit × xW) :=
  (if p1 < (200 : Int32) then (if p1 = (193 : Int32) then xbd (sX1_withE (40 : Int32) (1 : Int32) (4 : Int32) w) (fun _ w1 => some ((), w1)) else some ((), (xwi w 3 4 (0 : Int32)))) else xbd (sX1_withRegister (36 : Int32) (p1 &&& (7 : Int32)) w) (fun _ w2 => some ((), w2)))
set_option maxRecDepth 20000 in
theorem tX1_chooseSwap (p1 : Int32) (w : xW) : xJ ιV mX1_chooseSwap lC (0, 0) 0 [(0, .ref 3), (1, .int p1)] [] w (sX1_chooseSwap p1 w) := by
  unfold sX1_chooseSwap
  refine xj_iloadn 1 dX1_chooseSwap_0 rfl rfl ?_
  refine xj_sipush (v := 200) dX1_chooseSwap_1 cs_200 ?_
  refine xj_ilt (tgt := 21) dX1_chooseSwap_4 rfl ?_ ?_
  · refine xj_iloadn 1 dX1_chooseSwap_21 rfl rfl ?_
    refine xj_sipush (v := 193) dX1_chooseSwap_22 cs_193 ?_
    refine xj_ine (tgt := 40) dX1_chooseSwap_25 rfl ?_ ?_
    · refine xj_aloadn 0 dX1_chooseSwap_28 rfl rfl ?_
      refine xj_gse (n := 40) 40 dX1_chooseSwap_29 (Nat.le_of_ble_eq_true rfl) rfl tw688 ?_
      refine xj_iconst (v := 1) dX1_chooseSwap_32 ci_1 ?_
      refine xj_iconst (v := 4) dX1_chooseSwap_33 ci_4 ?_
      refine xj_cVv (argv := [.ref (2000 + (40 : Int32).toNatClampNeg), .int (1 : Int32), .int (4 : Int32)]) (rest := []) dX1_chooseSwap_34 (kX1_withE (40 : Int32) (1 : Int32) (4 : Int32) w) mkX1_withE tw644 rfl rfl rfl rfl rfl rfl (fun _ w1 => ?_)
      refine xj_goto (tgt := 45) dX1_chooseSwap_37 rfl ?_
      exact xj_rv dX1_chooseSwap_45 rfl
    · refine xj_aloadn 0 dX1_chooseSwap_40 rfl rfl ?_
      refine xj_iconst (v := 0) dX1_chooseSwap_41 ci_0 ?_
      refine pfX1_38 dX1_chooseSwap_42 rfl (Or.inl rfl) ?_
      exact xj_rv dX1_chooseSwap_45 rfl
  · refine xj_aloadn 0 dX1_chooseSwap_7 rfl rfl ?_
    refine xj_gse (n := 36) 36 dX1_chooseSwap_8 (Nat.le_of_ble_eq_true rfl) rfl tw682 ?_
    refine xj_iloadn 1 dX1_chooseSwap_11 rfl rfl ?_
    refine xj_bipush (v := 7) dX1_chooseSwap_12 cb_7 ?_
    refine xj_iand dX1_chooseSwap_14 ?_
    refine xj_cVv (argv := [.ref (2000 + (36 : Int32).toNatClampNeg), .int (p1 &&& (7 : Int32))]) (rest := []) dX1_chooseSwap_15 (kX1_withRegister (36 : Int32) (p1 &&& (7 : Int32)) w) mkX1_withRegister tw684 rfl rfl rfl rfl rfl rfl (fun _ w2 => ?_)
    refine xj_goto (tgt := 45) dX1_chooseSwap_18 rfl ?_
    exact xj_rv dX1_chooseSwap_45 rfl
theorem kX1_chooseSwap (p1 : Int32) (w : xW) : xMet jV mX1_chooseSwap lC (0, 0) [.ref 3, .int p1] w (sX1_chooseSwap p1 w) := xj_met lC_ok (by decide) (Nat.le_of_ble_eq_true rfl) (Nat.zero_le _) (Nat.zero_le _) (tX1_chooseSwap p1 w)
set_option maxRecDepth 20000 in
def sX1_chooseLong_j90 (b0 : Int32) (w : xW) : Option (Unit × xW) :=
  (if xz b0 then (if xz b0 then some ((), (xwi (xwi w 3 5 b0) 3 4 b0)) else none) else none)
set_option maxRecDepth 20000 in
theorem tX1_chooseLong_j90 (b0 : Int32) (w : xW) : xJ ιV mX1_chooseLong lC (0, 0) 90 [(0, .ref 3)] [.int b0, .ref 3] w (sX1_chooseLong_j90 b0 w) := by
  unfold sX1_chooseLong_j90
  refine xj_guard (fun hz => ?_)
  refine pfX1_41 dX1_chooseLong_90 rfl hz ?_
  refine xj_aloadn 0 dX1_chooseLong_93 rfl rfl ?_
  refine xj_aloadn 0 dX1_chooseLong_94 rfl rfl ?_
  refine gfX1_41 (v := b0) dX1_chooseLong_95 rfl rfl ?_
  refine xj_guard (fun hz => ?_)
  refine pfX1_38 dX1_chooseLong_98 rfl hz ?_
  refine xj_goto (tgt := 196) dX1_chooseLong_101 rfl ?_
  exact xj_rv dX1_chooseLong_196 rfl
set_option maxRecDepth 20000 in
def sX1_chooseLong_j175 (a1 : Int32) (w : xW) : Option (Unit × xW) :=
  xbd (sX1_chooseLongMore a1 w) (fun _ w1 => some ((), w1))
set_option maxRecDepth 20000 in
theorem tX1_chooseLong_j175 (a1 : Int32) (w : xW) : xJ ιV mX1_chooseLong lC (0, 0) 175 [(0, .ref 3), (1, .int a1)] [] w (sX1_chooseLong_j175 a1 w) := by
  unfold sX1_chooseLong_j175
  refine xj_aloadn 0 dX1_chooseLong_175 rfl rfl ?_
  refine xj_iloadn 1 dX1_chooseLong_176 rfl rfl ?_
  refine xj_cVv (argv := [.int a1]) (rest := []) dX1_chooseLong_177 (kX1_chooseLongMore a1 w) mkX1_chooseLongMore tw658 rfl rfl rfl rfl rfl rfl (fun _ w1 => ?_)
  refine xj_goto (tgt := 196) dX1_chooseLong_180 rfl ?_
  exact xj_rv dX1_chooseLong_196 rfl
set_option maxRecDepth 20000 in
def sX1_chooseLong (p1 : Int32) (w : xW) : Option (Unit × xW) :=
  xsw (p1 >>> ((4 : Int32) &&& 31)) (1) [xbd (sX1_withE (50 : Int32) (5 : Int32) (4 : Int32) w) (fun _ w1 => (if p1 = (31 : Int32) then sX1_chooseLong_j90 (1 : Int32) (xwi w1 3 6 (1 : Int32)) else sX1_chooseLong_j90 (0 : Int32) (xwi w1 3 6 (1 : Int32)))), some ((), (xwi w 3 4 (0 : Int32))), some ((), (xwi w 3 4 (0 : Int32))), xbd (sX1_withE (32 : Int32) (2 : Int32) (4 : Int32) w) (fun _ w2 => some ((), (xwi w2 2 3 (p1 &&& (15 : Int32))))), some ((), (xwi w 3 4 (0 : Int32))), some ((), (xwi w 3 4 (0 : Int32))), some ((), (xwi w 3 4 (0 : Int32))), xbd (sX1_plain (46 : Int32) (9 : Int32) (4 : Int32) (4 : Int32) w) (fun _ w3 => some ((), (xwi w3 2 3 (p1 &&& (15 : Int32))))), xbd (sX1_withE (33 : Int32) (5 : Int32) (1 : Int32) w) (fun _ w4 => some ((), (xwi w4 2 3 (p1 &&& (15 : Int32))))), sX1_chooseLong_j175 p1 w, sX1_chooseLong_j175 p1 w, xbd (sX1_chooseSwap p1 w) (fun _ w5 => some ((), w5))] (some ((), (xwi w 3 4 (0 : Int32))))
set_option maxRecDepth 20000 in
theorem tX1_chooseLong (p1 : Int32) (w : xW) : xJ ιV mX1_chooseLong lC (0, 0) 0 [(0, .ref 3), (1, .int p1)] [] w (sX1_chooseLong p1 w) := by
  unfold sX1_chooseLong
  refine xj_iloadn 1 dX1_chooseLong_0 rfl rfl ?_
  refine xj_iconst (v := 4) dX1_chooseLong_1 ci_4 ?_
  refine xj_ishr dX1_chooseLong_2 ?_
  refine xj_tsw (tgtd := 191) [64, 191, 191, 104, 191, 191, 191, 127, 152, 175, 175, 183] dX1_chooseLong_3 rfl rfl rfl rfl ?_ ⟨?_, ?_, ?_, ?_, ?_, ?_, ?_, ?_, ?_, ?_, ?_, ?_, trivial⟩
  · refine xj_aloadn 0 dX1_chooseLong_191 rfl rfl ?_
    refine xj_iconst (v := 0) dX1_chooseLong_192 ci_0 ?_
    refine pfX1_38 dX1_chooseLong_193 rfl (Or.inl rfl) ?_
    exact xj_rv dX1_chooseLong_196 rfl
  · refine xj_aloadn 0 dX1_chooseLong_64 rfl rfl ?_
    refine xj_gse (n := 50) 50 dX1_chooseLong_65 (Nat.le_of_ble_eq_true rfl) rfl tw643 ?_
    refine xj_iconst (v := 5) dX1_chooseLong_68 ci_5 ?_
    refine xj_iconst (v := 4) dX1_chooseLong_69 ci_4 ?_
    refine xj_cVv (argv := [.ref (2000 + (50 : Int32).toNatClampNeg), .int (5 : Int32), .int (4 : Int32)]) (rest := []) dX1_chooseLong_70 (kX1_withE (50 : Int32) (5 : Int32) (4 : Int32) w) mkX1_withE tw644 rfl rfl rfl rfl rfl rfl (fun _ w1 => ?_)
    refine xj_aloadn 0 dX1_chooseLong_73 rfl rfl ?_
    refine xj_iconst (v := 1) dX1_chooseLong_74 ci_1 ?_
    refine pfX1_44 dX1_chooseLong_75 rfl ?_
    refine xj_aloadn 0 dX1_chooseLong_78 rfl rfl ?_
    refine xj_iloadn 1 dX1_chooseLong_79 rfl rfl ?_
    refine xj_bipush (v := 31) dX1_chooseLong_80 cb_31 ?_
    refine xj_ine (tgt := 89) dX1_chooseLong_82 rfl ?_ ?_
    · refine xj_iconst (v := 1) dX1_chooseLong_85 ci_1 ?_
      refine xj_goto (tgt := 90) dX1_chooseLong_86 rfl ?_
      refine xj_sub (lv2 := [(0, .ref 3)]) [0] rfl ?_
      exact tX1_chooseLong_j90 _ _
    · refine xj_iconst (v := 0) dX1_chooseLong_89 ci_0 ?_
      refine xj_sub (lv2 := [(0, .ref 3)]) [0] rfl ?_
      exact tX1_chooseLong_j90 _ _
  · refine xj_aloadn 0 dX1_chooseLong_191 rfl rfl ?_
    refine xj_iconst (v := 0) dX1_chooseLong_192 ci_0 ?_
    refine pfX1_38 dX1_chooseLong_193 rfl (Or.inl rfl) ?_
    exact xj_rv dX1_chooseLong_196 rfl
  · refine xj_aloadn 0 dX1_chooseLong_191 rfl rfl ?_
    refine xj_iconst (v := 0) dX1_chooseLong_192 ci_0 ?_
    refine pfX1_38 dX1_chooseLong_193 rfl (Or.inl rfl) ?_
    exact xj_rv dX1_chooseLong_196 rfl
  · refine xj_aloadn 0 dX1_chooseLong_104 rfl rfl ?_
    refine xj_gse (n := 32) 32 dX1_chooseLong_105 (Nat.le_of_ble_eq_true rfl) rfl tw648 ?_
    refine xj_iconst (v := 2) dX1_chooseLong_108 ci_2 ?_
    refine xj_iconst (v := 4) dX1_chooseLong_109 ci_4 ?_
    refine xj_cVv (argv := [.ref (2000 + (32 : Int32).toNatClampNeg), .int (2 : Int32), .int (4 : Int32)]) (rest := []) dX1_chooseLong_110 (kX1_withE (32 : Int32) (2 : Int32) (4 : Int32) w) mkX1_withE tw644 rfl rfl rfl rfl rfl rfl (fun _ w2 => ?_)
    refine xj_aloadn 0 dX1_chooseLong_113 rfl rfl ?_
    refine gfX1_15 dX1_chooseLong_114 rfl ?_
    refine xj_iloadn 1 dX1_chooseLong_117 rfl rfl ?_
    refine xj_bipush (v := 15) dX1_chooseLong_118 cb_15 ?_
    refine xj_iand dX1_chooseLong_120 ?_
    refine pfX1_169 dX1_chooseLong_121 rfl ?_
    refine xj_goto (tgt := 196) dX1_chooseLong_124 rfl ?_
    exact xj_rv dX1_chooseLong_196 rfl
  · refine xj_aloadn 0 dX1_chooseLong_191 rfl rfl ?_
    refine xj_iconst (v := 0) dX1_chooseLong_192 ci_0 ?_
    refine pfX1_38 dX1_chooseLong_193 rfl (Or.inl rfl) ?_
    exact xj_rv dX1_chooseLong_196 rfl
  · refine xj_aloadn 0 dX1_chooseLong_191 rfl rfl ?_
    refine xj_iconst (v := 0) dX1_chooseLong_192 ci_0 ?_
    refine pfX1_38 dX1_chooseLong_193 rfl (Or.inl rfl) ?_
    exact xj_rv dX1_chooseLong_196 rfl
  · refine xj_aloadn 0 dX1_chooseLong_191 rfl rfl ?_
    refine xj_iconst (v := 0) dX1_chooseLong_192 ci_0 ?_
    refine pfX1_38 dX1_chooseLong_193 rfl (Or.inl rfl) ?_
    exact xj_rv dX1_chooseLong_196 rfl
  · refine xj_aloadn 0 dX1_chooseLong_127 rfl rfl ?_
    refine xj_gse (n := 46) 46 dX1_chooseLong_128 (Nat.le_of_ble_eq_true rfl) rfl tw650 ?_
    refine xj_bipush (v := 9) dX1_chooseLong_131 cb_9 ?_
    refine xj_iconst (v := 4) dX1_chooseLong_133 ci_4 ?_
    refine xj_iconst (v := 4) dX1_chooseLong_134 ci_4 ?_
    refine xj_cVv (argv := [.ref (2000 + (46 : Int32).toNatClampNeg), .int (9 : Int32), .int (4 : Int32), .int (4 : Int32)]) (rest := []) dX1_chooseLong_135 (kX1_plain (46 : Int32) (9 : Int32) (4 : Int32) (4 : Int32) w) mkX1_plain tw652 rfl rfl rfl rfl rfl rfl (fun _ w3 => ?_)
    refine xj_aloadn 0 dX1_chooseLong_138 rfl rfl ?_
    refine gfX1_15 dX1_chooseLong_139 rfl ?_
    refine xj_iloadn 1 dX1_chooseLong_142 rfl rfl ?_
    refine xj_bipush (v := 15) dX1_chooseLong_143 cb_15 ?_
    refine xj_iand dX1_chooseLong_145 ?_
    refine pfX1_169 dX1_chooseLong_146 rfl ?_
    refine xj_goto (tgt := 196) dX1_chooseLong_149 rfl ?_
    exact xj_rv dX1_chooseLong_196 rfl
  · refine xj_aloadn 0 dX1_chooseLong_152 rfl rfl ?_
    refine xj_gse (n := 33) 33 dX1_chooseLong_153 (Nat.le_of_ble_eq_true rfl) rfl tw656 ?_
    refine xj_iconst (v := 5) dX1_chooseLong_156 ci_5 ?_
    refine xj_iconst (v := 1) dX1_chooseLong_157 ci_1 ?_
    refine xj_cVv (argv := [.ref (2000 + (33 : Int32).toNatClampNeg), .int (5 : Int32), .int (1 : Int32)]) (rest := []) dX1_chooseLong_158 (kX1_withE (33 : Int32) (5 : Int32) (1 : Int32) w) mkX1_withE tw644 rfl rfl rfl rfl rfl rfl (fun _ w4 => ?_)
    refine xj_aloadn 0 dX1_chooseLong_161 rfl rfl ?_
    refine gfX1_15 dX1_chooseLong_162 rfl ?_
    refine xj_iloadn 1 dX1_chooseLong_165 rfl rfl ?_
    refine xj_bipush (v := 15) dX1_chooseLong_166 cb_15 ?_
    refine xj_iand dX1_chooseLong_168 ?_
    refine pfX1_169 dX1_chooseLong_169 rfl ?_
    refine xj_goto (tgt := 196) dX1_chooseLong_172 rfl ?_
    exact xj_rv dX1_chooseLong_196 rfl
  · exact tX1_chooseLong_j175 _ _
  · exact tX1_chooseLong_j175 _ _
  · refine xj_aloadn 0 dX1_chooseLong_183 rfl rfl ?_
    refine xj_iloadn 1 dX1_chooseLong_184 rfl rfl ?_
    refine xj_cVv (argv := [.int p1]) (rest := []) dX1_chooseLong_185 (kX1_chooseSwap p1 w) mkX1_chooseSwap tw678 rfl rfl rfl rfl rfl rfl (fun _ w5 => ?_)
    refine xj_goto (tgt := 196) dX1_chooseLong_188 rfl ?_
    exact xj_rv dX1_chooseLong_196 rfl
theorem kX1_chooseLong (p1 : Int32) (w : xW) : xMet jV mX1_chooseLong lC (0, 0) [.ref 3, .int p1] w (sX1_chooseLong p1 w) := xj_met lC_ok (by decide) (Nat.le_of_ble_eq_true rfl) (Nat.zero_le _) (Nat.zero_le _) (tX1_chooseLong p1 w)
set_option maxRecDepth 20000 in
def sX1_chooseWord (p1 : Int32) (w : xW) : Option (Unit × xW) :=
  (if p1 = (137 : Int32) then xbd (sX1_withE (28 : Int32) (1 : Int32) (2 : Int32) w) (fun _ w3 => some ((), w3)) else (if p1 = (139 : Int32) then xbd (sX1_withE (28 : Int32) (2 : Int32) (2 : Int32) w) (fun _ w2 => some ((), w2)) else (if p1 = (144 : Int32) then xbd (sX1_plain (50 : Int32) (0 : Int32) (4 : Int32) (0 : Int32) w) (fun _ w1 => some ((), w1)) else some ((), (xwi w 3 4 (0 : Int32))))))
set_option maxRecDepth 20000 in
theorem tX1_chooseWord (p1 : Int32) (w : xW) : xJ ιV mX1_chooseWord lC (0, 0) 0 [(0, .ref 3), (1, .int p1)] [] w (sX1_chooseWord p1 w) := by
  unfold sX1_chooseWord
  refine xj_iloadn 1 dX1_chooseWord_0 rfl rfl ?_
  refine xj_sipush (v := 137) dX1_chooseWord_1 cs_137 ?_
  refine xj_ine (tgt := 19) dX1_chooseWord_4 rfl ?_ ?_
  · refine xj_aloadn 0 dX1_chooseWord_7 rfl rfl ?_
    refine xj_gse (n := 28) 28 dX1_chooseWord_8 (Nat.le_of_ble_eq_true rfl) rfl tw694 ?_
    refine xj_iconst (v := 1) dX1_chooseWord_11 ci_1 ?_
    refine xj_iconst (v := 2) dX1_chooseWord_12 ci_2 ?_
    refine xj_cVv (argv := [.ref (2000 + (28 : Int32).toNatClampNeg), .int (1 : Int32), .int (2 : Int32)]) (rest := []) dX1_chooseWord_13 (kX1_withE (28 : Int32) (1 : Int32) (2 : Int32) w) mkX1_withE tw644 rfl rfl rfl rfl rfl rfl (fun _ w3 => ?_)
    refine xj_goto (tgt := 63) dX1_chooseWord_16 rfl ?_
    exact xj_rv dX1_chooseWord_63 rfl
  · refine xj_iloadn 1 dX1_chooseWord_19 rfl rfl ?_
    refine xj_sipush (v := 139) dX1_chooseWord_20 cs_139 ?_
    refine xj_ine (tgt := 38) dX1_chooseWord_23 rfl ?_ ?_
    · refine xj_aloadn 0 dX1_chooseWord_26 rfl rfl ?_
      refine xj_gse (n := 28) 28 dX1_chooseWord_27 (Nat.le_of_ble_eq_true rfl) rfl tw694 ?_
      refine xj_iconst (v := 2) dX1_chooseWord_30 ci_2 ?_
      refine xj_iconst (v := 2) dX1_chooseWord_31 ci_2 ?_
      refine xj_cVv (argv := [.ref (2000 + (28 : Int32).toNatClampNeg), .int (2 : Int32), .int (2 : Int32)]) (rest := []) dX1_chooseWord_32 (kX1_withE (28 : Int32) (2 : Int32) (2 : Int32) w) mkX1_withE tw644 rfl rfl rfl rfl rfl rfl (fun _ w2 => ?_)
      refine xj_goto (tgt := 63) dX1_chooseWord_35 rfl ?_
      exact xj_rv dX1_chooseWord_63 rfl
    · refine xj_iloadn 1 dX1_chooseWord_38 rfl rfl ?_
      refine xj_sipush (v := 144) dX1_chooseWord_39 cs_144 ?_
      refine xj_ine (tgt := 58) dX1_chooseWord_42 rfl ?_ ?_
      · refine xj_aloadn 0 dX1_chooseWord_45 rfl rfl ?_
        refine xj_gse (n := 50) 50 dX1_chooseWord_46 (Nat.le_of_ble_eq_true rfl) rfl tw643 ?_
        refine xj_iconst (v := 0) dX1_chooseWord_49 ci_0 ?_
        refine xj_iconst (v := 4) dX1_chooseWord_50 ci_4 ?_
        refine xj_iconst (v := 0) dX1_chooseWord_51 ci_0 ?_
        refine xj_cVv (argv := [.ref (2000 + (50 : Int32).toNatClampNeg), .int (0 : Int32), .int (4 : Int32), .int (0 : Int32)]) (rest := []) dX1_chooseWord_52 (kX1_plain (50 : Int32) (0 : Int32) (4 : Int32) (0 : Int32) w) mkX1_plain tw652 rfl rfl rfl rfl rfl rfl (fun _ w1 => ?_)
        refine xj_goto (tgt := 63) dX1_chooseWord_55 rfl ?_
        exact xj_rv dX1_chooseWord_63 rfl
      · refine xj_aloadn 0 dX1_chooseWord_58 rfl rfl ?_
        refine xj_iconst (v := 0) dX1_chooseWord_59 ci_0 ?_
        refine pfX1_38 dX1_chooseWord_60 rfl (Or.inl rfl) ?_
        exact xj_rv dX1_chooseWord_63 rfl
theorem kX1_chooseWord (p1 : Int32) (w : xW) : xMet jV mX1_chooseWord lC (0, 0) [.ref 3, .int p1] w (sX1_chooseWord p1 w) := xj_met lC_ok (by decide) (Nat.le_of_ble_eq_true rfl) (Nat.zero_le _) (Nat.zero_le _) (tX1_chooseWord p1 w)
set_option maxRecDepth 20000 in
def sX1_choosePush_j24 (a2 : Int32) (w : xW) : Option (Unit × xW) :=
  xbd (sX1_plain (42 : Int32) (6 : Int32) (4 : Int32) a2 w) (fun _ w1 => some ((), w1))
set_option maxRecDepth 20000 in
theorem tX1_choosePush_j24 (a2 : Int32) (w : xW) : xJ ιV mX1_choosePush lC (0, 0) 24 [(0, .ref 3), (2, .int a2)] [] w (sX1_choosePush_j24 a2 w) := by
  unfold sX1_choosePush_j24
  refine xj_aloadn 0 dX1_choosePush_24 rfl rfl ?_
  refine xj_gse (n := 42) 42 dX1_choosePush_25 (Nat.le_of_ble_eq_true rfl) rfl tw704 ?_
  refine xj_bipush (v := 6) dX1_choosePush_28 cb_6 ?_
  refine xj_iconst (v := 4) dX1_choosePush_30 ci_4 ?_
  refine xj_iloadn 1 dX1_choosePush_31 rfl rfl ?_
  refine xj_cVv (argv := [.ref (2000 + (42 : Int32).toNatClampNeg), .int (6 : Int32), .int (4 : Int32), .int a2]) (rest := []) dX1_choosePush_32 (kX1_plain (42 : Int32) (6 : Int32) (4 : Int32) a2 w) mkX1_plain tw652 rfl rfl rfl rfl rfl rfl (fun _ w1 => ?_)
  refine xj_goto (tgt := 73) dX1_choosePush_35 rfl ?_
  exact xj_rv dX1_choosePush_73 rfl
set_option maxRecDepth 20000 in
def sX1_choosePush_j50 (a2 : Int32) (w : xW) : Option (Unit × xW) :=
  xbd (sX1_withE (25 : Int32) (7 : Int32) (4 : Int32) w) (fun _ w1 => some ((), (xwi w1 3 7 a2)))
set_option maxRecDepth 20000 in
theorem tX1_choosePush_j50 (a2 : Int32) (w : xW) : xJ ιV mX1_choosePush lC (0, 0) 50 [(0, .ref 3), (2, .int a2)] [] w (sX1_choosePush_j50 a2 w) := by
  unfold sX1_choosePush_j50
  refine xj_aloadn 0 dX1_choosePush_50 rfl rfl ?_
  refine xj_gse (n := 25) 25 dX1_choosePush_51 (Nat.le_of_ble_eq_true rfl) rfl tw666 ?_
  refine xj_bipush (v := 7) dX1_choosePush_54 cb_7 ?_
  refine xj_iconst (v := 4) dX1_choosePush_56 ci_4 ?_
  refine xj_cVv (argv := [.ref (2000 + (25 : Int32).toNatClampNeg), .int (7 : Int32), .int (4 : Int32)]) (rest := []) dX1_choosePush_57 (kX1_withE (25 : Int32) (7 : Int32) (4 : Int32) w) mkX1_withE tw644 rfl rfl rfl rfl rfl rfl (fun _ w1 => ?_)
  refine xj_aloadn 0 dX1_choosePush_60 rfl rfl ?_
  refine xj_iloadn 1 dX1_choosePush_61 rfl rfl ?_
  refine pfX1_47 dX1_choosePush_62 rfl ?_
  refine xj_goto (tgt := 73) dX1_choosePush_65 rfl ?_
  exact xj_rv dX1_choosePush_73 rfl
set_option maxRecDepth 20000 in
def sX1_choosePush_j11 (a1 : Int32) (b0 : Int32) (w : xW) : Option (Unit × xW) :=
  (if a1 = (104 : Int32) then sX1_choosePush_j24 b0 w else (if a1 = (106 : Int32) then sX1_choosePush_j24 b0 w else (if a1 = (105 : Int32) then sX1_choosePush_j50 b0 w else (if a1 = (107 : Int32) then sX1_choosePush_j50 b0 w else some ((), (xwi w 3 4 (0 : Int32)))))))
set_option maxRecDepth 20000 in
theorem tX1_choosePush_j11 (a1 : Int32) (b0 : Int32) (w : xW) : xJ ιV mX1_choosePush lC (0, 0) 11 [(0, .ref 3), (1, .int a1)] [.int b0] w (sX1_choosePush_j11 a1 b0 w) := by
  unfold sX1_choosePush_j11
  refine xj_istoren (lv2 := [(2, .int b0), (0, .ref 3), (1, .int a1)]) dX1_choosePush_11 rfl (Nat.le_of_ble_eq_true rfl) rfl ?_
  refine xj_iloadn 2 dX1_choosePush_12 rfl rfl ?_
  refine xj_bipush (v := 104) dX1_choosePush_13 cb_104 ?_
  refine xj_ieq (tgt := 24) dX1_choosePush_15 rfl ?_ ?_
  · refine xj_sub (lv2 := [(0, .ref 3), (2, .int b0)]) [1, 0] rfl ?_
    exact tX1_choosePush_j24 _ _
  · refine xj_iloadn 2 dX1_choosePush_18 rfl rfl ?_
    refine xj_bipush (v := 106) dX1_choosePush_19 cb_106 ?_
    refine xj_ine (tgt := 38) dX1_choosePush_21 rfl ?_ ?_
    · refine xj_sub (lv2 := [(0, .ref 3), (2, .int b0)]) [1, 0] rfl ?_
      exact tX1_choosePush_j24 _ _
    · refine xj_iloadn 2 dX1_choosePush_38 rfl rfl ?_
      refine xj_bipush (v := 105) dX1_choosePush_39 cb_105 ?_
      refine xj_ieq (tgt := 50) dX1_choosePush_41 rfl ?_ ?_
      · refine xj_sub (lv2 := [(0, .ref 3), (2, .int b0)]) [1, 0] rfl ?_
        exact tX1_choosePush_j50 _ _
      · refine xj_iloadn 2 dX1_choosePush_44 rfl rfl ?_
        refine xj_bipush (v := 107) dX1_choosePush_45 cb_107 ?_
        refine xj_ine (tgt := 68) dX1_choosePush_47 rfl ?_ ?_
        · refine xj_sub (lv2 := [(0, .ref 3), (2, .int b0)]) [1, 0] rfl ?_
          exact tX1_choosePush_j50 _ _
        · refine xj_aloadn 1 dX1_choosePush_68 rfl rfl ?_
          refine xj_iconst (v := 0) dX1_choosePush_69 ci_0 ?_
          refine pfX1_38 dX1_choosePush_70 rfl (Or.inl rfl) ?_
          exact xj_rv dX1_choosePush_73 rfl
set_option maxRecDepth 20000 in
def sX1_choosePush (p1 : Int32) (w : xW) : Option (Unit × xW) :=
  (if p1 < (106 : Int32) then sX1_choosePush_j11 p1 (4 : Int32) w else sX1_choosePush_j11 p1 (1 : Int32) w)
set_option maxRecDepth 20000 in
theorem tX1_choosePush (p1 : Int32) (w : xW) : xJ ιV mX1_choosePush lC (0, 0) 0 [(0, .ref 3), (1, .int p1)] [] w (sX1_choosePush p1 w) := by
  unfold sX1_choosePush
  refine xj_iloadn 1 dX1_choosePush_0 rfl rfl ?_
  refine xj_bipush (v := 106) dX1_choosePush_1 cb_106 ?_
  refine xj_ige (tgt := 10) dX1_choosePush_3 rfl ?_ ?_
  · refine xj_iconst (v := 4) dX1_choosePush_6 ci_4 ?_
    refine xj_goto (tgt := 11) dX1_choosePush_7 rfl ?_
    exact tX1_choosePush_j11 _ _ _
  · refine xj_iconst (v := 1) dX1_choosePush_10 ci_1 ?_
    exact tX1_choosePush_j11 _ _ _
theorem kX1_choosePush (p1 : Int32) (w : xW) : xMet jV mX1_choosePush lC (0, 0) [.ref 3, .int p1] w (sX1_choosePush p1 w) := xj_met lC_ok (by decide) (Nat.le_of_ble_eq_true rfl) (Nat.zero_le _) (Nat.zero_le _) (tX1_choosePush p1 w)
set_option maxRecDepth 20000 in
def sX1_chooseEight_j11 (a1 : Int32) (a2 : Int32) (b0 : Int32) (w : xW) : Option (Unit × xW) :=
  (if a2 < (2 : Int32) then xbd (sX1_withE a1 (1 : Int32) b0 w) (fun _ w3 => some ((), w3)) else (if a2 < (4 : Int32) then xbd (sX1_withE a1 (2 : Int32) b0 w) (fun _ w2 => some ((), w2)) else (if a2 < (6 : Int32) then xbd (sX1_plain a1 (3 : Int32) b0 b0 w) (fun _ w1 => some ((), w1)) else some ((), (xwi w 3 4 (0 : Int32))))))
set_option maxRecDepth 20000 in
theorem tX1_chooseEight_j11 (a1 : Int32) (a2 : Int32) (b0 : Int32) (w : xW) : xJ ιV mX1_chooseEight lC (0, 0) 11 [(0, .ref 3), (1, .ref (2000 + a1.toNatClampNeg)), (2, .int a2)] [.int b0] w (sX1_chooseEight_j11 a1 a2 b0 w) := by
  unfold sX1_chooseEight_j11
  refine xj_istoren (lv2 := [(3, .int b0), (0, .ref 3), (1, .ref (2000 + a1.toNatClampNeg)), (2, .int a2)]) dX1_chooseEight_11 rfl (Nat.le_of_ble_eq_true rfl) rfl ?_
  refine xj_iloadn 3 dX1_chooseEight_12 rfl rfl ?_
  refine xj_iconst (v := 2) dX1_chooseEight_13 ci_2 ?_
  refine xj_ige (tgt := 27) dX1_chooseEight_14 rfl ?_ ?_
  · refine xj_aloadn 1 dX1_chooseEight_17 rfl rfl ?_
    refine xj_aloadn 2 dX1_chooseEight_18 rfl rfl ?_
    refine xj_iconst (v := 1) dX1_chooseEight_19 ci_1 ?_
    refine xj_iloadn 0 dX1_chooseEight_20 rfl rfl ?_
    refine xj_cVv (argv := [.ref (2000 + a1.toNatClampNeg), .int (1 : Int32), .int b0]) (rest := []) dX1_chooseEight_21 (kX1_withE a1 (1 : Int32) b0 w) mkX1_withE tw644 rfl rfl rfl rfl rfl rfl (fun _ w3 => ?_)
    refine xj_goto (tgt := 64) dX1_chooseEight_24 rfl ?_
    exact xj_rv dX1_chooseEight_64 rfl
  · refine xj_iloadn 3 dX1_chooseEight_27 rfl rfl ?_
    refine xj_iconst (v := 4) dX1_chooseEight_28 ci_4 ?_
    refine xj_ige (tgt := 42) dX1_chooseEight_29 rfl ?_ ?_
    · refine xj_aloadn 1 dX1_chooseEight_32 rfl rfl ?_
      refine xj_aloadn 2 dX1_chooseEight_33 rfl rfl ?_
      refine xj_iconst (v := 2) dX1_chooseEight_34 ci_2 ?_
      refine xj_iloadn 0 dX1_chooseEight_35 rfl rfl ?_
      refine xj_cVv (argv := [.ref (2000 + a1.toNatClampNeg), .int (2 : Int32), .int b0]) (rest := []) dX1_chooseEight_36 (kX1_withE a1 (2 : Int32) b0 w) mkX1_withE tw644 rfl rfl rfl rfl rfl rfl (fun _ w2 => ?_)
      refine xj_goto (tgt := 64) dX1_chooseEight_39 rfl ?_
      exact xj_rv dX1_chooseEight_64 rfl
    · refine xj_iloadn 3 dX1_chooseEight_42 rfl rfl ?_
      refine xj_bipush (v := 6) dX1_chooseEight_43 cb_6 ?_
      refine xj_ige (tgt := 59) dX1_chooseEight_45 rfl ?_ ?_
      · refine xj_aloadn 1 dX1_chooseEight_48 rfl rfl ?_
        refine xj_aloadn 2 dX1_chooseEight_49 rfl rfl ?_
        refine xj_iconst (v := 3) dX1_chooseEight_50 ci_3 ?_
        refine xj_iloadn 0 dX1_chooseEight_51 rfl rfl ?_
        refine xj_iloadn 0 dX1_chooseEight_52 rfl rfl ?_
        refine xj_cVv (argv := [.ref (2000 + a1.toNatClampNeg), .int (3 : Int32), .int b0, .int b0]) (rest := []) dX1_chooseEight_53 (kX1_plain a1 (3 : Int32) b0 b0 w) mkX1_plain tw652 rfl rfl rfl rfl rfl rfl (fun _ w1 => ?_)
        refine xj_goto (tgt := 64) dX1_chooseEight_56 rfl ?_
        exact xj_rv dX1_chooseEight_64 rfl
      · refine xj_aloadn 1 dX1_chooseEight_59 rfl rfl ?_
        refine xj_iconst (v := 0) dX1_chooseEight_60 ci_0 ?_
        refine pfX1_38 dX1_chooseEight_61 rfl (Or.inl rfl) ?_
        exact xj_rv dX1_chooseEight_64 rfl
set_option maxRecDepth 20000 in
def sX1_chooseEight (p1 : Int32) (p2 : Int32) (w : xW) : Option (Unit × xW) :=
  (if (p2 &&& (1 : Int32)) = 0 then sX1_chooseEight_j11 p1 p2 (1 : Int32) w else sX1_chooseEight_j11 p1 p2 (4 : Int32) w)
set_option maxRecDepth 20000 in
theorem tX1_chooseEight (p1 : Int32) (p2 : Int32) (w : xW) : xJ ιV mX1_chooseEight lC (0, 0) 0 [(0, .ref 3), (1, .ref (2000 + p1.toNatClampNeg)), (2, .int p2)] [] w (sX1_chooseEight p1 p2 w) := by
  unfold sX1_chooseEight
  refine xj_iloadn 2 dX1_chooseEight_0 rfl rfl ?_
  refine xj_iconst (v := 1) dX1_chooseEight_1 ci_1 ?_
  refine xj_iand dX1_chooseEight_2 ?_
  refine xj_ifne (tgt := 10) dX1_chooseEight_3 rfl ?_ ?_
  · refine xj_iconst (v := 1) dX1_chooseEight_6 ci_1 ?_
    refine xj_goto (tgt := 11) dX1_chooseEight_7 rfl ?_
    exact tX1_chooseEight_j11 _ _ _ _
  · refine xj_iconst (v := 4) dX1_chooseEight_10 ci_4 ?_
    exact tX1_chooseEight_j11 _ _ _ _
theorem kX1_chooseEight (p1 : Int32) (p2 : Int32) (w : xW) : xMet jV mX1_chooseEight lC (0, 0) [.ref 3, .ref (2000 + p1.toNatClampNeg), .int p2] w (sX1_chooseEight p1 p2 w) := xj_met lC_ok (by decide) (Nat.le_of_ble_eq_true rfl) (Nat.zero_le _) (Nat.zero_le _) (tX1_chooseEight p1 p2 w)
set_option maxRecDepth 20000 in
def sX1_chooseLow_j116 (a1 : Int32) (w : xW) : Option (Unit × xW) :=
  xbd (sX1_plain (46 : Int32) (9 : Int32) (4 : Int32) (1 : Int32) w) (fun _ w1 => some ((), (xwi w1 2 3 (a1 &&& (15 : Int32)))))
set_option maxRecDepth 20000 in
theorem tX1_chooseLow_j116 (a1 : Int32) (w : xW) : xJ ιV mX1_chooseLow lC (0, 0) 116 [(0, .ref 3), (1, .int a1)] [] w (sX1_chooseLow_j116 a1 w) := by
  unfold sX1_chooseLow_j116
  refine xj_aloadn 0 dX1_chooseLow_116 rfl rfl ?_
  refine xj_gse (n := 46) 46 dX1_chooseLow_117 (Nat.le_of_ble_eq_true rfl) rfl tw650 ?_
  refine xj_bipush (v := 9) dX1_chooseLow_120 cb_9 ?_
  refine xj_iconst (v := 4) dX1_chooseLow_122 ci_4 ?_
  refine xj_iconst (v := 1) dX1_chooseLow_123 ci_1 ?_
  refine xj_cVv (argv := [.ref (2000 + (46 : Int32).toNatClampNeg), .int (9 : Int32), .int (4 : Int32), .int (1 : Int32)]) (rest := []) dX1_chooseLow_124 (kX1_plain (46 : Int32) (9 : Int32) (4 : Int32) (1 : Int32) w) mkX1_plain tw652 rfl rfl rfl rfl rfl rfl (fun _ w1 => ?_)
  refine xj_aloadn 0 dX1_chooseLow_127 rfl rfl ?_
  refine gfX1_15 dX1_chooseLow_128 rfl ?_
  refine xj_iloadn 1 dX1_chooseLow_131 rfl rfl ?_
  refine xj_bipush (v := 15) dX1_chooseLow_132 cb_15 ?_
  refine xj_iand dX1_chooseLow_134 ?_
  refine pfX1_169 dX1_chooseLow_135 rfl ?_
  refine xj_goto (tgt := 156) dX1_chooseLow_138 rfl ?_
  exact xj_rv dX1_chooseLow_156 rfl
set_option maxRecDepth 20000 in
def sX1_chooseLow (p1 : Int32) (w : xW) : Option (Unit × xW) :=
  xsw (p1 >>> ((3 : Int32) &&& 31)) (8) [xbd (sX1_withRegister (17 : Int32) (p1 &&& (7 : Int32)) w) (fun _ w2 => some ((), w2)), xbd (sX1_withRegister (18 : Int32) (p1 &&& (7 : Int32)) w) (fun _ w3 => some ((), w3)), xbd (sX1_withRegister (42 : Int32) (p1 &&& (7 : Int32)) w) (fun _ w4 => some ((), w4)), xbd (sX1_withRegister (43 : Int32) (p1 &&& (7 : Int32)) w) (fun _ w5 => some ((), w5)), some ((), (xwi w 3 4 (0 : Int32))), xbd (sX1_choosePush p1 w) (fun _ w6 => some ((), w6)), sX1_chooseLow_j116 p1 w, sX1_chooseLow_j116 p1 w] ((if xin ((p1 >>> ((3 : Int32) &&& 31)) &&& (7 : Int32)) 54 then xbd (sX1_chooseEight ((p1 >>> ((3 : Int32) &&& 31)) &&& (7 : Int32)) (p1 &&& (7 : Int32)) w) (fun _ w1 => some ((), w1)) else none))
set_option maxRecDepth 20000 in
theorem tX1_chooseLow (p1 : Int32) (w : xW) : xJ ιV mX1_chooseLow lC (0, 0) 0 [(0, .ref 3), (1, .int p1)] [] w (sX1_chooseLow p1 w) := by
  unfold sX1_chooseLow
  refine xj_iloadn 1 dX1_chooseLow_0 rfl rfl ?_
  refine xj_bipush (v := 7) dX1_chooseLow_1 cb_7 ?_
  refine xj_iand dX1_chooseLow_3 ?_
  refine xj_istoren (lv2 := [(2, .int (p1 &&& (7 : Int32))), (0, .ref 3), (1, .int p1)]) dX1_chooseLow_4 rfl (Nat.le_of_ble_eq_true rfl) rfl ?_
  refine xj_iloadn 2 dX1_chooseLow_5 rfl rfl ?_
  refine xj_iconst (v := 3) dX1_chooseLow_6 ci_3 ?_
  refine xj_ishr dX1_chooseLow_7 ?_
  refine xj_tsw (tgtd := 141) [56, 67, 78, 89, 100, 108, 116, 116] dX1_chooseLow_8 rfl rfl rfl rfl ?_ ⟨?_, ?_, ?_, ?_, ?_, ?_, ?_, ?_, trivial⟩
  · refine xj_aloadn 1 dX1_chooseLow_141 rfl rfl ?_
    refine xj_gsv (v := .ref 3001) dX1_chooseLow_142 tw712 (fun G A U H h => h.2.2.1.1) ?_
    refine xj_iloadn 2 dX1_chooseLow_145 rfl rfl ?_
    refine xj_iconst (v := 3) dX1_chooseLow_146 ci_3 ?_
    refine xj_ishr dX1_chooseLow_147 ?_
    refine xj_bipush (v := 7) dX1_chooseLow_148 cb_7 ?_
    refine xj_iand dX1_chooseLow_150 ?_
    refine xj_guard (fun hi => ?_)
    refine xj_aaldq (f := fun j => 2000 + j) dX1_chooseLow_151 hi (fun G A U H h => h.2.2.1.2) ?_
    refine xj_iloadn 0 dX1_chooseLow_152 rfl rfl ?_
    refine xj_cVv (argv := [.ref (2000 + ((p1 >>> ((3 : Int32) &&& 31)) &&& (7 : Int32)).toNatClampNeg), .int (p1 &&& (7 : Int32))]) (rest := []) dX1_chooseLow_153 (kX1_chooseEight ((p1 >>> ((3 : Int32) &&& 31)) &&& (7 : Int32)) (p1 &&& (7 : Int32)) w) mkX1_chooseEight tw714 rfl rfl rfl rfl rfl rfl (fun _ w1 => ?_)
    exact xj_rv dX1_chooseLow_156 rfl
  · refine xj_aloadn 1 dX1_chooseLow_56 rfl rfl ?_
    refine xj_gse (n := 17) 17 dX1_chooseLow_57 (Nat.le_of_ble_eq_true rfl) rfl tw700 ?_
    refine xj_iloadn 0 dX1_chooseLow_60 rfl rfl ?_
    refine xj_cVv (argv := [.ref (2000 + (17 : Int32).toNatClampNeg), .int (p1 &&& (7 : Int32))]) (rest := []) dX1_chooseLow_61 (kX1_withRegister (17 : Int32) (p1 &&& (7 : Int32)) w) mkX1_withRegister tw684 rfl rfl rfl rfl rfl rfl (fun _ w2 => ?_)
    refine xj_goto (tgt := 156) dX1_chooseLow_64 rfl ?_
    exact xj_rv dX1_chooseLow_156 rfl
  · refine xj_aloadn 1 dX1_chooseLow_67 rfl rfl ?_
    refine xj_gse (n := 18) 18 dX1_chooseLow_68 (Nat.le_of_ble_eq_true rfl) rfl tw702 ?_
    refine xj_iloadn 0 dX1_chooseLow_71 rfl rfl ?_
    refine xj_cVv (argv := [.ref (2000 + (18 : Int32).toNatClampNeg), .int (p1 &&& (7 : Int32))]) (rest := []) dX1_chooseLow_72 (kX1_withRegister (18 : Int32) (p1 &&& (7 : Int32)) w) mkX1_withRegister tw684 rfl rfl rfl rfl rfl rfl (fun _ w3 => ?_)
    refine xj_goto (tgt := 156) dX1_chooseLow_75 rfl ?_
    exact xj_rv dX1_chooseLow_156 rfl
  · refine xj_aloadn 1 dX1_chooseLow_78 rfl rfl ?_
    refine xj_gse (n := 42) 42 dX1_chooseLow_79 (Nat.le_of_ble_eq_true rfl) rfl tw704 ?_
    refine xj_iloadn 0 dX1_chooseLow_82 rfl rfl ?_
    refine xj_cVv (argv := [.ref (2000 + (42 : Int32).toNatClampNeg), .int (p1 &&& (7 : Int32))]) (rest := []) dX1_chooseLow_83 (kX1_withRegister (42 : Int32) (p1 &&& (7 : Int32)) w) mkX1_withRegister tw684 rfl rfl rfl rfl rfl rfl (fun _ w4 => ?_)
    refine xj_goto (tgt := 156) dX1_chooseLow_86 rfl ?_
    exact xj_rv dX1_chooseLow_156 rfl
  · refine xj_aloadn 1 dX1_chooseLow_89 rfl rfl ?_
    refine xj_gse (n := 43) 43 dX1_chooseLow_90 (Nat.le_of_ble_eq_true rfl) rfl tw706 ?_
    refine xj_iloadn 0 dX1_chooseLow_93 rfl rfl ?_
    refine xj_cVv (argv := [.ref (2000 + (43 : Int32).toNatClampNeg), .int (p1 &&& (7 : Int32))]) (rest := []) dX1_chooseLow_94 (kX1_withRegister (43 : Int32) (p1 &&& (7 : Int32)) w) mkX1_withRegister tw684 rfl rfl rfl rfl rfl rfl (fun _ w5 => ?_)
    refine xj_goto (tgt := 156) dX1_chooseLow_97 rfl ?_
    exact xj_rv dX1_chooseLow_156 rfl
  · refine xj_aloadn 1 dX1_chooseLow_100 rfl rfl ?_
    refine xj_iconst (v := 0) dX1_chooseLow_101 ci_0 ?_
    refine pfX1_38 dX1_chooseLow_102 rfl (Or.inl rfl) ?_
    refine xj_goto (tgt := 156) dX1_chooseLow_105 rfl ?_
    exact xj_rv dX1_chooseLow_156 rfl
  · refine xj_aloadn 1 dX1_chooseLow_108 rfl rfl ?_
    refine xj_iloadn 2 dX1_chooseLow_109 rfl rfl ?_
    refine xj_cVv (argv := [.int p1]) (rest := []) dX1_chooseLow_110 (kX1_choosePush p1 w) mkX1_choosePush tw708 rfl rfl rfl rfl rfl rfl (fun _ w6 => ?_)
    refine xj_goto (tgt := 156) dX1_chooseLow_113 rfl ?_
    exact xj_rv dX1_chooseLow_156 rfl
  · refine xj_sub (lv2 := [(0, .ref 3), (1, .int p1)]) [1, 2] rfl ?_
    exact tX1_chooseLow_j116 _ _
  · refine xj_sub (lv2 := [(0, .ref 3), (1, .int p1)]) [1, 2] rfl ?_
    exact tX1_chooseLow_j116 _ _
theorem kX1_chooseLow (p1 : Int32) (w : xW) : xMet jV mX1_chooseLow lC (0, 0) [.ref 3, .int p1] w (sX1_chooseLow p1 w) := xj_met lC_ok (by decide) (Nat.le_of_ble_eq_true rfl) (Nat.zero_le _) (Nat.zero_le _) (tX1_chooseLow p1 w)
set_option maxRecDepth 20000 in
def sX1_withDigit (p1 : Int32) (p2 : Int32) (p3 : Int32) (w : xW) : Option (Unit × xW) :=
  some ((), (xwi (xwi (xwi (xwi (xwi w 2 1 p2) 2 4 p3) 2 5 p3) 3 5 (1 : Int32)) 3 6 p1))
set_option maxRecDepth 20000 in
theorem tX1_withDigit (p1 : Int32) (p2 : Int32) (p3 : Int32) (w : xW) : xJ ιV mX1_withDigit lC (0, 0) 0 [(0, .ref 3), (1, .int p1), (2, .int p2), (3, .int p3)] [] w (sX1_withDigit p1 p2 p3 w) := by
  unfold sX1_withDigit
  refine xj_aloadn 0 dX1_withDigit_0 rfl rfl ?_
  refine gfX1_15 dX1_withDigit_1 rfl ?_
  refine xj_iloadn 2 dX1_withDigit_4 rfl rfl ?_
  refine pfX1_87 dX1_withDigit_5 rfl ?_
  refine xj_aloadn 0 dX1_withDigit_8 rfl rfl ?_
  refine gfX1_15 dX1_withDigit_9 rfl ?_
  refine xj_iloadn 3 dX1_withDigit_12 rfl rfl ?_
  refine pfX1_137 dX1_withDigit_13 rfl ?_
  refine xj_aloadn 0 dX1_withDigit_16 rfl rfl ?_
  refine gfX1_15 dX1_withDigit_17 rfl ?_
  refine xj_iloadn 3 dX1_withDigit_20 rfl rfl ?_
  refine pfX1_140 dX1_withDigit_21 rfl ?_
  refine xj_aloadn 0 dX1_withDigit_24 rfl rfl ?_
  refine xj_iconst (v := 1) dX1_withDigit_25 ci_1 ?_
  refine pfX1_41 dX1_withDigit_26 rfl (Or.inr rfl) ?_
  refine xj_aloadn 0 dX1_withDigit_29 rfl rfl ?_
  refine xj_iloadn 1 dX1_withDigit_30 rfl rfl ?_
  refine pfX1_44 dX1_withDigit_31 rfl ?_
  exact xj_rv dX1_withDigit_34 rfl
theorem kX1_withDigit (p1 : Int32) (p2 : Int32) (p3 : Int32) (w : xW) : xMet jV mX1_withDigit lC (0, 0) [.ref 3, .int p1, .int p2, .int p3] w (sX1_withDigit p1 p2 p3 w) := xj_met lC_ok (by decide) (Nat.le_of_ble_eq_true rfl) (Nat.zero_le _) (Nat.zero_le _) (tX1_withDigit p1 p2 p3 w)
set_option maxRecDepth 20000 in
def sX1_chooseGroup_j72 (a1 : Int32) (a2 : Int32) (w : xW) : Option (Unit × xW) :=
  xbd (sX1_withDigit (2 : Int32) (3 : Int32) a2 w) (fun _ w1 => (if a1 = (129 : Int32) then some ((), (xwi w1 3 7 (4 : Int32))) else some ((), (xwi w1 3 7 (1 : Int32)))))
set_option maxRecDepth 20000 in
theorem tX1_chooseGroup_j72 (a1 : Int32) (a2 : Int32) (w : xW) : xJ ιV mX1_chooseGroup lC (0, 0) 72 [(0, .ref 3), (1, .int a1), (2, .int a2)] [] w (sX1_chooseGroup_j72 a1 a2 w) := by
  unfold sX1_chooseGroup_j72
  refine xj_aloadn 0 dX1_chooseGroup_72 rfl rfl ?_
  refine xj_iconst (v := 2) dX1_chooseGroup_73 ci_2 ?_
  refine xj_iconst (v := 3) dX1_chooseGroup_74 ci_3 ?_
  refine xj_iloadn 2 dX1_chooseGroup_75 rfl rfl ?_
  refine xj_cVv (argv := [.int (2 : Int32), .int (3 : Int32), .int a2]) (rest := []) dX1_chooseGroup_76 (kX1_withDigit (2 : Int32) (3 : Int32) a2 w) mkX1_withDigit tw730 rfl rfl rfl rfl rfl rfl (fun _ w1 => ?_)
  refine xj_aloadn 0 dX1_chooseGroup_79 rfl rfl ?_
  refine xj_iloadn 1 dX1_chooseGroup_80 rfl rfl ?_
  refine xj_sipush (v := 129) dX1_chooseGroup_81 cs_129 ?_
  refine xj_ine (tgt := 91) dX1_chooseGroup_84 rfl ?_ ?_
  · refine xj_iconst (v := 4) dX1_chooseGroup_87 ci_4 ?_
    refine xj_goto (tgt := 92) dX1_chooseGroup_88 rfl ?_
    refine pfX1_47 dX1_chooseGroup_92 rfl ?_
    exact xj_rv dX1_chooseGroup_95 rfl
  · refine xj_iconst (v := 1) dX1_chooseGroup_91 ci_1 ?_
    refine pfX1_47 dX1_chooseGroup_92 rfl ?_
    exact xj_rv dX1_chooseGroup_95 rfl
set_option maxRecDepth 20000 in
def sX1_chooseGroup_j48 (a2 : Int32) (w : xW) : Option (Unit × xW) :=
  xbd (sX1_withE (16 : Int32) (1 : Int32) a2 w) (fun _ w1 => some ((), w1))
set_option maxRecDepth 20000 in
theorem tX1_chooseGroup_j48 (a2 : Int32) (w : xW) : xJ ιV mX1_chooseGroup lC (0, 0) 48 [(0, .ref 3), (2, .int a2)] [] w (sX1_chooseGroup_j48 a2 w) := by
  unfold sX1_chooseGroup_j48
  refine xj_aloadn 0 dX1_chooseGroup_48 rfl rfl ?_
  refine xj_gse (n := 16) 16 dX1_chooseGroup_49 (Nat.le_of_ble_eq_true rfl) rfl tw726 ?_
  refine xj_iconst (v := 1) dX1_chooseGroup_52 ci_1 ?_
  refine xj_iloadn 1 dX1_chooseGroup_53 rfl rfl ?_
  refine xj_cVv (argv := [.ref (2000 + (16 : Int32).toNatClampNeg), .int (1 : Int32), .int a2]) (rest := []) dX1_chooseGroup_54 (kX1_withE (16 : Int32) (1 : Int32) a2 w) mkX1_withE tw644 rfl rfl rfl rfl rfl rfl (fun _ w1 => ?_)
  refine xj_goto (tgt := 95) dX1_chooseGroup_57 rfl ?_
  exact xj_rv dX1_chooseGroup_95 rfl
set_option maxRecDepth 20000 in
def sX1_chooseGroup_j60 (a2 : Int32) (w : xW) : Option (Unit × xW) :=
  xbd (sX1_withE (39 : Int32) (1 : Int32) a2 w) (fun _ w1 => some ((), w1))
set_option maxRecDepth 20000 in
theorem tX1_chooseGroup_j60 (a2 : Int32) (w : xW) : xJ ιV mX1_chooseGroup lC (0, 0) 60 [(0, .ref 3), (2, .int a2)] [] w (sX1_chooseGroup_j60 a2 w) := by
  unfold sX1_chooseGroup_j60
  refine xj_aloadn 0 dX1_chooseGroup_60 rfl rfl ?_
  refine xj_gse (n := 39) 39 dX1_chooseGroup_61 (Nat.le_of_ble_eq_true rfl) rfl tw728 ?_
  refine xj_iconst (v := 1) dX1_chooseGroup_64 ci_1 ?_
  refine xj_iloadn 1 dX1_chooseGroup_65 rfl rfl ?_
  refine xj_cVv (argv := [.ref (2000 + (39 : Int32).toNatClampNeg), .int (1 : Int32), .int a2]) (rest := []) dX1_chooseGroup_66 (kX1_withE (39 : Int32) (1 : Int32) a2 w) mkX1_withE tw644 rfl rfl rfl rfl rfl rfl (fun _ w1 => ?_)
  refine xj_goto (tgt := 95) dX1_chooseGroup_69 rfl ?_
  exact xj_rv dX1_chooseGroup_95 rfl
set_option maxRecDepth 20000 in
def sX1_chooseGroup (p1 : Int32) (p2 : Int32) (w : xW) : Option (Unit × xW) :=
  xsw p1 (130) [some ((), (xwi w 3 4 (0 : Int32))), sX1_chooseGroup_j72 p1 p2 w, sX1_chooseGroup_j48 p2 w, sX1_chooseGroup_j48 p2 w, sX1_chooseGroup_j60 p2 w, sX1_chooseGroup_j60 p2 w] (sX1_chooseGroup_j72 p1 p2 w)
set_option maxRecDepth 20000 in
theorem tX1_chooseGroup (p1 : Int32) (p2 : Int32) (w : xW) : xJ ιV mX1_chooseGroup lC (0, 0) 0 [(0, .ref 3), (1, .int p1), (2, .int p2)] [] w (sX1_chooseGroup p1 p2 w) := by
  unfold sX1_chooseGroup
  refine xj_iloadn 1 dX1_chooseGroup_0 rfl rfl ?_
  refine xj_tsw (tgtd := 72) [40, 72, 48, 48, 60, 60] dX1_chooseGroup_1 rfl rfl rfl rfl ?_ ⟨?_, ?_, ?_, ?_, ?_, ?_, trivial⟩
  · exact tX1_chooseGroup_j72 _ _ _
  · refine xj_aloadn 0 dX1_chooseGroup_40 rfl rfl ?_
    refine xj_iconst (v := 0) dX1_chooseGroup_41 ci_0 ?_
    refine pfX1_38 dX1_chooseGroup_42 rfl (Or.inl rfl) ?_
    refine xj_goto (tgt := 95) dX1_chooseGroup_45 rfl ?_
    exact xj_rv dX1_chooseGroup_95 rfl
  · exact tX1_chooseGroup_j72 _ _ _
  · refine xj_sub (lv2 := [(0, .ref 3), (2, .int p2)]) [0, 2] rfl ?_
    exact tX1_chooseGroup_j48 _ _
  · refine xj_sub (lv2 := [(0, .ref 3), (2, .int p2)]) [0, 2] rfl ?_
    exact tX1_chooseGroup_j48 _ _
  · refine xj_sub (lv2 := [(0, .ref 3), (2, .int p2)]) [0, 2] rfl ?_
    exact tX1_chooseGroup_j60 _ _
  · refine xj_sub (lv2 := [(0, .ref 3), (2, .int p2)]) [0, 2] rfl ?_
    exact tX1_chooseGroup_j60 _ _
theorem kX1_chooseGroup (p1 : Int32) (p2 : Int32) (w : xW) : xMet jV mX1_chooseGroup lC (0, 0) [.ref 3, .int p1, .int p2] w (sX1_chooseGroup p1 p2 w) := xj_met lC_ok (by decide) (Nat.le_of_ble_eq_true rfl) (Nat.zero_le _) (Nat.zero_le _) (tX1_chooseGroup p1 p2 w)
set_option maxRecDepth 20000 in
def sX1_chooseMove_j48 (a2 : Int32) (w : xW) : Option (Unit × xW) :=
  xbd (sX1_withE (28 : Int32) (1 : Int32) a2 w) (fun _ w1 => some ((), w1))
set_option maxRecDepth 20000 in
theorem tX1_chooseMove_j48 (a2 : Int32) (w : xW) : xJ ιV mX1_chooseMove lC (0, 0) 48 [(0, .ref 3), (2, .int a2)] [] w (sX1_chooseMove_j48 a2 w) := by
  unfold sX1_chooseMove_j48
  refine xj_aloadn 0 dX1_chooseMove_48 rfl rfl ?_
  refine xj_gse (n := 28) 28 dX1_chooseMove_49 (Nat.le_of_ble_eq_true rfl) rfl tw694 ?_
  refine xj_iconst (v := 1) dX1_chooseMove_52 ci_1 ?_
  refine xj_iloadn 1 dX1_chooseMove_53 rfl rfl ?_
  refine xj_cVv (argv := [.ref (2000 + (28 : Int32).toNatClampNeg), .int (1 : Int32), .int a2]) (rest := []) dX1_chooseMove_54 (kX1_withE (28 : Int32) (1 : Int32) a2 w) mkX1_withE tw644 rfl rfl rfl rfl rfl rfl (fun _ w1 => ?_)
  refine xj_goto (tgt := 112) dX1_chooseMove_57 rfl ?_
  exact xj_rv dX1_chooseMove_112 rfl
set_option maxRecDepth 20000 in
def sX1_chooseMove_j60 (a2 : Int32) (w : xW) : Option (Unit × xW) :=
  xbd (sX1_withE (28 : Int32) (2 : Int32) a2 w) (fun _ w1 => some ((), w1))
set_option maxRecDepth 20000 in
theorem tX1_chooseMove_j60 (a2 : Int32) (w : xW) : xJ ιV mX1_chooseMove lC (0, 0) 60 [(0, .ref 3), (2, .int a2)] [] w (sX1_chooseMove_j60 a2 w) := by
  unfold sX1_chooseMove_j60
  refine xj_aloadn 0 dX1_chooseMove_60 rfl rfl ?_
  refine xj_gse (n := 28) 28 dX1_chooseMove_61 (Nat.le_of_ble_eq_true rfl) rfl tw694 ?_
  refine xj_iconst (v := 2) dX1_chooseMove_64 ci_2 ?_
  refine xj_iloadn 1 dX1_chooseMove_65 rfl rfl ?_
  refine xj_cVv (argv := [.ref (2000 + (28 : Int32).toNatClampNeg), .int (2 : Int32), .int a2]) (rest := []) dX1_chooseMove_66 (kX1_withE (28 : Int32) (2 : Int32) a2 w) mkX1_withE tw644 rfl rfl rfl rfl rfl rfl (fun _ w1 => ?_)
  refine xj_goto (tgt := 112) dX1_chooseMove_69 rfl ?_
  exact xj_rv dX1_chooseMove_112 rfl
set_option maxRecDepth 20000 in
def sX1_chooseMove (p1 : Int32) (p2 : Int32) (w : xW) : Option (Unit × xW) :=
  xsw p1 (136) [sX1_chooseMove_j48 p2 w, sX1_chooseMove_j48 p2 w, sX1_chooseMove_j60 p2 w, sX1_chooseMove_j60 p2 w, some ((), (xwi w 3 4 (0 : Int32))), xbd (sX1_withE (31 : Int32) (2 : Int32) (4 : Int32) w) (fun _ w1 => some ((), (xwi w1 3 6 (6 : Int32)))), some ((), (xwi w 3 4 (0 : Int32))), xbd (sX1_withE (43 : Int32) (5 : Int32) (4 : Int32) w) (fun _ w2 => some ((), (xwi w2 3 6 (1 : Int32))))] (some ((), (xwi w 3 4 (0 : Int32))))
set_option maxRecDepth 20000 in
theorem tX1_chooseMove (p1 : Int32) (p2 : Int32) (w : xW) : xJ ιV mX1_chooseMove lC (0, 0) 0 [(0, .ref 3), (1, .int p1), (2, .int p2)] [] w (sX1_chooseMove p1 p2 w) := by
  unfold sX1_chooseMove
  refine xj_iloadn 1 dX1_chooseMove_0 rfl rfl ?_
  refine xj_tsw (tgtd := 107) [48, 48, 60, 60, 107, 72, 107, 90] dX1_chooseMove_1 rfl rfl rfl rfl ?_ ⟨?_, ?_, ?_, ?_, ?_, ?_, ?_, ?_, trivial⟩
  · refine xj_aloadn 0 dX1_chooseMove_107 rfl rfl ?_
    refine xj_iconst (v := 0) dX1_chooseMove_108 ci_0 ?_
    refine pfX1_38 dX1_chooseMove_109 rfl (Or.inl rfl) ?_
    exact xj_rv dX1_chooseMove_112 rfl
  · refine xj_sub (lv2 := [(0, .ref 3), (2, .int p2)]) [0, 2] rfl ?_
    exact tX1_chooseMove_j48 _ _
  · refine xj_sub (lv2 := [(0, .ref 3), (2, .int p2)]) [0, 2] rfl ?_
    exact tX1_chooseMove_j48 _ _
  · refine xj_sub (lv2 := [(0, .ref 3), (2, .int p2)]) [0, 2] rfl ?_
    exact tX1_chooseMove_j60 _ _
  · refine xj_sub (lv2 := [(0, .ref 3), (2, .int p2)]) [0, 2] rfl ?_
    exact tX1_chooseMove_j60 _ _
  · refine xj_aloadn 0 dX1_chooseMove_107 rfl rfl ?_
    refine xj_iconst (v := 0) dX1_chooseMove_108 ci_0 ?_
    refine pfX1_38 dX1_chooseMove_109 rfl (Or.inl rfl) ?_
    exact xj_rv dX1_chooseMove_112 rfl
  · refine xj_aloadn 0 dX1_chooseMove_72 rfl rfl ?_
    refine xj_gse (n := 31) 31 dX1_chooseMove_73 (Nat.le_of_ble_eq_true rfl) rfl tw738 ?_
    refine xj_iconst (v := 2) dX1_chooseMove_76 ci_2 ?_
    refine xj_iconst (v := 4) dX1_chooseMove_77 ci_4 ?_
    refine xj_cVv (argv := [.ref (2000 + (31 : Int32).toNatClampNeg), .int (2 : Int32), .int (4 : Int32)]) (rest := []) dX1_chooseMove_78 (kX1_withE (31 : Int32) (2 : Int32) (4 : Int32) w) mkX1_withE tw644 rfl rfl rfl rfl rfl rfl (fun _ w1 => ?_)
    refine xj_aloadn 0 dX1_chooseMove_81 rfl rfl ?_
    refine xj_bipush (v := 6) dX1_chooseMove_82 cb_6 ?_
    refine pfX1_44 dX1_chooseMove_84 rfl ?_
    refine xj_goto (tgt := 112) dX1_chooseMove_87 rfl ?_
    exact xj_rv dX1_chooseMove_112 rfl
  · refine xj_aloadn 0 dX1_chooseMove_107 rfl rfl ?_
    refine xj_iconst (v := 0) dX1_chooseMove_108 ci_0 ?_
    refine pfX1_38 dX1_chooseMove_109 rfl (Or.inl rfl) ?_
    exact xj_rv dX1_chooseMove_112 rfl
  · refine xj_aloadn 0 dX1_chooseMove_90 rfl rfl ?_
    refine xj_gse (n := 43) 43 dX1_chooseMove_91 (Nat.le_of_ble_eq_true rfl) rfl tw706 ?_
    refine xj_iconst (v := 5) dX1_chooseMove_94 ci_5 ?_
    refine xj_iconst (v := 4) dX1_chooseMove_95 ci_4 ?_
    refine xj_cVv (argv := [.ref (2000 + (43 : Int32).toNatClampNeg), .int (5 : Int32), .int (4 : Int32)]) (rest := []) dX1_chooseMove_96 (kX1_withE (43 : Int32) (5 : Int32) (4 : Int32) w) mkX1_withE tw644 rfl rfl rfl rfl rfl rfl (fun _ w2 => ?_)
    refine xj_aloadn 0 dX1_chooseMove_99 rfl rfl ?_
    refine xj_iconst (v := 1) dX1_chooseMove_100 ci_1 ?_
    refine pfX1_44 dX1_chooseMove_101 rfl ?_
    refine xj_goto (tgt := 112) dX1_chooseMove_104 rfl ?_
    exact xj_rv dX1_chooseMove_112 rfl
theorem kX1_chooseMove (p1 : Int32) (p2 : Int32) (w : xW) : xMet jV mX1_chooseMove lC (0, 0) [.ref 3, .int p1, .int p2] w (sX1_chooseMove p1 p2 w) := xj_met lC_ok (by decide) (Nat.le_of_ble_eq_true rfl) (Nat.zero_le _) (Nat.zero_le _) (tX1_chooseMove p1 p2 w)
set_option maxRecDepth 20000 in
def sX1_chooseXchg_j23 (a1 : Int32) (b0 : Int32) (b1 : Int32) (w : xW) : Option (Unit × xW) :=
  xbd (sX1_plain b1 b0 (4 : Int32) (0 : Int32) w) (fun _ w1 => some ((), (xwi w1 2 8 a1)))
set_option maxRecDepth 20000 in
theorem tX1_chooseXchg_j23 (a1 : Int32) (b0 : Int32) (b1 : Int32) (w : xW) : xJ ιV mX1_chooseXchg lC (0, 0) 23 [(0, .ref 3), (1, .int a1)] [.int b0, .ref (2000 + b1.toNatClampNeg), .ref 3] w (sX1_chooseXchg_j23 a1 b0 b1 w) := by
  unfold sX1_chooseXchg_j23
  refine xj_iconst (v := 4) dX1_chooseXchg_23 ci_4 ?_
  refine xj_iconst (v := 0) dX1_chooseXchg_24 ci_0 ?_
  refine xj_cVv (argv := [.ref (2000 + b1.toNatClampNeg), .int b0, .int (4 : Int32), .int (0 : Int32)]) (rest := []) dX1_chooseXchg_25 (kX1_plain b1 b0 (4 : Int32) (0 : Int32) w) mkX1_plain tw652 rfl rfl rfl rfl rfl rfl (fun _ w1 => ?_)
  refine xj_aloadn 0 dX1_chooseXchg_28 rfl rfl ?_
  refine gfX1_15 dX1_chooseXchg_29 rfl ?_
  refine xj_iloadn 1 dX1_chooseXchg_32 rfl rfl ?_
  refine pfX1_97 dX1_chooseXchg_33 rfl ?_
  exact xj_rv dX1_chooseXchg_36 rfl
set_option maxRecDepth 20000 in
def sX1_chooseXchg_j14 (a1 : Int32) (b0 : Int32) (w : xW) : Option (Unit × xW) :=
  (if a1 = 0 then sX1_chooseXchg_j23 a1 (0 : Int32) b0 w else sX1_chooseXchg_j23 a1 (1 : Int32) b0 w)
set_option maxRecDepth 20000 in
theorem tX1_chooseXchg_j14 (a1 : Int32) (b0 : Int32) (w : xW) : xJ ιV mX1_chooseXchg lC (0, 0) 14 [(0, .ref 3), (1, .int a1)] [.ref (2000 + b0.toNatClampNeg), .ref 3] w (sX1_chooseXchg_j14 a1 b0 w) := by
  unfold sX1_chooseXchg_j14
  refine xj_iloadn 1 dX1_chooseXchg_14 rfl rfl ?_
  refine xj_ifne (tgt := 22) dX1_chooseXchg_15 rfl ?_ ?_
  · refine xj_iconst (v := 0) dX1_chooseXchg_18 ci_0 ?_
    refine xj_goto (tgt := 23) dX1_chooseXchg_19 rfl ?_
    exact tX1_chooseXchg_j23 _ _ _ _
  · refine xj_iconst (v := 1) dX1_chooseXchg_22 ci_1 ?_
    exact tX1_chooseXchg_j23 _ _ _ _
set_option maxRecDepth 20000 in
def sX1_chooseXchg (p1 : Int32) (w : xW) : Option (Unit × xW) :=
  (if p1 = 0 then sX1_chooseXchg_j14 p1 (50 : Int32) w else sX1_chooseXchg_j14 p1 (39 : Int32) w)
set_option maxRecDepth 20000 in
theorem tX1_chooseXchg (p1 : Int32) (w : xW) : xJ ιV mX1_chooseXchg lC (0, 0) 0 [(0, .ref 3), (1, .int p1)] [] w (sX1_chooseXchg p1 w) := by
  unfold sX1_chooseXchg
  refine xj_aloadn 0 dX1_chooseXchg_0 rfl rfl ?_
  refine xj_iloadn 1 dX1_chooseXchg_1 rfl rfl ?_
  refine xj_ifne (tgt := 11) dX1_chooseXchg_2 rfl ?_ ?_
  · refine xj_gse (n := 50) 50 dX1_chooseXchg_5 (Nat.le_of_ble_eq_true rfl) rfl tw643 ?_
    refine xj_goto (tgt := 14) dX1_chooseXchg_8 rfl ?_
    exact tX1_chooseXchg_j14 _ _ _
  · refine xj_gse (n := 39) 39 dX1_chooseXchg_11 (Nat.le_of_ble_eq_true rfl) rfl tw728 ?_
    exact tX1_chooseXchg_j14 _ _ _
theorem kX1_chooseXchg (p1 : Int32) (w : xW) : xMet jV mX1_chooseXchg lC (0, 0) [.ref 3, .int p1] w (sX1_chooseXchg p1 w) := xj_met lC_ok (by decide) (Nat.le_of_ble_eq_true rfl) (Nat.zero_le _) (Nat.zero_le _) (tX1_chooseXchg p1 w)
set_option maxRecDepth 20000 in
def sX1_chooseShiftOrMove_j36 (a2 : Int32) (w : xW) : Option (Unit × xW) :=
  xbd (sX1_withE (28 : Int32) (3 : Int32) a2 w) (fun _ w1 => some ((), (xwi (xwi w1 3 6 (1 : Int32)) 3 7 a2)))
set_option maxRecDepth 20000 in
theorem tX1_chooseShiftOrMove_j36 (a2 : Int32) (w : xW) : xJ ιV mX1_chooseShiftOrMove lC (0, 0) 36 [(0, .ref 3), (2, .int a2)] [] w (sX1_chooseShiftOrMove_j36 a2 w) := by
  unfold sX1_chooseShiftOrMove_j36
  refine xj_aloadn 0 dX1_chooseShiftOrMove_36 rfl rfl ?_
  refine xj_gse (n := 28) 28 dX1_chooseShiftOrMove_37 (Nat.le_of_ble_eq_true rfl) rfl tw694 ?_
  refine xj_iconst (v := 3) dX1_chooseShiftOrMove_40 ci_3 ?_
  refine xj_iloadn 1 dX1_chooseShiftOrMove_41 rfl rfl ?_
  refine xj_cVv (argv := [.ref (2000 + (28 : Int32).toNatClampNeg), .int (3 : Int32), .int a2]) (rest := []) dX1_chooseShiftOrMove_42 (kX1_withE (28 : Int32) (3 : Int32) a2 w) mkX1_withE tw644 rfl rfl rfl rfl rfl rfl (fun _ w1 => ?_)
  refine xj_aloadn 0 dX1_chooseShiftOrMove_45 rfl rfl ?_
  refine xj_iconst (v := 1) dX1_chooseShiftOrMove_46 ci_1 ?_
  refine pfX1_44 dX1_chooseShiftOrMove_47 rfl ?_
  refine xj_aloadn 0 dX1_chooseShiftOrMove_50 rfl rfl ?_
  refine xj_iloadn 1 dX1_chooseShiftOrMove_51 rfl rfl ?_
  refine pfX1_47 dX1_chooseShiftOrMove_52 rfl ?_
  refine xj_goto (tgt := 63) dX1_chooseShiftOrMove_55 rfl ?_
  exact xj_rv dX1_chooseShiftOrMove_63 rfl
set_option maxRecDepth 20000 in
def sX1_chooseShiftOrMove (p1 : Int32) (p2 : Int32) (w : xW) : Option (Unit × xW) :=
  (if p1 < (194 : Int32) then xbd (sX1_withDigit (3 : Int32) (3 : Int32) p2 w) (fun _ w1 => some ((), (xwi w1 3 7 (1 : Int32)))) else (if p1 = (198 : Int32) then sX1_chooseShiftOrMove_j36 p2 w else (if p1 = (199 : Int32) then sX1_chooseShiftOrMove_j36 p2 w else some ((), (xwi w 3 4 (0 : Int32))))))
set_option maxRecDepth 20000 in
theorem tX1_chooseShiftOrMove (p1 : Int32) (p2 : Int32) (w : xW) : xJ ιV mX1_chooseShiftOrMove lC (0, 0) 0 [(0, .ref 3), (1, .int p1), (2, .int p2)] [] w (sX1_chooseShiftOrMove p1 p2 w) := by
  unfold sX1_chooseShiftOrMove
  refine xj_iloadn 1 dX1_chooseShiftOrMove_0 rfl rfl ?_
  refine xj_sipush (v := 194) dX1_chooseShiftOrMove_1 cs_194 ?_
  refine xj_ige (tgt := 22) dX1_chooseShiftOrMove_4 rfl ?_ ?_
  · refine xj_aloadn 0 dX1_chooseShiftOrMove_7 rfl rfl ?_
    refine xj_iconst (v := 3) dX1_chooseShiftOrMove_8 ci_3 ?_
    refine xj_iconst (v := 3) dX1_chooseShiftOrMove_9 ci_3 ?_
    refine xj_iloadn 2 dX1_chooseShiftOrMove_10 rfl rfl ?_
    refine xj_cVv (argv := [.int (3 : Int32), .int (3 : Int32), .int p2]) (rest := []) dX1_chooseShiftOrMove_11 (kX1_withDigit (3 : Int32) (3 : Int32) p2 w) mkX1_withDigit tw730 rfl rfl rfl rfl rfl rfl (fun _ w1 => ?_)
    refine xj_aloadn 0 dX1_chooseShiftOrMove_14 rfl rfl ?_
    refine xj_iconst (v := 1) dX1_chooseShiftOrMove_15 ci_1 ?_
    refine pfX1_47 dX1_chooseShiftOrMove_16 rfl ?_
    refine xj_goto (tgt := 63) dX1_chooseShiftOrMove_19 rfl ?_
    exact xj_rv dX1_chooseShiftOrMove_63 rfl
  · refine xj_iloadn 1 dX1_chooseShiftOrMove_22 rfl rfl ?_
    refine xj_sipush (v := 198) dX1_chooseShiftOrMove_23 cs_198 ?_
    refine xj_ieq (tgt := 36) dX1_chooseShiftOrMove_26 rfl ?_ ?_
    · refine xj_sub (lv2 := [(0, .ref 3), (2, .int p2)]) [0, 2] rfl ?_
      exact tX1_chooseShiftOrMove_j36 _ _
    · refine xj_iloadn 1 dX1_chooseShiftOrMove_29 rfl rfl ?_
      refine xj_sipush (v := 199) dX1_chooseShiftOrMove_30 cs_199 ?_
      refine xj_ine (tgt := 58) dX1_chooseShiftOrMove_33 rfl ?_ ?_
      · refine xj_sub (lv2 := [(0, .ref 3), (2, .int p2)]) [0, 2] rfl ?_
        exact tX1_chooseShiftOrMove_j36 _ _
      · refine xj_aloadn 0 dX1_chooseShiftOrMove_58 rfl rfl ?_
        refine xj_iconst (v := 0) dX1_chooseShiftOrMove_59 ci_0 ?_
        refine pfX1_38 dX1_chooseShiftOrMove_60 rfl (Or.inl rfl) ?_
        exact xj_rv dX1_chooseShiftOrMove_63 rfl
theorem kX1_chooseShiftOrMove (p1 : Int32) (p2 : Int32) (w : xW) : xMet jV mX1_chooseShiftOrMove lC (0, 0) [.ref 3, .int p1, .int p2] w (sX1_chooseShiftOrMove p1 p2 w) := xj_met lC_ok (by decide) (Nat.le_of_ble_eq_true rfl) (Nat.zero_le _) (Nat.zero_le _) (tX1_chooseShiftOrMove p1 p2 w)
set_option maxRecDepth 20000 in
def sX1_chooseJump (p1 : Int32) (w : xW) : Option (Unit × xW) :=
  xsw p1 (226) [xbd (sX1_plain (47 : Int32) (9 : Int32) (4 : Int32) (1 : Int32) w) (fun _ w1 => some ((), w1)), xbd (sX1_plain (48 : Int32) (9 : Int32) (4 : Int32) (1 : Int32) w) (fun _ w2 => some ((), w2)), some ((), (xwi w 3 4 (0 : Int32))), some ((), (xwi w 3 4 (0 : Int32))), some ((), (xwi w 3 4 (0 : Int32))), some ((), (xwi w 3 4 (0 : Int32))), xbd (sX1_plain (44 : Int32) (9 : Int32) (4 : Int32) (4 : Int32) w) (fun _ w3 => some ((), w3)), xbd (sX1_plain (45 : Int32) (9 : Int32) (4 : Int32) (4 : Int32) w) (fun _ w4 => some ((), w4)), some ((), (xwi w 3 4 (0 : Int32))), xbd (sX1_plain (45 : Int32) (9 : Int32) (4 : Int32) (1 : Int32) w) (fun _ w5 => some ((), w5))] (some ((), (xwi w 3 4 (0 : Int32))))
set_option maxRecDepth 20000 in
theorem tX1_chooseJump (p1 : Int32) (w : xW) : xJ ιV mX1_chooseJump lC (0, 0) 0 [(0, .ref 3), (1, .int p1)] [] w (sX1_chooseJump p1 w) := by
  unfold sX1_chooseJump
  refine xj_iloadn 1 dX1_chooseJump_0 rfl rfl ?_
  refine xj_tsw (tgtd := 126) [56, 70, 126, 126, 126, 126, 84, 98, 126, 112] dX1_chooseJump_1 rfl rfl rfl rfl ?_ ⟨?_, ?_, ?_, ?_, ?_, ?_, ?_, ?_, ?_, ?_, trivial⟩
  · refine xj_aloadn 0 dX1_chooseJump_126 rfl rfl ?_
    refine xj_iconst (v := 0) dX1_chooseJump_127 ci_0 ?_
    refine pfX1_38 dX1_chooseJump_128 rfl (Or.inl rfl) ?_
    exact xj_rv dX1_chooseJump_131 rfl
  · refine xj_aloadn 0 dX1_chooseJump_56 rfl rfl ?_
    refine xj_gse (n := 47) 47 dX1_chooseJump_57 (Nat.le_of_ble_eq_true rfl) rfl tw756 ?_
    refine xj_bipush (v := 9) dX1_chooseJump_60 cb_9 ?_
    refine xj_iconst (v := 4) dX1_chooseJump_62 ci_4 ?_
    refine xj_iconst (v := 1) dX1_chooseJump_63 ci_1 ?_
    refine xj_cVv (argv := [.ref (2000 + (47 : Int32).toNatClampNeg), .int (9 : Int32), .int (4 : Int32), .int (1 : Int32)]) (rest := []) dX1_chooseJump_64 (kX1_plain (47 : Int32) (9 : Int32) (4 : Int32) (1 : Int32) w) mkX1_plain tw652 rfl rfl rfl rfl rfl rfl (fun _ w1 => ?_)
    refine xj_goto (tgt := 131) dX1_chooseJump_67 rfl ?_
    exact xj_rv dX1_chooseJump_131 rfl
  · refine xj_aloadn 0 dX1_chooseJump_70 rfl rfl ?_
    refine xj_gse (n := 48) 48 dX1_chooseJump_71 (Nat.le_of_ble_eq_true rfl) rfl tw758 ?_
    refine xj_bipush (v := 9) dX1_chooseJump_74 cb_9 ?_
    refine xj_iconst (v := 4) dX1_chooseJump_76 ci_4 ?_
    refine xj_iconst (v := 1) dX1_chooseJump_77 ci_1 ?_
    refine xj_cVv (argv := [.ref (2000 + (48 : Int32).toNatClampNeg), .int (9 : Int32), .int (4 : Int32), .int (1 : Int32)]) (rest := []) dX1_chooseJump_78 (kX1_plain (48 : Int32) (9 : Int32) (4 : Int32) (1 : Int32) w) mkX1_plain tw652 rfl rfl rfl rfl rfl rfl (fun _ w2 => ?_)
    refine xj_goto (tgt := 131) dX1_chooseJump_81 rfl ?_
    exact xj_rv dX1_chooseJump_131 rfl
  · refine xj_aloadn 0 dX1_chooseJump_126 rfl rfl ?_
    refine xj_iconst (v := 0) dX1_chooseJump_127 ci_0 ?_
    refine pfX1_38 dX1_chooseJump_128 rfl (Or.inl rfl) ?_
    exact xj_rv dX1_chooseJump_131 rfl
  · refine xj_aloadn 0 dX1_chooseJump_126 rfl rfl ?_
    refine xj_iconst (v := 0) dX1_chooseJump_127 ci_0 ?_
    refine pfX1_38 dX1_chooseJump_128 rfl (Or.inl rfl) ?_
    exact xj_rv dX1_chooseJump_131 rfl
  · refine xj_aloadn 0 dX1_chooseJump_126 rfl rfl ?_
    refine xj_iconst (v := 0) dX1_chooseJump_127 ci_0 ?_
    refine pfX1_38 dX1_chooseJump_128 rfl (Or.inl rfl) ?_
    exact xj_rv dX1_chooseJump_131 rfl
  · refine xj_aloadn 0 dX1_chooseJump_126 rfl rfl ?_
    refine xj_iconst (v := 0) dX1_chooseJump_127 ci_0 ?_
    refine pfX1_38 dX1_chooseJump_128 rfl (Or.inl rfl) ?_
    exact xj_rv dX1_chooseJump_131 rfl
  · refine xj_aloadn 0 dX1_chooseJump_84 rfl rfl ?_
    refine xj_gse (n := 44) 44 dX1_chooseJump_85 (Nat.le_of_ble_eq_true rfl) rfl tw760 ?_
    refine xj_bipush (v := 9) dX1_chooseJump_88 cb_9 ?_
    refine xj_iconst (v := 4) dX1_chooseJump_90 ci_4 ?_
    refine xj_iconst (v := 4) dX1_chooseJump_91 ci_4 ?_
    refine xj_cVv (argv := [.ref (2000 + (44 : Int32).toNatClampNeg), .int (9 : Int32), .int (4 : Int32), .int (4 : Int32)]) (rest := []) dX1_chooseJump_92 (kX1_plain (44 : Int32) (9 : Int32) (4 : Int32) (4 : Int32) w) mkX1_plain tw652 rfl rfl rfl rfl rfl rfl (fun _ w3 => ?_)
    refine xj_goto (tgt := 131) dX1_chooseJump_95 rfl ?_
    exact xj_rv dX1_chooseJump_131 rfl
  · refine xj_aloadn 0 dX1_chooseJump_98 rfl rfl ?_
    refine xj_gse (n := 45) 45 dX1_chooseJump_99 (Nat.le_of_ble_eq_true rfl) rfl tw762 ?_
    refine xj_bipush (v := 9) dX1_chooseJump_102 cb_9 ?_
    refine xj_iconst (v := 4) dX1_chooseJump_104 ci_4 ?_
    refine xj_iconst (v := 4) dX1_chooseJump_105 ci_4 ?_
    refine xj_cVv (argv := [.ref (2000 + (45 : Int32).toNatClampNeg), .int (9 : Int32), .int (4 : Int32), .int (4 : Int32)]) (rest := []) dX1_chooseJump_106 (kX1_plain (45 : Int32) (9 : Int32) (4 : Int32) (4 : Int32) w) mkX1_plain tw652 rfl rfl rfl rfl rfl rfl (fun _ w4 => ?_)
    refine xj_goto (tgt := 131) dX1_chooseJump_109 rfl ?_
    exact xj_rv dX1_chooseJump_131 rfl
  · refine xj_aloadn 0 dX1_chooseJump_126 rfl rfl ?_
    refine xj_iconst (v := 0) dX1_chooseJump_127 ci_0 ?_
    refine pfX1_38 dX1_chooseJump_128 rfl (Or.inl rfl) ?_
    exact xj_rv dX1_chooseJump_131 rfl
  · refine xj_aloadn 0 dX1_chooseJump_112 rfl rfl ?_
    refine xj_gse (n := 45) 45 dX1_chooseJump_113 (Nat.le_of_ble_eq_true rfl) rfl tw762 ?_
    refine xj_bipush (v := 9) dX1_chooseJump_116 cb_9 ?_
    refine xj_iconst (v := 4) dX1_chooseJump_118 ci_4 ?_
    refine xj_iconst (v := 1) dX1_chooseJump_119 ci_1 ?_
    refine xj_cVv (argv := [.ref (2000 + (45 : Int32).toNatClampNeg), .int (9 : Int32), .int (4 : Int32), .int (1 : Int32)]) (rest := []) dX1_chooseJump_120 (kX1_plain (45 : Int32) (9 : Int32) (4 : Int32) (1 : Int32) w) mkX1_plain tw652 rfl rfl rfl rfl rfl rfl (fun _ w5 => ?_)
    refine xj_goto (tgt := 131) dX1_chooseJump_123 rfl ?_
    exact xj_rv dX1_chooseJump_131 rfl
theorem kX1_chooseJump (p1 : Int32) (w : xW) : xMet jV mX1_chooseJump lC (0, 0) [.ref 3, .int p1] w (sX1_chooseJump p1 w) := xj_met lC_ok (by decide) (Nat.le_of_ble_eq_true rfl) (Nat.zero_le _) (Nat.zero_le _) (tX1_chooseJump p1 w)
set_option maxRecDepth 20000 in
def sX1_chooseLast_j90 (a2 : Int32) (w : xW) : Option (Unit × xW) :=
  xbd (sX1_withDigit (4 : Int32) (5 : Int32) a2 w) (fun _ w1 => some ((), w1))
set_option maxRecDepth 20000 in
theorem tX1_chooseLast_j90 (a2 : Int32) (w : xW) : xJ ιV mX1_chooseLast lC (0, 0) 90 [(0, .ref 3), (2, .int a2)] [] w (sX1_chooseLast_j90 a2 w) := by
  unfold sX1_chooseLast_j90
  refine xj_aloadn 0 dX1_chooseLast_90 rfl rfl ?_
  refine xj_iconst (v := 4) dX1_chooseLast_91 ci_4 ?_
  refine xj_iconst (v := 5) dX1_chooseLast_92 ci_5 ?_
  refine xj_iloadn 1 dX1_chooseLast_93 rfl rfl ?_
  refine xj_cVv (argv := [.int (4 : Int32), .int (5 : Int32), .int a2]) (rest := []) dX1_chooseLast_94 (kX1_withDigit (4 : Int32) (5 : Int32) a2 w) mkX1_withDigit tw730 rfl rfl rfl rfl rfl rfl (fun _ w1 => ?_)
  refine xj_goto (tgt := 141) dX1_chooseLast_97 rfl ?_
  exact xj_rv dX1_chooseLast_141 rfl
set_option maxRecDepth 20000 in
def sX1_chooseLast_j126 (a2 : Int32) (w : xW) : Option (Unit × xW) :=
  xbd (sX1_withDigit (5 : Int32) (5 : Int32) a2 w) (fun _ w1 => some ((), w1))
set_option maxRecDepth 20000 in
theorem tX1_chooseLast_j126 (a2 : Int32) (w : xW) : xJ ιV mX1_chooseLast lC (0, 0) 126 [(0, .ref 3), (2, .int a2)] [] w (sX1_chooseLast_j126 a2 w) := by
  unfold sX1_chooseLast_j126
  refine xj_aloadn 0 dX1_chooseLast_126 rfl rfl ?_
  refine xj_iconst (v := 5) dX1_chooseLast_127 ci_5 ?_
  refine xj_iconst (v := 5) dX1_chooseLast_128 ci_5 ?_
  refine xj_iloadn 1 dX1_chooseLast_129 rfl rfl ?_
  refine xj_cVv (argv := [.int (5 : Int32), .int (5 : Int32), .int a2]) (rest := []) dX1_chooseLast_130 (kX1_withDigit (5 : Int32) (5 : Int32) a2 w) mkX1_withDigit tw730 rfl rfl rfl rfl rfl rfl (fun _ w1 => ?_)
  refine xj_goto (tgt := 141) dX1_chooseLast_133 rfl ?_
  exact xj_rv dX1_chooseLast_141 rfl
set_option maxRecDepth 20000 in
def sX1_chooseLast (p1 : Int32) (p2 : Int32) (w : xW) : Option (Unit × xW) :=
  xsw p1 (244) [xbd (sX1_plain (49 : Int32) (0 : Int32) (4 : Int32) (0 : Int32) w) (fun _ w1 => some ((), w1)), xbd (sX1_plain (51 : Int32) (0 : Int32) (4 : Int32) (0 : Int32) w) (fun _ w2 => some ((), w2)), sX1_chooseLast_j90 p2 w, sX1_chooseLast_j90 p2 w, xbd (sX1_plain (52 : Int32) (0 : Int32) (4 : Int32) (0 : Int32) w) (fun _ w3 => some ((), w3)), xbd (sX1_plain (53 : Int32) (0 : Int32) (4 : Int32) (0 : Int32) w) (fun _ w4 => some ((), w4)), some ((), (xwi w 3 4 (0 : Int32))), some ((), (xwi w 3 4 (0 : Int32))), some ((), (xwi w 3 4 (0 : Int32))), some ((), (xwi w 3 4 (0 : Int32))), sX1_chooseLast_j126 p2 w, sX1_chooseLast_j126 p2 w] (some ((), (xwi w 3 4 (0 : Int32))))
set_option maxRecDepth 20000 in
theorem tX1_chooseLast (p1 : Int32) (p2 : Int32) (w : xW) : xJ ιV mX1_chooseLast lC (0, 0) 0 [(0, .ref 3), (1, .int p1), (2, .int p2)] [] w (sX1_chooseLast p1 p2 w) := by
  unfold sX1_chooseLast
  refine xj_iloadn 1 dX1_chooseLast_0 rfl rfl ?_
  refine xj_tsw (tgtd := 136) [64, 77, 90, 90, 100, 113, 136, 136, 136, 136, 126, 126] dX1_chooseLast_1 rfl rfl rfl rfl ?_ ⟨?_, ?_, ?_, ?_, ?_, ?_, ?_, ?_, ?_, ?_, ?_, ?_, trivial⟩
  · refine xj_aloadn 0 dX1_chooseLast_136 rfl rfl ?_
    refine xj_iconst (v := 0) dX1_chooseLast_137 ci_0 ?_
    refine pfX1_38 dX1_chooseLast_138 rfl (Or.inl rfl) ?_
    exact xj_rv dX1_chooseLast_141 rfl
  · refine xj_aloadn 0 dX1_chooseLast_64 rfl rfl ?_
    refine xj_gse (n := 49) 49 dX1_chooseLast_65 (Nat.le_of_ble_eq_true rfl) rfl tw768 ?_
    refine xj_iconst (v := 0) dX1_chooseLast_68 ci_0 ?_
    refine xj_iconst (v := 4) dX1_chooseLast_69 ci_4 ?_
    refine xj_iconst (v := 0) dX1_chooseLast_70 ci_0 ?_
    refine xj_cVv (argv := [.ref (2000 + (49 : Int32).toNatClampNeg), .int (0 : Int32), .int (4 : Int32), .int (0 : Int32)]) (rest := []) dX1_chooseLast_71 (kX1_plain (49 : Int32) (0 : Int32) (4 : Int32) (0 : Int32) w) mkX1_plain tw652 rfl rfl rfl rfl rfl rfl (fun _ w1 => ?_)
    refine xj_goto (tgt := 141) dX1_chooseLast_74 rfl ?_
    exact xj_rv dX1_chooseLast_141 rfl
  · refine xj_aloadn 0 dX1_chooseLast_77 rfl rfl ?_
    refine xj_gse (n := 51) 51 dX1_chooseLast_78 (Nat.le_of_ble_eq_true rfl) rfl tw770 ?_
    refine xj_iconst (v := 0) dX1_chooseLast_81 ci_0 ?_
    refine xj_iconst (v := 4) dX1_chooseLast_82 ci_4 ?_
    refine xj_iconst (v := 0) dX1_chooseLast_83 ci_0 ?_
    refine xj_cVv (argv := [.ref (2000 + (51 : Int32).toNatClampNeg), .int (0 : Int32), .int (4 : Int32), .int (0 : Int32)]) (rest := []) dX1_chooseLast_84 (kX1_plain (51 : Int32) (0 : Int32) (4 : Int32) (0 : Int32) w) mkX1_plain tw652 rfl rfl rfl rfl rfl rfl (fun _ w2 => ?_)
    refine xj_goto (tgt := 141) dX1_chooseLast_87 rfl ?_
    exact xj_rv dX1_chooseLast_141 rfl
  · refine xj_sub (lv2 := [(0, .ref 3), (2, .int p2)]) [0, 2] rfl ?_
    exact tX1_chooseLast_j90 _ _
  · refine xj_sub (lv2 := [(0, .ref 3), (2, .int p2)]) [0, 2] rfl ?_
    exact tX1_chooseLast_j90 _ _
  · refine xj_aloadn 0 dX1_chooseLast_100 rfl rfl ?_
    refine xj_gse (n := 52) 52 dX1_chooseLast_101 (Nat.le_of_ble_eq_true rfl) rfl tw772 ?_
    refine xj_iconst (v := 0) dX1_chooseLast_104 ci_0 ?_
    refine xj_iconst (v := 4) dX1_chooseLast_105 ci_4 ?_
    refine xj_iconst (v := 0) dX1_chooseLast_106 ci_0 ?_
    refine xj_cVv (argv := [.ref (2000 + (52 : Int32).toNatClampNeg), .int (0 : Int32), .int (4 : Int32), .int (0 : Int32)]) (rest := []) dX1_chooseLast_107 (kX1_plain (52 : Int32) (0 : Int32) (4 : Int32) (0 : Int32) w) mkX1_plain tw652 rfl rfl rfl rfl rfl rfl (fun _ w3 => ?_)
    refine xj_goto (tgt := 141) dX1_chooseLast_110 rfl ?_
    exact xj_rv dX1_chooseLast_141 rfl
  · refine xj_aloadn 0 dX1_chooseLast_113 rfl rfl ?_
    refine xj_gse (n := 53) 53 dX1_chooseLast_114 (Nat.le_of_ble_eq_true rfl) rfl tw774 ?_
    refine xj_iconst (v := 0) dX1_chooseLast_117 ci_0 ?_
    refine xj_iconst (v := 4) dX1_chooseLast_118 ci_4 ?_
    refine xj_iconst (v := 0) dX1_chooseLast_119 ci_0 ?_
    refine xj_cVv (argv := [.ref (2000 + (53 : Int32).toNatClampNeg), .int (0 : Int32), .int (4 : Int32), .int (0 : Int32)]) (rest := []) dX1_chooseLast_120 (kX1_plain (53 : Int32) (0 : Int32) (4 : Int32) (0 : Int32) w) mkX1_plain tw652 rfl rfl rfl rfl rfl rfl (fun _ w4 => ?_)
    refine xj_goto (tgt := 141) dX1_chooseLast_123 rfl ?_
    exact xj_rv dX1_chooseLast_141 rfl
  · refine xj_aloadn 0 dX1_chooseLast_136 rfl rfl ?_
    refine xj_iconst (v := 0) dX1_chooseLast_137 ci_0 ?_
    refine pfX1_38 dX1_chooseLast_138 rfl (Or.inl rfl) ?_
    exact xj_rv dX1_chooseLast_141 rfl
  · refine xj_aloadn 0 dX1_chooseLast_136 rfl rfl ?_
    refine xj_iconst (v := 0) dX1_chooseLast_137 ci_0 ?_
    refine pfX1_38 dX1_chooseLast_138 rfl (Or.inl rfl) ?_
    exact xj_rv dX1_chooseLast_141 rfl
  · refine xj_aloadn 0 dX1_chooseLast_136 rfl rfl ?_
    refine xj_iconst (v := 0) dX1_chooseLast_137 ci_0 ?_
    refine pfX1_38 dX1_chooseLast_138 rfl (Or.inl rfl) ?_
    exact xj_rv dX1_chooseLast_141 rfl
  · refine xj_aloadn 0 dX1_chooseLast_136 rfl rfl ?_
    refine xj_iconst (v := 0) dX1_chooseLast_137 ci_0 ?_
    refine pfX1_38 dX1_chooseLast_138 rfl (Or.inl rfl) ?_
    exact xj_rv dX1_chooseLast_141 rfl
  · refine xj_sub (lv2 := [(0, .ref 3), (2, .int p2)]) [0, 2] rfl ?_
    exact tX1_chooseLast_j126 _ _
  · refine xj_sub (lv2 := [(0, .ref 3), (2, .int p2)]) [0, 2] rfl ?_
    exact tX1_chooseLast_j126 _ _
theorem kX1_chooseLast (p1 : Int32) (p2 : Int32) (w : xW) : xMet jV mX1_chooseLast lC (0, 0) [.ref 3, .int p1, .int p2] w (sX1_chooseLast p1 p2 w) := xj_met lC_ok (by decide) (Nat.le_of_ble_eq_true rfl) (Nat.zero_le _) (Nat.zero_le _) (tX1_chooseLast p1 p2 w)
set_option maxRecDepth 20000 in
def sX1_chooseHigh_j126 (a1 : Int32) (b0 : Int32) (w : xW) : Option (Unit × xW) :=
  xbd (sX1_plain b0 (0 : Int32) (4 : Int32) (0 : Int32) w) (fun _ w1 => (if a1 < (154 : Int32) then some ((), (xwi w1 3 4 (1 : Int32))) else some ((), (xwi w1 3 4 (0 : Int32)))))
set_option maxRecDepth 20000 in
theorem tX1_chooseHigh_j126 (a1 : Int32) (b0 : Int32) (w : xW) : xJ ιV mX1_chooseHigh lC (0, 0) 126 [(0, .ref 3), (1, .int a1)] [.ref (2000 + b0.toNatClampNeg), .ref 3] w (sX1_chooseHigh_j126 a1 b0 w) := by
  unfold sX1_chooseHigh_j126
  refine xj_iconst (v := 0) dX1_chooseHigh_126 ci_0 ?_
  refine xj_iconst (v := 4) dX1_chooseHigh_127 ci_4 ?_
  refine xj_iconst (v := 0) dX1_chooseHigh_128 ci_0 ?_
  refine xj_cVv (argv := [.ref (2000 + b0.toNatClampNeg), .int (0 : Int32), .int (4 : Int32), .int (0 : Int32)]) (rest := []) dX1_chooseHigh_129 (kX1_plain b0 (0 : Int32) (4 : Int32) (0 : Int32) w) mkX1_plain tw652 rfl rfl rfl rfl rfl rfl (fun _ w1 => ?_)
  refine xj_aloadn 0 dX1_chooseHigh_132 rfl rfl ?_
  refine xj_iloadn 1 dX1_chooseHigh_133 rfl rfl ?_
  refine xj_sipush (v := 154) dX1_chooseHigh_134 cs_154 ?_
  refine xj_ige (tgt := 144) dX1_chooseHigh_137 rfl ?_ ?_
  · refine xj_iconst (v := 1) dX1_chooseHigh_140 ci_1 ?_
    refine xj_goto (tgt := 145) dX1_chooseHigh_141 rfl ?_
    refine pfX1_38 dX1_chooseHigh_145 rfl (Or.inr rfl) ?_
    refine xj_goto (tgt := 310) dX1_chooseHigh_148 rfl ?_
    exact xj_rv dX1_chooseHigh_310 rfl
  · refine xj_iconst (v := 0) dX1_chooseHigh_144 ci_0 ?_
    refine pfX1_38 dX1_chooseHigh_145 rfl (Or.inl rfl) ?_
    refine xj_goto (tgt := 310) dX1_chooseHigh_148 rfl ?_
    exact xj_rv dX1_chooseHigh_310 rfl
set_option maxRecDepth 20000 in
def sX1_chooseHigh_j209 (a1 : Int32) (b0 : Int32) (b1 : Int32) (b2 : Int32) (b3 : Int32) (w : xW) : Option (Unit × xW) :=
  xbd (sX1_plain b3 b2 b1 b0 w) (fun _ w1 => some ((), (xwi w1 2 7 (a1 &&& (7 : Int32)))))
set_option maxRecDepth 20000 in
theorem tX1_chooseHigh_j209 (a1 : Int32) (b0 : Int32) (b1 : Int32) (b2 : Int32) (b3 : Int32) (w : xW) : xJ ιV mX1_chooseHigh lC (0, 0) 209 [(0, .ref 3), (1, .int a1)] [.int b0, .int b1, .int b2, .ref (2000 + b3.toNatClampNeg), .ref 3] w (sX1_chooseHigh_j209 a1 b0 b1 b2 b3 w) := by
  unfold sX1_chooseHigh_j209
  refine xj_cVv (argv := [.ref (2000 + b3.toNatClampNeg), .int b2, .int b1, .int b0]) (rest := []) dX1_chooseHigh_209 (kX1_plain b3 b2 b1 b0 w) mkX1_plain tw652 rfl rfl rfl rfl rfl rfl (fun _ w1 => ?_)
  refine xj_aloadn 0 dX1_chooseHigh_212 rfl rfl ?_
  refine gfX1_15 dX1_chooseHigh_213 rfl ?_
  refine xj_iloadn 1 dX1_chooseHigh_216 rfl rfl ?_
  refine xj_bipush (v := 7) dX1_chooseHigh_217 cb_7 ?_
  refine xj_iand dX1_chooseHigh_219 ?_
  refine pfX1_100 dX1_chooseHigh_220 rfl ?_
  refine xj_goto (tgt := 310) dX1_chooseHigh_223 rfl ?_
  exact xj_rv dX1_chooseHigh_310 rfl
set_option maxRecDepth 20000 in
def sX1_chooseHigh_j197 (a1 : Int32) (b0 : Int32) (b1 : Int32) (b2 : Int32) (w : xW) : Option (Unit × xW) :=
  (if a1 < (184 : Int32) then sX1_chooseHigh_j209 a1 (1 : Int32) b0 b1 b2 w else sX1_chooseHigh_j209 a1 (4 : Int32) b0 b1 b2 w)
set_option maxRecDepth 20000 in
theorem tX1_chooseHigh_j197 (a1 : Int32) (b0 : Int32) (b1 : Int32) (b2 : Int32) (w : xW) : xJ ιV mX1_chooseHigh lC (0, 0) 197 [(0, .ref 3), (1, .int a1)] [.int b0, .int b1, .ref (2000 + b2.toNatClampNeg), .ref 3] w (sX1_chooseHigh_j197 a1 b0 b1 b2 w) := by
  unfold sX1_chooseHigh_j197
  refine xj_iloadn 1 dX1_chooseHigh_197 rfl rfl ?_
  refine xj_sipush (v := 184) dX1_chooseHigh_198 cs_184 ?_
  refine xj_ige (tgt := 208) dX1_chooseHigh_201 rfl ?_ ?_
  · refine xj_iconst (v := 1) dX1_chooseHigh_204 ci_1 ?_
    refine xj_goto (tgt := 209) dX1_chooseHigh_205 rfl ?_
    exact tX1_chooseHigh_j209 _ _ _ _ _ _
  · refine xj_iconst (v := 4) dX1_chooseHigh_208 ci_4 ?_
    exact tX1_chooseHigh_j209 _ _ _ _ _ _
set_option maxRecDepth 20000 in
def sX1_chooseHigh_j180 (a1 : Int32) (w : xW) : Option (Unit × xW) :=
  (if a1 < (184 : Int32) then sX1_chooseHigh_j197 a1 (1 : Int32) (3 : Int32) (28 : Int32) w else sX1_chooseHigh_j197 a1 (4 : Int32) (3 : Int32) (28 : Int32) w)
set_option maxRecDepth 20000 in
theorem tX1_chooseHigh_j180 (a1 : Int32) (w : xW) : xJ ιV mX1_chooseHigh lC (0, 0) 180 [(0, .ref 3), (1, .int a1)] [] w (sX1_chooseHigh_j180 a1 w) := by
  unfold sX1_chooseHigh_j180
  refine xj_aloadn 0 dX1_chooseHigh_180 rfl rfl ?_
  refine xj_gse (n := 28) 28 dX1_chooseHigh_181 (Nat.le_of_ble_eq_true rfl) rfl tw694 ?_
  refine xj_iconst (v := 3) dX1_chooseHigh_184 ci_3 ?_
  refine xj_iloadn 1 dX1_chooseHigh_185 rfl rfl ?_
  refine xj_sipush (v := 184) dX1_chooseHigh_186 cs_184 ?_
  refine xj_ige (tgt := 196) dX1_chooseHigh_189 rfl ?_ ?_
  · refine xj_iconst (v := 1) dX1_chooseHigh_192 ci_1 ?_
    refine xj_goto (tgt := 197) dX1_chooseHigh_193 rfl ?_
    exact tX1_chooseHigh_j197 _ _ _ _ _
  · refine xj_iconst (v := 4) dX1_chooseHigh_196 ci_4 ?_
    exact tX1_chooseHigh_j197 _ _ _ _ _
set_option maxRecDepth 20000 in
def sX1_chooseHigh_j274 (b0 : Int32) (w : xW) : Option (Unit × xW) :=
  (if xz b0 then (if xz b0 then some ((), (xwi (xwi w 3 4 b0) 3 5 b0)) else none) else none)
set_option maxRecDepth 20000 in
theorem tX1_chooseHigh_j274 (b0 : Int32) (w : xW) : xJ ιV mX1_chooseHigh lC (0, 0) 274 [(0, .ref 3)] [.int b0, .ref 3] w (sX1_chooseHigh_j274 b0 w) := by
  unfold sX1_chooseHigh_j274
  refine xj_guard (fun hz => ?_)
  refine pfX1_38 dX1_chooseHigh_274 rfl hz ?_
  refine xj_aloadn 0 dX1_chooseHigh_277 rfl rfl ?_
  refine xj_aloadn 0 dX1_chooseHigh_278 rfl rfl ?_
  refine gfX1_38 (v := b0) dX1_chooseHigh_279 rfl rfl ?_
  refine xj_guard (fun hz => ?_)
  refine pfX1_41 dX1_chooseHigh_282 rfl hz ?_
  refine xj_goto (tgt := 310) dX1_chooseHigh_285 rfl ?_
  exact xj_rv dX1_chooseHigh_310 rfl
set_option maxRecDepth 20000 in
def sX1_chooseHigh_j249 (a1 : Int32) (a2 : Int32) (b0 : Int32) (b1 : Int32) (w : xW) : Option (Unit × xW) :=
  xbd (sX1_withDigit b1 b0 a2 w) (fun _ w1 => (if a1 < (212 : Int32) then sX1_chooseHigh_j274 (1 : Int32) (xwi w1 2 13 (1 : Int32)) else sX1_chooseHigh_j274 (0 : Int32) (xwi w1 2 13 (1 : Int32))))
set_option maxRecDepth 20000 in
theorem tX1_chooseHigh_j249 (a1 : Int32) (a2 : Int32) (b0 : Int32) (b1 : Int32) (w : xW) : xJ ιV mX1_chooseHigh lC (0, 0) 249 [(0, .ref 3), (1, .int a1), (2, .int a2)] [.int b0, .int b1, .ref 3] w (sX1_chooseHigh_j249 a1 a2 b0 b1 w) := by
  unfold sX1_chooseHigh_j249
  refine xj_iloadn 2 dX1_chooseHigh_249 rfl rfl ?_
  refine xj_cVv (argv := [.int b1, .int b0, .int a2]) (rest := []) dX1_chooseHigh_250 (kX1_withDigit b1 b0 a2 w) mkX1_withDigit tw730 rfl rfl rfl rfl rfl rfl (fun _ w1 => ?_)
  refine xj_aloadn 0 dX1_chooseHigh_253 rfl rfl ?_
  refine gfX1_15 dX1_chooseHigh_254 rfl ?_
  refine xj_iconst (v := 1) dX1_chooseHigh_257 ci_1 ?_
  refine pfX1_81 dX1_chooseHigh_258 rfl ?_
  refine xj_aloadn 0 dX1_chooseHigh_261 rfl rfl ?_
  refine xj_iloadn 1 dX1_chooseHigh_262 rfl rfl ?_
  refine xj_sipush (v := 212) dX1_chooseHigh_263 cs_212 ?_
  refine xj_ige (tgt := 273) dX1_chooseHigh_266 rfl ?_ ?_
  · refine xj_iconst (v := 1) dX1_chooseHigh_269 ci_1 ?_
    refine xj_goto (tgt := 274) dX1_chooseHigh_270 rfl ?_
    refine xj_sub (lv2 := [(0, .ref 3)]) [0] rfl ?_
    exact tX1_chooseHigh_j274 _ _
  · refine xj_iconst (v := 0) dX1_chooseHigh_273 ci_0 ?_
    refine xj_sub (lv2 := [(0, .ref 3)]) [0] rfl ?_
    exact tX1_chooseHigh_j274 _ _
set_option maxRecDepth 20000 in
def sX1_chooseHigh_j288 (a1 : Int32) (w : xW) : Option (Unit × xW) :=
  xbd (sX1_chooseJump a1 w) (fun _ w1 => some ((), w1))
set_option maxRecDepth 20000 in
theorem tX1_chooseHigh_j288 (a1 : Int32) (w : xW) : xJ ιV mX1_chooseHigh lC (0, 0) 288 [(0, .ref 3), (1, .int a1)] [] w (sX1_chooseHigh_j288 a1 w) := by
  unfold sX1_chooseHigh_j288
  refine xj_aloadn 0 dX1_chooseHigh_288 rfl rfl ?_
  refine xj_iloadn 1 dX1_chooseHigh_289 rfl rfl ?_
  refine xj_cVv (argv := [.int a1]) (rest := []) dX1_chooseHigh_290 (kX1_chooseJump a1 w) mkX1_chooseJump tw752 rfl rfl rfl rfl rfl rfl (fun _ w1 => ?_)
  refine xj_goto (tgt := 310) dX1_chooseHigh_293 rfl ?_
  exact xj_rv dX1_chooseHigh_310 rfl
set_option maxRecDepth 20000 in
def sX1_chooseHigh_j296 (a1 : Int32) (a2 : Int32) (w : xW) : Option (Unit × xW) :=
  xbd (sX1_chooseLast a1 a2 w) (fun _ w1 => some ((), w1))
set_option maxRecDepth 20000 in
theorem tX1_chooseHigh_j296 (a1 : Int32) (a2 : Int32) (w : xW) : xJ ιV mX1_chooseHigh lC (0, 0) 296 [(0, .ref 3), (1, .int a1), (2, .int a2)] [] w (sX1_chooseHigh_j296 a1 a2 w) := by
  unfold sX1_chooseHigh_j296
  refine xj_aloadn 0 dX1_chooseHigh_296 rfl rfl ?_
  refine xj_iloadn 1 dX1_chooseHigh_297 rfl rfl ?_
  refine xj_iloadn 2 dX1_chooseHigh_298 rfl rfl ?_
  refine xj_cVv (argv := [.int a1, .int a2]) (rest := []) dX1_chooseHigh_299 (kX1_chooseLast a1 a2 w) mkX1_chooseLast tw764 rfl rfl rfl rfl rfl rfl (fun _ w1 => ?_)
  refine xj_goto (tgt := 310) dX1_chooseHigh_302 rfl ?_
  exact xj_rv dX1_chooseHigh_310 rfl
set_option maxRecDepth 20000 in
def sX1_chooseHigh (p1 : Int32) (p2 : Int32) (w : xW) : Option (Unit × xW) :=
  xsw (p1 >>> ((3 : Int32) &&& 31)) (16) [xbd (sX1_chooseGroup p1 p2 w) (fun _ w1 => some ((), w1)), xbd (sX1_chooseMove p1 p2 w) (fun _ w2 => some ((), w2)), xbd (sX1_chooseXchg (p1 &&& (7 : Int32)) w) (fun _ w3 => some ((), w3)), (if p1 = (152 : Int32) then sX1_chooseHigh_j126 p1 (37 : Int32) w else sX1_chooseHigh_j126 p1 (38 : Int32) w), some ((), (xwi w 3 4 (0 : Int32))), xbd (sX1_plain (16 : Int32) (3 : Int32) p2 p2 w) (fun _ w4 => (if p1 < (170 : Int32) then some ((), (xwi w4 3 4 (1 : Int32))) else some ((), (xwi w4 3 4 (0 : Int32))))), sX1_chooseHigh_j180 p1 w, sX1_chooseHigh_j180 p1 w, xbd (sX1_chooseShiftOrMove p1 p2 w) (fun _ w5 => some ((), w5)), some ((), (xwi w 3 4 (0 : Int32))), (if p1 < (210 : Int32) then sX1_chooseHigh_j249 p1 p2 (3 : Int32) (3 : Int32) w else sX1_chooseHigh_j249 p1 p2 (4 : Int32) (3 : Int32) w), some ((), (xwi w 3 4 (0 : Int32))), sX1_chooseHigh_j288 p1 w, sX1_chooseHigh_j288 p1 w, sX1_chooseHigh_j296 p1 p2 w, sX1_chooseHigh_j296 p1 p2 w] (some ((), (xwi w 3 4 (0 : Int32))))
set_option maxRecDepth 20000 in
theorem tX1_chooseHigh (p1 : Int32) (p2 : Int32) (w : xW) : xJ ιV mX1_chooseHigh lC (0, 0) 0 [(0, .ref 3), (1, .int p1), (2, .int p2)] [] w (sX1_chooseHigh p1 p2 w) := by
  unfold sX1_chooseHigh
  refine xj_iloadn 1 dX1_chooseHigh_0 rfl rfl ?_
  refine xj_iconst (v := 3) dX1_chooseHigh_1 ci_3 ?_
  refine xj_ishr dX1_chooseHigh_2 ?_
  refine xj_tsw (tgtd := 305) [80, 89, 98, 109, 305, 151, 180, 180, 226, 305, 235, 305, 288, 288, 296, 296] dX1_chooseHigh_3 rfl rfl rfl rfl ?_ ⟨?_, ?_, ?_, ?_, ?_, ?_, ?_, ?_, ?_, ?_, ?_, ?_, ?_, ?_, ?_, ?_, trivial⟩
  · refine xj_aloadn 0 dX1_chooseHigh_305 rfl rfl ?_
    refine xj_iconst (v := 0) dX1_chooseHigh_306 ci_0 ?_
    refine pfX1_38 dX1_chooseHigh_307 rfl (Or.inl rfl) ?_
    exact xj_rv dX1_chooseHigh_310 rfl
  · refine xj_aloadn 0 dX1_chooseHigh_80 rfl rfl ?_
    refine xj_iloadn 1 dX1_chooseHigh_81 rfl rfl ?_
    refine xj_iloadn 2 dX1_chooseHigh_82 rfl rfl ?_
    refine xj_cVv (argv := [.int p1, .int p2]) (rest := []) dX1_chooseHigh_83 (kX1_chooseGroup p1 p2 w) mkX1_chooseGroup tw722 rfl rfl rfl rfl rfl rfl (fun _ w1 => ?_)
    refine xj_goto (tgt := 310) dX1_chooseHigh_86 rfl ?_
    exact xj_rv dX1_chooseHigh_310 rfl
  · refine xj_aloadn 0 dX1_chooseHigh_89 rfl rfl ?_
    refine xj_iloadn 1 dX1_chooseHigh_90 rfl rfl ?_
    refine xj_iloadn 2 dX1_chooseHigh_91 rfl rfl ?_
    refine xj_cVv (argv := [.int p1, .int p2]) (rest := []) dX1_chooseHigh_92 (kX1_chooseMove p1 p2 w) mkX1_chooseMove tw734 rfl rfl rfl rfl rfl rfl (fun _ w2 => ?_)
    refine xj_goto (tgt := 310) dX1_chooseHigh_95 rfl ?_
    exact xj_rv dX1_chooseHigh_310 rfl
  · refine xj_aloadn 0 dX1_chooseHigh_98 rfl rfl ?_
    refine xj_iloadn 1 dX1_chooseHigh_99 rfl rfl ?_
    refine xj_bipush (v := 7) dX1_chooseHigh_100 cb_7 ?_
    refine xj_iand dX1_chooseHigh_102 ?_
    refine xj_cVv (argv := [.int (p1 &&& (7 : Int32))]) (rest := []) dX1_chooseHigh_103 (kX1_chooseXchg (p1 &&& (7 : Int32)) w) mkX1_chooseXchg tw740 rfl rfl rfl rfl rfl rfl (fun _ w3 => ?_)
    refine xj_goto (tgt := 310) dX1_chooseHigh_106 rfl ?_
    exact xj_rv dX1_chooseHigh_310 rfl
  · refine xj_aloadn 0 dX1_chooseHigh_109 rfl rfl ?_
    refine xj_iloadn 1 dX1_chooseHigh_110 rfl rfl ?_
    refine xj_sipush (v := 152) dX1_chooseHigh_111 cs_152 ?_
    refine xj_ine (tgt := 123) dX1_chooseHigh_114 rfl ?_ ?_
    · refine xj_gse (n := 37) 37 dX1_chooseHigh_117 (Nat.le_of_ble_eq_true rfl) rfl tw744 ?_
      refine xj_goto (tgt := 126) dX1_chooseHigh_120 rfl ?_
      refine xj_sub (lv2 := [(0, .ref 3), (1, .int p1)]) [0, 1] rfl ?_
      exact tX1_chooseHigh_j126 _ _ _
    · refine xj_gse (n := 38) 38 dX1_chooseHigh_123 (Nat.le_of_ble_eq_true rfl) rfl tw746 ?_
      refine xj_sub (lv2 := [(0, .ref 3), (1, .int p1)]) [0, 1] rfl ?_
      exact tX1_chooseHigh_j126 _ _ _
  · refine xj_aloadn 0 dX1_chooseHigh_305 rfl rfl ?_
    refine xj_iconst (v := 0) dX1_chooseHigh_306 ci_0 ?_
    refine pfX1_38 dX1_chooseHigh_307 rfl (Or.inl rfl) ?_
    exact xj_rv dX1_chooseHigh_310 rfl
  · refine xj_aloadn 0 dX1_chooseHigh_151 rfl rfl ?_
    refine xj_gse (n := 16) 16 dX1_chooseHigh_152 (Nat.le_of_ble_eq_true rfl) rfl tw726 ?_
    refine xj_iconst (v := 3) dX1_chooseHigh_155 ci_3 ?_
    refine xj_iloadn 2 dX1_chooseHigh_156 rfl rfl ?_
    refine xj_iloadn 2 dX1_chooseHigh_157 rfl rfl ?_
    refine xj_cVv (argv := [.ref (2000 + (16 : Int32).toNatClampNeg), .int (3 : Int32), .int p2, .int p2]) (rest := []) dX1_chooseHigh_158 (kX1_plain (16 : Int32) (3 : Int32) p2 p2 w) mkX1_plain tw652 rfl rfl rfl rfl rfl rfl (fun _ w4 => ?_)
    refine xj_aloadn 0 dX1_chooseHigh_161 rfl rfl ?_
    refine xj_iloadn 1 dX1_chooseHigh_162 rfl rfl ?_
    refine xj_sipush (v := 170) dX1_chooseHigh_163 cs_170 ?_
    refine xj_ige (tgt := 173) dX1_chooseHigh_166 rfl ?_ ?_
    · refine xj_iconst (v := 1) dX1_chooseHigh_169 ci_1 ?_
      refine xj_goto (tgt := 174) dX1_chooseHigh_170 rfl ?_
      refine pfX1_38 dX1_chooseHigh_174 rfl (Or.inr rfl) ?_
      refine xj_goto (tgt := 310) dX1_chooseHigh_177 rfl ?_
      exact xj_rv dX1_chooseHigh_310 rfl
    · refine xj_iconst (v := 0) dX1_chooseHigh_173 ci_0 ?_
      refine pfX1_38 dX1_chooseHigh_174 rfl (Or.inl rfl) ?_
      refine xj_goto (tgt := 310) dX1_chooseHigh_177 rfl ?_
      exact xj_rv dX1_chooseHigh_310 rfl
  · refine xj_sub (lv2 := [(0, .ref 3), (1, .int p1)]) [0, 1] rfl ?_
    exact tX1_chooseHigh_j180 _ _
  · refine xj_sub (lv2 := [(0, .ref 3), (1, .int p1)]) [0, 1] rfl ?_
    exact tX1_chooseHigh_j180 _ _
  · refine xj_aloadn 0 dX1_chooseHigh_226 rfl rfl ?_
    refine xj_iloadn 1 dX1_chooseHigh_227 rfl rfl ?_
    refine xj_iloadn 2 dX1_chooseHigh_228 rfl rfl ?_
    refine xj_cVv (argv := [.int p1, .int p2]) (rest := []) dX1_chooseHigh_229 (kX1_chooseShiftOrMove p1 p2 w) mkX1_chooseShiftOrMove tw748 rfl rfl rfl rfl rfl rfl (fun _ w5 => ?_)
    refine xj_goto (tgt := 310) dX1_chooseHigh_232 rfl ?_
    exact xj_rv dX1_chooseHigh_310 rfl
  · refine xj_aloadn 0 dX1_chooseHigh_305 rfl rfl ?_
    refine xj_iconst (v := 0) dX1_chooseHigh_306 ci_0 ?_
    refine pfX1_38 dX1_chooseHigh_307 rfl (Or.inl rfl) ?_
    exact xj_rv dX1_chooseHigh_310 rfl
  · refine xj_aloadn 0 dX1_chooseHigh_235 rfl rfl ?_
    refine xj_iconst (v := 3) dX1_chooseHigh_236 ci_3 ?_
    refine xj_iloadn 1 dX1_chooseHigh_237 rfl rfl ?_
    refine xj_sipush (v := 210) dX1_chooseHigh_238 cs_210 ?_
    refine xj_ige (tgt := 248) dX1_chooseHigh_241 rfl ?_ ?_
    · refine xj_iconst (v := 3) dX1_chooseHigh_244 ci_3 ?_
      refine xj_goto (tgt := 249) dX1_chooseHigh_245 rfl ?_
      exact tX1_chooseHigh_j249 _ _ _ _ _
    · refine xj_iconst (v := 4) dX1_chooseHigh_248 ci_4 ?_
      exact tX1_chooseHigh_j249 _ _ _ _ _
  · refine xj_aloadn 0 dX1_chooseHigh_305 rfl rfl ?_
    refine xj_iconst (v := 0) dX1_chooseHigh_306 ci_0 ?_
    refine pfX1_38 dX1_chooseHigh_307 rfl (Or.inl rfl) ?_
    exact xj_rv dX1_chooseHigh_310 rfl
  · refine xj_sub (lv2 := [(0, .ref 3), (1, .int p1)]) [0, 1] rfl ?_
    exact tX1_chooseHigh_j288 _ _
  · refine xj_sub (lv2 := [(0, .ref 3), (1, .int p1)]) [0, 1] rfl ?_
    exact tX1_chooseHigh_j288 _ _
  · exact tX1_chooseHigh_j296 _ _ _
  · exact tX1_chooseHigh_j296 _ _ _
theorem kX1_chooseHigh (p1 : Int32) (p2 : Int32) (w : xW) : xMet jV mX1_chooseHigh lC (0, 0) [.ref 3, .int p1, .int p2] w (sX1_chooseHigh p1 p2 w) := xj_met lC_ok (by decide) (Nat.le_of_ble_eq_true rfl) (Nat.zero_le _) (Nat.zero_le _) (tX1_chooseHigh p1 p2 w)
set_option maxRecDepth 20000 in
def sX1_nextNumber_l4 : Nat → Int32 → Int32 → Int32 → xW → Option (Int32 × xW)
  | 0, _, _, _, _ => none
  | n + 1, a1, a2, a3, w =>
  (if a3 < a1 then xbd (sX1_nextByte w) (fun x1 w2 => xlet (a2 ||| (x1 <<< (((8 : Int32) * a3) &&& 31))) (fun x3 => (sX1_nextNumber_l4 n) a1 x3 (a3 + (1 : Int32)) w2)) else (if a1 = (1 : Int32) then some (a2.toInt8.toInt32, w) else some (a2, w)))
set_option maxRecDepth 20000 in
theorem tX1_nextNumber_l4 : ∀ (n : Nat) (a1 : Int32) (a2 : Int32) (a3 : Int32) (w : xW), xJ ιI mX1_nextNumber lC (0, 0) 4 [(0, .ref 3), (1, .int a1), (2, .int a2), (3, .int a3)] [] w (sX1_nextNumber_l4 n a1 a2 a3 w) := by
  intro n
  induction n with
  | zero => intros; exact xj_none
  | succ n ih =>
    intro a1 a2 a3 w
    rw [sX1_nextNumber_l4]
    refine xj_iloadn 3 dX1_nextNumber_4 rfl rfl ?_
    refine xj_iloadn 1 dX1_nextNumber_5 rfl rfl ?_
    refine xj_ige (tgt := 27) dX1_nextNumber_6 rfl ?_ ?_
    · refine xj_iloadn 2 dX1_nextNumber_9 rfl rfl ?_
      refine xj_aloadn 0 dX1_nextNumber_10 rfl rfl ?_
      refine xj_cVi (argv := []) (rest := [.int a2]) dX1_nextNumber_11 (kX1_nextByte w) mkX1_nextByte tw635 rfl rfl rfl rfl rfl rfl (fun x1 w2 => ?_)
      refine xj_bipush (v := 8) dX1_nextNumber_14 cb_8 ?_
      refine xj_iloadn 3 dX1_nextNumber_16 rfl rfl ?_
      refine xj_imul dX1_nextNumber_17 ?_
      refine xj_ishl dX1_nextNumber_18 ?_
      refine xj_ior dX1_nextNumber_19 ?_
      refine xj_leti (fun x3 => ?_)
      refine xj_istoren (lv2 := [(2, .int x3), (0, .ref 3), (1, .int a1), (3, .int a3)]) dX1_nextNumber_20 rfl (Nat.le_of_ble_eq_true rfl) rfl ?_
      refine xj_iinc (n := 3) (lv2 := [(3, .int (a3 + (1 : Int32))), (2, .int x3), (0, .ref 3), (1, .int a1)]) dX1_nextNumber_21 rfl ci_1 (Nat.le_of_ble_eq_true rfl) rfl ?_
      refine xj_goto (tgt := 4) dX1_nextNumber_24 rfl ?_
      refine xj_sub (lv2 := [(0, .ref 3), (1, .int a1), (2, .int x3), (3, .int (a3 + (1 : Int32)))]) [2, 3, 1, 0] rfl ?_
      exact ih _ _ _ _
    · refine xj_iloadn 1 dX1_nextNumber_27 rfl rfl ?_
      refine xj_iconst (v := 1) dX1_nextNumber_28 ci_1 ?_
      refine xj_ine (tgt := 37) dX1_nextNumber_29 rfl ?_ ?_
      · refine xj_iloadn 2 dX1_nextNumber_32 rfl rfl ?_
        refine xj_i2b dX1_nextNumber_33 ?_
        refine xj_goto (tgt := 38) dX1_nextNumber_34 rfl ?_
        exact xj_ri dX1_nextNumber_38 rfl
      · refine xj_iloadn 2 dX1_nextNumber_37 rfl rfl ?_
        exact xj_ri dX1_nextNumber_38 rfl
set_option maxRecDepth 20000 in
def sX1_nextNumber (p1 : Int32) (w : xW) : Option (Int32 × xW) :=
  sX1_nextNumber_l4 70000 p1 (0 : Int32) (0 : Int32) w
set_option maxRecDepth 20000 in
theorem tX1_nextNumber (p1 : Int32) (w : xW) : xJ ιI mX1_nextNumber lC (0, 0) 0 [(0, .ref 3), (1, .int p1)] [] w (sX1_nextNumber p1 w) := by
  unfold sX1_nextNumber
  refine xj_iconst (v := 0) dX1_nextNumber_0 ci_0 ?_
  refine xj_istoren (lv2 := [(2, .int (0 : Int32)), (0, .ref 3), (1, .int p1)]) dX1_nextNumber_1 rfl (Nat.le_of_ble_eq_true rfl) rfl ?_
  refine xj_iconst (v := 0) dX1_nextNumber_2 ci_0 ?_
  refine xj_istoren (lv2 := [(3, .int (0 : Int32)), (2, .int (0 : Int32)), (0, .ref 3), (1, .int p1)]) dX1_nextNumber_3 rfl (Nat.le_of_ble_eq_true rfl) rfl ?_
  refine xj_sub (lv2 := [(0, .ref 3), (1, .int p1), (2, .int (0 : Int32)), (3, .int (0 : Int32))]) [2, 3, 1, 0] rfl ?_
  exact tX1_nextNumber_l4 _ _ _ _ _
theorem kX1_nextNumber (p1 : Int32) (w : xW) : xMet jI mX1_nextNumber lC (0, 0) [.ref 3, .int p1] w (sX1_nextNumber p1 w) := xj_met lC_ok (by decide) (Nat.le_of_ble_eq_true rfl) (Nat.zero_le _) (Nat.zero_le _) (tX1_nextNumber p1 w)
set_option maxRecDepth 20000 in
def sX1_readE_j165 (a2 : Int32) (w : xW) : Option (Unit × xW) :=
  (if a2 = 0 then some ((), w) else (if a2 = (1 : Int32) then xbd (sX1_nextNumber (1 : Int32) w) (fun x3 w4 => some ((), (xwi w4 2 12 x3))) else xbd (sX1_nextNumber (4 : Int32) w) (fun x1 w2 => some ((), (xwi w2 2 12 x1)))))
set_option maxRecDepth 20000 in
theorem tX1_readE_j165 (a2 : Int32) (w : xW) : xJ ιV mX1_readE lC (0, 0) 165 [(0, .ref 3), (2, .int a2)] [] w (sX1_readE_j165 a2 w) := by
  unfold sX1_readE_j165
  refine xj_iloadn 1 dX1_readE_165 rfl rfl ?_
  refine xj_ifeq (tgt := 190) dX1_readE_166 rfl ?_ ?_
  · exact xj_rv dX1_readE_190 rfl
  · refine xj_aloadn 0 dX1_readE_169 rfl rfl ?_
    refine gfX1_15 dX1_readE_170 rfl ?_
    refine xj_aloadn 0 dX1_readE_173 rfl rfl ?_
    refine xj_iloadn 1 dX1_readE_174 rfl rfl ?_
    refine xj_iconst (v := 1) dX1_readE_175 ci_1 ?_
    refine xj_ine (tgt := 183) dX1_readE_176 rfl ?_ ?_
    · refine xj_iconst (v := 1) dX1_readE_179 ci_1 ?_
      refine xj_goto (tgt := 184) dX1_readE_180 rfl ?_
      refine xj_cVi (argv := [.int (1 : Int32)]) (rest := [.ref 2]) dX1_readE_184 (kX1_nextNumber (1 : Int32) w) mkX1_nextNumber tw780 rfl rfl rfl rfl rfl rfl (fun x3 w4 => ?_)
      refine pfX1_115 dX1_readE_187 rfl ?_
      exact xj_rv dX1_readE_190 rfl
    · refine xj_iconst (v := 4) dX1_readE_183 ci_4 ?_
      refine xj_cVi (argv := [.int (4 : Int32)]) (rest := [.ref 2]) dX1_readE_184 (kX1_nextNumber (4 : Int32) w) mkX1_nextNumber tw780 rfl rfl rfl rfl rfl rfl (fun x1 w2 => ?_)
      refine pfX1_115 dX1_readE_187 rfl ?_
      exact xj_rv dX1_readE_190 rfl
set_option maxRecDepth 20000 in
def sX1_readE_j127 (a2 : Int32) (w : xW) : Option (Unit × xW) :=
  (if a2 = 0 then (if (w.1 2 9) = (5 : Int32) then xbd (sX1_nextNumber (4 : Int32) (xwi w 2 9 (-1 : Int32))) (fun x1 w2 => some ((), (xwi w2 2 12 x1))) else sX1_readE_j165 a2 w) else sX1_readE_j165 a2 w)
set_option maxRecDepth 20000 in
theorem tX1_readE_j127 (a2 : Int32) (w : xW) : xJ ιV mX1_readE lC (0, 0) 127 [(0, .ref 3), (2, .int a2)] [] w (sX1_readE_j127 a2 w) := by
  unfold sX1_readE_j127
  refine xj_iloadn 1 dX1_readE_127 rfl rfl ?_
  refine xj_ifne (tgt := 165) dX1_readE_128 rfl ?_ ?_
  · refine xj_aloadn 0 dX1_readE_131 rfl rfl ?_
    refine gfX1_15 dX1_readE_132 rfl ?_
    refine gfX1_106 (v := (w.1 2 9)) dX1_readE_135 rfl rfl ?_
    refine xj_iconst (v := 5) dX1_readE_138 ci_5 ?_
    refine xj_ine (tgt := 165) dX1_readE_139 rfl ?_ ?_
    · refine xj_aloadn 0 dX1_readE_142 rfl rfl ?_
      refine gfX1_15 dX1_readE_143 rfl ?_
      refine xj_iconst (v := -1) dX1_readE_146 ci_m1 ?_
      refine pfX1_106 dX1_readE_147 rfl ?_
      refine xj_aloadn 0 dX1_readE_150 rfl rfl ?_
      refine gfX1_15 dX1_readE_151 rfl ?_
      refine xj_aloadn 0 dX1_readE_154 rfl rfl ?_
      refine xj_iconst (v := 4) dX1_readE_155 ci_4 ?_
      refine xj_cVi (argv := [.int (4 : Int32)]) (rest := [.ref 2]) dX1_readE_156 (kX1_nextNumber (4 : Int32) (xwi w 2 9 (-1 : Int32))) mkX1_nextNumber tw780 rfl rfl rfl rfl rfl rfl (fun x1 w2 => ?_)
      refine pfX1_115 dX1_readE_159 rfl ?_
      refine xj_goto (tgt := 190) dX1_readE_162 rfl ?_
      exact xj_rv dX1_readE_190 rfl
    · exact tX1_readE_j165 _ _
  · exact tX1_readE_j165 _ _
set_option maxRecDepth 20000 in
def sX1_readE_j102 (a2 : Int32) (a3 : Int32) (b0 : Int32) (w : xW) : Option (Unit × xW) :=
  sX1_readE_j127 a2 (xwi (xwi (xwi w 2 10 b0) 2 11 (a3 >>> ((6 : Int32) &&& 31))) 2 9 (a3 &&& (7 : Int32)))
set_option maxRecDepth 20000 in
theorem tX1_readE_j102 (a2 : Int32) (a3 : Int32) (b0 : Int32) (w : xW) : xJ ιV mX1_readE lC (0, 0) 102 [(0, .ref 3), (2, .int a2), (3, .int a3)] [.int b0, .ref 2] w (sX1_readE_j102 a2 a3 b0 w) := by
  unfold sX1_readE_j102
  refine pfX1_109 dX1_readE_102 rfl ?_
  refine xj_aloadn 0 dX1_readE_105 rfl rfl ?_
  refine gfX1_15 dX1_readE_106 rfl ?_
  refine xj_iloadn 2 dX1_readE_109 rfl rfl ?_
  refine xj_bipush (v := 6) dX1_readE_110 cb_6 ?_
  refine xj_ishr dX1_readE_112 ?_
  refine pfX1_112 dX1_readE_113 rfl ?_
  refine xj_aloadn 0 dX1_readE_116 rfl rfl ?_
  refine gfX1_15 dX1_readE_117 rfl ?_
  refine xj_iloadn 2 dX1_readE_120 rfl rfl ?_
  refine xj_bipush (v := 7) dX1_readE_121 cb_7 ?_
  refine xj_iand dX1_readE_123 ?_
  refine pfX1_106 dX1_readE_124 rfl ?_
  refine xj_sub (lv2 := [(0, .ref 3), (2, .int a2)]) [0, 1] rfl ?_
  exact tX1_readE_j127 _ _
set_option maxRecDepth 20000 in
def sX1_readE (w : xW) : Option (Unit × xW) :=
  xbd (sX1_nextByte w) (fun x1 w2 => (if (x1 >>> ((6 : Int32) &&& 31)) = (3 : Int32) then some ((), (xwi (xwi w2 2 8 ((x1 >>> ((3 : Int32) &&& 31)) &&& (7 : Int32))) 2 7 (x1 &&& (7 : Int32)))) else (if (x1 &&& (7 : Int32)) = (4 : Int32) then xbd (sX1_nextByte (xwi (xwi (xwi (xwi w2 2 8 ((x1 >>> ((3 : Int32) &&& 31)) &&& (7 : Int32))) 2 7 (x1 &&& (7 : Int32))) 2 6 (1 : Int32)) 2 9 (x1 &&& (7 : Int32)))) (fun x3 w4 => xlet ((x3 >>> ((3 : Int32) &&& 31)) &&& (7 : Int32)) (fun x5 => (if x5 = (4 : Int32) then sX1_readE_j102 (x1 >>> ((6 : Int32) &&& 31)) x3 (-1 : Int32) w4 else sX1_readE_j102 (x1 >>> ((6 : Int32) &&& 31)) x3 x5 w4))) else sX1_readE_j127 (x1 >>> ((6 : Int32) &&& 31)) (xwi (xwi (xwi (xwi w2 2 8 ((x1 >>> ((3 : Int32) &&& 31)) &&& (7 : Int32))) 2 7 (x1 &&& (7 : Int32))) 2 6 (1 : Int32)) 2 9 (x1 &&& (7 : Int32))))))
set_option maxRecDepth 20000 in
theorem tX1_readE (w : xW) : xJ ιV mX1_readE lC (0, 0) 0 [(0, .ref 3)] [] w (sX1_readE w) := by
  unfold sX1_readE
  refine xj_aloadn 0 dX1_readE_0 rfl rfl ?_
  refine xj_cVi (argv := []) (rest := []) dX1_readE_1 (kX1_nextByte w) mkX1_nextByte tw635 rfl rfl rfl rfl rfl rfl (fun x1 w2 => ?_)
  refine xj_istoren (lv2 := [(1, .int x1), (0, .ref 3)]) dX1_readE_4 rfl (Nat.le_of_ble_eq_true rfl) rfl ?_
  refine xj_iloadn 0 dX1_readE_5 rfl rfl ?_
  refine xj_bipush (v := 6) dX1_readE_6 cb_6 ?_
  refine xj_ishr dX1_readE_8 ?_
  refine xj_istoren (lv2 := [(2, .int (x1 >>> ((6 : Int32) &&& 31))), (1, .int x1), (0, .ref 3)]) dX1_readE_9 rfl (Nat.le_of_ble_eq_true rfl) rfl ?_
  refine xj_aloadn 2 dX1_readE_10 rfl rfl ?_
  refine gfX1_15 dX1_readE_11 rfl ?_
  refine xj_iloadn 1 dX1_readE_14 rfl rfl ?_
  refine xj_iconst (v := 3) dX1_readE_15 ci_3 ?_
  refine xj_ishr dX1_readE_16 ?_
  refine xj_bipush (v := 7) dX1_readE_17 cb_7 ?_
  refine xj_iand dX1_readE_19 ?_
  refine pfX1_97 dX1_readE_20 rfl ?_
  refine xj_aloadn 2 dX1_readE_23 rfl rfl ?_
  refine gfX1_15 dX1_readE_24 rfl ?_
  refine xj_iloadn 1 dX1_readE_27 rfl rfl ?_
  refine xj_bipush (v := 7) dX1_readE_28 cb_7 ?_
  refine xj_iand dX1_readE_30 ?_
  refine pfX1_100 dX1_readE_31 rfl ?_
  refine xj_iloadn 0 dX1_readE_34 rfl rfl ?_
  refine xj_iconst (v := 3) dX1_readE_35 ci_3 ?_
  refine xj_ine (tgt := 40) dX1_readE_36 rfl ?_ ?_
  · exact xj_rv dX1_readE_39 rfl
  · refine xj_aloadn 2 dX1_readE_40 rfl rfl ?_
    refine gfX1_15 dX1_readE_41 rfl ?_
    refine xj_iconst (v := 1) dX1_readE_44 ci_1 ?_
    refine pfX1_103 dX1_readE_45 rfl (Or.inr rfl) ?_
    refine xj_aloadn 2 dX1_readE_48 rfl rfl ?_
    refine gfX1_15 dX1_readE_49 rfl ?_
    refine xj_aloadn 2 dX1_readE_52 rfl rfl ?_
    refine gfX1_15 dX1_readE_53 rfl ?_
    refine gfX1_100 (v := (x1 &&& (7 : Int32))) dX1_readE_56 rfl rfl ?_
    refine pfX1_106 dX1_readE_59 rfl ?_
    refine xj_aloadn 2 dX1_readE_62 rfl rfl ?_
    refine gfX1_15 dX1_readE_63 rfl ?_
    refine gfX1_100 (v := (x1 &&& (7 : Int32))) dX1_readE_66 rfl rfl ?_
    refine xj_iconst (v := 4) dX1_readE_69 ci_4 ?_
    refine xj_ine (tgt := 127) dX1_readE_70 rfl ?_ ?_
    · refine xj_aloadn 2 dX1_readE_73 rfl rfl ?_
      refine xj_cVi (argv := []) (rest := []) dX1_readE_74 (kX1_nextByte (xwi (xwi (xwi (xwi w2 2 8 ((x1 >>> ((3 : Int32) &&& 31)) &&& (7 : Int32))) 2 7 (x1 &&& (7 : Int32))) 2 6 (1 : Int32)) 2 9 (x1 &&& (7 : Int32)))) mkX1_nextByte tw635 rfl rfl rfl rfl rfl rfl (fun x3 w4 => ?_)
      refine xj_istoren (lv2 := [(3, .int x3), (2, .int (x1 >>> ((6 : Int32) &&& 31))), (1, .int x1), (0, .ref 3)]) dX1_readE_77 rfl (Nat.le_of_ble_eq_true rfl) rfl ?_
      refine xj_iloadn 0 dX1_readE_78 rfl rfl ?_
      refine xj_iconst (v := 3) dX1_readE_79 ci_3 ?_
      refine xj_ishr dX1_readE_80 ?_
      refine xj_bipush (v := 7) dX1_readE_81 cb_7 ?_
      refine xj_iand dX1_readE_83 ?_
      refine xj_leti (fun x5 => ?_)
      refine xj_istore (lv2 := [(4, .int x5), (3, .int x3), (2, .int (x1 >>> ((6 : Int32) &&& 31))), (1, .int x1), (0, .ref 3)]) dX1_readE_84 (Nat.le_of_ble_eq_true rfl) rfl ?_
      refine xj_aloadn 4 dX1_readE_86 rfl rfl ?_
      refine gfX1_15 dX1_readE_87 rfl ?_
      refine xj_iload 0 dX1_readE_90 rfl ?_
      refine xj_iconst (v := 4) dX1_readE_92 ci_4 ?_
      refine xj_ine (tgt := 100) dX1_readE_93 rfl ?_ ?_
      · refine xj_iconst (v := -1) dX1_readE_96 ci_m1 ?_
        refine xj_goto (tgt := 102) dX1_readE_97 rfl ?_
        refine xj_sub (lv2 := [(0, .ref 3), (2, .int (x1 >>> ((6 : Int32) &&& 31))), (3, .int x3)]) [4, 2, 1] rfl ?_
        exact tX1_readE_j102 _ _ _ _
      · refine xj_iload 0 dX1_readE_100 rfl ?_
        refine xj_sub (lv2 := [(0, .ref 3), (2, .int (x1 >>> ((6 : Int32) &&& 31))), (3, .int x3)]) [4, 2, 1] rfl ?_
        exact tX1_readE_j102 _ _ _ _
    · refine xj_sub (lv2 := [(0, .ref 3), (2, .int (x1 >>> ((6 : Int32) &&& 31)))]) [2, 0] rfl ?_
      exact tX1_readE_j127 _ _
theorem kX1_readE (w : xW) : xMet jV mX1_readE lC (0, 0) [.ref 3] w (sX1_readE w) := xj_met lC_ok (by decide) (Nat.le_of_ble_eq_true rfl) (Nat.zero_le _) (Nat.zero_le _) (tX1_readE w)
