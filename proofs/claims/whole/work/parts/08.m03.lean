/-! the reference, method by method: 3 -/
set_option maxRecDepth 20000 in
def sX12_fault (w : xW) : Option (Int32 × xW) :=
  some ((w.1 0 10), (xwi w 0 0 (0 : Int32)))
set_option maxRecDepth 20000 in
theorem tX12_fault (w : xW) : xJ ιI mX12_fault lM (0, 0) 0 [(0, .ref 0)] [] w (sX12_fault w) := by
  unfold sX12_fault
  refine xj_aloadn 0 dX12_fault_0 rfl rfl ?_
  refine xj_iconst (v := 0) dX12_fault_1 ci_0 ?_
  refine pfX12_53 dX12_fault_2 rfl ?_
  refine xj_aloadn 0 dX12_fault_5 rfl rfl ?_
  refine gfX12_192 (v := (w.1 0 10)) dX12_fault_6 rfl rfl ?_
  exact xj_ri dX12_fault_9 rfl
theorem kX12_fault (w : xW) : xMet jI mX12_fault lM (0, 0) [.ref 0] w (sX12_fault w) := xj_met lM_ok (by decide) (Nat.le_of_ble_eq_true rfl) (Nat.zero_le _) (Nat.zero_le _) (tX12_fault w)
set_option maxRecDepth 20000 in
def sX12_place_ (w : xW) : Option (Int32 × xW) :=
  (if 0 < (w.1 0 10) then some ((w.1 0 11), (xwi w 0 0 (0 : Int32))) else some ((-1 : Int32), (xwi w 0 0 (0 : Int32))))
set_option maxRecDepth 20000 in
theorem tX12_place_ (w : xW) : xJ ιI mX12_place_ lM (0, 0) 0 [(0, .ref 0)] [] w (sX12_place_ w) := by
  unfold sX12_place_
  refine xj_aloadn 0 dX12_place__0 rfl rfl ?_
  refine xj_iconst (v := 0) dX12_place__1 ci_0 ?_
  refine pfX12_53 dX12_place__2 rfl ?_
  refine xj_aloadn 0 dX12_place__5 rfl rfl ?_
  refine gfX12_192 (v := (w.1 0 10)) dX12_place__6 rfl rfl ?_
  refine xj_ifle (tgt := 19) dX12_place__9 rfl ?_ ?_
  · refine xj_aloadn 0 dX12_place__12 rfl rfl ?_
    refine gfX12_23 (v := (w.1 0 11)) dX12_place__13 rfl rfl ?_
    refine xj_goto (tgt := 20) dX12_place__16 rfl ?_
    exact xj_ri dX12_place__20 rfl
  · refine xj_iconst (v := -1) dX12_place__19 ci_m1 ?_
    exact xj_ri dX12_place__20 rfl
theorem kX12_place_ (w : xW) : xMet jI mX12_place_ lM (0, 0) [.ref 0] w (sX12_place_ w) := xj_met lM_ok (by decide) (Nat.le_of_ble_eq_true rfl) (Nat.zero_le _) (Nat.zero_le _) (tX12_place_ w)
set_option maxRecDepth 20000 in
def sX12_unit (p1 : Int32) (w : xW) : Option (Int32 × xW) :=
  (if (w.1 0 9) = 0 then some ((-1 : Int32), (xwi w 0 0 (0 : Int32))) else xbd (sX12_isIn p1.toInt64 (0 : Int64) ((w.1 0 2).toInt64 - (1 : Int64)) (xwi w 0 0 (0 : Int32))) (fun x1 w2 => (if x1 = 0 then some ((-1 : Int32), w2) else (if xin p1 2048 then some ((w2.1 5 p1.toNatClampNeg), w2) else none))))
set_option maxRecDepth 20000 in
theorem tX12_unit (p1 : Int32) (w : xW) : xJ ιI mX12_unit lM (0, 0) 0 [(0, .ref 0), (1, .int p1)] [] w (sX12_unit p1 w) := by
  unfold sX12_unit
  refine xj_aloadn 0 dX12_unit_0 rfl rfl ?_
  refine xj_iconst (v := 0) dX12_unit_1 ci_0 ?_
  refine pfX12_53 dX12_unit_2 rfl ?_
  refine xj_aloadn 0 dX12_unit_5 rfl rfl ?_
  refine gfX12_195 (v := (w.1 0 9)) dX12_unit_6 rfl rfl ?_
  refine xj_ifeq (tgt := 37) dX12_unit_9 rfl ?_ ?_
  · refine xj_iconst (v := -1) dX12_unit_37 ci_m1 ?_
    exact xj_ri dX12_unit_38 rfl
  · refine xj_iloadn 1 dX12_unit_12 rfl rfl ?_
    refine xj_i2l dX12_unit_13 ?_
    refine xj_lconst (v := 0) dX12_unit_14 cl_0 ?_
    refine xj_aloadn 0 dX12_unit_15 rfl rfl ?_
    refine gfX12_59 (v := (w.1 0 2)) dX12_unit_16 rfl rfl ?_
    refine xj_i2l dX12_unit_19 ?_
    refine xj_lconst (v := 1) dX12_unit_20 cl_1 ?_
    refine xj_lsub dX12_unit_21 ?_
    refine xj_cSi (argv := [.long p1.toInt64, .long (0 : Int64), .long ((w.1 0 2).toInt64 - (1 : Int64))]) (rest := []) dX12_unit_22 (kX12_isIn p1.toInt64 (0 : Int64) ((w.1 0 2).toInt64 - (1 : Int64)) (xwi w 0 0 (0 : Int32))) mkX12_isIn tw2150 rfl rfl rfl rfl (fun x1 w2 => ?_)
    refine xj_ifeq (tgt := 37) dX12_unit_25 rfl ?_ ?_
    · refine xj_iconst (v := -1) dX12_unit_37 ci_m1 ?_
      exact xj_ri dX12_unit_38 rfl
    · refine xj_aloadn 0 dX12_unit_28 rfl rfl ?_
      refine gfX12_27 dX12_unit_29 rfl ?_
      refine xj_iloadn 1 dX12_unit_32 rfl rfl ?_
      refine xj_iald (k := 5) dX12_unit_33 rfl ?_
      refine xj_goto (tgt := 38) dX12_unit_34 rfl ?_
      exact xj_ri dX12_unit_38 rfl
theorem kX12_unit (p1 : Int32) (w : xW) : xMet jI mX12_unit lM (0, 0) [.ref 0, .int p1] w (sX12_unit p1 w) := xj_met lM_ok (by decide) (Nat.le_of_ble_eq_true rfl) (Nat.zero_le _) (Nat.zero_le _) (tX12_unit p1 w)
set_option maxRecDepth 20000 in
def sX12_size (p1 : Int32) (w : xW) : Option (Int32 × xW) :=
  xbd (sX12_isIn p1.toInt64 (0 : Int64) ((w.1 0 2).toInt64 - (1 : Int64)) (xwi w 0 0 (0 : Int32))) (fun x1 w2 => (if x1 = 0 then some ((0 : Int32), w2) else xbd (sX12_take p1 w2) (fun x3 w4 => (if x3 = 0 then some ((0 : Int32), w4) else some ((w4.1 0 30), w4)))))
set_option maxRecDepth 20000 in
theorem tX12_size (p1 : Int32) (w : xW) : xJ ιI mX12_size lM (0, 0) 0 [(0, .ref 0), (1, .int p1)] [] w (sX12_size p1 w) := by
  unfold sX12_size
  refine xj_aloadn 0 dX12_size_0 rfl rfl ?_
  refine xj_iconst (v := 0) dX12_size_1 ci_0 ?_
  refine pfX12_53 dX12_size_2 rfl ?_
  refine xj_iloadn 1 dX12_size_5 rfl rfl ?_
  refine xj_i2l dX12_size_6 ?_
  refine xj_lconst (v := 0) dX12_size_7 cl_0 ?_
  refine xj_aloadn 0 dX12_size_8 rfl rfl ?_
  refine gfX12_59 (v := (w.1 0 2)) dX12_size_9 rfl rfl ?_
  refine xj_i2l dX12_size_12 ?_
  refine xj_lconst (v := 1) dX12_size_13 cl_1 ?_
  refine xj_lsub dX12_size_14 ?_
  refine xj_cSi (argv := [.long p1.toInt64, .long (0 : Int64), .long ((w.1 0 2).toInt64 - (1 : Int64))]) (rest := []) dX12_size_15 (kX12_isIn p1.toInt64 (0 : Int64) ((w.1 0 2).toInt64 - (1 : Int64)) (xwi w 0 0 (0 : Int32))) mkX12_isIn tw2150 rfl rfl rfl rfl (fun x1 w2 => ?_)
  refine xj_ifeq (tgt := 36) dX12_size_18 rfl ?_ ?_
  · refine xj_iconst (v := 0) dX12_size_36 ci_0 ?_
    exact xj_ri dX12_size_37 rfl
  · refine xj_aloadn 0 dX12_size_21 rfl rfl ?_
    refine xj_iloadn 1 dX12_size_22 rfl rfl ?_
    refine xj_cVi (argv := [.int p1]) (rest := []) dX12_size_23 (kX12_take p1 w2) mkX12_take tw2059 rfl rfl rfl rfl rfl rfl (fun x3 w4 => ?_)
    refine xj_ifeq (tgt := 36) dX12_size_26 rfl ?_ ?_
    · refine xj_iconst (v := 0) dX12_size_36 ci_0 ?_
      exact xj_ri dX12_size_37 rfl
    · refine xj_aloadn 0 dX12_size_29 rfl rfl ?_
      refine gfX12_138 (v := (w4.1 0 30)) dX12_size_30 rfl rfl ?_
      refine xj_goto (tgt := 37) dX12_size_33 rfl ?_
      exact xj_ri dX12_size_37 rfl
theorem kX12_size (p1 : Int32) (w : xW) : xMet jI mX12_size lM (0, 0) [.ref 0, .int p1] w (sX12_size p1 w) := xj_met lM_ok (by decide) (Nat.le_of_ble_eq_true rfl) (Nat.zero_le _) (Nat.zero_le _) (tX12_size p1 w)
set_option maxRecDepth 20000 in
def sX12_say (p1 : Int32) (w : xW) : Option (Unit × xW) :=
  (if xin (w.1 0 16) 80 then some ((), (xwi (xwi w 8 ((w.1 0 16).toNatClampNeg) p1) 0 16 ((w.1 0 16) + (1 : Int32)))) else none)
set_option maxRecDepth 20000 in
theorem tX12_say (p1 : Int32) (w : xW) : xJ ιV mX12_say lM (0, 0) 0 [(0, .ref 0), (1, .int p1)] [] w (sX12_say p1 w) := by
  unfold sX12_say
  refine xj_aloadn 0 dX12_say_0 rfl rfl ?_
  refine gfX12_37 dX12_say_1 rfl ?_
  refine xj_aloadn 0 dX12_say_4 rfl rfl ?_
  refine gfX12_220 (v := (w.1 0 16)) dX12_say_5 rfl rfl ?_
  refine xj_iloadn 1 dX12_say_8 rfl rfl ?_
  refine xj_iast (k := 8) dX12_say_9 rfl ?_
  refine xj_aloadn 0 dX12_say_10 rfl rfl ?_
  refine xj_dup dX12_say_11 rfl ?_
  refine gfX12_220 (v := (w.1 0 16)) dX12_say_12 rfl rfl ?_
  refine xj_iconst (v := 1) dX12_say_15 ci_1 ?_
  refine xj_iadd dX12_say_16 ?_
  refine pfX12_220 dX12_say_17 rfl ?_
  exact xj_rv dX12_say_20 rfl
theorem kX12_say (p1 : Int32) (w : xW) : xMet jV mX12_say lM (0, 0) [.ref 0, .int p1] w (sX12_say p1 w) := xj_met lM_ok (by decide) (Nat.le_of_ble_eq_true rfl) (Nat.zero_le _) (Nat.zero_le _) (tX12_say p1 w)
set_option maxRecDepth 20000 in
def sX12_sayWord_l5 : Nat → Nat → Int32 → Int32 → Int32 → xW → Option (Unit × xW)
  | 0, _, _, _, _, _ => none
  | n + 1, a1, a2, a3, a4, w =>
  (if a1 < strN then (if a4 < (strLen a1) then (if a1 < strN ∧ xin a4 (strLenN a1) then (if (strAt a1 a4) = (32 : Int32) then (sX12_sayWord_l5 n) a1 a2 (a3 + (1 : Int32)) (a4 + (1 : Int32)) w else (if a3 = a2 then (if a1 < strN ∧ xin a4 (strLenN a1) then xbd (sX12_say (strAt a1 a4) w) (fun _ w1 => (sX12_sayWord_l5 n) a1 a2 a3 (a4 + (1 : Int32)) w1) else none) else (sX12_sayWord_l5 n) a1 a2 a3 (a4 + (1 : Int32)) w)) else none) else some ((), w)) else none)
set_option maxRecDepth 20000 in
theorem tX12_sayWord_l5 : ∀ (n : Nat) (a1 : Nat) (a2 : Int32) (a3 : Int32) (a4 : Int32) (w : xW), xJ ιV mX12_sayWord lM (0, 0) 5 [(0, .ref 0), (1, .ref (1000 + a1)), (2, .int a2), (3, .int a3), (4, .int a4)] [] w (sX12_sayWord_l5 n a1 a2 a3 a4 w) := by
  intro n
  induction n with
  | zero => intros; exact xj_none
  | succ n ih =>
    intro a1 a2 a3 a4 w
    rw [sX12_sayWord_l5]
    refine xj_iload 4 dX12_sayWord_5 rfl ?_
    refine xj_aloadn 1 dX12_sayWord_7 rfl rfl ?_
    refine xj_slen (rest := [.int a4]) lM_ok lM_str dX12_sayWord_8 tw2193 rfl rfl ?_
    refine xj_ige (tgt := 52) dX12_sayWord_11 rfl ?_ ?_
    · refine xj_aloadn 1 dX12_sayWord_14 rfl rfl ?_
      refine xj_iload 4 dX12_sayWord_15 rfl ?_
      refine xj_schar (rest := []) lM_ok lM_str dX12_sayWord_17 tw2194 rfl rfl ?_
      refine xj_bipush (v := 32) dX12_sayWord_20 cb_32 ?_
      refine xj_ine (tgt := 31) dX12_sayWord_22 rfl ?_ ?_
      · refine xj_iinc (n := 3) (lv2 := [(3, .int (a3 + (1 : Int32))), (0, .ref 0), (1, .ref (1000 + a1)), (2, .int a2), (4, .int a4)]) dX12_sayWord_25 rfl ci_1 (Nat.le_of_ble_eq_true rfl) rfl ?_
        refine xj_goto (tgt := 46) dX12_sayWord_28 rfl ?_
        refine xj_iinc (n := 4) (lv2 := [(4, .int (a4 + (1 : Int32))), (3, .int (a3 + (1 : Int32))), (0, .ref 0), (1, .ref (1000 + a1)), (2, .int a2)]) dX12_sayWord_46 rfl ci_1 (Nat.le_of_ble_eq_true rfl) rfl ?_
        refine xj_goto (tgt := 5) dX12_sayWord_49 rfl ?_
        refine xj_sub (lv2 := [(0, .ref 0), (1, .ref (1000 + a1)), (2, .int a2), (3, .int (a3 + (1 : Int32))), (4, .int (a4 + (1 : Int32)))]) [2, 3, 4, 1, 0] rfl ?_
        exact ih _ _ _ _ _
      · refine xj_iloadn 3 dX12_sayWord_31 rfl rfl ?_
        refine xj_iloadn 2 dX12_sayWord_32 rfl rfl ?_
        refine xj_ine (tgt := 46) dX12_sayWord_33 rfl ?_ ?_
        · refine xj_aloadn 0 dX12_sayWord_36 rfl rfl ?_
          refine xj_aloadn 1 dX12_sayWord_37 rfl rfl ?_
          refine xj_iload 4 dX12_sayWord_38 rfl ?_
          refine xj_schar (rest := [.ref 0]) lM_ok lM_str dX12_sayWord_40 tw2194 rfl rfl ?_
          refine xj_cVv (argv := [.int (strAt a1 a4)]) (rest := []) dX12_sayWord_43 (kX12_say (strAt a1 a4) w) mkX12_say tw2195 rfl rfl rfl rfl rfl rfl (fun _ w1 => ?_)
          refine xj_iinc (n := 4) (lv2 := [(4, .int (a4 + (1 : Int32))), (0, .ref 0), (1, .ref (1000 + a1)), (2, .int a2), (3, .int a3)]) dX12_sayWord_46 rfl ci_1 (Nat.le_of_ble_eq_true rfl) rfl ?_
          refine xj_goto (tgt := 5) dX12_sayWord_49 rfl ?_
          refine xj_sub (lv2 := [(0, .ref 0), (1, .ref (1000 + a1)), (2, .int a2), (3, .int a3), (4, .int (a4 + (1 : Int32)))]) [1, 2, 3, 4, 0] rfl ?_
          exact ih _ _ _ _ _
        · refine xj_iinc (n := 4) (lv2 := [(4, .int (a4 + (1 : Int32))), (0, .ref 0), (1, .ref (1000 + a1)), (2, .int a2), (3, .int a3)]) dX12_sayWord_46 rfl ci_1 (Nat.le_of_ble_eq_true rfl) rfl ?_
          refine xj_goto (tgt := 5) dX12_sayWord_49 rfl ?_
          refine xj_sub (lv2 := [(0, .ref 0), (1, .ref (1000 + a1)), (2, .int a2), (3, .int a3), (4, .int (a4 + (1 : Int32)))]) [1, 2, 3, 4, 0] rfl ?_
          exact ih _ _ _ _ _
    · exact xj_rv dX12_sayWord_52 rfl
set_option maxRecDepth 20000 in
def sX12_sayWord (p1 : Nat) (p2 : Int32) (w : xW) : Option (Unit × xW) :=
  sX12_sayWord_l5 70000 p1 p2 (0 : Int32) (0 : Int32) w
set_option maxRecDepth 20000 in
theorem tX12_sayWord (p1 : Nat) (p2 : Int32) (w : xW) : xJ ιV mX12_sayWord lM (0, 0) 0 [(0, .ref 0), (1, .ref (1000 + p1)), (2, .int p2)] [] w (sX12_sayWord p1 p2 w) := by
  unfold sX12_sayWord
  refine xj_iconst (v := 0) dX12_sayWord_0 ci_0 ?_
  refine xj_istoren (lv2 := [(3, .int (0 : Int32)), (0, .ref 0), (1, .ref (1000 + p1)), (2, .int p2)]) dX12_sayWord_1 rfl (Nat.le_of_ble_eq_true rfl) rfl ?_
  refine xj_iconst (v := 0) dX12_sayWord_2 ci_0 ?_
  refine xj_istore (lv2 := [(4, .int (0 : Int32)), (3, .int (0 : Int32)), (0, .ref 0), (1, .ref (1000 + p1)), (2, .int p2)]) dX12_sayWord_3 (Nat.le_of_ble_eq_true rfl) rfl ?_
  refine xj_sub (lv2 := [(0, .ref 0), (1, .ref (1000 + p1)), (2, .int p2), (3, .int (0 : Int32)), (4, .int (0 : Int32))]) [2, 3, 4, 1, 0] rfl ?_
  exact tX12_sayWord_l5 _ _ _ _ _ _
theorem kX12_sayWord (p1 : Nat) (p2 : Int32) (w : xW) : xMet jV mX12_sayWord lM (0, 0) [.ref 0, .ref (1000 + p1), .int p2] w (sX12_sayWord p1 p2 w) := xj_met lM_ok (by decide) (Nat.le_of_ble_eq_true rfl) (Nat.zero_le _) (Nat.zero_le _) (tX12_sayWord p1 p2 w)
set_option maxRecDepth 20000 in
def sX12_sayNumber_l50 : Nat → Int64 → Int64 → xW → Option (Unit × xW)
  | 0, _, _, _ => none
  | n + 1, a3, a5, w =>
  (if (0 : Int64) < a5 then (if ¬ a5 = 0 then (if ¬ (10 : Int64) = 0 then xbd (sX12_say ((48 : Int32) + ((a3 / a5) - (a3 / a5) / (10 : Int64) * (10 : Int64)).toInt32) w) (fun _ w1 => (if ¬ (10 : Int64) = 0 then (sX12_sayNumber_l50 n) a3 (a5 / (10 : Int64)) w1 else none)) else none) else none) else some ((), w))
set_option maxRecDepth 20000 in
theorem tX12_sayNumber_l50 : ∀ (n : Nat) (a3 : Int64) (a5 : Int64) (w : xW), xJ ιV mX12_sayNumber lM (0, 0) 50 [(0, .ref 0), (3, .long a3), (5, .long a5)] [] w (sX12_sayNumber_l50 n a3 a5 w) := by
  intro n
  induction n with
  | zero => intros; exact xj_none
  | succ n ih =>
    intro a3 a5 w
    rw [sX12_sayNumber_l50]
    refine xj_lload 2 dX12_sayNumber_50 rfl ?_
    refine xj_lconst (v := 0) dX12_sayNumber_52 cl_0 ?_
    refine xj_lle (tgt := 84) dX12_sayNumber_53 dX12_sayNumber_54 rfl ?_ ?_
    · refine xj_aloadn 0 dX12_sayNumber_57 rfl rfl ?_
      refine xj_bipush (v := 48) dX12_sayNumber_58 cb_48 ?_
      refine xj_lloadn 1 dX12_sayNumber_60 rfl rfl ?_
      refine xj_lload 2 dX12_sayNumber_61 rfl ?_
      refine xj_ldiv dX12_sayNumber_63 ?_
      refine xj_ldc2 (v := 10) tw2219 dX12_sayNumber_64 ?_
      refine xj_lrem dX12_sayNumber_67 ?_
      refine xj_l2i dX12_sayNumber_68 ?_
      refine xj_iadd dX12_sayNumber_69 ?_
      refine xj_cVv (argv := [.int ((48 : Int32) + ((a3 / a5) - (a3 / a5) / (10 : Int64) * (10 : Int64)).toInt32)]) (rest := []) dX12_sayNumber_70 (kX12_say ((48 : Int32) + ((a3 / a5) - (a3 / a5) / (10 : Int64) * (10 : Int64)).toInt32) w) mkX12_say tw2195 rfl rfl rfl rfl rfl rfl (fun _ w1 => ?_)
      refine xj_lload 2 dX12_sayNumber_73 rfl ?_
      refine xj_ldc2 (v := 10) tw2219 dX12_sayNumber_75 ?_
      refine xj_ldiv dX12_sayNumber_78 ?_
      refine xj_lstore (lv2 := [(5, .long (a5 / (10 : Int64))), (0, .ref 0), (3, .long a3)]) dX12_sayNumber_79 (Nat.le_of_ble_eq_true rfl) rfl ?_
      refine xj_goto (tgt := 50) dX12_sayNumber_81 rfl ?_
      refine xj_sub (lv2 := [(0, .ref 0), (3, .long a3), (5, .long (a5 / (10 : Int64)))]) [1, 2, 0] rfl ?_
      exact ih _ _ _
    · exact xj_rv dX12_sayNumber_84 rfl
set_option maxRecDepth 20000 in
def sX12_sayNumber_l28 : Nat → Int64 → Int64 → xW → Option (Unit × xW)
  | 0, _, _, _ => none
  | n + 1, a3, a5, w =>
  (if ¬ a5 = 0 then (if (a3 / a5) < (10 : Int64) then sX12_sayNumber_l50 70000 a3 a5 w else (sX12_sayNumber_l28 n) a3 (a5 * (10 : Int64)) w) else none)
set_option maxRecDepth 20000 in
theorem tX12_sayNumber_l28 : ∀ (n : Nat) (a3 : Int64) (a5 : Int64) (w : xW), xJ ιV mX12_sayNumber lM (0, 0) 28 [(0, .ref 0), (3, .long a3), (5, .long a5)] [] w (sX12_sayNumber_l28 n a3 a5 w) := by
  intro n
  induction n with
  | zero => intros; exact xj_none
  | succ n ih =>
    intro a3 a5 w
    rw [sX12_sayNumber_l28]
    refine xj_lloadn 1 dX12_sayNumber_28 rfl rfl ?_
    refine xj_lload 2 dX12_sayNumber_29 rfl ?_
    refine xj_ldiv dX12_sayNumber_31 ?_
    refine xj_ldc2 (v := 10) tw2219 dX12_sayNumber_32 ?_
    refine xj_llt (tgt := 50) dX12_sayNumber_35 dX12_sayNumber_36 rfl ?_ ?_
    · exact tX12_sayNumber_l50 _ _ _ _
    · refine xj_lload 2 dX12_sayNumber_39 rfl ?_
      refine xj_ldc2 (v := 10) tw2219 dX12_sayNumber_41 ?_
      refine xj_lmul dX12_sayNumber_44 ?_
      refine xj_lstore (lv2 := [(5, .long (a5 * (10 : Int64))), (0, .ref 0), (3, .long a3)]) dX12_sayNumber_45 (Nat.le_of_ble_eq_true rfl) rfl ?_
      refine xj_goto (tgt := 28) dX12_sayNumber_47 rfl ?_
      refine xj_sub (lv2 := [(0, .ref 0), (3, .long a3), (5, .long (a5 * (10 : Int64)))]) [1, 2, 0] rfl ?_
      exact ih _ _ _
set_option maxRecDepth 20000 in
def sX12_sayNumber_j12 (a1 : Int64) (w : xW) : Option (Unit × xW) :=
  (if a1 < (0 : Int64) then sX12_sayNumber_l28 70000 (-a1) (1 : Int64) w else sX12_sayNumber_l28 70000 a1 (1 : Int64) w)
set_option maxRecDepth 20000 in
theorem tX12_sayNumber_j12 (a1 : Int64) (w : xW) : xJ ιV mX12_sayNumber lM (0, 0) 12 [(0, .ref 0), (1, .long a1)] [] w (sX12_sayNumber_j12 a1 w) := by
  unfold sX12_sayNumber_j12
  refine xj_lloadn 1 dX12_sayNumber_12 rfl rfl ?_
  refine xj_lconst (v := 0) dX12_sayNumber_13 cl_0 ?_
  refine xj_lge (tgt := 23) dX12_sayNumber_14 dX12_sayNumber_15 rfl ?_ ?_
  · refine xj_lloadn 1 dX12_sayNumber_18 rfl rfl ?_
    refine xj_lneg dX12_sayNumber_19 ?_
    refine xj_goto (tgt := 24) dX12_sayNumber_20 rfl ?_
    refine xj_lstoren (lv2 := [(3, .long (-a1)), (0, .ref 0), (1, .long a1)]) dX12_sayNumber_24 rfl (Nat.le_of_ble_eq_true rfl) rfl ?_
    refine xj_lconst (v := 1) dX12_sayNumber_25 cl_1 ?_
    refine xj_lstore (lv2 := [(5, .long (1 : Int64)), (3, .long (-a1)), (0, .ref 0), (1, .long a1)]) dX12_sayNumber_26 (Nat.le_of_ble_eq_true rfl) rfl ?_
    refine xj_sub (lv2 := [(0, .ref 0), (3, .long (-a1)), (5, .long (1 : Int64))]) [2, 1, 0] rfl ?_
    exact tX12_sayNumber_l28 _ _ _ _
  · refine xj_lloadn 1 dX12_sayNumber_23 rfl rfl ?_
    refine xj_lstoren (lv2 := [(3, .long a1), (0, .ref 0), (1, .long a1)]) dX12_sayNumber_24 rfl (Nat.le_of_ble_eq_true rfl) rfl ?_
    refine xj_lconst (v := 1) dX12_sayNumber_25 cl_1 ?_
    refine xj_lstore (lv2 := [(5, .long (1 : Int64)), (3, .long a1), (0, .ref 0), (1, .long a1)]) dX12_sayNumber_26 (Nat.le_of_ble_eq_true rfl) rfl ?_
    refine xj_sub (lv2 := [(0, .ref 0), (3, .long a1), (5, .long (1 : Int64))]) [2, 1, 0] rfl ?_
    exact tX12_sayNumber_l28 _ _ _ _
set_option maxRecDepth 20000 in
def sX12_sayNumber (p1 : Int64) (w : xW) : Option (Unit × xW) :=
  (if p1 < (0 : Int64) then xbd (sX12_say (45 : Int32) w) (fun _ w1 => sX12_sayNumber_j12 p1 w1) else sX12_sayNumber_j12 p1 w)
set_option maxRecDepth 20000 in
theorem tX12_sayNumber (p1 : Int64) (w : xW) : xJ ιV mX12_sayNumber lM (0, 0) 0 [(0, .ref 0), (1, .long p1)] [] w (sX12_sayNumber p1 w) := by
  unfold sX12_sayNumber
  refine xj_lloadn 1 dX12_sayNumber_0 rfl rfl ?_
  refine xj_lconst (v := 0) dX12_sayNumber_1 cl_0 ?_
  refine xj_lge (tgt := 12) dX12_sayNumber_2 dX12_sayNumber_3 rfl ?_ ?_
  · refine xj_aloadn 0 dX12_sayNumber_6 rfl rfl ?_
    refine xj_bipush (v := 45) dX12_sayNumber_7 cb_45 ?_
    refine xj_cVv (argv := [.int (45 : Int32)]) (rest := []) dX12_sayNumber_9 (kX12_say (45 : Int32) w) mkX12_say tw2195 rfl rfl rfl rfl rfl rfl (fun _ w1 => ?_)
    exact tX12_sayNumber_j12 _ _
  · exact tX12_sayNumber_j12 _ _
theorem kX12_sayNumber (p1 : Int64) (w : xW) : xMet jV mX12_sayNumber lM (0, 0) [.ref 0, .long p1] w (sX12_sayNumber p1 w) := xj_met lM_ok (by decide) (Nat.le_of_ble_eq_true rfl) (Nat.zero_le _) (Nat.zero_le _) (tX12_sayNumber p1 w)
set_option maxRecDepth 20000 in
def sX12_sayRegister (p1 : Int32) (p2 : Int32) (w : xW) : Option (Unit × xW) :=
  (if p2 = (1 : Int32) then xbd (sX12_sayWord 2 p1 w) (fun _ w3 => some ((), w3)) else (if p2 = (2 : Int32) then xbd (sX12_sayWord 1 p1 w) (fun _ w2 => some ((), w2)) else xbd (sX12_sayWord 0 p1 w) (fun _ w1 => some ((), w1))))
set_option maxRecDepth 20000 in
theorem tX12_sayRegister (p1 : Int32) (p2 : Int32) (w : xW) : xJ ιV mX12_sayRegister lM (0, 0) 0 [(0, .ref 0), (1, .int p1), (2, .int p2)] [] w (sX12_sayRegister p1 p2 w) := by
  unfold sX12_sayRegister
  refine xj_aloadn 0 dX12_sayRegister_0 rfl rfl ?_
  refine xj_iloadn 2 dX12_sayRegister_1 rfl rfl ?_
  refine xj_iconst (v := 1) dX12_sayRegister_2 ci_1 ?_
  refine xj_ine (tgt := 11) dX12_sayRegister_3 rfl ?_ ?_
  · refine xj_lds (s := 2) (tx := "al cl dl bl ah ch dh bh ") dX12_sayRegister_6 rfl (fun G A U H h => h.2 ("BundleFenceModel", 236, "al cl dl bl ah ch dh bh ", 2) (List.mem_of_getElem? (i := 2) rfl)) ?_
    refine xj_goto (tgt := 23) dX12_sayRegister_8 rfl ?_
    refine xj_iloadn 1 dX12_sayRegister_23 rfl rfl ?_
    refine xj_cVv (argv := [.ref (1000 + 2), .int p1]) (rest := []) dX12_sayRegister_24 (kX12_sayWord 2 p1 w) mkX12_sayWord tw2189 rfl rfl rfl rfl rfl rfl (fun _ w3 => ?_)
    exact xj_rv dX12_sayRegister_27 rfl
  · refine xj_iloadn 2 dX12_sayRegister_11 rfl rfl ?_
    refine xj_iconst (v := 2) dX12_sayRegister_12 ci_2 ?_
    refine xj_ine (tgt := 21) dX12_sayRegister_13 rfl ?_ ?_
    · refine xj_lds (s := 1) (tx := "ax cx dx bx sp bp si di ") dX12_sayRegister_16 rfl (fun G A U H h => h.2 ("BundleFenceModel", 238, "ax cx dx bx sp bp si di ", 1) (List.mem_of_getElem? (i := 1) rfl)) ?_
      refine xj_goto (tgt := 23) dX12_sayRegister_18 rfl ?_
      refine xj_iloadn 1 dX12_sayRegister_23 rfl rfl ?_
      refine xj_cVv (argv := [.ref (1000 + 1), .int p1]) (rest := []) dX12_sayRegister_24 (kX12_sayWord 1 p1 w) mkX12_sayWord tw2189 rfl rfl rfl rfl rfl rfl (fun _ w2 => ?_)
      exact xj_rv dX12_sayRegister_27 rfl
    · refine xj_lds (s := 0) (tx := "eax ecx edx ebx esp ebp esi edi ") dX12_sayRegister_21 rfl (fun G A U H h => h.2 ("BundleFenceModel", 240, "eax ecx edx ebx esp ebp esi edi ", 0) (List.mem_of_getElem? (i := 0) rfl)) ?_
      refine xj_iloadn 1 dX12_sayRegister_23 rfl rfl ?_
      refine xj_cVv (argv := [.ref (1000 + 0), .int p1]) (rest := []) dX12_sayRegister_24 (kX12_sayWord 0 p1 w) mkX12_sayWord tw2189 rfl rfl rfl rfl rfl rfl (fun _ w1 => ?_)
      exact xj_rv dX12_sayRegister_27 rfl
theorem kX12_sayRegister (p1 : Int32) (p2 : Int32) (w : xW) : xMet jV mX12_sayRegister lM (0, 0) [.ref 0, .int p1, .int p2] w (sX12_sayRegister p1 p2 w) := xj_met lM_ok (by decide) (Nat.le_of_ble_eq_true rfl) (Nat.zero_le _) (Nat.zero_le _) (tX12_sayRegister p1 p2 w)
set_option maxRecDepth 20000 in
def sX12_sayE_j154 (w : xW) : Option (Unit × xW) :=
  xbd (sX12_sayNumber ((w.1 0 28).toInt64) w) (fun _ w1 => xbd (sX12_say (93 : Int32) w1) (fun _ w2 => some ((), w2)))
set_option maxRecDepth 20000 in
theorem tX12_sayE_j154 (w : xW) : xJ ιV mX12_sayE lM (0, 0) 154 [(0, .ref 0)] [] w (sX12_sayE_j154 w) := by
  unfold sX12_sayE_j154
  refine xj_aloadn 0 dX12_sayE_154 rfl rfl ?_
  refine xj_aloadn 0 dX12_sayE_155 rfl rfl ?_
  refine gfX12_100 (v := (w.1 0 28)) dX12_sayE_156 rfl rfl ?_
  refine xj_i2l dX12_sayE_159 ?_
  refine xj_cVv (argv := [.long ((w.1 0 28).toInt64)]) (rest := []) dX12_sayE_160 (kX12_sayNumber ((w.1 0 28).toInt64) w) mkX12_sayNumber tw2215 rfl rfl rfl rfl rfl rfl (fun _ w1 => ?_)
  refine xj_aloadn 0 dX12_sayE_163 rfl rfl ?_
  refine xj_bipush (v := 93) dX12_sayE_164 cb_93 ?_
  refine xj_cVv (argv := [.int (93 : Int32)]) (rest := []) dX12_sayE_166 (kX12_say (93 : Int32) w1) mkX12_say tw2195 rfl rfl rfl rfl rfl rfl (fun _ w2 => ?_)
  exact xj_rv dX12_sayE_169 rfl
set_option maxRecDepth 20000 in
def sX12_sayE_j137 (a1 : Int32) (w : xW) : Option (Unit × xW) :=
  (if a1 = 0 then sX12_sayE_j154 w else (if 0 < (w.1 0 28) then xbd (sX12_say (43 : Int32) w) (fun _ w1 => sX12_sayE_j154 w1) else sX12_sayE_j154 w))
set_option maxRecDepth 20000 in
theorem tX12_sayE_j137 (a1 : Int32) (w : xW) : xJ ιV mX12_sayE lM (0, 0) 137 [(0, .ref 0), (1, .int a1)] [] w (sX12_sayE_j137 a1 w) := by
  unfold sX12_sayE_j137
  refine xj_iloadn 1 dX12_sayE_137 rfl rfl ?_
  refine xj_ifeq (tgt := 154) dX12_sayE_138 rfl ?_ ?_
  · refine xj_sub (lv2 := [(0, .ref 0)]) [0] rfl ?_
    exact tX12_sayE_j154 _
  · refine xj_aloadn 0 dX12_sayE_141 rfl rfl ?_
    refine gfX12_100 (v := (w.1 0 28)) dX12_sayE_142 rfl rfl ?_
    refine xj_ifle (tgt := 154) dX12_sayE_145 rfl ?_ ?_
    · refine xj_aloadn 0 dX12_sayE_148 rfl rfl ?_
      refine xj_bipush (v := 43) dX12_sayE_149 cb_43 ?_
      refine xj_cVv (argv := [.int (43 : Int32)]) (rest := []) dX12_sayE_151 (kX12_say (43 : Int32) w) mkX12_say tw2195 rfl rfl rfl rfl rfl rfl (fun _ w1 => ?_)
      refine xj_sub (lv2 := [(0, .ref 0)]) [0] rfl ?_
      exact tX12_sayE_j154 _
    · refine xj_sub (lv2 := [(0, .ref 0)]) [0] rfl ?_
      exact tX12_sayE_j154 _
set_option maxRecDepth 20000 in
def sX12_sayE_j126 (a1 : Int32) (w : xW) : Option (Unit × xW) :=
  (if a1 = 0 then sX12_sayE_j137 a1 w else (if (w.1 0 28) = 0 then xbd (sX12_say (93 : Int32) w) (fun _ w1 => some ((), w1)) else sX12_sayE_j137 a1 w))
set_option maxRecDepth 20000 in
theorem tX12_sayE_j126 (a1 : Int32) (w : xW) : xJ ιV mX12_sayE lM (0, 0) 126 [(0, .ref 0), (1, .int a1)] [] w (sX12_sayE_j126 a1 w) := by
  unfold sX12_sayE_j126
  refine xj_iloadn 1 dX12_sayE_126 rfl rfl ?_
  refine xj_ifeq (tgt := 137) dX12_sayE_127 rfl ?_ ?_
  · exact tX12_sayE_j137 _ _
  · refine xj_aloadn 0 dX12_sayE_130 rfl rfl ?_
    refine gfX12_100 (v := (w.1 0 28)) dX12_sayE_131 rfl rfl ?_
    refine xj_ifeq (tgt := 163) dX12_sayE_134 rfl ?_ ?_
    · refine xj_aloadn 0 dX12_sayE_163 rfl rfl ?_
      refine xj_bipush (v := 93) dX12_sayE_164 cb_93 ?_
      refine xj_cVv (argv := [.int (93 : Int32)]) (rest := []) dX12_sayE_166 (kX12_say (93 : Int32) w) mkX12_say tw2195 rfl rfl rfl rfl rfl rfl (fun _ w1 => ?_)
      exact xj_rv dX12_sayE_169 rfl
    · exact tX12_sayE_j137 _ _
set_option maxRecDepth 20000 in
def sX12_sayE_j98 (w : xW) : Option (Unit × xW) :=
  xbd (sX12_sayRegister (w.1 0 26) (4 : Int32) w) (fun _ w1 => xbd (sX12_say (42 : Int32) w1) (fun _ w2 => xbd (sX12_say ((48 : Int32) + (w2.1 0 27)) w2) (fun _ w3 => sX12_sayE_j126 (1 : Int32) w3)))
set_option maxRecDepth 20000 in
theorem tX12_sayE_j98 (w : xW) : xJ ιV mX12_sayE lM (0, 0) 98 [(0, .ref 0)] [] w (sX12_sayE_j98 w) := by
  unfold sX12_sayE_j98
  refine xj_aloadn 0 dX12_sayE_98 rfl rfl ?_
  refine xj_aloadn 0 dX12_sayE_99 rfl rfl ?_
  refine gfX12_94 (v := (w.1 0 26)) dX12_sayE_100 rfl rfl ?_
  refine xj_iconst (v := 4) dX12_sayE_103 ci_4 ?_
  refine xj_cVv (argv := [.int (w.1 0 26), .int (4 : Int32)]) (rest := []) dX12_sayE_104 (kX12_sayRegister (w.1 0 26) (4 : Int32) w) mkX12_sayRegister tw2208 rfl rfl rfl rfl rfl rfl (fun _ w1 => ?_)
  refine xj_aloadn 0 dX12_sayE_107 rfl rfl ?_
  refine xj_bipush (v := 42) dX12_sayE_108 cb_42 ?_
  refine xj_cVv (argv := [.int (42 : Int32)]) (rest := []) dX12_sayE_110 (kX12_say (42 : Int32) w1) mkX12_say tw2195 rfl rfl rfl rfl rfl rfl (fun _ w2 => ?_)
  refine xj_aloadn 0 dX12_sayE_113 rfl rfl ?_
  refine xj_bipush (v := 48) dX12_sayE_114 cb_48 ?_
  refine xj_aloadn 0 dX12_sayE_116 rfl rfl ?_
  refine gfX12_97 (v := (w2.1 0 27)) dX12_sayE_117 rfl rfl ?_
  refine xj_iadd dX12_sayE_120 ?_
  refine xj_cVv (argv := [.int ((48 : Int32) + (w2.1 0 27))]) (rest := []) dX12_sayE_121 (kX12_say ((48 : Int32) + (w2.1 0 27)) w2) mkX12_say tw2195 rfl rfl rfl rfl rfl rfl (fun _ w3 => ?_)
  refine xj_iconst (v := 1) dX12_sayE_124 ci_1 ?_
  refine xj_istoren (lv2 := [(1, .int (1 : Int32)), (0, .ref 0)]) dX12_sayE_125 rfl (Nat.le_of_ble_eq_true rfl) rfl ?_
  refine xj_sub (lv2 := [(0, .ref 0), (1, .int (1 : Int32))]) [1, 0] rfl ?_
  exact tX12_sayE_j126 _ _
set_option maxRecDepth 20000 in
def sX12_sayE_j80 (a1 : Int32) (w : xW) : Option (Unit × xW) :=
  (if (w.1 0 26) = (-1 : Int32) then sX12_sayE_j126 a1 w else (if a1 = 0 then sX12_sayE_j98 w else xbd (sX12_say (43 : Int32) w) (fun _ w1 => sX12_sayE_j98 w1)))
set_option maxRecDepth 20000 in
theorem tX12_sayE_j80 (a1 : Int32) (w : xW) : xJ ιV mX12_sayE lM (0, 0) 80 [(0, .ref 0), (1, .int a1)] [] w (sX12_sayE_j80 a1 w) := by
  unfold sX12_sayE_j80
  refine xj_aloadn 0 dX12_sayE_80 rfl rfl ?_
  refine gfX12_94 (v := (w.1 0 26)) dX12_sayE_81 rfl rfl ?_
  refine xj_iconst (v := -1) dX12_sayE_84 ci_m1 ?_
  refine xj_ieq (tgt := 126) dX12_sayE_85 rfl ?_ ?_
  · exact tX12_sayE_j126 _ _
  · refine xj_iloadn 1 dX12_sayE_88 rfl rfl ?_
    refine xj_ifeq (tgt := 98) dX12_sayE_89 rfl ?_ ?_
    · refine xj_sub (lv2 := [(0, .ref 0)]) [0] rfl ?_
      exact tX12_sayE_j98 _
    · refine xj_aloadn 0 dX12_sayE_92 rfl rfl ?_
      refine xj_bipush (v := 43) dX12_sayE_93 cb_43 ?_
      refine xj_cVv (argv := [.int (43 : Int32)]) (rest := []) dX12_sayE_95 (kX12_say (43 : Int32) w) mkX12_say tw2195 rfl rfl rfl rfl rfl rfl (fun _ w1 => ?_)
      refine xj_sub (lv2 := [(0, .ref 0)]) [0] rfl ?_
      exact tX12_sayE_j98 _
set_option maxRecDepth 20000 in
def sX12_sayE_j50 (b0 : Int32) (w : xW) : Option (Unit × xW) :=
  xbd (sX12_say b0 w) (fun _ w1 => xbd (sX12_say (91 : Int32) w1) (fun _ w2 => (if (w2.1 0 25) = (-1 : Int32) then sX12_sayE_j80 (0 : Int32) w2 else xbd (sX12_sayRegister (w2.1 0 25) (4 : Int32) w2) (fun _ w3 => sX12_sayE_j80 (1 : Int32) w3))))
set_option maxRecDepth 20000 in
theorem tX12_sayE_j50 (b0 : Int32) (w : xW) : xJ ιV mX12_sayE lM (0, 0) 50 [(0, .ref 0)] [.int b0, .ref 0] w (sX12_sayE_j50 b0 w) := by
  unfold sX12_sayE_j50
  refine xj_cVv (argv := [.int b0]) (rest := []) dX12_sayE_50 (kX12_say b0 w) mkX12_say tw2195 rfl rfl rfl rfl rfl rfl (fun _ w1 => ?_)
  refine xj_aloadn 0 dX12_sayE_53 rfl rfl ?_
  refine xj_bipush (v := 91) dX12_sayE_54 cb_91 ?_
  refine xj_cVv (argv := [.int (91 : Int32)]) (rest := []) dX12_sayE_56 (kX12_say (91 : Int32) w1) mkX12_say tw2195 rfl rfl rfl rfl rfl rfl (fun _ w2 => ?_)
  refine xj_iconst (v := 0) dX12_sayE_59 ci_0 ?_
  refine xj_istoren (lv2 := [(1, .int (0 : Int32)), (0, .ref 0)]) dX12_sayE_60 rfl (Nat.le_of_ble_eq_true rfl) rfl ?_
  refine xj_aloadn 1 dX12_sayE_61 rfl rfl ?_
  refine gfX12_91 (v := (w2.1 0 25)) dX12_sayE_62 rfl rfl ?_
  refine xj_iconst (v := -1) dX12_sayE_65 ci_m1 ?_
  refine xj_ieq (tgt := 80) dX12_sayE_66 rfl ?_ ?_
  · refine xj_sub (lv2 := [(0, .ref 0), (1, .int (0 : Int32))]) [1, 0] rfl ?_
    exact tX12_sayE_j80 _ _
  · refine xj_aloadn 1 dX12_sayE_69 rfl rfl ?_
    refine xj_aloadn 1 dX12_sayE_70 rfl rfl ?_
    refine gfX12_91 (v := (w2.1 0 25)) dX12_sayE_71 rfl rfl ?_
    refine xj_iconst (v := 4) dX12_sayE_74 ci_4 ?_
    refine xj_cVv (argv := [.int (w2.1 0 25), .int (4 : Int32)]) (rest := []) dX12_sayE_75 (kX12_sayRegister (w2.1 0 25) (4 : Int32) w2) mkX12_sayRegister tw2208 rfl rfl rfl rfl rfl rfl (fun _ w3 => ?_)
    refine xj_iconst (v := 1) dX12_sayE_78 ci_1 ?_
    refine xj_istoren (lv2 := [(1, .int (1 : Int32)), (0, .ref 0)]) dX12_sayE_79 rfl (Nat.le_of_ble_eq_true rfl) rfl ?_
    refine xj_sub (lv2 := [(0, .ref 0), (1, .int (1 : Int32))]) [1, 0] rfl ?_
    exact tX12_sayE_j80 _ _
set_option maxRecDepth 20000 in
def sX12_sayE (w : xW) : Option (Unit × xW) :=
  (if (w.1 0 22) = (3 : Int32) then xbd (sX12_sayRegister (w.1 0 24) (w.1 0 21) w) (fun _ w1 => some ((), w1)) else (if (w.1 0 21) = (1 : Int32) then sX12_sayE_j50 (98 : Int32) w else (if (w.1 0 21) = (2 : Int32) then sX12_sayE_j50 (119 : Int32) w else sX12_sayE_j50 (100 : Int32) w)))
set_option maxRecDepth 20000 in
theorem tX12_sayE (w : xW) : xJ ιV mX12_sayE lM (0, 0) 0 [(0, .ref 0)] [] w (sX12_sayE w) := by
  unfold sX12_sayE
  refine xj_aloadn 0 dX12_sayE_0 rfl rfl ?_
  refine gfX12_82 (v := (w.1 0 22)) dX12_sayE_1 rfl rfl ?_
  refine xj_iconst (v := 3) dX12_sayE_4 ci_3 ?_
  refine xj_ine (tgt := 21) dX12_sayE_5 rfl ?_ ?_
  · refine xj_aloadn 0 dX12_sayE_8 rfl rfl ?_
    refine xj_aloadn 0 dX12_sayE_9 rfl rfl ?_
    refine gfX12_88 (v := (w.1 0 24)) dX12_sayE_10 rfl rfl ?_
    refine xj_aloadn 0 dX12_sayE_13 rfl rfl ?_
    refine gfX12_79 (v := (w.1 0 21)) dX12_sayE_14 rfl rfl ?_
    refine xj_cVv (argv := [.int (w.1 0 24), .int (w.1 0 21)]) (rest := []) dX12_sayE_17 (kX12_sayRegister (w.1 0 24) (w.1 0 21) w) mkX12_sayRegister tw2208 rfl rfl rfl rfl rfl rfl (fun _ w1 => ?_)
    exact xj_rv dX12_sayE_20 rfl
  · refine xj_aloadn 0 dX12_sayE_21 rfl rfl ?_
    refine xj_aloadn 0 dX12_sayE_22 rfl rfl ?_
    refine gfX12_79 (v := (w.1 0 21)) dX12_sayE_23 rfl rfl ?_
    refine xj_iconst (v := 1) dX12_sayE_26 ci_1 ?_
    refine xj_ine (tgt := 35) dX12_sayE_27 rfl ?_ ?_
    · refine xj_bipush (v := 98) dX12_sayE_30 cb_98 ?_
      refine xj_goto (tgt := 50) dX12_sayE_32 rfl ?_
      exact tX12_sayE_j50 _ _
    · refine xj_aloadn 0 dX12_sayE_35 rfl rfl ?_
      refine gfX12_79 (v := (w.1 0 21)) dX12_sayE_36 rfl rfl ?_
      refine xj_iconst (v := 2) dX12_sayE_39 ci_2 ?_
      refine xj_ine (tgt := 48) dX12_sayE_40 rfl ?_ ?_
      · refine xj_bipush (v := 119) dX12_sayE_43 cb_119 ?_
        refine xj_goto (tgt := 50) dX12_sayE_45 rfl ?_
        exact tX12_sayE_j50 _ _
      · refine xj_bipush (v := 100) dX12_sayE_48 cb_100 ?_
        exact tX12_sayE_j50 _ _
theorem kX12_sayE (w : xW) : xMet jV mX12_sayE lM (0, 0) [.ref 0] w (sX12_sayE w) := xj_met lM_ok (by decide) (Nat.le_of_ble_eq_true rfl) (Nat.zero_le _) (Nat.zero_le _) (tX12_sayE w)
set_option maxRecDepth 20000 in
def sX12_sayOperands_j323 (w : xW) : Option (Unit × xW) :=
  xbd (sX12_sayNumber ((w.1 0 29).toInt64) w) (fun _ w1 => some ((), w1))
set_option maxRecDepth 20000 in
theorem tX12_sayOperands_j323 (w : xW) : xJ ιV mX12_sayOperands lM (0, 0) 323 [(0, .ref 0)] [] w (sX12_sayOperands_j323 w) := by
  unfold sX12_sayOperands_j323
  refine xj_aloadn 0 dX12_sayOperands_323 rfl rfl ?_
  refine xj_aloadn 0 dX12_sayOperands_324 rfl rfl ?_
  refine gfX12_109 (v := (w.1 0 29)) dX12_sayOperands_325 rfl rfl ?_
  refine xj_i2l dX12_sayOperands_328 ?_
  refine xj_cVv (argv := [.long ((w.1 0 29).toInt64)]) (rest := []) dX12_sayOperands_329 (kX12_sayNumber ((w.1 0 29).toInt64) w) mkX12_sayNumber tw2215 rfl rfl rfl rfl rfl rfl (fun _ w1 => ?_)
  refine xj_goto (tgt := 369) dX12_sayOperands_332 rfl ?_
  exact xj_rv dX12_sayOperands_369 rfl
set_option maxRecDepth 20000 in
def sX12_sayOperands_j271 (w : xW) : Option (Unit × xW) :=
  (if (w.1 0 18) = (3 : Int32) then sX12_sayOperands_j323 w else (if (w.1 0 18) = (4 : Int32) then sX12_sayOperands_j323 w else (if (w.1 0 18) = (9 : Int32) then sX12_sayOperands_j323 w else (if (w.1 0 18) = (12 : Int32) then sX12_sayOperands_j323 w else (if (w.1 0 18) = (13 : Int32) then sX12_sayOperands_j323 w else (if (w.1 0 18) = (7 : Int32) then sX12_sayOperands_j323 w else (if (w.1 0 18) = (10 : Int32) then xbd (sX12_say (49 : Int32) w) (fun _ w2 => some ((), w2)) else (if (w.1 0 18) = (11 : Int32) then xbd (sX12_sayWord 2 (1 : Int32) w) (fun _ w1 => some ((), w1)) else some ((), w)))))))))
set_option maxRecDepth 20000 in
theorem tX12_sayOperands_j271 (w : xW) : xJ ιV mX12_sayOperands lM (0, 0) 271 [(0, .ref 0)] [] w (sX12_sayOperands_j271 w) := by
  unfold sX12_sayOperands_j271
  refine xj_aloadn 0 dX12_sayOperands_271 rfl rfl ?_
  refine gfX12_73 (v := (w.1 0 18)) dX12_sayOperands_272 rfl rfl ?_
  refine xj_iconst (v := 3) dX12_sayOperands_275 ci_3 ?_
  refine xj_ieq (tgt := 323) dX12_sayOperands_276 rfl ?_ ?_
  · exact tX12_sayOperands_j323 _
  · refine xj_aloadn 0 dX12_sayOperands_279 rfl rfl ?_
    refine gfX12_73 (v := (w.1 0 18)) dX12_sayOperands_280 rfl rfl ?_
    refine xj_iconst (v := 4) dX12_sayOperands_283 ci_4 ?_
    refine xj_ieq (tgt := 323) dX12_sayOperands_284 rfl ?_ ?_
    · exact tX12_sayOperands_j323 _
    · refine xj_aloadn 0 dX12_sayOperands_287 rfl rfl ?_
      refine gfX12_73 (v := (w.1 0 18)) dX12_sayOperands_288 rfl rfl ?_
      refine xj_bipush (v := 9) dX12_sayOperands_291 cb_9 ?_
      refine xj_ieq (tgt := 323) dX12_sayOperands_293 rfl ?_ ?_
      · exact tX12_sayOperands_j323 _
      · refine xj_aloadn 0 dX12_sayOperands_296 rfl rfl ?_
        refine gfX12_73 (v := (w.1 0 18)) dX12_sayOperands_297 rfl rfl ?_
        refine xj_bipush (v := 12) dX12_sayOperands_300 cb_12 ?_
        refine xj_ieq (tgt := 323) dX12_sayOperands_302 rfl ?_ ?_
        · exact tX12_sayOperands_j323 _
        · refine xj_aloadn 0 dX12_sayOperands_305 rfl rfl ?_
          refine gfX12_73 (v := (w.1 0 18)) dX12_sayOperands_306 rfl rfl ?_
          refine xj_bipush (v := 13) dX12_sayOperands_309 cb_13 ?_
          refine xj_ieq (tgt := 323) dX12_sayOperands_311 rfl ?_ ?_
          · exact tX12_sayOperands_j323 _
          · refine xj_aloadn 0 dX12_sayOperands_314 rfl rfl ?_
            refine gfX12_73 (v := (w.1 0 18)) dX12_sayOperands_315 rfl rfl ?_
            refine xj_bipush (v := 7) dX12_sayOperands_318 cb_7 ?_
            refine xj_ine (tgt := 335) dX12_sayOperands_320 rfl ?_ ?_
            · exact tX12_sayOperands_j323 _
            · refine xj_aloadn 0 dX12_sayOperands_335 rfl rfl ?_
              refine gfX12_73 (v := (w.1 0 18)) dX12_sayOperands_336 rfl rfl ?_
              refine xj_bipush (v := 10) dX12_sayOperands_339 cb_10 ?_
              refine xj_ine (tgt := 353) dX12_sayOperands_341 rfl ?_ ?_
              · refine xj_aloadn 0 dX12_sayOperands_344 rfl rfl ?_
                refine xj_bipush (v := 49) dX12_sayOperands_345 cb_49 ?_
                refine xj_cVv (argv := [.int (49 : Int32)]) (rest := []) dX12_sayOperands_347 (kX12_say (49 : Int32) w) mkX12_say tw2195 rfl rfl rfl rfl rfl rfl (fun _ w2 => ?_)
                refine xj_goto (tgt := 369) dX12_sayOperands_350 rfl ?_
                exact xj_rv dX12_sayOperands_369 rfl
              · refine xj_aloadn 0 dX12_sayOperands_353 rfl rfl ?_
                refine gfX12_73 (v := (w.1 0 18)) dX12_sayOperands_354 rfl rfl ?_
                refine xj_bipush (v := 11) dX12_sayOperands_357 cb_11 ?_
                refine xj_ine (tgt := 369) dX12_sayOperands_359 rfl ?_ ?_
                · refine xj_aloadn 0 dX12_sayOperands_362 rfl rfl ?_
                  refine xj_lds (s := 2) (tx := "al cl dl bl ah ch dh bh ") dX12_sayOperands_363 rfl (fun G A U H h => h.2 ("BundleFenceModel", 236, "al cl dl bl ah ch dh bh ", 2) (List.mem_of_getElem? (i := 2) rfl)) ?_
                  refine xj_iconst (v := 1) dX12_sayOperands_365 ci_1 ?_
                  refine xj_cVv (argv := [.ref (1000 + 2), .int (1 : Int32)]) (rest := []) dX12_sayOperands_366 (kX12_sayWord 2 (1 : Int32) w) mkX12_sayWord tw2189 rfl rfl rfl rfl rfl rfl (fun _ w1 => ?_)
                  exact xj_rv dX12_sayOperands_369 rfl
                · exact xj_rv dX12_sayOperands_369 rfl
set_option maxRecDepth 20000 in
def sX12_sayOperands_j265 (w : xW) : Option (Unit × xW) :=
  xbd (sX12_say (44 : Int32) w) (fun _ w1 => sX12_sayOperands_j271 w1)
set_option maxRecDepth 20000 in
theorem tX12_sayOperands_j265 (w : xW) : xJ ιV mX12_sayOperands lM (0, 0) 265 [(0, .ref 0)] [] w (sX12_sayOperands_j265 w) := by
  unfold sX12_sayOperands_j265
  refine xj_aloadn 0 dX12_sayOperands_265 rfl rfl ?_
  refine xj_bipush (v := 44) dX12_sayOperands_266 cb_44 ?_
  refine xj_cVv (argv := [.int (44 : Int32)]) (rest := []) dX12_sayOperands_268 (kX12_say (44 : Int32) w) mkX12_say tw2195 rfl rfl rfl rfl rfl rfl (fun _ w1 => ?_)
  exact tX12_sayOperands_j271 _
set_option maxRecDepth 20000 in
def sX12_sayOperands_j204 (w : xW) : Option (Unit × xW) :=
  (if (w.1 0 18) = (3 : Int32) then sX12_sayOperands_j265 w else (if (w.1 0 18) = (4 : Int32) then sX12_sayOperands_j265 w else (if (w.1 0 18) = (9 : Int32) then sX12_sayOperands_j265 w else (if (w.1 0 18) = (12 : Int32) then sX12_sayOperands_j265 w else (if (w.1 0 18) = (13 : Int32) then sX12_sayOperands_j265 w else (if (w.1 0 18) = (10 : Int32) then sX12_sayOperands_j265 w else (if (w.1 0 18) = (11 : Int32) then sX12_sayOperands_j265 w else sX12_sayOperands_j271 w)))))))
set_option maxRecDepth 20000 in
theorem tX12_sayOperands_j204 (w : xW) : xJ ιV mX12_sayOperands lM (0, 0) 204 [(0, .ref 0)] [] w (sX12_sayOperands_j204 w) := by
  unfold sX12_sayOperands_j204
  refine xj_aloadn 0 dX12_sayOperands_204 rfl rfl ?_
  refine gfX12_73 (v := (w.1 0 18)) dX12_sayOperands_205 rfl rfl ?_
  refine xj_iconst (v := 3) dX12_sayOperands_208 ci_3 ?_
  refine xj_ieq (tgt := 265) dX12_sayOperands_209 rfl ?_ ?_
  · exact tX12_sayOperands_j265 _
  · refine xj_aloadn 0 dX12_sayOperands_212 rfl rfl ?_
    refine gfX12_73 (v := (w.1 0 18)) dX12_sayOperands_213 rfl rfl ?_
    refine xj_iconst (v := 4) dX12_sayOperands_216 ci_4 ?_
    refine xj_ieq (tgt := 265) dX12_sayOperands_217 rfl ?_ ?_
    · exact tX12_sayOperands_j265 _
    · refine xj_aloadn 0 dX12_sayOperands_220 rfl rfl ?_
      refine gfX12_73 (v := (w.1 0 18)) dX12_sayOperands_221 rfl rfl ?_
      refine xj_bipush (v := 9) dX12_sayOperands_224 cb_9 ?_
      refine xj_ieq (tgt := 265) dX12_sayOperands_226 rfl ?_ ?_
      · exact tX12_sayOperands_j265 _
      · refine xj_aloadn 0 dX12_sayOperands_229 rfl rfl ?_
        refine gfX12_73 (v := (w.1 0 18)) dX12_sayOperands_230 rfl rfl ?_
        refine xj_bipush (v := 12) dX12_sayOperands_233 cb_12 ?_
        refine xj_ieq (tgt := 265) dX12_sayOperands_235 rfl ?_ ?_
        · exact tX12_sayOperands_j265 _
        · refine xj_aloadn 0 dX12_sayOperands_238 rfl rfl ?_
          refine gfX12_73 (v := (w.1 0 18)) dX12_sayOperands_239 rfl rfl ?_
          refine xj_bipush (v := 13) dX12_sayOperands_242 cb_13 ?_
          refine xj_ieq (tgt := 265) dX12_sayOperands_244 rfl ?_ ?_
          · exact tX12_sayOperands_j265 _
          · refine xj_aloadn 0 dX12_sayOperands_247 rfl rfl ?_
            refine gfX12_73 (v := (w.1 0 18)) dX12_sayOperands_248 rfl rfl ?_
            refine xj_bipush (v := 10) dX12_sayOperands_251 cb_10 ?_
            refine xj_ieq (tgt := 265) dX12_sayOperands_253 rfl ?_ ?_
            · exact tX12_sayOperands_j265 _
            · refine xj_aloadn 0 dX12_sayOperands_256 rfl rfl ?_
              refine gfX12_73 (v := (w.1 0 18)) dX12_sayOperands_257 rfl rfl ?_
              refine xj_bipush (v := 11) dX12_sayOperands_260 cb_11 ?_
              refine xj_ine (tgt := 271) dX12_sayOperands_262 rfl ?_ ?_
              · exact tX12_sayOperands_j265 _
              · exact tX12_sayOperands_j271 _
set_option maxRecDepth 20000 in
def sX12_sayOperands_j76 (w : xW) : Option (Unit × xW) :=
  xbd (sX12_sayE w) (fun _ w1 => xbd (sX12_say (44 : Int32) w1) (fun _ w2 => xbd (sX12_sayRegister (w2.1 0 23) (w2.1 0 20) w2) (fun _ w3 => sX12_sayOperands_j204 w3)))
set_option maxRecDepth 20000 in
theorem tX12_sayOperands_j76 (w : xW) : xJ ιV mX12_sayOperands lM (0, 0) 76 [(0, .ref 0)] [] w (sX12_sayOperands_j76 w) := by
  unfold sX12_sayOperands_j76
  refine xj_aloadn 0 dX12_sayOperands_76 rfl rfl ?_
  refine xj_cVv (argv := []) (rest := []) dX12_sayOperands_77 (kX12_sayE w) mkX12_sayE tw2204 rfl rfl rfl rfl rfl rfl (fun _ w1 => ?_)
  refine xj_aloadn 0 dX12_sayOperands_80 rfl rfl ?_
  refine xj_bipush (v := 44) dX12_sayOperands_81 cb_44 ?_
  refine xj_cVv (argv := [.int (44 : Int32)]) (rest := []) dX12_sayOperands_83 (kX12_say (44 : Int32) w1) mkX12_say tw2195 rfl rfl rfl rfl rfl rfl (fun _ w2 => ?_)
  refine xj_aloadn 0 dX12_sayOperands_86 rfl rfl ?_
  refine xj_aloadn 0 dX12_sayOperands_87 rfl rfl ?_
  refine gfX12_85 (v := (w2.1 0 23)) dX12_sayOperands_88 rfl rfl ?_
  refine xj_aloadn 0 dX12_sayOperands_91 rfl rfl ?_
  refine gfX12_76 (v := (w2.1 0 20)) dX12_sayOperands_92 rfl rfl ?_
  refine xj_cVv (argv := [.int (w2.1 0 23), .int (w2.1 0 20)]) (rest := []) dX12_sayOperands_95 (kX12_sayRegister (w2.1 0 23) (w2.1 0 20) w2) mkX12_sayRegister tw2208 rfl rfl rfl rfl rfl rfl (fun _ w3 => ?_)
  refine xj_goto (tgt := 204) dX12_sayOperands_98 rfl ?_
  exact tX12_sayOperands_j204 _
set_option maxRecDepth 20000 in
def sX12_sayOperands_j101 (w : xW) : Option (Unit × xW) :=
  xbd (sX12_sayRegister (w.1 0 23) (w.1 0 20) w) (fun _ w1 => xbd (sX12_say (44 : Int32) w1) (fun _ w2 => xbd (sX12_sayE w2) (fun _ w3 => sX12_sayOperands_j204 w3)))
set_option maxRecDepth 20000 in
theorem tX12_sayOperands_j101 (w : xW) : xJ ιV mX12_sayOperands lM (0, 0) 101 [(0, .ref 0)] [] w (sX12_sayOperands_j101 w) := by
  unfold sX12_sayOperands_j101
  refine xj_aloadn 0 dX12_sayOperands_101 rfl rfl ?_
  refine xj_aloadn 0 dX12_sayOperands_102 rfl rfl ?_
  refine gfX12_85 (v := (w.1 0 23)) dX12_sayOperands_103 rfl rfl ?_
  refine xj_aloadn 0 dX12_sayOperands_106 rfl rfl ?_
  refine gfX12_76 (v := (w.1 0 20)) dX12_sayOperands_107 rfl rfl ?_
  refine xj_cVv (argv := [.int (w.1 0 23), .int (w.1 0 20)]) (rest := []) dX12_sayOperands_110 (kX12_sayRegister (w.1 0 23) (w.1 0 20) w) mkX12_sayRegister tw2208 rfl rfl rfl rfl rfl rfl (fun _ w1 => ?_)
  refine xj_aloadn 0 dX12_sayOperands_113 rfl rfl ?_
  refine xj_bipush (v := 44) dX12_sayOperands_114 cb_44 ?_
  refine xj_cVv (argv := [.int (44 : Int32)]) (rest := []) dX12_sayOperands_116 (kX12_say (44 : Int32) w1) mkX12_say tw2195 rfl rfl rfl rfl rfl rfl (fun _ w2 => ?_)
  refine xj_aloadn 0 dX12_sayOperands_119 rfl rfl ?_
  refine xj_cVv (argv := []) (rest := []) dX12_sayOperands_120 (kX12_sayE w2) mkX12_sayE tw2204 rfl rfl rfl rfl rfl rfl (fun _ w3 => ?_)
  refine xj_goto (tgt := 204) dX12_sayOperands_123 rfl ?_
  exact tX12_sayOperands_j204 _
set_option maxRecDepth 20000 in
def sX12_sayOperands_j138 (w : xW) : Option (Unit × xW) :=
  xbd (sX12_sayE w) (fun _ w1 => sX12_sayOperands_j204 w1)
set_option maxRecDepth 20000 in
theorem tX12_sayOperands_j138 (w : xW) : xJ ιV mX12_sayOperands lM (0, 0) 138 [(0, .ref 0)] [] w (sX12_sayOperands_j138 w) := by
  unfold sX12_sayOperands_j138
  refine xj_aloadn 0 dX12_sayOperands_138 rfl rfl ?_
  refine xj_cVv (argv := []) (rest := []) dX12_sayOperands_139 (kX12_sayE w) mkX12_sayE tw2204 rfl rfl rfl rfl rfl rfl (fun _ w1 => ?_)
  refine xj_goto (tgt := 204) dX12_sayOperands_142 rfl ?_
  exact tX12_sayOperands_j204 _
set_option maxRecDepth 20000 in
def sX12_sayOperands_j145 (w : xW) : Option (Unit × xW) :=
  xbd (sX12_sayRegister (w.1 0 24) (w.1 0 20) w) (fun _ w1 => sX12_sayOperands_j204 w1)
set_option maxRecDepth 20000 in
theorem tX12_sayOperands_j145 (w : xW) : xJ ιV mX12_sayOperands lM (0, 0) 145 [(0, .ref 0)] [] w (sX12_sayOperands_j145 w) := by
  unfold sX12_sayOperands_j145
  refine xj_aloadn 0 dX12_sayOperands_145 rfl rfl ?_
  refine xj_aloadn 0 dX12_sayOperands_146 rfl rfl ?_
  refine gfX12_88 (v := (w.1 0 24)) dX12_sayOperands_147 rfl rfl ?_
  refine xj_aloadn 0 dX12_sayOperands_150 rfl rfl ?_
  refine gfX12_76 (v := (w.1 0 20)) dX12_sayOperands_151 rfl rfl ?_
  refine xj_cVv (argv := [.int (w.1 0 24), .int (w.1 0 20)]) (rest := []) dX12_sayOperands_154 (kX12_sayRegister (w.1 0 24) (w.1 0 20) w) mkX12_sayRegister tw2208 rfl rfl rfl rfl rfl rfl (fun _ w1 => ?_)
  refine xj_goto (tgt := 204) dX12_sayOperands_157 rfl ?_
  exact tX12_sayOperands_j204 _
set_option maxRecDepth 20000 in
def sX12_sayOperands (w : xW) : Option (Unit × xW) :=
  xsw (w.1 0 18) (1) [sX12_sayOperands_j76 w, sX12_sayOperands_j101 w, xbd (sX12_sayRegister (0 : Int32) (w.1 0 20) w) (fun _ w1 => sX12_sayOperands_j204 w1), sX12_sayOperands_j138 w, sX12_sayOperands_j138 w, sX12_sayOperands_j145 w, sX12_sayOperands_j204 w, xbd (sX12_sayNumber ((w.1 0 29).toInt64 &&& (4294967295 : Int64)) w) (fun _ w2 => sX12_sayOperands_j204 w2), sX12_sayOperands_j101 w, sX12_sayOperands_j138 w, sX12_sayOperands_j138 w, sX12_sayOperands_j76 w, sX12_sayOperands_j145 w, xbd (sX12_sayWord 0 (0 : Int32) w) (fun _ w3 => xbd (sX12_say (44 : Int32) w3) (fun _ w4 => xbd (sX12_sayRegister (w4.1 0 24) (w4.1 0 20) w4) (fun _ w5 => sX12_sayOperands_j204 w5)))] (sX12_sayOperands_j204 w)
set_option maxRecDepth 20000 in
theorem tX12_sayOperands (w : xW) : xJ ιV mX12_sayOperands lM (0, 0) 0 [(0, .ref 0)] [] w (sX12_sayOperands w) := by
  unfold sX12_sayOperands
  refine xj_aloadn 0 dX12_sayOperands_0 rfl rfl ?_
  refine gfX12_73 (v := (w.1 0 18)) dX12_sayOperands_1 rfl rfl ?_
  refine xj_tsw (tgtd := 204) [76, 101, 126, 138, 138, 145, 204, 188, 101, 138, 138, 76, 145, 160] dX12_sayOperands_4 rfl rfl rfl rfl ?_ ⟨?_, ?_, ?_, ?_, ?_, ?_, ?_, ?_, ?_, ?_, ?_, ?_, ?_, ?_, trivial⟩
  · exact tX12_sayOperands_j204 _
  · exact tX12_sayOperands_j76 _
  · exact tX12_sayOperands_j101 _
  · refine xj_aloadn 0 dX12_sayOperands_126 rfl rfl ?_
    refine xj_iconst (v := 0) dX12_sayOperands_127 ci_0 ?_
    refine xj_aloadn 0 dX12_sayOperands_128 rfl rfl ?_
    refine gfX12_76 (v := (w.1 0 20)) dX12_sayOperands_129 rfl rfl ?_
    refine xj_cVv (argv := [.int (0 : Int32), .int (w.1 0 20)]) (rest := []) dX12_sayOperands_132 (kX12_sayRegister (0 : Int32) (w.1 0 20) w) mkX12_sayRegister tw2208 rfl rfl rfl rfl rfl rfl (fun _ w1 => ?_)
    refine xj_goto (tgt := 204) dX12_sayOperands_135 rfl ?_
    exact tX12_sayOperands_j204 _
  · exact tX12_sayOperands_j138 _
  · exact tX12_sayOperands_j138 _
  · exact tX12_sayOperands_j145 _
  · exact tX12_sayOperands_j204 _
  · refine xj_aloadn 0 dX12_sayOperands_188 rfl rfl ?_
    refine xj_aloadn 0 dX12_sayOperands_189 rfl rfl ?_
    refine gfX12_109 (v := (w.1 0 29)) dX12_sayOperands_190 rfl rfl ?_
    refine xj_i2l dX12_sayOperands_193 ?_
    refine xj_ldc2 (v := 4294967295) tw2157 dX12_sayOperands_194 ?_
    refine xj_land dX12_sayOperands_197 ?_
    refine xj_cVv (argv := [.long ((w.1 0 29).toInt64 &&& (4294967295 : Int64))]) (rest := []) dX12_sayOperands_198 (kX12_sayNumber ((w.1 0 29).toInt64 &&& (4294967295 : Int64)) w) mkX12_sayNumber tw2215 rfl rfl rfl rfl rfl rfl (fun _ w2 => ?_)
    refine xj_goto (tgt := 204) dX12_sayOperands_201 rfl ?_
    exact tX12_sayOperands_j204 _
  · exact tX12_sayOperands_j101 _
  · exact tX12_sayOperands_j138 _
  · exact tX12_sayOperands_j138 _
  · exact tX12_sayOperands_j76 _
  · exact tX12_sayOperands_j145 _
  · refine xj_aloadn 0 dX12_sayOperands_160 rfl rfl ?_
    refine xj_lds (s := 0) (tx := "eax ecx edx ebx esp ebp esi edi ") dX12_sayOperands_161 rfl (fun G A U H h => h.2 ("BundleFenceModel", 240, "eax ecx edx ebx esp ebp esi edi ", 0) (List.mem_of_getElem? (i := 0) rfl)) ?_
    refine xj_iconst (v := 0) dX12_sayOperands_163 ci_0 ?_
    refine xj_cVv (argv := [.ref (1000 + 0), .int (0 : Int32)]) (rest := []) dX12_sayOperands_164 (kX12_sayWord 0 (0 : Int32) w) mkX12_sayWord tw2189 rfl rfl rfl rfl rfl rfl (fun _ w3 => ?_)
    refine xj_aloadn 0 dX12_sayOperands_167 rfl rfl ?_
    refine xj_bipush (v := 44) dX12_sayOperands_168 cb_44 ?_
    refine xj_cVv (argv := [.int (44 : Int32)]) (rest := []) dX12_sayOperands_170 (kX12_say (44 : Int32) w3) mkX12_say tw2195 rfl rfl rfl rfl rfl rfl (fun _ w4 => ?_)
    refine xj_aloadn 0 dX12_sayOperands_173 rfl rfl ?_
    refine xj_aloadn 0 dX12_sayOperands_174 rfl rfl ?_
    refine gfX12_88 (v := (w4.1 0 24)) dX12_sayOperands_175 rfl rfl ?_
    refine xj_aloadn 0 dX12_sayOperands_178 rfl rfl ?_
    refine gfX12_76 (v := (w4.1 0 20)) dX12_sayOperands_179 rfl rfl ?_
    refine xj_cVv (argv := [.int (w4.1 0 24), .int (w4.1 0 20)]) (rest := []) dX12_sayOperands_182 (kX12_sayRegister (w4.1 0 24) (w4.1 0 20) w4) mkX12_sayRegister tw2208 rfl rfl rfl rfl rfl rfl (fun _ w5 => ?_)
    refine xj_goto (tgt := 204) dX12_sayOperands_185 rfl ?_
    exact tX12_sayOperands_j204 _
theorem kX12_sayOperands (w : xW) : xMet jV mX12_sayOperands lM (0, 0) [.ref 0] w (sX12_sayOperands w) := xj_met lM_ok (by decide) (Nat.le_of_ble_eq_true rfl) (Nat.zero_le _) (Nat.zero_le _) (tX12_sayOperands w)
set_option maxRecDepth 20000 in
def sX12_tell_j85 (w : xW) : Option (Int32 × xW) :=
  (if (w.1 0 18) = 0 then some ((w.1 0 16), w) else xbd (sX12_say (32 : Int32) w) (fun _ w1 => xbd (sX12_sayOperands w1) (fun _ w2 => some ((w2.1 0 16), w2))))
set_option maxRecDepth 20000 in
theorem tX12_tell_j85 (w : xW) : xJ ιI mX12_tell lM (0, 0) 85 [(0, .ref 0)] [] w (sX12_tell_j85 w) := by
  unfold sX12_tell_j85
  refine xj_aloadn 0 dX12_tell_85 rfl rfl ?_
  refine gfX12_73 (v := (w.1 0 18)) dX12_tell_86 rfl rfl ?_
  refine xj_ifeq (tgt := 102) dX12_tell_89 rfl ?_ ?_
  · refine xj_aloadn 0 dX12_tell_102 rfl rfl ?_
    refine gfX12_220 (v := (w.1 0 16)) dX12_tell_103 rfl rfl ?_
    exact xj_ri dX12_tell_106 rfl
  · refine xj_aloadn 0 dX12_tell_92 rfl rfl ?_
    refine xj_bipush (v := 32) dX12_tell_93 cb_32 ?_
    refine xj_cVv (argv := [.int (32 : Int32)]) (rest := []) dX12_tell_95 (kX12_say (32 : Int32) w) mkX12_say tw2195 rfl rfl rfl rfl rfl rfl (fun _ w1 => ?_)
    refine xj_aloadn 0 dX12_tell_98 rfl rfl ?_
    refine xj_cVv (argv := []) (rest := []) dX12_tell_99 (kX12_sayOperands w1) mkX12_sayOperands tw2200 rfl rfl rfl rfl rfl rfl (fun _ w2 => ?_)
    refine xj_aloadn 0 dX12_tell_102 rfl rfl ?_
    refine gfX12_220 (v := (w2.1 0 16)) dX12_tell_103 rfl rfl ?_
    exact xj_ri dX12_tell_106 rfl
set_option maxRecDepth 20000 in
def sX12_tell_j74 (w : xW) : Option (Int32 × xW) :=
  xbd (sX12_sayWord 4 (w.1 0 19) w) (fun _ w1 => sX12_tell_j85 w1)
set_option maxRecDepth 20000 in
theorem tX12_tell_j74 (w : xW) : xJ ιI mX12_tell lM (0, 0) 74 [(0, .ref 0)] [] w (sX12_tell_j74 w) := by
  unfold sX12_tell_j74
  refine xj_aloadn 0 dX12_tell_74 rfl rfl ?_
  refine xj_ldsw (s := 4) (tx := "o no b ae e ne be a s ns p np l ge le g ") dX12_tell_75 rfl (fun G A U H h => h.2 ("BundleFenceModel", 258, "o no b ae e ne be a s ns p np l ge le g ", 4) (List.mem_of_getElem? (i := 4) rfl)) ?_
  refine xj_aloadn 0 dX12_tell_78 rfl rfl ?_
  refine gfX12_115 (v := (w.1 0 19)) dX12_tell_79 rfl rfl ?_
  refine xj_cVv (argv := [.ref (1000 + 4), .int (w.1 0 19)]) (rest := []) dX12_tell_82 (kX12_sayWord 4 (w.1 0 19) w) mkX12_sayWord tw2189 rfl rfl rfl rfl rfl rfl (fun _ w1 => ?_)
  exact tX12_tell_j85 _
set_option maxRecDepth 20000 in
def sX12_tell (p1 : Int32) (w : xW) : Option (Int32 × xW) :=
  xbd (sX12_isIn p1.toInt64 (0 : Int64) ((w.1 0 2).toInt64 - (1 : Int64)) (xwi w 0 0 (0 : Int32))) (fun x1 w2 => (if x1 = 0 then some ((-1 : Int32), w2) else xbd (sX12_take p1 w2) (fun x3 w4 => (if x3 = 0 then some ((-1 : Int32), w4) else xbd (sX12_sayWord 3 (w4.1 0 17) (xwi w4 0 16 (0 : Int32))) (fun _ w5 => (if (w5.1 0 17) = (13 : Int32) then sX12_tell_j74 w5 else (if (w5.1 0 17) = (44 : Int32) then sX12_tell_j74 w5 else (if (w5.1 0 17) = (45 : Int32) then sX12_tell_j74 w5 else sX12_tell_j85 w5))))))))
set_option maxRecDepth 20000 in
theorem tX12_tell (p1 : Int32) (w : xW) : xJ ιI mX12_tell lM (0, 0) 0 [(0, .ref 0), (1, .int p1)] [] w (sX12_tell p1 w) := by
  unfold sX12_tell
  refine xj_aloadn 0 dX12_tell_0 rfl rfl ?_
  refine xj_iconst (v := 0) dX12_tell_1 ci_0 ?_
  refine pfX12_53 dX12_tell_2 rfl ?_
  refine xj_iloadn 1 dX12_tell_5 rfl rfl ?_
  refine xj_i2l dX12_tell_6 ?_
  refine xj_lconst (v := 0) dX12_tell_7 cl_0 ?_
  refine xj_aloadn 0 dX12_tell_8 rfl rfl ?_
  refine gfX12_59 (v := (w.1 0 2)) dX12_tell_9 rfl rfl ?_
  refine xj_i2l dX12_tell_12 ?_
  refine xj_lconst (v := 1) dX12_tell_13 cl_1 ?_
  refine xj_lsub dX12_tell_14 ?_
  refine xj_cSi (argv := [.long p1.toInt64, .long (0 : Int64), .long ((w.1 0 2).toInt64 - (1 : Int64))]) (rest := []) dX12_tell_15 (kX12_isIn p1.toInt64 (0 : Int64) ((w.1 0 2).toInt64 - (1 : Int64)) (xwi w 0 0 (0 : Int32))) mkX12_isIn tw2150 rfl rfl rfl rfl (fun x1 w2 => ?_)
  refine xj_ifeq (tgt := 29) dX12_tell_18 rfl ?_ ?_
  · refine xj_iconst (v := -1) dX12_tell_29 ci_m1 ?_
    exact xj_ri dX12_tell_30 rfl
  · refine xj_aloadn 0 dX12_tell_21 rfl rfl ?_
    refine xj_iloadn 1 dX12_tell_22 rfl rfl ?_
    refine xj_cVi (argv := [.int p1]) (rest := []) dX12_tell_23 (kX12_take p1 w2) mkX12_take tw2059 rfl rfl rfl rfl rfl rfl (fun x3 w4 => ?_)
    refine xj_ifne (tgt := 31) dX12_tell_26 rfl ?_ ?_
    · refine xj_iconst (v := -1) dX12_tell_29 ci_m1 ?_
      exact xj_ri dX12_tell_30 rfl
    · refine xj_aloadn 0 dX12_tell_31 rfl rfl ?_
      refine xj_iconst (v := 0) dX12_tell_32 ci_0 ?_
      refine pfX12_220 dX12_tell_33 rfl ?_
      refine xj_aloadn 0 dX12_tell_36 rfl rfl ?_
      refine xj_ldsw (s := 3) (tx := "add or adc sbb and sub xor cmp inc dec push pop imul j test xchg mov lea nop cwde cdq rol ror rcl rcr shl shr sar loop jecxz call jmp hlt cmc clc stc not neg mul imul div idiv call jmp cmov set shld shrd cmpxchg movzx bsf bsr movsx xadd bswap ") dX12_tell_37 rfl (fun G A U H h => h.2 ("BundleFenceModel", 256, "add or adc sbb and sub xor cmp inc dec push pop imul j test xchg mov lea nop cwde cdq rol ror rcl rcr shl shr sar loop jecxz call jmp hlt cmc clc stc not neg mul imul div idiv call jmp cmov set shld shrd cmpxchg movzx bsf bsr movsx xadd bswap ", 3) (List.mem_of_getElem? (i := 3) rfl)) ?_
      refine xj_aloadn 0 dX12_tell_40 rfl rfl ?_
      refine gfX12_70 (v := (w4.1 0 17)) dX12_tell_41 rfl rfl ?_
      refine xj_cVv (argv := [.ref (1000 + 3), .int (w4.1 0 17)]) (rest := []) dX12_tell_44 (kX12_sayWord 3 (w4.1 0 17) (xwi w4 0 16 (0 : Int32))) mkX12_sayWord tw2189 rfl rfl rfl rfl rfl rfl (fun _ w5 => ?_)
      refine xj_aloadn 0 dX12_tell_47 rfl rfl ?_
      refine gfX12_70 (v := (w5.1 0 17)) dX12_tell_48 rfl rfl ?_
      refine xj_bipush (v := 13) dX12_tell_51 cb_13 ?_
      refine xj_ieq (tgt := 74) dX12_tell_53 rfl ?_ ?_
      · refine xj_sub (lv2 := [(0, .ref 0)]) [0] rfl ?_
        exact tX12_tell_j74 _
      · refine xj_aloadn 0 dX12_tell_56 rfl rfl ?_
        refine gfX12_70 (v := (w5.1 0 17)) dX12_tell_57 rfl rfl ?_
        refine xj_bipush (v := 44) dX12_tell_60 cb_44 ?_
        refine xj_ieq (tgt := 74) dX12_tell_62 rfl ?_ ?_
        · refine xj_sub (lv2 := [(0, .ref 0)]) [0] rfl ?_
          exact tX12_tell_j74 _
        · refine xj_aloadn 0 dX12_tell_65 rfl rfl ?_
          refine gfX12_70 (v := (w5.1 0 17)) dX12_tell_66 rfl rfl ?_
          refine xj_bipush (v := 45) dX12_tell_69 cb_45 ?_
          refine xj_ine (tgt := 85) dX12_tell_71 rfl ?_ ?_
          · refine xj_sub (lv2 := [(0, .ref 0)]) [0] rfl ?_
            exact tX12_tell_j74 _
          · refine xj_sub (lv2 := [(0, .ref 0)]) [0] rfl ?_
            exact tX12_tell_j85 _
theorem kX12_tell (p1 : Int32) (w : xW) : xMet jI mX12_tell lM (0, 0) [.ref 0, .int p1] w (sX12_tell p1 w) := xj_met lM_ok (by decide) (Nat.le_of_ble_eq_true rfl) (Nat.zero_le _) (Nat.zero_le _) (tX12_tell p1 w)
set_option maxRecDepth 20000 in
def sX12_text_j60 (K12 : Int32 → Int64 → Int64 → xW → Option (Int64 × xW)) (a1 : Int32) (a4 : Int64) (b0 : Int32) (b1 : Int64) (w : xW) : Option (Int64 × xW) :=
  K12 a1 (b1 ||| b0.toInt64) (a4 - (1 : Int64)) w
set_option maxRecDepth 20000 in
theorem tX12_text_j60 (K12 : Int32 → Int64 → Int64 → xW → Option (Int64 × xW)) (hK12 : ∀ (a1 : Int32) (a2 : Int64) (a4 : Int64) (w : xW), xJ ιL mX12_text lM (0, 0) 12 [(0, .ref 0), (1, .int a1), (2, .long a2), (4, .long a4)] [] w (K12 a1 a2 a4 w)) (a1 : Int32) (a4 : Int64) (b0 : Int32) (b1 : Int64) (w : xW) : xJ ιL mX12_text lM (0, 0) 60 [(0, .ref 0), (1, .int a1), (4, .long a4)] [.int b0, .long b1] w (sX12_text_j60 K12 a1 a4 b0 b1 w) := by
  unfold sX12_text_j60
  refine xj_i2l dX12_text_60 ?_
  refine xj_lor dX12_text_61 ?_
  refine xj_lstoren (lv2 := [(2, .long (b1 ||| b0.toInt64)), (0, .ref 0), (1, .int a1), (4, .long a4)]) dX12_text_62 rfl (Nat.le_of_ble_eq_true rfl) rfl ?_
  refine xj_lload 3 dX12_text_63 rfl ?_
  refine xj_lconst (v := 1) dX12_text_65 cl_1 ?_
  refine xj_lsub dX12_text_66 ?_
  refine xj_lstore (lv2 := [(4, .long (a4 - (1 : Int64))), (2, .long (b1 ||| b0.toInt64)), (0, .ref 0), (1, .int a1)]) dX12_text_67 (Nat.le_of_ble_eq_true rfl) rfl ?_
  refine xj_goto (tgt := 12) dX12_text_69 rfl ?_
  refine xj_sub (lv2 := [(0, .ref 0), (1, .int a1), (2, .long (b1 ||| b0.toInt64)), (4, .long (a4 - (1 : Int64)))]) [2, 3, 1, 0] rfl ?_
  exact hK12 _ _ _ _
set_option maxRecDepth 20000 in
def sX12_text_j59 (K12 : Int32 → Int64 → Int64 → xW → Option (Int64 × xW)) (a1 : Int32) (a4 : Int64) (b0 : Int64) (w : xW) : Option (Int64 × xW) :=
  sX12_text_j60 K12 a1 a4 (0 : Int32) b0 w
set_option maxRecDepth 20000 in
theorem tX12_text_j59 (K12 : Int32 → Int64 → Int64 → xW → Option (Int64 × xW)) (hK12 : ∀ (a1 : Int32) (a2 : Int64) (a4 : Int64) (w : xW), xJ ιL mX12_text lM (0, 0) 12 [(0, .ref 0), (1, .int a1), (2, .long a2), (4, .long a4)] [] w (K12 a1 a2 a4 w)) (a1 : Int32) (a4 : Int64) (b0 : Int64) (w : xW) : xJ ιL mX12_text lM (0, 0) 59 [(0, .ref 0), (1, .int a1), (4, .long a4)] [.long b0] w (sX12_text_j59 K12 a1 a4 b0 w) := by
  unfold sX12_text_j59
  refine xj_iconst (v := 0) dX12_text_59 ci_0 ?_
  exact tX12_text_j60 K12 hK12 _ _ _ _ _
set_option maxRecDepth 20000 in
def sX12_text_l12 : Nat → Int32 → Int64 → Int64 → xW → Option (Int64 × xW)
  | 0, _, _, _, _ => none
  | n + 1, a1, a2, a4, w =>
  (if a4 < (0 : Int64) then some (a2, w) else (if (a1.toInt64 + a4) < (0 : Int64) then sX12_text_j59 (sX12_text_l12 n) a1 a4 (xlshl a2 (8 : Int32)) w else (if (a1.toInt64 + a4) < (w.1 0 16).toInt64 then (if xin ((a1.toInt64 + a4).toInt32) 80 then sX12_text_j60 (sX12_text_l12 n) a1 a4 (w.1 8 (((a1.toInt64 + a4).toInt32).toNatClampNeg)) (xlshl a2 (8 : Int32)) w else none) else sX12_text_j59 (sX12_text_l12 n) a1 a4 (xlshl a2 (8 : Int32)) w)))
set_option maxRecDepth 20000 in
theorem tX12_text_l12 : ∀ (n : Nat) (a1 : Int32) (a2 : Int64) (a4 : Int64) (w : xW), xJ ιL mX12_text lM (0, 0) 12 [(0, .ref 0), (1, .int a1), (2, .long a2), (4, .long a4)] [] w (sX12_text_l12 n a1 a2 a4 w) := by
  intro n
  induction n with
  | zero => intros; exact xj_none
  | succ n ih =>
    intro a1 a2 a4 w
    rw [sX12_text_l12]
    refine xj_lload 3 dX12_text_12 rfl ?_
    refine xj_lconst (v := 0) dX12_text_14 cl_0 ?_
    refine xj_llt (tgt := 72) dX12_text_15 dX12_text_16 rfl ?_ ?_
    · refine xj_lloadn 2 dX12_text_72 rfl rfl ?_
      exact xj_rl dX12_text_73 rfl
    · refine xj_iloadn 1 dX12_text_19 rfl rfl ?_
      refine xj_i2l dX12_text_20 ?_
      refine xj_lload 3 dX12_text_21 rfl ?_
      refine xj_ladd dX12_text_23 ?_
      refine xj_lstore (lv2 := [(6, .long (a1.toInt64 + a4)), (0, .ref 0), (1, .int a1), (2, .long a2), (4, .long a4)]) dX12_text_24 (Nat.le_of_ble_eq_true rfl) rfl ?_
      refine xj_lloadn 3 dX12_text_26 rfl rfl ?_
      refine xj_bipush (v := 8) dX12_text_27 cb_8 ?_
      refine xj_lshl dX12_text_29 ?_
      refine xj_lload 0 dX12_text_30 rfl ?_
      refine xj_lconst (v := 0) dX12_text_32 cl_0 ?_
      refine xj_llt (tgt := 59) dX12_text_33 dX12_text_34 rfl ?_ ?_
      · refine xj_sub (lv2 := [(0, .ref 0), (1, .int a1), (4, .long a4)]) [1, 2, 4] rfl ?_
        exact tX12_text_j59 (sX12_text_l12 n) ih _ _ _ _
      · refine xj_lload 0 dX12_text_37 rfl ?_
        refine xj_aloadn 1 dX12_text_39 rfl rfl ?_
        refine gfX12_220 (v := (w.1 0 16)) dX12_text_40 rfl rfl ?_
        refine xj_i2l dX12_text_43 ?_
        refine xj_lge (tgt := 59) dX12_text_44 dX12_text_45 rfl ?_ ?_
        · refine xj_aloadn 1 dX12_text_48 rfl rfl ?_
          refine gfX12_37 dX12_text_49 rfl ?_
          refine xj_lload 0 dX12_text_52 rfl ?_
          refine xj_l2i dX12_text_54 ?_
          refine xj_iald (k := 8) dX12_text_55 rfl ?_
          refine xj_goto (tgt := 60) dX12_text_56 rfl ?_
          refine xj_sub (lv2 := [(0, .ref 0), (1, .int a1), (4, .long a4)]) [1, 2, 4] rfl ?_
          exact tX12_text_j60 (sX12_text_l12 n) ih _ _ _ _ _
        · refine xj_sub (lv2 := [(0, .ref 0), (1, .int a1), (4, .long a4)]) [1, 2, 4] rfl ?_
          exact tX12_text_j59 (sX12_text_l12 n) ih _ _ _ _
set_option maxRecDepth 20000 in
def sX12_text (p1 : Int32) (w : xW) : Option (Int64 × xW) :=
  sX12_text_l12 70000 p1 (0 : Int64) (7 : Int64) (xwi w 0 0 (0 : Int32))
set_option maxRecDepth 20000 in
theorem tX12_text (p1 : Int32) (w : xW) : xJ ιL mX12_text lM (0, 0) 0 [(0, .ref 0), (1, .int p1)] [] w (sX12_text p1 w) := by
  unfold sX12_text
  refine xj_aloadn 0 dX12_text_0 rfl rfl ?_
  refine xj_iconst (v := 0) dX12_text_1 ci_0 ?_
  refine pfX12_53 dX12_text_2 rfl ?_
  refine xj_lconst (v := 0) dX12_text_5 cl_0 ?_
  refine xj_lstoren (lv2 := [(2, .long (0 : Int64)), (0, .ref 0), (1, .int p1)]) dX12_text_6 rfl (Nat.le_of_ble_eq_true rfl) rfl ?_
  refine xj_ldc2 (v := 7) tw2224 dX12_text_7 ?_
  refine xj_lstore (lv2 := [(4, .long (7 : Int64)), (2, .long (0 : Int64)), (0, .ref 0), (1, .int p1)]) dX12_text_10 (Nat.le_of_ble_eq_true rfl) rfl ?_
  refine xj_sub (lv2 := [(0, .ref 0), (1, .int p1), (2, .long (0 : Int64)), (4, .long (7 : Int64))]) [2, 3, 1, 0] rfl ?_
  exact tX12_text_l12 _ _ _ _ _
theorem kX12_text (p1 : Int32) (w : xW) : xMet jL mX12_text lM (0, 0) [.ref 0, .int p1] w (sX12_text p1 w) := xj_met lM_ok (by decide) (Nat.le_of_ble_eq_true rfl) (Nat.zero_le _) (Nat.zero_le _) (tX12_text p1 w)
set_option maxRecDepth 20000 in
def sX12_inData (p1 : Int64) (p3 : Int32) (w : xW) : Option (Int32 × xW) :=
  (if p1 < (65536 : Int64) then some ((0 : Int32), w) else (if (131072 : Int64) < (p1 + p3.toInt64) then some ((0 : Int32), w) else some ((1 : Int32), w)))
set_option maxRecDepth 20000 in
theorem tX12_inData (p1 : Int64) (p3 : Int32) (w : xW) : xJ ιI mX12_inData lM (0, 0) 0 [(0, .ref 0), (1, .long p1), (3, .int p3)] [] w (sX12_inData p1 p3 w) := by
  unfold sX12_inData
  refine xj_lloadn 1 dX12_inData_0 rfl rfl ?_
  refine xj_ldc2 (v := 65536) tw2158 dX12_inData_1 ?_
  refine xj_llt (tgt := 23) dX12_inData_4 dX12_inData_5 rfl ?_ ?_
  · refine xj_iconst (v := 0) dX12_inData_23 ci_0 ?_
    exact xj_rz dX12_inData_24 rfl (Or.inl rfl)
  · refine xj_lloadn 1 dX12_inData_8 rfl rfl ?_
    refine xj_iloadn 2 dX12_inData_9 rfl rfl ?_
    refine xj_i2l dX12_inData_10 ?_
    refine xj_ladd dX12_inData_11 ?_
    refine xj_ldc2 (v := 131072) tw2159 dX12_inData_12 ?_
    refine xj_lgt (tgt := 23) dX12_inData_15 dX12_inData_16 rfl ?_ ?_
    · refine xj_iconst (v := 0) dX12_inData_23 ci_0 ?_
      exact xj_rz dX12_inData_24 rfl (Or.inl rfl)
    · refine xj_iconst (v := 1) dX12_inData_19 ci_1 ?_
      refine xj_goto (tgt := 24) dX12_inData_20 rfl ?_
      exact xj_rz dX12_inData_24 rfl (Or.inr rfl)
theorem kX12_inData (p1 : Int64) (p3 : Int32) (w : xW) : xMet jI mX12_inData lM (0, 0) [.ref 0, .long p1, .int p3] w (sX12_inData p1 p3 w) := xj_met lM_ok (by decide) (Nat.le_of_ble_eq_true rfl) (Nat.zero_le _) (Nat.zero_le _) (tX12_inData p1 p3 w)
set_option maxRecDepth 20000 in
def sX12_inImage (p1 : Int64) (p3 : Int32) (w : xW) : Option (Int32 × xW) :=
  (if p1 < (4096 : Int64) then some ((0 : Int32), w) else (if ((4096 : Int32) + (w.1 0 2)).toInt64 < (p1 + p3.toInt64) then some ((0 : Int32), w) else some ((1 : Int32), w)))
set_option maxRecDepth 20000 in
theorem tX12_inImage (p1 : Int64) (p3 : Int32) (w : xW) : xJ ιI mX12_inImage lM (0, 0) 0 [(0, .ref 0), (1, .long p1), (3, .int p3)] [] w (sX12_inImage p1 p3 w) := by
  unfold sX12_inImage
  refine xj_lloadn 1 dX12_inImage_0 rfl rfl ?_
  refine xj_ldc2 (v := 4096) tw2160 dX12_inImage_1 ?_
  refine xj_llt (tgt := 29) dX12_inImage_4 dX12_inImage_5 rfl ?_ ?_
  · refine xj_iconst (v := 0) dX12_inImage_29 ci_0 ?_
    exact xj_rz dX12_inImage_30 rfl (Or.inl rfl)
  · refine xj_lloadn 1 dX12_inImage_8 rfl rfl ?_
    refine xj_iloadn 2 dX12_inImage_9 rfl rfl ?_
    refine xj_i2l dX12_inImage_10 ?_
    refine xj_ladd dX12_inImage_11 ?_
    refine xj_sipush (v := 4096) dX12_inImage_12 cs_4096 ?_
    refine xj_aloadn 0 dX12_inImage_15 rfl rfl ?_
    refine gfX12_59 (v := (w.1 0 2)) dX12_inImage_16 rfl rfl ?_
    refine xj_iadd dX12_inImage_19 ?_
    refine xj_i2l dX12_inImage_20 ?_
    refine xj_lgt (tgt := 29) dX12_inImage_21 dX12_inImage_22 rfl ?_ ?_
    · refine xj_iconst (v := 0) dX12_inImage_29 ci_0 ?_
      exact xj_rz dX12_inImage_30 rfl (Or.inl rfl)
    · refine xj_iconst (v := 1) dX12_inImage_25 ci_1 ?_
      refine xj_goto (tgt := 30) dX12_inImage_26 rfl ?_
      exact xj_rz dX12_inImage_30 rfl (Or.inr rfl)
theorem kX12_inImage (p1 : Int64) (p3 : Int32) (w : xW) : xMet jI mX12_inImage lM (0, 0) [.ref 0, .long p1, .int p3] w (sX12_inImage p1 p3 w) := xj_met lM_ok (by decide) (Nat.le_of_ble_eq_true rfl) (Nat.zero_le _) (Nat.zero_le _) (tX12_inImage p1 p3 w)
set_option maxRecDepth 20000 in
def sX12_byteAt (p1 : Int64) (w : xW) : Option (Int32 × xW) :=
  (if p1 < (65536 : Int64) then (if xin (p1.toInt32 - (4096 : Int32)) 2048 then some ((w.1 1 ((p1.toInt32 - (4096 : Int32)).toNatClampNeg)), w) else none) else (if xin (p1.toInt32 - (65536 : Int32)) 65536 then some ((w.1 2 ((p1.toInt32 - (65536 : Int32)).toNatClampNeg)), w) else none))
set_option maxRecDepth 20000 in
theorem tX12_byteAt (p1 : Int64) (w : xW) : xJ ιI mX12_byteAt lM (0, 0) 0 [(0, .ref 0), (1, .long p1)] [] w (sX12_byteAt p1 w) := by
  unfold sX12_byteAt
  refine xj_lloadn 1 dX12_byteAt_0 rfl rfl ?_
  refine xj_ldc2 (v := 65536) tw2158 dX12_byteAt_1 ?_
  refine xj_llt (tgt := 21) dX12_byteAt_4 dX12_byteAt_5 rfl ?_ ?_
  · refine xj_aloadn 0 dX12_byteAt_21 rfl rfl ?_
    refine gfX12_7 dX12_byteAt_22 rfl ?_
    refine xj_lloadn 1 dX12_byteAt_25 rfl rfl ?_
    refine xj_l2i dX12_byteAt_26 ?_
    refine xj_sipush (v := 4096) dX12_byteAt_27 cs_4096 ?_
    refine xj_isub dX12_byteAt_30 ?_
    refine xj_iald (k := 1) dX12_byteAt_31 rfl ?_
    exact xj_ri dX12_byteAt_32 rfl
  · refine xj_aloadn 0 dX12_byteAt_8 rfl rfl ?_
    refine gfX12_14 dX12_byteAt_9 rfl ?_
    refine xj_lloadn 1 dX12_byteAt_12 rfl rfl ?_
    refine xj_l2i dX12_byteAt_13 ?_
    refine xj_ldc (v := 65536) tw1900 dX12_byteAt_14 ?_
    refine xj_isub dX12_byteAt_16 ?_
    refine xj_iald (k := 2) dX12_byteAt_17 rfl ?_
    refine xj_goto (tgt := 32) dX12_byteAt_18 rfl ?_
    exact xj_ri dX12_byteAt_32 rfl
theorem kX12_byteAt (p1 : Int64) (w : xW) : xMet jI mX12_byteAt lM (0, 0) [.ref 0, .long p1] w (sX12_byteAt p1 w) := xj_met lM_ok (by decide) (Nat.le_of_ble_eq_true rfl) (Nat.zero_le _) (Nat.zero_le _) (tX12_byteAt p1 w)
set_option maxRecDepth 20000 in
def sX12_read_l54 : Nat → Int64 → Int32 → Int32 → xW → Option (Int32 × xW)
  | 0, _, _, _, _ => none
  | n + 1, a3, a5, a6, w =>
  (if a6 < 0 then some (a5, w) else xbd (sX12_byteAt (a3 + a6.toInt64) w) (fun x1 w2 => xlet ((a5 <<< ((8 : Int32) &&& 31)) ||| x1) (fun x3 => (sX12_read_l54 n) a3 x3 (a6 + (-1 : Int32)) w2)))
set_option maxRecDepth 20000 in
theorem tX12_read_l54 : ∀ (n : Nat) (a3 : Int64) (a5 : Int32) (a6 : Int32) (w : xW), xJ ιI mX12_read lM (0, 0) 54 [(0, .ref 0), (3, .long a3), (5, .int a5), (6, .int a6)] [] w (sX12_read_l54 n a3 a5 a6 w) := by
  intro n
  induction n with
  | zero => intros; exact xj_none
  | succ n ih =>
    intro a3 a5 a6 w
    rw [sX12_read_l54]
    refine xj_iload 3 dX12_read_54 rfl ?_
    refine xj_iflt (tgt := 82) dX12_read_56 rfl ?_ ?_
    · refine xj_iload 2 dX12_read_82 rfl ?_
      exact xj_ri dX12_read_84 rfl
    · refine xj_iload 2 dX12_read_59 rfl ?_
      refine xj_bipush (v := 8) dX12_read_61 cb_8 ?_
      refine xj_ishl dX12_read_63 ?_
      refine xj_aloadn 0 dX12_read_64 rfl rfl ?_
      refine xj_lloadn 1 dX12_read_65 rfl rfl ?_
      refine xj_iload 3 dX12_read_66 rfl ?_
      refine xj_i2l dX12_read_68 ?_
      refine xj_ladd dX12_read_69 ?_
      refine xj_cVi (argv := [.long (a3 + a6.toInt64)]) (rest := [.int (a5 <<< ((8 : Int32) &&& 31))]) dX12_read_70 (kX12_byteAt (a3 + a6.toInt64) w) mkX12_byteAt tw2256 rfl rfl rfl rfl rfl rfl (fun x1 w2 => ?_)
      refine xj_ior dX12_read_73 ?_
      refine xj_leti (fun x3 => ?_)
      refine xj_istore (lv2 := [(5, .int x3), (0, .ref 0), (3, .long a3), (6, .int a6)]) dX12_read_74 (Nat.le_of_ble_eq_true rfl) rfl ?_
      refine xj_iinc (n := 3) (lv2 := [(6, .int (a6 + (-1 : Int32))), (5, .int x3), (0, .ref 0), (3, .long a3)]) dX12_read_76 rfl ci_m1 (Nat.le_of_ble_eq_true rfl) rfl ?_
      refine xj_goto (tgt := 54) dX12_read_79 rfl ?_
      refine xj_sub (lv2 := [(0, .ref 0), (3, .long a3), (5, .int x3), (6, .int (a6 + (-1 : Int32)))]) [2, 3, 1, 0] rfl ?_
      exact ih _ _ _ _
set_option maxRecDepth 20000 in
def sX12_read_j46 (a2 : Int32) (a3 : Int64) (w : xW) : Option (Int32 × xW) :=
  sX12_read_l54 70000 a3 (0 : Int32) (a2 - (1 : Int32)) w
set_option maxRecDepth 20000 in
theorem tX12_read_j46 (a2 : Int32) (a3 : Int64) (w : xW) : xJ ιI mX12_read lM (0, 0) 46 [(0, .ref 0), (2, .int a2), (3, .long a3)] [] w (sX12_read_j46 a2 a3 w) := by
  unfold sX12_read_j46
  refine xj_iconst (v := 0) dX12_read_46 ci_0 ?_
  refine xj_istore (lv2 := [(5, .int (0 : Int32)), (0, .ref 0), (2, .int a2), (3, .long a3)]) dX12_read_47 (Nat.le_of_ble_eq_true rfl) rfl ?_
  refine xj_iloadn 2 dX12_read_49 rfl rfl ?_
  refine xj_iconst (v := 1) dX12_read_50 ci_1 ?_
  refine xj_isub dX12_read_51 ?_
  refine xj_istore (lv2 := [(6, .int (a2 - (1 : Int32))), (5, .int (0 : Int32)), (0, .ref 0), (2, .int a2), (3, .long a3)]) dX12_read_52 (Nat.le_of_ble_eq_true rfl) rfl ?_
  refine xj_sub (lv2 := [(0, .ref 0), (3, .long a3), (5, .int (0 : Int32)), (6, .int (a2 - (1 : Int32)))]) [2, 4, 1, 0] rfl ?_
  exact tX12_read_l54 _ _ _ _ _
set_option maxRecDepth 20000 in
def sX12_read (p1 : Int32) (p2 : Int32) (w : xW) : Option (Int32 × xW) :=
  xlet (p1.toInt64 &&& (4294967295 : Int64)) (fun x1 => xbd (sX12_inData x1 p2 w) (fun x2 w3 => (if x2 = 0 then xbd (sX12_inImage x1 p2 w3) (fun x4 w5 => (if x4 = 0 then (if (w5.1 0 45) = 0 then some ((0 : Int32), (xwi w5 0 45 (5 : Int32))) else some ((0 : Int32), (xwi w5 0 45 (w5.1 0 45)))) else sX12_read_j46 p2 x1 w5)) else sX12_read_j46 p2 x1 w3)))
set_option maxRecDepth 20000 in
theorem tX12_read (p1 : Int32) (p2 : Int32) (w : xW) : xJ ιI mX12_read lM (0, 0) 0 [(0, .ref 0), (1, .int p1), (2, .int p2)] [] w (sX12_read p1 p2 w) := by
  unfold sX12_read
  refine xj_iloadn 1 dX12_read_0 rfl rfl ?_
  refine xj_i2l dX12_read_1 ?_
  refine xj_ldc2 (v := 4294967295) tw2157 dX12_read_2 ?_
  refine xj_land dX12_read_5 ?_
  refine xj_letl (fun x1 => ?_)
  refine xj_lstoren (lv2 := [(3, .long x1), (0, .ref 0), (1, .int p1), (2, .int p2)]) dX12_read_6 rfl (Nat.le_of_ble_eq_true rfl) rfl ?_
  refine xj_aloadn 1 dX12_read_7 rfl rfl ?_
  refine xj_lloadn 0 dX12_read_8 rfl rfl ?_
  refine xj_iloadn 3 dX12_read_9 rfl rfl ?_
  refine xj_cVi (argv := [.long x1, .int p2]) (rest := []) dX12_read_10 (kX12_inData x1 p2 w) mkX12_inData tw2248 rfl rfl rfl rfl rfl rfl (fun x2 w3 => ?_)
  refine xj_ifne (tgt := 46) dX12_read_13 rfl ?_ ?_
  · refine xj_aloadn 1 dX12_read_16 rfl rfl ?_
    refine xj_lloadn 0 dX12_read_17 rfl rfl ?_
    refine xj_iloadn 3 dX12_read_18 rfl rfl ?_
    refine xj_cVi (argv := [.long x1, .int p2]) (rest := []) dX12_read_19 (kX12_inImage x1 p2 w3) mkX12_inImage tw2252 rfl rfl rfl rfl rfl rfl (fun x4 w5 => ?_)
    refine xj_ifne (tgt := 46) dX12_read_22 rfl ?_ ?_
    · refine xj_aloadn 1 dX12_read_25 rfl rfl ?_
      refine xj_aloadn 1 dX12_read_26 rfl rfl ?_
      refine gfX12_272 (v := (w5.1 0 45)) dX12_read_27 rfl rfl ?_
      refine xj_ifne (tgt := 37) dX12_read_30 rfl ?_ ?_
      · refine xj_iconst (v := 5) dX12_read_33 ci_5 ?_
        refine xj_goto (tgt := 41) dX12_read_34 rfl ?_
        refine pfX12_272 dX12_read_41 rfl ?_
        refine xj_iconst (v := 0) dX12_read_44 ci_0 ?_
        exact xj_ri dX12_read_45 rfl
      · refine xj_aloadn 1 dX12_read_37 rfl rfl ?_
        refine gfX12_272 (v := (w5.1 0 45)) dX12_read_38 rfl rfl ?_
        refine pfX12_272 dX12_read_41 rfl ?_
        refine xj_iconst (v := 0) dX12_read_44 ci_0 ?_
        exact xj_ri dX12_read_45 rfl
    · refine xj_sub (lv2 := [(0, .ref 0), (2, .int p2), (3, .long x1)]) [1, 3, 0] rfl ?_
      exact tX12_read_j46 _ _ _
  · refine xj_sub (lv2 := [(0, .ref 0), (2, .int p2), (3, .long x1)]) [1, 3, 0] rfl ?_
    exact tX12_read_j46 _ _ _
theorem kX12_read (p1 : Int32) (p2 : Int32) (w : xW) : xMet jI mX12_read lM (0, 0) [.ref 0, .int p1, .int p2] w (sX12_read p1 p2 w) := xj_met lM_ok (by decide) (Nat.le_of_ble_eq_true rfl) (Nat.zero_le _) (Nat.zero_le _) (tX12_read p1 p2 w)
set_option maxRecDepth 20000 in
def sX12_write_l61 : Nat → Int32 → Int32 → Int64 → Int32 → xW → Option (Unit × xW)
  | 0, _, _, _, _, _ => none
  | n + 1, a2, a3, a4, a6, w =>
  (if a6 < a3 then (if xin ((a4.toInt32 - (65536 : Int32)) + a6) 65536 then (sX12_write_l61 n) a2 a3 a4 (a6 + (1 : Int32)) (xwi w 2 (((a4.toInt32 - (65536 : Int32)) + a6).toNatClampNeg) ((a2 >>> (((8 : Int32) * a6) &&& 31)) &&& (255 : Int32))) else none) else some ((), w))
set_option maxRecDepth 20000 in
theorem tX12_write_l61 : ∀ (n : Nat) (a2 : Int32) (a3 : Int32) (a4 : Int64) (a6 : Int32) (w : xW), xJ ιV mX12_write lM (0, 0) 61 [(0, .ref 0), (2, .int a2), (3, .int a3), (4, .long a4), (6, .int a6)] [] w (sX12_write_l61 n a2 a3 a4 a6 w) := by
  intro n
  induction n with
  | zero => intros; exact xj_none
  | succ n ih =>
    intro a2 a3 a4 a6 w
    rw [sX12_write_l61]
    refine xj_iload 4 dX12_write_61 rfl ?_
    refine xj_iloadn 2 dX12_write_63 rfl rfl ?_
    refine xj_ige (tgt := 98) dX12_write_64 rfl ?_ ?_
    · refine xj_aloadn 0 dX12_write_67 rfl rfl ?_
      refine gfX12_14 dX12_write_68 rfl ?_
      refine xj_lload 3 dX12_write_71 rfl ?_
      refine xj_l2i dX12_write_73 ?_
      refine xj_ldc (v := 65536) tw1900 dX12_write_74 ?_
      refine xj_isub dX12_write_76 ?_
      refine xj_iload 4 dX12_write_77 rfl ?_
      refine xj_iadd dX12_write_79 ?_
      refine xj_iloadn 1 dX12_write_80 rfl rfl ?_
      refine xj_bipush (v := 8) dX12_write_81 cb_8 ?_
      refine xj_iload 4 dX12_write_83 rfl ?_
      refine xj_imul dX12_write_85 ?_
      refine xj_ishr dX12_write_86 ?_
      refine xj_sipush (v := 255) dX12_write_87 cs_255 ?_
      refine xj_iand dX12_write_90 ?_
      refine xj_iast (k := 2) dX12_write_91 rfl ?_
      refine xj_iinc (n := 4) (lv2 := [(6, .int (a6 + (1 : Int32))), (0, .ref 0), (2, .int a2), (3, .int a3), (4, .long a4)]) dX12_write_92 rfl ci_1 (Nat.le_of_ble_eq_true rfl) rfl ?_
      refine xj_goto (tgt := 61) dX12_write_95 rfl ?_
      refine xj_sub (lv2 := [(0, .ref 0), (2, .int a2), (3, .int a3), (4, .long a4), (6, .int (a6 + (1 : Int32)))]) [1, 2, 3, 4, 0] rfl ?_
      exact ih _ _ _ _ _
    · exact xj_rv dX12_write_98 rfl
set_option maxRecDepth 20000 in
def sX12_write (p1 : Int32) (p2 : Int32) (p3 : Int32) (w : xW) : Option (Unit × xW) :=
  xlet (p1.toInt64 &&& (4294967295 : Int64)) (fun x1 => (if (w.1 0 45) = 0 then xbd (sX12_inData x1 p3 w) (fun x2 w3 => (if x2 = 0 then (if x1 < (61440 : Int64) then some ((), (xwi w3 0 45 (6 : Int32))) else (if (135168 : Int64) < (x1 + p3.toInt64) then some ((), (xwi w3 0 45 (6 : Int32))) else some ((), (xwi w3 0 45 (5 : Int32))))) else sX12_write_l61 70000 p2 p3 x1 (0 : Int32) w3)) else some ((), w)))
set_option maxRecDepth 20000 in
theorem tX12_write (p1 : Int32) (p2 : Int32) (p3 : Int32) (w : xW) : xJ ιV mX12_write lM (0, 0) 0 [(0, .ref 0), (1, .int p1), (2, .int p2), (3, .int p3)] [] w (sX12_write p1 p2 p3 w) := by
  unfold sX12_write
  refine xj_iloadn 1 dX12_write_0 rfl rfl ?_
  refine xj_i2l dX12_write_1 ?_
  refine xj_ldc2 (v := 4294967295) tw2157 dX12_write_2 ?_
  refine xj_land dX12_write_5 ?_
  refine xj_letl (fun x1 => ?_)
  refine xj_lstore (lv2 := [(4, .long x1), (0, .ref 0), (1, .int p1), (2, .int p2), (3, .int p3)]) dX12_write_6 (Nat.le_of_ble_eq_true rfl) rfl ?_
  refine xj_aloadn 1 dX12_write_8 rfl rfl ?_
  refine gfX12_272 (v := (w.1 0 45)) dX12_write_9 rfl rfl ?_
  refine xj_ifeq (tgt := 16) dX12_write_12 rfl ?_ ?_
  · refine xj_aloadn 1 dX12_write_16 rfl rfl ?_
    refine xj_lload 0 dX12_write_17 rfl ?_
    refine xj_iloadn 4 dX12_write_19 rfl rfl ?_
    refine xj_cVi (argv := [.long x1, .int p3]) (rest := []) dX12_write_20 (kX12_inData x1 p3 w) mkX12_inData tw2248 rfl rfl rfl rfl rfl rfl (fun x2 w3 => ?_)
    refine xj_ifne (tgt := 58) dX12_write_23 rfl ?_ ?_
    · refine xj_aloadn 1 dX12_write_26 rfl rfl ?_
      refine xj_lload 0 dX12_write_27 rfl ?_
      refine xj_ldc2 (v := 61440) tw2350 dX12_write_29 ?_
      refine xj_llt (tgt := 52) dX12_write_32 dX12_write_33 rfl ?_ ?_
      · refine xj_bipush (v := 6) dX12_write_52 cb_6 ?_
        refine pfX12_272 dX12_write_54 rfl ?_
        exact xj_rv dX12_write_57 rfl
      · refine xj_lload 0 dX12_write_36 rfl ?_
        refine xj_iloadn 4 dX12_write_38 rfl rfl ?_
        refine xj_i2l dX12_write_39 ?_
        refine xj_ladd dX12_write_40 ?_
        refine xj_ldc2 (v := 135168) tw2351 dX12_write_41 ?_
        refine xj_lgt (tgt := 52) dX12_write_44 dX12_write_45 rfl ?_ ?_
        · refine xj_bipush (v := 6) dX12_write_52 cb_6 ?_
          refine pfX12_272 dX12_write_54 rfl ?_
          exact xj_rv dX12_write_57 rfl
        · refine xj_iconst (v := 5) dX12_write_48 ci_5 ?_
          refine xj_goto (tgt := 54) dX12_write_49 rfl ?_
          refine pfX12_272 dX12_write_54 rfl ?_
          exact xj_rv dX12_write_57 rfl
    · refine xj_iconst (v := 0) dX12_write_58 ci_0 ?_
      refine xj_istore (lv2 := [(6, .int (0 : Int32)), (4, .long x1), (0, .ref 0), (1, .int p1), (2, .int p2), (3, .int p3)]) dX12_write_59 (Nat.le_of_ble_eq_true rfl) rfl ?_
      refine xj_sub (lv2 := [(0, .ref 0), (2, .int p2), (3, .int p3), (4, .long x1), (6, .int (0 : Int32))]) [2, 4, 5, 1, 0] rfl ?_
      exact tX12_write_l61 _ _ _ _ _ _
  · exact xj_rv dX12_write_15 rfl
theorem kX12_write (p1 : Int32) (p2 : Int32) (p3 : Int32) (w : xW) : xMet jV mX12_write lM (0, 0) [.ref 0, .int p1, .int p2, .int p3] w (sX12_write p1 p2 p3 w) := xj_met lM_ok (by decide) (Nat.le_of_ble_eq_true rfl) (Nat.zero_le _) (Nat.zero_le _) (tX12_write p1 p2 p3 w)
set_option maxRecDepth 20000 in
def sX12_part (p1 : Int32) (p2 : Int32) (w : xW) : Option (Int32 × xW) :=
  (if p2 = (4 : Int32) then (if xin p1 8 then some ((w.1 9 p1.toNatClampNeg), w) else none) else (if p2 = (2 : Int32) then (if xin p1 8 then some (((w.1 9 p1.toNatClampNeg) &&& (65535 : Int32)), w) else none) else (if p1 < (4 : Int32) then (if xin p1 8 then some (((w.1 9 p1.toNatClampNeg) &&& (255 : Int32)), w) else none) else (if xin (p1 - (4 : Int32)) 8 then some ((((w.1 9 ((p1 - (4 : Int32)).toNatClampNeg)) >>> ((8 : Int32) &&& 31)) &&& (255 : Int32)), w) else none))))
set_option maxRecDepth 20000 in
theorem tX12_part (p1 : Int32) (p2 : Int32) (w : xW) : xJ ιI mX12_part lM (0, 0) 0 [(0, .ref 0), (1, .int p1), (2, .int p2)] [] w (sX12_part p1 p2 w) := by
  unfold sX12_part
  refine xj_iloadn 2 dX12_part_0 rfl rfl ?_
  refine xj_iconst (v := 4) dX12_part_1 ci_4 ?_
  refine xj_ine (tgt := 14) dX12_part_2 rfl ?_ ?_
  · refine xj_aloadn 0 dX12_part_5 rfl rfl ?_
    refine gfX12_44 dX12_part_6 rfl ?_
    refine xj_iloadn 1 dX12_part_9 rfl rfl ?_
    refine xj_iald (k := 9) dX12_part_10 rfl ?_
    refine xj_goto (tgt := 64) dX12_part_11 rfl ?_
    exact xj_ri dX12_part_64 rfl
  · refine xj_iloadn 2 dX12_part_14 rfl rfl ?_
    refine xj_iconst (v := 2) dX12_part_15 ci_2 ?_
    refine xj_ine (tgt := 31) dX12_part_16 rfl ?_ ?_
    · refine xj_aloadn 0 dX12_part_19 rfl rfl ?_
      refine gfX12_44 dX12_part_20 rfl ?_
      refine xj_iloadn 1 dX12_part_23 rfl rfl ?_
      refine xj_iald (k := 9) dX12_part_24 rfl ?_
      refine xj_ldc (v := 65535) tw2115 dX12_part_25 ?_
      refine xj_iand dX12_part_27 ?_
      refine xj_goto (tgt := 64) dX12_part_28 rfl ?_
      exact xj_ri dX12_part_64 rfl
    · refine xj_iloadn 1 dX12_part_31 rfl rfl ?_
      refine xj_iconst (v := 4) dX12_part_32 ci_4 ?_
      refine xj_ige (tgt := 49) dX12_part_33 rfl ?_ ?_
      · refine xj_aloadn 0 dX12_part_36 rfl rfl ?_
        refine gfX12_44 dX12_part_37 rfl ?_
        refine xj_iloadn 1 dX12_part_40 rfl rfl ?_
        refine xj_iald (k := 9) dX12_part_41 rfl ?_
        refine xj_sipush (v := 255) dX12_part_42 cs_255 ?_
        refine xj_iand dX12_part_45 ?_
        refine xj_goto (tgt := 64) dX12_part_46 rfl ?_
        exact xj_ri dX12_part_64 rfl
      · refine xj_aloadn 0 dX12_part_49 rfl rfl ?_
        refine gfX12_44 dX12_part_50 rfl ?_
        refine xj_iloadn 1 dX12_part_53 rfl rfl ?_
        refine xj_iconst (v := 4) dX12_part_54 ci_4 ?_
        refine xj_isub dX12_part_55 ?_
        refine xj_iald (k := 9) dX12_part_56 rfl ?_
        refine xj_bipush (v := 8) dX12_part_57 cb_8 ?_
        refine xj_ishr dX12_part_59 ?_
        refine xj_sipush (v := 255) dX12_part_60 cs_255 ?_
        refine xj_iand dX12_part_63 ?_
        exact xj_ri dX12_part_64 rfl
theorem kX12_part (p1 : Int32) (p2 : Int32) (w : xW) : xMet jI mX12_part lM (0, 0) [.ref 0, .int p1, .int p2] w (sX12_part p1 p2 w) := xj_met lM_ok (by decide) (Nat.le_of_ble_eq_true rfl) (Nat.zero_le _) (Nat.zero_le _) (tX12_part p1 p2 w)
set_option maxRecDepth 20000 in
def sX12_setRegister (p1 : Int32) (p2 : Int32) (p3 : Int32) (w : xW) : Option (Unit × xW) :=
  (if p2 = (4 : Int32) then (if xin p1 8 then some ((), (xwi w 9 p1.toNatClampNeg p3)) else none) else (if p2 = (2 : Int32) then (if xin p1 8 then (if xin p1 8 then some ((), (xwi w 9 p1.toNatClampNeg (((w.1 9 p1.toNatClampNeg) &&& (-65536 : Int32)) ||| (p3 &&& (65535 : Int32))))) else none) else none) else (if p1 < (4 : Int32) then (if xin p1 8 then (if xin p1 8 then some ((), (xwi w 9 p1.toNatClampNeg (((w.1 9 p1.toNatClampNeg) &&& (-256 : Int32)) ||| (p3 &&& (255 : Int32))))) else none) else none) else (if xin (p1 - (4 : Int32)) 8 then (if xin (p1 - (4 : Int32)) 8 then some ((), (xwi w 9 ((p1 - (4 : Int32)).toNatClampNeg) (((w.1 9 ((p1 - (4 : Int32)).toNatClampNeg)) &&& (-65281 : Int32)) ||| ((p3 &&& (255 : Int32)) <<< ((8 : Int32) &&& 31))))) else none) else none))))
set_option maxRecDepth 20000 in
theorem tX12_setRegister (p1 : Int32) (p2 : Int32) (p3 : Int32) (w : xW) : xJ ιV mX12_setRegister lM (0, 0) 0 [(0, .ref 0), (1, .int p1), (2, .int p2), (3, .int p3)] [] w (sX12_setRegister p1 p2 p3 w) := by
  unfold sX12_setRegister
  refine xj_iloadn 2 dX12_setRegister_0 rfl rfl ?_
  refine xj_iconst (v := 4) dX12_setRegister_1 ci_4 ?_
  refine xj_ine (tgt := 15) dX12_setRegister_2 rfl ?_ ?_
  · refine xj_aloadn 0 dX12_setRegister_5 rfl rfl ?_
    refine gfX12_44 dX12_setRegister_6 rfl ?_
    refine xj_iloadn 1 dX12_setRegister_9 rfl rfl ?_
    refine xj_iloadn 3 dX12_setRegister_10 rfl rfl ?_
    refine xj_iast (k := 9) dX12_setRegister_11 rfl ?_
    refine xj_goto (tgt := 103) dX12_setRegister_12 rfl ?_
    exact xj_rv dX12_setRegister_103 rfl
  · refine xj_iloadn 2 dX12_setRegister_15 rfl rfl ?_
    refine xj_iconst (v := 2) dX12_setRegister_16 ci_2 ?_
    refine xj_ine (tgt := 44) dX12_setRegister_17 rfl ?_ ?_
    · refine xj_aloadn 0 dX12_setRegister_20 rfl rfl ?_
      refine gfX12_44 dX12_setRegister_21 rfl ?_
      refine xj_iloadn 1 dX12_setRegister_24 rfl rfl ?_
      refine xj_aloadn 0 dX12_setRegister_25 rfl rfl ?_
      refine gfX12_44 dX12_setRegister_26 rfl ?_
      refine xj_iloadn 1 dX12_setRegister_29 rfl rfl ?_
      refine xj_iald (k := 9) dX12_setRegister_30 rfl ?_
      refine xj_ldcw (v := -65536) tw2340 dX12_setRegister_31 ?_
      refine xj_iand dX12_setRegister_34 ?_
      refine xj_iloadn 3 dX12_setRegister_35 rfl rfl ?_
      refine xj_ldc (v := 65535) tw2115 dX12_setRegister_36 ?_
      refine xj_iand dX12_setRegister_38 ?_
      refine xj_ior dX12_setRegister_39 ?_
      refine xj_iast (k := 9) dX12_setRegister_40 rfl ?_
      refine xj_goto (tgt := 103) dX12_setRegister_41 rfl ?_
      exact xj_rv dX12_setRegister_103 rfl
    · refine xj_iloadn 1 dX12_setRegister_44 rfl rfl ?_
      refine xj_iconst (v := 4) dX12_setRegister_45 ci_4 ?_
      refine xj_ige (tgt := 74) dX12_setRegister_46 rfl ?_ ?_
      · refine xj_aloadn 0 dX12_setRegister_49 rfl rfl ?_
        refine gfX12_44 dX12_setRegister_50 rfl ?_
        refine xj_iloadn 1 dX12_setRegister_53 rfl rfl ?_
        refine xj_aloadn 0 dX12_setRegister_54 rfl rfl ?_
        refine gfX12_44 dX12_setRegister_55 rfl ?_
        refine xj_iloadn 1 dX12_setRegister_58 rfl rfl ?_
        refine xj_iald (k := 9) dX12_setRegister_59 rfl ?_
        refine xj_sipush (v := -256) dX12_setRegister_60 cs_m256 ?_
        refine xj_iand dX12_setRegister_63 ?_
        refine xj_iloadn 3 dX12_setRegister_64 rfl rfl ?_
        refine xj_sipush (v := 255) dX12_setRegister_65 cs_255 ?_
        refine xj_iand dX12_setRegister_68 ?_
        refine xj_ior dX12_setRegister_69 ?_
        refine xj_iast (k := 9) dX12_setRegister_70 rfl ?_
        refine xj_goto (tgt := 103) dX12_setRegister_71 rfl ?_
        exact xj_rv dX12_setRegister_103 rfl
      · refine xj_aloadn 0 dX12_setRegister_74 rfl rfl ?_
        refine gfX12_44 dX12_setRegister_75 rfl ?_
        refine xj_iloadn 1 dX12_setRegister_78 rfl rfl ?_
        refine xj_iconst (v := 4) dX12_setRegister_79 ci_4 ?_
        refine xj_isub dX12_setRegister_80 ?_
        refine xj_aloadn 0 dX12_setRegister_81 rfl rfl ?_
        refine gfX12_44 dX12_setRegister_82 rfl ?_
        refine xj_iloadn 1 dX12_setRegister_85 rfl rfl ?_
        refine xj_iconst (v := 4) dX12_setRegister_86 ci_4 ?_
        refine xj_isub dX12_setRegister_87 ?_
        refine xj_iald (k := 9) dX12_setRegister_88 rfl ?_
        refine xj_ldcw (v := -65281) tw2341 dX12_setRegister_89 ?_
        refine xj_iand dX12_setRegister_92 ?_
        refine xj_iloadn 3 dX12_setRegister_93 rfl rfl ?_
        refine xj_sipush (v := 255) dX12_setRegister_94 cs_255 ?_
        refine xj_iand dX12_setRegister_97 ?_
        refine xj_bipush (v := 8) dX12_setRegister_98 cb_8 ?_
        refine xj_ishl dX12_setRegister_100 ?_
        refine xj_ior dX12_setRegister_101 ?_
        refine xj_iast (k := 9) dX12_setRegister_102 rfl ?_
        exact xj_rv dX12_setRegister_103 rfl
theorem kX12_setRegister (p1 : Int32) (p2 : Int32) (p3 : Int32) (w : xW) : xMet jV mX12_setRegister lM (0, 0) [.ref 0, .int p1, .int p2, .int p3] w (sX12_setRegister p1 p2 p3 w) := xj_met lM_ok (by decide) (Nat.le_of_ble_eq_true rfl) (Nat.zero_le _) (Nat.zero_le _) (tX12_setRegister p1 p2 p3 w)
set_option maxRecDepth 20000 in
def sX12_address_j47 (b0 : Int32) (b1 : Int32) (w : xW) : Option (Int32 × xW) :=
  some (((b1 + b0) + (w.1 0 28)), w)
set_option maxRecDepth 20000 in
theorem tX12_address_j47 (b0 : Int32) (b1 : Int32) (w : xW) : xJ ιI mX12_address lM (0, 0) 47 [(0, .ref 0)] [.int b0, .int b1] w (sX12_address_j47 b0 b1 w) := by
  unfold sX12_address_j47
  refine xj_iadd dX12_address_47 ?_
  refine xj_aloadn 0 dX12_address_48 rfl rfl ?_
  refine gfX12_100 (v := (w.1 0 28)) dX12_address_49 rfl rfl ?_
  refine xj_iadd dX12_address_52 ?_
  exact xj_ri dX12_address_53 rfl
set_option maxRecDepth 20000 in
def sX12_address_j21 (b0 : Int32) (w : xW) : Option (Int32 × xW) :=
  (if (w.1 0 26) = (-1 : Int32) then sX12_address_j47 (0 : Int32) b0 w else (if xin (w.1 0 26) 8 then sX12_address_j47 ((w.1 9 ((w.1 0 26).toNatClampNeg)) * (w.1 0 27)) b0 w else none))
set_option maxRecDepth 20000 in
theorem tX12_address_j21 (b0 : Int32) (w : xW) : xJ ιI mX12_address lM (0, 0) 21 [(0, .ref 0)] [.int b0] w (sX12_address_j21 b0 w) := by
  unfold sX12_address_j21
  refine xj_aloadn 0 dX12_address_21 rfl rfl ?_
  refine gfX12_94 (v := (w.1 0 26)) dX12_address_22 rfl rfl ?_
  refine xj_iconst (v := -1) dX12_address_25 ci_m1 ?_
  refine xj_ine (tgt := 33) dX12_address_26 rfl ?_ ?_
  · refine xj_iconst (v := 0) dX12_address_29 ci_0 ?_
    refine xj_goto (tgt := 47) dX12_address_30 rfl ?_
    exact tX12_address_j47 _ _ _
  · refine xj_aloadn 0 dX12_address_33 rfl rfl ?_
    refine gfX12_44 dX12_address_34 rfl ?_
    refine xj_aloadn 0 dX12_address_37 rfl rfl ?_
    refine gfX12_94 (v := (w.1 0 26)) dX12_address_38 rfl rfl ?_
    refine xj_iald (k := 9) dX12_address_41 rfl ?_
    refine xj_aloadn 0 dX12_address_42 rfl rfl ?_
    refine gfX12_97 (v := (w.1 0 27)) dX12_address_43 rfl rfl ?_
    refine xj_imul dX12_address_46 ?_
    exact tX12_address_j47 _ _ _
set_option maxRecDepth 20000 in
def sX12_address (w : xW) : Option (Int32 × xW) :=
  (if (w.1 0 25) = (-1 : Int32) then sX12_address_j21 (0 : Int32) w else (if xin (w.1 0 25) 8 then sX12_address_j21 (w.1 9 ((w.1 0 25).toNatClampNeg)) w else none))
set_option maxRecDepth 20000 in
theorem tX12_address (w : xW) : xJ ιI mX12_address lM (0, 0) 0 [(0, .ref 0)] [] w (sX12_address w) := by
  unfold sX12_address
  refine xj_aloadn 0 dX12_address_0 rfl rfl ?_
  refine gfX12_91 (v := (w.1 0 25)) dX12_address_1 rfl rfl ?_
  refine xj_iconst (v := -1) dX12_address_4 ci_m1 ?_
  refine xj_ine (tgt := 12) dX12_address_5 rfl ?_ ?_
  · refine xj_iconst (v := 0) dX12_address_8 ci_0 ?_
    refine xj_goto (tgt := 21) dX12_address_9 rfl ?_
    exact tX12_address_j21 _ _
  · refine xj_aloadn 0 dX12_address_12 rfl rfl ?_
    refine gfX12_44 dX12_address_13 rfl ?_
    refine xj_aloadn 0 dX12_address_16 rfl rfl ?_
    refine gfX12_91 (v := (w.1 0 25)) dX12_address_17 rfl rfl ?_
    refine xj_iald (k := 9) dX12_address_20 rfl ?_
    exact tX12_address_j21 _ _
theorem kX12_address (w : xW) : xMet jI mX12_address lM (0, 0) [.ref 0] w (sX12_address w) := xj_met lM_ok (by decide) (Nat.le_of_ble_eq_true rfl) (Nat.zero_le _) (Nat.zero_le _) (tX12_address w)
set_option maxRecDepth 20000 in
def sX12_getE_j17 (b0 : Int32) (w : xW) : Option (Int32 × xW) :=
  (if (w.1 0 22) = (3 : Int32) then xbd (sX12_part (w.1 0 24) (w.1 0 21) (xwi w 0 46 b0)) (fun x3 w4 => some (x3, w4)) else xbd (sX12_read b0 (w.1 0 21) (xwi w 0 46 b0)) (fun x1 w2 => some (x1, w2)))
set_option maxRecDepth 20000 in
theorem tX12_getE_j17 (b0 : Int32) (w : xW) : xJ ιI mX12_getE lM (0, 0) 17 [(0, .ref 0)] [.int b0, .ref 0] w (sX12_getE_j17 b0 w) := by
  unfold sX12_getE_j17
  refine pfX12_288 dX12_getE_17 rfl ?_
  refine xj_aloadn 0 dX12_getE_20 rfl rfl ?_
  refine gfX12_82 (v := (w.1 0 22)) dX12_getE_21 rfl rfl ?_
  refine xj_iconst (v := 3) dX12_getE_24 ci_3 ?_
  refine xj_ine (tgt := 43) dX12_getE_25 rfl ?_ ?_
  · refine xj_aloadn 0 dX12_getE_28 rfl rfl ?_
    refine xj_aloadn 0 dX12_getE_29 rfl rfl ?_
    refine gfX12_88 (v := (w.1 0 24)) dX12_getE_30 rfl rfl ?_
    refine xj_aloadn 0 dX12_getE_33 rfl rfl ?_
    refine gfX12_79 (v := (w.1 0 21)) dX12_getE_34 rfl rfl ?_
    refine xj_cVi (argv := [.int (w.1 0 24), .int (w.1 0 21)]) (rest := []) dX12_getE_37 (kX12_part (w.1 0 24) (w.1 0 21) (xwi w 0 46 b0)) mkX12_part tw2294 rfl rfl rfl rfl rfl rfl (fun x3 w4 => ?_)
    refine xj_goto (tgt := 55) dX12_getE_40 rfl ?_
    exact xj_ri dX12_getE_55 rfl
  · refine xj_aloadn 0 dX12_getE_43 rfl rfl ?_
    refine xj_aloadn 0 dX12_getE_44 rfl rfl ?_
    refine gfX12_288 (v := b0) dX12_getE_45 rfl rfl ?_
    refine xj_aloadn 0 dX12_getE_48 rfl rfl ?_
    refine gfX12_79 (v := (w.1 0 21)) dX12_getE_49 rfl rfl ?_
    refine xj_cVi (argv := [.int b0, .int (w.1 0 21)]) (rest := []) dX12_getE_52 (kX12_read b0 (w.1 0 21) (xwi w 0 46 b0)) mkX12_read tw2281 rfl rfl rfl rfl rfl rfl (fun x1 w2 => ?_)
    exact xj_ri dX12_getE_55 rfl
set_option maxRecDepth 20000 in
def sX12_getE (w : xW) : Option (Int32 × xW) :=
  (if (w.1 0 22) = (3 : Int32) then sX12_getE_j17 (0 : Int32) w else xbd (sX12_address w) (fun x1 w2 => sX12_getE_j17 x1 w2))
set_option maxRecDepth 20000 in
theorem tX12_getE (w : xW) : xJ ιI mX12_getE lM (0, 0) 0 [(0, .ref 0)] [] w (sX12_getE w) := by
  unfold sX12_getE
  refine xj_aloadn 0 dX12_getE_0 rfl rfl ?_
  refine xj_aloadn 0 dX12_getE_1 rfl rfl ?_
  refine gfX12_82 (v := (w.1 0 22)) dX12_getE_2 rfl rfl ?_
  refine xj_iconst (v := 3) dX12_getE_5 ci_3 ?_
  refine xj_ine (tgt := 13) dX12_getE_6 rfl ?_ ?_
  · refine xj_iconst (v := 0) dX12_getE_9 ci_0 ?_
    refine xj_goto (tgt := 17) dX12_getE_10 rfl ?_
    exact tX12_getE_j17 _ _
  · refine xj_aloadn 0 dX12_getE_13 rfl rfl ?_
    refine xj_cVi (argv := []) (rest := [.ref 0]) dX12_getE_14 (kX12_address w) mkX12_address tw2302 rfl rfl rfl rfl rfl rfl (fun x1 w2 => ?_)
    exact tX12_getE_j17 _ _
theorem kX12_getE (w : xW) : xMet jI mX12_getE lM (0, 0) [.ref 0] w (sX12_getE w) := xj_met lM_ok (by decide) (Nat.le_of_ble_eq_true rfl) (Nat.zero_le _) (Nat.zero_le _) (tX12_getE w)
set_option maxRecDepth 20000 in
def sX12_setE (p1 : Int32) (w : xW) : Option (Unit × xW) :=
  (if (w.1 0 22) = (3 : Int32) then xbd (sX12_setRegister (w.1 0 24) (w.1 0 21) p1 w) (fun _ w2 => some ((), w2)) else xbd (sX12_write (w.1 0 46) p1 (w.1 0 21) w) (fun _ w1 => some ((), w1)))
set_option maxRecDepth 20000 in
theorem tX12_setE (p1 : Int32) (w : xW) : xJ ιV mX12_setE lM (0, 0) 0 [(0, .ref 0), (1, .int p1)] [] w (sX12_setE p1 w) := by
  unfold sX12_setE
  refine xj_aloadn 0 dX12_setE_0 rfl rfl ?_
  refine gfX12_82 (v := (w.1 0 22)) dX12_setE_1 rfl rfl ?_
  refine xj_iconst (v := 3) dX12_setE_4 ci_3 ?_
  refine xj_ine (tgt := 24) dX12_setE_5 rfl ?_ ?_
  · refine xj_aloadn 0 dX12_setE_8 rfl rfl ?_
    refine xj_aloadn 0 dX12_setE_9 rfl rfl ?_
    refine gfX12_88 (v := (w.1 0 24)) dX12_setE_10 rfl rfl ?_
    refine xj_aloadn 0 dX12_setE_13 rfl rfl ?_
    refine gfX12_79 (v := (w.1 0 21)) dX12_setE_14 rfl rfl ?_
    refine xj_iloadn 1 dX12_setE_17 rfl rfl ?_
    refine xj_cVv (argv := [.int (w.1 0 24), .int (w.1 0 21), .int p1]) (rest := []) dX12_setE_18 (kX12_setRegister (w.1 0 24) (w.1 0 21) p1 w) mkX12_setRegister tw2336 rfl rfl rfl rfl rfl rfl (fun _ w2 => ?_)
    refine xj_goto (tgt := 37) dX12_setE_21 rfl ?_
    exact xj_rv dX12_setE_37 rfl
  · refine xj_aloadn 0 dX12_setE_24 rfl rfl ?_
    refine xj_aloadn 0 dX12_setE_25 rfl rfl ?_
    refine gfX12_288 (v := (w.1 0 46)) dX12_setE_26 rfl rfl ?_
    refine xj_iloadn 1 dX12_setE_29 rfl rfl ?_
    refine xj_aloadn 0 dX12_setE_30 rfl rfl ?_
    refine gfX12_79 (v := (w.1 0 21)) dX12_setE_31 rfl rfl ?_
    refine xj_cVv (argv := [.int (w.1 0 46), .int p1, .int (w.1 0 21)]) (rest := []) dX12_setE_34 (kX12_write (w.1 0 46) p1 (w.1 0 21) w) mkX12_write tw2346 rfl rfl rfl rfl rfl rfl (fun _ w1 => ?_)
    exact xj_rv dX12_setE_37 rfl
theorem kX12_setE (p1 : Int32) (w : xW) : xMet jV mX12_setE lM (0, 0) [.ref 0, .int p1] w (sX12_setE p1 w) := xj_met lM_ok (by decide) (Nat.le_of_ble_eq_true rfl) (Nat.zero_le _) (Nat.zero_le _) (tX12_setE p1 w)
set_option maxRecDepth 20000 in
def sX12_mask (p0 : Int32) (w : xW) : Option (Int32 × xW) :=
  (if p0 = (4 : Int32) then some ((-1 : Int32), w) else (if p0 = (2 : Int32) then some ((65535 : Int32), w) else some ((255 : Int32), w)))
set_option maxRecDepth 20000 in
theorem tX12_mask (p0 : Int32) (w : xW) : xJ ιI mX12_mask lM (0, 0) 0 [(0, .int p0)] [] w (sX12_mask p0 w) := by
  unfold sX12_mask
  refine xj_iloadn 0 dX12_mask_0 rfl rfl ?_
  refine xj_iconst (v := 4) dX12_mask_1 ci_4 ?_
  refine xj_ine (tgt := 9) dX12_mask_2 rfl ?_ ?_
  · refine xj_iconst (v := -1) dX12_mask_5 ci_m1 ?_
    refine xj_goto (tgt := 22) dX12_mask_6 rfl ?_
    exact xj_ri dX12_mask_22 rfl
  · refine xj_iloadn 0 dX12_mask_9 rfl rfl ?_
    refine xj_iconst (v := 2) dX12_mask_10 ci_2 ?_
    refine xj_ine (tgt := 19) dX12_mask_11 rfl ?_ ?_
    · refine xj_ldc (v := 65535) tw2115 dX12_mask_14 ?_
      refine xj_goto (tgt := 22) dX12_mask_16 rfl ?_
      exact xj_ri dX12_mask_22 rfl
    · refine xj_sipush (v := 255) dX12_mask_19 cs_255 ?_
      exact xj_ri dX12_mask_22 rfl
theorem kX12_mask (p0 : Int32) (w : xW) : xMet jI mX12_mask lM (0, 0) [.int p0] w (sX12_mask p0 w) := xj_met lM_ok (by decide) (Nat.le_of_ble_eq_true rfl) (Nat.zero_le _) (Nat.zero_le _) (tX12_mask p0 w)
set_option maxRecDepth 20000 in
def sX12_top (p0 : Int32) (p1 : Int32) (w : xW) : Option (Int32 × xW) :=
  (if ((xushr p0 (((8 : Int32) * p1) - (1 : Int32))) &&& (1 : Int32)) = 0 then some ((0 : Int32), w) else some ((1 : Int32), w))
set_option maxRecDepth 20000 in
theorem tX12_top (p0 : Int32) (p1 : Int32) (w : xW) : xJ ιI mX12_top lM (0, 0) 0 [(0, .int p0), (1, .int p1)] [] w (sX12_top p0 p1 w) := by
  unfold sX12_top
  refine xj_iloadn 0 dX12_top_0 rfl rfl ?_
  refine xj_bipush (v := 8) dX12_top_1 cb_8 ?_
  refine xj_iloadn 1 dX12_top_3 rfl rfl ?_
  refine xj_imul dX12_top_4 ?_
  refine xj_iconst (v := 1) dX12_top_5 ci_1 ?_
  refine xj_isub dX12_top_6 ?_
  refine xj_iushr dX12_top_7 ?_
  refine xj_iconst (v := 1) dX12_top_8 ci_1 ?_
  refine xj_iand dX12_top_9 ?_
  refine xj_ifeq (tgt := 17) dX12_top_10 rfl ?_ ?_
  · refine xj_iconst (v := 0) dX12_top_17 ci_0 ?_
    exact xj_rz dX12_top_18 rfl (Or.inl rfl)
  · refine xj_iconst (v := 1) dX12_top_13 ci_1 ?_
    refine xj_goto (tgt := 18) dX12_top_14 rfl ?_
    exact xj_rz dX12_top_18 rfl (Or.inr rfl)
theorem kX12_top (p0 : Int32) (p1 : Int32) (w : xW) : xMet jI mX12_top lM (0, 0) [.int p0, .int p1] w (sX12_top p0 p1 w) := xj_met lM_ok (by decide) (Nat.le_of_ble_eq_true rfl) (Nat.zero_le _) (Nat.zero_le _) (tX12_top p0 p1 w)
set_option maxRecDepth 20000 in
def sX12_byResult_j15 (a1 : Int32) (a2 : Int32) (b0 : Int32) (w : xW) : Option (Unit × xW) :=
  (if xz b0 then xbd (sX12_top a1 a2 (xwi w 0 38 b0)) (fun x1 w2 => (if xz x1 then xlet ((a1 &&& (255 : Int32)) ^^^ ((a1 &&& (255 : Int32)) >>> ((4 : Int32) &&& 31))) (fun x3 => xlet (x3 ^^^ (x3 >>> ((2 : Int32) &&& 31))) (fun x4 => xlet (x4 ^^^ (x4 >>> ((1 : Int32) &&& 31))) (fun x5 => (if (x5 &&& (1 : Int32)) = 0 then some ((), (xwi (xwi w2 0 39 x1) 0 37 (1 : Int32))) else some ((), (xwi (xwi w2 0 39 x1) 0 37 (0 : Int32))))))) else none)) else none)
set_option maxRecDepth 20000 in
theorem tX12_byResult_j15 (a1 : Int32) (a2 : Int32) (b0 : Int32) (w : xW) : xJ ιV mX12_byResult lM (0, 0) 15 [(0, .ref 0), (1, .int a1), (2, .int a2)] [.int b0, .ref 0] w (sX12_byResult_j15 a1 a2 b0 w) := by
  unfold sX12_byResult_j15
  refine xj_guard (fun hz => ?_)
  refine pfX12_307 dX12_byResult_15 rfl hz ?_
  refine xj_aloadn 0 dX12_byResult_18 rfl rfl ?_
  refine xj_iloadn 1 dX12_byResult_19 rfl rfl ?_
  refine xj_iloadn 2 dX12_byResult_20 rfl rfl ?_
  refine xj_cSi (argv := [.int a1, .int a2]) (rest := [.ref 0]) dX12_byResult_21 (kX12_top a1 a2 (xwi w 0 38 b0)) mkX12_top tw2321 rfl rfl rfl rfl (fun x1 w2 => ?_)
  refine xj_guard (fun hz => ?_)
  refine pfX12_314 dX12_byResult_24 rfl hz ?_
  refine xj_iloadn 1 dX12_byResult_27 rfl rfl ?_
  refine xj_sipush (v := 255) dX12_byResult_28 cs_255 ?_
  refine xj_iand dX12_byResult_31 ?_
  refine xj_istoren (lv2 := [(3, .int (a1 &&& (255 : Int32))), (0, .ref 0), (1, .int a1), (2, .int a2)]) dX12_byResult_32 rfl (Nat.le_of_ble_eq_true rfl) rfl ?_
  refine xj_iloadn 0 dX12_byResult_33 rfl rfl ?_
  refine xj_iloadn 0 dX12_byResult_34 rfl rfl ?_
  refine xj_iconst (v := 4) dX12_byResult_35 ci_4 ?_
  refine xj_ishr dX12_byResult_36 ?_
  refine xj_ixor dX12_byResult_37 ?_
  refine xj_leti (fun x3 => ?_)
  refine xj_istoren (lv2 := [(3, .int x3), (0, .ref 0), (1, .int a1), (2, .int a2)]) dX12_byResult_38 rfl (Nat.le_of_ble_eq_true rfl) rfl ?_
  refine xj_iloadn 0 dX12_byResult_39 rfl rfl ?_
  refine xj_iloadn 0 dX12_byResult_40 rfl rfl ?_
  refine xj_iconst (v := 2) dX12_byResult_41 ci_2 ?_
  refine xj_ishr dX12_byResult_42 ?_
  refine xj_ixor dX12_byResult_43 ?_
  refine xj_leti (fun x4 => ?_)
  refine xj_istoren (lv2 := [(3, .int x4), (0, .ref 0), (1, .int a1), (2, .int a2)]) dX12_byResult_44 rfl (Nat.le_of_ble_eq_true rfl) rfl ?_
  refine xj_iloadn 0 dX12_byResult_45 rfl rfl ?_
  refine xj_iloadn 0 dX12_byResult_46 rfl rfl ?_
  refine xj_iconst (v := 1) dX12_byResult_47 ci_1 ?_
  refine xj_ishr dX12_byResult_48 ?_
  refine xj_ixor dX12_byResult_49 ?_
  refine xj_leti (fun x5 => ?_)
  refine xj_istoren (lv2 := [(3, .int x5), (0, .ref 0), (1, .int a1), (2, .int a2)]) dX12_byResult_50 rfl (Nat.le_of_ble_eq_true rfl) rfl ?_
  refine xj_aloadn 1 dX12_byResult_51 rfl rfl ?_
  refine xj_iloadn 0 dX12_byResult_52 rfl rfl ?_
  refine xj_iconst (v := 1) dX12_byResult_53 ci_1 ?_
  refine xj_iand dX12_byResult_54 ?_
  refine xj_ifne (tgt := 62) dX12_byResult_55 rfl ?_ ?_
  · refine xj_iconst (v := 1) dX12_byResult_58 ci_1 ?_
    refine xj_goto (tgt := 63) dX12_byResult_59 rfl ?_
    refine pfX12_317 dX12_byResult_63 rfl (Or.inr rfl) ?_
    exact xj_rv dX12_byResult_66 rfl
  · refine xj_iconst (v := 0) dX12_byResult_62 ci_0 ?_
    refine pfX12_317 dX12_byResult_63 rfl (Or.inl rfl) ?_
    exact xj_rv dX12_byResult_66 rfl
set_option maxRecDepth 20000 in
def sX12_byResult (p1 : Int32) (p2 : Int32) (w : xW) : Option (Unit × xW) :=
  xbd (sX12_mask p2 w) (fun x1 w2 => (if (p1 &&& x1) = 0 then sX12_byResult_j15 p1 p2 (1 : Int32) w2 else sX12_byResult_j15 p1 p2 (0 : Int32) w2))
set_option maxRecDepth 20000 in
theorem tX12_byResult (p1 : Int32) (p2 : Int32) (w : xW) : xJ ιV mX12_byResult lM (0, 0) 0 [(0, .ref 0), (1, .int p1), (2, .int p2)] [] w (sX12_byResult p1 p2 w) := by
  unfold sX12_byResult
  refine xj_aloadn 0 dX12_byResult_0 rfl rfl ?_
  refine xj_iloadn 1 dX12_byResult_1 rfl rfl ?_
  refine xj_iloadn 2 dX12_byResult_2 rfl rfl ?_
  refine xj_cSi (argv := [.int p2]) (rest := [.int p1, .ref 0]) dX12_byResult_3 (kX12_mask p2 w) mkX12_mask tw2318 rfl rfl rfl rfl (fun x1 w2 => ?_)
  refine xj_iand dX12_byResult_6 ?_
  refine xj_ifne (tgt := 14) dX12_byResult_7 rfl ?_ ?_
  · refine xj_iconst (v := 1) dX12_byResult_10 ci_1 ?_
    refine xj_goto (tgt := 15) dX12_byResult_11 rfl ?_
    exact tX12_byResult_j15 _ _ _ _
  · refine xj_iconst (v := 0) dX12_byResult_14 ci_0 ?_
    exact tX12_byResult_j15 _ _ _ _
theorem kX12_byResult (p1 : Int32) (p2 : Int32) (w : xW) : xMet jV mX12_byResult lM (0, 0) [.ref 0, .int p1, .int p2] w (sX12_byResult p1 p2 w) := xj_met lM_ok (by decide) (Nat.le_of_ble_eq_true rfl) (Nat.zero_le _) (Nat.zero_le _) (tX12_byResult p1 p2 w)
set_option maxRecDepth 20000 in
def sX12_sum_j47 (a1 : Int32) (a2 : Int32) (a4 : Int32) (a9 : Int32) (b0 : Int32) (w : xW) : Option (Int32 × xW) :=
  (if xz b0 then xbd (sX12_top ((a1 ^^^ a9) &&& (a2 ^^^ a9)) a4 (xwi w 0 36 b0)) (fun x1 w2 => (if xz x1 then xbd (sX12_byResult a9 a4 (xwi w2 0 40 x1)) (fun _ w3 => xbd (sX12_mask a4 w3) (fun x4 w5 => some ((a9 &&& x4), w5))) else none)) else none)
set_option maxRecDepth 20000 in
theorem tX12_sum_j47 (a1 : Int32) (a2 : Int32) (a4 : Int32) (a9 : Int32) (b0 : Int32) (w : xW) : xJ ιI mX12_sum lM (0, 0) 47 [(0, .ref 0), (1, .int a1), (2, .int a2), (4, .int a4), (9, .int a9)] [.int b0, .ref 0] w (sX12_sum_j47 a1 a2 a4 a9 b0 w) := by
  unfold sX12_sum_j47
  refine xj_guard (fun hz => ?_)
  refine pfX12_320 dX12_sum_47 rfl hz ?_
  refine xj_aloadn 0 dX12_sum_50 rfl rfl ?_
  refine xj_iloadn 1 dX12_sum_51 rfl rfl ?_
  refine xj_iload 4 dX12_sum_52 rfl ?_
  refine xj_ixor dX12_sum_54 ?_
  refine xj_iloadn 2 dX12_sum_55 rfl rfl ?_
  refine xj_iload 4 dX12_sum_56 rfl ?_
  refine xj_ixor dX12_sum_58 ?_
  refine xj_iand dX12_sum_59 ?_
  refine xj_iload 3 dX12_sum_60 rfl ?_
  refine xj_cSi (argv := [.int ((a1 ^^^ a9) &&& (a2 ^^^ a9)), .int a4]) (rest := [.ref 0]) dX12_sum_62 (kX12_top ((a1 ^^^ a9) &&& (a2 ^^^ a9)) a4 (xwi w 0 36 b0)) mkX12_top tw2321 rfl rfl rfl rfl (fun x1 w2 => ?_)
  refine xj_guard (fun hz => ?_)
  refine pfX12_323 dX12_sum_65 rfl hz ?_
  refine xj_aloadn 0 dX12_sum_68 rfl rfl ?_
  refine xj_iload 4 dX12_sum_69 rfl ?_
  refine xj_iload 3 dX12_sum_71 rfl ?_
  refine xj_cVv (argv := [.int a9, .int a4]) (rest := []) dX12_sum_73 (kX12_byResult a9 a4 (xwi w2 0 40 x1)) mkX12_byResult tw2324 rfl rfl rfl rfl rfl rfl (fun _ w3 => ?_)
  refine xj_iload 4 dX12_sum_76 rfl ?_
  refine xj_iload 3 dX12_sum_78 rfl ?_
  refine xj_cSi (argv := [.int a4]) (rest := [.int a9]) dX12_sum_80 (kX12_mask a4 w3) mkX12_mask tw2318 rfl rfl rfl rfl (fun x4 w5 => ?_)
  refine xj_iand dX12_sum_83 ?_
  exact xj_ri dX12_sum_84 rfl
set_option maxRecDepth 20000 in
def sX12_sum (p1 : Int32) (p2 : Int32) (p3 : Int32) (p4 : Int32) (w : xW) : Option (Int32 × xW) :=
  xbd (sX12_mask p4 w) (fun x1 w2 => xlet (x1.toInt64 &&& (4294967295 : Int64)) (fun x3 => xlet (((p1.toInt64 &&& x3) + (p2.toInt64 &&& x3)) + p3.toInt64) (fun x4 => (if x3 < x4 then sX12_sum_j47 p1 p2 p4 x4.toInt32 (1 : Int32) w2 else sX12_sum_j47 p1 p2 p4 x4.toInt32 (0 : Int32) w2))))
set_option maxRecDepth 20000 in
theorem tX12_sum (p1 : Int32) (p2 : Int32) (p3 : Int32) (p4 : Int32) (w : xW) : xJ ιI mX12_sum lM (0, 0) 0 [(0, .ref 0), (1, .int p1), (2, .int p2), (3, .int p3), (4, .int p4)] [] w (sX12_sum p1 p2 p3 p4 w) := by
  unfold sX12_sum
  refine xj_iload 4 dX12_sum_0 rfl ?_
  refine xj_cSi (argv := [.int p4]) (rest := []) dX12_sum_2 (kX12_mask p4 w) mkX12_mask tw2318 rfl rfl rfl rfl (fun x1 w2 => ?_)
  refine xj_i2l dX12_sum_5 ?_
  refine xj_ldc2 (v := 4294967295) tw2157 dX12_sum_6 ?_
  refine xj_land dX12_sum_9 ?_
  refine xj_letl (fun x3 => ?_)
  refine xj_lstore (lv2 := [(5, .long x3), (0, .ref 0), (1, .int p1), (2, .int p2), (3, .int p3), (4, .int p4)]) dX12_sum_10 (Nat.le_of_ble_eq_true rfl) rfl ?_
  refine xj_iloadn 2 dX12_sum_12 rfl rfl ?_
  refine xj_i2l dX12_sum_13 ?_
  refine xj_lload 0 dX12_sum_14 rfl ?_
  refine xj_land dX12_sum_16 ?_
  refine xj_iloadn 3 dX12_sum_17 rfl rfl ?_
  refine xj_i2l dX12_sum_18 ?_
  refine xj_lload 0 dX12_sum_19 rfl ?_
  refine xj_land dX12_sum_21 ?_
  refine xj_ladd dX12_sum_22 ?_
  refine xj_iloadn 4 dX12_sum_23 rfl rfl ?_
  refine xj_i2l dX12_sum_24 ?_
  refine xj_ladd dX12_sum_25 ?_
  refine xj_letl (fun x4 => ?_)
  refine xj_lstore (lv2 := [(7, .long x4), (5, .long x3), (0, .ref 0), (1, .int p1), (2, .int p2), (3, .int p3), (4, .int p4)]) dX12_sum_26 (Nat.le_of_ble_eq_true rfl) rfl ?_
  refine xj_lload 0 dX12_sum_28 rfl ?_
  refine xj_l2i dX12_sum_30 ?_
  refine xj_istore (lv2 := [(9, .int x4.toInt32), (7, .long x4), (5, .long x3), (0, .ref 0), (1, .int p1), (2, .int p2), (3, .int p3), (4, .int p4)]) dX12_sum_31 (Nat.le_of_ble_eq_true rfl) rfl ?_
  refine xj_aloadn 3 dX12_sum_33 rfl rfl ?_
  refine xj_lload 1 dX12_sum_34 rfl ?_
  refine xj_lload 2 dX12_sum_36 rfl ?_
  refine xj_lle (tgt := 46) dX12_sum_38 dX12_sum_39 rfl ?_ ?_
  · refine xj_iconst (v := 1) dX12_sum_42 ci_1 ?_
    refine xj_goto (tgt := 47) dX12_sum_43 rfl ?_
    refine xj_sub (lv2 := [(0, .ref 0), (1, .int p1), (2, .int p2), (4, .int p4), (9, .int x4.toInt32)]) [3, 4, 5, 7, 0] rfl ?_
    exact tX12_sum_j47 _ _ _ _ _ _
  · refine xj_iconst (v := 0) dX12_sum_46 ci_0 ?_
    refine xj_sub (lv2 := [(0, .ref 0), (1, .int p1), (2, .int p2), (4, .int p4), (9, .int x4.toInt32)]) [3, 4, 5, 7, 0] rfl ?_
    exact tX12_sum_j47 _ _ _ _ _ _
theorem kX12_sum (p1 : Int32) (p2 : Int32) (p3 : Int32) (p4 : Int32) (w : xW) : xMet jI mX12_sum lM (0, 0) [.ref 0, .int p1, .int p2, .int p3, .int p4] w (sX12_sum p1 p2 p3 p4 w) := xj_met lM_ok (by decide) (Nat.le_of_ble_eq_true rfl) (Nat.zero_le _) (Nat.zero_le _) (tX12_sum p1 p2 p3 p4 w)
set_option maxRecDepth 20000 in
def sX12_difference_j46 (a1 : Int32) (a2 : Int32) (a4 : Int32) (a9 : Int32) (b0 : Int32) (w : xW) : Option (Int32 × xW) :=
  (if xz b0 then xbd (sX12_top ((a1 ^^^ a2) &&& (a1 ^^^ a9)) a4 (xwi w 0 36 b0)) (fun x1 w2 => (if xz x1 then xbd (sX12_byResult a9 a4 (xwi w2 0 40 x1)) (fun _ w3 => xbd (sX12_mask a4 w3) (fun x4 w5 => some ((a9 &&& x4), w5))) else none)) else none)
set_option maxRecDepth 20000 in
theorem tX12_difference_j46 (a1 : Int32) (a2 : Int32) (a4 : Int32) (a9 : Int32) (b0 : Int32) (w : xW) : xJ ιI mX12_difference lM (0, 0) 46 [(0, .ref 0), (1, .int a1), (2, .int a2), (4, .int a4), (9, .int a9)] [.int b0, .ref 0] w (sX12_difference_j46 a1 a2 a4 a9 b0 w) := by
  unfold sX12_difference_j46
  refine xj_guard (fun hz => ?_)
  refine pfX12_320 dX12_difference_46 rfl hz ?_
  refine xj_aloadn 0 dX12_difference_49 rfl rfl ?_
  refine xj_iloadn 1 dX12_difference_50 rfl rfl ?_
  refine xj_iloadn 2 dX12_difference_51 rfl rfl ?_
  refine xj_ixor dX12_difference_52 ?_
  refine xj_iloadn 1 dX12_difference_53 rfl rfl ?_
  refine xj_iload 4 dX12_difference_54 rfl ?_
  refine xj_ixor dX12_difference_56 ?_
  refine xj_iand dX12_difference_57 ?_
  refine xj_iload 3 dX12_difference_58 rfl ?_
  refine xj_cSi (argv := [.int ((a1 ^^^ a2) &&& (a1 ^^^ a9)), .int a4]) (rest := [.ref 0]) dX12_difference_60 (kX12_top ((a1 ^^^ a2) &&& (a1 ^^^ a9)) a4 (xwi w 0 36 b0)) mkX12_top tw2321 rfl rfl rfl rfl (fun x1 w2 => ?_)
  refine xj_guard (fun hz => ?_)
  refine pfX12_323 dX12_difference_63 rfl hz ?_
  refine xj_aloadn 0 dX12_difference_66 rfl rfl ?_
  refine xj_iload 4 dX12_difference_67 rfl ?_
  refine xj_iload 3 dX12_difference_69 rfl ?_
  refine xj_cVv (argv := [.int a9, .int a4]) (rest := []) dX12_difference_71 (kX12_byResult a9 a4 (xwi w2 0 40 x1)) mkX12_byResult tw2324 rfl rfl rfl rfl rfl rfl (fun _ w3 => ?_)
  refine xj_iload 4 dX12_difference_74 rfl ?_
  refine xj_iload 3 dX12_difference_76 rfl ?_
  refine xj_cSi (argv := [.int a4]) (rest := [.int a9]) dX12_difference_78 (kX12_mask a4 w3) mkX12_mask tw2318 rfl rfl rfl rfl (fun x4 w5 => ?_)
  refine xj_iand dX12_difference_81 ?_
  exact xj_ri dX12_difference_82 rfl
set_option maxRecDepth 20000 in
def sX12_difference (p1 : Int32) (p2 : Int32) (p3 : Int32) (p4 : Int32) (w : xW) : Option (Int32 × xW) :=
  xbd (sX12_mask p4 w) (fun x1 w2 => xlet (x1.toInt64 &&& (4294967295 : Int64)) (fun x3 => xlet (((p1.toInt64 &&& x3) - (p2.toInt64 &&& x3)) - p3.toInt64) (fun x4 => (if x4 < (0 : Int64) then sX12_difference_j46 p1 p2 p4 x4.toInt32 (1 : Int32) w2 else sX12_difference_j46 p1 p2 p4 x4.toInt32 (0 : Int32) w2))))
set_option maxRecDepth 20000 in
theorem tX12_difference (p1 : Int32) (p2 : Int32) (p3 : Int32) (p4 : Int32) (w : xW) : xJ ιI mX12_difference lM (0, 0) 0 [(0, .ref 0), (1, .int p1), (2, .int p2), (3, .int p3), (4, .int p4)] [] w (sX12_difference p1 p2 p3 p4 w) := by
  unfold sX12_difference
  refine xj_iload 4 dX12_difference_0 rfl ?_
  refine xj_cSi (argv := [.int p4]) (rest := []) dX12_difference_2 (kX12_mask p4 w) mkX12_mask tw2318 rfl rfl rfl rfl (fun x1 w2 => ?_)
  refine xj_i2l dX12_difference_5 ?_
  refine xj_ldc2 (v := 4294967295) tw2157 dX12_difference_6 ?_
  refine xj_land dX12_difference_9 ?_
  refine xj_letl (fun x3 => ?_)
  refine xj_lstore (lv2 := [(5, .long x3), (0, .ref 0), (1, .int p1), (2, .int p2), (3, .int p3), (4, .int p4)]) dX12_difference_10 (Nat.le_of_ble_eq_true rfl) rfl ?_
  refine xj_iloadn 2 dX12_difference_12 rfl rfl ?_
  refine xj_i2l dX12_difference_13 ?_
  refine xj_lload 0 dX12_difference_14 rfl ?_
  refine xj_land dX12_difference_16 ?_
  refine xj_iloadn 3 dX12_difference_17 rfl rfl ?_
  refine xj_i2l dX12_difference_18 ?_
  refine xj_lload 0 dX12_difference_19 rfl ?_
  refine xj_land dX12_difference_21 ?_
  refine xj_lsub dX12_difference_22 ?_
  refine xj_iloadn 4 dX12_difference_23 rfl rfl ?_
  refine xj_i2l dX12_difference_24 ?_
  refine xj_lsub dX12_difference_25 ?_
  refine xj_letl (fun x4 => ?_)
  refine xj_lstore (lv2 := [(7, .long x4), (5, .long x3), (0, .ref 0), (1, .int p1), (2, .int p2), (3, .int p3), (4, .int p4)]) dX12_difference_26 (Nat.le_of_ble_eq_true rfl) rfl ?_
  refine xj_lload 0 dX12_difference_28 rfl ?_
  refine xj_l2i dX12_difference_30 ?_
  refine xj_istore (lv2 := [(9, .int x4.toInt32), (7, .long x4), (5, .long x3), (0, .ref 0), (1, .int p1), (2, .int p2), (3, .int p3), (4, .int p4)]) dX12_difference_31 (Nat.le_of_ble_eq_true rfl) rfl ?_
  refine xj_aloadn 3 dX12_difference_33 rfl rfl ?_
  refine xj_lload 1 dX12_difference_34 rfl ?_
  refine xj_lconst (v := 0) dX12_difference_36 cl_0 ?_
  refine xj_lge (tgt := 45) dX12_difference_37 dX12_difference_38 rfl ?_ ?_
  · refine xj_iconst (v := 1) dX12_difference_41 ci_1 ?_
    refine xj_goto (tgt := 46) dX12_difference_42 rfl ?_
    refine xj_sub (lv2 := [(0, .ref 0), (1, .int p1), (2, .int p2), (4, .int p4), (9, .int x4.toInt32)]) [3, 4, 5, 7, 0] rfl ?_
    exact tX12_difference_j46 _ _ _ _ _ _
  · refine xj_iconst (v := 0) dX12_difference_45 ci_0 ?_
    refine xj_sub (lv2 := [(0, .ref 0), (1, .int p1), (2, .int p2), (4, .int p4), (9, .int x4.toInt32)]) [3, 4, 5, 7, 0] rfl ?_
    exact tX12_difference_j46 _ _ _ _ _ _
theorem kX12_difference (p1 : Int32) (p2 : Int32) (p3 : Int32) (p4 : Int32) (w : xW) : xMet jI mX12_difference lM (0, 0) [.ref 0, .int p1, .int p2, .int p3, .int p4] w (sX12_difference p1 p2 p3 p4 w) := xj_met lM_ok (by decide) (Nat.le_of_ble_eq_true rfl) (Nat.zero_le _) (Nat.zero_le _) (tX12_difference p1 p2 p3 p4 w)
set_option maxRecDepth 20000 in
def sX12_eight_j135 (a4 : Int32) (b0 : Int32) (w : xW) : Option (Int32 × xW) :=
  xbd (sX12_byResult b0 a4 (xwi (xwi w 0 36 (0 : Int32)) 0 40 (0 : Int32))) (fun _ w1 => xbd (sX12_mask a4 w1) (fun x2 w3 => some ((b0 &&& x2), w3)))
set_option maxRecDepth 20000 in
theorem tX12_eight_j135 (a4 : Int32) (b0 : Int32) (w : xW) : xJ ιI mX12_eight lM (0, 0) 135 [(0, .ref 0), (4, .int a4)] [.int b0] w (sX12_eight_j135 a4 b0 w) := by
  unfold sX12_eight_j135
  refine xj_istore (lv2 := [(5, .int b0), (0, .ref 0), (4, .int a4)]) dX12_eight_135 (Nat.le_of_ble_eq_true rfl) rfl ?_
  refine xj_aloadn 1 dX12_eight_137 rfl rfl ?_
  refine xj_iconst (v := 0) dX12_eight_138 ci_0 ?_
  refine pfX12_320 dX12_eight_139 rfl (Or.inl rfl) ?_
  refine xj_aloadn 1 dX12_eight_142 rfl rfl ?_
  refine xj_iconst (v := 0) dX12_eight_143 ci_0 ?_
  refine pfX12_323 dX12_eight_144 rfl (Or.inl rfl) ?_
  refine xj_aloadn 1 dX12_eight_147 rfl rfl ?_
  refine xj_iload 0 dX12_eight_148 rfl ?_
  refine xj_iload 2 dX12_eight_150 rfl ?_
  refine xj_cVv (argv := [.int b0, .int a4]) (rest := []) dX12_eight_152 (kX12_byResult b0 a4 (xwi (xwi w 0 36 (0 : Int32)) 0 40 (0 : Int32))) mkX12_byResult tw2324 rfl rfl rfl rfl rfl rfl (fun _ w1 => ?_)
  refine xj_iload 0 dX12_eight_155 rfl ?_
  refine xj_iload 2 dX12_eight_157 rfl ?_
  refine xj_cSi (argv := [.int a4]) (rest := [.int b0]) dX12_eight_159 (kX12_mask a4 w1) mkX12_mask tw2318 rfl rfl rfl rfl (fun x2 w3 => ?_)
  refine xj_iand dX12_eight_162 ?_
  exact xj_ri dX12_eight_163 rfl
set_option maxRecDepth 20000 in
def sX12_eight_j110 (a1 : Int32) (a2 : Int32) (a3 : Int32) (a4 : Int32) (w : xW) : Option (Int32 × xW) :=
  (if a1 = (1 : Int32) then sX12_eight_j135 a4 (a2 ||| a3) w else (if a1 = (4 : Int32) then sX12_eight_j135 a4 (a2 &&& a3) w else sX12_eight_j135 a4 (a2 ^^^ a3) w))
set_option maxRecDepth 20000 in
theorem tX12_eight_j110 (a1 : Int32) (a2 : Int32) (a3 : Int32) (a4 : Int32) (w : xW) : xJ ιI mX12_eight lM (0, 0) 110 [(0, .ref 0), (1, .int a1), (2, .int a2), (3, .int a3), (4, .int a4)] [] w (sX12_eight_j110 a1 a2 a3 a4 w) := by
  unfold sX12_eight_j110
  refine xj_iloadn 1 dX12_eight_110 rfl rfl ?_
  refine xj_iconst (v := 1) dX12_eight_111 ci_1 ?_
  refine xj_ine (tgt := 121) dX12_eight_112 rfl ?_ ?_
  · refine xj_iloadn 2 dX12_eight_115 rfl rfl ?_
    refine xj_iloadn 3 dX12_eight_116 rfl rfl ?_
    refine xj_ior dX12_eight_117 ?_
    refine xj_goto (tgt := 135) dX12_eight_118 rfl ?_
    refine xj_sub (lv2 := [(0, .ref 0), (4, .int a4)]) [0, 4] rfl ?_
    exact tX12_eight_j135 _ _ _
  · refine xj_iloadn 1 dX12_eight_121 rfl rfl ?_
    refine xj_iconst (v := 4) dX12_eight_122 ci_4 ?_
    refine xj_ine (tgt := 132) dX12_eight_123 rfl ?_ ?_
    · refine xj_iloadn 2 dX12_eight_126 rfl rfl ?_
      refine xj_iloadn 3 dX12_eight_127 rfl rfl ?_
      refine xj_iand dX12_eight_128 ?_
      refine xj_goto (tgt := 135) dX12_eight_129 rfl ?_
      refine xj_sub (lv2 := [(0, .ref 0), (4, .int a4)]) [0, 4] rfl ?_
      exact tX12_eight_j135 _ _ _
    · refine xj_iloadn 2 dX12_eight_132 rfl rfl ?_
      refine xj_iloadn 3 dX12_eight_133 rfl rfl ?_
      refine xj_ixor dX12_eight_134 ?_
      refine xj_sub (lv2 := [(0, .ref 0), (4, .int a4)]) [0, 4] rfl ?_
      exact tX12_eight_j135 _ _ _
set_option maxRecDepth 20000 in
def sX12_eight_j100 (a2 : Int32) (a3 : Int32) (a4 : Int32) (w : xW) : Option (Int32 × xW) :=
  xbd (sX12_difference a2 a3 (0 : Int32) a4 w) (fun x1 w2 => some (x1, w2))
set_option maxRecDepth 20000 in
theorem tX12_eight_j100 (a2 : Int32) (a3 : Int32) (a4 : Int32) (w : xW) : xJ ιI mX12_eight lM (0, 0) 100 [(0, .ref 0), (2, .int a2), (3, .int a3), (4, .int a4)] [] w (sX12_eight_j100 a2 a3 a4 w) := by
  unfold sX12_eight_j100
  refine xj_aloadn 0 dX12_eight_100 rfl rfl ?_
  refine xj_iloadn 1 dX12_eight_101 rfl rfl ?_
  refine xj_iloadn 2 dX12_eight_102 rfl rfl ?_
  refine xj_iconst (v := 0) dX12_eight_103 ci_0 ?_
  refine xj_iload 3 dX12_eight_104 rfl ?_
  refine xj_cVi (argv := [.int a2, .int a3, .int (0 : Int32), .int a4]) (rest := []) dX12_eight_106 (kX12_difference a2 a3 (0 : Int32) a4 w) mkX12_difference tw2328 rfl rfl rfl rfl rfl rfl (fun x1 w2 => ?_)
  exact xj_ri dX12_eight_109 rfl
set_option maxRecDepth 20000 in
def sX12_eight (p1 : Int32) (p2 : Int32) (p3 : Int32) (p4 : Int32) (w : xW) : Option (Int32 × xW) :=
  xsw p1 (0) [xbd (sX12_sum p2 p3 (0 : Int32) p4 w) (fun x1 w2 => some (x1, w2)), sX12_eight_j110 p1 p2 p3 p4 w, (if (w.1 0 36) = 0 then xbd (sX12_sum p2 p3 (0 : Int32) p4 w) (fun x3 w4 => some (x3, w4)) else xbd (sX12_sum p2 p3 (1 : Int32) p4 w) (fun x5 w6 => some (x5, w6))), (if (w.1 0 36) = 0 then xbd (sX12_difference p2 p3 (0 : Int32) p4 w) (fun x7 w8 => some (x7, w8)) else xbd (sX12_difference p2 p3 (1 : Int32) p4 w) (fun x9 w10 => some (x9, w10))), sX12_eight_j110 p1 p2 p3 p4 w, sX12_eight_j100 p2 p3 p4 w, sX12_eight_j110 p1 p2 p3 p4 w, sX12_eight_j100 p2 p3 p4 w] (sX12_eight_j110 p1 p2 p3 p4 w)
set_option maxRecDepth 20000 in
theorem tX12_eight (p1 : Int32) (p2 : Int32) (p3 : Int32) (p4 : Int32) (w : xW) : xJ ιI mX12_eight lM (0, 0) 0 [(0, .ref 0), (1, .int p1), (2, .int p2), (3, .int p3), (4, .int p4)] [] w (sX12_eight p1 p2 p3 p4 w) := by
  unfold sX12_eight
  refine xj_iloadn 1 dX12_eight_0 rfl rfl ?_
  refine xj_tsw (tgtd := 110) [48, 110, 58, 79, 110, 100, 110, 100] dX12_eight_1 rfl rfl rfl rfl ?_ ⟨?_, ?_, ?_, ?_, ?_, ?_, ?_, ?_, trivial⟩
  · exact tX12_eight_j110 _ _ _ _ _
  · refine xj_aloadn 0 dX12_eight_48 rfl rfl ?_
    refine xj_iloadn 2 dX12_eight_49 rfl rfl ?_
    refine xj_iloadn 3 dX12_eight_50 rfl rfl ?_
    refine xj_iconst (v := 0) dX12_eight_51 ci_0 ?_
    refine xj_iload 4 dX12_eight_52 rfl ?_
    refine xj_cVi (argv := [.int p2, .int p3, .int (0 : Int32), .int p4]) (rest := []) dX12_eight_54 (kX12_sum p2 p3 (0 : Int32) p4 w) mkX12_sum tw2314 rfl rfl rfl rfl rfl rfl (fun x1 w2 => ?_)
    exact xj_ri dX12_eight_57 rfl
  · exact tX12_eight_j110 _ _ _ _ _
  · refine xj_aloadn 0 dX12_eight_58 rfl rfl ?_
    refine xj_iloadn 2 dX12_eight_59 rfl rfl ?_
    refine xj_iloadn 3 dX12_eight_60 rfl rfl ?_
    refine xj_aloadn 0 dX12_eight_61 rfl rfl ?_
    refine gfX12_320 (v := (w.1 0 36)) dX12_eight_62 rfl rfl ?_
    refine xj_ifeq (tgt := 72) dX12_eight_65 rfl ?_ ?_
    · refine xj_iconst (v := 0) dX12_eight_72 ci_0 ?_
      refine xj_iload 4 dX12_eight_73 rfl ?_
      refine xj_cVi (argv := [.int p2, .int p3, .int (0 : Int32), .int p4]) (rest := []) dX12_eight_75 (kX12_sum p2 p3 (0 : Int32) p4 w) mkX12_sum tw2314 rfl rfl rfl rfl rfl rfl (fun x3 w4 => ?_)
      exact xj_ri dX12_eight_78 rfl
    · refine xj_iconst (v := 1) dX12_eight_68 ci_1 ?_
      refine xj_goto (tgt := 73) dX12_eight_69 rfl ?_
      refine xj_iload 4 dX12_eight_73 rfl ?_
      refine xj_cVi (argv := [.int p2, .int p3, .int (1 : Int32), .int p4]) (rest := []) dX12_eight_75 (kX12_sum p2 p3 (1 : Int32) p4 w) mkX12_sum tw2314 rfl rfl rfl rfl rfl rfl (fun x5 w6 => ?_)
      exact xj_ri dX12_eight_78 rfl
  · refine xj_aloadn 0 dX12_eight_79 rfl rfl ?_
    refine xj_iloadn 2 dX12_eight_80 rfl rfl ?_
    refine xj_iloadn 3 dX12_eight_81 rfl rfl ?_
    refine xj_aloadn 0 dX12_eight_82 rfl rfl ?_
    refine gfX12_320 (v := (w.1 0 36)) dX12_eight_83 rfl rfl ?_
    refine xj_ifeq (tgt := 93) dX12_eight_86 rfl ?_ ?_
    · refine xj_iconst (v := 0) dX12_eight_93 ci_0 ?_
      refine xj_iload 4 dX12_eight_94 rfl ?_
      refine xj_cVi (argv := [.int p2, .int p3, .int (0 : Int32), .int p4]) (rest := []) dX12_eight_96 (kX12_difference p2 p3 (0 : Int32) p4 w) mkX12_difference tw2328 rfl rfl rfl rfl rfl rfl (fun x7 w8 => ?_)
      exact xj_ri dX12_eight_99 rfl
    · refine xj_iconst (v := 1) dX12_eight_89 ci_1 ?_
      refine xj_goto (tgt := 94) dX12_eight_90 rfl ?_
      refine xj_iload 4 dX12_eight_94 rfl ?_
      refine xj_cVi (argv := [.int p2, .int p3, .int (1 : Int32), .int p4]) (rest := []) dX12_eight_96 (kX12_difference p2 p3 (1 : Int32) p4 w) mkX12_difference tw2328 rfl rfl rfl rfl rfl rfl (fun x9 w10 => ?_)
      exact xj_ri dX12_eight_99 rfl
  · exact tX12_eight_j110 _ _ _ _ _
  · refine xj_sub (lv2 := [(0, .ref 0), (2, .int p2), (3, .int p3), (4, .int p4)]) [0, 2, 3, 4] rfl ?_
    exact tX12_eight_j100 _ _ _ _
  · exact tX12_eight_j110 _ _ _ _ _
  · refine xj_sub (lv2 := [(0, .ref 0), (2, .int p2), (3, .int p3), (4, .int p4)]) [0, 2, 3, 4] rfl ?_
    exact tX12_eight_j100 _ _ _ _
theorem kX12_eight (p1 : Int32) (p2 : Int32) (p3 : Int32) (p4 : Int32) (w : xW) : xMet jI mX12_eight lM (0, 0) [.ref 0, .int p1, .int p2, .int p3, .int p4] w (sX12_eight p1 p2 p3 p4 w) := xj_met lM_ok (by decide) (Nat.le_of_ble_eq_true rfl) (Nat.zero_le _) (Nat.zero_le _) (tX12_eight p1 p2 p3 p4 w)
