/-! the class, method by method: 4 -/
set_option maxRecDepth 20000 in
def sX11_gateAt_j30 (a1 : Int32) (b0 : Int32) (w : xW) : Option (Int32 × xW) :=
  (if b0 = 0 then some ((-1 : Int32), w) else some (a1, w))
set_option maxRecDepth 20000 in
theorem tX11_gateAt_j30 (a1 : Int32) (b0 : Int32) (w : xW) : xJ ιI mX11_gateAt lC (0, 0) 30 [(1, .int a1)] [.int b0] w (sX11_gateAt_j30 a1 b0 w) := by
  unfold sX11_gateAt_j30
  refine xj_istoren (lv2 := [(2, .int b0), (1, .int a1)]) dX11_gateAt_30 rfl (Nat.le_of_ble_eq_true rfl) rfl ?_
  refine xj_iloadn 0 dX11_gateAt_31 rfl rfl ?_
  refine xj_ifeq (tgt := 39) dX11_gateAt_32 rfl ?_ ?_
  · refine xj_iconst (v := -1) dX11_gateAt_39 ci_m1 ?_
    exact xj_ri dX11_gateAt_40 rfl
  · refine xj_iloadn 1 dX11_gateAt_35 rfl rfl ?_
    refine xj_goto (tgt := 40) dX11_gateAt_36 rfl ?_
    exact xj_ri dX11_gateAt_40 rfl
set_option maxRecDepth 20000 in
def sX11_gateAt_j29 (a1 : Int32) (w : xW) : Option (Int32 × xW) :=
  sX11_gateAt_j30 a1 (0 : Int32) w
set_option maxRecDepth 20000 in
theorem tX11_gateAt_j29 (a1 : Int32) (w : xW) : xJ ιI mX11_gateAt lC (0, 0) 29 [(1, .int a1)] [] w (sX11_gateAt_j29 a1 w) := by
  unfold sX11_gateAt_j29
  refine xj_iconst (v := 0) dX11_gateAt_29 ci_0 ?_
  exact tX11_gateAt_j30 _ _ _
set_option maxRecDepth 20000 in
def sX11_gateAt (p0 : Int32) (w : xW) : Option (Int32 × xW) :=
  xlet ((p0 - (1024 : Int32)) >>> ((5 : Int32) &&& 31)) (fun x1 => (if x1 < 0 then sX11_gateAt_j29 x1 w else (if x1 < (16 : Int32) then (if (p0 &&& (31 : Int32)) = 0 then sX11_gateAt_j30 x1 (1 : Int32) w else sX11_gateAt_j29 x1 w) else sX11_gateAt_j29 x1 w)))
set_option maxRecDepth 20000 in
theorem tX11_gateAt (p0 : Int32) (w : xW) : xJ ιI mX11_gateAt lC (0, 0) 0 [(0, .int p0)] [] w (sX11_gateAt p0 w) := by
  unfold sX11_gateAt
  refine xj_iloadn 0 dX11_gateAt_0 rfl rfl ?_
  refine xj_sipush (v := 1024) dX11_gateAt_1 cs_1024 ?_
  refine xj_isub dX11_gateAt_4 ?_
  refine xj_iconst (v := 5) dX11_gateAt_5 ci_5 ?_
  refine xj_ishr dX11_gateAt_6 ?_
  refine xj_leti (fun x1 => ?_)
  refine xj_istoren (lv2 := [(1, .int x1), (0, .int p0)]) dX11_gateAt_7 rfl (Nat.le_of_ble_eq_true rfl) rfl ?_
  refine xj_iloadn 0 dX11_gateAt_8 rfl rfl ?_
  refine xj_iflt (tgt := 29) dX11_gateAt_9 rfl ?_ ?_
  · refine xj_sub (lv2 := [(1, .int x1)]) [0] rfl ?_
    exact tX11_gateAt_j29 _ _
  · refine xj_iloadn 0 dX11_gateAt_12 rfl rfl ?_
    refine xj_bipush (v := 16) dX11_gateAt_13 cb_16 ?_
    refine xj_ige (tgt := 29) dX11_gateAt_15 rfl ?_ ?_
    · refine xj_iloadn 1 dX11_gateAt_18 rfl rfl ?_
      refine xj_bipush (v := 31) dX11_gateAt_19 cb_31 ?_
      refine xj_iand dX11_gateAt_21 ?_
      refine xj_ifne (tgt := 29) dX11_gateAt_22 rfl ?_ ?_
      · refine xj_iconst (v := 1) dX11_gateAt_25 ci_1 ?_
        refine xj_goto (tgt := 30) dX11_gateAt_26 rfl ?_
        refine xj_sub (lv2 := [(1, .int x1)]) [0] rfl ?_
        exact tX11_gateAt_j30 _ _ _
      · refine xj_sub (lv2 := [(1, .int x1)]) [0] rfl ?_
        exact tX11_gateAt_j29 _ _
    · refine xj_sub (lv2 := [(1, .int x1)]) [0] rfl ?_
      exact tX11_gateAt_j29 _ _
theorem kX11_gateAt (p0 : Int32) (w : xW) : xMet jI mX11_gateAt lC (0, 0) [.int p0] w (sX11_gateAt p0 w) := xj_met lC_ok (by decide) (Nat.le_of_ble_eq_true rfl) (Nat.zero_le _) (Nat.zero_le _) (tX11_gateAt p0 w)
set_option maxRecDepth 20000 in
def sX5_isEntry (p1 : Int32) (w : xW) : Option (Int32 × xW) :=
  xbd (sX11_gateAt p1 w) (fun x1 w2 => (if x1 = (-1 : Int32) then xbd (sX5_markAt (p1 - (4096 : Int32)) w2) (fun x3 w4 => (if x3 = (1 : Int32) then some ((1 : Int32), w4) else some ((0 : Int32), w4))) else some ((1 : Int32), w2)))
set_option maxRecDepth 20000 in
theorem tX5_isEntry (p1 : Int32) (w : xW) : xJ ιI mX5_isEntry lC (0, 0) 0 [(0, .ref 4), (1, .int p1)] [] w (sX5_isEntry p1 w) := by
  unfold sX5_isEntry
  refine xj_iloadn 1 dX5_isEntry_0 rfl rfl ?_
  refine xj_cSNi (argv := [.int p1]) (rest := []) dX5_isEntry_1 (kX11_gateAt p1 w) mkX11_gateAt tw926 rfl rfl rfl rfl (fun x1 w2 => ?_)
  refine xj_iconst (v := -1) dX5_isEntry_4 ci_m1 ?_
  refine xj_ine (tgt := 21) dX5_isEntry_5 rfl ?_ ?_
  · refine xj_aloadn 0 dX5_isEntry_8 rfl rfl ?_
    refine xj_iloadn 1 dX5_isEntry_9 rfl rfl ?_
    refine xj_sipush (v := 4096) dX5_isEntry_10 cs_4096 ?_
    refine xj_isub dX5_isEntry_13 ?_
    refine xj_cVi (argv := [.int (p1 - (4096 : Int32))]) (rest := []) dX5_isEntry_14 (kX5_markAt (p1 - (4096 : Int32)) w2) mkX5_markAt tw929 rfl rfl rfl rfl rfl rfl (fun x3 w4 => ?_)
    refine xj_iconst (v := 1) dX5_isEntry_17 ci_1 ?_
    refine xj_ine (tgt := 25) dX5_isEntry_18 rfl ?_ ?_
    · refine xj_iconst (v := 1) dX5_isEntry_21 ci_1 ?_
      refine xj_goto (tgt := 26) dX5_isEntry_22 rfl ?_
      exact xj_rz dX5_isEntry_26 rfl (Or.inr rfl)
    · refine xj_iconst (v := 0) dX5_isEntry_25 ci_0 ?_
      exact xj_rz dX5_isEntry_26 rfl (Or.inl rfl)
  · refine xj_iconst (v := 1) dX5_isEntry_21 ci_1 ?_
    refine xj_goto (tgt := 26) dX5_isEntry_22 rfl ?_
    exact xj_rz dX5_isEntry_26 rfl (Or.inr rfl)
theorem kX5_isEntry (p1 : Int32) (w : xW) : xMet jI mX5_isEntry lC (0, 0) [.ref 4, .int p1] w (sX5_isEntry p1 w) := xj_met lC_ok (by decide) (Nat.le_of_ble_eq_true rfl) (Nat.zero_le _) (Nat.zero_le _) (tX5_isEntry p1 w)
set_option maxRecDepth 20000 in
def sX5_checkTargets_l2 : Nat → Int32 → xW → Option (Unit × xW)
  | 0, _, _ => none
  | n + 1, a1, w =>
  (if a1 < (2048 : Int32) then (if (w.1 4 10) = 0 then (if xin a1 2048 then (if (w.1 16 a1.toNatClampNeg) = 0 then (sX5_checkTargets_l2 n) (a1 + (1 : Int32)) w else xbd (sX5_is a1 (256 : Int32) w) (fun x1 w2 => (if x1 = 0 then (sX5_checkTargets_l2 n) (a1 + (1 : Int32)) w2 else (if xin a1 2048 then xbd (sX5_isEntry (w2.1 15 a1.toNatClampNeg) w2) (fun x3 w4 => (if x3 = 0 then xbd (sX5_refuse (7 : Int32) a1 w4) (fun x5 w6 => (sX5_checkTargets_l2 n) (a1 + (1 : Int32)) w6) else (sX5_checkTargets_l2 n) (a1 + (1 : Int32)) w4)) else none)))) else none) else some ((), w)) else some ((), w))
set_option maxRecDepth 20000 in
theorem tX5_checkTargets_l2 : ∀ (n : Nat) (a1 : Int32) (w : xW), xJ ιV mX5_checkTargets lC (0, 0) 2 [(0, .ref 4), (1, .int a1)] [] w (sX5_checkTargets_l2 n a1 w) := by
  intro n
  induction n with
  | zero => intros; exact xj_none
  | succ n ih =>
    intro a1 w
    rw [sX5_checkTargets_l2]
    refine xj_iloadn 1 dX5_checkTargets_2 rfl rfl ?_
    refine xj_sipush (v := 2048) dX5_checkTargets_3 cs_2048 ?_
    refine xj_ige (tgt := 63) dX5_checkTargets_6 rfl ?_ ?_
    · refine xj_aloadn 0 dX5_checkTargets_9 rfl rfl ?_
      refine gfX5_49 (v := (w.1 4 10)) dX5_checkTargets_10 rfl rfl ?_
      refine xj_ifne (tgt := 63) dX5_checkTargets_13 rfl ?_ ?_
      · refine xj_aloadn 0 dX5_checkTargets_16 rfl rfl ?_
        refine gfX5_26 dX5_checkTargets_17 rfl ?_
        refine xj_iloadn 1 dX5_checkTargets_20 rfl rfl ?_
        refine xj_iald (k := 16) dX5_checkTargets_21 rfl ?_
        refine xj_ifeq (tgt := 57) dX5_checkTargets_22 rfl ?_ ?_
        · refine xj_iinc (n := 1) (lv2 := [(1, .int (a1 + (1 : Int32))), (0, .ref 4)]) dX5_checkTargets_57 rfl ci_1 (Nat.le_of_ble_eq_true rfl) rfl ?_
          refine xj_goto (tgt := 2) dX5_checkTargets_60 rfl ?_
          refine xj_sub (lv2 := [(0, .ref 4), (1, .int (a1 + (1 : Int32)))]) [1, 0] rfl ?_
          exact ih _ _
        · refine xj_aloadn 0 dX5_checkTargets_25 rfl rfl ?_
          refine xj_iloadn 1 dX5_checkTargets_26 rfl rfl ?_
          refine xj_sipush (v := 256) dX5_checkTargets_27 cs_256 ?_
          refine xj_cVi (argv := [.int a1, .int (256 : Int32)]) (rest := []) dX5_checkTargets_30 (kX5_is a1 (256 : Int32) w) mkX5_is tw883 rfl rfl rfl rfl rfl rfl (fun x1 w2 => ?_)
          refine xj_ifeq (tgt := 57) dX5_checkTargets_33 rfl ?_ ?_
          · refine xj_iinc (n := 1) (lv2 := [(1, .int (a1 + (1 : Int32))), (0, .ref 4)]) dX5_checkTargets_57 rfl ci_1 (Nat.le_of_ble_eq_true rfl) rfl ?_
            refine xj_goto (tgt := 2) dX5_checkTargets_60 rfl ?_
            refine xj_sub (lv2 := [(0, .ref 4), (1, .int (a1 + (1 : Int32)))]) [1, 0] rfl ?_
            exact ih _ _
          · refine xj_aloadn 0 dX5_checkTargets_36 rfl rfl ?_
            refine xj_aloadn 0 dX5_checkTargets_37 rfl rfl ?_
            refine gfX5_23 dX5_checkTargets_38 rfl ?_
            refine xj_iloadn 1 dX5_checkTargets_41 rfl rfl ?_
            refine xj_iald (k := 15) dX5_checkTargets_42 rfl ?_
            refine xj_cVi (argv := [.int (w2.1 15 a1.toNatClampNeg)]) (rest := []) dX5_checkTargets_43 (kX5_isEntry (w2.1 15 a1.toNatClampNeg) w2) mkX5_isEntry tw922 rfl rfl rfl rfl rfl rfl (fun x3 w4 => ?_)
            refine xj_ifne (tgt := 57) dX5_checkTargets_46 rfl ?_ ?_
            · refine xj_aloadn 0 dX5_checkTargets_49 rfl rfl ?_
              refine xj_bipush (v := 7) dX5_checkTargets_50 cb_7 ?_
              refine xj_iloadn 1 dX5_checkTargets_52 rfl rfl ?_
              refine xj_cVi (argv := [.int (7 : Int32), .int a1]) (rest := []) dX5_checkTargets_53 (kX5_refuse (7 : Int32) a1 w4) mkX5_refuse tw864 rfl rfl rfl rfl rfl rfl (fun x5 w6 => ?_)
              refine xj_pop dX5_checkTargets_56 rfl ?_
              refine xj_iinc (n := 1) (lv2 := [(1, .int (a1 + (1 : Int32))), (0, .ref 4)]) dX5_checkTargets_57 rfl ci_1 (Nat.le_of_ble_eq_true rfl) rfl ?_
              refine xj_goto (tgt := 2) dX5_checkTargets_60 rfl ?_
              refine xj_sub (lv2 := [(0, .ref 4), (1, .int (a1 + (1 : Int32)))]) [1, 0] rfl ?_
              exact ih _ _
            · refine xj_iinc (n := 1) (lv2 := [(1, .int (a1 + (1 : Int32))), (0, .ref 4)]) dX5_checkTargets_57 rfl ci_1 (Nat.le_of_ble_eq_true rfl) rfl ?_
              refine xj_goto (tgt := 2) dX5_checkTargets_60 rfl ?_
              refine xj_sub (lv2 := [(0, .ref 4), (1, .int (a1 + (1 : Int32)))]) [1, 0] rfl ?_
              exact ih _ _
      · exact xj_rv dX5_checkTargets_63 rfl
    · exact xj_rv dX5_checkTargets_63 rfl
set_option maxRecDepth 20000 in
def sX5_checkTargets (w : xW) : Option (Unit × xW) :=
  sX5_checkTargets_l2 70000 (0 : Int32) w
set_option maxRecDepth 20000 in
theorem tX5_checkTargets (w : xW) : xJ ιV mX5_checkTargets lC (0, 0) 0 [(0, .ref 4)] [] w (sX5_checkTargets w) := by
  unfold sX5_checkTargets
  refine xj_iconst (v := 0) dX5_checkTargets_0 ci_0 ?_
  refine xj_istoren (lv2 := [(1, .int (0 : Int32)), (0, .ref 4)]) dX5_checkTargets_1 rfl (Nat.le_of_ble_eq_true rfl) rfl ?_
  refine xj_sub (lv2 := [(0, .ref 4), (1, .int (0 : Int32))]) [1, 0] rfl ?_
  exact tX5_checkTargets_l2 _ _ _
theorem kX5_checkTargets (w : xW) : xMet jV mX5_checkTargets lC (0, 0) [.ref 4] w (sX5_checkTargets w) := xj_met lC_ok (by decide) (Nat.le_of_ble_eq_true rfl) (Nat.zero_le _) (Nat.zero_le _) (tX5_checkTargets w)
set_option maxRecDepth 20000 in
def sX5_checkEnd_l4 : Nat → Int32 → Int32 → Int32 → xW → Option (Unit × xW)
  | 0, _, _, _, _ => none
  | n + 1, a1, a2, a3, w =>
  (if a3 < (w.1 1 1) then xbd (sX5_markAt a3 w) (fun x5 w6 => (if x5 = 0 then (sX5_checkEnd_l4 n) a1 a2 (a3 + (1 : Int32)) w6 else (sX5_checkEnd_l4 n) a1 a3 (a3 + (1 : Int32)) w6)) else (if (w.1 4 10) = 0 then xbd (sX5_is a2 (512 : Int32) w) (fun x1 w2 => (if x1 = 0 then xbd (sX5_refuse (8 : Int32) a1 w2) (fun x3 w4 => some ((), w4)) else some ((), w2))) else some ((), w)))
set_option maxRecDepth 20000 in
theorem tX5_checkEnd_l4 : ∀ (n : Nat) (a1 : Int32) (a2 : Int32) (a3 : Int32) (w : xW), xJ ιV mX5_checkEnd lC (0, 0) 4 [(0, .ref 4), (1, .int a1), (2, .int a2), (3, .int a3)] [] w (sX5_checkEnd_l4 n a1 a2 a3 w) := by
  intro n
  induction n with
  | zero => intros; exact xj_none
  | succ n ih =>
    intro a1 a2 a3 w
    rw [sX5_checkEnd_l4]
    refine xj_iloadn 3 dX5_checkEnd_4 rfl rfl ?_
    refine xj_aloadn 0 dX5_checkEnd_5 rfl rfl ?_
    refine gfX5_33 dX5_checkEnd_6 rfl ?_
    refine gfX5_135 (v := (w.1 1 1)) dX5_checkEnd_9 rfl rfl ?_
    refine xj_ige (tgt := 31) dX5_checkEnd_12 rfl ?_ ?_
    · refine xj_aloadn 0 dX5_checkEnd_15 rfl rfl ?_
      refine xj_iloadn 3 dX5_checkEnd_16 rfl rfl ?_
      refine xj_cVi (argv := [.int a3]) (rest := []) dX5_checkEnd_17 (kX5_markAt a3 w) mkX5_markAt tw929 rfl rfl rfl rfl rfl rfl (fun x5 w6 => ?_)
      refine xj_ifeq (tgt := 25) dX5_checkEnd_20 rfl ?_ ?_
      · refine xj_iinc (n := 3) (lv2 := [(3, .int (a3 + (1 : Int32))), (0, .ref 4), (1, .int a1), (2, .int a2)]) dX5_checkEnd_25 rfl ci_1 (Nat.le_of_ble_eq_true rfl) rfl ?_
        refine xj_goto (tgt := 4) dX5_checkEnd_28 rfl ?_
        refine xj_sub (lv2 := [(0, .ref 4), (1, .int a1), (2, .int a2), (3, .int (a3 + (1 : Int32)))]) [1, 2, 3, 0] rfl ?_
        exact ih _ _ _ _
      · refine xj_iloadn 3 dX5_checkEnd_23 rfl rfl ?_
        refine xj_istoren (lv2 := [(2, .int a3), (0, .ref 4), (1, .int a1), (3, .int a3)]) dX5_checkEnd_24 rfl (Nat.le_of_ble_eq_true rfl) rfl ?_
        refine xj_iinc (n := 3) (lv2 := [(3, .int (a3 + (1 : Int32))), (2, .int a3), (0, .ref 4), (1, .int a1)]) dX5_checkEnd_25 rfl ci_1 (Nat.le_of_ble_eq_true rfl) rfl ?_
        refine xj_goto (tgt := 4) dX5_checkEnd_28 rfl ?_
        refine xj_sub (lv2 := [(0, .ref 4), (1, .int a1), (2, .int a3), (3, .int (a3 + (1 : Int32)))]) [2, 3, 1, 0] rfl ?_
        exact ih _ _ _ _
    · refine xj_aloadn 0 dX5_checkEnd_31 rfl rfl ?_
      refine gfX5_49 (v := (w.1 4 10)) dX5_checkEnd_32 rfl rfl ?_
      refine xj_ifne (tgt := 57) dX5_checkEnd_35 rfl ?_ ?_
      · refine xj_aloadn 0 dX5_checkEnd_38 rfl rfl ?_
        refine xj_iloadn 2 dX5_checkEnd_39 rfl rfl ?_
        refine xj_sipush (v := 512) dX5_checkEnd_40 cs_512 ?_
        refine xj_cVi (argv := [.int a2, .int (512 : Int32)]) (rest := []) dX5_checkEnd_43 (kX5_is a2 (512 : Int32) w) mkX5_is tw883 rfl rfl rfl rfl rfl rfl (fun x1 w2 => ?_)
        refine xj_ifne (tgt := 57) dX5_checkEnd_46 rfl ?_ ?_
        · refine xj_aloadn 0 dX5_checkEnd_49 rfl rfl ?_
          refine xj_bipush (v := 8) dX5_checkEnd_50 cb_8 ?_
          refine xj_iloadn 1 dX5_checkEnd_52 rfl rfl ?_
          refine xj_cVi (argv := [.int (8 : Int32), .int a1]) (rest := []) dX5_checkEnd_53 (kX5_refuse (8 : Int32) a1 w2) mkX5_refuse tw864 rfl rfl rfl rfl rfl rfl (fun x3 w4 => ?_)
          refine xj_pop dX5_checkEnd_56 rfl ?_
          exact xj_rv dX5_checkEnd_57 rfl
        · exact xj_rv dX5_checkEnd_57 rfl
      · exact xj_rv dX5_checkEnd_57 rfl
set_option maxRecDepth 20000 in
def sX5_checkEnd (p1 : Int32) (w : xW) : Option (Unit × xW) :=
  sX5_checkEnd_l4 70000 p1 p1 p1 w
set_option maxRecDepth 20000 in
theorem tX5_checkEnd (p1 : Int32) (w : xW) : xJ ιV mX5_checkEnd lC (0, 0) 0 [(0, .ref 4), (1, .int p1)] [] w (sX5_checkEnd p1 w) := by
  unfold sX5_checkEnd
  refine xj_iloadn 1 dX5_checkEnd_0 rfl rfl ?_
  refine xj_istoren (lv2 := [(2, .int p1), (0, .ref 4), (1, .int p1)]) dX5_checkEnd_1 rfl (Nat.le_of_ble_eq_true rfl) rfl ?_
  refine xj_iloadn 2 dX5_checkEnd_2 rfl rfl ?_
  refine xj_istoren (lv2 := [(3, .int p1), (2, .int p1), (0, .ref 4), (1, .int p1)]) dX5_checkEnd_3 rfl (Nat.le_of_ble_eq_true rfl) rfl ?_
  refine xj_sub (lv2 := [(0, .ref 4), (1, .int p1), (2, .int p1), (3, .int p1)]) [2, 3, 1, 0] rfl ?_
  exact tX5_checkEnd_l4 _ _ _ _ _
theorem kX5_checkEnd (p1 : Int32) (w : xW) : xMet jV mX5_checkEnd lC (0, 0) [.ref 4, .int p1] w (sX5_checkEnd p1 w) := xj_met lC_ok (by decide) (Nat.le_of_ble_eq_true rfl) (Nat.zero_le _) (Nat.zero_le _) (tX5_checkEnd p1 w)
set_option maxRecDepth 20000 in
def sX5_inspect_j141 (b0 : Int32) (w : xW) : Option (Int32 × xW) :=
  (if xz b0 then (if b0 = 0 then some ((-1 : Int32), (xwi w 4 9 b0)) else some ((w.1 4 8), (xwi w 4 9 b0))) else none)
set_option maxRecDepth 20000 in
theorem tX5_inspect_j141 (b0 : Int32) (w : xW) : xJ ιI mX5_inspect lC (0, 0) 141 [(0, .ref 4)] [.int b0, .ref 4] w (sX5_inspect_j141 b0 w) := by
  unfold sX5_inspect_j141
  refine xj_guard (fun hz => ?_)
  refine pfX5_45 dX5_inspect_141 rfl hz ?_
  refine xj_aloadn 0 dX5_inspect_144 rfl rfl ?_
  refine gfX5_45 (v := b0) dX5_inspect_145 rfl rfl ?_
  refine xj_ifeq (tgt := 158) dX5_inspect_148 rfl ?_ ?_
  · refine xj_iconst (v := -1) dX5_inspect_158 ci_m1 ?_
    exact xj_ri dX5_inspect_159 rfl
  · refine xj_aloadn 0 dX5_inspect_151 rfl rfl ?_
    refine gfX5_55 (v := (w.1 4 8)) dX5_inspect_152 rfl rfl ?_
    refine xj_goto (tgt := 159) dX5_inspect_155 rfl ?_
    exact xj_ri dX5_inspect_159 rfl
set_option maxRecDepth 20000 in
def sX5_inspect_j94 (K11 : Int32 → xW → Option (Int32 × xW)) (a1 : Int32) (b0 : Int32) (b1 : Int32) (w : xW) : Option (Int32 × xW) :=
  (if xin b1 2048 then (if xin a1 2048 then K11 (a1 + (1 : Int32)) (xwi (xwi w 14 b1.toNatClampNeg b0) 15 a1.toNatClampNeg (w.1 2 13)) else none) else none)
set_option maxRecDepth 20000 in
theorem tX5_inspect_j94 (K11 : Int32 → xW → Option (Int32 × xW)) (hK11 : ∀ (a1 : Int32) (w : xW), xJ ιI mX5_inspect lC (0, 0) 11 [(0, .ref 4), (1, .int a1)] [] w (K11 a1 w)) (a1 : Int32) (b0 : Int32) (b1 : Int32) (w : xW) : xJ ιI mX5_inspect lC (0, 0) 94 [(0, .ref 4), (1, .int a1)] [.int b0, .int b1, .ref 14] w (sX5_inspect_j94 K11 a1 b0 b1 w) := by
  unfold sX5_inspect_j94
  refine xj_iast (k := 14) dX5_inspect_94 rfl ?_
  refine xj_aloadn 0 dX5_inspect_95 rfl rfl ?_
  refine gfX5_23 dX5_inspect_96 rfl ?_
  refine xj_iloadn 1 dX5_inspect_99 rfl rfl ?_
  refine xj_aloadn 0 dX5_inspect_100 rfl rfl ?_
  refine gfX5_41 dX5_inspect_101 rfl ?_
  refine gfX5_79 (v := (w.1 2 13)) dX5_inspect_104 rfl rfl ?_
  refine xj_iast (k := 15) dX5_inspect_107 rfl ?_
  refine xj_iinc (n := 1) (lv2 := [(1, .int (a1 + (1 : Int32))), (0, .ref 4)]) dX5_inspect_108 rfl ci_1 (Nat.le_of_ble_eq_true rfl) rfl ?_
  refine xj_goto (tgt := 11) dX5_inspect_111 rfl ?_
  refine xj_sub (lv2 := [(0, .ref 4), (1, .int (a1 + (1 : Int32)))]) [1, 0] rfl ?_
  exact hK11 _ _
set_option maxRecDepth 20000 in
def sX5_inspect_j61 (K11 : Int32 → xW → Option (Int32 × xW)) (a1 : Int32) (b0 : Int32) (b1 : Int32) (w : xW) : Option (Int32 × xW) :=
  (if xin b1 2048 then (if (w.1 2 6) = 0 then sX5_inspect_j94 K11 a1 (w.1 2 7) a1 (xwi w 13 b1.toNatClampNeg b0) else sX5_inspect_j94 K11 a1 (w.1 2 9) a1 (xwi w 13 b1.toNatClampNeg b0)) else none)
set_option maxRecDepth 20000 in
theorem tX5_inspect_j61 (K11 : Int32 → xW → Option (Int32 × xW)) (hK11 : ∀ (a1 : Int32) (w : xW), xJ ιI mX5_inspect lC (0, 0) 11 [(0, .ref 4), (1, .int a1)] [] w (K11 a1 w)) (a1 : Int32) (b0 : Int32) (b1 : Int32) (w : xW) : xJ ιI mX5_inspect lC (0, 0) 61 [(0, .ref 4), (1, .int a1)] [.int b0, .int b1, .ref 13] w (sX5_inspect_j61 K11 a1 b0 b1 w) := by
  unfold sX5_inspect_j61
  refine xj_iast (k := 13) dX5_inspect_61 rfl ?_
  refine xj_aloadn 0 dX5_inspect_62 rfl rfl ?_
  refine gfX5_20 dX5_inspect_63 rfl ?_
  refine xj_iloadn 1 dX5_inspect_66 rfl rfl ?_
  refine xj_aloadn 0 dX5_inspect_67 rfl rfl ?_
  refine gfX5_41 dX5_inspect_68 rfl ?_
  refine gfX5_68 (v := (w.1 2 6)) dX5_inspect_71 rfl rfl ?_
  refine xj_ifeq (tgt := 87) dX5_inspect_74 rfl ?_ ?_
  · refine xj_aloadn 0 dX5_inspect_87 rfl rfl ?_
    refine gfX5_41 dX5_inspect_88 rfl ?_
    refine gfX5_76 (v := (w.1 2 7)) dX5_inspect_91 rfl rfl ?_
    exact tX5_inspect_j94 K11 hK11 _ _ _ _
  · refine xj_aloadn 0 dX5_inspect_77 rfl rfl ?_
    refine gfX5_41 dX5_inspect_78 rfl ?_
    refine gfX5_73 (v := (w.1 2 9)) dX5_inspect_81 rfl rfl ?_
    refine xj_goto (tgt := 94) dX5_inspect_84 rfl ?_
    exact tX5_inspect_j94 K11 hK11 _ _ _ _
set_option maxRecDepth 20000 in
def sX5_inspect_l11 : Nat → Int32 → xW → Option (Int32 × xW)
  | 0, _, _ => none
  | n + 1, a1, w =>
  (if a1 < (2048 : Int32) then (if xin a1 2048 then xbd (sX1_decode a1 (xwi w 16 a1.toNatClampNeg (0 : Int32))) (fun x5 w6 => (if xin a1 2048 then (if xin a1 2048 then (if ((xwi w6 12 a1.toNatClampNeg x5).1 12 a1.toNatClampNeg) = 0 then sX5_inspect_j61 (sX5_inspect_l11 n) a1 (0 : Int32) a1 (xwi w6 12 a1.toNatClampNeg x5) else xbd (sX5_traitsOfIt (xwi w6 12 a1.toNatClampNeg x5)) (fun x7 w8 => sX5_inspect_j61 (sX5_inspect_l11 n) a1 x7 a1 w8)) else none) else none)) else none) else xbd (sX5_markUnits w) (fun x1 w2 => xbd (sX5_checkTargets w2) (fun _ w3 => xbd (sX5_checkEnd x1 w3) (fun _ w4 => (if (w4.1 4 10) = 0 then sX5_inspect_j141 (1 : Int32) w4 else sX5_inspect_j141 (0 : Int32) w4)))))
set_option maxRecDepth 20000 in
theorem tX5_inspect_l11 : ∀ (n : Nat) (a1 : Int32) (w : xW), xJ ιI mX5_inspect lC (0, 0) 11 [(0, .ref 4), (1, .int a1)] [] w (sX5_inspect_l11 n a1 w) := by
  intro n
  induction n with
  | zero => intros; exact xj_none
  | succ n ih =>
    intro a1 w
    rw [sX5_inspect_l11]
    refine xj_iloadn 1 dX5_inspect_11 rfl rfl ?_
    refine xj_sipush (v := 2048) dX5_inspect_12 cs_2048 ?_
    refine xj_ige (tgt := 114) dX5_inspect_15 rfl ?_ ?_
    · refine xj_aloadn 0 dX5_inspect_18 rfl rfl ?_
      refine gfX5_26 dX5_inspect_19 rfl ?_
      refine xj_iloadn 1 dX5_inspect_22 rfl rfl ?_
      refine xj_iconst (v := 0) dX5_inspect_23 ci_0 ?_
      refine xj_iast (k := 16) dX5_inspect_24 rfl ?_
      refine xj_aloadn 0 dX5_inspect_25 rfl rfl ?_
      refine gfX5_13 dX5_inspect_26 rfl ?_
      refine xj_iloadn 1 dX5_inspect_29 rfl rfl ?_
      refine xj_aloadn 0 dX5_inspect_30 rfl rfl ?_
      refine gfX5_37 dX5_inspect_31 rfl ?_
      refine xj_iloadn 1 dX5_inspect_34 rfl rfl ?_
      refine xj_cVi (argv := [.int a1]) (rest := [.int a1, .ref 12]) dX5_inspect_35 (kX1_decode a1 (xwi w 16 a1.toNatClampNeg (0 : Int32))) mkX1_decode tw623 rfl rfl rfl rfl rfl rfl (fun x5 w6 => ?_)
      refine xj_iast (k := 12) dX5_inspect_38 rfl ?_
      refine xj_aloadn 0 dX5_inspect_39 rfl rfl ?_
      refine gfX5_17 dX5_inspect_40 rfl ?_
      refine xj_iloadn 1 dX5_inspect_43 rfl rfl ?_
      refine xj_aloadn 0 dX5_inspect_44 rfl rfl ?_
      refine gfX5_13 dX5_inspect_45 rfl ?_
      refine xj_iloadn 1 dX5_inspect_48 rfl rfl ?_
      refine xj_iald (k := 12) dX5_inspect_49 rfl ?_
      refine xj_ifne (tgt := 57) dX5_inspect_50 rfl ?_ ?_
      · refine xj_iconst (v := 0) dX5_inspect_53 ci_0 ?_
        refine xj_goto (tgt := 61) dX5_inspect_54 rfl ?_
        exact tX5_inspect_j61 (sX5_inspect_l11 n) ih _ _ _ _
      · refine xj_aloadn 0 dX5_inspect_57 rfl rfl ?_
        refine xj_cVi (argv := []) (rest := [.int a1, .ref 13]) dX5_inspect_58 (kX5_traitsOfIt (xwi w6 12 a1.toNatClampNeg x5)) mkX5_traitsOfIt tw810 rfl rfl rfl rfl rfl rfl (fun x7 w8 => ?_)
        exact tX5_inspect_j61 (sX5_inspect_l11 n) ih _ _ _ _
    · refine xj_aloadn 0 dX5_inspect_114 rfl rfl ?_
      refine xj_cVi (argv := []) (rest := []) dX5_inspect_115 (kX5_markUnits w) mkX5_markUnits tw860 rfl rfl rfl rfl rfl rfl (fun x1 w2 => ?_)
      refine xj_istoren (lv2 := [(1, .int x1), (0, .ref 4)]) dX5_inspect_118 rfl (Nat.le_of_ble_eq_true rfl) rfl ?_
      refine xj_aloadn 1 dX5_inspect_119 rfl rfl ?_
      refine xj_cVv (argv := []) (rest := []) dX5_inspect_120 (kX5_checkTargets w2) mkX5_checkTargets tw918 rfl rfl rfl rfl rfl rfl (fun _ w3 => ?_)
      refine xj_aloadn 1 dX5_inspect_123 rfl rfl ?_
      refine xj_iloadn 0 dX5_inspect_124 rfl rfl ?_
      refine xj_cVv (argv := [.int x1]) (rest := []) dX5_inspect_125 (kX5_checkEnd x1 w3) mkX5_checkEnd tw933 rfl rfl rfl rfl rfl rfl (fun _ w4 => ?_)
      refine xj_aloadn 1 dX5_inspect_128 rfl rfl ?_
      refine xj_aloadn 1 dX5_inspect_129 rfl rfl ?_
      refine gfX5_49 (v := (w4.1 4 10)) dX5_inspect_130 rfl rfl ?_
      refine xj_ifne (tgt := 140) dX5_inspect_133 rfl ?_ ?_
      · refine xj_iconst (v := 1) dX5_inspect_136 ci_1 ?_
        refine xj_goto (tgt := 141) dX5_inspect_137 rfl ?_
        refine xj_sub (lv2 := [(0, .ref 4)]) [1] rfl ?_
        exact tX5_inspect_j141 _ _
      · refine xj_iconst (v := 0) dX5_inspect_140 ci_0 ?_
        refine xj_sub (lv2 := [(0, .ref 4)]) [1] rfl ?_
        exact tX5_inspect_j141 _ _
set_option maxRecDepth 20000 in
def sX5_inspect (w : xW) : Option (Int32 × xW) :=
  xbd (sX5_forget w) (fun _ w1 => sX5_inspect_l11 70000 (0 : Int32) (xwi w1 4 8 (0 : Int32)))
set_option maxRecDepth 20000 in
theorem tX5_inspect (w : xW) : xJ ιI mX5_inspect lC (0, 0) 0 [(0, .ref 4)] [] w (sX5_inspect w) := by
  unfold sX5_inspect
  refine xj_aloadn 0 dX5_inspect_0 rfl rfl ?_
  refine xj_cVv (argv := []) (rest := []) dX5_inspect_1 (kX5_forget w) mkX5_forget tw622 rfl rfl rfl rfl rfl rfl (fun _ w1 => ?_)
  refine xj_aloadn 0 dX5_inspect_4 rfl rfl ?_
  refine xj_iconst (v := 0) dX5_inspect_5 ci_0 ?_
  refine pfX5_55 dX5_inspect_6 rfl ?_
  refine xj_iconst (v := 0) dX5_inspect_9 ci_0 ?_
  refine xj_istoren (lv2 := [(1, .int (0 : Int32)), (0, .ref 4)]) dX5_inspect_10 rfl (Nat.le_of_ble_eq_true rfl) rfl ?_
  refine xj_sub (lv2 := [(0, .ref 4), (1, .int (0 : Int32))]) [1, 0] rfl ?_
  exact tX5_inspect_l11 _ _ _
theorem kX5_inspect (w : xW) : xMet jI mX5_inspect lC (0, 0) [.ref 4] w (sX5_inspect w) := xj_met lC_ok (by decide) (Nat.le_of_ble_eq_true rfl) (Nat.zero_le _) (Nat.zero_le _) (tX5_inspect w)
set_option maxRecDepth 20000 in
def sX5_permits (p1 : Int32) (w : xW) : Option (Int32 × xW) :=
  (if (w.1 4 9) = 0 then some ((1 : Int32), w) else xbd (sX5_markAt p1 w) (fun x1 w2 => (if x1 = 0 then some ((0 : Int32), w2) else some ((1 : Int32), w2))))
set_option maxRecDepth 20000 in
theorem tX5_permits (p1 : Int32) (w : xW) : xJ ιI mX5_permits lC (0, 0) 0 [(0, .ref 4), (1, .int p1)] [] w (sX5_permits p1 w) := by
  unfold sX5_permits
  refine xj_aloadn 0 dX5_permits_0 rfl rfl ?_
  refine gfX5_45 (v := (w.1 4 9)) dX5_permits_1 rfl rfl ?_
  refine xj_ifeq (tgt := 15) dX5_permits_4 rfl ?_ ?_
  · refine xj_iconst (v := 1) dX5_permits_15 ci_1 ?_
    refine xj_goto (tgt := 20) dX5_permits_16 rfl ?_
    exact xj_rz dX5_permits_20 rfl (Or.inr rfl)
  · refine xj_aloadn 0 dX5_permits_7 rfl rfl ?_
    refine xj_iloadn 1 dX5_permits_8 rfl rfl ?_
    refine xj_cVi (argv := [.int p1]) (rest := []) dX5_permits_9 (kX5_markAt p1 w) mkX5_markAt tw929 rfl rfl rfl rfl rfl rfl (fun x1 w2 => ?_)
    refine xj_ifeq (tgt := 19) dX5_permits_12 rfl ?_ ?_
    · refine xj_iconst (v := 0) dX5_permits_19 ci_0 ?_
      exact xj_rz dX5_permits_20 rfl (Or.inl rfl)
    · refine xj_iconst (v := 1) dX5_permits_15 ci_1 ?_
      refine xj_goto (tgt := 20) dX5_permits_16 rfl ?_
      exact xj_rz dX5_permits_20 rfl (Or.inr rfl)
theorem kX5_permits (p1 : Int32) (w : xW) : xMet jI mX5_permits lC (0, 0) [.ref 4, .int p1] w (sX5_permits p1 w) := xj_met lC_ok (by decide) (Nat.le_of_ble_eq_true rfl) (Nat.zero_le _) (Nat.zero_le _) (tX5_permits p1 w)
set_option maxRecDepth 20000 in
def sX7_restart_l56 : Nat → Int32 → xW → Option (Unit × xW)
  | 0, _, _ => none
  | n + 1, a1, w =>
  (if a1 < (2048 : Int32) then (if xin a1 2048 then (sX7_restart_l56 n) (a1 + (1 : Int32)) (xwi w 21 a1.toNatClampNeg (0 : Int32)) else none) else some ((), w))
set_option maxRecDepth 20000 in
theorem tX7_restart_l56 : ∀ (n : Nat) (a1 : Int32) (w : xW), xJ ιV mX7_restart lC (0, 0) 56 [(0, .ref 8), (1, .int a1)] [] w (sX7_restart_l56 n a1 w) := by
  intro n
  induction n with
  | zero => intros; exact xj_none
  | succ n ih =>
    intro a1 w
    rw [sX7_restart_l56]
    refine xj_iloadn 1 dX7_restart_56 rfl rfl ?_
    refine xj_sipush (v := 2048) dX7_restart_57 cs_2048 ?_
    refine xj_ige (tgt := 76) dX7_restart_60 rfl ?_ ?_
    · refine xj_aloadn 0 dX7_restart_63 rfl rfl ?_
      refine gfX7_24 dX7_restart_64 rfl ?_
      refine xj_iloadn 1 dX7_restart_67 rfl rfl ?_
      refine xj_iconst (v := 0) dX7_restart_68 ci_0 ?_
      refine xj_iast (k := 21) dX7_restart_69 rfl ?_
      refine xj_iinc (n := 1) (lv2 := [(1, .int (a1 + (1 : Int32))), (0, .ref 8)]) dX7_restart_70 rfl ci_1 (Nat.le_of_ble_eq_true rfl) rfl ?_
      refine xj_goto (tgt := 56) dX7_restart_73 rfl ?_
      refine xj_sub (lv2 := [(0, .ref 8), (1, .int (a1 + (1 : Int32)))]) [1, 0] rfl ?_
      exact ih _ _
    · exact xj_rv dX7_restart_76 rfl
set_option maxRecDepth 20000 in
def sX7_restart_l2 : Nat → Int32 → xW → Option (Unit × xW)
  | 0, _, _ => none
  | n + 1, a1, w =>
  (if a1 < (8 : Int32) then (if xin a1 8 then (sX7_restart_l2 n) (a1 + (1 : Int32)) (xwi w 20 a1.toNatClampNeg (0 : Int32)) else none) else (if xin (4 : Int32) 8 then sX7_restart_l56 70000 (0 : Int32) (xwl (xwi (xwi (xwi (xwi w 20 ((4 : Int32).toNatClampNeg) (131072 : Int32)) 8 11 (4096 : Int32)) 9 0 (0 : Int32)) 8 12 (0 : Int32)) 8 13 (0 : Int64)) else none))
set_option maxRecDepth 20000 in
theorem tX7_restart_l2 : ∀ (n : Nat) (a1 : Int32) (w : xW), xJ ιV mX7_restart lC (0, 0) 2 [(0, .ref 8), (1, .int a1)] [] w (sX7_restart_l2 n a1 w) := by
  intro n
  induction n with
  | zero => intros; exact xj_none
  | succ n ih =>
    intro a1 w
    rw [sX7_restart_l2]
    refine xj_iloadn 1 dX7_restart_2 rfl rfl ?_
    refine xj_bipush (v := 8) dX7_restart_3 cb_8 ?_
    refine xj_ige (tgt := 21) dX7_restart_5 rfl ?_ ?_
    · refine xj_aloadn 0 dX7_restart_8 rfl rfl ?_
      refine gfX7_18 dX7_restart_9 rfl ?_
      refine xj_iloadn 1 dX7_restart_12 rfl rfl ?_
      refine xj_iconst (v := 0) dX7_restart_13 ci_0 ?_
      refine xj_iast (k := 20) dX7_restart_14 rfl ?_
      refine xj_iinc (n := 1) (lv2 := [(1, .int (a1 + (1 : Int32))), (0, .ref 8)]) dX7_restart_15 rfl ci_1 (Nat.le_of_ble_eq_true rfl) rfl ?_
      refine xj_goto (tgt := 2) dX7_restart_18 rfl ?_
      refine xj_sub (lv2 := [(0, .ref 8), (1, .int (a1 + (1 : Int32)))]) [1, 0] rfl ?_
      exact ih _ _
    · refine xj_aloadn 0 dX7_restart_21 rfl rfl ?_
      refine gfX7_18 dX7_restart_22 rfl ?_
      refine xj_iconst (v := 4) dX7_restart_25 ci_4 ?_
      refine xj_ldc (v := 131072) tw516 dX7_restart_26 ?_
      refine xj_iast (k := 20) dX7_restart_28 rfl ?_
      refine xj_aloadn 0 dX7_restart_29 rfl rfl ?_
      refine xj_sipush (v := 4096) dX7_restart_30 cs_4096 ?_
      refine pfX7_54 dX7_restart_33 rfl ?_
      refine xj_aloadn 0 dX7_restart_36 rfl rfl ?_
      refine gfX7_12 dX7_restart_37 rfl ?_
      refine xj_iconst (v := 0) dX7_restart_40 ci_0 ?_
      refine pfX7_58 dX7_restart_41 rfl ?_
      refine xj_aloadn 0 dX7_restart_44 rfl rfl ?_
      refine xj_iconst (v := 0) dX7_restart_45 ci_0 ?_
      refine pfX7_61 dX7_restart_46 rfl ?_
      refine xj_aloadn 0 dX7_restart_49 rfl rfl ?_
      refine xj_lconst (v := 0) dX7_restart_50 cl_0 ?_
      refine pfX7_64 dX7_restart_51 rfl ?_
      refine xj_iconst (v := 0) dX7_restart_54 ci_0 ?_
      refine xj_istoren (lv2 := [(1, .int (0 : Int32)), (0, .ref 8)]) dX7_restart_55 rfl (Nat.le_of_ble_eq_true rfl) rfl ?_
      refine xj_sub (lv2 := [(0, .ref 8), (1, .int (0 : Int32))]) [1, 0] rfl ?_
      exact tX7_restart_l56 _ _ _
set_option maxRecDepth 20000 in
def sX7_restart (w : xW) : Option (Unit × xW) :=
  sX7_restart_l2 70000 (0 : Int32) w
set_option maxRecDepth 20000 in
theorem tX7_restart (w : xW) : xJ ιV mX7_restart lC (0, 0) 0 [(0, .ref 8)] [] w (sX7_restart w) := by
  unfold sX7_restart
  refine xj_iconst (v := 0) dX7_restart_0 ci_0 ?_
  refine xj_istoren (lv2 := [(1, .int (0 : Int32)), (0, .ref 8)]) dX7_restart_1 rfl (Nat.le_of_ble_eq_true rfl) rfl ?_
  refine xj_sub (lv2 := [(0, .ref 8), (1, .int (0 : Int32))]) [1, 0] rfl ?_
  exact tX7_restart_l2 _ _ _
theorem kX7_restart (w : xW) : xMet jV mX7_restart lC (0, 0) [.ref 8] w (sX7_restart w) := xj_met lC_ok (by decide) (Nat.le_of_ble_eq_true rfl) (Nat.zero_le _) (Nat.zero_le _) (tX7_restart w)
set_option maxRecDepth 20000 in
def sX7_wake (w : xW) : Option (Unit × xW) :=
  (if (w.1 8 10) = (7 : Int32) then some ((), (xwi w 8 10 (1 : Int32))) else (if (w.1 8 10) = (8 : Int32) then some ((), (xwi w 8 10 (1 : Int32))) else some ((), w)))
set_option maxRecDepth 20000 in
theorem tX7_wake (w : xW) : xJ ιV mX7_wake lC (0, 0) 0 [(0, .ref 8)] [] w (sX7_wake w) := by
  unfold sX7_wake
  refine xj_aloadn 0 dX7_wake_0 rfl rfl ?_
  refine gfX7_68 (v := (w.1 8 10)) dX7_wake_1 rfl rfl ?_
  refine xj_bipush (v := 7) dX7_wake_4 cb_7 ?_
  refine xj_ieq (tgt := 18) dX7_wake_6 rfl ?_ ?_
  · refine xj_aloadn 0 dX7_wake_18 rfl rfl ?_
    refine xj_iconst (v := 1) dX7_wake_19 ci_1 ?_
    refine pfX7_68 dX7_wake_20 rfl ?_
    exact xj_rv dX7_wake_23 rfl
  · refine xj_aloadn 0 dX7_wake_9 rfl rfl ?_
    refine gfX7_68 (v := (w.1 8 10)) dX7_wake_10 rfl rfl ?_
    refine xj_bipush (v := 8) dX7_wake_13 cb_8 ?_
    refine xj_ine (tgt := 23) dX7_wake_15 rfl ?_ ?_
    · refine xj_aloadn 0 dX7_wake_18 rfl rfl ?_
      refine xj_iconst (v := 1) dX7_wake_19 ci_1 ?_
      refine pfX7_68 dX7_wake_20 rfl ?_
      exact xj_rv dX7_wake_23 rfl
    · exact xj_rv dX7_wake_23 rfl
theorem kX7_wake (w : xW) : xMet jV mX7_wake lC (0, 0) [.ref 8] w (sX7_wake w) := xj_met lC_ok (by decide) (Nat.le_of_ble_eq_true rfl) (Nat.zero_le _) (Nat.zero_le _) (tX7_wake w)
set_option maxRecDepth 20000 in
def sX8_fail (p1 : Int32) (w : xW) : Option (Unit × xW) :=
  (if (w.1 6 2) = 0 then some ((), (xwi w 6 2 p1)) else some ((), w))
set_option maxRecDepth 20000 in
theorem tX8_fail (p1 : Int32) (w : xW) : xJ ιV mX8_fail lC (0, 0) 0 [(0, .ref 6), (1, .int p1)] [] w (sX8_fail p1 w) := by
  unfold sX8_fail
  refine xj_aloadn 0 dX8_fail_0 rfl rfl ?_
  refine gfX8_34 (v := (w.1 6 2)) dX8_fail_1 rfl rfl ?_
  refine xj_ifne (tgt := 12) dX8_fail_4 rfl ?_ ?_
  · refine xj_aloadn 0 dX8_fail_7 rfl rfl ?_
    refine xj_iloadn 1 dX8_fail_8 rfl rfl ?_
    refine pfX8_34 dX8_fail_9 rfl ?_
    exact xj_rv dX8_fail_12 rfl
  · exact xj_rv dX8_fail_12 rfl
theorem kX8_fail (p1 : Int32) (w : xW) : xMet jV mX8_fail lC (0, 0) [.ref 6, .int p1] w (sX8_fail p1 w) := xj_met lC_ok (by decide) (Nat.le_of_ble_eq_true rfl) (Nat.zero_le _) (Nat.zero_le _) (tX8_fail p1 w)
set_option maxRecDepth 20000 in
def sX8_load_j129 (K92 : Int32 → Int32 → Int32 → xW → Option (Int32 × xW)) (a5 : Int32) (a7 : Int32) (b0 : Int32) (w : xW) : Option (Int32 × xW) :=
  K92 a5 (b0 ||| (0 : Int32)) (a7 + (-1 : Int32)) w
set_option maxRecDepth 20000 in
theorem tX8_load_j129 (K92 : Int32 → Int32 → Int32 → xW → Option (Int32 × xW)) (hK92 : ∀ (a5 : Int32) (a6 : Int32) (a7 : Int32) (w : xW), xJ ιI mX8_load lC (0, 0) 92 [(4, .ref 10), (5, .int a5), (6, .int a6), (7, .int a7)] [] w (K92 a5 a6 a7 w)) (a5 : Int32) (a7 : Int32) (b0 : Int32) (w : xW) : xJ ιI mX8_load lC (0, 0) 129 [(4, .ref 10), (5, .int a5), (7, .int a7)] [.int b0] w (sX8_load_j129 K92 a5 a7 b0 w) := by
  unfold sX8_load_j129
  refine xj_iconst (v := 0) dX8_load_129 ci_0 ?_
  refine xj_ior dX8_load_130 ?_
  refine xj_istore (lv2 := [(6, .int (b0 ||| (0 : Int32))), (4, .ref 10), (5, .int a5), (7, .int a7)]) dX8_load_131 (Nat.le_of_ble_eq_true rfl) rfl ?_
  refine xj_iinc (n := 3) (lv2 := [(7, .int (a7 + (-1 : Int32))), (6, .int (b0 ||| (0 : Int32))), (4, .ref 10), (5, .int a5)]) dX8_load_133 rfl ci_m1 (Nat.le_of_ble_eq_true rfl) rfl ?_
  refine xj_goto (tgt := 92) dX8_load_136 rfl ?_
  refine xj_sub (lv2 := [(4, .ref 10), (5, .int a5), (6, .int (b0 ||| (0 : Int32))), (7, .int (a7 + (-1 : Int32)))]) [2, 3, 1, 0] rfl ?_
  exact hK92 _ _ _ _
set_option maxRecDepth 20000 in
def sX8_load_l92 : Nat → Int32 → Int32 → Int32 → xW → Option (Int32 × xW)
  | 0, _, _, _, _ => none
  | n + 1, a5, a6, a7, w =>
  (if a7 < a5 then some (a6, w) else (if a7 < 0 then sX8_load_j129 (sX8_load_l92 n) a5 a7 (a6 <<< ((8 : Int32) &&& 31)) w else (if a7 < (2048 : Int32) then (if xin a7 2048 then xlet ((a6 <<< ((8 : Int32) &&& 31)) ||| ((w.1 10 a7.toNatClampNeg) &&& (255 : Int32))) (fun x1 => (sX8_load_l92 n) a5 x1 (a7 + (-1 : Int32)) w) else none) else sX8_load_j129 (sX8_load_l92 n) a5 a7 (a6 <<< ((8 : Int32) &&& 31)) w)))
set_option maxRecDepth 20000 in
theorem tX8_load_l92 : ∀ (n : Nat) (a5 : Int32) (a6 : Int32) (a7 : Int32) (w : xW), xJ ιI mX8_load lC (0, 0) 92 [(4, .ref 10), (5, .int a5), (6, .int a6), (7, .int a7)] [] w (sX8_load_l92 n a5 a6 a7 w) := by
  intro n
  induction n with
  | zero => intros; exact xj_none
  | succ n ih =>
    intro a5 a6 a7 w
    rw [sX8_load_l92]
    refine xj_iload 3 dX8_load_92 rfl ?_
    refine xj_iload 1 dX8_load_94 rfl ?_
    refine xj_ilt (tgt := 139) dX8_load_96 rfl ?_ ?_
    · refine xj_iload 2 dX8_load_139 rfl ?_
      exact xj_ri dX8_load_141 rfl
    · refine xj_iload 2 dX8_load_99 rfl ?_
      refine xj_bipush (v := 8) dX8_load_101 cb_8 ?_
      refine xj_ishl dX8_load_103 ?_
      refine xj_iload 3 dX8_load_104 rfl ?_
      refine xj_iflt (tgt := 129) dX8_load_106 rfl ?_ ?_
      · refine xj_sub (lv2 := [(4, .ref 10), (5, .int a5), (7, .int a7)]) [0, 1, 3] rfl ?_
        exact tX8_load_j129 (sX8_load_l92 n) ih _ _ _ _
      · refine xj_iload 3 dX8_load_109 rfl ?_
        refine xj_aload 0 dX8_load_111 rfl ?_
        refine xj_alen (k := 10) (v := 2048) dX8_load_113 rfl (by decide) ?_
        refine xj_ige (tgt := 129) dX8_load_114 rfl ?_ ?_
        · refine xj_aload 0 dX8_load_117 rfl ?_
          refine xj_iload 3 dX8_load_119 rfl ?_
          refine xj_bald (k := 10) dX8_load_121 rfl ?_
          refine xj_sipush (v := 255) dX8_load_122 cs_255 ?_
          refine xj_iand dX8_load_125 ?_
          refine xj_goto (tgt := 130) dX8_load_126 rfl ?_
          refine xj_ior dX8_load_130 ?_
          refine xj_leti (fun x1 => ?_)
          refine xj_istore (lv2 := [(6, .int x1), (4, .ref 10), (5, .int a5), (7, .int a7)]) dX8_load_131 (Nat.le_of_ble_eq_true rfl) rfl ?_
          refine xj_iinc (n := 3) (lv2 := [(7, .int (a7 + (-1 : Int32))), (6, .int x1), (4, .ref 10), (5, .int a5)]) dX8_load_133 rfl ci_m1 (Nat.le_of_ble_eq_true rfl) rfl ?_
          refine xj_goto (tgt := 92) dX8_load_136 rfl ?_
          refine xj_sub (lv2 := [(4, .ref 10), (5, .int a5), (6, .int x1), (7, .int (a7 + (-1 : Int32)))]) [2, 3, 1, 0] rfl ?_
          exact ih _ _ _ _
        · refine xj_sub (lv2 := [(4, .ref 10), (5, .int a5), (7, .int a7)]) [0, 1, 3] rfl ?_
          exact tX8_load_j129 (sX8_load_l92 n) ih _ _ _ _
set_option maxRecDepth 20000 in
def sX8_load_j78 (a2 : Int32) (b0 : Int32) (b1 : Int32) (w : xW) : Option (Int32 × xW) :=
  xlet (((b1 - b0) + a2) - (1 : Int32)) (fun x1 => sX8_load_l92 70000 (b1 - b0) (0 : Int32) x1 w)
set_option maxRecDepth 20000 in
theorem tX8_load_j78 (a2 : Int32) (b0 : Int32) (b1 : Int32) (w : xW) : xJ ιI mX8_load lC (0, 0) 78 [(2, .int a2), (4, .ref 10)] [.int b0, .int b1] w (sX8_load_j78 a2 b0 b1 w) := by
  unfold sX8_load_j78
  refine xj_isub dX8_load_78 ?_
  refine xj_istore (lv2 := [(5, .int (b1 - b0)), (2, .int a2), (4, .ref 10)]) dX8_load_79 (Nat.le_of_ble_eq_true rfl) rfl ?_
  refine xj_iconst (v := 0) dX8_load_81 ci_0 ?_
  refine xj_istore (lv2 := [(6, .int (0 : Int32)), (5, .int (b1 - b0)), (2, .int a2), (4, .ref 10)]) dX8_load_82 (Nat.le_of_ble_eq_true rfl) rfl ?_
  refine xj_iload 1 dX8_load_84 rfl ?_
  refine xj_iloadn 2 dX8_load_86 rfl rfl ?_
  refine xj_iadd dX8_load_87 ?_
  refine xj_iconst (v := 1) dX8_load_88 ci_1 ?_
  refine xj_isub dX8_load_89 ?_
  refine xj_leti (fun x1 => ?_)
  refine xj_istore (lv2 := [(7, .int x1), (6, .int (0 : Int32)), (5, .int (b1 - b0)), (2, .int a2), (4, .ref 10)]) dX8_load_90 (Nat.le_of_ble_eq_true rfl) rfl ?_
  refine xj_sub (lv2 := [(4, .ref 10), (5, .int (b1 - b0)), (6, .int (0 : Int32)), (7, .int x1)]) [4, 2, 1, 0] rfl ?_
  exact tX8_load_l92 _ _ _ _ _
set_option maxRecDepth 20000 in
def sX8_load_j63 (a1 : Int32) (a2 : Int32) (a3 : Int32) (w : xW) : Option (Int32 × xW) :=
  (if a3 = 0 then sX8_load_j78 a2 (4096 : Int32) a1 w else sX8_load_j78 a2 (65536 : Int32) a1 w)
set_option maxRecDepth 20000 in
theorem tX8_load_j63 (a1 : Int32) (a2 : Int32) (a3 : Int32) (w : xW) : xJ ιI mX8_load lC (0, 0) 63 [(1, .int a1), (2, .int a2), (3, .int a3)] [.ref 10] w (sX8_load_j63 a1 a2 a3 w) := by
  unfold sX8_load_j63
  refine xj_astore (lv2 := [(4, .ref 10), (1, .int a1), (2, .int a2), (3, .int a3)]) dX8_load_63 (Nat.le_of_ble_eq_true rfl) rfl ?_
  refine xj_iloadn 1 dX8_load_65 rfl rfl ?_
  refine xj_iloadn 3 dX8_load_66 rfl rfl ?_
  refine xj_ifeq (tgt := 75) dX8_load_67 rfl ?_ ?_
  · refine xj_sipush (v := 4096) dX8_load_75 cs_4096 ?_
    refine xj_sub (lv2 := [(2, .int a2), (4, .ref 10)]) [2, 0] rfl ?_
    exact tX8_load_j78 _ _ _ _
  · refine xj_ldc (v := 65536) tw446 dX8_load_70 ?_
    refine xj_goto (tgt := 78) dX8_load_72 rfl ?_
    refine xj_sub (lv2 := [(2, .int a2), (4, .ref 10)]) [2, 0] rfl ?_
    exact tX8_load_j78 _ _ _ _
set_option maxRecDepth 20000 in
def sX8_load_j129_1 (K92 : Int32 → Int32 → Int32 → xW → Option (Int32 × xW)) (a5 : Int32) (a7 : Int32) (b0 : Int32) (w : xW) : Option (Int32 × xW) :=
  K92 a5 (b0 ||| (0 : Int32)) (a7 + (-1 : Int32)) w
set_option maxRecDepth 20000 in
theorem tX8_load_j129_1 (K92 : Int32 → Int32 → Int32 → xW → Option (Int32 × xW)) (hK92 : ∀ (a5 : Int32) (a6 : Int32) (a7 : Int32) (w : xW), xJ ιI mX8_load lC (0, 0) 92 [(4, .ref 17), (5, .int a5), (6, .int a6), (7, .int a7)] [] w (K92 a5 a6 a7 w)) (a5 : Int32) (a7 : Int32) (b0 : Int32) (w : xW) : xJ ιI mX8_load lC (0, 0) 129 [(4, .ref 17), (5, .int a5), (7, .int a7)] [.int b0] w (sX8_load_j129_1 K92 a5 a7 b0 w) := by
  unfold sX8_load_j129_1
  refine xj_iconst (v := 0) dX8_load_129 ci_0 ?_
  refine xj_ior dX8_load_130 ?_
  refine xj_istore (lv2 := [(6, .int (b0 ||| (0 : Int32))), (4, .ref 17), (5, .int a5), (7, .int a7)]) dX8_load_131 (Nat.le_of_ble_eq_true rfl) rfl ?_
  refine xj_iinc (n := 3) (lv2 := [(7, .int (a7 + (-1 : Int32))), (6, .int (b0 ||| (0 : Int32))), (4, .ref 17), (5, .int a5)]) dX8_load_133 rfl ci_m1 (Nat.le_of_ble_eq_true rfl) rfl ?_
  refine xj_goto (tgt := 92) dX8_load_136 rfl ?_
  refine xj_sub (lv2 := [(4, .ref 17), (5, .int a5), (6, .int (b0 ||| (0 : Int32))), (7, .int (a7 + (-1 : Int32)))]) [2, 3, 1, 0] rfl ?_
  exact hK92 _ _ _ _
set_option maxRecDepth 20000 in
def sX8_load_l92_1 : Nat → Int32 → Int32 → Int32 → xW → Option (Int32 × xW)
  | 0, _, _, _, _ => none
  | n + 1, a5, a6, a7, w =>
  (if a7 < a5 then some (a6, w) else (if a7 < 0 then sX8_load_j129_1 (sX8_load_l92_1 n) a5 a7 (a6 <<< ((8 : Int32) &&& 31)) w else (if a7 < (65536 : Int32) then (if xin a7 65536 then xlet ((a6 <<< ((8 : Int32) &&& 31)) ||| ((w.1 17 a7.toNatClampNeg) &&& (255 : Int32))) (fun x1 => (sX8_load_l92_1 n) a5 x1 (a7 + (-1 : Int32)) w) else none) else sX8_load_j129_1 (sX8_load_l92_1 n) a5 a7 (a6 <<< ((8 : Int32) &&& 31)) w)))
set_option maxRecDepth 20000 in
theorem tX8_load_l92_1 : ∀ (n : Nat) (a5 : Int32) (a6 : Int32) (a7 : Int32) (w : xW), xJ ιI mX8_load lC (0, 0) 92 [(4, .ref 17), (5, .int a5), (6, .int a6), (7, .int a7)] [] w (sX8_load_l92_1 n a5 a6 a7 w) := by
  intro n
  induction n with
  | zero => intros; exact xj_none
  | succ n ih =>
    intro a5 a6 a7 w
    rw [sX8_load_l92_1]
    refine xj_iload 3 dX8_load_92 rfl ?_
    refine xj_iload 1 dX8_load_94 rfl ?_
    refine xj_ilt (tgt := 139) dX8_load_96 rfl ?_ ?_
    · refine xj_iload 2 dX8_load_139 rfl ?_
      exact xj_ri dX8_load_141 rfl
    · refine xj_iload 2 dX8_load_99 rfl ?_
      refine xj_bipush (v := 8) dX8_load_101 cb_8 ?_
      refine xj_ishl dX8_load_103 ?_
      refine xj_iload 3 dX8_load_104 rfl ?_
      refine xj_iflt (tgt := 129) dX8_load_106 rfl ?_ ?_
      · refine xj_sub (lv2 := [(4, .ref 17), (5, .int a5), (7, .int a7)]) [0, 1, 3] rfl ?_
        exact tX8_load_j129_1 (sX8_load_l92_1 n) ih _ _ _ _
      · refine xj_iload 3 dX8_load_109 rfl ?_
        refine xj_aload 0 dX8_load_111 rfl ?_
        refine xj_alen (k := 17) (v := 65536) dX8_load_113 rfl (by decide) ?_
        refine xj_ige (tgt := 129) dX8_load_114 rfl ?_ ?_
        · refine xj_aload 0 dX8_load_117 rfl ?_
          refine xj_iload 3 dX8_load_119 rfl ?_
          refine xj_bald (k := 17) dX8_load_121 rfl ?_
          refine xj_sipush (v := 255) dX8_load_122 cs_255 ?_
          refine xj_iand dX8_load_125 ?_
          refine xj_goto (tgt := 130) dX8_load_126 rfl ?_
          refine xj_ior dX8_load_130 ?_
          refine xj_leti (fun x1 => ?_)
          refine xj_istore (lv2 := [(6, .int x1), (4, .ref 17), (5, .int a5), (7, .int a7)]) dX8_load_131 (Nat.le_of_ble_eq_true rfl) rfl ?_
          refine xj_iinc (n := 3) (lv2 := [(7, .int (a7 + (-1 : Int32))), (6, .int x1), (4, .ref 17), (5, .int a5)]) dX8_load_133 rfl ci_m1 (Nat.le_of_ble_eq_true rfl) rfl ?_
          refine xj_goto (tgt := 92) dX8_load_136 rfl ?_
          refine xj_sub (lv2 := [(4, .ref 17), (5, .int a5), (6, .int x1), (7, .int (a7 + (-1 : Int32)))]) [2, 3, 1, 0] rfl ?_
          exact ih _ _ _ _
        · refine xj_sub (lv2 := [(4, .ref 17), (5, .int a5), (7, .int a7)]) [0, 1, 3] rfl ?_
          exact tX8_load_j129_1 (sX8_load_l92_1 n) ih _ _ _ _
set_option maxRecDepth 20000 in
def sX8_load_j78_1 (a2 : Int32) (b0 : Int32) (b1 : Int32) (w : xW) : Option (Int32 × xW) :=
  xlet (((b1 - b0) + a2) - (1 : Int32)) (fun x1 => sX8_load_l92_1 70000 (b1 - b0) (0 : Int32) x1 w)
set_option maxRecDepth 20000 in
theorem tX8_load_j78_1 (a2 : Int32) (b0 : Int32) (b1 : Int32) (w : xW) : xJ ιI mX8_load lC (0, 0) 78 [(2, .int a2), (4, .ref 17)] [.int b0, .int b1] w (sX8_load_j78_1 a2 b0 b1 w) := by
  unfold sX8_load_j78_1
  refine xj_isub dX8_load_78 ?_
  refine xj_istore (lv2 := [(5, .int (b1 - b0)), (2, .int a2), (4, .ref 17)]) dX8_load_79 (Nat.le_of_ble_eq_true rfl) rfl ?_
  refine xj_iconst (v := 0) dX8_load_81 ci_0 ?_
  refine xj_istore (lv2 := [(6, .int (0 : Int32)), (5, .int (b1 - b0)), (2, .int a2), (4, .ref 17)]) dX8_load_82 (Nat.le_of_ble_eq_true rfl) rfl ?_
  refine xj_iload 1 dX8_load_84 rfl ?_
  refine xj_iloadn 2 dX8_load_86 rfl rfl ?_
  refine xj_iadd dX8_load_87 ?_
  refine xj_iconst (v := 1) dX8_load_88 ci_1 ?_
  refine xj_isub dX8_load_89 ?_
  refine xj_leti (fun x1 => ?_)
  refine xj_istore (lv2 := [(7, .int x1), (6, .int (0 : Int32)), (5, .int (b1 - b0)), (2, .int a2), (4, .ref 17)]) dX8_load_90 (Nat.le_of_ble_eq_true rfl) rfl ?_
  refine xj_sub (lv2 := [(4, .ref 17), (5, .int (b1 - b0)), (6, .int (0 : Int32)), (7, .int x1)]) [4, 2, 1, 0] rfl ?_
  exact tX8_load_l92_1 _ _ _ _ _
set_option maxRecDepth 20000 in
def sX8_load_j63_1 (a1 : Int32) (a2 : Int32) (a3 : Int32) (w : xW) : Option (Int32 × xW) :=
  (if a3 = 0 then sX8_load_j78_1 a2 (4096 : Int32) a1 w else sX8_load_j78_1 a2 (65536 : Int32) a1 w)
set_option maxRecDepth 20000 in
theorem tX8_load_j63_1 (a1 : Int32) (a2 : Int32) (a3 : Int32) (w : xW) : xJ ιI mX8_load lC (0, 0) 63 [(1, .int a1), (2, .int a2), (3, .int a3)] [.ref 17] w (sX8_load_j63_1 a1 a2 a3 w) := by
  unfold sX8_load_j63_1
  refine xj_astore (lv2 := [(4, .ref 17), (1, .int a1), (2, .int a2), (3, .int a3)]) dX8_load_63 (Nat.le_of_ble_eq_true rfl) rfl ?_
  refine xj_iloadn 1 dX8_load_65 rfl rfl ?_
  refine xj_iloadn 3 dX8_load_66 rfl rfl ?_
  refine xj_ifeq (tgt := 75) dX8_load_67 rfl ?_ ?_
  · refine xj_sipush (v := 4096) dX8_load_75 cs_4096 ?_
    refine xj_sub (lv2 := [(2, .int a2), (4, .ref 17)]) [2, 0] rfl ?_
    exact tX8_load_j78_1 _ _ _ _
  · refine xj_ldc (v := 65536) tw446 dX8_load_70 ?_
    refine xj_goto (tgt := 78) dX8_load_72 rfl ?_
    refine xj_sub (lv2 := [(2, .int a2), (4, .ref 17)]) [2, 0] rfl ?_
    exact tX8_load_j78_1 _ _ _ _
set_option maxRecDepth 20000 in
def sX8_load_j45 (a1 : Int32) (a2 : Int32) (a3 : Int32) (w : xW) : Option (Int32 × xW) :=
  (if a3 = 0 then sX8_load_j63 a1 a2 a3 w else sX8_load_j63_1 a1 a2 a3 w)
set_option maxRecDepth 20000 in
theorem tX8_load_j45 (a1 : Int32) (a2 : Int32) (a3 : Int32) (w : xW) : xJ ιI mX8_load lC (0, 0) 45 [(0, .ref 6), (1, .int a1), (2, .int a2), (3, .int a3)] [] w (sX8_load_j45 a1 a2 a3 w) := by
  unfold sX8_load_j45
  refine xj_iloadn 3 dX8_load_45 rfl rfl ?_
  refine xj_ifeq (tgt := 56) dX8_load_46 rfl ?_ ?_
  · refine xj_aloadn 0 dX8_load_56 rfl rfl ?_
    refine gfX8_16 dX8_load_57 rfl ?_
    refine gfX8_41 dX8_load_60 rfl ?_
    refine xj_sub (lv2 := [(1, .int a1), (2, .int a2), (3, .int a3)]) [1, 2, 3] rfl ?_
    exact tX8_load_j63 _ _ _ _
  · refine xj_aloadn 0 dX8_load_49 rfl rfl ?_
    refine gfX8_12 dX8_load_50 rfl ?_
    refine xj_goto (tgt := 63) dX8_load_53 rfl ?_
    refine xj_sub (lv2 := [(1, .int a1), (2, .int a2), (3, .int a3)]) [1, 2, 3] rfl ?_
    exact tX8_load_j63_1 _ _ _ _
set_option maxRecDepth 20000 in
def sX8_load (p1 : Int32) (p2 : Int32) (w : xW) : Option (Int32 × xW) :=
  xbd (sX8_isWithin p1 p2.toInt64 (65536 : Int32) (131072 : Int32) w) (fun x1 w2 => (if x1 = 0 then xbd (sX8_isWithin p1 p2.toInt64 (4096 : Int32) ((4096 : Int32) + (w2.1 1 1)) w2) (fun x3 w4 => (if x3 = 0 then xbd (sX8_fail (5 : Int32) w4) (fun _ w5 => some ((0 : Int32), w5)) else sX8_load_j45 p1 p2 x1 w4)) else sX8_load_j45 p1 p2 x1 w2))
set_option maxRecDepth 20000 in
theorem tX8_load (p1 : Int32) (p2 : Int32) (w : xW) : xJ ιI mX8_load lC (0, 0) 0 [(0, .ref 6), (1, .int p1), (2, .int p2)] [] w (sX8_load p1 p2 w) := by
  unfold sX8_load
  refine xj_iloadn 1 dX8_load_0 rfl rfl ?_
  refine xj_iloadn 2 dX8_load_1 rfl rfl ?_
  refine xj_i2l dX8_load_2 ?_
  refine xj_ldc (v := 65536) tw446 dX8_load_3 ?_
  refine xj_ldc (v := 131072) tw837 dX8_load_5 ?_
  refine xj_cSi (argv := [.int p1, .long p2.toInt64, .int (65536 : Int32), .int (131072 : Int32)]) (rest := []) dX8_load_7 (kX8_isWithin p1 p2.toInt64 (65536 : Int32) (131072 : Int32) w) mkX8_isWithin tw838 rfl rfl rfl rfl (fun x1 w2 => ?_)
  refine xj_istoren (lv2 := [(3, .int x1), (0, .ref 6), (1, .int p1), (2, .int p2)]) dX8_load_10 rfl (Nat.le_of_ble_eq_true rfl) rfl ?_
  refine xj_iloadn 0 dX8_load_11 rfl rfl ?_
  refine xj_ifne (tgt := 45) dX8_load_12 rfl ?_ ?_
  · refine xj_iloadn 2 dX8_load_15 rfl rfl ?_
    refine xj_iloadn 3 dX8_load_16 rfl rfl ?_
    refine xj_i2l dX8_load_17 ?_
    refine xj_sipush (v := 4096) dX8_load_18 cs_4096 ?_
    refine xj_sipush (v := 4096) dX8_load_21 cs_4096 ?_
    refine xj_aloadn 1 dX8_load_24 rfl rfl ?_
    refine gfX8_16 dX8_load_25 rfl ?_
    refine gfX8_29 (v := (w2.1 1 1)) dX8_load_28 rfl rfl ?_
    refine xj_iadd dX8_load_31 ?_
    refine xj_cSi (argv := [.int p1, .long p2.toInt64, .int (4096 : Int32), .int ((4096 : Int32) + (w2.1 1 1))]) (rest := []) dX8_load_32 (kX8_isWithin p1 p2.toInt64 (4096 : Int32) ((4096 : Int32) + (w2.1 1 1)) w2) mkX8_isWithin tw838 rfl rfl rfl rfl (fun x3 w4 => ?_)
    refine xj_ifne (tgt := 45) dX8_load_35 rfl ?_ ?_
    · refine xj_aloadn 1 dX8_load_38 rfl rfl ?_
      refine xj_iconst (v := 5) dX8_load_39 ci_5 ?_
      refine xj_cVv (argv := [.int (5 : Int32)]) (rest := []) dX8_load_40 (kX8_fail (5 : Int32) w4) mkX8_fail tw1550 rfl rfl rfl rfl rfl rfl (fun _ w5 => ?_)
      refine xj_iconst (v := 0) dX8_load_43 ci_0 ?_
      exact xj_ri dX8_load_44 rfl
    · refine xj_sub (lv2 := [(0, .ref 6), (1, .int p1), (2, .int p2), (3, .int x1)]) [1, 2, 3, 0] rfl ?_
      exact tX8_load_j45 _ _ _ _
  · refine xj_sub (lv2 := [(0, .ref 6), (1, .int p1), (2, .int p2), (3, .int x1)]) [1, 2, 3, 0] rfl ?_
    exact tX8_load_j45 _ _ _ _
theorem kX8_load (p1 : Int32) (p2 : Int32) (w : xW) : xMet jI mX8_load lC (0, 0) [.ref 6, .int p1, .int p2] w (sX8_load p1 p2 w) := xj_met lC_ok (by decide) (Nat.le_of_ble_eq_true rfl) (Nat.zero_le _) (Nat.zero_le _) (tX8_load p1 p2 w)
set_option maxRecDepth 20000 in
def sX7_doService (p1 : Int32) (w : xW) : Option (Unit × xW) :=
  (if p1 = 0 then (if xin (3 : Int32) 8 then some ((), (xwi (xwi w 8 12 (w.1 20 ((3 : Int32).toNatClampNeg))) 8 10 (2 : Int32))) else none) else (if xin (4 : Int32) 8 then xbd (sX8_load (w.1 20 ((4 : Int32).toNatClampNeg)) (4 : Int32) w) (fun x1 w2 => (if (w2.1 6 2) = 0 then (if xin (3 : Int32) 8 then (if xin (1 : Int32) 8 then xbd (sX3_serve p1 (w2.1 20 ((3 : Int32).toNatClampNeg)) (w2.1 20 ((1 : Int32).toNatClampNeg)) (w2.2 8 13) w2) (fun x3 w4 => (if xin (0 : Int32) 8 then (if xin (4 : Int32) 8 then (if xin (4 : Int32) 8 then (if p1 = (7 : Int32) then some ((), (xwi (xwi (xwi (xwi w4 20 ((0 : Int32).toNatClampNeg) x3) 20 ((4 : Int32).toNatClampNeg) (((xwi w4 20 ((0 : Int32).toNatClampNeg) x3).1 20 ((4 : Int32).toNatClampNeg)) + (4 : Int32))) 8 11 (x1 &&& (-32 : Int32))) 8 10 (7 : Int32))) else some ((), (xwi (xwi (xwi w4 20 ((0 : Int32).toNatClampNeg) x3) 20 ((4 : Int32).toNatClampNeg) (((xwi w4 20 ((0 : Int32).toNatClampNeg) x3).1 20 ((4 : Int32).toNatClampNeg)) + (4 : Int32))) 8 11 (x1 &&& (-32 : Int32))))) else none) else none) else none)) else none) else none) else some ((), w2))) else none))
set_option maxRecDepth 20000 in
theorem tX7_doService (p1 : Int32) (w : xW) : xJ ιV mX7_doService lC (0, 0) 0 [(0, .ref 8), (1, .int p1)] [] w (sX7_doService p1 w) := by
  unfold sX7_doService
  refine xj_iloadn 1 dX7_doService_0 rfl rfl ?_
  refine xj_ifne (tgt := 20) dX7_doService_1 rfl ?_ ?_
  · refine xj_aloadn 0 dX7_doService_4 rfl rfl ?_
    refine xj_aloadn 0 dX7_doService_5 rfl rfl ?_
    refine gfX7_18 dX7_doService_6 rfl ?_
    refine xj_iconst (v := 3) dX7_doService_9 ci_3 ?_
    refine xj_iald (k := 20) dX7_doService_10 rfl ?_
    refine pfX7_61 dX7_doService_11 rfl ?_
    refine xj_aloadn 0 dX7_doService_14 rfl rfl ?_
    refine xj_iconst (v := 2) dX7_doService_15 ci_2 ?_
    refine pfX7_68 dX7_doService_16 rfl ?_
    exact xj_rv dX7_doService_19 rfl
  · refine xj_aloadn 0 dX7_doService_20 rfl rfl ?_
    refine gfX7_42 dX7_doService_21 rfl ?_
    refine xj_aloadn 0 dX7_doService_24 rfl rfl ?_
    refine gfX7_18 dX7_doService_25 rfl ?_
    refine xj_iconst (v := 4) dX7_doService_28 ci_4 ?_
    refine xj_iald (k := 20) dX7_doService_29 rfl ?_
    refine xj_iconst (v := 4) dX7_doService_30 ci_4 ?_
    refine xj_cVi (argv := [.int (w.1 20 ((4 : Int32).toNatClampNeg)), .int (4 : Int32)]) (rest := []) dX7_doService_31 (kX8_load (w.1 20 ((4 : Int32).toNatClampNeg)) (4 : Int32) w) mkX8_load tw1546 rfl rfl rfl rfl rfl rfl (fun x1 w2 => ?_)
    refine xj_istoren (lv2 := [(2, .int x1), (0, .ref 8), (1, .int p1)]) dX7_doService_34 rfl (Nat.le_of_ble_eq_true rfl) rfl ?_
    refine xj_aloadn 1 dX7_doService_35 rfl rfl ?_
    refine gfX7_42 dX7_doService_36 rfl ?_
    refine gfX7_71 (v := (w2.1 6 2)) dX7_doService_39 rfl rfl ?_
    refine xj_ifeq (tgt := 46) dX7_doService_42 rfl ?_ ?_
    · refine xj_aloadn 1 dX7_doService_46 rfl rfl ?_
      refine gfX7_18 dX7_doService_47 rfl ?_
      refine xj_iconst (v := 0) dX7_doService_50 ci_0 ?_
      refine xj_aloadn 1 dX7_doService_51 rfl rfl ?_
      refine gfX7_46 dX7_doService_52 rfl ?_
      refine xj_iloadn 2 dX7_doService_55 rfl rfl ?_
      refine xj_aloadn 1 dX7_doService_56 rfl rfl ?_
      refine gfX7_18 dX7_doService_57 rfl ?_
      refine xj_iconst (v := 3) dX7_doService_60 ci_3 ?_
      refine xj_iald (k := 20) dX7_doService_61 rfl ?_
      refine xj_aloadn 1 dX7_doService_62 rfl rfl ?_
      refine gfX7_18 dX7_doService_63 rfl ?_
      refine xj_iconst (v := 1) dX7_doService_66 ci_1 ?_
      refine xj_iald (k := 20) dX7_doService_67 rfl ?_
      refine xj_aloadn 1 dX7_doService_68 rfl rfl ?_
      refine gfX7_64 (v := (w2.2 8 13)) dX7_doService_69 rfl rfl ?_
      refine xj_cVi (argv := [.int p1, .int (w2.1 20 ((3 : Int32).toNatClampNeg)), .int (w2.1 20 ((1 : Int32).toNatClampNeg)), .long (w2.2 8 13)]) (rest := [.int (0 : Int32), .ref 20]) dX7_doService_72 (kX3_serve p1 (w2.1 20 ((3 : Int32).toNatClampNeg)) (w2.1 20 ((1 : Int32).toNatClampNeg)) (w2.2 8 13) w2) mkX3_serve tw1554 rfl rfl rfl rfl rfl rfl (fun x3 w4 => ?_)
      refine xj_iast (k := 20) dX7_doService_75 rfl ?_
      refine xj_aloadn 1 dX7_doService_76 rfl rfl ?_
      refine gfX7_18 dX7_doService_77 rfl ?_
      refine xj_iconst (v := 4) dX7_doService_80 ci_4 ?_
      refine xj_dup2 dX7_doService_81 rfl rfl ?_
      refine xj_iald (k := 20) dX7_doService_82 rfl ?_
      refine xj_iconst (v := 4) dX7_doService_83 ci_4 ?_
      refine xj_iadd dX7_doService_84 ?_
      refine xj_iast (k := 20) dX7_doService_85 rfl ?_
      refine xj_aloadn 1 dX7_doService_86 rfl rfl ?_
      refine xj_iloadn 0 dX7_doService_87 rfl rfl ?_
      refine xj_bipush (v := -32) dX7_doService_88 cb_m32 ?_
      refine xj_iand dX7_doService_90 ?_
      refine pfX7_54 dX7_doService_91 rfl ?_
      refine xj_iloadn 2 dX7_doService_94 rfl rfl ?_
      refine xj_bipush (v := 7) dX7_doService_95 cb_7 ?_
      refine xj_ine (tgt := 106) dX7_doService_97 rfl ?_ ?_
      · refine xj_aloadn 1 dX7_doService_100 rfl rfl ?_
        refine xj_bipush (v := 7) dX7_doService_101 cb_7 ?_
        refine pfX7_68 dX7_doService_103 rfl ?_
        exact xj_rv dX7_doService_106 rfl
      · exact xj_rv dX7_doService_106 rfl
    · exact xj_rv dX7_doService_45 rfl
theorem kX7_doService (p1 : Int32) (w : xW) : xMet jV mX7_doService lC (0, 0) [.ref 8, .int p1] w (sX7_doService p1 w) := xj_met lC_ok (by decide) (Nat.le_of_ble_eq_true rfl) (Nat.zero_le _) (Nat.zero_le _) (tX7_doService p1 w)
set_option maxRecDepth 20000 in
def sX8_inImage (p1 : Int32) (p2 : Int64) (w : xW) : Option (Int32 × xW) :=
  xbd (sX8_isWithin p1 p2 (4096 : Int32) ((4096 : Int32) + (w.1 1 1)) w) (fun x1 w2 => (if xz x1 then some (x1, w2) else none))
set_option maxRecDepth 20000 in
theorem tX8_inImage (p1 : Int32) (p2 : Int64) (w : xW) : xJ ιI mX8_inImage lC (0, 0) 0 [(0, .ref 6), (1, .int p1), (2, .long p2)] [] w (sX8_inImage p1 p2 w) := by
  unfold sX8_inImage
  refine xj_iloadn 1 dX8_inImage_0 rfl rfl ?_
  refine xj_lloadn 2 dX8_inImage_1 rfl rfl ?_
  refine xj_sipush (v := 4096) dX8_inImage_2 cs_4096 ?_
  refine xj_sipush (v := 4096) dX8_inImage_5 cs_4096 ?_
  refine xj_aloadn 0 dX8_inImage_8 rfl rfl ?_
  refine gfX8_16 dX8_inImage_9 rfl ?_
  refine gfX8_29 (v := (w.1 1 1)) dX8_inImage_12 rfl rfl ?_
  refine xj_iadd dX8_inImage_15 ?_
  refine xj_cSi (argv := [.int p1, .long p2, .int (4096 : Int32), .int ((4096 : Int32) + (w.1 1 1))]) (rest := []) dX8_inImage_16 (kX8_isWithin p1 p2 (4096 : Int32) ((4096 : Int32) + (w.1 1 1)) w) mkX8_isWithin tw838 rfl rfl rfl rfl (fun x1 w2 => ?_)
  exact xj_guard (fun h => xj_rz dX8_inImage_19 rfl h)
theorem kX8_inImage (p1 : Int32) (p2 : Int64) (w : xW) : xMet jI mX8_inImage lC (0, 0) [.ref 6, .int p1, .long p2] w (sX8_inImage p1 p2 w) := xj_met lC_ok (by decide) (Nat.le_of_ble_eq_true rfl) (Nat.zero_le _) (Nat.zero_le _) (tX8_inImage p1 p2 w)
set_option maxRecDepth 20000 in
def sX7_addressOfE_j37 (a1 : Int32) (w : xW) : Option (Int32 × xW) :=
  (if (w.1 2 10) = (-1 : Int32) then some (a1, w) else (if xin ((w.1 2 10) &&& (7 : Int32)) 8 then xlet (a1 + ((w.1 20 (((w.1 2 10) &&& (7 : Int32)).toNatClampNeg)) <<< (((w.1 2 11) &&& (3 : Int32)) &&& 31))) (fun x1 => some (x1, w)) else none))
set_option maxRecDepth 20000 in
theorem tX7_addressOfE_j37 (a1 : Int32) (w : xW) : xJ ιI mX7_addressOfE lC (0, 0) 37 [(0, .ref 8), (1, .int a1)] [] w (sX7_addressOfE_j37 a1 w) := by
  unfold sX7_addressOfE_j37
  refine xj_aloadn 0 dX7_addressOfE_37 rfl rfl ?_
  refine gfX7_38 dX7_addressOfE_38 rfl ?_
  refine gfX7_152 (v := (w.1 2 10)) dX7_addressOfE_41 rfl rfl ?_
  refine xj_iconst (v := -1) dX7_addressOfE_44 ci_m1 ?_
  refine xj_ieq (tgt := 76) dX7_addressOfE_45 rfl ?_ ?_
  · refine xj_iloadn 1 dX7_addressOfE_76 rfl rfl ?_
    exact xj_ri dX7_addressOfE_77 rfl
  · refine xj_iloadn 1 dX7_addressOfE_48 rfl rfl ?_
    refine xj_aloadn 0 dX7_addressOfE_49 rfl rfl ?_
    refine gfX7_18 dX7_addressOfE_50 rfl ?_
    refine xj_aloadn 0 dX7_addressOfE_53 rfl rfl ?_
    refine gfX7_38 dX7_addressOfE_54 rfl ?_
    refine gfX7_152 (v := (w.1 2 10)) dX7_addressOfE_57 rfl rfl ?_
    refine xj_bipush (v := 7) dX7_addressOfE_60 cb_7 ?_
    refine xj_iand dX7_addressOfE_62 ?_
    refine xj_iald (k := 20) dX7_addressOfE_63 rfl ?_
    refine xj_aloadn 0 dX7_addressOfE_64 rfl rfl ?_
    refine gfX7_38 dX7_addressOfE_65 rfl ?_
    refine gfX7_155 (v := (w.1 2 11)) dX7_addressOfE_68 rfl rfl ?_
    refine xj_iconst (v := 3) dX7_addressOfE_71 ci_3 ?_
    refine xj_iand dX7_addressOfE_72 ?_
    refine xj_ishl dX7_addressOfE_73 ?_
    refine xj_iadd dX7_addressOfE_74 ?_
    refine xj_leti (fun x1 => ?_)
    refine xj_istoren (lv2 := [(1, .int x1), (0, .ref 8)]) dX7_addressOfE_75 rfl (Nat.le_of_ble_eq_true rfl) rfl ?_
    refine xj_iloadn 0 dX7_addressOfE_76 rfl rfl ?_
    exact xj_ri dX7_addressOfE_77 rfl
set_option maxRecDepth 20000 in
def sX7_addressOfE (w : xW) : Option (Int32 × xW) :=
  (if (w.1 2 9) = (-1 : Int32) then sX7_addressOfE_j37 (w.1 2 12) w else (if xin ((w.1 2 9) &&& (7 : Int32)) 8 then xlet ((w.1 2 12) + (w.1 20 (((w.1 2 9) &&& (7 : Int32)).toNatClampNeg))) (fun x1 => sX7_addressOfE_j37 x1 w) else none))
set_option maxRecDepth 20000 in
theorem tX7_addressOfE (w : xW) : xJ ιI mX7_addressOfE lC (0, 0) 0 [(0, .ref 8)] [] w (sX7_addressOfE w) := by
  unfold sX7_addressOfE
  refine xj_aloadn 0 dX7_addressOfE_0 rfl rfl ?_
  refine gfX7_38 dX7_addressOfE_1 rfl ?_
  refine gfX7_146 (v := (w.1 2 12)) dX7_addressOfE_4 rfl rfl ?_
  refine xj_istoren (lv2 := [(1, .int (w.1 2 12)), (0, .ref 8)]) dX7_addressOfE_7 rfl (Nat.le_of_ble_eq_true rfl) rfl ?_
  refine xj_aloadn 1 dX7_addressOfE_8 rfl rfl ?_
  refine gfX7_38 dX7_addressOfE_9 rfl ?_
  refine gfX7_149 (v := (w.1 2 9)) dX7_addressOfE_12 rfl rfl ?_
  refine xj_iconst (v := -1) dX7_addressOfE_15 ci_m1 ?_
  refine xj_ieq (tgt := 37) dX7_addressOfE_16 rfl ?_ ?_
  · refine xj_sub (lv2 := [(0, .ref 8), (1, .int (w.1 2 12))]) [1, 0] rfl ?_
    exact tX7_addressOfE_j37 _ _
  · refine xj_iloadn 0 dX7_addressOfE_19 rfl rfl ?_
    refine xj_aloadn 1 dX7_addressOfE_20 rfl rfl ?_
    refine gfX7_18 dX7_addressOfE_21 rfl ?_
    refine xj_aloadn 1 dX7_addressOfE_24 rfl rfl ?_
    refine gfX7_38 dX7_addressOfE_25 rfl ?_
    refine gfX7_149 (v := (w.1 2 9)) dX7_addressOfE_28 rfl rfl ?_
    refine xj_bipush (v := 7) dX7_addressOfE_31 cb_7 ?_
    refine xj_iand dX7_addressOfE_33 ?_
    refine xj_iald (k := 20) dX7_addressOfE_34 rfl ?_
    refine xj_iadd dX7_addressOfE_35 ?_
    refine xj_leti (fun x1 => ?_)
    refine xj_istoren (lv2 := [(1, .int x1), (0, .ref 8)]) dX7_addressOfE_36 rfl (Nat.le_of_ble_eq_true rfl) rfl ?_
    refine xj_sub (lv2 := [(0, .ref 8), (1, .int x1)]) [1, 0] rfl ?_
    exact tX7_addressOfE_j37 _ _
theorem kX7_addressOfE (w : xW) : xMet jI mX7_addressOfE lC (0, 0) [.ref 8] w (sX7_addressOfE w) := xj_met lC_ok (by decide) (Nat.le_of_ble_eq_true rfl) (Nat.zero_le _) (Nat.zero_le _) (tX7_addressOfE w)
set_option maxRecDepth 20000 in
def sX7_isReady_j56 (w : xW) : Option (Int32 × xW) :=
  xbd (sX8_fail (6 : Int32) w) (fun _ w1 => some ((0 : Int32), w1))
set_option maxRecDepth 20000 in
theorem tX7_isReady_j56 (w : xW) : xJ ιI mX7_isReady lC (0, 0) 56 [(0, .ref 8)] [] w (sX7_isReady_j56 w) := by
  unfold sX7_isReady_j56
  refine xj_aloadn 0 dX7_isReady_56 rfl rfl ?_
  refine gfX7_42 dX7_isReady_57 rfl ?_
  refine xj_bipush (v := 6) dX7_isReady_60 cb_6 ?_
  refine xj_cVv (argv := [.int (6 : Int32)]) (rest := []) dX7_isReady_62 (kX8_fail (6 : Int32) w) mkX8_fail tw1588 rfl rfl rfl rfl rfl rfl (fun _ w1 => ?_)
  refine xj_iconst (v := 0) dX7_isReady_65 ci_0 ?_
  exact xj_rz dX7_isReady_66 rfl (Or.inl rfl)
set_option maxRecDepth 20000 in
def sX7_isReady (w : xW) : Option (Int32 × xW) :=
  xbd (sX8_inImage (w.1 8 11) (1 : Int64) w) (fun x1 w2 => (if x1 = 0 then xbd (sX8_fail (5 : Int32) w2) (fun _ w9 => some ((0 : Int32), w9)) else xbd (sX1_decode ((w.1 8 11) - (4096 : Int32)) w2) (fun x3 w4 => (if x3 = 0 then sX7_isReady_j56 w4 else xbd (sX5_permits ((w.1 8 11) - (4096 : Int32)) w4) (fun x5 w6 => (if x5 = 0 then sX7_isReady_j56 w6 else xbd (sX7_addressOfE (xwi (xwi (xcp8 w6 20 22) 8 9 (w6.1 9 0)) 8 15 ((w6.1 8 11) + (w6.1 2 14)))) (fun x7 w8 => some ((1 : Int32), (xwi w8 8 14 x7)))))))))
set_option maxRecDepth 20000 in
theorem tX7_isReady (w : xW) : xJ ιI mX7_isReady lC (0, 0) 0 [(0, .ref 8)] [] w (sX7_isReady w) := by
  unfold sX7_isReady
  refine xj_aloadn 0 dX7_isReady_0 rfl rfl ?_
  refine gfX7_54 (v := (w.1 8 11)) dX7_isReady_1 rfl rfl ?_
  refine xj_sipush (v := 4096) dX7_isReady_4 cs_4096 ?_
  refine xj_isub dX7_isReady_7 ?_
  refine xj_istoren (lv2 := [(1, .int ((w.1 8 11) - (4096 : Int32))), (0, .ref 8)]) dX7_isReady_8 rfl (Nat.le_of_ble_eq_true rfl) rfl ?_
  refine xj_aloadn 1 dX7_isReady_9 rfl rfl ?_
  refine gfX7_42 dX7_isReady_10 rfl ?_
  refine xj_aloadn 1 dX7_isReady_13 rfl rfl ?_
  refine gfX7_54 (v := (w.1 8 11)) dX7_isReady_14 rfl rfl ?_
  refine xj_lconst (v := 1) dX7_isReady_17 cl_1 ?_
  refine xj_cVi (argv := [.int (w.1 8 11), .long (1 : Int64)]) (rest := []) dX7_isReady_18 (kX8_inImage (w.1 8 11) (1 : Int64) w) mkX8_inImage tw1584 rfl rfl rfl rfl rfl rfl (fun x1 w2 => ?_)
  refine xj_ifne (tgt := 34) dX7_isReady_21 rfl ?_ ?_
  · refine xj_aloadn 1 dX7_isReady_24 rfl rfl ?_
    refine gfX7_42 dX7_isReady_25 rfl ?_
    refine xj_iconst (v := 5) dX7_isReady_28 ci_5 ?_
    refine xj_cVv (argv := [.int (5 : Int32)]) (rest := []) dX7_isReady_29 (kX8_fail (5 : Int32) w2) mkX8_fail tw1588 rfl rfl rfl rfl rfl rfl (fun _ w9 => ?_)
    refine xj_iconst (v := 0) dX7_isReady_32 ci_0 ?_
    exact xj_rz dX7_isReady_33 rfl (Or.inl rfl)
  · refine xj_aloadn 1 dX7_isReady_34 rfl rfl ?_
    refine gfX7_34 dX7_isReady_35 rfl ?_
    refine xj_iloadn 0 dX7_isReady_38 rfl rfl ?_
    refine xj_cVi (argv := [.int ((w.1 8 11) - (4096 : Int32))]) (rest := []) dX7_isReady_39 (kX1_decode ((w.1 8 11) - (4096 : Int32)) w2) mkX1_decode tw1589 rfl rfl rfl rfl rfl rfl (fun x3 w4 => ?_)
    refine xj_ifeq (tgt := 56) dX7_isReady_42 rfl ?_ ?_
    · refine xj_sub (lv2 := [(0, .ref 8)]) [1] rfl ?_
      exact tX7_isReady_j56 _
    · refine xj_aloadn 1 dX7_isReady_45 rfl rfl ?_
      refine gfX7_30 dX7_isReady_46 rfl ?_
      refine xj_iloadn 0 dX7_isReady_49 rfl rfl ?_
      refine xj_cVi (argv := [.int ((w.1 8 11) - (4096 : Int32))]) (rest := []) dX7_isReady_50 (kX5_permits ((w.1 8 11) - (4096 : Int32)) w4) mkX5_permits tw1590 rfl rfl rfl rfl rfl rfl (fun x5 w6 => ?_)
      refine xj_ifne (tgt := 67) dX7_isReady_53 rfl ?_ ?_
      · refine xj_sub (lv2 := [(0, .ref 8)]) [1] rfl ?_
        exact tX7_isReady_j56 _
      · refine xj_aloadn 1 dX7_isReady_67 rfl rfl ?_
        refine gfX7_18 dX7_isReady_68 rfl ?_
        refine xj_iconst (v := 0) dX7_isReady_71 ci_0 ?_
        refine xj_aloadn 1 dX7_isReady_72 rfl rfl ?_
        refine gfX7_27 dX7_isReady_73 rfl ?_
        refine xj_iconst (v := 0) dX7_isReady_76 ci_0 ?_
        refine xj_bipush (v := 8) dX7_isReady_77 cb_8 ?_
        refine xj_copy8 (k0 := 20) (k1 := 22) (rest := []) dX7_isReady_79 tw1594 rfl rfl rfl rfl ?_
        refine xj_aloadn 1 dX7_isReady_82 rfl rfl ?_
        refine xj_aloadn 1 dX7_isReady_83 rfl rfl ?_
        refine gfX7_12 dX7_isReady_84 rfl ?_
        refine gfX7_58 (v := (w6.1 9 0)) dX7_isReady_87 rfl rfl ?_
        refine pfX7_128 dX7_isReady_90 rfl ?_
        refine xj_aloadn 1 dX7_isReady_93 rfl rfl ?_
        refine xj_aloadn 1 dX7_isReady_94 rfl rfl ?_
        refine gfX7_54 (v := (w6.1 8 11)) dX7_isReady_95 rfl rfl ?_
        refine xj_aloadn 1 dX7_isReady_98 rfl rfl ?_
        refine gfX7_38 dX7_isReady_99 rfl ?_
        refine gfX7_131 (v := (w6.1 2 14)) dX7_isReady_102 rfl rfl ?_
        refine xj_iadd dX7_isReady_105 ?_
        refine pfX7_136 dX7_isReady_106 rfl ?_
        refine xj_aloadn 1 dX7_isReady_109 rfl rfl ?_
        refine xj_aloadn 1 dX7_isReady_110 rfl rfl ?_
        refine xj_cVi (argv := []) (rest := [.ref 8]) dX7_isReady_111 (kX7_addressOfE (xwi (xwi (xcp8 w6 20 22) 8 9 (w6.1 9 0)) 8 15 ((w6.1 8 11) + (w6.1 2 14)))) mkX7_addressOfE tw1595 rfl rfl rfl rfl rfl rfl (fun x7 w8 => ?_)
        refine pfX7_143 dX7_isReady_114 rfl ?_
        refine xj_iconst (v := 1) dX7_isReady_117 ci_1 ?_
        exact xj_rz dX7_isReady_118 rfl (Or.inr rfl)
theorem kX7_isReady (w : xW) : xMet jI mX7_isReady lC (0, 0) [.ref 8] w (sX7_isReady w) := xj_met lC_ok (by decide) (Nat.le_of_ble_eq_true rfl) (Nat.zero_le _) (Nat.zero_le _) (tX7_isReady w)
set_option maxRecDepth 20000 in
def sX7_part (p1 : Int32) (p2 : Int32) (w : xW) : Option (Int32 × xW) :=
  (if p2 = (1 : Int32) then (if xin (p1 &&& (3 : Int32)) 8 then (if p1 < (4 : Int32) then some (((xushr (w.1 20 ((p1 &&& (3 : Int32)).toNatClampNeg)) (0 : Int32)) &&& (255 : Int32)), w) else some (((xushr (w.1 20 ((p1 &&& (3 : Int32)).toNatClampNeg)) (8 : Int32)) &&& (255 : Int32)), w)) else none) else (if p2 = (2 : Int32) then (if xin (p1 &&& (7 : Int32)) 8 then some (((w.1 20 ((p1 &&& (7 : Int32)).toNatClampNeg)) &&& (65535 : Int32)), w) else none) else (if xin (p1 &&& (7 : Int32)) 8 then some ((w.1 20 ((p1 &&& (7 : Int32)).toNatClampNeg)), w) else none)))
set_option maxRecDepth 20000 in
theorem tX7_part (p1 : Int32) (p2 : Int32) (w : xW) : xJ ιI mX7_part lC (0, 0) 0 [(0, .ref 8), (1, .int p1), (2, .int p2)] [] w (sX7_part p1 p2 w) := by
  unfold sX7_part
  refine xj_iloadn 2 dX7_part_0 rfl rfl ?_
  refine xj_iconst (v := 1) dX7_part_1 ci_1 ?_
  refine xj_ine (tgt := 30) dX7_part_2 rfl ?_ ?_
  · refine xj_aloadn 0 dX7_part_5 rfl rfl ?_
    refine gfX7_18 dX7_part_6 rfl ?_
    refine xj_iloadn 1 dX7_part_9 rfl rfl ?_
    refine xj_iconst (v := 3) dX7_part_10 ci_3 ?_
    refine xj_iand dX7_part_11 ?_
    refine xj_iald (k := 20) dX7_part_12 rfl ?_
    refine xj_iloadn 1 dX7_part_13 rfl rfl ?_
    refine xj_iconst (v := 4) dX7_part_14 ci_4 ?_
    refine xj_ige (tgt := 22) dX7_part_15 rfl ?_ ?_
    · refine xj_iconst (v := 0) dX7_part_18 ci_0 ?_
      refine xj_goto (tgt := 24) dX7_part_19 rfl ?_
      refine xj_iushr dX7_part_24 ?_
      refine xj_sipush (v := 255) dX7_part_25 cs_255 ?_
      refine xj_iand dX7_part_28 ?_
      exact xj_ri dX7_part_29 rfl
    · refine xj_bipush (v := 8) dX7_part_22 cb_8 ?_
      refine xj_iushr dX7_part_24 ?_
      refine xj_sipush (v := 255) dX7_part_25 cs_255 ?_
      refine xj_iand dX7_part_28 ?_
      exact xj_ri dX7_part_29 rfl
  · refine xj_iloadn 2 dX7_part_30 rfl rfl ?_
    refine xj_iconst (v := 2) dX7_part_31 ci_2 ?_
    refine xj_ine (tgt := 50) dX7_part_32 rfl ?_ ?_
    · refine xj_aloadn 0 dX7_part_35 rfl rfl ?_
      refine gfX7_18 dX7_part_36 rfl ?_
      refine xj_iloadn 1 dX7_part_39 rfl rfl ?_
      refine xj_bipush (v := 7) dX7_part_40 cb_7 ?_
      refine xj_iand dX7_part_42 ?_
      refine xj_iald (k := 20) dX7_part_43 rfl ?_
      refine xj_ldc (v := 65535) tw1616 dX7_part_44 ?_
      refine xj_iand dX7_part_46 ?_
      refine xj_goto (tgt := 59) dX7_part_47 rfl ?_
      exact xj_ri dX7_part_59 rfl
    · refine xj_aloadn 0 dX7_part_50 rfl rfl ?_
      refine gfX7_18 dX7_part_51 rfl ?_
      refine xj_iloadn 1 dX7_part_54 rfl rfl ?_
      refine xj_bipush (v := 7) dX7_part_55 cb_7 ?_
      refine xj_iand dX7_part_57 ?_
      refine xj_iald (k := 20) dX7_part_58 rfl ?_
      exact xj_ri dX7_part_59 rfl
theorem kX7_part (p1 : Int32) (p2 : Int32) (w : xW) : xMet jI mX7_part lC (0, 0) [.ref 8, .int p1, .int p2] w (sX7_part p1 p2 w) := xj_met lC_ok (by decide) (Nat.le_of_ble_eq_true rfl) (Nat.zero_le _) (Nat.zero_le _) (tX7_part p1 p2 w)
set_option maxRecDepth 20000 in
def sX7_readG (w : xW) : Option (Int32 × xW) :=
  xbd (sX7_part (w.1 2 8) (w.1 2 4) w) (fun x1 w2 => some (x1, w2))
set_option maxRecDepth 20000 in
theorem tX7_readG (w : xW) : xJ ιI mX7_readG lC (0, 0) 0 [(0, .ref 8)] [] w (sX7_readG w) := by
  unfold sX7_readG
  refine xj_aloadn 0 dX7_readG_0 rfl rfl ?_
  refine xj_aloadn 0 dX7_readG_1 rfl rfl ?_
  refine gfX7_38 dX7_readG_2 rfl ?_
  refine gfX7_231 (v := (w.1 2 8)) dX7_readG_5 rfl rfl ?_
  refine xj_aloadn 0 dX7_readG_8 rfl rfl ?_
  refine gfX7_38 dX7_readG_9 rfl ?_
  refine gfX7_173 (v := (w.1 2 4)) dX7_readG_12 rfl rfl ?_
  refine xj_cVi (argv := [.int (w.1 2 8), .int (w.1 2 4)]) (rest := []) dX7_readG_15 (kX7_part (w.1 2 8) (w.1 2 4) w) mkX7_part tw1612 rfl rfl rfl rfl rfl rfl (fun x1 w2 => ?_)
  exact xj_ri dX7_readG_18 rfl
theorem kX7_readG (w : xW) : xMet jI mX7_readG lC (0, 0) [.ref 8] w (sX7_readG w) := xj_met lC_ok (by decide) (Nat.le_of_ble_eq_true rfl) (Nat.zero_le _) (Nat.zero_le _) (tX7_readG w)
set_option maxRecDepth 20000 in
def sX7_readE (w : xW) : Option (Int32 × xW) :=
  (if (w.1 2 6) = 0 then xbd (sX7_part (w.1 2 7) (w.1 2 5) w) (fun x1 w2 => some (x1, w2)) else xbd (sX8_load (w.1 8 14) (w.1 2 5) w) (fun x3 w4 => some (x3, w4)))
set_option maxRecDepth 20000 in
theorem tX7_readE (w : xW) : xJ ιI mX7_readE lC (0, 0) 0 [(0, .ref 8)] [] w (sX7_readE w) := by
  unfold sX7_readE
  refine xj_aloadn 0 dX7_readE_0 rfl rfl ?_
  refine gfX7_38 dX7_readE_1 rfl ?_
  refine gfX7_211 (v := (w.1 2 6)) dX7_readE_4 rfl rfl ?_
  refine xj_ifeq (tgt := 31) dX7_readE_7 rfl ?_ ?_
  · refine xj_aloadn 0 dX7_readE_31 rfl rfl ?_
    refine xj_aloadn 0 dX7_readE_32 rfl rfl ?_
    refine gfX7_38 dX7_readE_33 rfl ?_
    refine gfX7_218 (v := (w.1 2 7)) dX7_readE_36 rfl rfl ?_
    refine xj_aloadn 0 dX7_readE_39 rfl rfl ?_
    refine gfX7_38 dX7_readE_40 rfl ?_
    refine gfX7_215 (v := (w.1 2 5)) dX7_readE_43 rfl rfl ?_
    refine xj_cVi (argv := [.int (w.1 2 7), .int (w.1 2 5)]) (rest := []) dX7_readE_46 (kX7_part (w.1 2 7) (w.1 2 5) w) mkX7_part tw1612 rfl rfl rfl rfl rfl rfl (fun x1 w2 => ?_)
    exact xj_ri dX7_readE_49 rfl
  · refine xj_aloadn 0 dX7_readE_10 rfl rfl ?_
    refine gfX7_42 dX7_readE_11 rfl ?_
    refine xj_aloadn 0 dX7_readE_14 rfl rfl ?_
    refine gfX7_143 (v := (w.1 8 14)) dX7_readE_15 rfl rfl ?_
    refine xj_aloadn 0 dX7_readE_18 rfl rfl ?_
    refine gfX7_38 dX7_readE_19 rfl ?_
    refine gfX7_215 (v := (w.1 2 5)) dX7_readE_22 rfl rfl ?_
    refine xj_cVi (argv := [.int (w.1 8 14), .int (w.1 2 5)]) (rest := []) dX7_readE_25 (kX8_load (w.1 8 14) (w.1 2 5) w) mkX8_load tw1546 rfl rfl rfl rfl rfl rfl (fun x3 w4 => ?_)
    refine xj_goto (tgt := 49) dX7_readE_28 rfl ?_
    exact xj_ri dX7_readE_49 rfl
theorem kX7_readE (w : xW) : xMet jI mX7_readE lC (0, 0) [.ref 8] w (sX7_readE w) := xj_met lC_ok (by decide) (Nat.le_of_ble_eq_true rfl) (Nat.zero_le _) (Nat.zero_le _) (tX7_readE w)
set_option maxRecDepth 20000 in
def sX7_readSecond (w : xW) : Option (Int32 × xW) :=
  (if (w.1 2 1) = (3 : Int32) then xbd (sX11_maskOf (w.1 2 4) w) (fun x7 w8 => some (((w.1 2 13) &&& x7), w8)) else xbd (sX6_startsWithG w) (fun x1 w2 => (if x1 = 0 then xbd (sX7_readG w2) (fun x3 w4 => some (x3, w4)) else xbd (sX7_readE w2) (fun x5 w6 => some (x5, w6)))))
set_option maxRecDepth 20000 in
theorem tX7_readSecond (w : xW) : xJ ιI mX7_readSecond lC (0, 0) 0 [(0, .ref 8)] [] w (sX7_readSecond w) := by
  unfold sX7_readSecond
  refine xj_aloadn 0 dX7_readSecond_0 rfl rfl ?_
  refine gfX7_38 dX7_readSecond_1 rfl ?_
  refine gfX7_234 (v := (w.1 2 1)) dX7_readSecond_4 rfl rfl ?_
  refine xj_iconst (v := 3) dX7_readSecond_7 ci_3 ?_
  refine xj_ine (tgt := 30) dX7_readSecond_8 rfl ?_ ?_
  · refine xj_aloadn 0 dX7_readSecond_11 rfl rfl ?_
    refine gfX7_38 dX7_readSecond_12 rfl ?_
    refine gfX7_237 (v := (w.1 2 13)) dX7_readSecond_15 rfl rfl ?_
    refine xj_aloadn 0 dX7_readSecond_18 rfl rfl ?_
    refine gfX7_38 dX7_readSecond_19 rfl ?_
    refine gfX7_173 (v := (w.1 2 4)) dX7_readSecond_22 rfl rfl ?_
    refine xj_cSNi (argv := [.int (w.1 2 4)]) (rest := [.int (w.1 2 13)]) dX7_readSecond_25 (kX11_maskOf (w.1 2 4) w) mkX11_maskOf tw1625 rfl rfl rfl rfl (fun x7 w8 => ?_)
    refine xj_iand dX7_readSecond_28 ?_
    exact xj_ri dX7_readSecond_29 rfl
  · refine xj_aloadn 0 dX7_readSecond_30 rfl rfl ?_
    refine gfX7_38 dX7_readSecond_31 rfl ?_
    refine xj_cVi (argv := []) (rest := []) dX7_readSecond_34 (kX6_startsWithG w) mkX6_startsWithG tw1607 rfl rfl rfl rfl rfl rfl (fun x1 w2 => ?_)
    refine xj_ifeq (tgt := 47) dX7_readSecond_37 rfl ?_ ?_
    · refine xj_aloadn 0 dX7_readSecond_47 rfl rfl ?_
      refine xj_cVi (argv := []) (rest := []) dX7_readSecond_48 (kX7_readG w2) mkX7_readG tw1608 rfl rfl rfl rfl rfl rfl (fun x3 w4 => ?_)
      exact xj_ri dX7_readSecond_51 rfl
    · refine xj_aloadn 0 dX7_readSecond_40 rfl rfl ?_
      refine xj_cVi (argv := []) (rest := []) dX7_readSecond_41 (kX7_readE w2) mkX7_readE tw1617 rfl rfl rfl rfl rfl rfl (fun x5 w6 => ?_)
      refine xj_goto (tgt := 51) dX7_readSecond_44 rfl ?_
      exact xj_ri dX7_readSecond_51 rfl
theorem kX7_readSecond (w : xW) : xMet jI mX7_readSecond lC (0, 0) [.ref 8] w (sX7_readSecond w) := xj_met lC_ok (by decide) (Nat.le_of_ble_eq_true rfl) (Nat.zero_le _) (Nat.zero_le _) (tX7_readSecond w)
set_option maxRecDepth 20000 in
def sX7_setPart_j60 (a3 : Int32) (a4 : Int32) (a5 : Int32) (b0 : Int32) (w : xW) : Option (Unit × xW) :=
  (if xin a4 8 then (if xin a4 8 then some ((), (xwi w 20 a4.toNatClampNeg (((w.1 20 a4.toNatClampNeg) &&& (b0 ^^^ (-1 : Int32))) ||| ((a3 <<< (a5 &&& 31)) &&& b0)))) else none) else none)
set_option maxRecDepth 20000 in
theorem tX7_setPart_j60 (a3 : Int32) (a4 : Int32) (a5 : Int32) (b0 : Int32) (w : xW) : xJ ιV mX7_setPart lC (0, 0) 60 [(0, .ref 8), (3, .int a3), (4, .int a4), (5, .int a5)] [.int b0] w (sX7_setPart_j60 a3 a4 a5 b0 w) := by
  unfold sX7_setPart_j60
  refine xj_istore (lv2 := [(6, .int b0), (0, .ref 8), (3, .int a3), (4, .int a4), (5, .int a5)]) dX7_setPart_60 (Nat.le_of_ble_eq_true rfl) rfl ?_
  refine xj_aloadn 1 dX7_setPart_62 rfl rfl ?_
  refine gfX7_18 dX7_setPart_63 rfl ?_
  refine xj_iload 3 dX7_setPart_66 rfl ?_
  refine xj_aloadn 1 dX7_setPart_68 rfl rfl ?_
  refine gfX7_18 dX7_setPart_69 rfl ?_
  refine xj_iload 3 dX7_setPart_72 rfl ?_
  refine xj_iald (k := 20) dX7_setPart_74 rfl ?_
  refine xj_iload 0 dX7_setPart_75 rfl ?_
  refine xj_iconst (v := -1) dX7_setPart_77 ci_m1 ?_
  refine xj_ixor dX7_setPart_78 ?_
  refine xj_iand dX7_setPart_79 ?_
  refine xj_iloadn 2 dX7_setPart_80 rfl rfl ?_
  refine xj_iload 4 dX7_setPart_81 rfl ?_
  refine xj_ishl dX7_setPart_83 ?_
  refine xj_iload 0 dX7_setPart_84 rfl ?_
  refine xj_iand dX7_setPart_86 ?_
  refine xj_ior dX7_setPart_87 ?_
  refine xj_iast (k := 20) dX7_setPart_88 rfl ?_
  exact xj_rv dX7_setPart_89 rfl
set_option maxRecDepth 20000 in
def sX7_setPart_j33 (a2 : Int32) (a3 : Int32) (a4 : Int32) (b0 : Int32) (w : xW) : Option (Unit × xW) :=
  (if a2 = (1 : Int32) then sX7_setPart_j60 a3 a4 b0 ((255 : Int32) <<< (b0 &&& 31)) w else (if a2 = (2 : Int32) then sX7_setPart_j60 a3 a4 b0 (65535 : Int32) w else sX7_setPart_j60 a3 a4 b0 (-1 : Int32) w))
set_option maxRecDepth 20000 in
theorem tX7_setPart_j33 (a2 : Int32) (a3 : Int32) (a4 : Int32) (b0 : Int32) (w : xW) : xJ ιV mX7_setPart lC (0, 0) 33 [(0, .ref 8), (2, .int a2), (3, .int a3), (4, .int a4)] [.int b0] w (sX7_setPart_j33 a2 a3 a4 b0 w) := by
  unfold sX7_setPart_j33
  refine xj_istore (lv2 := [(5, .int b0), (0, .ref 8), (2, .int a2), (3, .int a3), (4, .int a4)]) dX7_setPart_33 (Nat.le_of_ble_eq_true rfl) rfl ?_
  refine xj_iloadn 2 dX7_setPart_35 rfl rfl ?_
  refine xj_iconst (v := 1) dX7_setPart_36 ci_1 ?_
  refine xj_ine (tgt := 49) dX7_setPart_37 rfl ?_ ?_
  · refine xj_sipush (v := 255) dX7_setPart_40 cs_255 ?_
    refine xj_iload 0 dX7_setPart_43 rfl ?_
    refine xj_ishl dX7_setPart_45 ?_
    refine xj_goto (tgt := 60) dX7_setPart_46 rfl ?_
    refine xj_sub (lv2 := [(0, .ref 8), (3, .int a3), (4, .int a4), (5, .int b0)]) [1, 3, 4, 0] rfl ?_
    exact tX7_setPart_j60 _ _ _ _ _
  · refine xj_iloadn 2 dX7_setPart_49 rfl rfl ?_
    refine xj_iconst (v := 2) dX7_setPart_50 ci_2 ?_
    refine xj_ine (tgt := 59) dX7_setPart_51 rfl ?_ ?_
    · refine xj_ldc (v := 65535) tw1616 dX7_setPart_54 ?_
      refine xj_goto (tgt := 60) dX7_setPart_56 rfl ?_
      refine xj_sub (lv2 := [(0, .ref 8), (3, .int a3), (4, .int a4), (5, .int b0)]) [1, 3, 4, 0] rfl ?_
      exact tX7_setPart_j60 _ _ _ _ _
    · refine xj_iconst (v := -1) dX7_setPart_59 ci_m1 ?_
      refine xj_sub (lv2 := [(0, .ref 8), (3, .int a3), (4, .int a4), (5, .int b0)]) [1, 3, 4, 0] rfl ?_
      exact tX7_setPart_j60 _ _ _ _ _
set_option maxRecDepth 20000 in
def sX7_setPart_j32 (a2 : Int32) (a3 : Int32) (a4 : Int32) (w : xW) : Option (Unit × xW) :=
  sX7_setPart_j33 a2 a3 a4 (0 : Int32) w
set_option maxRecDepth 20000 in
theorem tX7_setPart_j32 (a2 : Int32) (a3 : Int32) (a4 : Int32) (w : xW) : xJ ιV mX7_setPart lC (0, 0) 32 [(0, .ref 8), (2, .int a2), (3, .int a3), (4, .int a4)] [] w (sX7_setPart_j32 a2 a3 a4 w) := by
  unfold sX7_setPart_j32
  refine xj_iconst (v := 0) dX7_setPart_32 ci_0 ?_
  exact tX7_setPart_j33 _ _ _ _ _
set_option maxRecDepth 20000 in
def sX7_setPart_j15 (a1 : Int32) (a2 : Int32) (a3 : Int32) (b0 : Int32) (w : xW) : Option (Unit × xW) :=
  (if a2 = (1 : Int32) then (if a1 < (4 : Int32) then sX7_setPart_j32 a2 a3 b0 w else sX7_setPart_j33 a2 a3 b0 (8 : Int32) w) else sX7_setPart_j32 a2 a3 b0 w)
set_option maxRecDepth 20000 in
theorem tX7_setPart_j15 (a1 : Int32) (a2 : Int32) (a3 : Int32) (b0 : Int32) (w : xW) : xJ ιV mX7_setPart lC (0, 0) 15 [(0, .ref 8), (1, .int a1), (2, .int a2), (3, .int a3)] [.int b0] w (sX7_setPart_j15 a1 a2 a3 b0 w) := by
  unfold sX7_setPart_j15
  refine xj_istore (lv2 := [(4, .int b0), (0, .ref 8), (1, .int a1), (2, .int a2), (3, .int a3)]) dX7_setPart_15 (Nat.le_of_ble_eq_true rfl) rfl ?_
  refine xj_iloadn 3 dX7_setPart_17 rfl rfl ?_
  refine xj_iconst (v := 1) dX7_setPart_18 ci_1 ?_
  refine xj_ine (tgt := 32) dX7_setPart_19 rfl ?_ ?_
  · refine xj_iloadn 2 dX7_setPart_22 rfl rfl ?_
    refine xj_iconst (v := 4) dX7_setPart_23 ci_4 ?_
    refine xj_ilt (tgt := 32) dX7_setPart_24 rfl ?_ ?_
    · refine xj_sub (lv2 := [(0, .ref 8), (2, .int a2), (3, .int a3), (4, .int b0)]) [1, 3, 4, 0] rfl ?_
      exact tX7_setPart_j32 _ _ _ _
    · refine xj_bipush (v := 8) dX7_setPart_27 cb_8 ?_
      refine xj_goto (tgt := 33) dX7_setPart_29 rfl ?_
      refine xj_sub (lv2 := [(0, .ref 8), (2, .int a2), (3, .int a3), (4, .int b0)]) [1, 3, 4, 0] rfl ?_
      exact tX7_setPart_j33 _ _ _ _ _
  · refine xj_sub (lv2 := [(0, .ref 8), (2, .int a2), (3, .int a3), (4, .int b0)]) [1, 3, 4, 0] rfl ?_
    exact tX7_setPart_j32 _ _ _ _
set_option maxRecDepth 20000 in
def sX7_setPart (p1 : Int32) (p2 : Int32) (p3 : Int32) (w : xW) : Option (Unit × xW) :=
  (if p2 = (1 : Int32) then sX7_setPart_j15 p1 p2 p3 (p1 &&& (3 : Int32)) w else sX7_setPart_j15 p1 p2 p3 (p1 &&& (7 : Int32)) w)
set_option maxRecDepth 20000 in
theorem tX7_setPart (p1 : Int32) (p2 : Int32) (p3 : Int32) (w : xW) : xJ ιV mX7_setPart lC (0, 0) 0 [(0, .ref 8), (1, .int p1), (2, .int p2), (3, .int p3)] [] w (sX7_setPart p1 p2 p3 w) := by
  unfold sX7_setPart
  refine xj_iloadn 2 dX7_setPart_0 rfl rfl ?_
  refine xj_iconst (v := 1) dX7_setPart_1 ci_1 ?_
  refine xj_ine (tgt := 11) dX7_setPart_2 rfl ?_ ?_
  · refine xj_iloadn 1 dX7_setPart_5 rfl rfl ?_
    refine xj_iconst (v := 3) dX7_setPart_6 ci_3 ?_
    refine xj_iand dX7_setPart_7 ?_
    refine xj_goto (tgt := 15) dX7_setPart_8 rfl ?_
    exact tX7_setPart_j15 _ _ _ _ _
  · refine xj_iloadn 1 dX7_setPart_11 rfl rfl ?_
    refine xj_bipush (v := 7) dX7_setPart_12 cb_7 ?_
    refine xj_iand dX7_setPart_14 ?_
    exact tX7_setPart_j15 _ _ _ _ _
theorem kX7_setPart (p1 : Int32) (p2 : Int32) (p3 : Int32) (w : xW) : xMet jV mX7_setPart lC (0, 0) [.ref 8, .int p1, .int p2, .int p3] w (sX7_setPart p1 p2 p3 w) := xj_met lC_ok (by decide) (Nat.le_of_ble_eq_true rfl) (Nat.zero_le _) (Nat.zero_le _) (tX7_setPart p1 p2 p3 w)
set_option maxRecDepth 20000 in
def sX7_writeG (p1 : Int32) (w : xW) : Option (Unit × xW) :=
  xbd (sX7_setPart (w.1 2 8) (w.1 2 4) p1 w) (fun _ w1 => some ((), w1))
set_option maxRecDepth 20000 in
theorem tX7_writeG (p1 : Int32) (w : xW) : xJ ιV mX7_writeG lC (0, 0) 0 [(0, .ref 8), (1, .int p1)] [] w (sX7_writeG p1 w) := by
  unfold sX7_writeG
  refine xj_aloadn 0 dX7_writeG_0 rfl rfl ?_
  refine xj_aloadn 0 dX7_writeG_1 rfl rfl ?_
  refine gfX7_38 dX7_writeG_2 rfl ?_
  refine gfX7_231 (v := (w.1 2 8)) dX7_writeG_5 rfl rfl ?_
  refine xj_aloadn 0 dX7_writeG_8 rfl rfl ?_
  refine gfX7_38 dX7_writeG_9 rfl ?_
  refine gfX7_173 (v := (w.1 2 4)) dX7_writeG_12 rfl rfl ?_
  refine xj_iloadn 1 dX7_writeG_15 rfl rfl ?_
  refine xj_cVv (argv := [.int (w.1 2 8), .int (w.1 2 4), .int p1]) (rest := []) dX7_writeG_16 (kX7_setPart (w.1 2 8) (w.1 2 4) p1 w) mkX7_setPart tw1686 rfl rfl rfl rfl rfl rfl (fun _ w1 => ?_)
  exact xj_rv dX7_writeG_19 rfl
theorem kX7_writeG (p1 : Int32) (w : xW) : xMet jV mX7_writeG lC (0, 0) [.ref 8, .int p1] w (sX7_writeG p1 w) := xj_met lC_ok (by decide) (Nat.le_of_ble_eq_true rfl) (Nat.zero_le _) (Nat.zero_le _) (tX7_writeG p1 w)
set_option maxRecDepth 20000 in
def sX8_store_l51 : Nat → Int32 → Int32 → Int32 → Int32 → xW → Option (Unit × xW)
  | 0, _, _, _, _, _ => none
  | n + 1, a1, a2, a3, a4, w =>
  (if a4 < a2 then xbd (sX8_setData (a1 + a4) (xushr a3 ((8 : Int32) * a4)) w) (fun _ w1 => (sX8_store_l51 n) a1 a2 a3 (a4 + (1 : Int32)) w1) else some ((), w))
set_option maxRecDepth 20000 in
theorem tX8_store_l51 : ∀ (n : Nat) (a1 : Int32) (a2 : Int32) (a3 : Int32) (a4 : Int32) (w : xW), xJ ιV mX8_store lC (0, 0) 51 [(0, .ref 6), (1, .int a1), (2, .int a2), (3, .int a3), (4, .int a4)] [] w (sX8_store_l51 n a1 a2 a3 a4 w) := by
  intro n
  induction n with
  | zero => intros; exact xj_none
  | succ n ih =>
    intro a1 a2 a3 a4 w
    rw [sX8_store_l51]
    refine xj_iload 4 dX8_store_51 rfl ?_
    refine xj_iloadn 2 dX8_store_53 rfl rfl ?_
    refine xj_ige (tgt := 78) dX8_store_54 rfl ?_ ?_
    · refine xj_aloadn 0 dX8_store_57 rfl rfl ?_
      refine xj_iloadn 1 dX8_store_58 rfl rfl ?_
      refine xj_iload 4 dX8_store_59 rfl ?_
      refine xj_iadd dX8_store_61 ?_
      refine xj_iloadn 3 dX8_store_62 rfl rfl ?_
      refine xj_bipush (v := 8) dX8_store_63 cb_8 ?_
      refine xj_iload 4 dX8_store_65 rfl ?_
      refine xj_imul dX8_store_67 ?_
      refine xj_iushr dX8_store_68 ?_
      refine xj_cVv (argv := [.int (a1 + a4), .int (xushr a3 ((8 : Int32) * a4))]) (rest := []) dX8_store_69 (kX8_setData (a1 + a4) (xushr a3 ((8 : Int32) * a4)) w) mkX8_setData tw1700 rfl rfl rfl rfl rfl rfl (fun _ w1 => ?_)
      refine xj_iinc (n := 4) (lv2 := [(4, .int (a4 + (1 : Int32))), (0, .ref 6), (1, .int a1), (2, .int a2), (3, .int a3)]) dX8_store_72 rfl ci_1 (Nat.le_of_ble_eq_true rfl) rfl ?_
      refine xj_goto (tgt := 51) dX8_store_75 rfl ?_
      refine xj_sub (lv2 := [(0, .ref 6), (1, .int a1), (2, .int a2), (3, .int a3), (4, .int (a4 + (1 : Int32)))]) [1, 2, 3, 4, 0] rfl ?_
      exact ih _ _ _ _ _
    · exact xj_rv dX8_store_78 rfl
set_option maxRecDepth 20000 in
def sX8_store_j40 (a1 : Int32) (a2 : Int32) (a3 : Int32) (w : xW) : Option (Unit × xW) :=
  (if (w.1 6 2) = 0 then sX8_store_l51 70000 a1 a2 a3 (0 : Int32) w else some ((), w))
set_option maxRecDepth 20000 in
theorem tX8_store_j40 (a1 : Int32) (a2 : Int32) (a3 : Int32) (w : xW) : xJ ιV mX8_store lC (0, 0) 40 [(0, .ref 6), (1, .int a1), (2, .int a2), (3, .int a3)] [] w (sX8_store_j40 a1 a2 a3 w) := by
  unfold sX8_store_j40
  refine xj_aloadn 0 dX8_store_40 rfl rfl ?_
  refine gfX8_34 (v := (w.1 6 2)) dX8_store_41 rfl rfl ?_
  refine xj_ifeq (tgt := 48) dX8_store_44 rfl ?_ ?_
  · refine xj_iconst (v := 0) dX8_store_48 ci_0 ?_
    refine xj_istore (lv2 := [(4, .int (0 : Int32)), (0, .ref 6), (1, .int a1), (2, .int a2), (3, .int a3)]) dX8_store_49 (Nat.le_of_ble_eq_true rfl) rfl ?_
    refine xj_sub (lv2 := [(0, .ref 6), (1, .int a1), (2, .int a2), (3, .int a3), (4, .int (0 : Int32))]) [1, 2, 3, 4, 0] rfl ?_
    exact tX8_store_l51 _ _ _ _ _ _
  · exact xj_rv dX8_store_47 rfl
set_option maxRecDepth 20000 in
def sX8_store_j37 (a1 : Int32) (a2 : Int32) (a3 : Int32) (b0 : Int32) (w : xW) : Option (Unit × xW) :=
  xbd (sX8_fail b0 w) (fun _ w1 => sX8_store_j40 a1 a2 a3 w1)
set_option maxRecDepth 20000 in
theorem tX8_store_j37 (a1 : Int32) (a2 : Int32) (a3 : Int32) (b0 : Int32) (w : xW) : xJ ιV mX8_store lC (0, 0) 37 [(0, .ref 6), (1, .int a1), (2, .int a2), (3, .int a3)] [.int b0, .ref 6] w (sX8_store_j37 a1 a2 a3 b0 w) := by
  unfold sX8_store_j37
  refine xj_cVv (argv := [.int b0]) (rest := []) dX8_store_37 (kX8_fail b0 w) mkX8_fail tw1550 rfl rfl rfl rfl rfl rfl (fun _ w1 => ?_)
  exact tX8_store_j40 _ _ _ _
set_option maxRecDepth 20000 in
def sX8_store (p1 : Int32) (p2 : Int32) (p3 : Int32) (w : xW) : Option (Unit × xW) :=
  xbd (sX8_isWithin p1 p2.toInt64 (65536 : Int32) (131072 : Int32) w) (fun x1 w2 => (if x1 = 0 then xbd (sX8_isWithin p1 p2.toInt64 (61440 : Int32) (135168 : Int32) w2) (fun x3 w4 => (if x3 = 0 then sX8_store_j37 p1 p2 p3 (6 : Int32) w4 else sX8_store_j37 p1 p2 p3 (5 : Int32) w4)) else sX8_store_j40 p1 p2 p3 w2))
set_option maxRecDepth 20000 in
theorem tX8_store (p1 : Int32) (p2 : Int32) (p3 : Int32) (w : xW) : xJ ιV mX8_store lC (0, 0) 0 [(0, .ref 6), (1, .int p1), (2, .int p2), (3, .int p3)] [] w (sX8_store p1 p2 p3 w) := by
  unfold sX8_store
  refine xj_iloadn 1 dX8_store_0 rfl rfl ?_
  refine xj_iloadn 2 dX8_store_1 rfl rfl ?_
  refine xj_i2l dX8_store_2 ?_
  refine xj_ldc (v := 65536) tw446 dX8_store_3 ?_
  refine xj_ldc (v := 131072) tw837 dX8_store_5 ?_
  refine xj_cSi (argv := [.int p1, .long p2.toInt64, .int (65536 : Int32), .int (131072 : Int32)]) (rest := []) dX8_store_7 (kX8_isWithin p1 p2.toInt64 (65536 : Int32) (131072 : Int32) w) mkX8_isWithin tw838 rfl rfl rfl rfl (fun x1 w2 => ?_)
  refine xj_ifne (tgt := 40) dX8_store_10 rfl ?_ ?_
  · refine xj_iloadn 1 dX8_store_13 rfl rfl ?_
    refine xj_iloadn 2 dX8_store_14 rfl rfl ?_
    refine xj_i2l dX8_store_15 ?_
    refine xj_ldc (v := 61440) tw1698 dX8_store_16 ?_
    refine xj_ldc (v := 135168) tw1699 dX8_store_18 ?_
    refine xj_cSi (argv := [.int p1, .long p2.toInt64, .int (61440 : Int32), .int (135168 : Int32)]) (rest := []) dX8_store_20 (kX8_isWithin p1 p2.toInt64 (61440 : Int32) (135168 : Int32) w2) mkX8_isWithin tw838 rfl rfl rfl rfl (fun x3 w4 => ?_)
    refine xj_istore (lv2 := [(4, .int x3), (0, .ref 6), (1, .int p1), (2, .int p2), (3, .int p3)]) dX8_store_23 (Nat.le_of_ble_eq_true rfl) rfl ?_
    refine xj_aloadn 1 dX8_store_25 rfl rfl ?_
    refine xj_iload 0 dX8_store_26 rfl ?_
    refine xj_ifeq (tgt := 35) dX8_store_28 rfl ?_ ?_
    · refine xj_bipush (v := 6) dX8_store_35 cb_6 ?_
      refine xj_sub (lv2 := [(0, .ref 6), (1, .int p1), (2, .int p2), (3, .int p3)]) [1, 2, 3, 4] rfl ?_
      exact tX8_store_j37 _ _ _ _ _
    · refine xj_iconst (v := 5) dX8_store_31 ci_5 ?_
      refine xj_goto (tgt := 37) dX8_store_32 rfl ?_
      refine xj_sub (lv2 := [(0, .ref 6), (1, .int p1), (2, .int p2), (3, .int p3)]) [1, 2, 3, 4] rfl ?_
      exact tX8_store_j37 _ _ _ _ _
  · exact tX8_store_j40 _ _ _ _
theorem kX8_store (p1 : Int32) (p2 : Int32) (p3 : Int32) (w : xW) : xMet jV mX8_store lC (0, 0) [.ref 6, .int p1, .int p2, .int p3] w (sX8_store p1 p2 p3 w) := xj_met lC_ok (by decide) (Nat.le_of_ble_eq_true rfl) (Nat.zero_le _) (Nat.zero_le _) (tX8_store p1 p2 p3 w)
set_option maxRecDepth 20000 in
def sX7_writeE (p1 : Int32) (w : xW) : Option (Unit × xW) :=
  (if (w.1 2 6) = 0 then xbd (sX7_setPart (w.1 2 7) (w.1 2 5) p1 w) (fun _ w1 => some ((), w1)) else xbd (sX8_store (w.1 8 14) (w.1 2 5) p1 w) (fun _ w2 => some ((), w2)))
set_option maxRecDepth 20000 in
theorem tX7_writeE (p1 : Int32) (w : xW) : xJ ιV mX7_writeE lC (0, 0) 0 [(0, .ref 8), (1, .int p1)] [] w (sX7_writeE p1 w) := by
  unfold sX7_writeE
  refine xj_aloadn 0 dX7_writeE_0 rfl rfl ?_
  refine gfX7_38 dX7_writeE_1 rfl ?_
  refine gfX7_211 (v := (w.1 2 6)) dX7_writeE_4 rfl rfl ?_
  refine xj_ifeq (tgt := 32) dX7_writeE_7 rfl ?_ ?_
  · refine xj_aloadn 0 dX7_writeE_32 rfl rfl ?_
    refine xj_aloadn 0 dX7_writeE_33 rfl rfl ?_
    refine gfX7_38 dX7_writeE_34 rfl ?_
    refine gfX7_218 (v := (w.1 2 7)) dX7_writeE_37 rfl rfl ?_
    refine xj_aloadn 0 dX7_writeE_40 rfl rfl ?_
    refine gfX7_38 dX7_writeE_41 rfl ?_
    refine gfX7_215 (v := (w.1 2 5)) dX7_writeE_44 rfl rfl ?_
    refine xj_iloadn 1 dX7_writeE_47 rfl rfl ?_
    refine xj_cVv (argv := [.int (w.1 2 7), .int (w.1 2 5), .int p1]) (rest := []) dX7_writeE_48 (kX7_setPart (w.1 2 7) (w.1 2 5) p1 w) mkX7_setPart tw1686 rfl rfl rfl rfl rfl rfl (fun _ w1 => ?_)
    exact xj_rv dX7_writeE_51 rfl
  · refine xj_aloadn 0 dX7_writeE_10 rfl rfl ?_
    refine gfX7_42 dX7_writeE_11 rfl ?_
    refine xj_aloadn 0 dX7_writeE_14 rfl rfl ?_
    refine gfX7_143 (v := (w.1 8 14)) dX7_writeE_15 rfl rfl ?_
    refine xj_aloadn 0 dX7_writeE_18 rfl rfl ?_
    refine gfX7_38 dX7_writeE_19 rfl ?_
    refine gfX7_215 (v := (w.1 2 5)) dX7_writeE_22 rfl rfl ?_
    refine xj_iloadn 1 dX7_writeE_25 rfl rfl ?_
    refine xj_cVv (argv := [.int (w.1 8 14), .int (w.1 2 5), .int p1]) (rest := []) dX7_writeE_26 (kX8_store (w.1 8 14) (w.1 2 5) p1 w) mkX8_store tw1694 rfl rfl rfl rfl rfl rfl (fun _ w2 => ?_)
    refine xj_goto (tgt := 51) dX7_writeE_29 rfl ?_
    exact xj_rv dX7_writeE_51 rfl
theorem kX7_writeE (p1 : Int32) (w : xW) : xMet jV mX7_writeE lC (0, 0) [.ref 8, .int p1] w (sX7_writeE p1 w) := xj_met lC_ok (by decide) (Nat.le_of_ble_eq_true rfl) (Nat.zero_le _) (Nat.zero_le _) (tX7_writeE p1 w)
set_option maxRecDepth 20000 in
def sX7_writeFirst (p1 : Int32) (w : xW) : Option (Unit × xW) :=
  xbd (sX6_startsWithG w) (fun x1 w2 => (if x1 = 0 then xbd (sX7_writeE p1 w2) (fun _ w3 => some ((), w3)) else xbd (sX7_writeG p1 w2) (fun _ w4 => some ((), w4))))
set_option maxRecDepth 20000 in
theorem tX7_writeFirst (p1 : Int32) (w : xW) : xJ ιV mX7_writeFirst lC (0, 0) 0 [(0, .ref 8), (1, .int p1)] [] w (sX7_writeFirst p1 w) := by
  unfold sX7_writeFirst
  refine xj_aloadn 0 dX7_writeFirst_0 rfl rfl ?_
  refine gfX7_38 dX7_writeFirst_1 rfl ?_
  refine xj_cVi (argv := []) (rest := []) dX7_writeFirst_4 (kX6_startsWithG w) mkX6_startsWithG tw1607 rfl rfl rfl rfl rfl rfl (fun x1 w2 => ?_)
  refine xj_ifeq (tgt := 18) dX7_writeFirst_7 rfl ?_ ?_
  · refine xj_aloadn 0 dX7_writeFirst_18 rfl rfl ?_
    refine xj_iloadn 1 dX7_writeFirst_19 rfl rfl ?_
    refine xj_cVv (argv := [.int p1]) (rest := []) dX7_writeFirst_20 (kX7_writeE p1 w2) mkX7_writeE tw1690 rfl rfl rfl rfl rfl rfl (fun _ w3 => ?_)
    exact xj_rv dX7_writeFirst_23 rfl
  · refine xj_aloadn 0 dX7_writeFirst_10 rfl rfl ?_
    refine xj_iloadn 1 dX7_writeFirst_11 rfl rfl ?_
    refine xj_cVv (argv := [.int p1]) (rest := []) dX7_writeFirst_12 (kX7_writeG p1 w2) mkX7_writeG tw1682 rfl rfl rfl rfl rfl rfl (fun _ w4 => ?_)
    refine xj_goto (tgt := 23) dX7_writeFirst_15 rfl ?_
    exact xj_rv dX7_writeFirst_23 rfl
theorem kX7_writeFirst (p1 : Int32) (w : xW) : xMet jV mX7_writeFirst lC (0, 0) [.ref 8, .int p1] w (sX7_writeFirst p1 w) := xj_met lC_ok (by decide) (Nat.le_of_ble_eq_true rfl) (Nat.zero_le _) (Nat.zero_le _) (tX7_writeFirst p1 w)
set_option maxRecDepth 20000 in
def sX7_doArithmetic_j21 (b0 : Int32) (w : xW) : Option (Unit × xW) :=
  xbd (sX7_readSecond w) (fun x1 w2 => xbd (sX2_two (w.1 2 0) b0 x1 (w2.1 2 4) w2) (fun x3 w4 => (if xin (w4.1 2 0) 54 then (if (opWr (w4.1 2 0)) = 0 then some ((), w4) else xbd (sX7_writeFirst x3 w4) (fun _ w5 => some ((), w5))) else none)))
set_option maxRecDepth 20000 in
theorem tX7_doArithmetic_j21 (b0 : Int32) (w : xW) : xJ ιV mX7_doArithmetic lC (0, 0) 21 [(0, .ref 8)] [.int b0] w (sX7_doArithmetic_j21 b0 w) := by
  unfold sX7_doArithmetic_j21
  refine xj_istoren (lv2 := [(1, .int b0), (0, .ref 8)]) dX7_doArithmetic_21 rfl (Nat.le_of_ble_eq_true rfl) rfl ?_
  refine xj_aloadn 1 dX7_doArithmetic_22 rfl rfl ?_
  refine gfX7_12 dX7_doArithmetic_23 rfl ?_
  refine xj_aloadn 1 dX7_doArithmetic_26 rfl rfl ?_
  refine gfX7_38 dX7_doArithmetic_27 rfl ?_
  refine gfX7_158 (v := (w.1 2 0)) dX7_doArithmetic_30 rfl rfl ?_
  refine xj_iloadn 0 dX7_doArithmetic_33 rfl rfl ?_
  refine xj_aloadn 1 dX7_doArithmetic_34 rfl rfl ?_
  refine xj_cVi (argv := []) (rest := [.int b0, .ref (2000 + (w.1 2 0).toNatClampNeg), .ref 9]) dX7_doArithmetic_35 (kX7_readSecond w) mkX7_readSecond tw1621 rfl rfl rfl rfl rfl rfl (fun x1 w2 => ?_)
  refine xj_aloadn 1 dX7_doArithmetic_38 rfl rfl ?_
  refine gfX7_38 dX7_doArithmetic_39 rfl ?_
  refine gfX7_173 (v := (w2.1 2 4)) dX7_doArithmetic_42 rfl rfl ?_
  refine xj_cVi (argv := [.ref (2000 + (w.1 2 0).toNatClampNeg), .int b0, .int x1, .int (w2.1 2 4)]) (rest := []) dX7_doArithmetic_45 (kX2_two (w.1 2 0) b0 x1 (w2.1 2 4) w2) mkX2_two tw1629 rfl rfl rfl rfl rfl rfl (fun x3 w4 => ?_)
  refine xj_istoren (lv2 := [(2, .int x3), (1, .int b0), (0, .ref 8)]) dX7_doArithmetic_48 rfl (Nat.le_of_ble_eq_true rfl) rfl ?_
  refine xj_aloadn 2 dX7_doArithmetic_49 rfl rfl ?_
  refine gfX7_38 dX7_doArithmetic_50 rfl ?_
  refine gfX7_158 (v := (w4.1 2 0)) dX7_doArithmetic_53 rfl rfl ?_
  refine xj_opwrites dX7_doArithmetic_56 tw2450 ?_
  refine xj_ifeq (tgt := 67) dX7_doArithmetic_59 rfl ?_ ?_
  · exact xj_rv dX7_doArithmetic_67 rfl
  · refine xj_aloadn 2 dX7_doArithmetic_62 rfl rfl ?_
    refine xj_iloadn 0 dX7_doArithmetic_63 rfl rfl ?_
    refine xj_cVv (argv := [.int x3]) (rest := []) dX7_doArithmetic_64 (kX7_writeFirst x3 w4) mkX7_writeFirst tw1678 rfl rfl rfl rfl rfl rfl (fun _ w5 => ?_)
    exact xj_rv dX7_doArithmetic_67 rfl
set_option maxRecDepth 20000 in
def sX7_doArithmetic (w : xW) : Option (Unit × xW) :=
  xbd (sX6_startsWithG w) (fun x1 w2 => (if x1 = 0 then xbd (sX7_readE w2) (fun x3 w4 => sX7_doArithmetic_j21 x3 w4) else xbd (sX7_readG w2) (fun x5 w6 => sX7_doArithmetic_j21 x5 w6)))
set_option maxRecDepth 20000 in
theorem tX7_doArithmetic (w : xW) : xJ ιV mX7_doArithmetic lC (0, 0) 0 [(0, .ref 8)] [] w (sX7_doArithmetic w) := by
  unfold sX7_doArithmetic
  refine xj_aloadn 0 dX7_doArithmetic_0 rfl rfl ?_
  refine gfX7_38 dX7_doArithmetic_1 rfl ?_
  refine xj_cVi (argv := []) (rest := []) dX7_doArithmetic_4 (kX6_startsWithG w) mkX6_startsWithG tw1607 rfl rfl rfl rfl rfl rfl (fun x1 w2 => ?_)
  refine xj_ifeq (tgt := 17) dX7_doArithmetic_7 rfl ?_ ?_
  · refine xj_aloadn 0 dX7_doArithmetic_17 rfl rfl ?_
    refine xj_cVi (argv := []) (rest := []) dX7_doArithmetic_18 (kX7_readE w2) mkX7_readE tw1617 rfl rfl rfl rfl rfl rfl (fun x3 w4 => ?_)
    exact tX7_doArithmetic_j21 _ _
  · refine xj_aloadn 0 dX7_doArithmetic_10 rfl rfl ?_
    refine xj_cVi (argv := []) (rest := []) dX7_doArithmetic_11 (kX7_readG w2) mkX7_readG tw1608 rfl rfl rfl rfl rfl rfl (fun x5 w6 => ?_)
    refine xj_goto (tgt := 21) dX7_doArithmetic_14 rfl ?_
    exact tX7_doArithmetic_j21 _ _
theorem kX7_doArithmetic (w : xW) : xMet jV mX7_doArithmetic lC (0, 0) [.ref 8] w (sX7_doArithmetic w) := xj_met lC_ok (by decide) (Nat.le_of_ble_eq_true rfl) (Nat.zero_le _) (Nat.zero_le _) (tX7_doArithmetic w)
set_option maxRecDepth 20000 in
def sX7_doShift_j27 (b0 : Int32) (w : xW) : Option (Unit × xW) :=
  xbd (sX7_readE w) (fun x1 w2 => (if (b0 &&& (31 : Int32)) = 0 then some ((), w2) else (if xin (w2.1 2 0) 54 then (if (opKd (w2.1 2 0)) = (2 : Int32) then xbd (sX2_shift (w2.1 2 0) x1 (b0 &&& (31 : Int32)) (w2.1 2 4) w2) (fun x8 w9 => xbd (sX7_writeE x8 w9) (fun _ w10 => some ((), w10))) else xbd (sX7_readG w2) (fun x3 w4 => xbd (sX2_shiftDouble (w2.1 2 0) x1 x3 (b0 &&& (31 : Int32)) w4) (fun x5 w6 => xbd (sX7_writeE x5 w6) (fun _ w7 => some ((), w7))))) else none)))
set_option maxRecDepth 20000 in
theorem tX7_doShift_j27 (b0 : Int32) (w : xW) : xJ ιV mX7_doShift lC (0, 0) 27 [(0, .ref 8)] [.int b0] w (sX7_doShift_j27 b0 w) := by
  unfold sX7_doShift_j27
  refine xj_bipush (v := 31) dX7_doShift_27 cb_31 ?_
  refine xj_iand dX7_doShift_29 ?_
  refine xj_istoren (lv2 := [(1, .int (b0 &&& (31 : Int32))), (0, .ref 8)]) dX7_doShift_30 rfl (Nat.le_of_ble_eq_true rfl) rfl ?_
  refine xj_aloadn 1 dX7_doShift_31 rfl rfl ?_
  refine xj_cVi (argv := []) (rest := []) dX7_doShift_32 (kX7_readE w) mkX7_readE tw1617 rfl rfl rfl rfl rfl rfl (fun x1 w2 => ?_)
  refine xj_istoren (lv2 := [(2, .int x1), (1, .int (b0 &&& (31 : Int32))), (0, .ref 8)]) dX7_doShift_35 rfl (Nat.le_of_ble_eq_true rfl) rfl ?_
  refine xj_iloadn 1 dX7_doShift_36 rfl rfl ?_
  refine xj_ifne (tgt := 41) dX7_doShift_37 rfl ?_ ?_
  · exact xj_rv dX7_doShift_40 rfl
  · refine xj_aloadn 2 dX7_doShift_41 rfl rfl ?_
    refine gfX7_38 dX7_doShift_42 rfl ?_
    refine gfX7_158 (v := (w2.1 2 0)) dX7_doShift_45 rfl rfl ?_
    refine xj_opkind dX7_doShift_48 tw2448 ?_
    refine xj_iconst (v := 2) dX7_doShift_51 ci_2 ?_
    refine xj_ine (tgt := 85) dX7_doShift_52 rfl ?_ ?_
    · refine xj_aloadn 2 dX7_doShift_55 rfl rfl ?_
      refine xj_aloadn 2 dX7_doShift_56 rfl rfl ?_
      refine gfX7_12 dX7_doShift_57 rfl ?_
      refine xj_aloadn 2 dX7_doShift_60 rfl rfl ?_
      refine gfX7_38 dX7_doShift_61 rfl ?_
      refine gfX7_158 (v := (w2.1 2 0)) dX7_doShift_64 rfl rfl ?_
      refine xj_iloadn 0 dX7_doShift_67 rfl rfl ?_
      refine xj_iloadn 1 dX7_doShift_68 rfl rfl ?_
      refine xj_aloadn 2 dX7_doShift_69 rfl rfl ?_
      refine gfX7_38 dX7_doShift_70 rfl ?_
      refine gfX7_173 (v := (w2.1 2 4)) dX7_doShift_73 rfl rfl ?_
      refine xj_cVi (argv := [.ref (2000 + (w2.1 2 0).toNatClampNeg), .int x1, .int (b0 &&& (31 : Int32)), .int (w2.1 2 4)]) (rest := [.ref 8]) dX7_doShift_76 (kX2_shift (w2.1 2 0) x1 (b0 &&& (31 : Int32)) (w2.1 2 4) w2) mkX2_shift tw1713 rfl rfl rfl rfl rfl rfl (fun x8 w9 => ?_)
      refine xj_cVv (argv := [.int x8]) (rest := []) dX7_doShift_79 (kX7_writeE x8 w9) mkX7_writeE tw1690 rfl rfl rfl rfl rfl rfl (fun _ w10 => ?_)
      refine xj_goto (tgt := 109) dX7_doShift_82 rfl ?_
      exact xj_rv dX7_doShift_109 rfl
    · refine xj_aloadn 2 dX7_doShift_85 rfl rfl ?_
      refine xj_aloadn 2 dX7_doShift_86 rfl rfl ?_
      refine gfX7_12 dX7_doShift_87 rfl ?_
      refine xj_aloadn 2 dX7_doShift_90 rfl rfl ?_
      refine gfX7_38 dX7_doShift_91 rfl ?_
      refine gfX7_158 (v := (w2.1 2 0)) dX7_doShift_94 rfl rfl ?_
      refine xj_iloadn 0 dX7_doShift_97 rfl rfl ?_
      refine xj_aloadn 2 dX7_doShift_98 rfl rfl ?_
      refine xj_cVi (argv := []) (rest := [.int x1, .ref (2000 + (w2.1 2 0).toNatClampNeg), .ref 9, .ref 8]) dX7_doShift_99 (kX7_readG w2) mkX7_readG tw1608 rfl rfl rfl rfl rfl rfl (fun x3 w4 => ?_)
      refine xj_iloadn 1 dX7_doShift_102 rfl rfl ?_
      refine xj_cVi (argv := [.ref (2000 + (w2.1 2 0).toNatClampNeg), .int x1, .int x3, .int (b0 &&& (31 : Int32))]) (rest := [.ref 8]) dX7_doShift_103 (kX2_shiftDouble (w2.1 2 0) x1 x3 (b0 &&& (31 : Int32)) w4) mkX2_shiftDouble tw1739 rfl rfl rfl rfl rfl rfl (fun x5 w6 => ?_)
      refine xj_cVv (argv := [.int x5]) (rest := []) dX7_doShift_106 (kX7_writeE x5 w6) mkX7_writeE tw1690 rfl rfl rfl rfl rfl rfl (fun _ w7 => ?_)
      exact xj_rv dX7_doShift_109 rfl
set_option maxRecDepth 20000 in
def sX7_doShift (w : xW) : Option (Unit × xW) :=
  (if (w.1 2 1) = (4 : Int32) then (if xin (1 : Int32) 8 then sX7_doShift_j27 (w.1 20 ((1 : Int32).toNatClampNeg)) w else none) else sX7_doShift_j27 (w.1 2 13) w)
set_option maxRecDepth 20000 in
theorem tX7_doShift (w : xW) : xJ ιV mX7_doShift lC (0, 0) 0 [(0, .ref 8)] [] w (sX7_doShift w) := by
  unfold sX7_doShift
  refine xj_aloadn 0 dX7_doShift_0 rfl rfl ?_
  refine gfX7_38 dX7_doShift_1 rfl ?_
  refine gfX7_234 (v := (w.1 2 1)) dX7_doShift_4 rfl rfl ?_
  refine xj_iconst (v := 4) dX7_doShift_7 ci_4 ?_
  refine xj_ine (tgt := 20) dX7_doShift_8 rfl ?_ ?_
  · refine xj_aloadn 0 dX7_doShift_11 rfl rfl ?_
    refine gfX7_18 dX7_doShift_12 rfl ?_
    refine xj_iconst (v := 1) dX7_doShift_15 ci_1 ?_
    refine xj_iald (k := 20) dX7_doShift_16 rfl ?_
    refine xj_goto (tgt := 27) dX7_doShift_17 rfl ?_
    exact tX7_doShift_j27 _ _
  · refine xj_aloadn 0 dX7_doShift_20 rfl rfl ?_
    refine gfX7_38 dX7_doShift_21 rfl ?_
    refine gfX7_237 (v := (w.1 2 13)) dX7_doShift_24 rfl rfl ?_
    exact tX7_doShift_j27 _ _
theorem kX7_doShift (w : xW) : xMet jV mX7_doShift lC (0, 0) [.ref 8] w (sX7_doShift w) := xj_met lC_ok (by decide) (Nat.le_of_ble_eq_true rfl) (Nat.zero_le _) (Nat.zero_le _) (tX7_doShift w)
set_option maxRecDepth 20000 in
def sX7_multiplyByte_j76 (a4 : Int32) (b0 : Int32) (w : xW) : Option (Unit × xW) :=
  xbd (sX2_tellResult (a4 &&& (255 : Int32)) (1 : Int32) w) (fun _ w1 => xbd (sX2_tellCarry b0 b0 w1) (fun _ w2 => xbd (sX7_setPart (0 : Int32) (2 : Int32) a4 w2) (fun _ w3 => some ((), w3))))
set_option maxRecDepth 20000 in
theorem tX7_multiplyByte_j76 (a4 : Int32) (b0 : Int32) (w : xW) : xJ ιV mX7_multiplyByte lC (0, 0) 76 [(0, .ref 8), (4, .int a4)] [.int b0] w (sX7_multiplyByte_j76 a4 b0 w) := by
  unfold sX7_multiplyByte_j76
  refine xj_istore (lv2 := [(5, .int b0), (0, .ref 8), (4, .int a4)]) dX7_multiplyByte_76 (Nat.le_of_ble_eq_true rfl) rfl ?_
  refine xj_aloadn 1 dX7_multiplyByte_78 rfl rfl ?_
  refine gfX7_12 dX7_multiplyByte_79 rfl ?_
  refine xj_iload 2 dX7_multiplyByte_82 rfl ?_
  refine xj_sipush (v := 255) dX7_multiplyByte_84 cs_255 ?_
  refine xj_iand dX7_multiplyByte_87 ?_
  refine xj_iconst (v := 1) dX7_multiplyByte_88 ci_1 ?_
  refine xj_cVv (argv := [.int (a4 &&& (255 : Int32)), .int (1 : Int32)]) (rest := []) dX7_multiplyByte_89 (kX2_tellResult (a4 &&& (255 : Int32)) (1 : Int32) w) mkX2_tellResult tw1749 rfl rfl rfl rfl rfl rfl (fun _ w1 => ?_)
  refine xj_aloadn 1 dX7_multiplyByte_92 rfl rfl ?_
  refine gfX7_12 dX7_multiplyByte_93 rfl ?_
  refine xj_iload 0 dX7_multiplyByte_96 rfl ?_
  refine xj_iload 0 dX7_multiplyByte_98 rfl ?_
  refine xj_cVv (argv := [.int b0, .int b0]) (rest := []) dX7_multiplyByte_100 (kX2_tellCarry b0 b0 w1) mkX2_tellCarry tw1750 rfl rfl rfl rfl rfl rfl (fun _ w2 => ?_)
  refine xj_aloadn 1 dX7_multiplyByte_103 rfl rfl ?_
  refine xj_iconst (v := 0) dX7_multiplyByte_104 ci_0 ?_
  refine xj_iconst (v := 2) dX7_multiplyByte_105 ci_2 ?_
  refine xj_iload 2 dX7_multiplyByte_106 rfl ?_
  refine xj_cVv (argv := [.int (0 : Int32), .int (2 : Int32), .int a4]) (rest := []) dX7_multiplyByte_108 (kX7_setPart (0 : Int32) (2 : Int32) a4 w2) mkX7_setPart tw1686 rfl rfl rfl rfl rfl rfl (fun _ w3 => ?_)
  exact xj_rv dX7_multiplyByte_111 rfl
set_option maxRecDepth 20000 in
def sX7_multiplyByte_j41 (a2 : Int32) (b0 : Int32) (w : xW) : Option (Unit × xW) :=
  (if a2 = 0 then (if (255 : Int32) < b0 then sX7_multiplyByte_j76 b0 (1 : Int32) w else sX7_multiplyByte_j76 b0 (0 : Int32) w) else (if b0 = b0.toInt8.toInt32 then sX7_multiplyByte_j76 b0 (0 : Int32) w else sX7_multiplyByte_j76 b0 (1 : Int32) w))
set_option maxRecDepth 20000 in
theorem tX7_multiplyByte_j41 (a2 : Int32) (b0 : Int32) (w : xW) : xJ ιV mX7_multiplyByte lC (0, 0) 41 [(0, .ref 8), (2, .int a2)] [.int b0] w (sX7_multiplyByte_j41 a2 b0 w) := by
  unfold sX7_multiplyByte_j41
  refine xj_istore (lv2 := [(4, .int b0), (0, .ref 8), (2, .int a2)]) dX7_multiplyByte_41 (Nat.le_of_ble_eq_true rfl) rfl ?_
  refine xj_iloadn 2 dX7_multiplyByte_43 rfl rfl ?_
  refine xj_ifeq (tgt := 63) dX7_multiplyByte_44 rfl ?_ ?_
  · refine xj_iload 0 dX7_multiplyByte_63 rfl ?_
    refine xj_sipush (v := 255) dX7_multiplyByte_65 cs_255 ?_
    refine xj_ile (tgt := 75) dX7_multiplyByte_68 rfl ?_ ?_
    · refine xj_iconst (v := 1) dX7_multiplyByte_71 ci_1 ?_
      refine xj_goto (tgt := 76) dX7_multiplyByte_72 rfl ?_
      refine xj_sub (lv2 := [(0, .ref 8), (4, .int b0)]) [1, 0] rfl ?_
      exact tX7_multiplyByte_j76 _ _ _
    · refine xj_iconst (v := 0) dX7_multiplyByte_75 ci_0 ?_
      refine xj_sub (lv2 := [(0, .ref 8), (4, .int b0)]) [1, 0] rfl ?_
      exact tX7_multiplyByte_j76 _ _ _
  · refine xj_iload 0 dX7_multiplyByte_47 rfl ?_
    refine xj_iload 0 dX7_multiplyByte_49 rfl ?_
    refine xj_i2b dX7_multiplyByte_51 ?_
    refine xj_ieq (tgt := 59) dX7_multiplyByte_52 rfl ?_ ?_
    · refine xj_iconst (v := 0) dX7_multiplyByte_59 ci_0 ?_
      refine xj_goto (tgt := 76) dX7_multiplyByte_60 rfl ?_
      refine xj_sub (lv2 := [(0, .ref 8), (4, .int b0)]) [1, 0] rfl ?_
      exact tX7_multiplyByte_j76 _ _ _
    · refine xj_iconst (v := 1) dX7_multiplyByte_55 ci_1 ?_
      refine xj_goto (tgt := 76) dX7_multiplyByte_56 rfl ?_
      refine xj_sub (lv2 := [(0, .ref 8), (4, .int b0)]) [1, 0] rfl ?_
      exact tX7_multiplyByte_j76 _ _ _
set_option maxRecDepth 20000 in
def sX7_multiplyByte_j18 (a1 : Int32) (b0 : Int32) (w : xW) : Option (Unit × xW) :=
  xbd (sX7_part (0 : Int32) (1 : Int32) w) (fun x1 w2 => (if b0 = 0 then sX7_multiplyByte_j41 b0 (x1 * a1) w2 else sX7_multiplyByte_j41 b0 (x1.toInt8.toInt32 * a1.toInt8.toInt32) w2))
set_option maxRecDepth 20000 in
theorem tX7_multiplyByte_j18 (a1 : Int32) (b0 : Int32) (w : xW) : xJ ιV mX7_multiplyByte lC (0, 0) 18 [(0, .ref 8), (1, .int a1)] [.int b0] w (sX7_multiplyByte_j18 a1 b0 w) := by
  unfold sX7_multiplyByte_j18
  refine xj_istoren (lv2 := [(2, .int b0), (0, .ref 8), (1, .int a1)]) dX7_multiplyByte_18 rfl (Nat.le_of_ble_eq_true rfl) rfl ?_
  refine xj_aloadn 1 dX7_multiplyByte_19 rfl rfl ?_
  refine xj_iconst (v := 0) dX7_multiplyByte_20 ci_0 ?_
  refine xj_iconst (v := 1) dX7_multiplyByte_21 ci_1 ?_
  refine xj_cVi (argv := [.int (0 : Int32), .int (1 : Int32)]) (rest := []) dX7_multiplyByte_22 (kX7_part (0 : Int32) (1 : Int32) w) mkX7_part tw1612 rfl rfl rfl rfl rfl rfl (fun x1 w2 => ?_)
  refine xj_istoren (lv2 := [(3, .int x1), (2, .int b0), (0, .ref 8), (1, .int a1)]) dX7_multiplyByte_25 rfl (Nat.le_of_ble_eq_true rfl) rfl ?_
  refine xj_iloadn 1 dX7_multiplyByte_26 rfl rfl ?_
  refine xj_ifeq (tgt := 38) dX7_multiplyByte_27 rfl ?_ ?_
  · refine xj_iloadn 0 dX7_multiplyByte_38 rfl rfl ?_
    refine xj_iloadn 3 dX7_multiplyByte_39 rfl rfl ?_
    refine xj_imul dX7_multiplyByte_40 ?_
    refine xj_sub (lv2 := [(0, .ref 8), (2, .int b0)]) [2, 1] rfl ?_
    exact tX7_multiplyByte_j41 _ _ _
  · refine xj_iloadn 0 dX7_multiplyByte_30 rfl rfl ?_
    refine xj_i2b dX7_multiplyByte_31 ?_
    refine xj_iloadn 3 dX7_multiplyByte_32 rfl rfl ?_
    refine xj_i2b dX7_multiplyByte_33 ?_
    refine xj_imul dX7_multiplyByte_34 ?_
    refine xj_goto (tgt := 41) dX7_multiplyByte_35 rfl ?_
    refine xj_sub (lv2 := [(0, .ref 8), (2, .int b0)]) [2, 1] rfl ?_
    exact tX7_multiplyByte_j41 _ _ _
set_option maxRecDepth 20000 in
def sX7_multiplyByte (p1 : Int32) (w : xW) : Option (Unit × xW) :=
  (if xin (w.1 2 0) 54 ∧ xin (24 : Int32) 54 then (if (w.1 2 0) = (24 : Int32) then sX7_multiplyByte_j18 p1 (1 : Int32) w else sX7_multiplyByte_j18 p1 (0 : Int32) w) else none)
set_option maxRecDepth 20000 in
theorem tX7_multiplyByte (p1 : Int32) (w : xW) : xJ ιV mX7_multiplyByte lC (0, 0) 0 [(0, .ref 8), (1, .int p1)] [] w (sX7_multiplyByte p1 w) := by
  unfold sX7_multiplyByte
  refine xj_aloadn 0 dX7_multiplyByte_0 rfl rfl ?_
  refine gfX7_38 dX7_multiplyByte_1 rfl ?_
  refine gfX7_158 (v := (w.1 2 0)) dX7_multiplyByte_4 rfl rfl ?_
  refine xj_gse (n := 24) 24 dX7_multiplyByte_7 (Nat.le_of_ble_eq_true rfl) rfl tw1755 ?_
  refine xj_guard (fun hq => ?_)
  refine xj_ane hq.1 hq.2 (tgt := 17) dX7_multiplyByte_10 rfl ?_ ?_
  · refine xj_iconst (v := 1) dX7_multiplyByte_13 ci_1 ?_
    refine xj_goto (tgt := 18) dX7_multiplyByte_14 rfl ?_
    exact tX7_multiplyByte_j18 _ _ _
  · refine xj_iconst (v := 0) dX7_multiplyByte_17 ci_0 ?_
    exact tX7_multiplyByte_j18 _ _ _
theorem kX7_multiplyByte (p1 : Int32) (w : xW) : xMet jV mX7_multiplyByte lC (0, 0) [.ref 8, .int p1] w (sX7_multiplyByte p1 w) := xj_met lC_ok (by decide) (Nat.le_of_ble_eq_true rfl) (Nat.zero_le _) (Nat.zero_le _) (tX7_multiplyByte p1 w)
set_option maxRecDepth 20000 in
def sX7_multiplyLong_j86 (a4 : Int64) (b0 : Int32) (w : xW) : Option (Unit × xW) :=
  xbd (sX2_tellResult a4.toInt32 (4 : Int32) w) (fun _ w1 => xbd (sX2_tellCarry b0 b0 w1) (fun _ w2 => (if xin (0 : Int32) 8 then (if xin (2 : Int32) 8 then some ((), (xwi (xwi w2 20 ((0 : Int32).toNatClampNeg) a4.toInt32) 20 ((2 : Int32).toNatClampNeg) ((xlushr a4 (32 : Int32)).toInt32))) else none) else none)))
set_option maxRecDepth 20000 in
theorem tX7_multiplyLong_j86 (a4 : Int64) (b0 : Int32) (w : xW) : xJ ιV mX7_multiplyLong lC (0, 0) 86 [(0, .ref 8), (4, .long a4)] [.int b0] w (sX7_multiplyLong_j86 a4 b0 w) := by
  unfold sX7_multiplyLong_j86
  refine xj_istore (lv2 := [(6, .int b0), (0, .ref 8), (4, .long a4)]) dX7_multiplyLong_86 (Nat.le_of_ble_eq_true rfl) rfl ?_
  refine xj_aloadn 1 dX7_multiplyLong_88 rfl rfl ?_
  refine gfX7_12 dX7_multiplyLong_89 rfl ?_
  refine xj_lload 2 dX7_multiplyLong_92 rfl ?_
  refine xj_l2i dX7_multiplyLong_94 ?_
  refine xj_iconst (v := 4) dX7_multiplyLong_95 ci_4 ?_
  refine xj_cVv (argv := [.int a4.toInt32, .int (4 : Int32)]) (rest := []) dX7_multiplyLong_96 (kX2_tellResult a4.toInt32 (4 : Int32) w) mkX2_tellResult tw1749 rfl rfl rfl rfl rfl rfl (fun _ w1 => ?_)
  refine xj_aloadn 1 dX7_multiplyLong_99 rfl rfl ?_
  refine gfX7_12 dX7_multiplyLong_100 rfl ?_
  refine xj_iload 0 dX7_multiplyLong_103 rfl ?_
  refine xj_iload 0 dX7_multiplyLong_105 rfl ?_
  refine xj_cVv (argv := [.int b0, .int b0]) (rest := []) dX7_multiplyLong_107 (kX2_tellCarry b0 b0 w1) mkX2_tellCarry tw1750 rfl rfl rfl rfl rfl rfl (fun _ w2 => ?_)
  refine xj_aloadn 1 dX7_multiplyLong_110 rfl rfl ?_
  refine gfX7_18 dX7_multiplyLong_111 rfl ?_
  refine xj_iconst (v := 0) dX7_multiplyLong_114 ci_0 ?_
  refine xj_lload 2 dX7_multiplyLong_115 rfl ?_
  refine xj_l2i dX7_multiplyLong_117 ?_
  refine xj_iast (k := 20) dX7_multiplyLong_118 rfl ?_
  refine xj_aloadn 1 dX7_multiplyLong_119 rfl rfl ?_
  refine gfX7_18 dX7_multiplyLong_120 rfl ?_
  refine xj_iconst (v := 2) dX7_multiplyLong_123 ci_2 ?_
  refine xj_lload 2 dX7_multiplyLong_124 rfl ?_
  refine xj_bipush (v := 32) dX7_multiplyLong_126 cb_32 ?_
  refine xj_lushr dX7_multiplyLong_128 ?_
  refine xj_l2i dX7_multiplyLong_129 ?_
  refine xj_iast (k := 20) dX7_multiplyLong_130 rfl ?_
  exact xj_rv dX7_multiplyLong_131 rfl
set_option maxRecDepth 20000 in
def sX7_multiplyLong_j47 (a2 : Int32) (b0 : Int64) (w : xW) : Option (Unit × xW) :=
  (if a2 = 0 then (if (xlushr b0 (32 : Int32)) = (0 : Int64) then sX7_multiplyLong_j86 b0 (0 : Int32) w else sX7_multiplyLong_j86 b0 (1 : Int32) w) else (if b0 = b0.toInt32.toInt64 then sX7_multiplyLong_j86 b0 (0 : Int32) w else sX7_multiplyLong_j86 b0 (1 : Int32) w))
set_option maxRecDepth 20000 in
theorem tX7_multiplyLong_j47 (a2 : Int32) (b0 : Int64) (w : xW) : xJ ιV mX7_multiplyLong lC (0, 0) 47 [(0, .ref 8), (2, .int a2)] [.long b0] w (sX7_multiplyLong_j47 a2 b0 w) := by
  unfold sX7_multiplyLong_j47
  refine xj_lstore (lv2 := [(4, .long b0), (0, .ref 8), (2, .int a2)]) dX7_multiplyLong_47 (Nat.le_of_ble_eq_true rfl) rfl ?_
  refine xj_iloadn 2 dX7_multiplyLong_49 rfl rfl ?_
  refine xj_ifeq (tgt := 71) dX7_multiplyLong_50 rfl ?_ ?_
  · refine xj_lload 0 dX7_multiplyLong_71 rfl ?_
    refine xj_bipush (v := 32) dX7_multiplyLong_73 cb_32 ?_
    refine xj_lushr dX7_multiplyLong_75 ?_
    refine xj_lconst (v := 0) dX7_multiplyLong_76 cl_0 ?_
    refine xj_leq (tgt := 85) dX7_multiplyLong_77 dX7_multiplyLong_78 rfl ?_ ?_
    · refine xj_iconst (v := 0) dX7_multiplyLong_85 ci_0 ?_
      refine xj_sub (lv2 := [(0, .ref 8), (4, .long b0)]) [1, 0] rfl ?_
      exact tX7_multiplyLong_j86 _ _ _
    · refine xj_iconst (v := 1) dX7_multiplyLong_81 ci_1 ?_
      refine xj_goto (tgt := 86) dX7_multiplyLong_82 rfl ?_
      refine xj_sub (lv2 := [(0, .ref 8), (4, .long b0)]) [1, 0] rfl ?_
      exact tX7_multiplyLong_j86 _ _ _
  · refine xj_lload 0 dX7_multiplyLong_53 rfl ?_
    refine xj_lload 0 dX7_multiplyLong_55 rfl ?_
    refine xj_l2i dX7_multiplyLong_57 ?_
    refine xj_i2l dX7_multiplyLong_58 ?_
    refine xj_leq (tgt := 67) dX7_multiplyLong_59 dX7_multiplyLong_60 rfl ?_ ?_
    · refine xj_iconst (v := 0) dX7_multiplyLong_67 ci_0 ?_
      refine xj_goto (tgt := 86) dX7_multiplyLong_68 rfl ?_
      refine xj_sub (lv2 := [(0, .ref 8), (4, .long b0)]) [1, 0] rfl ?_
      exact tX7_multiplyLong_j86 _ _ _
    · refine xj_iconst (v := 1) dX7_multiplyLong_63 ci_1 ?_
      refine xj_goto (tgt := 86) dX7_multiplyLong_64 rfl ?_
      refine xj_sub (lv2 := [(0, .ref 8), (4, .long b0)]) [1, 0] rfl ?_
      exact tX7_multiplyLong_j86 _ _ _
set_option maxRecDepth 20000 in
def sX7_multiplyLong_j18 (a1 : Int32) (b0 : Int32) (w : xW) : Option (Unit × xW) :=
  (if xin (0 : Int32) 8 then xlet (w.1 20 ((0 : Int32).toNatClampNeg)) (fun x1 => (if b0 = 0 then xbd (sX11_unsigned x1 w) (fun x2 w3 => xbd (sX11_unsigned a1 w3) (fun x4 w5 => sX7_multiplyLong_j47 b0 (x2 * x4) w5)) else sX7_multiplyLong_j47 b0 (x1.toInt64 * a1.toInt64) w)) else none)
set_option maxRecDepth 20000 in
theorem tX7_multiplyLong_j18 (a1 : Int32) (b0 : Int32) (w : xW) : xJ ιV mX7_multiplyLong lC (0, 0) 18 [(0, .ref 8), (1, .int a1)] [.int b0] w (sX7_multiplyLong_j18 a1 b0 w) := by
  unfold sX7_multiplyLong_j18
  refine xj_istoren (lv2 := [(2, .int b0), (0, .ref 8), (1, .int a1)]) dX7_multiplyLong_18 rfl (Nat.le_of_ble_eq_true rfl) rfl ?_
  refine xj_aloadn 1 dX7_multiplyLong_19 rfl rfl ?_
  refine gfX7_18 dX7_multiplyLong_20 rfl ?_
  refine xj_iconst (v := 0) dX7_multiplyLong_23 ci_0 ?_
  refine xj_iald (k := 20) dX7_multiplyLong_24 rfl ?_
  refine xj_leti (fun x1 => ?_)
  refine xj_istoren (lv2 := [(3, .int x1), (2, .int b0), (0, .ref 8), (1, .int a1)]) dX7_multiplyLong_25 rfl (Nat.le_of_ble_eq_true rfl) rfl ?_
  refine xj_iloadn 1 dX7_multiplyLong_26 rfl rfl ?_
  refine xj_ifeq (tgt := 38) dX7_multiplyLong_27 rfl ?_ ?_
  · refine xj_iloadn 0 dX7_multiplyLong_38 rfl rfl ?_
    refine xj_cSNl (argv := [.int x1]) (rest := []) dX7_multiplyLong_39 (kX11_unsigned x1 w) mkX11_unsigned tw1760 rfl rfl rfl rfl (fun x2 w3 => ?_)
    refine xj_iloadn 3 dX7_multiplyLong_42 rfl rfl ?_
    refine xj_cSNl (argv := [.int a1]) (rest := [.long x2]) dX7_multiplyLong_43 (kX11_unsigned a1 w3) mkX11_unsigned tw1760 rfl rfl rfl rfl (fun x4 w5 => ?_)
    refine xj_lmul dX7_multiplyLong_46 ?_
    refine xj_sub (lv2 := [(0, .ref 8), (2, .int b0)]) [2, 1] rfl ?_
    exact tX7_multiplyLong_j47 _ _ _
  · refine xj_iloadn 0 dX7_multiplyLong_30 rfl rfl ?_
    refine xj_i2l dX7_multiplyLong_31 ?_
    refine xj_iloadn 3 dX7_multiplyLong_32 rfl rfl ?_
    refine xj_i2l dX7_multiplyLong_33 ?_
    refine xj_lmul dX7_multiplyLong_34 ?_
    refine xj_goto (tgt := 47) dX7_multiplyLong_35 rfl ?_
    refine xj_sub (lv2 := [(0, .ref 8), (2, .int b0)]) [2, 1] rfl ?_
    exact tX7_multiplyLong_j47 _ _ _
set_option maxRecDepth 20000 in
def sX7_multiplyLong (p1 : Int32) (w : xW) : Option (Unit × xW) :=
  (if xin (w.1 2 0) 54 ∧ xin (24 : Int32) 54 then (if (w.1 2 0) = (24 : Int32) then sX7_multiplyLong_j18 p1 (1 : Int32) w else sX7_multiplyLong_j18 p1 (0 : Int32) w) else none)
set_option maxRecDepth 20000 in
theorem tX7_multiplyLong (p1 : Int32) (w : xW) : xJ ιV mX7_multiplyLong lC (0, 0) 0 [(0, .ref 8), (1, .int p1)] [] w (sX7_multiplyLong p1 w) := by
  unfold sX7_multiplyLong
  refine xj_aloadn 0 dX7_multiplyLong_0 rfl rfl ?_
  refine gfX7_38 dX7_multiplyLong_1 rfl ?_
  refine gfX7_158 (v := (w.1 2 0)) dX7_multiplyLong_4 rfl rfl ?_
  refine xj_gse (n := 24) 24 dX7_multiplyLong_7 (Nat.le_of_ble_eq_true rfl) rfl tw1755 ?_
  refine xj_guard (fun hq => ?_)
  refine xj_ane hq.1 hq.2 (tgt := 17) dX7_multiplyLong_10 rfl ?_ ?_
  · refine xj_iconst (v := 1) dX7_multiplyLong_13 ci_1 ?_
    refine xj_goto (tgt := 18) dX7_multiplyLong_14 rfl ?_
    exact tX7_multiplyLong_j18 _ _ _
  · refine xj_iconst (v := 0) dX7_multiplyLong_17 ci_0 ?_
    exact tX7_multiplyLong_j18 _ _ _
theorem kX7_multiplyLong (p1 : Int32) (w : xW) : xMet jV mX7_multiplyLong lC (0, 0) [.ref 8, .int p1] w (sX7_multiplyLong p1 w) := xj_met lC_ok (by decide) (Nat.le_of_ble_eq_true rfl) (Nat.zero_le _) (Nat.zero_le _) (tX7_multiplyLong p1 w)
set_option maxRecDepth 20000 in
def sX7_doProduct_j68 (a4 : Int64) (b0 : Int32) (w : xW) : Option (Unit × xW) :=
  xbd (sX2_tellResult a4.toInt32 (4 : Int32) w) (fun _ w1 => xbd (sX2_tellCarry b0 b0 w1) (fun _ w2 => xbd (sX7_writeG a4.toInt32 w2) (fun _ w3 => some ((), w3))))
set_option maxRecDepth 20000 in
theorem tX7_doProduct_j68 (a4 : Int64) (b0 : Int32) (w : xW) : xJ ιV mX7_doProduct lC (0, 0) 68 [(0, .ref 8), (4, .long a4)] [.int b0] w (sX7_doProduct_j68 a4 b0 w) := by
  unfold sX7_doProduct_j68
  refine xj_istore (lv2 := [(6, .int b0), (0, .ref 8), (4, .long a4)]) dX7_doProduct_68 (Nat.le_of_ble_eq_true rfl) rfl ?_
  refine xj_aloadn 1 dX7_doProduct_70 rfl rfl ?_
  refine gfX7_12 dX7_doProduct_71 rfl ?_
  refine xj_lload 2 dX7_doProduct_74 rfl ?_
  refine xj_l2i dX7_doProduct_76 ?_
  refine xj_iconst (v := 4) dX7_doProduct_77 ci_4 ?_
  refine xj_cVv (argv := [.int a4.toInt32, .int (4 : Int32)]) (rest := []) dX7_doProduct_78 (kX2_tellResult a4.toInt32 (4 : Int32) w) mkX2_tellResult tw1749 rfl rfl rfl rfl rfl rfl (fun _ w1 => ?_)
  refine xj_aloadn 1 dX7_doProduct_81 rfl rfl ?_
  refine gfX7_12 dX7_doProduct_82 rfl ?_
  refine xj_iload 0 dX7_doProduct_85 rfl ?_
  refine xj_iload 0 dX7_doProduct_87 rfl ?_
  refine xj_cVv (argv := [.int b0, .int b0]) (rest := []) dX7_doProduct_89 (kX2_tellCarry b0 b0 w1) mkX2_tellCarry tw1750 rfl rfl rfl rfl rfl rfl (fun _ w2 => ?_)
  refine xj_aloadn 1 dX7_doProduct_92 rfl rfl ?_
  refine xj_lload 2 dX7_doProduct_93 rfl ?_
  refine xj_l2i dX7_doProduct_95 ?_
  refine xj_cVv (argv := [.int a4.toInt32]) (rest := []) dX7_doProduct_96 (kX7_writeG a4.toInt32 w2) mkX7_writeG tw1682 rfl rfl rfl rfl rfl rfl (fun _ w3 => ?_)
  refine xj_goto (tgt := 126) dX7_doProduct_99 rfl ?_
  exact xj_rv dX7_doProduct_126 rfl
set_option maxRecDepth 20000 in
def sX7_doProduct_j46 (a1 : Int32) (b0 : Int64) (w : xW) : Option (Unit × xW) :=
  (if (a1.toInt64 * b0) = ((a1.toInt64 * b0).toInt32).toInt64 then sX7_doProduct_j68 (a1.toInt64 * b0) (0 : Int32) w else sX7_doProduct_j68 (a1.toInt64 * b0) (1 : Int32) w)
set_option maxRecDepth 20000 in
theorem tX7_doProduct_j46 (a1 : Int32) (b0 : Int64) (w : xW) : xJ ιV mX7_doProduct lC (0, 0) 46 [(0, .ref 8), (1, .int a1)] [.long b0] w (sX7_doProduct_j46 a1 b0 w) := by
  unfold sX7_doProduct_j46
  refine xj_lstoren (lv2 := [(2, .long b0), (0, .ref 8), (1, .int a1)]) dX7_doProduct_46 rfl (Nat.le_of_ble_eq_true rfl) rfl ?_
  refine xj_iloadn 2 dX7_doProduct_47 rfl rfl ?_
  refine xj_i2l dX7_doProduct_48 ?_
  refine xj_lloadn 0 dX7_doProduct_49 rfl rfl ?_
  refine xj_lmul dX7_doProduct_50 ?_
  refine xj_lstore (lv2 := [(4, .long (a1.toInt64 * b0)), (2, .long b0), (0, .ref 8), (1, .int a1)]) dX7_doProduct_51 (Nat.le_of_ble_eq_true rfl) rfl ?_
  refine xj_lload 0 dX7_doProduct_53 rfl ?_
  refine xj_lload 0 dX7_doProduct_55 rfl ?_
  refine xj_l2i dX7_doProduct_57 ?_
  refine xj_i2l dX7_doProduct_58 ?_
  refine xj_leq (tgt := 67) dX7_doProduct_59 dX7_doProduct_60 rfl ?_ ?_
  · refine xj_iconst (v := 0) dX7_doProduct_67 ci_0 ?_
    refine xj_sub (lv2 := [(0, .ref 8), (4, .long (a1.toInt64 * b0))]) [2, 0] rfl ?_
    exact tX7_doProduct_j68 _ _ _
  · refine xj_iconst (v := 1) dX7_doProduct_63 ci_1 ?_
    refine xj_goto (tgt := 68) dX7_doProduct_64 rfl ?_
    refine xj_sub (lv2 := [(0, .ref 8), (4, .long (a1.toInt64 * b0))]) [2, 0] rfl ?_
    exact tX7_doProduct_j68 _ _ _
set_option maxRecDepth 20000 in
def sX7_doProduct (w : xW) : Option (Unit × xW) :=
  xbd (sX7_readE w) (fun x1 w2 => (if xin (w2.1 2 0) 54 ∧ xin (25 : Int32) 54 then (if (w2.1 2 0) = (25 : Int32) then (if (w2.1 2 1) = (7 : Int32) then sX7_doProduct_j46 x1 ((w2.1 2 13).toInt64) w2 else xbd (sX7_readG w2) (fun x5 w6 => sX7_doProduct_j46 x1 x5.toInt64 w6)) else (if (w2.1 2 4) = (1 : Int32) then xbd (sX7_multiplyByte x1 w2) (fun _ w4 => some ((), w4)) else xbd (sX7_multiplyLong x1 w2) (fun _ w3 => some ((), w3)))) else none))
set_option maxRecDepth 20000 in
theorem tX7_doProduct (w : xW) : xJ ιV mX7_doProduct lC (0, 0) 0 [(0, .ref 8)] [] w (sX7_doProduct w) := by
  unfold sX7_doProduct
  refine xj_aloadn 0 dX7_doProduct_0 rfl rfl ?_
  refine xj_cVi (argv := []) (rest := []) dX7_doProduct_1 (kX7_readE w) mkX7_readE tw1617 rfl rfl rfl rfl rfl rfl (fun x1 w2 => ?_)
  refine xj_istoren (lv2 := [(1, .int x1), (0, .ref 8)]) dX7_doProduct_4 rfl (Nat.le_of_ble_eq_true rfl) rfl ?_
  refine xj_aloadn 1 dX7_doProduct_5 rfl rfl ?_
  refine gfX7_38 dX7_doProduct_6 rfl ?_
  refine gfX7_158 (v := (w2.1 2 0)) dX7_doProduct_9 rfl rfl ?_
  refine xj_gse (n := 25) 25 dX7_doProduct_12 (Nat.le_of_ble_eq_true rfl) rfl tw1748 ?_
  refine xj_guard (fun hq => ?_)
  refine xj_ane hq.1 hq.2 (tgt := 102) dX7_doProduct_15 rfl ?_ ?_
  · refine xj_aloadn 1 dX7_doProduct_18 rfl rfl ?_
    refine gfX7_38 dX7_doProduct_19 rfl ?_
    refine gfX7_234 (v := (w2.1 2 1)) dX7_doProduct_22 rfl rfl ?_
    refine xj_bipush (v := 7) dX7_doProduct_25 cb_7 ?_
    refine xj_ine (tgt := 41) dX7_doProduct_27 rfl ?_ ?_
    · refine xj_aloadn 1 dX7_doProduct_30 rfl rfl ?_
      refine gfX7_38 dX7_doProduct_31 rfl ?_
      refine gfX7_237 (v := (w2.1 2 13)) dX7_doProduct_34 rfl rfl ?_
      refine xj_i2l dX7_doProduct_37 ?_
      refine xj_goto (tgt := 46) dX7_doProduct_38 rfl ?_
      refine xj_sub (lv2 := [(0, .ref 8), (1, .int x1)]) [1, 0] rfl ?_
      exact tX7_doProduct_j46 _ _ _
    · refine xj_aloadn 1 dX7_doProduct_41 rfl rfl ?_
      refine xj_cVi (argv := []) (rest := []) dX7_doProduct_42 (kX7_readG w2) mkX7_readG tw1608 rfl rfl rfl rfl rfl rfl (fun x5 w6 => ?_)
      refine xj_i2l dX7_doProduct_45 ?_
      refine xj_sub (lv2 := [(0, .ref 8), (1, .int x1)]) [1, 0] rfl ?_
      exact tX7_doProduct_j46 _ _ _
  · refine xj_aloadn 1 dX7_doProduct_102 rfl rfl ?_
    refine gfX7_38 dX7_doProduct_103 rfl ?_
    refine gfX7_173 (v := (w2.1 2 4)) dX7_doProduct_106 rfl rfl ?_
    refine xj_iconst (v := 1) dX7_doProduct_109 ci_1 ?_
    refine xj_ine (tgt := 121) dX7_doProduct_110 rfl ?_ ?_
    · refine xj_aloadn 1 dX7_doProduct_113 rfl rfl ?_
      refine xj_iloadn 0 dX7_doProduct_114 rfl rfl ?_
      refine xj_cVv (argv := [.int x1]) (rest := []) dX7_doProduct_115 (kX7_multiplyByte x1 w2) mkX7_multiplyByte tw1751 rfl rfl rfl rfl rfl rfl (fun _ w4 => ?_)
      refine xj_goto (tgt := 126) dX7_doProduct_118 rfl ?_
      exact xj_rv dX7_doProduct_126 rfl
    · refine xj_aloadn 1 dX7_doProduct_121 rfl rfl ?_
      refine xj_iloadn 0 dX7_doProduct_122 rfl rfl ?_
      refine xj_cVv (argv := [.int x1]) (rest := []) dX7_doProduct_123 (kX7_multiplyLong x1 w2) mkX7_multiplyLong tw1756 rfl rfl rfl rfl rfl rfl (fun _ w3 => ?_)
      exact xj_rv dX7_doProduct_126 rfl
theorem kX7_doProduct (w : xW) : xMet jV mX7_doProduct lC (0, 0) [.ref 8] w (sX7_doProduct w) := xj_met lC_ok (by decide) (Nat.le_of_ble_eq_true rfl) (Nat.zero_le _) (Nat.zero_le _) (tX7_doProduct w)
