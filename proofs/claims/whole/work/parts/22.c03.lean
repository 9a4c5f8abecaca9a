/-! the class, method by method: 3 -/
set_option maxRecDepth 20000 in
def sX3_restart (w : xW) : Option (Unit × xW) :=
  some ((), (xwi (xwi (xwi w 7 4 (0 : Int32)) 7 6 (65536 : Int32)) 7 7 (0 : Int32)))
set_option maxRecDepth 20000 in
theorem tX3_restart (w : xW) : xJ ιV mX3_restart lC (0, 0) 0 [(0, .ref 7)] [] w (sX3_restart w) := by
  unfold sX3_restart
  refine xj_aloadn 0 dX3_restart_0 rfl rfl ?_
  refine xj_iconst (v := 0) dX3_restart_1 ci_0 ?_
  refine pfX3_27 dX3_restart_2 rfl ?_
  refine xj_aloadn 0 dX3_restart_5 rfl rfl ?_
  refine xj_ldc (v := 65536) tw464 dX3_restart_6 ?_
  refine pfX3_19 dX3_restart_8 rfl ?_
  refine xj_aloadn 0 dX3_restart_11 rfl rfl ?_
  refine xj_iconst (v := 0) dX3_restart_12 ci_0 ?_
  refine pfX3_30 dX3_restart_13 rfl ?_
  exact xj_rv dX3_restart_16 rfl
theorem kX3_restart (w : xW) : xMet jV mX3_restart lC (0, 0) [.ref 7] w (sX3_restart w) := xj_met lC_ok (by decide) (Nat.le_of_ble_eq_true rfl) (Nat.zero_le _) (Nat.zero_le _) (tX3_restart w)
set_option maxRecDepth 20000 in
def sX3_outputAt (p1 : Int32) (w : xW) : Option (Int32 × xW) :=
  (if p1 < 0 then some ((-1 : Int32), w) else (if p1 < (w.1 7 4) then (if p1 < (1024 : Int32) then (if xin p1 1024 then some (((w.1 18 p1.toNatClampNeg) &&& (255 : Int32)), w) else none) else some ((-1 : Int32), w)) else some ((-1 : Int32), w)))
set_option maxRecDepth 20000 in
theorem tX3_outputAt (p1 : Int32) (w : xW) : xJ ιI mX3_outputAt lC (0, 0) 0 [(0, .ref 7), (1, .int p1)] [] w (sX3_outputAt p1 w) := by
  unfold sX3_outputAt
  refine xj_iloadn 1 dX3_outputAt_0 rfl rfl ?_
  refine xj_iflt (tgt := 32) dX3_outputAt_1 rfl ?_ ?_
  · refine xj_iconst (v := -1) dX3_outputAt_32 ci_m1 ?_
    exact xj_ri dX3_outputAt_33 rfl
  · refine xj_iloadn 1 dX3_outputAt_4 rfl rfl ?_
    refine xj_aloadn 0 dX3_outputAt_5 rfl rfl ?_
    refine gfX3_27 (v := (w.1 7 4)) dX3_outputAt_6 rfl rfl ?_
    refine xj_ige (tgt := 32) dX3_outputAt_9 rfl ?_ ?_
    · refine xj_iloadn 1 dX3_outputAt_12 rfl rfl ?_
      refine xj_sipush (v := 1024) dX3_outputAt_13 cs_1024 ?_
      refine xj_ige (tgt := 32) dX3_outputAt_16 rfl ?_ ?_
      · refine xj_aloadn 0 dX3_outputAt_19 rfl rfl ?_
        refine gfX3_11 dX3_outputAt_20 rfl ?_
        refine xj_iloadn 1 dX3_outputAt_23 rfl rfl ?_
        refine xj_bald (k := 18) dX3_outputAt_24 rfl ?_
        refine xj_sipush (v := 255) dX3_outputAt_25 cs_255 ?_
        refine xj_iand dX3_outputAt_28 ?_
        refine xj_goto (tgt := 33) dX3_outputAt_29 rfl ?_
        exact xj_ri dX3_outputAt_33 rfl
      · refine xj_iconst (v := -1) dX3_outputAt_32 ci_m1 ?_
        exact xj_ri dX3_outputAt_33 rfl
    · refine xj_iconst (v := -1) dX3_outputAt_32 ci_m1 ?_
      exact xj_ri dX3_outputAt_33 rfl
theorem kX3_outputAt (p1 : Int32) (w : xW) : xMet jI mX3_outputAt lC (0, 0) [.ref 7, .int p1] w (sX3_outputAt p1 w) := xj_met lC_ok (by decide) (Nat.le_of_ble_eq_true rfl) (Nat.zero_le _) (Nat.zero_le _) (tX3_outputAt p1 w)
set_option maxRecDepth 20000 in
def sX3_take_l3 : Nat → Int32 → Int64 → Int32 → xW → Option (Unit × xW)
  | 0, _, _, _, _ => none
  | n + 1, a1, a2, a4, w =>
  (if a4 < a1 then (if (w.1 7 5) < (256 : Int32) then (if xin (((w.1 7 3) + (w.1 7 5)) &&& (255 : Int32)) 256 then (sX3_take_l3 n) a1 a2 (a4 + (1 : Int32)) (xwi (xwi w 19 ((((w.1 7 3) + (w.1 7 5)) &&& (255 : Int32)).toNatClampNeg) ((((xlushr a2 ((8 : Int32) * a4)).toInt32).toInt8.toInt32).toInt8.toInt32)) 7 5 ((w.1 7 5) + (1 : Int32))) else none) else some ((), w)) else some ((), w))
set_option maxRecDepth 20000 in
theorem tX3_take_l3 : ∀ (n : Nat) (a1 : Int32) (a2 : Int64) (a4 : Int32) (w : xW), xJ ιV mX3_take lC (0, 0) 3 [(0, .ref 7), (1, .int a1), (2, .long a2), (4, .int a4)] [] w (sX3_take_l3 n a1 a2 a4 w) := by
  intro n
  induction n with
  | zero => intros; exact xj_none
  | succ n ih =>
    intro a1 a2 a4 w
    rw [sX3_take_l3]
    refine xj_iload 3 dX3_take_3 rfl ?_
    refine xj_iloadn 1 dX3_take_5 rfl rfl ?_
    refine xj_ige (tgt := 62) dX3_take_6 rfl ?_ ?_
    · refine xj_aloadn 0 dX3_take_9 rfl rfl ?_
      refine gfX3_33 (v := (w.1 7 5)) dX3_take_10 rfl rfl ?_
      refine xj_sipush (v := 256) dX3_take_13 cs_256 ?_
      refine xj_ige (tgt := 62) dX3_take_16 rfl ?_ ?_
      · refine xj_aloadn 0 dX3_take_19 rfl rfl ?_
        refine gfX3_15 dX3_take_20 rfl ?_
        refine xj_aloadn 0 dX3_take_23 rfl rfl ?_
        refine gfX3_36 (v := (w.1 7 3)) dX3_take_24 rfl rfl ?_
        refine xj_aloadn 0 dX3_take_27 rfl rfl ?_
        refine gfX3_33 (v := (w.1 7 5)) dX3_take_28 rfl rfl ?_
        refine xj_iadd dX3_take_31 ?_
        refine xj_sipush (v := 255) dX3_take_32 cs_255 ?_
        refine xj_iand dX3_take_35 ?_
        refine xj_lloadn 2 dX3_take_36 rfl rfl ?_
        refine xj_bipush (v := 8) dX3_take_37 cb_8 ?_
        refine xj_iload 3 dX3_take_39 rfl ?_
        refine xj_imul dX3_take_41 ?_
        refine xj_lushr dX3_take_42 ?_
        refine xj_l2i dX3_take_43 ?_
        refine xj_i2b dX3_take_44 ?_
        refine xj_bast (k := 19) dX3_take_45 rfl ?_
        refine xj_aloadn 0 dX3_take_46 rfl rfl ?_
        refine xj_dup dX3_take_47 rfl ?_
        refine gfX3_33 (v := (w.1 7 5)) dX3_take_48 rfl rfl ?_
        refine xj_iconst (v := 1) dX3_take_51 ci_1 ?_
        refine xj_iadd dX3_take_52 ?_
        refine pfX3_33 dX3_take_53 rfl ?_
        refine xj_iinc (n := 3) (lv2 := [(4, .int (a4 + (1 : Int32))), (0, .ref 7), (1, .int a1), (2, .long a2)]) dX3_take_56 rfl ci_1 (Nat.le_of_ble_eq_true rfl) rfl ?_
        refine xj_goto (tgt := 3) dX3_take_59 rfl ?_
        refine xj_sub (lv2 := [(0, .ref 7), (1, .int a1), (2, .long a2), (4, .int (a4 + (1 : Int32)))]) [1, 2, 3, 0] rfl ?_
        exact ih _ _ _ _
      · exact xj_rv dX3_take_62 rfl
    · exact xj_rv dX3_take_62 rfl
set_option maxRecDepth 20000 in
def sX3_take (p1 : Int32) (p2 : Int64) (w : xW) : Option (Unit × xW) :=
  sX3_take_l3 70000 p1 p2 (0 : Int32) w
set_option maxRecDepth 20000 in
theorem tX3_take (p1 : Int32) (p2 : Int64) (w : xW) : xJ ιV mX3_take lC (0, 0) 0 [(0, .ref 7), (1, .int p1), (2, .long p2)] [] w (sX3_take p1 p2 w) := by
  unfold sX3_take
  refine xj_iconst (v := 0) dX3_take_0 ci_0 ?_
  refine xj_istore (lv2 := [(4, .int (0 : Int32)), (0, .ref 7), (1, .int p1), (2, .long p2)]) dX3_take_1 (Nat.le_of_ble_eq_true rfl) rfl ?_
  refine xj_sub (lv2 := [(0, .ref 7), (1, .int p1), (2, .long p2), (4, .int (0 : Int32))]) [1, 2, 3, 0] rfl ?_
  exact tX3_take_l3 _ _ _ _ _
theorem kX3_take (p1 : Int32) (p2 : Int64) (w : xW) : xMet jV mX3_take lC (0, 0) [.ref 7, .int p1, .long p2] w (sX3_take p1 p2 w) := xj_met lC_ok (by decide) (Nat.le_of_ble_eq_true rfl) (Nat.zero_le _) (Nat.zero_le _) (tX3_take p1 p2 w)
set_option maxRecDepth 20000 in
def sX8_isWithin (p0 : Int32) (p1 : Int64) (p3 : Int32) (p4 : Int32) (w : xW) : Option (Int32 × xW) :=
  xlet (p0.toInt64 &&& (4294967295 : Int64)) (fun x1 => (if x1 < p3.toInt64 then some ((0 : Int32), w) else (if p4.toInt64 < (x1 + p1) then some ((0 : Int32), w) else some ((1 : Int32), w))))
set_option maxRecDepth 20000 in
theorem tX8_isWithin (p0 : Int32) (p1 : Int64) (p3 : Int32) (p4 : Int32) (w : xW) : xJ ιI mX8_isWithin lC (0, 0) 0 [(0, .int p0), (1, .long p1), (3, .int p3), (4, .int p4)] [] w (sX8_isWithin p0 p1 p3 p4 w) := by
  unfold sX8_isWithin
  refine xj_iloadn 0 dX8_isWithin_0 rfl rfl ?_
  refine xj_i2l dX8_isWithin_1 ?_
  refine xj_ldc2 (v := 4294967295) tw841 dX8_isWithin_2 ?_
  refine xj_land dX8_isWithin_5 ?_
  refine xj_letl (fun x1 => ?_)
  refine xj_lstore (lv2 := [(5, .long x1), (0, .int p0), (1, .long p1), (3, .int p3), (4, .int p4)]) dX8_isWithin_6 (Nat.le_of_ble_eq_true rfl) rfl ?_
  refine xj_lload 0 dX8_isWithin_8 rfl ?_
  refine xj_iloadn 3 dX8_isWithin_10 rfl rfl ?_
  refine xj_i2l dX8_isWithin_11 ?_
  refine xj_llt (tgt := 31) dX8_isWithin_12 dX8_isWithin_13 rfl ?_ ?_
  · refine xj_iconst (v := 0) dX8_isWithin_31 ci_0 ?_
    exact xj_rz dX8_isWithin_32 rfl (Or.inl rfl)
  · refine xj_lload 0 dX8_isWithin_16 rfl ?_
    refine xj_lloadn 2 dX8_isWithin_18 rfl rfl ?_
    refine xj_ladd dX8_isWithin_19 ?_
    refine xj_iload 4 dX8_isWithin_20 rfl ?_
    refine xj_i2l dX8_isWithin_22 ?_
    refine xj_lgt (tgt := 31) dX8_isWithin_23 dX8_isWithin_24 rfl ?_ ?_
    · refine xj_iconst (v := 0) dX8_isWithin_31 ci_0 ?_
      exact xj_rz dX8_isWithin_32 rfl (Or.inl rfl)
    · refine xj_iconst (v := 1) dX8_isWithin_27 ci_1 ?_
      refine xj_goto (tgt := 32) dX8_isWithin_28 rfl ?_
      exact xj_rz dX8_isWithin_32 rfl (Or.inr rfl)
theorem kX8_isWithin (p0 : Int32) (p1 : Int64) (p3 : Int32) (p4 : Int32) (w : xW) : xMet jI mX8_isWithin lC (0, 0) [.int p0, .long p1, .int p3, .int p4] w (sX8_isWithin p0 p1 p3 p4 w) := xj_met lC_ok (by decide) (Nat.le_of_ble_eq_true rfl) (Nat.zero_le _) (Nat.zero_le _) (tX8_isWithin p0 p1 p3 p4 w)
set_option maxRecDepth 20000 in
def sX8_inData (p0 : Int32) (p1 : Int64) (w : xW) : Option (Int32 × xW) :=
  xbd (sX8_isWithin p0 p1 (65536 : Int32) (131072 : Int32) w) (fun x1 w2 => (if xz x1 then some (x1, w2) else none))
set_option maxRecDepth 20000 in
theorem tX8_inData (p0 : Int32) (p1 : Int64) (w : xW) : xJ ιI mX8_inData lC (0, 0) 0 [(0, .int p0), (1, .long p1)] [] w (sX8_inData p0 p1 w) := by
  unfold sX8_inData
  refine xj_iloadn 0 dX8_inData_0 rfl rfl ?_
  refine xj_lloadn 1 dX8_inData_1 rfl rfl ?_
  refine xj_ldc (v := 65536) tw446 dX8_inData_2 ?_
  refine xj_ldc (v := 131072) tw837 dX8_inData_4 ?_
  refine xj_cSi (argv := [.int p0, .long p1, .int (65536 : Int32), .int (131072 : Int32)]) (rest := []) dX8_inData_6 (kX8_isWithin p0 p1 (65536 : Int32) (131072 : Int32) w) mkX8_isWithin tw838 rfl rfl rfl rfl (fun x1 w2 => ?_)
  exact xj_guard (fun h => xj_rz dX8_inData_9 rfl h)
theorem kX8_inData (p0 : Int32) (p1 : Int64) (w : xW) : xMet jI mX8_inData lC (0, 0) [.int p0, .long p1] w (sX8_inData p0 p1 w) := xj_met lC_ok (by decide) (Nat.le_of_ble_eq_true rfl) (Nat.zero_le _) (Nat.zero_le _) (tX8_inData p0 p1 w)
set_option maxRecDepth 20000 in
def sX8_dataAt (p1 : Int32) (w : xW) : Option (Int32 × xW) :=
  (if xin (p1 &&& (65535 : Int32)) 65536 then some (((w.1 17 ((p1 &&& (65535 : Int32)).toNatClampNeg)) &&& (255 : Int32)), w) else none)
set_option maxRecDepth 20000 in
theorem tX8_dataAt (p1 : Int32) (w : xW) : xJ ιI mX8_dataAt lC (0, 0) 0 [(0, .ref 6), (1, .int p1)] [] w (sX8_dataAt p1 w) := by
  unfold sX8_dataAt
  refine xj_aloadn 0 dX8_dataAt_0 rfl rfl ?_
  refine gfX8_12 dX8_dataAt_1 rfl ?_
  refine xj_iloadn 1 dX8_dataAt_4 rfl rfl ?_
  refine xj_ldc (v := 65535) tw1438 dX8_dataAt_5 ?_
  refine xj_iand dX8_dataAt_7 ?_
  refine xj_bald (k := 17) dX8_dataAt_8 rfl ?_
  refine xj_sipush (v := 255) dX8_dataAt_9 cs_255 ?_
  refine xj_iand dX8_dataAt_12 ?_
  exact xj_ri dX8_dataAt_13 rfl
theorem kX8_dataAt (p1 : Int32) (w : xW) : xMet jI mX8_dataAt lC (0, 0) [.ref 6, .int p1] w (sX8_dataAt p1 w) := xj_met lC_ok (by decide) (Nat.le_of_ble_eq_true rfl) (Nat.zero_le _) (Nat.zero_le _) (tX8_dataAt p1 w)
set_option maxRecDepth 20000 in
def sX3_writeOut_l16 : Nat → Int32 → Int32 → Int32 → xW → Option (Int32 × xW)
  | 0, _, _, _, _ => none
  | n + 1, a1, a3, a4, w =>
  (if a4 < a3 then (if (w.1 7 4) < (1024 : Int32) then xbd (sX8_dataAt (a1 + a4) w) (fun x1 w2 => (if xin (w.1 7 4) 1024 then (sX3_writeOut_l16 n) a1 a3 (a4 + (1 : Int32)) (xwi (xwi w2 18 ((w.1 7 4).toNatClampNeg) x1.toInt8.toInt32.toInt8.toInt32) 7 4 ((w2.1 7 4) + (1 : Int32))) else none)) else some (a3, w)) else some (a3, w))
set_option maxRecDepth 20000 in
theorem tX3_writeOut_l16 : ∀ (n : Nat) (a1 : Int32) (a3 : Int32) (a4 : Int32) (w : xW), xJ ιI mX3_writeOut lC (0, 0) 16 [(0, .ref 7), (1, .int a1), (3, .int a3), (4, .int a4)] [] w (sX3_writeOut_l16 n a1 a3 a4 w) := by
  intro n
  induction n with
  | zero => intros; exact xj_none
  | succ n ih =>
    intro a1 a3 a4 w
    rw [sX3_writeOut_l16]
    refine xj_iload 3 dX3_writeOut_16 rfl ?_
    refine xj_iloadn 2 dX3_writeOut_18 rfl rfl ?_
    refine xj_ige (tgt := 69) dX3_writeOut_19 rfl ?_ ?_
    · refine xj_aloadn 0 dX3_writeOut_22 rfl rfl ?_
      refine gfX3_27 (v := (w.1 7 4)) dX3_writeOut_23 rfl rfl ?_
      refine xj_sipush (v := 1024) dX3_writeOut_26 cs_1024 ?_
      refine xj_ige (tgt := 69) dX3_writeOut_29 rfl ?_ ?_
      · refine xj_aloadn 0 dX3_writeOut_32 rfl rfl ?_
        refine gfX3_11 dX3_writeOut_33 rfl ?_
        refine xj_aloadn 0 dX3_writeOut_36 rfl rfl ?_
        refine gfX3_27 (v := (w.1 7 4)) dX3_writeOut_37 rfl rfl ?_
        refine xj_aloadn 0 dX3_writeOut_40 rfl rfl ?_
        refine gfX3_23 dX3_writeOut_41 rfl ?_
        refine xj_iloadn 1 dX3_writeOut_44 rfl rfl ?_
        refine xj_iload 3 dX3_writeOut_45 rfl ?_
        refine xj_iadd dX3_writeOut_47 ?_
        refine xj_cVi (argv := [.int (a1 + a4)]) (rest := [.int (w.1 7 4), .ref 18]) dX3_writeOut_48 (kX8_dataAt (a1 + a4) w) mkX8_dataAt tw1569 rfl rfl rfl rfl rfl rfl (fun x1 w2 => ?_)
        refine xj_i2b dX3_writeOut_51 ?_
        refine xj_bast (k := 18) dX3_writeOut_52 rfl ?_
        refine xj_aloadn 0 dX3_writeOut_53 rfl rfl ?_
        refine xj_dup dX3_writeOut_54 rfl ?_
        refine gfX3_27 (v := (w2.1 7 4)) dX3_writeOut_55 rfl rfl ?_
        refine xj_iconst (v := 1) dX3_writeOut_58 ci_1 ?_
        refine xj_iadd dX3_writeOut_59 ?_
        refine pfX3_27 dX3_writeOut_60 rfl ?_
        refine xj_iinc (n := 3) (lv2 := [(4, .int (a4 + (1 : Int32))), (0, .ref 7), (1, .int a1), (3, .int a3)]) dX3_writeOut_63 rfl ci_1 (Nat.le_of_ble_eq_true rfl) rfl ?_
        refine xj_goto (tgt := 16) dX3_writeOut_66 rfl ?_
        refine xj_sub (lv2 := [(0, .ref 7), (1, .int a1), (3, .int a3), (4, .int (a4 + (1 : Int32)))]) [1, 2, 3, 0] rfl ?_
        exact ih _ _ _ _
      · refine xj_iloadn 2 dX3_writeOut_69 rfl rfl ?_
        exact xj_ri dX3_writeOut_70 rfl
    · refine xj_iloadn 2 dX3_writeOut_69 rfl rfl ?_
      exact xj_ri dX3_writeOut_70 rfl
set_option maxRecDepth 20000 in
def sX3_writeOut (p1 : Int32) (p2 : Int32) (w : xW) : Option (Int32 × xW) :=
  xlet (xmin p2 ((1024 : Int32) - (w.1 7 4))) (fun x1 => sX3_writeOut_l16 70000 p1 x1 (0 : Int32) w)
set_option maxRecDepth 20000 in
theorem tX3_writeOut (p1 : Int32) (p2 : Int32) (w : xW) : xJ ιI mX3_writeOut lC (0, 0) 0 [(0, .ref 7), (1, .int p1), (2, .int p2)] [] w (sX3_writeOut p1 p2 w) := by
  unfold sX3_writeOut
  refine xj_iloadn 2 dX3_writeOut_0 rfl rfl ?_
  refine xj_sipush (v := 1024) dX3_writeOut_1 cs_1024 ?_
  refine xj_aloadn 0 dX3_writeOut_4 rfl rfl ?_
  refine gfX3_27 (v := (w.1 7 4)) dX3_writeOut_5 rfl rfl ?_
  refine xj_isub dX3_writeOut_8 ?_
  refine xj_mmin (rest := []) dX3_writeOut_9 tw1568 rfl rfl ?_
  refine xj_leti (fun x1 => ?_)
  refine xj_istoren (lv2 := [(3, .int x1), (0, .ref 7), (1, .int p1), (2, .int p2)]) dX3_writeOut_12 rfl (Nat.le_of_ble_eq_true rfl) rfl ?_
  refine xj_iconst (v := 0) dX3_writeOut_13 ci_0 ?_
  refine xj_istore (lv2 := [(4, .int (0 : Int32)), (3, .int x1), (0, .ref 7), (1, .int p1), (2, .int p2)]) dX3_writeOut_14 (Nat.le_of_ble_eq_true rfl) rfl ?_
  refine xj_sub (lv2 := [(0, .ref 7), (1, .int p1), (3, .int x1), (4, .int (0 : Int32))]) [2, 3, 1, 0] rfl ?_
  exact tX3_writeOut_l16 _ _ _ _ _
theorem kX3_writeOut (p1 : Int32) (p2 : Int32) (w : xW) : xMet jI mX3_writeOut lC (0, 0) [.ref 7, .int p1, .int p2] w (sX3_writeOut p1 p2 w) := xj_met lC_ok (by decide) (Nat.le_of_ble_eq_true rfl) (Nat.zero_le _) (Nat.zero_le _) (tX3_writeOut p1 p2 w)
set_option maxRecDepth 20000 in
def sX8_setData (p1 : Int32) (p2 : Int32) (w : xW) : Option (Unit × xW) :=
  (if xin (p1 &&& (65535 : Int32)) 65536 then some ((), (xwi w 17 ((p1 &&& (65535 : Int32)).toNatClampNeg) p2.toInt8.toInt32.toInt8.toInt32)) else none)
set_option maxRecDepth 20000 in
theorem tX8_setData (p1 : Int32) (p2 : Int32) (w : xW) : xJ ιV mX8_setData lC (0, 0) 0 [(0, .ref 6), (1, .int p1), (2, .int p2)] [] w (sX8_setData p1 p2 w) := by
  unfold sX8_setData
  refine xj_aloadn 0 dX8_setData_0 rfl rfl ?_
  refine gfX8_12 dX8_setData_1 rfl ?_
  refine xj_iloadn 1 dX8_setData_4 rfl rfl ?_
  refine xj_ldc (v := 65535) tw1438 dX8_setData_5 ?_
  refine xj_iand dX8_setData_7 ?_
  refine xj_iloadn 2 dX8_setData_8 rfl rfl ?_
  refine xj_i2b dX8_setData_9 ?_
  refine xj_bast (k := 17) dX8_setData_10 rfl ?_
  exact xj_rv dX8_setData_11 rfl
theorem kX8_setData (p1 : Int32) (p2 : Int32) (w : xW) : xMet jV mX8_setData lC (0, 0) [.ref 6, .int p1, .int p2] w (sX8_setData p1 p2 w) := xj_met lC_ok (by decide) (Nat.le_of_ble_eq_true rfl) (Nat.zero_le _) (Nat.zero_le _) (tX8_setData p1 p2 w)
set_option maxRecDepth 20000 in
def sX3_readIn_l12 : Nat → Int32 → Int32 → Int32 → xW → Option (Int32 × xW)
  | 0, _, _, _, _ => none
  | n + 1, a1, a3, a4, w =>
  (if a4 < a3 then (if xin ((w.1 7 3) &&& (255 : Int32)) 256 then xbd (sX8_setData (a1 + a4) ((w.1 19 (((w.1 7 3) &&& (255 : Int32)).toNatClampNeg)) &&& (255 : Int32)) w) (fun _ w1 => (sX3_readIn_l12 n) a1 a3 (a4 + (1 : Int32)) (xwi (xwi w1 7 3 (((w1.1 7 3) + (1 : Int32)) &&& (255 : Int32))) 7 5 ((w1.1 7 5) - (1 : Int32)))) else none) else some (a3, w))
set_option maxRecDepth 20000 in
theorem tX3_readIn_l12 : ∀ (n : Nat) (a1 : Int32) (a3 : Int32) (a4 : Int32) (w : xW), xJ ιI mX3_readIn lC (0, 0) 12 [(0, .ref 7), (1, .int a1), (3, .int a3), (4, .int a4)] [] w (sX3_readIn_l12 n a1 a3 a4 w) := by
  intro n
  induction n with
  | zero => intros; exact xj_none
  | succ n ih =>
    intro a1 a3 a4 w
    rw [sX3_readIn_l12]
    refine xj_iload 3 dX3_readIn_12 rfl ?_
    refine xj_iloadn 2 dX3_readIn_14 rfl rfl ?_
    refine xj_ige (tgt := 76) dX3_readIn_15 rfl ?_ ?_
    · refine xj_aloadn 0 dX3_readIn_18 rfl rfl ?_
      refine gfX3_23 dX3_readIn_19 rfl ?_
      refine xj_iloadn 1 dX3_readIn_22 rfl rfl ?_
      refine xj_iload 3 dX3_readIn_23 rfl ?_
      refine xj_iadd dX3_readIn_25 ?_
      refine xj_aloadn 0 dX3_readIn_26 rfl rfl ?_
      refine gfX3_15 dX3_readIn_27 rfl ?_
      refine xj_aloadn 0 dX3_readIn_30 rfl rfl ?_
      refine gfX3_36 (v := (w.1 7 3)) dX3_readIn_31 rfl rfl ?_
      refine xj_sipush (v := 255) dX3_readIn_34 cs_255 ?_
      refine xj_iand dX3_readIn_37 ?_
      refine xj_bald (k := 19) dX3_readIn_38 rfl ?_
      refine xj_sipush (v := 255) dX3_readIn_39 cs_255 ?_
      refine xj_iand dX3_readIn_42 ?_
      refine xj_cVv (argv := [.int (a1 + a4), .int ((w.1 19 (((w.1 7 3) &&& (255 : Int32)).toNatClampNeg)) &&& (255 : Int32))]) (rest := []) dX3_readIn_43 (kX8_setData (a1 + a4) ((w.1 19 (((w.1 7 3) &&& (255 : Int32)).toNatClampNeg)) &&& (255 : Int32)) w) mkX8_setData tw1574 rfl rfl rfl rfl rfl rfl (fun _ w1 => ?_)
      refine xj_aloadn 0 dX3_readIn_46 rfl rfl ?_
      refine xj_aloadn 0 dX3_readIn_47 rfl rfl ?_
      refine gfX3_36 (v := (w1.1 7 3)) dX3_readIn_48 rfl rfl ?_
      refine xj_iconst (v := 1) dX3_readIn_51 ci_1 ?_
      refine xj_iadd dX3_readIn_52 ?_
      refine xj_sipush (v := 255) dX3_readIn_53 cs_255 ?_
      refine xj_iand dX3_readIn_56 ?_
      refine pfX3_36 dX3_readIn_57 rfl ?_
      refine xj_aloadn 0 dX3_readIn_60 rfl rfl ?_
      refine xj_dup dX3_readIn_61 rfl ?_
      refine gfX3_33 (v := (w1.1 7 5)) dX3_readIn_62 rfl rfl ?_
      refine xj_iconst (v := 1) dX3_readIn_65 ci_1 ?_
      refine xj_isub dX3_readIn_66 ?_
      refine pfX3_33 dX3_readIn_67 rfl ?_
      refine xj_iinc (n := 3) (lv2 := [(4, .int (a4 + (1 : Int32))), (0, .ref 7), (1, .int a1), (3, .int a3)]) dX3_readIn_70 rfl ci_1 (Nat.le_of_ble_eq_true rfl) rfl ?_
      refine xj_goto (tgt := 12) dX3_readIn_73 rfl ?_
      refine xj_sub (lv2 := [(0, .ref 7), (1, .int a1), (3, .int a3), (4, .int (a4 + (1 : Int32)))]) [1, 2, 3, 0] rfl ?_
      exact ih _ _ _ _
    · refine xj_iloadn 2 dX3_readIn_76 rfl rfl ?_
      exact xj_ri dX3_readIn_77 rfl
set_option maxRecDepth 20000 in
def sX3_readIn (p1 : Int32) (p2 : Int32) (w : xW) : Option (Int32 × xW) :=
  sX3_readIn_l12 70000 p1 (xmin p2 (w.1 7 5)) (0 : Int32) w
set_option maxRecDepth 20000 in
theorem tX3_readIn (p1 : Int32) (p2 : Int32) (w : xW) : xJ ιI mX3_readIn lC (0, 0) 0 [(0, .ref 7), (1, .int p1), (2, .int p2)] [] w (sX3_readIn p1 p2 w) := by
  unfold sX3_readIn
  refine xj_iloadn 2 dX3_readIn_0 rfl rfl ?_
  refine xj_aloadn 0 dX3_readIn_1 rfl rfl ?_
  refine gfX3_33 (v := (w.1 7 5)) dX3_readIn_2 rfl rfl ?_
  refine xj_mmin (rest := []) dX3_readIn_5 tw1568 rfl rfl ?_
  refine xj_istoren (lv2 := [(3, .int (xmin p2 (w.1 7 5))), (0, .ref 7), (1, .int p1), (2, .int p2)]) dX3_readIn_8 rfl (Nat.le_of_ble_eq_true rfl) rfl ?_
  refine xj_iconst (v := 0) dX3_readIn_9 ci_0 ?_
  refine xj_istore (lv2 := [(4, .int (0 : Int32)), (3, .int (xmin p2 (w.1 7 5))), (0, .ref 7), (1, .int p1), (2, .int p2)]) dX3_readIn_10 (Nat.le_of_ble_eq_true rfl) rfl ?_
  refine xj_sub (lv2 := [(0, .ref 7), (1, .int p1), (3, .int (xmin p2 (w.1 7 5))), (4, .int (0 : Int32))]) [2, 3, 1, 0] rfl ?_
  exact tX3_readIn_l12 _ _ _ _ _
theorem kX3_readIn (p1 : Int32) (p2 : Int32) (w : xW) : xMet jI mX3_readIn lC (0, 0) [.ref 7, .int p1, .int p2] w (sX3_readIn p1 p2 w) := xj_met lC_ok (by decide) (Nat.le_of_ble_eq_true rfl) (Nat.zero_le _) (Nat.zero_le _) (tX3_readIn p1 p2 w)
set_option maxRecDepth 20000 in
def sX3_sum_l5 : Nat → Int32 → Int32 → Int32 → Int32 → xW → Option (Int32 × xW)
  | 0, _, _, _, _, _ => none
  | n + 1, a1, a2, a3, a4, w =>
  (if a4 < a2 then xbd (sX8_dataAt (a1 + a4) w) (fun x1 w2 => (sX3_sum_l5 n) a1 a2 (((31 : Int32) * a3) + x1) (a4 + (1 : Int32)) w2) else some (a3, w))
set_option maxRecDepth 20000 in
theorem tX3_sum_l5 : ∀ (n : Nat) (a1 : Int32) (a2 : Int32) (a3 : Int32) (a4 : Int32) (w : xW), xJ ιI mX3_sum lC (0, 0) 5 [(0, .ref 7), (1, .int a1), (2, .int a2), (3, .int a3), (4, .int a4)] [] w (sX3_sum_l5 n a1 a2 a3 a4 w) := by
  intro n
  induction n with
  | zero => intros; exact xj_none
  | succ n ih =>
    intro a1 a2 a3 a4 w
    rw [sX3_sum_l5]
    refine xj_iload 4 dX3_sum_5 rfl ?_
    refine xj_iloadn 2 dX3_sum_7 rfl rfl ?_
    refine xj_ige (tgt := 34) dX3_sum_8 rfl ?_ ?_
    · refine xj_bipush (v := 31) dX3_sum_11 cb_31 ?_
      refine xj_iloadn 3 dX3_sum_13 rfl rfl ?_
      refine xj_imul dX3_sum_14 ?_
      refine xj_aloadn 0 dX3_sum_15 rfl rfl ?_
      refine gfX3_23 dX3_sum_16 rfl ?_
      refine xj_iloadn 1 dX3_sum_19 rfl rfl ?_
      refine xj_iload 4 dX3_sum_20 rfl ?_
      refine xj_iadd dX3_sum_22 ?_
      refine xj_cVi (argv := [.int (a1 + a4)]) (rest := [.int ((31 : Int32) * a3)]) dX3_sum_23 (kX8_dataAt (a1 + a4) w) mkX8_dataAt tw1569 rfl rfl rfl rfl rfl rfl (fun x1 w2 => ?_)
      refine xj_iadd dX3_sum_26 ?_
      refine xj_istoren (lv2 := [(3, .int (((31 : Int32) * a3) + x1)), (0, .ref 7), (1, .int a1), (2, .int a2), (4, .int a4)]) dX3_sum_27 rfl (Nat.le_of_ble_eq_true rfl) rfl ?_
      refine xj_iinc (n := 4) (lv2 := [(4, .int (a4 + (1 : Int32))), (3, .int (((31 : Int32) * a3) + x1)), (0, .ref 7), (1, .int a1), (2, .int a2)]) dX3_sum_28 rfl ci_1 (Nat.le_of_ble_eq_true rfl) rfl ?_
      refine xj_goto (tgt := 5) dX3_sum_31 rfl ?_
      refine xj_sub (lv2 := [(0, .ref 7), (1, .int a1), (2, .int a2), (3, .int (((31 : Int32) * a3) + x1)), (4, .int (a4 + (1 : Int32)))]) [2, 3, 4, 1, 0] rfl ?_
      exact ih _ _ _ _ _
    · refine xj_iloadn 3 dX3_sum_34 rfl rfl ?_
      exact xj_ri dX3_sum_35 rfl
set_option maxRecDepth 20000 in
def sX3_sum (p1 : Int32) (p2 : Int32) (w : xW) : Option (Int32 × xW) :=
  sX3_sum_l5 70000 p1 p2 (0 : Int32) (0 : Int32) w
set_option maxRecDepth 20000 in
theorem tX3_sum (p1 : Int32) (p2 : Int32) (w : xW) : xJ ιI mX3_sum lC (0, 0) 0 [(0, .ref 7), (1, .int p1), (2, .int p2)] [] w (sX3_sum p1 p2 w) := by
  unfold sX3_sum
  refine xj_iconst (v := 0) dX3_sum_0 ci_0 ?_
  refine xj_istoren (lv2 := [(3, .int (0 : Int32)), (0, .ref 7), (1, .int p1), (2, .int p2)]) dX3_sum_1 rfl (Nat.le_of_ble_eq_true rfl) rfl ?_
  refine xj_iconst (v := 0) dX3_sum_2 ci_0 ?_
  refine xj_istore (lv2 := [(4, .int (0 : Int32)), (3, .int (0 : Int32)), (0, .ref 7), (1, .int p1), (2, .int p2)]) dX3_sum_3 (Nat.le_of_ble_eq_true rfl) rfl ?_
  refine xj_sub (lv2 := [(0, .ref 7), (1, .int p1), (2, .int p2), (3, .int (0 : Int32)), (4, .int (0 : Int32))]) [2, 3, 4, 1, 0] rfl ?_
  exact tX3_sum_l5 _ _ _ _ _ _
theorem kX3_sum (p1 : Int32) (p2 : Int32) (w : xW) : xMet jI mX3_sum lC (0, 0) [.ref 7, .int p1, .int p2] w (sX3_sum p1 p2 w) := xj_met lC_ok (by decide) (Nat.le_of_ble_eq_true rfl) (Nat.zero_le _) (Nat.zero_le _) (tX3_sum p1 p2 w)
set_option maxRecDepth 20000 in
def sX3_serveBytes (p1 : Int32) (p2 : Int32) (p3 : Int32) (w : xW) : Option (Int32 × xW) :=
  (if p3 = 0 then some ((0 : Int32), w) else xbd (sX11_unsigned p3 w) (fun x1 w2 => xbd (sX8_inData p2 x1 w2) (fun x3 w4 => (if x3 = 0 then some ((-14 : Int32), w4) else (if p1 = (1 : Int32) then xbd (sX3_writeOut p2 p3 w4) (fun x9 w10 => some (x9, w10)) else (if p1 = (2 : Int32) then xbd (sX3_readIn p2 p3 w4) (fun x7 w8 => some (x7, w8)) else xbd (sX3_sum p2 p3 w4) (fun x5 w6 => some (x5, w6))))))))
set_option maxRecDepth 20000 in
theorem tX3_serveBytes (p1 : Int32) (p2 : Int32) (p3 : Int32) (w : xW) : xJ ιI mX3_serveBytes lC (0, 0) 0 [(0, .ref 7), (1, .int p1), (2, .int p2), (3, .int p3)] [] w (sX3_serveBytes p1 p2 p3 w) := by
  unfold sX3_serveBytes
  refine xj_iloadn 3 dX3_serveBytes_0 rfl rfl ?_
  refine xj_ifne (tgt := 6) dX3_serveBytes_1 rfl ?_ ?_
  · refine xj_iconst (v := 0) dX3_serveBytes_4 ci_0 ?_
    exact xj_ri dX3_serveBytes_5 rfl
  · refine xj_iloadn 2 dX3_serveBytes_6 rfl rfl ?_
    refine xj_iloadn 3 dX3_serveBytes_7 rfl rfl ?_
    refine xj_cSNl (argv := [.int p3]) (rest := [.int p2]) dX3_serveBytes_8 (kX11_unsigned p3 w) mkX11_unsigned tw1562 rfl rfl rfl rfl (fun x1 w2 => ?_)
    refine xj_cSi (argv := [.int p2, .long x1]) (rest := []) dX3_serveBytes_11 (kX8_inData p2 x1 w2) mkX8_inData tw1563 rfl rfl rfl rfl (fun x3 w4 => ?_)
    refine xj_ifne (tgt := 20) dX3_serveBytes_14 rfl ?_ ?_
    · refine xj_bipush (v := -14) dX3_serveBytes_17 cb_m14 ?_
      exact xj_ri dX3_serveBytes_19 rfl
    · refine xj_iloadn 1 dX3_serveBytes_20 rfl rfl ?_
      refine xj_iconst (v := 1) dX3_serveBytes_21 ci_1 ?_
      refine xj_ine (tgt := 32) dX3_serveBytes_22 rfl ?_ ?_
      · refine xj_aloadn 0 dX3_serveBytes_25 rfl rfl ?_
        refine xj_iloadn 2 dX3_serveBytes_26 rfl rfl ?_
        refine xj_iloadn 3 dX3_serveBytes_27 rfl rfl ?_
        refine xj_cVi (argv := [.int p2, .int p3]) (rest := []) dX3_serveBytes_28 (kX3_writeOut p2 p3 w4) mkX3_writeOut tw1564 rfl rfl rfl rfl rfl rfl (fun x9 w10 => ?_)
        exact xj_ri dX3_serveBytes_31 rfl
      · refine xj_iloadn 1 dX3_serveBytes_32 rfl rfl ?_
        refine xj_iconst (v := 2) dX3_serveBytes_33 ci_2 ?_
        refine xj_ine (tgt := 46) dX3_serveBytes_34 rfl ?_ ?_
        · refine xj_aloadn 0 dX3_serveBytes_37 rfl rfl ?_
          refine xj_iloadn 2 dX3_serveBytes_38 rfl rfl ?_
          refine xj_iloadn 3 dX3_serveBytes_39 rfl rfl ?_
          refine xj_cVi (argv := [.int p2, .int p3]) (rest := []) dX3_serveBytes_40 (kX3_readIn p2 p3 w4) mkX3_readIn tw1570 rfl rfl rfl rfl rfl rfl (fun x7 w8 => ?_)
          refine xj_goto (tgt := 52) dX3_serveBytes_43 rfl ?_
          exact xj_ri dX3_serveBytes_52 rfl
        · refine xj_aloadn 0 dX3_serveBytes_46 rfl rfl ?_
          refine xj_iloadn 2 dX3_serveBytes_47 rfl rfl ?_
          refine xj_iloadn 3 dX3_serveBytes_48 rfl rfl ?_
          refine xj_cVi (argv := [.int p2, .int p3]) (rest := []) dX3_serveBytes_49 (kX3_sum p2 p3 w4) mkX3_sum tw1575 rfl rfl rfl rfl rfl rfl (fun x5 w6 => ?_)
          exact xj_ri dX3_serveBytes_52 rfl
theorem kX3_serveBytes (p1 : Int32) (p2 : Int32) (p3 : Int32) (w : xW) : xMet jI mX3_serveBytes lC (0, 0) [.ref 7, .int p1, .int p2, .int p3] w (sX3_serveBytes p1 p2 p3 w) := xj_met lC_ok (by decide) (Nat.le_of_ble_eq_true rfl) (Nat.zero_le _) (Nat.zero_le _) (tX3_serveBytes p1 p2 p3 w)
set_option maxRecDepth 20000 in
def sX3_serve_j44 (a1 : Int32) (a2 : Int32) (a3 : Int32) (w : xW) : Option (Int32 × xW) :=
  xbd (sX3_serveBytes a1 a2 a3 w) (fun x1 w2 => some (x1, w2))
set_option maxRecDepth 20000 in
theorem tX3_serve_j44 (a1 : Int32) (a2 : Int32) (a3 : Int32) (w : xW) : xJ ιI mX3_serve lC (0, 0) 44 [(0, .ref 7), (1, .int a1), (2, .int a2), (3, .int a3)] [] w (sX3_serve_j44 a1 a2 a3 w) := by
  unfold sX3_serve_j44
  refine xj_aloadn 0 dX3_serve_44 rfl rfl ?_
  refine xj_iloadn 1 dX3_serve_45 rfl rfl ?_
  refine xj_iloadn 2 dX3_serve_46 rfl rfl ?_
  refine xj_iloadn 3 dX3_serve_47 rfl rfl ?_
  refine xj_cVi (argv := [.int a1, .int a2, .int a3]) (rest := []) dX3_serve_48 (kX3_serveBytes a1 a2 a3 w) mkX3_serveBytes tw1558 rfl rfl rfl rfl rfl rfl (fun x1 w2 => ?_)
  exact xj_ri dX3_serve_51 rfl
set_option maxRecDepth 20000 in
def sX3_serve (p1 : Int32) (p2 : Int32) (p3 : Int32) (p4 : Int64) (w : xW) : Option (Int32 × xW) :=
  xsw p1 (1) [sX3_serve_j44 p1 p2 p3 w, sX3_serve_j44 p1 p2 p3 w, some (p4.toInt32, w), xbd (sX8_inData p2 (1 : Int64) w) (fun x1 w2 => (if x1 = 0 then some ((w2.1 7 6), w2) else some (p2, (xwi w2 7 6 p2)))), some (((xushr (((w.1 7 7) * (1103515245 : Int32)) + (12345 : Int32)) (16 : Int32)) &&& (32767 : Int32)), (xwi w 7 7 (((w.1 7 7) * (1103515245 : Int32)) + (12345 : Int32)))), sX3_serve_j44 p1 p2 p3 w, some ((0 : Int32), w)] (some ((-38 : Int32), w))
set_option maxRecDepth 20000 in
theorem tX3_serve (p1 : Int32) (p2 : Int32) (p3 : Int32) (p4 : Int64) (w : xW) : xJ ιI mX3_serve lC (0, 0) 0 [(0, .ref 7), (1, .int p1), (2, .int p2), (3, .int p3), (4, .long p4)] [] w (sX3_serve p1 p2 p3 p4 w) := by
  unfold sX3_serve
  refine xj_iloadn 1 dX3_serve_0 rfl rfl ?_
  refine xj_tsw (tgtd := 103) [44, 44, 52, 56, 74, 44, 101] dX3_serve_1 rfl rfl rfl rfl ?_ ⟨?_, ?_, ?_, ?_, ?_, ?_, ?_, trivial⟩
  · refine xj_bipush (v := -38) dX3_serve_103 cb_m38 ?_
    exact xj_ri dX3_serve_105 rfl
  · refine xj_sub (lv2 := [(0, .ref 7), (1, .int p1), (2, .int p2), (3, .int p3)]) [0, 1, 2, 3] rfl ?_
    exact tX3_serve_j44 _ _ _ _
  · refine xj_sub (lv2 := [(0, .ref 7), (1, .int p1), (2, .int p2), (3, .int p3)]) [0, 1, 2, 3] rfl ?_
    exact tX3_serve_j44 _ _ _ _
  · refine xj_lload 4 dX3_serve_52 rfl ?_
    refine xj_l2i dX3_serve_54 ?_
    exact xj_ri dX3_serve_55 rfl
  · refine xj_iloadn 2 dX3_serve_56 rfl rfl ?_
    refine xj_lconst (v := 1) dX3_serve_57 cl_1 ?_
    refine xj_cSi (argv := [.int p2, .long (1 : Int64)]) (rest := []) dX3_serve_58 (kX8_inData p2 (1 : Int64) w) mkX8_inData tw1563 rfl rfl rfl rfl (fun x1 w2 => ?_)
    refine xj_ifeq (tgt := 69) dX3_serve_61 rfl ?_ ?_
    · refine xj_aloadn 0 dX3_serve_69 rfl rfl ?_
      refine gfX3_19 (v := (w2.1 7 6)) dX3_serve_70 rfl rfl ?_
      exact xj_ri dX3_serve_73 rfl
    · refine xj_aloadn 0 dX3_serve_64 rfl rfl ?_
      refine xj_iloadn 2 dX3_serve_65 rfl rfl ?_
      refine pfX3_19 dX3_serve_66 rfl ?_
      refine xj_aloadn 0 dX3_serve_69 rfl rfl ?_
      refine gfX3_19 (v := p2) dX3_serve_70 rfl rfl ?_
      exact xj_ri dX3_serve_73 rfl
  · refine xj_aloadn 0 dX3_serve_74 rfl rfl ?_
    refine xj_aloadn 0 dX3_serve_75 rfl rfl ?_
    refine gfX3_30 (v := (w.1 7 7)) dX3_serve_76 rfl rfl ?_
    refine xj_ldc (v := 1103515245) tw1579 dX3_serve_79 ?_
    refine xj_imul dX3_serve_81 ?_
    refine xj_sipush (v := 12345) dX3_serve_82 cs_12345 ?_
    refine xj_iadd dX3_serve_85 ?_
    refine pfX3_30 dX3_serve_86 rfl ?_
    refine xj_aloadn 0 dX3_serve_89 rfl rfl ?_
    refine gfX3_30 (v := (((w.1 7 7) * (1103515245 : Int32)) + (12345 : Int32))) dX3_serve_90 rfl rfl ?_
    refine xj_bipush (v := 16) dX3_serve_93 cb_16 ?_
    refine xj_iushr dX3_serve_95 ?_
    refine xj_sipush (v := 32767) dX3_serve_96 cs_32767 ?_
    refine xj_iand dX3_serve_99 ?_
    exact xj_ri dX3_serve_100 rfl
  · refine xj_sub (lv2 := [(0, .ref 7), (1, .int p1), (2, .int p2), (3, .int p3)]) [0, 1, 2, 3] rfl ?_
    exact tX3_serve_j44 _ _ _ _
  · refine xj_iconst (v := 0) dX3_serve_101 ci_0 ?_
    exact xj_ri dX3_serve_102 rfl
theorem kX3_serve (p1 : Int32) (p2 : Int32) (p3 : Int32) (p4 : Int64) (w : xW) : xMet jI mX3_serve lC (0, 0) [.ref 7, .int p1, .int p2, .int p3, .long p4] w (sX3_serve p1 p2 p3 p4 w) := xj_met lC_ok (by decide) (Nat.le_of_ble_eq_true rfl) (Nat.zero_le _) (Nat.zero_le _) (tX3_serve p1 p2 p3 p4 w)
set_option maxRecDepth 20000 in
def sX4_append_l3 : Nat → Int32 → Int64 → Int32 → xW → Option (Unit × xW)
  | 0, _, _, _, _ => none
  | n + 1, a1, a2, a4, w =>
  (if a4 < a1 then (if (w.1 1 1) < (2048 : Int32) then (if xin (w.1 1 1) 2048 then (sX4_append_l3 n) a1 a2 (a4 + (1 : Int32)) (xwi (xwi w 10 ((w.1 1 1).toNatClampNeg) ((((xlushr a2 ((8 : Int32) * a4)).toInt32).toInt8.toInt32).toInt8.toInt32)) 1 1 ((w.1 1 1) + (1 : Int32))) else none) else some ((), w)) else some ((), w))
set_option maxRecDepth 20000 in
theorem tX4_append_l3 : ∀ (n : Nat) (a1 : Int32) (a2 : Int64) (a4 : Int32) (w : xW), xJ ιV mX4_append lC (0, 0) 3 [(0, .ref 1), (1, .int a1), (2, .long a2), (4, .int a4)] [] w (sX4_append_l3 n a1 a2 a4 w) := by
  intro n
  induction n with
  | zero => intros; exact xj_none
  | succ n ih =>
    intro a1 a2 a4 w
    rw [sX4_append_l3]
    refine xj_iload 3 dX4_append_3 rfl ?_
    refine xj_iloadn 1 dX4_append_5 rfl rfl ?_
    refine xj_ige (tgt := 53) dX4_append_6 rfl ?_ ?_
    · refine xj_aloadn 0 dX4_append_9 rfl rfl ?_
      refine gfX4_13 (v := (w.1 1 1)) dX4_append_10 rfl rfl ?_
      refine xj_sipush (v := 2048) dX4_append_13 cs_2048 ?_
      refine xj_ige (tgt := 53) dX4_append_16 rfl ?_ ?_
      · refine xj_aloadn 0 dX4_append_19 rfl rfl ?_
        refine gfX4_9 dX4_append_20 rfl ?_
        refine xj_aloadn 0 dX4_append_23 rfl rfl ?_
        refine gfX4_13 (v := (w.1 1 1)) dX4_append_24 rfl rfl ?_
        refine xj_lloadn 2 dX4_append_27 rfl rfl ?_
        refine xj_bipush (v := 8) dX4_append_28 cb_8 ?_
        refine xj_iload 3 dX4_append_30 rfl ?_
        refine xj_imul dX4_append_32 ?_
        refine xj_lushr dX4_append_33 ?_
        refine xj_l2i dX4_append_34 ?_
        refine xj_i2b dX4_append_35 ?_
        refine xj_bast (k := 10) dX4_append_36 rfl ?_
        refine xj_aloadn 0 dX4_append_37 rfl rfl ?_
        refine xj_dup dX4_append_38 rfl ?_
        refine gfX4_13 (v := (w.1 1 1)) dX4_append_39 rfl rfl ?_
        refine xj_iconst (v := 1) dX4_append_42 ci_1 ?_
        refine xj_iadd dX4_append_43 ?_
        refine pfX4_13 dX4_append_44 rfl ?_
        refine xj_iinc (n := 3) (lv2 := [(4, .int (a4 + (1 : Int32))), (0, .ref 1), (1, .int a1), (2, .long a2)]) dX4_append_47 rfl ci_1 (Nat.le_of_ble_eq_true rfl) rfl ?_
        refine xj_goto (tgt := 3) dX4_append_50 rfl ?_
        refine xj_sub (lv2 := [(0, .ref 1), (1, .int a1), (2, .long a2), (4, .int (a4 + (1 : Int32)))]) [1, 2, 3, 0] rfl ?_
        exact ih _ _ _ _
      · exact xj_rv dX4_append_53 rfl
    · exact xj_rv dX4_append_53 rfl
set_option maxRecDepth 20000 in
def sX4_append (p1 : Int32) (p2 : Int64) (w : xW) : Option (Unit × xW) :=
  sX4_append_l3 70000 p1 p2 (0 : Int32) w
set_option maxRecDepth 20000 in
theorem tX4_append (p1 : Int32) (p2 : Int64) (w : xW) : xJ ιV mX4_append lC (0, 0) 0 [(0, .ref 1), (1, .int p1), (2, .long p2)] [] w (sX4_append p1 p2 w) := by
  unfold sX4_append
  refine xj_iconst (v := 0) dX4_append_0 ci_0 ?_
  refine xj_istore (lv2 := [(4, .int (0 : Int32)), (0, .ref 1), (1, .int p1), (2, .long p2)]) dX4_append_1 (Nat.le_of_ble_eq_true rfl) rfl ?_
  refine xj_sub (lv2 := [(0, .ref 1), (1, .int p1), (2, .long p2), (4, .int (0 : Int32))]) [1, 2, 3, 0] rfl ?_
  exact tX4_append_l3 _ _ _ _ _
theorem kX4_append (p1 : Int32) (p2 : Int64) (w : xW) : xMet jV mX4_append lC (0, 0) [.ref 1, .int p1, .long p2] w (sX4_append p1 p2 w) := xj_met lC_ok (by decide) (Nat.le_of_ble_eq_true rfl) (Nat.zero_le _) (Nat.zero_le _) (tX4_append p1 p2 w)
set_option maxRecDepth 20000 in
def sX5_forget (w : xW) : Option (Unit × xW) :=
  some ((), (xwi (xwi (xwi w 4 9 (0 : Int32)) 4 10 (0 : Int32)) 4 11 (-1 : Int32)))
set_option maxRecDepth 20000 in
theorem tX5_forget (w : xW) : xJ ιV mX5_forget lC (0, 0) 0 [(0, .ref 4)] [] w (sX5_forget w) := by
  unfold sX5_forget
  refine xj_aloadn 0 dX5_forget_0 rfl rfl ?_
  refine xj_iconst (v := 0) dX5_forget_1 ci_0 ?_
  refine pfX5_45 dX5_forget_2 rfl (Or.inl rfl) ?_
  refine xj_aloadn 0 dX5_forget_5 rfl rfl ?_
  refine xj_iconst (v := 0) dX5_forget_6 ci_0 ?_
  refine pfX5_49 dX5_forget_7 rfl ?_
  refine xj_aloadn 0 dX5_forget_10 rfl rfl ?_
  refine xj_iconst (v := -1) dX5_forget_11 ci_m1 ?_
  refine pfX5_29 dX5_forget_12 rfl ?_
  exact xj_rv dX5_forget_15 rfl
theorem kX5_forget (w : xW) : xMet jV mX5_forget lC (0, 0) [.ref 4] w (sX5_forget w) := xj_met lC_ok (by decide) (Nat.le_of_ble_eq_true rfl) (Nat.zero_le _) (Nat.zero_le _) (tX5_forget w)
set_option maxRecDepth 20000 in
def sX5_markAt (p1 : Int32) (w : xW) : Option (Int32 × xW) :=
  (if p1 < 0 then some ((0 : Int32), w) else (if p1 < (2048 : Int32) then (if xin p1 2048 then some ((w.1 16 p1.toNatClampNeg), w) else none) else some ((0 : Int32), w)))
set_option maxRecDepth 20000 in
theorem tX5_markAt (p1 : Int32) (w : xW) : xJ ιI mX5_markAt lC (0, 0) 0 [(0, .ref 4), (1, .int p1)] [] w (sX5_markAt p1 w) := by
  unfold sX5_markAt
  refine xj_iloadn 1 dX5_markAt_0 rfl rfl ?_
  refine xj_iflt (tgt := 20) dX5_markAt_1 rfl ?_ ?_
  · refine xj_iconst (v := 0) dX5_markAt_20 ci_0 ?_
    exact xj_ri dX5_markAt_21 rfl
  · refine xj_iloadn 1 dX5_markAt_4 rfl rfl ?_
    refine xj_sipush (v := 2048) dX5_markAt_5 cs_2048 ?_
    refine xj_ige (tgt := 20) dX5_markAt_8 rfl ?_ ?_
    · refine xj_aloadn 0 dX5_markAt_11 rfl rfl ?_
      refine gfX5_26 dX5_markAt_12 rfl ?_
      refine xj_iloadn 1 dX5_markAt_15 rfl rfl ?_
      refine xj_iald (k := 16) dX5_markAt_16 rfl ?_
      refine xj_goto (tgt := 21) dX5_markAt_17 rfl ?_
      exact xj_ri dX5_markAt_21 rfl
    · refine xj_iconst (v := 0) dX5_markAt_20 ci_0 ?_
      exact xj_ri dX5_markAt_21 rfl
theorem kX5_markAt (p1 : Int32) (w : xW) : xMet jI mX5_markAt lC (0, 0) [.ref 4, .int p1] w (sX5_markAt p1 w) := xj_met lC_ok (by decide) (Nat.le_of_ble_eq_true rfl) (Nat.zero_le _) (Nat.zero_le _) (tX5_markAt p1 w)
set_option maxRecDepth 20000 in
def sX6_startsWithG (w : xW) : Option (Int32 × xW) :=
  (if (w.1 2 1) = (2 : Int32) then some ((1 : Int32), w) else (if (w.1 2 1) = (7 : Int32) then some ((1 : Int32), w) else some ((0 : Int32), w)))
set_option maxRecDepth 20000 in
theorem tX6_startsWithG (w : xW) : xJ ιI mX6_startsWithG lC (0, 0) 0 [(0, .ref 2)] [] w (sX6_startsWithG w) := by
  unfold sX6_startsWithG
  refine xj_aloadn 0 dX6_startsWithG_0 rfl rfl ?_
  refine gfX6_20 (v := (w.1 2 1)) dX6_startsWithG_1 rfl rfl ?_
  refine xj_iconst (v := 2) dX6_startsWithG_4 ci_2 ?_
  refine xj_ieq (tgt := 17) dX6_startsWithG_5 rfl ?_ ?_
  · refine xj_iconst (v := 1) dX6_startsWithG_17 ci_1 ?_
    refine xj_goto (tgt := 22) dX6_startsWithG_18 rfl ?_
    exact xj_rz dX6_startsWithG_22 rfl (Or.inr rfl)
  · refine xj_aloadn 0 dX6_startsWithG_8 rfl rfl ?_
    refine gfX6_20 (v := (w.1 2 1)) dX6_startsWithG_9 rfl rfl ?_
    refine xj_bipush (v := 7) dX6_startsWithG_12 cb_7 ?_
    refine xj_ine (tgt := 21) dX6_startsWithG_14 rfl ?_ ?_
    · refine xj_iconst (v := 1) dX6_startsWithG_17 ci_1 ?_
      refine xj_goto (tgt := 22) dX6_startsWithG_18 rfl ?_
      exact xj_rz dX6_startsWithG_22 rfl (Or.inr rfl)
    · refine xj_iconst (v := 0) dX6_startsWithG_21 ci_0 ?_
      exact xj_rz dX6_startsWithG_22 rfl (Or.inl rfl)
theorem kX6_startsWithG (w : xW) : xMet jI mX6_startsWithG lC (0, 0) [.ref 2] w (sX6_startsWithG w) := xj_met lC_ok (by decide) (Nat.le_of_ble_eq_true rfl) (Nat.zero_le _) (Nat.zero_le _) (tX6_startsWithG w)
set_option maxRecDepth 20000 in
def sX6_writesStackPointer_j76 (a2 : Int32) (w : xW) : Option (Int32 × xW) :=
  (if a2 = 0 then some ((0 : Int32), w) else (if (w.1 2 7) = (4 : Int32) then some ((1 : Int32), w) else some ((0 : Int32), w)))
set_option maxRecDepth 20000 in
theorem tX6_writesStackPointer_j76 (a2 : Int32) (w : xW) : xJ ιI mX6_writesStackPointer lC (0, 0) 76 [(0, .ref 2), (2, .int a2)] [] w (sX6_writesStackPointer_j76 a2 w) := by
  unfold sX6_writesStackPointer_j76
  refine xj_iloadn 1 dX6_writesStackPointer_76 rfl rfl ?_
  refine xj_ifeq (tgt := 92) dX6_writesStackPointer_77 rfl ?_ ?_
  · refine xj_iconst (v := 0) dX6_writesStackPointer_92 ci_0 ?_
    exact xj_rz dX6_writesStackPointer_93 rfl (Or.inl rfl)
  · refine xj_aloadn 0 dX6_writesStackPointer_80 rfl rfl ?_
    refine gfX6_36 (v := (w.1 2 7)) dX6_writesStackPointer_81 rfl rfl ?_
    refine xj_iconst (v := 4) dX6_writesStackPointer_84 ci_4 ?_
    refine xj_ine (tgt := 92) dX6_writesStackPointer_85 rfl ?_ ?_
    · refine xj_iconst (v := 1) dX6_writesStackPointer_88 ci_1 ?_
      refine xj_goto (tgt := 93) dX6_writesStackPointer_89 rfl ?_
      exact xj_rz dX6_writesStackPointer_93 rfl (Or.inr rfl)
    · refine xj_iconst (v := 0) dX6_writesStackPointer_92 ci_0 ?_
      exact xj_rz dX6_writesStackPointer_93 rfl (Or.inl rfl)
set_option maxRecDepth 20000 in
def sX6_writesStackPointer_j63 (a1 : Int32) (b0 : Int32) (w : xW) : Option (Int32 × xW) :=
  (if a1 = 0 then sX6_writesStackPointer_j76 b0 w else (if (w.1 2 8) = (4 : Int32) then some ((1 : Int32), w) else sX6_writesStackPointer_j76 b0 w))
set_option maxRecDepth 20000 in
theorem tX6_writesStackPointer_j63 (a1 : Int32) (b0 : Int32) (w : xW) : xJ ιI mX6_writesStackPointer lC (0, 0) 63 [(0, .ref 2), (1, .int a1)] [.int b0] w (sX6_writesStackPointer_j63 a1 b0 w) := by
  unfold sX6_writesStackPointer_j63
  refine xj_istoren (lv2 := [(2, .int b0), (0, .ref 2), (1, .int a1)]) dX6_writesStackPointer_63 rfl (Nat.le_of_ble_eq_true rfl) rfl ?_
  refine xj_iloadn 2 dX6_writesStackPointer_64 rfl rfl ?_
  refine xj_ifeq (tgt := 76) dX6_writesStackPointer_65 rfl ?_ ?_
  · refine xj_sub (lv2 := [(0, .ref 2), (2, .int b0)]) [1, 0] rfl ?_
    exact tX6_writesStackPointer_j76 _ _
  · refine xj_aloadn 1 dX6_writesStackPointer_68 rfl rfl ?_
    refine gfX6_39 (v := (w.1 2 8)) dX6_writesStackPointer_69 rfl rfl ?_
    refine xj_iconst (v := 4) dX6_writesStackPointer_72 ci_4 ?_
    refine xj_ieq (tgt := 88) dX6_writesStackPointer_73 rfl ?_ ?_
    · refine xj_iconst (v := 1) dX6_writesStackPointer_88 ci_1 ?_
      refine xj_goto (tgt := 93) dX6_writesStackPointer_89 rfl ?_
      exact xj_rz dX6_writesStackPointer_93 rfl (Or.inr rfl)
    · refine xj_sub (lv2 := [(0, .ref 2), (2, .int b0)]) [1, 0] rfl ?_
      exact tX6_writesStackPointer_j76 _ _
set_option maxRecDepth 20000 in
def sX6_writesStackPointer_j62 (a1 : Int32) (w : xW) : Option (Int32 × xW) :=
  sX6_writesStackPointer_j63 a1 (0 : Int32) w
set_option maxRecDepth 20000 in
theorem tX6_writesStackPointer_j62 (a1 : Int32) (w : xW) : xJ ιI mX6_writesStackPointer lC (0, 0) 62 [(0, .ref 2), (1, .int a1)] [] w (sX6_writesStackPointer_j62 a1 w) := by
  unfold sX6_writesStackPointer_j62
  refine xj_iconst (v := 0) dX6_writesStackPointer_62 ci_0 ?_
  exact tX6_writesStackPointer_j63 _ _ _
set_option maxRecDepth 20000 in
def sX6_writesStackPointer_j43 (b0 : Int32) (w : xW) : Option (Int32 × xW) :=
  xbd (sX6_startsWithG w) (fun x1 w2 => (if x1 = 0 then (if (w2.1 2 6) = 0 then sX6_writesStackPointer_j63 b0 (1 : Int32) w2 else sX6_writesStackPointer_j62 b0 w2) else sX6_writesStackPointer_j62 b0 w2))
set_option maxRecDepth 20000 in
theorem tX6_writesStackPointer_j43 (b0 : Int32) (w : xW) : xJ ιI mX6_writesStackPointer lC (0, 0) 43 [(0, .ref 2)] [.int b0] w (sX6_writesStackPointer_j43 b0 w) := by
  unfold sX6_writesStackPointer_j43
  refine xj_istoren (lv2 := [(1, .int b0), (0, .ref 2)]) dX6_writesStackPointer_43 rfl (Nat.le_of_ble_eq_true rfl) rfl ?_
  refine xj_aloadn 1 dX6_writesStackPointer_44 rfl rfl ?_
  refine xj_cVi (argv := []) (rest := []) dX6_writesStackPointer_45 (kX6_startsWithG w) mkX6_startsWithG tw818 rfl rfl rfl rfl rfl rfl (fun x1 w2 => ?_)
  refine xj_ifne (tgt := 62) dX6_writesStackPointer_48 rfl ?_ ?_
  · refine xj_aloadn 1 dX6_writesStackPointer_51 rfl rfl ?_
    refine gfX6_48 (v := (w2.1 2 6)) dX6_writesStackPointer_52 rfl rfl ?_
    refine xj_ifne (tgt := 62) dX6_writesStackPointer_55 rfl ?_ ?_
    · refine xj_iconst (v := 1) dX6_writesStackPointer_58 ci_1 ?_
      refine xj_goto (tgt := 63) dX6_writesStackPointer_59 rfl ?_
      refine xj_sub (lv2 := [(0, .ref 2), (1, .int b0)]) [1, 0] rfl ?_
      exact tX6_writesStackPointer_j63 _ _ _
    · refine xj_sub (lv2 := [(0, .ref 2), (1, .int b0)]) [1, 0] rfl ?_
      exact tX6_writesStackPointer_j62 _ _
  · refine xj_sub (lv2 := [(0, .ref 2), (1, .int b0)]) [1, 0] rfl ?_
    exact tX6_writesStackPointer_j62 _ _
set_option maxRecDepth 20000 in
def sX6_writesStackPointer_j38 (w : xW) : Option (Int32 × xW) :=
  sX6_writesStackPointer_j43 (1 : Int32) w
set_option maxRecDepth 20000 in
theorem tX6_writesStackPointer_j38 (w : xW) : xJ ιI mX6_writesStackPointer lC (0, 0) 38 [(0, .ref 2)] [] w (sX6_writesStackPointer_j38 w) := by
  unfold sX6_writesStackPointer_j38
  refine xj_iconst (v := 1) dX6_writesStackPointer_38 ci_1 ?_
  refine xj_goto (tgt := 43) dX6_writesStackPointer_39 rfl ?_
  exact tX6_writesStackPointer_j43 _ _
set_option maxRecDepth 20000 in
def sX6_writesStackPointer (w : xW) : Option (Int32 × xW) :=
  (if xin (w.1 2 0) 54 then (if (opWr (w.1 2 0)) = 0 then some ((0 : Int32), w) else (if (w.1 2 4) = (1 : Int32) then some ((0 : Int32), w) else xbd (sX6_startsWithG w) (fun x1 w2 => (if x1 = 0 then (if xin (w2.1 2 0) 54 then (if (opWr (w2.1 2 0)) = (2 : Int32) then sX6_writesStackPointer_j38 w2 else sX6_writesStackPointer_j43 (0 : Int32) w2) else none) else sX6_writesStackPointer_j38 w2)))) else none)
set_option maxRecDepth 20000 in
theorem tX6_writesStackPointer (w : xW) : xJ ιI mX6_writesStackPointer lC (0, 0) 0 [(0, .ref 2)] [] w (sX6_writesStackPointer w) := by
  unfold sX6_writesStackPointer
  refine xj_aloadn 0 dX6_writesStackPointer_0 rfl rfl ?_
  refine gfX6_15 (v := (w.1 2 0)) dX6_writesStackPointer_1 rfl rfl ?_
  refine xj_opwrites dX6_writesStackPointer_4 tw2446 ?_
  refine xj_ifeq (tgt := 18) dX6_writesStackPointer_7 rfl ?_ ?_
  · refine xj_iconst (v := 0) dX6_writesStackPointer_18 ci_0 ?_
    exact xj_rz dX6_writesStackPointer_19 rfl (Or.inl rfl)
  · refine xj_aloadn 0 dX6_writesStackPointer_10 rfl rfl ?_
    refine gfX6_30 (v := (w.1 2 4)) dX6_writesStackPointer_11 rfl rfl ?_
    refine xj_iconst (v := 1) dX6_writesStackPointer_14 ci_1 ?_
    refine xj_ine (tgt := 20) dX6_writesStackPointer_15 rfl ?_ ?_
    · refine xj_iconst (v := 0) dX6_writesStackPointer_18 ci_0 ?_
      exact xj_rz dX6_writesStackPointer_19 rfl (Or.inl rfl)
    · refine xj_aloadn 0 dX6_writesStackPointer_20 rfl rfl ?_
      refine xj_cVi (argv := []) (rest := []) dX6_writesStackPointer_21 (kX6_startsWithG w) mkX6_startsWithG tw818 rfl rfl rfl rfl rfl rfl (fun x1 w2 => ?_)
      refine xj_ifne (tgt := 38) dX6_writesStackPointer_24 rfl ?_ ?_
      · refine xj_aloadn 0 dX6_writesStackPointer_27 rfl rfl ?_
        refine gfX6_15 (v := (w2.1 2 0)) dX6_writesStackPointer_28 rfl rfl ?_
        refine xj_opwrites dX6_writesStackPointer_31 tw2446 ?_
        refine xj_iconst (v := 2) dX6_writesStackPointer_34 ci_2 ?_
        refine xj_ine (tgt := 42) dX6_writesStackPointer_35 rfl ?_ ?_
        · exact tX6_writesStackPointer_j38 _
        · refine xj_iconst (v := 0) dX6_writesStackPointer_42 ci_0 ?_
          exact tX6_writesStackPointer_j43 _ _
      · exact tX6_writesStackPointer_j38 _
theorem kX6_writesStackPointer (w : xW) : xMet jI mX6_writesStackPointer lC (0, 0) [.ref 2] w (sX6_writesStackPointer w) := xj_met lC_ok (by decide) (Nat.le_of_ble_eq_true rfl) (Nat.zero_le _) (Nat.zero_le _) (tX6_writesStackPointer w)
set_option maxRecDepth 20000 in
def sX6_writesMemory (w : xW) : Option (Int32 × xW) :=
  (if xin (w.1 2 0) 54 then (if (opWr (w.1 2 0)) = 0 then some ((0 : Int32), w) else (if (w.1 2 6) = 0 then some ((0 : Int32), w) else xbd (sX6_startsWithG w) (fun x1 w2 => (if x1 = 0 then some ((1 : Int32), w2) else some ((0 : Int32), w2))))) else none)
set_option maxRecDepth 20000 in
theorem tX6_writesMemory (w : xW) : xJ ιI mX6_writesMemory lC (0, 0) 0 [(0, .ref 2)] [] w (sX6_writesMemory w) := by
  unfold sX6_writesMemory
  refine xj_aloadn 0 dX6_writesMemory_0 rfl rfl ?_
  refine gfX6_15 (v := (w.1 2 0)) dX6_writesMemory_1 rfl rfl ?_
  refine xj_opwrites dX6_writesMemory_4 tw2446 ?_
  refine xj_ifeq (tgt := 28) dX6_writesMemory_7 rfl ?_ ?_
  · refine xj_iconst (v := 0) dX6_writesMemory_28 ci_0 ?_
    exact xj_rz dX6_writesMemory_29 rfl (Or.inl rfl)
  · refine xj_aloadn 0 dX6_writesMemory_10 rfl rfl ?_
    refine gfX6_48 (v := (w.1 2 6)) dX6_writesMemory_11 rfl rfl ?_
    refine xj_ifeq (tgt := 28) dX6_writesMemory_14 rfl ?_ ?_
    · refine xj_iconst (v := 0) dX6_writesMemory_28 ci_0 ?_
      exact xj_rz dX6_writesMemory_29 rfl (Or.inl rfl)
    · refine xj_aloadn 0 dX6_writesMemory_17 rfl rfl ?_
      refine xj_cVi (argv := []) (rest := []) dX6_writesMemory_18 (kX6_startsWithG w) mkX6_startsWithG tw818 rfl rfl rfl rfl rfl rfl (fun x1 w2 => ?_)
      refine xj_ifne (tgt := 28) dX6_writesMemory_21 rfl ?_ ?_
      · refine xj_iconst (v := 1) dX6_writesMemory_24 ci_1 ?_
        refine xj_goto (tgt := 29) dX6_writesMemory_25 rfl ?_
        exact xj_rz dX6_writesMemory_29 rfl (Or.inr rfl)
      · refine xj_iconst (v := 0) dX6_writesMemory_28 ci_0 ?_
        exact xj_rz dX6_writesMemory_29 rfl (Or.inl rfl)
theorem kX6_writesMemory (w : xW) : xMet jI mX6_writesMemory lC (0, 0) [.ref 2] w (sX6_writesMemory w) := xj_met lC_ok (by decide) (Nat.le_of_ble_eq_true rfl) (Nat.zero_le _) (Nat.zero_le _) (tX6_writesMemory w)
set_option maxRecDepth 20000 in
def sX6_isNear (w : xW) : Option (Int32 × xW) :=
  (if (w.1 2 6) = 0 then some ((0 : Int32), w) else (if (w.1 2 9) = (-1 : Int32) then some ((0 : Int32), w) else (if (w.1 2 10) = (-1 : Int32) then (if (w.1 2 12) < (-2048 : Int32) then some ((0 : Int32), w) else (if (2047 : Int32) < (w.1 2 12) then some ((0 : Int32), w) else some ((1 : Int32), w))) else some ((0 : Int32), w))))
set_option maxRecDepth 20000 in
theorem tX6_isNear (w : xW) : xJ ιI mX6_isNear lC (0, 0) 0 [(0, .ref 2)] [] w (sX6_isNear w) := by
  unfold sX6_isNear
  refine xj_aloadn 0 dX6_isNear_0 rfl rfl ?_
  refine gfX6_48 (v := (w.1 2 6)) dX6_isNear_1 rfl rfl ?_
  refine xj_ifeq (tgt := 47) dX6_isNear_4 rfl ?_ ?_
  · refine xj_iconst (v := 0) dX6_isNear_47 ci_0 ?_
    exact xj_rz dX6_isNear_48 rfl (Or.inl rfl)
  · refine xj_aloadn 0 dX6_isNear_7 rfl rfl ?_
    refine gfX6_52 (v := (w.1 2 9)) dX6_isNear_8 rfl rfl ?_
    refine xj_iconst (v := -1) dX6_isNear_11 ci_m1 ?_
    refine xj_ieq (tgt := 47) dX6_isNear_12 rfl ?_ ?_
    · refine xj_iconst (v := 0) dX6_isNear_47 ci_0 ?_
      exact xj_rz dX6_isNear_48 rfl (Or.inl rfl)
    · refine xj_aloadn 0 dX6_isNear_15 rfl rfl ?_
      refine gfX6_55 (v := (w.1 2 10)) dX6_isNear_16 rfl rfl ?_
      refine xj_iconst (v := -1) dX6_isNear_19 ci_m1 ?_
      refine xj_ine (tgt := 47) dX6_isNear_20 rfl ?_ ?_
      · refine xj_aloadn 0 dX6_isNear_23 rfl rfl ?_
        refine gfX6_61 (v := (w.1 2 12)) dX6_isNear_24 rfl rfl ?_
        refine xj_sipush (v := -2048) dX6_isNear_27 cs_m2048 ?_
        refine xj_ilt (tgt := 47) dX6_isNear_30 rfl ?_ ?_
        · refine xj_iconst (v := 0) dX6_isNear_47 ci_0 ?_
          exact xj_rz dX6_isNear_48 rfl (Or.inl rfl)
        · refine xj_aloadn 0 dX6_isNear_33 rfl rfl ?_
          refine gfX6_61 (v := (w.1 2 12)) dX6_isNear_34 rfl rfl ?_
          refine xj_sipush (v := 2047) dX6_isNear_37 cs_2047 ?_
          refine xj_igt (tgt := 47) dX6_isNear_40 rfl ?_ ?_
          · refine xj_iconst (v := 0) dX6_isNear_47 ci_0 ?_
            exact xj_rz dX6_isNear_48 rfl (Or.inl rfl)
          · refine xj_iconst (v := 1) dX6_isNear_43 ci_1 ?_
            refine xj_goto (tgt := 48) dX6_isNear_44 rfl ?_
            exact xj_rz dX6_isNear_48 rfl (Or.inr rfl)
      · refine xj_iconst (v := 0) dX6_isNear_47 ci_0 ?_
        exact xj_rz dX6_isNear_48 rfl (Or.inl rfl)
theorem kX6_isNear (w : xW) : xMet jI mX6_isNear lC (0, 0) [.ref 2] w (sX6_isNear w) := xj_met lC_ok (by decide) (Nat.le_of_ble_eq_true rfl) (Nat.zero_le _) (Nat.zero_le _) (tX6_isNear w)
set_option maxRecDepth 20000 in
def sX6_isFixedInData (w : xW) : Option (Int32 × xW) :=
  (if (w.1 2 6) = 0 then some ((0 : Int32), w) else (if (w.1 2 9) = (-1 : Int32) then (if (w.1 2 10) = (-1 : Int32) then xbd (sX8_inData (w.1 2 12) ((w.1 2 5).toInt64) w) (fun x1 w2 => (if x1 = 0 then some ((0 : Int32), w2) else some ((1 : Int32), w2))) else some ((0 : Int32), w)) else some ((0 : Int32), w)))
set_option maxRecDepth 20000 in
theorem tX6_isFixedInData (w : xW) : xJ ιI mX6_isFixedInData lC (0, 0) 0 [(0, .ref 2)] [] w (sX6_isFixedInData w) := by
  unfold sX6_isFixedInData
  refine xj_aloadn 0 dX6_isFixedInData_0 rfl rfl ?_
  refine gfX6_48 (v := (w.1 2 6)) dX6_isFixedInData_1 rfl rfl ?_
  refine xj_ifeq (tgt := 42) dX6_isFixedInData_4 rfl ?_ ?_
  · refine xj_iconst (v := 0) dX6_isFixedInData_42 ci_0 ?_
    exact xj_rz dX6_isFixedInData_43 rfl (Or.inl rfl)
  · refine xj_aloadn 0 dX6_isFixedInData_7 rfl rfl ?_
    refine gfX6_52 (v := (w.1 2 9)) dX6_isFixedInData_8 rfl rfl ?_
    refine xj_iconst (v := -1) dX6_isFixedInData_11 ci_m1 ?_
    refine xj_ine (tgt := 42) dX6_isFixedInData_12 rfl ?_ ?_
    · refine xj_aloadn 0 dX6_isFixedInData_15 rfl rfl ?_
      refine gfX6_55 (v := (w.1 2 10)) dX6_isFixedInData_16 rfl rfl ?_
      refine xj_iconst (v := -1) dX6_isFixedInData_19 ci_m1 ?_
      refine xj_ine (tgt := 42) dX6_isFixedInData_20 rfl ?_ ?_
      · refine xj_aloadn 0 dX6_isFixedInData_23 rfl rfl ?_
        refine gfX6_61 (v := (w.1 2 12)) dX6_isFixedInData_24 rfl rfl ?_
        refine xj_aloadn 0 dX6_isFixedInData_27 rfl rfl ?_
        refine gfX6_33 (v := (w.1 2 5)) dX6_isFixedInData_28 rfl rfl ?_
        refine xj_i2l dX6_isFixedInData_31 ?_
        refine xj_cSi (argv := [.int (w.1 2 12), .long ((w.1 2 5).toInt64)]) (rest := []) dX6_isFixedInData_32 (kX8_inData (w.1 2 12) ((w.1 2 5).toInt64) w) mkX8_inData tw834 rfl rfl rfl rfl (fun x1 w2 => ?_)
        refine xj_ifeq (tgt := 42) dX6_isFixedInData_35 rfl ?_ ?_
        · refine xj_iconst (v := 0) dX6_isFixedInData_42 ci_0 ?_
          exact xj_rz dX6_isFixedInData_43 rfl (Or.inl rfl)
        · refine xj_iconst (v := 1) dX6_isFixedInData_38 ci_1 ?_
          refine xj_goto (tgt := 43) dX6_isFixedInData_39 rfl ?_
          exact xj_rz dX6_isFixedInData_43 rfl (Or.inr rfl)
      · refine xj_iconst (v := 0) dX6_isFixedInData_42 ci_0 ?_
        exact xj_rz dX6_isFixedInData_43 rfl (Or.inl rfl)
    · refine xj_iconst (v := 0) dX6_isFixedInData_42 ci_0 ?_
      exact xj_rz dX6_isFixedInData_43 rfl (Or.inl rfl)
theorem kX6_isFixedInData (w : xW) : xMet jI mX6_isFixedInData lC (0, 0) [.ref 2] w (sX6_isFixedInData w) := xj_met lC_ok (by decide) (Nat.le_of_ble_eq_true rfl) (Nat.zero_le _) (Nat.zero_le _) (tX6_isFixedInData w)
set_option maxRecDepth 20000 in
def sX6_isMask (p1 : Int32) (p2 : Int32) (p3 : Int32) (w : xW) : Option (Int32 × xW) :=
  (if xin (w.1 2 0) 54 ∧ xin p1 54 then (if (w.1 2 0) = p1 then (if (w.1 2 2) = p2 then (if (w.1 2 6) = 0 then (if (w.1 2 13) = p3 then some ((1 : Int32), w) else some ((0 : Int32), w)) else some ((0 : Int32), w)) else some ((0 : Int32), w)) else some ((0 : Int32), w)) else none)
set_option maxRecDepth 20000 in
theorem tX6_isMask (p1 : Int32) (p2 : Int32) (p3 : Int32) (w : xW) : xJ ιI mX6_isMask lC (0, 0) 0 [(0, .ref 2), (1, .ref (2000 + p1.toNatClampNeg)), (2, .int p2), (3, .int p3)] [] w (sX6_isMask p1 p2 p3 w) := by
  unfold sX6_isMask
  refine xj_aloadn 0 dX6_isMask_0 rfl rfl ?_
  refine gfX6_15 (v := (w.1 2 0)) dX6_isMask_1 rfl rfl ?_
  refine xj_aloadn 1 dX6_isMask_4 rfl rfl ?_
  refine xj_guard (fun hq => ?_)
  refine xj_ane hq.1 hq.2 (tgt := 35) dX6_isMask_5 rfl ?_ ?_
  · refine xj_aloadn 0 dX6_isMask_8 rfl rfl ?_
    refine gfX6_24 (v := (w.1 2 2)) dX6_isMask_9 rfl rfl ?_
    refine xj_iloadn 2 dX6_isMask_12 rfl rfl ?_
    refine xj_ine (tgt := 35) dX6_isMask_13 rfl ?_ ?_
    · refine xj_aloadn 0 dX6_isMask_16 rfl rfl ?_
      refine gfX6_48 (v := (w.1 2 6)) dX6_isMask_17 rfl rfl ?_
      refine xj_ifne (tgt := 35) dX6_isMask_20 rfl ?_ ?_
      · refine xj_aloadn 0 dX6_isMask_23 rfl rfl ?_
        refine gfX6_42 (v := (w.1 2 13)) dX6_isMask_24 rfl rfl ?_
        refine xj_iloadn 3 dX6_isMask_27 rfl rfl ?_
        refine xj_ine (tgt := 35) dX6_isMask_28 rfl ?_ ?_
        · refine xj_iconst (v := 1) dX6_isMask_31 ci_1 ?_
          refine xj_goto (tgt := 36) dX6_isMask_32 rfl ?_
          exact xj_rz dX6_isMask_36 rfl (Or.inr rfl)
        · refine xj_iconst (v := 0) dX6_isMask_35 ci_0 ?_
          exact xj_rz dX6_isMask_36 rfl (Or.inl rfl)
      · refine xj_iconst (v := 0) dX6_isMask_35 ci_0 ?_
        exact xj_rz dX6_isMask_36 rfl (Or.inl rfl)
    · refine xj_iconst (v := 0) dX6_isMask_35 ci_0 ?_
      exact xj_rz dX6_isMask_36 rfl (Or.inl rfl)
  · refine xj_iconst (v := 0) dX6_isMask_35 ci_0 ?_
    exact xj_rz dX6_isMask_36 rfl (Or.inl rfl)
theorem kX6_isMask (p1 : Int32) (p2 : Int32) (p3 : Int32) (w : xW) : xMet jI mX6_isMask lC (0, 0) [.ref 2, .ref (2000 + p1.toNatClampNeg), .int p2, .int p3] w (sX6_isMask p1 p2 p3 w) := xj_met lC_ok (by decide) (Nat.le_of_ble_eq_true rfl) (Nat.zero_le _) (Nat.zero_le _) (tX6_isMask p1 p2 p3 w)
set_option maxRecDepth 20000 in
def sX6_isRegisterJump (w : xW) : Option (Int32 × xW) :=
  (if (w.1 2 1) = (5 : Int32) then (if xin (w.1 2 0) 54 ∧ xin (44 : Int32) 54 then (if (w.1 2 0) = (44 : Int32) then some ((1 : Int32), w) else (if xin (w.1 2 0) 54 ∧ xin (45 : Int32) 54 then (if (w.1 2 0) = (45 : Int32) then some ((1 : Int32), w) else some ((0 : Int32), w)) else none)) else none) else some ((0 : Int32), w))
set_option maxRecDepth 20000 in
theorem tX6_isRegisterJump (w : xW) : xJ ιI mX6_isRegisterJump lC (0, 0) 0 [(0, .ref 2)] [] w (sX6_isRegisterJump w) := by
  unfold sX6_isRegisterJump
  refine xj_aloadn 0 dX6_isRegisterJump_0 rfl rfl ?_
  refine gfX6_20 (v := (w.1 2 1)) dX6_isRegisterJump_1 rfl rfl ?_
  refine xj_iconst (v := 5) dX6_isRegisterJump_4 ci_5 ?_
  refine xj_ine (tgt := 32) dX6_isRegisterJump_5 rfl ?_ ?_
  · refine xj_aloadn 0 dX6_isRegisterJump_8 rfl rfl ?_
    refine gfX6_15 (v := (w.1 2 0)) dX6_isRegisterJump_9 rfl rfl ?_
    refine xj_gse (n := 44) 44 dX6_isRegisterJump_12 (Nat.le_of_ble_eq_true rfl) rfl tw852 ?_
    refine xj_guard (fun hq => ?_)
    refine xj_aeq hq.1 hq.2 (tgt := 28) dX6_isRegisterJump_15 rfl ?_ ?_
    · refine xj_iconst (v := 1) dX6_isRegisterJump_28 ci_1 ?_
      refine xj_goto (tgt := 33) dX6_isRegisterJump_29 rfl ?_
      exact xj_rz dX6_isRegisterJump_33 rfl (Or.inr rfl)
    · refine xj_aloadn 0 dX6_isRegisterJump_18 rfl rfl ?_
      refine gfX6_15 (v := (w.1 2 0)) dX6_isRegisterJump_19 rfl rfl ?_
      refine xj_gse (n := 45) 45 dX6_isRegisterJump_22 (Nat.le_of_ble_eq_true rfl) rfl tw853 ?_
      refine xj_guard (fun hq => ?_)
      refine xj_ane hq.1 hq.2 (tgt := 32) dX6_isRegisterJump_25 rfl ?_ ?_
      · refine xj_iconst (v := 1) dX6_isRegisterJump_28 ci_1 ?_
        refine xj_goto (tgt := 33) dX6_isRegisterJump_29 rfl ?_
        exact xj_rz dX6_isRegisterJump_33 rfl (Or.inr rfl)
      · refine xj_iconst (v := 0) dX6_isRegisterJump_32 ci_0 ?_
        exact xj_rz dX6_isRegisterJump_33 rfl (Or.inl rfl)
  · refine xj_iconst (v := 0) dX6_isRegisterJump_32 ci_0 ?_
    exact xj_rz dX6_isRegisterJump_33 rfl (Or.inl rfl)
theorem kX6_isRegisterJump (w : xW) : xMet jI mX6_isRegisterJump lC (0, 0) [.ref 2] w (sX6_isRegisterJump w) := xj_met lC_ok (by decide) (Nat.le_of_ble_eq_true rfl) (Nat.zero_le _) (Nat.zero_le _) (tX6_isRegisterJump w)
set_option maxRecDepth 20000 in
def sX5_traitsOfIt_j221 (b0 : Int32) (w : xW) : Option (Int32 × xW) :=
  some ((b0 ||| (512 : Int32)), w)
set_option maxRecDepth 20000 in
theorem tX5_traitsOfIt_j221 (b0 : Int32) (w : xW) : xJ ιI mX5_traitsOfIt lC (0, 0) 221 [] [.int b0] w (sX5_traitsOfIt_j221 b0 w) := by
  unfold sX5_traitsOfIt_j221
  refine xj_sipush (v := 512) dX5_traitsOfIt_221 cs_512 ?_
  refine xj_goto (tgt := 228) dX5_traitsOfIt_224 rfl ?_
  refine xj_ior dX5_traitsOfIt_228 ?_
  refine xj_istoren (lv2 := [(1, .int (b0 ||| (512 : Int32)))]) dX5_traitsOfIt_229 rfl (Nat.le_of_ble_eq_true rfl) rfl ?_
  refine xj_iloadn 0 dX5_traitsOfIt_230 rfl rfl ?_
  exact xj_ri dX5_traitsOfIt_231 rfl
set_option maxRecDepth 20000 in
def sX5_traitsOfIt_j192 (b0 : Int32) (b1 : Int32) (w : xW) : Option (Int32 × xW) :=
  (if xin (w.1 2 0) 54 ∧ xin (49 : Int32) 54 then (if (w.1 2 0) = (49 : Int32) then sX5_traitsOfIt_j221 (b1 ||| b0) w else (if xin (w.1 2 0) 54 ∧ xin (45 : Int32) 54 then (if (w.1 2 0) = (45 : Int32) then sX5_traitsOfIt_j221 (b1 ||| b0) w else some (((b1 ||| b0) ||| (0 : Int32)), w)) else none)) else none)
set_option maxRecDepth 20000 in
theorem tX5_traitsOfIt_j192 (b0 : Int32) (b1 : Int32) (w : xW) : xJ ιI mX5_traitsOfIt lC (0, 0) 192 [(0, .ref 4)] [.int b0, .int b1] w (sX5_traitsOfIt_j192 b0 b1 w) := by
  unfold sX5_traitsOfIt_j192
  refine xj_ior dX5_traitsOfIt_192 ?_
  refine xj_istoren (lv2 := [(1, .int (b1 ||| b0)), (0, .ref 4)]) dX5_traitsOfIt_193 rfl (Nat.le_of_ble_eq_true rfl) rfl ?_
  refine xj_iloadn 0 dX5_traitsOfIt_194 rfl rfl ?_
  refine xj_aloadn 1 dX5_traitsOfIt_195 rfl rfl ?_
  refine gfX5_41 dX5_traitsOfIt_196 rfl ?_
  refine gfX5_126 (v := (w.1 2 0)) dX5_traitsOfIt_199 rfl rfl ?_
  refine xj_gse (n := 49) 49 dX5_traitsOfIt_202 (Nat.le_of_ble_eq_true rfl) rfl tw858 ?_
  refine xj_guard (fun hq => ?_)
  refine xj_aeq hq.1 hq.2 (tgt := 221) dX5_traitsOfIt_205 rfl ?_ ?_
  · refine xj_sub (lv2 := []) [] rfl ?_
    exact tX5_traitsOfIt_j221 _ _
  · refine xj_aloadn 1 dX5_traitsOfIt_208 rfl rfl ?_
    refine gfX5_41 dX5_traitsOfIt_209 rfl ?_
    refine gfX5_126 (v := (w.1 2 0)) dX5_traitsOfIt_212 rfl rfl ?_
    refine xj_gse (n := 45) 45 dX5_traitsOfIt_215 (Nat.le_of_ble_eq_true rfl) rfl tw859 ?_
    refine xj_guard (fun hq => ?_)
    refine xj_ane hq.1 hq.2 (tgt := 227) dX5_traitsOfIt_218 rfl ?_ ?_
    · refine xj_sub (lv2 := []) [] rfl ?_
      exact tX5_traitsOfIt_j221 _ _
    · refine xj_iconst (v := 0) dX5_traitsOfIt_227 ci_0 ?_
      refine xj_ior dX5_traitsOfIt_228 ?_
      refine xj_istoren (lv2 := [(1, .int ((b1 ||| b0) ||| (0 : Int32))), (0, .ref 4)]) dX5_traitsOfIt_229 rfl (Nat.le_of_ble_eq_true rfl) rfl ?_
      refine xj_iloadn 0 dX5_traitsOfIt_230 rfl rfl ?_
      exact xj_ri dX5_traitsOfIt_231 rfl
set_option maxRecDepth 20000 in
def sX5_traitsOfIt_j170 (b0 : Int32) (b1 : Int32) (w : xW) : Option (Int32 × xW) :=
  (if (w.1 2 1) = (9 : Int32) then sX5_traitsOfIt_j192 (256 : Int32) (b1 ||| b0) w else sX5_traitsOfIt_j192 (0 : Int32) (b1 ||| b0) w)
set_option maxRecDepth 20000 in
theorem tX5_traitsOfIt_j170 (b0 : Int32) (b1 : Int32) (w : xW) : xJ ιI mX5_traitsOfIt lC (0, 0) 170 [(0, .ref 4)] [.int b0, .int b1] w (sX5_traitsOfIt_j170 b0 b1 w) := by
  unfold sX5_traitsOfIt_j170
  refine xj_ior dX5_traitsOfIt_170 ?_
  refine xj_istoren (lv2 := [(1, .int (b1 ||| b0)), (0, .ref 4)]) dX5_traitsOfIt_171 rfl (Nat.le_of_ble_eq_true rfl) rfl ?_
  refine xj_iloadn 0 dX5_traitsOfIt_172 rfl rfl ?_
  refine xj_aloadn 1 dX5_traitsOfIt_173 rfl rfl ?_
  refine gfX5_41 dX5_traitsOfIt_174 rfl ?_
  refine gfX5_123 (v := (w.1 2 1)) dX5_traitsOfIt_177 rfl rfl ?_
  refine xj_bipush (v := 9) dX5_traitsOfIt_180 cb_9 ?_
  refine xj_ine (tgt := 191) dX5_traitsOfIt_182 rfl ?_ ?_
  · refine xj_sipush (v := 256) dX5_traitsOfIt_185 cs_256 ?_
    refine xj_goto (tgt := 192) dX5_traitsOfIt_188 rfl ?_
    refine xj_sub (lv2 := [(0, .ref 4)]) [1] rfl ?_
    exact tX5_traitsOfIt_j192 _ _ _
  · refine xj_iconst (v := 0) dX5_traitsOfIt_191 ci_0 ?_
    refine xj_sub (lv2 := [(0, .ref 4)]) [1] rfl ?_
    exact tX5_traitsOfIt_j192 _ _ _
set_option maxRecDepth 20000 in
def sX5_traitsOfIt_j142 (b0 : Int32) (b1 : Int32) (w : xW) : Option (Int32 × xW) :=
  xbd (sX6_isMask (1 : Int32) (129 : Int32) (65536 : Int32) w) (fun x1 w2 => (if x1 = 0 then sX5_traitsOfIt_j170 (0 : Int32) (b1 ||| b0) w2 else sX5_traitsOfIt_j170 (128 : Int32) (b1 ||| b0) w2))
set_option maxRecDepth 20000 in
theorem tX5_traitsOfIt_j142 (b0 : Int32) (b1 : Int32) (w : xW) : xJ ιI mX5_traitsOfIt lC (0, 0) 142 [(0, .ref 4)] [.int b0, .int b1] w (sX5_traitsOfIt_j142 b0 b1 w) := by
  unfold sX5_traitsOfIt_j142
  refine xj_ior dX5_traitsOfIt_142 ?_
  refine xj_istoren (lv2 := [(1, .int (b1 ||| b0)), (0, .ref 4)]) dX5_traitsOfIt_143 rfl (Nat.le_of_ble_eq_true rfl) rfl ?_
  refine xj_iloadn 0 dX5_traitsOfIt_144 rfl rfl ?_
  refine xj_aloadn 1 dX5_traitsOfIt_145 rfl rfl ?_
  refine gfX5_41 dX5_traitsOfIt_146 rfl ?_
  refine xj_gse (n := 1) 1 dX5_traitsOfIt_149 (Nat.le_of_ble_eq_true rfl) rfl tw855 ?_
  refine xj_sipush (v := 129) dX5_traitsOfIt_152 cs_129 ?_
  refine xj_ldc (v := 65536) tw857 dX5_traitsOfIt_155 ?_
  refine xj_cVi (argv := [.ref (2000 + (1 : Int32).toNatClampNeg), .int (129 : Int32), .int (65536 : Int32)]) (rest := [.int (b1 ||| b0)]) dX5_traitsOfIt_157 (kX6_isMask (1 : Int32) (129 : Int32) (65536 : Int32) w) mkX6_isMask tw844 rfl rfl rfl rfl rfl rfl (fun x1 w2 => ?_)
  refine xj_ifeq (tgt := 169) dX5_traitsOfIt_160 rfl ?_ ?_
  · refine xj_iconst (v := 0) dX5_traitsOfIt_169 ci_0 ?_
    refine xj_sub (lv2 := [(0, .ref 4)]) [1] rfl ?_
    exact tX5_traitsOfIt_j170 _ _ _
  · refine xj_sipush (v := 128) dX5_traitsOfIt_163 cs_128 ?_
    refine xj_goto (tgt := 170) dX5_traitsOfIt_166 rfl ?_
    refine xj_sub (lv2 := [(0, .ref 4)]) [1] rfl ?_
    exact tX5_traitsOfIt_j170 _ _ _
set_option maxRecDepth 20000 in
def sX5_traitsOfIt_j115 (b0 : Int32) (b1 : Int32) (w : xW) : Option (Int32 × xW) :=
  xbd (sX6_isMask (4 : Int32) (129 : Int32) (65535 : Int32) w) (fun x1 w2 => (if x1 = 0 then sX5_traitsOfIt_j142 (0 : Int32) (b1 ||| b0) w2 else sX5_traitsOfIt_j142 (64 : Int32) (b1 ||| b0) w2))
set_option maxRecDepth 20000 in
theorem tX5_traitsOfIt_j115 (b0 : Int32) (b1 : Int32) (w : xW) : xJ ιI mX5_traitsOfIt lC (0, 0) 115 [(0, .ref 4)] [.int b0, .int b1] w (sX5_traitsOfIt_j115 b0 b1 w) := by
  unfold sX5_traitsOfIt_j115
  refine xj_ior dX5_traitsOfIt_115 ?_
  refine xj_istoren (lv2 := [(1, .int (b1 ||| b0)), (0, .ref 4)]) dX5_traitsOfIt_116 rfl (Nat.le_of_ble_eq_true rfl) rfl ?_
  refine xj_iloadn 0 dX5_traitsOfIt_117 rfl rfl ?_
  refine xj_aloadn 1 dX5_traitsOfIt_118 rfl rfl ?_
  refine gfX5_41 dX5_traitsOfIt_119 rfl ?_
  refine xj_gse (n := 4) 4 dX5_traitsOfIt_122 (Nat.le_of_ble_eq_true rfl) rfl tw842 ?_
  refine xj_sipush (v := 129) dX5_traitsOfIt_125 cs_129 ?_
  refine xj_ldc (v := 65535) tw854 dX5_traitsOfIt_128 ?_
  refine xj_cVi (argv := [.ref (2000 + (4 : Int32).toNatClampNeg), .int (129 : Int32), .int (65535 : Int32)]) (rest := [.int (b1 ||| b0)]) dX5_traitsOfIt_130 (kX6_isMask (4 : Int32) (129 : Int32) (65535 : Int32) w) mkX6_isMask tw844 rfl rfl rfl rfl rfl rfl (fun x1 w2 => ?_)
  refine xj_ifeq (tgt := 141) dX5_traitsOfIt_133 rfl ?_ ?_
  · refine xj_iconst (v := 0) dX5_traitsOfIt_141 ci_0 ?_
    refine xj_sub (lv2 := [(0, .ref 4)]) [1] rfl ?_
    exact tX5_traitsOfIt_j142 _ _ _
  · refine xj_bipush (v := 64) dX5_traitsOfIt_136 cb_64 ?_
    refine xj_goto (tgt := 142) dX5_traitsOfIt_138 rfl ?_
    refine xj_sub (lv2 := [(0, .ref 4)]) [1] rfl ?_
    exact tX5_traitsOfIt_j142 _ _ _
set_option maxRecDepth 20000 in
def sX5_traitsOfIt_j96 (b0 : Int32) (b1 : Int32) (w : xW) : Option (Int32 × xW) :=
  xbd (sX6_isRegisterJump w) (fun x1 w2 => (if x1 = 0 then sX5_traitsOfIt_j115 (0 : Int32) (b1 ||| b0) w2 else sX5_traitsOfIt_j115 (32 : Int32) (b1 ||| b0) w2))
set_option maxRecDepth 20000 in
theorem tX5_traitsOfIt_j96 (b0 : Int32) (b1 : Int32) (w : xW) : xJ ιI mX5_traitsOfIt lC (0, 0) 96 [(0, .ref 4)] [.int b0, .int b1] w (sX5_traitsOfIt_j96 b0 b1 w) := by
  unfold sX5_traitsOfIt_j96
  refine xj_ior dX5_traitsOfIt_96 ?_
  refine xj_istoren (lv2 := [(1, .int (b1 ||| b0)), (0, .ref 4)]) dX5_traitsOfIt_97 rfl (Nat.le_of_ble_eq_true rfl) rfl ?_
  refine xj_iloadn 0 dX5_traitsOfIt_98 rfl rfl ?_
  refine xj_aloadn 1 dX5_traitsOfIt_99 rfl rfl ?_
  refine gfX5_41 dX5_traitsOfIt_100 rfl ?_
  refine xj_cVi (argv := []) (rest := [.int (b1 ||| b0)]) dX5_traitsOfIt_103 (kX6_isRegisterJump w) mkX6_isRegisterJump tw848 rfl rfl rfl rfl rfl rfl (fun x1 w2 => ?_)
  refine xj_ifeq (tgt := 114) dX5_traitsOfIt_106 rfl ?_ ?_
  · refine xj_iconst (v := 0) dX5_traitsOfIt_114 ci_0 ?_
    refine xj_sub (lv2 := [(0, .ref 4)]) [1] rfl ?_
    exact tX5_traitsOfIt_j115 _ _ _
  · refine xj_bipush (v := 32) dX5_traitsOfIt_109 cb_32 ?_
    refine xj_goto (tgt := 115) dX5_traitsOfIt_111 rfl ?_
    refine xj_sub (lv2 := [(0, .ref 4)]) [1] rfl ?_
    exact tX5_traitsOfIt_j115 _ _ _
set_option maxRecDepth 20000 in
def sX5_traitsOfIt_j69 (b0 : Int32) (b1 : Int32) (w : xW) : Option (Int32 × xW) :=
  xbd (sX6_isMask (4 : Int32) (131 : Int32) (-32 : Int32) w) (fun x1 w2 => (if x1 = 0 then sX5_traitsOfIt_j96 (0 : Int32) (b1 ||| b0) w2 else sX5_traitsOfIt_j96 (16 : Int32) (b1 ||| b0) w2))
set_option maxRecDepth 20000 in
theorem tX5_traitsOfIt_j69 (b0 : Int32) (b1 : Int32) (w : xW) : xJ ιI mX5_traitsOfIt lC (0, 0) 69 [(0, .ref 4)] [.int b0, .int b1] w (sX5_traitsOfIt_j69 b0 b1 w) := by
  unfold sX5_traitsOfIt_j69
  refine xj_ior dX5_traitsOfIt_69 ?_
  refine xj_istoren (lv2 := [(1, .int (b1 ||| b0)), (0, .ref 4)]) dX5_traitsOfIt_70 rfl (Nat.le_of_ble_eq_true rfl) rfl ?_
  refine xj_iloadn 0 dX5_traitsOfIt_71 rfl rfl ?_
  refine xj_aloadn 1 dX5_traitsOfIt_72 rfl rfl ?_
  refine gfX5_41 dX5_traitsOfIt_73 rfl ?_
  refine xj_gse (n := 4) 4 dX5_traitsOfIt_76 (Nat.le_of_ble_eq_true rfl) rfl tw842 ?_
  refine xj_sipush (v := 131) dX5_traitsOfIt_79 cs_131 ?_
  refine xj_bipush (v := -32) dX5_traitsOfIt_82 cb_m32 ?_
  refine xj_cVi (argv := [.ref (2000 + (4 : Int32).toNatClampNeg), .int (131 : Int32), .int (-32 : Int32)]) (rest := [.int (b1 ||| b0)]) dX5_traitsOfIt_84 (kX6_isMask (4 : Int32) (131 : Int32) (-32 : Int32) w) mkX6_isMask tw844 rfl rfl rfl rfl rfl rfl (fun x1 w2 => ?_)
  refine xj_ifeq (tgt := 95) dX5_traitsOfIt_87 rfl ?_ ?_
  · refine xj_iconst (v := 0) dX5_traitsOfIt_95 ci_0 ?_
    refine xj_sub (lv2 := [(0, .ref 4)]) [1] rfl ?_
    exact tX5_traitsOfIt_j96 _ _ _
  · refine xj_bipush (v := 16) dX5_traitsOfIt_90 cb_16 ?_
    refine xj_goto (tgt := 96) dX5_traitsOfIt_92 rfl ?_
    refine xj_sub (lv2 := [(0, .ref 4)]) [1] rfl ?_
    exact tX5_traitsOfIt_j96 _ _ _
set_option maxRecDepth 20000 in
def sX5_traitsOfIt_j50 (b0 : Int32) (b1 : Int32) (w : xW) : Option (Int32 × xW) :=
  xbd (sX6_isFixedInData w) (fun x1 w2 => (if x1 = 0 then sX5_traitsOfIt_j69 (0 : Int32) (b1 ||| b0) w2 else sX5_traitsOfIt_j69 (8 : Int32) (b1 ||| b0) w2))
set_option maxRecDepth 20000 in
theorem tX5_traitsOfIt_j50 (b0 : Int32) (b1 : Int32) (w : xW) : xJ ιI mX5_traitsOfIt lC (0, 0) 50 [(0, .ref 4)] [.int b0, .int b1] w (sX5_traitsOfIt_j50 b0 b1 w) := by
  unfold sX5_traitsOfIt_j50
  refine xj_ior dX5_traitsOfIt_50 ?_
  refine xj_istoren (lv2 := [(1, .int (b1 ||| b0)), (0, .ref 4)]) dX5_traitsOfIt_51 rfl (Nat.le_of_ble_eq_true rfl) rfl ?_
  refine xj_iloadn 0 dX5_traitsOfIt_52 rfl rfl ?_
  refine xj_aloadn 1 dX5_traitsOfIt_53 rfl rfl ?_
  refine gfX5_41 dX5_traitsOfIt_54 rfl ?_
  refine xj_cVi (argv := []) (rest := [.int (b1 ||| b0)]) dX5_traitsOfIt_57 (kX6_isFixedInData w) mkX6_isFixedInData tw830 rfl rfl rfl rfl rfl rfl (fun x1 w2 => ?_)
  refine xj_ifeq (tgt := 68) dX5_traitsOfIt_60 rfl ?_ ?_
  · refine xj_iconst (v := 0) dX5_traitsOfIt_68 ci_0 ?_
    refine xj_sub (lv2 := [(0, .ref 4)]) [1] rfl ?_
    exact tX5_traitsOfIt_j69 _ _ _
  · refine xj_bipush (v := 8) dX5_traitsOfIt_63 cb_8 ?_
    refine xj_goto (tgt := 69) dX5_traitsOfIt_65 rfl ?_
    refine xj_sub (lv2 := [(0, .ref 4)]) [1] rfl ?_
    exact tX5_traitsOfIt_j69 _ _ _
set_option maxRecDepth 20000 in
def sX5_traitsOfIt_j32 (b0 : Int32) (b1 : Int32) (w : xW) : Option (Int32 × xW) :=
  xbd (sX6_isNear w) (fun x1 w2 => (if x1 = 0 then sX5_traitsOfIt_j50 (0 : Int32) (b1 ||| b0) w2 else sX5_traitsOfIt_j50 (4 : Int32) (b1 ||| b0) w2))
set_option maxRecDepth 20000 in
theorem tX5_traitsOfIt_j32 (b0 : Int32) (b1 : Int32) (w : xW) : xJ ιI mX5_traitsOfIt lC (0, 0) 32 [(0, .ref 4)] [.int b0, .int b1] w (sX5_traitsOfIt_j32 b0 b1 w) := by
  unfold sX5_traitsOfIt_j32
  refine xj_ior dX5_traitsOfIt_32 ?_
  refine xj_istoren (lv2 := [(1, .int (b1 ||| b0)), (0, .ref 4)]) dX5_traitsOfIt_33 rfl (Nat.le_of_ble_eq_true rfl) rfl ?_
  refine xj_iloadn 0 dX5_traitsOfIt_34 rfl rfl ?_
  refine xj_aloadn 1 dX5_traitsOfIt_35 rfl rfl ?_
  refine gfX5_41 dX5_traitsOfIt_36 rfl ?_
  refine xj_cVi (argv := []) (rest := [.int (b1 ||| b0)]) dX5_traitsOfIt_39 (kX6_isNear w) mkX6_isNear tw826 rfl rfl rfl rfl rfl rfl (fun x1 w2 => ?_)
  refine xj_ifeq (tgt := 49) dX5_traitsOfIt_42 rfl ?_ ?_
  · refine xj_iconst (v := 0) dX5_traitsOfIt_49 ci_0 ?_
    refine xj_sub (lv2 := [(0, .ref 4)]) [1] rfl ?_
    exact tX5_traitsOfIt_j50 _ _ _
  · refine xj_iconst (v := 4) dX5_traitsOfIt_45 ci_4 ?_
    refine xj_goto (tgt := 50) dX5_traitsOfIt_46 rfl ?_
    refine xj_sub (lv2 := [(0, .ref 4)]) [1] rfl ?_
    exact tX5_traitsOfIt_j50 _ _ _
set_option maxRecDepth 20000 in
def sX5_traitsOfIt_j15 (b0 : Int32) (w : xW) : Option (Int32 × xW) :=
  xbd (sX6_writesMemory w) (fun x1 w2 => (if x1 = 0 then sX5_traitsOfIt_j32 (0 : Int32) b0 w2 else sX5_traitsOfIt_j32 (2 : Int32) b0 w2))
set_option maxRecDepth 20000 in
theorem tX5_traitsOfIt_j15 (b0 : Int32) (w : xW) : xJ ιI mX5_traitsOfIt lC (0, 0) 15 [(0, .ref 4)] [.int b0] w (sX5_traitsOfIt_j15 b0 w) := by
  unfold sX5_traitsOfIt_j15
  refine xj_istoren (lv2 := [(1, .int b0), (0, .ref 4)]) dX5_traitsOfIt_15 rfl (Nat.le_of_ble_eq_true rfl) rfl ?_
  refine xj_iloadn 0 dX5_traitsOfIt_16 rfl rfl ?_
  refine xj_aloadn 1 dX5_traitsOfIt_17 rfl rfl ?_
  refine gfX5_41 dX5_traitsOfIt_18 rfl ?_
  refine xj_cVi (argv := []) (rest := [.int b0]) dX5_traitsOfIt_21 (kX6_writesMemory w) mkX6_writesMemory tw822 rfl rfl rfl rfl rfl rfl (fun x1 w2 => ?_)
  refine xj_ifeq (tgt := 31) dX5_traitsOfIt_24 rfl ?_ ?_
  · refine xj_iconst (v := 0) dX5_traitsOfIt_31 ci_0 ?_
    refine xj_sub (lv2 := [(0, .ref 4)]) [1] rfl ?_
    exact tX5_traitsOfIt_j32 _ _ _
  · refine xj_iconst (v := 2) dX5_traitsOfIt_27 ci_2 ?_
    refine xj_goto (tgt := 32) dX5_traitsOfIt_28 rfl ?_
    refine xj_sub (lv2 := [(0, .ref 4)]) [1] rfl ?_
    exact tX5_traitsOfIt_j32 _ _ _
set_option maxRecDepth 20000 in
def sX5_traitsOfIt (w : xW) : Option (Int32 × xW) :=
  xbd (sX6_writesStackPointer w) (fun x1 w2 => (if x1 = 0 then sX5_traitsOfIt_j15 (0 : Int32) w2 else sX5_traitsOfIt_j15 (1 : Int32) w2))
set_option maxRecDepth 20000 in
theorem tX5_traitsOfIt (w : xW) : xJ ιI mX5_traitsOfIt lC (0, 0) 0 [(0, .ref 4)] [] w (sX5_traitsOfIt w) := by
  unfold sX5_traitsOfIt
  refine xj_aloadn 0 dX5_traitsOfIt_0 rfl rfl ?_
  refine gfX5_41 dX5_traitsOfIt_1 rfl ?_
  refine xj_cVi (argv := []) (rest := []) dX5_traitsOfIt_4 (kX6_writesStackPointer w) mkX6_writesStackPointer tw814 rfl rfl rfl rfl rfl rfl (fun x1 w2 => ?_)
  refine xj_ifeq (tgt := 14) dX5_traitsOfIt_7 rfl ?_ ?_
  · refine xj_iconst (v := 0) dX5_traitsOfIt_14 ci_0 ?_
    exact tX5_traitsOfIt_j15 _ _
  · refine xj_iconst (v := 1) dX5_traitsOfIt_10 ci_1 ?_
    refine xj_goto (tgt := 15) dX5_traitsOfIt_11 rfl ?_
    exact tX5_traitsOfIt_j15 _ _
theorem kX5_traitsOfIt (w : xW) : xMet jI mX5_traitsOfIt lC (0, 0) [.ref 4] w (sX5_traitsOfIt w) := xj_met lC_ok (by decide) (Nat.le_of_ble_eq_true rfl) (Nat.zero_le _) (Nat.zero_le _) (tX5_traitsOfIt w)
set_option maxRecDepth 20000 in
def sX5_refuse (p1 : Int32) (p2 : Int32) (w : xW) : Option (Int32 × xW) :=
  some ((0 : Int32), (xwi (xwi w 4 10 p1) 4 11 p2))
set_option maxRecDepth 20000 in
theorem tX5_refuse (p1 : Int32) (p2 : Int32) (w : xW) : xJ ιI mX5_refuse lC (0, 0) 0 [(0, .ref 4), (1, .int p1), (2, .int p2)] [] w (sX5_refuse p1 p2 w) := by
  unfold sX5_refuse
  refine xj_aloadn 0 dX5_refuse_0 rfl rfl ?_
  refine xj_iloadn 1 dX5_refuse_1 rfl rfl ?_
  refine pfX5_49 dX5_refuse_2 rfl ?_
  refine xj_aloadn 0 dX5_refuse_5 rfl rfl ?_
  refine xj_iloadn 2 dX5_refuse_6 rfl rfl ?_
  refine pfX5_29 dX5_refuse_7 rfl ?_
  refine xj_iconst (v := 0) dX5_refuse_10 ci_0 ?_
  exact xj_ri dX5_refuse_11 rfl
theorem kX5_refuse (p1 : Int32) (p2 : Int32) (w : xW) : xMet jI mX5_refuse lC (0, 0) [.ref 4, .int p1, .int p2] w (sX5_refuse p1 p2 w) := xj_met lC_ok (by decide) (Nat.le_of_ble_eq_true rfl) (Nat.zero_le _) (Nat.zero_le _) (tX5_refuse p1 p2 w)
set_option maxRecDepth 20000 in
def sX5_lengthAt (p1 : Int32) (w : xW) : Option (Int32 × xW) :=
  (if p1 < 0 then some ((0 : Int32), w) else (if p1 < (2048 : Int32) then (if xin p1 2048 then some ((w.1 12 p1.toNatClampNeg), w) else none) else some ((0 : Int32), w)))
set_option maxRecDepth 20000 in
theorem tX5_lengthAt (p1 : Int32) (w : xW) : xJ ιI mX5_lengthAt lC (0, 0) 0 [(0, .ref 4), (1, .int p1)] [] w (sX5_lengthAt p1 w) := by
  unfold sX5_lengthAt
  refine xj_iloadn 1 dX5_lengthAt_0 rfl rfl ?_
  refine xj_iflt (tgt := 20) dX5_lengthAt_1 rfl ?_ ?_
  · refine xj_iconst (v := 0) dX5_lengthAt_20 ci_0 ?_
    exact xj_ri dX5_lengthAt_21 rfl
  · refine xj_iloadn 1 dX5_lengthAt_4 rfl rfl ?_
    refine xj_sipush (v := 2048) dX5_lengthAt_5 cs_2048 ?_
    refine xj_ige (tgt := 20) dX5_lengthAt_8 rfl ?_ ?_
    · refine xj_aloadn 0 dX5_lengthAt_11 rfl rfl ?_
      refine gfX5_13 dX5_lengthAt_12 rfl ?_
      refine xj_iloadn 1 dX5_lengthAt_15 rfl rfl ?_
      refine xj_iald (k := 12) dX5_lengthAt_16 rfl ?_
      refine xj_goto (tgt := 21) dX5_lengthAt_17 rfl ?_
      exact xj_ri dX5_lengthAt_21 rfl
    · refine xj_iconst (v := 0) dX5_lengthAt_20 ci_0 ?_
      exact xj_ri dX5_lengthAt_21 rfl
theorem kX5_lengthAt (p1 : Int32) (w : xW) : xMet jI mX5_lengthAt lC (0, 0) [.ref 4, .int p1] w (sX5_lengthAt p1 w) := xj_met lC_ok (by decide) (Nat.le_of_ble_eq_true rfl) (Nat.zero_le _) (Nat.zero_le _) (tX5_lengthAt p1 w)
set_option maxRecDepth 20000 in
def sX5_leavesBundle (p0 : Int32) (p1 : Int32) (w : xW) : Option (Int32 × xW) :=
  (if (32 : Int32) < ((p0 &&& (31 : Int32)) + p1) then some ((1 : Int32), w) else some ((0 : Int32), w))
set_option maxRecDepth 20000 in
theorem tX5_leavesBundle (p0 : Int32) (p1 : Int32) (w : xW) : xJ ιI mX5_leavesBundle lC (0, 0) 0 [(0, .int p0), (1, .int p1)] [] w (sX5_leavesBundle p0 p1 w) := by
  unfold sX5_leavesBundle
  refine xj_iloadn 0 dX5_leavesBundle_0 rfl rfl ?_
  refine xj_bipush (v := 31) dX5_leavesBundle_1 cb_31 ?_
  refine xj_iand dX5_leavesBundle_3 ?_
  refine xj_iloadn 1 dX5_leavesBundle_4 rfl rfl ?_
  refine xj_iadd dX5_leavesBundle_5 ?_
  refine xj_bipush (v := 32) dX5_leavesBundle_6 cb_32 ?_
  refine xj_ile (tgt := 15) dX5_leavesBundle_8 rfl ?_ ?_
  · refine xj_iconst (v := 1) dX5_leavesBundle_11 ci_1 ?_
    refine xj_goto (tgt := 16) dX5_leavesBundle_12 rfl ?_
    exact xj_rz dX5_leavesBundle_16 rfl (Or.inr rfl)
  · refine xj_iconst (v := 0) dX5_leavesBundle_15 ci_0 ?_
    exact xj_rz dX5_leavesBundle_16 rfl (Or.inl rfl)
theorem kX5_leavesBundle (p0 : Int32) (p1 : Int32) (w : xW) : xMet jI mX5_leavesBundle lC (0, 0) [.int p0, .int p1] w (sX5_leavesBundle p0 p1 w) := xj_met lC_ok (by decide) (Nat.le_of_ble_eq_true rfl) (Nat.zero_le _) (Nat.zero_le _) (tX5_leavesBundle p0 p1 w)
set_option maxRecDepth 20000 in
def sX5_mark (p1 : Int32) (p2 : Int32) (w : xW) : Option (Unit × xW) :=
  (if p1 < 0 then some ((), w) else (if p1 < (2048 : Int32) then (if xin p1 2048 then some ((), (xwi (xwi w 16 p1.toNatClampNeg p2) 4 8 ((w.1 4 8) + (1 : Int32)))) else none) else some ((), w)))
set_option maxRecDepth 20000 in
theorem tX5_mark (p1 : Int32) (p2 : Int32) (w : xW) : xJ ιV mX5_mark lC (0, 0) 0 [(0, .ref 4), (1, .int p1), (2, .int p2)] [] w (sX5_mark p1 p2 w) := by
  unfold sX5_mark
  refine xj_iloadn 1 dX5_mark_0 rfl rfl ?_
  refine xj_iflt (tgt := 28) dX5_mark_1 rfl ?_ ?_
  · exact xj_rv dX5_mark_28 rfl
  · refine xj_iloadn 1 dX5_mark_4 rfl rfl ?_
    refine xj_sipush (v := 2048) dX5_mark_5 cs_2048 ?_
    refine xj_ige (tgt := 28) dX5_mark_8 rfl ?_ ?_
    · refine xj_aloadn 0 dX5_mark_11 rfl rfl ?_
      refine gfX5_26 dX5_mark_12 rfl ?_
      refine xj_iloadn 1 dX5_mark_15 rfl rfl ?_
      refine xj_iloadn 2 dX5_mark_16 rfl rfl ?_
      refine xj_iast (k := 16) dX5_mark_17 rfl ?_
      refine xj_aloadn 0 dX5_mark_18 rfl rfl ?_
      refine xj_dup dX5_mark_19 rfl ?_
      refine gfX5_55 (v := (w.1 4 8)) dX5_mark_20 rfl rfl ?_
      refine xj_iconst (v := 1) dX5_mark_23 ci_1 ?_
      refine xj_iadd dX5_mark_24 ?_
      refine pfX5_55 dX5_mark_25 rfl ?_
      exact xj_rv dX5_mark_28 rfl
    · exact xj_rv dX5_mark_28 rfl
theorem kX5_mark (p1 : Int32) (p2 : Int32) (w : xW) : xMet jV mX5_mark lC (0, 0) [.ref 4, .int p1, .int p2] w (sX5_mark p1 p2 w) := xj_met lC_ok (by decide) (Nat.le_of_ble_eq_true rfl) (Nat.zero_le _) (Nat.zero_le _) (tX5_mark p1 p2 w)
set_option maxRecDepth 20000 in
def sX5_is (p1 : Int32) (p2 : Int32) (w : xW) : Option (Int32 × xW) :=
  (if p1 < 0 then some ((0 : Int32), w) else (if p1 < (2048 : Int32) then (if xin p1 2048 then (if ((w.1 13 p1.toNatClampNeg) &&& p2) = 0 then some ((0 : Int32), w) else some ((1 : Int32), w)) else none) else some ((0 : Int32), w)))
set_option maxRecDepth 20000 in
theorem tX5_is (p1 : Int32) (p2 : Int32) (w : xW) : xJ ιI mX5_is lC (0, 0) 0 [(0, .ref 4), (1, .int p1), (2, .int p2)] [] w (sX5_is p1 p2 w) := by
  unfold sX5_is
  refine xj_iloadn 1 dX5_is_0 rfl rfl ?_
  refine xj_iflt (tgt := 26) dX5_is_1 rfl ?_ ?_
  · refine xj_iconst (v := 0) dX5_is_26 ci_0 ?_
    exact xj_rz dX5_is_27 rfl (Or.inl rfl)
  · refine xj_iloadn 1 dX5_is_4 rfl rfl ?_
    refine xj_sipush (v := 2048) dX5_is_5 cs_2048 ?_
    refine xj_ige (tgt := 26) dX5_is_8 rfl ?_ ?_
    · refine xj_aloadn 0 dX5_is_11 rfl rfl ?_
      refine gfX5_17 dX5_is_12 rfl ?_
      refine xj_iloadn 1 dX5_is_15 rfl rfl ?_
      refine xj_iald (k := 13) dX5_is_16 rfl ?_
      refine xj_iloadn 2 dX5_is_17 rfl rfl ?_
      refine xj_iand dX5_is_18 ?_
      refine xj_ifeq (tgt := 26) dX5_is_19 rfl ?_ ?_
      · refine xj_iconst (v := 0) dX5_is_26 ci_0 ?_
        exact xj_rz dX5_is_27 rfl (Or.inl rfl)
      · refine xj_iconst (v := 1) dX5_is_22 ci_1 ?_
        refine xj_goto (tgt := 27) dX5_is_23 rfl ?_
        exact xj_rz dX5_is_27 rfl (Or.inr rfl)
    · refine xj_iconst (v := 0) dX5_is_26 ci_0 ?_
      exact xj_rz dX5_is_27 rfl (Or.inl rfl)
theorem kX5_is (p1 : Int32) (p2 : Int32) (w : xW) : xMet jI mX5_is lC (0, 0) [.ref 4, .int p1, .int p2] w (sX5_is p1 p2 w) := xj_met lC_ok (by decide) (Nat.le_of_ble_eq_true rfl) (Nat.zero_le _) (Nat.zero_le _) (tX5_is p1 p2 w)
set_option maxRecDepth 20000 in
def sX5_isOf (p1 : Int32) (p2 : Int32) (p3 : Int32) (w : xW) : Option (Int32 × xW) :=
  (if p1 < 0 then some ((0 : Int32), w) else (if p1 < (2048 : Int32) then (if xin p1 2048 then (if ((w.1 13 p1.toNatClampNeg) &&& p2) = 0 then some ((0 : Int32), w) else (if xin p1 2048 then (if (w.1 14 p1.toNatClampNeg) = p3 then some ((1 : Int32), w) else some ((0 : Int32), w)) else none)) else none) else some ((0 : Int32), w)))
set_option maxRecDepth 20000 in
theorem tX5_isOf (p1 : Int32) (p2 : Int32) (p3 : Int32) (w : xW) : xJ ιI mX5_isOf lC (0, 0) 0 [(0, .ref 4), (1, .int p1), (2, .int p2), (3, .int p3)] [] w (sX5_isOf p1 p2 p3 w) := by
  unfold sX5_isOf
  refine xj_iloadn 1 dX5_isOf_0 rfl rfl ?_
  refine xj_iflt (tgt := 36) dX5_isOf_1 rfl ?_ ?_
  · refine xj_iconst (v := 0) dX5_isOf_36 ci_0 ?_
    exact xj_rz dX5_isOf_37 rfl (Or.inl rfl)
  · refine xj_iloadn 1 dX5_isOf_4 rfl rfl ?_
    refine xj_sipush (v := 2048) dX5_isOf_5 cs_2048 ?_
    refine xj_ige (tgt := 36) dX5_isOf_8 rfl ?_ ?_
    · refine xj_aloadn 0 dX5_isOf_11 rfl rfl ?_
      refine gfX5_17 dX5_isOf_12 rfl ?_
      refine xj_iloadn 1 dX5_isOf_15 rfl rfl ?_
      refine xj_iald (k := 13) dX5_isOf_16 rfl ?_
      refine xj_iloadn 2 dX5_isOf_17 rfl rfl ?_
      refine xj_iand dX5_isOf_18 ?_
      refine xj_ifeq (tgt := 36) dX5_isOf_19 rfl ?_ ?_
      · refine xj_iconst (v := 0) dX5_isOf_36 ci_0 ?_
        exact xj_rz dX5_isOf_37 rfl (Or.inl rfl)
      · refine xj_aloadn 0 dX5_isOf_22 rfl rfl ?_
        refine gfX5_20 dX5_isOf_23 rfl ?_
        refine xj_iloadn 1 dX5_isOf_26 rfl rfl ?_
        refine xj_iald (k := 14) dX5_isOf_27 rfl ?_
        refine xj_iloadn 3 dX5_isOf_28 rfl rfl ?_
        refine xj_ine (tgt := 36) dX5_isOf_29 rfl ?_ ?_
        · refine xj_iconst (v := 1) dX5_isOf_32 ci_1 ?_
          refine xj_goto (tgt := 37) dX5_isOf_33 rfl ?_
          exact xj_rz dX5_isOf_37 rfl (Or.inr rfl)
        · refine xj_iconst (v := 0) dX5_isOf_36 ci_0 ?_
          exact xj_rz dX5_isOf_37 rfl (Or.inl rfl)
    · refine xj_iconst (v := 0) dX5_isOf_36 ci_0 ?_
      exact xj_rz dX5_isOf_37 rfl (Or.inl rfl)
theorem kX5_isOf (p1 : Int32) (p2 : Int32) (p3 : Int32) (w : xW) : xMet jI mX5_isOf lC (0, 0) [.ref 4, .int p1, .int p2, .int p3] w (sX5_isOf p1 p2 p3 w) := xj_met lC_ok (by decide) (Nat.le_of_ble_eq_true rfl) (Nat.zero_le _) (Nat.zero_le _) (tX5_isOf p1 p2 p3 w)
set_option maxRecDepth 20000 in
def sX5_hasFences (p1 : Int32) (p2 : Int32) (w : xW) : Option (Int32 × xW) :=
  xbd (sX5_isOf p1 (64 : Int32) p2 w) (fun x1 w2 => (if x1 = 0 then some ((0 : Int32), w2) else xbd (sX5_isOf (p1 + (6 : Int32)) (128 : Int32) p2 w2) (fun x3 w4 => (if x3 = 0 then some ((0 : Int32), w4) else some ((1 : Int32), w4)))))
set_option maxRecDepth 20000 in
theorem tX5_hasFences (p1 : Int32) (p2 : Int32) (w : xW) : xJ ιI mX5_hasFences lC (0, 0) 0 [(0, .ref 4), (1, .int p1), (2, .int p2)] [] w (sX5_hasFences p1 p2 w) := by
  unfold sX5_hasFences
  refine xj_aloadn 0 dX5_hasFences_0 rfl rfl ?_
  refine xj_iloadn 1 dX5_hasFences_1 rfl rfl ?_
  refine xj_bipush (v := 64) dX5_hasFences_2 cb_64 ?_
  refine xj_iloadn 2 dX5_hasFences_4 rfl rfl ?_
  refine xj_cVi (argv := [.int p1, .int (64 : Int32), .int p2]) (rest := []) dX5_hasFences_5 (kX5_isOf p1 (64 : Int32) p2 w) mkX5_isOf tw895 rfl rfl rfl rfl rfl rfl (fun x1 w2 => ?_)
  refine xj_ifeq (tgt := 30) dX5_hasFences_8 rfl ?_ ?_
  · refine xj_iconst (v := 0) dX5_hasFences_30 ci_0 ?_
    exact xj_rz dX5_hasFences_31 rfl (Or.inl rfl)
  · refine xj_aloadn 0 dX5_hasFences_11 rfl rfl ?_
    refine xj_iloadn 1 dX5_hasFences_12 rfl rfl ?_
    refine xj_bipush (v := 6) dX5_hasFences_13 cb_6 ?_
    refine xj_iadd dX5_hasFences_15 ?_
    refine xj_sipush (v := 128) dX5_hasFences_16 cs_128 ?_
    refine xj_iloadn 2 dX5_hasFences_19 rfl rfl ?_
    refine xj_cVi (argv := [.int (p1 + (6 : Int32)), .int (128 : Int32), .int p2]) (rest := []) dX5_hasFences_20 (kX5_isOf (p1 + (6 : Int32)) (128 : Int32) p2 w2) mkX5_isOf tw895 rfl rfl rfl rfl rfl rfl (fun x3 w4 => ?_)
    refine xj_ifeq (tgt := 30) dX5_hasFences_23 rfl ?_ ?_
    · refine xj_iconst (v := 0) dX5_hasFences_30 ci_0 ?_
      exact xj_rz dX5_hasFences_31 rfl (Or.inl rfl)
    · refine xj_iconst (v := 1) dX5_hasFences_26 ci_1 ?_
      refine xj_goto (tgt := 31) dX5_hasFences_27 rfl ?_
      exact xj_rz dX5_hasFences_31 rfl (Or.inr rfl)
theorem kX5_hasFences (p1 : Int32) (p2 : Int32) (w : xW) : xMet jI mX5_hasFences lC (0, 0) [.ref 4, .int p1, .int p2] w (sX5_hasFences p1 p2 w) := xj_met lC_ok (by decide) (Nat.le_of_ble_eq_true rfl) (Nat.zero_le _) (Nat.zero_le _) (tX5_hasFences p1 p2 w)
set_option maxRecDepth 20000 in
def sX5_markStackUnit_j36 (a1 : Int32) (a2 : Int32) (b0 : Int32) (w : xW) : Option (Int32 × xW) :=
  (if b0 = 0 then xbd (sX5_refuse (6 : Int32) a1 w) (fun x3 w4 => some (x3, w4)) else xbd (sX5_mark (a1 + a2) (2 : Int32) w) (fun _ w1 => xbd (sX5_mark ((a1 + a2) + (6 : Int32)) (2 : Int32) w1) (fun _ w2 => some ((a2 + (12 : Int32)), w2))))
set_option maxRecDepth 20000 in
theorem tX5_markStackUnit_j36 (a1 : Int32) (a2 : Int32) (b0 : Int32) (w : xW) : xJ ιI mX5_markStackUnit lC (0, 0) 36 [(0, .ref 4), (1, .int a1), (2, .int a2)] [.int b0] w (sX5_markStackUnit_j36 a1 a2 b0 w) := by
  unfold sX5_markStackUnit_j36
  refine xj_istoren (lv2 := [(3, .int b0), (0, .ref 4), (1, .int a1), (2, .int a2)]) dX5_markStackUnit_36 rfl (Nat.le_of_ble_eq_true rfl) rfl ?_
  refine xj_iloadn 0 dX5_markStackUnit_37 rfl rfl ?_
  refine xj_ifne (tgt := 49) dX5_markStackUnit_38 rfl ?_ ?_
  · refine xj_aloadn 1 dX5_markStackUnit_41 rfl rfl ?_
    refine xj_bipush (v := 6) dX5_markStackUnit_42 cb_6 ?_
    refine xj_iloadn 2 dX5_markStackUnit_44 rfl rfl ?_
    refine xj_cVi (argv := [.int (6 : Int32), .int a1]) (rest := []) dX5_markStackUnit_45 (kX5_refuse (6 : Int32) a1 w) mkX5_refuse tw864 rfl rfl rfl rfl rfl rfl (fun x3 w4 => ?_)
    exact xj_ri dX5_markStackUnit_48 rfl
  · refine xj_aloadn 1 dX5_markStackUnit_49 rfl rfl ?_
    refine xj_iloadn 2 dX5_markStackUnit_50 rfl rfl ?_
    refine xj_iloadn 3 dX5_markStackUnit_51 rfl rfl ?_
    refine xj_iadd dX5_markStackUnit_52 ?_
    refine xj_iconst (v := 2) dX5_markStackUnit_53 ci_2 ?_
    refine xj_cVv (argv := [.int (a1 + a2), .int (2 : Int32)]) (rest := []) dX5_markStackUnit_54 (kX5_mark (a1 + a2) (2 : Int32) w) mkX5_mark tw879 rfl rfl rfl rfl rfl rfl (fun _ w1 => ?_)
    refine xj_aloadn 1 dX5_markStackUnit_57 rfl rfl ?_
    refine xj_iloadn 2 dX5_markStackUnit_58 rfl rfl ?_
    refine xj_iloadn 3 dX5_markStackUnit_59 rfl rfl ?_
    refine xj_iadd dX5_markStackUnit_60 ?_
    refine xj_bipush (v := 6) dX5_markStackUnit_61 cb_6 ?_
    refine xj_iadd dX5_markStackUnit_63 ?_
    refine xj_iconst (v := 2) dX5_markStackUnit_64 ci_2 ?_
    refine xj_cVv (argv := [.int ((a1 + a2) + (6 : Int32)), .int (2 : Int32)]) (rest := []) dX5_markStackUnit_65 (kX5_mark ((a1 + a2) + (6 : Int32)) (2 : Int32) w1) mkX5_mark tw879 rfl rfl rfl rfl rfl rfl (fun _ w2 => ?_)
    refine xj_iloadn 3 dX5_markStackUnit_68 rfl rfl ?_
    refine xj_bipush (v := 12) dX5_markStackUnit_69 cb_12 ?_
    refine xj_iadd dX5_markStackUnit_71 ?_
    exact xj_ri dX5_markStackUnit_72 rfl
set_option maxRecDepth 20000 in
def sX5_markStackUnit_j35 (a1 : Int32) (a2 : Int32) (w : xW) : Option (Int32 × xW) :=
  sX5_markStackUnit_j36 a1 a2 (0 : Int32) w
set_option maxRecDepth 20000 in
theorem tX5_markStackUnit_j35 (a1 : Int32) (a2 : Int32) (w : xW) : xJ ιI mX5_markStackUnit lC (0, 0) 35 [(0, .ref 4), (1, .int a1), (2, .int a2)] [] w (sX5_markStackUnit_j35 a1 a2 w) := by
  unfold sX5_markStackUnit_j35
  refine xj_iconst (v := 0) dX5_markStackUnit_35 ci_0 ?_
  exact tX5_markStackUnit_j36 _ _ _ _
set_option maxRecDepth 20000 in
def sX5_markStackUnit (p1 : Int32) (p2 : Int32) (w : xW) : Option (Int32 × xW) :=
  xbd (sX5_is p1 (2 : Int32) w) (fun x1 w2 => (if x1 = 0 then xbd (sX5_leavesBundle p1 (p2 + (12 : Int32)) w2) (fun x3 w4 => (if x3 = 0 then xbd (sX5_hasFences (p1 + p2) (4 : Int32) w4) (fun x5 w6 => (if x5 = 0 then sX5_markStackUnit_j35 p1 p2 w6 else sX5_markStackUnit_j36 p1 p2 (1 : Int32) w6)) else sX5_markStackUnit_j35 p1 p2 w4)) else sX5_markStackUnit_j35 p1 p2 w2))
set_option maxRecDepth 20000 in
theorem tX5_markStackUnit (p1 : Int32) (p2 : Int32) (w : xW) : xJ ιI mX5_markStackUnit lC (0, 0) 0 [(0, .ref 4), (1, .int p1), (2, .int p2)] [] w (sX5_markStackUnit p1 p2 w) := by
  unfold sX5_markStackUnit
  refine xj_aloadn 0 dX5_markStackUnit_0 rfl rfl ?_
  refine xj_iloadn 1 dX5_markStackUnit_1 rfl rfl ?_
  refine xj_iconst (v := 2) dX5_markStackUnit_2 ci_2 ?_
  refine xj_cVi (argv := [.int p1, .int (2 : Int32)]) (rest := []) dX5_markStackUnit_3 (kX5_is p1 (2 : Int32) w) mkX5_is tw883 rfl rfl rfl rfl rfl rfl (fun x1 w2 => ?_)
  refine xj_ifne (tgt := 35) dX5_markStackUnit_6 rfl ?_ ?_
  · refine xj_iloadn 1 dX5_markStackUnit_9 rfl rfl ?_
    refine xj_iloadn 2 dX5_markStackUnit_10 rfl rfl ?_
    refine xj_bipush (v := 12) dX5_markStackUnit_11 cb_12 ?_
    refine xj_iadd dX5_markStackUnit_13 ?_
    refine xj_cSi (argv := [.int p1, .int (p2 + (12 : Int32))]) (rest := []) dX5_markStackUnit_14 (kX5_leavesBundle p1 (p2 + (12 : Int32)) w2) mkX5_leavesBundle tw876 rfl rfl rfl rfl (fun x3 w4 => ?_)
    refine xj_ifne (tgt := 35) dX5_markStackUnit_17 rfl ?_ ?_
    · refine xj_aloadn 0 dX5_markStackUnit_20 rfl rfl ?_
      refine xj_iloadn 1 dX5_markStackUnit_21 rfl rfl ?_
      refine xj_iloadn 2 dX5_markStackUnit_22 rfl rfl ?_
      refine xj_iadd dX5_markStackUnit_23 ?_
      refine xj_iconst (v := 4) dX5_markStackUnit_24 ci_4 ?_
      refine xj_cVi (argv := [.int (p1 + p2), .int (4 : Int32)]) (rest := []) dX5_markStackUnit_25 (kX5_hasFences (p1 + p2) (4 : Int32) w4) mkX5_hasFences tw891 rfl rfl rfl rfl rfl rfl (fun x5 w6 => ?_)
      refine xj_ifeq (tgt := 35) dX5_markStackUnit_28 rfl ?_ ?_
      · exact tX5_markStackUnit_j35 _ _ _
      · refine xj_iconst (v := 1) dX5_markStackUnit_31 ci_1 ?_
        refine xj_goto (tgt := 36) dX5_markStackUnit_32 rfl ?_
        exact tX5_markStackUnit_j36 _ _ _ _
    · exact tX5_markStackUnit_j35 _ _ _
  · exact tX5_markStackUnit_j35 _ _ _
theorem kX5_markStackUnit (p1 : Int32) (p2 : Int32) (w : xW) : xMet jI mX5_markStackUnit lC (0, 0) [.ref 4, .int p1, .int p2] w (sX5_markStackUnit p1 p2 w) := xj_met lC_ok (by decide) (Nat.le_of_ble_eq_true rfl) (Nat.zero_le _) (Nat.zero_le _) (tX5_markStackUnit p1 p2 w)
set_option maxRecDepth 20000 in
def sX5_registerAt (p1 : Int32) (w : xW) : Option (Int32 × xW) :=
  (if p1 < 0 then some ((-1 : Int32), w) else (if p1 < (2048 : Int32) then (if xin p1 2048 then some ((w.1 14 p1.toNatClampNeg), w) else none) else some ((-1 : Int32), w)))
set_option maxRecDepth 20000 in
theorem tX5_registerAt (p1 : Int32) (w : xW) : xJ ιI mX5_registerAt lC (0, 0) 0 [(0, .ref 4), (1, .int p1)] [] w (sX5_registerAt p1 w) := by
  unfold sX5_registerAt
  refine xj_iloadn 1 dX5_registerAt_0 rfl rfl ?_
  refine xj_iflt (tgt := 20) dX5_registerAt_1 rfl ?_ ?_
  · refine xj_iconst (v := -1) dX5_registerAt_20 ci_m1 ?_
    exact xj_ri dX5_registerAt_21 rfl
  · refine xj_iloadn 1 dX5_registerAt_4 rfl rfl ?_
    refine xj_sipush (v := 2048) dX5_registerAt_5 cs_2048 ?_
    refine xj_ige (tgt := 20) dX5_registerAt_8 rfl ?_ ?_
    · refine xj_aloadn 0 dX5_registerAt_11 rfl rfl ?_
      refine gfX5_20 dX5_registerAt_12 rfl ?_
      refine xj_iloadn 1 dX5_registerAt_15 rfl rfl ?_
      refine xj_iald (k := 14) dX5_registerAt_16 rfl ?_
      refine xj_goto (tgt := 21) dX5_registerAt_17 rfl ?_
      exact xj_ri dX5_registerAt_21 rfl
    · refine xj_iconst (v := -1) dX5_registerAt_20 ci_m1 ?_
      exact xj_ri dX5_registerAt_21 rfl
theorem kX5_registerAt (p1 : Int32) (w : xW) : xMet jI mX5_registerAt lC (0, 0) [.ref 4, .int p1] w (sX5_registerAt p1 w) := xj_met lC_ok (by decide) (Nat.le_of_ble_eq_true rfl) (Nat.zero_le _) (Nat.zero_le _) (tX5_registerAt p1 w)
set_option maxRecDepth 20000 in
def sX5_markJumpUnit (p1 : Int32) (p2 : Int32) (w : xW) : Option (Int32 × xW) :=
  xbd (sX5_lengthAt (p1 + p2) w) (fun x1 w2 => xbd (sX5_registerAt p1 w2) (fun x3 w4 => xbd (sX5_isOf (p1 + p2) (32 : Int32) x3 w4) (fun x5 w6 => (if x5 = 0 then some (p2, w6) else xbd (sX5_leavesBundle p1 (p2 + x1) w6) (fun x7 w8 => (if x7 = 0 then xbd (sX5_mark (p1 + p2) (2 : Int32) w8) (fun _ w9 => some ((p2 + x1), w9)) else some (p2, w8)))))))
set_option maxRecDepth 20000 in
theorem tX5_markJumpUnit (p1 : Int32) (p2 : Int32) (w : xW) : xJ ιI mX5_markJumpUnit lC (0, 0) 0 [(0, .ref 4), (1, .int p1), (2, .int p2)] [] w (sX5_markJumpUnit p1 p2 w) := by
  unfold sX5_markJumpUnit
  refine xj_iloadn 1 dX5_markJumpUnit_0 rfl rfl ?_
  refine xj_iloadn 2 dX5_markJumpUnit_1 rfl rfl ?_
  refine xj_iadd dX5_markJumpUnit_2 ?_
  refine xj_istoren (lv2 := [(3, .int (p1 + p2)), (0, .ref 4), (1, .int p1), (2, .int p2)]) dX5_markJumpUnit_3 rfl (Nat.le_of_ble_eq_true rfl) rfl ?_
  refine xj_aloadn 1 dX5_markJumpUnit_4 rfl rfl ?_
  refine xj_iloadn 0 dX5_markJumpUnit_5 rfl rfl ?_
  refine xj_cVi (argv := [.int (p1 + p2)]) (rest := []) dX5_markJumpUnit_6 (kX5_lengthAt (p1 + p2) w) mkX5_lengthAt tw872 rfl rfl rfl rfl rfl rfl (fun x1 w2 => ?_)
  refine xj_istore (lv2 := [(4, .int x1), (3, .int (p1 + p2)), (0, .ref 4), (1, .int p1), (2, .int p2)]) dX5_markJumpUnit_9 (Nat.le_of_ble_eq_true rfl) rfl ?_
  refine xj_aloadn 2 dX5_markJumpUnit_11 rfl rfl ?_
  refine xj_iloadn 1 dX5_markJumpUnit_12 rfl rfl ?_
  refine xj_bipush (v := 32) dX5_markJumpUnit_13 cb_32 ?_
  refine xj_aloadn 2 dX5_markJumpUnit_15 rfl rfl ?_
  refine xj_iloadn 3 dX5_markJumpUnit_16 rfl rfl ?_
  refine xj_cVi (argv := [.int p1]) (rest := [.int (32 : Int32), .int (p1 + p2), .ref 4]) dX5_markJumpUnit_17 (kX5_registerAt p1 w2) mkX5_registerAt tw903 rfl rfl rfl rfl rfl rfl (fun x3 w4 => ?_)
  refine xj_cVi (argv := [.int (p1 + p2), .int (32 : Int32), .int x3]) (rest := []) dX5_markJumpUnit_20 (kX5_isOf (p1 + p2) (32 : Int32) x3 w4) mkX5_isOf tw895 rfl rfl rfl rfl rfl rfl (fun x5 w6 => ?_)
  refine xj_ifeq (tgt := 37) dX5_markJumpUnit_23 rfl ?_ ?_
  · refine xj_iloadn 4 dX5_markJumpUnit_37 rfl rfl ?_
    exact xj_ri dX5_markJumpUnit_38 rfl
  · refine xj_iloadn 3 dX5_markJumpUnit_26 rfl rfl ?_
    refine xj_iloadn 4 dX5_markJumpUnit_27 rfl rfl ?_
    refine xj_iload 0 dX5_markJumpUnit_28 rfl ?_
    refine xj_iadd dX5_markJumpUnit_30 ?_
    refine xj_cSi (argv := [.int p1, .int (p2 + x1)]) (rest := []) dX5_markJumpUnit_31 (kX5_leavesBundle p1 (p2 + x1) w6) mkX5_leavesBundle tw876 rfl rfl rfl rfl (fun x7 w8 => ?_)
    refine xj_ifeq (tgt := 39) dX5_markJumpUnit_34 rfl ?_ ?_
    · refine xj_aloadn 2 dX5_markJumpUnit_39 rfl rfl ?_
      refine xj_iloadn 1 dX5_markJumpUnit_40 rfl rfl ?_
      refine xj_iconst (v := 2) dX5_markJumpUnit_41 ci_2 ?_
      refine xj_cVv (argv := [.int (p1 + p2), .int (2 : Int32)]) (rest := []) dX5_markJumpUnit_42 (kX5_mark (p1 + p2) (2 : Int32) w8) mkX5_mark tw879 rfl rfl rfl rfl rfl rfl (fun _ w9 => ?_)
      refine xj_iloadn 4 dX5_markJumpUnit_45 rfl rfl ?_
      refine xj_iload 0 dX5_markJumpUnit_46 rfl ?_
      refine xj_iadd dX5_markJumpUnit_48 ?_
      exact xj_ri dX5_markJumpUnit_49 rfl
    · refine xj_iloadn 4 dX5_markJumpUnit_37 rfl rfl ?_
      exact xj_ri dX5_markJumpUnit_38 rfl
theorem kX5_markJumpUnit (p1 : Int32) (p2 : Int32) (w : xW) : xMet jI mX5_markJumpUnit lC (0, 0) [.ref 4, .int p1, .int p2] w (sX5_markJumpUnit p1 p2 w) := xj_met lC_ok (by decide) (Nat.le_of_ble_eq_true rfl) (Nat.zero_le _) (Nat.zero_le _) (tX5_markJumpUnit p1 p2 w)
set_option maxRecDepth 20000 in
def sX5_markWriteUnit_j51 (a1 : Int32) (a2 : Int32) (a3 : Int32) (a4 : Int32) (b0 : Int32) (w : xW) : Option (Int32 × xW) :=
  (if b0 = 0 then some ((6 : Int32), w) else xbd (sX5_hasFences a1 a2 w) (fun x1 w2 => (if x1 = 0 then some ((6 : Int32), w2) else xbd (sX5_leavesBundle a1 ((12 : Int32) + a4) w2) (fun x3 w4 => (if x3 = 0 then xbd (sX5_mark (a1 + (6 : Int32)) (2 : Int32) w4) (fun _ w5 => xbd (sX5_mark a3 (2 : Int32) w5) (fun _ w6 => some (((12 : Int32) + a4), w6))) else some ((6 : Int32), w4))))))
set_option maxRecDepth 20000 in
theorem tX5_markWriteUnit_j51 (a1 : Int32) (a2 : Int32) (a3 : Int32) (a4 : Int32) (b0 : Int32) (w : xW) : xJ ιI mX5_markWriteUnit lC (0, 0) 51 [(0, .ref 4), (1, .int a1), (2, .int a2), (3, .int a3), (4, .int a4)] [.int b0] w (sX5_markWriteUnit_j51 a1 a2 a3 a4 b0 w) := by
  unfold sX5_markWriteUnit_j51
  refine xj_istore (lv2 := [(5, .int b0), (0, .ref 4), (1, .int a1), (2, .int a2), (3, .int a3), (4, .int a4)]) dX5_markWriteUnit_51 (Nat.le_of_ble_eq_true rfl) rfl ?_
  refine xj_iload 0 dX5_markWriteUnit_53 rfl ?_
  refine xj_ifeq (tgt := 79) dX5_markWriteUnit_55 rfl ?_ ?_
  · refine xj_bipush (v := 6) dX5_markWriteUnit_79 cb_6 ?_
    exact xj_ri dX5_markWriteUnit_81 rfl
  · refine xj_aloadn 1 dX5_markWriteUnit_58 rfl rfl ?_
    refine xj_iloadn 2 dX5_markWriteUnit_59 rfl rfl ?_
    refine xj_iloadn 3 dX5_markWriteUnit_60 rfl rfl ?_
    refine xj_cVi (argv := [.int a1, .int a2]) (rest := []) dX5_markWriteUnit_61 (kX5_hasFences a1 a2 w) mkX5_hasFences tw891 rfl rfl rfl rfl rfl rfl (fun x1 w2 => ?_)
    refine xj_ifeq (tgt := 79) dX5_markWriteUnit_64 rfl ?_ ?_
    · refine xj_bipush (v := 6) dX5_markWriteUnit_79 cb_6 ?_
      exact xj_ri dX5_markWriteUnit_81 rfl
    · refine xj_iloadn 2 dX5_markWriteUnit_67 rfl rfl ?_
      refine xj_bipush (v := 12) dX5_markWriteUnit_68 cb_12 ?_
      refine xj_iload 5 dX5_markWriteUnit_70 rfl ?_
      refine xj_iadd dX5_markWriteUnit_72 ?_
      refine xj_cSi (argv := [.int a1, .int ((12 : Int32) + a4)]) (rest := []) dX5_markWriteUnit_73 (kX5_leavesBundle a1 ((12 : Int32) + a4) w2) mkX5_leavesBundle tw876 rfl rfl rfl rfl (fun x3 w4 => ?_)
      refine xj_ifeq (tgt := 82) dX5_markWriteUnit_76 rfl ?_ ?_
      · refine xj_aloadn 1 dX5_markWriteUnit_82 rfl rfl ?_
        refine xj_iloadn 2 dX5_markWriteUnit_83 rfl rfl ?_
        refine xj_bipush (v := 6) dX5_markWriteUnit_84 cb_6 ?_
        refine xj_iadd dX5_markWriteUnit_86 ?_
        refine xj_iconst (v := 2) dX5_markWriteUnit_87 ci_2 ?_
        refine xj_cVv (argv := [.int (a1 + (6 : Int32)), .int (2 : Int32)]) (rest := []) dX5_markWriteUnit_88 (kX5_mark (a1 + (6 : Int32)) (2 : Int32) w4) mkX5_mark tw879 rfl rfl rfl rfl rfl rfl (fun _ w5 => ?_)
        refine xj_aloadn 1 dX5_markWriteUnit_91 rfl rfl ?_
        refine xj_iloadn 4 dX5_markWriteUnit_92 rfl rfl ?_
        refine xj_iconst (v := 2) dX5_markWriteUnit_93 ci_2 ?_
        refine xj_cVv (argv := [.int a3, .int (2 : Int32)]) (rest := []) dX5_markWriteUnit_94 (kX5_mark a3 (2 : Int32) w5) mkX5_mark tw879 rfl rfl rfl rfl rfl rfl (fun _ w6 => ?_)
        refine xj_bipush (v := 12) dX5_markWriteUnit_97 cb_12 ?_
        refine xj_iload 5 dX5_markWriteUnit_99 rfl ?_
        refine xj_iadd dX5_markWriteUnit_101 ?_
        exact xj_ri dX5_markWriteUnit_102 rfl
      · refine xj_bipush (v := 6) dX5_markWriteUnit_79 cb_6 ?_
        exact xj_ri dX5_markWriteUnit_81 rfl
set_option maxRecDepth 20000 in
def sX5_markWriteUnit_j50 (a1 : Int32) (a2 : Int32) (a3 : Int32) (a4 : Int32) (w : xW) : Option (Int32 × xW) :=
  sX5_markWriteUnit_j51 a1 a2 a3 a4 (0 : Int32) w
set_option maxRecDepth 20000 in
theorem tX5_markWriteUnit_j50 (a1 : Int32) (a2 : Int32) (a3 : Int32) (a4 : Int32) (w : xW) : xJ ιI mX5_markWriteUnit lC (0, 0) 50 [(0, .ref 4), (1, .int a1), (2, .int a2), (3, .int a3), (4, .int a4)] [] w (sX5_markWriteUnit_j50 a1 a2 a3 a4 w) := by
  unfold sX5_markWriteUnit_j50
  refine xj_iconst (v := 0) dX5_markWriteUnit_50 ci_0 ?_
  exact tX5_markWriteUnit_j51 _ _ _ _ _ _
set_option maxRecDepth 20000 in
def sX5_markWriteUnit (p1 : Int32) (w : xW) : Option (Int32 × xW) :=
  xbd (sX5_registerAt p1 w) (fun x1 w2 => xbd (sX5_lengthAt (p1 + (12 : Int32)) w2) (fun x3 w4 => xbd (sX5_is (p1 + (12 : Int32)) (2 : Int32) w4) (fun x5 w6 => (if x5 = 0 then sX5_markWriteUnit_j50 p1 x1 (p1 + (12 : Int32)) x3 w6 else xbd (sX5_isOf (p1 + (12 : Int32)) (4 : Int32) x1 w6) (fun x7 w8 => (if x7 = 0 then sX5_markWriteUnit_j50 p1 x1 (p1 + (12 : Int32)) x3 w8 else xbd (sX5_is (p1 + (12 : Int32)) (1 : Int32) w8) (fun x9 w10 => (if x9 = 0 then sX5_markWriteUnit_j51 p1 x1 (p1 + (12 : Int32)) x3 (1 : Int32) w10 else sX5_markWriteUnit_j50 p1 x1 (p1 + (12 : Int32)) x3 w10))))))))
set_option maxRecDepth 20000 in
theorem tX5_markWriteUnit (p1 : Int32) (w : xW) : xJ ιI mX5_markWriteUnit lC (0, 0) 0 [(0, .ref 4), (1, .int p1)] [] w (sX5_markWriteUnit p1 w) := by
  unfold sX5_markWriteUnit
  refine xj_aloadn 0 dX5_markWriteUnit_0 rfl rfl ?_
  refine xj_iloadn 1 dX5_markWriteUnit_1 rfl rfl ?_
  refine xj_cVi (argv := [.int p1]) (rest := []) dX5_markWriteUnit_2 (kX5_registerAt p1 w) mkX5_registerAt tw903 rfl rfl rfl rfl rfl rfl (fun x1 w2 => ?_)
  refine xj_istoren (lv2 := [(2, .int x1), (0, .ref 4), (1, .int p1)]) dX5_markWriteUnit_5 rfl (Nat.le_of_ble_eq_true rfl) rfl ?_
  refine xj_iloadn 2 dX5_markWriteUnit_6 rfl rfl ?_
  refine xj_bipush (v := 12) dX5_markWriteUnit_7 cb_12 ?_
  refine xj_iadd dX5_markWriteUnit_9 ?_
  refine xj_istoren (lv2 := [(3, .int (p1 + (12 : Int32))), (2, .int x1), (0, .ref 4), (1, .int p1)]) dX5_markWriteUnit_10 rfl (Nat.le_of_ble_eq_true rfl) rfl ?_
  refine xj_aloadn 2 dX5_markWriteUnit_11 rfl rfl ?_
  refine xj_iloadn 0 dX5_markWriteUnit_12 rfl rfl ?_
  refine xj_cVi (argv := [.int (p1 + (12 : Int32))]) (rest := []) dX5_markWriteUnit_13 (kX5_lengthAt (p1 + (12 : Int32)) w2) mkX5_lengthAt tw872 rfl rfl rfl rfl rfl rfl (fun x3 w4 => ?_)
  refine xj_istore (lv2 := [(4, .int x3), (3, .int (p1 + (12 : Int32))), (2, .int x1), (0, .ref 4), (1, .int p1)]) dX5_markWriteUnit_16 (Nat.le_of_ble_eq_true rfl) rfl ?_
  refine xj_aloadn 3 dX5_markWriteUnit_18 rfl rfl ?_
  refine xj_iloadn 1 dX5_markWriteUnit_19 rfl rfl ?_
  refine xj_iconst (v := 2) dX5_markWriteUnit_20 ci_2 ?_
  refine xj_cVi (argv := [.int (p1 + (12 : Int32)), .int (2 : Int32)]) (rest := []) dX5_markWriteUnit_21 (kX5_is (p1 + (12 : Int32)) (2 : Int32) w4) mkX5_is tw883 rfl rfl rfl rfl rfl rfl (fun x5 w6 => ?_)
  refine xj_ifeq (tgt := 50) dX5_markWriteUnit_24 rfl ?_ ?_
  · refine xj_sub (lv2 := [(0, .ref 4), (1, .int p1), (2, .int x1), (3, .int (p1 + (12 : Int32))), (4, .int x3)]) [3, 4, 2, 1, 0] rfl ?_
    exact tX5_markWriteUnit_j50 _ _ _ _ _
  · refine xj_aloadn 3 dX5_markWriteUnit_27 rfl rfl ?_
    refine xj_iloadn 1 dX5_markWriteUnit_28 rfl rfl ?_
    refine xj_iconst (v := 4) dX5_markWriteUnit_29 ci_4 ?_
    refine xj_iloadn 2 dX5_markWriteUnit_30 rfl rfl ?_
    refine xj_cVi (argv := [.int (p1 + (12 : Int32)), .int (4 : Int32), .int x1]) (rest := []) dX5_markWriteUnit_31 (kX5_isOf (p1 + (12 : Int32)) (4 : Int32) x1 w6) mkX5_isOf tw895 rfl rfl rfl rfl rfl rfl (fun x7 w8 => ?_)
    refine xj_ifeq (tgt := 50) dX5_markWriteUnit_34 rfl ?_ ?_
    · refine xj_sub (lv2 := [(0, .ref 4), (1, .int p1), (2, .int x1), (3, .int (p1 + (12 : Int32))), (4, .int x3)]) [3, 4, 2, 1, 0] rfl ?_
      exact tX5_markWriteUnit_j50 _ _ _ _ _
    · refine xj_aloadn 3 dX5_markWriteUnit_37 rfl rfl ?_
      refine xj_iloadn 1 dX5_markWriteUnit_38 rfl rfl ?_
      refine xj_iconst (v := 1) dX5_markWriteUnit_39 ci_1 ?_
      refine xj_cVi (argv := [.int (p1 + (12 : Int32)), .int (1 : Int32)]) (rest := []) dX5_markWriteUnit_40 (kX5_is (p1 + (12 : Int32)) (1 : Int32) w8) mkX5_is tw883 rfl rfl rfl rfl rfl rfl (fun x9 w10 => ?_)
      refine xj_ifne (tgt := 50) dX5_markWriteUnit_43 rfl ?_ ?_
      · refine xj_iconst (v := 1) dX5_markWriteUnit_46 ci_1 ?_
        refine xj_goto (tgt := 51) dX5_markWriteUnit_47 rfl ?_
        refine xj_sub (lv2 := [(0, .ref 4), (1, .int p1), (2, .int x1), (3, .int (p1 + (12 : Int32))), (4, .int x3)]) [3, 4, 2, 1, 0] rfl ?_
        exact tX5_markWriteUnit_j51 _ _ _ _ _ _
      · refine xj_sub (lv2 := [(0, .ref 4), (1, .int p1), (2, .int x1), (3, .int (p1 + (12 : Int32))), (4, .int x3)]) [3, 4, 2, 1, 0] rfl ?_
        exact tX5_markWriteUnit_j50 _ _ _ _ _
theorem kX5_markWriteUnit (p1 : Int32) (w : xW) : xMet jI mX5_markWriteUnit lC (0, 0) [.ref 4, .int p1] w (sX5_markWriteUnit p1 w) := xj_met lC_ok (by decide) (Nat.le_of_ble_eq_true rfl) (Nat.zero_le _) (Nat.zero_le _) (tX5_markWriteUnit p1 w)
set_option maxRecDepth 20000 in
def sX5_checkAlone (p1 : Int32) (p2 : Int32) (w : xW) : Option (Int32 × xW) :=
  xbd (sX5_is p1 (32 : Int32) w) (fun x1 w2 => (if x1 = 0 then xbd (sX5_is p1 (2 : Int32) w2) (fun x3 w4 => (if x3 = 0 then some (p2, w4) else xbd (sX5_isOf p1 (4 : Int32) (4 : Int32) w4) (fun x5 w6 => (if x5 = 0 then xbd (sX5_is p1 (8 : Int32) w6) (fun x7 w8 => (if x7 = 0 then xbd (sX5_refuse (5 : Int32) p1 w8) (fun x9 w10 => some (x9, w10)) else some (p2, w8))) else some (p2, w6))))) else xbd (sX5_refuse (4 : Int32) p1 w2) (fun x11 w12 => some (x11, w12))))
set_option maxRecDepth 20000 in
theorem tX5_checkAlone (p1 : Int32) (p2 : Int32) (w : xW) : xJ ιI mX5_checkAlone lC (0, 0) 0 [(0, .ref 4), (1, .int p1), (2, .int p2)] [] w (sX5_checkAlone p1 p2 w) := by
  unfold sX5_checkAlone
  refine xj_aloadn 0 dX5_checkAlone_0 rfl rfl ?_
  refine xj_iloadn 1 dX5_checkAlone_1 rfl rfl ?_
  refine xj_bipush (v := 32) dX5_checkAlone_2 cb_32 ?_
  refine xj_cVi (argv := [.int p1, .int (32 : Int32)]) (rest := []) dX5_checkAlone_4 (kX5_is p1 (32 : Int32) w) mkX5_is tw883 rfl rfl rfl rfl rfl rfl (fun x1 w2 => ?_)
  refine xj_ifeq (tgt := 17) dX5_checkAlone_7 rfl ?_ ?_
  · refine xj_aloadn 0 dX5_checkAlone_17 rfl rfl ?_
    refine xj_iloadn 1 dX5_checkAlone_18 rfl rfl ?_
    refine xj_iconst (v := 2) dX5_checkAlone_19 ci_2 ?_
    refine xj_cVi (argv := [.int p1, .int (2 : Int32)]) (rest := []) dX5_checkAlone_20 (kX5_is p1 (2 : Int32) w2) mkX5_is tw883 rfl rfl rfl rfl rfl rfl (fun x3 w4 => ?_)
    refine xj_ifeq (tgt := 53) dX5_checkAlone_23 rfl ?_ ?_
    · refine xj_iloadn 2 dX5_checkAlone_53 rfl rfl ?_
      exact xj_ri dX5_checkAlone_54 rfl
    · refine xj_aloadn 0 dX5_checkAlone_26 rfl rfl ?_
      refine xj_iloadn 1 dX5_checkAlone_27 rfl rfl ?_
      refine xj_iconst (v := 4) dX5_checkAlone_28 ci_4 ?_
      refine xj_iconst (v := 4) dX5_checkAlone_29 ci_4 ?_
      refine xj_cVi (argv := [.int p1, .int (4 : Int32), .int (4 : Int32)]) (rest := []) dX5_checkAlone_30 (kX5_isOf p1 (4 : Int32) (4 : Int32) w4) mkX5_isOf tw895 rfl rfl rfl rfl rfl rfl (fun x5 w6 => ?_)
      refine xj_ifne (tgt := 53) dX5_checkAlone_33 rfl ?_ ?_
      · refine xj_aloadn 0 dX5_checkAlone_36 rfl rfl ?_
        refine xj_iloadn 1 dX5_checkAlone_37 rfl rfl ?_
        refine xj_bipush (v := 8) dX5_checkAlone_38 cb_8 ?_
        refine xj_cVi (argv := [.int p1, .int (8 : Int32)]) (rest := []) dX5_checkAlone_40 (kX5_is p1 (8 : Int32) w6) mkX5_is tw883 rfl rfl rfl rfl rfl rfl (fun x7 w8 => ?_)
        refine xj_ifne (tgt := 53) dX5_checkAlone_43 rfl ?_ ?_
        · refine xj_aloadn 0 dX5_checkAlone_46 rfl rfl ?_
          refine xj_iconst (v := 5) dX5_checkAlone_47 ci_5 ?_
          refine xj_iloadn 1 dX5_checkAlone_48 rfl rfl ?_
          refine xj_cVi (argv := [.int (5 : Int32), .int p1]) (rest := []) dX5_checkAlone_49 (kX5_refuse (5 : Int32) p1 w8) mkX5_refuse tw864 rfl rfl rfl rfl rfl rfl (fun x9 w10 => ?_)
          exact xj_ri dX5_checkAlone_52 rfl
        · refine xj_iloadn 2 dX5_checkAlone_53 rfl rfl ?_
          exact xj_ri dX5_checkAlone_54 rfl
      · refine xj_iloadn 2 dX5_checkAlone_53 rfl rfl ?_
        exact xj_ri dX5_checkAlone_54 rfl
  · refine xj_aloadn 0 dX5_checkAlone_10 rfl rfl ?_
    refine xj_iconst (v := 4) dX5_checkAlone_11 ci_4 ?_
    refine xj_iloadn 1 dX5_checkAlone_12 rfl rfl ?_
    refine xj_cVi (argv := [.int (4 : Int32), .int p1]) (rest := []) dX5_checkAlone_13 (kX5_refuse (4 : Int32) p1 w2) mkX5_refuse tw864 rfl rfl rfl rfl rfl rfl (fun x11 w12 => ?_)
    exact xj_ri dX5_checkAlone_16 rfl
theorem kX5_checkAlone (p1 : Int32) (p2 : Int32) (w : xW) : xMet jI mX5_checkAlone lC (0, 0) [.ref 4, .int p1, .int p2] w (sX5_checkAlone p1 p2 w) := xj_met lC_ok (by decide) (Nat.le_of_ble_eq_true rfl) (Nat.zero_le _) (Nat.zero_le _) (tX5_checkAlone p1 p2 w)
set_option maxRecDepth 20000 in
def sX5_markUnit (p1 : Int32) (w : xW) : Option (Int32 × xW) :=
  xbd (sX5_lengthAt p1 w) (fun x1 w2 => (if x1 = 0 then xbd (sX5_refuse (2 : Int32) p1 w2) (fun x22 w23 => some (x22, w23)) else xbd (sX5_leavesBundle p1 x1 w2) (fun x3 w4 => (if x3 = 0 then xbd (sX5_mark p1 (1 : Int32) w4) (fun _ w5 => xbd (sX5_is p1 (1 : Int32) w5) (fun x6 w7 => (if x6 = 0 then xbd (sX5_is p1 (16 : Int32) w7) (fun x8 w9 => (if x8 = 0 then xbd (sX5_is p1 (64 : Int32) w9) (fun x10 w11 => (if x10 = 0 then xbd (sX5_checkAlone p1 x1 w11) (fun x12 w13 => some (x12, w13)) else xbd (sX5_markWriteUnit p1 w11) (fun x14 w15 => some (x14, w15)))) else xbd (sX5_markJumpUnit p1 x1 w9) (fun x16 w17 => some (x16, w17)))) else xbd (sX5_markStackUnit p1 x1 w7) (fun x18 w19 => some (x18, w19))))) else xbd (sX5_refuse (3 : Int32) p1 w4) (fun x20 w21 => some (x20, w21))))))
set_option maxRecDepth 20000 in
theorem tX5_markUnit (p1 : Int32) (w : xW) : xJ ιI mX5_markUnit lC (0, 0) 0 [(0, .ref 4), (1, .int p1)] [] w (sX5_markUnit p1 w) := by
  unfold sX5_markUnit
  refine xj_aloadn 0 dX5_markUnit_0 rfl rfl ?_
  refine xj_iloadn 1 dX5_markUnit_1 rfl rfl ?_
  refine xj_cVi (argv := [.int p1]) (rest := []) dX5_markUnit_2 (kX5_lengthAt p1 w) mkX5_lengthAt tw872 rfl rfl rfl rfl rfl rfl (fun x1 w2 => ?_)
  refine xj_istoren (lv2 := [(2, .int x1), (0, .ref 4), (1, .int p1)]) dX5_markUnit_5 rfl (Nat.le_of_ble_eq_true rfl) rfl ?_
  refine xj_iloadn 0 dX5_markUnit_6 rfl rfl ?_
  refine xj_ifne (tgt := 17) dX5_markUnit_7 rfl ?_ ?_
  · refine xj_aloadn 1 dX5_markUnit_10 rfl rfl ?_
    refine xj_iconst (v := 2) dX5_markUnit_11 ci_2 ?_
    refine xj_iloadn 2 dX5_markUnit_12 rfl rfl ?_
    refine xj_cVi (argv := [.int (2 : Int32), .int p1]) (rest := []) dX5_markUnit_13 (kX5_refuse (2 : Int32) p1 w2) mkX5_refuse tw864 rfl rfl rfl rfl rfl rfl (fun x22 w23 => ?_)
    exact xj_ri dX5_markUnit_16 rfl
  · refine xj_iloadn 2 dX5_markUnit_17 rfl rfl ?_
    refine xj_iloadn 0 dX5_markUnit_18 rfl rfl ?_
    refine xj_cSi (argv := [.int p1, .int x1]) (rest := []) dX5_markUnit_19 (kX5_leavesBundle p1 x1 w2) mkX5_leavesBundle tw876 rfl rfl rfl rfl (fun x3 w4 => ?_)
    refine xj_ifeq (tgt := 32) dX5_markUnit_22 rfl ?_ ?_
    · refine xj_aloadn 1 dX5_markUnit_32 rfl rfl ?_
      refine xj_iloadn 2 dX5_markUnit_33 rfl rfl ?_
      refine xj_iconst (v := 1) dX5_markUnit_34 ci_1 ?_
      refine xj_cVv (argv := [.int p1, .int (1 : Int32)]) (rest := []) dX5_markUnit_35 (kX5_mark p1 (1 : Int32) w4) mkX5_mark tw879 rfl rfl rfl rfl rfl rfl (fun _ w5 => ?_)
      refine xj_aloadn 1 dX5_markUnit_38 rfl rfl ?_
      refine xj_iloadn 2 dX5_markUnit_39 rfl rfl ?_
      refine xj_iconst (v := 1) dX5_markUnit_40 ci_1 ?_
      refine xj_cVi (argv := [.int p1, .int (1 : Int32)]) (rest := []) dX5_markUnit_41 (kX5_is p1 (1 : Int32) w5) mkX5_is tw883 rfl rfl rfl rfl rfl rfl (fun x6 w7 => ?_)
      refine xj_ifeq (tgt := 54) dX5_markUnit_44 rfl ?_ ?_
      · refine xj_aloadn 1 dX5_markUnit_54 rfl rfl ?_
        refine xj_iloadn 2 dX5_markUnit_55 rfl rfl ?_
        refine xj_bipush (v := 16) dX5_markUnit_56 cb_16 ?_
        refine xj_cVi (argv := [.int p1, .int (16 : Int32)]) (rest := []) dX5_markUnit_58 (kX5_is p1 (16 : Int32) w7) mkX5_is tw883 rfl rfl rfl rfl rfl rfl (fun x8 w9 => ?_)
        refine xj_ifeq (tgt := 71) dX5_markUnit_61 rfl ?_ ?_
        · refine xj_aloadn 1 dX5_markUnit_71 rfl rfl ?_
          refine xj_iloadn 2 dX5_markUnit_72 rfl rfl ?_
          refine xj_bipush (v := 64) dX5_markUnit_73 cb_64 ?_
          refine xj_cVi (argv := [.int p1, .int (64 : Int32)]) (rest := []) dX5_markUnit_75 (kX5_is p1 (64 : Int32) w9) mkX5_is tw883 rfl rfl rfl rfl rfl rfl (fun x10 w11 => ?_)
          refine xj_ifeq (tgt := 87) dX5_markUnit_78 rfl ?_ ?_
          · refine xj_aloadn 1 dX5_markUnit_87 rfl rfl ?_
            refine xj_iloadn 2 dX5_markUnit_88 rfl rfl ?_
            refine xj_iloadn 0 dX5_markUnit_89 rfl rfl ?_
            refine xj_cVi (argv := [.int p1, .int x1]) (rest := []) dX5_markUnit_90 (kX5_checkAlone p1 x1 w11) mkX5_checkAlone tw911 rfl rfl rfl rfl rfl rfl (fun x12 w13 => ?_)
            exact xj_ri dX5_markUnit_93 rfl
          · refine xj_aloadn 1 dX5_markUnit_81 rfl rfl ?_
            refine xj_iloadn 2 dX5_markUnit_82 rfl rfl ?_
            refine xj_cVi (argv := [.int p1]) (rest := []) dX5_markUnit_83 (kX5_markWriteUnit p1 w11) mkX5_markWriteUnit tw907 rfl rfl rfl rfl rfl rfl (fun x14 w15 => ?_)
            exact xj_ri dX5_markUnit_86 rfl
        · refine xj_aloadn 1 dX5_markUnit_64 rfl rfl ?_
          refine xj_iloadn 2 dX5_markUnit_65 rfl rfl ?_
          refine xj_iloadn 0 dX5_markUnit_66 rfl rfl ?_
          refine xj_cVi (argv := [.int p1, .int x1]) (rest := []) dX5_markUnit_67 (kX5_markJumpUnit p1 x1 w9) mkX5_markJumpUnit tw899 rfl rfl rfl rfl rfl rfl (fun x16 w17 => ?_)
          exact xj_ri dX5_markUnit_70 rfl
      · refine xj_aloadn 1 dX5_markUnit_47 rfl rfl ?_
        refine xj_iloadn 2 dX5_markUnit_48 rfl rfl ?_
        refine xj_iloadn 0 dX5_markUnit_49 rfl rfl ?_
        refine xj_cVi (argv := [.int p1, .int x1]) (rest := []) dX5_markUnit_50 (kX5_markStackUnit p1 x1 w7) mkX5_markStackUnit tw887 rfl rfl rfl rfl rfl rfl (fun x18 w19 => ?_)
        exact xj_ri dX5_markUnit_53 rfl
    · refine xj_aloadn 1 dX5_markUnit_25 rfl rfl ?_
      refine xj_iconst (v := 3) dX5_markUnit_26 ci_3 ?_
      refine xj_iloadn 2 dX5_markUnit_27 rfl rfl ?_
      refine xj_cVi (argv := [.int (3 : Int32), .int p1]) (rest := []) dX5_markUnit_28 (kX5_refuse (3 : Int32) p1 w4) mkX5_refuse tw864 rfl rfl rfl rfl rfl rfl (fun x20 w21 => ?_)
      exact xj_ri dX5_markUnit_31 rfl
theorem kX5_markUnit (p1 : Int32) (w : xW) : xMet jI mX5_markUnit lC (0, 0) [.ref 4, .int p1] w (sX5_markUnit p1 w) := xj_met lC_ok (by decide) (Nat.le_of_ble_eq_true rfl) (Nat.zero_le _) (Nat.zero_le _) (tX5_markUnit p1 w)
set_option maxRecDepth 20000 in
def sX5_markUnits_j23 (w : xW) : Option (Int32 × xW) :=
  xbd (sX5_refuse (1 : Int32) (0 : Int32) w) (fun x1 w2 => some (x1, w2))
set_option maxRecDepth 20000 in
theorem tX5_markUnits_j23 (w : xW) : xJ ιI mX5_markUnits lC (0, 0) 23 [(0, .ref 4)] [] w (sX5_markUnits_j23 w) := by
  unfold sX5_markUnits_j23
  refine xj_aloadn 0 dX5_markUnits_23 rfl rfl ?_
  refine xj_iconst (v := 1) dX5_markUnits_24 ci_1 ?_
  refine xj_iconst (v := 0) dX5_markUnits_25 ci_0 ?_
  refine xj_cVi (argv := [.int (1 : Int32), .int (0 : Int32)]) (rest := []) dX5_markUnits_26 (kX5_refuse (1 : Int32) (0 : Int32) w) mkX5_refuse tw864 rfl rfl rfl rfl rfl rfl (fun x1 w2 => ?_)
  exact xj_ri dX5_markUnits_29 rfl
set_option maxRecDepth 20000 in
def sX5_markUnits_l36 : Nat → Int32 → Int32 → xW → Option (Int32 × xW)
  | 0, _, _, _ => none
  | n + 1, a1, a3, w =>
  (if a3 < (w.1 1 1) then (if (w.1 4 10) = 0 then xbd (sX5_markUnit a3 w) (fun x1 w2 => (sX5_markUnits_l36 n) a3 (a3 + (xmax (1 : Int32) x1)) w2) else some (a1, w)) else some (a1, w))
set_option maxRecDepth 20000 in
theorem tX5_markUnits_l36 : ∀ (n : Nat) (a1 : Int32) (a3 : Int32) (w : xW), xJ ιI mX5_markUnits lC (0, 0) 36 [(0, .ref 4), (1, .int a1), (3, .int a3)] [] w (sX5_markUnits_l36 n a1 a3 w) := by
  intro n
  induction n with
  | zero => intros; exact xj_none
  | succ n ih =>
    intro a1 a3 w
    rw [sX5_markUnits_l36]
    refine xj_iloadn 2 dX5_markUnits_36 rfl rfl ?_
    refine xj_aloadn 0 dX5_markUnits_37 rfl rfl ?_
    refine gfX5_33 dX5_markUnits_38 rfl ?_
    refine gfX5_135 (v := (w.1 1 1)) dX5_markUnits_41 rfl rfl ?_
    refine xj_ige (tgt := 73) dX5_markUnits_44 rfl ?_ ?_
    · refine xj_aloadn 0 dX5_markUnits_47 rfl rfl ?_
      refine gfX5_49 (v := (w.1 4 10)) dX5_markUnits_48 rfl rfl ?_
      refine xj_ifne (tgt := 73) dX5_markUnits_51 rfl ?_ ?_
      · refine xj_iloadn 2 dX5_markUnits_54 rfl rfl ?_
        refine xj_istoren (lv2 := [(1, .int a3), (0, .ref 4), (3, .int a3)]) dX5_markUnits_55 rfl (Nat.le_of_ble_eq_true rfl) rfl ?_
        refine xj_aloadn 1 dX5_markUnits_56 rfl rfl ?_
        refine xj_iloadn 2 dX5_markUnits_57 rfl rfl ?_
        refine xj_cVi (argv := [.int a3]) (rest := []) dX5_markUnits_58 (kX5_markUnit a3 w) mkX5_markUnit tw868 rfl rfl rfl rfl rfl rfl (fun x1 w2 => ?_)
        refine xj_istoren (lv2 := [(2, .int x1), (1, .int a3), (0, .ref 4), (3, .int a3)]) dX5_markUnits_61 rfl (Nat.le_of_ble_eq_true rfl) rfl ?_
        refine xj_iloadn 3 dX5_markUnits_62 rfl rfl ?_
        refine xj_iconst (v := 1) dX5_markUnits_63 ci_1 ?_
        refine xj_iloadn 0 dX5_markUnits_64 rfl rfl ?_
        refine xj_mmax (rest := [.int a3]) dX5_markUnits_65 tw915 rfl rfl ?_
        refine xj_iadd dX5_markUnits_68 ?_
        refine xj_istoren (lv2 := [(3, .int (a3 + (xmax (1 : Int32) x1))), (2, .int x1), (1, .int a3), (0, .ref 4)]) dX5_markUnits_69 rfl (Nat.le_of_ble_eq_true rfl) rfl ?_
        refine xj_goto (tgt := 36) dX5_markUnits_70 rfl ?_
        refine xj_sub (lv2 := [(0, .ref 4), (1, .int a3), (3, .int (a3 + (xmax (1 : Int32) x1)))]) [3, 2, 0] rfl ?_
        exact ih _ _ _
      · refine xj_iloadn 1 dX5_markUnits_73 rfl rfl ?_
        exact xj_ri dX5_markUnits_74 rfl
    · refine xj_iloadn 1 dX5_markUnits_73 rfl rfl ?_
      exact xj_ri dX5_markUnits_74 rfl
set_option maxRecDepth 20000 in
def sX5_markUnits (w : xW) : Option (Int32 × xW) :=
  (if (w.1 1 1) = 0 then sX5_markUnits_j23 w else (if ¬ (32 : Int32) = 0 then (if ((w.1 1 1) - (w.1 1 1) / (32 : Int32) * (32 : Int32)) = 0 then sX5_markUnits_l36 70000 (0 : Int32) (0 : Int32) w else sX5_markUnits_j23 w) else none))
set_option maxRecDepth 20000 in
theorem tX5_markUnits (w : xW) : xJ ιI mX5_markUnits lC (0, 0) 0 [(0, .ref 4)] [] w (sX5_markUnits w) := by
  unfold sX5_markUnits
  refine xj_aloadn 0 dX5_markUnits_0 rfl rfl ?_
  refine gfX5_33 dX5_markUnits_1 rfl ?_
  refine gfX5_135 (v := (w.1 1 1)) dX5_markUnits_4 rfl rfl ?_
  refine xj_ifeq (tgt := 23) dX5_markUnits_7 rfl ?_ ?_
  · exact tX5_markUnits_j23 _
  · refine xj_aloadn 0 dX5_markUnits_10 rfl rfl ?_
    refine gfX5_33 dX5_markUnits_11 rfl ?_
    refine gfX5_135 (v := (w.1 1 1)) dX5_markUnits_14 rfl rfl ?_
    refine xj_bipush (v := 32) dX5_markUnits_17 cb_32 ?_
    refine xj_irem dX5_markUnits_19 ?_
    refine xj_ifeq (tgt := 30) dX5_markUnits_20 rfl ?_ ?_
    · refine xj_iconst (v := 0) dX5_markUnits_30 ci_0 ?_
      refine xj_istoren (lv2 := [(1, .int (0 : Int32)), (0, .ref 4)]) dX5_markUnits_31 rfl (Nat.le_of_ble_eq_true rfl) rfl ?_
      refine xj_iconst (v := 0) dX5_markUnits_32 ci_0 ?_
      refine xj_istoren (lv2 := [(2, .int (0 : Int32)), (1, .int (0 : Int32)), (0, .ref 4)]) dX5_markUnits_33 rfl (Nat.le_of_ble_eq_true rfl) rfl ?_
      refine xj_iconst (v := 0) dX5_markUnits_34 ci_0 ?_
      refine xj_istoren (lv2 := [(3, .int (0 : Int32)), (2, .int (0 : Int32)), (1, .int (0 : Int32)), (0, .ref 4)]) dX5_markUnits_35 rfl (Nat.le_of_ble_eq_true rfl) rfl ?_
      refine xj_sub (lv2 := [(0, .ref 4), (1, .int (0 : Int32)), (3, .int (0 : Int32))]) [3, 2, 0] rfl ?_
      exact tX5_markUnits_l36 _ _ _ _
    · exact tX5_markUnits_j23 _
theorem kX5_markUnits (w : xW) : xMet jI mX5_markUnits lC (0, 0) [.ref 4] w (sX5_markUnits w) := xj_met lC_ok (by decide) (Nat.le_of_ble_eq_true rfl) (Nat.zero_le _) (Nat.zero_le _) (tX5_markUnits w)
