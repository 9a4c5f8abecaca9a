/-! the reference, method by method: 4 -/
set_option maxRecDepth 20000 in
def sX12_shifts_j34 (b0 : Int32) (w : xW) : Option (Unit × xW) :=
  xbd (sX12_getE w) (fun x1 w2 => (if 0 < (b0 &&& (31 : Int32)) then (if (w2.1 0 45) = 0 then xbd (sX12_shifted x1 (b0 &&& (31 : Int32)) w2) (fun x3 w4 => xbd (sX12_setE x3 w4) (fun _ w5 => some ((), w5))) else some ((), w2)) else some ((), w2)))
set_option maxRecDepth 20000 in
theorem tX12_shifts_j34 (b0 : Int32) (w : xW) : xJ ιV mX12_shifts lM (0, 0) 34 [(0, .ref 0)] [.int b0] w (sX12_shifts_j34 b0 w) := by
  unfold sX12_shifts_j34
  refine xj_bipush (v := 31) dX12_shifts_34 cb_31 ?_
  refine xj_iand dX12_shifts_36 ?_
  refine xj_istoren (lv2 := [(1, .int (b0 &&& (31 : Int32))), (0, .ref 0)]) dX12_shifts_37 rfl (Nat.le_of_ble_eq_true rfl) rfl ?_
  refine xj_aloadn 1 dX12_shifts_38 rfl rfl ?_
  refine xj_cVi (argv := []) (rest := []) dX12_shifts_39 (kX12_getE w) mkX12_getE tw2298 rfl rfl rfl rfl rfl rfl (fun x1 w2 => ?_)
  refine xj_istoren (lv2 := [(2, .int x1), (1, .int (b0 &&& (31 : Int32))), (0, .ref 0)]) dX12_shifts_42 rfl (Nat.le_of_ble_eq_true rfl) rfl ?_
  refine xj_iloadn 1 dX12_shifts_43 rfl rfl ?_
  refine xj_ifle (tgt := 64) dX12_shifts_44 rfl ?_ ?_
  · refine xj_aloadn 2 dX12_shifts_47 rfl rfl ?_
    refine gfX12_272 (v := (w2.1 0 45)) dX12_shifts_48 rfl rfl ?_
    refine xj_ifne (tgt := 64) dX12_shifts_51 rfl ?_ ?_
    · refine xj_aloadn 2 dX12_shifts_54 rfl rfl ?_
      refine xj_aloadn 2 dX12_shifts_55 rfl rfl ?_
      refine xj_iloadn 0 dX12_shifts_56 rfl rfl ?_
      refine xj_iloadn 1 dX12_shifts_57 rfl rfl ?_
      refine xj_cVi (argv := [.int x1, .int (b0 &&& (31 : Int32))]) (rest := [.ref 0]) dX12_shifts_58 (kX12_shifted x1 (b0 &&& (31 : Int32)) w2) mkX12_shifted tw2356 rfl rfl rfl rfl rfl rfl (fun x3 w4 => ?_)
      refine xj_cVv (argv := [.int x3]) (rest := []) dX12_shifts_61 (kX12_setE x3 w4) mkX12_setE tw2342 rfl rfl rfl rfl rfl rfl (fun _ w5 => ?_)
      exact xj_rv dX12_shifts_64 rfl
    · exact xj_rv dX12_shifts_64 rfl
  · exact xj_rv dX12_shifts_64 rfl
set_option maxRecDepth 20000 in
def sX12_shifts (w : xW) : Option (Unit × xW) :=
  (if (w.1 0 18) = (4 : Int32) then sX12_shifts_j34 (w.1 0 29) w else (if (w.1 0 18) = (10 : Int32) then sX12_shifts_j34 (1 : Int32) w else (if xin (1 : Int32) 8 then sX12_shifts_j34 (w.1 9 ((1 : Int32).toNatClampNeg)) w else none)))
set_option maxRecDepth 20000 in
theorem tX12_shifts (w : xW) : xJ ιV mX12_shifts lM (0, 0) 0 [(0, .ref 0)] [] w (sX12_shifts w) := by
  unfold sX12_shifts
  refine xj_aloadn 0 dX12_shifts_0 rfl rfl ?_
  refine gfX12_73 (v := (w.1 0 18)) dX12_shifts_1 rfl rfl ?_
  refine xj_iconst (v := 4) dX12_shifts_4 ci_4 ?_
  refine xj_ine (tgt := 15) dX12_shifts_5 rfl ?_ ?_
  · refine xj_aloadn 0 dX12_shifts_8 rfl rfl ?_
    refine gfX12_109 (v := (w.1 0 29)) dX12_shifts_9 rfl rfl ?_
    refine xj_goto (tgt := 34) dX12_shifts_12 rfl ?_
    exact tX12_shifts_j34 _ _
  · refine xj_aloadn 0 dX12_shifts_15 rfl rfl ?_
    refine gfX12_73 (v := (w.1 0 18)) dX12_shifts_16 rfl rfl ?_
    refine xj_bipush (v := 10) dX12_shifts_19 cb_10 ?_
    refine xj_ine (tgt := 28) dX12_shifts_21 rfl ?_ ?_
    · refine xj_iconst (v := 1) dX12_shifts_24 ci_1 ?_
      refine xj_goto (tgt := 34) dX12_shifts_25 rfl ?_
      exact tX12_shifts_j34 _ _
    · refine xj_aloadn 0 dX12_shifts_28 rfl rfl ?_
      refine gfX12_44 dX12_shifts_29 rfl ?_
      refine xj_iconst (v := 1) dX12_shifts_32 ci_1 ?_
      refine xj_iald (k := 9) dX12_shifts_33 rfl ?_
      exact tX12_shifts_j34 _ _
theorem kX12_shifts (w : xW) : xMet jV mX12_shifts lM (0, 0) [.ref 0] w (sX12_shifts w) := xj_met lM_ok (by decide) (Nat.le_of_ble_eq_true rfl) (Nat.zero_le _) (Nat.zero_le _) (tX12_shifts w)
set_option maxRecDepth 20000 in
def sX12_doubles_j134 (a4 : Int32) (b0 : Int32) (w : xW) : Option (Unit × xW) :=
  (if xz b0 then xbd (sX12_byResult a4 (4 : Int32) (xwi w 0 40 b0)) (fun _ w1 => xbd (sX12_setE a4 w1) (fun _ w2 => some ((), w2))) else none)
set_option maxRecDepth 20000 in
theorem tX12_doubles_j134 (a4 : Int32) (b0 : Int32) (w : xW) : xJ ιV mX12_doubles lM (0, 0) 134 [(0, .ref 0), (4, .int a4)] [.int b0, .ref 0] w (sX12_doubles_j134 a4 b0 w) := by
  unfold sX12_doubles_j134
  refine xj_guard (fun hz => ?_)
  refine pfX12_323 dX12_doubles_134 rfl hz ?_
  refine xj_aloadn 0 dX12_doubles_137 rfl rfl ?_
  refine xj_iload 1 dX12_doubles_138 rfl ?_
  refine xj_iconst (v := 4) dX12_doubles_140 ci_4 ?_
  refine xj_cVv (argv := [.int a4, .int (4 : Int32)]) (rest := []) dX12_doubles_141 (kX12_byResult a4 (4 : Int32) (xwi w 0 40 b0)) mkX12_byResult tw2324 rfl rfl rfl rfl rfl rfl (fun _ w1 => ?_)
  refine xj_aloadn 0 dX12_doubles_144 rfl rfl ?_
  refine xj_iload 1 dX12_doubles_145 rfl ?_
  refine xj_cVv (argv := [.int a4]) (rest := []) dX12_doubles_147 (kX12_setE a4 w1) mkX12_setE tw2342 rfl rfl rfl rfl rfl rfl (fun _ w2 => ?_)
  exact xj_rv dX12_doubles_150 rfl
set_option maxRecDepth 20000 in
def sX12_doubles_j126 (a4 : Int32) (b0 : Int32) (b1 : Int32) (w : xW) : Option (Unit × xW) :=
  (if b1 = b0 then sX12_doubles_j134 a4 (0 : Int32) w else sX12_doubles_j134 a4 (1 : Int32) w)
set_option maxRecDepth 20000 in
theorem tX12_doubles_j126 (a4 : Int32) (b0 : Int32) (b1 : Int32) (w : xW) : xJ ιV mX12_doubles lM (0, 0) 126 [(0, .ref 0), (4, .int a4)] [.int b0, .int b1, .ref 0] w (sX12_doubles_j126 a4 b0 b1 w) := by
  unfold sX12_doubles_j126
  refine xj_ieq (tgt := 133) dX12_doubles_126 rfl ?_ ?_
  · refine xj_iconst (v := 0) dX12_doubles_133 ci_0 ?_
    exact tX12_doubles_j134 _ _ _
  · refine xj_iconst (v := 1) dX12_doubles_129 ci_1 ?_
    refine xj_goto (tgt := 134) dX12_doubles_130 rfl ?_
    exact tX12_doubles_j134 _ _ _
set_option maxRecDepth 20000 in
def sX12_doubles_j116 (a4 : Int32) (b0 : Int32) (w : xW) : Option (Unit × xW) :=
  (if a4 < 0 then sX12_doubles_j126 a4 (1 : Int32) b0 w else sX12_doubles_j126 a4 (0 : Int32) b0 w)
set_option maxRecDepth 20000 in
theorem tX12_doubles_j116 (a4 : Int32) (b0 : Int32) (w : xW) : xJ ιV mX12_doubles lM (0, 0) 116 [(0, .ref 0), (4, .int a4)] [.int b0, .ref 0] w (sX12_doubles_j116 a4 b0 w) := by
  unfold sX12_doubles_j116
  refine xj_iload 1 dX12_doubles_116 rfl ?_
  refine xj_ifge (tgt := 125) dX12_doubles_118 rfl ?_ ?_
  · refine xj_iconst (v := 1) dX12_doubles_121 ci_1 ?_
    refine xj_goto (tgt := 126) dX12_doubles_122 rfl ?_
    exact tX12_doubles_j126 _ _ _ _
  · refine xj_iconst (v := 0) dX12_doubles_125 ci_0 ?_
    exact tX12_doubles_j126 _ _ _ _
set_option maxRecDepth 20000 in
def sX12_doubles_j103 (a2 : Int32) (a4 : Int32) (b0 : Int32) (w : xW) : Option (Unit × xW) :=
  (if xz b0 then (if a2 < 0 then sX12_doubles_j116 a4 (1 : Int32) (xwi w 0 36 b0) else sX12_doubles_j116 a4 (0 : Int32) (xwi w 0 36 b0)) else none)
set_option maxRecDepth 20000 in
theorem tX12_doubles_j103 (a2 : Int32) (a4 : Int32) (b0 : Int32) (w : xW) : xJ ιV mX12_doubles lM (0, 0) 103 [(0, .ref 0), (2, .int a2), (4, .int a4)] [.int b0, .ref 0] w (sX12_doubles_j103 a2 a4 b0 w) := by
  unfold sX12_doubles_j103
  refine xj_guard (fun hz => ?_)
  refine pfX12_320 dX12_doubles_103 rfl hz ?_
  refine xj_aloadn 0 dX12_doubles_106 rfl rfl ?_
  refine xj_iloadn 1 dX12_doubles_107 rfl rfl ?_
  refine xj_ifge (tgt := 115) dX12_doubles_108 rfl ?_ ?_
  · refine xj_iconst (v := 1) dX12_doubles_111 ci_1 ?_
    refine xj_goto (tgt := 116) dX12_doubles_112 rfl ?_
    refine xj_sub (lv2 := [(0, .ref 0), (4, .int a4)]) [0, 2] rfl ?_
    exact tX12_doubles_j116 _ _ _
  · refine xj_iconst (v := 0) dX12_doubles_115 ci_0 ?_
    refine xj_sub (lv2 := [(0, .ref 0), (4, .int a4)]) [0, 2] rfl ?_
    exact tX12_doubles_j116 _ _ _
set_option maxRecDepth 20000 in
def sX12_doubles_j93 (a2 : Int32) (a4 : Int32) (b0 : Int32) (w : xW) : Option (Unit × xW) :=
  (if (b0 &&& (1 : Int32)) = 0 then sX12_doubles_j103 a2 a4 (0 : Int32) w else sX12_doubles_j103 a2 a4 (1 : Int32) w)
set_option maxRecDepth 20000 in
theorem tX12_doubles_j93 (a2 : Int32) (a4 : Int32) (b0 : Int32) (w : xW) : xJ ιV mX12_doubles lM (0, 0) 93 [(0, .ref 0), (2, .int a2), (4, .int a4)] [.int b0, .ref 0] w (sX12_doubles_j93 a2 a4 b0 w) := by
  unfold sX12_doubles_j93
  refine xj_iconst (v := 1) dX12_doubles_93 ci_1 ?_
  refine xj_iand dX12_doubles_94 ?_
  refine xj_ifeq (tgt := 102) dX12_doubles_95 rfl ?_ ?_
  · refine xj_iconst (v := 0) dX12_doubles_102 ci_0 ?_
    exact tX12_doubles_j103 _ _ _ _
  · refine xj_iconst (v := 1) dX12_doubles_98 ci_1 ?_
    refine xj_goto (tgt := 103) dX12_doubles_99 rfl ?_
    exact tX12_doubles_j103 _ _ _ _
set_option maxRecDepth 20000 in
def sX12_doubles_j67 (a1 : Int32) (a2 : Int32) (b0 : Int32) (w : xW) : Option (Unit × xW) :=
  (if (w.1 0 17) = (46 : Int32) then sX12_doubles_j93 a2 b0 (xushr a2 ((32 : Int32) - a1)) w else sX12_doubles_j93 a2 b0 (xushr a2 (a1 - (1 : Int32))) w)
set_option maxRecDepth 20000 in
theorem tX12_doubles_j67 (a1 : Int32) (a2 : Int32) (b0 : Int32) (w : xW) : xJ ιV mX12_doubles lM (0, 0) 67 [(0, .ref 0), (1, .int a1), (2, .int a2)] [.int b0] w (sX12_doubles_j67 a1 a2 b0 w) := by
  unfold sX12_doubles_j67
  refine xj_istore (lv2 := [(4, .int b0), (0, .ref 0), (1, .int a1), (2, .int a2)]) dX12_doubles_67 (Nat.le_of_ble_eq_true rfl) rfl ?_
  refine xj_aloadn 1 dX12_doubles_69 rfl rfl ?_
  refine xj_aloadn 1 dX12_doubles_70 rfl rfl ?_
  refine gfX12_70 (v := (w.1 0 17)) dX12_doubles_71 rfl rfl ?_
  refine xj_bipush (v := 46) dX12_doubles_74 cb_46 ?_
  refine xj_ine (tgt := 88) dX12_doubles_76 rfl ?_ ?_
  · refine xj_iloadn 3 dX12_doubles_79 rfl rfl ?_
    refine xj_bipush (v := 32) dX12_doubles_80 cb_32 ?_
    refine xj_iloadn 2 dX12_doubles_82 rfl rfl ?_
    refine xj_isub dX12_doubles_83 ?_
    refine xj_iushr dX12_doubles_84 ?_
    refine xj_goto (tgt := 93) dX12_doubles_85 rfl ?_
    refine xj_sub (lv2 := [(0, .ref 0), (2, .int a2), (4, .int b0)]) [1, 3, 0] rfl ?_
    exact tX12_doubles_j93 _ _ _ _
  · refine xj_iloadn 3 dX12_doubles_88 rfl rfl ?_
    refine xj_iloadn 2 dX12_doubles_89 rfl rfl ?_
    refine xj_iconst (v := 1) dX12_doubles_90 ci_1 ?_
    refine xj_isub dX12_doubles_91 ?_
    refine xj_iushr dX12_doubles_92 ?_
    refine xj_sub (lv2 := [(0, .ref 0), (2, .int a2), (4, .int b0)]) [1, 3, 0] rfl ?_
    exact tX12_doubles_j93 _ _ _ _
set_option maxRecDepth 20000 in
def sX12_doubles (w : xW) : Option (Unit × xW) :=
  xbd (sX12_getE w) (fun x1 w2 => (if xin (w2.1 0 23) 8 then xlet (w2.1 9 ((w2.1 0 23).toNatClampNeg)) (fun x3 => (if ((w.1 0 29) &&& (31 : Int32)) = 0 then some ((), w2) else (if (w2.1 0 45) = 0 then (if (w2.1 0 17) = (46 : Int32) then sX12_doubles_j67 ((w.1 0 29) &&& (31 : Int32)) x1 ((x1 <<< (((w.1 0 29) &&& (31 : Int32)) &&& 31)) ||| (xushr x3 ((32 : Int32) - ((w.1 0 29) &&& (31 : Int32))))) w2 else sX12_doubles_j67 ((w.1 0 29) &&& (31 : Int32)) x1 ((xushr x1 ((w.1 0 29) &&& (31 : Int32))) ||| (x3 <<< (((32 : Int32) - ((w.1 0 29) &&& (31 : Int32))) &&& 31))) w2) else some ((), w2)))) else none))
set_option maxRecDepth 20000 in
theorem tX12_doubles (w : xW) : xJ ιV mX12_doubles lM (0, 0) 0 [(0, .ref 0)] [] w (sX12_doubles w) := by
  unfold sX12_doubles
  refine xj_aloadn 0 dX12_doubles_0 rfl rfl ?_
  refine gfX12_109 (v := (w.1 0 29)) dX12_doubles_1 rfl rfl ?_
  refine xj_bipush (v := 31) dX12_doubles_4 cb_31 ?_
  refine xj_iand dX12_doubles_6 ?_
  refine xj_istoren (lv2 := [(1, .int ((w.1 0 29) &&& (31 : Int32))), (0, .ref 0)]) dX12_doubles_7 rfl (Nat.le_of_ble_eq_true rfl) rfl ?_
  refine xj_aloadn 1 dX12_doubles_8 rfl rfl ?_
  refine xj_cVi (argv := []) (rest := []) dX12_doubles_9 (kX12_getE w) mkX12_getE tw2298 rfl rfl rfl rfl rfl rfl (fun x1 w2 => ?_)
  refine xj_istoren (lv2 := [(2, .int x1), (1, .int ((w.1 0 29) &&& (31 : Int32))), (0, .ref 0)]) dX12_doubles_12 rfl (Nat.le_of_ble_eq_true rfl) rfl ?_
  refine xj_aloadn 2 dX12_doubles_13 rfl rfl ?_
  refine gfX12_44 dX12_doubles_14 rfl ?_
  refine xj_aloadn 2 dX12_doubles_17 rfl rfl ?_
  refine gfX12_85 (v := (w2.1 0 23)) dX12_doubles_18 rfl rfl ?_
  refine xj_iald (k := 9) dX12_doubles_21 rfl ?_
  refine xj_leti (fun x3 => ?_)
  refine xj_istoren (lv2 := [(3, .int x3), (2, .int x1), (1, .int ((w.1 0 29) &&& (31 : Int32))), (0, .ref 0)]) dX12_doubles_22 rfl (Nat.le_of_ble_eq_true rfl) rfl ?_
  refine xj_iloadn 2 dX12_doubles_23 rfl rfl ?_
  refine xj_ifeq (tgt := 34) dX12_doubles_24 rfl ?_ ?_
  · exact xj_rv dX12_doubles_34 rfl
  · refine xj_aloadn 3 dX12_doubles_27 rfl rfl ?_
    refine gfX12_272 (v := (w2.1 0 45)) dX12_doubles_28 rfl rfl ?_
    refine xj_ifeq (tgt := 35) dX12_doubles_31 rfl ?_ ?_
    · refine xj_aloadn 3 dX12_doubles_35 rfl rfl ?_
      refine gfX12_70 (v := (w2.1 0 17)) dX12_doubles_36 rfl rfl ?_
      refine xj_bipush (v := 46) dX12_doubles_39 cb_46 ?_
      refine xj_ine (tgt := 57) dX12_doubles_41 rfl ?_ ?_
      · refine xj_iloadn 1 dX12_doubles_44 rfl rfl ?_
        refine xj_iloadn 2 dX12_doubles_45 rfl rfl ?_
        refine xj_ishl dX12_doubles_46 ?_
        refine xj_iloadn 0 dX12_doubles_47 rfl rfl ?_
        refine xj_bipush (v := 32) dX12_doubles_48 cb_32 ?_
        refine xj_iloadn 2 dX12_doubles_50 rfl rfl ?_
        refine xj_isub dX12_doubles_51 ?_
        refine xj_iushr dX12_doubles_52 ?_
        refine xj_ior dX12_doubles_53 ?_
        refine xj_goto (tgt := 67) dX12_doubles_54 rfl ?_
        refine xj_sub (lv2 := [(0, .ref 0), (1, .int ((w.1 0 29) &&& (31 : Int32))), (2, .int x1)]) [3, 2, 1] rfl ?_
        exact tX12_doubles_j67 _ _ _ _
      · refine xj_iloadn 1 dX12_doubles_57 rfl rfl ?_
        refine xj_iloadn 2 dX12_doubles_58 rfl rfl ?_
        refine xj_iushr dX12_doubles_59 ?_
        refine xj_iloadn 0 dX12_doubles_60 rfl rfl ?_
        refine xj_bipush (v := 32) dX12_doubles_61 cb_32 ?_
        refine xj_iloadn 2 dX12_doubles_63 rfl rfl ?_
        refine xj_isub dX12_doubles_64 ?_
        refine xj_ishl dX12_doubles_65 ?_
        refine xj_ior dX12_doubles_66 ?_
        refine xj_sub (lv2 := [(0, .ref 0), (1, .int ((w.1 0 29) &&& (31 : Int32))), (2, .int x1)]) [3, 2, 1] rfl ?_
        exact tX12_doubles_j67 _ _ _ _
    · exact xj_rv dX12_doubles_34 rfl
theorem kX12_doubles (w : xW) : xMet jV mX12_doubles lM (0, 0) [.ref 0] w (sX12_doubles w) := xj_met lM_ok (by decide) (Nat.le_of_ble_eq_true rfl) (Nat.zero_le _) (Nat.zero_le _) (tX12_doubles w)
set_option maxRecDepth 20000 in
def sX12_product_j21 (a5 : Int64) (b0 : Int32) (w : xW) : Option (Unit × xW) :=
  (if xz b0 then (if xz b0 then xbd (sX12_byResult a5.toInt32 (4 : Int32) (xwi (xwi w 0 36 b0) 0 40 b0)) (fun _ w1 => (if xin (w1.1 0 23) 8 then some ((), (xwi w1 9 ((w1.1 0 23).toNatClampNeg) a5.toInt32)) else none)) else none) else none)
set_option maxRecDepth 20000 in
theorem tX12_product_j21 (a5 : Int64) (b0 : Int32) (w : xW) : xJ ιV mX12_product lM (0, 0) 21 [(0, .ref 0), (5, .long a5)] [.int b0, .ref 0] w (sX12_product_j21 a5 b0 w) := by
  unfold sX12_product_j21
  refine xj_guard (fun hz => ?_)
  refine pfX12_320 dX12_product_21 rfl hz ?_
  refine xj_aloadn 0 dX12_product_24 rfl rfl ?_
  refine xj_aloadn 0 dX12_product_25 rfl rfl ?_
  refine gfX12_320 (v := b0) dX12_product_26 rfl rfl ?_
  refine xj_guard (fun hz => ?_)
  refine pfX12_323 dX12_product_29 rfl hz ?_
  refine xj_aloadn 0 dX12_product_32 rfl rfl ?_
  refine xj_lload 1 dX12_product_33 rfl ?_
  refine xj_l2i dX12_product_35 ?_
  refine xj_iconst (v := 4) dX12_product_36 ci_4 ?_
  refine xj_cVv (argv := [.int a5.toInt32, .int (4 : Int32)]) (rest := []) dX12_product_37 (kX12_byResult a5.toInt32 (4 : Int32) (xwi (xwi w 0 36 b0) 0 40 b0)) mkX12_byResult tw2324 rfl rfl rfl rfl rfl rfl (fun _ w1 => ?_)
  refine xj_aloadn 0 dX12_product_40 rfl rfl ?_
  refine gfX12_44 dX12_product_41 rfl ?_
  refine xj_aloadn 0 dX12_product_44 rfl rfl ?_
  refine gfX12_85 (v := (w1.1 0 23)) dX12_product_45 rfl rfl ?_
  refine xj_lload 1 dX12_product_48 rfl ?_
  refine xj_l2i dX12_product_50 ?_
  refine xj_iast (k := 9) dX12_product_51 rfl ?_
  exact xj_rv dX12_product_52 rfl
set_option maxRecDepth 20000 in
def sX12_product (p1 : Int64) (p3 : Int64) (w : xW) : Option (Unit × xW) :=
  (if (p1 * p3) = ((p1 * p3).toInt32).toInt64 then sX12_product_j21 (p1 * p3) (0 : Int32) w else sX12_product_j21 (p1 * p3) (1 : Int32) w)
set_option maxRecDepth 20000 in
theorem tX12_product (p1 : Int64) (p3 : Int64) (w : xW) : xJ ιV mX12_product lM (0, 0) 0 [(0, .ref 0), (1, .long p1), (3, .long p3)] [] w (sX12_product p1 p3 w) := by
  unfold sX12_product
  refine xj_lloadn 1 dX12_product_0 rfl rfl ?_
  refine xj_lloadn 2 dX12_product_1 rfl rfl ?_
  refine xj_lmul dX12_product_2 ?_
  refine xj_lstore (lv2 := [(5, .long (p1 * p3)), (0, .ref 0), (1, .long p1), (3, .long p3)]) dX12_product_3 (Nat.le_of_ble_eq_true rfl) rfl ?_
  refine xj_aloadn 1 dX12_product_5 rfl rfl ?_
  refine xj_lload 0 dX12_product_6 rfl ?_
  refine xj_lload 0 dX12_product_8 rfl ?_
  refine xj_l2i dX12_product_10 ?_
  refine xj_i2l dX12_product_11 ?_
  refine xj_leq (tgt := 20) dX12_product_12 dX12_product_13 rfl ?_ ?_
  · refine xj_iconst (v := 0) dX12_product_20 ci_0 ?_
    refine xj_sub (lv2 := [(0, .ref 0), (5, .long (p1 * p3))]) [1, 0] rfl ?_
    exact tX12_product_j21 _ _ _
  · refine xj_iconst (v := 1) dX12_product_16 ci_1 ?_
    refine xj_goto (tgt := 21) dX12_product_17 rfl ?_
    refine xj_sub (lv2 := [(0, .ref 0), (5, .long (p1 * p3))]) [1, 0] rfl ?_
    exact tX12_product_j21 _ _ _
theorem kX12_product (p1 : Int64) (p3 : Int64) (w : xW) : xMet jV mX12_product lM (0, 0) [.ref 0, .long p1, .long p3] w (sX12_product p1 p3 w) := xj_met lM_ok (by decide) (Nat.le_of_ble_eq_true rfl) (Nat.zero_le _) (Nat.zero_le _) (tX12_product p1 p3 w)
set_option maxRecDepth 20000 in
def sX12_wholeProduct_j217 (w : xW) : Option (Unit × xW) :=
  (if xz (w.1 0 36) then some ((), (xwi w 0 40 (w.1 0 36))) else none)
set_option maxRecDepth 20000 in
theorem tX12_wholeProduct_j217 (w : xW) : xJ ιV mX12_wholeProduct lM (0, 0) 217 [(0, .ref 0)] [] w (sX12_wholeProduct_j217 w) := by
  unfold sX12_wholeProduct_j217
  refine xj_aloadn 0 dX12_wholeProduct_217 rfl rfl ?_
  refine xj_aloadn 0 dX12_wholeProduct_218 rfl rfl ?_
  refine gfX12_320 (v := (w.1 0 36)) dX12_wholeProduct_219 rfl rfl ?_
  refine xj_guard (fun hz => ?_)
  refine pfX12_323 dX12_wholeProduct_222 rfl hz ?_
  exact xj_rv dX12_wholeProduct_225 rfl
set_option maxRecDepth 20000 in
def sX12_wholeProduct_j207 (a2 : Int64) (b0 : Int32) (w : xW) : Option (Unit × xW) :=
  (if xz b0 then xbd (sX12_byResult a2.toInt32 (4 : Int32) (xwi w 0 36 b0)) (fun _ w1 => sX12_wholeProduct_j217 w1) else none)
set_option maxRecDepth 20000 in
theorem tX12_wholeProduct_j207 (a2 : Int64) (b0 : Int32) (w : xW) : xJ ιV mX12_wholeProduct lM (0, 0) 207 [(0, .ref 0), (2, .long a2)] [.int b0, .ref 0] w (sX12_wholeProduct_j207 a2 b0 w) := by
  unfold sX12_wholeProduct_j207
  refine xj_guard (fun hz => ?_)
  refine pfX12_320 dX12_wholeProduct_207 rfl hz ?_
  refine xj_aloadn 0 dX12_wholeProduct_210 rfl rfl ?_
  refine xj_lloadn 1 dX12_wholeProduct_211 rfl rfl ?_
  refine xj_l2i dX12_wholeProduct_212 ?_
  refine xj_iconst (v := 4) dX12_wholeProduct_213 ci_4 ?_
  refine xj_cVv (argv := [.int a2.toInt32, .int (4 : Int32)]) (rest := []) dX12_wholeProduct_214 (kX12_byResult a2.toInt32 (4 : Int32) (xwi w 0 36 b0)) mkX12_byResult tw2324 rfl rfl rfl rfl rfl rfl (fun _ w1 => ?_)
  refine xj_sub (lv2 := [(0, .ref 0)]) [0] rfl ?_
  exact tX12_wholeProduct_j217 _
set_option maxRecDepth 20000 in
def sX12_wholeProduct_j147 (b0 : Int64) (w : xW) : Option (Unit × xW) :=
  (if xin (0 : Int32) 8 then (if xin (2 : Int32) 8 then (if (w.1 0 17) = (38 : Int32) then (if xin (2 : Int32) 8 then (if (xlshr b0 (32 : Int32)).toInt32 = 0 then sX12_wholeProduct_j207 b0 (0 : Int32) (xwi (xwi w 9 ((0 : Int32).toNatClampNeg) b0.toInt32) 9 ((2 : Int32).toNatClampNeg) ((xlshr b0 (32 : Int32)).toInt32)) else sX12_wholeProduct_j207 b0 (1 : Int32) (xwi (xwi w 9 ((0 : Int32).toNatClampNeg) b0.toInt32) 9 ((2 : Int32).toNatClampNeg) ((xlshr b0 (32 : Int32)).toInt32))) else none) else (if b0 = b0.toInt32.toInt64 then sX12_wholeProduct_j207 b0 (0 : Int32) (xwi (xwi w 9 ((0 : Int32).toNatClampNeg) b0.toInt32) 9 ((2 : Int32).toNatClampNeg) ((xlshr b0 (32 : Int32)).toInt32)) else sX12_wholeProduct_j207 b0 (1 : Int32) (xwi (xwi w 9 ((0 : Int32).toNatClampNeg) b0.toInt32) 9 ((2 : Int32).toNatClampNeg) ((xlshr b0 (32 : Int32)).toInt32)))) else none) else none)
set_option maxRecDepth 20000 in
theorem tX12_wholeProduct_j147 (b0 : Int64) (w : xW) : xJ ιV mX12_wholeProduct lM (0, 0) 147 [(0, .ref 0)] [.long b0] w (sX12_wholeProduct_j147 b0 w) := by
  unfold sX12_wholeProduct_j147
  refine xj_lstoren (lv2 := [(2, .long b0), (0, .ref 0)]) dX12_wholeProduct_147 rfl (Nat.le_of_ble_eq_true rfl) rfl ?_
  refine xj_aloadn 1 dX12_wholeProduct_148 rfl rfl ?_
  refine gfX12_44 dX12_wholeProduct_149 rfl ?_
  refine xj_iconst (v := 0) dX12_wholeProduct_152 ci_0 ?_
  refine xj_lloadn 0 dX12_wholeProduct_153 rfl rfl ?_
  refine xj_l2i dX12_wholeProduct_154 ?_
  refine xj_iast (k := 9) dX12_wholeProduct_155 rfl ?_
  refine xj_aloadn 1 dX12_wholeProduct_156 rfl rfl ?_
  refine gfX12_44 dX12_wholeProduct_157 rfl ?_
  refine xj_iconst (v := 2) dX12_wholeProduct_160 ci_2 ?_
  refine xj_lloadn 0 dX12_wholeProduct_161 rfl rfl ?_
  refine xj_bipush (v := 32) dX12_wholeProduct_162 cb_32 ?_
  refine xj_lshr dX12_wholeProduct_164 ?_
  refine xj_l2i dX12_wholeProduct_165 ?_
  refine xj_iast (k := 9) dX12_wholeProduct_166 rfl ?_
  refine xj_aloadn 1 dX12_wholeProduct_167 rfl rfl ?_
  refine xj_aloadn 1 dX12_wholeProduct_168 rfl rfl ?_
  refine gfX12_70 (v := (w.1 0 17)) dX12_wholeProduct_169 rfl rfl ?_
  refine xj_bipush (v := 38) dX12_wholeProduct_172 cb_38 ?_
  refine xj_ine (tgt := 194) dX12_wholeProduct_174 rfl ?_ ?_
  · refine xj_aloadn 1 dX12_wholeProduct_177 rfl rfl ?_
    refine gfX12_44 dX12_wholeProduct_178 rfl ?_
    refine xj_iconst (v := 2) dX12_wholeProduct_181 ci_2 ?_
    refine xj_iald (k := 9) dX12_wholeProduct_182 rfl ?_
    refine xj_ifeq (tgt := 190) dX12_wholeProduct_183 rfl ?_ ?_
    · refine xj_iconst (v := 0) dX12_wholeProduct_190 ci_0 ?_
      refine xj_goto (tgt := 207) dX12_wholeProduct_191 rfl ?_
      refine xj_sub (lv2 := [(0, .ref 0), (2, .long b0)]) [1, 0] rfl ?_
      exact tX12_wholeProduct_j207 _ _ _
    · refine xj_iconst (v := 1) dX12_wholeProduct_186 ci_1 ?_
      refine xj_goto (tgt := 207) dX12_wholeProduct_187 rfl ?_
      refine xj_sub (lv2 := [(0, .ref 0), (2, .long b0)]) [1, 0] rfl ?_
      exact tX12_wholeProduct_j207 _ _ _
  · refine xj_lloadn 0 dX12_wholeProduct_194 rfl rfl ?_
    refine xj_lloadn 0 dX12_wholeProduct_195 rfl rfl ?_
    refine xj_l2i dX12_wholeProduct_196 ?_
    refine xj_i2l dX12_wholeProduct_197 ?_
    refine xj_leq (tgt := 206) dX12_wholeProduct_198 dX12_wholeProduct_199 rfl ?_ ?_
    · refine xj_iconst (v := 0) dX12_wholeProduct_206 ci_0 ?_
      refine xj_sub (lv2 := [(0, .ref 0), (2, .long b0)]) [1, 0] rfl ?_
      exact tX12_wholeProduct_j207 _ _ _
    · refine xj_iconst (v := 1) dX12_wholeProduct_202 ci_1 ?_
      refine xj_goto (tgt := 207) dX12_wholeProduct_203 rfl ?_
      refine xj_sub (lv2 := [(0, .ref 0), (2, .long b0)]) [1, 0] rfl ?_
      exact tX12_wholeProduct_j207 _ _ _
set_option maxRecDepth 20000 in
def sX12_wholeProduct_j95 (a2 : Int32) (b0 : Int32) (w : xW) : Option (Unit × xW) :=
  (if xz b0 then xbd (sX12_byResult a2 (1 : Int32) (xwi w 0 36 b0)) (fun _ w1 => sX12_wholeProduct_j217 w1) else none)
set_option maxRecDepth 20000 in
theorem tX12_wholeProduct_j95 (a2 : Int32) (b0 : Int32) (w : xW) : xJ ιV mX12_wholeProduct lM (0, 0) 95 [(0, .ref 0), (2, .int a2)] [.int b0, .ref 0] w (sX12_wholeProduct_j95 a2 b0 w) := by
  unfold sX12_wholeProduct_j95
  refine xj_guard (fun hz => ?_)
  refine pfX12_320 dX12_wholeProduct_95 rfl hz ?_
  refine xj_aloadn 0 dX12_wholeProduct_98 rfl rfl ?_
  refine xj_iloadn 1 dX12_wholeProduct_99 rfl rfl ?_
  refine xj_iconst (v := 1) dX12_wholeProduct_100 ci_1 ?_
  refine xj_cVv (argv := [.int a2, .int (1 : Int32)]) (rest := []) dX12_wholeProduct_101 (kX12_byResult a2 (1 : Int32) (xwi w 0 36 b0)) mkX12_byResult tw2324 rfl rfl rfl rfl rfl rfl (fun _ w1 => ?_)
  refine xj_goto (tgt := 217) dX12_wholeProduct_104 rfl ?_
  refine xj_sub (lv2 := [(0, .ref 0)]) [0] rfl ?_
  exact tX12_wholeProduct_j217 _
set_option maxRecDepth 20000 in
def sX12_wholeProduct_j51 (b0 : Int32) (w : xW) : Option (Unit × xW) :=
  xbd (sX12_setRegister (0 : Int32) (2 : Int32) b0 w) (fun _ w1 => (if (w1.1 0 17) = (38 : Int32) then (if (b0 >>> ((8 : Int32) &&& 31)) = 0 then sX12_wholeProduct_j95 b0 (0 : Int32) w1 else sX12_wholeProduct_j95 b0 (1 : Int32) w1) else (if b0 = b0.toInt8.toInt32 then sX12_wholeProduct_j95 b0 (0 : Int32) w1 else sX12_wholeProduct_j95 b0 (1 : Int32) w1)))
set_option maxRecDepth 20000 in
theorem tX12_wholeProduct_j51 (b0 : Int32) (w : xW) : xJ ιV mX12_wholeProduct lM (0, 0) 51 [(0, .ref 0)] [.int b0] w (sX12_wholeProduct_j51 b0 w) := by
  unfold sX12_wholeProduct_j51
  refine xj_istoren (lv2 := [(2, .int b0), (0, .ref 0)]) dX12_wholeProduct_51 rfl (Nat.le_of_ble_eq_true rfl) rfl ?_
  refine xj_aloadn 1 dX12_wholeProduct_52 rfl rfl ?_
  refine xj_iconst (v := 0) dX12_wholeProduct_53 ci_0 ?_
  refine xj_iconst (v := 2) dX12_wholeProduct_54 ci_2 ?_
  refine xj_iloadn 0 dX12_wholeProduct_55 rfl rfl ?_
  refine xj_cVv (argv := [.int (0 : Int32), .int (2 : Int32), .int b0]) (rest := []) dX12_wholeProduct_56 (kX12_setRegister (0 : Int32) (2 : Int32) b0 w) mkX12_setRegister tw2336 rfl rfl rfl rfl rfl rfl (fun _ w1 => ?_)
  refine xj_aloadn 1 dX12_wholeProduct_59 rfl rfl ?_
  refine xj_aloadn 1 dX12_wholeProduct_60 rfl rfl ?_
  refine gfX12_70 (v := (w1.1 0 17)) dX12_wholeProduct_61 rfl rfl ?_
  refine xj_bipush (v := 38) dX12_wholeProduct_64 cb_38 ?_
  refine xj_ine (tgt := 84) dX12_wholeProduct_66 rfl ?_ ?_
  · refine xj_iloadn 0 dX12_wholeProduct_69 rfl rfl ?_
    refine xj_bipush (v := 8) dX12_wholeProduct_70 cb_8 ?_
    refine xj_ishr dX12_wholeProduct_72 ?_
    refine xj_ifeq (tgt := 80) dX12_wholeProduct_73 rfl ?_ ?_
    · refine xj_iconst (v := 0) dX12_wholeProduct_80 ci_0 ?_
      refine xj_goto (tgt := 95) dX12_wholeProduct_81 rfl ?_
      refine xj_sub (lv2 := [(0, .ref 0), (2, .int b0)]) [1, 0] rfl ?_
      exact tX12_wholeProduct_j95 _ _ _
    · refine xj_iconst (v := 1) dX12_wholeProduct_76 ci_1 ?_
      refine xj_goto (tgt := 95) dX12_wholeProduct_77 rfl ?_
      refine xj_sub (lv2 := [(0, .ref 0), (2, .int b0)]) [1, 0] rfl ?_
      exact tX12_wholeProduct_j95 _ _ _
  · refine xj_iloadn 0 dX12_wholeProduct_84 rfl rfl ?_
    refine xj_iloadn 0 dX12_wholeProduct_85 rfl rfl ?_
    refine xj_i2b dX12_wholeProduct_86 ?_
    refine xj_ieq (tgt := 94) dX12_wholeProduct_87 rfl ?_ ?_
    · refine xj_iconst (v := 0) dX12_wholeProduct_94 ci_0 ?_
      refine xj_sub (lv2 := [(0, .ref 0), (2, .int b0)]) [1, 0] rfl ?_
      exact tX12_wholeProduct_j95 _ _ _
    · refine xj_iconst (v := 1) dX12_wholeProduct_90 ci_1 ?_
      refine xj_goto (tgt := 95) dX12_wholeProduct_91 rfl ?_
      refine xj_sub (lv2 := [(0, .ref 0), (2, .int b0)]) [1, 0] rfl ?_
      exact tX12_wholeProduct_j95 _ _ _
set_option maxRecDepth 20000 in
def sX12_wholeProduct (w : xW) : Option (Unit × xW) :=
  xbd (sX12_getE w) (fun x1 w2 => (if (w2.1 0 20) = (1 : Int32) then (if (w2.1 0 17) = (38 : Int32) then (if xin (0 : Int32) 8 then sX12_wholeProduct_j51 (((w2.1 9 ((0 : Int32).toNatClampNeg)) &&& (255 : Int32)) * (x1 &&& (255 : Int32))) w2 else none) else (if xin (0 : Int32) 8 then sX12_wholeProduct_j51 ((w2.1 9 ((0 : Int32).toNatClampNeg)).toInt8.toInt32 * x1.toInt8.toInt32) w2 else none)) else (if (w2.1 0 17) = (38 : Int32) then (if xin (0 : Int32) 8 then sX12_wholeProduct_j147 (((w2.1 9 ((0 : Int32).toNatClampNeg)).toInt64 &&& (4294967295 : Int64)) * (x1.toInt64 &&& (4294967295 : Int64))) w2 else none) else (if xin (0 : Int32) 8 then sX12_wholeProduct_j147 ((w2.1 9 ((0 : Int32).toNatClampNeg)).toInt64 * x1.toInt64) w2 else none))))
set_option maxRecDepth 20000 in
theorem tX12_wholeProduct (w : xW) : xJ ιV mX12_wholeProduct lM (0, 0) 0 [(0, .ref 0)] [] w (sX12_wholeProduct w) := by
  unfold sX12_wholeProduct
  refine xj_aloadn 0 dX12_wholeProduct_0 rfl rfl ?_
  refine xj_cVi (argv := []) (rest := []) dX12_wholeProduct_1 (kX12_getE w) mkX12_getE tw2298 rfl rfl rfl rfl rfl rfl (fun x1 w2 => ?_)
  refine xj_istoren (lv2 := [(1, .int x1), (0, .ref 0)]) dX12_wholeProduct_4 rfl (Nat.le_of_ble_eq_true rfl) rfl ?_
  refine xj_aloadn 1 dX12_wholeProduct_5 rfl rfl ?_
  refine gfX12_76 (v := (w2.1 0 20)) dX12_wholeProduct_6 rfl rfl ?_
  refine xj_iconst (v := 1) dX12_wholeProduct_9 ci_1 ?_
  refine xj_ine (tgt := 107) dX12_wholeProduct_10 rfl ?_ ?_
  · refine xj_aloadn 1 dX12_wholeProduct_13 rfl rfl ?_
    refine gfX12_70 (v := (w2.1 0 17)) dX12_wholeProduct_14 rfl rfl ?_
    refine xj_bipush (v := 38) dX12_wholeProduct_17 cb_38 ?_
    refine xj_ine (tgt := 41) dX12_wholeProduct_19 rfl ?_ ?_
    · refine xj_aloadn 1 dX12_wholeProduct_22 rfl rfl ?_
      refine gfX12_44 dX12_wholeProduct_23 rfl ?_
      refine xj_iconst (v := 0) dX12_wholeProduct_26 ci_0 ?_
      refine xj_iald (k := 9) dX12_wholeProduct_27 rfl ?_
      refine xj_sipush (v := 255) dX12_wholeProduct_28 cs_255 ?_
      refine xj_iand dX12_wholeProduct_31 ?_
      refine xj_iloadn 0 dX12_wholeProduct_32 rfl rfl ?_
      refine xj_sipush (v := 255) dX12_wholeProduct_33 cs_255 ?_
      refine xj_iand dX12_wholeProduct_36 ?_
      refine xj_imul dX12_wholeProduct_37 ?_
      refine xj_goto (tgt := 51) dX12_wholeProduct_38 rfl ?_
      refine xj_sub (lv2 := [(0, .ref 0)]) [1] rfl ?_
      exact tX12_wholeProduct_j51 _ _
    · refine xj_aloadn 1 dX12_wholeProduct_41 rfl rfl ?_
      refine gfX12_44 dX12_wholeProduct_42 rfl ?_
      refine xj_iconst (v := 0) dX12_wholeProduct_45 ci_0 ?_
      refine xj_iald (k := 9) dX12_wholeProduct_46 rfl ?_
      refine xj_i2b dX12_wholeProduct_47 ?_
      refine xj_iloadn 0 dX12_wholeProduct_48 rfl rfl ?_
      refine xj_i2b dX12_wholeProduct_49 ?_
      refine xj_imul dX12_wholeProduct_50 ?_
      refine xj_sub (lv2 := [(0, .ref 0)]) [1] rfl ?_
      exact tX12_wholeProduct_j51 _ _
  · refine xj_aloadn 1 dX12_wholeProduct_107 rfl rfl ?_
    refine gfX12_70 (v := (w2.1 0 17)) dX12_wholeProduct_108 rfl rfl ?_
    refine xj_bipush (v := 38) dX12_wholeProduct_111 cb_38 ?_
    refine xj_ine (tgt := 137) dX12_wholeProduct_113 rfl ?_ ?_
    · refine xj_aloadn 1 dX12_wholeProduct_116 rfl rfl ?_
      refine gfX12_44 dX12_wholeProduct_117 rfl ?_
      refine xj_iconst (v := 0) dX12_wholeProduct_120 ci_0 ?_
      refine xj_iald (k := 9) dX12_wholeProduct_121 rfl ?_
      refine xj_i2l dX12_wholeProduct_122 ?_
      refine xj_ldc2 (v := 4294967295) tw2157 dX12_wholeProduct_123 ?_
      refine xj_land dX12_wholeProduct_126 ?_
      refine xj_iloadn 0 dX12_wholeProduct_127 rfl rfl ?_
      refine xj_i2l dX12_wholeProduct_128 ?_
      refine xj_ldc2 (v := 4294967295) tw2157 dX12_wholeProduct_129 ?_
      refine xj_land dX12_wholeProduct_132 ?_
      refine xj_lmul dX12_wholeProduct_133 ?_
      refine xj_goto (tgt := 147) dX12_wholeProduct_134 rfl ?_
      refine xj_sub (lv2 := [(0, .ref 0)]) [1] rfl ?_
      exact tX12_wholeProduct_j147 _ _
    · refine xj_aloadn 1 dX12_wholeProduct_137 rfl rfl ?_
      refine gfX12_44 dX12_wholeProduct_138 rfl ?_
      refine xj_iconst (v := 0) dX12_wholeProduct_141 ci_0 ?_
      refine xj_iald (k := 9) dX12_wholeProduct_142 rfl ?_
      refine xj_i2l dX12_wholeProduct_143 ?_
      refine xj_iloadn 0 dX12_wholeProduct_144 rfl rfl ?_
      refine xj_i2l dX12_wholeProduct_145 ?_
      refine xj_lmul dX12_wholeProduct_146 ?_
      refine xj_sub (lv2 := [(0, .ref 0)]) [1] rfl ?_
      exact tX12_wholeProduct_j147 _ _
theorem kX12_wholeProduct (w : xW) : xMet jV mX12_wholeProduct lM (0, 0) [.ref 0] w (sX12_wholeProduct w) := xj_met lM_ok (by decide) (Nat.le_of_ble_eq_true rfl) (Nat.zero_le _) (Nat.zero_le _) (tX12_wholeProduct w)
set_option maxRecDepth 20000 in
def sX12_traps (w : xW) : Option (Unit × xW) :=
  (if (w.1 0 45) = 0 then some ((), (xwi w 0 45 (4 : Int32))) else some ((), (xwi w 0 45 (w.1 0 45))))
set_option maxRecDepth 20000 in
theorem tX12_traps (w : xW) : xJ ιV mX12_traps lM (0, 0) 0 [(0, .ref 0)] [] w (sX12_traps w) := by
  unfold sX12_traps
  refine xj_aloadn 0 dX12_traps_0 rfl rfl ?_
  refine xj_aloadn 0 dX12_traps_1 rfl rfl ?_
  refine gfX12_272 (v := (w.1 0 45)) dX12_traps_2 rfl rfl ?_
  refine xj_ifne (tgt := 12) dX12_traps_5 rfl ?_ ?_
  · refine xj_iconst (v := 4) dX12_traps_8 ci_4 ?_
    refine xj_goto (tgt := 16) dX12_traps_9 rfl ?_
    refine pfX12_272 dX12_traps_16 rfl ?_
    exact xj_rv dX12_traps_19 rfl
  · refine xj_aloadn 0 dX12_traps_12 rfl rfl ?_
    refine gfX12_272 (v := (w.1 0 45)) dX12_traps_13 rfl rfl ?_
    refine pfX12_272 dX12_traps_16 rfl ?_
    exact xj_rv dX12_traps_19 rfl
theorem kX12_traps (w : xW) : xMet jV mX12_traps lM (0, 0) [.ref 0] w (sX12_traps w) := xj_met lM_ok (by decide) (Nat.le_of_ble_eq_true rfl) (Nat.zero_le _) (Nat.zero_le _) (tX12_traps w)
set_option maxRecDepth 20000 in
def sX12_quotient_j308 (a1 : Int32) (a2 : Int64) (b0 : Int64) (w : xW) : Option (Unit × xW) :=
  (if a1 = 0 then xbd (sX12_traps w) (fun _ w1 => some ((), w1)) else (if b0 = b0.toInt32.toInt64 then (if ¬ a1.toInt64 = 0 then (if xin (2 : Int32) 8 then (if xin (0 : Int32) 8 then some ((), (xwi (xwi w 9 ((2 : Int32).toNatClampNeg) ((a2 - a2 / a1.toInt64 * a1.toInt64).toInt32)) 9 ((0 : Int32).toNatClampNeg) b0.toInt32)) else none) else none) else none) else xbd (sX12_traps w) (fun _ w2 => some ((), w2))))
set_option maxRecDepth 20000 in
theorem tX12_quotient_j308 (a1 : Int32) (a2 : Int64) (b0 : Int64) (w : xW) : xJ ιV mX12_quotient lM (0, 0) 308 [(0, .ref 0), (1, .int a1), (2, .long a2)] [.long b0] w (sX12_quotient_j308 a1 a2 b0 w) := by
  unfold sX12_quotient_j308
  refine xj_lstore (lv2 := [(4, .long b0), (0, .ref 0), (1, .int a1), (2, .long a2)]) dX12_quotient_308 (Nat.le_of_ble_eq_true rfl) rfl ?_
  refine xj_iloadn 2 dX12_quotient_310 rfl rfl ?_
  refine xj_ifeq (tgt := 324) dX12_quotient_311 rfl ?_ ?_
  · refine xj_aloadn 1 dX12_quotient_324 rfl rfl ?_
    refine xj_cVv (argv := []) (rest := []) dX12_quotient_325 (kX12_traps w) mkX12_traps tw2388 rfl rfl rfl rfl rfl rfl (fun _ w1 => ?_)
    exact xj_rv dX12_quotient_328 rfl
  · refine xj_lload 0 dX12_quotient_314 rfl ?_
    refine xj_lload 0 dX12_quotient_316 rfl ?_
    refine xj_l2i dX12_quotient_318 ?_
    refine xj_i2l dX12_quotient_319 ?_
    refine xj_leq (tgt := 329) dX12_quotient_320 dX12_quotient_321 rfl ?_ ?_
    · refine xj_aloadn 1 dX12_quotient_329 rfl rfl ?_
      refine gfX12_44 dX12_quotient_330 rfl ?_
      refine xj_iconst (v := 2) dX12_quotient_333 ci_2 ?_
      refine xj_lloadn 3 dX12_quotient_334 rfl rfl ?_
      refine xj_iloadn 2 dX12_quotient_335 rfl rfl ?_
      refine xj_i2l dX12_quotient_336 ?_
      refine xj_lrem dX12_quotient_337 ?_
      refine xj_l2i dX12_quotient_338 ?_
      refine xj_iast (k := 9) dX12_quotient_339 rfl ?_
      refine xj_aloadn 1 dX12_quotient_340 rfl rfl ?_
      refine gfX12_44 dX12_quotient_341 rfl ?_
      refine xj_iconst (v := 0) dX12_quotient_344 ci_0 ?_
      refine xj_lload 0 dX12_quotient_345 rfl ?_
      refine xj_l2i dX12_quotient_347 ?_
      refine xj_iast (k := 9) dX12_quotient_348 rfl ?_
      exact xj_rv dX12_quotient_349 rfl
    · refine xj_aloadn 1 dX12_quotient_324 rfl rfl ?_
      refine xj_cVv (argv := []) (rest := []) dX12_quotient_325 (kX12_traps w) mkX12_traps tw2388 rfl rfl rfl rfl rfl rfl (fun _ w2 => ?_)
      exact xj_rv dX12_quotient_328 rfl
set_option maxRecDepth 20000 in
def sX12_quotient_l221 : Nat → Int64 → Int64 → Int32 → Int32 → xW → Option (Unit × xW)
  | 0, _, _, _, _, _ => none
  | n + 1, a4, a6, a8, a9, w =>
  (if a9 < 0 then (if xin (0 : Int32) 8 then (if xin (2 : Int32) 8 then some ((), (xwi (xwi w 9 ((0 : Int32).toNatClampNeg) a8) 9 ((2 : Int32).toNatClampNeg) a6.toInt32)) else none) else none) else (if xin (0 : Int32) 8 then xlet ((xlshl a6 (1 : Int32)) ||| ((xushr (w.1 9 ((0 : Int32).toNatClampNeg)) a9) &&& (1 : Int32)).toInt64) (fun x1 => (if x1 < a4 then (sX12_quotient_l221 n) a4 x1 (a8 <<< ((1 : Int32) &&& 31)) (a9 + (-1 : Int32)) w else xlet ((a8 <<< ((1 : Int32) &&& 31)) ||| (1 : Int32)) (fun x2 => (sX12_quotient_l221 n) a4 (x1 - a4) x2 (a9 + (-1 : Int32)) w))) else none))
set_option maxRecDepth 20000 in
theorem tX12_quotient_l221 : ∀ (n : Nat) (a4 : Int64) (a6 : Int64) (a8 : Int32) (a9 : Int32) (w : xW), xJ ιV mX12_quotient lM (0, 0) 221 [(0, .ref 0), (4, .long a4), (6, .long a6), (8, .int a8), (9, .int a9)] [] w (sX12_quotient_l221 n a4 a6 a8 a9 w) := by
  intro n
  induction n with
  | zero => intros; exact xj_none
  | succ n ih =>
    intro a4 a6 a8 a9 w
    rw [sX12_quotient_l221]
    refine xj_iload 4 dX12_quotient_221 rfl ?_
    refine xj_iflt (tgt := 278) dX12_quotient_223 rfl ?_ ?_
    · refine xj_aloadn 0 dX12_quotient_278 rfl rfl ?_
      refine gfX12_44 dX12_quotient_279 rfl ?_
      refine xj_iconst (v := 0) dX12_quotient_282 ci_0 ?_
      refine xj_iload 3 dX12_quotient_283 rfl ?_
      refine xj_iast (k := 9) dX12_quotient_285 rfl ?_
      refine xj_aloadn 0 dX12_quotient_286 rfl rfl ?_
      refine gfX12_44 dX12_quotient_287 rfl ?_
      refine xj_iconst (v := 2) dX12_quotient_290 ci_2 ?_
      refine xj_lload 2 dX12_quotient_291 rfl ?_
      refine xj_l2i dX12_quotient_293 ?_
      refine xj_iast (k := 9) dX12_quotient_294 rfl ?_
      exact xj_rv dX12_quotient_295 rfl
    · refine xj_lload 2 dX12_quotient_226 rfl ?_
      refine xj_iconst (v := 1) dX12_quotient_228 ci_1 ?_
      refine xj_lshl dX12_quotient_229 ?_
      refine xj_aloadn 0 dX12_quotient_230 rfl rfl ?_
      refine gfX12_44 dX12_quotient_231 rfl ?_
      refine xj_iconst (v := 0) dX12_quotient_234 ci_0 ?_
      refine xj_iald (k := 9) dX12_quotient_235 rfl ?_
      refine xj_iload 4 dX12_quotient_236 rfl ?_
      refine xj_iushr dX12_quotient_238 ?_
      refine xj_iconst (v := 1) dX12_quotient_239 ci_1 ?_
      refine xj_iand dX12_quotient_240 ?_
      refine xj_i2l dX12_quotient_241 ?_
      refine xj_lor dX12_quotient_242 ?_
      refine xj_letl (fun x1 => ?_)
      refine xj_lstore (lv2 := [(6, .long x1), (0, .ref 0), (4, .long a4), (8, .int a8), (9, .int a9)]) dX12_quotient_243 (Nat.le_of_ble_eq_true rfl) rfl ?_
      refine xj_iload 3 dX12_quotient_245 rfl ?_
      refine xj_iconst (v := 1) dX12_quotient_247 ci_1 ?_
      refine xj_ishl dX12_quotient_248 ?_
      refine xj_istore (lv2 := [(8, .int (a8 <<< ((1 : Int32) &&& 31))), (6, .long x1), (0, .ref 0), (4, .long a4), (9, .int a9)]) dX12_quotient_249 (Nat.le_of_ble_eq_true rfl) rfl ?_
      refine xj_lload 1 dX12_quotient_251 rfl ?_
      refine xj_lload 3 dX12_quotient_253 rfl ?_
      refine xj_llt (tgt := 272) dX12_quotient_255 dX12_quotient_256 rfl ?_ ?_
      · refine xj_iinc (n := 4) (lv2 := [(9, .int (a9 + (-1 : Int32))), (8, .int (a8 <<< ((1 : Int32) &&& 31))), (6, .long x1), (0, .ref 0), (4, .long a4)]) dX12_quotient_272 rfl ci_m1 (Nat.le_of_ble_eq_true rfl) rfl ?_
        refine xj_goto (tgt := 221) dX12_quotient_275 rfl ?_
        refine xj_sub (lv2 := [(0, .ref 0), (4, .long a4), (6, .long x1), (8, .int (a8 <<< ((1 : Int32) &&& 31))), (9, .int (a9 + (-1 : Int32)))]) [3, 4, 2, 1, 0] rfl ?_
        exact ih _ _ _ _ _
      · refine xj_lload 1 dX12_quotient_259 rfl ?_
        refine xj_lload 3 dX12_quotient_261 rfl ?_
        refine xj_lsub dX12_quotient_263 ?_
        refine xj_lstore (lv2 := [(6, .long (x1 - a4)), (8, .int (a8 <<< ((1 : Int32) &&& 31))), (0, .ref 0), (4, .long a4), (9, .int a9)]) dX12_quotient_264 (Nat.le_of_ble_eq_true rfl) rfl ?_
        refine xj_iload 1 dX12_quotient_266 rfl ?_
        refine xj_iconst (v := 1) dX12_quotient_268 ci_1 ?_
        refine xj_ior dX12_quotient_269 ?_
        refine xj_leti (fun x2 => ?_)
        refine xj_istore (lv2 := [(8, .int x2), (6, .long (x1 - a4)), (0, .ref 0), (4, .long a4), (9, .int a9)]) dX12_quotient_270 (Nat.le_of_ble_eq_true rfl) rfl ?_
        refine xj_iinc (n := 4) (lv2 := [(9, .int (a9 + (-1 : Int32))), (8, .int x2), (6, .long (x1 - a4)), (0, .ref 0), (4, .long a4)]) dX12_quotient_272 rfl ci_m1 (Nat.le_of_ble_eq_true rfl) rfl ?_
        refine xj_goto (tgt := 221) dX12_quotient_275 rfl ?_
        refine xj_sub (lv2 := [(0, .ref 0), (4, .long a4), (6, .long (x1 - a4)), (8, .int x2), (9, .int (a9 + (-1 : Int32)))]) [3, 4, 2, 1, 0] rfl ?_
        exact ih _ _ _ _ _
set_option maxRecDepth 20000 in
def sX12_quotient_j124 (a2 : Int32) (a3 : Int32) (a4 : Int32) (w : xW) : Option (Unit × xW) :=
  (if ¬ a3 = 0 then xbd (sX12_setRegister (0 : Int32) (2 : Int32) ((a4 &&& (255 : Int32)) ||| (((a2 - a2 / a3 * a3) &&& (255 : Int32)) <<< ((8 : Int32) &&& 31))) w) (fun _ w1 => some ((), w1)) else none)
set_option maxRecDepth 20000 in
theorem tX12_quotient_j124 (a2 : Int32) (a3 : Int32) (a4 : Int32) (w : xW) : xJ ιV mX12_quotient lM (0, 0) 124 [(0, .ref 0), (2, .int a2), (3, .int a3), (4, .int a4)] [] w (sX12_quotient_j124 a2 a3 a4 w) := by
  unfold sX12_quotient_j124
  refine xj_aloadn 0 dX12_quotient_124 rfl rfl ?_
  refine xj_iconst (v := 0) dX12_quotient_125 ci_0 ?_
  refine xj_iconst (v := 2) dX12_quotient_126 ci_2 ?_
  refine xj_iload 3 dX12_quotient_127 rfl ?_
  refine xj_sipush (v := 255) dX12_quotient_129 cs_255 ?_
  refine xj_iand dX12_quotient_132 ?_
  refine xj_iloadn 1 dX12_quotient_133 rfl rfl ?_
  refine xj_iloadn 2 dX12_quotient_134 rfl rfl ?_
  refine xj_irem dX12_quotient_135 ?_
  refine xj_sipush (v := 255) dX12_quotient_136 cs_255 ?_
  refine xj_iand dX12_quotient_139 ?_
  refine xj_bipush (v := 8) dX12_quotient_140 cb_8 ?_
  refine xj_ishl dX12_quotient_142 ?_
  refine xj_ior dX12_quotient_143 ?_
  refine xj_cVv (argv := [.int (0 : Int32), .int (2 : Int32), .int ((a4 &&& (255 : Int32)) ||| (((a2 - a2 / a3 * a3) &&& (255 : Int32)) <<< ((8 : Int32) &&& 31)))]) (rest := []) dX12_quotient_144 (kX12_setRegister (0 : Int32) (2 : Int32) ((a4 &&& (255 : Int32)) ||| (((a2 - a2 / a3 * a3) &&& (255 : Int32)) <<< ((8 : Int32) &&& 31))) w) mkX12_setRegister tw2336 rfl rfl rfl rfl rfl rfl (fun _ w1 => ?_)
  exact xj_rv dX12_quotient_147 rfl
set_option maxRecDepth 20000 in
def sX12_quotient_j83 (a2 : Int32) (a3 : Int32) (b0 : Int32) (w : xW) : Option (Unit × xW) :=
  (if (w.1 0 17) = (40 : Int32) then (if (255 : Int32) < b0 then xbd (sX12_traps w) (fun _ w3 => some ((), w3)) else sX12_quotient_j124 a2 a3 b0 w) else (if b0 < (-128 : Int32) then xbd (sX12_traps w) (fun _ w1 => some ((), w1)) else (if (127 : Int32) < b0 then xbd (sX12_traps w) (fun _ w2 => some ((), w2)) else sX12_quotient_j124 a2 a3 b0 w)))
set_option maxRecDepth 20000 in
theorem tX12_quotient_j83 (a2 : Int32) (a3 : Int32) (b0 : Int32) (w : xW) : xJ ιV mX12_quotient lM (0, 0) 83 [(0, .ref 0), (2, .int a2), (3, .int a3)] [.int b0] w (sX12_quotient_j83 a2 a3 b0 w) := by
  unfold sX12_quotient_j83
  refine xj_istore (lv2 := [(4, .int b0), (0, .ref 0), (2, .int a2), (3, .int a3)]) dX12_quotient_83 (Nat.le_of_ble_eq_true rfl) rfl ?_
  refine xj_aloadn 1 dX12_quotient_85 rfl rfl ?_
  refine gfX12_70 (v := (w.1 0 17)) dX12_quotient_86 rfl rfl ?_
  refine xj_bipush (v := 40) dX12_quotient_89 cb_40 ?_
  refine xj_ine (tgt := 105) dX12_quotient_91 rfl ?_ ?_
  · refine xj_iload 0 dX12_quotient_94 rfl ?_
    refine xj_sipush (v := 255) dX12_quotient_96 cs_255 ?_
    refine xj_ile (tgt := 124) dX12_quotient_99 rfl ?_ ?_
    · refine xj_goto (tgt := 119) dX12_quotient_102 rfl ?_
      refine xj_aloadn 1 dX12_quotient_119 rfl rfl ?_
      refine xj_cVv (argv := []) (rest := []) dX12_quotient_120 (kX12_traps w) mkX12_traps tw2388 rfl rfl rfl rfl rfl rfl (fun _ w3 => ?_)
      exact xj_rv dX12_quotient_123 rfl
    · refine xj_sub (lv2 := [(0, .ref 0), (2, .int a2), (3, .int a3), (4, .int b0)]) [1, 2, 3, 0] rfl ?_
      exact tX12_quotient_j124 _ _ _ _
  · refine xj_iload 0 dX12_quotient_105 rfl ?_
    refine xj_bipush (v := -128) dX12_quotient_107 cb_m128 ?_
    refine xj_ilt (tgt := 119) dX12_quotient_109 rfl ?_ ?_
    · refine xj_aloadn 1 dX12_quotient_119 rfl rfl ?_
      refine xj_cVv (argv := []) (rest := []) dX12_quotient_120 (kX12_traps w) mkX12_traps tw2388 rfl rfl rfl rfl rfl rfl (fun _ w1 => ?_)
      exact xj_rv dX12_quotient_123 rfl
    · refine xj_iload 0 dX12_quotient_112 rfl ?_
      refine xj_bipush (v := 127) dX12_quotient_114 cb_127 ?_
      refine xj_ile (tgt := 124) dX12_quotient_116 rfl ?_ ?_
      · refine xj_aloadn 1 dX12_quotient_119 rfl rfl ?_
        refine xj_cVv (argv := []) (rest := []) dX12_quotient_120 (kX12_traps w) mkX12_traps tw2388 rfl rfl rfl rfl rfl rfl (fun _ w2 => ?_)
        exact xj_rv dX12_quotient_123 rfl
      · refine xj_sub (lv2 := [(0, .ref 0), (2, .int a2), (3, .int a3), (4, .int b0)]) [1, 2, 3, 0] rfl ?_
        exact tX12_quotient_j124 _ _ _ _
set_option maxRecDepth 20000 in
def sX12_quotient_j69 (a2 : Int32) (b0 : Int32) (w : xW) : Option (Unit × xW) :=
  (if b0 = 0 then sX12_quotient_j83 a2 b0 (1000 : Int32) w else (if ¬ b0 = 0 then sX12_quotient_j83 a2 b0 (a2 / b0) w else none))
set_option maxRecDepth 20000 in
theorem tX12_quotient_j69 (a2 : Int32) (b0 : Int32) (w : xW) : xJ ιV mX12_quotient lM (0, 0) 69 [(0, .ref 0), (2, .int a2)] [.int b0] w (sX12_quotient_j69 a2 b0 w) := by
  unfold sX12_quotient_j69
  refine xj_istoren (lv2 := [(3, .int b0), (0, .ref 0), (2, .int a2)]) dX12_quotient_69 rfl (Nat.le_of_ble_eq_true rfl) rfl ?_
  refine xj_iloadn 0 dX12_quotient_70 rfl rfl ?_
  refine xj_ifne (tgt := 80) dX12_quotient_71 rfl ?_ ?_
  · refine xj_sipush (v := 1000) dX12_quotient_74 cs_1000 ?_
    refine xj_goto (tgt := 83) dX12_quotient_77 rfl ?_
    refine xj_sub (lv2 := [(0, .ref 0), (2, .int a2), (3, .int b0)]) [1, 2, 0] rfl ?_
    exact tX12_quotient_j83 _ _ _ _
  · refine xj_iloadn 2 dX12_quotient_80 rfl rfl ?_
    refine xj_iloadn 0 dX12_quotient_81 rfl rfl ?_
    refine xj_idiv dX12_quotient_82 ?_
    refine xj_sub (lv2 := [(0, .ref 0), (2, .int a2), (3, .int b0)]) [1, 2, 0] rfl ?_
    exact tX12_quotient_j83 _ _ _ _
set_option maxRecDepth 20000 in
def sX12_quotient_j49 (a1 : Int32) (b0 : Int32) (w : xW) : Option (Unit × xW) :=
  (if (w.1 0 17) = (40 : Int32) then sX12_quotient_j69 b0 (a1 &&& (255 : Int32)) w else sX12_quotient_j69 b0 a1.toInt8.toInt32 w)
set_option maxRecDepth 20000 in
theorem tX12_quotient_j49 (a1 : Int32) (b0 : Int32) (w : xW) : xJ ιV mX12_quotient lM (0, 0) 49 [(0, .ref 0), (1, .int a1)] [.int b0] w (sX12_quotient_j49 a1 b0 w) := by
  unfold sX12_quotient_j49
  refine xj_istoren (lv2 := [(2, .int b0), (0, .ref 0), (1, .int a1)]) dX12_quotient_49 rfl (Nat.le_of_ble_eq_true rfl) rfl ?_
  refine xj_aloadn 1 dX12_quotient_50 rfl rfl ?_
  refine gfX12_70 (v := (w.1 0 17)) dX12_quotient_51 rfl rfl ?_
  refine xj_bipush (v := 40) dX12_quotient_54 cb_40 ?_
  refine xj_ine (tgt := 67) dX12_quotient_56 rfl ?_ ?_
  · refine xj_iloadn 2 dX12_quotient_59 rfl rfl ?_
    refine xj_sipush (v := 255) dX12_quotient_60 cs_255 ?_
    refine xj_iand dX12_quotient_63 ?_
    refine xj_goto (tgt := 69) dX12_quotient_64 rfl ?_
    refine xj_sub (lv2 := [(0, .ref 0), (2, .int b0)]) [1, 0] rfl ?_
    exact tX12_quotient_j69 _ _ _
  · refine xj_iloadn 2 dX12_quotient_67 rfl rfl ?_
    refine xj_i2b dX12_quotient_68 ?_
    refine xj_sub (lv2 := [(0, .ref 0), (2, .int b0)]) [1, 0] rfl ?_
    exact tX12_quotient_j69 _ _ _
set_option maxRecDepth 20000 in
def sX12_quotient (w : xW) : Option (Unit × xW) :=
  xbd (sX12_getE w) (fun x1 w2 => (if (w2.1 0 45) = 0 then (if (w2.1 0 20) = (1 : Int32) then (if (w2.1 0 17) = (40 : Int32) then (if xin (0 : Int32) 8 then sX12_quotient_j49 x1 ((w2.1 9 ((0 : Int32).toNatClampNeg)) &&& (65535 : Int32)) w2 else none) else (if xin (0 : Int32) 8 then sX12_quotient_j49 x1 ((w2.1 9 ((0 : Int32).toNatClampNeg)).toInt16.toInt32) w2 else none)) else (if xin (2 : Int32) 8 then (if xin (0 : Int32) 8 then xlet ((xlshl ((w2.1 9 ((2 : Int32).toNatClampNeg)).toInt64) (32 : Int32)) ||| ((w2.1 9 ((0 : Int32).toNatClampNeg)).toInt64 &&& (4294967295 : Int64))) (fun x3 => (if (w2.1 0 17) = (40 : Int32) then xlet (x1.toInt64 &&& (4294967295 : Int64)) (fun x4 => (if xin (2 : Int32) 8 then xlet ((w2.1 9 ((2 : Int32).toNatClampNeg)).toInt64 &&& (4294967295 : Int64)) (fun x5 => (if x5 < x4 then sX12_quotient_l221 70000 x4 x5 (0 : Int32) (31 : Int32) w2 else xbd (sX12_traps w2) (fun _ w6 => some ((), w6)))) else none)) else (if x1 = 0 then sX12_quotient_j308 x1 x3 (0 : Int64) w2 else (if ¬ x1.toInt64 = 0 then sX12_quotient_j308 x1 x3 (x3 / x1.toInt64) w2 else none)))) else none) else none)) else some ((), w2)))
set_option maxRecDepth 20000 in
theorem tX12_quotient (w : xW) : xJ ιV mX12_quotient lM (0, 0) 0 [(0, .ref 0)] [] w (sX12_quotient w) := by
  unfold sX12_quotient
  refine xj_aloadn 0 dX12_quotient_0 rfl rfl ?_
  refine xj_cVi (argv := []) (rest := []) dX12_quotient_1 (kX12_getE w) mkX12_getE tw2298 rfl rfl rfl rfl rfl rfl (fun x1 w2 => ?_)
  refine xj_istoren (lv2 := [(1, .int x1), (0, .ref 0)]) dX12_quotient_4 rfl (Nat.le_of_ble_eq_true rfl) rfl ?_
  refine xj_aloadn 1 dX12_quotient_5 rfl rfl ?_
  refine gfX12_272 (v := (w2.1 0 45)) dX12_quotient_6 rfl rfl ?_
  refine xj_ifeq (tgt := 13) dX12_quotient_9 rfl ?_ ?_
  · refine xj_aloadn 1 dX12_quotient_13 rfl rfl ?_
    refine gfX12_76 (v := (w2.1 0 20)) dX12_quotient_14 rfl rfl ?_
    refine xj_iconst (v := 1) dX12_quotient_17 ci_1 ?_
    refine xj_ine (tgt := 148) dX12_quotient_18 rfl ?_ ?_
    · refine xj_aloadn 1 dX12_quotient_21 rfl rfl ?_
      refine gfX12_70 (v := (w2.1 0 17)) dX12_quotient_22 rfl rfl ?_
      refine xj_bipush (v := 40) dX12_quotient_25 cb_40 ?_
      refine xj_ine (tgt := 42) dX12_quotient_27 rfl ?_ ?_
      · refine xj_aloadn 1 dX12_quotient_30 rfl rfl ?_
        refine gfX12_44 dX12_quotient_31 rfl ?_
        refine xj_iconst (v := 0) dX12_quotient_34 ci_0 ?_
        refine xj_iald (k := 9) dX12_quotient_35 rfl ?_
        refine xj_ldc (v := 65535) tw2115 dX12_quotient_36 ?_
        refine xj_iand dX12_quotient_38 ?_
        refine xj_goto (tgt := 49) dX12_quotient_39 rfl ?_
        refine xj_sub (lv2 := [(0, .ref 0), (1, .int x1)]) [1, 0] rfl ?_
        exact tX12_quotient_j49 _ _ _
      · refine xj_aloadn 1 dX12_quotient_42 rfl rfl ?_
        refine gfX12_44 dX12_quotient_43 rfl ?_
        refine xj_iconst (v := 0) dX12_quotient_46 ci_0 ?_
        refine xj_iald (k := 9) dX12_quotient_47 rfl ?_
        refine xj_i2s dX12_quotient_48 ?_
        refine xj_sub (lv2 := [(0, .ref 0), (1, .int x1)]) [1, 0] rfl ?_
        exact tX12_quotient_j49 _ _ _
    · refine xj_aloadn 1 dX12_quotient_148 rfl rfl ?_
      refine gfX12_44 dX12_quotient_149 rfl ?_
      refine xj_iconst (v := 2) dX12_quotient_152 ci_2 ?_
      refine xj_iald (k := 9) dX12_quotient_153 rfl ?_
      refine xj_i2l dX12_quotient_154 ?_
      refine xj_bipush (v := 32) dX12_quotient_155 cb_32 ?_
      refine xj_lshl dX12_quotient_157 ?_
      refine xj_aloadn 1 dX12_quotient_158 rfl rfl ?_
      refine gfX12_44 dX12_quotient_159 rfl ?_
      refine xj_iconst (v := 0) dX12_quotient_162 ci_0 ?_
      refine xj_iald (k := 9) dX12_quotient_163 rfl ?_
      refine xj_i2l dX12_quotient_164 ?_
      refine xj_ldc2 (v := 4294967295) tw2157 dX12_quotient_165 ?_
      refine xj_land dX12_quotient_168 ?_
      refine xj_lor dX12_quotient_169 ?_
      refine xj_letl (fun x3 => ?_)
      refine xj_lstoren (lv2 := [(2, .long x3), (1, .int x1), (0, .ref 0)]) dX12_quotient_170 rfl (Nat.le_of_ble_eq_true rfl) rfl ?_
      refine xj_aloadn 2 dX12_quotient_171 rfl rfl ?_
      refine gfX12_70 (v := (w2.1 0 17)) dX12_quotient_172 rfl rfl ?_
      refine xj_bipush (v := 40) dX12_quotient_175 cb_40 ?_
      refine xj_ine (tgt := 296) dX12_quotient_177 rfl ?_ ?_
      · refine xj_iloadn 1 dX12_quotient_180 rfl rfl ?_
        refine xj_i2l dX12_quotient_181 ?_
        refine xj_ldc2 (v := 4294967295) tw2157 dX12_quotient_182 ?_
        refine xj_land dX12_quotient_185 ?_
        refine xj_letl (fun x4 => ?_)
        refine xj_lstore (lv2 := [(4, .long x4), (2, .long x3), (1, .int x1), (0, .ref 0)]) dX12_quotient_186 (Nat.le_of_ble_eq_true rfl) rfl ?_
        refine xj_aloadn 3 dX12_quotient_188 rfl rfl ?_
        refine gfX12_44 dX12_quotient_189 rfl ?_
        refine xj_iconst (v := 2) dX12_quotient_192 ci_2 ?_
        refine xj_iald (k := 9) dX12_quotient_193 rfl ?_
        refine xj_i2l dX12_quotient_194 ?_
        refine xj_ldc2 (v := 4294967295) tw2157 dX12_quotient_195 ?_
        refine xj_land dX12_quotient_198 ?_
        refine xj_letl (fun x5 => ?_)
        refine xj_lstore (lv2 := [(6, .long x5), (4, .long x4), (2, .long x3), (1, .int x1), (0, .ref 0)]) dX12_quotient_199 (Nat.le_of_ble_eq_true rfl) rfl ?_
        refine xj_lload 0 dX12_quotient_201 rfl ?_
        refine xj_lload 1 dX12_quotient_203 rfl ?_
        refine xj_llt (tgt := 214) dX12_quotient_205 dX12_quotient_206 rfl ?_ ?_
        · refine xj_iconst (v := 0) dX12_quotient_214 ci_0 ?_
          refine xj_istore (lv2 := [(8, .int (0 : Int32)), (6, .long x5), (4, .long x4), (2, .long x3), (1, .int x1), (0, .ref 0)]) dX12_quotient_215 (Nat.le_of_ble_eq_true rfl) rfl ?_
          refine xj_bipush (v := 31) dX12_quotient_217 cb_31 ?_
          refine xj_istore (lv2 := [(9, .int (31 : Int32)), (8, .int (0 : Int32)), (6, .long x5), (4, .long x4), (2, .long x3), (1, .int x1), (0, .ref 0)]) dX12_quotient_219 (Nat.le_of_ble_eq_true rfl) rfl ?_
          refine xj_sub (lv2 := [(0, .ref 0), (4, .long x4), (6, .long x5), (8, .int (0 : Int32)), (9, .int (31 : Int32))]) [6, 3, 2, 1, 0] rfl ?_
          exact tX12_quotient_l221 _ _ _ _ _ _
        · refine xj_aloadn 4 dX12_quotient_209 rfl rfl ?_
          refine xj_cVv (argv := []) (rest := []) dX12_quotient_210 (kX12_traps w2) mkX12_traps tw2388 rfl rfl rfl rfl rfl rfl (fun _ w6 => ?_)
          exact xj_rv dX12_quotient_213 rfl
      · refine xj_iloadn 1 dX12_quotient_296 rfl rfl ?_
        refine xj_ifne (tgt := 304) dX12_quotient_297 rfl ?_ ?_
        · refine xj_lconst (v := 0) dX12_quotient_300 cl_0 ?_
          refine xj_goto (tgt := 308) dX12_quotient_301 rfl ?_
          refine xj_sub (lv2 := [(0, .ref 0), (1, .int x1), (2, .long x3)]) [2, 1, 0] rfl ?_
          exact tX12_quotient_j308 _ _ _ _
        · refine xj_lloadn 0 dX12_quotient_304 rfl rfl ?_
          refine xj_iloadn 1 dX12_quotient_305 rfl rfl ?_
          refine xj_i2l dX12_quotient_306 ?_
          refine xj_ldiv dX12_quotient_307 ?_
          refine xj_sub (lv2 := [(0, .ref 0), (1, .int x1), (2, .long x3)]) [2, 1, 0] rfl ?_
          exact tX12_quotient_j308 _ _ _ _
  · exact xj_rv dX12_quotient_12 rfl
theorem kX12_quotient (w : xW) : xMet jV mX12_quotient lM (0, 0) [.ref 0] w (sX12_quotient w) := xj_met lM_ok (by decide) (Nat.le_of_ble_eq_true rfl) (Nat.zero_le _) (Nat.zero_le _) (tX12_quotient w)
set_option maxRecDepth 20000 in
def sX12_push (p1 : Int32) (w : xW) : Option (Unit × xW) :=
  (if xin (4 : Int32) 8 then (if xin (4 : Int32) 8 then (if xin (4 : Int32) 8 then xbd (sX12_write ((w.1 9 ((4 : Int32).toNatClampNeg)) - (4 : Int32)) p1 (4 : Int32) (xwi w 9 ((4 : Int32).toNatClampNeg) ((w.1 9 ((4 : Int32).toNatClampNeg)) - (4 : Int32)))) (fun _ w1 => some ((), w1)) else none) else none) else none)
set_option maxRecDepth 20000 in
theorem tX12_push (p1 : Int32) (w : xW) : xJ ιV mX12_push lM (0, 0) 0 [(0, .ref 0), (1, .int p1)] [] w (sX12_push p1 w) := by
  unfold sX12_push
  refine xj_aloadn 0 dX12_push_0 rfl rfl ?_
  refine gfX12_44 dX12_push_1 rfl ?_
  refine xj_iconst (v := 4) dX12_push_4 ci_4 ?_
  refine xj_dup2 dX12_push_5 rfl rfl ?_
  refine xj_iald (k := 9) dX12_push_6 rfl ?_
  refine xj_iconst (v := 4) dX12_push_7 ci_4 ?_
  refine xj_isub dX12_push_8 ?_
  refine xj_iast (k := 9) dX12_push_9 rfl ?_
  refine xj_aloadn 0 dX12_push_10 rfl rfl ?_
  refine xj_aloadn 0 dX12_push_11 rfl rfl ?_
  refine gfX12_44 dX12_push_12 rfl ?_
  refine xj_iconst (v := 4) dX12_push_15 ci_4 ?_
  refine xj_iald (k := 9) dX12_push_16 rfl ?_
  refine xj_iloadn 1 dX12_push_17 rfl rfl ?_
  refine xj_iconst (v := 4) dX12_push_18 ci_4 ?_
  refine xj_cVv (argv := [.int ((w.1 9 ((4 : Int32).toNatClampNeg)) - (4 : Int32)), .int p1, .int (4 : Int32)]) (rest := []) dX12_push_19 (kX12_write ((w.1 9 ((4 : Int32).toNatClampNeg)) - (4 : Int32)) p1 (4 : Int32) (xwi w 9 ((4 : Int32).toNatClampNeg) ((w.1 9 ((4 : Int32).toNatClampNeg)) - (4 : Int32)))) mkX12_write tw2346 rfl rfl rfl rfl rfl rfl (fun _ w1 => ?_)
  exact xj_rv dX12_push_22 rfl
theorem kX12_push (p1 : Int32) (w : xW) : xMet jV mX12_push lM (0, 0) [.ref 0, .int p1] w (sX12_push p1 w) := xj_met lM_ok (by decide) (Nat.le_of_ble_eq_true rfl) (Nat.zero_le _) (Nat.zero_le _) (tX12_push p1 w)
set_option maxRecDepth 20000 in
def sX12_pop (w : xW) : Option (Int32 × xW) :=
  (if xin (4 : Int32) 8 then xbd (sX12_read (w.1 9 ((4 : Int32).toNatClampNeg)) (4 : Int32) w) (fun x1 w2 => (if xin (4 : Int32) 8 then (if xin (4 : Int32) 8 then some (x1, (xwi w2 9 ((4 : Int32).toNatClampNeg) ((w2.1 9 ((4 : Int32).toNatClampNeg)) + (4 : Int32)))) else none) else none)) else none)
set_option maxRecDepth 20000 in
theorem tX12_pop (w : xW) : xJ ιI mX12_pop lM (0, 0) 0 [(0, .ref 0)] [] w (sX12_pop w) := by
  unfold sX12_pop
  refine xj_aloadn 0 dX12_pop_0 rfl rfl ?_
  refine xj_aloadn 0 dX12_pop_1 rfl rfl ?_
  refine gfX12_44 dX12_pop_2 rfl ?_
  refine xj_iconst (v := 4) dX12_pop_5 ci_4 ?_
  refine xj_iald (k := 9) dX12_pop_6 rfl ?_
  refine xj_iconst (v := 4) dX12_pop_7 ci_4 ?_
  refine xj_cVi (argv := [.int (w.1 9 ((4 : Int32).toNatClampNeg)), .int (4 : Int32)]) (rest := []) dX12_pop_8 (kX12_read (w.1 9 ((4 : Int32).toNatClampNeg)) (4 : Int32) w) mkX12_read tw2281 rfl rfl rfl rfl rfl rfl (fun x1 w2 => ?_)
  refine xj_istoren (lv2 := [(1, .int x1), (0, .ref 0)]) dX12_pop_11 rfl (Nat.le_of_ble_eq_true rfl) rfl ?_
  refine xj_aloadn 1 dX12_pop_12 rfl rfl ?_
  refine gfX12_44 dX12_pop_13 rfl ?_
  refine xj_iconst (v := 4) dX12_pop_16 ci_4 ?_
  refine xj_dup2 dX12_pop_17 rfl rfl ?_
  refine xj_iald (k := 9) dX12_pop_18 rfl ?_
  refine xj_iconst (v := 4) dX12_pop_19 ci_4 ?_
  refine xj_iadd dX12_pop_20 ?_
  refine xj_iast (k := 9) dX12_pop_21 rfl ?_
  refine xj_iloadn 0 dX12_pop_22 rfl rfl ?_
  exact xj_ri dX12_pop_23 rfl
theorem kX12_pop (w : xW) : xMet jI mX12_pop lM (0, 0) [.ref 0] w (sX12_pop w) := xj_met lM_ok (by decide) (Nat.le_of_ble_eq_true rfl) (Nat.zero_le _) (Nat.zero_le _) (tX12_pop w)
set_option maxRecDepth 20000 in
def sX12_doRest_j109 (a1 : Int32) (b0 : Int32) (w : xW) : Option (Int32 × xW) :=
  xbd (sX12_holds (w.1 0 19) (xwi w 0 46 b0)) (fun x1 w2 => (if x1 = 0 then xbd (sX12_setE (0 : Int32) w2) (fun _ w3 => some (a1, w3)) else xbd (sX12_setE (1 : Int32) w2) (fun _ w4 => some (a1, w4))))
set_option maxRecDepth 20000 in
theorem tX12_doRest_j109 (a1 : Int32) (b0 : Int32) (w : xW) : xJ ιI mX12_doRest lM (0, 0) 109 [(0, .ref 0), (1, .int a1)] [.int b0, .ref 0] w (sX12_doRest_j109 a1 b0 w) := by
  unfold sX12_doRest_j109
  refine pfX12_288 dX12_doRest_109 rfl ?_
  refine xj_aloadn 0 dX12_doRest_112 rfl rfl ?_
  refine xj_aloadn 0 dX12_doRest_113 rfl rfl ?_
  refine xj_aloadn 0 dX12_doRest_114 rfl rfl ?_
  refine gfX12_115 (v := (w.1 0 19)) dX12_doRest_115 rfl rfl ?_
  refine xj_cVi (argv := [.int (w.1 0 19)]) (rest := [.ref 0]) dX12_doRest_118 (kX12_holds (w.1 0 19) (xwi w 0 46 b0)) mkX12_holds tw2376 rfl rfl rfl rfl rfl rfl (fun x1 w2 => ?_)
  refine xj_ifeq (tgt := 128) dX12_doRest_121 rfl ?_ ?_
  · refine xj_iconst (v := 0) dX12_doRest_128 ci_0 ?_
    refine xj_cVv (argv := [.int (0 : Int32)]) (rest := []) dX12_doRest_129 (kX12_setE (0 : Int32) w2) mkX12_setE tw2342 rfl rfl rfl rfl rfl rfl (fun _ w3 => ?_)
    refine xj_iloadn 1 dX12_doRest_132 rfl rfl ?_
    exact xj_ri dX12_doRest_133 rfl
  · refine xj_iconst (v := 1) dX12_doRest_124 ci_1 ?_
    refine xj_goto (tgt := 129) dX12_doRest_125 rfl ?_
    refine xj_cVv (argv := [.int (1 : Int32)]) (rest := []) dX12_doRest_129 (kX12_setE (1 : Int32) w2) mkX12_setE tw2342 rfl rfl rfl rfl rfl rfl (fun _ w4 => ?_)
    refine xj_iloadn 1 dX12_doRest_132 rfl rfl ?_
    exact xj_ri dX12_doRest_133 rfl
set_option maxRecDepth 20000 in
def sX12_doRest_j188 (a1 : Int32) (w : xW) : Option (Int32 × xW) :=
  xbd (sX12_getE w) (fun x1 w2 => (if (w2.1 0 17) = (49 : Int32) then xbd (sX12_mask (w2.1 0 21) w2) (fun x3 w4 => (if xin (w2.1 0 23) 8 then some (a1, (xwi w4 9 ((w2.1 0 23).toNatClampNeg) (x1 &&& x3))) else none)) else (if (w2.1 0 21) = (1 : Int32) then (if xin (w2.1 0 23) 8 then some (a1, (xwi w2 9 ((w2.1 0 23).toNatClampNeg) x1.toInt8.toInt32)) else none) else (if xin (w2.1 0 23) 8 then some (a1, (xwi w2 9 ((w2.1 0 23).toNatClampNeg) x1.toInt16.toInt32)) else none))))
set_option maxRecDepth 20000 in
theorem tX12_doRest_j188 (a1 : Int32) (w : xW) : xJ ιI mX12_doRest lM (0, 0) 188 [(0, .ref 0), (1, .int a1)] [] w (sX12_doRest_j188 a1 w) := by
  unfold sX12_doRest_j188
  refine xj_aloadn 0 dX12_doRest_188 rfl rfl ?_
  refine xj_cVi (argv := []) (rest := []) dX12_doRest_189 (kX12_getE w) mkX12_getE tw2298 rfl rfl rfl rfl rfl rfl (fun x1 w2 => ?_)
  refine xj_istoren (lv2 := [(2, .int x1), (0, .ref 0), (1, .int a1)]) dX12_doRest_192 rfl (Nat.le_of_ble_eq_true rfl) rfl ?_
  refine xj_aloadn 1 dX12_doRest_193 rfl rfl ?_
  refine gfX12_44 dX12_doRest_194 rfl ?_
  refine xj_aloadn 1 dX12_doRest_197 rfl rfl ?_
  refine gfX12_85 (v := (w2.1 0 23)) dX12_doRest_198 rfl rfl ?_
  refine xj_aloadn 1 dX12_doRest_201 rfl rfl ?_
  refine gfX12_70 (v := (w2.1 0 17)) dX12_doRest_202 rfl rfl ?_
  refine xj_bipush (v := 49) dX12_doRest_205 cb_49 ?_
  refine xj_ine (tgt := 222) dX12_doRest_207 rfl ?_ ?_
  · refine xj_iloadn 0 dX12_doRest_210 rfl rfl ?_
    refine xj_aloadn 1 dX12_doRest_211 rfl rfl ?_
    refine gfX12_79 (v := (w2.1 0 21)) dX12_doRest_212 rfl rfl ?_
    refine xj_cSi (argv := [.int (w2.1 0 21)]) (rest := [.int x1, .int (w2.1 0 23), .ref 9]) dX12_doRest_215 (kX12_mask (w2.1 0 21) w2) mkX12_mask tw2318 rfl rfl rfl rfl (fun x3 w4 => ?_)
    refine xj_iand dX12_doRest_218 ?_
    refine xj_goto (tgt := 237) dX12_doRest_219 rfl ?_
    refine xj_iast (k := 9) dX12_doRest_237 rfl ?_
    refine xj_iloadn 2 dX12_doRest_238 rfl rfl ?_
    exact xj_ri dX12_doRest_239 rfl
  · refine xj_aloadn 1 dX12_doRest_222 rfl rfl ?_
    refine gfX12_79 (v := (w2.1 0 21)) dX12_doRest_223 rfl rfl ?_
    refine xj_iconst (v := 1) dX12_doRest_226 ci_1 ?_
    refine xj_ine (tgt := 235) dX12_doRest_227 rfl ?_ ?_
    · refine xj_iloadn 0 dX12_doRest_230 rfl rfl ?_
      refine xj_i2b dX12_doRest_231 ?_
      refine xj_goto (tgt := 237) dX12_doRest_232 rfl ?_
      refine xj_iast (k := 9) dX12_doRest_237 rfl ?_
      refine xj_iloadn 2 dX12_doRest_238 rfl rfl ?_
      exact xj_ri dX12_doRest_239 rfl
    · refine xj_iloadn 0 dX12_doRest_235 rfl rfl ?_
      refine xj_i2s dX12_doRest_236 ?_
      refine xj_iast (k := 9) dX12_doRest_237 rfl ?_
      refine xj_iloadn 2 dX12_doRest_238 rfl rfl ?_
      exact xj_ri dX12_doRest_239 rfl
set_option maxRecDepth 20000 in
def sX12_doRest_l279 : Nat → Int32 → Int32 → Int32 → xW → Option (Int32 × xW)
  | 0, _, _, _, _ => none
  | n + 1, a1, a2, a4, w =>
  (if ((xushr a2 a4) &&& (1 : Int32)) = 0 then (if (w.1 0 17) = (50 : Int32) then (sX12_doRest_l279 n) a1 a2 (a4 + (1 : Int32)) w else (sX12_doRest_l279 n) a1 a2 (a4 + (-1 : Int32)) w) else (if xin (w.1 0 23) 8 then some (a1, (xwi w 9 ((w.1 0 23).toNatClampNeg) a4)) else none))
set_option maxRecDepth 20000 in
theorem tX12_doRest_l279 : ∀ (n : Nat) (a1 : Int32) (a2 : Int32) (a4 : Int32) (w : xW), xJ ιI mX12_doRest lM (0, 0) 279 [(0, .ref 0), (1, .int a1), (2, .int a2), (4, .int a4)] [] w (sX12_doRest_l279 n a1 a2 a4 w) := by
  intro n
  induction n with
  | zero => intros; exact xj_none
  | succ n ih =>
    intro a1 a2 a4 w
    rw [sX12_doRest_l279]
    refine xj_iloadn 2 dX12_doRest_279 rfl rfl ?_
    refine xj_iload 3 dX12_doRest_280 rfl ?_
    refine xj_iushr dX12_doRest_282 ?_
    refine xj_iconst (v := 1) dX12_doRest_283 ci_1 ?_
    refine xj_iand dX12_doRest_284 ?_
    refine xj_ifne (tgt := 310) dX12_doRest_285 rfl ?_ ?_
    · refine xj_iload 3 dX12_doRest_288 rfl ?_
      refine xj_aloadn 0 dX12_doRest_290 rfl rfl ?_
      refine gfX12_70 (v := (w.1 0 17)) dX12_doRest_291 rfl rfl ?_
      refine xj_bipush (v := 50) dX12_doRest_294 cb_50 ?_
      refine xj_ine (tgt := 303) dX12_doRest_296 rfl ?_ ?_
      · refine xj_iconst (v := 1) dX12_doRest_299 ci_1 ?_
        refine xj_goto (tgt := 304) dX12_doRest_300 rfl ?_
        refine xj_iadd dX12_doRest_304 ?_
        refine xj_istore (lv2 := [(4, .int (a4 + (1 : Int32))), (0, .ref 0), (1, .int a1), (2, .int a2)]) dX12_doRest_305 (Nat.le_of_ble_eq_true rfl) rfl ?_
        refine xj_goto (tgt := 279) dX12_doRest_307 rfl ?_
        refine xj_sub (lv2 := [(0, .ref 0), (1, .int a1), (2, .int a2), (4, .int (a4 + (1 : Int32)))]) [1, 2, 3, 0] rfl ?_
        exact ih _ _ _ _
      · refine xj_iconst (v := -1) dX12_doRest_303 ci_m1 ?_
        refine xj_iadd dX12_doRest_304 ?_
        refine xj_istore (lv2 := [(4, .int (a4 + (-1 : Int32))), (0, .ref 0), (1, .int a1), (2, .int a2)]) dX12_doRest_305 (Nat.le_of_ble_eq_true rfl) rfl ?_
        refine xj_goto (tgt := 279) dX12_doRest_307 rfl ?_
        refine xj_sub (lv2 := [(0, .ref 0), (1, .int a1), (2, .int a2), (4, .int (a4 + (-1 : Int32)))]) [1, 2, 3, 0] rfl ?_
        exact ih _ _ _ _
    · refine xj_aloadn 0 dX12_doRest_310 rfl rfl ?_
      refine gfX12_44 dX12_doRest_311 rfl ?_
      refine xj_aloadn 0 dX12_doRest_314 rfl rfl ?_
      refine gfX12_85 (v := (w.1 0 23)) dX12_doRest_315 rfl rfl ?_
      refine xj_iload 3 dX12_doRest_318 rfl ?_
      refine xj_iast (k := 9) dX12_doRest_320 rfl ?_
      refine xj_iloadn 1 dX12_doRest_321 rfl rfl ?_
      exact xj_ri dX12_doRest_322 rfl
set_option maxRecDepth 20000 in
def sX12_doRest_j255 (a1 : Int32) (a2 : Int32) (b0 : Int32) (w : xW) : Option (Int32 × xW) :=
  (if xz b0 then (if a2 = 0 then some (a1, (xwi w 0 38 b0)) else (if (w.1 0 17) = (50 : Int32) then sX12_doRest_l279 70000 a1 a2 (0 : Int32) (xwi w 0 38 b0) else sX12_doRest_l279 70000 a1 a2 (31 : Int32) (xwi w 0 38 b0))) else none)
set_option maxRecDepth 20000 in
theorem tX12_doRest_j255 (a1 : Int32) (a2 : Int32) (b0 : Int32) (w : xW) : xJ ιI mX12_doRest lM (0, 0) 255 [(0, .ref 0), (1, .int a1), (2, .int a2)] [.int b0, .ref 0] w (sX12_doRest_j255 a1 a2 b0 w) := by
  unfold sX12_doRest_j255
  refine xj_guard (fun hz => ?_)
  refine pfX12_307 dX12_doRest_255 rfl hz ?_
  refine xj_iloadn 2 dX12_doRest_258 rfl rfl ?_
  refine xj_ifeq (tgt := 321) dX12_doRest_259 rfl ?_ ?_
  · refine xj_iloadn 1 dX12_doRest_321 rfl rfl ?_
    exact xj_ri dX12_doRest_322 rfl
  · refine xj_aloadn 0 dX12_doRest_262 rfl rfl ?_
    refine gfX12_70 (v := (w.1 0 17)) dX12_doRest_263 rfl rfl ?_
    refine xj_bipush (v := 50) dX12_doRest_266 cb_50 ?_
    refine xj_ine (tgt := 275) dX12_doRest_268 rfl ?_ ?_
    · refine xj_iconst (v := 0) dX12_doRest_271 ci_0 ?_
      refine xj_goto (tgt := 277) dX12_doRest_272 rfl ?_
      refine xj_istore (lv2 := [(4, .int (0 : Int32)), (0, .ref 0), (1, .int a1), (2, .int a2)]) dX12_doRest_277 (Nat.le_of_ble_eq_true rfl) rfl ?_
      refine xj_sub (lv2 := [(0, .ref 0), (1, .int a1), (2, .int a2), (4, .int (0 : Int32))]) [1, 2, 3, 0] rfl ?_
      exact tX12_doRest_l279 _ _ _ _ _
    · refine xj_bipush (v := 31) dX12_doRest_275 cb_31 ?_
      refine xj_istore (lv2 := [(4, .int (31 : Int32)), (0, .ref 0), (1, .int a1), (2, .int a2)]) dX12_doRest_277 (Nat.le_of_ble_eq_true rfl) rfl ?_
      refine xj_sub (lv2 := [(0, .ref 0), (1, .int a1), (2, .int a2), (4, .int (31 : Int32))]) [1, 2, 3, 0] rfl ?_
      exact tX12_doRest_l279 _ _ _ _ _
set_option maxRecDepth 20000 in
def sX12_doRest_j240 (a1 : Int32) (w : xW) : Option (Int32 × xW) :=
  xbd (sX12_getE w) (fun x1 w2 => (if x1 = 0 then sX12_doRest_j255 a1 x1 (1 : Int32) w2 else sX12_doRest_j255 a1 x1 (0 : Int32) w2))
set_option maxRecDepth 20000 in
theorem tX12_doRest_j240 (a1 : Int32) (w : xW) : xJ ιI mX12_doRest lM (0, 0) 240 [(0, .ref 0), (1, .int a1)] [] w (sX12_doRest_j240 a1 w) := by
  unfold sX12_doRest_j240
  refine xj_aloadn 0 dX12_doRest_240 rfl rfl ?_
  refine xj_cVi (argv := []) (rest := []) dX12_doRest_241 (kX12_getE w) mkX12_getE tw2298 rfl rfl rfl rfl rfl rfl (fun x1 w2 => ?_)
  refine xj_istoren (lv2 := [(2, .int x1), (0, .ref 0), (1, .int a1)]) dX12_doRest_244 rfl (Nat.le_of_ble_eq_true rfl) rfl ?_
  refine xj_aloadn 1 dX12_doRest_245 rfl rfl ?_
  refine xj_iloadn 0 dX12_doRest_246 rfl rfl ?_
  refine xj_ifne (tgt := 254) dX12_doRest_247 rfl ?_ ?_
  · refine xj_iconst (v := 1) dX12_doRest_250 ci_1 ?_
    refine xj_goto (tgt := 255) dX12_doRest_251 rfl ?_
    refine xj_sub (lv2 := [(0, .ref 0), (1, .int a1), (2, .int x1)]) [1, 2, 0] rfl ?_
    exact tX12_doRest_j255 _ _ _ _
  · refine xj_iconst (v := 0) dX12_doRest_254 ci_0 ?_
    refine xj_sub (lv2 := [(0, .ref 0), (1, .int a1), (2, .int x1)]) [1, 2, 0] rfl ?_
    exact tX12_doRest_j255 _ _ _ _
set_option maxRecDepth 20000 in
def sX12_doRest (p1 : Int32) (w : xW) : Option (Int32 × xW) :=
  xsw (w.1 0 17) (44) [xbd (sX12_getE w) (fun x1 w2 => xbd (sX12_holds (w2.1 0 19) w2) (fun x3 w4 => (if x3 = 0 then some (p1, w4) else (if xin (w4.1 0 23) 8 then some (p1, (xwi w4 9 ((w4.1 0 23).toNatClampNeg) x1)) else none)))), (if (w.1 0 22) = (3 : Int32) then sX12_doRest_j109 p1 (0 : Int32) w else xbd (sX12_address w) (fun x5 w6 => sX12_doRest_j109 p1 x5 w6)), xbd (sX12_doubles w) (fun _ w7 => some (p1, w7)), xbd (sX12_doubles w) (fun _ w8 => some (p1, w8)), xbd (sX12_getE w) (fun x9 w10 => (if xin (0 : Int32) 8 then xbd (sX12_difference (w10.1 9 ((0 : Int32).toNatClampNeg)) x9 (0 : Int32) (4 : Int32) w10) (fun x11 w12 => (if x11 = 0 then (if xin (w12.1 0 23) 8 then xbd (sX12_setE (w12.1 9 ((w12.1 0 23).toNatClampNeg)) w12) (fun _ w13 => some (p1, w13)) else none) else (if xin (0 : Int32) 8 then some (p1, (xwi w12 9 ((0 : Int32).toNatClampNeg) x9)) else none))) else none)), sX12_doRest_j188 p1 w, sX12_doRest_j240 p1 w, sX12_doRest_j240 p1 w, sX12_doRest_j188 p1 w, xbd (sX12_getE w) (fun x14 w15 => (if xin (w15.1 0 23) 8 then xlet (w15.1 9 ((w15.1 0 23).toNatClampNeg)) (fun x16 => xbd (sX12_sum x14 x16 (0 : Int32) (4 : Int32) w15) (fun x17 w18 => (if xin (w18.1 0 23) 8 then xbd (sX12_setE x17 (xwi w18 9 ((w18.1 0 23).toNatClampNeg) x14)) (fun _ w19 => some (p1, w19)) else none))) else none)), (if xin (w.1 0 24) 8 then xlet (w.1 9 ((w.1 0 24).toNatClampNeg)) (fun x20 => (if xin (w.1 0 24) 8 then some (p1, (xwi w 9 ((w.1 0 24).toNatClampNeg) ((((xushr x20 (24 : Int32)) ||| ((x20 >>> ((8 : Int32) &&& 31)) &&& (65280 : Int32))) ||| ((x20 &&& (65280 : Int32)) <<< ((8 : Int32) &&& 31))) ||| (x20 <<< ((24 : Int32) &&& 31))))) else none)) else none)] (some (p1, w))
set_option maxRecDepth 20000 in
theorem tX12_doRest (p1 : Int32) (w : xW) : xJ ιI mX12_doRest lM (0, 0) 0 [(0, .ref 0), (1, .int p1)] [] w (sX12_doRest p1 w) := by
  unfold sX12_doRest
  refine xj_aloadn 0 dX12_doRest_0 rfl rfl ?_
  refine gfX12_70 (v := (w.1 0 17)) dX12_doRest_1 rfl rfl ?_
  refine xj_tsw (tgtd := 416) [64, 92, 134, 134, 140, 188, 240, 240, 188, 323, 368] dX12_doRest_4 rfl rfl rfl rfl ?_ ⟨?_, ?_, ?_, ?_, ?_, ?_, ?_, ?_, ?_, ?_, ?_, trivial⟩
  · refine xj_iloadn 1 dX12_doRest_416 rfl rfl ?_
    exact xj_ri dX12_doRest_417 rfl
  · refine xj_aloadn 0 dX12_doRest_64 rfl rfl ?_
    refine xj_cVi (argv := []) (rest := []) dX12_doRest_65 (kX12_getE w) mkX12_getE tw2298 rfl rfl rfl rfl rfl rfl (fun x1 w2 => ?_)
    refine xj_istoren (lv2 := [(2, .int x1), (0, .ref 0), (1, .int p1)]) dX12_doRest_68 rfl (Nat.le_of_ble_eq_true rfl) rfl ?_
    refine xj_aloadn 1 dX12_doRest_69 rfl rfl ?_
    refine xj_aloadn 1 dX12_doRest_70 rfl rfl ?_
    refine gfX12_115 (v := (w2.1 0 19)) dX12_doRest_71 rfl rfl ?_
    refine xj_cVi (argv := [.int (w2.1 0 19)]) (rest := []) dX12_doRest_74 (kX12_holds (w2.1 0 19) w2) mkX12_holds tw2376 rfl rfl rfl rfl rfl rfl (fun x3 w4 => ?_)
    refine xj_ifeq (tgt := 90) dX12_doRest_77 rfl ?_ ?_
    · refine xj_iloadn 2 dX12_doRest_90 rfl rfl ?_
      exact xj_ri dX12_doRest_91 rfl
    · refine xj_aloadn 1 dX12_doRest_80 rfl rfl ?_
      refine gfX12_44 dX12_doRest_81 rfl ?_
      refine xj_aloadn 1 dX12_doRest_84 rfl rfl ?_
      refine gfX12_85 (v := (w4.1 0 23)) dX12_doRest_85 rfl rfl ?_
      refine xj_iloadn 0 dX12_doRest_88 rfl rfl ?_
      refine xj_iast (k := 9) dX12_doRest_89 rfl ?_
      refine xj_iloadn 2 dX12_doRest_90 rfl rfl ?_
      exact xj_ri dX12_doRest_91 rfl
  · refine xj_aloadn 0 dX12_doRest_92 rfl rfl ?_
    refine xj_aloadn 0 dX12_doRest_93 rfl rfl ?_
    refine gfX12_82 (v := (w.1 0 22)) dX12_doRest_94 rfl rfl ?_
    refine xj_iconst (v := 3) dX12_doRest_97 ci_3 ?_
    refine xj_ine (tgt := 105) dX12_doRest_98 rfl ?_ ?_
    · refine xj_iconst (v := 0) dX12_doRest_101 ci_0 ?_
      refine xj_goto (tgt := 109) dX12_doRest_102 rfl ?_
      exact tX12_doRest_j109 _ _ _
    · refine xj_aloadn 0 dX12_doRest_105 rfl rfl ?_
      refine xj_cVi (argv := []) (rest := [.ref 0]) dX12_doRest_106 (kX12_address w) mkX12_address tw2302 rfl rfl rfl rfl rfl rfl (fun x5 w6 => ?_)
      exact tX12_doRest_j109 _ _ _
  · refine xj_aloadn 0 dX12_doRest_134 rfl rfl ?_
    refine xj_cVv (argv := []) (rest := []) dX12_doRest_135 (kX12_doubles w) mkX12_doubles tw2396 rfl rfl rfl rfl rfl rfl (fun _ w7 => ?_)
    refine xj_iloadn 1 dX12_doRest_138 rfl rfl ?_
    exact xj_ri dX12_doRest_139 rfl
  · refine xj_aloadn 0 dX12_doRest_134 rfl rfl ?_
    refine xj_cVv (argv := []) (rest := []) dX12_doRest_135 (kX12_doubles w) mkX12_doubles tw2396 rfl rfl rfl rfl rfl rfl (fun _ w8 => ?_)
    refine xj_iloadn 1 dX12_doRest_138 rfl rfl ?_
    exact xj_ri dX12_doRest_139 rfl
  · refine xj_aloadn 0 dX12_doRest_140 rfl rfl ?_
    refine xj_cVi (argv := []) (rest := []) dX12_doRest_141 (kX12_getE w) mkX12_getE tw2298 rfl rfl rfl rfl rfl rfl (fun x9 w10 => ?_)
    refine xj_istoren (lv2 := [(2, .int x9), (0, .ref 0), (1, .int p1)]) dX12_doRest_144 rfl (Nat.le_of_ble_eq_true rfl) rfl ?_
    refine xj_aloadn 1 dX12_doRest_145 rfl rfl ?_
    refine xj_aloadn 1 dX12_doRest_146 rfl rfl ?_
    refine gfX12_44 dX12_doRest_147 rfl ?_
    refine xj_iconst (v := 0) dX12_doRest_150 ci_0 ?_
    refine xj_iald (k := 9) dX12_doRest_151 rfl ?_
    refine xj_iloadn 0 dX12_doRest_152 rfl rfl ?_
    refine xj_iconst (v := 0) dX12_doRest_153 ci_0 ?_
    refine xj_iconst (v := 4) dX12_doRest_154 ci_4 ?_
    refine xj_cVi (argv := [.int (w10.1 9 ((0 : Int32).toNatClampNeg)), .int x9, .int (0 : Int32), .int (4 : Int32)]) (rest := []) dX12_doRest_155 (kX12_difference (w10.1 9 ((0 : Int32).toNatClampNeg)) x9 (0 : Int32) (4 : Int32) w10) mkX12_difference tw2328 rfl rfl rfl rfl rfl rfl (fun x11 w12 => ?_)
    refine xj_istoren (lv2 := [(3, .int x11), (2, .int x9), (0, .ref 0), (1, .int p1)]) dX12_doRest_158 rfl (Nat.le_of_ble_eq_true rfl) rfl ?_
    refine xj_iloadn 0 dX12_doRest_159 rfl rfl ?_
    refine xj_ifne (tgt := 179) dX12_doRest_160 rfl ?_ ?_
    · refine xj_aloadn 2 dX12_doRest_163 rfl rfl ?_
      refine xj_aloadn 2 dX12_doRest_164 rfl rfl ?_
      refine gfX12_44 dX12_doRest_165 rfl ?_
      refine xj_aloadn 2 dX12_doRest_168 rfl rfl ?_
      refine gfX12_85 (v := (w12.1 0 23)) dX12_doRest_169 rfl rfl ?_
      refine xj_iald (k := 9) dX12_doRest_172 rfl ?_
      refine xj_cVv (argv := [.int (w12.1 9 ((w12.1 0 23).toNatClampNeg))]) (rest := []) dX12_doRest_173 (kX12_setE (w12.1 9 ((w12.1 0 23).toNatClampNeg)) w12) mkX12_setE tw2342 rfl rfl rfl rfl rfl rfl (fun _ w13 => ?_)
      refine xj_goto (tgt := 186) dX12_doRest_176 rfl ?_
      refine xj_iloadn 3 dX12_doRest_186 rfl rfl ?_
      exact xj_ri dX12_doRest_187 rfl
    · refine xj_aloadn 2 dX12_doRest_179 rfl rfl ?_
      refine gfX12_44 dX12_doRest_180 rfl ?_
      refine xj_iconst (v := 0) dX12_doRest_183 ci_0 ?_
      refine xj_iloadn 1 dX12_doRest_184 rfl rfl ?_
      refine xj_iast (k := 9) dX12_doRest_185 rfl ?_
      refine xj_iloadn 3 dX12_doRest_186 rfl rfl ?_
      exact xj_ri dX12_doRest_187 rfl
  · exact tX12_doRest_j188 _ _
  · exact tX12_doRest_j240 _ _
  · exact tX12_doRest_j240 _ _
  · exact tX12_doRest_j188 _ _
  · refine xj_aloadn 0 dX12_doRest_323 rfl rfl ?_
    refine xj_cVi (argv := []) (rest := []) dX12_doRest_324 (kX12_getE w) mkX12_getE tw2298 rfl rfl rfl rfl rfl rfl (fun x14 w15 => ?_)
    refine xj_istoren (lv2 := [(2, .int x14), (0, .ref 0), (1, .int p1)]) dX12_doRest_327 rfl (Nat.le_of_ble_eq_true rfl) rfl ?_
    refine xj_aloadn 1 dX12_doRest_328 rfl rfl ?_
    refine gfX12_44 dX12_doRest_329 rfl ?_
    refine xj_aloadn 1 dX12_doRest_332 rfl rfl ?_
    refine gfX12_85 (v := (w15.1 0 23)) dX12_doRest_333 rfl rfl ?_
    refine xj_iald (k := 9) dX12_doRest_336 rfl ?_
    refine xj_leti (fun x16 => ?_)
    refine xj_istore (lv2 := [(4, .int x16), (2, .int x14), (0, .ref 0), (1, .int p1)]) dX12_doRest_337 (Nat.le_of_ble_eq_true rfl) rfl ?_
    refine xj_aloadn 2 dX12_doRest_339 rfl rfl ?_
    refine xj_iloadn 1 dX12_doRest_340 rfl rfl ?_
    refine xj_iload 0 dX12_doRest_341 rfl ?_
    refine xj_iconst (v := 0) dX12_doRest_343 ci_0 ?_
    refine xj_iconst (v := 4) dX12_doRest_344 ci_4 ?_
    refine xj_cVi (argv := [.int x14, .int x16, .int (0 : Int32), .int (4 : Int32)]) (rest := []) dX12_doRest_345 (kX12_sum x14 x16 (0 : Int32) (4 : Int32) w15) mkX12_sum tw2314 rfl rfl rfl rfl rfl rfl (fun x17 w18 => ?_)
    refine xj_istore (lv2 := [(5, .int x17), (4, .int x16), (2, .int x14), (0, .ref 0), (1, .int p1)]) dX12_doRest_348 (Nat.le_of_ble_eq_true rfl) rfl ?_
    refine xj_aloadn 3 dX12_doRest_350 rfl rfl ?_
    refine gfX12_44 dX12_doRest_351 rfl ?_
    refine xj_aloadn 3 dX12_doRest_354 rfl rfl ?_
    refine gfX12_85 (v := (w18.1 0 23)) dX12_doRest_355 rfl rfl ?_
    refine xj_iloadn 2 dX12_doRest_358 rfl rfl ?_
    refine xj_iast (k := 9) dX12_doRest_359 rfl ?_
    refine xj_aloadn 3 dX12_doRest_360 rfl rfl ?_
    refine xj_iload 0 dX12_doRest_361 rfl ?_
    refine xj_cVv (argv := [.int x17]) (rest := []) dX12_doRest_363 (kX12_setE x17 (xwi w18 9 ((w18.1 0 23).toNatClampNeg) x14)) mkX12_setE tw2342 rfl rfl rfl rfl rfl rfl (fun _ w19 => ?_)
    refine xj_iloadn 4 dX12_doRest_366 rfl rfl ?_
    exact xj_ri dX12_doRest_367 rfl
  · refine xj_aloadn 0 dX12_doRest_368 rfl rfl ?_
    refine gfX12_44 dX12_doRest_369 rfl ?_
    refine xj_aloadn 0 dX12_doRest_372 rfl rfl ?_
    refine gfX12_88 (v := (w.1 0 24)) dX12_doRest_373 rfl rfl ?_
    refine xj_iald (k := 9) dX12_doRest_376 rfl ?_
    refine xj_leti (fun x20 => ?_)
    refine xj_istoren (lv2 := [(2, .int x20), (0, .ref 0), (1, .int p1)]) dX12_doRest_377 rfl (Nat.le_of_ble_eq_true rfl) rfl ?_
    refine xj_aloadn 1 dX12_doRest_378 rfl rfl ?_
    refine gfX12_44 dX12_doRest_379 rfl ?_
    refine xj_aloadn 1 dX12_doRest_382 rfl rfl ?_
    refine gfX12_88 (v := (w.1 0 24)) dX12_doRest_383 rfl rfl ?_
    refine xj_iloadn 0 dX12_doRest_386 rfl rfl ?_
    refine xj_bipush (v := 24) dX12_doRest_387 cb_24 ?_
    refine xj_iushr dX12_doRest_389 ?_
    refine xj_iloadn 0 dX12_doRest_390 rfl rfl ?_
    refine xj_bipush (v := 8) dX12_doRest_391 cb_8 ?_
    refine xj_ishr dX12_doRest_393 ?_
    refine xj_ldcw (v := 65280) tw2400 dX12_doRest_394 ?_
    refine xj_iand dX12_doRest_397 ?_
    refine xj_ior dX12_doRest_398 ?_
    refine xj_iloadn 0 dX12_doRest_399 rfl rfl ?_
    refine xj_ldcw (v := 65280) tw2400 dX12_doRest_400 ?_
    refine xj_iand dX12_doRest_403 ?_
    refine xj_bipush (v := 8) dX12_doRest_404 cb_8 ?_
    refine xj_ishl dX12_doRest_406 ?_
    refine xj_ior dX12_doRest_407 ?_
    refine xj_iloadn 0 dX12_doRest_408 rfl rfl ?_
    refine xj_bipush (v := 24) dX12_doRest_409 cb_24 ?_
    refine xj_ishl dX12_doRest_411 ?_
    refine xj_ior dX12_doRest_412 ?_
    refine xj_iast (k := 9) dX12_doRest_413 rfl ?_
    refine xj_iloadn 2 dX12_doRest_414 rfl rfl ?_
    exact xj_ri dX12_doRest_415 rfl
theorem kX12_doRest (p1 : Int32) (w : xW) : xMet jI mX12_doRest lM (0, 0) [.ref 0, .int p1] w (sX12_doRest p1 w) := xj_met lM_ok (by decide) (Nat.le_of_ble_eq_true rfl) (Nat.zero_le _) (Nat.zero_le _) (tX12_doRest p1 w)
set_option maxRecDepth 20000 in
def sX12_doOther_j210 (a1 : Int32) (a4 : Int32) (b0 : Int32) (w : xW) : Option (Int32 × xW) :=
  xbd (sX12_setFirst b0 w) (fun _ w1 => (if xz a4 then some (a1, (xwi w1 0 36 a4)) else none))
set_option maxRecDepth 20000 in
theorem tX12_doOther_j210 (a1 : Int32) (a4 : Int32) (b0 : Int32) (w : xW) : xJ ιI mX12_doOther lM (0, 0) 210 [(0, .ref 0), (1, .int a1), (4, .int a4)] [.int b0, .ref 0] w (sX12_doOther_j210 a1 a4 b0 w) := by
  unfold sX12_doOther_j210
  refine xj_cVv (argv := [.int b0]) (rest := []) dX12_doOther_210 (kX12_setFirst b0 w) mkX12_setFirst tw2332 rfl rfl rfl rfl rfl rfl (fun _ w1 => ?_)
  refine xj_aloadn 0 dX12_doOther_213 rfl rfl ?_
  refine xj_iload 2 dX12_doOther_214 rfl ?_
  refine xj_guard (fun hz => ?_)
  refine pfX12_320 dX12_doOther_216 rfl hz ?_
  refine xj_iloadn 1 dX12_doOther_219 rfl rfl ?_
  exact xj_ri dX12_doOther_220 rfl
set_option maxRecDepth 20000 in
def sX12_doOther_j164 (a1 : Int32) (w : xW) : Option (Int32 × xW) :=
  xbd (sX12_firstOf w) (fun x1 w2 => (if (w2.1 0 17) = (8 : Int32) then xbd (sX12_sum x1 (1 : Int32) (0 : Int32) (w2.1 0 20) w2) (fun x5 w6 => sX12_doOther_j210 a1 (w.1 0 36) x5 w6) else xbd (sX12_difference x1 (1 : Int32) (0 : Int32) (w2.1 0 20) w2) (fun x3 w4 => sX12_doOther_j210 a1 (w.1 0 36) x3 w4)))
set_option maxRecDepth 20000 in
theorem tX12_doOther_j164 (a1 : Int32) (w : xW) : xJ ιI mX12_doOther lM (0, 0) 164 [(0, .ref 0), (1, .int a1)] [] w (sX12_doOther_j164 a1 w) := by
  unfold sX12_doOther_j164
  refine xj_aloadn 0 dX12_doOther_164 rfl rfl ?_
  refine gfX12_320 (v := (w.1 0 36)) dX12_doOther_165 rfl rfl ?_
  refine xj_istore (lv2 := [(4, .int (w.1 0 36)), (0, .ref 0), (1, .int a1)]) dX12_doOther_168 (Nat.le_of_ble_eq_true rfl) rfl ?_
  refine xj_aloadn 1 dX12_doOther_170 rfl rfl ?_
  refine xj_cVi (argv := []) (rest := []) dX12_doOther_171 (kX12_firstOf w) mkX12_firstOf tw2290 rfl rfl rfl rfl rfl rfl (fun x1 w2 => ?_)
  refine xj_istoren (lv2 := [(2, .int x1), (4, .int (w.1 0 36)), (0, .ref 0), (1, .int a1)]) dX12_doOther_174 rfl (Nat.le_of_ble_eq_true rfl) rfl ?_
  refine xj_aloadn 2 dX12_doOther_175 rfl rfl ?_
  refine xj_aloadn 2 dX12_doOther_176 rfl rfl ?_
  refine gfX12_70 (v := (w2.1 0 17)) dX12_doOther_177 rfl rfl ?_
  refine xj_bipush (v := 8) dX12_doOther_180 cb_8 ?_
  refine xj_ine (tgt := 199) dX12_doOther_182 rfl ?_ ?_
  · refine xj_aloadn 2 dX12_doOther_185 rfl rfl ?_
    refine xj_iloadn 0 dX12_doOther_186 rfl rfl ?_
    refine xj_iconst (v := 1) dX12_doOther_187 ci_1 ?_
    refine xj_iconst (v := 0) dX12_doOther_188 ci_0 ?_
    refine xj_aloadn 2 dX12_doOther_189 rfl rfl ?_
    refine gfX12_76 (v := (w2.1 0 20)) dX12_doOther_190 rfl rfl ?_
    refine xj_cVi (argv := [.int x1, .int (1 : Int32), .int (0 : Int32), .int (w2.1 0 20)]) (rest := [.ref 0]) dX12_doOther_193 (kX12_sum x1 (1 : Int32) (0 : Int32) (w2.1 0 20) w2) mkX12_sum tw2314 rfl rfl rfl rfl rfl rfl (fun x5 w6 => ?_)
    refine xj_goto (tgt := 210) dX12_doOther_196 rfl ?_
    refine xj_sub (lv2 := [(0, .ref 0), (1, .int a1), (4, .int (w.1 0 36))]) [2, 3, 1] rfl ?_
    exact tX12_doOther_j210 _ _ _ _
  · refine xj_aloadn 2 dX12_doOther_199 rfl rfl ?_
    refine xj_iloadn 0 dX12_doOther_200 rfl rfl ?_
    refine xj_iconst (v := 1) dX12_doOther_201 ci_1 ?_
    refine xj_iconst (v := 0) dX12_doOther_202 ci_0 ?_
    refine xj_aloadn 2 dX12_doOther_203 rfl rfl ?_
    refine gfX12_76 (v := (w2.1 0 20)) dX12_doOther_204 rfl rfl ?_
    refine xj_cVi (argv := [.int x1, .int (1 : Int32), .int (0 : Int32), .int (w2.1 0 20)]) (rest := [.ref 0]) dX12_doOther_207 (kX12_difference x1 (1 : Int32) (0 : Int32) (w2.1 0 20) w2) mkX12_difference tw2328 rfl rfl rfl rfl rfl rfl (fun x3 w4 => ?_)
    refine xj_sub (lv2 := [(0, .ref 0), (1, .int a1), (4, .int (w.1 0 36))]) [2, 3, 1] rfl ?_
    exact tX12_doOther_j210 _ _ _ _
set_option maxRecDepth 20000 in
def sX12_doOther_j269 (a1 : Int32) (a2 : Int32) (b0 : Int32) (w : xW) : Option (Int32 × xW) :=
  xbd (sX12_setFirst a2 (xwi w 0 46 b0)) (fun _ w1 => some (a1, w1))
set_option maxRecDepth 20000 in
theorem tX12_doOther_j269 (a1 : Int32) (a2 : Int32) (b0 : Int32) (w : xW) : xJ ιI mX12_doOther lM (0, 0) 269 [(0, .ref 0), (1, .int a1), (2, .int a2)] [.int b0, .ref 0] w (sX12_doOther_j269 a1 a2 b0 w) := by
  unfold sX12_doOther_j269
  refine pfX12_288 dX12_doOther_269 rfl ?_
  refine xj_aloadn 0 dX12_doOther_272 rfl rfl ?_
  refine xj_iloadn 2 dX12_doOther_273 rfl rfl ?_
  refine xj_cVv (argv := [.int a2]) (rest := []) dX12_doOther_274 (kX12_setFirst a2 (xwi w 0 46 b0)) mkX12_setFirst tw2332 rfl rfl rfl rfl rfl rfl (fun _ w1 => ?_)
  refine xj_iloadn 1 dX12_doOther_277 rfl rfl ?_
  exact xj_ri dX12_doOther_278 rfl
set_option maxRecDepth 20000 in
def sX12_doOther_j311 (a1 : Int32) (a2 : Int32) (b0 : Int64) (w : xW) : Option (Int32 × xW) :=
  xbd (sX12_product b0 a2.toInt64 w) (fun _ w1 => some (a1, w1))
set_option maxRecDepth 20000 in
theorem tX12_doOther_j311 (a1 : Int32) (a2 : Int32) (b0 : Int64) (w : xW) : xJ ιI mX12_doOther lM (0, 0) 311 [(1, .int a1), (2, .int a2)] [.long b0, .ref 0] w (sX12_doOther_j311 a1 a2 b0 w) := by
  unfold sX12_doOther_j311
  refine xj_iloadn 1 dX12_doOther_311 rfl rfl ?_
  refine xj_i2l dX12_doOther_312 ?_
  refine xj_cVv (argv := [.long b0, .long a2.toInt64]) (rest := []) dX12_doOther_313 (kX12_product b0 a2.toInt64 w) mkX12_product tw2372 rfl rfl rfl rfl rfl rfl (fun _ w1 => ?_)
  refine xj_iloadn 0 dX12_doOther_316 rfl rfl ?_
  exact xj_ri dX12_doOther_317 rfl
set_option maxRecDepth 20000 in
def sX12_doOther_j514 (a1 : Int32) (b0 : Int32) (w : xW) : Option (Int32 × xW) :=
  (if (w.1 0 18) = (4 : Int32) then xbd (sX12_setE (w.1 0 29) (xwi w 0 46 b0)) (fun _ w4 => some (a1, w4)) else xbd (sX12_part (w.1 0 23) (w.1 0 20) (xwi w 0 46 b0)) (fun x1 w2 => xbd (sX12_setE x1 w2) (fun _ w3 => some (a1, w3))))
set_option maxRecDepth 20000 in
theorem tX12_doOther_j514 (a1 : Int32) (b0 : Int32) (w : xW) : xJ ιI mX12_doOther lM (0, 0) 514 [(0, .ref 0), (1, .int a1)] [.int b0, .ref 0] w (sX12_doOther_j514 a1 b0 w) := by
  unfold sX12_doOther_j514
  refine pfX12_288 dX12_doOther_514 rfl ?_
  refine xj_aloadn 0 dX12_doOther_517 rfl rfl ?_
  refine xj_aloadn 0 dX12_doOther_518 rfl rfl ?_
  refine gfX12_73 (v := (w.1 0 18)) dX12_doOther_519 rfl rfl ?_
  refine xj_iconst (v := 4) dX12_doOther_522 ci_4 ?_
  refine xj_ine (tgt := 533) dX12_doOther_523 rfl ?_ ?_
  · refine xj_aloadn 0 dX12_doOther_526 rfl rfl ?_
    refine gfX12_109 (v := (w.1 0 29)) dX12_doOther_527 rfl rfl ?_
    refine xj_goto (tgt := 545) dX12_doOther_530 rfl ?_
    refine xj_cVv (argv := [.int (w.1 0 29)]) (rest := []) dX12_doOther_545 (kX12_setE (w.1 0 29) (xwi w 0 46 b0)) mkX12_setE tw2342 rfl rfl rfl rfl rfl rfl (fun _ w4 => ?_)
    refine xj_iloadn 1 dX12_doOther_548 rfl rfl ?_
    exact xj_ri dX12_doOther_549 rfl
  · refine xj_aloadn 0 dX12_doOther_533 rfl rfl ?_
    refine xj_aloadn 0 dX12_doOther_534 rfl rfl ?_
    refine gfX12_85 (v := (w.1 0 23)) dX12_doOther_535 rfl rfl ?_
    refine xj_aloadn 0 dX12_doOther_538 rfl rfl ?_
    refine gfX12_76 (v := (w.1 0 20)) dX12_doOther_539 rfl rfl ?_
    refine xj_cVi (argv := [.int (w.1 0 23), .int (w.1 0 20)]) (rest := [.ref 0]) dX12_doOther_542 (kX12_part (w.1 0 23) (w.1 0 20) (xwi w 0 46 b0)) mkX12_part tw2294 rfl rfl rfl rfl rfl rfl (fun x1 w2 => ?_)
    refine xj_cVv (argv := [.int x1]) (rest := []) dX12_doOther_545 (kX12_setE x1 w2) mkX12_setE tw2342 rfl rfl rfl rfl rfl rfl (fun _ w3 => ?_)
    refine xj_iloadn 1 dX12_doOther_548 rfl rfl ?_
    exact xj_ri dX12_doOther_549 rfl
set_option maxRecDepth 20000 in
def sX12_doOther_j703 (a1 : Int32) (w : xW) : Option (Int32 × xW) :=
  (if (w.1 0 17) = (35 : Int32) then some (a1, (xwi w 0 36 (1 : Int32))) else some (a1, (xwi w 0 36 (0 : Int32))))
set_option maxRecDepth 20000 in
theorem tX12_doOther_j703 (a1 : Int32) (w : xW) : xJ ιI mX12_doOther lM (0, 0) 703 [(0, .ref 0), (1, .int a1)] [] w (sX12_doOther_j703 a1 w) := by
  unfold sX12_doOther_j703
  refine xj_aloadn 0 dX12_doOther_703 rfl rfl ?_
  refine xj_aloadn 0 dX12_doOther_704 rfl rfl ?_
  refine gfX12_70 (v := (w.1 0 17)) dX12_doOther_705 rfl rfl ?_
  refine xj_bipush (v := 35) dX12_doOther_708 cb_35 ?_
  refine xj_ine (tgt := 717) dX12_doOther_710 rfl ?_ ?_
  · refine xj_iconst (v := 1) dX12_doOther_713 ci_1 ?_
    refine xj_goto (tgt := 718) dX12_doOther_714 rfl ?_
    refine pfX12_320 dX12_doOther_718 rfl (Or.inr rfl) ?_
    refine xj_iloadn 1 dX12_doOther_721 rfl rfl ?_
    exact xj_ri dX12_doOther_722 rfl
  · refine xj_iconst (v := 0) dX12_doOther_717 ci_0 ?_
    refine pfX12_320 dX12_doOther_718 rfl (Or.inl rfl) ?_
    refine xj_iloadn 1 dX12_doOther_721 rfl rfl ?_
    exact xj_ri dX12_doOther_722 rfl
set_option maxRecDepth 20000 in
def sX12_doOther (p1 : Int32) (w : xW) : Option (Int32 × xW) :=
  xsw (w.1 0 17) (8) [sX12_doOther_j164 p1 w, sX12_doOther_j164 p1 w, (if (w.1 0 18) = (7 : Int32) then xbd (sX12_push (w.1 0 29) w) (fun _ w6 => some (p1, w6)) else xbd (sX12_firstOf w) (fun x3 w4 => xbd (sX12_push x3 w4) (fun _ w5 => some (p1, w5)))), xbd (sX12_pop w) (fun x7 w8 => (if (w8.1 0 22) = (3 : Int32) then sX12_doOther_j269 p1 x7 (0 : Int32) w8 else xbd (sX12_address w8) (fun x9 w10 => sX12_doOther_j269 p1 x7 x9 w10))), xbd (sX12_getE w) (fun x11 w12 => (if (w12.1 0 18) = (2 : Int32) then (if xin (w12.1 0 23) 8 then sX12_doOther_j311 p1 x11 ((w12.1 9 ((w12.1 0 23).toNatClampNeg)).toInt64) w12 else none) else sX12_doOther_j311 p1 x11 ((w12.1 0 29).toInt64) w12)), xbd (sX12_holds (w.1 0 19) w) (fun x13 w14 => (if x13 = 0 then some (p1, w14) else some ((w14.1 0 29), w14))), xbd (sX12_firstOf w) (fun x15 w16 => xbd (sX12_secondOf w16) (fun x17 w18 => xbd (sX12_eight (4 : Int32) x15 x17 (w18.1 0 20) w18) (fun x19 w20 => some (p1, w20)))), (if (w.1 0 18) = (14 : Int32) then (if xin (0 : Int32) 8 then xlet (w.1 9 ((0 : Int32).toNatClampNeg)) (fun x27 => (if xin (w.1 0 24) 8 then (if xin (0 : Int32) 8 then (if xin (w.1 0 24) 8 then some (p1, (xwi (xwi w 9 ((0 : Int32).toNatClampNeg) (w.1 9 ((w.1 0 24).toNatClampNeg))) 9 ((w.1 0 24).toNatClampNeg) x27)) else none) else none) else none)) else none) else xbd (sX12_getE w) (fun x21 w22 => xbd (sX12_part (w22.1 0 23) (w22.1 0 20) w22) (fun x23 w24 => xbd (sX12_setE x23 w24) (fun _ w25 => xbd (sX12_setRegister (w25.1 0 23) (w25.1 0 20) x21 w25) (fun _ w26 => some (p1, w26)))))), (if (w.1 0 18) = (13 : Int32) then xbd (sX12_setRegister (w.1 0 24) (w.1 0 20) (w.1 0 29) w) (fun _ w33 => some (p1, w33)) else (if (w.1 0 18) = (2 : Int32) then xbd (sX12_getE w) (fun x30 w31 => xbd (sX12_setRegister (w.1 0 23) (w.1 0 20) x30 w31) (fun _ w32 => some (p1, w32))) else (if (w.1 0 22) = (3 : Int32) then sX12_doOther_j514 p1 (0 : Int32) w else xbd (sX12_address w) (fun x28 w29 => sX12_doOther_j514 p1 x28 w29)))), xbd (sX12_address w) (fun x34 w35 => (if xin (w.1 0 23) 8 then some (p1, (xwi w35 9 ((w.1 0 23).toNatClampNeg) x34)) else none)), xbd (sX12_doRest p1 w) (fun x36 w37 => some (x36, w37)), (if xin (0 : Int32) 8 then (if xin (0 : Int32) 8 then some (p1, (xwi w 9 ((0 : Int32).toNatClampNeg) ((w.1 9 ((0 : Int32).toNatClampNeg)).toInt16.toInt32))) else none) else none), (if xin (0 : Int32) 8 then (if xin (2 : Int32) 8 then some (p1, (xwi w 9 ((2 : Int32).toNatClampNeg) ((w.1 9 ((0 : Int32).toNatClampNeg)) >>> ((31 : Int32) &&& 31)))) else none) else none), xbd (sX12_doRest p1 w) (fun x38 w39 => some (x38, w39)), xbd (sX12_doRest p1 w) (fun x40 w41 => some (x40, w41)), xbd (sX12_doRest p1 w) (fun x42 w43 => some (x42, w43)), xbd (sX12_doRest p1 w) (fun x44 w45 => some (x44, w45)), xbd (sX12_doRest p1 w) (fun x46 w47 => some (x46, w47)), xbd (sX12_doRest p1 w) (fun x48 w49 => some (x48, w49)), xbd (sX12_doRest p1 w) (fun x50 w51 => some (x50, w51)), (if xin (1 : Int32) 8 then (if xin (1 : Int32) 8 then (if xin (1 : Int32) 8 then (if ((w.1 9 ((1 : Int32).toNatClampNeg)) - (1 : Int32)) = 0 then some (p1, (xwi w 9 ((1 : Int32).toNatClampNeg) ((w.1 9 ((1 : Int32).toNatClampNeg)) - (1 : Int32)))) else some ((w.1 0 29), (xwi w 9 ((1 : Int32).toNatClampNeg) ((w.1 9 ((1 : Int32).toNatClampNeg)) - (1 : Int32))))) else none) else none) else none), (if xin (1 : Int32) 8 then (if (w.1 9 ((1 : Int32).toNatClampNeg)) = 0 then some ((w.1 0 29), w) else some (p1, w)) else none), xbd (sX12_push p1 w) (fun _ w52 => some ((w52.1 0 29), w52)), some ((w.1 0 29), w), xbd (sX12_doRest p1 w) (fun x53 w54 => some (x53, w54)), (if (w.1 0 36) = 0 then some (p1, (xwi w 0 36 (1 : Int32))) else some (p1, (xwi w 0 36 (0 : Int32)))), sX12_doOther_j703 p1 w, sX12_doOther_j703 p1 w, xbd (sX12_getE w) (fun x55 w56 => xbd (sX12_setE (x55 ^^^ (-1 : Int32)) w56) (fun _ w57 => some (p1, w57))), xbd (sX12_getE w) (fun x58 w59 => xbd (sX12_difference (0 : Int32) x58 (0 : Int32) (w59.1 0 20) w59) (fun x60 w61 => xbd (sX12_setE x60 w61) (fun _ w62 => some (p1, w62)))), xbd (sX12_wholeProduct w) (fun _ w63 => some (p1, w63)), xbd (sX12_wholeProduct w) (fun _ w64 => some (p1, w64)), xbd (sX12_quotient w) (fun _ w65 => some (p1, w65)), xbd (sX12_quotient w) (fun _ w66 => some (p1, w66)), (if xin (w.1 0 24) 8 then xlet (w.1 9 ((w.1 0 24).toNatClampNeg)) (fun x67 => xbd (sX12_push p1 w) (fun _ w68 => some (x67, w68))) else none), (if xin (w.1 0 24) 8 then some ((w.1 9 ((w.1 0 24).toNatClampNeg)), w) else none)] (xbd (sX12_doRest p1 w) (fun x1 w2 => some (x1, w2)))
set_option maxRecDepth 20000 in
theorem tX12_doOther (p1 : Int32) (w : xW) : xJ ιI mX12_doOther lM (0, 0) 0 [(0, .ref 0), (1, .int p1)] [] w (sX12_doOther p1 w) := by
  unfold sX12_doOther
  refine xj_aloadn 0 dX12_doOther_0 rfl rfl ?_
  refine gfX12_70 (v := (w.1 0 17)) dX12_doOther_1 rfl rfl ?_
  refine xj_tsw (tgtd := 771) [164, 164, 221, 247, 279, 318, 338, 360, 442, 550, 771, 565, 580, 771, 771, 771, 771, 771, 771, 771, 597, 625, 643, 653, 771, 685, 703, 703, 723, 737, 759, 759, 765, 765, 658, 675] dX12_doOther_4 rfl rfl rfl rfl ?_ ⟨?_, ?_, ?_, ?_, ?_, ?_, ?_, ?_, ?_, ?_, ?_, ?_, ?_, ?_, ?_, ?_, ?_, ?_, ?_, ?_, ?_, ?_, ?_, ?_, ?_, ?_, ?_, ?_, ?_, ?_, ?_, ?_, ?_, ?_, ?_, ?_, trivial⟩
  · refine xj_aloadn 0 dX12_doOther_771 rfl rfl ?_
    refine xj_iloadn 1 dX12_doOther_772 rfl rfl ?_
    refine xj_cVi (argv := [.int p1]) (rest := []) dX12_doOther_773 (kX12_doRest p1 w) mkX12_doRest tw2392 rfl rfl rfl rfl rfl rfl (fun x1 w2 => ?_)
    exact xj_ri dX12_doOther_776 rfl
  · exact tX12_doOther_j164 _ _
  · exact tX12_doOther_j164 _ _
  · refine xj_aloadn 0 dX12_doOther_221 rfl rfl ?_
    refine xj_aloadn 0 dX12_doOther_222 rfl rfl ?_
    refine gfX12_73 (v := (w.1 0 18)) dX12_doOther_223 rfl rfl ?_
    refine xj_bipush (v := 7) dX12_doOther_226 cb_7 ?_
    refine xj_ine (tgt := 238) dX12_doOther_228 rfl ?_ ?_
    · refine xj_aloadn 0 dX12_doOther_231 rfl rfl ?_
      refine gfX12_109 (v := (w.1 0 29)) dX12_doOther_232 rfl rfl ?_
      refine xj_goto (tgt := 242) dX12_doOther_235 rfl ?_
      refine xj_cVv (argv := [.int (w.1 0 29)]) (rest := []) dX12_doOther_242 (kX12_push (w.1 0 29) w) mkX12_push tw2364 rfl rfl rfl rfl rfl rfl (fun _ w6 => ?_)
      refine xj_iloadn 1 dX12_doOther_245 rfl rfl ?_
      exact xj_ri dX12_doOther_246 rfl
    · refine xj_aloadn 0 dX12_doOther_238 rfl rfl ?_
      refine xj_cVi (argv := []) (rest := [.ref 0]) dX12_doOther_239 (kX12_firstOf w) mkX12_firstOf tw2290 rfl rfl rfl rfl rfl rfl (fun x3 w4 => ?_)
      refine xj_cVv (argv := [.int x3]) (rest := []) dX12_doOther_242 (kX12_push x3 w4) mkX12_push tw2364 rfl rfl rfl rfl rfl rfl (fun _ w5 => ?_)
      refine xj_iloadn 1 dX12_doOther_245 rfl rfl ?_
      exact xj_ri dX12_doOther_246 rfl
  · refine xj_aloadn 0 dX12_doOther_247 rfl rfl ?_
    refine xj_cVi (argv := []) (rest := []) dX12_doOther_248 (kX12_pop w) mkX12_pop tw2368 rfl rfl rfl rfl rfl rfl (fun x7 w8 => ?_)
    refine xj_istoren (lv2 := [(2, .int x7), (0, .ref 0), (1, .int p1)]) dX12_doOther_251 rfl (Nat.le_of_ble_eq_true rfl) rfl ?_
    refine xj_aloadn 1 dX12_doOther_252 rfl rfl ?_
    refine xj_aloadn 1 dX12_doOther_253 rfl rfl ?_
    refine gfX12_82 (v := (w8.1 0 22)) dX12_doOther_254 rfl rfl ?_
    refine xj_iconst (v := 3) dX12_doOther_257 ci_3 ?_
    refine xj_ine (tgt := 265) dX12_doOther_258 rfl ?_ ?_
    · refine xj_iconst (v := 0) dX12_doOther_261 ci_0 ?_
      refine xj_goto (tgt := 269) dX12_doOther_262 rfl ?_
      refine xj_sub (lv2 := [(0, .ref 0), (1, .int p1), (2, .int x7)]) [1, 2, 0] rfl ?_
      exact tX12_doOther_j269 _ _ _ _
    · refine xj_aloadn 1 dX12_doOther_265 rfl rfl ?_
      refine xj_cVi (argv := []) (rest := [.ref 0]) dX12_doOther_266 (kX12_address w8) mkX12_address tw2302 rfl rfl rfl rfl rfl rfl (fun x9 w10 => ?_)
      refine xj_sub (lv2 := [(0, .ref 0), (1, .int p1), (2, .int x7)]) [1, 2, 0] rfl ?_
      exact tX12_doOther_j269 _ _ _ _
  · refine xj_aloadn 0 dX12_doOther_279 rfl rfl ?_
    refine xj_cVi (argv := []) (rest := []) dX12_doOther_280 (kX12_getE w) mkX12_getE tw2298 rfl rfl rfl rfl rfl rfl (fun x11 w12 => ?_)
    refine xj_istoren (lv2 := [(2, .int x11), (0, .ref 0), (1, .int p1)]) dX12_doOther_283 rfl (Nat.le_of_ble_eq_true rfl) rfl ?_
    refine xj_aloadn 1 dX12_doOther_284 rfl rfl ?_
    refine xj_aloadn 1 dX12_doOther_285 rfl rfl ?_
    refine gfX12_73 (v := (w12.1 0 18)) dX12_doOther_286 rfl rfl ?_
    refine xj_iconst (v := 2) dX12_doOther_289 ci_2 ?_
    refine xj_ine (tgt := 306) dX12_doOther_290 rfl ?_ ?_
    · refine xj_aloadn 1 dX12_doOther_293 rfl rfl ?_
      refine gfX12_44 dX12_doOther_294 rfl ?_
      refine xj_aloadn 1 dX12_doOther_297 rfl rfl ?_
      refine gfX12_85 (v := (w12.1 0 23)) dX12_doOther_298 rfl rfl ?_
      refine xj_iald (k := 9) dX12_doOther_301 rfl ?_
      refine xj_i2l dX12_doOther_302 ?_
      refine xj_goto (tgt := 311) dX12_doOther_303 rfl ?_
      refine xj_sub (lv2 := [(1, .int p1), (2, .int x11)]) [2, 0] rfl ?_
      exact tX12_doOther_j311 _ _ _ _
    · refine xj_aloadn 1 dX12_doOther_306 rfl rfl ?_
      refine gfX12_109 (v := (w12.1 0 29)) dX12_doOther_307 rfl rfl ?_
      refine xj_i2l dX12_doOther_310 ?_
      refine xj_sub (lv2 := [(1, .int p1), (2, .int x11)]) [2, 0] rfl ?_
      exact tX12_doOther_j311 _ _ _ _
  · refine xj_aloadn 0 dX12_doOther_318 rfl rfl ?_
    refine xj_aloadn 0 dX12_doOther_319 rfl rfl ?_
    refine gfX12_115 (v := (w.1 0 19)) dX12_doOther_320 rfl rfl ?_
    refine xj_cVi (argv := [.int (w.1 0 19)]) (rest := []) dX12_doOther_323 (kX12_holds (w.1 0 19) w) mkX12_holds tw2376 rfl rfl rfl rfl rfl rfl (fun x13 w14 => ?_)
    refine xj_ifeq (tgt := 336) dX12_doOther_326 rfl ?_ ?_
    · refine xj_iloadn 1 dX12_doOther_336 rfl rfl ?_
      exact xj_ri dX12_doOther_337 rfl
    · refine xj_aloadn 0 dX12_doOther_329 rfl rfl ?_
      refine gfX12_109 (v := (w14.1 0 29)) dX12_doOther_330 rfl rfl ?_
      refine xj_goto (tgt := 337) dX12_doOther_333 rfl ?_
      exact xj_ri dX12_doOther_337 rfl
  · refine xj_aloadn 0 dX12_doOther_338 rfl rfl ?_
    refine xj_cVi (argv := []) (rest := []) dX12_doOther_339 (kX12_firstOf w) mkX12_firstOf tw2290 rfl rfl rfl rfl rfl rfl (fun x15 w16 => ?_)
    refine xj_istoren (lv2 := [(2, .int x15), (0, .ref 0), (1, .int p1)]) dX12_doOther_342 rfl (Nat.le_of_ble_eq_true rfl) rfl ?_
    refine xj_aloadn 1 dX12_doOther_343 rfl rfl ?_
    refine xj_iconst (v := 4) dX12_doOther_344 ci_4 ?_
    refine xj_iloadn 0 dX12_doOther_345 rfl rfl ?_
    refine xj_aloadn 1 dX12_doOther_346 rfl rfl ?_
    refine xj_cVi (argv := []) (rest := [.int x15, .int (4 : Int32), .ref 0]) dX12_doOther_347 (kX12_secondOf w16) mkX12_secondOf tw2306 rfl rfl rfl rfl rfl rfl (fun x17 w18 => ?_)
    refine xj_aloadn 1 dX12_doOther_350 rfl rfl ?_
    refine gfX12_76 (v := (w18.1 0 20)) dX12_doOther_351 rfl rfl ?_
    refine xj_cVi (argv := [.int (4 : Int32), .int x15, .int x17, .int (w18.1 0 20)]) (rest := []) dX12_doOther_354 (kX12_eight (4 : Int32) x15 x17 (w18.1 0 20) w18) mkX12_eight tw2310 rfl rfl rfl rfl rfl rfl (fun x19 w20 => ?_)
    refine xj_istoren (lv2 := [(2, .int x19), (0, .ref 0), (1, .int p1)]) dX12_doOther_357 rfl (Nat.le_of_ble_eq_true rfl) rfl ?_
    refine xj_iloadn 2 dX12_doOther_358 rfl rfl ?_
    exact xj_ri dX12_doOther_359 rfl
  · refine xj_aloadn 0 dX12_doOther_360 rfl rfl ?_
    refine gfX12_73 (v := (w.1 0 18)) dX12_doOther_361 rfl rfl ?_
    refine xj_bipush (v := 14) dX12_doOther_364 cb_14 ?_
    refine xj_ine (tgt := 404) dX12_doOther_366 rfl ?_ ?_
    · refine xj_aloadn 0 dX12_doOther_369 rfl rfl ?_
      refine gfX12_44 dX12_doOther_370 rfl ?_
      refine xj_iconst (v := 0) dX12_doOther_373 ci_0 ?_
      refine xj_iald (k := 9) dX12_doOther_374 rfl ?_
      refine xj_leti (fun x27 => ?_)
      refine xj_istoren (lv2 := [(2, .int x27), (0, .ref 0), (1, .int p1)]) dX12_doOther_375 rfl (Nat.le_of_ble_eq_true rfl) rfl ?_
      refine xj_aloadn 1 dX12_doOther_376 rfl rfl ?_
      refine gfX12_44 dX12_doOther_377 rfl ?_
      refine xj_iconst (v := 0) dX12_doOther_380 ci_0 ?_
      refine xj_aloadn 1 dX12_doOther_381 rfl rfl ?_
      refine gfX12_44 dX12_doOther_382 rfl ?_
      refine xj_aloadn 1 dX12_doOther_385 rfl rfl ?_
      refine gfX12_88 (v := (w.1 0 24)) dX12_doOther_386 rfl rfl ?_
      refine xj_iald (k := 9) dX12_doOther_389 rfl ?_
      refine xj_iast (k := 9) dX12_doOther_390 rfl ?_
      refine xj_aloadn 1 dX12_doOther_391 rfl rfl ?_
      refine gfX12_44 dX12_doOther_392 rfl ?_
      refine xj_aloadn 1 dX12_doOther_395 rfl rfl ?_
      refine gfX12_88 (v := (w.1 0 24)) dX12_doOther_396 rfl rfl ?_
      refine xj_iloadn 0 dX12_doOther_399 rfl rfl ?_
      refine xj_iast (k := 9) dX12_doOther_400 rfl ?_
      refine xj_goto (tgt := 440) dX12_doOther_401 rfl ?_
      refine xj_iloadn 2 dX12_doOther_440 rfl rfl ?_
      exact xj_ri dX12_doOther_441 rfl
    · refine xj_aloadn 0 dX12_doOther_404 rfl rfl ?_
      refine xj_cVi (argv := []) (rest := []) dX12_doOther_405 (kX12_getE w) mkX12_getE tw2298 rfl rfl rfl rfl rfl rfl (fun x21 w22 => ?_)
      refine xj_istoren (lv2 := [(2, .int x21), (0, .ref 0), (1, .int p1)]) dX12_doOther_408 rfl (Nat.le_of_ble_eq_true rfl) rfl ?_
      refine xj_aloadn 1 dX12_doOther_409 rfl rfl ?_
      refine xj_aloadn 1 dX12_doOther_410 rfl rfl ?_
      refine gfX12_85 (v := (w22.1 0 23)) dX12_doOther_411 rfl rfl ?_
      refine xj_aloadn 1 dX12_doOther_414 rfl rfl ?_
      refine gfX12_76 (v := (w22.1 0 20)) dX12_doOther_415 rfl rfl ?_
      refine xj_cVi (argv := [.int (w22.1 0 23), .int (w22.1 0 20)]) (rest := []) dX12_doOther_418 (kX12_part (w22.1 0 23) (w22.1 0 20) w22) mkX12_part tw2294 rfl rfl rfl rfl rfl rfl (fun x23 w24 => ?_)
      refine xj_istoren (lv2 := [(3, .int x23), (2, .int x21), (0, .ref 0), (1, .int p1)]) dX12_doOther_421 rfl (Nat.le_of_ble_eq_true rfl) rfl ?_
      refine xj_aloadn 2 dX12_doOther_422 rfl rfl ?_
      refine xj_iloadn 0 dX12_doOther_423 rfl rfl ?_
      refine xj_cVv (argv := [.int x23]) (rest := []) dX12_doOther_424 (kX12_setE x23 w24) mkX12_setE tw2342 rfl rfl rfl rfl rfl rfl (fun _ w25 => ?_)
      refine xj_aloadn 2 dX12_doOther_427 rfl rfl ?_
      refine xj_aloadn 2 dX12_doOther_428 rfl rfl ?_
      refine gfX12_85 (v := (w25.1 0 23)) dX12_doOther_429 rfl rfl ?_
      refine xj_aloadn 2 dX12_doOther_432 rfl rfl ?_
      refine gfX12_76 (v := (w25.1 0 20)) dX12_doOther_433 rfl rfl ?_
      refine xj_iloadn 1 dX12_doOther_436 rfl rfl ?_
      refine xj_cVv (argv := [.int (w25.1 0 23), .int (w25.1 0 20), .int x21]) (rest := []) dX12_doOther_437 (kX12_setRegister (w25.1 0 23) (w25.1 0 20) x21 w25) mkX12_setRegister tw2336 rfl rfl rfl rfl rfl rfl (fun _ w26 => ?_)
      refine xj_iloadn 3 dX12_doOther_440 rfl rfl ?_
      exact xj_ri dX12_doOther_441 rfl
  · refine xj_aloadn 0 dX12_doOther_442 rfl rfl ?_
    refine gfX12_73 (v := (w.1 0 18)) dX12_doOther_443 rfl rfl ?_
    refine xj_bipush (v := 13) dX12_doOther_446 cb_13 ?_
    refine xj_ine (tgt := 470) dX12_doOther_448 rfl ?_ ?_
    · refine xj_aloadn 0 dX12_doOther_451 rfl rfl ?_
      refine xj_aloadn 0 dX12_doOther_452 rfl rfl ?_
      refine gfX12_88 (v := (w.1 0 24)) dX12_doOther_453 rfl rfl ?_
      refine xj_aloadn 0 dX12_doOther_456 rfl rfl ?_
      refine gfX12_76 (v := (w.1 0 20)) dX12_doOther_457 rfl rfl ?_
      refine xj_aloadn 0 dX12_doOther_460 rfl rfl ?_
      refine gfX12_109 (v := (w.1 0 29)) dX12_doOther_461 rfl rfl ?_
      refine xj_cVv (argv := [.int (w.1 0 24), .int (w.1 0 20), .int (w.1 0 29)]) (rest := []) dX12_doOther_464 (kX12_setRegister (w.1 0 24) (w.1 0 20) (w.1 0 29) w) mkX12_setRegister tw2336 rfl rfl rfl rfl rfl rfl (fun _ w33 => ?_)
      refine xj_goto (tgt := 548) dX12_doOther_467 rfl ?_
      refine xj_iloadn 1 dX12_doOther_548 rfl rfl ?_
      exact xj_ri dX12_doOther_549 rfl
    · refine xj_aloadn 0 dX12_doOther_470 rfl rfl ?_
      refine gfX12_73 (v := (w.1 0 18)) dX12_doOther_471 rfl rfl ?_
      refine xj_iconst (v := 2) dX12_doOther_474 ci_2 ?_
      refine xj_ine (tgt := 497) dX12_doOther_475 rfl ?_ ?_
      · refine xj_aloadn 0 dX12_doOther_478 rfl rfl ?_
        refine xj_aloadn 0 dX12_doOther_479 rfl rfl ?_
        refine gfX12_85 (v := (w.1 0 23)) dX12_doOther_480 rfl rfl ?_
        refine xj_aloadn 0 dX12_doOther_483 rfl rfl ?_
        refine gfX12_76 (v := (w.1 0 20)) dX12_doOther_484 rfl rfl ?_
        refine xj_aloadn 0 dX12_doOther_487 rfl rfl ?_
        refine xj_cVi (argv := []) (rest := [.int (w.1 0 20), .int (w.1 0 23), .ref 0]) dX12_doOther_488 (kX12_getE w) mkX12_getE tw2298 rfl rfl rfl rfl rfl rfl (fun x30 w31 => ?_)
        refine xj_cVv (argv := [.int (w.1 0 23), .int (w.1 0 20), .int x30]) (rest := []) dX12_doOther_491 (kX12_setRegister (w.1 0 23) (w.1 0 20) x30 w31) mkX12_setRegister tw2336 rfl rfl rfl rfl rfl rfl (fun _ w32 => ?_)
        refine xj_goto (tgt := 548) dX12_doOther_494 rfl ?_
        refine xj_iloadn 1 dX12_doOther_548 rfl rfl ?_
        exact xj_ri dX12_doOther_549 rfl
      · refine xj_aloadn 0 dX12_doOther_497 rfl rfl ?_
        refine xj_aloadn 0 dX12_doOther_498 rfl rfl ?_
        refine gfX12_82 (v := (w.1 0 22)) dX12_doOther_499 rfl rfl ?_
        refine xj_iconst (v := 3) dX12_doOther_502 ci_3 ?_
        refine xj_ine (tgt := 510) dX12_doOther_503 rfl ?_ ?_
        · refine xj_iconst (v := 0) dX12_doOther_506 ci_0 ?_
          refine xj_goto (tgt := 514) dX12_doOther_507 rfl ?_
          exact tX12_doOther_j514 _ _ _
        · refine xj_aloadn 0 dX12_doOther_510 rfl rfl ?_
          refine xj_cVi (argv := []) (rest := [.ref 0]) dX12_doOther_511 (kX12_address w) mkX12_address tw2302 rfl rfl rfl rfl rfl rfl (fun x28 w29 => ?_)
          exact tX12_doOther_j514 _ _ _
  · refine xj_aloadn 0 dX12_doOther_550 rfl rfl ?_
    refine gfX12_44 dX12_doOther_551 rfl ?_
    refine xj_aloadn 0 dX12_doOther_554 rfl rfl ?_
    refine gfX12_85 (v := (w.1 0 23)) dX12_doOther_555 rfl rfl ?_
    refine xj_aloadn 0 dX12_doOther_558 rfl rfl ?_
    refine xj_cVi (argv := []) (rest := [.int (w.1 0 23), .ref 9]) dX12_doOther_559 (kX12_address w) mkX12_address tw2302 rfl rfl rfl rfl rfl rfl (fun x34 w35 => ?_)
    refine xj_iast (k := 9) dX12_doOther_562 rfl ?_
    refine xj_iloadn 1 dX12_doOther_563 rfl rfl ?_
    exact xj_ri dX12_doOther_564 rfl
  · refine xj_aloadn 0 dX12_doOther_771 rfl rfl ?_
    refine xj_iloadn 1 dX12_doOther_772 rfl rfl ?_
    refine xj_cVi (argv := [.int p1]) (rest := []) dX12_doOther_773 (kX12_doRest p1 w) mkX12_doRest tw2392 rfl rfl rfl rfl rfl rfl (fun x36 w37 => ?_)
    exact xj_ri dX12_doOther_776 rfl
  · refine xj_aloadn 0 dX12_doOther_565 rfl rfl ?_
    refine gfX12_44 dX12_doOther_566 rfl ?_
    refine xj_iconst (v := 0) dX12_doOther_569 ci_0 ?_
    refine xj_aloadn 0 dX12_doOther_570 rfl rfl ?_
    refine gfX12_44 dX12_doOther_571 rfl ?_
    refine xj_iconst (v := 0) dX12_doOther_574 ci_0 ?_
    refine xj_iald (k := 9) dX12_doOther_575 rfl ?_
    refine xj_i2s dX12_doOther_576 ?_
    refine xj_iast (k := 9) dX12_doOther_577 rfl ?_
    refine xj_iloadn 1 dX12_doOther_578 rfl rfl ?_
    exact xj_ri dX12_doOther_579 rfl
  · refine xj_aloadn 0 dX12_doOther_580 rfl rfl ?_
    refine gfX12_44 dX12_doOther_581 rfl ?_
    refine xj_iconst (v := 2) dX12_doOther_584 ci_2 ?_
    refine xj_aloadn 0 dX12_doOther_585 rfl rfl ?_
    refine gfX12_44 dX12_doOther_586 rfl ?_
    refine xj_iconst (v := 0) dX12_doOther_589 ci_0 ?_
    refine xj_iald (k := 9) dX12_doOther_590 rfl ?_
    refine xj_bipush (v := 31) dX12_doOther_591 cb_31 ?_
    refine xj_ishr dX12_doOther_593 ?_
    refine xj_iast (k := 9) dX12_doOther_594 rfl ?_
    refine xj_iloadn 1 dX12_doOther_595 rfl rfl ?_
    exact xj_ri dX12_doOther_596 rfl
  · refine xj_aloadn 0 dX12_doOther_771 rfl rfl ?_
    refine xj_iloadn 1 dX12_doOther_772 rfl rfl ?_
    refine xj_cVi (argv := [.int p1]) (rest := []) dX12_doOther_773 (kX12_doRest p1 w) mkX12_doRest tw2392 rfl rfl rfl rfl rfl rfl (fun x38 w39 => ?_)
    exact xj_ri dX12_doOther_776 rfl
  · refine xj_aloadn 0 dX12_doOther_771 rfl rfl ?_
    refine xj_iloadn 1 dX12_doOther_772 rfl rfl ?_
    refine xj_cVi (argv := [.int p1]) (rest := []) dX12_doOther_773 (kX12_doRest p1 w) mkX12_doRest tw2392 rfl rfl rfl rfl rfl rfl (fun x40 w41 => ?_)
    exact xj_ri dX12_doOther_776 rfl
  · refine xj_aloadn 0 dX12_doOther_771 rfl rfl ?_
    refine xj_iloadn 1 dX12_doOther_772 rfl rfl ?_
    refine xj_cVi (argv := [.int p1]) (rest := []) dX12_doOther_773 (kX12_doRest p1 w) mkX12_doRest tw2392 rfl rfl rfl rfl rfl rfl (fun x42 w43 => ?_)
    exact xj_ri dX12_doOther_776 rfl
  · refine xj_aloadn 0 dX12_doOther_771 rfl rfl ?_
    refine xj_iloadn 1 dX12_doOther_772 rfl rfl ?_
    refine xj_cVi (argv := [.int p1]) (rest := []) dX12_doOther_773 (kX12_doRest p1 w) mkX12_doRest tw2392 rfl rfl rfl rfl rfl rfl (fun x44 w45 => ?_)
    exact xj_ri dX12_doOther_776 rfl
  · refine xj_aloadn 0 dX12_doOther_771 rfl rfl ?_
    refine xj_iloadn 1 dX12_doOther_772 rfl rfl ?_
    refine xj_cVi (argv := [.int p1]) (rest := []) dX12_doOther_773 (kX12_doRest p1 w) mkX12_doRest tw2392 rfl rfl rfl rfl rfl rfl (fun x46 w47 => ?_)
    exact xj_ri dX12_doOther_776 rfl
  · refine xj_aloadn 0 dX12_doOther_771 rfl rfl ?_
    refine xj_iloadn 1 dX12_doOther_772 rfl rfl ?_
    refine xj_cVi (argv := [.int p1]) (rest := []) dX12_doOther_773 (kX12_doRest p1 w) mkX12_doRest tw2392 rfl rfl rfl rfl rfl rfl (fun x48 w49 => ?_)
    exact xj_ri dX12_doOther_776 rfl
  · refine xj_aloadn 0 dX12_doOther_771 rfl rfl ?_
    refine xj_iloadn 1 dX12_doOther_772 rfl rfl ?_
    refine xj_cVi (argv := [.int p1]) (rest := []) dX12_doOther_773 (kX12_doRest p1 w) mkX12_doRest tw2392 rfl rfl rfl rfl rfl rfl (fun x50 w51 => ?_)
    exact xj_ri dX12_doOther_776 rfl
  · refine xj_aloadn 0 dX12_doOther_597 rfl rfl ?_
    refine gfX12_44 dX12_doOther_598 rfl ?_
    refine xj_iconst (v := 1) dX12_doOther_601 ci_1 ?_
    refine xj_dup2 dX12_doOther_602 rfl rfl ?_
    refine xj_iald (k := 9) dX12_doOther_603 rfl ?_
    refine xj_iconst (v := 1) dX12_doOther_604 ci_1 ?_
    refine xj_isub dX12_doOther_605 ?_
    refine xj_iast (k := 9) dX12_doOther_606 rfl ?_
    refine xj_aloadn 0 dX12_doOther_607 rfl rfl ?_
    refine gfX12_44 dX12_doOther_608 rfl ?_
    refine xj_iconst (v := 1) dX12_doOther_611 ci_1 ?_
    refine xj_iald (k := 9) dX12_doOther_612 rfl ?_
    refine xj_ifeq (tgt := 623) dX12_doOther_613 rfl ?_ ?_
    · refine xj_iloadn 1 dX12_doOther_623 rfl rfl ?_
      exact xj_ri dX12_doOther_624 rfl
    · refine xj_aloadn 0 dX12_doOther_616 rfl rfl ?_
      refine gfX12_109 (v := (w.1 0 29)) dX12_doOther_617 rfl rfl ?_
      refine xj_goto (tgt := 624) dX12_doOther_620 rfl ?_
      exact xj_ri dX12_doOther_624 rfl
  · refine xj_aloadn 0 dX12_doOther_625 rfl rfl ?_
    refine gfX12_44 dX12_doOther_626 rfl ?_
    refine xj_iconst (v := 1) dX12_doOther_629 ci_1 ?_
    refine xj_iald (k := 9) dX12_doOther_630 rfl ?_
    refine xj_ifne (tgt := 641) dX12_doOther_631 rfl ?_ ?_
    · refine xj_aloadn 0 dX12_doOther_634 rfl rfl ?_
      refine gfX12_109 (v := (w.1 0 29)) dX12_doOther_635 rfl rfl ?_
      refine xj_goto (tgt := 642) dX12_doOther_638 rfl ?_
      exact xj_ri dX12_doOther_642 rfl
    · refine xj_iloadn 1 dX12_doOther_641 rfl rfl ?_
      exact xj_ri dX12_doOther_642 rfl
  · refine xj_aloadn 0 dX12_doOther_643 rfl rfl ?_
    refine xj_iloadn 1 dX12_doOther_644 rfl rfl ?_
    refine xj_cVv (argv := [.int p1]) (rest := []) dX12_doOther_645 (kX12_push p1 w) mkX12_push tw2364 rfl rfl rfl rfl rfl rfl (fun _ w52 => ?_)
    refine xj_aloadn 0 dX12_doOther_648 rfl rfl ?_
    refine gfX12_109 (v := (w52.1 0 29)) dX12_doOther_649 rfl rfl ?_
    exact xj_ri dX12_doOther_652 rfl
  · refine xj_aloadn 0 dX12_doOther_653 rfl rfl ?_
    refine gfX12_109 (v := (w.1 0 29)) dX12_doOther_654 rfl rfl ?_
    exact xj_ri dX12_doOther_657 rfl
  · refine xj_aloadn 0 dX12_doOther_771 rfl rfl ?_
    refine xj_iloadn 1 dX12_doOther_772 rfl rfl ?_
    refine xj_cVi (argv := [.int p1]) (rest := []) dX12_doOther_773 (kX12_doRest p1 w) mkX12_doRest tw2392 rfl rfl rfl rfl rfl rfl (fun x53 w54 => ?_)
    exact xj_ri dX12_doOther_776 rfl
  · refine xj_aloadn 0 dX12_doOther_685 rfl rfl ?_
    refine xj_aloadn 0 dX12_doOther_686 rfl rfl ?_
    refine gfX12_320 (v := (w.1 0 36)) dX12_doOther_687 rfl rfl ?_
    refine xj_ifne (tgt := 697) dX12_doOther_690 rfl ?_ ?_
    · refine xj_iconst (v := 1) dX12_doOther_693 ci_1 ?_
      refine xj_goto (tgt := 698) dX12_doOther_694 rfl ?_
      refine pfX12_320 dX12_doOther_698 rfl (Or.inr rfl) ?_
      refine xj_iloadn 1 dX12_doOther_701 rfl rfl ?_
      exact xj_ri dX12_doOther_702 rfl
    · refine xj_iconst (v := 0) dX12_doOther_697 ci_0 ?_
      refine pfX12_320 dX12_doOther_698 rfl (Or.inl rfl) ?_
      refine xj_iloadn 1 dX12_doOther_701 rfl rfl ?_
      exact xj_ri dX12_doOther_702 rfl
  · exact tX12_doOther_j703 _ _
  · exact tX12_doOther_j703 _ _
  · refine xj_aloadn 0 dX12_doOther_723 rfl rfl ?_
    refine xj_cVi (argv := []) (rest := []) dX12_doOther_724 (kX12_getE w) mkX12_getE tw2298 rfl rfl rfl rfl rfl rfl (fun x55 w56 => ?_)
    refine xj_istoren (lv2 := [(2, .int x55), (0, .ref 0), (1, .int p1)]) dX12_doOther_727 rfl (Nat.le_of_ble_eq_true rfl) rfl ?_
    refine xj_aloadn 1 dX12_doOther_728 rfl rfl ?_
    refine xj_iloadn 0 dX12_doOther_729 rfl rfl ?_
    refine xj_iconst (v := -1) dX12_doOther_730 ci_m1 ?_
    refine xj_ixor dX12_doOther_731 ?_
    refine xj_cVv (argv := [.int (x55 ^^^ (-1 : Int32))]) (rest := []) dX12_doOther_732 (kX12_setE (x55 ^^^ (-1 : Int32)) w56) mkX12_setE tw2342 rfl rfl rfl rfl rfl rfl (fun _ w57 => ?_)
    refine xj_iloadn 2 dX12_doOther_735 rfl rfl ?_
    exact xj_ri dX12_doOther_736 rfl
  · refine xj_aloadn 0 dX12_doOther_737 rfl rfl ?_
    refine xj_cVi (argv := []) (rest := []) dX12_doOther_738 (kX12_getE w) mkX12_getE tw2298 rfl rfl rfl rfl rfl rfl (fun x58 w59 => ?_)
    refine xj_istoren (lv2 := [(2, .int x58), (0, .ref 0), (1, .int p1)]) dX12_doOther_741 rfl (Nat.le_of_ble_eq_true rfl) rfl ?_
    refine xj_aloadn 1 dX12_doOther_742 rfl rfl ?_
    refine xj_aloadn 1 dX12_doOther_743 rfl rfl ?_
    refine xj_iconst (v := 0) dX12_doOther_744 ci_0 ?_
    refine xj_iloadn 0 dX12_doOther_745 rfl rfl ?_
    refine xj_iconst (v := 0) dX12_doOther_746 ci_0 ?_
    refine xj_aloadn 1 dX12_doOther_747 rfl rfl ?_
    refine gfX12_76 (v := (w59.1 0 20)) dX12_doOther_748 rfl rfl ?_
    refine xj_cVi (argv := [.int (0 : Int32), .int x58, .int (0 : Int32), .int (w59.1 0 20)]) (rest := [.ref 0]) dX12_doOther_751 (kX12_difference (0 : Int32) x58 (0 : Int32) (w59.1 0 20) w59) mkX12_difference tw2328 rfl rfl rfl rfl rfl rfl (fun x60 w61 => ?_)
    refine xj_cVv (argv := [.int x60]) (rest := []) dX12_doOther_754 (kX12_setE x60 w61) mkX12_setE tw2342 rfl rfl rfl rfl rfl rfl (fun _ w62 => ?_)
    refine xj_iloadn 2 dX12_doOther_757 rfl rfl ?_
    exact xj_ri dX12_doOther_758 rfl
  · refine xj_aloadn 0 dX12_doOther_759 rfl rfl ?_
    refine xj_cVv (argv := []) (rest := []) dX12_doOther_760 (kX12_wholeProduct w) mkX12_wholeProduct tw2380 rfl rfl rfl rfl rfl rfl (fun _ w63 => ?_)
    refine xj_iloadn 1 dX12_doOther_763 rfl rfl ?_
    exact xj_ri dX12_doOther_764 rfl
  · refine xj_aloadn 0 dX12_doOther_759 rfl rfl ?_
    refine xj_cVv (argv := []) (rest := []) dX12_doOther_760 (kX12_wholeProduct w) mkX12_wholeProduct tw2380 rfl rfl rfl rfl rfl rfl (fun _ w64 => ?_)
    refine xj_iloadn 1 dX12_doOther_763 rfl rfl ?_
    exact xj_ri dX12_doOther_764 rfl
  · refine xj_aloadn 0 dX12_doOther_765 rfl rfl ?_
    refine xj_cVv (argv := []) (rest := []) dX12_doOther_766 (kX12_quotient w) mkX12_quotient tw2384 rfl rfl rfl rfl rfl rfl (fun _ w65 => ?_)
    refine xj_iloadn 1 dX12_doOther_769 rfl rfl ?_
    exact xj_ri dX12_doOther_770 rfl
  · refine xj_aloadn 0 dX12_doOther_765 rfl rfl ?_
    refine xj_cVv (argv := []) (rest := []) dX12_doOther_766 (kX12_quotient w) mkX12_quotient tw2384 rfl rfl rfl rfl rfl rfl (fun _ w66 => ?_)
    refine xj_iloadn 1 dX12_doOther_769 rfl rfl ?_
    exact xj_ri dX12_doOther_770 rfl
  · refine xj_aloadn 0 dX12_doOther_658 rfl rfl ?_
    refine gfX12_44 dX12_doOther_659 rfl ?_
    refine xj_aloadn 0 dX12_doOther_662 rfl rfl ?_
    refine gfX12_88 (v := (w.1 0 24)) dX12_doOther_663 rfl rfl ?_
    refine xj_iald (k := 9) dX12_doOther_666 rfl ?_
    refine xj_leti (fun x67 => ?_)
    refine xj_istoren (lv2 := [(2, .int x67), (0, .ref 0), (1, .int p1)]) dX12_doOther_667 rfl (Nat.le_of_ble_eq_true rfl) rfl ?_
    refine xj_aloadn 1 dX12_doOther_668 rfl rfl ?_
    refine xj_iloadn 2 dX12_doOther_669 rfl rfl ?_
    refine xj_cVv (argv := [.int p1]) (rest := []) dX12_doOther_670 (kX12_push p1 w) mkX12_push tw2364 rfl rfl rfl rfl rfl rfl (fun _ w68 => ?_)
    refine xj_iloadn 0 dX12_doOther_673 rfl rfl ?_
    exact xj_ri dX12_doOther_674 rfl
  · refine xj_aloadn 0 dX12_doOther_675 rfl rfl ?_
    refine gfX12_44 dX12_doOther_676 rfl ?_
    refine xj_aloadn 0 dX12_doOther_679 rfl rfl ?_
    refine gfX12_88 (v := (w.1 0 24)) dX12_doOther_680 rfl rfl ?_
    refine xj_iald (k := 9) dX12_doOther_683 rfl ?_
    exact xj_ri dX12_doOther_684 rfl
theorem kX12_doOther (p1 : Int32) (w : xW) : xMet jI mX12_doOther lM (0, 0) [.ref 0, .int p1] w (sX12_doOther p1 w) := xj_met lM_ok (by decide) (Nat.le_of_ble_eq_true rfl) (Nat.zero_le _) (Nat.zero_le _) (tX12_doOther p1 w)
set_option maxRecDepth 20000 in
def sX12_doOne_j92 (a1 : Int32) (w : xW) : Option (Unit × xW) :=
  xbd (sX12_doOther a1 w) (fun x1 w2 => some ((), (xwi w2 0 34 x1)))
set_option maxRecDepth 20000 in
theorem tX12_doOne_j92 (a1 : Int32) (w : xW) : xJ ιV mX12_doOne lM (0, 0) 92 [(0, .ref 0), (1, .int a1)] [] w (sX12_doOne_j92 a1 w) := by
  unfold sX12_doOne_j92
  refine xj_aloadn 0 dX12_doOne_92 rfl rfl ?_
  refine xj_iloadn 1 dX12_doOne_93 rfl rfl ?_
  refine xj_cVi (argv := [.int a1]) (rest := []) dX12_doOne_94 (kX12_doOther a1 w) mkX12_doOther tw2360 rfl rfl rfl rfl rfl rfl (fun x1 w2 => ?_)
  refine xj_istoren (lv2 := [(2, .int x1), (0, .ref 0), (1, .int a1)]) dX12_doOne_97 rfl (Nat.le_of_ble_eq_true rfl) rfl ?_
  refine xj_aloadn 1 dX12_doOne_98 rfl rfl ?_
  refine xj_iloadn 0 dX12_doOne_99 rfl rfl ?_
  refine pfX12_40 dX12_doOne_100 rfl ?_
  exact xj_rv dX12_doOne_103 rfl
set_option maxRecDepth 20000 in
def sX12_doOne_j64 (a2 : Int32) (w : xW) : Option (Unit × xW) :=
  some ((), (xwi w 0 34 a2))
set_option maxRecDepth 20000 in
theorem tX12_doOne_j64 (a2 : Int32) (w : xW) : xJ ιV mX12_doOne lM (0, 0) 64 [(0, .ref 0), (2, .int a2)] [] w (sX12_doOne_j64 a2 w) := by
  unfold sX12_doOne_j64
  refine xj_goto (tgt := 98) dX12_doOne_64 rfl ?_
  refine xj_aloadn 0 dX12_doOne_98 rfl rfl ?_
  refine xj_iloadn 1 dX12_doOne_99 rfl rfl ?_
  refine pfX12_40 dX12_doOne_100 rfl ?_
  exact xj_rv dX12_doOne_103 rfl
set_option maxRecDepth 20000 in
def sX12_doOne (w : xW) : Option (Unit × xW) :=
  (if (7 : Int32) < (w.1 0 17) then (if (w.1 0 17) < (21 : Int32) then sX12_doOne_j92 ((w.1 0 34) + (w.1 0 30)) w else (if (27 : Int32) < (w.1 0 17) then sX12_doOne_j92 ((w.1 0 34) + (w.1 0 30)) w else xbd (sX12_shifts w) (fun _ w1 => some ((), (xwi w1 0 34 ((w.1 0 34) + (w.1 0 30))))))) else xbd (sX12_firstOf w) (fun x2 w3 => xbd (sX12_secondOf w3) (fun x4 w5 => xbd (sX12_eight (w5.1 0 17) x2 x4 (w5.1 0 20) w5) (fun x6 w7 => (if (w7.1 0 17) = (7 : Int32) then sX12_doOne_j64 ((w.1 0 34) + (w.1 0 30)) w7 else xbd (sX12_setFirst x6 w7) (fun _ w8 => sX12_doOne_j64 ((w.1 0 34) + (w.1 0 30)) w8))))))
set_option maxRecDepth 20000 in
theorem tX12_doOne (w : xW) : xJ ιV mX12_doOne lM (0, 0) 0 [(0, .ref 0)] [] w (sX12_doOne w) := by
  unfold sX12_doOne
  refine xj_aloadn 0 dX12_doOne_0 rfl rfl ?_
  refine gfX12_40 (v := (w.1 0 34)) dX12_doOne_1 rfl rfl ?_
  refine xj_aloadn 0 dX12_doOne_4 rfl rfl ?_
  refine gfX12_138 (v := (w.1 0 30)) dX12_doOne_5 rfl rfl ?_
  refine xj_iadd dX12_doOne_8 ?_
  refine xj_istoren (lv2 := [(1, .int ((w.1 0 34) + (w.1 0 30))), (0, .ref 0)]) dX12_doOne_9 rfl (Nat.le_of_ble_eq_true rfl) rfl ?_
  refine xj_iloadn 0 dX12_doOne_10 rfl rfl ?_
  refine xj_istoren (lv2 := [(2, .int ((w.1 0 34) + (w.1 0 30))), (1, .int ((w.1 0 34) + (w.1 0 30))), (0, .ref 0)]) dX12_doOne_11 rfl (Nat.le_of_ble_eq_true rfl) rfl ?_
  refine xj_aloadn 2 dX12_doOne_12 rfl rfl ?_
  refine gfX12_70 (v := (w.1 0 17)) dX12_doOne_13 rfl rfl ?_
  refine xj_bipush (v := 7) dX12_doOne_16 cb_7 ?_
  refine xj_igt (tgt := 67) dX12_doOne_18 rfl ?_ ?_
  · refine xj_aloadn 2 dX12_doOne_67 rfl rfl ?_
    refine gfX12_70 (v := (w.1 0 17)) dX12_doOne_68 rfl rfl ?_
    refine xj_bipush (v := 21) dX12_doOne_71 cb_21 ?_
    refine xj_ilt (tgt := 92) dX12_doOne_73 rfl ?_ ?_
    · refine xj_sub (lv2 := [(0, .ref 0), (1, .int ((w.1 0 34) + (w.1 0 30)))]) [2, 1] rfl ?_
      exact tX12_doOne_j92 _ _
    · refine xj_aloadn 2 dX12_doOne_76 rfl rfl ?_
      refine gfX12_70 (v := (w.1 0 17)) dX12_doOne_77 rfl rfl ?_
      refine xj_bipush (v := 27) dX12_doOne_80 cb_27 ?_
      refine xj_igt (tgt := 92) dX12_doOne_82 rfl ?_ ?_
      · refine xj_sub (lv2 := [(0, .ref 0), (1, .int ((w.1 0 34) + (w.1 0 30)))]) [2, 1] rfl ?_
        exact tX12_doOne_j92 _ _
      · refine xj_aloadn 2 dX12_doOne_85 rfl rfl ?_
        refine xj_cVv (argv := []) (rest := []) dX12_doOne_86 (kX12_shifts w) mkX12_shifts tw2352 rfl rfl rfl rfl rfl rfl (fun _ w1 => ?_)
        refine xj_goto (tgt := 98) dX12_doOne_89 rfl ?_
        refine xj_aloadn 2 dX12_doOne_98 rfl rfl ?_
        refine xj_iloadn 0 dX12_doOne_99 rfl rfl ?_
        refine pfX12_40 dX12_doOne_100 rfl ?_
        exact xj_rv dX12_doOne_103 rfl
  · refine xj_aloadn 2 dX12_doOne_21 rfl rfl ?_
    refine xj_cVi (argv := []) (rest := []) dX12_doOne_22 (kX12_firstOf w) mkX12_firstOf tw2290 rfl rfl rfl rfl rfl rfl (fun x2 w3 => ?_)
    refine xj_istoren (lv2 := [(3, .int x2), (2, .int ((w.1 0 34) + (w.1 0 30))), (1, .int ((w.1 0 34) + (w.1 0 30))), (0, .ref 0)]) dX12_doOne_25 rfl (Nat.le_of_ble_eq_true rfl) rfl ?_
    refine xj_aloadn 3 dX12_doOne_26 rfl rfl ?_
    refine xj_cVi (argv := []) (rest := []) dX12_doOne_27 (kX12_secondOf w3) mkX12_secondOf tw2306 rfl rfl rfl rfl rfl rfl (fun x4 w5 => ?_)
    refine xj_istore (lv2 := [(4, .int x4), (3, .int x2), (2, .int ((w.1 0 34) + (w.1 0 30))), (1, .int ((w.1 0 34) + (w.1 0 30))), (0, .ref 0)]) dX12_doOne_30 (Nat.le_of_ble_eq_true rfl) rfl ?_
    refine xj_aloadn 4 dX12_doOne_32 rfl rfl ?_
    refine xj_aloadn 4 dX12_doOne_33 rfl rfl ?_
    refine gfX12_70 (v := (w5.1 0 17)) dX12_doOne_34 rfl rfl ?_
    refine xj_iloadn 1 dX12_doOne_37 rfl rfl ?_
    refine xj_iload 0 dX12_doOne_38 rfl ?_
    refine xj_aloadn 4 dX12_doOne_40 rfl rfl ?_
    refine gfX12_76 (v := (w5.1 0 20)) dX12_doOne_41 rfl rfl ?_
    refine xj_cVi (argv := [.int (w5.1 0 17), .int x2, .int x4, .int (w5.1 0 20)]) (rest := []) dX12_doOne_44 (kX12_eight (w5.1 0 17) x2 x4 (w5.1 0 20) w5) mkX12_eight tw2310 rfl rfl rfl rfl rfl rfl (fun x6 w7 => ?_)
    refine xj_istore (lv2 := [(5, .int x6), (4, .int x4), (3, .int x2), (2, .int ((w.1 0 34) + (w.1 0 30))), (1, .int ((w.1 0 34) + (w.1 0 30))), (0, .ref 0)]) dX12_doOne_47 (Nat.le_of_ble_eq_true rfl) rfl ?_
    refine xj_aloadn 5 dX12_doOne_49 rfl rfl ?_
    refine gfX12_70 (v := (w7.1 0 17)) dX12_doOne_50 rfl rfl ?_
    refine xj_bipush (v := 7) dX12_doOne_53 cb_7 ?_
    refine xj_ieq (tgt := 64) dX12_doOne_55 rfl ?_ ?_
    · refine xj_sub (lv2 := [(0, .ref 0), (2, .int ((w.1 0 34) + (w.1 0 30)))]) [5, 3] rfl ?_
      exact tX12_doOne_j64 _ _
    · refine xj_aloadn 5 dX12_doOne_58 rfl rfl ?_
      refine xj_iload 0 dX12_doOne_59 rfl ?_
      refine xj_cVv (argv := [.int x6]) (rest := []) dX12_doOne_61 (kX12_setFirst x6 w7) mkX12_setFirst tw2332 rfl rfl rfl rfl rfl rfl (fun _ w8 => ?_)
      refine xj_sub (lv2 := [(0, .ref 0), (2, .int ((w.1 0 34) + (w.1 0 30)))]) [5, 3] rfl ?_
      exact tX12_doOne_j64 _ _
theorem kX12_doOne (w : xW) : xMet jV mX12_doOne lM (0, 0) [.ref 0] w (sX12_doOne w) := xj_met lM_ok (by decide) (Nat.le_of_ble_eq_true rfl) (Nat.zero_le _) (Nat.zero_le _) (tX12_doOne w)
