/-! the reference, method by method: 6 -/
set_option maxRecDepth 20000 in
def sX12_run_j152 (K75 : Int32 → Int32 → Int32 → xW → Option (Int32 × xW)) (a1 : Int32) (b0 : Int32) (b1 : Int32) (w : xW) : Option (Int32 × xW) :=
  K75 a1 (b1 + b0) (0 : Int32) w
set_option maxRecDepth 20000 in
theorem tX12_run_j152 (K75 : Int32 → Int32 → Int32 → xW → Option (Int32 × xW)) (hK75 : ∀ (a1 : Int32) (a2 : Int32) (a3 : Int32) (w : xW), xJ ιI mX12_run lM (0, 0) 75 [(0, .ref 0), (1, .int a1), (2, .int a2), (3, .int a3)] [] w (K75 a1 a2 a3 w)) (a1 : Int32) (b0 : Int32) (b1 : Int32) (w : xW) : xJ ιI mX12_run lM (0, 0) 152 [(0, .ref 0), (1, .int a1)] [.int b0, .int b1] w (sX12_run_j152 K75 a1 b0 b1 w) := by
  unfold sX12_run_j152
  refine xj_iadd dX12_run_152 ?_
  refine xj_istoren (lv2 := [(2, .int (b1 + b0)), (0, .ref 0), (1, .int a1)]) dX12_run_153 rfl (Nat.le_of_ble_eq_true rfl) rfl ?_
  refine xj_iconst (v := 0) dX12_run_154 ci_0 ?_
  refine xj_istoren (lv2 := [(3, .int (0 : Int32)), (2, .int (b1 + b0)), (0, .ref 0), (1, .int a1)]) dX12_run_155 rfl (Nat.le_of_ble_eq_true rfl) rfl ?_
  refine xj_goto (tgt := 75) dX12_run_156 rfl ?_
  refine xj_sub (lv2 := [(0, .ref 0), (1, .int a1), (2, .int (b1 + b0)), (3, .int (0 : Int32))]) [2, 3, 1, 0] rfl ?_
  exact hK75 _ _ _ _
set_option maxRecDepth 20000 in
def sX12_run_j139 (K75 : Int32 → Int32 → Int32 → xW → Option (Int32 × xW)) (a1 : Int32) (a2 : Int32) (w : xW) : Option (Int32 × xW) :=
  xbd (sX12_step w) (fun x1 w2 => (if x1 = 0 then sX12_run_j152 K75 a1 (0 : Int32) a2 w2 else sX12_run_j152 K75 a1 (1 : Int32) a2 w2))
set_option maxRecDepth 20000 in
theorem tX12_run_j139 (K75 : Int32 → Int32 → Int32 → xW → Option (Int32 × xW)) (hK75 : ∀ (a1 : Int32) (a2 : Int32) (a3 : Int32) (w : xW), xJ ιI mX12_run lM (0, 0) 75 [(0, .ref 0), (1, .int a1), (2, .int a2), (3, .int a3)] [] w (K75 a1 a2 a3 w)) (a1 : Int32) (a2 : Int32) (w : xW) : xJ ιI mX12_run lM (0, 0) 139 [(0, .ref 0), (1, .int a1), (2, .int a2)] [] w (sX12_run_j139 K75 a1 a2 w) := by
  unfold sX12_run_j139
  refine xj_iloadn 2 dX12_run_139 rfl rfl ?_
  refine xj_aloadn 0 dX12_run_140 rfl rfl ?_
  refine xj_cVi (argv := []) (rest := [.int a2]) dX12_run_141 (kX12_step w) mkX12_step tw2273 rfl rfl rfl rfl rfl rfl (fun x1 w2 => ?_)
  refine xj_ifeq (tgt := 151) dX12_run_144 rfl ?_ ?_
  · refine xj_iconst (v := 0) dX12_run_151 ci_0 ?_
    refine xj_sub (lv2 := [(0, .ref 0), (1, .int a1)]) [0, 1] rfl ?_
    exact tX12_run_j152 K75 hK75 _ _ _ _
  · refine xj_iconst (v := 1) dX12_run_147 ci_1 ?_
    refine xj_goto (tgt := 152) dX12_run_148 rfl ?_
    refine xj_sub (lv2 := [(0, .ref 0), (1, .int a1)]) [0, 1] rfl ?_
    exact tX12_run_j152 K75 hK75 _ _ _ _
set_option maxRecDepth 20000 in
def sX12_run_l75 : Nat → Int32 → Int32 → Int32 → xW → Option (Int32 × xW)
  | 0, _, _, _, _ => none
  | n + 1, a1, a2, a3, w =>
  (if a2 < a1 then (if (w.1 0 33) = (1 : Int32) then xlet (((w.1 0 34).toInt64 &&& (4294967295 : Int64)) - (4096 : Int64)) (fun x1 => (if a3 = 0 then xbd (sX12_isIn x1 (0 : Int64) (2047 : Int64) w) (fun x2 w3 => (if x2 = 0 then sX12_run_j139 (sX12_run_l75 n) a1 a2 w3 else (if xin x1.toInt32 2048 then (if (w3.1 7 x1.toInt32.toNatClampNeg) = 0 then sX12_run_j139 (sX12_run_l75 n) a1 a2 w3 else (sX12_run_l75 n) a1 a2 (0 : Int32) (xwi w3 0 33 (8 : Int32))) else none))) else sX12_run_j139 (sX12_run_l75 n) a1 a2 w)) else some (a2, w)) else some (a2, w))
set_option maxRecDepth 20000 in
theorem tX12_run_l75 : ∀ (n : Nat) (a1 : Int32) (a2 : Int32) (a3 : Int32) (w : xW), xJ ιI mX12_run lM (0, 0) 75 [(0, .ref 0), (1, .int a1), (2, .int a2), (3, .int a3)] [] w (sX12_run_l75 n a1 a2 a3 w) := by
  intro n
  induction n with
  | zero => intros; exact xj_none
  | succ n ih =>
    intro a1 a2 a3 w
    rw [sX12_run_l75]
    refine xj_iloadn 2 dX12_run_75 rfl rfl ?_
    refine xj_iloadn 1 dX12_run_76 rfl rfl ?_
    refine xj_ige (tgt := 159) dX12_run_77 rfl ?_ ?_
    · refine xj_aloadn 0 dX12_run_80 rfl rfl ?_
      refine gfX12_395 (v := (w.1 0 33)) dX12_run_81 rfl rfl ?_
      refine xj_iconst (v := 1) dX12_run_84 ci_1 ?_
      refine xj_ine (tgt := 159) dX12_run_85 rfl ?_ ?_
      · refine xj_aloadn 0 dX12_run_88 rfl rfl ?_
        refine gfX12_40 (v := (w.1 0 34)) dX12_run_89 rfl rfl ?_
        refine xj_i2l dX12_run_92 ?_
        refine xj_ldc2 (v := 4294967295) tw2157 dX12_run_93 ?_
        refine xj_land dX12_run_96 ?_
        refine xj_ldc2 (v := 4096) tw2160 dX12_run_97 ?_
        refine xj_lsub dX12_run_100 ?_
        refine xj_letl (fun x1 => ?_)
        refine xj_lstore (lv2 := [(4, .long x1), (0, .ref 0), (1, .int a1), (2, .int a2), (3, .int a3)]) dX12_run_101 (Nat.le_of_ble_eq_true rfl) rfl ?_
        refine xj_iloadn 4 dX12_run_103 rfl rfl ?_
        refine xj_ifne (tgt := 139) dX12_run_104 rfl ?_ ?_
        · refine xj_lload 0 dX12_run_107 rfl ?_
          refine xj_lconst (v := 0) dX12_run_109 cl_0 ?_
          refine xj_ldc2 (v := 2047) tw2149 dX12_run_110 ?_
          refine xj_cSi (argv := [.long x1, .long (0 : Int64), .long (2047 : Int64)]) (rest := []) dX12_run_113 (kX12_isIn x1 (0 : Int64) (2047 : Int64) w) mkX12_isIn tw2150 rfl rfl rfl rfl (fun x2 w3 => ?_)
          refine xj_ifeq (tgt := 139) dX12_run_116 rfl ?_ ?_
          · refine xj_sub (lv2 := [(0, .ref 0), (1, .int a1), (2, .int a2)]) [1, 2, 3] rfl ?_
            exact tX12_run_j139 (sX12_run_l75 n) ih _ _ _
          · refine xj_aloadn 1 dX12_run_119 rfl rfl ?_
            refine gfX12_33 dX12_run_120 rfl ?_
            refine xj_lload 0 dX12_run_123 rfl ?_
            refine xj_l2i dX12_run_125 ?_
            refine xj_zald (k := 7) dX12_run_126 rfl ?_
            refine xj_ifeq (tgt := 139) dX12_run_127 rfl ?_ ?_
            · refine xj_sub (lv2 := [(0, .ref 0), (1, .int a1), (2, .int a2)]) [1, 2, 3] rfl ?_
              exact tX12_run_j139 (sX12_run_l75 n) ih _ _ _
            · refine xj_aloadn 1 dX12_run_130 rfl rfl ?_
              refine xj_bipush (v := 8) dX12_run_131 cb_8 ?_
              refine pfX12_395 dX12_run_133 rfl ?_
              refine xj_goto (tgt := 154) dX12_run_136 rfl ?_
              refine xj_iconst (v := 0) dX12_run_154 ci_0 ?_
              refine xj_istoren (lv2 := [(3, .int (0 : Int32)), (4, .long x1), (0, .ref 0), (1, .int a1), (2, .int a2)]) dX12_run_155 rfl (Nat.le_of_ble_eq_true rfl) rfl ?_
              refine xj_goto (tgt := 75) dX12_run_156 rfl ?_
              refine xj_sub (lv2 := [(0, .ref 0), (1, .int a1), (2, .int a2), (3, .int (0 : Int32))]) [2, 3, 4, 0] rfl ?_
              exact ih _ _ _ _
        · refine xj_sub (lv2 := [(0, .ref 0), (1, .int a1), (2, .int a2)]) [1, 2, 3] rfl ?_
          exact tX12_run_j139 (sX12_run_l75 n) ih _ _ _
      · refine xj_iloadn 2 dX12_run_159 rfl rfl ?_
        exact xj_ri dX12_run_160 rfl
    · refine xj_iloadn 2 dX12_run_159 rfl rfl ?_
      exact xj_ri dX12_run_160 rfl
set_option maxRecDepth 20000 in
def sX12_run_j68 (a1 : Int32) (b0 : Int32) (w : xW) : Option (Int32 × xW) :=
  sX12_run_l75 70000 a1 (0 : Int32) (1 : Int32) (xwi w 0 33 b0)
set_option maxRecDepth 20000 in
theorem tX12_run_j68 (a1 : Int32) (b0 : Int32) (w : xW) : xJ ιI mX12_run lM (0, 0) 68 [(0, .ref 0), (1, .int a1)] [.int b0, .ref 0] w (sX12_run_j68 a1 b0 w) := by
  unfold sX12_run_j68
  refine pfX12_395 dX12_run_68 rfl ?_
  refine xj_iconst (v := 0) dX12_run_71 ci_0 ?_
  refine xj_istoren (lv2 := [(2, .int (0 : Int32)), (0, .ref 0), (1, .int a1)]) dX12_run_72 rfl (Nat.le_of_ble_eq_true rfl) rfl ?_
  refine xj_iconst (v := 1) dX12_run_73 ci_1 ?_
  refine xj_istoren (lv2 := [(3, .int (1 : Int32)), (2, .int (0 : Int32)), (0, .ref 0), (1, .int a1)]) dX12_run_74 rfl (Nat.le_of_ble_eq_true rfl) rfl ?_
  refine xj_sub (lv2 := [(0, .ref 0), (1, .int a1), (2, .int (0 : Int32)), (3, .int (1 : Int32))]) [2, 3, 1, 0] rfl ?_
  exact tX12_run_l75 _ _ _ _ _
set_option maxRecDepth 20000 in
def sX12_run_j60 (a1 : Int32) (w : xW) : Option (Int32 × xW) :=
  sX12_run_j68 a1 (1 : Int32) w
set_option maxRecDepth 20000 in
theorem tX12_run_j60 (a1 : Int32) (w : xW) : xJ ιI mX12_run lM (0, 0) 60 [(0, .ref 0), (1, .int a1)] [.ref 0] w (sX12_run_j60 a1 w) := by
  unfold sX12_run_j60
  refine xj_iconst (v := 1) dX12_run_60 ci_1 ?_
  refine xj_goto (tgt := 68) dX12_run_61 rfl ?_
  exact tX12_run_j68 _ _ _
set_option maxRecDepth 20000 in
def sX12_run_j29 (a1 : Int32) (b0 : Int32) (w : xW) : Option (Int32 × xW) :=
  (if 0 < b0 then some ((0 : Int32), (xwi w 0 0 b0)) else (if (w.1 0 33) = (7 : Int32) then sX12_run_j60 a1 (xwi w 0 0 b0) else (if (w.1 0 33) = (8 : Int32) then sX12_run_j60 a1 (xwi w 0 0 b0) else sX12_run_j68 a1 (w.1 0 33) (xwi w 0 0 b0))))
set_option maxRecDepth 20000 in
theorem tX12_run_j29 (a1 : Int32) (b0 : Int32) (w : xW) : xJ ιI mX12_run lM (0, 0) 29 [(0, .ref 0), (1, .int a1)] [.int b0, .ref 0] w (sX12_run_j29 a1 b0 w) := by
  unfold sX12_run_j29
  refine pfX12_53 dX12_run_29 rfl ?_
  refine xj_aloadn 0 dX12_run_32 rfl rfl ?_
  refine gfX12_53 (v := b0) dX12_run_33 rfl rfl ?_
  refine xj_ifle (tgt := 41) dX12_run_36 rfl ?_ ?_
  · refine xj_iconst (v := 0) dX12_run_39 ci_0 ?_
    exact xj_ri dX12_run_40 rfl
  · refine xj_aloadn 0 dX12_run_41 rfl rfl ?_
    refine xj_aloadn 0 dX12_run_42 rfl rfl ?_
    refine gfX12_395 (v := (w.1 0 33)) dX12_run_43 rfl rfl ?_
    refine xj_bipush (v := 7) dX12_run_46 cb_7 ?_
    refine xj_ieq (tgt := 60) dX12_run_48 rfl ?_ ?_
    · exact tX12_run_j60 _ _
    · refine xj_aloadn 0 dX12_run_51 rfl rfl ?_
      refine gfX12_395 (v := (w.1 0 33)) dX12_run_52 rfl rfl ?_
      refine xj_bipush (v := 8) dX12_run_55 cb_8 ?_
      refine xj_ine (tgt := 64) dX12_run_57 rfl ?_ ?_
      · exact tX12_run_j60 _ _
      · refine xj_aloadn 0 dX12_run_64 rfl rfl ?_
        refine gfX12_395 (v := (w.1 0 33)) dX12_run_65 rfl rfl ?_
        exact tX12_run_j68 _ _ _
set_option maxRecDepth 20000 in
def sX12_run (p1 : Int32) (w : xW) : Option (Int32 × xW) :=
  xbd (sX12_isIn p1.toInt64 (0 : Int64) (10000 : Int64) w) (fun x1 w2 => (if x1 = 0 then sX12_run_j29 p1 (1 : Int32) w2 else (if (w2.1 0 33) = 0 then sX12_run_j29 p1 (2 : Int32) w2 else sX12_run_j29 p1 (0 : Int32) w2)))
set_option maxRecDepth 20000 in
theorem tX12_run (p1 : Int32) (w : xW) : xJ ιI mX12_run lM (0, 0) 0 [(0, .ref 0), (1, .int p1)] [] w (sX12_run p1 w) := by
  unfold sX12_run
  refine xj_aloadn 0 dX12_run_0 rfl rfl ?_
  refine xj_iloadn 1 dX12_run_1 rfl rfl ?_
  refine xj_i2l dX12_run_2 ?_
  refine xj_lconst (v := 0) dX12_run_3 cl_0 ?_
  refine xj_ldc2 (v := 10000) tw2272 dX12_run_4 ?_
  refine xj_cSi (argv := [.long p1.toInt64, .long (0 : Int64), .long (10000 : Int64)]) (rest := [.ref 0]) dX12_run_7 (kX12_isIn p1.toInt64 (0 : Int64) (10000 : Int64) w) mkX12_isIn tw2150 rfl rfl rfl rfl (fun x1 w2 => ?_)
  refine xj_ifne (tgt := 17) dX12_run_10 rfl ?_ ?_
  · refine xj_iconst (v := 1) dX12_run_13 ci_1 ?_
    refine xj_goto (tgt := 29) dX12_run_14 rfl ?_
    exact tX12_run_j29 _ _ _
  · refine xj_aloadn 0 dX12_run_17 rfl rfl ?_
    refine gfX12_395 (v := (w2.1 0 33)) dX12_run_18 rfl rfl ?_
    refine xj_ifne (tgt := 28) dX12_run_21 rfl ?_ ?_
    · refine xj_iconst (v := 2) dX12_run_24 ci_2 ?_
      refine xj_goto (tgt := 29) dX12_run_25 rfl ?_
      exact tX12_run_j29 _ _ _
    · refine xj_iconst (v := 0) dX12_run_28 ci_0 ?_
      exact tX12_run_j29 _ _ _
theorem kX12_run (p1 : Int32) (w : xW) : xMet jI mX12_run lM (0, 0) [.ref 0, .int p1] w (sX12_run p1 w) := xj_met lM_ok (by decide) (Nat.le_of_ble_eq_true rfl) (Nat.zero_le _) (Nat.zero_le _) (tX12_run p1 w)
set_option maxRecDepth 20000 in
def sX12_stop_j18 (a1 : Int32) (a2 : Int32) (b0 : Int32) (w : xW) : Option (Int32 × xW) :=
  (if 0 < b0 then some ((0 : Int32), (xwi w 0 0 b0)) else (if xin a1 2048 then (if xin a1 2048 ∧ xz a2 then (if xz (w.1 7 a1.toNatClampNeg) then some ((w.1 7 a1.toNatClampNeg), (xwi (xwi w 0 0 b0) 7 a1.toNatClampNeg a2)) else none) else none) else none))
set_option maxRecDepth 20000 in
theorem tX12_stop_j18 (a1 : Int32) (a2 : Int32) (b0 : Int32) (w : xW) : xJ ιI mX12_stop lM (0, 0) 18 [(0, .ref 0), (1, .int a1), (2, .int a2)] [.int b0, .ref 0] w (sX12_stop_j18 a1 a2 b0 w) := by
  unfold sX12_stop_j18
  refine pfX12_53 dX12_stop_18 rfl ?_
  refine xj_aloadn 0 dX12_stop_21 rfl rfl ?_
  refine gfX12_53 (v := b0) dX12_stop_22 rfl rfl ?_
  refine xj_ifle (tgt := 30) dX12_stop_25 rfl ?_ ?_
  · refine xj_iconst (v := 0) dX12_stop_28 ci_0 ?_
    exact xj_rz dX12_stop_29 rfl (Or.inl rfl)
  · refine xj_aloadn 0 dX12_stop_30 rfl rfl ?_
    refine gfX12_33 dX12_stop_31 rfl ?_
    refine xj_iloadn 1 dX12_stop_34 rfl rfl ?_
    refine xj_zald (k := 7) dX12_stop_35 rfl ?_
    refine xj_istoren (lv2 := [(3, .int (w.1 7 a1.toNatClampNeg)), (0, .ref 0), (1, .int a1), (2, .int a2)]) dX12_stop_36 rfl (Nat.le_of_ble_eq_true rfl) rfl ?_
    refine xj_aloadn 1 dX12_stop_37 rfl rfl ?_
    refine gfX12_33 dX12_stop_38 rfl ?_
    refine xj_iloadn 2 dX12_stop_41 rfl rfl ?_
    refine xj_iloadn 3 dX12_stop_42 rfl rfl ?_
    refine xj_zast (k := 7) dX12_stop_43 rfl ?_
    refine xj_iloadn 0 dX12_stop_44 rfl rfl ?_
    exact xj_guard (fun h => xj_rz dX12_stop_45 rfl h)
set_option maxRecDepth 20000 in
def sX12_stop (p1 : Int32) (p2 : Int32) (w : xW) : Option (Int32 × xW) :=
  xbd (sX12_isIn p1.toInt64 (0 : Int64) (2047 : Int64) w) (fun x1 w2 => (if x1 = 0 then sX12_stop_j18 p1 p2 (1 : Int32) w2 else sX12_stop_j18 p1 p2 (0 : Int32) w2))
set_option maxRecDepth 20000 in
theorem tX12_stop (p1 : Int32) (p2 : Int32) (w : xW) : xJ ιI mX12_stop lM (0, 0) 0 [(0, .ref 0), (1, .int p1), (2, .int p2)] [] w (sX12_stop p1 p2 w) := by
  unfold sX12_stop
  refine xj_aloadn 0 dX12_stop_0 rfl rfl ?_
  refine xj_iloadn 1 dX12_stop_1 rfl rfl ?_
  refine xj_i2l dX12_stop_2 ?_
  refine xj_lconst (v := 0) dX12_stop_3 cl_0 ?_
  refine xj_ldc2 (v := 2047) tw2149 dX12_stop_4 ?_
  refine xj_cSi (argv := [.long p1.toInt64, .long (0 : Int64), .long (2047 : Int64)]) (rest := [.ref 0]) dX12_stop_7 (kX12_isIn p1.toInt64 (0 : Int64) (2047 : Int64) w) mkX12_isIn tw2150 rfl rfl rfl rfl (fun x1 w2 => ?_)
  refine xj_ifeq (tgt := 17) dX12_stop_10 rfl ?_ ?_
  · refine xj_iconst (v := 1) dX12_stop_17 ci_1 ?_
    exact tX12_stop_j18 _ _ _ _
  · refine xj_iconst (v := 0) dX12_stop_13 ci_0 ?_
    refine xj_goto (tgt := 18) dX12_stop_14 rfl ?_
    exact tX12_stop_j18 _ _ _ _
theorem kX12_stop (p1 : Int32) (p2 : Int32) (w : xW) : xMet jI mX12_stop lM (0, 0) [.ref 0, .int p1, .int p2] w (sX12_stop p1 p2 w) := xj_met lM_ok (by decide) (Nat.le_of_ble_eq_true rfl) (Nat.zero_le _) (Nat.zero_le _) (tX12_stop p1 p2 w)
set_option maxRecDepth 20000 in
def sX12_told_j160 (b0 : Int32) (b1 : Int32) (w : xW) : Option (Int32 × xW) :=
  (if (w.1 0 40) = 0 then some (((b1 + b0) + (0 : Int32)), w) else some (((b1 + b0) + (2048 : Int32)), w))
set_option maxRecDepth 20000 in
theorem tX12_told_j160 (b0 : Int32) (b1 : Int32) (w : xW) : xJ ιI mX12_told lM (0, 0) 160 [(0, .ref 0)] [.int b0, .int b1] w (sX12_told_j160 b0 b1 w) := by
  unfold sX12_told_j160
  refine xj_iadd dX12_told_160 ?_
  refine xj_aloadn 0 dX12_told_161 rfl rfl ?_
  refine gfX12_323 (v := (w.1 0 40)) dX12_told_162 rfl rfl ?_
  refine xj_ifeq (tgt := 174) dX12_told_165 rfl ?_ ?_
  · refine xj_iconst (v := 0) dX12_told_174 ci_0 ?_
    refine xj_iadd dX12_told_175 ?_
    exact xj_ri dX12_told_176 rfl
  · refine xj_sipush (v := 2048) dX12_told_168 cs_2048 ?_
    refine xj_goto (tgt := 175) dX12_told_171 rfl ?_
    refine xj_iadd dX12_told_175 ?_
    exact xj_ri dX12_told_176 rfl
set_option maxRecDepth 20000 in
def sX12_told_j145 (b0 : Int32) (b1 : Int32) (w : xW) : Option (Int32 × xW) :=
  (if (w.1 0 39) = 0 then sX12_told_j160 (0 : Int32) (b1 + b0) w else sX12_told_j160 (128 : Int32) (b1 + b0) w)
set_option maxRecDepth 20000 in
theorem tX12_told_j145 (b0 : Int32) (b1 : Int32) (w : xW) : xJ ιI mX12_told lM (0, 0) 145 [(0, .ref 0)] [.int b0, .int b1] w (sX12_told_j145 b0 b1 w) := by
  unfold sX12_told_j145
  refine xj_iadd dX12_told_145 ?_
  refine xj_aloadn 0 dX12_told_146 rfl rfl ?_
  refine gfX12_314 (v := (w.1 0 39)) dX12_told_147 rfl rfl ?_
  refine xj_ifeq (tgt := 159) dX12_told_150 rfl ?_ ?_
  · refine xj_iconst (v := 0) dX12_told_159 ci_0 ?_
    exact tX12_told_j160 _ _ _
  · refine xj_sipush (v := 128) dX12_told_153 cs_128 ?_
    refine xj_goto (tgt := 160) dX12_told_156 rfl ?_
    exact tX12_told_j160 _ _ _
set_option maxRecDepth 20000 in
def sX12_told_j131 (b0 : Int32) (b1 : Int32) (w : xW) : Option (Int32 × xW) :=
  (if (w.1 0 38) = 0 then sX12_told_j145 (0 : Int32) (b1 + b0) w else sX12_told_j145 (64 : Int32) (b1 + b0) w)
set_option maxRecDepth 20000 in
theorem tX12_told_j131 (b0 : Int32) (b1 : Int32) (w : xW) : xJ ιI mX12_told lM (0, 0) 131 [(0, .ref 0)] [.int b0, .int b1] w (sX12_told_j131 b0 b1 w) := by
  unfold sX12_told_j131
  refine xj_iadd dX12_told_131 ?_
  refine xj_aloadn 0 dX12_told_132 rfl rfl ?_
  refine gfX12_307 (v := (w.1 0 38)) dX12_told_133 rfl rfl ?_
  refine xj_ifeq (tgt := 144) dX12_told_136 rfl ?_ ?_
  · refine xj_iconst (v := 0) dX12_told_144 ci_0 ?_
    exact tX12_told_j145 _ _ _
  · refine xj_bipush (v := 64) dX12_told_139 cb_64 ?_
    refine xj_goto (tgt := 145) dX12_told_141 rfl ?_
    exact tX12_told_j145 _ _ _
set_option maxRecDepth 20000 in
def sX12_told_j119 (b0 : Int32) (w : xW) : Option (Int32 × xW) :=
  (if (w.1 0 37) = 0 then sX12_told_j131 (0 : Int32) b0 w else sX12_told_j131 (4 : Int32) b0 w)
set_option maxRecDepth 20000 in
theorem tX12_told_j119 (b0 : Int32) (w : xW) : xJ ιI mX12_told lM (0, 0) 119 [(0, .ref 0)] [.int b0] w (sX12_told_j119 b0 w) := by
  unfold sX12_told_j119
  refine xj_aloadn 0 dX12_told_119 rfl rfl ?_
  refine gfX12_317 (v := (w.1 0 37)) dX12_told_120 rfl rfl ?_
  refine xj_ifeq (tgt := 130) dX12_told_123 rfl ?_ ?_
  · refine xj_iconst (v := 0) dX12_told_130 ci_0 ?_
    exact tX12_told_j131 _ _ _
  · refine xj_iconst (v := 4) dX12_told_126 ci_4 ?_
    refine xj_goto (tgt := 131) dX12_told_127 rfl ?_
    exact tX12_told_j131 _ _ _
set_option maxRecDepth 20000 in
def sX12_told_j18 (a1 : Int32) (b0 : Int32) (w : xW) : Option (Int32 × xW) :=
  (if 0 < b0 then some ((0 : Int32), (xwi w 0 0 b0)) else xsw a1 (0) [some ((w.1 0 33), (xwi w 0 0 b0)), some ((w.1 0 34), (xwi w 0 0 b0)), some ((w.1 0 41), (xwi w 0 0 b0)), some ((w.1 0 8), (xwi w 0 0 b0)), some ((w.1 0 6), (xwi w 0 0 b0)), some ((w.1 0 42), (xwi w 0 0 b0)), some ((w.1 0 43), (xwi w 0 0 b0))] ((if (w.1 0 36) = 0 then sX12_told_j119 (0 : Int32) (xwi w 0 0 b0) else sX12_told_j119 (1 : Int32) (xwi w 0 0 b0))))
set_option maxRecDepth 20000 in
theorem tX12_told_j18 (a1 : Int32) (b0 : Int32) (w : xW) : xJ ιI mX12_told lM (0, 0) 18 [(0, .ref 0), (1, .int a1)] [.int b0, .ref 0] w (sX12_told_j18 a1 b0 w) := by
  unfold sX12_told_j18
  refine pfX12_53 dX12_told_18 rfl ?_
  refine xj_aloadn 0 dX12_told_21 rfl rfl ?_
  refine gfX12_53 (v := b0) dX12_told_22 rfl rfl ?_
  refine xj_ifle (tgt := 30) dX12_told_25 rfl ?_ ?_
  · refine xj_iconst (v := 0) dX12_told_28 ci_0 ?_
    exact xj_ri dX12_told_29 rfl
  · refine xj_iloadn 1 dX12_told_30 rfl rfl ?_
    refine xj_tsw (tgtd := 107) [72, 77, 82, 87, 92, 97, 102] dX12_told_31 rfl rfl rfl rfl ?_ ⟨?_, ?_, ?_, ?_, ?_, ?_, ?_, trivial⟩
    · refine xj_aloadn 0 dX12_told_107 rfl rfl ?_
      refine gfX12_320 (v := (w.1 0 36)) dX12_told_108 rfl rfl ?_
      refine xj_ifeq (tgt := 118) dX12_told_111 rfl ?_ ?_
      · refine xj_iconst (v := 0) dX12_told_118 ci_0 ?_
        refine xj_sub (lv2 := [(0, .ref 0)]) [0] rfl ?_
        exact tX12_told_j119 _ _
      · refine xj_iconst (v := 1) dX12_told_114 ci_1 ?_
        refine xj_goto (tgt := 119) dX12_told_115 rfl ?_
        refine xj_sub (lv2 := [(0, .ref 0)]) [0] rfl ?_
        exact tX12_told_j119 _ _
    · refine xj_aloadn 0 dX12_told_72 rfl rfl ?_
      refine gfX12_395 (v := (w.1 0 33)) dX12_told_73 rfl rfl ?_
      exact xj_ri dX12_told_76 rfl
    · refine xj_aloadn 0 dX12_told_77 rfl rfl ?_
      refine gfX12_40 (v := (w.1 0 34)) dX12_told_78 rfl rfl ?_
      exact xj_ri dX12_told_81 rfl
    · refine xj_aloadn 0 dX12_told_82 rfl rfl ?_
      refine gfX12_392 (v := (w.1 0 41)) dX12_told_83 rfl rfl ?_
      exact xj_ri dX12_told_86 rfl
    · refine xj_aloadn 0 dX12_told_87 rfl rfl ?_
      refine gfX12_398 (v := (w.1 0 8)) dX12_told_88 rfl rfl ?_
      exact xj_ri dX12_told_91 rfl
    · refine xj_aloadn 0 dX12_told_92 rfl rfl ?_
      refine gfX12_401 (v := (w.1 0 6)) dX12_told_93 rfl rfl ?_
      exact xj_ri dX12_told_96 rfl
    · refine xj_aloadn 0 dX12_told_97 rfl rfl ?_
      refine gfX12_47 (v := (w.1 0 42)) dX12_told_98 rfl rfl ?_
      exact xj_ri dX12_told_101 rfl
    · refine xj_aloadn 0 dX12_told_102 rfl rfl ?_
      refine gfX12_411 (v := (w.1 0 43)) dX12_told_103 rfl rfl ?_
      exact xj_ri dX12_told_106 rfl
set_option maxRecDepth 20000 in
def sX12_told (p1 : Int32) (w : xW) : Option (Int32 × xW) :=
  xbd (sX12_isIn p1.toInt64 (0 : Int64) (7 : Int64) w) (fun x1 w2 => (if x1 = 0 then sX12_told_j18 p1 (1 : Int32) w2 else sX12_told_j18 p1 (0 : Int32) w2))
set_option maxRecDepth 20000 in
theorem tX12_told (p1 : Int32) (w : xW) : xJ ιI mX12_told lM (0, 0) 0 [(0, .ref 0), (1, .int p1)] [] w (sX12_told p1 w) := by
  unfold sX12_told
  refine xj_aloadn 0 dX12_told_0 rfl rfl ?_
  refine xj_iloadn 1 dX12_told_1 rfl rfl ?_
  refine xj_i2l dX12_told_2 ?_
  refine xj_lconst (v := 0) dX12_told_3 cl_0 ?_
  refine xj_ldc2 (v := 7) tw2224 dX12_told_4 ?_
  refine xj_cSi (argv := [.long p1.toInt64, .long (0 : Int64), .long (7 : Int64)]) (rest := [.ref 0]) dX12_told_7 (kX12_isIn p1.toInt64 (0 : Int64) (7 : Int64) w) mkX12_isIn tw2150 rfl rfl rfl rfl (fun x1 w2 => ?_)
  refine xj_ifeq (tgt := 17) dX12_told_10 rfl ?_ ?_
  · refine xj_iconst (v := 1) dX12_told_17 ci_1 ?_
    exact tX12_told_j18 _ _ _
  · refine xj_iconst (v := 0) dX12_told_13 ci_0 ?_
    refine xj_goto (tgt := 18) dX12_told_14 rfl ?_
    exact tX12_told_j18 _ _ _
theorem kX12_told (p1 : Int32) (w : xW) : xMet jI mX12_told lM (0, 0) [.ref 0, .int p1] w (sX12_told p1 w) := xj_met lM_ok (by decide) (Nat.le_of_ble_eq_true rfl) (Nat.zero_le _) (Nat.zero_le _) (tX12_told p1 w)
set_option maxRecDepth 20000 in
def sX12_steps (w : xW) : Option (Int64 × xW) :=
  some ((w.2 0 44), (xwi w 0 0 (0 : Int32)))
set_option maxRecDepth 20000 in
theorem tX12_steps (w : xW) : xJ ιL mX12_steps lM (0, 0) 0 [(0, .ref 0)] [] w (sX12_steps w) := by
  unfold sX12_steps
  refine xj_aloadn 0 dX12_steps_0 rfl rfl ?_
  refine xj_iconst (v := 0) dX12_steps_1 ci_0 ?_
  refine pfX12_53 dX12_steps_2 rfl ?_
  refine xj_aloadn 0 dX12_steps_5 rfl rfl ?_
  refine gfX12_407 (v := (w.2 0 44)) dX12_steps_6 rfl rfl ?_
  exact xj_rl dX12_steps_9 rfl
theorem kX12_steps (w : xW) : xMet jL mX12_steps lM (0, 0) [.ref 0] w (sX12_steps w) := xj_met lM_ok (by decide) (Nat.le_of_ble_eq_true rfl) (Nat.zero_le _) (Nat.zero_le _) (tX12_steps w)
set_option maxRecDepth 20000 in
def sX12_register_j18 (a1 : Int32) (b0 : Int32) (w : xW) : Option (Int32 × xW) :=
  (if 0 < b0 then some ((0 : Int32), (xwi w 0 0 b0)) else (if xin a1 8 then some ((w.1 9 a1.toNatClampNeg), (xwi w 0 0 b0)) else none))
set_option maxRecDepth 20000 in
theorem tX12_register_j18 (a1 : Int32) (b0 : Int32) (w : xW) : xJ ιI mX12_register lM (0, 0) 18 [(0, .ref 0), (1, .int a1)] [.int b0, .ref 0] w (sX12_register_j18 a1 b0 w) := by
  unfold sX12_register_j18
  refine pfX12_53 dX12_register_18 rfl ?_
  refine xj_aloadn 0 dX12_register_21 rfl rfl ?_
  refine gfX12_53 (v := b0) dX12_register_22 rfl rfl ?_
  refine xj_ifle (tgt := 32) dX12_register_25 rfl ?_ ?_
  · refine xj_iconst (v := 0) dX12_register_28 ci_0 ?_
    refine xj_goto (tgt := 38) dX12_register_29 rfl ?_
    exact xj_ri dX12_register_38 rfl
  · refine xj_aloadn 0 dX12_register_32 rfl rfl ?_
    refine gfX12_44 dX12_register_33 rfl ?_
    refine xj_iloadn 1 dX12_register_36 rfl rfl ?_
    refine xj_iald (k := 9) dX12_register_37 rfl ?_
    exact xj_ri dX12_register_38 rfl
set_option maxRecDepth 20000 in
def sX12_register (p1 : Int32) (w : xW) : Option (Int32 × xW) :=
  xbd (sX12_isIn p1.toInt64 (0 : Int64) (7 : Int64) w) (fun x1 w2 => (if x1 = 0 then sX12_register_j18 p1 (1 : Int32) w2 else sX12_register_j18 p1 (0 : Int32) w2))
set_option maxRecDepth 20000 in
theorem tX12_register (p1 : Int32) (w : xW) : xJ ιI mX12_register lM (0, 0) 0 [(0, .ref 0), (1, .int p1)] [] w (sX12_register p1 w) := by
  unfold sX12_register
  refine xj_aloadn 0 dX12_register_0 rfl rfl ?_
  refine xj_iloadn 1 dX12_register_1 rfl rfl ?_
  refine xj_i2l dX12_register_2 ?_
  refine xj_lconst (v := 0) dX12_register_3 cl_0 ?_
  refine xj_ldc2 (v := 7) tw2224 dX12_register_4 ?_
  refine xj_cSi (argv := [.long p1.toInt64, .long (0 : Int64), .long (7 : Int64)]) (rest := [.ref 0]) dX12_register_7 (kX12_isIn p1.toInt64 (0 : Int64) (7 : Int64) w) mkX12_isIn tw2150 rfl rfl rfl rfl (fun x1 w2 => ?_)
  refine xj_ifeq (tgt := 17) dX12_register_10 rfl ?_ ?_
  · refine xj_iconst (v := 1) dX12_register_17 ci_1 ?_
    exact tX12_register_j18 _ _ _
  · refine xj_iconst (v := 0) dX12_register_13 ci_0 ?_
    refine xj_goto (tgt := 18) dX12_register_14 rfl ?_
    exact tX12_register_j18 _ _ _
theorem kX12_register (p1 : Int32) (w : xW) : xMet jI mX12_register lM (0, 0) [.ref 0, .int p1] w (sX12_register p1 w) := xj_met lM_ok (by decide) (Nat.le_of_ble_eq_true rfl) (Nat.zero_le _) (Nat.zero_le _) (tX12_register p1 w)
set_option maxRecDepth 20000 in
def sX12_put_j29 (a1 : Int32) (a2 : Int32) (b0 : Int32) (w : xW) : Option (Int32 × xW) :=
  (if 0 < b0 then some ((0 : Int32), (xwi w 0 0 b0)) else (if xin a1 8 then (if xin a1 8 then some ((w.1 9 a1.toNatClampNeg), (xwi (xwi w 0 0 b0) 9 a1.toNatClampNeg a2)) else none) else none))
set_option maxRecDepth 20000 in
theorem tX12_put_j29 (a1 : Int32) (a2 : Int32) (b0 : Int32) (w : xW) : xJ ιI mX12_put lM (0, 0) 29 [(0, .ref 0), (1, .int a1), (2, .int a2)] [.int b0, .ref 0] w (sX12_put_j29 a1 a2 b0 w) := by
  unfold sX12_put_j29
  refine pfX12_53 dX12_put_29 rfl ?_
  refine xj_aloadn 0 dX12_put_32 rfl rfl ?_
  refine gfX12_53 (v := b0) dX12_put_33 rfl rfl ?_
  refine xj_ifle (tgt := 41) dX12_put_36 rfl ?_ ?_
  · refine xj_iconst (v := 0) dX12_put_39 ci_0 ?_
    exact xj_ri dX12_put_40 rfl
  · refine xj_aloadn 0 dX12_put_41 rfl rfl ?_
    refine gfX12_44 dX12_put_42 rfl ?_
    refine xj_iloadn 1 dX12_put_45 rfl rfl ?_
    refine xj_iald (k := 9) dX12_put_46 rfl ?_
    refine xj_istoren (lv2 := [(3, .int (w.1 9 a1.toNatClampNeg)), (0, .ref 0), (1, .int a1), (2, .int a2)]) dX12_put_47 rfl (Nat.le_of_ble_eq_true rfl) rfl ?_
    refine xj_aloadn 1 dX12_put_48 rfl rfl ?_
    refine gfX12_44 dX12_put_49 rfl ?_
    refine xj_iloadn 2 dX12_put_52 rfl rfl ?_
    refine xj_iloadn 3 dX12_put_53 rfl rfl ?_
    refine xj_iast (k := 9) dX12_put_54 rfl ?_
    refine xj_iloadn 0 dX12_put_55 rfl rfl ?_
    exact xj_ri dX12_put_56 rfl
set_option maxRecDepth 20000 in
def sX12_put (p1 : Int32) (p2 : Int32) (w : xW) : Option (Int32 × xW) :=
  xbd (sX12_isIn p1.toInt64 (0 : Int64) (7 : Int64) w) (fun x1 w2 => (if x1 = 0 then sX12_put_j29 p1 p2 (1 : Int32) w2 else (if (w2.1 0 33) = 0 then sX12_put_j29 p1 p2 (2 : Int32) w2 else sX12_put_j29 p1 p2 (0 : Int32) w2)))
set_option maxRecDepth 20000 in
theorem tX12_put (p1 : Int32) (p2 : Int32) (w : xW) : xJ ιI mX12_put lM (0, 0) 0 [(0, .ref 0), (1, .int p1), (2, .int p2)] [] w (sX12_put p1 p2 w) := by
  unfold sX12_put
  refine xj_aloadn 0 dX12_put_0 rfl rfl ?_
  refine xj_iloadn 1 dX12_put_1 rfl rfl ?_
  refine xj_i2l dX12_put_2 ?_
  refine xj_lconst (v := 0) dX12_put_3 cl_0 ?_
  refine xj_ldc2 (v := 7) tw2224 dX12_put_4 ?_
  refine xj_cSi (argv := [.long p1.toInt64, .long (0 : Int64), .long (7 : Int64)]) (rest := [.ref 0]) dX12_put_7 (kX12_isIn p1.toInt64 (0 : Int64) (7 : Int64) w) mkX12_isIn tw2150 rfl rfl rfl rfl (fun x1 w2 => ?_)
  refine xj_ifne (tgt := 17) dX12_put_10 rfl ?_ ?_
  · refine xj_iconst (v := 1) dX12_put_13 ci_1 ?_
    refine xj_goto (tgt := 29) dX12_put_14 rfl ?_
    exact tX12_put_j29 _ _ _ _
  · refine xj_aloadn 0 dX12_put_17 rfl rfl ?_
    refine gfX12_395 (v := (w2.1 0 33)) dX12_put_18 rfl rfl ?_
    refine xj_ifne (tgt := 28) dX12_put_21 rfl ?_ ?_
    · refine xj_iconst (v := 2) dX12_put_24 ci_2 ?_
      refine xj_goto (tgt := 29) dX12_put_25 rfl ?_
      exact tX12_put_j29 _ _ _ _
    · refine xj_iconst (v := 0) dX12_put_28 ci_0 ?_
      exact tX12_put_j29 _ _ _ _
theorem kX12_put (p1 : Int32) (p2 : Int32) (w : xW) : xMet jI mX12_put lM (0, 0) [.ref 0, .int p1, .int p2] w (sX12_put p1 p2 w) := xj_met lM_ok (by decide) (Nat.le_of_ble_eq_true rfl) (Nat.zero_le _) (Nat.zero_le _) (tX12_put p1 p2 w)
set_option maxRecDepth 20000 in
def sX12_output (p1 : Int32) (w : xW) : Option (Int32 × xW) :=
  xbd (sX12_isIn p1.toInt64 (0 : Int64) ((w.1 0 8).toInt64 - (1 : Int64)) (xwi w 0 0 (0 : Int32))) (fun x1 w2 => (if x1 = 0 then some ((-1 : Int32), w2) else (if xin p1 1024 then some ((w2.1 4 p1.toNatClampNeg), w2) else none)))
set_option maxRecDepth 20000 in
theorem tX12_output (p1 : Int32) (w : xW) : xJ ιI mX12_output lM (0, 0) 0 [(0, .ref 0), (1, .int p1)] [] w (sX12_output p1 w) := by
  unfold sX12_output
  refine xj_aloadn 0 dX12_output_0 rfl rfl ?_
  refine xj_iconst (v := 0) dX12_output_1 ci_0 ?_
  refine pfX12_53 dX12_output_2 rfl ?_
  refine xj_iloadn 1 dX12_output_5 rfl rfl ?_
  refine xj_i2l dX12_output_6 ?_
  refine xj_lconst (v := 0) dX12_output_7 cl_0 ?_
  refine xj_aloadn 0 dX12_output_8 rfl rfl ?_
  refine gfX12_398 (v := (w.1 0 8)) dX12_output_9 rfl rfl ?_
  refine xj_i2l dX12_output_12 ?_
  refine xj_lconst (v := 1) dX12_output_13 cl_1 ?_
  refine xj_lsub dX12_output_14 ?_
  refine xj_cSi (argv := [.long p1.toInt64, .long (0 : Int64), .long ((w.1 0 8).toInt64 - (1 : Int64))]) (rest := []) dX12_output_15 (kX12_isIn p1.toInt64 (0 : Int64) ((w.1 0 8).toInt64 - (1 : Int64)) (xwi w 0 0 (0 : Int32))) mkX12_isIn tw2150 rfl rfl rfl rfl (fun x1 w2 => ?_)
  refine xj_ifeq (tgt := 30) dX12_output_18 rfl ?_ ?_
  · refine xj_iconst (v := -1) dX12_output_30 ci_m1 ?_
    exact xj_ri dX12_output_31 rfl
  · refine xj_aloadn 0 dX12_output_21 rfl rfl ?_
    refine gfX12_20 dX12_output_22 rfl ?_
    refine xj_iloadn 1 dX12_output_25 rfl rfl ?_
    refine xj_iald (k := 4) dX12_output_26 rfl ?_
    refine xj_goto (tgt := 31) dX12_output_27 rfl ?_
    exact xj_ri dX12_output_31 rfl
theorem kX12_output (p1 : Int32) (w : xW) : xMet jI mX12_output lM (0, 0) [.ref 0, .int p1] w (sX12_output p1 w) := xj_met lM_ok (by decide) (Nat.le_of_ble_eq_true rfl) (Nat.zero_le _) (Nat.zero_le _) (tX12_output p1 w)
set_option maxRecDepth 20000 in
def sX12_passed_j18 (a1 : Int32) (b0 : Int32) (w : xW) : Option (Int32 × xW) :=
  (if 0 < b0 then some ((0 : Int32), (xwi w 0 0 b0)) else (if xin a1 2048 then some ((w.1 6 a1.toNatClampNeg), (xwi w 0 0 b0)) else none))
set_option maxRecDepth 20000 in
theorem tX12_passed_j18 (a1 : Int32) (b0 : Int32) (w : xW) : xJ ιI mX12_passed lM (0, 0) 18 [(0, .ref 0), (1, .int a1)] [.int b0, .ref 0] w (sX12_passed_j18 a1 b0 w) := by
  unfold sX12_passed_j18
  refine pfX12_53 dX12_passed_18 rfl ?_
  refine xj_aloadn 0 dX12_passed_21 rfl rfl ?_
  refine gfX12_53 (v := b0) dX12_passed_22 rfl rfl ?_
  refine xj_ifle (tgt := 32) dX12_passed_25 rfl ?_ ?_
  · refine xj_iconst (v := 0) dX12_passed_28 ci_0 ?_
    refine xj_goto (tgt := 38) dX12_passed_29 rfl ?_
    exact xj_ri dX12_passed_38 rfl
  · refine xj_aloadn 0 dX12_passed_32 rfl rfl ?_
    refine gfX12_30 dX12_passed_33 rfl ?_
    refine xj_iloadn 1 dX12_passed_36 rfl rfl ?_
    refine xj_iald (k := 6) dX12_passed_37 rfl ?_
    exact xj_ri dX12_passed_38 rfl
set_option maxRecDepth 20000 in
def sX12_passed (p1 : Int32) (w : xW) : Option (Int32 × xW) :=
  xbd (sX12_isIn p1.toInt64 (0 : Int64) (2047 : Int64) w) (fun x1 w2 => (if x1 = 0 then sX12_passed_j18 p1 (1 : Int32) w2 else sX12_passed_j18 p1 (0 : Int32) w2))
set_option maxRecDepth 20000 in
theorem tX12_passed (p1 : Int32) (w : xW) : xJ ιI mX12_passed lM (0, 0) 0 [(0, .ref 0), (1, .int p1)] [] w (sX12_passed p1 w) := by
  unfold sX12_passed
  refine xj_aloadn 0 dX12_passed_0 rfl rfl ?_
  refine xj_iloadn 1 dX12_passed_1 rfl rfl ?_
  refine xj_i2l dX12_passed_2 ?_
  refine xj_lconst (v := 0) dX12_passed_3 cl_0 ?_
  refine xj_ldc2 (v := 2047) tw2149 dX12_passed_4 ?_
  refine xj_cSi (argv := [.long p1.toInt64, .long (0 : Int64), .long (2047 : Int64)]) (rest := [.ref 0]) dX12_passed_7 (kX12_isIn p1.toInt64 (0 : Int64) (2047 : Int64) w) mkX12_isIn tw2150 rfl rfl rfl rfl (fun x1 w2 => ?_)
  refine xj_ifeq (tgt := 17) dX12_passed_10 rfl ?_ ?_
  · refine xj_iconst (v := 1) dX12_passed_17 ci_1 ?_
    exact tX12_passed_j18 _ _ _
  · refine xj_iconst (v := 0) dX12_passed_13 ci_0 ?_
    refine xj_goto (tgt := 18) dX12_passed_14 rfl ?_
    exact tX12_passed_j18 _ _ _
theorem kX12_passed (p1 : Int32) (w : xW) : xMet jI mX12_passed lM (0, 0) [.ref 0, .int p1] w (sX12_passed p1 w) := xj_met lM_ok (by decide) (Nat.le_of_ble_eq_true rfl) (Nat.zero_le _) (Nat.zero_le _) (tX12_passed p1 w)
