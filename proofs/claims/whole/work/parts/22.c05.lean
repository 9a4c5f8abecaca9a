/-! the class, method by method: 5 -/
set_option maxRecDepth 20000 in
def sX7_divideByte_j106 (a3 : Int32) (a4 : Int32) (a5 : Int32) (w : xW) : Option (Unit × xW) :=
  (if ¬ a3 = 0 then xbd (sX7_setPart (0 : Int32) (2 : Int32) ((a5 &&& (255 : Int32)) ||| (((a4 - a4 / a3 * a3) &&& (255 : Int32)) <<< ((8 : Int32) &&& 31))) w) (fun _ w1 => some ((), w1)) else none)
set_option maxRecDepth 20000 in
theorem tX7_divideByte_j106 (a3 : Int32) (a4 : Int32) (a5 : Int32) (w : xW) : xJ ιV mX7_divideByte lC (0, 0) 106 [(0, .ref 8), (3, .int a3), (4, .int a4), (5, .int a5)] [] w (sX7_divideByte_j106 a3 a4 a5 w) := by
  unfold sX7_divideByte_j106
  refine xj_aloadn 0 dX7_divideByte_106 rfl rfl ?_
  refine xj_iconst (v := 0) dX7_divideByte_107 ci_0 ?_
  refine xj_iconst (v := 2) dX7_divideByte_108 ci_2 ?_
  refine xj_iload 3 dX7_divideByte_109 rfl ?_
  refine xj_sipush (v := 255) dX7_divideByte_111 cs_255 ?_
  refine xj_iand dX7_divideByte_114 ?_
  refine xj_iload 2 dX7_divideByte_115 rfl ?_
  refine xj_iloadn 1 dX7_divideByte_117 rfl rfl ?_
  refine xj_irem dX7_divideByte_118 ?_
  refine xj_sipush (v := 255) dX7_divideByte_119 cs_255 ?_
  refine xj_iand dX7_divideByte_122 ?_
  refine xj_bipush (v := 8) dX7_divideByte_123 cb_8 ?_
  refine xj_ishl dX7_divideByte_125 ?_
  refine xj_ior dX7_divideByte_126 ?_
  refine xj_cVv (argv := [.int (0 : Int32), .int (2 : Int32), .int ((a5 &&& (255 : Int32)) ||| (((a4 - a4 / a3 * a3) &&& (255 : Int32)) <<< ((8 : Int32) &&& 31)))]) (rest := []) dX7_divideByte_127 (kX7_setPart (0 : Int32) (2 : Int32) ((a5 &&& (255 : Int32)) ||| (((a4 - a4 / a3 * a3) &&& (255 : Int32)) <<< ((8 : Int32) &&& 31))) w) mkX7_setPart tw1686 rfl rfl rfl rfl rfl rfl (fun _ w1 => ?_)
  exact xj_rv dX7_divideByte_130 rfl
set_option maxRecDepth 20000 in
def sX7_divideByte_j97 (w : xW) : Option (Unit × xW) :=
  xbd (sX8_fail (4 : Int32) w) (fun _ w1 => some ((), w1))
set_option maxRecDepth 20000 in
theorem tX7_divideByte_j97 (w : xW) : xJ ιV mX7_divideByte lC (0, 0) 97 [(0, .ref 8)] [] w (sX7_divideByte_j97 w) := by
  unfold sX7_divideByte_j97
  refine xj_aloadn 0 dX7_divideByte_97 rfl rfl ?_
  refine gfX7_42 dX7_divideByte_98 rfl ?_
  refine xj_iconst (v := 4) dX7_divideByte_101 ci_4 ?_
  refine xj_cVv (argv := [.int (4 : Int32)]) (rest := []) dX7_divideByte_102 (kX8_fail (4 : Int32) w) mkX8_fail tw1588 rfl rfl rfl rfl rfl rfl (fun _ w1 => ?_)
  exact xj_rv dX7_divideByte_105 rfl
set_option maxRecDepth 20000 in
def sX7_divideByte_j66 (a2 : Int32) (a3 : Int32) (b0 : Int32) (w : xW) : Option (Unit × xW) :=
  (if ¬ a3 = 0 then (if a2 = 0 then (if (255 : Int32) < (b0 / a3) then sX7_divideByte_j97 w else sX7_divideByte_j106 a3 b0 (b0 / a3) w) else (if (b0 / a3) = (b0 / a3).toInt8.toInt32 then sX7_divideByte_j106 a3 b0 (b0 / a3) w else sX7_divideByte_j97 w)) else none)
set_option maxRecDepth 20000 in
theorem tX7_divideByte_j66 (a2 : Int32) (a3 : Int32) (b0 : Int32) (w : xW) : xJ ιV mX7_divideByte lC (0, 0) 66 [(0, .ref 8), (2, .int a2), (3, .int a3)] [.int b0] w (sX7_divideByte_j66 a2 a3 b0 w) := by
  unfold sX7_divideByte_j66
  refine xj_istore (lv2 := [(4, .int b0), (0, .ref 8), (2, .int a2), (3, .int a3)]) dX7_divideByte_66 (Nat.le_of_ble_eq_true rfl) rfl ?_
  refine xj_iload 0 dX7_divideByte_68 rfl ?_
  refine xj_iloadn 3 dX7_divideByte_70 rfl rfl ?_
  refine xj_idiv dX7_divideByte_71 ?_
  refine xj_istore (lv2 := [(5, .int (b0 / a3)), (4, .int b0), (0, .ref 8), (2, .int a2), (3, .int a3)]) dX7_divideByte_72 (Nat.le_of_ble_eq_true rfl) rfl ?_
  refine xj_iloadn 3 dX7_divideByte_74 rfl rfl ?_
  refine xj_ifeq (tgt := 89) dX7_divideByte_75 rfl ?_ ?_
  · refine xj_iload 0 dX7_divideByte_89 rfl ?_
    refine xj_sipush (v := 255) dX7_divideByte_91 cs_255 ?_
    refine xj_ile (tgt := 106) dX7_divideByte_94 rfl ?_ ?_
    · refine xj_sub (lv2 := [(0, .ref 8)]) [2] rfl ?_
      exact tX7_divideByte_j97 _
    · refine xj_sub (lv2 := [(0, .ref 8), (3, .int a3), (4, .int b0), (5, .int (b0 / a3))]) [2, 4, 1, 0] rfl ?_
      exact tX7_divideByte_j106 _ _ _ _
  · refine xj_iload 0 dX7_divideByte_78 rfl ?_
    refine xj_iload 0 dX7_divideByte_80 rfl ?_
    refine xj_i2b dX7_divideByte_82 ?_
    refine xj_ieq (tgt := 106) dX7_divideByte_83 rfl ?_ ?_
    · refine xj_sub (lv2 := [(0, .ref 8), (3, .int a3), (4, .int b0), (5, .int (b0 / a3))]) [2, 4, 1, 0] rfl ?_
      exact tX7_divideByte_j106 _ _ _ _
    · refine xj_goto (tgt := 97) dX7_divideByte_86 rfl ?_
      refine xj_sub (lv2 := [(0, .ref 8)]) [2] rfl ?_
      exact tX7_divideByte_j97 _
set_option maxRecDepth 20000 in
def sX7_divideByte_j29 (a2 : Int32) (b0 : Int32) (w : xW) : Option (Unit × xW) :=
  (if b0 = 0 then xbd (sX8_fail (4 : Int32) w) (fun _ w1 => some ((), w1)) else (if a2 = 0 then (if xin (0 : Int32) 8 then sX7_divideByte_j66 a2 b0 ((w.1 20 ((0 : Int32).toNatClampNeg)) &&& (65535 : Int32)) w else none) else (if xin (0 : Int32) 8 then sX7_divideByte_j66 a2 b0 ((w.1 20 ((0 : Int32).toNatClampNeg)).toInt16.toInt32) w else none)))
set_option maxRecDepth 20000 in
theorem tX7_divideByte_j29 (a2 : Int32) (b0 : Int32) (w : xW) : xJ ιV mX7_divideByte lC (0, 0) 29 [(0, .ref 8), (2, .int a2)] [.int b0] w (sX7_divideByte_j29 a2 b0 w) := by
  unfold sX7_divideByte_j29
  refine xj_istoren (lv2 := [(3, .int b0), (0, .ref 8), (2, .int a2)]) dX7_divideByte_29 rfl (Nat.le_of_ble_eq_true rfl) rfl ?_
  refine xj_iloadn 0 dX7_divideByte_30 rfl rfl ?_
  refine xj_ifne (tgt := 43) dX7_divideByte_31 rfl ?_ ?_
  · refine xj_aloadn 1 dX7_divideByte_34 rfl rfl ?_
    refine gfX7_42 dX7_divideByte_35 rfl ?_
    refine xj_iconst (v := 4) dX7_divideByte_38 ci_4 ?_
    refine xj_cVv (argv := [.int (4 : Int32)]) (rest := []) dX7_divideByte_39 (kX8_fail (4 : Int32) w) mkX8_fail tw1588 rfl rfl rfl rfl rfl rfl (fun _ w1 => ?_)
    exact xj_rv dX7_divideByte_42 rfl
  · refine xj_iloadn 2 dX7_divideByte_43 rfl rfl ?_
    refine xj_ifeq (tgt := 57) dX7_divideByte_44 rfl ?_ ?_
    · refine xj_aloadn 1 dX7_divideByte_57 rfl rfl ?_
      refine gfX7_18 dX7_divideByte_58 rfl ?_
      refine xj_iconst (v := 0) dX7_divideByte_61 ci_0 ?_
      refine xj_iald (k := 20) dX7_divideByte_62 rfl ?_
      refine xj_ldc (v := 65535) tw1616 dX7_divideByte_63 ?_
      refine xj_iand dX7_divideByte_65 ?_
      refine xj_sub (lv2 := [(0, .ref 8), (2, .int a2), (3, .int b0)]) [1, 2, 0] rfl ?_
      exact tX7_divideByte_j66 _ _ _ _
    · refine xj_aloadn 1 dX7_divideByte_47 rfl rfl ?_
      refine gfX7_18 dX7_divideByte_48 rfl ?_
      refine xj_iconst (v := 0) dX7_divideByte_51 ci_0 ?_
      refine xj_iald (k := 20) dX7_divideByte_52 rfl ?_
      refine xj_i2s dX7_divideByte_53 ?_
      refine xj_goto (tgt := 66) dX7_divideByte_54 rfl ?_
      refine xj_sub (lv2 := [(0, .ref 8), (2, .int a2), (3, .int b0)]) [1, 2, 0] rfl ?_
      exact tX7_divideByte_j66 _ _ _ _
set_option maxRecDepth 20000 in
def sX7_divideByte_j18 (a1 : Int32) (b0 : Int32) (w : xW) : Option (Unit × xW) :=
  (if b0 = 0 then sX7_divideByte_j29 b0 a1 w else sX7_divideByte_j29 b0 a1.toInt8.toInt32 w)
set_option maxRecDepth 20000 in
theorem tX7_divideByte_j18 (a1 : Int32) (b0 : Int32) (w : xW) : xJ ιV mX7_divideByte lC (0, 0) 18 [(0, .ref 8), (1, .int a1)] [.int b0] w (sX7_divideByte_j18 a1 b0 w) := by
  unfold sX7_divideByte_j18
  refine xj_istoren (lv2 := [(2, .int b0), (0, .ref 8), (1, .int a1)]) dX7_divideByte_18 rfl (Nat.le_of_ble_eq_true rfl) rfl ?_
  refine xj_iloadn 0 dX7_divideByte_19 rfl rfl ?_
  refine xj_ifeq (tgt := 28) dX7_divideByte_20 rfl ?_ ?_
  · refine xj_iloadn 2 dX7_divideByte_28 rfl rfl ?_
    refine xj_sub (lv2 := [(0, .ref 8), (2, .int b0)]) [1, 0] rfl ?_
    exact tX7_divideByte_j29 _ _ _
  · refine xj_iloadn 2 dX7_divideByte_23 rfl rfl ?_
    refine xj_i2b dX7_divideByte_24 ?_
    refine xj_goto (tgt := 29) dX7_divideByte_25 rfl ?_
    refine xj_sub (lv2 := [(0, .ref 8), (2, .int b0)]) [1, 0] rfl ?_
    exact tX7_divideByte_j29 _ _ _
set_option maxRecDepth 20000 in
def sX7_divideByte (p1 : Int32) (w : xW) : Option (Unit × xW) :=
  (if xin (w.1 2 0) 54 ∧ xin (27 : Int32) 54 then (if (w.1 2 0) = (27 : Int32) then sX7_divideByte_j18 p1 (1 : Int32) w else sX7_divideByte_j18 p1 (0 : Int32) w) else none)
set_option maxRecDepth 20000 in
theorem tX7_divideByte (p1 : Int32) (w : xW) : xJ ιV mX7_divideByte lC (0, 0) 0 [(0, .ref 8), (1, .int p1)] [] w (sX7_divideByte p1 w) := by
  unfold sX7_divideByte
  refine xj_aloadn 0 dX7_divideByte_0 rfl rfl ?_
  refine gfX7_38 dX7_divideByte_1 rfl ?_
  refine gfX7_158 (v := (w.1 2 0)) dX7_divideByte_4 rfl rfl ?_
  refine xj_gse (n := 27) 27 dX7_divideByte_7 (Nat.le_of_ble_eq_true rfl) rfl tw1769 ?_
  refine xj_guard (fun hq => ?_)
  refine xj_ane hq.1 hq.2 (tgt := 17) dX7_divideByte_10 rfl ?_ ?_
  · refine xj_iconst (v := 1) dX7_divideByte_13 ci_1 ?_
    refine xj_goto (tgt := 18) dX7_divideByte_14 rfl ?_
    exact tX7_divideByte_j18 _ _ _
  · refine xj_iconst (v := 0) dX7_divideByte_17 ci_0 ?_
    exact tX7_divideByte_j18 _ _ _
theorem kX7_divideByte (p1 : Int32) (w : xW) : xMet jV mX7_divideByte lC (0, 0) [.ref 8, .int p1] w (sX7_divideByte p1 w) := xj_met lC_ok (by decide) (Nat.le_of_ble_eq_true rfl) (Nat.zero_le _) (Nat.zero_le _) (tX7_divideByte p1 w)
set_option maxRecDepth 20000 in
def sX7_divideLong_l32 : Nat → Int64 → Int64 → Int32 → Int32 → xW → Option (Unit × xW)
  | 0, _, _, _, _, _ => none
  | n + 1, a1, a3, a5, a6, w =>
  (if a6 < 0 then (if xin (0 : Int32) 8 then (if xin (2 : Int32) 8 then some ((), (xwi (xwi w 20 ((0 : Int32).toNatClampNeg) a5) 20 ((2 : Int32).toNatClampNeg) a3.toInt32)) else none) else none) else (if xin (0 : Int32) 8 then xlet ((xlshl a3 (1 : Int32)) ||| ((xushr (w.1 20 ((0 : Int32).toNatClampNeg)) a6) &&& (1 : Int32)).toInt64) (fun x1 => (if x1 < a1 then (sX7_divideLong_l32 n) a1 x1 a5 (a6 + (-1 : Int32)) w else xlet (a5 ||| ((1 : Int32) <<< (a6 &&& 31))) (fun x2 => (sX7_divideLong_l32 n) a1 (x1 - a1) x2 (a6 + (-1 : Int32)) w))) else none))
set_option maxRecDepth 20000 in
theorem tX7_divideLong_l32 : ∀ (n : Nat) (a1 : Int64) (a3 : Int64) (a5 : Int32) (a6 : Int32) (w : xW), xJ ιV mX7_divideLong lC (0, 0) 32 [(0, .ref 8), (1, .long a1), (3, .long a3), (5, .int a5), (6, .int a6)] [] w (sX7_divideLong_l32 n a1 a3 a5 a6 w) := by
  intro n
  induction n with
  | zero => intros; exact xj_none
  | succ n ih =>
    intro a1 a3 a5 a6 w
    rw [sX7_divideLong_l32]
    refine xj_iload 4 dX7_divideLong_32 rfl ?_
    refine xj_iflt (tgt := 79) dX7_divideLong_34 rfl ?_ ?_
    · refine xj_aloadn 0 dX7_divideLong_79 rfl rfl ?_
      refine gfX7_18 dX7_divideLong_80 rfl ?_
      refine xj_iconst (v := 0) dX7_divideLong_83 ci_0 ?_
      refine xj_iload 3 dX7_divideLong_84 rfl ?_
      refine xj_iast (k := 20) dX7_divideLong_86 rfl ?_
      refine xj_aloadn 0 dX7_divideLong_87 rfl rfl ?_
      refine gfX7_18 dX7_divideLong_88 rfl ?_
      refine xj_iconst (v := 2) dX7_divideLong_91 ci_2 ?_
      refine xj_lloadn 2 dX7_divideLong_92 rfl rfl ?_
      refine xj_l2i dX7_divideLong_93 ?_
      refine xj_iast (k := 20) dX7_divideLong_94 rfl ?_
      exact xj_rv dX7_divideLong_95 rfl
    · refine xj_lloadn 2 dX7_divideLong_37 rfl rfl ?_
      refine xj_iconst (v := 1) dX7_divideLong_38 ci_1 ?_
      refine xj_lshl dX7_divideLong_39 ?_
      refine xj_aloadn 0 dX7_divideLong_40 rfl rfl ?_
      refine gfX7_18 dX7_divideLong_41 rfl ?_
      refine xj_iconst (v := 0) dX7_divideLong_44 ci_0 ?_
      refine xj_iald (k := 20) dX7_divideLong_45 rfl ?_
      refine xj_iload 4 dX7_divideLong_46 rfl ?_
      refine xj_iushr dX7_divideLong_48 ?_
      refine xj_iconst (v := 1) dX7_divideLong_49 ci_1 ?_
      refine xj_iand dX7_divideLong_50 ?_
      refine xj_i2l dX7_divideLong_51 ?_
      refine xj_lor dX7_divideLong_52 ?_
      refine xj_letl (fun x1 => ?_)
      refine xj_lstoren (lv2 := [(3, .long x1), (0, .ref 8), (1, .long a1), (5, .int a5), (6, .int a6)]) dX7_divideLong_53 rfl (Nat.le_of_ble_eq_true rfl) rfl ?_
      refine xj_lloadn 0 dX7_divideLong_54 rfl rfl ?_
      refine xj_lloadn 2 dX7_divideLong_55 rfl rfl ?_
      refine xj_llt (tgt := 73) dX7_divideLong_56 dX7_divideLong_57 rfl ?_ ?_
      · refine xj_iinc (n := 4) (lv2 := [(6, .int (a6 + (-1 : Int32))), (3, .long x1), (0, .ref 8), (1, .long a1), (5, .int a5)]) dX7_divideLong_73 rfl ci_m1 (Nat.le_of_ble_eq_true rfl) rfl ?_
        refine xj_goto (tgt := 32) dX7_divideLong_76 rfl ?_
        refine xj_sub (lv2 := [(0, .ref 8), (1, .long a1), (3, .long x1), (5, .int a5), (6, .int (a6 + (-1 : Int32)))]) [2, 3, 1, 4, 0] rfl ?_
        exact ih _ _ _ _ _
      · refine xj_lloadn 0 dX7_divideLong_60 rfl rfl ?_
        refine xj_lloadn 2 dX7_divideLong_61 rfl rfl ?_
        refine xj_lsub dX7_divideLong_62 ?_
        refine xj_lstoren (lv2 := [(3, .long (x1 - a1)), (0, .ref 8), (1, .long a1), (5, .int a5), (6, .int a6)]) dX7_divideLong_63 rfl (Nat.le_of_ble_eq_true rfl) rfl ?_
        refine xj_iload 3 dX7_divideLong_64 rfl ?_
        refine xj_iconst (v := 1) dX7_divideLong_66 ci_1 ?_
        refine xj_iload 4 dX7_divideLong_67 rfl ?_
        refine xj_ishl dX7_divideLong_69 ?_
        refine xj_ior dX7_divideLong_70 ?_
        refine xj_leti (fun x2 => ?_)
        refine xj_istore (lv2 := [(5, .int x2), (3, .long (x1 - a1)), (0, .ref 8), (1, .long a1), (6, .int a6)]) dX7_divideLong_71 (Nat.le_of_ble_eq_true rfl) rfl ?_
        refine xj_iinc (n := 4) (lv2 := [(6, .int (a6 + (-1 : Int32))), (5, .int x2), (3, .long (x1 - a1)), (0, .ref 8), (1, .long a1)]) dX7_divideLong_73 rfl ci_m1 (Nat.le_of_ble_eq_true rfl) rfl ?_
        refine xj_goto (tgt := 32) dX7_divideLong_76 rfl ?_
        refine xj_sub (lv2 := [(0, .ref 8), (1, .long a1), (3, .long (x1 - a1)), (5, .int x2), (6, .int (a6 + (-1 : Int32)))]) [3, 4, 2, 1, 0] rfl ?_
        exact ih _ _ _ _ _
set_option maxRecDepth 20000 in
def sX7_divideLong (p1 : Int64) (w : xW) : Option (Unit × xW) :=
  (if xin (2 : Int32) 8 then xbd (sX11_unsigned (w.1 20 ((2 : Int32).toNatClampNeg)) w) (fun x1 w2 => (if x1 < p1 then sX7_divideLong_l32 70000 p1 x1 (0 : Int32) (31 : Int32) w2 else xbd (sX8_fail (4 : Int32) w2) (fun _ w3 => some ((), w3)))) else none)
set_option maxRecDepth 20000 in
theorem tX7_divideLong (p1 : Int64) (w : xW) : xJ ιV mX7_divideLong lC (0, 0) 0 [(0, .ref 8), (1, .long p1)] [] w (sX7_divideLong p1 w) := by
  unfold sX7_divideLong
  refine xj_aloadn 0 dX7_divideLong_0 rfl rfl ?_
  refine gfX7_18 dX7_divideLong_1 rfl ?_
  refine xj_iconst (v := 2) dX7_divideLong_4 ci_2 ?_
  refine xj_iald (k := 20) dX7_divideLong_5 rfl ?_
  refine xj_cSNl (argv := [.int (w.1 20 ((2 : Int32).toNatClampNeg))]) (rest := []) dX7_divideLong_6 (kX11_unsigned (w.1 20 ((2 : Int32).toNatClampNeg)) w) mkX11_unsigned tw1760 rfl rfl rfl rfl (fun x1 w2 => ?_)
  refine xj_lstoren (lv2 := [(3, .long x1), (0, .ref 8), (1, .long p1)]) dX7_divideLong_9 rfl (Nat.le_of_ble_eq_true rfl) rfl ?_
  refine xj_lloadn 0 dX7_divideLong_10 rfl rfl ?_
  refine xj_lloadn 2 dX7_divideLong_11 rfl rfl ?_
  refine xj_llt (tgt := 25) dX7_divideLong_12 dX7_divideLong_13 rfl ?_ ?_
  · refine xj_iconst (v := 0) dX7_divideLong_25 ci_0 ?_
    refine xj_istore (lv2 := [(5, .int (0 : Int32)), (3, .long x1), (0, .ref 8), (1, .long p1)]) dX7_divideLong_26 (Nat.le_of_ble_eq_true rfl) rfl ?_
    refine xj_bipush (v := 31) dX7_divideLong_28 cb_31 ?_
    refine xj_istore (lv2 := [(6, .int (31 : Int32)), (5, .int (0 : Int32)), (3, .long x1), (0, .ref 8), (1, .long p1)]) dX7_divideLong_30 (Nat.le_of_ble_eq_true rfl) rfl ?_
    refine xj_sub (lv2 := [(0, .ref 8), (1, .long p1), (3, .long x1), (5, .int (0 : Int32)), (6, .int (31 : Int32))]) [3, 4, 2, 1, 0] rfl ?_
    exact tX7_divideLong_l32 _ _ _ _ _ _
  · refine xj_aloadn 1 dX7_divideLong_16 rfl rfl ?_
    refine gfX7_42 dX7_divideLong_17 rfl ?_
    refine xj_iconst (v := 4) dX7_divideLong_20 ci_4 ?_
    refine xj_cVv (argv := [.int (4 : Int32)]) (rest := []) dX7_divideLong_21 (kX8_fail (4 : Int32) w2) mkX8_fail tw1588 rfl rfl rfl rfl rfl rfl (fun _ w3 => ?_)
    exact xj_rv dX7_divideLong_24 rfl
theorem kX7_divideLong (p1 : Int64) (w : xW) : xMet jV mX7_divideLong lC (0, 0) [.ref 8, .long p1] w (sX7_divideLong p1 w) := xj_met lC_ok (by decide) (Nat.le_of_ble_eq_true rfl) (Nat.zero_le _) (Nat.zero_le _) (tX7_divideLong p1 w)
set_option maxRecDepth 20000 in
def sX7_divideLongWithSign (p1 : Int32) (w : xW) : Option (Unit × xW) :=
  (if p1 = 0 then xbd (sX8_fail (4 : Int32) w) (fun _ w5 => some ((), w5)) else (if xin (2 : Int32) 8 then (if xin (0 : Int32) 8 then xbd (sX11_unsigned (w.1 20 ((0 : Int32).toNatClampNeg)) w) (fun x1 w2 => xlet ((xlshl ((w.1 20 ((2 : Int32).toNatClampNeg)).toInt64) (32 : Int32)) ||| x1) (fun x3 => (if ¬ p1.toInt64 = 0 then (if (x3 / p1.toInt64) = ((x3 / p1.toInt64).toInt32).toInt64 then (if xin (0 : Int32) 8 then (if ¬ p1.toInt64 = 0 then (if xin (2 : Int32) 8 then some ((), (xwi (xwi w2 20 ((0 : Int32).toNatClampNeg) ((x3 / p1.toInt64).toInt32)) 20 ((2 : Int32).toNatClampNeg) ((x3 - x3 / p1.toInt64 * p1.toInt64).toInt32))) else none) else none) else none) else xbd (sX8_fail (4 : Int32) w2) (fun _ w4 => some ((), w4))) else none))) else none) else none))
set_option maxRecDepth 20000 in
theorem tX7_divideLongWithSign (p1 : Int32) (w : xW) : xJ ιV mX7_divideLongWithSign lC (0, 0) 0 [(0, .ref 8), (1, .int p1)] [] w (sX7_divideLongWithSign p1 w) := by
  unfold sX7_divideLongWithSign
  refine xj_iloadn 1 dX7_divideLongWithSign_0 rfl rfl ?_
  refine xj_ifne (tgt := 13) dX7_divideLongWithSign_1 rfl ?_ ?_
  · refine xj_aloadn 0 dX7_divideLongWithSign_4 rfl rfl ?_
    refine gfX7_42 dX7_divideLongWithSign_5 rfl ?_
    refine xj_iconst (v := 4) dX7_divideLongWithSign_8 ci_4 ?_
    refine xj_cVv (argv := [.int (4 : Int32)]) (rest := []) dX7_divideLongWithSign_9 (kX8_fail (4 : Int32) w) mkX8_fail tw1588 rfl rfl rfl rfl rfl rfl (fun _ w5 => ?_)
    exact xj_rv dX7_divideLongWithSign_12 rfl
  · refine xj_aloadn 0 dX7_divideLongWithSign_13 rfl rfl ?_
    refine gfX7_18 dX7_divideLongWithSign_14 rfl ?_
    refine xj_iconst (v := 2) dX7_divideLongWithSign_17 ci_2 ?_
    refine xj_iald (k := 20) dX7_divideLongWithSign_18 rfl ?_
    refine xj_i2l dX7_divideLongWithSign_19 ?_
    refine xj_bipush (v := 32) dX7_divideLongWithSign_20 cb_32 ?_
    refine xj_lshl dX7_divideLongWithSign_22 ?_
    refine xj_aloadn 0 dX7_divideLongWithSign_23 rfl rfl ?_
    refine gfX7_18 dX7_divideLongWithSign_24 rfl ?_
    refine xj_iconst (v := 0) dX7_divideLongWithSign_27 ci_0 ?_
    refine xj_iald (k := 20) dX7_divideLongWithSign_28 rfl ?_
    refine xj_cSNl (argv := [.int (w.1 20 ((0 : Int32).toNatClampNeg))]) (rest := [.long (xlshl ((w.1 20 ((2 : Int32).toNatClampNeg)).toInt64) (32 : Int32))]) dX7_divideLongWithSign_29 (kX11_unsigned (w.1 20 ((0 : Int32).toNatClampNeg)) w) mkX11_unsigned tw1760 rfl rfl rfl rfl (fun x1 w2 => ?_)
    refine xj_lor dX7_divideLongWithSign_32 ?_
    refine xj_letl (fun x3 => ?_)
    refine xj_lstoren (lv2 := [(2, .long x3), (0, .ref 8), (1, .int p1)]) dX7_divideLongWithSign_33 rfl (Nat.le_of_ble_eq_true rfl) rfl ?_
    refine xj_lloadn 0 dX7_divideLongWithSign_34 rfl rfl ?_
    refine xj_iloadn 2 dX7_divideLongWithSign_35 rfl rfl ?_
    refine xj_i2l dX7_divideLongWithSign_36 ?_
    refine xj_ldiv dX7_divideLongWithSign_37 ?_
    refine xj_lstore (lv2 := [(4, .long (x3 / p1.toInt64)), (2, .long x3), (0, .ref 8), (1, .int p1)]) dX7_divideLongWithSign_38 (Nat.le_of_ble_eq_true rfl) rfl ?_
    refine xj_lload 0 dX7_divideLongWithSign_40 rfl ?_
    refine xj_lload 0 dX7_divideLongWithSign_42 rfl ?_
    refine xj_l2i dX7_divideLongWithSign_44 ?_
    refine xj_i2l dX7_divideLongWithSign_45 ?_
    refine xj_leq (tgt := 59) dX7_divideLongWithSign_46 dX7_divideLongWithSign_47 rfl ?_ ?_
    · refine xj_aloadn 2 dX7_divideLongWithSign_59 rfl rfl ?_
      refine gfX7_18 dX7_divideLongWithSign_60 rfl ?_
      refine xj_iconst (v := 0) dX7_divideLongWithSign_63 ci_0 ?_
      refine xj_lload 0 dX7_divideLongWithSign_64 rfl ?_
      refine xj_l2i dX7_divideLongWithSign_66 ?_
      refine xj_iast (k := 20) dX7_divideLongWithSign_67 rfl ?_
      refine xj_aloadn 2 dX7_divideLongWithSign_68 rfl rfl ?_
      refine gfX7_18 dX7_divideLongWithSign_69 rfl ?_
      refine xj_iconst (v := 2) dX7_divideLongWithSign_72 ci_2 ?_
      refine xj_lloadn 1 dX7_divideLongWithSign_73 rfl rfl ?_
      refine xj_iloadn 3 dX7_divideLongWithSign_74 rfl rfl ?_
      refine xj_i2l dX7_divideLongWithSign_75 ?_
      refine xj_lrem dX7_divideLongWithSign_76 ?_
      refine xj_l2i dX7_divideLongWithSign_77 ?_
      refine xj_iast (k := 20) dX7_divideLongWithSign_78 rfl ?_
      exact xj_rv dX7_divideLongWithSign_79 rfl
    · refine xj_aloadn 2 dX7_divideLongWithSign_50 rfl rfl ?_
      refine gfX7_42 dX7_divideLongWithSign_51 rfl ?_
      refine xj_iconst (v := 4) dX7_divideLongWithSign_54 ci_4 ?_
      refine xj_cVv (argv := [.int (4 : Int32)]) (rest := []) dX7_divideLongWithSign_55 (kX8_fail (4 : Int32) w2) mkX8_fail tw1588 rfl rfl rfl rfl rfl rfl (fun _ w4 => ?_)
      exact xj_rv dX7_divideLongWithSign_58 rfl
theorem kX7_divideLongWithSign (p1 : Int32) (w : xW) : xMet jV mX7_divideLongWithSign lC (0, 0) [.ref 8, .int p1] w (sX7_divideLongWithSign p1 w) := xj_met lC_ok (by decide) (Nat.le_of_ble_eq_true rfl) (Nat.zero_le _) (Nat.zero_le _) (tX7_divideLongWithSign p1 w)
set_option maxRecDepth 20000 in
def sX7_doQuotient (w : xW) : Option (Unit × xW) :=
  xbd (sX7_readE w) (fun x1 w2 => (if x1 = 0 then xbd (sX8_fail (4 : Int32) w2) (fun _ w8 => some ((), w8)) else (if (w2.1 2 4) = (1 : Int32) then xbd (sX7_divideByte x1 w2) (fun _ w7 => some ((), w7)) else (if xin (w2.1 2 0) 54 ∧ xin (26 : Int32) 54 then (if (w2.1 2 0) = (26 : Int32) then xbd (sX11_unsigned x1 w2) (fun x4 w5 => xbd (sX7_divideLong x4 w5) (fun _ w6 => some ((), w6))) else xbd (sX7_divideLongWithSign x1 w2) (fun _ w3 => some ((), w3))) else none))))
set_option maxRecDepth 20000 in
theorem tX7_doQuotient (w : xW) : xJ ιV mX7_doQuotient lC (0, 0) 0 [(0, .ref 8)] [] w (sX7_doQuotient w) := by
  unfold sX7_doQuotient
  refine xj_aloadn 0 dX7_doQuotient_0 rfl rfl ?_
  refine xj_cVi (argv := []) (rest := []) dX7_doQuotient_1 (kX7_readE w) mkX7_readE tw1617 rfl rfl rfl rfl rfl rfl (fun x1 w2 => ?_)
  refine xj_istoren (lv2 := [(1, .int x1), (0, .ref 8)]) dX7_doQuotient_4 rfl (Nat.le_of_ble_eq_true rfl) rfl ?_
  refine xj_iloadn 0 dX7_doQuotient_5 rfl rfl ?_
  refine xj_ifne (tgt := 20) dX7_doQuotient_6 rfl ?_ ?_
  · refine xj_aloadn 1 dX7_doQuotient_9 rfl rfl ?_
    refine gfX7_42 dX7_doQuotient_10 rfl ?_
    refine xj_iconst (v := 4) dX7_doQuotient_13 ci_4 ?_
    refine xj_cVv (argv := [.int (4 : Int32)]) (rest := []) dX7_doQuotient_14 (kX8_fail (4 : Int32) w2) mkX8_fail tw1588 rfl rfl rfl rfl rfl rfl (fun _ w8 => ?_)
    refine xj_goto (tgt := 68) dX7_doQuotient_17 rfl ?_
    exact xj_rv dX7_doQuotient_68 rfl
  · refine xj_aloadn 1 dX7_doQuotient_20 rfl rfl ?_
    refine gfX7_38 dX7_doQuotient_21 rfl ?_
    refine gfX7_173 (v := (w2.1 2 4)) dX7_doQuotient_24 rfl rfl ?_
    refine xj_iconst (v := 1) dX7_doQuotient_27 ci_1 ?_
    refine xj_ine (tgt := 39) dX7_doQuotient_28 rfl ?_ ?_
    · refine xj_aloadn 1 dX7_doQuotient_31 rfl rfl ?_
      refine xj_iloadn 0 dX7_doQuotient_32 rfl rfl ?_
      refine xj_cVv (argv := [.int x1]) (rest := []) dX7_doQuotient_33 (kX7_divideByte x1 w2) mkX7_divideByte tw1765 rfl rfl rfl rfl rfl rfl (fun _ w7 => ?_)
      refine xj_goto (tgt := 68) dX7_doQuotient_36 rfl ?_
      exact xj_rv dX7_doQuotient_68 rfl
    · refine xj_aloadn 1 dX7_doQuotient_39 rfl rfl ?_
      refine gfX7_38 dX7_doQuotient_40 rfl ?_
      refine gfX7_158 (v := (w2.1 2 0)) dX7_doQuotient_43 rfl rfl ?_
      refine xj_gse (n := 26) 26 dX7_doQuotient_46 (Nat.le_of_ble_eq_true rfl) rfl tw1770 ?_
      refine xj_guard (fun hq => ?_)
      refine xj_ane hq.1 hq.2 (tgt := 63) dX7_doQuotient_49 rfl ?_ ?_
      · refine xj_aloadn 1 dX7_doQuotient_52 rfl rfl ?_
        refine xj_iloadn 0 dX7_doQuotient_53 rfl rfl ?_
        refine xj_cSNl (argv := [.int x1]) (rest := [.ref 8]) dX7_doQuotient_54 (kX11_unsigned x1 w2) mkX11_unsigned tw1760 rfl rfl rfl rfl (fun x4 w5 => ?_)
        refine xj_cVv (argv := [.long x4]) (rest := []) dX7_doQuotient_57 (kX7_divideLong x4 w5) mkX7_divideLong tw1771 rfl rfl rfl rfl rfl rfl (fun _ w6 => ?_)
        refine xj_goto (tgt := 68) dX7_doQuotient_60 rfl ?_
        exact xj_rv dX7_doQuotient_68 rfl
      · refine xj_aloadn 1 dX7_doQuotient_63 rfl rfl ?_
        refine xj_iloadn 0 dX7_doQuotient_64 rfl rfl ?_
        refine xj_cVv (argv := [.int x1]) (rest := []) dX7_doQuotient_65 (kX7_divideLongWithSign x1 w2) mkX7_divideLongWithSign tw1775 rfl rfl rfl rfl rfl rfl (fun _ w3 => ?_)
        exact xj_rv dX7_doQuotient_68 rfl
theorem kX7_doQuotient (w : xW) : xMet jV mX7_doQuotient lC (0, 0) [.ref 8] w (sX7_doQuotient w) := xj_met lC_ok (by decide) (Nat.le_of_ble_eq_true rfl) (Nat.zero_le _) (Nat.zero_le _) (tX7_doQuotient w)
set_option maxRecDepth 20000 in
def sX11_withSign (p0 : Int32) (p1 : Int32) (w : xW) : Option (Int32 × xW) :=
  (if p1 = (1 : Int32) then some (p0.toInt8.toInt32, w) else (if p1 = (2 : Int32) then some (p0.toInt16.toInt32, w) else some (p0, w)))
set_option maxRecDepth 20000 in
theorem tX11_withSign (p0 : Int32) (p1 : Int32) (w : xW) : xJ ιI mX11_withSign lC (0, 0) 0 [(0, .int p0), (1, .int p1)] [] w (sX11_withSign p0 p1 w) := by
  unfold sX11_withSign
  refine xj_iloadn 1 dX11_withSign_0 rfl rfl ?_
  refine xj_iconst (v := 1) dX11_withSign_1 ci_1 ?_
  refine xj_ine (tgt := 8) dX11_withSign_2 rfl ?_ ?_
  · refine xj_iloadn 0 dX11_withSign_5 rfl rfl ?_
    refine xj_i2b dX11_withSign_6 ?_
    exact xj_ri dX11_withSign_7 rfl
  · refine xj_iloadn 1 dX11_withSign_8 rfl rfl ?_
    refine xj_iconst (v := 2) dX11_withSign_9 ci_2 ?_
    refine xj_ine (tgt := 18) dX11_withSign_10 rfl ?_ ?_
    · refine xj_iloadn 0 dX11_withSign_13 rfl rfl ?_
      refine xj_i2s dX11_withSign_14 ?_
      refine xj_goto (tgt := 19) dX11_withSign_15 rfl ?_
      exact xj_ri dX11_withSign_19 rfl
    · refine xj_iloadn 0 dX11_withSign_18 rfl rfl ?_
      exact xj_ri dX11_withSign_19 rfl
theorem kX11_withSign (p0 : Int32) (p1 : Int32) (w : xW) : xMet jI mX11_withSign lC (0, 0) [.int p0, .int p1] w (sX11_withSign p0 p1 w) := xj_met lC_ok (by decide) (Nat.le_of_ble_eq_true rfl) (Nat.zero_le _) (Nat.zero_le _) (tX11_withSign p0 p1 w)
set_option maxRecDepth 20000 in
def sX7_doMove (w : xW) : Option (Unit × xW) :=
  (if xin (w.1 2 0) 54 then (if xin (w.1 2 0) 54 then xsw (opSw (w.1 2 0)) (11) [xbd (sX7_readSecond w) (fun x5 w6 => xbd (sX7_writeFirst x5 w6) (fun _ w7 => some ((), w7))), xbd (sX7_readE w) (fun x8 w9 => xbd (sX7_writeG x8 w9) (fun _ w10 => some ((), w10))), xbd (sX7_readE w) (fun x11 w12 => xbd (sX11_withSign x11 (w12.1 2 5) w12) (fun x13 w14 => xbd (sX7_writeG x13 w14) (fun _ w15 => some ((), w15)))), xbd (sX7_writeG (w.1 8 14) w) (fun _ w16 => some ((), w16)), xbd (sX7_readE w) (fun x17 w18 => xbd (sX2_holds (w18.1 2 3) w18) (fun x19 w20 => (if x19 = 0 then some ((), w20) else xbd (sX7_writeG x17 w20) (fun _ w21 => some ((), w21)))))] (xbd (sX2_holds (w.1 2 3) w) (fun x1 w2 => (if x1 = 0 then xbd (sX7_writeE (0 : Int32) w2) (fun _ w3 => some ((), w3)) else xbd (sX7_writeE (1 : Int32) w2) (fun _ w4 => some ((), w4))))) else none) else none)
set_option maxRecDepth 20000 in
theorem tX7_doMove (w : xW) : xJ ιV mX7_doMove lC (0, 0) 0 [(0, .ref 8)] [] w (sX7_doMove w) := by
  unfold sX7_doMove
  refine xj_gsv (v := .ref 3000) dX7_doMove_0 tw1783 (fun G A U H h => h.2.1.1) ?_
  refine xj_aloadn 0 dX7_doMove_3 rfl rfl ?_
  refine gfX7_38 dX7_doMove_4 rfl ?_
  refine gfX7_158 (v := (w.1 2 0)) dX7_doMove_7 rfl rfl ?_
  refine xj_ord (rest := [.ref 3000]) dX7_doMove_10 tw1784 rfl rfl ?_
  refine xj_guard (fun hi => ?_)
  refine xj_ialds (f := fun j => opSwL.getD j 0) dX7_doMove_13 hi (fun G A U H h => h.2.1.2) ?_
  refine xj_tsw (tgtd := 132) [48, 59, 70, 91, 102] dX7_doMove_14 rfl rfl rfl rfl ?_ ⟨?_, ?_, ?_, ?_, ?_, trivial⟩
  · refine xj_aloadn 0 dX7_doMove_132 rfl rfl ?_
    refine xj_aloadn 0 dX7_doMove_133 rfl rfl ?_
    refine gfX7_12 dX7_doMove_134 rfl ?_
    refine xj_aloadn 0 dX7_doMove_137 rfl rfl ?_
    refine gfX7_38 dX7_doMove_138 rfl ?_
    refine gfX7_322 (v := (w.1 2 3)) dX7_doMove_141 rfl rfl ?_
    refine xj_cVi (argv := [.int (w.1 2 3)]) (rest := [.ref 8]) dX7_doMove_144 (kX2_holds (w.1 2 3) w) mkX2_holds tw1788 rfl rfl rfl rfl rfl rfl (fun x1 w2 => ?_)
    refine xj_ifeq (tgt := 154) dX7_doMove_147 rfl ?_ ?_
    · refine xj_iconst (v := 0) dX7_doMove_154 ci_0 ?_
      refine xj_cVv (argv := [.int (0 : Int32)]) (rest := []) dX7_doMove_155 (kX7_writeE (0 : Int32) w2) mkX7_writeE tw1690 rfl rfl rfl rfl rfl rfl (fun _ w3 => ?_)
      exact xj_rv dX7_doMove_158 rfl
    · refine xj_iconst (v := 1) dX7_doMove_150 ci_1 ?_
      refine xj_goto (tgt := 155) dX7_doMove_151 rfl ?_
      refine xj_cVv (argv := [.int (1 : Int32)]) (rest := []) dX7_doMove_155 (kX7_writeE (1 : Int32) w2) mkX7_writeE tw1690 rfl rfl rfl rfl rfl rfl (fun _ w4 => ?_)
      exact xj_rv dX7_doMove_158 rfl
  · refine xj_aloadn 0 dX7_doMove_48 rfl rfl ?_
    refine xj_aloadn 0 dX7_doMove_49 rfl rfl ?_
    refine xj_cVi (argv := []) (rest := [.ref 8]) dX7_doMove_50 (kX7_readSecond w) mkX7_readSecond tw1621 rfl rfl rfl rfl rfl rfl (fun x5 w6 => ?_)
    refine xj_cVv (argv := [.int x5]) (rest := []) dX7_doMove_53 (kX7_writeFirst x5 w6) mkX7_writeFirst tw1678 rfl rfl rfl rfl rfl rfl (fun _ w7 => ?_)
    refine xj_goto (tgt := 158) dX7_doMove_56 rfl ?_
    exact xj_rv dX7_doMove_158 rfl
  · refine xj_aloadn 0 dX7_doMove_59 rfl rfl ?_
    refine xj_aloadn 0 dX7_doMove_60 rfl rfl ?_
    refine xj_cVi (argv := []) (rest := [.ref 8]) dX7_doMove_61 (kX7_readE w) mkX7_readE tw1617 rfl rfl rfl rfl rfl rfl (fun x8 w9 => ?_)
    refine xj_cVv (argv := [.int x8]) (rest := []) dX7_doMove_64 (kX7_writeG x8 w9) mkX7_writeG tw1682 rfl rfl rfl rfl rfl rfl (fun _ w10 => ?_)
    refine xj_goto (tgt := 158) dX7_doMove_67 rfl ?_
    exact xj_rv dX7_doMove_158 rfl
  · refine xj_aloadn 0 dX7_doMove_70 rfl rfl ?_
    refine xj_aloadn 0 dX7_doMove_71 rfl rfl ?_
    refine xj_cVi (argv := []) (rest := [.ref 8]) dX7_doMove_72 (kX7_readE w) mkX7_readE tw1617 rfl rfl rfl rfl rfl rfl (fun x11 w12 => ?_)
    refine xj_aloadn 0 dX7_doMove_75 rfl rfl ?_
    refine gfX7_38 dX7_doMove_76 rfl ?_
    refine gfX7_215 (v := (w12.1 2 5)) dX7_doMove_79 rfl rfl ?_
    refine xj_cSNi (argv := [.int x11, .int (w12.1 2 5)]) (rest := [.ref 8]) dX7_doMove_82 (kX11_withSign x11 (w12.1 2 5) w12) mkX11_withSign tw1785 rfl rfl rfl rfl (fun x13 w14 => ?_)
    refine xj_cVv (argv := [.int x13]) (rest := []) dX7_doMove_85 (kX7_writeG x13 w14) mkX7_writeG tw1682 rfl rfl rfl rfl rfl rfl (fun _ w15 => ?_)
    refine xj_goto (tgt := 158) dX7_doMove_88 rfl ?_
    exact xj_rv dX7_doMove_158 rfl
  · refine xj_aloadn 0 dX7_doMove_91 rfl rfl ?_
    refine xj_aloadn 0 dX7_doMove_92 rfl rfl ?_
    refine gfX7_143 (v := (w.1 8 14)) dX7_doMove_93 rfl rfl ?_
    refine xj_cVv (argv := [.int (w.1 8 14)]) (rest := []) dX7_doMove_96 (kX7_writeG (w.1 8 14) w) mkX7_writeG tw1682 rfl rfl rfl rfl rfl rfl (fun _ w16 => ?_)
    refine xj_goto (tgt := 158) dX7_doMove_99 rfl ?_
    exact xj_rv dX7_doMove_158 rfl
  · refine xj_aloadn 0 dX7_doMove_102 rfl rfl ?_
    refine xj_cVi (argv := []) (rest := []) dX7_doMove_103 (kX7_readE w) mkX7_readE tw1617 rfl rfl rfl rfl rfl rfl (fun x17 w18 => ?_)
    refine xj_istoren (lv2 := [(1, .int x17), (0, .ref 8)]) dX7_doMove_106 rfl (Nat.le_of_ble_eq_true rfl) rfl ?_
    refine xj_aloadn 1 dX7_doMove_107 rfl rfl ?_
    refine gfX7_12 dX7_doMove_108 rfl ?_
    refine xj_aloadn 1 dX7_doMove_111 rfl rfl ?_
    refine gfX7_38 dX7_doMove_112 rfl ?_
    refine gfX7_322 (v := (w18.1 2 3)) dX7_doMove_115 rfl rfl ?_
    refine xj_cVi (argv := [.int (w18.1 2 3)]) (rest := []) dX7_doMove_118 (kX2_holds (w18.1 2 3) w18) mkX2_holds tw1788 rfl rfl rfl rfl rfl rfl (fun x19 w20 => ?_)
    refine xj_ifeq (tgt := 158) dX7_doMove_121 rfl ?_ ?_
    · exact xj_rv dX7_doMove_158 rfl
    · refine xj_aloadn 1 dX7_doMove_124 rfl rfl ?_
      refine xj_iloadn 0 dX7_doMove_125 rfl rfl ?_
      refine xj_cVv (argv := [.int x17]) (rest := []) dX7_doMove_126 (kX7_writeG x17 w20) mkX7_writeG tw1682 rfl rfl rfl rfl rfl rfl (fun _ w21 => ?_)
      refine xj_goto (tgt := 158) dX7_doMove_129 rfl ?_
      exact xj_rv dX7_doMove_158 rfl
theorem kX7_doMove (w : xW) : xMet jV mX7_doMove lC (0, 0) [.ref 8] w (sX7_doMove w) := xj_met lC_ok (by decide) (Nat.le_of_ble_eq_true rfl) (Nat.zero_le _) (Nat.zero_le _) (tX7_doMove w)
set_option maxRecDepth 20000 in
def sJ6_numberOfTrailingZeros_0f7a4_j74 (a0 : Int32) (a1 : Int32) (w : xW) : Option (Int32 × xW) :=
  some ((a1 + (xushr a0 (1 : Int32))), w)
set_option maxRecDepth 20000 in
theorem tJ6_numberOfTrailingZeros_0f7a4_j74 (a0 : Int32) (a1 : Int32) (w : xW) : xJ ιI mJ6_numberOfTrailingZeros_0f7a4 lC (0, 0) 74 [(0, .int a0), (1, .int a1)] [] w (sJ6_numberOfTrailingZeros_0f7a4_j74 a0 a1 w) := by
  unfold sJ6_numberOfTrailingZeros_0f7a4_j74
  refine xj_iloadn 1 dJ6_numberOfTrailingZeros_0f7a4_74 rfl rfl ?_
  refine xj_iloadn 0 dJ6_numberOfTrailingZeros_0f7a4_75 rfl rfl ?_
  refine xj_iconst (v := 1) dJ6_numberOfTrailingZeros_0f7a4_76 ci_1 ?_
  refine xj_iushr dJ6_numberOfTrailingZeros_0f7a4_77 ?_
  refine xj_iadd dJ6_numberOfTrailingZeros_0f7a4_78 ?_
  exact xj_ri dJ6_numberOfTrailingZeros_0f7a4_79 rfl
set_option maxRecDepth 20000 in
def sJ6_numberOfTrailingZeros_0f7a4_j62 (a0 : Int32) (a1 : Int32) (w : xW) : Option (Int32 × xW) :=
  (if (4 : Int32) < a0 then sJ6_numberOfTrailingZeros_0f7a4_j74 (xushr a0 (2 : Int32)) (a1 + (2 : Int32)) w else sJ6_numberOfTrailingZeros_0f7a4_j74 a0 a1 w)
set_option maxRecDepth 20000 in
theorem tJ6_numberOfTrailingZeros_0f7a4_j62 (a0 : Int32) (a1 : Int32) (w : xW) : xJ ιI mJ6_numberOfTrailingZeros_0f7a4 lC (0, 0) 62 [(0, .int a0), (1, .int a1)] [] w (sJ6_numberOfTrailingZeros_0f7a4_j62 a0 a1 w) := by
  unfold sJ6_numberOfTrailingZeros_0f7a4_j62
  refine xj_iloadn 0 dJ6_numberOfTrailingZeros_0f7a4_62 rfl rfl ?_
  refine xj_iconst (v := 4) dJ6_numberOfTrailingZeros_0f7a4_63 ci_4 ?_
  refine xj_ile (tgt := 74) dJ6_numberOfTrailingZeros_0f7a4_64 rfl ?_ ?_
  · refine xj_iinc (n := 1) (lv2 := [(1, .int (a1 + (2 : Int32))), (0, .int a0)]) dJ6_numberOfTrailingZeros_0f7a4_67 rfl ci_2 (Nat.le_of_ble_eq_true rfl) rfl ?_
    refine xj_iloadn 1 dJ6_numberOfTrailingZeros_0f7a4_70 rfl rfl ?_
    refine xj_iconst (v := 2) dJ6_numberOfTrailingZeros_0f7a4_71 ci_2 ?_
    refine xj_iushr dJ6_numberOfTrailingZeros_0f7a4_72 ?_
    refine xj_istoren (lv2 := [(0, .int (xushr a0 (2 : Int32))), (1, .int (a1 + (2 : Int32)))]) dJ6_numberOfTrailingZeros_0f7a4_73 rfl (Nat.le_of_ble_eq_true rfl) rfl ?_
    exact tJ6_numberOfTrailingZeros_0f7a4_j74 _ _ _
  · exact tJ6_numberOfTrailingZeros_0f7a4_j74 _ _ _
set_option maxRecDepth 20000 in
def sJ6_numberOfTrailingZeros_0f7a4_j49 (a0 : Int32) (a1 : Int32) (w : xW) : Option (Int32 × xW) :=
  (if (16 : Int32) < a0 then sJ6_numberOfTrailingZeros_0f7a4_j62 (xushr a0 (4 : Int32)) (a1 + (4 : Int32)) w else sJ6_numberOfTrailingZeros_0f7a4_j62 a0 a1 w)
set_option maxRecDepth 20000 in
theorem tJ6_numberOfTrailingZeros_0f7a4_j49 (a0 : Int32) (a1 : Int32) (w : xW) : xJ ιI mJ6_numberOfTrailingZeros_0f7a4 lC (0, 0) 49 [(0, .int a0), (1, .int a1)] [] w (sJ6_numberOfTrailingZeros_0f7a4_j49 a0 a1 w) := by
  unfold sJ6_numberOfTrailingZeros_0f7a4_j49
  refine xj_iloadn 0 dJ6_numberOfTrailingZeros_0f7a4_49 rfl rfl ?_
  refine xj_bipush (v := 16) dJ6_numberOfTrailingZeros_0f7a4_50 cb_16 ?_
  refine xj_ile (tgt := 62) dJ6_numberOfTrailingZeros_0f7a4_52 rfl ?_ ?_
  · refine xj_iinc (n := 1) (lv2 := [(1, .int (a1 + (4 : Int32))), (0, .int a0)]) dJ6_numberOfTrailingZeros_0f7a4_55 rfl ci_4 (Nat.le_of_ble_eq_true rfl) rfl ?_
    refine xj_iloadn 1 dJ6_numberOfTrailingZeros_0f7a4_58 rfl rfl ?_
    refine xj_iconst (v := 4) dJ6_numberOfTrailingZeros_0f7a4_59 ci_4 ?_
    refine xj_iushr dJ6_numberOfTrailingZeros_0f7a4_60 ?_
    refine xj_istoren (lv2 := [(0, .int (xushr a0 (4 : Int32))), (1, .int (a1 + (4 : Int32)))]) dJ6_numberOfTrailingZeros_0f7a4_61 rfl (Nat.le_of_ble_eq_true rfl) rfl ?_
    exact tJ6_numberOfTrailingZeros_0f7a4_j62 _ _ _
  · exact tJ6_numberOfTrailingZeros_0f7a4_j62 _ _ _
set_option maxRecDepth 20000 in
def sJ6_numberOfTrailingZeros_0f7a4_j34 (a0 : Int32) (a1 : Int32) (w : xW) : Option (Int32 × xW) :=
  (if (256 : Int32) < a0 then sJ6_numberOfTrailingZeros_0f7a4_j49 (xushr a0 (8 : Int32)) (a1 + (8 : Int32)) w else sJ6_numberOfTrailingZeros_0f7a4_j49 a0 a1 w)
set_option maxRecDepth 20000 in
theorem tJ6_numberOfTrailingZeros_0f7a4_j34 (a0 : Int32) (a1 : Int32) (w : xW) : xJ ιI mJ6_numberOfTrailingZeros_0f7a4 lC (0, 0) 34 [(0, .int a0), (1, .int a1)] [] w (sJ6_numberOfTrailingZeros_0f7a4_j34 a0 a1 w) := by
  unfold sJ6_numberOfTrailingZeros_0f7a4_j34
  refine xj_iloadn 0 dJ6_numberOfTrailingZeros_0f7a4_34 rfl rfl ?_
  refine xj_sipush (v := 256) dJ6_numberOfTrailingZeros_0f7a4_35 cs_256 ?_
  refine xj_ile (tgt := 49) dJ6_numberOfTrailingZeros_0f7a4_38 rfl ?_ ?_
  · refine xj_iinc (n := 1) (lv2 := [(1, .int (a1 + (8 : Int32))), (0, .int a0)]) dJ6_numberOfTrailingZeros_0f7a4_41 rfl ci_8 (Nat.le_of_ble_eq_true rfl) rfl ?_
    refine xj_iloadn 1 dJ6_numberOfTrailingZeros_0f7a4_44 rfl rfl ?_
    refine xj_bipush (v := 8) dJ6_numberOfTrailingZeros_0f7a4_45 cb_8 ?_
    refine xj_iushr dJ6_numberOfTrailingZeros_0f7a4_47 ?_
    refine xj_istoren (lv2 := [(0, .int (xushr a0 (8 : Int32))), (1, .int (a1 + (8 : Int32)))]) dJ6_numberOfTrailingZeros_0f7a4_48 rfl (Nat.le_of_ble_eq_true rfl) rfl ?_
    exact tJ6_numberOfTrailingZeros_0f7a4_j49 _ _ _
  · exact tJ6_numberOfTrailingZeros_0f7a4_j49 _ _ _
set_option maxRecDepth 20000 in
def sJ6_numberOfTrailingZeros_0f7a4 (p0 : Int32) (w : xW) : Option (Int32 × xW) :=
  xlet ((p0 ^^^ (-1 : Int32)) &&& (p0 - (1 : Int32))) (fun x1 => (if 0 < x1 then (if (65536 : Int32) < x1 then sJ6_numberOfTrailingZeros_0f7a4_j34 (xushr x1 (16 : Int32)) ((1 : Int32) + (16 : Int32)) w else sJ6_numberOfTrailingZeros_0f7a4_j34 x1 (1 : Int32) w) else some ((x1 &&& (32 : Int32)), w)))
set_option maxRecDepth 20000 in
theorem tJ6_numberOfTrailingZeros_0f7a4 (p0 : Int32) (w : xW) : xJ ιI mJ6_numberOfTrailingZeros_0f7a4 lC (0, 0) 0 [(0, .int p0)] [] w (sJ6_numberOfTrailingZeros_0f7a4 p0 w) := by
  unfold sJ6_numberOfTrailingZeros_0f7a4
  refine xj_iloadn 0 dJ6_numberOfTrailingZeros_0f7a4_0 rfl rfl ?_
  refine xj_iconst (v := -1) dJ6_numberOfTrailingZeros_0f7a4_1 ci_m1 ?_
  refine xj_ixor dJ6_numberOfTrailingZeros_0f7a4_2 ?_
  refine xj_iloadn 0 dJ6_numberOfTrailingZeros_0f7a4_3 rfl rfl ?_
  refine xj_iconst (v := 1) dJ6_numberOfTrailingZeros_0f7a4_4 ci_1 ?_
  refine xj_isub dJ6_numberOfTrailingZeros_0f7a4_5 ?_
  refine xj_iand dJ6_numberOfTrailingZeros_0f7a4_6 ?_
  refine xj_leti (fun x1 => ?_)
  refine xj_istoren (lv2 := [(0, .int x1)]) dJ6_numberOfTrailingZeros_0f7a4_7 rfl (Nat.le_of_ble_eq_true rfl) rfl ?_
  refine xj_iloadn 0 dJ6_numberOfTrailingZeros_0f7a4_8 rfl rfl ?_
  refine xj_ifgt (tgt := 17) dJ6_numberOfTrailingZeros_0f7a4_9 rfl ?_ ?_
  · refine xj_iconst (v := 1) dJ6_numberOfTrailingZeros_0f7a4_17 ci_1 ?_
    refine xj_istoren (lv2 := [(1, .int (1 : Int32)), (0, .int x1)]) dJ6_numberOfTrailingZeros_0f7a4_18 rfl (Nat.le_of_ble_eq_true rfl) rfl ?_
    refine xj_iloadn 1 dJ6_numberOfTrailingZeros_0f7a4_19 rfl rfl ?_
    refine xj_ldcw (v := 65536) tw1805 dJ6_numberOfTrailingZeros_0f7a4_20 ?_
    refine xj_ile (tgt := 34) dJ6_numberOfTrailingZeros_0f7a4_23 rfl ?_ ?_
    · refine xj_iinc (n := 0) (lv2 := [(1, .int ((1 : Int32) + (16 : Int32))), (0, .int x1)]) dJ6_numberOfTrailingZeros_0f7a4_26 rfl ci_16 (Nat.le_of_ble_eq_true rfl) rfl ?_
      refine xj_iloadn 1 dJ6_numberOfTrailingZeros_0f7a4_29 rfl rfl ?_
      refine xj_bipush (v := 16) dJ6_numberOfTrailingZeros_0f7a4_30 cb_16 ?_
      refine xj_iushr dJ6_numberOfTrailingZeros_0f7a4_32 ?_
      refine xj_istoren (lv2 := [(0, .int (xushr x1 (16 : Int32))), (1, .int ((1 : Int32) + (16 : Int32)))]) dJ6_numberOfTrailingZeros_0f7a4_33 rfl (Nat.le_of_ble_eq_true rfl) rfl ?_
      exact tJ6_numberOfTrailingZeros_0f7a4_j34 _ _ _
    · refine xj_sub (lv2 := [(0, .int x1), (1, .int (1 : Int32))]) [1, 0] rfl ?_
      exact tJ6_numberOfTrailingZeros_0f7a4_j34 _ _ _
  · refine xj_iloadn 0 dJ6_numberOfTrailingZeros_0f7a4_12 rfl rfl ?_
    refine xj_bipush (v := 32) dJ6_numberOfTrailingZeros_0f7a4_13 cb_32 ?_
    refine xj_iand dJ6_numberOfTrailingZeros_0f7a4_15 ?_
    exact xj_ri dJ6_numberOfTrailingZeros_0f7a4_16 rfl
theorem kJ6_numberOfTrailingZeros_0f7a4 (p0 : Int32) (w : xW) : xMet jI mJ6_numberOfTrailingZeros_0f7a4 lC (0, 0) [.int p0] w (sJ6_numberOfTrailingZeros_0f7a4 p0 w) := xj_met lC_ok (by decide) (Nat.le_of_ble_eq_true rfl) (Nat.zero_le _) (Nat.zero_le _) (tJ6_numberOfTrailingZeros_0f7a4 p0 w)
set_option maxRecDepth 20000 in
def sJ6_numberOfLeadingZeros_0f7a4_j73 (a0 : Int32) (a1 : Int32) (w : xW) : Option (Int32 × xW) :=
  some ((a1 - (xushr a0 (1 : Int32))), w)
set_option maxRecDepth 20000 in
theorem tJ6_numberOfLeadingZeros_0f7a4_j73 (a0 : Int32) (a1 : Int32) (w : xW) : xJ ιI mJ6_numberOfLeadingZeros_0f7a4 lC (0, 0) 73 [(0, .int a0), (1, .int a1)] [] w (sJ6_numberOfLeadingZeros_0f7a4_j73 a0 a1 w) := by
  unfold sJ6_numberOfLeadingZeros_0f7a4_j73
  refine xj_iloadn 1 dJ6_numberOfLeadingZeros_0f7a4_73 rfl rfl ?_
  refine xj_iloadn 0 dJ6_numberOfLeadingZeros_0f7a4_74 rfl rfl ?_
  refine xj_iconst (v := 1) dJ6_numberOfLeadingZeros_0f7a4_75 ci_1 ?_
  refine xj_iushr dJ6_numberOfLeadingZeros_0f7a4_76 ?_
  refine xj_isub dJ6_numberOfLeadingZeros_0f7a4_77 ?_
  exact xj_ri dJ6_numberOfLeadingZeros_0f7a4_78 rfl
set_option maxRecDepth 20000 in
def sJ6_numberOfLeadingZeros_0f7a4_j61 (a0 : Int32) (a1 : Int32) (w : xW) : Option (Int32 × xW) :=
  (if a0 < (4 : Int32) then sJ6_numberOfLeadingZeros_0f7a4_j73 a0 a1 w else sJ6_numberOfLeadingZeros_0f7a4_j73 (xushr a0 (2 : Int32)) (a1 + (-2 : Int32)) w)
set_option maxRecDepth 20000 in
theorem tJ6_numberOfLeadingZeros_0f7a4_j61 (a0 : Int32) (a1 : Int32) (w : xW) : xJ ιI mJ6_numberOfLeadingZeros_0f7a4 lC (0, 0) 61 [(0, .int a0), (1, .int a1)] [] w (sJ6_numberOfLeadingZeros_0f7a4_j61 a0 a1 w) := by
  unfold sJ6_numberOfLeadingZeros_0f7a4_j61
  refine xj_iloadn 0 dJ6_numberOfLeadingZeros_0f7a4_61 rfl rfl ?_
  refine xj_iconst (v := 4) dJ6_numberOfLeadingZeros_0f7a4_62 ci_4 ?_
  refine xj_ilt (tgt := 73) dJ6_numberOfLeadingZeros_0f7a4_63 rfl ?_ ?_
  · exact tJ6_numberOfLeadingZeros_0f7a4_j73 _ _ _
  · refine xj_iinc (n := 1) (lv2 := [(1, .int (a1 + (-2 : Int32))), (0, .int a0)]) dJ6_numberOfLeadingZeros_0f7a4_66 rfl ci_m2 (Nat.le_of_ble_eq_true rfl) rfl ?_
    refine xj_iloadn 1 dJ6_numberOfLeadingZeros_0f7a4_69 rfl rfl ?_
    refine xj_iconst (v := 2) dJ6_numberOfLeadingZeros_0f7a4_70 ci_2 ?_
    refine xj_iushr dJ6_numberOfLeadingZeros_0f7a4_71 ?_
    refine xj_istoren (lv2 := [(0, .int (xushr a0 (2 : Int32))), (1, .int (a1 + (-2 : Int32)))]) dJ6_numberOfLeadingZeros_0f7a4_72 rfl (Nat.le_of_ble_eq_true rfl) rfl ?_
    exact tJ6_numberOfLeadingZeros_0f7a4_j73 _ _ _
set_option maxRecDepth 20000 in
def sJ6_numberOfLeadingZeros_0f7a4_j48 (a0 : Int32) (a1 : Int32) (w : xW) : Option (Int32 × xW) :=
  (if a0 < (16 : Int32) then sJ6_numberOfLeadingZeros_0f7a4_j61 a0 a1 w else sJ6_numberOfLeadingZeros_0f7a4_j61 (xushr a0 (4 : Int32)) (a1 + (-4 : Int32)) w)
set_option maxRecDepth 20000 in
theorem tJ6_numberOfLeadingZeros_0f7a4_j48 (a0 : Int32) (a1 : Int32) (w : xW) : xJ ιI mJ6_numberOfLeadingZeros_0f7a4 lC (0, 0) 48 [(0, .int a0), (1, .int a1)] [] w (sJ6_numberOfLeadingZeros_0f7a4_j48 a0 a1 w) := by
  unfold sJ6_numberOfLeadingZeros_0f7a4_j48
  refine xj_iloadn 0 dJ6_numberOfLeadingZeros_0f7a4_48 rfl rfl ?_
  refine xj_bipush (v := 16) dJ6_numberOfLeadingZeros_0f7a4_49 cb_16 ?_
  refine xj_ilt (tgt := 61) dJ6_numberOfLeadingZeros_0f7a4_51 rfl ?_ ?_
  · exact tJ6_numberOfLeadingZeros_0f7a4_j61 _ _ _
  · refine xj_iinc (n := 1) (lv2 := [(1, .int (a1 + (-4 : Int32))), (0, .int a0)]) dJ6_numberOfLeadingZeros_0f7a4_54 rfl ci_m4 (Nat.le_of_ble_eq_true rfl) rfl ?_
    refine xj_iloadn 1 dJ6_numberOfLeadingZeros_0f7a4_57 rfl rfl ?_
    refine xj_iconst (v := 4) dJ6_numberOfLeadingZeros_0f7a4_58 ci_4 ?_
    refine xj_iushr dJ6_numberOfLeadingZeros_0f7a4_59 ?_
    refine xj_istoren (lv2 := [(0, .int (xushr a0 (4 : Int32))), (1, .int (a1 + (-4 : Int32)))]) dJ6_numberOfLeadingZeros_0f7a4_60 rfl (Nat.le_of_ble_eq_true rfl) rfl ?_
    exact tJ6_numberOfLeadingZeros_0f7a4_j61 _ _ _
set_option maxRecDepth 20000 in
def sJ6_numberOfLeadingZeros_0f7a4_j33 (a0 : Int32) (a1 : Int32) (w : xW) : Option (Int32 × xW) :=
  (if a0 < (256 : Int32) then sJ6_numberOfLeadingZeros_0f7a4_j48 a0 a1 w else sJ6_numberOfLeadingZeros_0f7a4_j48 (xushr a0 (8 : Int32)) (a1 + (-8 : Int32)) w)
set_option maxRecDepth 20000 in
theorem tJ6_numberOfLeadingZeros_0f7a4_j33 (a0 : Int32) (a1 : Int32) (w : xW) : xJ ιI mJ6_numberOfLeadingZeros_0f7a4 lC (0, 0) 33 [(0, .int a0), (1, .int a1)] [] w (sJ6_numberOfLeadingZeros_0f7a4_j33 a0 a1 w) := by
  unfold sJ6_numberOfLeadingZeros_0f7a4_j33
  refine xj_iloadn 0 dJ6_numberOfLeadingZeros_0f7a4_33 rfl rfl ?_
  refine xj_sipush (v := 256) dJ6_numberOfLeadingZeros_0f7a4_34 cs_256 ?_
  refine xj_ilt (tgt := 48) dJ6_numberOfLeadingZeros_0f7a4_37 rfl ?_ ?_
  · exact tJ6_numberOfLeadingZeros_0f7a4_j48 _ _ _
  · refine xj_iinc (n := 1) (lv2 := [(1, .int (a1 + (-8 : Int32))), (0, .int a0)]) dJ6_numberOfLeadingZeros_0f7a4_40 rfl ci_m8 (Nat.le_of_ble_eq_true rfl) rfl ?_
    refine xj_iloadn 1 dJ6_numberOfLeadingZeros_0f7a4_43 rfl rfl ?_
    refine xj_bipush (v := 8) dJ6_numberOfLeadingZeros_0f7a4_44 cb_8 ?_
    refine xj_iushr dJ6_numberOfLeadingZeros_0f7a4_46 ?_
    refine xj_istoren (lv2 := [(0, .int (xushr a0 (8 : Int32))), (1, .int (a1 + (-8 : Int32)))]) dJ6_numberOfLeadingZeros_0f7a4_47 rfl (Nat.le_of_ble_eq_true rfl) rfl ?_
    exact tJ6_numberOfLeadingZeros_0f7a4_j48 _ _ _
set_option maxRecDepth 20000 in
def sJ6_numberOfLeadingZeros_0f7a4 (p0 : Int32) (w : xW) : Option (Int32 × xW) :=
  (if 0 < p0 then (if p0 < (65536 : Int32) then sJ6_numberOfLeadingZeros_0f7a4_j33 p0 (31 : Int32) w else sJ6_numberOfLeadingZeros_0f7a4_j33 (xushr p0 (16 : Int32)) ((31 : Int32) + (-16 : Int32)) w) else (if p0 = 0 then some ((32 : Int32), w) else some ((0 : Int32), w)))
set_option maxRecDepth 20000 in
theorem tJ6_numberOfLeadingZeros_0f7a4 (p0 : Int32) (w : xW) : xJ ιI mJ6_numberOfLeadingZeros_0f7a4 lC (0, 0) 0 [(0, .int p0)] [] w (sJ6_numberOfLeadingZeros_0f7a4 p0 w) := by
  unfold sJ6_numberOfLeadingZeros_0f7a4
  refine xj_iloadn 0 dJ6_numberOfLeadingZeros_0f7a4_0 rfl rfl ?_
  refine xj_ifgt (tgt := 15) dJ6_numberOfLeadingZeros_0f7a4_1 rfl ?_ ?_
  · refine xj_bipush (v := 31) dJ6_numberOfLeadingZeros_0f7a4_15 cb_31 ?_
    refine xj_istoren (lv2 := [(1, .int (31 : Int32)), (0, .int p0)]) dJ6_numberOfLeadingZeros_0f7a4_17 rfl (Nat.le_of_ble_eq_true rfl) rfl ?_
    refine xj_iloadn 1 dJ6_numberOfLeadingZeros_0f7a4_18 rfl rfl ?_
    refine xj_ldcw (v := 65536) tw1805 dJ6_numberOfLeadingZeros_0f7a4_19 ?_
    refine xj_ilt (tgt := 33) dJ6_numberOfLeadingZeros_0f7a4_22 rfl ?_ ?_
    · refine xj_sub (lv2 := [(0, .int p0), (1, .int (31 : Int32))]) [1, 0] rfl ?_
      exact tJ6_numberOfLeadingZeros_0f7a4_j33 _ _ _
    · refine xj_iinc (n := 0) (lv2 := [(1, .int ((31 : Int32) + (-16 : Int32))), (0, .int p0)]) dJ6_numberOfLeadingZeros_0f7a4_25 rfl ci_m16 (Nat.le_of_ble_eq_true rfl) rfl ?_
      refine xj_iloadn 1 dJ6_numberOfLeadingZeros_0f7a4_28 rfl rfl ?_
      refine xj_bipush (v := 16) dJ6_numberOfLeadingZeros_0f7a4_29 cb_16 ?_
      refine xj_iushr dJ6_numberOfLeadingZeros_0f7a4_31 ?_
      refine xj_istoren (lv2 := [(0, .int (xushr p0 (16 : Int32))), (1, .int ((31 : Int32) + (-16 : Int32)))]) dJ6_numberOfLeadingZeros_0f7a4_32 rfl (Nat.le_of_ble_eq_true rfl) rfl ?_
      exact tJ6_numberOfLeadingZeros_0f7a4_j33 _ _ _
  · refine xj_iloadn 0 dJ6_numberOfLeadingZeros_0f7a4_4 rfl rfl ?_
    refine xj_ifne (tgt := 13) dJ6_numberOfLeadingZeros_0f7a4_5 rfl ?_ ?_
    · refine xj_bipush (v := 32) dJ6_numberOfLeadingZeros_0f7a4_8 cb_32 ?_
      refine xj_goto (tgt := 14) dJ6_numberOfLeadingZeros_0f7a4_10 rfl ?_
      exact xj_ri dJ6_numberOfLeadingZeros_0f7a4_14 rfl
    · refine xj_iconst (v := 0) dJ6_numberOfLeadingZeros_0f7a4_13 ci_0 ?_
      exact xj_ri dJ6_numberOfLeadingZeros_0f7a4_14 rfl
theorem kJ6_numberOfLeadingZeros_0f7a4 (p0 : Int32) (w : xW) : xMet jI mJ6_numberOfLeadingZeros_0f7a4 lC (0, 0) [.int p0] w (sJ6_numberOfLeadingZeros_0f7a4 p0 w) := xj_met lC_ok (by decide) (Nat.le_of_ble_eq_true rfl) (Nat.zero_le _) (Nat.zero_le _) (tJ6_numberOfLeadingZeros_0f7a4 p0 w)
set_option maxRecDepth 20000 in
def sX7_scanBits_j41 (a1 : Int32) (b0 : Int32) (w : xW) : Option (Unit × xW) :=
  (if b0 = 0 then xbd (sJ6_numberOfLeadingZeros_0f7a4 a1 w) (fun x1 w2 => xbd (sX7_writeG ((31 : Int32) - x1) w2) (fun _ w3 => some ((), w3))) else xbd (sJ6_numberOfTrailingZeros_0f7a4 a1 w) (fun x4 w5 => xbd (sX7_writeG x4 w5) (fun _ w6 => some ((), w6))))
set_option maxRecDepth 20000 in
theorem tX7_scanBits_j41 (a1 : Int32) (b0 : Int32) (w : xW) : xJ ιV mX7_scanBits lC (0, 0) 41 [(0, .ref 8), (1, .int a1)] [.int b0] w (sX7_scanBits_j41 a1 b0 w) := by
  unfold sX7_scanBits_j41
  refine xj_istoren (lv2 := [(2, .int b0), (0, .ref 8), (1, .int a1)]) dX7_scanBits_41 rfl (Nat.le_of_ble_eq_true rfl) rfl ?_
  refine xj_aloadn 1 dX7_scanBits_42 rfl rfl ?_
  refine xj_iloadn 0 dX7_scanBits_43 rfl rfl ?_
  refine xj_ifeq (tgt := 54) dX7_scanBits_44 rfl ?_ ?_
  · refine xj_bipush (v := 31) dX7_scanBits_54 cb_31 ?_
    refine xj_iloadn 2 dX7_scanBits_56 rfl rfl ?_
    refine xj_cSi (argv := [.int a1]) (rest := [.int (31 : Int32), .ref 8]) dX7_scanBits_57 (kJ6_numberOfLeadingZeros_0f7a4 a1 w) mkJ6_numberOfLeadingZeros_0f7a4 tw1806 rfl rfl rfl rfl (fun x1 w2 => ?_)
    refine xj_isub dX7_scanBits_60 ?_
    refine xj_cVv (argv := [.int ((31 : Int32) - x1)]) (rest := []) dX7_scanBits_61 (kX7_writeG ((31 : Int32) - x1) w2) mkX7_writeG tw1682 rfl rfl rfl rfl rfl rfl (fun _ w3 => ?_)
    exact xj_rv dX7_scanBits_64 rfl
  · refine xj_iloadn 2 dX7_scanBits_47 rfl rfl ?_
    refine xj_cSi (argv := [.int a1]) (rest := [.ref 8]) dX7_scanBits_48 (kJ6_numberOfTrailingZeros_0f7a4 a1 w) mkJ6_numberOfTrailingZeros_0f7a4 tw1802 rfl rfl rfl rfl (fun x4 w5 => ?_)
    refine xj_goto (tgt := 61) dX7_scanBits_51 rfl ?_
    refine xj_cVv (argv := [.int x4]) (rest := []) dX7_scanBits_61 (kX7_writeG x4 w5) mkX7_writeG tw1682 rfl rfl rfl rfl rfl rfl (fun _ w6 => ?_)
    exact xj_rv dX7_scanBits_64 rfl
set_option maxRecDepth 20000 in
def sX7_scanBits_j15 (a1 : Int32) (b0 : Int32) (b1 : Int32) (w : xW) : Option (Unit × xW) :=
  xbd (sX2_set b1 b0 w) (fun _ w1 => (if a1 = 0 then some ((), w1) else (if xin (w1.1 2 0) 54 ∧ xin (34 : Int32) 54 then (if (w1.1 2 0) = (34 : Int32) then sX7_scanBits_j41 a1 (1 : Int32) w1 else sX7_scanBits_j41 a1 (0 : Int32) w1) else none)))
set_option maxRecDepth 20000 in
theorem tX7_scanBits_j15 (a1 : Int32) (b0 : Int32) (b1 : Int32) (w : xW) : xJ ιV mX7_scanBits lC (0, 0) 15 [(0, .ref 8), (1, .int a1)] [.int b0, .int b1, .ref 9] w (sX7_scanBits_j15 a1 b0 b1 w) := by
  unfold sX7_scanBits_j15
  refine xj_cVv (argv := [.int b1, .int b0]) (rest := []) dX7_scanBits_15 (kX2_set b1 b0 w) mkX2_set tw1800 rfl rfl rfl rfl rfl rfl (fun _ w1 => ?_)
  refine xj_iloadn 1 dX7_scanBits_18 rfl rfl ?_
  refine xj_ifne (tgt := 23) dX7_scanBits_19 rfl ?_ ?_
  · exact xj_rv dX7_scanBits_22 rfl
  · refine xj_aloadn 0 dX7_scanBits_23 rfl rfl ?_
    refine gfX7_38 dX7_scanBits_24 rfl ?_
    refine gfX7_158 (v := (w1.1 2 0)) dX7_scanBits_27 rfl rfl ?_
    refine xj_gse (n := 34) 34 dX7_scanBits_30 (Nat.le_of_ble_eq_true rfl) rfl tw1801 ?_
    refine xj_guard (fun hq => ?_)
    refine xj_ane hq.1 hq.2 (tgt := 40) dX7_scanBits_33 rfl ?_ ?_
    · refine xj_iconst (v := 1) dX7_scanBits_36 ci_1 ?_
      refine xj_goto (tgt := 41) dX7_scanBits_37 rfl ?_
      exact tX7_scanBits_j41 _ _ _
    · refine xj_iconst (v := 0) dX7_scanBits_40 ci_0 ?_
      exact tX7_scanBits_j41 _ _ _
set_option maxRecDepth 20000 in
def sX7_scanBits (p1 : Int32) (w : xW) : Option (Unit × xW) :=
  (if p1 = 0 then sX7_scanBits_j15 p1 (1 : Int32) (64 : Int32) w else sX7_scanBits_j15 p1 (0 : Int32) (64 : Int32) w)
set_option maxRecDepth 20000 in
theorem tX7_scanBits (p1 : Int32) (w : xW) : xJ ιV mX7_scanBits lC (0, 0) 0 [(0, .ref 8), (1, .int p1)] [] w (sX7_scanBits p1 w) := by
  unfold sX7_scanBits
  refine xj_aloadn 0 dX7_scanBits_0 rfl rfl ?_
  refine gfX7_12 dX7_scanBits_1 rfl ?_
  refine xj_bipush (v := 64) dX7_scanBits_4 cb_64 ?_
  refine xj_iloadn 1 dX7_scanBits_6 rfl rfl ?_
  refine xj_ifne (tgt := 14) dX7_scanBits_7 rfl ?_ ?_
  · refine xj_iconst (v := 1) dX7_scanBits_10 ci_1 ?_
    refine xj_goto (tgt := 15) dX7_scanBits_11 rfl ?_
    exact tX7_scanBits_j15 _ _ _ _
  · refine xj_iconst (v := 0) dX7_scanBits_14 ci_0 ?_
    exact tX7_scanBits_j15 _ _ _ _
theorem kX7_scanBits (p1 : Int32) (w : xW) : xMet jV mX7_scanBits lC (0, 0) [.ref 8, .int p1] w (sX7_scanBits p1 w) := xj_met lC_ok (by decide) (Nat.le_of_ble_eq_true rfl) (Nat.zero_le _) (Nat.zero_le _) (tX7_scanBits p1 w)
set_option maxRecDepth 20000 in
def sJ6_reverseBytes_0f7a4 (p0 : Int32) (w : xW) : Option (Int32 × xW) :=
  some (((((p0 <<< ((24 : Int32) &&& 31)) ||| ((p0 &&& (65280 : Int32)) <<< ((8 : Int32) &&& 31))) ||| ((xushr p0 (8 : Int32)) &&& (65280 : Int32))) ||| (xushr p0 (24 : Int32))), w)
set_option maxRecDepth 20000 in
theorem tJ6_reverseBytes_0f7a4 (p0 : Int32) (w : xW) : xJ ιI mJ6_reverseBytes_0f7a4 lC (0, 0) 0 [(0, .int p0)] [] w (sJ6_reverseBytes_0f7a4 p0 w) := by
  unfold sJ6_reverseBytes_0f7a4
  refine xj_iloadn 0 dJ6_reverseBytes_0f7a4_0 rfl rfl ?_
  refine xj_bipush (v := 24) dJ6_reverseBytes_0f7a4_1 cb_24 ?_
  refine xj_ishl dJ6_reverseBytes_0f7a4_3 ?_
  refine xj_iloadn 0 dJ6_reverseBytes_0f7a4_4 rfl rfl ?_
  refine xj_ldcw (v := 65280) tw1812 dJ6_reverseBytes_0f7a4_5 ?_
  refine xj_iand dJ6_reverseBytes_0f7a4_8 ?_
  refine xj_bipush (v := 8) dJ6_reverseBytes_0f7a4_9 cb_8 ?_
  refine xj_ishl dJ6_reverseBytes_0f7a4_11 ?_
  refine xj_ior dJ6_reverseBytes_0f7a4_12 ?_
  refine xj_iloadn 0 dJ6_reverseBytes_0f7a4_13 rfl rfl ?_
  refine xj_bipush (v := 8) dJ6_reverseBytes_0f7a4_14 cb_8 ?_
  refine xj_iushr dJ6_reverseBytes_0f7a4_16 ?_
  refine xj_ldcw (v := 65280) tw1812 dJ6_reverseBytes_0f7a4_17 ?_
  refine xj_iand dJ6_reverseBytes_0f7a4_20 ?_
  refine xj_ior dJ6_reverseBytes_0f7a4_21 ?_
  refine xj_iloadn 0 dJ6_reverseBytes_0f7a4_22 rfl rfl ?_
  refine xj_bipush (v := 24) dJ6_reverseBytes_0f7a4_23 cb_24 ?_
  refine xj_iushr dJ6_reverseBytes_0f7a4_25 ?_
  refine xj_ior dJ6_reverseBytes_0f7a4_26 ?_
  exact xj_ri dJ6_reverseBytes_0f7a4_27 rfl
theorem kJ6_reverseBytes_0f7a4 (p0 : Int32) (w : xW) : xMet jI mJ6_reverseBytes_0f7a4 lC (0, 0) [.int p0] w (sJ6_reverseBytes_0f7a4 p0 w) := xj_met lC_ok (by decide) (Nat.le_of_ble_eq_true rfl) (Nat.zero_le _) (Nat.zero_le _) (tJ6_reverseBytes_0f7a4 p0 w)
set_option maxRecDepth 20000 in
def sX7_doRearrange_j44 (w : xW) : Option (Unit × xW) :=
  xbd (sX7_readE w) (fun x1 w2 => xbd (sX7_scanBits x1 w2) (fun _ w3 => some ((), w3)))
set_option maxRecDepth 20000 in
theorem tX7_doRearrange_j44 (w : xW) : xJ ιV mX7_doRearrange lC (0, 0) 44 [(0, .ref 8)] [] w (sX7_doRearrange_j44 w) := by
  unfold sX7_doRearrange_j44
  refine xj_aloadn 0 dX7_doRearrange_44 rfl rfl ?_
  refine xj_aloadn 0 dX7_doRearrange_45 rfl rfl ?_
  refine xj_cVi (argv := []) (rest := [.ref 8]) dX7_doRearrange_46 (kX7_readE w) mkX7_readE tw1617 rfl rfl rfl rfl rfl rfl (fun x1 w2 => ?_)
  refine xj_cVv (argv := [.int x1]) (rest := []) dX7_doRearrange_49 (kX7_scanBits x1 w2) mkX7_scanBits tw1796 rfl rfl rfl rfl rfl rfl (fun _ w3 => ?_)
  refine xj_goto (tgt := 100) dX7_doRearrange_52 rfl ?_
  exact xj_rv dX7_doRearrange_100 rfl
set_option maxRecDepth 20000 in
def sX7_doRearrange (w : xW) : Option (Unit × xW) :=
  (if xin (w.1 2 0) 54 then (if xin (w.1 2 0) 54 then xsw (opSw (w.1 2 0)) (16) [sX7_doRearrange_j44 w, sX7_doRearrange_j44 w, xbd (sX7_readE w) (fun x1 w2 => xbd (sJ6_reverseBytes_0f7a4 x1 w2) (fun x3 w4 => xbd (sX7_writeE x3 w4) (fun _ w5 => some ((), w5)))), (if xin (0 : Int32) 8 then (if xin (0 : Int32) 8 then some ((), (xwi w 20 ((0 : Int32).toNatClampNeg) ((w.1 20 ((0 : Int32).toNatClampNeg)).toInt16.toInt32))) else none) else none)] ((if xin (0 : Int32) 8 then (if xin (2 : Int32) 8 then some ((), (xwi w 20 ((2 : Int32).toNatClampNeg) ((w.1 20 ((0 : Int32).toNatClampNeg)) >>> ((31 : Int32) &&& 31)))) else none) else none)) else none) else none)
set_option maxRecDepth 20000 in
theorem tX7_doRearrange (w : xW) : xJ ιV mX7_doRearrange lC (0, 0) 0 [(0, .ref 8)] [] w (sX7_doRearrange w) := by
  unfold sX7_doRearrange
  refine xj_gsv (v := .ref 3000) dX7_doRearrange_0 tw1783 (fun G A U H h => h.2.1.1) ?_
  refine xj_aloadn 0 dX7_doRearrange_3 rfl rfl ?_
  refine gfX7_38 dX7_doRearrange_4 rfl ?_
  refine gfX7_158 (v := (w.1 2 0)) dX7_doRearrange_7 rfl rfl ?_
  refine xj_ord (rest := [.ref 3000]) dX7_doRearrange_10 tw1784 rfl rfl ?_
  refine xj_guard (fun hi => ?_)
  refine xj_ialds (f := fun j => opSwL.getD j 0) dX7_doRearrange_13 hi (fun G A U H h => h.2.1.2) ?_
  refine xj_tsw (tgtd := 85) [44, 44, 55, 69] dX7_doRearrange_14 rfl rfl rfl rfl ?_ ⟨?_, ?_, ?_, ?_, trivial⟩
  · refine xj_aloadn 0 dX7_doRearrange_85 rfl rfl ?_
    refine gfX7_18 dX7_doRearrange_86 rfl ?_
    refine xj_iconst (v := 2) dX7_doRearrange_89 ci_2 ?_
    refine xj_aloadn 0 dX7_doRearrange_90 rfl rfl ?_
    refine gfX7_18 dX7_doRearrange_91 rfl ?_
    refine xj_iconst (v := 0) dX7_doRearrange_94 ci_0 ?_
    refine xj_iald (k := 20) dX7_doRearrange_95 rfl ?_
    refine xj_bipush (v := 31) dX7_doRearrange_96 cb_31 ?_
    refine xj_ishr dX7_doRearrange_98 ?_
    refine xj_iast (k := 20) dX7_doRearrange_99 rfl ?_
    exact xj_rv dX7_doRearrange_100 rfl
  · exact tX7_doRearrange_j44 _
  · exact tX7_doRearrange_j44 _
  · refine xj_aloadn 0 dX7_doRearrange_55 rfl rfl ?_
    refine xj_aloadn 0 dX7_doRearrange_56 rfl rfl ?_
    refine xj_cVi (argv := []) (rest := [.ref 8]) dX7_doRearrange_57 (kX7_readE w) mkX7_readE tw1617 rfl rfl rfl rfl rfl rfl (fun x1 w2 => ?_)
    refine xj_cSi (argv := [.int x1]) (rest := [.ref 8]) dX7_doRearrange_60 (kJ6_reverseBytes_0f7a4 x1 w2) mkJ6_reverseBytes_0f7a4 tw1809 rfl rfl rfl rfl (fun x3 w4 => ?_)
    refine xj_cVv (argv := [.int x3]) (rest := []) dX7_doRearrange_63 (kX7_writeE x3 w4) mkX7_writeE tw1690 rfl rfl rfl rfl rfl rfl (fun _ w5 => ?_)
    refine xj_goto (tgt := 100) dX7_doRearrange_66 rfl ?_
    exact xj_rv dX7_doRearrange_100 rfl
  · refine xj_aloadn 0 dX7_doRearrange_69 rfl rfl ?_
    refine gfX7_18 dX7_doRearrange_70 rfl ?_
    refine xj_iconst (v := 0) dX7_doRearrange_73 ci_0 ?_
    refine xj_aloadn 0 dX7_doRearrange_74 rfl rfl ?_
    refine gfX7_18 dX7_doRearrange_75 rfl ?_
    refine xj_iconst (v := 0) dX7_doRearrange_78 ci_0 ?_
    refine xj_iald (k := 20) dX7_doRearrange_79 rfl ?_
    refine xj_i2s dX7_doRearrange_80 ?_
    refine xj_iast (k := 20) dX7_doRearrange_81 rfl ?_
    refine xj_goto (tgt := 100) dX7_doRearrange_82 rfl ?_
    exact xj_rv dX7_doRearrange_100 rfl
theorem kX7_doRearrange (w : xW) : xMet jV mX7_doRearrange lC (0, 0) [.ref 8] w (sX7_doRearrange w) := xj_met lC_ok (by decide) (Nat.le_of_ble_eq_true rfl) (Nat.zero_le _) (Nat.zero_le _) (tX7_doRearrange w)
set_option maxRecDepth 20000 in
def sX7_doExchange (w : xW) : Option (Unit × xW) :=
  xbd (sX7_readE w) (fun x1 w2 => xbd (sX7_readG w2) (fun x3 w4 => (if xin (w4.1 2 0) 54 then (if xin (w4.1 2 0) 54 then (if (opSw (w4.1 2 0)) = (20 : Int32) then xbd (sX7_writeG x1 w4) (fun _ w5 => xbd (sX7_writeE x3 w5) (fun _ w6 => some ((), w6))) else (if (opSw (w4.1 2 0)) = (21 : Int32) then xbd (sX7_writeG x1 w4) (fun _ w7 => xbd (sX2_add x1 x3 (0 : Int32) (4 : Int32) w7) (fun x8 w9 => xbd (sX7_writeE x8 w9) (fun _ w10 => some ((), w10)))) else (if xin (0 : Int32) 8 then xbd (sX2_subtract (w4.1 20 ((0 : Int32).toNatClampNeg)) x1 (0 : Int32) (4 : Int32) w4) (fun x11 w12 => (if xin (0 : Int32) 8 then (if (w12.1 20 ((0 : Int32).toNatClampNeg)) = x1 then xbd (sX7_writeE x3 w12) (fun _ w13 => some ((), w13)) else (if xin (0 : Int32) 8 then some ((), (xwi w12 20 ((0 : Int32).toNatClampNeg) x1)) else none)) else none)) else none))) else none) else none)))
set_option maxRecDepth 20000 in
theorem tX7_doExchange (w : xW) : xJ ιV mX7_doExchange lC (0, 0) 0 [(0, .ref 8)] [] w (sX7_doExchange w) := by
  unfold sX7_doExchange
  refine xj_aloadn 0 dX7_doExchange_0 rfl rfl ?_
  refine xj_cVi (argv := []) (rest := []) dX7_doExchange_1 (kX7_readE w) mkX7_readE tw1617 rfl rfl rfl rfl rfl rfl (fun x1 w2 => ?_)
  refine xj_istoren (lv2 := [(1, .int x1), (0, .ref 8)]) dX7_doExchange_4 rfl (Nat.le_of_ble_eq_true rfl) rfl ?_
  refine xj_aloadn 1 dX7_doExchange_5 rfl rfl ?_
  refine xj_cVi (argv := []) (rest := []) dX7_doExchange_6 (kX7_readG w2) mkX7_readG tw1608 rfl rfl rfl rfl rfl rfl (fun x3 w4 => ?_)
  refine xj_istoren (lv2 := [(2, .int x3), (1, .int x1), (0, .ref 8)]) dX7_doExchange_9 rfl (Nat.le_of_ble_eq_true rfl) rfl ?_
  refine xj_gsv (v := .ref 3000) dX7_doExchange_10 tw1783 (fun G A U H h => h.2.1.1) ?_
  refine xj_aloadn 2 dX7_doExchange_13 rfl rfl ?_
  refine gfX7_38 dX7_doExchange_14 rfl ?_
  refine gfX7_158 (v := (w4.1 2 0)) dX7_doExchange_17 rfl rfl ?_
  refine xj_ord (rest := [.ref 3000]) dX7_doExchange_20 tw1784 rfl rfl ?_
  refine xj_guard (fun hi => ?_)
  refine xj_ialds (f := fun j => opSwL.getD j 0) dX7_doExchange_23 hi (fun G A U H h => h.2.1.2) ?_
  refine xj_lsw2 (t1 := 52) (t2 := 65) (tgtd := 88) dX7_doExchange_24 rfl rfl rfl (by decide) (by decide) (by decide) ?_ ?_ ?_
  · refine xj_aloadn 2 dX7_doExchange_52 rfl rfl ?_
    refine xj_iloadn 1 dX7_doExchange_53 rfl rfl ?_
    refine xj_cVv (argv := [.int x1]) (rest := []) dX7_doExchange_54 (kX7_writeG x1 w4) mkX7_writeG tw1682 rfl rfl rfl rfl rfl rfl (fun _ w5 => ?_)
    refine xj_aloadn 2 dX7_doExchange_57 rfl rfl ?_
    refine xj_iloadn 0 dX7_doExchange_58 rfl rfl ?_
    refine xj_cVv (argv := [.int x3]) (rest := []) dX7_doExchange_59 (kX7_writeE x3 w5) mkX7_writeE tw1690 rfl rfl rfl rfl rfl rfl (fun _ w6 => ?_)
    refine xj_goto (tgt := 130) dX7_doExchange_62 rfl ?_
    exact xj_rv dX7_doExchange_130 rfl
  · refine xj_aloadn 2 dX7_doExchange_65 rfl rfl ?_
    refine xj_iloadn 1 dX7_doExchange_66 rfl rfl ?_
    refine xj_cVv (argv := [.int x1]) (rest := []) dX7_doExchange_67 (kX7_writeG x1 w4) mkX7_writeG tw1682 rfl rfl rfl rfl rfl rfl (fun _ w7 => ?_)
    refine xj_aloadn 2 dX7_doExchange_70 rfl rfl ?_
    refine xj_aloadn 2 dX7_doExchange_71 rfl rfl ?_
    refine gfX7_12 dX7_doExchange_72 rfl ?_
    refine xj_iloadn 1 dX7_doExchange_75 rfl rfl ?_
    refine xj_iloadn 0 dX7_doExchange_76 rfl rfl ?_
    refine xj_iconst (v := 0) dX7_doExchange_77 ci_0 ?_
    refine xj_iconst (v := 4) dX7_doExchange_78 ci_4 ?_
    refine xj_cVi (argv := [.int x1, .int x3, .int (0 : Int32), .int (4 : Int32)]) (rest := [.ref 8]) dX7_doExchange_79 (kX2_add x1 x3 (0 : Int32) (4 : Int32) w7) mkX2_add tw1817 rfl rfl rfl rfl rfl rfl (fun x8 w9 => ?_)
    refine xj_cVv (argv := [.int x8]) (rest := []) dX7_doExchange_82 (kX7_writeE x8 w9) mkX7_writeE tw1690 rfl rfl rfl rfl rfl rfl (fun _ w10 => ?_)
    refine xj_goto (tgt := 130) dX7_doExchange_85 rfl ?_
    exact xj_rv dX7_doExchange_130 rfl
  · refine xj_aloadn 2 dX7_doExchange_88 rfl rfl ?_
    refine gfX7_12 dX7_doExchange_89 rfl ?_
    refine xj_aloadn 2 dX7_doExchange_92 rfl rfl ?_
    refine gfX7_18 dX7_doExchange_93 rfl ?_
    refine xj_iconst (v := 0) dX7_doExchange_96 ci_0 ?_
    refine xj_iald (k := 20) dX7_doExchange_97 rfl ?_
    refine xj_iloadn 1 dX7_doExchange_98 rfl rfl ?_
    refine xj_iconst (v := 0) dX7_doExchange_99 ci_0 ?_
    refine xj_iconst (v := 4) dX7_doExchange_100 ci_4 ?_
    refine xj_cVi (argv := [.int (w4.1 20 ((0 : Int32).toNatClampNeg)), .int x1, .int (0 : Int32), .int (4 : Int32)]) (rest := []) dX7_doExchange_101 (kX2_subtract (w4.1 20 ((0 : Int32).toNatClampNeg)) x1 (0 : Int32) (4 : Int32) w4) mkX2_subtract tw1818 rfl rfl rfl rfl rfl rfl (fun x11 w12 => ?_)
    refine xj_pop dX7_doExchange_104 rfl ?_
    refine xj_aloadn 2 dX7_doExchange_105 rfl rfl ?_
    refine gfX7_18 dX7_doExchange_106 rfl ?_
    refine xj_iconst (v := 0) dX7_doExchange_109 ci_0 ?_
    refine xj_iald (k := 20) dX7_doExchange_110 rfl ?_
    refine xj_iloadn 1 dX7_doExchange_111 rfl rfl ?_
    refine xj_ine (tgt := 123) dX7_doExchange_112 rfl ?_ ?_
    · refine xj_aloadn 2 dX7_doExchange_115 rfl rfl ?_
      refine xj_iloadn 0 dX7_doExchange_116 rfl rfl ?_
      refine xj_cVv (argv := [.int x3]) (rest := []) dX7_doExchange_117 (kX7_writeE x3 w12) mkX7_writeE tw1690 rfl rfl rfl rfl rfl rfl (fun _ w13 => ?_)
      refine xj_goto (tgt := 130) dX7_doExchange_120 rfl ?_
      exact xj_rv dX7_doExchange_130 rfl
    · refine xj_aloadn 2 dX7_doExchange_123 rfl rfl ?_
      refine gfX7_18 dX7_doExchange_124 rfl ?_
      refine xj_iconst (v := 0) dX7_doExchange_127 ci_0 ?_
      refine xj_iloadn 1 dX7_doExchange_128 rfl rfl ?_
      refine xj_iast (k := 20) dX7_doExchange_129 rfl ?_
      exact xj_rv dX7_doExchange_130 rfl
theorem kX7_doExchange (w : xW) : xMet jV mX7_doExchange lC (0, 0) [.ref 8] w (sX7_doExchange w) := xj_met lC_ok (by decide) (Nat.le_of_ble_eq_true rfl) (Nat.zero_le _) (Nat.zero_le _) (tX7_doExchange w)
set_option maxRecDepth 20000 in
def sX7_push (p1 : Int32) (w : xW) : Option (Unit × xW) :=
  (if xin (4 : Int32) 8 then (if xin (4 : Int32) 8 then (if xin (4 : Int32) 8 then xbd (sX8_store ((xwi w 20 ((4 : Int32).toNatClampNeg) ((w.1 20 ((4 : Int32).toNatClampNeg)) - (4 : Int32))).1 20 ((4 : Int32).toNatClampNeg)) (4 : Int32) p1 (xwi w 20 ((4 : Int32).toNatClampNeg) ((w.1 20 ((4 : Int32).toNatClampNeg)) - (4 : Int32)))) (fun _ w1 => some ((), w1)) else none) else none) else none)
set_option maxRecDepth 20000 in
theorem tX7_push (p1 : Int32) (w : xW) : xJ ιV mX7_push lC (0, 0) 0 [(0, .ref 8), (1, .int p1)] [] w (sX7_push p1 w) := by
  unfold sX7_push
  refine xj_aloadn 0 dX7_push_0 rfl rfl ?_
  refine gfX7_18 dX7_push_1 rfl ?_
  refine xj_iconst (v := 4) dX7_push_4 ci_4 ?_
  refine xj_dup2 dX7_push_5 rfl rfl ?_
  refine xj_iald (k := 20) dX7_push_6 rfl ?_
  refine xj_iconst (v := 4) dX7_push_7 ci_4 ?_
  refine xj_isub dX7_push_8 ?_
  refine xj_iast (k := 20) dX7_push_9 rfl ?_
  refine xj_aloadn 0 dX7_push_10 rfl rfl ?_
  refine gfX7_42 dX7_push_11 rfl ?_
  refine xj_aloadn 0 dX7_push_14 rfl rfl ?_
  refine gfX7_18 dX7_push_15 rfl ?_
  refine xj_iconst (v := 4) dX7_push_18 ci_4 ?_
  refine xj_iald (k := 20) dX7_push_19 rfl ?_
  refine xj_iconst (v := 4) dX7_push_20 ci_4 ?_
  refine xj_iloadn 1 dX7_push_21 rfl rfl ?_
  refine xj_cVv (argv := [.int ((xwi w 20 ((4 : Int32).toNatClampNeg) ((w.1 20 ((4 : Int32).toNatClampNeg)) - (4 : Int32))).1 20 ((4 : Int32).toNatClampNeg)), .int (4 : Int32), .int p1]) (rest := []) dX7_push_22 (kX8_store ((xwi w 20 ((4 : Int32).toNatClampNeg) ((w.1 20 ((4 : Int32).toNatClampNeg)) - (4 : Int32))).1 20 ((4 : Int32).toNatClampNeg)) (4 : Int32) p1 (xwi w 20 ((4 : Int32).toNatClampNeg) ((w.1 20 ((4 : Int32).toNatClampNeg)) - (4 : Int32)))) mkX8_store tw1694 rfl rfl rfl rfl rfl rfl (fun _ w1 => ?_)
  exact xj_rv dX7_push_25 rfl
theorem kX7_push (p1 : Int32) (w : xW) : xMet jV mX7_push lC (0, 0) [.ref 8, .int p1] w (sX7_push p1 w) := xj_met lC_ok (by decide) (Nat.le_of_ble_eq_true rfl) (Nat.zero_le _) (Nat.zero_le _) (tX7_push p1 w)
set_option maxRecDepth 20000 in
def sX7_doStack_j140 (b0 : Int32) (w : xW) : Option (Unit × xW) :=
  xbd (sX7_push (w.1 8 15) w) (fun _ w1 => some ((), (xwi w1 8 15 b0)))
set_option maxRecDepth 20000 in
theorem tX7_doStack_j140 (b0 : Int32) (w : xW) : xJ ιV mX7_doStack lC (0, 0) 140 [(0, .ref 8)] [.int b0] w (sX7_doStack_j140 b0 w) := by
  unfold sX7_doStack_j140
  refine xj_istoren (lv2 := [(2, .int b0), (0, .ref 8)]) dX7_doStack_140 rfl (Nat.le_of_ble_eq_true rfl) rfl ?_
  refine xj_aloadn 1 dX7_doStack_141 rfl rfl ?_
  refine xj_aloadn 1 dX7_doStack_142 rfl rfl ?_
  refine gfX7_136 (v := (w.1 8 15)) dX7_doStack_143 rfl rfl ?_
  refine xj_cVv (argv := [.int (w.1 8 15)]) (rest := []) dX7_doStack_146 (kX7_push (w.1 8 15) w) mkX7_push tw1823 rfl rfl rfl rfl rfl rfl (fun _ w1 => ?_)
  refine xj_aloadn 1 dX7_doStack_149 rfl rfl ?_
  refine xj_iloadn 0 dX7_doStack_150 rfl rfl ?_
  refine pfX7_136 dX7_doStack_151 rfl ?_
  exact xj_rv dX7_doStack_154 rfl
set_option maxRecDepth 20000 in
def sX7_doStack (w : xW) : Option (Unit × xW) :=
  (if xin (w.1 2 0) 54 then (if xin (w.1 2 0) 54 then (if (opSw (w.1 2 0)) = (22 : Int32) then (if (w.1 2 1) = (6 : Int32) then xbd (sX7_push (w.1 2 13) w) (fun _ w4 => some ((), w4)) else xbd (sX7_readE w) (fun x1 w2 => xbd (sX7_push x1 w2) (fun _ w3 => some ((), w3)))) else (if (opSw (w.1 2 0)) = (23 : Int32) then (if xin (4 : Int32) 8 then xbd (sX8_load (w.1 20 ((4 : Int32).toNatClampNeg)) (4 : Int32) w) (fun x5 w6 => (if xin (4 : Int32) 8 then (if xin (4 : Int32) 8 then xbd (sX7_addressOfE (xwi w6 20 ((4 : Int32).toNatClampNeg) ((w6.1 20 ((4 : Int32).toNatClampNeg)) + (4 : Int32)))) (fun x7 w8 => xbd (sX7_writeE x5 (xwi w8 8 14 x7)) (fun _ w9 => some ((), w9))) else none) else none)) else none) else (if (w.1 2 1) = (9 : Int32) then sX7_doStack_j140 (w.1 2 13) w else xbd (sX7_readE w) (fun x10 w11 => sX7_doStack_j140 x10 w11)))) else none) else none)
set_option maxRecDepth 20000 in
theorem tX7_doStack (w : xW) : xJ ιV mX7_doStack lC (0, 0) 0 [(0, .ref 8)] [] w (sX7_doStack w) := by
  unfold sX7_doStack
  refine xj_gsv (v := .ref 3000) dX7_doStack_0 tw1783 (fun G A U H h => h.2.1.1) ?_
  refine xj_aloadn 0 dX7_doStack_3 rfl rfl ?_
  refine gfX7_38 dX7_doStack_4 rfl ?_
  refine gfX7_158 (v := (w.1 2 0)) dX7_doStack_7 rfl rfl ?_
  refine xj_ord (rest := [.ref 3000]) dX7_doStack_10 tw1784 rfl rfl ?_
  refine xj_guard (fun hi => ?_)
  refine xj_ialds (f := fun j => opSwL.getD j 0) dX7_doStack_13 hi (fun G A U H h => h.2.1.2) ?_
  refine xj_lsw2 (t1 := 40) (t2 := 73) (tgtd := 114) dX7_doStack_14 rfl rfl rfl (by decide) (by decide) (by decide) ?_ ?_ ?_
  · refine xj_aloadn 0 dX7_doStack_40 rfl rfl ?_
    refine xj_aloadn 0 dX7_doStack_41 rfl rfl ?_
    refine gfX7_38 dX7_doStack_42 rfl ?_
    refine gfX7_234 (v := (w.1 2 1)) dX7_doStack_45 rfl rfl ?_
    refine xj_bipush (v := 6) dX7_doStack_48 cb_6 ?_
    refine xj_ine (tgt := 63) dX7_doStack_50 rfl ?_ ?_
    · refine xj_aloadn 0 dX7_doStack_53 rfl rfl ?_
      refine gfX7_38 dX7_doStack_54 rfl ?_
      refine gfX7_237 (v := (w.1 2 13)) dX7_doStack_57 rfl rfl ?_
      refine xj_goto (tgt := 67) dX7_doStack_60 rfl ?_
      refine xj_cVv (argv := [.int (w.1 2 13)]) (rest := []) dX7_doStack_67 (kX7_push (w.1 2 13) w) mkX7_push tw1823 rfl rfl rfl rfl rfl rfl (fun _ w4 => ?_)
      refine xj_goto (tgt := 154) dX7_doStack_70 rfl ?_
      exact xj_rv dX7_doStack_154 rfl
    · refine xj_aloadn 0 dX7_doStack_63 rfl rfl ?_
      refine xj_cVi (argv := []) (rest := [.ref 8]) dX7_doStack_64 (kX7_readE w) mkX7_readE tw1617 rfl rfl rfl rfl rfl rfl (fun x1 w2 => ?_)
      refine xj_cVv (argv := [.int x1]) (rest := []) dX7_doStack_67 (kX7_push x1 w2) mkX7_push tw1823 rfl rfl rfl rfl rfl rfl (fun _ w3 => ?_)
      refine xj_goto (tgt := 154) dX7_doStack_70 rfl ?_
      exact xj_rv dX7_doStack_154 rfl
  · refine xj_aloadn 0 dX7_doStack_73 rfl rfl ?_
    refine gfX7_42 dX7_doStack_74 rfl ?_
    refine xj_aloadn 0 dX7_doStack_77 rfl rfl ?_
    refine gfX7_18 dX7_doStack_78 rfl ?_
    refine xj_iconst (v := 4) dX7_doStack_81 ci_4 ?_
    refine xj_iald (k := 20) dX7_doStack_82 rfl ?_
    refine xj_iconst (v := 4) dX7_doStack_83 ci_4 ?_
    refine xj_cVi (argv := [.int (w.1 20 ((4 : Int32).toNatClampNeg)), .int (4 : Int32)]) (rest := []) dX7_doStack_84 (kX8_load (w.1 20 ((4 : Int32).toNatClampNeg)) (4 : Int32) w) mkX8_load tw1546 rfl rfl rfl rfl rfl rfl (fun x5 w6 => ?_)
    refine xj_istoren (lv2 := [(1, .int x5), (0, .ref 8)]) dX7_doStack_87 rfl (Nat.le_of_ble_eq_true rfl) rfl ?_
    refine xj_aloadn 1 dX7_doStack_88 rfl rfl ?_
    refine gfX7_18 dX7_doStack_89 rfl ?_
    refine xj_iconst (v := 4) dX7_doStack_92 ci_4 ?_
    refine xj_dup2 dX7_doStack_93 rfl rfl ?_
    refine xj_iald (k := 20) dX7_doStack_94 rfl ?_
    refine xj_iconst (v := 4) dX7_doStack_95 ci_4 ?_
    refine xj_iadd dX7_doStack_96 ?_
    refine xj_iast (k := 20) dX7_doStack_97 rfl ?_
    refine xj_aloadn 1 dX7_doStack_98 rfl rfl ?_
    refine xj_aloadn 1 dX7_doStack_99 rfl rfl ?_
    refine xj_cVi (argv := []) (rest := [.ref 8]) dX7_doStack_100 (kX7_addressOfE (xwi w6 20 ((4 : Int32).toNatClampNeg) ((w6.1 20 ((4 : Int32).toNatClampNeg)) + (4 : Int32)))) mkX7_addressOfE tw1595 rfl rfl rfl rfl rfl rfl (fun x7 w8 => ?_)
    refine pfX7_143 dX7_doStack_103 rfl ?_
    refine xj_aloadn 1 dX7_doStack_106 rfl rfl ?_
    refine xj_iloadn 0 dX7_doStack_107 rfl rfl ?_
    refine xj_cVv (argv := [.int x5]) (rest := []) dX7_doStack_108 (kX7_writeE x5 (xwi w8 8 14 x7)) mkX7_writeE tw1690 rfl rfl rfl rfl rfl rfl (fun _ w9 => ?_)
    refine xj_goto (tgt := 154) dX7_doStack_111 rfl ?_
    exact xj_rv dX7_doStack_154 rfl
  · refine xj_aloadn 0 dX7_doStack_114 rfl rfl ?_
    refine gfX7_38 dX7_doStack_115 rfl ?_
    refine gfX7_234 (v := (w.1 2 1)) dX7_doStack_118 rfl rfl ?_
    refine xj_bipush (v := 9) dX7_doStack_121 cb_9 ?_
    refine xj_ine (tgt := 136) dX7_doStack_123 rfl ?_ ?_
    · refine xj_aloadn 0 dX7_doStack_126 rfl rfl ?_
      refine gfX7_38 dX7_doStack_127 rfl ?_
      refine gfX7_237 (v := (w.1 2 13)) dX7_doStack_130 rfl rfl ?_
      refine xj_goto (tgt := 140) dX7_doStack_133 rfl ?_
      exact tX7_doStack_j140 _ _
    · refine xj_aloadn 0 dX7_doStack_136 rfl rfl ?_
      refine xj_cVi (argv := []) (rest := []) dX7_doStack_137 (kX7_readE w) mkX7_readE tw1617 rfl rfl rfl rfl rfl rfl (fun x10 w11 => ?_)
      exact tX7_doStack_j140 _ _
theorem kX7_doStack (w : xW) : xMet jV mX7_doStack lC (0, 0) [.ref 8] w (sX7_doStack w) := xj_met lC_ok (by decide) (Nat.le_of_ble_eq_true rfl) (Nat.zero_le _) (Nat.zero_le _) (tX7_doStack w)
set_option maxRecDepth 20000 in
def sX7_doJump_j102 (a1 : Int32) (w : xW) : Option (Unit × xW) :=
  (if a1 = 0 then some ((), w) else (if (w.1 2 1) = (9 : Int32) then some ((), (xwi w 8 15 (w.1 2 13))) else xbd (sX7_readE w) (fun x1 w2 => some ((), (xwi w2 8 15 x1)))))
set_option maxRecDepth 20000 in
theorem tX7_doJump_j102 (a1 : Int32) (w : xW) : xJ ιV mX7_doJump lC (0, 0) 102 [(0, .ref 8), (1, .int a1)] [] w (sX7_doJump_j102 a1 w) := by
  unfold sX7_doJump_j102
  refine xj_iloadn 1 dX7_doJump_102 rfl rfl ?_
  refine xj_ifeq (tgt := 136) dX7_doJump_103 rfl ?_ ?_
  · exact xj_rv dX7_doJump_136 rfl
  · refine xj_aloadn 0 dX7_doJump_106 rfl rfl ?_
    refine xj_aloadn 0 dX7_doJump_107 rfl rfl ?_
    refine gfX7_38 dX7_doJump_108 rfl ?_
    refine gfX7_234 (v := (w.1 2 1)) dX7_doJump_111 rfl rfl ?_
    refine xj_bipush (v := 9) dX7_doJump_114 cb_9 ?_
    refine xj_ine (tgt := 129) dX7_doJump_116 rfl ?_ ?_
    · refine xj_aloadn 0 dX7_doJump_119 rfl rfl ?_
      refine gfX7_38 dX7_doJump_120 rfl ?_
      refine gfX7_237 (v := (w.1 2 13)) dX7_doJump_123 rfl rfl ?_
      refine xj_goto (tgt := 133) dX7_doJump_126 rfl ?_
      refine pfX7_136 dX7_doJump_133 rfl ?_
      exact xj_rv dX7_doJump_136 rfl
    · refine xj_aloadn 0 dX7_doJump_129 rfl rfl ?_
      refine xj_cVi (argv := []) (rest := [.ref 8]) dX7_doJump_130 (kX7_readE w) mkX7_readE tw1617 rfl rfl rfl rfl rfl rfl (fun x1 w2 => ?_)
      refine pfX7_136 dX7_doJump_133 rfl ?_
      exact xj_rv dX7_doJump_136 rfl
set_option maxRecDepth 20000 in
def sX7_doJump_j101 (b0 : Int32) (w : xW) : Option (Unit × xW) :=
  sX7_doJump_j102 b0 w
set_option maxRecDepth 20000 in
theorem tX7_doJump_j101 (b0 : Int32) (w : xW) : xJ ιV mX7_doJump lC (0, 0) 101 [(0, .ref 8)] [.int b0] w (sX7_doJump_j101 b0 w) := by
  unfold sX7_doJump_j101
  refine xj_istoren (lv2 := [(1, .int b0), (0, .ref 8)]) dX7_doJump_101 rfl (Nat.le_of_ble_eq_true rfl) rfl ?_
  refine xj_sub (lv2 := [(0, .ref 8), (1, .int b0)]) [1, 0] rfl ?_
  exact tX7_doJump_j102 _ _
set_option maxRecDepth 20000 in
def sX7_doJump_j70 (b0 : Int32) (w : xW) : Option (Unit × xW) :=
  sX7_doJump_j102 b0 w
set_option maxRecDepth 20000 in
theorem tX7_doJump_j70 (b0 : Int32) (w : xW) : xJ ιV mX7_doJump lC (0, 0) 70 [(0, .ref 8)] [.int b0] w (sX7_doJump_j70 b0 w) := by
  unfold sX7_doJump_j70
  refine xj_istoren (lv2 := [(1, .int b0), (0, .ref 8)]) dX7_doJump_70 rfl (Nat.le_of_ble_eq_true rfl) rfl ?_
  refine xj_goto (tgt := 102) dX7_doJump_71 rfl ?_
  refine xj_sub (lv2 := [(0, .ref 8), (1, .int b0)]) [1, 0] rfl ?_
  exact tX7_doJump_j102 _ _
set_option maxRecDepth 20000 in
def sX7_doJump (w : xW) : Option (Unit × xW) :=
  (if xin (w.1 2 0) 54 ∧ xin (46 : Int32) 54 then (if (w.1 2 0) = (46 : Int32) then xbd (sX2_holds (w.1 2 3) w) (fun x1 w2 => sX7_doJump_j102 x1 w2) else (if xin (w.1 2 0) 54 ∧ xin (47 : Int32) 54 then (if (w.1 2 0) = (47 : Int32) then (if xin (1 : Int32) 8 then (if xin (1 : Int32) 8 then (if xin (1 : Int32) 8 then (if ((xwi w 20 ((1 : Int32).toNatClampNeg) ((w.1 20 ((1 : Int32).toNatClampNeg)) - (1 : Int32))).1 20 ((1 : Int32).toNatClampNeg)) = 0 then sX7_doJump_j70 (0 : Int32) (xwi w 20 ((1 : Int32).toNatClampNeg) ((w.1 20 ((1 : Int32).toNatClampNeg)) - (1 : Int32))) else sX7_doJump_j70 (1 : Int32) (xwi w 20 ((1 : Int32).toNatClampNeg) ((w.1 20 ((1 : Int32).toNatClampNeg)) - (1 : Int32)))) else none) else none) else none) else (if xin (w.1 2 0) 54 ∧ xin (48 : Int32) 54 then (if (w.1 2 0) = (48 : Int32) then (if xin (1 : Int32) 8 then (if (w.1 20 ((1 : Int32).toNatClampNeg)) = 0 then sX7_doJump_j101 (1 : Int32) w else sX7_doJump_j101 (0 : Int32) w) else none) else sX7_doJump_j102 (1 : Int32) w) else none)) else none)) else none)
set_option maxRecDepth 20000 in
theorem tX7_doJump (w : xW) : xJ ιV mX7_doJump lC (0, 0) 0 [(0, .ref 8)] [] w (sX7_doJump w) := by
  unfold sX7_doJump
  refine xj_iconst (v := 1) dX7_doJump_0 ci_1 ?_
  refine xj_istoren (lv2 := [(1, .int (1 : Int32)), (0, .ref 8)]) dX7_doJump_1 rfl (Nat.le_of_ble_eq_true rfl) rfl ?_
  refine xj_aloadn 1 dX7_doJump_2 rfl rfl ?_
  refine gfX7_38 dX7_doJump_3 rfl ?_
  refine gfX7_158 (v := (w.1 2 0)) dX7_doJump_6 rfl rfl ?_
  refine xj_gse (n := 46) 46 dX7_doJump_9 (Nat.le_of_ble_eq_true rfl) rfl tw1831 ?_
  refine xj_guard (fun hq => ?_)
  refine xj_ane hq.1 hq.2 (tgt := 33) dX7_doJump_12 rfl ?_ ?_
  · refine xj_aloadn 1 dX7_doJump_15 rfl rfl ?_
    refine gfX7_12 dX7_doJump_16 rfl ?_
    refine xj_aloadn 1 dX7_doJump_19 rfl rfl ?_
    refine gfX7_38 dX7_doJump_20 rfl ?_
    refine gfX7_322 (v := (w.1 2 3)) dX7_doJump_23 rfl rfl ?_
    refine xj_cVi (argv := [.int (w.1 2 3)]) (rest := []) dX7_doJump_26 (kX2_holds (w.1 2 3) w) mkX2_holds tw1788 rfl rfl rfl rfl rfl rfl (fun x1 w2 => ?_)
    refine xj_istoren (lv2 := [(1, .int x1), (0, .ref 8)]) dX7_doJump_29 rfl (Nat.le_of_ble_eq_true rfl) rfl ?_
    refine xj_goto (tgt := 102) dX7_doJump_30 rfl ?_
    refine xj_sub (lv2 := [(0, .ref 8), (1, .int x1)]) [1, 0] rfl ?_
    exact tX7_doJump_j102 _ _
  · refine xj_aloadn 1 dX7_doJump_33 rfl rfl ?_
    refine gfX7_38 dX7_doJump_34 rfl ?_
    refine gfX7_158 (v := (w.1 2 0)) dX7_doJump_37 rfl rfl ?_
    refine xj_gse (n := 47) 47 dX7_doJump_40 (Nat.le_of_ble_eq_true rfl) rfl tw1832 ?_
    refine xj_guard (fun hq => ?_)
    refine xj_ane hq.1 hq.2 (tgt := 74) dX7_doJump_43 rfl ?_ ?_
    · refine xj_aloadn 1 dX7_doJump_46 rfl rfl ?_
      refine gfX7_18 dX7_doJump_47 rfl ?_
      refine xj_iconst (v := 1) dX7_doJump_50 ci_1 ?_
      refine xj_dup2 dX7_doJump_51 rfl rfl ?_
      refine xj_iald (k := 20) dX7_doJump_52 rfl ?_
      refine xj_iconst (v := 1) dX7_doJump_53 ci_1 ?_
      refine xj_isub dX7_doJump_54 ?_
      refine xj_iast (k := 20) dX7_doJump_55 rfl ?_
      refine xj_aloadn 1 dX7_doJump_56 rfl rfl ?_
      refine gfX7_18 dX7_doJump_57 rfl ?_
      refine xj_iconst (v := 1) dX7_doJump_60 ci_1 ?_
      refine xj_iald (k := 20) dX7_doJump_61 rfl ?_
      refine xj_ifeq (tgt := 69) dX7_doJump_62 rfl ?_ ?_
      · refine xj_iconst (v := 0) dX7_doJump_69 ci_0 ?_
        refine xj_sub (lv2 := [(0, .ref 8)]) [1] rfl ?_
        exact tX7_doJump_j70 _ _
      · refine xj_iconst (v := 1) dX7_doJump_65 ci_1 ?_
        refine xj_goto (tgt := 70) dX7_doJump_66 rfl ?_
        refine xj_sub (lv2 := [(0, .ref 8)]) [1] rfl ?_
        exact tX7_doJump_j70 _ _
    · refine xj_aloadn 1 dX7_doJump_74 rfl rfl ?_
      refine gfX7_38 dX7_doJump_75 rfl ?_
      refine gfX7_158 (v := (w.1 2 0)) dX7_doJump_78 rfl rfl ?_
      refine xj_gse (n := 48) 48 dX7_doJump_81 (Nat.le_of_ble_eq_true rfl) rfl tw1833 ?_
      refine xj_guard (fun hq => ?_)
      refine xj_ane hq.1 hq.2 (tgt := 102) dX7_doJump_84 rfl ?_ ?_
      · refine xj_aloadn 1 dX7_doJump_87 rfl rfl ?_
        refine gfX7_18 dX7_doJump_88 rfl ?_
        refine xj_iconst (v := 1) dX7_doJump_91 ci_1 ?_
        refine xj_iald (k := 20) dX7_doJump_92 rfl ?_
        refine xj_ifne (tgt := 100) dX7_doJump_93 rfl ?_ ?_
        · refine xj_iconst (v := 1) dX7_doJump_96 ci_1 ?_
          refine xj_goto (tgt := 101) dX7_doJump_97 rfl ?_
          refine xj_sub (lv2 := [(0, .ref 8)]) [1] rfl ?_
          exact tX7_doJump_j101 _ _
        · refine xj_iconst (v := 0) dX7_doJump_100 ci_0 ?_
          refine xj_sub (lv2 := [(0, .ref 8)]) [1] rfl ?_
          exact tX7_doJump_j101 _ _
      · refine xj_sub (lv2 := [(0, .ref 8), (1, .int (1 : Int32))]) [1, 0] rfl ?_
        exact tX7_doJump_j102 _ _
theorem kX7_doJump (w : xW) : xMet jV mX7_doJump lC (0, 0) [.ref 8] w (sX7_doJump w) := xj_met lC_ok (by decide) (Nat.le_of_ble_eq_true rfl) (Nat.zero_le _) (Nat.zero_le _) (tX7_doJump w)
set_option maxRecDepth 20000 in
def sX7_doRest (w : xW) : Option (Unit × xW) :=
  (if xin (w.1 2 0) 54 then (if xin (w.1 2 0) 54 then xsw (opSw (w.1 2 0)) (24) [some ((), (xwi w 8 10 (3 : Int32))), xbd (sX2_has (1 : Int32) w) (fun x1 w2 => (if x1 = 0 then xbd (sX2_set (1 : Int32) (1 : Int32) w2) (fun _ w4 => some ((), w4)) else xbd (sX2_set (1 : Int32) (0 : Int32) w2) (fun _ w3 => some ((), w3)))), xbd (sX2_set (1 : Int32) (0 : Int32) w) (fun _ w5 => some ((), w5)), xbd (sX2_set (1 : Int32) (1 : Int32) w) (fun _ w6 => some ((), w6))] (some ((), w)) else none) else none)
set_option maxRecDepth 20000 in
theorem tX7_doRest (w : xW) : xJ ιV mX7_doRest lC (0, 0) 0 [(0, .ref 8)] [] w (sX7_doRest w) := by
  unfold sX7_doRest
  refine xj_gsv (v := .ref 3000) dX7_doRest_0 tw1783 (fun G A U H h => h.2.1.1) ?_
  refine xj_aloadn 0 dX7_doRest_3 rfl rfl ?_
  refine gfX7_38 dX7_doRest_4 rfl ?_
  refine gfX7_158 (v := (w.1 2 0)) dX7_doRest_7 rfl rfl ?_
  refine xj_ord (rest := [.ref 3000]) dX7_doRest_10 tw1784 rfl rfl ?_
  refine xj_guard (fun hi => ?_)
  refine xj_ialds (f := fun j => opSwL.getD j 0) dX7_doRest_13 hi (fun G A U H h => h.2.1.2) ?_
  refine xj_tsw (tgtd := 103) [44, 52, 79, 91] dX7_doRest_14 rfl rfl rfl rfl ?_ ⟨?_, ?_, ?_, ?_, trivial⟩
  · exact xj_rv dX7_doRest_103 rfl
  · refine xj_aloadn 0 dX7_doRest_44 rfl rfl ?_
    refine xj_iconst (v := 3) dX7_doRest_45 ci_3 ?_
    refine pfX7_68 dX7_doRest_46 rfl ?_
    refine xj_goto (tgt := 103) dX7_doRest_49 rfl ?_
    exact xj_rv dX7_doRest_103 rfl
  · refine xj_aloadn 0 dX7_doRest_52 rfl rfl ?_
    refine gfX7_12 dX7_doRest_53 rfl ?_
    refine xj_iconst (v := 1) dX7_doRest_56 ci_1 ?_
    refine xj_aloadn 0 dX7_doRest_57 rfl rfl ?_
    refine gfX7_12 dX7_doRest_58 rfl ?_
    refine xj_iconst (v := 1) dX7_doRest_61 ci_1 ?_
    refine xj_cVi (argv := [.int (1 : Int32)]) (rest := [.int (1 : Int32), .ref 9]) dX7_doRest_62 (kX2_has (1 : Int32) w) mkX2_has tw1838 rfl rfl rfl rfl rfl rfl (fun x1 w2 => ?_)
    refine xj_ifne (tgt := 72) dX7_doRest_65 rfl ?_ ?_
    · refine xj_iconst (v := 1) dX7_doRest_68 ci_1 ?_
      refine xj_goto (tgt := 73) dX7_doRest_69 rfl ?_
      refine xj_cVv (argv := [.int (1 : Int32), .int (1 : Int32)]) (rest := []) dX7_doRest_73 (kX2_set (1 : Int32) (1 : Int32) w2) mkX2_set tw1800 rfl rfl rfl rfl rfl rfl (fun _ w4 => ?_)
      refine xj_goto (tgt := 103) dX7_doRest_76 rfl ?_
      exact xj_rv dX7_doRest_103 rfl
    · refine xj_iconst (v := 0) dX7_doRest_72 ci_0 ?_
      refine xj_cVv (argv := [.int (1 : Int32), .int (0 : Int32)]) (rest := []) dX7_doRest_73 (kX2_set (1 : Int32) (0 : Int32) w2) mkX2_set tw1800 rfl rfl rfl rfl rfl rfl (fun _ w3 => ?_)
      refine xj_goto (tgt := 103) dX7_doRest_76 rfl ?_
      exact xj_rv dX7_doRest_103 rfl
  · refine xj_aloadn 0 dX7_doRest_79 rfl rfl ?_
    refine gfX7_12 dX7_doRest_80 rfl ?_
    refine xj_iconst (v := 1) dX7_doRest_83 ci_1 ?_
    refine xj_iconst (v := 0) dX7_doRest_84 ci_0 ?_
    refine xj_cVv (argv := [.int (1 : Int32), .int (0 : Int32)]) (rest := []) dX7_doRest_85 (kX2_set (1 : Int32) (0 : Int32) w) mkX2_set tw1800 rfl rfl rfl rfl rfl rfl (fun _ w5 => ?_)
    refine xj_goto (tgt := 103) dX7_doRest_88 rfl ?_
    exact xj_rv dX7_doRest_103 rfl
  · refine xj_aloadn 0 dX7_doRest_91 rfl rfl ?_
    refine gfX7_12 dX7_doRest_92 rfl ?_
    refine xj_iconst (v := 1) dX7_doRest_95 ci_1 ?_
    refine xj_iconst (v := 1) dX7_doRest_96 ci_1 ?_
    refine xj_cVv (argv := [.int (1 : Int32), .int (1 : Int32)]) (rest := []) dX7_doRest_97 (kX2_set (1 : Int32) (1 : Int32) w) mkX2_set tw1800 rfl rfl rfl rfl rfl rfl (fun _ w6 => ?_)
    refine xj_goto (tgt := 103) dX7_doRest_100 rfl ?_
    exact xj_rv dX7_doRest_103 rfl
theorem kX7_doRest (w : xW) : xMet jV mX7_doRest lC (0, 0) [.ref 8] w (sX7_doRest w) := xj_met lC_ok (by decide) (Nat.le_of_ble_eq_true rfl) (Nat.zero_le _) (Nat.zero_le _) (tX7_doRest w)
set_option maxRecDepth 20000 in
def sX7_execute (w : xW) : Option (Unit × xW) :=
  (if xin (w.1 2 0) 54 then xsw (opKd (w.1 2 0)) (0) [xbd (sX7_doArithmetic w) (fun _ w2 => some ((), w2)), xbd (sX7_readE w) (fun x3 w4 => xbd (sX2_single (w.1 2 0) x3 (w4.1 2 4) w4) (fun x5 w6 => xbd (sX7_writeE x5 w6) (fun _ w7 => some ((), w7)))), xbd (sX7_doShift w) (fun _ w8 => some ((), w8)), xbd (sX7_doShift w) (fun _ w9 => some ((), w9)), xbd (sX7_doProduct w) (fun _ w10 => some ((), w10)), xbd (sX7_doQuotient w) (fun _ w11 => some ((), w11)), xbd (sX7_doMove w) (fun _ w12 => some ((), w12)), xbd (sX7_doRearrange w) (fun _ w13 => some ((), w13)), xbd (sX7_doExchange w) (fun _ w14 => some ((), w14)), xbd (sX7_doStack w) (fun _ w15 => some ((), w15)), xbd (sX7_doJump w) (fun _ w16 => some ((), w16))] (xbd (sX7_doRest w) (fun _ w1 => some ((), w1))) else none)
set_option maxRecDepth 20000 in
theorem tX7_execute (w : xW) : xJ ιV mX7_execute lC (0, 0) 0 [(0, .ref 8)] [] w (sX7_execute w) := by
  unfold sX7_execute
  refine xj_aloadn 0 dX7_execute_0 rfl rfl ?_
  refine gfX7_38 dX7_execute_1 rfl ?_
  refine gfX7_158 (v := (w.1 2 0)) dX7_execute_4 rfl rfl ?_
  refine xj_opkind dX7_execute_7 tw2448 ?_
  refine xj_tsw (tgtd := 163) [68, 75, 107, 107, 114, 121, 128, 135, 142, 149, 156] dX7_execute_10 rfl rfl rfl rfl ?_ ⟨?_, ?_, ?_, ?_, ?_, ?_, ?_, ?_, ?_, ?_, ?_, trivial⟩
  · refine xj_aloadn 0 dX7_execute_163 rfl rfl ?_
    refine xj_cVv (argv := []) (rest := []) dX7_execute_164 (kX7_doRest w) mkX7_doRest tw1834 rfl rfl rfl rfl rfl rfl (fun _ w1 => ?_)
    exact xj_rv dX7_execute_167 rfl
  · refine xj_aloadn 0 dX7_execute_68 rfl rfl ?_
    refine xj_cVv (argv := []) (rest := []) dX7_execute_69 (kX7_doArithmetic w) mkX7_doArithmetic tw1603 rfl rfl rfl rfl rfl rfl (fun _ w2 => ?_)
    refine xj_goto (tgt := 167) dX7_execute_72 rfl ?_
    exact xj_rv dX7_execute_167 rfl
  · refine xj_aloadn 0 dX7_execute_75 rfl rfl ?_
    refine xj_aloadn 0 dX7_execute_76 rfl rfl ?_
    refine gfX7_12 dX7_execute_77 rfl ?_
    refine xj_aloadn 0 dX7_execute_80 rfl rfl ?_
    refine gfX7_38 dX7_execute_81 rfl ?_
    refine gfX7_158 (v := (w.1 2 0)) dX7_execute_84 rfl rfl ?_
    refine xj_aloadn 0 dX7_execute_87 rfl rfl ?_
    refine xj_cVi (argv := []) (rest := [.ref (2000 + (w.1 2 0).toNatClampNeg), .ref 9, .ref 8]) dX7_execute_88 (kX7_readE w) mkX7_readE tw1617 rfl rfl rfl rfl rfl rfl (fun x3 w4 => ?_)
    refine xj_aloadn 0 dX7_execute_91 rfl rfl ?_
    refine gfX7_38 dX7_execute_92 rfl ?_
    refine gfX7_173 (v := (w4.1 2 4)) dX7_execute_95 rfl rfl ?_
    refine xj_cVi (argv := [.ref (2000 + (w.1 2 0).toNatClampNeg), .int x3, .int (w4.1 2 4)]) (rest := [.ref 8]) dX7_execute_98 (kX2_single (w.1 2 0) x3 (w4.1 2 4) w4) mkX2_single tw1701 rfl rfl rfl rfl rfl rfl (fun x5 w6 => ?_)
    refine xj_cVv (argv := [.int x5]) (rest := []) dX7_execute_101 (kX7_writeE x5 w6) mkX7_writeE tw1690 rfl rfl rfl rfl rfl rfl (fun _ w7 => ?_)
    refine xj_goto (tgt := 167) dX7_execute_104 rfl ?_
    exact xj_rv dX7_execute_167 rfl
  · refine xj_aloadn 0 dX7_execute_107 rfl rfl ?_
    refine xj_cVv (argv := []) (rest := []) dX7_execute_108 (kX7_doShift w) mkX7_doShift tw1709 rfl rfl rfl rfl rfl rfl (fun _ w8 => ?_)
    refine xj_goto (tgt := 167) dX7_execute_111 rfl ?_
    exact xj_rv dX7_execute_167 rfl
  · refine xj_aloadn 0 dX7_execute_107 rfl rfl ?_
    refine xj_cVv (argv := []) (rest := []) dX7_execute_108 (kX7_doShift w) mkX7_doShift tw1709 rfl rfl rfl rfl rfl rfl (fun _ w9 => ?_)
    refine xj_goto (tgt := 167) dX7_execute_111 rfl ?_
    exact xj_rv dX7_execute_167 rfl
  · refine xj_aloadn 0 dX7_execute_114 rfl rfl ?_
    refine xj_cVv (argv := []) (rest := []) dX7_execute_115 (kX7_doProduct w) mkX7_doProduct tw1744 rfl rfl rfl rfl rfl rfl (fun _ w10 => ?_)
    refine xj_goto (tgt := 167) dX7_execute_118 rfl ?_
    exact xj_rv dX7_execute_167 rfl
  · refine xj_aloadn 0 dX7_execute_121 rfl rfl ?_
    refine xj_cVv (argv := []) (rest := []) dX7_execute_122 (kX7_doQuotient w) mkX7_doQuotient tw1761 rfl rfl rfl rfl rfl rfl (fun _ w11 => ?_)
    refine xj_goto (tgt := 167) dX7_execute_125 rfl ?_
    exact xj_rv dX7_execute_167 rfl
  · refine xj_aloadn 0 dX7_execute_128 rfl rfl ?_
    refine xj_cVv (argv := []) (rest := []) dX7_execute_129 (kX7_doMove w) mkX7_doMove tw1779 rfl rfl rfl rfl rfl rfl (fun _ w12 => ?_)
    refine xj_goto (tgt := 167) dX7_execute_132 rfl ?_
    exact xj_rv dX7_execute_167 rfl
  · refine xj_aloadn 0 dX7_execute_135 rfl rfl ?_
    refine xj_cVv (argv := []) (rest := []) dX7_execute_136 (kX7_doRearrange w) mkX7_doRearrange tw1792 rfl rfl rfl rfl rfl rfl (fun _ w13 => ?_)
    refine xj_goto (tgt := 167) dX7_execute_139 rfl ?_
    exact xj_rv dX7_execute_167 rfl
  · refine xj_aloadn 0 dX7_execute_142 rfl rfl ?_
    refine xj_cVv (argv := []) (rest := []) dX7_execute_143 (kX7_doExchange w) mkX7_doExchange tw1813 rfl rfl rfl rfl rfl rfl (fun _ w14 => ?_)
    refine xj_goto (tgt := 167) dX7_execute_146 rfl ?_
    exact xj_rv dX7_execute_167 rfl
  · refine xj_aloadn 0 dX7_execute_149 rfl rfl ?_
    refine xj_cVv (argv := []) (rest := []) dX7_execute_150 (kX7_doStack w) mkX7_doStack tw1819 rfl rfl rfl rfl rfl rfl (fun _ w15 => ?_)
    refine xj_goto (tgt := 167) dX7_execute_153 rfl ?_
    exact xj_rv dX7_execute_167 rfl
  · refine xj_aloadn 0 dX7_execute_156 rfl rfl ?_
    refine xj_cVv (argv := []) (rest := []) dX7_execute_157 (kX7_doJump w) mkX7_doJump tw1827 rfl rfl rfl rfl rfl rfl (fun _ w16 => ?_)
    refine xj_goto (tgt := 167) dX7_execute_160 rfl ?_
    exact xj_rv dX7_execute_167 rfl
theorem kX7_execute (w : xW) : xMet jV mX7_execute lC (0, 0) [.ref 8] w (sX7_execute w) := xj_met lC_ok (by decide) (Nat.le_of_ble_eq_true rfl) (Nat.zero_le _) (Nat.zero_le _) (tX7_execute w)
set_option maxRecDepth 20000 in
def sX7_settle_j67 (w : xW) : Option (Unit × xW) :=
  some ((), (xwi w 8 11 (w.1 8 15)))
set_option maxRecDepth 20000 in
theorem tX7_settle_j67 (w : xW) : xJ ιV mX7_settle lC (0, 0) 67 [(0, .ref 8)] [] w (sX7_settle_j67 w) := by
  unfold sX7_settle_j67
  refine xj_aloadn 0 dX7_settle_67 rfl rfl ?_
  refine xj_aloadn 0 dX7_settle_68 rfl rfl ?_
  refine gfX7_136 (v := (w.1 8 15)) dX7_settle_69 rfl rfl ?_
  refine pfX7_54 dX7_settle_72 rfl ?_
  exact xj_rv dX7_settle_75 rfl
set_option maxRecDepth 20000 in
def sX7_settle (w : xW) : Option (Unit × xW) :=
  (if (w.1 6 2) = 0 then (if ((w.1 8 11) - (4096 : Int32)) < 0 then sX7_settle_j67 w else (if ((w.1 8 11) - (4096 : Int32)) < (2048 : Int32) then (if xin ((w.1 8 11) - (4096 : Int32)) 2048 then (if xin ((w.1 8 11) - (4096 : Int32)) 2048 then sX7_settle_j67 (xwi w 21 (((w.1 8 11) - (4096 : Int32)).toNatClampNeg) ((w.1 21 (((w.1 8 11) - (4096 : Int32)).toNatClampNeg)) + (1 : Int32))) else none) else none) else sX7_settle_j67 w)) else some ((), (xwi (xcp8 w 22 20) 9 0 (w.1 8 9))))
set_option maxRecDepth 20000 in
theorem tX7_settle (w : xW) : xJ ιV mX7_settle lC (0, 0) 0 [(0, .ref 8)] [] w (sX7_settle w) := by
  unfold sX7_settle
  refine xj_aloadn 0 dX7_settle_0 rfl rfl ?_
  refine gfX7_42 dX7_settle_1 rfl ?_
  refine gfX7_71 (v := (w.1 6 2)) dX7_settle_4 rfl rfl ?_
  refine xj_ifeq (tgt := 37) dX7_settle_7 rfl ?_ ?_
  · refine xj_aloadn 0 dX7_settle_37 rfl rfl ?_
    refine gfX7_54 (v := (w.1 8 11)) dX7_settle_38 rfl rfl ?_
    refine xj_sipush (v := 4096) dX7_settle_41 cs_4096 ?_
    refine xj_isub dX7_settle_44 ?_
    refine xj_istoren (lv2 := [(1, .int ((w.1 8 11) - (4096 : Int32))), (0, .ref 8)]) dX7_settle_45 rfl (Nat.le_of_ble_eq_true rfl) rfl ?_
    refine xj_iloadn 0 dX7_settle_46 rfl rfl ?_
    refine xj_iflt (tgt := 67) dX7_settle_47 rfl ?_ ?_
    · refine xj_sub (lv2 := [(0, .ref 8)]) [1] rfl ?_
      exact tX7_settle_j67 _
    · refine xj_iloadn 0 dX7_settle_50 rfl rfl ?_
      refine xj_sipush (v := 2048) dX7_settle_51 cs_2048 ?_
      refine xj_ige (tgt := 67) dX7_settle_54 rfl ?_ ?_
      · refine xj_aloadn 1 dX7_settle_57 rfl rfl ?_
        refine gfX7_24 dX7_settle_58 rfl ?_
        refine xj_iloadn 0 dX7_settle_61 rfl rfl ?_
        refine xj_dup2 dX7_settle_62 rfl rfl ?_
        refine xj_iald (k := 21) dX7_settle_63 rfl ?_
        refine xj_iconst (v := 1) dX7_settle_64 ci_1 ?_
        refine xj_iadd dX7_settle_65 ?_
        refine xj_iast (k := 21) dX7_settle_66 rfl ?_
        refine xj_sub (lv2 := [(0, .ref 8)]) [1] rfl ?_
        exact tX7_settle_j67 _
      · refine xj_sub (lv2 := [(0, .ref 8)]) [1] rfl ?_
        exact tX7_settle_j67 _
  · refine xj_aloadn 0 dX7_settle_10 rfl rfl ?_
    refine gfX7_27 dX7_settle_11 rfl ?_
    refine xj_iconst (v := 0) dX7_settle_14 ci_0 ?_
    refine xj_aloadn 0 dX7_settle_15 rfl rfl ?_
    refine gfX7_18 dX7_settle_16 rfl ?_
    refine xj_iconst (v := 0) dX7_settle_19 ci_0 ?_
    refine xj_bipush (v := 8) dX7_settle_20 cb_8 ?_
    refine xj_copy8 (k0 := 22) (k1 := 20) (rest := []) dX7_settle_22 tw1594 rfl rfl rfl rfl ?_
    refine xj_aloadn 0 dX7_settle_25 rfl rfl ?_
    refine gfX7_12 dX7_settle_26 rfl ?_
    refine xj_aloadn 0 dX7_settle_29 rfl rfl ?_
    refine gfX7_128 (v := (w.1 8 9)) dX7_settle_30 rfl rfl ?_
    refine pfX7_58 dX7_settle_33 rfl ?_
    exact xj_rv dX7_settle_36 rfl
theorem kX7_settle (w : xW) : xMet jV mX7_settle lC (0, 0) [.ref 8] w (sX7_settle w) := xj_met lC_ok (by decide) (Nat.le_of_ble_eq_true rfl) (Nat.zero_le _) (Nat.zero_le _) (tX7_settle w)
set_option maxRecDepth 20000 in
def sX7_step_j44 (w : xW) : Option (Int32 × xW) :=
  (if (w.1 6 2) = 0 then some ((1 : Int32), (xwl w 8 13 ((w.2 8 13) + (1 : Int64)))) else some ((0 : Int32), (xwi w 8 10 (w.1 6 2))))
set_option maxRecDepth 20000 in
theorem tX7_step_j44 (w : xW) : xJ ιI mX7_step lC (0, 0) 44 [(0, .ref 8)] [] w (sX7_step_j44 w) := by
  unfold sX7_step_j44
  refine xj_aloadn 0 dX7_step_44 rfl rfl ?_
  refine gfX7_42 dX7_step_45 rfl ?_
  refine gfX7_71 (v := (w.1 6 2)) dX7_step_48 rfl rfl ?_
  refine xj_ifeq (tgt := 67) dX7_step_51 rfl ?_ ?_
  · refine xj_aloadn 0 dX7_step_67 rfl rfl ?_
    refine xj_dup dX7_step_68 rfl ?_
    refine gfX7_64 (v := (w.2 8 13)) dX7_step_69 rfl rfl ?_
    refine xj_lconst (v := 1) dX7_step_72 cl_1 ?_
    refine xj_ladd dX7_step_73 ?_
    refine pfX7_64 dX7_step_74 rfl ?_
    refine xj_iconst (v := 1) dX7_step_77 ci_1 ?_
    exact xj_rz dX7_step_78 rfl (Or.inr rfl)
  · refine xj_aloadn 0 dX7_step_54 rfl rfl ?_
    refine xj_aloadn 0 dX7_step_55 rfl rfl ?_
    refine gfX7_42 dX7_step_56 rfl ?_
    refine gfX7_71 (v := (w.1 6 2)) dX7_step_59 rfl rfl ?_
    refine pfX7_68 dX7_step_62 rfl ?_
    refine xj_iconst (v := 0) dX7_step_65 ci_0 ?_
    exact xj_rz dX7_step_66 rfl (Or.inl rfl)
set_option maxRecDepth 20000 in
def sX7_step (w : xW) : Option (Int32 × xW) :=
  xbd (sX11_gateAt (w.1 8 11) (xwi w 6 2 (0 : Int32))) (fun x1 w2 => (if x1 = (-1 : Int32) then xbd (sX7_isReady w2) (fun x3 w4 => (if x3 = 0 then sX7_step_j44 w4 else xbd (sX7_execute w4) (fun _ w5 => xbd (sX7_settle w5) (fun _ w6 => sX7_step_j44 w6)))) else xbd (sX7_doService x1 w2) (fun _ w7 => sX7_step_j44 w7)))
set_option maxRecDepth 20000 in
theorem tX7_step (w : xW) : xJ ιI mX7_step lC (0, 0) 0 [(0, .ref 8)] [] w (sX7_step w) := by
  unfold sX7_step
  refine xj_aloadn 0 dX7_step_0 rfl rfl ?_
  refine gfX7_42 dX7_step_1 rfl ?_
  refine xj_iconst (v := 0) dX7_step_4 ci_0 ?_
  refine pfX7_71 dX7_step_5 rfl ?_
  refine xj_aloadn 0 dX7_step_8 rfl rfl ?_
  refine gfX7_54 (v := (w.1 8 11)) dX7_step_9 rfl rfl ?_
  refine xj_cSNi (argv := [.int (w.1 8 11)]) (rest := []) dX7_step_12 (kX11_gateAt (w.1 8 11) (xwi w 6 2 (0 : Int32))) mkX11_gateAt tw1541 rfl rfl rfl rfl (fun x1 w2 => ?_)
  refine xj_istoren (lv2 := [(1, .int x1), (0, .ref 8)]) dX7_step_15 rfl (Nat.le_of_ble_eq_true rfl) rfl ?_
  refine xj_iloadn 0 dX7_step_16 rfl rfl ?_
  refine xj_iconst (v := -1) dX7_step_17 ci_m1 ?_
  refine xj_ieq (tgt := 29) dX7_step_18 rfl ?_ ?_
  · refine xj_aloadn 1 dX7_step_29 rfl rfl ?_
    refine xj_cVi (argv := []) (rest := []) dX7_step_30 (kX7_isReady w2) mkX7_isReady tw1580 rfl rfl rfl rfl rfl rfl (fun x3 w4 => ?_)
    refine xj_ifeq (tgt := 44) dX7_step_33 rfl ?_ ?_
    · refine xj_sub (lv2 := [(0, .ref 8)]) [1] rfl ?_
      exact tX7_step_j44 _
    · refine xj_aloadn 1 dX7_step_36 rfl rfl ?_
      refine xj_cVv (argv := []) (rest := []) dX7_step_37 (kX7_execute w4) mkX7_execute tw1599 rfl rfl rfl rfl rfl rfl (fun _ w5 => ?_)
      refine xj_aloadn 1 dX7_step_40 rfl rfl ?_
      refine xj_cVv (argv := []) (rest := []) dX7_step_41 (kX7_settle w5) mkX7_settle tw1839 rfl rfl rfl rfl rfl rfl (fun _ w6 => ?_)
      refine xj_sub (lv2 := [(0, .ref 8)]) [1] rfl ?_
      exact tX7_step_j44 _
  · refine xj_aloadn 1 dX7_step_21 rfl rfl ?_
    refine xj_iloadn 0 dX7_step_22 rfl rfl ?_
    refine xj_cVv (argv := [.int x1]) (rest := []) dX7_step_23 (kX7_doService x1 w2) mkX7_doService tw1542 rfl rfl rfl rfl rfl rfl (fun _ w7 => ?_)
    refine xj_goto (tgt := 44) dX7_step_26 rfl ?_
    refine xj_sub (lv2 := [(0, .ref 8)]) [1] rfl ?_
    exact tX7_step_j44 _
theorem kX7_step (w : xW) : xMet jI mX7_step lC (0, 0) [.ref 8] w (sX7_step w) := xj_met lC_ok (by decide) (Nat.le_of_ble_eq_true rfl) (Nat.zero_le _) (Nat.zero_le _) (tX7_step w)
set_option maxRecDepth 20000 in
def sX11_forgetProgram (w : xW) : Option (Unit × xW) :=
  xbd (sX5_forget w) (fun _ w1 => some ((), (xwi w1 8 10 (0 : Int32))))
set_option maxRecDepth 20000 in
theorem tX11_forgetProgram (w : xW) : xJ ιV mX11_forgetProgram lC (0, 0) 0 [(0, .ref 0)] [] w (sX11_forgetProgram w) := by
  unfold sX11_forgetProgram
  refine xj_aloadn 0 dX11_forgetProgram_0 rfl rfl ?_
  refine gfX11_37 dX11_forgetProgram_1 rfl ?_
  refine xj_cVv (argv := []) (rest := []) dX11_forgetProgram_4 (kX5_forget w) mkX5_forget tw610 rfl rfl rfl rfl rfl rfl (fun _ w1 => ?_)
  refine xj_aloadn 0 dX11_forgetProgram_7 rfl rfl ?_
  refine gfX11_73 dX11_forgetProgram_8 rfl ?_
  refine xj_iconst (v := 0) dX11_forgetProgram_11 ci_0 ?_
  refine pfX11_102 dX11_forgetProgram_12 rfl ?_
  exact xj_rv dX11_forgetProgram_15 rfl
theorem kX11_forgetProgram (w : xW) : xMet jV mX11_forgetProgram lC (0, 0) [.ref 0] w (sX11_forgetProgram w) := xj_met lC_ok (by decide) (Nat.le_of_ble_eq_true rfl) (Nat.zero_le _) (Nat.zero_le _) (tX11_forgetProgram w)
set_option maxRecDepth 20000 in
def sX11_feed_j11 (w : xW) : Option ((Int32 ⊕ Nat) × xW) :=
  some (.inr 11, w)
set_option maxRecDepth 20000 in
theorem tX11_feed_j11 (w : xW) : xJ ιTI mX11_feed lC (0, 0) 11 [] [] w (sX11_feed_j11 w) := by
  unfold sX11_feed_j11
  exact xj_stop
set_option maxRecDepth 20000 in
def sX11_feed (p1 : Int32) (p2 : Int64) (w : xW) : Option ((Int32 ⊕ Nat) × xW) :=
  (if p1 < (1 : Int32) then sX11_feed_j11 w else (if (8 : Int32) < p1 then sX11_feed_j11 w else (if (2048 : Int32) < ((w.1 1 1) + p1) then some (.inl (-1 : Int32), w) else xbd (sX4_append p1 p2 w) (fun _ w1 => xbd (sX11_forgetProgram w1) (fun _ w2 => some (.inl (w2.1 1 1), w2))))))
set_option maxRecDepth 20000 in
theorem tX11_feed (p1 : Int32) (p2 : Int64) (w : xW) : xJ ιTI mX11_feed lC (0, 0) 0 [(0, .ref 0), (1, .int p1), (2, .long p2)] [] w (sX11_feed p1 p2 w) := by
  unfold sX11_feed
  refine xj_iloadn 1 dX11_feed_0 rfl rfl ?_
  refine xj_iconst (v := 1) dX11_feed_1 ci_1 ?_
  refine xj_ilt (tgt := 11) dX11_feed_2 rfl ?_ ?_
  · refine xj_sub (lv2 := []) [] rfl ?_
    exact tX11_feed_j11 _
  · refine xj_iloadn 1 dX11_feed_5 rfl rfl ?_
    refine xj_bipush (v := 8) dX11_feed_6 cb_8 ?_
    refine xj_ile (tgt := 21) dX11_feed_8 rfl ?_ ?_
    · refine xj_sub (lv2 := []) [] rfl ?_
      exact tX11_feed_j11 _
    · refine xj_aloadn 0 dX11_feed_21 rfl rfl ?_
      refine gfX11_10 dX11_feed_22 rfl ?_
      refine gfX11_88 (v := (w.1 1 1)) dX11_feed_25 rfl rfl ?_
      refine xj_iloadn 1 dX11_feed_28 rfl rfl ?_
      refine xj_iadd dX11_feed_29 ?_
      refine xj_sipush (v := 2048) dX11_feed_30 cs_2048 ?_
      refine xj_ile (tgt := 38) dX11_feed_33 rfl ?_ ?_
      · refine xj_iconst (v := -1) dX11_feed_36 ci_m1 ?_
        exact xj_ti dX11_feed_37 rfl
      · refine xj_aloadn 0 dX11_feed_38 rfl rfl ?_
        refine gfX11_10 dX11_feed_39 rfl ?_
        refine xj_iloadn 1 dX11_feed_42 rfl rfl ?_
        refine xj_lloadn 2 dX11_feed_43 rfl rfl ?_
        refine xj_cVv (argv := [.int p1, .long p2]) (rest := []) dX11_feed_44 (kX4_append p1 p2 w) mkX4_append tw1462 rfl rfl rfl rfl rfl rfl (fun _ w1 => ?_)
        refine xj_aloadn 0 dX11_feed_47 rfl rfl ?_
        refine xj_cVv (argv := []) (rest := []) dX11_feed_48 (kX11_forgetProgram w1) mkX11_forgetProgram tw606 rfl rfl rfl rfl rfl rfl (fun _ w2 => ?_)
        refine xj_aloadn 0 dX11_feed_51 rfl rfl ?_
        refine gfX11_10 dX11_feed_52 rfl ?_
        refine gfX11_88 (v := (w2.1 1 1)) dX11_feed_55 rfl rfl ?_
        exact xj_ti dX11_feed_58 rfl
set_option maxRecDepth 20000 in
def sX11_wipe (w : xW) : Option (Int32 × xW) :=
  xbd (sX11_forgetProgram (xwi w 1 1 (0 : Int32))) (fun _ w1 => some ((w.1 1 1), w1))
set_option maxRecDepth 20000 in
theorem tX11_wipe (w : xW) : xJ ιI mX11_wipe lC (0, 0) 0 [(0, .ref 0)] [] w (sX11_wipe w) := by
  unfold sX11_wipe
  refine xj_aloadn 0 dX11_wipe_0 rfl rfl ?_
  refine gfX11_10 dX11_wipe_1 rfl ?_
  refine gfX11_88 (v := (w.1 1 1)) dX11_wipe_4 rfl rfl ?_
  refine xj_istoren (lv2 := [(1, .int (w.1 1 1)), (0, .ref 0)]) dX11_wipe_7 rfl (Nat.le_of_ble_eq_true rfl) rfl ?_
  refine xj_aloadn 1 dX11_wipe_8 rfl rfl ?_
  refine gfX11_10 dX11_wipe_9 rfl ?_
  refine xj_iconst (v := 0) dX11_wipe_12 ci_0 ?_
  refine pfX11_88 dX11_wipe_13 rfl ?_
  refine xj_aloadn 1 dX11_wipe_16 rfl rfl ?_
  refine xj_cVv (argv := []) (rest := []) dX11_wipe_17 (kX11_forgetProgram (xwi w 1 1 (0 : Int32))) mkX11_forgetProgram tw606 rfl rfl rfl rfl rfl rfl (fun _ w1 => ?_)
  refine xj_iloadn 0 dX11_wipe_20 rfl rfl ?_
  exact xj_ri dX11_wipe_21 rfl
theorem kX11_wipe (w : xW) : xMet jI mX11_wipe lC (0, 0) [.ref 0] w (sX11_wipe w) := xj_met lC_ok (by decide) (Nat.le_of_ble_eq_true rfl) (Nat.zero_le _) (Nat.zero_le _) (tX11_wipe w)
set_option maxRecDepth 20000 in
def sX11_look (w : xW) : Option (Int32 × xW) :=
  xbd (sX5_inspect w) (fun x1 w2 => some (x1, w2))
set_option maxRecDepth 20000 in
theorem tX11_look (w : xW) : xJ ιI mX11_look lC (0, 0) 0 [(0, .ref 0)] [] w (sX11_look w) := by
  unfold sX11_look
  refine xj_aloadn 0 dX11_look_0 rfl rfl ?_
  refine gfX11_37 dX11_look_1 rfl ?_
  refine xj_cVi (argv := []) (rest := []) dX11_look_4 (kX5_inspect w) mkX5_inspect tw618 rfl rfl rfl rfl rfl rfl (fun x1 w2 => ?_)
  exact xj_ri dX11_look_7 rfl
theorem kX11_look (w : xW) : xMet jI mX11_look lC (0, 0) [.ref 0] w (sX11_look w) := xj_met lC_ok (by decide) (Nat.le_of_ble_eq_true rfl) (Nat.zero_le _) (Nat.zero_le _) (tX11_look w)
set_option maxRecDepth 20000 in
def sX11_fault (w : xW) : Option (Int32 × xW) :=
  some ((w.1 4 10), w)
set_option maxRecDepth 20000 in
theorem tX11_fault (w : xW) : xJ ιI mX11_fault lC (0, 0) 0 [(0, .ref 0)] [] w (sX11_fault w) := by
  unfold sX11_fault
  refine xj_aloadn 0 dX11_fault_0 rfl rfl ?_
  refine gfX11_37 dX11_fault_1 rfl ?_
  refine gfX11_109 (v := (w.1 4 10)) dX11_fault_4 rfl rfl ?_
  exact xj_ri dX11_fault_7 rfl
theorem kX11_fault (w : xW) : xMet jI mX11_fault lC (0, 0) [.ref 0] w (sX11_fault w) := xj_met lC_ok (by decide) (Nat.le_of_ble_eq_true rfl) (Nat.zero_le _) (Nat.zero_le _) (tX11_fault w)
set_option maxRecDepth 20000 in
def sX11_place (w : xW) : Option (Int32 × xW) :=
  some ((w.1 4 11), w)
set_option maxRecDepth 20000 in
theorem tX11_place (w : xW) : xJ ιI mX11_place lC (0, 0) 0 [(0, .ref 0)] [] w (sX11_place w) := by
  unfold sX11_place
  refine xj_aloadn 0 dX11_place_0 rfl rfl ?_
  refine gfX11_37 dX11_place_1 rfl ?_
  refine gfX11_112 (v := (w.1 4 11)) dX11_place_4 rfl rfl ?_
  exact xj_ri dX11_place_7 rfl
theorem kX11_place (w : xW) : xMet jI mX11_place lC (0, 0) [.ref 0] w (sX11_place w) := xj_met lC_ok (by decide) (Nat.le_of_ble_eq_true rfl) (Nat.zero_le _) (Nat.zero_le _) (tX11_place w)
set_option maxRecDepth 20000 in
def sX11_unit (p1 : Int32) (w : xW) : Option (Int32 × xW) :=
  (if (w.1 4 9) = 0 then some ((-1 : Int32), w) else xbd (sX4_has p1 w) (fun x1 w2 => (if x1 = 0 then some ((-1 : Int32), w2) else xbd (sX5_markAt p1 w2) (fun x3 w4 => some (x3, w4)))))
set_option maxRecDepth 20000 in
theorem tX11_unit (p1 : Int32) (w : xW) : xJ ιI mX11_unit lC (0, 0) 0 [(0, .ref 0), (1, .int p1)] [] w (sX11_unit p1 w) := by
  unfold sX11_unit
  refine xj_aloadn 0 dX11_unit_0 rfl rfl ?_
  refine gfX11_37 dX11_unit_1 rfl ?_
  refine gfX11_115 (v := (w.1 4 9)) dX11_unit_4 rfl rfl ?_
  refine xj_ifeq (tgt := 21) dX11_unit_7 rfl ?_ ?_
  · refine xj_iconst (v := -1) dX11_unit_21 ci_m1 ?_
    exact xj_ri dX11_unit_22 rfl
  · refine xj_aloadn 0 dX11_unit_10 rfl rfl ?_
    refine gfX11_10 dX11_unit_11 rfl ?_
    refine xj_iloadn 1 dX11_unit_14 rfl rfl ?_
    refine xj_cVi (argv := [.int p1]) (rest := []) dX11_unit_15 (kX4_has p1 w) mkX4_has tw949 rfl rfl rfl rfl rfl rfl (fun x1 w2 => ?_)
    refine xj_ifne (tgt := 23) dX11_unit_18 rfl ?_ ?_
    · refine xj_iconst (v := -1) dX11_unit_21 ci_m1 ?_
      exact xj_ri dX11_unit_22 rfl
    · refine xj_aloadn 0 dX11_unit_23 rfl rfl ?_
      refine gfX11_37 dX11_unit_24 rfl ?_
      refine xj_iloadn 1 dX11_unit_27 rfl rfl ?_
      refine xj_cVi (argv := [.int p1]) (rest := []) dX11_unit_28 (kX5_markAt p1 w2) mkX5_markAt tw950 rfl rfl rfl rfl rfl rfl (fun x3 w4 => ?_)
      exact xj_ri dX11_unit_31 rfl
theorem kX11_unit (p1 : Int32) (w : xW) : xMet jI mX11_unit lC (0, 0) [.ref 0, .int p1] w (sX11_unit p1 w) := xj_met lC_ok (by decide) (Nat.le_of_ble_eq_true rfl) (Nat.zero_le _) (Nat.zero_le _) (tX11_unit p1 w)
set_option maxRecDepth 20000 in
def sX11_size (p1 : Int32) (w : xW) : Option (Int32 × xW) :=
  xbd (sX1_decode p1 w) (fun x1 w2 => some (x1, w2))
set_option maxRecDepth 20000 in
theorem tX11_size (p1 : Int32) (w : xW) : xJ ιI mX11_size lC (0, 0) 0 [(0, .ref 0), (1, .int p1)] [] w (sX11_size p1 w) := by
  unfold sX11_size
  refine xj_aloadn 0 dX11_size_0 rfl rfl ?_
  refine gfX11_28 dX11_size_1 rfl ?_
  refine xj_iloadn 1 dX11_size_4 rfl rfl ?_
  refine xj_cVi (argv := [.int p1]) (rest := []) dX11_size_5 (kX1_decode p1 w) mkX1_decode tw955 rfl rfl rfl rfl rfl rfl (fun x1 w2 => ?_)
  exact xj_ri dX11_size_8 rfl
theorem kX11_size (p1 : Int32) (w : xW) : xMet jI mX11_size lC (0, 0) [.ref 0, .int p1] w (sX11_size p1 w) := xj_met lC_ok (by decide) (Nat.le_of_ble_eq_true rfl) (Nat.zero_le _) (Nat.zero_le _) (tX11_size p1 w)
set_option maxRecDepth 20000 in
def sX11_poke_j29 (w : xW) : Option ((Int32 ⊕ Nat) × xW) :=
  some (.inr 29, w)
set_option maxRecDepth 20000 in
theorem tX11_poke_j29 (w : xW) : xJ ιTI mX11_poke lC (0, 0) 29 [] [] w (sX11_poke_j29 w) := by
  unfold sX11_poke_j29
  exact xj_stop
set_option maxRecDepth 20000 in
def sX11_poke (p1 : Int32) (p2 : Int32) (w : xW) : Option ((Int32 ⊕ Nat) × xW) :=
  xbd (sX8_inData p1 (1 : Int64) w) (fun x1 w2 => (if x1 = 0 then some (.inr 8, w2) else (if p2 < 0 then sX11_poke_j29 w2 else (if (255 : Int32) < p2 then sX11_poke_j29 w2 else xbd (sX8_dataAt p1 w2) (fun x3 w4 => xbd (sX8_setData p1 p2 w4) (fun _ w5 => some (.inl x3, w5)))))))
set_option maxRecDepth 20000 in
theorem tX11_poke (p1 : Int32) (p2 : Int32) (w : xW) : xJ ιTI mX11_poke lC (0, 0) 0 [(0, .ref 0), (1, .int p1), (2, .int p2)] [] w (sX11_poke p1 p2 w) := by
  unfold sX11_poke
  refine xj_iloadn 1 dX11_poke_0 rfl rfl ?_
  refine xj_lconst (v := 1) dX11_poke_1 cl_1 ?_
  refine xj_cSi (argv := [.int p1, .long (1 : Int64)]) (rest := []) dX11_poke_2 (kX8_inData p1 (1 : Int64) w) mkX8_inData tw1433 rfl rfl rfl rfl (fun x1 w2 => ?_)
  refine xj_ifne (tgt := 18) dX11_poke_5 rfl ?_ ?_
  · exact xj_stop
  · refine xj_iloadn 2 dX11_poke_18 rfl rfl ?_
    refine xj_iflt (tgt := 29) dX11_poke_19 rfl ?_ ?_
    · refine xj_sub (lv2 := []) [] rfl ?_
      exact tX11_poke_j29 _
    · refine xj_iloadn 2 dX11_poke_22 rfl rfl ?_
      refine xj_sipush (v := 255) dX11_poke_23 cs_255 ?_
      refine xj_ile (tgt := 39) dX11_poke_26 rfl ?_ ?_
      · refine xj_sub (lv2 := []) [] rfl ?_
        exact tX11_poke_j29 _
      · refine xj_aloadn 0 dX11_poke_39 rfl rfl ?_
        refine gfX11_55 dX11_poke_40 rfl ?_
        refine xj_iloadn 1 dX11_poke_43 rfl rfl ?_
        refine xj_cVi (argv := [.int p1]) (rest := []) dX11_poke_44 (kX8_dataAt p1 w2) mkX8_dataAt tw1434 rfl rfl rfl rfl rfl rfl (fun x3 w4 => ?_)
        refine xj_istoren (lv2 := [(3, .int x3), (0, .ref 0), (1, .int p1), (2, .int p2)]) dX11_poke_47 rfl (Nat.le_of_ble_eq_true rfl) rfl ?_
        refine xj_aloadn 1 dX11_poke_48 rfl rfl ?_
        refine gfX11_55 dX11_poke_49 rfl ?_
        refine xj_iloadn 2 dX11_poke_52 rfl rfl ?_
        refine xj_iloadn 3 dX11_poke_53 rfl rfl ?_
        refine xj_cVv (argv := [.int p1, .int p2]) (rest := []) dX11_poke_54 (kX8_setData p1 p2 w4) mkX8_setData tw1475 rfl rfl rfl rfl rfl rfl (fun _ w5 => ?_)
        refine xj_iloadn 0 dX11_poke_57 rfl rfl ?_
        exact xj_ti dX11_poke_58 rfl
set_option maxRecDepth 20000 in
def sX11_peek (p1 : Int32) (w : xW) : Option (Int32 × xW) :=
  xbd (sX8_inData p1 (1 : Int64) w) (fun x1 w2 => (if x1 = 0 then xbd (sX4_has (p1 - (4096 : Int32)) w2) (fun x3 w4 => (if x3 = 0 then some ((-1 : Int32), w4) else (if xin (p1 - (4096 : Int32)) 2048 then some (((w4.1 10 ((p1 - (4096 : Int32)).toNatClampNeg)) &&& (255 : Int32)), w4) else none))) else xbd (sX8_dataAt p1 w2) (fun x5 w6 => some (x5, w6))))
set_option maxRecDepth 20000 in
theorem tX11_peek (p1 : Int32) (w : xW) : xJ ιI mX11_peek lC (0, 0) 0 [(0, .ref 0), (1, .int p1)] [] w (sX11_peek p1 w) := by
  unfold sX11_peek
  refine xj_iloadn 1 dX11_peek_0 rfl rfl ?_
  refine xj_lconst (v := 1) dX11_peek_1 cl_1 ?_
  refine xj_cSi (argv := [.int p1, .long (1 : Int64)]) (rest := []) dX11_peek_2 (kX8_inData p1 (1 : Int64) w) mkX8_inData tw1433 rfl rfl rfl rfl (fun x1 w2 => ?_)
  refine xj_ifeq (tgt := 17) dX11_peek_5 rfl ?_ ?_
  · refine xj_iloadn 1 dX11_peek_17 rfl rfl ?_
    refine xj_sipush (v := 4096) dX11_peek_18 cs_4096 ?_
    refine xj_isub dX11_peek_21 ?_
    refine xj_istoren (lv2 := [(2, .int (p1 - (4096 : Int32))), (0, .ref 0), (1, .int p1)]) dX11_peek_22 rfl (Nat.le_of_ble_eq_true rfl) rfl ?_
    refine xj_aloadn 1 dX11_peek_23 rfl rfl ?_
    refine gfX11_10 dX11_peek_24 rfl ?_
    refine xj_iloadn 0 dX11_peek_27 rfl rfl ?_
    refine xj_cVi (argv := [.int (p1 - (4096 : Int32))]) (rest := []) dX11_peek_28 (kX4_has (p1 - (4096 : Int32)) w2) mkX4_has tw949 rfl rfl rfl rfl rfl rfl (fun x3 w4 => ?_)
    refine xj_ifeq (tgt := 50) dX11_peek_31 rfl ?_ ?_
    · refine xj_iconst (v := -1) dX11_peek_50 ci_m1 ?_
      exact xj_ri dX11_peek_51 rfl
    · refine xj_aloadn 1 dX11_peek_34 rfl rfl ?_
      refine gfX11_10 dX11_peek_35 rfl ?_
      refine gfX11_152 dX11_peek_38 rfl ?_
      refine xj_iloadn 0 dX11_peek_41 rfl rfl ?_
      refine xj_bald (k := 10) dX11_peek_42 rfl ?_
      refine xj_sipush (v := 255) dX11_peek_43 cs_255 ?_
      refine xj_iand dX11_peek_46 ?_
      refine xj_goto (tgt := 51) dX11_peek_47 rfl ?_
      exact xj_ri dX11_peek_51 rfl
  · refine xj_aloadn 0 dX11_peek_8 rfl rfl ?_
    refine gfX11_55 dX11_peek_9 rfl ?_
    refine xj_iloadn 1 dX11_peek_12 rfl rfl ?_
    refine xj_cVi (argv := [.int p1]) (rest := []) dX11_peek_13 (kX8_dataAt p1 w2) mkX8_dataAt tw1434 rfl rfl rfl rfl rfl rfl (fun x5 w6 => ?_)
    exact xj_ri dX11_peek_16 rfl
theorem kX11_peek (p1 : Int32) (w : xW) : xMet jI mX11_peek lC (0, 0) [.ref 0, .int p1] w (sX11_peek p1 w) := xj_met lC_ok (by decide) (Nat.le_of_ble_eq_true rfl) (Nat.zero_le _) (Nat.zero_le _) (tX11_peek p1 w)
set_option maxRecDepth 20000 in
def sX11_give_j11 (w : xW) : Option ((Int32 ⊕ Nat) × xW) :=
  some (.inr 11, w)
set_option maxRecDepth 20000 in
theorem tX11_give_j11 (w : xW) : xJ ιTI mX11_give lC (0, 0) 11 [] [] w (sX11_give_j11 w) := by
  unfold sX11_give_j11
  exact xj_stop
set_option maxRecDepth 20000 in
def sX11_give (p1 : Int32) (p2 : Int64) (w : xW) : Option ((Int32 ⊕ Nat) × xW) :=
  (if p1 < (1 : Int32) then sX11_give_j11 w else (if (8 : Int32) < p1 then sX11_give_j11 w else (if (256 : Int32) < ((w.1 7 5) + p1) then some (.inl (-1 : Int32), w) else xbd (sX3_take p1 p2 w) (fun _ w1 => some (.inl (w1.1 7 5), w1)))))
set_option maxRecDepth 20000 in
theorem tX11_give (p1 : Int32) (p2 : Int64) (w : xW) : xJ ιTI mX11_give lC (0, 0) 0 [(0, .ref 0), (1, .int p1), (2, .long p2)] [] w (sX11_give p1 p2 w) := by
  unfold sX11_give
  refine xj_iloadn 1 dX11_give_0 rfl rfl ?_
  refine xj_iconst (v := 1) dX11_give_1 ci_1 ?_
  refine xj_ilt (tgt := 11) dX11_give_2 rfl ?_ ?_
  · refine xj_sub (lv2 := []) [] rfl ?_
    exact tX11_give_j11 _
  · refine xj_iloadn 1 dX11_give_5 rfl rfl ?_
    refine xj_bipush (v := 8) dX11_give_6 cb_8 ?_
    refine xj_ile (tgt := 21) dX11_give_8 rfl ?_ ?_
    · refine xj_sub (lv2 := []) [] rfl ?_
      exact tX11_give_j11 _
    · refine xj_aloadn 0 dX11_give_21 rfl rfl ?_
      refine gfX11_64 dX11_give_22 rfl ?_
      refine gfX11_156 (v := (w.1 7 5)) dX11_give_25 rfl rfl ?_
      refine xj_iloadn 1 dX11_give_28 rfl rfl ?_
      refine xj_iadd dX11_give_29 ?_
      refine xj_sipush (v := 256) dX11_give_30 cs_256 ?_
      refine xj_ile (tgt := 38) dX11_give_33 rfl ?_ ?_
      · refine xj_iconst (v := -1) dX11_give_36 ci_m1 ?_
        exact xj_ti dX11_give_37 rfl
      · refine xj_aloadn 0 dX11_give_38 rfl rfl ?_
        refine gfX11_64 dX11_give_39 rfl ?_
        refine xj_iloadn 1 dX11_give_42 rfl rfl ?_
        refine xj_lloadn 2 dX11_give_43 rfl rfl ?_
        refine xj_cVv (argv := [.int p1, .long p2]) (rest := []) dX11_give_44 (kX3_take p1 p2 w) mkX3_take tw1486 rfl rfl rfl rfl rfl rfl (fun _ w1 => ?_)
        refine xj_aloadn 0 dX11_give_47 rfl rfl ?_
        refine gfX11_64 dX11_give_48 rfl ?_
        refine gfX11_156 (v := (w1.1 7 5)) dX11_give_51 rfl rfl ?_
        exact xj_ti dX11_give_54 rfl
set_option maxRecDepth 20000 in
def sX11_begin_j24 (w : xW) : Option ((Unit ⊕ Nat) × xW) :=
  (if (w.1 1 1) = 0 then some (.inr 34, w) else xbd (sX3_restart w) (fun _ w1 => xbd (sX7_restart w1) (fun _ w2 => some (.inl (), (xwi w2 8 10 (1 : Int32))))))
set_option maxRecDepth 20000 in
theorem tX11_begin_j24 (w : xW) : xJ ιTV mX11_begin lC (0, 0) 24 [(0, .ref 0)] [] w (sX11_begin_j24 w) := by
  unfold sX11_begin_j24
  refine xj_aloadn 0 dX11_begin_24 rfl rfl ?_
  refine gfX11_10 dX11_begin_25 rfl ?_
  refine gfX11_88 (v := (w.1 1 1)) dX11_begin_28 rfl rfl ?_
  refine xj_ifne (tgt := 44) dX11_begin_31 rfl ?_ ?_
  · exact xj_stop
  · refine xj_aloadn 0 dX11_begin_44 rfl rfl ?_
    refine gfX11_64 dX11_begin_45 rfl ?_
    refine xj_cVv (argv := []) (rest := []) dX11_begin_48 (kX3_restart w) mkX3_restart tw1515 rfl rfl rfl rfl rfl rfl (fun _ w1 => ?_)
    refine xj_aloadn 0 dX11_begin_51 rfl rfl ?_
    refine gfX11_73 dX11_begin_52 rfl ?_
    refine xj_cVv (argv := []) (rest := []) dX11_begin_55 (kX7_restart w1) mkX7_restart tw1519 rfl rfl rfl rfl rfl rfl (fun _ w2 => ?_)
    refine xj_aloadn 0 dX11_begin_58 rfl rfl ?_
    refine gfX11_73 dX11_begin_59 rfl ?_
    refine xj_iconst (v := 1) dX11_begin_62 ci_1 ?_
    refine pfX11_102 dX11_begin_63 rfl ?_
    exact xj_tv dX11_begin_66 rfl
set_option maxRecDepth 20000 in
def sX11_begin (p1 : Int32) (w : xW) : Option ((Unit ⊕ Nat) × xW) :=
  (if (w.1 4 9) = 0 then (if p1 = 0 then some (.inr 14, w) else sX11_begin_j24 w) else sX11_begin_j24 w)
set_option maxRecDepth 20000 in
theorem tX11_begin (p1 : Int32) (w : xW) : xJ ιTV mX11_begin lC (0, 0) 0 [(0, .ref 0), (1, .int p1)] [] w (sX11_begin p1 w) := by
  unfold sX11_begin
  refine xj_aloadn 0 dX11_begin_0 rfl rfl ?_
  refine gfX11_37 dX11_begin_1 rfl ?_
  refine gfX11_115 (v := (w.1 4 9)) dX11_begin_4 rfl rfl ?_
  refine xj_ifne (tgt := 24) dX11_begin_7 rfl ?_ ?_
  · refine xj_iloadn 1 dX11_begin_10 rfl rfl ?_
    refine xj_ifne (tgt := 24) dX11_begin_11 rfl ?_ ?_
    · exact xj_stop
    · refine xj_sub (lv2 := [(0, .ref 0)]) [0] rfl ?_
      exact tX11_begin_j24 _
  · refine xj_sub (lv2 := [(0, .ref 0)]) [0] rfl ?_
    exact tX11_begin_j24 _
set_option maxRecDepth 20000 in
def sX11_hasBreakpoint (p1 : Int32) (w : xW) : Option (Int32 × xW) :=
  (if (p1 - (4096 : Int32)) < 0 then some ((0 : Int32), w) else (if (p1 - (4096 : Int32)) < (2048 : Int32) then (if xin (p1 - (4096 : Int32)) 2048 then (if (w.1 11 ((p1 - (4096 : Int32)).toNatClampNeg)) = 0 then some ((0 : Int32), w) else some ((1 : Int32), w)) else none) else some ((0 : Int32), w)))
set_option maxRecDepth 20000 in
theorem tX11_hasBreakpoint (p1 : Int32) (w : xW) : xJ ιI mX11_hasBreakpoint lC (0, 0) 0 [(0, .ref 0), (1, .int p1)] [] w (sX11_hasBreakpoint p1 w) := by
  unfold sX11_hasBreakpoint
  refine xj_iloadn 1 dX11_hasBreakpoint_0 rfl rfl ?_
  refine xj_sipush (v := 4096) dX11_hasBreakpoint_1 cs_4096 ?_
  refine xj_isub dX11_hasBreakpoint_4 ?_
  refine xj_istoren (lv2 := [(2, .int (p1 - (4096 : Int32))), (0, .ref 0), (1, .int p1)]) dX11_hasBreakpoint_5 rfl (Nat.le_of_ble_eq_true rfl) rfl ?_
  refine xj_iloadn 0 dX11_hasBreakpoint_6 rfl rfl ?_
  refine xj_iflt (tgt := 30) dX11_hasBreakpoint_7 rfl ?_ ?_
  · refine xj_iconst (v := 0) dX11_hasBreakpoint_30 ci_0 ?_
    exact xj_rz dX11_hasBreakpoint_31 rfl (Or.inl rfl)
  · refine xj_iloadn 0 dX11_hasBreakpoint_10 rfl rfl ?_
    refine xj_sipush (v := 2048) dX11_hasBreakpoint_11 cs_2048 ?_
    refine xj_ige (tgt := 30) dX11_hasBreakpoint_14 rfl ?_ ?_
    · refine xj_aloadn 1 dX11_hasBreakpoint_17 rfl rfl ?_
      refine gfX11_77 dX11_hasBreakpoint_18 rfl ?_
      refine xj_iloadn 0 dX11_hasBreakpoint_21 rfl rfl ?_
      refine xj_zald (k := 11) dX11_hasBreakpoint_22 rfl ?_
      refine xj_ifeq (tgt := 30) dX11_hasBreakpoint_23 rfl ?_ ?_
      · refine xj_iconst (v := 0) dX11_hasBreakpoint_30 ci_0 ?_
        exact xj_rz dX11_hasBreakpoint_31 rfl (Or.inl rfl)
      · refine xj_iconst (v := 1) dX11_hasBreakpoint_26 ci_1 ?_
        refine xj_goto (tgt := 31) dX11_hasBreakpoint_27 rfl ?_
        exact xj_rz dX11_hasBreakpoint_31 rfl (Or.inr rfl)
    · refine xj_iconst (v := 0) dX11_hasBreakpoint_30 ci_0 ?_
      exact xj_rz dX11_hasBreakpoint_31 rfl (Or.inl rfl)
theorem kX11_hasBreakpoint (p1 : Int32) (w : xW) : xMet jI mX11_hasBreakpoint lC (0, 0) [.ref 0, .int p1] w (sX11_hasBreakpoint p1 w) := xj_met lC_ok (by decide) (Nat.le_of_ble_eq_true rfl) (Nat.zero_le _) (Nat.zero_le _) (tX11_hasBreakpoint p1 w)
set_option maxRecDepth 20000 in
def sX11_run_j11 (w : xW) : Option ((Int32 ⊕ Nat) × xW) :=
  some (.inr 11, w)
set_option maxRecDepth 20000 in
theorem tX11_run_j11 (w : xW) : xJ ιTI mX11_run lC (0, 0) 11 [] [] w (sX11_run_j11 w) := by
  unfold sX11_run_j11
  exact xj_stop
set_option maxRecDepth 20000 in
def sX11_run_j98 (K52 : Int32 → Int32 → Int32 → xW → Option ((Int32 ⊕ Nat) × xW)) (a1 : Int32) (a2 : Int32) (a3 : Int32) (w : xW) : Option ((Int32 ⊕ Nat) × xW) :=
  xbd (sX7_step w) (fun x1 w2 => (if x1 = 0 then K52 a1 a2 (a3 + (1 : Int32)) w2 else K52 a1 (a2 + (1 : Int32)) (a3 + (1 : Int32)) w2))
set_option maxRecDepth 20000 in
theorem tX11_run_j98 (K52 : Int32 → Int32 → Int32 → xW → Option ((Int32 ⊕ Nat) × xW)) (hK52 : ∀ (a1 : Int32) (a2 : Int32) (a3 : Int32) (w : xW), xJ ιTI mX11_run lC (0, 0) 52 [(0, .ref 0), (1, .int a1), (2, .int a2), (3, .int a3)] [] w (K52 a1 a2 a3 w)) (a1 : Int32) (a2 : Int32) (a3 : Int32) (w : xW) : xJ ιTI mX11_run lC (0, 0) 98 [(0, .ref 0), (1, .int a1), (2, .int a2), (3, .int a3)] [] w (sX11_run_j98 K52 a1 a2 a3 w) := by
  unfold sX11_run_j98
  refine xj_aloadn 0 dX11_run_98 rfl rfl ?_
  refine gfX11_73 dX11_run_99 rfl ?_
  refine xj_cVi (argv := []) (rest := []) dX11_run_102 (kX7_step w) mkX7_step tw1537 rfl rfl rfl rfl rfl rfl (fun x1 w2 => ?_)
  refine xj_ifeq (tgt := 111) dX11_run_105 rfl ?_ ?_
  · refine xj_iinc (n := 3) (lv2 := [(3, .int (a3 + (1 : Int32))), (0, .ref 0), (1, .int a1), (2, .int a2)]) dX11_run_111 rfl ci_1 (Nat.le_of_ble_eq_true rfl) rfl ?_
    refine xj_goto (tgt := 52) dX11_run_114 rfl ?_
    refine xj_sub (lv2 := [(0, .ref 0), (1, .int a1), (2, .int a2), (3, .int (a3 + (1 : Int32)))]) [1, 2, 3, 0] rfl ?_
    exact hK52 _ _ _ _
  · refine xj_iinc (n := 2) (lv2 := [(2, .int (a2 + (1 : Int32))), (0, .ref 0), (1, .int a1), (3, .int a3)]) dX11_run_108 rfl ci_1 (Nat.le_of_ble_eq_true rfl) rfl ?_
    refine xj_iinc (n := 3) (lv2 := [(3, .int (a3 + (1 : Int32))), (2, .int (a2 + (1 : Int32))), (0, .ref 0), (1, .int a1)]) dX11_run_111 rfl ci_1 (Nat.le_of_ble_eq_true rfl) rfl ?_
    refine xj_goto (tgt := 52) dX11_run_114 rfl ?_
    refine xj_sub (lv2 := [(0, .ref 0), (1, .int a1), (2, .int (a2 + (1 : Int32))), (3, .int (a3 + (1 : Int32)))]) [2, 3, 1, 0] rfl ?_
    exact hK52 _ _ _ _
set_option maxRecDepth 20000 in
def sX11_run_l52 : Nat → Int32 → Int32 → Int32 → xW → Option ((Int32 ⊕ Nat) × xW)
  | 0, _, _, _, _ => none
  | n + 1, a1, a2, a3, w =>
  (if a3 < a1 then (if (w.1 8 10) = (1 : Int32) then (if 0 < a3 then xbd (sX11_hasBreakpoint (w.1 8 11) w) (fun x1 w2 => (if x1 = 0 then sX11_run_j98 (sX11_run_l52 n) a1 a2 a3 w2 else (sX11_run_l52 n) a1 a2 (a3 + (1 : Int32)) (xwi w2 8 10 (8 : Int32)))) else sX11_run_j98 (sX11_run_l52 n) a1 a2 a3 w) else some (.inl a2, w)) else some (.inl a2, w))
set_option maxRecDepth 20000 in
theorem tX11_run_l52 : ∀ (n : Nat) (a1 : Int32) (a2 : Int32) (a3 : Int32) (w : xW), xJ ιTI mX11_run lC (0, 0) 52 [(0, .ref 0), (1, .int a1), (2, .int a2), (3, .int a3)] [] w (sX11_run_l52 n a1 a2 a3 w) := by
  intro n
  induction n with
  | zero => intros; exact xj_none
  | succ n ih =>
    intro a1 a2 a3 w
    rw [sX11_run_l52]
    refine xj_iloadn 3 dX11_run_52 rfl rfl ?_
    refine xj_iloadn 1 dX11_run_53 rfl rfl ?_
    refine xj_ige (tgt := 117) dX11_run_54 rfl ?_ ?_
    · refine xj_aloadn 0 dX11_run_57 rfl rfl ?_
      refine gfX11_73 dX11_run_58 rfl ?_
      refine gfX11_102 (v := (w.1 8 10)) dX11_run_61 rfl rfl ?_
      refine xj_iconst (v := 1) dX11_run_64 ci_1 ?_
      refine xj_ine (tgt := 117) dX11_run_65 rfl ?_ ?_
      · refine xj_iloadn 3 dX11_run_68 rfl rfl ?_
        refine xj_ifle (tgt := 98) dX11_run_69 rfl ?_ ?_
        · refine xj_aloadn 0 dX11_run_72 rfl rfl ?_
          refine xj_aloadn 0 dX11_run_73 rfl rfl ?_
          refine gfX11_73 dX11_run_74 rfl ?_
          refine gfX11_180 (v := (w.1 8 11)) dX11_run_77 rfl rfl ?_
          refine xj_cVi (argv := [.int (w.1 8 11)]) (rest := []) dX11_run_80 (kX11_hasBreakpoint (w.1 8 11) w) mkX11_hasBreakpoint tw1533 rfl rfl rfl rfl rfl rfl (fun x1 w2 => ?_)
          refine xj_ifeq (tgt := 98) dX11_run_83 rfl ?_ ?_
          · exact tX11_run_j98 (sX11_run_l52 n) ih _ _ _ _
          · refine xj_aloadn 0 dX11_run_86 rfl rfl ?_
            refine gfX11_73 dX11_run_87 rfl ?_
            refine xj_bipush (v := 8) dX11_run_90 cb_8 ?_
            refine pfX11_102 dX11_run_92 rfl ?_
            refine xj_goto (tgt := 111) dX11_run_95 rfl ?_
            refine xj_iinc (n := 3) (lv2 := [(3, .int (a3 + (1 : Int32))), (0, .ref 0), (1, .int a1), (2, .int a2)]) dX11_run_111 rfl ci_1 (Nat.le_of_ble_eq_true rfl) rfl ?_
            refine xj_goto (tgt := 52) dX11_run_114 rfl ?_
            refine xj_sub (lv2 := [(0, .ref 0), (1, .int a1), (2, .int a2), (3, .int (a3 + (1 : Int32)))]) [1, 2, 3, 0] rfl ?_
            exact ih _ _ _ _
        · exact tX11_run_j98 (sX11_run_l52 n) ih _ _ _ _
      · refine xj_iloadn 2 dX11_run_117 rfl rfl ?_
        exact xj_ti dX11_run_118 rfl
    · refine xj_iloadn 2 dX11_run_117 rfl rfl ?_
      exact xj_ti dX11_run_118 rfl
set_option maxRecDepth 20000 in
def sX11_run (p1 : Int32) (w : xW) : Option ((Int32 ⊕ Nat) × xW) :=
  (if p1 < 0 then sX11_run_j11 w else (if (10000 : Int32) < p1 then sX11_run_j11 w else (if (w.1 8 10) = 0 then some (.inr 31, w) else xbd (sX7_wake w) (fun _ w1 => sX11_run_l52 70000 p1 (0 : Int32) (0 : Int32) w1))))
set_option maxRecDepth 20000 in
theorem tX11_run (p1 : Int32) (w : xW) : xJ ιTI mX11_run lC (0, 0) 0 [(0, .ref 0), (1, .int p1)] [] w (sX11_run p1 w) := by
  unfold sX11_run
  refine xj_iloadn 1 dX11_run_0 rfl rfl ?_
  refine xj_iflt (tgt := 11) dX11_run_1 rfl ?_ ?_
  · refine xj_sub (lv2 := []) [] rfl ?_
    exact tX11_run_j11 _
  · refine xj_iloadn 1 dX11_run_4 rfl rfl ?_
    refine xj_sipush (v := 10000) dX11_run_5 cs_10000 ?_
    refine xj_ile (tgt := 21) dX11_run_8 rfl ?_ ?_
    · refine xj_sub (lv2 := []) [] rfl ?_
      exact tX11_run_j11 _
    · refine xj_aloadn 0 dX11_run_21 rfl rfl ?_
      refine gfX11_73 dX11_run_22 rfl ?_
      refine gfX11_102 (v := (w.1 8 10)) dX11_run_25 rfl rfl ?_
      refine xj_ifne (tgt := 41) dX11_run_28 rfl ?_ ?_
      · exact xj_stop
      · refine xj_aloadn 0 dX11_run_41 rfl rfl ?_
        refine gfX11_73 dX11_run_42 rfl ?_
        refine xj_cVv (argv := []) (rest := []) dX11_run_45 (kX7_wake w) mkX7_wake tw1529 rfl rfl rfl rfl rfl rfl (fun _ w1 => ?_)
        refine xj_iconst (v := 0) dX11_run_48 ci_0 ?_
        refine xj_istoren (lv2 := [(2, .int (0 : Int32)), (0, .ref 0), (1, .int p1)]) dX11_run_49 rfl (Nat.le_of_ble_eq_true rfl) rfl ?_
        refine xj_iconst (v := 0) dX11_run_50 ci_0 ?_
        refine xj_istoren (lv2 := [(3, .int (0 : Int32)), (2, .int (0 : Int32)), (0, .ref 0), (1, .int p1)]) dX11_run_51 rfl (Nat.le_of_ble_eq_true rfl) rfl ?_
        refine xj_sub (lv2 := [(0, .ref 0), (1, .int p1), (2, .int (0 : Int32)), (3, .int (0 : Int32))]) [2, 3, 1, 0] rfl ?_
        exact tX11_run_l52 _ _ _ _ _
