/-! the class, method by method: 2 -/
set_option maxRecDepth 20000 in
def sX1_chooseSingle (p1 : Int32) (w : xW) : Option (Unit × xW) :=
  xsw p1 (0) [some ((), (xwi (xwi (xwi w 2 0 (16 : Int32)) 2 1 (3 : Int32)) 3 7 (w.1 2 4))), some ((), (xwi w 3 4 (0 : Int32))), some ((), (xwi w 2 0 (20 : Int32))), some ((), (xwi w 2 0 (19 : Int32))), some ((), (xwi w 2 0 (23 : Int32))), some ((), (xwi w 2 0 (24 : Int32))), some ((), (xwi w 2 0 (26 : Int32))), some ((), (xwi w 2 0 (27 : Int32)))] (some ((), (xwi w 3 4 (0 : Int32))))
set_option maxRecDepth 20000 in
theorem tX1_chooseSingle (p1 : Int32) (w : xW) : xJ ιV mX1_chooseSingle lC (0, 0) 0 [(0, .ref 3), (1, .int p1)] [] w (sX1_chooseSingle p1 w) := by
  unfold sX1_chooseSingle
  refine xj_iloadn 1 dX1_chooseSingle_0 rfl rfl ?_
  refine xj_tsw (tgtd := 158) [48, 158, 80, 93, 106, 119, 132, 145] dX1_chooseSingle_1 rfl rfl rfl rfl ?_ ⟨?_, ?_, ?_, ?_, ?_, ?_, ?_, ?_, trivial⟩
  · refine xj_aloadn 0 dX1_chooseSingle_158 rfl rfl ?_
    refine xj_iconst (v := 0) dX1_chooseSingle_159 ci_0 ?_
    refine pfX1_38 dX1_chooseSingle_160 rfl (Or.inl rfl) ?_
    exact xj_rv dX1_chooseSingle_163 rfl
  · refine xj_aloadn 0 dX1_chooseSingle_48 rfl rfl ?_
    refine gfX1_15 dX1_chooseSingle_49 rfl ?_
    refine xj_gse (n := 16) 16 dX1_chooseSingle_52 (Nat.le_of_ble_eq_true rfl) rfl tw726 ?_
    refine pfX1_122 dX1_chooseSingle_55 rfl ?_
    refine xj_aloadn 0 dX1_chooseSingle_58 rfl rfl ?_
    refine gfX1_15 dX1_chooseSingle_59 rfl ?_
    refine xj_iconst (v := 3) dX1_chooseSingle_62 ci_3 ?_
    refine pfX1_87 dX1_chooseSingle_63 rfl ?_
    refine xj_aloadn 0 dX1_chooseSingle_66 rfl rfl ?_
    refine xj_aloadn 0 dX1_chooseSingle_67 rfl rfl ?_
    refine gfX1_15 dX1_chooseSingle_68 rfl ?_
    refine gfX1_137 (v := (w.1 2 4)) dX1_chooseSingle_71 rfl rfl ?_
    refine pfX1_47 dX1_chooseSingle_74 rfl ?_
    refine xj_goto (tgt := 163) dX1_chooseSingle_77 rfl ?_
    exact xj_rv dX1_chooseSingle_163 rfl
  · refine xj_aloadn 0 dX1_chooseSingle_158 rfl rfl ?_
    refine xj_iconst (v := 0) dX1_chooseSingle_159 ci_0 ?_
    refine pfX1_38 dX1_chooseSingle_160 rfl (Or.inl rfl) ?_
    exact xj_rv dX1_chooseSingle_163 rfl
  · refine xj_aloadn 0 dX1_chooseSingle_80 rfl rfl ?_
    refine gfX1_15 dX1_chooseSingle_81 rfl ?_
    refine xj_gse (n := 20) 20 dX1_chooseSingle_84 (Nat.le_of_ble_eq_true rfl) rfl tw794 ?_
    refine pfX1_122 dX1_chooseSingle_87 rfl ?_
    refine xj_goto (tgt := 163) dX1_chooseSingle_90 rfl ?_
    exact xj_rv dX1_chooseSingle_163 rfl
  · refine xj_aloadn 0 dX1_chooseSingle_93 rfl rfl ?_
    refine gfX1_15 dX1_chooseSingle_94 rfl ?_
    refine xj_gse (n := 19) 19 dX1_chooseSingle_97 (Nat.le_of_ble_eq_true rfl) rfl tw796 ?_
    refine pfX1_122 dX1_chooseSingle_100 rfl ?_
    refine xj_goto (tgt := 163) dX1_chooseSingle_103 rfl ?_
    exact xj_rv dX1_chooseSingle_163 rfl
  · refine xj_aloadn 0 dX1_chooseSingle_106 rfl rfl ?_
    refine gfX1_15 dX1_chooseSingle_107 rfl ?_
    refine xj_gse (n := 23) 23 dX1_chooseSingle_110 (Nat.le_of_ble_eq_true rfl) rfl tw798 ?_
    refine pfX1_122 dX1_chooseSingle_113 rfl ?_
    refine xj_goto (tgt := 163) dX1_chooseSingle_116 rfl ?_
    exact xj_rv dX1_chooseSingle_163 rfl
  · refine xj_aloadn 0 dX1_chooseSingle_119 rfl rfl ?_
    refine gfX1_15 dX1_chooseSingle_120 rfl ?_
    refine xj_gse (n := 24) 24 dX1_chooseSingle_123 (Nat.le_of_ble_eq_true rfl) rfl tw800 ?_
    refine pfX1_122 dX1_chooseSingle_126 rfl ?_
    refine xj_goto (tgt := 163) dX1_chooseSingle_129 rfl ?_
    exact xj_rv dX1_chooseSingle_163 rfl
  · refine xj_aloadn 0 dX1_chooseSingle_132 rfl rfl ?_
    refine gfX1_15 dX1_chooseSingle_133 rfl ?_
    refine xj_gse (n := 26) 26 dX1_chooseSingle_136 (Nat.le_of_ble_eq_true rfl) rfl tw802 ?_
    refine pfX1_122 dX1_chooseSingle_139 rfl ?_
    refine xj_goto (tgt := 163) dX1_chooseSingle_142 rfl ?_
    exact xj_rv dX1_chooseSingle_163 rfl
  · refine xj_aloadn 0 dX1_chooseSingle_145 rfl rfl ?_
    refine gfX1_15 dX1_chooseSingle_146 rfl ?_
    refine xj_gse (n := 27) 27 dX1_chooseSingle_149 (Nat.le_of_ble_eq_true rfl) rfl tw804 ?_
    refine pfX1_122 dX1_chooseSingle_152 rfl ?_
    refine xj_goto (tgt := 163) dX1_chooseSingle_155 rfl ?_
    exact xj_rv dX1_chooseSingle_163 rfl
theorem kX1_chooseSingle (p1 : Int32) (w : xW) : xMet jV mX1_chooseSingle lC (0, 0) [.ref 3, .int p1] w (sX1_chooseSingle p1 w) := xj_met lC_ok (by decide) (Nat.le_of_ble_eq_true rfl) (Nat.zero_le _) (Nat.zero_le _) (tX1_chooseSingle p1 w)
set_option maxRecDepth 20000 in
def sX1_chooseCounting_j112 (b0 : Int32) (w : xW) : Option (Unit × xW) :=
  (if (w.1 3 4) = 0 then some ((), (xwi (xwi w 2 0 b0) 3 4 (0 : Int32))) else (if (w.1 2 6) = 0 then some ((), (xwi (xwi w 2 0 b0) 3 4 (1 : Int32))) else some ((), (xwi (xwi w 2 0 b0) 3 4 (0 : Int32)))))
set_option maxRecDepth 20000 in
theorem tX1_chooseCounting_j112 (b0 : Int32) (w : xW) : xJ ιV mX1_chooseCounting lC (0, 0) 112 [(0, .ref 3)] [.ref (2000 + b0.toNatClampNeg), .ref 2] w (sX1_chooseCounting_j112 b0 w) := by
  unfold sX1_chooseCounting_j112
  refine pfX1_122 dX1_chooseCounting_112 rfl ?_
  refine xj_aloadn 0 dX1_chooseCounting_115 rfl rfl ?_
  refine xj_aloadn 0 dX1_chooseCounting_116 rfl rfl ?_
  refine gfX1_38 (v := (w.1 3 4)) dX1_chooseCounting_117 rfl rfl ?_
  refine xj_ifeq (tgt := 137) dX1_chooseCounting_120 rfl ?_ ?_
  · refine xj_iconst (v := 0) dX1_chooseCounting_137 ci_0 ?_
    refine pfX1_38 dX1_chooseCounting_138 rfl (Or.inl rfl) ?_
    refine xj_goto (tgt := 162) dX1_chooseCounting_141 rfl ?_
    exact xj_rv dX1_chooseCounting_162 rfl
  · refine xj_aloadn 0 dX1_chooseCounting_123 rfl rfl ?_
    refine gfX1_15 dX1_chooseCounting_124 rfl ?_
    refine gfX1_103 (v := (w.1 2 6)) dX1_chooseCounting_127 rfl rfl ?_
    refine xj_ifne (tgt := 137) dX1_chooseCounting_130 rfl ?_ ?_
    · refine xj_iconst (v := 1) dX1_chooseCounting_133 ci_1 ?_
      refine xj_goto (tgt := 138) dX1_chooseCounting_134 rfl ?_
      refine pfX1_38 dX1_chooseCounting_138 rfl (Or.inr rfl) ?_
      refine xj_goto (tgt := 162) dX1_chooseCounting_141 rfl ?_
      exact xj_rv dX1_chooseCounting_162 rfl
    · refine xj_iconst (v := 0) dX1_chooseCounting_137 ci_0 ?_
      refine pfX1_38 dX1_chooseCounting_138 rfl (Or.inl rfl) ?_
      refine xj_goto (tgt := 162) dX1_chooseCounting_141 rfl ?_
      exact xj_rv dX1_chooseCounting_162 rfl
set_option maxRecDepth 20000 in
def sX1_chooseCounting_j94 (a1 : Int32) (w : xW) : Option (Unit × xW) :=
  (if a1 = (2 : Int32) then sX1_chooseCounting_j112 (44 : Int32) w else sX1_chooseCounting_j112 (45 : Int32) w)
set_option maxRecDepth 20000 in
theorem tX1_chooseCounting_j94 (a1 : Int32) (w : xW) : xJ ιV mX1_chooseCounting lC (0, 0) 94 [(0, .ref 3), (1, .int a1)] [] w (sX1_chooseCounting_j94 a1 w) := by
  unfold sX1_chooseCounting_j94
  refine xj_aloadn 0 dX1_chooseCounting_94 rfl rfl ?_
  refine gfX1_15 dX1_chooseCounting_95 rfl ?_
  refine xj_iloadn 1 dX1_chooseCounting_98 rfl rfl ?_
  refine xj_iconst (v := 2) dX1_chooseCounting_99 ci_2 ?_
  refine xj_ine (tgt := 109) dX1_chooseCounting_100 rfl ?_ ?_
  · refine xj_gse (n := 44) 44 dX1_chooseCounting_103 (Nat.le_of_ble_eq_true rfl) rfl tw760 ?_
    refine xj_goto (tgt := 112) dX1_chooseCounting_106 rfl ?_
    refine xj_sub (lv2 := [(0, .ref 3)]) [0] rfl ?_
    exact tX1_chooseCounting_j112 _ _
  · refine xj_gse (n := 45) 45 dX1_chooseCounting_109 (Nat.le_of_ble_eq_true rfl) rfl tw762 ?_
    refine xj_sub (lv2 := [(0, .ref 3)]) [0] rfl ?_
    exact tX1_chooseCounting_j112 _ _
set_option maxRecDepth 20000 in
def sX1_chooseCounting_j22 (a1 : Int32) (b0 : Int32) (w : xW) : Option (Unit × xW) :=
  (if xz b0 then xsw a1 (0) [some ((), (xwi (xwi w 3 4 b0) 2 0 (17 : Int32))), some ((), (xwi (xwi w 3 4 b0) 2 0 (18 : Int32))), sX1_chooseCounting_j94 a1 (xwi w 3 4 b0), some ((), (xwi (xwi w 3 4 b0) 3 4 (0 : Int32))), sX1_chooseCounting_j94 a1 (xwi w 3 4 b0), some ((), (xwi (xwi w 3 4 b0) 3 4 (0 : Int32))), some ((), (xwi (xwi w 3 4 b0) 2 0 (42 : Int32)))] (some ((), (xwi (xwi w 3 4 b0) 3 4 (0 : Int32)))) else none)
set_option maxRecDepth 20000 in
theorem tX1_chooseCounting_j22 (a1 : Int32) (b0 : Int32) (w : xW) : xJ ιV mX1_chooseCounting lC (0, 0) 22 [(0, .ref 3), (1, .int a1)] [.int b0, .ref 3] w (sX1_chooseCounting_j22 a1 b0 w) := by
  unfold sX1_chooseCounting_j22
  refine xj_guard (fun hz => ?_)
  refine pfX1_38 dX1_chooseCounting_22 rfl hz ?_
  refine xj_iloadn 1 dX1_chooseCounting_25 rfl rfl ?_
  refine xj_tsw (tgtd := 157) [68, 81, 94, 157, 94, 157, 144] dX1_chooseCounting_26 rfl rfl rfl rfl ?_ ⟨?_, ?_, ?_, ?_, ?_, ?_, ?_, trivial⟩
  · refine xj_aloadn 0 dX1_chooseCounting_157 rfl rfl ?_
    refine xj_iconst (v := 0) dX1_chooseCounting_158 ci_0 ?_
    refine pfX1_38 dX1_chooseCounting_159 rfl (Or.inl rfl) ?_
    exact xj_rv dX1_chooseCounting_162 rfl
  · refine xj_aloadn 0 dX1_chooseCounting_68 rfl rfl ?_
    refine gfX1_15 dX1_chooseCounting_69 rfl ?_
    refine xj_gse (n := 17) 17 dX1_chooseCounting_72 (Nat.le_of_ble_eq_true rfl) rfl tw700 ?_
    refine pfX1_122 dX1_chooseCounting_75 rfl ?_
    refine xj_goto (tgt := 162) dX1_chooseCounting_78 rfl ?_
    exact xj_rv dX1_chooseCounting_162 rfl
  · refine xj_aloadn 0 dX1_chooseCounting_81 rfl rfl ?_
    refine gfX1_15 dX1_chooseCounting_82 rfl ?_
    refine xj_gse (n := 18) 18 dX1_chooseCounting_85 (Nat.le_of_ble_eq_true rfl) rfl tw702 ?_
    refine pfX1_122 dX1_chooseCounting_88 rfl ?_
    refine xj_goto (tgt := 162) dX1_chooseCounting_91 rfl ?_
    exact xj_rv dX1_chooseCounting_162 rfl
  · exact tX1_chooseCounting_j94 _ _
  · refine xj_aloadn 0 dX1_chooseCounting_157 rfl rfl ?_
    refine xj_iconst (v := 0) dX1_chooseCounting_158 ci_0 ?_
    refine pfX1_38 dX1_chooseCounting_159 rfl (Or.inl rfl) ?_
    exact xj_rv dX1_chooseCounting_162 rfl
  · exact tX1_chooseCounting_j94 _ _
  · refine xj_aloadn 0 dX1_chooseCounting_157 rfl rfl ?_
    refine xj_iconst (v := 0) dX1_chooseCounting_158 ci_0 ?_
    refine pfX1_38 dX1_chooseCounting_159 rfl (Or.inl rfl) ?_
    exact xj_rv dX1_chooseCounting_162 rfl
  · refine xj_aloadn 0 dX1_chooseCounting_144 rfl rfl ?_
    refine gfX1_15 dX1_chooseCounting_145 rfl ?_
    refine xj_gse (n := 42) 42 dX1_chooseCounting_148 (Nat.le_of_ble_eq_true rfl) rfl tw704 ?_
    refine pfX1_122 dX1_chooseCounting_151 rfl ?_
    refine xj_goto (tgt := 162) dX1_chooseCounting_154 rfl ?_
    exact xj_rv dX1_chooseCounting_162 rfl
set_option maxRecDepth 20000 in
def sX1_chooseCounting_j17 (a1 : Int32) (w : xW) : Option (Unit × xW) :=
  sX1_chooseCounting_j22 a1 (1 : Int32) w
set_option maxRecDepth 20000 in
theorem tX1_chooseCounting_j17 (a1 : Int32) (w : xW) : xJ ιV mX1_chooseCounting lC (0, 0) 17 [(0, .ref 3), (1, .int a1)] [.ref 3] w (sX1_chooseCounting_j17 a1 w) := by
  unfold sX1_chooseCounting_j17
  refine xj_iconst (v := 1) dX1_chooseCounting_17 ci_1 ?_
  refine xj_goto (tgt := 22) dX1_chooseCounting_18 rfl ?_
  exact tX1_chooseCounting_j22 _ _ _
set_option maxRecDepth 20000 in
def sX1_chooseCounting (p1 : Int32) (w : xW) : Option (Unit × xW) :=
  (if p1 < (2 : Int32) then sX1_chooseCounting_j17 p1 w else (if (w.1 2 4) = (4 : Int32) then sX1_chooseCounting_j17 p1 w else sX1_chooseCounting_j22 p1 (0 : Int32) w))
set_option maxRecDepth 20000 in
theorem tX1_chooseCounting (p1 : Int32) (w : xW) : xJ ιV mX1_chooseCounting lC (0, 0) 0 [(0, .ref 3), (1, .int p1)] [] w (sX1_chooseCounting p1 w) := by
  unfold sX1_chooseCounting
  refine xj_aloadn 0 dX1_chooseCounting_0 rfl rfl ?_
  refine xj_iloadn 1 dX1_chooseCounting_1 rfl rfl ?_
  refine xj_iconst (v := 2) dX1_chooseCounting_2 ci_2 ?_
  refine xj_ilt (tgt := 17) dX1_chooseCounting_3 rfl ?_ ?_
  · exact tX1_chooseCounting_j17 _ _
  · refine xj_aloadn 0 dX1_chooseCounting_6 rfl rfl ?_
    refine gfX1_15 dX1_chooseCounting_7 rfl ?_
    refine gfX1_137 (v := (w.1 2 4)) dX1_chooseCounting_10 rfl rfl ?_
    refine xj_iconst (v := 4) dX1_chooseCounting_13 ci_4 ?_
    refine xj_ine (tgt := 21) dX1_chooseCounting_14 rfl ?_ ?_
    · exact tX1_chooseCounting_j17 _ _
    · refine xj_iconst (v := 0) dX1_chooseCounting_21 ci_0 ?_
      exact tX1_chooseCounting_j22 _ _ _
theorem kX1_chooseCounting (p1 : Int32) (w : xW) : xMet jV mX1_chooseCounting lC (0, 0) [.ref 3, .int p1] w (sX1_chooseCounting p1 w) := xj_met lC_ok (by decide) (Nat.le_of_ble_eq_true rfl) (Nat.zero_le _) (Nat.zero_le _) (tX1_chooseCounting p1 w)
set_option maxRecDepth 20000 in
def sX1_chooseByDigit (w : xW) : Option (Unit × xW) :=
  xsw (w.1 3 6) (1) [(if ((w.1 2 8) &&& (7 : Int32)) = 0 then some ((), (xwi w 3 4 (1 : Int32))) else some ((), (xwi w 3 4 (0 : Int32)))), (if xin ((w.1 2 8) &&& (7 : Int32)) 54 then some ((), (xwi w 2 0 ((w.1 2 8) &&& (7 : Int32)))) else none), (if xin ((8 : Int32) + ((w.1 2 8) &&& (7 : Int32))) 54 then (if xin ((8 : Int32) + ((w.1 2 8) &&& (7 : Int32))) 54 ∧ xin (14 : Int32) 54 then (if ((8 : Int32) + ((w.1 2 8) &&& (7 : Int32))) = (14 : Int32) then some ((), (xwi (xwi w 2 0 ((8 : Int32) + ((w.1 2 8) &&& (7 : Int32)))) 3 4 (0 : Int32))) else some ((), (xwi (xwi w 2 0 ((8 : Int32) + ((w.1 2 8) &&& (7 : Int32)))) 3 4 (1 : Int32)))) else none) else none), xbd (sX1_chooseSingle ((w.1 2 8) &&& (7 : Int32)) w) (fun _ w1 => some ((), w1)), xbd (sX1_chooseCounting ((w.1 2 8) &&& (7 : Int32)) w) (fun _ w2 => some ((), w2)), (if xz (w.1 2 6) then some ((), (xwi w 3 4 (w.1 2 6))) else none)] (some ((), w))
set_option maxRecDepth 20000 in
theorem tX1_chooseByDigit (w : xW) : xJ ιV mX1_chooseByDigit lC (0, 0) 0 [(0, .ref 3)] [] w (sX1_chooseByDigit w) := by
  unfold sX1_chooseByDigit
  refine xj_aloadn 0 dX1_chooseByDigit_0 rfl rfl ?_
  refine gfX1_15 dX1_chooseByDigit_1 rfl ?_
  refine gfX1_97 (v := (w.1 2 8)) dX1_chooseByDigit_4 rfl rfl ?_
  refine xj_bipush (v := 7) dX1_chooseByDigit_7 cb_7 ?_
  refine xj_iand dX1_chooseByDigit_9 ?_
  refine xj_istoren (lv2 := [(1, .int ((w.1 2 8) &&& (7 : Int32))), (0, .ref 3)]) dX1_chooseByDigit_10 rfl (Nat.le_of_ble_eq_true rfl) rfl ?_
  refine xj_aloadn 1 dX1_chooseByDigit_11 rfl rfl ?_
  refine gfX1_44 (v := (w.1 3 6)) dX1_chooseByDigit_12 rfl rfl ?_
  refine xj_tsw (tgtd := 153) [52, 68, 83, 123, 131, 139] dX1_chooseByDigit_15 rfl rfl rfl rfl ?_ ⟨?_, ?_, ?_, ?_, ?_, ?_, trivial⟩
  · exact xj_rv dX1_chooseByDigit_153 rfl
  · refine xj_aloadn 1 dX1_chooseByDigit_52 rfl rfl ?_
    refine xj_iloadn 0 dX1_chooseByDigit_53 rfl rfl ?_
    refine xj_ifne (tgt := 61) dX1_chooseByDigit_54 rfl ?_ ?_
    · refine xj_iconst (v := 1) dX1_chooseByDigit_57 ci_1 ?_
      refine xj_goto (tgt := 62) dX1_chooseByDigit_58 rfl ?_
      refine pfX1_38 dX1_chooseByDigit_62 rfl (Or.inr rfl) ?_
      refine xj_goto (tgt := 153) dX1_chooseByDigit_65 rfl ?_
      exact xj_rv dX1_chooseByDigit_153 rfl
    · refine xj_iconst (v := 0) dX1_chooseByDigit_61 ci_0 ?_
      refine pfX1_38 dX1_chooseByDigit_62 rfl (Or.inl rfl) ?_
      refine xj_goto (tgt := 153) dX1_chooseByDigit_65 rfl ?_
      exact xj_rv dX1_chooseByDigit_153 rfl
  · refine xj_aloadn 1 dX1_chooseByDigit_68 rfl rfl ?_
    refine gfX1_15 dX1_chooseByDigit_69 rfl ?_
    refine xj_gsv (v := .ref 3001) dX1_chooseByDigit_72 tw712 (fun G A U H h => h.2.2.1.1) ?_
    refine xj_iloadn 0 dX1_chooseByDigit_75 rfl rfl ?_
    refine xj_guard (fun hi => ?_)
    refine xj_aaldq (f := fun j => 2000 + j) dX1_chooseByDigit_76 hi (fun G A U H h => h.2.2.1.2) ?_
    refine pfX1_122 dX1_chooseByDigit_77 rfl ?_
    refine xj_goto (tgt := 153) dX1_chooseByDigit_80 rfl ?_
    exact xj_rv dX1_chooseByDigit_153 rfl
  · refine xj_aloadn 1 dX1_chooseByDigit_83 rfl rfl ?_
    refine gfX1_15 dX1_chooseByDigit_84 rfl ?_
    refine xj_gsv (v := .ref 3001) dX1_chooseByDigit_87 tw712 (fun G A U H h => h.2.2.1.1) ?_
    refine xj_bipush (v := 8) dX1_chooseByDigit_90 cb_8 ?_
    refine xj_iloadn 0 dX1_chooseByDigit_92 rfl rfl ?_
    refine xj_iadd dX1_chooseByDigit_93 ?_
    refine xj_guard (fun hi => ?_)
    refine xj_aaldq (f := fun j => 2000 + j) dX1_chooseByDigit_94 hi (fun G A U H h => h.2.2.1.2) ?_
    refine pfX1_122 dX1_chooseByDigit_95 rfl ?_
    refine xj_aloadn 1 dX1_chooseByDigit_98 rfl rfl ?_
    refine xj_aloadn 1 dX1_chooseByDigit_99 rfl rfl ?_
    refine gfX1_15 dX1_chooseByDigit_100 rfl ?_
    refine gfX1_122 (v := ((8 : Int32) + ((w.1 2 8) &&& (7 : Int32)))) dX1_chooseByDigit_103 rfl rfl ?_
    refine xj_gse (n := 14) 14 dX1_chooseByDigit_106 (Nat.le_of_ble_eq_true rfl) rfl tw788 ?_
    refine xj_guard (fun hq => ?_)
    refine xj_aeq hq.1 hq.2 (tgt := 116) dX1_chooseByDigit_109 rfl ?_ ?_
    · refine xj_iconst (v := 0) dX1_chooseByDigit_116 ci_0 ?_
      refine pfX1_38 dX1_chooseByDigit_117 rfl (Or.inl rfl) ?_
      refine xj_goto (tgt := 153) dX1_chooseByDigit_120 rfl ?_
      exact xj_rv dX1_chooseByDigit_153 rfl
    · refine xj_iconst (v := 1) dX1_chooseByDigit_112 ci_1 ?_
      refine xj_goto (tgt := 117) dX1_chooseByDigit_113 rfl ?_
      refine pfX1_38 dX1_chooseByDigit_117 rfl (Or.inr rfl) ?_
      refine xj_goto (tgt := 153) dX1_chooseByDigit_120 rfl ?_
      exact xj_rv dX1_chooseByDigit_153 rfl
  · refine xj_aloadn 1 dX1_chooseByDigit_123 rfl rfl ?_
    refine xj_iloadn 0 dX1_chooseByDigit_124 rfl rfl ?_
    refine xj_cVv (argv := [.int ((w.1 2 8) &&& (7 : Int32))]) (rest := []) dX1_chooseByDigit_125 (kX1_chooseSingle ((w.1 2 8) &&& (7 : Int32)) w) mkX1_chooseSingle tw790 rfl rfl rfl rfl rfl rfl (fun _ w1 => ?_)
    refine xj_goto (tgt := 153) dX1_chooseByDigit_128 rfl ?_
    exact xj_rv dX1_chooseByDigit_153 rfl
  · refine xj_aloadn 1 dX1_chooseByDigit_131 rfl rfl ?_
    refine xj_iloadn 0 dX1_chooseByDigit_132 rfl rfl ?_
    refine xj_cVv (argv := [.int ((w.1 2 8) &&& (7 : Int32))]) (rest := []) dX1_chooseByDigit_133 (kX1_chooseCounting ((w.1 2 8) &&& (7 : Int32)) w) mkX1_chooseCounting tw806 rfl rfl rfl rfl rfl rfl (fun _ w2 => ?_)
    refine xj_goto (tgt := 153) dX1_chooseByDigit_136 rfl ?_
    exact xj_rv dX1_chooseByDigit_153 rfl
  · refine xj_aloadn 1 dX1_chooseByDigit_139 rfl rfl ?_
    refine xj_aloadn 1 dX1_chooseByDigit_140 rfl rfl ?_
    refine gfX1_15 dX1_chooseByDigit_141 rfl ?_
    refine gfX1_103 (v := (w.1 2 6)) dX1_chooseByDigit_144 rfl rfl ?_
    refine xj_guard (fun hz => ?_)
    refine pfX1_38 dX1_chooseByDigit_147 rfl hz ?_
    refine xj_goto (tgt := 153) dX1_chooseByDigit_150 rfl ?_
    exact xj_rv dX1_chooseByDigit_153 rfl
theorem kX1_chooseByDigit (w : xW) : xMet jV mX1_chooseByDigit lC (0, 0) [.ref 3] w (sX1_chooseByDigit w) := xj_met lC_ok (by decide) (Nat.le_of_ble_eq_true rfl) (Nat.zero_le _) (Nat.zero_le _) (tX1_chooseByDigit w)
set_option maxRecDepth 20000 in
def sX1_decode_j165 (a1 : Int32) (w : xW) : Option (Int32 × xW) :=
  (if (w.1 3 3) = 0 then (if (w.1 3 4) = 0 then some ((0 : Int32), w) else (if (w.1 2 1) = (9 : Int32) then some (((w.1 3 2) - a1), (xwi (xwi w 2 14 ((w.1 3 2) - a1)) 2 13 ((w.1 2 13) + ((4096 : Int32) + (w.1 3 2))))) else some (((w.1 3 2) - a1), (xwi w 2 14 ((w.1 3 2) - a1))))) else some ((0 : Int32), w))
set_option maxRecDepth 20000 in
theorem tX1_decode_j165 (a1 : Int32) (w : xW) : xJ ιI mX1_decode lC (0, 0) 165 [(0, .ref 3), (1, .int a1)] [] w (sX1_decode_j165 a1 w) := by
  unfold sX1_decode_j165
  refine xj_aloadn 0 dX1_decode_165 rfl rfl ?_
  refine gfX1_34 (v := (w.1 3 3)) dX1_decode_166 rfl rfl ?_
  refine xj_ifne (tgt := 179) dX1_decode_169 rfl ?_ ?_
  · refine xj_aloadn 0 dX1_decode_172 rfl rfl ?_
    refine gfX1_38 (v := (w.1 3 4)) dX1_decode_173 rfl rfl ?_
    refine xj_ifne (tgt := 181) dX1_decode_176 rfl ?_ ?_
    · refine xj_iconst (v := 0) dX1_decode_179 ci_0 ?_
      exact xj_ri dX1_decode_180 rfl
    · refine xj_aloadn 0 dX1_decode_181 rfl rfl ?_
      refine gfX1_15 dX1_decode_182 rfl ?_
      refine xj_aloadn 0 dX1_decode_185 rfl rfl ?_
      refine gfX1_30 (v := (w.1 3 2)) dX1_decode_186 rfl rfl ?_
      refine xj_iloadn 1 dX1_decode_189 rfl rfl ?_
      refine xj_isub dX1_decode_190 ?_
      refine pfX1_84 dX1_decode_191 rfl ?_
      refine xj_aloadn 0 dX1_decode_194 rfl rfl ?_
      refine gfX1_15 dX1_decode_195 rfl ?_
      refine gfX1_87 (v := (w.1 2 1)) dX1_decode_198 rfl rfl ?_
      refine xj_bipush (v := 9) dX1_decode_201 cb_9 ?_
      refine xj_ine (tgt := 226) dX1_decode_203 rfl ?_ ?_
      · refine xj_aloadn 0 dX1_decode_206 rfl rfl ?_
        refine gfX1_15 dX1_decode_207 rfl ?_
        refine xj_dup dX1_decode_210 rfl ?_
        refine gfX1_81 (v := (w.1 2 13)) dX1_decode_211 rfl rfl ?_
        refine xj_sipush (v := 4096) dX1_decode_214 cs_4096 ?_
        refine xj_aloadn 0 dX1_decode_217 rfl rfl ?_
        refine gfX1_30 (v := (w.1 3 2)) dX1_decode_218 rfl rfl ?_
        refine xj_iadd dX1_decode_221 ?_
        refine xj_iadd dX1_decode_222 ?_
        refine pfX1_81 dX1_decode_223 rfl ?_
        refine xj_aloadn 0 dX1_decode_226 rfl rfl ?_
        refine gfX1_15 dX1_decode_227 rfl ?_
        refine gfX1_84 (v := ((w.1 3 2) - a1)) dX1_decode_230 rfl rfl ?_
        exact xj_ri dX1_decode_233 rfl
      · refine xj_aloadn 0 dX1_decode_226 rfl rfl ?_
        refine gfX1_15 dX1_decode_227 rfl ?_
        refine gfX1_84 (v := ((w.1 3 2) - a1)) dX1_decode_230 rfl rfl ?_
        exact xj_ri dX1_decode_233 rfl
  · refine xj_iconst (v := 0) dX1_decode_179 ci_0 ?_
    exact xj_ri dX1_decode_180 rfl
set_option maxRecDepth 20000 in
def sX1_decode_j143 (a1 : Int32) (w : xW) : Option (Int32 × xW) :=
  (if 0 < (w.1 3 7) then xbd (sX1_nextNumber (w.1 3 7) w) (fun x1 w2 => sX1_decode_j165 a1 (xwi w2 2 13 x1)) else sX1_decode_j165 a1 w)
set_option maxRecDepth 20000 in
theorem tX1_decode_j143 (a1 : Int32) (w : xW) : xJ ιI mX1_decode lC (0, 0) 143 [(0, .ref 3), (1, .int a1)] [] w (sX1_decode_j143 a1 w) := by
  unfold sX1_decode_j143
  refine xj_aloadn 0 dX1_decode_143 rfl rfl ?_
  refine gfX1_47 (v := (w.1 3 7)) dX1_decode_144 rfl rfl ?_
  refine xj_ifle (tgt := 165) dX1_decode_147 rfl ?_ ?_
  · refine xj_aloadn 0 dX1_decode_150 rfl rfl ?_
    refine gfX1_15 dX1_decode_151 rfl ?_
    refine xj_aloadn 0 dX1_decode_154 rfl rfl ?_
    refine xj_aloadn 0 dX1_decode_155 rfl rfl ?_
    refine gfX1_47 (v := (w.1 3 7)) dX1_decode_156 rfl rfl ?_
    refine xj_cVi (argv := [.int (w.1 3 7)]) (rest := [.ref 2]) dX1_decode_159 (kX1_nextNumber (w.1 3 7) w) mkX1_nextNumber tw780 rfl rfl rfl rfl rfl rfl (fun x1 w2 => ?_)
    refine pfX1_81 dX1_decode_162 rfl ?_
    exact tX1_decode_j165 _ _
  · exact tX1_decode_j165 _ _
set_option maxRecDepth 20000 in
def sX1_decode_j128 (a1 : Int32) (w : xW) : Option (Int32 × xW) :=
  (if (w.1 3 5) = 0 then sX1_decode_j143 a1 w else xbd (sX1_readE w) (fun _ w1 => xbd (sX1_chooseByDigit w1) (fun _ w2 => sX1_decode_j143 a1 w2)))
set_option maxRecDepth 20000 in
theorem tX1_decode_j128 (a1 : Int32) (w : xW) : xJ ιI mX1_decode lC (0, 0) 128 [(0, .ref 3), (1, .int a1)] [] w (sX1_decode_j128 a1 w) := by
  unfold sX1_decode_j128
  refine xj_aloadn 0 dX1_decode_128 rfl rfl ?_
  refine gfX1_41 (v := (w.1 3 5)) dX1_decode_129 rfl rfl ?_
  refine xj_ifeq (tgt := 143) dX1_decode_132 rfl ?_ ?_
  · exact tX1_decode_j143 _ _
  · refine xj_aloadn 0 dX1_decode_135 rfl rfl ?_
    refine xj_cVv (argv := []) (rest := []) dX1_decode_136 (kX1_readE w) mkX1_readE tw776 rfl rfl rfl rfl rfl rfl (fun _ w1 => ?_)
    refine xj_aloadn 0 dX1_decode_139 rfl rfl ?_
    refine xj_cVv (argv := []) (rest := []) dX1_decode_140 (kX1_chooseByDigit w1) mkX1_chooseByDigit tw784 rfl rfl rfl rfl rfl rfl (fun _ w2 => ?_)
    exact tX1_decode_j143 _ _
set_option maxRecDepth 20000 in
def sX1_decode_j125 (a1 : Int32) (b0 : Int32) (b1 : Int32) (w : xW) : Option (Int32 × xW) :=
  xbd (sX1_chooseHigh b1 b0 w) (fun _ w1 => sX1_decode_j128 a1 w1)
set_option maxRecDepth 20000 in
theorem tX1_decode_j125 (a1 : Int32) (b0 : Int32) (b1 : Int32) (w : xW) : xJ ιI mX1_decode lC (0, 0) 125 [(0, .ref 3), (1, .int a1)] [.int b0, .int b1, .ref 3] w (sX1_decode_j125 a1 b0 b1 w) := by
  unfold sX1_decode_j125
  refine xj_cVv (argv := [.int b1, .int b0]) (rest := []) dX1_decode_125 (kX1_chooseHigh b1 b0 w) mkX1_chooseHigh tw718 rfl rfl rfl rfl rfl rfl (fun _ w1 => ?_)
  exact tX1_decode_j128 _ _
set_option maxRecDepth 20000 in
def sX1_decode (p1 : Int32) (w : xW) : Option (Int32 × xW) :=
  xbd (sX6_clear w) (fun _ w1 => xbd (sX4_has p1 w1) (fun x2 w3 => (if x2 = 0 then some ((0 : Int32), w3) else xbd (sX1_nextByte (xwi (xwi (xwi (xwi (xwi (xwi w3 3 2 p1) 3 3 (0 : Int32)) 3 4 (1 : Int32)) 3 5 (0 : Int32)) 3 6 (0 : Int32)) 3 7 (0 : Int32))) (fun x4 w5 => (if x4 = (15 : Int32) then xbd (sX1_nextByte (xwi w5 2 2 x4)) (fun x10 w11 => xbd (sX1_chooseLong x10 w11) (fun _ w12 => sX1_decode_j128 p1 w12)) else (if x4 = (102 : Int32) then xbd (sX1_nextByte (xwi w5 2 2 x4)) (fun x7 w8 => xbd (sX1_chooseWord x7 w8) (fun _ w9 => sX1_decode_j128 p1 w9)) else (if x4 < (128 : Int32) then xbd (sX1_chooseLow x4 (xwi w5 2 2 x4)) (fun _ w6 => sX1_decode_j128 p1 w6) else (if (x4 &&& (1 : Int32)) = 0 then sX1_decode_j125 p1 (1 : Int32) x4 (xwi w5 2 2 x4) else sX1_decode_j125 p1 (4 : Int32) x4 (xwi w5 2 2 x4)))))))))
set_option maxRecDepth 20000 in
theorem tX1_decode (p1 : Int32) (w : xW) : xJ ιI mX1_decode lC (0, 0) 0 [(0, .ref 3), (1, .int p1)] [] w (sX1_decode p1 w) := by
  unfold sX1_decode
  refine xj_aloadn 0 dX1_decode_0 rfl rfl ?_
  refine gfX1_15 dX1_decode_1 rfl ?_
  refine xj_cVv (argv := []) (rest := []) dX1_decode_4 (kX6_clear w) mkX6_clear tw627 rfl rfl rfl rfl rfl rfl (fun _ w1 => ?_)
  refine xj_aloadn 0 dX1_decode_7 rfl rfl ?_
  refine gfX1_9 dX1_decode_8 rfl ?_
  refine xj_iloadn 1 dX1_decode_11 rfl rfl ?_
  refine xj_cVi (argv := [.int p1]) (rest := []) dX1_decode_12 (kX4_has p1 w1) mkX4_has tw631 rfl rfl rfl rfl rfl rfl (fun x2 w3 => ?_)
  refine xj_ifne (tgt := 20) dX1_decode_15 rfl ?_ ?_
  · refine xj_iconst (v := 0) dX1_decode_18 ci_0 ?_
    exact xj_ri dX1_decode_19 rfl
  · refine xj_aloadn 0 dX1_decode_20 rfl rfl ?_
    refine xj_iloadn 1 dX1_decode_21 rfl rfl ?_
    refine pfX1_30 dX1_decode_22 rfl ?_
    refine xj_aloadn 0 dX1_decode_25 rfl rfl ?_
    refine xj_iconst (v := 0) dX1_decode_26 ci_0 ?_
    refine pfX1_34 dX1_decode_27 rfl (Or.inl rfl) ?_
    refine xj_aloadn 0 dX1_decode_30 rfl rfl ?_
    refine xj_iconst (v := 1) dX1_decode_31 ci_1 ?_
    refine pfX1_38 dX1_decode_32 rfl (Or.inr rfl) ?_
    refine xj_aloadn 0 dX1_decode_35 rfl rfl ?_
    refine xj_iconst (v := 0) dX1_decode_36 ci_0 ?_
    refine pfX1_41 dX1_decode_37 rfl (Or.inl rfl) ?_
    refine xj_aloadn 0 dX1_decode_40 rfl rfl ?_
    refine xj_iconst (v := 0) dX1_decode_41 ci_0 ?_
    refine pfX1_44 dX1_decode_42 rfl ?_
    refine xj_aloadn 0 dX1_decode_45 rfl rfl ?_
    refine xj_iconst (v := 0) dX1_decode_46 ci_0 ?_
    refine pfX1_47 dX1_decode_47 rfl ?_
    refine xj_aloadn 0 dX1_decode_50 rfl rfl ?_
    refine xj_cVi (argv := []) (rest := []) dX1_decode_51 (kX1_nextByte (xwi (xwi (xwi (xwi (xwi (xwi w3 3 2 p1) 3 3 (0 : Int32)) 3 4 (1 : Int32)) 3 5 (0 : Int32)) 3 6 (0 : Int32)) 3 7 (0 : Int32))) mkX1_nextByte tw635 rfl rfl rfl rfl rfl rfl (fun x4 w5 => ?_)
    refine xj_istoren (lv2 := [(2, .int x4), (0, .ref 3), (1, .int p1)]) dX1_decode_54 rfl (Nat.le_of_ble_eq_true rfl) rfl ?_
    refine xj_aloadn 1 dX1_decode_55 rfl rfl ?_
    refine gfX1_15 dX1_decode_56 rfl ?_
    refine xj_iloadn 0 dX1_decode_59 rfl rfl ?_
    refine pfX1_54 dX1_decode_60 rfl ?_
    refine xj_iloadn 0 dX1_decode_63 rfl rfl ?_
    refine xj_bipush (v := 15) dX1_decode_64 cb_15 ?_
    refine xj_ine (tgt := 80) dX1_decode_66 rfl ?_ ?_
    · refine xj_aloadn 1 dX1_decode_69 rfl rfl ?_
      refine xj_aloadn 1 dX1_decode_70 rfl rfl ?_
      refine xj_cVi (argv := []) (rest := [.ref 3]) dX1_decode_71 (kX1_nextByte (xwi w5 2 2 x4)) mkX1_nextByte tw635 rfl rfl rfl rfl rfl rfl (fun x10 w11 => ?_)
      refine xj_cVv (argv := [.int x10]) (rest := []) dX1_decode_74 (kX1_chooseLong x10 w11) mkX1_chooseLong tw639 rfl rfl rfl rfl rfl rfl (fun _ w12 => ?_)
      refine xj_goto (tgt := 128) dX1_decode_77 rfl ?_
      refine xj_sub (lv2 := [(0, .ref 3), (1, .int p1)]) [1, 2] rfl ?_
      exact tX1_decode_j128 _ _
    · refine xj_iloadn 0 dX1_decode_80 rfl rfl ?_
      refine xj_bipush (v := 102) dX1_decode_81 cb_102 ?_
      refine xj_ine (tgt := 97) dX1_decode_83 rfl ?_ ?_
      · refine xj_aloadn 1 dX1_decode_86 rfl rfl ?_
        refine xj_aloadn 1 dX1_decode_87 rfl rfl ?_
        refine xj_cVi (argv := []) (rest := [.ref 3]) dX1_decode_88 (kX1_nextByte (xwi w5 2 2 x4)) mkX1_nextByte tw635 rfl rfl rfl rfl rfl rfl (fun x7 w8 => ?_)
        refine xj_cVv (argv := [.int x7]) (rest := []) dX1_decode_91 (kX1_chooseWord x7 w8) mkX1_chooseWord tw690 rfl rfl rfl rfl rfl rfl (fun _ w9 => ?_)
        refine xj_goto (tgt := 128) dX1_decode_94 rfl ?_
        refine xj_sub (lv2 := [(0, .ref 3), (1, .int p1)]) [1, 2] rfl ?_
        exact tX1_decode_j128 _ _
      · refine xj_iloadn 0 dX1_decode_97 rfl rfl ?_
        refine xj_sipush (v := 128) dX1_decode_98 cs_128 ?_
        refine xj_ige (tgt := 112) dX1_decode_101 rfl ?_ ?_
        · refine xj_aloadn 1 dX1_decode_104 rfl rfl ?_
          refine xj_iloadn 0 dX1_decode_105 rfl rfl ?_
          refine xj_cVv (argv := [.int x4]) (rest := []) dX1_decode_106 (kX1_chooseLow x4 (xwi w5 2 2 x4)) mkX1_chooseLow tw696 rfl rfl rfl rfl rfl rfl (fun _ w6 => ?_)
          refine xj_goto (tgt := 128) dX1_decode_109 rfl ?_
          refine xj_sub (lv2 := [(0, .ref 3), (1, .int p1)]) [1, 2] rfl ?_
          exact tX1_decode_j128 _ _
        · refine xj_aloadn 1 dX1_decode_112 rfl rfl ?_
          refine xj_iloadn 0 dX1_decode_113 rfl rfl ?_
          refine xj_iloadn 0 dX1_decode_114 rfl rfl ?_
          refine xj_iconst (v := 1) dX1_decode_115 ci_1 ?_
          refine xj_iand dX1_decode_116 ?_
          refine xj_ifne (tgt := 124) dX1_decode_117 rfl ?_ ?_
          · refine xj_iconst (v := 1) dX1_decode_120 ci_1 ?_
            refine xj_goto (tgt := 125) dX1_decode_121 rfl ?_
            refine xj_sub (lv2 := [(0, .ref 3), (1, .int p1)]) [1, 2] rfl ?_
            exact tX1_decode_j125 _ _ _ _
          · refine xj_iconst (v := 4) dX1_decode_124 ci_4 ?_
            refine xj_sub (lv2 := [(0, .ref 3), (1, .int p1)]) [1, 2] rfl ?_
            exact tX1_decode_j125 _ _ _ _
theorem kX1_decode (p1 : Int32) (w : xW) : xMet jI mX1_decode lC (0, 0) [.ref 3, .int p1] w (sX1_decode p1 w) := xj_met lC_ok (by decide) (Nat.le_of_ble_eq_true rfl) (Nat.zero_le _) (Nat.zero_le _) (tX1_decode p1 w)
set_option maxRecDepth 20000 in
def sX2_has (p1 : Int32) (w : xW) : Option (Int32 × xW) :=
  (if ((w.1 9 0) &&& p1) = 0 then some ((0 : Int32), w) else some ((1 : Int32), w))
set_option maxRecDepth 20000 in
theorem tX2_has (p1 : Int32) (w : xW) : xJ ιI mX2_has lC (0, 0) 0 [(0, .ref 9), (1, .int p1)] [] w (sX2_has p1 w) := by
  unfold sX2_has
  refine xj_aloadn 0 dX2_has_0 rfl rfl ?_
  refine gfX2_7 (v := (w.1 9 0)) dX2_has_1 rfl rfl ?_
  refine xj_iloadn 1 dX2_has_4 rfl rfl ?_
  refine xj_iand dX2_has_5 ?_
  refine xj_ifeq (tgt := 13) dX2_has_6 rfl ?_ ?_
  · refine xj_iconst (v := 0) dX2_has_13 ci_0 ?_
    exact xj_rz dX2_has_14 rfl (Or.inl rfl)
  · refine xj_iconst (v := 1) dX2_has_9 ci_1 ?_
    refine xj_goto (tgt := 14) dX2_has_10 rfl ?_
    exact xj_rz dX2_has_14 rfl (Or.inr rfl)
theorem kX2_has (p1 : Int32) (w : xW) : xMet jI mX2_has lC (0, 0) [.ref 9, .int p1] w (sX2_has p1 w) := xj_met lC_ok (by decide) (Nat.le_of_ble_eq_true rfl) (Nat.zero_le _) (Nat.zero_le _) (tX2_has p1 w)
set_option maxRecDepth 20000 in
def sX2_set (p1 : Int32) (p2 : Int32) (w : xW) : Option (Unit × xW) :=
  (if p2 = 0 then some ((), (xwi w 9 0 ((w.1 9 0) &&& (p1 ^^^ (-1 : Int32))))) else some ((), (xwi w 9 0 ((w.1 9 0) ||| p1))))
set_option maxRecDepth 20000 in
theorem tX2_set (p1 : Int32) (p2 : Int32) (w : xW) : xJ ιV mX2_set lC (0, 0) 0 [(0, .ref 9), (1, .int p1), (2, .int p2)] [] w (sX2_set p1 p2 w) := by
  unfold sX2_set
  refine xj_aloadn 0 dX2_set_0 rfl rfl ?_
  refine xj_iloadn 2 dX2_set_1 rfl rfl ?_
  refine xj_ifeq (tgt := 14) dX2_set_2 rfl ?_ ?_
  · refine xj_aloadn 0 dX2_set_14 rfl rfl ?_
    refine gfX2_7 (v := (w.1 9 0)) dX2_set_15 rfl rfl ?_
    refine xj_iloadn 1 dX2_set_18 rfl rfl ?_
    refine xj_iconst (v := -1) dX2_set_19 ci_m1 ?_
    refine xj_ixor dX2_set_20 ?_
    refine xj_iand dX2_set_21 ?_
    refine pfX2_7 dX2_set_22 rfl ?_
    exact xj_rv dX2_set_25 rfl
  · refine xj_aloadn 0 dX2_set_5 rfl rfl ?_
    refine gfX2_7 (v := (w.1 9 0)) dX2_set_6 rfl rfl ?_
    refine xj_iloadn 1 dX2_set_9 rfl rfl ?_
    refine xj_ior dX2_set_10 ?_
    refine xj_goto (tgt := 22) dX2_set_11 rfl ?_
    refine pfX2_7 dX2_set_22 rfl ?_
    exact xj_rv dX2_set_25 rfl
theorem kX2_set (p1 : Int32) (p2 : Int32) (w : xW) : xMet jV mX2_set lC (0, 0) [.ref 9, .int p1, .int p2] w (sX2_set p1 p2 w) := xj_met lC_ok (by decide) (Nat.le_of_ble_eq_true rfl) (Nat.zero_le _) (Nat.zero_le _) (tX2_set p1 p2 w)
set_option maxRecDepth 20000 in
def sX2_holds_j194 (b0 : Int32) (b1 : Int32) (w : xW) : Option (Int32 × xW) :=
  (if b1 = b0 then some ((1 : Int32), w) else some ((0 : Int32), w))
set_option maxRecDepth 20000 in
theorem tX2_holds_j194 (b0 : Int32) (b1 : Int32) (w : xW) : xJ ιI mX2_holds lC (0, 0) 194 [] [.int b0, .int b1] w (sX2_holds_j194 b0 b1 w) := by
  unfold sX2_holds_j194
  refine xj_ine (tgt := 201) dX2_holds_194 rfl ?_ ?_
  · refine xj_iconst (v := 1) dX2_holds_197 ci_1 ?_
    refine xj_goto (tgt := 202) dX2_holds_198 rfl ?_
    exact xj_rz dX2_holds_202 rfl (Or.inr rfl)
  · refine xj_iconst (v := 0) dX2_holds_201 ci_0 ?_
    exact xj_rz dX2_holds_202 rfl (Or.inl rfl)
set_option maxRecDepth 20000 in
def sX2_holds_j182 (a1 : Int32) (a2 : Int32) (w : xW) : Option (Int32 × xW) :=
  (if (a1 &&& (1 : Int32)) = 0 then sX2_holds_j194 (1 : Int32) a2 w else sX2_holds_j194 (0 : Int32) a2 w)
set_option maxRecDepth 20000 in
theorem tX2_holds_j182 (a1 : Int32) (a2 : Int32) (w : xW) : xJ ιI mX2_holds lC (0, 0) 182 [(1, .int a1), (2, .int a2)] [] w (sX2_holds_j182 a1 a2 w) := by
  unfold sX2_holds_j182
  refine xj_iloadn 1 dX2_holds_182 rfl rfl ?_
  refine xj_iloadn 0 dX2_holds_183 rfl rfl ?_
  refine xj_iconst (v := 1) dX2_holds_184 ci_1 ?_
  refine xj_iand dX2_holds_185 ?_
  refine xj_ifne (tgt := 193) dX2_holds_186 rfl ?_ ?_
  · refine xj_iconst (v := 1) dX2_holds_189 ci_1 ?_
    refine xj_goto (tgt := 194) dX2_holds_190 rfl ?_
    refine xj_sub (lv2 := []) [] rfl ?_
    exact tX2_holds_j194 _ _ _
  · refine xj_iconst (v := 0) dX2_holds_193 ci_0 ?_
    refine xj_sub (lv2 := []) [] rfl ?_
    exact tX2_holds_j194 _ _ _
set_option maxRecDepth 20000 in
def sX2_holds_j181 (a1 : Int32) (b0 : Int32) (w : xW) : Option (Int32 × xW) :=
  sX2_holds_j182 a1 b0 w
set_option maxRecDepth 20000 in
theorem tX2_holds_j181 (a1 : Int32) (b0 : Int32) (w : xW) : xJ ιI mX2_holds lC (0, 0) 181 [(1, .int a1)] [.int b0] w (sX2_holds_j181 a1 b0 w) := by
  unfold sX2_holds_j181
  refine xj_istoren (lv2 := [(2, .int b0), (1, .int a1)]) dX2_holds_181 rfl (Nat.le_of_ble_eq_true rfl) rfl ?_
  refine xj_sub (lv2 := [(1, .int a1), (2, .int b0)]) [1, 0] rfl ?_
  exact tX2_holds_j182 _ _ _
set_option maxRecDepth 20000 in
def sX2_holds_j176 (a1 : Int32) (w : xW) : Option (Int32 × xW) :=
  sX2_holds_j181 a1 (1 : Int32) w
set_option maxRecDepth 20000 in
theorem tX2_holds_j176 (a1 : Int32) (w : xW) : xJ ιI mX2_holds lC (0, 0) 176 [(1, .int a1)] [] w (sX2_holds_j176 a1 w) := by
  unfold sX2_holds_j176
  refine xj_iconst (v := 1) dX2_holds_176 ci_1 ?_
  refine xj_goto (tgt := 181) dX2_holds_177 rfl ?_
  exact tX2_holds_j181 _ _ _
set_option maxRecDepth 20000 in
def sX2_holds_j100 (a1 : Int32) (b0 : Int32) (w : xW) : Option (Int32 × xW) :=
  sX2_holds_j182 a1 b0 w
set_option maxRecDepth 20000 in
theorem tX2_holds_j100 (a1 : Int32) (b0 : Int32) (w : xW) : xJ ιI mX2_holds lC (0, 0) 100 [(1, .int a1)] [.int b0] w (sX2_holds_j100 a1 b0 w) := by
  unfold sX2_holds_j100
  refine xj_istoren (lv2 := [(2, .int b0), (1, .int a1)]) dX2_holds_100 rfl (Nat.le_of_ble_eq_true rfl) rfl ?_
  refine xj_goto (tgt := 182) dX2_holds_101 rfl ?_
  refine xj_sub (lv2 := [(1, .int a1), (2, .int b0)]) [1, 0] rfl ?_
  exact tX2_holds_j182 _ _ _
set_option maxRecDepth 20000 in
def sX2_holds_j95 (a1 : Int32) (w : xW) : Option (Int32 × xW) :=
  sX2_holds_j100 a1 (1 : Int32) w
set_option maxRecDepth 20000 in
theorem tX2_holds_j95 (a1 : Int32) (w : xW) : xJ ιI mX2_holds lC (0, 0) 95 [(1, .int a1)] [] w (sX2_holds_j95 a1 w) := by
  unfold sX2_holds_j95
  refine xj_iconst (v := 1) dX2_holds_95 ci_1 ?_
  refine xj_goto (tgt := 100) dX2_holds_96 rfl ?_
  exact tX2_holds_j100 _ _ _
set_option maxRecDepth 20000 in
def sX2_holds_j146 (a1 : Int32) (b0 : Int32) (w : xW) : Option (Int32 × xW) :=
  sX2_holds_j182 a1 b0 w
set_option maxRecDepth 20000 in
theorem tX2_holds_j146 (a1 : Int32) (b0 : Int32) (w : xW) : xJ ιI mX2_holds lC (0, 0) 146 [(1, .int a1)] [.int b0] w (sX2_holds_j146 a1 b0 w) := by
  unfold sX2_holds_j146
  refine xj_istoren (lv2 := [(2, .int b0), (1, .int a1)]) dX2_holds_146 rfl (Nat.le_of_ble_eq_true rfl) rfl ?_
  refine xj_goto (tgt := 182) dX2_holds_147 rfl ?_
  refine xj_sub (lv2 := [(1, .int a1), (2, .int b0)]) [1, 0] rfl ?_
  exact tX2_holds_j182 _ _ _
set_option maxRecDepth 20000 in
def sX2_holds (p1 : Int32) (w : xW) : Option (Int32 × xW) :=
  xsw ((p1 >>> ((1 : Int32) &&& 31)) &&& (7 : Int32)) (0) [xbd (sX2_has (2048 : Int32) w) (fun x7 w8 => sX2_holds_j182 p1 x7 w8), xbd (sX2_has (1 : Int32) w) (fun x9 w10 => sX2_holds_j182 p1 x9 w10), xbd (sX2_has (64 : Int32) w) (fun x11 w12 => sX2_holds_j182 p1 x11 w12), xbd (sX2_has (1 : Int32) w) (fun x13 w14 => (if x13 = 0 then xbd (sX2_has (64 : Int32) w14) (fun x15 w16 => (if x15 = 0 then sX2_holds_j100 p1 (0 : Int32) w16 else sX2_holds_j95 p1 w16)) else sX2_holds_j95 p1 w14)), xbd (sX2_has (128 : Int32) w) (fun x17 w18 => sX2_holds_j182 p1 x17 w18), xbd (sX2_has (4 : Int32) w) (fun x19 w20 => sX2_holds_j182 p1 x19 w20), xbd (sX2_has (128 : Int32) w) (fun x21 w22 => xbd (sX2_has (2048 : Int32) w22) (fun x23 w24 => (if x21 = x23 then sX2_holds_j146 p1 (0 : Int32) w24 else sX2_holds_j146 p1 (1 : Int32) w24)))] (xbd (sX2_has (64 : Int32) w) (fun x1 w2 => (if x1 = 0 then xbd (sX2_has (128 : Int32) w2) (fun x3 w4 => xbd (sX2_has (2048 : Int32) w4) (fun x5 w6 => (if x3 = x5 then sX2_holds_j181 p1 (0 : Int32) w6 else sX2_holds_j176 p1 w6))) else sX2_holds_j176 p1 w2)))
set_option maxRecDepth 20000 in
theorem tX2_holds (p1 : Int32) (w : xW) : xJ ιI mX2_holds lC (0, 0) 0 [(0, .ref 9), (1, .int p1)] [] w (sX2_holds p1 w) := by
  unfold sX2_holds
  refine xj_iloadn 1 dX2_holds_0 rfl rfl ?_
  refine xj_iconst (v := 1) dX2_holds_1 ci_1 ?_
  refine xj_ishr dX2_holds_2 ?_
  refine xj_bipush (v := 7) dX2_holds_3 cb_7 ?_
  refine xj_iand dX2_holds_5 ?_
  refine xj_tsw (tgtd := 150) [48, 59, 68, 78, 104, 115, 124] dX2_holds_6 rfl rfl rfl rfl ?_ ⟨?_, ?_, ?_, ?_, ?_, ?_, ?_, trivial⟩
  · refine xj_aloadn 0 dX2_holds_150 rfl rfl ?_
    refine xj_bipush (v := 64) dX2_holds_151 cb_64 ?_
    refine xj_cVi (argv := [.int (64 : Int32)]) (rest := []) dX2_holds_153 (kX2_has (64 : Int32) w) mkX2_has tw1633 rfl rfl rfl rfl rfl rfl (fun x1 w2 => ?_)
    refine xj_ifne (tgt := 176) dX2_holds_156 rfl ?_ ?_
    · refine xj_aloadn 0 dX2_holds_159 rfl rfl ?_
      refine xj_sipush (v := 128) dX2_holds_160 cs_128 ?_
      refine xj_cVi (argv := [.int (128 : Int32)]) (rest := []) dX2_holds_163 (kX2_has (128 : Int32) w2) mkX2_has tw1633 rfl rfl rfl rfl rfl rfl (fun x3 w4 => ?_)
      refine xj_aloadn 0 dX2_holds_166 rfl rfl ?_
      refine xj_sipush (v := 2048) dX2_holds_167 cs_2048 ?_
      refine xj_cVi (argv := [.int (2048 : Int32)]) (rest := [.int x3]) dX2_holds_170 (kX2_has (2048 : Int32) w4) mkX2_has tw1633 rfl rfl rfl rfl rfl rfl (fun x5 w6 => ?_)
      refine xj_ieq (tgt := 180) dX2_holds_173 rfl ?_ ?_
      · refine xj_iconst (v := 0) dX2_holds_180 ci_0 ?_
        refine xj_sub (lv2 := [(1, .int p1)]) [1] rfl ?_
        exact tX2_holds_j181 _ _ _
      · refine xj_sub (lv2 := [(1, .int p1)]) [1] rfl ?_
        exact tX2_holds_j176 _ _
    · refine xj_sub (lv2 := [(1, .int p1)]) [1] rfl ?_
      exact tX2_holds_j176 _ _
  · refine xj_aloadn 0 dX2_holds_48 rfl rfl ?_
    refine xj_sipush (v := 2048) dX2_holds_49 cs_2048 ?_
    refine xj_cVi (argv := [.int (2048 : Int32)]) (rest := []) dX2_holds_52 (kX2_has (2048 : Int32) w) mkX2_has tw1633 rfl rfl rfl rfl rfl rfl (fun x7 w8 => ?_)
    refine xj_istoren (lv2 := [(2, .int x7), (0, .ref 9), (1, .int p1)]) dX2_holds_55 rfl (Nat.le_of_ble_eq_true rfl) rfl ?_
    refine xj_goto (tgt := 182) dX2_holds_56 rfl ?_
    refine xj_sub (lv2 := [(1, .int p1), (2, .int x7)]) [2, 0] rfl ?_
    exact tX2_holds_j182 _ _ _
  · refine xj_aloadn 0 dX2_holds_59 rfl rfl ?_
    refine xj_iconst (v := 1) dX2_holds_60 ci_1 ?_
    refine xj_cVi (argv := [.int (1 : Int32)]) (rest := []) dX2_holds_61 (kX2_has (1 : Int32) w) mkX2_has tw1633 rfl rfl rfl rfl rfl rfl (fun x9 w10 => ?_)
    refine xj_istoren (lv2 := [(2, .int x9), (0, .ref 9), (1, .int p1)]) dX2_holds_64 rfl (Nat.le_of_ble_eq_true rfl) rfl ?_
    refine xj_goto (tgt := 182) dX2_holds_65 rfl ?_
    refine xj_sub (lv2 := [(1, .int p1), (2, .int x9)]) [2, 0] rfl ?_
    exact tX2_holds_j182 _ _ _
  · refine xj_aloadn 0 dX2_holds_68 rfl rfl ?_
    refine xj_bipush (v := 64) dX2_holds_69 cb_64 ?_
    refine xj_cVi (argv := [.int (64 : Int32)]) (rest := []) dX2_holds_71 (kX2_has (64 : Int32) w) mkX2_has tw1633 rfl rfl rfl rfl rfl rfl (fun x11 w12 => ?_)
    refine xj_istoren (lv2 := [(2, .int x11), (0, .ref 9), (1, .int p1)]) dX2_holds_74 rfl (Nat.le_of_ble_eq_true rfl) rfl ?_
    refine xj_goto (tgt := 182) dX2_holds_75 rfl ?_
    refine xj_sub (lv2 := [(1, .int p1), (2, .int x11)]) [2, 0] rfl ?_
    exact tX2_holds_j182 _ _ _
  · refine xj_aloadn 0 dX2_holds_78 rfl rfl ?_
    refine xj_iconst (v := 1) dX2_holds_79 ci_1 ?_
    refine xj_cVi (argv := [.int (1 : Int32)]) (rest := []) dX2_holds_80 (kX2_has (1 : Int32) w) mkX2_has tw1633 rfl rfl rfl rfl rfl rfl (fun x13 w14 => ?_)
    refine xj_ifne (tgt := 95) dX2_holds_83 rfl ?_ ?_
    · refine xj_aloadn 0 dX2_holds_86 rfl rfl ?_
      refine xj_bipush (v := 64) dX2_holds_87 cb_64 ?_
      refine xj_cVi (argv := [.int (64 : Int32)]) (rest := []) dX2_holds_89 (kX2_has (64 : Int32) w14) mkX2_has tw1633 rfl rfl rfl rfl rfl rfl (fun x15 w16 => ?_)
      refine xj_ifeq (tgt := 99) dX2_holds_92 rfl ?_ ?_
      · refine xj_iconst (v := 0) dX2_holds_99 ci_0 ?_
        refine xj_sub (lv2 := [(1, .int p1)]) [1] rfl ?_
        exact tX2_holds_j100 _ _ _
      · refine xj_sub (lv2 := [(1, .int p1)]) [1] rfl ?_
        exact tX2_holds_j95 _ _
    · refine xj_sub (lv2 := [(1, .int p1)]) [1] rfl ?_
      exact tX2_holds_j95 _ _
  · refine xj_aloadn 0 dX2_holds_104 rfl rfl ?_
    refine xj_sipush (v := 128) dX2_holds_105 cs_128 ?_
    refine xj_cVi (argv := [.int (128 : Int32)]) (rest := []) dX2_holds_108 (kX2_has (128 : Int32) w) mkX2_has tw1633 rfl rfl rfl rfl rfl rfl (fun x17 w18 => ?_)
    refine xj_istoren (lv2 := [(2, .int x17), (0, .ref 9), (1, .int p1)]) dX2_holds_111 rfl (Nat.le_of_ble_eq_true rfl) rfl ?_
    refine xj_goto (tgt := 182) dX2_holds_112 rfl ?_
    refine xj_sub (lv2 := [(1, .int p1), (2, .int x17)]) [2, 0] rfl ?_
    exact tX2_holds_j182 _ _ _
  · refine xj_aloadn 0 dX2_holds_115 rfl rfl ?_
    refine xj_iconst (v := 4) dX2_holds_116 ci_4 ?_
    refine xj_cVi (argv := [.int (4 : Int32)]) (rest := []) dX2_holds_117 (kX2_has (4 : Int32) w) mkX2_has tw1633 rfl rfl rfl rfl rfl rfl (fun x19 w20 => ?_)
    refine xj_istoren (lv2 := [(2, .int x19), (0, .ref 9), (1, .int p1)]) dX2_holds_120 rfl (Nat.le_of_ble_eq_true rfl) rfl ?_
    refine xj_goto (tgt := 182) dX2_holds_121 rfl ?_
    refine xj_sub (lv2 := [(1, .int p1), (2, .int x19)]) [2, 0] rfl ?_
    exact tX2_holds_j182 _ _ _
  · refine xj_aloadn 0 dX2_holds_124 rfl rfl ?_
    refine xj_sipush (v := 128) dX2_holds_125 cs_128 ?_
    refine xj_cVi (argv := [.int (128 : Int32)]) (rest := []) dX2_holds_128 (kX2_has (128 : Int32) w) mkX2_has tw1633 rfl rfl rfl rfl rfl rfl (fun x21 w22 => ?_)
    refine xj_aloadn 0 dX2_holds_131 rfl rfl ?_
    refine xj_sipush (v := 2048) dX2_holds_132 cs_2048 ?_
    refine xj_cVi (argv := [.int (2048 : Int32)]) (rest := [.int x21]) dX2_holds_135 (kX2_has (2048 : Int32) w22) mkX2_has tw1633 rfl rfl rfl rfl rfl rfl (fun x23 w24 => ?_)
    refine xj_ieq (tgt := 145) dX2_holds_138 rfl ?_ ?_
    · refine xj_iconst (v := 0) dX2_holds_145 ci_0 ?_
      refine xj_sub (lv2 := [(1, .int p1)]) [1] rfl ?_
      exact tX2_holds_j146 _ _ _
    · refine xj_iconst (v := 1) dX2_holds_141 ci_1 ?_
      refine xj_goto (tgt := 146) dX2_holds_142 rfl ?_
      refine xj_sub (lv2 := [(1, .int p1)]) [1] rfl ?_
      exact tX2_holds_j146 _ _ _
theorem kX2_holds (p1 : Int32) (w : xW) : xMet jI mX2_holds lC (0, 0) [.ref 9, .int p1] w (sX2_holds p1 w) := xj_met lC_ok (by decide) (Nat.le_of_ble_eq_true rfl) (Nat.zero_le _) (Nat.zero_le _) (tX2_holds p1 w)
set_option maxRecDepth 20000 in
def sX11_topOf (p0 : Int32) (w : xW) : Option (Int32 × xW) :=
  (if p0 = (1 : Int32) then some ((128 : Int32), w) else (if p0 = (2 : Int32) then some ((32768 : Int32), w) else some ((-2147483648 : Int32), w)))
set_option maxRecDepth 20000 in
theorem tX11_topOf (p0 : Int32) (w : xW) : xJ ιI mX11_topOf lC (0, 0) 0 [(0, .int p0)] [] w (sX11_topOf p0 w) := by
  unfold sX11_topOf
  refine xj_iloadn 0 dX11_topOf_0 rfl rfl ?_
  refine xj_iconst (v := 1) dX11_topOf_1 ci_1 ?_
  refine xj_ine (tgt := 9) dX11_topOf_2 rfl ?_ ?_
  · refine xj_sipush (v := 128) dX11_topOf_5 cs_128 ?_
    exact xj_ri dX11_topOf_8 rfl
  · refine xj_iloadn 0 dX11_topOf_9 rfl rfl ?_
    refine xj_iconst (v := 2) dX11_topOf_10 ci_2 ?_
    refine xj_ine (tgt := 19) dX11_topOf_11 rfl ?_ ?_
    · refine xj_ldc (v := 32768) tw1658 dX11_topOf_14 ?_
      refine xj_goto (tgt := 21) dX11_topOf_16 rfl ?_
      exact xj_ri dX11_topOf_21 rfl
    · refine xj_ldc (v := -2147483648) tw1659 dX11_topOf_19 ?_
      exact xj_ri dX11_topOf_21 rfl
theorem kX11_topOf (p0 : Int32) (w : xW) : xMet jI mX11_topOf lC (0, 0) [.int p0] w (sX11_topOf p0 w) := xj_met lC_ok (by decide) (Nat.le_of_ble_eq_true rfl) (Nat.zero_le _) (Nat.zero_le _) (tX11_topOf p0 w)
set_option maxRecDepth 20000 in
def sJ6_bitCount_0f7a4 (p0 : Int32) (w : xW) : Option (Int32 × xW) :=
  xlet (p0 - ((xushr p0 (1 : Int32)) &&& (1431655765 : Int32))) (fun x1 => xlet ((x1 &&& (858993459 : Int32)) + ((xushr x1 (2 : Int32)) &&& (858993459 : Int32))) (fun x2 => xlet ((x2 + (xushr x2 (4 : Int32))) &&& (252645135 : Int32)) (fun x3 => xlet ((x3 + (xushr x3 (8 : Int32))) + (xushr (x3 + (xushr x3 (8 : Int32))) (16 : Int32))) (fun x4 => some ((x4 &&& (63 : Int32)), w)))))
set_option maxRecDepth 20000 in
theorem tJ6_bitCount_0f7a4 (p0 : Int32) (w : xW) : xJ ιI mJ6_bitCount_0f7a4 lC (0, 0) 0 [(0, .int p0)] [] w (sJ6_bitCount_0f7a4 p0 w) := by
  unfold sJ6_bitCount_0f7a4
  refine xj_iloadn 0 dJ6_bitCount_0f7a4_0 rfl rfl ?_
  refine xj_iloadn 0 dJ6_bitCount_0f7a4_1 rfl rfl ?_
  refine xj_iconst (v := 1) dJ6_bitCount_0f7a4_2 ci_1 ?_
  refine xj_iushr dJ6_bitCount_0f7a4_3 ?_
  refine xj_ldcw (v := 1431655765) tw1663 dJ6_bitCount_0f7a4_4 ?_
  refine xj_iand dJ6_bitCount_0f7a4_7 ?_
  refine xj_isub dJ6_bitCount_0f7a4_8 ?_
  refine xj_leti (fun x1 => ?_)
  refine xj_istoren (lv2 := [(0, .int x1)]) dJ6_bitCount_0f7a4_9 rfl (Nat.le_of_ble_eq_true rfl) rfl ?_
  refine xj_iloadn 0 dJ6_bitCount_0f7a4_10 rfl rfl ?_
  refine xj_ldcw (v := 858993459) tw1664 dJ6_bitCount_0f7a4_11 ?_
  refine xj_iand dJ6_bitCount_0f7a4_14 ?_
  refine xj_iloadn 0 dJ6_bitCount_0f7a4_15 rfl rfl ?_
  refine xj_iconst (v := 2) dJ6_bitCount_0f7a4_16 ci_2 ?_
  refine xj_iushr dJ6_bitCount_0f7a4_17 ?_
  refine xj_ldcw (v := 858993459) tw1664 dJ6_bitCount_0f7a4_18 ?_
  refine xj_iand dJ6_bitCount_0f7a4_21 ?_
  refine xj_iadd dJ6_bitCount_0f7a4_22 ?_
  refine xj_leti (fun x2 => ?_)
  refine xj_istoren (lv2 := [(0, .int x2)]) dJ6_bitCount_0f7a4_23 rfl (Nat.le_of_ble_eq_true rfl) rfl ?_
  refine xj_iloadn 0 dJ6_bitCount_0f7a4_24 rfl rfl ?_
  refine xj_iloadn 0 dJ6_bitCount_0f7a4_25 rfl rfl ?_
  refine xj_iconst (v := 4) dJ6_bitCount_0f7a4_26 ci_4 ?_
  refine xj_iushr dJ6_bitCount_0f7a4_27 ?_
  refine xj_iadd dJ6_bitCount_0f7a4_28 ?_
  refine xj_ldcw (v := 252645135) tw1665 dJ6_bitCount_0f7a4_29 ?_
  refine xj_iand dJ6_bitCount_0f7a4_32 ?_
  refine xj_leti (fun x3 => ?_)
  refine xj_istoren (lv2 := [(0, .int x3)]) dJ6_bitCount_0f7a4_33 rfl (Nat.le_of_ble_eq_true rfl) rfl ?_
  refine xj_iloadn 0 dJ6_bitCount_0f7a4_34 rfl rfl ?_
  refine xj_iloadn 0 dJ6_bitCount_0f7a4_35 rfl rfl ?_
  refine xj_bipush (v := 8) dJ6_bitCount_0f7a4_36 cb_8 ?_
  refine xj_iushr dJ6_bitCount_0f7a4_38 ?_
  refine xj_iadd dJ6_bitCount_0f7a4_39 ?_
  refine xj_istoren (lv2 := [(0, .int (x3 + (xushr x3 (8 : Int32))))]) dJ6_bitCount_0f7a4_40 rfl (Nat.le_of_ble_eq_true rfl) rfl ?_
  refine xj_iloadn 0 dJ6_bitCount_0f7a4_41 rfl rfl ?_
  refine xj_iloadn 0 dJ6_bitCount_0f7a4_42 rfl rfl ?_
  refine xj_bipush (v := 16) dJ6_bitCount_0f7a4_43 cb_16 ?_
  refine xj_iushr dJ6_bitCount_0f7a4_45 ?_
  refine xj_iadd dJ6_bitCount_0f7a4_46 ?_
  refine xj_leti (fun x4 => ?_)
  refine xj_istoren (lv2 := [(0, .int x4)]) dJ6_bitCount_0f7a4_47 rfl (Nat.le_of_ble_eq_true rfl) rfl ?_
  refine xj_iloadn 0 dJ6_bitCount_0f7a4_48 rfl rfl ?_
  refine xj_bipush (v := 63) dJ6_bitCount_0f7a4_49 cb_63 ?_
  refine xj_iand dJ6_bitCount_0f7a4_51 ?_
  exact xj_ri dJ6_bitCount_0f7a4_52 rfl
theorem kJ6_bitCount_0f7a4 (p0 : Int32) (w : xW) : xMet jI mJ6_bitCount_0f7a4 lC (0, 0) [.int p0] w (sJ6_bitCount_0f7a4 p0 w) := xj_met lC_ok (by decide) (Nat.le_of_ble_eq_true rfl) (Nat.zero_le _) (Nat.zero_le _) (tJ6_bitCount_0f7a4 p0 w)
set_option maxRecDepth 20000 in
def sX2_tellResult_j49 (b0 : Int32) (b1 : Int32) (w : xW) : Option (Unit × xW) :=
  some ((), (xwi w 9 0 (((w.1 9 0) &&& (-197 : Int32)) ||| (b1 ||| b0))))
set_option maxRecDepth 20000 in
theorem tX2_tellResult_j49 (b0 : Int32) (b1 : Int32) (w : xW) : xJ ιV mX2_tellResult lC (0, 0) 49 [(0, .ref 9)] [.int b0, .int b1] w (sX2_tellResult_j49 b0 b1 w) := by
  unfold sX2_tellResult_j49
  refine xj_ior dX2_tellResult_49 ?_
  refine xj_istoren (lv2 := [(3, .int (b1 ||| b0)), (0, .ref 9)]) dX2_tellResult_50 rfl (Nat.le_of_ble_eq_true rfl) rfl ?_
  refine xj_aloadn 1 dX2_tellResult_51 rfl rfl ?_
  refine xj_aloadn 1 dX2_tellResult_52 rfl rfl ?_
  refine gfX2_7 (v := (w.1 9 0)) dX2_tellResult_53 rfl rfl ?_
  refine xj_sipush (v := -197) dX2_tellResult_56 cs_m197 ?_
  refine xj_iand dX2_tellResult_59 ?_
  refine xj_iloadn 0 dX2_tellResult_60 rfl rfl ?_
  refine xj_ior dX2_tellResult_61 ?_
  refine pfX2_7 dX2_tellResult_62 rfl ?_
  exact xj_rv dX2_tellResult_65 rfl
set_option maxRecDepth 20000 in
def sX2_tellResult_j28 (a1 : Int32) (b0 : Int32) (b1 : Int32) (w : xW) : Option (Unit × xW) :=
  xbd (sJ6_bitCount_0f7a4 (a1 &&& (255 : Int32)) w) (fun x1 w2 => (if (x1 &&& (1 : Int32)) = 0 then sX2_tellResult_j49 (4 : Int32) (b1 ||| b0) w2 else sX2_tellResult_j49 (0 : Int32) (b1 ||| b0) w2))
set_option maxRecDepth 20000 in
theorem tX2_tellResult_j28 (a1 : Int32) (b0 : Int32) (b1 : Int32) (w : xW) : xJ ιV mX2_tellResult lC (0, 0) 28 [(0, .ref 9), (1, .int a1)] [.int b0, .int b1] w (sX2_tellResult_j28 a1 b0 b1 w) := by
  unfold sX2_tellResult_j28
  refine xj_ior dX2_tellResult_28 ?_
  refine xj_istoren (lv2 := [(3, .int (b1 ||| b0)), (0, .ref 9), (1, .int a1)]) dX2_tellResult_29 rfl (Nat.le_of_ble_eq_true rfl) rfl ?_
  refine xj_iloadn 0 dX2_tellResult_30 rfl rfl ?_
  refine xj_iloadn 2 dX2_tellResult_31 rfl rfl ?_
  refine xj_sipush (v := 255) dX2_tellResult_32 cs_255 ?_
  refine xj_iand dX2_tellResult_35 ?_
  refine xj_cSi (argv := [.int (a1 &&& (255 : Int32))]) (rest := [.int (b1 ||| b0)]) dX2_tellResult_36 (kJ6_bitCount_0f7a4 (a1 &&& (255 : Int32)) w) mkJ6_bitCount_0f7a4 tw1660 rfl rfl rfl rfl (fun x1 w2 => ?_)
  refine xj_iconst (v := 1) dX2_tellResult_39 ci_1 ?_
  refine xj_iand dX2_tellResult_40 ?_
  refine xj_ifne (tgt := 48) dX2_tellResult_41 rfl ?_ ?_
  · refine xj_iconst (v := 4) dX2_tellResult_44 ci_4 ?_
    refine xj_goto (tgt := 49) dX2_tellResult_45 rfl ?_
    refine xj_sub (lv2 := [(0, .ref 9)]) [1] rfl ?_
    exact tX2_tellResult_j49 _ _ _
  · refine xj_iconst (v := 0) dX2_tellResult_48 ci_0 ?_
    refine xj_sub (lv2 := [(0, .ref 9)]) [1] rfl ?_
    exact tX2_tellResult_j49 _ _ _
set_option maxRecDepth 20000 in
def sX2_tellResult_j10 (a1 : Int32) (a2 : Int32) (b0 : Int32) (w : xW) : Option (Unit × xW) :=
  xbd (sX11_topOf a2 w) (fun x1 w2 => (if (a1 &&& x1) = 0 then sX2_tellResult_j28 a1 (0 : Int32) b0 w2 else sX2_tellResult_j28 a1 (128 : Int32) b0 w2))
set_option maxRecDepth 20000 in
theorem tX2_tellResult_j10 (a1 : Int32) (a2 : Int32) (b0 : Int32) (w : xW) : xJ ιV mX2_tellResult lC (0, 0) 10 [(0, .ref 9), (1, .int a1), (2, .int a2)] [.int b0] w (sX2_tellResult_j10 a1 a2 b0 w) := by
  unfold sX2_tellResult_j10
  refine xj_istoren (lv2 := [(3, .int b0), (0, .ref 9), (1, .int a1), (2, .int a2)]) dX2_tellResult_10 rfl (Nat.le_of_ble_eq_true rfl) rfl ?_
  refine xj_iloadn 0 dX2_tellResult_11 rfl rfl ?_
  refine xj_iloadn 2 dX2_tellResult_12 rfl rfl ?_
  refine xj_iloadn 3 dX2_tellResult_13 rfl rfl ?_
  refine xj_cSNi (argv := [.int a2]) (rest := [.int a1, .int b0]) dX2_tellResult_14 (kX11_topOf a2 w) mkX11_topOf tw1655 rfl rfl rfl rfl (fun x1 w2 => ?_)
  refine xj_iand dX2_tellResult_17 ?_
  refine xj_ifeq (tgt := 27) dX2_tellResult_18 rfl ?_ ?_
  · refine xj_iconst (v := 0) dX2_tellResult_27 ci_0 ?_
    refine xj_sub (lv2 := [(0, .ref 9), (1, .int a1)]) [1, 2] rfl ?_
    exact tX2_tellResult_j28 _ _ _ _
  · refine xj_sipush (v := 128) dX2_tellResult_21 cs_128 ?_
    refine xj_goto (tgt := 28) dX2_tellResult_24 rfl ?_
    refine xj_sub (lv2 := [(0, .ref 9), (1, .int a1)]) [1, 2] rfl ?_
    exact tX2_tellResult_j28 _ _ _ _
set_option maxRecDepth 20000 in
def sX2_tellResult (p1 : Int32) (p2 : Int32) (w : xW) : Option (Unit × xW) :=
  (if p1 = 0 then sX2_tellResult_j10 p1 p2 (64 : Int32) w else sX2_tellResult_j10 p1 p2 (0 : Int32) w)
set_option maxRecDepth 20000 in
theorem tX2_tellResult (p1 : Int32) (p2 : Int32) (w : xW) : xJ ιV mX2_tellResult lC (0, 0) 0 [(0, .ref 9), (1, .int p1), (2, .int p2)] [] w (sX2_tellResult p1 p2 w) := by
  unfold sX2_tellResult
  refine xj_iloadn 1 dX2_tellResult_0 rfl rfl ?_
  refine xj_ifne (tgt := 9) dX2_tellResult_1 rfl ?_ ?_
  · refine xj_bipush (v := 64) dX2_tellResult_4 cb_64 ?_
    refine xj_goto (tgt := 10) dX2_tellResult_6 rfl ?_
    exact tX2_tellResult_j10 _ _ _ _
  · refine xj_iconst (v := 0) dX2_tellResult_9 ci_0 ?_
    exact tX2_tellResult_j10 _ _ _ _
theorem kX2_tellResult (p1 : Int32) (p2 : Int32) (w : xW) : xMet jV mX2_tellResult lC (0, 0) [.ref 9, .int p1, .int p2] w (sX2_tellResult p1 p2 w) := xj_met lC_ok (by decide) (Nat.le_of_ble_eq_true rfl) (Nat.zero_le _) (Nat.zero_le _) (tX2_tellResult p1 p2 w)
set_option maxRecDepth 20000 in
def sX2_tellCarry_j18 (a2 : Int32) (b0 : Int32) (b1 : Int32) (w : xW) : Option (Unit × xW) :=
  (if a2 = 0 then some ((), (xwi w 9 0 ((b1 ||| b0) ||| (0 : Int32)))) else some ((), (xwi w 9 0 ((b1 ||| b0) ||| (2048 : Int32)))))
set_option maxRecDepth 20000 in
theorem tX2_tellCarry_j18 (a2 : Int32) (b0 : Int32) (b1 : Int32) (w : xW) : xJ ιV mX2_tellCarry lC (0, 0) 18 [(2, .int a2)] [.int b0, .int b1, .ref 9] w (sX2_tellCarry_j18 a2 b0 b1 w) := by
  unfold sX2_tellCarry_j18
  refine xj_ior dX2_tellCarry_18 ?_
  refine xj_iloadn 0 dX2_tellCarry_19 rfl rfl ?_
  refine xj_ifeq (tgt := 29) dX2_tellCarry_20 rfl ?_ ?_
  · refine xj_iconst (v := 0) dX2_tellCarry_29 ci_0 ?_
    refine xj_ior dX2_tellCarry_30 ?_
    refine pfX2_7 dX2_tellCarry_31 rfl ?_
    exact xj_rv dX2_tellCarry_34 rfl
  · refine xj_sipush (v := 2048) dX2_tellCarry_23 cs_2048 ?_
    refine xj_goto (tgt := 30) dX2_tellCarry_26 rfl ?_
    refine xj_ior dX2_tellCarry_30 ?_
    refine pfX2_7 dX2_tellCarry_31 rfl ?_
    exact xj_rv dX2_tellCarry_34 rfl
set_option maxRecDepth 20000 in
def sX2_tellCarry (p1 : Int32) (p2 : Int32) (w : xW) : Option (Unit × xW) :=
  (if p1 = 0 then sX2_tellCarry_j18 p2 (0 : Int32) ((w.1 9 0) &&& (-2050 : Int32)) w else sX2_tellCarry_j18 p2 (1 : Int32) ((w.1 9 0) &&& (-2050 : Int32)) w)
set_option maxRecDepth 20000 in
theorem tX2_tellCarry (p1 : Int32) (p2 : Int32) (w : xW) : xJ ιV mX2_tellCarry lC (0, 0) 0 [(0, .ref 9), (1, .int p1), (2, .int p2)] [] w (sX2_tellCarry p1 p2 w) := by
  unfold sX2_tellCarry
  refine xj_aloadn 0 dX2_tellCarry_0 rfl rfl ?_
  refine xj_aloadn 0 dX2_tellCarry_1 rfl rfl ?_
  refine gfX2_7 (v := (w.1 9 0)) dX2_tellCarry_2 rfl rfl ?_
  refine xj_sipush (v := -2050) dX2_tellCarry_5 cs_m2050 ?_
  refine xj_iand dX2_tellCarry_8 ?_
  refine xj_iloadn 1 dX2_tellCarry_9 rfl rfl ?_
  refine xj_ifeq (tgt := 17) dX2_tellCarry_10 rfl ?_ ?_
  · refine xj_iconst (v := 0) dX2_tellCarry_17 ci_0 ?_
    refine xj_sub (lv2 := [(2, .int p2)]) [2] rfl ?_
    exact tX2_tellCarry_j18 _ _ _ _
  · refine xj_iconst (v := 1) dX2_tellCarry_13 ci_1 ?_
    refine xj_goto (tgt := 18) dX2_tellCarry_14 rfl ?_
    refine xj_sub (lv2 := [(2, .int p2)]) [2] rfl ?_
    exact tX2_tellCarry_j18 _ _ _ _
theorem kX2_tellCarry (p1 : Int32) (p2 : Int32) (w : xW) : xMet jV mX2_tellCarry lC (0, 0) [.ref 9, .int p1, .int p2] w (sX2_tellCarry p1 p2 w) := xj_met lC_ok (by decide) (Nat.le_of_ble_eq_true rfl) (Nat.zero_le _) (Nat.zero_le _) (tX2_tellCarry p1 p2 w)
set_option maxRecDepth 20000 in
def sX11_maskOf (p0 : Int32) (w : xW) : Option (Int32 × xW) :=
  (if p0 = (1 : Int32) then some ((255 : Int32), w) else (if p0 = (2 : Int32) then some ((65535 : Int32), w) else some ((-1 : Int32), w)))
set_option maxRecDepth 20000 in
theorem tX11_maskOf (p0 : Int32) (w : xW) : xJ ιI mX11_maskOf lC (0, 0) 0 [(0, .int p0)] [] w (sX11_maskOf p0 w) := by
  unfold sX11_maskOf
  refine xj_iloadn 0 dX11_maskOf_0 rfl rfl ?_
  refine xj_iconst (v := 1) dX11_maskOf_1 ci_1 ?_
  refine xj_ine (tgt := 9) dX11_maskOf_2 rfl ?_ ?_
  · refine xj_sipush (v := 255) dX11_maskOf_5 cs_255 ?_
    exact xj_ri dX11_maskOf_8 rfl
  · refine xj_iloadn 0 dX11_maskOf_9 rfl rfl ?_
    refine xj_iconst (v := 2) dX11_maskOf_10 ci_2 ?_
    refine xj_ine (tgt := 19) dX11_maskOf_11 rfl ?_ ?_
    · refine xj_ldc (v := 65535) tw1628 dX11_maskOf_14 ?_
      refine xj_goto (tgt := 20) dX11_maskOf_16 rfl ?_
      exact xj_ri dX11_maskOf_20 rfl
    · refine xj_iconst (v := -1) dX11_maskOf_19 ci_m1 ?_
      exact xj_ri dX11_maskOf_20 rfl
theorem kX11_maskOf (p0 : Int32) (w : xW) : xMet jI mX11_maskOf lC (0, 0) [.int p0] w (sX11_maskOf p0 w) := xj_met lC_ok (by decide) (Nat.le_of_ble_eq_true rfl) (Nat.zero_le _) (Nat.zero_le _) (tX11_maskOf p0 w)
set_option maxRecDepth 20000 in
def sX11_unsigned (p0 : Int32) (w : xW) : Option (Int64 × xW) :=
  some ((p0.toInt64 &&& (4294967295 : Int64)), w)
set_option maxRecDepth 20000 in
theorem tX11_unsigned (p0 : Int32) (w : xW) : xJ ιL mX11_unsigned lC (0, 0) 0 [(0, .int p0)] [] w (sX11_unsigned p0 w) := by
  unfold sX11_unsigned
  refine xj_iloadn 0 dX11_unsigned_0 rfl rfl ?_
  refine xj_i2l dX11_unsigned_1 ?_
  refine xj_ldc2 (v := 4294967295) tw1408 dX11_unsigned_2 ?_
  refine xj_land dX11_unsigned_5 ?_
  exact xj_rl dX11_unsigned_6 rfl
theorem kX11_unsigned (p0 : Int32) (w : xW) : xMet jL mX11_unsigned lC (0, 0) [.int p0] w (sX11_unsigned p0 w) := xj_met lC_ok (by decide) (Nat.le_of_ble_eq_true rfl) (Nat.zero_le _) (Nat.zero_le _) (tX11_unsigned p0 w)
set_option maxRecDepth 20000 in
def sX2_add_j60 (a1 : Int32) (a2 : Int32) (a4 : Int32) (a8 : Int32) (b0 : Int32) (w : xW) : Option (Int32 × xW) :=
  xbd (sX11_topOf a4 w) (fun x1 w2 => (if (((a1 ^^^ a8) &&& (a2 ^^^ a8)) &&& x1) = 0 then xbd (sX2_tellCarry b0 (0 : Int32) w2) (fun _ w3 => some (a8, w3)) else xbd (sX2_tellCarry b0 (1 : Int32) w2) (fun _ w4 => some (a8, w4))))
set_option maxRecDepth 20000 in
theorem tX2_add_j60 (a1 : Int32) (a2 : Int32) (a4 : Int32) (a8 : Int32) (b0 : Int32) (w : xW) : xJ ιI mX2_add lC (0, 0) 60 [(1, .int a1), (2, .int a2), (4, .int a4), (8, .int a8)] [.int b0, .ref 9] w (sX2_add_j60 a1 a2 a4 a8 b0 w) := by
  unfold sX2_add_j60
  refine xj_iloadn 0 dX2_add_60 rfl rfl ?_
  refine xj_iload 3 dX2_add_61 rfl ?_
  refine xj_ixor dX2_add_63 ?_
  refine xj_iloadn 1 dX2_add_64 rfl rfl ?_
  refine xj_iload 3 dX2_add_65 rfl ?_
  refine xj_ixor dX2_add_67 ?_
  refine xj_iand dX2_add_68 ?_
  refine xj_iload 2 dX2_add_69 rfl ?_
  refine xj_cSNi (argv := [.int a4]) (rest := [.int ((a1 ^^^ a8) &&& (a2 ^^^ a8)), .int b0, .ref 9]) dX2_add_71 (kX11_topOf a4 w) mkX11_topOf tw1655 rfl rfl rfl rfl (fun x1 w2 => ?_)
  refine xj_iand dX2_add_74 ?_
  refine xj_ifeq (tgt := 82) dX2_add_75 rfl ?_ ?_
  · refine xj_iconst (v := 0) dX2_add_82 ci_0 ?_
    refine xj_cVv (argv := [.int b0, .int (0 : Int32)]) (rest := []) dX2_add_83 (kX2_tellCarry b0 (0 : Int32) w2) mkX2_tellCarry tw1666 rfl rfl rfl rfl rfl rfl (fun _ w3 => ?_)
    refine xj_iload 3 dX2_add_86 rfl ?_
    exact xj_ri dX2_add_88 rfl
  · refine xj_iconst (v := 1) dX2_add_78 ci_1 ?_
    refine xj_goto (tgt := 83) dX2_add_79 rfl ?_
    refine xj_cVv (argv := [.int b0, .int (1 : Int32)]) (rest := []) dX2_add_83 (kX2_tellCarry b0 (1 : Int32) w2) mkX2_tellCarry tw1666 rfl rfl rfl rfl rfl rfl (fun _ w4 => ?_)
    refine xj_iload 3 dX2_add_86 rfl ?_
    exact xj_ri dX2_add_88 rfl
set_option maxRecDepth 20000 in
def sX2_add (p1 : Int32) (p2 : Int32) (p3 : Int32) (p4 : Int32) (w : xW) : Option (Int32 × xW) :=
  xbd (sX11_maskOf p4 w) (fun x1 w2 => xbd (sX11_unsigned (p1 &&& x1) w2) (fun x3 w4 => xbd (sX11_unsigned (p2 &&& x1) w4) (fun x5 w6 => xlet (((x3 + x5) + p3.toInt64).toInt32 &&& x1) (fun x7 => xbd (sX2_tellResult x7 p4 w6) (fun _ w8 => xbd (sX11_unsigned x1 w8) (fun x9 w10 => (if x9 < ((x3 + x5) + p3.toInt64) then sX2_add_j60 p1 p2 p4 x7 (1 : Int32) w10 else sX2_add_j60 p1 p2 p4 x7 (0 : Int32) w10)))))))
set_option maxRecDepth 20000 in
theorem tX2_add (p1 : Int32) (p2 : Int32) (p3 : Int32) (p4 : Int32) (w : xW) : xJ ιI mX2_add lC (0, 0) 0 [(0, .ref 9), (1, .int p1), (2, .int p2), (3, .int p3), (4, .int p4)] [] w (sX2_add p1 p2 p3 p4 w) := by
  unfold sX2_add
  refine xj_iload 4 dX2_add_0 rfl ?_
  refine xj_cSNi (argv := [.int p4]) (rest := []) dX2_add_2 (kX11_maskOf p4 w) mkX11_maskOf tw1649 rfl rfl rfl rfl (fun x1 w2 => ?_)
  refine xj_istore (lv2 := [(5, .int x1), (0, .ref 9), (1, .int p1), (2, .int p2), (3, .int p3), (4, .int p4)]) dX2_add_5 (Nat.le_of_ble_eq_true rfl) rfl ?_
  refine xj_iloadn 2 dX2_add_7 rfl rfl ?_
  refine xj_iload 0 dX2_add_8 rfl ?_
  refine xj_iand dX2_add_10 ?_
  refine xj_cSNl (argv := [.int (p1 &&& x1)]) (rest := []) dX2_add_11 (kX11_unsigned (p1 &&& x1) w2) mkX11_unsigned tw1650 rfl rfl rfl rfl (fun x3 w4 => ?_)
  refine xj_iloadn 3 dX2_add_14 rfl rfl ?_
  refine xj_iload 0 dX2_add_15 rfl ?_
  refine xj_iand dX2_add_17 ?_
  refine xj_cSNl (argv := [.int (p2 &&& x1)]) (rest := [.long x3]) dX2_add_18 (kX11_unsigned (p2 &&& x1) w4) mkX11_unsigned tw1650 rfl rfl rfl rfl (fun x5 w6 => ?_)
  refine xj_ladd dX2_add_21 ?_
  refine xj_iloadn 4 dX2_add_22 rfl rfl ?_
  refine xj_i2l dX2_add_23 ?_
  refine xj_ladd dX2_add_24 ?_
  refine xj_lstore (lv2 := [(6, .long ((x3 + x5) + p3.toInt64)), (5, .int x1), (0, .ref 9), (1, .int p1), (2, .int p2), (3, .int p3), (4, .int p4)]) dX2_add_25 (Nat.le_of_ble_eq_true rfl) rfl ?_
  refine xj_lload 0 dX2_add_27 rfl ?_
  refine xj_l2i dX2_add_29 ?_
  refine xj_iload 1 dX2_add_30 rfl ?_
  refine xj_iand dX2_add_32 ?_
  refine xj_leti (fun x7 => ?_)
  refine xj_istore (lv2 := [(8, .int x7), (6, .long ((x3 + x5) + p3.toInt64)), (5, .int x1), (0, .ref 9), (1, .int p1), (2, .int p2), (3, .int p3), (4, .int p4)]) dX2_add_33 (Nat.le_of_ble_eq_true rfl) rfl ?_
  refine xj_aloadn 3 dX2_add_35 rfl rfl ?_
  refine xj_iload 0 dX2_add_36 rfl ?_
  refine xj_iload 7 dX2_add_38 rfl ?_
  refine xj_cVv (argv := [.int x7, .int p4]) (rest := []) dX2_add_40 (kX2_tellResult x7 p4 w6) mkX2_tellResult tw1651 rfl rfl rfl rfl rfl rfl (fun _ w8 => ?_)
  refine xj_aloadn 3 dX2_add_43 rfl rfl ?_
  refine xj_lload 1 dX2_add_44 rfl ?_
  refine xj_iload 2 dX2_add_46 rfl ?_
  refine xj_cSNl (argv := [.int x1]) (rest := [.long ((x3 + x5) + p3.toInt64), .ref 9]) dX2_add_48 (kX11_unsigned x1 w8) mkX11_unsigned tw1650 rfl rfl rfl rfl (fun x9 w10 => ?_)
  refine xj_lle (tgt := 59) dX2_add_51 dX2_add_52 rfl ?_ ?_
  · refine xj_iconst (v := 1) dX2_add_55 ci_1 ?_
    refine xj_goto (tgt := 60) dX2_add_56 rfl ?_
    refine xj_sub (lv2 := [(1, .int p1), (2, .int p2), (4, .int p4), (8, .int x7)]) [4, 5, 7, 0] rfl ?_
    exact tX2_add_j60 _ _ _ _ _ _
  · refine xj_iconst (v := 0) dX2_add_59 ci_0 ?_
    refine xj_sub (lv2 := [(1, .int p1), (2, .int p2), (4, .int p4), (8, .int x7)]) [4, 5, 7, 0] rfl ?_
    exact tX2_add_j60 _ _ _ _ _ _
theorem kX2_add (p1 : Int32) (p2 : Int32) (p3 : Int32) (p4 : Int32) (w : xW) : xMet jI mX2_add lC (0, 0) [.ref 9, .int p1, .int p2, .int p3, .int p4] w (sX2_add p1 p2 p3 p4 w) := xj_met lC_ok (by decide) (Nat.le_of_ble_eq_true rfl) (Nat.zero_le _) (Nat.zero_le _) (tX2_add p1 p2 p3 p4 w)
set_option maxRecDepth 20000 in
def sX2_subtract_j56 (a1 : Int32) (a2 : Int32) (a4 : Int32) (a8 : Int32) (b0 : Int32) (w : xW) : Option (Int32 × xW) :=
  xbd (sX11_topOf a4 w) (fun x1 w2 => (if (((a1 ^^^ a2) &&& (a1 ^^^ a8)) &&& x1) = 0 then xbd (sX2_tellCarry b0 (0 : Int32) w2) (fun _ w3 => some (a8, w3)) else xbd (sX2_tellCarry b0 (1 : Int32) w2) (fun _ w4 => some (a8, w4))))
set_option maxRecDepth 20000 in
theorem tX2_subtract_j56 (a1 : Int32) (a2 : Int32) (a4 : Int32) (a8 : Int32) (b0 : Int32) (w : xW) : xJ ιI mX2_subtract lC (0, 0) 56 [(1, .int a1), (2, .int a2), (4, .int a4), (8, .int a8)] [.int b0, .ref 9] w (sX2_subtract_j56 a1 a2 a4 a8 b0 w) := by
  unfold sX2_subtract_j56
  refine xj_iloadn 0 dX2_subtract_56 rfl rfl ?_
  refine xj_iloadn 1 dX2_subtract_57 rfl rfl ?_
  refine xj_ixor dX2_subtract_58 ?_
  refine xj_iloadn 0 dX2_subtract_59 rfl rfl ?_
  refine xj_iload 3 dX2_subtract_60 rfl ?_
  refine xj_ixor dX2_subtract_62 ?_
  refine xj_iand dX2_subtract_63 ?_
  refine xj_iload 2 dX2_subtract_64 rfl ?_
  refine xj_cSNi (argv := [.int a4]) (rest := [.int ((a1 ^^^ a2) &&& (a1 ^^^ a8)), .int b0, .ref 9]) dX2_subtract_66 (kX11_topOf a4 w) mkX11_topOf tw1655 rfl rfl rfl rfl (fun x1 w2 => ?_)
  refine xj_iand dX2_subtract_69 ?_
  refine xj_ifeq (tgt := 77) dX2_subtract_70 rfl ?_ ?_
  · refine xj_iconst (v := 0) dX2_subtract_77 ci_0 ?_
    refine xj_cVv (argv := [.int b0, .int (0 : Int32)]) (rest := []) dX2_subtract_78 (kX2_tellCarry b0 (0 : Int32) w2) mkX2_tellCarry tw1666 rfl rfl rfl rfl rfl rfl (fun _ w3 => ?_)
    refine xj_iload 3 dX2_subtract_81 rfl ?_
    exact xj_ri dX2_subtract_83 rfl
  · refine xj_iconst (v := 1) dX2_subtract_73 ci_1 ?_
    refine xj_goto (tgt := 78) dX2_subtract_74 rfl ?_
    refine xj_cVv (argv := [.int b0, .int (1 : Int32)]) (rest := []) dX2_subtract_78 (kX2_tellCarry b0 (1 : Int32) w2) mkX2_tellCarry tw1666 rfl rfl rfl rfl rfl rfl (fun _ w4 => ?_)
    refine xj_iload 3 dX2_subtract_81 rfl ?_
    exact xj_ri dX2_subtract_83 rfl
set_option maxRecDepth 20000 in
def sX2_subtract (p1 : Int32) (p2 : Int32) (p3 : Int32) (p4 : Int32) (w : xW) : Option (Int32 × xW) :=
  xbd (sX11_maskOf p4 w) (fun x1 w2 => xbd (sX11_unsigned (p1 &&& x1) w2) (fun x3 w4 => xbd (sX11_unsigned (p2 &&& x1) w4) (fun x5 w6 => xlet (((x3 - x5) - p3.toInt64).toInt32 &&& x1) (fun x7 => xbd (sX2_tellResult x7 p4 w6) (fun _ w8 => (if ((x3 - x5) - p3.toInt64) < (0 : Int64) then sX2_subtract_j56 p1 p2 p4 x7 (1 : Int32) w8 else sX2_subtract_j56 p1 p2 p4 x7 (0 : Int32) w8))))))
set_option maxRecDepth 20000 in
theorem tX2_subtract (p1 : Int32) (p2 : Int32) (p3 : Int32) (p4 : Int32) (w : xW) : xJ ιI mX2_subtract lC (0, 0) 0 [(0, .ref 9), (1, .int p1), (2, .int p2), (3, .int p3), (4, .int p4)] [] w (sX2_subtract p1 p2 p3 p4 w) := by
  unfold sX2_subtract
  refine xj_iload 4 dX2_subtract_0 rfl ?_
  refine xj_cSNi (argv := [.int p4]) (rest := []) dX2_subtract_2 (kX11_maskOf p4 w) mkX11_maskOf tw1649 rfl rfl rfl rfl (fun x1 w2 => ?_)
  refine xj_istore (lv2 := [(5, .int x1), (0, .ref 9), (1, .int p1), (2, .int p2), (3, .int p3), (4, .int p4)]) dX2_subtract_5 (Nat.le_of_ble_eq_true rfl) rfl ?_
  refine xj_iloadn 2 dX2_subtract_7 rfl rfl ?_
  refine xj_iload 0 dX2_subtract_8 rfl ?_
  refine xj_iand dX2_subtract_10 ?_
  refine xj_cSNl (argv := [.int (p1 &&& x1)]) (rest := []) dX2_subtract_11 (kX11_unsigned (p1 &&& x1) w2) mkX11_unsigned tw1650 rfl rfl rfl rfl (fun x3 w4 => ?_)
  refine xj_iloadn 3 dX2_subtract_14 rfl rfl ?_
  refine xj_iload 0 dX2_subtract_15 rfl ?_
  refine xj_iand dX2_subtract_17 ?_
  refine xj_cSNl (argv := [.int (p2 &&& x1)]) (rest := [.long x3]) dX2_subtract_18 (kX11_unsigned (p2 &&& x1) w4) mkX11_unsigned tw1650 rfl rfl rfl rfl (fun x5 w6 => ?_)
  refine xj_lsub dX2_subtract_21 ?_
  refine xj_iloadn 4 dX2_subtract_22 rfl rfl ?_
  refine xj_i2l dX2_subtract_23 ?_
  refine xj_lsub dX2_subtract_24 ?_
  refine xj_lstore (lv2 := [(6, .long ((x3 - x5) - p3.toInt64)), (5, .int x1), (0, .ref 9), (1, .int p1), (2, .int p2), (3, .int p3), (4, .int p4)]) dX2_subtract_25 (Nat.le_of_ble_eq_true rfl) rfl ?_
  refine xj_lload 0 dX2_subtract_27 rfl ?_
  refine xj_l2i dX2_subtract_29 ?_
  refine xj_iload 1 dX2_subtract_30 rfl ?_
  refine xj_iand dX2_subtract_32 ?_
  refine xj_leti (fun x7 => ?_)
  refine xj_istore (lv2 := [(8, .int x7), (6, .long ((x3 - x5) - p3.toInt64)), (5, .int x1), (0, .ref 9), (1, .int p1), (2, .int p2), (3, .int p3), (4, .int p4)]) dX2_subtract_33 (Nat.le_of_ble_eq_true rfl) rfl ?_
  refine xj_aloadn 3 dX2_subtract_35 rfl rfl ?_
  refine xj_iload 0 dX2_subtract_36 rfl ?_
  refine xj_iload 7 dX2_subtract_38 rfl ?_
  refine xj_cVv (argv := [.int x7, .int p4]) (rest := []) dX2_subtract_40 (kX2_tellResult x7 p4 w6) mkX2_tellResult tw1651 rfl rfl rfl rfl rfl rfl (fun _ w8 => ?_)
  refine xj_aloadn 3 dX2_subtract_43 rfl rfl ?_
  refine xj_lload 1 dX2_subtract_44 rfl ?_
  refine xj_lconst (v := 0) dX2_subtract_46 cl_0 ?_
  refine xj_lge (tgt := 55) dX2_subtract_47 dX2_subtract_48 rfl ?_ ?_
  · refine xj_iconst (v := 1) dX2_subtract_51 ci_1 ?_
    refine xj_goto (tgt := 56) dX2_subtract_52 rfl ?_
    refine xj_sub (lv2 := [(1, .int p1), (2, .int p2), (4, .int p4), (8, .int x7)]) [4, 5, 7, 0] rfl ?_
    exact tX2_subtract_j56 _ _ _ _ _ _
  · refine xj_iconst (v := 0) dX2_subtract_55 ci_0 ?_
    refine xj_sub (lv2 := [(1, .int p1), (2, .int p2), (4, .int p4), (8, .int x7)]) [4, 5, 7, 0] rfl ?_
    exact tX2_subtract_j56 _ _ _ _ _ _
theorem kX2_subtract (p1 : Int32) (p2 : Int32) (p3 : Int32) (p4 : Int32) (w : xW) : xMet jI mX2_subtract lC (0, 0) [.ref 9, .int p1, .int p2, .int p3, .int p4] w (sX2_subtract p1 p2 p3 p4 w) := xj_met lC_ok (by decide) (Nat.le_of_ble_eq_true rfl) (Nat.zero_le _) (Nat.zero_le _) (tX2_subtract p1 p2 p3 p4 w)
set_option maxRecDepth 20000 in
def sX2_bitwise (p1 : Int32) (p2 : Int32) (w : xW) : Option (Int32 × xW) :=
  xbd (sX2_tellResult p1 p2 w) (fun _ w1 => xbd (sX2_tellCarry (0 : Int32) (0 : Int32) w1) (fun _ w2 => some (p1, w2)))
set_option maxRecDepth 20000 in
theorem tX2_bitwise (p1 : Int32) (p2 : Int32) (w : xW) : xJ ιI mX2_bitwise lC (0, 0) 0 [(0, .ref 9), (1, .int p1), (2, .int p2)] [] w (sX2_bitwise p1 p2 w) := by
  unfold sX2_bitwise
  refine xj_aloadn 0 dX2_bitwise_0 rfl rfl ?_
  refine xj_iloadn 1 dX2_bitwise_1 rfl rfl ?_
  refine xj_iloadn 2 dX2_bitwise_2 rfl rfl ?_
  refine xj_cVv (argv := [.int p1, .int p2]) (rest := []) dX2_bitwise_3 (kX2_tellResult p1 p2 w) mkX2_tellResult tw1651 rfl rfl rfl rfl rfl rfl (fun _ w1 => ?_)
  refine xj_aloadn 0 dX2_bitwise_6 rfl rfl ?_
  refine xj_iconst (v := 0) dX2_bitwise_7 ci_0 ?_
  refine xj_iconst (v := 0) dX2_bitwise_8 ci_0 ?_
  refine xj_cVv (argv := [.int (0 : Int32), .int (0 : Int32)]) (rest := []) dX2_bitwise_9 (kX2_tellCarry (0 : Int32) (0 : Int32) w1) mkX2_tellCarry tw1666 rfl rfl rfl rfl rfl rfl (fun _ w2 => ?_)
  refine xj_iloadn 1 dX2_bitwise_12 rfl rfl ?_
  exact xj_ri dX2_bitwise_13 rfl
theorem kX2_bitwise (p1 : Int32) (p2 : Int32) (w : xW) : xMet jI mX2_bitwise lC (0, 0) [.ref 9, .int p1, .int p2] w (sX2_bitwise p1 p2 w) := xj_met lC_ok (by decide) (Nat.le_of_ble_eq_true rfl) (Nat.zero_le _) (Nat.zero_le _) (tX2_bitwise p1 p2 w)
set_option maxRecDepth 20000 in
def sX2_two_j85 (a2 : Int32) (a3 : Int32) (a4 : Int32) (w : xW) : Option (Int32 × xW) :=
  xbd (sX2_subtract a2 a3 (0 : Int32) a4 w) (fun x1 w2 => some (x1, w2))
set_option maxRecDepth 20000 in
theorem tX2_two_j85 (a2 : Int32) (a3 : Int32) (a4 : Int32) (w : xW) : xJ ιI mX2_two lC (0, 0) 85 [(0, .ref 9), (2, .int a2), (3, .int a3), (4, .int a4)] [] w (sX2_two_j85 a2 a3 a4 w) := by
  unfold sX2_two_j85
  refine xj_aloadn 0 dX2_two_85 rfl rfl ?_
  refine xj_iloadn 1 dX2_two_86 rfl rfl ?_
  refine xj_iloadn 2 dX2_two_87 rfl rfl ?_
  refine xj_iconst (v := 0) dX2_two_88 ci_0 ?_
  refine xj_iload 3 dX2_two_89 rfl ?_
  refine xj_cVi (argv := [.int a2, .int a3, .int (0 : Int32), .int a4]) (rest := []) dX2_two_91 (kX2_subtract a2 a3 (0 : Int32) a4 w) mkX2_subtract tw1670 rfl rfl rfl rfl rfl rfl (fun x1 w2 => ?_)
  exact xj_ri dX2_two_94 rfl
set_option maxRecDepth 20000 in
def sX2_two_j13 (a1 : Int32) (a2 : Int32) (a3 : Int32) (a4 : Int32) (b0 : Int32) (w : xW) : Option (Int32 × xW) :=
  (if xin a1 54 then (if xin a1 54 then xsw (opSw a1) (1) [xbd (sX2_add a2 a3 (0 : Int32) a4 w) (fun x3 w4 => some (x3, w4)), xbd (sX2_add a2 a3 b0 a4 w) (fun x5 w6 => some (x5, w6)), sX2_two_j85 a2 a3 a4 w, sX2_two_j85 a2 a3 a4 w, xbd (sX2_subtract a2 a3 b0 a4 w) (fun x7 w8 => some (x7, w8)), xbd (sX2_bitwise (a2 ||| a3) a4 w) (fun x9 w10 => some (x9, w10)), xbd (sX2_bitwise (a2 ^^^ a3) a4 w) (fun x11 w12 => some (x11, w12))] (xbd (sX2_bitwise (a2 &&& a3) a4 w) (fun x1 w2 => some (x1, w2))) else none) else none)
set_option maxRecDepth 20000 in
theorem tX2_two_j13 (a1 : Int32) (a2 : Int32) (a3 : Int32) (a4 : Int32) (b0 : Int32) (w : xW) : xJ ιI mX2_two lC (0, 0) 13 [(0, .ref 9), (1, .ref (2000 + a1.toNatClampNeg)), (2, .int a2), (3, .int a3), (4, .int a4)] [.int b0] w (sX2_two_j13 a1 a2 a3 a4 b0 w) := by
  unfold sX2_two_j13
  refine xj_istore (lv2 := [(5, .int b0), (0, .ref 9), (1, .ref (2000 + a1.toNatClampNeg)), (2, .int a2), (3, .int a3), (4, .int a4)]) dX2_two_13 (Nat.le_of_ble_eq_true rfl) rfl ?_
  refine xj_gsv (v := .ref 3000) dX2_two_15 tw1637 (fun G A U H h => h.2.1.1) ?_
  refine xj_aloadn 2 dX2_two_18 rfl rfl ?_
  refine xj_ord (rest := [.ref 3000]) dX2_two_19 tw1639 rfl rfl ?_
  refine xj_guard (fun hi => ?_)
  refine xj_ialds (f := fun j => opSwL.getD j 0) dX2_two_22 hi (fun G A U H h => h.2.1.2) ?_
  refine xj_tsw (tgtd := 126) [64, 74, 85, 85, 95, 106, 116] dX2_two_23 rfl rfl rfl rfl ?_ ⟨?_, ?_, ?_, ?_, ?_, ?_, ?_, trivial⟩
  · refine xj_aloadn 1 dX2_two_126 rfl rfl ?_
    refine xj_iloadn 3 dX2_two_127 rfl rfl ?_
    refine xj_iloadn 4 dX2_two_128 rfl rfl ?_
    refine xj_iand dX2_two_129 ?_
    refine xj_iload 5 dX2_two_130 rfl ?_
    refine xj_cVi (argv := [.int (a2 &&& a3), .int a4]) (rest := []) dX2_two_132 (kX2_bitwise (a2 &&& a3) a4 w) mkX2_bitwise tw1674 rfl rfl rfl rfl rfl rfl (fun x1 w2 => ?_)
    exact xj_ri dX2_two_135 rfl
  · refine xj_aloadn 1 dX2_two_64 rfl rfl ?_
    refine xj_iloadn 3 dX2_two_65 rfl rfl ?_
    refine xj_iloadn 4 dX2_two_66 rfl rfl ?_
    refine xj_iconst (v := 0) dX2_two_67 ci_0 ?_
    refine xj_iload 5 dX2_two_68 rfl ?_
    refine xj_cVi (argv := [.int a2, .int a3, .int (0 : Int32), .int a4]) (rest := []) dX2_two_70 (kX2_add a2 a3 (0 : Int32) a4 w) mkX2_add tw1645 rfl rfl rfl rfl rfl rfl (fun x3 w4 => ?_)
    exact xj_ri dX2_two_73 rfl
  · refine xj_aloadn 1 dX2_two_74 rfl rfl ?_
    refine xj_iloadn 3 dX2_two_75 rfl rfl ?_
    refine xj_iloadn 4 dX2_two_76 rfl rfl ?_
    refine xj_iload 0 dX2_two_77 rfl ?_
    refine xj_iload 5 dX2_two_79 rfl ?_
    refine xj_cVi (argv := [.int a2, .int a3, .int b0, .int a4]) (rest := []) dX2_two_81 (kX2_add a2 a3 b0 a4 w) mkX2_add tw1645 rfl rfl rfl rfl rfl rfl (fun x5 w6 => ?_)
    exact xj_ri dX2_two_84 rfl
  · refine xj_sub (lv2 := [(0, .ref 9), (2, .int a2), (3, .int a3), (4, .int a4)]) [1, 3, 4, 5] rfl ?_
    exact tX2_two_j85 _ _ _ _
  · refine xj_sub (lv2 := [(0, .ref 9), (2, .int a2), (3, .int a3), (4, .int a4)]) [1, 3, 4, 5] rfl ?_
    exact tX2_two_j85 _ _ _ _
  · refine xj_aloadn 1 dX2_two_95 rfl rfl ?_
    refine xj_iloadn 3 dX2_two_96 rfl rfl ?_
    refine xj_iloadn 4 dX2_two_97 rfl rfl ?_
    refine xj_iload 0 dX2_two_98 rfl ?_
    refine xj_iload 5 dX2_two_100 rfl ?_
    refine xj_cVi (argv := [.int a2, .int a3, .int b0, .int a4]) (rest := []) dX2_two_102 (kX2_subtract a2 a3 b0 a4 w) mkX2_subtract tw1670 rfl rfl rfl rfl rfl rfl (fun x7 w8 => ?_)
    exact xj_ri dX2_two_105 rfl
  · refine xj_aloadn 1 dX2_two_106 rfl rfl ?_
    refine xj_iloadn 3 dX2_two_107 rfl rfl ?_
    refine xj_iloadn 4 dX2_two_108 rfl rfl ?_
    refine xj_ior dX2_two_109 ?_
    refine xj_iload 5 dX2_two_110 rfl ?_
    refine xj_cVi (argv := [.int (a2 ||| a3), .int a4]) (rest := []) dX2_two_112 (kX2_bitwise (a2 ||| a3) a4 w) mkX2_bitwise tw1674 rfl rfl rfl rfl rfl rfl (fun x9 w10 => ?_)
    exact xj_ri dX2_two_115 rfl
  · refine xj_aloadn 1 dX2_two_116 rfl rfl ?_
    refine xj_iloadn 3 dX2_two_117 rfl rfl ?_
    refine xj_iloadn 4 dX2_two_118 rfl rfl ?_
    refine xj_ixor dX2_two_119 ?_
    refine xj_iload 5 dX2_two_120 rfl ?_
    refine xj_cVi (argv := [.int (a2 ^^^ a3), .int a4]) (rest := []) dX2_two_122 (kX2_bitwise (a2 ^^^ a3) a4 w) mkX2_bitwise tw1674 rfl rfl rfl rfl rfl rfl (fun x11 w12 => ?_)
    exact xj_ri dX2_two_125 rfl
set_option maxRecDepth 20000 in
def sX2_two (p1 : Int32) (p2 : Int32) (p3 : Int32) (p4 : Int32) (w : xW) : Option (Int32 × xW) :=
  xbd (sX2_has (1 : Int32) w) (fun x1 w2 => (if x1 = 0 then sX2_two_j13 p1 p2 p3 p4 (0 : Int32) w2 else sX2_two_j13 p1 p2 p3 p4 (1 : Int32) w2))
set_option maxRecDepth 20000 in
theorem tX2_two (p1 : Int32) (p2 : Int32) (p3 : Int32) (p4 : Int32) (w : xW) : xJ ιI mX2_two lC (0, 0) 0 [(0, .ref 9), (1, .ref (2000 + p1.toNatClampNeg)), (2, .int p2), (3, .int p3), (4, .int p4)] [] w (sX2_two p1 p2 p3 p4 w) := by
  unfold sX2_two
  refine xj_aloadn 0 dX2_two_0 rfl rfl ?_
  refine xj_iconst (v := 1) dX2_two_1 ci_1 ?_
  refine xj_cVi (argv := [.int (1 : Int32)]) (rest := []) dX2_two_2 (kX2_has (1 : Int32) w) mkX2_has tw1633 rfl rfl rfl rfl rfl rfl (fun x1 w2 => ?_)
  refine xj_ifeq (tgt := 12) dX2_two_5 rfl ?_ ?_
  · refine xj_iconst (v := 0) dX2_two_12 ci_0 ?_
    exact tX2_two_j13 _ _ _ _ _ _
  · refine xj_iconst (v := 1) dX2_two_8 ci_1 ?_
    refine xj_goto (tgt := 13) dX2_two_9 rfl ?_
    exact tX2_two_j13 _ _ _ _ _ _
theorem kX2_two (p1 : Int32) (p2 : Int32) (p3 : Int32) (p4 : Int32) (w : xW) : xMet jI mX2_two lC (0, 0) [.ref 9, .ref (2000 + p1.toNatClampNeg), .int p2, .int p3, .int p4] w (sX2_two p1 p2 p3 p4 w) := xj_met lC_ok (by decide) (Nat.le_of_ble_eq_true rfl) (Nat.zero_le _) (Nat.zero_le _) (tX2_two p1 p2 p3 p4 w)
set_option maxRecDepth 20000 in
def sX2_single (p1 : Int32) (p2 : Int32) (p3 : Int32) (w : xW) : Option (Int32 × xW) :=
  xbd (sX2_has (1 : Int32) w) (fun x1 w2 => (if xin p1 54 then (if xin p1 54 then xsw (opSw p1) (8) [xbd (sX2_add p2 (1 : Int32) (0 : Int32) p3 w2) (fun x5 w6 => xbd (sX2_set (1 : Int32) x1 w6) (fun _ w7 => some (x5, w7))), xbd (sX2_subtract p2 (1 : Int32) (0 : Int32) p3 w2) (fun x8 w9 => xbd (sX2_set (1 : Int32) x1 w9) (fun _ w10 => some (x8, w10))), xbd (sX2_subtract (0 : Int32) p2 (0 : Int32) p3 w2) (fun x11 w12 => some (x11, w12))] (xbd (sX11_maskOf p3 w2) (fun x3 w4 => some (((p2 ^^^ (-1 : Int32)) &&& x3), w4))) else none) else none))
set_option maxRecDepth 20000 in
theorem tX2_single (p1 : Int32) (p2 : Int32) (p3 : Int32) (w : xW) : xJ ιI mX2_single lC (0, 0) 0 [(0, .ref 9), (1, .ref (2000 + p1.toNatClampNeg)), (2, .int p2), (3, .int p3)] [] w (sX2_single p1 p2 p3 w) := by
  unfold sX2_single
  refine xj_aloadn 0 dX2_single_0 rfl rfl ?_
  refine xj_iconst (v := 1) dX2_single_1 ci_1 ?_
  refine xj_cVi (argv := [.int (1 : Int32)]) (rest := []) dX2_single_2 (kX2_has (1 : Int32) w) mkX2_has tw1633 rfl rfl rfl rfl rfl rfl (fun x1 w2 => ?_)
  refine xj_istore (lv2 := [(4, .int x1), (0, .ref 9), (1, .ref (2000 + p1.toNatClampNeg)), (2, .int p2), (3, .int p3)]) dX2_single_5 (Nat.le_of_ble_eq_true rfl) rfl ?_
  refine xj_gsv (v := .ref 3000) dX2_single_7 tw1637 (fun G A U H h => h.2.1.1) ?_
  refine xj_aloadn 2 dX2_single_10 rfl rfl ?_
  refine xj_ord (rest := [.ref 3000]) dX2_single_11 tw1639 rfl rfl ?_
  refine xj_guard (fun hi => ?_)
  refine xj_ialds (f := fun j => opSwL.getD j 0) dX2_single_14 hi (fun G A U H h => h.2.1.2) ?_
  refine xj_tsw (tgtd := 89) [40, 60, 80] dX2_single_15 rfl rfl rfl rfl ?_ ⟨?_, ?_, ?_, trivial⟩
  · refine xj_iloadn 3 dX2_single_89 rfl rfl ?_
    refine xj_iconst (v := -1) dX2_single_90 ci_m1 ?_
    refine xj_ixor dX2_single_91 ?_
    refine xj_iloadn 4 dX2_single_92 rfl rfl ?_
    refine xj_cSNi (argv := [.int p3]) (rest := [.int (p2 ^^^ (-1 : Int32))]) dX2_single_93 (kX11_maskOf p3 w2) mkX11_maskOf tw1649 rfl rfl rfl rfl (fun x3 w4 => ?_)
    refine xj_iand dX2_single_96 ?_
    exact xj_ri dX2_single_97 rfl
  · refine xj_aloadn 1 dX2_single_40 rfl rfl ?_
    refine xj_iloadn 3 dX2_single_41 rfl rfl ?_
    refine xj_iconst (v := 1) dX2_single_42 ci_1 ?_
    refine xj_iconst (v := 0) dX2_single_43 ci_0 ?_
    refine xj_iloadn 4 dX2_single_44 rfl rfl ?_
    refine xj_cVi (argv := [.int p2, .int (1 : Int32), .int (0 : Int32), .int p3]) (rest := []) dX2_single_45 (kX2_add p2 (1 : Int32) (0 : Int32) p3 w2) mkX2_add tw1645 rfl rfl rfl rfl rfl rfl (fun x5 w6 => ?_)
    refine xj_istore (lv2 := [(5, .int x5), (4, .int x1), (0, .ref 9), (1, .ref (2000 + p1.toNatClampNeg)), (2, .int p2), (3, .int p3)]) dX2_single_48 (Nat.le_of_ble_eq_true rfl) rfl ?_
    refine xj_aloadn 2 dX2_single_50 rfl rfl ?_
    refine xj_iconst (v := 1) dX2_single_51 ci_1 ?_
    refine xj_iload 1 dX2_single_52 rfl ?_
    refine xj_cVv (argv := [.int (1 : Int32), .int x1]) (rest := []) dX2_single_54 (kX2_set (1 : Int32) x1 w6) mkX2_set tw1705 rfl rfl rfl rfl rfl rfl (fun _ w7 => ?_)
    refine xj_iload 0 dX2_single_57 rfl ?_
    exact xj_ri dX2_single_59 rfl
  · refine xj_aloadn 1 dX2_single_60 rfl rfl ?_
    refine xj_iloadn 3 dX2_single_61 rfl rfl ?_
    refine xj_iconst (v := 1) dX2_single_62 ci_1 ?_
    refine xj_iconst (v := 0) dX2_single_63 ci_0 ?_
    refine xj_iloadn 4 dX2_single_64 rfl rfl ?_
    refine xj_cVi (argv := [.int p2, .int (1 : Int32), .int (0 : Int32), .int p3]) (rest := []) dX2_single_65 (kX2_subtract p2 (1 : Int32) (0 : Int32) p3 w2) mkX2_subtract tw1670 rfl rfl rfl rfl rfl rfl (fun x8 w9 => ?_)
    refine xj_istore (lv2 := [(5, .int x8), (4, .int x1), (0, .ref 9), (1, .ref (2000 + p1.toNatClampNeg)), (2, .int p2), (3, .int p3)]) dX2_single_68 (Nat.le_of_ble_eq_true rfl) rfl ?_
    refine xj_aloadn 2 dX2_single_70 rfl rfl ?_
    refine xj_iconst (v := 1) dX2_single_71 ci_1 ?_
    refine xj_iload 1 dX2_single_72 rfl ?_
    refine xj_cVv (argv := [.int (1 : Int32), .int x1]) (rest := []) dX2_single_74 (kX2_set (1 : Int32) x1 w9) mkX2_set tw1705 rfl rfl rfl rfl rfl rfl (fun _ w10 => ?_)
    refine xj_iload 0 dX2_single_77 rfl ?_
    exact xj_ri dX2_single_79 rfl
  · refine xj_aloadn 1 dX2_single_80 rfl rfl ?_
    refine xj_iconst (v := 0) dX2_single_81 ci_0 ?_
    refine xj_iloadn 3 dX2_single_82 rfl rfl ?_
    refine xj_iconst (v := 0) dX2_single_83 ci_0 ?_
    refine xj_iloadn 4 dX2_single_84 rfl rfl ?_
    refine xj_cVi (argv := [.int (0 : Int32), .int p2, .int (0 : Int32), .int p3]) (rest := []) dX2_single_85 (kX2_subtract (0 : Int32) p2 (0 : Int32) p3 w2) mkX2_subtract tw1670 rfl rfl rfl rfl rfl rfl (fun x11 w12 => ?_)
    exact xj_ri dX2_single_88 rfl
theorem kX2_single (p1 : Int32) (p2 : Int32) (p3 : Int32) (w : xW) : xMet jI mX2_single lC (0, 0) [.ref 9, .ref (2000 + p1.toNatClampNeg), .int p2, .int p3] w (sX2_single p1 p2 p3 w) := xj_met lC_ok (by decide) (Nat.le_of_ble_eq_true rfl) (Nat.zero_le _) (Nat.zero_le _) (tX2_single p1 p2 p3 w)
set_option maxRecDepth 20000 in
def sX2_shiftLeft_j91 (a5 : Int32) (a7 : Int32) (b0 : Int32) (b1 : Int32) (w : xW) : Option (Int32 × xW) :=
  (if b0 = a5 then xbd (sX2_tellCarry b1 (0 : Int32) w) (fun _ w1 => some (a7, w1)) else xbd (sX2_tellCarry b1 (1 : Int32) w) (fun _ w2 => some (a7, w2)))
set_option maxRecDepth 20000 in
theorem tX2_shiftLeft_j91 (a5 : Int32) (a7 : Int32) (b0 : Int32) (b1 : Int32) (w : xW) : xJ ιI mX2_shiftLeft lC (0, 0) 91 [(5, .int a5), (7, .int a7)] [.int b0, .int b1, .ref 9] w (sX2_shiftLeft_j91 a5 a7 b0 b1 w) := by
  unfold sX2_shiftLeft_j91
  refine xj_iload 0 dX2_shiftLeft_91 rfl ?_
  refine xj_ieq (tgt := 100) dX2_shiftLeft_93 rfl ?_ ?_
  · refine xj_iconst (v := 0) dX2_shiftLeft_100 ci_0 ?_
    refine xj_cVv (argv := [.int b1, .int (0 : Int32)]) (rest := []) dX2_shiftLeft_101 (kX2_tellCarry b1 (0 : Int32) w) mkX2_tellCarry tw1666 rfl rfl rfl rfl rfl rfl (fun _ w1 => ?_)
    refine xj_iload 1 dX2_shiftLeft_104 rfl ?_
    exact xj_ri dX2_shiftLeft_106 rfl
  · refine xj_iconst (v := 1) dX2_shiftLeft_96 ci_1 ?_
    refine xj_goto (tgt := 101) dX2_shiftLeft_97 rfl ?_
    refine xj_cVv (argv := [.int b1, .int (1 : Int32)]) (rest := []) dX2_shiftLeft_101 (kX2_tellCarry b1 (1 : Int32) w) mkX2_tellCarry tw1666 rfl rfl rfl rfl rfl rfl (fun _ w2 => ?_)
    refine xj_iload 1 dX2_shiftLeft_104 rfl ?_
    exact xj_ri dX2_shiftLeft_106 rfl
set_option maxRecDepth 20000 in
def sX2_shiftLeft_j67 (a3 : Int32) (a4 : Int32) (a5 : Int32) (b0 : Int32) (b1 : Int32) (w : xW) : Option (Int32 × xW) :=
  xbd (sX11_maskOf a3 w) (fun x1 w2 => (if (((b1 ||| b0) &&& x1) &&& a4) = 0 then sX2_shiftLeft_j91 a5 ((b1 ||| b0) &&& x1) (0 : Int32) a5 w2 else sX2_shiftLeft_j91 a5 ((b1 ||| b0) &&& x1) (1 : Int32) a5 w2))
set_option maxRecDepth 20000 in
theorem tX2_shiftLeft_j67 (a3 : Int32) (a4 : Int32) (a5 : Int32) (b0 : Int32) (b1 : Int32) (w : xW) : xJ ιI mX2_shiftLeft lC (0, 0) 67 [(0, .ref 9), (3, .int a3), (4, .int a4), (5, .int a5)] [.int b0, .int b1] w (sX2_shiftLeft_j67 a3 a4 a5 b0 b1 w) := by
  unfold sX2_shiftLeft_j67
  refine xj_ior dX2_shiftLeft_67 ?_
  refine xj_iloadn 1 dX2_shiftLeft_68 rfl rfl ?_
  refine xj_cSNi (argv := [.int a3]) (rest := [.int (b1 ||| b0)]) dX2_shiftLeft_69 (kX11_maskOf a3 w) mkX11_maskOf tw1649 rfl rfl rfl rfl (fun x1 w2 => ?_)
  refine xj_iand dX2_shiftLeft_72 ?_
  refine xj_istore (lv2 := [(7, .int ((b1 ||| b0) &&& x1)), (0, .ref 9), (3, .int a3), (4, .int a4), (5, .int a5)]) dX2_shiftLeft_73 (Nat.le_of_ble_eq_true rfl) rfl ?_
  refine xj_aloadn 1 dX2_shiftLeft_75 rfl rfl ?_
  refine xj_iload 4 dX2_shiftLeft_76 rfl ?_
  refine xj_iload 0 dX2_shiftLeft_78 rfl ?_
  refine xj_iload 3 dX2_shiftLeft_80 rfl ?_
  refine xj_iand dX2_shiftLeft_82 ?_
  refine xj_ifeq (tgt := 90) dX2_shiftLeft_83 rfl ?_ ?_
  · refine xj_iconst (v := 0) dX2_shiftLeft_90 ci_0 ?_
    refine xj_sub (lv2 := [(5, .int a5), (7, .int ((b1 ||| b0) &&& x1))]) [4, 0] rfl ?_
    exact tX2_shiftLeft_j91 _ _ _ _ _
  · refine xj_iconst (v := 1) dX2_shiftLeft_86 ci_1 ?_
    refine xj_goto (tgt := 91) dX2_shiftLeft_87 rfl ?_
    refine xj_sub (lv2 := [(5, .int a5), (7, .int ((b1 ||| b0) &&& x1))]) [4, 0] rfl ?_
    exact tX2_shiftLeft_j91 _ _ _ _ _
set_option maxRecDepth 20000 in
def sX2_shiftLeft_j52 (a2 : Int32) (a3 : Int32) (a4 : Int32) (a5 : Int32) (b0 : Int32) (w : xW) : Option (Int32 × xW) :=
  (if b0 = 0 then sX2_shiftLeft_j67 a3 a4 a5 (0 : Int32) (a2 <<< ((1 : Int32) &&& 31)) w else sX2_shiftLeft_j67 a3 a4 a5 (1 : Int32) (a2 <<< ((1 : Int32) &&& 31)) w)
set_option maxRecDepth 20000 in
theorem tX2_shiftLeft_j52 (a2 : Int32) (a3 : Int32) (a4 : Int32) (a5 : Int32) (b0 : Int32) (w : xW) : xJ ιI mX2_shiftLeft lC (0, 0) 52 [(0, .ref 9), (2, .int a2), (3, .int a3), (4, .int a4), (5, .int a5)] [.int b0] w (sX2_shiftLeft_j52 a2 a3 a4 a5 b0 w) := by
  unfold sX2_shiftLeft_j52
  refine xj_istore (lv2 := [(6, .int b0), (0, .ref 9), (2, .int a2), (3, .int a3), (4, .int a4), (5, .int a5)]) dX2_shiftLeft_52 (Nat.le_of_ble_eq_true rfl) rfl ?_
  refine xj_iloadn 2 dX2_shiftLeft_54 rfl rfl ?_
  refine xj_iconst (v := 1) dX2_shiftLeft_55 ci_1 ?_
  refine xj_ishl dX2_shiftLeft_56 ?_
  refine xj_iload 0 dX2_shiftLeft_57 rfl ?_
  refine xj_ifeq (tgt := 66) dX2_shiftLeft_59 rfl ?_ ?_
  · refine xj_iconst (v := 0) dX2_shiftLeft_66 ci_0 ?_
    refine xj_sub (lv2 := [(0, .ref 9), (3, .int a3), (4, .int a4), (5, .int a5)]) [1, 3, 4, 5] rfl ?_
    exact tX2_shiftLeft_j67 _ _ _ _ _ _
  · refine xj_iconst (v := 1) dX2_shiftLeft_62 ci_1 ?_
    refine xj_goto (tgt := 67) dX2_shiftLeft_63 rfl ?_
    refine xj_sub (lv2 := [(0, .ref 9), (3, .int a3), (4, .int a4), (5, .int a5)]) [1, 3, 4, 5] rfl ?_
    exact tX2_shiftLeft_j67 _ _ _ _ _ _
set_option maxRecDepth 20000 in
def sX2_shiftLeft_j51 (a2 : Int32) (a3 : Int32) (a4 : Int32) (a5 : Int32) (w : xW) : Option (Int32 × xW) :=
  sX2_shiftLeft_j52 a2 a3 a4 a5 (0 : Int32) w
set_option maxRecDepth 20000 in
theorem tX2_shiftLeft_j51 (a2 : Int32) (a3 : Int32) (a4 : Int32) (a5 : Int32) (w : xW) : xJ ιI mX2_shiftLeft lC (0, 0) 51 [(0, .ref 9), (2, .int a2), (3, .int a3), (4, .int a4), (5, .int a5)] [] w (sX2_shiftLeft_j51 a2 a3 a4 a5 w) := by
  unfold sX2_shiftLeft_j51
  refine xj_iconst (v := 0) dX2_shiftLeft_51 ci_0 ?_
  exact tX2_shiftLeft_j52 _ _ _ _ _ _
set_option maxRecDepth 20000 in
def sX2_shiftLeft_j18 (a1 : Int32) (a2 : Int32) (a3 : Int32) (a4 : Int32) (b0 : Int32) (w : xW) : Option (Int32 × xW) :=
  (if xin a1 54 ∧ xin (8 : Int32) 54 then (if a1 = (8 : Int32) then sX2_shiftLeft_j52 a2 a3 a4 b0 b0 w else (if xin a1 54 ∧ xin (10 : Int32) 54 then (if a1 = (10 : Int32) then xbd (sX2_has (1 : Int32) w) (fun x1 w2 => (if x1 = 0 then sX2_shiftLeft_j51 a2 a3 a4 b0 w2 else sX2_shiftLeft_j52 a2 a3 a4 b0 (1 : Int32) w2)) else sX2_shiftLeft_j51 a2 a3 a4 b0 w) else none)) else none)
set_option maxRecDepth 20000 in
theorem tX2_shiftLeft_j18 (a1 : Int32) (a2 : Int32) (a3 : Int32) (a4 : Int32) (b0 : Int32) (w : xW) : xJ ιI mX2_shiftLeft lC (0, 0) 18 [(0, .ref 9), (1, .ref (2000 + a1.toNatClampNeg)), (2, .int a2), (3, .int a3), (4, .int a4)] [.int b0] w (sX2_shiftLeft_j18 a1 a2 a3 a4 b0 w) := by
  unfold sX2_shiftLeft_j18
  refine xj_istore (lv2 := [(5, .int b0), (0, .ref 9), (1, .ref (2000 + a1.toNatClampNeg)), (2, .int a2), (3, .int a3), (4, .int a4)]) dX2_shiftLeft_18 (Nat.le_of_ble_eq_true rfl) rfl ?_
  refine xj_aloadn 2 dX2_shiftLeft_20 rfl rfl ?_
  refine xj_gse (n := 8) 8 dX2_shiftLeft_21 (Nat.le_of_ble_eq_true rfl) rfl tw1717 ?_
  refine xj_guard (fun hq => ?_)
  refine xj_ane hq.1 hq.2 (tgt := 32) dX2_shiftLeft_24 rfl ?_ ?_
  · refine xj_iload 0 dX2_shiftLeft_27 rfl ?_
    refine xj_goto (tgt := 52) dX2_shiftLeft_29 rfl ?_
    refine xj_sub (lv2 := [(0, .ref 9), (2, .int a2), (3, .int a3), (4, .int a4), (5, .int b0)]) [1, 3, 4, 5, 0] rfl ?_
    exact tX2_shiftLeft_j52 _ _ _ _ _ _
  · refine xj_aloadn 2 dX2_shiftLeft_32 rfl rfl ?_
    refine xj_gse (n := 10) 10 dX2_shiftLeft_33 (Nat.le_of_ble_eq_true rfl) rfl tw1719 ?_
    refine xj_guard (fun hq => ?_)
    refine xj_ane hq.1 hq.2 (tgt := 51) dX2_shiftLeft_36 rfl ?_ ?_
    · refine xj_aloadn 1 dX2_shiftLeft_39 rfl rfl ?_
      refine xj_iconst (v := 1) dX2_shiftLeft_40 ci_1 ?_
      refine xj_cVi (argv := [.int (1 : Int32)]) (rest := []) dX2_shiftLeft_41 (kX2_has (1 : Int32) w) mkX2_has tw1633 rfl rfl rfl rfl rfl rfl (fun x1 w2 => ?_)
      refine xj_ifeq (tgt := 51) dX2_shiftLeft_44 rfl ?_ ?_
      · refine xj_sub (lv2 := [(0, .ref 9), (2, .int a2), (3, .int a3), (4, .int a4), (5, .int b0)]) [1, 3, 4, 5, 0] rfl ?_
        exact tX2_shiftLeft_j51 _ _ _ _ _
      · refine xj_iconst (v := 1) dX2_shiftLeft_47 ci_1 ?_
        refine xj_goto (tgt := 52) dX2_shiftLeft_48 rfl ?_
        refine xj_sub (lv2 := [(0, .ref 9), (2, .int a2), (3, .int a3), (4, .int a4), (5, .int b0)]) [1, 3, 4, 5, 0] rfl ?_
        exact tX2_shiftLeft_j52 _ _ _ _ _ _
    · refine xj_sub (lv2 := [(0, .ref 9), (2, .int a2), (3, .int a3), (4, .int a4), (5, .int b0)]) [1, 3, 4, 5, 0] rfl ?_
      exact tX2_shiftLeft_j51 _ _ _ _ _
set_option maxRecDepth 20000 in
def sX2_shiftLeft (p1 : Int32) (p2 : Int32) (p3 : Int32) (w : xW) : Option (Int32 × xW) :=
  xbd (sX11_topOf p3 w) (fun x1 w2 => (if (p2 &&& x1) = 0 then sX2_shiftLeft_j18 p1 p2 p3 x1 (0 : Int32) w2 else sX2_shiftLeft_j18 p1 p2 p3 x1 (1 : Int32) w2))
set_option maxRecDepth 20000 in
theorem tX2_shiftLeft (p1 : Int32) (p2 : Int32) (p3 : Int32) (w : xW) : xJ ιI mX2_shiftLeft lC (0, 0) 0 [(0, .ref 9), (1, .ref (2000 + p1.toNatClampNeg)), (2, .int p2), (3, .int p3)] [] w (sX2_shiftLeft p1 p2 p3 w) := by
  unfold sX2_shiftLeft
  refine xj_iloadn 3 dX2_shiftLeft_0 rfl rfl ?_
  refine xj_cSNi (argv := [.int p3]) (rest := []) dX2_shiftLeft_1 (kX11_topOf p3 w) mkX11_topOf tw1655 rfl rfl rfl rfl (fun x1 w2 => ?_)
  refine xj_istore (lv2 := [(4, .int x1), (0, .ref 9), (1, .ref (2000 + p1.toNatClampNeg)), (2, .int p2), (3, .int p3)]) dX2_shiftLeft_4 (Nat.le_of_ble_eq_true rfl) rfl ?_
  refine xj_iloadn 3 dX2_shiftLeft_6 rfl rfl ?_
  refine xj_iload 0 dX2_shiftLeft_7 rfl ?_
  refine xj_iand dX2_shiftLeft_9 ?_
  refine xj_ifeq (tgt := 17) dX2_shiftLeft_10 rfl ?_ ?_
  · refine xj_iconst (v := 0) dX2_shiftLeft_17 ci_0 ?_
    refine xj_sub (lv2 := [(0, .ref 9), (1, .ref (2000 + p1.toNatClampNeg)), (2, .int p2), (3, .int p3), (4, .int x1)]) [1, 2, 3, 4, 0] rfl ?_
    exact tX2_shiftLeft_j18 _ _ _ _ _ _
  · refine xj_iconst (v := 1) dX2_shiftLeft_13 ci_1 ?_
    refine xj_goto (tgt := 18) dX2_shiftLeft_14 rfl ?_
    refine xj_sub (lv2 := [(0, .ref 9), (1, .ref (2000 + p1.toNatClampNeg)), (2, .int p2), (3, .int p3), (4, .int x1)]) [1, 2, 3, 4, 0] rfl ?_
    exact tX2_shiftLeft_j18 _ _ _ _ _ _
theorem kX2_shiftLeft (p1 : Int32) (p2 : Int32) (p3 : Int32) (w : xW) : xMet jI mX2_shiftLeft lC (0, 0) [.ref 9, .ref (2000 + p1.toNatClampNeg), .int p2, .int p3] w (sX2_shiftLeft p1 p2 p3 w) := xj_met lC_ok (by decide) (Nat.le_of_ble_eq_true rfl) (Nat.zero_le _) (Nat.zero_le _) (tX2_shiftLeft p1 p2 p3 w)
set_option maxRecDepth 20000 in
def sX2_shiftRight_j130 (a6 : Int32) (a8 : Int32) (a9 : Int32) (w : xW) : Option (Int32 × xW) :=
  xbd (sX2_tellCarry a6 a8 w) (fun _ w1 => some (a9, w1))
set_option maxRecDepth 20000 in
theorem tX2_shiftRight_j130 (a6 : Int32) (a8 : Int32) (a9 : Int32) (w : xW) : xJ ιI mX2_shiftRight lC (0, 0) 130 [(0, .ref 9), (6, .int a6), (8, .int a8), (9, .int a9)] [] w (sX2_shiftRight_j130 a6 a8 a9 w) := by
  unfold sX2_shiftRight_j130
  refine xj_aloadn 0 dX2_shiftRight_130 rfl rfl ?_
  refine xj_iload 1 dX2_shiftRight_131 rfl ?_
  refine xj_iload 2 dX2_shiftRight_133 rfl ?_
  refine xj_cVv (argv := [.int a6, .int a8]) (rest := []) dX2_shiftRight_135 (kX2_tellCarry a6 a8 w) mkX2_tellCarry tw1666 rfl rfl rfl rfl rfl rfl (fun _ w1 => ?_)
  refine xj_iload 3 dX2_shiftRight_138 rfl ?_
  exact xj_ri dX2_shiftRight_140 rfl
set_option maxRecDepth 20000 in
def sX2_shiftRight_j128 (a6 : Int32) (a9 : Int32) (b0 : Int32) (w : xW) : Option (Int32 × xW) :=
  sX2_shiftRight_j130 a6 b0 a9 w
set_option maxRecDepth 20000 in
theorem tX2_shiftRight_j128 (a6 : Int32) (a9 : Int32) (b0 : Int32) (w : xW) : xJ ιI mX2_shiftRight lC (0, 0) 128 [(0, .ref 9), (6, .int a6), (9, .int a9)] [.int b0] w (sX2_shiftRight_j128 a6 a9 b0 w) := by
  unfold sX2_shiftRight_j128
  refine xj_istore (lv2 := [(8, .int b0), (0, .ref 9), (6, .int a6), (9, .int a9)]) dX2_shiftRight_128 (Nat.le_of_ble_eq_true rfl) rfl ?_
  refine xj_sub (lv2 := [(0, .ref 9), (6, .int a6), (8, .int b0), (9, .int a9)]) [1, 2, 0, 3] rfl ?_
  exact tX2_shiftRight_j130 _ _ _ _
set_option maxRecDepth 20000 in
def sX2_shiftRight_j127 (a6 : Int32) (a9 : Int32) (w : xW) : Option (Int32 × xW) :=
  sX2_shiftRight_j128 a6 a9 (0 : Int32) w
set_option maxRecDepth 20000 in
theorem tX2_shiftRight_j127 (a6 : Int32) (a9 : Int32) (w : xW) : xJ ιI mX2_shiftRight lC (0, 0) 127 [(0, .ref 9), (6, .int a6), (9, .int a9)] [] w (sX2_shiftRight_j127 a6 a9 w) := by
  unfold sX2_shiftRight_j127
  refine xj_iconst (v := 0) dX2_shiftRight_127 ci_0 ?_
  exact tX2_shiftRight_j128 _ _ _ _
set_option maxRecDepth 20000 in
def sX2_shiftRight_j92 (a1 : Int32) (a5 : Int32) (a6 : Int32) (a7 : Int32) (b0 : Int32) (b1 : Int32) (w : xW) : Option (Int32 × xW) :=
  (if xin a1 54 ∧ xin (13 : Int32) 54 then (if a1 = (13 : Int32) then sX2_shiftRight_j130 a6 a5 (b1 ||| b0) w else (if xin a1 54 ∧ xin (15 : Int32) 54 then (if a1 = (15 : Int32) then sX2_shiftRight_j127 a6 (b1 ||| b0) w else (if a7 = a5 then sX2_shiftRight_j127 a6 (b1 ||| b0) w else sX2_shiftRight_j128 a6 (b1 ||| b0) (1 : Int32) w)) else none)) else none)
set_option maxRecDepth 20000 in
theorem tX2_shiftRight_j92 (a1 : Int32) (a5 : Int32) (a6 : Int32) (a7 : Int32) (b0 : Int32) (b1 : Int32) (w : xW) : xJ ιI mX2_shiftRight lC (0, 0) 92 [(0, .ref 9), (1, .ref (2000 + a1.toNatClampNeg)), (5, .int a5), (6, .int a6), (7, .int a7)] [.int b0, .int b1] w (sX2_shiftRight_j92 a1 a5 a6 a7 b0 b1 w) := by
  unfold sX2_shiftRight_j92
  refine xj_ior dX2_shiftRight_92 ?_
  refine xj_istore (lv2 := [(9, .int (b1 ||| b0)), (0, .ref 9), (1, .ref (2000 + a1.toNatClampNeg)), (5, .int a5), (6, .int a6), (7, .int a7)]) dX2_shiftRight_93 (Nat.le_of_ble_eq_true rfl) rfl ?_
  refine xj_aloadn 2 dX2_shiftRight_95 rfl rfl ?_
  refine xj_gse (n := 13) 13 dX2_shiftRight_96 (Nat.le_of_ble_eq_true rfl) rfl tw1737 ?_
  refine xj_guard (fun hq => ?_)
  refine xj_ane hq.1 hq.2 (tgt := 109) dX2_shiftRight_99 rfl ?_ ?_
  · refine xj_iload 3 dX2_shiftRight_102 rfl ?_
    refine xj_istore (lv2 := [(8, .int a5), (9, .int (b1 ||| b0)), (0, .ref 9), (1, .ref (2000 + a1.toNatClampNeg)), (5, .int a5), (6, .int a6), (7, .int a7)]) dX2_shiftRight_104 (Nat.le_of_ble_eq_true rfl) rfl ?_
    refine xj_goto (tgt := 130) dX2_shiftRight_106 rfl ?_
    refine xj_sub (lv2 := [(0, .ref 9), (6, .int a6), (8, .int a5), (9, .int (b1 ||| b0))]) [2, 5, 0, 1] rfl ?_
    exact tX2_shiftRight_j130 _ _ _ _
  · refine xj_aloadn 2 dX2_shiftRight_109 rfl rfl ?_
    refine xj_gse (n := 15) 15 dX2_shiftRight_110 (Nat.le_of_ble_eq_true rfl) rfl tw1735 ?_
    refine xj_guard (fun hq => ?_)
    refine xj_aeq hq.1 hq.2 (tgt := 127) dX2_shiftRight_113 rfl ?_ ?_
    · refine xj_sub (lv2 := [(0, .ref 9), (6, .int a6), (9, .int (b1 ||| b0))]) [1, 4, 0] rfl ?_
      exact tX2_shiftRight_j127 _ _ _
    · refine xj_iload 5 dX2_shiftRight_116 rfl ?_
      refine xj_iload 3 dX2_shiftRight_118 rfl ?_
      refine xj_ieq (tgt := 127) dX2_shiftRight_120 rfl ?_ ?_
      · refine xj_sub (lv2 := [(0, .ref 9), (6, .int a6), (9, .int (b1 ||| b0))]) [1, 4, 0] rfl ?_
        exact tX2_shiftRight_j127 _ _ _
      · refine xj_iconst (v := 1) dX2_shiftRight_123 ci_1 ?_
        refine xj_goto (tgt := 128) dX2_shiftRight_124 rfl ?_
        refine xj_sub (lv2 := [(0, .ref 9), (6, .int a6), (9, .int (b1 ||| b0))]) [1, 4, 0] rfl ?_
        exact tX2_shiftRight_j128 _ _ _ _
set_option maxRecDepth 20000 in
def sX2_shiftRight_j78 (a1 : Int32) (a2 : Int32) (a4 : Int32) (a5 : Int32) (a6 : Int32) (a7 : Int32) (w : xW) : Option (Int32 × xW) :=
  (if a7 = 0 then sX2_shiftRight_j92 a1 a5 a6 a7 (0 : Int32) (xushr a2 (1 : Int32)) w else sX2_shiftRight_j92 a1 a5 a6 a7 a4 (xushr a2 (1 : Int32)) w)
set_option maxRecDepth 20000 in
theorem tX2_shiftRight_j78 (a1 : Int32) (a2 : Int32) (a4 : Int32) (a5 : Int32) (a6 : Int32) (a7 : Int32) (w : xW) : xJ ιI mX2_shiftRight lC (0, 0) 78 [(0, .ref 9), (1, .ref (2000 + a1.toNatClampNeg)), (2, .int a2), (4, .int a4), (5, .int a5), (6, .int a6), (7, .int a7)] [] w (sX2_shiftRight_j78 a1 a2 a4 a5 a6 a7 w) := by
  unfold sX2_shiftRight_j78
  refine xj_iloadn 2 dX2_shiftRight_78 rfl rfl ?_
  refine xj_iconst (v := 1) dX2_shiftRight_79 ci_1 ?_
  refine xj_iushr dX2_shiftRight_80 ?_
  refine xj_iload 6 dX2_shiftRight_81 rfl ?_
  refine xj_ifeq (tgt := 91) dX2_shiftRight_83 rfl ?_ ?_
  · refine xj_iconst (v := 0) dX2_shiftRight_91 ci_0 ?_
    refine xj_sub (lv2 := [(0, .ref 9), (1, .ref (2000 + a1.toNatClampNeg)), (5, .int a5), (6, .int a6), (7, .int a7)]) [0, 1, 4, 5, 6] rfl ?_
    exact tX2_shiftRight_j92 _ _ _ _ _ _ _
  · refine xj_iload 3 dX2_shiftRight_86 rfl ?_
    refine xj_goto (tgt := 92) dX2_shiftRight_88 rfl ?_
    refine xj_sub (lv2 := [(0, .ref 9), (1, .ref (2000 + a1.toNatClampNeg)), (5, .int a5), (6, .int a6), (7, .int a7)]) [0, 1, 4, 5, 6] rfl ?_
    exact tX2_shiftRight_j92 _ _ _ _ _ _ _
set_option maxRecDepth 20000 in
def sX2_shiftRight_j31 (a1 : Int32) (a2 : Int32) (a4 : Int32) (a5 : Int32) (b0 : Int32) (w : xW) : Option (Int32 × xW) :=
  (if xin a1 54 ∧ xin (9 : Int32) 54 then (if a1 = (9 : Int32) then sX2_shiftRight_j78 a1 a2 a4 a5 b0 b0 w else (if xin a1 54 ∧ xin (11 : Int32) 54 then (if a1 = (11 : Int32) then xbd (sX2_has (1 : Int32) w) (fun x1 w2 => sX2_shiftRight_j78 a1 a2 a4 a5 b0 x1 w2) else (if xin a1 54 ∧ xin (15 : Int32) 54 then (if a1 = (15 : Int32) then sX2_shiftRight_j78 a1 a2 a4 a5 b0 a5 w else sX2_shiftRight_j78 a1 a2 a4 a5 b0 (0 : Int32) w) else none)) else none)) else none)
set_option maxRecDepth 20000 in
theorem tX2_shiftRight_j31 (a1 : Int32) (a2 : Int32) (a4 : Int32) (a5 : Int32) (b0 : Int32) (w : xW) : xJ ιI mX2_shiftRight lC (0, 0) 31 [(0, .ref 9), (1, .ref (2000 + a1.toNatClampNeg)), (2, .int a2), (4, .int a4), (5, .int a5)] [.int b0] w (sX2_shiftRight_j31 a1 a2 a4 a5 b0 w) := by
  unfold sX2_shiftRight_j31
  refine xj_istore (lv2 := [(6, .int b0), (0, .ref 9), (1, .ref (2000 + a1.toNatClampNeg)), (2, .int a2), (4, .int a4), (5, .int a5)]) dX2_shiftRight_31 (Nat.le_of_ble_eq_true rfl) rfl ?_
  refine xj_iconst (v := 0) dX2_shiftRight_33 ci_0 ?_
  refine xj_istore (lv2 := [(7, .int (0 : Int32)), (6, .int b0), (0, .ref 9), (1, .ref (2000 + a1.toNatClampNeg)), (2, .int a2), (4, .int a4), (5, .int a5)]) dX2_shiftRight_34 (Nat.le_of_ble_eq_true rfl) rfl ?_
  refine xj_aloadn 3 dX2_shiftRight_36 rfl rfl ?_
  refine xj_gse (n := 9) 9 dX2_shiftRight_37 (Nat.le_of_ble_eq_true rfl) rfl tw1731 ?_
  refine xj_guard (fun hq => ?_)
  refine xj_ane hq.1 hq.2 (tgt := 50) dX2_shiftRight_40 rfl ?_ ?_
  · refine xj_iload 1 dX2_shiftRight_43 rfl ?_
    refine xj_istore (lv2 := [(7, .int b0), (6, .int b0), (0, .ref 9), (1, .ref (2000 + a1.toNatClampNeg)), (2, .int a2), (4, .int a4), (5, .int a5)]) dX2_shiftRight_45 (Nat.le_of_ble_eq_true rfl) rfl ?_
    refine xj_goto (tgt := 78) dX2_shiftRight_47 rfl ?_
    refine xj_sub (lv2 := [(0, .ref 9), (1, .ref (2000 + a1.toNatClampNeg)), (2, .int a2), (4, .int a4), (5, .int a5), (6, .int b0), (7, .int b0)]) [2, 3, 4, 5, 6, 1, 0] rfl ?_
    exact tX2_shiftRight_j78 _ _ _ _ _ _ _
  · refine xj_aloadn 3 dX2_shiftRight_50 rfl rfl ?_
    refine xj_gse (n := 11) 11 dX2_shiftRight_51 (Nat.le_of_ble_eq_true rfl) rfl tw1733 ?_
    refine xj_guard (fun hq => ?_)
    refine xj_ane hq.1 hq.2 (tgt := 67) dX2_shiftRight_54 rfl ?_ ?_
    · refine xj_aloadn 2 dX2_shiftRight_57 rfl rfl ?_
      refine xj_iconst (v := 1) dX2_shiftRight_58 ci_1 ?_
      refine xj_cVi (argv := [.int (1 : Int32)]) (rest := []) dX2_shiftRight_59 (kX2_has (1 : Int32) w) mkX2_has tw1633 rfl rfl rfl rfl rfl rfl (fun x1 w2 => ?_)
      refine xj_istore (lv2 := [(7, .int x1), (6, .int b0), (0, .ref 9), (1, .ref (2000 + a1.toNatClampNeg)), (2, .int a2), (4, .int a4), (5, .int a5)]) dX2_shiftRight_62 (Nat.le_of_ble_eq_true rfl) rfl ?_
      refine xj_goto (tgt := 78) dX2_shiftRight_64 rfl ?_
      refine xj_sub (lv2 := [(0, .ref 9), (1, .ref (2000 + a1.toNatClampNeg)), (2, .int a2), (4, .int a4), (5, .int a5), (6, .int b0), (7, .int x1)]) [2, 3, 4, 5, 6, 1, 0] rfl ?_
      exact tX2_shiftRight_j78 _ _ _ _ _ _ _
    · refine xj_aloadn 3 dX2_shiftRight_67 rfl rfl ?_
      refine xj_gse (n := 15) 15 dX2_shiftRight_68 (Nat.le_of_ble_eq_true rfl) rfl tw1735 ?_
      refine xj_guard (fun hq => ?_)
      refine xj_ane hq.1 hq.2 (tgt := 78) dX2_shiftRight_71 rfl ?_ ?_
      · refine xj_iload 6 dX2_shiftRight_74 rfl ?_
        refine xj_istore (lv2 := [(7, .int a5), (6, .int b0), (0, .ref 9), (1, .ref (2000 + a1.toNatClampNeg)), (2, .int a2), (4, .int a4), (5, .int a5)]) dX2_shiftRight_76 (Nat.le_of_ble_eq_true rfl) rfl ?_
        refine xj_sub (lv2 := [(0, .ref 9), (1, .ref (2000 + a1.toNatClampNeg)), (2, .int a2), (4, .int a4), (5, .int a5), (6, .int b0), (7, .int a5)]) [2, 3, 4, 5, 6, 1, 0] rfl ?_
        exact tX2_shiftRight_j78 _ _ _ _ _ _ _
      · refine xj_sub (lv2 := [(0, .ref 9), (1, .ref (2000 + a1.toNatClampNeg)), (2, .int a2), (4, .int a4), (5, .int a5), (6, .int b0), (7, .int (0 : Int32))]) [2, 3, 4, 5, 6, 1, 0] rfl ?_
        exact tX2_shiftRight_j78 _ _ _ _ _ _ _
set_option maxRecDepth 20000 in
def sX2_shiftRight_j18 (a1 : Int32) (a2 : Int32) (a4 : Int32) (b0 : Int32) (w : xW) : Option (Int32 × xW) :=
  (if (a2 &&& (1 : Int32)) = 0 then sX2_shiftRight_j31 a1 a2 a4 b0 (0 : Int32) w else sX2_shiftRight_j31 a1 a2 a4 b0 (1 : Int32) w)
set_option maxRecDepth 20000 in
theorem tX2_shiftRight_j18 (a1 : Int32) (a2 : Int32) (a4 : Int32) (b0 : Int32) (w : xW) : xJ ιI mX2_shiftRight lC (0, 0) 18 [(0, .ref 9), (1, .ref (2000 + a1.toNatClampNeg)), (2, .int a2), (4, .int a4)] [.int b0] w (sX2_shiftRight_j18 a1 a2 a4 b0 w) := by
  unfold sX2_shiftRight_j18
  refine xj_istore (lv2 := [(5, .int b0), (0, .ref 9), (1, .ref (2000 + a1.toNatClampNeg)), (2, .int a2), (4, .int a4)]) dX2_shiftRight_18 (Nat.le_of_ble_eq_true rfl) rfl ?_
  refine xj_iloadn 3 dX2_shiftRight_20 rfl rfl ?_
  refine xj_iconst (v := 1) dX2_shiftRight_21 ci_1 ?_
  refine xj_iand dX2_shiftRight_22 ?_
  refine xj_ifeq (tgt := 30) dX2_shiftRight_23 rfl ?_ ?_
  · refine xj_iconst (v := 0) dX2_shiftRight_30 ci_0 ?_
    refine xj_sub (lv2 := [(0, .ref 9), (1, .ref (2000 + a1.toNatClampNeg)), (2, .int a2), (4, .int a4), (5, .int b0)]) [1, 2, 3, 4, 0] rfl ?_
    exact tX2_shiftRight_j31 _ _ _ _ _ _
  · refine xj_iconst (v := 1) dX2_shiftRight_26 ci_1 ?_
    refine xj_goto (tgt := 31) dX2_shiftRight_27 rfl ?_
    refine xj_sub (lv2 := [(0, .ref 9), (1, .ref (2000 + a1.toNatClampNeg)), (2, .int a2), (4, .int a4), (5, .int b0)]) [1, 2, 3, 4, 0] rfl ?_
    exact tX2_shiftRight_j31 _ _ _ _ _ _
set_option maxRecDepth 20000 in
def sX2_shiftRight (p1 : Int32) (p2 : Int32) (p3 : Int32) (w : xW) : Option (Int32 × xW) :=
  xbd (sX11_topOf p3 w) (fun x1 w2 => (if (p2 &&& x1) = 0 then sX2_shiftRight_j18 p1 p2 x1 (0 : Int32) w2 else sX2_shiftRight_j18 p1 p2 x1 (1 : Int32) w2))
set_option maxRecDepth 20000 in
theorem tX2_shiftRight (p1 : Int32) (p2 : Int32) (p3 : Int32) (w : xW) : xJ ιI mX2_shiftRight lC (0, 0) 0 [(0, .ref 9), (1, .ref (2000 + p1.toNatClampNeg)), (2, .int p2), (3, .int p3)] [] w (sX2_shiftRight p1 p2 p3 w) := by
  unfold sX2_shiftRight
  refine xj_iloadn 3 dX2_shiftRight_0 rfl rfl ?_
  refine xj_cSNi (argv := [.int p3]) (rest := []) dX2_shiftRight_1 (kX11_topOf p3 w) mkX11_topOf tw1655 rfl rfl rfl rfl (fun x1 w2 => ?_)
  refine xj_istore (lv2 := [(4, .int x1), (0, .ref 9), (1, .ref (2000 + p1.toNatClampNeg)), (2, .int p2), (3, .int p3)]) dX2_shiftRight_4 (Nat.le_of_ble_eq_true rfl) rfl ?_
  refine xj_iloadn 3 dX2_shiftRight_6 rfl rfl ?_
  refine xj_iload 0 dX2_shiftRight_7 rfl ?_
  refine xj_iand dX2_shiftRight_9 ?_
  refine xj_ifeq (tgt := 17) dX2_shiftRight_10 rfl ?_ ?_
  · refine xj_iconst (v := 0) dX2_shiftRight_17 ci_0 ?_
    refine xj_sub (lv2 := [(0, .ref 9), (1, .ref (2000 + p1.toNatClampNeg)), (2, .int p2), (4, .int x1)]) [1, 2, 3, 0] rfl ?_
    exact tX2_shiftRight_j18 _ _ _ _ _
  · refine xj_iconst (v := 1) dX2_shiftRight_13 ci_1 ?_
    refine xj_goto (tgt := 18) dX2_shiftRight_14 rfl ?_
    refine xj_sub (lv2 := [(0, .ref 9), (1, .ref (2000 + p1.toNatClampNeg)), (2, .int p2), (4, .int x1)]) [1, 2, 3, 0] rfl ?_
    exact tX2_shiftRight_j18 _ _ _ _ _
theorem kX2_shiftRight (p1 : Int32) (p2 : Int32) (p3 : Int32) (w : xW) : xMet jI mX2_shiftRight lC (0, 0) [.ref 9, .ref (2000 + p1.toNatClampNeg), .int p2, .int p3] w (sX2_shiftRight p1 p2 p3 w) := xj_met lC_ok (by decide) (Nat.le_of_ble_eq_true rfl) (Nat.zero_le _) (Nat.zero_le _) (tX2_shiftRight p1 p2 p3 w)
set_option maxRecDepth 20000 in
def sX2_shift_j90 (a4 : Int32) (a5 : Int32) (w : xW) : Option (Int32 × xW) :=
  xbd (sX2_tellResult a5 a4 w) (fun _ w1 => some (a5, w1))
set_option maxRecDepth 20000 in
theorem tX2_shift_j90 (a4 : Int32) (a5 : Int32) (w : xW) : xJ ιI mX2_shift lC (0, 0) 90 [(0, .ref 9), (4, .int a4), (5, .int a5)] [] w (sX2_shift_j90 a4 a5 w) := by
  unfold sX2_shift_j90
  refine xj_aloadn 0 dX2_shift_90 rfl rfl ?_
  refine xj_iload 2 dX2_shift_91 rfl ?_
  refine xj_iload 1 dX2_shift_93 rfl ?_
  refine xj_cVv (argv := [.int a5, .int a4]) (rest := []) dX2_shift_95 (kX2_tellResult a5 a4 w) mkX2_tellResult tw1651 rfl rfl rfl rfl rfl rfl (fun _ w1 => ?_)
  refine xj_iload 2 dX2_shift_98 rfl ?_
  exact xj_ri dX2_shift_100 rfl
set_option maxRecDepth 20000 in
def sX2_shift_j69 (a1 : Int32) (a4 : Int32) (a5 : Int32) (w : xW) : Option (Int32 × xW) :=
  (if xin a1 54 ∧ xin (12 : Int32) 54 then (if a1 = (12 : Int32) then sX2_shift_j90 a4 a5 w else (if xin a1 54 ∧ xin (13 : Int32) 54 then (if a1 = (13 : Int32) then sX2_shift_j90 a4 a5 w else (if xin a1 54 ∧ xin (15 : Int32) 54 then (if a1 = (15 : Int32) then sX2_shift_j90 a4 a5 w else some (a5, w)) else none)) else none)) else none)
set_option maxRecDepth 20000 in
theorem tX2_shift_j69 (a1 : Int32) (a4 : Int32) (a5 : Int32) (w : xW) : xJ ιI mX2_shift lC (0, 0) 69 [(0, .ref 9), (1, .ref (2000 + a1.toNatClampNeg)), (4, .int a4), (5, .int a5)] [] w (sX2_shift_j69 a1 a4 a5 w) := by
  unfold sX2_shift_j69
  refine xj_aloadn 1 dX2_shift_69 rfl rfl ?_
  refine xj_gse (n := 12) 12 dX2_shift_70 (Nat.le_of_ble_eq_true rfl) rfl tw1721 ?_
  refine xj_guard (fun hq => ?_)
  refine xj_aeq hq.1 hq.2 (tgt := 90) dX2_shift_73 rfl ?_ ?_
  · refine xj_sub (lv2 := [(0, .ref 9), (4, .int a4), (5, .int a5)]) [0, 2, 3] rfl ?_
    exact tX2_shift_j90 _ _ _
  · refine xj_aloadn 1 dX2_shift_76 rfl rfl ?_
    refine xj_gse (n := 13) 13 dX2_shift_77 (Nat.le_of_ble_eq_true rfl) rfl tw1737 ?_
    refine xj_guard (fun hq => ?_)
    refine xj_aeq hq.1 hq.2 (tgt := 90) dX2_shift_80 rfl ?_ ?_
    · refine xj_sub (lv2 := [(0, .ref 9), (4, .int a4), (5, .int a5)]) [0, 2, 3] rfl ?_
      exact tX2_shift_j90 _ _ _
    · refine xj_aloadn 1 dX2_shift_83 rfl rfl ?_
      refine xj_gse (n := 15) 15 dX2_shift_84 (Nat.le_of_ble_eq_true rfl) rfl tw1735 ?_
      refine xj_guard (fun hq => ?_)
      refine xj_ane hq.1 hq.2 (tgt := 98) dX2_shift_87 rfl ?_ ?_
      · refine xj_sub (lv2 := [(0, .ref 9), (4, .int a4), (5, .int a5)]) [0, 2, 3] rfl ?_
        exact tX2_shift_j90 _ _ _
      · refine xj_iload 3 dX2_shift_98 rfl ?_
        exact xj_ri dX2_shift_100 rfl
set_option maxRecDepth 20000 in
def sX2_shift_j40 (K6 : Int32 → Int32 → Int32 → Int32 → Int32 → xW → Option (Int32 × xW)) (a1 : Int32) (a3 : Int32) (a4 : Int32) (a5 : Int32) (a6 : Int32) (w : xW) : Option (Int32 × xW) :=
  xbd (sX2_shiftLeft a1 a5 a4 w) (fun x1 w2 => K6 a1 a3 a4 x1 (a6 + (1 : Int32)) w2)
set_option maxRecDepth 20000 in
theorem tX2_shift_j40 (K6 : Int32 → Int32 → Int32 → Int32 → Int32 → xW → Option (Int32 × xW)) (hK6 : ∀ (a1 : Int32) (a3 : Int32) (a4 : Int32) (a5 : Int32) (a6 : Int32) (w : xW), xJ ιI mX2_shift lC (0, 0) 6 [(0, .ref 9), (1, .ref (2000 + a1.toNatClampNeg)), (3, .int a3), (4, .int a4), (5, .int a5), (6, .int a6)] [] w (K6 a1 a3 a4 a5 a6 w)) (a1 : Int32) (a3 : Int32) (a4 : Int32) (a5 : Int32) (a6 : Int32) (w : xW) : xJ ιI mX2_shift lC (0, 0) 40 [(0, .ref 9), (1, .ref (2000 + a1.toNatClampNeg)), (3, .int a3), (4, .int a4), (5, .int a5), (6, .int a6)] [] w (sX2_shift_j40 K6 a1 a3 a4 a5 a6 w) := by
  unfold sX2_shift_j40
  refine xj_aloadn 0 dX2_shift_40 rfl rfl ?_
  refine xj_aloadn 1 dX2_shift_41 rfl rfl ?_
  refine xj_iload 4 dX2_shift_42 rfl ?_
  refine xj_iload 3 dX2_shift_44 rfl ?_
  refine xj_cVi (argv := [.ref (2000 + a1.toNatClampNeg), .int a5, .int a4]) (rest := []) dX2_shift_46 (kX2_shiftLeft a1 a5 a4 w) mkX2_shiftLeft tw1723 rfl rfl rfl rfl rfl rfl (fun x1 w2 => ?_)
  refine xj_goto (tgt := 61) dX2_shift_49 rfl ?_
  refine xj_istore (lv2 := [(5, .int x1), (0, .ref 9), (1, .ref (2000 + a1.toNatClampNeg)), (3, .int a3), (4, .int a4), (6, .int a6)]) dX2_shift_61 (Nat.le_of_ble_eq_true rfl) rfl ?_
  refine xj_iinc (n := 5) (lv2 := [(6, .int (a6 + (1 : Int32))), (5, .int x1), (0, .ref 9), (1, .ref (2000 + a1.toNatClampNeg)), (3, .int a3), (4, .int a4)]) dX2_shift_63 rfl ci_1 (Nat.le_of_ble_eq_true rfl) rfl ?_
  refine xj_goto (tgt := 6) dX2_shift_66 rfl ?_
  refine xj_sub (lv2 := [(0, .ref 9), (1, .ref (2000 + a1.toNatClampNeg)), (3, .int a3), (4, .int a4), (5, .int x1), (6, .int (a6 + (1 : Int32)))]) [2, 3, 4, 5, 1, 0] rfl ?_
  exact hK6 _ _ _ _ _ _
set_option maxRecDepth 20000 in
def sX2_shift_l6 : Nat → Int32 → Int32 → Int32 → Int32 → Int32 → xW → Option (Int32 × xW)
  | 0, _, _, _, _, _, _ => none
  | n + 1, a1, a3, a4, a5, a6, w =>
  (if a6 < a3 then (if a6 < (32 : Int32) then (if xin a1 54 ∧ xin (8 : Int32) 54 then (if a1 = (8 : Int32) then sX2_shift_j40 (sX2_shift_l6 n) a1 a3 a4 a5 a6 w else (if xin a1 54 ∧ xin (10 : Int32) 54 then (if a1 = (10 : Int32) then sX2_shift_j40 (sX2_shift_l6 n) a1 a3 a4 a5 a6 w else (if xin a1 54 ∧ xin (12 : Int32) 54 then (if a1 = (12 : Int32) then sX2_shift_j40 (sX2_shift_l6 n) a1 a3 a4 a5 a6 w else xbd (sX2_shiftRight a1 a5 a4 w) (fun x1 w2 => (sX2_shift_l6 n) a1 a3 a4 x1 (a6 + (1 : Int32)) w2)) else none)) else none)) else none) else sX2_shift_j69 a1 a4 a5 w) else sX2_shift_j69 a1 a4 a5 w)
set_option maxRecDepth 20000 in
theorem tX2_shift_l6 : ∀ (n : Nat) (a1 : Int32) (a3 : Int32) (a4 : Int32) (a5 : Int32) (a6 : Int32) (w : xW), xJ ιI mX2_shift lC (0, 0) 6 [(0, .ref 9), (1, .ref (2000 + a1.toNatClampNeg)), (3, .int a3), (4, .int a4), (5, .int a5), (6, .int a6)] [] w (sX2_shift_l6 n a1 a3 a4 a5 a6 w) := by
  intro n
  induction n with
  | zero => intros; exact xj_none
  | succ n ih =>
    intro a1 a3 a4 a5 a6 w
    rw [sX2_shift_l6]
    refine xj_iload 5 dX2_shift_6 rfl ?_
    refine xj_iloadn 2 dX2_shift_8 rfl rfl ?_
    refine xj_ige (tgt := 69) dX2_shift_9 rfl ?_ ?_
    · refine xj_iload 5 dX2_shift_12 rfl ?_
      refine xj_bipush (v := 32) dX2_shift_14 cb_32 ?_
      refine xj_ige (tgt := 69) dX2_shift_16 rfl ?_ ?_
      · refine xj_aloadn 1 dX2_shift_19 rfl rfl ?_
        refine xj_gse (n := 8) 8 dX2_shift_20 (Nat.le_of_ble_eq_true rfl) rfl tw1717 ?_
        refine xj_guard (fun hq => ?_)
        refine xj_aeq hq.1 hq.2 (tgt := 40) dX2_shift_23 rfl ?_ ?_
        · exact tX2_shift_j40 (sX2_shift_l6 n) ih _ _ _ _ _ _
        · refine xj_aloadn 1 dX2_shift_26 rfl rfl ?_
          refine xj_gse (n := 10) 10 dX2_shift_27 (Nat.le_of_ble_eq_true rfl) rfl tw1719 ?_
          refine xj_guard (fun hq => ?_)
          refine xj_aeq hq.1 hq.2 (tgt := 40) dX2_shift_30 rfl ?_ ?_
          · exact tX2_shift_j40 (sX2_shift_l6 n) ih _ _ _ _ _ _
          · refine xj_aloadn 1 dX2_shift_33 rfl rfl ?_
            refine xj_gse (n := 12) 12 dX2_shift_34 (Nat.le_of_ble_eq_true rfl) rfl tw1721 ?_
            refine xj_guard (fun hq => ?_)
            refine xj_ane hq.1 hq.2 (tgt := 52) dX2_shift_37 rfl ?_ ?_
            · exact tX2_shift_j40 (sX2_shift_l6 n) ih _ _ _ _ _ _
            · refine xj_aloadn 0 dX2_shift_52 rfl rfl ?_
              refine xj_aloadn 1 dX2_shift_53 rfl rfl ?_
              refine xj_iload 4 dX2_shift_54 rfl ?_
              refine xj_iload 3 dX2_shift_56 rfl ?_
              refine xj_cVi (argv := [.ref (2000 + a1.toNatClampNeg), .int a5, .int a4]) (rest := []) dX2_shift_58 (kX2_shiftRight a1 a5 a4 w) mkX2_shiftRight tw1727 rfl rfl rfl rfl rfl rfl (fun x1 w2 => ?_)
              refine xj_istore (lv2 := [(5, .int x1), (0, .ref 9), (1, .ref (2000 + a1.toNatClampNeg)), (3, .int a3), (4, .int a4), (6, .int a6)]) dX2_shift_61 (Nat.le_of_ble_eq_true rfl) rfl ?_
              refine xj_iinc (n := 5) (lv2 := [(6, .int (a6 + (1 : Int32))), (5, .int x1), (0, .ref 9), (1, .ref (2000 + a1.toNatClampNeg)), (3, .int a3), (4, .int a4)]) dX2_shift_63 rfl ci_1 (Nat.le_of_ble_eq_true rfl) rfl ?_
              refine xj_goto (tgt := 6) dX2_shift_66 rfl ?_
              refine xj_sub (lv2 := [(0, .ref 9), (1, .ref (2000 + a1.toNatClampNeg)), (3, .int a3), (4, .int a4), (5, .int x1), (6, .int (a6 + (1 : Int32)))]) [2, 3, 4, 5, 1, 0] rfl ?_
              exact ih _ _ _ _ _ _
      · refine xj_sub (lv2 := [(0, .ref 9), (1, .ref (2000 + a1.toNatClampNeg)), (4, .int a4), (5, .int a5)]) [0, 1, 3, 4] rfl ?_
        exact tX2_shift_j69 _ _ _ _
    · refine xj_sub (lv2 := [(0, .ref 9), (1, .ref (2000 + a1.toNatClampNeg)), (4, .int a4), (5, .int a5)]) [0, 1, 3, 4] rfl ?_
      exact tX2_shift_j69 _ _ _ _
set_option maxRecDepth 20000 in
def sX2_shift (p1 : Int32) (p2 : Int32) (p3 : Int32) (p4 : Int32) (w : xW) : Option (Int32 × xW) :=
  sX2_shift_l6 70000 p1 p3 p4 p2 (0 : Int32) w
set_option maxRecDepth 20000 in
theorem tX2_shift (p1 : Int32) (p2 : Int32) (p3 : Int32) (p4 : Int32) (w : xW) : xJ ιI mX2_shift lC (0, 0) 0 [(0, .ref 9), (1, .ref (2000 + p1.toNatClampNeg)), (2, .int p2), (3, .int p3), (4, .int p4)] [] w (sX2_shift p1 p2 p3 p4 w) := by
  unfold sX2_shift
  refine xj_iloadn 2 dX2_shift_0 rfl rfl ?_
  refine xj_istore (lv2 := [(5, .int p2), (0, .ref 9), (1, .ref (2000 + p1.toNatClampNeg)), (2, .int p2), (3, .int p3), (4, .int p4)]) dX2_shift_1 (Nat.le_of_ble_eq_true rfl) rfl ?_
  refine xj_iconst (v := 0) dX2_shift_3 ci_0 ?_
  refine xj_istore (lv2 := [(6, .int (0 : Int32)), (5, .int p2), (0, .ref 9), (1, .ref (2000 + p1.toNatClampNeg)), (2, .int p2), (3, .int p3), (4, .int p4)]) dX2_shift_4 (Nat.le_of_ble_eq_true rfl) rfl ?_
  refine xj_sub (lv2 := [(0, .ref 9), (1, .ref (2000 + p1.toNatClampNeg)), (3, .int p3), (4, .int p4), (5, .int p2), (6, .int (0 : Int32))]) [2, 3, 5, 6, 1, 0] rfl ?_
  exact tX2_shift_l6 _ _ _ _ _ _ _
theorem kX2_shift (p1 : Int32) (p2 : Int32) (p3 : Int32) (p4 : Int32) (w : xW) : xMet jI mX2_shift lC (0, 0) [.ref 9, .ref (2000 + p1.toNatClampNeg), .int p2, .int p3, .int p4] w (sX2_shift p1 p2 p3 p4 w) := xj_met lC_ok (by decide) (Nat.le_of_ble_eq_true rfl) (Nat.zero_le _) (Nat.zero_le _) (tX2_shift p1 p2 p3 p4 w)
set_option maxRecDepth 20000 in
def sX2_shiftDouble_j91 (a2 : Int32) (a6 : Int32) (b0 : Int32) (w : xW) : Option (Int32 × xW) :=
  (if (a2 ^^^ a6) < 0 then xbd (sX2_tellCarry b0 (1 : Int32) w) (fun _ w2 => some (a6, w2)) else xbd (sX2_tellCarry b0 (0 : Int32) w) (fun _ w1 => some (a6, w1)))
set_option maxRecDepth 20000 in
theorem tX2_shiftDouble_j91 (a2 : Int32) (a6 : Int32) (b0 : Int32) (w : xW) : xJ ιI mX2_shiftDouble lC (0, 0) 91 [(2, .int a2), (6, .int a6)] [.int b0, .ref 9] w (sX2_shiftDouble_j91 a2 a6 b0 w) := by
  unfold sX2_shiftDouble_j91
  refine xj_iloadn 0 dX2_shiftDouble_91 rfl rfl ?_
  refine xj_iload 1 dX2_shiftDouble_92 rfl ?_
  refine xj_ixor dX2_shiftDouble_94 ?_
  refine xj_ifge (tgt := 102) dX2_shiftDouble_95 rfl ?_ ?_
  · refine xj_iconst (v := 1) dX2_shiftDouble_98 ci_1 ?_
    refine xj_goto (tgt := 103) dX2_shiftDouble_99 rfl ?_
    refine xj_cVv (argv := [.int b0, .int (1 : Int32)]) (rest := []) dX2_shiftDouble_103 (kX2_tellCarry b0 (1 : Int32) w) mkX2_tellCarry tw1666 rfl rfl rfl rfl rfl rfl (fun _ w2 => ?_)
    refine xj_iload 1 dX2_shiftDouble_106 rfl ?_
    exact xj_ri dX2_shiftDouble_108 rfl
  · refine xj_iconst (v := 0) dX2_shiftDouble_102 ci_0 ?_
    refine xj_cVv (argv := [.int b0, .int (0 : Int32)]) (rest := []) dX2_shiftDouble_103 (kX2_tellCarry b0 (0 : Int32) w) mkX2_tellCarry tw1666 rfl rfl rfl rfl rfl rfl (fun _ w1 => ?_)
    refine xj_iload 1 dX2_shiftDouble_106 rfl ?_
    exact xj_ri dX2_shiftDouble_108 rfl
set_option maxRecDepth 20000 in
def sX2_shiftDouble_j69 (a2 : Int32) (a6 : Int32) (b0 : Int32) (w : xW) : Option (Int32 × xW) :=
  xbd (sX2_tellResult a6 (4 : Int32) w) (fun _ w1 => (if (b0 &&& (1 : Int32)) = 0 then sX2_shiftDouble_j91 a2 a6 (0 : Int32) w1 else sX2_shiftDouble_j91 a2 a6 (1 : Int32) w1))
set_option maxRecDepth 20000 in
theorem tX2_shiftDouble_j69 (a2 : Int32) (a6 : Int32) (b0 : Int32) (w : xW) : xJ ιI mX2_shiftDouble lC (0, 0) 69 [(0, .ref 9), (2, .int a2), (6, .int a6)] [.int b0] w (sX2_shiftDouble_j69 a2 a6 b0 w) := by
  unfold sX2_shiftDouble_j69
  refine xj_istore (lv2 := [(7, .int b0), (0, .ref 9), (2, .int a2), (6, .int a6)]) dX2_shiftDouble_69 (Nat.le_of_ble_eq_true rfl) rfl ?_
  refine xj_aloadn 1 dX2_shiftDouble_71 rfl rfl ?_
  refine xj_iload 3 dX2_shiftDouble_72 rfl ?_
  refine xj_iconst (v := 4) dX2_shiftDouble_74 ci_4 ?_
  refine xj_cVv (argv := [.int a6, .int (4 : Int32)]) (rest := []) dX2_shiftDouble_75 (kX2_tellResult a6 (4 : Int32) w) mkX2_tellResult tw1651 rfl rfl rfl rfl rfl rfl (fun _ w1 => ?_)
  refine xj_aloadn 1 dX2_shiftDouble_78 rfl rfl ?_
  refine xj_iload 0 dX2_shiftDouble_79 rfl ?_
  refine xj_iconst (v := 1) dX2_shiftDouble_81 ci_1 ?_
  refine xj_iand dX2_shiftDouble_82 ?_
  refine xj_ifeq (tgt := 90) dX2_shiftDouble_83 rfl ?_ ?_
  · refine xj_iconst (v := 0) dX2_shiftDouble_90 ci_0 ?_
    refine xj_sub (lv2 := [(2, .int a2), (6, .int a6)]) [2, 3] rfl ?_
    exact tX2_shiftDouble_j91 _ _ _ _
  · refine xj_iconst (v := 1) dX2_shiftDouble_86 ci_1 ?_
    refine xj_goto (tgt := 91) dX2_shiftDouble_87 rfl ?_
    refine xj_sub (lv2 := [(2, .int a2), (6, .int a6)]) [2, 3] rfl ?_
    exact tX2_shiftDouble_j91 _ _ _ _
set_option maxRecDepth 20000 in
def sX2_shiftDouble_j46 (a2 : Int32) (a4 : Int32) (a5 : Int32) (b0 : Int32) (w : xW) : Option (Int32 × xW) :=
  (if a5 = 0 then sX2_shiftDouble_j69 a2 b0 (xushr a2 (a4 - (1 : Int32))) w else sX2_shiftDouble_j69 a2 b0 (xushr a2 ((32 : Int32) - a4)) w)
set_option maxRecDepth 20000 in
theorem tX2_shiftDouble_j46 (a2 : Int32) (a4 : Int32) (a5 : Int32) (b0 : Int32) (w : xW) : xJ ιI mX2_shiftDouble lC (0, 0) 46 [(0, .ref 9), (2, .int a2), (4, .int a4), (5, .int a5)] [.int b0] w (sX2_shiftDouble_j46 a2 a4 a5 b0 w) := by
  unfold sX2_shiftDouble_j46
  refine xj_istore (lv2 := [(6, .int b0), (0, .ref 9), (2, .int a2), (4, .int a4), (5, .int a5)]) dX2_shiftDouble_46 (Nat.le_of_ble_eq_true rfl) rfl ?_
  refine xj_iload 4 dX2_shiftDouble_48 rfl ?_
  refine xj_ifeq (tgt := 63) dX2_shiftDouble_50 rfl ?_ ?_
  · refine xj_iloadn 2 dX2_shiftDouble_63 rfl rfl ?_
    refine xj_iload 3 dX2_shiftDouble_64 rfl ?_
    refine xj_iconst (v := 1) dX2_shiftDouble_66 ci_1 ?_
    refine xj_isub dX2_shiftDouble_67 ?_
    refine xj_iushr dX2_shiftDouble_68 ?_
    refine xj_sub (lv2 := [(0, .ref 9), (2, .int a2), (6, .int b0)]) [1, 2, 0] rfl ?_
    exact tX2_shiftDouble_j69 _ _ _ _
  · refine xj_iloadn 2 dX2_shiftDouble_53 rfl rfl ?_
    refine xj_bipush (v := 32) dX2_shiftDouble_54 cb_32 ?_
    refine xj_iload 3 dX2_shiftDouble_56 rfl ?_
    refine xj_isub dX2_shiftDouble_58 ?_
    refine xj_iushr dX2_shiftDouble_59 ?_
    refine xj_goto (tgt := 69) dX2_shiftDouble_60 rfl ?_
    refine xj_sub (lv2 := [(0, .ref 9), (2, .int a2), (6, .int b0)]) [1, 2, 0] rfl ?_
    exact tX2_shiftDouble_j69 _ _ _ _
set_option maxRecDepth 20000 in
def sX2_shiftDouble_j12 (a2 : Int32) (a3 : Int32) (a4 : Int32) (b0 : Int32) (w : xW) : Option (Int32 × xW) :=
  (if b0 = 0 then sX2_shiftDouble_j46 a2 a4 b0 ((xushr a2 a4) ||| (a3 <<< (((32 : Int32) - a4) &&& 31))) w else sX2_shiftDouble_j46 a2 a4 b0 ((a2 <<< (a4 &&& 31)) ||| (xushr a3 ((32 : Int32) - a4))) w)
set_option maxRecDepth 20000 in
theorem tX2_shiftDouble_j12 (a2 : Int32) (a3 : Int32) (a4 : Int32) (b0 : Int32) (w : xW) : xJ ιI mX2_shiftDouble lC (0, 0) 12 [(0, .ref 9), (2, .int a2), (3, .int a3), (4, .int a4)] [.int b0] w (sX2_shiftDouble_j12 a2 a3 a4 b0 w) := by
  unfold sX2_shiftDouble_j12
  refine xj_istore (lv2 := [(5, .int b0), (0, .ref 9), (2, .int a2), (3, .int a3), (4, .int a4)]) dX2_shiftDouble_12 (Nat.le_of_ble_eq_true rfl) rfl ?_
  refine xj_iload 0 dX2_shiftDouble_14 rfl ?_
  refine xj_ifeq (tgt := 34) dX2_shiftDouble_16 rfl ?_ ?_
  · refine xj_iloadn 2 dX2_shiftDouble_34 rfl rfl ?_
    refine xj_iload 4 dX2_shiftDouble_35 rfl ?_
    refine xj_iushr dX2_shiftDouble_37 ?_
    refine xj_iloadn 3 dX2_shiftDouble_38 rfl rfl ?_
    refine xj_bipush (v := 32) dX2_shiftDouble_39 cb_32 ?_
    refine xj_iload 4 dX2_shiftDouble_41 rfl ?_
    refine xj_isub dX2_shiftDouble_43 ?_
    refine xj_ishl dX2_shiftDouble_44 ?_
    refine xj_ior dX2_shiftDouble_45 ?_
    refine xj_sub (lv2 := [(0, .ref 9), (2, .int a2), (4, .int a4), (5, .int b0)]) [1, 2, 4, 0] rfl ?_
    exact tX2_shiftDouble_j46 _ _ _ _ _
  · refine xj_iloadn 2 dX2_shiftDouble_19 rfl rfl ?_
    refine xj_iload 4 dX2_shiftDouble_20 rfl ?_
    refine xj_ishl dX2_shiftDouble_22 ?_
    refine xj_iloadn 3 dX2_shiftDouble_23 rfl rfl ?_
    refine xj_bipush (v := 32) dX2_shiftDouble_24 cb_32 ?_
    refine xj_iload 4 dX2_shiftDouble_26 rfl ?_
    refine xj_isub dX2_shiftDouble_28 ?_
    refine xj_iushr dX2_shiftDouble_29 ?_
    refine xj_ior dX2_shiftDouble_30 ?_
    refine xj_goto (tgt := 46) dX2_shiftDouble_31 rfl ?_
    refine xj_sub (lv2 := [(0, .ref 9), (2, .int a2), (4, .int a4), (5, .int b0)]) [1, 2, 4, 0] rfl ?_
    exact tX2_shiftDouble_j46 _ _ _ _ _
set_option maxRecDepth 20000 in
def sX2_shiftDouble (p1 : Int32) (p2 : Int32) (p3 : Int32) (p4 : Int32) (w : xW) : Option (Int32 × xW) :=
  (if xin p1 54 ∧ xin (21 : Int32) 54 then (if p1 = (21 : Int32) then sX2_shiftDouble_j12 p2 p3 p4 (1 : Int32) w else sX2_shiftDouble_j12 p2 p3 p4 (0 : Int32) w) else none)
set_option maxRecDepth 20000 in
theorem tX2_shiftDouble (p1 : Int32) (p2 : Int32) (p3 : Int32) (p4 : Int32) (w : xW) : xJ ιI mX2_shiftDouble lC (0, 0) 0 [(0, .ref 9), (1, .ref (2000 + p1.toNatClampNeg)), (2, .int p2), (3, .int p3), (4, .int p4)] [] w (sX2_shiftDouble p1 p2 p3 p4 w) := by
  unfold sX2_shiftDouble
  refine xj_aloadn 1 dX2_shiftDouble_0 rfl rfl ?_
  refine xj_gse (n := 21) 21 dX2_shiftDouble_1 (Nat.le_of_ble_eq_true rfl) rfl tw1743 ?_
  refine xj_guard (fun hq => ?_)
  refine xj_ane hq.1 hq.2 (tgt := 11) dX2_shiftDouble_4 rfl ?_ ?_
  · refine xj_iconst (v := 1) dX2_shiftDouble_7 ci_1 ?_
    refine xj_goto (tgt := 12) dX2_shiftDouble_8 rfl ?_
    refine xj_sub (lv2 := [(0, .ref 9), (2, .int p2), (3, .int p3), (4, .int p4)]) [0, 2, 3, 4] rfl ?_
    exact tX2_shiftDouble_j12 _ _ _ _ _
  · refine xj_iconst (v := 0) dX2_shiftDouble_11 ci_0 ?_
    refine xj_sub (lv2 := [(0, .ref 9), (2, .int p2), (3, .int p3), (4, .int p4)]) [0, 2, 3, 4] rfl ?_
    exact tX2_shiftDouble_j12 _ _ _ _ _
theorem kX2_shiftDouble (p1 : Int32) (p2 : Int32) (p3 : Int32) (p4 : Int32) (w : xW) : xMet jI mX2_shiftDouble lC (0, 0) [.ref 9, .ref (2000 + p1.toNatClampNeg), .int p2, .int p3, .int p4] w (sX2_shiftDouble p1 p2 p3 p4 w) := xj_met lC_ok (by decide) (Nat.le_of_ble_eq_true rfl) (Nat.zero_le _) (Nat.zero_le _) (tX2_shiftDouble p1 p2 p3 p4 w)
