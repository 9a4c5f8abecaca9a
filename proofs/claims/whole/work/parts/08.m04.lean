/-! the reference, method by method: 4 -/
set_option maxRecDepth 20000 in
def sX12_holds_j162 (a2 : Int32) (b0 : Int32) (w : xW) : Option (Int32 × xW) :=
  (if b0 = a2 then some ((1 : Int32), w) else some ((0 : Int32), w))
set_option maxRecDepth 20000 in
theorem tX12_holds_j162 (a2 : Int32) (b0 : Int32) (w : xW) : xJ ιI mX12_holds lM (0, 0) 162 [(2, .int a2)] [.int b0] w (sX12_holds_j162 a2 b0 w) := by
  unfold sX12_holds_j162
  refine xj_iloadn 0 dX12_holds_162 rfl rfl ?_
  refine xj_ine (tgt := 170) dX12_holds_163 rfl ?_ ?_
  · refine xj_iconst (v := 1) dX12_holds_166 ci_1 ?_
    refine xj_goto (tgt := 171) dX12_holds_167 rfl ?_
    exact xj_rz dX12_holds_171 rfl (Or.inr rfl)
  · refine xj_iconst (v := 0) dX12_holds_170 ci_0 ?_
    exact xj_rz dX12_holds_171 rfl (Or.inl rfl)
set_option maxRecDepth 20000 in
def sX12_holds_j151 (a1 : Int32) (a2 : Int32) (w : xW) : Option (Int32 × xW) :=
  (if (a1 &&& (1 : Int32)) = 0 then sX12_holds_j162 a2 (1 : Int32) w else sX12_holds_j162 a2 (0 : Int32) w)
set_option maxRecDepth 20000 in
theorem tX12_holds_j151 (a1 : Int32) (a2 : Int32) (w : xW) : xJ ιI mX12_holds lM (0, 0) 151 [(1, .int a1), (2, .int a2)] [] w (sX12_holds_j151 a1 a2 w) := by
  unfold sX12_holds_j151
  refine xj_iloadn 0 dX12_holds_151 rfl rfl ?_
  refine xj_iconst (v := 1) dX12_holds_152 ci_1 ?_
  refine xj_iand dX12_holds_153 ?_
  refine xj_ifne (tgt := 161) dX12_holds_154 rfl ?_ ?_
  · refine xj_iconst (v := 1) dX12_holds_157 ci_1 ?_
    refine xj_goto (tgt := 162) dX12_holds_158 rfl ?_
    refine xj_sub (lv2 := [(2, .int a2)]) [1] rfl ?_
    exact tX12_holds_j162 _ _ _
  · refine xj_iconst (v := 0) dX12_holds_161 ci_0 ?_
    refine xj_sub (lv2 := [(2, .int a2)]) [1] rfl ?_
    exact tX12_holds_j162 _ _ _
set_option maxRecDepth 20000 in
def sX12_holds_j150 (a1 : Int32) (b0 : Int32) (w : xW) : Option (Int32 × xW) :=
  sX12_holds_j151 a1 b0 w
set_option maxRecDepth 20000 in
theorem tX12_holds_j150 (a1 : Int32) (b0 : Int32) (w : xW) : xJ ιI mX12_holds lM (0, 0) 150 [(1, .int a1)] [.int b0] w (sX12_holds_j150 a1 b0 w) := by
  unfold sX12_holds_j150
  refine xj_istoren (lv2 := [(2, .int b0), (1, .int a1)]) dX12_holds_150 rfl (Nat.le_of_ble_eq_true rfl) rfl ?_
  refine xj_sub (lv2 := [(1, .int a1), (2, .int b0)]) [1, 0] rfl ?_
  exact tX12_holds_j151 _ _ _
set_option maxRecDepth 20000 in
def sX12_holds_j145 (a1 : Int32) (w : xW) : Option (Int32 × xW) :=
  sX12_holds_j150 a1 (1 : Int32) w
set_option maxRecDepth 20000 in
theorem tX12_holds_j145 (a1 : Int32) (w : xW) : xJ ιI mX12_holds lM (0, 0) 145 [(1, .int a1)] [] w (sX12_holds_j145 a1 w) := by
  unfold sX12_holds_j145
  refine xj_iconst (v := 1) dX12_holds_145 ci_1 ?_
  refine xj_goto (tgt := 150) dX12_holds_146 rfl ?_
  exact tX12_holds_j150 _ _ _
set_option maxRecDepth 20000 in
def sX12_holds_j87 (a1 : Int32) (b0 : Int32) (w : xW) : Option (Int32 × xW) :=
  sX12_holds_j151 a1 b0 w
set_option maxRecDepth 20000 in
theorem tX12_holds_j87 (a1 : Int32) (b0 : Int32) (w : xW) : xJ ιI mX12_holds lM (0, 0) 87 [(1, .int a1)] [.int b0] w (sX12_holds_j87 a1 b0 w) := by
  unfold sX12_holds_j87
  refine xj_istoren (lv2 := [(2, .int b0), (1, .int a1)]) dX12_holds_87 rfl (Nat.le_of_ble_eq_true rfl) rfl ?_
  refine xj_goto (tgt := 151) dX12_holds_88 rfl ?_
  refine xj_sub (lv2 := [(1, .int a1), (2, .int b0)]) [1, 0] rfl ?_
  exact tX12_holds_j151 _ _ _
set_option maxRecDepth 20000 in
def sX12_holds_j82 (a1 : Int32) (w : xW) : Option (Int32 × xW) :=
  sX12_holds_j87 a1 (1 : Int32) w
set_option maxRecDepth 20000 in
theorem tX12_holds_j82 (a1 : Int32) (w : xW) : xJ ιI mX12_holds lM (0, 0) 82 [(1, .int a1)] [] w (sX12_holds_j82 a1 w) := by
  unfold sX12_holds_j82
  refine xj_iconst (v := 1) dX12_holds_82 ci_1 ?_
  refine xj_goto (tgt := 87) dX12_holds_83 rfl ?_
  exact tX12_holds_j87 _ _ _
set_option maxRecDepth 20000 in
def sX12_holds_j123 (a1 : Int32) (b0 : Int32) (w : xW) : Option (Int32 × xW) :=
  sX12_holds_j151 a1 b0 w
set_option maxRecDepth 20000 in
theorem tX12_holds_j123 (a1 : Int32) (b0 : Int32) (w : xW) : xJ ιI mX12_holds lM (0, 0) 123 [(1, .int a1)] [.int b0] w (sX12_holds_j123 a1 b0 w) := by
  unfold sX12_holds_j123
  refine xj_istoren (lv2 := [(2, .int b0), (1, .int a1)]) dX12_holds_123 rfl (Nat.le_of_ble_eq_true rfl) rfl ?_
  refine xj_goto (tgt := 151) dX12_holds_124 rfl ?_
  refine xj_sub (lv2 := [(1, .int a1), (2, .int b0)]) [1, 0] rfl ?_
  exact tX12_holds_j151 _ _ _
set_option maxRecDepth 20000 in
def sX12_holds (p1 : Int32) (w : xW) : Option (Int32 × xW) :=
  xsw (p1 >>> ((1 : Int32) &&& 31)) (0) [sX12_holds_j151 p1 (w.1 0 40) w, sX12_holds_j151 p1 (w.1 0 36) w, sX12_holds_j151 p1 (w.1 0 38) w, (if (w.1 0 36) = 0 then (if (w.1 0 38) = 0 then sX12_holds_j87 p1 (0 : Int32) w else sX12_holds_j82 p1 w) else sX12_holds_j82 p1 w), sX12_holds_j151 p1 (w.1 0 39) w, sX12_holds_j151 p1 (w.1 0 37) w, (if (w.1 0 39) = (w.1 0 40) then sX12_holds_j123 p1 (0 : Int32) w else sX12_holds_j123 p1 (1 : Int32) w)] ((if (w.1 0 38) = 0 then (if (w.1 0 39) = (w.1 0 40) then sX12_holds_j150 p1 (0 : Int32) w else sX12_holds_j145 p1 w) else sX12_holds_j145 p1 w))
set_option maxRecDepth 20000 in
theorem tX12_holds (p1 : Int32) (w : xW) : xJ ιI mX12_holds lM (0, 0) 0 [(0, .ref 0), (1, .int p1)] [] w (sX12_holds p1 w) := by
  unfold sX12_holds
  refine xj_iloadn 1 dX12_holds_0 rfl rfl ?_
  refine xj_iconst (v := 1) dX12_holds_1 ci_1 ?_
  refine xj_ishr dX12_holds_2 ?_
  refine xj_tsw (tgtd := 127) [44, 52, 60, 68, 91, 99, 107] dX12_holds_3 rfl rfl rfl rfl ?_ ⟨?_, ?_, ?_, ?_, ?_, ?_, ?_, trivial⟩
  · refine xj_aloadn 0 dX12_holds_127 rfl rfl ?_
    refine gfX12_307 (v := (w.1 0 38)) dX12_holds_128 rfl rfl ?_
    refine xj_ifne (tgt := 145) dX12_holds_131 rfl ?_ ?_
    · refine xj_aloadn 0 dX12_holds_134 rfl rfl ?_
      refine gfX12_314 (v := (w.1 0 39)) dX12_holds_135 rfl rfl ?_
      refine xj_aloadn 0 dX12_holds_138 rfl rfl ?_
      refine gfX12_323 (v := (w.1 0 40)) dX12_holds_139 rfl rfl ?_
      refine xj_ieq (tgt := 149) dX12_holds_142 rfl ?_ ?_
      · refine xj_iconst (v := 0) dX12_holds_149 ci_0 ?_
        refine xj_sub (lv2 := [(1, .int p1)]) [1] rfl ?_
        exact tX12_holds_j150 _ _ _
      · refine xj_sub (lv2 := [(1, .int p1)]) [1] rfl ?_
        exact tX12_holds_j145 _ _
    · refine xj_sub (lv2 := [(1, .int p1)]) [1] rfl ?_
      exact tX12_holds_j145 _ _
  · refine xj_aloadn 0 dX12_holds_44 rfl rfl ?_
    refine gfX12_323 (v := (w.1 0 40)) dX12_holds_45 rfl rfl ?_
    refine xj_istoren (lv2 := [(2, .int (w.1 0 40)), (0, .ref 0), (1, .int p1)]) dX12_holds_48 rfl (Nat.le_of_ble_eq_true rfl) rfl ?_
    refine xj_goto (tgt := 151) dX12_holds_49 rfl ?_
    refine xj_sub (lv2 := [(1, .int p1), (2, .int (w.1 0 40))]) [2, 0] rfl ?_
    exact tX12_holds_j151 _ _ _
  · refine xj_aloadn 0 dX12_holds_52 rfl rfl ?_
    refine gfX12_320 (v := (w.1 0 36)) dX12_holds_53 rfl rfl ?_
    refine xj_istoren (lv2 := [(2, .int (w.1 0 36)), (0, .ref 0), (1, .int p1)]) dX12_holds_56 rfl (Nat.le_of_ble_eq_true rfl) rfl ?_
    refine xj_goto (tgt := 151) dX12_holds_57 rfl ?_
    refine xj_sub (lv2 := [(1, .int p1), (2, .int (w.1 0 36))]) [2, 0] rfl ?_
    exact tX12_holds_j151 _ _ _
  · refine xj_aloadn 0 dX12_holds_60 rfl rfl ?_
    refine gfX12_307 (v := (w.1 0 38)) dX12_holds_61 rfl rfl ?_
    refine xj_istoren (lv2 := [(2, .int (w.1 0 38)), (0, .ref 0), (1, .int p1)]) dX12_holds_64 rfl (Nat.le_of_ble_eq_true rfl) rfl ?_
    refine xj_goto (tgt := 151) dX12_holds_65 rfl ?_
    refine xj_sub (lv2 := [(1, .int p1), (2, .int (w.1 0 38))]) [2, 0] rfl ?_
    exact tX12_holds_j151 _ _ _
  · refine xj_aloadn 0 dX12_holds_68 rfl rfl ?_
    refine gfX12_320 (v := (w.1 0 36)) dX12_holds_69 rfl rfl ?_
    refine xj_ifne (tgt := 82) dX12_holds_72 rfl ?_ ?_
    · refine xj_aloadn 0 dX12_holds_75 rfl rfl ?_
      refine gfX12_307 (v := (w.1 0 38)) dX12_holds_76 rfl rfl ?_
      refine xj_ifeq (tgt := 86) dX12_holds_79 rfl ?_ ?_
      · refine xj_iconst (v := 0) dX12_holds_86 ci_0 ?_
        refine xj_sub (lv2 := [(1, .int p1)]) [1] rfl ?_
        exact tX12_holds_j87 _ _ _
      · refine xj_sub (lv2 := [(1, .int p1)]) [1] rfl ?_
        exact tX12_holds_j82 _ _
    · refine xj_sub (lv2 := [(1, .int p1)]) [1] rfl ?_
      exact tX12_holds_j82 _ _
  · refine xj_aloadn 0 dX12_holds_91 rfl rfl ?_
    refine gfX12_314 (v := (w.1 0 39)) dX12_holds_92 rfl rfl ?_
    refine xj_istoren (lv2 := [(2, .int (w.1 0 39)), (0, .ref 0), (1, .int p1)]) dX12_holds_95 rfl (Nat.le_of_ble_eq_true rfl) rfl ?_
    refine xj_goto (tgt := 151) dX12_holds_96 rfl ?_
    refine xj_sub (lv2 := [(1, .int p1), (2, .int (w.1 0 39))]) [2, 0] rfl ?_
    exact tX12_holds_j151 _ _ _
  · refine xj_aloadn 0 dX12_holds_99 rfl rfl ?_
    refine gfX12_317 (v := (w.1 0 37)) dX12_holds_100 rfl rfl ?_
    refine xj_istoren (lv2 := [(2, .int (w.1 0 37)), (0, .ref 0), (1, .int p1)]) dX12_holds_103 rfl (Nat.le_of_ble_eq_true rfl) rfl ?_
    refine xj_goto (tgt := 151) dX12_holds_104 rfl ?_
    refine xj_sub (lv2 := [(1, .int p1), (2, .int (w.1 0 37))]) [2, 0] rfl ?_
    exact tX12_holds_j151 _ _ _
  · refine xj_aloadn 0 dX12_holds_107 rfl rfl ?_
    refine gfX12_314 (v := (w.1 0 39)) dX12_holds_108 rfl rfl ?_
    refine xj_aloadn 0 dX12_holds_111 rfl rfl ?_
    refine gfX12_323 (v := (w.1 0 40)) dX12_holds_112 rfl rfl ?_
    refine xj_ieq (tgt := 122) dX12_holds_115 rfl ?_ ?_
    · refine xj_iconst (v := 0) dX12_holds_122 ci_0 ?_
      refine xj_sub (lv2 := [(1, .int p1)]) [1] rfl ?_
      exact tX12_holds_j123 _ _ _
    · refine xj_iconst (v := 1) dX12_holds_118 ci_1 ?_
      refine xj_goto (tgt := 123) dX12_holds_119 rfl ?_
      refine xj_sub (lv2 := [(1, .int p1)]) [1] rfl ?_
      exact tX12_holds_j123 _ _ _
theorem kX12_holds (p1 : Int32) (w : xW) : xMet jI mX12_holds lM (0, 0) [.ref 0, .int p1] w (sX12_holds p1 w) := xj_met lM_ok (by decide) (Nat.le_of_ble_eq_true rfl) (Nat.zero_le _) (Nat.zero_le _) (tX12_holds p1 w)
set_option maxRecDepth 20000 in
def sX12_firstOf (w : xW) : Option (Int32 × xW) :=
  (if (w.1 0 18) = (3 : Int32) then xbd (sX12_part (0 : Int32) (w.1 0 20) w) (fun x7 w8 => some (x7, w8)) else (if (w.1 0 18) = (2 : Int32) then xbd (sX12_part (w.1 0 23) (w.1 0 20) w) (fun x5 w6 => some (x5, w6)) else (if (w.1 0 18) = (6 : Int32) then xbd (sX12_part (w.1 0 24) (w.1 0 20) w) (fun x3 w4 => some (x3, w4)) else xbd (sX12_getE w) (fun x1 w2 => some (x1, w2)))))
set_option maxRecDepth 20000 in
theorem tX12_firstOf (w : xW) : xJ ιI mX12_firstOf lM (0, 0) 0 [(0, .ref 0)] [] w (sX12_firstOf w) := by
  unfold sX12_firstOf
  refine xj_aloadn 0 dX12_firstOf_0 rfl rfl ?_
  refine gfX12_73 (v := (w.1 0 18)) dX12_firstOf_1 rfl rfl ?_
  refine xj_iconst (v := 3) dX12_firstOf_4 ci_3 ?_
  refine xj_ine (tgt := 20) dX12_firstOf_5 rfl ?_ ?_
  · refine xj_aloadn 0 dX12_firstOf_8 rfl rfl ?_
    refine xj_iconst (v := 0) dX12_firstOf_9 ci_0 ?_
    refine xj_aloadn 0 dX12_firstOf_10 rfl rfl ?_
    refine gfX12_76 (v := (w.1 0 20)) dX12_firstOf_11 rfl rfl ?_
    refine xj_cVi (argv := [.int (0 : Int32), .int (w.1 0 20)]) (rest := []) dX12_firstOf_14 (kX12_part (0 : Int32) (w.1 0 20) w) mkX12_part tw2294 rfl rfl rfl rfl rfl rfl (fun x7 w8 => ?_)
    refine xj_goto (tgt := 71) dX12_firstOf_17 rfl ?_
    exact xj_ri dX12_firstOf_71 rfl
  · refine xj_aloadn 0 dX12_firstOf_20 rfl rfl ?_
    refine gfX12_73 (v := (w.1 0 18)) dX12_firstOf_21 rfl rfl ?_
    refine xj_iconst (v := 2) dX12_firstOf_24 ci_2 ?_
    refine xj_ine (tgt := 43) dX12_firstOf_25 rfl ?_ ?_
    · refine xj_aloadn 0 dX12_firstOf_28 rfl rfl ?_
      refine xj_aloadn 0 dX12_firstOf_29 rfl rfl ?_
      refine gfX12_85 (v := (w.1 0 23)) dX12_firstOf_30 rfl rfl ?_
      refine xj_aloadn 0 dX12_firstOf_33 rfl rfl ?_
      refine gfX12_76 (v := (w.1 0 20)) dX12_firstOf_34 rfl rfl ?_
      refine xj_cVi (argv := [.int (w.1 0 23), .int (w.1 0 20)]) (rest := []) dX12_firstOf_37 (kX12_part (w.1 0 23) (w.1 0 20) w) mkX12_part tw2294 rfl rfl rfl rfl rfl rfl (fun x5 w6 => ?_)
      refine xj_goto (tgt := 71) dX12_firstOf_40 rfl ?_
      exact xj_ri dX12_firstOf_71 rfl
    · refine xj_aloadn 0 dX12_firstOf_43 rfl rfl ?_
      refine gfX12_73 (v := (w.1 0 18)) dX12_firstOf_44 rfl rfl ?_
      refine xj_bipush (v := 6) dX12_firstOf_47 cb_6 ?_
      refine xj_ine (tgt := 67) dX12_firstOf_49 rfl ?_ ?_
      · refine xj_aloadn 0 dX12_firstOf_52 rfl rfl ?_
        refine xj_aloadn 0 dX12_firstOf_53 rfl rfl ?_
        refine gfX12_88 (v := (w.1 0 24)) dX12_firstOf_54 rfl rfl ?_
        refine xj_aloadn 0 dX12_firstOf_57 rfl rfl ?_
        refine gfX12_76 (v := (w.1 0 20)) dX12_firstOf_58 rfl rfl ?_
        refine xj_cVi (argv := [.int (w.1 0 24), .int (w.1 0 20)]) (rest := []) dX12_firstOf_61 (kX12_part (w.1 0 24) (w.1 0 20) w) mkX12_part tw2294 rfl rfl rfl rfl rfl rfl (fun x3 w4 => ?_)
        refine xj_goto (tgt := 71) dX12_firstOf_64 rfl ?_
        exact xj_ri dX12_firstOf_71 rfl
      · refine xj_aloadn 0 dX12_firstOf_67 rfl rfl ?_
        refine xj_cVi (argv := []) (rest := []) dX12_firstOf_68 (kX12_getE w) mkX12_getE tw2298 rfl rfl rfl rfl rfl rfl (fun x1 w2 => ?_)
        exact xj_ri dX12_firstOf_71 rfl
theorem kX12_firstOf (w : xW) : xMet jI mX12_firstOf lM (0, 0) [.ref 0] w (sX12_firstOf w) := xj_met lM_ok (by decide) (Nat.le_of_ble_eq_true rfl) (Nat.zero_le _) (Nat.zero_le _) (tX12_firstOf w)
set_option maxRecDepth 20000 in
def sX12_secondOf (w : xW) : Option (Int32 × xW) :=
  (if (w.1 0 18) = (3 : Int32) then some ((w.1 0 29), w) else (if (w.1 0 18) = (4 : Int32) then some ((w.1 0 29), w) else (if (w.1 0 18) = (2 : Int32) then xbd (sX12_getE w) (fun x3 w4 => some (x3, w4)) else xbd (sX12_part (w.1 0 23) (w.1 0 20) w) (fun x1 w2 => some (x1, w2)))))
set_option maxRecDepth 20000 in
theorem tX12_secondOf (w : xW) : xJ ιI mX12_secondOf lM (0, 0) 0 [(0, .ref 0)] [] w (sX12_secondOf w) := by
  unfold sX12_secondOf
  refine xj_aloadn 0 dX12_secondOf_0 rfl rfl ?_
  refine gfX12_73 (v := (w.1 0 18)) dX12_secondOf_1 rfl rfl ?_
  refine xj_iconst (v := 3) dX12_secondOf_4 ci_3 ?_
  refine xj_ieq (tgt := 16) dX12_secondOf_5 rfl ?_ ?_
  · refine xj_aloadn 0 dX12_secondOf_16 rfl rfl ?_
    refine gfX12_109 (v := (w.1 0 29)) dX12_secondOf_17 rfl rfl ?_
    refine xj_goto (tgt := 50) dX12_secondOf_20 rfl ?_
    exact xj_ri dX12_secondOf_50 rfl
  · refine xj_aloadn 0 dX12_secondOf_8 rfl rfl ?_
    refine gfX12_73 (v := (w.1 0 18)) dX12_secondOf_9 rfl rfl ?_
    refine xj_iconst (v := 4) dX12_secondOf_12 ci_4 ?_
    refine xj_ine (tgt := 23) dX12_secondOf_13 rfl ?_ ?_
    · refine xj_aloadn 0 dX12_secondOf_16 rfl rfl ?_
      refine gfX12_109 (v := (w.1 0 29)) dX12_secondOf_17 rfl rfl ?_
      refine xj_goto (tgt := 50) dX12_secondOf_20 rfl ?_
      exact xj_ri dX12_secondOf_50 rfl
    · refine xj_aloadn 0 dX12_secondOf_23 rfl rfl ?_
      refine gfX12_73 (v := (w.1 0 18)) dX12_secondOf_24 rfl rfl ?_
      refine xj_iconst (v := 2) dX12_secondOf_27 ci_2 ?_
      refine xj_ine (tgt := 38) dX12_secondOf_28 rfl ?_ ?_
      · refine xj_aloadn 0 dX12_secondOf_31 rfl rfl ?_
        refine xj_cVi (argv := []) (rest := []) dX12_secondOf_32 (kX12_getE w) mkX12_getE tw2298 rfl rfl rfl rfl rfl rfl (fun x3 w4 => ?_)
        refine xj_goto (tgt := 50) dX12_secondOf_35 rfl ?_
        exact xj_ri dX12_secondOf_50 rfl
      · refine xj_aloadn 0 dX12_secondOf_38 rfl rfl ?_
        refine xj_aloadn 0 dX12_secondOf_39 rfl rfl ?_
        refine gfX12_85 (v := (w.1 0 23)) dX12_secondOf_40 rfl rfl ?_
        refine xj_aloadn 0 dX12_secondOf_43 rfl rfl ?_
        refine gfX12_76 (v := (w.1 0 20)) dX12_secondOf_44 rfl rfl ?_
        refine xj_cVi (argv := [.int (w.1 0 23), .int (w.1 0 20)]) (rest := []) dX12_secondOf_47 (kX12_part (w.1 0 23) (w.1 0 20) w) mkX12_part tw2294 rfl rfl rfl rfl rfl rfl (fun x1 w2 => ?_)
        exact xj_ri dX12_secondOf_50 rfl
theorem kX12_secondOf (w : xW) : xMet jI mX12_secondOf lM (0, 0) [.ref 0] w (sX12_secondOf w) := xj_met lM_ok (by decide) (Nat.le_of_ble_eq_true rfl) (Nat.zero_le _) (Nat.zero_le _) (tX12_secondOf w)
set_option maxRecDepth 20000 in
def sX12_setFirst (p1 : Int32) (w : xW) : Option (Unit × xW) :=
  (if (w.1 0 18) = (3 : Int32) then xbd (sX12_setRegister (0 : Int32) (w.1 0 20) p1 w) (fun _ w4 => some ((), w4)) else (if (w.1 0 18) = (2 : Int32) then xbd (sX12_setRegister (w.1 0 23) (w.1 0 20) p1 w) (fun _ w3 => some ((), w3)) else (if (w.1 0 18) = (6 : Int32) then xbd (sX12_setRegister (w.1 0 24) (w.1 0 20) p1 w) (fun _ w2 => some ((), w2)) else xbd (sX12_setE p1 w) (fun _ w1 => some ((), w1)))))
set_option maxRecDepth 20000 in
theorem tX12_setFirst (p1 : Int32) (w : xW) : xJ ιV mX12_setFirst lM (0, 0) 0 [(0, .ref 0), (1, .int p1)] [] w (sX12_setFirst p1 w) := by
  unfold sX12_setFirst
  refine xj_aloadn 0 dX12_setFirst_0 rfl rfl ?_
  refine gfX12_73 (v := (w.1 0 18)) dX12_setFirst_1 rfl rfl ?_
  refine xj_iconst (v := 3) dX12_setFirst_4 ci_3 ?_
  refine xj_ine (tgt := 21) dX12_setFirst_5 rfl ?_ ?_
  · refine xj_aloadn 0 dX12_setFirst_8 rfl rfl ?_
    refine xj_iconst (v := 0) dX12_setFirst_9 ci_0 ?_
    refine xj_aloadn 0 dX12_setFirst_10 rfl rfl ?_
    refine gfX12_76 (v := (w.1 0 20)) dX12_setFirst_11 rfl rfl ?_
    refine xj_iloadn 1 dX12_setFirst_14 rfl rfl ?_
    refine xj_cVv (argv := [.int (0 : Int32), .int (w.1 0 20), .int p1]) (rest := []) dX12_setFirst_15 (kX12_setRegister (0 : Int32) (w.1 0 20) p1 w) mkX12_setRegister tw2336 rfl rfl rfl rfl rfl rfl (fun _ w4 => ?_)
    refine xj_goto (tgt := 75) dX12_setFirst_18 rfl ?_
    exact xj_rv dX12_setFirst_75 rfl
  · refine xj_aloadn 0 dX12_setFirst_21 rfl rfl ?_
    refine gfX12_73 (v := (w.1 0 18)) dX12_setFirst_22 rfl rfl ?_
    refine xj_iconst (v := 2) dX12_setFirst_25 ci_2 ?_
    refine xj_ine (tgt := 45) dX12_setFirst_26 rfl ?_ ?_
    · refine xj_aloadn 0 dX12_setFirst_29 rfl rfl ?_
      refine xj_aloadn 0 dX12_setFirst_30 rfl rfl ?_
      refine gfX12_85 (v := (w.1 0 23)) dX12_setFirst_31 rfl rfl ?_
      refine xj_aloadn 0 dX12_setFirst_34 rfl rfl ?_
      refine gfX12_76 (v := (w.1 0 20)) dX12_setFirst_35 rfl rfl ?_
      refine xj_iloadn 1 dX12_setFirst_38 rfl rfl ?_
      refine xj_cVv (argv := [.int (w.1 0 23), .int (w.1 0 20), .int p1]) (rest := []) dX12_setFirst_39 (kX12_setRegister (w.1 0 23) (w.1 0 20) p1 w) mkX12_setRegister tw2336 rfl rfl rfl rfl rfl rfl (fun _ w3 => ?_)
      refine xj_goto (tgt := 75) dX12_setFirst_42 rfl ?_
      exact xj_rv dX12_setFirst_75 rfl
    · refine xj_aloadn 0 dX12_setFirst_45 rfl rfl ?_
      refine gfX12_73 (v := (w.1 0 18)) dX12_setFirst_46 rfl rfl ?_
      refine xj_bipush (v := 6) dX12_setFirst_49 cb_6 ?_
      refine xj_ine (tgt := 70) dX12_setFirst_51 rfl ?_ ?_
      · refine xj_aloadn 0 dX12_setFirst_54 rfl rfl ?_
        refine xj_aloadn 0 dX12_setFirst_55 rfl rfl ?_
        refine gfX12_88 (v := (w.1 0 24)) dX12_setFirst_56 rfl rfl ?_
        refine xj_aloadn 0 dX12_setFirst_59 rfl rfl ?_
        refine gfX12_76 (v := (w.1 0 20)) dX12_setFirst_60 rfl rfl ?_
        refine xj_iloadn 1 dX12_setFirst_63 rfl rfl ?_
        refine xj_cVv (argv := [.int (w.1 0 24), .int (w.1 0 20), .int p1]) (rest := []) dX12_setFirst_64 (kX12_setRegister (w.1 0 24) (w.1 0 20) p1 w) mkX12_setRegister tw2336 rfl rfl rfl rfl rfl rfl (fun _ w2 => ?_)
        refine xj_goto (tgt := 75) dX12_setFirst_67 rfl ?_
        exact xj_rv dX12_setFirst_75 rfl
      · refine xj_aloadn 0 dX12_setFirst_70 rfl rfl ?_
        refine xj_iloadn 1 dX12_setFirst_71 rfl rfl ?_
        refine xj_cVv (argv := [.int p1]) (rest := []) dX12_setFirst_72 (kX12_setE p1 w) mkX12_setE tw2342 rfl rfl rfl rfl rfl rfl (fun _ w1 => ?_)
        exact xj_rv dX12_setFirst_75 rfl
theorem kX12_setFirst (p1 : Int32) (w : xW) : xMet jV mX12_setFirst lM (0, 0) [.ref 0, .int p1] w (sX12_setFirst p1 w) := xj_met lM_ok (by decide) (Nat.le_of_ble_eq_true rfl) (Nat.zero_le _) (Nat.zero_le _) (tX12_setFirst p1 w)
set_option maxRecDepth 20000 in
def sX12_shifted_j301 (K16 : Int32 → Int32 → Int32 → Int32 → xW → Option (Int32 × xW)) (a2 : Int32) (a3 : Int32) (a4 : Int32) (a5 : Int32) (a6 : Int32) (b0 : Int32) (w : xW) : Option (Int32 × xW) :=
  (if b0 = 0 then (if (w.1 0 17) = (26 : Int32) then (if xz a6 then K16 a2 a3 a4 (a5 + (1 : Int32)) (xwi w 0 40 a6) else none) else (if (w.1 0 17) = (27 : Int32) then K16 a2 a3 a4 (a5 + (1 : Int32)) (xwi w 0 40 (0 : Int32)) else xbd (sX12_top a4 a3 w) (fun x1 w2 => xbd (sX12_top (a4 <<< ((1 : Int32) &&& 31)) a3 w2) (fun x3 w4 => (if x1 = x3 then K16 a2 a3 a4 (a5 + (1 : Int32)) (xwi w4 0 40 (0 : Int32)) else K16 a2 a3 a4 (a5 + (1 : Int32)) (xwi w4 0 40 (1 : Int32))))))) else xbd (sX12_top a4 a3 w) (fun x5 w6 => (if x5 = (w6.1 0 36) then K16 a2 a3 a4 (a5 + (1 : Int32)) (xwi w6 0 40 (0 : Int32)) else K16 a2 a3 a4 (a5 + (1 : Int32)) (xwi w6 0 40 (1 : Int32)))))
set_option maxRecDepth 20000 in
theorem tX12_shifted_j301 (K16 : Int32 → Int32 → Int32 → Int32 → xW → Option (Int32 × xW)) (hK16 : ∀ (a2 : Int32) (a3 : Int32) (a4 : Int32) (a5 : Int32) (w : xW), xJ ιI mX12_shifted lM (0, 0) 16 [(0, .ref 0), (2, .int a2), (3, .int a3), (4, .int a4), (5, .int a5)] [] w (K16 a2 a3 a4 a5 w)) (a2 : Int32) (a3 : Int32) (a4 : Int32) (a5 : Int32) (a6 : Int32) (b0 : Int32) (w : xW) : xJ ιI mX12_shifted lM (0, 0) 301 [(0, .ref 0), (2, .int a2), (3, .int a3), (4, .int a4), (5, .int a5), (6, .int a6)] [.int b0] w (sX12_shifted_j301 K16 a2 a3 a4 a5 a6 b0 w) := by
  unfold sX12_shifted_j301
  refine xj_istore (lv2 := [(9, .int b0), (0, .ref 0), (2, .int a2), (3, .int a3), (4, .int a4), (5, .int a5), (6, .int a6)]) dX12_shifted_301 (Nat.le_of_ble_eq_true rfl) rfl ?_
  refine xj_aloadn 1 dX12_shifted_303 rfl rfl ?_
  refine xj_iload 0 dX12_shifted_304 rfl ?_
  refine xj_ifeq (tgt := 330) dX12_shifted_306 rfl ?_ ?_
  · refine xj_aloadn 1 dX12_shifted_330 rfl rfl ?_
    refine gfX12_70 (v := (w.1 0 17)) dX12_shifted_331 rfl rfl ?_
    refine xj_bipush (v := 26) dX12_shifted_334 cb_26 ?_
    refine xj_ine (tgt := 344) dX12_shifted_336 rfl ?_ ?_
    · refine xj_iload 6 dX12_shifted_339 rfl ?_
      refine xj_goto (tgt := 379) dX12_shifted_341 rfl ?_
      refine xj_guard (fun hz => ?_)
      refine pfX12_323 dX12_shifted_379 rfl hz ?_
      refine xj_iinc (n := 5) (lv2 := [(5, .int (a5 + (1 : Int32))), (9, .int b0), (0, .ref 0), (2, .int a2), (3, .int a3), (4, .int a4), (6, .int a6)]) dX12_shifted_382 rfl ci_1 (Nat.le_of_ble_eq_true rfl) rfl ?_
      refine xj_goto (tgt := 16) dX12_shifted_385 rfl ?_
      refine xj_sub (lv2 := [(0, .ref 0), (2, .int a2), (3, .int a3), (4, .int a4), (5, .int (a5 + (1 : Int32)))]) [2, 3, 4, 5, 0] rfl ?_
      exact hK16 _ _ _ _ _
    · refine xj_aloadn 1 dX12_shifted_344 rfl rfl ?_
      refine gfX12_70 (v := (w.1 0 17)) dX12_shifted_345 rfl rfl ?_
      refine xj_bipush (v := 27) dX12_shifted_348 cb_27 ?_
      refine xj_ine (tgt := 357) dX12_shifted_350 rfl ?_ ?_
      · refine xj_iconst (v := 0) dX12_shifted_353 ci_0 ?_
        refine xj_goto (tgt := 379) dX12_shifted_354 rfl ?_
        refine pfX12_323 dX12_shifted_379 rfl (Or.inl rfl) ?_
        refine xj_iinc (n := 5) (lv2 := [(5, .int (a5 + (1 : Int32))), (9, .int b0), (0, .ref 0), (2, .int a2), (3, .int a3), (4, .int a4), (6, .int a6)]) dX12_shifted_382 rfl ci_1 (Nat.le_of_ble_eq_true rfl) rfl ?_
        refine xj_goto (tgt := 16) dX12_shifted_385 rfl ?_
        refine xj_sub (lv2 := [(0, .ref 0), (2, .int a2), (3, .int a3), (4, .int a4), (5, .int (a5 + (1 : Int32)))]) [2, 3, 4, 5, 0] rfl ?_
        exact hK16 _ _ _ _ _
      · refine xj_iload 4 dX12_shifted_357 rfl ?_
        refine xj_iloadn 3 dX12_shifted_359 rfl rfl ?_
        refine xj_cSi (argv := [.int a4, .int a3]) (rest := [.ref 0]) dX12_shifted_360 (kX12_top a4 a3 w) mkX12_top tw2321 rfl rfl rfl rfl (fun x1 w2 => ?_)
        refine xj_iload 4 dX12_shifted_363 rfl ?_
        refine xj_iconst (v := 1) dX12_shifted_365 ci_1 ?_
        refine xj_ishl dX12_shifted_366 ?_
        refine xj_iloadn 3 dX12_shifted_367 rfl rfl ?_
        refine xj_cSi (argv := [.int (a4 <<< ((1 : Int32) &&& 31)), .int a3]) (rest := [.int x1, .ref 0]) dX12_shifted_368 (kX12_top (a4 <<< ((1 : Int32) &&& 31)) a3 w2) mkX12_top tw2321 rfl rfl rfl rfl (fun x3 w4 => ?_)
        refine xj_ieq (tgt := 378) dX12_shifted_371 rfl ?_ ?_
        · refine xj_iconst (v := 0) dX12_shifted_378 ci_0 ?_
          refine pfX12_323 dX12_shifted_379 rfl (Or.inl rfl) ?_
          refine xj_iinc (n := 5) (lv2 := [(5, .int (a5 + (1 : Int32))), (9, .int b0), (0, .ref 0), (2, .int a2), (3, .int a3), (4, .int a4), (6, .int a6)]) dX12_shifted_382 rfl ci_1 (Nat.le_of_ble_eq_true rfl) rfl ?_
          refine xj_goto (tgt := 16) dX12_shifted_385 rfl ?_
          refine xj_sub (lv2 := [(0, .ref 0), (2, .int a2), (3, .int a3), (4, .int a4), (5, .int (a5 + (1 : Int32)))]) [2, 3, 4, 5, 0] rfl ?_
          exact hK16 _ _ _ _ _
        · refine xj_iconst (v := 1) dX12_shifted_374 ci_1 ?_
          refine xj_goto (tgt := 379) dX12_shifted_375 rfl ?_
          refine pfX12_323 dX12_shifted_379 rfl (Or.inr rfl) ?_
          refine xj_iinc (n := 5) (lv2 := [(5, .int (a5 + (1 : Int32))), (9, .int b0), (0, .ref 0), (2, .int a2), (3, .int a3), (4, .int a4), (6, .int a6)]) dX12_shifted_382 rfl ci_1 (Nat.le_of_ble_eq_true rfl) rfl ?_
          refine xj_goto (tgt := 16) dX12_shifted_385 rfl ?_
          refine xj_sub (lv2 := [(0, .ref 0), (2, .int a2), (3, .int a3), (4, .int a4), (5, .int (a5 + (1 : Int32)))]) [2, 3, 4, 5, 0] rfl ?_
          exact hK16 _ _ _ _ _
  · refine xj_iload 4 dX12_shifted_309 rfl ?_
    refine xj_iloadn 3 dX12_shifted_311 rfl rfl ?_
    refine xj_cSi (argv := [.int a4, .int a3]) (rest := [.ref 0]) dX12_shifted_312 (kX12_top a4 a3 w) mkX12_top tw2321 rfl rfl rfl rfl (fun x5 w6 => ?_)
    refine xj_aloadn 1 dX12_shifted_315 rfl rfl ?_
    refine gfX12_320 (v := (w6.1 0 36)) dX12_shifted_316 rfl rfl ?_
    refine xj_ieq (tgt := 326) dX12_shifted_319 rfl ?_ ?_
    · refine xj_iconst (v := 0) dX12_shifted_326 ci_0 ?_
      refine xj_goto (tgt := 379) dX12_shifted_327 rfl ?_
      refine pfX12_323 dX12_shifted_379 rfl (Or.inl rfl) ?_
      refine xj_iinc (n := 5) (lv2 := [(5, .int (a5 + (1 : Int32))), (9, .int b0), (0, .ref 0), (2, .int a2), (3, .int a3), (4, .int a4), (6, .int a6)]) dX12_shifted_382 rfl ci_1 (Nat.le_of_ble_eq_true rfl) rfl ?_
      refine xj_goto (tgt := 16) dX12_shifted_385 rfl ?_
      refine xj_sub (lv2 := [(0, .ref 0), (2, .int a2), (3, .int a3), (4, .int a4), (5, .int (a5 + (1 : Int32)))]) [2, 3, 4, 5, 0] rfl ?_
      exact hK16 _ _ _ _ _
    · refine xj_iconst (v := 1) dX12_shifted_322 ci_1 ?_
      refine xj_goto (tgt := 379) dX12_shifted_323 rfl ?_
      refine pfX12_323 dX12_shifted_379 rfl (Or.inr rfl) ?_
      refine xj_iinc (n := 5) (lv2 := [(5, .int (a5 + (1 : Int32))), (9, .int b0), (0, .ref 0), (2, .int a2), (3, .int a3), (4, .int a4), (6, .int a6)]) dX12_shifted_382 rfl ci_1 (Nat.le_of_ble_eq_true rfl) rfl ?_
      refine xj_goto (tgt := 16) dX12_shifted_385 rfl ?_
      refine xj_sub (lv2 := [(0, .ref 0), (2, .int a2), (3, .int a3), (4, .int a4), (5, .int (a5 + (1 : Int32)))]) [2, 3, 4, 5, 0] rfl ?_
      exact hK16 _ _ _ _ _
set_option maxRecDepth 20000 in
def sX12_shifted_j296 (K16 : Int32 → Int32 → Int32 → Int32 → xW → Option (Int32 × xW)) (a2 : Int32) (a3 : Int32) (a4 : Int32) (a5 : Int32) (a6 : Int32) (w : xW) : Option (Int32 × xW) :=
  sX12_shifted_j301 K16 a2 a3 a4 a5 a6 (1 : Int32) w
set_option maxRecDepth 20000 in
theorem tX12_shifted_j296 (K16 : Int32 → Int32 → Int32 → Int32 → xW → Option (Int32 × xW)) (hK16 : ∀ (a2 : Int32) (a3 : Int32) (a4 : Int32) (a5 : Int32) (w : xW), xJ ιI mX12_shifted lM (0, 0) 16 [(0, .ref 0), (2, .int a2), (3, .int a3), (4, .int a4), (5, .int a5)] [] w (K16 a2 a3 a4 a5 w)) (a2 : Int32) (a3 : Int32) (a4 : Int32) (a5 : Int32) (a6 : Int32) (w : xW) : xJ ιI mX12_shifted lM (0, 0) 296 [(0, .ref 0), (2, .int a2), (3, .int a3), (4, .int a4), (5, .int a5), (6, .int a6)] [] w (sX12_shifted_j296 K16 a2 a3 a4 a5 a6 w) := by
  unfold sX12_shifted_j296
  refine xj_iconst (v := 1) dX12_shifted_296 ci_1 ?_
  refine xj_goto (tgt := 301) dX12_shifted_297 rfl ?_
  exact tX12_shifted_j301 K16 hK16 _ _ _ _ _ _ _
set_option maxRecDepth 20000 in
def sX12_shifted_j260 (K16 : Int32 → Int32 → Int32 → Int32 → xW → Option (Int32 × xW)) (a2 : Int32) (a3 : Int32) (a4 : Int32) (a5 : Int32) (a6 : Int32) (w : xW) : Option (Int32 × xW) :=
  xbd (sX12_mask a3 w) (fun x1 w2 => (if (w2.1 0 17) = (21 : Int32) then sX12_shifted_j296 K16 a2 a3 (a4 &&& x1) a5 a6 w2 else (if (w2.1 0 17) = (23 : Int32) then sX12_shifted_j296 K16 a2 a3 (a4 &&& x1) a5 a6 w2 else (if (w2.1 0 17) = (25 : Int32) then sX12_shifted_j296 K16 a2 a3 (a4 &&& x1) a5 a6 w2 else sX12_shifted_j301 K16 a2 a3 (a4 &&& x1) a5 a6 (0 : Int32) w2))))
set_option maxRecDepth 20000 in
theorem tX12_shifted_j260 (K16 : Int32 → Int32 → Int32 → Int32 → xW → Option (Int32 × xW)) (hK16 : ∀ (a2 : Int32) (a3 : Int32) (a4 : Int32) (a5 : Int32) (w : xW), xJ ιI mX12_shifted lM (0, 0) 16 [(0, .ref 0), (2, .int a2), (3, .int a3), (4, .int a4), (5, .int a5)] [] w (K16 a2 a3 a4 a5 w)) (a2 : Int32) (a3 : Int32) (a4 : Int32) (a5 : Int32) (a6 : Int32) (w : xW) : xJ ιI mX12_shifted lM (0, 0) 260 [(0, .ref 0), (2, .int a2), (3, .int a3), (4, .int a4), (5, .int a5), (6, .int a6)] [] w (sX12_shifted_j260 K16 a2 a3 a4 a5 a6 w) := by
  unfold sX12_shifted_j260
  refine xj_iload 3 dX12_shifted_260 rfl ?_
  refine xj_iloadn 2 dX12_shifted_262 rfl rfl ?_
  refine xj_cSi (argv := [.int a3]) (rest := [.int a4]) dX12_shifted_263 (kX12_mask a3 w) mkX12_mask tw2318 rfl rfl rfl rfl (fun x1 w2 => ?_)
  refine xj_iand dX12_shifted_266 ?_
  refine xj_istore (lv2 := [(4, .int (a4 &&& x1)), (0, .ref 0), (2, .int a2), (3, .int a3), (5, .int a5), (6, .int a6)]) dX12_shifted_267 (Nat.le_of_ble_eq_true rfl) rfl ?_
  refine xj_aloadn 1 dX12_shifted_269 rfl rfl ?_
  refine gfX12_70 (v := (w2.1 0 17)) dX12_shifted_270 rfl rfl ?_
  refine xj_bipush (v := 21) dX12_shifted_273 cb_21 ?_
  refine xj_ieq (tgt := 296) dX12_shifted_275 rfl ?_ ?_
  · refine xj_sub (lv2 := [(0, .ref 0), (2, .int a2), (3, .int a3), (4, .int (a4 &&& x1)), (5, .int a5), (6, .int a6)]) [1, 2, 3, 0, 4, 5] rfl ?_
    exact tX12_shifted_j296 K16 hK16 _ _ _ _ _ _
  · refine xj_aloadn 1 dX12_shifted_278 rfl rfl ?_
    refine gfX12_70 (v := (w2.1 0 17)) dX12_shifted_279 rfl rfl ?_
    refine xj_bipush (v := 23) dX12_shifted_282 cb_23 ?_
    refine xj_ieq (tgt := 296) dX12_shifted_284 rfl ?_ ?_
    · refine xj_sub (lv2 := [(0, .ref 0), (2, .int a2), (3, .int a3), (4, .int (a4 &&& x1)), (5, .int a5), (6, .int a6)]) [1, 2, 3, 0, 4, 5] rfl ?_
      exact tX12_shifted_j296 K16 hK16 _ _ _ _ _ _
    · refine xj_aloadn 1 dX12_shifted_287 rfl rfl ?_
      refine gfX12_70 (v := (w2.1 0 17)) dX12_shifted_288 rfl rfl ?_
      refine xj_bipush (v := 25) dX12_shifted_291 cb_25 ?_
      refine xj_ine (tgt := 300) dX12_shifted_293 rfl ?_ ?_
      · refine xj_sub (lv2 := [(0, .ref 0), (2, .int a2), (3, .int a3), (4, .int (a4 &&& x1)), (5, .int a5), (6, .int a6)]) [1, 2, 3, 0, 4, 5] rfl ?_
        exact tX12_shifted_j296 K16 hK16 _ _ _ _ _ _
      · refine xj_iconst (v := 0) dX12_shifted_300 ci_0 ?_
        refine xj_sub (lv2 := [(0, .ref 0), (2, .int a2), (3, .int a3), (4, .int (a4 &&& x1)), (5, .int a5), (6, .int a6)]) [1, 2, 3, 0, 4, 5] rfl ?_
        exact tX12_shifted_j301 K16 hK16 _ _ _ _ _ _ _
set_option maxRecDepth 20000 in
def sX12_shifted_j251 (K16 : Int32 → Int32 → Int32 → Int32 → xW → Option (Int32 × xW)) (a2 : Int32) (a3 : Int32) (a5 : Int32) (a6 : Int32) (a7 : Int32) (b0 : Int32) (b1 : Int32) (w : xW) : Option (Int32 × xW) :=
  (if xz a7 then sX12_shifted_j260 K16 a2 a3 (b1 ||| b0) a5 a6 (xwi w 0 36 a7) else none)
set_option maxRecDepth 20000 in
theorem tX12_shifted_j251 (K16 : Int32 → Int32 → Int32 → Int32 → xW → Option (Int32 × xW)) (hK16 : ∀ (a2 : Int32) (a3 : Int32) (a4 : Int32) (a5 : Int32) (w : xW), xJ ιI mX12_shifted lM (0, 0) 16 [(0, .ref 0), (2, .int a2), (3, .int a3), (4, .int a4), (5, .int a5)] [] w (K16 a2 a3 a4 a5 w)) (a2 : Int32) (a3 : Int32) (a5 : Int32) (a6 : Int32) (a7 : Int32) (b0 : Int32) (b1 : Int32) (w : xW) : xJ ιI mX12_shifted lM (0, 0) 251 [(0, .ref 0), (2, .int a2), (3, .int a3), (5, .int a5), (6, .int a6), (7, .int a7)] [.int b0, .int b1] w (sX12_shifted_j251 K16 a2 a3 a5 a6 a7 b0 b1 w) := by
  unfold sX12_shifted_j251
  refine xj_ior dX12_shifted_251 ?_
  refine xj_istore (lv2 := [(4, .int (b1 ||| b0)), (0, .ref 0), (2, .int a2), (3, .int a3), (5, .int a5), (6, .int a6), (7, .int a7)]) dX12_shifted_252 (Nat.le_of_ble_eq_true rfl) rfl ?_
  refine xj_aloadn 1 dX12_shifted_254 rfl rfl ?_
  refine xj_iload 6 dX12_shifted_255 rfl ?_
  refine xj_guard (fun hz => ?_)
  refine pfX12_320 dX12_shifted_257 rfl hz ?_
  refine xj_sub (lv2 := [(0, .ref 0), (2, .int a2), (3, .int a3), (4, .int (b1 ||| b0)), (5, .int a5), (6, .int a6)]) [1, 2, 3, 0, 4, 5] rfl ?_
  exact tX12_shifted_j260 K16 hK16 _ _ _ _ _ _
set_option maxRecDepth 20000 in
def sX12_shifted_j110 (K16 : Int32 → Int32 → Int32 → Int32 → xW → Option (Int32 × xW)) (a2 : Int32) (a3 : Int32) (a5 : Int32) (a6 : Int32) (b0 : Int32) (b1 : Int32) (w : xW) : Option (Int32 × xW) :=
  (if xz a6 then sX12_shifted_j260 K16 a2 a3 (b1 ||| b0) a5 a6 (xwi w 0 36 a6) else none)
set_option maxRecDepth 20000 in
theorem tX12_shifted_j110 (K16 : Int32 → Int32 → Int32 → Int32 → xW → Option (Int32 × xW)) (hK16 : ∀ (a2 : Int32) (a3 : Int32) (a4 : Int32) (a5 : Int32) (w : xW), xJ ιI mX12_shifted lM (0, 0) 16 [(0, .ref 0), (2, .int a2), (3, .int a3), (4, .int a4), (5, .int a5)] [] w (K16 a2 a3 a4 a5 w)) (a2 : Int32) (a3 : Int32) (a5 : Int32) (a6 : Int32) (b0 : Int32) (b1 : Int32) (w : xW) : xJ ιI mX12_shifted lM (0, 0) 110 [(0, .ref 0), (2, .int a2), (3, .int a3), (5, .int a5), (6, .int a6)] [.int b0, .int b1] w (sX12_shifted_j110 K16 a2 a3 a5 a6 b0 b1 w) := by
  unfold sX12_shifted_j110
  refine xj_ior dX12_shifted_110 ?_
  refine xj_istore (lv2 := [(4, .int (b1 ||| b0)), (0, .ref 0), (2, .int a2), (3, .int a3), (5, .int a5), (6, .int a6)]) dX12_shifted_111 (Nat.le_of_ble_eq_true rfl) rfl ?_
  refine xj_aloadn 1 dX12_shifted_113 rfl rfl ?_
  refine xj_iload 5 dX12_shifted_114 rfl ?_
  refine xj_guard (fun hz => ?_)
  refine pfX12_320 dX12_shifted_116 rfl hz ?_
  refine xj_goto (tgt := 260) dX12_shifted_119 rfl ?_
  refine xj_sub (lv2 := [(0, .ref 0), (2, .int a2), (3, .int a3), (4, .int (b1 ||| b0)), (5, .int a5), (6, .int a6)]) [1, 2, 3, 0, 4, 5] rfl ?_
  exact tX12_shifted_j260 K16 hK16 _ _ _ _ _ _
set_option maxRecDepth 20000 in
def sX12_shifted_j137 (K16 : Int32 → Int32 → Int32 → Int32 → xW → Option (Int32 × xW)) (a2 : Int32) (a3 : Int32) (a5 : Int32) (a6 : Int32) (a7 : Int32) (b0 : Int32) (b1 : Int32) (w : xW) : Option (Int32 × xW) :=
  (if xz a7 then sX12_shifted_j260 K16 a2 a3 (b1 ||| b0) a5 a6 (xwi w 0 36 a7) else none)
set_option maxRecDepth 20000 in
theorem tX12_shifted_j137 (K16 : Int32 → Int32 → Int32 → Int32 → xW → Option (Int32 × xW)) (hK16 : ∀ (a2 : Int32) (a3 : Int32) (a4 : Int32) (a5 : Int32) (w : xW), xJ ιI mX12_shifted lM (0, 0) 16 [(0, .ref 0), (2, .int a2), (3, .int a3), (4, .int a4), (5, .int a5)] [] w (K16 a2 a3 a4 a5 w)) (a2 : Int32) (a3 : Int32) (a5 : Int32) (a6 : Int32) (a7 : Int32) (b0 : Int32) (b1 : Int32) (w : xW) : xJ ιI mX12_shifted lM (0, 0) 137 [(0, .ref 0), (2, .int a2), (3, .int a3), (5, .int a5), (6, .int a6), (7, .int a7)] [.int b0, .int b1] w (sX12_shifted_j137 K16 a2 a3 a5 a6 a7 b0 b1 w) := by
  unfold sX12_shifted_j137
  refine xj_ior dX12_shifted_137 ?_
  refine xj_istore (lv2 := [(4, .int (b1 ||| b0)), (0, .ref 0), (2, .int a2), (3, .int a3), (5, .int a5), (6, .int a6), (7, .int a7)]) dX12_shifted_138 (Nat.le_of_ble_eq_true rfl) rfl ?_
  refine xj_aloadn 1 dX12_shifted_140 rfl rfl ?_
  refine xj_iload 6 dX12_shifted_141 rfl ?_
  refine xj_guard (fun hz => ?_)
  refine pfX12_320 dX12_shifted_143 rfl hz ?_
  refine xj_goto (tgt := 260) dX12_shifted_146 rfl ?_
  refine xj_sub (lv2 := [(0, .ref 0), (2, .int a2), (3, .int a3), (4, .int (b1 ||| b0)), (5, .int a5), (6, .int a6)]) [1, 2, 3, 0, 4, 5] rfl ?_
  exact tX12_shifted_j260 K16 hK16 _ _ _ _ _ _
set_option maxRecDepth 20000 in
def sX12_shifted_j165 (K16 : Int32 → Int32 → Int32 → Int32 → xW → Option (Int32 × xW)) (a2 : Int32) (a3 : Int32) (a5 : Int32) (a6 : Int32) (b0 : Int32) (b1 : Int32) (w : xW) : Option (Int32 × xW) :=
  (if xz a6 then sX12_shifted_j260 K16 a2 a3 (b1 ||| b0) a5 a6 (xwi w 0 36 a6) else none)
set_option maxRecDepth 20000 in
theorem tX12_shifted_j165 (K16 : Int32 → Int32 → Int32 → Int32 → xW → Option (Int32 × xW)) (hK16 : ∀ (a2 : Int32) (a3 : Int32) (a4 : Int32) (a5 : Int32) (w : xW), xJ ιI mX12_shifted lM (0, 0) 16 [(0, .ref 0), (2, .int a2), (3, .int a3), (4, .int a4), (5, .int a5)] [] w (K16 a2 a3 a4 a5 w)) (a2 : Int32) (a3 : Int32) (a5 : Int32) (a6 : Int32) (b0 : Int32) (b1 : Int32) (w : xW) : xJ ιI mX12_shifted lM (0, 0) 165 [(0, .ref 0), (2, .int a2), (3, .int a3), (5, .int a5), (6, .int a6)] [.int b0, .int b1] w (sX12_shifted_j165 K16 a2 a3 a5 a6 b0 b1 w) := by
  unfold sX12_shifted_j165
  refine xj_ior dX12_shifted_165 ?_
  refine xj_istore (lv2 := [(4, .int (b1 ||| b0)), (0, .ref 0), (2, .int a2), (3, .int a3), (5, .int a5), (6, .int a6)]) dX12_shifted_166 (Nat.le_of_ble_eq_true rfl) rfl ?_
  refine xj_aloadn 1 dX12_shifted_168 rfl rfl ?_
  refine xj_iload 5 dX12_shifted_169 rfl ?_
  refine xj_guard (fun hz => ?_)
  refine pfX12_320 dX12_shifted_171 rfl hz ?_
  refine xj_goto (tgt := 260) dX12_shifted_174 rfl ?_
  refine xj_sub (lv2 := [(0, .ref 0), (2, .int a2), (3, .int a3), (4, .int (b1 ||| b0)), (5, .int a5), (6, .int a6)]) [1, 2, 3, 0, 4, 5] rfl ?_
  exact tX12_shifted_j260 K16 hK16 _ _ _ _ _ _
set_option maxRecDepth 20000 in
def sX12_shifted_j194 (K16 : Int32 → Int32 → Int32 → Int32 → xW → Option (Int32 × xW)) (a2 : Int32) (a3 : Int32) (a5 : Int32) (a6 : Int32) (a7 : Int32) (b0 : Int32) (b1 : Int32) (w : xW) : Option (Int32 × xW) :=
  (if xz a7 then sX12_shifted_j260 K16 a2 a3 (b1 ||| b0) a5 a6 (xwi w 0 36 a7) else none)
set_option maxRecDepth 20000 in
theorem tX12_shifted_j194 (K16 : Int32 → Int32 → Int32 → Int32 → xW → Option (Int32 × xW)) (hK16 : ∀ (a2 : Int32) (a3 : Int32) (a4 : Int32) (a5 : Int32) (w : xW), xJ ιI mX12_shifted lM (0, 0) 16 [(0, .ref 0), (2, .int a2), (3, .int a3), (4, .int a4), (5, .int a5)] [] w (K16 a2 a3 a4 a5 w)) (a2 : Int32) (a3 : Int32) (a5 : Int32) (a6 : Int32) (a7 : Int32) (b0 : Int32) (b1 : Int32) (w : xW) : xJ ιI mX12_shifted lM (0, 0) 194 [(0, .ref 0), (2, .int a2), (3, .int a3), (5, .int a5), (6, .int a6), (7, .int a7)] [.int b0, .int b1] w (sX12_shifted_j194 K16 a2 a3 a5 a6 a7 b0 b1 w) := by
  unfold sX12_shifted_j194
  refine xj_ior dX12_shifted_194 ?_
  refine xj_istore (lv2 := [(4, .int (b1 ||| b0)), (0, .ref 0), (2, .int a2), (3, .int a3), (5, .int a5), (6, .int a6), (7, .int a7)]) dX12_shifted_195 (Nat.le_of_ble_eq_true rfl) rfl ?_
  refine xj_aloadn 1 dX12_shifted_197 rfl rfl ?_
  refine xj_iload 6 dX12_shifted_198 rfl ?_
  refine xj_guard (fun hz => ?_)
  refine pfX12_320 dX12_shifted_200 rfl hz ?_
  refine xj_goto (tgt := 260) dX12_shifted_203 rfl ?_
  refine xj_sub (lv2 := [(0, .ref 0), (2, .int a2), (3, .int a3), (4, .int (b1 ||| b0)), (5, .int a5), (6, .int a6)]) [1, 2, 3, 0, 4, 5] rfl ?_
  exact tX12_shifted_j260 K16 hK16 _ _ _ _ _ _
set_option maxRecDepth 20000 in
def sX12_shifted_j42 (K16 : Int32 → Int32 → Int32 → Int32 → xW → Option (Int32 × xW)) (a2 : Int32) (a3 : Int32) (a4 : Int32) (a5 : Int32) (a6 : Int32) (b0 : Int32) (w : xW) : Option (Int32 × xW) :=
  xlet ((1 : Int32) <<< ((((8 : Int32) * a3) - (1 : Int32)) &&& 31)) (fun x1 => xsw (w.1 0 17) (21) [(if a6 = 0 then sX12_shifted_j110 K16 a2 a3 a5 a6 (0 : Int32) (a4 <<< ((1 : Int32) &&& 31)) w else sX12_shifted_j110 K16 a2 a3 a5 a6 (1 : Int32) (a4 <<< ((1 : Int32) &&& 31)) w), (if b0 = 0 then sX12_shifted_j137 K16 a2 a3 a5 a6 b0 (0 : Int32) (xushr a4 (1 : Int32)) w else sX12_shifted_j137 K16 a2 a3 a5 a6 b0 x1 (xushr a4 (1 : Int32)) w), (if (w.1 0 36) = 0 then sX12_shifted_j165 K16 a2 a3 a5 a6 (0 : Int32) (a4 <<< ((1 : Int32) &&& 31)) w else sX12_shifted_j165 K16 a2 a3 a5 a6 (1 : Int32) (a4 <<< ((1 : Int32) &&& 31)) w), (if (w.1 0 36) = 0 then sX12_shifted_j194 K16 a2 a3 a5 a6 b0 (0 : Int32) (xushr a4 (1 : Int32)) w else sX12_shifted_j194 K16 a2 a3 a5 a6 b0 x1 (xushr a4 (1 : Int32)) w), (if xz a6 then sX12_shifted_j260 K16 a2 a3 (a4 <<< ((1 : Int32) &&& 31)) a5 a6 (xwi w 0 36 a6) else none), (if xz b0 then sX12_shifted_j260 K16 a2 a3 (xushr a4 (1 : Int32)) a5 a6 (xwi w 0 36 b0) else none)] ((if a6 = 0 then sX12_shifted_j251 K16 a2 a3 a5 a6 b0 (0 : Int32) (xushr a4 (1 : Int32)) w else sX12_shifted_j251 K16 a2 a3 a5 a6 b0 x1 (xushr a4 (1 : Int32)) w)))
set_option maxRecDepth 20000 in
theorem tX12_shifted_j42 (K16 : Int32 → Int32 → Int32 → Int32 → xW → Option (Int32 × xW)) (hK16 : ∀ (a2 : Int32) (a3 : Int32) (a4 : Int32) (a5 : Int32) (w : xW), xJ ιI mX12_shifted lM (0, 0) 16 [(0, .ref 0), (2, .int a2), (3, .int a3), (4, .int a4), (5, .int a5)] [] w (K16 a2 a3 a4 a5 w)) (a2 : Int32) (a3 : Int32) (a4 : Int32) (a5 : Int32) (a6 : Int32) (b0 : Int32) (w : xW) : xJ ιI mX12_shifted lM (0, 0) 42 [(0, .ref 0), (2, .int a2), (3, .int a3), (4, .int a4), (5, .int a5), (6, .int a6)] [.int b0] w (sX12_shifted_j42 K16 a2 a3 a4 a5 a6 b0 w) := by
  unfold sX12_shifted_j42
  refine xj_istore (lv2 := [(7, .int b0), (0, .ref 0), (2, .int a2), (3, .int a3), (4, .int a4), (5, .int a5), (6, .int a6)]) dX12_shifted_42 (Nat.le_of_ble_eq_true rfl) rfl ?_
  refine xj_iconst (v := 1) dX12_shifted_44 ci_1 ?_
  refine xj_bipush (v := 8) dX12_shifted_45 cb_8 ?_
  refine xj_iloadn 3 dX12_shifted_47 rfl rfl ?_
  refine xj_imul dX12_shifted_48 ?_
  refine xj_iconst (v := 1) dX12_shifted_49 ci_1 ?_
  refine xj_isub dX12_shifted_50 ?_
  refine xj_ishl dX12_shifted_51 ?_
  refine xj_leti (fun x1 => ?_)
  refine xj_istore (lv2 := [(8, .int x1), (7, .int b0), (0, .ref 0), (2, .int a2), (3, .int a3), (4, .int a4), (5, .int a5), (6, .int a6)]) dX12_shifted_52 (Nat.le_of_ble_eq_true rfl) rfl ?_
  refine xj_aloadn 2 dX12_shifted_54 rfl rfl ?_
  refine gfX12_70 (v := (w.1 0 17)) dX12_shifted_55 rfl rfl ?_
  refine xj_tsw (tgtd := 236) [96, 122, 149, 177, 206, 221] dX12_shifted_58 rfl rfl rfl rfl ?_ ⟨?_, ?_, ?_, ?_, ?_, ?_, trivial⟩
  · refine xj_iload 5 dX12_shifted_236 rfl ?_
    refine xj_iconst (v := 1) dX12_shifted_238 ci_1 ?_
    refine xj_iushr dX12_shifted_239 ?_
    refine xj_iload 7 dX12_shifted_240 rfl ?_
    refine xj_ifeq (tgt := 250) dX12_shifted_242 rfl ?_ ?_
    · refine xj_iconst (v := 0) dX12_shifted_250 ci_0 ?_
      refine xj_sub (lv2 := [(0, .ref 0), (2, .int a2), (3, .int a3), (5, .int a5), (6, .int a6), (7, .int b0)]) [2, 3, 4, 6, 7, 1] rfl ?_
      exact tX12_shifted_j251 K16 hK16 _ _ _ _ _ _ _ _
    · refine xj_iload 0 dX12_shifted_245 rfl ?_
      refine xj_goto (tgt := 251) dX12_shifted_247 rfl ?_
      refine xj_sub (lv2 := [(0, .ref 0), (2, .int a2), (3, .int a3), (5, .int a5), (6, .int a6), (7, .int b0)]) [2, 3, 4, 6, 7, 1] rfl ?_
      exact tX12_shifted_j251 K16 hK16 _ _ _ _ _ _ _ _
  · refine xj_iload 5 dX12_shifted_96 rfl ?_
    refine xj_iconst (v := 1) dX12_shifted_98 ci_1 ?_
    refine xj_ishl dX12_shifted_99 ?_
    refine xj_iload 7 dX12_shifted_100 rfl ?_
    refine xj_ifeq (tgt := 109) dX12_shifted_102 rfl ?_ ?_
    · refine xj_iconst (v := 0) dX12_shifted_109 ci_0 ?_
      refine xj_sub (lv2 := [(0, .ref 0), (2, .int a2), (3, .int a3), (5, .int a5), (6, .int a6)]) [2, 3, 4, 6, 7] rfl ?_
      exact tX12_shifted_j110 K16 hK16 _ _ _ _ _ _ _
    · refine xj_iconst (v := 1) dX12_shifted_105 ci_1 ?_
      refine xj_goto (tgt := 110) dX12_shifted_106 rfl ?_
      refine xj_sub (lv2 := [(0, .ref 0), (2, .int a2), (3, .int a3), (5, .int a5), (6, .int a6)]) [2, 3, 4, 6, 7] rfl ?_
      exact tX12_shifted_j110 K16 hK16 _ _ _ _ _ _ _
  · refine xj_iload 5 dX12_shifted_122 rfl ?_
    refine xj_iconst (v := 1) dX12_shifted_124 ci_1 ?_
    refine xj_iushr dX12_shifted_125 ?_
    refine xj_iload 1 dX12_shifted_126 rfl ?_
    refine xj_ifeq (tgt := 136) dX12_shifted_128 rfl ?_ ?_
    · refine xj_iconst (v := 0) dX12_shifted_136 ci_0 ?_
      refine xj_sub (lv2 := [(0, .ref 0), (2, .int a2), (3, .int a3), (5, .int a5), (6, .int a6), (7, .int b0)]) [2, 3, 4, 6, 7, 1] rfl ?_
      exact tX12_shifted_j137 K16 hK16 _ _ _ _ _ _ _ _
    · refine xj_iload 0 dX12_shifted_131 rfl ?_
      refine xj_goto (tgt := 137) dX12_shifted_133 rfl ?_
      refine xj_sub (lv2 := [(0, .ref 0), (2, .int a2), (3, .int a3), (5, .int a5), (6, .int a6), (7, .int b0)]) [2, 3, 4, 6, 7, 1] rfl ?_
      exact tX12_shifted_j137 K16 hK16 _ _ _ _ _ _ _ _
  · refine xj_iload 5 dX12_shifted_149 rfl ?_
    refine xj_iconst (v := 1) dX12_shifted_151 ci_1 ?_
    refine xj_ishl dX12_shifted_152 ?_
    refine xj_aloadn 2 dX12_shifted_153 rfl rfl ?_
    refine gfX12_320 (v := (w.1 0 36)) dX12_shifted_154 rfl rfl ?_
    refine xj_ifeq (tgt := 164) dX12_shifted_157 rfl ?_ ?_
    · refine xj_iconst (v := 0) dX12_shifted_164 ci_0 ?_
      refine xj_sub (lv2 := [(0, .ref 0), (2, .int a2), (3, .int a3), (5, .int a5), (6, .int a6)]) [2, 3, 4, 6, 7] rfl ?_
      exact tX12_shifted_j165 K16 hK16 _ _ _ _ _ _ _
    · refine xj_iconst (v := 1) dX12_shifted_160 ci_1 ?_
      refine xj_goto (tgt := 165) dX12_shifted_161 rfl ?_
      refine xj_sub (lv2 := [(0, .ref 0), (2, .int a2), (3, .int a3), (5, .int a5), (6, .int a6)]) [2, 3, 4, 6, 7] rfl ?_
      exact tX12_shifted_j165 K16 hK16 _ _ _ _ _ _ _
  · refine xj_iload 5 dX12_shifted_177 rfl ?_
    refine xj_iconst (v := 1) dX12_shifted_179 ci_1 ?_
    refine xj_iushr dX12_shifted_180 ?_
    refine xj_aloadn 2 dX12_shifted_181 rfl rfl ?_
    refine gfX12_320 (v := (w.1 0 36)) dX12_shifted_182 rfl rfl ?_
    refine xj_ifeq (tgt := 193) dX12_shifted_185 rfl ?_ ?_
    · refine xj_iconst (v := 0) dX12_shifted_193 ci_0 ?_
      refine xj_sub (lv2 := [(0, .ref 0), (2, .int a2), (3, .int a3), (5, .int a5), (6, .int a6), (7, .int b0)]) [2, 3, 4, 6, 7, 1] rfl ?_
      exact tX12_shifted_j194 K16 hK16 _ _ _ _ _ _ _ _
    · refine xj_iload 0 dX12_shifted_188 rfl ?_
      refine xj_goto (tgt := 194) dX12_shifted_190 rfl ?_
      refine xj_sub (lv2 := [(0, .ref 0), (2, .int a2), (3, .int a3), (5, .int a5), (6, .int a6), (7, .int b0)]) [2, 3, 4, 6, 7, 1] rfl ?_
      exact tX12_shifted_j194 K16 hK16 _ _ _ _ _ _ _ _
  · refine xj_iload 5 dX12_shifted_206 rfl ?_
    refine xj_iconst (v := 1) dX12_shifted_208 ci_1 ?_
    refine xj_ishl dX12_shifted_209 ?_
    refine xj_istore (lv2 := [(4, .int (a4 <<< ((1 : Int32) &&& 31))), (8, .int x1), (7, .int b0), (0, .ref 0), (2, .int a2), (3, .int a3), (5, .int a5), (6, .int a6)]) dX12_shifted_210 (Nat.le_of_ble_eq_true rfl) rfl ?_
    refine xj_aloadn 3 dX12_shifted_212 rfl rfl ?_
    refine xj_iload 7 dX12_shifted_213 rfl ?_
    refine xj_guard (fun hz => ?_)
    refine pfX12_320 dX12_shifted_215 rfl hz ?_
    refine xj_goto (tgt := 260) dX12_shifted_218 rfl ?_
    refine xj_sub (lv2 := [(0, .ref 0), (2, .int a2), (3, .int a3), (4, .int (a4 <<< ((1 : Int32) &&& 31))), (5, .int a5), (6, .int a6)]) [3, 4, 5, 0, 6, 7] rfl ?_
    exact tX12_shifted_j260 K16 hK16 _ _ _ _ _ _
  · refine xj_iload 5 dX12_shifted_221 rfl ?_
    refine xj_iconst (v := 1) dX12_shifted_223 ci_1 ?_
    refine xj_iushr dX12_shifted_224 ?_
    refine xj_istore (lv2 := [(4, .int (xushr a4 (1 : Int32))), (8, .int x1), (7, .int b0), (0, .ref 0), (2, .int a2), (3, .int a3), (5, .int a5), (6, .int a6)]) dX12_shifted_225 (Nat.le_of_ble_eq_true rfl) rfl ?_
    refine xj_aloadn 3 dX12_shifted_227 rfl rfl ?_
    refine xj_iload 2 dX12_shifted_228 rfl ?_
    refine xj_guard (fun hz => ?_)
    refine pfX12_320 dX12_shifted_230 rfl hz ?_
    refine xj_goto (tgt := 260) dX12_shifted_233 rfl ?_
    refine xj_sub (lv2 := [(0, .ref 0), (2, .int a2), (3, .int a3), (4, .int (xushr a4 (1 : Int32))), (5, .int a5), (6, .int a6)]) [3, 4, 5, 0, 6, 7] rfl ?_
    exact tX12_shifted_j260 K16 hK16 _ _ _ _ _ _
set_option maxRecDepth 20000 in
def sX12_shifted_l16 : Nat → Int32 → Int32 → Int32 → Int32 → xW → Option (Int32 × xW)
  | 0, _, _, _, _, _ => none
  | n + 1, a2, a3, a4, a5, w =>
  (if a5 < a2 then xbd (sX12_top a4 a3 w) (fun x2 w3 => (if (a4 &&& (1 : Int32)) = 0 then sX12_shifted_j42 (sX12_shifted_l16 n) a2 a3 a4 a5 x2 (0 : Int32) w3 else sX12_shifted_j42 (sX12_shifted_l16 n) a2 a3 a4 a5 x2 (1 : Int32) w3)) else (if (w.1 0 17) < (25 : Int32) then some (a4, w) else xbd (sX12_byResult a4 a3 w) (fun _ w1 => some (a4, w1))))
set_option maxRecDepth 20000 in
theorem tX12_shifted_l16 : ∀ (n : Nat) (a2 : Int32) (a3 : Int32) (a4 : Int32) (a5 : Int32) (w : xW), xJ ιI mX12_shifted lM (0, 0) 16 [(0, .ref 0), (2, .int a2), (3, .int a3), (4, .int a4), (5, .int a5)] [] w (sX12_shifted_l16 n a2 a3 a4 a5 w) := by
  intro n
  induction n with
  | zero => intros; exact xj_none
  | succ n ih =>
    intro a2 a3 a4 a5 w
    rw [sX12_shifted_l16]
    refine xj_iload 4 dX12_shifted_16 rfl ?_
    refine xj_iloadn 1 dX12_shifted_18 rfl rfl ?_
    refine xj_ige (tgt := 388) dX12_shifted_19 rfl ?_ ?_
    · refine xj_iload 3 dX12_shifted_22 rfl ?_
      refine xj_iloadn 2 dX12_shifted_24 rfl rfl ?_
      refine xj_cSi (argv := [.int a4, .int a3]) (rest := []) dX12_shifted_25 (kX12_top a4 a3 w) mkX12_top tw2321 rfl rfl rfl rfl (fun x2 w3 => ?_)
      refine xj_istore (lv2 := [(6, .int x2), (0, .ref 0), (2, .int a2), (3, .int a3), (4, .int a4), (5, .int a5)]) dX12_shifted_28 (Nat.le_of_ble_eq_true rfl) rfl ?_
      refine xj_iload 4 dX12_shifted_30 rfl ?_
      refine xj_iconst (v := 1) dX12_shifted_32 ci_1 ?_
      refine xj_iand dX12_shifted_33 ?_
      refine xj_ifeq (tgt := 41) dX12_shifted_34 rfl ?_ ?_
      · refine xj_iconst (v := 0) dX12_shifted_41 ci_0 ?_
        refine xj_sub (lv2 := [(0, .ref 0), (2, .int a2), (3, .int a3), (4, .int a4), (5, .int a5), (6, .int x2)]) [1, 2, 3, 4, 5, 0] rfl ?_
        exact tX12_shifted_j42 (sX12_shifted_l16 n) ih _ _ _ _ _ _ _
      · refine xj_iconst (v := 1) dX12_shifted_37 ci_1 ?_
        refine xj_goto (tgt := 42) dX12_shifted_38 rfl ?_
        refine xj_sub (lv2 := [(0, .ref 0), (2, .int a2), (3, .int a3), (4, .int a4), (5, .int a5), (6, .int x2)]) [1, 2, 3, 4, 5, 0] rfl ?_
        exact tX12_shifted_j42 (sX12_shifted_l16 n) ih _ _ _ _ _ _ _
    · refine xj_aloadn 0 dX12_shifted_388 rfl rfl ?_
      refine gfX12_70 (v := (w.1 0 17)) dX12_shifted_389 rfl rfl ?_
      refine xj_bipush (v := 25) dX12_shifted_392 cb_25 ?_
      refine xj_ilt (tgt := 404) dX12_shifted_394 rfl ?_ ?_
      · refine xj_iload 3 dX12_shifted_404 rfl ?_
        exact xj_ri dX12_shifted_406 rfl
      · refine xj_aloadn 0 dX12_shifted_397 rfl rfl ?_
        refine xj_iload 3 dX12_shifted_398 rfl ?_
        refine xj_iloadn 2 dX12_shifted_400 rfl rfl ?_
        refine xj_cVv (argv := [.int a4, .int a3]) (rest := []) dX12_shifted_401 (kX12_byResult a4 a3 w) mkX12_byResult tw2324 rfl rfl rfl rfl rfl rfl (fun _ w1 => ?_)
        refine xj_iload 3 dX12_shifted_404 rfl ?_
        exact xj_ri dX12_shifted_406 rfl
set_option maxRecDepth 20000 in
def sX12_shifted (p1 : Int32) (p2 : Int32) (w : xW) : Option (Int32 × xW) :=
  xbd (sX12_mask (w.1 0 20) w) (fun x1 w2 => sX12_shifted_l16 70000 p2 (w.1 0 20) (p1 &&& x1) (0 : Int32) w2)
set_option maxRecDepth 20000 in
theorem tX12_shifted (p1 : Int32) (p2 : Int32) (w : xW) : xJ ιI mX12_shifted lM (0, 0) 0 [(0, .ref 0), (1, .int p1), (2, .int p2)] [] w (sX12_shifted p1 p2 w) := by
  unfold sX12_shifted
  refine xj_aloadn 0 dX12_shifted_0 rfl rfl ?_
  refine gfX12_76 (v := (w.1 0 20)) dX12_shifted_1 rfl rfl ?_
  refine xj_istoren (lv2 := [(3, .int (w.1 0 20)), (0, .ref 0), (1, .int p1), (2, .int p2)]) dX12_shifted_4 rfl (Nat.le_of_ble_eq_true rfl) rfl ?_
  refine xj_iloadn 2 dX12_shifted_5 rfl rfl ?_
  refine xj_iloadn 0 dX12_shifted_6 rfl rfl ?_
  refine xj_cSi (argv := [.int (w.1 0 20)]) (rest := [.int p1]) dX12_shifted_7 (kX12_mask (w.1 0 20) w) mkX12_mask tw2318 rfl rfl rfl rfl (fun x1 w2 => ?_)
  refine xj_iand dX12_shifted_10 ?_
  refine xj_istore (lv2 := [(4, .int (p1 &&& x1)), (3, .int (w.1 0 20)), (0, .ref 0), (1, .int p1), (2, .int p2)]) dX12_shifted_11 (Nat.le_of_ble_eq_true rfl) rfl ?_
  refine xj_iconst (v := 0) dX12_shifted_13 ci_0 ?_
  refine xj_istore (lv2 := [(5, .int (0 : Int32)), (4, .int (p1 &&& x1)), (3, .int (w.1 0 20)), (0, .ref 0), (1, .int p1), (2, .int p2)]) dX12_shifted_14 (Nat.le_of_ble_eq_true rfl) rfl ?_
  refine xj_sub (lv2 := [(0, .ref 0), (2, .int p2), (3, .int (w.1 0 20)), (4, .int (p1 &&& x1)), (5, .int (0 : Int32))]) [3, 5, 2, 1, 0] rfl ?_
  exact tX12_shifted_l16 _ _ _ _ _ _
theorem kX12_shifted (p1 : Int32) (p2 : Int32) (w : xW) : xMet jI mX12_shifted lM (0, 0) [.ref 0, .int p1, .int p2] w (sX12_shifted p1 p2 w) := xj_met lM_ok (by decide) (Nat.le_of_ble_eq_true rfl) (Nat.zero_le _) (Nat.zero_le _) (tX12_shifted p1 p2 w)
set_option maxRecDepth 20000 in
def sX12_shifts_j34 (b0 : Int32) (w : xW) : Option (Unit × xW) :=
  xbd (sX12_getE w) (fun x1 w2 => (if 0 < (b0 &&& (31 : Int32)) then (if (w2.1 0 45) = 0 then xbd (sX12_shifted x1 (b0 &&& (31 : Int32)) w2) (fun x3 w4 => xbd (sX12_setE x3 w4) (fun _ w5 => some ((), w5))) else some ((), w2)) else some ((), w2)))
set_option maxRecDepth 20000 in
theorem tX12_shifts_j34 (b0 : Int32) (w : xW) : xJ ιV mX12_shifts lM (0, 0) 34 [(0, .ref 0)] [.int b0] w (sX12_shifts_j34 b0 w) := by
  unfold sX12_shifts_j34
  refine xj_bipush (v := 31) dX12_shifts_34 cb_31 ?_
  refine xj_iand dX12_shifts_36 ?_
  refine xj_istoren (lv2 := [(1, .int (b0 &&& (31 : Int32))), (0, .ref 0)]) dX12_shifts_37 rfl (Nat.le_of_ble_eq_true rfl) rfl ?_
  refine xj_aloadn 1 dX12_shifts_38 rfl rfl ?_
  refine xj_cVi (argv := []) (rest := []) dX12_shifts_39 (kX12_getE w) mkX12_getE tw2298 rfl rfl rfl rfl rfl rfl (fun x1 w2 => ?_)
  refine xj_istoren (lv2 := [(2, .int x1), (1, .int (b0 &&& (31 : Int32))), (0, .ref 0)]) dX12_shifts_42 rfl (Nat.le_of_ble_eq_true rfl) rfl ?_
  refine xj_iloadn 1 dX12_shifts_43 rfl rfl ?_
  refine xj_ifle (tgt := 64) dX12_shifts_44 rfl ?_ ?_
  · refine xj_aloadn 2 dX12_shifts_47 rfl rfl ?_
    refine gfX12_272 (v := (w2.1 0 45)) dX12_shifts_48 rfl rfl ?_
    refine xj_ifne (tgt := 64) dX12_shifts_51 rfl ?_ ?_
    · refine xj_aloadn 2 dX12_shifts_54 rfl rfl ?_
      refine xj_aloadn 2 dX12_shifts_55 rfl rfl ?_
      refine xj_iloadn 0 dX12_shifts_56 rfl rfl ?_
      refine xj_iloadn 1 dX12_shifts_57 rfl rfl ?_
      refine xj_cVi (argv := [.int x1, .int (b0 &&& (31 : Int32))]) (rest := [.ref 0]) dX12_shifts_58 (kX12_shifted x1 (b0 &&& (31 : Int32)) w2) mkX12_shifted tw2356 rfl rfl rfl rfl rfl rfl (fun x3 w4 => ?_)
      refine xj_cVv (argv := [.int x3]) (rest := []) dX12_shifts_61 (kX12_setE x3 w4) mkX12_setE tw2342 rfl rfl rfl rfl rfl rfl (fun _ w5 => ?_)
      exact xj_rv dX12_shifts_64 rfl
    · exact xj_rv dX12_shifts_64 rfl
  · exact xj_rv dX12_shifts_64 rfl
set_option maxRecDepth 20000 in
def sX12_shifts (w : xW) : Option (Unit × xW) :=
  (if (w.1 0 18) = (4 : Int32) then sX12_shifts_j34 (w.1 0 29) w else (if (w.1 0 18) = (10 : Int32) then sX12_shifts_j34 (1 : Int32) w else (if xin (1 : Int32) 8 then sX12_shifts_j34 (w.1 9 ((1 : Int32).toNatClampNeg)) w else none)))
set_option maxRecDepth 20000 in
theorem tX12_shifts (w : xW) : xJ ιV mX12_shifts lM (0, 0) 0 [(0, .ref 0)] [] w (sX12_shifts w) := by
  unfold sX12_shifts
  refine xj_aloadn 0 dX12_shifts_0 rfl rfl ?_
  refine gfX12_73 (v := (w.1 0 18)) dX12_shifts_1 rfl rfl ?_
  refine xj_iconst (v := 4) dX12_shifts_4 ci_4 ?_
  refine xj_ine (tgt := 15) dX12_shifts_5 rfl ?_ ?_
  · refine xj_aloadn 0 dX12_shifts_8 rfl rfl ?_
    refine gfX12_109 (v := (w.1 0 29)) dX12_shifts_9 rfl rfl ?_
    refine xj_goto (tgt := 34) dX12_shifts_12 rfl ?_
    exact tX12_shifts_j34 _ _
  · refine xj_aloadn 0 dX12_shifts_15 rfl rfl ?_
    refine gfX12_73 (v := (w.1 0 18)) dX12_shifts_16 rfl rfl ?_
    refine xj_bipush (v := 10) dX12_shifts_19 cb_10 ?_
    refine xj_ine (tgt := 28) dX12_shifts_21 rfl ?_ ?_
    · refine xj_iconst (v := 1) dX12_shifts_24 ci_1 ?_
      refine xj_goto (tgt := 34) dX12_shifts_25 rfl ?_
      exact tX12_shifts_j34 _ _
    · refine xj_aloadn 0 dX12_shifts_28 rfl rfl ?_
      refine gfX12_44 dX12_shifts_29 rfl ?_
      refine xj_iconst (v := 1) dX12_shifts_32 ci_1 ?_
      refine xj_iald (k := 9) dX12_shifts_33 rfl ?_
      exact tX12_shifts_j34 _ _
theorem kX12_shifts (w : xW) : xMet jV mX12_shifts lM (0, 0) [.ref 0] w (sX12_shifts w) := xj_met lM_ok (by decide) (Nat.le_of_ble_eq_true rfl) (Nat.zero_le _) (Nat.zero_le _) (tX12_shifts w)
set_option maxRecDepth 20000 in
def sX12_doubles_j134 (a4 : Int32) (b0 : Int32) (w : xW) : Option (Unit × xW) :=
  (if xz b0 then xbd (sX12_byResult a4 (4 : Int32) (xwi w 0 40 b0)) (fun _ w1 => xbd (sX12_setE a4 w1) (fun _ w2 => some ((), w2))) else none)
set_option maxRecDepth 20000 in
theorem tX12_doubles_j134 (a4 : Int32) (b0 : Int32) (w : xW) : xJ ιV mX12_doubles lM (0, 0) 134 [(0, .ref 0), (4, .int a4)] [.int b0, .ref 0] w (sX12_doubles_j134 a4 b0 w) := by
  unfold sX12_doubles_j134
  refine xj_guard (fun hz => ?_)
  refine pfX12_323 dX12_doubles_134 rfl hz ?_
  refine xj_aloadn 0 dX12_doubles_137 rfl rfl ?_
  refine xj_iload 1 dX12_doubles_138 rfl ?_
  refine xj_iconst (v := 4) dX12_doubles_140 ci_4 ?_
  refine xj_cVv (argv := [.int a4, .int (4 : Int32)]) (rest := []) dX12_doubles_141 (kX12_byResult a4 (4 : Int32) (xwi w 0 40 b0)) mkX12_byResult tw2324 rfl rfl rfl rfl rfl rfl (fun _ w1 => ?_)
  refine xj_aloadn 0 dX12_doubles_144 rfl rfl ?_
  refine xj_iload 1 dX12_doubles_145 rfl ?_
  refine xj_cVv (argv := [.int a4]) (rest := []) dX12_doubles_147 (kX12_setE a4 w1) mkX12_setE tw2342 rfl rfl rfl rfl rfl rfl (fun _ w2 => ?_)
  exact xj_rv dX12_doubles_150 rfl
set_option maxRecDepth 20000 in
def sX12_doubles_j126 (a4 : Int32) (b0 : Int32) (b1 : Int32) (w : xW) : Option (Unit × xW) :=
  (if b1 = b0 then sX12_doubles_j134 a4 (0 : Int32) w else sX12_doubles_j134 a4 (1 : Int32) w)
set_option maxRecDepth 20000 in
theorem tX12_doubles_j126 (a4 : Int32) (b0 : Int32) (b1 : Int32) (w : xW) : xJ ιV mX12_doubles lM (0, 0) 126 [(0, .ref 0), (4, .int a4)] [.int b0, .int b1, .ref 0] w (sX12_doubles_j126 a4 b0 b1 w) := by
  unfold sX12_doubles_j126
  refine xj_ieq (tgt := 133) dX12_doubles_126 rfl ?_ ?_
  · refine xj_iconst (v := 0) dX12_doubles_133 ci_0 ?_
    exact tX12_doubles_j134 _ _ _
  · refine xj_iconst (v := 1) dX12_doubles_129 ci_1 ?_
    refine xj_goto (tgt := 134) dX12_doubles_130 rfl ?_
    exact tX12_doubles_j134 _ _ _
set_option maxRecDepth 20000 in
def sX12_doubles_j116 (a4 : Int32) (b0 : Int32) (w : xW) : Option (Unit × xW) :=
  (if a4 < 0 then sX12_doubles_j126 a4 (1 : Int32) b0 w else sX12_doubles_j126 a4 (0 : Int32) b0 w)
set_option maxRecDepth 20000 in
theorem tX12_doubles_j116 (a4 : Int32) (b0 : Int32) (w : xW) : xJ ιV mX12_doubles lM (0, 0) 116 [(0, .ref 0), (4, .int a4)] [.int b0, .ref 0] w (sX12_doubles_j116 a4 b0 w) := by
  unfold sX12_doubles_j116
  refine xj_iload 1 dX12_doubles_116 rfl ?_
  refine xj_ifge (tgt := 125) dX12_doubles_118 rfl ?_ ?_
  · refine xj_iconst (v := 1) dX12_doubles_121 ci_1 ?_
    refine xj_goto (tgt := 126) dX12_doubles_122 rfl ?_
    exact tX12_doubles_j126 _ _ _ _
  · refine xj_iconst (v := 0) dX12_doubles_125 ci_0 ?_
    exact tX12_doubles_j126 _ _ _ _
set_option maxRecDepth 20000 in
def sX12_doubles_j103 (a2 : Int32) (a4 : Int32) (b0 : Int32) (w : xW) : Option (Unit × xW) :=
  (if xz b0 then (if a2 < 0 then sX12_doubles_j116 a4 (1 : Int32) (xwi w 0 36 b0) else sX12_doubles_j116 a4 (0 : Int32) (xwi w 0 36 b0)) else none)
set_option maxRecDepth 20000 in
theorem tX12_doubles_j103 (a2 : Int32) (a4 : Int32) (b0 : Int32) (w : xW) : xJ ιV mX12_doubles lM (0, 0) 103 [(0, .ref 0), (2, .int a2), (4, .int a4)] [.int b0, .ref 0] w (sX12_doubles_j103 a2 a4 b0 w) := by
  unfold sX12_doubles_j103
  refine xj_guard (fun hz => ?_)
  refine pfX12_320 dX12_doubles_103 rfl hz ?_
  refine xj_aloadn 0 dX12_doubles_106 rfl rfl ?_
  refine xj_iloadn 1 dX12_doubles_107 rfl rfl ?_
  refine xj_ifge (tgt := 115) dX12_doubles_108 rfl ?_ ?_
  · refine xj_iconst (v := 1) dX12_doubles_111 ci_1 ?_
    refine xj_goto (tgt := 116) dX12_doubles_112 rfl ?_
    refine xj_sub (lv2 := [(0, .ref 0), (4, .int a4)]) [0, 2] rfl ?_
    exact tX12_doubles_j116 _ _ _
  · refine xj_iconst (v := 0) dX12_doubles_115 ci_0 ?_
    refine xj_sub (lv2 := [(0, .ref 0), (4, .int a4)]) [0, 2] rfl ?_
    exact tX12_doubles_j116 _ _ _
set_option maxRecDepth 20000 in
def sX12_doubles_j93 (a2 : Int32) (a4 : Int32) (b0 : Int32) (w : xW) : Option (Unit × xW) :=
  (if (b0 &&& (1 : Int32)) = 0 then sX12_doubles_j103 a2 a4 (0 : Int32) w else sX12_doubles_j103 a2 a4 (1 : Int32) w)
set_option maxRecDepth 20000 in
theorem tX12_doubles_j93 (a2 : Int32) (a4 : Int32) (b0 : Int32) (w : xW) : xJ ιV mX12_doubles lM (0, 0) 93 [(0, .ref 0), (2, .int a2), (4, .int a4)] [.int b0, .ref 0] w (sX12_doubles_j93 a2 a4 b0 w) := by
  unfold sX12_doubles_j93
  refine xj_iconst (v := 1) dX12_doubles_93 ci_1 ?_
  refine xj_iand dX12_doubles_94 ?_
  refine xj_ifeq (tgt := 102) dX12_doubles_95 rfl ?_ ?_
  · refine xj_iconst (v := 0) dX12_doubles_102 ci_0 ?_
    exact tX12_doubles_j103 _ _ _ _
  · refine xj_iconst (v := 1) dX12_doubles_98 ci_1 ?_
    refine xj_goto (tgt := 103) dX12_doubles_99 rfl ?_
    exact tX12_doubles_j103 _ _ _ _
set_option maxRecDepth 20000 in
def sX12_doubles_j67 (a1 : Int32) (a2 : Int32) (b0 : Int32) (w : xW) : Option (Unit × xW) :=
  (if (w.1 0 17) = (46 : Int32) then sX12_doubles_j93 a2 b0 (xushr a2 ((32 : Int32) - a1)) w else sX12_doubles_j93 a2 b0 (xushr a2 (a1 - (1 : Int32))) w)
set_option maxRecDepth 20000 in
theorem tX12_doubles_j67 (a1 : Int32) (a2 : Int32) (b0 : Int32) (w : xW) : xJ ιV mX12_doubles lM (0, 0) 67 [(0, .ref 0), (1, .int a1), (2, .int a2)] [.int b0] w (sX12_doubles_j67 a1 a2 b0 w) := by
  unfold sX12_doubles_j67
  refine xj_istore (lv2 := [(4, .int b0), (0, .ref 0), (1, .int a1), (2, .int a2)]) dX12_doubles_67 (Nat.le_of_ble_eq_true rfl) rfl ?_
  refine xj_aloadn 1 dX12_doubles_69 rfl rfl ?_
  refine xj_aloadn 1 dX12_doubles_70 rfl rfl ?_
  refine gfX12_70 (v := (w.1 0 17)) dX12_doubles_71 rfl rfl ?_
  refine xj_bipush (v := 46) dX12_doubles_74 cb_46 ?_
  refine xj_ine (tgt := 88) dX12_doubles_76 rfl ?_ ?_
  · refine xj_iloadn 3 dX12_doubles_79 rfl rfl ?_
    refine xj_bipush (v := 32) dX12_doubles_80 cb_32 ?_
    refine xj_iloadn 2 dX12_doubles_82 rfl rfl ?_
    refine xj_isub dX12_doubles_83 ?_
    refine xj_iushr dX12_doubles_84 ?_
    refine xj_goto (tgt := 93) dX12_doubles_85 rfl ?_
    refine xj_sub (lv2 := [(0, .ref 0), (2, .int a2), (4, .int b0)]) [1, 3, 0] rfl ?_
    exact tX12_doubles_j93 _ _ _ _
  · refine xj_iloadn 3 dX12_doubles_88 rfl rfl ?_
    refine xj_iloadn 2 dX12_doubles_89 rfl rfl ?_
    refine xj_iconst (v := 1) dX12_doubles_90 ci_1 ?_
    refine xj_isub dX12_doubles_91 ?_
    refine xj_iushr dX12_doubles_92 ?_
    refine xj_sub (lv2 := [(0, .ref 0), (2, .int a2), (4, .int b0)]) [1, 3, 0] rfl ?_
    exact tX12_doubles_j93 _ _ _ _
set_option maxRecDepth 20000 in
def sX12_doubles (w : xW) : Option (Unit × xW) :=
  xbd (sX12_getE w) (fun x1 w2 => (if xin (w2.1 0 23) 8 then xlet (w2.1 9 ((w2.1 0 23).toNatClampNeg)) (fun x3 => (if ((w.1 0 29) &&& (31 : Int32)) = 0 then some ((), w2) else (if (w2.1 0 45) = 0 then (if (w2.1 0 17) = (46 : Int32) then sX12_doubles_j67 ((w.1 0 29) &&& (31 : Int32)) x1 ((x1 <<< (((w.1 0 29) &&& (31 : Int32)) &&& 31)) ||| (xushr x3 ((32 : Int32) - ((w.1 0 29) &&& (31 : Int32))))) w2 else sX12_doubles_j67 ((w.1 0 29) &&& (31 : Int32)) x1 ((xushr x1 ((w.1 0 29) &&& (31 : Int32))) ||| (x3 <<< (((32 : Int32) - ((w.1 0 29) &&& (31 : Int32))) &&& 31))) w2) else some ((), w2)))) else none))
set_option maxRecDepth 20000 in
theorem tX12_doubles (w : xW) : xJ ιV mX12_doubles lM (0, 0) 0 [(0, .ref 0)] [] w (sX12_doubles w) := by
  unfold sX12_doubles
  refine xj_aloadn 0 dX12_doubles_0 rfl rfl ?_
  refine gfX12_109 (v := (w.1 0 29)) dX12_doubles_1 rfl rfl ?_
  refine xj_bipush (v := 31) dX12_doubles_4 cb_31 ?_
  refine xj_iand dX12_doubles_6 ?_
  refine xj_istoren (lv2 := [(1, .int ((w.1 0 29) &&& (31 : Int32))), (0, .ref 0)]) dX12_doubles_7 rfl (Nat.le_of_ble_eq_true rfl) rfl ?_
  refine xj_aloadn 1 dX12_doubles_8 rfl rfl ?_
  refine xj_cVi (argv := []) (rest := []) dX12_doubles_9 (kX12_getE w) mkX12_getE tw2298 rfl rfl rfl rfl rfl rfl (fun x1 w2 => ?_)
  refine xj_istoren (lv2 := [(2, .int x1), (1, .int ((w.1 0 29) &&& (31 : Int32))), (0, .ref 0)]) dX12_doubles_12 rfl (Nat.le_of_ble_eq_true rfl) rfl ?_
  refine xj_aloadn 2 dX12_doubles_13 rfl rfl ?_
  refine gfX12_44 dX12_doubles_14 rfl ?_
  refine xj_aloadn 2 dX12_doubles_17 rfl rfl ?_
  refine gfX12_85 (v := (w2.1 0 23)) dX12_doubles_18 rfl rfl ?_
  refine xj_iald (k := 9) dX12_doubles_21 rfl ?_
  refine xj_leti (fun x3 => ?_)
  refine xj_istoren (lv2 := [(3, .int x3), (2, .int x1), (1, .int ((w.1 0 29) &&& (31 : Int32))), (0, .ref 0)]) dX12_doubles_22 rfl (Nat.le_of_ble_eq_true rfl) rfl ?_
  refine xj_iloadn 2 dX12_doubles_23 rfl rfl ?_
  refine xj_ifeq (tgt := 34) dX12_doubles_24 rfl ?_ ?_
  · exact xj_rv dX12_doubles_34 rfl
  · refine xj_aloadn 3 dX12_doubles_27 rfl rfl ?_
    refine gfX12_272 (v := (w2.1 0 45)) dX12_doubles_28 rfl rfl ?_
    refine xj_ifeq (tgt := 35) dX12_doubles_31 rfl ?_ ?_
    · refine xj_aloadn 3 dX12_doubles_35 rfl rfl ?_
      refine gfX12_70 (v := (w2.1 0 17)) dX12_doubles_36 rfl rfl ?_
      refine xj_bipush (v := 46) dX12_doubles_39 cb_46 ?_
      refine xj_ine (tgt := 57) dX12_doubles_41 rfl ?_ ?_
      · refine xj_iloadn 1 dX12_doubles_44 rfl rfl ?_
        refine xj_iloadn 2 dX12_doubles_45 rfl rfl ?_
        refine xj_ishl dX12_doubles_46 ?_
        refine xj_iloadn 0 dX12_doubles_47 rfl rfl ?_
        refine xj_bipush (v := 32) dX12_doubles_48 cb_32 ?_
        refine xj_iloadn 2 dX12_doubles_50 rfl rfl ?_
        refine xj_isub dX12_doubles_51 ?_
        refine xj_iushr dX12_doubles_52 ?_
        refine xj_ior dX12_doubles_53 ?_
        refine xj_goto (tgt := 67) dX12_doubles_54 rfl ?_
        refine xj_sub (lv2 := [(0, .ref 0), (1, .int ((w.1 0 29) &&& (31 : Int32))), (2, .int x1)]) [3, 2, 1] rfl ?_
        exact tX12_doubles_j67 _ _ _ _
      · refine xj_iloadn 1 dX12_doubles_57 rfl rfl ?_
        refine xj_iloadn 2 dX12_doubles_58 rfl rfl ?_
        refine xj_iushr dX12_doubles_59 ?_
        refine xj_iloadn 0 dX12_doubles_60 rfl rfl ?_
        refine xj_bipush (v := 32) dX12_doubles_61 cb_32 ?_
        refine xj_iloadn 2 dX12_doubles_63 rfl rfl ?_
        refine xj_isub dX12_doubles_64 ?_
        refine xj_ishl dX12_doubles_65 ?_
        refine xj_ior dX12_doubles_66 ?_
        refine xj_sub (lv2 := [(0, .ref 0), (1, .int ((w.1 0 29) &&& (31 : Int32))), (2, .int x1)]) [3, 2, 1] rfl ?_
        exact tX12_doubles_j67 _ _ _ _
    · exact xj_rv dX12_doubles_34 rfl
theorem kX12_doubles (w : xW) : xMet jV mX12_doubles lM (0, 0) [.ref 0] w (sX12_doubles w) := xj_met lM_ok (by decide) (Nat.le_of_ble_eq_true rfl) (Nat.zero_le _) (Nat.zero_le _) (tX12_doubles w)
set_option maxRecDepth 20000 in
def sX12_product_j21 (a5 : Int64) (b0 : Int32) (w : xW) : Option (Unit × xW) :=
  (if xz b0 then (if xz b0 then xbd (sX12_byResult a5.toInt32 (4 : Int32) (xwi (xwi w 0 36 b0) 0 40 b0)) (fun _ w1 => (if xin (w1.1 0 23) 8 then some ((), (xwi w1 9 ((w1.1 0 23).toNatClampNeg) a5.toInt32)) else none)) else none) else none)
set_option maxRecDepth 20000 in
theorem tX12_product_j21 (a5 : Int64) (b0 : Int32) (w : xW) : xJ ιV mX12_product lM (0, 0) 21 [(0, .ref 0), (5, .long a5)] [.int b0, .ref 0] w (sX12_product_j21 a5 b0 w) := by
  unfold sX12_product_j21
  refine xj_guard (fun hz => ?_)
  refine pfX12_320 dX12_product_21 rfl hz ?_
  refine xj_aloadn 0 dX12_product_24 rfl rfl ?_
  refine xj_aloadn 0 dX12_product_25 rfl rfl ?_
  refine gfX12_320 (v := b0) dX12_product_26 rfl rfl ?_
  refine xj_guard (fun hz => ?_)
  refine pfX12_323 dX12_product_29 rfl hz ?_
  refine xj_aloadn 0 dX12_product_32 rfl rfl ?_
  refine xj_lload 1 dX12_product_33 rfl ?_
  refine xj_l2i dX12_product_35 ?_
  refine xj_iconst (v := 4) dX12_product_36 ci_4 ?_
  refine xj_cVv (argv := [.int a5.toInt32, .int (4 : Int32)]) (rest := []) dX12_product_37 (kX12_byResult a5.toInt32 (4 : Int32) (xwi (xwi w 0 36 b0) 0 40 b0)) mkX12_byResult tw2324 rfl rfl rfl rfl rfl rfl (fun _ w1 => ?_)
  refine xj_aloadn 0 dX12_product_40 rfl rfl ?_
  refine gfX12_44 dX12_product_41 rfl ?_
  refine xj_aloadn 0 dX12_product_44 rfl rfl ?_
  refine gfX12_85 (v := (w1.1 0 23)) dX12_product_45 rfl rfl ?_
  refine xj_lload 1 dX12_product_48 rfl ?_
  refine xj_l2i dX12_product_50 ?_
  refine xj_iast (k := 9) dX12_product_51 rfl ?_
  exact xj_rv dX12_product_52 rfl
set_option maxRecDepth 20000 in
def sX12_product (p1 : Int64) (p3 : Int64) (w : xW) : Option (Unit × xW) :=
  (if (p1 * p3) = ((p1 * p3).toInt32).toInt64 then sX12_product_j21 (p1 * p3) (0 : Int32) w else sX12_product_j21 (p1 * p3) (1 : Int32) w)
set_option maxRecDepth 20000 in
theorem tX12_product (p1 : Int64) (p3 : Int64) (w : xW) : xJ ιV mX12_product lM (0, 0) 0 [(0, .ref 0), (1, .long p1), (3, .long p3)] [] w (sX12_product p1 p3 w) := by
  unfold sX12_product
  refine xj_lloadn 1 dX12_product_0 rfl rfl ?_
  refine xj_lloadn 2 dX12_product_1 rfl rfl ?_
  refine xj_lmul dX12_product_2 ?_
  refine xj_lstore (lv2 := [(5, .long (p1 * p3)), (0, .ref 0), (1, .long p1), (3, .long p3)]) dX12_product_3 (Nat.le_of_ble_eq_true rfl) rfl ?_
  refine xj_aloadn 1 dX12_product_5 rfl rfl ?_
  refine xj_lload 0 dX12_product_6 rfl ?_
  refine xj_lload 0 dX12_product_8 rfl ?_
  refine xj_l2i dX12_product_10 ?_
  refine xj_i2l dX12_product_11 ?_
  refine xj_leq (tgt := 20) dX12_product_12 dX12_product_13 rfl ?_ ?_
  · refine xj_iconst (v := 0) dX12_product_20 ci_0 ?_
    refine xj_sub (lv2 := [(0, .ref 0), (5, .long (p1 * p3))]) [1, 0] rfl ?_
    exact tX12_product_j21 _ _ _
  · refine xj_iconst (v := 1) dX12_product_16 ci_1 ?_
    refine xj_goto (tgt := 21) dX12_product_17 rfl ?_
    refine xj_sub (lv2 := [(0, .ref 0), (5, .long (p1 * p3))]) [1, 0] rfl ?_
    exact tX12_product_j21 _ _ _
theorem kX12_product (p1 : Int64) (p3 : Int64) (w : xW) : xMet jV mX12_product lM (0, 0) [.ref 0, .long p1, .long p3] w (sX12_product p1 p3 w) := xj_met lM_ok (by decide) (Nat.le_of_ble_eq_true rfl) (Nat.zero_le _) (Nat.zero_le _) (tX12_product p1 p3 w)
set_option maxRecDepth 20000 in
def sX12_wholeProduct_j217 (w : xW) : Option (Unit × xW) :=
  (if xz (w.1 0 36) then some ((), (xwi w 0 40 (w.1 0 36))) else none)
set_option maxRecDepth 20000 in
theorem tX12_wholeProduct_j217 (w : xW) : xJ ιV mX12_wholeProduct lM (0, 0) 217 [(0, .ref 0)] [] w (sX12_wholeProduct_j217 w) := by
  unfold sX12_wholeProduct_j217
  refine xj_aloadn 0 dX12_wholeProduct_217 rfl rfl ?_
  refine xj_aloadn 0 dX12_wholeProduct_218 rfl rfl ?_
  refine gfX12_320 (v := (w.1 0 36)) dX12_wholeProduct_219 rfl rfl ?_
  refine xj_guard (fun hz => ?_)
  refine pfX12_323 dX12_wholeProduct_222 rfl hz ?_
  exact xj_rv dX12_wholeProduct_225 rfl
set_option maxRecDepth 20000 in
def sX12_wholeProduct_j207 (a2 : Int64) (b0 : Int32) (w : xW) : Option (Unit × xW) :=
  (if xz b0 then xbd (sX12_byResult a2.toInt32 (4 : Int32) (xwi w 0 36 b0)) (fun _ w1 => sX12_wholeProduct_j217 w1) else none)
set_option maxRecDepth 20000 in
theorem tX12_wholeProduct_j207 (a2 : Int64) (b0 : Int32) (w : xW) : xJ ιV mX12_wholeProduct lM (0, 0) 207 [(0, .ref 0), (2, .long a2)] [.int b0, .ref 0] w (sX12_wholeProduct_j207 a2 b0 w) := by
  unfold sX12_wholeProduct_j207
  refine xj_guard (fun hz => ?_)
  refine pfX12_320 dX12_wholeProduct_207 rfl hz ?_
  refine xj_aloadn 0 dX12_wholeProduct_210 rfl rfl ?_
  refine xj_lloadn 1 dX12_wholeProduct_211 rfl rfl ?_
  refine xj_l2i dX12_wholeProduct_212 ?_
  refine xj_iconst (v := 4) dX12_wholeProduct_213 ci_4 ?_
  refine xj_cVv (argv := [.int a2.toInt32, .int (4 : Int32)]) (rest := []) dX12_wholeProduct_214 (kX12_byResult a2.toInt32 (4 : Int32) (xwi w 0 36 b0)) mkX12_byResult tw2324 rfl rfl rfl rfl rfl rfl (fun _ w1 => ?_)
  refine xj_sub (lv2 := [(0, .ref 0)]) [0] rfl ?_
  exact tX12_wholeProduct_j217 _
set_option maxRecDepth 20000 in
def sX12_wholeProduct_j147 (b0 : Int64) (w : xW) : Option (Unit × xW) :=
  (if xin (0 : Int32) 8 then (if xin (2 : Int32) 8 then (if (w.1 0 17) = (38 : Int32) then (if xin (2 : Int32) 8 then (if (xlshr b0 (32 : Int32)).toInt32 = 0 then sX12_wholeProduct_j207 b0 (0 : Int32) (xwi (xwi w 9 ((0 : Int32).toNatClampNeg) b0.toInt32) 9 ((2 : Int32).toNatClampNeg) ((xlshr b0 (32 : Int32)).toInt32)) else sX12_wholeProduct_j207 b0 (1 : Int32) (xwi (xwi w 9 ((0 : Int32).toNatClampNeg) b0.toInt32) 9 ((2 : Int32).toNatClampNeg) ((xlshr b0 (32 : Int32)).toInt32))) else none) else (if b0 = b0.toInt32.toInt64 then sX12_wholeProduct_j207 b0 (0 : Int32) (xwi (xwi w 9 ((0 : Int32).toNatClampNeg) b0.toInt32) 9 ((2 : Int32).toNatClampNeg) ((xlshr b0 (32 : Int32)).toInt32)) else sX12_wholeProduct_j207 b0 (1 : Int32) (xwi (xwi w 9 ((0 : Int32).toNatClampNeg) b0.toInt32) 9 ((2 : Int32).toNatClampNeg) ((xlshr b0 (32 : Int32)).toInt32)))) else none) else none)
set_option maxRecDepth 20000 in
theorem tX12_wholeProduct_j147 (b0 : Int64) (w : xW) : xJ ιV mX12_wholeProduct lM (0, 0) 147 [(0, .ref 0)] [.long b0] w (sX12_wholeProduct_j147 b0 w) := by
  unfold sX12_wholeProduct_j147
  refine xj_lstoren (lv2 := [(2, .long b0), (0, .ref 0)]) dX12_wholeProduct_147 rfl (Nat.le_of_ble_eq_true rfl) rfl ?_
  refine xj_aloadn 1 dX12_wholeProduct_148 rfl rfl ?_
  refine gfX12_44 dX12_wholeProduct_149 rfl ?_
  refine xj_iconst (v := 0) dX12_wholeProduct_152 ci_0 ?_
  refine xj_lloadn 0 dX12_wholeProduct_153 rfl rfl ?_
  refine xj_l2i dX12_wholeProduct_154 ?_
  refine xj_iast (k := 9) dX12_wholeProduct_155 rfl ?_
  refine xj_aloadn 1 dX12_wholeProduct_156 rfl rfl ?_
  refine gfX12_44 dX12_wholeProduct_157 rfl ?_
  refine xj_iconst (v := 2) dX12_wholeProduct_160 ci_2 ?_
  refine xj_lloadn 0 dX12_wholeProduct_161 rfl rfl ?_
  refine xj_bipush (v := 32) dX12_wholeProduct_162 cb_32 ?_
  refine xj_lshr dX12_wholeProduct_164 ?_
  refine xj_l2i dX12_wholeProduct_165 ?_
  refine xj_iast (k := 9) dX12_wholeProduct_166 rfl ?_
  refine xj_aloadn 1 dX12_wholeProduct_167 rfl rfl ?_
  refine xj_aloadn 1 dX12_wholeProduct_168 rfl rfl ?_
  refine gfX12_70 (v := (w.1 0 17)) dX12_wholeProduct_169 rfl rfl ?_
  refine xj_bipush (v := 38) dX12_wholeProduct_172 cb_38 ?_
  refine xj_ine (tgt := 194) dX12_wholeProduct_174 rfl ?_ ?_
  · refine xj_aloadn 1 dX12_wholeProduct_177 rfl rfl ?_
    refine gfX12_44 dX12_wholeProduct_178 rfl ?_
    refine xj_iconst (v := 2) dX12_wholeProduct_181 ci_2 ?_
    refine xj_iald (k := 9) dX12_wholeProduct_182 rfl ?_
    refine xj_ifeq (tgt := 190) dX12_wholeProduct_183 rfl ?_ ?_
    · refine xj_iconst (v := 0) dX12_wholeProduct_190 ci_0 ?_
      refine xj_goto (tgt := 207) dX12_wholeProduct_191 rfl ?_
      refine xj_sub (lv2 := [(0, .ref 0), (2, .long b0)]) [1, 0] rfl ?_
      exact tX12_wholeProduct_j207 _ _ _
    · refine xj_iconst (v := 1) dX12_wholeProduct_186 ci_1 ?_
      refine xj_goto (tgt := 207) dX12_wholeProduct_187 rfl ?_
      refine xj_sub (lv2 := [(0, .ref 0), (2, .long b0)]) [1, 0] rfl ?_
      exact tX12_wholeProduct_j207 _ _ _
  · refine xj_lloadn 0 dX12_wholeProduct_194 rfl rfl ?_
    refine xj_lloadn 0 dX12_wholeProduct_195 rfl rfl ?_
    refine xj_l2i dX12_wholeProduct_196 ?_
    refine xj_i2l dX12_wholeProduct_197 ?_
    refine xj_leq (tgt := 206) dX12_wholeProduct_198 dX12_wholeProduct_199 rfl ?_ ?_
    · refine xj_iconst (v := 0) dX12_wholeProduct_206 ci_0 ?_
      refine xj_sub (lv2 := [(0, .ref 0), (2, .long b0)]) [1, 0] rfl ?_
      exact tX12_wholeProduct_j207 _ _ _
    · refine xj_iconst (v := 1) dX12_wholeProduct_202 ci_1 ?_
      refine xj_goto (tgt := 207) dX12_wholeProduct_203 rfl ?_
      refine xj_sub (lv2 := [(0, .ref 0), (2, .long b0)]) [1, 0] rfl ?_
      exact tX12_wholeProduct_j207 _ _ _
set_option maxRecDepth 20000 in
def sX12_wholeProduct_j95 (a2 : Int32) (b0 : Int32) (w : xW) : Option (Unit × xW) :=
  (if xz b0 then xbd (sX12_byResult a2 (1 : Int32) (xwi w 0 36 b0)) (fun _ w1 => sX12_wholeProduct_j217 w1) else none)
set_option maxRecDepth 20000 in
theorem tX12_wholeProduct_j95 (a2 : Int32) (b0 : Int32) (w : xW) : xJ ιV mX12_wholeProduct lM (0, 0) 95 [(0, .ref 0), (2, .int a2)] [.int b0, .ref 0] w (sX12_wholeProduct_j95 a2 b0 w) := by
  unfold sX12_wholeProduct_j95
  refine xj_guard (fun hz => ?_)
  refine pfX12_320 dX12_wholeProduct_95 rfl hz ?_
  refine xj_aloadn 0 dX12_wholeProduct_98 rfl rfl ?_
  refine xj_iloadn 1 dX12_wholeProduct_99 rfl rfl ?_
  refine xj_iconst (v := 1) dX12_wholeProduct_100 ci_1 ?_
  refine xj_cVv (argv := [.int a2, .int (1 : Int32)]) (rest := []) dX12_wholeProduct_101 (kX12_byResult a2 (1 : Int32) (xwi w 0 36 b0)) mkX12_byResult tw2324 rfl rfl rfl rfl rfl rfl (fun _ w1 => ?_)
  refine xj_goto (tgt := 217) dX12_wholeProduct_104 rfl ?_
  refine xj_sub (lv2 := [(0, .ref 0)]) [0] rfl ?_
  exact tX12_wholeProduct_j217 _
set_option maxRecDepth 20000 in
def sX12_wholeProduct_j51 (b0 : Int32) (w : xW) : Option (Unit × xW) :=
  xbd (sX12_setRegister (0 : Int32) (2 : Int32) b0 w) (fun _ w1 => (if (w1.1 0 17) = (38 : Int32) then (if (b0 >>> ((8 : Int32) &&& 31)) = 0 then sX12_wholeProduct_j95 b0 (0 : Int32) w1 else sX12_wholeProduct_j95 b0 (1 : Int32) w1) else (if b0 = b0.toInt8.toInt32 then sX12_wholeProduct_j95 b0 (0 : Int32) w1 else sX12_wholeProduct_j95 b0 (1 : Int32) w1)))
set_option maxRecDepth 20000 in
theorem tX12_wholeProduct_j51 (b0 : Int32) (w : xW) : xJ ιV mX12_wholeProduct lM (0, 0) 51 [(0, .ref 0)] [.int b0] w (sX12_wholeProduct_j51 b0 w) := by
  unfold sX12_wholeProduct_j51
  refine xj_istoren (lv2 := [(2, .int b0), (0, .ref 0)]) dX12_wholeProduct_51 rfl (Nat.le_of_ble_eq_true rfl) rfl ?_
  refine xj_aloadn 1 dX12_wholeProduct_52 rfl rfl ?_
  refine xj_iconst (v := 0) dX12_wholeProduct_53 ci_0 ?_
  refine xj_iconst (v := 2) dX12_wholeProduct_54 ci_2 ?_
  refine xj_iloadn 0 dX12_wholeProduct_55 rfl rfl ?_
  refine xj_cVv (argv := [.int (0 : Int32), .int (2 : Int32), .int b0]) (rest := []) dX12_wholeProduct_56 (kX12_setRegister (0 : Int32) (2 : Int32) b0 w) mkX12_setRegister tw2336 rfl rfl rfl rfl rfl rfl (fun _ w1 => ?_)
  refine xj_aloadn 1 dX12_wholeProduct_59 rfl rfl ?_
  refine xj_aloadn 1 dX12_wholeProduct_60 rfl rfl ?_
  refine gfX12_70 (v := (w1.1 0 17)) dX12_wholeProduct_61 rfl rfl ?_
  refine xj_bipush (v := 38) dX12_wholeProduct_64 cb_38 ?_
  refine xj_ine (tgt := 84) dX12_wholeProduct_66 rfl ?_ ?_
  · refine xj_iloadn 0 dX12_wholeProduct_69 rfl rfl ?_
    refine xj_bipush (v := 8) dX12_wholeProduct_70 cb_8 ?_
    refine xj_ishr dX12_wholeProduct_72 ?_
    refine xj_ifeq (tgt := 80) dX12_wholeProduct_73 rfl ?_ ?_
    · refine xj_iconst (v := 0) dX12_wholeProduct_80 ci_0 ?_
      refine xj_goto (tgt := 95) dX12_wholeProduct_81 rfl ?_
      refine xj_sub (lv2 := [(0, .ref 0), (2, .int b0)]) [1, 0] rfl ?_
      exact tX12_wholeProduct_j95 _ _ _
    · refine xj_iconst (v := 1) dX12_wholeProduct_76 ci_1 ?_
      refine xj_goto (tgt := 95) dX12_wholeProduct_77 rfl ?_
      refine xj_sub (lv2 := [(0, .ref 0), (2, .int b0)]) [1, 0] rfl ?_
      exact tX12_wholeProduct_j95 _ _ _
  · refine xj_iloadn 0 dX12_wholeProduct_84 rfl rfl ?_
    refine xj_iloadn 0 dX12_wholeProduct_85 rfl rfl ?_
    refine xj_i2b dX12_wholeProduct_86 ?_
    refine xj_ieq (tgt := 94) dX12_wholeProduct_87 rfl ?_ ?_
    · refine xj_iconst (v := 0) dX12_wholeProduct_94 ci_0 ?_
      refine xj_sub (lv2 := [(0, .ref 0), (2, .int b0)]) [1, 0] rfl ?_
      exact tX12_wholeProduct_j95 _ _ _
    · refine xj_iconst (v := 1) dX12_wholeProduct_90 ci_1 ?_
      refine xj_goto (tgt := 95) dX12_wholeProduct_91 rfl ?_
      refine xj_sub (lv2 := [(0, .ref 0), (2, .int b0)]) [1, 0] rfl ?_
      exact tX12_wholeProduct_j95 _ _ _
set_option maxRecDepth 20000 in
def sX12_wholeProduct (w : xW) : Option (Unit × xW) :=
  xbd (sX12_getE w) (fun x1 w2 => (if (w2.1 0 20) = (1 : Int32) then (if (w2.1 0 17) = (38 : Int32) then (if xin (0 : Int32) 8 then sX12_wholeProduct_j51 (((w2.1 9 ((0 : Int32).toNatClampNeg)) &&& (255 : Int32)) * (x1 &&& (255 : Int32))) w2 else none) else (if xin (0 : Int32) 8 then sX12_wholeProduct_j51 ((w2.1 9 ((0 : Int32).toNatClampNeg)).toInt8.toInt32 * x1.toInt8.toInt32) w2 else none)) else (if (w2.1 0 17) = (38 : Int32) then (if xin (0 : Int32) 8 then sX12_wholeProduct_j147 (((w2.1 9 ((0 : Int32).toNatClampNeg)).toInt64 &&& (4294967295 : Int64)) * (x1.toInt64 &&& (4294967295 : Int64))) w2 else none) else (if xin (0 : Int32) 8 then sX12_wholeProduct_j147 ((w2.1 9 ((0 : Int32).toNatClampNeg)).toInt64 * x1.toInt64) w2 else none))))
set_option maxRecDepth 20000 in
theorem tX12_wholeProduct (w : xW) : xJ ιV mX12_wholeProduct lM (0, 0) 0 [(0, .ref 0)] [] w (sX12_wholeProduct w) := by
  unfold sX12_wholeProduct
  refine xj_aloadn 0 dX12_wholeProduct_0 rfl rfl ?_
  refine xj_cVi (argv := []) (rest := []) dX12_wholeProduct_1 (kX12_getE w) mkX12_getE tw2298 rfl rfl rfl rfl rfl rfl (fun x1 w2 => ?_)
  refine xj_istoren (lv2 := [(1, .int x1), (0, .ref 0)]) dX12_wholeProduct_4 rfl (Nat.le_of_ble_eq_true rfl) rfl ?_
  refine xj_aloadn 1 dX12_wholeProduct_5 rfl rfl ?_
  refine gfX12_76 (v := (w2.1 0 20)) dX12_wholeProduct_6 rfl rfl ?_
  refine xj_iconst (v := 1) dX12_wholeProduct_9 ci_1 ?_
  refine xj_ine (tgt := 107) dX12_wholeProduct_10 rfl ?_ ?_
  · refine xj_aloadn 1 dX12_wholeProduct_13 rfl rfl ?_
    refine gfX12_70 (v := (w2.1 0 17)) dX12_wholeProduct_14 rfl rfl ?_
    refine xj_bipush (v := 38) dX12_wholeProduct_17 cb_38 ?_
    refine xj_ine (tgt := 41) dX12_wholeProduct_19 rfl ?_ ?_
    · refine xj_aloadn 1 dX12_wholeProduct_22 rfl rfl ?_
      refine gfX12_44 dX12_wholeProduct_23 rfl ?_
      refine xj_iconst (v := 0) dX12_wholeProduct_26 ci_0 ?_
      refine xj_iald (k := 9) dX12_wholeProduct_27 rfl ?_
      refine xj_sipush (v := 255) dX12_wholeProduct_28 cs_255 ?_
      refine xj_iand dX12_wholeProduct_31 ?_
      refine xj_iloadn 0 dX12_wholeProduct_32 rfl rfl ?_
      refine xj_sipush (v := 255) dX12_wholeProduct_33 cs_255 ?_
      refine xj_iand dX12_wholeProduct_36 ?_
      refine xj_imul dX12_wholeProduct_37 ?_
      refine xj_goto (tgt := 51) dX12_wholeProduct_38 rfl ?_
      refine xj_sub (lv2 := [(0, .ref 0)]) [1] rfl ?_
      exact tX12_wholeProduct_j51 _ _
    · refine xj_aloadn 1 dX12_wholeProduct_41 rfl rfl ?_
      refine gfX12_44 dX12_wholeProduct_42 rfl ?_
      refine xj_iconst (v := 0) dX12_wholeProduct_45 ci_0 ?_
      refine xj_iald (k := 9) dX12_wholeProduct_46 rfl ?_
      refine xj_i2b dX12_wholeProduct_47 ?_
      refine xj_iloadn 0 dX12_wholeProduct_48 rfl rfl ?_
      refine xj_i2b dX12_wholeProduct_49 ?_
      refine xj_imul dX12_wholeProduct_50 ?_
      refine xj_sub (lv2 := [(0, .ref 0)]) [1] rfl ?_
      exact tX12_wholeProduct_j51 _ _
  · refine xj_aloadn 1 dX12_wholeProduct_107 rfl rfl ?_
    refine gfX12_70 (v := (w2.1 0 17)) dX12_wholeProduct_108 rfl rfl ?_
    refine xj_bipush (v := 38) dX12_wholeProduct_111 cb_38 ?_
    refine xj_ine (tgt := 137) dX12_wholeProduct_113 rfl ?_ ?_
    · refine xj_aloadn 1 dX12_wholeProduct_116 rfl rfl ?_
      refine gfX12_44 dX12_wholeProduct_117 rfl ?_
      refine xj_iconst (v := 0) dX12_wholeProduct_120 ci_0 ?_
      refine xj_iald (k := 9) dX12_wholeProduct_121 rfl ?_
      refine xj_i2l dX12_wholeProduct_122 ?_
      refine xj_ldc2 (v := 4294967295) tw2157 dX12_wholeProduct_123 ?_
      refine xj_land dX12_wholeProduct_126 ?_
      refine xj_iloadn 0 dX12_wholeProduct_127 rfl rfl ?_
      refine xj_i2l dX12_wholeProduct_128 ?_
      refine xj_ldc2 (v := 4294967295) tw2157 dX12_wholeProduct_129 ?_
      refine xj_land dX12_wholeProduct_132 ?_
      refine xj_lmul dX12_wholeProduct_133 ?_
      refine xj_goto (tgt := 147) dX12_wholeProduct_134 rfl ?_
      refine xj_sub (lv2 := [(0, .ref 0)]) [1] rfl ?_
      exact tX12_wholeProduct_j147 _ _
    · refine xj_aloadn 1 dX12_wholeProduct_137 rfl rfl ?_
      refine gfX12_44 dX12_wholeProduct_138 rfl ?_
      refine xj_iconst (v := 0) dX12_wholeProduct_141 ci_0 ?_
      refine xj_iald (k := 9) dX12_wholeProduct_142 rfl ?_
      refine xj_i2l dX12_wholeProduct_143 ?_
      refine xj_iloadn 0 dX12_wholeProduct_144 rfl rfl ?_
      refine xj_i2l dX12_wholeProduct_145 ?_
      refine xj_lmul dX12_wholeProduct_146 ?_
      refine xj_sub (lv2 := [(0, .ref 0)]) [1] rfl ?_
      exact tX12_wholeProduct_j147 _ _
theorem kX12_wholeProduct (w : xW) : xMet jV mX12_wholeProduct lM (0, 0) [.ref 0] w (sX12_wholeProduct w) := xj_met lM_ok (by decide) (Nat.le_of_ble_eq_true rfl) (Nat.zero_le _) (Nat.zero_le _) (tX12_wholeProduct w)
set_option maxRecDepth 20000 in
def sX12_traps (w : xW) : Option (Unit × xW) :=
  (if (w.1 0 45) = 0 then some ((), (xwi w 0 45 (4 : Int32))) else some ((), (xwi w 0 45 (w.1 0 45))))
set_option maxRecDepth 20000 in
theorem tX12_traps (w : xW) : xJ ιV mX12_traps lM (0, 0) 0 [(0, .ref 0)] [] w (sX12_traps w) := by
  unfold sX12_traps
  refine xj_aloadn 0 dX12_traps_0 rfl rfl ?_
  refine xj_aloadn 0 dX12_traps_1 rfl rfl ?_
  refine gfX12_272 (v := (w.1 0 45)) dX12_traps_2 rfl rfl ?_
  refine xj_ifne (tgt := 12) dX12_traps_5 rfl ?_ ?_
  · refine xj_iconst (v := 4) dX12_traps_8 ci_4 ?_
    refine xj_goto (tgt := 16) dX12_traps_9 rfl ?_
    refine pfX12_272 dX12_traps_16 rfl ?_
    exact xj_rv dX12_traps_19 rfl
  · refine xj_aloadn 0 dX12_traps_12 rfl rfl ?_
    refine gfX12_272 (v := (w.1 0 45)) dX12_traps_13 rfl rfl ?_
    refine pfX12_272 dX12_traps_16 rfl ?_
    exact xj_rv dX12_traps_19 rfl
theorem kX12_traps (w : xW) : xMet jV mX12_traps lM (0, 0) [.ref 0] w (sX12_traps w) := xj_met lM_ok (by decide) (Nat.le_of_ble_eq_true rfl) (Nat.zero_le _) (Nat.zero_le _) (tX12_traps w)
set_option maxRecDepth 20000 in
def sX12_quotient_j308 (a1 : Int32) (a2 : Int64) (b0 : Int64) (w : xW) : Option (Unit × xW) :=
  (if a1 = 0 then xbd (sX12_traps w) (fun _ w1 => some ((), w1)) else (if b0 = b0.toInt32.toInt64 then (if ¬ a1.toInt64 = 0 then (if xin (2 : Int32) 8 then (if xin (0 : Int32) 8 then some ((), (xwi (xwi w 9 ((2 : Int32).toNatClampNeg) ((a2 - a2 / a1.toInt64 * a1.toInt64).toInt32)) 9 ((0 : Int32).toNatClampNeg) b0.toInt32)) else none) else none) else none) else xbd (sX12_traps w) (fun _ w2 => some ((), w2))))
set_option maxRecDepth 20000 in
theorem tX12_quotient_j308 (a1 : Int32) (a2 : Int64) (b0 : Int64) (w : xW) : xJ ιV mX12_quotient lM (0, 0) 308 [(0, .ref 0), (1, .int a1), (2, .long a2)] [.long b0] w (sX12_quotient_j308 a1 a2 b0 w) := by
  unfold sX12_quotient_j308
  refine xj_lstore (lv2 := [(4, .long b0), (0, .ref 0), (1, .int a1), (2, .long a2)]) dX12_quotient_308 (Nat.le_of_ble_eq_true rfl) rfl ?_
  refine xj_iloadn 2 dX12_quotient_310 rfl rfl ?_
  refine xj_ifeq (tgt := 324) dX12_quotient_311 rfl ?_ ?_
  · refine xj_aloadn 1 dX12_quotient_324 rfl rfl ?_
    refine xj_cVv (argv := []) (rest := []) dX12_quotient_325 (kX12_traps w) mkX12_traps tw2388 rfl rfl rfl rfl rfl rfl (fun _ w1 => ?_)
    exact xj_rv dX12_quotient_328 rfl
  · refine xj_lload 0 dX12_quotient_314 rfl ?_
    refine xj_lload 0 dX12_quotient_316 rfl ?_
    refine xj_l2i dX12_quotient_318 ?_
    refine xj_i2l dX12_quotient_319 ?_
    refine xj_leq (tgt := 329) dX12_quotient_320 dX12_quotient_321 rfl ?_ ?_
    · refine xj_aloadn 1 dX12_quotient_329 rfl rfl ?_
      refine gfX12_44 dX12_quotient_330 rfl ?_
      refine xj_iconst (v := 2) dX12_quotient_333 ci_2 ?_
      refine xj_lloadn 3 dX12_quotient_334 rfl rfl ?_
      refine xj_iloadn 2 dX12_quotient_335 rfl rfl ?_
      refine xj_i2l dX12_quotient_336 ?_
      refine xj_lrem dX12_quotient_337 ?_
      refine xj_l2i dX12_quotient_338 ?_
      refine xj_iast (k := 9) dX12_quotient_339 rfl ?_
      refine xj_aloadn 1 dX12_quotient_340 rfl rfl ?_
      refine gfX12_44 dX12_quotient_341 rfl ?_
      refine xj_iconst (v := 0) dX12_quotient_344 ci_0 ?_
      refine xj_lload 0 dX12_quotient_345 rfl ?_
      refine xj_l2i dX12_quotient_347 ?_
      refine xj_iast (k := 9) dX12_quotient_348 rfl ?_
      exact xj_rv dX12_quotient_349 rfl
    · refine xj_aloadn 1 dX12_quotient_324 rfl rfl ?_
      refine xj_cVv (argv := []) (rest := []) dX12_quotient_325 (kX12_traps w) mkX12_traps tw2388 rfl rfl rfl rfl rfl rfl (fun _ w2 => ?_)
      exact xj_rv dX12_quotient_328 rfl
set_option maxRecDepth 20000 in
def sX12_quotient_l221 : Nat → Int64 → Int64 → Int32 → Int32 → xW → Option (Unit × xW)
  | 0, _, _, _, _, _ => none
  | n + 1, a4, a6, a8, a9, w =>
  (if a9 < 0 then (if xin (0 : Int32) 8 then (if xin (2 : Int32) 8 then some ((), (xwi (xwi w 9 ((0 : Int32).toNatClampNeg) a8) 9 ((2 : Int32).toNatClampNeg) a6.toInt32)) else none) else none) else (if xin (0 : Int32) 8 then xlet ((xlshl a6 (1 : Int32)) ||| ((xushr (w.1 9 ((0 : Int32).toNatClampNeg)) a9) &&& (1 : Int32)).toInt64) (fun x1 => (if x1 < a4 then (sX12_quotient_l221 n) a4 x1 (a8 <<< ((1 : Int32) &&& 31)) (a9 + (-1 : Int32)) w else xlet ((a8 <<< ((1 : Int32) &&& 31)) ||| (1 : Int32)) (fun x2 => (sX12_quotient_l221 n) a4 (x1 - a4) x2 (a9 + (-1 : Int32)) w))) else none))
set_option maxRecDepth 20000 in
theorem tX12_quotient_l221 : ∀ (n : Nat) (a4 : Int64) (a6 : Int64) (a8 : Int32) (a9 : Int32) (w : xW), xJ ιV mX12_quotient lM (0, 0) 221 [(0, .ref 0), (4, .long a4), (6, .long a6), (8, .int a8), (9, .int a9)] [] w (sX12_quotient_l221 n a4 a6 a8 a9 w) := by
  intro n
  induction n with
  | zero => intros; exact xj_none
  | succ n ih =>
    intro a4 a6 a8 a9 w
    rw [sX12_quotient_l221]
    refine xj_iload 4 dX12_quotient_221 rfl ?_
    refine xj_iflt (tgt := 278) dX12_quotient_223 rfl ?_ ?_
    · refine xj_aloadn 0 dX12_quotient_278 rfl rfl ?_
      refine gfX12_44 dX12_quotient_279 rfl ?_
      refine xj_iconst (v := 0) dX12_quotient_282 ci_0 ?_
      refine xj_iload 3 dX12_quotient_283 rfl ?_
      refine xj_iast (k := 9) dX12_quotient_285 rfl ?_
      refine xj_aloadn 0 dX12_quotient_286 rfl rfl ?_
      refine gfX12_44 dX12_quotient_287 rfl ?_
      refine xj_iconst (v := 2) dX12_quotient_290 ci_2 ?_
      refine xj_lload 2 dX12_quotient_291 rfl ?_
      refine xj_l2i dX12_quotient_293 ?_
      refine xj_iast (k := 9) dX12_quotient_294 rfl ?_
      exact xj_rv dX12_quotient_295 rfl
    · refine xj_lload 2 dX12_quotient_226 rfl ?_
      refine xj_iconst (v := 1) dX12_quotient_228 ci_1 ?_
      refine xj_lshl dX12_quotient_229 ?_
      refine xj_aloadn 0 dX12_quotient_230 rfl rfl ?_
      refine gfX12_44 dX12_quotient_231 rfl ?_
      refine xj_iconst (v := 0) dX12_quotient_234 ci_0 ?_
      refine xj_iald (k := 9) dX12_quotient_235 rfl ?_
      refine xj_iload 4 dX12_quotient_236 rfl ?_
      refine xj_iushr dX12_quotient_238 ?_
      refine xj_iconst (v := 1) dX12_quotient_239 ci_1 ?_
      refine xj_iand dX12_quotient_240 ?_
      refine xj_i2l dX12_quotient_241 ?_
      refine xj_lor dX12_quotient_242 ?_
      refine xj_letl (fun x1 => ?_)
      refine xj_lstore (lv2 := [(6, .long x1), (0, .ref 0), (4, .long a4), (8, .int a8), (9, .int a9)]) dX12_quotient_243 (Nat.le_of_ble_eq_true rfl) rfl ?_
      refine xj_iload 3 dX12_quotient_245 rfl ?_
      refine xj_iconst (v := 1) dX12_quotient_247 ci_1 ?_
      refine xj_ishl dX12_quotient_248 ?_
      refine xj_istore (lv2 := [(8, .int (a8 <<< ((1 : Int32) &&& 31))), (6, .long x1), (0, .ref 0), (4, .long a4), (9, .int a9)]) dX12_quotient_249 (Nat.le_of_ble_eq_true rfl) rfl ?_
      refine xj_lload 1 dX12_quotient_251 rfl ?_
      refine xj_lload 3 dX12_quotient_253 rfl ?_
      refine xj_llt (tgt := 272) dX12_quotient_255 dX12_quotient_256 rfl ?_ ?_
      · refine xj_iinc (n := 4) (lv2 := [(9, .int (a9 + (-1 : Int32))), (8, .int (a8 <<< ((1 : Int32) &&& 31))), (6, .long x1), (0, .ref 0), (4, .long a4)]) dX12_quotient_272 rfl ci_m1 (Nat.le_of_ble_eq_true rfl) rfl ?_
        refine xj_goto (tgt := 221) dX12_quotient_275 rfl ?_
        refine xj_sub (lv2 := [(0, .ref 0), (4, .long a4), (6, .long x1), (8, .int (a8 <<< ((1 : Int32) &&& 31))), (9, .int (a9 + (-1 : Int32)))]) [3, 4, 2, 1, 0] rfl ?_
        exact ih _ _ _ _ _
      · refine xj_lload 1 dX12_quotient_259 rfl ?_
        refine xj_lload 3 dX12_quotient_261 rfl ?_
        refine xj_lsub dX12_quotient_263 ?_
        refine xj_lstore (lv2 := [(6, .long (x1 - a4)), (8, .int (a8 <<< ((1 : Int32) &&& 31))), (0, .ref 0), (4, .long a4), (9, .int a9)]) dX12_quotient_264 (Nat.le_of_ble_eq_true rfl) rfl ?_
        refine xj_iload 1 dX12_quotient_266 rfl ?_
        refine xj_iconst (v := 1) dX12_quotient_268 ci_1 ?_
        refine xj_ior dX12_quotient_269 ?_
        refine xj_leti (fun x2 => ?_)
        refine xj_istore (lv2 := [(8, .int x2), (6, .long (x1 - a4)), (0, .ref 0), (4, .long a4), (9, .int a9)]) dX12_quotient_270 (Nat.le_of_ble_eq_true rfl) rfl ?_
        refine xj_iinc (n := 4) (lv2 := [(9, .int (a9 + (-1 : Int32))), (8, .int x2), (6, .long (x1 - a4)), (0, .ref 0), (4, .long a4)]) dX12_quotient_272 rfl ci_m1 (Nat.le_of_ble_eq_true rfl) rfl ?_
        refine xj_goto (tgt := 221) dX12_quotient_275 rfl ?_
        refine xj_sub (lv2 := [(0, .ref 0), (4, .long a4), (6, .long (x1 - a4)), (8, .int x2), (9, .int (a9 + (-1 : Int32)))]) [3, 4, 2, 1, 0] rfl ?_
        exact ih _ _ _ _ _
set_option maxRecDepth 20000 in
def sX12_quotient_j124 (a2 : Int32) (a3 : Int32) (a4 : Int32) (w : xW) : Option (Unit × xW) :=
  (if ¬ a3 = 0 then xbd (sX12_setRegister (0 : Int32) (2 : Int32) ((a4 &&& (255 : Int32)) ||| (((a2 - a2 / a3 * a3) &&& (255 : Int32)) <<< ((8 : Int32) &&& 31))) w) (fun _ w1 => some ((), w1)) else none)
set_option maxRecDepth 20000 in
theorem tX12_quotient_j124 (a2 : Int32) (a3 : Int32) (a4 : Int32) (w : xW) : xJ ιV mX12_quotient lM (0, 0) 124 [(0, .ref 0), (2, .int a2), (3, .int a3), (4, .int a4)] [] w (sX12_quotient_j124 a2 a3 a4 w) := by
  unfold sX12_quotient_j124
  refine xj_aloadn 0 dX12_quotient_124 rfl rfl ?_
  refine xj_iconst (v := 0) dX12_quotient_125 ci_0 ?_
  refine xj_iconst (v := 2) dX12_quotient_126 ci_2 ?_
  refine xj_iload 3 dX12_quotient_127 rfl ?_
  refine xj_sipush (v := 255) dX12_quotient_129 cs_255 ?_
  refine xj_iand dX12_quotient_132 ?_
  refine xj_iloadn 1 dX12_quotient_133 rfl rfl ?_
  refine xj_iloadn 2 dX12_quotient_134 rfl rfl ?_
  refine xj_irem dX12_quotient_135 ?_
  refine xj_sipush (v := 255) dX12_quotient_136 cs_255 ?_
  refine xj_iand dX12_quotient_139 ?_
  refine xj_bipush (v := 8) dX12_quotient_140 cb_8 ?_
  refine xj_ishl dX12_quotient_142 ?_
  refine xj_ior dX12_quotient_143 ?_
  refine xj_cVv (argv := [.int (0 : Int32), .int (2 : Int32), .int ((a4 &&& (255 : Int32)) ||| (((a2 - a2 / a3 * a3) &&& (255 : Int32)) <<< ((8 : Int32) &&& 31)))]) (rest := []) dX12_quotient_144 (kX12_setRegister (0 : Int32) (2 : Int32) ((a4 &&& (255 : Int32)) ||| (((a2 - a2 / a3 * a3) &&& (255 : Int32)) <<< ((8 : Int32) &&& 31))) w) mkX12_setRegister tw2336 rfl rfl rfl rfl rfl rfl (fun _ w1 => ?_)
  exact xj_rv dX12_quotient_147 rfl
set_option maxRecDepth 20000 in
def sX12_quotient_j83 (a2 : Int32) (a3 : Int32) (b0 : Int32) (w : xW) : Option (Unit × xW) :=
  (if (w.1 0 17) = (40 : Int32) then (if (255 : Int32) < b0 then xbd (sX12_traps w) (fun _ w3 => some ((), w3)) else sX12_quotient_j124 a2 a3 b0 w) else (if b0 < (-128 : Int32) then xbd (sX12_traps w) (fun _ w1 => some ((), w1)) else (if (127 : Int32) < b0 then xbd (sX12_traps w) (fun _ w2 => some ((), w2)) else sX12_quotient_j124 a2 a3 b0 w)))
set_option maxRecDepth 20000 in
theorem tX12_quotient_j83 (a2 : Int32) (a3 : Int32) (b0 : Int32) (w : xW) : xJ ιV mX12_quotient lM (0, 0) 83 [(0, .ref 0), (2, .int a2), (3, .int a3)] [.int b0] w (sX12_quotient_j83 a2 a3 b0 w) := by
  unfold sX12_quotient_j83
  refine xj_istore (lv2 := [(4, .int b0), (0, .ref 0), (2, .int a2), (3, .int a3)]) dX12_quotient_83 (Nat.le_of_ble_eq_true rfl) rfl ?_
  refine xj_aloadn 1 dX12_quotient_85 rfl rfl ?_
  refine gfX12_70 (v := (w.1 0 17)) dX12_quotient_86 rfl rfl ?_
  refine xj_bipush (v := 40) dX12_quotient_89 cb_40 ?_
  refine xj_ine (tgt := 105) dX12_quotient_91 rfl ?_ ?_
  · refine xj_iload 0 dX12_quotient_94 rfl ?_
    refine xj_sipush (v := 255) dX12_quotient_96 cs_255 ?_
    refine xj_ile (tgt := 124) dX12_quotient_99 rfl ?_ ?_
    · refine xj_goto (tgt := 119) dX12_quotient_102 rfl ?_
      refine xj_aloadn 1 dX12_quotient_119 rfl rfl ?_
      refine xj_cVv (argv := []) (rest := []) dX12_quotient_120 (kX12_traps w) mkX12_traps tw2388 rfl rfl rfl rfl rfl rfl (fun _ w3 => ?_)
      exact xj_rv dX12_quotient_123 rfl
    · refine xj_sub (lv2 := [(0, .ref 0), (2, .int a2), (3, .int a3), (4, .int b0)]) [1, 2, 3, 0] rfl ?_
      exact tX12_quotient_j124 _ _ _ _
  · refine xj_iload 0 dX12_quotient_105 rfl ?_
    refine xj_bipush (v := -128) dX12_quotient_107 cb_m128 ?_
    refine xj_ilt (tgt := 119) dX12_quotient_109 rfl ?_ ?_
    · refine xj_aloadn 1 dX12_quotient_119 rfl rfl ?_
      refine xj_cVv (argv := []) (rest := []) dX12_quotient_120 (kX12_traps w) mkX12_traps tw2388 rfl rfl rfl rfl rfl rfl (fun _ w1 => ?_)
      exact xj_rv dX12_quotient_123 rfl
    · refine xj_iload 0 dX12_quotient_112 rfl ?_
      refine xj_bipush (v := 127) dX12_quotient_114 cb_127 ?_
      refine xj_ile (tgt := 124) dX12_quotient_116 rfl ?_ ?_
      · refine xj_aloadn 1 dX12_quotient_119 rfl rfl ?_
        refine xj_cVv (argv := []) (rest := []) dX12_quotient_120 (kX12_traps w) mkX12_traps tw2388 rfl rfl rfl rfl rfl rfl (fun _ w2 => ?_)
        exact xj_rv dX12_quotient_123 rfl
      · refine xj_sub (lv2 := [(0, .ref 0), (2, .int a2), (3, .int a3), (4, .int b0)]) [1, 2, 3, 0] rfl ?_
        exact tX12_quotient_j124 _ _ _ _
set_option maxRecDepth 20000 in
def sX12_quotient_j69 (a2 : Int32) (b0 : Int32) (w : xW) : Option (Unit × xW) :=
  (if b0 = 0 then sX12_quotient_j83 a2 b0 (1000 : Int32) w else (if ¬ b0 = 0 then sX12_quotient_j83 a2 b0 (a2 / b0) w else none))
set_option maxRecDepth 20000 in
theorem tX12_quotient_j69 (a2 : Int32) (b0 : Int32) (w : xW) : xJ ιV mX12_quotient lM (0, 0) 69 [(0, .ref 0), (2, .int a2)] [.int b0] w (sX12_quotient_j69 a2 b0 w) := by
  unfold sX12_quotient_j69
  refine xj_istoren (lv2 := [(3, .int b0), (0, .ref 0), (2, .int a2)]) dX12_quotient_69 rfl (Nat.le_of_ble_eq_true rfl) rfl ?_
  refine xj_iloadn 0 dX12_quotient_70 rfl rfl ?_
  refine xj_ifne (tgt := 80) dX12_quotient_71 rfl ?_ ?_
  · refine xj_sipush (v := 1000) dX12_quotient_74 cs_1000 ?_
    refine xj_goto (tgt := 83) dX12_quotient_77 rfl ?_
    refine xj_sub (lv2 := [(0, .ref 0), (2, .int a2), (3, .int b0)]) [1, 2, 0] rfl ?_
    exact tX12_quotient_j83 _ _ _ _
  · refine xj_iloadn 2 dX12_quotient_80 rfl rfl ?_
    refine xj_iloadn 0 dX12_quotient_81 rfl rfl ?_
    refine xj_idiv dX12_quotient_82 ?_
    refine xj_sub (lv2 := [(0, .ref 0), (2, .int a2), (3, .int b0)]) [1, 2, 0] rfl ?_
    exact tX12_quotient_j83 _ _ _ _
set_option maxRecDepth 20000 in
def sX12_quotient_j49 (a1 : Int32) (b0 : Int32) (w : xW) : Option (Unit × xW) :=
  (if (w.1 0 17) = (40 : Int32) then sX12_quotient_j69 b0 (a1 &&& (255 : Int32)) w else sX12_quotient_j69 b0 a1.toInt8.toInt32 w)
set_option maxRecDepth 20000 in
theorem tX12_quotient_j49 (a1 : Int32) (b0 : Int32) (w : xW) : xJ ιV mX12_quotient lM (0, 0) 49 [(0, .ref 0), (1, .int a1)] [.int b0] w (sX12_quotient_j49 a1 b0 w) := by
  unfold sX12_quotient_j49
  refine xj_istoren (lv2 := [(2, .int b0), (0, .ref 0), (1, .int a1)]) dX12_quotient_49 rfl (Nat.le_of_ble_eq_true rfl) rfl ?_
  refine xj_aloadn 1 dX12_quotient_50 rfl rfl ?_
  refine gfX12_70 (v := (w.1 0 17)) dX12_quotient_51 rfl rfl ?_
  refine xj_bipush (v := 40) dX12_quotient_54 cb_40 ?_
  refine xj_ine (tgt := 67) dX12_quotient_56 rfl ?_ ?_
  · refine xj_iloadn 2 dX12_quotient_59 rfl rfl ?_
    refine xj_sipush (v := 255) dX12_quotient_60 cs_255 ?_
    refine xj_iand dX12_quotient_63 ?_
    refine xj_goto (tgt := 69) dX12_quotient_64 rfl ?_
    refine xj_sub (lv2 := [(0, .ref 0), (2, .int b0)]) [1, 0] rfl ?_
    exact tX12_quotient_j69 _ _ _
  · refine xj_iloadn 2 dX12_quotient_67 rfl rfl ?_
    refine xj_i2b dX12_quotient_68 ?_
    refine xj_sub (lv2 := [(0, .ref 0), (2, .int b0)]) [1, 0] rfl ?_
    exact tX12_quotient_j69 _ _ _
set_option maxRecDepth 20000 in
def sX12_quotient (w : xW) : Option (Unit × xW) :=
  xbd (sX12_getE w) (fun x1 w2 => (if (w2.1 0 45) = 0 then (if (w2.1 0 20) = (1 : Int32) then (if (w2.1 0 17) = (40 : Int32) then (if xin (0 : Int32) 8 then sX12_quotient_j49 x1 ((w2.1 9 ((0 : Int32).toNatClampNeg)) &&& (65535 : Int32)) w2 else none) else (if xin (0 : Int32) 8 then sX12_quotient_j49 x1 ((w2.1 9 ((0 : Int32).toNatClampNeg)).toInt16.toInt32) w2 else none)) else (if xin (2 : Int32) 8 then (if xin (0 : Int32) 8 then xlet ((xlshl ((w2.1 9 ((2 : Int32).toNatClampNeg)).toInt64) (32 : Int32)) ||| ((w2.1 9 ((0 : Int32).toNatClampNeg)).toInt64 &&& (4294967295 : Int64))) (fun x3 => (if (w2.1 0 17) = (40 : Int32) then xlet (x1.toInt64 &&& (4294967295 : Int64)) (fun x4 => (if xin (2 : Int32) 8 then xlet ((w2.1 9 ((2 : Int32).toNatClampNeg)).toInt64 &&& (4294967295 : Int64)) (fun x5 => (if x5 < x4 then sX12_quotient_l221 70000 x4 x5 (0 : Int32) (31 : Int32) w2 else xbd (sX12_traps w2) (fun _ w6 => some ((), w6)))) else none)) else (if x1 = 0 then sX12_quotient_j308 x1 x3 (0 : Int64) w2 else (if ¬ x1.toInt64 = 0 then sX12_quotient_j308 x1 x3 (x3 / x1.toInt64) w2 else none)))) else none) else none)) else some ((), w2)))
set_option maxRecDepth 20000 in
theorem tX12_quotient (w : xW) : xJ ιV mX12_quotient lM (0, 0) 0 [(0, .ref 0)] [] w (sX12_quotient w) := by
  unfold sX12_quotient
  refine xj_aloadn 0 dX12_quotient_0 rfl rfl ?_
  refine xj_cVi (argv := []) (rest := []) dX12_quotient_1 (kX12_getE w) mkX12_getE tw2298 rfl rfl rfl rfl rfl rfl (fun x1 w2 => ?_)
  refine xj_istoren (lv2 := [(1, .int x1), (0, .ref 0)]) dX12_quotient_4 rfl (Nat.le_of_ble_eq_true rfl) rfl ?_
  refine xj_aloadn 1 dX12_quotient_5 rfl rfl ?_
  refine gfX12_272 (v := (w2.1 0 45)) dX12_quotient_6 rfl rfl ?_
  refine xj_ifeq (tgt := 13) dX12_quotient_9 rfl ?_ ?_
  · refine xj_aloadn 1 dX12_quotient_13 rfl rfl ?_
    refine gfX12_76 (v := (w2.1 0 20)) dX12_quotient_14 rfl rfl ?_
    refine xj_iconst (v := 1) dX12_quotient_17 ci_1 ?_
    refine xj_ine (tgt := 148) dX12_quotient_18 rfl ?_ ?_
    · refine xj_aloadn 1 dX12_quotient_21 rfl rfl ?_
      refine gfX12_70 (v := (w2.1 0 17)) dX12_quotient_22 rfl rfl ?_
      refine xj_bipush (v := 40) dX12_quotient_25 cb_40 ?_
      refine xj_ine (tgt := 42) dX12_quotient_27 rfl ?_ ?_
      · refine xj_aloadn 1 dX12_quotient_30 rfl rfl ?_
        refine gfX12_44 dX12_quotient_31 rfl ?_
        refine xj_iconst (v := 0) dX12_quotient_34 ci_0 ?_
        refine xj_iald (k := 9) dX12_quotient_35 rfl ?_
        refine xj_ldc (v := 65535) tw2115 dX12_quotient_36 ?_
        refine xj_iand dX12_quotient_38 ?_
        refine xj_goto (tgt := 49) dX12_quotient_39 rfl ?_
        refine xj_sub (lv2 := [(0, .ref 0), (1, .int x1)]) [1, 0] rfl ?_
        exact tX12_quotient_j49 _ _ _
      · refine xj_aloadn 1 dX12_quotient_42 rfl rfl ?_
        refine gfX12_44 dX12_quotient_43 rfl ?_
        refine xj_iconst (v := 0) dX12_quotient_46 ci_0 ?_
        refine xj_iald (k := 9) dX12_quotient_47 rfl ?_
        refine xj_i2s dX12_quotient_48 ?_
        refine xj_sub (lv2 := [(0, .ref 0), (1, .int x1)]) [1, 0] rfl ?_
        exact tX12_quotient_j49 _ _ _
    · refine xj_aloadn 1 dX12_quotient_148 rfl rfl ?_
      refine gfX12_44 dX12_quotient_149 rfl ?_
      refine xj_iconst (v := 2) dX12_quotient_152 ci_2 ?_
      refine xj_iald (k := 9) dX12_quotient_153 rfl ?_
      refine xj_i2l dX12_quotient_154 ?_
      refine xj_bipush (v := 32) dX12_quotient_155 cb_32 ?_
      refine xj_lshl dX12_quotient_157 ?_
      refine xj_aloadn 1 dX12_quotient_158 rfl rfl ?_
      refine gfX12_44 dX12_quotient_159 rfl ?_
      refine xj_iconst (v := 0) dX12_quotient_162 ci_0 ?_
      refine xj_iald (k := 9) dX12_quotient_163 rfl ?_
      refine xj_i2l dX12_quotient_164 ?_
      refine xj_ldc2 (v := 4294967295) tw2157 dX12_quotient_165 ?_
      refine xj_land dX12_quotient_168 ?_
      refine xj_lor dX12_quotient_169 ?_
      refine xj_letl (fun x3 => ?_)
      refine xj_lstoren (lv2 := [(2, .long x3), (1, .int x1), (0, .ref 0)]) dX12_quotient_170 rfl (Nat.le_of_ble_eq_true rfl) rfl ?_
      refine xj_aloadn 2 dX12_quotient_171 rfl rfl ?_
      refine gfX12_70 (v := (w2.1 0 17)) dX12_quotient_172 rfl rfl ?_
      refine xj_bipush (v := 40) dX12_quotient_175 cb_40 ?_
      refine xj_ine (tgt := 296) dX12_quotient_177 rfl ?_ ?_
      · refine xj_iloadn 1 dX12_quotient_180 rfl rfl ?_
        refine xj_i2l dX12_quotient_181 ?_
        refine xj_ldc2 (v := 4294967295) tw2157 dX12_quotient_182 ?_
        refine xj_land dX12_quotient_185 ?_
        refine xj_letl (fun x4 => ?_)
        refine xj_lstore (lv2 := [(4, .long x4), (2, .long x3), (1, .int x1), (0, .ref 0)]) dX12_quotient_186 (Nat.le_of_ble_eq_true rfl) rfl ?_
        refine xj_aloadn 3 dX12_quotient_188 rfl rfl ?_
        refine gfX12_44 dX12_quotient_189 rfl ?_
        refine xj_iconst (v := 2) dX12_quotient_192 ci_2 ?_
        refine xj_iald (k := 9) dX12_quotient_193 rfl ?_
        refine xj_i2l dX12_quotient_194 ?_
        refine xj_ldc2 (v := 4294967295) tw2157 dX12_quotient_195 ?_
        refine xj_land dX12_quotient_198 ?_
        refine xj_letl (fun x5 => ?_)
        refine xj_lstore (lv2 := [(6, .long x5), (4, .long x4), (2, .long x3), (1, .int x1), (0, .ref 0)]) dX12_quotient_199 (Nat.le_of_ble_eq_true rfl) rfl ?_
        refine xj_lload 0 dX12_quotient_201 rfl ?_
        refine xj_lload 1 dX12_quotient_203 rfl ?_
        refine xj_llt (tgt := 214) dX12_quotient_205 dX12_quotient_206 rfl ?_ ?_
        · refine xj_iconst (v := 0) dX12_quotient_214 ci_0 ?_
          refine xj_istore (lv2 := [(8, .int (0 : Int32)), (6, .long x5), (4, .long x4), (2, .long x3), (1, .int x1), (0, .ref 0)]) dX12_quotient_215 (Nat.le_of_ble_eq_true rfl) rfl ?_
          refine xj_bipush (v := 31) dX12_quotient_217 cb_31 ?_
          refine xj_istore (lv2 := [(9, .int (31 : Int32)), (8, .int (0 : Int32)), (6, .long x5), (4, .long x4), (2, .long x3), (1, .int x1), (0, .ref 0)]) dX12_quotient_219 (Nat.le_of_ble_eq_true rfl) rfl ?_
          refine xj_sub (lv2 := [(0, .ref 0), (4, .long x4), (6, .long x5), (8, .int (0 : Int32)), (9, .int (31 : Int32))]) [6, 3, 2, 1, 0] rfl ?_
          exact tX12_quotient_l221 _ _ _ _ _ _
        · refine xj_aloadn 4 dX12_quotient_209 rfl rfl ?_
          refine xj_cVv (argv := []) (rest := []) dX12_quotient_210 (kX12_traps w2) mkX12_traps tw2388 rfl rfl rfl rfl rfl rfl (fun _ w6 => ?_)
          exact xj_rv dX12_quotient_213 rfl
      · refine xj_iloadn 1 dX12_quotient_296 rfl rfl ?_
        refine xj_ifne (tgt := 304) dX12_quotient_297 rfl ?_ ?_
        · refine xj_lconst (v := 0) dX12_quotient_300 cl_0 ?_
          refine xj_goto (tgt := 308) dX12_quotient_301 rfl ?_
          refine xj_sub (lv2 := [(0, .ref 0), (1, .int x1), (2, .long x3)]) [2, 1, 0] rfl ?_
          exact tX12_quotient_j308 _ _ _ _
        · refine xj_lloadn 0 dX12_quotient_304 rfl rfl ?_
          refine xj_iloadn 1 dX12_quotient_305 rfl rfl ?_
          refine xj_i2l dX12_quotient_306 ?_
          refine xj_ldiv dX12_quotient_307 ?_
          refine xj_sub (lv2 := [(0, .ref 0), (1, .int x1), (2, .long x3)]) [2, 1, 0] rfl ?_
          exact tX12_quotient_j308 _ _ _ _
  · exact xj_rv dX12_quotient_12 rfl
theorem kX12_quotient (w : xW) : xMet jV mX12_quotient lM (0, 0) [.ref 0] w (sX12_quotient w) := xj_met lM_ok (by decide) (Nat.le_of_ble_eq_true rfl) (Nat.zero_le _) (Nat.zero_le _) (tX12_quotient w)
set_option maxRecDepth 20000 in
def sX12_push (p1 : Int32) (w : xW) : Option (Unit × xW) :=
  (if xin (4 : Int32) 8 then (if xin (4 : Int32) 8 then (if xin (4 : Int32) 8 then xbd (sX12_write ((w.1 9 ((4 : Int32).toNatClampNeg)) - (4 : Int32)) p1 (4 : Int32) (xwi w 9 ((4 : Int32).toNatClampNeg) ((w.1 9 ((4 : Int32).toNatClampNeg)) - (4 : Int32)))) (fun _ w1 => some ((), w1)) else none) else none) else none)
set_option maxRecDepth 20000 in
theorem tX12_push (p1 : Int32) (w : xW) : xJ ιV mX12_push lM (0, 0) 0 [(0, .ref 0), (1, .int p1)] [] w (sX12_push p1 w) := by
  unfold sX12_push
  refine xj_aloadn 0 dX12_push_0 rfl rfl ?_
  refine gfX12_44 dX12_push_1 rfl ?_
  refine xj_iconst (v := 4) dX12_push_4 ci_4 ?_
  refine xj_dup2 dX12_push_5 rfl rfl ?_
  refine xj_iald (k := 9) dX12_push_6 rfl ?_
  refine xj_iconst (v := 4) dX12_push_7 ci_4 ?_
  refine xj_isub dX12_push_8 ?_
  refine xj_iast (k := 9) dX12_push_9 rfl ?_
  refine xj_aloadn 0 dX12_push_10 rfl rfl ?_
  refine xj_aloadn 0 dX12_push_11 rfl rfl ?_
  refine gfX12_44 dX12_push_12 rfl ?_
  refine xj_iconst (v := 4) dX12_push_15 ci_4 ?_
  refine xj_iald (k := 9) dX12_push_16 rfl ?_
  refine xj_iloadn 1 dX12_push_17 rfl rfl ?_
  refine xj_iconst (v := 4) dX12_push_18 ci_4 ?_
  refine xj_cVv (argv := [.int ((w.1 9 ((4 : Int32).toNatClampNeg)) - (4 : Int32)), .int p1, .int (4 : Int32)]) (rest := []) dX12_push_19 (kX12_write ((w.1 9 ((4 : Int32).toNatClampNeg)) - (4 : Int32)) p1 (4 : Int32) (xwi w 9 ((4 : Int32).toNatClampNeg) ((w.1 9 ((4 : Int32).toNatClampNeg)) - (4 : Int32)))) mkX12_write tw2346 rfl rfl rfl rfl rfl rfl (fun _ w1 => ?_)
  exact xj_rv dX12_push_22 rfl
theorem kX12_push (p1 : Int32) (w : xW) : xMet jV mX12_push lM (0, 0) [.ref 0, .int p1] w (sX12_push p1 w) := xj_met lM_ok (by decide) (Nat.le_of_ble_eq_true rfl) (Nat.zero_le _) (Nat.zero_le _) (tX12_push p1 w)
set_option maxRecDepth 20000 in
def sX12_pop (w : xW) : Option (Int32 × xW) :=
  (if xin (4 : Int32) 8 then xbd (sX12_read (w.1 9 ((4 : Int32).toNatClampNeg)) (4 : Int32) w) (fun x1 w2 => (if xin (4 : Int32) 8 then (if xin (4 : Int32) 8 then some (x1, (xwi w2 9 ((4 : Int32).toNatClampNeg) ((w2.1 9 ((4 : Int32).toNatClampNeg)) + (4 : Int32)))) else none) else none)) else none)
set_option maxRecDepth 20000 in
theorem tX12_pop (w : xW) : xJ ιI mX12_pop lM (0, 0) 0 [(0, .ref 0)] [] w (sX12_pop w) := by
  unfold sX12_pop
  refine xj_aloadn 0 dX12_pop_0 rfl rfl ?_
  refine xj_aloadn 0 dX12_pop_1 rfl rfl ?_
  refine gfX12_44 dX12_pop_2 rfl ?_
  refine xj_iconst (v := 4) dX12_pop_5 ci_4 ?_
  refine xj_iald (k := 9) dX12_pop_6 rfl ?_
  refine xj_iconst (v := 4) dX12_pop_7 ci_4 ?_
  refine xj_cVi (argv := [.int (w.1 9 ((4 : Int32).toNatClampNeg)), .int (4 : Int32)]) (rest := []) dX12_pop_8 (kX12_read (w.1 9 ((4 : Int32).toNatClampNeg)) (4 : Int32) w) mkX12_read tw2281 rfl rfl rfl rfl rfl rfl (fun x1 w2 => ?_)
  refine xj_istoren (lv2 := [(1, .int x1), (0, .ref 0)]) dX12_pop_11 rfl (Nat.le_of_ble_eq_true rfl) rfl ?_
  refine xj_aloadn 1 dX12_pop_12 rfl rfl ?_
  refine gfX12_44 dX12_pop_13 rfl ?_
  refine xj_iconst (v := 4) dX12_pop_16 ci_4 ?_
  refine xj_dup2 dX12_pop_17 rfl rfl ?_
  refine xj_iald (k := 9) dX12_pop_18 rfl ?_
  refine xj_iconst (v := 4) dX12_pop_19 ci_4 ?_
  refine xj_iadd dX12_pop_20 ?_
  refine xj_iast (k := 9) dX12_pop_21 rfl ?_
  refine xj_iloadn 0 dX12_pop_22 rfl rfl ?_
  exact xj_ri dX12_pop_23 rfl
theorem kX12_pop (w : xW) : xMet jI mX12_pop lM (0, 0) [.ref 0] w (sX12_pop w) := xj_met lM_ok (by decide) (Nat.le_of_ble_eq_true rfl) (Nat.zero_le _) (Nat.zero_le _) (tX12_pop w)
set_option maxRecDepth 20000 in
def sX12_doRest_j109 (a1 : Int32) (b0 : Int32) (w : xW) : Option (Int32 × xW) :=
  xbd (sX12_holds (w.1 0 19) (xwi w 0 46 b0)) (fun x1 w2 => (if x1 = 0 then xbd (sX12_setE (0 : Int32) w2) (fun _ w3 => some (a1, w3)) else xbd (sX12_setE (1 : Int32) w2) (fun _ w4 => some (a1, w4))))
set_option maxRecDepth 20000 in
theorem tX12_doRest_j109 (a1 : Int32) (b0 : Int32) (w : xW) : xJ ιI mX12_doRest lM (0, 0) 109 [(0, .ref 0), (1, .int a1)] [.int b0, .ref 0] w (sX12_doRest_j109 a1 b0 w) := by
  unfold sX12_doRest_j109
  refine pfX12_288 dX12_doRest_109 rfl ?_
  refine xj_aloadn 0 dX12_doRest_112 rfl rfl ?_
  refine xj_aloadn 0 dX12_doRest_113 rfl rfl ?_
  refine xj_aloadn 0 dX12_doRest_114 rfl rfl ?_
  refine gfX12_115 (v := (w.1 0 19)) dX12_doRest_115 rfl rfl ?_
  refine xj_cVi (argv := [.int (w.1 0 19)]) (rest := [.ref 0]) dX12_doRest_118 (kX12_holds (w.1 0 19) (xwi w 0 46 b0)) mkX12_holds tw2376 rfl rfl rfl rfl rfl rfl (fun x1 w2 => ?_)
  refine xj_ifeq (tgt := 128) dX12_doRest_121 rfl ?_ ?_
  · refine xj_iconst (v := 0) dX12_doRest_128 ci_0 ?_
    refine xj_cVv (argv := [.int (0 : Int32)]) (rest := []) dX12_doRest_129 (kX12_setE (0 : Int32) w2) mkX12_setE tw2342 rfl rfl rfl rfl rfl rfl (fun _ w3 => ?_)
    refine xj_iloadn 1 dX12_doRest_132 rfl rfl ?_
    exact xj_ri dX12_doRest_133 rfl
  · refine xj_iconst (v := 1) dX12_doRest_124 ci_1 ?_
    refine xj_goto (tgt := 129) dX12_doRest_125 rfl ?_
    refine xj_cVv (argv := [.int (1 : Int32)]) (rest := []) dX12_doRest_129 (kX12_setE (1 : Int32) w2) mkX12_setE tw2342 rfl rfl rfl rfl rfl rfl (fun _ w4 => ?_)
    refine xj_iloadn 1 dX12_doRest_132 rfl rfl ?_
    exact xj_ri dX12_doRest_133 rfl
set_option maxRecDepth 20000 in
def sX12_doRest_j188 (a1 : Int32) (w : xW) : Option (Int32 × xW) :=
  xbd (sX12_getE w) (fun x1 w2 => (if (w2.1 0 17) = (49 : Int32) then xbd (sX12_mask (w2.1 0 21) w2) (fun x3 w4 => (if xin (w2.1 0 23) 8 then some (a1, (xwi w4 9 ((w2.1 0 23).toNatClampNeg) (x1 &&& x3))) else none)) else (if (w2.1 0 21) = (1 : Int32) then (if xin (w2.1 0 23) 8 then some (a1, (xwi w2 9 ((w2.1 0 23).toNatClampNeg) x1.toInt8.toInt32)) else none) else (if xin (w2.1 0 23) 8 then some (a1, (xwi w2 9 ((w2.1 0 23).toNatClampNeg) x1.toInt16.toInt32)) else none))))
set_option maxRecDepth 20000 in
theorem tX12_doRest_j188 (a1 : Int32) (w : xW) : xJ ιI mX12_doRest lM (0, 0) 188 [(0, .ref 0), (1, .int a1)] [] w (sX12_doRest_j188 a1 w) := by
  unfold sX12_doRest_j188
  refine xj_aloadn 0 dX12_doRest_188 rfl rfl ?_
  refine xj_cVi (argv := []) (rest := []) dX12_doRest_189 (kX12_getE w) mkX12_getE tw2298 rfl rfl rfl rfl rfl rfl (fun x1 w2 => ?_)
  refine xj_istoren (lv2 := [(2, .int x1), (0, .ref 0), (1, .int a1)]) dX12_doRest_192 rfl (Nat.le_of_ble_eq_true rfl) rfl ?_
  refine xj_aloadn 1 dX12_doRest_193 rfl rfl ?_
  refine gfX12_44 dX12_doRest_194 rfl ?_
  refine xj_aloadn 1 dX12_doRest_197 rfl rfl ?_
  refine gfX12_85 (v := (w2.1 0 23)) dX12_doRest_198 rfl rfl ?_
  refine xj_aloadn 1 dX12_doRest_201 rfl rfl ?_
  refine gfX12_70 (v := (w2.1 0 17)) dX12_doRest_202 rfl rfl ?_
  refine xj_bipush (v := 49) dX12_doRest_205 cb_49 ?_
  refine xj_ine (tgt := 222) dX12_doRest_207 rfl ?_ ?_
  · refine xj_iloadn 0 dX12_doRest_210 rfl rfl ?_
    refine xj_aloadn 1 dX12_doRest_211 rfl rfl ?_
    refine gfX12_79 (v := (w2.1 0 21)) dX12_doRest_212 rfl rfl ?_
    refine xj_cSi (argv := [.int (w2.1 0 21)]) (rest := [.int x1, .int (w2.1 0 23), .ref 9]) dX12_doRest_215 (kX12_mask (w2.1 0 21) w2) mkX12_mask tw2318 rfl rfl rfl rfl (fun x3 w4 => ?_)
    refine xj_iand dX12_doRest_218 ?_
    refine xj_goto (tgt := 237) dX12_doRest_219 rfl ?_
    refine xj_iast (k := 9) dX12_doRest_237 rfl ?_
    refine xj_iloadn 2 dX12_doRest_238 rfl rfl ?_
    exact xj_ri dX12_doRest_239 rfl
  · refine xj_aloadn 1 dX12_doRest_222 rfl rfl ?_
    refine gfX12_79 (v := (w2.1 0 21)) dX12_doRest_223 rfl rfl ?_
    refine xj_iconst (v := 1) dX12_doRest_226 ci_1 ?_
    refine xj_ine (tgt := 235) dX12_doRest_227 rfl ?_ ?_
    · refine xj_iloadn 0 dX12_doRest_230 rfl rfl ?_
      refine xj_i2b dX12_doRest_231 ?_
      refine xj_goto (tgt := 237) dX12_doRest_232 rfl ?_
      refine xj_iast (k := 9) dX12_doRest_237 rfl ?_
      refine xj_iloadn 2 dX12_doRest_238 rfl rfl ?_
      exact xj_ri dX12_doRest_239 rfl
    · refine xj_iloadn 0 dX12_doRest_235 rfl rfl ?_
      refine xj_i2s dX12_doRest_236 ?_
      refine xj_iast (k := 9) dX12_doRest_237 rfl ?_
      refine xj_iloadn 2 dX12_doRest_238 rfl rfl ?_
      exact xj_ri dX12_doRest_239 rfl
set_option maxRecDepth 20000 in
def sX12_doRest_l279 : Nat → Int32 → Int32 → Int32 → xW → Option (Int32 × xW)
  | 0, _, _, _, _ => none
  | n + 1, a1, a2, a4, w =>
  (if ((xushr a2 a4) &&& (1 : Int32)) = 0 then (if (w.1 0 17) = (50 : Int32) then (sX12_doRest_l279 n) a1 a2 (a4 + (1 : Int32)) w else (sX12_doRest_l279 n) a1 a2 (a4 + (-1 : Int32)) w) else (if xin (w.1 0 23) 8 then some (a1, (xwi w 9 ((w.1 0 23).toNatClampNeg) a4)) else none))
set_option maxRecDepth 20000 in
theorem tX12_doRest_l279 : ∀ (n : Nat) (a1 : Int32) (a2 : Int32) (a4 : Int32) (w : xW), xJ ιI mX12_doRest lM (0, 0) 279 [(0, .ref 0), (1, .int a1), (2, .int a2), (4, .int a4)] [] w (sX12_doRest_l279 n a1 a2 a4 w) := by
  intro n
  induction n with
  | zero => intros; exact xj_none
  | succ n ih =>
    intro a1 a2 a4 w
    rw [sX12_doRest_l279]
    refine xj_iloadn 2 dX12_doRest_279 rfl rfl ?_
    refine xj_iload 3 dX12_doRest_280 rfl ?_
    refine xj_iushr dX12_doRest_282 ?_
    refine xj_iconst (v := 1) dX12_doRest_283 ci_1 ?_
    refine xj_iand dX12_doRest_284 ?_
    refine xj_ifne (tgt := 310) dX12_doRest_285 rfl ?_ ?_
    · refine xj_iload 3 dX12_doRest_288 rfl ?_
      refine xj_aloadn 0 dX12_doRest_290 rfl rfl ?_
      refine gfX12_70 (v := (w.1 0 17)) dX12_doRest_291 rfl rfl ?_
      refine xj_bipush (v := 50) dX12_doRest_294 cb_50 ?_
      refine xj_ine (tgt := 303) dX12_doRest_296 rfl ?_ ?_
      · refine xj_iconst (v := 1) dX12_doRest_299 ci_1 ?_
        refine xj_goto (tgt := 304) dX12_doRest_300 rfl ?_
        refine xj_iadd dX12_doRest_304 ?_
        refine xj_istore (lv2 := [(4, .int (a4 + (1 : Int32))), (0, .ref 0), (1, .int a1), (2, .int a2)]) dX12_doRest_305 (Nat.le_of_ble_eq_true rfl) rfl ?_
        refine xj_goto (tgt := 279) dX12_doRest_307 rfl ?_
        refine xj_sub (lv2 := [(0, .ref 0), (1, .int a1), (2, .int a2), (4, .int (a4 + (1 : Int32)))]) [1, 2, 3, 0] rfl ?_
        exact ih _ _ _ _
      · refine xj_iconst (v := -1) dX12_doRest_303 ci_m1 ?_
        refine xj_iadd dX12_doRest_304 ?_
        refine xj_istore (lv2 := [(4, .int (a4 + (-1 : Int32))), (0, .ref 0), (1, .int a1), (2, .int a2)]) dX12_doRest_305 (Nat.le_of_ble_eq_true rfl) rfl ?_
        refine xj_goto (tgt := 279) dX12_doRest_307 rfl ?_
        refine xj_sub (lv2 := [(0, .ref 0), (1, .int a1), (2, .int a2), (4, .int (a4 + (-1 : Int32)))]) [1, 2, 3, 0] rfl ?_
        exact ih _ _ _ _
    · refine xj_aloadn 0 dX12_doRest_310 rfl rfl ?_
      refine gfX12_44 dX12_doRest_311 rfl ?_
      refine xj_aloadn 0 dX12_doRest_314 rfl rfl ?_
      refine gfX12_85 (v := (w.1 0 23)) dX12_doRest_315 rfl rfl ?_
      refine xj_iload 3 dX12_doRest_318 rfl ?_
      refine xj_iast (k := 9) dX12_doRest_320 rfl ?_
      refine xj_iloadn 1 dX12_doRest_321 rfl rfl ?_
      exact xj_ri dX12_doRest_322 rfl
set_option maxRecDepth 20000 in
def sX12_doRest_j255 (a1 : Int32) (a2 : Int32) (b0 : Int32) (w : xW) : Option (Int32 × xW) :=
  (if xz b0 then (if a2 = 0 then some (a1, (xwi w 0 38 b0)) else (if (w.1 0 17) = (50 : Int32) then sX12_doRest_l279 70000 a1 a2 (0 : Int32) (xwi w 0 38 b0) else sX12_doRest_l279 70000 a1 a2 (31 : Int32) (xwi w 0 38 b0))) else none)
set_option maxRecDepth 20000 in
theorem tX12_doRest_j255 (a1 : Int32) (a2 : Int32) (b0 : Int32) (w : xW) : xJ ιI mX12_doRest lM (0, 0) 255 [(0, .ref 0), (1, .int a1), (2, .int a2)] [.int b0, .ref 0] w (sX12_doRest_j255 a1 a2 b0 w) := by
  unfold sX12_doRest_j255
  refine xj_guard (fun hz => ?_)
  refine pfX12_307 dX12_doRest_255 rfl hz ?_
  refine xj_iloadn 2 dX12_doRest_258 rfl rfl ?_
  refine xj_ifeq (tgt := 321) dX12_doRest_259 rfl ?_ ?_
  · refine xj_iloadn 1 dX12_doRest_321 rfl rfl ?_
    exact xj_ri dX12_doRest_322 rfl
  · refine xj_aloadn 0 dX12_doRest_262 rfl rfl ?_
    refine gfX12_70 (v := (w.1 0 17)) dX12_doRest_263 rfl rfl ?_
    refine xj_bipush (v := 50) dX12_doRest_266 cb_50 ?_
    refine xj_ine (tgt := 275) dX12_doRest_268 rfl ?_ ?_
    · refine xj_iconst (v := 0) dX12_doRest_271 ci_0 ?_
      refine xj_goto (tgt := 277) dX12_doRest_272 rfl ?_
      refine xj_istore (lv2 := [(4, .int (0 : Int32)), (0, .ref 0), (1, .int a1), (2, .int a2)]) dX12_doRest_277 (Nat.le_of_ble_eq_true rfl) rfl ?_
      refine xj_sub (lv2 := [(0, .ref 0), (1, .int a1), (2, .int a2), (4, .int (0 : Int32))]) [1, 2, 3, 0] rfl ?_
      exact tX12_doRest_l279 _ _ _ _ _
    · refine xj_bipush (v := 31) dX12_doRest_275 cb_31 ?_
      refine xj_istore (lv2 := [(4, .int (31 : Int32)), (0, .ref 0), (1, .int a1), (2, .int a2)]) dX12_doRest_277 (Nat.le_of_ble_eq_true rfl) rfl ?_
      refine xj_sub (lv2 := [(0, .ref 0), (1, .int a1), (2, .int a2), (4, .int (31 : Int32))]) [1, 2, 3, 0] rfl ?_
      exact tX12_doRest_l279 _ _ _ _ _
set_option maxRecDepth 20000 in
def sX12_doRest_j240 (a1 : Int32) (w : xW) : Option (Int32 × xW) :=
  xbd (sX12_getE w) (fun x1 w2 => (if x1 = 0 then sX12_doRest_j255 a1 x1 (1 : Int32) w2 else sX12_doRest_j255 a1 x1 (0 : Int32) w2))
set_option maxRecDepth 20000 in
theorem tX12_doRest_j240 (a1 : Int32) (w : xW) : xJ ιI mX12_doRest lM (0, 0) 240 [(0, .ref 0), (1, .int a1)] [] w (sX12_doRest_j240 a1 w) := by
  unfold sX12_doRest_j240
  refine xj_aloadn 0 dX12_doRest_240 rfl rfl ?_
  refine xj_cVi (argv := []) (rest := []) dX12_doRest_241 (kX12_getE w) mkX12_getE tw2298 rfl rfl rfl rfl rfl rfl (fun x1 w2 => ?_)
  refine xj_istoren (lv2 := [(2, .int x1), (0, .ref 0), (1, .int a1)]) dX12_doRest_244 rfl (Nat.le_of_ble_eq_true rfl) rfl ?_
  refine xj_aloadn 1 dX12_doRest_245 rfl rfl ?_
  refine xj_iloadn 0 dX12_doRest_246 rfl rfl ?_
  refine xj_ifne (tgt := 254) dX12_doRest_247 rfl ?_ ?_
  · refine xj_iconst (v := 1) dX12_doRest_250 ci_1 ?_
    refine xj_goto (tgt := 255) dX12_doRest_251 rfl ?_
    refine xj_sub (lv2 := [(0, .ref 0), (1, .int a1), (2, .int x1)]) [1, 2, 0] rfl ?_
    exact tX12_doRest_j255 _ _ _ _
  · refine xj_iconst (v := 0) dX12_doRest_254 ci_0 ?_
    refine xj_sub (lv2 := [(0, .ref 0), (1, .int a1), (2, .int x1)]) [1, 2, 0] rfl ?_
    exact tX12_doRest_j255 _ _ _ _
set_option maxRecDepth 20000 in
def sX12_doRest (p1 : Int32) (w : xW) : Option (Int32 × xW) :=
  xsw (w.1 0 17) (44) [xbd (sX12_getE w) (fun x1 w2 => xbd (sX12_holds (w2.1 0 19) w2) (fun x3 w4 => (if x3 = 0 then some (p1, w4) else (if xin (w4.1 0 23) 8 then some (p1, (xwi w4 9 ((w4.1 0 23).toNatClampNeg) x1)) else none)))), (if (w.1 0 22) = (3 : Int32) then sX12_doRest_j109 p1 (0 : Int32) w else xbd (sX12_address w) (fun x5 w6 => sX12_doRest_j109 p1 x5 w6)), xbd (sX12_doubles w) (fun _ w7 => some (p1, w7)), xbd (sX12_doubles w) (fun _ w8 => some (p1, w8)), xbd (sX12_getE w) (fun x9 w10 => (if xin (0 : Int32) 8 then xbd (sX12_difference (w10.1 9 ((0 : Int32).toNatClampNeg)) x9 (0 : Int32) (4 : Int32) w10) (fun x11 w12 => (if x11 = 0 then (if xin (w12.1 0 23) 8 then xbd (sX12_setE (w12.1 9 ((w12.1 0 23).toNatClampNeg)) w12) (fun _ w13 => some (p1, w13)) else none) else (if xin (0 : Int32) 8 then some (p1, (xwi w12 9 ((0 : Int32).toNatClampNeg) x9)) else none))) else none)), sX12_doRest_j188 p1 w, sX12_doRest_j240 p1 w, sX12_doRest_j240 p1 w, sX12_doRest_j188 p1 w, xbd (sX12_getE w) (fun x14 w15 => (if xin (w15.1 0 23) 8 then xlet (w15.1 9 ((w15.1 0 23).toNatClampNeg)) (fun x16 => xbd (sX12_sum x14 x16 (0 : Int32) (4 : Int32) w15) (fun x17 w18 => (if xin (w18.1 0 23) 8 then xbd (sX12_setE x17 (xwi w18 9 ((w18.1 0 23).toNatClampNeg) x14)) (fun _ w19 => some (p1, w19)) else none))) else none)), (if xin (w.1 0 24) 8 then xlet (w.1 9 ((w.1 0 24).toNatClampNeg)) (fun x20 => (if xin (w.1 0 24) 8 then some (p1, (xwi w 9 ((w.1 0 24).toNatClampNeg) ((((xushr x20 (24 : Int32)) ||| ((x20 >>> ((8 : Int32) &&& 31)) &&& (65280 : Int32))) ||| ((x20 &&& (65280 : Int32)) <<< ((8 : Int32) &&& 31))) ||| (x20 <<< ((24 : Int32) &&& 31))))) else none)) else none)] (some (p1, w))
set_option maxRecDepth 20000 in
theorem tX12_doRest (p1 : Int32) (w : xW) : xJ ιI mX12_doRest lM (0, 0) 0 [(0, .ref 0), (1, .int p1)] [] w (sX12_doRest p1 w) := by
  unfold sX12_doRest
  refine xj_aloadn 0 dX12_doRest_0 rfl rfl ?_
  refine gfX12_70 (v := (w.1 0 17)) dX12_doRest_1 rfl rfl ?_
  refine xj_tsw (tgtd := 416) [64, 92, 134, 134, 140, 188, 240, 240, 188, 323, 368] dX12_doRest_4 rfl rfl rfl rfl ?_ ⟨?_, ?_, ?_, ?_, ?_, ?_, ?_, ?_, ?_, ?_, ?_, trivial⟩
  · refine xj_iloadn 1 dX12_doRest_416 rfl rfl ?_
    exact xj_ri dX12_doRest_417 rfl
  · refine xj_aloadn 0 dX12_doRest_64 rfl rfl ?_
    refine xj_cVi (argv := []) (rest := []) dX12_doRest_65 (kX12_getE w) mkX12_getE tw2298 rfl rfl rfl rfl rfl rfl (fun x1 w2 => ?_)
    refine xj_istoren (lv2 := [(2, .int x1), (0, .ref 0), (1, .int p1)]) dX12_doRest_68 rfl (Nat.le_of_ble_eq_true rfl) rfl ?_
    refine xj_aloadn 1 dX12_doRest_69 rfl rfl ?_
    refine xj_aloadn 1 dX12_doRest_70 rfl rfl ?_
    refine gfX12_115 (v := (w2.1 0 19)) dX12_doRest_71 rfl rfl ?_
    refine xj_cVi (argv := [.int (w2.1 0 19)]) (rest := []) dX12_doRest_74 (kX12_holds (w2.1 0 19) w2) mkX12_holds tw2376 rfl rfl rfl rfl rfl rfl (fun x3 w4 => ?_)
    refine xj_ifeq (tgt := 90) dX12_doRest_77 rfl ?_ ?_
    · refine xj_iloadn 2 dX12_doRest_90 rfl rfl ?_
      exact xj_ri dX12_doRest_91 rfl
    · refine xj_aloadn 1 dX12_doRest_80 rfl rfl ?_
      refine gfX12_44 dX12_doRest_81 rfl ?_
      refine xj_aloadn 1 dX12_doRest_84 rfl rfl ?_
      refine gfX12_85 (v := (w4.1 0 23)) dX12_doRest_85 rfl rfl ?_
      refine xj_iloadn 0 dX12_doRest_88 rfl rfl ?_
      refine xj_iast (k := 9) dX12_doRest_89 rfl ?_
      refine xj_iloadn 2 dX12_doRest_90 rfl rfl ?_
      exact xj_ri dX12_doRest_91 rfl
  · refine xj_aloadn 0 dX12_doRest_92 rfl rfl ?_
    refine xj_aloadn 0 dX12_doRest_93 rfl rfl ?_
    refine gfX12_82 (v := (w.1 0 22)) dX12_doRest_94 rfl rfl ?_
    refine xj_iconst (v := 3) dX12_doRest_97 ci_3 ?_
    refine xj_ine (tgt := 105) dX12_doRest_98 rfl ?_ ?_
    · refine xj_iconst (v := 0) dX12_doRest_101 ci_0 ?_
      refine xj_goto (tgt := 109) dX12_doRest_102 rfl ?_
      exact tX12_doRest_j109 _ _ _
    · refine xj_aloadn 0 dX12_doRest_105 rfl rfl ?_
      refine xj_cVi (argv := []) (rest := [.ref 0]) dX12_doRest_106 (kX12_address w) mkX12_address tw2302 rfl rfl rfl rfl rfl rfl (fun x5 w6 => ?_)
      exact tX12_doRest_j109 _ _ _
  · refine xj_aloadn 0 dX12_doRest_134 rfl rfl ?_
    refine xj_cVv (argv := []) (rest := []) dX12_doRest_135 (kX12_doubles w) mkX12_doubles tw2396 rfl rfl rfl rfl rfl rfl (fun _ w7 => ?_)
    refine xj_iloadn 1 dX12_doRest_138 rfl rfl ?_
    exact xj_ri dX12_doRest_139 rfl
  · refine xj_aloadn 0 dX12_doRest_134 rfl rfl ?_
    refine xj_cVv (argv := []) (rest := []) dX12_doRest_135 (kX12_doubles w) mkX12_doubles tw2396 rfl rfl rfl rfl rfl rfl (fun _ w8 => ?_)
    refine xj_iloadn 1 dX12_doRest_138 rfl rfl ?_
    exact xj_ri dX12_doRest_139 rfl
  · refine xj_aloadn 0 dX12_doRest_140 rfl rfl ?_
    refine xj_cVi (argv := []) (rest := []) dX12_doRest_141 (kX12_getE w) mkX12_getE tw2298 rfl rfl rfl rfl rfl rfl (fun x9 w10 => ?_)
    refine xj_istoren (lv2 := [(2, .int x9), (0, .ref 0), (1, .int p1)]) dX12_doRest_144 rfl (Nat.le_of_ble_eq_true rfl) rfl ?_
    refine xj_aloadn 1 dX12_doRest_145 rfl rfl ?_
    refine xj_aloadn 1 dX12_doRest_146 rfl rfl ?_
    refine gfX12_44 dX12_doRest_147 rfl ?_
    refine xj_iconst (v := 0) dX12_doRest_150 ci_0 ?_
    refine xj_iald (k := 9) dX12_doRest_151 rfl ?_
    refine xj_iloadn 0 dX12_doRest_152 rfl rfl ?_
    refine xj_iconst (v := 0) dX12_doRest_153 ci_0 ?_
    refine xj_iconst (v := 4) dX12_doRest_154 ci_4 ?_
    refine xj_cVi (argv := [.int (w10.1 9 ((0 : Int32).toNatClampNeg)), .int x9, .int (0 : Int32), .int (4 : Int32)]) (rest := []) dX12_doRest_155 (kX12_difference (w10.1 9 ((0 : Int32).toNatClampNeg)) x9 (0 : Int32) (4 : Int32) w10) mkX12_difference tw2328 rfl rfl rfl rfl rfl rfl (fun x11 w12 => ?_)
    refine xj_istoren (lv2 := [(3, .int x11), (2, .int x9), (0, .ref 0), (1, .int p1)]) dX12_doRest_158 rfl (Nat.le_of_ble_eq_true rfl) rfl ?_
    refine xj_iloadn 0 dX12_doRest_159 rfl rfl ?_
    refine xj_ifne (tgt := 179) dX12_doRest_160 rfl ?_ ?_
    · refine xj_aloadn 2 dX12_doRest_163 rfl rfl ?_
      refine xj_aloadn 2 dX12_doRest_164 rfl rfl ?_
      refine gfX12_44 dX12_doRest_165 rfl ?_
      refine xj_aloadn 2 dX12_doRest_168 rfl rfl ?_
      refine gfX12_85 (v := (w12.1 0 23)) dX12_doRest_169 rfl rfl ?_
      refine xj_iald (k := 9) dX12_doRest_172 rfl ?_
      refine xj_cVv (argv := [.int (w12.1 9 ((w12.1 0 23).toNatClampNeg))]) (rest := []) dX12_doRest_173 (kX12_setE (w12.1 9 ((w12.1 0 23).toNatClampNeg)) w12) mkX12_setE tw2342 rfl rfl rfl rfl rfl rfl (fun _ w13 => ?_)
      refine xj_goto (tgt := 186) dX12_doRest_176 rfl ?_
      refine xj_iloadn 3 dX12_doRest_186 rfl rfl ?_
      exact xj_ri dX12_doRest_187 rfl
    · refine xj_aloadn 2 dX12_doRest_179 rfl rfl ?_
      refine gfX12_44 dX12_doRest_180 rfl ?_
      refine xj_iconst (v := 0) dX12_doRest_183 ci_0 ?_
      refine xj_iloadn 1 dX12_doRest_184 rfl rfl ?_
      refine xj_iast (k := 9) dX12_doRest_185 rfl ?_
      refine xj_iloadn 3 dX12_doRest_186 rfl rfl ?_
      exact xj_ri dX12_doRest_187 rfl
  · exact tX12_doRest_j188 _ _
  · exact tX12_doRest_j240 _ _
  · exact tX12_doRest_j240 _ _
  · exact tX12_doRest_j188 _ _
  · refine xj_aloadn 0 dX12_doRest_323 rfl rfl ?_
    refine xj_cVi (argv := []) (rest := []) dX12_doRest_324 (kX12_getE w) mkX12_getE tw2298 rfl rfl rfl rfl rfl rfl (fun x14 w15 => ?_)
    refine xj_istoren (lv2 := [(2, .int x14), (0, .ref 0), (1, .int p1)]) dX12_doRest_327 rfl (Nat.le_of_ble_eq_true rfl) rfl ?_
    refine xj_aloadn 1 dX12_doRest_328 rfl rfl ?_
    refine gfX12_44 dX12_doRest_329 rfl ?_
    refine xj_aloadn 1 dX12_doRest_332 rfl rfl ?_
    refine gfX12_85 (v := (w15.1 0 23)) dX12_doRest_333 rfl rfl ?_
    refine xj_iald (k := 9) dX12_doRest_336 rfl ?_
    refine xj_leti (fun x16 => ?_)
    refine xj_istore (lv2 := [(4, .int x16), (2, .int x14), (0, .ref 0), (1, .int p1)]) dX12_doRest_337 (Nat.le_of_ble_eq_true rfl) rfl ?_
    refine xj_aloadn 2 dX12_doRest_339 rfl rfl ?_
    refine xj_iloadn 1 dX12_doRest_340 rfl rfl ?_
    refine xj_iload 0 dX12_doRest_341 rfl ?_
    refine xj_iconst (v := 0) dX12_doRest_343 ci_0 ?_
    refine xj_iconst (v := 4) dX12_doRest_344 ci_4 ?_
    refine xj_cVi (argv := [.int x14, .int x16, .int (0 : Int32), .int (4 : Int32)]) (rest := []) dX12_doRest_345 (kX12_sum x14 x16 (0 : Int32) (4 : Int32) w15) mkX12_sum tw2314 rfl rfl rfl rfl rfl rfl (fun x17 w18 => ?_)
    refine xj_istore (lv2 := [(5, .int x17), (4, .int x16), (2, .int x14), (0, .ref 0), (1, .int p1)]) dX12_doRest_348 (Nat.le_of_ble_eq_true rfl) rfl ?_
    refine xj_aloadn 3 dX12_doRest_350 rfl rfl ?_
    refine gfX12_44 dX12_doRest_351 rfl ?_
    refine xj_aloadn 3 dX12_doRest_354 rfl rfl ?_
    refine gfX12_85 (v := (w18.1 0 23)) dX12_doRest_355 rfl rfl ?_
    refine xj_iloadn 2 dX12_doRest_358 rfl rfl ?_
    refine xj_iast (k := 9) dX12_doRest_359 rfl ?_
    refine xj_aloadn 3 dX12_doRest_360 rfl rfl ?_
    refine xj_iload 0 dX12_doRest_361 rfl ?_
    refine xj_cVv (argv := [.int x17]) (rest := []) dX12_doRest_363 (kX12_setE x17 (xwi w18 9 ((w18.1 0 23).toNatClampNeg) x14)) mkX12_setE tw2342 rfl rfl rfl rfl rfl rfl (fun _ w19 => ?_)
    refine xj_iloadn 4 dX12_doRest_366 rfl rfl ?_
    exact xj_ri dX12_doRest_367 rfl
  · refine xj_aloadn 0 dX12_doRest_368 rfl rfl ?_
    refine gfX12_44 dX12_doRest_369 rfl ?_
    refine xj_aloadn 0 dX12_doRest_372 rfl rfl ?_
    refine gfX12_88 (v := (w.1 0 24)) dX12_doRest_373 rfl rfl ?_
    refine xj_iald (k := 9) dX12_doRest_376 rfl ?_
    refine xj_leti (fun x20 => ?_)
    refine xj_istoren (lv2 := [(2, .int x20), (0, .ref 0), (1, .int p1)]) dX12_doRest_377 rfl (Nat.le_of_ble_eq_true rfl) rfl ?_
    refine xj_aloadn 1 dX12_doRest_378 rfl rfl ?_
    refine gfX12_44 dX12_doRest_379 rfl ?_
    refine xj_aloadn 1 dX12_doRest_382 rfl rfl ?_
    refine gfX12_88 (v := (w.1 0 24)) dX12_doRest_383 rfl rfl ?_
    refine xj_iloadn 0 dX12_doRest_386 rfl rfl ?_
    refine xj_bipush (v := 24) dX12_doRest_387 cb_24 ?_
    refine xj_iushr dX12_doRest_389 ?_
    refine xj_iloadn 0 dX12_doRest_390 rfl rfl ?_
    refine xj_bipush (v := 8) dX12_doRest_391 cb_8 ?_
    refine xj_ishr dX12_doRest_393 ?_
    refine xj_ldcw (v := 65280) tw2400 dX12_doRest_394 ?_
    refine xj_iand dX12_doRest_397 ?_
    refine xj_ior dX12_doRest_398 ?_
    refine xj_iloadn 0 dX12_doRest_399 rfl rfl ?_
    refine xj_ldcw (v := 65280) tw2400 dX12_doRest_400 ?_
    refine xj_iand dX12_doRest_403 ?_
    refine xj_bipush (v := 8) dX12_doRest_404 cb_8 ?_
    refine xj_ishl dX12_doRest_406 ?_
    refine xj_ior dX12_doRest_407 ?_
    refine xj_iloadn 0 dX12_doRest_408 rfl rfl ?_
    refine xj_bipush (v := 24) dX12_doRest_409 cb_24 ?_
    refine xj_ishl dX12_doRest_411 ?_
    refine xj_ior dX12_doRest_412 ?_
    refine xj_iast (k := 9) dX12_doRest_413 rfl ?_
    refine xj_iloadn 2 dX12_doRest_414 rfl rfl ?_
    exact xj_ri dX12_doRest_415 rfl
theorem kX12_doRest (p1 : Int32) (w : xW) : xMet jI mX12_doRest lM (0, 0) [.ref 0, .int p1] w (sX12_doRest p1 w) := xj_met lM_ok (by decide) (Nat.le_of_ble_eq_true rfl) (Nat.zero_le _) (Nat.zero_le _) (tX12_doRest p1 w)
