/-! the class, method by method: 6 -/
set_option maxRecDepth 20000 in
def sX11_stop_j11 (w : xW) : Option ((Int32 ⊕ Nat) × xW) :=
  some (.inr 11, w)
set_option maxRecDepth 20000 in
theorem tX11_stop_j11 (w : xW) : xJ ιTI mX11_stop lC (0, 0) 11 [] [] w (sX11_stop_j11 w) := by
  unfold sX11_stop_j11
  exact xj_stop
set_option maxRecDepth 20000 in
def sX11_stop (p1 : Int32) (p2 : Int32) (w : xW) : Option ((Int32 ⊕ Nat) × xW) :=
  (if p1 < 0 then sX11_stop_j11 w else (if p1 < (2048 : Int32) then (if xin p1 2048 then (if xin p1 2048 ∧ xz p2 then (if xz (w.1 11 p1.toNatClampNeg) then some (.inl (w.1 11 p1.toNatClampNeg), (xwi w 11 p1.toNatClampNeg p2)) else none) else none) else none) else sX11_stop_j11 w))
set_option maxRecDepth 20000 in
theorem tX11_stop (p1 : Int32) (p2 : Int32) (w : xW) : xJ ιTI mX11_stop lC (0, 0) 0 [(0, .ref 0), (1, .int p1), (2, .int p2)] [] w (sX11_stop p1 p2 w) := by
  unfold sX11_stop
  refine xj_iloadn 1 dX11_stop_0 rfl rfl ?_
  refine xj_iflt (tgt := 11) dX11_stop_1 rfl ?_ ?_
  · refine xj_sub (lv2 := []) [] rfl ?_
    exact tX11_stop_j11 _
  · refine xj_iloadn 1 dX11_stop_4 rfl rfl ?_
    refine xj_sipush (v := 2048) dX11_stop_5 cs_2048 ?_
    refine xj_ilt (tgt := 21) dX11_stop_8 rfl ?_ ?_
    · refine xj_aloadn 0 dX11_stop_21 rfl rfl ?_
      refine gfX11_77 dX11_stop_22 rfl ?_
      refine xj_iloadn 1 dX11_stop_25 rfl rfl ?_
      refine xj_zald (k := 11) dX11_stop_26 rfl ?_
      refine xj_istoren (lv2 := [(3, .int (w.1 11 p1.toNatClampNeg)), (0, .ref 0), (1, .int p1), (2, .int p2)]) dX11_stop_27 rfl (Nat.le_of_ble_eq_true rfl) rfl ?_
      refine xj_aloadn 1 dX11_stop_28 rfl rfl ?_
      refine gfX11_77 dX11_stop_29 rfl ?_
      refine xj_iloadn 2 dX11_stop_32 rfl rfl ?_
      refine xj_iloadn 3 dX11_stop_33 rfl rfl ?_
      refine xj_zast (k := 11) dX11_stop_34 rfl ?_
      refine xj_iloadn 0 dX11_stop_35 rfl rfl ?_
      exact xj_guard (fun h => xj_tz dX11_stop_36 rfl h)
    · refine xj_sub (lv2 := []) [] rfl ?_
      exact tX11_stop_j11 _
set_option maxRecDepth 20000 in
def sX11_told (p1 : Int32) (w : xW) : Option ((Int32 ⊕ Nat) × xW) :=
  xsw p1 (0) [some (.inl (w.1 8 10), w), some (.inl (w.1 8 11), w), some (.inl (w.1 8 12), w), some (.inl (w.1 7 4), w), some (.inl (w.1 7 5), w), some (.inl (w.1 7 6), w), some (.inl (w.1 7 7), w), some (.inl (w.1 9 0), w)] (some (.inr 115, w))
set_option maxRecDepth 20000 in
theorem tX11_told (p1 : Int32) (w : xW) : xJ ιTI mX11_told lC (0, 0) 0 [(0, .ref 0), (1, .int p1)] [] w (sX11_told p1 w) := by
  unfold sX11_told
  refine xj_iloadn 1 dX11_told_0 rfl rfl ?_
  refine xj_tsw (tgtd := 115) [48, 56, 64, 72, 80, 88, 96, 104] dX11_told_1 rfl rfl rfl rfl ?_ ⟨?_, ?_, ?_, ?_, ?_, ?_, ?_, ?_, trivial⟩
  · exact xj_stop
  · refine xj_aloadn 0 dX11_told_48 rfl rfl ?_
    refine gfX11_73 dX11_told_49 rfl ?_
    refine gfX11_102 (v := (w.1 8 10)) dX11_told_52 rfl rfl ?_
    exact xj_ti dX11_told_55 rfl
  · refine xj_aloadn 0 dX11_told_56 rfl rfl ?_
    refine gfX11_73 dX11_told_57 rfl ?_
    refine gfX11_180 (v := (w.1 8 11)) dX11_told_60 rfl rfl ?_
    exact xj_ti dX11_told_63 rfl
  · refine xj_aloadn 0 dX11_told_64 rfl rfl ?_
    refine gfX11_73 dX11_told_65 rfl ?_
    refine gfX11_192 (v := (w.1 8 12)) dX11_told_68 rfl rfl ?_
    exact xj_ti dX11_told_71 rfl
  · refine xj_aloadn 0 dX11_told_72 rfl rfl ?_
    refine gfX11_64 dX11_told_73 rfl ?_
    refine gfX11_195 (v := (w.1 7 4)) dX11_told_76 rfl rfl ?_
    exact xj_ti dX11_told_79 rfl
  · refine xj_aloadn 0 dX11_told_80 rfl rfl ?_
    refine gfX11_64 dX11_told_81 rfl ?_
    refine gfX11_156 (v := (w.1 7 5)) dX11_told_84 rfl rfl ?_
    exact xj_ti dX11_told_87 rfl
  · refine xj_aloadn 0 dX11_told_88 rfl rfl ?_
    refine gfX11_64 dX11_told_89 rfl ?_
    refine gfX11_198 (v := (w.1 7 6)) dX11_told_92 rfl rfl ?_
    exact xj_ti dX11_told_95 rfl
  · refine xj_aloadn 0 dX11_told_96 rfl rfl ?_
    refine gfX11_64 dX11_told_97 rfl ?_
    refine gfX11_201 (v := (w.1 7 7)) dX11_told_100 rfl rfl ?_
    exact xj_ti dX11_told_103 rfl
  · refine xj_aloadn 0 dX11_told_104 rfl rfl ?_
    refine gfX11_73 dX11_told_105 rfl ?_
    refine gfX11_204 dX11_told_108 rfl ?_
    refine gfX11_208 (v := (w.1 9 0)) dX11_told_111 rfl rfl ?_
    exact xj_ti dX11_told_114 rfl
set_option maxRecDepth 20000 in
def sX11_steps (w : xW) : Option (Int64 × xW) :=
  some ((w.2 8 13), w)
set_option maxRecDepth 20000 in
theorem tX11_steps (w : xW) : xJ ιL mX11_steps lC (0, 0) 0 [(0, .ref 0)] [] w (sX11_steps w) := by
  unfold sX11_steps
  refine xj_aloadn 0 dX11_steps_0 rfl rfl ?_
  refine gfX11_73 dX11_steps_1 rfl ?_
  refine gfX11_215 (v := (w.2 8 13)) dX11_steps_4 rfl rfl ?_
  exact xj_rl dX11_steps_7 rfl
theorem kX11_steps (w : xW) : xMet jL mX11_steps lC (0, 0) [.ref 0] w (sX11_steps w) := xj_met lC_ok (by decide) (Nat.le_of_ble_eq_true rfl) (Nat.zero_le _) (Nat.zero_le _) (tX11_steps w)
set_option maxRecDepth 20000 in
def sX11_register_j10 (w : xW) : Option ((Int32 ⊕ Nat) × xW) :=
  some (.inr 10, w)
set_option maxRecDepth 20000 in
theorem tX11_register_j10 (w : xW) : xJ ιTI mX11_register lC (0, 0) 10 [] [] w (sX11_register_j10 w) := by
  unfold sX11_register_j10
  exact xj_stop
set_option maxRecDepth 20000 in
def sX11_register (p1 : Int32) (w : xW) : Option ((Int32 ⊕ Nat) × xW) :=
  (if p1 < 0 then sX11_register_j10 w else (if (7 : Int32) < p1 then sX11_register_j10 w else (if xin p1 8 then some (.inl (w.1 20 p1.toNatClampNeg), w) else none)))
set_option maxRecDepth 20000 in
theorem tX11_register (p1 : Int32) (w : xW) : xJ ιTI mX11_register lC (0, 0) 0 [(0, .ref 0), (1, .int p1)] [] w (sX11_register p1 w) := by
  unfold sX11_register
  refine xj_iloadn 1 dX11_register_0 rfl rfl ?_
  refine xj_iflt (tgt := 10) dX11_register_1 rfl ?_ ?_
  · refine xj_sub (lv2 := []) [] rfl ?_
    exact tX11_register_j10 _
  · refine xj_iloadn 1 dX11_register_4 rfl rfl ?_
    refine xj_bipush (v := 7) dX11_register_5 cb_7 ?_
    refine xj_ile (tgt := 20) dX11_register_7 rfl ?_ ?_
    · refine xj_sub (lv2 := []) [] rfl ?_
      exact tX11_register_j10 _
    · refine xj_aloadn 0 dX11_register_20 rfl rfl ?_
      refine gfX11_73 dX11_register_21 rfl ?_
      refine gfX11_224 dX11_register_24 rfl ?_
      refine xj_iloadn 1 dX11_register_27 rfl rfl ?_
      refine xj_iald (k := 20) dX11_register_28 rfl ?_
      exact xj_ti dX11_register_29 rfl
set_option maxRecDepth 20000 in
def sX11_put_j10 (w : xW) : Option ((Int32 ⊕ Nat) × xW) :=
  some (.inr 10, w)
set_option maxRecDepth 20000 in
theorem tX11_put_j10 (w : xW) : xJ ιTI mX11_put lC (0, 0) 10 [] [] w (sX11_put_j10 w) := by
  unfold sX11_put_j10
  exact xj_stop
set_option maxRecDepth 20000 in
def sX11_put (p1 : Int32) (p2 : Int32) (w : xW) : Option ((Int32 ⊕ Nat) × xW) :=
  (if p1 < 0 then sX11_put_j10 w else (if (7 : Int32) < p1 then sX11_put_j10 w else (if (w.1 8 10) = 0 then some (.inr 30, w) else (if xin p1 8 then (if xin p1 8 then some (.inl (w.1 20 p1.toNatClampNeg), (xwi w 20 p1.toNatClampNeg p2)) else none) else none))))
set_option maxRecDepth 20000 in
theorem tX11_put (p1 : Int32) (p2 : Int32) (w : xW) : xJ ιTI mX11_put lC (0, 0) 0 [(0, .ref 0), (1, .int p1), (2, .int p2)] [] w (sX11_put p1 p2 w) := by
  unfold sX11_put
  refine xj_iloadn 1 dX11_put_0 rfl rfl ?_
  refine xj_iflt (tgt := 10) dX11_put_1 rfl ?_ ?_
  · refine xj_sub (lv2 := []) [] rfl ?_
    exact tX11_put_j10 _
  · refine xj_iloadn 1 dX11_put_4 rfl rfl ?_
    refine xj_bipush (v := 7) dX11_put_5 cb_7 ?_
    refine xj_ile (tgt := 20) dX11_put_7 rfl ?_ ?_
    · refine xj_sub (lv2 := []) [] rfl ?_
      exact tX11_put_j10 _
    · refine xj_aloadn 0 dX11_put_20 rfl rfl ?_
      refine gfX11_73 dX11_put_21 rfl ?_
      refine gfX11_102 (v := (w.1 8 10)) dX11_put_24 rfl rfl ?_
      refine xj_ifne (tgt := 40) dX11_put_27 rfl ?_ ?_
      · exact xj_stop
      · refine xj_aloadn 0 dX11_put_40 rfl rfl ?_
        refine gfX11_73 dX11_put_41 rfl ?_
        refine gfX11_224 dX11_put_44 rfl ?_
        refine xj_iloadn 1 dX11_put_47 rfl rfl ?_
        refine xj_iald (k := 20) dX11_put_48 rfl ?_
        refine xj_istoren (lv2 := [(3, .int (w.1 20 p1.toNatClampNeg)), (0, .ref 0), (1, .int p1), (2, .int p2)]) dX11_put_49 rfl (Nat.le_of_ble_eq_true rfl) rfl ?_
        refine xj_aloadn 1 dX11_put_50 rfl rfl ?_
        refine gfX11_73 dX11_put_51 rfl ?_
        refine gfX11_224 dX11_put_54 rfl ?_
        refine xj_iloadn 2 dX11_put_57 rfl rfl ?_
        refine xj_iloadn 3 dX11_put_58 rfl rfl ?_
        refine xj_iast (k := 20) dX11_put_59 rfl ?_
        refine xj_iloadn 0 dX11_put_60 rfl rfl ?_
        exact xj_ti dX11_put_61 rfl
set_option maxRecDepth 20000 in
def sX11_output (p1 : Int32) (w : xW) : Option (Int32 × xW) :=
  xbd (sX3_outputAt p1 w) (fun x1 w2 => some (x1, w2))
set_option maxRecDepth 20000 in
theorem tX11_output (p1 : Int32) (w : xW) : xJ ιI mX11_output lC (0, 0) 0 [(0, .ref 0), (1, .int p1)] [] w (sX11_output p1 w) := by
  unfold sX11_output
  refine xj_aloadn 0 dX11_output_0 rfl rfl ?_
  refine gfX11_64 dX11_output_1 rfl ?_
  refine xj_iloadn 1 dX11_output_4 rfl rfl ?_
  refine xj_cVi (argv := [.int p1]) (rest := []) dX11_output_5 (kX3_outputAt p1 w) mkX3_outputAt tw1447 rfl rfl rfl rfl rfl rfl (fun x1 w2 => ?_)
  exact xj_ri dX11_output_8 rfl
theorem kX11_output (p1 : Int32) (w : xW) : xMet jI mX11_output lC (0, 0) [.ref 0, .int p1] w (sX11_output p1 w) := xj_met lC_ok (by decide) (Nat.le_of_ble_eq_true rfl) (Nat.zero_le _) (Nat.zero_le _) (tX11_output p1 w)
set_option maxRecDepth 20000 in
def sX11_passed_j11 (w : xW) : Option ((Int32 ⊕ Nat) × xW) :=
  some (.inr 11, w)
set_option maxRecDepth 20000 in
theorem tX11_passed_j11 (w : xW) : xJ ιTI mX11_passed lC (0, 0) 11 [] [] w (sX11_passed_j11 w) := by
  unfold sX11_passed_j11
  exact xj_stop
set_option maxRecDepth 20000 in
def sX11_passed (p1 : Int32) (w : xW) : Option ((Int32 ⊕ Nat) × xW) :=
  (if p1 < 0 then sX11_passed_j11 w else (if p1 < (2048 : Int32) then (if xin p1 2048 then some (.inl (w.1 21 p1.toNatClampNeg), w) else none) else sX11_passed_j11 w))
set_option maxRecDepth 20000 in
theorem tX11_passed (p1 : Int32) (w : xW) : xJ ιTI mX11_passed lC (0, 0) 0 [(0, .ref 0), (1, .int p1)] [] w (sX11_passed p1 w) := by
  unfold sX11_passed
  refine xj_iloadn 1 dX11_passed_0 rfl rfl ?_
  refine xj_iflt (tgt := 11) dX11_passed_1 rfl ?_ ?_
  · refine xj_sub (lv2 := []) [] rfl ?_
    exact tX11_passed_j11 _
  · refine xj_iloadn 1 dX11_passed_4 rfl rfl ?_
    refine xj_sipush (v := 2048) dX11_passed_5 cs_2048 ?_
    refine xj_ilt (tgt := 21) dX11_passed_8 rfl ?_ ?_
    · refine xj_aloadn 0 dX11_passed_21 rfl rfl ?_
      refine gfX11_73 dX11_passed_22 rfl ?_
      refine gfX11_231 dX11_passed_25 rfl ?_
      refine xj_iloadn 1 dX11_passed_28 rfl rfl ?_
      refine xj_iald (k := 21) dX11_passed_29 rfl ?_
      exact xj_ti dX11_passed_30 rfl
    · refine xj_sub (lv2 := []) [] rfl ?_
      exact tX11_passed_j11 _
