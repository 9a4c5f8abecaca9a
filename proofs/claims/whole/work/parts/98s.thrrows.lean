/-! the methods that throw, over a room that holds the exception too -/
abbrev nX11_feed : xMd := (yX11_feed, cX11_feed, 4, (some .int), { frames := 6, cells := 1, slots := 6, locals := 82 })
set_option maxRecDepth 20000 in
theorem uX11_feed_j11 (w : xW) : xJ ιTI nX11_feed lC (0, 0) 11 [] [] w (sX11_feed_j11 w) := by
  unfold sX11_feed_j11
  exact xj_stop
set_option maxRecDepth 20000 in
theorem uX11_feed (p1 : Int32) (p2 : Int64) (w : xW) : xJ ιTI nX11_feed lC (0, 0) 0 [(0, .ref 0), (1, .int p1), (2, .long p2)] [] w (sX11_feed p1 p2 w) := by
  unfold sX11_feed
  refine xj_iloadn 1 dX11_feed_0 rfl rfl ?_
  refine xj_iconst (v := 1) dX11_feed_1 ci_1 ?_
  refine xj_ilt (tgt := 11) dX11_feed_2 rfl ?_ ?_
  · refine xj_sub (lv2 := []) [] rfl ?_
    exact uX11_feed_j11 _
  · refine xj_iloadn 1 dX11_feed_5 rfl rfl ?_
    refine xj_bipush (v := 8) dX11_feed_6 cb_8 ?_
    refine xj_ile (tgt := 21) dX11_feed_8 rfl ?_ ?_
    · refine xj_sub (lv2 := []) [] rfl ?_
      exact uX11_feed_j11 _
    · refine xj_aloadn 0 dX11_feed_21 rfl rfl ?_
      refine gfX11_10 dX11_feed_22 rfl ?_
      refine gfX11_88 (v := (w.1 1 1)) dX11_feed_25 rfl rfl ?_
      refine xj_iloadn 1 dX11_feed_28 rfl rfl ?_
      refine xj_iadd dX11_feed_29 ?_
      refine xj_sipush (v := 2048) dX11_feed_30 cs_2048 ?_
      refine xj_ile (tgt := 38) dX11_feed_33 rfl ?_ ?_
      · refine xj_iconst (v := -1) dX11_feed_36 ci_m1 ?_
        exact xj_ti dX11_feed_37 rfl
      · refine xj_aloadn 0 dX11_feed_38 rfl rfl ?_
        refine gfX11_10 dX11_feed_39 rfl ?_
        refine xj_iloadn 1 dX11_feed_42 rfl rfl ?_
        refine xj_lloadn 2 dX11_feed_43 rfl rfl ?_
        refine xj_cVv (argv := [.int p1, .long p2]) (rest := []) dX11_feed_44 (kX4_append p1 p2 w) mkX4_append tw1462 rfl rfl rfl rfl rfl rfl (fun _ w1 => ?_)
        refine xj_aloadn 0 dX11_feed_47 rfl rfl ?_
        refine xj_cVv (argv := []) (rest := []) dX11_feed_48 (kX11_forgetProgram w1) mkX11_forgetProgram tw606 rfl rfl rfl rfl rfl rfl (fun _ w2 => ?_)
        refine xj_aloadn 0 dX11_feed_51 rfl rfl ?_
        refine gfX11_10 dX11_feed_52 rfl ?_
        refine gfX11_88 (v := (w2.1 1 1)) dX11_feed_55 rfl rfl ?_
        exact xj_ti dX11_feed_58 rfl
abbrev nX11_poke : xMd := (yX11_poke, cX11_poke, 4, (some .int), { frames := 6, cells := 1, slots := 6, locals := 82 })
set_option maxRecDepth 20000 in
theorem uX11_poke_j29 (w : xW) : xJ ιTI nX11_poke lC (0, 0) 29 [] [] w (sX11_poke_j29 w) := by
  unfold sX11_poke_j29
  exact xj_stop
set_option maxRecDepth 20000 in
theorem uX11_poke (p1 : Int32) (p2 : Int32) (w : xW) : xJ ιTI nX11_poke lC (0, 0) 0 [(0, .ref 0), (1, .int p1), (2, .int p2)] [] w (sX11_poke p1 p2 w) := by
  unfold sX11_poke
  refine xj_iloadn 1 dX11_poke_0 rfl rfl ?_
  refine xj_lconst (v := 1) dX11_poke_1 cl_1 ?_
  refine xj_cSi (argv := [.int p1, .long (1 : Int64)]) (rest := []) dX11_poke_2 (kX8_inData p1 (1 : Int64) w) mkX8_inData tw1433 rfl rfl rfl rfl (fun x1 w2 => ?_)
  refine xj_ifne (tgt := 18) dX11_poke_5 rfl ?_ ?_
  · exact xj_stop
  · refine xj_iloadn 2 dX11_poke_18 rfl rfl ?_
    refine xj_iflt (tgt := 29) dX11_poke_19 rfl ?_ ?_
    · refine xj_sub (lv2 := []) [] rfl ?_
      exact uX11_poke_j29 _
    · refine xj_iloadn 2 dX11_poke_22 rfl rfl ?_
      refine xj_sipush (v := 255) dX11_poke_23 cs_255 ?_
      refine xj_ile (tgt := 39) dX11_poke_26 rfl ?_ ?_
      · refine xj_sub (lv2 := []) [] rfl ?_
        exact uX11_poke_j29 _
      · refine xj_aloadn 0 dX11_poke_39 rfl rfl ?_
        refine gfX11_55 dX11_poke_40 rfl ?_
        refine xj_iloadn 1 dX11_poke_43 rfl rfl ?_
        refine xj_cVi (argv := [.int p1]) (rest := []) dX11_poke_44 (kX8_dataAt p1 w2) mkX8_dataAt tw1434 rfl rfl rfl rfl rfl rfl (fun x3 w4 => ?_)
        refine xj_istoren (lv2 := [(3, .int x3), (0, .ref 0), (1, .int p1), (2, .int p2)]) dX11_poke_47 rfl (Nat.le_of_ble_eq_true rfl) rfl ?_
        refine xj_aloadn 1 dX11_poke_48 rfl rfl ?_
        refine gfX11_55 dX11_poke_49 rfl ?_
        refine xj_iloadn 2 dX11_poke_52 rfl rfl ?_
        refine xj_iloadn 3 dX11_poke_53 rfl rfl ?_
        refine xj_cVv (argv := [.int p1, .int p2]) (rest := []) dX11_poke_54 (kX8_setData p1 p2 w4) mkX8_setData tw1475 rfl rfl rfl rfl rfl rfl (fun _ w5 => ?_)
        refine xj_iloadn 0 dX11_poke_57 rfl rfl ?_
        exact xj_ti dX11_poke_58 rfl
abbrev nX11_give : xMd := (yX11_give, cX11_give, 4, (some .int), { frames := 6, cells := 1, slots := 6, locals := 82 })
set_option maxRecDepth 20000 in
theorem uX11_give_j11 (w : xW) : xJ ιTI nX11_give lC (0, 0) 11 [] [] w (sX11_give_j11 w) := by
  unfold sX11_give_j11
  exact xj_stop
set_option maxRecDepth 20000 in
theorem uX11_give (p1 : Int32) (p2 : Int64) (w : xW) : xJ ιTI nX11_give lC (0, 0) 0 [(0, .ref 0), (1, .int p1), (2, .long p2)] [] w (sX11_give p1 p2 w) := by
  unfold sX11_give
  refine xj_iloadn 1 dX11_give_0 rfl rfl ?_
  refine xj_iconst (v := 1) dX11_give_1 ci_1 ?_
  refine xj_ilt (tgt := 11) dX11_give_2 rfl ?_ ?_
  · refine xj_sub (lv2 := []) [] rfl ?_
    exact uX11_give_j11 _
  · refine xj_iloadn 1 dX11_give_5 rfl rfl ?_
    refine xj_bipush (v := 8) dX11_give_6 cb_8 ?_
    refine xj_ile (tgt := 21) dX11_give_8 rfl ?_ ?_
    · refine xj_sub (lv2 := []) [] rfl ?_
      exact uX11_give_j11 _
    · refine xj_aloadn 0 dX11_give_21 rfl rfl ?_
      refine gfX11_64 dX11_give_22 rfl ?_
      refine gfX11_156 (v := (w.1 7 5)) dX11_give_25 rfl rfl ?_
      refine xj_iloadn 1 dX11_give_28 rfl rfl ?_
      refine xj_iadd dX11_give_29 ?_
      refine xj_sipush (v := 256) dX11_give_30 cs_256 ?_
      refine xj_ile (tgt := 38) dX11_give_33 rfl ?_ ?_
      · refine xj_iconst (v := -1) dX11_give_36 ci_m1 ?_
        exact xj_ti dX11_give_37 rfl
      · refine xj_aloadn 0 dX11_give_38 rfl rfl ?_
        refine gfX11_64 dX11_give_39 rfl ?_
        refine xj_iloadn 1 dX11_give_42 rfl rfl ?_
        refine xj_lloadn 2 dX11_give_43 rfl rfl ?_
        refine xj_cVv (argv := [.int p1, .long p2]) (rest := []) dX11_give_44 (kX3_take p1 p2 w) mkX3_take tw1486 rfl rfl rfl rfl rfl rfl (fun _ w1 => ?_)
        refine xj_aloadn 0 dX11_give_47 rfl rfl ?_
        refine gfX11_64 dX11_give_48 rfl ?_
        refine gfX11_156 (v := (w1.1 7 5)) dX11_give_51 rfl rfl ?_
        exact xj_ti dX11_give_54 rfl
abbrev nX11_begin : xMd := (yX11_begin, cX11_begin, 2, none, { frames := 6, cells := 1, slots := 6, locals := 82 })
set_option maxRecDepth 20000 in
theorem uX11_begin_j24 (w : xW) : xJ ιTV nX11_begin lC (0, 0) 24 [(0, .ref 0)] [] w (sX11_begin_j24 w) := by
  unfold sX11_begin_j24
  refine xj_aloadn 0 dX11_begin_24 rfl rfl ?_
  refine gfX11_10 dX11_begin_25 rfl ?_
  refine gfX11_88 (v := (w.1 1 1)) dX11_begin_28 rfl rfl ?_
  refine xj_ifne (tgt := 44) dX11_begin_31 rfl ?_ ?_
  · exact xj_stop
  · refine xj_aloadn 0 dX11_begin_44 rfl rfl ?_
    refine gfX11_64 dX11_begin_45 rfl ?_
    refine xj_cVv (argv := []) (rest := []) dX11_begin_48 (kX3_restart w) mkX3_restart tw1515 rfl rfl rfl rfl rfl rfl (fun _ w1 => ?_)
    refine xj_aloadn 0 dX11_begin_51 rfl rfl ?_
    refine gfX11_73 dX11_begin_52 rfl ?_
    refine xj_cVv (argv := []) (rest := []) dX11_begin_55 (kX7_restart w1) mkX7_restart tw1519 rfl rfl rfl rfl rfl rfl (fun _ w2 => ?_)
    refine xj_aloadn 0 dX11_begin_58 rfl rfl ?_
    refine gfX11_73 dX11_begin_59 rfl ?_
    refine xj_iconst (v := 1) dX11_begin_62 ci_1 ?_
    refine pfX11_102 dX11_begin_63 rfl ?_
    exact xj_tv dX11_begin_66 rfl
set_option maxRecDepth 20000 in
theorem uX11_begin (p1 : Int32) (w : xW) : xJ ιTV nX11_begin lC (0, 0) 0 [(0, .ref 0), (1, .int p1)] [] w (sX11_begin p1 w) := by
  unfold sX11_begin
  refine xj_aloadn 0 dX11_begin_0 rfl rfl ?_
  refine gfX11_37 dX11_begin_1 rfl ?_
  refine gfX11_115 (v := (w.1 4 9)) dX11_begin_4 rfl rfl ?_
  refine xj_ifne (tgt := 24) dX11_begin_7 rfl ?_ ?_
  · refine xj_iloadn 1 dX11_begin_10 rfl rfl ?_
    refine xj_ifne (tgt := 24) dX11_begin_11 rfl ?_ ?_
    · exact xj_stop
    · refine xj_sub (lv2 := [(0, .ref 0)]) [0] rfl ?_
      exact uX11_begin_j24 _
  · refine xj_sub (lv2 := [(0, .ref 0)]) [0] rfl ?_
    exact uX11_begin_j24 _
abbrev nX11_run : xMd := (yX11_run, cX11_run, 4, (some .int), { frames := 7, cells := 1, slots := 6, locals := 181 })
set_option maxRecDepth 20000 in
theorem uX11_run_j11 (w : xW) : xJ ιTI nX11_run lC (0, 0) 11 [] [] w (sX11_run_j11 w) := by
  unfold sX11_run_j11
  exact xj_stop
set_option maxRecDepth 20000 in
theorem uX11_run_j98 (K52 : Int32 → Int32 → Int32 → xW → Option ((Int32 ⊕ Nat) × xW)) (hK52 : ∀ (a1 : Int32) (a2 : Int32) (a3 : Int32) (w : xW), xJ ιTI nX11_run lC (0, 0) 52 [(0, .ref 0), (1, .int a1), (2, .int a2), (3, .int a3)] [] w (K52 a1 a2 a3 w)) (a1 : Int32) (a2 : Int32) (a3 : Int32) (w : xW) : xJ ιTI nX11_run lC (0, 0) 98 [(0, .ref 0), (1, .int a1), (2, .int a2), (3, .int a3)] [] w (sX11_run_j98 K52 a1 a2 a3 w) := by
  unfold sX11_run_j98
  refine xj_aloadn 0 dX11_run_98 rfl rfl ?_
  refine gfX11_73 dX11_run_99 rfl ?_
  refine xj_cVi (argv := []) (rest := []) dX11_run_102 (kX7_step w) mkX7_step tw1537 rfl rfl rfl rfl rfl rfl (fun x1 w2 => ?_)
  refine xj_ifeq (tgt := 111) dX11_run_105 rfl ?_ ?_
  · refine xj_iinc (n := 3) (lv2 := [(3, .int (a3 + (1 : Int32))), (0, .ref 0), (1, .int a1), (2, .int a2)]) dX11_run_111 rfl ci_1 (Nat.le_of_ble_eq_true rfl) rfl ?_
    refine xj_goto (tgt := 52) dX11_run_114 rfl ?_
    refine xj_sub (lv2 := [(0, .ref 0), (1, .int a1), (2, .int a2), (3, .int (a3 + (1 : Int32)))]) [1, 2, 3, 0] rfl ?_
    exact hK52 _ _ _ _
  · refine xj_iinc (n := 2) (lv2 := [(2, .int (a2 + (1 : Int32))), (0, .ref 0), (1, .int a1), (3, .int a3)]) dX11_run_108 rfl ci_1 (Nat.le_of_ble_eq_true rfl) rfl ?_
    refine xj_iinc (n := 3) (lv2 := [(3, .int (a3 + (1 : Int32))), (2, .int (a2 + (1 : Int32))), (0, .ref 0), (1, .int a1)]) dX11_run_111 rfl ci_1 (Nat.le_of_ble_eq_true rfl) rfl ?_
    refine xj_goto (tgt := 52) dX11_run_114 rfl ?_
    refine xj_sub (lv2 := [(0, .ref 0), (1, .int a1), (2, .int (a2 + (1 : Int32))), (3, .int (a3 + (1 : Int32)))]) [2, 3, 1, 0] rfl ?_
    exact hK52 _ _ _ _
set_option maxRecDepth 20000 in
theorem uX11_run_l52 : ∀ (n : Nat) (a1 : Int32) (a2 : Int32) (a3 : Int32) (w : xW), xJ ιTI nX11_run lC (0, 0) 52 [(0, .ref 0), (1, .int a1), (2, .int a2), (3, .int a3)] [] w (sX11_run_l52 n a1 a2 a3 w) := by
  intro n
  induction n with
  | zero => intros; exact xj_none
  | succ n ih =>
    intro a1 a2 a3 w
    rw [sX11_run_l52]
    refine xj_iloadn 3 dX11_run_52 rfl rfl ?_
    refine xj_iloadn 1 dX11_run_53 rfl rfl ?_
    refine xj_ige (tgt := 117) dX11_run_54 rfl ?_ ?_
    · refine xj_aloadn 0 dX11_run_57 rfl rfl ?_
      refine gfX11_73 dX11_run_58 rfl ?_
      refine gfX11_102 (v := (w.1 8 10)) dX11_run_61 rfl rfl ?_
      refine xj_iconst (v := 1) dX11_run_64 ci_1 ?_
      refine xj_ine (tgt := 117) dX11_run_65 rfl ?_ ?_
      · refine xj_iloadn 3 dX11_run_68 rfl rfl ?_
        refine xj_ifle (tgt := 98) dX11_run_69 rfl ?_ ?_
        · refine xj_aloadn 0 dX11_run_72 rfl rfl ?_
          refine xj_aloadn 0 dX11_run_73 rfl rfl ?_
          refine gfX11_73 dX11_run_74 rfl ?_
          refine gfX11_180 (v := (w.1 8 11)) dX11_run_77 rfl rfl ?_
          refine xj_cVi (argv := [.int (w.1 8 11)]) (rest := []) dX11_run_80 (kX11_hasBreakpoint (w.1 8 11) w) mkX11_hasBreakpoint tw1533 rfl rfl rfl rfl rfl rfl (fun x1 w2 => ?_)
          refine xj_ifeq (tgt := 98) dX11_run_83 rfl ?_ ?_
          · exact uX11_run_j98 (sX11_run_l52 n) ih _ _ _ _
          · refine xj_aloadn 0 dX11_run_86 rfl rfl ?_
            refine gfX11_73 dX11_run_87 rfl ?_
            refine xj_bipush (v := 8) dX11_run_90 cb_8 ?_
            refine pfX11_102 dX11_run_92 rfl ?_
            refine xj_goto (tgt := 111) dX11_run_95 rfl ?_
            refine xj_iinc (n := 3) (lv2 := [(3, .int (a3 + (1 : Int32))), (0, .ref 0), (1, .int a1), (2, .int a2)]) dX11_run_111 rfl ci_1 (Nat.le_of_ble_eq_true rfl) rfl ?_
            refine xj_goto (tgt := 52) dX11_run_114 rfl ?_
            refine xj_sub (lv2 := [(0, .ref 0), (1, .int a1), (2, .int a2), (3, .int (a3 + (1 : Int32)))]) [1, 2, 3, 0] rfl ?_
            exact ih _ _ _ _
        · exact uX11_run_j98 (sX11_run_l52 n) ih _ _ _ _
      · refine xj_iloadn 2 dX11_run_117 rfl rfl ?_
        exact xj_ti dX11_run_118 rfl
    · refine xj_iloadn 2 dX11_run_117 rfl rfl ?_
      exact xj_ti dX11_run_118 rfl
set_option maxRecDepth 20000 in
theorem uX11_run (p1 : Int32) (w : xW) : xJ ιTI nX11_run lC (0, 0) 0 [(0, .ref 0), (1, .int p1)] [] w (sX11_run p1 w) := by
  unfold sX11_run
  refine xj_iloadn 1 dX11_run_0 rfl rfl ?_
  refine xj_iflt (tgt := 11) dX11_run_1 rfl ?_ ?_
  · refine xj_sub (lv2 := []) [] rfl ?_
    exact uX11_run_j11 _
  · refine xj_iloadn 1 dX11_run_4 rfl rfl ?_
    refine xj_sipush (v := 10000) dX11_run_5 cs_10000 ?_
    refine xj_ile (tgt := 21) dX11_run_8 rfl ?_ ?_
    · refine xj_sub (lv2 := []) [] rfl ?_
      exact uX11_run_j11 _
    · refine xj_aloadn 0 dX11_run_21 rfl rfl ?_
      refine gfX11_73 dX11_run_22 rfl ?_
      refine gfX11_102 (v := (w.1 8 10)) dX11_run_25 rfl rfl ?_
      refine xj_ifne (tgt := 41) dX11_run_28 rfl ?_ ?_
      · exact xj_stop
      · refine xj_aloadn 0 dX11_run_41 rfl rfl ?_
        refine gfX11_73 dX11_run_42 rfl ?_
        refine xj_cVv (argv := []) (rest := []) dX11_run_45 (kX7_wake w) mkX7_wake tw1529 rfl rfl rfl rfl rfl rfl (fun _ w1 => ?_)
        refine xj_iconst (v := 0) dX11_run_48 ci_0 ?_
        refine xj_istoren (lv2 := [(2, .int (0 : Int32)), (0, .ref 0), (1, .int p1)]) dX11_run_49 rfl (Nat.le_of_ble_eq_true rfl) rfl ?_
        refine xj_iconst (v := 0) dX11_run_50 ci_0 ?_
        refine xj_istoren (lv2 := [(3, .int (0 : Int32)), (2, .int (0 : Int32)), (0, .ref 0), (1, .int p1)]) dX11_run_51 rfl (Nat.le_of_ble_eq_true rfl) rfl ?_
        refine xj_sub (lv2 := [(0, .ref 0), (1, .int p1), (2, .int (0 : Int32)), (3, .int (0 : Int32))]) [2, 3, 1, 0] rfl ?_
        exact uX11_run_l52 _ _ _ _ _
abbrev nX11_stop : xMd := (yX11_stop, cX11_stop, 4, (some .boolean), { frames := 6, cells := 1, slots := 6, locals := 82 })
set_option maxRecDepth 20000 in
theorem uX11_stop_j11 (w : xW) : xJ ιTI nX11_stop lC (0, 0) 11 [] [] w (sX11_stop_j11 w) := by
  unfold sX11_stop_j11
  exact xj_stop
set_option maxRecDepth 20000 in
theorem uX11_stop (p1 : Int32) (p2 : Int32) (w : xW) : xJ ιTI nX11_stop lC (0, 0) 0 [(0, .ref 0), (1, .int p1), (2, .int p2)] [] w (sX11_stop p1 p2 w) := by
  unfold sX11_stop
  refine xj_iloadn 1 dX11_stop_0 rfl rfl ?_
  refine xj_iflt (tgt := 11) dX11_stop_1 rfl ?_ ?_
  · refine xj_sub (lv2 := []) [] rfl ?_
    exact uX11_stop_j11 _
  · refine xj_iloadn 1 dX11_stop_4 rfl rfl ?_
    refine xj_sipush (v := 2048) dX11_stop_5 cs_2048 ?_
    refine xj_ilt (tgt := 21) dX11_stop_8 rfl ?_ ?_
    · refine xj_aloadn 0 dX11_stop_21 rfl rfl ?_
      refine gfX11_77 dX11_stop_22 rfl ?_
      refine xj_iloadn 1 dX11_stop_25 rfl rfl ?_
      refine xj_zald (k := 11) dX11_stop_26 rfl ?_
      refine xj_istoren (lv2 := [(3, .int (w.1 11 p1.toNatClampNeg)), (0, .ref 0), (1, .int p1), (2, .int p2)]) dX11_stop_27 rfl (Nat.le_of_ble_eq_true rfl) rfl ?_
      refine xj_aloadn 1 dX11_stop_28 rfl rfl ?_
      refine gfX11_77 dX11_stop_29 rfl ?_
      refine xj_iloadn 2 dX11_stop_32 rfl rfl ?_
      refine xj_iloadn 3 dX11_stop_33 rfl rfl ?_
      refine xj_zast (k := 11) dX11_stop_34 rfl ?_
      refine xj_iloadn 0 dX11_stop_35 rfl rfl ?_
      exact xj_guard (fun h => xj_tz dX11_stop_36 rfl h)
    · refine xj_sub (lv2 := []) [] rfl ?_
      exact uX11_stop_j11 _
abbrev nX11_told : xMd := (yX11_told, cX11_told, 2, (some .int), { frames := 6, cells := 1, slots := 6, locals := 82 })
set_option maxRecDepth 20000 in
theorem uX11_told (p1 : Int32) (w : xW) : xJ ιTI nX11_told lC (0, 0) 0 [(0, .ref 0), (1, .int p1)] [] w (sX11_told p1 w) := by
  unfold sX11_told
  refine xj_iloadn 1 dX11_told_0 rfl rfl ?_
  refine xj_tsw (tgtd := 115) [48, 56, 64, 72, 80, 88, 96, 104] dX11_told_1 rfl rfl rfl rfl ?_ ⟨?_, ?_, ?_, ?_, ?_, ?_, ?_, ?_, trivial⟩
  · exact xj_stop
  · refine xj_aloadn 0 dX11_told_48 rfl rfl ?_
    refine gfX11_73 dX11_told_49 rfl ?_
    refine gfX11_102 (v := (w.1 8 10)) dX11_told_52 rfl rfl ?_
    exact xj_ti dX11_told_55 rfl
  · refine xj_aloadn 0 dX11_told_56 rfl rfl ?_
    refine gfX11_73 dX11_told_57 rfl ?_
    refine gfX11_180 (v := (w.1 8 11)) dX11_told_60 rfl rfl ?_
    exact xj_ti dX11_told_63 rfl
  · refine xj_aloadn 0 dX11_told_64 rfl rfl ?_
    refine gfX11_73 dX11_told_65 rfl ?_
    refine gfX11_192 (v := (w.1 8 12)) dX11_told_68 rfl rfl ?_
    exact xj_ti dX11_told_71 rfl
  · refine xj_aloadn 0 dX11_told_72 rfl rfl ?_
    refine gfX11_64 dX11_told_73 rfl ?_
    refine gfX11_195 (v := (w.1 7 4)) dX11_told_76 rfl rfl ?_
    exact xj_ti dX11_told_79 rfl
  · refine xj_aloadn 0 dX11_told_80 rfl rfl ?_
    refine gfX11_64 dX11_told_81 rfl ?_
    refine gfX11_156 (v := (w.1 7 5)) dX11_told_84 rfl rfl ?_
    exact xj_ti dX11_told_87 rfl
  · refine xj_aloadn 0 dX11_told_88 rfl rfl ?_
    refine gfX11_64 dX11_told_89 rfl ?_
    refine gfX11_198 (v := (w.1 7 6)) dX11_told_92 rfl rfl ?_
    exact xj_ti dX11_told_95 rfl
  · refine xj_aloadn 0 dX11_told_96 rfl rfl ?_
    refine gfX11_64 dX11_told_97 rfl ?_
    refine gfX11_201 (v := (w.1 7 7)) dX11_told_100 rfl rfl ?_
    exact xj_ti dX11_told_103 rfl
  · refine xj_aloadn 0 dX11_told_104 rfl rfl ?_
    refine gfX11_73 dX11_told_105 rfl ?_
    refine gfX11_204 dX11_told_108 rfl ?_
    refine gfX11_208 (v := (w.1 9 0)) dX11_told_111 rfl rfl ?_
    exact xj_ti dX11_told_114 rfl
abbrev nX11_register : xMd := (yX11_register, cX11_register, 2, (some .int), { frames := 6, cells := 1, slots := 6, locals := 82 })
set_option maxRecDepth 20000 in
theorem uX11_register_j10 (w : xW) : xJ ιTI nX11_register lC (0, 0) 10 [] [] w (sX11_register_j10 w) := by
  unfold sX11_register_j10
  exact xj_stop
set_option maxRecDepth 20000 in
theorem uX11_register (p1 : Int32) (w : xW) : xJ ιTI nX11_register lC (0, 0) 0 [(0, .ref 0), (1, .int p1)] [] w (sX11_register p1 w) := by
  unfold sX11_register
  refine xj_iloadn 1 dX11_register_0 rfl rfl ?_
  refine xj_iflt (tgt := 10) dX11_register_1 rfl ?_ ?_
  · refine xj_sub (lv2 := []) [] rfl ?_
    exact uX11_register_j10 _
  · refine xj_iloadn 1 dX11_register_4 rfl rfl ?_
    refine xj_bipush (v := 7) dX11_register_5 cb_7 ?_
    refine xj_ile (tgt := 20) dX11_register_7 rfl ?_ ?_
    · refine xj_sub (lv2 := []) [] rfl ?_
      exact uX11_register_j10 _
    · refine xj_aloadn 0 dX11_register_20 rfl rfl ?_
      refine gfX11_73 dX11_register_21 rfl ?_
      refine gfX11_224 dX11_register_24 rfl ?_
      refine xj_iloadn 1 dX11_register_27 rfl rfl ?_
      refine xj_iald (k := 20) dX11_register_28 rfl ?_
      exact xj_ti dX11_register_29 rfl
abbrev nX11_put : xMd := (yX11_put, cX11_put, 4, (some .int), { frames := 6, cells := 1, slots := 6, locals := 82 })
set_option maxRecDepth 20000 in
theorem uX11_put_j10 (w : xW) : xJ ιTI nX11_put lC (0, 0) 10 [] [] w (sX11_put_j10 w) := by
  unfold sX11_put_j10
  exact xj_stop
set_option maxRecDepth 20000 in
theorem uX11_put (p1 : Int32) (p2 : Int32) (w : xW) : xJ ιTI nX11_put lC (0, 0) 0 [(0, .ref 0), (1, .int p1), (2, .int p2)] [] w (sX11_put p1 p2 w) := by
  unfold sX11_put
  refine xj_iloadn 1 dX11_put_0 rfl rfl ?_
  refine xj_iflt (tgt := 10) dX11_put_1 rfl ?_ ?_
  · refine xj_sub (lv2 := []) [] rfl ?_
    exact uX11_put_j10 _
  · refine xj_iloadn 1 dX11_put_4 rfl rfl ?_
    refine xj_bipush (v := 7) dX11_put_5 cb_7 ?_
    refine xj_ile (tgt := 20) dX11_put_7 rfl ?_ ?_
    · refine xj_sub (lv2 := []) [] rfl ?_
      exact uX11_put_j10 _
    · refine xj_aloadn 0 dX11_put_20 rfl rfl ?_
      refine gfX11_73 dX11_put_21 rfl ?_
      refine gfX11_102 (v := (w.1 8 10)) dX11_put_24 rfl rfl ?_
      refine xj_ifne (tgt := 40) dX11_put_27 rfl ?_ ?_
      · exact xj_stop
      · refine xj_aloadn 0 dX11_put_40 rfl rfl ?_
        refine gfX11_73 dX11_put_41 rfl ?_
        refine gfX11_224 dX11_put_44 rfl ?_
        refine xj_iloadn 1 dX11_put_47 rfl rfl ?_
        refine xj_iald (k := 20) dX11_put_48 rfl ?_
        refine xj_istoren (lv2 := [(3, .int (w.1 20 p1.toNatClampNeg)), (0, .ref 0), (1, .int p1), (2, .int p2)]) dX11_put_49 rfl (Nat.le_of_ble_eq_true rfl) rfl ?_
        refine xj_aloadn 1 dX11_put_50 rfl rfl ?_
        refine gfX11_73 dX11_put_51 rfl ?_
        refine gfX11_224 dX11_put_54 rfl ?_
        refine xj_iloadn 2 dX11_put_57 rfl rfl ?_
        refine xj_iloadn 3 dX11_put_58 rfl rfl ?_
        refine xj_iast (k := 20) dX11_put_59 rfl ?_
        refine xj_iloadn 0 dX11_put_60 rfl rfl ?_
        exact xj_ti dX11_put_61 rfl
abbrev nX11_passed : xMd := (yX11_passed, cX11_passed, 2, (some .int), { frames := 6, cells := 1, slots := 6, locals := 82 })
set_option maxRecDepth 20000 in
theorem uX11_passed_j11 (w : xW) : xJ ιTI nX11_passed lC (0, 0) 11 [] [] w (sX11_passed_j11 w) := by
  unfold sX11_passed_j11
  exact xj_stop
set_option maxRecDepth 20000 in
theorem uX11_passed (p1 : Int32) (w : xW) : xJ ιTI nX11_passed lC (0, 0) 0 [(0, .ref 0), (1, .int p1)] [] w (sX11_passed p1 w) := by
  unfold sX11_passed
  refine xj_iloadn 1 dX11_passed_0 rfl rfl ?_
  refine xj_iflt (tgt := 11) dX11_passed_1 rfl ?_ ?_
  · refine xj_sub (lv2 := []) [] rfl ?_
    exact uX11_passed_j11 _
  · refine xj_iloadn 1 dX11_passed_4 rfl rfl ?_
    refine xj_sipush (v := 2048) dX11_passed_5 cs_2048 ?_
    refine xj_ilt (tgt := 21) dX11_passed_8 rfl ?_ ?_
    · refine xj_aloadn 0 dX11_passed_21 rfl rfl ?_
      refine gfX11_73 dX11_passed_22 rfl ?_
      refine gfX11_231 dX11_passed_25 rfl ?_
      refine xj_iloadn 1 dX11_passed_28 rfl rfl ?_
      refine xj_iald (k := 21) dX11_passed_29 rfl ?_
      exact xj_ti dX11_passed_30 rfl
    · refine xj_sub (lv2 := []) [] rfl ?_
      exact uX11_passed_j11 _
