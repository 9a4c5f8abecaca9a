/-! restart, as the machine's constructor calls it: all is 0 then -/
abbrev mcF (p1 p2 p3 p4 p5 qF qr qp qk : Nat) (eip : Int32) : List Value := [.ref p1, .ref p2, .ref p3, .ref p4, .ref p5, .ref qF, .ref qr, .ref qp, .ref qk, .int 0, .int 0, .int eip, .int 0, .long 0, .int 0, .int 0]
theorem upd_0 (i : Nat) : upd (fun _ => (0 : Int32)) i 0 = fun _ => 0 := by
  funext j
  unfold upd
  split <;> rfl
set_option maxHeartbeats 4000000 in
set_option maxRecDepth 100000 in
theorem rst_loop1 {p : Program} {l : Launch} {e : Env} {R : Room} {s : State} {m : MethodId} {args : Array Value} {below : List Frame} {meth : Method} {c : Code} {Q : State → Prop} {dC : Nat → ClassId} {dI : Nat → Nat → Nat} {A : Nat → Prop} {h0 p1 p2 p3 p4 p5 qF qr qp qk : Nat} {a1 a2 : ClassId} {cells slots : Nat}
    (hx : p.tables.exec = Jvm.exec) (hb : c.code = cX7_restart) (hts : ∀ w ∈ gtbl, w.before args s = true) (hown : s.vm.findClass RX7 = some m.cls) (hK : va_K (dC, dI) lC.1 [(a1, .int), (a2, .int)] s)
    (k : ∀ (H : Heap) (locs : List Loc) (ls : Array Slot), va_P (dC, dI) lC.1 [(h0, .inr (8, mcF p1 p2 p3 p4 p5 qF qr qp qk 0)), (qF, .inr (9, [.int 0])), (qr, .inl (a1, 8, .inl fun _ => 0)), (qp, .inl (a2, 2048, .inl fun _ => 0))] H → va_D A [(h0, .inr (8, mcF p1 p2 p3 p4 p5 qF qr qp qk 0)), (qF, .inr (9, [.int 0])), (qr, .inl (a1, 8, .inl fun _ => 0)), (qp, .inl (a2, 2048, .inl fun _ => 0))] → va_S A s.heap H locs → lv_has ls 2 [(0, .ref h0)] → W p l e R s m args below meth c H locs cells slots Q (F0 m 21 ls [])) :
    ∀ (j i : Nat) (H : Heap) (locs : List Loc) (ls : Array Slot), i + j = 8 → va_P (dC, dI) lC.1 [(h0, .inr (8, mcF p1 p2 p3 p4 p5 qF qr qp qk 0)), (qF, .inr (9, [.int 0])), (qr, .inl (a1, 8, .inl fun _ => 0)), (qp, .inl (a2, 2048, .inl fun _ => 0))] H → va_D A [(h0, .inr (8, mcF p1 p2 p3 p4 p5 qF qr qp qk 0)), (qF, .inr (9, [.int 0])), (qr, .inl (a1, 8, .inl fun _ => 0)), (qp, .inl (a2, 2048, .inl fun _ => 0))] → va_S A s.heap H locs → lv_has ls 2 [(1, .int (nI i)), (0, .ref h0)] → W p l e R s m args below meth c H locs cells slots Q (F0 m 2 ls []) := by
  intro j
  induction j with
  | zero =>
    intro i H locs ls hi hP hD hS hl
    obtain rfl : i = 8 := by omega
    refine lv_iload_n hx hb dX7_restart_2 rfl (lv_at hl 0 rfl) ?_
    refine lv_bipush (v := 8) hx hb dX7_restart_3 (by decide) ?_
    refine lv_icmp_ge (tgt := 21) hx hb dX7_restart_5 (by decide) (fun _ => ?_) (fun z => absurd (by decide) z)
    exact k H locs ls hP hD hS (lv_sub hl [1] rfl)
  | succ j ih =>
    intro i H locs ls hi hP hD hS hl
    refine lv_iload_n hx hb dX7_restart_2 rfl (lv_at hl 0 rfl) ?_
    refine lv_bipush (v := 8) hx hb dX7_restart_3 (by decide) ?_
    refine lv_icmp_ge (tgt := 21) hx hb dX7_restart_5 (by decide) (fun z => absurd z (Int32.not_le.mpr (nI_lq (b := 8) (by omega) (by decide) (by omega)))) (fun _ => ?_)
    refine lv_aload_n hx hb dX7_restart_8 rfl (lv_at hl 1 rfl) ?_
    refine va_get (D := (dC, dI)) (ci := 8) (v := .ref qr) (C := RX7) (T := TX7) (N := 16) hx hb hts inX7 hown hK hP 0 rfl rfl 6 (by decide) (hts _ tw524) (fun _ h9 => h9) rfl dX7_restart_9 ?_
    refine lv_iload_n hx hb dX7_restart_12 rfl (lv_at hl 0 rfl) ?_
    refine lv_iconst (v := 0) hx hb dX7_restart_13 (by decide) ?_
    refine va_iast hx hb hK hP hD hS 2 0 rfl rfl (xin_vp (xin_n (by omega) (by decide))) dX7_restart_14 (fun H locs hP hD hS => ?_)
    rw [upd_0] at hP hD
    refine lv_iinc (v := nI (i + 1)) (lv' := [(1, .int (nI (i + 1))), (0, .ref h0)]) hx hb dX7_restart_15 hl (k := 0) rfl (nI_1 i) (by decide) rfl (fun ls hl => ?_)
    refine lv_goto (tgt := 2) hx hb dX7_restart_18 (by decide) ?_
    exact ih (i + 1) H locs ls (by omega) hP hD hS hl
set_option maxHeartbeats 4000000 in
set_option maxRecDepth 100000 in
theorem rst_loop2 {p : Program} {l : Launch} {e : Env} {R : Room} {s : State} {m : MethodId} {args : Array Value} {below : List Frame} {meth : Method} {c : Code} {Q : State → Prop} {dC : Nat → ClassId} {dI : Nat → Nat → Nat} {A : Nat → Prop} {h0 p1 p2 p3 p4 p5 qF qr qp qk : Nat} {a1 a2 : ClassId} {cells slots : Nat}
    (hx : p.tables.exec = Jvm.exec) (hb : c.code = cX7_restart) (hts : ∀ w ∈ gtbl, w.before args s = true) (hown : s.vm.findClass RX7 = some m.cls) (hK : va_K (dC, dI) lC.1 [(a1, .int), (a2, .int)] s)
    (k : ∀ (H : Heap) (locs : List Loc) (ls : Array Slot), va_P (dC, dI) lC.1 [(h0, .inr (8, mcF p1 p2 p3 p4 p5 qF qr qp qk 4096)), (qF, .inr (9, [.int 0])), (qr, .inl (a1, 8, .inl (upd (fun _ => 0) (4 : Int32).toNatClampNeg 131072))), (qp, .inl (a2, 2048, .inl fun _ => 0))] H → va_D A [(h0, .inr (8, mcF p1 p2 p3 p4 p5 qF qr qp qk 4096)), (qF, .inr (9, [.int 0])), (qr, .inl (a1, 8, .inl (upd (fun _ => 0) (4 : Int32).toNatClampNeg 131072))), (qp, .inl (a2, 2048, .inl fun _ => 0))] → va_S A s.heap H locs → lv_has ls 2 [(0, .ref h0)] → W p l e R s m args below meth c H locs cells slots Q (F0 m 76 ls [])) :
    ∀ (j i : Nat) (H : Heap) (locs : List Loc) (ls : Array Slot), i + j = 2048 → va_P (dC, dI) lC.1 [(h0, .inr (8, mcF p1 p2 p3 p4 p5 qF qr qp qk 4096)), (qF, .inr (9, [.int 0])), (qr, .inl (a1, 8, .inl (upd (fun _ => 0) (4 : Int32).toNatClampNeg 131072))), (qp, .inl (a2, 2048, .inl fun _ => 0))] H → va_D A [(h0, .inr (8, mcF p1 p2 p3 p4 p5 qF qr qp qk 4096)), (qF, .inr (9, [.int 0])), (qr, .inl (a1, 8, .inl (upd (fun _ => 0) (4 : Int32).toNatClampNeg 131072))), (qp, .inl (a2, 2048, .inl fun _ => 0))] → va_S A s.heap H locs → lv_has ls 2 [(1, .int (nI i)), (0, .ref h0)] → W p l e R s m args below meth c H locs cells slots Q (F0 m 56 ls []) := by
  intro j
  induction j with
  | zero =>
    intro i H locs ls hi hP hD hS hl
    obtain rfl : i = 2048 := by omega
    refine lv_iload_n hx hb dX7_restart_56 rfl (lv_at hl 0 rfl) ?_
    refine lv_sipush (v := 2048) hx hb dX7_restart_57 (by decide) ?_
    refine lv_icmp_ge (tgt := 76) hx hb dX7_restart_60 (by decide) (fun _ => ?_) (fun z => absurd (by decide) z)
    exact k H locs ls hP hD hS (lv_sub hl [1] rfl)
  | succ j ih =>
    intro i H locs ls hi hP hD hS hl
    refine lv_iload_n hx hb dX7_restart_56 rfl (lv_at hl 0 rfl) ?_
    refine lv_sipush (v := 2048) hx hb dX7_restart_57 (by decide) ?_
    refine lv_icmp_ge (tgt := 76) hx hb dX7_restart_60 (by decide) (fun z => absurd z (Int32.not_le.mpr (nI_lq (b := 2048) (by omega) (by decide) (by omega)))) (fun _ => ?_)
    refine lv_aload_n hx hb dX7_restart_63 rfl (lv_at hl 1 rfl) ?_
    refine va_get (D := (dC, dI)) (ci := 8) (v := .ref qp) (C := RX7) (T := TX7) (N := 16) hx hb hts inX7 hown hK hP 0 rfl rfl 7 (by decide) (hts _ tw526) (fun _ h9 => h9) rfl dX7_restart_64 ?_
    refine lv_iload_n hx hb dX7_restart_67 rfl (lv_at hl 0 rfl) ?_
    refine lv_iconst (v := 0) hx hb dX7_restart_68 (by decide) ?_
    refine va_iast hx hb hK hP hD hS 3 1 rfl rfl (xin_vp (xin_n (by omega) (by decide))) dX7_restart_69 (fun H locs hP hD hS => ?_)
    rw [upd_0] at hP hD
    refine lv_iinc (v := nI (i + 1)) (lv' := [(1, .int (nI (i + 1))), (0, .ref h0)]) hx hb dX7_restart_70 hl (k := 0) rfl (nI_1 i) (by decide) rfl (fun ls hl => ?_)
    refine lv_goto (tgt := 56) hx hb dX7_restart_73 (by decide) ?_
    exact ih (i + 1) H locs ls (by omega) hP hD hS hl
set_option maxHeartbeats 4000000 in
set_option maxRecDepth 100000 in
/-- the machine's restart while it is made -/
theorem c_X7_restart (l : Launch) (dC : Nat → ClassId) (dI : Nat → Nat → Nat) (h0 p1 p2 p3 p4 p5 qF qr qp qk sz : Nat) (a1 a2 : ClassId) : Met l yX7_restart (xwords mX7_restart) mX7_restart.2.2.2.2 (va_Pc [.ref h0] (fun U => U.heap.size = sz ∧ va_P (dC, dI) lC.1 [(h0, .inr (8, mcF p1 p2 p3 p4 p5 qF qr qp qk 0)), (qF, .inr (9, [.int 0])), (qr, .inl (a1, 8, .inl fun _ => 0)), (qp, .inl (a2, 2048, .inl fun _ => 0))] U.heap ∧ va_K (dC, dI) lC.1 [(a1, .int), (a2, .int)] U ∧ va_D (fun _ => True) [(h0, .inr (8, mcF p1 p2 p3 p4 p5 qF qr qp qk 0)), (qF, .inr (9, [.int 0])), (qr, .inl (a1, 8, .inl fun _ => 0)), (qp, .inl (a2, 2048, .inl fun _ => 0))]))
    (va_Qv (fun _ : Unit => True) (fun _ t => va_P (dC, dI) lC.1 [(h0, .inr (8, mcF p1 p2 p3 p4 p5 qF qr qp qk 4096)), (qF, .inr (9, [.int 0])), (qr, .inl (a1, 8, .inl (upd (fun _ => 0) (4 : Int32).toNatClampNeg 131072))), (qp, .inl (a2, 2048, .inl fun _ => 0))] t.heap ∧ va_K (dC, dI) lC.1 [(a1, .int), (a2, .int)] t ∧ va_D (va_A [(h0, .inr (8, mcF p1 p2 p3 p4 p5 qF qr qp qk 0)), (qF, .inr (9, [.int 0])), (qr, .inl (a1, 8, .inl fun _ => 0)), (qp, .inl (a2, 2048, .inl fun _ => 0))] sz) [(h0, .inr (8, mcF p1 p2 p3 p4 p5 qF qr qp qk 4096)), (qF, .inr (9, [.int 0])), (qr, .inl (a1, 8, .inl (upd (fun _ => 0) (4 : Int32).toNatClampNeg 131072))), (qp, .inl (a2, 2048, .inl fun _ => 0))]) (va_A [(h0, .inr (8, mcF p1 p2 p3 p4 p5 qF qr qp qk 0)), (qF, .inr (9, [.int 0])), (qr, .inl (a1, 8, .inl fun _ => 0)), (qp, .inl (a2, 2048, .inl fun _ => 0))] sz)) 0 0 (va_A [(h0, .inr (8, mcF p1 p2 p3 p4 p5 qF qr qp qk 0)), (qF, .inr (9, [.int 0])), (qr, .inl (a1, 8, .inl fun _ => 0)), (qp, .inl (a2, 2048, .inl fun _ => 0))] sz) := by
  refine Met.ofW (cc := cX7_restart) (maxL := 2) (ret := none) (by decide) rfl ?_
  intro p e s m args below meth c s₁ B hml hv
  obtain ⟨rfl, hsz, hP, hK, hD0⟩ := hv
  have hx := B.exec
  have hb := B.bytes
  have hr := B.returns
  have hts : ∀ w ∈ gtbl, w.before _ s = true := fun w hw => atoms_spec (ws := xwords mX7_restart) B.pre w (List.mem_cons_of_mem _ hw)
  have hown : s.vm.findClass RX7 = some m.cls := findClass_of_methodNamed B.named
  subst hsz
  have hD := hD0.self (sz := s.heap.size)
  generalize hAe : va_A [(h0, .inr (8, mcF p1 p2 p3 p4 p5 qF qr qp qk 0)), (qF, .inr (9, [.int 0])), (qr, .inl (a1, 8, .inl fun _ => 0)), (qp, .inl (a2, 2048, .inl fun _ => 0))] s.heap.size = A at hD ⊢
  have hS : va_S A s.heap s.heap [] := va_S.rf
  have hl := lv_entry ([.ref h0]) (n := 2) (Nat.le_of_ble_eq_true rfl)
  rw [lg_entry_eq]
  generalize (lg_sl ([.ref h0]) ++ List.replicate (2 - (lg_sl ([.ref h0])).length) Slot.unset).toArray = ls at hl ⊢
  have hl : lv_has ls 2 [(0, .ref h0)] := hl
  refine lv_iconst (v := 0) hx hb dX7_restart_0 (by decide) ?_
  refine lv_istore_n (lv' := [(1, .int 0), (0, .ref h0)]) hx hb dX7_restart_1 rfl hl (by decide) rfl (fun ls hl => ?_)
  refine rst_loop1 hx hb hts hown hK (fun H locs ls hP hD hS hl => ?_) 8 0 s.heap [] ls rfl hP hD hS hl
  refine lv_aload_n hx hb dX7_restart_21 rfl (lv_at hl 0 rfl) ?_
  refine va_get (D := (dC, dI)) (ci := 8) (v := .ref qr) (C := RX7) (T := TX7) (N := 16) hx hb hts inX7 hown hK hP 0 rfl rfl 6 (by decide) (hts _ tw524) (fun _ h9 => h9) rfl dX7_restart_22 ?_
  refine lv_iconst (v := 4) hx hb dX7_restart_25 (by decide) ?_
  refine lv_ldc (v := 131072) hx hb hown (hts _ tw516) dX7_restart_26 ?_
  refine va_iast hx hb hK hP hD hS 2 0 rfl rfl (xin_vp (show xin (4 : Int32) 8 from by decide)) dX7_restart_28 (fun H locs hP hD hS => ?_)
  refine lv_aload_n hx hb dX7_restart_29 rfl (lv_at hl 0 rfl) ?_
  refine lv_sipush (v := 4096) hx hb dX7_restart_30 (by decide) ?_
  refine va_put (D := (dC, dI)) (ci := 8) (v := .int 4096) (ty := .int) (C := RX7) (T := TX7) (N := 16) hx hb hts inX7 tyX7 tyX7_ok nmX7 hown hK hP hD hS 0 rfl rfl 11 (by decide) (hts _ tw532) (fun _ h9 => h9) rfl (by decide +kernel) rfl rfl (Nat.le_of_ble_eq_true rfl) dX7_restart_33 (fun H locs hP hD hS => ?_)
  refine lv_aload_n hx hb dX7_restart_36 rfl (lv_at hl 0 rfl) ?_
  refine va_get (D := (dC, dI)) (ci := 8) (v := .ref qF) (C := RX7) (T := TX7) (N := 16) hx hb hts inX7 hown hK hP 0 rfl rfl 5 (by decide) (hts _ tw522) (fun _ h9 => h9) rfl dX7_restart_37 ?_
  refine lv_iconst (v := 0) hx hb dX7_restart_40 (by decide) ?_
  refine va_put (D := (dC, dI)) (ci := 9) (v := .int 0) (ty := .int) (C := RX2) (T := TX2) (N := 1) hx hb hts inX2 tyX2 tyX2_ok nmX2 hown hK hP hD hS 1 rfl rfl 0 (by decide) (hts _ tw507) (fun _ h9 => h9) rfl (by decide +kernel) rfl rfl (Nat.le_of_ble_eq_true rfl) dX7_restart_41 (fun H locs hP hD hS => ?_)
  refine lv_aload_n hx hb dX7_restart_44 rfl (lv_at hl 0 rfl) ?_
  refine lv_iconst (v := 0) hx hb dX7_restart_45 (by decide) ?_
  refine va_put (D := (dC, dI)) (ci := 8) (v := .int 0) (ty := .int) (C := RX7) (T := TX7) (N := 16) hx hb hts inX7 tyX7 tyX7_ok nmX7 hown hK hP hD hS 0 rfl rfl 12 (by decide) (hts _ tw534) (fun _ h9 => h9) rfl (by decide +kernel) rfl rfl (Nat.le_of_ble_eq_true rfl) dX7_restart_46 (fun H locs hP hD hS => ?_)
  refine lv_aload_n hx hb dX7_restart_49 rfl (lv_at hl 0 rfl) ?_
  refine lv_lconst (v := 0) hx hb dX7_restart_50 (by decide) ?_
  refine va_put (D := (dC, dI)) (ci := 8) (v := .long 0) (ty := .long) (C := RX7) (T := TX7) (N := 16) hx hb hts inX7 tyX7 tyX7_ok nmX7 hown hK hP hD hS 0 rfl rfl 13 (by decide) (hts _ tw536) (fun _ h9 => h9) rfl (by decide +kernel) rfl rfl (Nat.le_of_ble_eq_true rfl) dX7_restart_51 (fun H locs hP hD hS => ?_)
  refine lv_iconst (v := 0) hx hb dX7_restart_54 (by decide) ?_
  refine lv_istore_n (lv' := [(1, .int 0), (0, .ref h0)]) hx hb dX7_restart_55 rfl hl (by decide) rfl (fun ls hl => ?_)
  refine rst_loop2 hx hb hts hown hK (fun H locs ls hP hD hS hl => ?_) 2048 0 H locs ls rfl hP hD hS hl
  exact W.vret hx hb hr (fun t ht hW => ⟨⟨(), rfl, trivial, by rw [ht]; exact hP, va_K.moved hW.alike hK, hD⟩, hS.F ht⟩) hS.2.2 dX7_restart_76
