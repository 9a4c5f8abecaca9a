/-! restart, as the machine's constructor calls it: all is 0 then -/
abbrev mcF (p1 p2 p3 p4 p5 qF qr qp qk : Nat) (eip : Int32) : List Value := [.ref p1, .ref p2, .ref p3, .ref p4, .ref p5, .ref qF, .ref qr, .ref qp, .ref qk, .int 0, .int 0, .int eip, .int 0, .long 0, .int 0, .int 0]
theorem upd_0 (i : Nat) : upd (fun _ => (0 : Int32)) i 0 = fun _ => 0 := by
  funext j
  unfold upd
  split <;> rfl
set_option maxHeartbeats 4000000 in
set_option maxRecDepth 100000 in
theorem rst_loop1 {p : Program} {l : Launch} {e : Env} {R : Room} {s : State} {m : MethodId} {args : Array Value} {below : List Frame} {meth : Method} {c : Code} {Q : State → Prop} {dC : Nat → ClassId} {dI : Nat → Nat → Nat} {A : Nat → Prop} {h0 p1 p2 p3 p4 p5 qF qr qp qk : Nat} {a1 a2 : ClassId} {cells slots : Nat}
    (hx : p.tables.exec = Jvm.exec) (hb : c.code = cX7_restart) (hts : ∀ w ∈ gtbl, w.before args s = true) (hown : s.vm.findClass RX7 = some m.cls) (hK : va_K (dC, dI) lC.1 [(a1, .int), (a2, .int)] s)
    (k : ∀ (H : Heap) (locs : List Loc) (ls : Array Slot), va_P (dC, dI) lC.1 [(h0, .inr (8, mcF p1 p2 p3 p4 p5 qF qr qp qk 0)), (qF, .inr (9, [.int 0])), (qr, .inl (a1, 8, .inl fun _ => 0)), (qp, .inl (a2, 2048, .inl fun _ => 0))] H → va_D A [(h0, .inr (8, mcF p1 p2 p3 p4 p5 qF qr qp qk 0)), (qF, .inr (9, [.int 0])), (qr, .inl (a1, 8, .inl fun _ => 0)), (qp, .inl (a2, 2048, .inl fun _ => 0))] → va_S A s.heap H locs → lv_has ls 2 [(0, .ref h0)] → W p l e R s m args below meth c H locs cells slots Q (F0 m 21 ls [])) :
    ∀ (j i : Nat) (H : Heap) (locs : List Loc) (ls : Array Slot), i + j = 8 → va_P (dC, dI) lC.1 [(h0, .inr (8, mcF p1 p2 p3 p4 p5 qF qr qp qk 0)), (qF, .inr (9, [.int 0])), (qr, .inl (a1, 8, .inl fun _ => 0)), (qp, .inl (a2, 2048, .inl fun _ => 0))] H → va_D A [(h0, .inr (8, mcF p1 p2 p3 p4 p5 qF qr qp qk 0)), (qF, .inr (9, [.int 0])), (qr, .inl (a1, 8, .inl fun _ => 0)), (qp, .inl (a2, 2048, .inl fun _ => 0))] → va_S A s.heap H locs → lv_has ls 2 [(1, .int (nI i)), (0, .ref h0)] → W p l e R s m args below meth c H locs cells slots Q (F0 m 2 ls []) := by
  intro j
  induction j with
  | zero =>
    intro i H locs ls hi hP hD hS hl
    obtain rfl : i = 8 := by omega
    refine lv_iload_n hx hb dX7_restart_2 rfl (lv_at hl 0 rfl) ?_
    refine lv_bipush (v := 8) hx hb dX7_restart_3 (by decide) ?_
    refine lv_icmp_ge (tgt := 21) hx hb dX7_restart_5 (by decide) (fun _ => ?_) (fun z => absurd (by decide) z)
    exact k H locs ls hP hD hS (lv_sub hl [1] rfl)
  | succ j ih =>
    intro i H locs ls hi hP hD hS hl
    refine lv_iload_n hx hb dX7_restart_2 rfl (lv_at hl 0 rfl) ?_
    refine lv_bipush (v := 8) hx hb dX7_restart_3 (by decide) ?_
    refine lv_icmp_ge (tgt := 21) hx hb dX7_restart_5 (by decide) (fun z => absurd z (Int32.not_le.mpr (nI_lq (b := 8) (by omega) (by decide) (by omega)))) (fun _ => ?_)
    refine lv_aload_n hx hb dX7_restart_8 rfl (lv_at hl 1 rfl) ?_
    refine va_get (D := (dC, dI)) (ci := 8) (v := .ref qr) (C := RX7) (T := TX7) (N := 16) hx hb hts inX7 hown hK hP 0 rfl rfl 6 (by decide) (hts _ tw524) (fun _ h9 => h9) rfl dX7_restart_9 ?_
    refine lv_iload_n hx hb dX7_restart_12 rfl (lv_at hl 0 rfl) ?_
    refine lv_iconst (v := 0) hx hb dX7_restart_13 (by decide) ?_
    refine va_iast hx hb hK hP hD hS 2 0 rfl rfl (xin_vp (xin_n (by omega) (by decide))) dX7_restart_14 (fun H locs hP hD hS => ?_)
    rw [upd_0] at hP hD
    refine lv_iinc (v := nI (i + 1)) (lv' := [(1, .int (nI (i + 1))), (0, .ref h0)]) hx hb dX7_restart_15 hl (k := 0) rfl (nI_1 i) (by decide) rfl (fun ls hl => ?_)
    refine lv_goto (tgt := 2) hx hb dX7_restart_18 (by decide) ?_
    exact ih (i + 1) H locs ls (by omega) hP hD hS hl
