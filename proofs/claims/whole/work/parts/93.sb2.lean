/-! StringBuilder: bodies over the machine itself, calls that may make a new row of bytes; newLength, newCapacity, copyOf, ensureCapacityInternal -/
def sbQ (z : Nat) (f : Nat → Int32) (G : xG) (w : xW) (m sz : Nat) (v : Option Value) (R : Nat → xW → Prop) : Array Value → State → Outcome → State → Prop := fun _ st oc t =>
  (oc = .returned v ∧ ∃ (b' m' : Nat) (w' : xW), R m' w' ∧ va_P G.1 lC.1 (xws (lS m' z f) (gset G b') w' ++ []) t.heap ∧ va_D (va_A (xws (lS m z f) G w ++ []) sz) (xws (lS m' z f) (gset G b') w' ++ [])) ∧ va_F (va_A (xws (lS m z f) G w ++ []) sz) st t
theorem xb_met {M : xMd} {L : xLay} {argv : List Value} {w : xW} {G : xG} {l : Launch} {Qc : Array Value → State → Outcome → State → Prop} {sz mc ms : Nat} (hL : xLok L) (hy : plainName M.1.cls = true) (hlen : (lg_sl argv).length ≤ M.2.2.1) (hfl : l.flags = flags0)
    (body : ∀ (X : xC) (ls : Array Slot), X.2.1 = l → (xs X).heap.size = sz → X.2.2.2.2.2.1 = (argv.map (xv G)).toArray → X.2.2.2.2.2.2.2.1.sig.returnType = M.2.2.2.1 → X.2.2.2.2.2.2.2.1.locks = false → xCtx M L X G (va_A (xws L G w ++ []) sz) → xPic L G w [] (va_A (xws L G w ++ []) sz) (xs X).heap (xs X).heap [] → lv_has ls M.2.2.1 (xlv G (lv_args 0 argv)) →
      xWc M.2.2.2.2 X (xs X).heap [] 0 0 (MQ X.2.2.2.2.2.2.1 Qc X.2.2.2.2.2.1 (xs X) mc ms (va_A (xws L G w ++ []) sz)) (xF X 0 ls [])) :
    Met l M.1 (xwords M) M.2.2.2.2 (va_Pc (argv.map (xv G)) (xPre L G w [] sz)) Qc mc ms (va_A (xws L G w ++ []) sz) := by
  refine Met.ofW (cc := M.2.1) (maxL := M.2.2.1) (ret := M.2.2.2.1) hy rfl ?_
  intro p e s m args below meth c s₁ B hml hv
  obtain ⟨rfl, hsz, hP, hK, hD0, hE, hST⟩ := hv
  have hts := atoms_spec (ws := xwords M) B.pre
  have hown : s.vm.findClass M.1.cls = some m.cls := findClass_of_methodNamed B.named
  have hl := lv_entry (argv.map (xv G)) (n := M.2.2.1) (by rw [xsl_len]; exact hlen)
  rw [lg_entry_eq]
  generalize (lg_sl (argv.map (xv G)) ++ List.replicate (M.2.2.1 - (lg_sl (argv.map (xv G))).length) Slot.unset).toArray = ls at hl ⊢
  rw [xlv_args] at hl
  subst hsz
  exact body (p, l, e, s, m, (argv.map (xv G)).toArray, below, meth, c) ls rfl rfl rfl B.returns B.notSynchronized ⟨B.exec, B.bytes, hml, hown, fun x hx => hts x (List.mem_cons_of_mem _ hx), hK, fun z hz => Or.inr hz, hST, hfl, hL⟩ ⟨hP, hD0.self, va_S.rf, hE⟩ hl
section SB2
variable {M : xMd} {m z : Nat} {f : Nat → Int32} {G : xG} {w : xW} {A : Nat → Prop} {X : xC} {H : Heap} {locs : List Loc} {ls : Array Slot} {cells slots pc : Nat} {Q : State → Prop} {rest : List Value}
theorem sb_after {st0 : List Value} {v : Option Value} {R : Nat → xW → Prop} {a : Array Value} {mc ms : Nat} (C : xCtx M (lS m z f) X G A) (P : xPic (lS m z f) G w [] A (xs X).heap H locs)
    (hr : va_Run X.1 X.2.1 X.2.2.1 M.2.2.2.2 X.2.2.2.1 X.2.2.2.2.1 X.2.2.2.2.2.1 X.2.2.2.2.2.2.1 X.2.2.2.2.2.2.2.1 X.2.2.2.2.2.2.2.2 H locs cells slots mc ms (xF X pc ls st0) rest (sbQ z f G w m H.size v R a) (va_A (xws (lS m z f) G w ++ []) H.size))
    (kk : ∀ (b' m' : Nat) (w' : xW) (H1 : Heap) (locs1 : List Loc), R m' w' → xPic (lS m' z f) (gset G b') w' [] A (xs X).heap H1 locs1 → xWc M.2.2.2.2 X H1 locs1 (cells + mc) (slots + ms) Q (xF X (pc + 3) ls (v.toList ++ rest))) : xWc M.2.2.2.2 X H locs cells slots Q (xF X pc ls st0) := by
  intro T hT XX
  obtain ⟨v9, st₀, t, T', LL, h0, X', hL, e1, e2, ⟨⟨hv, b', m', w', hR, hP1, hD1⟩, hz, hkeep⟩, stp⟩ := hr T hT XX
  cases hv
  rw [h0] at hz hkeep
  rw [← e1] at hP1 hz hkeep
  have hsub : ∀ y, va_A (xws (lS m z f) G w ++ []) H.size y → A y := fun y hy => by
    rcases hy with ⟨kk, e, hh⟩ | hh
    · exact P.2.1.2 kk (y, e) hh
    · exact C.2.2.2.2.2.2.1 y (Nat.le_trans P.2.2.1.1 hh)
  have hS2 : va_S A (xs X).heap T'.heap (locs ++ LL) := ⟨Nat.le_trans P.2.2.1.1 hz, fun y h1 h2 => by
      rw [hkeep y (Nat.lt_of_lt_of_le h1 P.2.2.1.1) (fun hh => h2 (hsub y hh))]; exact P.2.2.1.2.1 y h1 h2, fun y hy => by
      rcases List.mem_append.mp hy with hh | hh
      · exact P.2.2.1.2.2 y hh
      · exact hsub _ (hL y hh)⟩
  have hgo := kk b' m' w' T'.heap (locs ++ LL) hR ⟨hP1, hD1.weaken (fun _ _ _ hh => hsub _ hh), hS2, rfl⟩
  obtain ⟨t2, a1, b1⟩ := hgo T' rfl X'
  exact ⟨t2, stp t2 a1, b1⟩
theorem sb_runU {M2 : xMd} {As : List Value} {idx n mc ms : Nat} {Qc : Array Value → State → Outcome → State → Prop} {free : Addr → Prop} (C : xCtx M (lS m z f) X G A) (P : xPic (lS m z f) G w [] A (xs X).heap H locs)
    (hM : Met X.2.1 M2.1 (xwords M2) M2.2.2.2.2 (va_Pc (.ref (G.2.2 0) :: As) (xPre (lS m z f) G w [] H.size)) Qc mc ms free) (hU : sUw M.1.cls idx M2 n) (f1 : Nat.ble (M2.2.2.2.2.frames + 1) M.2.2.2.2.frames = true) (f2 : Nat.ble (8 + (M2.2.2.1 + 11) + M2.2.2.2.2.locals) M.2.2.2.2.locals = true) (f3 : M2.2.2.2.2.cells = mc) (f4 : M2.2.2.2.2.slots = ms)
    (hn : As.length = n) (hsize : ls.size = M.2.2.1) (hsum : Nat.ble (rest.map fun v => v.category).sum 8 = true) (hd : decode M.2.1 pc = .ok (.invokevirtual idx, 3)) (hf : cells + mc ≤ M.2.2.2.2.cells ∧ slots + ms ≤ M.2.2.2.2.slots) :
    va_Run X.1 X.2.1 X.2.2.1 M.2.2.2.2 X.2.2.2.1 X.2.2.2.2.1 X.2.2.2.2.2.1 X.2.2.2.2.2.2.1 X.2.2.2.2.2.2.2.1 X.2.2.2.2.2.2.2.2 H locs cells slots mc ms (xF X pc ls (As.reverse ++ .ref (G.2.2 0) :: rest)) rest (Qc (.ref (G.2.2 0) :: As).toArray) free :=
  va_runU (As := As) (rest := rest) (n := n) (C := "java/lang/StringBuilder") (own := M.1.cls) (Ts := gtbl) (index := idx) (b := G.2.2 0) ⟨C.1, C.2.1, C.2.2.1, C.2.2.2.1, C.2.2.2.2.1⟩ hM (hU.cu C.2.2.2.2.1 (Nat.le_of_ble_eq_true f1) (Nat.le_of_ble_eq_true f2) f3 f4) ⟨xPc_blind lS_ok, va_recv C.2.2.2.2.2.1 P.1 (ci := 10) (q := (RJ4, TJ4, 4)) (q0 := 0) rfl (xws_obj (k := 0) (ci := 10) (C := RJ4) (T := TJ4) (N := 4) rfl rfl), fun U hU hW => ⟨rfl, xPre_of C P U hU hW⟩⟩ rfl hn hsize rfl (by show 2 * 0 + _ ≤ 8; have := Nat.le_of_ble_eq_true hsum; omega) hd hf
theorem sb_runP {M2 : xMd} {As : List Value} {idx n mc ms : Nat} {Qc : Array Value → State → Outcome → State → Prop} {free : Addr → Prop} (C : xCtx M (lS m z f) X G A) (P : xPic (lS m z f) G w [] A (xs X).heap H locs)
    (hM : Met X.2.1 M2.1 (xwords M2) M2.2.2.2.2 (va_Pc (.ref (G.2.2 0) :: As) (xPre (lS m z f) G w [] H.size)) Qc mc ms free) (hU : sSw M.1.cls idx M2 n) (f1 : Nat.ble (M2.2.2.2.2.frames + 1) M.2.2.2.2.frames = true) (f2 : Nat.ble (8 + (M2.2.2.1 + 11) + M2.2.2.2.2.locals) M.2.2.2.2.locals = true) (f3 : M2.2.2.2.2.cells = mc) (f4 : M2.2.2.2.2.slots = ms)
    (hn : As.length = n) (hsize : ls.size = M.2.2.1) (hsum : Nat.ble (rest.map fun v => v.category).sum 8 = true) (hd : decode M.2.1 pc = .ok (.invokespecial idx, 3)) (hf : cells + mc ≤ M.2.2.2.2.cells ∧ slots + ms ≤ M.2.2.2.2.slots) :
    va_Run X.1 X.2.1 X.2.2.1 M.2.2.2.2 X.2.2.2.1 X.2.2.2.2.1 X.2.2.2.2.2.1 X.2.2.2.2.2.2.1 X.2.2.2.2.2.2.2.1 X.2.2.2.2.2.2.2.2 H locs cells slots mc ms (xF X pc ls (As.reverse ++ .ref (G.2.2 0) :: rest)) rest (Qc (.ref (G.2.2 0) :: As).toArray) free :=
  va_runSU (As := As) (rest := rest) (n := n) (C := "java/lang/StringBuilder") (own := M.1.cls) (Ts := gtbl) (index := idx) (b := G.2.2 0) ((C.2.2.2.2.2.1.1 10 (RJ4, TJ4, 4) rfl).2) ⟨C.1, C.2.1, C.2.2.1, C.2.2.2.1, C.2.2.2.2.1⟩ hM (hU.cs C.2.2.2.2.1 (Nat.le_of_ble_eq_true f1) (Nat.le_of_ble_eq_true f2) f3 f4) ⟨xPc_blind lS_ok, va_recv C.2.2.2.2.2.1 P.1 (ci := 10) (q := (RJ4, TJ4, 4)) (q0 := 0) rfl (xws_obj (k := 0) (ci := 10) (C := RJ4) (T := TJ4) (N := 4) rfl rfl), fun U hU hW => ⟨rfl, xPre_of C P U hU hW⟩⟩ rfl hn hsize rfl (by show 2 * 0 + _ ≤ 8; have := Nat.le_of_ble_eq_true hsum; omega) hd hf
theorem wgN {v : Int32} (C : xCtx M (lS m z f) X G A) (P : xPic (lS m z f) G w [] A (xs X).heap H locs) (hv : w.1 0 3 = v) (hd : decode M.2.1 pc = .ok (.getfield 79, 3)) (hM : M.1.cls = "java/lang/AbstractStringBuilder")
    (kk : xWc M.2.2.2.2 X H locs cells slots Q (xF X (pc + 3) ls (.int v :: rest))) : xWc M.2.2.2.2 X H locs cells slots Q (xF X pc ls (.ref (G.2.2 0) :: rest)) :=
  va_get C.1 C.2.1 C.2.2.2.2.1 xkJ4.1 C.2.2.2.1 C.2.2.2.2.2.1 P.1 0 (xws_obj (k := 0) (ci := 10) (C := RJ4) (T := TJ4) (N := 4) rfl rfl) rfl 3 (by decide) (C.2.2.2.2.1 _ (by rw [hM]; exact tB_f_J5_79)) (fun _ h => h) (v := .int v) (by subst hv; rfl) hd kk
theorem wgK {v : Int32} (C : xCtx M (lS m z f) X G A) (P : xPic (lS m z f) G w [] A (xs X).heap H locs) (hv : w.1 0 1 = v) (hd : decode M.2.1 pc = .ok (.getfield 22, 3)) (hM : M.1.cls = "java/lang/AbstractStringBuilder")
    (kk : xWc M.2.2.2.2 X H locs cells slots Q (xF X (pc + 3) ls (.int v :: rest))) : xWc M.2.2.2.2 X H locs cells slots Q (xF X pc ls (.ref (G.2.2 0) :: rest)) :=
  va_get C.1 C.2.1 C.2.2.2.2.1 xkJ4.1 C.2.2.2.1 C.2.2.2.2.2.1 P.1 0 (xws_obj (k := 0) (ci := 10) (C := RJ4) (T := TJ4) (N := 4) rfl rfl) rfl 1 (by decide) (C.2.2.2.2.1 _ (by rw [hM]; exact tB_f_J5_22)) (fun _ h => h) (v := .int v) (by subst hv; rfl) hd kk
theorem wgV (C : xCtx M (lS m z f) X G A) (P : xPic (lS m z f) G w [] A (xs X).heap H locs) (hd : decode M.2.1 pc = .ok (.getfield 15, 3)) (hM : M.1.cls = "java/lang/AbstractStringBuilder")
    (kk : xWc M.2.2.2.2 X H locs cells slots Q (xF X (pc + 3) ls (.ref (G.2.2 1) :: rest))) : xWc M.2.2.2.2 X H locs cells slots Q (xF X pc ls (.ref (G.2.2 0) :: rest)) :=
  va_get C.1 C.2.1 C.2.2.2.2.1 xkJ4.1 C.2.2.2.1 C.2.2.2.2.2.1 P.1 0 (xws_obj (k := 0) (ci := 10) (C := RJ4) (T := TJ4) (N := 4) rfl rfl) rfl 0 (by decide) (C.2.2.2.2.1 _ (by rw [hM]; exact tB_f_J5_15)) (fun _ h => h) (v := .ref (G.2.2 1)) rfl hd kk
end SB2
/-! newLength, newCapacity -/
theorem xmax_nI {a b : Nat} (ha : a < 2 ^ 31) (hb : b < 2 ^ 31) : xmax (nI a) (nI b) = nI (if a < b then b else a) := by
  unfold xmax
  by_cases h : a < b
  · rw [if_pos h, if_pos (nI_lt h hb)]
  · rw [if_neg h, if_neg (nI_nlt (by omega) ha)]
section SB3
variable {m z : Nat} {f : Nat → Int32} {w : xW}
theorem tB_nlen {a b c : Nat} (h : a + (if b < c then c else b) < 2 ^ 30) (h0 : 0 < a + (if b < c then c else b)) : xJ ιI mB_nlen (lS m z f) (0, 0) 0 [(0, .int (nI a)), (1, .int (nI b)), (2, .int (nI c))] [] w (some (nI (a + (if b < c then c else b)), w)) := by
  have hb : b < 2 ^ 30 := by split at h <;> omega
  have hc : c < 2 ^ 30 := by split at h <;> omega
  refine xj_iloadn 0 dB_nlen_0 rfl rfl ?_
  refine xj_iloadn 1 dB_nlen_1 rfl rfl ?_
  refine xj_iloadn 2 dB_nlen_2 rfl rfl ?_
  refine xj_mmax (rest := [.int (nI a)]) dB_nlen_3 tB_m_J8_194 rfl rfl ?_
  rw [xmax_nI (by omega) (by omega)]
  refine xj_iadd dB_nlen_6 ?_
  rw [nI_add]
  generalize a + (if b < c then c else b) = n at h h0
  refine xj_istoren (lv2 := [(3, .int (nI n)), (0, .int (nI a)), (1, .int (nI b)), (2, .int (nI c))]) dB_nlen_7 rfl (Nat.le_of_ble_eq_true rfl) rfl ?_
  refine xj_iconst (v := 0) dB_nlen_8 (by decide) ?_
  refine xj_iloadn 0 dB_nlen_9 rfl rfl ?_
  refine xj_eq (xj_T (P := (0 : Int32) < nI n) (nI_lt (a := 0) h0 (by omega))) ?_
  refine xj_ige (tgt := 21) dB_nlen_10 rfl ?_ xj_none
  refine xj_iloadn 0 dB_nlen_13 rfl rfl ?_
  refine xj_ldc (v := 2147483639) tB_k_J8_200 dB_nlen_14 ?_
  refine xj_eq (xj_F (P := (2147483639 : Int32) < nI n) (nI_nlt (a := 2147483639) (b := n) (by omega) (by decide))) ?_
  refine xj_igt (tgt := 21) dB_nlen_16 rfl xj_none ?_
  refine xj_iloadn 0 dB_nlen_19 rfl rfl ?_
  exact xj_ri dB_nlen_20 rfl
theorem kB_nlen {a b c : Nat} (h : a + (if b < c then c else b) < 2 ^ 30) (h0 : 0 < a + (if b < c then c else b)) : xMet jI mB_nlen (lS m z f) (0, 0) [.int (nI a), .int (nI b), .int (nI c)] w (some (nI (a + (if b < c then c else b)), w)) := xj_met lS_ok (by decide) (Nat.le_of_ble_eq_true rfl) (Nat.zero_le _) (Nat.zero_le _) (tB_nlen h h0)
theorem cap_max {q m : Nat} (h : m < q) : m + (if q - m < m + 2 then m + 2 else q - m) = sb_cap q m := by
  unfold sb_cap
  split <;> split <;> (try split) <;> omega
theorem tB_ncap {q : Nat} (h0 : w.1 0 1 = 0) (hq : m < q) (hm : m ≤ 65536) (hq2 : q < 2 ^ 28) : xJ ιI mB_ncap (lS m z f) (0, 0) 0 [(0, .ref 0), (1, .int (nI q))] [] w (some (nI (sb_cap q m), w)) := by
  have hc := cap_max hq
  have hc2 : sb_cap q m < 2 ^ 30 := by rw [← hc]; split <;> omega
  have hc3 := sb_cap_ge q m
  refine xj_aloadn 0 dB_ncap_0 rfl rfl ?_
  refine sgV dB_ncap_1 rfl ?_
  refine xj_alen (k := 1) (v := nI m) dB_ncap_4 rfl ⟨rfl, by decide⟩ ?_
  refine xj_istoren (lv2 := [(2, .int (nI m)), (0, .ref 0), (1, .int (nI q))]) dB_ncap_5 rfl (Nat.le_of_ble_eq_true rfl) rfl ?_
  refine xj_iloadn 2 dB_ncap_6 rfl rfl ?_
  refine xj_aloadn 1 dB_ncap_7 rfl rfl ?_
  refine sgK h0 dB_ncap_8 rfl ?_
  refine xj_ishl dB_ncap_11 ?_
  rw [sb_shl0]
  refine xj_istoren (lv2 := [(3, .int (nI q)), (2, .int (nI m)), (0, .ref 0), (1, .int (nI q))]) dB_ncap_12 rfl (Nat.le_of_ble_eq_true rfl) rfl ?_
  refine xj_iloadn 0 dB_ncap_13 rfl rfl ?_
  refine xj_iloadn 1 dB_ncap_14 rfl rfl ?_
  refine xj_isub dB_ncap_15 ?_
  rw [pk_sub (by omega)]
  refine xj_istore (lv2 := [(4, .int (nI (q - m))), (3, .int (nI q)), (2, .int (nI m)), (0, .ref 0), (1, .int (nI q))]) dB_ncap_16 (Nat.le_of_ble_eq_true rfl) rfl ?_
  refine xj_iloadn 2 dB_ncap_18 rfl rfl ?_
  refine xj_iload 0 dB_ncap_19 rfl ?_
  refine xj_iloadn 2 dB_ncap_21 rfl rfl ?_
  refine xj_iconst (v := 2) dB_ncap_22 (by decide) ?_
  refine xj_aloadn 3 dB_ncap_23 rfl rfl ?_
  refine sgK h0 dB_ncap_24 rfl ?_
  refine xj_ishl dB_ncap_27 ?_
  rw [sb_shl0]
  refine xj_iadd dB_ncap_28 ?_
  rw [show nI m + 2 = nI (m + 2) from nI_add m 2]
  refine xj_eq (r2 := xbd (some (nI (sb_cap q m), w)) (fun _ _ => some (nI (sb_cap q m), w))) rfl ?_
  refine xj_callS (b2 := (0, 0)) (b3 := (0, 0)) (argv := [.int (nI m), .int (nI (q - m)), .int (nI (m + 2))]) (rest := []) (fun x => [.int x]) (fun _ _ => rfl) (Nat.le_refl _) (Nat.le_refl _) dB_ncap_29 (by rw [← hc]; exact kB_nlen (by rw [hc]; exact hc2) (by omega)) mkB_nlen tB_m_J5_114 (xfit0_ok rfl) rfl rfl (Nat.zero_le _) (fun x w1 hx => ?_)
  cases hx
  refine xj_istore (lv2 := [(5, .int (nI (sb_cap q m))), (4, .int (nI (q - m))), (3, .int (nI q)), (2, .int (nI m)), (0, .ref 0), (1, .int (nI q))]) dB_ncap_32 (Nat.le_of_ble_eq_true rfl) rfl ?_
  refine xj_iload 0 dB_ncap_34 rfl ?_
  refine xj_ldc (v := 2147483647) tB_k_J5_39 dB_ncap_36 ?_
  refine xj_eq (xj_F (P := nI (sb_cap q m) = (2147483647 : Int32)) (fun h => by have := (nI_eq (a := sb_cap q m) (b := 2147483647) (by omega) (by decide)).mp h; omega)) ?_
  refine xj_ine (tgt := 51) dB_ncap_38 rfl xj_none ?_
  refine xj_iload 0 dB_ncap_51 rfl ?_
  refine xj_aloadn 4 dB_ncap_53 rfl rfl ?_
  refine sgK h0 dB_ncap_54 rfl ?_
  refine xj_ishr dB_ncap_57 ?_
  rw [sb_shr0]
  exact xj_ri dB_ncap_58 rfl
theorem kB_ncap {q : Nat} (h0 : w.1 0 1 = 0) (hq : m < q) (hm : m ≤ 65536) (hq2 : q < 2 ^ 28) : xMet jI mB_ncap (lS m z f) (0, 0) [.ref 0, .int (nI q)] w (some (nI (sb_cap q m), w)) := xj_met lS_ok (by decide) (Nat.le_of_ble_eq_true rfl) (Nat.zero_le _) (Nat.zero_le _) (tB_ncap h0 hq hm hq2)
end SB3
