/-! copyOf, ensureCapacityInternal, append(char) -/
theorem gset_self (G : xG) : gset G (G.2.2 1) = G := by
  refine Prod.ext rfl (Prod.ext rfl (funext fun k => ?_))
  show (if k = 1 then G.2.2 1 else G.2.2 k) = G.2.2 k
  by_cases h : k = 1
  · rw [if_pos h, h]
  · rw [if_neg h]
set_option maxHeartbeats 4000000 in
set_option maxRecDepth 100000 in
theorem c_cpo (l : Launch) (D : va_G) (cl : List vw_C) (cA : Nat → ClassId) (b0 sz m q : Nat) (a : Nat → Int32) (hm : m ≤ 65536) (hq : m < q) (hq2 : q ≤ 402) (hf : sb_Fit a) : Met l yB_cpo (xwords mB_cpo) mB_cpo.2.2.2.2 (va_Pc [.ref b0, .int (nI q)] (fun U => U.heap.size = sz ∧ va_P D cl [(b0, .inl (cA 1, m, .inl a))] U.heap ∧ va_K D cl (xtys cA) U ∧ va_D (fun _ => True) [(b0, .inl (cA 1, m, .inl a))]))
    (va_Qr (fun _ : Unit => True) (fun _ ra t => va_P D cl [(b0, .inl (cA 1, m, .inl a)), (ra, .inl (cA 1, q, .inl (va_cpy a (fun _ => 0) 0 0 m)))] t.heap ∧ va_D (va_A [(b0, .inl (cA 1, m, .inl a))] sz) [(b0, .inl (cA 1, m, .inl a)), (ra, .inl (cA 1, q, .inl (va_cpy a (fun _ => 0) 0 0 m)))]) (va_A [(b0, .inl (cA 1, m, .inl a))] sz)) 1 402 (va_A [(b0, .inl (cA 1, m, .inl a))] sz) := by
  refine Met.ofW (cc := cB_cpo) (maxL := 3) (ret := some (.array .byte)) (by decide) rfl ?_
  intro p e s mm args below meth c s₁ B hml hv
  obtain ⟨rfl, hsz, hP, hK, hD0⟩ := hv
  have hx := B.exec
  have hb := B.bytes
  have hr := B.returns
  have hts : ∀ w ∈ gtbl, w.before _ s = true := fun w hw => atoms_spec (ws := xwords mB_cpo) B.pre w (List.mem_cons_of_mem _ hw)
  have hown : s.vm.findClass "java/util/Arrays" = some mm.cls := findClass_of_methodNamed B.named
  have hlocks := B.notSynchronized
  subst hsz
  have hD := hD0.self (sz := s.heap.size)
  generalize hAe : va_A [(b0, .inl (cA 1, m, .inl a))] s.heap.size = A at hD ⊢
  have hA : ∀ q : Nat, s.heap.size ≤ q → A q := fun q h => by rw [← hAe]; exact Or.inr h
  have hS : va_S A s.heap s.heap [] := va_S.rf
  have hl := lv_entry ([.ref b0, .int (nI q)]) (n := 3) (Nat.le_of_ble_eq_true rfl)
  rw [lg_entry_eq]
  generalize (lg_sl ([.ref b0, .int (nI q)]) ++ List.replicate (3 - (lg_sl ([.ref b0, .int (nI q)])).length) Slot.unset).toArray = ls at hl ⊢
  have hl : lv_has ls 3 [(0, .ref b0), (1, .int (nI q))] := hl
  refine lv_iload_n hx hb dB_cpo_0 rfl (lv_at hl 1 rfl) ?_
  refine lv_aload_n hx hb dB_cpo_1 rfl (lv_at hl 0 rfl) ?_
  refine va_alen (v := nI m) hx hb hK hP 0 1 rfl rfl rfl dB_cpo_2 ?_
  refine lv_icmp_ne (tgt := 14) hx hb dB_cpo_3 (by decide) (fun _ => ?_) (fun h => absurd ((nI_eq (by omega) (by omega)).mp h) (by omega))
  refine lv_iload_n hx hb dB_cpo_14 rfl (lv_at hl 1 rfl) ?_
  refine va_newa (atype := .byte) (N' := q) (ty := .byte) (a0 := (q, .inl fun _ => 0)) hx hb (hts _ tB_arr) rfl hK hP hD hS hA (fun _ => rfl) (nI_pos (by omega)) (nI_clamp (by omega)) (by show q * 1 ≤ _; omega) (by show 0 + 1 ≤ 1; omega) (by show 0 + q ≤ 402; omega) dB_cpo_15 (fun q1 c1 H hK hP hD hS => ?_)
  have e1 : c1 = cA 1 := Option.some.inj (((hK.2 4 (c1, .byte) rfl).2).symm.trans ((hK.2 1 (cA 1, .byte) rfl).2))
  subst e1
  have hP : va_P D cl [(b0, .inl (cA 1, m, .inl a)), (q1, .inl (cA 1, q, .inl fun _ => 0))] H := hP
  have hD : va_D A [(b0, .inl (cA 1, m, .inl a)), (q1, .inl (cA 1, q, .inl fun _ => 0))] := hD
  refine W.widen (k := 1) (n := 402) (by omega) (by omega) ?_
  refine lv_astore_n (lv' := [(2, .ref q1), (0, .ref b0), (1, .int (nI q))]) hx hb dB_cpo_17 rfl hl (by decide) rfl (fun ls hl => ?_)
  refine lv_aload_n hx hb dB_cpo_18 rfl (lv_at hl 1 rfl) ?_
  refine lv_iconst (v := 0) hx hb dB_cpo_19 (by decide) ?_
  refine lv_aload_n hx hb dB_cpo_20 rfl (lv_at hl 0 rfl) ?_
  refine lv_iconst (v := 0) hx hb dB_cpo_21 (by decide) ?_
  refine lv_aload_n hx hb dB_cpo_22 rfl (lv_at hl 1 rfl) ?_
  refine va_alen (v := nI m) hx hb hK hP 0 1 rfl rfl rfl dB_cpo_23 ?_
  refine lv_iload_n hx hb dB_cpo_24 rfl (lv_at hl 2 rfl) ?_
  refine va_mmin (own := "java/util/Arrays") (index := 304) hx hb (hml.trans hl.1.symm) hown (hts _ tB_m_J7_304) (hts _ twMin_st) (hts _ twMth_in) (hts _ twMin_co) (Nat.le_of_ble_eq_true rfl) (Nat.le_of_ble_eq_true rfl) (Nat.le_refl _) (Nat.le_refl _) dB_cpo_25 ?_
  rw [if_neg (nI_nlt (a := q) (b := m) (by omega) (by omega))]
  have ec : (nI m).toNatClampNeg = m := nI_clamp (by omega)
  refine va_copyi (own := "java/util/Arrays") (index := 150) hx hb (hml.trans hl.1.symm) hown (hts _ tB_m_J7_150) (hts _ twCpy_nat) (hts _ twCpy_st) (hts _ twCpy_in) hK hP hD hS 0 1 1 1 rfl rfl rfl rfl rfl (by decide) (by decide) (nI_pos (by omega)) (by rw [ec]; show 0 + m ≤ m; omega) (by rw [ec]; show 0 + m ≤ q; omega) (fun i _ => hf _) (Nat.le_of_ble_eq_true rfl) (Nat.le_of_ble_eq_true rfl) dB_cpo_28 (fun H locs hP hD hS => ?_)
  rw [ec] at hP hD
  have hP : va_P D cl [(b0, .inl (cA 1, m, .inl a)), (q1, .inl (cA 1, q, .inl (va_cpy a (fun _ => 0) 0 0 m)))] H := hP
  have hD : va_D A [(b0, .inl (cA 1, m, .inl a)), (q1, .inl (cA 1, q, .inl (va_cpy a (fun _ => 0) 0 0 m)))] := hD
  refine lv_aload_n hx hb dB_cpo_31 rfl (lv_at hl 0 rfl) ?_
  exact W.aret hx hb hr (Or.inr ⟨_, rfl⟩) (Or.inr ⟨_, rfl⟩) (fun t ht _ => ⟨⟨(), q1, rfl, trivial, by rw [ht]; exact hP, hD⟩, hS.F ht⟩) hS.2.2 dB_cpo_32
/-- behind ensureCapacityInternal q -/
def sbE (q m : Nat) (w : xW) : Nat → xW → Prop := fun m' w' => q ≤ m' ∧ m ≤ m' ∧ m' ≤ 65536 ∧ sb_Fit (w'.1 1) ∧ (∀ i, w'.1 0 i = w.1 0 i) ∧ ∀ j, j < m → w'.1 1 j = w.1 1 j
abbrev sbw (G : xG) (w : xW) (m : Nat) : va_W := [(G.2.2 0, .inr (10, [.ref (G.2.2 1), .int (w.1 0 1), .int (w.1 0 2), .int (w.1 0 3)])), (G.2.2 1, .inl (G.2.1 1, m, .inl (w.1 1)))]
theorem uB_ncap : sUw "java/lang/AbstractStringBuilder" 104 mB_ncap 1 := ⟨tB_m_J5_104, tB_q_ncap, tB_n_ncap, tB_i_J5, tB_c_ncap, tB_u_ncap, ⟨by decide, by decide⟩, by decide +kernel⟩
theorem uB_ens : sUw "java/lang/AbstractStringBuilder" 100 mB_ens 1 := ⟨tB_m_J5_100, tB_q_ens, tB_n_ens, tB_i_J5, tB_c_ens, tB_u_ens, ⟨by decide, by decide⟩, by decide +kernel⟩
section SB4
variable {M : xMd} {m z : Nat} {f : Nat → Int32} {G : xG} {w : xW} {A : Nat → Prop} {X : xC} {H : Heap} {locs : List Loc} {ls : Array Slot} {cells slots pc : Nat} {Q : State → Prop} {rest : List Value}
/-- behind a call that makes nothing -/
theorem sb_after0 {st0 : List Value} {v : Option Value} {w2 : xW} {a : Array Value} (C : xCtx M (lS m z f) X G A) (P : xPic (lS m z f) G w [] A (xs X).heap H locs)
    (hr : va_Run X.1 X.2.1 X.2.2.1 M.2.2.2.2 X.2.2.2.1 X.2.2.2.2.1 X.2.2.2.2.2.1 X.2.2.2.2.2.2.1 X.2.2.2.2.2.2.2.1 X.2.2.2.2.2.2.2.2 H locs cells slots 0 0 (xF X pc ls st0) rest (xQ (lS m z f) G w [] H.size v w2 a) (va_A (xws (lS m z f) G w ++ []) H.size))
    (kk : ∀ (H1 : Heap) (locs1 : List Loc), xPic (lS m z f) G w2 [] A (xs X).heap H1 locs1 → xWc M.2.2.2.2 X H1 locs1 cells slots Q (xF X (pc + 3) ls ((v.map (xv G)).toList ++ rest))) : xWc M.2.2.2.2 X H locs cells slots Q (xF X pc ls st0) := by
  intro T hT XX
  obtain ⟨v9, st₀, t, T', LL, h0, X', hL, e1, e2, ⟨⟨hv, ex2, hP1, hD1, hE1⟩, hz, hkeep⟩, stp⟩ := hr T hT XX
  cases hv
  cases (show ex2 = [] from hE1)
  rw [h0] at hz hkeep
  rw [← e1] at hP1 hz hkeep
  have hsub : ∀ y, va_A (xws (lS m z f) G w ++ []) H.size y → A y := fun y hy => by
    rcases hy with ⟨kk, e, hh⟩ | hh
    · exact P.2.1.2 kk (y, e) hh
    · exact C.2.2.2.2.2.2.1 y (Nat.le_trans P.2.2.1.1 hh)
  have hS2 : va_S A (xs X).heap T'.heap (locs ++ LL) := ⟨Nat.le_trans P.2.2.1.1 hz, fun y h1 h2 => by
      rw [hkeep y (Nat.lt_of_lt_of_le h1 P.2.2.1.1) (fun hh => h2 (hsub y hh))]; exact P.2.2.1.2.1 y h1 h2, fun y hy => by
      rcases List.mem_append.mp hy with hh | hh
      · exact P.2.2.1.2.2 y hh
      · exact hsub _ (hL y hh)⟩
  have hgo := kk T'.heap (locs ++ LL) ⟨hP1, hD1.weaken (fun _ _ _ hh => hsub _ hh), hS2, rfl⟩
  obtain ⟨t2, a1, b1⟩ := hgo T' rfl X'
  exact ⟨t2, stp t2 a1, b1⟩
theorem sb_end {m2 b2 : Nat} {w2 : xW} {v : Option Value} {R : Nat → xW → Prop} {H2 : Heap} {locs2 : List Loc} (P2 : xPic (lS m2 z f) (gset G b2) w2 [] (va_A (xws (lS m z f) G w ++ []) (xs X).heap.size) (xs X).heap H2 locs2) (hR : R m2 w2) (a : Array Value) :
    ∀ t : State, t.heap = H2 → sbQ z f G w m (xs X).heap.size v R a (xs X) (.returned v) t := fun t ht => ⟨⟨rfl, b2, m2, w2, hR, by rw [ht]; exact P2.1, P2.2.1⟩, P2.2.2.1.F ht⟩
end SB4
set_option maxHeartbeats 4000000 in
set_option maxRecDepth 100000 in
theorem c_ens {l : Launch} (hfl : l.flags = flags0) (G : xG) (w : xW) (m z : Nat) (f : Nat → Int32) (q sz : Nat) (h0 : w.1 0 1 = 0) (hm : m ≤ 65536) (hq : q ≤ m ∨ q ≤ 200) (hf : sb_Fit (w.1 1)) :
    Met l yB_ens (xwords mB_ens) mB_ens.2.2.2.2 (va_Pc [.ref (G.2.2 0), .int (nI q)] (xPre (lS m z f) G w [] sz)) (sbQ z f G w m sz none (sbE q m w)) 1 402 (va_A (xws (lS m z f) G w ++ []) sz) := by
  refine xb_met (M := mB_ens) (argv := [.ref 0, .int (nI q)]) lS_ok (by decide) (Nat.le_of_ble_eq_true rfl) hfl ?_
  intro X ls hXl hsz hargs hr hlocks C P hl
  subst hsz
  have hl : lv_has ls 3 [(0, .ref (G.2.2 0)), (1, .int (nI q))] := hl
  refine lv_aload_n C.1 C.2.1 dB_ens_0 rfl (lv_at hl 0 rfl) ?_
  refine wgV C P dB_ens_1 rfl ?_
  refine va_alen (v := nI m) C.1 C.2.1 C.2.2.2.2.2.1 P.1 1 1 (xws_arr (k := 1) rfl) rfl rfl dB_ens_4 ?_
  refine lv_aload_n C.1 C.2.1 dB_ens_5 rfl (lv_at hl 0 rfl) ?_
  refine wgK C P h0 dB_ens_6 rfl ?_
  refine lv_ishr C.1 C.2.1 dB_ens_9 ?_
  rw [sb_shr0]
  refine lv_istore_n (lv' := [(2, .int (nI m)), (0, .ref (G.2.2 0)), (1, .int (nI q))]) C.1 C.2.1 dB_ens_10 rfl hl (by decide) rfl (fun ls hl => ?_)
  refine lv_iload_n C.1 C.2.1 dB_ens_11 rfl (lv_at hl 2 rfl) ?_
  refine lv_iload_n C.1 C.2.1 dB_ens_12 rfl (lv_at hl 0 rfl) ?_
  refine lv_isub C.1 C.2.1 dB_ens_13 ?_
  have e1 : (nI q - nI m).toInt = (q : Int) - m := pk_sub_toInt (by omega) (by omega)
  refine lv_if_le (tgt := 38) C.1 C.2.1 dB_ens_14 (by decide) (fun hle => ?_) (fun hgt => ?_)
  · rw [Int32.le_iff_toInt_le, e1, Int32.toInt_zero] at hle
    refine W.widen (k := 1) (n := 402) (by omega) (by omega) ?_
    refine W.vret C.1 C.2.1 hr (fun t ht _ => sb_end (locs2 := []) (b2 := G.2.2 1) (m2 := m) (w2 := w) (by rw [gset_self]; exact P) ⟨by omega, Nat.le_refl _, hm, hf, fun _ => rfl, fun _ _ => rfl⟩ _ t ht) P.2.2.1.2.2 dB_ens_38
  · rw [Int32.le_iff_toInt_le, e1, Int32.toInt_zero] at hgt
    have hqm : m < q := by omega
    have hq2 : q ≤ 200 := hq.resolve_left (by omega)
    have hc0 := cap_max hqm
    have hcap : sb_cap q m ≤ 402 := by rw [← hc0]; split <;> omega
    have hcapq := sb_cap_ge q m
    refine lv_aload_n C.1 C.2.1 dB_ens_17 rfl (lv_at hl 1 rfl) ?_
    refine lv_aload_n C.1 C.2.1 dB_ens_18 rfl (lv_at hl 1 rfl) ?_
    refine wgV C P dB_ens_19 rfl ?_
    refine lv_aload_n C.1 C.2.1 dB_ens_22 rfl (lv_at hl 1 rfl) ?_
    refine lv_iload_n C.1 C.2.1 dB_ens_23 rfl (lv_at hl 2 rfl) ?_
    refine sb_after0 C P (sb_runU (As := [.int (nI q)]) (rest := [.ref (G.2.2 1), .ref (G.2.2 0)]) (n := 1) C P (kB_ncap h0 hqm hm (by omega) _ rfl X.2.1 (by rw [hXl]; exact hfl) G [] _) uB_ncap rfl rfl rfl rfl rfl hl.1 rfl dB_ens_24 ⟨Nat.zero_le _, Nat.zero_le _⟩) (fun H locs P => ?_)
    show xWc _ X H locs 0 0 _ (xF X 27 ls [.int (nI (sb_cap q m)), .ref (G.2.2 1), .ref (G.2.2 0)])
    refine lv_aload_n C.1 C.2.1 dB_ens_27 rfl (lv_at hl 1 rfl) ?_
    refine wgK C P h0 dB_ens_28 rfl ?_
    refine lv_ishl C.1 C.2.1 dB_ens_31 ?_
    rw [sb_shl0]
    have hP : va_P G.1 lC.1 (sbw G w m) H := P.1
    have hD : va_D (va_A (xws (lS m z f) G w ++ []) (xs X).heap.size) (sbw G w m) := P.2.1
    have hS := P.2.2.1
    have hA := C.2.2.2.2.2.2.1
    have hK : va_K G.1 lC.1 (xtys G.2.1) (xs X) := C.2.2.2.2.2.1
    have hts := C.2.2.2.2.1
    generalize hAe : va_A (xws (lS m z f) G w ++ []) (xs X).heap.size = A at hD hS hA C ⊢
    have hPc := hP.sub (ws' := [(G.2.2 1, .inl (G.2.1 1, m, .inl (w.1 1)))]) [1] rfl
    have hDc := hD.sub (ws' := [(G.2.2 1, .inl (G.2.1 1, m, .inl (w.1 1)))]) [1] (by decide) rfl
    have hFc := va_free (wc := [(G.2.2 1, .inl (G.2.1 1, m, .inl (w.1 1)))]) hD hS hA [1] rfl
    refine va_callr (va_runS (As := [.ref (G.2.2 1), .int (nI (sb_cap q m))]) (rest := [.ref (G.2.2 0)]) (n := 2) (own := "java/lang/AbstractStringBuilder") (Ts := gtbl) (bytes := cB_cpo) (maxL := 3) (index := 108) ⟨C.1, C.2.1, C.2.2.1, C.2.2.2.1, hts⟩ (c_cpo X.2.1 G.1 lC.1 G.2.1 (G.2.2 1) H.size m (sb_cap q m) (w.1 1) hm (by omega) hcap hf) ⟨callB_of 2 hts (xgood hts tB_c_cpo) rfl rfl rfl (hts _ tB_i_J7) (hts _ tB_m_J5_108) ⟨by decide, by decide, by decide +kernel⟩ ⟨Nat.le_of_ble_eq_true rfl, Nat.le_of_ble_eq_true rfl⟩, hts _ tB_s_cpo⟩ ⟨fun a U g mk q => by obtain ⟨q0, q1, qP, qK, qD⟩ := q; exact ⟨q0, q1, qP, va_K.moved (u := U) (U := U.calling g mk a) (Vm.Alike.refl U.vm) qK, qD⟩, fun U hU hW => ⟨rfl, by rw [hU], by rw [hU]; exact hPc, va_K.moved hW.alike hK, hDc.weaken (fun _ _ _ _ => trivial)⟩⟩ rfl rfl hl.1 rfl (lv_room (Nat.le_of_ble_eq_true rfl)) dB_ens_32 ⟨Nat.le_of_ble_eq_true rfl, Nat.le_of_ble_eq_true rfl⟩) hS (fun q _ h => hFc q h) hFc (fun u ra t H1 locs1 ht hvm hw hB hz1 hk1 hS => ?_)
    obtain ⟨hP1, hD1⟩ := hB
    rw [ht] at hP1
    obtain ⟨hP, hD⟩ := va_join (wr := [(G.2.2 0, .inr (10, [.ref (G.2.2 1), .int (w.1 0 1), .int (w.1 0 2), .int (w.1 0 3)]))]) (w1 := [(G.2.2 1, .inl (G.2.1 1, m, .inl (w.1 1))), (ra, .inl (G.2.1 1, sb_cap q m, .inl (va_cpy (w.1 1) (fun _ => 0) 0 0 m)))]) hP hD [1] [0] rfl rfl (by decide) (by decide) hk1 hFc hP1 hD1
    refine va_put (D := G.1) (ci := 10) (v := .ref ra) (ty := .array .byte) (C := RJ4) (T := TJ4) (N := 4) C.1 C.2.1 hts inJ4 tyJ4 tyJ4_ok nmJ4 C.2.2.2.1 hK hP hD hS 0 rfl rfl 0 (by decide) (hts _ tB_f_J5_15) (fun _ h9 => h9) rfl (by decide +kernel) rfl rfl (Nat.le_of_ble_eq_true rfl) dB_ens_35 (fun H2 locs2 hP hD hS => ?_)
    obtain ⟨w', hw'⟩ : ∃ w' : xW, w' = (fun a b => if a = 1 then va_cpy (w.1 1) (fun _ => 0) 0 0 m b else w.1 a b, w.2) := ⟨_, rfl⟩
    have ew0 : ∀ i, w'.1 0 i = w.1 0 i := fun i => by rw [hw']; rfl
    have ew1 : w'.1 1 = va_cpy (w.1 1) (fun _ => 0) 0 0 m := by rw [hw']; rfl
    have hP2 : va_P G.1 lC.1 (sbw (gset G ra) w' (sb_cap q m)) H2 := by
      show va_P G.1 lC.1 [(G.2.2 0, .inr (10, [.ref ra, .int (w'.1 0 1), .int (w'.1 0 2), .int (w'.1 0 3)])), (ra, .inl (G.2.1 1, sb_cap q m, .inl (w'.1 1)))] H2
      rw [ew0, ew0, ew0, ew1]
      exact hP.sub [0, 2] rfl
    have hD2 : va_D A (sbw (gset G ra) w' (sb_cap q m)) := by
      show va_D A [(G.2.2 0, .inr (10, [.ref ra, .int (w'.1 0 1), .int (w'.1 0 2), .int (w'.1 0 3)])), (ra, .inl (G.2.1 1, sb_cap q m, .inl (w'.1 1)))]
      rw [ew0, ew0, ew0, ew1]
      exact hD.sub [0, 2] (by decide) rfl
    refine W.vret C.1 C.2.1 hr (fun t ht _ => ?_) hS.2.2 dB_ens_38
    subst hAe
    refine sb_end (b2 := ra) (m2 := sb_cap q m) (w2 := w') ⟨hP2, hD2, hS, rfl⟩ ⟨hcapq, by omega, by omega, ?_, ew0, fun j hj => ?_⟩ _ t ht
    · rw [ew1]; exact sb_fitC hf sb_fit0
    · rw [ew1]; exact sb_cpy0 hj
/-- behind an append of the letters l -/
def sbR (n : Nat) (l : List Nat) (w : xW) : Nat → xW → Prop := fun m' w' => n + l.length ≤ m' ∧ m' ≤ 65536 ∧ sb_Fit (w'.1 1) ∧ w'.1 0 1 = 0 ∧ w'.1 0 3 = nI (n + l.length) ∧ (∀ j, j < n → w'.1 1 j = w.1 1 j) ∧ ∀ i, i < l.length → w'.1 1 (n + i) = sb_b (l.getD i 0)
set_option maxHeartbeats 4000000 in
set_option maxRecDepth 100000 in
theorem c_apc {l : Launch} (hfl : l.flags = flags0) (G : xG) (w : xW) (m z : Nat) (f : Nat → Int32) (n c sz : Nat) (h0 : w.1 0 1 = 0) (hn : w.1 0 3 = nI n) (hnm : n ≤ m) (hm : m ≤ 65536) (hn2 : n < 100) (hc : c < 256) (hf : sb_Fit (w.1 1)) :
    Met l yB_apc (xwords mB_apc) mB_apc.2.2.2.2 (va_Pc [.ref (G.2.2 0), .int (nI c)] (xPre (lS m z f) G w [] sz)) (sbQ z f G w m sz (some (.ref (G.2.2 0))) (sbR n [c] w)) 1 402 (va_A (xws (lS m z f) G w ++ []) sz) := by
  refine xb_met (M := mB_apc) (argv := [.ref 0, .int (nI c)]) lS_ok (by decide) (Nat.le_of_ble_eq_true rfl) hfl ?_
  intro X ls hXl hsz hargs hr hlocks C P hl
  subst hsz
  have hl : lv_has ls 2 [(0, .ref (G.2.2 0)), (1, .int (nI c))] := hl
  refine lv_aload_n C.1 C.2.1 dB_apc_0 rfl (lv_at hl 0 rfl) ?_
  refine lv_aload_n C.1 C.2.1 dB_apc_1 rfl (lv_at hl 0 rfl) ?_
  refine wgN C P hn dB_apc_2 rfl ?_
  refine lv_iconst (v := 1) C.1 C.2.1 dB_apc_5 (by decide) ?_
  refine lv_iadd C.1 C.2.1 dB_apc_6 ?_
  rw [nI_1]
  refine sb_after C P (sb_runU (As := [.int (nI (n + 1))]) (rest := []) (n := 1) C P (c_ens (by rw [hXl]; exact hfl) G w m z f (n + 1) _ h0 hm (by omega) hf) uB_ens rfl rfl rfl rfl rfl hl.1 rfl dB_apc_7 ⟨Nat.le_of_ble_eq_true rfl, Nat.le_of_ble_eq_true rfl⟩) (fun b' m' w' H1 locs1 hR P1 => ?_)
  obtain ⟨r1, r2, r3, r4, r5, r6⟩ := hR
  have hC2 : xCtx mB_apc (lS m' z f) X (gset G b') (va_A (xws (lS m z f) G w ++ []) (xs X).heap.size) := xCtx_gset C
  refine tB_apc (m := m') (z := z) (f := f) (w := w') (n := n) (c := c) ((r5 1).trans h0) ((r5 3).trans hn) r1 r3 hc _ rfl X (gset G b') _ [] H1 locs1 ls (0 + 1) (0 + 402) _ hC2 P1 hl (Nat.le_refl _) (Nat.le_refl _) (fun H2 locs2 ls2 pc2 ex2 cells2 slots2 g1 g2 g3 g4 g5 => ?_)
  cases (show ex2 = [] from g1.2.2.2)
  obtain ⟨g6, ty, g7, g8⟩ := g5
  refine W.widen (k := 1) (n := 402) g2 g3 ?_
  refine W.aret C.1 C.2.1 (hr.trans g7) g8 (Or.inr ⟨_, rfl⟩) (fun t ht _ => sb_end g1 ⟨r1, r3, ?_, ?_, rfl, ?_, ?_⟩ _ t ht) g1.2.2.1.2.2 g6
  · intro j
    show fits .byte (.int (if 1 = 1 ∧ j = n then sb_b c else w'.1 1 j)) = true
    by_cases hj : j = n
    · rw [if_pos ⟨rfl, hj⟩]; exact sb_fitB c
    · rw [if_neg (fun q => hj q.2)]; exact r4 j
  · exact (r5 1).trans h0
  · intro j hj
    show (if 1 = 1 ∧ j = n then sb_b c else w'.1 1 j) = w.1 1 j
    rw [if_neg (by omega)]
    exact r6 j (by omega)
  · intro i hi
    have e : i = 0 := by simpa using hi
    subst e
    show (if 1 = 1 ∧ n + 0 = n then sb_b c else w'.1 1 (n + 0)) = sb_b c
    rw [if_pos ⟨rfl, rfl⟩]
theorem pB_apc : sSw "java/lang/StringBuilder" 50 mB_apc 1 := ⟨tB_m_J4_50, tB_q_apc, tB_sup, tB_n_apc, tB_i_J5, tB_c_apc, by decide, by decide +kernel⟩
set_option maxHeartbeats 4000000 in
set_option maxRecDepth 100000 in
theorem c_Bapc {l : Launch} (hfl : l.flags = flags0) (G : xG) (w : xW) (m z : Nat) (f : Nat → Int32) (n c sz : Nat) (h0 : w.1 0 1 = 0) (hn : w.1 0 3 = nI n) (hnm : n ≤ m) (hm : m ≤ 65536) (hn2 : n < 100) (hc : c < 256) (hf : sb_Fit (w.1 1)) :
    Met l yB_Bapc (xwords mB_Bapc) mB_Bapc.2.2.2.2 (va_Pc [.ref (G.2.2 0), .int (nI c)] (xPre (lS m z f) G w [] sz)) (sbQ z f G w m sz (some (.ref (G.2.2 0))) (sbR n [c] w)) 1 402 (va_A (xws (lS m z f) G w ++ []) sz) := by
  refine xb_met (M := mB_Bapc) (argv := [.ref 0, .int (nI c)]) lS_ok (by decide) (Nat.le_of_ble_eq_true rfl) hfl ?_
  intro X ls hXl hsz hargs hr hlocks C P hl
  subst hsz
  have hl : lv_has ls 2 [(0, .ref (G.2.2 0)), (1, .int (nI c))] := hl
  refine lv_aload_n C.1 C.2.1 dB_Bapc_0 rfl (lv_at hl 0 rfl) ?_
  refine lv_iload_n C.1 C.2.1 dB_Bapc_1 rfl (lv_at hl 1 rfl) ?_
  refine sb_after C P (sb_runP (As := [.int (nI c)]) (rest := []) (n := 1) C P (c_apc (by rw [hXl]; exact hfl) G w m z f n c _ h0 hn hnm hm hn2 hc hf) pB_apc rfl rfl rfl rfl rfl hl.1 rfl dB_Bapc_2 ⟨Nat.le_of_ble_eq_true rfl, Nat.le_of_ble_eq_true rfl⟩) (fun b' m' w' H1 locs1 hR P1 => ?_)
  refine lv_pop C.1 C.2.1 dB_Bapc_5 rfl ?_
  refine lv_aload_n C.1 C.2.1 dB_Bapc_6 rfl (lv_at hl 0 rfl) ?_
  exact W.aret C.1 C.2.1 hr (Or.inl ⟨_, rfl⟩) (Or.inr ⟨_, rfl⟩) (fun t ht _ => sb_end P1 hR _ t ht) P1.2.2.1.2.2 dB_Bapc_7
