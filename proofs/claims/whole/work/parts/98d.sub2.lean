/-! String.<init>(byte[], byte), newString, substring -/
abbrev stE (h0 : Nat) (v : Value) : va_W := [(h0, .inr (0, [v, .int 0, .int 0, .int 0]))]
set_option maxHeartbeats 4000000 in
set_option maxRecDepth 100000 in
theorem c_ini (l : Launch) (D : va_G) (h0 rb sz : Nat) : Met l yB_ini (xwords mB_ini) mB_ini.2.2.2.2 (va_Pc [.ref h0, .ref rb, .int 0] (fun U => U.heap.size = sz ∧ va_P D lE.1 (stE h0 .null) U.heap ∧ va_K D lE.1 [] U ∧ va_D (fun _ => True) (stE h0 .null)))
    (va_Qv (fun _ : Unit => True) (fun _ t => va_P D lE.1 (stE h0 (.ref rb)) t.heap ∧ va_D (va_A (stE h0 .null) sz) (stE h0 (.ref rb))) (va_A (stE h0 .null) sz)) 0 0 (va_A (stE h0 .null) sz) := by
  refine Met.ofW (cc := cB_ini) (maxL := 3) (ret := none) (by decide) rfl ?_
  intro p e s m args below meth c s₁ B hml hv
  obtain ⟨rfl, hsz, hP, hK, hD0⟩ := hv
  have hx := B.exec
  have hb := B.bytes
  have hr := B.returns
  have hts : ∀ w ∈ gtbl, w.before _ s = true := fun w hw => atoms_spec (ws := xwords mB_ini) B.pre w (List.mem_cons_of_mem _ hw)
  have hown : s.vm.findClass RJ0 = some m.cls := findClass_of_methodNamed B.named
  have hin : meth.name = "<init>" := (name_of_methodNamed B.named B.method).1
  have hlocks := B.notSynchronized
  subst hsz
  have hD := hD0.self (sz := s.heap.size)
  generalize hAe : va_A (stE h0 .null) s.heap.size = A at hD ⊢
  have hA : ∀ q : Nat, s.heap.size ≤ q → A q := fun q h => by rw [← hAe]; exact Or.inr h
  have hS : va_S A s.heap s.heap [] := va_S.rf
  have hl := lv_entry ([.ref h0, .ref rb, .int 0]) (n := 3) (Nat.le_of_ble_eq_true rfl)
  rw [lg_entry_eq]
  generalize (lg_sl ([.ref h0, .ref rb, .int 0]) ++ List.replicate (3 - (lg_sl ([.ref h0, .ref rb, .int 0])).length) Slot.unset).toArray = ls at hl ⊢
  have hl : lv_has ls 3 [(0, .ref h0), (1, .ref rb), (2, .int 0)] := hl
  refine lv_aload_n hx hb dB_ini_0 rfl (lv_at hl 0 rfl) ?_
  refine W.objInit hx hb hown (hts _ tB_m_J0_1) (hts _ tw192) (hts _ tw193) rfl (by rw [hml]; exact hl.1) rfl dB_ini_1 (Nat.le_of_ble_eq_true rfl) (Nat.le_of_ble_eq_true rfl) ?_
  refine W.eq (g2 := F0 m 4 ls []) rfl ?_
  refine lv_aload_n hx hb dB_ini_4 rfl (lv_at hl 0 rfl) ?_
  refine lv_aload_n hx hb dB_ini_5 rfl (lv_at hl 1 rfl) ?_
  refine va_putF (D := D) (ci := 0) (v := .ref rb) (ty := .array .byte) (C := RJ0) (T := TJ0) (N := 4) hx hb hts inJ0 tyJ0 tyJ0_ok nmJ0 hown hK hP hD hS 0 rfl rfl 0 (by decide) (hts _ tB_f_J0_9) (fun _ h9 => h9) rfl hin rfl (by decide +kernel) rfl rfl (Nat.le_of_ble_eq_true rfl) dB_ini_6 (fun H locs hP hD hS => ?_)
  have hP : va_P D lE.1 (stE h0 (.ref rb)) H := hP
  have hD : va_D A (stE h0 (.ref rb)) := hD
  refine lv_aload_n hx hb dB_ini_9 rfl (lv_at hl 0 rfl) ?_
  refine lv_iload_n hx hb dB_ini_10 rfl (lv_at hl 2 rfl) ?_
  refine va_putF (D := D) (ci := 0) (v := .int 0) (ty := .byte) (C := RJ0) (T := TJ0) (N := 4) hx hb hts inJ0 tyJ0 tyJ0_ok nmJ0 hown hK hP hD hS 0 rfl rfl 1 (by decide) (hts _ tB_f_J0_15) (fun _ h9 => h9) rfl hin rfl (by decide +kernel) rfl rfl (Nat.le_of_ble_eq_true rfl) dB_ini_11 (fun H locs hP hD hS => ?_)
  have hP : va_P D lE.1 (stE h0 (.ref rb)) H := hP
  have hD : va_D A (stE h0 (.ref rb)) := hD
  exact W.vret hx hb hr (fun t ht hW => ⟨⟨(), rfl, trivial, by rw [ht]; exact hP, hD⟩, hS.F ht⟩) hS.2.2 dB_ini_14
/-- a new String, the letters i .. j - 1 of the constant s -/
abbrev nsE (G : xG) (s i j ra rb : Nat) : va_W := [(rb, .inl (G.2.1 1, j - i, .inl (va_cpy (strCh s) (fun _ => 0) i 0 (j - i)))), (ra, .inr (0, [.ref rb, .int 0, .int 0, .int 0]))]
abbrev Qns (G : xG) (s i j sz : Nat) : Array Value → State → Outcome → State → Prop := va_Qr (fun _ : Unit => True) (fun _ ra t => ∃ rb, va_P G.1 lE.1 (nsE G s i j ra rb) t.heap ∧ va_D (va_A [] sz) (nsE G s i j ra rb)) (va_A [] sz)
set_option maxHeartbeats 4000000 in
set_option maxRecDepth 100000 in
theorem c_nst {l : Launch} (hfl : l.flags = flags0) (G : xG) (w : xW) (s i j sz : Nat) (hs : s < strN) (hij : i < j) (hj : j ≤ strLenN s) (hlen : j - i ≤ 64) (hne : ¬ (i = 0 ∧ j = strLenN s)) :
    Met l yB_nst (xwords mB_nst) mB_nst.2.2.2.2 (va_Pc [.ref (G.2.2 (1500 + s)), .int (nI i), .int (nI (j - i))] (xPre lE G w [] sz)) (Qns G s i j sz) 2 80 (va_A [] sz) := by
  have hN := (strOk s hs).1
  refine xb_met (M := mB_nst) (L := lE) (w := w) (argv := [.ref (1500 + s), .int (nI i), .int (nI (j - i))]) lE_ok (by decide) (Nat.le_of_ble_eq_true rfl) hfl ?_
  intro X ls hXl hsz hargs hr hlocks C P hl
  subst hsz
  have hl : lv_has ls 3 [(0, .ref (G.2.2 (1500 + s))), (1, .int (nI i)), (2, .int (nI (j - i)))] := hl
  have hts := C.2.2.2.2.1
  have hP : va_P G.1 lE.1 [] (xs X).heap := P.1
  have hD : va_D (va_A [] (xs X).heap.size) [] := P.2.1
  have hS : va_S (va_A [] (xs X).heap.size) (xs X).heap (xs X).heap [] := P.2.2.1
  have hA : ∀ q : Nat, (xs X).heap.size ≤ q → va_A [] (xs X).heap.size q := C.2.2.2.2.2.2.1
  have hK : va_K G.1 lE.1 (xtys G.2.1) (xs X) := C.2.2.2.2.2.1
  have hK0 : va_K G.1 lE.1 [] (xs X) := hK.sub [] rfl
  have hown := C.2.2.2.1
  have hAA : (va_A (xws lE G w ++ []) (xs X).heap.size) = va_A [] (xs X).heap.size := rfl
  rw [hAA] at C ⊢
  refine lv_iload_n C.1 C.2.1 dB_nst_0 rfl (lv_at hl 2 rfl) ?_
  refine lv_if_ne (tgt := 7) C.1 C.2.1 dB_nst_1 (by decide) (fun _ => ?_) (fun h0 => absurd ((nI_eq (a := j - i) (b := 0) (by omega) (by decide)).mp h0) (by omega))
  refine va_new (ci := 0) (fs := [.null, .int 0, .int 0, .int 0]) (C := RJ0) (T := TJ0) (N := 4) C.1 C.2.1 hts inJ0 tyJ0 tyJ0_ok hown (hts _ tB_w_J1_1) (hts _ tB_inst) (hts _ tB_i_J0) hK hP hD hS hA rfl (fun j hj => by rcases (show j = 0 ∨ j = 1 ∨ j = 2 ∨ j = 3 by omega) with rfl | rfl | rfl | rfl <;> rfl) (Nat.le_of_ble_eq_true rfl) (Nat.le_of_ble_eq_true rfl) dB_nst_7 (fun q1 H hP hD hS => ?_)
  have hP : va_P G.1 lE.1 (stE q1 .null) H := hP
  have hD : va_D (va_A [] (xs X).heap.size) (stE q1 .null) := hD
  refine W.widen (k := 1) (n := 16) (by decide) (by decide) ?_
  refine lv_dup C.1 C.2.1 dB_nst_10 rfl ?_
  refine lv_aload_n C.1 C.2.1 dB_nst_11 rfl (lv_at hl 0 rfl) ?_
  refine lv_iload_n C.1 C.2.1 dB_nst_12 rfl (lv_at hl 1 rfl) ?_
  refine lv_iload_n C.1 C.2.1 dB_nst_13 rfl (lv_at hl 1 rfl) ?_
  refine lv_iload_n C.1 C.2.1 dB_nst_14 rfl (lv_at hl 2 rfl) ?_
  refine lv_iadd C.1 C.2.1 dB_nst_15 ?_
  rw [nI_add, show i + (j - i) = j by omega]
  have hFc := va_free (wc := []) hD hS hA [] rfl
  refine va_callr (xb_runS (w := w) (As := [.ref (G.2.2 (1500 + s)), .int (nI i), .int (nI j)]) (rest := [.ref q1, .ref q1]) (n := 3) C hS (c_cor (by rw [hXl]; exact hfl) G w s i j _ hs hij hj hlen hne) mkB_cor tB_m_J1_232 rfl rfl rfl rfl rfl hl.1 rfl dB_nst_16 ⟨Nat.le_of_ble_eq_true rfl, Nat.le_of_ble_eq_true rfl⟩) hS (fun q _ h => hFc q h) hFc (fun u rb t H1 locs1 ht hvm hw hB hz1 hk1 hS => ?_)
  obtain ⟨hP1, hD1⟩ := hB
  rw [ht] at hP1
  obtain ⟨hP, hD⟩ := va_join (wr := stE q1 .null) (w1 := arE G s i j rb) hP hD [] [0] rfl rfl (by decide) (by decide) hk1 hFc hP1 hD1
  have hP : va_P G.1 lE.1 [(q1, .inr (0, [.null, .int 0, .int 0, .int 0])), (rb, .inl (G.2.1 1, j - i, .inl (va_cpy (strCh s) (fun _ => 0) i 0 (j - i))))] H1 := hP
  have hD : va_D (va_A [] (xs X).heap.size) [(q1, .inr (0, [.null, .int 0, .int 0, .int 0])), (rb, .inl (G.2.1 1, j - i, .inl (va_cpy (strCh s) (fun _ => 0) i 0 (j - i))))] := hD
  refine lv_iconst (v := 0) C.1 C.2.1 dB_nst_19 (by decide) ?_
  have hPc := hP.sub (ws' := stE q1 .null) [0] rfl
  have hDc := hD.sub (ws' := stE q1 .null) [0] (by decide) rfl
  have hFc := va_free (wc := stE q1 .null) hD hS hA [0] rfl
  refine va_callv (va_runI (As := [.ref rb, .int 0]) (rest := [.ref q1]) (n := 2) (own := "java/lang/StringLatin1") (Ts := gtbl) (bytes := cB_ini) (maxL := 3) (index := 112) ⟨C.1, C.2.1, C.2.2.1, C.2.2.2.1, hts⟩ (c_ini X.2.1 G.1 q1 rb H1.size) ⟨callB_of 2 hts (xgood hts tB_c_ini) rfl rfl rfl (hts _ tB_i_J0) (hts _ tB_m_J1_112) ⟨by decide, by decide, by decide +kernel⟩ ⟨Nat.le_of_ble_eq_true rfl, Nat.le_of_ble_eq_true rfl⟩, rfl, hts _ tB_n_ini⟩ ⟨fun a U g mk q => by obtain ⟨q0, q1, qP, qK, qD⟩ := q; exact ⟨q0, q1, qP, va_K.moved (u := U) (U := U.calling g mk a) (Vm.Alike.refl U.vm) qK, qD⟩, fun U hU hW => ⟨rfl, by rw [hU], by rw [hU]; exact hPc, va_K.moved hW.alike hK0, hDc.weaken (fun _ _ _ _ => trivial)⟩⟩ rfl rfl hl.1 rfl (lv_room (Nat.le_of_ble_eq_true rfl)) dB_nst_20 ⟨Nat.le_of_ble_eq_true rfl, Nat.le_of_ble_eq_true rfl⟩) hS (fun q _ h => hFc q h) hFc (fun u t H2 locs2 ht hvm hw hB hz1 hk1 hS => ?_)
  obtain ⟨hP1, hD1⟩ := hB
  rw [ht] at hP1
  obtain ⟨hP, hD⟩ := va_join (wr := [(rb, .inl (G.2.1 1, j - i, .inl (va_cpy (strCh s) (fun _ => 0) i 0 (j - i))))]) (w1 := stE q1 (.ref rb)) hP hD [0] [1] rfl rfl (by decide) (by decide) hk1 hFc hP1 hD1
  refine W.widen (k := 2) (n := 80) (by decide) (by decide) ?_
  exact W.aret C.1 C.2.1 hr (Or.inl ⟨_, rfl⟩) (Or.inr ⟨_, rfl⟩) (fun t ht _ => ⟨⟨(), q1, rfl, trivial, rb, by rw [ht]; exact hP, hD⟩, hS.F ht⟩) hS.2.2 dB_nst_23
set_option maxHeartbeats 4000000 in
set_option maxRecDepth 100000 in
theorem c_sub {l : Launch} (hfl : l.flags = flags0) (G : xG) (w : xW) (s i j sz : Nat) (hs : s < strN) (hij : i < j) (hj : j ≤ strLenN s) (hlen : j - i ≤ 64) (hne : ¬ (i = 0 ∧ j = strLenN s)) :
    Met l yB_sub (xwords mB_sub) mB_sub.2.2.2.2 (va_Pc [.ref (G.2.2 (1000 + s)), .int (nI i), .int (nI j)] (xPre lE G w [] sz)) (Qns G s i j sz) 2 80 (va_A [] sz) := by
  have hN := (strOk s hs).1
  refine xb_met (M := mB_sub) (L := lE) (w := w) (argv := [.ref (1000 + s), .int (nI i), .int (nI j)]) lE_ok (by decide) (Nat.le_of_ble_eq_true rfl) hfl ?_
  intro X ls hXl hsz hargs hr hlocks C P hl
  subst hsz
  have hl : lv_has ls 5 [(0, .ref (G.2.2 (1000 + s))), (1, .int (nI i)), (2, .int (nI j))] := hl
  have hts := C.2.2.2.2.1
  have hst : stStr G (va_A [] (xs X).heap.size) (xs X) (xs X).heap := C.2.2.2.2.2.2.2.1
  have hrecv : ∀ {H : Heap} {locs : List Loc}, va_S (va_A [] (xs X).heap.size) (xs X).heap H locs → ∃ cell : Cell, H[G.2.2 (1000 + s)]? = some cell ∧ cell.vm.isStatics = false ∧ (xs X).vm.findClass "java/lang/String" = some cell.cls := fun hS => by
    obtain ⟨cell, h1, h2, h3, h4⟩ := (hst.1 s hs).1.kept hS.2.1
    exact ⟨cell, h1, h2, h3⟩
  have hPre : ∀ {H : Heap} {locs : List Loc}, va_S (va_A [] (xs X).heap.size) (xs X).heap H locs → ∀ U : State, U.heap = H → (xs X).WarmedH U.vm → xPre lE G w [] H.size U := fun {H} {locs} hS U hU hW => ⟨by rw [hU], fun k q hk => (by cases k <;> cases hk), va_K.moved hW.alike C.2.2.2.2.2.1, ⟨fun i j p q h => (by cases i <;> cases h), fun k q h => (by cases k <;> cases h)⟩, rfl, by
    rw [hU]
    exact lE_ok.2 G _ _ (xs X) U (xs X).heap H hW (fun q h1 h2 => hS.2.1 q h1 h2) (fun q hq hh => by
      rcases hh with ⟨kk, e, hh⟩ | hh
      · cases kk <;> cases hh
      · exact C.2.2.2.2.2.2.1 q (Nat.le_trans hS.1 hh)) C.2.2.2.2.2.2.2.1⟩
  have hfx : X.2.1.flags = flags0 := by rw [hXl]; exact hfl
  refine lv_aload_n C.1 C.2.1 dB_sub_0 rfl (lv_at hl 0 rfl) ?_
  refine xb_after0 C P (va_runV (As := []) (rest := []) (n := 0) (C := "java/lang/String") (own := "java/lang/String") (Ts := gtbl) (bytes := cStr_length) (maxL := 1) (index := 505) ⟨C.1, C.2.1, C.2.2.1, C.2.2.2.1, hts⟩ (kStr_length lE_ok lE_str hs w _ rfl X.2.1 hfx G [] _) ⟨callB_of 0 hts (xgood hts mkStr_length.1.1) rfl rfl rfl (hts _ tB_i_J0) (hts _ tB_m_J0_505) ⟨by decide, by decide, by decide +kernel⟩ ⟨Nat.le_of_ble_eq_true rfl, Nat.le_of_ble_eq_true rfl⟩, hts _ mkStr_length.2.1, hts _ mkStr_length.2.2⟩ ⟨xPc_blind lE_ok, hrecv P.2.2.1, fun U hU hW => ⟨rfl, hPre P.2.2.1 U hU hW⟩⟩ rfl rfl hl.1 rfl (lv_room (Nat.le_of_ble_eq_true rfl)) dB_sub_1 ⟨Nat.zero_le _, Nat.zero_le _⟩) (fun H locs P => ?_)
  show xWc _ X H locs 0 0 _ (xF X 4 ls [.int (nI (strLenN s))])
  refine lv_istore_n (lv' := [(3, .int (nI (strLenN s))), (0, .ref (G.2.2 (1000 + s))), (1, .int (nI i)), (2, .int (nI j))]) C.1 C.2.1 dB_sub_4 rfl hl (by decide) rfl (fun ls hl => ?_)
  refine lv_iload_n C.1 C.2.1 dB_sub_5 rfl (lv_at hl 2 rfl) ?_
  refine lv_iload_n C.1 C.2.1 dB_sub_6 rfl (lv_at hl 3 rfl) ?_
  refine lv_iload_n C.1 C.2.1 dB_sub_7 rfl (lv_at hl 0 rfl) ?_
  refine xb_after0 C P (xb_runS (w := w) (As := [.int (nI i), .int (nI j), .int (nI (strLenN s))]) (rest := []) (n := 3) C P.2.2.1 (kE_cbe (by omega) hj (by omega) _ rfl X.2.1 hfx G [] _) mkB_cbe tB_m_J0_521 rfl rfl rfl rfl rfl hl.1 rfl dB_sub_8 ⟨Nat.zero_le _, Nat.zero_le _⟩) (fun H locs P => ?_)
  show xWc _ X H locs 0 0 _ (xF X 11 ls [])
  have tail : xWc mB_sub.2.2.2.2 X H locs 0 0 (MQ X.2.2.2.2.2.2.1 (Qns G s i j (xs X).heap.size) X.2.2.2.2.2.1 (xs X) 2 80 (va_A [] (xs X).heap.size)) (xF X 22 ls []) := by
    refine lv_iload_n C.1 C.2.1 dB_sub_22 rfl (lv_at hl 3 rfl) ?_
    refine lv_iload_n C.1 C.2.1 dB_sub_23 rfl (lv_at hl 2 rfl) ?_
    refine lv_isub C.1 C.2.1 dB_sub_24 ?_
    rw [pk_sub (by omega)]
    refine lv_istore (lv' := [(4, .int (nI (j - i))), (3, .int (nI (strLenN s))), (0, .ref (G.2.2 (1000 + s))), (1, .int (nI i)), (2, .int (nI j))]) C.1 C.2.1 dB_sub_25 hl (by decide) rfl (fun ls hl => ?_)
    refine lv_aload_n C.1 C.2.1 dB_sub_27 rfl (lv_at hl 2 rfl) ?_
    refine xb_after0 C P (va_runV (As := []) (rest := []) (n := 0) (C := "java/lang/String") (own := "java/lang/String") (Ts := gtbl) (bytes := cStr_isLatin1) (maxL := 1) (index := 492) ⟨C.1, C.2.1, C.2.2.1, C.2.2.2.1, hts⟩ (kStr_isLatin1 lE_ok lE_str hs w _ rfl X.2.1 hfx G [] _) ⟨callB_of 0 hts (xgood hts mkStr_isLatin1.1.1) rfl rfl rfl (hts _ tB_i_J0) (hts _ tB_m_J0_492) ⟨by decide, by decide, by decide +kernel⟩ ⟨Nat.le_of_ble_eq_true rfl, Nat.le_of_ble_eq_true rfl⟩, hts _ mkStr_isLatin1.2.1, hts _ mkStr_isLatin1.2.2⟩ ⟨xPc_blind lE_ok, hrecv P.2.2.1, fun U hU hW => ⟨rfl, hPre P.2.2.1 U hU hW⟩⟩ rfl rfl hl.1 rfl (lv_room (Nat.le_of_ble_eq_true rfl)) dB_sub_28 ⟨Nat.zero_le _, Nat.zero_le _⟩) (fun H locs P => ?_)
    show xWc _ X H locs 0 0 _ (xF X 31 ls [.int 1])
    refine lv_if_eq (tgt := 47) C.1 C.2.1 dB_sub_31 (by decide) (fun h => absurd h (by decide)) (fun _ => ?_)
    refine lv_aload_n C.1 C.2.1 dB_sub_34 rfl (lv_at hl 2 rfl) ?_
    refine vk_getf C.1 C.2.1 (hst.1 s hs).2.2.1 P.2.2.1 C.2.2.2.1 (hts _ tB_f_J0_9) (fun _ h => h) dB_sub_35 ?_
    refine lv_iload_n C.1 C.2.1 dB_sub_38 rfl (lv_at hl 3 rfl) ?_
    refine lv_iload C.1 C.2.1 dB_sub_39 (lv_at hl 0 rfl) ?_
    have hD : va_D (va_A [] (xs X).heap.size) [] := P.2.1
    have hFc := va_free (wc := []) hD P.2.2.1 C.2.2.2.2.2.2.1 [] rfl
    refine va_callr (xb_runS (w := w) (As := [.ref (G.2.2 (1500 + s)), .int (nI i), .int (nI (j - i))]) (rest := []) (n := 3) C P.2.2.1 (c_nst hfx G w s i j _ hs hij hj hlen hne) mkB_nst tB_m_J0_685 rfl rfl rfl rfl rfl hl.1 rfl dB_sub_41 ⟨Nat.le_of_ble_eq_true rfl, Nat.le_of_ble_eq_true rfl⟩) P.2.2.1 (fun q _ h => hFc q h) hFc (fun u ra t H1 locs1 ht hvm hw hB hz1 hk1 hS => ?_)
    obtain ⟨rb, hB1, hB2⟩ := hB
    refine lv_goto (tgt := 57) C.1 C.2.1 dB_sub_44 (by decide) ?_
    exact W.aret C.1 C.2.1 hr (Or.inl ⟨_, rfl⟩) (Or.inr ⟨_, rfl⟩) (fun t2 ht2 _ => ⟨⟨(), ra, rfl, trivial, rb, by rw [ht2, ← ht]; exact hB1, hB2.weaken (fun _ _ _ h => hFc _ h)⟩, hS.F ht2⟩) hS.2.2 dB_sub_57
  refine lv_iload_n C.1 C.2.1 dB_sub_11 rfl (lv_at hl 2 rfl) ?_
  refine lv_if_ne (tgt := 22) C.1 C.2.1 dB_sub_12 (by decide) (fun _ => tail) (fun h0 => ?_)
  have hi0 : i = 0 := (nI_eq (a := i) (b := 0) (by omega) (by decide)).mp h0
  refine lv_iload_n C.1 C.2.1 dB_sub_15 rfl (lv_at hl 3 rfl) ?_
  refine lv_iload_n C.1 C.2.1 dB_sub_16 rfl (lv_at hl 0 rfl) ?_
  exact lv_icmp_ne (tgt := 22) C.1 C.2.1 dB_sub_17 (by decide) (fun _ => tail) (fun h => absurd ⟨hi0, (nI_eq (by omega) (by omega)).mp h⟩ hne)
