/-! String.substring of a String constant -/
def RJ0 : String := "java/lang/String"
def TJ0 : u_T := fun k => match k with
  | 0 => ("java/lang/String", "value", "[B", true)
  | 1 => ("java/lang/String", "coder", "B", true)
  | 2 => ("java/lang/String", "hash", "I", false)
  | _ => ("java/lang/String", "hashIsZero", "Z", false)
def tyJ0 : Nat → FieldType := fun k => match k with
  | 0 => .array .byte
  | 1 => .byte
  | 2 => .int
  | _ => .boolean
theorem tyJ0_ok : ∀ k, k < 4 → parseFieldDescriptor (TJ0 k).2.2.1 = some (tyJ0 k) := by decide +kernel
theorem nmJ0 : ∀ a, a < 4 → ∀ b, b < 4 → a ≠ b → (TJ0 a).2.1 ≠ (TJ0 b).2.1 := by decide +kernel
set_option maxRecDepth 100000 in
theorem inJ0 : ∀ q ∈ u_ws RJ0 TJ0 4, q ∈ gtbl := by decide +kernel
/-- no cells of its own; the String constants -/
def lE : xLay := ([(RJ0, TJ0, 4)], [], (fun _ _ => (0, 0)), (fun _ _ ex => ex = []), fun G A U H => stStr G A U H)
theorem lE_ok : xLok lE := ⟨fun _ _ _ _ _ h => h, fun G A A2 s U H H2 hW hk hA h => stStr_ok G A A2 s U H H2 hW hk hA h⟩
theorem lE_str : xStrL lE := fun _ _ _ _ h => h
section SE
variable {M : xMd} {G : xG} {w : xW} {A : Nat → Prop} {X : xC} {H : Heap} {locs : List Loc} {ls : Array Slot} {cells slots pc : Nat} {Q : State → Prop} {rest : List Value}
/-- behind a call that makes nothing -/
theorem xb_after0 {st0 : List Value} {v : Option Value} {w2 : xW} {a : Array Value} (C : xCtx M lE X G A) (P : xPic lE G w [] A (xs X).heap H locs)
    (hr : va_Run X.1 X.2.1 X.2.2.1 M.2.2.2.2 X.2.2.2.1 X.2.2.2.2.1 X.2.2.2.2.2.1 X.2.2.2.2.2.2.1 X.2.2.2.2.2.2.2.1 X.2.2.2.2.2.2.2.2 H locs cells slots 0 0 (xF X pc ls st0) rest (xQ lE G w [] H.size v w2 a) (va_A (xws lE G w ++ []) H.size))
    (kk : ∀ (H1 : Heap) (locs1 : List Loc), xPic lE G w2 [] A (xs X).heap H1 locs1 → xWc M.2.2.2.2 X H1 locs1 cells slots Q (xF X (pc + 3) ls ((v.map (xv G)).toList ++ rest))) : xWc M.2.2.2.2 X H locs cells slots Q (xF X pc ls st0) := by
  intro T hT XX
  obtain ⟨v9, st₀, t, T', LL, h0, X', hL, e1, e2, ⟨⟨hv, ex2, hP1, hD1, hE1⟩, hz, hkeep⟩, stp⟩ := hr T hT XX
  cases hv
  cases (show ex2 = [] from hE1)
  rw [h0] at hz hkeep
  rw [← e1] at hP1 hz hkeep
  have hsub : ∀ y, va_A (xws lE G w ++ []) H.size y → A y := fun y hy => by
    rcases hy with ⟨kk, e, hh⟩ | hh
    · exact P.2.1.2 kk (y, e) hh
    · exact C.2.2.2.2.2.2.1 y (Nat.le_trans P.2.2.1.1 hh)
  have hS2 : va_S A (xs X).heap T'.heap (locs ++ LL) := ⟨Nat.le_trans P.2.2.1.1 hz, fun y h1 h2 => by
      rw [hkeep y (Nat.lt_of_lt_of_le h1 P.2.2.1.1) (fun hh => h2 (hsub y hh))]; exact P.2.2.1.2.1 y h1 h2, fun y hy => by
      rcases List.mem_append.mp hy with hh | hh
      · exact P.2.2.1.2.2 y hh
      · exact hsub _ (hL y hh)⟩
  have hgo := kk T'.heap (locs ++ LL) ⟨hP1, hD1.weaken (fun _ _ _ hh => hsub _ hh), hS2, rfl⟩
  obtain ⟨t2, a1, b1⟩ := hgo T' rfl X'
  exact ⟨t2, stp t2 a1, b1⟩
theorem xb_runS {M2 : xMd} {As : List Value} {idx n mc ms : Nat} {Qc : Array Value → State → Outcome → State → Prop} {free : Addr → Prop} (C : xCtx M lE X G A) (hS : va_S A (xs X).heap H locs)
    (hM : Met X.2.1 M2.1 (xwords M2) M2.2.2.2.2 (va_Pc As (xPre lE G w [] H.size)) Qc mc ms free) (hmk : xMkS M2 n) (hlink : Cond.methodLink M.1.cls idx M2.1 ∈ gtbl) (f1 : Nat.ble (M2.2.2.2.2.frames + 1) M.2.2.2.2.frames = true) (f2 : Nat.ble (8 + (M2.2.2.1 + 11) + M2.2.2.2.2.locals) M.2.2.2.2.locals = true) (f3 : M2.2.2.2.2.cells = mc) (f4 : M2.2.2.2.2.slots = ms)
    (hn : As.length = n) (hsize : ls.size = M.2.2.1) (hsum : Nat.ble (rest.map fun v => v.category).sum 8 = true) (hd : decode M.2.1 pc = .ok (.invokestatic idx, 3)) (hf : cells + mc ≤ M.2.2.2.2.cells ∧ slots + ms ≤ M.2.2.2.2.slots) :
    va_Run X.1 X.2.1 X.2.2.1 M.2.2.2.2 X.2.2.2.1 X.2.2.2.2.1 X.2.2.2.2.2.1 X.2.2.2.2.2.2.1 X.2.2.2.2.2.2.2.1 X.2.2.2.2.2.2.2.2 H locs cells slots mc ms (xF X pc ls (As.reverse ++ rest)) rest (Qc As.toArray) free := by
  obtain ⟨⟨m1, m2, m3, m4⟩, m5⟩ := hmk
  have hts := C.2.2.2.2.1
  exact va_runS (As := As) (rest := rest) (n := n) (own := M.1.cls) (Ts := gtbl) (bytes := M2.2.1) (maxL := M2.2.2.1) (ret := M2.2.2.2.1) (index := idx) ⟨C.1, C.2.1, C.2.2.1, C.2.2.2.1, hts⟩ hM ⟨callB_of n hts (xgood hts m1) rfl f3 f4 (hts _ m2) (hts _ hlink) ⟨m3.1, m3.2, m4⟩ ⟨Nat.le_of_ble_eq_true f1, Nat.le_of_ble_eq_true f2⟩, hts _ m5⟩ ⟨xPc_blind lE_ok, fun U hU hW => ⟨rfl, by rw [hU], fun k q hk => (by cases k <;> cases hk), va_K.moved hW.alike C.2.2.2.2.2.1, ⟨fun i j p q h => (by cases i <;> cases h), fun k q h => (by cases k <;> cases h)⟩, rfl, by
    rw [hU]
    exact lE_ok.2 G A _ (xs X) U (xs X).heap H hW (fun q h1 h2 => hS.2.1 q h1 h2) (fun q hq hh => by
      rcases hh with ⟨kk, e, hh⟩ | hh
      · cases kk <;> cases hh
      · exact C.2.2.2.2.2.2.1 q (Nat.le_trans hS.1 hh)) C.2.2.2.2.2.2.2.1⟩⟩ rfl hn hsize rfl (by show 2 * 0 + _ ≤ 8; have := Nat.le_of_ble_eq_true hsum; omega) hd hf
end SE
section TE
variable {w : xW}
theorem tE_cft {i j n : Nat} (h1 : i ≤ j) (h2 : j ≤ n) (h3 : n < 2 ^ 31) (z : Value) : xJ ιI mB_cft lE (0, 0) 0 [(0, .int (nI i)), (1, .int (nI j)), (2, .int (nI n)), (3, z)] [] w (some (nI i, w)) := by
  refine xj_iloadn 0 dB_cft_0 rfl rfl ?_
  refine xj_eq (xj_F (P := nI i < 0) (nI_pos (by omega))) ?_
  refine xj_iflt (tgt := 14) dB_cft_1 rfl xj_none ?_
  refine xj_iloadn 0 dB_cft_4 rfl rfl ?_
  refine xj_iloadn 1 dB_cft_5 rfl rfl ?_
  refine xj_eq (xj_F (P := nI j < nI i) (nI_nlt h1 (by omega))) ?_
  refine xj_igt (tgt := 14) dB_cft_6 rfl xj_none ?_
  refine xj_iloadn 1 dB_cft_9 rfl rfl ?_
  refine xj_iloadn 2 dB_cft_10 rfl rfl ?_
  refine xj_eq (xj_F (P := nI n < nI j) (nI_nlt h2 h3)) ?_
  refine xj_ile (tgt := 22) dB_cft_11 rfl xj_none ?_
  refine xj_iloadn 0 dB_cft_22 rfl rfl ?_
  exact xj_ri dB_cft_23 rfl
theorem tE_cbe {i j n : Nat} (h1 : i ≤ j) (h2 : j ≤ n) (h3 : n < 2 ^ 31) : xJ ιV mB_cbe lE (0, 0) 0 [(0, .int (nI i)), (1, .int (nI j)), (2, .int (nI n))] [] w (some ((), w)) := by
  have go : ∀ z : Value, z.category = 1 → lv_args 0 [.int (nI i), .int (nI j), .int (nI n), z] = [(0, .int (nI i)), (1, .int (nI j)), (2, .int (nI n)), (3, z)] → (lg_sl [.int (nI i), .int (nI j), .int (nI n), z]).length ≤ 4 → xJ ιV mB_cbe lE (0, 0) 6 [(0, .int (nI i)), (1, .int (nI j)), (2, .int (nI n))] [z, .int (nI n), .int (nI j), .int (nI i)] w (some ((), w)) := fun z hz h4 h5 => by
    have hk : xMet jI mB_cft lE (0, 0) [.int (nI i), .int (nI j), .int (nI n), z] w (some (nI i, w)) := xj_met lE_ok (by decide) h5 (Nat.zero_le _) (Nat.zero_le _) (by rw [h4]; exact tE_cft h1 h2 h3 z)
    refine xj_eq (r2 := xbd (some (nI i, w)) (fun _ w1 => some ((), w1))) rfl ?_
    refine xj_cSi (argv := [.int (nI i), .int (nI j), .int (nI n), z]) (rest := []) dB_cbe_6 hk mkB_cft tB_m_J0_1062 rfl rfl rfl rfl (fun x w1 => ?_)
    refine xj_pop dB_cbe_9 rfl ?_
    exact xj_rv dB_cbe_10 rfl
  refine xj_iloadn 0 dB_cbe_0 rfl rfl ?_
  refine xj_iloadn 1 dB_cbe_1 rfl rfl ?_
  refine xj_iloadn 2 dB_cbe_2 rfl rfl ?_
  exact xj_gs2 (v1 := .null) (v2 := .ref 3010) dB_cbe_3 tB_f_J0_1053 (fun G A U H h => h.2.2) (go .null rfl rfl (Nat.le_of_ble_eq_true rfl)) (go (.ref 3010) rfl rfl (Nat.le_of_ble_eq_true rfl))
theorem kE_cbe {i j n : Nat} (h1 : i ≤ j) (h2 : j ≤ n) (h3 : n < 2 ^ 31) : xMet jV mB_cbe lE (0, 0) [.int (nI i), .int (nI j), .int (nI n)] w (some ((), w)) := xj_met lE_ok (by decide) (Nat.le_of_ble_eq_true rfl) (Nat.zero_le _) (Nat.zero_le _) (tE_cbe h1 h2 h3)
theorem tE_ckl {i j : Nat} (h1 : i ≤ j) (h3 : j < 2 ^ 31) : xJ ιV mB_ckl lE (0, 0) 0 [(0, .int (nI i)), (1, .int (nI j))] [] w (some ((), w)) := by
  refine xj_iloadn 1 dB_ckl_0 rfl rfl ?_
  refine xj_iloadn 0 dB_ckl_1 rfl rfl ?_
  refine xj_eq (xj_F (P := nI j < nI i) (nI_nlt h1 h3)) ?_
  refine xj_ige (tgt := 37) dB_ckl_2 rfl xj_none ?_
  exact xj_rv dB_ckl_37 rfl
theorem kE_ckl {i j : Nat} (h1 : i ≤ j) (h3 : j < 2 ^ 31) : xMet jV mB_ckl lE (0, 0) [.int (nI i), .int (nI j)] w (some ((), w)) := xj_met lE_ok (by decide) (Nat.le_of_ble_eq_true rfl) (Nat.zero_le _) (Nat.zero_le _) (tE_ckl h1 h3)
end TE
/-- a new row of bytes, the letters i .. j - 1 of the constant s -/
abbrev arE (G : xG) (s i j : Nat) (ra : Nat) : va_W := [(ra, .inl (G.2.1 1, j - i, .inl (va_cpy (strCh s) (fun _ => 0) i 0 (j - i))))]
abbrev Qar (G : xG) (s i j sz : Nat) : Array Value → State → Outcome → State → Prop := va_Qr (fun _ : Unit => True) (fun _ ra t => va_P G.1 lE.1 (arE G s i j ra) t.heap ∧ va_D (va_A [] sz) (arE G s i j ra)) (va_A [] sz)
set_option maxHeartbeats 4000000 in
set_option maxRecDepth 100000 in
theorem c_crb {l : Launch} (hfl : l.flags = flags0) (G : xG) (w : xW) (s i j sz : Nat) (hs : s < strN) (hij : i < j) (hj : j ≤ strLenN s) (hlen : j - i ≤ 64) :
    Met l yB_crb (xwords mB_crb) mB_crb.2.2.2.2 (va_Pc [.ref (G.2.2 (1500 + s)), .int (nI i), .int (nI j)] (xPre lE G w [] sz)) (Qar G s i j sz) 1 64 (va_A [] sz) := by
  have hN := (strOk s hs).1
  refine xb_met (M := mB_crb) (L := lE) (w := w) (argv := [.ref (1500 + s), .int (nI i), .int (nI j)]) lE_ok (by decide) (Nat.le_of_ble_eq_true rfl) hfl ?_
  intro X ls hXl hsz hargs hr hlocks C P hl
  subst hsz
  have hl : lv_has ls 5 [(0, .ref (G.2.2 (1500 + s))), (1, .int (nI i)), (2, .int (nI j))] := hl
  have hts := C.2.2.2.2.1
  refine lv_iload_n C.1 C.2.1 dB_crb_0 rfl (lv_at hl 1 rfl) ?_
  refine lv_iload_n C.1 C.2.1 dB_crb_1 rfl (lv_at hl 2 rfl) ?_
  refine xb_after0 C P (xb_runS (w := w) (As := [.int (nI i), .int (nI j)]) (rest := []) (n := 2) C P.2.2.1 (kE_ckl (by omega) (by omega) _ rfl X.2.1 (by rw [hXl]; exact hfl) G [] _) mkB_ckl tB_m_J7_343 rfl rfl rfl rfl rfl hl.1 rfl dB_crb_2 ⟨Nat.zero_le _, Nat.zero_le _⟩) (fun H locs P => ?_)
  show xWc _ X H locs 0 0 _ (xF X 5 ls [])
  refine lv_iload_n C.1 C.2.1 dB_crb_5 rfl (lv_at hl 2 rfl) ?_
  refine lv_iload_n C.1 C.2.1 dB_crb_6 rfl (lv_at hl 1 rfl) ?_
  refine lv_isub C.1 C.2.1 dB_crb_7 ?_
  rw [pk_sub (by omega)]
  refine lv_istore_n (lv' := [(3, .int (nI (j - i))), (0, .ref (G.2.2 (1500 + s))), (1, .int (nI i)), (2, .int (nI j))]) C.1 C.2.1 dB_crb_8 rfl hl (by decide) rfl (fun ls hl => ?_)
  refine lv_iload_n C.1 C.2.1 dB_crb_9 rfl (lv_at hl 0 rfl) ?_
  have hP : va_P G.1 lE.1 [] H := P.1
  have hD : va_D (va_A (xws lE G w ++ []) (xs X).heap.size) [] := P.2.1
  have hS := P.2.2.1
  have hA := C.2.2.2.2.2.2.1
  have hK : va_K G.1 lE.1 (xtys G.2.1) (xs X) := C.2.2.2.2.2.1
  have hst : stStr G (va_A (xws lE G w ++ []) (xs X).heap.size) (xs X) (xs X).heap := C.2.2.2.2.2.2.2.1
  have hAA : (va_A (xws lE G w ++ []) (xs X).heap.size) = va_A [] (xs X).heap.size := rfl
  rw [hAA] at hD hS hA hst ⊢
  refine va_newa (atype := .byte) (N' := j - i) (ty := .byte) (a0 := (j - i, .inl fun _ => 0)) C.1 C.2.1 (hts _ tB_arr) rfl hK hP hD hS hA (fun _ => rfl) (nI_pos (by omega)) (nI_clamp (by omega)) (by show (j - i) * 1 ≤ _; omega) (by show 0 + 1 ≤ 1; omega) (by show 0 + (j - i) ≤ 64; omega) dB_crb_10 (fun q1 c1 H hK hP hD hS => ?_)
  have e1 : c1 = G.2.1 1 := Option.some.inj (((hK.2 4 (c1, .byte) rfl).2).symm.trans ((hK.2 1 (G.2.1 1, .byte) rfl).2))
  subst e1
  have hP : va_P G.1 lE.1 [(q1, .inl (G.2.1 1, j - i, .inl fun _ => 0))] H := hP
  have hD : va_D (va_A [] (xs X).heap.size) [(q1, .inl (G.2.1 1, j - i, .inl fun _ => 0))] := hD
  refine W.widen (k := 1) (n := 64) (by omega) (by omega) ?_
  refine lv_astore (lv' := [(4, .ref q1), (3, .int (nI (j - i))), (0, .ref (G.2.2 (1500 + s))), (1, .int (nI i)), (2, .int (nI j))]) C.1 C.2.1 dB_crb_12 hl (by decide) rfl (fun ls hl => ?_)
  refine lv_aload_n C.1 C.2.1 dB_crb_14 rfl (lv_at hl 2 rfl) ?_
  refine lv_iload_n C.1 C.2.1 dB_crb_15 rfl (lv_at hl 3 rfl) ?_
  refine lv_aload C.1 C.2.1 dB_crb_16 (lv_at hl 0 rfl) ?_
  refine lv_iconst (v := 0) C.1 C.2.1 dB_crb_18 (by decide) ?_
  refine lv_aload_n C.1 C.2.1 dB_crb_19 rfl (lv_at hl 2 rfl) ?_
  refine va_tlen (v := nI (strLenN s)) C.1 C.2.1 (hst.1 s hs).2.2.2 hS rfl dB_crb_20 ?_
  refine lv_iload_n C.1 C.2.1 dB_crb_21 rfl (lv_at hl 3 rfl) ?_
  refine lv_isub C.1 C.2.1 dB_crb_22 ?_
  rw [pk_sub (by omega)]
  refine lv_iload_n C.1 C.2.1 dB_crb_23 rfl (lv_at hl 1 rfl) ?_
  refine va_mmin (own := "java/util/Arrays") (index := 304) C.1 C.2.1 (C.2.2.1.trans hl.1.symm) C.2.2.2.1 (hts _ tB_m_J7_304) (hts _ twMin_st) (hts _ twMth_in) (hts _ twMin_co) (Nat.le_of_ble_eq_true rfl) (Nat.le_of_ble_eq_true rfl) (Nat.le_refl _) (Nat.le_refl _) dB_crb_24 ?_
  have emin : (if nI (j - i) < nI (strLenN s - i) then nI (j - i) else nI (strLenN s - i)) = nI (j - i) := by
    by_cases h : j - i < strLenN s - i
    · exact if_pos (nI_lt h (by omega))
    · rw [if_neg (nI_nlt (by omega) (by omega)), show strLenN s - i = j - i by omega]
  rw [emin]
  have ec : (nI (j - i)).toNatClampNeg = j - i := nI_clamp (by omega)
  have ei : (nI i).toNatClampNeg = i := nI_clamp (by omega)
  have e0 : (0 : Int32).toNatClampNeg = 0 := rfl
  refine vk_copyt (own := "java/util/Arrays") (index := 150) C.1 C.2.1 (C.2.2.1.trans hl.1.symm) C.2.2.2.1 (hts _ tB_m_J7_150) (hts _ twCpy_nat) (hts _ twCpy_st) (hts _ twCpy_in) hK hP hD hS (hst.1 s hs).2.2.2 0 1 rfl rfl (nI_pos (by omega)) (by decide) (nI_pos (by omega)) (by rw [ec, ei]; omega) (by rw [ec, e0]; omega) (fun i _ => strCh_fit hs _) (Nat.le_of_ble_eq_true rfl) (Nat.le_of_ble_eq_true rfl) dB_crb_27 (fun H locs hP hD hS => ?_)
  rw [ec, ei, e0] at hP hD
  have hP : va_P G.1 lE.1 (arE G s i j q1) H := hP
  have hD : va_D (va_A [] (xs X).heap.size) (arE G s i j q1) := hD
  refine lv_aload C.1 C.2.1 dB_crb_30 (lv_at hl 0 rfl) ?_
  exact W.aret C.1 C.2.1 hr (Or.inr ⟨_, rfl⟩) (Or.inr ⟨_, rfl⟩) (fun t ht _ => ⟨⟨(), q1, rfl, trivial, by rw [ht]; exact hP, hD⟩, hS.F ht⟩) hS.2.2 dB_crb_32
set_option maxHeartbeats 4000000 in
set_option maxRecDepth 100000 in
theorem c_cor {l : Launch} (hfl : l.flags = flags0) (G : xG) (w : xW) (s i j sz : Nat) (hs : s < strN) (hij : i < j) (hj : j ≤ strLenN s) (hlen : j - i ≤ 64) (hne : ¬ (i = 0 ∧ j = strLenN s)) :
    Met l yB_cor (xwords mB_cor) mB_cor.2.2.2.2 (va_Pc [.ref (G.2.2 (1500 + s)), .int (nI i), .int (nI j)] (xPre lE G w [] sz)) (Qar G s i j sz) 1 64 (va_A [] sz) := by
  have hN := (strOk s hs).1
  refine xb_met (M := mB_cor) (L := lE) (w := w) (argv := [.ref (1500 + s), .int (nI i), .int (nI j)]) lE_ok (by decide) (Nat.le_of_ble_eq_true rfl) hfl ?_
  intro X ls hXl hsz hargs hr hlocks C P hl
  subst hsz
  have hl : lv_has ls 3 [(0, .ref (G.2.2 (1500 + s))), (1, .int (nI i)), (2, .int (nI j))] := hl
  have hst : stStr G (va_A [] (xs X).heap.size) (xs X) (xs X).heap := C.2.2.2.2.2.2.2.1
  have hS0 : va_S (va_A [] (xs X).heap.size) (xs X).heap (xs X).heap [] := P.2.2.1
  have tail : xWc mB_cor.2.2.2.2 X (xs X).heap [] 0 0 (MQ X.2.2.2.2.2.2.1 (Qar G s i j (xs X).heap.size) X.2.2.2.2.2.1 (xs X) 1 64 (va_A (xws lE G w ++ []) (xs X).heap.size)) (xF X 10 ls []) := by
    refine lv_aload_n C.1 C.2.1 dB_cor_10 rfl (lv_at hl 0 rfl) ?_
    refine lv_iload_n C.1 C.2.1 dB_cor_11 rfl (lv_at hl 1 rfl) ?_
    refine lv_iload_n C.1 C.2.1 dB_cor_12 rfl (lv_at hl 2 rfl) ?_
    refine va_callr (xb_runS (w := w) (As := [.ref (G.2.2 (1500 + s)), .int (nI i), .int (nI j)]) (rest := []) (n := 3) C P.2.2.1 (c_crb (by rw [hXl]; exact hfl) G w s i j _ hs hij hj hlen) mkB_crb tB_m_J7_339 rfl rfl rfl rfl rfl hl.1 rfl dB_cor_13 ⟨Nat.le_of_ble_eq_true rfl, Nat.le_of_ble_eq_true rfl⟩) P.2.2.1 (fun q _ h => h) (fun q h => h) (fun u ra t H1 locs1 ht hvm hw hB hz1 hk1 hS => ?_)
    exact W.aret C.1 C.2.1 hr (Or.inr ⟨_, rfl⟩) (Or.inr ⟨_, rfl⟩) (fun t2 ht2 _ => ⟨⟨(), ra, rfl, trivial, by rw [ht2, ← ht]; exact hB.1, hB.2⟩, hS.F ht2⟩) hS.2.2 dB_cor_16
  refine lv_iload_n C.1 C.2.1 dB_cor_0 rfl (lv_at hl 1 rfl) ?_
  refine lv_if_ne (tgt := 10) C.1 C.2.1 dB_cor_1 (by decide) (fun _ => tail) (fun h0 => ?_)
  have hi0 : i = 0 := (nI_eq (a := i) (b := 0) (by omega) (by decide)).mp h0
  refine lv_iload_n C.1 C.2.1 dB_cor_4 rfl (lv_at hl 2 rfl) ?_
  refine lv_aload_n C.1 C.2.1 dB_cor_5 rfl (lv_at hl 0 rfl) ?_
  refine va_tlen (v := nI (strLenN s)) C.1 C.2.1 (hst.1 s hs).2.2.2 hS0 rfl dB_cor_6 ?_
  exact lv_icmp_eq (tgt := 17) C.1 C.2.1 dB_cor_7 (by decide) (fun h => absurd ⟨hi0, (nI_eq (by omega) (by omega)).mp h⟩ hne) (fun _ => tail)
