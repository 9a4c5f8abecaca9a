/-! the builder in the class's world: calls of its members by the worlds' texts (cells 40, 41) -/
theorem va_join2 {A0 : Nat → Prop} {D : va_G} {cl : List vw_C} {a c c1 : va_W} {H H1 : Heap} (hP : va_P D cl (a ++ c) H) (hD : va_D A0 (a ++ c)) (hk : ∀ q : Nat, q < H.size → ¬ va_A c H.size q → H1[q]? = H[q]?) (hF : ∀ q, va_A c H.size q → A0 q) (hP1 : va_P D cl c1 H1) (hD1 : va_D (va_A c H.size) c1) : va_P D cl (a ++ c1) H1 ∧ va_D A0 (a ++ c1) := by
  have left : ∀ (k : Nat) (q : Nat × va_E), a[k]? = some q → (a ++ c)[k]? = some q := fun k q h => by
    rw [List.getElem?_append_left (List.getElem?_eq_some_iff.mp h).1]; exact h
  have apart : ∀ (k : Nat) (q : Nat × va_E), a[k]? = some q → q.1 < H.size ∧ ¬ va_A c H.size q.1 := fun k q hq => by
    have hl := (hP k q (left k q hq)).lt
    have hka := (List.getElem?_eq_some_iff.mp hq).1
    refine ⟨hl, fun h => ?_⟩
    rcases h with ⟨k2, e, h⟩ | h
    · have h4 : (a ++ c)[a.length + k2]? = some (q.1, e) := by
        rw [List.getElem?_append_right (by omega), Nat.add_sub_cancel_left]; exact h
      have := hD.1 k (a.length + k2) q (q.1, e) (left k q hq) h4 rfl
      omega
    · omega
  refine ⟨va_P.app (fun k q hq => ?_) hP1, va_D.app ⟨fun i j p q h1 h2 h3 => hD.1 i j p q (left i p h1) (left j q h2) h3, fun k q h => hD.2 k q (left k q h)⟩ (hD1.weaken (fun k q _ h => hF q.1 h)) (fun i j x y hx hy hxy => ?_)⟩
  · obtain ⟨g1, g2⟩ := apart k q hq
    exact (hP k q (left k q hq)).kept (hk q.1 g1 g2)
  · exact (apart i x hx).2 (by rw [hxy]; exact hD1.2 j y hy)
def gS (G : xG) (b sa va : Nat) : xG := (G.1, G.2.1, fun k => if k = 0 then G.2.2 30 else if k = 1 then b else if k = 5 then sa else if k = 6 then va else G.2.2 k)
theorem xws_blind {G : xG} {w w2 : xW} (h1 : ∀ k, k < 23 → ∀ i, w2.1 k i = w.1 k i) (h2 : w2.2 = w.2) : xws lC G w2 = xws lC G w := by
  unfold xws
  refine List.map_congr_left (fun k hk => ?_)
  have hk : k < 23 := List.mem_range.mp hk
  have e1 : w2.1 k = w.1 k := funext (h1 k hk)
  have e2 : xfv lC G w2 k = xfv lC G w k := by
    funext j
    unfold xfv
    rw [e1, h2]
  unfold xcell
  rw [e1, e2]
/-- the text of a world, with more letters -/
def tput1 (w : xW) (c : Nat) : xW := xwi (xwi w 40 (w.1 41 0).toNatClampNeg (nI c)) 41 0 (w.1 41 0 + 1)
def tput : xW → List Nat → xW
  | w, [] => w
  | w, c :: l => tput (tput1 w c) l
theorem tput_w : ∀ (l : List Nat) (w : xW) (n : Nat), w.1 41 0 = nI n → n + l.length < 2 ^ 31 → (tput w l).2 = w.2 ∧ (∀ k i, k ≠ 40 → k ≠ 41 → (tput w l).1 k i = w.1 k i) ∧ (tput w l).1 41 0 = nI (n + l.length) ∧ (∀ i, i ≠ 0 → (tput w l).1 41 i = w.1 41 i) ∧ (∀ j, (j < n ∨ n + l.length ≤ j) → (tput w l).1 40 j = w.1 40 j) ∧ ∀ i, i < l.length → (tput w l).1 40 (n + i) = nI (l.getD i 0)
  | [], w, n, hn, hl => ⟨rfl, fun _ _ _ _ => rfl, hn, fun _ _ => rfl, fun _ _ => rfl, fun i hi => absurd hi (Nat.not_lt_zero i)⟩
  | c :: l, w, n, hn, hl => by
    rw [List.length_cons] at hl ⊢
    have ec : (w.1 41 0).toNatClampNeg = n := by rw [hn]; exact nI_clamp (by omega)
    have e1 : (tput1 w c).1 41 0 = nI (n + 1) := by
      unfold tput1
      rw [xwi_s, hn, nI_1]
    have e2 : ∀ j, (tput1 w c).1 40 j = if j = n then nI c else w.1 40 j := fun j => by
      unfold tput1
      rw [xwi_o (by omega), ec]
      by_cases hj : j = n
      · rw [if_pos hj, hj]; exact xwi_s
      · rw [if_neg hj]; exact xwi_o (fun q => hj q.2)
    obtain ⟨h1, h2, h3, h4, h5, h6⟩ := tput_w l (tput1 w c) (n + 1) e1 (by omega)
    refine ⟨h1, fun k i hk hk2 => (h2 k i hk hk2).trans ?_, ?_, fun i hi => (h4 i hi).trans ?_, fun j hj => ?_, fun i hi => ?_⟩
    · unfold tput1
      rw [xwi_o (fun q => hk2 q.1), xwi_o (fun q => hk q.1)]
    · rw [show n + (l.length + 1) = n + 1 + l.length by omega]; exact h3
    · unfold tput1
      rw [xwi_o (fun q => hi q.2), xwi_o (fun q => by omega)]
    · rw [show (tput w (c :: l)).1 40 j = (tput (tput1 w c) l).1 40 j from rfl, h5 j (by omega), e2, if_neg (by omega)]
    · cases i with
      | zero =>
        rw [show (tput w (c :: l)).1 40 (n + 0) = (tput (tput1 w c) l).1 40 n from rfl, h5 n (Or.inl (by omega)), e2, if_pos rfl]; rfl
      | succ i =>
        rw [show n + (i + 1) = n + 1 + i by omega]
        exact h6 i (by omega)
theorem tput_app (w : xW) (l1 l2 : List Nat) : tput w (l1 ++ l2) = tput (tput w l1) l2 := by
  induction l1 generalizing w with
  | nil => rfl
  | cons c l1 ih => exact ih (tput1 w c)
section TX
variable {M : xMd} {G : xG} {w : xW} {ex : va_W} {A : Nat → Prop} {X : xC} {H : Heap} {locs : List Loc} {ls : Array Slot} {cells slots pc : Nat} {Q : State → Prop} {rest : List Value}
/-- a call of a member of the builder, its contract in the builder's own words -/
theorem xc_call {M2 : xMd} {idx n z sa va : Nat} {f : Nat → Int32} {As : List Value} {v : Option Value} {l : List Nat} {nn : Nat → Nat} {w2 : xW} (C : xCtx M lC X G A) (P : xPic lC G w ex A (xs X).heap H locs)
    (hst : ∀ b, stB z f (gS G b sa va) (va_A ex H.size) (xs X) H) (hcls : M2.1.cls = "java/lang/StringBuilder") (hmk : xMkV M2 n) (hlink : Cond.methodLink M.1.cls idx M2.1 ∈ gtbl) (f1 : Nat.ble (M2.2.2.2.2.frames + 1) M.2.2.2.2.frames = true) (f2 : Nat.ble (8 + (M2.2.2.1 + 11) + M2.2.2.2.2.locals) M.2.2.2.2.locals = true) (f3 : M2.2.2.2.2.cells = 1) (f4 : M2.2.2.2.2.slots = 402)
    (hn : As.length = n) (hsize : ls.size = M.2.2.1) (hsum : Nat.ble (rest.map fun v => v.category).sum 8 = true) (hd : decode M.2.1 pc = .ok (.invokevirtual idx, 3)) (hfc : cells + 1 ≤ M.2.2.2.2.cells ∧ slots + 402 ≤ M.2.2.2.2.slots) (hnn : ∀ n, nn n ≤ n)
    (hM : ∀ (b m n' : Nat) (wS : xW), wS.1 0 1 = 0 → wS.1 0 3 = nI n' → n' ≤ m → m ≤ 65536 → w.1 41 0 = nI n' → sb_Fit (wS.1 1) → Met X.2.1 M2.1 (xwords M2) M2.2.2.2.2 (va_Pc (.ref (G.2.2 30) :: As) (xPre (lS m z f) (gS G b sa va) wS [] H.size)) (sbQ z f (gS G b sa va) wS m H.size v (sbR (nn n') l wS)) 1 402 (va_A (xws (lS m z f) (gS G b sa va) wS ++ []) H.size))
    (hl : ∀ i, l.getD i 0 < 256)
    (hw : ∀ n', w.1 41 0 = nI n' → n' ≤ 65536 → (∀ k, k < 23 → ∀ i, w2.1 k i = w.1 k i) ∧ w2.2 = w.2 ∧ w2.1 41 0 = nI (nn n' + l.length) ∧ (∀ j, j < nn n' → w2.1 40 j = w.1 40 j) ∧ ∀ i, i < l.length → w2.1 40 (nn n' + i) = nI (l.getD i 0))
    (kk : ∀ (ex2 : va_W) (H1 : Heap) (locs1 : List Loc), xPic lC G w2 ex2 A (xs X).heap H1 locs1 → xWc M.2.2.2.2 X H1 locs1 (cells + 1) (slots + 402) Q (xF X (pc + 3) ls (v.toList ++ rest))) : xWc M.2.2.2.2 X H locs cells slots Q (xF X pc ls (As.reverse ++ .ref (G.2.2 30) :: rest)) := by
  obtain ⟨b, n', m, arr, ml, hex, h1, h2, h3, h4, h5⟩ : eC w G ex := P.2.2.2
  have hts := C.2.2.2.2.1
  obtain ⟨⟨m1, m2, m3, m4⟩, m5, m6⟩ := hmk
  obtain ⟨wS, hwS⟩ : ∃ wS : xW, wS = (fun a j => if a = 0 then (match j with | 1 => 0 | 2 => ml | _ => nI n') else arr j, w.2) := ⟨_, rfl⟩
  have e01 : wS.1 0 1 = 0 := by rw [hwS]; rfl
  have e02 : wS.1 0 2 = ml := by rw [hwS]; rfl
  have e03 : wS.1 0 3 = nI n' := by rw [hwS]; rfl
  have e1 : wS.1 1 = arr := by rw [hwS]; rfl
  have hws : xws (lS m z f) (gS G b sa va) wS ++ [] = ex := by
    rw [hex]
    show ([(G.2.2 30, .inr (10, [.ref b, .int (wS.1 0 1), .int (wS.1 0 2), .int (wS.1 0 3)])), (b, .inl (G.2.1 1, m, .inl (wS.1 1)))] : va_W) = _
    rw [e01, e02, e03, e1]
  have hPs : va_P G.1 lC.1 ex H := fun k q hk => P.1 ((xws lC G w).length + k) q (by rw [List.getElem?_append_right (by omega), Nat.add_sub_cancel_left]; exact hk)
  have hDs : va_D A ex := ⟨fun i j p q hi hj hpq => by
      have := P.2.1.1 ((xws lC G w).length + i) ((xws lC G w).length + j) p q (by rw [List.getElem?_append_right (by omega), Nat.add_sub_cancel_left]; exact hi) (by rw [List.getElem?_append_right (by omega), Nat.add_sub_cancel_left]; exact hj) hpq
      omega, fun k q hk => P.2.1.2 ((xws lC G w).length + k) q (by rw [List.getElem?_append_right (by omega), Nat.add_sub_cancel_left]; exact hk)⟩
  have hF : ∀ q, va_A ex H.size q → A q := fun y hy => by
    rcases hy with ⟨kk, e, hh⟩ | hh
    · exact hDs.2 kk (y, e) hh
    · exact C.2.2.2.2.2.2.1 y (Nat.le_trans P.2.2.1.1 hh)
  have hMet := hM b m n' wS e01 e03 h1 h2 h3 (by rw [e1]; exact h4)
  have hrun := va_runV (As := As) (rest := rest) (n := n) (C := "java/lang/StringBuilder") (own := M.1.cls) (Ts := gtbl) (bytes := M2.2.1) (maxL := M2.2.2.1) (ret := M2.2.2.2.1) (index := idx) (b := G.2.2 30) (g := xF X pc ls (As.reverse ++ .ref (G.2.2 30) :: rest)) (cells := cells) (slots := slots) (R := M.2.2.2.2) (H := H) (locs := locs) (e := X.2.2.1) (below := X.2.2.2.2.2.2.1) (meth := X.2.2.2.2.2.2.2.1) ⟨C.1, C.2.1, C.2.2.1, C.2.2.2.1, hts⟩ hMet ⟨callB_of n hts (xgood hts m1) rfl f3 f4 (hts _ m2) (hts _ hlink) ⟨m3.1, m3.2, m4⟩ ⟨Nat.le_of_ble_eq_true f1, Nat.le_of_ble_eq_true f2⟩, hts _ m5, by rw [← hcls]; exact hts _ m6⟩ ⟨xPc_blind lS_ok, va_recv C.2.2.2.2.2.1 hPs (ci := 10) (q := (RJ4, TJ4, 4)) (q0 := 0) (fs := [.ref b, .int 0, .int ml, .int (nI n')]) rfl (by rw [hex]; rfl), fun U hU hW => ⟨rfl, by rw [hU], by rw [hws, hU]; exact hPs, va_K.moved hW.alike C.2.2.2.2.2.1, by rw [hws]; exact hDs.weaken (fun _ _ _ _ => trivial), rfl, by
      rw [hws, hU]
      have := lS_ok (m := m) (z := z) (f := f) |>.2 (gS G b sa va) (va_A ex H.size) (va_A ex H.size) (xs X) U H H hW (fun _ _ _ => rfl) (fun _ _ h => h) (hst b)
      exact this⟩⟩ rfl hn hsize rfl (by show 2 * 0 + _ ≤ 8; have := Nat.le_of_ble_eq_true hsum; omega) hd hfc
  intro T hT XX
  obtain ⟨v9, st₀, t, T', LL, h0, X', hL, g1, g2, ⟨⟨hv, b', m', w', hR, hP1, hD1⟩, hz, hkeep⟩, stp⟩ := hrun T hT XX
  cases hv
  rw [h0] at hz hkeep
  rw [← g1] at hP1 hz hkeep
  rw [hws] at hkeep hD1 hL
  obtain ⟨r1, r2, r3, r4, r5, r6, r7⟩ := hR
  have hz2 : H.size ≤ T'.heap.size := hz
  obtain ⟨w1, w2', w3, w4, w5⟩ := hw n' h3 (by omega)
  obtain ⟨hPj, hDj⟩ := va_join2 P.1 P.2.1 (H1 := T'.heap) (c1 := xws (lS m' z f) (gset (gS G b sa va) b') w' ++ []) hkeep hF hP1 hD1
  have hS2 : va_S A (xs X).heap T'.heap (locs ++ LL) := ⟨Nat.le_trans P.2.2.1.1 hz2, fun y y1 y2 => by
      rw [hkeep y (Nat.lt_of_lt_of_le y1 P.2.2.1.1) (fun hh => y2 (hF y hh))]; exact P.2.2.1.2.1 y y1 y2, fun y hy => by
      rcases List.mem_append.mp hy with hh | hh
      · exact P.2.2.1.2.2 y hh
      · exact hF _ (hL y hh)⟩
  rw [← xws_blind w1 w2'] at hPj hDj
  have hE : eC w2 G (xws (lS m' z f) (gset (gS G b sa va) b') w' ++ []) := by
    refine ⟨b', nn n' + l.length, m', w'.1 1, w'.1 0 2, ?_, r1, r2, w3, r3, fun j hj => ?_⟩
    · show ([(G.2.2 30, .inr (10, [.ref b', .int (w'.1 0 1), .int (w'.1 0 2), .int (w'.1 0 3)])), (b', .inl (G.2.1 1, m', .inl (w'.1 1)))] : va_W) = _
      rw [r4, r5]
    · by_cases hj2 : j < nn n'
      · obtain ⟨c, c1, c2, c3⟩ := h5 j (Nat.lt_of_lt_of_le hj2 (hnn n'))
        exact ⟨c, c1, (w4 j hj2).trans c2, by rw [r6 j hj2, e1]; exact c3⟩
      · have e := r7 (j - nn n') (by omega)
        have e9 := w5 (j - nn n') (by omega)
        rw [show nn n' + (j - nn n') = j by omega] at e e9
        exact ⟨_, hl _, e9, e⟩
  have hgo := kk _ T'.heap (locs ++ LL) ⟨hPj, hDj, hS2, hE⟩
  obtain ⟨t2, a1, b1⟩ := hgo T' rfl X'
  exact ⟨t2, stp t2 a1, b1⟩
end TX
