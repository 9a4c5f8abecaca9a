/-! what an instruction reads and writes: E of both -/
def TR (e : Int32) : Prop := e = 0 ∨ e = 4 ∨ e = 5 ∨ e = 6
def TRi (t e : Int32) : Prop := TR t → TR e
theorem TR.r {e v : Int32} (h : e = 0 ∨ (e = 5 ∧ v = 0)) : TR e := h.elim Or.inl (fun q => Or.inr (Or.inr (Or.inl q.1)))
def IR (L : Nat) (w m : xW) : Prop := RD L (w.1 2 0) (w.1 2 1) (w.1 2 2) (w.1 2 3) (w.1 2 4) (w.1 2 5) (w.1 2 6) (w.1 2 7) (w.1 2 8) (w.1 2 9) (w.1 2 10) (w.1 2 11) (w.1 2 12) (w.1 2 13) (m.1 0 17) (m.1 0 18) (m.1 0 19) (m.1 0 20) (m.1 0 21) (m.1 0 22) (m.1 0 23) (m.1 0 24) (m.1 0 25) (m.1 0 26) (m.1 0 27) (m.1 0 28) (m.1 0 29)
theorem IR.fr {L : Nat} {w w' m m' : xW} (h : IR L w m) (f : frD w w' m m') : IR L w' m' := by
  have e1 : ∀ i, w'.1 2 i = w.1 2 i := fun i => f.1 2 i (by decide)
  have e2 : ∀ i, m'.1 0 i = m.1 0 i := fun i => f.2.2.1 0 i (by decide)
  unfold IR
  simp only [e1, e2]
  exact h
section SWR
variable {rg : Nat → Int32} {fl tr wh fo c p z s o kp ef : Int32} {w m : xW}
theorem sW_c2 {i : Nat} : (sW rg fl tr wh fo w).1 2 i = w.1 2 i := rfl
theorem tW_lo {i : Nat} (h : i < 36) : (tW rg c p z s o kp ef m).1 0 i = m.1 0 i := tW_x (by omega)
end SWR
theorem wid_k {n : Int32} (h : wid n) : ∃ k : Nat, (k = 1 ∨ k = 2 ∨ k = 4) ∧ n = nI k := by
  rcases h with rfl | rfl | rfl
  · exact ⟨1, Or.inl rfl, rfl⟩
  · exact ⟨2, Or.inr (Or.inl rfl), rfl⟩
  · exact ⟨4, Or.inr (Or.inr rfl), rfl⟩
theorem and_idem {x t : Int32} (h : t &&& t = t) : (x &&& t) &&& t = x &&& t := by rw [Int32.and_assoc, h]
theorem mk_idem {n : Int32} (h : wid n) (x : Int32) : (x &&& mkV n) &&& mkV n = x &&& mkV n := by
  rcases h with rfl | rfl | rfl <;> exact and_idem (by decide)
theorem prt_mk {rg : Nat → Int32} {k : Nat} {n : Int32} (h : wid n) : prt rg k n &&& mkV n = prt rg k n := by
  unfold prt
  rcases h with rfl | rfl | rfl
  · simp (decide := true) only [if_true, if_false]
    split <;> exact and_idem (by decide)
  · simp (decide := true) only [if_true, if_false]
    exact and_idem (by decide)
  · simp (decide := true) only [if_true, if_false]
    exact and_m1 _
theorem spr_mk {rg : Nat → Int32} {k : Nat} {n v v2 : Int32} (hn : wid n) (h : v &&& mkV n = v2 &&& mkV n) : spr rg k n v = spr rg k n v2 := by
  unfold spr
  rcases hn with rfl | rfl | rfl
  · have h1 : v &&& 255 = v2 &&& 255 := h
    simp (decide := true) only [if_true, if_false]
    rw [h1]
  · have h1 : v &&& 65535 = v2 &&& 65535 := h
    simp (decide := true) only [if_true, if_false]
    rw [h1]
  · have h1 : v &&& (-1) = v2 &&& (-1) := h
    rw [and_m1, and_m1] at h1
    rw [h1]
theorem spr_hi {rg : Nat → Int32} {k i : Nat} {n v : Int32} (hk : k < 8) (hi : 8 ≤ i) : spr rg k n v i = rg i := by
  unfold spr
  split
  · exact ru_o (by omega)
  · split
    · exact ru_o (by omega)
    · split <;> exact ru_o (by omega)
theorem in8_n {x : Int32} (h : in8 x) : x.toNatClampNeg < 8 ∧ x = nI x.toNatClampNeg := ⟨(in8_x h).2.2.1, (in8_x h).2.2.2.1⟩
theorem IR.E {L : Nat} {w m : xW} (h : IR L w m) (he : eform (m.1 0 18) = true) : in8 (w.1 2 7) ∧ in8 (w.1 2 8) ∧ w.1 2 7 = m.1 0 24 ∧ w.1 2 8 = m.1 0 23 ∧ ((m.1 0 22 = 3 ∧ w.1 2 6 = 0) ∨ (¬ m.1 0 22 = 3 ∧ w.1 2 6 = 1 ∧ w.1 2 9 = m.1 0 25 ∧ w.1 2 10 = m.1 0 26 ∧ w.1 2 12 = m.1 0 28 ∧ (m.1 0 25 = -1 ∨ in8 (m.1 0 25)) ∧ (m.1 0 26 = -1 ∨ in8 (m.1 0 26)) ∧ ∃ t : Nat, t < 4 ∧ w.1 2 11 = nI t ∧ m.1 0 27 = nI (2 ^ t))) := by
  obtain ⟨-, -, ⟨i7, i8, -, hE⟩, -⟩ := h
  rcases hE with ⟨-, e7, e8, hE⟩ | hE
  · refine ⟨i7, i8, e7, e8, ?_⟩
    rcases hE with hE | hE
    · exact Or.inl ⟨hE.1, hE.2.1⟩
    · refine Or.inr ⟨fun q => ?_, hE.2.1, hE.2.2.1, hE.2.2.2.1, hE.2.2.2.2.1, hE.2.2.2.2.2.1, ?_, hE.2.2.2.2.2.2.2⟩
      · rcases hE.1 with h | h | h <;> (rw [h] at q; exact absurd q (by decide))
      · rcases hE.2.2.2.2.2.2.1 with h | h
        · exact Or.inl h
        · exact Or.inr h.1
  · rw [he] at hE
    exact absurd hE.1 (by decide)
theorem IR.wd {L : Nat} {w m : xW} (h : IR L w m) : w.1 2 4 = m.1 0 20 ∧ w.1 2 5 = m.1 0 21 ∧ wid (w.1 2 4) ∧ wid (w.1 2 5) ∧ RDw (m.1 0 17) (m.1 0 18) (w.1 2 4) (w.1 2 5) := by
  obtain ⟨-, ⟨h4, h5, h6, h7, h8⟩, -⟩ := h
  rw [h4, h5]
  exact ⟨rfl, rfl, h6, h7, h8⟩
section EP
variable {w m : xW} {B : Nat → Int32} {N L : Nat}
theorem readE_p (hw : imgC w B N) (hm : imgM m B N) (hd : dataP w m) (h : IR L w m) (he : eform (m.1 0 18) = true) (rg : Nat → Int32) {wh : Int32} (hwh : wh = adV rg (w.1 2 9) (w.1 2 10) (w.1 2 11) (w.1 2 12)) :
    ∃ v e ef : Int32, (e = 0 ∨ (e = 5 ∧ v = 0)) ∧ v &&& mkV (w.1 2 5) = v ∧ (w.1 2 6 = 1 → ef = wh) ∧ (w.1 2 6 = 0 → e = 0 ∧ v = prt rg (w.1 2 7).toNatClampNeg (w.1 2 5)) ∧
    (∀ fl tr fo : Int32, sX7_readE (sW rg fl tr wh fo w) = some (v, sW rg fl (fl5 e tr) wh fo w)) ∧
    (∀ c p z s o kp ef0 : Int32, sX12_getE (tW rg c p z s o kp ef0 m) = some (v, tW rg c p z s o (fl5 e kp) ef m)) := by
  obtain ⟨i7, i8, e7, e8, hcase⟩ := h.E he
  obtain ⟨w4, w5, -, wb, -⟩ := h.wd
  obtain ⟨r1, r2⟩ := in8_n i7
  rcases hcase with ⟨hm3, hc6⟩ | ⟨hm3, hc6, b1, b2, b3, b4, b5, b6⟩
  · refine ⟨prt rg (w.1 2 7).toNatClampNeg (w.1 2 5), 0, 0, Or.inl rfl, prt_mk wb, fun q => absurd (hc6.symm.trans q) (by decide), fun _ => ⟨rfl, rfl⟩, ?_, ?_⟩
    · intro fl tr fo
      unfold sX7_readE
      rw [sW_c2, hc6, if_pos rfl, sW_c2, sW_c2, fl5_0]
      generalize w.1 2 7 = x7 at *
      rw [r2, part_c r1 wb, xbd_some, ← r2]
    · intro c p z s o kp ef0
      unfold sX12_getE sX12_getE_j17
      rw [tW_lo (by decide), hm3, if_pos rfl, if_pos rfl, tW_lo (by decide), tW_lo (by decide), tW_wef, ← w5, ← e7, fl5_0]
      generalize w.1 2 7 = x7 at *
      rw [r2, part_m r1 wb, xbd_some, ← r2]
  · obtain ⟨k, hk, ek⟩ := wid_k wb
    obtain ⟨v, e, he0, hv, hC, hM⟩ := load_pair hw hm hd wh hk
    refine ⟨v, e, wh, he0, by rw [ek]; exact hv, fun _ => rfl, fun q => absurd (q.symm.trans hc6) (by decide), ?_, ?_⟩
    · intro fl tr fo
      unfold sX7_readE
      rw [sW_c2, hc6, if_neg (by decide), sW_wh, sW_c2, ek, hC, xbd_some]
    · intro c p z s o kp ef0
      unfold sX12_getE
      rw [tW_lo (by decide), if_neg hm3, addr_m (dp := w.1 2 12) (bs := w.1 2 9) (ix := w.1 2 10) (sc := w.1 2 11) b3.symm b1.symm b2.symm (by rw [b1]; exact b4) (by rw [b2]; exact b5) b6, xbd_some, ← hwh]
      unfold sX12_getE_j17
      rw [tW_lo (by decide), if_neg hm3, tW_lo (by decide), tW_wef, ← w5, ek, hM, xbd_some]
theorem writeE_p (hd : dataP w m) (h : IR L w m) (he : eform (m.1 0 18) = true) {v v2 wh ef : Int32} (hv : v &&& mkV (w.1 2 5) = v2 &&& mkV (w.1 2 5)) (hef : w.1 2 6 = 1 → ef = wh) (tr : Int32) :
    ∃ (e : Int32) (F : (Nat → Int32) → Nat → Int32) (w' m' : xW), frD w w' m m' ∧ dataP w' m' ∧ (¬ tr = 0 → e = tr ∧ w' = w ∧ m' = m ∧ ∀ (rg : Nat → Int32) (i : Nat), 8 ≤ i → F rg i = rg i) ∧ TRi tr e ∧
    (∀ (rg : Nat → Int32) (fl fo : Int32), sX7_writeE v (sW rg fl tr wh fo w) = some ((), sW (F rg) fl e wh fo w')) ∧
    (∀ (rg : Nat → Int32) (c p z s o : Int32), sX12_setE v2 (tW rg c p z s o tr ef m) = some ((), tW (F rg) c p z s o e ef m')) := by
  obtain ⟨i7, i8, e7, e8, hcase⟩ := h.E he
  obtain ⟨w4, w5, -, wb, -⟩ := h.wd
  obtain ⟨r1, r2⟩ := in8_n i7
  rcases hcase with ⟨hm3, hc6⟩ | ⟨hm3, hc6, -⟩
  · refine ⟨tr, fun rg => spr rg (w.1 2 7).toNatClampNeg (w.1 2 5) v, w, m, frD_r w m, hd, fun _ => ⟨rfl, rfl, rfl, fun rg i hi => spr_hi r1 hi⟩, fun q => q, ?_, ?_⟩
    · intro rg fl fo
      unfold sX7_writeE
      rw [sW_c2, hc6, if_pos rfl, sW_c2, sW_c2]
      generalize w.1 2 7 = x7 at *
      rw [r2, setPart_c r1 wb, xbd_some, ← r2]
    · intro rg c p z s o
      unfold sX12_setE
      show _ = some ((), tW (spr rg (w.1 2 7).toNatClampNeg (w.1 2 5) v) c p z s o tr ef m)
      rw [tW_lo (by decide), hm3, if_pos rfl, tW_lo (by decide), tW_lo (by decide), ← w5, ← e7, spr_mk wb hv]
      generalize w.1 2 7 = x7 at *
      rw [r2, setReg_m r1 wb, xbd_some, ← r2]
  · obtain ⟨k, hk, ek⟩ := wid_k wb
    have hk4 : k ≤ 4 := by omega
    rw [ek] at hv
    have h9 := hef hc6
    subst h9
    by_cases ht : tr = 0
    · subst ht
      obtain ⟨e, w', m', hf, hd', hT, hC, hM⟩ := store_pair hd ef hk hv
      refine ⟨e, fun rg => rg, w', m', hf, hd', fun q => absurd rfl q, fun _ => hT, ?_, ?_⟩
      · intro rg fl fo
        unfold sX7_writeE
        rw [sW_c2, hc6, if_neg (by decide), sW_wh, sW_c2, ek, hC, xbd_some]
      · intro rg c p z s o
        unfold sX12_setE
        rw [tW_lo (by decide), if_neg hm3, tW_ef, tW_lo (by decide), ← w5, ek, hM, xbd_some]
    · refine ⟨tr, fun rg => rg, w, m, frD_r w m, hd, fun _ => ⟨rfl, rfl, rfl, fun _ _ _ => rfl⟩, fun q => q, ?_, ?_⟩
      · intro rg fl fo
        unfold sX7_writeE
        rw [sW_c2, hc6, if_neg (by decide), sW_wh, sW_c2, ek, store_no hk4 ht, xbd_some]
      · intro rg c p z s o
        unfold sX12_setE
        rw [tW_lo (by decide), if_neg hm3, tW_ef, tW_lo (by decide), write_no ht, xbd_some]
/-- E that is a register, whatever its form -/
theorem readE_r (h : IR L w m) (h6 : w.1 2 6 = 0) {rg : Nat → Int32} {fl tr wh fo : Int32} : sX7_readE (sW rg fl tr wh fo w) = some (prt rg (w.1 2 7).toNatClampNeg (w.1 2 5), sW rg fl tr wh fo w) := by
  obtain ⟨w4, w5, -, wb, -⟩ := h.wd
  obtain ⟨r1, r2⟩ := in8_n h.2.2.1.1
  unfold sX7_readE
  rw [sW_c2, h6, if_pos rfl, sW_c2, sW_c2]
  generalize w.1 2 7 = x7 at *
  rw [r2, part_c r1 wb, xbd_some, ← r2]
theorem writeE_r (h : IR L w m) (h6 : w.1 2 6 = 0) {rg : Nat → Int32} {v fl tr wh fo : Int32} : sX7_writeE v (sW rg fl tr wh fo w) = some ((), sW (spr rg (w.1 2 7).toNatClampNeg (w.1 2 5) v) fl tr wh fo w) := by
  obtain ⟨w4, w5, -, wb, -⟩ := h.wd
  obtain ⟨r1, r2⟩ := in8_n h.2.2.1.1
  unfold sX7_writeE
  rw [sW_c2, h6, if_pos rfl, sW_c2, sW_c2]
  generalize w.1 2 7 = x7 at *
  rw [r2, setPart_c r1 wb, xbd_some, ← r2]
theorem readG_c (h : IR L w m) {rg : Nat → Int32} {fl tr wh fo : Int32} : sX7_readG (sW rg fl tr wh fo w) = some (prt rg (w.1 2 8).toNatClampNeg (w.1 2 4), sW rg fl tr wh fo w) := by
  obtain ⟨w4, w5, wa, wb, -⟩ := h.wd
  obtain ⟨r1, r2⟩ := in8_n h.2.2.1.2.1
  unfold sX7_readG
  rw [sW_c2, sW_c2]
  generalize w.1 2 8 = x8 at *
  rw [r2, part_c r1 wa, xbd_some, ← r2]
theorem writeG_c (h : IR L w m) {rg : Nat → Int32} {v fl tr wh fo : Int32} : sX7_writeG v (sW rg fl tr wh fo w) = some ((), sW (spr rg (w.1 2 8).toNatClampNeg (w.1 2 4) v) fl tr wh fo w) := by
  obtain ⟨w4, w5, wa, wb, -⟩ := h.wd
  obtain ⟨r1, r2⟩ := in8_n h.2.2.1.2.1
  unfold sX7_writeG
  rw [sW_c2, sW_c2]
  generalize w.1 2 8 = x8 at *
  rw [r2, setPart_c r1 wa, xbd_some, ← r2]
theorem part_x {x n : Int32} (hx : in8 x) (hn : wid n) {rg : Nat → Int32} {c p z s o kp ef : Int32} : sX12_part x n (tW rg c p z s o kp ef m) = some (prt rg x.toNatClampNeg n, tW rg c p z s o kp ef m) := by
  obtain ⟨r1, r2⟩ := in8_n hx
  have := part_m (m := m) (rg := rg) (c := c) (p := p) (z := z) (s := s) (o := o) (kp := kp) (ef := ef) r1 hn
  rw [← r2] at this
  exact this
theorem setReg_x {x n v : Int32} (hx : in8 x) (hn : wid n) {rg : Nat → Int32} {c p z s o kp ef : Int32} : sX12_setRegister x n v (tW rg c p z s o kp ef m) = some ((), tW (spr rg x.toNatClampNeg n v) c p z s o kp ef m) := by
  obtain ⟨r1, r2⟩ := in8_n hx
  have := setReg_m (m := m) (v := v) (rg := rg) (c := c) (p := p) (z := z) (s := s) (o := o) (kp := kp) (ef := ef) r1 hn
  rw [← r2] at this
  exact this
end EP
