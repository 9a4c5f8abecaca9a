/-! the address of E -/
def adV (rg : Nat → Int32) (bs ix sc dp : Int32) : Int32 :=
  (if ix = -1 then (if bs = -1 then dp else dp + rg bs.toNatClampNeg) else (if bs = -1 then dp else dp + rg bs.toNatClampNeg) + (rg ix.toNatClampNeg <<< ((sc &&& 3) &&& 31)))
theorem shl_mul (x : Int32) : ∀ s, s < 4 → x <<< ((nI s &&& 3) &&& 31) = x * nI (2 ^ s) := by
  intro s hs
  have e : ∀ s, s < 4 → (nI s &&& 3) &&& 31 = nI s &&& 31 := by decide +kernel
  rw [e s hs]
  apply Int32.toBitVec_inj.mp
  have e2 : ∀ s, s < 4 → ((nI s &&& 31).toBitVec.smod 32).toNat = s := by decide +kernel
  rw [Int32.toBitVec_shiftLeft, Int32.toBitVec_mul, BitVec.shiftLeft_eq', e2 s hs]
  apply BitVec.eq_of_toNat_eq
  rw [BitVec.toNat_shiftLeft, BitVec.toNat_mul, Nat.shiftLeft_eq]
  have e3 : ∀ s, s < 4 → (nI (2 ^ s)).toBitVec.toNat = 2 ^ s := by decide +kernel
  rw [e3 s hs]
theorem in8_x {x : Int32} (h : in8 x) : (x &&& 7) = x ∧ xin x 8 ∧ x.toNatClampNeg < 8 ∧ x = nI x.toNatClampNeg ∧ ¬ x = -1 := by
  obtain ⟨j, hj, rfl⟩ := h
  refine ⟨(k8P j hj).2.1, xin_n hj (by decide), by rw [nI_clamp (by omega)]; exact hj, by rw [nI_clamp (by omega)], fun e => ?_⟩
  have : ∀ j, j < 8 → ¬ nI j = -1 := by decide +kernel
  exact this j hj e
section AD
variable {w m : xW} {rg : Nat → Int32} {fl tr wh fo c p z s o kp ef : Int32}
theorem addr_c (hb : w.1 2 9 = -1 ∨ in8 (w.1 2 9)) (hi : w.1 2 10 = -1 ∨ in8 (w.1 2 10)) : sX7_addressOfE (sW rg fl tr wh fo w) = some (adV rg (w.1 2 9) (w.1 2 10) (w.1 2 11) (w.1 2 12), sW rg fl tr wh fo w) := by
  have j37 : ∀ a, sX7_addressOfE_j37 a (sW rg fl tr wh fo w) = some (if w.1 2 10 = -1 then a else a + (rg (w.1 2 10).toNatClampNeg <<< ((w.1 2 11 &&& 3) &&& 31)), sW rg fl tr wh fo w) := by
    intro a
    unfold sX7_addressOfE_j37
    show (if w.1 2 10 = -1 then some (a, _) else if xin (w.1 2 10 &&& 7) 8 then some (a + (rg ((w.1 2 10 &&& 7).toNatClampNeg) <<< ((w.1 2 11 &&& 3) &&& 31)), sW rg fl tr wh fo w) else none) = _
    rcases hi with h | h
    · rw [if_pos h, if_pos h]
    · obtain ⟨q1, q2, q3, q4, q5⟩ := in8_x h
      rw [if_neg q5, if_neg q5, q1, if_pos q2]
  unfold sX7_addressOfE adV
  show (if w.1 2 9 = -1 then sX7_addressOfE_j37 (w.1 2 12) _ else if xin (w.1 2 9 &&& 7) 8 then sX7_addressOfE_j37 (w.1 2 12 + rg ((w.1 2 9 &&& 7).toNatClampNeg)) (sW rg fl tr wh fo w) else none) = _
  rcases hb with h | h
  · rw [if_pos h, j37, if_pos h]
  · obtain ⟨q1, q2, q3, q4, q5⟩ := in8_x h
    rw [if_neg q5, q1, if_pos q2, j37, if_neg q5]
theorem addr_m {dp bs ix sc : Int32} (h28 : m.1 0 28 = dp) (h25 : m.1 0 25 = bs) (h26 : m.1 0 26 = ix) (hb : bs = -1 ∨ in8 bs) (hi : ix = -1 ∨ in8 ix) (ht : ∃ t : Nat, t < 4 ∧ sc = nI t ∧ m.1 0 27 = nI (2 ^ t)) : sX12_address (tW rg c p z s o kp ef m) = some (adV rg bs ix sc dp, tW rg c p z s o kp ef m) := by
  obtain ⟨t, t1, t2, t3⟩ := ht
  have j47 : ∀ x y, sX12_address_j47 x y (tW rg c p z s o kp ef m) = some ((y + x) + dp, tW rg c p z s o kp ef m) := by
    intro x y
    unfold sX12_address_j47
    show some ((y + x) + m.1 0 28, _) = _
    rw [h28]
  have j21 : ∀ y, sX12_address_j21 y (tW rg c p z s o kp ef m) = some ((y + (if ix = -1 then 0 else rg ix.toNatClampNeg <<< ((sc &&& 3) &&& 31))) + dp, tW rg c p z s o kp ef m) := by
    intro y
    unfold sX12_address_j21
    show (if m.1 0 26 = -1 then sX12_address_j47 0 y _ else if xin (m.1 0 26) 8 then sX12_address_j47 (rg ((m.1 0 26).toNatClampNeg) * m.1 0 27) y (tW rg c p z s o kp ef m) else none) = _
    rw [h26, t3, t2]
    rcases hi with h | h
    · rw [if_pos h, j47, if_pos h]
    · obtain ⟨q1, q2, q3, q4, q5⟩ := in8_x h
      rw [if_neg q5, if_pos q2, j47, if_neg q5, shl_mul _ t t1]
  unfold sX12_address adV
  show (if m.1 0 25 = -1 then sX12_address_j21 0 _ else if xin (m.1 0 25) 8 then sX12_address_j21 (rg ((m.1 0 25).toNatClampNeg)) (tW rg c p z s o kp ef m) else none) = _
  rw [h25]
  have key : ∀ y i : Int32, (y + i) + dp = (dp + y) + i := fun y i => by rw [Int32.add_comm (y + i) dp, Int32.add_assoc]
  rcases hb with h | h
  · rw [if_pos h, j21, if_pos h, key]
    by_cases q : ix = -1
    · rw [if_pos q, if_pos q, Int32.add_zero, Int32.add_zero]
    · rw [if_neg q, if_neg q, Int32.add_zero]
  · obtain ⟨q1, q2, q3, q4, q5⟩ := in8_x h
    rw [if_neg q5, if_pos q2, j21, if_neg q5, key]
    by_cases q : ix = -1
    · rw [if_pos q, if_pos q, Int32.add_zero]
    · rw [if_neg q, if_neg q]
end AD
