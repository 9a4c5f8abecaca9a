/-! addresses -/
def un (a : Int32) : Nat := a.toBitVec.toNat
theorem un_lt (a : Int32) : un a < 2 ^ 32 := a.toBitVec.isLt
theorem l32_bits : ∀ i, i < 64 → (4294967295 : Int64).toBitVec.getLsbD i = decide (i < 32) := by decide +kernel
theorem un_l (a : Int32) : a.toInt64 &&& 4294967295 = lN (un a) := by
  apply Int64.toBitVec_inj.mp
  rw [Int64.toBitVec_and]
  refine BitVec.eq_of_getLsbD_eq (fun i hi => ?_)
  rw [BitVec.getLsbD_and, l32_bits i hi]
  show ((BitVec.signExtend 64 a.toBitVec).getLsbD i && decide (i < 32)) = (BitVec.ofNat 64 (un a)).getLsbD i
  rw [BitVec.getLsbD_signExtend, BitVec.getLsbD_ofNat, decide_eq_true hi, Bool.true_and, Bool.true_and]
  by_cases h : i < 32
  · rw [if_pos h, decide_eq_true h, Bool.and_true]; rfl
  · rw [decide_eq_false h, Bool.and_false]
    exact (Nat.testBit_lt_two_pow (Nat.lt_of_lt_of_le (un_lt a) (Nat.pow_le_pow_right (by decide) (by omega)))).symm
theorem un_nI {k : Nat} (h : k < 2 ^ 32) : un (nI k) = k := pk_tn h
theorem un_of (a : Int32) : a = nI (un a) := by
  apply Int32.toBitVec_inj.mp
  show a.toBitVec = BitVec.ofNat 32 a.toBitVec.toNat
  rw [BitVec.ofNat_toNat, BitVec.setWidth_eq]
