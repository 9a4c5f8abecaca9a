/-! bits: the lowest, the highest; bytes the other way round; parts that are apart -/
theorem tb_nI {u : Nat} (hu : u < 2 ^ 32) (i : Nat) : tb (nI u) i = u.testBit i := by
  unfold tb
  show (BitVec.ofNat 32 u).getLsbD i = _
  rw [BitVec.getLsbD_ofNat]
  by_cases h : i < 32
  · rw [decide_eq_true h, Bool.true_and]
  · rw [decide_eq_false h, Bool.false_and]
    exact (Nat.testBit_lt_two_pow (Nat.lt_of_lt_of_le hu (Nat.pow_le_pow_right (by decide) (by omega)))).symm
theorem tb_un (a : Int32) (i : Nat) : tb a i = (un a).testBit i := by
  have := tb_nI (un_lt a) i
  rw [← un_of] at this
  exact this
/-- a number that is not 0 has a lowest bit -/
theorem low_bit {u : Nat} (hu : 0 < u) : ∃ k m : Nat, u = 2 ^ (k + 1) * m + 2 ^ k := by
  induction u using Nat.strongRecOn with
  | _ u ih =>
    by_cases h : u % 2 = 1
    · exact ⟨0, u / 2, by omega⟩
    · obtain ⟨k, m, e⟩ := ih (u / 2) (by omega) (by omega)
      refine ⟨k + 1, m, ?_⟩
      have e2 : u = 2 * (u / 2) := by omega
      rw [e2, e, Nat.pow_succ 2 (k + 1), Nat.pow_succ 2 k]
      rw [Nat.mul_add]
      congr 1
      · simp only [Nat.mul_comm, Nat.mul_left_comm, Nat.mul_assoc]
      · rw [Nat.mul_comm]
theorem low_bits {k m : Nat} : ∀ i, (2 ^ (k + 1) * m + 2 ^ k).testBit i = (if i < k + 1 then decide (i = k) else m.testBit (i - (k + 1))) := by
  intro i
  rw [Nat.testBit_two_pow_mul_add _ (Nat.pow_lt_pow_right (by decide) (by omega)), Nat.testBit_two_pow]
  by_cases h : i < k + 1
  · rw [if_pos h, if_pos h]; exact decide_eq_decide.mpr ⟨Eq.symm, Eq.symm⟩
  · rw [if_neg h, if_neg h]
theorem low_pred {k m : Nat} : ∀ i, (2 ^ (k + 1) * m + 2 ^ k - 1).testBit i = (if i < k + 1 then decide (i < k) else m.testBit (i - (k + 1))) := by
  intro i
  have hp : 0 < 2 ^ k := Nat.two_pow_pos k
  rw [Nat.add_sub_assoc hp, Nat.testBit_two_pow_mul_add _ (by have := Nat.pow_lt_pow_right (a := 2) (by decide) (show k < k + 1 by omega); omega), Nat.testBit_two_pow_sub_one]
def ntzX (x : Int32) : Int32 := (if 0 < x then (xlet (if (65536 : Int32) < x then (xushr x 16, (1 : Int32) + 16) else (x, 1)) (fun q1 => xlet (if (256 : Int32) < q1.1 then (xushr q1.1 8, q1.2 + 8) else q1) (fun q2 => xlet (if (16 : Int32) < q2.1 then (xushr q2.1 4, q2.2 + 4) else q2) (fun q3 => xlet (if (4 : Int32) < q3.1 then (xushr q3.1 2, q3.2 + 2) else q3) (fun q4 => q4.2 + xushr q4.1 1))))) else x &&& 32)
theorem ntzX_v : ∀ k, k < 32 → ntzX (nI (2 ^ k - 1)) = nI k := by decide +kernel
theorem ntz_c (a : Int32) (W : xW) : sJ6_numberOfTrailingZeros_0f7a4 a W = some (ntzX ((a ^^^ (-1)) &&& (a - 1)), W) := by
  unfold sJ6_numberOfTrailingZeros_0f7a4 ntzX
  dsimp only [xlet]
  generalize (a ^^^ (-1)) &&& (a - 1) = x
  by_cases h : 0 < x
  · rw [if_pos h, if_pos h]
    have k62 : ∀ y z : Int32, sJ6_numberOfTrailingZeros_0f7a4_j62 y z W = some ((if (4 : Int32) < y then (xushr y 2, z + 2) else (y, z)).2 + xushr (if (4 : Int32) < y then (xushr y 2, z + 2) else (y, z)).1 1, W) := by
      intro y z
      unfold sJ6_numberOfTrailingZeros_0f7a4_j62 sJ6_numberOfTrailingZeros_0f7a4_j74
      by_cases q : (4 : Int32) < y
      · rw [if_pos q, if_pos q]
      · rw [if_neg q, if_neg q]
    have k49 : ∀ y z : Int32, sJ6_numberOfTrailingZeros_0f7a4_j49 y z W = sJ6_numberOfTrailingZeros_0f7a4_j62 (if (16 : Int32) < y then (xushr y 4, z + 4) else (y, z)).1 (if (16 : Int32) < y then (xushr y 4, z + 4) else (y, z)).2 W := by
      intro y z
      unfold sJ6_numberOfTrailingZeros_0f7a4_j49
      by_cases q : (16 : Int32) < y
      · rw [if_pos q, if_pos q]
      · rw [if_neg q, if_neg q]
    have k34 : ∀ y z : Int32, sJ6_numberOfTrailingZeros_0f7a4_j34 y z W = sJ6_numberOfTrailingZeros_0f7a4_j49 (if (256 : Int32) < y then (xushr y 8, z + 8) else (y, z)).1 (if (256 : Int32) < y then (xushr y 8, z + 8) else (y, z)).2 W := by
      intro y z
      unfold sJ6_numberOfTrailingZeros_0f7a4_j34
      by_cases q : (256 : Int32) < y
      · rw [if_pos q, if_pos q]
      · rw [if_neg q, if_neg q]
    by_cases q : (65536 : Int32) < x
    · rw [if_pos q, if_pos q, k34, k49, k62]
    · rw [if_neg q, if_neg q, k34, k49, k62]
  · rw [if_neg h, if_neg h]
theorem low_mask {a : Int32} (ha : ¬ a = 0) : ∃ k : Nat, k < 32 ∧ (a ^^^ (-1)) &&& (a - 1) = nI (2 ^ k - 1) ∧ tb a k = true ∧ ∀ i, i < k → tb a i = false := by
  have hpos : 0 < un a := by
    rcases Nat.eq_zero_or_pos (un a) with h | h
    · exact absurd ((un_of a).trans (by rw [h]; rfl)) ha
    · exact h
  obtain ⟨k, m, e⟩ := low_bit hpos
  have hlt := un_lt a
  have hk : k < 32 := by
    rcases Nat.lt_or_ge k 32 with h | h
    · exact h
    · have := Nat.pow_le_pow_right (n := 2) (by decide) h
      omega
  have hb : ∀ i, tb a i = (if i < k + 1 then decide (i = k) else m.testBit (i - (k + 1))) := fun i => by rw [tb_un, e, low_bits]
  have ep : a - 1 = nI (un a - 1) := by
    rw [show a - 1 = nI (un a) - nI 1 from by rw [← un_of a]; rfl, pk_sub (by omega)]
  have hp : ∀ i, tb (a - 1) i = (if i < k + 1 then decide (i < k) else m.testBit (i - (k + 1))) := fun i => by rw [ep, tb_nI (by omega), e, low_pred]
  refine ⟨k, hk, i32_ext (fun i hi => ?_), by rw [hb, if_pos (by omega), decide_eq_true rfl], fun i hi => by rw [hb, if_pos (by omega), decide_eq_false (by omega)]⟩
  have h2 : 2 ^ k ≤ 2 ^ 31 := Nat.pow_le_pow_right (by decide) (by omega)
  rw [tb_and, tb_xor, tb_m1 i hi, hb, hp, tb_nI (by omega), Nat.testBit_two_pow_sub_one]
  by_cases q : i < k + 1
  · rw [if_pos q, if_pos q]
    by_cases q2 : i = k
    · rw [decide_eq_true q2, decide_eq_false (by omega : ¬ i < k)]; rfl
    · rw [decide_eq_false q2, decide_eq_true (by omega : i < k)]; rfl
  · rw [if_neg q, if_neg q, decide_eq_false (by omega : ¬ i < k)]
    cases m.testBit (i - (k + 1)) <;> rfl
/-- the highest bit -/
theorem nlz_pos {u : Nat} (h0 : 0 < u) (hu : u < 2 ^ 31) (W : xW) : ∃ h : Nat, h < 31 ∧ sJ6_numberOfLeadingZeros_0f7a4 (nI u) W = some (31 - nI h, W) ∧ 2 ^ h ≤ u ∧ u < 2 ^ (h + 1) := by
  have us : ∀ (y k : Nat) , y < 2 ^ 31 → k < 32 → xushr (nI y) (nI k) = nI (y / 2 ^ k) := by
    intro y k hy hk
    refine i32_ext (fun i _ => ?_)
    have hy2 : y / 2 ^ k < 2 ^ 32 := Nat.lt_of_le_of_lt (Nat.div_le_self _ _) (by omega)
    rw [tb_ushr _ k i hk, tb_nI (by omega), tb_nI hy2, Nat.testBit_div_two_pow, Nat.add_comm]
  have lt : ∀ (y b : Nat), y < 2 ^ 31 → b < 2 ^ 31 → (nI y < nI b ↔ y < b) := fun y b hy hb => nI_ltI2 hy hb
  have e31 : ∀ (s d : Nat), (31 : Int32) - nI (s + d) = 31 - nI s + -(nI d) := fun s d => by rw [← nI_add, ← Int32.sub_sub, Int32.sub_eq_add_neg]
  have k73 : ∀ (y s : Nat), 0 < y → y < 4 → s ≤ 30 → ∃ h : Nat, h < s + 2 ∧ sJ6_numberOfLeadingZeros_0f7a4_j73 (nI y) (31 - nI s) W = some (31 - nI h, W) ∧ s ≤ h ∧ 2 ^ (h - s) ≤ y ∧ y < 2 ^ (h - s + 1) := by
    intro y s h1 h2 hs
    unfold sJ6_numberOfLeadingZeros_0f7a4_j73
    rw [show (1 : Int32) = nI 1 from rfl, us y 1 (by omega) (by decide)]
    have e : ∀ j : Nat, (31 : Int32) - nI s - nI j = 31 - nI (s + j) := fun j => by rw [← nI_add, Int32.sub_sub]
    rw [e]
    by_cases q : y = 1
    · exact ⟨s, by omega, by rw [q]; rfl, by omega, by rw [Nat.sub_self, q]; decide, by rw [Nat.sub_self, q]; decide⟩
    · refine ⟨s + 1, by omega, ?_, by omega, ?_, ?_⟩
      · rw [show y / 2 ^ 1 = 1 from by omega]
      · rw [show s + 1 - s = 1 from by omega]; omega
      · rw [show s + 1 - s = 1 from by omega]; omega
  have k61 : ∀ (y s : Nat), 0 < y → y < 16 → s ≤ 28 → ∃ h : Nat, h < s + 4 ∧ sJ6_numberOfLeadingZeros_0f7a4_j61 (nI y) (31 - nI s) W = some (31 - nI h, W) ∧ s ≤ h ∧ 2 ^ (h - s) ≤ y ∧ y < 2 ^ (h - s + 1) := by
    intro y s h1 h2 hs
    unfold sJ6_numberOfLeadingZeros_0f7a4_j61
    by_cases q : y < 4
    · rw [if_pos (show nI y < (4 : Int32) from (lt y 4 (by omega) (by decide)).mpr q)]
      obtain ⟨h, a1, a2, a3⟩ := k73 y s h1 q (by omega)
      exact ⟨h, by omega, a2, a3⟩
    · rw [if_neg (show ¬ nI y < (4 : Int32) from fun z => q ((lt y 4 (by omega) (by decide)).mp z)), show (2 : Int32) = nI 2 from rfl, us y 2 (by omega) (by decide)]
      obtain ⟨h, a1, a2, a3, a4, a5⟩ := k73 (y / 2 ^ 2) (s + 2) (by omega) (by omega) (by omega)
      refine ⟨h, by omega, ?_, by omega, ?_, ?_⟩
      · rw [e31] at a2
        exact a2
      · rw [show h - s = 2 + (h - (s + 2)) from by omega, Nat.pow_add]
        have := Nat.mul_le_mul_left (2 ^ 2) a4
        omega
      · rw [show h - s + 1 = 2 + (h - (s + 2) + 1) from by omega, Nat.pow_add]
        have := (Nat.div_lt_iff_lt_mul (show 0 < 2 ^ 2 from by decide)).mp a5
        rw [Nat.mul_comm] at this
        exact this
  have k48 : ∀ (y s : Nat), 0 < y → y < 256 → s ≤ 24 → ∃ h : Nat, h < s + 8 ∧ sJ6_numberOfLeadingZeros_0f7a4_j48 (nI y) (31 - nI s) W = some (31 - nI h, W) ∧ s ≤ h ∧ 2 ^ (h - s) ≤ y ∧ y < 2 ^ (h - s + 1) := by
    intro y s h1 h2 hs
    unfold sJ6_numberOfLeadingZeros_0f7a4_j48
    by_cases q : y < 16
    · rw [if_pos (show nI y < (16 : Int32) from (lt y 16 (by omega) (by decide)).mpr q)]
      obtain ⟨h, a1, a2, a3⟩ := k61 y s h1 q (by omega)
      exact ⟨h, by omega, a2, a3⟩
    · rw [if_neg (show ¬ nI y < (16 : Int32) from fun z => q ((lt y 16 (by omega) (by decide)).mp z)), show (4 : Int32) = nI 4 from rfl, us y 4 (by omega) (by decide)]
      obtain ⟨h, a1, a2, a3, a4, a5⟩ := k61 (y / 2 ^ 4) (s + 4) (by omega) (by omega) (by omega)
      refine ⟨h, by omega, ?_, by omega, ?_, ?_⟩
      · rw [e31] at a2
        exact a2
      · rw [show h - s = 4 + (h - (s + 4)) from by omega, Nat.pow_add]
        have := Nat.mul_le_mul_left (2 ^ 4) a4
        omega
      · rw [show h - s + 1 = 4 + (h - (s + 4) + 1) from by omega, Nat.pow_add]
        have := (Nat.div_lt_iff_lt_mul (show 0 < 2 ^ 4 from by decide)).mp a5
        rw [Nat.mul_comm] at this
        exact this
  have k33 : ∀ (y s : Nat), 0 < y → y < 65536 → s ≤ 16 → ∃ h : Nat, h < s + 16 ∧ sJ6_numberOfLeadingZeros_0f7a4_j33 (nI y) (31 - nI s) W = some (31 - nI h, W) ∧ s ≤ h ∧ 2 ^ (h - s) ≤ y ∧ y < 2 ^ (h - s + 1) := by
    intro y s h1 h2 hs
    unfold sJ6_numberOfLeadingZeros_0f7a4_j33
    by_cases q : y < 256
    · rw [if_pos (show nI y < (256 : Int32) from (lt y 256 (by omega) (by decide)).mpr q)]
      obtain ⟨h, a1, a2, a3⟩ := k48 y s h1 q (by omega)
      exact ⟨h, by omega, a2, a3⟩
    · rw [if_neg (show ¬ nI y < (256 : Int32) from fun z => q ((lt y 256 (by omega) (by decide)).mp z)), show (8 : Int32) = nI 8 from rfl, us y 8 (by omega) (by decide)]
      obtain ⟨h, a1, a2, a3, a4, a5⟩ := k48 (y / 2 ^ 8) (s + 8) (by omega) (by omega) (by omega)
      refine ⟨h, by omega, ?_, by omega, ?_, ?_⟩
      · rw [e31] at a2
        exact a2
      · rw [show h - s = 8 + (h - (s + 8)) from by omega, Nat.pow_add]
        have := Nat.mul_le_mul_left (2 ^ 8) a4
        omega
      · rw [show h - s + 1 = 8 + (h - (s + 8) + 1) from by omega, Nat.pow_add]
        have := (Nat.div_lt_iff_lt_mul (show 0 < 2 ^ 8 from by decide)).mp a5
        rw [Nat.mul_comm] at this
        exact this
  unfold sJ6_numberOfLeadingZeros_0f7a4
  rw [if_pos (show 0 < nI u from (lt 0 u (by decide) hu).mpr h0)]
  by_cases q : u < 65536
  · rw [if_pos (show nI u < (65536 : Int32) from (lt u 65536 hu (by decide)).mpr q)]
    obtain ⟨h, a1, a2, a3, a4, a5⟩ := k33 u 0 h0 q (by omega)
    exact ⟨h, by omega, a2, a4, a5⟩
  · rw [if_neg (show ¬ nI u < (65536 : Int32) from fun z => q ((lt u 65536 hu (by decide)).mp z)), show (16 : Int32) = nI 16 from rfl, us u 16 hu (by decide)]
    obtain ⟨h, a1, a2, a3, a4, a5⟩ := k33 (u / 2 ^ 16) 16 (by omega) (by omega) (by omega)
    refine ⟨h, ?_, ?_, ?_, ?_⟩
    · rcases Nat.lt_or_ge h 31 with z | z
      · exact z
      · have h31 : h = 31 := by omega
        rw [h31] at a4
        omega
    · exact a2
    · have := Nat.mul_le_mul_left (2 ^ 16) a4
      rw [show h = 16 + (h - 16) from by omega, Nat.pow_add]
      omega
    · rw [show h + 1 = 16 + (h - 16 + 1) from by omega, Nat.pow_add]
      have := (Nat.div_lt_iff_lt_mul (show 0 < 2 ^ 16 from by decide)).mp a5
      rw [Nat.mul_comm] at this
      exact this
theorem nlz_c {a : Int32} (ha : ¬ a = 0) (W : xW) : ∃ h : Nat, h < 32 ∧ sJ6_numberOfLeadingZeros_0f7a4 a W = some (31 - nI h, W) ∧ tb a h = true ∧ ∀ i, h < i → tb a i = false := by
  have hlt := un_lt a
  by_cases hn : tb a 31 = true
  · refine ⟨31, by decide, ?_, hn, fun i hi => tb_ge a (by omega)⟩
    unfold sJ6_numberOfLeadingZeros_0f7a4
    have h1 : a < 0 := by rw [neg_tb]; exact hn
    rw [if_neg (fun q => Int32.lt_irrefl (Int32.lt_trans q h1)), if_neg ha]
    rfl
  · have hpos : 0 < un a := by
      rcases Nat.eq_zero_or_pos (un a) with h | h
      · exact absurd ((un_of a).trans (by rw [h]; rfl)) ha
      · exact h
    have h31 : un a < 2 ^ 31 := by
      rcases Nat.lt_or_ge (un a) (2 ^ 31) with h | h
      · exact h
      · exfalso
        apply hn
        rw [tb_un]
        have := Nat.testBit_two_pow_mul_add 1 (show un a - 2 ^ 31 < 2 ^ 31 by omega) 31
        rw [show 2 ^ 31 * 1 + (un a - 2 ^ 31) = un a from by omega] at this
        rw [this]; rfl
    obtain ⟨h, h1, h2, h3, h4⟩ := nlz_pos hpos h31 W
    rw [← un_of] at h2
    refine ⟨h, by omega, h2, ?_, fun i hi => ?_⟩
    · rw [tb_un]
      have := Nat.testBit_two_pow_mul_add 1 (show un a - 2 ^ h < 2 ^ h by rw [Nat.pow_succ] at h4; omega) h
      rw [show 2 ^ h * 1 + (un a - 2 ^ h) = un a from by omega] at this
      rw [this, if_neg (Nat.lt_irrefl h), Nat.sub_self]; rfl
    · rw [tb_un]
      exact Nat.testBit_lt_two_pow (Nat.lt_of_lt_of_le h4 (Nat.pow_le_pow_right (by decide) (by omega)))
/-- the reference's search -/
theorem scan_lo {a g to : Int32} {k : Nat} {M : xW} (hk : k < 32) (h1 : tb a k = true) (h2 : ∀ i, i < k → tb a i = false) (hm : M.1 0 17 = 50) (hg : M.1 0 23 = g) (hg8 : in8 g) : ∀ (j i fuel : Nat), i + j = k → j < fuel → sX12_doRest_l279 fuel to a (nI i) M = some (to, xwi M 9 g.toNatClampNeg (nI k)) := by
  intro j
  induction j with
  | zero =>
    intro i fuel hij hf
    have e : i = k := by omega
    subst e
    cases fuel with
    | zero => omega
    | succ f =>
      rw [sX12_doRest_l279, if_tb (and_1 (xushr a (nI i))), tb_ushr a i 0 hk, Nat.add_zero, h1, if_pos rfl, hg, if_pos (in8_x hg8).2.1]
  | succ j ih =>
    intro i fuel hij hf
    cases fuel with
    | zero => omega
    | succ f =>
      rw [sX12_doRest_l279, if_tb (and_1 (xushr a (nI i))), tb_ushr a i 0 (by omega), Nat.add_zero, h2 i (by omega), if_neg (by decide), hm, if_pos rfl, nI_1]
      exact ih (i + 1) f (by omega) (by omega)
theorem scan_hi {a g to : Int32} {k : Nat} {M : xW} (h1 : tb a k = true) (h2 : ∀ i, k < i → tb a i = false) (hm : M.1 0 17 = 51) (hg : M.1 0 23 = g) (hg8 : in8 g) : ∀ (j fuel : Nat), k + j < 32 → j < fuel → sX12_doRest_l279 fuel to a (nI (k + j)) M = some (to, xwi M 9 g.toNatClampNeg (nI k)) := by
  intro j
  induction j with
  | zero =>
    intro fuel hk hf
    cases fuel with
    | zero => omega
    | succ f =>
      show sX12_doRest_l279 (f + 1) to a (nI k) M = _
      rw [sX12_doRest_l279, if_tb (and_1 (xushr a (nI k))), tb_ushr a k 0 (by omega), Nat.add_zero, h1, if_pos rfl, hg, if_pos (in8_x hg8).2.1]
  | succ j ih =>
    intro fuel hk hf
    cases fuel with
    | zero => omega
    | succ f =>
      rw [sX12_doRest_l279, if_tb (and_1 (xushr a (nI (k + (j + 1))))), tb_ushr a (k + (j + 1)) 0 (by omega), Nat.add_zero, h2 _ (by omega), if_neg (by decide), hm, if_neg (by decide), show nI (k + (j + 1)) + (-1) = nI (k + j) from pk_m1 (k + j)]
      exact ih f (by omega) (by omega)
/-- bytes the other way round -/
theorem bsw (x : Int32) : (((xushr x 24) ||| ((x >>> ((8 : Int32) &&& 31)) &&& 65280)) ||| ((x &&& 65280) <<< ((8 : Int32) &&& 31))) ||| (x <<< ((24 : Int32) &&& 31)) = (((x <<< ((24 : Int32) &&& 31)) ||| ((x &&& 65280) <<< ((8 : Int32) &&& 31))) ||| ((xushr x 8) &&& 65280)) ||| (xushr x 24) := by
  have e : (x >>> ((8 : Int32) &&& 31)) &&& 65280 = (xushr x 8) &&& 65280 := i32_ext (fun i hi => by
    rw [tb_and, tb_and, show (8 : Int32) = nI 8 from rfl, tb_ushr x 8 i (by decide), tb_shr x 8 i (by decide), tb_65280 i hi]
    by_cases h : i < 16
    · rw [if_pos (by omega), decide_eq_false (by omega : ¬ 32 ≤ i)]; rfl
    · rw [decide_eq_false h, Bool.and_false, Bool.and_false, Bool.and_false])
  rw [e]
  refine i32_ext (fun i _ => ?_)
  simp only [tb_or]
  cases tb (xushr x 24) i <;> cases tb ((xushr x 8) &&& 65280) i <;> cases tb ((x &&& 65280) <<< ((8 : Int32) &&& 31)) i <;> cases tb (x <<< ((24 : Int32) &&& 31)) i <;> rfl
/-- parts that are apart -/
theorem ru_same {rg : Nat → Int32} {j : Nat} {x y : Int32} : ru (ru rg j x) j y = ru rg j y := by
  funext i
  unfold ru
  by_cases h : i = j
  · rw [if_pos h, if_pos h]
  · rw [if_neg h, if_neg h, if_neg h]
theorem tb_m256 : ∀ i, i < 32 → tb (-256) i = decide (8 ≤ i) := by decide +kernel
theorem tb_m65281 : ∀ i, i < 32 → tb (-65281) i = !(decide (8 ≤ i) && decide (i < 16)) := by decide +kernel
theorem tb_b8 (y : Int32) (i : Nat) : tb ((y &&& 255) <<< ((8 : Int32) &&& 31)) i = (decide (i < 32) && !decide (i < 8) && tb (y &&& 255) (i - 8)) := tb_shl (y &&& 255) 8 i (by decide)
theorem tb_255' (y : Int32) (i : Nat) : tb (y &&& 255) i = (decide (i < 8) && tb y i) := by
  by_cases h : i < 32
  · rw [tb_and, tb_255 i h, Bool.and_comm]
  · rw [tb_ge _ (by omega), decide_eq_false (by omega)]; rfl
theorem lohi (r x y : Int32) : (((r &&& (-256)) ||| (x &&& 255)) &&& (-65281)) ||| ((y &&& 255) <<< ((8 : Int32) &&& 31)) = (((r &&& (-65281)) ||| ((y &&& 255) <<< ((8 : Int32) &&& 31))) &&& (-256)) ||| (x &&& 255) := by
  refine i32_ext (fun i hi => ?_)
  simp only [tb_or, tb_and (r &&& _), tb_and r, tb_and (_ ||| _), tb_b8, tb_255', tb_m256 i hi, tb_m65281 i hi, decide_eq_true hi]
  by_cases h1 : i < 8
  · simp [h1, show ¬ 8 ≤ i by omega]
  · by_cases h2 : i < 16
    · simp [h1, h2, show 8 ≤ i by omega, show i - 8 < 8 by omega]
    · simp [h1, h2, show 8 ≤ i by omega, show ¬ i - 8 < 8 by omega]
theorem spr_comm {rg : Nat → Int32} {j k : Nat} {n x y : Int32} (hn : wid n) (hj : j < 8) (hk : k < 8) (h : j ≠ k) : spr (spr rg j n x) k n y = spr (spr rg k n y) j n x := by
  unfold spr
  rcases hn with rfl | rfl | rfl
  · simp (decide := true) only [if_true, if_false]
    by_cases h1 : j < 4
    · by_cases h2 : k < 4
      · rw [if_pos h1, if_pos h2, if_pos h1, if_pos h2, ru_o (by omega), ru_o (by omega), ru_comm h]
      · rw [if_pos h1, if_neg h2, if_pos h1, if_neg h2]
        by_cases h3 : k - 4 = j
        · rw [h3, ru_s, ru_s, ru_same, ru_same, lohi]
        · rw [ru_o h3, ru_o (by omega), ru_comm (by omega)]
    · by_cases h2 : k < 4
      · rw [if_neg h1, if_pos h2, if_neg h1, if_pos h2]
        by_cases h3 : j - 4 = k
        · rw [h3, ru_s, ru_s, ru_same, ru_same, lohi]
        · rw [ru_o (by omega), ru_o h3, ru_comm h3]
      · rw [if_neg h1, if_neg h2, if_neg h1, if_neg h2, ru_o (by omega), ru_o (by omega), ru_comm (by omega)]
  · simp (decide := true) only [if_true, if_false]
    rw [ru_o (Ne.symm h), ru_o h, ru_comm h]
  · simp (decide := true) only [if_true, if_false]
    rw [ru_comm h]
