/-! texts: numbers, in the reference -/
theorem lN_ti {n : Nat} (h : n < 2 ^ 63) : (lN n).toInt = (n : Int) := lg_ofNat_toInt (by omega)
theorem lN_of {x : Int64} {n : Nat} (h : n < 2 ^ 63) (e : x.toInt = (n : Int)) : x = lN n := Int64.toInt_inj.mp (e.trans (lN_ti h).symm)
theorem lN_div {a b : Nat} (ha : a < 2 ^ 63) (hb : b < 2 ^ 63) : lN a / lN b = lN (a / b) := by
  have h1 : a / b ≤ a := Nat.div_le_self a b
  refine lN_of (by omega) ?_
  rw [Int64.toInt_div, lN_ti ha, lN_ti hb]
  rw [show (a : Int).tdiv (b : Int) = ((a / b : Nat) : Int) from rfl]
  generalize a / b = q at h1 ⊢
  exact Int.bmod_eq_of_le (by omega) (by omega)
theorem lN_ltI {a b : Nat} (ha : a < 2 ^ 63) (hb : b < 2 ^ 63) : lN a < lN b ↔ a < b := by
  rw [Int64.lt_iff_toInt_lt, lN_ti ha, lN_ti hb]; omega
theorem lN_nz {b : Nat} (hb : b < 2 ^ 63) (h : 0 < b) : ¬ lN b = 0 := fun q => by
  have h1 : (lN b).toInt = (0 : Int64).toInt := by rw [q]
  rw [lN_ti hb, tI0] at h1
  omega
/-- the digits of U from the k-th on -/
def digsK (U : Nat) : Nat → List Nat
  | 0 => [48 + U % 10]
  | k + 1 => (48 + U / 10 ^ (k + 1) % 10) :: digsK U k
theorem digsK_len (U : Nat) : ∀ k, (digsK U k).length = k + 1
  | 0 => rfl
  | k + 1 => by unfold digsK; rw [List.length_cons, digsK_len U k]
theorem digsK_app (U : Nat) : ∀ k, digsK U (k + 1) = digsK (U / 10) k ++ [48 + U % 10]
  | 0 => by
    show [48 + U / 10 ^ 1 % 10, 48 + U % 10] = [48 + U / 10 % 10, 48 + U % 10]
    rw [Nat.pow_one]
  | k + 1 => by
    show (48 + U / 10 ^ (k + 1 + 1) % 10) :: digsK U (k + 1) = ((48 + U / 10 / 10 ^ (k + 1) % 10) :: digsK (U / 10) k) ++ [48 + U % 10]
    rw [digsK_app U k, Nat.div_div_eq_div_mul, show 10 * 10 ^ (k + 1) = 10 ^ (k + 1 + 1) by rw [Nat.pow_succ 10 (k + 1)]; omega]
    rfl
theorem decL_digs : ∀ (k U : Nat), k ≤ 9 → U < 10 ^ (k + 1) → (10 ^ k ≤ U ∨ k = 0) → decL U = digsK U k
  | 0, U, _, h, _ => by
    have h : U < 10 := h
    rw [decL_lt h]
    show _ = [48 + U % 10]
    rw [Nat.mod_eq_of_lt h]
  | k + 1, U, h1, h2, h3 => by
    have hp : 10 ^ (k + 1) ≤ U := h3.resolve_right (by omega)
    have h10 : 10 ≤ U := by
      have : 10 ^ 1 ≤ 10 ^ (k + 1) := Nat.pow_le_pow_right (by decide) (by omega)
      omega
    have hU : U < 10 ^ 10 := Nat.lt_of_lt_of_le h2 (Nat.pow_le_pow_right (by decide) (by omega))
    rw [decL_10 h10 hU, digsK_app, decL_digs k (U / 10) (by omega) (by rw [Nat.pow_succ] at h2; omega) (Or.inl (by rw [Nat.pow_succ] at hp; omega))]
theorem pow_le9 {k : Nat} (h : k ≤ 9) : 10 ^ k ≤ 1000000000 := Nat.pow_le_pow_right (n := 10) (by decide) h
theorem dig_i (q : Nat) (hq : q < 2 ^ 63) : (48 : Int32) + (lN q - lN q / (10 : Int64) * (10 : Int64)).toInt32 = nI (48 + q % 10) := by
  have e10 : (10 : Int64) = lN 10 := rfl
  rw [e10, lN_div hq (by decide), lN_mul, lN_sub (by omega), show q - q / 10 * 10 = q % 10 by omega, lN_i]
  exact nI_add 48 (q % 10)
theorem num_50 {U : Nat} (hU : U < 2 ^ 33) : ∀ (k F n : Nat) (m : xW), k ≤ 9 → k + 1 < F → m.1 0 16 = nI n → n + (k + 1) ≤ 80 → sX12_sayNumber_l50 F (lN U) (lN (10 ^ k)) m = some ((), mput m (digsK U k)) := by
  have one : ∀ (k F n : Nat) (m : xW) (R : Option (Unit × xW)), k ≤ 9 → m.1 0 16 = nI n → n < 80 → sX12_sayNumber_l50 F (lN U) (lN (10 ^ k / 10)) (mput m [48 + U / 10 ^ k % 10]) = R → sX12_sayNumber_l50 (F + 1) (lN U) (lN (10 ^ k)) m = R := by
    intro k F n m R hk hn hl hR
    have hp := pow_le9 hk
    have hp0 : 0 < 10 ^ k := Nat.pow_pos (by decide)
    have hq : U / 10 ^ k ≤ U := Nat.div_le_self _ _
    rw [sX12_sayNumber_l50]
    rw [if_pos (show (0 : Int64) < lN (10 ^ k) from (lN_ltI (a := 0) (by decide) (by omega)).mpr hp0), if_pos (lN_nz (by omega) hp0), if_pos (show ¬ (10 : Int64) = 0 by decide), lN_div (by omega) (by omega), dig_i _ (by omega), say_v hn hl]
    show (if ¬ (10 : Int64) = 0 then sX12_sayNumber_l50 F (lN U) (lN (10 ^ k) / (10 : Int64)) (mput m [48 + U / 10 ^ k % 10]) else none) = R
    rw [if_pos (show ¬ (10 : Int64) = 0 by decide), show (10 : Int64) = lN 10 from rfl, lN_div (by omega) (by decide)]
    exact hR
  intro k
  induction k with
  | zero =>
    intro F n m hk hF hn hl
    obtain ⟨F, rfl⟩ : ∃ F', F = F' + 1 + 1 := ⟨F - 2, by omega⟩
    refine one 0 (F + 1) n m _ hk hn (by omega) ?_
    rw [sX12_sayNumber_l50]
    rw [if_neg (show ¬ (0 : Int64) < lN (10 ^ 0 / 10) by decide)]
    rw [Nat.pow_zero, Nat.div_one]
    rfl
  | succ k ih =>
    intro F n m hk hF hn hl
    obtain ⟨F, rfl⟩ : ∃ F', F = F' + 1 := ⟨F - 1, by omega⟩
    refine one (k + 1) F n m _ hk hn (by omega) ?_
    rw [show 10 ^ (k + 1) / 10 = 10 ^ k by rw [Nat.pow_succ]; omega]
    rw [ih F (n + 1) _ (by omega) (by omega) (mput_cnt hn (by show n + 1 ≤ 80; omega)) (by omega)]
    rfl
theorem num_28 {U : Nat} (hU : U < 2 ^ 33) : ∀ (j k F n : Nat) (m : xW), j + k = 9 → j < F → m.1 0 16 = nI n → n + (decL U).length ≤ 80 → (10 ^ k ≤ U ∨ k = 0) → sX12_sayNumber_l28 F (lN U) (lN (10 ^ k)) m = some ((), mput m (decL U)) := by
  intro j
  induction j with
  | zero =>
    intro k F n m hj hF hn hl hk
    obtain rfl : k = 9 := by omega
    obtain ⟨F, rfl⟩ : ∃ F', F = F' + 1 := ⟨F - 1, by omega⟩
    have e := decL_digs 9 U (by decide) (by omega) hk
    rw [e, digsK_len] at hl
    rw [sX12_sayNumber_l28]
    rw [if_pos (lN_nz (by decide) (by decide)), lN_div (by omega) (by decide), if_pos (show lN (U / 10 ^ 9) < (10 : Int64) from (lN_ltI (b := 10) (by omega) (by decide)).mpr (by omega)), num_50 hU 9 70000 n m (by decide) (by decide) hn (by omega), e]
  | succ j ih =>
    intro k F n m hj hF hn hl hk
    obtain ⟨F, rfl⟩ : ∃ F', F = F' + 1 := ⟨F - 1, by omega⟩
    have hp := pow_le9 (k := k) (by omega)
    have hp0 : 0 < 10 ^ k := Nat.pow_pos (by decide)
    have hq : U / 10 ^ k ≤ U := Nat.div_le_self _ _
    rw [sX12_sayNumber_l28]
    rw [if_pos (lN_nz (by omega) hp0), lN_div (by omega) (by omega)]
    by_cases h : U / 10 ^ k < 10
    · rw [if_pos (show lN (U / 10 ^ k) < (10 : Int64) from (lN_ltI (b := 10) (by omega) (by decide)).mpr h)]
      have hlt : U < 10 ^ (k + 1) := by
        have := (Nat.div_lt_iff_lt_mul hp0).mp h
        rw [Nat.pow_succ]; omega
      have e := decL_digs k U (by omega) hlt hk
      rw [e, digsK_len] at hl
      rw [num_50 hU k 70000 n m (by omega) (by omega) hn (by omega), e]
    · rw [if_neg (show ¬ lN (U / 10 ^ k) < (10 : Int64) from fun q => h ((lN_ltI (b := 10) (by omega) (by decide)).mp q)), show (10 : Int64) = lN 10 from rfl, lN_mul, ← Nat.pow_succ]
      refine ih (k + 1) F n m (by omega) (by omega) hn hl (Or.inl ?_)
      have := (Nat.le_div_iff_mul_le hp0).mp (Nat.le_of_not_lt h)
      rw [Nat.pow_succ]; omega
theorem sayNum_v {v : Int64} {z : Int} {n : Nat} {m : xW} (hv : v.toInt = z) (hz : -(2 ^ 32) ≤ z ∧ z < 2 ^ 32) (hn : m.1 0 16 = nI n) (hl : n + (numL z).length ≤ 80) : sX12_sayNumber v m = some ((), mput m (numL z)) := by
  unfold sX12_sayNumber sX12_sayNumber_j12
  unfold numL at hl ⊢
  by_cases h : z < 0
  · rw [if_pos h] at hl ⊢
    have hv0 : v < (0 : Int64) := by rw [Int64.lt_iff_toInt_lt, hv, tI0]; exact h
    have en : -v = lN z.natAbs := by
      refine lN_of (by omega) ?_
      rw [Int64.toInt_neg, hv, show -z = ((z.natAbs : Nat) : Int) by omega]
      exact Int.bmod_eq_of_le (by omega) (by omega)
    rw [List.length_cons] at hl
    rw [if_pos hv0, show (45 : Int32) = nI 45 from rfl, say_v hn (by omega)]
    show (if v < (0 : Int64) then sX12_sayNumber_l28 70000 (-v) (1 : Int64) (mput m [45]) else _) = _
    rw [if_pos hv0, en]
    exact num_28 (U := z.natAbs) (by omega) 9 0 70000 (n + 1) (mput m [45]) rfl (by decide) (mput_cnt hn (by show n + 1 ≤ 80; omega)) (by omega) (Or.inr rfl)
  · rw [if_neg h] at hl ⊢
    have hv0 : ¬ v < (0 : Int64) := by rw [Int64.lt_iff_toInt_lt, hv, tI0]; exact h
    have en : v = lN z.natAbs := lN_of (by omega) (by rw [hv]; omega)
    rw [if_neg hv0, if_neg hv0, en]
    exact num_28 (U := z.natAbs) (by omega) 9 0 70000 n m rfl (by decide) hn hl (Or.inr rfl)
theorem sayInt_v {x : Int32} {n : Nat} {m : xW} (hn : m.1 0 16 = nI n) (hl : n + (numL x.toInt).length ≤ 80) : sX12_sayNumber x.toInt64 m = some ((), mput m (numL x.toInt)) := by
  have hlo := x.le_toInt
  have hhi := x.toInt_lt
  exact sayNum_v (by rw [Int32.toInt_toInt64]) (by omega) hn hl
theorem addUns_v {w : xW} {n : Nat} (x : Int32) (hn : w.1 41 0 = nI n) (h : n + (decL (un x)).length ≤ 80) : sX10_addUnsigned x w = some ((), tput w (decL (un x))) := by
  have hu := un_lt x
  unfold sX10_addUnsigned sX10_addUnsigned_j27 sX11_unsigned
  rw [un_l]
  generalize un x = U at hu h
  have e10 : (10 : Int64) = lN 10 := rfl
  have em : (lN U - lN U / (10 : Int64) * (10 : Int64)).toInt32 = nI (U % 10) := by
    rw [e10, lN_div (by omega) (by decide), lN_mul, lN_sub (by omega), show U - U / 10 * 10 = U % 10 by omega, lN_i]
  have ed : (lN U / (10 : Int64)).toInt32 = nI (U / 10) := by rw [e10, lN_div (by omega) (by decide), lN_i]
  have n1 : ∀ V : Nat, V < 2 ^ 31 → numL (nI V).toInt = decL V := fun V hV => numL_len (nI_toInt hV)
  have hl1 := (decL_len1 (v := U) (by omega)).1
  show (if lN U < (10 : Int64) then (if ¬ (10 : Int64) = 0 then xbd (sbI ((lN U - lN U / (10 : Int64) * (10 : Int64)).toInt32) w) (fun _ w1 => some ((), w1)) else none) else _) = _
  by_cases hlt : U < 10
  · rw [if_pos (show lN U < (10 : Int64) from (lN_ltI (b := 10) (by omega) (by decide)).mpr hlt), if_pos (show ¬ (10 : Int64) = 0 by decide), em, sbI_v _ hn (by omega), n1 _ (by omega), Nat.mod_eq_of_lt hlt]
    rfl
  · rw [if_neg (show ¬ lN U < (10 : Int64) from fun q => hlt ((lN_ltI (b := 10) (by omega) (by decide)).mp q)), if_pos (show ¬ (10 : Int64) = 0 by decide), ed, sbI_v _ hn (by omega), n1 _ (by omega)]
    rw [decL_10 (by omega) (by omega), List.length_append] at h
    have h : n + ((decL (U / 10)).length + 1) ≤ 80 := h
    show (if ¬ (10 : Int64) = 0 then xbd (sbI ((lN U - lN U / (10 : Int64) * (10 : Int64)).toInt32) (tput w (decL (U / 10)))) (fun _ w1 => some ((), w1)) else none) = _
    rw [if_pos (show ¬ (10 : Int64) = 0 by decide), em, sbI_v _ (tput_cnt hn (by omega)) (by omega), n1 _ (by omega), decL_lt (v := U % 10) (by omega), decL_10 (v := U) (by omega) (by omega), tput_app]
    rfl
theorem sayUns_v {x : Int32} {n : Nat} {m : xW} (hn : m.1 0 16 = nI n) (hl : n + (decL (un x)).length ≤ 80) : sX12_sayNumber (x.toInt64 &&& (4294967295 : Int64)) m = some ((), mput m (decL (un x))) := by
  have hu := un_lt x
  rw [un_l]
  have e : numL (un x : Int) = decL (un x) := by
    unfold numL
    rw [if_neg (by omega)]
    rfl
  rw [← e] at hl ⊢
  exact sayNum_v (lN_ti (by omega)) (by omega) hn hl
