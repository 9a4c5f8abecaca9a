/-! memory: the class and the reference -/
def fl5 (e t : Int32) : Int32 := if t = 0 then e else t
theorem fl5_0 (t : Int32) : fl5 0 t = t := by unfold fl5; split <;> simp_all
def dataP (w m : xW) : Prop := ∀ i, i < 65536 → w.1 17 i &&& 255 = m.1 2 i
theorem within_v {a : Int32} {L S E : Nat} (hL : L < 2 ^ 33) (hS : S < 2 ^ 31) (hE : E < 2 ^ 31) (w : xW) : sX8_isWithin a (lN L) (nI S) (nI E) w = some (bI (decide (S ≤ un a ∧ un a + L ≤ E)), w) := by
  have hA := un_lt a
  unfold sX8_isWithin
  rw [un_l]
  show (if lN (un a) < (nI S).toInt64 then _ else _) = _
  rw [nI_l hS, nI_l hE]
  by_cases h1 : un a < S
  · rw [if_pos ((pk_lLT (by omega) (by omega)).mpr h1), decide_eq_false (by omega)]; rfl
  · rw [if_neg (fun q => h1 ((pk_lLT (by omega) (by omega)).mp q)), lN_add]
    by_cases h2 : E < un a + L
    · rw [if_pos ((pk_lLT (by omega) (by omega)).mpr h2), decide_eq_false (by omega)]; rfl
    · rw [if_neg (fun q => h2 ((pk_lLT (by omega) (by omega)).mp q)), decide_eq_true (by omega)]; rfl
theorem inData_m {A : Nat} {L : Nat} (hA : A < 2 ^ 33) (hL : L < 2 ^ 31) (M : xW) : sX12_inData (lN A) (nI L) M = some (bI (decide (65536 ≤ A ∧ A + L ≤ 131072)), M) := by
  unfold sX12_inData
  by_cases h1 : A < 65536
  · rw [if_pos (show lN A < (65536 : Int64) from (pk_lLT (b := 65536) (by omega) (by decide)).mpr h1), decide_eq_false (by omega)]; rfl
  · rw [if_neg (show ¬ lN A < (65536 : Int64) from fun q => h1 ((pk_lLT (b := 65536) (by omega) (by decide)).mp q)), nI_l hL, lN_add]
    by_cases h2 : 131072 < A + L
    · rw [if_pos (show (131072 : Int64) < lN (A + L) from (pk_lLT (a := 131072) (by decide) (by omega)).mpr h2), decide_eq_false (by omega)]; rfl
    · rw [if_neg (show ¬ (131072 : Int64) < lN (A + L) from fun q => h2 ((pk_lLT (a := 131072) (by decide) (by omega)).mp q)), decide_eq_true (by omega)]; rfl
theorem inImage_m {A L N : Nat} (hA : A < 2 ^ 33) (hL : L < 2 ^ 31) {M : xW} (hN : M.1 0 2 = nI N) (hN2 : N ≤ 2048) : sX12_inImage (lN A) (nI L) M = some (bI (decide (4096 ≤ A ∧ A + L ≤ 4096 + N)), M) := by
  unfold sX12_inImage
  have e : ((4096 : Int32) + M.1 0 2).toInt64 = lN (4096 + N) := by rw [hN, show (4096 : Int32) + nI N = nI (4096 + N) from nI_add 4096 N, nI_l (by omega)]
  rw [e, nI_l hL, lN_add]
  by_cases h1 : A < 4096
  · rw [if_pos (show lN A < (4096 : Int64) from (pk_lLT (b := 4096) (by omega) (by decide)).mpr h1), decide_eq_false (by omega)]; rfl
  · rw [if_neg (show ¬ lN A < (4096 : Int64) from fun q => h1 ((pk_lLT (b := 4096) (by omega) (by decide)).mp q))]
    by_cases h2 : 4096 + N < A + L
    · rw [if_pos ((pk_lLT (by omega) (by omega)).mpr h2), decide_eq_false (by omega)]; rfl
    · rw [if_neg (fun q => h2 ((pk_lLT (by omega) (by omega)).mp q)), decide_eq_true (by omega)]; rfl
