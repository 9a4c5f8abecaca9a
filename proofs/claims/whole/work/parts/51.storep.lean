/-! store and write as a pair -/
theorem store_no {w : xW} {a v : Int32} {k : Nat} (hk : k ≤ 4) {rg : Nat → Int32} {fl tr wh fo : Int32} (ht : ¬ tr = 0) : sX8_store a (nI k) v (sW rg fl tr wh fo w) = some ((), sW rg fl tr wh fo w) := by
  have j40 : sX8_store_j40 a (nI k) v (sW rg fl tr wh fo w) = some ((), sW rg fl tr wh fo w) := by
    unfold sX8_store_j40
    rw [sW_tr, if_neg ht]
  have j37 : ∀ b, sX8_store_j37 a (nI k) v b (sW rg fl tr wh fo w) = some ((), sW rg fl tr wh fo w) := by
    intro b
    unfold sX8_store_j37 sX8_fail
    rw [sW_tr, if_neg ht, xbd_some, j40]
  unfold sX8_store
  rw [nI_l (by omega), show (65536 : Int32) = nI 65536 from rfl, show (131072 : Int32) = nI 131072 from rfl, show (61440 : Int32) = nI 61440 from rfl, show (135168 : Int32) = nI 135168 from rfl, within_v (by omega) (by decide) (by decide), xbd_some, within_v (by omega) (by decide) (by decide), xbd_some, j37, j37, j40]
  split <;> (try split) <;> rfl
theorem write_no {m : xW} {a v : Int32} {n : Int32} {rg : Nat → Int32} {c p z s o kp ef : Int32} (ht : ¬ kp = 0) : sX12_write a v n (tW rg c p z s o kp ef m) = some ((), tW rg c p z s o kp ef m) := by
  unfold sX12_write
  dsimp only [xlet]
  rw [tW_kp, if_neg ht]
theorem store_pair {w m : xW} (hd : dataP w m) (a : Int32) {v v2 : Int32} {k : Nat} (hk : k = 1 ∨ k = 2 ∨ k = 4) (hv : v &&& mkV (nI k) = v2 &&& mkV (nI k)) : ∃ (e : Int32) (w' m' : xW), frD w w' m m' ∧ dataP w' m' ∧ (e = 0 ∨ e = 4 ∨ e = 5 ∨ e = 6) ∧
    (∀ (rg : Nat → Int32) (fl wh fo : Int32), sX8_store a (nI k) v (sW rg fl 0 wh fo w) = some ((), sW rg fl e wh fo w')) ∧
    (∀ (rg : Nat → Int32) (c p z s o ef : Int32), sX12_write a v2 (nI k) (tW rg c p z s o 0 ef m) = some ((), tW rg c p z s o e ef m')) := by
  have hA := un_lt a
  have hk4 : k ≤ 4 := by omega
  have hk1 : 1 ≤ k := by omega
  by_cases hD : 65536 ≤ un a ∧ un a + k ≤ 131072
  · obtain ⟨w', m', hf, hd', hC, hM⟩ := store_l (v := v) (v2 := v2) hk4 (mk_bytes hk hv) hD.1 hD.2 k 0 w m (by omega) hd
    refine ⟨0, w', m', hf, hd', Or.inl rfl, ?_, ?_⟩
    · intro rg fl wh fo
      unfold sX8_store
      rw [nI_l (by omega), show (65536 : Int32) = nI 65536 from rfl, show (131072 : Int32) = nI 131072 from rfl, within_v (by omega) (by decide) (by decide), xbd_some, bI_dec_t hD, if_neg (by decide)]
      unfold sX8_store_j40
      rw [sW_tr, if_pos rfl]
      exact hC 70000 rg fl 0 wh fo (by omega)
    · intro rg c p z s o ef
      unfold sX12_write
      rw [un_l]
      dsimp only [xlet]
      rw [tW_kp, if_pos rfl, inData_m (by omega) (by omega), xbd_some, bI_dec_t hD, if_neg (by decide)]
      exact hM 70000 rg c p z s o 0 ef (by omega)
  · by_cases hN : 61440 ≤ un a ∧ un a + k ≤ 135168
    · refine ⟨5, w, m, frD_r w m, hd, Or.inr (Or.inr (Or.inl rfl)), ?_, ?_⟩
      · intro rg fl wh fo
        unfold sX8_store
        rw [nI_l (by omega), show (65536 : Int32) = nI 65536 from rfl, show (131072 : Int32) = nI 131072 from rfl, show (61440 : Int32) = nI 61440 from rfl, show (135168 : Int32) = nI 135168 from rfl, within_v (by omega) (by decide) (by decide), xbd_some, bI_dec_f hD, if_pos rfl, within_v (by omega) (by decide) (by decide), xbd_some, bI_dec_t hN, if_neg (by decide)]
        unfold sX8_store_j37 sX8_fail
        rw [sW_tr, if_pos rfl, xbd_some, sW_wtr]
        unfold sX8_store_j40
        rw [sW_tr, if_neg (by decide)]
      · intro rg c p z s o ef
        unfold sX12_write
        rw [un_l]
        dsimp only [xlet]
        rw [tW_kp, if_pos rfl, inData_m (by omega) (by omega), xbd_some, bI_dec_f hD, if_pos rfl, if_neg (show ¬ lN (un a) < (61440 : Int64) from fun q => by have := (pk_lLT (a := un a) (b := 61440) (by omega) (by decide)).mp q; omega), nI_l (by omega), lN_add, if_neg (show ¬ (135168 : Int64) < lN (un a + k) from fun q => by have := (pk_lLT (a := 135168) (by decide) (by omega)).mp q; omega), tW_wkp]
    · refine ⟨6, w, m, frD_r w m, hd, Or.inr (Or.inr (Or.inr rfl)), ?_, ?_⟩
      · intro rg fl wh fo
        unfold sX8_store
        rw [nI_l (by omega), show (65536 : Int32) = nI 65536 from rfl, show (131072 : Int32) = nI 131072 from rfl, show (61440 : Int32) = nI 61440 from rfl, show (135168 : Int32) = nI 135168 from rfl, within_v (by omega) (by decide) (by decide), xbd_some, bI_dec_f hD, if_pos rfl, within_v (by omega) (by decide) (by decide), xbd_some, bI_dec_f hN, if_pos rfl]
        unfold sX8_store_j37 sX8_fail
        rw [sW_tr, if_pos rfl, xbd_some, sW_wtr]
        unfold sX8_store_j40
        rw [sW_tr, if_neg (by decide)]
      · intro rg c p z s o ef
        unfold sX12_write
        rw [un_l]
        dsimp only [xlet]
        rw [tW_kp, if_pos rfl, inData_m (by omega) (by omega), xbd_some, bI_dec_f hD, if_pos rfl, nI_l (by omega), lN_add, tW_wkp, tW_wkp]
        by_cases h1 : un a < 61440
        · rw [if_pos (show lN (un a) < (61440 : Int64) from (pk_lLT (a := un a) (b := 61440) (by omega) (by decide)).mpr h1)]
        · rw [if_neg (show ¬ lN (un a) < (61440 : Int64) from fun q => h1 ((pk_lLT (a := un a) (b := 61440) (by omega) (by decide)).mp q)), if_pos (show (135168 : Int64) < lN (un a + k) from (pk_lLT (a := 135168) (by decide) (by omega)).mpr (by omega))]
