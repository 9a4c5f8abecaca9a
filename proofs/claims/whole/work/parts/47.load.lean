/-! reading from memory -/
def rdv (f : Nat → Int32) (s : Nat) : Nat → Int32 → Int32
  | 0, v => v
  | j + 1, v => rdv f s j ((v <<< ((8 : Int32) &&& 31)) ||| f (s + j))
theorem nI_m1 (k : Nat) : nI k + (-1) = nI k - 1 := by
  cases k with
  | zero => decide
  | succ k => rw [pk_m1, nI_pred]
theorem nI_predlt {s : Nat} (h : s < 2 ^ 31) : nI s - 1 < nI s := by
  cases s with
  | zero => decide
  | succ k => rw [nI_pred]; exact (nI_ltI2 (by omega) h).mpr (by omega)
theorem nI_nltI {a b : Nat} (ha : a < 2 ^ 31) (hb : b < 2 ^ 31) (h : b ≤ a) : ¬ nI a < nI b := fun q => by
  have := (nI_ltI2 ha hb).mp q
  omega
theorem loadD_l {s : Nat} {W : xW} : ∀ (j fuel : Nat) (v : Int32), s + j ≤ 65536 → j < fuel → sX8_load_l92_1 fuel (nI s) v (nI (s + j) - 1) W = some (rdv (fun i => W.1 17 i &&& 255) s j v, W) := by
  intro j
  induction j with
  | zero =>
    intro fuel v h1 h2
    cases fuel with
    | zero => omega
    | succ k => rw [show nI (s + 0) - 1 = nI s - 1 from rfl, sX8_load_l92_1, if_pos (nI_predlt (by omega))]; rfl
  | succ j ih =>
    intro fuel v h1 h2
    cases fuel with
    | zero => omega
    | succ k =>
      have e : nI (s + (j + 1)) - 1 = nI (s + j) := nI_pred (s + j)
      rw [e, sX8_load_l92_1, if_neg (nI_nltI (by omega) (by omega) (by omega)), if_neg (nI_pos (by omega)), if_pos (show nI (s + j) < (65536 : Int32) from (nI_ltI2 (a := s + j) (b := 65536) (by omega) (by decide)).mpr (by omega)), if_pos (xin_n (by omega) (by decide)), nI_clamp (by omega), nI_m1]
      show sX8_load_l92_1 k (nI s) _ (nI (s + j) - 1) W = _
      rw [ih k _ (by omega) (by omega)]
      rfl
theorem loadI_l {s : Nat} {W : xW} : ∀ (j fuel : Nat) (v : Int32), s + j ≤ 2048 → j < fuel → sX8_load_l92 fuel (nI s) v (nI (s + j) - 1) W = some (rdv (fun i => W.1 10 i &&& 255) s j v, W) := by
  intro j
  induction j with
  | zero =>
    intro fuel v h1 h2
    cases fuel with
    | zero => omega
    | succ k => rw [show nI (s + 0) - 1 = nI s - 1 from rfl, sX8_load_l92, if_pos (nI_predlt (by omega))]; rfl
  | succ j ih =>
    intro fuel v h1 h2
    cases fuel with
    | zero => omega
    | succ k =>
      have e : nI (s + (j + 1)) - 1 = nI (s + j) := nI_pred (s + j)
      rw [e, sX8_load_l92, if_neg (nI_nltI (by omega) (by omega) (by omega)), if_neg (nI_pos (by omega)), if_pos (show nI (s + j) < (2048 : Int32) from (nI_ltI2 (a := s + j) (b := 2048) (by omega) (by decide)).mpr (by omega)), if_pos (xin_n (by omega) (by decide)), nI_clamp (by omega), nI_m1]
      show sX8_load_l92 k (nI s) _ (nI (s + j) - 1) W = _
      rw [ih k _ (by omega) (by omega)]
      rfl
theorem byteAt_D {A : Nat} {M : xW} (h1 : 65536 ≤ A) (h2 : A < 131072) : sX12_byteAt (lN A) M = some (M.1 2 (A - 65536), M) := by
  unfold sX12_byteAt
  have e : (lN A).toInt32 - 65536 = nI (A - 65536) := by rw [lN_i]; exact pk_sub (a := A) (b := 65536) h1
  rw [if_neg (show ¬ lN A < (65536 : Int64) from fun q => by have := (lN_lt (a := A) (b := 65536) (by omega) (by decide)).mp q; omega), e, if_pos (xin_n (by omega) (by decide)), nI_clamp (by omega)]
theorem byteAt_I {A : Nat} {M : xW} (h1 : 4096 ≤ A) (h2 : A < 6144) : sX12_byteAt (lN A) M = some (M.1 1 (A - 4096), M) := by
  unfold sX12_byteAt
  have e : (lN A).toInt32 - 4096 = nI (A - 4096) := by rw [lN_i]; exact pk_sub (a := A) (b := 4096) h1
  rw [if_pos (show lN A < (65536 : Int64) from (lN_lt (a := A) (b := 65536) (by omega) (by decide)).mpr (by omega)), e, if_pos (xin_n (by omega) (by decide)), nI_clamp (by omega)]
theorem readD_l {s : Nat} {M : xW} : ∀ (j fuel : Nat) (v : Int32), s + j ≤ 65536 → j < fuel → sX12_read_l54 fuel (lN (65536 + s)) v (nI j - 1) M = some (rdv (fun i => M.1 2 i) s j v, M) := by
  intro j
  induction j with
  | zero =>
    intro fuel v h1 h2
    cases fuel with
    | zero => omega
    | succ k => rw [sX12_read_l54, if_pos (by decide)]; rfl
  | succ j ih =>
    intro fuel v h1 h2
    cases fuel with
    | zero => omega
    | succ k =>
      rw [nI_pred, sX12_read_l54, if_neg (nI_pos (by omega)), nI_l (by omega), lN_add, byteAt_D (by omega) (by omega), xbd_some, nI_m1, show 65536 + s + j - 65536 = s + j from by omega]
      exact ih k _ (by omega) (by omega)
theorem readI_l {s : Nat} {M : xW} : ∀ (j fuel : Nat) (v : Int32), s + j ≤ 2048 → j < fuel → sX12_read_l54 fuel (lN (4096 + s)) v (nI j - 1) M = some (rdv (fun i => M.1 1 i) s j v, M) := by
  intro j
  induction j with
  | zero =>
    intro fuel v h1 h2
    cases fuel with
    | zero => omega
    | succ k => rw [sX12_read_l54, if_pos (by decide)]; rfl
  | succ j ih =>
    intro fuel v h1 h2
    cases fuel with
    | zero => omega
    | succ k =>
      rw [nI_pred, sX12_read_l54, if_neg (nI_pos (by omega)), nI_l (by omega), lN_add, byteAt_I (by omega) (by omega), xbd_some, nI_m1, show 4096 + s + j - 4096 = s + j from by omega]
      exact ih k _ (by omega) (by omega)
theorem rdv_c {f g : Nat → Int32} {s : Nat} : ∀ (j : Nat) (v : Int32), (∀ i, i < j → f (s + i) = g (s + i)) → rdv f s j v = rdv g s j v := by
  intro j
  induction j with
  | zero => intro v _; rfl
  | succ j ih =>
    intro v h
    show rdv f s j _ = rdv g s j _
    rw [h j (by omega)]
    exact ih _ (fun i hi => h i (by omega))
