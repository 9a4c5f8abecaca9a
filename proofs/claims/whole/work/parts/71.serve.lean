/-! the services -/
def svC (k _ : Nat) : Bool := k == 7 || k == 17 || k == 18
def svM (k i : Nat) : Bool := k == 2 || k == 4 || (k == 0 && (i == 5 || i == 6 || i == 8 || i == 42 || i == 43 || i == 33))
def SV (W M : xW) (rc : Option (Int32 × xW)) (rm : Int32 → Option (Unit × xW)) (st7 : Bool) : Prop :=
  ∃ (ans : Int32) (W' M' : xW), rc = some (ans, W') ∧ (∀ v, rm v = sX12_serve_j463 v ans M') ∧ frC svC W W' ∧ frC svM M M' ∧ W'.2 = W.2 ∧ M'.2 = M.2 ∧ dataP W' M' ∧ KH W' M' ∧ M'.1 0 33 = (if st7 then 7 else M.1 0 33)
theorem inD_c (a : Int32) {n : Nat} (hn : n < 2 ^ 33) (W : xW) : sX8_inData a (lN n) W = some (bI (decide (65536 ≤ un a ∧ un a + n ≤ 131072)), W) := by
  unfold sX8_inData
  rw [show (65536 : Int32) = nI 65536 from rfl, show (131072 : Int32) = nI 131072 from rfl, within_v hn (by decide) (by decide), xbd_some, if_pos (bI_xz _)]
theorem dataAt_c {s : Nat} (hs : s < 65536) (W : xW) : sX8_dataAt (nI (65536 + s)) W = some (W.1 17 s &&& 255, W) := by
  have e : nI (65536 + s) &&& 65535 = nI s := by
    rw [pk_andN (by omega) 16 (by decide)]
    congr 1
    omega
  unfold sX8_dataAt
  rw [e, if_pos (xin_n hs (by decide)), nI_clamp (by omega)]
theorem setData_c {s : Nat} (hs : s < 65536) (v : Int32) (W : xW) : sX8_setData (nI (65536 + s)) v W = some ((), xwi W 17 s v.toInt8.toInt32.toInt8.toInt32) := by
  have e : nI (65536 + s) &&& 65535 = nI s := by
    rw [pk_andN (by omega) 16 (by decide)]
    congr 1
    omega
  unfold sX8_setData
  rw [e, if_pos (xin_n hs (by decide)), nI_clamp (by omega)]
theorem xmin_n {a b : Nat} (ha : a < 2 ^ 31) (hb : b < 2 ^ 31) : xmin (nI a) (nI b) = nI (min a b) := by
  unfold xmin
  by_cases h : b < a
  · rw [if_pos ((nI_ltI2 hb ha).mpr h)]; congr 1; omega
  · rw [if_neg (fun q => h ((nI_ltI2 hb ha).mp q))]; congr 1; omega
theorem nI_lq {a b : Nat} (ha : a < 2 ^ 31) (hb : b < 2 ^ 31) (h : a < b) : nI a < nI b := (nI_ltI2 ha hb).mpr h
theorem lN_nlt {a b : Nat} (ha : a < 2 ^ 63) (hb : b < 2 ^ 63) (h : a < b) : lN a < lN b := (pk_lLT ha hb).mpr h
theorem lN_nge {a b : Nat} (ha : a < 2 ^ 63) (hb : b < 2 ^ 63) (h : b ≤ a) : ¬ lN a < lN b := fun q => by have := (pk_lLT ha hb).mp q; omega
section WR
/-- WRITE, byte by byte -/
theorem write_l {s n r : Nat} (hs : s + n ≤ 65536) (hr : r ≤ 1024) : ∀ (j i : Nat) (W M : xW), i + j = min n (1024 - r) → dataP W M → W.1 7 4 = nI (r + i) → M.1 0 8 = nI (r + i) → (∀ t, t < r + i → W.1 18 t &&& 255 = M.1 4 t) →
    ∃ W' M' : xW, (∀ fuel, j < fuel → sX3_writeOut_l16 fuel (nI (65536 + s)) (nI (min n (1024 - r))) (nI i) W = some (nI (min n (1024 - r)), W')) ∧
      (∀ fuel v, j < fuel → sX12_serve_l157 fuel v (lN (65536 + s)) (lN n) 1 (nI i) M = sX12_serve_j463 v (nI (min n (1024 - r))) M') ∧
      (∀ k t, ¬ k = 18 → ¬ (k = 7 ∧ t = 4) → W'.1 k t = W.1 k t) ∧ (∀ k t, ¬ k = 4 → ¬ (k = 0 ∧ t = 8) → M'.1 k t = M.1 k t) ∧ W'.2 = W.2 ∧ M'.2 = M.2 ∧ W'.1 7 4 = nI (r + min n (1024 - r)) ∧ M'.1 0 8 = nI (r + min n (1024 - r)) ∧ (∀ t, t < r + min n (1024 - r) → W'.1 18 t &&& 255 = M'.1 4 t) := by
  intro j
  induction j with
  | zero =>
    intro i W M hij hd hw hm ho
    have e : i = min n (1024 - r) := by omega
    subst e
    refine ⟨W, M, ?_, ?_, fun _ _ _ _ => rfl, fun _ _ _ _ => rfl, rfl, rfl, hw, hm, ho⟩
    · intro fuel hf
      cases fuel with
      | zero => omega
      | succ f => rw [sX3_writeOut_l16, if_neg (nI_nltI (by omega) (by omega) (Nat.le_refl _))]
    · intro fuel v hf
      cases fuel with
      | zero => omega
      | succ f =>
        rw [sX12_serve_l157, if_neg (by decide), nI_l (by omega)]
        by_cases q : min n (1024 - r) < n
        · rw [if_pos (lN_nlt (by omega) (by omega) q), hm, if_neg (show ¬ nI (r + min n (1024 - r)) < (1024 : Int32) from nI_nltI (b := 1024) (by omega) (by decide) (by omega))]
        · rw [if_neg (lN_nge (by omega) (by omega) (by omega))]
  | succ j ih =>
    intro i W M hij hd hw hm ho
    obtain ⟨W', M', hC, hM, f1, f2, f3, f4, f5, f6, f7⟩ := ih (i + 1) (xwi (xwi W 18 (r + i) (W.1 17 (s + i) &&& 255).toInt8.toInt32.toInt8.toInt32) 7 4 (nI (r + i) + 1)) (xwi (xwi M 4 (r + i) (M.1 2 (s + i))) 0 8 (nI (r + i) + 1)) (by omega) (hd.fr (fun _ => rfl) (fun _ => rfl)) (by rw [xwi_s, nI_1]; rfl) (by rw [xwi_s, nI_1]; rfl) (fun t ht => by
      rw [xwi_o (show ¬ (18 = 7 ∧ t = 4) from by omega), xwi_o (show ¬ (4 = 0 ∧ t = 8) from by omega)]
      by_cases q : t = r + i
      · rw [q, xwi_s, xwi_s, i8_255, i8_255, and_idem (by decide)]
        exact hd _ (by omega)
      · rw [xwi_o (fun z => q z.2), xwi_o (fun z => q z.2)]
        exact ho t (by omega))
    refine ⟨W', M', ?_, ?_, fun k t h1 h2 => ?_, fun k t h1 h2 => ?_, f3, f4, f5, f6, f7⟩
    · intro fuel hf
      cases fuel with
      | zero => omega
      | succ f =>
        rw [sX3_writeOut_l16, if_pos (nI_lq (by omega) (by omega) (by omega)), hw, if_pos (show nI (r + i) < (1024 : Int32) from nI_lq (b := 1024) (by omega) (by decide) (by omega)), nI_add, Nat.add_assoc 65536 s i, dataAt_c (by omega), xbd_some, if_pos (xin_n (by omega) (by decide)), nI_clamp (by omega), nI_1]
        have e : (xwi W 18 (r + i) (W.1 17 (s + i) &&& 255).toInt8.toInt32.toInt8.toInt32).1 7 4 = nI (r + i) := hw
        have := hC f (by omega)
        rw [hw]
        exact this
    · intro fuel v hf
      cases fuel with
      | zero => omega
      | succ f =>
        have ei : ((lN (65536 + s)).toInt32 - 65536) + nI i = nI (s + i) := by
          rw [lN_i, show nI (65536 + s) - 65536 = nI (65536 + s - 65536) from pk_sub (a := 65536 + s) (b := 65536) (by omega), Nat.add_sub_cancel_left, nI_add]
        rw [sX12_serve_l157, if_neg (by decide), nI_l (by omega), if_pos (lN_nlt (by omega) (by omega) (by omega)), hm, if_pos (show nI (r + i) < (1024 : Int32) from nI_lq (b := 1024) (by omega) (by decide) (by omega)), ei, if_pos (xin_n (by omega) (by decide)), if_pos (xin_n (by omega) (by decide)), nI_clamp (by omega), nI_clamp (by omega), nI_1]
        have := hM f v (by omega)
        exact this
    · rw [f1 k t h1 h2, xwi_o h2, xwi_o (fun q => h1 q.1)]
    · rw [f2 k t h1 h2, xwi_o h2, xwi_o (fun q => h1 q.1)]
/-- READ, byte by byte -/
theorem read_l {s n h t : Nat} (hs : s + n ≤ 65536) (hh : h < 256) (ht : t ≤ 256) : ∀ (j i : Nat) (W M : xW), i + j = min n t → dataP W M → W.1 7 3 = nI ((h + i) % 256) → M.1 0 5 = nI ((h + i) % 256) → W.1 7 5 = nI (t - i) → M.1 0 6 = nI (t - i) → (∀ q, q < 256 → W.1 19 q &&& 255 = M.1 3 q) →
    ∃ W' M' : xW, (∀ fuel, j < fuel → sX3_readIn_l12 fuel (nI (65536 + s)) (nI (min n t)) (nI i) W = some (nI (min n t), W')) ∧
      (∀ fuel v, j < fuel → sX12_serve_l232 fuel v (lN (65536 + s)) (lN n) 1 (nI i) M = sX12_serve_j463 v (nI (min n t)) M') ∧
      (∀ k q, ¬ k = 17 → ¬ (k = 7 ∧ (q = 3 ∨ q = 5)) → W'.1 k q = W.1 k q) ∧ (∀ k q, ¬ k = 2 → ¬ (k = 0 ∧ (q = 5 ∨ q = 6)) → M'.1 k q = M.1 k q) ∧ W'.2 = W.2 ∧ M'.2 = M.2 ∧ dataP W' M' ∧ W'.1 7 3 = nI ((h + min n t) % 256) ∧ M'.1 0 5 = nI ((h + min n t) % 256) ∧ W'.1 7 5 = nI (t - min n t) ∧ M'.1 0 6 = nI (t - min n t) := by
  intro j
  induction j with
  | zero =>
    intro i W M hij hd hw hm hw2 hm2 hi
    have e : i = min n t := by omega
    subst e
    refine ⟨W, M, ?_, ?_, fun _ _ _ _ => rfl, fun _ _ _ _ => rfl, rfl, rfl, hd, hw, hm, hw2, hm2⟩
    · intro fuel hf
      cases fuel with
      | zero => omega
      | succ f => rw [sX3_readIn_l12, if_neg (nI_nltI (by omega) (by omega) (Nat.le_refl _))]
    · intro fuel v hf
      cases fuel with
      | zero => omega
      | succ f =>
        rw [sX12_serve_l232, if_neg (by decide), nI_l (by omega)]
        by_cases q : min n t < n
        · rw [if_pos (lN_nlt (by omega) (by omega) q), hm2, if_neg (show ¬ (0 : Int32) < nI (t - min n t) from nI_nltI (a := 0) (by decide) (by omega) (by omega))]
        · rw [if_neg (lN_nge (by omega) (by omega) (by omega))]
  | succ j ih =>
    intro i W M hij hd hw hm hw2 hm2 hi
    have hlt : (h + i) % 256 < 256 := Nat.mod_lt _ (by decide)
    have e8 : nI ((h + i) % 256) &&& 255 = nI ((h + i) % 256) := by
      rw [pk_andN (by omega) 8 (by decide)]
      congr 1
      omega
    have en : (nI ((h + i) % 256) + 1) &&& 255 = nI ((h + (i + 1)) % 256) := by
      rw [nI_1, pk_andN (by omega) 8 (by decide)]
      congr 1
      omega
    have em : (nI ((h + i) % 256) + 1) - (nI ((h + i) % 256) + 1) / 256 * 256 = nI ((h + (i + 1)) % 256) := by
      rw [nI_1, show (256 : Int32) = nI 256 from rfl, pk_rem (by omega) (by decide) (by decide)]
      congr 1
      omega
    have et : nI (t - i) - 1 = nI (t - (i + 1)) := by
      rw [show t - i = (t - (i + 1)) + 1 from by omega, nI_pred]
    obtain ⟨W', M', hC, hM, f1, f2, f3, f4, f5, f6⟩ := ih (i + 1) (xwi (xwi (xwi W 17 (s + i) (W.1 19 ((h + i) % 256) &&& 255).toInt8.toInt32.toInt8.toInt32) 7 3 (nI ((h + (i + 1)) % 256))) 7 5 (nI (t - (i + 1)))) (xwi (xwi (xwi M 2 (s + i) (M.1 3 ((h + i) % 256))) 0 5 (nI ((h + (i + 1)) % 256))) 0 6 (nI (t - (i + 1)))) (by omega) (fun q hq => by
      rw [xwi_o (show ¬ (17 = 7 ∧ q = 5) from by omega), xwi_o (show ¬ (17 = 7 ∧ q = 3) from by omega), xwi_o (show ¬ (2 = 0 ∧ q = 6) from by omega), xwi_o (show ¬ (2 = 0 ∧ q = 5) from by omega)]
      by_cases z : q = s + i
      · rw [z, xwi_s, xwi_s, i8_255, i8_255, and_idem (by decide)]
        exact hi _ hlt
      · rw [xwi_o (fun y => z y.2), xwi_o (fun y => z y.2)]
        exact hd q hq) rfl rfl rfl rfl (fun q hq => hi q hq)
    refine ⟨W', M', ?_, ?_, fun k q h1 h2 => ?_, fun k q h1 h2 => ?_, f3, f4, f5, f6⟩
    · intro fuel hf
      cases fuel with
      | zero => omega
      | succ f =>
        rw [sX3_readIn_l12, if_pos (nI_lq (by omega) (by omega) (by omega)), hw, e8, if_pos (xin_n hlt (by decide)), nI_clamp (by omega), nI_add, Nat.add_assoc 65536 s i, setData_c (by omega), xbd_some, nI_1]
        have := hC f (by omega)
        rw [show (xwi W 17 (s + i) (W.1 19 ((h + i) % 256) &&& 255).toInt8.toInt32.toInt8.toInt32).1 7 3 = W.1 7 3 from rfl, show (xwi W 17 (s + i) (W.1 19 ((h + i) % 256) &&& 255).toInt8.toInt32.toInt8.toInt32).1 7 5 = W.1 7 5 from rfl, hw, hw2, en, et]
        exact this
    · intro fuel v hf
      cases fuel with
      | zero => omega
      | succ f =>
        have ei : ((lN (65536 + s)).toInt32 - 65536) + nI i = nI (s + i) := by
          rw [lN_i, show nI (65536 + s) - 65536 = nI (65536 + s - 65536) from pk_sub (a := 65536 + s) (b := 65536) (by omega), Nat.add_sub_cancel_left, nI_add]
        rw [sX12_serve_l232, if_neg (by decide), nI_l (by omega), if_pos (lN_nlt (by omega) (by omega) (by omega)), hm2, if_pos (show (0 : Int32) < nI (t - i) from nI_lq (a := 0) (by decide) (by omega) (by omega)), hm, if_pos (xin_n hlt (by decide)), ei, if_pos (xin_n (by omega) (by decide)), if_pos (by decide), nI_clamp (by omega), nI_clamp (by omega), em, et, nI_1]
        exact hM f v (by omega)
    · rw [f1 k q h1 h2, xwi_o (fun z => h2 ⟨z.1, Or.inr z.2⟩), xwi_o (fun z => h2 ⟨z.1, Or.inl z.2⟩), xwi_o (fun z => h1 z.1)]
    · rw [f2 k q h1 h2, xwi_o (fun z => h2 ⟨z.1, Or.inr z.2⟩), xwi_o (fun z => h2 ⟨z.1, Or.inl z.2⟩), xwi_o (fun z => h1 z.1)]
/-- the sum -/
theorem sum_l {s n : Nat} (hs : s + n ≤ 65536) {W M : xW} (hd : dataP W M) : ∀ (j i : Nat) (x : Int32), i + j = n → ∃ y : Int32,
    (∀ fuel, j < fuel → sX3_sum_l5 fuel (nI (65536 + s)) (nI n) x (nI i) W = some (y, W)) ∧ (∀ fuel v, j < fuel → sX12_serve_l405 fuel v (lN (65536 + s)) (lN n) 1 x (lN i) M = sX12_serve_j463 v y M) := by
  intro j
  induction j with
  | zero =>
    intro i x hij
    refine ⟨x, ?_, ?_⟩
    · intro fuel hf
      cases fuel with
      | zero => omega
      | succ f => rw [sX3_sum_l5, if_neg (nI_nltI (by omega) (by omega) (by omega))]
    · intro fuel v hf
      cases fuel with
      | zero => omega
      | succ f =>
        rw [sX12_serve_l405, if_neg (by decide), if_neg (lN_nge (by omega) (by omega) (by omega))]
        rfl
  | succ j ih =>
    intro i x hij
    obtain ⟨y, hC, hM⟩ := ih (i + 1) (31 * x + (W.1 17 (s + i) &&& 255)) (by omega)
    refine ⟨y, ?_, ?_⟩
    · intro fuel hf
      cases fuel with
      | zero => omega
      | succ f =>
        rw [sX3_sum_l5, if_pos (nI_lq (by omega) (by omega) (by omega)), nI_add, Nat.add_assoc 65536 s i, dataAt_c (by omega), xbd_some, nI_1]
        exact hC f (by omega)
    · intro fuel v hf
      cases fuel with
      | zero => omega
      | succ f =>
        have ei : (lN (65536 + s) + lN i).toInt32 - 65536 = nI (s + i) := by
          rw [lN_add, lN_i, show nI (65536 + s + i) - 65536 = nI (65536 + s + i - 65536) from pk_sub (a := 65536 + s + i) (b := 65536) (by omega), show 65536 + s + i - 65536 = s + i from by omega]
        rw [sX12_serve_l405, if_neg (by decide), if_pos (lN_nlt (by omega) (by omega) (by omega)), ei, if_pos (xin_n (by omega) (by decide)), nI_clamp (by omega)]
        dsimp only [xlet]
        rw [← hd _ (by omega), show lN i + 1 = lN (i + 1) from lN_add i 1]
        exact hM f v (by omega)
end WR
