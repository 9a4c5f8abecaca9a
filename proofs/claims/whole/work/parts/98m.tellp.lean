/-! tell and text in both worlds -/
section TP
variable {B : Nat → Int32} {N : Nat} {w m : xW}
theorem KR.tell {T : List Nat} (h : KR B N w m) (hT : okL 80 T) : KR B N (tput (xwi w 41 0 0) T) (mput (xwi m 0 16 0) T) := by
  have hl := hT.1
  have e0 : (xwi w 41 0 0).1 41 0 = nI 0 := xwi_s
  have g0 : (xwi m 0 16 0).1 0 16 = nI 0 := xwi_s
  obtain ⟨t1, t2, t3, t4, t5, t6⟩ := tput_w T (xwi w 41 0 0) 0 e0 (by omega)
  obtain ⟨q1, q2, q3, q5, q6⟩ := mput_m T (xwi m 0 16 0) 0 g0 (by omega)
  have hc : ∀ k i, k ≠ 40 → k ≠ 41 → (tput (xwi w 41 0 0) T).1 k i = w.1 k i := fun k i a b => (t2 k i a b).trans (xwi_o (fun q => b q.1))
  have hm : ∀ k i, k ≠ 8 → ¬ (k = 0 ∧ i = 16) → (mput (xwi m 0 16 0) T).1 k i = m.1 k i := fun k i a b => (q2 k i a b).trans (xwi_o b)
  obtain ⟨h1, h2, h3, h4, h5, ⟨u1, u2, u3, u4⟩, h7, h8, h9⟩ := h
  refine ⟨h1.fr (hc _ _ (by decide) (by decide)) (fun i => hc _ _ (by decide) (by decide)), h2.fr (hm _ _ (by decide) (by decide)) (fun i => hm _ _ (by decide) (by omega)), h3.fr (fun i => hc _ _ (by decide) (by decide)) (fun i => hm _ _ (by decide) (by omega)),
    h4.fr (fun i => hc _ _ (by decide) (by decide)) (fun i => hc _ _ (by decide) (by decide)) (fun i => hc _ _ (by decide) (by decide)) (fun i => hm _ _ (by decide) (by omega)) (fun i => hm _ _ (by decide) (by omega)) (fun i => hm _ _ (by decide) (by omega)),
    h5.fr (hc _ _ (by decide) (by decide)) (hm _ _ (by decide) (by decide)) (hm _ _ (by decide) (by decide)) (hm _ _ (by decide) (by decide)) (hm _ _ (by decide) (by decide)) (hm _ _ (by decide) (by decide)), ⟨?_, ?_, ?_, ?_⟩,
    h7.fr (fun i => hc _ _ (by decide) (by decide)) (fun i => hc _ _ (by decide) (by decide)) (fun i => hc _ _ (by decide) (by decide)) (hm _ _ (by decide) (by decide)) (hm _ _ (by decide) (by decide)) (hm _ _ (by decide) (by decide)) (hm _ _ (by decide) (by decide)) (hm _ _ (by decide) (by decide)) (fun i => hm _ _ (by decide) (by omega)) (fun i => hm _ _ (by decide) (by omega)),
    h8.fr (fun i => hc _ _ (by decide) (by decide)) (fun i => hc _ _ (by decide) (by decide)) (hm _ _ (by decide) (by decide)) (hm _ _ (by decide) (by decide)) (hm _ _ (by decide) (by decide)) (fun i => hm _ _ (by decide) (by omega)),
    T.length, hl, by rw [t3, Nat.zero_add], by rw [q3, Nat.zero_add], fun j hj => ?_⟩
  · rw [hc _ _ (by decide) (by decide), hm _ _ (by decide) (by decide), u1]
  · rw [hc _ _ (by decide) (by decide), hm _ _ (by decide) (by decide), u2]
  · rw [hc _ _ (by decide) (by decide), hm _ _ (by decide) (by decide), u3]
  · rw [t1, q1]; exact u4
  · have a1 := t6 j hj
    have a2 := q6 j hj
    rw [Nat.zero_add] at a1 a2
    refine ⟨a1.trans a2.symm, T.getD j 0, hT.2 _ ?_, a1⟩
    rw [List.getD_eq_getElem?_getD, List.getElem?_eq_getElem hj]
    exact List.getElem_mem hj
theorem tell_p (h : KR B N w m) (p : Int32) : AP (sX11_tell p w) (sX12_tell p m) := by
  have hK := h.thr 0
  have hN := h.1.2.1
  unfold sX11_tell sX12_tell
  rw [h.2.1.1]
  by_cases hp : 0 ≤ p.toInt ∧ p.toInt < N
  · obtain ⟨k, e1, rfl, e3⟩ := in_n (p := p) (n := N) (by omega) (by omega)
    rw [isIn_t _ (by rw [tI0, cnt_t (by omega)]; omega), xbd_some, if_neg n10]
    obtain ⟨c0, c1, c2, c3, c4, c5, c6, c7, c8, c9, c10, c11, c12, c13, c14, a0, a1, a2, a3, a4, a5, a6, a7, a8, a9, a10, a11, a12, a13, l3, a14, len, ok, hc, hm, hd⟩ := decode_pair h.1 hK.2.1 e1
    rw [hc, xbd_some, hm, xbd_some]
    rcases hd with ⟨d1, d2⟩ | ⟨d1, L, hL0, hL15, -, d2, -, -, d8⟩
    · rw [d1, d2, if_pos rfl, if_pos rfl]
      exact ⟨_, _, _, B, N, rfl, rfl, hK.dec _ _ _⟩
    · have hk := hK.dec [c0, c1, c2, c3, c4, c5, c6, c7, c8, c9, c10, c11, c12, c13, c14] l3 [a0, a1, a2, a3, a4, a5, a6, a7, a8, a9, a10, a11, a12, a13, a14, ok]
      have hI : IR L (dW [c0, c1, c2, c3, c4, c5, c6, c7, c8, c9, c10, c11, c12, c13, c14] l3 w) (mW [a0, a1, a2, a3, a4, a5, a6, a7, a8, a9, a10, a11, a12, a13, a14, ok] (xwi m 0 0 0)) := by
        unfold IR
        exact d8
      revert hk hI
      generalize dW [c0, c1, c2, c3, c4, c5, c6, c7, c8, c9, c10, c11, c12, c13, c14] l3 w = W
      generalize mW [a0, a1, a2, a3, a4, a5, a6, a7, a8, a9, a10, a11, a12, a13, a14, ok] (xwi m 0 0 0) = M
      intro hk hI
      obtain ⟨T, hT, f1, f2⟩ := tell_e hI
      rw [d1, d2, if_neg n10, if_neg (fun q => by have := (nI_eq (a := L) (b := 0) (by omega) (by omega)).mp q; omega), f1, f2]
      exact ⟨_, _, _, B, N, rfl, rfl, hk.tell (okL_le hT (by decide))⟩
  · rw [isIn_f _ (by rw [tI0, cnt_t (by omega)]; omega), xbd_some, if_pos rfl, decode_out h.1.1, xbd_some, if_pos rfl]
    · have := hK.dec [50, 0, 0, 0, 4, 4, 0, 0, 0, -1, -1, 0, 0, 0, 0] [w.1 3 2, w.1 3 3, w.1 3 4, w.1 3 5, w.1 3 6, w.1 3 7] [(xwi m 0 0 0).1 0 17, (xwi m 0 0 0).1 0 18, (xwi m 0 0 0).1 0 19, (xwi m 0 0 0).1 0 20, (xwi m 0 0 0).1 0 21, (xwi m 0 0 0).1 0 22, (xwi m 0 0 0).1 0 23, (xwi m 0 0 0).1 0 24, (xwi m 0 0 0).1 0 25, (xwi m 0 0 0).1 0 26, (xwi m 0 0 0).1 0 27, (xwi m 0 0 0).1 0 28, (xwi m 0 0 0).1 0 29, (xwi m 0 0 0).1 0 30, (xwi m 0 0 0).1 0 31, (xwi m 0 0 0).1 0 32]
      rw [mW_self] at this
      exact ⟨_, _, _, B, N, rfl, rfl, this⟩
    · rw [ltI, ltI, ti0, nI_toInt (by omega)]
      omega
theorem text_l {n : Nat} {p : Int32} (hn : n ≤ 80) (h1 : w.1 41 0 = nI n) (h2 : m.1 0 16 = nI n) (h3 : ∀ j, j < n → w.1 40 j = m.1 8 j) : ∀ (k F : Nat) (a2 : Int64), k ≤ 8 → k < F → ∃ v, sX10_eightFrom_l6 F p a2 (nI k - 1) w = some (v, w) ∧ sX12_text_l12 F p a2 (lN k - 1) m = some (v, m) := by
  intro k
  induction k with
  | zero =>
    intro F a2 _ hF
    obtain ⟨F, rfl⟩ : ∃ F', F = F' + 1 := ⟨F - 1, by omega⟩
    rw [sX10_eightFrom_l6, sX12_text_l12]
    exact ⟨a2, by rw [if_pos (by decide)], by rw [if_pos (by decide)]⟩
  | succ k ih =>
    intro F a2 hk hF
    obtain ⟨F, rfl⟩ : ∃ F', F = F' + 1 := ⟨F - 1, by omega⟩
    have e1 : nI (k + 1) - 1 = nI k := pk_sub (a := k + 1) (b := 1) (by omega)
    have e2 : lN (k + 1) - 1 = lN k := Int64.toInt_inj.mp (by
      rw [lN_ti (by omega)]
      have : (lN (k + 1) - 1).toInt = ((k : Int) + 1 - 1) := by
        rw [Int64.toInt_sub, lN_ti (by omega), show (1 : Int64).toInt = 1 from by decide]
        exact Int.bmod_eq_of_le (by omega) (by omega)
      rw [this]; omega)
    have e3 : (nI k).toInt64 = lN k := Int64.toInt_inj.mp (by rw [lN_ti (by omega), Int32.toInt_toInt64, nI_toInt (by omega)])
    have e4 : nI k + (-1 : Int32) = nI k - 1 := by
      rw [Int32.sub_eq_add_neg]
    have e5 : (w.1 41 0).toInt64 = lN n := by rw [h1]; exact Int64.toInt_inj.mp (by rw [lN_ti (by omega), Int32.toInt_toInt64, nI_toInt (by omega)])
    have e6 : (m.1 0 16).toInt64 = lN n := by rw [h2, ← h1]; exact e5
    rw [sX10_eightFrom_l6, sX12_text_l12, e1, e2, if_neg (nI_pos (by omega)), if_neg (show ¬ lN k < (0 : Int64) from fun q => by
      have := (lN_ltI (a := k) (b := 0) (by omega) (by decide)).mp q
      omega), e3, e5, e6]
    have out : ∃ v, sX10_eightFrom_j70 (sX10_eightFrom_l6 F) p (nI k) 0 (xlshl a2 8) w = some (v, w) ∧ sX12_text_j60 (sX12_text_l12 F) p (lN k) 0 (xlshl a2 8) m = some (v, m) := by
      unfold sX10_eightFrom_j70 sX12_text_j60
      rw [e4]
      exact ih F _ (by omega) (by omega)
    by_cases c1 : p.toInt64 + lN k < 0
    · rw [if_pos c1, if_pos c1]
      unfold sX10_eightFrom_j44 sX10_eightFrom_j45 sX12_text_j59
      rw [if_pos rfl]
      exact out
    · rw [if_neg c1, if_neg c1]
      by_cases c2 : p.toInt64 + lN k < lN n
      · rw [if_pos c2, if_pos c2]
        obtain ⟨x, hx, ex⟩ : ∃ x, x < n ∧ p.toInt64 + lN k = lN x := by
          rw [Int64.lt_iff_toInt_lt] at c1 c2
          rw [show (0 : Int64).toInt = 0 from by decide] at c1
          rw [lN_ti (by omega)] at c2
          refine ⟨(p.toInt64 + lN k).toInt.toNat, by omega, ?_⟩
          exact lN_of (by omega) (by omega)
        unfold sX10_eightFrom_j45
        rw [if_neg n10, ex, lN_i, h1, nI_clamp (by omega), if_pos (show xin (nI x) n from ⟨nI_pos (by omega), by rw [nI_clamp (by omega)]; exact hx⟩), if_pos (show xin (nI x) 80 from ⟨nI_pos (by omega), by rw [nI_clamp (by omega)]; omega⟩), nI_clamp (by omega), h3 x hx]
        unfold sX10_eightFrom_j70 sX12_text_j60
        rw [e4]
        exact ih F _ (by omega) (by omega)
      · rw [if_neg c2, if_neg c2]
        unfold sX10_eightFrom_j44 sX10_eightFrom_j45 sX12_text_j59
        rw [if_pos rfl]
        exact out
theorem text_p (h : KR B N w m) (p : Int32) : AP (sX11_text p w) (sX12_text p m) := by
  have hK := h.thr 0
  obtain ⟨n, n1, n2, n3, n4⟩ := hK.2.2.2.2.2.2.2.2
  obtain ⟨v, v1, v2⟩ := text_l (p := p) n1 n2 n3 (fun j hj => (n4 j hj).1) 8 70000 0 (by decide) (by decide)
  refine ⟨v, w, xwi m 0 0 0, B, N, ?_, ?_, hK⟩
  · unfold sX11_text sX10_eightFrom
    rw [show (7 : Int32) = nI 8 - 1 from rfl, v1]
    rfl
  · unfold sX12_text
    exact v2
end TP
