/-! the calls: poke, peek, give -/
section API2
variable {B : Nat → Int32} {N : Nat} {w m : xW}
theorem inData_c (a : Int32) (W : xW) : sX8_inData a 1 W = some (bI (decide (65536 ≤ un a ∧ un a + 1 ≤ 131072)), W) := by
  unfold sX8_inData
  rw [show (1 : Int64) = lN 1 from rfl, show (65536 : Int32) = nI 65536 from rfl, show (131072 : Int32) = nI 131072 from rfl, within_v (by decide) (by decide) (by decide), xbd_some]
  rw [if_pos (by cases decide (65536 ≤ un a ∧ un a + 1 ≤ 131072); exact Or.inl rfl; exact Or.inr rfl)]
/-- the number of an address, with its sign -/
theorem un_sgn (a : Int32) : a.toInt = if un a < 2147483648 then (un a : Int) else (un a : Int) - 4294967296 := by
  show a.toBitVec.toInt = _
  rw [BitVec.toInt_eq_toNat_cond]
  show (if 2 * un a < 2 ^ 32 then (un a : Int) else (un a : Int) - ((2 ^ 32 : Nat) : Int)) = _
  by_cases h : un a < 2147483648
  · rw [if_pos h, if_pos (by omega)]
  · rw [if_neg h, if_neg (by omega)]
    rfl
theorem u8_r {v : Int32} (h : 0 ≤ v.toInt ∧ v.toInt ≤ 255) : v.toInt8.toInt32.toInt8.toInt32 &&& 255 = v := by
  obtain ⟨k, k1, rfl, k3⟩ := in_n (p := v) (n := 256) h.1 (by omega)
  rw [i8_255, i8_255, pk_andN (by omega) 8 (by decide)]
  congr 1
  omega
theorem poke_p (h : KR B N w m) (a v : Int32) : AT w [(8, 1), (29, 1)] (sX11_poke a v w) (sX12_poke a v m) := by
  unfold sX11_poke sX12_poke
  have hs := un_sgn a
  have hlt := un_lt a
  have i1 : (65536 : Int64).toInt = 65536 := by decide
  have i2 : (131071 : Int64).toInt = 131071 := by decide
  have hthrow : ∀ M, sX12_poke_j27 a v M = some (0, xwi M 0 0 1) := fun M => by
    unfold sX12_poke_j27 sX12_poke_j32
    rw [if_pos p01]
  rw [inData_c, xbd_some]
  by_cases hin : 65536 ≤ un a ∧ un a + 1 ≤ 131072
  · rw [decide_eq_true hin, show bI true = 1 from rfl, if_neg n10]
    rw [if_pos (show un a < 2147483648 from by omega)] at hs
    rw [isIn_t m (by rw [i1, i2]; omega), xbd_some, if_neg n10]
    by_cases hv : 0 ≤ v.toInt ∧ v.toInt ≤ 255
    · left
      rw [if_neg (by rw [ltI, ti0]; omega), if_neg (by rw [ltI, ti255]; omega), isIn_t m (by rw [tI0, tI255]; exact hv), xbd_some, if_neg n10]
      obtain ⟨s, hs1⟩ : ∃ s, un a = 65536 + s := ⟨un a - 65536, by omega⟩
      have ea : a = nI (65536 + s) := by rw [← hs1]; exact un_of a
      subst ea
      have es : nI (65536 + s) - 65536 = nI s := by
        have := pk_sub (a := 65536 + s) (b := 65536) (by omega)
        rw [Nat.add_sub_cancel_left] at this
        exact this
      have hs2 : s < 65536 := by omega
      unfold sX12_poke_j32 sX8_setData
      rw [dataAt_c hs2, xbd_some, if_neg n00]
      have em : nI (65536 + s) &&& 65535 = nI s := by
        rw [pk_andN (by omega) 16 (by decide)]
        congr 1
        omega
      dsimp only [xlet]
      rw [es, em, if_pos (xin_n (by omega) (by decide)), if_pos (xin_n (by omega) (by decide)), if_pos (xin_n (by omega) (by decide)), xbd_some, nI_clamp (by omega)]
      refine ⟨m.1 2 s, xwi w 17 s v.toInt8.toInt32.toInt8.toInt32, xwi (xwi m 0 0 0) 2 s v, B, N, by rw [h.2.2.1 s hs2], rfl, ?_, rfl⟩
      obtain ⟨h1, h2, h3, h4, h5, h6, h7, h8, h9⟩ := h
      refine ⟨h1, h2.fr rfl (fun _ => rfl), ?_, h4.fr (fun _ => rfl) (fun _ => rfl) (fun _ => rfl) (fun _ => rfl) (fun _ => rfl) (fun _ => rfl), h5.fr rfl rfl rfl rfl rfl rfl, h6, h7.fr (fun _ => rfl) (fun _ => rfl) (fun _ => rfl) rfl rfl rfl rfl rfl (fun _ => rfl) (fun _ => rfl), h8.fr (fun _ => rfl) (fun _ => rfl) rfl rfl rfl (fun _ => rfl), h9.fr rfl (fun _ => rfl) rfl (fun _ => rfl)⟩
      intro i hi
      by_cases e : i = s
      · subst e
        rw [xwi_s, xwi_s, u8_r hv]
      · rw [xwi_o (by omega), xwi_o (by omega), xwi_o (by omega)]
        exact h3 i hi
    · right
      rw [isIn_f m (by rw [tI0, tI255]; exact hv), xbd_some, if_pos rfl, hthrow]
      refine ⟨29, 1, 0, xwi m 0 0 1, B, N, by simp, ?_, rfl, h.thr 1, rfl⟩
      by_cases h1 : v < 0
      · rw [if_pos h1]; rfl
      · rw [if_neg h1, if_pos (by rw [ltI, ti255]; rw [ltI, ti0] at h1; omega)]; rfl
  · right
    rw [decide_eq_false hin, show bI false = 0 from rfl, if_pos rfl]
    refine ⟨8, 1, 0, xwi m 0 0 1, B, N, by simp, rfl, ?_, h.thr 1, rfl⟩
    rw [isIn_f m ?_, xbd_some, if_pos rfl, hthrow]
    rw [i1, i2, hs]
    by_cases h2 : un a < 2147483648
    · rw [if_pos h2]; omega
    · rw [if_neg h2]; omega
theorem peek_p (h : KR B N w m) (a : Int32) : AP (sX11_peek a w) (sX12_peek a m) := by
  unfold sX11_peek sX12_peek
  have hs := un_sgn a
  have hlt := un_lt a
  have hN := h.1.2.1
  have hK := h.thr 0
  generalize hm0 : xwi m 0 0 0 = M at hK
  have hk1 := hK.2.1.1
  rw [inData_c, xbd_some]
  by_cases hin : 65536 ≤ un a ∧ un a + 1 ≤ 131072
  · rw [decide_eq_true hin, show bI true = 1 from rfl, if_neg n10]
    rw [if_pos (show un a < 2147483648 from by omega)] at hs
    obtain ⟨s, hs1⟩ : ∃ s, un a = 65536 + s := ⟨un a - 65536, by omega⟩
    have ea : a = nI (65536 + s) := by rw [← hs1]; exact un_of a
    subst ea
    have hs2 : s < 65536 := by omega
    have es : nI (65536 + s) - 65536 = nI s := by
      have := pk_sub (a := 65536 + s) (b := 65536) (by omega)
      rw [Nat.add_sub_cancel_left] at this
      exact this
    rw [dataAt_c hs2, xbd_some, nI_l (by omega), show (1 : Int32) = nI 1 from rfl, inData_m (by omega) (by decide), xbd_some, decide_eq_true (by omega), show bI true = nI 1 from rfl, if_neg (by decide)]
    unfold sX12_peek_j25 sX12_byteAt
    rw [nI_l (by omega), if_neg (show ¬ lN (65536 + s) < (65536 : Int64) from lN_nge (b := 65536) (by omega) (by omega) (by omega)), lN_i, es, if_pos (xin_n (by omega) (by decide)), xbd_some, nI_clamp (by omega)]
    exact ⟨_, _, _, B, N, by rw [hK.2.2.1 s hs2], rfl, hK⟩
  · rw [decide_eq_false hin, show bI false = 0 from rfl, if_pos rfl]
    have e1 : sX12_inData a.toInt64 1 M = some (0, M) := by
      unfold sX12_inData
      by_cases q : a.toInt64 < 65536
      · rw [if_pos q]
      · rw [if_neg q, if_pos]
        rw [Int64.lt_iff_toInt_lt, Int32.toInt_toInt64, show (65536 : Int64).toInt = 65536 from by decide, hs] at q
        by_cases h2 : un a < 2147483648
        · rw [if_pos h2] at q
          have ea : a = nI (un a) := un_of a
          rw [ea, nI_l (by omega), show (1 : Int32).toInt64 = lN 1 from rfl, lN_add]
          exact lN_nlt (a := 131072) (by omega) (by omega) (by omega)
        · rw [if_neg h2] at q
          omega
    rw [e1, xbd_some, if_pos rfl]
    by_cases hi : 4096 ≤ un a ∧ un a + 1 ≤ 4096 + N
    · have ea : a = nI (un a) := un_of a
      generalize un a = u at *
      subst ea
      have es : nI u - 4096 = nI (u - 4096) := pk_sub (a := u) (b := 4096) hi.1
      unfold sX4_has
      rw [es, if_neg (nI_pos (by omega)), h.1.1, if_pos (nI_lq (by omega) (by omega) (by omega)), if_pos (show nI (u - 4096) < (2048 : Int32) from nI_lq (b := 2048) (by omega) (by decide) (by omega)), xbd_some, if_neg n10, if_pos (xin_n (by omega) (by decide)), nI_clamp (by omega), h.1.2.2.1 _ (by omega)]
      rw [nI_l (by omega), show (1 : Int32) = nI 1 from rfl, inImage_m (by omega) (by decide) hk1 hN, xbd_some, decide_eq_true hi, show bI true = nI 1 from rfl, if_neg (by decide)]
      unfold sX12_peek_j25 sX12_byteAt
      rw [nI_l (by omega), if_pos (show lN u < (65536 : Int64) from lN_nlt (b := 65536) (by omega) (by omega) (by omega)), lN_i, es, if_pos (xin_n (by omega) (by decide)), xbd_some, nI_clamp (by omega), hK.2.1.2.2.1 _ (by omega)]
      exact ⟨_, _, _, B, N, rfl, rfl, hK⟩
    · have e2 : sX12_inImage a.toInt64 1 M = some (0, M) := by
        unfold sX12_inImage
        by_cases q : a.toInt64 < 4096
        · rw [if_pos q]
        · rw [if_neg q, if_pos]
          rw [Int64.lt_iff_toInt_lt, Int32.toInt_toInt64, show (4096 : Int64).toInt = 4096 from by decide, hs] at q
          by_cases h2 : un a < 2147483648
          · rw [if_pos h2] at q
            have ea : a = nI (un a) := un_of a
            rw [ea, nI_l (by omega), show (1 : Int32).toInt64 = lN 1 from rfl, lN_add, hk1, show (4096 : Int32) = nI 4096 from rfl, nI_add, nI_l (by omega)]
            exact lN_nlt (by omega) (by omega) (by omega)
          · rw [if_neg h2] at q
            omega
      have e3 : sX4_has (a - 4096) w = some (0, w) := by
        unfold sX4_has
        by_cases q : a - 4096 < 0
        · rw [if_pos q]
        · rw [if_neg q, if_neg]
          intro q2
          rw [h.1.1] at q2
          obtain ⟨j, j1, j2, j3⟩ := in_n (p := a - 4096) (n := N) (by rw [ltI, ti0] at q; omega) (by rw [ltI, nI_toInt (by omega)] at q2; exact q2)
          have e4 : a = nI (j + 4096) := by
            have e2 : a - 4096 + 4096 = nI j + nI 4096 := by rw [j2]; rfl
            rw [Int32.sub_add_cancel, nI_add] at e2
            exact e2
          have e5 : un a = un (nI (j + 4096)) := by rw [← e4]
          rw [un_nI (by omega)] at e5
          omega
      rw [e3, xbd_some, if_pos rfl, e2, xbd_some, if_pos rfl]
      exact ⟨_, _, _, B, N, rfl, rfl, hK⟩
theorem give_l {n h : Nat} (hn : n ≤ 8) (hh : h < 256) (x : Int64) : ∀ (j i t : Nat) (w m : xW), i + j = n → t + j ≤ 256 → w.1 7 3 = nI h → w.1 7 5 = nI t → m.1 0 5 = nI h → m.1 0 6 = nI t → (∀ q, q < 256 → w.1 19 q &&& 255 = m.1 3 q) → ∃ w' m', w'.1 7 5 = nI (t + j) ∧ m'.1 0 6 = nI (t + j) ∧ (∀ q, q < 256 → w'.1 19 q &&& 255 = m'.1 3 q) ∧ (∀ k t, ¬ k = 19 → ¬ (k = 7 ∧ t = 5) → w'.1 k t = w.1 k t) ∧ w'.2 = w.2 ∧ (∀ k t, ¬ k = 3 → ¬ (k = 0 ∧ t = 6) → m'.1 k t = m.1 k t) ∧ m'.2 = m.2 ∧
    (∀ fuel, j < fuel → sX3_take_l3 fuel (nI n) x (nI i) w = some ((), w')) ∧ ∀ fuel, j < fuel → sX12_give_l47 fuel (nI n) x (nI i) m = some (m'.1 0 6, m') := by
  intro j
  induction j with
  | zero =>
    intro i t w m hij hN c1 c2 m1 m2 hr
    refine ⟨w, m, c2, m2, hr, fun _ _ _ _ => rfl, rfl, fun _ _ _ _ => rfl, rfl, fun fuel hf => ?_, fun fuel hf => ?_⟩
    · cases fuel with
      | zero => omega
      | succ f => rw [sX3_take_l3, if_neg (nI_nltI (by omega) (by omega) (by omega))]
    · cases fuel with
      | zero => omega
      | succ f => rw [sX12_give_l47, if_neg (nI_nltI (by omega) (by omega) (by omega))]
  | succ j ih =>
    intro i t w m hij hN c1 c2 m1 m2 hr
    have hlt : (h + t) % 256 < 256 := Nat.mod_lt _ (by decide)
    have en : (nI h + nI t) &&& 255 = nI ((h + t) % 256) := by
      rw [nI_add, pk_andN (by omega) 8 (by decide)]
    have em : (nI h + nI t) - (nI h + nI t) / 256 * 256 = nI ((h + t) % 256) := by
      rw [nI_add, show (256 : Int32) = nI 256 from rfl, pk_rem (by omega) (by decide) (by decide)]
    obtain ⟨w', m', h1, h2, h3, h4, h5, h6, h7, h8, h9⟩ := ih (i + 1) (t + 1)
      (xwi (xwi w 19 ((h + t) % 256) ((((xlushr x ((8 : Int32) * nI i)).toInt32).toInt8.toInt32).toInt8.toInt32)) 7 5 (nI (t + 1))) (xwi (xwi m 3 ((h + t) % 256) (((xlshr x ((8 : Int32) * nI i)) &&& (255 : Int64)).toInt32)) 0 6 (nI (t + 1))) (by omega) (by omega) c1 rfl m1 rfl
      (by
        intro q hq
        show (xwi w 19 ((h + t) % 256) _).1 19 q &&& 255 = (xwi m 3 ((h + t) % 256) _).1 3 q
        by_cases e : q = (h + t) % 256
        · subst e
          rw [xwi_s, xwi_s, byte_l (by omega)]
        · rw [xwi_o (by omega), xwi_o (by omega)]
          exact hr q hq)
    rw [show t + 1 + j = t + (j + 1) from by omega] at h1 h2
    refine ⟨w', m', h1, h2, h3, fun k t a b => ?_, h5, fun k t a b => ?_, h7, fun fuel hf => ?_, fun fuel hf => ?_⟩
    · rw [h4 k t a b, xwi_o b, xwi_o (by omega)]
    · rw [h6 k t a b, xwi_o b, xwi_o (by omega)]
    · cases fuel with
      | zero => omega
      | succ f =>
        rw [sX3_take_l3, if_pos (nI_lq (by omega) (by omega) (by omega)), c1, c2, if_pos (show nI t < (256 : Int32) from nI_lq (b := 256) (by omega) (by decide) (by omega)), en, if_pos (xin_n (by omega) (by decide)), nI_clamp (by omega), nI_1, nI_1]
        exact h8 f (by omega)
    · cases fuel with
      | zero => omega
      | succ f =>
        rw [sX12_give_l47, if_pos (nI_lq (by omega) (by omega) (by omega)), if_pos (by decide), m1, m2, em, if_pos (xin_n (by omega) (by decide)), nI_clamp (by omega), nI_1, nI_1]
        exact h9 f (by omega)
theorem give_p (h : KR B N w m) (n : Int32) (x : Int64) : AT w [(11, 1)] (sX11_give n x w) (sX12_give n x m) := by
  unfold sX11_give sX12_give
  by_cases hn : 1 ≤ n.toInt ∧ n.toInt ≤ 8
  · left
    obtain ⟨k, k1, rfl, k3⟩ := in_n (p := n) (n := 9) (by omega) (by omega)
    obtain ⟨hd, t, r, q1, q2, q3, ⟨q4, q5⟩, ⟨q6, q7⟩, ⟨q8, q9⟩, ⟨q10, q11⟩, q12, q13⟩ := h.2.2.2.2.2.2.1
    rw [if_neg (by rw [ltI, ti1]; omega), if_neg (by rw [ltI, ti8]; omega), isIn_t m (by rw [tI1, tI8]; exact hn), xbd_some, if_neg n10, q6, nI_add]
    unfold sX12_give_j18
    rw [if_neg n00, q7, nI_add]
    by_cases hf : 256 < t + k
    · have hq : (256 : Int32) < nI (t + k) := nI_lq (a := 256) (by decide) (by omega) hf
      rw [if_pos hq, if_pos hq]
      exact ⟨_, _, _, B, N, rfl, rfl, h.thr 0, rfl⟩
    · have hq : ¬ (256 : Int32) < nI (t + k) := nI_nltI (a := 256) (by decide) (by omega) (by omega)
      rw [if_neg hq, if_neg hq]
      obtain ⟨w', m', h1, h2, h3, h4, h5, h6, h7, h8, h9⟩ := give_l (n := k) (h := hd) (by omega) q1 x k 0 t w (xwi m 0 0 0) (by omega) (by omega) q4 q6 q5 q7 q12
      unfold sX3_take
      rw [show sX3_take_l3 70000 (nI k) x 0 w = _ from h8 70000 (by omega), show sX12_give_l47 70000 (nI k) x 0 (xwi m 0 0 0) = _ from h9 70000 (by omega), xbd_some, h1, h2]
      refine ⟨_, _, _, B, N, rfl, rfl, ?_, by rw [h6 0 0 (by decide) (by decide)]; rfl⟩
      obtain ⟨g1, g2, g3, g4, g5, ⟨u1, u2, u3, u4⟩, -, g8, g9⟩ := h.thr 0
      refine ⟨g1.fr (h4 _ _ (by decide) (by decide)) (fun i => h4 _ _ (by decide) (by omega)), g2.fr (h6 _ _ (by decide) (by decide)) (fun i => h6 _ _ (by decide) (by omega)), g3.fr (fun i => h4 _ _ (by decide) (by omega)) (fun i => h6 _ _ (by decide) (by omega)),
        g4.fr (fun i => h4 _ _ (by decide) (by omega)) (fun i => h4 _ _ (by decide) (by omega)) (fun i => h4 _ _ (by decide) (by omega)) (fun i => h6 _ _ (by decide) (by omega)) (fun i => h6 _ _ (by decide) (by omega)) (fun i => h6 _ _ (by decide) (by omega)),
        g5.fr (h4 _ _ (by decide) (by decide)) (h6 _ _ (by decide) (by decide)) (h6 _ _ (by decide) (by decide)) (h6 _ _ (by decide) (by decide)) (h6 _ _ (by decide) (by decide)) (h6 _ _ (by decide) (by decide)), ⟨?_, ?_, ?_, ?_⟩, ⟨hd, t + k, r, q1, by omega, q3, ⟨?_, ?_⟩, ⟨h1, h2⟩, ⟨?_, ?_⟩, ⟨?_, ?_⟩, h3, ?_⟩,
        g8.fr (fun i => h4 _ _ (by decide) (by omega)) (fun i => h4 _ _ (by decide) (by omega)) (h6 _ _ (by decide) (by decide)) (h6 _ _ (by decide) (by decide)) (h6 _ _ (by decide) (by decide)) (fun i => h6 _ _ (by decide) (by omega)),
        g9.fr (h4 _ _ (by decide) (by decide)) (fun i => h4 _ _ (by decide) (by omega)) (h6 _ _ (by decide) (by decide)) (fun i => h6 _ _ (by decide) (by omega))⟩
      · rw [h4 _ _ (by decide) (by decide), h6 _ _ (by decide) (by decide), u1]
      · rw [h4 _ _ (by decide) (by decide), h6 _ _ (by decide) (by decide), u2]
      · rw [h4 _ _ (by decide) (by decide), h6 _ _ (by decide) (by decide), u3]
      · rw [h5, h7, u4]
      · rw [h4 _ _ (by decide) (by decide), q4]
      · rw [h6 _ _ (by decide) (by decide)]; exact q5
      · rw [h4 _ _ (by decide) (by decide), q8]
      · rw [h6 _ _ (by decide) (by decide)]; exact q9
      · rw [h4 _ _ (by decide) (by decide), h6 _ _ (by decide) (by decide)]; exact q10
      · rw [h4 _ _ (by decide) (by decide), h6 _ _ (by decide) (by decide)]; exact q11
      · intro i hi
        rw [h4 _ _ (by decide) (by omega), h6 _ _ (by decide) (by omega)]
        exact q13 i hi
  · right
    rw [isIn_f m (by rw [tI1, tI8]; exact hn), xbd_some, if_pos rfl]
    refine ⟨11, 1, 0, xwi m 0 0 1, B, N, by simp, ?_, rfl, h.thr 1, rfl⟩
    by_cases h1 : n < 1
    · rw [if_pos h1]; rfl
    · rw [if_neg h1, if_pos (by rw [ltI, ti8]; rw [ltI, ti1] at h1; omega)]; rfl
end API2
