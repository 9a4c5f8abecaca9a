/-! look: the end, and the whole call -/
section LP
variable {B : Nat → Int32} {N : Nat} {w m : xW}
theorem markAt_n {k : Nat} (hk : k < 2048) (w : xW) : sX5_markAt (nI k) w = some (w.1 16 k, w) := by
  unfold sX5_markAt
  rw [if_neg (nI_pos (by omega)), if_pos (show nI k < (2048 : Int32) from nI_lq (b := 2048) (by omega) (by decide) hk), if_pos (xin_n hk (by decide)), nI_clamp (by omega)]
theorem ce_bad (hC : imgC w B N) (h0 : ¬ w.1 4 10 = 0) (a1 : Int32) : ∀ (j k : Nat) (a2 : Int32), N - k ≤ j → k ≤ N → ∀ fuel, j < fuel → sX5_checkEnd_l4 fuel a1 a2 (nI k) w = some ((), w) := by
  have hN := hC.2.1
  intro j
  induction j with
  | zero =>
    intro k a2 hj hk fuel hf
    cases fuel with
    | zero => omega
    | succ f => rw [sX5_checkEnd_l4, hC.1, if_neg (nI_nltI (by omega) (by omega) (by omega)), if_neg h0]
  | succ j ih =>
    intro k a2 hj hk fuel hf
    cases fuel with
    | zero => omega
    | succ f =>
      rw [sX5_checkEnd_l4, hC.1]
      by_cases q : k < N
      · rw [if_pos (nI_lq (by omega) (by omega) q), markAt_n (by omega), xbd_some, nI_1, ih (k + 1) _ (by omega) (by omega) f (by omega), ih (k + 1) _ (by omega) (by omega) f (by omega)]
        split <;> rfl
      · rw [if_neg (nI_nltI (by omega) (by omega) (by omega)), if_neg h0]
theorem end_l {c last : Nat} (hC : imgC w B N) (hM : imgM m B N) (hk : MK N w m) (h0 : w.1 4 10 = 0) : ∀ (j k e : Nat), k + j = N → e < N → ∃ e', e' < N ∧
    (∀ fuel, j < fuel → sX5_checkEnd_l4 fuel (nI last) (nI e) (nI k) w = xbd (sX5_is (nI e') (512 : Int32) w) (fun x1 w2 => (if x1 = 0 then xbd (sX5_refuse (8 : Int32) (nI last) w2) (fun x3 w4 => some ((), w4)) else some ((), w2)))) ∧
    (∀ fuel, j < fuel → sX12_look_l329 fuel (nI c) (nI last) (nI e) (nI k) m = xbd (sX12_take (nI e') m) (fun x1 w2 => (if x1 = 0 then sX12_look_j403 (nI c) (nI last) w2 else (if (w2.1 0 17) = (32 : Int32) then sX12_look_j399 (nI c) (nI last) w2 else (if (w2.1 0 17) = (31 : Int32) then sX12_look_j399 (nI c) (nI last) w2 else (if (w2.1 0 17) = (43 : Int32) then sX12_look_j399 (nI c) (nI last) w2 else sX12_look_j403 (nI c) (nI last) w2)))))) := by
  have hN := hC.2.1
  intro j
  induction j with
  | zero =>
    intro k e hj he
    refine ⟨e, he, fun fuel hf => ?_, fun fuel hf => ?_⟩
    · cases fuel with
      | zero => omega
      | succ f => rw [sX5_checkEnd_l4, hC.1, if_neg (nI_nltI (by omega) (by omega) (by omega)), if_pos h0]
    · cases fuel with
      | zero => omega
      | succ f => rw [sX12_look_l329, hM.1, if_neg (nI_nltI (by omega) (by omega) (by omega))]
  | succ j ih =>
    intro k e hj he
    have hx := xin_n (k := k) (n := 2048) (by omega) (by decide)
    have ec : (nI k).toNatClampNeg = k := nI_clamp (by omega)
    obtain ⟨e1, e2, e3⟩ := hk k (by omega)
    have hpos : (0 < m.1 5 k) ↔ ¬ w.1 16 k = 0 := by
      rw [← e1]
      rcases e2 with q | q | q <;> (rw [q]; decide)
    by_cases hz : w.1 16 k = 0
    · obtain ⟨e', g1, g2, g3⟩ := ih (k + 1) e (by omega) he
      refine ⟨e', g1, fun fuel hf => ?_, fun fuel hf => ?_⟩
      · obtain ⟨fu, rfl⟩ : ∃ fu, fuel = fu + 1 := ⟨fuel - 1, by omega⟩
        rw [sX5_checkEnd_l4, hC.1, if_pos (nI_lq (by omega) (by omega) (by omega)), markAt_n (by omega), xbd_some, if_pos hz, nI_1]
        exact g2 fu (by omega)
      · obtain ⟨fu, rfl⟩ : ∃ fu, fuel = fu + 1 := ⟨fuel - 1, by omega⟩
        rw [sX12_look_l329, hM.1, if_pos (nI_lq (by omega) (by omega) (by omega)), if_pos hx]
        simp only [ec]
        rw [if_neg (fun z => (hpos.mp z) hz), nI_1]
        exact g3 fu (by omega)
    · obtain ⟨e', g1, g2, g3⟩ := ih (k + 1) k (by omega) (by omega)
      refine ⟨e', g1, fun fuel hf => ?_, fun fuel hf => ?_⟩
      · obtain ⟨fu, rfl⟩ : ∃ fu, fuel = fu + 1 := ⟨fuel - 1, by omega⟩
        rw [sX5_checkEnd_l4, hC.1, if_pos (nI_lq (by omega) (by omega) (by omega)), markAt_n (by omega), xbd_some, if_neg hz, nI_1]
        exact g2 fu (by omega)
      · obtain ⟨fu, rfl⟩ : ∃ fu, fuel = fu + 1 := ⟨fuel - 1, by omega⟩
        rw [sX12_look_l329, hM.1, if_pos (nI_lq (by omega) (by omega) (by omega)), if_pos hx]
        simp only [ec]
        rw [if_pos (hpos.mpr hz), nI_1]
        exact g3 fu (by omega)
def lkC (k _i : Nat) : Bool := k == 2 || k == 3 || k == 4 || k == 12 || k == 13 || k == 14 || k == 15 || k == 16
def lkM (k i : Nat) : Bool := k == 5 || (k == 0 && ((decide (17 ≤ i) && decide (i < 33)) || i == 0 || i == 9 || i == 10 || i == 11))
theorem frC.w1 {P Q : Nat → Nat → Bool} (hPQ : ∀ k i, Q k i = false → P k i = false) {a b : xW} (h : frC P a b) : frC Q a b := fun k i q => h k i (hPQ k i q)
theorem lk_uc : ∀ k i, lkC k i = false → ucC k i = false := by
  intro k i q
  unfold lkC at q
  unfold ucC
  simp only [Bool.or_eq_false_iff, Bool.and_eq_false_iff, beq_eq_false_iff_ne] at q ⊢
  omega
theorem lk_fi : ∀ k i, lkC k i = false → fiC k i = false := by
  intro k i q
  unfold lkC at q
  unfold fiC
  simp only [Bool.or_eq_false_iff, beq_eq_false_iff_ne] at q ⊢
  omega
theorem lk_um : ∀ k i, lkM k i = false → ucM k i = false := by
  intro k i q
  unfold lkM at q
  unfold ucM
  simp only [Bool.or_eq_false_iff, Bool.and_eq_false_iff, beq_eq_false_iff_ne, decide_eq_false_iff_not] at q ⊢
  omega
theorem KR.look {w' m' : xW} (h : KR B N w m) (hc : frC lkC w w') (hc2 : w'.2 = w.2) (hm : frC lkM m m') (hm2 : m'.2 = m.2) (hI : KI w' m') : KR B N w' m' := by
  obtain ⟨h1, h2, h3, h4, h5, ⟨u1, u2, u3, u4⟩, h7, h8, h9⟩ := h
  refine ⟨h1.fr (hc _ _ rfl) (fun i => hc _ _ rfl), h2.fr (hm _ _ rfl) (fun i => hm _ _ rfl), h3.fr (fun i => hc _ _ rfl) (fun i => hm _ _ rfl), h4.fr (fun i => hc _ _ rfl) (fun i => hc _ _ rfl) (fun i => hc _ _ rfl) (fun i => hm _ _ rfl) (fun i => hm _ _ rfl) (fun i => hm _ _ rfl), h5.fr (hc _ _ rfl) (hm _ _ rfl) (hm _ _ rfl) (hm _ _ rfl) (hm _ _ rfl) (hm _ _ rfl), ⟨?_, ?_, ?_, ?_⟩, h7.fr (fun i => hc _ _ rfl) (fun i => hc _ _ rfl) (fun i => hc _ _ rfl) (hm _ _ rfl) (hm _ _ rfl) (hm _ _ rfl) (hm _ _ rfl) (hm _ _ rfl) (fun i => hm _ _ rfl) (fun i => hm _ _ rfl), hI, h9.fr (hc _ _ rfl) (fun i => hc _ _ rfl) (hm _ _ rfl) (fun i => hm _ _ rfl)⟩
  · rw [hc _ _ rfl, hm _ _ rfl, u1]
  · rw [hc _ _ rfl, hm _ _ rfl, u2]
  · rw [hc _ _ rfl, hm _ _ rfl, u3]
  · rw [hc2, hm2, u4]
theorem l7_v : ∀ (j k : Nat) (m : xW), k + j = 2048 → ∀ fuel, j < fuel → sX12_look_l7 fuel (nI k) m = (if ((xfill m 5 k 2048 (fun _ => 0)).1 0 2) = 0 then sX12_look_j44 (xfill m 5 k 2048 (fun _ => 0)) else (if ((xfill m 5 k 2048 (fun _ => 0)).1 0 2 - (xfill m 5 k 2048 (fun _ => 0)).1 0 2 / (32 : Int32) * (32 : Int32)) = 0 then sX12_look_l57 70000 (0 : Int32) (0 : Int32) (0 : Int32) (xfill m 5 k 2048 (fun _ => 0)) else sX12_look_j44 (xfill m 5 k 2048 (fun _ => 0)))) := by
  intro j
  induction j with
  | zero =>
    intro k m hk fuel hf
    cases fuel with
    | zero => omega
    | succ f =>
      obtain rfl : k = 2048 := by omega
      rw [sX12_look_l7, if_neg (by decide), xfill_0, if_pos (show ¬ (32 : Int32) = 0 from by decide)]
  | succ j ih =>
    intro k m hk fuel hf
    cases fuel with
    | zero => omega
    | succ f =>
      rw [sX12_look_l7, if_pos (show nI k < (2048 : Int32) from nI_lq (b := 2048) (by omega) (by decide) (by omega)), if_pos (xin_n (by omega) (by decide)), nI_clamp (by omega), nI_1, ih (k + 1) _ (by omega) f (by omega), xfill_s (f := fun _ => 0) (by omega)]
theorem ct_bad {W : xW} (h0 : ¬ W.1 4 10 = 0) : sX5_checkTargets W = some ((), W) := by
  unfold sX5_checkTargets
  rw [show (70000 : Nat) = 69999 + 1 from rfl, sX5_checkTargets_l2, if_pos (by decide), if_neg h0]
theorem look_p (h : KR B N w m) : AP (sX11_look w) (sX12_look m) := by
  have hN := h.1.2.1
  have hK := h.thr 0
  -- the class up to its units
  obtain ⟨w1, f1, f2, f3, f4⟩ := fill_l (B := B) (N := N) (m0 := m) h.2.1 2048 0 (xwi (xwi (xwi (xwi w 4 9 (0 : Int32)) 4 10 (0 : Int32)) 4 11 (-1 : Int32)) 4 8 (0 : Int32)) rfl (h.1.fr rfl (fun _ => rfl)) (fun p hp => absurd hp (by omega))
  have eC : sX11_look w = inK w1 := by
    unfold sX11_look sX5_inspect sX5_forget
    rw [xbd_some, show sX5_inspect_l11 70000 0 _ = _ from f1 70000 (by omega)]
    unfold inK
    cases (xbd (sX5_markUnits w1) fun x1 w2 => xbd (sX5_checkTargets w2) fun x w3 => xbd (sX5_checkEnd x1 w3) fun x w4 => if w4.1 4 10 = 0 then sX5_inspect_j141 1 w4 else sX5_inspect_j141 0 w4) with
    | none => rfl
    | some q => rfl
  have hC1 : imgC w1 B N := h.1.fr (f2 _ _ rfl) (fun i => f2 _ _ rfl)
  have hl1 : frC lkC w w1 := (((((frC.r _ w).wi rfl).wi rfl).wi rfl).wi rfl).t (f2.w1 lk_fi)
  have hw12 : w1.2 = w.2 := f3
  have g10 : w1.1 4 10 = 0 := f2 _ _ rfl
  have g11 : w1.1 4 11 = -1 := f2 _ _ rfl
  have g8 : w1.1 4 8 = nI 0 := f2 _ _ rfl
  have hA : ∀ q, q < 2048 → PA B N q w1 := fun q hq => (f4 q hq).1
  -- the reference up to its units
  obtain ⟨M, hMdef⟩ : ∃ M, M = xfill (xwi m 0 0 0) 5 0 2048 (fun _ => 0) := ⟨_, rfl⟩
  have hM : imgM M B N := by rw [hMdef]; exact h.2.1.fr rfl (fun i => xfill_o (by omega))
  have hlM : frC lkM m M := by
    intro k i q
    have q' : k ≠ 5 ∧ ¬ (k = 0 ∧ i = 0) := by
      unfold lkM at q
      simp only [Bool.or_eq_false_iff, Bool.and_eq_false_iff, beq_eq_false_iff_ne] at q
      omega
    rw [hMdef, xfill_o (by omega), xwi_o (by omega)]
  have hM2 : M.2 = m.2 := by rw [hMdef]; rfl
  have hMK : MK N w1 M := by
    intro i hi
    have e1 : w1.1 16 i = 0 := (f4 i hi).2
    rw [e1, hMdef, xfill_i (by omega)]
    exact ⟨rfl, Or.inl rfl, fun _ => rfl⟩
  have eM : sX12_look m = (if M.1 0 2 = 0 then sX12_look_j44 M else (if (M.1 0 2 - M.1 0 2 / (32 : Int32) * (32 : Int32)) = 0 then sX12_look_l57 70000 (0 : Int32) (0 : Int32) (0 : Int32) M else sX12_look_j44 M)) := by
    rw [hMdef]
    unfold sX12_look
    exact l7_v 2048 0 _ rfl 70000 (by omega)
  have erem : nI N - nI N / (32 : Int32) * (32 : Int32) = nI (N % 32) := pk_rem (d := 32) (by omega) (by decide) (by decide)
  rw [eC, eM, hM.1, erem]
  -- a fault, whichever
  have finB : ∀ (f q : Nat) (w' m' : xW), 0 < f → f < 9 → frC lkC w w' → w'.2 = w.2 → frC lkM m m' → m'.2 = m.2 → w'.1 4 10 = nI f → w'.1 4 11 = nI q → m'.1 0 10 = nI f → m'.1 0 11 = nI q → m'.1 0 9 = 0 → KR B N (xwi w' 4 9 0) m' := by
    intro f q w' m' a1 a2 b1 b2 b3 b4 c1 c2 c3 c4 c5
    refine h.look (b1.wi rfl) b2 b3 b4 ⟨Or.inl rfl, ?_, ?_, ⟨f, a2, c3⟩, ?_, fun z => ?_⟩
    · rw [c5]; rfl
    · rw [c3]; exact c1
    · rw [c3, if_neg (show ¬ nI f = 0 from nI_ne (b := 0) (by omega) (by decide) (by omega)), c4]
      exact c2
    · rw [show (xwi w' 4 9 0).1 4 9 = 0 from rfl] at z
      exact absurd z (by decide)
  have stC : ∀ (f q : Nat) (w' : xW), 0 < f → f < 9 → q ≤ N → imgC w' B N → w'.1 4 10 = nI f → sX5_markUnits w1 = some (nI q, w') → inK w1 = some (-1, xwi w' 4 9 0) := by
    intro f q w' a1 a2 a3 b0 b1 b2
    have hno : ¬ w'.1 4 10 = 0 := by rw [b1]; exact nI_ne (b := 0) (by omega) (by decide) (by omega)
    unfold inK
    rw [b2, xbd_some, ct_bad hno, xbd_some]
    unfold sX5_checkEnd
    rw [ce_bad b0 hno (nI q) 2048 q (nI q) (by omega) a3 70000 (by omega), xbd_some, if_neg hno]
    unfold sX5_inspect_j141
    rw [if_pos (Or.inl rfl), if_pos rfl]
  have c23 : sX5_markUnits_j23 w1 = some (nI 0, xwi (xwi w1 4 10 1) 4 11 0) := rfl
  have m23 : sX12_look_j44 M = some (-1, xwi (xwi (xwi M 0 10 1) 0 11 0) 0 9 0) := rfl
  have one : sX5_markUnits w1 = sX5_markUnits_j23 w1 → AP (inK w1) (sX12_look_j44 M) := by
    intro e
    rw [stC 1 0 _ (by decide) (by decide) (by omega) (hC1.fr (w' := xwi (xwi w1 4 10 1) 4 11 0) rfl (fun _ => rfl)) rfl (e.trans c23), m23]
    exact ⟨_, _, _, B, N, rfl, rfl, finB 1 0 _ _ (by decide) (by decide) ((hl1.wi rfl).wi rfl) hw12 (((hlM.wi rfl).wi rfl).wi rfl) hM2 rfl rfl rfl rfl rfl⟩
  by_cases hN0 : N = 0
  · rw [if_pos (show nI N = 0 from by rw [hN0]; rfl)]
    refine one ?_
    unfold sX5_markUnits
    rw [hC1.1, if_pos (show nI N = 0 from by rw [hN0]; rfl)]
  · have hn0 : ¬ nI N = 0 := nI_ne (b := 0) (by omega) (by decide) hN0
    rw [if_neg hn0]
    by_cases h32 : N % 32 = 0
    · rw [if_pos (show nI (N % 32) = 0 from by rw [h32]; rfl)]
      have eU : sX5_markUnits w1 = sX5_markUnits_l36 70000 (nI 0) (nI 0) w1 := by
        unfold sX5_markUnits
        rw [hC1.1, if_neg hn0, if_pos (by decide), erem, if_pos (show nI (N % 32) = 0 from by rw [h32]; rfl)]
        rfl
      rcases units_l h32 2048 0 0 0 w1 M (by omega) (by omega) (by omega) hC1 hM hA g8 hMK g10 with ⟨f, q, w', m', a1, a2, a3, a4, a5, a6, a7, a8, a9, b1, b2, b3, b4, b5⟩ | ⟨q, c', w', m', a3, a4, a5, a6, a7, a8, b2, b3, b4, b5⟩
      · rw [stC f q w' a1 a2 (by omega) (hC1.uc b2) a6 (eU.trans (a4 70000 (by omega))), show sX12_look_l57 70000 0 0 0 M = _ from a5 70000 (by omega)]
        exact ⟨_, _, _, B, N, rfl, rfl, finB f q w' m' a1 a2 (hl1.t (b2.w1 lk_uc)) (b3.trans hw12) (hlM.t (b4.w1 lk_um)) (b5.trans hM2) a6 a7 a8 a9 b1⟩
      · rw [show sX12_look_l57 70000 0 0 0 M = _ from a5 70000 (by omega)]
        have hC2 := hC1.uc b2
        have hM2' := hM.uc b4
        have hA2 : ∀ q, q < 2048 → PA B N q w' := fun q hq => (hA q hq).ar b2
        have k1 : frC lkC w w' := hl1.t (b2.w1 lk_uc)
        have k2 : frC lkM m m' := hlM.t (b4.w1 lk_um)
        rcases targets_l (last := q) (c := c') hM2' 2048 0 w' m' rfl hC2 hM2' hA2 a8 a6.1 with ⟨p, w3, m3, d1, d2, d3, d4, d5, d6, d7, d8, d9, e1, e2⟩ | ⟨m3, d1, d2, d3⟩
        · rw [show sX12_look_l198 70000 (nI c') (nI q) 0 m' = _ from d2 70000 (by omega)]
          have hno : ¬ w3.1 4 10 = 0 := by rw [d3]; decide
          have e5 : inK w1 = some (-1, xwi w3 4 9 0) := by
            unfold inK
            rw [eU.trans (a4 70000 (by omega)), xbd_some]
            unfold sX5_checkTargets
            rw [show sX5_checkTargets_l2 70000 0 w' = _ from d1 70000 (by omega), xbd_some]
            unfold sX5_checkEnd
            rw [ce_bad (hC2.uc d8) hno (nI q) 2048 q (nI q) (by omega) (by omega) 70000 (by omega), xbd_some, if_neg hno]
            unfold sX5_inspect_j141
            rw [if_pos (Or.inl rfl), if_pos rfl]
          rw [e5]
          exact ⟨_, _, _, B, N, rfl, rfl, finB 7 p w3 m3 (by decide) (by decide) (k1.t (d8.w1 lk_uc)) (d9.trans (b3.trans hw12)) (k2.t (e1.w1 lk_um)) (e2.trans (b5.trans hM2)) d3 d4 d5 d6 d7⟩
        · rw [show sX12_look_l198 70000 (nI c') (nI q) 0 m' = _ from d2 70000 (by omega), nI_1]
          have hM3 := d3.img hM2'
          have hmk3 := a8.sm d3
          obtain ⟨e', y1, y2, y3⟩ := end_l (c := c') (last := q) hC2 hM3 hmk3 a6.1 (N - (q + 1)) (q + 1) q (by omega) a3
          rw [y3 70000 (by omega)]
          -- the class's first turn only keeps the end
          have y2' : sX5_checkEnd (nI q) w' = xbd (sX5_is (nI e') (512 : Int32) w') (fun x1 w2 => (if x1 = 0 then xbd (sX5_refuse (8 : Int32) (nI q) w2) (fun x3 w4 => some ((), w4)) else some ((), w2))) := by
            unfold sX5_checkEnd
            rw [show (70000 : Nat) = 69999 + 1 from rfl, sX5_checkEnd_l4, hC2.1, if_pos (nI_lq (by omega) (by omega) a3), markAt_n (by omega), xbd_some, nI_1, y2 69999 (by omega)]
            split <;> rfl
          have hin : inK w1 = xbd (sX5_checkEnd (nI q) w') (fun _ w4 => (if (w4.1 4 10) = 0 then sX5_inspect_j141 (1 : Int32) w4 else sX5_inspect_j141 (0 : Int32) w4)) := by
            unfold inK
            rw [eU.trans (a4 70000 (by omega)), xbd_some]
            unfold sX5_checkTargets
            rw [show sX5_checkTargets_l2 70000 0 w' = _ from d1 70000 (by omega), xbd_some]
          obtain ⟨n, t, r, g, z1, z2, z3⟩ := GA_of hM3 hA2 (q := e') (by omega)
          obtain ⟨v1, v2, v3, v4⟩ := z3 w' (fun i => ⟨rfl, rfl, rfl⟩)
          obtain ⟨M4, x1, x2, x3⟩ := z2.tk hM3
          have l4 : frC lkM m M4 := (k2.t (d3.fr.w1 lk_um)).t (x2.fr.w1 lk_um)
          have l42 : M4.2 = m.2 := x2.2.trans (d3.2.trans (b5.trans hM2))
          rw [hin, y2', v3, nb (trv_9 t), xbd_some, x1, xbd_some]
          have hbad : t 9 = false → AP (xbd (if bI (t 9) = 0 then xbd (sX5_refuse (8 : Int32) (nI q) w') (fun x3 w4 => some ((), w4)) else some ((), w')) (fun _ w4 => (if (w4.1 4 10) = 0 then sX5_inspect_j141 (1 : Int32) w4 else sX5_inspect_j141 (0 : Int32) w4))) (sX12_look_j403 (nI c') (nI q) M4) := by
            intro h9
            rw [h9, if_pos (show bI false = 0 from rfl)]
            refine ⟨-1, xwi (xwi (xwi w' 4 10 (nI 8)) 4 11 (nI q)) 4 9 0, xwi (xwi (xwi M4 0 10 (nI 8)) 0 11 (nI q)) 0 9 0, B, N, rfl, rfl, finB 8 q _ _ (by decide) (by decide) ((k1.wi rfl).wi rfl) (b3.trans hw12) (((l4.wi rfl).wi rfl).wi rfl) l42 rfl rfl rfl rfl rfl⟩
          have hgood : t 9 = true → AP (xbd (if bI (t 9) = 0 then xbd (sX5_refuse (8 : Int32) (nI q) w') (fun x3 w4 => some ((), w4)) else some ((), w')) (fun _ w4 => (if (w4.1 4 10) = 0 then sX5_inspect_j141 (1 : Int32) w4 else sX5_inspect_j141 (0 : Int32) w4))) (sX12_look_j399 (nI c') (nI q) M4) := by
            intro h9
            rw [h9, if_neg (show ¬ bI true = 0 from by decide), xbd_some, if_pos a6.1]
            refine ⟨nI c', xwi w' 4 9 1, xwi (xwi (xwi M4 0 9 1) 0 10 0) 0 11 (-1), B, N, ?_, ?_, h.look (k1.wi rfl) (b3.trans hw12) (((l4.wi rfl).wi rfl).wi rfl) l42 ⟨Or.inr rfl, rfl, a6.1, ⟨0, by decide, rfl⟩, ?_, fun _ i hi => ?_⟩⟩
            · unfold sX5_inspect_j141
              rw [if_pos (Or.inr rfl), if_neg n10, a7]
            · unfold sX12_look_j399 sX12_look_j404
              rw [if_neg n10]
            · exact a6.2.trans g11
            · exact ((hmk3.sm x2) i hi).1
          rcases Nat.eq_zero_or_pos n with zz | zz
          · rw [if_pos (show (if n = 0 then (0 : Int32) else 1) = 0 from if_pos zz)]
            exact hbad (by rw [z2.1 zz])
          · obtain ⟨-, fq⟩ := x3 zz
            rw [ok1 zz, if_neg n10]
            rcases fq.nine with ⟨y9, yy | yy | yy⟩ | ⟨y9, yy⟩
            · rw [if_pos yy]; exact hgood y9
            · rw [if_neg (show ¬ M4.1 0 17 = 32 from by rw [yy]; decide), if_pos yy]; exact hgood y9
            · rw [if_neg (show ¬ M4.1 0 17 = 32 from by rw [yy]; decide), if_neg (show ¬ M4.1 0 17 = 31 from by rw [yy]; decide), if_pos yy]; exact hgood y9
            · rw [if_neg (show ¬ M4.1 0 17 = 32 from fun y => yy (Or.inl y)), if_neg (show ¬ M4.1 0 17 = 31 from fun y => yy (Or.inr (Or.inl y))), if_neg (show ¬ M4.1 0 17 = 43 from fun y => yy (Or.inr (Or.inr y)))]
              exact hbad y9
    · have hr : ¬ nI (N % 32) = 0 := nI_ne (b := 0) (by omega) (by decide) h32
      rw [if_neg hr]
      refine one ?_
      unfold sX5_markUnits
      rw [hC1.1, if_neg hn0, if_pos (by decide), erem, if_neg hr]
end LP
