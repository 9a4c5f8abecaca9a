/-! look: the class takes every place apart -/
def PL (B : Nat → Int32) (N p n : Nat) (t : Nat → Bool) (r g : Int32) : Prop :=
  (n = 0 → t = fun _ => false) ∧ ∀ m, imgM m B N → ∃ l, sX12_take (nI p) m = some ((if n = 0 then 0 else 1), mW l m) ∧
    (0 < n → p + n ≤ N ∧ (mW l m).1 0 30 = nI n ∧ ∃ W, IR n W (mW l m) ∧ tOf W = t ∧ rgOf W = r ∧ W.1 2 13 = g)
def PA (B : Nat → Int32) (N p : Nat) (w : xW) : Prop := ∃ (n : Nat) (t : Nat → Bool), w.1 12 p = nI n ∧ w.1 13 p = trv t ∧ n < 16 ∧ PL B N p n t (w.1 14 p) (w.1 15 p)
theorem PA.fr {B : Nat → Int32} {N p : Nat} {w w' : xW} (h : PA B N p w) (h1 : w'.1 12 p = w.1 12 p) (h2 : w'.1 13 p = w.1 13 p) (h3 : w'.1 14 p = w.1 14 p) (h4 : w'.1 15 p = w.1 15 p) : PA B N p w' := by
  obtain ⟨n, t, a, b, c, d⟩ := h
  exact ⟨n, t, h1.trans a, h2.trans b, c, by rw [h3, h4]; exact d⟩
section FI
variable {B : Nat → Int32} {N : Nat}
/-- what the class makes of one place -/
theorem place_1 {k : Nat} {w m0 : xW} (hk0 : k < 2048) (hw : imgC w B N) (hm0 : imgM m0 B N) : ∃ (n : Nat) (t : Nat → Bool) (W0 : xW), sX1_decode (nI k) w = some (nI n, W0) ∧ n < 16 ∧ (∀ a i, ¬ a = 2 → ¬ a = 3 → W0.1 a i = w.1 a i) ∧ W0.2 = w.2 ∧ (0 < n → xin (W0.1 2 0) 54 ∧ un (W0.1 2 5) < 2 ^ 31 ∧ tOf W0 = t) ∧ PL B N k n t (rgOf W0) (W0.1 2 13) := by
  have hN := hw.2.1
  by_cases hk : k < N
  · obtain ⟨c0, c1, c2, c3, c4, c5, c6, c7, c8, c9, c10, c11, c12, c13, c14, a0, a1, a2, a3, a4, a5, a6, a7, a8, a9, a10, a11, a12, a13, l3, a14, len, ok, hc, hm, hd⟩ := decode_pair hw hm0 hk
    generalize hW : dW [c0, c1, c2, c3, c4, c5, c6, c7, c8, c9, c10, c11, c12, c13, c14] l3 w = W0 at hc
    have hfr : ∀ a i, ¬ a = 2 → ¬ a = 3 → W0.1 a i = w.1 a i := fun a i x y => by rw [← hW]; exact dW_o x y
    have hfr2 : W0.2 = w.2 := by rw [← hW]; rfl
    have key : ∀ m, imgM m B N → ∃ l ok', sX12_take (nI k) m = some (ok', mW l m) ∧ ((ok' = 0 ∧ len = 0) ∨ (ok' = 1 ∧ ∃ L : Nat, 0 < L ∧ L ≤ 15 ∧ k + L ≤ N ∧ len = nI L ∧ (mW l m).1 0 30 = nI L ∧ IR L W0 (mW l m))) := by
      intro m hm
      obtain ⟨c0', c1', c2', c3', c4', c5', c6', c7', c8', c9', c10', c11', c12', c13', c14', a0', a1', a2', a3', a4', a5', a6', a7', a8', a9', a10', a11', a12', a13', l3', a14', len', ok', hc', hm', hd'⟩ := decode_pair hw hm hk
      rw [hc] at hc'
      obtain ⟨e1, e2⟩ := Prod.mk.inj (Option.some.inj hc')
      refine ⟨_, ok', hm', ?_⟩
      rw [e1]
      rcases hd' with hd' | ⟨d1, L, d2, d3, d4, d5, d6, d7, d8⟩
      · exact Or.inl hd'
      · refine Or.inr ⟨d1, L, d2, d3, d4, d5, by rw [mW_at (by decide) (by decide)]; exact d7, ?_⟩
        unfold IR
        rw [e2]
        exact d8
    obtain ⟨l0, ok0, h1, h2⟩ := key m0 hm0
    rcases h2 with ⟨-, h2⟩ | ⟨-, L, d2, d3, d4, d5, -, d6⟩
    · refine ⟨0, fun _ => false, W0, by rw [hc, h2]; rfl, by omega, hfr, hfr2, fun q => absurd q (by omega), fun _ => rfl, fun m hm => ?_⟩
      obtain ⟨l, ok', g1, g2⟩ := key m hm
      rcases g2 with ⟨g2, -⟩ | ⟨-, L, g3, g4, -, g5, -⟩
      · exact ⟨l, by rw [g1, g2]; rfl, fun q => absurd q (by omega)⟩
      · rw [h2] at g5
        have := (nI_eq (a := 0) (b := L) (by omega) (by omega)).mp g5
        omega
    · refine ⟨L, tOf W0, W0, by rw [hc, d5], by omega, hfr, hfr2, fun _ => ⟨(rd_x d6).1, (rd_x d6).2, rfl⟩, fun q => absurd q (by omega), fun m hm => ?_⟩
      obtain ⟨l, ok', g1, g2⟩ := key m hm
      rcases g2 with ⟨-, g2⟩ | ⟨g2, L', g3, g4, g5, g6, g7, g8⟩
      · rw [d5] at g2
        have := (nI_eq (a := L) (b := 0) (by omega) (by omega)).mp g2
        omega
      · rw [d5] at g6
        obtain rfl : L = L' := (nI_eq (by omega) (by omega)).mp g6
        exact ⟨l, by rw [g1, g2, if_neg (by omega)], fun _ => ⟨g5, g7, W0, g8, rfl, rfl, rfl⟩⟩
  · have ho : nI k < 0 ∨ ¬ nI k < nI N := Or.inr (nI_nltI (by omega) (by omega) (by omega))
    refine ⟨0, fun _ => false, _, by rw [decode_out hw.1 ho]; rfl, by omega, fun a i x y => dW_o x y, rfl, fun q => absurd q (by omega), fun _ => rfl, fun m hm => ?_⟩
    obtain ⟨l, hl⟩ := take_out hm.1 ho
    exact ⟨l, hl, fun q => absurd q (by omega)⟩
/-- what comes behind the class's first loop -/
def inK (w : xW) : Option (Int32 × xW) := xbd (sX5_markUnits w) (fun x1 w2 => xbd (sX5_checkTargets w2) (fun _ w3 => xbd (sX5_checkEnd x1 w3) (fun _ w4 => (if (w4.1 4 10) = 0 then sX5_inspect_j141 (1 : Int32) w4 else sX5_inspect_j141 (0 : Int32) w4))))
def fiC (k _i : Nat) : Bool := k == 2 || k == 3 || k == 12 || k == 13 || k == 14 || k == 15 || k == 16
theorem trv_f : trv (fun _ => false) = 0 := rfl
theorem fill_l {m0 : xW} (hm0 : imgM m0 B N) : ∀ (j k : Nat) (w : xW), k + j = 2048 → imgC w B N → (∀ p, p < k → PA B N p w ∧ w.1 16 p = 0) → ∃ w', (∀ fuel, j < fuel → sX5_inspect_l11 fuel (nI k) w = inK w') ∧ frC fiC w w' ∧ w'.2 = w.2 ∧ ∀ p, p < 2048 → PA B N p w' ∧ w'.1 16 p = 0 := by
  intro j
  induction j with
  | zero =>
    intro k w hk hC hA
    obtain rfl : k = 2048 := by omega
    refine ⟨w, fun fuel hf => ?_, frC.r _ _, rfl, hA⟩
    cases fuel with
    | zero => omega
    | succ f =>
      rw [sX5_inspect_l11, if_neg (by decide)]
      rfl
  | succ j ih =>
    intro k w hk hC hA
    have hx := xin_n (k := k) (n := 2048) (by omega) (by decide)
    obtain ⟨n, t, W0, q1, q2, q3, q4, q5, q6⟩ := place_1 (k := k) (w := xwi w 16 k 0) (by omega) (hC.fr rfl (fun _ => rfl)) hm0
    have hfr : ∀ a i, ¬ a = 2 → ¬ a = 3 → ¬ (a = 16 ∧ i = k) → W0.1 a i = w.1 a i := fun a i x y z => by rw [q3 a i x y, xwi_o z]
    -- the world behind this place
    generalize hv : trv t = v at *
    obtain ⟨w', h1, h2, h3, h4⟩ := ih (k + 1) (xwi (xwi (xwi (xwi W0 12 k (nI n)) 13 k v) 14 k (rgOf W0)) 15 k (W0.1 2 13)) (by omega) (hC.fr (hfr 1 1 (by decide) (by decide) (by omega)) (fun i => hfr 10 i (by decide) (by decide) (by omega))) (by
      intro p hp
      by_cases e : p = k
      · subst e
        refine ⟨⟨n, t, ?_, ?_, q2, ?_⟩, ?_⟩
        · rw [xwi_o (by omega), xwi_o (by omega), xwi_o (by omega), xwi_s]
        · rw [xwi_o (by omega), xwi_o (by omega), xwi_s, hv]
        · rw [xwi_s, xwi_o (by omega), xwi_s]
          exact q6
        · rw [xwi_o (by omega), xwi_o (by omega), xwi_o (by omega), xwi_o (by omega), q3 16 p (by decide) (by decide), xwi_s]
      · obtain ⟨p1, p2⟩ := hA p (by omega)
        have hf2 : ∀ a, ¬ a = 2 → ¬ a = 3 → (xwi (xwi (xwi (xwi W0 12 k (nI n)) 13 k v) 14 k (rgOf W0)) 15 k (W0.1 2 13)).1 a p = w.1 a p := fun a x y => by
          rw [xwi_o (by omega), xwi_o (by omega), xwi_o (by omega), xwi_o (by omega), hfr a p x y (by omega)]
        exact ⟨p1.fr (hf2 12 (by decide) (by decide)) (hf2 13 (by decide) (by decide)) (hf2 14 (by decide) (by decide)) (hf2 15 (by decide) (by decide)), by rw [hf2 16 (by decide) (by decide)]; exact p2⟩)
    refine ⟨w', fun fuel hf => ?_, fun a i q => ?_, ?_, h4⟩
    · cases fuel with
      | zero => omega
      | succ f =>
        rw [sX5_inspect_l11, if_pos (show nI k < (2048 : Int32) from nI_lq (b := 2048) (by omega) (by decide) (by omega)), if_pos hx]
        have ec : (nI k).toNatClampNeg = k := nI_clamp (by omega)
        simp only [ec, q1, xbd_some, if_pos hx, xwi_s]
        have hj : ∀ Wv : xW, Wv.1 2 6 = W0.1 2 6 → Wv.1 2 7 = W0.1 2 7 → Wv.1 2 9 = W0.1 2 9 → Wv.1 2 13 = W0.1 2 13 → Wv = xwi W0 12 k (nI n) → sX5_inspect_j61 (sX5_inspect_l11 f) (nI k) v (nI k) Wv = inK w' := by
          intro Wv e1 e2 e3 e4 e5
          unfold sX5_inspect_j61 sX5_inspect_j94
          simp only [if_pos hx, ec]
          rw [e1, e2, e3, nI_1, e5]
          have hr := h1 f (by omega)
          unfold rgOf at hr
          by_cases h6 : W0.1 2 6 = 0
          · rw [if_pos h6]
            rw [if_pos h6] at hr
            exact hr
          · rw [if_neg h6]
            rw [if_neg h6] at hr
            exact hr
        by_cases hn : n = 0
        · have hv0 : v = 0 := by rw [← hv, q6.1 hn]; rfl
          rw [if_pos (show nI n = 0 from by rw [hn]; rfl), ← hv0]
          exact hj _ rfl rfl rfl rfl rfl
        · obtain ⟨p1, p2, p3⟩ := q5 (by omega)
          rw [if_neg (show ¬ nI n = 0 from nI_ne (b := 0) (by omega) (by decide) hn), traits_v (W := xwi W0 12 k (nI n)) p1 p2, xbd_some, show tOf (xwi W0 12 k (nI n)) = tOf W0 from rfl, p3, hv]
          exact hj _ rfl rfl rfl rfl rfl
    · have q' : a ≠ 2 ∧ a ≠ 3 ∧ a ≠ 12 ∧ a ≠ 13 ∧ a ≠ 14 ∧ a ≠ 15 ∧ a ≠ 16 := by
        unfold fiC at q
        simp only [Bool.or_eq_false_iff, beq_eq_false_iff_ne] at q
        omega
      rw [h2 a i q, xwi_o (by omega), xwi_o (by omega), xwi_o (by omega), xwi_o (by omega), hfr a i (by omega) (by omega) (by omega)]
    · rw [h3]
      exact q4
end FI
