/-! the step at a gate; the step -/
section SG
variable {B : Nat → Int32} {N : Nat} {w m : xW}
theorem svC_f {k i : Nat} (h : ¬ k = 7 ∧ ¬ k = 17 ∧ ¬ k = 18) : svC k i = false := by
  unfold svC
  simp [h.1, h.2.1, h.2.2]
theorem svM_f {k i : Nat} (h : ¬ k = 2 ∧ ¬ k = 4 ∧ ¬ (k = 0 ∧ (i = 5 ∨ i = 6 ∨ i = 8 ∨ i = 42 ∨ i = 43 ∨ i = 33))) : svM k i = false := by
  unfold svM
  by_cases hk : k = 0
  · subst hk
    have h3 := h.2.2
    simp only [true_and, not_or] at h3
    simp [h3.1, h3.2.1, h3.2.2.1, h3.2.2.2.1, h3.2.2.2.2.1, h3.2.2.2.2.2]
  · simp [h.1, h.2.1, hk]
theorem serve_chain {W : xW} {k : Int32} {v : Int32} (a b : Nat) (ha : a < 2 ^ 32) (hb : b < 2 ^ 32) : (if lN b = (0 : Int64) then sX12_serve_j91 k v (lN a) (lN b) W else (if lN a < (65536 : Int64) then sX12_serve_j95 k v (lN a) (lN b) W else (if (131072 : Int64) < (lN a + lN b) then sX12_serve_j95 k v (lN a) (lN b) W else sX12_serve_j91 k v (lN a) (lN b) W))) = sX12_serve_j96 k v (lN a) (lN b) (bI (decide (b = 0 ∨ (65536 ≤ a ∧ a + b ≤ 131072)))) W := by
  unfold sX12_serve_j91 sX12_serve_j95
  by_cases h1 : b = 0
  · rw [if_pos (show lN b = (0 : Int64) from by rw [h1]; rfl), decide_eq_true (Or.inl h1)]; rfl
  · rw [if_neg (show ¬ lN b = (0 : Int64) from fun q => h1 ((pk_lEQ (b := 0) (by omega) (by decide)).mp q))]
    by_cases h2 : a < 65536
    · rw [if_pos (show lN a < (65536 : Int64) from lN_nlt (b := 65536) (by omega) (by decide) h2), decide_eq_false (by omega)]; rfl
    · rw [if_neg (show ¬ lN a < (65536 : Int64) from lN_nge (b := 65536) (by omega) (by decide) (by omega)), lN_add]
      by_cases h3 : 131072 < a + b
      · rw [if_pos (show (131072 : Int64) < lN (a + b) from lN_nlt (a := 131072) (by decide) (by omega) h3), decide_eq_false (by omega)]; rfl
      · rw [if_neg (show ¬ (131072 : Int64) < lN (a + b) from lN_nge (a := 131072) (by decide) (by omega) (by omega)), decide_eq_true (by omega)]; rfl
theorem step_g (hK : KR B N w m) {k : Nat} (hk : k < 16) (hg : un (w.1 8 11) = 1024 + 32 * k) :
    ∃ r w' m', sX7_step w = some (r, w') ∧ sX12_step m = some (r, m') ∧ KR B N w' m' ∧ (r = 1 ∨ (r = 0 ∧ ¬ w'.1 8 10 = 1)) ∧ m'.1 0 0 = m.1 0 0 := by
  obtain ⟨h1, h2, h3, ⟨g1, g2, g3, g4⟩, hF, ⟨u1, u2, u3, u4⟩, h7, h8, h9⟩ := id hK
  have hlt := un_lt (w.1 8 11)
  have hN := h1.2.1
  have hcl : sX7_step w = xbd (sX7_doService (nI k) (xwi w 6 2 0)) (fun _ w7 => sX7_step_j44 w7) := by
    unfold sX7_step
    rcases gate_c (w.1 8 11) (xwi w 6 2 0) with ⟨k2, k1, k3, k4⟩ | ⟨k3, -⟩
    · have : k2 = k := by omega
      subst this
      have hne : ¬ nI k2 = -1 := (show ∀ j, j < 16 → ¬ nI j = -1 from by decide +kernel) k2 k1
      rw [k4, xbd_some, if_neg hne]
    · exact absurd hg (k3 k hk)
  have hM0 : ∀ k i, ¬ k = 10 → ¬ (k = 0 ∧ i = 45) → (cpF 9 10 (xwi m 0 45 0) 0).1 k i = m.1 k i := fun k i x y => by rw [cpF_o x, xwi_o y]
  have hM02 : (cpF 9 10 (xwi m 0 45 0) 0).2 = m.2 := rfl
  have hgm : decide (1024 ≤ 1024 + 32 * k ∧ 1024 + 32 * k < 1536 ∧ (1024 + 32 * k) % 32 = 0) = true := decide_eq_true (by omega)
  have hdv : (lN (1024 + 32 * k) - 1024).toInt32 / 32 = nI k := by
    rw [Int64.toInt32_sub, lN_i, show (1024 : Int64).toInt32 = nI 1024 from by decide, pk_sub (by omega), show 1024 + 32 * k - 1024 = k * 32 from by omega, show (32 : Int32) = nI 32 from rfl, pk_div (by omega) (by decide) (by decide), Nat.mul_div_cancel _ (by decide)]
  rw [hcl, step_m, ← u2, hg]
  unfold stR
  rw [gate_m (by omega), hgm, xbd_some, show bI true = 1 from rfl, if_neg (by decide), if_pos (by decide), hdv]
  generalize hM : cpF 9 10 (xwi m 0 45 0) 0 = M0 at *
  have hW0 : ∀ k i, ¬ (k = 6 ∧ i = 2) → (xwi w 6 2 0).1 k i = w.1 k i := fun k i x => xwi_o x
  have hW02 : (xwi w 6 2 0).2 = w.2 := rfl
  have hW06 : (xwi w 6 2 0).1 6 2 = 0 := xwi_s
  have hM045 : M0.1 0 45 = 0 := by rw [← hM]; rfl
  have hM010 : ∀ i, i < 8 → M0.1 10 i = m.1 9 i := fun i hi => by rw [← hM]; exact cpF_in (k0 := 9) (k1 := 10) (w := xwi m 0 45 0) hi
  have fW0 : frC stC_ w (xwi w 6 2 0) := (frC.r _ w).wi rfl
  have fM0 : frC stM_ m M0 := by rw [← hM]; exact fm_cp ((frC.r _ m).wi rfl) (Or.inl rfl)
  generalize hWW : xwi w 6 2 0 = W0 at *
  have hD0 : dataP W0 M0 := h3.fr (fun i => hW0 17 i (by omega)) (fun i => hM0 2 i (by decide) (by omega))
  have hi1 : imgC W0 B N := h1.fr (hW0 1 1 (by decide)) (fun i => hW0 10 i (by omega))
  have hi2 : imgM M0 B N := h2.fr (hM0 0 2 (by decide) (by decide)) (fun i => hM0 1 i (by decide) (by omega))
  have hH0 : KH W0 M0 := h7.fr (fun i => hW0 7 i (by omega)) (fun i => hW0 18 i (by omega)) (fun i => hW0 19 i (by omega)) (hM0 0 5 (by decide) (by decide)) (hM0 0 6 (by decide) (by decide)) (hM0 0 8 (by decide) (by decide)) (hM0 0 42 (by decide) (by decide)) (hM0 0 43 (by decide) (by decide)) (fun i => hM0 3 i (by decide) (by omega)) (fun i => hM0 4 i (by decide) (by omega))
  have hI0 : KI W0 M0 := h8.fr (fun i => hW0 4 i (by omega)) (fun i => hW0 16 i (by omega)) (hM0 0 9 (by decide) (by decide)) (hM0 0 10 (by decide) (by decide)) (hM0 0 11 (by decide) (by decide)) (fun i => hM0 5 i (by decide) (by omega))
  have hT0 : KT W0 M0 := h9.fr (hW0 41 0 (by decide)) (fun i => hW0 40 i (by omega)) (hM0 0 16 (by decide) (by decide)) (fun i => hM0 8 i (by decide) (by omega))
  have hF0 : KF W0 M0 := hF.fr (hW0 9 0 (by decide)) (hM0 0 36 (by decide) (by decide)) (hM0 0 37 (by decide) (by decide)) (hM0 0 38 (by decide) (by decide)) (hM0 0 39 (by decide) (by decide)) (hM0 0 40 (by decide) (by decide))
  have hG0 : KG W0 M0 := KG.fr (w := w) (m := m) ⟨g1, g2, g3, g4⟩ (fun i => hW0 20 i (by omega)) (fun i => hW0 21 i (by omega)) (fun i => hW0 11 i (by omega)) (fun i => hM0 9 i (by decide) (by omega)) (fun i => hM0 6 i (by decide) (by omega)) (fun i => hM0 7 i (by decide) (by omega))
  have hU0 : KU W0 M0 := ⟨by rw [hW0 8 10 (by decide), hM0 0 33 (by decide) (by decide), u1], by rw [hW0 8 11 (by decide), hM0 0 34 (by decide) (by decide), u2], by rw [hW0 8 12 (by decide), hM0 0 41 (by decide) (by decide), u3], by rw [hW02, hM02, u4]⟩
  obtain ⟨v1, v2, v3, v4⟩ := hU0
  have x3 : xin (3 : Int32) 8 := by decide
  have x1 : xin (1 : Int32) 8 := by decide
  have x0 : xin (0 : Int32) 8 := by decide
  have c3 : (3 : Int32).toNatClampNeg = 3 := rfl
  have c0 : (0 : Int32).toNatClampNeg = 0 := rfl
  unfold sX7_doService sX12_serve
  by_cases hk0 : k = 0
  · subst hk0
    rw [if_pos (show nI 0 = (0 : Int32) from rfl), if_pos (show nI 0 = (0 : Int32) from rfl), if_pos x3, if_pos x3, c3, xbd_some, xbd_some]
    refine ⟨1, xwl (xwi (xwi W0 8 12 (W0.1 20 3)) 8 10 2) 8 13 (W0.2 8 13 + 1), xwl (xwi (xwi M0 0 41 (M0.1 9 3)) 0 33 2) 0 44 (M0.2 0 44 + 1), ?_, ?_, ?_, Or.inl rfl, hM0 0 0 (by decide) (by decide)⟩
    · unfold sX7_step_j44
      rw [show (xwi (xwi W0 8 12 (W0.1 20 3)) 8 10 2).1 6 2 = W0.1 6 2 from rfl, hW06, if_pos rfl]
      rfl
    · unfold sX12_step_j212
      rw [show (xwi (xwi M0 0 41 (M0.1 9 3)) 0 33 2).1 0 45 = M0.1 0 45 from rfl, hM045, if_pos rfl, if_pos (by decide)]
      rfl
    · refine ⟨hi1.fr rfl (fun _ => rfl), hi2.fr rfl (fun _ => rfl), hD0.fr (fun _ => rfl) (fun _ => rfl), hG0.fr (fun _ => rfl) (fun _ => rfl) (fun _ => rfl) (fun _ => rfl) (fun _ => rfl) (fun _ => rfl), hF0.fr rfl rfl rfl rfl rfl rfl, ⟨rfl, v2, ?_, ?_⟩, hH0.fr (fun _ => rfl) (fun _ => rfl) (fun _ => rfl) rfl rfl rfl rfl rfl (fun _ => rfl) (fun _ => rfl), hI0.fr (fun _ => rfl) (fun _ => rfl) rfl rfl rfl (fun _ => rfl), hT0.fr rfl (fun _ => rfl) rfl (fun _ => rfl)⟩
      · exact hG0.1 3
      · show W0.2 8 13 + 1 = M0.2 0 44 + 1
        rw [v4]
  · have hkn : ¬ nI k = (0 : Int32) := fun q => hk0 ((nI_eq (b := 0) (by omega) (by decide)).mp q)
    rw [if_neg hkn, if_neg hkn]
    simp only [if_pos xi4, if_pos x3, if_pos x1, if_pos x0, c3, xc1, xc4, c0]
    obtain ⟨v, e, he, hv, hC, hMr⟩ := load_pair hi1 hi2 hD0 (W0.1 20 4) (k := 4) (Or.inr (Or.inr rfl))
    have eW : W0 = sW (W0.1 20) (W0.1 9 0) 0 (W0.1 8 14) (W0.1 8 15) W0 := by
      have := sW_eta W0
      rw [hW06] at this
      exact this.symm
    have eM : M0 = tW (M0.1 9) (M0.1 0 36) (M0.1 0 37) (M0.1 0 38) (M0.1 0 39) (M0.1 0 40) 0 (M0.1 0 46) M0 := by
      have := tW_eta M0
      rw [hM045] at this
      exact this.symm
    have hC1 := hC (W0.1 20) (W0.1 9 0) 0 (W0.1 8 14) (W0.1 8 15)
    rw [← eW, fl5_r] at hC1
    have hM1 := hMr (M0.1 9) (M0.1 0 36) (M0.1 0 37) (M0.1 0 38) (M0.1 0 39) (M0.1 0 40) 0 (M0.1 0 46)
    rw [← eM, fl5_r, hG0.1 4] at hM1
    have hC2 : sX8_load (W0.1 20 4) 4 W0 = _ := hC1
    rw [hG0.1 4] at hC2
    have hM2 : sX12_read (M0.1 9 4) 4 M0 = _ := hM1
    rw [hG0.1 4, hC2, xbd_some, hM2, xbd_some]
    rcases he with he | ⟨he, -⟩
    · subst he
      rw [← eW, ← eM, hW06, if_pos rfl, hM045, if_pos rfl]
      dsimp only [xlet]
      rw [un_l, un_l, serve_chain _ _ (un_lt _) (un_lt _)]
      obtain ⟨ans, W', M', s1, s2, s3, s4, s5, s6, s7, s8, s9⟩ := sv_k (W := W0) (M := M0) (k := k) (by omega) hk hD0 hH0 (W0.1 20 3) (W0.1 20 1) (hG0.1 3).symm v4
      have s2' := s2 v
      dsimp only at s2'
      rw [← hG0.1 3, ← hG0.1 1, s1, xbd_some, s2']
      have rW : ∀ k i, ¬ k = 7 ∧ ¬ k = 17 ∧ ¬ k = 18 → W'.1 k i = W0.1 k i := fun k i x => s3 k i (svC_f x)
      have rM : ∀ k i, ¬ k = 2 ∧ ¬ k = 4 ∧ ¬ (k = 0 ∧ (i = 5 ∨ i = 6 ∨ i = 8 ∨ i = 42 ∨ i = 43 ∨ i = 33)) → M'.1 k i = M0.1 k i := fun k i x => s4 k i (svM_f x)
      have e463 : sX12_serve_j463 v ans M' = some ((), xwi (xwi (xwi M' 0 34 (v &&& (-32))) 9 4 (M'.1 9 4 + 4)) 9 0 ans) := by
        unfold sX12_serve_j463
        rw [if_pos xi4, if_pos xi4, if_pos x0, xc4, c0]
      have e212 : sX12_step_j212 (m.1 0 36) (m.1 0 37) (m.1 0 38) (m.1 0 39) (m.1 0 40) (w.1 8 11) (-1) (xwi (xwi (xwi M' 0 34 (v &&& (-32))) 9 4 (M'.1 9 4 + 4)) 9 0 ans) = some (1, xwl (xwi (xwi (xwi M' 0 34 (v &&& (-32))) 9 4 (M'.1 9 4 + 4)) 9 0 ans) 0 44 (M'.2 0 44 + 1)) := by
        unfold sX12_step_j212
        rw [show (xwi (xwi (xwi M' 0 34 (v &&& (-32))) 9 4 (M'.1 9 4 + 4)) 9 0 ans).1 0 45 = M'.1 0 45 from rfl, rM 0 45 (by decide), hM045, if_pos rfl, if_pos (by decide)]
        rfl
      rw [e463, xbd_some, e212]
      have e44 : ∀ X : xW, X.1 6 2 = 0 → sX7_step_j44 X = some (1, xwl X 8 13 (X.2 8 13 + 1)) := fun X hX => by
        unfold sX7_step_j44
        rw [hX, if_pos rfl]
      have r62 : W'.1 6 2 = 0 := (rW 6 2 (by decide)).trans hW06
      -- the class's end, with the state it gets
      have fin : ∀ (X : xW), (∀ k i, ¬ k = 20 → ¬ (k = 8 ∧ (i = 10 ∨ i = 11)) → X.1 k i = W'.1 k i) → X.2 = W'.2 → (X.1 20 0 = ans ∧ X.1 20 4 = W'.1 20 4 + 4 ∧ ∀ i, ¬ i = 0 → ¬ i = 4 → X.1 20 i = W'.1 20 i) → X.1 8 11 = (v &&& (-32)) → X.1 8 10 = (if k == 7 then 7 else W0.1 8 10) → ∃ r w' m', sX7_step_j44 X = some (r, w') ∧ some ((1 : Int32), xwl (xwi (xwi (xwi M' 0 34 (v &&& (-32))) 9 4 (M'.1 9 4 + 4)) 9 0 ans) 0 44 (M'.2 0 44 + 1)) = some (r, m') ∧ KR B N w' m' ∧ (r = 1 ∨ (r = 0 ∧ ¬ w'.1 8 10 = 1)) ∧ m'.1 0 0 = m.1 0 0 := by
        intro X q1 q2 ⟨q3, q4, q5⟩ q6 q7
        have qq : ∀ k i, ¬ k = 20 ∧ ¬ k = 8 ∧ ¬ k = 7 ∧ ¬ k = 17 ∧ ¬ k = 18 → X.1 k i = W0.1 k i := fun k i x => (q1 k i x.1 (fun z => x.2.1 z.1)).trans (rW k i x.2.2)
        refine ⟨1, _, _, e44 X (by rw [q1 6 2 (by decide) (by decide)]; exact r62), rfl, ?_, Or.inl rfl, (rM 0 0 (by decide)).trans (hM0 0 0 (by decide) (by decide))⟩
        refine ⟨hi1.fr (qq 1 1 (by decide)) (fun i => qq 10 i (by omega)), hi2.fr (rM 0 2 (by decide)) (fun i => rM 1 i (by omega)), s7.fr (fun i => q1 17 i (by decide) (by omega)) (fun _ => rfl), ⟨fun i => ?_, fun i => ?_, fun i => ?_, fun i => ?_⟩, hF0.fr (qq 9 0 (by decide)) (rM 0 36 (by decide)) (rM 0 37 (by decide)) (rM 0 38 (by decide)) (rM 0 39 (by decide)) (rM 0 40 (by decide)), ⟨?_, ?_, ?_, ?_⟩, s8.fr (fun i => q1 7 i (by decide) (by omega)) (fun i => q1 18 i (by decide) (by omega)) (fun i => q1 19 i (by decide) (by omega)) rfl rfl rfl rfl rfl (fun _ => rfl) (fun _ => rfl), hI0.fr (fun i => qq 4 i (by omega)) (fun i => qq 16 i (by omega)) (rM 0 9 (by decide)) (rM 0 10 (by decide)) (rM 0 11 (by decide)) (fun i => rM 5 i (by omega)), hT0.fr (qq 41 0 (by decide)) (fun i => qq 40 i (by omega)) (rM 0 16 (by decide)) (fun i => rM 8 i (by omega))⟩
        · show X.1 20 i = (if 9 = 9 ∧ i = 0 then ans else (if 9 = 9 ∧ i = 4 then M'.1 9 4 + 4 else M'.1 9 i))
          by_cases z0 : i = 0
          · rw [if_pos ⟨rfl, z0⟩, z0, q3]
          · rw [if_neg (fun z => z0 z.2)]
            by_cases z4 : i = 4
            · rw [if_pos ⟨rfl, z4⟩, z4, q4, rW 20 4 (by decide), rM 9 4 (by decide), hG0.1]
            · rw [if_neg (fun z => z4 z.2), q5 i z0 z4, rW 20 i (by omega), rM 9 i (by omega), hG0.1]
        · exact (qq 21 i (by omega)).trans ((hG0.2.1 i).trans (rM 6 i (by omega)).symm)
        · exact (qq 11 i (by omega)).trans ((hG0.2.2.1 i).trans (rM 7 i (by omega)).symm)
        · show xz (X.1 11 i)
          rw [qq 11 i (by omega)]
          exact hG0.2.2.2 i
        · show X.1 8 10 = M'.1 0 33
          rw [q7, s9, v1]
        · exact q6
        · show X.1 8 12 = M'.1 0 41
          rw [q1 8 12 (by decide) (by decide), rW 8 12 (by decide), rM 0 41 (by decide), v3]
        · show X.2 8 13 + 1 = M'.2 0 44 + 1
          rw [q2, s5, s6, v4]
      by_cases h7 : k = 7
      · rw [if_pos (show nI k = (7 : Int32) from by rw [h7]; rfl), xbd_some]
        refine fin _ (fun k i x y => ?_) rfl ⟨rfl, rfl, fun i a b => ?_⟩ rfl (by rw [h7]; rfl)
        · rw [xwi_o (fun z => y ⟨z.1, Or.inl z.2⟩), xwi_o (fun z => y ⟨z.1, Or.inr z.2⟩), xwi_o (fun z => x z.1), xwi_o (fun z => x z.1)]
        · rw [xwi_o (by omega), xwi_o (by omega), xwi_o (by omega), xwi_o (by omega)]
      · have hk7 : (k == 7) = false := beq_eq_false_iff_ne.mpr h7
        rw [if_neg (show ¬ nI k = (7 : Int32) from fun q => h7 ((nI_eq (b := 7) (by omega) (by decide)).mp q)), xbd_some]
        refine fin _ (fun k i x y => ?_) rfl ⟨rfl, rfl, fun i a b => ?_⟩ rfl (by rw [hk7]; exact rW 8 10 (by decide))
        · rw [xwi_o (fun z => y ⟨z.1, Or.inr z.2⟩), xwi_o (fun z => x z.1), xwi_o (fun z => x z.1)]
        · rw [xwi_o (by omega), xwi_o (by omega), xwi_o (by omega)]
    · subst he
      rw [show (sW (W0.1 20) (W0.1 9 0) 5 (W0.1 8 14) (W0.1 8 15) W0).1 6 2 = 5 from rfl, if_neg (by decide), xbd_some, show (tW (M0.1 9) (M0.1 0 36) (M0.1 0 37) (M0.1 0 38) (M0.1 0 39) (M0.1 0 40) 5 (M0.1 0 46) M0).1 0 45 = 5 from rfl, if_neg (by decide), xbd_some]
      obtain ⟨w2, m2, q1, q2, q3, q4, q9⟩ := fin_no (wB := sW (W0.1 20) (W0.1 9 0) 5 (W0.1 8 14) (W0.1 8 15) W0) (mA := tW (M0.1 9) (M0.1 0 36) (M0.1 0 37) (M0.1 0 38) (M0.1 0 39) (M0.1 0 40) 5 (M0.1 0 46) M0) (e := 5) (a9 := -1) hK (fc_sW fW0) (fm_tW fM0) (hD0.fr (fun _ => rfl) (fun _ => rfl)) (by decide) (hW0 8 11 (by decide)) (fun i => hW0 21 i (by omega)) (hW0 8 12 (by decide)) (by show W0.2 8 13 = _; rw [hW02]) rfl (hW0 9 0 (by decide)) rfl (fun i => hM0 6 i (by decide) (by omega)) (hM0 0 41 (by decide) (by decide)) (by show M0.2 0 44 = _; rw [hM02]) hM010 (fun i _ => hW0 20 i (by omega)) (fun i _ => hG0.1 i)
      rw [u2]
      exact ⟨0, w2, m2, q1, q2, q3, Or.inr ⟨rfl, by rw [q4]; decide⟩, q9⟩
theorem step_p (hK : KR B N w m) : ∃ r w' m', sX7_step w = some (r, w') ∧ sX12_step m = some (r, m') ∧ KR B N w' m' ∧ (r = 1 ∨ (r = 0 ∧ ¬ w'.1 8 10 = 1)) ∧ m'.1 0 0 = m.1 0 0 := by
  by_cases h : ∃ k, k < 16 ∧ un (w.1 8 11) = 1024 + 32 * k
  · obtain ⟨k, hk, hg⟩ := h
    exact step_g hK hk hg
  · exact step_n hK (fun k hk q => h ⟨k, hk, q⟩)
end SG
