/-! the step where there is no gate -/
section SN
variable {B : Nat → Int32} {N : Nat} {w m : xW}
theorem dW_22 {l2 l3 : List Int32} {W : xW} : (dW l2 l3 W).2 = W.2 := rfl
theorem mW_22 {l : List Int32} {M : xW} : (mW l M).2 = M.2 := rfl
theorem step_n (hK : KR B N w m) (hg : ∀ k, k < 16 → un (w.1 8 11) ≠ 1024 + 32 * k) :
    ∃ r w' m', sX7_step w = some (r, w') ∧ sX12_step m = some (r, m') ∧ KR B N w' m' ∧ (r = 1 ∨ (r = 0 ∧ ¬ w'.1 8 10 = 1)) ∧ m'.1 0 0 = m.1 0 0 := by
  obtain ⟨h1, h2, h3, ⟨g1, g2, g3, g4⟩, ⟨fc, fp, fz, fs, fo, f1, f2, f3, f4, f5, f6⟩, ⟨u1, u2, u3, u4⟩, h7, h8, h9⟩ := id hK
  have hlt := un_lt (w.1 8 11)
  have hN := h1.2.1
  generalize hu : un (w.1 8 11) = u at *
  have ea : w.1 8 11 = nI u := by rw [un_of (w.1 8 11), hu]
  -- the class up to isReady
  have hcl : sX7_step w = xbd (sX7_isReady (xwi w 6 2 0)) (fun x3 w4 => (if x3 = 0 then sX7_step_j44 w4 else xbd (sX7_execute w4) (fun _ w5 => xbd (sX7_settle w5) (fun _ w6 => sX7_step_j44 w6)))) := by
    unfold sX7_step
    rcases gate_c (w.1 8 11) (xwi w 6 2 0) with ⟨k, k1, k2, k3⟩ | ⟨-, k3⟩
    · exact absurd (hu.symm.trans k2) (hg k k1)
    · rw [k3, xbd_some, if_pos rfl]
  have him : sX8_inImage ((xwi w 6 2 0).1 8 11) 1 (xwi w 6 2 0) = some (bI (decide (4096 ≤ u ∧ u + 1 ≤ 4096 + N)), xwi w 6 2 0) := by
    have := inIm_c (h1.fr (w' := xwi w 6 2 0) rfl (fun i => rfl)) (w.1 8 11)
    rw [hu] at this
    exact this
  have hfW0 : frC stC_ w (xwi w 6 2 0) := (frC.r _ w).wi rfl
  have hfM0 : frC stM_ m (cpF 9 10 (xwi m 0 45 0) 0) := fm_cp ((frC.r _ m).wi rfl) (Or.inl rfl)
  have hgm : decide (1024 ≤ u ∧ u < 1536 ∧ u % 32 = 0) = false := decide_eq_false (fun q => hg ((u - 1024) / 32) (by omega) (by omega))
  rw [hcl, step_m, ← u2, hu]
  unfold stR sX7_isReady
  rw [gate_m hlt, hgm, xbd_some, show bI false = 0 from rfl, if_pos rfl, him, xbd_some]
  have M2 : (cpF 9 10 (xwi m 0 45 0) 0).1 0 2 = nI N := h2.1
  -- outside
  have out : ∀ (X : Option (Int32 × xW)), ¬ (4096 ≤ u ∧ u + 1 ≤ 4096 + N) → X = sX12_step_j129 (m.1 0 36) (m.1 0 37) (m.1 0 38) (m.1 0 39) (m.1 0 40) (w.1 8 11) (-1) (cpF 9 10 (xwi m 0 45 0) 0) → ∃ r w' m', xbd (if bI (decide (4096 ≤ u ∧ u + 1 ≤ 4096 + N)) = 0 then xbd (sX8_fail (5 : Int32) (xwi w 6 2 0)) (fun _ w9 => some ((0 : Int32), w9)) else xbd (sX1_decode (((xwi w 6 2 0).1 8 11) - (4096 : Int32)) (xwi w 6 2 0)) (fun x3 w4 => (if x3 = 0 then sX7_isReady_j56 w4 else xbd (sX5_permits (((xwi w 6 2 0).1 8 11) - (4096 : Int32)) w4) (fun x5 w6 => (if x5 = 0 then sX7_isReady_j56 w6 else xbd (sX7_addressOfE (xwi (xwi (xcp8 w6 20 22) 8 9 (w6.1 9 0)) 8 15 ((w6.1 8 11) + (w6.1 2 14)))) (fun x7 w8 => some ((1 : Int32), (xwi w8 8 14 x7)))))))) (fun x3 w4 => (if x3 = 0 then sX7_step_j44 w4 else xbd (sX7_execute w4) (fun _ w5 => xbd (sX7_settle w5) (fun _ w6 => sX7_step_j44 w6)))) = some (r, w') ∧ X = some (r, m') ∧ KR B N w' m' ∧ (r = 1 ∨ (r = 0 ∧ ¬ w'.1 8 10 = 1)) ∧ m'.1 0 0 = m.1 0 0 := by
    intro X ho hX
    rw [decide_eq_false ho, show bI false = 0 from rfl, if_pos rfl, hX, j129_e]
    unfold sX8_fail
    rw [show (xwi w 6 2 0).1 6 2 = 0 from rfl, if_pos rfl, xbd_some, xbd_some, if_pos rfl]
    obtain ⟨w2, m2, q1, q2, q3, q4, q9⟩ := fin_no (wB := xwi (xwi w 6 2 0) 6 2 5) (mA := xwi (cpF 9 10 (xwi m 0 45 0) 0) 0 45 5) (e := 5) (a9 := -1) hK (hfW0.wi rfl) (hfM0.wi rfl) (h3.fr (fun _ => rfl) (fun _ => rfl)) (by decide) rfl (fun _ => rfl) rfl rfl rfl rfl rfl (fun _ => rfl) rfl rfl (fun i hi => cpF_in (k0 := 9) (k1 := 10) (w := xwi m 0 45 0) hi) (fun _ _ => rfl) (fun i _ => g1 i)
    rw [u2] 
    exact ⟨0, w2, m2, q1, q2, q3, Or.inr ⟨rfl, by rw [q4]; decide⟩, q9⟩
  by_cases hlow : u < 4096
  · refine out _ (fun q => by omega) ?_
    rw [if_pos (show lN u < (4096 : Int64) from (pk_lLT (b := 4096) (by omega) (by decide)).mpr hlow)]
  · rw [if_neg (show ¬ lN u < (4096 : Int64) from fun q => hlow ((pk_lLT (b := 4096) (by omega) (by decide)).mp q)), M2, show (4096 : Int32) + nI N = nI (4096 + N) from nI_add 4096 N, nI_l (by omega)]
    by_cases hhi : u < 4096 + N
    · rw [if_pos ((pk_lLT (by omega) (by omega)).mpr hhi)]
      have hin : 4096 ≤ u ∧ u + 1 ≤ 4096 + N := by omega
      obtain ⟨p, hp⟩ : ∃ p, u = 4096 + p := ⟨u - 4096, by omega⟩
      have hpN : p < N := by omega
      have e1 : (xwi w 6 2 0).1 8 11 - 4096 = nI p := by
        show w.1 8 11 - 4096 = _
        rw [ea, hp, show nI (4096 + p) - 4096 = nI (4096 + p - 4096) from pk_sub (a := 4096 + p) (b := 4096) (by omega), Nat.add_sub_cancel_left]
      have e2 : (lN u).toInt32 - 4096 = nI p := by
        rw [lN_i, hp, show nI (4096 + p) - 4096 = nI (4096 + p - 4096) from pk_sub (a := 4096 + p) (b := 4096) (by omega), Nat.add_sub_cancel_left]
      rw [decide_eq_true hin, show bI true = 1 from rfl, if_neg (by decide), e1, e2]
      have hi1 : imgC (xwi w 6 2 0) B N := h1.fr rfl (fun i => rfl)
      have hi2 : imgM (cpF 9 10 (xwi m 0 45 0) 0) B N := h2.fr rfl (fun i => rfl)
      obtain ⟨c0, c1, c2, c3, c4, c5, c6, c7, c8, c9, c10, c11, c12, c13, c14, a0, a1, a2, a3, a4, a5, a6, a7, a8, a9, a10, a11, a12, a13, l3, a14, len, ok, hc, hm, hd⟩ := decode_pair hi1 hi2 hpN
      rw [hc, xbd_some, hm, xbd_some]
      generalize hDD : dW [c0, c1, c2, c3, c4, c5, c6, c7, c8, c9, c10, c11, c12, c13, c14] l3 (xwi w 6 2 0) = DD
      generalize hMM : mW [a0, a1, a2, a3, a4, a5, a6, a7, a8, a9, a10, a11, a12, a13, a14, ok] (cpF 9 10 (xwi m 0 45 0) 0) = MM
      have hfD : frC stC_ w DD := by rw [← hDD]; exact fc_dW hfW0
      have hfM : frC stM_ m MM := by rw [← hMM]; exact fm_mW hfM0
      have rD : ∀ k i, ¬ k = 2 → ¬ k = 3 → DD.1 k i = (xwi w 6 2 0).1 k i := fun k i x y => by rw [← hDD]; exact dW_o x y
      have rM : ∀ k i, ¬ (k = 0 ∧ 17 ≤ i ∧ i < 33) → MM.1 k i = (cpF 9 10 (xwi m 0 45 0) 0).1 k i := fun k i x => by rw [← hMM]; exact mW_o x
      have rD2 : DD.2 = w.2 := by rw [← hDD]; rfl
      have rM2 : MM.2 = m.2 := by rw [← hMM]; rfl
      -- it is not done: 6
      have no6 : ∃ r w' m', xbd (sX7_isReady_j56 DD) (fun x3 w4 => (if x3 = 0 then sX7_step_j44 w4 else xbd (sX7_execute w4) (fun _ w5 => xbd (sX7_settle w5) (fun _ w6 => sX7_step_j44 w6)))) = some (r, w') ∧ sX12_step_j171 (m.1 0 36) (m.1 0 37) (m.1 0 38) (m.1 0 39) (m.1 0 40) (w.1 8 11) (nI p) MM = some (r, m') ∧ KR B N w' m' ∧ (r = 1 ∨ (r = 0 ∧ ¬ w'.1 8 10 = 1)) ∧ m'.1 0 0 = m.1 0 0 := by
        unfold sX7_isReady_j56 sX8_fail
        rw [rD 6 2 (by decide) (by decide), show (xwi w 6 2 0).1 6 2 = 0 from rfl, if_pos rfl, xbd_some, xbd_some, if_pos rfl, j171_e, u2]
        obtain ⟨w2, m2, q1, q2, q3, q4, q9⟩ := fin_no (wB := xwi DD 6 2 6) (mA := xwi MM 0 45 6) (e := 6) (a9 := nI p) hK (hfD.wi rfl) (hfM.wi rfl) (h3.fr (fun i => rD 17 i (by decide) (by decide)) (fun i => rM 2 i (by omega))) (by decide) (rD 8 11 (by decide) (by decide)) (fun i => rD 21 i (by decide) (by decide)) (rD 8 12 (by decide) (by decide)) (by show DD.2 8 13 = _; rw [rD2]) rfl (rD 9 0 (by decide) (by decide)) rfl (fun i => rM 6 i (by omega)) (rM 0 41 (by omega)) (by show MM.2 0 44 = _; rw [rM2]) (fun i hi => (rM 10 i (by omega)).trans (cpF_in (k0 := 9) (k1 := 10) (w := xwi m 0 45 0) hi)) (fun i _ => rD 20 i (by decide) (by decide)) (fun i _ => by
          show DD.1 20 i = MM.1 9 i
          rw [rD 20 i (by decide) (by decide), rM 9 i (by omega)]
          exact g1 i)
        exact ⟨0, w2, m2, q1, q2, q3, Or.inr ⟨rfl, by rw [q4]; decide⟩, q9⟩
      rcases hd with ⟨rfl, rfl⟩ | ⟨rfl, L, hL0, hL15, hLN, rfl, hc14, ha13, hRD⟩
      · rw [if_pos rfl, if_pos rfl]
        exact no6
      · rw [if_neg (show ¬ nI L = (0 : Int32) from fun q => by have := (nI_eq (b := 0) (by omega) (by decide)).mp q; omega), if_neg (by decide)]
        have hp2 : p < 2048 := by omega
        -- permitted
        have hpm : ∃ x5 : Int32, sX5_permits (nI p) DD = some (x5, DD) ∧ (x5 = 0 → w.1 4 9 = 1 ∧ w.1 16 p = 0) ∧ (¬ x5 = 0 → w.1 4 9 = 0 ∨ ¬ w.1 16 p = 0) := by
          unfold sX5_permits sX5_markAt
          rw [rD 4 9 (by decide) (by decide), show (xwi w 6 2 0).1 4 9 = w.1 4 9 from rfl]
          by_cases hv : w.1 4 9 = 0
          · exact ⟨1, by rw [if_pos hv], fun q => absurd q (by decide), fun _ => Or.inl hv⟩
          · rw [if_neg hv, if_neg (nI_pos (by omega)), if_pos (show nI p < (2048 : Int32) from (nI_ltI2 (b := 2048) (by omega) (by decide)).mpr hp2), if_pos (xin_n hp2 (by decide)), nI_clamp (by omega), rD 16 p (by decide) (by decide), xbd_some, show (xwi w 6 2 0).1 16 p = w.1 16 p from rfl]
            by_cases hk : w.1 16 p = 0
            · exact ⟨0, by rw [if_pos hk], fun _ => ⟨h8.1.resolve_left hv, hk⟩, fun q => absurd rfl q⟩
            · exact ⟨1, by rw [if_neg hk], fun q => absurd q (by decide), fun _ => Or.inr hk⟩
        obtain ⟨x5, q1, q2, q3⟩ := hpm
        rw [q1, xbd_some, rM 0 9 (by omega), show (cpF 9 10 (xwi m 0 45 0) 0).1 0 9 = m.1 0 9 from rfl, ← h8.2.1, if_pos (xin_n hp2 (by decide)), nI_clamp (by omega), rM 5 p (by omega), show (cpF 9 10 (xwi m 0 45 0) 0).1 5 p = m.1 5 p from rfl]
        by_cases hx : x5 = 0
        · obtain ⟨v1, v2⟩ := q2 hx
          rw [if_pos hx, v1, if_neg (by decide), if_pos (by rw [← h8.2.2.2.2.2 v1 p hp2]; exact v2)]
          exact no6
        · have hgo : (if w.1 4 9 = 0 then sX12_step_j180 (m.1 0 36) (m.1 0 37) (m.1 0 38) (m.1 0 39) (m.1 0 40) (w.1 8 11) (nI p) MM else if m.1 5 p = 0 then sX12_step_j171 (m.1 0 36) (m.1 0 37) (m.1 0 38) (m.1 0 39) (m.1 0 40) (w.1 8 11) (nI p) MM else sX12_step_j180 (m.1 0 36) (m.1 0 37) (m.1 0 38) (m.1 0 39) (m.1 0 40) (w.1 8 11) (nI p) MM) = sX12_step_j180 (m.1 0 36) (m.1 0 37) (m.1 0 38) (m.1 0 39) (m.1 0 40) (w.1 8 11) (nI p) MM := by
            by_cases hv : w.1 4 9 = 0
            · rw [if_pos hv]
            · rw [if_neg hv, if_neg (by rw [← h8.2.2.2.2.2 (h8.1.resolve_left hv) p hp2]; exact (q3 hx).resolve_left hv)]
          rw [if_neg hx, hgo, u2]
          generalize hW1 : xwi (xwi (xcp8 DD 20 22) 8 9 (DD.1 9 0)) 8 15 ((DD.1 8 11) + (DD.1 2 14)) = W1
          have rW : ∀ k i, ¬ k = 8 → ¬ k = 22 → W1.1 k i = DD.1 k i := fun k i x y => by
            rw [← hW1, xwi_o (fun q => x q.1), xwi_o (fun q => x q.1)]
            exact if_neg (fun q => y q.1)
          have rW8 : ∀ i, ¬ i = 9 → ¬ i = 15 → W1.1 8 i = DD.1 8 i := fun i x y => by
            rw [← hW1, xwi_o (fun q => y q.2), xwi_o (fun q => x q.2)]
            rfl
          have hIR : IR L W1 MM := by
            unfold IR
            simp only [rW 2 _ (by decide) (by decide)]
            rw [← hDD, ← hMM]
            simp (decide := true) only [dW_2, mW_at, List.getD_cons_succ, List.getD_cons_zero]
            exact hRD
          have hx180 := step_x (W1 := W1) (M1 := MM) hK hp2 (by rw [ea, hp]) (by rw [← hW1]; exact ((fc_cp8 hfD (Or.inl rfl)).wi rfl).wi rfl) hfM (by rw [← hW1]; exact rD2) rM2 hIR
            (h1.fr ((rW 1 1 (by decide) (by decide)).trans (rD 1 1 (by decide) (by decide))) (fun i => (rW 10 i (by decide) (by decide)).trans (rD 10 i (by decide) (by decide))))
            (h2.fr (rM 0 2 (by omega)) (fun i => rM 1 i (by omega)))
            (h3.fr (fun i => (rW 17 i (by decide) (by decide)).trans (rD 17 i (by decide) (by decide))) (fun i => rM 2 i (by omega)))
            ((rW 6 2 (by decide) (by decide)).trans (rD 6 2 (by decide) (by decide))) (fun i => (rW 20 i (by decide) (by decide)).trans (rD 20 i (by decide) (by decide))) ((rW 9 0 (by decide) (by decide)).trans (rD 9 0 (by decide) (by decide))) (fun i => (rW 21 i (by decide) (by decide)).trans (rD 21 i (by decide) (by decide)))
            ((rW8 11 (by decide) (by decide)).trans (rD 8 11 (by decide) (by decide))) ((rW8 12 (by decide) (by decide)).trans (rD 8 12 (by decide) (by decide))) ((rW8 10 (by decide) (by decide)).trans (rD 8 10 (by decide) (by decide)))
            (by rw [← hW1, xwi_o (by decide), xwi_s]; exact rD 9 0 (by decide) (by decide))
            (fun i hi => by
              rw [← hW1, xwi_o (by omega), xwi_o (by omega)]
              exact (if_pos ⟨rfl, hi⟩).trans (rD 20 i (by decide) (by decide)))
            (rM 0 45 (by omega)) (fun i => rM 9 i (by omega)) (rM 0 36 (by omega)) (rM 0 37 (by omega)) (rM 0 38 (by omega)) (rM 0 39 (by omega)) (rM 0 40 (by omega)) (fun i => rM 6 i (by omega)) (rM 0 41 (by omega)) (rM 0 33 (by omega))
            (fun i hi => (rM 10 i (by omega)).trans (cpF_in (k0 := 9) (k1 := 10) (w := xwi m 0 45 0) hi))
            (by
              rw [← hW1, xwi_s, rM 0 34 (by omega), rD 8 11 (by decide) (by decide), ← hMM, ← hDD, mW_at (by decide) (by decide), dW_2 (by decide)]
              show m.1 0 34 + a13 = w.1 8 11 + c14
              rw [hc14, ha13, u2])
          obtain ⟨r, w', m', z1, z2, z3, z4⟩ := hx180
          refine ⟨r, w', m', ?_, z2, z3, z4⟩
          rw [← z1]
          cases sX7_addressOfE W1 with
          | none => rfl
          | some q =>
            rw [xbd_some, xbd_some, xbd_some, if_neg (by decide)]
    · rw [if_neg (fun q => hhi ((pk_lLT (by omega) (by omega)).mp q))]
      exact out _ (fun q => by omega) rfl
end SN
