/-! the step of an instruction -/
theorem stC_f {k i : Nat} (h : stC_ k i = false) : ¬ k = 2 ∧ ¬ k = 3 ∧ ¬ k = 6 ∧ ¬ k = 8 ∧ ¬ k = 9 ∧ ¬ k = 17 ∧ ¬ k = 20 ∧ ¬ k = 21 ∧ ¬ k = 22 := by
  refine ⟨?_, ?_, ?_, ?_, ?_, ?_, ?_, ?_, ?_⟩ <;> (intro q; subst q; simp [stC_] at h)
theorem stM_f {k i : Nat} (h : stM_ k i = false) : ¬ k = 2 ∧ ¬ k = 6 ∧ ¬ k = 9 ∧ ¬ k = 10 ∧ ¬ (k = 0 ∧ 17 ≤ i ∧ ¬ i = 41 ∧ ¬ i = 42 ∧ ¬ i = 43) := by
  refine ⟨?_, ?_, ?_, ?_, ?_⟩
  · intro q; subst q; simp [stM_] at h
  · intro q; subst q; simp [stM_] at h
  · intro q; subst q; simp [stM_] at h
  · intro q; subst q; simp [stM_] at h
  · intro q
    obtain ⟨rfl, q1, q2, q3, q4⟩ := q
    simp [stM_, q1, q2, q3, q4] at h
theorem fc_dW {a b : xW} {l2 l3 : List Int32} (h : frC stC_ a b) : frC stC_ a (dW l2 l3 b) := fun k i q => by
  have f := stC_f q
  rw [dW_o f.1 f.2.1]; exact h k i q
theorem fc_sW {a b : xW} {rg : Nat → Int32} {fl tr wh fo : Int32} (h : frC stC_ a b) : frC stC_ a (sW rg fl tr wh fo b) := fun k i q => by
  have f := stC_f q
  rw [sW_x (by omega)]; exact h k i q
theorem fc_cp8 {a b : xW} {k0 k1 : Nat} (h : frC stC_ a b) (hk : k1 = 22 ∨ k1 = 20) : frC stC_ a (xcp8 b k0 k1) := fun k i q => by
  have f := stC_f q
  exact (if_neg (fun z => by omega)).trans (h k i q)
theorem fc_D {a b b' m m' : xW} (h : frC stC_ a b) (hf : frD b b' m m') : frC stC_ a b' := fun k i q => by
  have f := stC_f q
  rw [hf.1 k i f.2.2.2.2.2.1]; exact h k i q
theorem fm_mW {a b : xW} {l : List Int32} (h : frC stM_ a b) : frC stM_ a (mW l b) := fun k i q => by
  have f := stM_f q
  rw [mW_o (by omega)]; exact h k i q
theorem fm_tW {a b : xW} {rg : Nat → Int32} {c p z s o kp ef : Int32} (h : frC stM_ a b) : frC stM_ a (tW rg c p z s o kp ef b) := fun k i q => by
  have f := stM_f q
  rw [tW_x (by omega)]; exact h k i q
theorem fm_cp {a b : xW} {k0 k1 j : Nat} (h : frC stM_ a b) (hk : k1 = 10 ∨ k1 = 9) : frC stM_ a (cpF k0 k1 b j) := fun k i q => by
  have f := stM_f q
  rw [cpF_o (by omega)]; exact h k i q
theorem fm_D {a b b' w w' : xW} (h : frC stM_ a b) (hf : frD w w' b b') : frC stM_ a b' := fun k i q => by
  have f := stM_f q
  rw [hf.2.2.1 k i f.1]; exact h k i q
theorem sW_eta (w : xW) : sW (w.1 20) (w.1 9 0) (w.1 6 2) (w.1 8 14) (w.1 8 15) w = w := by
  refine Prod.ext ?_ rfl
  funext k i
  show (if k = 20 then w.1 20 i else if k = 9 ∧ i = 0 then w.1 9 0 else if k = 6 ∧ i = 2 then w.1 6 2 else if k = 8 ∧ i = 14 then w.1 8 14 else if k = 8 ∧ i = 15 then w.1 8 15 else w.1 k i) = w.1 k i
  by_cases h1 : k = 20
  · rw [if_pos h1, h1]
  rw [if_neg h1]
  by_cases h2 : k = 9 ∧ i = 0
  · rw [if_pos h2, h2.1, h2.2]
  rw [if_neg h2]
  by_cases h3 : k = 6 ∧ i = 2
  · rw [if_pos h3, h3.1, h3.2]
  rw [if_neg h3]
  by_cases h4 : k = 8 ∧ i = 14
  · rw [if_pos h4, h4.1, h4.2]
  rw [if_neg h4]
  by_cases h5 : k = 8 ∧ i = 15
  · rw [if_pos h5, h5.1, h5.2]
  rw [if_neg h5]
theorem tW_eta (m : xW) : tW (m.1 9) (m.1 0 36) (m.1 0 37) (m.1 0 38) (m.1 0 39) (m.1 0 40) (m.1 0 45) (m.1 0 46) m = m := by
  refine Prod.ext ?_ rfl
  funext k i
  show (if k = 9 then m.1 9 i else if k = 0 ∧ i = 36 then m.1 0 36 else if k = 0 ∧ i = 37 then m.1 0 37 else if k = 0 ∧ i = 38 then m.1 0 38 else if k = 0 ∧ i = 39 then m.1 0 39 else if k = 0 ∧ i = 40 then m.1 0 40 else if k = 0 ∧ i = 45 then m.1 0 45 else if k = 0 ∧ i = 46 then m.1 0 46 else m.1 k i) = m.1 k i
  by_cases h1 : k = 9
  · rw [if_pos h1, h1]
  rw [if_neg h1]
  by_cases h2 : k = 0
  · subst h2
    by_cases a1 : i = 36
    · subst a1; rfl
    by_cases a2 : i = 37
    · subst a2; rfl
    by_cases a3 : i = 38
    · subst a3; rfl
    by_cases a4 : i = 39
    · subst a4; rfl
    by_cases a5 : i = 40
    · subst a5; rfl
    by_cases a6 : i = 45
    · subst a6; rfl
    by_cases a7 : i = 46
    · subst a7; rfl
    rw [if_neg (fun q => a1 q.2), if_neg (fun q => a2 q.2), if_neg (fun q => a3 q.2), if_neg (fun q => a4 q.2), if_neg (fun q => a5 q.2), if_neg (fun q => a6 q.2), if_neg (fun q => a7 q.2)]
  · rw [if_neg (fun q => h2 q.1), if_neg (fun q => h2 q.1), if_neg (fun q => h2 q.1), if_neg (fun q => h2 q.1), if_neg (fun q => h2 q.1), if_neg (fun q => h2 q.1), if_neg (fun q => h2 q.1)]
theorem inIm_c {w : xW} {B : Nat → Int32} {N : Nat} (hw : imgC w B N) (a : Int32) : sX8_inImage a 1 w = some (bI (decide (4096 ≤ un a ∧ un a + 1 ≤ 4096 + N)), w) := by
  unfold sX8_inImage
  rw [hw.1, show (4096 : Int32) + nI N = nI (4096 + N) from nI_add 4096 N, show (1 : Int64) = lN 1 from rfl, show (4096 : Int32) = nI 4096 from rfl, within_v (by decide) (by decide) (by have := hw.2.1; omega), xbd_some, if_pos (bI_xz _)]
theorem op49 : ∀ q ∈ opTab, (q.1 = 49 → q.2.2.1 = 32) ∧ (¬ q.1 = 49 → ¬ q.2.2.1 = 32) := by decide +kernel
theorem dO_32' {W : xW} {p1 : Int32} (h : W.1 0 17 = 32) : sX12_doOther p1 W = some (p1, W) := by
  rw [dO_32 h]
  have : sX12_doRest p1 W = some (p1, W) := by
    unfold sX12_doRest
    rw [h]
    rfl
  rw [this, xbd_some]
theorem j129_e (a3 a4 a5 a6 a7 a8 a9 : Int32) (W : xW) : sX12_step_j129 a3 a4 a5 a6 a7 a8 a9 W = sX12_step_j212 a3 a4 a5 a6 a7 a8 a9 (xwi W 0 45 5) := rfl
theorem j171_e (a3 a4 a5 a6 a7 a8 a9 : Int32) (W : xW) : sX12_step_j171 a3 a4 a5 a6 a7 a8 a9 W = sX12_step_j212 a3 a4 a5 a6 a7 a8 a9 (xwi W 0 45 6) := rfl
theorem TR.n1 {e : Int32} (h : TR e) : ¬ e = 1 := by
  rcases h with rfl | rfl | rfl | rfl <;> decide
section SI
variable {B : Nat → Int32} {N : Nat} {w m : xW}
/-- what both have before an instruction is done -/
theorem step_x (hK : KR B N w m) {p : Nat} (hp : p < 2048) (hu : w.1 8 11 = nI (4096 + p)) {L : Nat} {W1 M1 : xW} (hc : frC stC_ w W1) (hm : frC stM_ m M1) (hW2 : W1.2 = w.2) (hM2 : M1.2 = m.2) (hI : IR L W1 M1) (hi1 : imgC W1 B N) (hi2 : imgM M1 B N) (hD : dataP W1 M1)
    (c0 : W1.1 6 2 = 0) (c1 : ∀ i, W1.1 20 i = w.1 20 i) (c2 : W1.1 9 0 = w.1 9 0) (c3 : ∀ i, W1.1 21 i = w.1 21 i) (c4 : W1.1 8 11 = w.1 8 11) (c5 : W1.1 8 12 = w.1 8 12) (c6 : W1.1 8 10 = w.1 8 10) (c7 : W1.1 8 9 = w.1 9 0) (c8 : ∀ i, i < 8 → W1.1 22 i = w.1 20 i)
    (m0 : M1.1 0 45 = 0) (m1 : ∀ i, M1.1 9 i = m.1 9 i) (m2 : M1.1 0 36 = m.1 0 36) (m3 : M1.1 0 37 = m.1 0 37) (m4 : M1.1 0 38 = m.1 0 38) (m5 : M1.1 0 39 = m.1 0 39) (m6 : M1.1 0 40 = m.1 0 40) (m7 : ∀ i, M1.1 6 i = m.1 6 i) (m8 : M1.1 0 41 = m.1 0 41) (m9 : M1.1 0 33 = m.1 0 33) (m10 : ∀ i, i < 8 → M1.1 10 i = m.1 9 i)
    (hfo : M1.1 0 34 + M1.1 0 30 = W1.1 8 15) :
    ∃ r w' m', xbd (sX7_addressOfE W1) (fun x7 w8 => xbd (sX7_execute (xwi w8 8 14 x7)) (fun _ w5 => xbd (sX7_settle w5) (fun _ w6 => sX7_step_j44 w6))) = some (r, w') ∧ sX12_step_j180 (m.1 0 36) (m.1 0 37) (m.1 0 38) (m.1 0 39) (m.1 0 40) (m.1 0 34) (nI p) M1 = some (r, m') ∧ KR B N w' m' ∧ (r = 1 ∨ (r = 0 ∧ ¬ w'.1 8 10 = 1)) ∧ m'.1 0 0 = m.1 0 0 := by
  obtain ⟨h1, h2, h3, ⟨g1, g2, g3, g4⟩, ⟨fc, fp, fz, fs, fo, f1, f2, f3, f4, f5, f6⟩, ⟨u1, u2, u3, u4⟩, h7, h8, h9⟩ := id hK
  -- the worlds as overlays
  have eW : W1 = sW (w.1 20) (fb fc fp fz fs fo) 0 (W1.1 8 14) (W1.1 8 15) W1 := by
    have := sW_eta W1
    rw [show W1.1 20 = w.1 20 from funext c1, c2, f1, c0] at this
    exact this.symm
  have eM : M1 = tW (w.1 20) (bI fc) (bI fp) (bI fz) (bI fs) (bI fo) 0 (M1.1 0 46) M1 := by
    have := tW_eta M1
    rw [show M1.1 9 = w.1 20 from funext (fun i => (m1 i).trans (g1 i).symm), m2, f2, m3, f3, m4, f4, m5, f5, m6, f6, m0] at this
    exact this.symm
  generalize hfo' : W1.1 8 15 = fo0 at *
  generalize hef' : M1.1 0 46 = ef0 at *
  generalize hwh' : W1.1 8 14 = wh0 at *
  have hcl : xbd (sX7_addressOfE W1) (fun x7 w8 => xbd (sX7_execute (xwi w8 8 14 x7)) (fun _ w5 => xbd (sX7_settle w5) (fun _ w6 => sX7_step_j44 w6))) = xbd (sX7_execute (sW (w.1 20) (fb fc fp fz fs fo) 0 (adV (w.1 20) (W1.1 2 9) (W1.1 2 10) (W1.1 2 11) (W1.1 2 12)) fo0 W1)) (fun _ w5 => xbd (sX7_settle w5) (fun _ w6 => sX7_step_j44 w6)) := by
    have ea : sX7_addressOfE W1 = some (adV (w.1 20) (W1.1 2 9) (W1.1 2 10) (W1.1 2 11) (W1.1 2 12), W1) := by
      have := addr_c (w := W1) (rg := w.1 20) (fl := fb fc fp fz fs fo) (tr := 0) (wh := wh0) (fo := fo0) hI.adr.1 hI.adr.2
      rw [← eW] at this
      exact this
    rw [ea, xbd_some]
    have ew : xwi W1 8 14 (adV (w.1 20) (W1.1 2 9) (W1.1 2 10) (W1.1 2 11) (W1.1 2 12)) = sW (w.1 20) (fb fc fp fz fs fo) 0 (adV (w.1 20) (W1.1 2 9) (W1.1 2 10) (W1.1 2 11) (W1.1 2 12)) fo0 W1 := by
      have := sW_wwh (w := W1) (rg := w.1 20) (fl := fb fc fp fz fs fo) (tr := 0) (wh := wh0) (fo := fo0) (v := adV (w.1 20) (W1.1 2 9) (W1.1 2 10) (W1.1 2 11) (W1.1 2 12))
      rw [← eW] at this
      exact this
    rw [ew]
  rw [hcl]
  generalize hwh : adV (w.1 20) (W1.1 2 9) (W1.1 2 10) (W1.1 2 11) (W1.1 2 12) = wh
  have h49 := op49 _ hI.1
  dsimp only at h49
  unfold sX12_step_j180
  by_cases hh : W1.1 2 0 = 49
  · have g0 := h49.1 hh
    have e1 : sX7_execute (sW (w.1 20) (fb fc fp fz fs fo) 0 wh fo0 W1) = some ((), sW (w.1 20) (fb fc fp fz fs fo) 0 wh fo0 (xwi W1 8 10 3)) := by
      rw [ex_11 (by rw [sW_c2, hh]; decide) (by rw [sW_c2, hh]; decide), rs_49 (by rw [sW_c2, hh]), sW_wx (by decide)]
    have e2 : sX12_doOne M1 = some ((), xwi M1 0 34 fo0) := by
      rw [doOne_o (by rw [g0]; decide) (by rw [g0]; decide), dO_32' g0, xbd_some, hfo]
    rw [e1, xbd_some, e2, xbd_some, show (xwi M1 0 34 fo0).1 0 45 = M1.1 0 45 from rfl, m0, if_pos rfl, show (xwi M1 0 34 fo0).1 0 17 = M1.1 0 17 from rfl, g0, if_pos rfl]
    have q := fin_ok (wA := sW (w.1 20) (fb fc fp fz fs fo) 0 wh fo0 (xwi W1 8 10 3)) (mA := xwi (xwi M1 0 34 fo0) 0 33 3) hK (fc_sW (hc.wi rfl)) ((hm.wi rfl).wi rfl) (hD.fr (fun _ => rfl) (fun _ => rfl)) hp rfl (c4.trans hu) c3 c5 (by show W1.2 8 13 = _; rw [hW2]) m0 m7 m8 (by show M1.2 0 44 = _; rw [hM2]) (fun i => (g1 i).trans (m1 i).symm) ⟨fc, fp, fz, fs, fo, rfl, m2.trans f2, m3.trans f3, m4.trans f4, m5.trans f5, m6.trans f6⟩ rfl rfl (m.1 0 36) (m.1 0 37) (m.1 0 38) (m.1 0 39) (m.1 0 40) (m.1 0 34)
    obtain ⟨w', m', q1, q2, q3, q9⟩ := q
    exact ⟨1, w', m', q1, q2, q3, Or.inl rfl, q9⟩
  · have hx := exec_p (rg := w.1 20) (c := fc) (p := fp) (z := fz) (s := fs) (o := fo) (ef := ef0) hi1 hi2 hD hI hh hwh.symm hfo
    rw [← eM] at hx
    obtain ⟨rg1, rg2, fl1, e, wh1, fo1, c', p', z', s', o', ef1, to, w', m', ex1, ex2, hfr, hD', hr8, hTR, hz⟩ := hx
    have q0 : ∀ i, m'.1 0 i = M1.1 0 i := fun i => hfr.2.2.1 0 i (by decide)
    have qc : ∀ k i, ¬ k = 17 → w'.1 k i = W1.1 k i := hfr.1
    rw [ex1, xbd_some, ex2, xbd_some]
    have r45 : (tW rg2 c' p' z' s' o' e ef1 (xwi m' 0 34 to)).1 0 45 = e := rfl
    have r17 : (tW rg2 c' p' z' s' o' e ef1 (xwi m' 0 34 to)).1 0 17 = M1.1 0 17 := q0 17
    have r33 : (tW rg2 c' p' z' s' o' e ef1 (xwi m' 0 34 to)).1 0 33 = m.1 0 33 := (q0 33).trans m9
    have e205 : sX12_step_j205 (m.1 0 36) (m.1 0 37) (m.1 0 38) (m.1 0 39) (m.1 0 40) (m.1 0 34) (nI p) (tW rg2 c' p' z' s' o' e ef1 (xwi m' 0 34 to)) = sX12_step_j212 (m.1 0 36) (m.1 0 37) (m.1 0 38) (m.1 0 39) (m.1 0 40) (m.1 0 34) (nI p) (xwi (tW rg2 c' p' z' s' o' e ef1 (xwi m' 0 34 to)) 0 33 (m.1 0 33)) := by
      unfold sX12_step_j205 sX12_step_j209
      rw [r33]
    rw [r45, r17, if_neg (h49.2 hh), e205]
    have ite_same : ∀ X : Option (Int32 × xW), (if e = 0 then X else X) = X := fun X => by split <;> rfl
    rw [ite_same]
    by_cases he : e = 0
    · obtain ⟨z1, z2, bc, bp, bz, bs, bo, b1, b2, b3, b4, b5, b6⟩ := hz he
      subst he z1 z2 b1 b2 b3 b4 b5 b6
      have q := fin_ok (wA := sW rg2 (fb bc bp bz bs bo) 0 wh1 to w') (mA := xwi (tW rg2 (bI bc) (bI bp) (bI bz) (bI bs) (bI bo) 0 ef1 (xwi m' 0 34 to)) 0 33 (m.1 0 33)) hK (fc_sW (fc_D hc hfr)) ((fm_tW ((fm_D hm hfr).wi rfl)).wi rfl) (hD'.fr (fun _ => rfl) (fun _ => rfl)) hp rfl (by show w'.1 8 11 = _; rw [qc 8 11 (by decide), c4, hu]) (fun i => (qc 21 i (by decide)).trans (c3 i)) ((qc 8 12 (by decide)).trans c5) (by show w'.2 8 13 = _; rw [hfr.2.1, hW2]) rfl (fun i => (hfr.2.2.1 6 i (by decide)).trans (m7 i)) ((q0 41).trans m8) (by show m'.2 0 44 = _; rw [hfr.2.2.2, hM2]) (fun i => rfl) ⟨bc, bp, bz, bs, bo, rfl, rfl, rfl, rfl, rfl, rfl⟩ rfl (by show w'.1 8 10 = m.1 0 33; rw [qc 8 10 (by decide), c6, u1]) (m.1 0 36) (m.1 0 37) (m.1 0 38) (m.1 0 39) (m.1 0 40) (m.1 0 34)
      obtain ⟨w2, m2, q1, q2, q3, q9⟩ := q
      exact ⟨1, w2, m2, q1, q2, q3, Or.inl rfl, q9⟩
    · have es : sX7_settle (sW rg1 fl1 e wh1 fo1 w') = some ((), xwi (xcp8 (sW rg1 fl1 e wh1 fo1 w') 22 20) 9 0 (w'.1 8 9)) := by
        unfold sX7_settle
        rw [sW_tr, if_neg he]
        rfl
      rw [es, xbd_some]
      have q := fin_no (wB := xwi (xcp8 (sW rg1 fl1 e wh1 fo1 w') 22 20) 9 0 (w'.1 8 9)) (mA := xwi (tW rg2 c' p' z' s' o' e ef1 (xwi m' 0 34 to)) 0 33 (m.1 0 33)) (e := e) (a9 := nI p) hK ((fc_cp8 (fc_sW (fc_D hc hfr)) (Or.inr rfl)).wi rfl) ((fm_tW ((fm_D hm hfr).wi rfl)).wi rfl) (hD'.fr (fun _ => rfl) (fun _ => rfl)) he ((qc 8 11 (by decide)).trans c4) (fun i => (qc 21 i (by decide)).trans (c3 i)) ((qc 8 12 (by decide)).trans c5) (by show w'.2 8 13 = _; rw [hfr.2.1, hW2]) rfl ((qc 8 9 (by decide)).trans c7) rfl (fun i => (hfr.2.2.1 6 i (by decide)).trans (m7 i)) ((q0 41).trans m8) (by show m'.2 0 44 = _; rw [hfr.2.2.2, hM2]) (fun i hi => (hfr.2.2.1 10 i (by decide)).trans (m10 i hi)) (fun i hi => by
          show (if 20 = 20 ∧ i < 8 then (sW rg1 fl1 e wh1 fo1 w').1 22 i else rg1 i) = _
          rw [if_pos ⟨rfl, hi⟩]
          exact (qc 22 i (by decide)).trans (c8 i hi)) (fun i hi => by
          show (if 20 = 20 ∧ i < 8 then (sW rg1 fl1 e wh1 fo1 w').1 22 i else rg1 i) = rg2 i
          rw [if_neg (fun z => by omega), hr8 i hi])
      obtain ⟨w2, m2, q1, q2, q3, q4, q9⟩ := q
      exact ⟨0, w2, m2, q1, q2, q3, Or.inr ⟨rfl, by rw [q4]; exact TR.n1 hTR⟩, q9⟩
end SI
