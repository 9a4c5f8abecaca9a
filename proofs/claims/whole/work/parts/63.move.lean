/-! instructions that move -/
section MV
variable {w m : xW} {B : Nat → Int32} {N L : Nat} {rg : Nat → Int32} {c p z s o : Bool} {wh fo ef : Int32}
/-- the reference reckons E's address, where there is one -/
theorem adr_p (h : IR L w m) (hE : eform (m.1 0 18) = true) (hwh : wh = adV rg (w.1 2 9) (w.1 2 10) (w.1 2 11) (w.1 2 12)) : ∃ ef1 : Int32, (w.1 2 6 = 1 → ef1 = wh) ∧ ∀ (c p z s o kp ef : Int32) (β : Type) (K : Int32 → xW → Option β), (if (tW rg c p z s o kp ef m).1 0 22 = 3 then K 0 (tW rg c p z s o kp ef m) else xbd (sX12_address (tW rg c p z s o kp ef m)) (fun x w2 => K x w2)) = K ef1 (tW rg c p z s o kp ef m) := by
  obtain ⟨i7, i8, e7, e8, hcase⟩ := h.E hE
  rcases hcase with ⟨hm3, hc6⟩ | ⟨hm3, hc6, b1, b2, b3, b4, b5, b6⟩
  · exact ⟨0, fun q => absurd (hc6.symm.trans q) (by decide), fun c p z s o kp ef β K => by rw [tW_lo (by decide), hm3, if_pos rfl]⟩
  · refine ⟨wh, fun _ => rfl, fun c p z s o kp ef β K => ?_⟩
    rw [tW_lo (by decide), if_neg hm3, addr_m (dp := w.1 2 12) (bs := w.1 2 9) (ix := w.1 2 10) (sc := w.1 2 11) b3.symm b1.symm b2.symm (by rw [b1]; exact b4) (by rw [b2]; exact b5) b6, xbd_some, ← hwh]
theorem x_mov (hw : imgC w B N) (hm : imgM m B N) (hd : dataP w m) (h : IR L w m) (h0 : w.1 2 0 = 28) (g0 : m.1 0 17 = 16) (hf : (w.1 2 1 = 1 ∧ m.1 0 18 = 1) ∨ (w.1 2 1 = 2 ∧ m.1 0 18 = 2) ∨ (w.1 2 1 = 3 ∧ m.1 0 18 = 4) ∨ (w.1 2 1 = 3 ∧ m.1 0 18 = 13))
    (hwh : wh = adV rg (w.1 2 9) (w.1 2 10) (w.1 2 11) (w.1 2 12)) (hfo : m.1 0 34 + m.1 0 30 = fo) : EX w m (sX7_execute (sW rg (fb c p z s o) 0 wh fo w)) (sX12_doOne (tW rg (bI c) (bI p) (bI z) (bI s) (bI o) 0 ef m)) := by
  obtain ⟨w4, w5, wa, wb, -⟩ := h.wd
  have weq := h.weq (by rw [g0]; decide)
  have hrg : in8 (w.1 2 8) := h.2.2.1.2.1
  rw [ex_6 (by rw [sW_c2, h0]; decide) (by rw [sW_c2, h0]; decide), mv_28 (by rw [sW_c2, h0]), doOne_o (by rw [tW_lo (by decide), g0]; decide) (by rw [tW_lo (by decide), g0]; decide), tW_lo (by decide), tW_lo (by decide), hfo, dO_16 (by rw [tW_lo (by decide), g0])]
  simp only [xbd_idU]
  rcases hf with ⟨f1, f2⟩ | ⟨f1, f2⟩ | ⟨f1, f2⟩ | ⟨f1, f2⟩
  · have hE : eform (m.1 0 18) = true := by rw [f2]; decide
    have e8 := (h.E hE).2.2.2.1
    obtain ⟨ef1, hef, hA⟩ := adr_p (rg := rg) h hE hwh
    obtain ⟨e2, F, w', m', hfr, hd', h2, hT, hC2, hM2⟩ := writeE_p hd h hE (v := prt rg (w.1 2 8).toNatClampNeg (w.1 2 4)) (v2 := prt rg (w.1 2 8).toNatClampNeg (w.1 2 4)) (wh := wh) (ef := ef1) rfl hef 0
    rw [rs_G (by rw [sW_c2, f1]; decide), readG_c h, xbd_some, wf_E _ (by rw [sW_c2, f1]; decide), hC2, tW_lo (i := 18) (by decide), f2, if_neg (by decide), if_neg (by decide), hA]
    unfold sX12_doOther_j514
    rw [tW_lo (i := 18) (by decide), f2, if_neg (by decide), tW_wef, tW_lo (by decide), tW_lo (by decide), ← e8, ← w4, part_x hrg wa, xbd_some, hM2, xbd_some, xbd_some, tW_wx (by decide)]
    exact EX.ok rfl rfl hfr hd'
  · have hE : eform (m.1 0 18) = true := by rw [f2]; decide
    have e8 := (h.E hE).2.2.2.1
    obtain ⟨v, e, ef1, he, hv, hwh1, -, hC, hM⟩ := readE_p hw hm hd h hE rg hwh
    rw [rs_E (by rw [sW_c2, f1]), hC, xbd_some, wf_G _ (by rw [sW_c2, f1]; decide), writeG_c h, tW_lo (i := 18) (by decide), f2, if_neg (by decide), if_pos rfl, hM, xbd_some, tW_lo (by decide), tW_lo (by decide), ← e8, ← w4, setReg_x hrg wa, xbd_some, xbd_some, tW_wx (by decide)]
    exact EX.ok rfl rfl (frD_r w m) hd
  · have hE : eform (m.1 0 18) = true := by rw [f2]; decide
    obtain ⟨ef1, hef, hA⟩ := adr_p (rg := rg) h hE hwh
    obtain ⟨e2, F, w', m', hfr, hd', h2, hT, hC2, hM2⟩ := writeE_p hd h hE (v := m.1 0 29 &&& mkV (w.1 2 4)) (v2 := m.1 0 29) (wh := wh) (ef := ef1) (by rw [weq, mk_idem wa]) hef 0
    rw [rs_I (by rw [sW_c2, f1]) (by rw [sW_c2]; exact wa), xbd_some, sW_c2, sW_c2, h.n.1 (by rw [f2]; decide), wf_E _ (by rw [sW_c2, f1]; decide), hC2, tW_lo (i := 18) (by decide), f2, if_neg (by decide), if_neg (by decide), hA]
    unfold sX12_doOther_j514
    rw [tW_lo (i := 18) (by decide), f2, if_pos rfl, tW_wef, tW_lo (by decide), hM2, xbd_some, xbd_some, tW_wx (by decide)]
    exact EX.ok rfl rfl hfr hd'
  · obtain ⟨n1, n2, n3, n4, n5, n6⟩ := h.N (by rw [f2]; decide)
    have c7 := n6 (Or.inr f2)
    rw [rs_I (by rw [sW_c2, f1]) (by rw [sW_c2]; exact wa), xbd_some, sW_c2, sW_c2, h.n.1 (by rw [f2]; decide), wf_E _ (by rw [sW_c2, f1]; decide), writeE_r h n2, tW_lo (i := 18) (by decide), f2, if_pos rfl, tW_lo (by decide), tW_lo (by decide), tW_lo (by decide), ← c7, ← w4, setReg_x (by rw [c7]; exact n3) wa, xbd_some, xbd_some, tW_wx (by decide), weq, spr_mk wa (mk_idem wa _)]
    exact EX.ok rfl rfl (frD_r w m) hd
theorem spr4 {rg : Nat → Int32} {k : Nat} {n v : Int32} (hn : n = 4) : spr rg k n v = ru rg k v := by rw [hn]; exact if_pos rfl
theorem prt4 {rg : Nat → Int32} {k : Nat} {n : Int32} (hn : n = 4) : prt rg k n = rg k := by rw [hn]; exact if_pos rfl
theorem x_movx (hw : imgC w B N) (hm : imgM m B N) (hd : dataP w m) (h : IR L w m) (hop : (w.1 2 0 = 29 ∧ m.1 0 17 = 49) ∨ (w.1 2 0 = 30 ∧ m.1 0 17 = 52)) (f2 : m.1 0 18 = 2)
    (hwh : wh = adV rg (w.1 2 9) (w.1 2 10) (w.1 2 11) (w.1 2 12)) (hfo : m.1 0 34 + m.1 0 30 = fo) : EX w m (sX7_execute (sW rg (fb c p z s o) 0 wh fo w)) (sX12_doOne (tW rg (bI c) (bI p) (bI z) (bI s) (bI o) 0 ef m)) := by
  have hE : eform (m.1 0 18) = true := by rw [f2]; decide
  obtain ⟨w4, w5, wa, wb, hwd⟩ := h.wd
  have ew : w.1 2 4 = 4 := h.w4 (Or.inr (by rcases hop with ⟨-, q⟩ | ⟨-, q⟩ <;> (rw [q]; decide)))
  have hrg : in8 (w.1 2 8) := h.2.2.1.2.1
  have e8 := (h.E hE).2.2.2.1
  obtain ⟨v, e, ef1, he, hv, hwh1, -, hC, hM⟩ := readE_p hw hm hd h hE rg hwh
  have hdo : ∀ W : xW, W.1 0 17 = m.1 0 17 → ∀ to, sX12_doOther to W = sX12_doRest_j188 to W := by
    intro W hW to
    rcases hop with ⟨-, q⟩ | ⟨-, q⟩
    · rw [q] at hW; rw [dO_49 hW, dR_49 hW]
    · rw [q] at hW; rw [dO_52 hW, dR_52 hW]
  rw [doOne_o (by rw [tW_lo (by decide)]; rcases hop with ⟨-, q⟩ | ⟨-, q⟩ <;> (rw [q]; decide)) (by rw [tW_lo (by decide)]; rcases hop with ⟨-, q⟩ | ⟨-, q⟩ <;> (rw [q]; decide)), tW_lo (by decide), tW_lo (by decide), hfo, hdo _ (tW_lo (by decide))]
  unfold sX12_doRest_j188
  rw [hM, xbd_some]
  rcases hop with ⟨h0, g0⟩ | ⟨h0, g0⟩
  · rw [ex_6 (by rw [sW_c2, h0]; decide) (by rw [sW_c2, h0]; decide), mv_29 (by rw [sW_c2, h0]), hC, xbd_some, xbd_idU, writeG_c h, tW_lo (i := 17) (by decide), g0, if_pos rfl, tW_lo (i := 21) (by decide), ← w5, mask_v wb, xbd_some, hv, tW_lo (i := 23) (by decide), ← e8, if_pos (in8_x hrg).2.1, xbd_some, tW_wr, tW_wx (by decide), spr4 ew]
    exact EX.ok rfl rfl (frD_r w m) hd
  · have h5 : w.1 2 5 = 1 ∨ w.1 2 5 = 2 := by
      rcases hwd.1 with q | q
      · exact absurd g0 q.2.1
      · exact q.2.2
    rw [ex_6 (by rw [sW_c2, h0]; decide) (by rw [sW_c2, h0]; decide), mv_30 (by rw [sW_c2, h0]), hC, xbd_some, sW_c2, tW_lo (i := 17) (by decide), g0, if_neg (by decide), tW_lo (i := 21) (by decide), ← w5, tW_lo (i := 23) (by decide), ← e8, if_pos (in8_x hrg).2.1, if_pos (in8_x hrg).2.1]
    unfold sX11_withSign
    rcases h5 with h5 | h5
    · rw [h5, if_pos rfl, if_pos rfl, xbd_some, xbd_idU, writeG_c h, xbd_some, tW_wr, tW_wx (by decide), spr4 ew]
      exact EX.ok rfl rfl (frD_r w m) hd
    · rw [h5, if_neg (by decide), if_pos rfl, if_neg (by decide), xbd_some, xbd_idU, writeG_c h, xbd_some, tW_wr, tW_wx (by decide), spr4 ew]
      exact EX.ok rfl rfl (frD_r w m) hd
theorem x_lea (h : IR L w m) (hd : dataP w m) (h0 : w.1 2 0 = 31) (g0 : m.1 0 17 = 17) (f2 : m.1 0 18 = 2)
    (hwh : wh = adV rg (w.1 2 9) (w.1 2 10) (w.1 2 11) (w.1 2 12)) (hfo : m.1 0 34 + m.1 0 30 = fo) : EX w m (sX7_execute (sW rg (fb c p z s o) 0 wh fo w)) (sX12_doOne (tW rg (bI c) (bI p) (bI z) (bI s) (bI o) 0 ef m)) := by
  have hE : eform (m.1 0 18) = true := by rw [f2]; decide
  have ew : w.1 2 4 = 4 := h.w4 (Or.inr (by rw [g0]; decide))
  have hrg : in8 (w.1 2 8) := h.2.2.1.2.1
  have hc6 := h.x.1 g0
  obtain ⟨i7, i8, e7, e8, hcase⟩ := h.E hE
  obtain ⟨-, -, b1, b2, b3, b4, b5, b6⟩ := hcase.resolve_left (fun q => by rw [q.2] at hc6; exact absurd hc6 (by decide))
  rw [ex_6 (by rw [sW_c2, h0]; decide) (by rw [sW_c2, h0]; decide), mv_31 (by rw [sW_c2, h0]), sW_wh, xbd_idU, writeG_c h, doOne_o (by rw [tW_lo (by decide), g0]; decide) (by rw [tW_lo (by decide), g0]; decide), tW_lo (by decide), tW_lo (by decide), hfo, dO_17 (by rw [tW_lo (by decide), g0]), addr_m (dp := w.1 2 12) (bs := w.1 2 9) (ix := w.1 2 10) (sc := w.1 2 11) b3.symm b1.symm b2.symm (by rw [b1]; exact b4) (by rw [b2]; exact b5) b6, xbd_some, ← hwh, tW_lo (by decide), ← e8, if_pos (in8_x hrg).2.1, xbd_some, tW_wr, tW_wx (by decide), spr4 ew]
  exact EX.ok rfl rfl (frD_r w m) hd
theorem x_cmov (hw : imgC w B N) (hm : imgM m B N) (hd : dataP w m) (h : IR L w m) (h0 : w.1 2 0 = 32) (g0 : m.1 0 17 = 44) (f2 : m.1 0 18 = 2)
    (hwh : wh = adV rg (w.1 2 9) (w.1 2 10) (w.1 2 11) (w.1 2 12)) (hfo : m.1 0 34 + m.1 0 30 = fo) : EX w m (sX7_execute (sW rg (fb c p z s o) 0 wh fo w)) (sX12_doOne (tW rg (bI c) (bI p) (bI z) (bI s) (bI o) 0 ef m)) := by
  have hE : eform (m.1 0 18) = true := by rw [f2]; decide
  have ew : w.1 2 4 = 4 := h.w4 (Or.inr (by rw [g0]; decide))
  have hrg : in8 (w.1 2 8) := h.2.2.1.2.1
  have e8 := (h.E hE).2.2.2.1
  obtain ⟨v, e, ef1, he, hv, hwh1, -, hC, hM⟩ := readE_p hw hm hd h hE rg hwh
  obtain ⟨k1, j, hj, k2⟩ := h.c (Or.inr (Or.inl h0))
  rw [ex_6 (by rw [sW_c2, h0]; decide) (by rw [sW_c2, h0]; decide), mv_32 (by rw [sW_c2, h0]), hC, xbd_some, sW_c2, k2, holds_c hj, xbd_some, doOne_o (by rw [tW_lo (by decide), g0]; decide) (by rw [tW_lo (by decide), g0]; decide), tW_lo (by decide), tW_lo (by decide), hfo, dO_44 (by rw [tW_lo (by decide), g0]), dR_44 (by rw [tW_lo (by decide), g0]), hM, xbd_some, tW_lo (i := 19) (by decide), ← k1, k2, holds_m hj, xbd_some, if_b0, if_b0, xbd_idU, writeG_c h, tW_lo (i := 23) (by decide), ← e8, if_pos (in8_x hrg).2.1, tW_wr, spr4 ew]
  cases hoR j c p z s o
  · rw [if_neg (by decide), if_neg (by decide), xbd_some, tW_wx (by decide)]
    exact EX.ok rfl rfl (frD_r w m) hd
  · rw [if_pos rfl, if_pos rfl, xbd_some, tW_wx (by decide)]
    exact EX.ok rfl rfl (frD_r w m) hd
theorem x_set (hd : dataP w m) (h : IR L w m) (h0 : w.1 2 0 = 33) (g0 : m.1 0 17 = 45) (f2 : m.1 0 18 = 5)
    (hwh : wh = adV rg (w.1 2 9) (w.1 2 10) (w.1 2 11) (w.1 2 12)) (hfo : m.1 0 34 + m.1 0 30 = fo) : EX w m (sX7_execute (sW rg (fb c p z s o) 0 wh fo w)) (sX12_doOne (tW rg (bI c) (bI p) (bI z) (bI s) (bI o) 0 ef m)) := by
  have hE : eform (m.1 0 18) = true := by rw [f2]; decide
  obtain ⟨ef1, hef, hA⟩ := adr_p (rg := rg) h hE hwh
  obtain ⟨k1, j, hj, k2⟩ := h.c (Or.inr (Or.inr h0))
  rw [ex_6 (by rw [sW_c2, h0]; decide) (by rw [sW_c2, h0]; decide), mv_33 (by rw [sW_c2, h0]), sW_c2, k2, holds_c hj, xbd_some, xbd_idU, xbd_idU, doOne_o (by rw [tW_lo (by decide), g0]; decide) (by rw [tW_lo (by decide), g0]; decide), tW_lo (by decide), tW_lo (by decide), hfo, dO_45 (by rw [tW_lo (by decide), g0]), dR_45 (by rw [tW_lo (by decide), g0]), hA]
  unfold sX12_doRest_j109
  rw [tW_lo (i := 19) (by decide), tW_wef, ← k1, k2, holds_m hj, xbd_some, if_b0, if_b0]
  cases hoR j c p z s o
  · obtain ⟨e2, F, w', m', hfr, hd', h2, hT, hC2, hM2⟩ := writeE_p hd h hE (v := 0) (v2 := 0) (wh := wh) (ef := ef1) rfl hef 0
    rw [if_neg (by decide), if_neg (by decide), hC2, hM2, xbd_some, xbd_some, tW_wx (by decide)]
    exact EX.ok rfl rfl hfr hd'
  · obtain ⟨e2, F, w', m', hfr, hd', h2, hT, hC2, hM2⟩ := writeE_p hd h hE (v := 1) (v2 := 1) (wh := wh) (ef := ef1) rfl hef 0
    rw [if_pos rfl, if_pos rfl, hC2, hM2, xbd_some, xbd_some, tW_wx (by decide)]
    exact EX.ok rfl rfl hfr hd'
end MV
