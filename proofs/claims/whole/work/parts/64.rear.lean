/-! instructions that rearrange or exchange -/
section RE
variable {w m : xW} {B : Nat → Int32} {N L : Nat} {rg : Nat → Int32} {c p z s o : Bool} {wh fo ef : Int32}
theorem x_scan (hw : imgC w B N) (hm : imgM m B N) (hd : dataP w m) (h : IR L w m) (hop : (w.1 2 0 = 34 ∧ m.1 0 17 = 50) ∨ (w.1 2 0 = 35 ∧ m.1 0 17 = 51)) (f2 : m.1 0 18 = 2)
    (hwh : wh = adV rg (w.1 2 9) (w.1 2 10) (w.1 2 11) (w.1 2 12)) (hfo : m.1 0 34 + m.1 0 30 = fo) : EX w m (sX7_execute (sW rg (fb c p z s o) 0 wh fo w)) (sX12_doOne (tW rg (bI c) (bI p) (bI z) (bI s) (bI o) 0 ef m)) := by
  have hE : eform (m.1 0 18) = true := by rw [f2]; decide
  have ew : w.1 2 4 = 4 := h.w4 (Or.inr (by rcases hop with ⟨-, q⟩ | ⟨-, q⟩ <;> (rw [q]; decide)))
  have hrg : in8 (w.1 2 8) := h.2.2.1.2.1
  have e8 := (h.E hE).2.2.2.1
  obtain ⟨v, e, ef1, he, hv, hwh1, -, hC, hM⟩ := readE_p hw hm hd h hE rg hwh
  have hcl : sX7_execute (sW rg (fb c p z s o) 0 wh fo w) = sX7_scanBits v (sW rg (fb c p z s o) e wh fo w) := by
    rcases hop with ⟨h0, g0⟩ | ⟨h0, g0⟩
    · rw [ex_7 (by rw [sW_c2, h0]; decide) (by rw [sW_c2, h0]; decide), ra_34 (by rw [sW_c2, h0])]
      unfold sX7_doRearrange_j44
      rw [hC, xbd_some, fl5_r, xbd_idU]
    · rw [ex_7 (by rw [sW_c2, h0]; decide) (by rw [sW_c2, h0]; decide), ra_35 (by rw [sW_c2, h0])]
      unfold sX7_doRearrange_j44
      rw [hC, xbd_some, fl5_r, xbd_idU]
  have hdo : ∀ W : xW, W.1 0 17 = m.1 0 17 → ∀ to, sX12_doOther to W = sX12_doRest_j240 to W := by
    intro W hW to
    rcases hop with ⟨-, q⟩ | ⟨-, q⟩
    · rw [q] at hW; rw [dO_50 hW, dR_50 hW]
    · rw [q] at hW; rw [dO_51 hW, dR_51 hW]
  rw [hcl, doOne_o (by rw [tW_lo (by decide)]; rcases hop with ⟨-, q⟩ | ⟨-, q⟩ <;> (rw [q]; decide)) (by rw [tW_lo (by decide)]; rcases hop with ⟨-, q⟩ | ⟨-, q⟩ <;> (rw [q]; decide)), tW_lo (by decide), tW_lo (by decide), hfo, hdo _ (tW_lo (by decide))]
  unfold sX12_doRest_j240 sX7_scanBits
  rw [hM, xbd_some, fl5_r]
  by_cases hv0 : v = 0
  · rw [if_pos hv0, if_pos hv0]
    unfold sX7_scanBits_j15 sX12_doRest_j255
    rw [set_z (b := 1) (x := true) rfl, xbd_some, if_pos hv0, if_pos (show xz (1 : Int32) from bI_xz true), if_pos hv0, tW_wz, xbd_some, tW_wx (by decide)]
    exact EX.ok (z := true) rfl rfl (frD_r w m) hd
  · rw [if_neg hv0, if_neg hv0]
    unfold sX7_scanBits_j15 sX12_doRest_j255
    rw [set_z (b := 0) (x := false) rfl, xbd_some, if_neg hv0, if_pos (show xz (0 : Int32) from bI_xz false), if_neg hv0, tW_wz, sW_c2, tW_lo (i := 17) (by decide)]
    rcases hop with ⟨h0, g0⟩ | ⟨h0, g0⟩
    · obtain ⟨k, hk, k1, k2, k3⟩ := low_mask hv0
      have key := scan_lo (to := fo) (M := tW rg (bI c) (bI p) 0 (bI s) (bI o) e ef1 m) hk k2 k3 (by rw [tW_lo (by decide)]; exact g0) (by rw [tW_lo (by decide)]; exact e8.symm) hrg k 0 70000 (by omega) (by omega)
      rw [h0, if_pos (by decide), if_pos rfl, g0, if_pos rfl, show (0 : Int32) = nI 0 from rfl] 
      unfold sX7_scanBits_j41
      rw [show nI 0 = (0 : Int32) from rfl] at *
      rw [if_neg (by decide), ntz_c, k1, ntzX_v k hk, xbd_some, xbd_idU, writeG_c h, key, xbd_some, tW_wr, tW_wx (by decide), spr4 ew]
      exact EX.ok (z := false) rfl rfl (frD_r w m) hd
    · obtain ⟨k, hk, k1, k2, k3⟩ := nlz_c hv0 (sW rg (fb c p false s o) e wh fo w)
      have key := scan_hi (to := fo) (M := tW rg (bI c) (bI p) 0 (bI s) (bI o) e ef1 m) k2 k3 (by rw [tW_lo (by decide)]; exact g0) (by rw [tW_lo (by decide)]; exact e8.symm) hrg (31 - k) 70000 (by omega) (by omega)
      rw [show k + (31 - k) = 31 from by omega] at key
      rw [h0, if_pos (by decide), if_neg (by decide), g0, if_neg (by decide)]
      unfold sX7_scanBits_j41
      have e31 : (31 : Int32) - (31 - nI k) = nI k := (show ∀ k, k < 32 → (31 : Int32) - (31 - nI k) = nI k from by decide +kernel) k hk
      rw [if_pos rfl, k1, xbd_some, e31, xbd_idU, writeG_c h]
      show EX w m _ (xbd (sX12_doRest_l279 70000 fo v (nI 31) (tW rg (bI c) (bI p) 0 (bI s) (bI o) e ef1 m)) (fun x1 w2 => some ((), xwi w2 0 34 x1)))
      rw [key, xbd_some, tW_wr, tW_wx (by decide), spr4 ew]
      exact EX.ok (z := false) rfl rfl (frD_r w m) hd
theorem x_bswap (hd : dataP w m) (h : IR L w m) (h0 : w.1 2 0 = 36) (g0 : m.1 0 17 = 54) (f2 : m.1 0 18 = 6)
    (hfo : m.1 0 34 + m.1 0 30 = fo) : EX w m (sX7_execute (sW rg (fb c p z s o) 0 wh fo w)) (sX12_doOne (tW rg (bI c) (bI p) (bI z) (bI s) (bI o) 0 ef m)) := by
  have ew : w.1 2 4 = 4 := h.w4 (Or.inr (by rw [g0]; decide))
  have weq := h.weq (by rw [g0]; decide)
  rw [ew] at weq
  obtain ⟨n1, n2, n3, n4, n5, n6⟩ := h.N (by rw [f2]; decide)
  have c7 := n6 (Or.inl f2)
  rw [ex_7 (by rw [sW_c2, h0]; decide) (by rw [sW_c2, h0]; decide), ra_36 (by rw [sW_c2, h0]), readE_r h n2, xbd_some, doOne_o (by rw [tW_lo (by decide), g0]; decide) (by rw [tW_lo (by decide), g0]; decide), tW_lo (by decide), tW_lo (by decide), hfo, dO_54 (by rw [tW_lo (by decide), g0]), dR_54 (by rw [tW_lo (by decide), g0]), tW_lo (i := 24) (by decide), ← c7, if_pos (by rw [c7]; exact (in8_x n3).2.1)]
  dsimp only [xlet]
  rw [if_pos (by rw [c7]; exact (in8_x n3).2.1), tW_r, prt4 weq]
  unfold sJ6_reverseBytes_0f7a4
  rw [xbd_some, xbd_idU, writeE_r h n2, spr4 weq, tW_wr, bsw, xbd_some, tW_wx (by decide)]
  exact EX.ok rfl rfl (frD_r w m) hd
theorem x_cwde (hd : dataP w m) (h0 : w.1 2 0 = 37) (g0 : m.1 0 17 = 19)
    (hfo : m.1 0 34 + m.1 0 30 = fo) : EX w m (sX7_execute (sW rg (fb c p z s o) 0 wh fo w)) (sX12_doOne (tW rg (bI c) (bI p) (bI z) (bI s) (bI o) 0 ef m)) := by
  have x0 : xin (0 : Int32) 8 := by decide
  rw [ex_7 (by rw [sW_c2, h0]; decide) (by rw [sW_c2, h0]; decide), ra_37 (by rw [sW_c2, h0]), doOne_o (by rw [tW_lo (by decide), g0]; decide) (by rw [tW_lo (by decide), g0]; decide), tW_lo (by decide), tW_lo (by decide), hfo, dO_19 (by rw [tW_lo (by decide), g0])]
  simp only [if_pos x0, show (0 : Int32).toNatClampNeg = 0 from rfl, sW_r, tW_r, sW_wr, tW_wr, xbd_some]
  rw [tW_wx (by decide)]
  exact EX.ok rfl rfl (frD_r w m) hd
theorem x_cdq (hd : dataP w m) (h0 : w.1 2 0 = 38) (g0 : m.1 0 17 = 20)
    (hfo : m.1 0 34 + m.1 0 30 = fo) : EX w m (sX7_execute (sW rg (fb c p z s o) 0 wh fo w)) (sX12_doOne (tW rg (bI c) (bI p) (bI z) (bI s) (bI o) 0 ef m)) := by
  have x0 : xin (0 : Int32) 8 := by decide
  have x2 : xin (2 : Int32) 8 := by decide
  rw [ex_7 (by rw [sW_c2, h0]; decide) (by rw [sW_c2, h0]; decide), ra_38 (by rw [sW_c2, h0]), doOne_o (by rw [tW_lo (by decide), g0]; decide) (by rw [tW_lo (by decide), g0]; decide), tW_lo (by decide), tW_lo (by decide), hfo, dO_20 (by rw [tW_lo (by decide), g0])]
  simp only [if_pos x0, if_pos x2, show (0 : Int32).toNatClampNeg = 0 from rfl, show (2 : Int32).toNatClampNeg = 2 from rfl, sW_r, tW_r, sW_wr, tW_wr, xbd_some]
  rw [tW_wx (by decide)]
  exact EX.ok rfl rfl (frD_r w m) hd
/-- E in memory, written -/
theorem writeE_m (hd : dataP w m) (h : IR L w m) (he : eform (m.1 0 18) = true) (hc6 : w.1 2 6 = 1) {v v2 wh : Int32} (hv : v &&& mkV (w.1 2 5) = v2 &&& mkV (w.1 2 5)) (tr : Int32) :
    ∃ (e : Int32) (w' m' : xW), frD w w' m m' ∧ dataP w' m' ∧ TRi tr e ∧
    (∀ (rg : Nat → Int32) (fl fo : Int32), sX7_writeE v (sW rg fl tr wh fo w) = some ((), sW rg fl e wh fo w')) ∧
    (∀ (rg : Nat → Int32) (c p z s o : Int32), sX12_setE v2 (tW rg c p z s o tr wh m) = some ((), tW rg c p z s o e wh m')) := by
  obtain ⟨i7, i8, e7, e8, hcase⟩ := h.E he
  obtain ⟨w4, w5, -, wb, -⟩ := h.wd
  have hm3 : ¬ m.1 0 22 = 3 := by
    rcases hcase with q | q
    · exact absurd (q.2.symm.trans hc6) (by decide)
    · exact q.1
  obtain ⟨k, hk, ek⟩ := wid_k wb
  have hk4 : k ≤ 4 := by omega
  rw [ek] at hv
  by_cases ht : tr = 0
  · subst ht
    obtain ⟨e, w', m', hf, hd', hT, hC, hM⟩ := store_pair hd wh hk hv
    refine ⟨e, w', m', hf, hd', fun _ => hT, ?_, ?_⟩
    · intro rg fl fo
      unfold sX7_writeE
      rw [sW_c2, hc6, if_neg (by decide), sW_wh, sW_c2, ek, hC, xbd_some]
    · intro rg c p z s o
      unfold sX12_setE
      rw [tW_lo (by decide), if_neg hm3, tW_ef, tW_lo (by decide), ← w5, ek, hM, xbd_some]
  · refine ⟨tr, w, m, frD_r w m, hd, fun q => q, ?_, ?_⟩
    · intro rg fl fo
      unfold sX7_writeE
      rw [sW_c2, hc6, if_neg (by decide), sW_wh, sW_c2, ek, store_no hk4 ht, xbd_some]
    · intro rg c p z s o
      unfold sX12_setE
      rw [tW_lo (by decide), if_neg hm3, tW_ef, tW_lo (by decide), write_no ht, xbd_some]
/-- the class: exchange, by its number -/
def exK (W : xW) (x1 x3 : Int32) (w4 : xW) : Option (Unit × xW) := (if (opSw (W.1 2 0)) = (20 : Int32) then xbd (sX7_writeG x1 w4) (fun _ w5 => sX7_writeE x3 w5) else (if (opSw (W.1 2 0)) = (21 : Int32) then xbd (sX7_writeG x1 w4) (fun _ w7 => xbd (sX2_add x1 x3 (0 : Int32) (4 : Int32) w7) (fun x8 w9 => sX7_writeE x8 w9)) else xbd (sX2_subtract (w4.1 20 0) x1 (0 : Int32) (4 : Int32) w4) (fun x11 w12 => (if (w12.1 20 0) = x1 then sX7_writeE x3 w12 else some ((), (xwi w12 20 0 x1))))))
theorem exch_c (hx : xin (w.1 2 0) 54) {fl e v g : Int32} (hr : sX7_readE (sW rg fl 0 wh fo w) = some (v, sW rg fl e wh fo w)) (hg : sX7_readG (sW rg fl e wh fo w) = some (g, sW rg fl e wh fo w)) : sX7_doExchange (sW rg fl 0 wh fo w) = exK w v g (sW rg fl e wh fo w) := by
  have x0 : xin (0 : Int32) 8 := by decide
  unfold sX7_doExchange exK
  rw [hr, xbd_some, hg, xbd_some, sW_c2, if_pos hx, if_pos hx]
  simp only [if_pos x0, xbd_idU, show (0 : Int32).toNatClampNeg = 0 from rfl]
theorem x_xchg (hw : imgC w B N) (hm : imgM m B N) (hd : dataP w m) (h : IR L w m) (h0 : w.1 2 0 = 39) (g0 : m.1 0 17 = 15) (f2 : m.1 0 18 = 1)
    (hwh : wh = adV rg (w.1 2 9) (w.1 2 10) (w.1 2 11) (w.1 2 12)) (hfo : m.1 0 34 + m.1 0 30 = fo) : EX w m (sX7_execute (sW rg (fb c p z s o) 0 wh fo w)) (sX12_doOne (tW rg (bI c) (bI p) (bI z) (bI s) (bI o) 0 ef m)) := by
  have hE : eform (m.1 0 18) = true := by rw [f2]; decide
  obtain ⟨w4, w5, wa, wb, -⟩ := h.wd
  have weq := h.weq (by rw [g0]; decide)
  have hrm : in8 (w.1 2 7) := h.2.2.1.1
  have hrg : in8 (w.1 2 8) := h.2.2.1.2.1
  have e8 := (h.E hE).2.2.2.1
  have e7 := (h.E hE).2.2.1
  obtain ⟨v, e, ef1, he, hv, hwh1, hreg, hC, hM⟩ := readE_p hw hm hd h hE rg hwh
  rw [ex_8 (by rw [sW_c2, h0]; decide) (by rw [sW_c2, h0]; decide), exch_c (by rw [h0]; decide) (by rw [hC, fl5_r]) (readG_c h), doOne_o (by rw [tW_lo (by decide), g0]; decide) (by rw [tW_lo (by decide), g0]; decide), tW_lo (by decide), tW_lo (by decide), hfo, dO_15 (by rw [tW_lo (by decide), g0]), tW_lo (i := 18) (by decide), f2, if_neg (by decide), hM, xbd_some, fl5_r, tW_lo (i := 23) (by decide), tW_lo (i := 20) (by decide), ← e8, ← w4, part_x hrg wa, xbd_some]
  unfold exK
  rw [h0, if_pos (by decide), writeG_c h, xbd_some]
  rcases (h.E hE).2.2.2.2 with ⟨-, hc6⟩ | ⟨-, hc6, -⟩
  · obtain ⟨r1, r2⟩ := hreg hc6
    subst r1
    obtain ⟨i7, i7e⟩ := in8_n hrm
    obtain ⟨i8, i8e⟩ := in8_n hrg
    have hm3 : m.1 0 22 = 3 := by
      rcases (h.E hE).2.2.2.2 with ⟨q, -⟩ | ⟨-, q, -⟩
      · exact q
      · exact absurd (hc6.symm.trans q) (by decide)
    rw [writeE_r h hc6]
    unfold sX12_setE
    rw [tW_lo (i := 22) (by decide), hm3, if_pos rfl, tW_lo (i := 24) (by decide), tW_lo (i := 21) (by decide), ← e7, ← w5, setReg_x hrm wb, xbd_some, xbd_some, tW_lo (i := 23) (by decide), tW_lo (i := 20) (by decide), ← e8, ← w4, setReg_x hrg wa, xbd_some, xbd_some, tW_wx (by decide), weq]
    rw [weq] at r2
    by_cases hk : (w.1 2 7).toNatClampNeg = (w.1 2 8).toNatClampNeg
    · rw [hk] at r2 ⊢
      rw [r2]
      exact EX.ok rfl rfl (frD_r w m) hd
    · rw [spr_comm wa i7 i8 hk]
      exact EX.ok rfl rfl (frD_r w m) hd
  · have hef := hwh1 hc6
    subst hef
    obtain ⟨e2, w', m', hfr, hd', hT, hC2, hM2⟩ := writeE_m hd h hE hc6 (v := prt rg (w.1 2 8).toNatClampNeg (w.1 2 4)) (v2 := prt rg (w.1 2 8).toNatClampNeg (w.1 2 4)) (wh := ef1) rfl e
    have q0 : ∀ i, m'.1 0 i = m.1 0 i := fun i => hfr.2.2.1 0 i (by decide)
    rw [hC2, hM2, xbd_some, tW_lo (i := 23) (by decide), tW_lo (i := 20) (by decide), q0, q0, ← e8, ← w4, setReg_x hrg wa, xbd_some, xbd_some, tW_wx (by decide)]
    exact EX.ok rfl rfl hfr hd'
theorem x_xchgA (hd : dataP w m) (h : IR L w m) (h0 : w.1 2 0 = 39) (g0 : m.1 0 17 = 15) (f2 : m.1 0 18 = 14)
    (hfo : m.1 0 34 + m.1 0 30 = fo) : EX w m (sX7_execute (sW rg (fb c p z s o) 0 wh fo w)) (sX12_doOne (tW rg (bI c) (bI p) (bI z) (bI s) (bI o) 0 ef m)) := by
  have ew : w.1 2 4 = 4 := h.w4 (Or.inl f2)
  have weq := h.weq (by rw [g0]; decide)
  rw [ew] at weq
  obtain ⟨n1, n2, n3, n4, n5, n6⟩ := h.N (by rw [f2]; decide)
  obtain ⟨c7, c8⟩ := n4 f2
  have x0 : xin (0 : Int32) 8 := by decide
  rw [ex_8 (by rw [sW_c2, h0]; decide) (by rw [sW_c2, h0]; decide), exch_c (by rw [h0]; decide) (readE_r h n2) (readG_c h), doOne_o (by rw [tW_lo (by decide), g0]; decide) (by rw [tW_lo (by decide), g0]; decide), tW_lo (by decide), tW_lo (by decide), hfo, dO_15 (by rw [tW_lo (by decide), g0]), tW_lo (i := 18) (by decide), f2, if_pos rfl, if_pos x0, tW_lo (i := 24) (by decide), ← c8]
  dsimp only [xlet]
  rw [if_pos (by rw [c8]; exact (in8_x n3).2.1), if_pos x0, if_pos (by rw [c8]; exact (in8_x n3).2.1)]
  unfold exK
  rw [h0, if_pos (by decide), writeG_c h, xbd_some, writeE_r h n2, tW_r, tW_r, tW_wr, tW_wr, xbd_some, tW_wx (by decide), c7, prt4 weq, prt4 ew, spr4 ew, spr4 weq, show (0 : Int32).toNatClampNeg = 0 from rfl]
  by_cases hk : (w.1 2 8).toNatClampNeg = 0
  · rw [hk]
    exact EX.ok rfl rfl (frD_r w m) hd
  · rw [ru_comm (rg := rg) (j := (w.1 2 8).toNatClampNeg) (k := 0) hk]
    exact EX.ok rfl rfl (frD_r w m) hd
theorem x_xadd (hw : imgC w B N) (hm : imgM m B N) (hd : dataP w m) (h : IR L w m) (h0 : w.1 2 0 = 40) (g0 : m.1 0 17 = 53) (f2 : m.1 0 18 = 1)
    (hwh : wh = adV rg (w.1 2 9) (w.1 2 10) (w.1 2 11) (w.1 2 12)) (hfo : m.1 0 34 + m.1 0 30 = fo) : EX w m (sX7_execute (sW rg (fb c p z s o) 0 wh fo w)) (sX12_doOne (tW rg (bI c) (bI p) (bI z) (bI s) (bI o) 0 ef m)) := by
  have hE : eform (m.1 0 18) = true := by rw [f2]; decide
  have ew : w.1 2 4 = 4 := h.w4 (Or.inr (by rw [g0]; decide))
  have hrg : in8 (w.1 2 8) := h.2.2.1.2.1
  have e8 := (h.E hE).2.2.2.1
  have W4 : wid (4 : Int32) := Or.inr (Or.inr rfl)
  obtain ⟨v, e, ef1, he, hv, hwh1, -, hC, hM⟩ := readE_p hw hm hd h hE rg hwh
  rw [ex_8 (by rw [sW_c2, h0]; decide) (by rw [sW_c2, h0]; decide), exch_c (by rw [h0]; decide) (by rw [hC, fl5_r]) (readG_c h), doOne_o (by rw [tW_lo (by decide), g0]; decide) (by rw [tW_lo (by decide), g0]; decide), tW_lo (by decide), tW_lo (by decide), hfo, dO_53 (by rw [tW_lo (by decide), g0]), dR_53 (by rw [tW_lo (by decide), g0]), hM, xbd_some, fl5_r, tW_lo (i := 23) (by decide), ← e8, if_pos (in8_x hrg).2.1, tW_r, prt4 ew]
  dsimp only [xlet]
  unfold exK
  rw [h0, if_neg (by decide), if_pos (by decide), writeG_c h, xbd_some, add_v W4, xbd_some, sum_v W4, xbd_some, tW_lo (i := 23) (by decide), ← e8, if_pos (in8_x hrg).2.1, tW_wr, spr4 ew]
  generalize hr : sumR 4 v (rg (w.1 2 8).toNatClampNeg) 0 &&& mkV 4 = r
  obtain ⟨e2, F, w', m', hfr, hd', h2, hT, hC2, hM2⟩ := writeE_p hd h hE (v := r) (v2 := r) (wh := wh) (ef := ef1) rfl hwh1 e
  rw [hC2, hM2, xbd_some, xbd_some, tW_wx (by decide)]
  exact EX.ok rfl rfl hfr hd'
theorem difR4 (a b : Int32) : difR 4 a b 0 = a - b := by
  have h4 : M64 4 = 4294967295 := by decide
  unfold difR difS
  rw [h4, un_l, un_l, Int64.toInt32_sub, Int64.toInt32_sub, lN_i, lN_i, ← un_of, ← un_of]
  show a - b - 0 = a - b
  exact Int32.sub_zero _
theorem x_cmpx (hw : imgC w B N) (hm : imgM m B N) (hd : dataP w m) (h : IR L w m) (h0 : w.1 2 0 = 41) (g0 : m.1 0 17 = 48) (f2 : m.1 0 18 = 1)
    (hwh : wh = adV rg (w.1 2 9) (w.1 2 10) (w.1 2 11) (w.1 2 12)) (hfo : m.1 0 34 + m.1 0 30 = fo) : EX w m (sX7_execute (sW rg (fb c p z s o) 0 wh fo w)) (sX12_doOne (tW rg (bI c) (bI p) (bI z) (bI s) (bI o) 0 ef m)) := by
  have hE : eform (m.1 0 18) = true := by rw [f2]; decide
  have ew : w.1 2 4 = 4 := h.w4 (Or.inr (by rw [g0]; decide))
  have hrg : in8 (w.1 2 8) := h.2.2.1.2.1
  have e8 := (h.E hE).2.2.2.1
  have W4 : wid (4 : Int32) := Or.inr (Or.inr rfl)
  have x0 : xin (0 : Int32) 8 := by decide
  obtain ⟨v, e, ef1, he, hv, hwh1, -, hC, hM⟩ := readE_p hw hm hd h hE rg hwh
  rw [ex_8 (by rw [sW_c2, h0]; decide) (by rw [sW_c2, h0]; decide), exch_c (by rw [h0]; decide) (by rw [hC, fl5_r]) (readG_c h), doOne_o (by rw [tW_lo (by decide), g0]; decide) (by rw [tW_lo (by decide), g0]; decide), tW_lo (by decide), tW_lo (by decide), hfo, dO_48 (by rw [tW_lo (by decide), g0]), dR_48 (by rw [tW_lo (by decide), g0]), hM, xbd_some, fl5_r, if_pos x0, tW_r, prt4 ew]
  unfold exK
  rw [h0, if_neg (by decide), if_neg (by decide), sW_r, subtract_v W4, xbd_some, sW_r]
  simp only [show (0 : Int32).toNatClampNeg = 0 from rfl]
  rw [difference_v W4, xbd_some, tW_lo (i := 23) (by decide), ← e8, if_pos (in8_x hrg).2.1, tW_r, show mkV 4 = -1 from rfl, and_m1, difR4]
  by_cases hs : rg 0 = v
  · rw [if_pos hs, if_pos (show rg 0 - v = 0 from by rw [hs]; exact Int32.sub_self _)]
    obtain ⟨e2, F, w', m', hfr, hd', h2, hT, hC2, hM2⟩ := writeE_p hd h hE (v := rg (w.1 2 8).toNatClampNeg) (v2 := rg (w.1 2 8).toNatClampNeg) (wh := wh) (ef := ef1) rfl hwh1 e
    rw [hC2, hM2, xbd_some, xbd_some, tW_wx (by decide)]
    exact EX.ok rfl rfl hfr hd'
  · rw [if_neg hs, if_neg (show ¬ rg 0 - v = 0 from fun q => hs (by have := Int32.sub_add_cancel (rg 0) v; rw [q] at this; rw [← this]; exact Int32.zero_add v)), if_pos x0, xbd_some, sW_wr, tW_wr, tW_wx (by decide)]
    exact EX.ok rfl rfl (frD_r w m) hd
end RE
