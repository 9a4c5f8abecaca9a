/-! instructions that reckon: inc, dec, neg, not; shifts; products; quotients -/
section CA
variable {w m : xW} {B : Nat → Int32} {N L : Nat} {rg : Nat → Int32} {c p z s o : Bool} {wh fo ef : Int32}
/-- E or a register that is told first: reading, writing -/
theorem first_p (hw : imgC w B N) (hm : imgM m B N) (hd : dataP w m) (h : IR L w m) (weq : w.1 2 5 = w.1 2 4) (hf : m.1 0 18 = 5 ∨ m.1 0 18 = 6) (hwh : wh = adV rg (w.1 2 9) (w.1 2 10) (w.1 2 11) (w.1 2 12)) :
    ∃ a e ef1 : Int32, a &&& mkV (w.1 2 4) = a ∧ (e = 0 ∨ (e = 5 ∧ a = 0)) ∧
      (∀ fl fo : Int32, sX7_readE (sW rg fl 0 wh fo w) = some (a, sW rg fl e wh fo w)) ∧
      (∀ c p z s o : Int32, sX12_firstOf (tW rg c p z s o 0 ef m) = some (a, tW rg c p z s o e ef1 m)) ∧
      (∀ v v2 tr : Int32, v &&& mkV (w.1 2 4) = v2 &&& mkV (w.1 2 4) → ∃ (e2 : Int32) (F : (Nat → Int32) → Nat → Int32) (w' m' : xW), frD w w' m m' ∧ dataP w' m' ∧ (¬ tr = 0 → e2 = tr ∧ w' = w ∧ m' = m ∧ ∀ (rg : Nat → Int32) (i : Nat), 8 ≤ i → F rg i = rg i) ∧ TRi tr e2 ∧
        (∀ (rg : Nat → Int32) (fl fo : Int32), sX7_writeE v (sW rg fl tr wh fo w) = some ((), sW (F rg) fl e2 wh fo w')) ∧
        (∀ (rg : Nat → Int32) (c p z s o : Int32), sX12_setFirst v2 (tW rg c p z s o tr ef1 m) = some ((), tW (F rg) c p z s o e2 ef1 m'))) := by
  obtain ⟨w4, w5, wa, wb, -⟩ := h.wd
  rcases hf with f2 | f2
  · obtain ⟨v, e, ef1, he, hv, hwh1, -, hC, hM⟩ := readE_p hw hm hd h (by rw [f2]; decide) rg hwh
    refine ⟨v, e, ef1, by rw [← weq]; exact hv, he, fun fl fo => by rw [hC, fl5_r], fun c p z s o => by rw [first_E (by rw [tW_lo (by decide), f2]; decide), hM, fl5_r], fun v v2 tr hv => ?_⟩
    obtain ⟨e2, F, w', m', hfr, hd', h2, hT, hC2, hM2⟩ := writeE_p hd h (by rw [f2]; decide) (v := v) (v2 := v2) (wh := wh) (ef := ef1) (by rw [weq]; exact hv) hwh1 tr
    exact ⟨e2, F, w', m', hfr, hd', h2, hT, hC2, fun rg c p z s o => by rw [setF_E _ (by rw [tW_lo (by decide), f2]; decide), hM2]⟩
  · obtain ⟨n1, n2, n3, n4, n5, n6⟩ := h.N (by rw [f2]; decide)
    have c7 := n6 (Or.inl f2)
    refine ⟨prt rg (w.1 2 7).toNatClampNeg (w.1 2 4), 0, ef, prt_mk wa, Or.inl rfl, fun fl fo => by rw [readE_r h n2, weq], fun c p z s o => ?_, fun v v2 tr hv => ?_⟩
    · rw [first_R (by rw [tW_lo (by decide), f2]), tW_lo (by decide), tW_lo (by decide), ← w4, ← c7, part_x (by rw [c7]; exact n3) wa]
    · refine ⟨tr, fun rg => spr rg (w.1 2 7).toNatClampNeg (w.1 2 4) v, w, m, frD_r w m, hd, fun _ => ⟨rfl, rfl, rfl, fun rg i hi => spr_hi (in8_n h.2.2.1.1).1 hi⟩, fun q => q, fun rg fl fo => by rw [writeE_r h n2, weq], fun rg c p z s o => ?_⟩
      show _ = some ((), tW (spr rg (w.1 2 7).toNatClampNeg (w.1 2 4) v) c p z s o tr ef m)
      rw [setF_R _ (by rw [tW_lo (by decide), f2]), tW_lo (by decide), tW_lo (by decide), ← w4, ← c7, setReg_x (by rw [c7]; exact n3) wa, spr_mk wa hv]
theorem x_incdec (hw : imgC w B N) (hm : imgM m B N) (hd : dataP w m) (h : IR L w m) (hop : (w.1 2 0 = 17 ∧ m.1 0 17 = 8) ∨ (w.1 2 0 = 18 ∧ m.1 0 17 = 9)) (hf : m.1 0 18 = 5 ∨ m.1 0 18 = 6)
    (hwh : wh = adV rg (w.1 2 9) (w.1 2 10) (w.1 2 11) (w.1 2 12)) (hfo : m.1 0 34 + m.1 0 30 = fo) : EX w m (sX7_execute (sW rg (fb c p z s o) 0 wh fo w)) (sX12_doOne (tW rg (bI c) (bI p) (bI z) (bI s) (bI o) 0 ef m)) := by
  obtain ⟨w4, w5, wa, wb, -⟩ := h.wd
  have weq := h.weq (by rcases hop with ⟨-, q⟩ | ⟨-, q⟩ <;> (rw [q]; decide))
  obtain ⟨a, e, ef1, ha, he, hC, hM, hW⟩ := first_p hw hm hd h weq hf (ef := ef) hwh
  have k : ∀ (r : Int32) (p1 z1 s1 o1 : Bool), r &&& mkV (w.1 2 4) = r → sX7_execute (sW rg (fb c p z s o) 0 wh fo w) = sX7_writeE r (sW rg (fb c p1 z1 s1 o1) e wh fo w) → (∀ c1 : Bool, sX12_doOne (tW rg (bI c) (bI p) (bI z) (bI s) (bI o) 0 ef m) = xbd (sX12_doOther_j210 fo (bI c) r (tW rg (bI c1) (bI p1) (bI z1) (bI s1) (bI o1) e ef1 m)) (fun x1 w2 => some ((), xwi w2 0 34 x1)) → EX w m (sX7_execute (sW rg (fb c p z s o) 0 wh fo w)) (sX12_doOne (tW rg (bI c) (bI p) (bI z) (bI s) (bI o) 0 ef m))) := by
    intro r p1 z1 s1 o1 hr hx c1 hy
    obtain ⟨e2, F, w', m', hfr, hd', h2, hT, hC2, hM2⟩ := hW r r e rfl
    rw [hx, hy, hC2]
    unfold sX12_doOther_j210
    rw [hM2, xbd_some, if_pos (bI_xz c), xbd_some, tW_wc, tW_wx (by decide)]
    exact EX.ok rfl rfl hfr hd'
  rcases hop with ⟨h0, g0⟩ | ⟨h0, g0⟩
  · refine k (sumR (w.1 2 4) a 1 0 &&& mkV (w.1 2 4)) (par8 (sumR (w.1 2 4) a 1 0)) (rz (w.1 2 4) (sumR (w.1 2 4) a 1 0)) (tb (sumR (w.1 2 4) a 1 0) (bp (w.1 2 4))) (sumO (w.1 2 4) a 1 0) (mk_idem wa _) ?_ (sumC (w.1 2 4) a 1 0) ?_
    · rw [exec_k (by rw [sW_c2, h0]; decide), sW_c2, h0]
      show xbd (sX7_readE _) (fun x3 w4 => xbd (sX2_single 17 x3 (w4.1 2 4) w4) (fun x5 w6 => sX7_writeE x5 w6)) = _
      rw [hC, xbd_some, sW_c2, inc_v wa, xbd_some]
    · rw [doOne_o (by rw [tW_lo (by decide), g0]; decide) (by rw [tW_lo (by decide), g0]; decide), tW_lo (by decide), tW_lo (by decide), hfo, dO_8 (by rw [tW_lo (by decide), g0])]
      unfold sX12_doOther_j164
      rw [hM, xbd_some, tW_lo (by decide), g0, if_pos rfl, tW_lo (by decide), ← w4, sum_v wa, xbd_some, tW_c]
  · refine k (difR (w.1 2 4) a 1 0 &&& mkV (w.1 2 4)) (par8 (difR (w.1 2 4) a 1 0)) (rz (w.1 2 4) (difR (w.1 2 4) a 1 0)) (tb (difR (w.1 2 4) a 1 0) (bp (w.1 2 4))) (difO (w.1 2 4) a 1 0) (mk_idem wa _) ?_ (difC (w.1 2 4) a 1 0) ?_
    · rw [exec_k (by rw [sW_c2, h0]; decide), sW_c2, h0]
      show xbd (sX7_readE _) (fun x3 w4 => xbd (sX2_single 18 x3 (w4.1 2 4) w4) (fun x5 w6 => sX7_writeE x5 w6)) = _
      rw [hC, xbd_some, sW_c2, dec_v wa, xbd_some]
    · rw [doOne_o (by rw [tW_lo (by decide), g0]; decide) (by rw [tW_lo (by decide), g0]; decide), tW_lo (by decide), tW_lo (by decide), hfo, dO_9 (by rw [tW_lo (by decide), g0])]
      unfold sX12_doOther_j164
      rw [hM, xbd_some, tW_lo (by decide), g0, if_neg (by decide), tW_lo (by decide), ← w4, difference_v wa, xbd_some, tW_c]
theorem x_neg (hw : imgC w B N) (hm : imgM m B N) (hd : dataP w m) (h : IR L w m) (h0 : w.1 2 0 = 19) (g0 : m.1 0 17 = 37) (f2 : m.1 0 18 = 5)
    (hwh : wh = adV rg (w.1 2 9) (w.1 2 10) (w.1 2 11) (w.1 2 12)) (hfo : m.1 0 34 + m.1 0 30 = fo) : EX w m (sX7_execute (sW rg (fb c p z s o) 0 wh fo w)) (sX12_doOne (tW rg (bI c) (bI p) (bI z) (bI s) (bI o) 0 ef m)) := by
  obtain ⟨w4, w5, wa, wb, -⟩ := h.wd
  obtain ⟨v, e, ef1, he, hv, hwh1, -, hC, hM⟩ := readE_p hw hm hd h (by rw [f2]; decide) rg hwh
  obtain ⟨e2, F, w', m', hfr, hd', h2, hT, hC2, hM2⟩ := writeE_p hd h (by rw [f2]; decide) (v := difR (w.1 2 4) 0 v 0 &&& mkV (w.1 2 4)) (v2 := difR (w.1 2 4) 0 v 0 &&& mkV (w.1 2 4)) (wh := wh) (ef := ef1) rfl hwh1 e
  rw [ex_1 (by rw [sW_c2, h0]; decide) (by rw [sW_c2, h0]; decide), hC, xbd_some, sW_c2, sW_c2, h0, neg_v wa, xbd_some, fl5_r, hC2, doOne_o (by rw [tW_lo (by decide), g0]; decide) (by rw [tW_lo (by decide), g0]; decide), tW_lo (by decide), tW_lo (by decide), hfo, dO_37 (by rw [tW_lo (by decide), g0]), hM, xbd_some, tW_lo (by decide), ← w4, difference_v wa, xbd_some, fl5_r, hM2, xbd_some, xbd_some, tW_wx (by decide)]
  exact EX.ok rfl rfl hfr hd'
theorem x_not (hw : imgC w B N) (hm : imgM m B N) (hd : dataP w m) (h : IR L w m) (h0 : w.1 2 0 = 20) (g0 : m.1 0 17 = 36) (f2 : m.1 0 18 = 5)
    (hwh : wh = adV rg (w.1 2 9) (w.1 2 10) (w.1 2 11) (w.1 2 12)) (hfo : m.1 0 34 + m.1 0 30 = fo) : EX w m (sX7_execute (sW rg (fb c p z s o) 0 wh fo w)) (sX12_doOne (tW rg (bI c) (bI p) (bI z) (bI s) (bI o) 0 ef m)) := by
  obtain ⟨w4, w5, wa, wb, -⟩ := h.wd
  have weq := h.weq (by rw [g0]; decide)
  obtain ⟨v, e, ef1, he, hv, hwh1, -, hC, hM⟩ := readE_p hw hm hd h (by rw [f2]; decide) rg hwh
  obtain ⟨e2, F, w', m', hfr, hd', h2, hT, hC2, hM2⟩ := writeE_p hd h (by rw [f2]; decide) (v := (v ^^^ (-1)) &&& mkV (w.1 2 4)) (v2 := v ^^^ (-1)) (wh := wh) (ef := ef1) (by rw [weq, mk_idem wa]) hwh1 e
  rw [ex_1 (by rw [sW_c2, h0]; decide) (by rw [sW_c2, h0]; decide), hC, xbd_some, sW_c2, sW_c2, h0, not_v wa, xbd_some, fl5_r, hC2, doOne_o (by rw [tW_lo (by decide), g0]; decide) (by rw [tW_lo (by decide), g0]; decide), tW_lo (by decide), tW_lo (by decide), hfo, dO_36 (by rw [tW_lo (by decide), g0]), hM, xbd_some, fl5_r, hM2, xbd_some, xbd_some, tW_wx (by decide)]
  exact EX.ok rfl rfl hfr hd'
/-! shifts -/
theorem shTab_c : ∀ q ∈ shTab, xin q.1 54 ∧ opKd q.1 = 2 ∧ ¬ q.2 < (21 : Int32) ∧ ¬ (27 : Int32) < q.2 ∧ (7 : Int32) < q.2 ∧ ¬ q.2 = 49 ∧ ¬ q.2 = 52 := by decide +kernel
theorem x_shift (hw : imgC w B N) (hm : imgM m B N) (hd : dataP w m) (h : IR L w m) {cop op : Int32} (ht : (cop, op) ∈ shTab) (h0 : w.1 2 0 = cop) (g0 : m.1 0 17 = op) (hf : (w.1 2 1 = 3 ∧ m.1 0 18 = 4) ∨ (w.1 2 1 = 3 ∧ m.1 0 18 = 10) ∨ (w.1 2 1 = 4 ∧ m.1 0 18 = 11))
    (hwh : wh = adV rg (w.1 2 9) (w.1 2 10) (w.1 2 11) (w.1 2 12)) (hfo : m.1 0 34 + m.1 0 30 = fo) : EX w m (sX7_execute (sW rg (fb c p z s o) 0 wh fo w)) (sX12_doOne (tW rg (bI c) (bI p) (bI z) (bI s) (bI o) 0 ef m)) := by
  obtain ⟨t1, t2, t3, t4, t5, t6⟩ := shTab_c _ ht
  dsimp only at t1 t2 t3 t4 t5 t6
  obtain ⟨w4, w5, wa, wb, -⟩ := h.wd
  have weq := h.weq (by rw [g0]; exact t6)
  have hE : eform (m.1 0 18) = true := by rcases hf with ⟨-, q⟩ | ⟨-, q⟩ | ⟨-, q⟩ <;> (rw [q]; decide)
  obtain ⟨v, e, ef1, he, hv, hwh1, -, hC, hM⟩ := readE_p hw hm hd h hE rg hwh
  -- the count
  have hcnt : ∃ b : Int32, (∀ fl : Int32, sX7_execute (sW rg fl 0 wh fo w) = sX7_doShift_j27 b (sW rg fl 0 wh fo w)) ∧ (∀ c p z s o : Int32, sX12_shifts (tW rg c p z s o 0 ef m) = sX12_shifts_j34 b (tW rg c p z s o 0 ef m)) := by
    have ex : ∀ fl : Int32, sX7_execute (sW rg fl 0 wh fo w) = sX7_doShift (sW rg fl 0 wh fo w) := by
      intro fl
      rw [exec_k (by rw [sW_c2, h0]; exact t1), sW_c2, h0, t2]
      rfl
    rcases hf with ⟨f1, f2⟩ | ⟨f1, f2⟩ | ⟨f1, f2⟩
    · refine ⟨w.1 2 13, fun fl => ?_, fun c p z s o => ?_⟩
      · rw [ex]
        unfold sX7_doShift
        rw [sW_c2, f1, if_neg (by decide), sW_c2]
      · unfold sX12_shifts
        rw [tW_lo (by decide), f2, if_pos rfl, tW_lo (by decide), h.n.1 (by rw [f2]; decide)]
    · refine ⟨1, fun fl => ?_, fun c p z s o => ?_⟩
      · rw [ex]
        unfold sX7_doShift
        rw [sW_c2, f1, if_neg (by decide), sW_c2, h.n.2 f2]
      · unfold sX12_shifts
        rw [tW_lo (by decide), f2, if_neg (by decide), if_pos rfl]
    · refine ⟨rg 1, fun fl => ?_, fun c p z s o => ?_⟩
      · rw [ex]
        unfold sX7_doShift
        rw [sW_c2, f1, if_pos rfl, if_pos (by decide)]
        rfl
      · unfold sX12_shifts
        rw [tW_lo (by decide), f2, if_neg (by decide), if_neg (by decide), if_pos (by decide)]
        rfl
  obtain ⟨b, hx, hy⟩ := hcnt
  rw [hx, doOne_s (by rw [tW_lo (by decide), g0]; exact t3) (by rw [tW_lo (by decide), g0]; exact t4) (by rw [tW_lo (by decide), g0]; exact t5), hy, tW_lo (by decide), tW_lo (by decide), hfo]
  unfold sX7_doShift_j27 sX12_shifts_j34
  rw [hC, xbd_some, hM, xbd_some, fl5_r]
  obtain ⟨k, hk, ek⟩ := pk_andE b (m := 31) 5 (by decide)
  have hk : k < 32 := hk
  rw [ek]
  by_cases hz : k = 0
  · subst hz
    rw [if_pos (show nI 0 = (0 : Int32) from rfl), if_neg (show ¬ 0 < nI 0 from by decide), xbd_some, tW_wx (by decide)]
    exact EX.ok rfl rfl (frD_r w m) hd
  · rw [if_neg (show ¬ nI k = (0 : Int32) from fun q => hz ((nI_eq (b := 0) (by omega) (by decide)).mp q)), if_pos (show 0 < nI k from (nI_ltI2 (a := 0) (by decide) (by omega)).mpr (by omega)), sW_c2, h0, if_pos t1, t2, if_pos rfl, tW_kp, sW_c2]
    obtain ⟨r, c1, p1, z1, s1, o1, hr, hC1, hM1⟩ := shift_p wa ht g0 w4.symm hk (by rw [← weq]; exact hv) c p z s o
    rw [hC1, xbd_some, xbd_idU]
    obtain ⟨e2, F, w', m', hfr, hd', h2, hT, hC2, hM2⟩ := writeE_p hd h hE (v := r) (v2 := r) (wh := wh) (ef := ef1) rfl hwh1 e
    rw [hC2]
    by_cases he0 : e = 0
    · rw [if_pos he0, hM1, xbd_some, hM2, xbd_some, xbd_some, tW_wx (by decide)]
      exact EX.ok rfl rfl hfr hd'
    · rw [if_neg he0, xbd_some, tW_wx (by decide)]
      obtain ⟨q1, q2, q3, q4⟩ := h2 he0
      subst q1 q2 q3
      exact EX.no rfl rfl hfr hd' he0 (fun i hi => (q4 rg i hi).symm)
end CA
