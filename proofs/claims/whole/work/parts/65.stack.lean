/-! instructions of the stack, jumps, the rest -/
section ST
variable {w m : xW} {B : Nat → Int32} {N L : Nat} {rg : Nat → Int32} {c p z s o : Bool} {wh fo ef : Int32}
theorem xi4 : xin (4 : Int32) 8 := by decide
theorem xi1 : xin (1 : Int32) 8 := by decide
theorem xc4 : (4 : Int32).toNatClampNeg = 4 := rfl
theorem xc1 : (1 : Int32).toNatClampNeg = 1 := rfl
theorem push_p (hd : dataP w m) (v tr : Int32) (rg : Nat → Int32) : ∃ (e : Int32) (w' m' : xW), frD w w' m m' ∧ dataP w' m' ∧ TRi tr e ∧
    (∀ fl wh fo : Int32, sX7_push v (sW rg fl tr wh fo w) = some ((), sW (ru rg 4 (rg 4 - 4)) fl e wh fo w')) ∧
    (∀ c p z s o ef : Int32, sX12_push v (tW rg c p z s o tr ef m) = some ((), tW (ru rg 4 (rg 4 - 4)) c p z s o e ef m')) := by
  have hC0 : ∀ fl wh fo : Int32, sX7_push v (sW rg fl tr wh fo w) = sX8_store (rg 4 - 4) (nI 4) v (sW (ru rg 4 (rg 4 - 4)) fl tr wh fo w) := by
    intro fl wh fo
    unfold sX7_push
    rw [if_pos xi4, if_pos xi4, if_pos xi4, xc4, sW_r, sW_wr, sW_r, ru_s, xbd_idU]
    rfl
  have hM0 : ∀ c p z s o ef : Int32, sX12_push v (tW rg c p z s o tr ef m) = sX12_write (rg 4 - 4) v (nI 4) (tW (ru rg 4 (rg 4 - 4)) c p z s o tr ef m) := by
    intro c p z s o ef
    unfold sX12_push
    rw [if_pos xi4, if_pos xi4, if_pos xi4, xc4, tW_r, tW_wr, xbd_idU]
    rfl
  by_cases ht : tr = 0
  · subst ht
    obtain ⟨e, w', m', hf, hd', hT, hC, hM⟩ := store_pair hd (rg 4 - 4) (v := v) (v2 := v) (k := 4) (Or.inr (Or.inr rfl)) rfl
    exact ⟨e, w', m', hf, hd', fun _ => hT, fun fl wh fo => by rw [hC0, hC], fun c p z s o ef => by rw [hM0, hM]⟩
  · exact ⟨tr, w, m, frD_r w m, hd, fun q => q, fun fl wh fo => by rw [hC0, store_no (by decide) ht], fun c p z s o ef => by rw [hM0, write_no ht]⟩
theorem IR.adr (h : IR L w m) : (w.1 2 9 = -1 ∨ in8 (w.1 2 9)) ∧ (w.1 2 10 = -1 ∨ in8 (w.1 2 10)) := by
  obtain ⟨-, -, ⟨-, -, -, hE⟩, -⟩ := h
  rcases hE with ⟨-, -, -, hE | hE⟩ | hE
  · exact ⟨Or.inl hE.2.2.1, Or.inl hE.2.2.2.1⟩
  · refine ⟨?_, ?_⟩
    · rw [hE.2.2.1]; exact hE.2.2.2.2.2.1
    · rw [hE.2.2.2.1]
      rcases hE.2.2.2.2.2.2.1 with h | h
      · exact Or.inl h
      · exact Or.inr h.1
  · exact ⟨Or.inl hE.2.2.2.1, Or.inl hE.2.2.2.2.1⟩
theorem st_42 {W : xW} (h : W.1 2 0 = 42) : sX7_doStack W = (if W.1 2 1 = 6 then sX7_push (W.1 2 13) W else xbd (sX7_readE W) (fun x1 w2 => sX7_push x1 w2)) := by
  have x54 : xin (42 : Int32) 54 := by decide
  unfold sX7_doStack
  rw [h, if_pos x54, if_pos x54, if_pos (by decide)]
  simp only [xbd_idU]
theorem st_43 {W : xW} (h : W.1 2 0 = 43) : sX7_doStack W = xbd (sX8_load (W.1 20 4) (4 : Int32) W) (fun x5 w6 => xbd (sX7_addressOfE (xwi w6 20 4 ((w6.1 20 4) + (4 : Int32)))) (fun x7 w8 => sX7_writeE x5 (xwi w8 8 14 x7))) := by
  have x54 : xin (43 : Int32) 54 := by decide
  unfold sX7_doStack
  rw [h, if_pos x54, if_pos x54, if_neg (by decide), if_pos (by decide)]
  simp only [if_pos xi4, xc4, xbd_idU]
theorem st_44 {W : xW} (h : W.1 2 0 = 44) : sX7_doStack W = (if W.1 2 1 = 9 then sX7_doStack_j140 (W.1 2 13) W else xbd (sX7_readE W) (fun x10 w11 => sX7_doStack_j140 x10 w11)) := by
  have x54 : xin (44 : Int32) 54 := by decide
  unfold sX7_doStack
  rw [h, if_pos x54, if_pos x54, if_neg (by decide), if_neg (by decide)]
theorem x_push (hw : imgC w B N) (hm : imgM m B N) (hd : dataP w m) (h : IR L w m) (h0 : w.1 2 0 = 42) (g0 : m.1 0 17 = 10) (hf : (w.1 2 1 = 5 ∧ (m.1 0 18 = 5 ∨ m.1 0 18 = 6)) ∨ (w.1 2 1 = 6 ∧ m.1 0 18 = 7))
    (hwh : wh = adV rg (w.1 2 9) (w.1 2 10) (w.1 2 11) (w.1 2 12)) (hfo : m.1 0 34 + m.1 0 30 = fo) : EX w m (sX7_execute (sW rg (fb c p z s o) 0 wh fo w)) (sX12_doOne (tW rg (bI c) (bI p) (bI z) (bI s) (bI o) 0 ef m)) := by
  have weq := h.weq (by rw [g0]; decide)
  rw [ex_9 (by rw [sW_c2, h0]; decide) (by rw [sW_c2, h0]; decide), st_42 (by rw [sW_c2, h0]), sW_c2, sW_c2, doOne_o (by rw [tW_lo (by decide), g0]; decide) (by rw [tW_lo (by decide), g0]; decide), tW_lo (by decide), tW_lo (by decide), hfo, dO_10 (by rw [tW_lo (by decide), g0]), tW_lo (i := 18) (by decide)]
  rcases hf with ⟨f1, f2⟩ | ⟨f1, f2⟩
  · obtain ⟨a, e, ef1, ha, he, hC, hM, -⟩ := first_p hw hm hd h weq f2 (ef := ef) hwh
    obtain ⟨e2, w', m', hfr, hd', hT, kC, kM⟩ := push_p hd a e rg
    rw [f1, if_neg (by decide), hC, xbd_some, kC, if_neg (by rcases f2 with f2 | f2 <;> (rw [f2]; decide)), hM, xbd_some, kM, xbd_some, xbd_some, tW_wx (by decide)]
    exact EX.ok rfl rfl hfr hd'
  · obtain ⟨e2, w', m', hfr, hd', hT, kC, kM⟩ := push_p hd (m.1 0 29) 0 rg
    rw [f1, if_pos rfl, h.n.1 (by rw [f2]; decide), kC, f2, if_pos rfl, tW_lo (by decide), kM, xbd_some, xbd_some, tW_wx (by decide)]
    exact EX.ok rfl rfl hfr hd'
theorem x_pop (hw : imgC w B N) (hm : imgM m B N) (hd : dataP w m) (h : IR L w m) (h0 : w.1 2 0 = 43) (g0 : m.1 0 17 = 11) (hf : m.1 0 18 = 5 ∨ m.1 0 18 = 6)
    (hfo : m.1 0 34 + m.1 0 30 = fo) : EX w m (sX7_execute (sW rg (fb c p z s o) 0 wh fo w)) (sX12_doOne (tW rg (bI c) (bI p) (bI z) (bI s) (bI o) 0 ef m)) := by
  obtain ⟨w4, w5, wa, wb, -⟩ := h.wd
  have weq := h.weq (by rw [g0]; decide)
  obtain ⟨v, e, he, hv, hC, hM⟩ := load_pair hw hm hd (rg 4) (k := 4) (Or.inr (Or.inr rfl))
  have hC : ∀ (fl tr wh fo : Int32), sX8_load (rg 4) 4 (sW rg fl tr wh fo w) = some (v, sW rg fl (fl5 e tr) wh fo w) := fun fl tr wh fo => hC rg fl tr wh fo
  have hM : ∀ (c p z s o kp ef : Int32), sX12_read (rg 4) 4 (tW rg c p z s o kp ef m) = some (v, tW rg c p z s o (fl5 e kp) ef m) := fun c p z s o kp ef => hM rg c p z s o kp ef
  rw [ex_9 (by rw [sW_c2, h0]; decide) (by rw [sW_c2, h0]; decide), st_43 (by rw [sW_c2, h0]), sW_r, hC, xbd_some, sW_r, sW_wr, addr_c h.adr.1 h.adr.2, xbd_some, sW_wwh, fl5_r, doOne_o (by rw [tW_lo (by decide), g0]; decide) (by rw [tW_lo (by decide), g0]; decide), tW_lo (by decide), tW_lo (by decide), hfo, dO_11 (by rw [tW_lo (by decide), g0])]
  unfold sX12_pop
  simp only [if_pos xi4, xc4]
  rw [tW_r, hM, xbd_some, tW_r, tW_wr, xbd_some, fl5_r]
  generalize hrg1 : ru rg 4 (rg 4 + 4) = rg1
  generalize hwh1 : adV rg1 (w.1 2 9) (w.1 2 10) (w.1 2 11) (w.1 2 12) = wh1
  rcases hf with f2 | f2
  · have hE : eform (m.1 0 18) = true := by rw [f2]; decide
    obtain ⟨ef1, hef, hA⟩ := adr_p (rg := rg1) h hE hwh1.symm
    obtain ⟨e2, F, w', m', hfr, hd', h2, hT, hC2, hM2⟩ := writeE_p hd h hE (v := v) (v2 := v) (wh := wh1) (ef := ef1) rfl hef e
    rw [hC2, hA]
    unfold sX12_doOther_j269
    rw [tW_wef, setF_E _ (by rw [tW_lo (by decide), f2]; decide), hM2, xbd_some, xbd_some, tW_wx (by decide)]
    exact EX.ok rfl rfl hfr hd'
  · obtain ⟨n1, n2, n3, n4, n5, n6⟩ := h.N (by rw [f2]; decide)
    have c7 := n6 (Or.inl f2)
    rw [writeE_r h n2, tW_lo (i := 22) (by decide), n1, if_pos rfl]
    unfold sX12_doOther_j269
    rw [tW_wef, setF_R _ (by rw [tW_lo (by decide), f2]), tW_lo (i := 24) (by decide), tW_lo (i := 20) (by decide), ← w4, ← c7, setReg_x (by rw [c7]; exact n3) wa, xbd_some, xbd_some, tW_wx (by decide), weq]
    exact EX.ok rfl rfl (frD_r w m) hd
theorem call_c (b t : Int32) {rg1 : Nat → Int32} {e fl : Int32} {w' : xW} (hC : sX7_push fo (sW rg fl 0 wh fo w) = some ((), sW rg1 fl e wh fo w')) : sX7_doStack_j140 t (sW rg fl 0 wh fo w) = some ((), sW rg1 fl e wh t w') := by
  unfold sX7_doStack_j140
  rw [sW_fo, hC, xbd_some, sW_wfo]
theorem x_call (hd : dataP w m) (h : IR L w m) (h0 : w.1 2 0 = 44) (hf : (m.1 0 17 = 30 ∧ w.1 2 1 = 9 ∧ m.1 0 18 = 8) ∨ (m.1 0 17 = 42 ∧ w.1 2 1 = 5 ∧ m.1 0 18 = 5))
    (hfo : m.1 0 34 + m.1 0 30 = fo) : EX w m (sX7_execute (sW rg (fb c p z s o) 0 wh fo w)) (sX12_doOne (tW rg (bI c) (bI p) (bI z) (bI s) (bI o) 0 ef m)) := by
  obtain ⟨e2, w', m', hfr, hd', hT, kC, kM⟩ := push_p hd fo 0 rg
  have q0 : ∀ i, m'.1 0 i = m.1 0 i := fun i => hfr.2.2.1 0 i (by decide)
  rw [ex_9 (by rw [sW_c2, h0]; decide) (by rw [sW_c2, h0]; decide), st_44 (by rw [sW_c2, h0]), sW_c2, sW_c2]
  rcases hf with ⟨g0, f1, f2⟩ | ⟨g0, f1, f2⟩
  · rw [f1, if_pos rfl, call_c fo _ (kC _ _ _), h.n.1 (by rw [f2]; decide), doOne_o (by rw [tW_lo (by decide), g0]; decide) (by rw [tW_lo (by decide), g0]; decide), tW_lo (by decide), tW_lo (by decide), hfo, dO_30 (by rw [tW_lo (by decide), g0]), kM, xbd_some, xbd_some, tW_lo (by decide), q0, tW_wx (by decide)]
    exact EX.ok rfl rfl hfr hd'
  · have hE : eform (m.1 0 18) = true := by rw [f2]; decide
    have ew : w.1 2 4 = 4 := h.w4 (Or.inr (by rw [g0]; decide))
    have weq := h.weq (by rw [g0]; decide)
    rw [ew] at weq
    have hc6 := h.x.2 (Or.inl g0)
    have e7 := (h.E hE).2.2.1
    have hrm : in8 (w.1 2 7) := h.2.2.1.1
    rw [f1, if_neg (by decide), readE_r h hc6, xbd_some, call_c fo _ (kC _ _ _), doOne_o (by rw [tW_lo (by decide), g0]; decide) (by rw [tW_lo (by decide), g0]; decide), tW_lo (by decide), tW_lo (by decide), hfo, dO_42 (by rw [tW_lo (by decide), g0]), tW_lo (i := 24) (by decide), ← e7, if_pos (in8_x hrm).2.1, tW_r, prt4 weq]
    dsimp only [xlet]
    rw [kM, xbd_some, xbd_some, tW_wx (by decide)]
    exact EX.ok rfl rfl hfr hd'
theorem x_jmp (hd : dataP w m) (h : IR L w m) (h0 : w.1 2 0 = 45) (hf : (m.1 0 17 = 31 ∧ w.1 2 1 = 9 ∧ m.1 0 18 = 8) ∨ (m.1 0 17 = 43 ∧ w.1 2 1 = 5 ∧ m.1 0 18 = 5))
    (hfo : m.1 0 34 + m.1 0 30 = fo) : EX w m (sX7_execute (sW rg (fb c p z s o) 0 wh fo w)) (sX12_doOne (tW rg (bI c) (bI p) (bI z) (bI s) (bI o) 0 ef m)) := by
  have a46 : xin (45 : Int32) 54 ∧ xin (46 : Int32) 54 := by decide
  have a47 : xin (45 : Int32) 54 ∧ xin (47 : Int32) 54 := by decide
  have a48 : xin (45 : Int32) 54 ∧ xin (48 : Int32) 54 := by decide
  have hj : ∀ W : xW, W.1 2 0 = 45 → sX7_doJump W = sX7_doJump_j102 1 W := by
    intro W hW
    unfold sX7_doJump
    rw [hW, if_pos a46, if_neg (by decide), if_pos a47, if_neg (by decide), if_pos a48, if_neg (by decide)]
  rw [ex_10 (by rw [sW_c2, h0]; decide) (by rw [sW_c2, h0]; decide), hj _ (by rw [sW_c2, h0])]
  unfold sX7_doJump_j102
  rw [if_neg (by decide), sW_c2, sW_c2]
  rcases hf with ⟨g0, f1, f2⟩ | ⟨g0, f1, f2⟩
  · rw [f1, if_pos rfl, sW_wfo, h.n.1 (by rw [f2]; decide), doOne_o (by rw [tW_lo (by decide), g0]; decide) (by rw [tW_lo (by decide), g0]; decide), tW_lo (by decide), tW_lo (by decide), hfo, dO_31 (by rw [tW_lo (by decide), g0]), xbd_some, tW_lo (by decide), tW_wx (by decide)]
    exact EX.ok rfl rfl (frD_r w m) hd
  · have hE : eform (m.1 0 18) = true := by rw [f2]; decide
    have ew : w.1 2 4 = 4 := h.w4 (Or.inr (by rw [g0]; decide))
    have weq := h.weq (by rw [g0]; decide)
    rw [ew] at weq
    have hc6 := h.x.2 (Or.inr g0)
    have e7 := (h.E hE).2.2.1
    have hrm : in8 (w.1 2 7) := h.2.2.1.1
    rw [f1, if_neg (by decide), readE_r h hc6, xbd_some, sW_wfo, doOne_o (by rw [tW_lo (by decide), g0]; decide) (by rw [tW_lo (by decide), g0]; decide), tW_lo (by decide), tW_lo (by decide), hfo, dO_43 (by rw [tW_lo (by decide), g0]), tW_lo (i := 24) (by decide), ← e7, if_pos (in8_x hrm).2.1, tW_r, xbd_some, tW_wx (by decide), prt4 weq]
    exact EX.ok rfl rfl (frD_r w m) hd
theorem j102_1 {W : xW} (f1 : W.1 2 1 = 9) : sX7_doJump_j102 1 W = some ((), xwi W 8 15 (W.1 2 13)) := by
  unfold sX7_doJump_j102
  rw [if_neg (by decide), f1, if_pos rfl]
theorem j102_0 {W : xW} : sX7_doJump_j102 0 W = some ((), W) := by
  unfold sX7_doJump_j102
  rw [if_pos rfl]
theorem x_jcc (hd : dataP w m) (h : IR L w m) (h0 : w.1 2 0 = 46) (g0 : m.1 0 17 = 13) (f1 : w.1 2 1 = 9) (f2 : m.1 0 18 = 8)
    (hfo : m.1 0 34 + m.1 0 30 = fo) : EX w m (sX7_execute (sW rg (fb c p z s o) 0 wh fo w)) (sX12_doOne (tW rg (bI c) (bI p) (bI z) (bI s) (bI o) 0 ef m)) := by
  obtain ⟨k1, j, hj, k2⟩ := h.c (Or.inl h0)
  have a46 : xin (46 : Int32) 54 ∧ xin (46 : Int32) 54 := by decide
  rw [ex_10 (by rw [sW_c2, h0]; decide) (by rw [sW_c2, h0]; decide)]
  unfold sX7_doJump
  rw [sW_c2, h0, if_pos a46, if_pos rfl, sW_c2, k2, holds_c hj, xbd_some, doOne_o (by rw [tW_lo (by decide), g0]; decide) (by rw [tW_lo (by decide), g0]; decide), tW_lo (by decide), tW_lo (by decide), hfo, dO_13 (by rw [tW_lo (by decide), g0]), tW_lo (i := 19) (by decide), ← k1, k2, holds_m hj, xbd_some, if_b0]
  cases hoR j c p z s o
  · rw [show bI false = 0 from rfl, j102_0, if_neg (by decide), xbd_some, tW_wx (by decide)]
    exact EX.ok rfl rfl (frD_r w m) hd
  · rw [show bI true = 1 from rfl, j102_1 (by rw [sW_c2, f1]), sW_c2, sW_wfo, h.n.1 (by rw [f2]; decide), if_pos rfl, xbd_some, tW_lo (by decide), tW_wx (by decide)]
    exact EX.ok rfl rfl (frD_r w m) hd
theorem x_loop (hd : dataP w m) (h : IR L w m) (h0 : w.1 2 0 = 47) (g0 : m.1 0 17 = 28) (f1 : w.1 2 1 = 9) (f2 : m.1 0 18 = 8)
    (hfo : m.1 0 34 + m.1 0 30 = fo) : EX w m (sX7_execute (sW rg (fb c p z s o) 0 wh fo w)) (sX12_doOne (tW rg (bI c) (bI p) (bI z) (bI s) (bI o) 0 ef m)) := by
  have a46 : xin (47 : Int32) 54 ∧ xin (46 : Int32) 54 := by decide
  have a47 : xin (47 : Int32) 54 ∧ xin (47 : Int32) 54 := by decide
  rw [ex_10 (by rw [sW_c2, h0]; decide) (by rw [sW_c2, h0]; decide)]
  unfold sX7_doJump sX7_doJump_j70
  rw [sW_c2, h0, if_pos a46, if_neg (by decide), if_pos a47, if_pos rfl, if_pos xi1, if_pos xi1, if_pos xi1, xc1, sW_r, sW_wr, sW_r, ru_s, doOne_o (by rw [tW_lo (by decide), g0]; decide) (by rw [tW_lo (by decide), g0]; decide), tW_lo (by decide), tW_lo (by decide), hfo, dO_28 (by rw [tW_lo (by decide), g0]), if_pos xi1, if_pos xi1, if_pos xi1, xc1, tW_r, tW_wr]
  by_cases hz : rg 1 - 1 = 0
  · rw [if_pos hz, if_pos hz, j102_0, xbd_some, tW_wx (by decide)]
    exact EX.ok rfl rfl (frD_r w m) hd
  · rw [if_neg hz, if_neg hz, j102_1 (by rw [sW_c2, f1]), sW_c2, sW_wfo, h.n.1 (by rw [f2]; decide), xbd_some, tW_lo (by decide), tW_wx (by decide)]
    exact EX.ok rfl rfl (frD_r w m) hd
theorem x_jecxz (hd : dataP w m) (h : IR L w m) (h0 : w.1 2 0 = 48) (g0 : m.1 0 17 = 29) (f1 : w.1 2 1 = 9) (f2 : m.1 0 18 = 8)
    (hfo : m.1 0 34 + m.1 0 30 = fo) : EX w m (sX7_execute (sW rg (fb c p z s o) 0 wh fo w)) (sX12_doOne (tW rg (bI c) (bI p) (bI z) (bI s) (bI o) 0 ef m)) := by
  have a46 : xin (48 : Int32) 54 ∧ xin (46 : Int32) 54 := by decide
  have a47 : xin (48 : Int32) 54 ∧ xin (47 : Int32) 54 := by decide
  have a48 : xin (48 : Int32) 54 ∧ xin (48 : Int32) 54 := by decide
  rw [ex_10 (by rw [sW_c2, h0]; decide) (by rw [sW_c2, h0]; decide)]
  unfold sX7_doJump sX7_doJump_j101
  rw [sW_c2, h0, if_pos a46, if_neg (by decide), if_pos a47, if_neg (by decide), if_pos a48, if_pos rfl, if_pos xi1, xc1, sW_r, doOne_o (by rw [tW_lo (by decide), g0]; decide) (by rw [tW_lo (by decide), g0]; decide), tW_lo (by decide), tW_lo (by decide), hfo, dO_29 (by rw [tW_lo (by decide), g0]), if_pos xi1, xc1, tW_r]
  by_cases hz : rg 1 = 0
  · rw [if_pos hz, if_pos hz, j102_1 (by rw [sW_c2, f1]), sW_c2, sW_wfo, h.n.1 (by rw [f2]; decide), xbd_some, tW_lo (by decide), tW_wx (by decide)]
    exact EX.ok rfl rfl (frD_r w m) hd
  · rw [if_neg hz, if_neg hz, j102_0, xbd_some, tW_wx (by decide)]
    exact EX.ok rfl rfl (frD_r w m) hd
theorem dR_18 {W : xW} {p1 : Int32} (h : W.1 0 17 = 18) : sX12_doRest p1 W = some (p1, W) := by
  unfold sX12_doRest
  rw [h]
  rfl
theorem x_nop (hd : dataP w m) (h0 : w.1 2 0 = 50) (g0 : m.1 0 17 = 18)
    (hfo : m.1 0 34 + m.1 0 30 = fo) : EX w m (sX7_execute (sW rg (fb c p z s o) 0 wh fo w)) (sX12_doOne (tW rg (bI c) (bI p) (bI z) (bI s) (bI o) 0 ef m)) := by
  rw [ex_11 (by rw [sW_c2, h0]; decide) (by rw [sW_c2, h0]; decide), rs_50 (by rw [sW_c2, h0]), doOne_o (by rw [tW_lo (by decide), g0]; decide) (by rw [tW_lo (by decide), g0]; decide), tW_lo (by decide), tW_lo (by decide), hfo, dO_18 (by rw [tW_lo (by decide), g0]), dR_18 (by rw [tW_lo (by decide), g0]), xbd_some, xbd_some, tW_wx (by decide)]
  exact EX.ok rfl rfl (frD_r w m) hd
theorem x_cmc (hd : dataP w m) (h0 : w.1 2 0 = 51) (g0 : m.1 0 17 = 33)
    (hfo : m.1 0 34 + m.1 0 30 = fo) : EX w m (sX7_execute (sW rg (fb c p z s o) 0 wh fo w)) (sX12_doOne (tW rg (bI c) (bI p) (bI z) (bI s) (bI o) 0 ef m)) := by
  rw [ex_11 (by rw [sW_c2, h0]; decide) (by rw [sW_c2, h0]; decide), rs_51 (by rw [sW_c2, h0]), has_c, xbd_some, if_b0, set_c (b := 1) (x := true) rfl, set_c (b := 0) (x := false) rfl, doOne_o (by rw [tW_lo (by decide), g0]; decide) (by rw [tW_lo (by decide), g0]; decide), tW_lo (by decide), tW_lo (by decide), hfo, dO_33 (by rw [tW_lo (by decide), g0]), tW_c, if_b0, tW_wc, tW_wc]
  cases c
  · rw [if_neg (by decide), if_neg (by decide), xbd_some, xbd_some, tW_wx (by decide)]
    exact EX.ok (c := true) rfl rfl (frD_r w m) hd
  · rw [if_pos rfl, if_pos rfl, xbd_some, xbd_some, tW_wx (by decide)]
    exact EX.ok (c := false) rfl rfl (frD_r w m) hd
theorem x_clc (hd : dataP w m) (h0 : w.1 2 0 = 52) (g0 : m.1 0 17 = 34)
    (hfo : m.1 0 34 + m.1 0 30 = fo) : EX w m (sX7_execute (sW rg (fb c p z s o) 0 wh fo w)) (sX12_doOne (tW rg (bI c) (bI p) (bI z) (bI s) (bI o) 0 ef m)) := by
  rw [ex_11 (by rw [sW_c2, h0]; decide) (by rw [sW_c2, h0]; decide), rs_52 (by rw [sW_c2, h0]), set_c (b := 0) (x := false) rfl, xbd_some, doOne_o (by rw [tW_lo (by decide), g0]; decide) (by rw [tW_lo (by decide), g0]; decide), tW_lo (by decide), tW_lo (by decide), hfo, dO_34 (by rw [tW_lo (by decide), g0])]
  unfold sX12_doOther_j703
  rw [tW_lo (by decide), g0, if_neg (by decide), tW_wc, xbd_some, tW_wx (by decide)]
  exact EX.ok (c := false) rfl rfl (frD_r w m) hd
theorem x_stc (hd : dataP w m) (h0 : w.1 2 0 = 53) (g0 : m.1 0 17 = 35)
    (hfo : m.1 0 34 + m.1 0 30 = fo) : EX w m (sX7_execute (sW rg (fb c p z s o) 0 wh fo w)) (sX12_doOne (tW rg (bI c) (bI p) (bI z) (bI s) (bI o) 0 ef m)) := by
  rw [ex_11 (by rw [sW_c2, h0]; decide) (by rw [sW_c2, h0]; decide), rs_53 (by rw [sW_c2, h0]), set_c (b := 1) (x := true) rfl, xbd_some, doOne_o (by rw [tW_lo (by decide), g0]; decide) (by rw [tW_lo (by decide), g0]; decide), tW_lo (by decide), tW_lo (by decide), hfo, dO_35 (by rw [tW_lo (by decide), g0])]
  unfold sX12_doOther_j703
  rw [tW_lo (by decide), g0, if_pos rfl, tW_wc, xbd_some, tW_wx (by decide)]
  exact EX.ok (c := true) rfl rfl (frD_r w m) hd
end ST
