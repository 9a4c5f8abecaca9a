/-! instructions that reckon: double shifts, products, quotients -/
section CB
variable {w m : xW} {B : Nat → Int32} {N L : Nat} {rg : Nat → Int32} {c p z s o : Bool} {wh fo ef : Int32}
theorem x_dbl (hw : imgC w B N) (hm : imgM m B N) (hd : dataP w m) (h : IR L w m) {cop op : Int32} {l : Bool} (ht : (cop = 21 ∧ op = 46 ∧ l = true) ∨ (cop = 22 ∧ op = 47 ∧ l = false)) (h0 : w.1 2 0 = cop) (g0 : m.1 0 17 = op) (f1 : w.1 2 1 = 8) (f2 : m.1 0 18 = 12)
    (hwh : wh = adV rg (w.1 2 9) (w.1 2 10) (w.1 2 11) (w.1 2 12)) (hfo : m.1 0 34 + m.1 0 30 = fo) : EX w m (sX7_execute (sW rg (fb c p z s o) 0 wh fo w)) (sX12_doOne (tW rg (bI c) (bI p) (bI z) (bI s) (bI o) 0 ef m)) := by
  have hE : eform (m.1 0 18) = true := by rw [f2]; decide
  obtain ⟨w4, w5, wa, wb, -⟩ := h.wd
  have ew : w.1 2 4 = 4 := h.w4 (Or.inr (by rw [g0]; rcases ht with ⟨-, rfl, -⟩ | ⟨-, rfl, -⟩ <;> decide))
  have hrg : in8 (w.1 2 8) := h.2.2.1.2.1
  have e8 := (h.E hE).2.2.2.1
  obtain ⟨v, e, ef1, he, hv, hwh1, -, hC, hM⟩ := readE_p hw hm hd h hE rg hwh
  have hx54 : xin cop 54 := by rcases ht with ⟨rfl, -⟩ | ⟨rfl, -⟩ <;> decide
  have hkd : opKd cop = 3 := by rcases ht with ⟨rfl, -⟩ | ⟨rfl, -⟩ <;> decide
  have hdo : ∀ W : xW, W.1 0 17 = op → ∀ to, sX12_doOther to W = xbd (sX12_doubles W) (fun _ w7 => some (to, w7)) := by
    intro W hW to
    rcases ht with ⟨-, rfl, -⟩ | ⟨-, rfl, -⟩
    · rw [dO_46 hW, dR_46 hW]
    · rw [dO_47 hW, dR_47 hW]
  have h7 : (7 : Int32) < op := by rcases ht with ⟨-, rfl, -⟩ | ⟨-, rfl, -⟩ <;> decide
  have h27 : op < 21 ∨ (27 : Int32) < op := by rcases ht with ⟨-, rfl, -⟩ | ⟨-, rfl, -⟩ <;> decide
  rw [ex_3 (by rw [sW_c2, h0]; exact hx54) (by rw [sW_c2, h0]; exact hkd), doOne_o (by rw [tW_lo (by decide), g0]; exact h7) (by rw [tW_lo (by decide), g0]; exact h27), tW_lo (by decide), tW_lo (by decide), hfo, hdo _ (by rw [tW_lo (by decide), g0])]
  unfold sX7_doShift sX7_doShift_j27 sX12_doubles
  rw [sW_c2, f1, if_neg (by decide), sW_c2, hC, xbd_some, hM, xbd_some, fl5_r, h.n.1 (by rw [f2]; decide), tW_lo (i := 23) (by decide), tW_lo (i := 29) (by decide), ← e8, if_pos (in8_x hrg).2.1, tW_r]
  dsimp only [xlet]
  obtain ⟨k, hk, ek⟩ := pk_andE (m.1 0 29) (m := 31) 5 (by decide)
  have hk : k < 32 := hk
  rw [ek]
  by_cases hz : k = 0
  · subst hz
    rw [if_pos (show nI 0 = (0 : Int32) from rfl), if_pos (show nI 0 = (0 : Int32) from rfl), xbd_some, xbd_some, tW_wx (by decide)]
    exact EX.ok rfl rfl (frD_r w m) hd
  · have hnz : ¬ nI k = (0 : Int32) := fun q => hz ((nI_eq (b := 0) (by omega) (by decide)).mp q)
    have hkd2 : ¬ opKd cop = 2 := by rw [hkd]; decide
    rw [if_neg hnz, if_neg hnz, sW_c2, h0, if_pos hx54, if_neg hkd2, readG_c h, xbd_some, tW_kp, tW_lo (i := 17) (by decide), g0]
    have eg : prt rg (w.1 2 8).toNatClampNeg (w.1 2 4) = rg (w.1 2 8).toNatClampNeg := by rw [ew]; exact if_pos rfl
    rw [eg, dbl_c (l := l) (by rcases ht with ⟨q, -, r⟩ | ⟨q, -, r⟩; exact Or.inl ⟨q, r⟩; exact Or.inr ⟨q, r⟩), xbd_some]
    generalize hr : dbR l v (rg (w.1 2 8).toNatClampNeg) k = r
    obtain ⟨e2, F, w', m', hfr, hd', h2, hT, hC2, hM2⟩ := writeE_p hd h hE (v := r) (v2 := r) (wh := wh) (ef := ef1) rfl hwh1 e
    rw [hC2]
    by_cases he0 : e = 0
    · have hrM : (if op = 46 then sX12_doubles_j67 (nI k) v ((v <<< (nI k &&& 31)) ||| (xushr (rg (w.1 2 8).toNatClampNeg) ((32 : Int32) - nI k))) (tW rg (bI c) (bI p) (bI z) (bI s) (bI o) e ef1 m) else sX12_doubles_j67 (nI k) v ((xushr v (nI k)) ||| (rg (w.1 2 8).toNatClampNeg <<< (((32 : Int32) - nI k) &&& 31))) (tW rg (bI c) (bI p) (bI z) (bI s) (bI o) e ef1 m)) = xbd (sX12_setE r (tW rg (bI (dbC l v k)) (bI (par8 r)) (bI (rz 4 r)) (bI (tb r 31)) (bI (Bool.xor (tb v 31) (tb r 31))) e ef1 m)) (fun _ w2 => some ((), w2)) := by
        rcases ht with ⟨-, rfl, rfl⟩ | ⟨-, rfl, rfl⟩
        · rw [if_pos rfl]
          have : (v <<< (nI k &&& 31)) ||| (xushr (rg (w.1 2 8).toNatClampNeg) ((32 : Int32) - nI k)) = r := hr
          rw [this, dbl_m (Or.inl ⟨rfl, rfl⟩) g0]
        · rw [if_neg (by decide)]
          have : (xushr v (nI k)) ||| (rg (w.1 2 8).toNatClampNeg <<< (((32 : Int32) - nI k) &&& 31)) = r := hr
          rw [this, dbl_m (Or.inr ⟨rfl, rfl⟩) g0]
      rw [if_pos he0, hrM, hM2]
      simp only [xbd_some]
      rw [tW_wx (by decide)]
      exact EX.ok rfl rfl hfr hd'
    · rw [if_neg he0]
      simp only [xbd_some]
      rw [tW_wx (by decide)]
      obtain ⟨q1, q2, q3, q4⟩ := h2 he0
      subst q1 q2 q3
      exact EX.no rfl rfl hfr hd' he0 (fun i hi => (q4 rg i hi).symm)
theorem x_imul (hw : imgC w B N) (hm : imgM m B N) (hd : dataP w m) (h : IR L w m) (h0 : w.1 2 0 = 25) (g0 : m.1 0 17 = 12) (hf : (w.1 2 1 = 7 ∧ m.1 0 18 = 9) ∨ (w.1 2 1 = 2 ∧ m.1 0 18 = 2))
    (hwh : wh = adV rg (w.1 2 9) (w.1 2 10) (w.1 2 11) (w.1 2 12)) (hfo : m.1 0 34 + m.1 0 30 = fo) : EX w m (sX7_execute (sW rg (fb c p z s o) 0 wh fo w)) (sX12_doOne (tW rg (bI c) (bI p) (bI z) (bI s) (bI o) 0 ef m)) := by
  have hE : eform (m.1 0 18) = true := by rcases hf with ⟨-, q⟩ | ⟨-, q⟩ <;> (rw [q]; decide)
  obtain ⟨w4, w5, wa, wb, -⟩ := h.wd
  have ew : w.1 2 4 = 4 := h.w4 (Or.inr (by rw [g0]; decide))
  have hrg : in8 (w.1 2 8) := h.2.2.1.2.1
  have e8 := (h.E hE).2.2.2.1
  obtain ⟨v, e, ef1, he, hv, hwh1, -, hC, hM⟩ := readE_p hw hm hd h hE rg hwh
  have es : ∀ r, spr rg (w.1 2 8).toNatClampNeg (w.1 2 4) r = ru rg (w.1 2 8).toNatClampNeg r := fun r => by rw [ew]; exact if_pos rfl
  rw [ex_4 (by rw [sW_c2, h0]; decide) (by rw [sW_c2, h0]; decide), doOne_o (by rw [tW_lo (by decide), g0]; decide) (by rw [tW_lo (by decide), g0]; decide), tW_lo (by decide), tW_lo (by decide), hfo, dO_12 (by rw [tW_lo (by decide), g0])]
  unfold sX7_doProduct sX12_doOther_j311
  rw [hC, xbd_some, hM, xbd_some, fl5_r, sW_c2, h0, if_pos (by decide), if_pos rfl, sW_c2, tW_lo (by decide), tW_lo (by decide), tW_lo (by decide), ← e8]
  rcases hf with ⟨f1, f2⟩ | ⟨f1, f2⟩
  · rw [f1, if_pos rfl, f2, if_neg (by decide), sW_c2, h.n.1 (by rw [f2]; decide), prod_c, writeG_c h, xbd_some, prod_m v _ hrg e8.symm, xbd_some, xbd_some, tW_wx (by decide), es]
    exact EX.ok rfl rfl (frD_r w m) hd
  · have eg : prt rg (w.1 2 8).toNatClampNeg (w.1 2 4) = rg (w.1 2 8).toNatClampNeg := by rw [ew]; exact if_pos rfl
    rw [f1, if_neg (by decide), f2, if_pos rfl, readG_c h, xbd_some, eg, if_pos (in8_x hrg).2.1, tW_r, prod_c, writeG_c h, xbd_some, prod_m v _ hrg e8.symm, xbd_some, xbd_some, tW_wx (by decide), es]
    exact EX.ok rfl rfl (frD_r w m) hd
theorem x_mul (hw : imgC w B N) (hm : imgM m B N) (hd : dataP w m) (h : IR L w m) {cop op : Int32} (hop : (cop = 23 ∧ op = 38) ∨ (cop = 24 ∧ op = 39)) (h0 : w.1 2 0 = cop) (g0 : m.1 0 17 = op) (f2 : m.1 0 18 = 5)
    (hwh : wh = adV rg (w.1 2 9) (w.1 2 10) (w.1 2 11) (w.1 2 12)) (hfo : m.1 0 34 + m.1 0 30 = fo) : EX w m (sX7_execute (sW rg (fb c p z s o) 0 wh fo w)) (sX12_doOne (tW rg (bI c) (bI p) (bI z) (bI s) (bI o) 0 ef m)) := by
  have hE : eform (m.1 0 18) = true := by rw [f2]; decide
  obtain ⟨w4, w5, wa, wb, -⟩ := h.wd
  have weq := h.weq (by rw [g0]; rcases hop with ⟨-, rfl⟩ | ⟨-, rfl⟩ <;> decide)
  obtain ⟨v, e, ef1, he, hv, hwh1, -, hC, hM⟩ := readE_p hw hm hd h hE rg hwh
  have hx54 : xin cop 54 ∧ xin (25 : Int32) 54 := by rcases hop with ⟨rfl, -⟩ | ⟨rfl, -⟩ <;> decide
  have hkd : opKd cop = 4 := by rcases hop with ⟨rfl, -⟩ | ⟨rfl, -⟩ <;> decide
  have h25 : ¬ cop = 25 := by rcases hop with ⟨rfl, -⟩ | ⟨rfl, -⟩ <;> decide
  have hdo : ∀ W : xW, W.1 0 17 = op → ∀ to, sX12_doOther to W = xbd (sX12_wholeProduct W) (fun _ w7 => some (to, w7)) := by
    intro W hW to
    rcases hop with ⟨-, rfl⟩ | ⟨-, rfl⟩
    · rw [dO_38 hW]
    · rw [dO_39 hW]
  have h7 : (7 : Int32) < op := by rcases hop with ⟨-, rfl⟩ | ⟨-, rfl⟩ <;> decide
  have h27 : op < 21 ∨ (27 : Int32) < op := by rcases hop with ⟨-, rfl⟩ | ⟨-, rfl⟩ <;> decide
  rw [ex_4 (by rw [sW_c2, h0]; exact hx54.1) (by rw [sW_c2, h0]; exact hkd), doOne_o (by rw [tW_lo (by decide), g0]; exact h7) (by rw [tW_lo (by decide), g0]; exact h27), tW_lo (by decide), tW_lo (by decide), hfo, hdo _ (by rw [tW_lo (by decide), g0])]
  unfold sX7_doProduct sX12_wholeProduct
  rw [hC, xbd_some, hM, xbd_some, fl5_r, sW_c2, h0, if_pos hx54, if_neg h25, sW_c2, tW_lo (by decide), ← w4, xbd_idU, xbd_idU]
  by_cases h1 : w.1 2 4 = 1
  · rw [if_pos h1, if_pos h1]
    obtain ⟨rg1, c1, p1, z1, s1, o1, kC, kM⟩ := mulB_p (w := w) (m := m) (e := v) (by rw [weq, h1] at hv; exact hv) hop h0 g0 rg c p z s o
    rw [kC, kM, xbd_some, xbd_some, tW_wx (by decide)]
    exact EX.ok rfl rfl (frD_r w m) hd
  · rw [if_neg h1, if_neg h1]
    obtain ⟨rg1, c1, p1, z1, s1, o1, kC, kM⟩ := mulL_p (w := w) (m := m) (e := v) hop h0 g0 rg c p z s o
    rw [kC, kM, xbd_some, xbd_some, tW_wx (by decide)]
    exact EX.ok rfl rfl (frD_r w m) hd
theorem fl5_fl5 (t e : Int32) : fl5 t (fl5 e 0) = fl5 t e := by rw [fl5_r]
theorem x_div (hw : imgC w B N) (hm : imgM m B N) (hd : dataP w m) (h : IR L w m) {cop op : Int32} (hop : (cop = 26 ∧ op = 40) ∨ (cop = 27 ∧ op = 41)) (h0 : w.1 2 0 = cop) (g0 : m.1 0 17 = op) (f2 : m.1 0 18 = 5)
    (hwh : wh = adV rg (w.1 2 9) (w.1 2 10) (w.1 2 11) (w.1 2 12)) (hfo : m.1 0 34 + m.1 0 30 = fo) : EX w m (sX7_execute (sW rg (fb c p z s o) 0 wh fo w)) (sX12_doOne (tW rg (bI c) (bI p) (bI z) (bI s) (bI o) 0 ef m)) := by
  have hE : eform (m.1 0 18) = true := by rw [f2]; decide
  obtain ⟨w4, w5, wa, wb, -⟩ := h.wd
  have weq := h.weq (by rw [g0]; rcases hop with ⟨-, rfl⟩ | ⟨-, rfl⟩ <;> decide)
  obtain ⟨v, e, ef1, he, hv, hwh1, -, hC, hM⟩ := readE_p hw hm hd h hE rg hwh
  have hx54 : xin cop 54 ∧ xin (26 : Int32) 54 := by rcases hop with ⟨rfl, -⟩ | ⟨rfl, -⟩ <;> decide
  have hkd : opKd cop = 5 := by rcases hop with ⟨rfl, -⟩ | ⟨rfl, -⟩ <;> decide
  have hdo : ∀ W : xW, W.1 0 17 = op → ∀ to, sX12_doOther to W = xbd (sX12_quotient W) (fun _ w7 => some (to, w7)) := by
    intro W hW to
    rcases hop with ⟨-, rfl⟩ | ⟨-, rfl⟩
    · rw [dO_40 hW]
    · rw [dO_41 hW]
  have h7 : (7 : Int32) < op := by rcases hop with ⟨-, rfl⟩ | ⟨-, rfl⟩ <;> decide
  have h27 : op < 21 ∨ (27 : Int32) < op := by rcases hop with ⟨-, rfl⟩ | ⟨-, rfl⟩ <;> decide
  have hu : ∀ (x : Int32) (W : xW), sX11_unsigned x W = some (x.toInt64 &&& 4294967295, W) := fun _ _ => rfl
  rw [ex_5 (by rw [sW_c2, h0]; exact hx54.1) (by rw [sW_c2, h0]; exact hkd), doOne_o (by rw [tW_lo (by decide), g0]; exact h7) (by rw [tW_lo (by decide), g0]; exact h27), tW_lo (by decide), tW_lo (by decide), hfo, hdo _ (by rw [tW_lo (by decide), g0])]
  unfold sX7_doQuotient sX12_quotient
  rw [hC, xbd_some, hM, xbd_some, fl5_r, tW_kp, sW_c2, sW_c2, tW_lo (by decide), ← w4, h0, if_pos hx54, xbd_idU, xbd_idU, hu, xbd_some, xbd_idU, xbd_idU]
  by_cases hv0 : v = 0
  · rw [if_pos hv0, fail_c]
    by_cases he0 : e = 0
    · rw [if_pos he0]
      subst he0 hv0
      -- a divisor 0 traps
      have q : ∀ x : Option (Unit × xW), x = some ((), tW rg (bI c) (bI p) (bI z) (bI s) (bI o) 4 ef1 m) → EX w m (some ((), sW rg (fb c p z s o) (fl5 4 0) wh fo w)) (xbd (xbd x (fun _ w7 => some (fo, w7))) (fun x1 w2 => some ((), xwi w2 0 34 x1))) := by
        intro x hx
        rw [hx, xbd_some, xbd_some, tW_wx (by decide), fl5_r]
        exact EX.ok rfl rfl (frD_r w m) hd (Or.inr (Or.inl rfl))
      apply q
      have t4 : ∀ (c p z s o : Int32), sX12_traps (tW rg c p z s o 0 ef1 m) = some ((), tW rg c p z s o 4 ef1 m) := fun c p z s o => by rw [traps_m, fl5_r]
      have j69 : ∀ (a : Int32) (c p z s o : Int32), sX12_quotient_j69 a 0 (tW rg c p z s o 0 ef1 m) = some ((), tW rg c p z s o 4 ef1 m) := by
        intro a c p z s o
        unfold sX12_quotient_j69
        rw [if_pos rfl]
        unfold sX12_quotient_j83
        rw [t4, xbd_some, if_pos (show (255 : Int32) < 1000 from by decide), if_neg (show ¬ (1000 : Int32) < -128 from by decide), if_pos (show (127 : Int32) < 1000 from by decide)]
        split <;> rfl
      have j49 : ∀ (a : Int32) (c p z s o : Int32), sX12_quotient_j49 0 a (tW rg c p z s o 0 ef1 m) = some ((), tW rg c p z s o 4 ef1 m) := by
        intro a c p z s o
        unfold sX12_quotient_j49
        rw [show (0 : Int32) &&& 255 = 0 from rfl, show (0 : Int32).toInt8.toInt32 = 0 from by decide, j69]
        split <;> rfl
      have x0 : xin (0 : Int32) 8 := by decide
      have x2 : xin (2 : Int32) 8 := by decide
      simp only [j49, if_pos x0, if_pos x2, xlet]
      by_cases h1 : w.1 2 4 = 1
      · rw [if_pos h1]
        split <;> rfl
      · rw [if_neg h1, tW_lo (by decide), g0]
        rcases hop with ⟨-, rfl⟩ | ⟨-, rfl⟩
        · rw [if_pos rfl, t4, xbd_some]
          have hn : ¬ ((tW rg (bI c) (bI p) (bI z) (bI s) (bI o) 0 ef1 m).1 9 ((2 : Int32).toNatClampNeg)).toInt64 &&& 4294967295 < (0 : Int32).toInt64 &&& 4294967295 := by
            rw [un_l, un_l]
            intro q
            have q2 := (pk_lLT (by have := un_lt ((tW rg (bI c) (bI p) (bI z) (bI s) (bI o) 0 ef1 m).1 9 ((2 : Int32).toNatClampNeg)); omega) (by decide)).mp q
            rw [show un (0 : Int32) = 0 from rfl] at q2
            omega
          rw [if_neg hn]
        · rw [if_neg (by decide), if_pos trivial]
          unfold sX12_quotient_j308
          rw [if_pos rfl, t4, xbd_some]
    · rw [if_neg he0, xbd_some, xbd_some, tW_wx (by decide), show fl5 4 e = e from if_neg he0]
      exact EX.ok rfl rfl (frD_r w m) hd
  · have he0 : e = 0 := he.resolve_right (fun q => hv0 q.2)
    subst he0
    rw [if_neg hv0, if_pos rfl]
    by_cases h1 : w.1 2 4 = 1
    · rw [if_pos h1, if_pos h1]
      obtain ⟨rg1, t, ht, kC, kM⟩ := divB_p (w := w) (m := m) (e := v) (by rw [weq, h1] at hv; exact hv) hv0 hop h0 g0 rg
      rw [kC, kM, xbd_some, xbd_some, tW_wx (by decide), fl5_r]
      exact EX.ok rfl rfl (frD_r w m) hd (ht.elim Or.inl (fun q => Or.inr (Or.inl q)))
    · rw [if_neg h1, if_neg h1]
      have hq : ∀ (rm : Option (Unit × xW)), (∃ (rg1 : Nat → Int32) (t : Int32), (t = 0 ∨ t = 4) ∧ (if cop = 26 then sX7_divideLong (v.toInt64 &&& 4294967295) (sW rg (fb c p z s o) 0 wh fo w) else sX7_divideLongWithSign v (sW rg (fb c p z s o) 0 wh fo w)) = some ((), sW rg1 (fb c p z s o) (fl5 t 0) wh fo w) ∧ rm = some ((), tW rg1 (bI c) (bI p) (bI z) (bI s) (bI o) (fl5 t 0) ef1 m)) → EX w m (if cop = 26 then sX7_divideLong (v.toInt64 &&& 4294967295) (sW rg (fb c p z s o) 0 wh fo w) else sX7_divideLongWithSign v (sW rg (fb c p z s o) 0 wh fo w)) (xbd (xbd rm (fun _ w7 => some (fo, w7))) (fun x1 w2 => some ((), xwi w2 0 34 x1))) := by
        intro rm hh
        obtain ⟨rg1, t, ht, q1, q2⟩ := hh
        rw [q1, q2, xbd_some, xbd_some, tW_wx (by decide)]
        exact EX.ok rfl rfl (frD_r w m) hd (by rw [fl5_r]; exact ht.elim Or.inl (fun q => Or.inr (Or.inl q)))
      apply hq
      rcases hop with ⟨rfl, rfl⟩ | ⟨rfl, rfl⟩
      · obtain ⟨rg1, t, ht, kC, kM⟩ := divU_p (w := w) (m := m) hv0 g0 rg
        exact ⟨rg1, t, ht, by rw [if_pos rfl, kC], kM _ _ _ _ _ _ _⟩
      · obtain ⟨rg1, t, ht, kC, kM⟩ := divS_p (w := w) (m := m) hv0 g0 rg
        exact ⟨rg1, t, ht, by rw [if_neg (by decide), kC], kM _ _ _ _ _ _ _⟩
end CB
