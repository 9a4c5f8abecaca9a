/-! one instruction: what both come to; the eight, inc, dec, neg, not -/
def EX (w m : xW) (rc rm : Option (Unit × xW)) : Prop :=
  ∃ (rg rg2 : Nat → Int32) (fl e wh fo c p z s o ef to : Int32) (w' m' : xW),
    rc = some ((), sW rg fl e wh fo w') ∧ rm = some ((), tW rg2 c p z s o e ef (xwi m' 0 34 to)) ∧ frD w w' m m' ∧ dataP w' m' ∧ (∀ i, 8 ≤ i → rg2 i = rg i) ∧ TR e ∧
    (e = 0 → rg2 = rg ∧ to = fo ∧ ∃ bc bp bz bs bo : Bool, fl = fb bc bp bz bs bo ∧ c = bI bc ∧ p = bI bp ∧ z = bI bz ∧ s = bI bs ∧ o = bI bo)
theorem EX.ok {w m w' m' : xW} {rc rm : Option (Unit × xW)} {rg : Nat → Int32} {e wh fo ef : Int32} {c p z s o : Bool} (h1 : rc = some ((), sW rg (fb c p z s o) e wh fo w')) (h2 : rm = some ((), tW rg (bI c) (bI p) (bI z) (bI s) (bI o) e ef (xwi m' 0 34 fo))) (hf : frD w w' m m') (hd : dataP w' m') (ht : TR e := by first | exact Or.inl rfl | exact TR.r (by assumption) | exact (show TRi _ _ from by assumption) (by first | exact Or.inl rfl | exact TR.r (by assumption) | assumption) | assumption) : EX w m rc rm :=
  ⟨rg, rg, _, e, wh, fo, _, _, _, _, _, ef, fo, w', m', h1, h2, hf, hd, fun _ _ => rfl, ht, fun _ => ⟨rfl, rfl, c, p, z, s, o, rfl, rfl, rfl, rfl, rfl, rfl⟩⟩
theorem EX.no {w m w' m' : xW} {rc rm : Option (Unit × xW)} {rg rg2 : Nat → Int32} {fl e wh fo c p z s o ef to : Int32} (h1 : rc = some ((), sW rg fl e wh fo w')) (h2 : rm = some ((), tW rg2 c p z s o e ef (xwi m' 0 34 to))) (hf : frD w w' m m') (hd : dataP w' m') (he : ¬ e = 0) (h8 : ∀ i, 8 ≤ i → rg2 i = rg i) (ht : TR e := by first | exact Or.inl rfl | exact TR.r (by assumption) | exact (show TRi _ _ from by assumption) (by first | exact Or.inl rfl | exact TR.r (by assumption) | assumption) | assumption) : EX w m rc rm :=
  ⟨rg, rg2, fl, e, wh, fo, c, p, z, s, o, ef, to, w', m', h1, h2, hf, hd, h8, ht, fun q => absurd q he⟩
theorem xbd_idU (r : Option (Unit × xW)) : xbd r (fun _ w => some ((), w)) = r := by cases r <;> rfl
theorem fl5_r (e : Int32) : fl5 e 0 = e := if_pos rfl
theorem IR.N {L : Nat} {w m : xW} (h : IR L w m) (he : eform (m.1 0 18) = false) : m.1 0 22 = 3 ∧ w.1 2 6 = 0 ∧ in8 (m.1 0 24) ∧ (m.1 0 18 = 14 → w.1 2 7 = 0 ∧ w.1 2 8 = m.1 0 24) ∧ (m.1 0 18 = 3 → w.1 2 7 = 0) ∧ (m.1 0 18 = 6 ∨ m.1 0 18 = 13 → w.1 2 7 = m.1 0 24) := by
  obtain ⟨-, -, ⟨-, -, a7, hE⟩, -⟩ := h
  rcases hE with hE | hE
  · rw [he] at hE; exact absurd hE.1 (by decide)
  · exact ⟨hE.2.1, hE.2.2.1, a7, hE.2.2.2.2.2.2.2.1, hE.2.2.2.2.2.2.2.2.1, hE.2.2.2.2.2.2.2.2.2⟩
theorem IR.n {L : Nat} {w m : xW} (h : IR L w m) : RDn (w.1 2 13) (m.1 0 18) (m.1 0 29) := h.2.2.2.1
theorem IR.c {L : Nat} {w m : xW} (h : IR L w m) : RDc (w.1 2 0) (w.1 2 3) (m.1 0 19) := h.2.2.2.2.1
theorem IR.x {L : Nat} {w m : xW} (h : IR L w m) : RDx (w.1 2 6) (m.1 0 17) := h.2.2.2.2.2.2
theorem IR.weq {L : Nat} {w m : xW} (h : IR L w m) (h0 : ¬ m.1 0 17 = 49 ∧ ¬ m.1 0 17 = 52) : w.1 2 5 = w.1 2 4 := by
  rcases h.wd.2.2.2.2.1 with q | q
  · exact q.2.2.symm
  · exact (q.1.elim h0.1 h0.2).elim
theorem IR.w4 {L : Nat} {w m : xW} (h : IR L w m) (h0 : m.1 0 18 = 14 ∨ w4 (m.1 0 17) = true) : w.1 2 4 = 4 := h.wd.2.2.2.2.2 (h0.elim Or.inl (fun q => Or.inr (Or.inl q)))
/-- what the reference does with an instruction, by its number -/
theorem doOne_8 {W : xW} (h : ¬ (7 : Int32) < W.1 0 17) : sX12_doOne W = xbd (sX12_firstOf W) (fun x2 w3 => xbd (sX12_secondOf w3) (fun x4 w5 => xbd (sX12_eight (w5.1 0 17) x2 x4 (w5.1 0 20) w5) (fun x6 w7 => (if (w7.1 0 17) = (7 : Int32) then sX12_doOne_j64 ((W.1 0 34) + (W.1 0 30)) w7 else xbd (sX12_setFirst x6 w7) (fun _ w8 => sX12_doOne_j64 ((W.1 0 34) + (W.1 0 30)) w8))))) := by
  unfold sX12_doOne
  rw [if_neg h]
theorem doOne_o {W : xW} (h : (7 : Int32) < W.1 0 17) (h2 : W.1 0 17 < 21 ∨ 27 < W.1 0 17) : sX12_doOne W = xbd (sX12_doOther ((W.1 0 34) + (W.1 0 30)) W) (fun x1 w2 => some ((), (xwi w2 0 34 x1))) := by
  unfold sX12_doOne sX12_doOne_j92
  rw [if_pos h]
  by_cases q : W.1 0 17 < 21
  · rw [if_pos q]
  · rw [if_neg q, if_pos (h2.resolve_left q)]
theorem doOne_s {W : xW} (h : ¬ W.1 0 17 < 21) (h2 : ¬ 27 < W.1 0 17) (h7 : (7 : Int32) < W.1 0 17) : sX12_doOne W = xbd (sX12_shifts W) (fun _ w1 => some ((), (xwi w1 0 34 ((W.1 0 34) + (W.1 0 30))))) := by
  unfold sX12_doOne
  rw [if_pos h7, if_neg h, if_neg h2]
theorem exec_k {W : xW} (hx : xin (W.1 2 0) 54) : sX7_execute W = xsw (opKd (W.1 2 0)) (0) [sX7_doArithmetic W, xbd (sX7_readE W) (fun x3 w4 => xbd (sX2_single (W.1 2 0) x3 (w4.1 2 4) w4) (fun x5 w6 => sX7_writeE x5 w6)), sX7_doShift W, sX7_doShift W, sX7_doProduct W, sX7_doQuotient W, sX7_doMove W, sX7_doRearrange W, sX7_doExchange W, sX7_doStack W, sX7_doJump W] (sX7_doRest W) := by
  unfold sX7_execute
  rw [if_pos hx]
  simp only [xbd_idU]
theorem ex_0 {W : xW} (hx : xin (W.1 2 0) 54) (hk : opKd (W.1 2 0) = 0) : sX7_execute W = sX7_doArithmetic W := by
  rw [exec_k hx, hk]
  rfl
theorem ex_1 {W : xW} (hx : xin (W.1 2 0) 54) (hk : opKd (W.1 2 0) = 1) : sX7_execute W = xbd (sX7_readE W) (fun x3 w4 => xbd (sX2_single (W.1 2 0) x3 (w4.1 2 4) w4) (fun x5 w6 => sX7_writeE x5 w6)) := by
  rw [exec_k hx, hk]
  rfl
theorem ex_2 {W : xW} (hx : xin (W.1 2 0) 54) (hk : opKd (W.1 2 0) = 2) : sX7_execute W = sX7_doShift W := by
  rw [exec_k hx, hk]
  rfl
theorem ex_3 {W : xW} (hx : xin (W.1 2 0) 54) (hk : opKd (W.1 2 0) = 3) : sX7_execute W = sX7_doShift W := by
  rw [exec_k hx, hk]
  rfl
theorem ex_4 {W : xW} (hx : xin (W.1 2 0) 54) (hk : opKd (W.1 2 0) = 4) : sX7_execute W = sX7_doProduct W := by
  rw [exec_k hx, hk]
  rfl
theorem ex_5 {W : xW} (hx : xin (W.1 2 0) 54) (hk : opKd (W.1 2 0) = 5) : sX7_execute W = sX7_doQuotient W := by
  rw [exec_k hx, hk]
  rfl
theorem ex_6 {W : xW} (hx : xin (W.1 2 0) 54) (hk : opKd (W.1 2 0) = 6) : sX7_execute W = sX7_doMove W := by
  rw [exec_k hx, hk]
  rfl
theorem ex_7 {W : xW} (hx : xin (W.1 2 0) 54) (hk : opKd (W.1 2 0) = 7) : sX7_execute W = sX7_doRearrange W := by
  rw [exec_k hx, hk]
  rfl
theorem ex_8 {W : xW} (hx : xin (W.1 2 0) 54) (hk : opKd (W.1 2 0) = 8) : sX7_execute W = sX7_doExchange W := by
  rw [exec_k hx, hk]
  rfl
theorem ex_9 {W : xW} (hx : xin (W.1 2 0) 54) (hk : opKd (W.1 2 0) = 9) : sX7_execute W = sX7_doStack W := by
  rw [exec_k hx, hk]
  rfl
theorem ex_10 {W : xW} (hx : xin (W.1 2 0) 54) (hk : opKd (W.1 2 0) = 10) : sX7_execute W = sX7_doJump W := by
  rw [exec_k hx, hk]
  rfl
theorem ex_11 {W : xW} (hx : xin (W.1 2 0) 54) (hk : opKd (W.1 2 0) = 11) : sX7_execute W = sX7_doRest W := by
  rw [exec_k hx, hk]
  rfl
section FO
variable {W : xW}
theorem first_E (h : ¬ W.1 0 18 = 3 ∧ ¬ W.1 0 18 = 2 ∧ ¬ W.1 0 18 = 6) : sX12_firstOf W = sX12_getE W := by
  unfold sX12_firstOf
  rw [if_neg h.1, if_neg h.2.1, if_neg h.2.2, xbd_id]
theorem first_G (h : W.1 0 18 = 2) : sX12_firstOf W = sX12_part (W.1 0 23) (W.1 0 20) W := by
  unfold sX12_firstOf
  rw [h, if_neg (by decide), if_pos rfl, xbd_id]
theorem first_A (h : W.1 0 18 = 3) : sX12_firstOf W = sX12_part 0 (W.1 0 20) W := by
  unfold sX12_firstOf
  rw [h, if_pos rfl, xbd_id]
theorem first_R (h : W.1 0 18 = 6) : sX12_firstOf W = sX12_part (W.1 0 24) (W.1 0 20) W := by
  unfold sX12_firstOf
  rw [h, if_neg (by decide), if_neg (by decide), if_pos rfl, xbd_id]
theorem second_G (h : ¬ W.1 0 18 = 3 ∧ ¬ W.1 0 18 = 4 ∧ ¬ W.1 0 18 = 2) : sX12_secondOf W = sX12_part (W.1 0 23) (W.1 0 20) W := by
  unfold sX12_secondOf
  rw [if_neg h.1, if_neg h.2.1, if_neg h.2.2, xbd_id]
theorem second_E (h : W.1 0 18 = 2) : sX12_secondOf W = sX12_getE W := by
  unfold sX12_secondOf
  rw [h, if_neg (by decide), if_neg (by decide), if_pos rfl, xbd_id]
theorem second_I (h : W.1 0 18 = 3 ∨ W.1 0 18 = 4) : sX12_secondOf W = some (W.1 0 29, W) := by
  unfold sX12_secondOf
  rcases h with h | h
  · rw [h, if_pos rfl]
  · rw [h, if_neg (by decide), if_pos rfl]
theorem setF_E (v : Int32) (h : ¬ W.1 0 18 = 3 ∧ ¬ W.1 0 18 = 2 ∧ ¬ W.1 0 18 = 6) : sX12_setFirst v W = sX12_setE v W := by
  unfold sX12_setFirst
  rw [if_neg h.1, if_neg h.2.1, if_neg h.2.2, xbd_idU]
theorem setF_G (v : Int32) (h : W.1 0 18 = 2) : sX12_setFirst v W = sX12_setRegister (W.1 0 23) (W.1 0 20) v W := by
  unfold sX12_setFirst
  rw [h, if_neg (by decide), if_pos rfl, xbd_idU]
theorem setF_A (v : Int32) (h : W.1 0 18 = 3) : sX12_setFirst v W = sX12_setRegister 0 (W.1 0 20) v W := by
  unfold sX12_setFirst
  rw [h, if_pos rfl, xbd_idU]
theorem setF_R (v : Int32) (h : W.1 0 18 = 6) : sX12_setFirst v W = sX12_setRegister (W.1 0 24) (W.1 0 20) v W := by
  unfold sX12_setFirst
  rw [h, if_neg (by decide), if_neg (by decide), if_pos rfl, xbd_idU]
theorem swG_0 (h : ¬ W.1 2 1 = 2 ∧ ¬ W.1 2 1 = 7) : sX6_startsWithG W = some (0, W) := by
  unfold sX6_startsWithG
  rw [if_neg h.1, if_neg h.2]
theorem swG_1 (h : W.1 2 1 = 2 ∨ W.1 2 1 = 7) : sX6_startsWithG W = some (1, W) := by
  unfold sX6_startsWithG
  rcases h with h | h
  · rw [h, if_pos rfl]
  · rw [h, if_neg (by decide), if_pos rfl]
theorem rs_G (h : ¬ W.1 2 1 = 2 ∧ ¬ W.1 2 1 = 7 ∧ ¬ W.1 2 1 = 3) : sX7_readSecond W = sX7_readG W := by
  unfold sX7_readSecond
  rw [if_neg h.2.2, swG_0 ⟨h.1, h.2.1⟩, xbd_some, if_pos rfl, xbd_id]
theorem rs_E (h : W.1 2 1 = 2) : sX7_readSecond W = sX7_readE W := by
  unfold sX7_readSecond
  rw [swG_1 (Or.inl h), h, if_neg (by decide), xbd_some, if_neg (by decide), xbd_id]
theorem rs_I (h : W.1 2 1 = 3) (hn : wid (W.1 2 4)) : sX7_readSecond W = some ((W.1 2 13) &&& mkV (W.1 2 4), W) := by
  unfold sX7_readSecond
  rw [h, if_pos rfl, maskOf_v hn, xbd_some]
theorem wf_E (v : Int32) (h : ¬ W.1 2 1 = 2 ∧ ¬ W.1 2 1 = 7) : sX7_writeFirst v W = sX7_writeE v W := by
  unfold sX7_writeFirst
  rw [swG_0 h, xbd_some, if_pos rfl, xbd_idU]
theorem wf_G (v : Int32) (h : W.1 2 1 = 2 ∨ W.1 2 1 = 7) : sX7_writeFirst v W = sX7_writeG v W := by
  unfold sX7_writeFirst
  rw [swG_1 h, xbd_some, if_neg (by decide), xbd_idU]
end FO
theorem eiTab_c : ∀ q ∈ eiTab, xin q.1 54 ∧ opKd q.1 = 0 ∧ (opWr q.1 = 0 ↔ (q.1 = 7 ∨ q.1 = 16)) ∧ (¬ q.1 = 16 → ¬ (7 : Int32) < q.2 ∧ (q.2 = 7 ↔ q.1 = 7)) ∧ ¬ q.2 = 49 ∧ ¬ q.2 = 52 := by decide +kernel
section AR
variable {w m : xW} {B : Nat → Int32} {N L : Nat} {rg : Nat → Int32} {c p z s o : Bool} {wh fo ef cop what : Int32}
/-- the class: the eight and test, once both values stand -/
theorem ar_c {a b r fl tr : Int32} {fl1 : Int32} {f : Int32} (hx : xin cop 54) (h0 : w.1 2 0 = cop) (hn : w.1 2 4 = f) (hs : sX7_readSecond (sW rg fl tr wh fo w) = some (b, sW rg fl tr wh fo w)) (h2 : sX2_two cop a b f (sW rg fl tr wh fo w) = some (r, sW rg fl1 tr wh fo w)) : sX7_doArithmetic_j21 a (sW rg fl tr wh fo w) = (if opWr cop = 0 then some ((), sW rg fl1 tr wh fo w) else sX7_writeFirst r (sW rg fl1 tr wh fo w)) := by
  unfold sX7_doArithmetic_j21
  rw [hs, xbd_some, sW_c2, sW_c2, h0, hn, h2, xbd_some, sW_c2, h0, if_pos hx, xbd_idU]
theorem x_ar (hw : imgC w B N) (hm : imgM m B N) (hd : dataP w m) (h : IR L w m) (ht : (cop, what) ∈ eiTab) (h0 : w.1 2 0 = cop) (g0 : m.1 0 17 = (if cop = 16 then 14 else what)) (hf : (w.1 2 1 = 1 ∧ m.1 0 18 = 1) ∨ (w.1 2 1 = 2 ∧ m.1 0 18 = 2) ∨ (w.1 2 1 = 3 ∧ m.1 0 18 = 3) ∨ (w.1 2 1 = 3 ∧ m.1 0 18 = 4)) (hf2 : cop = 16 → ¬ m.1 0 18 = 2)
    (hwh : wh = adV rg (w.1 2 9) (w.1 2 10) (w.1 2 11) (w.1 2 12)) (hfo : m.1 0 34 + m.1 0 30 = fo) : EX w m (sX7_execute (sW rg (fb c p z s o) 0 wh fo w)) (sX12_doOne (tW rg (bI c) (bI p) (bI z) (bI s) (bI o) 0 ef m)) := by
  obtain ⟨t1, t2, t3, t4, t5⟩ := eiTab_c _ ht
  dsimp only at t1 t2 t3 t4 t5
  have weq := h.weq (by rw [g0]; by_cases q : cop = 16; rw [if_pos q]; decide; rw [if_neg q]; exact t5)
  obtain ⟨w4, w5, wa, wb, -⟩ := h.wd
  have hrm : in8 (w.1 2 7) := h.2.2.1.1
  have hrg : in8 (w.1 2 8) := h.2.2.1.2.1
  -- both, as: first value a, second b; then what is done with the result
  have key : ∃ (a b e ef1 : Int32), TR e ∧ a &&& mkV (w.1 2 4) = a ∧ (w.1 2 6 = 1 → m.1 0 18 = 1 ∨ m.1 0 18 = 4 → ef1 = wh) ∧
      (∀ fl : Int32, sX7_doArithmetic (sW rg fl 0 wh fo w) = sX7_doArithmetic_j21 a (sW rg fl (if m.1 0 18 = 2 then 0 else e) wh fo w)) ∧
      (∀ fl : Int32, sX7_readSecond (sW rg fl (if m.1 0 18 = 2 then 0 else e) wh fo w) = some (b &&& mkV (w.1 2 4), sW rg fl e wh fo w)) ∧
      (∀ (c p z s o : Int32) (β : Type) (K : Int32 → Int32 → xW → Option β), xbd (sX12_firstOf (tW rg c p z s o 0 ef m)) (fun x2 w3 => xbd (sX12_secondOf w3) (fun x4 w5 => K x2 x4 w5)) = K a b (tW rg c p z s o e ef1 m)) := by
    rcases hf with ⟨f1, f2⟩ | ⟨f1, f2⟩ | ⟨f1, f2⟩ | ⟨f1, f2⟩
    · obtain ⟨v, e, ef1, he, hv, hwh1, -, hC, hM⟩ := readE_p hw hm hd h (by rw [f2]; decide) rg hwh
      have e8 := (h.E (by rw [f2]; decide)).2.2.2.1
      refine ⟨v, prt rg (w.1 2 8).toNatClampNeg (w.1 2 4), e, ef1, TR.r he, by rw [← weq]; exact hv, fun q _ => hwh1 q, fun fl => ?_, fun fl => ?_, fun c p z s o β K => ?_⟩
      · unfold sX7_doArithmetic
        rw [swG_0 (by rw [sW_c2, f1]; decide), xbd_some, if_pos rfl, hC, xbd_some, fl5_r, f2, if_neg (by decide)]
      · rw [f2, if_neg (by decide), rs_G (by rw [sW_c2, f1]; decide), readG_c h, prt_mk wa]
      · rw [first_E (by rw [tW_lo (by decide), f2]; decide), hM, xbd_some, second_G (by rw [tW_lo (by decide), f2]; decide), tW_lo (by decide), tW_lo (by decide), ← e8, ← w4, part_x hrg wa, xbd_some, fl5_r]
    · obtain ⟨v, e, ef1, he, hv, hwh1, -, hC, hM⟩ := readE_p hw hm hd h (by rw [f2]; decide) rg hwh
      have e8 := (h.E (by rw [f2]; decide)).2.2.2.1
      refine ⟨prt rg (w.1 2 8).toNatClampNeg (w.1 2 4), v, e, ef1, TR.r he, prt_mk wa, fun q r => absurd (r.resolve_left (by rw [f2]; decide)) (by rw [f2]; decide), fun fl => ?_, fun fl => ?_, fun c p z s o β K => ?_⟩
      · unfold sX7_doArithmetic
        rw [swG_1 (by rw [sW_c2, f1]; decide), xbd_some, if_neg (by decide), readG_c h, xbd_some, f2, if_pos rfl]
      · rw [f2, if_pos rfl, rs_E (by rw [sW_c2, f1]), hC, fl5_r, ← weq, hv]
      · rw [first_G (by rw [tW_lo (by decide), f2]), tW_lo (by decide), tW_lo (by decide), ← e8, ← w4, part_x hrg wa, xbd_some, second_E (by rw [tW_lo (by decide), f2]), hM, xbd_some, fl5_r]
    · obtain ⟨n1, n2, n3, n4, n5, n6⟩ := h.N (by rw [f2]; decide)
      have c7 := n5 f2
      refine ⟨prt rg 0 (w.1 2 4), m.1 0 29, 0, ef, Or.inl rfl, prt_mk wa, fun q => absurd (q.symm.trans n2) (by decide), fun fl => ?_, fun fl => ?_, fun c p z s o β K => ?_⟩
      · unfold sX7_doArithmetic
        rw [swG_0 (by rw [sW_c2, f1]; decide), xbd_some, if_pos rfl, readE_r h n2, xbd_some, f2, if_neg (by decide), c7, weq]
        rfl
      · rw [f2, if_neg (by decide), rs_I (by rw [sW_c2, f1]) (by rw [sW_c2]; exact wa), sW_c2, sW_c2, h.n.1 (by rw [f2]; decide)]
      · rw [first_A (by rw [tW_lo (by decide), f2]), tW_lo (by decide), ← w4, part_x in8_0 wa, xbd_some, second_I (by rw [tW_lo (by decide), f2]; decide), xbd_some, tW_lo (by decide)]
        rfl
    · obtain ⟨v, e, ef1, he, hv, hwh1, -, hC, hM⟩ := readE_p hw hm hd h (by rw [f2]; decide) rg hwh
      refine ⟨v, m.1 0 29, e, ef1, TR.r he, by rw [← weq]; exact hv, fun q _ => hwh1 q, fun fl => ?_, fun fl => ?_, fun c p z s o β K => ?_⟩
      · unfold sX7_doArithmetic
        rw [swG_0 (by rw [sW_c2, f1]; decide), xbd_some, if_pos rfl, hC, xbd_some, fl5_r, f2, if_neg (by decide)]
      · rw [f2, if_neg (by decide), rs_I (by rw [sW_c2, f1]) (by rw [sW_c2]; exact wa), sW_c2, sW_c2, h.n.1 (by rw [f2]; decide)]
      · rw [first_E (by rw [tW_lo (by decide), f2]; decide), hM, xbd_some, second_I (by rw [tW_lo (by decide), f2]; decide), xbd_some, tW_lo (by decide), fl5_r]
  obtain ⟨a, b, e, ef1, hTe, ha, hef, kC, kS, kM⟩ := key
  obtain ⟨r, r2, c1, p1, z1, s1, o1, hr, h2c, h2m⟩ := eight_p (b2 := b) wa ht ha c p z s o
  have hcl : sX7_execute (sW rg (fb c p z s o) 0 wh fo w) = (if opWr cop = 0 then some ((), sW rg (fb c1 p1 z1 s1 o1) e wh fo w) else sX7_writeFirst r (sW rg (fb c1 p1 z1 s1 o1) e wh fo w)) := by
    rw [exec_k (by rw [sW_c2, h0]; exact t1), sW_c2, h0, t2]
    show sX7_doArithmetic _ = _
    rw [kC]
    unfold sX7_doArithmetic_j21
    rw [kS, xbd_some, sW_c2, sW_c2, h0, h2c, xbd_some, sW_c2, h0, if_pos t1, xbd_idU]
  rw [hcl]
  -- the reference
  have href : sX12_doOne (tW rg (bI c) (bI p) (bI z) (bI s) (bI o) 0 ef m) = (if cop = 7 ∨ cop = 16 then some ((), xwi (tW rg (bI c1) (bI p1) (bI z1) (bI s1) (bI o1) e ef1 m) 0 34 fo) else xbd (sX12_setFirst r2 (tW rg (bI c1) (bI p1) (bI z1) (bI s1) (bI o1) e ef1 m)) (fun _ w8 => some ((), xwi w8 0 34 fo))) := by
    by_cases h16 : cop = 16
    · have hwt : what = 4 := by
        subst h16
        simp only [eiTab, List.mem_cons, List.not_mem_nil, or_false, Prod.mk.injEq] at ht
        rcases ht with q | q | q | q | q | q | q | q | q <;> first | exact absurd q.1 (by decide) | exact q.2
      rw [if_pos h16] at g0
      rw [doOne_o (by rw [tW_lo (by decide), g0]; decide) (by rw [tW_lo (by decide), g0]; decide), tW_lo (by decide), tW_lo (by decide), hfo]
      unfold sX12_doOther
      rw [tW_lo (by decide), g0]
      show xbd (xbd (sX12_firstOf (tW rg (bI c) (bI p) (bI z) (bI s) (bI o) 0 ef m)) (fun x15 w16 => xbd (sX12_secondOf w16) (fun x17 w18 => xbd (sX12_eight (4 : Int32) x15 x17 (w18.1 0 20) w18) (fun x19 w20 => some (fo, w20))))) (fun x1 w2 => some ((), (xwi w2 0 34 x1))) = _
      rw [kM, tW_lo (by decide), ← w4, ← hwt, h2m, xbd_some, xbd_some, if_pos (Or.inr h16)]
    · obtain ⟨u1, u2⟩ := t4 h16
      rw [if_neg h16] at g0
      rw [doOne_8 (by rw [tW_lo (by decide), g0]; exact u1), kM, tW_lo (by decide), tW_lo (by decide), tW_lo (by decide), tW_lo (by decide), g0, ← w4, h2m, xbd_some, tW_lo (by decide), g0, hfo]
      unfold sX12_doOne_j64
      by_cases h7 : cop = 7
      · rw [if_pos (u2.mpr h7), if_pos (Or.inl h7)]
      · rw [if_neg (fun q => h7 (u2.mp q)), if_neg (fun q => q.elim h7 h16)]
  rw [href]
  by_cases hnw : cop = 7 ∨ cop = 16
  · rw [if_pos hnw, if_pos (t3.mpr hnw), tW_wx (by decide)]
    exact EX.ok rfl rfl (frD_r w m) hd
  · rw [if_neg hnw, if_neg (fun q => hnw (t3.mp q))]
    rcases hf with ⟨f1, f2⟩ | ⟨f1, f2⟩ | ⟨f1, f2⟩ | ⟨f1, f2⟩
    · obtain ⟨e2, F, w', m', hfr, hd', -, hT, hC, hM⟩ := writeE_p hd h (by rw [f2]; decide) (v := r) (v2 := r2) (wh := wh) (ef := ef1) (by rw [weq]; exact hr) (fun q => hef q (Or.inl f2)) e
      rw [wf_E _ (by rw [sW_c2, f1]; decide), hC, setF_E _ (by rw [tW_lo (by decide), f2]; decide), hM, xbd_some, tW_wx (by decide)]
      exact EX.ok rfl rfl hfr hd'
    · have e8 := (h.E (by rw [f2]; decide)).2.2.2.1
      rw [wf_G _ (by rw [sW_c2, f1]; decide), writeG_c h, setF_G _ (by rw [tW_lo (by decide), f2]), tW_lo (by decide), tW_lo (by decide), ← e8, ← w4, setReg_x hrg wa, xbd_some, tW_wx (by decide), spr_mk wa hr]
      exact EX.ok rfl rfl (frD_r w m) hd
    · obtain ⟨n1, n2, n3, n4, n5, n6⟩ := h.N (by rw [f2]; decide)
      rw [wf_E _ (by rw [sW_c2, f1]; decide), writeE_r h n2, setF_A _ (by rw [tW_lo (by decide), f2]), tW_lo (by decide), ← w4, setReg_x in8_0 wa, xbd_some, tW_wx (by decide), n5 f2, weq, spr_mk wa hr]
      exact EX.ok rfl rfl (frD_r w m) hd
    · obtain ⟨e2, F, w', m', hfr, hd', -, hT, hC, hM⟩ := writeE_p hd h (by rw [f2]; decide) (v := r) (v2 := r2) (wh := wh) (ef := ef1) (by rw [weq]; exact hr) (fun q => hef q (Or.inr f2)) e
      rw [wf_E _ (by rw [sW_c2, f1]; decide), hC, setF_E _ (by rw [tW_lo (by decide), f2]; decide), hM, xbd_some, tW_wx (by decide)]
      exact EX.ok rfl rfl hfr hd'
end AR
