/-! each first byte: with a digit -/
section DB
variable {w m : xW} {B : Nat → Int32} {n p : Nat} {x0 x1 x3 x4 x10 x11 x13 : Int32}
theorem in8_cases {x : Int32} (h : in8 x) : x = 0 ∨ x = 1 ∨ x = 2 ∨ x = 3 ∨ x = 4 ∨ x = 5 ∨ x = 6 ∨ x = 7 := by
  obtain ⟨j, hj, rfl⟩ := h
  have : j = 0 ∨ j = 1 ∨ j = 2 ∨ j = 3 ∨ j = 4 ∨ j = 5 ∨ j = 6 ∨ j = 7 := by omega
  rcases this with rfl | rfl | rfl | rfl | rfl | rfl | rfl | rfl
  · exact Or.inl rfl
  · exact Or.inr (Or.inl rfl)
  · exact Or.inr (Or.inr (Or.inl rfl))
  · exact Or.inr (Or.inr (Or.inr (Or.inl rfl)))
  · exact Or.inr (Or.inr (Or.inr (Or.inr (Or.inl rfl))))
  · exact Or.inr (Or.inr (Or.inr (Or.inr (Or.inr (Or.inl rfl)))))
  · exact Or.inr (Or.inr (Or.inr (Or.inr (Or.inr (Or.inr (Or.inl rfl))))))
  · exact Or.inr (Or.inr (Or.inr (Or.inr (Or.inr (Or.inr (Or.inr rfl))))))
theorem RDn_10 {c13 a1 a12 : Int32} (h : nform a1 = false) (e : c13 = 1) : RDn c13 a1 a12 := ⟨fun q => (by rw [h] at q; cases q), fun _ => e⟩
theorem RDm_131 {L : Nat} {c6 a0 : Int32} (h : c6 = 0 → L = 3) (hx : ¬ a0 = 17 ∧ ¬ a0 = 42 ∧ ¬ a0 = 43 := by decide) : RDm L 131 c6 a0 4 4 := ⟨⟨fun _ => ⟨rfl, rfl, fun z => ⟨fun _ => h z, fun q => absurd q (by decide)⟩⟩, fun _ => Or.inl rfl⟩, fun q => absurd q hx.1, fun q => (q.elim hx.2.1 hx.2.2).elim⟩
theorem RDm_129 {L : Nat} {c6 a0 : Int32} (h : c6 = 0 → L = 6) (hx : ¬ a0 = 17 ∧ ¬ a0 = 42 ∧ ¬ a0 = 43 := by decide) : RDm L 129 c6 a0 4 4 := ⟨⟨fun _ => ⟨rfl, rfl, fun z => ⟨fun q => absurd q (by decide), fun _ => h z⟩⟩, fun _ => Or.inr rfl⟩, fun q => absurd q hx.1, fun q => (q.elim hx.2.1 hx.2.2).elim⟩
theorem opF_0 {q q' : Nat} {md rg rm bs ix sc tm mem : Int32} (hF : opF q q' md rg rm bs ix sc tm mem) (h : mem = 0) : q' = q + 1 := by
  rcases hF.2.2.2.2 with h5 | h5
  · exact h5.2.2.2.2
  · rw [h5.2.1] at h; exact absurd h (by decide)
theorem db_128 (hw : imgC w B n) (hm : imgM m B n) : DP n p w m (xbd (sX1_chooseHigh 128 1 (dW [50, 0, 128, 0, 4, 4, 0, 0, 0, -1, -1, 0, 0, 0, 0] [nxn n (p + 1), ctn n (p + 1), 1, 0, 0, 0] w)) (fun _ w1 => sX1_decode_j128 (nI p) w1)) (sX12_take_j86 (nI p) 128 1 (mW [x0, x1, 0, x3, x4, 3, 0, 0, -1, -1, x10, x11, 0, x13, nxn n (p + 1), thr n (p + 1) 1] m)) := by
  obtain ⟨q2, md, rg, rm, bs, ix, sc, tm, dp, mem, hF, hC, hO⟩ := operand_pair hw hm (p + 1)
  have h1 := hF.1
  have h2 := hF.2.1
  rw [(show ∀ W, sX1_chooseHigh 128 1 W = some ((), (xwi (xwi (xwi (xwi (xwi (xwi W 2 1 (3 : Int32)) 2 4 (1 : Int32)) 2 5 (1 : Int32)) 3 5 (1 : Int32)) 3 6 (2 : Int32)) 3 7 (1 : Int32))) from fun _ => rfl), (show ∀ M, sX12_take_j86 (nI p) 128 1 M = xbd (sX12_takeOther 128 1 M) (fun _ w1 => sX12_take_j380 (nI p) w1) from fun _ => rfl), xbd_some]
  rw [(show ∀ M, sX12_takeOther 128 1 M = sX12_takeOther_j682 128 1 M from fun _ => rfl)]
  unfold sX1_decode_j128
  simp (decide := true) only [dW_2, dW_3, mW_at, xwi_d2, xwi_d3, xwi_m, List.set, List.length, Nat.reduceSub, List.getD_cons_succ, List.getD_cons_zero, xbd_some, xbd_assoc, sX12_is, if_false, if_true, hC, hO, sX12_takeOther_j682]
  rcases in8_cases hF.2.2.1 with rfl | rfl | rfl | rfl | rfl | rfl | rfl | rfl
  · rw [cbd_2_0, xbd_some]
    unfold sX1_decode_j143
    simp (decide := true) only [dW_2, dW_3, mW_at, xwi_d2, xwi_d3, xwi_m, List.set, List.length, Nat.reduceSub, List.getD_cons_succ, List.getD_cons_zero, xbd_some, xbd_assoc, if_false, if_true, digits_m (Or.inr rfl), nextNumber1_d hw, nextNumber4_d hw, number1_m hm, number4_m hm]
    exact dp_end (Or.inr ⟨rfl, rfl⟩) hw.2.1 (by omega) (by omega) (by decide) (fun _ _ => RD_E hF (List.mem_of_getElem? (i := 3) rfl) (by decide) (by decide) (by decide) _ (mask0_m (by decide) _ _) (RDn_eq (by decide) rfl))
  · rw [cbd_2_1, xbd_some]
    unfold sX1_decode_j143
    simp (decide := true) only [dW_2, dW_3, mW_at, xwi_d2, xwi_d3, xwi_m, List.set, List.length, Nat.reduceSub, List.getD_cons_succ, List.getD_cons_zero, xbd_some, xbd_assoc, if_false, if_true, digits_m (Or.inr rfl), nextNumber1_d hw, nextNumber4_d hw, number1_m hm, number4_m hm]
    exact dp_end (Or.inr ⟨rfl, rfl⟩) hw.2.1 (by omega) (by omega) (by decide) (fun _ _ => RD_E hF (List.mem_of_getElem? (i := 7) rfl) (by decide) (by decide) (by decide) _ (mask0_m (by decide) _ _) (RDn_eq (by decide) rfl))
  · rw [cbd_2_2, xbd_some]
    unfold sX1_decode_j143
    simp (decide := true) only [dW_2, dW_3, mW_at, xwi_d2, xwi_d3, xwi_m, List.set, List.length, Nat.reduceSub, List.getD_cons_succ, List.getD_cons_zero, xbd_some, xbd_assoc, if_false, if_true, digits_m (Or.inr rfl), nextNumber1_d hw, nextNumber4_d hw, number1_m hm, number4_m hm]
    exact dp_end (Or.inr ⟨rfl, rfl⟩) hw.2.1 (by omega) (by omega) (by decide) (fun _ _ => RD_E hF (List.mem_of_getElem? (i := 11) rfl) (by decide) (by decide) (by decide) _ (mask0_m (by decide) _ _) (RDn_eq (by decide) rfl))
  · rw [cbd_2_3, xbd_some]
    unfold sX1_decode_j143
    simp (decide := true) only [dW_2, dW_3, mW_at, xwi_d2, xwi_d3, xwi_m, List.set, List.length, Nat.reduceSub, List.getD_cons_succ, List.getD_cons_zero, xbd_some, xbd_assoc, if_false, if_true, digits_m (Or.inr rfl), nextNumber1_d hw, nextNumber4_d hw, number1_m hm, number4_m hm]
    exact dp_end (Or.inr ⟨rfl, rfl⟩) hw.2.1 (by omega) (by omega) (by decide) (fun _ _ => RD_E hF (List.mem_of_getElem? (i := 15) rfl) (by decide) (by decide) (by decide) _ (mask0_m (by decide) _ _) (RDn_eq (by decide) rfl))
  · rw [cbd_2_4, xbd_some]
    unfold sX1_decode_j143
    simp (decide := true) only [dW_2, dW_3, mW_at, xwi_d2, xwi_d3, xwi_m, List.set, List.length, Nat.reduceSub, List.getD_cons_succ, List.getD_cons_zero, xbd_some, xbd_assoc, if_false, if_true, digits_m (Or.inr rfl), nextNumber1_d hw, nextNumber4_d hw, number1_m hm, number4_m hm]
    exact dp_end (Or.inr ⟨rfl, rfl⟩) hw.2.1 (by omega) (by omega) (by decide) (fun _ _ => RD_E hF (List.mem_of_getElem? (i := 19) rfl) (by decide) (by decide) (by decide) _ (mask0_m (by decide) _ _) (RDn_eq (by decide) rfl))
  · rw [cbd_2_5, xbd_some]
    unfold sX1_decode_j143
    simp (decide := true) only [dW_2, dW_3, mW_at, xwi_d2, xwi_d3, xwi_m, List.set, List.length, Nat.reduceSub, List.getD_cons_succ, List.getD_cons_zero, xbd_some, xbd_assoc, if_false, if_true, digits_m (Or.inr rfl), nextNumber1_d hw, nextNumber4_d hw, number1_m hm, number4_m hm]
    exact dp_end (Or.inr ⟨rfl, rfl⟩) hw.2.1 (by omega) (by omega) (by decide) (fun _ _ => RD_E hF (List.mem_of_getElem? (i := 23) rfl) (by decide) (by decide) (by decide) _ (mask0_m (by decide) _ _) (RDn_eq (by decide) rfl))
  · rw [cbd_2_6, xbd_some]
    unfold sX1_decode_j143
    simp (decide := true) only [dW_2, dW_3, mW_at, xwi_d2, xwi_d3, xwi_m, List.set, List.length, Nat.reduceSub, List.getD_cons_succ, List.getD_cons_zero, xbd_some, xbd_assoc, if_false, if_true, digits_m (Or.inr rfl), nextNumber1_d hw, nextNumber4_d hw, number1_m hm, number4_m hm]
    exact dp_end (Or.inr ⟨rfl, rfl⟩) hw.2.1 (by omega) (by omega) (by decide) (fun _ _ => RD_E hF (List.mem_of_getElem? (i := 27) rfl) (by decide) (by decide) (by decide) _ (mask0_m (by decide) _ _) (RDn_eq (by decide) rfl))
  · rw [cbd_2_7, xbd_some]
    unfold sX1_decode_j143
    simp (decide := true) only [dW_2, dW_3, mW_at, xwi_d2, xwi_d3, xwi_m, List.set, List.length, Nat.reduceSub, List.getD_cons_succ, List.getD_cons_zero, xbd_some, xbd_assoc, if_false, if_true, digits_m (Or.inr rfl), nextNumber1_d hw, nextNumber4_d hw, number1_m hm, number4_m hm]
    exact dp_end (Or.inr ⟨rfl, rfl⟩) hw.2.1 (by omega) (by omega) (by decide) (fun _ _ => RD_E hF (List.mem_of_getElem? (i := 31) rfl) (by decide) (by decide) (by decide) _ (mask0_m (by decide) _ _) (RDn_eq (by decide) rfl))

theorem db_129 (hw : imgC w B n) (hm : imgM m B n) : DP n p w m (xbd (sX1_chooseHigh 129 4 (dW [50, 0, 129, 0, 4, 4, 0, 0, 0, -1, -1, 0, 0, 0, 0] [nxn n (p + 1), ctn n (p + 1), 1, 0, 0, 0] w)) (fun _ w1 => sX1_decode_j128 (nI p) w1)) (sX12_take_j86 (nI p) 129 4 (mW [x0, x1, 0, x3, x4, 3, 0, 0, -1, -1, x10, x11, 0, x13, nxn n (p + 1), thr n (p + 1) 1] m)) := by
  obtain ⟨q2, md, rg, rm, bs, ix, sc, tm, dp, mem, hF, hC, hO⟩ := operand_pair hw hm (p + 1)
  have h1 := hF.1
  have h2 := hF.2.1
  rw [(show ∀ W, sX1_chooseHigh 129 4 W = some ((), (xwi (xwi (xwi (xwi (xwi (xwi W 2 1 (3 : Int32)) 2 4 (4 : Int32)) 2 5 (4 : Int32)) 3 5 (1 : Int32)) 3 6 (2 : Int32)) 3 7 (4 : Int32))) from fun _ => rfl), (show ∀ M, sX12_take_j86 (nI p) 129 4 M = xbd (sX12_takeOther 129 4 M) (fun _ w1 => sX12_take_j380 (nI p) w1) from fun _ => rfl), xbd_some]
  rw [(show ∀ M, sX12_takeOther 129 4 M = sX12_takeOther_j682 129 4 M from fun _ => rfl)]
  unfold sX1_decode_j128
  simp (decide := true) only [dW_2, dW_3, mW_at, xwi_d2, xwi_d3, xwi_m, List.set, List.length, Nat.reduceSub, List.getD_cons_succ, List.getD_cons_zero, xbd_some, xbd_assoc, sX12_is, if_false, if_true, hC, hO, sX12_takeOther_j682]
  rcases in8_cases hF.2.2.1 with rfl | rfl | rfl | rfl | rfl | rfl | rfl | rfl
  · rw [cbd_2_0, xbd_some]
    unfold sX1_decode_j143
    simp (decide := true) only [dW_2, dW_3, mW_at, xwi_d2, xwi_d3, xwi_m, List.set, List.length, Nat.reduceSub, List.getD_cons_succ, List.getD_cons_zero, xbd_some, xbd_assoc, if_false, if_true, digits_m (Or.inr rfl), nextNumber1_d hw, nextNumber4_d hw, number1_m hm, number4_m hm]
    exact dp_end (Or.inr ⟨rfl, rfl⟩) hw.2.1 (by omega) (by omega) (by decide) (fun _ _ => RD_E hF (List.mem_of_getElem? (i := 3) rfl) (by decide) (by decide) (by decide) _ (RDm_129 (fun z => by have := opF_0 hF z; omega)) (RDn_eq (by decide) rfl))
  · rw [cbd_2_1, xbd_some]
    unfold sX1_decode_j143
    simp (decide := true) only [dW_2, dW_3, mW_at, xwi_d2, xwi_d3, xwi_m, List.set, List.length, Nat.reduceSub, List.getD_cons_succ, List.getD_cons_zero, xbd_some, xbd_assoc, if_false, if_true, digits_m (Or.inr rfl), nextNumber1_d hw, nextNumber4_d hw, number1_m hm, number4_m hm]
    exact dp_end (Or.inr ⟨rfl, rfl⟩) hw.2.1 (by omega) (by omega) (by decide) (fun _ _ => RD_E hF (List.mem_of_getElem? (i := 7) rfl) (by decide) (by decide) (by decide) _ (RDm_129 (fun z => by have := opF_0 hF z; omega)) (RDn_eq (by decide) rfl))
  · rw [cbd_2_2, xbd_some]
    unfold sX1_decode_j143
    simp (decide := true) only [dW_2, dW_3, mW_at, xwi_d2, xwi_d3, xwi_m, List.set, List.length, Nat.reduceSub, List.getD_cons_succ, List.getD_cons_zero, xbd_some, xbd_assoc, if_false, if_true, digits_m (Or.inr rfl), nextNumber1_d hw, nextNumber4_d hw, number1_m hm, number4_m hm]
    exact dp_end (Or.inr ⟨rfl, rfl⟩) hw.2.1 (by omega) (by omega) (by decide) (fun _ _ => RD_E hF (List.mem_of_getElem? (i := 11) rfl) (by decide) (by decide) (by decide) _ (RDm_129 (fun z => by have := opF_0 hF z; omega)) (RDn_eq (by decide) rfl))
  · rw [cbd_2_3, xbd_some]
    unfold sX1_decode_j143
    simp (decide := true) only [dW_2, dW_3, mW_at, xwi_d2, xwi_d3, xwi_m, List.set, List.length, Nat.reduceSub, List.getD_cons_succ, List.getD_cons_zero, xbd_some, xbd_assoc, if_false, if_true, digits_m (Or.inr rfl), nextNumber1_d hw, nextNumber4_d hw, number1_m hm, number4_m hm]
    exact dp_end (Or.inr ⟨rfl, rfl⟩) hw.2.1 (by omega) (by omega) (by decide) (fun _ _ => RD_E hF (List.mem_of_getElem? (i := 15) rfl) (by decide) (by decide) (by decide) _ (RDm_129 (fun z => by have := opF_0 hF z; omega)) (RDn_eq (by decide) rfl))
  · rw [cbd_2_4, xbd_some]
    unfold sX1_decode_j143
    simp (decide := true) only [dW_2, dW_3, mW_at, xwi_d2, xwi_d3, xwi_m, List.set, List.length, Nat.reduceSub, List.getD_cons_succ, List.getD_cons_zero, xbd_some, xbd_assoc, if_false, if_true, digits_m (Or.inr rfl), nextNumber1_d hw, nextNumber4_d hw, number1_m hm, number4_m hm]
    exact dp_end (Or.inr ⟨rfl, rfl⟩) hw.2.1 (by omega) (by omega) (by decide) (fun _ _ => RD_E hF (List.mem_of_getElem? (i := 19) rfl) (by decide) (by decide) (by decide) _ (RDm_129 (fun z => by have := opF_0 hF z; omega)) (RDn_eq (by decide) rfl))
  · rw [cbd_2_5, xbd_some]
    unfold sX1_decode_j143
    simp (decide := true) only [dW_2, dW_3, mW_at, xwi_d2, xwi_d3, xwi_m, List.set, List.length, Nat.reduceSub, List.getD_cons_succ, List.getD_cons_zero, xbd_some, xbd_assoc, if_false, if_true, digits_m (Or.inr rfl), nextNumber1_d hw, nextNumber4_d hw, number1_m hm, number4_m hm]
    exact dp_end (Or.inr ⟨rfl, rfl⟩) hw.2.1 (by omega) (by omega) (by decide) (fun _ _ => RD_E hF (List.mem_of_getElem? (i := 23) rfl) (by decide) (by decide) (by decide) _ (RDm_129 (fun z => by have := opF_0 hF z; omega)) (RDn_eq (by decide) rfl))
  · rw [cbd_2_6, xbd_some]
    unfold sX1_decode_j143
    simp (decide := true) only [dW_2, dW_3, mW_at, xwi_d2, xwi_d3, xwi_m, List.set, List.length, Nat.reduceSub, List.getD_cons_succ, List.getD_cons_zero, xbd_some, xbd_assoc, if_false, if_true, digits_m (Or.inr rfl), nextNumber1_d hw, nextNumber4_d hw, number1_m hm, number4_m hm]
    exact dp_end (Or.inr ⟨rfl, rfl⟩) hw.2.1 (by omega) (by omega) (by decide) (fun _ _ => RD_E hF (List.mem_of_getElem? (i := 27) rfl) (by decide) (by decide) (by decide) _ (RDm_129 (fun z => by have := opF_0 hF z; omega)) (RDn_eq (by decide) rfl))
  · rw [cbd_2_7, xbd_some]
    unfold sX1_decode_j143
    simp (decide := true) only [dW_2, dW_3, mW_at, xwi_d2, xwi_d3, xwi_m, List.set, List.length, Nat.reduceSub, List.getD_cons_succ, List.getD_cons_zero, xbd_some, xbd_assoc, if_false, if_true, digits_m (Or.inr rfl), nextNumber1_d hw, nextNumber4_d hw, number1_m hm, number4_m hm]
    exact dp_end (Or.inr ⟨rfl, rfl⟩) hw.2.1 (by omega) (by omega) (by decide) (fun _ _ => RD_E hF (List.mem_of_getElem? (i := 31) rfl) (by decide) (by decide) (by decide) _ (RDm_129 (fun z => by have := opF_0 hF z; omega)) (RDn_eq (by decide) rfl))

theorem db_131 (hw : imgC w B n) (hm : imgM m B n) : DP n p w m (xbd (sX1_chooseHigh 131 4 (dW [50, 0, 131, 0, 4, 4, 0, 0, 0, -1, -1, 0, 0, 0, 0] [nxn n (p + 1), ctn n (p + 1), 1, 0, 0, 0] w)) (fun _ w1 => sX1_decode_j128 (nI p) w1)) (sX12_take_j86 (nI p) 131 4 (mW [x0, x1, 0, x3, x4, 3, 0, 0, -1, -1, x10, x11, 0, x13, nxn n (p + 1), thr n (p + 1) 1] m)) := by
  obtain ⟨q2, md, rg, rm, bs, ix, sc, tm, dp, mem, hF, hC, hO⟩ := operand_pair hw hm (p + 1)
  have h1 := hF.1
  have h2 := hF.2.1
  rw [(show ∀ W, sX1_chooseHigh 131 4 W = some ((), (xwi (xwi (xwi (xwi (xwi (xwi W 2 1 (3 : Int32)) 2 4 (4 : Int32)) 2 5 (4 : Int32)) 3 5 (1 : Int32)) 3 6 (2 : Int32)) 3 7 (1 : Int32))) from fun _ => rfl), (show ∀ M, sX12_take_j86 (nI p) 131 4 M = xbd (sX12_takeOther 131 4 M) (fun _ w1 => sX12_take_j380 (nI p) w1) from fun _ => rfl), xbd_some]
  rw [(show ∀ M, sX12_takeOther 131 4 M = sX12_takeOther_j682 131 4 M from fun _ => rfl)]
  unfold sX1_decode_j128
  simp (decide := true) only [dW_2, dW_3, mW_at, xwi_d2, xwi_d3, xwi_m, List.set, List.length, Nat.reduceSub, List.getD_cons_succ, List.getD_cons_zero, xbd_some, xbd_assoc, sX12_is, if_false, if_true, hC, hO, sX12_takeOther_j682]
  rcases in8_cases hF.2.2.1 with rfl | rfl | rfl | rfl | rfl | rfl | rfl | rfl
  · rw [cbd_2_0, xbd_some]
    unfold sX1_decode_j143
    simp (decide := true) only [dW_2, dW_3, mW_at, xwi_d2, xwi_d3, xwi_m, List.set, List.length, Nat.reduceSub, List.getD_cons_succ, List.getD_cons_zero, xbd_some, xbd_assoc, if_false, if_true, digits_m (Or.inr rfl), nextNumber1_d hw, nextNumber4_d hw, number1_m hm, number4_m hm]
    exact dp_end (Or.inr ⟨rfl, rfl⟩) hw.2.1 (by omega) (by omega) (by decide) (fun _ _ => RD_E hF (List.mem_of_getElem? (i := 3) rfl) (by decide) (by decide) (by decide) _ (RDm_131 (fun z => by have := opF_0 hF z; omega)) (RDn_eq (by decide) rfl))
  · rw [cbd_2_1, xbd_some]
    unfold sX1_decode_j143
    simp (decide := true) only [dW_2, dW_3, mW_at, xwi_d2, xwi_d3, xwi_m, List.set, List.length, Nat.reduceSub, List.getD_cons_succ, List.getD_cons_zero, xbd_some, xbd_assoc, if_false, if_true, digits_m (Or.inr rfl), nextNumber1_d hw, nextNumber4_d hw, number1_m hm, number4_m hm]
    exact dp_end (Or.inr ⟨rfl, rfl⟩) hw.2.1 (by omega) (by omega) (by decide) (fun _ _ => RD_E hF (List.mem_of_getElem? (i := 7) rfl) (by decide) (by decide) (by decide) _ (RDm_131 (fun z => by have := opF_0 hF z; omega)) (RDn_eq (by decide) rfl))
  · rw [cbd_2_2, xbd_some]
    unfold sX1_decode_j143
    simp (decide := true) only [dW_2, dW_3, mW_at, xwi_d2, xwi_d3, xwi_m, List.set, List.length, Nat.reduceSub, List.getD_cons_succ, List.getD_cons_zero, xbd_some, xbd_assoc, if_false, if_true, digits_m (Or.inr rfl), nextNumber1_d hw, nextNumber4_d hw, number1_m hm, number4_m hm]
    exact dp_end (Or.inr ⟨rfl, rfl⟩) hw.2.1 (by omega) (by omega) (by decide) (fun _ _ => RD_E hF (List.mem_of_getElem? (i := 11) rfl) (by decide) (by decide) (by decide) _ (RDm_131 (fun z => by have := opF_0 hF z; omega)) (RDn_eq (by decide) rfl))
  · rw [cbd_2_3, xbd_some]
    unfold sX1_decode_j143
    simp (decide := true) only [dW_2, dW_3, mW_at, xwi_d2, xwi_d3, xwi_m, List.set, List.length, Nat.reduceSub, List.getD_cons_succ, List.getD_cons_zero, xbd_some, xbd_assoc, if_false, if_true, digits_m (Or.inr rfl), nextNumber1_d hw, nextNumber4_d hw, number1_m hm, number4_m hm]
    exact dp_end (Or.inr ⟨rfl, rfl⟩) hw.2.1 (by omega) (by omega) (by decide) (fun _ _ => RD_E hF (List.mem_of_getElem? (i := 15) rfl) (by decide) (by decide) (by decide) _ (RDm_131 (fun z => by have := opF_0 hF z; omega)) (RDn_eq (by decide) rfl))
  · rw [cbd_2_4, xbd_some]
    unfold sX1_decode_j143
    simp (decide := true) only [dW_2, dW_3, mW_at, xwi_d2, xwi_d3, xwi_m, List.set, List.length, Nat.reduceSub, List.getD_cons_succ, List.getD_cons_zero, xbd_some, xbd_assoc, if_false, if_true, digits_m (Or.inr rfl), nextNumber1_d hw, nextNumber4_d hw, number1_m hm, number4_m hm]
    exact dp_end (Or.inr ⟨rfl, rfl⟩) hw.2.1 (by omega) (by omega) (by decide) (fun _ _ => RD_E hF (List.mem_of_getElem? (i := 19) rfl) (by decide) (by decide) (by decide) _ (RDm_131 (fun z => by have := opF_0 hF z; omega)) (RDn_eq (by decide) rfl))
  · rw [cbd_2_5, xbd_some]
    unfold sX1_decode_j143
    simp (decide := true) only [dW_2, dW_3, mW_at, xwi_d2, xwi_d3, xwi_m, List.set, List.length, Nat.reduceSub, List.getD_cons_succ, List.getD_cons_zero, xbd_some, xbd_assoc, if_false, if_true, digits_m (Or.inr rfl), nextNumber1_d hw, nextNumber4_d hw, number1_m hm, number4_m hm]
    exact dp_end (Or.inr ⟨rfl, rfl⟩) hw.2.1 (by omega) (by omega) (by decide) (fun _ _ => RD_E hF (List.mem_of_getElem? (i := 23) rfl) (by decide) (by decide) (by decide) _ (RDm_131 (fun z => by have := opF_0 hF z; omega)) (RDn_eq (by decide) rfl))
  · rw [cbd_2_6, xbd_some]
    unfold sX1_decode_j143
    simp (decide := true) only [dW_2, dW_3, mW_at, xwi_d2, xwi_d3, xwi_m, List.set, List.length, Nat.reduceSub, List.getD_cons_succ, List.getD_cons_zero, xbd_some, xbd_assoc, if_false, if_true, digits_m (Or.inr rfl), nextNumber1_d hw, nextNumber4_d hw, number1_m hm, number4_m hm]
    exact dp_end (Or.inr ⟨rfl, rfl⟩) hw.2.1 (by omega) (by omega) (by decide) (fun _ _ => RD_E hF (List.mem_of_getElem? (i := 27) rfl) (by decide) (by decide) (by decide) _ (RDm_131 (fun z => by have := opF_0 hF z; omega)) (RDn_eq (by decide) rfl))
  · rw [cbd_2_7, xbd_some]
    unfold sX1_decode_j143
    simp (decide := true) only [dW_2, dW_3, mW_at, xwi_d2, xwi_d3, xwi_m, List.set, List.length, Nat.reduceSub, List.getD_cons_succ, List.getD_cons_zero, xbd_some, xbd_assoc, if_false, if_true, digits_m (Or.inr rfl), nextNumber1_d hw, nextNumber4_d hw, number1_m hm, number4_m hm]
    exact dp_end (Or.inr ⟨rfl, rfl⟩) hw.2.1 (by omega) (by omega) (by decide) (fun _ _ => RD_E hF (List.mem_of_getElem? (i := 31) rfl) (by decide) (by decide) (by decide) _ (RDm_131 (fun z => by have := opF_0 hF z; omega)) (RDn_eq (by decide) rfl))

theorem db_141 (hw : imgC w B n) (hm : imgM m B n) : DP n p w m (xbd (sX1_chooseHigh 141 4 (dW [50, 0, 141, 0, 4, 4, 0, 0, 0, -1, -1, 0, 0, 0, 0] [nxn n (p + 1), ctn n (p + 1), 1, 0, 0, 0] w)) (fun _ w1 => sX1_decode_j128 (nI p) w1)) (sX12_take_j86 (nI p) 141 4 (mW [x0, x1, 0, x3, x4, 3, 0, 0, -1, -1, x10, x11, 0, x13, nxn n (p + 1), thr n (p + 1) 1] m)) := by
  obtain ⟨q2, md, rg, rm, bs, ix, sc, tm, dp, mem, hF, hC, hO⟩ := operand_pair hw hm (p + 1)
  have h1 := hF.1
  have h2 := hF.2.1
  rw [(show ∀ W, sX1_chooseHigh 141 4 W = some ((), (xwi (xwi (xwi (xwi (xwi (xwi W 2 0 (31 : Int32)) 2 1 (2 : Int32)) 2 4 (4 : Int32)) 2 5 (4 : Int32)) 3 5 (1 : Int32)) 3 6 (6 : Int32))) from fun _ => rfl), (show ∀ M, sX12_take_j86 (nI p) 141 4 M = xbd (sX12_takeOther 141 4 M) (fun _ w1 => sX12_take_j380 (nI p) w1) from fun _ => rfl), xbd_some]
  rw [(show ∀ M, sX12_takeOther 141 4 M = xbd (sX12_is (17 : Int32) (2 : Int32) (4 : Int32) M) (fun _ w1 => xbd (sX12_operand w1) (fun _ w2 => (if (w2.1 0 22) = (3 : Int32) then xbd (sX12_digits (0 : Int32) w2) (fun _ w3 => some ((), w3)) else xbd (sX12_digits (1 : Int32) w2) (fun _ w4 => some ((), w4))))) from fun _ => rfl)]
  unfold sX1_decode_j128
  simp (decide := true) only [dW_2, dW_3, mW_at, xwi_d2, xwi_d3, xwi_m, List.set, List.length, Nat.reduceSub, List.getD_cons_succ, List.getD_cons_zero, xbd_some, xbd_assoc, sX12_is, if_false, if_true, hC, hO]
  rcases (show (md = 3 ∧ mem = 0) ∨ (¬ md = 3 ∧ mem = 1) from by
    rcases hF.2.2.2.2 with h5 | h5
    · exact Or.inl ⟨h5.1, h5.2.1⟩
    · refine Or.inr ⟨?_, h5.2.1⟩
      rcases h5.1 with h | h | h <;> rw [h] <;> decide) with ⟨rfl, rfl⟩ | ⟨hmd, rfl⟩
  · rw [cbd_6m0, xbd_some]
    unfold sX1_decode_j143
    simp (decide := true) only [dW_2, dW_3, mW_at, xwi_d2, xwi_d3, xwi_m, List.set, List.length, Nat.reduceSub, List.getD_cons_succ, List.getD_cons_zero, xbd_some, xbd_assoc, if_false, if_true, digits_m (Or.inr rfl), nextNumber1_d hw, nextNumber4_d hw, number1_m hm, number4_m hm]
    exact dp_end (Or.inl ⟨rfl, rfl⟩) hw.2.1 (by omega) (by omega) (by decide) (fun _ h => absurd h (by decide))
  · rw [cbd_6m1, xbd_some]
    unfold sX1_decode_j143
    simp (decide := true) only [dW_2, dW_3, mW_at, xwi_d2, xwi_d3, xwi_m, List.set, List.length, Nat.reduceSub, List.getD_cons_succ, List.getD_cons_zero, xbd_some, xbd_assoc, if_false, if_true, digits_m (Or.inr rfl), nextNumber1_d hw, nextNumber4_d hw, number1_m hm, number4_m hm, hmd]
    exact dp_end (Or.inr ⟨rfl, rfl⟩) hw.2.1 (by omega) (by omega) (by decide) (fun _ _ => RD_E hF (List.mem_of_getElem? (i := 76) rfl) (by decide) (by decide) (by decide) _ (mask1_m (by decide) ⟨fun _ => rfl, fun q => absurd q (by decide)⟩ _) (RDn_no (by decide)))

theorem db_143 (hw : imgC w B n) (hm : imgM m B n) : DP n p w m (xbd (sX1_chooseHigh 143 4 (dW [50, 0, 143, 0, 4, 4, 0, 0, 0, -1, -1, 0, 0, 0, 0] [nxn n (p + 1), ctn n (p + 1), 1, 0, 0, 0] w)) (fun _ w1 => sX1_decode_j128 (nI p) w1)) (sX12_take_j86 (nI p) 143 4 (mW [x0, x1, 0, x3, x4, 3, 0, 0, -1, -1, x10, x11, 0, x13, nxn n (p + 1), thr n (p + 1) 1] m)) := by
  obtain ⟨q2, md, rg, rm, bs, ix, sc, tm, dp, mem, hF, hC, hO⟩ := operand_pair hw hm (p + 1)
  have h1 := hF.1
  have h2 := hF.2.1
  rw [(show ∀ W, sX1_chooseHigh 143 4 W = some ((), (xwi (xwi (xwi (xwi (xwi (xwi W 2 0 (43 : Int32)) 2 1 (5 : Int32)) 2 4 (4 : Int32)) 2 5 (4 : Int32)) 3 5 (1 : Int32)) 3 6 (1 : Int32))) from fun _ => rfl), (show ∀ M, sX12_take_j86 (nI p) 143 4 M = xbd (sX12_takeOther 143 4 M) (fun _ w1 => sX12_take_j380 (nI p) w1) from fun _ => rfl), xbd_some]
  rw [(show ∀ M, sX12_takeOther 143 4 M = xbd (sX12_is (11 : Int32) (5 : Int32) (4 : Int32) M) (fun _ w5 => xbd (sX12_operand w5) (fun _ w6 => (if (w6.1 0 23) = 0 then xbd (sX12_digits (1 : Int32) w6) (fun _ w8 => some ((), w8)) else xbd (sX12_digits (0 : Int32) w6) (fun _ w7 => some ((), w7))))) from fun _ => rfl)]
  unfold sX1_decode_j128
  simp (decide := true) only [dW_2, dW_3, mW_at, xwi_d2, xwi_d3, xwi_m, List.set, List.length, Nat.reduceSub, List.getD_cons_succ, List.getD_cons_zero, xbd_some, xbd_assoc, sX12_is, if_false, if_true, hC, hO]
  rcases in8_cases hF.2.2.1 with rfl | rfl | rfl | rfl | rfl | rfl | rfl | rfl
  · rw [cbd_1_0, xbd_some]
    unfold sX1_decode_j143
    simp (decide := true) only [dW_2, dW_3, mW_at, xwi_d2, xwi_d3, xwi_m, List.set, List.length, Nat.reduceSub, List.getD_cons_succ, List.getD_cons_zero, xbd_some, xbd_assoc, if_false, if_true, digits_m (Or.inr rfl), nextNumber1_d hw, nextNumber4_d hw, number1_m hm, number4_m hm]
    exact dp_end (Or.inr ⟨rfl, rfl⟩) hw.2.1 (by omega) (by omega) (by decide) (fun _ _ => RD_E hF (List.mem_of_getElem? (i := 92) rfl) (by decide) (by decide) (by decide) _ (mask0_m (by decide) _ _) (RDn_no (by decide)))
  · rw [cbd_1_1, xbd_some]
    unfold sX1_decode_j143
    simp (decide := true) only [dW_2, dW_3, mW_at, xwi_d2, xwi_d3, xwi_m, List.set, List.length, Nat.reduceSub, List.getD_cons_succ, List.getD_cons_zero, xbd_some, xbd_assoc, if_false, if_true, digits_m (Or.inr rfl), nextNumber1_d hw, nextNumber4_d hw, number1_m hm, number4_m hm]
    exact dp_end (Or.inl ⟨rfl, rfl⟩) hw.2.1 (by omega) (by omega) (by decide) (fun _ h => absurd h (by decide))
  · rw [cbd_1_2, xbd_some]
    unfold sX1_decode_j143
    simp (decide := true) only [dW_2, dW_3, mW_at, xwi_d2, xwi_d3, xwi_m, List.set, List.length, Nat.reduceSub, List.getD_cons_succ, List.getD_cons_zero, xbd_some, xbd_assoc, if_false, if_true, digits_m (Or.inr rfl), nextNumber1_d hw, nextNumber4_d hw, number1_m hm, number4_m hm]
    exact dp_end (Or.inl ⟨rfl, rfl⟩) hw.2.1 (by omega) (by omega) (by decide) (fun _ h => absurd h (by decide))
  · rw [cbd_1_3, xbd_some]
    unfold sX1_decode_j143
    simp (decide := true) only [dW_2, dW_3, mW_at, xwi_d2, xwi_d3, xwi_m, List.set, List.length, Nat.reduceSub, List.getD_cons_succ, List.getD_cons_zero, xbd_some, xbd_assoc, if_false, if_true, digits_m (Or.inr rfl), nextNumber1_d hw, nextNumber4_d hw, number1_m hm, number4_m hm]
    exact dp_end (Or.inl ⟨rfl, rfl⟩) hw.2.1 (by omega) (by omega) (by decide) (fun _ h => absurd h (by decide))
  · rw [cbd_1_4, xbd_some]
    unfold sX1_decode_j143
    simp (decide := true) only [dW_2, dW_3, mW_at, xwi_d2, xwi_d3, xwi_m, List.set, List.length, Nat.reduceSub, List.getD_cons_succ, List.getD_cons_zero, xbd_some, xbd_assoc, if_false, if_true, digits_m (Or.inr rfl), nextNumber1_d hw, nextNumber4_d hw, number1_m hm, number4_m hm]
    exact dp_end (Or.inl ⟨rfl, rfl⟩) hw.2.1 (by omega) (by omega) (by decide) (fun _ h => absurd h (by decide))
  · rw [cbd_1_5, xbd_some]
    unfold sX1_decode_j143
    simp (decide := true) only [dW_2, dW_3, mW_at, xwi_d2, xwi_d3, xwi_m, List.set, List.length, Nat.reduceSub, List.getD_cons_succ, List.getD_cons_zero, xbd_some, xbd_assoc, if_false, if_true, digits_m (Or.inr rfl), nextNumber1_d hw, nextNumber4_d hw, number1_m hm, number4_m hm]
    exact dp_end (Or.inl ⟨rfl, rfl⟩) hw.2.1 (by omega) (by omega) (by decide) (fun _ h => absurd h (by decide))
  · rw [cbd_1_6, xbd_some]
    unfold sX1_decode_j143
    simp (decide := true) only [dW_2, dW_3, mW_at, xwi_d2, xwi_d3, xwi_m, List.set, List.length, Nat.reduceSub, List.getD_cons_succ, List.getD_cons_zero, xbd_some, xbd_assoc, if_false, if_true, digits_m (Or.inr rfl), nextNumber1_d hw, nextNumber4_d hw, number1_m hm, number4_m hm]
    exact dp_end (Or.inl ⟨rfl, rfl⟩) hw.2.1 (by omega) (by omega) (by decide) (fun _ h => absurd h (by decide))
  · rw [cbd_1_7, xbd_some]
    unfold sX1_decode_j143
    simp (decide := true) only [dW_2, dW_3, mW_at, xwi_d2, xwi_d3, xwi_m, List.set, List.length, Nat.reduceSub, List.getD_cons_succ, List.getD_cons_zero, xbd_some, xbd_assoc, if_false, if_true, digits_m (Or.inr rfl), nextNumber1_d hw, nextNumber4_d hw, number1_m hm, number4_m hm]
    exact dp_end (Or.inl ⟨rfl, rfl⟩) hw.2.1 (by omega) (by omega) (by decide) (fun _ h => absurd h (by decide))

theorem db_192 (hw : imgC w B n) (hm : imgM m B n) : DP n p w m (xbd (sX1_chooseHigh 192 1 (dW [50, 0, 192, 0, 4, 4, 0, 0, 0, -1, -1, 0, 0, 0, 0] [nxn n (p + 1), ctn n (p + 1), 1, 0, 0, 0] w)) (fun _ w1 => sX1_decode_j128 (nI p) w1)) (sX12_take_j86 (nI p) 192 1 (mW [x0, x1, 0, x3, x4, 3, 0, 0, -1, -1, x10, x11, 0, x13, nxn n (p + 1), thr n (p + 1) 1] m)) := by
  obtain ⟨q2, md, rg, rm, bs, ix, sc, tm, dp, mem, hF, hC, hO⟩ := operand_pair hw hm (p + 1)
  have h1 := hF.1
  have h2 := hF.2.1
  rw [(show ∀ W, sX1_chooseHigh 192 1 W = some ((), (xwi (xwi (xwi (xwi (xwi (xwi W 2 1 (3 : Int32)) 2 4 (1 : Int32)) 2 5 (1 : Int32)) 3 5 (1 : Int32)) 3 6 (3 : Int32)) 3 7 (1 : Int32))) from fun _ => rfl), (show ∀ M, sX12_take_j86 (nI p) 192 1 M = xbd (sX12_takeOther 192 1 M) (fun _ w1 => sX12_take_j380 (nI p) w1) from fun _ => rfl), xbd_some]
  rw [(show ∀ M, sX12_takeOther 192 1 M = sX12_takeOther_j893 192 1 M from fun _ => rfl)]
  unfold sX1_decode_j128
  simp (decide := true) only [dW_2, dW_3, mW_at, xwi_d2, xwi_d3, xwi_m, List.set, List.length, Nat.reduceSub, List.getD_cons_succ, List.getD_cons_zero, xbd_some, xbd_assoc, sX12_is, if_false, if_true, hC, hO, sX12_takeOther_j893, sX12_takeOther_j920]
  rcases in8_cases hF.2.2.1 with rfl | rfl | rfl | rfl | rfl | rfl | rfl | rfl
  · rw [cbd_3_0, xbd_some]
    unfold sX1_decode_j143
    simp (decide := true) only [dW_2, dW_3, mW_at, xwi_d2, xwi_d3, xwi_m, List.set, List.length, Nat.reduceSub, List.getD_cons_succ, List.getD_cons_zero, xbd_some, xbd_assoc, if_false, if_true, digits_m (Or.inr rfl), nextNumber1_d hw, nextNumber4_d hw, number1_m hm, number4_m hm, sX12_takeOther_j943, sX12_takeOther_j968]
    exact dp_end (Or.inr ⟨rfl, rfl⟩) hw.2.1 (by omega) (by omega) (by decide) (fun _ _ => RD_E hF (List.mem_of_getElem? (i := 32) rfl) (by decide) (by decide) (by decide) _ (mask0_m (by decide) _ _) (RDn_eq (by decide) rfl))
  · rw [cbd_3_1, xbd_some]
    unfold sX1_decode_j143
    simp (decide := true) only [dW_2, dW_3, mW_at, xwi_d2, xwi_d3, xwi_m, List.set, List.length, Nat.reduceSub, List.getD_cons_succ, List.getD_cons_zero, xbd_some, xbd_assoc, if_false, if_true, digits_m (Or.inr rfl), nextNumber1_d hw, nextNumber4_d hw, number1_m hm, number4_m hm, sX12_takeOther_j943, sX12_takeOther_j968]
    exact dp_end (Or.inr ⟨rfl, rfl⟩) hw.2.1 (by omega) (by omega) (by decide) (fun _ _ => RD_E hF (List.mem_of_getElem? (i := 35) rfl) (by decide) (by decide) (by decide) _ (mask0_m (by decide) _ _) (RDn_eq (by decide) rfl))
  · rw [cbd_3_2, xbd_some]
    unfold sX1_decode_j143
    simp (decide := true) only [dW_2, dW_3, mW_at, xwi_d2, xwi_d3, xwi_m, List.set, List.length, Nat.reduceSub, List.getD_cons_succ, List.getD_cons_zero, xbd_some, xbd_assoc, if_false, if_true, digits_m (Or.inr rfl), nextNumber1_d hw, nextNumber4_d hw, number1_m hm, number4_m hm, sX12_takeOther_j943, sX12_takeOther_j968]
    exact dp_end (Or.inr ⟨rfl, rfl⟩) hw.2.1 (by omega) (by omega) (by decide) (fun _ _ => RD_E hF (List.mem_of_getElem? (i := 38) rfl) (by decide) (by decide) (by decide) _ (mask0_m (by decide) _ _) (RDn_eq (by decide) rfl))
  · rw [cbd_3_3, xbd_some]
    unfold sX1_decode_j143
    simp (decide := true) only [dW_2, dW_3, mW_at, xwi_d2, xwi_d3, xwi_m, List.set, List.length, Nat.reduceSub, List.getD_cons_succ, List.getD_cons_zero, xbd_some, xbd_assoc, if_false, if_true, digits_m (Or.inr rfl), nextNumber1_d hw, nextNumber4_d hw, number1_m hm, number4_m hm, sX12_takeOther_j943, sX12_takeOther_j968]
    exact dp_end (Or.inr ⟨rfl, rfl⟩) hw.2.1 (by omega) (by omega) (by decide) (fun _ _ => RD_E hF (List.mem_of_getElem? (i := 41) rfl) (by decide) (by decide) (by decide) _ (mask0_m (by decide) _ _) (RDn_eq (by decide) rfl))
  · rw [cbd_3_4, xbd_some]
    unfold sX1_decode_j143
    simp (decide := true) only [dW_2, dW_3, mW_at, xwi_d2, xwi_d3, xwi_m, List.set, List.length, Nat.reduceSub, List.getD_cons_succ, List.getD_cons_zero, xbd_some, xbd_assoc, if_false, if_true, digits_m (Or.inr rfl), nextNumber1_d hw, nextNumber4_d hw, number1_m hm, number4_m hm, sX12_takeOther_j943, sX12_takeOther_j968]
    exact dp_end (Or.inr ⟨rfl, rfl⟩) hw.2.1 (by omega) (by omega) (by decide) (fun _ _ => RD_E hF (List.mem_of_getElem? (i := 44) rfl) (by decide) (by decide) (by decide) _ (mask0_m (by decide) _ _) (RDn_eq (by decide) rfl))
  · rw [cbd_3_5, xbd_some]
    unfold sX1_decode_j143
    simp (decide := true) only [dW_2, dW_3, mW_at, xwi_d2, xwi_d3, xwi_m, List.set, List.length, Nat.reduceSub, List.getD_cons_succ, List.getD_cons_zero, xbd_some, xbd_assoc, if_false, if_true, digits_m (Or.inr rfl), nextNumber1_d hw, nextNumber4_d hw, number1_m hm, number4_m hm, sX12_takeOther_j943, sX12_takeOther_j968]
    exact dp_end (Or.inr ⟨rfl, rfl⟩) hw.2.1 (by omega) (by omega) (by decide) (fun _ _ => RD_E hF (List.mem_of_getElem? (i := 47) rfl) (by decide) (by decide) (by decide) _ (mask0_m (by decide) _ _) (RDn_eq (by decide) rfl))
  · rw [cbd_3_6, xbd_some]
    unfold sX1_decode_j143
    simp (decide := true) only [dW_2, dW_3, mW_at, xwi_d2, xwi_d3, xwi_m, List.set, List.length, Nat.reduceSub, List.getD_cons_succ, List.getD_cons_zero, xbd_some, xbd_assoc, if_false, if_true, digits_m (Or.inr rfl), nextNumber1_d hw, nextNumber4_d hw, number1_m hm, number4_m hm, sX12_takeOther_j943, sX12_takeOther_j968]
    exact dp_end (Or.inl ⟨rfl, rfl⟩) hw.2.1 (by omega) (by omega) (by decide) (fun _ h => absurd h (by decide))
  · rw [cbd_3_7, xbd_some]
    unfold sX1_decode_j143
    simp (decide := true) only [dW_2, dW_3, mW_at, xwi_d2, xwi_d3, xwi_m, List.set, List.length, Nat.reduceSub, List.getD_cons_succ, List.getD_cons_zero, xbd_some, xbd_assoc, if_false, if_true, digits_m (Or.inr rfl), nextNumber1_d hw, nextNumber4_d hw, number1_m hm, number4_m hm, sX12_takeOther_j943, sX12_takeOther_j968]
    exact dp_end (Or.inr ⟨rfl, rfl⟩) hw.2.1 (by omega) (by omega) (by decide) (fun _ _ => RD_E hF (List.mem_of_getElem? (i := 50) rfl) (by decide) (by decide) (by decide) _ (mask0_m (by decide) _ _) (RDn_eq (by decide) rfl))

theorem db_193 (hw : imgC w B n) (hm : imgM m B n) : DP n p w m (xbd (sX1_chooseHigh 193 4 (dW [50, 0, 193, 0, 4, 4, 0, 0, 0, -1, -1, 0, 0, 0, 0] [nxn n (p + 1), ctn n (p + 1), 1, 0, 0, 0] w)) (fun _ w1 => sX1_decode_j128 (nI p) w1)) (sX12_take_j86 (nI p) 193 4 (mW [x0, x1, 0, x3, x4, 3, 0, 0, -1, -1, x10, x11, 0, x13, nxn n (p + 1), thr n (p + 1) 1] m)) := by
  obtain ⟨q2, md, rg, rm, bs, ix, sc, tm, dp, mem, hF, hC, hO⟩ := operand_pair hw hm (p + 1)
  have h1 := hF.1
  have h2 := hF.2.1
  rw [(show ∀ W, sX1_chooseHigh 193 4 W = some ((), (xwi (xwi (xwi (xwi (xwi (xwi W 2 1 (3 : Int32)) 2 4 (4 : Int32)) 2 5 (4 : Int32)) 3 5 (1 : Int32)) 3 6 (3 : Int32)) 3 7 (1 : Int32))) from fun _ => rfl), (show ∀ M, sX12_take_j86 (nI p) 193 4 M = xbd (sX12_takeOther 193 4 M) (fun _ w1 => sX12_take_j380 (nI p) w1) from fun _ => rfl), xbd_some]
  rw [(show ∀ M, sX12_takeOther 193 4 M = sX12_takeOther_j893 193 4 M from fun _ => rfl)]
  unfold sX1_decode_j128
  simp (decide := true) only [dW_2, dW_3, mW_at, xwi_d2, xwi_d3, xwi_m, List.set, List.length, Nat.reduceSub, List.getD_cons_succ, List.getD_cons_zero, xbd_some, xbd_assoc, sX12_is, if_false, if_true, hC, hO, sX12_takeOther_j893, sX12_takeOther_j920]
  rcases in8_cases hF.2.2.1 with rfl | rfl | rfl | rfl | rfl | rfl | rfl | rfl
  · rw [cbd_3_0, xbd_some]
    unfold sX1_decode_j143
    simp (decide := true) only [dW_2, dW_3, mW_at, xwi_d2, xwi_d3, xwi_m, List.set, List.length, Nat.reduceSub, List.getD_cons_succ, List.getD_cons_zero, xbd_some, xbd_assoc, if_false, if_true, digits_m (Or.inr rfl), nextNumber1_d hw, nextNumber4_d hw, number1_m hm, number4_m hm, sX12_takeOther_j943, sX12_takeOther_j968]
    exact dp_end (Or.inr ⟨rfl, rfl⟩) hw.2.1 (by omega) (by omega) (by decide) (fun _ _ => RD_E hF (List.mem_of_getElem? (i := 32) rfl) (by decide) (by decide) (by decide) _ (mask0_m (by decide) _ _) (RDn_eq (by decide) rfl))
  · rw [cbd_3_1, xbd_some]
    unfold sX1_decode_j143
    simp (decide := true) only [dW_2, dW_3, mW_at, xwi_d2, xwi_d3, xwi_m, List.set, List.length, Nat.reduceSub, List.getD_cons_succ, List.getD_cons_zero, xbd_some, xbd_assoc, if_false, if_true, digits_m (Or.inr rfl), nextNumber1_d hw, nextNumber4_d hw, number1_m hm, number4_m hm, sX12_takeOther_j943, sX12_takeOther_j968]
    exact dp_end (Or.inr ⟨rfl, rfl⟩) hw.2.1 (by omega) (by omega) (by decide) (fun _ _ => RD_E hF (List.mem_of_getElem? (i := 35) rfl) (by decide) (by decide) (by decide) _ (mask0_m (by decide) _ _) (RDn_eq (by decide) rfl))
  · rw [cbd_3_2, xbd_some]
    unfold sX1_decode_j143
    simp (decide := true) only [dW_2, dW_3, mW_at, xwi_d2, xwi_d3, xwi_m, List.set, List.length, Nat.reduceSub, List.getD_cons_succ, List.getD_cons_zero, xbd_some, xbd_assoc, if_false, if_true, digits_m (Or.inr rfl), nextNumber1_d hw, nextNumber4_d hw, number1_m hm, number4_m hm, sX12_takeOther_j943, sX12_takeOther_j968]
    exact dp_end (Or.inr ⟨rfl, rfl⟩) hw.2.1 (by omega) (by omega) (by decide) (fun _ _ => RD_E hF (List.mem_of_getElem? (i := 38) rfl) (by decide) (by decide) (by decide) _ (mask0_m (by decide) _ _) (RDn_eq (by decide) rfl))
  · rw [cbd_3_3, xbd_some]
    unfold sX1_decode_j143
    simp (decide := true) only [dW_2, dW_3, mW_at, xwi_d2, xwi_d3, xwi_m, List.set, List.length, Nat.reduceSub, List.getD_cons_succ, List.getD_cons_zero, xbd_some, xbd_assoc, if_false, if_true, digits_m (Or.inr rfl), nextNumber1_d hw, nextNumber4_d hw, number1_m hm, number4_m hm, sX12_takeOther_j943, sX12_takeOther_j968]
    exact dp_end (Or.inr ⟨rfl, rfl⟩) hw.2.1 (by omega) (by omega) (by decide) (fun _ _ => RD_E hF (List.mem_of_getElem? (i := 41) rfl) (by decide) (by decide) (by decide) _ (mask0_m (by decide) _ _) (RDn_eq (by decide) rfl))
  · rw [cbd_3_4, xbd_some]
    unfold sX1_decode_j143
    simp (decide := true) only [dW_2, dW_3, mW_at, xwi_d2, xwi_d3, xwi_m, List.set, List.length, Nat.reduceSub, List.getD_cons_succ, List.getD_cons_zero, xbd_some, xbd_assoc, if_false, if_true, digits_m (Or.inr rfl), nextNumber1_d hw, nextNumber4_d hw, number1_m hm, number4_m hm, sX12_takeOther_j943, sX12_takeOther_j968]
    exact dp_end (Or.inr ⟨rfl, rfl⟩) hw.2.1 (by omega) (by omega) (by decide) (fun _ _ => RD_E hF (List.mem_of_getElem? (i := 44) rfl) (by decide) (by decide) (by decide) _ (mask0_m (by decide) _ _) (RDn_eq (by decide) rfl))
  · rw [cbd_3_5, xbd_some]
    unfold sX1_decode_j143
    simp (decide := true) only [dW_2, dW_3, mW_at, xwi_d2, xwi_d3, xwi_m, List.set, List.length, Nat.reduceSub, List.getD_cons_succ, List.getD_cons_zero, xbd_some, xbd_assoc, if_false, if_true, digits_m (Or.inr rfl), nextNumber1_d hw, nextNumber4_d hw, number1_m hm, number4_m hm, sX12_takeOther_j943, sX12_takeOther_j968]
    exact dp_end (Or.inr ⟨rfl, rfl⟩) hw.2.1 (by omega) (by omega) (by decide) (fun _ _ => RD_E hF (List.mem_of_getElem? (i := 47) rfl) (by decide) (by decide) (by decide) _ (mask0_m (by decide) _ _) (RDn_eq (by decide) rfl))
  · rw [cbd_3_6, xbd_some]
    unfold sX1_decode_j143
    simp (decide := true) only [dW_2, dW_3, mW_at, xwi_d2, xwi_d3, xwi_m, List.set, List.length, Nat.reduceSub, List.getD_cons_succ, List.getD_cons_zero, xbd_some, xbd_assoc, if_false, if_true, digits_m (Or.inr rfl), nextNumber1_d hw, nextNumber4_d hw, number1_m hm, number4_m hm, sX12_takeOther_j943, sX12_takeOther_j968]
    exact dp_end (Or.inl ⟨rfl, rfl⟩) hw.2.1 (by omega) (by omega) (by decide) (fun _ h => absurd h (by decide))
  · rw [cbd_3_7, xbd_some]
    unfold sX1_decode_j143
    simp (decide := true) only [dW_2, dW_3, mW_at, xwi_d2, xwi_d3, xwi_m, List.set, List.length, Nat.reduceSub, List.getD_cons_succ, List.getD_cons_zero, xbd_some, xbd_assoc, if_false, if_true, digits_m (Or.inr rfl), nextNumber1_d hw, nextNumber4_d hw, number1_m hm, number4_m hm, sX12_takeOther_j943, sX12_takeOther_j968]
    exact dp_end (Or.inr ⟨rfl, rfl⟩) hw.2.1 (by omega) (by omega) (by decide) (fun _ _ => RD_E hF (List.mem_of_getElem? (i := 50) rfl) (by decide) (by decide) (by decide) _ (mask0_m (by decide) _ _) (RDn_eq (by decide) rfl))

theorem db_198 (hw : imgC w B n) (hm : imgM m B n) : DP n p w m (xbd (sX1_chooseHigh 198 1 (dW [50, 0, 198, 0, 4, 4, 0, 0, 0, -1, -1, 0, 0, 0, 0] [nxn n (p + 1), ctn n (p + 1), 1, 0, 0, 0] w)) (fun _ w1 => sX1_decode_j128 (nI p) w1)) (sX12_take_j86 (nI p) 198 1 (mW [x0, x1, 0, x3, x4, 3, 0, 0, -1, -1, x10, x11, 0, x13, nxn n (p + 1), thr n (p + 1) 1] m)) := by
  obtain ⟨q2, md, rg, rm, bs, ix, sc, tm, dp, mem, hF, hC, hO⟩ := operand_pair hw hm (p + 1)
  have h1 := hF.1
  have h2 := hF.2.1
  rw [(show ∀ W, sX1_chooseHigh 198 1 W = some ((), (xwi (xwi (xwi (xwi (xwi (xwi (xwi W 2 0 (28 : Int32)) 2 1 (3 : Int32)) 2 4 (1 : Int32)) 2 5 (1 : Int32)) 3 5 (1 : Int32)) 3 6 (1 : Int32)) 3 7 (1 : Int32))) from fun _ => rfl), (show ∀ M, sX12_take_j86 (nI p) 198 1 M = xbd (sX12_takeOther 198 1 M) (fun _ w1 => sX12_take_j380 (nI p) w1) from fun _ => rfl), xbd_some]
  rw [(show ∀ M, sX12_takeOther 198 1 M = sX12_takeOther_j986 1 M from fun _ => rfl)]
  unfold sX1_decode_j128
  simp (decide := true) only [dW_2, dW_3, mW_at, xwi_d2, xwi_d3, xwi_m, List.set, List.length, Nat.reduceSub, List.getD_cons_succ, List.getD_cons_zero, xbd_some, xbd_assoc, sX12_is, if_false, if_true, hC, hO, sX12_takeOther_j986]
  rcases in8_cases hF.2.2.1 with rfl | rfl | rfl | rfl | rfl | rfl | rfl | rfl
  · rw [cbd_1_0, xbd_some]
    unfold sX1_decode_j143
    simp (decide := true) only [dW_2, dW_3, mW_at, xwi_d2, xwi_d3, xwi_m, List.set, List.length, Nat.reduceSub, List.getD_cons_succ, List.getD_cons_zero, xbd_some, xbd_assoc, if_false, if_true, digits_m (Or.inr rfl), nextNumber1_d hw, nextNumber4_d hw, number1_m hm, number4_m hm, sX12_takeOther_j1011]
    exact dp_end (Or.inr ⟨rfl, rfl⟩) hw.2.1 (by omega) (by omega) (by decide) (fun _ _ => RD_E hF (List.mem_of_getElem? (i := 72) rfl) (by decide) (by decide) (by decide) _ (mask0_m (by decide) _ _) (RDn_eq (by decide) rfl))
  · rw [cbd_1_1, xbd_some]
    unfold sX1_decode_j143
    simp (decide := true) only [dW_2, dW_3, mW_at, xwi_d2, xwi_d3, xwi_m, List.set, List.length, Nat.reduceSub, List.getD_cons_succ, List.getD_cons_zero, xbd_some, xbd_assoc, if_false, if_true, digits_m (Or.inr rfl), nextNumber1_d hw, nextNumber4_d hw, number1_m hm, number4_m hm, sX12_takeOther_j1011]
    exact dp_end (Or.inl ⟨rfl, rfl⟩) hw.2.1 (by omega) (by omega) (by decide) (fun _ h => absurd h (by decide))
  · rw [cbd_1_2, xbd_some]
    unfold sX1_decode_j143
    simp (decide := true) only [dW_2, dW_3, mW_at, xwi_d2, xwi_d3, xwi_m, List.set, List.length, Nat.reduceSub, List.getD_cons_succ, List.getD_cons_zero, xbd_some, xbd_assoc, if_false, if_true, digits_m (Or.inr rfl), nextNumber1_d hw, nextNumber4_d hw, number1_m hm, number4_m hm, sX12_takeOther_j1011]
    exact dp_end (Or.inl ⟨rfl, rfl⟩) hw.2.1 (by omega) (by omega) (by decide) (fun _ h => absurd h (by decide))
  · rw [cbd_1_3, xbd_some]
    unfold sX1_decode_j143
    simp (decide := true) only [dW_2, dW_3, mW_at, xwi_d2, xwi_d3, xwi_m, List.set, List.length, Nat.reduceSub, List.getD_cons_succ, List.getD_cons_zero, xbd_some, xbd_assoc, if_false, if_true, digits_m (Or.inr rfl), nextNumber1_d hw, nextNumber4_d hw, number1_m hm, number4_m hm, sX12_takeOther_j1011]
    exact dp_end (Or.inl ⟨rfl, rfl⟩) hw.2.1 (by omega) (by omega) (by decide) (fun _ h => absurd h (by decide))
  · rw [cbd_1_4, xbd_some]
    unfold sX1_decode_j143
    simp (decide := true) only [dW_2, dW_3, mW_at, xwi_d2, xwi_d3, xwi_m, List.set, List.length, Nat.reduceSub, List.getD_cons_succ, List.getD_cons_zero, xbd_some, xbd_assoc, if_false, if_true, digits_m (Or.inr rfl), nextNumber1_d hw, nextNumber4_d hw, number1_m hm, number4_m hm, sX12_takeOther_j1011]
    exact dp_end (Or.inl ⟨rfl, rfl⟩) hw.2.1 (by omega) (by omega) (by decide) (fun _ h => absurd h (by decide))
  · rw [cbd_1_5, xbd_some]
    unfold sX1_decode_j143
    simp (decide := true) only [dW_2, dW_3, mW_at, xwi_d2, xwi_d3, xwi_m, List.set, List.length, Nat.reduceSub, List.getD_cons_succ, List.getD_cons_zero, xbd_some, xbd_assoc, if_false, if_true, digits_m (Or.inr rfl), nextNumber1_d hw, nextNumber4_d hw, number1_m hm, number4_m hm, sX12_takeOther_j1011]
    exact dp_end (Or.inl ⟨rfl, rfl⟩) hw.2.1 (by omega) (by omega) (by decide) (fun _ h => absurd h (by decide))
  · rw [cbd_1_6, xbd_some]
    unfold sX1_decode_j143
    simp (decide := true) only [dW_2, dW_3, mW_at, xwi_d2, xwi_d3, xwi_m, List.set, List.length, Nat.reduceSub, List.getD_cons_succ, List.getD_cons_zero, xbd_some, xbd_assoc, if_false, if_true, digits_m (Or.inr rfl), nextNumber1_d hw, nextNumber4_d hw, number1_m hm, number4_m hm, sX12_takeOther_j1011]
    exact dp_end (Or.inl ⟨rfl, rfl⟩) hw.2.1 (by omega) (by omega) (by decide) (fun _ h => absurd h (by decide))
  · rw [cbd_1_7, xbd_some]
    unfold sX1_decode_j143
    simp (decide := true) only [dW_2, dW_3, mW_at, xwi_d2, xwi_d3, xwi_m, List.set, List.length, Nat.reduceSub, List.getD_cons_succ, List.getD_cons_zero, xbd_some, xbd_assoc, if_false, if_true, digits_m (Or.inr rfl), nextNumber1_d hw, nextNumber4_d hw, number1_m hm, number4_m hm, sX12_takeOther_j1011]
    exact dp_end (Or.inl ⟨rfl, rfl⟩) hw.2.1 (by omega) (by omega) (by decide) (fun _ h => absurd h (by decide))

theorem db_199 (hw : imgC w B n) (hm : imgM m B n) : DP n p w m (xbd (sX1_chooseHigh 199 4 (dW [50, 0, 199, 0, 4, 4, 0, 0, 0, -1, -1, 0, 0, 0, 0] [nxn n (p + 1), ctn n (p + 1), 1, 0, 0, 0] w)) (fun _ w1 => sX1_decode_j128 (nI p) w1)) (sX12_take_j86 (nI p) 199 4 (mW [x0, x1, 0, x3, x4, 3, 0, 0, -1, -1, x10, x11, 0, x13, nxn n (p + 1), thr n (p + 1) 1] m)) := by
  obtain ⟨q2, md, rg, rm, bs, ix, sc, tm, dp, mem, hF, hC, hO⟩ := operand_pair hw hm (p + 1)
  have h1 := hF.1
  have h2 := hF.2.1
  rw [(show ∀ W, sX1_chooseHigh 199 4 W = some ((), (xwi (xwi (xwi (xwi (xwi (xwi (xwi W 2 0 (28 : Int32)) 2 1 (3 : Int32)) 2 4 (4 : Int32)) 2 5 (4 : Int32)) 3 5 (1 : Int32)) 3 6 (1 : Int32)) 3 7 (4 : Int32))) from fun _ => rfl), (show ∀ M, sX12_take_j86 (nI p) 199 4 M = xbd (sX12_takeOther 199 4 M) (fun _ w1 => sX12_take_j380 (nI p) w1) from fun _ => rfl), xbd_some]
  rw [(show ∀ M, sX12_takeOther 199 4 M = sX12_takeOther_j986 4 M from fun _ => rfl)]
  unfold sX1_decode_j128
  simp (decide := true) only [dW_2, dW_3, mW_at, xwi_d2, xwi_d3, xwi_m, List.set, List.length, Nat.reduceSub, List.getD_cons_succ, List.getD_cons_zero, xbd_some, xbd_assoc, sX12_is, if_false, if_true, hC, hO, sX12_takeOther_j986]
  rcases in8_cases hF.2.2.1 with rfl | rfl | rfl | rfl | rfl | rfl | rfl | rfl
  · rw [cbd_1_0, xbd_some]
    unfold sX1_decode_j143
    simp (decide := true) only [dW_2, dW_3, mW_at, xwi_d2, xwi_d3, xwi_m, List.set, List.length, Nat.reduceSub, List.getD_cons_succ, List.getD_cons_zero, xbd_some, xbd_assoc, if_false, if_true, digits_m (Or.inr rfl), nextNumber1_d hw, nextNumber4_d hw, number1_m hm, number4_m hm, sX12_takeOther_j1011]
    exact dp_end (Or.inr ⟨rfl, rfl⟩) hw.2.1 (by omega) (by omega) (by decide) (fun _ _ => RD_E hF (List.mem_of_getElem? (i := 72) rfl) (by decide) (by decide) (by decide) _ (mask0_m (by decide) _ _) (RDn_eq (by decide) rfl))
  · rw [cbd_1_1, xbd_some]
    unfold sX1_decode_j143
    simp (decide := true) only [dW_2, dW_3, mW_at, xwi_d2, xwi_d3, xwi_m, List.set, List.length, Nat.reduceSub, List.getD_cons_succ, List.getD_cons_zero, xbd_some, xbd_assoc, if_false, if_true, digits_m (Or.inr rfl), nextNumber1_d hw, nextNumber4_d hw, number1_m hm, number4_m hm, sX12_takeOther_j1011]
    exact dp_end (Or.inl ⟨rfl, rfl⟩) hw.2.1 (by omega) (by omega) (by decide) (fun _ h => absurd h (by decide))
  · rw [cbd_1_2, xbd_some]
    unfold sX1_decode_j143
    simp (decide := true) only [dW_2, dW_3, mW_at, xwi_d2, xwi_d3, xwi_m, List.set, List.length, Nat.reduceSub, List.getD_cons_succ, List.getD_cons_zero, xbd_some, xbd_assoc, if_false, if_true, digits_m (Or.inr rfl), nextNumber1_d hw, nextNumber4_d hw, number1_m hm, number4_m hm, sX12_takeOther_j1011]
    exact dp_end (Or.inl ⟨rfl, rfl⟩) hw.2.1 (by omega) (by omega) (by decide) (fun _ h => absurd h (by decide))
  · rw [cbd_1_3, xbd_some]
    unfold sX1_decode_j143
    simp (decide := true) only [dW_2, dW_3, mW_at, xwi_d2, xwi_d3, xwi_m, List.set, List.length, Nat.reduceSub, List.getD_cons_succ, List.getD_cons_zero, xbd_some, xbd_assoc, if_false, if_true, digits_m (Or.inr rfl), nextNumber1_d hw, nextNumber4_d hw, number1_m hm, number4_m hm, sX12_takeOther_j1011]
    exact dp_end (Or.inl ⟨rfl, rfl⟩) hw.2.1 (by omega) (by omega) (by decide) (fun _ h => absurd h (by decide))
  · rw [cbd_1_4, xbd_some]
    unfold sX1_decode_j143
    simp (decide := true) only [dW_2, dW_3, mW_at, xwi_d2, xwi_d3, xwi_m, List.set, List.length, Nat.reduceSub, List.getD_cons_succ, List.getD_cons_zero, xbd_some, xbd_assoc, if_false, if_true, digits_m (Or.inr rfl), nextNumber1_d hw, nextNumber4_d hw, number1_m hm, number4_m hm, sX12_takeOther_j1011]
    exact dp_end (Or.inl ⟨rfl, rfl⟩) hw.2.1 (by omega) (by omega) (by decide) (fun _ h => absurd h (by decide))
  · rw [cbd_1_5, xbd_some]
    unfold sX1_decode_j143
    simp (decide := true) only [dW_2, dW_3, mW_at, xwi_d2, xwi_d3, xwi_m, List.set, List.length, Nat.reduceSub, List.getD_cons_succ, List.getD_cons_zero, xbd_some, xbd_assoc, if_false, if_true, digits_m (Or.inr rfl), nextNumber1_d hw, nextNumber4_d hw, number1_m hm, number4_m hm, sX12_takeOther_j1011]
    exact dp_end (Or.inl ⟨rfl, rfl⟩) hw.2.1 (by omega) (by omega) (by decide) (fun _ h => absurd h (by decide))
  · rw [cbd_1_6, xbd_some]
    unfold sX1_decode_j143
    simp (decide := true) only [dW_2, dW_3, mW_at, xwi_d2, xwi_d3, xwi_m, List.set, List.length, Nat.reduceSub, List.getD_cons_succ, List.getD_cons_zero, xbd_some, xbd_assoc, if_false, if_true, digits_m (Or.inr rfl), nextNumber1_d hw, nextNumber4_d hw, number1_m hm, number4_m hm, sX12_takeOther_j1011]
    exact dp_end (Or.inl ⟨rfl, rfl⟩) hw.2.1 (by omega) (by omega) (by decide) (fun _ h => absurd h (by decide))
  · rw [cbd_1_7, xbd_some]
    unfold sX1_decode_j143
    simp (decide := true) only [dW_2, dW_3, mW_at, xwi_d2, xwi_d3, xwi_m, List.set, List.length, Nat.reduceSub, List.getD_cons_succ, List.getD_cons_zero, xbd_some, xbd_assoc, if_false, if_true, digits_m (Or.inr rfl), nextNumber1_d hw, nextNumber4_d hw, number1_m hm, number4_m hm, sX12_takeOther_j1011]
    exact dp_end (Or.inl ⟨rfl, rfl⟩) hw.2.1 (by omega) (by omega) (by decide) (fun _ h => absurd h (by decide))

theorem db_208 (hw : imgC w B n) (hm : imgM m B n) : DP n p w m (xbd (sX1_chooseHigh 208 1 (dW [50, 0, 208, 0, 4, 4, 0, 0, 0, -1, -1, 0, 0, 0, 0] [nxn n (p + 1), ctn n (p + 1), 1, 0, 0, 0] w)) (fun _ w1 => sX1_decode_j128 (nI p) w1)) (sX12_take_j86 (nI p) 208 1 (mW [x0, x1, 0, x3, x4, 3, 0, 0, -1, -1, x10, x11, 0, x13, nxn n (p + 1), thr n (p + 1) 1] m)) := by
  obtain ⟨q2, md, rg, rm, bs, ix, sc, tm, dp, mem, hF, hC, hO⟩ := operand_pair hw hm (p + 1)
  have h1 := hF.1
  have h2 := hF.2.1
  rw [(show ∀ W, sX1_chooseHigh 208 1 W = some ((), (xwi (xwi (xwi (xwi (xwi (xwi (xwi (xwi W 2 1 (3 : Int32)) 2 4 (1 : Int32)) 2 5 (1 : Int32)) 3 5 (1 : Int32)) 3 6 (3 : Int32)) 2 13 (1 : Int32)) 3 4 (1 : Int32)) 3 5 (1 : Int32))) from fun _ => rfl), (show ∀ M, sX12_take_j86 (nI p) 208 1 M = xbd (sX12_takeOther 208 1 M) (fun _ w1 => sX12_take_j380 (nI p) w1) from fun _ => rfl), xbd_some]
  rw [(show ∀ M, sX12_takeOther 208 1 M = sX12_takeOther_j893 208 1 M from fun _ => rfl)]
  unfold sX1_decode_j128
  simp (decide := true) only [dW_2, dW_3, mW_at, xwi_d2, xwi_d3, xwi_m, List.set, List.length, Nat.reduceSub, List.getD_cons_succ, List.getD_cons_zero, xbd_some, xbd_assoc, sX12_is, if_false, if_true, hC, hO, sX12_takeOther_j893, sX12_takeOther_j920]
  rcases in8_cases hF.2.2.1 with rfl | rfl | rfl | rfl | rfl | rfl | rfl | rfl
  · rw [cbd_3_0, xbd_some]
    unfold sX1_decode_j143
    simp (decide := true) only [dW_2, dW_3, mW_at, xwi_d2, xwi_d3, xwi_m, List.set, List.length, Nat.reduceSub, List.getD_cons_succ, List.getD_cons_zero, xbd_some, xbd_assoc, if_false, if_true, digits_m (Or.inr rfl), nextNumber1_d hw, nextNumber4_d hw, number1_m hm, number4_m hm, sX12_takeOther_j943, sX12_takeOther_j968]
    exact dp_end (Or.inr ⟨rfl, rfl⟩) hw.2.1 (by omega) (by omega) (by decide) (fun _ _ => RD_E hF (List.mem_of_getElem? (i := 33) rfl) (by decide) (by decide) (by decide) _ (mask0_m (by decide) _ _) (RDn_10 (by decide) rfl))
  · rw [cbd_3_1, xbd_some]
    unfold sX1_decode_j143
    simp (decide := true) only [dW_2, dW_3, mW_at, xwi_d2, xwi_d3, xwi_m, List.set, List.length, Nat.reduceSub, List.getD_cons_succ, List.getD_cons_zero, xbd_some, xbd_assoc, if_false, if_true, digits_m (Or.inr rfl), nextNumber1_d hw, nextNumber4_d hw, number1_m hm, number4_m hm, sX12_takeOther_j943, sX12_takeOther_j968]
    exact dp_end (Or.inr ⟨rfl, rfl⟩) hw.2.1 (by omega) (by omega) (by decide) (fun _ _ => RD_E hF (List.mem_of_getElem? (i := 36) rfl) (by decide) (by decide) (by decide) _ (mask0_m (by decide) _ _) (RDn_10 (by decide) rfl))
  · rw [cbd_3_2, xbd_some]
    unfold sX1_decode_j143
    simp (decide := true) only [dW_2, dW_3, mW_at, xwi_d2, xwi_d3, xwi_m, List.set, List.length, Nat.reduceSub, List.getD_cons_succ, List.getD_cons_zero, xbd_some, xbd_assoc, if_false, if_true, digits_m (Or.inr rfl), nextNumber1_d hw, nextNumber4_d hw, number1_m hm, number4_m hm, sX12_takeOther_j943, sX12_takeOther_j968]
    exact dp_end (Or.inr ⟨rfl, rfl⟩) hw.2.1 (by omega) (by omega) (by decide) (fun _ _ => RD_E hF (List.mem_of_getElem? (i := 39) rfl) (by decide) (by decide) (by decide) _ (mask0_m (by decide) _ _) (RDn_10 (by decide) rfl))
  · rw [cbd_3_3, xbd_some]
    unfold sX1_decode_j143
    simp (decide := true) only [dW_2, dW_3, mW_at, xwi_d2, xwi_d3, xwi_m, List.set, List.length, Nat.reduceSub, List.getD_cons_succ, List.getD_cons_zero, xbd_some, xbd_assoc, if_false, if_true, digits_m (Or.inr rfl), nextNumber1_d hw, nextNumber4_d hw, number1_m hm, number4_m hm, sX12_takeOther_j943, sX12_takeOther_j968]
    exact dp_end (Or.inr ⟨rfl, rfl⟩) hw.2.1 (by omega) (by omega) (by decide) (fun _ _ => RD_E hF (List.mem_of_getElem? (i := 42) rfl) (by decide) (by decide) (by decide) _ (mask0_m (by decide) _ _) (RDn_10 (by decide) rfl))
  · rw [cbd_3_4, xbd_some]
    unfold sX1_decode_j143
    simp (decide := true) only [dW_2, dW_3, mW_at, xwi_d2, xwi_d3, xwi_m, List.set, List.length, Nat.reduceSub, List.getD_cons_succ, List.getD_cons_zero, xbd_some, xbd_assoc, if_false, if_true, digits_m (Or.inr rfl), nextNumber1_d hw, nextNumber4_d hw, number1_m hm, number4_m hm, sX12_takeOther_j943, sX12_takeOther_j968]
    exact dp_end (Or.inr ⟨rfl, rfl⟩) hw.2.1 (by omega) (by omega) (by decide) (fun _ _ => RD_E hF (List.mem_of_getElem? (i := 45) rfl) (by decide) (by decide) (by decide) _ (mask0_m (by decide) _ _) (RDn_10 (by decide) rfl))
  · rw [cbd_3_5, xbd_some]
    unfold sX1_decode_j143
    simp (decide := true) only [dW_2, dW_3, mW_at, xwi_d2, xwi_d3, xwi_m, List.set, List.length, Nat.reduceSub, List.getD_cons_succ, List.getD_cons_zero, xbd_some, xbd_assoc, if_false, if_true, digits_m (Or.inr rfl), nextNumber1_d hw, nextNumber4_d hw, number1_m hm, number4_m hm, sX12_takeOther_j943, sX12_takeOther_j968]
    exact dp_end (Or.inr ⟨rfl, rfl⟩) hw.2.1 (by omega) (by omega) (by decide) (fun _ _ => RD_E hF (List.mem_of_getElem? (i := 48) rfl) (by decide) (by decide) (by decide) _ (mask0_m (by decide) _ _) (RDn_10 (by decide) rfl))
  · rw [cbd_3_6, xbd_some]
    unfold sX1_decode_j143
    simp (decide := true) only [dW_2, dW_3, mW_at, xwi_d2, xwi_d3, xwi_m, List.set, List.length, Nat.reduceSub, List.getD_cons_succ, List.getD_cons_zero, xbd_some, xbd_assoc, if_false, if_true, digits_m (Or.inr rfl), nextNumber1_d hw, nextNumber4_d hw, number1_m hm, number4_m hm, sX12_takeOther_j943, sX12_takeOther_j968]
    exact dp_end (Or.inl ⟨rfl, rfl⟩) hw.2.1 (by omega) (by omega) (by decide) (fun _ h => absurd h (by decide))
  · rw [cbd_3_7, xbd_some]
    unfold sX1_decode_j143
    simp (decide := true) only [dW_2, dW_3, mW_at, xwi_d2, xwi_d3, xwi_m, List.set, List.length, Nat.reduceSub, List.getD_cons_succ, List.getD_cons_zero, xbd_some, xbd_assoc, if_false, if_true, digits_m (Or.inr rfl), nextNumber1_d hw, nextNumber4_d hw, number1_m hm, number4_m hm, sX12_takeOther_j943, sX12_takeOther_j968]
    exact dp_end (Or.inr ⟨rfl, rfl⟩) hw.2.1 (by omega) (by omega) (by decide) (fun _ _ => RD_E hF (List.mem_of_getElem? (i := 51) rfl) (by decide) (by decide) (by decide) _ (mask0_m (by decide) _ _) (RDn_10 (by decide) rfl))

theorem db_209 (hw : imgC w B n) (hm : imgM m B n) : DP n p w m (xbd (sX1_chooseHigh 209 4 (dW [50, 0, 209, 0, 4, 4, 0, 0, 0, -1, -1, 0, 0, 0, 0] [nxn n (p + 1), ctn n (p + 1), 1, 0, 0, 0] w)) (fun _ w1 => sX1_decode_j128 (nI p) w1)) (sX12_take_j86 (nI p) 209 4 (mW [x0, x1, 0, x3, x4, 3, 0, 0, -1, -1, x10, x11, 0, x13, nxn n (p + 1), thr n (p + 1) 1] m)) := by
  obtain ⟨q2, md, rg, rm, bs, ix, sc, tm, dp, mem, hF, hC, hO⟩ := operand_pair hw hm (p + 1)
  have h1 := hF.1
  have h2 := hF.2.1
  rw [(show ∀ W, sX1_chooseHigh 209 4 W = some ((), (xwi (xwi (xwi (xwi (xwi (xwi (xwi (xwi W 2 1 (3 : Int32)) 2 4 (4 : Int32)) 2 5 (4 : Int32)) 3 5 (1 : Int32)) 3 6 (3 : Int32)) 2 13 (1 : Int32)) 3 4 (1 : Int32)) 3 5 (1 : Int32))) from fun _ => rfl), (show ∀ M, sX12_take_j86 (nI p) 209 4 M = xbd (sX12_takeOther 209 4 M) (fun _ w1 => sX12_take_j380 (nI p) w1) from fun _ => rfl), xbd_some]
  rw [(show ∀ M, sX12_takeOther 209 4 M = sX12_takeOther_j893 209 4 M from fun _ => rfl)]
  unfold sX1_decode_j128
  simp (decide := true) only [dW_2, dW_3, mW_at, xwi_d2, xwi_d3, xwi_m, List.set, List.length, Nat.reduceSub, List.getD_cons_succ, List.getD_cons_zero, xbd_some, xbd_assoc, sX12_is, if_false, if_true, hC, hO, sX12_takeOther_j893, sX12_takeOther_j920]
  rcases in8_cases hF.2.2.1 with rfl | rfl | rfl | rfl | rfl | rfl | rfl | rfl
  · rw [cbd_3_0, xbd_some]
    unfold sX1_decode_j143
    simp (decide := true) only [dW_2, dW_3, mW_at, xwi_d2, xwi_d3, xwi_m, List.set, List.length, Nat.reduceSub, List.getD_cons_succ, List.getD_cons_zero, xbd_some, xbd_assoc, if_false, if_true, digits_m (Or.inr rfl), nextNumber1_d hw, nextNumber4_d hw, number1_m hm, number4_m hm, sX12_takeOther_j943, sX12_takeOther_j968]
    exact dp_end (Or.inr ⟨rfl, rfl⟩) hw.2.1 (by omega) (by omega) (by decide) (fun _ _ => RD_E hF (List.mem_of_getElem? (i := 33) rfl) (by decide) (by decide) (by decide) _ (mask0_m (by decide) _ _) (RDn_10 (by decide) rfl))
  · rw [cbd_3_1, xbd_some]
    unfold sX1_decode_j143
    simp (decide := true) only [dW_2, dW_3, mW_at, xwi_d2, xwi_d3, xwi_m, List.set, List.length, Nat.reduceSub, List.getD_cons_succ, List.getD_cons_zero, xbd_some, xbd_assoc, if_false, if_true, digits_m (Or.inr rfl), nextNumber1_d hw, nextNumber4_d hw, number1_m hm, number4_m hm, sX12_takeOther_j943, sX12_takeOther_j968]
    exact dp_end (Or.inr ⟨rfl, rfl⟩) hw.2.1 (by omega) (by omega) (by decide) (fun _ _ => RD_E hF (List.mem_of_getElem? (i := 36) rfl) (by decide) (by decide) (by decide) _ (mask0_m (by decide) _ _) (RDn_10 (by decide) rfl))
  · rw [cbd_3_2, xbd_some]
    unfold sX1_decode_j143
    simp (decide := true) only [dW_2, dW_3, mW_at, xwi_d2, xwi_d3, xwi_m, List.set, List.length, Nat.reduceSub, List.getD_cons_succ, List.getD_cons_zero, xbd_some, xbd_assoc, if_false, if_true, digits_m (Or.inr rfl), nextNumber1_d hw, nextNumber4_d hw, number1_m hm, number4_m hm, sX12_takeOther_j943, sX12_takeOther_j968]
    exact dp_end (Or.inr ⟨rfl, rfl⟩) hw.2.1 (by omega) (by omega) (by decide) (fun _ _ => RD_E hF (List.mem_of_getElem? (i := 39) rfl) (by decide) (by decide) (by decide) _ (mask0_m (by decide) _ _) (RDn_10 (by decide) rfl))
  · rw [cbd_3_3, xbd_some]
    unfold sX1_decode_j143
    simp (decide := true) only [dW_2, dW_3, mW_at, xwi_d2, xwi_d3, xwi_m, List.set, List.length, Nat.reduceSub, List.getD_cons_succ, List.getD_cons_zero, xbd_some, xbd_assoc, if_false, if_true, digits_m (Or.inr rfl), nextNumber1_d hw, nextNumber4_d hw, number1_m hm, number4_m hm, sX12_takeOther_j943, sX12_takeOther_j968]
    exact dp_end (Or.inr ⟨rfl, rfl⟩) hw.2.1 (by omega) (by omega) (by decide) (fun _ _ => RD_E hF (List.mem_of_getElem? (i := 42) rfl) (by decide) (by decide) (by decide) _ (mask0_m (by decide) _ _) (RDn_10 (by decide) rfl))
  · rw [cbd_3_4, xbd_some]
    unfold sX1_decode_j143
    simp (decide := true) only [dW_2, dW_3, mW_at, xwi_d2, xwi_d3, xwi_m, List.set, List.length, Nat.reduceSub, List.getD_cons_succ, List.getD_cons_zero, xbd_some, xbd_assoc, if_false, if_true, digits_m (Or.inr rfl), nextNumber1_d hw, nextNumber4_d hw, number1_m hm, number4_m hm, sX12_takeOther_j943, sX12_takeOther_j968]
    exact dp_end (Or.inr ⟨rfl, rfl⟩) hw.2.1 (by omega) (by omega) (by decide) (fun _ _ => RD_E hF (List.mem_of_getElem? (i := 45) rfl) (by decide) (by decide) (by decide) _ (mask0_m (by decide) _ _) (RDn_10 (by decide) rfl))
  · rw [cbd_3_5, xbd_some]
    unfold sX1_decode_j143
    simp (decide := true) only [dW_2, dW_3, mW_at, xwi_d2, xwi_d3, xwi_m, List.set, List.length, Nat.reduceSub, List.getD_cons_succ, List.getD_cons_zero, xbd_some, xbd_assoc, if_false, if_true, digits_m (Or.inr rfl), nextNumber1_d hw, nextNumber4_d hw, number1_m hm, number4_m hm, sX12_takeOther_j943, sX12_takeOther_j968]
    exact dp_end (Or.inr ⟨rfl, rfl⟩) hw.2.1 (by omega) (by omega) (by decide) (fun _ _ => RD_E hF (List.mem_of_getElem? (i := 48) rfl) (by decide) (by decide) (by decide) _ (mask0_m (by decide) _ _) (RDn_10 (by decide) rfl))
  · rw [cbd_3_6, xbd_some]
    unfold sX1_decode_j143
    simp (decide := true) only [dW_2, dW_3, mW_at, xwi_d2, xwi_d3, xwi_m, List.set, List.length, Nat.reduceSub, List.getD_cons_succ, List.getD_cons_zero, xbd_some, xbd_assoc, if_false, if_true, digits_m (Or.inr rfl), nextNumber1_d hw, nextNumber4_d hw, number1_m hm, number4_m hm, sX12_takeOther_j943, sX12_takeOther_j968]
    exact dp_end (Or.inl ⟨rfl, rfl⟩) hw.2.1 (by omega) (by omega) (by decide) (fun _ h => absurd h (by decide))
  · rw [cbd_3_7, xbd_some]
    unfold sX1_decode_j143
    simp (decide := true) only [dW_2, dW_3, mW_at, xwi_d2, xwi_d3, xwi_m, List.set, List.length, Nat.reduceSub, List.getD_cons_succ, List.getD_cons_zero, xbd_some, xbd_assoc, if_false, if_true, digits_m (Or.inr rfl), nextNumber1_d hw, nextNumber4_d hw, number1_m hm, number4_m hm, sX12_takeOther_j943, sX12_takeOther_j968]
    exact dp_end (Or.inr ⟨rfl, rfl⟩) hw.2.1 (by omega) (by omega) (by decide) (fun _ _ => RD_E hF (List.mem_of_getElem? (i := 51) rfl) (by decide) (by decide) (by decide) _ (mask0_m (by decide) _ _) (RDn_10 (by decide) rfl))

theorem db_210 (hw : imgC w B n) (hm : imgM m B n) : DP n p w m (xbd (sX1_chooseHigh 210 1 (dW [50, 0, 210, 0, 4, 4, 0, 0, 0, -1, -1, 0, 0, 0, 0] [nxn n (p + 1), ctn n (p + 1), 1, 0, 0, 0] w)) (fun _ w1 => sX1_decode_j128 (nI p) w1)) (sX12_take_j86 (nI p) 210 1 (mW [x0, x1, 0, x3, x4, 3, 0, 0, -1, -1, x10, x11, 0, x13, nxn n (p + 1), thr n (p + 1) 1] m)) := by
  obtain ⟨q2, md, rg, rm, bs, ix, sc, tm, dp, mem, hF, hC, hO⟩ := operand_pair hw hm (p + 1)
  have h1 := hF.1
  have h2 := hF.2.1
  rw [(show ∀ W, sX1_chooseHigh 210 1 W = some ((), (xwi (xwi (xwi (xwi (xwi (xwi (xwi (xwi W 2 1 (4 : Int32)) 2 4 (1 : Int32)) 2 5 (1 : Int32)) 3 5 (1 : Int32)) 3 6 (3 : Int32)) 2 13 (1 : Int32)) 3 4 (1 : Int32)) 3 5 (1 : Int32))) from fun _ => rfl), (show ∀ M, sX12_take_j86 (nI p) 210 1 M = xbd (sX12_takeOther 210 1 M) (fun _ w1 => sX12_take_j380 (nI p) w1) from fun _ => rfl), xbd_some]
  rw [(show ∀ M, sX12_takeOther 210 1 M = sX12_takeOther_j893 210 1 M from fun _ => rfl)]
  unfold sX1_decode_j128
  simp (decide := true) only [dW_2, dW_3, mW_at, xwi_d2, xwi_d3, xwi_m, List.set, List.length, Nat.reduceSub, List.getD_cons_succ, List.getD_cons_zero, xbd_some, xbd_assoc, sX12_is, if_false, if_true, hC, hO, sX12_takeOther_j893, sX12_takeOther_j920]
  rcases in8_cases hF.2.2.1 with rfl | rfl | rfl | rfl | rfl | rfl | rfl | rfl
  · rw [cbd_3_0, xbd_some]
    unfold sX1_decode_j143
    simp (decide := true) only [dW_2, dW_3, mW_at, xwi_d2, xwi_d3, xwi_m, List.set, List.length, Nat.reduceSub, List.getD_cons_succ, List.getD_cons_zero, xbd_some, xbd_assoc, if_false, if_true, digits_m (Or.inr rfl), nextNumber1_d hw, nextNumber4_d hw, number1_m hm, number4_m hm, sX12_takeOther_j943, sX12_takeOther_j968]
    exact dp_end (Or.inr ⟨rfl, rfl⟩) hw.2.1 (by omega) (by omega) (by decide) (fun _ _ => RD_E hF (List.mem_of_getElem? (i := 34) rfl) (by decide) (by decide) (by decide) _ (mask0_m (by decide) _ _) (RDn_no (by decide)))
  · rw [cbd_3_1, xbd_some]
    unfold sX1_decode_j143
    simp (decide := true) only [dW_2, dW_3, mW_at, xwi_d2, xwi_d3, xwi_m, List.set, List.length, Nat.reduceSub, List.getD_cons_succ, List.getD_cons_zero, xbd_some, xbd_assoc, if_false, if_true, digits_m (Or.inr rfl), nextNumber1_d hw, nextNumber4_d hw, number1_m hm, number4_m hm, sX12_takeOther_j943, sX12_takeOther_j968]
    exact dp_end (Or.inr ⟨rfl, rfl⟩) hw.2.1 (by omega) (by omega) (by decide) (fun _ _ => RD_E hF (List.mem_of_getElem? (i := 37) rfl) (by decide) (by decide) (by decide) _ (mask0_m (by decide) _ _) (RDn_no (by decide)))
  · rw [cbd_3_2, xbd_some]
    unfold sX1_decode_j143
    simp (decide := true) only [dW_2, dW_3, mW_at, xwi_d2, xwi_d3, xwi_m, List.set, List.length, Nat.reduceSub, List.getD_cons_succ, List.getD_cons_zero, xbd_some, xbd_assoc, if_false, if_true, digits_m (Or.inr rfl), nextNumber1_d hw, nextNumber4_d hw, number1_m hm, number4_m hm, sX12_takeOther_j943, sX12_takeOther_j968]
    exact dp_end (Or.inr ⟨rfl, rfl⟩) hw.2.1 (by omega) (by omega) (by decide) (fun _ _ => RD_E hF (List.mem_of_getElem? (i := 40) rfl) (by decide) (by decide) (by decide) _ (mask0_m (by decide) _ _) (RDn_no (by decide)))
  · rw [cbd_3_3, xbd_some]
    unfold sX1_decode_j143
    simp (decide := true) only [dW_2, dW_3, mW_at, xwi_d2, xwi_d3, xwi_m, List.set, List.length, Nat.reduceSub, List.getD_cons_succ, List.getD_cons_zero, xbd_some, xbd_assoc, if_false, if_true, digits_m (Or.inr rfl), nextNumber1_d hw, nextNumber4_d hw, number1_m hm, number4_m hm, sX12_takeOther_j943, sX12_takeOther_j968]
    exact dp_end (Or.inr ⟨rfl, rfl⟩) hw.2.1 (by omega) (by omega) (by decide) (fun _ _ => RD_E hF (List.mem_of_getElem? (i := 43) rfl) (by decide) (by decide) (by decide) _ (mask0_m (by decide) _ _) (RDn_no (by decide)))
  · rw [cbd_3_4, xbd_some]
    unfold sX1_decode_j143
    simp (decide := true) only [dW_2, dW_3, mW_at, xwi_d2, xwi_d3, xwi_m, List.set, List.length, Nat.reduceSub, List.getD_cons_succ, List.getD_cons_zero, xbd_some, xbd_assoc, if_false, if_true, digits_m (Or.inr rfl), nextNumber1_d hw, nextNumber4_d hw, number1_m hm, number4_m hm, sX12_takeOther_j943, sX12_takeOther_j968]
    exact dp_end (Or.inr ⟨rfl, rfl⟩) hw.2.1 (by omega) (by omega) (by decide) (fun _ _ => RD_E hF (List.mem_of_getElem? (i := 46) rfl) (by decide) (by decide) (by decide) _ (mask0_m (by decide) _ _) (RDn_no (by decide)))
  · rw [cbd_3_5, xbd_some]
    unfold sX1_decode_j143
    simp (decide := true) only [dW_2, dW_3, mW_at, xwi_d2, xwi_d3, xwi_m, List.set, List.length, Nat.reduceSub, List.getD_cons_succ, List.getD_cons_zero, xbd_some, xbd_assoc, if_false, if_true, digits_m (Or.inr rfl), nextNumber1_d hw, nextNumber4_d hw, number1_m hm, number4_m hm, sX12_takeOther_j943, sX12_takeOther_j968]
    exact dp_end (Or.inr ⟨rfl, rfl⟩) hw.2.1 (by omega) (by omega) (by decide) (fun _ _ => RD_E hF (List.mem_of_getElem? (i := 49) rfl) (by decide) (by decide) (by decide) _ (mask0_m (by decide) _ _) (RDn_no (by decide)))
  · rw [cbd_3_6, xbd_some]
    unfold sX1_decode_j143
    simp (decide := true) only [dW_2, dW_3, mW_at, xwi_d2, xwi_d3, xwi_m, List.set, List.length, Nat.reduceSub, List.getD_cons_succ, List.getD_cons_zero, xbd_some, xbd_assoc, if_false, if_true, digits_m (Or.inr rfl), nextNumber1_d hw, nextNumber4_d hw, number1_m hm, number4_m hm, sX12_takeOther_j943, sX12_takeOther_j968]
    exact dp_end (Or.inl ⟨rfl, rfl⟩) hw.2.1 (by omega) (by omega) (by decide) (fun _ h => absurd h (by decide))
  · rw [cbd_3_7, xbd_some]
    unfold sX1_decode_j143
    simp (decide := true) only [dW_2, dW_3, mW_at, xwi_d2, xwi_d3, xwi_m, List.set, List.length, Nat.reduceSub, List.getD_cons_succ, List.getD_cons_zero, xbd_some, xbd_assoc, if_false, if_true, digits_m (Or.inr rfl), nextNumber1_d hw, nextNumber4_d hw, number1_m hm, number4_m hm, sX12_takeOther_j943, sX12_takeOther_j968]
    exact dp_end (Or.inr ⟨rfl, rfl⟩) hw.2.1 (by omega) (by omega) (by decide) (fun _ _ => RD_E hF (List.mem_of_getElem? (i := 52) rfl) (by decide) (by decide) (by decide) _ (mask0_m (by decide) _ _) (RDn_no (by decide)))

theorem db_211 (hw : imgC w B n) (hm : imgM m B n) : DP n p w m (xbd (sX1_chooseHigh 211 4 (dW [50, 0, 211, 0, 4, 4, 0, 0, 0, -1, -1, 0, 0, 0, 0] [nxn n (p + 1), ctn n (p + 1), 1, 0, 0, 0] w)) (fun _ w1 => sX1_decode_j128 (nI p) w1)) (sX12_take_j86 (nI p) 211 4 (mW [x0, x1, 0, x3, x4, 3, 0, 0, -1, -1, x10, x11, 0, x13, nxn n (p + 1), thr n (p + 1) 1] m)) := by
  obtain ⟨q2, md, rg, rm, bs, ix, sc, tm, dp, mem, hF, hC, hO⟩ := operand_pair hw hm (p + 1)
  have h1 := hF.1
  have h2 := hF.2.1
  rw [(show ∀ W, sX1_chooseHigh 211 4 W = some ((), (xwi (xwi (xwi (xwi (xwi (xwi (xwi (xwi W 2 1 (4 : Int32)) 2 4 (4 : Int32)) 2 5 (4 : Int32)) 3 5 (1 : Int32)) 3 6 (3 : Int32)) 2 13 (1 : Int32)) 3 4 (1 : Int32)) 3 5 (1 : Int32))) from fun _ => rfl), (show ∀ M, sX12_take_j86 (nI p) 211 4 M = xbd (sX12_takeOther 211 4 M) (fun _ w1 => sX12_take_j380 (nI p) w1) from fun _ => rfl), xbd_some]
  rw [(show ∀ M, sX12_takeOther 211 4 M = sX12_takeOther_j893 211 4 M from fun _ => rfl)]
  unfold sX1_decode_j128
  simp (decide := true) only [dW_2, dW_3, mW_at, xwi_d2, xwi_d3, xwi_m, List.set, List.length, Nat.reduceSub, List.getD_cons_succ, List.getD_cons_zero, xbd_some, xbd_assoc, sX12_is, if_false, if_true, hC, hO, sX12_takeOther_j893, sX12_takeOther_j920]
  rcases in8_cases hF.2.2.1 with rfl | rfl | rfl | rfl | rfl | rfl | rfl | rfl
  · rw [cbd_3_0, xbd_some]
    unfold sX1_decode_j143
    simp (decide := true) only [dW_2, dW_3, mW_at, xwi_d2, xwi_d3, xwi_m, List.set, List.length, Nat.reduceSub, List.getD_cons_succ, List.getD_cons_zero, xbd_some, xbd_assoc, if_false, if_true, digits_m (Or.inr rfl), nextNumber1_d hw, nextNumber4_d hw, number1_m hm, number4_m hm, sX12_takeOther_j943, sX12_takeOther_j968]
    exact dp_end (Or.inr ⟨rfl, rfl⟩) hw.2.1 (by omega) (by omega) (by decide) (fun _ _ => RD_E hF (List.mem_of_getElem? (i := 34) rfl) (by decide) (by decide) (by decide) _ (mask0_m (by decide) _ _) (RDn_no (by decide)))
  · rw [cbd_3_1, xbd_some]
    unfold sX1_decode_j143
    simp (decide := true) only [dW_2, dW_3, mW_at, xwi_d2, xwi_d3, xwi_m, List.set, List.length, Nat.reduceSub, List.getD_cons_succ, List.getD_cons_zero, xbd_some, xbd_assoc, if_false, if_true, digits_m (Or.inr rfl), nextNumber1_d hw, nextNumber4_d hw, number1_m hm, number4_m hm, sX12_takeOther_j943, sX12_takeOther_j968]
    exact dp_end (Or.inr ⟨rfl, rfl⟩) hw.2.1 (by omega) (by omega) (by decide) (fun _ _ => RD_E hF (List.mem_of_getElem? (i := 37) rfl) (by decide) (by decide) (by decide) _ (mask0_m (by decide) _ _) (RDn_no (by decide)))
  · rw [cbd_3_2, xbd_some]
    unfold sX1_decode_j143
    simp (decide := true) only [dW_2, dW_3, mW_at, xwi_d2, xwi_d3, xwi_m, List.set, List.length, Nat.reduceSub, List.getD_cons_succ, List.getD_cons_zero, xbd_some, xbd_assoc, if_false, if_true, digits_m (Or.inr rfl), nextNumber1_d hw, nextNumber4_d hw, number1_m hm, number4_m hm, sX12_takeOther_j943, sX12_takeOther_j968]
    exact dp_end (Or.inr ⟨rfl, rfl⟩) hw.2.1 (by omega) (by omega) (by decide) (fun _ _ => RD_E hF (List.mem_of_getElem? (i := 40) rfl) (by decide) (by decide) (by decide) _ (mask0_m (by decide) _ _) (RDn_no (by decide)))
  · rw [cbd_3_3, xbd_some]
    unfold sX1_decode_j143
    simp (decide := true) only [dW_2, dW_3, mW_at, xwi_d2, xwi_d3, xwi_m, List.set, List.length, Nat.reduceSub, List.getD_cons_succ, List.getD_cons_zero, xbd_some, xbd_assoc, if_false, if_true, digits_m (Or.inr rfl), nextNumber1_d hw, nextNumber4_d hw, number1_m hm, number4_m hm, sX12_takeOther_j943, sX12_takeOther_j968]
    exact dp_end (Or.inr ⟨rfl, rfl⟩) hw.2.1 (by omega) (by omega) (by decide) (fun _ _ => RD_E hF (List.mem_of_getElem? (i := 43) rfl) (by decide) (by decide) (by decide) _ (mask0_m (by decide) _ _) (RDn_no (by decide)))
  · rw [cbd_3_4, xbd_some]
    unfold sX1_decode_j143
    simp (decide := true) only [dW_2, dW_3, mW_at, xwi_d2, xwi_d3, xwi_m, List.set, List.length, Nat.reduceSub, List.getD_cons_succ, List.getD_cons_zero, xbd_some, xbd_assoc, if_false, if_true, digits_m (Or.inr rfl), nextNumber1_d hw, nextNumber4_d hw, number1_m hm, number4_m hm, sX12_takeOther_j943, sX12_takeOther_j968]
    exact dp_end (Or.inr ⟨rfl, rfl⟩) hw.2.1 (by omega) (by omega) (by decide) (fun _ _ => RD_E hF (List.mem_of_getElem? (i := 46) rfl) (by decide) (by decide) (by decide) _ (mask0_m (by decide) _ _) (RDn_no (by decide)))
  · rw [cbd_3_5, xbd_some]
    unfold sX1_decode_j143
    simp (decide := true) only [dW_2, dW_3, mW_at, xwi_d2, xwi_d3, xwi_m, List.set, List.length, Nat.reduceSub, List.getD_cons_succ, List.getD_cons_zero, xbd_some, xbd_assoc, if_false, if_true, digits_m (Or.inr rfl), nextNumber1_d hw, nextNumber4_d hw, number1_m hm, number4_m hm, sX12_takeOther_j943, sX12_takeOther_j968]
    exact dp_end (Or.inr ⟨rfl, rfl⟩) hw.2.1 (by omega) (by omega) (by decide) (fun _ _ => RD_E hF (List.mem_of_getElem? (i := 49) rfl) (by decide) (by decide) (by decide) _ (mask0_m (by decide) _ _) (RDn_no (by decide)))
  · rw [cbd_3_6, xbd_some]
    unfold sX1_decode_j143
    simp (decide := true) only [dW_2, dW_3, mW_at, xwi_d2, xwi_d3, xwi_m, List.set, List.length, Nat.reduceSub, List.getD_cons_succ, List.getD_cons_zero, xbd_some, xbd_assoc, if_false, if_true, digits_m (Or.inr rfl), nextNumber1_d hw, nextNumber4_d hw, number1_m hm, number4_m hm, sX12_takeOther_j943, sX12_takeOther_j968]
    exact dp_end (Or.inl ⟨rfl, rfl⟩) hw.2.1 (by omega) (by omega) (by decide) (fun _ h => absurd h (by decide))
  · rw [cbd_3_7, xbd_some]
    unfold sX1_decode_j143
    simp (decide := true) only [dW_2, dW_3, mW_at, xwi_d2, xwi_d3, xwi_m, List.set, List.length, Nat.reduceSub, List.getD_cons_succ, List.getD_cons_zero, xbd_some, xbd_assoc, if_false, if_true, digits_m (Or.inr rfl), nextNumber1_d hw, nextNumber4_d hw, number1_m hm, number4_m hm, sX12_takeOther_j943, sX12_takeOther_j968]
    exact dp_end (Or.inr ⟨rfl, rfl⟩) hw.2.1 (by omega) (by omega) (by decide) (fun _ _ => RD_E hF (List.mem_of_getElem? (i := 52) rfl) (by decide) (by decide) (by decide) _ (mask0_m (by decide) _ _) (RDn_no (by decide)))

theorem db_246 (hw : imgC w B n) (hm : imgM m B n) : DP n p w m (xbd (sX1_chooseHigh 246 1 (dW [50, 0, 246, 0, 4, 4, 0, 0, 0, -1, -1, 0, 0, 0, 0] [nxn n (p + 1), ctn n (p + 1), 1, 0, 0, 0] w)) (fun _ w1 => sX1_decode_j128 (nI p) w1)) (sX12_take_j86 (nI p) 246 1 (mW [x0, x1, 0, x3, x4, 3, 0, 0, -1, -1, x10, x11, 0, x13, nxn n (p + 1), thr n (p + 1) 1] m)) := by
  obtain ⟨q2, md, rg, rm, bs, ix, sc, tm, dp, mem, hF, hC, hO⟩ := operand_pair hw hm (p + 1)
  have h1 := hF.1
  have h2 := hF.2.1
  rw [(show ∀ W, sX1_chooseHigh 246 1 W = some ((), (xwi (xwi (xwi (xwi (xwi W 2 1 (5 : Int32)) 2 4 (1 : Int32)) 2 5 (1 : Int32)) 3 5 (1 : Int32)) 3 6 (4 : Int32))) from fun _ => rfl), (show ∀ M, sX12_take_j86 (nI p) 246 1 M = xbd (sX12_takeOther 246 1 M) (fun _ w1 => sX12_take_j380 (nI p) w1) from fun _ => rfl), xbd_some]
  rw [(show ∀ M, sX12_takeOther 246 1 M = sX12_takeOther_j1138 1 M from fun _ => rfl)]
  unfold sX1_decode_j128
  simp (decide := true) only [dW_2, dW_3, mW_at, xwi_d2, xwi_d3, xwi_m, List.set, List.length, Nat.reduceSub, List.getD_cons_succ, List.getD_cons_zero, xbd_some, xbd_assoc, sX12_is, if_false, if_true, hC, hO, sX12_takeOther_j1138]
  rcases in8_cases hF.2.2.1 with rfl | rfl | rfl | rfl | rfl | rfl | rfl | rfl
  · rw [cbd_4_0_1, xbd_some]
    unfold sX1_decode_j143
    simp (decide := true) only [dW_2, dW_3, mW_at, xwi_d2, xwi_d3, xwi_m, List.set, List.length, Nat.reduceSub, List.getD_cons_succ, List.getD_cons_zero, xbd_some, xbd_assoc, if_false, if_true, digits_m (Or.inr rfl), nextNumber1_d hw, nextNumber4_d hw, number1_m hm, number4_m hm, sX12_takeOther_j1163, sX12_takeOther_j1188]
    exact dp_end (Or.inr ⟨rfl, rfl⟩) hw.2.1 (by omega) (by omega) (by decide) (fun _ _ => RD_E hF (List.mem_of_getElem? (i := 55) rfl) (by decide) (by decide) (by decide) _ (mask0_m (by decide) _ _) (RDn_eq (by decide) rfl))
  · rw [cbd_4_1_1, xbd_some]
    unfold sX1_decode_j143
    simp (decide := true) only [dW_2, dW_3, mW_at, xwi_d2, xwi_d3, xwi_m, List.set, List.length, Nat.reduceSub, List.getD_cons_succ, List.getD_cons_zero, xbd_some, xbd_assoc, if_false, if_true, digits_m (Or.inr rfl), nextNumber1_d hw, nextNumber4_d hw, number1_m hm, number4_m hm, sX12_takeOther_j1163, sX12_takeOther_j1188]
    exact dp_end (Or.inl ⟨rfl, rfl⟩) hw.2.1 (by omega) (by omega) (by decide) (fun _ h => absurd h (by decide))
  · rw [cbd_4_2_1, xbd_some]
    unfold sX1_decode_j143
    simp (decide := true) only [dW_2, dW_3, mW_at, xwi_d2, xwi_d3, xwi_m, List.set, List.length, Nat.reduceSub, List.getD_cons_succ, List.getD_cons_zero, xbd_some, xbd_assoc, if_false, if_true, digits_m (Or.inr rfl), nextNumber1_d hw, nextNumber4_d hw, number1_m hm, number4_m hm, sX12_takeOther_j1163, sX12_takeOther_j1188]
    exact dp_end (Or.inr ⟨rfl, rfl⟩) hw.2.1 (by omega) (by omega) (by decide) (fun _ _ => RD_E hF (List.mem_of_getElem? (i := 61) rfl) (by decide) (by decide) (by decide) _ (mask0_m (by decide) _ _) (RDn_no (by decide)))
  · rw [cbd_4_3_1, xbd_some]
    unfold sX1_decode_j143
    simp (decide := true) only [dW_2, dW_3, mW_at, xwi_d2, xwi_d3, xwi_m, List.set, List.length, Nat.reduceSub, List.getD_cons_succ, List.getD_cons_zero, xbd_some, xbd_assoc, if_false, if_true, digits_m (Or.inr rfl), nextNumber1_d hw, nextNumber4_d hw, number1_m hm, number4_m hm, sX12_takeOther_j1163, sX12_takeOther_j1188]
    exact dp_end (Or.inr ⟨rfl, rfl⟩) hw.2.1 (by omega) (by omega) (by decide) (fun _ _ => RD_E hF (List.mem_of_getElem? (i := 60) rfl) (by decide) (by decide) (by decide) _ (mask0_m (by decide) _ _) (RDn_no (by decide)))
  · rw [cbd_4_4_1, xbd_some]
    unfold sX1_decode_j143
    simp (decide := true) only [dW_2, dW_3, mW_at, xwi_d2, xwi_d3, xwi_m, List.set, List.length, Nat.reduceSub, List.getD_cons_succ, List.getD_cons_zero, xbd_some, xbd_assoc, if_false, if_true, digits_m (Or.inr rfl), nextNumber1_d hw, nextNumber4_d hw, number1_m hm, number4_m hm, sX12_takeOther_j1163, sX12_takeOther_j1188]
    exact dp_end (Or.inr ⟨rfl, rfl⟩) hw.2.1 (by omega) (by omega) (by decide) (fun _ _ => RD_E hF (List.mem_of_getElem? (i := 64) rfl) (by decide) (by decide) (by decide) _ (mask0_m (by decide) _ _) (RDn_no (by decide)))
  · rw [cbd_4_5_1, xbd_some]
    unfold sX1_decode_j143
    simp (decide := true) only [dW_2, dW_3, mW_at, xwi_d2, xwi_d3, xwi_m, List.set, List.length, Nat.reduceSub, List.getD_cons_succ, List.getD_cons_zero, xbd_some, xbd_assoc, if_false, if_true, digits_m (Or.inr rfl), nextNumber1_d hw, nextNumber4_d hw, number1_m hm, number4_m hm, sX12_takeOther_j1163, sX12_takeOther_j1188]
    exact dp_end (Or.inr ⟨rfl, rfl⟩) hw.2.1 (by omega) (by omega) (by decide) (fun _ _ => RD_E hF (List.mem_of_getElem? (i := 65) rfl) (by decide) (by decide) (by decide) _ (mask0_m (by decide) _ _) (RDn_no (by decide)))
  · rw [cbd_4_6_1, xbd_some]
    unfold sX1_decode_j143
    simp (decide := true) only [dW_2, dW_3, mW_at, xwi_d2, xwi_d3, xwi_m, List.set, List.length, Nat.reduceSub, List.getD_cons_succ, List.getD_cons_zero, xbd_some, xbd_assoc, if_false, if_true, digits_m (Or.inr rfl), nextNumber1_d hw, nextNumber4_d hw, number1_m hm, number4_m hm, sX12_takeOther_j1163, sX12_takeOther_j1188]
    exact dp_end (Or.inr ⟨rfl, rfl⟩) hw.2.1 (by omega) (by omega) (by decide) (fun _ _ => RD_E hF (List.mem_of_getElem? (i := 68) rfl) (by decide) (by decide) (by decide) _ (mask0_m (by decide) _ _) (RDn_no (by decide)))
  · rw [cbd_4_7_1, xbd_some]
    unfold sX1_decode_j143
    simp (decide := true) only [dW_2, dW_3, mW_at, xwi_d2, xwi_d3, xwi_m, List.set, List.length, Nat.reduceSub, List.getD_cons_succ, List.getD_cons_zero, xbd_some, xbd_assoc, if_false, if_true, digits_m (Or.inr rfl), nextNumber1_d hw, nextNumber4_d hw, number1_m hm, number4_m hm, sX12_takeOther_j1163, sX12_takeOther_j1188]
    exact dp_end (Or.inr ⟨rfl, rfl⟩) hw.2.1 (by omega) (by omega) (by decide) (fun _ _ => RD_E hF (List.mem_of_getElem? (i := 69) rfl) (by decide) (by decide) (by decide) _ (mask0_m (by decide) _ _) (RDn_no (by decide)))

theorem db_247 (hw : imgC w B n) (hm : imgM m B n) : DP n p w m (xbd (sX1_chooseHigh 247 4 (dW [50, 0, 247, 0, 4, 4, 0, 0, 0, -1, -1, 0, 0, 0, 0] [nxn n (p + 1), ctn n (p + 1), 1, 0, 0, 0] w)) (fun _ w1 => sX1_decode_j128 (nI p) w1)) (sX12_take_j86 (nI p) 247 4 (mW [x0, x1, 0, x3, x4, 3, 0, 0, -1, -1, x10, x11, 0, x13, nxn n (p + 1), thr n (p + 1) 1] m)) := by
  obtain ⟨q2, md, rg, rm, bs, ix, sc, tm, dp, mem, hF, hC, hO⟩ := operand_pair hw hm (p + 1)
  have h1 := hF.1
  have h2 := hF.2.1
  rw [(show ∀ W, sX1_chooseHigh 247 4 W = some ((), (xwi (xwi (xwi (xwi (xwi W 2 1 (5 : Int32)) 2 4 (4 : Int32)) 2 5 (4 : Int32)) 3 5 (1 : Int32)) 3 6 (4 : Int32))) from fun _ => rfl), (show ∀ M, sX12_take_j86 (nI p) 247 4 M = xbd (sX12_takeOther 247 4 M) (fun _ w1 => sX12_take_j380 (nI p) w1) from fun _ => rfl), xbd_some]
  rw [(show ∀ M, sX12_takeOther 247 4 M = sX12_takeOther_j1138 4 M from fun _ => rfl)]
  unfold sX1_decode_j128
  simp (decide := true) only [dW_2, dW_3, mW_at, xwi_d2, xwi_d3, xwi_m, List.set, List.length, Nat.reduceSub, List.getD_cons_succ, List.getD_cons_zero, xbd_some, xbd_assoc, sX12_is, if_false, if_true, hC, hO, sX12_takeOther_j1138]
  rcases in8_cases hF.2.2.1 with rfl | rfl | rfl | rfl | rfl | rfl | rfl | rfl
  · rw [cbd_4_0_4, xbd_some]
    unfold sX1_decode_j143
    simp (decide := true) only [dW_2, dW_3, mW_at, xwi_d2, xwi_d3, xwi_m, List.set, List.length, Nat.reduceSub, List.getD_cons_succ, List.getD_cons_zero, xbd_some, xbd_assoc, if_false, if_true, digits_m (Or.inr rfl), nextNumber1_d hw, nextNumber4_d hw, number1_m hm, number4_m hm, sX12_takeOther_j1163, sX12_takeOther_j1188]
    exact dp_end (Or.inr ⟨rfl, rfl⟩) hw.2.1 (by omega) (by omega) (by decide) (fun _ _ => RD_E hF (List.mem_of_getElem? (i := 55) rfl) (by decide) (by decide) (by decide) _ (mask0_m (by decide) _ _) (RDn_eq (by decide) rfl))
  · rw [cbd_4_1_4, xbd_some]
    unfold sX1_decode_j143
    simp (decide := true) only [dW_2, dW_3, mW_at, xwi_d2, xwi_d3, xwi_m, List.set, List.length, Nat.reduceSub, List.getD_cons_succ, List.getD_cons_zero, xbd_some, xbd_assoc, if_false, if_true, digits_m (Or.inr rfl), nextNumber1_d hw, nextNumber4_d hw, number1_m hm, number4_m hm, sX12_takeOther_j1163, sX12_takeOther_j1188]
    exact dp_end (Or.inl ⟨rfl, rfl⟩) hw.2.1 (by omega) (by omega) (by decide) (fun _ h => absurd h (by decide))
  · rw [cbd_4_2_4, xbd_some]
    unfold sX1_decode_j143
    simp (decide := true) only [dW_2, dW_3, mW_at, xwi_d2, xwi_d3, xwi_m, List.set, List.length, Nat.reduceSub, List.getD_cons_succ, List.getD_cons_zero, xbd_some, xbd_assoc, if_false, if_true, digits_m (Or.inr rfl), nextNumber1_d hw, nextNumber4_d hw, number1_m hm, number4_m hm, sX12_takeOther_j1163, sX12_takeOther_j1188]
    exact dp_end (Or.inr ⟨rfl, rfl⟩) hw.2.1 (by omega) (by omega) (by decide) (fun _ _ => RD_E hF (List.mem_of_getElem? (i := 61) rfl) (by decide) (by decide) (by decide) _ (mask0_m (by decide) _ _) (RDn_no (by decide)))
  · rw [cbd_4_3_4, xbd_some]
    unfold sX1_decode_j143
    simp (decide := true) only [dW_2, dW_3, mW_at, xwi_d2, xwi_d3, xwi_m, List.set, List.length, Nat.reduceSub, List.getD_cons_succ, List.getD_cons_zero, xbd_some, xbd_assoc, if_false, if_true, digits_m (Or.inr rfl), nextNumber1_d hw, nextNumber4_d hw, number1_m hm, number4_m hm, sX12_takeOther_j1163, sX12_takeOther_j1188]
    exact dp_end (Or.inr ⟨rfl, rfl⟩) hw.2.1 (by omega) (by omega) (by decide) (fun _ _ => RD_E hF (List.mem_of_getElem? (i := 60) rfl) (by decide) (by decide) (by decide) _ (mask0_m (by decide) _ _) (RDn_no (by decide)))
  · rw [cbd_4_4_4, xbd_some]
    unfold sX1_decode_j143
    simp (decide := true) only [dW_2, dW_3, mW_at, xwi_d2, xwi_d3, xwi_m, List.set, List.length, Nat.reduceSub, List.getD_cons_succ, List.getD_cons_zero, xbd_some, xbd_assoc, if_false, if_true, digits_m (Or.inr rfl), nextNumber1_d hw, nextNumber4_d hw, number1_m hm, number4_m hm, sX12_takeOther_j1163, sX12_takeOther_j1188]
    exact dp_end (Or.inr ⟨rfl, rfl⟩) hw.2.1 (by omega) (by omega) (by decide) (fun _ _ => RD_E hF (List.mem_of_getElem? (i := 64) rfl) (by decide) (by decide) (by decide) _ (mask0_m (by decide) _ _) (RDn_no (by decide)))
  · rw [cbd_4_5_4, xbd_some]
    unfold sX1_decode_j143
    simp (decide := true) only [dW_2, dW_3, mW_at, xwi_d2, xwi_d3, xwi_m, List.set, List.length, Nat.reduceSub, List.getD_cons_succ, List.getD_cons_zero, xbd_some, xbd_assoc, if_false, if_true, digits_m (Or.inr rfl), nextNumber1_d hw, nextNumber4_d hw, number1_m hm, number4_m hm, sX12_takeOther_j1163, sX12_takeOther_j1188]
    exact dp_end (Or.inr ⟨rfl, rfl⟩) hw.2.1 (by omega) (by omega) (by decide) (fun _ _ => RD_E hF (List.mem_of_getElem? (i := 65) rfl) (by decide) (by decide) (by decide) _ (mask0_m (by decide) _ _) (RDn_no (by decide)))
  · rw [cbd_4_6_4, xbd_some]
    unfold sX1_decode_j143
    simp (decide := true) only [dW_2, dW_3, mW_at, xwi_d2, xwi_d3, xwi_m, List.set, List.length, Nat.reduceSub, List.getD_cons_succ, List.getD_cons_zero, xbd_some, xbd_assoc, if_false, if_true, digits_m (Or.inr rfl), nextNumber1_d hw, nextNumber4_d hw, number1_m hm, number4_m hm, sX12_takeOther_j1163, sX12_takeOther_j1188]
    exact dp_end (Or.inr ⟨rfl, rfl⟩) hw.2.1 (by omega) (by omega) (by decide) (fun _ _ => RD_E hF (List.mem_of_getElem? (i := 68) rfl) (by decide) (by decide) (by decide) _ (mask0_m (by decide) _ _) (RDn_no (by decide)))
  · rw [cbd_4_7_4, xbd_some]
    unfold sX1_decode_j143
    simp (decide := true) only [dW_2, dW_3, mW_at, xwi_d2, xwi_d3, xwi_m, List.set, List.length, Nat.reduceSub, List.getD_cons_succ, List.getD_cons_zero, xbd_some, xbd_assoc, if_false, if_true, digits_m (Or.inr rfl), nextNumber1_d hw, nextNumber4_d hw, number1_m hm, number4_m hm, sX12_takeOther_j1163, sX12_takeOther_j1188]
    exact dp_end (Or.inr ⟨rfl, rfl⟩) hw.2.1 (by omega) (by omega) (by decide) (fun _ _ => RD_E hF (List.mem_of_getElem? (i := 69) rfl) (by decide) (by decide) (by decide) _ (mask0_m (by decide) _ _) (RDn_no (by decide)))

theorem db_254 (hw : imgC w B n) (hm : imgM m B n) : DP n p w m (xbd (sX1_chooseHigh 254 1 (dW [50, 0, 254, 0, 4, 4, 0, 0, 0, -1, -1, 0, 0, 0, 0] [nxn n (p + 1), ctn n (p + 1), 1, 0, 0, 0] w)) (fun _ w1 => sX1_decode_j128 (nI p) w1)) (sX12_take_j86 (nI p) 254 1 (mW [x0, x1, 0, x3, x4, 3, 0, 0, -1, -1, x10, x11, 0, x13, nxn n (p + 1), thr n (p + 1) 1] m)) := by
  obtain ⟨q2, md, rg, rm, bs, ix, sc, tm, dp, mem, hF, hC, hO⟩ := operand_pair hw hm (p + 1)
  have h1 := hF.1
  have h2 := hF.2.1
  rw [(show ∀ W, sX1_chooseHigh 254 1 W = some ((), (xwi (xwi (xwi (xwi (xwi W 2 1 (5 : Int32)) 2 4 (1 : Int32)) 2 5 (1 : Int32)) 3 5 (1 : Int32)) 3 6 (5 : Int32))) from fun _ => rfl), (show ∀ M, sX12_take_j86 (nI p) 254 1 M = xbd (sX12_takeOther 254 1 M) (fun _ w1 => sX12_take_j380 (nI p) w1) from fun _ => rfl), xbd_some]
  rw [(show ∀ M, sX12_takeOther 254 1 M = sX12_takeOther_j1211 254 1 M from fun _ => rfl)]
  unfold sX1_decode_j128
  simp (decide := true) only [dW_2, dW_3, mW_at, xwi_d2, xwi_d3, xwi_m, List.set, List.length, Nat.reduceSub, List.getD_cons_succ, List.getD_cons_zero, xbd_some, xbd_assoc, sX12_is, if_false, if_true, hC, hO, sX12_takeOther_j1211]
  rcases (show (md = 3 ∧ mem = 0) ∨ (¬ md = 3 ∧ mem = 1) from by
    rcases hF.2.2.2.2 with h5 | h5
    · exact Or.inl ⟨h5.1, h5.2.1⟩
    · refine Or.inr ⟨?_, h5.2.1⟩
      rcases h5.1 with h | h | h <;> rw [h] <;> decide) with ⟨rfl, rfl⟩ | ⟨hmd, rfl⟩
  · rcases in8_cases hF.2.2.1 with rfl | rfl | rfl | rfl | rfl | rfl | rfl | rfl
    · rw [cbd_5_0_1_0, xbd_some]
      unfold sX1_decode_j143
      simp (decide := true) only [dW_2, dW_3, mW_at, xwi_d2, xwi_d3, xwi_m, List.set, List.length, Nat.reduceSub, List.getD_cons_succ, List.getD_cons_zero, xbd_some, xbd_assoc, if_false, if_true, digits_m (Or.inr rfl), nextNumber1_d hw, nextNumber4_d hw, number1_m hm, number4_m hm, sX12_takeOther_j1276, sX12_takeOther_j1328, sX12_takeOther_j1320]
      exact dp_end (Or.inr ⟨rfl, rfl⟩) hw.2.1 (by omega) (by omega) (by decide) (fun _ _ => RD_E hF (List.mem_of_getElem? (i := 57) rfl) (by decide) (by decide) (by decide) _ (mask0_m (by decide) _ _) (RDn_no (by decide)))
    · rw [cbd_5_1_1_0, xbd_some]
      unfold sX1_decode_j143
      simp (decide := true) only [dW_2, dW_3, mW_at, xwi_d2, xwi_d3, xwi_m, List.set, List.length, Nat.reduceSub, List.getD_cons_succ, List.getD_cons_zero, xbd_some, xbd_assoc, if_false, if_true, digits_m (Or.inr rfl), nextNumber1_d hw, nextNumber4_d hw, number1_m hm, number4_m hm, sX12_takeOther_j1276, sX12_takeOther_j1328, sX12_takeOther_j1320]
      exact dp_end (Or.inr ⟨rfl, rfl⟩) hw.2.1 (by omega) (by omega) (by decide) (fun _ _ => RD_E hF (List.mem_of_getElem? (i := 59) rfl) (by decide) (by decide) (by decide) _ (mask0_m (by decide) _ _) (RDn_no (by decide)))
    · rw [cbd_5_2_1_0, xbd_some]
      unfold sX1_decode_j143
      simp (decide := true) only [dW_2, dW_3, mW_at, xwi_d2, xwi_d3, xwi_m, List.set, List.length, Nat.reduceSub, List.getD_cons_succ, List.getD_cons_zero, xbd_some, xbd_assoc, if_false, if_true, digits_m (Or.inr rfl), nextNumber1_d hw, nextNumber4_d hw, number1_m hm, number4_m hm, sX12_takeOther_j1276, sX12_takeOther_j1328, sX12_takeOther_j1320]
      exact dp_end (Or.inl ⟨rfl, rfl⟩) hw.2.1 (by omega) (by omega) (by decide) (fun _ h => absurd h (by decide))
    · rw [cbd_5_3_1_0, xbd_some]
      unfold sX1_decode_j143
      simp (decide := true) only [dW_2, dW_3, mW_at, xwi_d2, xwi_d3, xwi_m, List.set, List.length, Nat.reduceSub, List.getD_cons_succ, List.getD_cons_zero, xbd_some, xbd_assoc, if_false, if_true, digits_m (Or.inr rfl), nextNumber1_d hw, nextNumber4_d hw, number1_m hm, number4_m hm, sX12_takeOther_j1276, sX12_takeOther_j1328, sX12_takeOther_j1320]
      exact dp_end (Or.inl ⟨rfl, rfl⟩) hw.2.1 (by omega) (by omega) (by decide) (fun _ h => absurd h (by decide))
    · rw [cbd_5_4_1_0, xbd_some]
      unfold sX1_decode_j143
      simp (decide := true) only [dW_2, dW_3, mW_at, xwi_d2, xwi_d3, xwi_m, List.set, List.length, Nat.reduceSub, List.getD_cons_succ, List.getD_cons_zero, xbd_some, xbd_assoc, if_false, if_true, digits_m (Or.inr rfl), nextNumber1_d hw, nextNumber4_d hw, number1_m hm, number4_m hm, sX12_takeOther_j1276, sX12_takeOther_j1328, sX12_takeOther_j1320]
      exact dp_end (Or.inl ⟨rfl, rfl⟩) hw.2.1 (by omega) (by omega) (by decide) (fun _ h => absurd h (by decide))
    · rw [cbd_5_5_1_0, xbd_some]
      unfold sX1_decode_j143
      simp (decide := true) only [dW_2, dW_3, mW_at, xwi_d2, xwi_d3, xwi_m, List.set, List.length, Nat.reduceSub, List.getD_cons_succ, List.getD_cons_zero, xbd_some, xbd_assoc, if_false, if_true, digits_m (Or.inr rfl), nextNumber1_d hw, nextNumber4_d hw, number1_m hm, number4_m hm, sX12_takeOther_j1276, sX12_takeOther_j1328, sX12_takeOther_j1320]
      exact dp_end (Or.inl ⟨rfl, rfl⟩) hw.2.1 (by omega) (by omega) (by decide) (fun _ h => absurd h (by decide))
    · rw [cbd_5_6_1_0, xbd_some]
      unfold sX1_decode_j143
      simp (decide := true) only [dW_2, dW_3, mW_at, xwi_d2, xwi_d3, xwi_m, List.set, List.length, Nat.reduceSub, List.getD_cons_succ, List.getD_cons_zero, xbd_some, xbd_assoc, if_false, if_true, digits_m (Or.inr rfl), nextNumber1_d hw, nextNumber4_d hw, number1_m hm, number4_m hm, sX12_takeOther_j1276, sX12_takeOther_j1328, sX12_takeOther_j1320]
      exact dp_end (Or.inl ⟨rfl, rfl⟩) hw.2.1 (by omega) (by omega) (by decide) (fun _ h => absurd h (by decide))
    · rw [cbd_5_7_1_0, xbd_some]
      unfold sX1_decode_j143
      simp (decide := true) only [dW_2, dW_3, mW_at, xwi_d2, xwi_d3, xwi_m, List.set, List.length, Nat.reduceSub, List.getD_cons_succ, List.getD_cons_zero, xbd_some, xbd_assoc, if_false, if_true, digits_m (Or.inr rfl), nextNumber1_d hw, nextNumber4_d hw, number1_m hm, number4_m hm, sX12_takeOther_j1276, sX12_takeOther_j1328, sX12_takeOther_j1320]
      exact dp_end (Or.inl ⟨rfl, rfl⟩) hw.2.1 (by omega) (by omega) (by decide) (fun _ h => absurd h (by decide))
  · rcases in8_cases hF.2.2.1 with rfl | rfl | rfl | rfl | rfl | rfl | rfl | rfl
    · rw [cbd_5_0_1_1, xbd_some]
      unfold sX1_decode_j143
      simp (decide := true) only [dW_2, dW_3, mW_at, xwi_d2, xwi_d3, xwi_m, List.set, List.length, Nat.reduceSub, List.getD_cons_succ, List.getD_cons_zero, xbd_some, xbd_assoc, if_false, if_true, digits_m (Or.inr rfl), nextNumber1_d hw, nextNumber4_d hw, number1_m hm, number4_m hm, sX12_takeOther_j1276, sX12_takeOther_j1328, sX12_takeOther_j1320, hmd]
      exact dp_end (Or.inr ⟨rfl, rfl⟩) hw.2.1 (by omega) (by omega) (by decide) (fun _ _ => RD_E hF (List.mem_of_getElem? (i := 57) rfl) (by decide) (by decide) (by decide) _ (mask0_m (by decide) _ _) (RDn_no (by decide)))
    · rw [cbd_5_1_1_1, xbd_some]
      unfold sX1_decode_j143
      simp (decide := true) only [dW_2, dW_3, mW_at, xwi_d2, xwi_d3, xwi_m, List.set, List.length, Nat.reduceSub, List.getD_cons_succ, List.getD_cons_zero, xbd_some, xbd_assoc, if_false, if_true, digits_m (Or.inr rfl), nextNumber1_d hw, nextNumber4_d hw, number1_m hm, number4_m hm, sX12_takeOther_j1276, sX12_takeOther_j1328, sX12_takeOther_j1320, hmd]
      exact dp_end (Or.inr ⟨rfl, rfl⟩) hw.2.1 (by omega) (by omega) (by decide) (fun _ _ => RD_E hF (List.mem_of_getElem? (i := 59) rfl) (by decide) (by decide) (by decide) _ (mask0_m (by decide) _ _) (RDn_no (by decide)))
    · rw [cbd_5_2_1_1, xbd_some]
      unfold sX1_decode_j143
      simp (decide := true) only [dW_2, dW_3, mW_at, xwi_d2, xwi_d3, xwi_m, List.set, List.length, Nat.reduceSub, List.getD_cons_succ, List.getD_cons_zero, xbd_some, xbd_assoc, if_false, if_true, digits_m (Or.inr rfl), nextNumber1_d hw, nextNumber4_d hw, number1_m hm, number4_m hm, sX12_takeOther_j1276, sX12_takeOther_j1328, sX12_takeOther_j1320, hmd]
      exact dp_end (Or.inl ⟨rfl, rfl⟩) hw.2.1 (by omega) (by omega) (by decide) (fun _ h => absurd h (by decide))
    · rw [cbd_5_3_1_1, xbd_some]
      unfold sX1_decode_j143
      simp (decide := true) only [dW_2, dW_3, mW_at, xwi_d2, xwi_d3, xwi_m, List.set, List.length, Nat.reduceSub, List.getD_cons_succ, List.getD_cons_zero, xbd_some, xbd_assoc, if_false, if_true, digits_m (Or.inr rfl), nextNumber1_d hw, nextNumber4_d hw, number1_m hm, number4_m hm, sX12_takeOther_j1276, sX12_takeOther_j1328, sX12_takeOther_j1320, hmd]
      exact dp_end (Or.inl ⟨rfl, rfl⟩) hw.2.1 (by omega) (by omega) (by decide) (fun _ h => absurd h (by decide))
    · rw [cbd_5_4_1_1, xbd_some]
      unfold sX1_decode_j143
      simp (decide := true) only [dW_2, dW_3, mW_at, xwi_d2, xwi_d3, xwi_m, List.set, List.length, Nat.reduceSub, List.getD_cons_succ, List.getD_cons_zero, xbd_some, xbd_assoc, if_false, if_true, digits_m (Or.inr rfl), nextNumber1_d hw, nextNumber4_d hw, number1_m hm, number4_m hm, sX12_takeOther_j1276, sX12_takeOther_j1328, sX12_takeOther_j1320, hmd]
      exact dp_end (Or.inl ⟨rfl, rfl⟩) hw.2.1 (by omega) (by omega) (by decide) (fun _ h => absurd h (by decide))
    · rw [cbd_5_5_1_1, xbd_some]
      unfold sX1_decode_j143
      simp (decide := true) only [dW_2, dW_3, mW_at, xwi_d2, xwi_d3, xwi_m, List.set, List.length, Nat.reduceSub, List.getD_cons_succ, List.getD_cons_zero, xbd_some, xbd_assoc, if_false, if_true, digits_m (Or.inr rfl), nextNumber1_d hw, nextNumber4_d hw, number1_m hm, number4_m hm, sX12_takeOther_j1276, sX12_takeOther_j1328, sX12_takeOther_j1320, hmd]
      exact dp_end (Or.inl ⟨rfl, rfl⟩) hw.2.1 (by omega) (by omega) (by decide) (fun _ h => absurd h (by decide))
    · rw [cbd_5_6_1_1, xbd_some]
      unfold sX1_decode_j143
      simp (decide := true) only [dW_2, dW_3, mW_at, xwi_d2, xwi_d3, xwi_m, List.set, List.length, Nat.reduceSub, List.getD_cons_succ, List.getD_cons_zero, xbd_some, xbd_assoc, if_false, if_true, digits_m (Or.inr rfl), nextNumber1_d hw, nextNumber4_d hw, number1_m hm, number4_m hm, sX12_takeOther_j1276, sX12_takeOther_j1328, sX12_takeOther_j1320, hmd]
      exact dp_end (Or.inl ⟨rfl, rfl⟩) hw.2.1 (by omega) (by omega) (by decide) (fun _ h => absurd h (by decide))
    · rw [cbd_5_7_1_1, xbd_some]
      unfold sX1_decode_j143
      simp (decide := true) only [dW_2, dW_3, mW_at, xwi_d2, xwi_d3, xwi_m, List.set, List.length, Nat.reduceSub, List.getD_cons_succ, List.getD_cons_zero, xbd_some, xbd_assoc, if_false, if_true, digits_m (Or.inr rfl), nextNumber1_d hw, nextNumber4_d hw, number1_m hm, number4_m hm, sX12_takeOther_j1276, sX12_takeOther_j1328, sX12_takeOther_j1320, hmd]
      exact dp_end (Or.inl ⟨rfl, rfl⟩) hw.2.1 (by omega) (by omega) (by decide) (fun _ h => absurd h (by decide))

theorem db_255 (hw : imgC w B n) (hm : imgM m B n) : DP n p w m (xbd (sX1_chooseHigh 255 4 (dW [50, 0, 255, 0, 4, 4, 0, 0, 0, -1, -1, 0, 0, 0, 0] [nxn n (p + 1), ctn n (p + 1), 1, 0, 0, 0] w)) (fun _ w1 => sX1_decode_j128 (nI p) w1)) (sX12_take_j86 (nI p) 255 4 (mW [x0, x1, 0, x3, x4, 3, 0, 0, -1, -1, x10, x11, 0, x13, nxn n (p + 1), thr n (p + 1) 1] m)) := by
  obtain ⟨q2, md, rg, rm, bs, ix, sc, tm, dp, mem, hF, hC, hO⟩ := operand_pair hw hm (p + 1)
  have h1 := hF.1
  have h2 := hF.2.1
  rw [(show ∀ W, sX1_chooseHigh 255 4 W = some ((), (xwi (xwi (xwi (xwi (xwi W 2 1 (5 : Int32)) 2 4 (4 : Int32)) 2 5 (4 : Int32)) 3 5 (1 : Int32)) 3 6 (5 : Int32))) from fun _ => rfl), (show ∀ M, sX12_take_j86 (nI p) 255 4 M = xbd (sX12_takeOther 255 4 M) (fun _ w1 => sX12_take_j380 (nI p) w1) from fun _ => rfl), xbd_some]
  rw [(show ∀ M, sX12_takeOther 255 4 M = sX12_takeOther_j1211 255 4 M from fun _ => rfl)]
  unfold sX1_decode_j128
  simp (decide := true) only [dW_2, dW_3, mW_at, xwi_d2, xwi_d3, xwi_m, List.set, List.length, Nat.reduceSub, List.getD_cons_succ, List.getD_cons_zero, xbd_some, xbd_assoc, sX12_is, if_false, if_true, hC, hO, sX12_takeOther_j1211]
  rcases (show (md = 3 ∧ mem = 0) ∨ (¬ md = 3 ∧ mem = 1) from by
    rcases hF.2.2.2.2 with h5 | h5
    · exact Or.inl ⟨h5.1, h5.2.1⟩
    · refine Or.inr ⟨?_, h5.2.1⟩
      rcases h5.1 with h | h | h <;> rw [h] <;> decide) with ⟨rfl, rfl⟩ | ⟨hmd, rfl⟩
  · rcases in8_cases hF.2.2.1 with rfl | rfl | rfl | rfl | rfl | rfl | rfl | rfl
    · rw [cbd_5_0_4_0, xbd_some]
      unfold sX1_decode_j143
      simp (decide := true) only [dW_2, dW_3, mW_at, xwi_d2, xwi_d3, xwi_m, List.set, List.length, Nat.reduceSub, List.getD_cons_succ, List.getD_cons_zero, xbd_some, xbd_assoc, if_false, if_true, digits_m (Or.inr rfl), nextNumber1_d hw, nextNumber4_d hw, number1_m hm, number4_m hm, sX12_takeOther_j1276, sX12_takeOther_j1328, sX12_takeOther_j1320]
      exact dp_end (Or.inr ⟨rfl, rfl⟩) hw.2.1 (by omega) (by omega) (by decide) (fun _ _ => RD_E hF (List.mem_of_getElem? (i := 57) rfl) (by decide) (by decide) (by decide) _ (mask0_m (by decide) _ _) (RDn_no (by decide)))
    · rw [cbd_5_1_4_0, xbd_some]
      unfold sX1_decode_j143
      simp (decide := true) only [dW_2, dW_3, mW_at, xwi_d2, xwi_d3, xwi_m, List.set, List.length, Nat.reduceSub, List.getD_cons_succ, List.getD_cons_zero, xbd_some, xbd_assoc, if_false, if_true, digits_m (Or.inr rfl), nextNumber1_d hw, nextNumber4_d hw, number1_m hm, number4_m hm, sX12_takeOther_j1276, sX12_takeOther_j1328, sX12_takeOther_j1320]
      exact dp_end (Or.inr ⟨rfl, rfl⟩) hw.2.1 (by omega) (by omega) (by decide) (fun _ _ => RD_E hF (List.mem_of_getElem? (i := 59) rfl) (by decide) (by decide) (by decide) _ (mask0_m (by decide) _ _) (RDn_no (by decide)))
    · rw [cbd_5_2_4_0, xbd_some]
      unfold sX1_decode_j143
      simp (decide := true) only [dW_2, dW_3, mW_at, xwi_d2, xwi_d3, xwi_m, List.set, List.length, Nat.reduceSub, List.getD_cons_succ, List.getD_cons_zero, xbd_some, xbd_assoc, if_false, if_true, digits_m (Or.inr rfl), nextNumber1_d hw, nextNumber4_d hw, number1_m hm, number4_m hm, sX12_takeOther_j1276, sX12_takeOther_j1328, sX12_takeOther_j1320]
      exact dp_end (Or.inr ⟨rfl, rfl⟩) hw.2.1 (by omega) (by omega) (by decide) (fun _ _ => RD_E hF (List.mem_of_getElem? (i := 94) rfl) (by decide) (by decide) (by decide) _ (mask1_m (by decide) ⟨fun q => absurd q (by decide), fun _ => rfl⟩ _) (RDn_no (by decide)))
    · rw [cbd_5_3_4_0, xbd_some]
      unfold sX1_decode_j143
      simp (decide := true) only [dW_2, dW_3, mW_at, xwi_d2, xwi_d3, xwi_m, List.set, List.length, Nat.reduceSub, List.getD_cons_succ, List.getD_cons_zero, xbd_some, xbd_assoc, if_false, if_true, digits_m (Or.inr rfl), nextNumber1_d hw, nextNumber4_d hw, number1_m hm, number4_m hm, sX12_takeOther_j1276, sX12_takeOther_j1328, sX12_takeOther_j1320]
      exact dp_end (Or.inl ⟨rfl, rfl⟩) hw.2.1 (by omega) (by omega) (by decide) (fun _ h => absurd h (by decide))
    · rw [cbd_5_4_4_0, xbd_some]
      unfold sX1_decode_j143
      simp (decide := true) only [dW_2, dW_3, mW_at, xwi_d2, xwi_d3, xwi_m, List.set, List.length, Nat.reduceSub, List.getD_cons_succ, List.getD_cons_zero, xbd_some, xbd_assoc, if_false, if_true, digits_m (Or.inr rfl), nextNumber1_d hw, nextNumber4_d hw, number1_m hm, number4_m hm, sX12_takeOther_j1276, sX12_takeOther_j1328, sX12_takeOther_j1320]
      exact dp_end (Or.inr ⟨rfl, rfl⟩) hw.2.1 (by omega) (by omega) (by decide) (fun _ _ => RD_E hF (List.mem_of_getElem? (i := 96) rfl) (by decide) (by decide) (by decide) _ (mask1_m (by decide) ⟨fun q => absurd q (by decide), fun _ => rfl⟩ _) (RDn_no (by decide)))
    · rw [cbd_5_5_4_0, xbd_some]
      unfold sX1_decode_j143
      simp (decide := true) only [dW_2, dW_3, mW_at, xwi_d2, xwi_d3, xwi_m, List.set, List.length, Nat.reduceSub, List.getD_cons_succ, List.getD_cons_zero, xbd_some, xbd_assoc, if_false, if_true, digits_m (Or.inr rfl), nextNumber1_d hw, nextNumber4_d hw, number1_m hm, number4_m hm, sX12_takeOther_j1276, sX12_takeOther_j1328, sX12_takeOther_j1320]
      exact dp_end (Or.inl ⟨rfl, rfl⟩) hw.2.1 (by omega) (by omega) (by decide) (fun _ h => absurd h (by decide))
    · rw [cbd_5_6_4_0, xbd_some]
      unfold sX1_decode_j143
      simp (decide := true) only [dW_2, dW_3, mW_at, xwi_d2, xwi_d3, xwi_m, List.set, List.length, Nat.reduceSub, List.getD_cons_succ, List.getD_cons_zero, xbd_some, xbd_assoc, if_false, if_true, digits_m (Or.inr rfl), nextNumber1_d hw, nextNumber4_d hw, number1_m hm, number4_m hm, sX12_takeOther_j1276, sX12_takeOther_j1328, sX12_takeOther_j1320]
      exact dp_end (Or.inr ⟨rfl, rfl⟩) hw.2.1 (by omega) (by omega) (by decide) (fun _ _ => RD_E hF (List.mem_of_getElem? (i := 90) rfl) (by decide) (by decide) (by decide) _ (mask0_m (by decide) _ _) (RDn_no (by decide)))
    · rw [cbd_5_7_4_0, xbd_some]
      unfold sX1_decode_j143
      simp (decide := true) only [dW_2, dW_3, mW_at, xwi_d2, xwi_d3, xwi_m, List.set, List.length, Nat.reduceSub, List.getD_cons_succ, List.getD_cons_zero, xbd_some, xbd_assoc, if_false, if_true, digits_m (Or.inr rfl), nextNumber1_d hw, nextNumber4_d hw, number1_m hm, number4_m hm, sX12_takeOther_j1276, sX12_takeOther_j1328, sX12_takeOther_j1320]
      exact dp_end (Or.inl ⟨rfl, rfl⟩) hw.2.1 (by omega) (by omega) (by decide) (fun _ h => absurd h (by decide))
  · rcases in8_cases hF.2.2.1 with rfl | rfl | rfl | rfl | rfl | rfl | rfl | rfl
    · rw [cbd_5_0_4_1, xbd_some]
      unfold sX1_decode_j143
      simp (decide := true) only [dW_2, dW_3, mW_at, xwi_d2, xwi_d3, xwi_m, List.set, List.length, Nat.reduceSub, List.getD_cons_succ, List.getD_cons_zero, xbd_some, xbd_assoc, if_false, if_true, digits_m (Or.inr rfl), nextNumber1_d hw, nextNumber4_d hw, number1_m hm, number4_m hm, sX12_takeOther_j1276, sX12_takeOther_j1328, sX12_takeOther_j1320, hmd]
      exact dp_end (Or.inr ⟨rfl, rfl⟩) hw.2.1 (by omega) (by omega) (by decide) (fun _ _ => RD_E hF (List.mem_of_getElem? (i := 57) rfl) (by decide) (by decide) (by decide) _ (mask0_m (by decide) _ _) (RDn_no (by decide)))
    · rw [cbd_5_1_4_1, xbd_some]
      unfold sX1_decode_j143
      simp (decide := true) only [dW_2, dW_3, mW_at, xwi_d2, xwi_d3, xwi_m, List.set, List.length, Nat.reduceSub, List.getD_cons_succ, List.getD_cons_zero, xbd_some, xbd_assoc, if_false, if_true, digits_m (Or.inr rfl), nextNumber1_d hw, nextNumber4_d hw, number1_m hm, number4_m hm, sX12_takeOther_j1276, sX12_takeOther_j1328, sX12_takeOther_j1320, hmd]
      exact dp_end (Or.inr ⟨rfl, rfl⟩) hw.2.1 (by omega) (by omega) (by decide) (fun _ _ => RD_E hF (List.mem_of_getElem? (i := 59) rfl) (by decide) (by decide) (by decide) _ (mask0_m (by decide) _ _) (RDn_no (by decide)))
    · rw [cbd_5_2_4_1, xbd_some]
      unfold sX1_decode_j143
      simp (decide := true) only [dW_2, dW_3, mW_at, xwi_d2, xwi_d3, xwi_m, List.set, List.length, Nat.reduceSub, List.getD_cons_succ, List.getD_cons_zero, xbd_some, xbd_assoc, if_false, if_true, digits_m (Or.inr rfl), nextNumber1_d hw, nextNumber4_d hw, number1_m hm, number4_m hm, sX12_takeOther_j1276, sX12_takeOther_j1328, sX12_takeOther_j1320, hmd]
      exact dp_end (Or.inl ⟨rfl, rfl⟩) hw.2.1 (by omega) (by omega) (by decide) (fun _ h => absurd h (by decide))
    · rw [cbd_5_3_4_1, xbd_some]
      unfold sX1_decode_j143
      simp (decide := true) only [dW_2, dW_3, mW_at, xwi_d2, xwi_d3, xwi_m, List.set, List.length, Nat.reduceSub, List.getD_cons_succ, List.getD_cons_zero, xbd_some, xbd_assoc, if_false, if_true, digits_m (Or.inr rfl), nextNumber1_d hw, nextNumber4_d hw, number1_m hm, number4_m hm, sX12_takeOther_j1276, sX12_takeOther_j1328, sX12_takeOther_j1320, hmd]
      exact dp_end (Or.inl ⟨rfl, rfl⟩) hw.2.1 (by omega) (by omega) (by decide) (fun _ h => absurd h (by decide))
    · rw [cbd_5_4_4_1, xbd_some]
      unfold sX1_decode_j143
      simp (decide := true) only [dW_2, dW_3, mW_at, xwi_d2, xwi_d3, xwi_m, List.set, List.length, Nat.reduceSub, List.getD_cons_succ, List.getD_cons_zero, xbd_some, xbd_assoc, if_false, if_true, digits_m (Or.inr rfl), nextNumber1_d hw, nextNumber4_d hw, number1_m hm, number4_m hm, sX12_takeOther_j1276, sX12_takeOther_j1328, sX12_takeOther_j1320, hmd]
      exact dp_end (Or.inl ⟨rfl, rfl⟩) hw.2.1 (by omega) (by omega) (by decide) (fun _ h => absurd h (by decide))
    · rw [cbd_5_5_4_1, xbd_some]
      unfold sX1_decode_j143
      simp (decide := true) only [dW_2, dW_3, mW_at, xwi_d2, xwi_d3, xwi_m, List.set, List.length, Nat.reduceSub, List.getD_cons_succ, List.getD_cons_zero, xbd_some, xbd_assoc, if_false, if_true, digits_m (Or.inr rfl), nextNumber1_d hw, nextNumber4_d hw, number1_m hm, number4_m hm, sX12_takeOther_j1276, sX12_takeOther_j1328, sX12_takeOther_j1320, hmd]
      exact dp_end (Or.inl ⟨rfl, rfl⟩) hw.2.1 (by omega) (by omega) (by decide) (fun _ h => absurd h (by decide))
    · rw [cbd_5_6_4_1, xbd_some]
      unfold sX1_decode_j143
      simp (decide := true) only [dW_2, dW_3, mW_at, xwi_d2, xwi_d3, xwi_m, List.set, List.length, Nat.reduceSub, List.getD_cons_succ, List.getD_cons_zero, xbd_some, xbd_assoc, if_false, if_true, digits_m (Or.inr rfl), nextNumber1_d hw, nextNumber4_d hw, number1_m hm, number4_m hm, sX12_takeOther_j1276, sX12_takeOther_j1328, sX12_takeOther_j1320, hmd]
      exact dp_end (Or.inr ⟨rfl, rfl⟩) hw.2.1 (by omega) (by omega) (by decide) (fun _ _ => RD_E hF (List.mem_of_getElem? (i := 90) rfl) (by decide) (by decide) (by decide) _ (mask0_m (by decide) _ _) (RDn_no (by decide)))
    · rw [cbd_5_7_4_1, xbd_some]
      unfold sX1_decode_j143
      simp (decide := true) only [dW_2, dW_3, mW_at, xwi_d2, xwi_d3, xwi_m, List.set, List.length, Nat.reduceSub, List.getD_cons_succ, List.getD_cons_zero, xbd_some, xbd_assoc, if_false, if_true, digits_m (Or.inr rfl), nextNumber1_d hw, nextNumber4_d hw, number1_m hm, number4_m hm, sX12_takeOther_j1276, sX12_takeOther_j1328, sX12_takeOther_j1320, hmd]
      exact dp_end (Or.inl ⟨rfl, rfl⟩) hw.2.1 (by omega) (by omega) (by decide) (fun _ h => absurd h (by decide))

end DB
