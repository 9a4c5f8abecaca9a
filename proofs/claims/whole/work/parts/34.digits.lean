/-! E's digit, one by one -/
theorem cbd_1_0_g {W : xW} (h36 : W.1 3 6 = 1) (h28 : W.1 2 8 = 0) : sX1_chooseByDigit W = some ((), (xwi W 3 4 (1 : Int32))) := by
  unfold sX1_chooseByDigit
  rw [h36, h28]
  rfl
theorem cbd_1_0 {c0 c1 c2 c3 c4 c5 c6 c7 c9 c10 c11 c12 c13 c14 nx ct h nb : Int32} {w : xW} : sX1_chooseByDigit (dW [c0, c1, c2, c3, c4, c5, c6, c7, 0, c9, c10, c11, c12, c13, c14] [nx, ct, 1, h, 1, nb] w) = some ((), dW [c0, c1, c2, c3, c4, c5, c6, c7, 0, c9, c10, c11, c12, c13, c14] [nx, ct, 1, h, 1, nb] w) := Eq.trans (cbd_1_0_g (Eq.trans (dW_3 (by decide) (by decide)) rfl) (Eq.trans (dW_2 (by decide)) rfl)) (by simp (decide := true) only [xwi_d2, xwi_d3, List.set, List.length, Nat.reduceSub])
theorem cbd_2_0_g {W : xW} (h36 : W.1 3 6 = 2) (h28 : W.1 2 8 = 0) : sX1_chooseByDigit W = some ((), (xwi W 2 0 (0 : Int32))) := by
  unfold sX1_chooseByDigit
  rw [h36, h28]
  rfl
theorem cbd_2_0 {c0 c1 c2 c3 c4 c5 c6 c7 c9 c10 c11 c12 c13 c14 nx ct h nb : Int32} {w : xW} : sX1_chooseByDigit (dW [c0, c1, c2, c3, c4, c5, c6, c7, 0, c9, c10, c11, c12, c13, c14] [nx, ct, 1, h, 2, nb] w) = some ((), dW [0, c1, c2, c3, c4, c5, c6, c7, 0, c9, c10, c11, c12, c13, c14] [nx, ct, 1, h, 2, nb] w) := Eq.trans (cbd_2_0_g (Eq.trans (dW_3 (by decide) (by decide)) rfl) (Eq.trans (dW_2 (by decide)) rfl)) (by simp (decide := true) only [xwi_d2, xwi_d3, List.set, List.length, Nat.reduceSub])
theorem cbd_3_0_g {W : xW} (h36 : W.1 3 6 = 3) (h28 : W.1 2 8 = 0) : sX1_chooseByDigit W = some ((), (xwi (xwi W 2 0 (8 : Int32)) 3 4 (1 : Int32))) := by
  unfold sX1_chooseByDigit
  rw [h36, h28]
  rfl
theorem cbd_3_0 {c0 c1 c2 c3 c4 c5 c6 c7 c9 c10 c11 c12 c13 c14 nx ct h nb : Int32} {w : xW} : sX1_chooseByDigit (dW [c0, c1, c2, c3, c4, c5, c6, c7, 0, c9, c10, c11, c12, c13, c14] [nx, ct, 1, h, 3, nb] w) = some ((), dW [8, c1, c2, c3, c4, c5, c6, c7, 0, c9, c10, c11, c12, c13, c14] [nx, ct, 1, h, 3, nb] w) := Eq.trans (cbd_3_0_g (Eq.trans (dW_3 (by decide) (by decide)) rfl) (Eq.trans (dW_2 (by decide)) rfl)) (by simp (decide := true) only [xwi_d2, xwi_d3, List.set, List.length, Nat.reduceSub])
theorem cbd_4_0_1_g {W : xW} (h36 : W.1 3 6 = 4) (h28 : W.1 2 8 = 0) (h24 : W.1 2 4 = 1) : sX1_chooseByDigit W = some ((), (xwi (xwi (xwi W 2 0 (16 : Int32)) 2 1 (3 : Int32)) 3 7 (1 : Int32))) := by
  unfold sX1_chooseByDigit
  rw [h36, h28]
  show some ((), (xwi (xwi (xwi W 2 0 (16 : Int32)) 2 1 (3 : Int32)) 3 7 (W.1 2 4))) = _
  rw [h24]
theorem cbd_4_0_1 {c0 c1 c2 c3 c5 c6 c7 c9 c10 c11 c12 c13 c14 nx ct h nb : Int32} {w : xW} : sX1_chooseByDigit (dW [c0, c1, c2, c3, 1, c5, c6, c7, 0, c9, c10, c11, c12, c13, c14] [nx, ct, 1, h, 4, nb] w) = some ((), dW [16, 3, c2, c3, 1, c5, c6, c7, 0, c9, c10, c11, c12, c13, c14] [nx, ct, 1, h, 4, 1] w) := Eq.trans (cbd_4_0_1_g (Eq.trans (dW_3 (by decide) (by decide)) rfl) (Eq.trans (dW_2 (by decide)) rfl) (Eq.trans (dW_2 (by decide)) rfl)) (by simp (decide := true) only [xwi_d2, xwi_d3, List.set, List.length, Nat.reduceSub])
theorem cbd_4_0_4_g {W : xW} (h36 : W.1 3 6 = 4) (h28 : W.1 2 8 = 0) (h24 : W.1 2 4 = 4) : sX1_chooseByDigit W = some ((), (xwi (xwi (xwi W 2 0 (16 : Int32)) 2 1 (3 : Int32)) 3 7 (4 : Int32))) := by
  unfold sX1_chooseByDigit
  rw [h36, h28]
  show some ((), (xwi (xwi (xwi W 2 0 (16 : Int32)) 2 1 (3 : Int32)) 3 7 (W.1 2 4))) = _
  rw [h24]
theorem cbd_4_0_4 {c0 c1 c2 c3 c5 c6 c7 c9 c10 c11 c12 c13 c14 nx ct h nb : Int32} {w : xW} : sX1_chooseByDigit (dW [c0, c1, c2, c3, 4, c5, c6, c7, 0, c9, c10, c11, c12, c13, c14] [nx, ct, 1, h, 4, nb] w) = some ((), dW [16, 3, c2, c3, 4, c5, c6, c7, 0, c9, c10, c11, c12, c13, c14] [nx, ct, 1, h, 4, 4] w) := Eq.trans (cbd_4_0_4_g (Eq.trans (dW_3 (by decide) (by decide)) rfl) (Eq.trans (dW_2 (by decide)) rfl) (Eq.trans (dW_2 (by decide)) rfl)) (by simp (decide := true) only [xwi_d2, xwi_d3, List.set, List.length, Nat.reduceSub])
theorem cbd_5_0_1_0_g {W : xW} (h36 : W.1 3 6 = 5) (h28 : W.1 2 8 = 0) (h24 : W.1 2 4 = 1) (h26 : W.1 2 6 = 0) : sX1_chooseByDigit W = some ((), (xwi (xwi W 3 4 (1 : Int32)) 2 0 (17 : Int32))) := by
  unfold sX1_chooseByDigit
  rw [h36, h28]
  show xbd (sX1_chooseCounting 0 W) (fun _ w2 => some ((), w2)) = _
  rw [show sX1_chooseCounting 0 W = sX1_chooseCounting_j22 0 1 W from by unfold sX1_chooseCounting; rw [h24]; rfl]
  rfl
theorem cbd_5_0_1_0 {c0 c1 c2 c3 c5 c7 c9 c10 c11 c12 c13 c14 nx ct h nb : Int32} {w : xW} : sX1_chooseByDigit (dW [c0, c1, c2, c3, 1, c5, 0, c7, 0, c9, c10, c11, c12, c13, c14] [nx, ct, 1, h, 5, nb] w) = some ((), dW [17, c1, c2, c3, 1, c5, 0, c7, 0, c9, c10, c11, c12, c13, c14] [nx, ct, 1, h, 5, nb] w) := Eq.trans (cbd_5_0_1_0_g (Eq.trans (dW_3 (by decide) (by decide)) rfl) (Eq.trans (dW_2 (by decide)) rfl) (Eq.trans (dW_2 (by decide)) rfl) (Eq.trans (dW_2 (by decide)) rfl)) (by simp (decide := true) only [xwi_d2, xwi_d3, List.set, List.length, Nat.reduceSub])
theorem cbd_5_0_1_1_g {W : xW} (h36 : W.1 3 6 = 5) (h28 : W.1 2 8 = 0) (h24 : W.1 2 4 = 1) (h26 : W.1 2 6 = 1) : sX1_chooseByDigit W = some ((), (xwi (xwi W 3 4 (1 : Int32)) 2 0 (17 : Int32))) := by
  unfold sX1_chooseByDigit
  rw [h36, h28]
  show xbd (sX1_chooseCounting 0 W) (fun _ w2 => some ((), w2)) = _
  rw [show sX1_chooseCounting 0 W = sX1_chooseCounting_j22 0 1 W from by unfold sX1_chooseCounting; rw [h24]; rfl]
  rfl
theorem cbd_5_0_1_1 {c0 c1 c2 c3 c5 c7 c9 c10 c11 c12 c13 c14 nx ct h nb : Int32} {w : xW} : sX1_chooseByDigit (dW [c0, c1, c2, c3, 1, c5, 1, c7, 0, c9, c10, c11, c12, c13, c14] [nx, ct, 1, h, 5, nb] w) = some ((), dW [17, c1, c2, c3, 1, c5, 1, c7, 0, c9, c10, c11, c12, c13, c14] [nx, ct, 1, h, 5, nb] w) := Eq.trans (cbd_5_0_1_1_g (Eq.trans (dW_3 (by decide) (by decide)) rfl) (Eq.trans (dW_2 (by decide)) rfl) (Eq.trans (dW_2 (by decide)) rfl) (Eq.trans (dW_2 (by decide)) rfl)) (by simp (decide := true) only [xwi_d2, xwi_d3, List.set, List.length, Nat.reduceSub])
theorem cbd_5_0_4_0_g {W : xW} (h36 : W.1 3 6 = 5) (h28 : W.1 2 8 = 0) (h24 : W.1 2 4 = 4) (h26 : W.1 2 6 = 0) : sX1_chooseByDigit W = some ((), (xwi (xwi W 3 4 (1 : Int32)) 2 0 (17 : Int32))) := by
  unfold sX1_chooseByDigit
  rw [h36, h28]
  show xbd (sX1_chooseCounting 0 W) (fun _ w2 => some ((), w2)) = _
  rw [show sX1_chooseCounting 0 W = sX1_chooseCounting_j22 0 1 W from by unfold sX1_chooseCounting; rw [h24]; rfl]
  rfl
theorem cbd_5_0_4_0 {c0 c1 c2 c3 c5 c7 c9 c10 c11 c12 c13 c14 nx ct h nb : Int32} {w : xW} : sX1_chooseByDigit (dW [c0, c1, c2, c3, 4, c5, 0, c7, 0, c9, c10, c11, c12, c13, c14] [nx, ct, 1, h, 5, nb] w) = some ((), dW [17, c1, c2, c3, 4, c5, 0, c7, 0, c9, c10, c11, c12, c13, c14] [nx, ct, 1, h, 5, nb] w) := Eq.trans (cbd_5_0_4_0_g (Eq.trans (dW_3 (by decide) (by decide)) rfl) (Eq.trans (dW_2 (by decide)) rfl) (Eq.trans (dW_2 (by decide)) rfl) (Eq.trans (dW_2 (by decide)) rfl)) (by simp (decide := true) only [xwi_d2, xwi_d3, List.set, List.length, Nat.reduceSub])
theorem cbd_5_0_4_1_g {W : xW} (h36 : W.1 3 6 = 5) (h28 : W.1 2 8 = 0) (h24 : W.1 2 4 = 4) (h26 : W.1 2 6 = 1) : sX1_chooseByDigit W = some ((), (xwi (xwi W 3 4 (1 : Int32)) 2 0 (17 : Int32))) := by
  unfold sX1_chooseByDigit
  rw [h36, h28]
  show xbd (sX1_chooseCounting 0 W) (fun _ w2 => some ((), w2)) = _
  rw [show sX1_chooseCounting 0 W = sX1_chooseCounting_j22 0 1 W from by unfold sX1_chooseCounting; rw [h24]; rfl]
  rfl
theorem cbd_5_0_4_1 {c0 c1 c2 c3 c5 c7 c9 c10 c11 c12 c13 c14 nx ct h nb : Int32} {w : xW} : sX1_chooseByDigit (dW [c0, c1, c2, c3, 4, c5, 1, c7, 0, c9, c10, c11, c12, c13, c14] [nx, ct, 1, h, 5, nb] w) = some ((), dW [17, c1, c2, c3, 4, c5, 1, c7, 0, c9, c10, c11, c12, c13, c14] [nx, ct, 1, h, 5, nb] w) := Eq.trans (cbd_5_0_4_1_g (Eq.trans (dW_3 (by decide) (by decide)) rfl) (Eq.trans (dW_2 (by decide)) rfl) (Eq.trans (dW_2 (by decide)) rfl) (Eq.trans (dW_2 (by decide)) rfl)) (by simp (decide := true) only [xwi_d2, xwi_d3, List.set, List.length, Nat.reduceSub])
theorem cbd_1_1_g {W : xW} (h36 : W.1 3 6 = 1) (h28 : W.1 2 8 = 1) : sX1_chooseByDigit W = some ((), (xwi W 3 4 (0 : Int32))) := by
  unfold sX1_chooseByDigit
  rw [h36, h28]
  rfl
theorem cbd_1_1 {c0 c1 c2 c3 c4 c5 c6 c7 c9 c10 c11 c12 c13 c14 nx ct h nb : Int32} {w : xW} : sX1_chooseByDigit (dW [c0, c1, c2, c3, c4, c5, c6, c7, 1, c9, c10, c11, c12, c13, c14] [nx, ct, 1, h, 1, nb] w) = some ((), dW [c0, c1, c2, c3, c4, c5, c6, c7, 1, c9, c10, c11, c12, c13, c14] [nx, ct, 0, h, 1, nb] w) := Eq.trans (cbd_1_1_g (Eq.trans (dW_3 (by decide) (by decide)) rfl) (Eq.trans (dW_2 (by decide)) rfl)) (by simp (decide := true) only [xwi_d2, xwi_d3, List.set, List.length, Nat.reduceSub])
theorem cbd_2_1_g {W : xW} (h36 : W.1 3 6 = 2) (h28 : W.1 2 8 = 1) : sX1_chooseByDigit W = some ((), (xwi W 2 0 (1 : Int32))) := by
  unfold sX1_chooseByDigit
  rw [h36, h28]
  rfl
theorem cbd_2_1 {c0 c1 c2 c3 c4 c5 c6 c7 c9 c10 c11 c12 c13 c14 nx ct h nb : Int32} {w : xW} : sX1_chooseByDigit (dW [c0, c1, c2, c3, c4, c5, c6, c7, 1, c9, c10, c11, c12, c13, c14] [nx, ct, 1, h, 2, nb] w) = some ((), dW [1, c1, c2, c3, c4, c5, c6, c7, 1, c9, c10, c11, c12, c13, c14] [nx, ct, 1, h, 2, nb] w) := Eq.trans (cbd_2_1_g (Eq.trans (dW_3 (by decide) (by decide)) rfl) (Eq.trans (dW_2 (by decide)) rfl)) (by simp (decide := true) only [xwi_d2, xwi_d3, List.set, List.length, Nat.reduceSub])
theorem cbd_3_1_g {W : xW} (h36 : W.1 3 6 = 3) (h28 : W.1 2 8 = 1) : sX1_chooseByDigit W = some ((), (xwi (xwi W 2 0 (9 : Int32)) 3 4 (1 : Int32))) := by
  unfold sX1_chooseByDigit
  rw [h36, h28]
  rfl
theorem cbd_3_1 {c0 c1 c2 c3 c4 c5 c6 c7 c9 c10 c11 c12 c13 c14 nx ct h nb : Int32} {w : xW} : sX1_chooseByDigit (dW [c0, c1, c2, c3, c4, c5, c6, c7, 1, c9, c10, c11, c12, c13, c14] [nx, ct, 1, h, 3, nb] w) = some ((), dW [9, c1, c2, c3, c4, c5, c6, c7, 1, c9, c10, c11, c12, c13, c14] [nx, ct, 1, h, 3, nb] w) := Eq.trans (cbd_3_1_g (Eq.trans (dW_3 (by decide) (by decide)) rfl) (Eq.trans (dW_2 (by decide)) rfl)) (by simp (decide := true) only [xwi_d2, xwi_d3, List.set, List.length, Nat.reduceSub])
theorem cbd_4_1_1_g {W : xW} (h36 : W.1 3 6 = 4) (h28 : W.1 2 8 = 1) (h24 : W.1 2 4 = 1) : sX1_chooseByDigit W = some ((), (xwi W 3 4 (0 : Int32))) := by
  unfold sX1_chooseByDigit
  rw [h36, h28]
  rfl
theorem cbd_4_1_1 {c0 c1 c2 c3 c5 c6 c7 c9 c10 c11 c12 c13 c14 nx ct h nb : Int32} {w : xW} : sX1_chooseByDigit (dW [c0, c1, c2, c3, 1, c5, c6, c7, 1, c9, c10, c11, c12, c13, c14] [nx, ct, 1, h, 4, nb] w) = some ((), dW [c0, c1, c2, c3, 1, c5, c6, c7, 1, c9, c10, c11, c12, c13, c14] [nx, ct, 0, h, 4, nb] w) := Eq.trans (cbd_4_1_1_g (Eq.trans (dW_3 (by decide) (by decide)) rfl) (Eq.trans (dW_2 (by decide)) rfl) (Eq.trans (dW_2 (by decide)) rfl)) (by simp (decide := true) only [xwi_d2, xwi_d3, List.set, List.length, Nat.reduceSub])
theorem cbd_4_1_4_g {W : xW} (h36 : W.1 3 6 = 4) (h28 : W.1 2 8 = 1) (h24 : W.1 2 4 = 4) : sX1_chooseByDigit W = some ((), (xwi W 3 4 (0 : Int32))) := by
  unfold sX1_chooseByDigit
  rw [h36, h28]
  rfl
theorem cbd_4_1_4 {c0 c1 c2 c3 c5 c6 c7 c9 c10 c11 c12 c13 c14 nx ct h nb : Int32} {w : xW} : sX1_chooseByDigit (dW [c0, c1, c2, c3, 4, c5, c6, c7, 1, c9, c10, c11, c12, c13, c14] [nx, ct, 1, h, 4, nb] w) = some ((), dW [c0, c1, c2, c3, 4, c5, c6, c7, 1, c9, c10, c11, c12, c13, c14] [nx, ct, 0, h, 4, nb] w) := Eq.trans (cbd_4_1_4_g (Eq.trans (dW_3 (by decide) (by decide)) rfl) (Eq.trans (dW_2 (by decide)) rfl) (Eq.trans (dW_2 (by decide)) rfl)) (by simp (decide := true) only [xwi_d2, xwi_d3, List.set, List.length, Nat.reduceSub])
theorem cbd_5_1_1_0_g {W : xW} (h36 : W.1 3 6 = 5) (h28 : W.1 2 8 = 1) (h24 : W.1 2 4 = 1) (h26 : W.1 2 6 = 0) : sX1_chooseByDigit W = some ((), (xwi (xwi W 3 4 (1 : Int32)) 2 0 (18 : Int32))) := by
  unfold sX1_chooseByDigit
  rw [h36, h28]
  show xbd (sX1_chooseCounting 1 W) (fun _ w2 => some ((), w2)) = _
  rw [show sX1_chooseCounting 1 W = sX1_chooseCounting_j22 1 1 W from by unfold sX1_chooseCounting; rw [h24]; rfl]
  rfl
theorem cbd_5_1_1_0 {c0 c1 c2 c3 c5 c7 c9 c10 c11 c12 c13 c14 nx ct h nb : Int32} {w : xW} : sX1_chooseByDigit (dW [c0, c1, c2, c3, 1, c5, 0, c7, 1, c9, c10, c11, c12, c13, c14] [nx, ct, 1, h, 5, nb] w) = some ((), dW [18, c1, c2, c3, 1, c5, 0, c7, 1, c9, c10, c11, c12, c13, c14] [nx, ct, 1, h, 5, nb] w) := Eq.trans (cbd_5_1_1_0_g (Eq.trans (dW_3 (by decide) (by decide)) rfl) (Eq.trans (dW_2 (by decide)) rfl) (Eq.trans (dW_2 (by decide)) rfl) (Eq.trans (dW_2 (by decide)) rfl)) (by simp (decide := true) only [xwi_d2, xwi_d3, List.set, List.length, Nat.reduceSub])
theorem cbd_5_1_1_1_g {W : xW} (h36 : W.1 3 6 = 5) (h28 : W.1 2 8 = 1) (h24 : W.1 2 4 = 1) (h26 : W.1 2 6 = 1) : sX1_chooseByDigit W = some ((), (xwi (xwi W 3 4 (1 : Int32)) 2 0 (18 : Int32))) := by
  unfold sX1_chooseByDigit
  rw [h36, h28]
  show xbd (sX1_chooseCounting 1 W) (fun _ w2 => some ((), w2)) = _
  rw [show sX1_chooseCounting 1 W = sX1_chooseCounting_j22 1 1 W from by unfold sX1_chooseCounting; rw [h24]; rfl]
  rfl
theorem cbd_5_1_1_1 {c0 c1 c2 c3 c5 c7 c9 c10 c11 c12 c13 c14 nx ct h nb : Int32} {w : xW} : sX1_chooseByDigit (dW [c0, c1, c2, c3, 1, c5, 1, c7, 1, c9, c10, c11, c12, c13, c14] [nx, ct, 1, h, 5, nb] w) = some ((), dW [18, c1, c2, c3, 1, c5, 1, c7, 1, c9, c10, c11, c12, c13, c14] [nx, ct, 1, h, 5, nb] w) := Eq.trans (cbd_5_1_1_1_g (Eq.trans (dW_3 (by decide) (by decide)) rfl) (Eq.trans (dW_2 (by decide)) rfl) (Eq.trans (dW_2 (by decide)) rfl) (Eq.trans (dW_2 (by decide)) rfl)) (by simp (decide := true) only [xwi_d2, xwi_d3, List.set, List.length, Nat.reduceSub])
theorem cbd_5_1_4_0_g {W : xW} (h36 : W.1 3 6 = 5) (h28 : W.1 2 8 = 1) (h24 : W.1 2 4 = 4) (h26 : W.1 2 6 = 0) : sX1_chooseByDigit W = some ((), (xwi (xwi W 3 4 (1 : Int32)) 2 0 (18 : Int32))) := by
  unfold sX1_chooseByDigit
  rw [h36, h28]
  show xbd (sX1_chooseCounting 1 W) (fun _ w2 => some ((), w2)) = _
  rw [show sX1_chooseCounting 1 W = sX1_chooseCounting_j22 1 1 W from by unfold sX1_chooseCounting; rw [h24]; rfl]
  rfl
theorem cbd_5_1_4_0 {c0 c1 c2 c3 c5 c7 c9 c10 c11 c12 c13 c14 nx ct h nb : Int32} {w : xW} : sX1_chooseByDigit (dW [c0, c1, c2, c3, 4, c5, 0, c7, 1, c9, c10, c11, c12, c13, c14] [nx, ct, 1, h, 5, nb] w) = some ((), dW [18, c1, c2, c3, 4, c5, 0, c7, 1, c9, c10, c11, c12, c13, c14] [nx, ct, 1, h, 5, nb] w) := Eq.trans (cbd_5_1_4_0_g (Eq.trans (dW_3 (by decide) (by decide)) rfl) (Eq.trans (dW_2 (by decide)) rfl) (Eq.trans (dW_2 (by decide)) rfl) (Eq.trans (dW_2 (by decide)) rfl)) (by simp (decide := true) only [xwi_d2, xwi_d3, List.set, List.length, Nat.reduceSub])
theorem cbd_5_1_4_1_g {W : xW} (h36 : W.1 3 6 = 5) (h28 : W.1 2 8 = 1) (h24 : W.1 2 4 = 4) (h26 : W.1 2 6 = 1) : sX1_chooseByDigit W = some ((), (xwi (xwi W 3 4 (1 : Int32)) 2 0 (18 : Int32))) := by
  unfold sX1_chooseByDigit
  rw [h36, h28]
  show xbd (sX1_chooseCounting 1 W) (fun _ w2 => some ((), w2)) = _
  rw [show sX1_chooseCounting 1 W = sX1_chooseCounting_j22 1 1 W from by unfold sX1_chooseCounting; rw [h24]; rfl]
  rfl
theorem cbd_5_1_4_1 {c0 c1 c2 c3 c5 c7 c9 c10 c11 c12 c13 c14 nx ct h nb : Int32} {w : xW} : sX1_chooseByDigit (dW [c0, c1, c2, c3, 4, c5, 1, c7, 1, c9, c10, c11, c12, c13, c14] [nx, ct, 1, h, 5, nb] w) = some ((), dW [18, c1, c2, c3, 4, c5, 1, c7, 1, c9, c10, c11, c12, c13, c14] [nx, ct, 1, h, 5, nb] w) := Eq.trans (cbd_5_1_4_1_g (Eq.trans (dW_3 (by decide) (by decide)) rfl) (Eq.trans (dW_2 (by decide)) rfl) (Eq.trans (dW_2 (by decide)) rfl) (Eq.trans (dW_2 (by decide)) rfl)) (by simp (decide := true) only [xwi_d2, xwi_d3, List.set, List.length, Nat.reduceSub])
theorem cbd_1_2_g {W : xW} (h36 : W.1 3 6 = 1) (h28 : W.1 2 8 = 2) : sX1_chooseByDigit W = some ((), (xwi W 3 4 (0 : Int32))) := by
  unfold sX1_chooseByDigit
  rw [h36, h28]
  rfl
theorem cbd_1_2 {c0 c1 c2 c3 c4 c5 c6 c7 c9 c10 c11 c12 c13 c14 nx ct h nb : Int32} {w : xW} : sX1_chooseByDigit (dW [c0, c1, c2, c3, c4, c5, c6, c7, 2, c9, c10, c11, c12, c13, c14] [nx, ct, 1, h, 1, nb] w) = some ((), dW [c0, c1, c2, c3, c4, c5, c6, c7, 2, c9, c10, c11, c12, c13, c14] [nx, ct, 0, h, 1, nb] w) := Eq.trans (cbd_1_2_g (Eq.trans (dW_3 (by decide) (by decide)) rfl) (Eq.trans (dW_2 (by decide)) rfl)) (by simp (decide := true) only [xwi_d2, xwi_d3, List.set, List.length, Nat.reduceSub])
theorem cbd_2_2_g {W : xW} (h36 : W.1 3 6 = 2) (h28 : W.1 2 8 = 2) : sX1_chooseByDigit W = some ((), (xwi W 2 0 (2 : Int32))) := by
  unfold sX1_chooseByDigit
  rw [h36, h28]
  rfl
theorem cbd_2_2 {c0 c1 c2 c3 c4 c5 c6 c7 c9 c10 c11 c12 c13 c14 nx ct h nb : Int32} {w : xW} : sX1_chooseByDigit (dW [c0, c1, c2, c3, c4, c5, c6, c7, 2, c9, c10, c11, c12, c13, c14] [nx, ct, 1, h, 2, nb] w) = some ((), dW [2, c1, c2, c3, c4, c5, c6, c7, 2, c9, c10, c11, c12, c13, c14] [nx, ct, 1, h, 2, nb] w) := Eq.trans (cbd_2_2_g (Eq.trans (dW_3 (by decide) (by decide)) rfl) (Eq.trans (dW_2 (by decide)) rfl)) (by simp (decide := true) only [xwi_d2, xwi_d3, List.set, List.length, Nat.reduceSub])
theorem cbd_3_2_g {W : xW} (h36 : W.1 3 6 = 3) (h28 : W.1 2 8 = 2) : sX1_chooseByDigit W = some ((), (xwi (xwi W 2 0 (10 : Int32)) 3 4 (1 : Int32))) := by
  unfold sX1_chooseByDigit
  rw [h36, h28]
  rfl
theorem cbd_3_2 {c0 c1 c2 c3 c4 c5 c6 c7 c9 c10 c11 c12 c13 c14 nx ct h nb : Int32} {w : xW} : sX1_chooseByDigit (dW [c0, c1, c2, c3, c4, c5, c6, c7, 2, c9, c10, c11, c12, c13, c14] [nx, ct, 1, h, 3, nb] w) = some ((), dW [10, c1, c2, c3, c4, c5, c6, c7, 2, c9, c10, c11, c12, c13, c14] [nx, ct, 1, h, 3, nb] w) := Eq.trans (cbd_3_2_g (Eq.trans (dW_3 (by decide) (by decide)) rfl) (Eq.trans (dW_2 (by decide)) rfl)) (by simp (decide := true) only [xwi_d2, xwi_d3, List.set, List.length, Nat.reduceSub])
theorem cbd_4_2_1_g {W : xW} (h36 : W.1 3 6 = 4) (h28 : W.1 2 8 = 2) (h24 : W.1 2 4 = 1) : sX1_chooseByDigit W = some ((), (xwi W 2 0 (20 : Int32))) := by
  unfold sX1_chooseByDigit
  rw [h36, h28]
  rfl
theorem cbd_4_2_1 {c0 c1 c2 c3 c5 c6 c7 c9 c10 c11 c12 c13 c14 nx ct h nb : Int32} {w : xW} : sX1_chooseByDigit (dW [c0, c1, c2, c3, 1, c5, c6, c7, 2, c9, c10, c11, c12, c13, c14] [nx, ct, 1, h, 4, nb] w) = some ((), dW [20, c1, c2, c3, 1, c5, c6, c7, 2, c9, c10, c11, c12, c13, c14] [nx, ct, 1, h, 4, nb] w) := Eq.trans (cbd_4_2_1_g (Eq.trans (dW_3 (by decide) (by decide)) rfl) (Eq.trans (dW_2 (by decide)) rfl) (Eq.trans (dW_2 (by decide)) rfl)) (by simp (decide := true) only [xwi_d2, xwi_d3, List.set, List.length, Nat.reduceSub])
theorem cbd_4_2_4_g {W : xW} (h36 : W.1 3 6 = 4) (h28 : W.1 2 8 = 2) (h24 : W.1 2 4 = 4) : sX1_chooseByDigit W = some ((), (xwi W 2 0 (20 : Int32))) := by
  unfold sX1_chooseByDigit
  rw [h36, h28]
  rfl
theorem cbd_4_2_4 {c0 c1 c2 c3 c5 c6 c7 c9 c10 c11 c12 c13 c14 nx ct h nb : Int32} {w : xW} : sX1_chooseByDigit (dW [c0, c1, c2, c3, 4, c5, c6, c7, 2, c9, c10, c11, c12, c13, c14] [nx, ct, 1, h, 4, nb] w) = some ((), dW [20, c1, c2, c3, 4, c5, c6, c7, 2, c9, c10, c11, c12, c13, c14] [nx, ct, 1, h, 4, nb] w) := Eq.trans (cbd_4_2_4_g (Eq.trans (dW_3 (by decide) (by decide)) rfl) (Eq.trans (dW_2 (by decide)) rfl) (Eq.trans (dW_2 (by decide)) rfl)) (by simp (decide := true) only [xwi_d2, xwi_d3, List.set, List.length, Nat.reduceSub])
theorem cbd_5_2_1_0_g {W : xW} (h36 : W.1 3 6 = 5) (h28 : W.1 2 8 = 2) (h24 : W.1 2 4 = 1) (h26 : W.1 2 6 = 0) : sX1_chooseByDigit W = some ((), (xwi (xwi (xwi W 3 4 (0 : Int32)) 2 0 (44 : Int32)) 3 4 (0 : Int32))) := by
  unfold sX1_chooseByDigit
  rw [h36, h28]
  show xbd (sX1_chooseCounting 2 W) (fun _ w2 => some ((), w2)) = _
  rw [show sX1_chooseCounting 2 W = sX1_chooseCounting_j22 2 0 W from by unfold sX1_chooseCounting; rw [h24]; rfl]
  rw [show sX1_chooseCounting_j22 2 0 W = sX1_chooseCounting_j94 2 (xwi W 3 4 0) from rfl, show sX1_chooseCounting_j94 2 (xwi W 3 4 0) = sX1_chooseCounting_j112 44 (xwi W 3 4 0) from rfl]
  unfold sX1_chooseCounting_j112
  rw [show (xwi W 3 4 0).1 2 6 = 0 from h26]
  rfl
theorem cbd_5_2_1_0 {c0 c1 c2 c3 c5 c7 c9 c10 c11 c12 c13 c14 nx ct h nb : Int32} {w : xW} : sX1_chooseByDigit (dW [c0, c1, c2, c3, 1, c5, 0, c7, 2, c9, c10, c11, c12, c13, c14] [nx, ct, 1, h, 5, nb] w) = some ((), dW [44, c1, c2, c3, 1, c5, 0, c7, 2, c9, c10, c11, c12, c13, c14] [nx, ct, 0, h, 5, nb] w) := Eq.trans (cbd_5_2_1_0_g (Eq.trans (dW_3 (by decide) (by decide)) rfl) (Eq.trans (dW_2 (by decide)) rfl) (Eq.trans (dW_2 (by decide)) rfl) (Eq.trans (dW_2 (by decide)) rfl)) (by simp (decide := true) only [xwi_d2, xwi_d3, List.set, List.length, Nat.reduceSub])
theorem cbd_5_2_1_1_g {W : xW} (h36 : W.1 3 6 = 5) (h28 : W.1 2 8 = 2) (h24 : W.1 2 4 = 1) (h26 : W.1 2 6 = 1) : sX1_chooseByDigit W = some ((), (xwi (xwi (xwi W 3 4 (0 : Int32)) 2 0 (44 : Int32)) 3 4 (0 : Int32))) := by
  unfold sX1_chooseByDigit
  rw [h36, h28]
  show xbd (sX1_chooseCounting 2 W) (fun _ w2 => some ((), w2)) = _
  rw [show sX1_chooseCounting 2 W = sX1_chooseCounting_j22 2 0 W from by unfold sX1_chooseCounting; rw [h24]; rfl]
  rw [show sX1_chooseCounting_j22 2 0 W = sX1_chooseCounting_j94 2 (xwi W 3 4 0) from rfl, show sX1_chooseCounting_j94 2 (xwi W 3 4 0) = sX1_chooseCounting_j112 44 (xwi W 3 4 0) from rfl]
  unfold sX1_chooseCounting_j112
  rw [show (xwi W 3 4 0).1 2 6 = 1 from h26]
  rfl
theorem cbd_5_2_1_1 {c0 c1 c2 c3 c5 c7 c9 c10 c11 c12 c13 c14 nx ct h nb : Int32} {w : xW} : sX1_chooseByDigit (dW [c0, c1, c2, c3, 1, c5, 1, c7, 2, c9, c10, c11, c12, c13, c14] [nx, ct, 1, h, 5, nb] w) = some ((), dW [44, c1, c2, c3, 1, c5, 1, c7, 2, c9, c10, c11, c12, c13, c14] [nx, ct, 0, h, 5, nb] w) := Eq.trans (cbd_5_2_1_1_g (Eq.trans (dW_3 (by decide) (by decide)) rfl) (Eq.trans (dW_2 (by decide)) rfl) (Eq.trans (dW_2 (by decide)) rfl) (Eq.trans (dW_2 (by decide)) rfl)) (by simp (decide := true) only [xwi_d2, xwi_d3, List.set, List.length, Nat.reduceSub])
theorem cbd_5_2_4_0_g {W : xW} (h36 : W.1 3 6 = 5) (h28 : W.1 2 8 = 2) (h24 : W.1 2 4 = 4) (h26 : W.1 2 6 = 0) : sX1_chooseByDigit W = some ((), (xwi (xwi (xwi W 3 4 (1 : Int32)) 2 0 (44 : Int32)) 3 4 (1 : Int32))) := by
  unfold sX1_chooseByDigit
  rw [h36, h28]
  show xbd (sX1_chooseCounting 2 W) (fun _ w2 => some ((), w2)) = _
  rw [show sX1_chooseCounting 2 W = sX1_chooseCounting_j22 2 1 W from by unfold sX1_chooseCounting; rw [h24]; rfl]
  rw [show sX1_chooseCounting_j22 2 1 W = sX1_chooseCounting_j94 2 (xwi W 3 4 1) from rfl, show sX1_chooseCounting_j94 2 (xwi W 3 4 1) = sX1_chooseCounting_j112 44 (xwi W 3 4 1) from rfl]
  unfold sX1_chooseCounting_j112
  rw [show (xwi W 3 4 1).1 2 6 = 0 from h26]
  rfl
theorem cbd_5_2_4_0 {c0 c1 c2 c3 c5 c7 c9 c10 c11 c12 c13 c14 nx ct h nb : Int32} {w : xW} : sX1_chooseByDigit (dW [c0, c1, c2, c3, 4, c5, 0, c7, 2, c9, c10, c11, c12, c13, c14] [nx, ct, 1, h, 5, nb] w) = some ((), dW [44, c1, c2, c3, 4, c5, 0, c7, 2, c9, c10, c11, c12, c13, c14] [nx, ct, 1, h, 5, nb] w) := Eq.trans (cbd_5_2_4_0_g (Eq.trans (dW_3 (by decide) (by decide)) rfl) (Eq.trans (dW_2 (by decide)) rfl) (Eq.trans (dW_2 (by decide)) rfl) (Eq.trans (dW_2 (by decide)) rfl)) (by simp (decide := true) only [xwi_d2, xwi_d3, List.set, List.length, Nat.reduceSub])
theorem cbd_5_2_4_1_g {W : xW} (h36 : W.1 3 6 = 5) (h28 : W.1 2 8 = 2) (h24 : W.1 2 4 = 4) (h26 : W.1 2 6 = 1) : sX1_chooseByDigit W = some ((), (xwi (xwi (xwi W 3 4 (1 : Int32)) 2 0 (44 : Int32)) 3 4 (0 : Int32))) := by
  unfold sX1_chooseByDigit
  rw [h36, h28]
  show xbd (sX1_chooseCounting 2 W) (fun _ w2 => some ((), w2)) = _
  rw [show sX1_chooseCounting 2 W = sX1_chooseCounting_j22 2 1 W from by unfold sX1_chooseCounting; rw [h24]; rfl]
  rw [show sX1_chooseCounting_j22 2 1 W = sX1_chooseCounting_j94 2 (xwi W 3 4 1) from rfl, show sX1_chooseCounting_j94 2 (xwi W 3 4 1) = sX1_chooseCounting_j112 44 (xwi W 3 4 1) from rfl]
  unfold sX1_chooseCounting_j112
  rw [show (xwi W 3 4 1).1 2 6 = 1 from h26]
  rfl
theorem cbd_5_2_4_1 {c0 c1 c2 c3 c5 c7 c9 c10 c11 c12 c13 c14 nx ct h nb : Int32} {w : xW} : sX1_chooseByDigit (dW [c0, c1, c2, c3, 4, c5, 1, c7, 2, c9, c10, c11, c12, c13, c14] [nx, ct, 1, h, 5, nb] w) = some ((), dW [44, c1, c2, c3, 4, c5, 1, c7, 2, c9, c10, c11, c12, c13, c14] [nx, ct, 0, h, 5, nb] w) := Eq.trans (cbd_5_2_4_1_g (Eq.trans (dW_3 (by decide) (by decide)) rfl) (Eq.trans (dW_2 (by decide)) rfl) (Eq.trans (dW_2 (by decide)) rfl) (Eq.trans (dW_2 (by decide)) rfl)) (by simp (decide := true) only [xwi_d2, xwi_d3, List.set, List.length, Nat.reduceSub])
theorem cbd_1_3_g {W : xW} (h36 : W.1 3 6 = 1) (h28 : W.1 2 8 = 3) : sX1_chooseByDigit W = some ((), (xwi W 3 4 (0 : Int32))) := by
  unfold sX1_chooseByDigit
  rw [h36, h28]
  rfl
theorem cbd_1_3 {c0 c1 c2 c3 c4 c5 c6 c7 c9 c10 c11 c12 c13 c14 nx ct h nb : Int32} {w : xW} : sX1_chooseByDigit (dW [c0, c1, c2, c3, c4, c5, c6, c7, 3, c9, c10, c11, c12, c13, c14] [nx, ct, 1, h, 1, nb] w) = some ((), dW [c0, c1, c2, c3, c4, c5, c6, c7, 3, c9, c10, c11, c12, c13, c14] [nx, ct, 0, h, 1, nb] w) := Eq.trans (cbd_1_3_g (Eq.trans (dW_3 (by decide) (by decide)) rfl) (Eq.trans (dW_2 (by decide)) rfl)) (by simp (decide := true) only [xwi_d2, xwi_d3, List.set, List.length, Nat.reduceSub])
theorem cbd_2_3_g {W : xW} (h36 : W.1 3 6 = 2) (h28 : W.1 2 8 = 3) : sX1_chooseByDigit W = some ((), (xwi W 2 0 (3 : Int32))) := by
  unfold sX1_chooseByDigit
  rw [h36, h28]
  rfl
theorem cbd_2_3 {c0 c1 c2 c3 c4 c5 c6 c7 c9 c10 c11 c12 c13 c14 nx ct h nb : Int32} {w : xW} : sX1_chooseByDigit (dW [c0, c1, c2, c3, c4, c5, c6, c7, 3, c9, c10, c11, c12, c13, c14] [nx, ct, 1, h, 2, nb] w) = some ((), dW [3, c1, c2, c3, c4, c5, c6, c7, 3, c9, c10, c11, c12, c13, c14] [nx, ct, 1, h, 2, nb] w) := Eq.trans (cbd_2_3_g (Eq.trans (dW_3 (by decide) (by decide)) rfl) (Eq.trans (dW_2 (by decide)) rfl)) (by simp (decide := true) only [xwi_d2, xwi_d3, List.set, List.length, Nat.reduceSub])
theorem cbd_3_3_g {W : xW} (h36 : W.1 3 6 = 3) (h28 : W.1 2 8 = 3) : sX1_chooseByDigit W = some ((), (xwi (xwi W 2 0 (11 : Int32)) 3 4 (1 : Int32))) := by
  unfold sX1_chooseByDigit
  rw [h36, h28]
  rfl
theorem cbd_3_3 {c0 c1 c2 c3 c4 c5 c6 c7 c9 c10 c11 c12 c13 c14 nx ct h nb : Int32} {w : xW} : sX1_chooseByDigit (dW [c0, c1, c2, c3, c4, c5, c6, c7, 3, c9, c10, c11, c12, c13, c14] [nx, ct, 1, h, 3, nb] w) = some ((), dW [11, c1, c2, c3, c4, c5, c6, c7, 3, c9, c10, c11, c12, c13, c14] [nx, ct, 1, h, 3, nb] w) := Eq.trans (cbd_3_3_g (Eq.trans (dW_3 (by decide) (by decide)) rfl) (Eq.trans (dW_2 (by decide)) rfl)) (by simp (decide := true) only [xwi_d2, xwi_d3, List.set, List.length, Nat.reduceSub])
theorem cbd_4_3_1_g {W : xW} (h36 : W.1 3 6 = 4) (h28 : W.1 2 8 = 3) (h24 : W.1 2 4 = 1) : sX1_chooseByDigit W = some ((), (xwi W 2 0 (19 : Int32))) := by
  unfold sX1_chooseByDigit
  rw [h36, h28]
  rfl
theorem cbd_4_3_1 {c0 c1 c2 c3 c5 c6 c7 c9 c10 c11 c12 c13 c14 nx ct h nb : Int32} {w : xW} : sX1_chooseByDigit (dW [c0, c1, c2, c3, 1, c5, c6, c7, 3, c9, c10, c11, c12, c13, c14] [nx, ct, 1, h, 4, nb] w) = some ((), dW [19, c1, c2, c3, 1, c5, c6, c7, 3, c9, c10, c11, c12, c13, c14] [nx, ct, 1, h, 4, nb] w) := Eq.trans (cbd_4_3_1_g (Eq.trans (dW_3 (by decide) (by decide)) rfl) (Eq.trans (dW_2 (by decide)) rfl) (Eq.trans (dW_2 (by decide)) rfl)) (by simp (decide := true) only [xwi_d2, xwi_d3, List.set, List.length, Nat.reduceSub])
theorem cbd_4_3_4_g {W : xW} (h36 : W.1 3 6 = 4) (h28 : W.1 2 8 = 3) (h24 : W.1 2 4 = 4) : sX1_chooseByDigit W = some ((), (xwi W 2 0 (19 : Int32))) := by
  unfold sX1_chooseByDigit
  rw [h36, h28]
  rfl
theorem cbd_4_3_4 {c0 c1 c2 c3 c5 c6 c7 c9 c10 c11 c12 c13 c14 nx ct h nb : Int32} {w : xW} : sX1_chooseByDigit (dW [c0, c1, c2, c3, 4, c5, c6, c7, 3, c9, c10, c11, c12, c13, c14] [nx, ct, 1, h, 4, nb] w) = some ((), dW [19, c1, c2, c3, 4, c5, c6, c7, 3, c9, c10, c11, c12, c13, c14] [nx, ct, 1, h, 4, nb] w) := Eq.trans (cbd_4_3_4_g (Eq.trans (dW_3 (by decide) (by decide)) rfl) (Eq.trans (dW_2 (by decide)) rfl) (Eq.trans (dW_2 (by decide)) rfl)) (by simp (decide := true) only [xwi_d2, xwi_d3, List.set, List.length, Nat.reduceSub])
theorem cbd_5_3_1_0_g {W : xW} (h36 : W.1 3 6 = 5) (h28 : W.1 2 8 = 3) (h24 : W.1 2 4 = 1) (h26 : W.1 2 6 = 0) : sX1_chooseByDigit W = some ((), (xwi (xwi W 3 4 (0 : Int32)) 3 4 (0 : Int32))) := by
  unfold sX1_chooseByDigit
  rw [h36, h28]
  show xbd (sX1_chooseCounting 3 W) (fun _ w2 => some ((), w2)) = _
  rw [show sX1_chooseCounting 3 W = sX1_chooseCounting_j22 3 0 W from by unfold sX1_chooseCounting; rw [h24]; rfl]
  rfl
theorem cbd_5_3_1_0 {c0 c1 c2 c3 c5 c7 c9 c10 c11 c12 c13 c14 nx ct h nb : Int32} {w : xW} : sX1_chooseByDigit (dW [c0, c1, c2, c3, 1, c5, 0, c7, 3, c9, c10, c11, c12, c13, c14] [nx, ct, 1, h, 5, nb] w) = some ((), dW [c0, c1, c2, c3, 1, c5, 0, c7, 3, c9, c10, c11, c12, c13, c14] [nx, ct, 0, h, 5, nb] w) := Eq.trans (cbd_5_3_1_0_g (Eq.trans (dW_3 (by decide) (by decide)) rfl) (Eq.trans (dW_2 (by decide)) rfl) (Eq.trans (dW_2 (by decide)) rfl) (Eq.trans (dW_2 (by decide)) rfl)) (by simp (decide := true) only [xwi_d2, xwi_d3, List.set, List.length, Nat.reduceSub])
theorem cbd_5_3_1_1_g {W : xW} (h36 : W.1 3 6 = 5) (h28 : W.1 2 8 = 3) (h24 : W.1 2 4 = 1) (h26 : W.1 2 6 = 1) : sX1_chooseByDigit W = some ((), (xwi (xwi W 3 4 (0 : Int32)) 3 4 (0 : Int32))) := by
  unfold sX1_chooseByDigit
  rw [h36, h28]
  show xbd (sX1_chooseCounting 3 W) (fun _ w2 => some ((), w2)) = _
  rw [show sX1_chooseCounting 3 W = sX1_chooseCounting_j22 3 0 W from by unfold sX1_chooseCounting; rw [h24]; rfl]
  rfl
theorem cbd_5_3_1_1 {c0 c1 c2 c3 c5 c7 c9 c10 c11 c12 c13 c14 nx ct h nb : Int32} {w : xW} : sX1_chooseByDigit (dW [c0, c1, c2, c3, 1, c5, 1, c7, 3, c9, c10, c11, c12, c13, c14] [nx, ct, 1, h, 5, nb] w) = some ((), dW [c0, c1, c2, c3, 1, c5, 1, c7, 3, c9, c10, c11, c12, c13, c14] [nx, ct, 0, h, 5, nb] w) := Eq.trans (cbd_5_3_1_1_g (Eq.trans (dW_3 (by decide) (by decide)) rfl) (Eq.trans (dW_2 (by decide)) rfl) (Eq.trans (dW_2 (by decide)) rfl) (Eq.trans (dW_2 (by decide)) rfl)) (by simp (decide := true) only [xwi_d2, xwi_d3, List.set, List.length, Nat.reduceSub])
theorem cbd_5_3_4_0_g {W : xW} (h36 : W.1 3 6 = 5) (h28 : W.1 2 8 = 3) (h24 : W.1 2 4 = 4) (h26 : W.1 2 6 = 0) : sX1_chooseByDigit W = some ((), (xwi (xwi W 3 4 (1 : Int32)) 3 4 (0 : Int32))) := by
  unfold sX1_chooseByDigit
  rw [h36, h28]
  show xbd (sX1_chooseCounting 3 W) (fun _ w2 => some ((), w2)) = _
  rw [show sX1_chooseCounting 3 W = sX1_chooseCounting_j22 3 1 W from by unfold sX1_chooseCounting; rw [h24]; rfl]
  rfl
theorem cbd_5_3_4_0 {c0 c1 c2 c3 c5 c7 c9 c10 c11 c12 c13 c14 nx ct h nb : Int32} {w : xW} : sX1_chooseByDigit (dW [c0, c1, c2, c3, 4, c5, 0, c7, 3, c9, c10, c11, c12, c13, c14] [nx, ct, 1, h, 5, nb] w) = some ((), dW [c0, c1, c2, c3, 4, c5, 0, c7, 3, c9, c10, c11, c12, c13, c14] [nx, ct, 0, h, 5, nb] w) := Eq.trans (cbd_5_3_4_0_g (Eq.trans (dW_3 (by decide) (by decide)) rfl) (Eq.trans (dW_2 (by decide)) rfl) (Eq.trans (dW_2 (by decide)) rfl) (Eq.trans (dW_2 (by decide)) rfl)) (by simp (decide := true) only [xwi_d2, xwi_d3, List.set, List.length, Nat.reduceSub])
theorem cbd_5_3_4_1_g {W : xW} (h36 : W.1 3 6 = 5) (h28 : W.1 2 8 = 3) (h24 : W.1 2 4 = 4) (h26 : W.1 2 6 = 1) : sX1_chooseByDigit W = some ((), (xwi (xwi W 3 4 (1 : Int32)) 3 4 (0 : Int32))) := by
  unfold sX1_chooseByDigit
  rw [h36, h28]
  show xbd (sX1_chooseCounting 3 W) (fun _ w2 => some ((), w2)) = _
  rw [show sX1_chooseCounting 3 W = sX1_chooseCounting_j22 3 1 W from by unfold sX1_chooseCounting; rw [h24]; rfl]
  rfl
theorem cbd_5_3_4_1 {c0 c1 c2 c3 c5 c7 c9 c10 c11 c12 c13 c14 nx ct h nb : Int32} {w : xW} : sX1_chooseByDigit (dW [c0, c1, c2, c3, 4, c5, 1, c7, 3, c9, c10, c11, c12, c13, c14] [nx, ct, 1, h, 5, nb] w) = some ((), dW [c0, c1, c2, c3, 4, c5, 1, c7, 3, c9, c10, c11, c12, c13, c14] [nx, ct, 0, h, 5, nb] w) := Eq.trans (cbd_5_3_4_1_g (Eq.trans (dW_3 (by decide) (by decide)) rfl) (Eq.trans (dW_2 (by decide)) rfl) (Eq.trans (dW_2 (by decide)) rfl) (Eq.trans (dW_2 (by decide)) rfl)) (by simp (decide := true) only [xwi_d2, xwi_d3, List.set, List.length, Nat.reduceSub])
theorem cbd_1_4_g {W : xW} (h36 : W.1 3 6 = 1) (h28 : W.1 2 8 = 4) : sX1_chooseByDigit W = some ((), (xwi W 3 4 (0 : Int32))) := by
  unfold sX1_chooseByDigit
  rw [h36, h28]
  rfl
theorem cbd_1_4 {c0 c1 c2 c3 c4 c5 c6 c7 c9 c10 c11 c12 c13 c14 nx ct h nb : Int32} {w : xW} : sX1_chooseByDigit (dW [c0, c1, c2, c3, c4, c5, c6, c7, 4, c9, c10, c11, c12, c13, c14] [nx, ct, 1, h, 1, nb] w) = some ((), dW [c0, c1, c2, c3, c4, c5, c6, c7, 4, c9, c10, c11, c12, c13, c14] [nx, ct, 0, h, 1, nb] w) := Eq.trans (cbd_1_4_g (Eq.trans (dW_3 (by decide) (by decide)) rfl) (Eq.trans (dW_2 (by decide)) rfl)) (by simp (decide := true) only [xwi_d2, xwi_d3, List.set, List.length, Nat.reduceSub])
theorem cbd_2_4_g {W : xW} (h36 : W.1 3 6 = 2) (h28 : W.1 2 8 = 4) : sX1_chooseByDigit W = some ((), (xwi W 2 0 (4 : Int32))) := by
  unfold sX1_chooseByDigit
  rw [h36, h28]
  rfl
theorem cbd_2_4 {c0 c1 c2 c3 c4 c5 c6 c7 c9 c10 c11 c12 c13 c14 nx ct h nb : Int32} {w : xW} : sX1_chooseByDigit (dW [c0, c1, c2, c3, c4, c5, c6, c7, 4, c9, c10, c11, c12, c13, c14] [nx, ct, 1, h, 2, nb] w) = some ((), dW [4, c1, c2, c3, c4, c5, c6, c7, 4, c9, c10, c11, c12, c13, c14] [nx, ct, 1, h, 2, nb] w) := Eq.trans (cbd_2_4_g (Eq.trans (dW_3 (by decide) (by decide)) rfl) (Eq.trans (dW_2 (by decide)) rfl)) (by simp (decide := true) only [xwi_d2, xwi_d3, List.set, List.length, Nat.reduceSub])
theorem cbd_3_4_g {W : xW} (h36 : W.1 3 6 = 3) (h28 : W.1 2 8 = 4) : sX1_chooseByDigit W = some ((), (xwi (xwi W 2 0 (12 : Int32)) 3 4 (1 : Int32))) := by
  unfold sX1_chooseByDigit
  rw [h36, h28]
  rfl
theorem cbd_3_4 {c0 c1 c2 c3 c4 c5 c6 c7 c9 c10 c11 c12 c13 c14 nx ct h nb : Int32} {w : xW} : sX1_chooseByDigit (dW [c0, c1, c2, c3, c4, c5, c6, c7, 4, c9, c10, c11, c12, c13, c14] [nx, ct, 1, h, 3, nb] w) = some ((), dW [12, c1, c2, c3, c4, c5, c6, c7, 4, c9, c10, c11, c12, c13, c14] [nx, ct, 1, h, 3, nb] w) := Eq.trans (cbd_3_4_g (Eq.trans (dW_3 (by decide) (by decide)) rfl) (Eq.trans (dW_2 (by decide)) rfl)) (by simp (decide := true) only [xwi_d2, xwi_d3, List.set, List.length, Nat.reduceSub])
theorem cbd_4_4_1_g {W : xW} (h36 : W.1 3 6 = 4) (h28 : W.1 2 8 = 4) (h24 : W.1 2 4 = 1) : sX1_chooseByDigit W = some ((), (xwi W 2 0 (23 : Int32))) := by
  unfold sX1_chooseByDigit
  rw [h36, h28]
  rfl
theorem cbd_4_4_1 {c0 c1 c2 c3 c5 c6 c7 c9 c10 c11 c12 c13 c14 nx ct h nb : Int32} {w : xW} : sX1_chooseByDigit (dW [c0, c1, c2, c3, 1, c5, c6, c7, 4, c9, c10, c11, c12, c13, c14] [nx, ct, 1, h, 4, nb] w) = some ((), dW [23, c1, c2, c3, 1, c5, c6, c7, 4, c9, c10, c11, c12, c13, c14] [nx, ct, 1, h, 4, nb] w) := Eq.trans (cbd_4_4_1_g (Eq.trans (dW_3 (by decide) (by decide)) rfl) (Eq.trans (dW_2 (by decide)) rfl) (Eq.trans (dW_2 (by decide)) rfl)) (by simp (decide := true) only [xwi_d2, xwi_d3, List.set, List.length, Nat.reduceSub])
theorem cbd_4_4_4_g {W : xW} (h36 : W.1 3 6 = 4) (h28 : W.1 2 8 = 4) (h24 : W.1 2 4 = 4) : sX1_chooseByDigit W = some ((), (xwi W 2 0 (23 : Int32))) := by
  unfold sX1_chooseByDigit
  rw [h36, h28]
  rfl
theorem cbd_4_4_4 {c0 c1 c2 c3 c5 c6 c7 c9 c10 c11 c12 c13 c14 nx ct h nb : Int32} {w : xW} : sX1_chooseByDigit (dW [c0, c1, c2, c3, 4, c5, c6, c7, 4, c9, c10, c11, c12, c13, c14] [nx, ct, 1, h, 4, nb] w) = some ((), dW [23, c1, c2, c3, 4, c5, c6, c7, 4, c9, c10, c11, c12, c13, c14] [nx, ct, 1, h, 4, nb] w) := Eq.trans (cbd_4_4_4_g (Eq.trans (dW_3 (by decide) (by decide)) rfl) (Eq.trans (dW_2 (by decide)) rfl) (Eq.trans (dW_2 (by decide)) rfl)) (by simp (decide := true) only [xwi_d2, xwi_d3, List.set, List.length, Nat.reduceSub])
theorem cbd_5_4_1_0_g {W : xW} (h36 : W.1 3 6 = 5) (h28 : W.1 2 8 = 4) (h24 : W.1 2 4 = 1) (h26 : W.1 2 6 = 0) : sX1_chooseByDigit W = some ((), (xwi (xwi (xwi W 3 4 (0 : Int32)) 2 0 (45 : Int32)) 3 4 (0 : Int32))) := by
  unfold sX1_chooseByDigit
  rw [h36, h28]
  show xbd (sX1_chooseCounting 4 W) (fun _ w2 => some ((), w2)) = _
  rw [show sX1_chooseCounting 4 W = sX1_chooseCounting_j22 4 0 W from by unfold sX1_chooseCounting; rw [h24]; rfl]
  rw [show sX1_chooseCounting_j22 4 0 W = sX1_chooseCounting_j94 4 (xwi W 3 4 0) from rfl, show sX1_chooseCounting_j94 4 (xwi W 3 4 0) = sX1_chooseCounting_j112 45 (xwi W 3 4 0) from rfl]
  unfold sX1_chooseCounting_j112
  rw [show (xwi W 3 4 0).1 2 6 = 0 from h26]
  rfl
theorem cbd_5_4_1_0 {c0 c1 c2 c3 c5 c7 c9 c10 c11 c12 c13 c14 nx ct h nb : Int32} {w : xW} : sX1_chooseByDigit (dW [c0, c1, c2, c3, 1, c5, 0, c7, 4, c9, c10, c11, c12, c13, c14] [nx, ct, 1, h, 5, nb] w) = some ((), dW [45, c1, c2, c3, 1, c5, 0, c7, 4, c9, c10, c11, c12, c13, c14] [nx, ct, 0, h, 5, nb] w) := Eq.trans (cbd_5_4_1_0_g (Eq.trans (dW_3 (by decide) (by decide)) rfl) (Eq.trans (dW_2 (by decide)) rfl) (Eq.trans (dW_2 (by decide)) rfl) (Eq.trans (dW_2 (by decide)) rfl)) (by simp (decide := true) only [xwi_d2, xwi_d3, List.set, List.length, Nat.reduceSub])
theorem cbd_5_4_1_1_g {W : xW} (h36 : W.1 3 6 = 5) (h28 : W.1 2 8 = 4) (h24 : W.1 2 4 = 1) (h26 : W.1 2 6 = 1) : sX1_chooseByDigit W = some ((), (xwi (xwi (xwi W 3 4 (0 : Int32)) 2 0 (45 : Int32)) 3 4 (0 : Int32))) := by
  unfold sX1_chooseByDigit
  rw [h36, h28]
  show xbd (sX1_chooseCounting 4 W) (fun _ w2 => some ((), w2)) = _
  rw [show sX1_chooseCounting 4 W = sX1_chooseCounting_j22 4 0 W from by unfold sX1_chooseCounting; rw [h24]; rfl]
  rw [show sX1_chooseCounting_j22 4 0 W = sX1_chooseCounting_j94 4 (xwi W 3 4 0) from rfl, show sX1_chooseCounting_j94 4 (xwi W 3 4 0) = sX1_chooseCounting_j112 45 (xwi W 3 4 0) from rfl]
  unfold sX1_chooseCounting_j112
  rw [show (xwi W 3 4 0).1 2 6 = 1 from h26]
  rfl
theorem cbd_5_4_1_1 {c0 c1 c2 c3 c5 c7 c9 c10 c11 c12 c13 c14 nx ct h nb : Int32} {w : xW} : sX1_chooseByDigit (dW [c0, c1, c2, c3, 1, c5, 1, c7, 4, c9, c10, c11, c12, c13, c14] [nx, ct, 1, h, 5, nb] w) = some ((), dW [45, c1, c2, c3, 1, c5, 1, c7, 4, c9, c10, c11, c12, c13, c14] [nx, ct, 0, h, 5, nb] w) := Eq.trans (cbd_5_4_1_1_g (Eq.trans (dW_3 (by decide) (by decide)) rfl) (Eq.trans (dW_2 (by decide)) rfl) (Eq.trans (dW_2 (by decide)) rfl) (Eq.trans (dW_2 (by decide)) rfl)) (by simp (decide := true) only [xwi_d2, xwi_d3, List.set, List.length, Nat.reduceSub])
theorem cbd_5_4_4_0_g {W : xW} (h36 : W.1 3 6 = 5) (h28 : W.1 2 8 = 4) (h24 : W.1 2 4 = 4) (h26 : W.1 2 6 = 0) : sX1_chooseByDigit W = some ((), (xwi (xwi (xwi W 3 4 (1 : Int32)) 2 0 (45 : Int32)) 3 4 (1 : Int32))) := by
  unfold sX1_chooseByDigit
  rw [h36, h28]
  show xbd (sX1_chooseCounting 4 W) (fun _ w2 => some ((), w2)) = _
  rw [show sX1_chooseCounting 4 W = sX1_chooseCounting_j22 4 1 W from by unfold sX1_chooseCounting; rw [h24]; rfl]
  rw [show sX1_chooseCounting_j22 4 1 W = sX1_chooseCounting_j94 4 (xwi W 3 4 1) from rfl, show sX1_chooseCounting_j94 4 (xwi W 3 4 1) = sX1_chooseCounting_j112 45 (xwi W 3 4 1) from rfl]
  unfold sX1_chooseCounting_j112
  rw [show (xwi W 3 4 1).1 2 6 = 0 from h26]
  rfl
theorem cbd_5_4_4_0 {c0 c1 c2 c3 c5 c7 c9 c10 c11 c12 c13 c14 nx ct h nb : Int32} {w : xW} : sX1_chooseByDigit (dW [c0, c1, c2, c3, 4, c5, 0, c7, 4, c9, c10, c11, c12, c13, c14] [nx, ct, 1, h, 5, nb] w) = some ((), dW [45, c1, c2, c3, 4, c5, 0, c7, 4, c9, c10, c11, c12, c13, c14] [nx, ct, 1, h, 5, nb] w) := Eq.trans (cbd_5_4_4_0_g (Eq.trans (dW_3 (by decide) (by decide)) rfl) (Eq.trans (dW_2 (by decide)) rfl) (Eq.trans (dW_2 (by decide)) rfl) (Eq.trans (dW_2 (by decide)) rfl)) (by simp (decide := true) only [xwi_d2, xwi_d3, List.set, List.length, Nat.reduceSub])
theorem cbd_5_4_4_1_g {W : xW} (h36 : W.1 3 6 = 5) (h28 : W.1 2 8 = 4) (h24 : W.1 2 4 = 4) (h26 : W.1 2 6 = 1) : sX1_chooseByDigit W = some ((), (xwi (xwi (xwi W 3 4 (1 : Int32)) 2 0 (45 : Int32)) 3 4 (0 : Int32))) := by
  unfold sX1_chooseByDigit
  rw [h36, h28]
  show xbd (sX1_chooseCounting 4 W) (fun _ w2 => some ((), w2)) = _
  rw [show sX1_chooseCounting 4 W = sX1_chooseCounting_j22 4 1 W from by unfold sX1_chooseCounting; rw [h24]; rfl]
  rw [show sX1_chooseCounting_j22 4 1 W = sX1_chooseCounting_j94 4 (xwi W 3 4 1) from rfl, show sX1_chooseCounting_j94 4 (xwi W 3 4 1) = sX1_chooseCounting_j112 45 (xwi W 3 4 1) from rfl]
  unfold sX1_chooseCounting_j112
  rw [show (xwi W 3 4 1).1 2 6 = 1 from h26]
  rfl
theorem cbd_5_4_4_1 {c0 c1 c2 c3 c5 c7 c9 c10 c11 c12 c13 c14 nx ct h nb : Int32} {w : xW} : sX1_chooseByDigit (dW [c0, c1, c2, c3, 4, c5, 1, c7, 4, c9, c10, c11, c12, c13, c14] [nx, ct, 1, h, 5, nb] w) = some ((), dW [45, c1, c2, c3, 4, c5, 1, c7, 4, c9, c10, c11, c12, c13, c14] [nx, ct, 0, h, 5, nb] w) := Eq.trans (cbd_5_4_4_1_g (Eq.trans (dW_3 (by decide) (by decide)) rfl) (Eq.trans (dW_2 (by decide)) rfl) (Eq.trans (dW_2 (by decide)) rfl) (Eq.trans (dW_2 (by decide)) rfl)) (by simp (decide := true) only [xwi_d2, xwi_d3, List.set, List.length, Nat.reduceSub])
theorem cbd_1_5_g {W : xW} (h36 : W.1 3 6 = 1) (h28 : W.1 2 8 = 5) : sX1_chooseByDigit W = some ((), (xwi W 3 4 (0 : Int32))) := by
  unfold sX1_chooseByDigit
  rw [h36, h28]
  rfl
theorem cbd_1_5 {c0 c1 c2 c3 c4 c5 c6 c7 c9 c10 c11 c12 c13 c14 nx ct h nb : Int32} {w : xW} : sX1_chooseByDigit (dW [c0, c1, c2, c3, c4, c5, c6, c7, 5, c9, c10, c11, c12, c13, c14] [nx, ct, 1, h, 1, nb] w) = some ((), dW [c0, c1, c2, c3, c4, c5, c6, c7, 5, c9, c10, c11, c12, c13, c14] [nx, ct, 0, h, 1, nb] w) := Eq.trans (cbd_1_5_g (Eq.trans (dW_3 (by decide) (by decide)) rfl) (Eq.trans (dW_2 (by decide)) rfl)) (by simp (decide := true) only [xwi_d2, xwi_d3, List.set, List.length, Nat.reduceSub])
theorem cbd_2_5_g {W : xW} (h36 : W.1 3 6 = 2) (h28 : W.1 2 8 = 5) : sX1_chooseByDigit W = some ((), (xwi W 2 0 (5 : Int32))) := by
  unfold sX1_chooseByDigit
  rw [h36, h28]
  rfl
theorem cbd_2_5 {c0 c1 c2 c3 c4 c5 c6 c7 c9 c10 c11 c12 c13 c14 nx ct h nb : Int32} {w : xW} : sX1_chooseByDigit (dW [c0, c1, c2, c3, c4, c5, c6, c7, 5, c9, c10, c11, c12, c13, c14] [nx, ct, 1, h, 2, nb] w) = some ((), dW [5, c1, c2, c3, c4, c5, c6, c7, 5, c9, c10, c11, c12, c13, c14] [nx, ct, 1, h, 2, nb] w) := Eq.trans (cbd_2_5_g (Eq.trans (dW_3 (by decide) (by decide)) rfl) (Eq.trans (dW_2 (by decide)) rfl)) (by simp (decide := true) only [xwi_d2, xwi_d3, List.set, List.length, Nat.reduceSub])
theorem cbd_3_5_g {W : xW} (h36 : W.1 3 6 = 3) (h28 : W.1 2 8 = 5) : sX1_chooseByDigit W = some ((), (xwi (xwi W 2 0 (13 : Int32)) 3 4 (1 : Int32))) := by
  unfold sX1_chooseByDigit
  rw [h36, h28]
  rfl
theorem cbd_3_5 {c0 c1 c2 c3 c4 c5 c6 c7 c9 c10 c11 c12 c13 c14 nx ct h nb : Int32} {w : xW} : sX1_chooseByDigit (dW [c0, c1, c2, c3, c4, c5, c6, c7, 5, c9, c10, c11, c12, c13, c14] [nx, ct, 1, h, 3, nb] w) = some ((), dW [13, c1, c2, c3, c4, c5, c6, c7, 5, c9, c10, c11, c12, c13, c14] [nx, ct, 1, h, 3, nb] w) := Eq.trans (cbd_3_5_g (Eq.trans (dW_3 (by decide) (by decide)) rfl) (Eq.trans (dW_2 (by decide)) rfl)) (by simp (decide := true) only [xwi_d2, xwi_d3, List.set, List.length, Nat.reduceSub])
theorem cbd_4_5_1_g {W : xW} (h36 : W.1 3 6 = 4) (h28 : W.1 2 8 = 5) (h24 : W.1 2 4 = 1) : sX1_chooseByDigit W = some ((), (xwi W 2 0 (24 : Int32))) := by
  unfold sX1_chooseByDigit
  rw [h36, h28]
  rfl
theorem cbd_4_5_1 {c0 c1 c2 c3 c5 c6 c7 c9 c10 c11 c12 c13 c14 nx ct h nb : Int32} {w : xW} : sX1_chooseByDigit (dW [c0, c1, c2, c3, 1, c5, c6, c7, 5, c9, c10, c11, c12, c13, c14] [nx, ct, 1, h, 4, nb] w) = some ((), dW [24, c1, c2, c3, 1, c5, c6, c7, 5, c9, c10, c11, c12, c13, c14] [nx, ct, 1, h, 4, nb] w) := Eq.trans (cbd_4_5_1_g (Eq.trans (dW_3 (by decide) (by decide)) rfl) (Eq.trans (dW_2 (by decide)) rfl) (Eq.trans (dW_2 (by decide)) rfl)) (by simp (decide := true) only [xwi_d2, xwi_d3, List.set, List.length, Nat.reduceSub])
theorem cbd_4_5_4_g {W : xW} (h36 : W.1 3 6 = 4) (h28 : W.1 2 8 = 5) (h24 : W.1 2 4 = 4) : sX1_chooseByDigit W = some ((), (xwi W 2 0 (24 : Int32))) := by
  unfold sX1_chooseByDigit
  rw [h36, h28]
  rfl
theorem cbd_4_5_4 {c0 c1 c2 c3 c5 c6 c7 c9 c10 c11 c12 c13 c14 nx ct h nb : Int32} {w : xW} : sX1_chooseByDigit (dW [c0, c1, c2, c3, 4, c5, c6, c7, 5, c9, c10, c11, c12, c13, c14] [nx, ct, 1, h, 4, nb] w) = some ((), dW [24, c1, c2, c3, 4, c5, c6, c7, 5, c9, c10, c11, c12, c13, c14] [nx, ct, 1, h, 4, nb] w) := Eq.trans (cbd_4_5_4_g (Eq.trans (dW_3 (by decide) (by decide)) rfl) (Eq.trans (dW_2 (by decide)) rfl) (Eq.trans (dW_2 (by decide)) rfl)) (by simp (decide := true) only [xwi_d2, xwi_d3, List.set, List.length, Nat.reduceSub])
theorem cbd_5_5_1_0_g {W : xW} (h36 : W.1 3 6 = 5) (h28 : W.1 2 8 = 5) (h24 : W.1 2 4 = 1) (h26 : W.1 2 6 = 0) : sX1_chooseByDigit W = some ((), (xwi (xwi W 3 4 (0 : Int32)) 3 4 (0 : Int32))) := by
  unfold sX1_chooseByDigit
  rw [h36, h28]
  show xbd (sX1_chooseCounting 5 W) (fun _ w2 => some ((), w2)) = _
  rw [show sX1_chooseCounting 5 W = sX1_chooseCounting_j22 5 0 W from by unfold sX1_chooseCounting; rw [h24]; rfl]
  rfl
theorem cbd_5_5_1_0 {c0 c1 c2 c3 c5 c7 c9 c10 c11 c12 c13 c14 nx ct h nb : Int32} {w : xW} : sX1_chooseByDigit (dW [c0, c1, c2, c3, 1, c5, 0, c7, 5, c9, c10, c11, c12, c13, c14] [nx, ct, 1, h, 5, nb] w) = some ((), dW [c0, c1, c2, c3, 1, c5, 0, c7, 5, c9, c10, c11, c12, c13, c14] [nx, ct, 0, h, 5, nb] w) := Eq.trans (cbd_5_5_1_0_g (Eq.trans (dW_3 (by decide) (by decide)) rfl) (Eq.trans (dW_2 (by decide)) rfl) (Eq.trans (dW_2 (by decide)) rfl) (Eq.trans (dW_2 (by decide)) rfl)) (by simp (decide := true) only [xwi_d2, xwi_d3, List.set, List.length, Nat.reduceSub])
theorem cbd_5_5_1_1_g {W : xW} (h36 : W.1 3 6 = 5) (h28 : W.1 2 8 = 5) (h24 : W.1 2 4 = 1) (h26 : W.1 2 6 = 1) : sX1_chooseByDigit W = some ((), (xwi (xwi W 3 4 (0 : Int32)) 3 4 (0 : Int32))) := by
  unfold sX1_chooseByDigit
  rw [h36, h28]
  show xbd (sX1_chooseCounting 5 W) (fun _ w2 => some ((), w2)) = _
  rw [show sX1_chooseCounting 5 W = sX1_chooseCounting_j22 5 0 W from by unfold sX1_chooseCounting; rw [h24]; rfl]
  rfl
theorem cbd_5_5_1_1 {c0 c1 c2 c3 c5 c7 c9 c10 c11 c12 c13 c14 nx ct h nb : Int32} {w : xW} : sX1_chooseByDigit (dW [c0, c1, c2, c3, 1, c5, 1, c7, 5, c9, c10, c11, c12, c13, c14] [nx, ct, 1, h, 5, nb] w) = some ((), dW [c0, c1, c2, c3, 1, c5, 1, c7, 5, c9, c10, c11, c12, c13, c14] [nx, ct, 0, h, 5, nb] w) := Eq.trans (cbd_5_5_1_1_g (Eq.trans (dW_3 (by decide) (by decide)) rfl) (Eq.trans (dW_2 (by decide)) rfl) (Eq.trans (dW_2 (by decide)) rfl) (Eq.trans (dW_2 (by decide)) rfl)) (by simp (decide := true) only [xwi_d2, xwi_d3, List.set, List.length, Nat.reduceSub])
theorem cbd_5_5_4_0_g {W : xW} (h36 : W.1 3 6 = 5) (h28 : W.1 2 8 = 5) (h24 : W.1 2 4 = 4) (h26 : W.1 2 6 = 0) : sX1_chooseByDigit W = some ((), (xwi (xwi W 3 4 (1 : Int32)) 3 4 (0 : Int32))) := by
  unfold sX1_chooseByDigit
  rw [h36, h28]
  show xbd (sX1_chooseCounting 5 W) (fun _ w2 => some ((), w2)) = _
  rw [show sX1_chooseCounting 5 W = sX1_chooseCounting_j22 5 1 W from by unfold sX1_chooseCounting; rw [h24]; rfl]
  rfl
theorem cbd_5_5_4_0 {c0 c1 c2 c3 c5 c7 c9 c10 c11 c12 c13 c14 nx ct h nb : Int32} {w : xW} : sX1_chooseByDigit (dW [c0, c1, c2, c3, 4, c5, 0, c7, 5, c9, c10, c11, c12, c13, c14] [nx, ct, 1, h, 5, nb] w) = some ((), dW [c0, c1, c2, c3, 4, c5, 0, c7, 5, c9, c10, c11, c12, c13, c14] [nx, ct, 0, h, 5, nb] w) := Eq.trans (cbd_5_5_4_0_g (Eq.trans (dW_3 (by decide) (by decide)) rfl) (Eq.trans (dW_2 (by decide)) rfl) (Eq.trans (dW_2 (by decide)) rfl) (Eq.trans (dW_2 (by decide)) rfl)) (by simp (decide := true) only [xwi_d2, xwi_d3, List.set, List.length, Nat.reduceSub])
theorem cbd_5_5_4_1_g {W : xW} (h36 : W.1 3 6 = 5) (h28 : W.1 2 8 = 5) (h24 : W.1 2 4 = 4) (h26 : W.1 2 6 = 1) : sX1_chooseByDigit W = some ((), (xwi (xwi W 3 4 (1 : Int32)) 3 4 (0 : Int32))) := by
  unfold sX1_chooseByDigit
  rw [h36, h28]
  show xbd (sX1_chooseCounting 5 W) (fun _ w2 => some ((), w2)) = _
  rw [show sX1_chooseCounting 5 W = sX1_chooseCounting_j22 5 1 W from by unfold sX1_chooseCounting; rw [h24]; rfl]
  rfl
theorem cbd_5_5_4_1 {c0 c1 c2 c3 c5 c7 c9 c10 c11 c12 c13 c14 nx ct h nb : Int32} {w : xW} : sX1_chooseByDigit (dW [c0, c1, c2, c3, 4, c5, 1, c7, 5, c9, c10, c11, c12, c13, c14] [nx, ct, 1, h, 5, nb] w) = some ((), dW [c0, c1, c2, c3, 4, c5, 1, c7, 5, c9, c10, c11, c12, c13, c14] [nx, ct, 0, h, 5, nb] w) := Eq.trans (cbd_5_5_4_1_g (Eq.trans (dW_3 (by decide) (by decide)) rfl) (Eq.trans (dW_2 (by decide)) rfl) (Eq.trans (dW_2 (by decide)) rfl) (Eq.trans (dW_2 (by decide)) rfl)) (by simp (decide := true) only [xwi_d2, xwi_d3, List.set, List.length, Nat.reduceSub])
theorem cbd_1_6_g {W : xW} (h36 : W.1 3 6 = 1) (h28 : W.1 2 8 = 6) : sX1_chooseByDigit W = some ((), (xwi W 3 4 (0 : Int32))) := by
  unfold sX1_chooseByDigit
  rw [h36, h28]
  rfl
theorem cbd_1_6 {c0 c1 c2 c3 c4 c5 c6 c7 c9 c10 c11 c12 c13 c14 nx ct h nb : Int32} {w : xW} : sX1_chooseByDigit (dW [c0, c1, c2, c3, c4, c5, c6, c7, 6, c9, c10, c11, c12, c13, c14] [nx, ct, 1, h, 1, nb] w) = some ((), dW [c0, c1, c2, c3, c4, c5, c6, c7, 6, c9, c10, c11, c12, c13, c14] [nx, ct, 0, h, 1, nb] w) := Eq.trans (cbd_1_6_g (Eq.trans (dW_3 (by decide) (by decide)) rfl) (Eq.trans (dW_2 (by decide)) rfl)) (by simp (decide := true) only [xwi_d2, xwi_d3, List.set, List.length, Nat.reduceSub])
theorem cbd_2_6_g {W : xW} (h36 : W.1 3 6 = 2) (h28 : W.1 2 8 = 6) : sX1_chooseByDigit W = some ((), (xwi W 2 0 (6 : Int32))) := by
  unfold sX1_chooseByDigit
  rw [h36, h28]
  rfl
theorem cbd_2_6 {c0 c1 c2 c3 c4 c5 c6 c7 c9 c10 c11 c12 c13 c14 nx ct h nb : Int32} {w : xW} : sX1_chooseByDigit (dW [c0, c1, c2, c3, c4, c5, c6, c7, 6, c9, c10, c11, c12, c13, c14] [nx, ct, 1, h, 2, nb] w) = some ((), dW [6, c1, c2, c3, c4, c5, c6, c7, 6, c9, c10, c11, c12, c13, c14] [nx, ct, 1, h, 2, nb] w) := Eq.trans (cbd_2_6_g (Eq.trans (dW_3 (by decide) (by decide)) rfl) (Eq.trans (dW_2 (by decide)) rfl)) (by simp (decide := true) only [xwi_d2, xwi_d3, List.set, List.length, Nat.reduceSub])
theorem cbd_3_6_g {W : xW} (h36 : W.1 3 6 = 3) (h28 : W.1 2 8 = 6) : sX1_chooseByDigit W = some ((), (xwi (xwi W 2 0 (14 : Int32)) 3 4 (0 : Int32))) := by
  unfold sX1_chooseByDigit
  rw [h36, h28]
  rfl
theorem cbd_3_6 {c0 c1 c2 c3 c4 c5 c6 c7 c9 c10 c11 c12 c13 c14 nx ct h nb : Int32} {w : xW} : sX1_chooseByDigit (dW [c0, c1, c2, c3, c4, c5, c6, c7, 6, c9, c10, c11, c12, c13, c14] [nx, ct, 1, h, 3, nb] w) = some ((), dW [14, c1, c2, c3, c4, c5, c6, c7, 6, c9, c10, c11, c12, c13, c14] [nx, ct, 0, h, 3, nb] w) := Eq.trans (cbd_3_6_g (Eq.trans (dW_3 (by decide) (by decide)) rfl) (Eq.trans (dW_2 (by decide)) rfl)) (by simp (decide := true) only [xwi_d2, xwi_d3, List.set, List.length, Nat.reduceSub])
theorem cbd_4_6_1_g {W : xW} (h36 : W.1 3 6 = 4) (h28 : W.1 2 8 = 6) (h24 : W.1 2 4 = 1) : sX1_chooseByDigit W = some ((), (xwi W 2 0 (26 : Int32))) := by
  unfold sX1_chooseByDigit
  rw [h36, h28]
  rfl
theorem cbd_4_6_1 {c0 c1 c2 c3 c5 c6 c7 c9 c10 c11 c12 c13 c14 nx ct h nb : Int32} {w : xW} : sX1_chooseByDigit (dW [c0, c1, c2, c3, 1, c5, c6, c7, 6, c9, c10, c11, c12, c13, c14] [nx, ct, 1, h, 4, nb] w) = some ((), dW [26, c1, c2, c3, 1, c5, c6, c7, 6, c9, c10, c11, c12, c13, c14] [nx, ct, 1, h, 4, nb] w) := Eq.trans (cbd_4_6_1_g (Eq.trans (dW_3 (by decide) (by decide)) rfl) (Eq.trans (dW_2 (by decide)) rfl) (Eq.trans (dW_2 (by decide)) rfl)) (by simp (decide := true) only [xwi_d2, xwi_d3, List.set, List.length, Nat.reduceSub])
theorem cbd_4_6_4_g {W : xW} (h36 : W.1 3 6 = 4) (h28 : W.1 2 8 = 6) (h24 : W.1 2 4 = 4) : sX1_chooseByDigit W = some ((), (xwi W 2 0 (26 : Int32))) := by
  unfold sX1_chooseByDigit
  rw [h36, h28]
  rfl
theorem cbd_4_6_4 {c0 c1 c2 c3 c5 c6 c7 c9 c10 c11 c12 c13 c14 nx ct h nb : Int32} {w : xW} : sX1_chooseByDigit (dW [c0, c1, c2, c3, 4, c5, c6, c7, 6, c9, c10, c11, c12, c13, c14] [nx, ct, 1, h, 4, nb] w) = some ((), dW [26, c1, c2, c3, 4, c5, c6, c7, 6, c9, c10, c11, c12, c13, c14] [nx, ct, 1, h, 4, nb] w) := Eq.trans (cbd_4_6_4_g (Eq.trans (dW_3 (by decide) (by decide)) rfl) (Eq.trans (dW_2 (by decide)) rfl) (Eq.trans (dW_2 (by decide)) rfl)) (by simp (decide := true) only [xwi_d2, xwi_d3, List.set, List.length, Nat.reduceSub])
theorem cbd_5_6_1_0_g {W : xW} (h36 : W.1 3 6 = 5) (h28 : W.1 2 8 = 6) (h24 : W.1 2 4 = 1) (h26 : W.1 2 6 = 0) : sX1_chooseByDigit W = some ((), (xwi (xwi W 3 4 (0 : Int32)) 2 0 (42 : Int32))) := by
  unfold sX1_chooseByDigit
  rw [h36, h28]
  show xbd (sX1_chooseCounting 6 W) (fun _ w2 => some ((), w2)) = _
  rw [show sX1_chooseCounting 6 W = sX1_chooseCounting_j22 6 0 W from by unfold sX1_chooseCounting; rw [h24]; rfl]
  rfl
theorem cbd_5_6_1_0 {c0 c1 c2 c3 c5 c7 c9 c10 c11 c12 c13 c14 nx ct h nb : Int32} {w : xW} : sX1_chooseByDigit (dW [c0, c1, c2, c3, 1, c5, 0, c7, 6, c9, c10, c11, c12, c13, c14] [nx, ct, 1, h, 5, nb] w) = some ((), dW [42, c1, c2, c3, 1, c5, 0, c7, 6, c9, c10, c11, c12, c13, c14] [nx, ct, 0, h, 5, nb] w) := Eq.trans (cbd_5_6_1_0_g (Eq.trans (dW_3 (by decide) (by decide)) rfl) (Eq.trans (dW_2 (by decide)) rfl) (Eq.trans (dW_2 (by decide)) rfl) (Eq.trans (dW_2 (by decide)) rfl)) (by simp (decide := true) only [xwi_d2, xwi_d3, List.set, List.length, Nat.reduceSub])
theorem cbd_5_6_1_1_g {W : xW} (h36 : W.1 3 6 = 5) (h28 : W.1 2 8 = 6) (h24 : W.1 2 4 = 1) (h26 : W.1 2 6 = 1) : sX1_chooseByDigit W = some ((), (xwi (xwi W 3 4 (0 : Int32)) 2 0 (42 : Int32))) := by
  unfold sX1_chooseByDigit
  rw [h36, h28]
  show xbd (sX1_chooseCounting 6 W) (fun _ w2 => some ((), w2)) = _
  rw [show sX1_chooseCounting 6 W = sX1_chooseCounting_j22 6 0 W from by unfold sX1_chooseCounting; rw [h24]; rfl]
  rfl
theorem cbd_5_6_1_1 {c0 c1 c2 c3 c5 c7 c9 c10 c11 c12 c13 c14 nx ct h nb : Int32} {w : xW} : sX1_chooseByDigit (dW [c0, c1, c2, c3, 1, c5, 1, c7, 6, c9, c10, c11, c12, c13, c14] [nx, ct, 1, h, 5, nb] w) = some ((), dW [42, c1, c2, c3, 1, c5, 1, c7, 6, c9, c10, c11, c12, c13, c14] [nx, ct, 0, h, 5, nb] w) := Eq.trans (cbd_5_6_1_1_g (Eq.trans (dW_3 (by decide) (by decide)) rfl) (Eq.trans (dW_2 (by decide)) rfl) (Eq.trans (dW_2 (by decide)) rfl) (Eq.trans (dW_2 (by decide)) rfl)) (by simp (decide := true) only [xwi_d2, xwi_d3, List.set, List.length, Nat.reduceSub])
theorem cbd_5_6_4_0_g {W : xW} (h36 : W.1 3 6 = 5) (h28 : W.1 2 8 = 6) (h24 : W.1 2 4 = 4) (h26 : W.1 2 6 = 0) : sX1_chooseByDigit W = some ((), (xwi (xwi W 3 4 (1 : Int32)) 2 0 (42 : Int32))) := by
  unfold sX1_chooseByDigit
  rw [h36, h28]
  show xbd (sX1_chooseCounting 6 W) (fun _ w2 => some ((), w2)) = _
  rw [show sX1_chooseCounting 6 W = sX1_chooseCounting_j22 6 1 W from by unfold sX1_chooseCounting; rw [h24]; rfl]
  rfl
theorem cbd_5_6_4_0 {c0 c1 c2 c3 c5 c7 c9 c10 c11 c12 c13 c14 nx ct h nb : Int32} {w : xW} : sX1_chooseByDigit (dW [c0, c1, c2, c3, 4, c5, 0, c7, 6, c9, c10, c11, c12, c13, c14] [nx, ct, 1, h, 5, nb] w) = some ((), dW [42, c1, c2, c3, 4, c5, 0, c7, 6, c9, c10, c11, c12, c13, c14] [nx, ct, 1, h, 5, nb] w) := Eq.trans (cbd_5_6_4_0_g (Eq.trans (dW_3 (by decide) (by decide)) rfl) (Eq.trans (dW_2 (by decide)) rfl) (Eq.trans (dW_2 (by decide)) rfl) (Eq.trans (dW_2 (by decide)) rfl)) (by simp (decide := true) only [xwi_d2, xwi_d3, List.set, List.length, Nat.reduceSub])
theorem cbd_5_6_4_1_g {W : xW} (h36 : W.1 3 6 = 5) (h28 : W.1 2 8 = 6) (h24 : W.1 2 4 = 4) (h26 : W.1 2 6 = 1) : sX1_chooseByDigit W = some ((), (xwi (xwi W 3 4 (1 : Int32)) 2 0 (42 : Int32))) := by
  unfold sX1_chooseByDigit
  rw [h36, h28]
  show xbd (sX1_chooseCounting 6 W) (fun _ w2 => some ((), w2)) = _
  rw [show sX1_chooseCounting 6 W = sX1_chooseCounting_j22 6 1 W from by unfold sX1_chooseCounting; rw [h24]; rfl]
  rfl
theorem cbd_5_6_4_1 {c0 c1 c2 c3 c5 c7 c9 c10 c11 c12 c13 c14 nx ct h nb : Int32} {w : xW} : sX1_chooseByDigit (dW [c0, c1, c2, c3, 4, c5, 1, c7, 6, c9, c10, c11, c12, c13, c14] [nx, ct, 1, h, 5, nb] w) = some ((), dW [42, c1, c2, c3, 4, c5, 1, c7, 6, c9, c10, c11, c12, c13, c14] [nx, ct, 1, h, 5, nb] w) := Eq.trans (cbd_5_6_4_1_g (Eq.trans (dW_3 (by decide) (by decide)) rfl) (Eq.trans (dW_2 (by decide)) rfl) (Eq.trans (dW_2 (by decide)) rfl) (Eq.trans (dW_2 (by decide)) rfl)) (by simp (decide := true) only [xwi_d2, xwi_d3, List.set, List.length, Nat.reduceSub])
theorem cbd_1_7_g {W : xW} (h36 : W.1 3 6 = 1) (h28 : W.1 2 8 = 7) : sX1_chooseByDigit W = some ((), (xwi W 3 4 (0 : Int32))) := by
  unfold sX1_chooseByDigit
  rw [h36, h28]
  rfl
theorem cbd_1_7 {c0 c1 c2 c3 c4 c5 c6 c7 c9 c10 c11 c12 c13 c14 nx ct h nb : Int32} {w : xW} : sX1_chooseByDigit (dW [c0, c1, c2, c3, c4, c5, c6, c7, 7, c9, c10, c11, c12, c13, c14] [nx, ct, 1, h, 1, nb] w) = some ((), dW [c0, c1, c2, c3, c4, c5, c6, c7, 7, c9, c10, c11, c12, c13, c14] [nx, ct, 0, h, 1, nb] w) := Eq.trans (cbd_1_7_g (Eq.trans (dW_3 (by decide) (by decide)) rfl) (Eq.trans (dW_2 (by decide)) rfl)) (by simp (decide := true) only [xwi_d2, xwi_d3, List.set, List.length, Nat.reduceSub])
theorem cbd_2_7_g {W : xW} (h36 : W.1 3 6 = 2) (h28 : W.1 2 8 = 7) : sX1_chooseByDigit W = some ((), (xwi W 2 0 (7 : Int32))) := by
  unfold sX1_chooseByDigit
  rw [h36, h28]
  rfl
theorem cbd_2_7 {c0 c1 c2 c3 c4 c5 c6 c7 c9 c10 c11 c12 c13 c14 nx ct h nb : Int32} {w : xW} : sX1_chooseByDigit (dW [c0, c1, c2, c3, c4, c5, c6, c7, 7, c9, c10, c11, c12, c13, c14] [nx, ct, 1, h, 2, nb] w) = some ((), dW [7, c1, c2, c3, c4, c5, c6, c7, 7, c9, c10, c11, c12, c13, c14] [nx, ct, 1, h, 2, nb] w) := Eq.trans (cbd_2_7_g (Eq.trans (dW_3 (by decide) (by decide)) rfl) (Eq.trans (dW_2 (by decide)) rfl)) (by simp (decide := true) only [xwi_d2, xwi_d3, List.set, List.length, Nat.reduceSub])
theorem cbd_3_7_g {W : xW} (h36 : W.1 3 6 = 3) (h28 : W.1 2 8 = 7) : sX1_chooseByDigit W = some ((), (xwi (xwi W 2 0 (15 : Int32)) 3 4 (1 : Int32))) := by
  unfold sX1_chooseByDigit
  rw [h36, h28]
  rfl
theorem cbd_3_7 {c0 c1 c2 c3 c4 c5 c6 c7 c9 c10 c11 c12 c13 c14 nx ct h nb : Int32} {w : xW} : sX1_chooseByDigit (dW [c0, c1, c2, c3, c4, c5, c6, c7, 7, c9, c10, c11, c12, c13, c14] [nx, ct, 1, h, 3, nb] w) = some ((), dW [15, c1, c2, c3, c4, c5, c6, c7, 7, c9, c10, c11, c12, c13, c14] [nx, ct, 1, h, 3, nb] w) := Eq.trans (cbd_3_7_g (Eq.trans (dW_3 (by decide) (by decide)) rfl) (Eq.trans (dW_2 (by decide)) rfl)) (by simp (decide := true) only [xwi_d2, xwi_d3, List.set, List.length, Nat.reduceSub])
theorem cbd_4_7_1_g {W : xW} (h36 : W.1 3 6 = 4) (h28 : W.1 2 8 = 7) (h24 : W.1 2 4 = 1) : sX1_chooseByDigit W = some ((), (xwi W 2 0 (27 : Int32))) := by
  unfold sX1_chooseByDigit
  rw [h36, h28]
  rfl
theorem cbd_4_7_1 {c0 c1 c2 c3 c5 c6 c7 c9 c10 c11 c12 c13 c14 nx ct h nb : Int32} {w : xW} : sX1_chooseByDigit (dW [c0, c1, c2, c3, 1, c5, c6, c7, 7, c9, c10, c11, c12, c13, c14] [nx, ct, 1, h, 4, nb] w) = some ((), dW [27, c1, c2, c3, 1, c5, c6, c7, 7, c9, c10, c11, c12, c13, c14] [nx, ct, 1, h, 4, nb] w) := Eq.trans (cbd_4_7_1_g (Eq.trans (dW_3 (by decide) (by decide)) rfl) (Eq.trans (dW_2 (by decide)) rfl) (Eq.trans (dW_2 (by decide)) rfl)) (by simp (decide := true) only [xwi_d2, xwi_d3, List.set, List.length, Nat.reduceSub])
theorem cbd_4_7_4_g {W : xW} (h36 : W.1 3 6 = 4) (h28 : W.1 2 8 = 7) (h24 : W.1 2 4 = 4) : sX1_chooseByDigit W = some ((), (xwi W 2 0 (27 : Int32))) := by
  unfold sX1_chooseByDigit
  rw [h36, h28]
  rfl
theorem cbd_4_7_4 {c0 c1 c2 c3 c5 c6 c7 c9 c10 c11 c12 c13 c14 nx ct h nb : Int32} {w : xW} : sX1_chooseByDigit (dW [c0, c1, c2, c3, 4, c5, c6, c7, 7, c9, c10, c11, c12, c13, c14] [nx, ct, 1, h, 4, nb] w) = some ((), dW [27, c1, c2, c3, 4, c5, c6, c7, 7, c9, c10, c11, c12, c13, c14] [nx, ct, 1, h, 4, nb] w) := Eq.trans (cbd_4_7_4_g (Eq.trans (dW_3 (by decide) (by decide)) rfl) (Eq.trans (dW_2 (by decide)) rfl) (Eq.trans (dW_2 (by decide)) rfl)) (by simp (decide := true) only [xwi_d2, xwi_d3, List.set, List.length, Nat.reduceSub])
theorem cbd_5_7_1_0_g {W : xW} (h36 : W.1 3 6 = 5) (h28 : W.1 2 8 = 7) (h24 : W.1 2 4 = 1) (h26 : W.1 2 6 = 0) : sX1_chooseByDigit W = some ((), (xwi (xwi W 3 4 (0 : Int32)) 3 4 (0 : Int32))) := by
  unfold sX1_chooseByDigit
  rw [h36, h28]
  show xbd (sX1_chooseCounting 7 W) (fun _ w2 => some ((), w2)) = _
  rw [show sX1_chooseCounting 7 W = sX1_chooseCounting_j22 7 0 W from by unfold sX1_chooseCounting; rw [h24]; rfl]
  rfl
theorem cbd_5_7_1_0 {c0 c1 c2 c3 c5 c7 c9 c10 c11 c12 c13 c14 nx ct h nb : Int32} {w : xW} : sX1_chooseByDigit (dW [c0, c1, c2, c3, 1, c5, 0, c7, 7, c9, c10, c11, c12, c13, c14] [nx, ct, 1, h, 5, nb] w) = some ((), dW [c0, c1, c2, c3, 1, c5, 0, c7, 7, c9, c10, c11, c12, c13, c14] [nx, ct, 0, h, 5, nb] w) := Eq.trans (cbd_5_7_1_0_g (Eq.trans (dW_3 (by decide) (by decide)) rfl) (Eq.trans (dW_2 (by decide)) rfl) (Eq.trans (dW_2 (by decide)) rfl) (Eq.trans (dW_2 (by decide)) rfl)) (by simp (decide := true) only [xwi_d2, xwi_d3, List.set, List.length, Nat.reduceSub])
theorem cbd_5_7_1_1_g {W : xW} (h36 : W.1 3 6 = 5) (h28 : W.1 2 8 = 7) (h24 : W.1 2 4 = 1) (h26 : W.1 2 6 = 1) : sX1_chooseByDigit W = some ((), (xwi (xwi W 3 4 (0 : Int32)) 3 4 (0 : Int32))) := by
  unfold sX1_chooseByDigit
  rw [h36, h28]
  show xbd (sX1_chooseCounting 7 W) (fun _ w2 => some ((), w2)) = _
  rw [show sX1_chooseCounting 7 W = sX1_chooseCounting_j22 7 0 W from by unfold sX1_chooseCounting; rw [h24]; rfl]
  rfl
theorem cbd_5_7_1_1 {c0 c1 c2 c3 c5 c7 c9 c10 c11 c12 c13 c14 nx ct h nb : Int32} {w : xW} : sX1_chooseByDigit (dW [c0, c1, c2, c3, 1, c5, 1, c7, 7, c9, c10, c11, c12, c13, c14] [nx, ct, 1, h, 5, nb] w) = some ((), dW [c0, c1, c2, c3, 1, c5, 1, c7, 7, c9, c10, c11, c12, c13, c14] [nx, ct, 0, h, 5, nb] w) := Eq.trans (cbd_5_7_1_1_g (Eq.trans (dW_3 (by decide) (by decide)) rfl) (Eq.trans (dW_2 (by decide)) rfl) (Eq.trans (dW_2 (by decide)) rfl) (Eq.trans (dW_2 (by decide)) rfl)) (by simp (decide := true) only [xwi_d2, xwi_d3, List.set, List.length, Nat.reduceSub])
theorem cbd_5_7_4_0_g {W : xW} (h36 : W.1 3 6 = 5) (h28 : W.1 2 8 = 7) (h24 : W.1 2 4 = 4) (h26 : W.1 2 6 = 0) : sX1_chooseByDigit W = some ((), (xwi (xwi W 3 4 (1 : Int32)) 3 4 (0 : Int32))) := by
  unfold sX1_chooseByDigit
  rw [h36, h28]
  show xbd (sX1_chooseCounting 7 W) (fun _ w2 => some ((), w2)) = _
  rw [show sX1_chooseCounting 7 W = sX1_chooseCounting_j22 7 1 W from by unfold sX1_chooseCounting; rw [h24]; rfl]
  rfl
theorem cbd_5_7_4_0 {c0 c1 c2 c3 c5 c7 c9 c10 c11 c12 c13 c14 nx ct h nb : Int32} {w : xW} : sX1_chooseByDigit (dW [c0, c1, c2, c3, 4, c5, 0, c7, 7, c9, c10, c11, c12, c13, c14] [nx, ct, 1, h, 5, nb] w) = some ((), dW [c0, c1, c2, c3, 4, c5, 0, c7, 7, c9, c10, c11, c12, c13, c14] [nx, ct, 0, h, 5, nb] w) := Eq.trans (cbd_5_7_4_0_g (Eq.trans (dW_3 (by decide) (by decide)) rfl) (Eq.trans (dW_2 (by decide)) rfl) (Eq.trans (dW_2 (by decide)) rfl) (Eq.trans (dW_2 (by decide)) rfl)) (by simp (decide := true) only [xwi_d2, xwi_d3, List.set, List.length, Nat.reduceSub])
theorem cbd_5_7_4_1_g {W : xW} (h36 : W.1 3 6 = 5) (h28 : W.1 2 8 = 7) (h24 : W.1 2 4 = 4) (h26 : W.1 2 6 = 1) : sX1_chooseByDigit W = some ((), (xwi (xwi W 3 4 (1 : Int32)) 3 4 (0 : Int32))) := by
  unfold sX1_chooseByDigit
  rw [h36, h28]
  show xbd (sX1_chooseCounting 7 W) (fun _ w2 => some ((), w2)) = _
  rw [show sX1_chooseCounting 7 W = sX1_chooseCounting_j22 7 1 W from by unfold sX1_chooseCounting; rw [h24]; rfl]
  rfl
theorem cbd_5_7_4_1 {c0 c1 c2 c3 c5 c7 c9 c10 c11 c12 c13 c14 nx ct h nb : Int32} {w : xW} : sX1_chooseByDigit (dW [c0, c1, c2, c3, 4, c5, 1, c7, 7, c9, c10, c11, c12, c13, c14] [nx, ct, 1, h, 5, nb] w) = some ((), dW [c0, c1, c2, c3, 4, c5, 1, c7, 7, c9, c10, c11, c12, c13, c14] [nx, ct, 0, h, 5, nb] w) := Eq.trans (cbd_5_7_4_1_g (Eq.trans (dW_3 (by decide) (by decide)) rfl) (Eq.trans (dW_2 (by decide)) rfl) (Eq.trans (dW_2 (by decide)) rfl) (Eq.trans (dW_2 (by decide)) rfl)) (by simp (decide := true) only [xwi_d2, xwi_d3, List.set, List.length, Nat.reduceSub])
theorem cbd_6m0 {c0 c1 c2 c3 c4 c5 c7 c8 c9 c10 c11 c12 c13 c14 nx ct h nb : Int32} {w : xW} : sX1_chooseByDigit (dW [c0, c1, c2, c3, c4, c5, 0, c7, c8, c9, c10, c11, c12, c13, c14] [nx, ct, 1, h, 6, nb] w) = some ((), dW [c0, c1, c2, c3, c4, c5, 0, c7, c8, c9, c10, c11, c12, c13, c14] [nx, ct, 0, h, 6, nb] w) := by
  unfold sX1_chooseByDigit
  rw [show (dW [c0, c1, c2, c3, c4, c5, 0, c7, c8, c9, c10, c11, c12, c13, c14] [nx, ct, 1, h, 6, nb] w).1 3 6 = 6 from Eq.trans (dW_3 (by decide) (by decide)) rfl]
  show (if xz ((dW [c0, c1, c2, c3, c4, c5, 0, c7, c8, c9, c10, c11, c12, c13, c14] [nx, ct, 1, h, 6, nb] w).1 2 6) then some ((), (xwi (dW [c0, c1, c2, c3, c4, c5, 0, c7, c8, c9, c10, c11, c12, c13, c14] [nx, ct, 1, h, 6, nb] w) 3 4 ((dW [c0, c1, c2, c3, c4, c5, 0, c7, c8, c9, c10, c11, c12, c13, c14] [nx, ct, 1, h, 6, nb] w).1 2 6))) else none) = _
  rw [show (dW [c0, c1, c2, c3, c4, c5, 0, c7, c8, c9, c10, c11, c12, c13, c14] [nx, ct, 1, h, 6, nb] w).1 2 6 = 0 from Eq.trans (dW_2 (by decide)) rfl, if_pos (by decide)]
  simp (decide := true) only [xwi_d2, xwi_d3, List.set, List.length, Nat.reduceSub]
theorem cbd_6m1 {c0 c1 c2 c3 c4 c5 c7 c8 c9 c10 c11 c12 c13 c14 nx ct h nb : Int32} {w : xW} : sX1_chooseByDigit (dW [c0, c1, c2, c3, c4, c5, 1, c7, c8, c9, c10, c11, c12, c13, c14] [nx, ct, 1, h, 6, nb] w) = some ((), dW [c0, c1, c2, c3, c4, c5, 1, c7, c8, c9, c10, c11, c12, c13, c14] [nx, ct, 1, h, 6, nb] w) := by
  unfold sX1_chooseByDigit
  rw [show (dW [c0, c1, c2, c3, c4, c5, 1, c7, c8, c9, c10, c11, c12, c13, c14] [nx, ct, 1, h, 6, nb] w).1 3 6 = 6 from Eq.trans (dW_3 (by decide) (by decide)) rfl]
  show (if xz ((dW [c0, c1, c2, c3, c4, c5, 1, c7, c8, c9, c10, c11, c12, c13, c14] [nx, ct, 1, h, 6, nb] w).1 2 6) then some ((), (xwi (dW [c0, c1, c2, c3, c4, c5, 1, c7, c8, c9, c10, c11, c12, c13, c14] [nx, ct, 1, h, 6, nb] w) 3 4 ((dW [c0, c1, c2, c3, c4, c5, 1, c7, c8, c9, c10, c11, c12, c13, c14] [nx, ct, 1, h, 6, nb] w).1 2 6))) else none) = _
  rw [show (dW [c0, c1, c2, c3, c4, c5, 1, c7, c8, c9, c10, c11, c12, c13, c14] [nx, ct, 1, h, 6, nb] w).1 2 6 = 1 from Eq.trans (dW_2 (by decide)) rfl, if_pos (by decide)]
  simp (decide := true) only [xwi_d2, xwi_d3, List.set, List.length, Nat.reduceSub]
