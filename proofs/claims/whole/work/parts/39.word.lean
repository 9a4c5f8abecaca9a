/-! what comes behind 102 -/
def tkW (x1 : Int32) (w2 : xW) : Option (Unit × xW) := (if x1 = (144 : Int32) then xbd (sX12_is (18 : Int32) (0 : Int32) (4 : Int32) w2) (fun _ w3 => some ((), w3)) else (if x1 = (137 : Int32) then sX12_takeWord_j38 x1 w2 else (if x1 = (139 : Int32) then sX12_takeWord_j38 x1 w2 else sX12_takeWord_j43 x1 (0 : Int32) w2)))
theorem takeWord_t (w : xW) : sX12_takeWord w = xbd (sX12_next w) (fun x1 w2 => tkW x1 w2) := rfl

section DB
variable {w m : xW} {B : Nat → Int32} {n p : Nat} {x0 x1 x3 x4 x10 x11 x13 : Int32}

theorem dw_137 (hw : imgC w B n) (hm : imgM m B n) : DP n p w m (xbd (sX1_chooseWord 137 (dW [50, 0, 102, 0, 4, 4, 0, 0, 0, -1, -1, 0, 0, 0, 0] [nxn n (p + 2), ctn n (p + 2), 1, 0, 0, 0] w)) (fun _ w1 => sX1_decode_j128 (nI p) w1)) (xbd (tkW 137 (mW [x0, x1, 0, x3, x4, 3, 0, 0, -1, -1, x10, x11, 0, x13, nxn n (p + 2), thr n (p + 2) 1] m)) (fun _ w1 => sX12_take_j380 (nI p) w1)) := by
  rw [(show ∀ W, sX1_chooseWord 137 W = some ((), (xwi (xwi (xwi (xwi (xwi W 2 0 (28 : Int32)) 2 1 (1 : Int32)) 2 4 (2 : Int32)) 2 5 (2 : Int32)) 3 5 (1 : Int32))) from fun _ => rfl), (show ∀ M, tkW 137 M = xbd (sX12_digits (1 : Int32) M) (fun _ w1 => xbd (sX12_operand (xwi (xwi (xwi (xwi w1 0 17 (16 : Int32)) 0 18 (1 : Int32)) 0 20 (2 : Int32)) 0 21 (2 : Int32))) (fun _ w2 => some ((), w2))) from fun _ => rfl), xbd_some]
  simp (decide := true) only [xbd_assoc, xbd_some, xwi_d2, xwi_d3, xwi_m, List.set, List.length, Nat.reduceSub, digits_m (Or.inr rfl), if_true, if_false]
  exact shp1 hw hm (by omega) (by omega) (by decide) (fun L q2 md rg rm bs ix sc tm dp mem hF => RD_E hF (List.mem_of_getElem? (i := 70) rfl) (by decide) (by decide) (by decide) L (mask0_m (by decide) L _) (RDn_no (by decide)))

theorem dw_139 (hw : imgC w B n) (hm : imgM m B n) : DP n p w m (xbd (sX1_chooseWord 139 (dW [50, 0, 102, 0, 4, 4, 0, 0, 0, -1, -1, 0, 0, 0, 0] [nxn n (p + 2), ctn n (p + 2), 1, 0, 0, 0] w)) (fun _ w1 => sX1_decode_j128 (nI p) w1)) (xbd (tkW 139 (mW [x0, x1, 0, x3, x4, 3, 0, 0, -1, -1, x10, x11, 0, x13, nxn n (p + 2), thr n (p + 2) 1] m)) (fun _ w1 => sX12_take_j380 (nI p) w1)) := by
  rw [(show ∀ W, sX1_chooseWord 139 W = some ((), (xwi (xwi (xwi (xwi (xwi W 2 0 (28 : Int32)) 2 1 (2 : Int32)) 2 4 (2 : Int32)) 2 5 (2 : Int32)) 3 5 (1 : Int32))) from fun _ => rfl), (show ∀ M, tkW 139 M = xbd (sX12_digits (1 : Int32) M) (fun _ w1 => xbd (sX12_operand (xwi (xwi (xwi (xwi w1 0 17 (16 : Int32)) 0 18 (2 : Int32)) 0 20 (2 : Int32)) 0 21 (2 : Int32))) (fun _ w2 => some ((), w2))) from fun _ => rfl), xbd_some]
  simp (decide := true) only [xbd_assoc, xbd_some, xwi_d2, xwi_d3, xwi_m, List.set, List.length, Nat.reduceSub, digits_m (Or.inr rfl), if_true, if_false]
  exact shp1 hw hm (by omega) (by omega) (by decide) (fun L q2 md rg rm bs ix sc tm dp mem hF => RD_E hF (List.mem_of_getElem? (i := 71) rfl) (by decide) (by decide) (by decide) L (mask0_m (by decide) L _) (RDn_no (by decide)))

theorem dw_144 (hw : imgC w B n) (hm : imgM m B n) : DP n p w m (xbd (sX1_chooseWord 144 (dW [50, 0, 102, 0, 4, 4, 0, 0, 0, -1, -1, 0, 0, 0, 0] [nxn n (p + 2), ctn n (p + 2), 1, 0, 0, 0] w)) (fun _ w1 => sX1_decode_j128 (nI p) w1)) (xbd (tkW 144 (mW [x0, x1, 0, x3, x4, 3, 0, 0, -1, -1, x10, x11, 0, x13, nxn n (p + 2), thr n (p + 2) 1] m)) (fun _ w1 => sX12_take_j380 (nI p) w1)) := by
  rw [(show ∀ W, sX1_chooseWord 144 W = some ((), (xwi (xwi (xwi (xwi (xwi W 2 0 (50 : Int32)) 2 1 (0 : Int32)) 2 4 (4 : Int32)) 2 5 (4 : Int32)) 3 7 (0 : Int32))) from fun _ => rfl), (show ∀ M, tkW 144 M = some ((), (xwi (xwi (xwi (xwi M 0 17 (18 : Int32)) 0 18 (0 : Int32)) 0 20 (4 : Int32)) 0 21 (4 : Int32))) from fun _ => rfl), xbd_some]
  simp (decide := true) only [xbd_assoc, xbd_some, xwi_d2, xwi_d3, xwi_m, List.set, List.length, Nat.reduceSub, digits_m (Or.inr rfl), if_true, if_false]
  exact shp0 hw.2.1 (by omega) (by omega) (by decide) (fun L => RD_N (List.mem_of_getElem? (i := 101) rfl) (by decide) (by decide) (by decide) (by decide) (RDn_no (by decide)) L)

theorem dw_no (hw : imgC w B n) (hm : imgM m B n) {c : Int32} (n1 : ¬ c = 137) (n2 : ¬ c = 139) (n3 : ¬ c = 144) : DP n p w m (xbd (sX1_chooseWord c (dW [50, 0, 102, 0, 4, 4, 0, 0, 0, -1, -1, 0, 0, 0, 0] [nxn n (p + 2), ctn n (p + 2), 1, 0, 0, 0] w)) (fun _ w1 => sX1_decode_j128 (nI p) w1)) (xbd (tkW c (mW [x0, x1, 0, x3, x4, 3, 0, 0, -1, -1, x10, x11, 0, x13, nxn n (p + 2), thr n (p + 2) 1] m)) (fun _ w1 => sX12_take_j380 (nI p) w1)) := by
  have e1 : ∀ W, sX1_chooseWord c W = some ((), xwi W 3 4 0) := fun W => by unfold sX1_chooseWord; simp only [n1, n2, n3, if_false]
  have e2 : ∀ M, tkW c M = xbd (sX12_digits 0 M) (fun _ w1 => xbd (sX12_operand (xwi (xwi (xwi (xwi w1 0 17 (16 : Int32)) 0 18 (2 : Int32)) 0 20 (2 : Int32)) 0 21 (2 : Int32))) (fun _ w2 => some ((), w2))) := fun M => by
    unfold tkW
    simp only [n1, n2, n3, if_false, sX12_takeWord_j43, sX12_takeWord_j61, sX12_is, xbd_some]
  rw [e1, e2, xbd_some]
  simp (decide := true) only [xbd_assoc, xbd_some, xwi_d2, xwi_d3, xwi_m, List.set, List.length, Nat.reduceSub, digits_m (Or.inr rfl), if_true, if_false]
  exact shpFE hw hm (by omega) (by omega) (by decide)

end DB
