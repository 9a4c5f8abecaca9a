/-! the class by its numbers (printed) -/
theorem mv_28 {W : xW} (h : W.1 2 0 = 28) : sX7_doMove W = xbd (sX7_readSecond W) (fun x5 w6 => xbd (sX7_writeFirst x5 w6) (fun _ w7 => some ((), w7))) := by
  unfold sX7_doMove
  rw [h]
  rfl
theorem mv_29 {W : xW} (h : W.1 2 0 = 29) : sX7_doMove W = xbd (sX7_readE W) (fun x8 w9 => xbd (sX7_writeG x8 w9) (fun _ w10 => some ((), w10))) := by
  unfold sX7_doMove
  rw [h]
  rfl
theorem mv_30 {W : xW} (h : W.1 2 0 = 30) : sX7_doMove W = xbd (sX7_readE W) (fun x11 w12 => xbd (sX11_withSign x11 (w12.1 2 5) w12) (fun x13 w14 => xbd (sX7_writeG x13 w14) (fun _ w15 => some ((), w15)))) := by
  unfold sX7_doMove
  rw [h]
  rfl
theorem mv_31 {W : xW} (h : W.1 2 0 = 31) : sX7_doMove W = xbd (sX7_writeG (W.1 8 14) W) (fun _ w16 => some ((), w16)) := by
  unfold sX7_doMove
  rw [h]
  rfl
theorem mv_32 {W : xW} (h : W.1 2 0 = 32) : sX7_doMove W = xbd (sX7_readE W) (fun x17 w18 => xbd (sX2_holds (w18.1 2 3) w18) (fun x19 w20 => (if x19 = 0 then some ((), w20) else xbd (sX7_writeG x17 w20) (fun _ w21 => some ((), w21))))) := by
  unfold sX7_doMove
  rw [h]
  rfl
theorem mv_33 {W : xW} (h : W.1 2 0 = 33) : sX7_doMove W = (xbd (sX2_holds (W.1 2 3) W) (fun x1 w2 => (if x1 = 0 then xbd (sX7_writeE (0 : Int32) w2) (fun _ w3 => some ((), w3)) else xbd (sX7_writeE (1 : Int32) w2) (fun _ w4 => some ((), w4))))) := by
  unfold sX7_doMove
  rw [h]
  rfl
theorem ra_34 {W : xW} (h : W.1 2 0 = 34) : sX7_doRearrange W = sX7_doRearrange_j44 W := by
  unfold sX7_doRearrange
  rw [h]
  rfl
theorem ra_35 {W : xW} (h : W.1 2 0 = 35) : sX7_doRearrange W = sX7_doRearrange_j44 W := by
  unfold sX7_doRearrange
  rw [h]
  rfl
theorem ra_36 {W : xW} (h : W.1 2 0 = 36) : sX7_doRearrange W = xbd (sX7_readE W) (fun x1 w2 => xbd (sJ6_reverseBytes_0f7a4 x1 w2) (fun x3 w4 => xbd (sX7_writeE x3 w4) (fun _ w5 => some ((), w5)))) := by
  unfold sX7_doRearrange
  rw [h]
  rfl
theorem ra_37 {W : xW} (h : W.1 2 0 = 37) : sX7_doRearrange W = (if xin (0 : Int32) 8 then (if xin (0 : Int32) 8 then some ((), (xwi W 20 ((0 : Int32).toNatClampNeg) ((W.1 20 ((0 : Int32).toNatClampNeg)).toInt16.toInt32))) else none) else none) := by
  unfold sX7_doRearrange
  rw [h]
  rfl
theorem ra_38 {W : xW} (h : W.1 2 0 = 38) : sX7_doRearrange W = ((if xin (0 : Int32) 8 then (if xin (2 : Int32) 8 then some ((), (xwi W 20 ((2 : Int32).toNatClampNeg) ((W.1 20 ((0 : Int32).toNatClampNeg)) >>> ((31 : Int32) &&& 31)))) else none) else none)) := by
  unfold sX7_doRearrange
  rw [h]
  rfl
theorem rs_49 {W : xW} (h : W.1 2 0 = 49) : sX7_doRest W = some ((), (xwi W 8 10 (3 : Int32))) := by
  unfold sX7_doRest
  rw [h]
  rfl
theorem rs_50 {W : xW} (h : W.1 2 0 = 50) : sX7_doRest W = (some ((), W)) := by
  unfold sX7_doRest
  rw [h]
  rfl
theorem rs_51 {W : xW} (h : W.1 2 0 = 51) : sX7_doRest W = xbd (sX2_has (1 : Int32) W) (fun x1 w2 => (if x1 = 0 then xbd (sX2_set (1 : Int32) (1 : Int32) w2) (fun _ w4 => some ((), w4)) else xbd (sX2_set (1 : Int32) (0 : Int32) w2) (fun _ w3 => some ((), w3)))) := by
  unfold sX7_doRest
  rw [h]
  rfl
theorem rs_52 {W : xW} (h : W.1 2 0 = 52) : sX7_doRest W = xbd (sX2_set (1 : Int32) (0 : Int32) W) (fun _ w5 => some ((), w5)) := by
  unfold sX7_doRest
  rw [h]
  rfl
theorem rs_53 {W : xW} (h : W.1 2 0 = 53) : sX7_doRest W = xbd (sX2_set (1 : Int32) (1 : Int32) W) (fun _ w6 => some ((), w6)) := by
  unfold sX7_doRest
  rw [h]
  rfl
