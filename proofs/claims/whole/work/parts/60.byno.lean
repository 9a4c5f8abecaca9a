/-! the reference by its numbers (printed) -/
theorem dO_8 {W : xW} {p1 : Int32} (h : W.1 0 17 = 8) : sX12_doOther p1 W = sX12_doOther_j164 p1 W := by
  unfold sX12_doOther
  rw [h]
  rfl
theorem dO_9 {W : xW} {p1 : Int32} (h : W.1 0 17 = 9) : sX12_doOther p1 W = sX12_doOther_j164 p1 W := by
  unfold sX12_doOther
  rw [h]
  rfl
theorem dO_10 {W : xW} {p1 : Int32} (h : W.1 0 17 = 10) : sX12_doOther p1 W = (if (W.1 0 18) = (7 : Int32) then xbd (sX12_push (W.1 0 29) W) (fun _ w6 => some (p1, w6)) else xbd (sX12_firstOf W) (fun x3 w4 => xbd (sX12_push x3 w4) (fun _ w5 => some (p1, w5)))) := by
  unfold sX12_doOther
  rw [h]
  rfl
theorem dO_11 {W : xW} {p1 : Int32} (h : W.1 0 17 = 11) : sX12_doOther p1 W = xbd (sX12_pop W) (fun x7 w8 => (if (w8.1 0 22) = (3 : Int32) then sX12_doOther_j269 p1 x7 (0 : Int32) w8 else xbd (sX12_address w8) (fun x9 w10 => sX12_doOther_j269 p1 x7 x9 w10))) := by
  unfold sX12_doOther
  rw [h]
  rfl
theorem dO_12 {W : xW} {p1 : Int32} (h : W.1 0 17 = 12) : sX12_doOther p1 W = xbd (sX12_getE W) (fun x11 w12 => (if (w12.1 0 18) = (2 : Int32) then (if xin (w12.1 0 23) 8 then sX12_doOther_j311 p1 x11 ((w12.1 9 ((w12.1 0 23).toNatClampNeg)).toInt64) w12 else none) else sX12_doOther_j311 p1 x11 ((w12.1 0 29).toInt64) w12)) := by
  unfold sX12_doOther
  rw [h]
  rfl
theorem dO_13 {W : xW} {p1 : Int32} (h : W.1 0 17 = 13) : sX12_doOther p1 W = xbd (sX12_holds (W.1 0 19) W) (fun x13 w14 => (if x13 = 0 then some (p1, w14) else some ((w14.1 0 29), w14))) := by
  unfold sX12_doOther
  rw [h]
  rfl
theorem dO_14 {W : xW} {p1 : Int32} (h : W.1 0 17 = 14) : sX12_doOther p1 W = xbd (sX12_firstOf W) (fun x15 w16 => xbd (sX12_secondOf w16) (fun x17 w18 => xbd (sX12_eight (4 : Int32) x15 x17 (w18.1 0 20) w18) (fun x19 w20 => some (p1, w20)))) := by
  unfold sX12_doOther
  rw [h]
  rfl
theorem dO_15 {W : xW} {p1 : Int32} (h : W.1 0 17 = 15) : sX12_doOther p1 W = (if (W.1 0 18) = (14 : Int32) then (if xin (0 : Int32) 8 then xlet (W.1 9 ((0 : Int32).toNatClampNeg)) (fun x27 => (if xin (W.1 0 24) 8 then (if xin (0 : Int32) 8 then (if xin (W.1 0 24) 8 then some (p1, (xwi (xwi W 9 ((0 : Int32).toNatClampNeg) (W.1 9 ((W.1 0 24).toNatClampNeg))) 9 ((W.1 0 24).toNatClampNeg) x27)) else none) else none) else none)) else none) else xbd (sX12_getE W) (fun x21 w22 => xbd (sX12_part (w22.1 0 23) (w22.1 0 20) w22) (fun x23 w24 => xbd (sX12_setE x23 w24) (fun _ w25 => xbd (sX12_setRegister (w25.1 0 23) (w25.1 0 20) x21 w25) (fun _ w26 => some (p1, w26)))))) := by
  unfold sX12_doOther
  rw [h]
  rfl
theorem dO_16 {W : xW} {p1 : Int32} (h : W.1 0 17 = 16) : sX12_doOther p1 W = (if (W.1 0 18) = (13 : Int32) then xbd (sX12_setRegister (W.1 0 24) (W.1 0 20) (W.1 0 29) W) (fun _ w33 => some (p1, w33)) else (if (W.1 0 18) = (2 : Int32) then xbd (sX12_getE W) (fun x30 w31 => xbd (sX12_setRegister (W.1 0 23) (W.1 0 20) x30 w31) (fun _ w32 => some (p1, w32))) else (if (W.1 0 22) = (3 : Int32) then sX12_doOther_j514 p1 (0 : Int32) W else xbd (sX12_address W) (fun x28 w29 => sX12_doOther_j514 p1 x28 w29)))) := by
  unfold sX12_doOther
  rw [h]
  rfl
theorem dO_17 {W : xW} {p1 : Int32} (h : W.1 0 17 = 17) : sX12_doOther p1 W = xbd (sX12_address W) (fun x34 w35 => (if xin (W.1 0 23) 8 then some (p1, (xwi w35 9 ((W.1 0 23).toNatClampNeg) x34)) else none)) := by
  unfold sX12_doOther
  rw [h]
  rfl
theorem dO_18 {W : xW} {p1 : Int32} (h : W.1 0 17 = 18) : sX12_doOther p1 W = xbd (sX12_doRest p1 W) (fun x36 w37 => some (x36, w37)) := by
  unfold sX12_doOther
  rw [h]
  rfl
theorem dO_19 {W : xW} {p1 : Int32} (h : W.1 0 17 = 19) : sX12_doOther p1 W = (if xin (0 : Int32) 8 then (if xin (0 : Int32) 8 then some (p1, (xwi W 9 ((0 : Int32).toNatClampNeg) ((W.1 9 ((0 : Int32).toNatClampNeg)).toInt16.toInt32))) else none) else none) := by
  unfold sX12_doOther
  rw [h]
  rfl
theorem dO_20 {W : xW} {p1 : Int32} (h : W.1 0 17 = 20) : sX12_doOther p1 W = (if xin (0 : Int32) 8 then (if xin (2 : Int32) 8 then some (p1, (xwi W 9 ((2 : Int32).toNatClampNeg) ((W.1 9 ((0 : Int32).toNatClampNeg)) >>> ((31 : Int32) &&& 31)))) else none) else none) := by
  unfold sX12_doOther
  rw [h]
  rfl
theorem dO_21 {W : xW} {p1 : Int32} (h : W.1 0 17 = 21) : sX12_doOther p1 W = xbd (sX12_doRest p1 W) (fun x38 w39 => some (x38, w39)) := by
  unfold sX12_doOther
  rw [h]
  rfl
theorem dO_22 {W : xW} {p1 : Int32} (h : W.1 0 17 = 22) : sX12_doOther p1 W = xbd (sX12_doRest p1 W) (fun x40 w41 => some (x40, w41)) := by
  unfold sX12_doOther
  rw [h]
  rfl
theorem dO_23 {W : xW} {p1 : Int32} (h : W.1 0 17 = 23) : sX12_doOther p1 W = xbd (sX12_doRest p1 W) (fun x42 w43 => some (x42, w43)) := by
  unfold sX12_doOther
  rw [h]
  rfl
theorem dO_24 {W : xW} {p1 : Int32} (h : W.1 0 17 = 24) : sX12_doOther p1 W = xbd (sX12_doRest p1 W) (fun x44 w45 => some (x44, w45)) := by
  unfold sX12_doOther
  rw [h]
  rfl
theorem dO_25 {W : xW} {p1 : Int32} (h : W.1 0 17 = 25) : sX12_doOther p1 W = xbd (sX12_doRest p1 W) (fun x46 w47 => some (x46, w47)) := by
  unfold sX12_doOther
  rw [h]
  rfl
theorem dO_26 {W : xW} {p1 : Int32} (h : W.1 0 17 = 26) : sX12_doOther p1 W = xbd (sX12_doRest p1 W) (fun x48 w49 => some (x48, w49)) := by
  unfold sX12_doOther
  rw [h]
  rfl
theorem dO_27 {W : xW} {p1 : Int32} (h : W.1 0 17 = 27) : sX12_doOther p1 W = xbd (sX12_doRest p1 W) (fun x50 w51 => some (x50, w51)) := by
  unfold sX12_doOther
  rw [h]
  rfl
theorem dO_28 {W : xW} {p1 : Int32} (h : W.1 0 17 = 28) : sX12_doOther p1 W = (if xin (1 : Int32) 8 then (if xin (1 : Int32) 8 then (if xin (1 : Int32) 8 then (if ((W.1 9 ((1 : Int32).toNatClampNeg)) - (1 : Int32)) = 0 then some (p1, (xwi W 9 ((1 : Int32).toNatClampNeg) ((W.1 9 ((1 : Int32).toNatClampNeg)) - (1 : Int32)))) else some ((W.1 0 29), (xwi W 9 ((1 : Int32).toNatClampNeg) ((W.1 9 ((1 : Int32).toNatClampNeg)) - (1 : Int32))))) else none) else none) else none) := by
  unfold sX12_doOther
  rw [h]
  rfl
theorem dO_29 {W : xW} {p1 : Int32} (h : W.1 0 17 = 29) : sX12_doOther p1 W = (if xin (1 : Int32) 8 then (if (W.1 9 ((1 : Int32).toNatClampNeg)) = 0 then some ((W.1 0 29), W) else some (p1, W)) else none) := by
  unfold sX12_doOther
  rw [h]
  rfl
theorem dO_30 {W : xW} {p1 : Int32} (h : W.1 0 17 = 30) : sX12_doOther p1 W = xbd (sX12_push p1 W) (fun _ w52 => some ((w52.1 0 29), w52)) := by
  unfold sX12_doOther
  rw [h]
  rfl
theorem dO_31 {W : xW} {p1 : Int32} (h : W.1 0 17 = 31) : sX12_doOther p1 W = some ((W.1 0 29), W) := by
  unfold sX12_doOther
  rw [h]
  rfl
theorem dO_32 {W : xW} {p1 : Int32} (h : W.1 0 17 = 32) : sX12_doOther p1 W = xbd (sX12_doRest p1 W) (fun x53 w54 => some (x53, w54)) := by
  unfold sX12_doOther
  rw [h]
  rfl
theorem dO_33 {W : xW} {p1 : Int32} (h : W.1 0 17 = 33) : sX12_doOther p1 W = (if (W.1 0 36) = 0 then some (p1, (xwi W 0 36 (1 : Int32))) else some (p1, (xwi W 0 36 (0 : Int32)))) := by
  unfold sX12_doOther
  rw [h]
  rfl
theorem dO_34 {W : xW} {p1 : Int32} (h : W.1 0 17 = 34) : sX12_doOther p1 W = sX12_doOther_j703 p1 W := by
  unfold sX12_doOther
  rw [h]
  rfl
theorem dO_35 {W : xW} {p1 : Int32} (h : W.1 0 17 = 35) : sX12_doOther p1 W = sX12_doOther_j703 p1 W := by
  unfold sX12_doOther
  rw [h]
  rfl
theorem dO_36 {W : xW} {p1 : Int32} (h : W.1 0 17 = 36) : sX12_doOther p1 W = xbd (sX12_getE W) (fun x55 w56 => xbd (sX12_setE (x55 ^^^ (-1 : Int32)) w56) (fun _ w57 => some (p1, w57))) := by
  unfold sX12_doOther
  rw [h]
  rfl
theorem dO_37 {W : xW} {p1 : Int32} (h : W.1 0 17 = 37) : sX12_doOther p1 W = xbd (sX12_getE W) (fun x58 w59 => xbd (sX12_difference (0 : Int32) x58 (0 : Int32) (w59.1 0 20) w59) (fun x60 w61 => xbd (sX12_setE x60 w61) (fun _ w62 => some (p1, w62)))) := by
  unfold sX12_doOther
  rw [h]
  rfl
theorem dO_38 {W : xW} {p1 : Int32} (h : W.1 0 17 = 38) : sX12_doOther p1 W = xbd (sX12_wholeProduct W) (fun _ w63 => some (p1, w63)) := by
  unfold sX12_doOther
  rw [h]
  rfl
theorem dO_39 {W : xW} {p1 : Int32} (h : W.1 0 17 = 39) : sX12_doOther p1 W = xbd (sX12_wholeProduct W) (fun _ w64 => some (p1, w64)) := by
  unfold sX12_doOther
  rw [h]
  rfl
theorem dO_40 {W : xW} {p1 : Int32} (h : W.1 0 17 = 40) : sX12_doOther p1 W = xbd (sX12_quotient W) (fun _ w65 => some (p1, w65)) := by
  unfold sX12_doOther
  rw [h]
  rfl
theorem dO_41 {W : xW} {p1 : Int32} (h : W.1 0 17 = 41) : sX12_doOther p1 W = xbd (sX12_quotient W) (fun _ w66 => some (p1, w66)) := by
  unfold sX12_doOther
  rw [h]
  rfl
theorem dO_42 {W : xW} {p1 : Int32} (h : W.1 0 17 = 42) : sX12_doOther p1 W = (if xin (W.1 0 24) 8 then xlet (W.1 9 ((W.1 0 24).toNatClampNeg)) (fun x67 => xbd (sX12_push p1 W) (fun _ w68 => some (x67, w68))) else none) := by
  unfold sX12_doOther
  rw [h]
  rfl
theorem dO_43 {W : xW} {p1 : Int32} (h : W.1 0 17 = 43) : sX12_doOther p1 W = (if xin (W.1 0 24) 8 then some ((W.1 9 ((W.1 0 24).toNatClampNeg)), W) else none) := by
  unfold sX12_doOther
  rw [h]
  rfl
theorem dR_44 {W : xW} {p1 : Int32} (h : W.1 0 17 = 44) : sX12_doRest p1 W = xbd (sX12_getE W) (fun x1 w2 => xbd (sX12_holds (w2.1 0 19) w2) (fun x3 w4 => (if x3 = 0 then some (p1, w4) else (if xin (w4.1 0 23) 8 then some (p1, (xwi w4 9 ((w4.1 0 23).toNatClampNeg) x1)) else none)))) := by
  unfold sX12_doRest
  rw [h]
  rfl
theorem dR_45 {W : xW} {p1 : Int32} (h : W.1 0 17 = 45) : sX12_doRest p1 W = (if (W.1 0 22) = (3 : Int32) then sX12_doRest_j109 p1 (0 : Int32) W else xbd (sX12_address W) (fun x5 w6 => sX12_doRest_j109 p1 x5 w6)) := by
  unfold sX12_doRest
  rw [h]
  rfl
theorem dR_46 {W : xW} {p1 : Int32} (h : W.1 0 17 = 46) : sX12_doRest p1 W = xbd (sX12_doubles W) (fun _ w7 => some (p1, w7)) := by
  unfold sX12_doRest
  rw [h]
  rfl
theorem dR_47 {W : xW} {p1 : Int32} (h : W.1 0 17 = 47) : sX12_doRest p1 W = xbd (sX12_doubles W) (fun _ w8 => some (p1, w8)) := by
  unfold sX12_doRest
  rw [h]
  rfl
theorem dR_48 {W : xW} {p1 : Int32} (h : W.1 0 17 = 48) : sX12_doRest p1 W = xbd (sX12_getE W) (fun x9 w10 => (if xin (0 : Int32) 8 then xbd (sX12_difference (w10.1 9 ((0 : Int32).toNatClampNeg)) x9 (0 : Int32) (4 : Int32) w10) (fun x11 w12 => (if x11 = 0 then (if xin (w12.1 0 23) 8 then xbd (sX12_setE (w12.1 9 ((w12.1 0 23).toNatClampNeg)) w12) (fun _ w13 => some (p1, w13)) else none) else (if xin (0 : Int32) 8 then some (p1, (xwi w12 9 ((0 : Int32).toNatClampNeg) x9)) else none))) else none)) := by
  unfold sX12_doRest
  rw [h]
  rfl
theorem dR_49 {W : xW} {p1 : Int32} (h : W.1 0 17 = 49) : sX12_doRest p1 W = sX12_doRest_j188 p1 W := by
  unfold sX12_doRest
  rw [h]
  rfl
theorem dR_50 {W : xW} {p1 : Int32} (h : W.1 0 17 = 50) : sX12_doRest p1 W = sX12_doRest_j240 p1 W := by
  unfold sX12_doRest
  rw [h]
  rfl
theorem dR_51 {W : xW} {p1 : Int32} (h : W.1 0 17 = 51) : sX12_doRest p1 W = sX12_doRest_j240 p1 W := by
  unfold sX12_doRest
  rw [h]
  rfl
theorem dR_52 {W : xW} {p1 : Int32} (h : W.1 0 17 = 52) : sX12_doRest p1 W = sX12_doRest_j188 p1 W := by
  unfold sX12_doRest
  rw [h]
  rfl
theorem dR_53 {W : xW} {p1 : Int32} (h : W.1 0 17 = 53) : sX12_doRest p1 W = xbd (sX12_getE W) (fun x14 w15 => (if xin (w15.1 0 23) 8 then xlet (w15.1 9 ((w15.1 0 23).toNatClampNeg)) (fun x16 => xbd (sX12_sum x14 x16 (0 : Int32) (4 : Int32) w15) (fun x17 w18 => (if xin (w18.1 0 23) 8 then xbd (sX12_setE x17 (xwi w18 9 ((w18.1 0 23).toNatClampNeg) x14)) (fun _ w19 => some (p1, w19)) else none))) else none)) := by
  unfold sX12_doRest
  rw [h]
  rfl
theorem dR_54 {W : xW} {p1 : Int32} (h : W.1 0 17 = 54) : sX12_doRest p1 W = (if xin (W.1 0 24) 8 then xlet (W.1 9 ((W.1 0 24).toNatClampNeg)) (fun x20 => (if xin (W.1 0 24) 8 then some (p1, (xwi W 9 ((W.1 0 24).toNatClampNeg) ((((xushr x20 (24 : Int32)) ||| ((x20 >>> ((8 : Int32) &&& 31)) &&& (65280 : Int32))) ||| ((x20 &&& (65280 : Int32)) <<< ((8 : Int32) &&& 31))) ||| (x20 <<< ((24 : Int32) &&& 31))))) else none)) else none) := by
  unfold sX12_doRest
  rw [h]
  rfl
theorem dO_44 {W : xW} {p1 : Int32} (h : W.1 0 17 = 44) : sX12_doOther p1 W = sX12_doRest p1 W := by
  unfold sX12_doOther
  rw [h]
  show xbd (sX12_doRest p1 W) (fun x1 w2 => some (x1, w2)) = _
  rw [xbd_id]
theorem dO_45 {W : xW} {p1 : Int32} (h : W.1 0 17 = 45) : sX12_doOther p1 W = sX12_doRest p1 W := by
  unfold sX12_doOther
  rw [h]
  show xbd (sX12_doRest p1 W) (fun x1 w2 => some (x1, w2)) = _
  rw [xbd_id]
theorem dO_46 {W : xW} {p1 : Int32} (h : W.1 0 17 = 46) : sX12_doOther p1 W = sX12_doRest p1 W := by
  unfold sX12_doOther
  rw [h]
  show xbd (sX12_doRest p1 W) (fun x1 w2 => some (x1, w2)) = _
  rw [xbd_id]
theorem dO_47 {W : xW} {p1 : Int32} (h : W.1 0 17 = 47) : sX12_doOther p1 W = sX12_doRest p1 W := by
  unfold sX12_doOther
  rw [h]
  show xbd (sX12_doRest p1 W) (fun x1 w2 => some (x1, w2)) = _
  rw [xbd_id]
theorem dO_48 {W : xW} {p1 : Int32} (h : W.1 0 17 = 48) : sX12_doOther p1 W = sX12_doRest p1 W := by
  unfold sX12_doOther
  rw [h]
  show xbd (sX12_doRest p1 W) (fun x1 w2 => some (x1, w2)) = _
  rw [xbd_id]
theorem dO_49 {W : xW} {p1 : Int32} (h : W.1 0 17 = 49) : sX12_doOther p1 W = sX12_doRest p1 W := by
  unfold sX12_doOther
  rw [h]
  show xbd (sX12_doRest p1 W) (fun x1 w2 => some (x1, w2)) = _
  rw [xbd_id]
theorem dO_50 {W : xW} {p1 : Int32} (h : W.1 0 17 = 50) : sX12_doOther p1 W = sX12_doRest p1 W := by
  unfold sX12_doOther
  rw [h]
  show xbd (sX12_doRest p1 W) (fun x1 w2 => some (x1, w2)) = _
  rw [xbd_id]
theorem dO_51 {W : xW} {p1 : Int32} (h : W.1 0 17 = 51) : sX12_doOther p1 W = sX12_doRest p1 W := by
  unfold sX12_doOther
  rw [h]
  show xbd (sX12_doRest p1 W) (fun x1 w2 => some (x1, w2)) = _
  rw [xbd_id]
theorem dO_52 {W : xW} {p1 : Int32} (h : W.1 0 17 = 52) : sX12_doOther p1 W = sX12_doRest p1 W := by
  unfold sX12_doOther
  rw [h]
  show xbd (sX12_doRest p1 W) (fun x1 w2 => some (x1, w2)) = _
  rw [xbd_id]
theorem dO_53 {W : xW} {p1 : Int32} (h : W.1 0 17 = 53) : sX12_doOther p1 W = sX12_doRest p1 W := by
  unfold sX12_doOther
  rw [h]
  show xbd (sX12_doRest p1 W) (fun x1 w2 => some (x1, w2)) = _
  rw [xbd_id]
theorem dO_54 {W : xW} {p1 : Int32} (h : W.1 0 17 = 54) : sX12_doOther p1 W = sX12_doRest p1 W := by
  unfold sX12_doOther
  rw [h]
  show xbd (sX12_doRest p1 W) (fun x1 w2 => some (x1, w2)) = _
  rw [xbd_id]
