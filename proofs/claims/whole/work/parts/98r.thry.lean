/-! the words of a throw that aren't good, and how they go on -/
def isCD : Cond → Bool
  | .castable .. => true
  | .declares _ => true
  | _ => false
theorem thy1 : (vx_atS RX11 85 IAEx upx).all (fun w => goodWord w || isCD w) = true := by decide +kernel
theorem thy2 : (vx_atS RX11 166 ISEx upx).all (fun w => goodWord w || isCD w) = true := by decide +kernel
theorem thy3 : (vx_atS RX11 223 IOBx upx).all (fun w => goodWord w || isCD w) = true := by decide +kernel
theorem isCD_warm {w : Cond} {s U : State} (h : isCD w = true) (hW : s.WarmedH U.vm) (hZ : va_Nw w s) : va_Nw w U := by
  cases w <;> first | exact absurd h Bool.false_ne_true | exact va_Nw.warmC hW hZ | exact va_Nw.warmD hW hZ
theorem isCD_ot {w : Cond} (h : isCD w = true) : w.onTables = true := by
  cases w <;> first | exact absurd h Bool.false_ne_true | rfl
