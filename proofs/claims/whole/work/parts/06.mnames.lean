def RX12 : String := "BundleFenceModel"
def TX12 : u_T := fun k => match k with
  | 0 => ("BundleFenceModel", "thrown", "I", false)
  | 1 => ("BundleFenceModel", "image", "[I", true)
  | 2 => ("BundleFenceModel", "imageSize", "I", false)
  | 3 => ("BundleFenceModel", "data", "[I", true)
  | 4 => ("BundleFenceModel", "input", "[I", true)
  | 5 => ("BundleFenceModel", "inputFrom", "I", false)
  | 6 => ("BundleFenceModel", "inputCount", "I", false)
  | 7 => ("BundleFenceModel", "output", "[I", true)
  | 8 => ("BundleFenceModel", "outputCount", "I", false)
  | 9 => ("BundleFenceModel", "looked", "Z", false)
  | 10 => ("BundleFenceModel", "fault", "I", false)
  | 11 => ("BundleFenceModel", "faultPlace", "I", false)
  | 12 => ("BundleFenceModel", "units", "[I", true)
  | 13 => ("BundleFenceModel", "passed", "[I", true)
  | 14 => ("BundleFenceModel", "stops", "[Z", true)
  | 15 => ("BundleFenceModel", "text", "[I", true)
  | 16 => ("BundleFenceModel", "textCount", "I", false)
  | 17 => ("BundleFenceModel", "op", "I", false)
  | 18 => ("BundleFenceModel", "form", "I", false)
  | 19 => ("BundleFenceModel", "condition", "I", false)
  | 20 => ("BundleFenceModel", "wide", "I", false)
  | 21 => ("BundleFenceModel", "wideE", "I", false)
  | 22 => ("BundleFenceModel", "mode", "I", false)
  | 23 => ("BundleFenceModel", "reg", "I", false)
  | 24 => ("BundleFenceModel", "rm", "I", false)
  | 25 => ("BundleFenceModel", "base", "I", false)
  | 26 => ("BundleFenceModel", "index", "I", false)
  | 27 => ("BundleFenceModel", "times", "I", false)
  | 28 => ("BundleFenceModel", "displacement", "I", false)
  | 29 => ("BundleFenceModel", "number", "I", false)
  | 30 => ("BundleFenceModel", "length", "I", false)
  | 31 => ("BundleFenceModel", "at", "I", false)
  | 32 => ("BundleFenceModel", "isThere", "Z", false)
  | 33 => ("BundleFenceModel", "state", "I", false)
  | 34 => ("BundleFenceModel", "eip", "I", false)
  | 35 => ("BundleFenceModel", "registers", "[I", true)
  | 36 => ("BundleFenceModel", "carry", "Z", false)
  | 37 => ("BundleFenceModel", "parity", "Z", false)
  | 38 => ("BundleFenceModel", "zero", "Z", false)
  | 39 => ("BundleFenceModel", "sign", "Z", false)
  | 40 => ("BundleFenceModel", "overflow", "Z", false)
  | 41 => ("BundleFenceModel", "left", "I", false)
  | 42 => ("BundleFenceModel", "breakAt", "I", false)
  | 43 => ("BundleFenceModel", "seed", "I", false)
  | 44 => ("BundleFenceModel", "steps", "J", false)
  | 45 => ("BundleFenceModel", "kept", "I", false)
  | 46 => ("BundleFenceModel", "effective", "I", false)
  | _ => ("BundleFenceModel", "before", "[I", true)
def tyX12 : Nat → FieldType := fun k => match k with
  | 0 => .int
  | 1 => .array .int
  | 2 => .int
  | 3 => .array .int
  | 4 => .array .int
  | 5 => .int
  | 6 => .int
  | 7 => .array .int
  | 8 => .int
  | 9 => .boolean
  | 10 => .int
  | 11 => .int
  | 12 => .array .int
  | 13 => .array .int
  | 14 => .array .boolean
  | 15 => .array .int
  | 16 => .int
  | 17 => .int
  | 18 => .int
  | 19 => .int
  | 20 => .int
  | 21 => .int
  | 22 => .int
  | 23 => .int
  | 24 => .int
  | 25 => .int
  | 26 => .int
  | 27 => .int
  | 28 => .int
  | 29 => .int
  | 30 => .int
  | 31 => .int
  | 32 => .boolean
  | 33 => .int
  | 34 => .int
  | 35 => .array .int
  | 36 => .boolean
  | 37 => .boolean
  | 38 => .boolean
  | 39 => .boolean
  | 40 => .boolean
  | 41 => .int
  | 42 => .int
  | 43 => .int
  | 44 => .long
  | 45 => .int
  | 46 => .int
  | _ => .array .int
theorem tyX12_ok : ∀ k, k < 48 → parseFieldDescriptor (TX12 k).2.2.1 = some (tyX12 k) := by decide +kernel
theorem nmX12 : ∀ a, a < 48 → ∀ b, b < 48 → a ≠ b → (TX12 a).2.1 ≠ (TX12 b).2.1 := by decide +kernel
set_option maxRecDepth 100000 in
theorem inX12 : ∀ q ∈ u_ws RX12 TX12 48, q ∈ gtbl := by decide +kernel
theorem xkX12 : xCl RX12 TX12 48 := ⟨inX12, ⟨tyX12, tyX12_ok⟩, nmX12⟩
/-- the layout of the reference: the object, its arrays -/
def fkM : Nat → Nat → Nat × Nat := fun _ j => match j with
  | 0 => (0, 0)
  | 1 => (2, 1)
  | 2 => (0, 0)
  | 3 => (2, 2)
  | 4 => (2, 3)
  | 5 => (0, 0)
  | 6 => (0, 0)
  | 7 => (2, 4)
  | 8 => (0, 0)
  | 9 => (0, 0)
  | 10 => (0, 0)
  | 11 => (0, 0)
  | 12 => (2, 5)
  | 13 => (2, 6)
  | 14 => (2, 7)
  | 15 => (2, 8)
  | 16 => (0, 0)
  | 17 => (0, 0)
  | 18 => (0, 0)
  | 19 => (0, 0)
  | 20 => (0, 0)
  | 21 => (0, 0)
  | 22 => (0, 0)
  | 23 => (0, 0)
  | 24 => (0, 0)
  | 25 => (0, 0)
  | 26 => (0, 0)
  | 27 => (0, 0)
  | 28 => (0, 0)
  | 29 => (0, 0)
  | 30 => (0, 0)
  | 31 => (0, 0)
  | 32 => (0, 0)
  | 33 => (0, 0)
  | 34 => (0, 0)
  | 35 => (2, 9)
  | 36 => (0, 0)
  | 37 => (0, 0)
  | 38 => (0, 0)
  | 39 => (0, 0)
  | 40 => (0, 0)
  | 41 => (0, 0)
  | 42 => (0, 0)
  | 43 => (0, 0)
  | 44 => (1, 0)
  | 45 => (0, 0)
  | 46 => (0, 0)
  | _ => (2, 10)
def stM : xG → (Nat → Prop) → State → Heap → Prop := fun G A U H => stStr G A U H ∧ stSites G U
def lM : xLay := ([(RX12, TX12, 48)], [.inl 0, .inr (0, 2048), .inr (0, 65536), .inr (0, 256), .inr (0, 1024), .inr (0, 2048), .inr (0, 2048), .inr (2, 2048), .inr (0, 80), .inr (0, 8), .inr (0, 8)], fkM, (fun _ _ ex => ex = []), stM)
theorem lM_ok : xLok lM := ⟨fun _ _ _ _ _ h => h, fun G A A2 s U H H2 hW hk hA h => ⟨stStr_ok G A A2 s U H H2 hW hk hA h.1, stSites_ok G s U hW h.2⟩⟩
theorem lM_str : xStrL lM := fun _ _ _ _ h => h.1
abbrev yX12_thrown : MethodName := ⟨"BundleFenceModel", "thrown", "()I"⟩
abbrev mX12_thrown : xMd := (yX12_thrown, cX12_thrown, 1, (some .int), { frames := 0, cells := 0, slots := 0, locals := 0 })
abbrev yX12_isIn : MethodName := ⟨"BundleFenceModel", "isIn", "(JJJ)Z"⟩
abbrev mX12_isIn : xMd := (yX12_isIn, cX12_isIn, 6, (some .boolean), { frames := 0, cells := 0, slots := 0, locals := 0 })
abbrev yX12_next : MethodName := ⟨"BundleFenceModel", "next", "()I"⟩
abbrev mX12_next : xMd := (yX12_next, cX12_next, 1, (some .int), { frames := 0, cells := 0, slots := 0, locals := 0 })
abbrev yX12_signedByte : MethodName := ⟨"BundleFenceModel", "signedByte", "()I"⟩
abbrev mX12_signedByte : xMd := (yX12_signedByte, cX12_signedByte, 1, (some .int), { frames := 1, cells := 0, slots := 0, locals := 20 })
abbrev yX12_nextLong : MethodName := ⟨"BundleFenceModel", "nextLong", "()I"⟩
abbrev mX12_nextLong : xMd := (yX12_nextLong, cX12_nextLong, 2, (some .int), { frames := 1, cells := 0, slots := 0, locals := 20 })
abbrev yX12_is : MethodName := ⟨"BundleFenceModel", "is", "(III)V"⟩
abbrev mX12_is : xMd := (yX12_is, cX12_is, 4, none, { frames := 0, cells := 0, slots := 0, locals := 0 })
abbrev yX12_operand : MethodName := ⟨"BundleFenceModel", "operand", "()V"⟩
abbrev mX12_operand : xMd := (yX12_operand, cX12_operand, 3, none, { frames := 2, cells := 0, slots := 0, locals := 41 })
abbrev yX12_number : MethodName := ⟨"BundleFenceModel", "number", "(I)V"⟩
abbrev mX12_number : xMd := (yX12_number, cX12_number, 2, none, { frames := 2, cells := 0, slots := 0, locals := 41 })
abbrev yX12_place : MethodName := ⟨"BundleFenceModel", "place", "(I)V"⟩
abbrev mX12_place : xMd := (yX12_place, cX12_place, 2, none, { frames := 3, cells := 0, slots := 0, locals := 62 })
abbrev yX12_digits : MethodName := ⟨"BundleFenceModel", "digits", "(Z)V"⟩
abbrev mX12_digits : xMd := (yX12_digits, cX12_digits, 2, none, { frames := 0, cells := 0, slots := 0, locals := 0 })
abbrev yX12_takeSecond : MethodName := ⟨"BundleFenceModel", "takeSecond", "()V"⟩
abbrev mX12_takeSecond : xMd := (yX12_takeSecond, cX12_takeSecond, 3, none, { frames := 4, cells := 0, slots := 0, locals := 83 })
abbrev yX12_takeWord : MethodName := ⟨"BundleFenceModel", "takeWord", "()V"⟩
abbrev mX12_takeWord : xMd := (yX12_takeWord, cX12_takeWord, 2, none, { frames := 3, cells := 0, slots := 0, locals := 63 })
abbrev yX12_takeOther : MethodName := ⟨"BundleFenceModel", "takeOther", "(II)V"⟩
abbrev mX12_takeOther : xMd := (yX12_takeOther, cX12_takeOther, 3, none, { frames := 4, cells := 0, slots := 0, locals := 83 })
abbrev yX12_take : MethodName := ⟨"BundleFenceModel", "take", "(I)Z"⟩
abbrev mX12_take : xMd := (yX12_take, cX12_take, 4, (some .boolean), { frames := 5, cells := 0, slots := 0, locals := 105 })
abbrev yX12_hasE : MethodName := ⟨"BundleFenceModel", "hasE", "()Z"⟩
abbrev mX12_hasE : xMd := (yX12_hasE, cX12_hasE, 1, (some .boolean), { frames := 0, cells := 0, slots := 0, locals := 0 })
abbrev yX12_writesFirst : MethodName := ⟨"BundleFenceModel", "writesFirst", "()Z"⟩
abbrev mX12_writesFirst : xMd := (yX12_writesFirst, cX12_writesFirst, 1, (some .boolean), { frames := 0, cells := 0, slots := 0, locals := 0 })
abbrev yX12_writesE : MethodName := ⟨"BundleFenceModel", "writesE", "()Z"⟩
abbrev mX12_writesE : xMd := (yX12_writesE, cX12_writesE, 1, (some .boolean), { frames := 1, cells := 0, slots := 0, locals := 20 })
abbrev yX12_writesMemory : MethodName := ⟨"BundleFenceModel", "writesMemory", "()Z"⟩
abbrev mX12_writesMemory : xMd := (yX12_writesMemory, cX12_writesMemory, 1, (some .boolean), { frames := 2, cells := 0, slots := 0, locals := 40 })
abbrev yX12_writesG : MethodName := ⟨"BundleFenceModel", "writesG", "()Z"⟩
abbrev mX12_writesG : xMd := (yX12_writesG, cX12_writesG, 2, (some .boolean), { frames := 0, cells := 0, slots := 0, locals := 0 })
abbrev yX12_writesStack : MethodName := ⟨"BundleFenceModel", "writesStack", "()Z"⟩
abbrev mX12_writesStack : xMd := (yX12_writesStack, cX12_writesStack, 4, (some .boolean), { frames := 2, cells := 0, slots := 0, locals := 40 })
abbrev yX12_isFenceAnd : MethodName := ⟨"BundleFenceModel", "isFenceAnd", "(I)Z"⟩
abbrev mX12_isFenceAnd : xMd := (yX12_isFenceAnd, cX12_isFenceAnd, 2, (some .boolean), { frames := 0, cells := 0, slots := 0, locals := 0 })
abbrev yX12_isFenceOr : MethodName := ⟨"BundleFenceModel", "isFenceOr", "(I)Z"⟩
abbrev mX12_isFenceOr : xMd := (yX12_isFenceOr, cX12_isFenceOr, 2, (some .boolean), { frames := 0, cells := 0, slots := 0, locals := 0 })
abbrev yX12_isNear : MethodName := ⟨"BundleFenceModel", "isNear", "()Z"⟩
abbrev mX12_isNear : xMd := (yX12_isNear, cX12_isNear, 1, (some .boolean), { frames := 1, cells := 0, slots := 0, locals := 25 })
abbrev yX12_longer : MethodName := ⟨"BundleFenceModel", "longer", "(II)I"⟩
abbrev mX12_longer : xMd := (yX12_longer, cX12_longer, 12, (some .int), { frames := 6, cells := 0, slots := 0, locals := 128 })
abbrev yX12_faultAt : MethodName := ⟨"BundleFenceModel", "faultAt", "(II)I"⟩
abbrev mX12_faultAt : xMd := (yX12_faultAt, cX12_faultAt, 4, (some .int), { frames := 6, cells := 0, slots := 0, locals := 128 })
abbrev yX12_bad : MethodName := ⟨"BundleFenceModel", "bad", "(II)I"⟩
abbrev mX12_bad : xMd := (yX12_bad, cX12_bad, 3, (some .int), { frames := 0, cells := 0, slots := 0, locals := 0 })
abbrev yX12_isGate : MethodName := ⟨"BundleFenceModel", "isGate", "(J)Z"⟩
abbrev mX12_isGate : xMd := (yX12_isGate, cX12_isGate, 3, (some .boolean), { frames := 0, cells := 0, slots := 0, locals := 0 })
abbrev yX12_look : MethodName := ⟨"BundleFenceModel", "look", "()I"⟩
abbrev mX12_look : xMd := (yX12_look, cX12_look, 8, (some .int), { frames := 7, cells := 0, slots := 0, locals := 159 })
abbrev yX12_fault : MethodName := ⟨"BundleFenceModel", "fault", "()I"⟩
abbrev mX12_fault : xMd := (yX12_fault, cX12_fault, 1, (some .int), { frames := 0, cells := 0, slots := 0, locals := 0 })
abbrev yX12_place_ : MethodName := ⟨"BundleFenceModel", "place", "()I"⟩
abbrev mX12_place_ : xMd := (yX12_place_, cX12_place_, 1, (some .int), { frames := 0, cells := 0, slots := 0, locals := 0 })
abbrev yX12_unit : MethodName := ⟨"BundleFenceModel", "unit", "(I)I"⟩
abbrev mX12_unit : xMd := (yX12_unit, cX12_unit, 2, (some .int), { frames := 1, cells := 0, slots := 0, locals := 25 })
abbrev yX12_size : MethodName := ⟨"BundleFenceModel", "size", "(I)I"⟩
abbrev mX12_size : xMd := (yX12_size, cX12_size, 2, (some .int), { frames := 6, cells := 0, slots := 0, locals := 128 })
abbrev yX12_say : MethodName := ⟨"BundleFenceModel", "say", "(I)V"⟩
abbrev mX12_say : xMd := (yX12_say, cX12_say, 2, none, { frames := 0, cells := 0, slots := 0, locals := 0 })
abbrev yX12_sayWord : MethodName := ⟨"BundleFenceModel", "sayWord", "(Ljava/lang/String;I)V"⟩
abbrev mX12_sayWord : xMd := (yX12_sayWord, cX12_sayWord, 5, none, { frames := 4, cells := 0, slots := 0, locals := 85 })
abbrev yX12_sayNumber : MethodName := ⟨"BundleFenceModel", "sayNumber", "(J)V"⟩
abbrev mX12_sayNumber : xMd := (yX12_sayNumber, cX12_sayNumber, 7, none, { frames := 1, cells := 0, slots := 0, locals := 21 })
abbrev yX12_sayRegister : MethodName := ⟨"BundleFenceModel", "sayRegister", "(II)V"⟩
abbrev mX12_sayRegister : xMd := (yX12_sayRegister, cX12_sayRegister, 3, none, { frames := 5, cells := 0, slots := 0, locals := 109 })
abbrev yX12_sayE : MethodName := ⟨"BundleFenceModel", "sayE", "()V"⟩
abbrev mX12_sayE : xMd := (yX12_sayE, cX12_sayE, 2, none, { frames := 6, cells := 0, slots := 0, locals := 131 })
abbrev yX12_sayOperands : MethodName := ⟨"BundleFenceModel", "sayOperands", "()V"⟩
abbrev mX12_sayOperands : xMd := (yX12_sayOperands, cX12_sayOperands, 1, none, { frames := 7, cells := 0, slots := 0, locals := 152 })
abbrev yX12_tell : MethodName := ⟨"BundleFenceModel", "tell", "(I)I"⟩
abbrev mX12_tell : xMd := (yX12_tell, cX12_tell, 2, (some .int), { frames := 8, cells := 0, slots := 0, locals := 172 })
abbrev yX12_text : MethodName := ⟨"BundleFenceModel", "text", "(I)J"⟩
abbrev mX12_text : xMd := (yX12_text, cX12_text, 8, (some .long), { frames := 0, cells := 0, slots := 0, locals := 0 })
abbrev yX12_inData : MethodName := ⟨"BundleFenceModel", "inData", "(JI)Z"⟩
abbrev mX12_inData : xMd := (yX12_inData, cX12_inData, 4, (some .boolean), { frames := 0, cells := 0, slots := 0, locals := 0 })
abbrev yX12_inImage : MethodName := ⟨"BundleFenceModel", "inImage", "(JI)Z"⟩
abbrev mX12_inImage : xMd := (yX12_inImage, cX12_inImage, 4, (some .boolean), { frames := 0, cells := 0, slots := 0, locals := 0 })
abbrev yX12_byteAt : MethodName := ⟨"BundleFenceModel", "byteAt", "(J)I"⟩
abbrev mX12_byteAt : xMd := (yX12_byteAt, cX12_byteAt, 3, (some .int), { frames := 0, cells := 0, slots := 0, locals := 0 })
abbrev yX12_read : MethodName := ⟨"BundleFenceModel", "read", "(II)I"⟩
abbrev mX12_read : xMd := (yX12_read, cX12_read, 7, (some .int), { frames := 1, cells := 0, slots := 0, locals := 23 })
abbrev yX12_write : MethodName := ⟨"BundleFenceModel", "write", "(III)V"⟩
abbrev mX12_write : xMd := (yX12_write, cX12_write, 7, none, { frames := 1, cells := 0, slots := 0, locals := 23 })
abbrev yX12_part : MethodName := ⟨"BundleFenceModel", "part", "(II)I"⟩
abbrev mX12_part : xMd := (yX12_part, cX12_part, 3, (some .int), { frames := 0, cells := 0, slots := 0, locals := 0 })
abbrev yX12_setRegister : MethodName := ⟨"BundleFenceModel", "setRegister", "(III)V"⟩
abbrev mX12_setRegister : xMd := (yX12_setRegister, cX12_setRegister, 4, none, { frames := 0, cells := 0, slots := 0, locals := 0 })
abbrev yX12_address : MethodName := ⟨"BundleFenceModel", "address", "()I"⟩
abbrev mX12_address : xMd := (yX12_address, cX12_address, 1, (some .int), { frames := 0, cells := 0, slots := 0, locals := 0 })
abbrev yX12_getE : MethodName := ⟨"BundleFenceModel", "getE", "()I"⟩
abbrev mX12_getE : xMd := (yX12_getE, cX12_getE, 1, (some .int), { frames := 2, cells := 0, slots := 0, locals := 49 })
abbrev yX12_setE : MethodName := ⟨"BundleFenceModel", "setE", "(I)V"⟩
abbrev mX12_setE : xMd := (yX12_setE, cX12_setE, 2, none, { frames := 2, cells := 0, slots := 0, locals := 49 })
abbrev yX12_mask : MethodName := ⟨"BundleFenceModel", "mask", "(I)I"⟩
abbrev mX12_mask : xMd := (yX12_mask, cX12_mask, 1, (some .int), { frames := 0, cells := 0, slots := 0, locals := 0 })
abbrev yX12_top : MethodName := ⟨"BundleFenceModel", "top", "(II)Z"⟩
abbrev mX12_top : xMd := (yX12_top, cX12_top, 2, (some .boolean), { frames := 0, cells := 0, slots := 0, locals := 0 })
abbrev yX12_byResult : MethodName := ⟨"BundleFenceModel", "byResult", "(II)V"⟩
abbrev mX12_byResult : xMd := (yX12_byResult, cX12_byResult, 4, none, { frames := 1, cells := 0, slots := 0, locals := 21 })
abbrev yX12_sum : MethodName := ⟨"BundleFenceModel", "sum", "(IIII)I"⟩
abbrev mX12_sum : xMd := (yX12_sum, cX12_sum, 10, (some .int), { frames := 2, cells := 0, slots := 0, locals := 44 })
abbrev yX12_difference : MethodName := ⟨"BundleFenceModel", "difference", "(IIII)I"⟩
abbrev mX12_difference : xMd := (yX12_difference, cX12_difference, 10, (some .int), { frames := 2, cells := 0, slots := 0, locals := 44 })
abbrev yX12_eight : MethodName := ⟨"BundleFenceModel", "eight", "(IIII)I"⟩
abbrev mX12_eight : xMd := (yX12_eight, cX12_eight, 6, (some .int), { frames := 3, cells := 0, slots := 0, locals := 73 })
abbrev yX12_holds : MethodName := ⟨"BundleFenceModel", "holds", "(I)Z"⟩
abbrev mX12_holds : xMd := (yX12_holds, cX12_holds, 3, (some .boolean), { frames := 0, cells := 0, slots := 0, locals := 0 })
abbrev yX12_firstOf : MethodName := ⟨"BundleFenceModel", "firstOf", "()I"⟩
abbrev mX12_firstOf : xMd := (yX12_firstOf, cX12_firstOf, 1, (some .int), { frames := 3, cells := 0, slots := 0, locals := 69 })
abbrev yX12_secondOf : MethodName := ⟨"BundleFenceModel", "secondOf", "()I"⟩
abbrev mX12_secondOf : xMd := (yX12_secondOf, cX12_secondOf, 1, (some .int), { frames := 3, cells := 0, slots := 0, locals := 69 })
abbrev yX12_setFirst : MethodName := ⟨"BundleFenceModel", "setFirst", "(I)V"⟩
abbrev mX12_setFirst : xMd := (yX12_setFirst, cX12_setFirst, 2, none, { frames := 3, cells := 0, slots := 0, locals := 70 })
abbrev yX12_shifted : MethodName := ⟨"BundleFenceModel", "shifted", "(II)I"⟩
abbrev mX12_shifted : xMd := (yX12_shifted, cX12_shifted, 10, (some .int), { frames := 2, cells := 0, slots := 0, locals := 44 })
abbrev yX12_shifts : MethodName := ⟨"BundleFenceModel", "shifts", "()V"⟩
abbrev mX12_shifts : xMd := (yX12_shifts, cX12_shifts, 3, none, { frames := 3, cells := 0, slots := 0, locals := 73 })
abbrev yX12_doubles : MethodName := ⟨"BundleFenceModel", "doubles", "()V"⟩
abbrev mX12_doubles : xMd := (yX12_doubles, cX12_doubles, 5, none, { frames := 3, cells := 0, slots := 0, locals := 70 })
abbrev yX12_product : MethodName := ⟨"BundleFenceModel", "product", "(JJ)V"⟩
abbrev mX12_product : xMd := (yX12_product, cX12_product, 7, none, { frames := 2, cells := 0, slots := 0, locals := 44 })
abbrev yX12_wholeProduct : MethodName := ⟨"BundleFenceModel", "wholeProduct", "()V"⟩
abbrev mX12_wholeProduct : xMd := (yX12_wholeProduct, cX12_wholeProduct, 4, none, { frames := 3, cells := 0, slots := 0, locals := 69 })
abbrev yX12_traps : MethodName := ⟨"BundleFenceModel", "traps", "()V"⟩
abbrev mX12_traps : xMd := (yX12_traps, cX12_traps, 1, none, { frames := 0, cells := 0, slots := 0, locals := 0 })
abbrev yX12_quotient : MethodName := ⟨"BundleFenceModel", "quotient", "()V"⟩
abbrev mX12_quotient : xMd := (yX12_quotient, cX12_quotient, 10, none, { frames := 3, cells := 0, slots := 0, locals := 69 })
abbrev yX12_push : MethodName := ⟨"BundleFenceModel", "push", "(I)V"⟩
abbrev mX12_push : xMd := (yX12_push, cX12_push, 2, none, { frames := 2, cells := 0, slots := 0, locals := 49 })
abbrev yX12_pop : MethodName := ⟨"BundleFenceModel", "pop", "()I"⟩
abbrev mX12_pop : xMd := (yX12_pop, cX12_pop, 2, (some .int), { frames := 2, cells := 0, slots := 0, locals := 49 })
abbrev yX12_doRest : MethodName := ⟨"BundleFenceModel", "doRest", "(I)I"⟩
abbrev mX12_doRest : xMd := (yX12_doRest, cX12_doRest, 6, (some .int), { frames := 4, cells := 0, slots := 0, locals := 94 })
abbrev yX12_doOther : MethodName := ⟨"BundleFenceModel", "doOther", "(I)I"⟩
abbrev mX12_doOther : xMd := (yX12_doOther, cX12_doOther, 5, (some .int), { frames := 5, cells := 0, slots := 0, locals := 119 })
abbrev yX12_doOne : MethodName := ⟨"BundleFenceModel", "doOne", "()V"⟩
abbrev mX12_doOne : xMd := (yX12_doOne, cX12_doOne, 6, none, { frames := 6, cells := 0, slots := 0, locals := 143 })
abbrev yX12_serve : MethodName := ⟨"BundleFenceModel", "serve", "(I)V"⟩
abbrev mX12_serve : xMd := (yX12_serve, cX12_serve, 11, none, { frames := 2, cells := 0, slots := 0, locals := 49 })
abbrev yX12_step : MethodName := ⟨"BundleFenceModel", "step", "()Z"⟩
abbrev mX12_step : xMd := (yX12_step, cX12_step, 11, (some .boolean), { frames := 7, cells := 0, slots := 0, locals := 168 })
abbrev yX12_change : MethodName := ⟨"BundleFenceModel", "change", "()V"⟩
abbrev mX12_change : xMd := (yX12_change, cX12_change, 2, none, { frames := 0, cells := 0, slots := 0, locals := 0 })
abbrev yX12_feed : MethodName := ⟨"BundleFenceModel", "feed", "(IJ)I"⟩
abbrev mX12_feed : xMd := (yX12_feed, cX12_feed, 5, (some .int), { frames := 1, cells := 0, slots := 0, locals := 25 })
abbrev yX12_wipe : MethodName := ⟨"BundleFenceModel", "wipe", "()I"⟩
abbrev mX12_wipe : xMd := (yX12_wipe, cX12_wipe, 2, (some .int), { frames := 1, cells := 0, slots := 0, locals := 21 })
abbrev yX12_poke : MethodName := ⟨"BundleFenceModel", "poke", "(II)I"⟩
abbrev mX12_poke : xMd := (yX12_poke, cX12_poke, 4, (some .int), { frames := 1, cells := 0, slots := 0, locals := 25 })
abbrev yX12_peek : MethodName := ⟨"BundleFenceModel", "peek", "(I)I"⟩
abbrev mX12_peek : xMd := (yX12_peek, cX12_peek, 2, (some .int), { frames := 1, cells := 0, slots := 0, locals := 23 })
abbrev yX12_give : MethodName := ⟨"BundleFenceModel", "give", "(IJ)I"⟩
abbrev mX12_give : xMd := (yX12_give, cX12_give, 5, (some .int), { frames := 1, cells := 0, slots := 0, locals := 25 })
abbrev yX12_begin : MethodName := ⟨"BundleFenceModel", "begin", "(Z)V"⟩
abbrev mX12_begin : xMd := (yX12_begin, cX12_begin, 3, none, { frames := 0, cells := 0, slots := 0, locals := 0 })
abbrev yX12_run : MethodName := ⟨"BundleFenceModel", "run", "(I)I"⟩
abbrev mX12_run : xMd := (yX12_run, cX12_run, 6, (some .int), { frames := 8, cells := 0, slots := 0, locals := 198 })
abbrev yX12_stop : MethodName := ⟨"BundleFenceModel", "stop", "(IZ)Z"⟩
abbrev mX12_stop : xMd := (yX12_stop, cX12_stop, 4, (some .boolean), { frames := 1, cells := 0, slots := 0, locals := 25 })
abbrev yX12_told : MethodName := ⟨"BundleFenceModel", "told", "(I)I"⟩
abbrev mX12_told : xMd := (yX12_told, cX12_told, 2, (some .int), { frames := 1, cells := 0, slots := 0, locals := 25 })
abbrev yX12_steps : MethodName := ⟨"BundleFenceModel", "steps", "()J"⟩
abbrev mX12_steps : xMd := (yX12_steps, cX12_steps, 1, (some .long), { frames := 0, cells := 0, slots := 0, locals := 0 })
abbrev yX12_register : MethodName := ⟨"BundleFenceModel", "register", "(I)I"⟩
abbrev mX12_register : xMd := (yX12_register, cX12_register, 2, (some .int), { frames := 1, cells := 0, slots := 0, locals := 25 })
abbrev yX12_put : MethodName := ⟨"BundleFenceModel", "put", "(II)I"⟩
abbrev mX12_put : xMd := (yX12_put, cX12_put, 4, (some .int), { frames := 1, cells := 0, slots := 0, locals := 25 })
abbrev yX12_output : MethodName := ⟨"BundleFenceModel", "output", "(I)I"⟩
abbrev mX12_output : xMd := (yX12_output, cX12_output, 2, (some .int), { frames := 1, cells := 0, slots := 0, locals := 25 })
abbrev yX12_passed : MethodName := ⟨"BundleFenceModel", "passed", "(I)I"⟩
abbrev mX12_passed : xMd := (yX12_passed, cX12_passed, 2, (some .int), { frames := 1, cells := 0, slots := 0, locals := 25 })
theorem cb_m128 : (Int8.ofInt (-128)).toInt32 = (-128) := by decide
theorem cb_m38 : (Int8.ofInt (-38)).toInt32 = (-38) := by decide
theorem cb_m32 : (Int8.ofInt (-32)).toInt32 = (-32) := by decide
theorem cb_m14 : (Int8.ofInt (-14)).toInt32 = (-14) := by decide
theorem cb_6 : (Int8.ofInt 6).toInt32 = 6 := by decide
theorem cb_7 : (Int8.ofInt 7).toInt32 = 7 := by decide
theorem cb_8 : (Int8.ofInt 8).toInt32 = 8 := by decide
theorem cb_9 : (Int8.ofInt 9).toInt32 = 9 := by decide
theorem cb_10 : (Int8.ofInt 10).toInt32 = 10 := by decide
theorem cb_11 : (Int8.ofInt 11).toInt32 = 11 := by decide
theorem cb_12 : (Int8.ofInt 12).toInt32 = 12 := by decide
theorem cb_13 : (Int8.ofInt 13).toInt32 = 13 := by decide
theorem cb_14 : (Int8.ofInt 14).toInt32 = 14 := by decide
theorem cb_15 : (Int8.ofInt 15).toInt32 = 15 := by decide
theorem cb_16 : (Int8.ofInt 16).toInt32 = 16 := by decide
theorem cb_17 : (Int8.ofInt 17).toInt32 = 17 := by decide
theorem cb_18 : (Int8.ofInt 18).toInt32 = 18 := by decide
theorem cb_19 : (Int8.ofInt 19).toInt32 = 19 := by decide
theorem cb_20 : (Int8.ofInt 20).toInt32 = 20 := by decide
theorem cb_21 : (Int8.ofInt 21).toInt32 = 21 := by decide
theorem cb_23 : (Int8.ofInt 23).toInt32 = 23 := by decide
theorem cb_24 : (Int8.ofInt 24).toInt32 = 24 := by decide
theorem cb_25 : (Int8.ofInt 25).toInt32 = 25 := by decide
theorem cb_26 : (Int8.ofInt 26).toInt32 = 26 := by decide
theorem cb_27 : (Int8.ofInt 27).toInt32 = 27 := by decide
theorem cb_28 : (Int8.ofInt 28).toInt32 = 28 := by decide
theorem cb_29 : (Int8.ofInt 29).toInt32 = 29 := by decide
theorem cb_30 : (Int8.ofInt 30).toInt32 = 30 := by decide
theorem cb_31 : (Int8.ofInt 31).toInt32 = 31 := by decide
theorem cb_32 : (Int8.ofInt 32).toInt32 = 32 := by decide
theorem cb_33 : (Int8.ofInt 33).toInt32 = 33 := by decide
theorem cb_34 : (Int8.ofInt 34).toInt32 = 34 := by decide
theorem cb_35 : (Int8.ofInt 35).toInt32 = 35 := by decide
theorem cb_36 : (Int8.ofInt 36).toInt32 = 36 := by decide
theorem cb_37 : (Int8.ofInt 37).toInt32 = 37 := by decide
theorem cb_38 : (Int8.ofInt 38).toInt32 = 38 := by decide
theorem cb_40 : (Int8.ofInt 40).toInt32 = 40 := by decide
theorem cb_42 : (Int8.ofInt 42).toInt32 = 42 := by decide
theorem cb_43 : (Int8.ofInt 43).toInt32 = 43 := by decide
theorem cb_44 : (Int8.ofInt 44).toInt32 = 44 := by decide
theorem cb_45 : (Int8.ofInt 45).toInt32 = 45 := by decide
theorem cb_46 : (Int8.ofInt 46).toInt32 = 46 := by decide
theorem cb_47 : (Int8.ofInt 47).toInt32 = 47 := by decide
theorem cb_48 : (Int8.ofInt 48).toInt32 = 48 := by decide
theorem cb_49 : (Int8.ofInt 49).toInt32 = 49 := by decide
theorem cb_50 : (Int8.ofInt 50).toInt32 = 50 := by decide
theorem cb_51 : (Int8.ofInt 51).toInt32 = 51 := by decide
theorem cb_52 : (Int8.ofInt 52).toInt32 = 52 := by decide
theorem cb_53 : (Int8.ofInt 53).toInt32 = 53 := by decide
theorem cb_54 : (Int8.ofInt 54).toInt32 = 54 := by decide
theorem cb_64 : (Int8.ofInt 64).toInt32 = 64 := by decide
theorem cb_72 : (Int8.ofInt 72).toInt32 = 72 := by decide
theorem cb_80 : (Int8.ofInt 80).toInt32 = 80 := by decide
theorem cb_88 : (Int8.ofInt 88).toInt32 = 88 := by decide
theorem cb_91 : (Int8.ofInt 91).toInt32 = 91 := by decide
theorem cb_93 : (Int8.ofInt 93).toInt32 = 93 := by decide
theorem cb_96 : (Int8.ofInt 96).toInt32 = 96 := by decide
theorem cb_98 : (Int8.ofInt 98).toInt32 = 98 := by decide
theorem cb_100 : (Int8.ofInt 100).toInt32 = 100 := by decide
theorem cb_102 : (Int8.ofInt 102).toInt32 = 102 := by decide
theorem cb_104 : (Int8.ofInt 104).toInt32 = 104 := by decide
theorem cb_105 : (Int8.ofInt 105).toInt32 = 105 := by decide
theorem cb_112 : (Int8.ofInt 112).toInt32 = 112 := by decide
theorem cb_119 : (Int8.ofInt 119).toInt32 = 119 := by decide
theorem cb_127 : (Int8.ofInt 127).toInt32 = 127 := by decide
theorem ci_m1 : Int32.ofInt (-1) = (-1) := by decide
theorem ci_0 : Int32.ofInt 0 = 0 := by decide
theorem ci_1 : Int32.ofInt 1 = 1 := by decide
theorem ci_2 : Int32.ofInt 2 = 2 := by decide
theorem ci_3 : Int32.ofInt 3 = 3 := by decide
theorem ci_4 : Int32.ofInt 4 = 4 := by decide
theorem ci_5 : Int32.ofInt 5 = 5 := by decide
theorem cl_0 : Int64.ofNat ((0 : Fin 2) : Nat) = 0 := by decide
theorem cl_1 : Int64.ofNat ((1 : Fin 2) : Nat) = 1 := by decide
theorem cs_m256 : (Int16.ofInt (-256)).toInt32 = (-256) := by decide
theorem cs_128 : (Int16.ofInt 128).toInt32 = 128 := by decide
theorem cs_129 : (Int16.ofInt 129).toInt32 = 129 := by decide
theorem cs_137 : (Int16.ofInt 137).toInt32 = 137 := by decide
theorem cs_139 : (Int16.ofInt 139).toInt32 = 139 := by decide
theorem cs_144 : (Int16.ofInt 144).toInt32 = 144 := by decide
theorem cs_145 : (Int16.ofInt 145).toInt32 = 145 := by decide
theorem cs_152 : (Int16.ofInt 152).toInt32 = 152 := by decide
theorem cs_164 : (Int16.ofInt 164).toInt32 = 164 := by decide
theorem cs_172 : (Int16.ofInt 172).toInt32 = 172 := by decide
theorem cs_175 : (Int16.ofInt 175).toInt32 = 175 := by decide
theorem cs_176 : (Int16.ofInt 176).toInt32 = 176 := by decide
theorem cs_177 : (Int16.ofInt 177).toInt32 = 177 := by decide
theorem cs_182 : (Int16.ofInt 182).toInt32 = 182 := by decide
theorem cs_183 : (Int16.ofInt 183).toInt32 = 183 := by decide
theorem cs_184 : (Int16.ofInt 184).toInt32 = 184 := by decide
theorem cs_188 : (Int16.ofInt 188).toInt32 = 188 := by decide
theorem cs_189 : (Int16.ofInt 189).toInt32 = 189 := by decide
theorem cs_190 : (Int16.ofInt 190).toInt32 = 190 := by decide
theorem cs_191 : (Int16.ofInt 191).toInt32 = 191 := by decide
theorem cs_192 : (Int16.ofInt 192).toInt32 = 192 := by decide
theorem cs_193 : (Int16.ofInt 193).toInt32 = 193 := by decide
theorem cs_194 : (Int16.ofInt 194).toInt32 = 194 := by decide
theorem cs_200 : (Int16.ofInt 200).toInt32 = 200 := by decide
theorem cs_208 : (Int16.ofInt 208).toInt32 = 208 := by decide
theorem cs_210 : (Int16.ofInt 210).toInt32 = 210 := by decide
theorem cs_226 : (Int16.ofInt 226).toInt32 = 226 := by decide
theorem cs_227 : (Int16.ofInt 227).toInt32 = 227 := by decide
theorem cs_232 : (Int16.ofInt 232).toInt32 = 232 := by decide
theorem cs_244 : (Int16.ofInt 244).toInt32 = 244 := by decide
theorem cs_248 : (Int16.ofInt 248).toInt32 = 248 := by decide
theorem cs_255 : (Int16.ofInt 255).toInt32 = 255 := by decide
theorem cs_256 : (Int16.ofInt 256).toInt32 = 256 := by decide
theorem cs_1000 : (Int16.ofInt 1000).toInt32 = 1000 := by decide
theorem cs_1024 : (Int16.ofInt 1024).toInt32 = 1024 := by decide
theorem cs_2048 : (Int16.ofInt 2048).toInt32 = 2048 := by decide
theorem cs_4096 : (Int16.ofInt 4096).toInt32 = 4096 := by decide
theorem cs_12345 : (Int16.ofInt 12345).toInt32 = 12345 := by decide
theorem cs_32767 : (Int16.ofInt 32767).toInt32 = 32767 := by decide
theorem tw88 : Cond.selects "BundleFenceModel" ⟨"BundleFenceModel", "bad", "(II)I"⟩ ⟨"BundleFenceModel", "bad", "(II)I"⟩ ∈ gtbl := gts_6 (y := ⟨"BundleFenceModel", "bad", "(II)I"⟩) 8 rfl
theorem tw89 : Cond.selects "BundleFenceModel" ⟨"BundleFenceModel", "take", "(I)Z"⟩ ⟨"BundleFenceModel", "take", "(I)Z"⟩ ∈ gtbl := gts_6 (y := ⟨"BundleFenceModel", "take", "(I)Z"⟩) 9 rfl
theorem tw90 : Cond.selects "BundleFenceModel" ⟨"BundleFenceModel", "next", "()I"⟩ ⟨"BundleFenceModel", "next", "()I"⟩ ∈ gtbl := gts_6 (y := ⟨"BundleFenceModel", "next", "()I"⟩) 10 rfl
theorem tw91 : Cond.selects "BundleFenceModel" ⟨"BundleFenceModel", "is", "(III)V"⟩ ⟨"BundleFenceModel", "is", "(III)V"⟩ ∈ gtbl := gts_6 (y := ⟨"BundleFenceModel", "is", "(III)V"⟩) 11 rfl
theorem tw92 : Cond.selects "BundleFenceModel" ⟨"BundleFenceModel", "number", "(I)V"⟩ ⟨"BundleFenceModel", "number", "(I)V"⟩ ∈ gtbl := gts_6 (y := ⟨"BundleFenceModel", "number", "(I)V"⟩) 12 rfl
theorem tw93 : Cond.selects "BundleFenceModel" ⟨"BundleFenceModel", "signedByte", "()I"⟩ ⟨"BundleFenceModel", "signedByte", "()I"⟩ ∈ gtbl := gts_6 (y := ⟨"BundleFenceModel", "signedByte", "()I"⟩) 13 rfl
theorem tw94 : Cond.selects "BundleFenceModel" ⟨"BundleFenceModel", "nextLong", "()I"⟩ ⟨"BundleFenceModel", "nextLong", "()I"⟩ ∈ gtbl := gts_6 (y := ⟨"BundleFenceModel", "nextLong", "()I"⟩) 14 rfl
theorem tw95 : Cond.selects "BundleFenceModel" ⟨"BundleFenceModel", "operand", "()V"⟩ ⟨"BundleFenceModel", "operand", "()V"⟩ ∈ gtbl := gts_6 (y := ⟨"BundleFenceModel", "operand", "()V"⟩) 15 rfl
theorem tw96 : Cond.selects "BundleFenceModel" ⟨"BundleFenceModel", "place", "(I)V"⟩ ⟨"BundleFenceModel", "place", "(I)V"⟩ ∈ gtbl := gts_7 (y := ⟨"BundleFenceModel", "place", "(I)V"⟩) 0 rfl
theorem tw97 : Cond.selects "BundleFenceModel" ⟨"BundleFenceModel", "takeSecond", "()V"⟩ ⟨"BundleFenceModel", "takeSecond", "()V"⟩ ∈ gtbl := gts_7 (y := ⟨"BundleFenceModel", "takeSecond", "()V"⟩) 1 rfl
theorem tw98 : Cond.selects "BundleFenceModel" ⟨"BundleFenceModel", "digits", "(Z)V"⟩ ⟨"BundleFenceModel", "digits", "(Z)V"⟩ ∈ gtbl := gts_7 (y := ⟨"BundleFenceModel", "digits", "(Z)V"⟩) 2 rfl
theorem tw99 : Cond.selects "BundleFenceModel" ⟨"BundleFenceModel", "takeWord", "()V"⟩ ⟨"BundleFenceModel", "takeWord", "()V"⟩ ∈ gtbl := gts_7 (y := ⟨"BundleFenceModel", "takeWord", "()V"⟩) 3 rfl
theorem tw100 : Cond.selects "BundleFenceModel" ⟨"BundleFenceModel", "takeOther", "(II)V"⟩ ⟨"BundleFenceModel", "takeOther", "(II)V"⟩ ∈ gtbl := gts_7 (y := ⟨"BundleFenceModel", "takeOther", "(II)V"⟩) 4 rfl
theorem tw101 : Cond.selects "BundleFenceModel" ⟨"BundleFenceModel", "longer", "(II)I"⟩ ⟨"BundleFenceModel", "longer", "(II)I"⟩ ∈ gtbl := gts_7 (y := ⟨"BundleFenceModel", "longer", "(II)I"⟩) 5 rfl
theorem tw102 : Cond.selects "BundleFenceModel" ⟨"BundleFenceModel", "isFenceAnd", "(I)Z"⟩ ⟨"BundleFenceModel", "isFenceAnd", "(I)Z"⟩ ∈ gtbl := gts_7 (y := ⟨"BundleFenceModel", "isFenceAnd", "(I)Z"⟩) 6 rfl
theorem tw103 : Cond.selects "BundleFenceModel" ⟨"BundleFenceModel", "writesStack", "()Z"⟩ ⟨"BundleFenceModel", "writesStack", "()Z"⟩ ∈ gtbl := gts_7 (y := ⟨"BundleFenceModel", "writesStack", "()Z"⟩) 7 rfl
theorem tw104 : Cond.selects "BundleFenceModel" ⟨"BundleFenceModel", "writesG", "()Z"⟩ ⟨"BundleFenceModel", "writesG", "()Z"⟩ ∈ gtbl := gts_7 (y := ⟨"BundleFenceModel", "writesG", "()Z"⟩) 8 rfl
theorem tw105 : Cond.selects "BundleFenceModel" ⟨"BundleFenceModel", "writesE", "()Z"⟩ ⟨"BundleFenceModel", "writesE", "()Z"⟩ ∈ gtbl := gts_7 (y := ⟨"BundleFenceModel", "writesE", "()Z"⟩) 9 rfl
theorem tw106 : Cond.selects "BundleFenceModel" ⟨"BundleFenceModel", "hasE", "()Z"⟩ ⟨"BundleFenceModel", "hasE", "()Z"⟩ ∈ gtbl := gts_7 (y := ⟨"BundleFenceModel", "hasE", "()Z"⟩) 10 rfl
theorem tw107 : Cond.selects "BundleFenceModel" ⟨"BundleFenceModel", "writesFirst", "()Z"⟩ ⟨"BundleFenceModel", "writesFirst", "()Z"⟩ ∈ gtbl := gts_7 (y := ⟨"BundleFenceModel", "writesFirst", "()Z"⟩) 11 rfl
theorem tw108 : Cond.selects "BundleFenceModel" ⟨"BundleFenceModel", "writesMemory", "()Z"⟩ ⟨"BundleFenceModel", "writesMemory", "()Z"⟩ ∈ gtbl := gts_7 (y := ⟨"BundleFenceModel", "writesMemory", "()Z"⟩) 12 rfl
theorem tw109 : Cond.selects "BundleFenceModel" ⟨"BundleFenceModel", "isFenceOr", "(I)Z"⟩ ⟨"BundleFenceModel", "isFenceOr", "(I)Z"⟩ ∈ gtbl := gts_7 (y := ⟨"BundleFenceModel", "isFenceOr", "(I)Z"⟩) 13 rfl
theorem tw110 : Cond.selects "BundleFenceModel" ⟨"BundleFenceModel", "isNear", "()Z"⟩ ⟨"BundleFenceModel", "isNear", "()Z"⟩ ∈ gtbl := gts_7 (y := ⟨"BundleFenceModel", "isNear", "()Z"⟩) 14 rfl
theorem tw111 : Cond.selects "BundleFenceModel" ⟨"BundleFenceModel", "faultAt", "(II)I"⟩ ⟨"BundleFenceModel", "faultAt", "(II)I"⟩ ∈ gtbl := gts_7 (y := ⟨"BundleFenceModel", "faultAt", "(II)I"⟩) 15 rfl
theorem tw112 : Cond.selects "BundleFenceModel" ⟨"BundleFenceModel", "isGate", "(J)Z"⟩ ⟨"BundleFenceModel", "isGate", "(J)Z"⟩ ∈ gtbl := gts_8 (y := ⟨"BundleFenceModel", "isGate", "(J)Z"⟩) 0 rfl
theorem tw113 : Cond.selects "BundleFenceModel" ⟨"BundleFenceModel", "sayWord", "(Ljava/lang/String;I)V"⟩ ⟨"BundleFenceModel", "sayWord", "(Ljava/lang/String;I)V"⟩ ∈ gtbl := gts_8 (y := ⟨"BundleFenceModel", "sayWord", "(Ljava/lang/String;I)V"⟩) 1 rfl
theorem tw114 : Cond.selects "BundleFenceModel" ⟨"BundleFenceModel", "say", "(I)V"⟩ ⟨"BundleFenceModel", "say", "(I)V"⟩ ∈ gtbl := gts_8 (y := ⟨"BundleFenceModel", "say", "(I)V"⟩) 2 rfl
theorem tw115 : Cond.selects "BundleFenceModel" ⟨"BundleFenceModel", "sayOperands", "()V"⟩ ⟨"BundleFenceModel", "sayOperands", "()V"⟩ ∈ gtbl := gts_8 (y := ⟨"BundleFenceModel", "sayOperands", "()V"⟩) 3 rfl
theorem tw116 : Cond.selects "BundleFenceModel" ⟨"BundleFenceModel", "sayE", "()V"⟩ ⟨"BundleFenceModel", "sayE", "()V"⟩ ∈ gtbl := gts_8 (y := ⟨"BundleFenceModel", "sayE", "()V"⟩) 4 rfl
theorem tw117 : Cond.selects "BundleFenceModel" ⟨"BundleFenceModel", "sayRegister", "(II)V"⟩ ⟨"BundleFenceModel", "sayRegister", "(II)V"⟩ ∈ gtbl := gts_8 (y := ⟨"BundleFenceModel", "sayRegister", "(II)V"⟩) 5 rfl
theorem tw118 : Cond.selects "BundleFenceModel" ⟨"BundleFenceModel", "sayNumber", "(J)V"⟩ ⟨"BundleFenceModel", "sayNumber", "(J)V"⟩ ∈ gtbl := gts_8 (y := ⟨"BundleFenceModel", "sayNumber", "(J)V"⟩) 6 rfl
theorem tw119 : Cond.selects "BundleFenceModel" ⟨"BundleFenceModel", "change", "()V"⟩ ⟨"BundleFenceModel", "change", "()V"⟩ ∈ gtbl := gts_8 (y := ⟨"BundleFenceModel", "change", "()V"⟩) 7 rfl
theorem tw120 : Cond.selects "BundleFenceModel" ⟨"BundleFenceModel", "inData", "(JI)Z"⟩ ⟨"BundleFenceModel", "inData", "(JI)Z"⟩ ∈ gtbl := gts_8 (y := ⟨"BundleFenceModel", "inData", "(JI)Z"⟩) 8 rfl
theorem tw121 : Cond.selects "BundleFenceModel" ⟨"BundleFenceModel", "inImage", "(JI)Z"⟩ ⟨"BundleFenceModel", "inImage", "(JI)Z"⟩ ∈ gtbl := gts_8 (y := ⟨"BundleFenceModel", "inImage", "(JI)Z"⟩) 9 rfl
theorem tw122 : Cond.selects "BundleFenceModel" ⟨"BundleFenceModel", "byteAt", "(J)I"⟩ ⟨"BundleFenceModel", "byteAt", "(J)I"⟩ ∈ gtbl := gts_8 (y := ⟨"BundleFenceModel", "byteAt", "(J)I"⟩) 10 rfl
theorem tw123 : Cond.selects "BundleFenceModel" ⟨"BundleFenceModel", "step", "()Z"⟩ ⟨"BundleFenceModel", "step", "()Z"⟩ ∈ gtbl := gts_8 (y := ⟨"BundleFenceModel", "step", "()Z"⟩) 11 rfl
theorem tw124 : Cond.selects "BundleFenceModel" ⟨"BundleFenceModel", "serve", "(I)V"⟩ ⟨"BundleFenceModel", "serve", "(I)V"⟩ ∈ gtbl := gts_8 (y := ⟨"BundleFenceModel", "serve", "(I)V"⟩) 12 rfl
theorem tw125 : Cond.selects "BundleFenceModel" ⟨"BundleFenceModel", "read", "(II)I"⟩ ⟨"BundleFenceModel", "read", "(II)I"⟩ ∈ gtbl := gts_8 (y := ⟨"BundleFenceModel", "read", "(II)I"⟩) 13 rfl
theorem tw126 : Cond.selects "BundleFenceModel" ⟨"BundleFenceModel", "doOne", "()V"⟩ ⟨"BundleFenceModel", "doOne", "()V"⟩ ∈ gtbl := gts_8 (y := ⟨"BundleFenceModel", "doOne", "()V"⟩) 14 rfl
theorem tw127 : Cond.selects "BundleFenceModel" ⟨"BundleFenceModel", "firstOf", "()I"⟩ ⟨"BundleFenceModel", "firstOf", "()I"⟩ ∈ gtbl := gts_8 (y := ⟨"BundleFenceModel", "firstOf", "()I"⟩) 15 rfl
theorem tw128 : Cond.selects "BundleFenceModel" ⟨"BundleFenceModel", "part", "(II)I"⟩ ⟨"BundleFenceModel", "part", "(II)I"⟩ ∈ gtbl := gts_9 (y := ⟨"BundleFenceModel", "part", "(II)I"⟩) 0 rfl
theorem tw129 : Cond.selects "BundleFenceModel" ⟨"BundleFenceModel", "getE", "()I"⟩ ⟨"BundleFenceModel", "getE", "()I"⟩ ∈ gtbl := gts_9 (y := ⟨"BundleFenceModel", "getE", "()I"⟩) 1 rfl
theorem tw130 : Cond.selects "BundleFenceModel" ⟨"BundleFenceModel", "address", "()I"⟩ ⟨"BundleFenceModel", "address", "()I"⟩ ∈ gtbl := gts_9 (y := ⟨"BundleFenceModel", "address", "()I"⟩) 2 rfl
theorem tw131 : Cond.selects "BundleFenceModel" ⟨"BundleFenceModel", "secondOf", "()I"⟩ ⟨"BundleFenceModel", "secondOf", "()I"⟩ ∈ gtbl := gts_9 (y := ⟨"BundleFenceModel", "secondOf", "()I"⟩) 3 rfl
theorem tw132 : Cond.selects "BundleFenceModel" ⟨"BundleFenceModel", "eight", "(IIII)I"⟩ ⟨"BundleFenceModel", "eight", "(IIII)I"⟩ ∈ gtbl := gts_9 (y := ⟨"BundleFenceModel", "eight", "(IIII)I"⟩) 4 rfl
theorem tw133 : Cond.selects "BundleFenceModel" ⟨"BundleFenceModel", "sum", "(IIII)I"⟩ ⟨"BundleFenceModel", "sum", "(IIII)I"⟩ ∈ gtbl := gts_9 (y := ⟨"BundleFenceModel", "sum", "(IIII)I"⟩) 5 rfl
theorem tw134 : Cond.selects "BundleFenceModel" ⟨"BundleFenceModel", "byResult", "(II)V"⟩ ⟨"BundleFenceModel", "byResult", "(II)V"⟩ ∈ gtbl := gts_9 (y := ⟨"BundleFenceModel", "byResult", "(II)V"⟩) 6 rfl
theorem tw135 : Cond.selects "BundleFenceModel" ⟨"BundleFenceModel", "difference", "(IIII)I"⟩ ⟨"BundleFenceModel", "difference", "(IIII)I"⟩ ∈ gtbl := gts_9 (y := ⟨"BundleFenceModel", "difference", "(IIII)I"⟩) 7 rfl
theorem tw136 : Cond.selects "BundleFenceModel" ⟨"BundleFenceModel", "setFirst", "(I)V"⟩ ⟨"BundleFenceModel", "setFirst", "(I)V"⟩ ∈ gtbl := gts_9 (y := ⟨"BundleFenceModel", "setFirst", "(I)V"⟩) 8 rfl
theorem tw137 : Cond.selects "BundleFenceModel" ⟨"BundleFenceModel", "setRegister", "(III)V"⟩ ⟨"BundleFenceModel", "setRegister", "(III)V"⟩ ∈ gtbl := gts_9 (y := ⟨"BundleFenceModel", "setRegister", "(III)V"⟩) 9 rfl
theorem tw138 : Cond.selects "BundleFenceModel" ⟨"BundleFenceModel", "setE", "(I)V"⟩ ⟨"BundleFenceModel", "setE", "(I)V"⟩ ∈ gtbl := gts_9 (y := ⟨"BundleFenceModel", "setE", "(I)V"⟩) 10 rfl
theorem tw139 : Cond.selects "BundleFenceModel" ⟨"BundleFenceModel", "write", "(III)V"⟩ ⟨"BundleFenceModel", "write", "(III)V"⟩ ∈ gtbl := gts_9 (y := ⟨"BundleFenceModel", "write", "(III)V"⟩) 11 rfl
theorem tw140 : Cond.selects "BundleFenceModel" ⟨"BundleFenceModel", "shifts", "()V"⟩ ⟨"BundleFenceModel", "shifts", "()V"⟩ ∈ gtbl := gts_9 (y := ⟨"BundleFenceModel", "shifts", "()V"⟩) 12 rfl
theorem tw141 : Cond.selects "BundleFenceModel" ⟨"BundleFenceModel", "shifted", "(II)I"⟩ ⟨"BundleFenceModel", "shifted", "(II)I"⟩ ∈ gtbl := gts_9 (y := ⟨"BundleFenceModel", "shifted", "(II)I"⟩) 13 rfl
theorem tw142 : Cond.selects "BundleFenceModel" ⟨"BundleFenceModel", "doOther", "(I)I"⟩ ⟨"BundleFenceModel", "doOther", "(I)I"⟩ ∈ gtbl := gts_9 (y := ⟨"BundleFenceModel", "doOther", "(I)I"⟩) 14 rfl
theorem tw143 : Cond.selects "BundleFenceModel" ⟨"BundleFenceModel", "push", "(I)V"⟩ ⟨"BundleFenceModel", "push", "(I)V"⟩ ∈ gtbl := gts_9 (y := ⟨"BundleFenceModel", "push", "(I)V"⟩) 15 rfl
theorem tw144 : Cond.selects "BundleFenceModel" ⟨"BundleFenceModel", "pop", "()I"⟩ ⟨"BundleFenceModel", "pop", "()I"⟩ ∈ gtbl := gts_10 (y := ⟨"BundleFenceModel", "pop", "()I"⟩) 0 rfl
theorem tw145 : Cond.selects "BundleFenceModel" ⟨"BundleFenceModel", "product", "(JJ)V"⟩ ⟨"BundleFenceModel", "product", "(JJ)V"⟩ ∈ gtbl := gts_10 (y := ⟨"BundleFenceModel", "product", "(JJ)V"⟩) 1 rfl
theorem tw146 : Cond.selects "BundleFenceModel" ⟨"BundleFenceModel", "holds", "(I)Z"⟩ ⟨"BundleFenceModel", "holds", "(I)Z"⟩ ∈ gtbl := gts_10 (y := ⟨"BundleFenceModel", "holds", "(I)Z"⟩) 2 rfl
theorem tw147 : Cond.selects "BundleFenceModel" ⟨"BundleFenceModel", "wholeProduct", "()V"⟩ ⟨"BundleFenceModel", "wholeProduct", "()V"⟩ ∈ gtbl := gts_10 (y := ⟨"BundleFenceModel", "wholeProduct", "()V"⟩) 3 rfl
theorem tw148 : Cond.selects "BundleFenceModel" ⟨"BundleFenceModel", "quotient", "()V"⟩ ⟨"BundleFenceModel", "quotient", "()V"⟩ ∈ gtbl := gts_10 (y := ⟨"BundleFenceModel", "quotient", "()V"⟩) 4 rfl
theorem tw149 : Cond.selects "BundleFenceModel" ⟨"BundleFenceModel", "traps", "()V"⟩ ⟨"BundleFenceModel", "traps", "()V"⟩ ∈ gtbl := gts_10 (y := ⟨"BundleFenceModel", "traps", "()V"⟩) 5 rfl
theorem tw150 : Cond.selects "BundleFenceModel" ⟨"BundleFenceModel", "doRest", "(I)I"⟩ ⟨"BundleFenceModel", "doRest", "(I)I"⟩ ∈ gtbl := gts_10 (y := ⟨"BundleFenceModel", "doRest", "(I)I"⟩) 6 rfl
theorem tw151 : Cond.selects "BundleFenceModel" ⟨"BundleFenceModel", "doubles", "()V"⟩ ⟨"BundleFenceModel", "doubles", "()V"⟩ ∈ gtbl := gts_10 (y := ⟨"BundleFenceModel", "doubles", "()V"⟩) 7 rfl
theorem tw169 : Cond.initialized "BundleFenceModel" ∈ gtbl := gtt_1 17 rfl rfl
theorem tw1900 : Cond.constant "BundleFenceModel" 13 65536 ∈ gtbl := gtt_8 68 rfl rfl
theorem tw1901 : Cond.constant "BundleFenceModel" 43 131072 ∈ gtbl := gtt_8 69 rfl rfl
theorem tw1902 : Cond.fieldLink "BundleFenceModel" 53 "BundleFenceModel" "thrown" "I" ∈ gtbl := gtt_8 70 rfl rfl
theorem tw1903 : Cond.fieldLink "BundleFenceModel" 7 "BundleFenceModel" "image" "[I" ∈ gtbl := gtt_8 71 rfl rfl
theorem tw1904 : Cond.fieldLink "BundleFenceModel" 59 "BundleFenceModel" "imageSize" "I" ∈ gtbl := gtt_8 72 rfl rfl
theorem tw1905 : Cond.fieldLink "BundleFenceModel" 14 "BundleFenceModel" "data" "[I" ∈ gtbl := gtt_8 73 rfl rfl
theorem tw1906 : Cond.fieldLink "BundleFenceModel" 17 "BundleFenceModel" "input" "[I" ∈ gtbl := gtt_8 74 rfl rfl
theorem tw1907 : Cond.fieldLink "BundleFenceModel" 404 "BundleFenceModel" "inputFrom" "I" ∈ gtbl := gtt_8 75 rfl rfl
theorem tw1908 : Cond.fieldLink "BundleFenceModel" 401 "BundleFenceModel" "inputCount" "I" ∈ gtbl := gtt_8 76 rfl rfl
theorem tw1909 : Cond.fieldLink "BundleFenceModel" 20 "BundleFenceModel" "output" "[I" ∈ gtbl := gtt_8 77 rfl rfl
theorem tw1910 : Cond.fieldLink "BundleFenceModel" 398 "BundleFenceModel" "outputCount" "I" ∈ gtbl := gtt_8 78 rfl rfl
theorem tw1911 : Cond.fieldLink "BundleFenceModel" 195 "BundleFenceModel" "looked" "Z" ∈ gtbl := gtt_8 79 rfl rfl
theorem tw1912 : Cond.fieldLink "BundleFenceModel" 192 "BundleFenceModel" "fault" "I" ∈ gtbl := gtt_8 80 rfl rfl
theorem tw1913 : Cond.fieldLink "BundleFenceModel" 23 "BundleFenceModel" "faultPlace" "I" ∈ gtbl := gtt_8 81 rfl rfl
theorem tw1914 : Cond.fieldLink "BundleFenceModel" 27 "BundleFenceModel" "units" "[I" ∈ gtbl := gtt_8 82 rfl rfl
theorem tw1915 : Cond.fieldLink "BundleFenceModel" 30 "BundleFenceModel" "passed" "[I" ∈ gtbl := gtt_8 83 rfl rfl
theorem tw1916 : Cond.fieldLink "BundleFenceModel" 33 "BundleFenceModel" "stops" "[Z" ∈ gtbl := gtt_8 84 rfl rfl
theorem tw1917 : Cond.fieldLink "BundleFenceModel" 37 "BundleFenceModel" "text" "[I" ∈ gtbl := gtt_8 85 rfl rfl
theorem tw1918 : Cond.fieldLink "BundleFenceModel" 220 "BundleFenceModel" "textCount" "I" ∈ gtbl := gtt_8 86 rfl rfl
theorem tw1919 : Cond.fieldLink "BundleFenceModel" 70 "BundleFenceModel" "op" "I" ∈ gtbl := gtt_8 87 rfl rfl
theorem tw1920 : Cond.fieldLink "BundleFenceModel" 73 "BundleFenceModel" "form" "I" ∈ gtbl := gtt_8 88 rfl rfl
theorem tw1921 : Cond.fieldLink "BundleFenceModel" 115 "BundleFenceModel" "condition" "I" ∈ gtbl := gtt_8 89 rfl rfl
theorem tw1922 : Cond.fieldLink "BundleFenceModel" 76 "BundleFenceModel" "wide" "I" ∈ gtbl := gtt_8 90 rfl rfl
theorem tw1923 : Cond.fieldLink "BundleFenceModel" 79 "BundleFenceModel" "wideE" "I" ∈ gtbl := gtt_8 91 rfl rfl
theorem tw1924 : Cond.fieldLink "BundleFenceModel" 82 "BundleFenceModel" "mode" "I" ∈ gtbl := gtt_8 92 rfl rfl
theorem tw1925 : Cond.fieldLink "BundleFenceModel" 85 "BundleFenceModel" "reg" "I" ∈ gtbl := gtt_8 93 rfl rfl
theorem tw1926 : Cond.fieldLink "BundleFenceModel" 88 "BundleFenceModel" "rm" "I" ∈ gtbl := gtt_8 94 rfl rfl
theorem tw1927 : Cond.fieldLink "BundleFenceModel" 91 "BundleFenceModel" "base" "I" ∈ gtbl := gtt_8 95 rfl rfl
theorem tw1928 : Cond.fieldLink "BundleFenceModel" 94 "BundleFenceModel" "index" "I" ∈ gtbl := gtt_8 96 rfl rfl
theorem tw1929 : Cond.fieldLink "BundleFenceModel" 97 "BundleFenceModel" "times" "I" ∈ gtbl := gtt_8 97 rfl rfl
theorem tw1930 : Cond.fieldLink "BundleFenceModel" 100 "BundleFenceModel" "displacement" "I" ∈ gtbl := gtt_8 98 rfl rfl
theorem tw1931 : Cond.fieldLink "BundleFenceModel" 109 "BundleFenceModel" "number" "I" ∈ gtbl := gtt_8 99 rfl rfl
theorem tw1932 : Cond.fieldLink "BundleFenceModel" 138 "BundleFenceModel" "length" "I" ∈ gtbl := gtt_8 100 rfl rfl
theorem tw1933 : Cond.fieldLink "BundleFenceModel" 56 "BundleFenceModel" "at" "I" ∈ gtbl := gtt_8 101 rfl rfl
theorem tw1934 : Cond.fieldLink "BundleFenceModel" 62 "BundleFenceModel" "isThere" "Z" ∈ gtbl := gtt_8 102 rfl rfl
theorem tw1935 : Cond.fieldLink "BundleFenceModel" 395 "BundleFenceModel" "state" "I" ∈ gtbl := gtt_8 103 rfl rfl
theorem tw1936 : Cond.fieldLink "BundleFenceModel" 40 "BundleFenceModel" "eip" "I" ∈ gtbl := gtt_8 104 rfl rfl
theorem tw1937 : Cond.fieldLink "BundleFenceModel" 44 "BundleFenceModel" "registers" "[I" ∈ gtbl := gtt_8 105 rfl rfl
theorem tw1938 : Cond.fieldLink "BundleFenceModel" 320 "BundleFenceModel" "carry" "Z" ∈ gtbl := gtt_8 106 rfl rfl
theorem tw1939 : Cond.fieldLink "BundleFenceModel" 317 "BundleFenceModel" "parity" "Z" ∈ gtbl := gtt_8 107 rfl rfl
theorem tw1940 : Cond.fieldLink "BundleFenceModel" 307 "BundleFenceModel" "zero" "Z" ∈ gtbl := gtt_8 108 rfl rfl
theorem tw1941 : Cond.fieldLink "BundleFenceModel" 314 "BundleFenceModel" "sign" "Z" ∈ gtbl := gtt_8 109 rfl rfl
theorem tw1942 : Cond.fieldLink "BundleFenceModel" 323 "BundleFenceModel" "overflow" "Z" ∈ gtbl := gtt_8 110 rfl rfl
theorem tw1943 : Cond.fieldLink "BundleFenceModel" 392 "BundleFenceModel" "left" "I" ∈ gtbl := gtt_8 111 rfl rfl
theorem tw1944 : Cond.fieldLink "BundleFenceModel" 47 "BundleFenceModel" "breakAt" "I" ∈ gtbl := gtt_8 112 rfl rfl
theorem tw1945 : Cond.fieldLink "BundleFenceModel" 411 "BundleFenceModel" "seed" "I" ∈ gtbl := gtt_8 113 rfl rfl
theorem tw1946 : Cond.fieldLink "BundleFenceModel" 407 "BundleFenceModel" "steps" "J" ∈ gtbl := gtt_8 114 rfl rfl
theorem tw1947 : Cond.fieldLink "BundleFenceModel" 272 "BundleFenceModel" "kept" "I" ∈ gtbl := gtt_8 115 rfl rfl
theorem tw1948 : Cond.fieldLink "BundleFenceModel" 288 "BundleFenceModel" "effective" "I" ∈ gtbl := gtt_8 116 rfl rfl
theorem tw1949 : Cond.fieldLink "BundleFenceModel" 50 "BundleFenceModel" "before" "[I" ∈ gtbl := gtt_8 117 rfl rfl
theorem tw2055 : Cond.methodLink "BundleFenceModel" 204 ⟨"BundleFenceModel", "bad", "(II)I"⟩ ∈ gtbl := gtt_8 223 rfl rfl
theorem tw2057 : Cond.instanceMethod ⟨"BundleFenceModel", "bad", "(II)I"⟩ ∈ gtbl := gtt_8 225 rfl rfl
theorem tw2058 : Cond.code ⟨"BundleFenceModel", "bad", "(II)I"⟩ cX12_bad 3 (some .int) ∈ gtbl := gtt_8 226 rfl rfl
theorem tw2059 : Cond.methodLink "BundleFenceModel" 167 ⟨"BundleFenceModel", "take", "(I)Z"⟩ ∈ gtbl := gtt_8 227 rfl rfl
theorem tw2061 : Cond.instanceMethod ⟨"BundleFenceModel", "take", "(I)Z"⟩ ∈ gtbl := gtt_8 229 rfl rfl
theorem tw2062 : Cond.code ⟨"BundleFenceModel", "take", "(I)Z"⟩ cX12_take 4 (some .boolean) ∈ gtbl := gtt_8 230 rfl rfl
theorem tw2063 : Cond.methodLink "BundleFenceModel" 66 ⟨"BundleFenceModel", "next", "()I"⟩ ∈ gtbl := gtt_8 231 rfl rfl
theorem tw2065 : Cond.instanceMethod ⟨"BundleFenceModel", "next", "()I"⟩ ∈ gtbl := gtt_8 233 rfl rfl
theorem tw2066 : Cond.code ⟨"BundleFenceModel", "next", "()I"⟩ cX12_next 1 (some .int) ∈ gtbl := gtt_8 234 rfl rfl
theorem tw2067 : Cond.methodLink "BundleFenceModel" 118 ⟨"BundleFenceModel", "is", "(III)V"⟩ ∈ gtbl := gtt_8 235 rfl rfl
theorem tw2069 : Cond.instanceMethod ⟨"BundleFenceModel", "is", "(III)V"⟩ ∈ gtbl := gtt_8 237 rfl rfl
theorem tw2070 : Cond.code ⟨"BundleFenceModel", "is", "(III)V"⟩ cX12_is 4 none ∈ gtbl := gtt_8 238 rfl rfl
theorem tw2071 : Cond.methodLink "BundleFenceModel" 112 ⟨"BundleFenceModel", "number", "(I)V"⟩ ∈ gtbl := gtt_8 239 rfl rfl
theorem tw2073 : Cond.instanceMethod ⟨"BundleFenceModel", "number", "(I)V"⟩ ∈ gtbl := gtt_9 1 rfl rfl
theorem tw2074 : Cond.code ⟨"BundleFenceModel", "number", "(I)V"⟩ cX12_number 2 none ∈ gtbl := gtt_9 2 rfl rfl
theorem tw2075 : Cond.methodLink "BundleFenceModel" 106 ⟨"BundleFenceModel", "signedByte", "()I"⟩ ∈ gtbl := gtt_9 3 rfl rfl
theorem tw2077 : Cond.instanceMethod ⟨"BundleFenceModel", "signedByte", "()I"⟩ ∈ gtbl := gtt_9 5 rfl rfl
theorem tw2078 : Cond.code ⟨"BundleFenceModel", "signedByte", "()I"⟩ cX12_signedByte 1 (some .int) ∈ gtbl := gtt_9 6 rfl rfl
theorem tw2079 : Cond.methodLink "BundleFenceModel" 103 ⟨"BundleFenceModel", "nextLong", "()I"⟩ ∈ gtbl := gtt_9 7 rfl rfl
theorem tw2081 : Cond.instanceMethod ⟨"BundleFenceModel", "nextLong", "()I"⟩ ∈ gtbl := gtt_9 9 rfl rfl
theorem tw2082 : Cond.code ⟨"BundleFenceModel", "nextLong", "()I"⟩ cX12_nextLong 2 (some .int) ∈ gtbl := gtt_9 10 rfl rfl
theorem tw2083 : Cond.methodLink "BundleFenceModel" 122 ⟨"BundleFenceModel", "operand", "()V"⟩ ∈ gtbl := gtt_9 11 rfl rfl
theorem tw2085 : Cond.instanceMethod ⟨"BundleFenceModel", "operand", "()V"⟩ ∈ gtbl := gtt_9 13 rfl rfl
theorem tw2086 : Cond.code ⟨"BundleFenceModel", "operand", "()V"⟩ cX12_operand 3 none ∈ gtbl := gtt_9 14 rfl rfl
theorem tw2087 : Cond.methodLink "BundleFenceModel" 125 ⟨"BundleFenceModel", "place", "(I)V"⟩ ∈ gtbl := gtt_9 15 rfl rfl
theorem tw2089 : Cond.instanceMethod ⟨"BundleFenceModel", "place", "(I)V"⟩ ∈ gtbl := gtt_9 17 rfl rfl
theorem tw2090 : Cond.code ⟨"BundleFenceModel", "place", "(I)V"⟩ cX12_place 2 none ∈ gtbl := gtt_9 18 rfl rfl
theorem tw2091 : Cond.methodLink "BundleFenceModel" 128 ⟨"BundleFenceModel", "takeSecond", "()V"⟩ ∈ gtbl := gtt_9 19 rfl rfl
theorem tw2093 : Cond.instanceMethod ⟨"BundleFenceModel", "takeSecond", "()V"⟩ ∈ gtbl := gtt_9 21 rfl rfl
theorem tw2094 : Cond.code ⟨"BundleFenceModel", "takeSecond", "()V"⟩ cX12_takeSecond 3 none ∈ gtbl := gtt_9 22 rfl rfl
theorem tw2095 : Cond.methodLink "BundleFenceModel" 141 ⟨"BundleFenceModel", "digits", "(Z)V"⟩ ∈ gtbl := gtt_9 23 rfl rfl
theorem tw2097 : Cond.instanceMethod ⟨"BundleFenceModel", "digits", "(Z)V"⟩ ∈ gtbl := gtt_9 25 rfl rfl
theorem tw2098 : Cond.code ⟨"BundleFenceModel", "digits", "(Z)V"⟩ cX12_digits 2 none ∈ gtbl := gtt_9 26 rfl rfl
theorem tw2099 : Cond.methodLink "BundleFenceModel" 131 ⟨"BundleFenceModel", "takeWord", "()V"⟩ ∈ gtbl := gtt_9 27 rfl rfl
theorem tw2101 : Cond.instanceMethod ⟨"BundleFenceModel", "takeWord", "()V"⟩ ∈ gtbl := gtt_9 29 rfl rfl
theorem tw2102 : Cond.code ⟨"BundleFenceModel", "takeWord", "()V"⟩ cX12_takeWord 2 none ∈ gtbl := gtt_9 30 rfl rfl
theorem tw2103 : Cond.methodLink "BundleFenceModel" 134 ⟨"BundleFenceModel", "takeOther", "(II)V"⟩ ∈ gtbl := gtt_9 31 rfl rfl
theorem tw2105 : Cond.instanceMethod ⟨"BundleFenceModel", "takeOther", "(II)V"⟩ ∈ gtbl := gtt_9 33 rfl rfl
theorem tw2106 : Cond.code ⟨"BundleFenceModel", "takeOther", "(II)V"⟩ cX12_takeOther 3 none ∈ gtbl := gtt_9 34 rfl rfl
theorem tw2107 : Cond.methodLink "BundleFenceModel" 208 ⟨"BundleFenceModel", "longer", "(II)I"⟩ ∈ gtbl := gtt_9 35 rfl rfl
theorem tw2109 : Cond.instanceMethod ⟨"BundleFenceModel", "longer", "(II)I"⟩ ∈ gtbl := gtt_9 37 rfl rfl
theorem tw2110 : Cond.code ⟨"BundleFenceModel", "longer", "(II)I"⟩ cX12_longer 12 (some .int) ∈ gtbl := gtt_9 38 rfl rfl
theorem tw2111 : Cond.methodLink "BundleFenceModel" 171 ⟨"BundleFenceModel", "isFenceAnd", "(I)Z"⟩ ∈ gtbl := gtt_9 39 rfl rfl
theorem tw2113 : Cond.instanceMethod ⟨"BundleFenceModel", "isFenceAnd", "(I)Z"⟩ ∈ gtbl := gtt_9 41 rfl rfl
theorem tw2114 : Cond.code ⟨"BundleFenceModel", "isFenceAnd", "(I)Z"⟩ cX12_isFenceAnd 2 (some .boolean) ∈ gtbl := gtt_9 42 rfl rfl
theorem tw2115 : Cond.constant "BundleFenceModel" 158 65535 ∈ gtbl := gtt_9 43 rfl rfl
theorem tw2116 : Cond.methodLink "BundleFenceModel" 174 ⟨"BundleFenceModel", "writesStack", "()Z"⟩ ∈ gtbl := gtt_9 44 rfl rfl
theorem tw2118 : Cond.instanceMethod ⟨"BundleFenceModel", "writesStack", "()Z"⟩ ∈ gtbl := gtt_9 46 rfl rfl
theorem tw2119 : Cond.code ⟨"BundleFenceModel", "writesStack", "()Z"⟩ cX12_writesStack 4 (some .boolean) ∈ gtbl := gtt_9 47 rfl rfl
theorem tw2120 : Cond.methodLink "BundleFenceModel" 155 ⟨"BundleFenceModel", "writesG", "()Z"⟩ ∈ gtbl := gtt_9 48 rfl rfl
theorem tw2122 : Cond.instanceMethod ⟨"BundleFenceModel", "writesG", "()Z"⟩ ∈ gtbl := gtt_9 50 rfl rfl
theorem tw2123 : Cond.code ⟨"BundleFenceModel", "writesG", "()Z"⟩ cX12_writesG 2 (some .boolean) ∈ gtbl := gtt_9 51 rfl rfl
theorem tw2124 : Cond.methodLink "BundleFenceModel" 152 ⟨"BundleFenceModel", "writesE", "()Z"⟩ ∈ gtbl := gtt_9 52 rfl rfl
theorem tw2126 : Cond.instanceMethod ⟨"BundleFenceModel", "writesE", "()Z"⟩ ∈ gtbl := gtt_9 54 rfl rfl
theorem tw2127 : Cond.code ⟨"BundleFenceModel", "writesE", "()Z"⟩ cX12_writesE 1 (some .boolean) ∈ gtbl := gtt_9 55 rfl rfl
theorem tw2128 : Cond.methodLink "BundleFenceModel" 145 ⟨"BundleFenceModel", "hasE", "()Z"⟩ ∈ gtbl := gtt_9 56 rfl rfl
theorem tw2130 : Cond.instanceMethod ⟨"BundleFenceModel", "hasE", "()Z"⟩ ∈ gtbl := gtt_9 58 rfl rfl
theorem tw2131 : Cond.code ⟨"BundleFenceModel", "hasE", "()Z"⟩ cX12_hasE 1 (some .boolean) ∈ gtbl := gtt_9 59 rfl rfl
theorem tw2132 : Cond.methodLink "BundleFenceModel" 149 ⟨"BundleFenceModel", "writesFirst", "()Z"⟩ ∈ gtbl := gtt_9 60 rfl rfl
theorem tw2134 : Cond.instanceMethod ⟨"BundleFenceModel", "writesFirst", "()Z"⟩ ∈ gtbl := gtt_9 62 rfl rfl
theorem tw2135 : Cond.code ⟨"BundleFenceModel", "writesFirst", "()Z"⟩ cX12_writesFirst 1 (some .boolean) ∈ gtbl := gtt_9 63 rfl rfl
theorem tw2136 : Cond.methodLink "BundleFenceModel" 177 ⟨"BundleFenceModel", "writesMemory", "()Z"⟩ ∈ gtbl := gtt_9 64 rfl rfl
theorem tw2138 : Cond.instanceMethod ⟨"BundleFenceModel", "writesMemory", "()Z"⟩ ∈ gtbl := gtt_9 66 rfl rfl
theorem tw2139 : Cond.code ⟨"BundleFenceModel", "writesMemory", "()Z"⟩ cX12_writesMemory 1 (some .boolean) ∈ gtbl := gtt_9 67 rfl rfl
theorem tw2140 : Cond.methodLink "BundleFenceModel" 180 ⟨"BundleFenceModel", "isFenceOr", "(I)Z"⟩ ∈ gtbl := gtt_9 68 rfl rfl
theorem tw2142 : Cond.instanceMethod ⟨"BundleFenceModel", "isFenceOr", "(I)Z"⟩ ∈ gtbl := gtt_9 70 rfl rfl
theorem tw2143 : Cond.code ⟨"BundleFenceModel", "isFenceOr", "(I)Z"⟩ cX12_isFenceOr 2 (some .boolean) ∈ gtbl := gtt_9 71 rfl rfl
theorem tw2144 : Cond.methodLink "BundleFenceModel" 183 ⟨"BundleFenceModel", "isNear", "()Z"⟩ ∈ gtbl := gtt_9 72 rfl rfl
theorem tw2146 : Cond.instanceMethod ⟨"BundleFenceModel", "isNear", "()Z"⟩ ∈ gtbl := gtt_9 74 rfl rfl
theorem tw2147 : Cond.code ⟨"BundleFenceModel", "isNear", "()Z"⟩ cX12_isNear 1 (some .boolean) ∈ gtbl := gtt_9 75 rfl rfl
theorem tw2148 : Cond.constantLong "BundleFenceModel" 159 (-2048) ∈ gtbl := gtt_9 76 rfl rfl
theorem tw2149 : Cond.constantLong "BundleFenceModel" 161 2047 ∈ gtbl := gtt_9 77 rfl rfl
theorem tw2150 : Cond.methodLink "BundleFenceModel" 163 ⟨"BundleFenceModel", "isIn", "(JJJ)Z"⟩ ∈ gtbl := gtt_9 78 rfl rfl
theorem tw2151 : Cond.static ⟨"BundleFenceModel", "isIn", "(JJJ)Z"⟩ ∈ gtbl := gtt_9 79 rfl rfl
theorem tw2152 : Cond.code ⟨"BundleFenceModel", "isIn", "(JJJ)Z"⟩ cX12_isIn 6 (some .boolean) ∈ gtbl := gtt_9 80 rfl rfl
theorem tw2153 : Cond.methodLink "BundleFenceModel" 211 ⟨"BundleFenceModel", "faultAt", "(II)I"⟩ ∈ gtbl := gtt_9 81 rfl rfl
theorem tw2155 : Cond.instanceMethod ⟨"BundleFenceModel", "faultAt", "(II)I"⟩ ∈ gtbl := gtt_9 83 rfl rfl
theorem tw2156 : Cond.code ⟨"BundleFenceModel", "faultAt", "(II)I"⟩ cX12_faultAt 4 (some .int) ∈ gtbl := gtt_9 84 rfl rfl
theorem tw2157 : Cond.constantLong "BundleFenceModel" 186 4294967295 ∈ gtbl := gtt_9 85 rfl rfl
theorem tw2158 : Cond.constantLong "BundleFenceModel" 188 65536 ∈ gtbl := gtt_9 86 rfl rfl
theorem tw2159 : Cond.constantLong "BundleFenceModel" 190 131072 ∈ gtbl := gtt_9 87 rfl rfl
theorem tw2160 : Cond.constantLong "BundleFenceModel" 214 4096 ∈ gtbl := gtt_9 88 rfl rfl
theorem tw2161 : Cond.methodLink "BundleFenceModel" 216 ⟨"BundleFenceModel", "isGate", "(J)Z"⟩ ∈ gtbl := gtt_9 89 rfl rfl
theorem tw2163 : Cond.instanceMethod ⟨"BundleFenceModel", "isGate", "(J)Z"⟩ ∈ gtbl := gtt_9 91 rfl rfl
theorem tw2164 : Cond.code ⟨"BundleFenceModel", "isGate", "(J)Z"⟩ cX12_isGate 3 (some .boolean) ∈ gtbl := gtt_9 92 rfl rfl
theorem tw2165 : Cond.constantLong "BundleFenceModel" 198 1024 ∈ gtbl := gtt_9 93 rfl rfl
theorem tw2166 : Cond.constantLong "BundleFenceModel" 200 1536 ∈ gtbl := gtt_9 94 rfl rfl
theorem tw2167 : Cond.constantLong "BundleFenceModel" 202 32 ∈ gtbl := gtt_9 95 rfl rfl
theorem tw2189 : Cond.methodLink "BundleFenceModel" 242 ⟨"BundleFenceModel", "sayWord", "(Ljava/lang/String;I)V"⟩ ∈ gtbl := gtt_9 117 rfl rfl
theorem tw2191 : Cond.instanceMethod ⟨"BundleFenceModel", "sayWord", "(Ljava/lang/String;I)V"⟩ ∈ gtbl := gtt_9 119 rfl rfl
theorem tw2192 : Cond.code ⟨"BundleFenceModel", "sayWord", "(Ljava/lang/String;I)V"⟩ cX12_sayWord 5 none ∈ gtbl := gtt_9 120 rfl rfl
theorem tw2193 : Cond.methodLink "BundleFenceModel" 223 ⟨"java/lang/String", "length", "()I"⟩ ∈ gtbl := gtt_9 121 rfl rfl
theorem tw2194 : Cond.methodLink "BundleFenceModel" 227 ⟨"java/lang/String", "charAt", "(I)C"⟩ ∈ gtbl := gtt_9 122 rfl rfl
theorem tw2195 : Cond.methodLink "BundleFenceModel" 231 ⟨"BundleFenceModel", "say", "(I)V"⟩ ∈ gtbl := gtt_9 123 rfl rfl
theorem tw2197 : Cond.instanceMethod ⟨"BundleFenceModel", "say", "(I)V"⟩ ∈ gtbl := gtt_9 125 rfl rfl
theorem tw2198 : Cond.code ⟨"BundleFenceModel", "say", "(I)V"⟩ cX12_say 2 none ∈ gtbl := gtt_9 126 rfl rfl
theorem tw2200 : Cond.methodLink "BundleFenceModel" 260 ⟨"BundleFenceModel", "sayOperands", "()V"⟩ ∈ gtbl := gtt_9 128 rfl rfl
theorem tw2202 : Cond.instanceMethod ⟨"BundleFenceModel", "sayOperands", "()V"⟩ ∈ gtbl := gtt_9 130 rfl rfl
theorem tw2203 : Cond.code ⟨"BundleFenceModel", "sayOperands", "()V"⟩ cX12_sayOperands 1 none ∈ gtbl := gtt_9 131 rfl rfl
theorem tw2204 : Cond.methodLink "BundleFenceModel" 253 ⟨"BundleFenceModel", "sayE", "()V"⟩ ∈ gtbl := gtt_9 132 rfl rfl
theorem tw2206 : Cond.instanceMethod ⟨"BundleFenceModel", "sayE", "()V"⟩ ∈ gtbl := gtt_9 134 rfl rfl
theorem tw2207 : Cond.code ⟨"BundleFenceModel", "sayE", "()V"⟩ cX12_sayE 2 none ∈ gtbl := gtt_9 135 rfl rfl
theorem tw2208 : Cond.methodLink "BundleFenceModel" 246 ⟨"BundleFenceModel", "sayRegister", "(II)V"⟩ ∈ gtbl := gtt_9 136 rfl rfl
theorem tw2210 : Cond.instanceMethod ⟨"BundleFenceModel", "sayRegister", "(II)V"⟩ ∈ gtbl := gtt_9 138 rfl rfl
theorem tw2211 : Cond.code ⟨"BundleFenceModel", "sayRegister", "(II)V"⟩ cX12_sayRegister 3 none ∈ gtbl := gtt_9 139 rfl rfl
theorem tw2215 : Cond.methodLink "BundleFenceModel" 249 ⟨"BundleFenceModel", "sayNumber", "(J)V"⟩ ∈ gtbl := gtt_9 143 rfl rfl
theorem tw2217 : Cond.instanceMethod ⟨"BundleFenceModel", "sayNumber", "(J)V"⟩ ∈ gtbl := gtt_9 145 rfl rfl
theorem tw2218 : Cond.code ⟨"BundleFenceModel", "sayNumber", "(J)V"⟩ cX12_sayNumber 7 none ∈ gtbl := gtt_9 146 rfl rfl
theorem tw2219 : Cond.constantLong "BundleFenceModel" 234 10 ∈ gtbl := gtt_9 147 rfl rfl
theorem tw2224 : Cond.constantLong "BundleFenceModel" 263 7 ∈ gtbl := gtt_9 152 rfl rfl
theorem tw2229 : Cond.constantLong "BundleFenceModel" 421 8 ∈ gtbl := gtt_9 157 rfl rfl
theorem tw2230 : Cond.constantLong "BundleFenceModel" 423 255 ∈ gtbl := gtt_9 158 rfl rfl
theorem tw2231 : Cond.methodLink "BundleFenceModel" 425 ⟨"BundleFenceModel", "change", "()V"⟩ ∈ gtbl := gtt_9 159 rfl rfl
theorem tw2233 : Cond.instanceMethod ⟨"BundleFenceModel", "change", "()V"⟩ ∈ gtbl := gtt_9 161 rfl rfl
theorem tw2234 : Cond.code ⟨"BundleFenceModel", "change", "()V"⟩ cX12_change 2 none ∈ gtbl := gtt_9 162 rfl rfl
theorem tw2243 : Cond.constantLong "BundleFenceModel" 428 131071 ∈ gtbl := gtt_9 171 rfl rfl
theorem tw2248 : Cond.methodLink "BundleFenceModel" 265 ⟨"BundleFenceModel", "inData", "(JI)Z"⟩ ∈ gtbl := gtt_9 176 rfl rfl
theorem tw2250 : Cond.instanceMethod ⟨"BundleFenceModel", "inData", "(JI)Z"⟩ ∈ gtbl := gtt_9 178 rfl rfl
theorem tw2251 : Cond.code ⟨"BundleFenceModel", "inData", "(JI)Z"⟩ cX12_inData 4 (some .boolean) ∈ gtbl := gtt_9 179 rfl rfl
theorem tw2252 : Cond.methodLink "BundleFenceModel" 269 ⟨"BundleFenceModel", "inImage", "(JI)Z"⟩ ∈ gtbl := gtt_9 180 rfl rfl
theorem tw2254 : Cond.instanceMethod ⟨"BundleFenceModel", "inImage", "(JI)Z"⟩ ∈ gtbl := gtt_9 182 rfl rfl
theorem tw2255 : Cond.code ⟨"BundleFenceModel", "inImage", "(JI)Z"⟩ cX12_inImage 4 (some .boolean) ∈ gtbl := gtt_9 183 rfl rfl
theorem tw2256 : Cond.methodLink "BundleFenceModel" 275 ⟨"BundleFenceModel", "byteAt", "(J)I"⟩ ∈ gtbl := gtt_9 184 rfl rfl
theorem tw2258 : Cond.instanceMethod ⟨"BundleFenceModel", "byteAt", "(J)I"⟩ ∈ gtbl := gtt_9 186 rfl rfl
theorem tw2259 : Cond.code ⟨"BundleFenceModel", "byteAt", "(J)I"⟩ cX12_byteAt 3 (some .int) ∈ gtbl := gtt_9 187 rfl rfl
theorem tw2272 : Cond.constantLong "BundleFenceModel" 430 10000 ∈ gtbl := gtt_9 200 rfl rfl
theorem tw2273 : Cond.methodLink "BundleFenceModel" 432 ⟨"BundleFenceModel", "step", "()Z"⟩ ∈ gtbl := gtt_9 201 rfl rfl
theorem tw2275 : Cond.instanceMethod ⟨"BundleFenceModel", "step", "()Z"⟩ ∈ gtbl := gtt_9 203 rfl rfl
theorem tw2276 : Cond.code ⟨"BundleFenceModel", "step", "()Z"⟩ cX12_step 11 (some .boolean) ∈ gtbl := gtt_9 204 rfl rfl
theorem tw2277 : Cond.methodLink "BundleFenceModel" 415 ⟨"BundleFenceModel", "serve", "(I)V"⟩ ∈ gtbl := gtt_9 205 rfl rfl
theorem tw2279 : Cond.instanceMethod ⟨"BundleFenceModel", "serve", "(I)V"⟩ ∈ gtbl := gtt_9 207 rfl rfl
theorem tw2280 : Cond.code ⟨"BundleFenceModel", "serve", "(I)V"⟩ cX12_serve 11 none ∈ gtbl := gtt_9 208 rfl rfl
theorem tw2281 : Cond.methodLink "BundleFenceModel" 294 ⟨"BundleFenceModel", "read", "(II)I"⟩ ∈ gtbl := gtt_9 209 rfl rfl
theorem tw2283 : Cond.instanceMethod ⟨"BundleFenceModel", "read", "(II)I"⟩ ∈ gtbl := gtt_9 211 rfl rfl
theorem tw2284 : Cond.code ⟨"BundleFenceModel", "read", "(II)I"⟩ cX12_read 7 (some .int) ∈ gtbl := gtt_9 212 rfl rfl
theorem tw2285 : Cond.constant "BundleFenceModel" 414 1103515245 ∈ gtbl := gtt_9 213 rfl rfl
theorem tw2286 : Cond.methodLink "BundleFenceModel" 418 ⟨"BundleFenceModel", "doOne", "()V"⟩ ∈ gtbl := gtt_9 214 rfl rfl
theorem tw2288 : Cond.instanceMethod ⟨"BundleFenceModel", "doOne", "()V"⟩ ∈ gtbl := gtt_9 216 rfl rfl
theorem tw2289 : Cond.code ⟨"BundleFenceModel", "doOne", "()V"⟩ cX12_doOne 6 none ∈ gtbl := gtt_9 217 rfl rfl
theorem tw2290 : Cond.methodLink "BundleFenceModel" 348 ⟨"BundleFenceModel", "firstOf", "()I"⟩ ∈ gtbl := gtt_9 218 rfl rfl
theorem tw2292 : Cond.instanceMethod ⟨"BundleFenceModel", "firstOf", "()I"⟩ ∈ gtbl := gtt_9 220 rfl rfl
theorem tw2293 : Cond.code ⟨"BundleFenceModel", "firstOf", "()I"⟩ cX12_firstOf 1 (some .int) ∈ gtbl := gtt_9 221 rfl rfl
theorem tw2294 : Cond.methodLink "BundleFenceModel" 291 ⟨"BundleFenceModel", "part", "(II)I"⟩ ∈ gtbl := gtt_9 222 rfl rfl
theorem tw2296 : Cond.instanceMethod ⟨"BundleFenceModel", "part", "(II)I"⟩ ∈ gtbl := gtt_9 224 rfl rfl
theorem tw2297 : Cond.code ⟨"BundleFenceModel", "part", "(II)I"⟩ cX12_part 3 (some .int) ∈ gtbl := gtt_9 225 rfl rfl
theorem tw2298 : Cond.methodLink "BundleFenceModel" 336 ⟨"BundleFenceModel", "getE", "()I"⟩ ∈ gtbl := gtt_9 226 rfl rfl
theorem tw2300 : Cond.instanceMethod ⟨"BundleFenceModel", "getE", "()I"⟩ ∈ gtbl := gtt_9 228 rfl rfl
theorem tw2301 : Cond.code ⟨"BundleFenceModel", "getE", "()I"⟩ cX12_getE 1 (some .int) ∈ gtbl := gtt_9 229 rfl rfl
theorem tw2302 : Cond.methodLink "BundleFenceModel" 285 ⟨"BundleFenceModel", "address", "()I"⟩ ∈ gtbl := gtt_9 230 rfl rfl
theorem tw2304 : Cond.instanceMethod ⟨"BundleFenceModel", "address", "()I"⟩ ∈ gtbl := gtt_9 232 rfl rfl
theorem tw2305 : Cond.code ⟨"BundleFenceModel", "address", "()I"⟩ cX12_address 1 (some .int) ∈ gtbl := gtt_9 233 rfl rfl
theorem tw2306 : Cond.methodLink "BundleFenceModel" 351 ⟨"BundleFenceModel", "secondOf", "()I"⟩ ∈ gtbl := gtt_9 234 rfl rfl
theorem tw2308 : Cond.instanceMethod ⟨"BundleFenceModel", "secondOf", "()I"⟩ ∈ gtbl := gtt_9 236 rfl rfl
theorem tw2309 : Cond.code ⟨"BundleFenceModel", "secondOf", "()I"⟩ cX12_secondOf 1 (some .int) ∈ gtbl := gtt_9 237 rfl rfl
theorem tw2310 : Cond.methodLink "BundleFenceModel" 354 ⟨"BundleFenceModel", "eight", "(IIII)I"⟩ ∈ gtbl := gtt_9 238 rfl rfl
theorem tw2312 : Cond.instanceMethod ⟨"BundleFenceModel", "eight", "(IIII)I"⟩ ∈ gtbl := gtt_10 0 rfl rfl
theorem tw2313 : Cond.code ⟨"BundleFenceModel", "eight", "(IIII)I"⟩ cX12_eight 6 (some .int) ∈ gtbl := gtt_10 1 rfl rfl
theorem tw2314 : Cond.methodLink "BundleFenceModel" 329 ⟨"BundleFenceModel", "sum", "(IIII)I"⟩ ∈ gtbl := gtt_10 2 rfl rfl
theorem tw2316 : Cond.instanceMethod ⟨"BundleFenceModel", "sum", "(IIII)I"⟩ ∈ gtbl := gtt_10 4 rfl rfl
theorem tw2317 : Cond.code ⟨"BundleFenceModel", "sum", "(IIII)I"⟩ cX12_sum 10 (some .int) ∈ gtbl := gtt_10 5 rfl rfl
theorem tw2318 : Cond.methodLink "BundleFenceModel" 303 ⟨"BundleFenceModel", "mask", "(I)I"⟩ ∈ gtbl := gtt_10 6 rfl rfl
theorem tw2319 : Cond.static ⟨"BundleFenceModel", "mask", "(I)I"⟩ ∈ gtbl := gtt_10 7 rfl rfl
theorem tw2320 : Cond.code ⟨"BundleFenceModel", "mask", "(I)I"⟩ cX12_mask 1 (some .int) ∈ gtbl := gtt_10 8 rfl rfl
theorem tw2321 : Cond.methodLink "BundleFenceModel" 310 ⟨"BundleFenceModel", "top", "(II)Z"⟩ ∈ gtbl := gtt_10 9 rfl rfl
theorem tw2322 : Cond.static ⟨"BundleFenceModel", "top", "(II)Z"⟩ ∈ gtbl := gtt_10 10 rfl rfl
theorem tw2323 : Cond.code ⟨"BundleFenceModel", "top", "(II)Z"⟩ cX12_top 2 (some .boolean) ∈ gtbl := gtt_10 11 rfl rfl
theorem tw2324 : Cond.methodLink "BundleFenceModel" 326 ⟨"BundleFenceModel", "byResult", "(II)V"⟩ ∈ gtbl := gtt_10 12 rfl rfl
theorem tw2326 : Cond.instanceMethod ⟨"BundleFenceModel", "byResult", "(II)V"⟩ ∈ gtbl := gtt_10 14 rfl rfl
theorem tw2327 : Cond.code ⟨"BundleFenceModel", "byResult", "(II)V"⟩ cX12_byResult 4 none ∈ gtbl := gtt_10 15 rfl rfl
theorem tw2328 : Cond.methodLink "BundleFenceModel" 333 ⟨"BundleFenceModel", "difference", "(IIII)I"⟩ ∈ gtbl := gtt_10 16 rfl rfl
theorem tw2330 : Cond.instanceMethod ⟨"BundleFenceModel", "difference", "(IIII)I"⟩ ∈ gtbl := gtt_10 18 rfl rfl
theorem tw2331 : Cond.code ⟨"BundleFenceModel", "difference", "(IIII)I"⟩ cX12_difference 10 (some .int) ∈ gtbl := gtt_10 19 rfl rfl
theorem tw2332 : Cond.methodLink "BundleFenceModel" 357 ⟨"BundleFenceModel", "setFirst", "(I)V"⟩ ∈ gtbl := gtt_10 20 rfl rfl
theorem tw2334 : Cond.instanceMethod ⟨"BundleFenceModel", "setFirst", "(I)V"⟩ ∈ gtbl := gtt_10 22 rfl rfl
theorem tw2335 : Cond.code ⟨"BundleFenceModel", "setFirst", "(I)V"⟩ cX12_setFirst 2 none ∈ gtbl := gtt_10 23 rfl rfl
theorem tw2336 : Cond.methodLink "BundleFenceModel" 297 ⟨"BundleFenceModel", "setRegister", "(III)V"⟩ ∈ gtbl := gtt_10 24 rfl rfl
theorem tw2338 : Cond.instanceMethod ⟨"BundleFenceModel", "setRegister", "(III)V"⟩ ∈ gtbl := gtt_10 26 rfl rfl
theorem tw2339 : Cond.code ⟨"BundleFenceModel", "setRegister", "(III)V"⟩ cX12_setRegister 4 none ∈ gtbl := gtt_10 27 rfl rfl
theorem tw2340 : Cond.constant "BundleFenceModel" 283 (-65536) ∈ gtbl := gtt_10 28 rfl rfl
theorem tw2341 : Cond.constant "BundleFenceModel" 284 (-65281) ∈ gtbl := gtt_10 29 rfl rfl
theorem tw2342 : Cond.methodLink "BundleFenceModel" 339 ⟨"BundleFenceModel", "setE", "(I)V"⟩ ∈ gtbl := gtt_10 30 rfl rfl
theorem tw2344 : Cond.instanceMethod ⟨"BundleFenceModel", "setE", "(I)V"⟩ ∈ gtbl := gtt_10 32 rfl rfl
theorem tw2345 : Cond.code ⟨"BundleFenceModel", "setE", "(I)V"⟩ cX12_setE 2 none ∈ gtbl := gtt_10 33 rfl rfl
theorem tw2346 : Cond.methodLink "BundleFenceModel" 300 ⟨"BundleFenceModel", "write", "(III)V"⟩ ∈ gtbl := gtt_10 34 rfl rfl
theorem tw2348 : Cond.instanceMethod ⟨"BundleFenceModel", "write", "(III)V"⟩ ∈ gtbl := gtt_10 36 rfl rfl
theorem tw2349 : Cond.code ⟨"BundleFenceModel", "write", "(III)V"⟩ cX12_write 7 none ∈ gtbl := gtt_10 37 rfl rfl
theorem tw2350 : Cond.constantLong "BundleFenceModel" 279 61440 ∈ gtbl := gtt_10 38 rfl rfl
theorem tw2351 : Cond.constantLong "BundleFenceModel" 281 135168 ∈ gtbl := gtt_10 39 rfl rfl
theorem tw2352 : Cond.methodLink "BundleFenceModel" 360 ⟨"BundleFenceModel", "shifts", "()V"⟩ ∈ gtbl := gtt_10 40 rfl rfl
theorem tw2354 : Cond.instanceMethod ⟨"BundleFenceModel", "shifts", "()V"⟩ ∈ gtbl := gtt_10 42 rfl rfl
theorem tw2355 : Cond.code ⟨"BundleFenceModel", "shifts", "()V"⟩ cX12_shifts 3 none ∈ gtbl := gtt_10 43 rfl rfl
theorem tw2356 : Cond.methodLink "BundleFenceModel" 342 ⟨"BundleFenceModel", "shifted", "(II)I"⟩ ∈ gtbl := gtt_10 44 rfl rfl
theorem tw2358 : Cond.instanceMethod ⟨"BundleFenceModel", "shifted", "(II)I"⟩ ∈ gtbl := gtt_10 46 rfl rfl
theorem tw2359 : Cond.code ⟨"BundleFenceModel", "shifted", "(II)I"⟩ cX12_shifted 10 (some .int) ∈ gtbl := gtt_10 47 rfl rfl
theorem tw2360 : Cond.methodLink "BundleFenceModel" 363 ⟨"BundleFenceModel", "doOther", "(I)I"⟩ ∈ gtbl := gtt_10 48 rfl rfl
theorem tw2362 : Cond.instanceMethod ⟨"BundleFenceModel", "doOther", "(I)I"⟩ ∈ gtbl := gtt_10 50 rfl rfl
theorem tw2363 : Cond.code ⟨"BundleFenceModel", "doOther", "(I)I"⟩ cX12_doOther 5 (some .int) ∈ gtbl := gtt_10 51 rfl rfl
theorem tw2364 : Cond.methodLink "BundleFenceModel" 366 ⟨"BundleFenceModel", "push", "(I)V"⟩ ∈ gtbl := gtt_10 52 rfl rfl
theorem tw2366 : Cond.instanceMethod ⟨"BundleFenceModel", "push", "(I)V"⟩ ∈ gtbl := gtt_10 54 rfl rfl
theorem tw2367 : Cond.code ⟨"BundleFenceModel", "push", "(I)V"⟩ cX12_push 2 none ∈ gtbl := gtt_10 55 rfl rfl
theorem tw2368 : Cond.methodLink "BundleFenceModel" 369 ⟨"BundleFenceModel", "pop", "()I"⟩ ∈ gtbl := gtt_10 56 rfl rfl
theorem tw2370 : Cond.instanceMethod ⟨"BundleFenceModel", "pop", "()I"⟩ ∈ gtbl := gtt_10 58 rfl rfl
theorem tw2371 : Cond.code ⟨"BundleFenceModel", "pop", "()I"⟩ cX12_pop 2 (some .int) ∈ gtbl := gtt_10 59 rfl rfl
theorem tw2372 : Cond.methodLink "BundleFenceModel" 372 ⟨"BundleFenceModel", "product", "(JJ)V"⟩ ∈ gtbl := gtt_10 60 rfl rfl
theorem tw2374 : Cond.instanceMethod ⟨"BundleFenceModel", "product", "(JJ)V"⟩ ∈ gtbl := gtt_10 62 rfl rfl
theorem tw2375 : Cond.code ⟨"BundleFenceModel", "product", "(JJ)V"⟩ cX12_product 7 none ∈ gtbl := gtt_10 63 rfl rfl
theorem tw2376 : Cond.methodLink "BundleFenceModel" 376 ⟨"BundleFenceModel", "holds", "(I)Z"⟩ ∈ gtbl := gtt_10 64 rfl rfl
theorem tw2378 : Cond.instanceMethod ⟨"BundleFenceModel", "holds", "(I)Z"⟩ ∈ gtbl := gtt_10 66 rfl rfl
theorem tw2379 : Cond.code ⟨"BundleFenceModel", "holds", "(I)Z"⟩ cX12_holds 3 (some .boolean) ∈ gtbl := gtt_10 67 rfl rfl
theorem tw2380 : Cond.methodLink "BundleFenceModel" 379 ⟨"BundleFenceModel", "wholeProduct", "()V"⟩ ∈ gtbl := gtt_10 68 rfl rfl
theorem tw2382 : Cond.instanceMethod ⟨"BundleFenceModel", "wholeProduct", "()V"⟩ ∈ gtbl := gtt_10 70 rfl rfl
theorem tw2383 : Cond.code ⟨"BundleFenceModel", "wholeProduct", "()V"⟩ cX12_wholeProduct 4 none ∈ gtbl := gtt_10 71 rfl rfl
theorem tw2384 : Cond.methodLink "BundleFenceModel" 382 ⟨"BundleFenceModel", "quotient", "()V"⟩ ∈ gtbl := gtt_10 72 rfl rfl
theorem tw2386 : Cond.instanceMethod ⟨"BundleFenceModel", "quotient", "()V"⟩ ∈ gtbl := gtt_10 74 rfl rfl
theorem tw2387 : Cond.code ⟨"BundleFenceModel", "quotient", "()V"⟩ cX12_quotient 10 none ∈ gtbl := gtt_10 75 rfl rfl
theorem tw2388 : Cond.methodLink "BundleFenceModel" 345 ⟨"BundleFenceModel", "traps", "()V"⟩ ∈ gtbl := gtt_10 76 rfl rfl
theorem tw2390 : Cond.instanceMethod ⟨"BundleFenceModel", "traps", "()V"⟩ ∈ gtbl := gtt_10 78 rfl rfl
theorem tw2391 : Cond.code ⟨"BundleFenceModel", "traps", "()V"⟩ cX12_traps 1 none ∈ gtbl := gtt_10 79 rfl rfl
theorem tw2392 : Cond.methodLink "BundleFenceModel" 385 ⟨"BundleFenceModel", "doRest", "(I)I"⟩ ∈ gtbl := gtt_10 80 rfl rfl
theorem tw2394 : Cond.instanceMethod ⟨"BundleFenceModel", "doRest", "(I)I"⟩ ∈ gtbl := gtt_10 82 rfl rfl
theorem tw2395 : Cond.code ⟨"BundleFenceModel", "doRest", "(I)I"⟩ cX12_doRest 6 (some .int) ∈ gtbl := gtt_10 83 rfl rfl
theorem tw2396 : Cond.methodLink "BundleFenceModel" 388 ⟨"BundleFenceModel", "doubles", "()V"⟩ ∈ gtbl := gtt_10 84 rfl rfl
theorem tw2398 : Cond.instanceMethod ⟨"BundleFenceModel", "doubles", "()V"⟩ ∈ gtbl := gtt_10 86 rfl rfl
theorem tw2399 : Cond.code ⟨"BundleFenceModel", "doubles", "()V"⟩ cX12_doubles 5 none ∈ gtbl := gtt_10 87 rfl rfl
theorem tw2400 : Cond.constant "BundleFenceModel" 391 65280 ∈ gtbl := gtt_10 88 rfl rfl
theorem gfX12_100 {ρ : Type} {ι : ρ → xO × xW} {M : xMd} {b : Nat × Nat} {pc : Nat} {lv : List (Nat × Value)} {st : List Value} {w : xW} {r : Option ρ} {v : Int32} (hd : decode M.2.1 pc = .ok (.getfield 100, 3)) (hM : M.1.cls = "BundleFenceModel") (hv : w.1 0 28 = v) (kk : xJ ι M lM b (pc + 3) lv (.int v :: st) w r) : xJ ι M lM b pc lv (.ref 0 :: st) w r :=
  xj_gf (v := .int v) (ci := 0) (j := 28) (C := RX12) (T := TX12) (N := 48) hd rfl rfl xkX12 (Nat.le_of_ble_eq_true rfl) (by rw [hM]; exact tw1930) (fun _ => by subst hv; rfl) kk
theorem gfX12_109 {ρ : Type} {ι : ρ → xO × xW} {M : xMd} {b : Nat × Nat} {pc : Nat} {lv : List (Nat × Value)} {st : List Value} {w : xW} {r : Option ρ} {v : Int32} (hd : decode M.2.1 pc = .ok (.getfield 109, 3)) (hM : M.1.cls = "BundleFenceModel") (hv : w.1 0 29 = v) (kk : xJ ι M lM b (pc + 3) lv (.int v :: st) w r) : xJ ι M lM b pc lv (.ref 0 :: st) w r :=
  xj_gf (v := .int v) (ci := 0) (j := 29) (C := RX12) (T := TX12) (N := 48) hd rfl rfl xkX12 (Nat.le_of_ble_eq_true rfl) (by rw [hM]; exact tw1931) (fun _ => by subst hv; rfl) kk
theorem gfX12_115 {ρ : Type} {ι : ρ → xO × xW} {M : xMd} {b : Nat × Nat} {pc : Nat} {lv : List (Nat × Value)} {st : List Value} {w : xW} {r : Option ρ} {v : Int32} (hd : decode M.2.1 pc = .ok (.getfield 115, 3)) (hM : M.1.cls = "BundleFenceModel") (hv : w.1 0 19 = v) (kk : xJ ι M lM b (pc + 3) lv (.int v :: st) w r) : xJ ι M lM b pc lv (.ref 0 :: st) w r :=
  xj_gf (v := .int v) (ci := 0) (j := 19) (C := RX12) (T := TX12) (N := 48) hd rfl rfl xkX12 (Nat.le_of_ble_eq_true rfl) (by rw [hM]; exact tw1921) (fun _ => by subst hv; rfl) kk
theorem gfX12_138 {ρ : Type} {ι : ρ → xO × xW} {M : xMd} {b : Nat × Nat} {pc : Nat} {lv : List (Nat × Value)} {st : List Value} {w : xW} {r : Option ρ} {v : Int32} (hd : decode M.2.1 pc = .ok (.getfield 138, 3)) (hM : M.1.cls = "BundleFenceModel") (hv : w.1 0 30 = v) (kk : xJ ι M lM b (pc + 3) lv (.int v :: st) w r) : xJ ι M lM b pc lv (.ref 0 :: st) w r :=
  xj_gf (v := .int v) (ci := 0) (j := 30) (C := RX12) (T := TX12) (N := 48) hd rfl rfl xkX12 (Nat.le_of_ble_eq_true rfl) (by rw [hM]; exact tw1932) (fun _ => by subst hv; rfl) kk
theorem gfX12_14 {ρ : Type} {ι : ρ → xO × xW} {M : xMd} {b : Nat × Nat} {pc : Nat} {lv : List (Nat × Value)} {st : List Value} {w : xW} {r : Option ρ} (hd : decode M.2.1 pc = .ok (.getfield 14, 3)) (hM : M.1.cls = "BundleFenceModel") (kk : xJ ι M lM b (pc + 3) lv (.ref 2 :: st) w r) : xJ ι M lM b pc lv (.ref 0 :: st) w r :=
  xj_gf (v := .ref 2) (ci := 0) (j := 3) (C := RX12) (T := TX12) (N := 48) hd rfl rfl xkX12 (Nat.le_of_ble_eq_true rfl) (by rw [hM]; exact tw1905) (fun _ => rfl) kk
theorem gfX12_17 {ρ : Type} {ι : ρ → xO × xW} {M : xMd} {b : Nat × Nat} {pc : Nat} {lv : List (Nat × Value)} {st : List Value} {w : xW} {r : Option ρ} (hd : decode M.2.1 pc = .ok (.getfield 17, 3)) (hM : M.1.cls = "BundleFenceModel") (kk : xJ ι M lM b (pc + 3) lv (.ref 3 :: st) w r) : xJ ι M lM b pc lv (.ref 0 :: st) w r :=
  xj_gf (v := .ref 3) (ci := 0) (j := 4) (C := RX12) (T := TX12) (N := 48) hd rfl rfl xkX12 (Nat.le_of_ble_eq_true rfl) (by rw [hM]; exact tw1906) (fun _ => rfl) kk
theorem gfX12_192 {ρ : Type} {ι : ρ → xO × xW} {M : xMd} {b : Nat × Nat} {pc : Nat} {lv : List (Nat × Value)} {st : List Value} {w : xW} {r : Option ρ} {v : Int32} (hd : decode M.2.1 pc = .ok (.getfield 192, 3)) (hM : M.1.cls = "BundleFenceModel") (hv : w.1 0 10 = v) (kk : xJ ι M lM b (pc + 3) lv (.int v :: st) w r) : xJ ι M lM b pc lv (.ref 0 :: st) w r :=
  xj_gf (v := .int v) (ci := 0) (j := 10) (C := RX12) (T := TX12) (N := 48) hd rfl rfl xkX12 (Nat.le_of_ble_eq_true rfl) (by rw [hM]; exact tw1912) (fun _ => by subst hv; rfl) kk
theorem gfX12_195 {ρ : Type} {ι : ρ → xO × xW} {M : xMd} {b : Nat × Nat} {pc : Nat} {lv : List (Nat × Value)} {st : List Value} {w : xW} {r : Option ρ} {v : Int32} (hd : decode M.2.1 pc = .ok (.getfield 195, 3)) (hM : M.1.cls = "BundleFenceModel") (hv : w.1 0 9 = v) (kk : xJ ι M lM b (pc + 3) lv (.int v :: st) w r) : xJ ι M lM b pc lv (.ref 0 :: st) w r :=
  xj_gf (v := .int v) (ci := 0) (j := 9) (C := RX12) (T := TX12) (N := 48) hd rfl rfl xkX12 (Nat.le_of_ble_eq_true rfl) (by rw [hM]; exact tw1911) (fun _ => by subst hv; rfl) kk
theorem gfX12_20 {ρ : Type} {ι : ρ → xO × xW} {M : xMd} {b : Nat × Nat} {pc : Nat} {lv : List (Nat × Value)} {st : List Value} {w : xW} {r : Option ρ} (hd : decode M.2.1 pc = .ok (.getfield 20, 3)) (hM : M.1.cls = "BundleFenceModel") (kk : xJ ι M lM b (pc + 3) lv (.ref 4 :: st) w r) : xJ ι M lM b pc lv (.ref 0 :: st) w r :=
  xj_gf (v := .ref 4) (ci := 0) (j := 7) (C := RX12) (T := TX12) (N := 48) hd rfl rfl xkX12 (Nat.le_of_ble_eq_true rfl) (by rw [hM]; exact tw1909) (fun _ => rfl) kk
theorem gfX12_220 {ρ : Type} {ι : ρ → xO × xW} {M : xMd} {b : Nat × Nat} {pc : Nat} {lv : List (Nat × Value)} {st : List Value} {w : xW} {r : Option ρ} {v : Int32} (hd : decode M.2.1 pc = .ok (.getfield 220, 3)) (hM : M.1.cls = "BundleFenceModel") (hv : w.1 0 16 = v) (kk : xJ ι M lM b (pc + 3) lv (.int v :: st) w r) : xJ ι M lM b pc lv (.ref 0 :: st) w r :=
  xj_gf (v := .int v) (ci := 0) (j := 16) (C := RX12) (T := TX12) (N := 48) hd rfl rfl xkX12 (Nat.le_of_ble_eq_true rfl) (by rw [hM]; exact tw1918) (fun _ => by subst hv; rfl) kk
theorem gfX12_23 {ρ : Type} {ι : ρ → xO × xW} {M : xMd} {b : Nat × Nat} {pc : Nat} {lv : List (Nat × Value)} {st : List Value} {w : xW} {r : Option ρ} {v : Int32} (hd : decode M.2.1 pc = .ok (.getfield 23, 3)) (hM : M.1.cls = "BundleFenceModel") (hv : w.1 0 11 = v) (kk : xJ ι M lM b (pc + 3) lv (.int v :: st) w r) : xJ ι M lM b pc lv (.ref 0 :: st) w r :=
  xj_gf (v := .int v) (ci := 0) (j := 11) (C := RX12) (T := TX12) (N := 48) hd rfl rfl xkX12 (Nat.le_of_ble_eq_true rfl) (by rw [hM]; exact tw1913) (fun _ => by subst hv; rfl) kk
theorem gfX12_27 {ρ : Type} {ι : ρ → xO × xW} {M : xMd} {b : Nat × Nat} {pc : Nat} {lv : List (Nat × Value)} {st : List Value} {w : xW} {r : Option ρ} (hd : decode M.2.1 pc = .ok (.getfield 27, 3)) (hM : M.1.cls = "BundleFenceModel") (kk : xJ ι M lM b (pc + 3) lv (.ref 5 :: st) w r) : xJ ι M lM b pc lv (.ref 0 :: st) w r :=
  xj_gf (v := .ref 5) (ci := 0) (j := 12) (C := RX12) (T := TX12) (N := 48) hd rfl rfl xkX12 (Nat.le_of_ble_eq_true rfl) (by rw [hM]; exact tw1914) (fun _ => rfl) kk
theorem gfX12_272 {ρ : Type} {ι : ρ → xO × xW} {M : xMd} {b : Nat × Nat} {pc : Nat} {lv : List (Nat × Value)} {st : List Value} {w : xW} {r : Option ρ} {v : Int32} (hd : decode M.2.1 pc = .ok (.getfield 272, 3)) (hM : M.1.cls = "BundleFenceModel") (hv : w.1 0 45 = v) (kk : xJ ι M lM b (pc + 3) lv (.int v :: st) w r) : xJ ι M lM b pc lv (.ref 0 :: st) w r :=
  xj_gf (v := .int v) (ci := 0) (j := 45) (C := RX12) (T := TX12) (N := 48) hd rfl rfl xkX12 (Nat.le_of_ble_eq_true rfl) (by rw [hM]; exact tw1947) (fun _ => by subst hv; rfl) kk
theorem gfX12_288 {ρ : Type} {ι : ρ → xO × xW} {M : xMd} {b : Nat × Nat} {pc : Nat} {lv : List (Nat × Value)} {st : List Value} {w : xW} {r : Option ρ} {v : Int32} (hd : decode M.2.1 pc = .ok (.getfield 288, 3)) (hM : M.1.cls = "BundleFenceModel") (hv : w.1 0 46 = v) (kk : xJ ι M lM b (pc + 3) lv (.int v :: st) w r) : xJ ι M lM b pc lv (.ref 0 :: st) w r :=
  xj_gf (v := .int v) (ci := 0) (j := 46) (C := RX12) (T := TX12) (N := 48) hd rfl rfl xkX12 (Nat.le_of_ble_eq_true rfl) (by rw [hM]; exact tw1948) (fun _ => by subst hv; rfl) kk
theorem gfX12_30 {ρ : Type} {ι : ρ → xO × xW} {M : xMd} {b : Nat × Nat} {pc : Nat} {lv : List (Nat × Value)} {st : List Value} {w : xW} {r : Option ρ} (hd : decode M.2.1 pc = .ok (.getfield 30, 3)) (hM : M.1.cls = "BundleFenceModel") (kk : xJ ι M lM b (pc + 3) lv (.ref 6 :: st) w r) : xJ ι M lM b pc lv (.ref 0 :: st) w r :=
  xj_gf (v := .ref 6) (ci := 0) (j := 13) (C := RX12) (T := TX12) (N := 48) hd rfl rfl xkX12 (Nat.le_of_ble_eq_true rfl) (by rw [hM]; exact tw1915) (fun _ => rfl) kk
theorem gfX12_307 {ρ : Type} {ι : ρ → xO × xW} {M : xMd} {b : Nat × Nat} {pc : Nat} {lv : List (Nat × Value)} {st : List Value} {w : xW} {r : Option ρ} {v : Int32} (hd : decode M.2.1 pc = .ok (.getfield 307, 3)) (hM : M.1.cls = "BundleFenceModel") (hv : w.1 0 38 = v) (kk : xJ ι M lM b (pc + 3) lv (.int v :: st) w r) : xJ ι M lM b pc lv (.ref 0 :: st) w r :=
  xj_gf (v := .int v) (ci := 0) (j := 38) (C := RX12) (T := TX12) (N := 48) hd rfl rfl xkX12 (Nat.le_of_ble_eq_true rfl) (by rw [hM]; exact tw1940) (fun _ => by subst hv; rfl) kk
theorem gfX12_314 {ρ : Type} {ι : ρ → xO × xW} {M : xMd} {b : Nat × Nat} {pc : Nat} {lv : List (Nat × Value)} {st : List Value} {w : xW} {r : Option ρ} {v : Int32} (hd : decode M.2.1 pc = .ok (.getfield 314, 3)) (hM : M.1.cls = "BundleFenceModel") (hv : w.1 0 39 = v) (kk : xJ ι M lM b (pc + 3) lv (.int v :: st) w r) : xJ ι M lM b pc lv (.ref 0 :: st) w r :=
  xj_gf (v := .int v) (ci := 0) (j := 39) (C := RX12) (T := TX12) (N := 48) hd rfl rfl xkX12 (Nat.le_of_ble_eq_true rfl) (by rw [hM]; exact tw1941) (fun _ => by subst hv; rfl) kk
theorem gfX12_317 {ρ : Type} {ι : ρ → xO × xW} {M : xMd} {b : Nat × Nat} {pc : Nat} {lv : List (Nat × Value)} {st : List Value} {w : xW} {r : Option ρ} {v : Int32} (hd : decode M.2.1 pc = .ok (.getfield 317, 3)) (hM : M.1.cls = "BundleFenceModel") (hv : w.1 0 37 = v) (kk : xJ ι M lM b (pc + 3) lv (.int v :: st) w r) : xJ ι M lM b pc lv (.ref 0 :: st) w r :=
  xj_gf (v := .int v) (ci := 0) (j := 37) (C := RX12) (T := TX12) (N := 48) hd rfl rfl xkX12 (Nat.le_of_ble_eq_true rfl) (by rw [hM]; exact tw1939) (fun _ => by subst hv; rfl) kk
theorem gfX12_320 {ρ : Type} {ι : ρ → xO × xW} {M : xMd} {b : Nat × Nat} {pc : Nat} {lv : List (Nat × Value)} {st : List Value} {w : xW} {r : Option ρ} {v : Int32} (hd : decode M.2.1 pc = .ok (.getfield 320, 3)) (hM : M.1.cls = "BundleFenceModel") (hv : w.1 0 36 = v) (kk : xJ ι M lM b (pc + 3) lv (.int v :: st) w r) : xJ ι M lM b pc lv (.ref 0 :: st) w r :=
  xj_gf (v := .int v) (ci := 0) (j := 36) (C := RX12) (T := TX12) (N := 48) hd rfl rfl xkX12 (Nat.le_of_ble_eq_true rfl) (by rw [hM]; exact tw1938) (fun _ => by subst hv; rfl) kk
theorem gfX12_323 {ρ : Type} {ι : ρ → xO × xW} {M : xMd} {b : Nat × Nat} {pc : Nat} {lv : List (Nat × Value)} {st : List Value} {w : xW} {r : Option ρ} {v : Int32} (hd : decode M.2.1 pc = .ok (.getfield 323, 3)) (hM : M.1.cls = "BundleFenceModel") (hv : w.1 0 40 = v) (kk : xJ ι M lM b (pc + 3) lv (.int v :: st) w r) : xJ ι M lM b pc lv (.ref 0 :: st) w r :=
  xj_gf (v := .int v) (ci := 0) (j := 40) (C := RX12) (T := TX12) (N := 48) hd rfl rfl xkX12 (Nat.le_of_ble_eq_true rfl) (by rw [hM]; exact tw1942) (fun _ => by subst hv; rfl) kk
theorem gfX12_33 {ρ : Type} {ι : ρ → xO × xW} {M : xMd} {b : Nat × Nat} {pc : Nat} {lv : List (Nat × Value)} {st : List Value} {w : xW} {r : Option ρ} (hd : decode M.2.1 pc = .ok (.getfield 33, 3)) (hM : M.1.cls = "BundleFenceModel") (kk : xJ ι M lM b (pc + 3) lv (.ref 7 :: st) w r) : xJ ι M lM b pc lv (.ref 0 :: st) w r :=
  xj_gf (v := .ref 7) (ci := 0) (j := 14) (C := RX12) (T := TX12) (N := 48) hd rfl rfl xkX12 (Nat.le_of_ble_eq_true rfl) (by rw [hM]; exact tw1916) (fun _ => rfl) kk
theorem gfX12_37 {ρ : Type} {ι : ρ → xO × xW} {M : xMd} {b : Nat × Nat} {pc : Nat} {lv : List (Nat × Value)} {st : List Value} {w : xW} {r : Option ρ} (hd : decode M.2.1 pc = .ok (.getfield 37, 3)) (hM : M.1.cls = "BundleFenceModel") (kk : xJ ι M lM b (pc + 3) lv (.ref 8 :: st) w r) : xJ ι M lM b pc lv (.ref 0 :: st) w r :=
  xj_gf (v := .ref 8) (ci := 0) (j := 15) (C := RX12) (T := TX12) (N := 48) hd rfl rfl xkX12 (Nat.le_of_ble_eq_true rfl) (by rw [hM]; exact tw1917) (fun _ => rfl) kk
theorem gfX12_392 {ρ : Type} {ι : ρ → xO × xW} {M : xMd} {b : Nat × Nat} {pc : Nat} {lv : List (Nat × Value)} {st : List Value} {w : xW} {r : Option ρ} {v : Int32} (hd : decode M.2.1 pc = .ok (.getfield 392, 3)) (hM : M.1.cls = "BundleFenceModel") (hv : w.1 0 41 = v) (kk : xJ ι M lM b (pc + 3) lv (.int v :: st) w r) : xJ ι M lM b pc lv (.ref 0 :: st) w r :=
  xj_gf (v := .int v) (ci := 0) (j := 41) (C := RX12) (T := TX12) (N := 48) hd rfl rfl xkX12 (Nat.le_of_ble_eq_true rfl) (by rw [hM]; exact tw1943) (fun _ => by subst hv; rfl) kk
theorem gfX12_395 {ρ : Type} {ι : ρ → xO × xW} {M : xMd} {b : Nat × Nat} {pc : Nat} {lv : List (Nat × Value)} {st : List Value} {w : xW} {r : Option ρ} {v : Int32} (hd : decode M.2.1 pc = .ok (.getfield 395, 3)) (hM : M.1.cls = "BundleFenceModel") (hv : w.1 0 33 = v) (kk : xJ ι M lM b (pc + 3) lv (.int v :: st) w r) : xJ ι M lM b pc lv (.ref 0 :: st) w r :=
  xj_gf (v := .int v) (ci := 0) (j := 33) (C := RX12) (T := TX12) (N := 48) hd rfl rfl xkX12 (Nat.le_of_ble_eq_true rfl) (by rw [hM]; exact tw1935) (fun _ => by subst hv; rfl) kk
theorem gfX12_398 {ρ : Type} {ι : ρ → xO × xW} {M : xMd} {b : Nat × Nat} {pc : Nat} {lv : List (Nat × Value)} {st : List Value} {w : xW} {r : Option ρ} {v : Int32} (hd : decode M.2.1 pc = .ok (.getfield 398, 3)) (hM : M.1.cls = "BundleFenceModel") (hv : w.1 0 8 = v) (kk : xJ ι M lM b (pc + 3) lv (.int v :: st) w r) : xJ ι M lM b pc lv (.ref 0 :: st) w r :=
  xj_gf (v := .int v) (ci := 0) (j := 8) (C := RX12) (T := TX12) (N := 48) hd rfl rfl xkX12 (Nat.le_of_ble_eq_true rfl) (by rw [hM]; exact tw1910) (fun _ => by subst hv; rfl) kk
theorem gfX12_40 {ρ : Type} {ι : ρ → xO × xW} {M : xMd} {b : Nat × Nat} {pc : Nat} {lv : List (Nat × Value)} {st : List Value} {w : xW} {r : Option ρ} {v : Int32} (hd : decode M.2.1 pc = .ok (.getfield 40, 3)) (hM : M.1.cls = "BundleFenceModel") (hv : w.1 0 34 = v) (kk : xJ ι M lM b (pc + 3) lv (.int v :: st) w r) : xJ ι M lM b pc lv (.ref 0 :: st) w r :=
  xj_gf (v := .int v) (ci := 0) (j := 34) (C := RX12) (T := TX12) (N := 48) hd rfl rfl xkX12 (Nat.le_of_ble_eq_true rfl) (by rw [hM]; exact tw1936) (fun _ => by subst hv; rfl) kk
theorem gfX12_401 {ρ : Type} {ι : ρ → xO × xW} {M : xMd} {b : Nat × Nat} {pc : Nat} {lv : List (Nat × Value)} {st : List Value} {w : xW} {r : Option ρ} {v : Int32} (hd : decode M.2.1 pc = .ok (.getfield 401, 3)) (hM : M.1.cls = "BundleFenceModel") (hv : w.1 0 6 = v) (kk : xJ ι M lM b (pc + 3) lv (.int v :: st) w r) : xJ ι M lM b pc lv (.ref 0 :: st) w r :=
  xj_gf (v := .int v) (ci := 0) (j := 6) (C := RX12) (T := TX12) (N := 48) hd rfl rfl xkX12 (Nat.le_of_ble_eq_true rfl) (by rw [hM]; exact tw1908) (fun _ => by subst hv; rfl) kk
theorem gfX12_404 {ρ : Type} {ι : ρ → xO × xW} {M : xMd} {b : Nat × Nat} {pc : Nat} {lv : List (Nat × Value)} {st : List Value} {w : xW} {r : Option ρ} {v : Int32} (hd : decode M.2.1 pc = .ok (.getfield 404, 3)) (hM : M.1.cls = "BundleFenceModel") (hv : w.1 0 5 = v) (kk : xJ ι M lM b (pc + 3) lv (.int v :: st) w r) : xJ ι M lM b pc lv (.ref 0 :: st) w r :=
  xj_gf (v := .int v) (ci := 0) (j := 5) (C := RX12) (T := TX12) (N := 48) hd rfl rfl xkX12 (Nat.le_of_ble_eq_true rfl) (by rw [hM]; exact tw1907) (fun _ => by subst hv; rfl) kk
theorem gfX12_407 {ρ : Type} {ι : ρ → xO × xW} {M : xMd} {b : Nat × Nat} {pc : Nat} {lv : List (Nat × Value)} {st : List Value} {w : xW} {r : Option ρ} {v : Int64} (hd : decode M.2.1 pc = .ok (.getfield 407, 3)) (hM : M.1.cls = "BundleFenceModel") (hv : w.2 0 44 = v) (kk : xJ ι M lM b (pc + 3) lv (.long v :: st) w r) : xJ ι M lM b pc lv (.ref 0 :: st) w r :=
  xj_gf (v := .long v) (ci := 0) (j := 44) (C := RX12) (T := TX12) (N := 48) hd rfl rfl xkX12 (Nat.le_of_ble_eq_true rfl) (by rw [hM]; exact tw1946) (fun _ => by subst hv; rfl) kk
theorem gfX12_411 {ρ : Type} {ι : ρ → xO × xW} {M : xMd} {b : Nat × Nat} {pc : Nat} {lv : List (Nat × Value)} {st : List Value} {w : xW} {r : Option ρ} {v : Int32} (hd : decode M.2.1 pc = .ok (.getfield 411, 3)) (hM : M.1.cls = "BundleFenceModel") (hv : w.1 0 43 = v) (kk : xJ ι M lM b (pc + 3) lv (.int v :: st) w r) : xJ ι M lM b pc lv (.ref 0 :: st) w r :=
  xj_gf (v := .int v) (ci := 0) (j := 43) (C := RX12) (T := TX12) (N := 48) hd rfl rfl xkX12 (Nat.le_of_ble_eq_true rfl) (by rw [hM]; exact tw1945) (fun _ => by subst hv; rfl) kk
theorem gfX12_44 {ρ : Type} {ι : ρ → xO × xW} {M : xMd} {b : Nat × Nat} {pc : Nat} {lv : List (Nat × Value)} {st : List Value} {w : xW} {r : Option ρ} (hd : decode M.2.1 pc = .ok (.getfield 44, 3)) (hM : M.1.cls = "BundleFenceModel") (kk : xJ ι M lM b (pc + 3) lv (.ref 9 :: st) w r) : xJ ι M lM b pc lv (.ref 0 :: st) w r :=
  xj_gf (v := .ref 9) (ci := 0) (j := 35) (C := RX12) (T := TX12) (N := 48) hd rfl rfl xkX12 (Nat.le_of_ble_eq_true rfl) (by rw [hM]; exact tw1937) (fun _ => rfl) kk
theorem gfX12_47 {ρ : Type} {ι : ρ → xO × xW} {M : xMd} {b : Nat × Nat} {pc : Nat} {lv : List (Nat × Value)} {st : List Value} {w : xW} {r : Option ρ} {v : Int32} (hd : decode M.2.1 pc = .ok (.getfield 47, 3)) (hM : M.1.cls = "BundleFenceModel") (hv : w.1 0 42 = v) (kk : xJ ι M lM b (pc + 3) lv (.int v :: st) w r) : xJ ι M lM b pc lv (.ref 0 :: st) w r :=
  xj_gf (v := .int v) (ci := 0) (j := 42) (C := RX12) (T := TX12) (N := 48) hd rfl rfl xkX12 (Nat.le_of_ble_eq_true rfl) (by rw [hM]; exact tw1944) (fun _ => by subst hv; rfl) kk
theorem gfX12_50 {ρ : Type} {ι : ρ → xO × xW} {M : xMd} {b : Nat × Nat} {pc : Nat} {lv : List (Nat × Value)} {st : List Value} {w : xW} {r : Option ρ} (hd : decode M.2.1 pc = .ok (.getfield 50, 3)) (hM : M.1.cls = "BundleFenceModel") (kk : xJ ι M lM b (pc + 3) lv (.ref 10 :: st) w r) : xJ ι M lM b pc lv (.ref 0 :: st) w r :=
  xj_gf (v := .ref 10) (ci := 0) (j := 47) (C := RX12) (T := TX12) (N := 48) hd rfl rfl xkX12 (Nat.le_of_ble_eq_true rfl) (by rw [hM]; exact tw1949) (fun _ => rfl) kk
theorem gfX12_53 {ρ : Type} {ι : ρ → xO × xW} {M : xMd} {b : Nat × Nat} {pc : Nat} {lv : List (Nat × Value)} {st : List Value} {w : xW} {r : Option ρ} {v : Int32} (hd : decode M.2.1 pc = .ok (.getfield 53, 3)) (hM : M.1.cls = "BundleFenceModel") (hv : w.1 0 0 = v) (kk : xJ ι M lM b (pc + 3) lv (.int v :: st) w r) : xJ ι M lM b pc lv (.ref 0 :: st) w r :=
  xj_gf (v := .int v) (ci := 0) (j := 0) (C := RX12) (T := TX12) (N := 48) hd rfl rfl xkX12 (Nat.le_of_ble_eq_true rfl) (by rw [hM]; exact tw1902) (fun _ => by subst hv; rfl) kk
theorem gfX12_56 {ρ : Type} {ι : ρ → xO × xW} {M : xMd} {b : Nat × Nat} {pc : Nat} {lv : List (Nat × Value)} {st : List Value} {w : xW} {r : Option ρ} {v : Int32} (hd : decode M.2.1 pc = .ok (.getfield 56, 3)) (hM : M.1.cls = "BundleFenceModel") (hv : w.1 0 31 = v) (kk : xJ ι M lM b (pc + 3) lv (.int v :: st) w r) : xJ ι M lM b pc lv (.ref 0 :: st) w r :=
  xj_gf (v := .int v) (ci := 0) (j := 31) (C := RX12) (T := TX12) (N := 48) hd rfl rfl xkX12 (Nat.le_of_ble_eq_true rfl) (by rw [hM]; exact tw1933) (fun _ => by subst hv; rfl) kk
theorem gfX12_59 {ρ : Type} {ι : ρ → xO × xW} {M : xMd} {b : Nat × Nat} {pc : Nat} {lv : List (Nat × Value)} {st : List Value} {w : xW} {r : Option ρ} {v : Int32} (hd : decode M.2.1 pc = .ok (.getfield 59, 3)) (hM : M.1.cls = "BundleFenceModel") (hv : w.1 0 2 = v) (kk : xJ ι M lM b (pc + 3) lv (.int v :: st) w r) : xJ ι M lM b pc lv (.ref 0 :: st) w r :=
  xj_gf (v := .int v) (ci := 0) (j := 2) (C := RX12) (T := TX12) (N := 48) hd rfl rfl xkX12 (Nat.le_of_ble_eq_true rfl) (by rw [hM]; exact tw1904) (fun _ => by subst hv; rfl) kk
theorem gfX12_62 {ρ : Type} {ι : ρ → xO × xW} {M : xMd} {b : Nat × Nat} {pc : Nat} {lv : List (Nat × Value)} {st : List Value} {w : xW} {r : Option ρ} {v : Int32} (hd : decode M.2.1 pc = .ok (.getfield 62, 3)) (hM : M.1.cls = "BundleFenceModel") (hv : w.1 0 32 = v) (kk : xJ ι M lM b (pc + 3) lv (.int v :: st) w r) : xJ ι M lM b pc lv (.ref 0 :: st) w r :=
  xj_gf (v := .int v) (ci := 0) (j := 32) (C := RX12) (T := TX12) (N := 48) hd rfl rfl xkX12 (Nat.le_of_ble_eq_true rfl) (by rw [hM]; exact tw1934) (fun _ => by subst hv; rfl) kk
theorem gfX12_7 {ρ : Type} {ι : ρ → xO × xW} {M : xMd} {b : Nat × Nat} {pc : Nat} {lv : List (Nat × Value)} {st : List Value} {w : xW} {r : Option ρ} (hd : decode M.2.1 pc = .ok (.getfield 7, 3)) (hM : M.1.cls = "BundleFenceModel") (kk : xJ ι M lM b (pc + 3) lv (.ref 1 :: st) w r) : xJ ι M lM b pc lv (.ref 0 :: st) w r :=
  xj_gf (v := .ref 1) (ci := 0) (j := 1) (C := RX12) (T := TX12) (N := 48) hd rfl rfl xkX12 (Nat.le_of_ble_eq_true rfl) (by rw [hM]; exact tw1903) (fun _ => rfl) kk
theorem gfX12_70 {ρ : Type} {ι : ρ → xO × xW} {M : xMd} {b : Nat × Nat} {pc : Nat} {lv : List (Nat × Value)} {st : List Value} {w : xW} {r : Option ρ} {v : Int32} (hd : decode M.2.1 pc = .ok (.getfield 70, 3)) (hM : M.1.cls = "BundleFenceModel") (hv : w.1 0 17 = v) (kk : xJ ι M lM b (pc + 3) lv (.int v :: st) w r) : xJ ι M lM b pc lv (.ref 0 :: st) w r :=
  xj_gf (v := .int v) (ci := 0) (j := 17) (C := RX12) (T := TX12) (N := 48) hd rfl rfl xkX12 (Nat.le_of_ble_eq_true rfl) (by rw [hM]; exact tw1919) (fun _ => by subst hv; rfl) kk
theorem gfX12_73 {ρ : Type} {ι : ρ → xO × xW} {M : xMd} {b : Nat × Nat} {pc : Nat} {lv : List (Nat × Value)} {st : List Value} {w : xW} {r : Option ρ} {v : Int32} (hd : decode M.2.1 pc = .ok (.getfield 73, 3)) (hM : M.1.cls = "BundleFenceModel") (hv : w.1 0 18 = v) (kk : xJ ι M lM b (pc + 3) lv (.int v :: st) w r) : xJ ι M lM b pc lv (.ref 0 :: st) w r :=
  xj_gf (v := .int v) (ci := 0) (j := 18) (C := RX12) (T := TX12) (N := 48) hd rfl rfl xkX12 (Nat.le_of_ble_eq_true rfl) (by rw [hM]; exact tw1920) (fun _ => by subst hv; rfl) kk
theorem gfX12_76 {ρ : Type} {ι : ρ → xO × xW} {M : xMd} {b : Nat × Nat} {pc : Nat} {lv : List (Nat × Value)} {st : List Value} {w : xW} {r : Option ρ} {v : Int32} (hd : decode M.2.1 pc = .ok (.getfield 76, 3)) (hM : M.1.cls = "BundleFenceModel") (hv : w.1 0 20 = v) (kk : xJ ι M lM b (pc + 3) lv (.int v :: st) w r) : xJ ι M lM b pc lv (.ref 0 :: st) w r :=
  xj_gf (v := .int v) (ci := 0) (j := 20) (C := RX12) (T := TX12) (N := 48) hd rfl rfl xkX12 (Nat.le_of_ble_eq_true rfl) (by rw [hM]; exact tw1922) (fun _ => by subst hv; rfl) kk
theorem gfX12_79 {ρ : Type} {ι : ρ → xO × xW} {M : xMd} {b : Nat × Nat} {pc : Nat} {lv : List (Nat × Value)} {st : List Value} {w : xW} {r : Option ρ} {v : Int32} (hd : decode M.2.1 pc = .ok (.getfield 79, 3)) (hM : M.1.cls = "BundleFenceModel") (hv : w.1 0 21 = v) (kk : xJ ι M lM b (pc + 3) lv (.int v :: st) w r) : xJ ι M lM b pc lv (.ref 0 :: st) w r :=
  xj_gf (v := .int v) (ci := 0) (j := 21) (C := RX12) (T := TX12) (N := 48) hd rfl rfl xkX12 (Nat.le_of_ble_eq_true rfl) (by rw [hM]; exact tw1923) (fun _ => by subst hv; rfl) kk
theorem gfX12_82 {ρ : Type} {ι : ρ → xO × xW} {M : xMd} {b : Nat × Nat} {pc : Nat} {lv : List (Nat × Value)} {st : List Value} {w : xW} {r : Option ρ} {v : Int32} (hd : decode M.2.1 pc = .ok (.getfield 82, 3)) (hM : M.1.cls = "BundleFenceModel") (hv : w.1 0 22 = v) (kk : xJ ι M lM b (pc + 3) lv (.int v :: st) w r) : xJ ι M lM b pc lv (.ref 0 :: st) w r :=
  xj_gf (v := .int v) (ci := 0) (j := 22) (C := RX12) (T := TX12) (N := 48) hd rfl rfl xkX12 (Nat.le_of_ble_eq_true rfl) (by rw [hM]; exact tw1924) (fun _ => by subst hv; rfl) kk
theorem gfX12_85 {ρ : Type} {ι : ρ → xO × xW} {M : xMd} {b : Nat × Nat} {pc : Nat} {lv : List (Nat × Value)} {st : List Value} {w : xW} {r : Option ρ} {v : Int32} (hd : decode M.2.1 pc = .ok (.getfield 85, 3)) (hM : M.1.cls = "BundleFenceModel") (hv : w.1 0 23 = v) (kk : xJ ι M lM b (pc + 3) lv (.int v :: st) w r) : xJ ι M lM b pc lv (.ref 0 :: st) w r :=
  xj_gf (v := .int v) (ci := 0) (j := 23) (C := RX12) (T := TX12) (N := 48) hd rfl rfl xkX12 (Nat.le_of_ble_eq_true rfl) (by rw [hM]; exact tw1925) (fun _ => by subst hv; rfl) kk
theorem gfX12_88 {ρ : Type} {ι : ρ → xO × xW} {M : xMd} {b : Nat × Nat} {pc : Nat} {lv : List (Nat × Value)} {st : List Value} {w : xW} {r : Option ρ} {v : Int32} (hd : decode M.2.1 pc = .ok (.getfield 88, 3)) (hM : M.1.cls = "BundleFenceModel") (hv : w.1 0 24 = v) (kk : xJ ι M lM b (pc + 3) lv (.int v :: st) w r) : xJ ι M lM b pc lv (.ref 0 :: st) w r :=
  xj_gf (v := .int v) (ci := 0) (j := 24) (C := RX12) (T := TX12) (N := 48) hd rfl rfl xkX12 (Nat.le_of_ble_eq_true rfl) (by rw [hM]; exact tw1926) (fun _ => by subst hv; rfl) kk
theorem gfX12_91 {ρ : Type} {ι : ρ → xO × xW} {M : xMd} {b : Nat × Nat} {pc : Nat} {lv : List (Nat × Value)} {st : List Value} {w : xW} {r : Option ρ} {v : Int32} (hd : decode M.2.1 pc = .ok (.getfield 91, 3)) (hM : M.1.cls = "BundleFenceModel") (hv : w.1 0 25 = v) (kk : xJ ι M lM b (pc + 3) lv (.int v :: st) w r) : xJ ι M lM b pc lv (.ref 0 :: st) w r :=
  xj_gf (v := .int v) (ci := 0) (j := 25) (C := RX12) (T := TX12) (N := 48) hd rfl rfl xkX12 (Nat.le_of_ble_eq_true rfl) (by rw [hM]; exact tw1927) (fun _ => by subst hv; rfl) kk
theorem gfX12_94 {ρ : Type} {ι : ρ → xO × xW} {M : xMd} {b : Nat × Nat} {pc : Nat} {lv : List (Nat × Value)} {st : List Value} {w : xW} {r : Option ρ} {v : Int32} (hd : decode M.2.1 pc = .ok (.getfield 94, 3)) (hM : M.1.cls = "BundleFenceModel") (hv : w.1 0 26 = v) (kk : xJ ι M lM b (pc + 3) lv (.int v :: st) w r) : xJ ι M lM b pc lv (.ref 0 :: st) w r :=
  xj_gf (v := .int v) (ci := 0) (j := 26) (C := RX12) (T := TX12) (N := 48) hd rfl rfl xkX12 (Nat.le_of_ble_eq_true rfl) (by rw [hM]; exact tw1928) (fun _ => by subst hv; rfl) kk
theorem gfX12_97 {ρ : Type} {ι : ρ → xO × xW} {M : xMd} {b : Nat × Nat} {pc : Nat} {lv : List (Nat × Value)} {st : List Value} {w : xW} {r : Option ρ} {v : Int32} (hd : decode M.2.1 pc = .ok (.getfield 97, 3)) (hM : M.1.cls = "BundleFenceModel") (hv : w.1 0 27 = v) (kk : xJ ι M lM b (pc + 3) lv (.int v :: st) w r) : xJ ι M lM b pc lv (.ref 0 :: st) w r :=
  xj_gf (v := .int v) (ci := 0) (j := 27) (C := RX12) (T := TX12) (N := 48) hd rfl rfl xkX12 (Nat.le_of_ble_eq_true rfl) (by rw [hM]; exact tw1929) (fun _ => by subst hv; rfl) kk
theorem pfX12_100 {ρ : Type} {ι : ρ → xO × xW} {M : xMd} {b : Nat × Nat} {pc : Nat} {lv : List (Nat × Value)} {st : List Value} {w : xW} {r : Option ρ} {v : Int32} (hd : decode M.2.1 pc = .ok (.putfield 100, 3)) (hM : M.1.cls = "BundleFenceModel") (kk : xJ ι M lM b (pc + 3) lv st (xwi w 0 28 v) r) : xJ ι M lM b pc lv (.int v :: .ref 0 :: st) w r :=
  xj_pf (v := .int v) (w2 := xwi w 0 28 v) (ty := .int) (ci := 0) (j := 28) (C := RX12) (T := TX12) (N := 48) hd rfl rfl xkX12 (Nat.le_of_ble_eq_true rfl) (by rw [hM]; exact tw1930) rfl (by decide +kernel) (fun _ => rfl) (fun _ => rfl) (xput_i (Nat.le_of_ble_eq_true rfl) rfl) kk
theorem pfX12_109 {ρ : Type} {ι : ρ → xO × xW} {M : xMd} {b : Nat × Nat} {pc : Nat} {lv : List (Nat × Value)} {st : List Value} {w : xW} {r : Option ρ} {v : Int32} (hd : decode M.2.1 pc = .ok (.putfield 109, 3)) (hM : M.1.cls = "BundleFenceModel") (kk : xJ ι M lM b (pc + 3) lv st (xwi w 0 29 v) r) : xJ ι M lM b pc lv (.int v :: .ref 0 :: st) w r :=
  xj_pf (v := .int v) (w2 := xwi w 0 29 v) (ty := .int) (ci := 0) (j := 29) (C := RX12) (T := TX12) (N := 48) hd rfl rfl xkX12 (Nat.le_of_ble_eq_true rfl) (by rw [hM]; exact tw1931) rfl (by decide +kernel) (fun _ => rfl) (fun _ => rfl) (xput_i (Nat.le_of_ble_eq_true rfl) rfl) kk
theorem pfX12_115 {ρ : Type} {ι : ρ → xO × xW} {M : xMd} {b : Nat × Nat} {pc : Nat} {lv : List (Nat × Value)} {st : List Value} {w : xW} {r : Option ρ} {v : Int32} (hd : decode M.2.1 pc = .ok (.putfield 115, 3)) (hM : M.1.cls = "BundleFenceModel") (kk : xJ ι M lM b (pc + 3) lv st (xwi w 0 19 v) r) : xJ ι M lM b pc lv (.int v :: .ref 0 :: st) w r :=
  xj_pf (v := .int v) (w2 := xwi w 0 19 v) (ty := .int) (ci := 0) (j := 19) (C := RX12) (T := TX12) (N := 48) hd rfl rfl xkX12 (Nat.le_of_ble_eq_true rfl) (by rw [hM]; exact tw1921) rfl (by decide +kernel) (fun _ => rfl) (fun _ => rfl) (xput_i (Nat.le_of_ble_eq_true rfl) rfl) kk
theorem pfX12_138 {ρ : Type} {ι : ρ → xO × xW} {M : xMd} {b : Nat × Nat} {pc : Nat} {lv : List (Nat × Value)} {st : List Value} {w : xW} {r : Option ρ} {v : Int32} (hd : decode M.2.1 pc = .ok (.putfield 138, 3)) (hM : M.1.cls = "BundleFenceModel") (kk : xJ ι M lM b (pc + 3) lv st (xwi w 0 30 v) r) : xJ ι M lM b pc lv (.int v :: .ref 0 :: st) w r :=
  xj_pf (v := .int v) (w2 := xwi w 0 30 v) (ty := .int) (ci := 0) (j := 30) (C := RX12) (T := TX12) (N := 48) hd rfl rfl xkX12 (Nat.le_of_ble_eq_true rfl) (by rw [hM]; exact tw1932) rfl (by decide +kernel) (fun _ => rfl) (fun _ => rfl) (xput_i (Nat.le_of_ble_eq_true rfl) rfl) kk
theorem pfX12_192 {ρ : Type} {ι : ρ → xO × xW} {M : xMd} {b : Nat × Nat} {pc : Nat} {lv : List (Nat × Value)} {st : List Value} {w : xW} {r : Option ρ} {v : Int32} (hd : decode M.2.1 pc = .ok (.putfield 192, 3)) (hM : M.1.cls = "BundleFenceModel") (kk : xJ ι M lM b (pc + 3) lv st (xwi w 0 10 v) r) : xJ ι M lM b pc lv (.int v :: .ref 0 :: st) w r :=
  xj_pf (v := .int v) (w2 := xwi w 0 10 v) (ty := .int) (ci := 0) (j := 10) (C := RX12) (T := TX12) (N := 48) hd rfl rfl xkX12 (Nat.le_of_ble_eq_true rfl) (by rw [hM]; exact tw1912) rfl (by decide +kernel) (fun _ => rfl) (fun _ => rfl) (xput_i (Nat.le_of_ble_eq_true rfl) rfl) kk
theorem pfX12_195 {ρ : Type} {ι : ρ → xO × xW} {M : xMd} {b : Nat × Nat} {pc : Nat} {lv : List (Nat × Value)} {st : List Value} {w : xW} {r : Option ρ} {v : Int32} (hd : decode M.2.1 pc = .ok (.putfield 195, 3)) (hM : M.1.cls = "BundleFenceModel") (hz : xz v) (kk : xJ ι M lM b (pc + 3) lv st (xwi w 0 9 v) r) : xJ ι M lM b pc lv (.int v :: .ref 0 :: st) w r :=
  xj_pf (v := .int v) (w2 := xwi w 0 9 v) (ty := .boolean) (ci := 0) (j := 9) (C := RX12) (T := TX12) (N := 48) hd rfl rfl xkX12 (Nat.le_of_ble_eq_true rfl) (by rw [hM]; exact tw1911) rfl (by decide +kernel) (fun _ => (xz_nar hz).1) (fun _ => (xz_nar hz).2) (xput_i (Nat.le_of_ble_eq_true rfl) rfl) kk
theorem pfX12_220 {ρ : Type} {ι : ρ → xO × xW} {M : xMd} {b : Nat × Nat} {pc : Nat} {lv : List (Nat × Value)} {st : List Value} {w : xW} {r : Option ρ} {v : Int32} (hd : decode M.2.1 pc = .ok (.putfield 220, 3)) (hM : M.1.cls = "BundleFenceModel") (kk : xJ ι M lM b (pc + 3) lv st (xwi w 0 16 v) r) : xJ ι M lM b pc lv (.int v :: .ref 0 :: st) w r :=
  xj_pf (v := .int v) (w2 := xwi w 0 16 v) (ty := .int) (ci := 0) (j := 16) (C := RX12) (T := TX12) (N := 48) hd rfl rfl xkX12 (Nat.le_of_ble_eq_true rfl) (by rw [hM]; exact tw1918) rfl (by decide +kernel) (fun _ => rfl) (fun _ => rfl) (xput_i (Nat.le_of_ble_eq_true rfl) rfl) kk
theorem pfX12_23 {ρ : Type} {ι : ρ → xO × xW} {M : xMd} {b : Nat × Nat} {pc : Nat} {lv : List (Nat × Value)} {st : List Value} {w : xW} {r : Option ρ} {v : Int32} (hd : decode M.2.1 pc = .ok (.putfield 23, 3)) (hM : M.1.cls = "BundleFenceModel") (kk : xJ ι M lM b (pc + 3) lv st (xwi w 0 11 v) r) : xJ ι M lM b pc lv (.int v :: .ref 0 :: st) w r :=
  xj_pf (v := .int v) (w2 := xwi w 0 11 v) (ty := .int) (ci := 0) (j := 11) (C := RX12) (T := TX12) (N := 48) hd rfl rfl xkX12 (Nat.le_of_ble_eq_true rfl) (by rw [hM]; exact tw1913) rfl (by decide +kernel) (fun _ => rfl) (fun _ => rfl) (xput_i (Nat.le_of_ble_eq_true rfl) rfl) kk
theorem pfX12_272 {ρ : Type} {ι : ρ → xO × xW} {M : xMd} {b : Nat × Nat} {pc : Nat} {lv : List (Nat × Value)} {st : List Value} {w : xW} {r : Option ρ} {v : Int32} (hd : decode M.2.1 pc = .ok (.putfield 272, 3)) (hM : M.1.cls = "BundleFenceModel") (kk : xJ ι M lM b (pc + 3) lv st (xwi w 0 45 v) r) : xJ ι M lM b pc lv (.int v :: .ref 0 :: st) w r :=
  xj_pf (v := .int v) (w2 := xwi w 0 45 v) (ty := .int) (ci := 0) (j := 45) (C := RX12) (T := TX12) (N := 48) hd rfl rfl xkX12 (Nat.le_of_ble_eq_true rfl) (by rw [hM]; exact tw1947) rfl (by decide +kernel) (fun _ => rfl) (fun _ => rfl) (xput_i (Nat.le_of_ble_eq_true rfl) rfl) kk
theorem pfX12_288 {ρ : Type} {ι : ρ → xO × xW} {M : xMd} {b : Nat × Nat} {pc : Nat} {lv : List (Nat × Value)} {st : List Value} {w : xW} {r : Option ρ} {v : Int32} (hd : decode M.2.1 pc = .ok (.putfield 288, 3)) (hM : M.1.cls = "BundleFenceModel") (kk : xJ ι M lM b (pc + 3) lv st (xwi w 0 46 v) r) : xJ ι M lM b pc lv (.int v :: .ref 0 :: st) w r :=
  xj_pf (v := .int v) (w2 := xwi w 0 46 v) (ty := .int) (ci := 0) (j := 46) (C := RX12) (T := TX12) (N := 48) hd rfl rfl xkX12 (Nat.le_of_ble_eq_true rfl) (by rw [hM]; exact tw1948) rfl (by decide +kernel) (fun _ => rfl) (fun _ => rfl) (xput_i (Nat.le_of_ble_eq_true rfl) rfl) kk
theorem pfX12_307 {ρ : Type} {ι : ρ → xO × xW} {M : xMd} {b : Nat × Nat} {pc : Nat} {lv : List (Nat × Value)} {st : List Value} {w : xW} {r : Option ρ} {v : Int32} (hd : decode M.2.1 pc = .ok (.putfield 307, 3)) (hM : M.1.cls = "BundleFenceModel") (hz : xz v) (kk : xJ ι M lM b (pc + 3) lv st (xwi w 0 38 v) r) : xJ ι M lM b pc lv (.int v :: .ref 0 :: st) w r :=
  xj_pf (v := .int v) (w2 := xwi w 0 38 v) (ty := .boolean) (ci := 0) (j := 38) (C := RX12) (T := TX12) (N := 48) hd rfl rfl xkX12 (Nat.le_of_ble_eq_true rfl) (by rw [hM]; exact tw1940) rfl (by decide +kernel) (fun _ => (xz_nar hz).1) (fun _ => (xz_nar hz).2) (xput_i (Nat.le_of_ble_eq_true rfl) rfl) kk
theorem pfX12_314 {ρ : Type} {ι : ρ → xO × xW} {M : xMd} {b : Nat × Nat} {pc : Nat} {lv : List (Nat × Value)} {st : List Value} {w : xW} {r : Option ρ} {v : Int32} (hd : decode M.2.1 pc = .ok (.putfield 314, 3)) (hM : M.1.cls = "BundleFenceModel") (hz : xz v) (kk : xJ ι M lM b (pc + 3) lv st (xwi w 0 39 v) r) : xJ ι M lM b pc lv (.int v :: .ref 0 :: st) w r :=
  xj_pf (v := .int v) (w2 := xwi w 0 39 v) (ty := .boolean) (ci := 0) (j := 39) (C := RX12) (T := TX12) (N := 48) hd rfl rfl xkX12 (Nat.le_of_ble_eq_true rfl) (by rw [hM]; exact tw1941) rfl (by decide +kernel) (fun _ => (xz_nar hz).1) (fun _ => (xz_nar hz).2) (xput_i (Nat.le_of_ble_eq_true rfl) rfl) kk
theorem pfX12_317 {ρ : Type} {ι : ρ → xO × xW} {M : xMd} {b : Nat × Nat} {pc : Nat} {lv : List (Nat × Value)} {st : List Value} {w : xW} {r : Option ρ} {v : Int32} (hd : decode M.2.1 pc = .ok (.putfield 317, 3)) (hM : M.1.cls = "BundleFenceModel") (hz : xz v) (kk : xJ ι M lM b (pc + 3) lv st (xwi w 0 37 v) r) : xJ ι M lM b pc lv (.int v :: .ref 0 :: st) w r :=
  xj_pf (v := .int v) (w2 := xwi w 0 37 v) (ty := .boolean) (ci := 0) (j := 37) (C := RX12) (T := TX12) (N := 48) hd rfl rfl xkX12 (Nat.le_of_ble_eq_true rfl) (by rw [hM]; exact tw1939) rfl (by decide +kernel) (fun _ => (xz_nar hz).1) (fun _ => (xz_nar hz).2) (xput_i (Nat.le_of_ble_eq_true rfl) rfl) kk
theorem pfX12_320 {ρ : Type} {ι : ρ → xO × xW} {M : xMd} {b : Nat × Nat} {pc : Nat} {lv : List (Nat × Value)} {st : List Value} {w : xW} {r : Option ρ} {v : Int32} (hd : decode M.2.1 pc = .ok (.putfield 320, 3)) (hM : M.1.cls = "BundleFenceModel") (hz : xz v) (kk : xJ ι M lM b (pc + 3) lv st (xwi w 0 36 v) r) : xJ ι M lM b pc lv (.int v :: .ref 0 :: st) w r :=
  xj_pf (v := .int v) (w2 := xwi w 0 36 v) (ty := .boolean) (ci := 0) (j := 36) (C := RX12) (T := TX12) (N := 48) hd rfl rfl xkX12 (Nat.le_of_ble_eq_true rfl) (by rw [hM]; exact tw1938) rfl (by decide +kernel) (fun _ => (xz_nar hz).1) (fun _ => (xz_nar hz).2) (xput_i (Nat.le_of_ble_eq_true rfl) rfl) kk
theorem pfX12_323 {ρ : Type} {ι : ρ → xO × xW} {M : xMd} {b : Nat × Nat} {pc : Nat} {lv : List (Nat × Value)} {st : List Value} {w : xW} {r : Option ρ} {v : Int32} (hd : decode M.2.1 pc = .ok (.putfield 323, 3)) (hM : M.1.cls = "BundleFenceModel") (hz : xz v) (kk : xJ ι M lM b (pc + 3) lv st (xwi w 0 40 v) r) : xJ ι M lM b pc lv (.int v :: .ref 0 :: st) w r :=
  xj_pf (v := .int v) (w2 := xwi w 0 40 v) (ty := .boolean) (ci := 0) (j := 40) (C := RX12) (T := TX12) (N := 48) hd rfl rfl xkX12 (Nat.le_of_ble_eq_true rfl) (by rw [hM]; exact tw1942) rfl (by decide +kernel) (fun _ => (xz_nar hz).1) (fun _ => (xz_nar hz).2) (xput_i (Nat.le_of_ble_eq_true rfl) rfl) kk
theorem pfX12_392 {ρ : Type} {ι : ρ → xO × xW} {M : xMd} {b : Nat × Nat} {pc : Nat} {lv : List (Nat × Value)} {st : List Value} {w : xW} {r : Option ρ} {v : Int32} (hd : decode M.2.1 pc = .ok (.putfield 392, 3)) (hM : M.1.cls = "BundleFenceModel") (kk : xJ ι M lM b (pc + 3) lv st (xwi w 0 41 v) r) : xJ ι M lM b pc lv (.int v :: .ref 0 :: st) w r :=
  xj_pf (v := .int v) (w2 := xwi w 0 41 v) (ty := .int) (ci := 0) (j := 41) (C := RX12) (T := TX12) (N := 48) hd rfl rfl xkX12 (Nat.le_of_ble_eq_true rfl) (by rw [hM]; exact tw1943) rfl (by decide +kernel) (fun _ => rfl) (fun _ => rfl) (xput_i (Nat.le_of_ble_eq_true rfl) rfl) kk
theorem pfX12_395 {ρ : Type} {ι : ρ → xO × xW} {M : xMd} {b : Nat × Nat} {pc : Nat} {lv : List (Nat × Value)} {st : List Value} {w : xW} {r : Option ρ} {v : Int32} (hd : decode M.2.1 pc = .ok (.putfield 395, 3)) (hM : M.1.cls = "BundleFenceModel") (kk : xJ ι M lM b (pc + 3) lv st (xwi w 0 33 v) r) : xJ ι M lM b pc lv (.int v :: .ref 0 :: st) w r :=
  xj_pf (v := .int v) (w2 := xwi w 0 33 v) (ty := .int) (ci := 0) (j := 33) (C := RX12) (T := TX12) (N := 48) hd rfl rfl xkX12 (Nat.le_of_ble_eq_true rfl) (by rw [hM]; exact tw1935) rfl (by decide +kernel) (fun _ => rfl) (fun _ => rfl) (xput_i (Nat.le_of_ble_eq_true rfl) rfl) kk
theorem pfX12_398 {ρ : Type} {ι : ρ → xO × xW} {M : xMd} {b : Nat × Nat} {pc : Nat} {lv : List (Nat × Value)} {st : List Value} {w : xW} {r : Option ρ} {v : Int32} (hd : decode M.2.1 pc = .ok (.putfield 398, 3)) (hM : M.1.cls = "BundleFenceModel") (kk : xJ ι M lM b (pc + 3) lv st (xwi w 0 8 v) r) : xJ ι M lM b pc lv (.int v :: .ref 0 :: st) w r :=
  xj_pf (v := .int v) (w2 := xwi w 0 8 v) (ty := .int) (ci := 0) (j := 8) (C := RX12) (T := TX12) (N := 48) hd rfl rfl xkX12 (Nat.le_of_ble_eq_true rfl) (by rw [hM]; exact tw1910) rfl (by decide +kernel) (fun _ => rfl) (fun _ => rfl) (xput_i (Nat.le_of_ble_eq_true rfl) rfl) kk
theorem pfX12_40 {ρ : Type} {ι : ρ → xO × xW} {M : xMd} {b : Nat × Nat} {pc : Nat} {lv : List (Nat × Value)} {st : List Value} {w : xW} {r : Option ρ} {v : Int32} (hd : decode M.2.1 pc = .ok (.putfield 40, 3)) (hM : M.1.cls = "BundleFenceModel") (kk : xJ ι M lM b (pc + 3) lv st (xwi w 0 34 v) r) : xJ ι M lM b pc lv (.int v :: .ref 0 :: st) w r :=
  xj_pf (v := .int v) (w2 := xwi w 0 34 v) (ty := .int) (ci := 0) (j := 34) (C := RX12) (T := TX12) (N := 48) hd rfl rfl xkX12 (Nat.le_of_ble_eq_true rfl) (by rw [hM]; exact tw1936) rfl (by decide +kernel) (fun _ => rfl) (fun _ => rfl) (xput_i (Nat.le_of_ble_eq_true rfl) rfl) kk
theorem pfX12_401 {ρ : Type} {ι : ρ → xO × xW} {M : xMd} {b : Nat × Nat} {pc : Nat} {lv : List (Nat × Value)} {st : List Value} {w : xW} {r : Option ρ} {v : Int32} (hd : decode M.2.1 pc = .ok (.putfield 401, 3)) (hM : M.1.cls = "BundleFenceModel") (kk : xJ ι M lM b (pc + 3) lv st (xwi w 0 6 v) r) : xJ ι M lM b pc lv (.int v :: .ref 0 :: st) w r :=
  xj_pf (v := .int v) (w2 := xwi w 0 6 v) (ty := .int) (ci := 0) (j := 6) (C := RX12) (T := TX12) (N := 48) hd rfl rfl xkX12 (Nat.le_of_ble_eq_true rfl) (by rw [hM]; exact tw1908) rfl (by decide +kernel) (fun _ => rfl) (fun _ => rfl) (xput_i (Nat.le_of_ble_eq_true rfl) rfl) kk
theorem pfX12_404 {ρ : Type} {ι : ρ → xO × xW} {M : xMd} {b : Nat × Nat} {pc : Nat} {lv : List (Nat × Value)} {st : List Value} {w : xW} {r : Option ρ} {v : Int32} (hd : decode M.2.1 pc = .ok (.putfield 404, 3)) (hM : M.1.cls = "BundleFenceModel") (kk : xJ ι M lM b (pc + 3) lv st (xwi w 0 5 v) r) : xJ ι M lM b pc lv (.int v :: .ref 0 :: st) w r :=
  xj_pf (v := .int v) (w2 := xwi w 0 5 v) (ty := .int) (ci := 0) (j := 5) (C := RX12) (T := TX12) (N := 48) hd rfl rfl xkX12 (Nat.le_of_ble_eq_true rfl) (by rw [hM]; exact tw1907) rfl (by decide +kernel) (fun _ => rfl) (fun _ => rfl) (xput_i (Nat.le_of_ble_eq_true rfl) rfl) kk
theorem pfX12_407 {ρ : Type} {ι : ρ → xO × xW} {M : xMd} {b : Nat × Nat} {pc : Nat} {lv : List (Nat × Value)} {st : List Value} {w : xW} {r : Option ρ} {v : Int64} (hd : decode M.2.1 pc = .ok (.putfield 407, 3)) (hM : M.1.cls = "BundleFenceModel") (kk : xJ ι M lM b (pc + 3) lv st (xwl w 0 44 v) r) : xJ ι M lM b pc lv (.long v :: .ref 0 :: st) w r :=
  xj_pf (v := .long v) (w2 := xwl w 0 44 v) (ty := .long) (ci := 0) (j := 44) (C := RX12) (T := TX12) (N := 48) hd rfl rfl xkX12 (Nat.le_of_ble_eq_true rfl) (by rw [hM]; exact tw1946) rfl (by decide +kernel) (fun _ => rfl) (fun _ => rfl) (xput_l rfl) kk
theorem pfX12_411 {ρ : Type} {ι : ρ → xO × xW} {M : xMd} {b : Nat × Nat} {pc : Nat} {lv : List (Nat × Value)} {st : List Value} {w : xW} {r : Option ρ} {v : Int32} (hd : decode M.2.1 pc = .ok (.putfield 411, 3)) (hM : M.1.cls = "BundleFenceModel") (kk : xJ ι M lM b (pc + 3) lv st (xwi w 0 43 v) r) : xJ ι M lM b pc lv (.int v :: .ref 0 :: st) w r :=
  xj_pf (v := .int v) (w2 := xwi w 0 43 v) (ty := .int) (ci := 0) (j := 43) (C := RX12) (T := TX12) (N := 48) hd rfl rfl xkX12 (Nat.le_of_ble_eq_true rfl) (by rw [hM]; exact tw1945) rfl (by decide +kernel) (fun _ => rfl) (fun _ => rfl) (xput_i (Nat.le_of_ble_eq_true rfl) rfl) kk
theorem pfX12_47 {ρ : Type} {ι : ρ → xO × xW} {M : xMd} {b : Nat × Nat} {pc : Nat} {lv : List (Nat × Value)} {st : List Value} {w : xW} {r : Option ρ} {v : Int32} (hd : decode M.2.1 pc = .ok (.putfield 47, 3)) (hM : M.1.cls = "BundleFenceModel") (kk : xJ ι M lM b (pc + 3) lv st (xwi w 0 42 v) r) : xJ ι M lM b pc lv (.int v :: .ref 0 :: st) w r :=
  xj_pf (v := .int v) (w2 := xwi w 0 42 v) (ty := .int) (ci := 0) (j := 42) (C := RX12) (T := TX12) (N := 48) hd rfl rfl xkX12 (Nat.le_of_ble_eq_true rfl) (by rw [hM]; exact tw1944) rfl (by decide +kernel) (fun _ => rfl) (fun _ => rfl) (xput_i (Nat.le_of_ble_eq_true rfl) rfl) kk
theorem pfX12_53 {ρ : Type} {ι : ρ → xO × xW} {M : xMd} {b : Nat × Nat} {pc : Nat} {lv : List (Nat × Value)} {st : List Value} {w : xW} {r : Option ρ} {v : Int32} (hd : decode M.2.1 pc = .ok (.putfield 53, 3)) (hM : M.1.cls = "BundleFenceModel") (kk : xJ ι M lM b (pc + 3) lv st (xwi w 0 0 v) r) : xJ ι M lM b pc lv (.int v :: .ref 0 :: st) w r :=
  xj_pf (v := .int v) (w2 := xwi w 0 0 v) (ty := .int) (ci := 0) (j := 0) (C := RX12) (T := TX12) (N := 48) hd rfl rfl xkX12 (Nat.le_of_ble_eq_true rfl) (by rw [hM]; exact tw1902) rfl (by decide +kernel) (fun _ => rfl) (fun _ => rfl) (xput_i (Nat.le_of_ble_eq_true rfl) rfl) kk
theorem pfX12_56 {ρ : Type} {ι : ρ → xO × xW} {M : xMd} {b : Nat × Nat} {pc : Nat} {lv : List (Nat × Value)} {st : List Value} {w : xW} {r : Option ρ} {v : Int32} (hd : decode M.2.1 pc = .ok (.putfield 56, 3)) (hM : M.1.cls = "BundleFenceModel") (kk : xJ ι M lM b (pc + 3) lv st (xwi w 0 31 v) r) : xJ ι M lM b pc lv (.int v :: .ref 0 :: st) w r :=
  xj_pf (v := .int v) (w2 := xwi w 0 31 v) (ty := .int) (ci := 0) (j := 31) (C := RX12) (T := TX12) (N := 48) hd rfl rfl xkX12 (Nat.le_of_ble_eq_true rfl) (by rw [hM]; exact tw1933) rfl (by decide +kernel) (fun _ => rfl) (fun _ => rfl) (xput_i (Nat.le_of_ble_eq_true rfl) rfl) kk
theorem pfX12_59 {ρ : Type} {ι : ρ → xO × xW} {M : xMd} {b : Nat × Nat} {pc : Nat} {lv : List (Nat × Value)} {st : List Value} {w : xW} {r : Option ρ} {v : Int32} (hd : decode M.2.1 pc = .ok (.putfield 59, 3)) (hM : M.1.cls = "BundleFenceModel") (kk : xJ ι M lM b (pc + 3) lv st (xwi w 0 2 v) r) : xJ ι M lM b pc lv (.int v :: .ref 0 :: st) w r :=
  xj_pf (v := .int v) (w2 := xwi w 0 2 v) (ty := .int) (ci := 0) (j := 2) (C := RX12) (T := TX12) (N := 48) hd rfl rfl xkX12 (Nat.le_of_ble_eq_true rfl) (by rw [hM]; exact tw1904) rfl (by decide +kernel) (fun _ => rfl) (fun _ => rfl) (xput_i (Nat.le_of_ble_eq_true rfl) rfl) kk
theorem pfX12_62 {ρ : Type} {ι : ρ → xO × xW} {M : xMd} {b : Nat × Nat} {pc : Nat} {lv : List (Nat × Value)} {st : List Value} {w : xW} {r : Option ρ} {v : Int32} (hd : decode M.2.1 pc = .ok (.putfield 62, 3)) (hM : M.1.cls = "BundleFenceModel") (hz : xz v) (kk : xJ ι M lM b (pc + 3) lv st (xwi w 0 32 v) r) : xJ ι M lM b pc lv (.int v :: .ref 0 :: st) w r :=
  xj_pf (v := .int v) (w2 := xwi w 0 32 v) (ty := .boolean) (ci := 0) (j := 32) (C := RX12) (T := TX12) (N := 48) hd rfl rfl xkX12 (Nat.le_of_ble_eq_true rfl) (by rw [hM]; exact tw1934) rfl (by decide +kernel) (fun _ => (xz_nar hz).1) (fun _ => (xz_nar hz).2) (xput_i (Nat.le_of_ble_eq_true rfl) rfl) kk
theorem pfX12_70 {ρ : Type} {ι : ρ → xO × xW} {M : xMd} {b : Nat × Nat} {pc : Nat} {lv : List (Nat × Value)} {st : List Value} {w : xW} {r : Option ρ} {v : Int32} (hd : decode M.2.1 pc = .ok (.putfield 70, 3)) (hM : M.1.cls = "BundleFenceModel") (kk : xJ ι M lM b (pc + 3) lv st (xwi w 0 17 v) r) : xJ ι M lM b pc lv (.int v :: .ref 0 :: st) w r :=
  xj_pf (v := .int v) (w2 := xwi w 0 17 v) (ty := .int) (ci := 0) (j := 17) (C := RX12) (T := TX12) (N := 48) hd rfl rfl xkX12 (Nat.le_of_ble_eq_true rfl) (by rw [hM]; exact tw1919) rfl (by decide +kernel) (fun _ => rfl) (fun _ => rfl) (xput_i (Nat.le_of_ble_eq_true rfl) rfl) kk
theorem pfX12_73 {ρ : Type} {ι : ρ → xO × xW} {M : xMd} {b : Nat × Nat} {pc : Nat} {lv : List (Nat × Value)} {st : List Value} {w : xW} {r : Option ρ} {v : Int32} (hd : decode M.2.1 pc = .ok (.putfield 73, 3)) (hM : M.1.cls = "BundleFenceModel") (kk : xJ ι M lM b (pc + 3) lv st (xwi w 0 18 v) r) : xJ ι M lM b pc lv (.int v :: .ref 0 :: st) w r :=
  xj_pf (v := .int v) (w2 := xwi w 0 18 v) (ty := .int) (ci := 0) (j := 18) (C := RX12) (T := TX12) (N := 48) hd rfl rfl xkX12 (Nat.le_of_ble_eq_true rfl) (by rw [hM]; exact tw1920) rfl (by decide +kernel) (fun _ => rfl) (fun _ => rfl) (xput_i (Nat.le_of_ble_eq_true rfl) rfl) kk
theorem pfX12_76 {ρ : Type} {ι : ρ → xO × xW} {M : xMd} {b : Nat × Nat} {pc : Nat} {lv : List (Nat × Value)} {st : List Value} {w : xW} {r : Option ρ} {v : Int32} (hd : decode M.2.1 pc = .ok (.putfield 76, 3)) (hM : M.1.cls = "BundleFenceModel") (kk : xJ ι M lM b (pc + 3) lv st (xwi w 0 20 v) r) : xJ ι M lM b pc lv (.int v :: .ref 0 :: st) w r :=
  xj_pf (v := .int v) (w2 := xwi w 0 20 v) (ty := .int) (ci := 0) (j := 20) (C := RX12) (T := TX12) (N := 48) hd rfl rfl xkX12 (Nat.le_of_ble_eq_true rfl) (by rw [hM]; exact tw1922) rfl (by decide +kernel) (fun _ => rfl) (fun _ => rfl) (xput_i (Nat.le_of_ble_eq_true rfl) rfl) kk
theorem pfX12_79 {ρ : Type} {ι : ρ → xO × xW} {M : xMd} {b : Nat × Nat} {pc : Nat} {lv : List (Nat × Value)} {st : List Value} {w : xW} {r : Option ρ} {v : Int32} (hd : decode M.2.1 pc = .ok (.putfield 79, 3)) (hM : M.1.cls = "BundleFenceModel") (kk : xJ ι M lM b (pc + 3) lv st (xwi w 0 21 v) r) : xJ ι M lM b pc lv (.int v :: .ref 0 :: st) w r :=
  xj_pf (v := .int v) (w2 := xwi w 0 21 v) (ty := .int) (ci := 0) (j := 21) (C := RX12) (T := TX12) (N := 48) hd rfl rfl xkX12 (Nat.le_of_ble_eq_true rfl) (by rw [hM]; exact tw1923) rfl (by decide +kernel) (fun _ => rfl) (fun _ => rfl) (xput_i (Nat.le_of_ble_eq_true rfl) rfl) kk
theorem pfX12_82 {ρ : Type} {ι : ρ → xO × xW} {M : xMd} {b : Nat × Nat} {pc : Nat} {lv : List (Nat × Value)} {st : List Value} {w : xW} {r : Option ρ} {v : Int32} (hd : decode M.2.1 pc = .ok (.putfield 82, 3)) (hM : M.1.cls = "BundleFenceModel") (kk : xJ ι M lM b (pc + 3) lv st (xwi w 0 22 v) r) : xJ ι M lM b pc lv (.int v :: .ref 0 :: st) w r :=
  xj_pf (v := .int v) (w2 := xwi w 0 22 v) (ty := .int) (ci := 0) (j := 22) (C := RX12) (T := TX12) (N := 48) hd rfl rfl xkX12 (Nat.le_of_ble_eq_true rfl) (by rw [hM]; exact tw1924) rfl (by decide +kernel) (fun _ => rfl) (fun _ => rfl) (xput_i (Nat.le_of_ble_eq_true rfl) rfl) kk
theorem pfX12_85 {ρ : Type} {ι : ρ → xO × xW} {M : xMd} {b : Nat × Nat} {pc : Nat} {lv : List (Nat × Value)} {st : List Value} {w : xW} {r : Option ρ} {v : Int32} (hd : decode M.2.1 pc = .ok (.putfield 85, 3)) (hM : M.1.cls = "BundleFenceModel") (kk : xJ ι M lM b (pc + 3) lv st (xwi w 0 23 v) r) : xJ ι M lM b pc lv (.int v :: .ref 0 :: st) w r :=
  xj_pf (v := .int v) (w2 := xwi w 0 23 v) (ty := .int) (ci := 0) (j := 23) (C := RX12) (T := TX12) (N := 48) hd rfl rfl xkX12 (Nat.le_of_ble_eq_true rfl) (by rw [hM]; exact tw1925) rfl (by decide +kernel) (fun _ => rfl) (fun _ => rfl) (xput_i (Nat.le_of_ble_eq_true rfl) rfl) kk
theorem pfX12_88 {ρ : Type} {ι : ρ → xO × xW} {M : xMd} {b : Nat × Nat} {pc : Nat} {lv : List (Nat × Value)} {st : List Value} {w : xW} {r : Option ρ} {v : Int32} (hd : decode M.2.1 pc = .ok (.putfield 88, 3)) (hM : M.1.cls = "BundleFenceModel") (kk : xJ ι M lM b (pc + 3) lv st (xwi w 0 24 v) r) : xJ ι M lM b pc lv (.int v :: .ref 0 :: st) w r :=
  xj_pf (v := .int v) (w2 := xwi w 0 24 v) (ty := .int) (ci := 0) (j := 24) (C := RX12) (T := TX12) (N := 48) hd rfl rfl xkX12 (Nat.le_of_ble_eq_true rfl) (by rw [hM]; exact tw1926) rfl (by decide +kernel) (fun _ => rfl) (fun _ => rfl) (xput_i (Nat.le_of_ble_eq_true rfl) rfl) kk
theorem pfX12_91 {ρ : Type} {ι : ρ → xO × xW} {M : xMd} {b : Nat × Nat} {pc : Nat} {lv : List (Nat × Value)} {st : List Value} {w : xW} {r : Option ρ} {v : Int32} (hd : decode M.2.1 pc = .ok (.putfield 91, 3)) (hM : M.1.cls = "BundleFenceModel") (kk : xJ ι M lM b (pc + 3) lv st (xwi w 0 25 v) r) : xJ ι M lM b pc lv (.int v :: .ref 0 :: st) w r :=
  xj_pf (v := .int v) (w2 := xwi w 0 25 v) (ty := .int) (ci := 0) (j := 25) (C := RX12) (T := TX12) (N := 48) hd rfl rfl xkX12 (Nat.le_of_ble_eq_true rfl) (by rw [hM]; exact tw1927) rfl (by decide +kernel) (fun _ => rfl) (fun _ => rfl) (xput_i (Nat.le_of_ble_eq_true rfl) rfl) kk
theorem pfX12_94 {ρ : Type} {ι : ρ → xO × xW} {M : xMd} {b : Nat × Nat} {pc : Nat} {lv : List (Nat × Value)} {st : List Value} {w : xW} {r : Option ρ} {v : Int32} (hd : decode M.2.1 pc = .ok (.putfield 94, 3)) (hM : M.1.cls = "BundleFenceModel") (kk : xJ ι M lM b (pc + 3) lv st (xwi w 0 26 v) r) : xJ ι M lM b pc lv (.int v :: .ref 0 :: st) w r :=
  xj_pf (v := .int v) (w2 := xwi w 0 26 v) (ty := .int) (ci := 0) (j := 26) (C := RX12) (T := TX12) (N := 48) hd rfl rfl xkX12 (Nat.le_of_ble_eq_true rfl) (by rw [hM]; exact tw1928) rfl (by decide +kernel) (fun _ => rfl) (fun _ => rfl) (xput_i (Nat.le_of_ble_eq_true rfl) rfl) kk
theorem pfX12_97 {ρ : Type} {ι : ρ → xO × xW} {M : xMd} {b : Nat × Nat} {pc : Nat} {lv : List (Nat × Value)} {st : List Value} {w : xW} {r : Option ρ} {v : Int32} (hd : decode M.2.1 pc = .ok (.putfield 97, 3)) (hM : M.1.cls = "BundleFenceModel") (kk : xJ ι M lM b (pc + 3) lv st (xwi w 0 27 v) r) : xJ ι M lM b pc lv (.int v :: .ref 0 :: st) w r :=
  xj_pf (v := .int v) (w2 := xwi w 0 27 v) (ty := .int) (ci := 0) (j := 27) (C := RX12) (T := TX12) (N := 48) hd rfl rfl xkX12 (Nat.le_of_ble_eq_true rfl) (by rw [hM]; exact tw1929) rfl (by decide +kernel) (fun _ => rfl) (fun _ => rfl) (xput_i (Nat.le_of_ble_eq_true rfl) rfl) kk
theorem mkX12_next : xMkV mX12_next 0 := ⟨⟨tw2066, tw169, ⟨by decide, by decide⟩, by decide +kernel⟩, tw2065, tw90⟩
theorem mkX12_nextLong : xMkV mX12_nextLong 0 := ⟨⟨tw2082, tw169, ⟨by decide, by decide⟩, by decide +kernel⟩, tw2081, tw94⟩
theorem mkX12_signedByte : xMkV mX12_signedByte 0 := ⟨⟨tw2078, tw169, ⟨by decide, by decide⟩, by decide +kernel⟩, tw2077, tw93⟩
theorem mkX12_number : xMkV mX12_number 1 := ⟨⟨tw2074, tw169, ⟨by decide, by decide⟩, by decide +kernel⟩, tw2073, tw92⟩
theorem mkX12_operand : xMkV mX12_operand 0 := ⟨⟨tw2086, tw169, ⟨by decide, by decide⟩, by decide +kernel⟩, tw2085, tw95⟩
theorem mkX12_is : xMkV mX12_is 3 := ⟨⟨tw2070, tw169, ⟨by decide, by decide⟩, by decide +kernel⟩, tw2069, tw91⟩
theorem mkX12_digits : xMkV mX12_digits 1 := ⟨⟨tw2098, tw169, ⟨by decide, by decide⟩, by decide +kernel⟩, tw2097, tw98⟩
theorem mkX12_place : xMkV mX12_place 1 := ⟨⟨tw2090, tw169, ⟨by decide, by decide⟩, by decide +kernel⟩, tw2089, tw96⟩
theorem mkX12_takeOther : xMkV mX12_takeOther 2 := ⟨⟨tw2106, tw169, ⟨by decide, by decide⟩, by decide +kernel⟩, tw2105, tw100⟩
theorem mkX12_takeWord : xMkV mX12_takeWord 0 := ⟨⟨tw2102, tw169, ⟨by decide, by decide⟩, by decide +kernel⟩, tw2101, tw99⟩
theorem mkX12_takeSecond : xMkV mX12_takeSecond 0 := ⟨⟨tw2094, tw169, ⟨by decide, by decide⟩, by decide +kernel⟩, tw2093, tw97⟩
theorem mkX12_writesFirst : xMkV mX12_writesFirst 0 := ⟨⟨tw2135, tw169, ⟨by decide, by decide⟩, by decide +kernel⟩, tw2134, tw107⟩
theorem mkX12_hasE : xMkV mX12_hasE 0 := ⟨⟨tw2131, tw169, ⟨by decide, by decide⟩, by decide +kernel⟩, tw2130, tw106⟩
theorem mkX12_writesE : xMkV mX12_writesE 0 := ⟨⟨tw2127, tw169, ⟨by decide, by decide⟩, by decide +kernel⟩, tw2126, tw105⟩
theorem mkX12_writesG : xMkV mX12_writesG 0 := ⟨⟨tw2123, tw169, ⟨by decide, by decide⟩, by decide +kernel⟩, tw2122, tw104⟩
theorem mkX12_isIn : xMkS mX12_isIn 3 := ⟨⟨tw2152, tw169, ⟨by decide, by decide⟩, by decide +kernel⟩, tw2151⟩
theorem mkX12_writesStack : xMkV mX12_writesStack 0 := ⟨⟨tw2119, tw169, ⟨by decide, by decide⟩, by decide +kernel⟩, tw2118, tw103⟩
theorem mkX12_isNear : xMkV mX12_isNear 0 := ⟨⟨tw2147, tw169, ⟨by decide, by decide⟩, by decide +kernel⟩, tw2146, tw110⟩
theorem mkX12_writesMemory : xMkV mX12_writesMemory 0 := ⟨⟨tw2139, tw169, ⟨by decide, by decide⟩, by decide +kernel⟩, tw2138, tw108⟩
theorem mkX12_take : xMkV mX12_take 1 := ⟨⟨tw2062, tw169, ⟨by decide, by decide⟩, by decide +kernel⟩, tw2061, tw89⟩
theorem mkX12_isFenceOr : xMkV mX12_isFenceOr 1 := ⟨⟨tw2143, tw169, ⟨by decide, by decide⟩, by decide +kernel⟩, tw2142, tw109⟩
theorem mkX12_isFenceAnd : xMkV mX12_isFenceAnd 1 := ⟨⟨tw2114, tw169, ⟨by decide, by decide⟩, by decide +kernel⟩, tw2113, tw102⟩
theorem mkX12_bad : xMkV mX12_bad 2 := ⟨⟨tw2058, tw169, ⟨by decide, by decide⟩, by decide +kernel⟩, tw2057, tw88⟩
theorem mkX12_isGate : xMkV mX12_isGate 1 := ⟨⟨tw2164, tw169, ⟨by decide, by decide⟩, by decide +kernel⟩, tw2163, tw112⟩
theorem mkX12_faultAt : xMkV mX12_faultAt 2 := ⟨⟨tw2156, tw169, ⟨by decide, by decide⟩, by decide +kernel⟩, tw2155, tw111⟩
theorem mkX12_longer : xMkV mX12_longer 2 := ⟨⟨tw2110, tw169, ⟨by decide, by decide⟩, by decide +kernel⟩, tw2109, tw101⟩
theorem mkX12_say : xMkV mX12_say 1 := ⟨⟨tw2198, tw169, ⟨by decide, by decide⟩, by decide +kernel⟩, tw2197, tw114⟩
theorem mkX12_sayWord : xMkV mX12_sayWord 2 := ⟨⟨tw2192, tw169, ⟨by decide, by decide⟩, by decide +kernel⟩, tw2191, tw113⟩
theorem mkX12_sayNumber : xMkV mX12_sayNumber 1 := ⟨⟨tw2218, tw169, ⟨by decide, by decide⟩, by decide +kernel⟩, tw2217, tw118⟩
theorem mkX12_sayRegister : xMkV mX12_sayRegister 2 := ⟨⟨tw2211, tw169, ⟨by decide, by decide⟩, by decide +kernel⟩, tw2210, tw117⟩
theorem mkX12_sayE : xMkV mX12_sayE 0 := ⟨⟨tw2207, tw169, ⟨by decide, by decide⟩, by decide +kernel⟩, tw2206, tw116⟩
theorem mkX12_sayOperands : xMkV mX12_sayOperands 0 := ⟨⟨tw2203, tw169, ⟨by decide, by decide⟩, by decide +kernel⟩, tw2202, tw115⟩
theorem mkX12_byteAt : xMkV mX12_byteAt 1 := ⟨⟨tw2259, tw169, ⟨by decide, by decide⟩, by decide +kernel⟩, tw2258, tw122⟩
theorem mkX12_inImage : xMkV mX12_inImage 2 := ⟨⟨tw2255, tw169, ⟨by decide, by decide⟩, by decide +kernel⟩, tw2254, tw121⟩
theorem mkX12_inData : xMkV mX12_inData 2 := ⟨⟨tw2251, tw169, ⟨by decide, by decide⟩, by decide +kernel⟩, tw2250, tw120⟩
theorem mkX12_read : xMkV mX12_read 2 := ⟨⟨tw2284, tw169, ⟨by decide, by decide⟩, by decide +kernel⟩, tw2283, tw125⟩
theorem mkX12_part : xMkV mX12_part 2 := ⟨⟨tw2297, tw169, ⟨by decide, by decide⟩, by decide +kernel⟩, tw2296, tw128⟩
theorem mkX12_address : xMkV mX12_address 0 := ⟨⟨tw2305, tw169, ⟨by decide, by decide⟩, by decide +kernel⟩, tw2304, tw130⟩
theorem mkX12_write : xMkV mX12_write 3 := ⟨⟨tw2349, tw169, ⟨by decide, by decide⟩, by decide +kernel⟩, tw2348, tw139⟩
theorem mkX12_setRegister : xMkV mX12_setRegister 3 := ⟨⟨tw2339, tw169, ⟨by decide, by decide⟩, by decide +kernel⟩, tw2338, tw137⟩
theorem mkX12_top : xMkS mX12_top 2 := ⟨⟨tw2323, tw169, ⟨by decide, by decide⟩, by decide +kernel⟩, tw2322⟩
theorem mkX12_mask : xMkS mX12_mask 1 := ⟨⟨tw2320, tw169, ⟨by decide, by decide⟩, by decide +kernel⟩, tw2319⟩
theorem mkX12_byResult : xMkV mX12_byResult 2 := ⟨⟨tw2327, tw169, ⟨by decide, by decide⟩, by decide +kernel⟩, tw2326, tw134⟩
theorem mkX12_sum : xMkV mX12_sum 4 := ⟨⟨tw2317, tw169, ⟨by decide, by decide⟩, by decide +kernel⟩, tw2316, tw133⟩
theorem mkX12_difference : xMkV mX12_difference 4 := ⟨⟨tw2331, tw169, ⟨by decide, by decide⟩, by decide +kernel⟩, tw2330, tw135⟩
theorem mkX12_getE : xMkV mX12_getE 0 := ⟨⟨tw2301, tw169, ⟨by decide, by decide⟩, by decide +kernel⟩, tw2300, tw129⟩
theorem mkX12_setE : xMkV mX12_setE 1 := ⟨⟨tw2345, tw169, ⟨by decide, by decide⟩, by decide +kernel⟩, tw2344, tw138⟩
theorem mkX12_shifted : xMkV mX12_shifted 2 := ⟨⟨tw2359, tw169, ⟨by decide, by decide⟩, by decide +kernel⟩, tw2358, tw141⟩
theorem mkX12_traps : xMkV mX12_traps 0 := ⟨⟨tw2391, tw169, ⟨by decide, by decide⟩, by decide +kernel⟩, tw2390, tw149⟩
theorem mkX12_holds : xMkV mX12_holds 1 := ⟨⟨tw2379, tw169, ⟨by decide, by decide⟩, by decide +kernel⟩, tw2378, tw146⟩
theorem mkX12_doubles : xMkV mX12_doubles 0 := ⟨⟨tw2399, tw169, ⟨by decide, by decide⟩, by decide +kernel⟩, tw2398, tw151⟩
theorem mkX12_doRest : xMkV mX12_doRest 1 := ⟨⟨tw2395, tw169, ⟨by decide, by decide⟩, by decide +kernel⟩, tw2394, tw150⟩
theorem mkX12_setFirst : xMkV mX12_setFirst 1 := ⟨⟨tw2335, tw169, ⟨by decide, by decide⟩, by decide +kernel⟩, tw2334, tw136⟩
theorem mkX12_firstOf : xMkV mX12_firstOf 0 := ⟨⟨tw2293, tw169, ⟨by decide, by decide⟩, by decide +kernel⟩, tw2292, tw127⟩
theorem mkX12_push : xMkV mX12_push 1 := ⟨⟨tw2367, tw169, ⟨by decide, by decide⟩, by decide +kernel⟩, tw2366, tw143⟩
theorem mkX12_pop : xMkV mX12_pop 0 := ⟨⟨tw2371, tw169, ⟨by decide, by decide⟩, by decide +kernel⟩, tw2370, tw144⟩
theorem mkX12_product : xMkV mX12_product 2 := ⟨⟨tw2375, tw169, ⟨by decide, by decide⟩, by decide +kernel⟩, tw2374, tw145⟩
theorem mkX12_eight : xMkV mX12_eight 4 := ⟨⟨tw2313, tw169, ⟨by decide, by decide⟩, by decide +kernel⟩, tw2312, tw132⟩
theorem mkX12_secondOf : xMkV mX12_secondOf 0 := ⟨⟨tw2309, tw169, ⟨by decide, by decide⟩, by decide +kernel⟩, tw2308, tw131⟩
theorem mkX12_wholeProduct : xMkV mX12_wholeProduct 0 := ⟨⟨tw2383, tw169, ⟨by decide, by decide⟩, by decide +kernel⟩, tw2382, tw147⟩
theorem mkX12_quotient : xMkV mX12_quotient 0 := ⟨⟨tw2387, tw169, ⟨by decide, by decide⟩, by decide +kernel⟩, tw2386, tw148⟩
theorem mkX12_doOther : xMkV mX12_doOther 1 := ⟨⟨tw2363, tw169, ⟨by decide, by decide⟩, by decide +kernel⟩, tw2362, tw142⟩
theorem mkX12_shifts : xMkV mX12_shifts 0 := ⟨⟨tw2355, tw169, ⟨by decide, by decide⟩, by decide +kernel⟩, tw2354, tw140⟩
theorem mkX12_doOne : xMkV mX12_doOne 0 := ⟨⟨tw2289, tw169, ⟨by decide, by decide⟩, by decide +kernel⟩, tw2288, tw126⟩
theorem mkX12_serve : xMkV mX12_serve 1 := ⟨⟨tw2280, tw169, ⟨by decide, by decide⟩, by decide +kernel⟩, tw2279, tw124⟩
theorem mkX12_change : xMkV mX12_change 0 := ⟨⟨tw2234, tw169, ⟨by decide, by decide⟩, by decide +kernel⟩, tw2233, tw119⟩
theorem mkX12_step : xMkV mX12_step 0 := ⟨⟨tw2276, tw169, ⟨by decide, by decide⟩, by decide +kernel⟩, tw2275, tw123⟩
