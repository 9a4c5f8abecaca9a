/-! the class: its methods by name, the words that they need, its fields one by one -/
abbrev yX6_clear : MethodName := ⟨"BundleFence$Instruction", "clear", "()V"⟩
abbrev mX6_clear : xMd := (yX6_clear, cX6_clear, 1, none, { frames := 0, cells := 0, slots := 0, locals := 0 })
abbrev yX4_has : MethodName := ⟨"BundleFence$Image", "has", "(I)Z"⟩
abbrev mX4_has : xMd := (yX4_has, cX4_has, 2, (some .boolean), { frames := 0, cells := 0, slots := 0, locals := 0 })
abbrev yX1_nextByte : MethodName := ⟨"BundleFence$Decoder", "nextByte", "()I"⟩
abbrev mX1_nextByte : xMd := (yX1_nextByte, cX1_nextByte, 2, (some .int), { frames := 0, cells := 0, slots := 0, locals := 0 })
abbrev yX1_withE : MethodName := ⟨"BundleFence$Decoder", "withE", "(LBundleFence$Op;II)V"⟩
abbrev mX1_withE : xMd := (yX1_withE, cX1_withE, 4, none, { frames := 0, cells := 0, slots := 0, locals := 0 })
abbrev yX1_plain : MethodName := ⟨"BundleFence$Decoder", "plain", "(LBundleFence$Op;III)V"⟩
abbrev mX1_plain : xMd := (yX1_plain, cX1_plain, 5, none, { frames := 0, cells := 0, slots := 0, locals := 0 })
abbrev yX1_chooseLongMore : MethodName := ⟨"BundleFence$Decoder", "chooseLongMore", "(I)V"⟩
abbrev mX1_chooseLongMore : xMd := (yX1_chooseLongMore, cX1_chooseLongMore, 2, none, { frames := 1, cells := 0, slots := 0, locals := 23 })
abbrev yX1_withRegister : MethodName := ⟨"BundleFence$Decoder", "withRegister", "(LBundleFence$Op;I)V"⟩
abbrev mX1_withRegister : xMd := (yX1_withRegister, cX1_withRegister, 3, none, { frames := 1, cells := 0, slots := 0, locals := 24 })
abbrev yX1_chooseSwap : MethodName := ⟨"BundleFence$Decoder", "chooseSwap", "(I)V"⟩
abbrev mX1_chooseSwap : xMd := (yX1_chooseSwap, cX1_chooseSwap, 2, none, { frames := 2, cells := 0, slots := 0, locals := 46 })
abbrev yX1_chooseLong : MethodName := ⟨"BundleFence$Decoder", "chooseLong", "(I)V"⟩
abbrev mX1_chooseLong : xMd := (yX1_chooseLong, cX1_chooseLong, 2, none, { frames := 3, cells := 0, slots := 0, locals := 67 })
abbrev yX1_chooseWord : MethodName := ⟨"BundleFence$Decoder", "chooseWord", "(I)V"⟩
abbrev mX1_chooseWord : xMd := (yX1_chooseWord, cX1_chooseWord, 2, none, { frames := 1, cells := 0, slots := 0, locals := 24 })
abbrev yX1_choosePush : MethodName := ⟨"BundleFence$Decoder", "choosePush", "(I)V"⟩
abbrev mX1_choosePush : xMd := (yX1_choosePush, cX1_choosePush, 3, none, { frames := 1, cells := 0, slots := 0, locals := 24 })
abbrev yX1_chooseEight : MethodName := ⟨"BundleFence$Decoder", "chooseEight", "(LBundleFence$Op;I)V"⟩
abbrev mX1_chooseEight : xMd := (yX1_chooseEight, cX1_chooseEight, 4, none, { frames := 1, cells := 0, slots := 0, locals := 24 })
abbrev yX1_chooseLow : MethodName := ⟨"BundleFence$Decoder", "chooseLow", "(I)V"⟩
abbrev mX1_chooseLow : xMd := (yX1_chooseLow, cX1_chooseLow, 3, none, { frames := 2, cells := 0, slots := 0, locals := 47 })
abbrev yX1_withDigit : MethodName := ⟨"BundleFence$Decoder", "withDigit", "(III)V"⟩
abbrev mX1_withDigit : xMd := (yX1_withDigit, cX1_withDigit, 4, none, { frames := 0, cells := 0, slots := 0, locals := 0 })
abbrev yX1_chooseGroup : MethodName := ⟨"BundleFence$Decoder", "chooseGroup", "(II)V"⟩
abbrev mX1_chooseGroup : xMd := (yX1_chooseGroup, cX1_chooseGroup, 3, none, { frames := 1, cells := 0, slots := 0, locals := 23 })
abbrev yX1_chooseMove : MethodName := ⟨"BundleFence$Decoder", "chooseMove", "(II)V"⟩
abbrev mX1_chooseMove : xMd := (yX1_chooseMove, cX1_chooseMove, 3, none, { frames := 1, cells := 0, slots := 0, locals := 23 })
abbrev yX1_chooseXchg : MethodName := ⟨"BundleFence$Decoder", "chooseXchg", "(I)V"⟩
abbrev mX1_chooseXchg : xMd := (yX1_chooseXchg, cX1_chooseXchg, 2, none, { frames := 1, cells := 0, slots := 0, locals := 24 })
abbrev yX1_chooseShiftOrMove : MethodName := ⟨"BundleFence$Decoder", "chooseShiftOrMove", "(II)V"⟩
abbrev mX1_chooseShiftOrMove : xMd := (yX1_chooseShiftOrMove, cX1_chooseShiftOrMove, 3, none, { frames := 1, cells := 0, slots := 0, locals := 23 })
abbrev yX1_chooseJump : MethodName := ⟨"BundleFence$Decoder", "chooseJump", "(I)V"⟩
abbrev mX1_chooseJump : xMd := (yX1_chooseJump, cX1_chooseJump, 2, none, { frames := 1, cells := 0, slots := 0, locals := 24 })
abbrev yX1_chooseLast : MethodName := ⟨"BundleFence$Decoder", "chooseLast", "(II)V"⟩
abbrev mX1_chooseLast : xMd := (yX1_chooseLast, cX1_chooseLast, 3, none, { frames := 1, cells := 0, slots := 0, locals := 24 })
abbrev yX1_chooseHigh : MethodName := ⟨"BundleFence$Decoder", "chooseHigh", "(II)V"⟩
abbrev mX1_chooseHigh : xMd := (yX1_chooseHigh, cX1_chooseHigh, 3, none, { frames := 2, cells := 0, slots := 0, locals := 46 })
abbrev yX1_nextNumber : MethodName := ⟨"BundleFence$Decoder", "nextNumber", "(I)I"⟩
abbrev mX1_nextNumber : xMd := (yX1_nextNumber, cX1_nextNumber, 4, (some .int), { frames := 1, cells := 0, slots := 0, locals := 21 })
abbrev yX1_readE : MethodName := ⟨"BundleFence$Decoder", "readE", "()V"⟩
abbrev mX1_readE : xMd := (yX1_readE, cX1_readE, 5, none, { frames := 2, cells := 0, slots := 0, locals := 44 })
abbrev yX1_chooseSingle : MethodName := ⟨"BundleFence$Decoder", "chooseSingle", "(I)V"⟩
abbrev mX1_chooseSingle : xMd := (yX1_chooseSingle, cX1_chooseSingle, 2, none, { frames := 0, cells := 0, slots := 0, locals := 0 })
abbrev yX1_chooseCounting : MethodName := ⟨"BundleFence$Decoder", "chooseCounting", "(I)V"⟩
abbrev mX1_chooseCounting : xMd := (yX1_chooseCounting, cX1_chooseCounting, 2, none, { frames := 0, cells := 0, slots := 0, locals := 0 })
abbrev yX1_chooseByDigit : MethodName := ⟨"BundleFence$Decoder", "chooseByDigit", "()V"⟩
abbrev mX1_chooseByDigit : xMd := (yX1_chooseByDigit, cX1_chooseByDigit, 2, none, { frames := 1, cells := 0, slots := 0, locals := 21 })
abbrev yX1_decode : MethodName := ⟨"BundleFence$Decoder", "decode", "(I)I"⟩
abbrev mX1_decode : xMd := (yX1_decode, cX1_decode, 3, (some .int), { frames := 4, cells := 0, slots := 0, locals := 88 })
abbrev yX2_has : MethodName := ⟨"BundleFence$Flags", "has", "(I)Z"⟩
abbrev mX2_has : xMd := (yX2_has, cX2_has, 2, (some .boolean), { frames := 0, cells := 0, slots := 0, locals := 0 })
abbrev yX2_set : MethodName := ⟨"BundleFence$Flags", "set", "(IZ)V"⟩
abbrev mX2_set : xMd := (yX2_set, cX2_set, 3, none, { frames := 0, cells := 0, slots := 0, locals := 0 })
abbrev yX2_holds : MethodName := ⟨"BundleFence$Flags", "holds", "(I)Z"⟩
abbrev mX2_holds : xMd := (yX2_holds, cX2_holds, 3, (some .boolean), { frames := 1, cells := 0, slots := 0, locals := 21 })
abbrev yX11_topOf : MethodName := ⟨"BundleFence", "topOf", "(I)I"⟩
abbrev mX11_topOf : xMd := (yX11_topOf, cX11_topOf, 1, (some .int), { frames := 0, cells := 0, slots := 0, locals := 0 })
abbrev yJ6_bitCount_0f7a4 : MethodName := ⟨"java/lang/Integer", "bitCount", "(I)I"⟩
abbrev mJ6_bitCount_0f7a4 : xMd := (yJ6_bitCount_0f7a4, cJ6_bitCount_0f7a4, 1, (some .int), { frames := 0, cells := 0, slots := 0, locals := 0 })
abbrev yX2_tellResult : MethodName := ⟨"BundleFence$Flags", "tellResult", "(II)V"⟩
abbrev mX2_tellResult : xMd := (yX2_tellResult, cX2_tellResult, 4, none, { frames := 1, cells := 0, slots := 0, locals := 20 })
abbrev yX2_tellCarry : MethodName := ⟨"BundleFence$Flags", "tellCarry", "(ZZ)V"⟩
abbrev mX2_tellCarry : xMd := (yX2_tellCarry, cX2_tellCarry, 3, none, { frames := 0, cells := 0, slots := 0, locals := 0 })
abbrev yX11_maskOf : MethodName := ⟨"BundleFence", "maskOf", "(I)I"⟩
abbrev mX11_maskOf : xMd := (yX11_maskOf, cX11_maskOf, 1, (some .int), { frames := 0, cells := 0, slots := 0, locals := 0 })
abbrev yX11_unsigned : MethodName := ⟨"BundleFence", "unsigned", "(I)J"⟩
abbrev mX11_unsigned : xMd := (yX11_unsigned, cX11_unsigned, 1, (some .long), { frames := 0, cells := 0, slots := 0, locals := 0 })
abbrev yX2_add : MethodName := ⟨"BundleFence$Flags", "add", "(IIII)I"⟩
abbrev mX2_add : xMd := (yX2_add, cX2_add, 9, (some .int), { frames := 2, cells := 0, slots := 0, locals := 43 })
abbrev yX2_subtract : MethodName := ⟨"BundleFence$Flags", "subtract", "(IIII)I"⟩
abbrev mX2_subtract : xMd := (yX2_subtract, cX2_subtract, 9, (some .int), { frames := 2, cells := 0, slots := 0, locals := 43 })
abbrev yX2_bitwise : MethodName := ⟨"BundleFence$Flags", "bitwise", "(II)I"⟩
abbrev mX2_bitwise : xMd := (yX2_bitwise, cX2_bitwise, 3, (some .int), { frames := 2, cells := 0, slots := 0, locals := 43 })
abbrev yX2_two : MethodName := ⟨"BundleFence$Flags", "two", "(LBundleFence$Op;III)I"⟩
abbrev mX2_two : xMd := (yX2_two, cX2_two, 6, (some .int), { frames := 3, cells := 0, slots := 0, locals := 71 })
abbrev yX2_single : MethodName := ⟨"BundleFence$Flags", "single", "(LBundleFence$Op;II)I"⟩
abbrev mX2_single : xMd := (yX2_single, cX2_single, 6, (some .int), { frames := 3, cells := 0, slots := 0, locals := 71 })
abbrev yX2_shiftLeft : MethodName := ⟨"BundleFence$Flags", "shiftLeft", "(LBundleFence$Op;II)I"⟩
abbrev mX2_shiftLeft : xMd := (yX2_shiftLeft, cX2_shiftLeft, 8, (some .int), { frames := 1, cells := 0, slots := 0, locals := 22 })
abbrev yX2_shiftRight : MethodName := ⟨"BundleFence$Flags", "shiftRight", "(LBundleFence$Op;II)I"⟩
abbrev mX2_shiftRight : xMd := (yX2_shiftRight, cX2_shiftRight, 10, (some .int), { frames := 1, cells := 0, slots := 0, locals := 22 })
abbrev yX2_shift : MethodName := ⟨"BundleFence$Flags", "shift", "(LBundleFence$Op;III)I"⟩
abbrev mX2_shift : xMd := (yX2_shift, cX2_shift, 7, (some .int), { frames := 2, cells := 0, slots := 0, locals := 51 })
abbrev yX2_shiftDouble : MethodName := ⟨"BundleFence$Flags", "shiftDouble", "(LBundleFence$Op;III)I"⟩
abbrev mX2_shiftDouble : xMd := (yX2_shiftDouble, cX2_shiftDouble, 8, (some .int), { frames := 2, cells := 0, slots := 0, locals := 43 })
abbrev yX3_restart : MethodName := ⟨"BundleFence$Host", "restart", "()V"⟩
abbrev mX3_restart : xMd := (yX3_restart, cX3_restart, 1, none, { frames := 0, cells := 0, slots := 0, locals := 0 })
abbrev yX3_outputAt : MethodName := ⟨"BundleFence$Host", "outputAt", "(I)I"⟩
abbrev mX3_outputAt : xMd := (yX3_outputAt, cX3_outputAt, 2, (some .int), { frames := 0, cells := 0, slots := 0, locals := 0 })
abbrev yX3_take : MethodName := ⟨"BundleFence$Host", "take", "(IJ)V"⟩
abbrev mX3_take : xMd := (yX3_take, cX3_take, 5, none, { frames := 0, cells := 0, slots := 0, locals := 0 })
abbrev yX8_isWithin : MethodName := ⟨"BundleFence$Memory", "isWithin", "(IJII)Z"⟩
abbrev mX8_isWithin : xMd := (yX8_isWithin, cX8_isWithin, 7, (some .boolean), { frames := 0, cells := 0, slots := 0, locals := 0 })
abbrev yX8_inData : MethodName := ⟨"BundleFence$Memory", "inData", "(IJ)Z"⟩
abbrev mX8_inData : xMd := (yX8_inData, cX8_inData, 3, (some .boolean), { frames := 1, cells := 0, slots := 0, locals := 26 })
abbrev yX8_dataAt : MethodName := ⟨"BundleFence$Memory", "dataAt", "(I)I"⟩
abbrev mX8_dataAt : xMd := (yX8_dataAt, cX8_dataAt, 2, (some .int), { frames := 0, cells := 0, slots := 0, locals := 0 })
abbrev yX3_writeOut : MethodName := ⟨"BundleFence$Host", "writeOut", "(II)I"⟩
abbrev mX3_writeOut : xMd := (yX3_writeOut, cX3_writeOut, 5, (some .int), { frames := 1, cells := 0, slots := 0, locals := 26 })
abbrev yX8_setData : MethodName := ⟨"BundleFence$Memory", "setData", "(II)V"⟩
abbrev mX8_setData : xMd := (yX8_setData, cX8_setData, 3, none, { frames := 0, cells := 0, slots := 0, locals := 0 })
abbrev yX3_readIn : MethodName := ⟨"BundleFence$Host", "readIn", "(II)I"⟩
abbrev mX3_readIn : xMd := (yX3_readIn, cX3_readIn, 5, (some .int), { frames := 1, cells := 0, slots := 0, locals := 26 })
abbrev yX3_sum : MethodName := ⟨"BundleFence$Host", "sum", "(II)I"⟩
abbrev mX3_sum : xMd := (yX3_sum, cX3_sum, 5, (some .int), { frames := 1, cells := 0, slots := 0, locals := 21 })
abbrev yX3_serveBytes : MethodName := ⟨"BundleFence$Host", "serveBytes", "(III)I"⟩
abbrev mX3_serveBytes : xMd := (yX3_serveBytes, cX3_serveBytes, 4, (some .int), { frames := 2, cells := 0, slots := 0, locals := 50 })
abbrev yX3_serve : MethodName := ⟨"BundleFence$Host", "serve", "(IIIJ)I"⟩
abbrev mX3_serve : xMd := (yX3_serve, cX3_serve, 6, (some .int), { frames := 3, cells := 0, slots := 0, locals := 73 })
abbrev yX4_append : MethodName := ⟨"BundleFence$Image", "append", "(IJ)V"⟩
abbrev mX4_append : xMd := (yX4_append, cX4_append, 5, none, { frames := 0, cells := 0, slots := 0, locals := 0 })
abbrev yX5_forget : MethodName := ⟨"BundleFence$Inspector", "forget", "()V"⟩
abbrev mX5_forget : xMd := (yX5_forget, cX5_forget, 1, none, { frames := 0, cells := 0, slots := 0, locals := 0 })
abbrev yX5_markAt : MethodName := ⟨"BundleFence$Inspector", "markAt", "(I)I"⟩
abbrev mX5_markAt : xMd := (yX5_markAt, cX5_markAt, 2, (some .int), { frames := 0, cells := 0, slots := 0, locals := 0 })
abbrev yX6_startsWithG : MethodName := ⟨"BundleFence$Instruction", "startsWithG", "()Z"⟩
abbrev mX6_startsWithG : xMd := (yX6_startsWithG, cX6_startsWithG, 1, (some .boolean), { frames := 0, cells := 0, slots := 0, locals := 0 })
abbrev yX6_writesStackPointer : MethodName := ⟨"BundleFence$Instruction", "writesStackPointer", "()Z"⟩
abbrev mX6_writesStackPointer : xMd := (yX6_writesStackPointer, cX6_writesStackPointer, 3, (some .boolean), { frames := 1, cells := 0, slots := 0, locals := 20 })
abbrev yX6_writesMemory : MethodName := ⟨"BundleFence$Instruction", "writesMemory", "()Z"⟩
abbrev mX6_writesMemory : xMd := (yX6_writesMemory, cX6_writesMemory, 1, (some .boolean), { frames := 1, cells := 0, slots := 0, locals := 20 })
abbrev yX6_isNear : MethodName := ⟨"BundleFence$Instruction", "isNear", "()Z"⟩
abbrev mX6_isNear : xMd := (yX6_isNear, cX6_isNear, 1, (some .boolean), { frames := 0, cells := 0, slots := 0, locals := 0 })
abbrev yX6_isFixedInData : MethodName := ⟨"BundleFence$Instruction", "isFixedInData", "()Z"⟩
abbrev mX6_isFixedInData : xMd := (yX6_isFixedInData, cX6_isFixedInData, 1, (some .boolean), { frames := 2, cells := 0, slots := 0, locals := 48 })
abbrev yX6_isMask : MethodName := ⟨"BundleFence$Instruction", "isMask", "(LBundleFence$Op;II)Z"⟩
abbrev mX6_isMask : xMd := (yX6_isMask, cX6_isMask, 4, (some .boolean), { frames := 0, cells := 0, slots := 0, locals := 0 })
abbrev yX6_isRegisterJump : MethodName := ⟨"BundleFence$Instruction", "isRegisterJump", "()Z"⟩
abbrev mX6_isRegisterJump : xMd := (yX6_isRegisterJump, cX6_isRegisterJump, 1, (some .boolean), { frames := 0, cells := 0, slots := 0, locals := 0 })
abbrev yX5_traitsOfIt : MethodName := ⟨"BundleFence$Inspector", "traitsOfIt", "()I"⟩
abbrev mX5_traitsOfIt : xMd := (yX5_traitsOfIt, cX5_traitsOfIt, 2, (some .int), { frames := 3, cells := 0, slots := 0, locals := 68 })
abbrev yX5_refuse : MethodName := ⟨"BundleFence$Inspector", "refuse", "(II)I"⟩
abbrev mX5_refuse : xMd := (yX5_refuse, cX5_refuse, 3, (some .int), { frames := 0, cells := 0, slots := 0, locals := 0 })
abbrev yX5_lengthAt : MethodName := ⟨"BundleFence$Inspector", "lengthAt", "(I)I"⟩
abbrev mX5_lengthAt : xMd := (yX5_lengthAt, cX5_lengthAt, 2, (some .int), { frames := 0, cells := 0, slots := 0, locals := 0 })
abbrev yX5_leavesBundle : MethodName := ⟨"BundleFence$Inspector", "leavesBundle", "(II)Z"⟩
abbrev mX5_leavesBundle : xMd := (yX5_leavesBundle, cX5_leavesBundle, 2, (some .boolean), { frames := 0, cells := 0, slots := 0, locals := 0 })
abbrev yX5_mark : MethodName := ⟨"BundleFence$Inspector", "mark", "(II)V"⟩
abbrev mX5_mark : xMd := (yX5_mark, cX5_mark, 3, none, { frames := 0, cells := 0, slots := 0, locals := 0 })
abbrev yX5_is : MethodName := ⟨"BundleFence$Inspector", "is", "(II)Z"⟩
abbrev mX5_is : xMd := (yX5_is, cX5_is, 3, (some .boolean), { frames := 0, cells := 0, slots := 0, locals := 0 })
abbrev yX5_isOf : MethodName := ⟨"BundleFence$Inspector", "isOf", "(III)Z"⟩
abbrev mX5_isOf : xMd := (yX5_isOf, cX5_isOf, 4, (some .boolean), { frames := 0, cells := 0, slots := 0, locals := 0 })
abbrev yX5_hasFences : MethodName := ⟨"BundleFence$Inspector", "hasFences", "(II)Z"⟩
abbrev mX5_hasFences : xMd := (yX5_hasFences, cX5_hasFences, 3, (some .boolean), { frames := 1, cells := 0, slots := 0, locals := 23 })
abbrev yX5_markStackUnit : MethodName := ⟨"BundleFence$Inspector", "markStackUnit", "(II)I"⟩
abbrev mX5_markStackUnit : xMd := (yX5_markStackUnit, cX5_markStackUnit, 4, (some .int), { frames := 2, cells := 0, slots := 0, locals := 45 })
abbrev yX5_registerAt : MethodName := ⟨"BundleFence$Inspector", "registerAt", "(I)I"⟩
abbrev mX5_registerAt : xMd := (yX5_registerAt, cX5_registerAt, 2, (some .int), { frames := 0, cells := 0, slots := 0, locals := 0 })
abbrev yX5_markJumpUnit : MethodName := ⟨"BundleFence$Inspector", "markJumpUnit", "(II)I"⟩
abbrev mX5_markJumpUnit : xMd := (yX5_markJumpUnit, cX5_markJumpUnit, 5, (some .int), { frames := 1, cells := 0, slots := 0, locals := 23 })
abbrev yX5_markWriteUnit : MethodName := ⟨"BundleFence$Inspector", "markWriteUnit", "(I)I"⟩
abbrev mX5_markWriteUnit : xMd := (yX5_markWriteUnit, cX5_markWriteUnit, 6, (some .int), { frames := 2, cells := 0, slots := 0, locals := 45 })
abbrev yX5_checkAlone : MethodName := ⟨"BundleFence$Inspector", "checkAlone", "(II)I"⟩
abbrev mX5_checkAlone : xMd := (yX5_checkAlone, cX5_checkAlone, 3, (some .int), { frames := 1, cells := 0, slots := 0, locals := 23 })
abbrev yX5_markUnit : MethodName := ⟨"BundleFence$Inspector", "markUnit", "(I)I"⟩
abbrev mX5_markUnit : xMd := (yX5_markUnit, cX5_markUnit, 3, (some .int), { frames := 3, cells := 0, slots := 0, locals := 70 })
abbrev yX5_markUnits : MethodName := ⟨"BundleFence$Inspector", "markUnits", "()I"⟩
abbrev mX5_markUnits : xMd := (yX5_markUnits, cX5_markUnits, 4, (some .int), { frames := 4, cells := 0, slots := 0, locals := 92 })
abbrev yX11_gateAt : MethodName := ⟨"BundleFence", "gateAt", "(I)I"⟩
abbrev mX11_gateAt : xMd := (yX11_gateAt, cX11_gateAt, 3, (some .int), { frames := 0, cells := 0, slots := 0, locals := 0 })
abbrev yX5_isEntry : MethodName := ⟨"BundleFence$Inspector", "isEntry", "(I)Z"⟩
abbrev mX5_isEntry : xMd := (yX5_isEntry, cX5_isEntry, 2, (some .boolean), { frames := 1, cells := 0, slots := 0, locals := 22 })
abbrev yX5_checkTargets : MethodName := ⟨"BundleFence$Inspector", "checkTargets", "()V"⟩
abbrev mX5_checkTargets : xMd := (yX5_checkTargets, cX5_checkTargets, 2, none, { frames := 2, cells := 0, slots := 0, locals := 43 })
abbrev yX5_checkEnd : MethodName := ⟨"BundleFence$Inspector", "checkEnd", "(I)V"⟩
abbrev mX5_checkEnd : xMd := (yX5_checkEnd, cX5_checkEnd, 4, none, { frames := 1, cells := 0, slots := 0, locals := 22 })
abbrev yX5_inspect : MethodName := ⟨"BundleFence$Inspector", "inspect", "()I"⟩
abbrev mX5_inspect : xMd := (yX5_inspect, cX5_inspect, 2, (some .int), { frames := 5, cells := 0, slots := 0, locals := 115 })
abbrev yX5_permits : MethodName := ⟨"BundleFence$Inspector", "permits", "(I)Z"⟩
abbrev mX5_permits : xMd := (yX5_permits, cX5_permits, 2, (some .boolean), { frames := 1, cells := 0, slots := 0, locals := 21 })
abbrev yX7_restart : MethodName := ⟨"BundleFence$Machine", "restart", "()V"⟩
abbrev mX7_restart : xMd := (yX7_restart, cX7_restart, 2, none, { frames := 0, cells := 0, slots := 0, locals := 0 })
abbrev yX7_wake : MethodName := ⟨"BundleFence$Machine", "wake", "()V"⟩
abbrev mX7_wake : xMd := (yX7_wake, cX7_wake, 1, none, { frames := 0, cells := 0, slots := 0, locals := 0 })
abbrev yX8_fail : MethodName := ⟨"BundleFence$Memory", "fail", "(I)V"⟩
abbrev mX8_fail : xMd := (yX8_fail, cX8_fail, 2, none, { frames := 0, cells := 0, slots := 0, locals := 0 })
abbrev yX8_load : MethodName := ⟨"BundleFence$Memory", "load", "(II)I"⟩
abbrev mX8_load : xMd := (yX8_load, cX8_load, 8, (some .int), { frames := 1, cells := 0, slots := 0, locals := 26 })
abbrev yX7_doService : MethodName := ⟨"BundleFence$Machine", "doService", "(I)V"⟩
abbrev mX7_doService : xMd := (yX7_doService, cX7_doService, 3, none, { frames := 4, cells := 0, slots := 0, locals := 98 })
abbrev yX8_inImage : MethodName := ⟨"BundleFence$Memory", "inImage", "(IJ)Z"⟩
abbrev mX8_inImage : xMd := (yX8_inImage, cX8_inImage, 4, (some .boolean), { frames := 1, cells := 0, slots := 0, locals := 26 })
abbrev yX7_addressOfE : MethodName := ⟨"BundleFence$Machine", "addressOfE", "()I"⟩
abbrev mX7_addressOfE : xMd := (yX7_addressOfE, cX7_addressOfE, 2, (some .int), { frames := 0, cells := 0, slots := 0, locals := 0 })
abbrev yX7_isReady : MethodName := ⟨"BundleFence$Machine", "isReady", "()Z"⟩
abbrev mX7_isReady : xMd := (yX7_isReady, cX7_isReady, 2, (some .boolean), { frames := 5, cells := 0, slots := 0, locals := 139 })
abbrev yX7_part : MethodName := ⟨"BundleFence$Machine", "part", "(II)I"⟩
abbrev mX7_part : xMd := (yX7_part, cX7_part, 3, (some .int), { frames := 0, cells := 0, slots := 0, locals := 0 })
abbrev yX7_readG : MethodName := ⟨"BundleFence$Machine", "readG", "()I"⟩
abbrev mX7_readG : xMd := (yX7_readG, cX7_readG, 1, (some .int), { frames := 1, cells := 0, slots := 0, locals := 22 })
abbrev yX7_readE : MethodName := ⟨"BundleFence$Machine", "readE", "()I"⟩
abbrev mX7_readE : xMd := (yX7_readE, cX7_readE, 1, (some .int), { frames := 2, cells := 0, slots := 0, locals := 53 })
abbrev yX7_readSecond : MethodName := ⟨"BundleFence$Machine", "readSecond", "()I"⟩
abbrev mX7_readSecond : xMd := (yX7_readSecond, cX7_readSecond, 1, (some .int), { frames := 3, cells := 0, slots := 0, locals := 73 })
abbrev yX7_setPart : MethodName := ⟨"BundleFence$Machine", "setPart", "(III)V"⟩
abbrev mX7_setPart : xMd := (yX7_setPart, cX7_setPart, 7, none, { frames := 0, cells := 0, slots := 0, locals := 0 })
abbrev yX7_writeG : MethodName := ⟨"BundleFence$Machine", "writeG", "(I)V"⟩
abbrev mX7_writeG : xMd := (yX7_writeG, cX7_writeG, 2, none, { frames := 1, cells := 0, slots := 0, locals := 26 })
abbrev yX8_store : MethodName := ⟨"BundleFence$Memory", "store", "(III)V"⟩
abbrev mX8_store : xMd := (yX8_store, cX8_store, 5, none, { frames := 1, cells := 0, slots := 0, locals := 26 })
abbrev yX7_writeE : MethodName := ⟨"BundleFence$Machine", "writeE", "(I)V"⟩
abbrev mX7_writeE : xMd := (yX7_writeE, cX7_writeE, 2, none, { frames := 2, cells := 0, slots := 0, locals := 50 })
abbrev yX7_writeFirst : MethodName := ⟨"BundleFence$Machine", "writeFirst", "(I)V"⟩
abbrev mX7_writeFirst : xMd := (yX7_writeFirst, cX7_writeFirst, 2, none, { frames := 3, cells := 0, slots := 0, locals := 71 })
abbrev yX7_doArithmetic : MethodName := ⟨"BundleFence$Machine", "doArithmetic", "()V"⟩
abbrev mX7_doArithmetic : xMd := (yX7_doArithmetic, cX7_doArithmetic, 3, none, { frames := 4, cells := 0, slots := 0, locals := 96 })
abbrev yX7_doShift : MethodName := ⟨"BundleFence$Machine", "doShift", "()V"⟩
abbrev mX7_doShift : xMd := (yX7_doShift, cX7_doShift, 3, none, { frames := 3, cells := 0, slots := 0, locals := 77 })
abbrev yX7_multiplyByte : MethodName := ⟨"BundleFence$Machine", "multiplyByte", "(I)V"⟩
abbrev mX7_multiplyByte : xMd := (yX7_multiplyByte, cX7_multiplyByte, 6, none, { frames := 2, cells := 0, slots := 0, locals := 43 })
abbrev yX7_multiplyLong : MethodName := ⟨"BundleFence$Machine", "multiplyLong", "(I)V"⟩
abbrev mX7_multiplyLong : xMd := (yX7_multiplyLong, cX7_multiplyLong, 7, none, { frames := 2, cells := 0, slots := 0, locals := 43 })
abbrev yX7_doProduct : MethodName := ⟨"BundleFence$Machine", "doProduct", "()V"⟩
abbrev mX7_doProduct : xMd := (yX7_doProduct, cX7_doProduct, 7, none, { frames := 3, cells := 0, slots := 0, locals := 73 })
abbrev yX7_divideByte : MethodName := ⟨"BundleFence$Machine", "divideByte", "(I)V"⟩
abbrev mX7_divideByte : xMd := (yX7_divideByte, cX7_divideByte, 6, none, { frames := 1, cells := 0, slots := 0, locals := 26 })
abbrev yX7_divideLong : MethodName := ⟨"BundleFence$Machine", "divideLong", "(J)V"⟩
abbrev mX7_divideLong : xMd := (yX7_divideLong, cX7_divideLong, 7, none, { frames := 1, cells := 0, slots := 0, locals := 21 })
abbrev yX7_divideLongWithSign : MethodName := ⟨"BundleFence$Machine", "divideLongWithSign", "(I)V"⟩
abbrev mX7_divideLongWithSign : xMd := (yX7_divideLongWithSign, cX7_divideLongWithSign, 6, none, { frames := 1, cells := 0, slots := 0, locals := 21 })
abbrev yX7_doQuotient : MethodName := ⟨"BundleFence$Machine", "doQuotient", "()V"⟩
abbrev mX7_doQuotient : xMd := (yX7_doQuotient, cX7_doQuotient, 2, none, { frames := 3, cells := 0, slots := 0, locals := 73 })
abbrev yX11_withSign : MethodName := ⟨"BundleFence", "withSign", "(II)I"⟩
abbrev mX11_withSign : xMd := (yX11_withSign, cX11_withSign, 2, (some .int), { frames := 0, cells := 0, slots := 0, locals := 0 })
abbrev yX7_doMove : MethodName := ⟨"BundleFence$Machine", "doMove", "()V"⟩
abbrev mX7_doMove : xMd := (yX7_doMove, cX7_doMove, 2, none, { frames := 4, cells := 0, slots := 0, locals := 93 })
abbrev yJ6_numberOfTrailingZeros_0f7a4 : MethodName := ⟨"java/lang/Integer", "numberOfTrailingZeros", "(I)I"⟩
abbrev mJ6_numberOfTrailingZeros_0f7a4 : xMd := (yJ6_numberOfTrailingZeros_0f7a4, cJ6_numberOfTrailingZeros_0f7a4, 2, (some .int), { frames := 0, cells := 0, slots := 0, locals := 0 })
abbrev yJ6_numberOfLeadingZeros_0f7a4 : MethodName := ⟨"java/lang/Integer", "numberOfLeadingZeros", "(I)I"⟩
abbrev mJ6_numberOfLeadingZeros_0f7a4 : xMd := (yJ6_numberOfLeadingZeros_0f7a4, cJ6_numberOfLeadingZeros_0f7a4, 2, (some .int), { frames := 0, cells := 0, slots := 0, locals := 0 })
abbrev yX7_scanBits : MethodName := ⟨"BundleFence$Machine", "scanBits", "(I)V"⟩
abbrev mX7_scanBits : xMd := (yX7_scanBits, cX7_scanBits, 3, none, { frames := 2, cells := 0, slots := 0, locals := 47 })
abbrev yJ6_reverseBytes_0f7a4 : MethodName := ⟨"java/lang/Integer", "reverseBytes", "(I)I"⟩
abbrev mJ6_reverseBytes_0f7a4 : xMd := (yJ6_reverseBytes_0f7a4, cJ6_reverseBytes_0f7a4, 1, (some .int), { frames := 0, cells := 0, slots := 0, locals := 0 })
abbrev yX7_doRearrange : MethodName := ⟨"BundleFence$Machine", "doRearrange", "()V"⟩
abbrev mX7_doRearrange : xMd := (yX7_doRearrange, cX7_doRearrange, 1, none, { frames := 3, cells := 0, slots := 0, locals := 73 })
abbrev yX7_doExchange : MethodName := ⟨"BundleFence$Machine", "doExchange", "()V"⟩
abbrev mX7_doExchange : xMd := (yX7_doExchange, cX7_doExchange, 3, none, { frames := 3, cells := 0, slots := 0, locals := 73 })
abbrev yX7_push : MethodName := ⟨"BundleFence$Machine", "push", "(I)V"⟩
abbrev mX7_push : xMd := (yX7_push, cX7_push, 2, none, { frames := 2, cells := 0, slots := 0, locals := 50 })
abbrev yX7_doStack : MethodName := ⟨"BundleFence$Machine", "doStack", "()V"⟩
abbrev mX7_doStack : xMd := (yX7_doStack, cX7_doStack, 3, none, { frames := 3, cells := 0, slots := 0, locals := 73 })
abbrev yX7_doJump : MethodName := ⟨"BundleFence$Machine", "doJump", "()V"⟩
abbrev mX7_doJump : xMd := (yX7_doJump, cX7_doJump, 2, none, { frames := 3, cells := 0, slots := 0, locals := 73 })
abbrev yX7_doRest : MethodName := ⟨"BundleFence$Machine", "doRest", "()V"⟩
abbrev mX7_doRest : xMd := (yX7_doRest, cX7_doRest, 1, none, { frames := 1, cells := 0, slots := 0, locals := 22 })
abbrev yX7_execute : MethodName := ⟨"BundleFence$Machine", "execute", "()V"⟩
abbrev mX7_execute : xMd := (yX7_execute, cX7_execute, 1, none, { frames := 5, cells := 0, slots := 0, locals := 118 })
abbrev yX7_settle : MethodName := ⟨"BundleFence$Machine", "settle", "()V"⟩
abbrev mX7_settle : xMd := (yX7_settle, cX7_settle, 2, none, { frames := 2, cells := 0, slots := 0, locals := 139 })
abbrev yX7_step : MethodName := ⟨"BundleFence$Machine", "step", "()Z"⟩
abbrev mX7_step : xMd := (yX7_step, cX7_step, 2, (some .boolean), { frames := 6, cells := 0, slots := 0, locals := 160 })
abbrev yX11_forgetProgram : MethodName := ⟨"BundleFence", "forgetProgram", "()V"⟩
abbrev mX11_forgetProgram : xMd := (yX11_forgetProgram, cX11_forgetProgram, 1, none, { frames := 1, cells := 0, slots := 0, locals := 20 })
abbrev yX11_feed : MethodName := ⟨"BundleFence", "feed", "(IJ)I"⟩
abbrev mX11_feed : xMd := (yX11_feed, cX11_feed, 4, (some .int), { frames := 2, cells := 0, slots := 0, locals := 40 })
abbrev yX11_wipe : MethodName := ⟨"BundleFence", "wipe", "()I"⟩
abbrev mX11_wipe : xMd := (yX11_wipe, cX11_wipe, 2, (some .int), { frames := 2, cells := 0, slots := 0, locals := 40 })
abbrev yX11_look : MethodName := ⟨"BundleFence", "look", "()I"⟩
abbrev mX11_look : xMd := (yX11_look, cX11_look, 1, (some .int), { frames := 6, cells := 0, slots := 0, locals := 136 })
abbrev yX11_fault : MethodName := ⟨"BundleFence", "fault", "()I"⟩
abbrev mX11_fault : xMd := (yX11_fault, cX11_fault, 1, (some .int), { frames := 0, cells := 0, slots := 0, locals := 0 })
abbrev yX11_place : MethodName := ⟨"BundleFence", "place", "()I"⟩
abbrev mX11_place : xMd := (yX11_place, cX11_place, 1, (some .int), { frames := 0, cells := 0, slots := 0, locals := 0 })
abbrev yX11_unit : MethodName := ⟨"BundleFence", "unit", "(I)I"⟩
abbrev mX11_unit : xMd := (yX11_unit, cX11_unit, 2, (some .int), { frames := 1, cells := 0, slots := 0, locals := 21 })
abbrev yX11_size : MethodName := ⟨"BundleFence", "size", "(I)I"⟩
abbrev mX11_size : xMd := (yX11_size, cX11_size, 2, (some .int), { frames := 5, cells := 0, slots := 0, locals := 110 })
abbrev yX11_poke : MethodName := ⟨"BundleFence", "poke", "(II)I"⟩
abbrev mX11_poke : xMd := (yX11_poke, cX11_poke, 4, (some .int), { frames := 2, cells := 0, slots := 0, locals := 48 })
abbrev yX11_peek : MethodName := ⟨"BundleFence", "peek", "(I)I"⟩
abbrev mX11_peek : xMd := (yX11_peek, cX11_peek, 3, (some .int), { frames := 2, cells := 0, slots := 0, locals := 48 })
abbrev yX11_give : MethodName := ⟨"BundleFence", "give", "(IJ)I"⟩
abbrev mX11_give : xMd := (yX11_give, cX11_give, 4, (some .int), { frames := 1, cells := 0, slots := 0, locals := 24 })
abbrev yX11_begin : MethodName := ⟨"BundleFence", "begin", "(Z)V"⟩
abbrev mX11_begin : xMd := (yX11_begin, cX11_begin, 2, none, { frames := 1, cells := 0, slots := 0, locals := 21 })
abbrev yX11_hasBreakpoint : MethodName := ⟨"BundleFence", "hasBreakpoint", "(I)Z"⟩
abbrev mX11_hasBreakpoint : xMd := (yX11_hasBreakpoint, cX11_hasBreakpoint, 3, (some .boolean), { frames := 0, cells := 0, slots := 0, locals := 0 })
abbrev yX11_run : MethodName := ⟨"BundleFence", "run", "(I)I"⟩
abbrev mX11_run : xMd := (yX11_run, cX11_run, 4, (some .int), { frames := 7, cells := 0, slots := 0, locals := 181 })
abbrev yX11_stop : MethodName := ⟨"BundleFence", "stop", "(IZ)Z"⟩
abbrev mX11_stop : xMd := (yX11_stop, cX11_stop, 4, (some .boolean), { frames := 1, cells := 0, slots := 0, locals := 19 })
abbrev yX11_told : MethodName := ⟨"BundleFence", "told", "(I)I"⟩
abbrev mX11_told : xMd := (yX11_told, cX11_told, 2, (some .int), { frames := 1, cells := 0, slots := 0, locals := 19 })
abbrev yX11_steps : MethodName := ⟨"BundleFence", "steps", "()J"⟩
abbrev mX11_steps : xMd := (yX11_steps, cX11_steps, 1, (some .long), { frames := 0, cells := 0, slots := 0, locals := 0 })
abbrev yX11_register : MethodName := ⟨"BundleFence", "register", "(I)I"⟩
abbrev mX11_register : xMd := (yX11_register, cX11_register, 2, (some .int), { frames := 1, cells := 0, slots := 0, locals := 19 })
abbrev yX11_put : MethodName := ⟨"BundleFence", "put", "(II)I"⟩
abbrev mX11_put : xMd := (yX11_put, cX11_put, 4, (some .int), { frames := 1, cells := 0, slots := 0, locals := 19 })
abbrev yX11_output : MethodName := ⟨"BundleFence", "output", "(I)I"⟩
abbrev mX11_output : xMd := (yX11_output, cX11_output, 2, (some .int), { frames := 1, cells := 0, slots := 0, locals := 21 })
abbrev yX11_passed : MethodName := ⟨"BundleFence", "passed", "(I)I"⟩
abbrev mX11_passed : xMd := (yX11_passed, cX11_passed, 2, (some .int), { frames := 1, cells := 0, slots := 0, locals := 19 })
theorem cb_63 : (Int8.ofInt 63).toInt32 = 63 := by decide
theorem cb_106 : (Int8.ofInt 106).toInt32 = 106 := by decide
theorem cb_107 : (Int8.ofInt 107).toInt32 = 107 := by decide
theorem ci_m16 : Int32.ofInt (-16) = (-16) := by decide
theorem ci_m8 : Int32.ofInt (-8) = (-8) := by decide
theorem ci_m4 : Int32.ofInt (-4) = (-4) := by decide
theorem ci_m2 : Int32.ofInt (-2) = (-2) := by decide
theorem ci_8 : Int32.ofInt 8 = 8 := by decide
theorem ci_16 : Int32.ofInt 16 = 16 := by decide
theorem cs_m2050 : (Int16.ofInt (-2050)).toInt32 = (-2050) := by decide
theorem cs_m2048 : (Int16.ofInt (-2048)).toInt32 = (-2048) := by decide
theorem cs_m197 : (Int16.ofInt (-197)).toInt32 = (-197) := by decide
theorem cs_131 : (Int16.ofInt 131).toInt32 = 131 := by decide
theorem cs_154 : (Int16.ofInt 154).toInt32 = 154 := by decide
theorem cs_170 : (Int16.ofInt 170).toInt32 = 170 := by decide
theorem cs_198 : (Int16.ofInt 198).toInt32 = 198 := by decide
theorem cs_199 : (Int16.ofInt 199).toInt32 = 199 := by decide
theorem cs_212 : (Int16.ofInt 212).toInt32 = 212 := by decide
theorem cs_512 : (Int16.ofInt 512).toInt32 = 512 := by decide
theorem cs_2047 : (Int16.ofInt 2047).toInt32 = 2047 := by decide
theorem cs_10000 : (Int16.ofInt 10000).toInt32 = 10000 := by decide
theorem tw0 : Cond.selects "BundleFence" ⟨"BundleFence", "forgetProgram", "()V"⟩ ⟨"BundleFence", "forgetProgram", "()V"⟩ ∈ gtbl := gts_1 (y := ⟨"BundleFence", "forgetProgram", "()V"⟩) 0 rfl
theorem tw1 : Cond.selects "BundleFence$Decoder" ⟨"BundleFence$Decoder", "nextByte", "()I"⟩ ⟨"BundleFence$Decoder", "nextByte", "()I"⟩ ∈ gtbl := gts_1 (y := ⟨"BundleFence$Decoder", "nextByte", "()I"⟩) 1 rfl
theorem tw2 : Cond.selects "BundleFence$Decoder" ⟨"BundleFence$Decoder", "chooseLong", "(I)V"⟩ ⟨"BundleFence$Decoder", "chooseLong", "(I)V"⟩ ∈ gtbl := gts_1 (y := ⟨"BundleFence$Decoder", "chooseLong", "(I)V"⟩) 2 rfl
theorem tw3 : Cond.selects "BundleFence$Decoder" ⟨"BundleFence$Decoder", "withE", "(LBundleFence$Op;II)V"⟩ ⟨"BundleFence$Decoder", "withE", "(LBundleFence$Op;II)V"⟩ ∈ gtbl := gts_1 (y := ⟨"BundleFence$Decoder", "withE", "(LBundleFence$Op;II)V"⟩) 3 rfl
theorem tw4 : Cond.selects "BundleFence$Decoder" ⟨"BundleFence$Decoder", "plain", "(LBundleFence$Op;III)V"⟩ ⟨"BundleFence$Decoder", "plain", "(LBundleFence$Op;III)V"⟩ ∈ gtbl := gts_1 (y := ⟨"BundleFence$Decoder", "plain", "(LBundleFence$Op;III)V"⟩) 4 rfl
theorem tw5 : Cond.selects "BundleFence$Decoder" ⟨"BundleFence$Decoder", "chooseLongMore", "(I)V"⟩ ⟨"BundleFence$Decoder", "chooseLongMore", "(I)V"⟩ ∈ gtbl := gts_1 (y := ⟨"BundleFence$Decoder", "chooseLongMore", "(I)V"⟩) 5 rfl
theorem tw6 : Cond.selects "BundleFence$Decoder" ⟨"BundleFence$Decoder", "chooseSwap", "(I)V"⟩ ⟨"BundleFence$Decoder", "chooseSwap", "(I)V"⟩ ∈ gtbl := gts_1 (y := ⟨"BundleFence$Decoder", "chooseSwap", "(I)V"⟩) 6 rfl
theorem tw7 : Cond.selects "BundleFence$Decoder" ⟨"BundleFence$Decoder", "withRegister", "(LBundleFence$Op;I)V"⟩ ⟨"BundleFence$Decoder", "withRegister", "(LBundleFence$Op;I)V"⟩ ∈ gtbl := gts_1 (y := ⟨"BundleFence$Decoder", "withRegister", "(LBundleFence$Op;I)V"⟩) 7 rfl
theorem tw8 : Cond.selects "BundleFence$Decoder" ⟨"BundleFence$Decoder", "chooseWord", "(I)V"⟩ ⟨"BundleFence$Decoder", "chooseWord", "(I)V"⟩ ∈ gtbl := gts_1 (y := ⟨"BundleFence$Decoder", "chooseWord", "(I)V"⟩) 8 rfl
theorem tw9 : Cond.selects "BundleFence$Decoder" ⟨"BundleFence$Decoder", "chooseLow", "(I)V"⟩ ⟨"BundleFence$Decoder", "chooseLow", "(I)V"⟩ ∈ gtbl := gts_1 (y := ⟨"BundleFence$Decoder", "chooseLow", "(I)V"⟩) 9 rfl
theorem tw10 : Cond.selects "BundleFence$Decoder" ⟨"BundleFence$Decoder", "choosePush", "(I)V"⟩ ⟨"BundleFence$Decoder", "choosePush", "(I)V"⟩ ∈ gtbl := gts_1 (y := ⟨"BundleFence$Decoder", "choosePush", "(I)V"⟩) 10 rfl
theorem tw11 : Cond.selects "BundleFence$Decoder" ⟨"BundleFence$Decoder", "chooseEight", "(LBundleFence$Op;I)V"⟩ ⟨"BundleFence$Decoder", "chooseEight", "(LBundleFence$Op;I)V"⟩ ∈ gtbl := gts_1 (y := ⟨"BundleFence$Decoder", "chooseEight", "(LBundleFence$Op;I)V"⟩) 11 rfl
theorem tw12 : Cond.selects "BundleFence$Decoder" ⟨"BundleFence$Decoder", "chooseHigh", "(II)V"⟩ ⟨"BundleFence$Decoder", "chooseHigh", "(II)V"⟩ ∈ gtbl := gts_1 (y := ⟨"BundleFence$Decoder", "chooseHigh", "(II)V"⟩) 12 rfl
theorem tw13 : Cond.selects "BundleFence$Decoder" ⟨"BundleFence$Decoder", "chooseGroup", "(II)V"⟩ ⟨"BundleFence$Decoder", "chooseGroup", "(II)V"⟩ ∈ gtbl := gts_1 (y := ⟨"BundleFence$Decoder", "chooseGroup", "(II)V"⟩) 13 rfl
theorem tw14 : Cond.selects "BundleFence$Decoder" ⟨"BundleFence$Decoder", "withDigit", "(III)V"⟩ ⟨"BundleFence$Decoder", "withDigit", "(III)V"⟩ ∈ gtbl := gts_1 (y := ⟨"BundleFence$Decoder", "withDigit", "(III)V"⟩) 14 rfl
theorem tw15 : Cond.selects "BundleFence$Decoder" ⟨"BundleFence$Decoder", "chooseMove", "(II)V"⟩ ⟨"BundleFence$Decoder", "chooseMove", "(II)V"⟩ ∈ gtbl := gts_1 (y := ⟨"BundleFence$Decoder", "chooseMove", "(II)V"⟩) 15 rfl
theorem tw16 : Cond.selects "BundleFence$Decoder" ⟨"BundleFence$Decoder", "chooseXchg", "(I)V"⟩ ⟨"BundleFence$Decoder", "chooseXchg", "(I)V"⟩ ∈ gtbl := gts_2 (y := ⟨"BundleFence$Decoder", "chooseXchg", "(I)V"⟩) 0 rfl
theorem tw17 : Cond.selects "BundleFence$Decoder" ⟨"BundleFence$Decoder", "chooseShiftOrMove", "(II)V"⟩ ⟨"BundleFence$Decoder", "chooseShiftOrMove", "(II)V"⟩ ∈ gtbl := gts_2 (y := ⟨"BundleFence$Decoder", "chooseShiftOrMove", "(II)V"⟩) 1 rfl
theorem tw18 : Cond.selects "BundleFence$Decoder" ⟨"BundleFence$Decoder", "chooseJump", "(I)V"⟩ ⟨"BundleFence$Decoder", "chooseJump", "(I)V"⟩ ∈ gtbl := gts_2 (y := ⟨"BundleFence$Decoder", "chooseJump", "(I)V"⟩) 2 rfl
theorem tw19 : Cond.selects "BundleFence$Decoder" ⟨"BundleFence$Decoder", "chooseLast", "(II)V"⟩ ⟨"BundleFence$Decoder", "chooseLast", "(II)V"⟩ ∈ gtbl := gts_2 (y := ⟨"BundleFence$Decoder", "chooseLast", "(II)V"⟩) 3 rfl
theorem tw20 : Cond.selects "BundleFence$Decoder" ⟨"BundleFence$Decoder", "readE", "()V"⟩ ⟨"BundleFence$Decoder", "readE", "()V"⟩ ∈ gtbl := gts_2 (y := ⟨"BundleFence$Decoder", "readE", "()V"⟩) 4 rfl
theorem tw21 : Cond.selects "BundleFence$Decoder" ⟨"BundleFence$Decoder", "nextNumber", "(I)I"⟩ ⟨"BundleFence$Decoder", "nextNumber", "(I)I"⟩ ∈ gtbl := gts_2 (y := ⟨"BundleFence$Decoder", "nextNumber", "(I)I"⟩) 5 rfl
theorem tw22 : Cond.selects "BundleFence$Decoder" ⟨"BundleFence$Decoder", "chooseByDigit", "()V"⟩ ⟨"BundleFence$Decoder", "chooseByDigit", "()V"⟩ ∈ gtbl := gts_2 (y := ⟨"BundleFence$Decoder", "chooseByDigit", "()V"⟩) 6 rfl
theorem tw23 : Cond.selects "BundleFence$Decoder" ⟨"BundleFence$Decoder", "chooseSingle", "(I)V"⟩ ⟨"BundleFence$Decoder", "chooseSingle", "(I)V"⟩ ∈ gtbl := gts_2 (y := ⟨"BundleFence$Decoder", "chooseSingle", "(I)V"⟩) 7 rfl
theorem tw24 : Cond.selects "BundleFence$Decoder" ⟨"BundleFence$Decoder", "chooseCounting", "(I)V"⟩ ⟨"BundleFence$Decoder", "chooseCounting", "(I)V"⟩ ∈ gtbl := gts_2 (y := ⟨"BundleFence$Decoder", "chooseCounting", "(I)V"⟩) 8 rfl
theorem tw25 : Cond.selects "BundleFence$Inspector" ⟨"BundleFence$Inspector", "traitsOfIt", "()I"⟩ ⟨"BundleFence$Inspector", "traitsOfIt", "()I"⟩ ∈ gtbl := gts_2 (y := ⟨"BundleFence$Inspector", "traitsOfIt", "()I"⟩) 9 rfl
theorem tw26 : Cond.selects "BundleFence$Inspector" ⟨"BundleFence$Inspector", "markUnits", "()I"⟩ ⟨"BundleFence$Inspector", "markUnits", "()I"⟩ ∈ gtbl := gts_2 (y := ⟨"BundleFence$Inspector", "markUnits", "()I"⟩) 10 rfl
theorem tw27 : Cond.selects "BundleFence$Inspector" ⟨"BundleFence$Inspector", "refuse", "(II)I"⟩ ⟨"BundleFence$Inspector", "refuse", "(II)I"⟩ ∈ gtbl := gts_2 (y := ⟨"BundleFence$Inspector", "refuse", "(II)I"⟩) 11 rfl
theorem tw28 : Cond.selects "BundleFence$Inspector" ⟨"BundleFence$Inspector", "markUnit", "(I)I"⟩ ⟨"BundleFence$Inspector", "markUnit", "(I)I"⟩ ∈ gtbl := gts_2 (y := ⟨"BundleFence$Inspector", "markUnit", "(I)I"⟩) 12 rfl
theorem tw29 : Cond.selects "BundleFence$Inspector" ⟨"BundleFence$Inspector", "lengthAt", "(I)I"⟩ ⟨"BundleFence$Inspector", "lengthAt", "(I)I"⟩ ∈ gtbl := gts_2 (y := ⟨"BundleFence$Inspector", "lengthAt", "(I)I"⟩) 13 rfl
theorem tw30 : Cond.selects "BundleFence$Inspector" ⟨"BundleFence$Inspector", "mark", "(II)V"⟩ ⟨"BundleFence$Inspector", "mark", "(II)V"⟩ ∈ gtbl := gts_2 (y := ⟨"BundleFence$Inspector", "mark", "(II)V"⟩) 14 rfl
theorem tw31 : Cond.selects "BundleFence$Inspector" ⟨"BundleFence$Inspector", "is", "(II)Z"⟩ ⟨"BundleFence$Inspector", "is", "(II)Z"⟩ ∈ gtbl := gts_2 (y := ⟨"BundleFence$Inspector", "is", "(II)Z"⟩) 15 rfl
theorem tw32 : Cond.selects "BundleFence$Inspector" ⟨"BundleFence$Inspector", "markStackUnit", "(II)I"⟩ ⟨"BundleFence$Inspector", "markStackUnit", "(II)I"⟩ ∈ gtbl := gts_3 (y := ⟨"BundleFence$Inspector", "markStackUnit", "(II)I"⟩) 0 rfl
theorem tw33 : Cond.selects "BundleFence$Inspector" ⟨"BundleFence$Inspector", "hasFences", "(II)Z"⟩ ⟨"BundleFence$Inspector", "hasFences", "(II)Z"⟩ ∈ gtbl := gts_3 (y := ⟨"BundleFence$Inspector", "hasFences", "(II)Z"⟩) 1 rfl
theorem tw34 : Cond.selects "BundleFence$Inspector" ⟨"BundleFence$Inspector", "isOf", "(III)Z"⟩ ⟨"BundleFence$Inspector", "isOf", "(III)Z"⟩ ∈ gtbl := gts_3 (y := ⟨"BundleFence$Inspector", "isOf", "(III)Z"⟩) 2 rfl
theorem tw35 : Cond.selects "BundleFence$Inspector" ⟨"BundleFence$Inspector", "markJumpUnit", "(II)I"⟩ ⟨"BundleFence$Inspector", "markJumpUnit", "(II)I"⟩ ∈ gtbl := gts_3 (y := ⟨"BundleFence$Inspector", "markJumpUnit", "(II)I"⟩) 3 rfl
theorem tw36 : Cond.selects "BundleFence$Inspector" ⟨"BundleFence$Inspector", "registerAt", "(I)I"⟩ ⟨"BundleFence$Inspector", "registerAt", "(I)I"⟩ ∈ gtbl := gts_3 (y := ⟨"BundleFence$Inspector", "registerAt", "(I)I"⟩) 4 rfl
theorem tw37 : Cond.selects "BundleFence$Inspector" ⟨"BundleFence$Inspector", "markWriteUnit", "(I)I"⟩ ⟨"BundleFence$Inspector", "markWriteUnit", "(I)I"⟩ ∈ gtbl := gts_3 (y := ⟨"BundleFence$Inspector", "markWriteUnit", "(I)I"⟩) 5 rfl
theorem tw38 : Cond.selects "BundleFence$Inspector" ⟨"BundleFence$Inspector", "checkAlone", "(II)I"⟩ ⟨"BundleFence$Inspector", "checkAlone", "(II)I"⟩ ∈ gtbl := gts_3 (y := ⟨"BundleFence$Inspector", "checkAlone", "(II)I"⟩) 6 rfl
theorem tw39 : Cond.selects "BundleFence$Inspector" ⟨"BundleFence$Inspector", "checkTargets", "()V"⟩ ⟨"BundleFence$Inspector", "checkTargets", "()V"⟩ ∈ gtbl := gts_3 (y := ⟨"BundleFence$Inspector", "checkTargets", "()V"⟩) 7 rfl
theorem tw40 : Cond.selects "BundleFence$Inspector" ⟨"BundleFence$Inspector", "isEntry", "(I)Z"⟩ ⟨"BundleFence$Inspector", "isEntry", "(I)Z"⟩ ∈ gtbl := gts_3 (y := ⟨"BundleFence$Inspector", "isEntry", "(I)Z"⟩) 8 rfl
theorem tw41 : Cond.selects "BundleFence$Inspector" ⟨"BundleFence$Inspector", "checkEnd", "(I)V"⟩ ⟨"BundleFence$Inspector", "checkEnd", "(I)V"⟩ ∈ gtbl := gts_3 (y := ⟨"BundleFence$Inspector", "checkEnd", "(I)V"⟩) 9 rfl
theorem tw50 : Cond.selects "BundleFence" ⟨"BundleFence", "hasBreakpoint", "(I)Z"⟩ ⟨"BundleFence", "hasBreakpoint", "(I)Z"⟩ ∈ gtbl := gts_4 (y := ⟨"BundleFence", "hasBreakpoint", "(I)Z"⟩) 2 rfl
theorem tw51 : Cond.selects "BundleFence$Machine" ⟨"BundleFence$Machine", "doService", "(I)V"⟩ ⟨"BundleFence$Machine", "doService", "(I)V"⟩ ∈ gtbl := gts_4 (y := ⟨"BundleFence$Machine", "doService", "(I)V"⟩) 3 rfl
theorem tw52 : Cond.selects "BundleFence$Host" ⟨"BundleFence$Host", "serveBytes", "(III)I"⟩ ⟨"BundleFence$Host", "serveBytes", "(III)I"⟩ ∈ gtbl := gts_4 (y := ⟨"BundleFence$Host", "serveBytes", "(III)I"⟩) 4 rfl
theorem tw53 : Cond.selects "BundleFence$Host" ⟨"BundleFence$Host", "writeOut", "(II)I"⟩ ⟨"BundleFence$Host", "writeOut", "(II)I"⟩ ∈ gtbl := gts_4 (y := ⟨"BundleFence$Host", "writeOut", "(II)I"⟩) 5 rfl
theorem tw54 : Cond.selects "BundleFence$Host" ⟨"BundleFence$Host", "readIn", "(II)I"⟩ ⟨"BundleFence$Host", "readIn", "(II)I"⟩ ∈ gtbl := gts_4 (y := ⟨"BundleFence$Host", "readIn", "(II)I"⟩) 6 rfl
theorem tw55 : Cond.selects "BundleFence$Host" ⟨"BundleFence$Host", "sum", "(II)I"⟩ ⟨"BundleFence$Host", "sum", "(II)I"⟩ ∈ gtbl := gts_4 (y := ⟨"BundleFence$Host", "sum", "(II)I"⟩) 7 rfl
theorem tw56 : Cond.selects "BundleFence$Machine" ⟨"BundleFence$Machine", "isReady", "()Z"⟩ ⟨"BundleFence$Machine", "isReady", "()Z"⟩ ∈ gtbl := gts_4 (y := ⟨"BundleFence$Machine", "isReady", "()Z"⟩) 8 rfl
theorem tw57 : Cond.selects "BundleFence$Machine" ⟨"BundleFence$Machine", "addressOfE", "()I"⟩ ⟨"BundleFence$Machine", "addressOfE", "()I"⟩ ∈ gtbl := gts_4 (y := ⟨"BundleFence$Machine", "addressOfE", "()I"⟩) 9 rfl
theorem tw58 : Cond.selects "BundleFence$Machine" ⟨"BundleFence$Machine", "execute", "()V"⟩ ⟨"BundleFence$Machine", "execute", "()V"⟩ ∈ gtbl := gts_4 (y := ⟨"BundleFence$Machine", "execute", "()V"⟩) 10 rfl
theorem tw59 : Cond.selects "BundleFence$Machine" ⟨"BundleFence$Machine", "doArithmetic", "()V"⟩ ⟨"BundleFence$Machine", "doArithmetic", "()V"⟩ ∈ gtbl := gts_4 (y := ⟨"BundleFence$Machine", "doArithmetic", "()V"⟩) 11 rfl
theorem tw60 : Cond.selects "BundleFence$Machine" ⟨"BundleFence$Machine", "readG", "()I"⟩ ⟨"BundleFence$Machine", "readG", "()I"⟩ ∈ gtbl := gts_4 (y := ⟨"BundleFence$Machine", "readG", "()I"⟩) 12 rfl
theorem tw61 : Cond.selects "BundleFence$Machine" ⟨"BundleFence$Machine", "part", "(II)I"⟩ ⟨"BundleFence$Machine", "part", "(II)I"⟩ ∈ gtbl := gts_4 (y := ⟨"BundleFence$Machine", "part", "(II)I"⟩) 13 rfl
theorem tw62 : Cond.selects "BundleFence$Machine" ⟨"BundleFence$Machine", "readE", "()I"⟩ ⟨"BundleFence$Machine", "readE", "()I"⟩ ∈ gtbl := gts_4 (y := ⟨"BundleFence$Machine", "readE", "()I"⟩) 14 rfl
theorem tw63 : Cond.selects "BundleFence$Machine" ⟨"BundleFence$Machine", "readSecond", "()I"⟩ ⟨"BundleFence$Machine", "readSecond", "()I"⟩ ∈ gtbl := gts_4 (y := ⟨"BundleFence$Machine", "readSecond", "()I"⟩) 15 rfl
theorem tw64 : Cond.selects "BundleFence$Flags" ⟨"BundleFence$Flags", "bitwise", "(II)I"⟩ ⟨"BundleFence$Flags", "bitwise", "(II)I"⟩ ∈ gtbl := gts_5 (y := ⟨"BundleFence$Flags", "bitwise", "(II)I"⟩) 0 rfl
theorem tw65 : Cond.selects "BundleFence$Machine" ⟨"BundleFence$Machine", "writeFirst", "(I)V"⟩ ⟨"BundleFence$Machine", "writeFirst", "(I)V"⟩ ∈ gtbl := gts_5 (y := ⟨"BundleFence$Machine", "writeFirst", "(I)V"⟩) 1 rfl
theorem tw66 : Cond.selects "BundleFence$Machine" ⟨"BundleFence$Machine", "writeG", "(I)V"⟩ ⟨"BundleFence$Machine", "writeG", "(I)V"⟩ ∈ gtbl := gts_5 (y := ⟨"BundleFence$Machine", "writeG", "(I)V"⟩) 2 rfl
theorem tw67 : Cond.selects "BundleFence$Machine" ⟨"BundleFence$Machine", "setPart", "(III)V"⟩ ⟨"BundleFence$Machine", "setPart", "(III)V"⟩ ∈ gtbl := gts_5 (y := ⟨"BundleFence$Machine", "setPart", "(III)V"⟩) 3 rfl
theorem tw68 : Cond.selects "BundleFence$Machine" ⟨"BundleFence$Machine", "writeE", "(I)V"⟩ ⟨"BundleFence$Machine", "writeE", "(I)V"⟩ ∈ gtbl := gts_5 (y := ⟨"BundleFence$Machine", "writeE", "(I)V"⟩) 4 rfl
theorem tw69 : Cond.selects "BundleFence$Machine" ⟨"BundleFence$Machine", "doShift", "()V"⟩ ⟨"BundleFence$Machine", "doShift", "()V"⟩ ∈ gtbl := gts_5 (y := ⟨"BundleFence$Machine", "doShift", "()V"⟩) 5 rfl
theorem tw70 : Cond.selects "BundleFence$Flags" ⟨"BundleFence$Flags", "shiftLeft", "(LBundleFence$Op;II)I"⟩ ⟨"BundleFence$Flags", "shiftLeft", "(LBundleFence$Op;II)I"⟩ ∈ gtbl := gts_5 (y := ⟨"BundleFence$Flags", "shiftLeft", "(LBundleFence$Op;II)I"⟩) 6 rfl
theorem tw71 : Cond.selects "BundleFence$Flags" ⟨"BundleFence$Flags", "shiftRight", "(LBundleFence$Op;II)I"⟩ ⟨"BundleFence$Flags", "shiftRight", "(LBundleFence$Op;II)I"⟩ ∈ gtbl := gts_5 (y := ⟨"BundleFence$Flags", "shiftRight", "(LBundleFence$Op;II)I"⟩) 7 rfl
theorem tw72 : Cond.selects "BundleFence$Machine" ⟨"BundleFence$Machine", "doProduct", "()V"⟩ ⟨"BundleFence$Machine", "doProduct", "()V"⟩ ∈ gtbl := gts_5 (y := ⟨"BundleFence$Machine", "doProduct", "()V"⟩) 8 rfl
theorem tw73 : Cond.selects "BundleFence$Machine" ⟨"BundleFence$Machine", "multiplyByte", "(I)V"⟩ ⟨"BundleFence$Machine", "multiplyByte", "(I)V"⟩ ∈ gtbl := gts_5 (y := ⟨"BundleFence$Machine", "multiplyByte", "(I)V"⟩) 9 rfl
theorem tw74 : Cond.selects "BundleFence$Machine" ⟨"BundleFence$Machine", "multiplyLong", "(I)V"⟩ ⟨"BundleFence$Machine", "multiplyLong", "(I)V"⟩ ∈ gtbl := gts_5 (y := ⟨"BundleFence$Machine", "multiplyLong", "(I)V"⟩) 10 rfl
theorem tw75 : Cond.selects "BundleFence$Machine" ⟨"BundleFence$Machine", "doQuotient", "()V"⟩ ⟨"BundleFence$Machine", "doQuotient", "()V"⟩ ∈ gtbl := gts_5 (y := ⟨"BundleFence$Machine", "doQuotient", "()V"⟩) 11 rfl
theorem tw76 : Cond.selects "BundleFence$Machine" ⟨"BundleFence$Machine", "divideByte", "(I)V"⟩ ⟨"BundleFence$Machine", "divideByte", "(I)V"⟩ ∈ gtbl := gts_5 (y := ⟨"BundleFence$Machine", "divideByte", "(I)V"⟩) 12 rfl
theorem tw77 : Cond.selects "BundleFence$Machine" ⟨"BundleFence$Machine", "divideLong", "(J)V"⟩ ⟨"BundleFence$Machine", "divideLong", "(J)V"⟩ ∈ gtbl := gts_5 (y := ⟨"BundleFence$Machine", "divideLong", "(J)V"⟩) 13 rfl
theorem tw78 : Cond.selects "BundleFence$Machine" ⟨"BundleFence$Machine", "divideLongWithSign", "(I)V"⟩ ⟨"BundleFence$Machine", "divideLongWithSign", "(I)V"⟩ ∈ gtbl := gts_5 (y := ⟨"BundleFence$Machine", "divideLongWithSign", "(I)V"⟩) 14 rfl
theorem tw79 : Cond.selects "BundleFence$Machine" ⟨"BundleFence$Machine", "doMove", "()V"⟩ ⟨"BundleFence$Machine", "doMove", "()V"⟩ ∈ gtbl := gts_5 (y := ⟨"BundleFence$Machine", "doMove", "()V"⟩) 15 rfl
theorem tw80 : Cond.selects "BundleFence$Machine" ⟨"BundleFence$Machine", "doRearrange", "()V"⟩ ⟨"BundleFence$Machine", "doRearrange", "()V"⟩ ∈ gtbl := gts_6 (y := ⟨"BundleFence$Machine", "doRearrange", "()V"⟩) 0 rfl
theorem tw81 : Cond.selects "BundleFence$Machine" ⟨"BundleFence$Machine", "scanBits", "(I)V"⟩ ⟨"BundleFence$Machine", "scanBits", "(I)V"⟩ ∈ gtbl := gts_6 (y := ⟨"BundleFence$Machine", "scanBits", "(I)V"⟩) 1 rfl
theorem tw82 : Cond.selects "BundleFence$Machine" ⟨"BundleFence$Machine", "doExchange", "()V"⟩ ⟨"BundleFence$Machine", "doExchange", "()V"⟩ ∈ gtbl := gts_6 (y := ⟨"BundleFence$Machine", "doExchange", "()V"⟩) 2 rfl
theorem tw83 : Cond.selects "BundleFence$Machine" ⟨"BundleFence$Machine", "doStack", "()V"⟩ ⟨"BundleFence$Machine", "doStack", "()V"⟩ ∈ gtbl := gts_6 (y := ⟨"BundleFence$Machine", "doStack", "()V"⟩) 3 rfl
theorem tw84 : Cond.selects "BundleFence$Machine" ⟨"BundleFence$Machine", "push", "(I)V"⟩ ⟨"BundleFence$Machine", "push", "(I)V"⟩ ∈ gtbl := gts_6 (y := ⟨"BundleFence$Machine", "push", "(I)V"⟩) 4 rfl
theorem tw85 : Cond.selects "BundleFence$Machine" ⟨"BundleFence$Machine", "doJump", "()V"⟩ ⟨"BundleFence$Machine", "doJump", "()V"⟩ ∈ gtbl := gts_6 (y := ⟨"BundleFence$Machine", "doJump", "()V"⟩) 5 rfl
theorem tw86 : Cond.selects "BundleFence$Machine" ⟨"BundleFence$Machine", "doRest", "()V"⟩ ⟨"BundleFence$Machine", "doRest", "()V"⟩ ∈ gtbl := gts_6 (y := ⟨"BundleFence$Machine", "doRest", "()V"⟩) 6 rfl
theorem tw87 : Cond.selects "BundleFence$Machine" ⟨"BundleFence$Machine", "settle", "()V"⟩ ⟨"BundleFence$Machine", "settle", "()V"⟩ ∈ gtbl := gts_6 (y := ⟨"BundleFence$Machine", "settle", "()V"⟩) 7 rfl
theorem tw153 : Cond.initialized "BundleFence" ∈ gtbl := gtt_1 1 rfl rfl
theorem tw154 : Cond.initialized "BundleFence$Image" ∈ gtbl := gtt_1 2 rfl rfl
theorem tw155 : Cond.initialized "BundleFence$Instruction" ∈ gtbl := gtt_1 3 rfl rfl
theorem tw158 : Cond.initialized "BundleFence$Decoder" ∈ gtbl := gtt_1 6 rfl rfl
theorem tw159 : Cond.initialized "BundleFence$Inspector" ∈ gtbl := gtt_1 7 rfl rfl
theorem tw165 : Cond.initialized "BundleFence$Memory" ∈ gtbl := gtt_1 13 rfl rfl
theorem tw166 : Cond.initialized "BundleFence$Host" ∈ gtbl := gtt_1 14 rfl rfl
theorem tw167 : Cond.initialized "BundleFence$Machine" ∈ gtbl := gtt_1 15 rfl rfl
theorem tw168 : Cond.initialized "BundleFence$Flags" ∈ gtbl := gtt_1 16 rfl rfl
theorem tw182 : Cond.initialized "java/lang/Integer" ∈ gtbl := gtt_1 30 rfl rfl
theorem tw200 : Cond.fieldLink "BundleFence$Image" 9 "BundleFence$Image" "row" "[B" ∈ gtbl := gtt_1 48 rfl rfl
theorem tw201 : Cond.fieldLink "BundleFence$Decoder" 93 "BundleFence$Image" "row" "[B" ∈ gtbl := gtt_1 49 rfl rfl
theorem tw202 : Cond.fieldLink "BundleFence$Memory" 41 "BundleFence$Image" "row" "[B" ∈ gtbl := gtt_1 50 rfl rfl
theorem tw203 : Cond.fieldLink "BundleFence" 152 "BundleFence$Image" "row" "[B" ∈ gtbl := gtt_1 51 rfl rfl
theorem tw204 : Cond.fieldLink "BundleFence$Image" 13 "BundleFence$Image" "count" "I" ∈ gtbl := gtt_1 52 rfl rfl
theorem tw205 : Cond.fieldLink "BundleFence" 88 "BundleFence$Image" "count" "I" ∈ gtbl := gtt_1 53 rfl rfl
theorem tw206 : Cond.fieldLink "BundleFence$Decoder" 90 "BundleFence$Image" "count" "I" ∈ gtbl := gtt_1 54 rfl rfl
theorem tw207 : Cond.fieldLink "BundleFence$Memory" 29 "BundleFence$Image" "count" "I" ∈ gtbl := gtt_1 55 rfl rfl
theorem tw208 : Cond.fieldLink "BundleFence$Inspector" 135 "BundleFence$Image" "count" "I" ∈ gtbl := gtt_1 56 rfl rfl
theorem tw221 : Cond.fieldLink "BundleFence$Instruction" 9 "BundleFence$Op" "NOP" "LBundleFence$Op;" ∈ gtbl := gtt_1 69 rfl rfl
theorem tw223 : Cond.fieldLink "BundleFence$Instruction" 15 "BundleFence$Instruction" "op" "LBundleFence$Op;" ∈ gtbl := gtt_1 71 rfl rfl
theorem tw225 : Cond.fieldLink "BundleFence$Inspector" 126 "BundleFence$Instruction" "op" "LBundleFence$Op;" ∈ gtbl := gtt_1 73 rfl rfl
theorem tw226 : Cond.fieldLink "BundleFence$Decoder" 122 "BundleFence$Instruction" "op" "LBundleFence$Op;" ∈ gtbl := gtt_1 74 rfl rfl
theorem tw227 : Cond.fieldLink "BundleFence$Machine" 158 "BundleFence$Instruction" "op" "LBundleFence$Op;" ∈ gtbl := gtt_1 75 rfl rfl
theorem tw228 : Cond.fieldLink "BundleFence$Instruction" 20 "BundleFence$Instruction" "form" "I" ∈ gtbl := gtt_1 76 rfl rfl
theorem tw230 : Cond.fieldLink "BundleFence$Decoder" 87 "BundleFence$Instruction" "form" "I" ∈ gtbl := gtt_1 78 rfl rfl
theorem tw231 : Cond.fieldLink "BundleFence$Inspector" 123 "BundleFence$Instruction" "form" "I" ∈ gtbl := gtt_1 79 rfl rfl
theorem tw232 : Cond.fieldLink "BundleFence$Machine" 234 "BundleFence$Instruction" "form" "I" ∈ gtbl := gtt_1 80 rfl rfl
theorem tw233 : Cond.fieldLink "BundleFence$Instruction" 24 "BundleFence$Instruction" "opcode" "I" ∈ gtbl := gtt_1 81 rfl rfl
theorem tw234 : Cond.fieldLink "BundleFence$Decoder" 54 "BundleFence$Instruction" "opcode" "I" ∈ gtbl := gtt_1 82 rfl rfl
theorem tw235 : Cond.fieldLink "BundleFence$Instruction" 27 "BundleFence$Instruction" "condition" "I" ∈ gtbl := gtt_1 83 rfl rfl
theorem tw237 : Cond.fieldLink "BundleFence$Decoder" 169 "BundleFence$Instruction" "condition" "I" ∈ gtbl := gtt_1 85 rfl rfl
theorem tw238 : Cond.fieldLink "BundleFence$Machine" 322 "BundleFence$Instruction" "condition" "I" ∈ gtbl := gtt_1 86 rfl rfl
theorem tw239 : Cond.fieldLink "BundleFence$Instruction" 30 "BundleFence$Instruction" "width" "I" ∈ gtbl := gtt_1 87 rfl rfl
theorem tw241 : Cond.fieldLink "BundleFence$Decoder" 137 "BundleFence$Instruction" "width" "I" ∈ gtbl := gtt_1 89 rfl rfl
theorem tw242 : Cond.fieldLink "BundleFence$Machine" 173 "BundleFence$Instruction" "width" "I" ∈ gtbl := gtt_1 90 rfl rfl
theorem tw243 : Cond.fieldLink "BundleFence$Instruction" 33 "BundleFence$Instruction" "widthOfE" "I" ∈ gtbl := gtt_1 91 rfl rfl
theorem tw244 : Cond.fieldLink "BundleFence$Decoder" 140 "BundleFence$Instruction" "widthOfE" "I" ∈ gtbl := gtt_1 92 rfl rfl
theorem tw246 : Cond.fieldLink "BundleFence$Machine" 215 "BundleFence$Instruction" "widthOfE" "I" ∈ gtbl := gtt_1 94 rfl rfl
theorem tw247 : Cond.fieldLink "BundleFence$Instruction" 48 "BundleFence$Instruction" "inMemory" "Z" ∈ gtbl := gtt_1 95 rfl rfl
theorem tw248 : Cond.fieldLink "BundleFence$Inspector" 68 "BundleFence$Instruction" "inMemory" "Z" ∈ gtbl := gtt_1 96 rfl rfl
theorem tw249 : Cond.fieldLink "BundleFence$Decoder" 103 "BundleFence$Instruction" "inMemory" "Z" ∈ gtbl := gtt_1 97 rfl rfl
theorem tw251 : Cond.fieldLink "BundleFence$Machine" 211 "BundleFence$Instruction" "inMemory" "Z" ∈ gtbl := gtt_1 99 rfl rfl
theorem tw252 : Cond.fieldLink "BundleFence$Instruction" 36 "BundleFence$Instruction" "rm" "I" ∈ gtbl := gtt_1 100 rfl rfl
theorem tw253 : Cond.fieldLink "BundleFence$Inspector" 76 "BundleFence$Instruction" "rm" "I" ∈ gtbl := gtt_1 101 rfl rfl
theorem tw254 : Cond.fieldLink "BundleFence$Decoder" 100 "BundleFence$Instruction" "rm" "I" ∈ gtbl := gtt_1 102 rfl rfl
theorem tw256 : Cond.fieldLink "BundleFence$Machine" 218 "BundleFence$Instruction" "rm" "I" ∈ gtbl := gtt_1 104 rfl rfl
theorem tw257 : Cond.fieldLink "BundleFence$Instruction" 39 "BundleFence$Instruction" "reg" "I" ∈ gtbl := gtt_1 105 rfl rfl
theorem tw258 : Cond.fieldLink "BundleFence$Decoder" 97 "BundleFence$Instruction" "reg" "I" ∈ gtbl := gtt_1 106 rfl rfl
theorem tw260 : Cond.fieldLink "BundleFence$Machine" 231 "BundleFence$Instruction" "reg" "I" ∈ gtbl := gtt_1 108 rfl rfl
theorem tw261 : Cond.fieldLink "BundleFence$Instruction" 52 "BundleFence$Instruction" "base" "I" ∈ gtbl := gtt_1 109 rfl rfl
theorem tw262 : Cond.fieldLink "BundleFence$Inspector" 73 "BundleFence$Instruction" "base" "I" ∈ gtbl := gtt_1 110 rfl rfl
theorem tw263 : Cond.fieldLink "BundleFence$Decoder" 106 "BundleFence$Instruction" "base" "I" ∈ gtbl := gtt_1 111 rfl rfl
theorem tw264 : Cond.fieldLink "BundleFence$Machine" 149 "BundleFence$Instruction" "base" "I" ∈ gtbl := gtt_1 112 rfl rfl
theorem tw266 : Cond.fieldLink "BundleFence$Instruction" 55 "BundleFence$Instruction" "index" "I" ∈ gtbl := gtt_1 114 rfl rfl
theorem tw267 : Cond.fieldLink "BundleFence$Decoder" 109 "BundleFence$Instruction" "index" "I" ∈ gtbl := gtt_1 115 rfl rfl
theorem tw268 : Cond.fieldLink "BundleFence$Machine" 152 "BundleFence$Instruction" "index" "I" ∈ gtbl := gtt_1 116 rfl rfl
theorem tw270 : Cond.fieldLink "BundleFence$Instruction" 58 "BundleFence$Instruction" "scale" "I" ∈ gtbl := gtt_1 118 rfl rfl
theorem tw271 : Cond.fieldLink "BundleFence$Decoder" 112 "BundleFence$Instruction" "scale" "I" ∈ gtbl := gtt_1 119 rfl rfl
theorem tw272 : Cond.fieldLink "BundleFence$Machine" 155 "BundleFence$Instruction" "scale" "I" ∈ gtbl := gtt_1 120 rfl rfl
theorem tw274 : Cond.fieldLink "BundleFence$Instruction" 61 "BundleFence$Instruction" "displacement" "I" ∈ gtbl := gtt_1 122 rfl rfl
theorem tw275 : Cond.fieldLink "BundleFence$Decoder" 115 "BundleFence$Instruction" "displacement" "I" ∈ gtbl := gtt_1 123 rfl rfl
theorem tw276 : Cond.fieldLink "BundleFence$Machine" 146 "BundleFence$Instruction" "displacement" "I" ∈ gtbl := gtt_1 124 rfl rfl
theorem tw278 : Cond.fieldLink "BundleFence$Instruction" 42 "BundleFence$Instruction" "number" "I" ∈ gtbl := gtt_1 126 rfl rfl
theorem tw279 : Cond.fieldLink "BundleFence$Decoder" 81 "BundleFence$Instruction" "number" "I" ∈ gtbl := gtt_1 127 rfl rfl
theorem tw280 : Cond.fieldLink "BundleFence$Inspector" 79 "BundleFence$Instruction" "number" "I" ∈ gtbl := gtt_1 128 rfl rfl
theorem tw282 : Cond.fieldLink "BundleFence$Machine" 237 "BundleFence$Instruction" "number" "I" ∈ gtbl := gtt_1 130 rfl rfl
theorem tw283 : Cond.fieldLink "BundleFence$Instruction" 45 "BundleFence$Instruction" "length" "I" ∈ gtbl := gtt_1 131 rfl rfl
theorem tw284 : Cond.fieldLink "BundleFence$Decoder" 84 "BundleFence$Instruction" "length" "I" ∈ gtbl := gtt_1 132 rfl rfl
theorem tw285 : Cond.fieldLink "BundleFence$Machine" 131 "BundleFence$Instruction" "length" "I" ∈ gtbl := gtt_1 133 rfl rfl
theorem tw323 : Cond.fieldLink "BundleFence$Decoder" 9 "BundleFence$Decoder" "image" "LBundleFence$Image;" ∈ gtbl := gtt_1 171 rfl rfl
theorem tw324 : Cond.fieldLink "BundleFence$Decoder" 15 "BundleFence$Decoder" "it" "LBundleFence$Instruction;" ∈ gtbl := gtt_1 172 rfl rfl
theorem tw325 : Cond.fieldLink "BundleFence$Decoder" 30 "BundleFence$Decoder" "next" "I" ∈ gtbl := gtt_1 173 rfl rfl
theorem tw326 : Cond.fieldLink "BundleFence$Decoder" 34 "BundleFence$Decoder" "cut" "Z" ∈ gtbl := gtt_1 174 rfl rfl
theorem tw327 : Cond.fieldLink "BundleFence$Decoder" 38 "BundleFence$Decoder" "found" "Z" ∈ gtbl := gtt_1 175 rfl rfl
theorem tw328 : Cond.fieldLink "BundleFence$Decoder" 41 "BundleFence$Decoder" "hasE" "Z" ∈ gtbl := gtt_1 176 rfl rfl
theorem tw329 : Cond.fieldLink "BundleFence$Decoder" 44 "BundleFence$Decoder" "digits" "I" ∈ gtbl := gtt_1 177 rfl rfl
theorem tw330 : Cond.fieldLink "BundleFence$Decoder" 47 "BundleFence$Decoder" "numberBytes" "I" ∈ gtbl := gtt_1 178 rfl rfl
theorem tw354 : Cond.fieldLink "BundleFence$Inspector" 33 "BundleFence$Inspector" "image" "LBundleFence$Image;" ∈ gtbl := gtt_1 202 rfl rfl
theorem tw355 : Cond.fieldLink "BundleFence$Inspector" 37 "BundleFence$Inspector" "decoder" "LBundleFence$Decoder;" ∈ gtbl := gtt_1 203 rfl rfl
theorem tw356 : Cond.fieldLink "BundleFence$Inspector" 41 "BundleFence$Inspector" "it" "LBundleFence$Instruction;" ∈ gtbl := gtt_1 204 rfl rfl
theorem tw357 : Cond.fieldLink "BundleFence$Inspector" 13 "BundleFence$Inspector" "lengths" "[I" ∈ gtbl := gtt_1 205 rfl rfl
theorem tw358 : Cond.fieldLink "BundleFence$Inspector" 17 "BundleFence$Inspector" "traits" "[I" ∈ gtbl := gtt_1 206 rfl rfl
theorem tw359 : Cond.fieldLink "BundleFence$Inspector" 20 "BundleFence$Inspector" "registers" "[I" ∈ gtbl := gtt_1 207 rfl rfl
theorem tw360 : Cond.fieldLink "BundleFence$Inspector" 23 "BundleFence$Inspector" "targets" "[I" ∈ gtbl := gtt_1 208 rfl rfl
theorem tw361 : Cond.fieldLink "BundleFence$Inspector" 26 "BundleFence$Inspector" "marks" "[I" ∈ gtbl := gtt_1 209 rfl rfl
theorem tw362 : Cond.fieldLink "BundleFence$Inspector" 55 "BundleFence$Inspector" "instructions" "I" ∈ gtbl := gtt_1 210 rfl rfl
theorem tw363 : Cond.fieldLink "BundleFence$Inspector" 45 "BundleFence$Inspector" "valid" "Z" ∈ gtbl := gtt_1 211 rfl rfl
theorem tw364 : Cond.fieldLink "BundleFence" 115 "BundleFence$Inspector" "valid" "Z" ∈ gtbl := gtt_1 212 rfl rfl
theorem tw365 : Cond.fieldLink "BundleFence$Inspector" 49 "BundleFence$Inspector" "met" "I" ∈ gtbl := gtt_1 213 rfl rfl
theorem tw366 : Cond.fieldLink "BundleFence" 109 "BundleFence$Inspector" "met" "I" ∈ gtbl := gtt_1 214 rfl rfl
theorem tw367 : Cond.fieldLink "BundleFence$Inspector" 29 "BundleFence$Inspector" "metAt" "I" ∈ gtbl := gtt_1 215 rfl rfl
theorem tw368 : Cond.fieldLink "BundleFence" 112 "BundleFence$Inspector" "metAt" "I" ∈ gtbl := gtt_1 216 rfl rfl
theorem tw446 : Cond.constant "BundleFence$Memory" 11 65536 ∈ gtbl := gtt_2 54 rfl rfl
theorem tw447 : Cond.fieldLink "BundleFence$Memory" 16 "BundleFence$Memory" "image" "LBundleFence$Image;" ∈ gtbl := gtt_2 55 rfl rfl
theorem tw448 : Cond.fieldLink "BundleFence$Memory" 12 "BundleFence$Memory" "data" "[B" ∈ gtbl := gtt_2 56 rfl rfl
theorem tw449 : Cond.fieldLink "BundleFence$Machine" 71 "BundleFence$Memory" "trouble" "I" ∈ gtbl := gtt_2 57 rfl rfl
theorem tw450 : Cond.fieldLink "BundleFence$Memory" 34 "BundleFence$Memory" "trouble" "I" ∈ gtbl := gtt_2 58 rfl rfl
theorem tw464 : Cond.constant "BundleFence$Host" 18 65536 ∈ gtbl := gtt_2 72 rfl rfl
theorem tw465 : Cond.fieldLink "BundleFence$Host" 23 "BundleFence$Host" "memory" "LBundleFence$Memory;" ∈ gtbl := gtt_2 73 rfl rfl
theorem tw466 : Cond.fieldLink "BundleFence$Host" 11 "BundleFence$Host" "output" "[B" ∈ gtbl := gtt_2 74 rfl rfl
theorem tw467 : Cond.fieldLink "BundleFence$Host" 15 "BundleFence$Host" "input" "[B" ∈ gtbl := gtt_2 75 rfl rfl
theorem tw468 : Cond.fieldLink "BundleFence$Host" 36 "BundleFence$Host" "head" "I" ∈ gtbl := gtt_2 76 rfl rfl
theorem tw469 : Cond.fieldLink "BundleFence$Host" 27 "BundleFence$Host" "written" "I" ∈ gtbl := gtt_2 77 rfl rfl
theorem tw470 : Cond.fieldLink "BundleFence" 195 "BundleFence$Host" "written" "I" ∈ gtbl := gtt_2 78 rfl rfl
theorem tw471 : Cond.fieldLink "BundleFence$Host" 33 "BundleFence$Host" "waiting" "I" ∈ gtbl := gtt_2 79 rfl rfl
theorem tw472 : Cond.fieldLink "BundleFence" 156 "BundleFence$Host" "waiting" "I" ∈ gtbl := gtt_2 80 rfl rfl
theorem tw473 : Cond.fieldLink "BundleFence$Host" 19 "BundleFence$Host" "dataBreak" "I" ∈ gtbl := gtt_2 81 rfl rfl
theorem tw474 : Cond.fieldLink "BundleFence" 198 "BundleFence$Host" "dataBreak" "I" ∈ gtbl := gtt_2 82 rfl rfl
theorem tw475 : Cond.fieldLink "BundleFence$Host" 30 "BundleFence$Host" "seed" "I" ∈ gtbl := gtt_2 83 rfl rfl
theorem tw476 : Cond.fieldLink "BundleFence" 201 "BundleFence$Host" "seed" "I" ∈ gtbl := gtt_2 84 rfl rfl
theorem tw506 : Cond.fieldLink "BundleFence$Flags" 7 "BundleFence$Flags" "bits" "I" ∈ gtbl := gtt_2 114 rfl rfl
theorem tw507 : Cond.fieldLink "BundleFence$Machine" 58 "BundleFence$Flags" "bits" "I" ∈ gtbl := gtt_2 115 rfl rfl
theorem tw508 : Cond.fieldLink "BundleFence" 208 "BundleFence$Flags" "bits" "I" ∈ gtbl := gtt_2 116 rfl rfl
theorem tw513 : Cond.instanceMethod ⟨"BundleFence$Machine", "restart", "()V"⟩ ∈ gtbl := gtt_2 121 rfl rfl
theorem tw514 : Cond.selects "BundleFence$Machine" ⟨"BundleFence$Machine", "restart", "()V"⟩ ⟨"BundleFence$Machine", "restart", "()V"⟩ ∈ gtbl := gtt_2 122 rfl rfl
theorem tw515 : Cond.code ⟨"BundleFence$Machine", "restart", "()V"⟩ cX7_restart 2 none ∈ gtbl := gtt_2 123 rfl rfl
theorem tw516 : Cond.constant "BundleFence$Machine" 53 131072 ∈ gtbl := gtt_2 124 rfl rfl
theorem tw517 : Cond.fieldLink "BundleFence$Machine" 30 "BundleFence$Machine" "inspector" "LBundleFence$Inspector;" ∈ gtbl := gtt_2 125 rfl rfl
theorem tw518 : Cond.fieldLink "BundleFence$Machine" 34 "BundleFence$Machine" "decoder" "LBundleFence$Decoder;" ∈ gtbl := gtt_2 126 rfl rfl
theorem tw519 : Cond.fieldLink "BundleFence$Machine" 38 "BundleFence$Machine" "it" "LBundleFence$Instruction;" ∈ gtbl := gtt_2 127 rfl rfl
theorem tw520 : Cond.fieldLink "BundleFence$Machine" 42 "BundleFence$Machine" "memory" "LBundleFence$Memory;" ∈ gtbl := gtt_2 128 rfl rfl
theorem tw521 : Cond.fieldLink "BundleFence$Machine" 46 "BundleFence$Machine" "host" "LBundleFence$Host;" ∈ gtbl := gtt_2 129 rfl rfl
theorem tw522 : Cond.fieldLink "BundleFence$Machine" 12 "BundleFence$Machine" "flags" "LBundleFence$Flags;" ∈ gtbl := gtt_2 130 rfl rfl
theorem tw523 : Cond.fieldLink "BundleFence" 204 "BundleFence$Machine" "flags" "LBundleFence$Flags;" ∈ gtbl := gtt_2 131 rfl rfl
theorem tw524 : Cond.fieldLink "BundleFence$Machine" 18 "BundleFence$Machine" "registers" "[I" ∈ gtbl := gtt_2 132 rfl rfl
theorem tw525 : Cond.fieldLink "BundleFence" 224 "BundleFence$Machine" "registers" "[I" ∈ gtbl := gtt_2 133 rfl rfl
theorem tw526 : Cond.fieldLink "BundleFence$Machine" 24 "BundleFence$Machine" "passes" "[I" ∈ gtbl := gtt_2 134 rfl rfl
theorem tw527 : Cond.fieldLink "BundleFence" 231 "BundleFence$Machine" "passes" "[I" ∈ gtbl := gtt_2 135 rfl rfl
theorem tw528 : Cond.fieldLink "BundleFence$Machine" 27 "BundleFence$Machine" "kept" "[I" ∈ gtbl := gtt_2 136 rfl rfl
theorem tw529 : Cond.fieldLink "BundleFence$Machine" 128 "BundleFence$Machine" "keptFlags" "I" ∈ gtbl := gtt_2 137 rfl rfl
theorem tw530 : Cond.fieldLink "BundleFence$Machine" 68 "BundleFence$Machine" "state" "I" ∈ gtbl := gtt_2 138 rfl rfl
theorem tw531 : Cond.fieldLink "BundleFence" 102 "BundleFence$Machine" "state" "I" ∈ gtbl := gtt_2 139 rfl rfl
theorem tw532 : Cond.fieldLink "BundleFence$Machine" 54 "BundleFence$Machine" "eip" "I" ∈ gtbl := gtt_2 140 rfl rfl
theorem tw533 : Cond.fieldLink "BundleFence" 180 "BundleFence$Machine" "eip" "I" ∈ gtbl := gtt_2 141 rfl rfl
theorem tw534 : Cond.fieldLink "BundleFence$Machine" 61 "BundleFence$Machine" "leftWith" "I" ∈ gtbl := gtt_2 142 rfl rfl
theorem tw535 : Cond.fieldLink "BundleFence" 192 "BundleFence$Machine" "leftWith" "I" ∈ gtbl := gtt_2 143 rfl rfl
theorem tw536 : Cond.fieldLink "BundleFence$Machine" 64 "BundleFence$Machine" "done" "J" ∈ gtbl := gtt_2 144 rfl rfl
theorem tw537 : Cond.fieldLink "BundleFence" 215 "BundleFence$Machine" "done" "J" ∈ gtbl := gtt_2 145 rfl rfl
theorem tw538 : Cond.fieldLink "BundleFence$Machine" 143 "BundleFence$Machine" "where" "I" ∈ gtbl := gtt_2 146 rfl rfl
theorem tw539 : Cond.fieldLink "BundleFence$Machine" 136 "BundleFence$Machine" "follower" "I" ∈ gtbl := gtt_2 147 rfl rfl
theorem tw573 : Cond.fieldLink "BundleFence" 10 "BundleFence" "image" "LBundleFence$Image;" ∈ gtbl := gtt_2 181 rfl rfl
theorem tw575 : Cond.fieldLink "BundleFence" 28 "BundleFence" "decoder" "LBundleFence$Decoder;" ∈ gtbl := gtt_2 183 rfl rfl
theorem tw576 : Cond.fieldLink "BundleFence" 37 "BundleFence" "inspector" "LBundleFence$Inspector;" ∈ gtbl := gtt_2 184 rfl rfl
theorem tw578 : Cond.fieldLink "BundleFence" 55 "BundleFence" "memory" "LBundleFence$Memory;" ∈ gtbl := gtt_2 186 rfl rfl
theorem tw579 : Cond.fieldLink "BundleFence" 64 "BundleFence" "host" "LBundleFence$Host;" ∈ gtbl := gtt_2 187 rfl rfl
theorem tw580 : Cond.fieldLink "BundleFence" 73 "BundleFence" "machine" "LBundleFence$Machine;" ∈ gtbl := gtt_2 188 rfl rfl
theorem tw581 : Cond.fieldLink "BundleFence" 77 "BundleFence" "breakpoints" "[Z" ∈ gtbl := gtt_2 189 rfl rfl
theorem tw606 : Cond.methodLink "BundleFence" 96 ⟨"BundleFence", "forgetProgram", "()V"⟩ ∈ gtbl := gtt_2 214 rfl rfl
theorem tw608 : Cond.instanceMethod ⟨"BundleFence", "forgetProgram", "()V"⟩ ∈ gtbl := gtt_2 216 rfl rfl
theorem tw609 : Cond.code ⟨"BundleFence", "forgetProgram", "()V"⟩ cX11_forgetProgram 1 none ∈ gtbl := gtt_2 217 rfl rfl
theorem tw610 : Cond.methodLink "BundleFence" 99 ⟨"BundleFence$Inspector", "forget", "()V"⟩ ∈ gtbl := gtt_2 218 rfl rfl
theorem tw611 : Cond.instanceMethod ⟨"BundleFence$Inspector", "forget", "()V"⟩ ∈ gtbl := gtt_2 219 rfl rfl
theorem tw612 : Cond.selects "BundleFence$Inspector" ⟨"BundleFence$Inspector", "forget", "()V"⟩ ⟨"BundleFence$Inspector", "forget", "()V"⟩ ∈ gtbl := gtt_2 220 rfl rfl
theorem tw613 : Cond.code ⟨"BundleFence$Inspector", "forget", "()V"⟩ cX5_forget 1 none ∈ gtbl := gtt_2 221 rfl rfl
theorem tw618 : Cond.methodLink "BundleFence" 105 ⟨"BundleFence$Inspector", "inspect", "()I"⟩ ∈ gtbl := gtt_2 226 rfl rfl
theorem tw619 : Cond.instanceMethod ⟨"BundleFence$Inspector", "inspect", "()I"⟩ ∈ gtbl := gtt_2 227 rfl rfl
theorem tw620 : Cond.selects "BundleFence$Inspector" ⟨"BundleFence$Inspector", "inspect", "()I"⟩ ⟨"BundleFence$Inspector", "inspect", "()I"⟩ ∈ gtbl := gtt_2 228 rfl rfl
theorem tw621 : Cond.code ⟨"BundleFence$Inspector", "inspect", "()I"⟩ cX5_inspect 2 (some .int) ∈ gtbl := gtt_2 229 rfl rfl
theorem tw622 : Cond.methodLink "BundleFence$Inspector" 52 ⟨"BundleFence$Inspector", "forget", "()V"⟩ ∈ gtbl := gtt_2 230 rfl rfl
theorem tw623 : Cond.methodLink "BundleFence$Inspector" 58 ⟨"BundleFence$Decoder", "decode", "(I)I"⟩ ∈ gtbl := gtt_2 231 rfl rfl
theorem tw624 : Cond.instanceMethod ⟨"BundleFence$Decoder", "decode", "(I)I"⟩ ∈ gtbl := gtt_2 232 rfl rfl
theorem tw625 : Cond.selects "BundleFence$Decoder" ⟨"BundleFence$Decoder", "decode", "(I)I"⟩ ⟨"BundleFence$Decoder", "decode", "(I)I"⟩ ∈ gtbl := gtt_2 233 rfl rfl
theorem tw626 : Cond.code ⟨"BundleFence$Decoder", "decode", "(I)I"⟩ cX1_decode 3 (some .int) ∈ gtbl := gtt_2 234 rfl rfl
theorem tw627 : Cond.methodLink "BundleFence$Decoder" 19 ⟨"BundleFence$Instruction", "clear", "()V"⟩ ∈ gtbl := gtt_2 235 rfl rfl
theorem tw628 : Cond.instanceMethod ⟨"BundleFence$Instruction", "clear", "()V"⟩ ∈ gtbl := gtt_2 236 rfl rfl
theorem tw629 : Cond.selects "BundleFence$Instruction" ⟨"BundleFence$Instruction", "clear", "()V"⟩ ⟨"BundleFence$Instruction", "clear", "()V"⟩ ∈ gtbl := gtt_2 237 rfl rfl
theorem tw630 : Cond.code ⟨"BundleFence$Instruction", "clear", "()V"⟩ cX6_clear 1 none ∈ gtbl := gtt_2 238 rfl rfl
theorem tw631 : Cond.methodLink "BundleFence$Decoder" 24 ⟨"BundleFence$Image", "has", "(I)Z"⟩ ∈ gtbl := gtt_2 239 rfl rfl
theorem tw632 : Cond.instanceMethod ⟨"BundleFence$Image", "has", "(I)Z"⟩ ∈ gtbl := gtt_3 0 rfl rfl
theorem tw633 : Cond.selects "BundleFence$Image" ⟨"BundleFence$Image", "has", "(I)Z"⟩ ⟨"BundleFence$Image", "has", "(I)Z"⟩ ∈ gtbl := gtt_3 1 rfl rfl
theorem tw634 : Cond.code ⟨"BundleFence$Image", "has", "(I)Z"⟩ cX4_has 2 (some .boolean) ∈ gtbl := gtt_3 2 rfl rfl
theorem tw635 : Cond.methodLink "BundleFence$Decoder" 50 ⟨"BundleFence$Decoder", "nextByte", "()I"⟩ ∈ gtbl := gtt_3 3 rfl rfl
theorem tw637 : Cond.instanceMethod ⟨"BundleFence$Decoder", "nextByte", "()I"⟩ ∈ gtbl := gtt_3 5 rfl rfl
theorem tw638 : Cond.code ⟨"BundleFence$Decoder", "nextByte", "()I"⟩ cX1_nextByte 2 (some .int) ∈ gtbl := gtt_3 6 rfl rfl
theorem tw639 : Cond.methodLink "BundleFence$Decoder" 57 ⟨"BundleFence$Decoder", "chooseLong", "(I)V"⟩ ∈ gtbl := gtt_3 7 rfl rfl
theorem tw641 : Cond.instanceMethod ⟨"BundleFence$Decoder", "chooseLong", "(I)V"⟩ ∈ gtbl := gtt_3 9 rfl rfl
theorem tw642 : Cond.code ⟨"BundleFence$Decoder", "chooseLong", "(I)V"⟩ cX1_chooseLong 2 none ∈ gtbl := gtt_3 10 rfl rfl
theorem tw643 : Cond.fieldLink "BundleFence$Decoder" 222 "BundleFence$Op" "NOP" "LBundleFence$Op;" ∈ gtbl := gtt_3 11 rfl rfl
theorem tw644 : Cond.methodLink "BundleFence$Decoder" 175 ⟨"BundleFence$Decoder", "withE", "(LBundleFence$Op;II)V"⟩ ∈ gtbl := gtt_3 12 rfl rfl
theorem tw646 : Cond.instanceMethod ⟨"BundleFence$Decoder", "withE", "(LBundleFence$Op;II)V"⟩ ∈ gtbl := gtt_3 14 rfl rfl
theorem tw647 : Cond.code ⟨"BundleFence$Decoder", "withE", "(LBundleFence$Op;II)V"⟩ cX1_withE 4 none ∈ gtbl := gtt_3 15 rfl rfl
theorem tw648 : Cond.fieldLink "BundleFence$Decoder" 267 "BundleFence$Op" "CMOV" "LBundleFence$Op;" ∈ gtbl := gtt_3 16 rfl rfl
theorem tw650 : Cond.fieldLink "BundleFence$Decoder" 166 "BundleFence$Op" "J" "LBundleFence$Op;" ∈ gtbl := gtt_3 18 rfl rfl
theorem tw652 : Cond.methodLink "BundleFence$Decoder" 143 ⟨"BundleFence$Decoder", "plain", "(LBundleFence$Op;III)V"⟩ ∈ gtbl := gtt_3 20 rfl rfl
theorem tw654 : Cond.instanceMethod ⟨"BundleFence$Decoder", "plain", "(LBundleFence$Op;III)V"⟩ ∈ gtbl := gtt_3 22 rfl rfl
theorem tw655 : Cond.code ⟨"BundleFence$Decoder", "plain", "(LBundleFence$Op;III)V"⟩ cX1_plain 5 none ∈ gtbl := gtt_3 23 rfl rfl
theorem tw656 : Cond.fieldLink "BundleFence$Decoder" 270 "BundleFence$Op" "SET" "LBundleFence$Op;" ∈ gtbl := gtt_3 24 rfl rfl
theorem tw658 : Cond.methodLink "BundleFence$Decoder" 273 ⟨"BundleFence$Decoder", "chooseLongMore", "(I)V"⟩ ∈ gtbl := gtt_3 26 rfl rfl
theorem tw660 : Cond.instanceMethod ⟨"BundleFence$Decoder", "chooseLongMore", "(I)V"⟩ ∈ gtbl := gtt_3 28 rfl rfl
theorem tw661 : Cond.code ⟨"BundleFence$Decoder", "chooseLongMore", "(I)V"⟩ cX1_chooseLongMore 2 none ∈ gtbl := gtt_3 29 rfl rfl
theorem tw662 : Cond.fieldLink "BundleFence$Decoder" 279 "BundleFence$Op" "SHLD" "LBundleFence$Op;" ∈ gtbl := gtt_3 30 rfl rfl
theorem tw664 : Cond.fieldLink "BundleFence$Decoder" 282 "BundleFence$Op" "SHRD" "LBundleFence$Op;" ∈ gtbl := gtt_3 32 rfl rfl
theorem tw666 : Cond.fieldLink "BundleFence$Decoder" 179 "BundleFence$Op" "IMUL" "LBundleFence$Op;" ∈ gtbl := gtt_3 34 rfl rfl
theorem tw668 : Cond.fieldLink "BundleFence$Decoder" 285 "BundleFence$Op" "CMPXCHG" "LBundleFence$Op;" ∈ gtbl := gtt_3 36 rfl rfl
theorem tw670 : Cond.fieldLink "BundleFence$Decoder" 288 "BundleFence$Op" "MOVZX" "LBundleFence$Op;" ∈ gtbl := gtt_3 38 rfl rfl
theorem tw672 : Cond.fieldLink "BundleFence$Decoder" 291 "BundleFence$Op" "BSF" "LBundleFence$Op;" ∈ gtbl := gtt_3 40 rfl rfl
theorem tw674 : Cond.fieldLink "BundleFence$Decoder" 294 "BundleFence$Op" "BSR" "LBundleFence$Op;" ∈ gtbl := gtt_3 42 rfl rfl
theorem tw676 : Cond.fieldLink "BundleFence$Decoder" 297 "BundleFence$Op" "MOVSX" "LBundleFence$Op;" ∈ gtbl := gtt_3 44 rfl rfl
theorem tw678 : Cond.methodLink "BundleFence$Decoder" 276 ⟨"BundleFence$Decoder", "chooseSwap", "(I)V"⟩ ∈ gtbl := gtt_3 46 rfl rfl
theorem tw680 : Cond.instanceMethod ⟨"BundleFence$Decoder", "chooseSwap", "(I)V"⟩ ∈ gtbl := gtt_3 48 rfl rfl
theorem tw681 : Cond.code ⟨"BundleFence$Decoder", "chooseSwap", "(I)V"⟩ cX1_chooseSwap 2 none ∈ gtbl := gtt_3 49 rfl rfl
theorem tw682 : Cond.fieldLink "BundleFence$Decoder" 300 "BundleFence$Op" "BSWAP" "LBundleFence$Op;" ∈ gtbl := gtt_3 50 rfl rfl
theorem tw684 : Cond.methodLink "BundleFence$Decoder" 150 ⟨"BundleFence$Decoder", "withRegister", "(LBundleFence$Op;I)V"⟩ ∈ gtbl := gtt_3 52 rfl rfl
theorem tw686 : Cond.instanceMethod ⟨"BundleFence$Decoder", "withRegister", "(LBundleFence$Op;I)V"⟩ ∈ gtbl := gtt_3 54 rfl rfl
theorem tw687 : Cond.code ⟨"BundleFence$Decoder", "withRegister", "(LBundleFence$Op;I)V"⟩ cX1_withRegister 3 none ∈ gtbl := gtt_3 55 rfl rfl
theorem tw688 : Cond.fieldLink "BundleFence$Decoder" 303 "BundleFence$Op" "XADD" "LBundleFence$Op;" ∈ gtbl := gtt_3 56 rfl rfl
theorem tw690 : Cond.methodLink "BundleFence$Decoder" 61 ⟨"BundleFence$Decoder", "chooseWord", "(I)V"⟩ ∈ gtbl := gtt_3 58 rfl rfl
theorem tw692 : Cond.instanceMethod ⟨"BundleFence$Decoder", "chooseWord", "(I)V"⟩ ∈ gtbl := gtt_3 60 rfl rfl
theorem tw693 : Cond.code ⟨"BundleFence$Decoder", "chooseWord", "(I)V"⟩ cX1_chooseWord 2 none ∈ gtbl := gtt_3 61 rfl rfl
theorem tw694 : Cond.fieldLink "BundleFence$Decoder" 200 "BundleFence$Op" "MOV" "LBundleFence$Op;" ∈ gtbl := gtt_3 62 rfl rfl
theorem tw696 : Cond.methodLink "BundleFence$Decoder" 64 ⟨"BundleFence$Decoder", "chooseLow", "(I)V"⟩ ∈ gtbl := gtt_3 64 rfl rfl
theorem tw698 : Cond.instanceMethod ⟨"BundleFence$Decoder", "chooseLow", "(I)V"⟩ ∈ gtbl := gtt_3 66 rfl rfl
theorem tw699 : Cond.code ⟨"BundleFence$Decoder", "chooseLow", "(I)V"⟩ cX1_chooseLow 3 none ∈ gtbl := gtt_3 67 rfl rfl
theorem tw700 : Cond.fieldLink "BundleFence$Decoder" 147 "BundleFence$Op" "INC" "LBundleFence$Op;" ∈ gtbl := gtt_3 68 rfl rfl
theorem tw702 : Cond.fieldLink "BundleFence$Decoder" 154 "BundleFence$Op" "DEC" "LBundleFence$Op;" ∈ gtbl := gtt_3 70 rfl rfl
theorem tw704 : Cond.fieldLink "BundleFence$Decoder" 157 "BundleFence$Op" "PUSH" "LBundleFence$Op;" ∈ gtbl := gtt_3 72 rfl rfl
theorem tw706 : Cond.fieldLink "BundleFence$Decoder" 160 "BundleFence$Op" "POP" "LBundleFence$Op;" ∈ gtbl := gtt_3 74 rfl rfl
theorem tw708 : Cond.methodLink "BundleFence$Decoder" 163 ⟨"BundleFence$Decoder", "choosePush", "(I)V"⟩ ∈ gtbl := gtt_3 76 rfl rfl
theorem tw710 : Cond.instanceMethod ⟨"BundleFence$Decoder", "choosePush", "(I)V"⟩ ∈ gtbl := gtt_3 78 rfl rfl
theorem tw711 : Cond.code ⟨"BundleFence$Decoder", "choosePush", "(I)V"⟩ cX1_choosePush 3 none ∈ gtbl := gtt_3 79 rfl rfl
theorem tw712 : Cond.fieldLink "BundleFence$Decoder" 118 "BundleFence$Decoder" "OPS" "[LBundleFence$Op;" ∈ gtbl := gtt_3 80 rfl rfl
theorem tw714 : Cond.methodLink "BundleFence$Decoder" 172 ⟨"BundleFence$Decoder", "chooseEight", "(LBundleFence$Op;I)V"⟩ ∈ gtbl := gtt_3 82 rfl rfl
theorem tw716 : Cond.instanceMethod ⟨"BundleFence$Decoder", "chooseEight", "(LBundleFence$Op;I)V"⟩ ∈ gtbl := gtt_3 84 rfl rfl
theorem tw717 : Cond.code ⟨"BundleFence$Decoder", "chooseEight", "(LBundleFence$Op;I)V"⟩ cX1_chooseEight 4 none ∈ gtbl := gtt_3 85 rfl rfl
theorem tw718 : Cond.methodLink "BundleFence$Decoder" 67 ⟨"BundleFence$Decoder", "chooseHigh", "(II)V"⟩ ∈ gtbl := gtt_3 86 rfl rfl
theorem tw720 : Cond.instanceMethod ⟨"BundleFence$Decoder", "chooseHigh", "(II)V"⟩ ∈ gtbl := gtt_3 88 rfl rfl
theorem tw721 : Cond.code ⟨"BundleFence$Decoder", "chooseHigh", "(II)V"⟩ cX1_chooseHigh 3 none ∈ gtbl := gtt_3 89 rfl rfl
theorem tw722 : Cond.methodLink "BundleFence$Decoder" 182 ⟨"BundleFence$Decoder", "chooseGroup", "(II)V"⟩ ∈ gtbl := gtt_3 90 rfl rfl
theorem tw724 : Cond.instanceMethod ⟨"BundleFence$Decoder", "chooseGroup", "(II)V"⟩ ∈ gtbl := gtt_3 92 rfl rfl
theorem tw725 : Cond.code ⟨"BundleFence$Decoder", "chooseGroup", "(II)V"⟩ cX1_chooseGroup 3 none ∈ gtbl := gtt_3 93 rfl rfl
theorem tw726 : Cond.fieldLink "BundleFence$Decoder" 197 "BundleFence$Op" "TEST" "LBundleFence$Op;" ∈ gtbl := gtt_3 94 rfl rfl
theorem tw728 : Cond.fieldLink "BundleFence$Decoder" 216 "BundleFence$Op" "XCHG" "LBundleFence$Op;" ∈ gtbl := gtt_3 96 rfl rfl
theorem tw730 : Cond.methodLink "BundleFence$Decoder" 206 ⟨"BundleFence$Decoder", "withDigit", "(III)V"⟩ ∈ gtbl := gtt_3 98 rfl rfl
theorem tw732 : Cond.instanceMethod ⟨"BundleFence$Decoder", "withDigit", "(III)V"⟩ ∈ gtbl := gtt_3 100 rfl rfl
theorem tw733 : Cond.code ⟨"BundleFence$Decoder", "withDigit", "(III)V"⟩ cX1_withDigit 4 none ∈ gtbl := gtt_3 101 rfl rfl
theorem tw734 : Cond.methodLink "BundleFence$Decoder" 185 ⟨"BundleFence$Decoder", "chooseMove", "(II)V"⟩ ∈ gtbl := gtt_3 102 rfl rfl
theorem tw736 : Cond.instanceMethod ⟨"BundleFence$Decoder", "chooseMove", "(II)V"⟩ ∈ gtbl := gtt_3 104 rfl rfl
theorem tw737 : Cond.code ⟨"BundleFence$Decoder", "chooseMove", "(II)V"⟩ cX1_chooseMove 3 none ∈ gtbl := gtt_3 105 rfl rfl
theorem tw738 : Cond.fieldLink "BundleFence$Decoder" 219 "BundleFence$Op" "LEA" "LBundleFence$Op;" ∈ gtbl := gtt_3 106 rfl rfl
theorem tw740 : Cond.methodLink "BundleFence$Decoder" 188 ⟨"BundleFence$Decoder", "chooseXchg", "(I)V"⟩ ∈ gtbl := gtt_3 108 rfl rfl
theorem tw742 : Cond.instanceMethod ⟨"BundleFence$Decoder", "chooseXchg", "(I)V"⟩ ∈ gtbl := gtt_3 110 rfl rfl
theorem tw743 : Cond.code ⟨"BundleFence$Decoder", "chooseXchg", "(I)V"⟩ cX1_chooseXchg 2 none ∈ gtbl := gtt_3 111 rfl rfl
theorem tw744 : Cond.fieldLink "BundleFence$Decoder" 191 "BundleFence$Op" "CWDE" "LBundleFence$Op;" ∈ gtbl := gtt_3 112 rfl rfl
theorem tw746 : Cond.fieldLink "BundleFence$Decoder" 194 "BundleFence$Op" "CDQ" "LBundleFence$Op;" ∈ gtbl := gtt_3 114 rfl rfl
theorem tw748 : Cond.methodLink "BundleFence$Decoder" 203 ⟨"BundleFence$Decoder", "chooseShiftOrMove", "(II)V"⟩ ∈ gtbl := gtt_3 116 rfl rfl
theorem tw750 : Cond.instanceMethod ⟨"BundleFence$Decoder", "chooseShiftOrMove", "(II)V"⟩ ∈ gtbl := gtt_3 118 rfl rfl
theorem tw751 : Cond.code ⟨"BundleFence$Decoder", "chooseShiftOrMove", "(II)V"⟩ cX1_chooseShiftOrMove 3 none ∈ gtbl := gtt_3 119 rfl rfl
theorem tw752 : Cond.methodLink "BundleFence$Decoder" 210 ⟨"BundleFence$Decoder", "chooseJump", "(I)V"⟩ ∈ gtbl := gtt_3 120 rfl rfl
theorem tw754 : Cond.instanceMethod ⟨"BundleFence$Decoder", "chooseJump", "(I)V"⟩ ∈ gtbl := gtt_3 122 rfl rfl
theorem tw755 : Cond.code ⟨"BundleFence$Decoder", "chooseJump", "(I)V"⟩ cX1_chooseJump 2 none ∈ gtbl := gtt_3 123 rfl rfl
theorem tw756 : Cond.fieldLink "BundleFence$Decoder" 225 "BundleFence$Op" "LOOP" "LBundleFence$Op;" ∈ gtbl := gtt_3 124 rfl rfl
theorem tw758 : Cond.fieldLink "BundleFence$Decoder" 228 "BundleFence$Op" "JECXZ" "LBundleFence$Op;" ∈ gtbl := gtt_3 126 rfl rfl
theorem tw760 : Cond.fieldLink "BundleFence$Decoder" 231 "BundleFence$Op" "CALL" "LBundleFence$Op;" ∈ gtbl := gtt_3 128 rfl rfl
theorem tw762 : Cond.fieldLink "BundleFence$Decoder" 234 "BundleFence$Op" "JMP" "LBundleFence$Op;" ∈ gtbl := gtt_3 130 rfl rfl
theorem tw764 : Cond.methodLink "BundleFence$Decoder" 213 ⟨"BundleFence$Decoder", "chooseLast", "(II)V"⟩ ∈ gtbl := gtt_3 132 rfl rfl
theorem tw766 : Cond.instanceMethod ⟨"BundleFence$Decoder", "chooseLast", "(II)V"⟩ ∈ gtbl := gtt_3 134 rfl rfl
theorem tw767 : Cond.code ⟨"BundleFence$Decoder", "chooseLast", "(II)V"⟩ cX1_chooseLast 3 none ∈ gtbl := gtt_3 135 rfl rfl
theorem tw768 : Cond.fieldLink "BundleFence$Decoder" 237 "BundleFence$Op" "HLT" "LBundleFence$Op;" ∈ gtbl := gtt_3 136 rfl rfl
theorem tw770 : Cond.fieldLink "BundleFence$Decoder" 240 "BundleFence$Op" "CMC" "LBundleFence$Op;" ∈ gtbl := gtt_3 138 rfl rfl
theorem tw772 : Cond.fieldLink "BundleFence$Decoder" 243 "BundleFence$Op" "CLC" "LBundleFence$Op;" ∈ gtbl := gtt_3 140 rfl rfl
theorem tw774 : Cond.fieldLink "BundleFence$Decoder" 246 "BundleFence$Op" "STC" "LBundleFence$Op;" ∈ gtbl := gtt_3 142 rfl rfl
theorem tw776 : Cond.methodLink "BundleFence$Decoder" 71 ⟨"BundleFence$Decoder", "readE", "()V"⟩ ∈ gtbl := gtt_3 144 rfl rfl
theorem tw778 : Cond.instanceMethod ⟨"BundleFence$Decoder", "readE", "()V"⟩ ∈ gtbl := gtt_3 146 rfl rfl
theorem tw779 : Cond.code ⟨"BundleFence$Decoder", "readE", "()V"⟩ cX1_readE 5 none ∈ gtbl := gtt_3 147 rfl rfl
theorem tw780 : Cond.methodLink "BundleFence$Decoder" 77 ⟨"BundleFence$Decoder", "nextNumber", "(I)I"⟩ ∈ gtbl := gtt_3 148 rfl rfl
theorem tw782 : Cond.instanceMethod ⟨"BundleFence$Decoder", "nextNumber", "(I)I"⟩ ∈ gtbl := gtt_3 150 rfl rfl
theorem tw783 : Cond.code ⟨"BundleFence$Decoder", "nextNumber", "(I)I"⟩ cX1_nextNumber 4 (some .int) ∈ gtbl := gtt_3 151 rfl rfl
theorem tw784 : Cond.methodLink "BundleFence$Decoder" 74 ⟨"BundleFence$Decoder", "chooseByDigit", "()V"⟩ ∈ gtbl := gtt_3 152 rfl rfl
theorem tw786 : Cond.instanceMethod ⟨"BundleFence$Decoder", "chooseByDigit", "()V"⟩ ∈ gtbl := gtt_3 154 rfl rfl
theorem tw787 : Cond.code ⟨"BundleFence$Decoder", "chooseByDigit", "()V"⟩ cX1_chooseByDigit 2 none ∈ gtbl := gtt_3 155 rfl rfl
theorem tw788 : Cond.fieldLink "BundleFence$Decoder" 126 "BundleFence$Op" "NO_SHIFT" "LBundleFence$Op;" ∈ gtbl := gtt_3 156 rfl rfl
theorem tw790 : Cond.methodLink "BundleFence$Decoder" 131 ⟨"BundleFence$Decoder", "chooseSingle", "(I)V"⟩ ∈ gtbl := gtt_3 158 rfl rfl
theorem tw792 : Cond.instanceMethod ⟨"BundleFence$Decoder", "chooseSingle", "(I)V"⟩ ∈ gtbl := gtt_3 160 rfl rfl
theorem tw793 : Cond.code ⟨"BundleFence$Decoder", "chooseSingle", "(I)V"⟩ cX1_chooseSingle 2 none ∈ gtbl := gtt_3 161 rfl rfl
theorem tw794 : Cond.fieldLink "BundleFence$Decoder" 249 "BundleFence$Op" "NOT" "LBundleFence$Op;" ∈ gtbl := gtt_3 162 rfl rfl
theorem tw796 : Cond.fieldLink "BundleFence$Decoder" 252 "BundleFence$Op" "NEG" "LBundleFence$Op;" ∈ gtbl := gtt_3 164 rfl rfl
theorem tw798 : Cond.fieldLink "BundleFence$Decoder" 255 "BundleFence$Op" "MUL" "LBundleFence$Op;" ∈ gtbl := gtt_3 166 rfl rfl
theorem tw800 : Cond.fieldLink "BundleFence$Decoder" 258 "BundleFence$Op" "IMUL_WIDE" "LBundleFence$Op;" ∈ gtbl := gtt_3 168 rfl rfl
theorem tw802 : Cond.fieldLink "BundleFence$Decoder" 261 "BundleFence$Op" "DIV" "LBundleFence$Op;" ∈ gtbl := gtt_3 170 rfl rfl
theorem tw804 : Cond.fieldLink "BundleFence$Decoder" 264 "BundleFence$Op" "IDIV" "LBundleFence$Op;" ∈ gtbl := gtt_3 172 rfl rfl
theorem tw806 : Cond.methodLink "BundleFence$Decoder" 134 ⟨"BundleFence$Decoder", "chooseCounting", "(I)V"⟩ ∈ gtbl := gtt_3 174 rfl rfl
theorem tw808 : Cond.instanceMethod ⟨"BundleFence$Decoder", "chooseCounting", "(I)V"⟩ ∈ gtbl := gtt_3 176 rfl rfl
theorem tw809 : Cond.code ⟨"BundleFence$Decoder", "chooseCounting", "(I)V"⟩ cX1_chooseCounting 2 none ∈ gtbl := gtt_3 177 rfl rfl
theorem tw810 : Cond.methodLink "BundleFence$Inspector" 64 ⟨"BundleFence$Inspector", "traitsOfIt", "()I"⟩ ∈ gtbl := gtt_3 178 rfl rfl
theorem tw812 : Cond.instanceMethod ⟨"BundleFence$Inspector", "traitsOfIt", "()I"⟩ ∈ gtbl := gtt_3 180 rfl rfl
theorem tw813 : Cond.code ⟨"BundleFence$Inspector", "traitsOfIt", "()I"⟩ cX5_traitsOfIt 2 (some .int) ∈ gtbl := gtt_3 181 rfl rfl
theorem tw814 : Cond.methodLink "BundleFence$Inspector" 92 ⟨"BundleFence$Instruction", "writesStackPointer", "()Z"⟩ ∈ gtbl := gtt_3 182 rfl rfl
theorem tw815 : Cond.instanceMethod ⟨"BundleFence$Instruction", "writesStackPointer", "()Z"⟩ ∈ gtbl := gtt_3 183 rfl rfl
theorem tw816 : Cond.selects "BundleFence$Instruction" ⟨"BundleFence$Instruction", "writesStackPointer", "()Z"⟩ ⟨"BundleFence$Instruction", "writesStackPointer", "()Z"⟩ ∈ gtbl := gtt_3 184 rfl rfl
theorem tw817 : Cond.code ⟨"BundleFence$Instruction", "writesStackPointer", "()Z"⟩ cX6_writesStackPointer 3 (some .boolean) ∈ gtbl := gtt_3 185 rfl rfl
theorem tw818 : Cond.methodLink "BundleFence$Instruction" 67 ⟨"BundleFence$Instruction", "startsWithG", "()Z"⟩ ∈ gtbl := gtt_3 186 rfl rfl
theorem tw819 : Cond.instanceMethod ⟨"BundleFence$Instruction", "startsWithG", "()Z"⟩ ∈ gtbl := gtt_3 187 rfl rfl
theorem tw820 : Cond.selects "BundleFence$Instruction" ⟨"BundleFence$Instruction", "startsWithG", "()Z"⟩ ⟨"BundleFence$Instruction", "startsWithG", "()Z"⟩ ∈ gtbl := gtt_3 188 rfl rfl
theorem tw821 : Cond.code ⟨"BundleFence$Instruction", "startsWithG", "()Z"⟩ cX6_startsWithG 1 (some .boolean) ∈ gtbl := gtt_3 189 rfl rfl
theorem tw822 : Cond.methodLink "BundleFence$Inspector" 96 ⟨"BundleFence$Instruction", "writesMemory", "()Z"⟩ ∈ gtbl := gtt_3 190 rfl rfl
theorem tw823 : Cond.instanceMethod ⟨"BundleFence$Instruction", "writesMemory", "()Z"⟩ ∈ gtbl := gtt_3 191 rfl rfl
theorem tw824 : Cond.selects "BundleFence$Instruction" ⟨"BundleFence$Instruction", "writesMemory", "()Z"⟩ ⟨"BundleFence$Instruction", "writesMemory", "()Z"⟩ ∈ gtbl := gtt_3 192 rfl rfl
theorem tw825 : Cond.code ⟨"BundleFence$Instruction", "writesMemory", "()Z"⟩ cX6_writesMemory 1 (some .boolean) ∈ gtbl := gtt_3 193 rfl rfl
theorem tw826 : Cond.methodLink "BundleFence$Inspector" 99 ⟨"BundleFence$Instruction", "isNear", "()Z"⟩ ∈ gtbl := gtt_3 194 rfl rfl
theorem tw827 : Cond.instanceMethod ⟨"BundleFence$Instruction", "isNear", "()Z"⟩ ∈ gtbl := gtt_3 195 rfl rfl
theorem tw828 : Cond.selects "BundleFence$Instruction" ⟨"BundleFence$Instruction", "isNear", "()Z"⟩ ⟨"BundleFence$Instruction", "isNear", "()Z"⟩ ∈ gtbl := gtt_3 196 rfl rfl
theorem tw829 : Cond.code ⟨"BundleFence$Instruction", "isNear", "()Z"⟩ cX6_isNear 1 (some .boolean) ∈ gtbl := gtt_3 197 rfl rfl
theorem tw830 : Cond.methodLink "BundleFence$Inspector" 102 ⟨"BundleFence$Instruction", "isFixedInData", "()Z"⟩ ∈ gtbl := gtt_3 198 rfl rfl
theorem tw831 : Cond.instanceMethod ⟨"BundleFence$Instruction", "isFixedInData", "()Z"⟩ ∈ gtbl := gtt_3 199 rfl rfl
theorem tw832 : Cond.selects "BundleFence$Instruction" ⟨"BundleFence$Instruction", "isFixedInData", "()Z"⟩ ⟨"BundleFence$Instruction", "isFixedInData", "()Z"⟩ ∈ gtbl := gtt_3 200 rfl rfl
theorem tw833 : Cond.code ⟨"BundleFence$Instruction", "isFixedInData", "()Z"⟩ cX6_isFixedInData 1 (some .boolean) ∈ gtbl := gtt_3 201 rfl rfl
theorem tw834 : Cond.methodLink "BundleFence$Instruction" 71 ⟨"BundleFence$Memory", "inData", "(IJ)Z"⟩ ∈ gtbl := gtt_3 202 rfl rfl
theorem tw835 : Cond.static ⟨"BundleFence$Memory", "inData", "(IJ)Z"⟩ ∈ gtbl := gtt_3 203 rfl rfl
theorem tw836 : Cond.code ⟨"BundleFence$Memory", "inData", "(IJ)Z"⟩ cX8_inData 3 (some .boolean) ∈ gtbl := gtt_3 204 rfl rfl
theorem tw837 : Cond.constant "BundleFence$Memory" 22 131072 ∈ gtbl := gtt_3 205 rfl rfl
theorem tw838 : Cond.methodLink "BundleFence$Memory" 23 ⟨"BundleFence$Memory", "isWithin", "(IJII)Z"⟩ ∈ gtbl := gtt_3 206 rfl rfl
theorem tw839 : Cond.static ⟨"BundleFence$Memory", "isWithin", "(IJII)Z"⟩ ∈ gtbl := gtt_3 207 rfl rfl
theorem tw840 : Cond.code ⟨"BundleFence$Memory", "isWithin", "(IJII)Z"⟩ cX8_isWithin 7 (some .boolean) ∈ gtbl := gtt_3 208 rfl rfl
theorem tw841 : Cond.constantLong "BundleFence$Memory" 20 4294967295 ∈ gtbl := gtt_3 209 rfl rfl
theorem tw842 : Cond.fieldLink "BundleFence$Inspector" 105 "BundleFence$Op" "AND" "LBundleFence$Op;" ∈ gtbl := gtt_3 210 rfl rfl
theorem tw844 : Cond.methodLink "BundleFence$Inspector" 111 ⟨"BundleFence$Instruction", "isMask", "(LBundleFence$Op;II)Z"⟩ ∈ gtbl := gtt_3 212 rfl rfl
theorem tw845 : Cond.instanceMethod ⟨"BundleFence$Instruction", "isMask", "(LBundleFence$Op;II)Z"⟩ ∈ gtbl := gtt_3 213 rfl rfl
theorem tw846 : Cond.selects "BundleFence$Instruction" ⟨"BundleFence$Instruction", "isMask", "(LBundleFence$Op;II)Z"⟩ ⟨"BundleFence$Instruction", "isMask", "(LBundleFence$Op;II)Z"⟩ ∈ gtbl := gtt_3 214 rfl rfl
theorem tw847 : Cond.code ⟨"BundleFence$Instruction", "isMask", "(LBundleFence$Op;II)Z"⟩ cX6_isMask 4 (some .boolean) ∈ gtbl := gtt_3 215 rfl rfl
theorem tw848 : Cond.methodLink "BundleFence$Inspector" 115 ⟨"BundleFence$Instruction", "isRegisterJump", "()Z"⟩ ∈ gtbl := gtt_3 216 rfl rfl
theorem tw849 : Cond.instanceMethod ⟨"BundleFence$Instruction", "isRegisterJump", "()Z"⟩ ∈ gtbl := gtt_3 217 rfl rfl
theorem tw850 : Cond.selects "BundleFence$Instruction" ⟨"BundleFence$Instruction", "isRegisterJump", "()Z"⟩ ⟨"BundleFence$Instruction", "isRegisterJump", "()Z"⟩ ∈ gtbl := gtt_3 218 rfl rfl
theorem tw851 : Cond.code ⟨"BundleFence$Instruction", "isRegisterJump", "()Z"⟩ cX6_isRegisterJump 1 (some .boolean) ∈ gtbl := gtt_3 219 rfl rfl
theorem tw852 : Cond.fieldLink "BundleFence$Instruction" 77 "BundleFence$Op" "CALL" "LBundleFence$Op;" ∈ gtbl := gtt_3 220 rfl rfl
theorem tw853 : Cond.fieldLink "BundleFence$Instruction" 80 "BundleFence$Op" "JMP" "LBundleFence$Op;" ∈ gtbl := gtt_3 221 rfl rfl
theorem tw854 : Cond.constant "BundleFence$Inspector" 118 65535 ∈ gtbl := gtt_3 222 rfl rfl
theorem tw855 : Cond.fieldLink "BundleFence$Inspector" 119 "BundleFence$Op" "OR" "LBundleFence$Op;" ∈ gtbl := gtt_3 223 rfl rfl
theorem tw857 : Cond.constant "BundleFence$Inspector" 122 65536 ∈ gtbl := gtt_3 225 rfl rfl
theorem tw858 : Cond.fieldLink "BundleFence$Inspector" 129 "BundleFence$Op" "HLT" "LBundleFence$Op;" ∈ gtbl := gtt_3 226 rfl rfl
theorem tw859 : Cond.fieldLink "BundleFence$Inspector" 132 "BundleFence$Op" "JMP" "LBundleFence$Op;" ∈ gtbl := gtt_3 227 rfl rfl
theorem tw860 : Cond.methodLink "BundleFence$Inspector" 82 ⟨"BundleFence$Inspector", "markUnits", "()I"⟩ ∈ gtbl := gtt_3 228 rfl rfl
theorem tw862 : Cond.instanceMethod ⟨"BundleFence$Inspector", "markUnits", "()I"⟩ ∈ gtbl := gtt_3 230 rfl rfl
theorem tw863 : Cond.code ⟨"BundleFence$Inspector", "markUnits", "()I"⟩ cX5_markUnits 4 (some .int) ∈ gtbl := gtt_3 231 rfl rfl
theorem tw864 : Cond.methodLink "BundleFence$Inspector" 138 ⟨"BundleFence$Inspector", "refuse", "(II)I"⟩ ∈ gtbl := gtt_3 232 rfl rfl
theorem tw866 : Cond.instanceMethod ⟨"BundleFence$Inspector", "refuse", "(II)I"⟩ ∈ gtbl := gtt_3 234 rfl rfl
theorem tw867 : Cond.code ⟨"BundleFence$Inspector", "refuse", "(II)I"⟩ cX5_refuse 3 (some .int) ∈ gtbl := gtt_3 235 rfl rfl
theorem tw868 : Cond.methodLink "BundleFence$Inspector" 142 ⟨"BundleFence$Inspector", "markUnit", "(I)I"⟩ ∈ gtbl := gtt_3 236 rfl rfl
theorem tw870 : Cond.instanceMethod ⟨"BundleFence$Inspector", "markUnit", "(I)I"⟩ ∈ gtbl := gtt_3 238 rfl rfl
theorem tw871 : Cond.code ⟨"BundleFence$Inspector", "markUnit", "(I)I"⟩ cX5_markUnit 3 (some .int) ∈ gtbl := gtt_3 239 rfl rfl
theorem tw872 : Cond.methodLink "BundleFence$Inspector" 150 ⟨"BundleFence$Inspector", "lengthAt", "(I)I"⟩ ∈ gtbl := gtt_4 0 rfl rfl
theorem tw874 : Cond.instanceMethod ⟨"BundleFence$Inspector", "lengthAt", "(I)I"⟩ ∈ gtbl := gtt_4 2 rfl rfl
theorem tw875 : Cond.code ⟨"BundleFence$Inspector", "lengthAt", "(I)I"⟩ cX5_lengthAt 2 (some .int) ∈ gtbl := gtt_4 3 rfl rfl
theorem tw876 : Cond.methodLink "BundleFence$Inspector" 153 ⟨"BundleFence$Inspector", "leavesBundle", "(II)Z"⟩ ∈ gtbl := gtt_4 4 rfl rfl
theorem tw877 : Cond.static ⟨"BundleFence$Inspector", "leavesBundle", "(II)Z"⟩ ∈ gtbl := gtt_4 5 rfl rfl
theorem tw878 : Cond.code ⟨"BundleFence$Inspector", "leavesBundle", "(II)Z"⟩ cX5_leavesBundle 2 (some .boolean) ∈ gtbl := gtt_4 6 rfl rfl
theorem tw879 : Cond.methodLink "BundleFence$Inspector" 157 ⟨"BundleFence$Inspector", "mark", "(II)V"⟩ ∈ gtbl := gtt_4 7 rfl rfl
theorem tw881 : Cond.instanceMethod ⟨"BundleFence$Inspector", "mark", "(II)V"⟩ ∈ gtbl := gtt_4 9 rfl rfl
theorem tw882 : Cond.code ⟨"BundleFence$Inspector", "mark", "(II)V"⟩ cX5_mark 3 none ∈ gtbl := gtt_4 10 rfl rfl
theorem tw883 : Cond.methodLink "BundleFence$Inspector" 161 ⟨"BundleFence$Inspector", "is", "(II)Z"⟩ ∈ gtbl := gtt_4 11 rfl rfl
theorem tw885 : Cond.instanceMethod ⟨"BundleFence$Inspector", "is", "(II)Z"⟩ ∈ gtbl := gtt_4 13 rfl rfl
theorem tw886 : Cond.code ⟨"BundleFence$Inspector", "is", "(II)Z"⟩ cX5_is 3 (some .boolean) ∈ gtbl := gtt_4 14 rfl rfl
theorem tw887 : Cond.methodLink "BundleFence$Inspector" 164 ⟨"BundleFence$Inspector", "markStackUnit", "(II)I"⟩ ∈ gtbl := gtt_4 15 rfl rfl
theorem tw889 : Cond.instanceMethod ⟨"BundleFence$Inspector", "markStackUnit", "(II)I"⟩ ∈ gtbl := gtt_4 17 rfl rfl
theorem tw890 : Cond.code ⟨"BundleFence$Inspector", "markStackUnit", "(II)I"⟩ cX5_markStackUnit 4 (some .int) ∈ gtbl := gtt_4 18 rfl rfl
theorem tw891 : Cond.methodLink "BundleFence$Inspector" 176 ⟨"BundleFence$Inspector", "hasFences", "(II)Z"⟩ ∈ gtbl := gtt_4 19 rfl rfl
theorem tw893 : Cond.instanceMethod ⟨"BundleFence$Inspector", "hasFences", "(II)Z"⟩ ∈ gtbl := gtt_4 21 rfl rfl
theorem tw894 : Cond.code ⟨"BundleFence$Inspector", "hasFences", "(II)Z"⟩ cX5_hasFences 3 (some .boolean) ∈ gtbl := gtt_4 22 rfl rfl
theorem tw895 : Cond.methodLink "BundleFence$Inspector" 179 ⟨"BundleFence$Inspector", "isOf", "(III)Z"⟩ ∈ gtbl := gtt_4 23 rfl rfl
theorem tw897 : Cond.instanceMethod ⟨"BundleFence$Inspector", "isOf", "(III)Z"⟩ ∈ gtbl := gtt_4 25 rfl rfl
theorem tw898 : Cond.code ⟨"BundleFence$Inspector", "isOf", "(III)Z"⟩ cX5_isOf 4 (some .boolean) ∈ gtbl := gtt_4 26 rfl rfl
theorem tw899 : Cond.methodLink "BundleFence$Inspector" 167 ⟨"BundleFence$Inspector", "markJumpUnit", "(II)I"⟩ ∈ gtbl := gtt_4 27 rfl rfl
theorem tw901 : Cond.instanceMethod ⟨"BundleFence$Inspector", "markJumpUnit", "(II)I"⟩ ∈ gtbl := gtt_4 29 rfl rfl
theorem tw902 : Cond.code ⟨"BundleFence$Inspector", "markJumpUnit", "(II)I"⟩ cX5_markJumpUnit 5 (some .int) ∈ gtbl := gtt_4 30 rfl rfl
theorem tw903 : Cond.methodLink "BundleFence$Inspector" 183 ⟨"BundleFence$Inspector", "registerAt", "(I)I"⟩ ∈ gtbl := gtt_4 31 rfl rfl
theorem tw905 : Cond.instanceMethod ⟨"BundleFence$Inspector", "registerAt", "(I)I"⟩ ∈ gtbl := gtt_4 33 rfl rfl
theorem tw906 : Cond.code ⟨"BundleFence$Inspector", "registerAt", "(I)I"⟩ cX5_registerAt 2 (some .int) ∈ gtbl := gtt_4 34 rfl rfl
theorem tw907 : Cond.methodLink "BundleFence$Inspector" 170 ⟨"BundleFence$Inspector", "markWriteUnit", "(I)I"⟩ ∈ gtbl := gtt_4 35 rfl rfl
theorem tw909 : Cond.instanceMethod ⟨"BundleFence$Inspector", "markWriteUnit", "(I)I"⟩ ∈ gtbl := gtt_4 37 rfl rfl
theorem tw910 : Cond.code ⟨"BundleFence$Inspector", "markWriteUnit", "(I)I"⟩ cX5_markWriteUnit 6 (some .int) ∈ gtbl := gtt_4 38 rfl rfl
theorem tw911 : Cond.methodLink "BundleFence$Inspector" 173 ⟨"BundleFence$Inspector", "checkAlone", "(II)I"⟩ ∈ gtbl := gtt_4 39 rfl rfl
theorem tw913 : Cond.instanceMethod ⟨"BundleFence$Inspector", "checkAlone", "(II)I"⟩ ∈ gtbl := gtt_4 41 rfl rfl
theorem tw914 : Cond.code ⟨"BundleFence$Inspector", "checkAlone", "(II)I"⟩ cX5_checkAlone 3 (some .int) ∈ gtbl := gtt_4 42 rfl rfl
theorem tw915 : Cond.methodLink "BundleFence$Inspector" 145 ⟨"java/lang/Math", "max", "(II)I"⟩ ∈ gtbl := gtt_4 43 rfl rfl
theorem tw918 : Cond.methodLink "BundleFence$Inspector" 85 ⟨"BundleFence$Inspector", "checkTargets", "()V"⟩ ∈ gtbl := gtt_4 46 rfl rfl
theorem tw920 : Cond.instanceMethod ⟨"BundleFence$Inspector", "checkTargets", "()V"⟩ ∈ gtbl := gtt_4 48 rfl rfl
theorem tw921 : Cond.code ⟨"BundleFence$Inspector", "checkTargets", "()V"⟩ cX5_checkTargets 2 none ∈ gtbl := gtt_4 49 rfl rfl
theorem tw922 : Cond.methodLink "BundleFence$Inspector" 186 ⟨"BundleFence$Inspector", "isEntry", "(I)Z"⟩ ∈ gtbl := gtt_4 50 rfl rfl
theorem tw924 : Cond.instanceMethod ⟨"BundleFence$Inspector", "isEntry", "(I)Z"⟩ ∈ gtbl := gtt_4 52 rfl rfl
theorem tw925 : Cond.code ⟨"BundleFence$Inspector", "isEntry", "(I)Z"⟩ cX5_isEntry 2 (some .boolean) ∈ gtbl := gtt_4 53 rfl rfl
theorem tw926 : ("BundleFence$Inspector", 190, (⟨"BundleFence", "gateAt", "(I)I"⟩ : MethodName), "BundleFence") ∈ nestL := List.mem_of_getElem? (i := 0) rfl
theorem tw927 : Cond.static ⟨"BundleFence", "gateAt", "(I)I"⟩ ∈ gtbl := gtt_4 55 rfl rfl
theorem tw928 : Cond.code ⟨"BundleFence", "gateAt", "(I)I"⟩ cX11_gateAt 3 (some .int) ∈ gtbl := gtt_4 56 rfl rfl
theorem tw929 : Cond.methodLink "BundleFence$Inspector" 193 ⟨"BundleFence$Inspector", "markAt", "(I)I"⟩ ∈ gtbl := gtt_4 57 rfl rfl
theorem tw930 : Cond.instanceMethod ⟨"BundleFence$Inspector", "markAt", "(I)I"⟩ ∈ gtbl := gtt_4 58 rfl rfl
theorem tw931 : Cond.selects "BundleFence$Inspector" ⟨"BundleFence$Inspector", "markAt", "(I)I"⟩ ⟨"BundleFence$Inspector", "markAt", "(I)I"⟩ ∈ gtbl := gtt_4 59 rfl rfl
theorem tw932 : Cond.code ⟨"BundleFence$Inspector", "markAt", "(I)I"⟩ cX5_markAt 2 (some .int) ∈ gtbl := gtt_4 60 rfl rfl
theorem tw933 : Cond.methodLink "BundleFence$Inspector" 88 ⟨"BundleFence$Inspector", "checkEnd", "(I)V"⟩ ∈ gtbl := gtt_4 61 rfl rfl
theorem tw935 : Cond.instanceMethod ⟨"BundleFence$Inspector", "checkEnd", "(I)V"⟩ ∈ gtbl := gtt_4 63 rfl rfl
theorem tw936 : Cond.code ⟨"BundleFence$Inspector", "checkEnd", "(I)V"⟩ cX5_checkEnd 4 none ∈ gtbl := gtt_4 64 rfl rfl
theorem tw949 : Cond.methodLink "BundleFence" 119 ⟨"BundleFence$Image", "has", "(I)Z"⟩ ∈ gtbl := gtt_4 77 rfl rfl
theorem tw950 : Cond.methodLink "BundleFence" 123 ⟨"BundleFence$Inspector", "markAt", "(I)I"⟩ ∈ gtbl := gtt_4 78 rfl rfl
theorem tw955 : Cond.methodLink "BundleFence" 127 ⟨"BundleFence$Decoder", "decode", "(I)I"⟩ ∈ gtbl := gtt_4 83 rfl rfl
theorem tw1406 : Cond.static ⟨"BundleFence", "unsigned", "(I)J"⟩ ∈ gtbl := gtt_6 54 rfl rfl
theorem tw1407 : Cond.code ⟨"BundleFence", "unsigned", "(I)J"⟩ cX11_unsigned 1 (some .long) ∈ gtbl := gtt_6 55 rfl rfl
theorem tw1408 : Cond.constantLong "BundleFence" 237 4294967295 ∈ gtbl := gtt_6 56 rfl rfl
theorem tw1433 : Cond.methodLink "BundleFence" 137 ⟨"BundleFence$Memory", "inData", "(IJ)Z"⟩ ∈ gtbl := gtt_6 81 rfl rfl
theorem tw1434 : Cond.methodLink "BundleFence" 145 ⟨"BundleFence$Memory", "dataAt", "(I)I"⟩ ∈ gtbl := gtt_6 82 rfl rfl
theorem tw1435 : Cond.instanceMethod ⟨"BundleFence$Memory", "dataAt", "(I)I"⟩ ∈ gtbl := gtt_6 83 rfl rfl
theorem tw1436 : Cond.selects "BundleFence$Memory" ⟨"BundleFence$Memory", "dataAt", "(I)I"⟩ ⟨"BundleFence$Memory", "dataAt", "(I)I"⟩ ∈ gtbl := gtt_6 84 rfl rfl
theorem tw1437 : Cond.code ⟨"BundleFence$Memory", "dataAt", "(I)I"⟩ cX8_dataAt 2 (some .int) ∈ gtbl := gtt_6 85 rfl rfl
theorem tw1438 : Cond.constant "BundleFence$Memory" 33 65535 ∈ gtbl := gtt_6 86 rfl rfl
theorem tw1447 : Cond.methodLink "BundleFence" 228 ⟨"BundleFence$Host", "outputAt", "(I)I"⟩ ∈ gtbl := gtt_6 95 rfl rfl
theorem tw1448 : Cond.instanceMethod ⟨"BundleFence$Host", "outputAt", "(I)I"⟩ ∈ gtbl := gtt_6 96 rfl rfl
theorem tw1449 : Cond.selects "BundleFence$Host" ⟨"BundleFence$Host", "outputAt", "(I)I"⟩ ⟨"BundleFence$Host", "outputAt", "(I)I"⟩ ∈ gtbl := gtt_6 97 rfl rfl
theorem tw1450 : Cond.code ⟨"BundleFence$Host", "outputAt", "(I)I"⟩ cX3_outputAt 2 (some .int) ∈ gtbl := gtt_6 98 rfl rfl
theorem tw1462 : Cond.methodLink "BundleFence" 92 ⟨"BundleFence$Image", "append", "(IJ)V"⟩ ∈ gtbl := gtt_6 110 rfl rfl
theorem tw1463 : Cond.instanceMethod ⟨"BundleFence$Image", "append", "(IJ)V"⟩ ∈ gtbl := gtt_6 111 rfl rfl
theorem tw1464 : Cond.selects "BundleFence$Image" ⟨"BundleFence$Image", "append", "(IJ)V"⟩ ⟨"BundleFence$Image", "append", "(IJ)V"⟩ ∈ gtbl := gtt_6 112 rfl rfl
theorem tw1465 : Cond.code ⟨"BundleFence$Image", "append", "(IJ)V"⟩ cX4_append 5 none ∈ gtbl := gtt_6 113 rfl rfl
theorem tw1475 : Cond.methodLink "BundleFence" 148 ⟨"BundleFence$Memory", "setData", "(II)V"⟩ ∈ gtbl := gtt_6 123 rfl rfl
theorem tw1476 : Cond.instanceMethod ⟨"BundleFence$Memory", "setData", "(II)V"⟩ ∈ gtbl := gtt_6 124 rfl rfl
theorem tw1477 : Cond.selects "BundleFence$Memory" ⟨"BundleFence$Memory", "setData", "(II)V"⟩ ⟨"BundleFence$Memory", "setData", "(II)V"⟩ ∈ gtbl := gtt_6 125 rfl rfl
theorem tw1478 : Cond.code ⟨"BundleFence$Memory", "setData", "(II)V"⟩ cX8_setData 3 none ∈ gtbl := gtt_6 126 rfl rfl
theorem tw1486 : Cond.methodLink "BundleFence" 159 ⟨"BundleFence$Host", "take", "(IJ)V"⟩ ∈ gtbl := gtt_6 134 rfl rfl
theorem tw1487 : Cond.instanceMethod ⟨"BundleFence$Host", "take", "(IJ)V"⟩ ∈ gtbl := gtt_6 135 rfl rfl
theorem tw1488 : Cond.selects "BundleFence$Host" ⟨"BundleFence$Host", "take", "(IJ)V"⟩ ⟨"BundleFence$Host", "take", "(IJ)V"⟩ ∈ gtbl := gtt_6 136 rfl rfl
theorem tw1489 : Cond.code ⟨"BundleFence$Host", "take", "(IJ)V"⟩ cX3_take 5 none ∈ gtbl := gtt_6 137 rfl rfl
theorem tw1515 : Cond.methodLink "BundleFence" 169 ⟨"BundleFence$Host", "restart", "()V"⟩ ∈ gtbl := gtt_6 163 rfl rfl
theorem tw1516 : Cond.instanceMethod ⟨"BundleFence$Host", "restart", "()V"⟩ ∈ gtbl := gtt_6 164 rfl rfl
theorem tw1517 : Cond.selects "BundleFence$Host" ⟨"BundleFence$Host", "restart", "()V"⟩ ⟨"BundleFence$Host", "restart", "()V"⟩ ∈ gtbl := gtt_6 165 rfl rfl
theorem tw1518 : Cond.code ⟨"BundleFence$Host", "restart", "()V"⟩ cX3_restart 1 none ∈ gtbl := gtt_6 166 rfl rfl
theorem tw1519 : Cond.methodLink "BundleFence" 172 ⟨"BundleFence$Machine", "restart", "()V"⟩ ∈ gtbl := gtt_6 167 rfl rfl
theorem tw1529 : Cond.methodLink "BundleFence" 177 ⟨"BundleFence$Machine", "wake", "()V"⟩ ∈ gtbl := gtt_6 177 rfl rfl
theorem tw1530 : Cond.instanceMethod ⟨"BundleFence$Machine", "wake", "()V"⟩ ∈ gtbl := gtt_6 178 rfl rfl
theorem tw1531 : Cond.selects "BundleFence$Machine" ⟨"BundleFence$Machine", "wake", "()V"⟩ ⟨"BundleFence$Machine", "wake", "()V"⟩ ∈ gtbl := gtt_6 179 rfl rfl
theorem tw1532 : Cond.code ⟨"BundleFence$Machine", "wake", "()V"⟩ cX7_wake 1 none ∈ gtbl := gtt_6 180 rfl rfl
theorem tw1533 : Cond.methodLink "BundleFence" 183 ⟨"BundleFence", "hasBreakpoint", "(I)Z"⟩ ∈ gtbl := gtt_6 181 rfl rfl
theorem tw1535 : Cond.instanceMethod ⟨"BundleFence", "hasBreakpoint", "(I)Z"⟩ ∈ gtbl := gtt_6 183 rfl rfl
theorem tw1536 : Cond.code ⟨"BundleFence", "hasBreakpoint", "(I)Z"⟩ cX11_hasBreakpoint 3 (some .boolean) ∈ gtbl := gtt_6 184 rfl rfl
theorem tw1537 : Cond.methodLink "BundleFence" 186 ⟨"BundleFence$Machine", "step", "()Z"⟩ ∈ gtbl := gtt_6 185 rfl rfl
theorem tw1538 : Cond.instanceMethod ⟨"BundleFence$Machine", "step", "()Z"⟩ ∈ gtbl := gtt_6 186 rfl rfl
theorem tw1539 : Cond.selects "BundleFence$Machine" ⟨"BundleFence$Machine", "step", "()Z"⟩ ⟨"BundleFence$Machine", "step", "()Z"⟩ ∈ gtbl := gtt_6 187 rfl rfl
theorem tw1540 : Cond.code ⟨"BundleFence$Machine", "step", "()Z"⟩ cX7_step 2 (some .boolean) ∈ gtbl := gtt_6 188 rfl rfl
theorem tw1541 : ("BundleFence$Machine", 76, (⟨"BundleFence", "gateAt", "(I)I"⟩ : MethodName), "BundleFence") ∈ nestL := List.mem_of_getElem? (i := 2) rfl
theorem tw1542 : Cond.methodLink "BundleFence$Machine" 80 ⟨"BundleFence$Machine", "doService", "(I)V"⟩ ∈ gtbl := gtt_6 190 rfl rfl
theorem tw1544 : Cond.instanceMethod ⟨"BundleFence$Machine", "doService", "(I)V"⟩ ∈ gtbl := gtt_6 192 rfl rfl
theorem tw1545 : Cond.code ⟨"BundleFence$Machine", "doService", "(I)V"⟩ cX7_doService 3 none ∈ gtbl := gtt_6 193 rfl rfl
theorem tw1546 : Cond.methodLink "BundleFence$Machine" 94 ⟨"BundleFence$Memory", "load", "(II)I"⟩ ∈ gtbl := gtt_6 194 rfl rfl
theorem tw1547 : Cond.instanceMethod ⟨"BundleFence$Memory", "load", "(II)I"⟩ ∈ gtbl := gtt_6 195 rfl rfl
theorem tw1548 : Cond.selects "BundleFence$Memory" ⟨"BundleFence$Memory", "load", "(II)I"⟩ ⟨"BundleFence$Memory", "load", "(II)I"⟩ ∈ gtbl := gtt_6 196 rfl rfl
theorem tw1549 : Cond.code ⟨"BundleFence$Memory", "load", "(II)I"⟩ cX8_load 8 (some .int) ∈ gtbl := gtt_6 197 rfl rfl
theorem tw1550 : Cond.methodLink "BundleFence$Memory" 37 ⟨"BundleFence$Memory", "fail", "(I)V"⟩ ∈ gtbl := gtt_6 198 rfl rfl
theorem tw1551 : Cond.instanceMethod ⟨"BundleFence$Memory", "fail", "(I)V"⟩ ∈ gtbl := gtt_6 199 rfl rfl
theorem tw1552 : Cond.selects "BundleFence$Memory" ⟨"BundleFence$Memory", "fail", "(I)V"⟩ ⟨"BundleFence$Memory", "fail", "(I)V"⟩ ∈ gtbl := gtt_6 200 rfl rfl
theorem tw1553 : Cond.code ⟨"BundleFence$Memory", "fail", "(I)V"⟩ cX8_fail 2 none ∈ gtbl := gtt_6 201 rfl rfl
theorem tw1554 : Cond.methodLink "BundleFence$Machine" 98 ⟨"BundleFence$Host", "serve", "(IIIJ)I"⟩ ∈ gtbl := gtt_6 202 rfl rfl
theorem tw1555 : Cond.instanceMethod ⟨"BundleFence$Host", "serve", "(IIIJ)I"⟩ ∈ gtbl := gtt_6 203 rfl rfl
theorem tw1556 : Cond.selects "BundleFence$Host" ⟨"BundleFence$Host", "serve", "(IIIJ)I"⟩ ⟨"BundleFence$Host", "serve", "(IIIJ)I"⟩ ∈ gtbl := gtt_6 204 rfl rfl
theorem tw1557 : Cond.code ⟨"BundleFence$Host", "serve", "(IIIJ)I"⟩ cX3_serve 6 (some .int) ∈ gtbl := gtt_6 205 rfl rfl
theorem tw1558 : Cond.methodLink "BundleFence$Host" 39 ⟨"BundleFence$Host", "serveBytes", "(III)I"⟩ ∈ gtbl := gtt_6 206 rfl rfl
theorem tw1560 : Cond.instanceMethod ⟨"BundleFence$Host", "serveBytes", "(III)I"⟩ ∈ gtbl := gtt_6 208 rfl rfl
theorem tw1561 : Cond.code ⟨"BundleFence$Host", "serveBytes", "(III)I"⟩ cX3_serveBytes 4 (some .int) ∈ gtbl := gtt_6 209 rfl rfl
theorem tw1562 : ("BundleFence$Host", 50, (⟨"BundleFence", "unsigned", "(I)J"⟩ : MethodName), "BundleFence") ∈ nestL := List.mem_of_getElem? (i := 3) rfl
theorem tw1563 : Cond.methodLink "BundleFence$Host" 43 ⟨"BundleFence$Memory", "inData", "(IJ)Z"⟩ ∈ gtbl := gtt_6 211 rfl rfl
theorem tw1564 : Cond.methodLink "BundleFence$Host" 54 ⟨"BundleFence$Host", "writeOut", "(II)I"⟩ ∈ gtbl := gtt_6 212 rfl rfl
theorem tw1566 : Cond.instanceMethod ⟨"BundleFence$Host", "writeOut", "(II)I"⟩ ∈ gtbl := gtt_6 214 rfl rfl
theorem tw1567 : Cond.code ⟨"BundleFence$Host", "writeOut", "(II)I"⟩ cX3_writeOut 5 (some .int) ∈ gtbl := gtt_6 215 rfl rfl
theorem tw1568 : Cond.methodLink "BundleFence$Host" 64 ⟨"java/lang/Math", "min", "(II)I"⟩ ∈ gtbl := gtt_6 216 rfl rfl
theorem tw1569 : Cond.methodLink "BundleFence$Host" 69 ⟨"BundleFence$Memory", "dataAt", "(I)I"⟩ ∈ gtbl := gtt_6 217 rfl rfl
theorem tw1570 : Cond.methodLink "BundleFence$Host" 58 ⟨"BundleFence$Host", "readIn", "(II)I"⟩ ∈ gtbl := gtt_6 218 rfl rfl
theorem tw1572 : Cond.instanceMethod ⟨"BundleFence$Host", "readIn", "(II)I"⟩ ∈ gtbl := gtt_6 220 rfl rfl
theorem tw1573 : Cond.code ⟨"BundleFence$Host", "readIn", "(II)I"⟩ cX3_readIn 5 (some .int) ∈ gtbl := gtt_6 221 rfl rfl
theorem tw1574 : Cond.methodLink "BundleFence$Host" 73 ⟨"BundleFence$Memory", "setData", "(II)V"⟩ ∈ gtbl := gtt_6 222 rfl rfl
theorem tw1575 : Cond.methodLink "BundleFence$Host" 61 ⟨"BundleFence$Host", "sum", "(II)I"⟩ ∈ gtbl := gtt_6 223 rfl rfl
theorem tw1577 : Cond.instanceMethod ⟨"BundleFence$Host", "sum", "(II)I"⟩ ∈ gtbl := gtt_6 225 rfl rfl
theorem tw1578 : Cond.code ⟨"BundleFence$Host", "sum", "(II)I"⟩ cX3_sum 5 (some .int) ∈ gtbl := gtt_6 226 rfl rfl
theorem tw1579 : Cond.constant "BundleFence$Host" 49 1103515245 ∈ gtbl := gtt_6 227 rfl rfl
theorem tw1580 : Cond.methodLink "BundleFence$Machine" 84 ⟨"BundleFence$Machine", "isReady", "()Z"⟩ ∈ gtbl := gtt_6 228 rfl rfl
theorem tw1582 : Cond.instanceMethod ⟨"BundleFence$Machine", "isReady", "()Z"⟩ ∈ gtbl := gtt_6 230 rfl rfl
theorem tw1583 : Cond.code ⟨"BundleFence$Machine", "isReady", "()Z"⟩ cX7_isReady 2 (some .boolean) ∈ gtbl := gtt_6 231 rfl rfl
theorem tw1584 : Cond.methodLink "BundleFence$Machine" 104 ⟨"BundleFence$Memory", "inImage", "(IJ)Z"⟩ ∈ gtbl := gtt_6 232 rfl rfl
theorem tw1585 : Cond.instanceMethod ⟨"BundleFence$Memory", "inImage", "(IJ)Z"⟩ ∈ gtbl := gtt_6 233 rfl rfl
theorem tw1586 : Cond.selects "BundleFence$Memory" ⟨"BundleFence$Memory", "inImage", "(IJ)Z"⟩ ⟨"BundleFence$Memory", "inImage", "(IJ)Z"⟩ ∈ gtbl := gtt_6 234 rfl rfl
theorem tw1587 : Cond.code ⟨"BundleFence$Memory", "inImage", "(IJ)Z"⟩ cX8_inImage 4 (some .boolean) ∈ gtbl := gtt_6 235 rfl rfl
theorem tw1588 : Cond.methodLink "BundleFence$Machine" 108 ⟨"BundleFence$Memory", "fail", "(I)V"⟩ ∈ gtbl := gtt_6 236 rfl rfl
theorem tw1589 : Cond.methodLink "BundleFence$Machine" 111 ⟨"BundleFence$Decoder", "decode", "(I)I"⟩ ∈ gtbl := gtt_6 237 rfl rfl
theorem tw1590 : Cond.methodLink "BundleFence$Machine" 116 ⟨"BundleFence$Inspector", "permits", "(I)Z"⟩ ∈ gtbl := gtt_6 238 rfl rfl
theorem tw1591 : Cond.instanceMethod ⟨"BundleFence$Inspector", "permits", "(I)Z"⟩ ∈ gtbl := gtt_6 239 rfl rfl
theorem tw1592 : Cond.selects "BundleFence$Inspector" ⟨"BundleFence$Inspector", "permits", "(I)Z"⟩ ⟨"BundleFence$Inspector", "permits", "(I)Z"⟩ ∈ gtbl := gtt_7 0 rfl rfl
theorem tw1593 : Cond.code ⟨"BundleFence$Inspector", "permits", "(I)Z"⟩ cX5_permits 2 (some .boolean) ∈ gtbl := gtt_7 1 rfl rfl
theorem tw1594 : Cond.methodLink "BundleFence$Machine" 122 ⟨"java/lang/System", "arraycopy", "(Ljava/lang/Object;ILjava/lang/Object;II)V"⟩ ∈ gtbl := gtt_7 2 rfl rfl
theorem tw1595 : Cond.methodLink "BundleFence$Machine" 139 ⟨"BundleFence$Machine", "addressOfE", "()I"⟩ ∈ gtbl := gtt_7 3 rfl rfl
theorem tw1597 : Cond.instanceMethod ⟨"BundleFence$Machine", "addressOfE", "()I"⟩ ∈ gtbl := gtt_7 5 rfl rfl
theorem tw1598 : Cond.code ⟨"BundleFence$Machine", "addressOfE", "()I"⟩ cX7_addressOfE 2 (some .int) ∈ gtbl := gtt_7 6 rfl rfl
theorem tw1599 : Cond.methodLink "BundleFence$Machine" 88 ⟨"BundleFence$Machine", "execute", "()V"⟩ ∈ gtbl := gtt_7 7 rfl rfl
theorem tw1601 : Cond.instanceMethod ⟨"BundleFence$Machine", "execute", "()V"⟩ ∈ gtbl := gtt_7 9 rfl rfl
theorem tw1602 : Cond.code ⟨"BundleFence$Machine", "execute", "()V"⟩ cX7_execute 1 none ∈ gtbl := gtt_7 10 rfl rfl
theorem tw1603 : Cond.methodLink "BundleFence$Machine" 167 ⟨"BundleFence$Machine", "doArithmetic", "()V"⟩ ∈ gtbl := gtt_7 11 rfl rfl
theorem tw1605 : Cond.instanceMethod ⟨"BundleFence$Machine", "doArithmetic", "()V"⟩ ∈ gtbl := gtt_7 13 rfl rfl
theorem tw1606 : Cond.code ⟨"BundleFence$Machine", "doArithmetic", "()V"⟩ cX7_doArithmetic 3 none ∈ gtbl := gtt_7 14 rfl rfl
theorem tw1607 : Cond.methodLink "BundleFence$Machine" 243 ⟨"BundleFence$Instruction", "startsWithG", "()Z"⟩ ∈ gtbl := gtt_7 15 rfl rfl
theorem tw1608 : Cond.methodLink "BundleFence$Machine" 246 ⟨"BundleFence$Machine", "readG", "()I"⟩ ∈ gtbl := gtt_7 16 rfl rfl
theorem tw1610 : Cond.instanceMethod ⟨"BundleFence$Machine", "readG", "()I"⟩ ∈ gtbl := gtt_7 18 rfl rfl
theorem tw1611 : Cond.code ⟨"BundleFence$Machine", "readG", "()I"⟩ cX7_readG 1 (some .int) ∈ gtbl := gtt_7 19 rfl rfl
theorem tw1612 : Cond.methodLink "BundleFence$Machine" 221 ⟨"BundleFence$Machine", "part", "(II)I"⟩ ∈ gtbl := gtt_7 20 rfl rfl
theorem tw1614 : Cond.instanceMethod ⟨"BundleFence$Machine", "part", "(II)I"⟩ ∈ gtbl := gtt_7 22 rfl rfl
theorem tw1615 : Cond.code ⟨"BundleFence$Machine", "part", "(II)I"⟩ cX7_part 3 (some .int) ∈ gtbl := gtt_7 23 rfl rfl
theorem tw1616 : Cond.constant "BundleFence$Machine" 210 65535 ∈ gtbl := gtt_7 24 rfl rfl
theorem tw1617 : Cond.methodLink "BundleFence$Machine" 170 ⟨"BundleFence$Machine", "readE", "()I"⟩ ∈ gtbl := gtt_7 25 rfl rfl
theorem tw1619 : Cond.instanceMethod ⟨"BundleFence$Machine", "readE", "()I"⟩ ∈ gtbl := gtt_7 27 rfl rfl
theorem tw1620 : Cond.code ⟨"BundleFence$Machine", "readE", "()I"⟩ cX7_readE 1 (some .int) ∈ gtbl := gtt_7 28 rfl rfl
theorem tw1621 : Cond.methodLink "BundleFence$Machine" 252 ⟨"BundleFence$Machine", "readSecond", "()I"⟩ ∈ gtbl := gtt_7 29 rfl rfl
theorem tw1623 : Cond.instanceMethod ⟨"BundleFence$Machine", "readSecond", "()I"⟩ ∈ gtbl := gtt_7 31 rfl rfl
theorem tw1624 : Cond.code ⟨"BundleFence$Machine", "readSecond", "()I"⟩ cX7_readSecond 1 (some .int) ∈ gtbl := gtt_7 32 rfl rfl
theorem tw1625 : ("BundleFence$Machine", 240, (⟨"BundleFence", "maskOf", "(I)I"⟩ : MethodName), "BundleFence") ∈ nestL := List.mem_of_getElem? (i := 4) rfl
theorem tw1626 : Cond.static ⟨"BundleFence", "maskOf", "(I)I"⟩ ∈ gtbl := gtt_7 34 rfl rfl
theorem tw1627 : Cond.code ⟨"BundleFence", "maskOf", "(I)I"⟩ cX11_maskOf 1 (some .int) ∈ gtbl := gtt_7 35 rfl rfl
theorem tw1628 : Cond.constant "BundleFence" 234 65535 ∈ gtbl := gtt_7 36 rfl rfl
theorem tw1629 : Cond.methodLink "BundleFence$Machine" 255 ⟨"BundleFence$Flags", "two", "(LBundleFence$Op;III)I"⟩ ∈ gtbl := gtt_7 37 rfl rfl
theorem tw1630 : Cond.instanceMethod ⟨"BundleFence$Flags", "two", "(LBundleFence$Op;III)I"⟩ ∈ gtbl := gtt_7 38 rfl rfl
theorem tw1631 : Cond.selects "BundleFence$Flags" ⟨"BundleFence$Flags", "two", "(LBundleFence$Op;III)I"⟩ ⟨"BundleFence$Flags", "two", "(LBundleFence$Op;III)I"⟩ ∈ gtbl := gtt_7 39 rfl rfl
theorem tw1632 : Cond.code ⟨"BundleFence$Flags", "two", "(LBundleFence$Op;III)I"⟩ cX2_two 6 (some .int) ∈ gtbl := gtt_7 40 rfl rfl
theorem tw1633 : Cond.methodLink "BundleFence$Flags" 13 ⟨"BundleFence$Flags", "has", "(I)Z"⟩ ∈ gtbl := gtt_7 41 rfl rfl
theorem tw1634 : Cond.instanceMethod ⟨"BundleFence$Flags", "has", "(I)Z"⟩ ∈ gtbl := gtt_7 42 rfl rfl
theorem tw1635 : Cond.selects "BundleFence$Flags" ⟨"BundleFence$Flags", "has", "(I)Z"⟩ ⟨"BundleFence$Flags", "has", "(I)Z"⟩ ∈ gtbl := gtt_7 43 rfl rfl
theorem tw1636 : Cond.code ⟨"BundleFence$Flags", "has", "(I)Z"⟩ cX2_has 2 (some .boolean) ∈ gtbl := gtt_7 44 rfl rfl
theorem tw1637 : Cond.fieldLink "BundleFence$Flags" 28 "BundleFence$1" "$SwitchMap$BundleFence$Op" "[I" ∈ gtbl := gtt_7 45 rfl rfl
theorem tw1639 : Cond.methodLink "BundleFence$Flags" 34 ⟨"BundleFence$Op", "ordinal", "()I"⟩ ∈ gtbl := gtt_7 47 rfl rfl
theorem tw1645 : Cond.methodLink "BundleFence$Flags" 40 ⟨"BundleFence$Flags", "add", "(IIII)I"⟩ ∈ gtbl := gtt_7 53 rfl rfl
theorem tw1646 : Cond.instanceMethod ⟨"BundleFence$Flags", "add", "(IIII)I"⟩ ∈ gtbl := gtt_7 54 rfl rfl
theorem tw1647 : Cond.selects "BundleFence$Flags" ⟨"BundleFence$Flags", "add", "(IIII)I"⟩ ⟨"BundleFence$Flags", "add", "(IIII)I"⟩ ∈ gtbl := gtt_7 55 rfl rfl
theorem tw1648 : Cond.code ⟨"BundleFence$Flags", "add", "(IIII)I"⟩ cX2_add 9 (some .int) ∈ gtbl := gtt_7 56 rfl rfl
theorem tw1649 : ("BundleFence$Flags", 51, (⟨"BundleFence", "maskOf", "(I)I"⟩ : MethodName), "BundleFence") ∈ nestL := List.mem_of_getElem? (i := 5) rfl
theorem tw1650 : ("BundleFence$Flags", 54, (⟨"BundleFence", "unsigned", "(I)J"⟩ : MethodName), "BundleFence") ∈ nestL := List.mem_of_getElem? (i := 6) rfl
theorem tw1651 : Cond.methodLink "BundleFence$Flags" 58 ⟨"BundleFence$Flags", "tellResult", "(II)V"⟩ ∈ gtbl := gtt_7 59 rfl rfl
theorem tw1652 : Cond.instanceMethod ⟨"BundleFence$Flags", "tellResult", "(II)V"⟩ ∈ gtbl := gtt_7 60 rfl rfl
theorem tw1653 : Cond.selects "BundleFence$Flags" ⟨"BundleFence$Flags", "tellResult", "(II)V"⟩ ⟨"BundleFence$Flags", "tellResult", "(II)V"⟩ ∈ gtbl := gtt_7 61 rfl rfl
theorem tw1654 : Cond.code ⟨"BundleFence$Flags", "tellResult", "(II)V"⟩ cX2_tellResult 4 none ∈ gtbl := gtt_7 62 rfl rfl
theorem tw1655 : ("BundleFence$Flags", 17, (⟨"BundleFence", "topOf", "(I)I"⟩ : MethodName), "BundleFence") ∈ nestL := List.mem_of_getElem? (i := 7) rfl
theorem tw1656 : Cond.static ⟨"BundleFence", "topOf", "(I)I"⟩ ∈ gtbl := gtt_7 64 rfl rfl
theorem tw1657 : Cond.code ⟨"BundleFence", "topOf", "(I)I"⟩ cX11_topOf 1 (some .int) ∈ gtbl := gtt_7 65 rfl rfl
theorem tw1658 : Cond.constant "BundleFence" 235 32768 ∈ gtbl := gtt_7 66 rfl rfl
theorem tw1659 : Cond.constant "BundleFence" 236 (-2147483648) ∈ gtbl := gtt_7 67 rfl rfl
theorem tw1660 : Cond.methodLink "BundleFence$Flags" 23 ⟨"java/lang/Integer", "bitCount", "(I)I"⟩ ∈ gtbl := gtt_7 68 rfl rfl
theorem tw1661 : Cond.static ⟨"java/lang/Integer", "bitCount", "(I)I"⟩ ∈ gtbl := gtt_7 69 rfl rfl
theorem tw1662 : Cond.code ⟨"java/lang/Integer", "bitCount", "(I)I"⟩ cJ6_bitCount_0f7a4 1 (some .int) ∈ gtbl := gtt_7 70 rfl rfl
theorem tw1663 : Cond.constant "java/lang/Integer" 265 1431655765 ∈ gtbl := gtt_7 71 rfl rfl
theorem tw1664 : Cond.constant "java/lang/Integer" 266 858993459 ∈ gtbl := gtt_7 72 rfl rfl
theorem tw1665 : Cond.constant "java/lang/Integer" 267 252645135 ∈ gtbl := gtt_7 73 rfl rfl
theorem tw1666 : Cond.methodLink "BundleFence$Flags" 62 ⟨"BundleFence$Flags", "tellCarry", "(ZZ)V"⟩ ∈ gtbl := gtt_7 74 rfl rfl
theorem tw1667 : Cond.instanceMethod ⟨"BundleFence$Flags", "tellCarry", "(ZZ)V"⟩ ∈ gtbl := gtt_7 75 rfl rfl
theorem tw1668 : Cond.selects "BundleFence$Flags" ⟨"BundleFence$Flags", "tellCarry", "(ZZ)V"⟩ ⟨"BundleFence$Flags", "tellCarry", "(ZZ)V"⟩ ∈ gtbl := gtt_7 76 rfl rfl
theorem tw1669 : Cond.code ⟨"BundleFence$Flags", "tellCarry", "(ZZ)V"⟩ cX2_tellCarry 3 none ∈ gtbl := gtt_7 77 rfl rfl
theorem tw1670 : Cond.methodLink "BundleFence$Flags" 44 ⟨"BundleFence$Flags", "subtract", "(IIII)I"⟩ ∈ gtbl := gtt_7 78 rfl rfl
theorem tw1671 : Cond.instanceMethod ⟨"BundleFence$Flags", "subtract", "(IIII)I"⟩ ∈ gtbl := gtt_7 79 rfl rfl
theorem tw1672 : Cond.selects "BundleFence$Flags" ⟨"BundleFence$Flags", "subtract", "(IIII)I"⟩ ⟨"BundleFence$Flags", "subtract", "(IIII)I"⟩ ∈ gtbl := gtt_7 80 rfl rfl
theorem tw1673 : Cond.code ⟨"BundleFence$Flags", "subtract", "(IIII)I"⟩ cX2_subtract 9 (some .int) ∈ gtbl := gtt_7 81 rfl rfl
theorem tw1674 : Cond.methodLink "BundleFence$Flags" 47 ⟨"BundleFence$Flags", "bitwise", "(II)I"⟩ ∈ gtbl := gtt_7 82 rfl rfl
theorem tw1676 : Cond.instanceMethod ⟨"BundleFence$Flags", "bitwise", "(II)I"⟩ ∈ gtbl := gtt_7 84 rfl rfl
theorem tw1677 : Cond.code ⟨"BundleFence$Flags", "bitwise", "(II)I"⟩ cX2_bitwise 3 (some .int) ∈ gtbl := gtt_7 85 rfl rfl
theorem tw1678 : Cond.methodLink "BundleFence$Machine" 262 ⟨"BundleFence$Machine", "writeFirst", "(I)V"⟩ ∈ gtbl := gtt_7 86 rfl rfl
theorem tw1680 : Cond.instanceMethod ⟨"BundleFence$Machine", "writeFirst", "(I)V"⟩ ∈ gtbl := gtt_7 88 rfl rfl
theorem tw1681 : Cond.code ⟨"BundleFence$Machine", "writeFirst", "(I)V"⟩ cX7_writeFirst 2 none ∈ gtbl := gtt_7 89 rfl rfl
theorem tw1682 : Cond.methodLink "BundleFence$Machine" 249 ⟨"BundleFence$Machine", "writeG", "(I)V"⟩ ∈ gtbl := gtt_7 90 rfl rfl
theorem tw1684 : Cond.instanceMethod ⟨"BundleFence$Machine", "writeG", "(I)V"⟩ ∈ gtbl := gtt_7 92 rfl rfl
theorem tw1685 : Cond.code ⟨"BundleFence$Machine", "writeG", "(I)V"⟩ cX7_writeG 2 none ∈ gtbl := gtt_7 93 rfl rfl
theorem tw1686 : Cond.methodLink "BundleFence$Machine" 228 ⟨"BundleFence$Machine", "setPart", "(III)V"⟩ ∈ gtbl := gtt_7 94 rfl rfl
theorem tw1688 : Cond.instanceMethod ⟨"BundleFence$Machine", "setPart", "(III)V"⟩ ∈ gtbl := gtt_7 96 rfl rfl
theorem tw1689 : Cond.code ⟨"BundleFence$Machine", "setPart", "(III)V"⟩ cX7_setPart 7 none ∈ gtbl := gtt_7 97 rfl rfl
theorem tw1690 : Cond.methodLink "BundleFence$Machine" 180 ⟨"BundleFence$Machine", "writeE", "(I)V"⟩ ∈ gtbl := gtt_7 98 rfl rfl
theorem tw1692 : Cond.instanceMethod ⟨"BundleFence$Machine", "writeE", "(I)V"⟩ ∈ gtbl := gtt_7 100 rfl rfl
theorem tw1693 : Cond.code ⟨"BundleFence$Machine", "writeE", "(I)V"⟩ cX7_writeE 2 none ∈ gtbl := gtt_7 101 rfl rfl
theorem tw1694 : Cond.methodLink "BundleFence$Machine" 224 ⟨"BundleFence$Memory", "store", "(III)V"⟩ ∈ gtbl := gtt_7 102 rfl rfl
theorem tw1695 : Cond.instanceMethod ⟨"BundleFence$Memory", "store", "(III)V"⟩ ∈ gtbl := gtt_7 103 rfl rfl
theorem tw1696 : Cond.selects "BundleFence$Memory" ⟨"BundleFence$Memory", "store", "(III)V"⟩ ⟨"BundleFence$Memory", "store", "(III)V"⟩ ∈ gtbl := gtt_7 104 rfl rfl
theorem tw1697 : Cond.code ⟨"BundleFence$Memory", "store", "(III)V"⟩ cX8_store 5 none ∈ gtbl := gtt_7 105 rfl rfl
theorem tw1698 : Cond.constant "BundleFence$Memory" 44 61440 ∈ gtbl := gtt_7 106 rfl rfl
theorem tw1699 : Cond.constant "BundleFence$Memory" 45 135168 ∈ gtbl := gtt_7 107 rfl rfl
theorem tw1700 : Cond.methodLink "BundleFence$Memory" 46 ⟨"BundleFence$Memory", "setData", "(II)V"⟩ ∈ gtbl := gtt_7 108 rfl rfl
theorem tw1701 : Cond.methodLink "BundleFence$Machine" 176 ⟨"BundleFence$Flags", "single", "(LBundleFence$Op;II)I"⟩ ∈ gtbl := gtt_7 109 rfl rfl
theorem tw1702 : Cond.instanceMethod ⟨"BundleFence$Flags", "single", "(LBundleFence$Op;II)I"⟩ ∈ gtbl := gtt_7 110 rfl rfl
theorem tw1703 : Cond.selects "BundleFence$Flags" ⟨"BundleFence$Flags", "single", "(LBundleFence$Op;II)I"⟩ ⟨"BundleFence$Flags", "single", "(LBundleFence$Op;II)I"⟩ ∈ gtbl := gtt_7 111 rfl rfl
theorem tw1704 : Cond.code ⟨"BundleFence$Flags", "single", "(LBundleFence$Op;II)I"⟩ cX2_single 6 (some .int) ∈ gtbl := gtt_7 112 rfl rfl
theorem tw1705 : Cond.methodLink "BundleFence$Flags" 66 ⟨"BundleFence$Flags", "set", "(IZ)V"⟩ ∈ gtbl := gtt_7 113 rfl rfl
theorem tw1706 : Cond.instanceMethod ⟨"BundleFence$Flags", "set", "(IZ)V"⟩ ∈ gtbl := gtt_7 114 rfl rfl
theorem tw1707 : Cond.selects "BundleFence$Flags" ⟨"BundleFence$Flags", "set", "(IZ)V"⟩ ⟨"BundleFence$Flags", "set", "(IZ)V"⟩ ∈ gtbl := gtt_7 115 rfl rfl
theorem tw1708 : Cond.code ⟨"BundleFence$Flags", "set", "(IZ)V"⟩ cX2_set 3 none ∈ gtbl := gtt_7 116 rfl rfl
theorem tw1709 : Cond.methodLink "BundleFence$Machine" 183 ⟨"BundleFence$Machine", "doShift", "()V"⟩ ∈ gtbl := gtt_7 117 rfl rfl
theorem tw1711 : Cond.instanceMethod ⟨"BundleFence$Machine", "doShift", "()V"⟩ ∈ gtbl := gtt_7 119 rfl rfl
theorem tw1712 : Cond.code ⟨"BundleFence$Machine", "doShift", "()V"⟩ cX7_doShift 3 none ∈ gtbl := gtt_7 120 rfl rfl
theorem tw1713 : Cond.methodLink "BundleFence$Machine" 265 ⟨"BundleFence$Flags", "shift", "(LBundleFence$Op;III)I"⟩ ∈ gtbl := gtt_7 121 rfl rfl
theorem tw1714 : Cond.instanceMethod ⟨"BundleFence$Flags", "shift", "(LBundleFence$Op;III)I"⟩ ∈ gtbl := gtt_7 122 rfl rfl
theorem tw1715 : Cond.selects "BundleFence$Flags" ⟨"BundleFence$Flags", "shift", "(LBundleFence$Op;III)I"⟩ ⟨"BundleFence$Flags", "shift", "(LBundleFence$Op;III)I"⟩ ∈ gtbl := gtt_7 123 rfl rfl
theorem tw1716 : Cond.code ⟨"BundleFence$Flags", "shift", "(LBundleFence$Op;III)I"⟩ cX2_shift 7 (some .int) ∈ gtbl := gtt_7 124 rfl rfl
theorem tw1717 : Cond.fieldLink "BundleFence$Flags" 70 "BundleFence$Op" "ROL" "LBundleFence$Op;" ∈ gtbl := gtt_7 125 rfl rfl
theorem tw1719 : Cond.fieldLink "BundleFence$Flags" 74 "BundleFence$Op" "RCL" "LBundleFence$Op;" ∈ gtbl := gtt_7 127 rfl rfl
theorem tw1721 : Cond.fieldLink "BundleFence$Flags" 77 "BundleFence$Op" "SHL" "LBundleFence$Op;" ∈ gtbl := gtt_7 129 rfl rfl
theorem tw1723 : Cond.methodLink "BundleFence$Flags" 80 ⟨"BundleFence$Flags", "shiftLeft", "(LBundleFence$Op;II)I"⟩ ∈ gtbl := gtt_7 131 rfl rfl
theorem tw1725 : Cond.instanceMethod ⟨"BundleFence$Flags", "shiftLeft", "(LBundleFence$Op;II)I"⟩ ∈ gtbl := gtt_7 133 rfl rfl
theorem tw1726 : Cond.code ⟨"BundleFence$Flags", "shiftLeft", "(LBundleFence$Op;II)I"⟩ cX2_shiftLeft 8 (some .int) ∈ gtbl := gtt_7 134 rfl rfl
theorem tw1727 : Cond.methodLink "BundleFence$Flags" 84 ⟨"BundleFence$Flags", "shiftRight", "(LBundleFence$Op;II)I"⟩ ∈ gtbl := gtt_7 135 rfl rfl
theorem tw1729 : Cond.instanceMethod ⟨"BundleFence$Flags", "shiftRight", "(LBundleFence$Op;II)I"⟩ ∈ gtbl := gtt_7 137 rfl rfl
theorem tw1730 : Cond.code ⟨"BundleFence$Flags", "shiftRight", "(LBundleFence$Op;II)I"⟩ cX2_shiftRight 10 (some .int) ∈ gtbl := gtt_7 138 rfl rfl
theorem tw1731 : Cond.fieldLink "BundleFence$Flags" 93 "BundleFence$Op" "ROR" "LBundleFence$Op;" ∈ gtbl := gtt_7 139 rfl rfl
theorem tw1733 : Cond.fieldLink "BundleFence$Flags" 96 "BundleFence$Op" "RCR" "LBundleFence$Op;" ∈ gtbl := gtt_7 141 rfl rfl
theorem tw1735 : Cond.fieldLink "BundleFence$Flags" 90 "BundleFence$Op" "SAR" "LBundleFence$Op;" ∈ gtbl := gtt_7 143 rfl rfl
theorem tw1737 : Cond.fieldLink "BundleFence$Flags" 87 "BundleFence$Op" "SHR" "LBundleFence$Op;" ∈ gtbl := gtt_7 145 rfl rfl
theorem tw1739 : Cond.methodLink "BundleFence$Machine" 268 ⟨"BundleFence$Flags", "shiftDouble", "(LBundleFence$Op;III)I"⟩ ∈ gtbl := gtt_7 147 rfl rfl
theorem tw1740 : Cond.instanceMethod ⟨"BundleFence$Flags", "shiftDouble", "(LBundleFence$Op;III)I"⟩ ∈ gtbl := gtt_7 148 rfl rfl
theorem tw1741 : Cond.selects "BundleFence$Flags" ⟨"BundleFence$Flags", "shiftDouble", "(LBundleFence$Op;III)I"⟩ ⟨"BundleFence$Flags", "shiftDouble", "(LBundleFence$Op;III)I"⟩ ∈ gtbl := gtt_7 149 rfl rfl
theorem tw1742 : Cond.code ⟨"BundleFence$Flags", "shiftDouble", "(LBundleFence$Op;III)I"⟩ cX2_shiftDouble 8 (some .int) ∈ gtbl := gtt_7 150 rfl rfl
theorem tw1743 : Cond.fieldLink "BundleFence$Flags" 99 "BundleFence$Op" "SHLD" "LBundleFence$Op;" ∈ gtbl := gtt_7 151 rfl rfl
theorem tw1744 : Cond.methodLink "BundleFence$Machine" 186 ⟨"BundleFence$Machine", "doProduct", "()V"⟩ ∈ gtbl := gtt_7 152 rfl rfl
theorem tw1746 : Cond.instanceMethod ⟨"BundleFence$Machine", "doProduct", "()V"⟩ ∈ gtbl := gtt_7 154 rfl rfl
theorem tw1747 : Cond.code ⟨"BundleFence$Machine", "doProduct", "()V"⟩ cX7_doProduct 7 none ∈ gtbl := gtt_7 155 rfl rfl
theorem tw1748 : Cond.fieldLink "BundleFence$Machine" 271 "BundleFence$Op" "IMUL" "LBundleFence$Op;" ∈ gtbl := gtt_7 156 rfl rfl
theorem tw1749 : Cond.methodLink "BundleFence$Machine" 274 ⟨"BundleFence$Flags", "tellResult", "(II)V"⟩ ∈ gtbl := gtt_7 157 rfl rfl
theorem tw1750 : Cond.methodLink "BundleFence$Machine" 278 ⟨"BundleFence$Flags", "tellCarry", "(ZZ)V"⟩ ∈ gtbl := gtt_7 158 rfl rfl
theorem tw1751 : Cond.methodLink "BundleFence$Machine" 282 ⟨"BundleFence$Machine", "multiplyByte", "(I)V"⟩ ∈ gtbl := gtt_7 159 rfl rfl
theorem tw1753 : Cond.instanceMethod ⟨"BundleFence$Machine", "multiplyByte", "(I)V"⟩ ∈ gtbl := gtt_7 161 rfl rfl
theorem tw1754 : Cond.code ⟨"BundleFence$Machine", "multiplyByte", "(I)V"⟩ cX7_multiplyByte 6 none ∈ gtbl := gtt_7 162 rfl rfl
theorem tw1755 : Cond.fieldLink "BundleFence$Machine" 288 "BundleFence$Op" "IMUL_WIDE" "LBundleFence$Op;" ∈ gtbl := gtt_7 163 rfl rfl
theorem tw1756 : Cond.methodLink "BundleFence$Machine" 285 ⟨"BundleFence$Machine", "multiplyLong", "(I)V"⟩ ∈ gtbl := gtt_7 164 rfl rfl
theorem tw1758 : Cond.instanceMethod ⟨"BundleFence$Machine", "multiplyLong", "(I)V"⟩ ∈ gtbl := gtt_7 166 rfl rfl
theorem tw1759 : Cond.code ⟨"BundleFence$Machine", "multiplyLong", "(I)V"⟩ cX7_multiplyLong 7 none ∈ gtbl := gtt_7 167 rfl rfl
theorem tw1760 : ("BundleFence$Machine", 291, (⟨"BundleFence", "unsigned", "(I)J"⟩ : MethodName), "BundleFence") ∈ nestL := List.mem_of_getElem? (i := 8) rfl
theorem tw1761 : Cond.methodLink "BundleFence$Machine" 189 ⟨"BundleFence$Machine", "doQuotient", "()V"⟩ ∈ gtbl := gtt_7 169 rfl rfl
theorem tw1763 : Cond.instanceMethod ⟨"BundleFence$Machine", "doQuotient", "()V"⟩ ∈ gtbl := gtt_7 171 rfl rfl
theorem tw1764 : Cond.code ⟨"BundleFence$Machine", "doQuotient", "()V"⟩ cX7_doQuotient 2 none ∈ gtbl := gtt_7 172 rfl rfl
theorem tw1765 : Cond.methodLink "BundleFence$Machine" 295 ⟨"BundleFence$Machine", "divideByte", "(I)V"⟩ ∈ gtbl := gtt_7 173 rfl rfl
theorem tw1767 : Cond.instanceMethod ⟨"BundleFence$Machine", "divideByte", "(I)V"⟩ ∈ gtbl := gtt_7 175 rfl rfl
theorem tw1768 : Cond.code ⟨"BundleFence$Machine", "divideByte", "(I)V"⟩ cX7_divideByte 6 none ∈ gtbl := gtt_7 176 rfl rfl
theorem tw1769 : Cond.fieldLink "BundleFence$Machine" 308 "BundleFence$Op" "IDIV" "LBundleFence$Op;" ∈ gtbl := gtt_7 177 rfl rfl
theorem tw1770 : Cond.fieldLink "BundleFence$Machine" 298 "BundleFence$Op" "DIV" "LBundleFence$Op;" ∈ gtbl := gtt_7 178 rfl rfl
theorem tw1771 : Cond.methodLink "BundleFence$Machine" 301 ⟨"BundleFence$Machine", "divideLong", "(J)V"⟩ ∈ gtbl := gtt_7 179 rfl rfl
theorem tw1773 : Cond.instanceMethod ⟨"BundleFence$Machine", "divideLong", "(J)V"⟩ ∈ gtbl := gtt_7 181 rfl rfl
theorem tw1774 : Cond.code ⟨"BundleFence$Machine", "divideLong", "(J)V"⟩ cX7_divideLong 7 none ∈ gtbl := gtt_7 182 rfl rfl
theorem tw1775 : Cond.methodLink "BundleFence$Machine" 305 ⟨"BundleFence$Machine", "divideLongWithSign", "(I)V"⟩ ∈ gtbl := gtt_7 183 rfl rfl
theorem tw1777 : Cond.instanceMethod ⟨"BundleFence$Machine", "divideLongWithSign", "(I)V"⟩ ∈ gtbl := gtt_7 185 rfl rfl
theorem tw1778 : Cond.code ⟨"BundleFence$Machine", "divideLongWithSign", "(I)V"⟩ cX7_divideLongWithSign 6 none ∈ gtbl := gtt_7 186 rfl rfl
theorem tw1779 : Cond.methodLink "BundleFence$Machine" 192 ⟨"BundleFence$Machine", "doMove", "()V"⟩ ∈ gtbl := gtt_7 187 rfl rfl
theorem tw1781 : Cond.instanceMethod ⟨"BundleFence$Machine", "doMove", "()V"⟩ ∈ gtbl := gtt_7 189 rfl rfl
theorem tw1782 : Cond.code ⟨"BundleFence$Machine", "doMove", "()V"⟩ cX7_doMove 2 none ∈ gtbl := gtt_7 190 rfl rfl
theorem tw1783 : Cond.fieldLink "BundleFence$Machine" 311 "BundleFence$1" "$SwitchMap$BundleFence$Op" "[I" ∈ gtbl := gtt_7 191 rfl rfl
theorem tw1784 : Cond.methodLink "BundleFence$Machine" 316 ⟨"BundleFence$Op", "ordinal", "()I"⟩ ∈ gtbl := gtt_7 192 rfl rfl
theorem tw1785 : ("BundleFence$Machine", 319, (⟨"BundleFence", "withSign", "(II)I"⟩ : MethodName), "BundleFence") ∈ nestL := List.mem_of_getElem? (i := 9) rfl
theorem tw1786 : Cond.static ⟨"BundleFence", "withSign", "(II)I"⟩ ∈ gtbl := gtt_7 194 rfl rfl
theorem tw1787 : Cond.code ⟨"BundleFence", "withSign", "(II)I"⟩ cX11_withSign 2 (some .int) ∈ gtbl := gtt_7 195 rfl rfl
theorem tw1788 : Cond.methodLink "BundleFence$Machine" 325 ⟨"BundleFence$Flags", "holds", "(I)Z"⟩ ∈ gtbl := gtt_7 196 rfl rfl
theorem tw1789 : Cond.instanceMethod ⟨"BundleFence$Flags", "holds", "(I)Z"⟩ ∈ gtbl := gtt_7 197 rfl rfl
theorem tw1790 : Cond.selects "BundleFence$Flags" ⟨"BundleFence$Flags", "holds", "(I)Z"⟩ ⟨"BundleFence$Flags", "holds", "(I)Z"⟩ ∈ gtbl := gtt_7 198 rfl rfl
theorem tw1791 : Cond.code ⟨"BundleFence$Flags", "holds", "(I)Z"⟩ cX2_holds 3 (some .boolean) ∈ gtbl := gtt_7 199 rfl rfl
theorem tw1792 : Cond.methodLink "BundleFence$Machine" 195 ⟨"BundleFence$Machine", "doRearrange", "()V"⟩ ∈ gtbl := gtt_7 200 rfl rfl
theorem tw1794 : Cond.instanceMethod ⟨"BundleFence$Machine", "doRearrange", "()V"⟩ ∈ gtbl := gtt_7 202 rfl rfl
theorem tw1795 : Cond.code ⟨"BundleFence$Machine", "doRearrange", "()V"⟩ cX7_doRearrange 1 none ∈ gtbl := gtt_7 203 rfl rfl
theorem tw1796 : Cond.methodLink "BundleFence$Machine" 328 ⟨"BundleFence$Machine", "scanBits", "(I)V"⟩ ∈ gtbl := gtt_7 204 rfl rfl
theorem tw1798 : Cond.instanceMethod ⟨"BundleFence$Machine", "scanBits", "(I)V"⟩ ∈ gtbl := gtt_7 206 rfl rfl
theorem tw1799 : Cond.code ⟨"BundleFence$Machine", "scanBits", "(I)V"⟩ cX7_scanBits 3 none ∈ gtbl := gtt_7 207 rfl rfl
theorem tw1800 : Cond.methodLink "BundleFence$Machine" 336 ⟨"BundleFence$Flags", "set", "(IZ)V"⟩ ∈ gtbl := gtt_7 208 rfl rfl
theorem tw1801 : Cond.fieldLink "BundleFence$Machine" 340 "BundleFence$Op" "BSF" "LBundleFence$Op;" ∈ gtbl := gtt_7 209 rfl rfl
theorem tw1802 : Cond.methodLink "BundleFence$Machine" 343 ⟨"java/lang/Integer", "numberOfTrailingZeros", "(I)I"⟩ ∈ gtbl := gtt_7 210 rfl rfl
theorem tw1803 : Cond.static ⟨"java/lang/Integer", "numberOfTrailingZeros", "(I)I"⟩ ∈ gtbl := gtt_7 211 rfl rfl
theorem tw1804 : Cond.code ⟨"java/lang/Integer", "numberOfTrailingZeros", "(I)I"⟩ cJ6_numberOfTrailingZeros_0f7a4 2 (some .int) ∈ gtbl := gtt_7 212 rfl rfl
theorem tw1805 : Cond.constant "java/lang/Integer" 264 65536 ∈ gtbl := gtt_7 213 rfl rfl
theorem tw1806 : Cond.methodLink "BundleFence$Machine" 346 ⟨"java/lang/Integer", "numberOfLeadingZeros", "(I)I"⟩ ∈ gtbl := gtt_7 214 rfl rfl
theorem tw1807 : Cond.static ⟨"java/lang/Integer", "numberOfLeadingZeros", "(I)I"⟩ ∈ gtbl := gtt_7 215 rfl rfl
theorem tw1808 : Cond.code ⟨"java/lang/Integer", "numberOfLeadingZeros", "(I)I"⟩ cJ6_numberOfLeadingZeros_0f7a4 2 (some .int) ∈ gtbl := gtt_7 216 rfl rfl
theorem tw1809 : Cond.methodLink "BundleFence$Machine" 331 ⟨"java/lang/Integer", "reverseBytes", "(I)I"⟩ ∈ gtbl := gtt_7 217 rfl rfl
theorem tw1810 : Cond.static ⟨"java/lang/Integer", "reverseBytes", "(I)I"⟩ ∈ gtbl := gtt_7 218 rfl rfl
theorem tw1811 : Cond.code ⟨"java/lang/Integer", "reverseBytes", "(I)I"⟩ cJ6_reverseBytes_0f7a4 1 (some .int) ∈ gtbl := gtt_7 219 rfl rfl
theorem tw1812 : Cond.constant "java/lang/Integer" 274 65280 ∈ gtbl := gtt_7 220 rfl rfl
theorem tw1813 : Cond.methodLink "BundleFence$Machine" 198 ⟨"BundleFence$Machine", "doExchange", "()V"⟩ ∈ gtbl := gtt_7 221 rfl rfl
theorem tw1815 : Cond.instanceMethod ⟨"BundleFence$Machine", "doExchange", "()V"⟩ ∈ gtbl := gtt_7 223 rfl rfl
theorem tw1816 : Cond.code ⟨"BundleFence$Machine", "doExchange", "()V"⟩ cX7_doExchange 3 none ∈ gtbl := gtt_7 224 rfl rfl
theorem tw1817 : Cond.methodLink "BundleFence$Machine" 349 ⟨"BundleFence$Flags", "add", "(IIII)I"⟩ ∈ gtbl := gtt_7 225 rfl rfl
theorem tw1818 : Cond.methodLink "BundleFence$Machine" 353 ⟨"BundleFence$Flags", "subtract", "(IIII)I"⟩ ∈ gtbl := gtt_7 226 rfl rfl
theorem tw1819 : Cond.methodLink "BundleFence$Machine" 201 ⟨"BundleFence$Machine", "doStack", "()V"⟩ ∈ gtbl := gtt_7 227 rfl rfl
theorem tw1821 : Cond.instanceMethod ⟨"BundleFence$Machine", "doStack", "()V"⟩ ∈ gtbl := gtt_7 229 rfl rfl
theorem tw1822 : Cond.code ⟨"BundleFence$Machine", "doStack", "()V"⟩ cX7_doStack 3 none ∈ gtbl := gtt_7 230 rfl rfl
theorem tw1823 : Cond.methodLink "BundleFence$Machine" 356 ⟨"BundleFence$Machine", "push", "(I)V"⟩ ∈ gtbl := gtt_7 231 rfl rfl
theorem tw1825 : Cond.instanceMethod ⟨"BundleFence$Machine", "push", "(I)V"⟩ ∈ gtbl := gtt_7 233 rfl rfl
theorem tw1826 : Cond.code ⟨"BundleFence$Machine", "push", "(I)V"⟩ cX7_push 2 none ∈ gtbl := gtt_7 234 rfl rfl
theorem tw1827 : Cond.methodLink "BundleFence$Machine" 204 ⟨"BundleFence$Machine", "doJump", "()V"⟩ ∈ gtbl := gtt_7 235 rfl rfl
theorem tw1829 : Cond.instanceMethod ⟨"BundleFence$Machine", "doJump", "()V"⟩ ∈ gtbl := gtt_7 237 rfl rfl
theorem tw1830 : Cond.code ⟨"BundleFence$Machine", "doJump", "()V"⟩ cX7_doJump 2 none ∈ gtbl := gtt_7 238 rfl rfl
theorem tw1831 : Cond.fieldLink "BundleFence$Machine" 359 "BundleFence$Op" "J" "LBundleFence$Op;" ∈ gtbl := gtt_7 239 rfl rfl
theorem tw1832 : Cond.fieldLink "BundleFence$Machine" 361 "BundleFence$Op" "LOOP" "LBundleFence$Op;" ∈ gtbl := gtt_8 0 rfl rfl
theorem tw1833 : Cond.fieldLink "BundleFence$Machine" 364 "BundleFence$Op" "JECXZ" "LBundleFence$Op;" ∈ gtbl := gtt_8 1 rfl rfl
theorem tw1834 : Cond.methodLink "BundleFence$Machine" 207 ⟨"BundleFence$Machine", "doRest", "()V"⟩ ∈ gtbl := gtt_8 2 rfl rfl
theorem tw1836 : Cond.instanceMethod ⟨"BundleFence$Machine", "doRest", "()V"⟩ ∈ gtbl := gtt_8 4 rfl rfl
theorem tw1837 : Cond.code ⟨"BundleFence$Machine", "doRest", "()V"⟩ cX7_doRest 1 none ∈ gtbl := gtt_8 5 rfl rfl
theorem tw1838 : Cond.methodLink "BundleFence$Machine" 367 ⟨"BundleFence$Flags", "has", "(I)Z"⟩ ∈ gtbl := gtt_8 6 rfl rfl
theorem tw1839 : Cond.methodLink "BundleFence$Machine" 91 ⟨"BundleFence$Machine", "settle", "()V"⟩ ∈ gtbl := gtt_8 7 rfl rfl
theorem tw1841 : Cond.instanceMethod ⟨"BundleFence$Machine", "settle", "()V"⟩ ∈ gtbl := gtt_8 9 rfl rfl
theorem tw1842 : Cond.code ⟨"BundleFence$Machine", "settle", "()V"⟩ cX7_settle 2 none ∈ gtbl := gtt_8 10 rfl rfl
theorem tw2446 : Cond.fieldLink "BundleFence$Instruction" 64 "BundleFence$Op" "writes" "I" ∈ gtbl := gtt_10 134 rfl rfl
theorem tw2448 : Cond.fieldLink "BundleFence$Machine" 162 "BundleFence$Op" "kind" "I" ∈ gtbl := gtt_10 136 rfl rfl
theorem tw2450 : Cond.fieldLink "BundleFence$Machine" 259 "BundleFence$Op" "writes" "I" ∈ gtbl := gtt_10 138 rfl rfl
theorem gfX11_10 {ρ : Type} {ι : ρ → xO × xW} {M : xMd} {b : Nat × Nat} {pc : Nat} {lv : List (Nat × Value)} {st : List Value} {w : xW} {r : Option ρ} (hd : decode M.2.1 pc = .ok (.getfield 10, 3)) (hM : M.1.cls = "BundleFence") (kk : xJ ι M lC b (pc + 3) lv (.ref 1 :: st) w r) : xJ ι M lC b pc lv (.ref 0 :: st) w r :=
  xj_gf (v := .ref 1) (ci := 0) (j := 0) (C := RX11) (T := TX11) (N := 9) hd rfl rfl xkX11 (Nat.le_of_ble_eq_true rfl) (by rw [hM]; exact tw573) (fun _ => rfl) kk
theorem gfX11_102 {ρ : Type} {ι : ρ → xO × xW} {M : xMd} {b : Nat × Nat} {pc : Nat} {lv : List (Nat × Value)} {st : List Value} {w : xW} {r : Option ρ} {v : Int32} (hd : decode M.2.1 pc = .ok (.getfield 102, 3)) (hM : M.1.cls = "BundleFence") (hv : w.1 8 10 = v) (kk : xJ ι M lC b (pc + 3) lv (.int v :: st) w r) : xJ ι M lC b pc lv (.ref 8 :: st) w r :=
  xj_gf (v := .int v) (ci := 8) (j := 10) (C := RX7) (T := TX7) (N := 16) hd rfl rfl xkX7 (Nat.le_of_ble_eq_true rfl) (by rw [hM]; exact tw531) (fun _ => by subst hv; rfl) kk
theorem gfX11_109 {ρ : Type} {ι : ρ → xO × xW} {M : xMd} {b : Nat × Nat} {pc : Nat} {lv : List (Nat × Value)} {st : List Value} {w : xW} {r : Option ρ} {v : Int32} (hd : decode M.2.1 pc = .ok (.getfield 109, 3)) (hM : M.1.cls = "BundleFence") (hv : w.1 4 10 = v) (kk : xJ ι M lC b (pc + 3) lv (.int v :: st) w r) : xJ ι M lC b pc lv (.ref 4 :: st) w r :=
  xj_gf (v := .int v) (ci := 4) (j := 10) (C := RX5) (T := TX5) (N := 12) hd rfl rfl xkX5 (Nat.le_of_ble_eq_true rfl) (by rw [hM]; exact tw366) (fun _ => by subst hv; rfl) kk
theorem gfX11_112 {ρ : Type} {ι : ρ → xO × xW} {M : xMd} {b : Nat × Nat} {pc : Nat} {lv : List (Nat × Value)} {st : List Value} {w : xW} {r : Option ρ} {v : Int32} (hd : decode M.2.1 pc = .ok (.getfield 112, 3)) (hM : M.1.cls = "BundleFence") (hv : w.1 4 11 = v) (kk : xJ ι M lC b (pc + 3) lv (.int v :: st) w r) : xJ ι M lC b pc lv (.ref 4 :: st) w r :=
  xj_gf (v := .int v) (ci := 4) (j := 11) (C := RX5) (T := TX5) (N := 12) hd rfl rfl xkX5 (Nat.le_of_ble_eq_true rfl) (by rw [hM]; exact tw368) (fun _ => by subst hv; rfl) kk
theorem gfX11_115 {ρ : Type} {ι : ρ → xO × xW} {M : xMd} {b : Nat × Nat} {pc : Nat} {lv : List (Nat × Value)} {st : List Value} {w : xW} {r : Option ρ} {v : Int32} (hd : decode M.2.1 pc = .ok (.getfield 115, 3)) (hM : M.1.cls = "BundleFence") (hv : w.1 4 9 = v) (kk : xJ ι M lC b (pc + 3) lv (.int v :: st) w r) : xJ ι M lC b pc lv (.ref 4 :: st) w r :=
  xj_gf (v := .int v) (ci := 4) (j := 9) (C := RX5) (T := TX5) (N := 12) hd rfl rfl xkX5 (Nat.le_of_ble_eq_true rfl) (by rw [hM]; exact tw364) (fun _ => by subst hv; rfl) kk
theorem gfX11_152 {ρ : Type} {ι : ρ → xO × xW} {M : xMd} {b : Nat × Nat} {pc : Nat} {lv : List (Nat × Value)} {st : List Value} {w : xW} {r : Option ρ} (hd : decode M.2.1 pc = .ok (.getfield 152, 3)) (hM : M.1.cls = "BundleFence") (kk : xJ ι M lC b (pc + 3) lv (.ref 10 :: st) w r) : xJ ι M lC b pc lv (.ref 1 :: st) w r :=
  xj_gf (v := .ref 10) (ci := 1) (j := 0) (C := RX4) (T := TX4) (N := 2) hd rfl rfl xkX4 (Nat.le_of_ble_eq_true rfl) (by rw [hM]; exact tw203) (fun _ => rfl) kk
theorem gfX11_156 {ρ : Type} {ι : ρ → xO × xW} {M : xMd} {b : Nat × Nat} {pc : Nat} {lv : List (Nat × Value)} {st : List Value} {w : xW} {r : Option ρ} {v : Int32} (hd : decode M.2.1 pc = .ok (.getfield 156, 3)) (hM : M.1.cls = "BundleFence") (hv : w.1 7 5 = v) (kk : xJ ι M lC b (pc + 3) lv (.int v :: st) w r) : xJ ι M lC b pc lv (.ref 7 :: st) w r :=
  xj_gf (v := .int v) (ci := 7) (j := 5) (C := RX3) (T := TX3) (N := 8) hd rfl rfl xkX3 (Nat.le_of_ble_eq_true rfl) (by rw [hM]; exact tw472) (fun _ => by subst hv; rfl) kk
theorem gfX11_180 {ρ : Type} {ι : ρ → xO × xW} {M : xMd} {b : Nat × Nat} {pc : Nat} {lv : List (Nat × Value)} {st : List Value} {w : xW} {r : Option ρ} {v : Int32} (hd : decode M.2.1 pc = .ok (.getfield 180, 3)) (hM : M.1.cls = "BundleFence") (hv : w.1 8 11 = v) (kk : xJ ι M lC b (pc + 3) lv (.int v :: st) w r) : xJ ι M lC b pc lv (.ref 8 :: st) w r :=
  xj_gf (v := .int v) (ci := 8) (j := 11) (C := RX7) (T := TX7) (N := 16) hd rfl rfl xkX7 (Nat.le_of_ble_eq_true rfl) (by rw [hM]; exact tw533) (fun _ => by subst hv; rfl) kk
theorem gfX11_192 {ρ : Type} {ι : ρ → xO × xW} {M : xMd} {b : Nat × Nat} {pc : Nat} {lv : List (Nat × Value)} {st : List Value} {w : xW} {r : Option ρ} {v : Int32} (hd : decode M.2.1 pc = .ok (.getfield 192, 3)) (hM : M.1.cls = "BundleFence") (hv : w.1 8 12 = v) (kk : xJ ι M lC b (pc + 3) lv (.int v :: st) w r) : xJ ι M lC b pc lv (.ref 8 :: st) w r :=
  xj_gf (v := .int v) (ci := 8) (j := 12) (C := RX7) (T := TX7) (N := 16) hd rfl rfl xkX7 (Nat.le_of_ble_eq_true rfl) (by rw [hM]; exact tw535) (fun _ => by subst hv; rfl) kk
theorem gfX11_195 {ρ : Type} {ι : ρ → xO × xW} {M : xMd} {b : Nat × Nat} {pc : Nat} {lv : List (Nat × Value)} {st : List Value} {w : xW} {r : Option ρ} {v : Int32} (hd : decode M.2.1 pc = .ok (.getfield 195, 3)) (hM : M.1.cls = "BundleFence") (hv : w.1 7 4 = v) (kk : xJ ι M lC b (pc + 3) lv (.int v :: st) w r) : xJ ι M lC b pc lv (.ref 7 :: st) w r :=
  xj_gf (v := .int v) (ci := 7) (j := 4) (C := RX3) (T := TX3) (N := 8) hd rfl rfl xkX3 (Nat.le_of_ble_eq_true rfl) (by rw [hM]; exact tw470) (fun _ => by subst hv; rfl) kk
theorem gfX11_198 {ρ : Type} {ι : ρ → xO × xW} {M : xMd} {b : Nat × Nat} {pc : Nat} {lv : List (Nat × Value)} {st : List Value} {w : xW} {r : Option ρ} {v : Int32} (hd : decode M.2.1 pc = .ok (.getfield 198, 3)) (hM : M.1.cls = "BundleFence") (hv : w.1 7 6 = v) (kk : xJ ι M lC b (pc + 3) lv (.int v :: st) w r) : xJ ι M lC b pc lv (.ref 7 :: st) w r :=
  xj_gf (v := .int v) (ci := 7) (j := 6) (C := RX3) (T := TX3) (N := 8) hd rfl rfl xkX3 (Nat.le_of_ble_eq_true rfl) (by rw [hM]; exact tw474) (fun _ => by subst hv; rfl) kk
theorem gfX11_201 {ρ : Type} {ι : ρ → xO × xW} {M : xMd} {b : Nat × Nat} {pc : Nat} {lv : List (Nat × Value)} {st : List Value} {w : xW} {r : Option ρ} {v : Int32} (hd : decode M.2.1 pc = .ok (.getfield 201, 3)) (hM : M.1.cls = "BundleFence") (hv : w.1 7 7 = v) (kk : xJ ι M lC b (pc + 3) lv (.int v :: st) w r) : xJ ι M lC b pc lv (.ref 7 :: st) w r :=
  xj_gf (v := .int v) (ci := 7) (j := 7) (C := RX3) (T := TX3) (N := 8) hd rfl rfl xkX3 (Nat.le_of_ble_eq_true rfl) (by rw [hM]; exact tw476) (fun _ => by subst hv; rfl) kk
theorem gfX11_204 {ρ : Type} {ι : ρ → xO × xW} {M : xMd} {b : Nat × Nat} {pc : Nat} {lv : List (Nat × Value)} {st : List Value} {w : xW} {r : Option ρ} (hd : decode M.2.1 pc = .ok (.getfield 204, 3)) (hM : M.1.cls = "BundleFence") (kk : xJ ι M lC b (pc + 3) lv (.ref 9 :: st) w r) : xJ ι M lC b pc lv (.ref 8 :: st) w r :=
  xj_gf (v := .ref 9) (ci := 8) (j := 5) (C := RX7) (T := TX7) (N := 16) hd rfl rfl xkX7 (Nat.le_of_ble_eq_true rfl) (by rw [hM]; exact tw523) (fun _ => rfl) kk
theorem gfX11_208 {ρ : Type} {ι : ρ → xO × xW} {M : xMd} {b : Nat × Nat} {pc : Nat} {lv : List (Nat × Value)} {st : List Value} {w : xW} {r : Option ρ} {v : Int32} (hd : decode M.2.1 pc = .ok (.getfield 208, 3)) (hM : M.1.cls = "BundleFence") (hv : w.1 9 0 = v) (kk : xJ ι M lC b (pc + 3) lv (.int v :: st) w r) : xJ ι M lC b pc lv (.ref 9 :: st) w r :=
  xj_gf (v := .int v) (ci := 9) (j := 0) (C := RX2) (T := TX2) (N := 1) hd rfl rfl xkX2 (Nat.le_of_ble_eq_true rfl) (by rw [hM]; exact tw508) (fun _ => by subst hv; rfl) kk
theorem gfX11_215 {ρ : Type} {ι : ρ → xO × xW} {M : xMd} {b : Nat × Nat} {pc : Nat} {lv : List (Nat × Value)} {st : List Value} {w : xW} {r : Option ρ} {v : Int64} (hd : decode M.2.1 pc = .ok (.getfield 215, 3)) (hM : M.1.cls = "BundleFence") (hv : w.2 8 13 = v) (kk : xJ ι M lC b (pc + 3) lv (.long v :: st) w r) : xJ ι M lC b pc lv (.ref 8 :: st) w r :=
  xj_gf (v := .long v) (ci := 8) (j := 13) (C := RX7) (T := TX7) (N := 16) hd rfl rfl xkX7 (Nat.le_of_ble_eq_true rfl) (by rw [hM]; exact tw537) (fun _ => by subst hv; rfl) kk
theorem gfX11_224 {ρ : Type} {ι : ρ → xO × xW} {M : xMd} {b : Nat × Nat} {pc : Nat} {lv : List (Nat × Value)} {st : List Value} {w : xW} {r : Option ρ} (hd : decode M.2.1 pc = .ok (.getfield 224, 3)) (hM : M.1.cls = "BundleFence") (kk : xJ ι M lC b (pc + 3) lv (.ref 20 :: st) w r) : xJ ι M lC b pc lv (.ref 8 :: st) w r :=
  xj_gf (v := .ref 20) (ci := 8) (j := 6) (C := RX7) (T := TX7) (N := 16) hd rfl rfl xkX7 (Nat.le_of_ble_eq_true rfl) (by rw [hM]; exact tw525) (fun _ => rfl) kk
theorem gfX11_231 {ρ : Type} {ι : ρ → xO × xW} {M : xMd} {b : Nat × Nat} {pc : Nat} {lv : List (Nat × Value)} {st : List Value} {w : xW} {r : Option ρ} (hd : decode M.2.1 pc = .ok (.getfield 231, 3)) (hM : M.1.cls = "BundleFence") (kk : xJ ι M lC b (pc + 3) lv (.ref 21 :: st) w r) : xJ ι M lC b pc lv (.ref 8 :: st) w r :=
  xj_gf (v := .ref 21) (ci := 8) (j := 7) (C := RX7) (T := TX7) (N := 16) hd rfl rfl xkX7 (Nat.le_of_ble_eq_true rfl) (by rw [hM]; exact tw527) (fun _ => rfl) kk
theorem gfX11_28 {ρ : Type} {ι : ρ → xO × xW} {M : xMd} {b : Nat × Nat} {pc : Nat} {lv : List (Nat × Value)} {st : List Value} {w : xW} {r : Option ρ} (hd : decode M.2.1 pc = .ok (.getfield 28, 3)) (hM : M.1.cls = "BundleFence") (kk : xJ ι M lC b (pc + 3) lv (.ref 3 :: st) w r) : xJ ι M lC b pc lv (.ref 0 :: st) w r :=
  xj_gf (v := .ref 3) (ci := 0) (j := 2) (C := RX11) (T := TX11) (N := 9) hd rfl rfl xkX11 (Nat.le_of_ble_eq_true rfl) (by rw [hM]; exact tw575) (fun _ => rfl) kk
theorem gfX11_37 {ρ : Type} {ι : ρ → xO × xW} {M : xMd} {b : Nat × Nat} {pc : Nat} {lv : List (Nat × Value)} {st : List Value} {w : xW} {r : Option ρ} (hd : decode M.2.1 pc = .ok (.getfield 37, 3)) (hM : M.1.cls = "BundleFence") (kk : xJ ι M lC b (pc + 3) lv (.ref 4 :: st) w r) : xJ ι M lC b pc lv (.ref 0 :: st) w r :=
  xj_gf (v := .ref 4) (ci := 0) (j := 3) (C := RX11) (T := TX11) (N := 9) hd rfl rfl xkX11 (Nat.le_of_ble_eq_true rfl) (by rw [hM]; exact tw576) (fun _ => rfl) kk
theorem gfX11_55 {ρ : Type} {ι : ρ → xO × xW} {M : xMd} {b : Nat × Nat} {pc : Nat} {lv : List (Nat × Value)} {st : List Value} {w : xW} {r : Option ρ} (hd : decode M.2.1 pc = .ok (.getfield 55, 3)) (hM : M.1.cls = "BundleFence") (kk : xJ ι M lC b (pc + 3) lv (.ref 6 :: st) w r) : xJ ι M lC b pc lv (.ref 0 :: st) w r :=
  xj_gf (v := .ref 6) (ci := 0) (j := 5) (C := RX11) (T := TX11) (N := 9) hd rfl rfl xkX11 (Nat.le_of_ble_eq_true rfl) (by rw [hM]; exact tw578) (fun _ => rfl) kk
theorem gfX11_64 {ρ : Type} {ι : ρ → xO × xW} {M : xMd} {b : Nat × Nat} {pc : Nat} {lv : List (Nat × Value)} {st : List Value} {w : xW} {r : Option ρ} (hd : decode M.2.1 pc = .ok (.getfield 64, 3)) (hM : M.1.cls = "BundleFence") (kk : xJ ι M lC b (pc + 3) lv (.ref 7 :: st) w r) : xJ ι M lC b pc lv (.ref 0 :: st) w r :=
  xj_gf (v := .ref 7) (ci := 0) (j := 6) (C := RX11) (T := TX11) (N := 9) hd rfl rfl xkX11 (Nat.le_of_ble_eq_true rfl) (by rw [hM]; exact tw579) (fun _ => rfl) kk
theorem gfX11_73 {ρ : Type} {ι : ρ → xO × xW} {M : xMd} {b : Nat × Nat} {pc : Nat} {lv : List (Nat × Value)} {st : List Value} {w : xW} {r : Option ρ} (hd : decode M.2.1 pc = .ok (.getfield 73, 3)) (hM : M.1.cls = "BundleFence") (kk : xJ ι M lC b (pc + 3) lv (.ref 8 :: st) w r) : xJ ι M lC b pc lv (.ref 0 :: st) w r :=
  xj_gf (v := .ref 8) (ci := 0) (j := 7) (C := RX11) (T := TX11) (N := 9) hd rfl rfl xkX11 (Nat.le_of_ble_eq_true rfl) (by rw [hM]; exact tw580) (fun _ => rfl) kk
theorem gfX11_77 {ρ : Type} {ι : ρ → xO × xW} {M : xMd} {b : Nat × Nat} {pc : Nat} {lv : List (Nat × Value)} {st : List Value} {w : xW} {r : Option ρ} (hd : decode M.2.1 pc = .ok (.getfield 77, 3)) (hM : M.1.cls = "BundleFence") (kk : xJ ι M lC b (pc + 3) lv (.ref 11 :: st) w r) : xJ ι M lC b pc lv (.ref 0 :: st) w r :=
  xj_gf (v := .ref 11) (ci := 0) (j := 8) (C := RX11) (T := TX11) (N := 9) hd rfl rfl xkX11 (Nat.le_of_ble_eq_true rfl) (by rw [hM]; exact tw581) (fun _ => rfl) kk
theorem gfX11_88 {ρ : Type} {ι : ρ → xO × xW} {M : xMd} {b : Nat × Nat} {pc : Nat} {lv : List (Nat × Value)} {st : List Value} {w : xW} {r : Option ρ} {v : Int32} (hd : decode M.2.1 pc = .ok (.getfield 88, 3)) (hM : M.1.cls = "BundleFence") (hv : w.1 1 1 = v) (kk : xJ ι M lC b (pc + 3) lv (.int v :: st) w r) : xJ ι M lC b pc lv (.ref 1 :: st) w r :=
  xj_gf (v := .int v) (ci := 1) (j := 1) (C := RX4) (T := TX4) (N := 2) hd rfl rfl xkX4 (Nat.le_of_ble_eq_true rfl) (by rw [hM]; exact tw205) (fun _ => by subst hv; rfl) kk
theorem gfX1_100 {ρ : Type} {ι : ρ → xO × xW} {M : xMd} {b : Nat × Nat} {pc : Nat} {lv : List (Nat × Value)} {st : List Value} {w : xW} {r : Option ρ} {v : Int32} (hd : decode M.2.1 pc = .ok (.getfield 100, 3)) (hM : M.1.cls = "BundleFence$Decoder") (hv : w.1 2 7 = v) (kk : xJ ι M lC b (pc + 3) lv (.int v :: st) w r) : xJ ι M lC b pc lv (.ref 2 :: st) w r :=
  xj_gf (v := .int v) (ci := 2) (j := 7) (C := RX6) (T := TX6) (N := 15) hd rfl rfl xkX6 (Nat.le_of_ble_eq_true rfl) (by rw [hM]; exact tw254) (fun _ => by subst hv; rfl) kk
theorem gfX1_103 {ρ : Type} {ι : ρ → xO × xW} {M : xMd} {b : Nat × Nat} {pc : Nat} {lv : List (Nat × Value)} {st : List Value} {w : xW} {r : Option ρ} {v : Int32} (hd : decode M.2.1 pc = .ok (.getfield 103, 3)) (hM : M.1.cls = "BundleFence$Decoder") (hv : w.1 2 6 = v) (kk : xJ ι M lC b (pc + 3) lv (.int v :: st) w r) : xJ ι M lC b pc lv (.ref 2 :: st) w r :=
  xj_gf (v := .int v) (ci := 2) (j := 6) (C := RX6) (T := TX6) (N := 15) hd rfl rfl xkX6 (Nat.le_of_ble_eq_true rfl) (by rw [hM]; exact tw249) (fun _ => by subst hv; rfl) kk
theorem gfX1_106 {ρ : Type} {ι : ρ → xO × xW} {M : xMd} {b : Nat × Nat} {pc : Nat} {lv : List (Nat × Value)} {st : List Value} {w : xW} {r : Option ρ} {v : Int32} (hd : decode M.2.1 pc = .ok (.getfield 106, 3)) (hM : M.1.cls = "BundleFence$Decoder") (hv : w.1 2 9 = v) (kk : xJ ι M lC b (pc + 3) lv (.int v :: st) w r) : xJ ι M lC b pc lv (.ref 2 :: st) w r :=
  xj_gf (v := .int v) (ci := 2) (j := 9) (C := RX6) (T := TX6) (N := 15) hd rfl rfl xkX6 (Nat.le_of_ble_eq_true rfl) (by rw [hM]; exact tw263) (fun _ => by subst hv; rfl) kk
theorem gfX1_122 {ρ : Type} {ι : ρ → xO × xW} {M : xMd} {b : Nat × Nat} {pc : Nat} {lv : List (Nat × Value)} {st : List Value} {w : xW} {r : Option ρ} {v : Int32} (hd : decode M.2.1 pc = .ok (.getfield 122, 3)) (hM : M.1.cls = "BundleFence$Decoder") (hv : w.1 2 0 = v) (kk : xJ ι M lC b (pc + 3) lv (.ref (2000 + v.toNatClampNeg) :: st) w r) : xJ ι M lC b pc lv (.ref 2 :: st) w r :=
  xj_gf (v := .ref (2000 + v.toNatClampNeg)) (ci := 2) (j := 0) (C := RX6) (T := TX6) (N := 15) hd rfl rfl xkX6 (Nat.le_of_ble_eq_true rfl) (by rw [hM]; exact tw226) (fun _ => by subst hv; rfl) kk
theorem gfX1_137 {ρ : Type} {ι : ρ → xO × xW} {M : xMd} {b : Nat × Nat} {pc : Nat} {lv : List (Nat × Value)} {st : List Value} {w : xW} {r : Option ρ} {v : Int32} (hd : decode M.2.1 pc = .ok (.getfield 137, 3)) (hM : M.1.cls = "BundleFence$Decoder") (hv : w.1 2 4 = v) (kk : xJ ι M lC b (pc + 3) lv (.int v :: st) w r) : xJ ι M lC b pc lv (.ref 2 :: st) w r :=
  xj_gf (v := .int v) (ci := 2) (j := 4) (C := RX6) (T := TX6) (N := 15) hd rfl rfl xkX6 (Nat.le_of_ble_eq_true rfl) (by rw [hM]; exact tw241) (fun _ => by subst hv; rfl) kk
theorem gfX1_15 {ρ : Type} {ι : ρ → xO × xW} {M : xMd} {b : Nat × Nat} {pc : Nat} {lv : List (Nat × Value)} {st : List Value} {w : xW} {r : Option ρ} (hd : decode M.2.1 pc = .ok (.getfield 15, 3)) (hM : M.1.cls = "BundleFence$Decoder") (kk : xJ ι M lC b (pc + 3) lv (.ref 2 :: st) w r) : xJ ι M lC b pc lv (.ref 3 :: st) w r :=
  xj_gf (v := .ref 2) (ci := 3) (j := 1) (C := RX1) (T := TX1) (N := 8) hd rfl rfl xkX1 (Nat.le_of_ble_eq_true rfl) (by rw [hM]; exact tw324) (fun _ => rfl) kk
theorem gfX1_30 {ρ : Type} {ι : ρ → xO × xW} {M : xMd} {b : Nat × Nat} {pc : Nat} {lv : List (Nat × Value)} {st : List Value} {w : xW} {r : Option ρ} {v : Int32} (hd : decode M.2.1 pc = .ok (.getfield 30, 3)) (hM : M.1.cls = "BundleFence$Decoder") (hv : w.1 3 2 = v) (kk : xJ ι M lC b (pc + 3) lv (.int v :: st) w r) : xJ ι M lC b pc lv (.ref 3 :: st) w r :=
  xj_gf (v := .int v) (ci := 3) (j := 2) (C := RX1) (T := TX1) (N := 8) hd rfl rfl xkX1 (Nat.le_of_ble_eq_true rfl) (by rw [hM]; exact tw325) (fun _ => by subst hv; rfl) kk
theorem gfX1_34 {ρ : Type} {ι : ρ → xO × xW} {M : xMd} {b : Nat × Nat} {pc : Nat} {lv : List (Nat × Value)} {st : List Value} {w : xW} {r : Option ρ} {v : Int32} (hd : decode M.2.1 pc = .ok (.getfield 34, 3)) (hM : M.1.cls = "BundleFence$Decoder") (hv : w.1 3 3 = v) (kk : xJ ι M lC b (pc + 3) lv (.int v :: st) w r) : xJ ι M lC b pc lv (.ref 3 :: st) w r :=
  xj_gf (v := .int v) (ci := 3) (j := 3) (C := RX1) (T := TX1) (N := 8) hd rfl rfl xkX1 (Nat.le_of_ble_eq_true rfl) (by rw [hM]; exact tw326) (fun _ => by subst hv; rfl) kk
theorem gfX1_38 {ρ : Type} {ι : ρ → xO × xW} {M : xMd} {b : Nat × Nat} {pc : Nat} {lv : List (Nat × Value)} {st : List Value} {w : xW} {r : Option ρ} {v : Int32} (hd : decode M.2.1 pc = .ok (.getfield 38, 3)) (hM : M.1.cls = "BundleFence$Decoder") (hv : w.1 3 4 = v) (kk : xJ ι M lC b (pc + 3) lv (.int v :: st) w r) : xJ ι M lC b pc lv (.ref 3 :: st) w r :=
  xj_gf (v := .int v) (ci := 3) (j := 4) (C := RX1) (T := TX1) (N := 8) hd rfl rfl xkX1 (Nat.le_of_ble_eq_true rfl) (by rw [hM]; exact tw327) (fun _ => by subst hv; rfl) kk
theorem gfX1_41 {ρ : Type} {ι : ρ → xO × xW} {M : xMd} {b : Nat × Nat} {pc : Nat} {lv : List (Nat × Value)} {st : List Value} {w : xW} {r : Option ρ} {v : Int32} (hd : decode M.2.1 pc = .ok (.getfield 41, 3)) (hM : M.1.cls = "BundleFence$Decoder") (hv : w.1 3 5 = v) (kk : xJ ι M lC b (pc + 3) lv (.int v :: st) w r) : xJ ι M lC b pc lv (.ref 3 :: st) w r :=
  xj_gf (v := .int v) (ci := 3) (j := 5) (C := RX1) (T := TX1) (N := 8) hd rfl rfl xkX1 (Nat.le_of_ble_eq_true rfl) (by rw [hM]; exact tw328) (fun _ => by subst hv; rfl) kk
theorem gfX1_44 {ρ : Type} {ι : ρ → xO × xW} {M : xMd} {b : Nat × Nat} {pc : Nat} {lv : List (Nat × Value)} {st : List Value} {w : xW} {r : Option ρ} {v : Int32} (hd : decode M.2.1 pc = .ok (.getfield 44, 3)) (hM : M.1.cls = "BundleFence$Decoder") (hv : w.1 3 6 = v) (kk : xJ ι M lC b (pc + 3) lv (.int v :: st) w r) : xJ ι M lC b pc lv (.ref 3 :: st) w r :=
  xj_gf (v := .int v) (ci := 3) (j := 6) (C := RX1) (T := TX1) (N := 8) hd rfl rfl xkX1 (Nat.le_of_ble_eq_true rfl) (by rw [hM]; exact tw329) (fun _ => by subst hv; rfl) kk
theorem gfX1_47 {ρ : Type} {ι : ρ → xO × xW} {M : xMd} {b : Nat × Nat} {pc : Nat} {lv : List (Nat × Value)} {st : List Value} {w : xW} {r : Option ρ} {v : Int32} (hd : decode M.2.1 pc = .ok (.getfield 47, 3)) (hM : M.1.cls = "BundleFence$Decoder") (hv : w.1 3 7 = v) (kk : xJ ι M lC b (pc + 3) lv (.int v :: st) w r) : xJ ι M lC b pc lv (.ref 3 :: st) w r :=
  xj_gf (v := .int v) (ci := 3) (j := 7) (C := RX1) (T := TX1) (N := 8) hd rfl rfl xkX1 (Nat.le_of_ble_eq_true rfl) (by rw [hM]; exact tw330) (fun _ => by subst hv; rfl) kk
theorem gfX1_81 {ρ : Type} {ι : ρ → xO × xW} {M : xMd} {b : Nat × Nat} {pc : Nat} {lv : List (Nat × Value)} {st : List Value} {w : xW} {r : Option ρ} {v : Int32} (hd : decode M.2.1 pc = .ok (.getfield 81, 3)) (hM : M.1.cls = "BundleFence$Decoder") (hv : w.1 2 13 = v) (kk : xJ ι M lC b (pc + 3) lv (.int v :: st) w r) : xJ ι M lC b pc lv (.ref 2 :: st) w r :=
  xj_gf (v := .int v) (ci := 2) (j := 13) (C := RX6) (T := TX6) (N := 15) hd rfl rfl xkX6 (Nat.le_of_ble_eq_true rfl) (by rw [hM]; exact tw279) (fun _ => by subst hv; rfl) kk
theorem gfX1_84 {ρ : Type} {ι : ρ → xO × xW} {M : xMd} {b : Nat × Nat} {pc : Nat} {lv : List (Nat × Value)} {st : List Value} {w : xW} {r : Option ρ} {v : Int32} (hd : decode M.2.1 pc = .ok (.getfield 84, 3)) (hM : M.1.cls = "BundleFence$Decoder") (hv : w.1 2 14 = v) (kk : xJ ι M lC b (pc + 3) lv (.int v :: st) w r) : xJ ι M lC b pc lv (.ref 2 :: st) w r :=
  xj_gf (v := .int v) (ci := 2) (j := 14) (C := RX6) (T := TX6) (N := 15) hd rfl rfl xkX6 (Nat.le_of_ble_eq_true rfl) (by rw [hM]; exact tw284) (fun _ => by subst hv; rfl) kk
theorem gfX1_87 {ρ : Type} {ι : ρ → xO × xW} {M : xMd} {b : Nat × Nat} {pc : Nat} {lv : List (Nat × Value)} {st : List Value} {w : xW} {r : Option ρ} {v : Int32} (hd : decode M.2.1 pc = .ok (.getfield 87, 3)) (hM : M.1.cls = "BundleFence$Decoder") (hv : w.1 2 1 = v) (kk : xJ ι M lC b (pc + 3) lv (.int v :: st) w r) : xJ ι M lC b pc lv (.ref 2 :: st) w r :=
  xj_gf (v := .int v) (ci := 2) (j := 1) (C := RX6) (T := TX6) (N := 15) hd rfl rfl xkX6 (Nat.le_of_ble_eq_true rfl) (by rw [hM]; exact tw230) (fun _ => by subst hv; rfl) kk
theorem gfX1_9 {ρ : Type} {ι : ρ → xO × xW} {M : xMd} {b : Nat × Nat} {pc : Nat} {lv : List (Nat × Value)} {st : List Value} {w : xW} {r : Option ρ} (hd : decode M.2.1 pc = .ok (.getfield 9, 3)) (hM : M.1.cls = "BundleFence$Decoder") (kk : xJ ι M lC b (pc + 3) lv (.ref 1 :: st) w r) : xJ ι M lC b pc lv (.ref 3 :: st) w r :=
  xj_gf (v := .ref 1) (ci := 3) (j := 0) (C := RX1) (T := TX1) (N := 8) hd rfl rfl xkX1 (Nat.le_of_ble_eq_true rfl) (by rw [hM]; exact tw323) (fun _ => rfl) kk
theorem gfX1_90 {ρ : Type} {ι : ρ → xO × xW} {M : xMd} {b : Nat × Nat} {pc : Nat} {lv : List (Nat × Value)} {st : List Value} {w : xW} {r : Option ρ} {v : Int32} (hd : decode M.2.1 pc = .ok (.getfield 90, 3)) (hM : M.1.cls = "BundleFence$Decoder") (hv : w.1 1 1 = v) (kk : xJ ι M lC b (pc + 3) lv (.int v :: st) w r) : xJ ι M lC b pc lv (.ref 1 :: st) w r :=
  xj_gf (v := .int v) (ci := 1) (j := 1) (C := RX4) (T := TX4) (N := 2) hd rfl rfl xkX4 (Nat.le_of_ble_eq_true rfl) (by rw [hM]; exact tw206) (fun _ => by subst hv; rfl) kk
theorem gfX1_93 {ρ : Type} {ι : ρ → xO × xW} {M : xMd} {b : Nat × Nat} {pc : Nat} {lv : List (Nat × Value)} {st : List Value} {w : xW} {r : Option ρ} (hd : decode M.2.1 pc = .ok (.getfield 93, 3)) (hM : M.1.cls = "BundleFence$Decoder") (kk : xJ ι M lC b (pc + 3) lv (.ref 10 :: st) w r) : xJ ι M lC b pc lv (.ref 1 :: st) w r :=
  xj_gf (v := .ref 10) (ci := 1) (j := 0) (C := RX4) (T := TX4) (N := 2) hd rfl rfl xkX4 (Nat.le_of_ble_eq_true rfl) (by rw [hM]; exact tw201) (fun _ => rfl) kk
theorem gfX1_97 {ρ : Type} {ι : ρ → xO × xW} {M : xMd} {b : Nat × Nat} {pc : Nat} {lv : List (Nat × Value)} {st : List Value} {w : xW} {r : Option ρ} {v : Int32} (hd : decode M.2.1 pc = .ok (.getfield 97, 3)) (hM : M.1.cls = "BundleFence$Decoder") (hv : w.1 2 8 = v) (kk : xJ ι M lC b (pc + 3) lv (.int v :: st) w r) : xJ ι M lC b pc lv (.ref 2 :: st) w r :=
  xj_gf (v := .int v) (ci := 2) (j := 8) (C := RX6) (T := TX6) (N := 15) hd rfl rfl xkX6 (Nat.le_of_ble_eq_true rfl) (by rw [hM]; exact tw258) (fun _ => by subst hv; rfl) kk
theorem gfX2_7 {ρ : Type} {ι : ρ → xO × xW} {M : xMd} {b : Nat × Nat} {pc : Nat} {lv : List (Nat × Value)} {st : List Value} {w : xW} {r : Option ρ} {v : Int32} (hd : decode M.2.1 pc = .ok (.getfield 7, 3)) (hM : M.1.cls = "BundleFence$Flags") (hv : w.1 9 0 = v) (kk : xJ ι M lC b (pc + 3) lv (.int v :: st) w r) : xJ ι M lC b pc lv (.ref 9 :: st) w r :=
  xj_gf (v := .int v) (ci := 9) (j := 0) (C := RX2) (T := TX2) (N := 1) hd rfl rfl xkX2 (Nat.le_of_ble_eq_true rfl) (by rw [hM]; exact tw506) (fun _ => by subst hv; rfl) kk
theorem gfX3_11 {ρ : Type} {ι : ρ → xO × xW} {M : xMd} {b : Nat × Nat} {pc : Nat} {lv : List (Nat × Value)} {st : List Value} {w : xW} {r : Option ρ} (hd : decode M.2.1 pc = .ok (.getfield 11, 3)) (hM : M.1.cls = "BundleFence$Host") (kk : xJ ι M lC b (pc + 3) lv (.ref 18 :: st) w r) : xJ ι M lC b pc lv (.ref 7 :: st) w r :=
  xj_gf (v := .ref 18) (ci := 7) (j := 1) (C := RX3) (T := TX3) (N := 8) hd rfl rfl xkX3 (Nat.le_of_ble_eq_true rfl) (by rw [hM]; exact tw466) (fun _ => rfl) kk
theorem gfX3_15 {ρ : Type} {ι : ρ → xO × xW} {M : xMd} {b : Nat × Nat} {pc : Nat} {lv : List (Nat × Value)} {st : List Value} {w : xW} {r : Option ρ} (hd : decode M.2.1 pc = .ok (.getfield 15, 3)) (hM : M.1.cls = "BundleFence$Host") (kk : xJ ι M lC b (pc + 3) lv (.ref 19 :: st) w r) : xJ ι M lC b pc lv (.ref 7 :: st) w r :=
  xj_gf (v := .ref 19) (ci := 7) (j := 2) (C := RX3) (T := TX3) (N := 8) hd rfl rfl xkX3 (Nat.le_of_ble_eq_true rfl) (by rw [hM]; exact tw467) (fun _ => rfl) kk
theorem gfX3_19 {ρ : Type} {ι : ρ → xO × xW} {M : xMd} {b : Nat × Nat} {pc : Nat} {lv : List (Nat × Value)} {st : List Value} {w : xW} {r : Option ρ} {v : Int32} (hd : decode M.2.1 pc = .ok (.getfield 19, 3)) (hM : M.1.cls = "BundleFence$Host") (hv : w.1 7 6 = v) (kk : xJ ι M lC b (pc + 3) lv (.int v :: st) w r) : xJ ι M lC b pc lv (.ref 7 :: st) w r :=
  xj_gf (v := .int v) (ci := 7) (j := 6) (C := RX3) (T := TX3) (N := 8) hd rfl rfl xkX3 (Nat.le_of_ble_eq_true rfl) (by rw [hM]; exact tw473) (fun _ => by subst hv; rfl) kk
theorem gfX3_23 {ρ : Type} {ι : ρ → xO × xW} {M : xMd} {b : Nat × Nat} {pc : Nat} {lv : List (Nat × Value)} {st : List Value} {w : xW} {r : Option ρ} (hd : decode M.2.1 pc = .ok (.getfield 23, 3)) (hM : M.1.cls = "BundleFence$Host") (kk : xJ ι M lC b (pc + 3) lv (.ref 6 :: st) w r) : xJ ι M lC b pc lv (.ref 7 :: st) w r :=
  xj_gf (v := .ref 6) (ci := 7) (j := 0) (C := RX3) (T := TX3) (N := 8) hd rfl rfl xkX3 (Nat.le_of_ble_eq_true rfl) (by rw [hM]; exact tw465) (fun _ => rfl) kk
theorem gfX3_27 {ρ : Type} {ι : ρ → xO × xW} {M : xMd} {b : Nat × Nat} {pc : Nat} {lv : List (Nat × Value)} {st : List Value} {w : xW} {r : Option ρ} {v : Int32} (hd : decode M.2.1 pc = .ok (.getfield 27, 3)) (hM : M.1.cls = "BundleFence$Host") (hv : w.1 7 4 = v) (kk : xJ ι M lC b (pc + 3) lv (.int v :: st) w r) : xJ ι M lC b pc lv (.ref 7 :: st) w r :=
  xj_gf (v := .int v) (ci := 7) (j := 4) (C := RX3) (T := TX3) (N := 8) hd rfl rfl xkX3 (Nat.le_of_ble_eq_true rfl) (by rw [hM]; exact tw469) (fun _ => by subst hv; rfl) kk
theorem gfX3_30 {ρ : Type} {ι : ρ → xO × xW} {M : xMd} {b : Nat × Nat} {pc : Nat} {lv : List (Nat × Value)} {st : List Value} {w : xW} {r : Option ρ} {v : Int32} (hd : decode M.2.1 pc = .ok (.getfield 30, 3)) (hM : M.1.cls = "BundleFence$Host") (hv : w.1 7 7 = v) (kk : xJ ι M lC b (pc + 3) lv (.int v :: st) w r) : xJ ι M lC b pc lv (.ref 7 :: st) w r :=
  xj_gf (v := .int v) (ci := 7) (j := 7) (C := RX3) (T := TX3) (N := 8) hd rfl rfl xkX3 (Nat.le_of_ble_eq_true rfl) (by rw [hM]; exact tw475) (fun _ => by subst hv; rfl) kk
theorem gfX3_33 {ρ : Type} {ι : ρ → xO × xW} {M : xMd} {b : Nat × Nat} {pc : Nat} {lv : List (Nat × Value)} {st : List Value} {w : xW} {r : Option ρ} {v : Int32} (hd : decode M.2.1 pc = .ok (.getfield 33, 3)) (hM : M.1.cls = "BundleFence$Host") (hv : w.1 7 5 = v) (kk : xJ ι M lC b (pc + 3) lv (.int v :: st) w r) : xJ ι M lC b pc lv (.ref 7 :: st) w r :=
  xj_gf (v := .int v) (ci := 7) (j := 5) (C := RX3) (T := TX3) (N := 8) hd rfl rfl xkX3 (Nat.le_of_ble_eq_true rfl) (by rw [hM]; exact tw471) (fun _ => by subst hv; rfl) kk
theorem gfX3_36 {ρ : Type} {ι : ρ → xO × xW} {M : xMd} {b : Nat × Nat} {pc : Nat} {lv : List (Nat × Value)} {st : List Value} {w : xW} {r : Option ρ} {v : Int32} (hd : decode M.2.1 pc = .ok (.getfield 36, 3)) (hM : M.1.cls = "BundleFence$Host") (hv : w.1 7 3 = v) (kk : xJ ι M lC b (pc + 3) lv (.int v :: st) w r) : xJ ι M lC b pc lv (.ref 7 :: st) w r :=
  xj_gf (v := .int v) (ci := 7) (j := 3) (C := RX3) (T := TX3) (N := 8) hd rfl rfl xkX3 (Nat.le_of_ble_eq_true rfl) (by rw [hM]; exact tw468) (fun _ => by subst hv; rfl) kk
theorem gfX4_13 {ρ : Type} {ι : ρ → xO × xW} {M : xMd} {b : Nat × Nat} {pc : Nat} {lv : List (Nat × Value)} {st : List Value} {w : xW} {r : Option ρ} {v : Int32} (hd : decode M.2.1 pc = .ok (.getfield 13, 3)) (hM : M.1.cls = "BundleFence$Image") (hv : w.1 1 1 = v) (kk : xJ ι M lC b (pc + 3) lv (.int v :: st) w r) : xJ ι M lC b pc lv (.ref 1 :: st) w r :=
  xj_gf (v := .int v) (ci := 1) (j := 1) (C := RX4) (T := TX4) (N := 2) hd rfl rfl xkX4 (Nat.le_of_ble_eq_true rfl) (by rw [hM]; exact tw204) (fun _ => by subst hv; rfl) kk
theorem gfX4_9 {ρ : Type} {ι : ρ → xO × xW} {M : xMd} {b : Nat × Nat} {pc : Nat} {lv : List (Nat × Value)} {st : List Value} {w : xW} {r : Option ρ} (hd : decode M.2.1 pc = .ok (.getfield 9, 3)) (hM : M.1.cls = "BundleFence$Image") (kk : xJ ι M lC b (pc + 3) lv (.ref 10 :: st) w r) : xJ ι M lC b pc lv (.ref 1 :: st) w r :=
  xj_gf (v := .ref 10) (ci := 1) (j := 0) (C := RX4) (T := TX4) (N := 2) hd rfl rfl xkX4 (Nat.le_of_ble_eq_true rfl) (by rw [hM]; exact tw200) (fun _ => rfl) kk
theorem gfX5_123 {ρ : Type} {ι : ρ → xO × xW} {M : xMd} {b : Nat × Nat} {pc : Nat} {lv : List (Nat × Value)} {st : List Value} {w : xW} {r : Option ρ} {v : Int32} (hd : decode M.2.1 pc = .ok (.getfield 123, 3)) (hM : M.1.cls = "BundleFence$Inspector") (hv : w.1 2 1 = v) (kk : xJ ι M lC b (pc + 3) lv (.int v :: st) w r) : xJ ι M lC b pc lv (.ref 2 :: st) w r :=
  xj_gf (v := .int v) (ci := 2) (j := 1) (C := RX6) (T := TX6) (N := 15) hd rfl rfl xkX6 (Nat.le_of_ble_eq_true rfl) (by rw [hM]; exact tw231) (fun _ => by subst hv; rfl) kk
theorem gfX5_126 {ρ : Type} {ι : ρ → xO × xW} {M : xMd} {b : Nat × Nat} {pc : Nat} {lv : List (Nat × Value)} {st : List Value} {w : xW} {r : Option ρ} {v : Int32} (hd : decode M.2.1 pc = .ok (.getfield 126, 3)) (hM : M.1.cls = "BundleFence$Inspector") (hv : w.1 2 0 = v) (kk : xJ ι M lC b (pc + 3) lv (.ref (2000 + v.toNatClampNeg) :: st) w r) : xJ ι M lC b pc lv (.ref 2 :: st) w r :=
  xj_gf (v := .ref (2000 + v.toNatClampNeg)) (ci := 2) (j := 0) (C := RX6) (T := TX6) (N := 15) hd rfl rfl xkX6 (Nat.le_of_ble_eq_true rfl) (by rw [hM]; exact tw225) (fun _ => by subst hv; rfl) kk
theorem gfX5_13 {ρ : Type} {ι : ρ → xO × xW} {M : xMd} {b : Nat × Nat} {pc : Nat} {lv : List (Nat × Value)} {st : List Value} {w : xW} {r : Option ρ} (hd : decode M.2.1 pc = .ok (.getfield 13, 3)) (hM : M.1.cls = "BundleFence$Inspector") (kk : xJ ι M lC b (pc + 3) lv (.ref 12 :: st) w r) : xJ ι M lC b pc lv (.ref 4 :: st) w r :=
  xj_gf (v := .ref 12) (ci := 4) (j := 3) (C := RX5) (T := TX5) (N := 12) hd rfl rfl xkX5 (Nat.le_of_ble_eq_true rfl) (by rw [hM]; exact tw357) (fun _ => rfl) kk
theorem gfX5_135 {ρ : Type} {ι : ρ → xO × xW} {M : xMd} {b : Nat × Nat} {pc : Nat} {lv : List (Nat × Value)} {st : List Value} {w : xW} {r : Option ρ} {v : Int32} (hd : decode M.2.1 pc = .ok (.getfield 135, 3)) (hM : M.1.cls = "BundleFence$Inspector") (hv : w.1 1 1 = v) (kk : xJ ι M lC b (pc + 3) lv (.int v :: st) w r) : xJ ι M lC b pc lv (.ref 1 :: st) w r :=
  xj_gf (v := .int v) (ci := 1) (j := 1) (C := RX4) (T := TX4) (N := 2) hd rfl rfl xkX4 (Nat.le_of_ble_eq_true rfl) (by rw [hM]; exact tw208) (fun _ => by subst hv; rfl) kk
theorem gfX5_17 {ρ : Type} {ι : ρ → xO × xW} {M : xMd} {b : Nat × Nat} {pc : Nat} {lv : List (Nat × Value)} {st : List Value} {w : xW} {r : Option ρ} (hd : decode M.2.1 pc = .ok (.getfield 17, 3)) (hM : M.1.cls = "BundleFence$Inspector") (kk : xJ ι M lC b (pc + 3) lv (.ref 13 :: st) w r) : xJ ι M lC b pc lv (.ref 4 :: st) w r :=
  xj_gf (v := .ref 13) (ci := 4) (j := 4) (C := RX5) (T := TX5) (N := 12) hd rfl rfl xkX5 (Nat.le_of_ble_eq_true rfl) (by rw [hM]; exact tw358) (fun _ => rfl) kk
theorem gfX5_20 {ρ : Type} {ι : ρ → xO × xW} {M : xMd} {b : Nat × Nat} {pc : Nat} {lv : List (Nat × Value)} {st : List Value} {w : xW} {r : Option ρ} (hd : decode M.2.1 pc = .ok (.getfield 20, 3)) (hM : M.1.cls = "BundleFence$Inspector") (kk : xJ ι M lC b (pc + 3) lv (.ref 14 :: st) w r) : xJ ι M lC b pc lv (.ref 4 :: st) w r :=
  xj_gf (v := .ref 14) (ci := 4) (j := 5) (C := RX5) (T := TX5) (N := 12) hd rfl rfl xkX5 (Nat.le_of_ble_eq_true rfl) (by rw [hM]; exact tw359) (fun _ => rfl) kk
theorem gfX5_23 {ρ : Type} {ι : ρ → xO × xW} {M : xMd} {b : Nat × Nat} {pc : Nat} {lv : List (Nat × Value)} {st : List Value} {w : xW} {r : Option ρ} (hd : decode M.2.1 pc = .ok (.getfield 23, 3)) (hM : M.1.cls = "BundleFence$Inspector") (kk : xJ ι M lC b (pc + 3) lv (.ref 15 :: st) w r) : xJ ι M lC b pc lv (.ref 4 :: st) w r :=
  xj_gf (v := .ref 15) (ci := 4) (j := 6) (C := RX5) (T := TX5) (N := 12) hd rfl rfl xkX5 (Nat.le_of_ble_eq_true rfl) (by rw [hM]; exact tw360) (fun _ => rfl) kk
theorem gfX5_26 {ρ : Type} {ι : ρ → xO × xW} {M : xMd} {b : Nat × Nat} {pc : Nat} {lv : List (Nat × Value)} {st : List Value} {w : xW} {r : Option ρ} (hd : decode M.2.1 pc = .ok (.getfield 26, 3)) (hM : M.1.cls = "BundleFence$Inspector") (kk : xJ ι M lC b (pc + 3) lv (.ref 16 :: st) w r) : xJ ι M lC b pc lv (.ref 4 :: st) w r :=
  xj_gf (v := .ref 16) (ci := 4) (j := 7) (C := RX5) (T := TX5) (N := 12) hd rfl rfl xkX5 (Nat.le_of_ble_eq_true rfl) (by rw [hM]; exact tw361) (fun _ => rfl) kk
theorem gfX5_33 {ρ : Type} {ι : ρ → xO × xW} {M : xMd} {b : Nat × Nat} {pc : Nat} {lv : List (Nat × Value)} {st : List Value} {w : xW} {r : Option ρ} (hd : decode M.2.1 pc = .ok (.getfield 33, 3)) (hM : M.1.cls = "BundleFence$Inspector") (kk : xJ ι M lC b (pc + 3) lv (.ref 1 :: st) w r) : xJ ι M lC b pc lv (.ref 4 :: st) w r :=
  xj_gf (v := .ref 1) (ci := 4) (j := 0) (C := RX5) (T := TX5) (N := 12) hd rfl rfl xkX5 (Nat.le_of_ble_eq_true rfl) (by rw [hM]; exact tw354) (fun _ => rfl) kk
theorem gfX5_37 {ρ : Type} {ι : ρ → xO × xW} {M : xMd} {b : Nat × Nat} {pc : Nat} {lv : List (Nat × Value)} {st : List Value} {w : xW} {r : Option ρ} (hd : decode M.2.1 pc = .ok (.getfield 37, 3)) (hM : M.1.cls = "BundleFence$Inspector") (kk : xJ ι M lC b (pc + 3) lv (.ref 3 :: st) w r) : xJ ι M lC b pc lv (.ref 4 :: st) w r :=
  xj_gf (v := .ref 3) (ci := 4) (j := 1) (C := RX5) (T := TX5) (N := 12) hd rfl rfl xkX5 (Nat.le_of_ble_eq_true rfl) (by rw [hM]; exact tw355) (fun _ => rfl) kk
theorem gfX5_41 {ρ : Type} {ι : ρ → xO × xW} {M : xMd} {b : Nat × Nat} {pc : Nat} {lv : List (Nat × Value)} {st : List Value} {w : xW} {r : Option ρ} (hd : decode M.2.1 pc = .ok (.getfield 41, 3)) (hM : M.1.cls = "BundleFence$Inspector") (kk : xJ ι M lC b (pc + 3) lv (.ref 2 :: st) w r) : xJ ι M lC b pc lv (.ref 4 :: st) w r :=
  xj_gf (v := .ref 2) (ci := 4) (j := 2) (C := RX5) (T := TX5) (N := 12) hd rfl rfl xkX5 (Nat.le_of_ble_eq_true rfl) (by rw [hM]; exact tw356) (fun _ => rfl) kk
theorem gfX5_45 {ρ : Type} {ι : ρ → xO × xW} {M : xMd} {b : Nat × Nat} {pc : Nat} {lv : List (Nat × Value)} {st : List Value} {w : xW} {r : Option ρ} {v : Int32} (hd : decode M.2.1 pc = .ok (.getfield 45, 3)) (hM : M.1.cls = "BundleFence$Inspector") (hv : w.1 4 9 = v) (kk : xJ ι M lC b (pc + 3) lv (.int v :: st) w r) : xJ ι M lC b pc lv (.ref 4 :: st) w r :=
  xj_gf (v := .int v) (ci := 4) (j := 9) (C := RX5) (T := TX5) (N := 12) hd rfl rfl xkX5 (Nat.le_of_ble_eq_true rfl) (by rw [hM]; exact tw363) (fun _ => by subst hv; rfl) kk
theorem gfX5_49 {ρ : Type} {ι : ρ → xO × xW} {M : xMd} {b : Nat × Nat} {pc : Nat} {lv : List (Nat × Value)} {st : List Value} {w : xW} {r : Option ρ} {v : Int32} (hd : decode M.2.1 pc = .ok (.getfield 49, 3)) (hM : M.1.cls = "BundleFence$Inspector") (hv : w.1 4 10 = v) (kk : xJ ι M lC b (pc + 3) lv (.int v :: st) w r) : xJ ι M lC b pc lv (.ref 4 :: st) w r :=
  xj_gf (v := .int v) (ci := 4) (j := 10) (C := RX5) (T := TX5) (N := 12) hd rfl rfl xkX5 (Nat.le_of_ble_eq_true rfl) (by rw [hM]; exact tw365) (fun _ => by subst hv; rfl) kk
theorem gfX5_55 {ρ : Type} {ι : ρ → xO × xW} {M : xMd} {b : Nat × Nat} {pc : Nat} {lv : List (Nat × Value)} {st : List Value} {w : xW} {r : Option ρ} {v : Int32} (hd : decode M.2.1 pc = .ok (.getfield 55, 3)) (hM : M.1.cls = "BundleFence$Inspector") (hv : w.1 4 8 = v) (kk : xJ ι M lC b (pc + 3) lv (.int v :: st) w r) : xJ ι M lC b pc lv (.ref 4 :: st) w r :=
  xj_gf (v := .int v) (ci := 4) (j := 8) (C := RX5) (T := TX5) (N := 12) hd rfl rfl xkX5 (Nat.le_of_ble_eq_true rfl) (by rw [hM]; exact tw362) (fun _ => by subst hv; rfl) kk
theorem gfX5_68 {ρ : Type} {ι : ρ → xO × xW} {M : xMd} {b : Nat × Nat} {pc : Nat} {lv : List (Nat × Value)} {st : List Value} {w : xW} {r : Option ρ} {v : Int32} (hd : decode M.2.1 pc = .ok (.getfield 68, 3)) (hM : M.1.cls = "BundleFence$Inspector") (hv : w.1 2 6 = v) (kk : xJ ι M lC b (pc + 3) lv (.int v :: st) w r) : xJ ι M lC b pc lv (.ref 2 :: st) w r :=
  xj_gf (v := .int v) (ci := 2) (j := 6) (C := RX6) (T := TX6) (N := 15) hd rfl rfl xkX6 (Nat.le_of_ble_eq_true rfl) (by rw [hM]; exact tw248) (fun _ => by subst hv; rfl) kk
theorem gfX5_73 {ρ : Type} {ι : ρ → xO × xW} {M : xMd} {b : Nat × Nat} {pc : Nat} {lv : List (Nat × Value)} {st : List Value} {w : xW} {r : Option ρ} {v : Int32} (hd : decode M.2.1 pc = .ok (.getfield 73, 3)) (hM : M.1.cls = "BundleFence$Inspector") (hv : w.1 2 9 = v) (kk : xJ ι M lC b (pc + 3) lv (.int v :: st) w r) : xJ ι M lC b pc lv (.ref 2 :: st) w r :=
  xj_gf (v := .int v) (ci := 2) (j := 9) (C := RX6) (T := TX6) (N := 15) hd rfl rfl xkX6 (Nat.le_of_ble_eq_true rfl) (by rw [hM]; exact tw262) (fun _ => by subst hv; rfl) kk
theorem gfX5_76 {ρ : Type} {ι : ρ → xO × xW} {M : xMd} {b : Nat × Nat} {pc : Nat} {lv : List (Nat × Value)} {st : List Value} {w : xW} {r : Option ρ} {v : Int32} (hd : decode M.2.1 pc = .ok (.getfield 76, 3)) (hM : M.1.cls = "BundleFence$Inspector") (hv : w.1 2 7 = v) (kk : xJ ι M lC b (pc + 3) lv (.int v :: st) w r) : xJ ι M lC b pc lv (.ref 2 :: st) w r :=
  xj_gf (v := .int v) (ci := 2) (j := 7) (C := RX6) (T := TX6) (N := 15) hd rfl rfl xkX6 (Nat.le_of_ble_eq_true rfl) (by rw [hM]; exact tw253) (fun _ => by subst hv; rfl) kk
theorem gfX5_79 {ρ : Type} {ι : ρ → xO × xW} {M : xMd} {b : Nat × Nat} {pc : Nat} {lv : List (Nat × Value)} {st : List Value} {w : xW} {r : Option ρ} {v : Int32} (hd : decode M.2.1 pc = .ok (.getfield 79, 3)) (hM : M.1.cls = "BundleFence$Inspector") (hv : w.1 2 13 = v) (kk : xJ ι M lC b (pc + 3) lv (.int v :: st) w r) : xJ ι M lC b pc lv (.ref 2 :: st) w r :=
  xj_gf (v := .int v) (ci := 2) (j := 13) (C := RX6) (T := TX6) (N := 15) hd rfl rfl xkX6 (Nat.le_of_ble_eq_true rfl) (by rw [hM]; exact tw280) (fun _ => by subst hv; rfl) kk
theorem gfX6_15 {ρ : Type} {ι : ρ → xO × xW} {M : xMd} {b : Nat × Nat} {pc : Nat} {lv : List (Nat × Value)} {st : List Value} {w : xW} {r : Option ρ} {v : Int32} (hd : decode M.2.1 pc = .ok (.getfield 15, 3)) (hM : M.1.cls = "BundleFence$Instruction") (hv : w.1 2 0 = v) (kk : xJ ι M lC b (pc + 3) lv (.ref (2000 + v.toNatClampNeg) :: st) w r) : xJ ι M lC b pc lv (.ref 2 :: st) w r :=
  xj_gf (v := .ref (2000 + v.toNatClampNeg)) (ci := 2) (j := 0) (C := RX6) (T := TX6) (N := 15) hd rfl rfl xkX6 (Nat.le_of_ble_eq_true rfl) (by rw [hM]; exact tw223) (fun _ => by subst hv; rfl) kk
theorem gfX6_20 {ρ : Type} {ι : ρ → xO × xW} {M : xMd} {b : Nat × Nat} {pc : Nat} {lv : List (Nat × Value)} {st : List Value} {w : xW} {r : Option ρ} {v : Int32} (hd : decode M.2.1 pc = .ok (.getfield 20, 3)) (hM : M.1.cls = "BundleFence$Instruction") (hv : w.1 2 1 = v) (kk : xJ ι M lC b (pc + 3) lv (.int v :: st) w r) : xJ ι M lC b pc lv (.ref 2 :: st) w r :=
  xj_gf (v := .int v) (ci := 2) (j := 1) (C := RX6) (T := TX6) (N := 15) hd rfl rfl xkX6 (Nat.le_of_ble_eq_true rfl) (by rw [hM]; exact tw228) (fun _ => by subst hv; rfl) kk
theorem gfX6_24 {ρ : Type} {ι : ρ → xO × xW} {M : xMd} {b : Nat × Nat} {pc : Nat} {lv : List (Nat × Value)} {st : List Value} {w : xW} {r : Option ρ} {v : Int32} (hd : decode M.2.1 pc = .ok (.getfield 24, 3)) (hM : M.1.cls = "BundleFence$Instruction") (hv : w.1 2 2 = v) (kk : xJ ι M lC b (pc + 3) lv (.int v :: st) w r) : xJ ι M lC b pc lv (.ref 2 :: st) w r :=
  xj_gf (v := .int v) (ci := 2) (j := 2) (C := RX6) (T := TX6) (N := 15) hd rfl rfl xkX6 (Nat.le_of_ble_eq_true rfl) (by rw [hM]; exact tw233) (fun _ => by subst hv; rfl) kk
theorem gfX6_30 {ρ : Type} {ι : ρ → xO × xW} {M : xMd} {b : Nat × Nat} {pc : Nat} {lv : List (Nat × Value)} {st : List Value} {w : xW} {r : Option ρ} {v : Int32} (hd : decode M.2.1 pc = .ok (.getfield 30, 3)) (hM : M.1.cls = "BundleFence$Instruction") (hv : w.1 2 4 = v) (kk : xJ ι M lC b (pc + 3) lv (.int v :: st) w r) : xJ ι M lC b pc lv (.ref 2 :: st) w r :=
  xj_gf (v := .int v) (ci := 2) (j := 4) (C := RX6) (T := TX6) (N := 15) hd rfl rfl xkX6 (Nat.le_of_ble_eq_true rfl) (by rw [hM]; exact tw239) (fun _ => by subst hv; rfl) kk
theorem gfX6_33 {ρ : Type} {ι : ρ → xO × xW} {M : xMd} {b : Nat × Nat} {pc : Nat} {lv : List (Nat × Value)} {st : List Value} {w : xW} {r : Option ρ} {v : Int32} (hd : decode M.2.1 pc = .ok (.getfield 33, 3)) (hM : M.1.cls = "BundleFence$Instruction") (hv : w.1 2 5 = v) (kk : xJ ι M lC b (pc + 3) lv (.int v :: st) w r) : xJ ι M lC b pc lv (.ref 2 :: st) w r :=
  xj_gf (v := .int v) (ci := 2) (j := 5) (C := RX6) (T := TX6) (N := 15) hd rfl rfl xkX6 (Nat.le_of_ble_eq_true rfl) (by rw [hM]; exact tw243) (fun _ => by subst hv; rfl) kk
theorem gfX6_36 {ρ : Type} {ι : ρ → xO × xW} {M : xMd} {b : Nat × Nat} {pc : Nat} {lv : List (Nat × Value)} {st : List Value} {w : xW} {r : Option ρ} {v : Int32} (hd : decode M.2.1 pc = .ok (.getfield 36, 3)) (hM : M.1.cls = "BundleFence$Instruction") (hv : w.1 2 7 = v) (kk : xJ ι M lC b (pc + 3) lv (.int v :: st) w r) : xJ ι M lC b pc lv (.ref 2 :: st) w r :=
  xj_gf (v := .int v) (ci := 2) (j := 7) (C := RX6) (T := TX6) (N := 15) hd rfl rfl xkX6 (Nat.le_of_ble_eq_true rfl) (by rw [hM]; exact tw252) (fun _ => by subst hv; rfl) kk
theorem gfX6_39 {ρ : Type} {ι : ρ → xO × xW} {M : xMd} {b : Nat × Nat} {pc : Nat} {lv : List (Nat × Value)} {st : List Value} {w : xW} {r : Option ρ} {v : Int32} (hd : decode M.2.1 pc = .ok (.getfield 39, 3)) (hM : M.1.cls = "BundleFence$Instruction") (hv : w.1 2 8 = v) (kk : xJ ι M lC b (pc + 3) lv (.int v :: st) w r) : xJ ι M lC b pc lv (.ref 2 :: st) w r :=
  xj_gf (v := .int v) (ci := 2) (j := 8) (C := RX6) (T := TX6) (N := 15) hd rfl rfl xkX6 (Nat.le_of_ble_eq_true rfl) (by rw [hM]; exact tw257) (fun _ => by subst hv; rfl) kk
theorem gfX6_42 {ρ : Type} {ι : ρ → xO × xW} {M : xMd} {b : Nat × Nat} {pc : Nat} {lv : List (Nat × Value)} {st : List Value} {w : xW} {r : Option ρ} {v : Int32} (hd : decode M.2.1 pc = .ok (.getfield 42, 3)) (hM : M.1.cls = "BundleFence$Instruction") (hv : w.1 2 13 = v) (kk : xJ ι M lC b (pc + 3) lv (.int v :: st) w r) : xJ ι M lC b pc lv (.ref 2 :: st) w r :=
  xj_gf (v := .int v) (ci := 2) (j := 13) (C := RX6) (T := TX6) (N := 15) hd rfl rfl xkX6 (Nat.le_of_ble_eq_true rfl) (by rw [hM]; exact tw278) (fun _ => by subst hv; rfl) kk
theorem gfX6_48 {ρ : Type} {ι : ρ → xO × xW} {M : xMd} {b : Nat × Nat} {pc : Nat} {lv : List (Nat × Value)} {st : List Value} {w : xW} {r : Option ρ} {v : Int32} (hd : decode M.2.1 pc = .ok (.getfield 48, 3)) (hM : M.1.cls = "BundleFence$Instruction") (hv : w.1 2 6 = v) (kk : xJ ι M lC b (pc + 3) lv (.int v :: st) w r) : xJ ι M lC b pc lv (.ref 2 :: st) w r :=
  xj_gf (v := .int v) (ci := 2) (j := 6) (C := RX6) (T := TX6) (N := 15) hd rfl rfl xkX6 (Nat.le_of_ble_eq_true rfl) (by rw [hM]; exact tw247) (fun _ => by subst hv; rfl) kk
theorem gfX6_52 {ρ : Type} {ι : ρ → xO × xW} {M : xMd} {b : Nat × Nat} {pc : Nat} {lv : List (Nat × Value)} {st : List Value} {w : xW} {r : Option ρ} {v : Int32} (hd : decode M.2.1 pc = .ok (.getfield 52, 3)) (hM : M.1.cls = "BundleFence$Instruction") (hv : w.1 2 9 = v) (kk : xJ ι M lC b (pc + 3) lv (.int v :: st) w r) : xJ ι M lC b pc lv (.ref 2 :: st) w r :=
  xj_gf (v := .int v) (ci := 2) (j := 9) (C := RX6) (T := TX6) (N := 15) hd rfl rfl xkX6 (Nat.le_of_ble_eq_true rfl) (by rw [hM]; exact tw261) (fun _ => by subst hv; rfl) kk
theorem gfX6_55 {ρ : Type} {ι : ρ → xO × xW} {M : xMd} {b : Nat × Nat} {pc : Nat} {lv : List (Nat × Value)} {st : List Value} {w : xW} {r : Option ρ} {v : Int32} (hd : decode M.2.1 pc = .ok (.getfield 55, 3)) (hM : M.1.cls = "BundleFence$Instruction") (hv : w.1 2 10 = v) (kk : xJ ι M lC b (pc + 3) lv (.int v :: st) w r) : xJ ι M lC b pc lv (.ref 2 :: st) w r :=
  xj_gf (v := .int v) (ci := 2) (j := 10) (C := RX6) (T := TX6) (N := 15) hd rfl rfl xkX6 (Nat.le_of_ble_eq_true rfl) (by rw [hM]; exact tw266) (fun _ => by subst hv; rfl) kk
theorem gfX6_61 {ρ : Type} {ι : ρ → xO × xW} {M : xMd} {b : Nat × Nat} {pc : Nat} {lv : List (Nat × Value)} {st : List Value} {w : xW} {r : Option ρ} {v : Int32} (hd : decode M.2.1 pc = .ok (.getfield 61, 3)) (hM : M.1.cls = "BundleFence$Instruction") (hv : w.1 2 12 = v) (kk : xJ ι M lC b (pc + 3) lv (.int v :: st) w r) : xJ ι M lC b pc lv (.ref 2 :: st) w r :=
  xj_gf (v := .int v) (ci := 2) (j := 12) (C := RX6) (T := TX6) (N := 15) hd rfl rfl xkX6 (Nat.le_of_ble_eq_true rfl) (by rw [hM]; exact tw274) (fun _ => by subst hv; rfl) kk
theorem gfX7_12 {ρ : Type} {ι : ρ → xO × xW} {M : xMd} {b : Nat × Nat} {pc : Nat} {lv : List (Nat × Value)} {st : List Value} {w : xW} {r : Option ρ} (hd : decode M.2.1 pc = .ok (.getfield 12, 3)) (hM : M.1.cls = "BundleFence$Machine") (kk : xJ ι M lC b (pc + 3) lv (.ref 9 :: st) w r) : xJ ι M lC b pc lv (.ref 8 :: st) w r :=
  xj_gf (v := .ref 9) (ci := 8) (j := 5) (C := RX7) (T := TX7) (N := 16) hd rfl rfl xkX7 (Nat.le_of_ble_eq_true rfl) (by rw [hM]; exact tw522) (fun _ => rfl) kk
theorem gfX7_128 {ρ : Type} {ι : ρ → xO × xW} {M : xMd} {b : Nat × Nat} {pc : Nat} {lv : List (Nat × Value)} {st : List Value} {w : xW} {r : Option ρ} {v : Int32} (hd : decode M.2.1 pc = .ok (.getfield 128, 3)) (hM : M.1.cls = "BundleFence$Machine") (hv : w.1 8 9 = v) (kk : xJ ι M lC b (pc + 3) lv (.int v :: st) w r) : xJ ι M lC b pc lv (.ref 8 :: st) w r :=
  xj_gf (v := .int v) (ci := 8) (j := 9) (C := RX7) (T := TX7) (N := 16) hd rfl rfl xkX7 (Nat.le_of_ble_eq_true rfl) (by rw [hM]; exact tw529) (fun _ => by subst hv; rfl) kk
theorem gfX7_131 {ρ : Type} {ι : ρ → xO × xW} {M : xMd} {b : Nat × Nat} {pc : Nat} {lv : List (Nat × Value)} {st : List Value} {w : xW} {r : Option ρ} {v : Int32} (hd : decode M.2.1 pc = .ok (.getfield 131, 3)) (hM : M.1.cls = "BundleFence$Machine") (hv : w.1 2 14 = v) (kk : xJ ι M lC b (pc + 3) lv (.int v :: st) w r) : xJ ι M lC b pc lv (.ref 2 :: st) w r :=
  xj_gf (v := .int v) (ci := 2) (j := 14) (C := RX6) (T := TX6) (N := 15) hd rfl rfl xkX6 (Nat.le_of_ble_eq_true rfl) (by rw [hM]; exact tw285) (fun _ => by subst hv; rfl) kk
theorem gfX7_136 {ρ : Type} {ι : ρ → xO × xW} {M : xMd} {b : Nat × Nat} {pc : Nat} {lv : List (Nat × Value)} {st : List Value} {w : xW} {r : Option ρ} {v : Int32} (hd : decode M.2.1 pc = .ok (.getfield 136, 3)) (hM : M.1.cls = "BundleFence$Machine") (hv : w.1 8 15 = v) (kk : xJ ι M lC b (pc + 3) lv (.int v :: st) w r) : xJ ι M lC b pc lv (.ref 8 :: st) w r :=
  xj_gf (v := .int v) (ci := 8) (j := 15) (C := RX7) (T := TX7) (N := 16) hd rfl rfl xkX7 (Nat.le_of_ble_eq_true rfl) (by rw [hM]; exact tw539) (fun _ => by subst hv; rfl) kk
theorem gfX7_143 {ρ : Type} {ι : ρ → xO × xW} {M : xMd} {b : Nat × Nat} {pc : Nat} {lv : List (Nat × Value)} {st : List Value} {w : xW} {r : Option ρ} {v : Int32} (hd : decode M.2.1 pc = .ok (.getfield 143, 3)) (hM : M.1.cls = "BundleFence$Machine") (hv : w.1 8 14 = v) (kk : xJ ι M lC b (pc + 3) lv (.int v :: st) w r) : xJ ι M lC b pc lv (.ref 8 :: st) w r :=
  xj_gf (v := .int v) (ci := 8) (j := 14) (C := RX7) (T := TX7) (N := 16) hd rfl rfl xkX7 (Nat.le_of_ble_eq_true rfl) (by rw [hM]; exact tw538) (fun _ => by subst hv; rfl) kk
theorem gfX7_146 {ρ : Type} {ι : ρ → xO × xW} {M : xMd} {b : Nat × Nat} {pc : Nat} {lv : List (Nat × Value)} {st : List Value} {w : xW} {r : Option ρ} {v : Int32} (hd : decode M.2.1 pc = .ok (.getfield 146, 3)) (hM : M.1.cls = "BundleFence$Machine") (hv : w.1 2 12 = v) (kk : xJ ι M lC b (pc + 3) lv (.int v :: st) w r) : xJ ι M lC b pc lv (.ref 2 :: st) w r :=
  xj_gf (v := .int v) (ci := 2) (j := 12) (C := RX6) (T := TX6) (N := 15) hd rfl rfl xkX6 (Nat.le_of_ble_eq_true rfl) (by rw [hM]; exact tw276) (fun _ => by subst hv; rfl) kk
theorem gfX7_149 {ρ : Type} {ι : ρ → xO × xW} {M : xMd} {b : Nat × Nat} {pc : Nat} {lv : List (Nat × Value)} {st : List Value} {w : xW} {r : Option ρ} {v : Int32} (hd : decode M.2.1 pc = .ok (.getfield 149, 3)) (hM : M.1.cls = "BundleFence$Machine") (hv : w.1 2 9 = v) (kk : xJ ι M lC b (pc + 3) lv (.int v :: st) w r) : xJ ι M lC b pc lv (.ref 2 :: st) w r :=
  xj_gf (v := .int v) (ci := 2) (j := 9) (C := RX6) (T := TX6) (N := 15) hd rfl rfl xkX6 (Nat.le_of_ble_eq_true rfl) (by rw [hM]; exact tw264) (fun _ => by subst hv; rfl) kk
theorem gfX7_152 {ρ : Type} {ι : ρ → xO × xW} {M : xMd} {b : Nat × Nat} {pc : Nat} {lv : List (Nat × Value)} {st : List Value} {w : xW} {r : Option ρ} {v : Int32} (hd : decode M.2.1 pc = .ok (.getfield 152, 3)) (hM : M.1.cls = "BundleFence$Machine") (hv : w.1 2 10 = v) (kk : xJ ι M lC b (pc + 3) lv (.int v :: st) w r) : xJ ι M lC b pc lv (.ref 2 :: st) w r :=
  xj_gf (v := .int v) (ci := 2) (j := 10) (C := RX6) (T := TX6) (N := 15) hd rfl rfl xkX6 (Nat.le_of_ble_eq_true rfl) (by rw [hM]; exact tw268) (fun _ => by subst hv; rfl) kk
theorem gfX7_155 {ρ : Type} {ι : ρ → xO × xW} {M : xMd} {b : Nat × Nat} {pc : Nat} {lv : List (Nat × Value)} {st : List Value} {w : xW} {r : Option ρ} {v : Int32} (hd : decode M.2.1 pc = .ok (.getfield 155, 3)) (hM : M.1.cls = "BundleFence$Machine") (hv : w.1 2 11 = v) (kk : xJ ι M lC b (pc + 3) lv (.int v :: st) w r) : xJ ι M lC b pc lv (.ref 2 :: st) w r :=
  xj_gf (v := .int v) (ci := 2) (j := 11) (C := RX6) (T := TX6) (N := 15) hd rfl rfl xkX6 (Nat.le_of_ble_eq_true rfl) (by rw [hM]; exact tw272) (fun _ => by subst hv; rfl) kk
theorem gfX7_158 {ρ : Type} {ι : ρ → xO × xW} {M : xMd} {b : Nat × Nat} {pc : Nat} {lv : List (Nat × Value)} {st : List Value} {w : xW} {r : Option ρ} {v : Int32} (hd : decode M.2.1 pc = .ok (.getfield 158, 3)) (hM : M.1.cls = "BundleFence$Machine") (hv : w.1 2 0 = v) (kk : xJ ι M lC b (pc + 3) lv (.ref (2000 + v.toNatClampNeg) :: st) w r) : xJ ι M lC b pc lv (.ref 2 :: st) w r :=
  xj_gf (v := .ref (2000 + v.toNatClampNeg)) (ci := 2) (j := 0) (C := RX6) (T := TX6) (N := 15) hd rfl rfl xkX6 (Nat.le_of_ble_eq_true rfl) (by rw [hM]; exact tw227) (fun _ => by subst hv; rfl) kk
theorem gfX7_173 {ρ : Type} {ι : ρ → xO × xW} {M : xMd} {b : Nat × Nat} {pc : Nat} {lv : List (Nat × Value)} {st : List Value} {w : xW} {r : Option ρ} {v : Int32} (hd : decode M.2.1 pc = .ok (.getfield 173, 3)) (hM : M.1.cls = "BundleFence$Machine") (hv : w.1 2 4 = v) (kk : xJ ι M lC b (pc + 3) lv (.int v :: st) w r) : xJ ι M lC b pc lv (.ref 2 :: st) w r :=
  xj_gf (v := .int v) (ci := 2) (j := 4) (C := RX6) (T := TX6) (N := 15) hd rfl rfl xkX6 (Nat.le_of_ble_eq_true rfl) (by rw [hM]; exact tw242) (fun _ => by subst hv; rfl) kk
theorem gfX7_18 {ρ : Type} {ι : ρ → xO × xW} {M : xMd} {b : Nat × Nat} {pc : Nat} {lv : List (Nat × Value)} {st : List Value} {w : xW} {r : Option ρ} (hd : decode M.2.1 pc = .ok (.getfield 18, 3)) (hM : M.1.cls = "BundleFence$Machine") (kk : xJ ι M lC b (pc + 3) lv (.ref 20 :: st) w r) : xJ ι M lC b pc lv (.ref 8 :: st) w r :=
  xj_gf (v := .ref 20) (ci := 8) (j := 6) (C := RX7) (T := TX7) (N := 16) hd rfl rfl xkX7 (Nat.le_of_ble_eq_true rfl) (by rw [hM]; exact tw524) (fun _ => rfl) kk
theorem gfX7_211 {ρ : Type} {ι : ρ → xO × xW} {M : xMd} {b : Nat × Nat} {pc : Nat} {lv : List (Nat × Value)} {st : List Value} {w : xW} {r : Option ρ} {v : Int32} (hd : decode M.2.1 pc = .ok (.getfield 211, 3)) (hM : M.1.cls = "BundleFence$Machine") (hv : w.1 2 6 = v) (kk : xJ ι M lC b (pc + 3) lv (.int v :: st) w r) : xJ ι M lC b pc lv (.ref 2 :: st) w r :=
  xj_gf (v := .int v) (ci := 2) (j := 6) (C := RX6) (T := TX6) (N := 15) hd rfl rfl xkX6 (Nat.le_of_ble_eq_true rfl) (by rw [hM]; exact tw251) (fun _ => by subst hv; rfl) kk
theorem gfX7_215 {ρ : Type} {ι : ρ → xO × xW} {M : xMd} {b : Nat × Nat} {pc : Nat} {lv : List (Nat × Value)} {st : List Value} {w : xW} {r : Option ρ} {v : Int32} (hd : decode M.2.1 pc = .ok (.getfield 215, 3)) (hM : M.1.cls = "BundleFence$Machine") (hv : w.1 2 5 = v) (kk : xJ ι M lC b (pc + 3) lv (.int v :: st) w r) : xJ ι M lC b pc lv (.ref 2 :: st) w r :=
  xj_gf (v := .int v) (ci := 2) (j := 5) (C := RX6) (T := TX6) (N := 15) hd rfl rfl xkX6 (Nat.le_of_ble_eq_true rfl) (by rw [hM]; exact tw246) (fun _ => by subst hv; rfl) kk
theorem gfX7_218 {ρ : Type} {ι : ρ → xO × xW} {M : xMd} {b : Nat × Nat} {pc : Nat} {lv : List (Nat × Value)} {st : List Value} {w : xW} {r : Option ρ} {v : Int32} (hd : decode M.2.1 pc = .ok (.getfield 218, 3)) (hM : M.1.cls = "BundleFence$Machine") (hv : w.1 2 7 = v) (kk : xJ ι M lC b (pc + 3) lv (.int v :: st) w r) : xJ ι M lC b pc lv (.ref 2 :: st) w r :=
  xj_gf (v := .int v) (ci := 2) (j := 7) (C := RX6) (T := TX6) (N := 15) hd rfl rfl xkX6 (Nat.le_of_ble_eq_true rfl) (by rw [hM]; exact tw256) (fun _ => by subst hv; rfl) kk
theorem gfX7_231 {ρ : Type} {ι : ρ → xO × xW} {M : xMd} {b : Nat × Nat} {pc : Nat} {lv : List (Nat × Value)} {st : List Value} {w : xW} {r : Option ρ} {v : Int32} (hd : decode M.2.1 pc = .ok (.getfield 231, 3)) (hM : M.1.cls = "BundleFence$Machine") (hv : w.1 2 8 = v) (kk : xJ ι M lC b (pc + 3) lv (.int v :: st) w r) : xJ ι M lC b pc lv (.ref 2 :: st) w r :=
  xj_gf (v := .int v) (ci := 2) (j := 8) (C := RX6) (T := TX6) (N := 15) hd rfl rfl xkX6 (Nat.le_of_ble_eq_true rfl) (by rw [hM]; exact tw260) (fun _ => by subst hv; rfl) kk
theorem gfX7_234 {ρ : Type} {ι : ρ → xO × xW} {M : xMd} {b : Nat × Nat} {pc : Nat} {lv : List (Nat × Value)} {st : List Value} {w : xW} {r : Option ρ} {v : Int32} (hd : decode M.2.1 pc = .ok (.getfield 234, 3)) (hM : M.1.cls = "BundleFence$Machine") (hv : w.1 2 1 = v) (kk : xJ ι M lC b (pc + 3) lv (.int v :: st) w r) : xJ ι M lC b pc lv (.ref 2 :: st) w r :=
  xj_gf (v := .int v) (ci := 2) (j := 1) (C := RX6) (T := TX6) (N := 15) hd rfl rfl xkX6 (Nat.le_of_ble_eq_true rfl) (by rw [hM]; exact tw232) (fun _ => by subst hv; rfl) kk
theorem gfX7_237 {ρ : Type} {ι : ρ → xO × xW} {M : xMd} {b : Nat × Nat} {pc : Nat} {lv : List (Nat × Value)} {st : List Value} {w : xW} {r : Option ρ} {v : Int32} (hd : decode M.2.1 pc = .ok (.getfield 237, 3)) (hM : M.1.cls = "BundleFence$Machine") (hv : w.1 2 13 = v) (kk : xJ ι M lC b (pc + 3) lv (.int v :: st) w r) : xJ ι M lC b pc lv (.ref 2 :: st) w r :=
  xj_gf (v := .int v) (ci := 2) (j := 13) (C := RX6) (T := TX6) (N := 15) hd rfl rfl xkX6 (Nat.le_of_ble_eq_true rfl) (by rw [hM]; exact tw282) (fun _ => by subst hv; rfl) kk
theorem gfX7_24 {ρ : Type} {ι : ρ → xO × xW} {M : xMd} {b : Nat × Nat} {pc : Nat} {lv : List (Nat × Value)} {st : List Value} {w : xW} {r : Option ρ} (hd : decode M.2.1 pc = .ok (.getfield 24, 3)) (hM : M.1.cls = "BundleFence$Machine") (kk : xJ ι M lC b (pc + 3) lv (.ref 21 :: st) w r) : xJ ι M lC b pc lv (.ref 8 :: st) w r :=
  xj_gf (v := .ref 21) (ci := 8) (j := 7) (C := RX7) (T := TX7) (N := 16) hd rfl rfl xkX7 (Nat.le_of_ble_eq_true rfl) (by rw [hM]; exact tw526) (fun _ => rfl) kk
theorem gfX7_27 {ρ : Type} {ι : ρ → xO × xW} {M : xMd} {b : Nat × Nat} {pc : Nat} {lv : List (Nat × Value)} {st : List Value} {w : xW} {r : Option ρ} (hd : decode M.2.1 pc = .ok (.getfield 27, 3)) (hM : M.1.cls = "BundleFence$Machine") (kk : xJ ι M lC b (pc + 3) lv (.ref 22 :: st) w r) : xJ ι M lC b pc lv (.ref 8 :: st) w r :=
  xj_gf (v := .ref 22) (ci := 8) (j := 8) (C := RX7) (T := TX7) (N := 16) hd rfl rfl xkX7 (Nat.le_of_ble_eq_true rfl) (by rw [hM]; exact tw528) (fun _ => rfl) kk
theorem gfX7_30 {ρ : Type} {ι : ρ → xO × xW} {M : xMd} {b : Nat × Nat} {pc : Nat} {lv : List (Nat × Value)} {st : List Value} {w : xW} {r : Option ρ} (hd : decode M.2.1 pc = .ok (.getfield 30, 3)) (hM : M.1.cls = "BundleFence$Machine") (kk : xJ ι M lC b (pc + 3) lv (.ref 4 :: st) w r) : xJ ι M lC b pc lv (.ref 8 :: st) w r :=
  xj_gf (v := .ref 4) (ci := 8) (j := 0) (C := RX7) (T := TX7) (N := 16) hd rfl rfl xkX7 (Nat.le_of_ble_eq_true rfl) (by rw [hM]; exact tw517) (fun _ => rfl) kk
theorem gfX7_322 {ρ : Type} {ι : ρ → xO × xW} {M : xMd} {b : Nat × Nat} {pc : Nat} {lv : List (Nat × Value)} {st : List Value} {w : xW} {r : Option ρ} {v : Int32} (hd : decode M.2.1 pc = .ok (.getfield 322, 3)) (hM : M.1.cls = "BundleFence$Machine") (hv : w.1 2 3 = v) (kk : xJ ι M lC b (pc + 3) lv (.int v :: st) w r) : xJ ι M lC b pc lv (.ref 2 :: st) w r :=
  xj_gf (v := .int v) (ci := 2) (j := 3) (C := RX6) (T := TX6) (N := 15) hd rfl rfl xkX6 (Nat.le_of_ble_eq_true rfl) (by rw [hM]; exact tw238) (fun _ => by subst hv; rfl) kk
theorem gfX7_34 {ρ : Type} {ι : ρ → xO × xW} {M : xMd} {b : Nat × Nat} {pc : Nat} {lv : List (Nat × Value)} {st : List Value} {w : xW} {r : Option ρ} (hd : decode M.2.1 pc = .ok (.getfield 34, 3)) (hM : M.1.cls = "BundleFence$Machine") (kk : xJ ι M lC b (pc + 3) lv (.ref 3 :: st) w r) : xJ ι M lC b pc lv (.ref 8 :: st) w r :=
  xj_gf (v := .ref 3) (ci := 8) (j := 1) (C := RX7) (T := TX7) (N := 16) hd rfl rfl xkX7 (Nat.le_of_ble_eq_true rfl) (by rw [hM]; exact tw518) (fun _ => rfl) kk
theorem gfX7_38 {ρ : Type} {ι : ρ → xO × xW} {M : xMd} {b : Nat × Nat} {pc : Nat} {lv : List (Nat × Value)} {st : List Value} {w : xW} {r : Option ρ} (hd : decode M.2.1 pc = .ok (.getfield 38, 3)) (hM : M.1.cls = "BundleFence$Machine") (kk : xJ ι M lC b (pc + 3) lv (.ref 2 :: st) w r) : xJ ι M lC b pc lv (.ref 8 :: st) w r :=
  xj_gf (v := .ref 2) (ci := 8) (j := 2) (C := RX7) (T := TX7) (N := 16) hd rfl rfl xkX7 (Nat.le_of_ble_eq_true rfl) (by rw [hM]; exact tw519) (fun _ => rfl) kk
theorem gfX7_42 {ρ : Type} {ι : ρ → xO × xW} {M : xMd} {b : Nat × Nat} {pc : Nat} {lv : List (Nat × Value)} {st : List Value} {w : xW} {r : Option ρ} (hd : decode M.2.1 pc = .ok (.getfield 42, 3)) (hM : M.1.cls = "BundleFence$Machine") (kk : xJ ι M lC b (pc + 3) lv (.ref 6 :: st) w r) : xJ ι M lC b pc lv (.ref 8 :: st) w r :=
  xj_gf (v := .ref 6) (ci := 8) (j := 3) (C := RX7) (T := TX7) (N := 16) hd rfl rfl xkX7 (Nat.le_of_ble_eq_true rfl) (by rw [hM]; exact tw520) (fun _ => rfl) kk
theorem gfX7_46 {ρ : Type} {ι : ρ → xO × xW} {M : xMd} {b : Nat × Nat} {pc : Nat} {lv : List (Nat × Value)} {st : List Value} {w : xW} {r : Option ρ} (hd : decode M.2.1 pc = .ok (.getfield 46, 3)) (hM : M.1.cls = "BundleFence$Machine") (kk : xJ ι M lC b (pc + 3) lv (.ref 7 :: st) w r) : xJ ι M lC b pc lv (.ref 8 :: st) w r :=
  xj_gf (v := .ref 7) (ci := 8) (j := 4) (C := RX7) (T := TX7) (N := 16) hd rfl rfl xkX7 (Nat.le_of_ble_eq_true rfl) (by rw [hM]; exact tw521) (fun _ => rfl) kk
theorem gfX7_54 {ρ : Type} {ι : ρ → xO × xW} {M : xMd} {b : Nat × Nat} {pc : Nat} {lv : List (Nat × Value)} {st : List Value} {w : xW} {r : Option ρ} {v : Int32} (hd : decode M.2.1 pc = .ok (.getfield 54, 3)) (hM : M.1.cls = "BundleFence$Machine") (hv : w.1 8 11 = v) (kk : xJ ι M lC b (pc + 3) lv (.int v :: st) w r) : xJ ι M lC b pc lv (.ref 8 :: st) w r :=
  xj_gf (v := .int v) (ci := 8) (j := 11) (C := RX7) (T := TX7) (N := 16) hd rfl rfl xkX7 (Nat.le_of_ble_eq_true rfl) (by rw [hM]; exact tw532) (fun _ => by subst hv; rfl) kk
theorem gfX7_58 {ρ : Type} {ι : ρ → xO × xW} {M : xMd} {b : Nat × Nat} {pc : Nat} {lv : List (Nat × Value)} {st : List Value} {w : xW} {r : Option ρ} {v : Int32} (hd : decode M.2.1 pc = .ok (.getfield 58, 3)) (hM : M.1.cls = "BundleFence$Machine") (hv : w.1 9 0 = v) (kk : xJ ι M lC b (pc + 3) lv (.int v :: st) w r) : xJ ι M lC b pc lv (.ref 9 :: st) w r :=
  xj_gf (v := .int v) (ci := 9) (j := 0) (C := RX2) (T := TX2) (N := 1) hd rfl rfl xkX2 (Nat.le_of_ble_eq_true rfl) (by rw [hM]; exact tw507) (fun _ => by subst hv; rfl) kk
theorem gfX7_64 {ρ : Type} {ι : ρ → xO × xW} {M : xMd} {b : Nat × Nat} {pc : Nat} {lv : List (Nat × Value)} {st : List Value} {w : xW} {r : Option ρ} {v : Int64} (hd : decode M.2.1 pc = .ok (.getfield 64, 3)) (hM : M.1.cls = "BundleFence$Machine") (hv : w.2 8 13 = v) (kk : xJ ι M lC b (pc + 3) lv (.long v :: st) w r) : xJ ι M lC b pc lv (.ref 8 :: st) w r :=
  xj_gf (v := .long v) (ci := 8) (j := 13) (C := RX7) (T := TX7) (N := 16) hd rfl rfl xkX7 (Nat.le_of_ble_eq_true rfl) (by rw [hM]; exact tw536) (fun _ => by subst hv; rfl) kk
theorem gfX7_68 {ρ : Type} {ι : ρ → xO × xW} {M : xMd} {b : Nat × Nat} {pc : Nat} {lv : List (Nat × Value)} {st : List Value} {w : xW} {r : Option ρ} {v : Int32} (hd : decode M.2.1 pc = .ok (.getfield 68, 3)) (hM : M.1.cls = "BundleFence$Machine") (hv : w.1 8 10 = v) (kk : xJ ι M lC b (pc + 3) lv (.int v :: st) w r) : xJ ι M lC b pc lv (.ref 8 :: st) w r :=
  xj_gf (v := .int v) (ci := 8) (j := 10) (C := RX7) (T := TX7) (N := 16) hd rfl rfl xkX7 (Nat.le_of_ble_eq_true rfl) (by rw [hM]; exact tw530) (fun _ => by subst hv; rfl) kk
theorem gfX7_71 {ρ : Type} {ι : ρ → xO × xW} {M : xMd} {b : Nat × Nat} {pc : Nat} {lv : List (Nat × Value)} {st : List Value} {w : xW} {r : Option ρ} {v : Int32} (hd : decode M.2.1 pc = .ok (.getfield 71, 3)) (hM : M.1.cls = "BundleFence$Machine") (hv : w.1 6 2 = v) (kk : xJ ι M lC b (pc + 3) lv (.int v :: st) w r) : xJ ι M lC b pc lv (.ref 6 :: st) w r :=
  xj_gf (v := .int v) (ci := 6) (j := 2) (C := RX8) (T := TX8) (N := 3) hd rfl rfl xkX8 (Nat.le_of_ble_eq_true rfl) (by rw [hM]; exact tw449) (fun _ => by subst hv; rfl) kk
theorem gfX8_12 {ρ : Type} {ι : ρ → xO × xW} {M : xMd} {b : Nat × Nat} {pc : Nat} {lv : List (Nat × Value)} {st : List Value} {w : xW} {r : Option ρ} (hd : decode M.2.1 pc = .ok (.getfield 12, 3)) (hM : M.1.cls = "BundleFence$Memory") (kk : xJ ι M lC b (pc + 3) lv (.ref 17 :: st) w r) : xJ ι M lC b pc lv (.ref 6 :: st) w r :=
  xj_gf (v := .ref 17) (ci := 6) (j := 1) (C := RX8) (T := TX8) (N := 3) hd rfl rfl xkX8 (Nat.le_of_ble_eq_true rfl) (by rw [hM]; exact tw448) (fun _ => rfl) kk
theorem gfX8_16 {ρ : Type} {ι : ρ → xO × xW} {M : xMd} {b : Nat × Nat} {pc : Nat} {lv : List (Nat × Value)} {st : List Value} {w : xW} {r : Option ρ} (hd : decode M.2.1 pc = .ok (.getfield 16, 3)) (hM : M.1.cls = "BundleFence$Memory") (kk : xJ ι M lC b (pc + 3) lv (.ref 1 :: st) w r) : xJ ι M lC b pc lv (.ref 6 :: st) w r :=
  xj_gf (v := .ref 1) (ci := 6) (j := 0) (C := RX8) (T := TX8) (N := 3) hd rfl rfl xkX8 (Nat.le_of_ble_eq_true rfl) (by rw [hM]; exact tw447) (fun _ => rfl) kk
theorem gfX8_29 {ρ : Type} {ι : ρ → xO × xW} {M : xMd} {b : Nat × Nat} {pc : Nat} {lv : List (Nat × Value)} {st : List Value} {w : xW} {r : Option ρ} {v : Int32} (hd : decode M.2.1 pc = .ok (.getfield 29, 3)) (hM : M.1.cls = "BundleFence$Memory") (hv : w.1 1 1 = v) (kk : xJ ι M lC b (pc + 3) lv (.int v :: st) w r) : xJ ι M lC b pc lv (.ref 1 :: st) w r :=
  xj_gf (v := .int v) (ci := 1) (j := 1) (C := RX4) (T := TX4) (N := 2) hd rfl rfl xkX4 (Nat.le_of_ble_eq_true rfl) (by rw [hM]; exact tw207) (fun _ => by subst hv; rfl) kk
theorem gfX8_34 {ρ : Type} {ι : ρ → xO × xW} {M : xMd} {b : Nat × Nat} {pc : Nat} {lv : List (Nat × Value)} {st : List Value} {w : xW} {r : Option ρ} {v : Int32} (hd : decode M.2.1 pc = .ok (.getfield 34, 3)) (hM : M.1.cls = "BundleFence$Memory") (hv : w.1 6 2 = v) (kk : xJ ι M lC b (pc + 3) lv (.int v :: st) w r) : xJ ι M lC b pc lv (.ref 6 :: st) w r :=
  xj_gf (v := .int v) (ci := 6) (j := 2) (C := RX8) (T := TX8) (N := 3) hd rfl rfl xkX8 (Nat.le_of_ble_eq_true rfl) (by rw [hM]; exact tw450) (fun _ => by subst hv; rfl) kk
theorem gfX8_41 {ρ : Type} {ι : ρ → xO × xW} {M : xMd} {b : Nat × Nat} {pc : Nat} {lv : List (Nat × Value)} {st : List Value} {w : xW} {r : Option ρ} (hd : decode M.2.1 pc = .ok (.getfield 41, 3)) (hM : M.1.cls = "BundleFence$Memory") (kk : xJ ι M lC b (pc + 3) lv (.ref 10 :: st) w r) : xJ ι M lC b pc lv (.ref 1 :: st) w r :=
  xj_gf (v := .ref 10) (ci := 1) (j := 0) (C := RX4) (T := TX4) (N := 2) hd rfl rfl xkX4 (Nat.le_of_ble_eq_true rfl) (by rw [hM]; exact tw202) (fun _ => rfl) kk
theorem pfX11_102 {ρ : Type} {ι : ρ → xO × xW} {M : xMd} {b : Nat × Nat} {pc : Nat} {lv : List (Nat × Value)} {st : List Value} {w : xW} {r : Option ρ} {v : Int32} (hd : decode M.2.1 pc = .ok (.putfield 102, 3)) (hM : M.1.cls = "BundleFence") (kk : xJ ι M lC b (pc + 3) lv st (xwi w 8 10 v) r) : xJ ι M lC b pc lv (.int v :: .ref 8 :: st) w r :=
  xj_pf (v := .int v) (w2 := xwi w 8 10 v) (ty := .int) (ci := 8) (j := 10) (C := RX7) (T := TX7) (N := 16) hd rfl rfl xkX7 (Nat.le_of_ble_eq_true rfl) (by rw [hM]; exact tw531) rfl (by decide +kernel) (fun _ => rfl) (fun _ => rfl) (xput_i (Nat.le_of_ble_eq_true rfl) rfl) kk
theorem pfX11_88 {ρ : Type} {ι : ρ → xO × xW} {M : xMd} {b : Nat × Nat} {pc : Nat} {lv : List (Nat × Value)} {st : List Value} {w : xW} {r : Option ρ} {v : Int32} (hd : decode M.2.1 pc = .ok (.putfield 88, 3)) (hM : M.1.cls = "BundleFence") (kk : xJ ι M lC b (pc + 3) lv st (xwi w 1 1 v) r) : xJ ι M lC b pc lv (.int v :: .ref 1 :: st) w r :=
  xj_pf (v := .int v) (w2 := xwi w 1 1 v) (ty := .int) (ci := 1) (j := 1) (C := RX4) (T := TX4) (N := 2) hd rfl rfl xkX4 (Nat.le_of_ble_eq_true rfl) (by rw [hM]; exact tw205) rfl (by decide +kernel) (fun _ => rfl) (fun _ => rfl) (xput_i (Nat.le_of_ble_eq_true rfl) rfl) kk
theorem pfX1_100 {ρ : Type} {ι : ρ → xO × xW} {M : xMd} {b : Nat × Nat} {pc : Nat} {lv : List (Nat × Value)} {st : List Value} {w : xW} {r : Option ρ} {v : Int32} (hd : decode M.2.1 pc = .ok (.putfield 100, 3)) (hM : M.1.cls = "BundleFence$Decoder") (kk : xJ ι M lC b (pc + 3) lv st (xwi w 2 7 v) r) : xJ ι M lC b pc lv (.int v :: .ref 2 :: st) w r :=
  xj_pf (v := .int v) (w2 := xwi w 2 7 v) (ty := .int) (ci := 2) (j := 7) (C := RX6) (T := TX6) (N := 15) hd rfl rfl xkX6 (Nat.le_of_ble_eq_true rfl) (by rw [hM]; exact tw254) rfl (by decide +kernel) (fun _ => rfl) (fun _ => rfl) (xput_i (Nat.le_of_ble_eq_true rfl) rfl) kk
theorem pfX1_103 {ρ : Type} {ι : ρ → xO × xW} {M : xMd} {b : Nat × Nat} {pc : Nat} {lv : List (Nat × Value)} {st : List Value} {w : xW} {r : Option ρ} {v : Int32} (hd : decode M.2.1 pc = .ok (.putfield 103, 3)) (hM : M.1.cls = "BundleFence$Decoder") (hz : xz v) (kk : xJ ι M lC b (pc + 3) lv st (xwi w 2 6 v) r) : xJ ι M lC b pc lv (.int v :: .ref 2 :: st) w r :=
  xj_pf (v := .int v) (w2 := xwi w 2 6 v) (ty := .boolean) (ci := 2) (j := 6) (C := RX6) (T := TX6) (N := 15) hd rfl rfl xkX6 (Nat.le_of_ble_eq_true rfl) (by rw [hM]; exact tw249) rfl (by decide +kernel) (fun _ => (xz_nar hz).1) (fun _ => (xz_nar hz).2) (xput_i (Nat.le_of_ble_eq_true rfl) rfl) kk
theorem pfX1_106 {ρ : Type} {ι : ρ → xO × xW} {M : xMd} {b : Nat × Nat} {pc : Nat} {lv : List (Nat × Value)} {st : List Value} {w : xW} {r : Option ρ} {v : Int32} (hd : decode M.2.1 pc = .ok (.putfield 106, 3)) (hM : M.1.cls = "BundleFence$Decoder") (kk : xJ ι M lC b (pc + 3) lv st (xwi w 2 9 v) r) : xJ ι M lC b pc lv (.int v :: .ref 2 :: st) w r :=
  xj_pf (v := .int v) (w2 := xwi w 2 9 v) (ty := .int) (ci := 2) (j := 9) (C := RX6) (T := TX6) (N := 15) hd rfl rfl xkX6 (Nat.le_of_ble_eq_true rfl) (by rw [hM]; exact tw263) rfl (by decide +kernel) (fun _ => rfl) (fun _ => rfl) (xput_i (Nat.le_of_ble_eq_true rfl) rfl) kk
theorem pfX1_109 {ρ : Type} {ι : ρ → xO × xW} {M : xMd} {b : Nat × Nat} {pc : Nat} {lv : List (Nat × Value)} {st : List Value} {w : xW} {r : Option ρ} {v : Int32} (hd : decode M.2.1 pc = .ok (.putfield 109, 3)) (hM : M.1.cls = "BundleFence$Decoder") (kk : xJ ι M lC b (pc + 3) lv st (xwi w 2 10 v) r) : xJ ι M lC b pc lv (.int v :: .ref 2 :: st) w r :=
  xj_pf (v := .int v) (w2 := xwi w 2 10 v) (ty := .int) (ci := 2) (j := 10) (C := RX6) (T := TX6) (N := 15) hd rfl rfl xkX6 (Nat.le_of_ble_eq_true rfl) (by rw [hM]; exact tw267) rfl (by decide +kernel) (fun _ => rfl) (fun _ => rfl) (xput_i (Nat.le_of_ble_eq_true rfl) rfl) kk
theorem pfX1_112 {ρ : Type} {ι : ρ → xO × xW} {M : xMd} {b : Nat × Nat} {pc : Nat} {lv : List (Nat × Value)} {st : List Value} {w : xW} {r : Option ρ} {v : Int32} (hd : decode M.2.1 pc = .ok (.putfield 112, 3)) (hM : M.1.cls = "BundleFence$Decoder") (kk : xJ ι M lC b (pc + 3) lv st (xwi w 2 11 v) r) : xJ ι M lC b pc lv (.int v :: .ref 2 :: st) w r :=
  xj_pf (v := .int v) (w2 := xwi w 2 11 v) (ty := .int) (ci := 2) (j := 11) (C := RX6) (T := TX6) (N := 15) hd rfl rfl xkX6 (Nat.le_of_ble_eq_true rfl) (by rw [hM]; exact tw271) rfl (by decide +kernel) (fun _ => rfl) (fun _ => rfl) (xput_i (Nat.le_of_ble_eq_true rfl) rfl) kk
theorem pfX1_115 {ρ : Type} {ι : ρ → xO × xW} {M : xMd} {b : Nat × Nat} {pc : Nat} {lv : List (Nat × Value)} {st : List Value} {w : xW} {r : Option ρ} {v : Int32} (hd : decode M.2.1 pc = .ok (.putfield 115, 3)) (hM : M.1.cls = "BundleFence$Decoder") (kk : xJ ι M lC b (pc + 3) lv st (xwi w 2 12 v) r) : xJ ι M lC b pc lv (.int v :: .ref 2 :: st) w r :=
  xj_pf (v := .int v) (w2 := xwi w 2 12 v) (ty := .int) (ci := 2) (j := 12) (C := RX6) (T := TX6) (N := 15) hd rfl rfl xkX6 (Nat.le_of_ble_eq_true rfl) (by rw [hM]; exact tw275) rfl (by decide +kernel) (fun _ => rfl) (fun _ => rfl) (xput_i (Nat.le_of_ble_eq_true rfl) rfl) kk
theorem pfX1_122 {ρ : Type} {ι : ρ → xO × xW} {M : xMd} {b : Nat × Nat} {pc : Nat} {lv : List (Nat × Value)} {st : List Value} {w : xW} {r : Option ρ} {v : Int32} (hd : decode M.2.1 pc = .ok (.putfield 122, 3)) (hM : M.1.cls = "BundleFence$Decoder") (kk : xJ ι M lC b (pc + 3) lv st (xwi w 2 0 v) r) : xJ ι M lC b pc lv (.ref (2000 + v.toNatClampNeg) :: .ref 2 :: st) w r :=
  xj_pf (v := .ref (2000 + v.toNatClampNeg)) (w2 := xwi w 2 0 v) (ty := .object "BundleFence$Op") (ci := 2) (j := 0) (C := RX6) (T := TX6) (N := 15) hd rfl rfl xkX6 (Nat.le_of_ble_eq_true rfl) (by rw [hM]; exact tw226) rfl (by decide +kernel) (fun _ => rfl) (fun _ => rfl) (xput_e (Nat.le_of_ble_eq_true rfl) rfl) kk
theorem pfX1_137 {ρ : Type} {ι : ρ → xO × xW} {M : xMd} {b : Nat × Nat} {pc : Nat} {lv : List (Nat × Value)} {st : List Value} {w : xW} {r : Option ρ} {v : Int32} (hd : decode M.2.1 pc = .ok (.putfield 137, 3)) (hM : M.1.cls = "BundleFence$Decoder") (kk : xJ ι M lC b (pc + 3) lv st (xwi w 2 4 v) r) : xJ ι M lC b pc lv (.int v :: .ref 2 :: st) w r :=
  xj_pf (v := .int v) (w2 := xwi w 2 4 v) (ty := .int) (ci := 2) (j := 4) (C := RX6) (T := TX6) (N := 15) hd rfl rfl xkX6 (Nat.le_of_ble_eq_true rfl) (by rw [hM]; exact tw241) rfl (by decide +kernel) (fun _ => rfl) (fun _ => rfl) (xput_i (Nat.le_of_ble_eq_true rfl) rfl) kk
theorem pfX1_140 {ρ : Type} {ι : ρ → xO × xW} {M : xMd} {b : Nat × Nat} {pc : Nat} {lv : List (Nat × Value)} {st : List Value} {w : xW} {r : Option ρ} {v : Int32} (hd : decode M.2.1 pc = .ok (.putfield 140, 3)) (hM : M.1.cls = "BundleFence$Decoder") (kk : xJ ι M lC b (pc + 3) lv st (xwi w 2 5 v) r) : xJ ι M lC b pc lv (.int v :: .ref 2 :: st) w r :=
  xj_pf (v := .int v) (w2 := xwi w 2 5 v) (ty := .int) (ci := 2) (j := 5) (C := RX6) (T := TX6) (N := 15) hd rfl rfl xkX6 (Nat.le_of_ble_eq_true rfl) (by rw [hM]; exact tw244) rfl (by decide +kernel) (fun _ => rfl) (fun _ => rfl) (xput_i (Nat.le_of_ble_eq_true rfl) rfl) kk
theorem pfX1_169 {ρ : Type} {ι : ρ → xO × xW} {M : xMd} {b : Nat × Nat} {pc : Nat} {lv : List (Nat × Value)} {st : List Value} {w : xW} {r : Option ρ} {v : Int32} (hd : decode M.2.1 pc = .ok (.putfield 169, 3)) (hM : M.1.cls = "BundleFence$Decoder") (kk : xJ ι M lC b (pc + 3) lv st (xwi w 2 3 v) r) : xJ ι M lC b pc lv (.int v :: .ref 2 :: st) w r :=
  xj_pf (v := .int v) (w2 := xwi w 2 3 v) (ty := .int) (ci := 2) (j := 3) (C := RX6) (T := TX6) (N := 15) hd rfl rfl xkX6 (Nat.le_of_ble_eq_true rfl) (by rw [hM]; exact tw237) rfl (by decide +kernel) (fun _ => rfl) (fun _ => rfl) (xput_i (Nat.le_of_ble_eq_true rfl) rfl) kk
theorem pfX1_30 {ρ : Type} {ι : ρ → xO × xW} {M : xMd} {b : Nat × Nat} {pc : Nat} {lv : List (Nat × Value)} {st : List Value} {w : xW} {r : Option ρ} {v : Int32} (hd : decode M.2.1 pc = .ok (.putfield 30, 3)) (hM : M.1.cls = "BundleFence$Decoder") (kk : xJ ι M lC b (pc + 3) lv st (xwi w 3 2 v) r) : xJ ι M lC b pc lv (.int v :: .ref 3 :: st) w r :=
  xj_pf (v := .int v) (w2 := xwi w 3 2 v) (ty := .int) (ci := 3) (j := 2) (C := RX1) (T := TX1) (N := 8) hd rfl rfl xkX1 (Nat.le_of_ble_eq_true rfl) (by rw [hM]; exact tw325) rfl (by decide +kernel) (fun _ => rfl) (fun _ => rfl) (xput_i (Nat.le_of_ble_eq_true rfl) rfl) kk
theorem pfX1_34 {ρ : Type} {ι : ρ → xO × xW} {M : xMd} {b : Nat × Nat} {pc : Nat} {lv : List (Nat × Value)} {st : List Value} {w : xW} {r : Option ρ} {v : Int32} (hd : decode M.2.1 pc = .ok (.putfield 34, 3)) (hM : M.1.cls = "BundleFence$Decoder") (hz : xz v) (kk : xJ ι M lC b (pc + 3) lv st (xwi w 3 3 v) r) : xJ ι M lC b pc lv (.int v :: .ref 3 :: st) w r :=
  xj_pf (v := .int v) (w2 := xwi w 3 3 v) (ty := .boolean) (ci := 3) (j := 3) (C := RX1) (T := TX1) (N := 8) hd rfl rfl xkX1 (Nat.le_of_ble_eq_true rfl) (by rw [hM]; exact tw326) rfl (by decide +kernel) (fun _ => (xz_nar hz).1) (fun _ => (xz_nar hz).2) (xput_i (Nat.le_of_ble_eq_true rfl) rfl) kk
theorem pfX1_38 {ρ : Type} {ι : ρ → xO × xW} {M : xMd} {b : Nat × Nat} {pc : Nat} {lv : List (Nat × Value)} {st : List Value} {w : xW} {r : Option ρ} {v : Int32} (hd : decode M.2.1 pc = .ok (.putfield 38, 3)) (hM : M.1.cls = "BundleFence$Decoder") (hz : xz v) (kk : xJ ι M lC b (pc + 3) lv st (xwi w 3 4 v) r) : xJ ι M lC b pc lv (.int v :: .ref 3 :: st) w r :=
  xj_pf (v := .int v) (w2 := xwi w 3 4 v) (ty := .boolean) (ci := 3) (j := 4) (C := RX1) (T := TX1) (N := 8) hd rfl rfl xkX1 (Nat.le_of_ble_eq_true rfl) (by rw [hM]; exact tw327) rfl (by decide +kernel) (fun _ => (xz_nar hz).1) (fun _ => (xz_nar hz).2) (xput_i (Nat.le_of_ble_eq_true rfl) rfl) kk
theorem pfX1_41 {ρ : Type} {ι : ρ → xO × xW} {M : xMd} {b : Nat × Nat} {pc : Nat} {lv : List (Nat × Value)} {st : List Value} {w : xW} {r : Option ρ} {v : Int32} (hd : decode M.2.1 pc = .ok (.putfield 41, 3)) (hM : M.1.cls = "BundleFence$Decoder") (hz : xz v) (kk : xJ ι M lC b (pc + 3) lv st (xwi w 3 5 v) r) : xJ ι M lC b pc lv (.int v :: .ref 3 :: st) w r :=
  xj_pf (v := .int v) (w2 := xwi w 3 5 v) (ty := .boolean) (ci := 3) (j := 5) (C := RX1) (T := TX1) (N := 8) hd rfl rfl xkX1 (Nat.le_of_ble_eq_true rfl) (by rw [hM]; exact tw328) rfl (by decide +kernel) (fun _ => (xz_nar hz).1) (fun _ => (xz_nar hz).2) (xput_i (Nat.le_of_ble_eq_true rfl) rfl) kk
theorem pfX1_44 {ρ : Type} {ι : ρ → xO × xW} {M : xMd} {b : Nat × Nat} {pc : Nat} {lv : List (Nat × Value)} {st : List Value} {w : xW} {r : Option ρ} {v : Int32} (hd : decode M.2.1 pc = .ok (.putfield 44, 3)) (hM : M.1.cls = "BundleFence$Decoder") (kk : xJ ι M lC b (pc + 3) lv st (xwi w 3 6 v) r) : xJ ι M lC b pc lv (.int v :: .ref 3 :: st) w r :=
  xj_pf (v := .int v) (w2 := xwi w 3 6 v) (ty := .int) (ci := 3) (j := 6) (C := RX1) (T := TX1) (N := 8) hd rfl rfl xkX1 (Nat.le_of_ble_eq_true rfl) (by rw [hM]; exact tw329) rfl (by decide +kernel) (fun _ => rfl) (fun _ => rfl) (xput_i (Nat.le_of_ble_eq_true rfl) rfl) kk
theorem pfX1_47 {ρ : Type} {ι : ρ → xO × xW} {M : xMd} {b : Nat × Nat} {pc : Nat} {lv : List (Nat × Value)} {st : List Value} {w : xW} {r : Option ρ} {v : Int32} (hd : decode M.2.1 pc = .ok (.putfield 47, 3)) (hM : M.1.cls = "BundleFence$Decoder") (kk : xJ ι M lC b (pc + 3) lv st (xwi w 3 7 v) r) : xJ ι M lC b pc lv (.int v :: .ref 3 :: st) w r :=
  xj_pf (v := .int v) (w2 := xwi w 3 7 v) (ty := .int) (ci := 3) (j := 7) (C := RX1) (T := TX1) (N := 8) hd rfl rfl xkX1 (Nat.le_of_ble_eq_true rfl) (by rw [hM]; exact tw330) rfl (by decide +kernel) (fun _ => rfl) (fun _ => rfl) (xput_i (Nat.le_of_ble_eq_true rfl) rfl) kk
theorem pfX1_54 {ρ : Type} {ι : ρ → xO × xW} {M : xMd} {b : Nat × Nat} {pc : Nat} {lv : List (Nat × Value)} {st : List Value} {w : xW} {r : Option ρ} {v : Int32} (hd : decode M.2.1 pc = .ok (.putfield 54, 3)) (hM : M.1.cls = "BundleFence$Decoder") (kk : xJ ι M lC b (pc + 3) lv st (xwi w 2 2 v) r) : xJ ι M lC b pc lv (.int v :: .ref 2 :: st) w r :=
  xj_pf (v := .int v) (w2 := xwi w 2 2 v) (ty := .int) (ci := 2) (j := 2) (C := RX6) (T := TX6) (N := 15) hd rfl rfl xkX6 (Nat.le_of_ble_eq_true rfl) (by rw [hM]; exact tw234) rfl (by decide +kernel) (fun _ => rfl) (fun _ => rfl) (xput_i (Nat.le_of_ble_eq_true rfl) rfl) kk
theorem pfX1_81 {ρ : Type} {ι : ρ → xO × xW} {M : xMd} {b : Nat × Nat} {pc : Nat} {lv : List (Nat × Value)} {st : List Value} {w : xW} {r : Option ρ} {v : Int32} (hd : decode M.2.1 pc = .ok (.putfield 81, 3)) (hM : M.1.cls = "BundleFence$Decoder") (kk : xJ ι M lC b (pc + 3) lv st (xwi w 2 13 v) r) : xJ ι M lC b pc lv (.int v :: .ref 2 :: st) w r :=
  xj_pf (v := .int v) (w2 := xwi w 2 13 v) (ty := .int) (ci := 2) (j := 13) (C := RX6) (T := TX6) (N := 15) hd rfl rfl xkX6 (Nat.le_of_ble_eq_true rfl) (by rw [hM]; exact tw279) rfl (by decide +kernel) (fun _ => rfl) (fun _ => rfl) (xput_i (Nat.le_of_ble_eq_true rfl) rfl) kk
theorem pfX1_84 {ρ : Type} {ι : ρ → xO × xW} {M : xMd} {b : Nat × Nat} {pc : Nat} {lv : List (Nat × Value)} {st : List Value} {w : xW} {r : Option ρ} {v : Int32} (hd : decode M.2.1 pc = .ok (.putfield 84, 3)) (hM : M.1.cls = "BundleFence$Decoder") (kk : xJ ι M lC b (pc + 3) lv st (xwi w 2 14 v) r) : xJ ι M lC b pc lv (.int v :: .ref 2 :: st) w r :=
  xj_pf (v := .int v) (w2 := xwi w 2 14 v) (ty := .int) (ci := 2) (j := 14) (C := RX6) (T := TX6) (N := 15) hd rfl rfl xkX6 (Nat.le_of_ble_eq_true rfl) (by rw [hM]; exact tw284) rfl (by decide +kernel) (fun _ => rfl) (fun _ => rfl) (xput_i (Nat.le_of_ble_eq_true rfl) rfl) kk
theorem pfX1_87 {ρ : Type} {ι : ρ → xO × xW} {M : xMd} {b : Nat × Nat} {pc : Nat} {lv : List (Nat × Value)} {st : List Value} {w : xW} {r : Option ρ} {v : Int32} (hd : decode M.2.1 pc = .ok (.putfield 87, 3)) (hM : M.1.cls = "BundleFence$Decoder") (kk : xJ ι M lC b (pc + 3) lv st (xwi w 2 1 v) r) : xJ ι M lC b pc lv (.int v :: .ref 2 :: st) w r :=
  xj_pf (v := .int v) (w2 := xwi w 2 1 v) (ty := .int) (ci := 2) (j := 1) (C := RX6) (T := TX6) (N := 15) hd rfl rfl xkX6 (Nat.le_of_ble_eq_true rfl) (by rw [hM]; exact tw230) rfl (by decide +kernel) (fun _ => rfl) (fun _ => rfl) (xput_i (Nat.le_of_ble_eq_true rfl) rfl) kk
theorem pfX1_97 {ρ : Type} {ι : ρ → xO × xW} {M : xMd} {b : Nat × Nat} {pc : Nat} {lv : List (Nat × Value)} {st : List Value} {w : xW} {r : Option ρ} {v : Int32} (hd : decode M.2.1 pc = .ok (.putfield 97, 3)) (hM : M.1.cls = "BundleFence$Decoder") (kk : xJ ι M lC b (pc + 3) lv st (xwi w 2 8 v) r) : xJ ι M lC b pc lv (.int v :: .ref 2 :: st) w r :=
  xj_pf (v := .int v) (w2 := xwi w 2 8 v) (ty := .int) (ci := 2) (j := 8) (C := RX6) (T := TX6) (N := 15) hd rfl rfl xkX6 (Nat.le_of_ble_eq_true rfl) (by rw [hM]; exact tw258) rfl (by decide +kernel) (fun _ => rfl) (fun _ => rfl) (xput_i (Nat.le_of_ble_eq_true rfl) rfl) kk
theorem pfX2_7 {ρ : Type} {ι : ρ → xO × xW} {M : xMd} {b : Nat × Nat} {pc : Nat} {lv : List (Nat × Value)} {st : List Value} {w : xW} {r : Option ρ} {v : Int32} (hd : decode M.2.1 pc = .ok (.putfield 7, 3)) (hM : M.1.cls = "BundleFence$Flags") (kk : xJ ι M lC b (pc + 3) lv st (xwi w 9 0 v) r) : xJ ι M lC b pc lv (.int v :: .ref 9 :: st) w r :=
  xj_pf (v := .int v) (w2 := xwi w 9 0 v) (ty := .int) (ci := 9) (j := 0) (C := RX2) (T := TX2) (N := 1) hd rfl rfl xkX2 (Nat.le_of_ble_eq_true rfl) (by rw [hM]; exact tw506) rfl (by decide +kernel) (fun _ => rfl) (fun _ => rfl) (xput_i (Nat.le_of_ble_eq_true rfl) rfl) kk
theorem pfX3_19 {ρ : Type} {ι : ρ → xO × xW} {M : xMd} {b : Nat × Nat} {pc : Nat} {lv : List (Nat × Value)} {st : List Value} {w : xW} {r : Option ρ} {v : Int32} (hd : decode M.2.1 pc = .ok (.putfield 19, 3)) (hM : M.1.cls = "BundleFence$Host") (kk : xJ ι M lC b (pc + 3) lv st (xwi w 7 6 v) r) : xJ ι M lC b pc lv (.int v :: .ref 7 :: st) w r :=
  xj_pf (v := .int v) (w2 := xwi w 7 6 v) (ty := .int) (ci := 7) (j := 6) (C := RX3) (T := TX3) (N := 8) hd rfl rfl xkX3 (Nat.le_of_ble_eq_true rfl) (by rw [hM]; exact tw473) rfl (by decide +kernel) (fun _ => rfl) (fun _ => rfl) (xput_i (Nat.le_of_ble_eq_true rfl) rfl) kk
theorem pfX3_27 {ρ : Type} {ι : ρ → xO × xW} {M : xMd} {b : Nat × Nat} {pc : Nat} {lv : List (Nat × Value)} {st : List Value} {w : xW} {r : Option ρ} {v : Int32} (hd : decode M.2.1 pc = .ok (.putfield 27, 3)) (hM : M.1.cls = "BundleFence$Host") (kk : xJ ι M lC b (pc + 3) lv st (xwi w 7 4 v) r) : xJ ι M lC b pc lv (.int v :: .ref 7 :: st) w r :=
  xj_pf (v := .int v) (w2 := xwi w 7 4 v) (ty := .int) (ci := 7) (j := 4) (C := RX3) (T := TX3) (N := 8) hd rfl rfl xkX3 (Nat.le_of_ble_eq_true rfl) (by rw [hM]; exact tw469) rfl (by decide +kernel) (fun _ => rfl) (fun _ => rfl) (xput_i (Nat.le_of_ble_eq_true rfl) rfl) kk
theorem pfX3_30 {ρ : Type} {ι : ρ → xO × xW} {M : xMd} {b : Nat × Nat} {pc : Nat} {lv : List (Nat × Value)} {st : List Value} {w : xW} {r : Option ρ} {v : Int32} (hd : decode M.2.1 pc = .ok (.putfield 30, 3)) (hM : M.1.cls = "BundleFence$Host") (kk : xJ ι M lC b (pc + 3) lv st (xwi w 7 7 v) r) : xJ ι M lC b pc lv (.int v :: .ref 7 :: st) w r :=
  xj_pf (v := .int v) (w2 := xwi w 7 7 v) (ty := .int) (ci := 7) (j := 7) (C := RX3) (T := TX3) (N := 8) hd rfl rfl xkX3 (Nat.le_of_ble_eq_true rfl) (by rw [hM]; exact tw475) rfl (by decide +kernel) (fun _ => rfl) (fun _ => rfl) (xput_i (Nat.le_of_ble_eq_true rfl) rfl) kk
theorem pfX3_33 {ρ : Type} {ι : ρ → xO × xW} {M : xMd} {b : Nat × Nat} {pc : Nat} {lv : List (Nat × Value)} {st : List Value} {w : xW} {r : Option ρ} {v : Int32} (hd : decode M.2.1 pc = .ok (.putfield 33, 3)) (hM : M.1.cls = "BundleFence$Host") (kk : xJ ι M lC b (pc + 3) lv st (xwi w 7 5 v) r) : xJ ι M lC b pc lv (.int v :: .ref 7 :: st) w r :=
  xj_pf (v := .int v) (w2 := xwi w 7 5 v) (ty := .int) (ci := 7) (j := 5) (C := RX3) (T := TX3) (N := 8) hd rfl rfl xkX3 (Nat.le_of_ble_eq_true rfl) (by rw [hM]; exact tw471) rfl (by decide +kernel) (fun _ => rfl) (fun _ => rfl) (xput_i (Nat.le_of_ble_eq_true rfl) rfl) kk
theorem pfX3_36 {ρ : Type} {ι : ρ → xO × xW} {M : xMd} {b : Nat × Nat} {pc : Nat} {lv : List (Nat × Value)} {st : List Value} {w : xW} {r : Option ρ} {v : Int32} (hd : decode M.2.1 pc = .ok (.putfield 36, 3)) (hM : M.1.cls = "BundleFence$Host") (kk : xJ ι M lC b (pc + 3) lv st (xwi w 7 3 v) r) : xJ ι M lC b pc lv (.int v :: .ref 7 :: st) w r :=
  xj_pf (v := .int v) (w2 := xwi w 7 3 v) (ty := .int) (ci := 7) (j := 3) (C := RX3) (T := TX3) (N := 8) hd rfl rfl xkX3 (Nat.le_of_ble_eq_true rfl) (by rw [hM]; exact tw468) rfl (by decide +kernel) (fun _ => rfl) (fun _ => rfl) (xput_i (Nat.le_of_ble_eq_true rfl) rfl) kk
theorem pfX4_13 {ρ : Type} {ι : ρ → xO × xW} {M : xMd} {b : Nat × Nat} {pc : Nat} {lv : List (Nat × Value)} {st : List Value} {w : xW} {r : Option ρ} {v : Int32} (hd : decode M.2.1 pc = .ok (.putfield 13, 3)) (hM : M.1.cls = "BundleFence$Image") (kk : xJ ι M lC b (pc + 3) lv st (xwi w 1 1 v) r) : xJ ι M lC b pc lv (.int v :: .ref 1 :: st) w r :=
  xj_pf (v := .int v) (w2 := xwi w 1 1 v) (ty := .int) (ci := 1) (j := 1) (C := RX4) (T := TX4) (N := 2) hd rfl rfl xkX4 (Nat.le_of_ble_eq_true rfl) (by rw [hM]; exact tw204) rfl (by decide +kernel) (fun _ => rfl) (fun _ => rfl) (xput_i (Nat.le_of_ble_eq_true rfl) rfl) kk
theorem pfX5_29 {ρ : Type} {ι : ρ → xO × xW} {M : xMd} {b : Nat × Nat} {pc : Nat} {lv : List (Nat × Value)} {st : List Value} {w : xW} {r : Option ρ} {v : Int32} (hd : decode M.2.1 pc = .ok (.putfield 29, 3)) (hM : M.1.cls = "BundleFence$Inspector") (kk : xJ ι M lC b (pc + 3) lv st (xwi w 4 11 v) r) : xJ ι M lC b pc lv (.int v :: .ref 4 :: st) w r :=
  xj_pf (v := .int v) (w2 := xwi w 4 11 v) (ty := .int) (ci := 4) (j := 11) (C := RX5) (T := TX5) (N := 12) hd rfl rfl xkX5 (Nat.le_of_ble_eq_true rfl) (by rw [hM]; exact tw367) rfl (by decide +kernel) (fun _ => rfl) (fun _ => rfl) (xput_i (Nat.le_of_ble_eq_true rfl) rfl) kk
theorem pfX5_45 {ρ : Type} {ι : ρ → xO × xW} {M : xMd} {b : Nat × Nat} {pc : Nat} {lv : List (Nat × Value)} {st : List Value} {w : xW} {r : Option ρ} {v : Int32} (hd : decode M.2.1 pc = .ok (.putfield 45, 3)) (hM : M.1.cls = "BundleFence$Inspector") (hz : xz v) (kk : xJ ι M lC b (pc + 3) lv st (xwi w 4 9 v) r) : xJ ι M lC b pc lv (.int v :: .ref 4 :: st) w r :=
  xj_pf (v := .int v) (w2 := xwi w 4 9 v) (ty := .boolean) (ci := 4) (j := 9) (C := RX5) (T := TX5) (N := 12) hd rfl rfl xkX5 (Nat.le_of_ble_eq_true rfl) (by rw [hM]; exact tw363) rfl (by decide +kernel) (fun _ => (xz_nar hz).1) (fun _ => (xz_nar hz).2) (xput_i (Nat.le_of_ble_eq_true rfl) rfl) kk
theorem pfX5_49 {ρ : Type} {ι : ρ → xO × xW} {M : xMd} {b : Nat × Nat} {pc : Nat} {lv : List (Nat × Value)} {st : List Value} {w : xW} {r : Option ρ} {v : Int32} (hd : decode M.2.1 pc = .ok (.putfield 49, 3)) (hM : M.1.cls = "BundleFence$Inspector") (kk : xJ ι M lC b (pc + 3) lv st (xwi w 4 10 v) r) : xJ ι M lC b pc lv (.int v :: .ref 4 :: st) w r :=
  xj_pf (v := .int v) (w2 := xwi w 4 10 v) (ty := .int) (ci := 4) (j := 10) (C := RX5) (T := TX5) (N := 12) hd rfl rfl xkX5 (Nat.le_of_ble_eq_true rfl) (by rw [hM]; exact tw365) rfl (by decide +kernel) (fun _ => rfl) (fun _ => rfl) (xput_i (Nat.le_of_ble_eq_true rfl) rfl) kk
theorem pfX5_55 {ρ : Type} {ι : ρ → xO × xW} {M : xMd} {b : Nat × Nat} {pc : Nat} {lv : List (Nat × Value)} {st : List Value} {w : xW} {r : Option ρ} {v : Int32} (hd : decode M.2.1 pc = .ok (.putfield 55, 3)) (hM : M.1.cls = "BundleFence$Inspector") (kk : xJ ι M lC b (pc + 3) lv st (xwi w 4 8 v) r) : xJ ι M lC b pc lv (.int v :: .ref 4 :: st) w r :=
  xj_pf (v := .int v) (w2 := xwi w 4 8 v) (ty := .int) (ci := 4) (j := 8) (C := RX5) (T := TX5) (N := 12) hd rfl rfl xkX5 (Nat.le_of_ble_eq_true rfl) (by rw [hM]; exact tw362) rfl (by decide +kernel) (fun _ => rfl) (fun _ => rfl) (xput_i (Nat.le_of_ble_eq_true rfl) rfl) kk
theorem pfX6_15 {ρ : Type} {ι : ρ → xO × xW} {M : xMd} {b : Nat × Nat} {pc : Nat} {lv : List (Nat × Value)} {st : List Value} {w : xW} {r : Option ρ} {v : Int32} (hd : decode M.2.1 pc = .ok (.putfield 15, 3)) (hM : M.1.cls = "BundleFence$Instruction") (kk : xJ ι M lC b (pc + 3) lv st (xwi w 2 0 v) r) : xJ ι M lC b pc lv (.ref (2000 + v.toNatClampNeg) :: .ref 2 :: st) w r :=
  xj_pf (v := .ref (2000 + v.toNatClampNeg)) (w2 := xwi w 2 0 v) (ty := .object "BundleFence$Op") (ci := 2) (j := 0) (C := RX6) (T := TX6) (N := 15) hd rfl rfl xkX6 (Nat.le_of_ble_eq_true rfl) (by rw [hM]; exact tw223) rfl (by decide +kernel) (fun _ => rfl) (fun _ => rfl) (xput_e (Nat.le_of_ble_eq_true rfl) rfl) kk
theorem pfX6_20 {ρ : Type} {ι : ρ → xO × xW} {M : xMd} {b : Nat × Nat} {pc : Nat} {lv : List (Nat × Value)} {st : List Value} {w : xW} {r : Option ρ} {v : Int32} (hd : decode M.2.1 pc = .ok (.putfield 20, 3)) (hM : M.1.cls = "BundleFence$Instruction") (kk : xJ ι M lC b (pc + 3) lv st (xwi w 2 1 v) r) : xJ ι M lC b pc lv (.int v :: .ref 2 :: st) w r :=
  xj_pf (v := .int v) (w2 := xwi w 2 1 v) (ty := .int) (ci := 2) (j := 1) (C := RX6) (T := TX6) (N := 15) hd rfl rfl xkX6 (Nat.le_of_ble_eq_true rfl) (by rw [hM]; exact tw228) rfl (by decide +kernel) (fun _ => rfl) (fun _ => rfl) (xput_i (Nat.le_of_ble_eq_true rfl) rfl) kk
theorem pfX6_24 {ρ : Type} {ι : ρ → xO × xW} {M : xMd} {b : Nat × Nat} {pc : Nat} {lv : List (Nat × Value)} {st : List Value} {w : xW} {r : Option ρ} {v : Int32} (hd : decode M.2.1 pc = .ok (.putfield 24, 3)) (hM : M.1.cls = "BundleFence$Instruction") (kk : xJ ι M lC b (pc + 3) lv st (xwi w 2 2 v) r) : xJ ι M lC b pc lv (.int v :: .ref 2 :: st) w r :=
  xj_pf (v := .int v) (w2 := xwi w 2 2 v) (ty := .int) (ci := 2) (j := 2) (C := RX6) (T := TX6) (N := 15) hd rfl rfl xkX6 (Nat.le_of_ble_eq_true rfl) (by rw [hM]; exact tw233) rfl (by decide +kernel) (fun _ => rfl) (fun _ => rfl) (xput_i (Nat.le_of_ble_eq_true rfl) rfl) kk
theorem pfX6_27 {ρ : Type} {ι : ρ → xO × xW} {M : xMd} {b : Nat × Nat} {pc : Nat} {lv : List (Nat × Value)} {st : List Value} {w : xW} {r : Option ρ} {v : Int32} (hd : decode M.2.1 pc = .ok (.putfield 27, 3)) (hM : M.1.cls = "BundleFence$Instruction") (kk : xJ ι M lC b (pc + 3) lv st (xwi w 2 3 v) r) : xJ ι M lC b pc lv (.int v :: .ref 2 :: st) w r :=
  xj_pf (v := .int v) (w2 := xwi w 2 3 v) (ty := .int) (ci := 2) (j := 3) (C := RX6) (T := TX6) (N := 15) hd rfl rfl xkX6 (Nat.le_of_ble_eq_true rfl) (by rw [hM]; exact tw235) rfl (by decide +kernel) (fun _ => rfl) (fun _ => rfl) (xput_i (Nat.le_of_ble_eq_true rfl) rfl) kk
theorem pfX6_30 {ρ : Type} {ι : ρ → xO × xW} {M : xMd} {b : Nat × Nat} {pc : Nat} {lv : List (Nat × Value)} {st : List Value} {w : xW} {r : Option ρ} {v : Int32} (hd : decode M.2.1 pc = .ok (.putfield 30, 3)) (hM : M.1.cls = "BundleFence$Instruction") (kk : xJ ι M lC b (pc + 3) lv st (xwi w 2 4 v) r) : xJ ι M lC b pc lv (.int v :: .ref 2 :: st) w r :=
  xj_pf (v := .int v) (w2 := xwi w 2 4 v) (ty := .int) (ci := 2) (j := 4) (C := RX6) (T := TX6) (N := 15) hd rfl rfl xkX6 (Nat.le_of_ble_eq_true rfl) (by rw [hM]; exact tw239) rfl (by decide +kernel) (fun _ => rfl) (fun _ => rfl) (xput_i (Nat.le_of_ble_eq_true rfl) rfl) kk
theorem pfX6_33 {ρ : Type} {ι : ρ → xO × xW} {M : xMd} {b : Nat × Nat} {pc : Nat} {lv : List (Nat × Value)} {st : List Value} {w : xW} {r : Option ρ} {v : Int32} (hd : decode M.2.1 pc = .ok (.putfield 33, 3)) (hM : M.1.cls = "BundleFence$Instruction") (kk : xJ ι M lC b (pc + 3) lv st (xwi w 2 5 v) r) : xJ ι M lC b pc lv (.int v :: .ref 2 :: st) w r :=
  xj_pf (v := .int v) (w2 := xwi w 2 5 v) (ty := .int) (ci := 2) (j := 5) (C := RX6) (T := TX6) (N := 15) hd rfl rfl xkX6 (Nat.le_of_ble_eq_true rfl) (by rw [hM]; exact tw243) rfl (by decide +kernel) (fun _ => rfl) (fun _ => rfl) (xput_i (Nat.le_of_ble_eq_true rfl) rfl) kk
theorem pfX6_36 {ρ : Type} {ι : ρ → xO × xW} {M : xMd} {b : Nat × Nat} {pc : Nat} {lv : List (Nat × Value)} {st : List Value} {w : xW} {r : Option ρ} {v : Int32} (hd : decode M.2.1 pc = .ok (.putfield 36, 3)) (hM : M.1.cls = "BundleFence$Instruction") (kk : xJ ι M lC b (pc + 3) lv st (xwi w 2 7 v) r) : xJ ι M lC b pc lv (.int v :: .ref 2 :: st) w r :=
  xj_pf (v := .int v) (w2 := xwi w 2 7 v) (ty := .int) (ci := 2) (j := 7) (C := RX6) (T := TX6) (N := 15) hd rfl rfl xkX6 (Nat.le_of_ble_eq_true rfl) (by rw [hM]; exact tw252) rfl (by decide +kernel) (fun _ => rfl) (fun _ => rfl) (xput_i (Nat.le_of_ble_eq_true rfl) rfl) kk
theorem pfX6_39 {ρ : Type} {ι : ρ → xO × xW} {M : xMd} {b : Nat × Nat} {pc : Nat} {lv : List (Nat × Value)} {st : List Value} {w : xW} {r : Option ρ} {v : Int32} (hd : decode M.2.1 pc = .ok (.putfield 39, 3)) (hM : M.1.cls = "BundleFence$Instruction") (kk : xJ ι M lC b (pc + 3) lv st (xwi w 2 8 v) r) : xJ ι M lC b pc lv (.int v :: .ref 2 :: st) w r :=
  xj_pf (v := .int v) (w2 := xwi w 2 8 v) (ty := .int) (ci := 2) (j := 8) (C := RX6) (T := TX6) (N := 15) hd rfl rfl xkX6 (Nat.le_of_ble_eq_true rfl) (by rw [hM]; exact tw257) rfl (by decide +kernel) (fun _ => rfl) (fun _ => rfl) (xput_i (Nat.le_of_ble_eq_true rfl) rfl) kk
theorem pfX6_42 {ρ : Type} {ι : ρ → xO × xW} {M : xMd} {b : Nat × Nat} {pc : Nat} {lv : List (Nat × Value)} {st : List Value} {w : xW} {r : Option ρ} {v : Int32} (hd : decode M.2.1 pc = .ok (.putfield 42, 3)) (hM : M.1.cls = "BundleFence$Instruction") (kk : xJ ι M lC b (pc + 3) lv st (xwi w 2 13 v) r) : xJ ι M lC b pc lv (.int v :: .ref 2 :: st) w r :=
  xj_pf (v := .int v) (w2 := xwi w 2 13 v) (ty := .int) (ci := 2) (j := 13) (C := RX6) (T := TX6) (N := 15) hd rfl rfl xkX6 (Nat.le_of_ble_eq_true rfl) (by rw [hM]; exact tw278) rfl (by decide +kernel) (fun _ => rfl) (fun _ => rfl) (xput_i (Nat.le_of_ble_eq_true rfl) rfl) kk
theorem pfX6_45 {ρ : Type} {ι : ρ → xO × xW} {M : xMd} {b : Nat × Nat} {pc : Nat} {lv : List (Nat × Value)} {st : List Value} {w : xW} {r : Option ρ} {v : Int32} (hd : decode M.2.1 pc = .ok (.putfield 45, 3)) (hM : M.1.cls = "BundleFence$Instruction") (kk : xJ ι M lC b (pc + 3) lv st (xwi w 2 14 v) r) : xJ ι M lC b pc lv (.int v :: .ref 2 :: st) w r :=
  xj_pf (v := .int v) (w2 := xwi w 2 14 v) (ty := .int) (ci := 2) (j := 14) (C := RX6) (T := TX6) (N := 15) hd rfl rfl xkX6 (Nat.le_of_ble_eq_true rfl) (by rw [hM]; exact tw283) rfl (by decide +kernel) (fun _ => rfl) (fun _ => rfl) (xput_i (Nat.le_of_ble_eq_true rfl) rfl) kk
theorem pfX6_48 {ρ : Type} {ι : ρ → xO × xW} {M : xMd} {b : Nat × Nat} {pc : Nat} {lv : List (Nat × Value)} {st : List Value} {w : xW} {r : Option ρ} {v : Int32} (hd : decode M.2.1 pc = .ok (.putfield 48, 3)) (hM : M.1.cls = "BundleFence$Instruction") (hz : xz v) (kk : xJ ι M lC b (pc + 3) lv st (xwi w 2 6 v) r) : xJ ι M lC b pc lv (.int v :: .ref 2 :: st) w r :=
  xj_pf (v := .int v) (w2 := xwi w 2 6 v) (ty := .boolean) (ci := 2) (j := 6) (C := RX6) (T := TX6) (N := 15) hd rfl rfl xkX6 (Nat.le_of_ble_eq_true rfl) (by rw [hM]; exact tw247) rfl (by decide +kernel) (fun _ => (xz_nar hz).1) (fun _ => (xz_nar hz).2) (xput_i (Nat.le_of_ble_eq_true rfl) rfl) kk
theorem pfX6_52 {ρ : Type} {ι : ρ → xO × xW} {M : xMd} {b : Nat × Nat} {pc : Nat} {lv : List (Nat × Value)} {st : List Value} {w : xW} {r : Option ρ} {v : Int32} (hd : decode M.2.1 pc = .ok (.putfield 52, 3)) (hM : M.1.cls = "BundleFence$Instruction") (kk : xJ ι M lC b (pc + 3) lv st (xwi w 2 9 v) r) : xJ ι M lC b pc lv (.int v :: .ref 2 :: st) w r :=
  xj_pf (v := .int v) (w2 := xwi w 2 9 v) (ty := .int) (ci := 2) (j := 9) (C := RX6) (T := TX6) (N := 15) hd rfl rfl xkX6 (Nat.le_of_ble_eq_true rfl) (by rw [hM]; exact tw261) rfl (by decide +kernel) (fun _ => rfl) (fun _ => rfl) (xput_i (Nat.le_of_ble_eq_true rfl) rfl) kk
theorem pfX6_55 {ρ : Type} {ι : ρ → xO × xW} {M : xMd} {b : Nat × Nat} {pc : Nat} {lv : List (Nat × Value)} {st : List Value} {w : xW} {r : Option ρ} {v : Int32} (hd : decode M.2.1 pc = .ok (.putfield 55, 3)) (hM : M.1.cls = "BundleFence$Instruction") (kk : xJ ι M lC b (pc + 3) lv st (xwi w 2 10 v) r) : xJ ι M lC b pc lv (.int v :: .ref 2 :: st) w r :=
  xj_pf (v := .int v) (w2 := xwi w 2 10 v) (ty := .int) (ci := 2) (j := 10) (C := RX6) (T := TX6) (N := 15) hd rfl rfl xkX6 (Nat.le_of_ble_eq_true rfl) (by rw [hM]; exact tw266) rfl (by decide +kernel) (fun _ => rfl) (fun _ => rfl) (xput_i (Nat.le_of_ble_eq_true rfl) rfl) kk
theorem pfX6_58 {ρ : Type} {ι : ρ → xO × xW} {M : xMd} {b : Nat × Nat} {pc : Nat} {lv : List (Nat × Value)} {st : List Value} {w : xW} {r : Option ρ} {v : Int32} (hd : decode M.2.1 pc = .ok (.putfield 58, 3)) (hM : M.1.cls = "BundleFence$Instruction") (kk : xJ ι M lC b (pc + 3) lv st (xwi w 2 11 v) r) : xJ ι M lC b pc lv (.int v :: .ref 2 :: st) w r :=
  xj_pf (v := .int v) (w2 := xwi w 2 11 v) (ty := .int) (ci := 2) (j := 11) (C := RX6) (T := TX6) (N := 15) hd rfl rfl xkX6 (Nat.le_of_ble_eq_true rfl) (by rw [hM]; exact tw270) rfl (by decide +kernel) (fun _ => rfl) (fun _ => rfl) (xput_i (Nat.le_of_ble_eq_true rfl) rfl) kk
theorem pfX6_61 {ρ : Type} {ι : ρ → xO × xW} {M : xMd} {b : Nat × Nat} {pc : Nat} {lv : List (Nat × Value)} {st : List Value} {w : xW} {r : Option ρ} {v : Int32} (hd : decode M.2.1 pc = .ok (.putfield 61, 3)) (hM : M.1.cls = "BundleFence$Instruction") (kk : xJ ι M lC b (pc + 3) lv st (xwi w 2 12 v) r) : xJ ι M lC b pc lv (.int v :: .ref 2 :: st) w r :=
  xj_pf (v := .int v) (w2 := xwi w 2 12 v) (ty := .int) (ci := 2) (j := 12) (C := RX6) (T := TX6) (N := 15) hd rfl rfl xkX6 (Nat.le_of_ble_eq_true rfl) (by rw [hM]; exact tw274) rfl (by decide +kernel) (fun _ => rfl) (fun _ => rfl) (xput_i (Nat.le_of_ble_eq_true rfl) rfl) kk
theorem pfX7_128 {ρ : Type} {ι : ρ → xO × xW} {M : xMd} {b : Nat × Nat} {pc : Nat} {lv : List (Nat × Value)} {st : List Value} {w : xW} {r : Option ρ} {v : Int32} (hd : decode M.2.1 pc = .ok (.putfield 128, 3)) (hM : M.1.cls = "BundleFence$Machine") (kk : xJ ι M lC b (pc + 3) lv st (xwi w 8 9 v) r) : xJ ι M lC b pc lv (.int v :: .ref 8 :: st) w r :=
  xj_pf (v := .int v) (w2 := xwi w 8 9 v) (ty := .int) (ci := 8) (j := 9) (C := RX7) (T := TX7) (N := 16) hd rfl rfl xkX7 (Nat.le_of_ble_eq_true rfl) (by rw [hM]; exact tw529) rfl (by decide +kernel) (fun _ => rfl) (fun _ => rfl) (xput_i (Nat.le_of_ble_eq_true rfl) rfl) kk
theorem pfX7_136 {ρ : Type} {ι : ρ → xO × xW} {M : xMd} {b : Nat × Nat} {pc : Nat} {lv : List (Nat × Value)} {st : List Value} {w : xW} {r : Option ρ} {v : Int32} (hd : decode M.2.1 pc = .ok (.putfield 136, 3)) (hM : M.1.cls = "BundleFence$Machine") (kk : xJ ι M lC b (pc + 3) lv st (xwi w 8 15 v) r) : xJ ι M lC b pc lv (.int v :: .ref 8 :: st) w r :=
  xj_pf (v := .int v) (w2 := xwi w 8 15 v) (ty := .int) (ci := 8) (j := 15) (C := RX7) (T := TX7) (N := 16) hd rfl rfl xkX7 (Nat.le_of_ble_eq_true rfl) (by rw [hM]; exact tw539) rfl (by decide +kernel) (fun _ => rfl) (fun _ => rfl) (xput_i (Nat.le_of_ble_eq_true rfl) rfl) kk
theorem pfX7_143 {ρ : Type} {ι : ρ → xO × xW} {M : xMd} {b : Nat × Nat} {pc : Nat} {lv : List (Nat × Value)} {st : List Value} {w : xW} {r : Option ρ} {v : Int32} (hd : decode M.2.1 pc = .ok (.putfield 143, 3)) (hM : M.1.cls = "BundleFence$Machine") (kk : xJ ι M lC b (pc + 3) lv st (xwi w 8 14 v) r) : xJ ι M lC b pc lv (.int v :: .ref 8 :: st) w r :=
  xj_pf (v := .int v) (w2 := xwi w 8 14 v) (ty := .int) (ci := 8) (j := 14) (C := RX7) (T := TX7) (N := 16) hd rfl rfl xkX7 (Nat.le_of_ble_eq_true rfl) (by rw [hM]; exact tw538) rfl (by decide +kernel) (fun _ => rfl) (fun _ => rfl) (xput_i (Nat.le_of_ble_eq_true rfl) rfl) kk
theorem pfX7_54 {ρ : Type} {ι : ρ → xO × xW} {M : xMd} {b : Nat × Nat} {pc : Nat} {lv : List (Nat × Value)} {st : List Value} {w : xW} {r : Option ρ} {v : Int32} (hd : decode M.2.1 pc = .ok (.putfield 54, 3)) (hM : M.1.cls = "BundleFence$Machine") (kk : xJ ι M lC b (pc + 3) lv st (xwi w 8 11 v) r) : xJ ι M lC b pc lv (.int v :: .ref 8 :: st) w r :=
  xj_pf (v := .int v) (w2 := xwi w 8 11 v) (ty := .int) (ci := 8) (j := 11) (C := RX7) (T := TX7) (N := 16) hd rfl rfl xkX7 (Nat.le_of_ble_eq_true rfl) (by rw [hM]; exact tw532) rfl (by decide +kernel) (fun _ => rfl) (fun _ => rfl) (xput_i (Nat.le_of_ble_eq_true rfl) rfl) kk
theorem pfX7_58 {ρ : Type} {ι : ρ → xO × xW} {M : xMd} {b : Nat × Nat} {pc : Nat} {lv : List (Nat × Value)} {st : List Value} {w : xW} {r : Option ρ} {v : Int32} (hd : decode M.2.1 pc = .ok (.putfield 58, 3)) (hM : M.1.cls = "BundleFence$Machine") (kk : xJ ι M lC b (pc + 3) lv st (xwi w 9 0 v) r) : xJ ι M lC b pc lv (.int v :: .ref 9 :: st) w r :=
  xj_pf (v := .int v) (w2 := xwi w 9 0 v) (ty := .int) (ci := 9) (j := 0) (C := RX2) (T := TX2) (N := 1) hd rfl rfl xkX2 (Nat.le_of_ble_eq_true rfl) (by rw [hM]; exact tw507) rfl (by decide +kernel) (fun _ => rfl) (fun _ => rfl) (xput_i (Nat.le_of_ble_eq_true rfl) rfl) kk
theorem pfX7_61 {ρ : Type} {ι : ρ → xO × xW} {M : xMd} {b : Nat × Nat} {pc : Nat} {lv : List (Nat × Value)} {st : List Value} {w : xW} {r : Option ρ} {v : Int32} (hd : decode M.2.1 pc = .ok (.putfield 61, 3)) (hM : M.1.cls = "BundleFence$Machine") (kk : xJ ι M lC b (pc + 3) lv st (xwi w 8 12 v) r) : xJ ι M lC b pc lv (.int v :: .ref 8 :: st) w r :=
  xj_pf (v := .int v) (w2 := xwi w 8 12 v) (ty := .int) (ci := 8) (j := 12) (C := RX7) (T := TX7) (N := 16) hd rfl rfl xkX7 (Nat.le_of_ble_eq_true rfl) (by rw [hM]; exact tw534) rfl (by decide +kernel) (fun _ => rfl) (fun _ => rfl) (xput_i (Nat.le_of_ble_eq_true rfl) rfl) kk
theorem pfX7_64 {ρ : Type} {ι : ρ → xO × xW} {M : xMd} {b : Nat × Nat} {pc : Nat} {lv : List (Nat × Value)} {st : List Value} {w : xW} {r : Option ρ} {v : Int64} (hd : decode M.2.1 pc = .ok (.putfield 64, 3)) (hM : M.1.cls = "BundleFence$Machine") (kk : xJ ι M lC b (pc + 3) lv st (xwl w 8 13 v) r) : xJ ι M lC b pc lv (.long v :: .ref 8 :: st) w r :=
  xj_pf (v := .long v) (w2 := xwl w 8 13 v) (ty := .long) (ci := 8) (j := 13) (C := RX7) (T := TX7) (N := 16) hd rfl rfl xkX7 (Nat.le_of_ble_eq_true rfl) (by rw [hM]; exact tw536) rfl (by decide +kernel) (fun _ => rfl) (fun _ => rfl) (xput_l rfl) kk
theorem pfX7_68 {ρ : Type} {ι : ρ → xO × xW} {M : xMd} {b : Nat × Nat} {pc : Nat} {lv : List (Nat × Value)} {st : List Value} {w : xW} {r : Option ρ} {v : Int32} (hd : decode M.2.1 pc = .ok (.putfield 68, 3)) (hM : M.1.cls = "BundleFence$Machine") (kk : xJ ι M lC b (pc + 3) lv st (xwi w 8 10 v) r) : xJ ι M lC b pc lv (.int v :: .ref 8 :: st) w r :=
  xj_pf (v := .int v) (w2 := xwi w 8 10 v) (ty := .int) (ci := 8) (j := 10) (C := RX7) (T := TX7) (N := 16) hd rfl rfl xkX7 (Nat.le_of_ble_eq_true rfl) (by rw [hM]; exact tw530) rfl (by decide +kernel) (fun _ => rfl) (fun _ => rfl) (xput_i (Nat.le_of_ble_eq_true rfl) rfl) kk
theorem pfX7_71 {ρ : Type} {ι : ρ → xO × xW} {M : xMd} {b : Nat × Nat} {pc : Nat} {lv : List (Nat × Value)} {st : List Value} {w : xW} {r : Option ρ} {v : Int32} (hd : decode M.2.1 pc = .ok (.putfield 71, 3)) (hM : M.1.cls = "BundleFence$Machine") (kk : xJ ι M lC b (pc + 3) lv st (xwi w 6 2 v) r) : xJ ι M lC b pc lv (.int v :: .ref 6 :: st) w r :=
  xj_pf (v := .int v) (w2 := xwi w 6 2 v) (ty := .int) (ci := 6) (j := 2) (C := RX8) (T := TX8) (N := 3) hd rfl rfl xkX8 (Nat.le_of_ble_eq_true rfl) (by rw [hM]; exact tw449) rfl (by decide +kernel) (fun _ => rfl) (fun _ => rfl) (xput_i (Nat.le_of_ble_eq_true rfl) rfl) kk
theorem pfX8_34 {ρ : Type} {ι : ρ → xO × xW} {M : xMd} {b : Nat × Nat} {pc : Nat} {lv : List (Nat × Value)} {st : List Value} {w : xW} {r : Option ρ} {v : Int32} (hd : decode M.2.1 pc = .ok (.putfield 34, 3)) (hM : M.1.cls = "BundleFence$Memory") (kk : xJ ι M lC b (pc + 3) lv st (xwi w 6 2 v) r) : xJ ι M lC b pc lv (.int v :: .ref 6 :: st) w r :=
  xj_pf (v := .int v) (w2 := xwi w 6 2 v) (ty := .int) (ci := 6) (j := 2) (C := RX8) (T := TX8) (N := 3) hd rfl rfl xkX8 (Nat.le_of_ble_eq_true rfl) (by rw [hM]; exact tw450) rfl (by decide +kernel) (fun _ => rfl) (fun _ => rfl) (xput_i (Nat.le_of_ble_eq_true rfl) rfl) kk
theorem mkX1_withE : xMkV mX1_withE 3 := ⟨⟨tw647, tw158, ⟨by decide, by decide⟩, by decide +kernel⟩, tw646, tw3⟩
theorem mkX1_plain : xMkV mX1_plain 4 := ⟨⟨tw655, tw158, ⟨by decide, by decide⟩, by decide +kernel⟩, tw654, tw4⟩
theorem mkX1_withRegister : xMkV mX1_withRegister 2 := ⟨⟨tw687, tw158, ⟨by decide, by decide⟩, by decide +kernel⟩, tw686, tw7⟩
theorem mkX1_chooseLongMore : xMkV mX1_chooseLongMore 1 := ⟨⟨tw661, tw158, ⟨by decide, by decide⟩, by decide +kernel⟩, tw660, tw5⟩
theorem mkX1_chooseSwap : xMkV mX1_chooseSwap 1 := ⟨⟨tw681, tw158, ⟨by decide, by decide⟩, by decide +kernel⟩, tw680, tw6⟩
theorem mkX1_chooseEight : xMkV mX1_chooseEight 2 := ⟨⟨tw717, tw158, ⟨by decide, by decide⟩, by decide +kernel⟩, tw716, tw11⟩
theorem mkX1_choosePush : xMkV mX1_choosePush 1 := ⟨⟨tw711, tw158, ⟨by decide, by decide⟩, by decide +kernel⟩, tw710, tw10⟩
theorem mkX1_withDigit : xMkV mX1_withDigit 3 := ⟨⟨tw733, tw158, ⟨by decide, by decide⟩, by decide +kernel⟩, tw732, tw14⟩
theorem mkX1_chooseGroup : xMkV mX1_chooseGroup 2 := ⟨⟨tw725, tw158, ⟨by decide, by decide⟩, by decide +kernel⟩, tw724, tw13⟩
theorem mkX1_chooseMove : xMkV mX1_chooseMove 2 := ⟨⟨tw737, tw158, ⟨by decide, by decide⟩, by decide +kernel⟩, tw736, tw15⟩
theorem mkX1_chooseXchg : xMkV mX1_chooseXchg 1 := ⟨⟨tw743, tw158, ⟨by decide, by decide⟩, by decide +kernel⟩, tw742, tw16⟩
theorem mkX1_chooseShiftOrMove : xMkV mX1_chooseShiftOrMove 2 := ⟨⟨tw751, tw158, ⟨by decide, by decide⟩, by decide +kernel⟩, tw750, tw17⟩
theorem mkX1_chooseJump : xMkV mX1_chooseJump 1 := ⟨⟨tw755, tw158, ⟨by decide, by decide⟩, by decide +kernel⟩, tw754, tw18⟩
theorem mkX1_chooseLast : xMkV mX1_chooseLast 2 := ⟨⟨tw767, tw158, ⟨by decide, by decide⟩, by decide +kernel⟩, tw766, tw19⟩
theorem mkX1_nextByte : xMkV mX1_nextByte 0 := ⟨⟨tw638, tw158, ⟨by decide, by decide⟩, by decide +kernel⟩, tw637, tw1⟩
theorem mkX1_nextNumber : xMkV mX1_nextNumber 1 := ⟨⟨tw783, tw158, ⟨by decide, by decide⟩, by decide +kernel⟩, tw782, tw21⟩
theorem mkX1_chooseSingle : xMkV mX1_chooseSingle 1 := ⟨⟨tw793, tw158, ⟨by decide, by decide⟩, by decide +kernel⟩, tw792, tw23⟩
theorem mkX1_chooseCounting : xMkV mX1_chooseCounting 1 := ⟨⟨tw809, tw158, ⟨by decide, by decide⟩, by decide +kernel⟩, tw808, tw24⟩
theorem mkX1_chooseByDigit : xMkV mX1_chooseByDigit 0 := ⟨⟨tw787, tw158, ⟨by decide, by decide⟩, by decide +kernel⟩, tw786, tw22⟩
theorem mkX1_readE : xMkV mX1_readE 0 := ⟨⟨tw779, tw158, ⟨by decide, by decide⟩, by decide +kernel⟩, tw778, tw20⟩
theorem mkX1_chooseHigh : xMkV mX1_chooseHigh 2 := ⟨⟨tw721, tw158, ⟨by decide, by decide⟩, by decide +kernel⟩, tw720, tw12⟩
theorem mkX1_chooseLow : xMkV mX1_chooseLow 1 := ⟨⟨tw699, tw158, ⟨by decide, by decide⟩, by decide +kernel⟩, tw698, tw9⟩
theorem mkX1_chooseWord : xMkV mX1_chooseWord 1 := ⟨⟨tw693, tw158, ⟨by decide, by decide⟩, by decide +kernel⟩, tw692, tw8⟩
theorem mkX1_chooseLong : xMkV mX1_chooseLong 1 := ⟨⟨tw642, tw158, ⟨by decide, by decide⟩, by decide +kernel⟩, tw641, tw2⟩
theorem mkX4_has : xMkV mX4_has 1 := ⟨⟨tw634, tw154, ⟨by decide, by decide⟩, by decide +kernel⟩, tw632, tw633⟩
theorem mkX6_clear : xMkV mX6_clear 0 := ⟨⟨tw630, tw155, ⟨by decide, by decide⟩, by decide +kernel⟩, tw628, tw629⟩
theorem mkX2_has : xMkV mX2_has 1 := ⟨⟨tw1636, tw168, ⟨by decide, by decide⟩, by decide +kernel⟩, tw1634, tw1635⟩
theorem mkJ6_bitCount_0f7a4 : xMkS mJ6_bitCount_0f7a4 1 := ⟨⟨tw1662, tw182, ⟨by decide, by decide⟩, by decide +kernel⟩, tw1661⟩
theorem mkX11_topOf : xMkS mX11_topOf 1 := ⟨⟨tw1657, tw153, ⟨by decide, by decide⟩, by decide +kernel⟩, tw1656⟩
theorem mkX2_tellCarry : xMkV mX2_tellCarry 2 := ⟨⟨tw1669, tw168, ⟨by decide, by decide⟩, by decide +kernel⟩, tw1667, tw1668⟩
theorem mkX11_unsigned : xMkS mX11_unsigned 1 := ⟨⟨tw1407, tw153, ⟨by decide, by decide⟩, by decide +kernel⟩, tw1406⟩
theorem mkX2_tellResult : xMkV mX2_tellResult 2 := ⟨⟨tw1654, tw168, ⟨by decide, by decide⟩, by decide +kernel⟩, tw1652, tw1653⟩
theorem mkX11_maskOf : xMkS mX11_maskOf 1 := ⟨⟨tw1627, tw153, ⟨by decide, by decide⟩, by decide +kernel⟩, tw1626⟩
theorem mkX2_bitwise : xMkV mX2_bitwise 2 := ⟨⟨tw1677, tw168, ⟨by decide, by decide⟩, by decide +kernel⟩, tw1676, tw64⟩
theorem mkX2_add : xMkV mX2_add 4 := ⟨⟨tw1648, tw168, ⟨by decide, by decide⟩, by decide +kernel⟩, tw1646, tw1647⟩
theorem mkX2_subtract : xMkV mX2_subtract 4 := ⟨⟨tw1673, tw168, ⟨by decide, by decide⟩, by decide +kernel⟩, tw1671, tw1672⟩
theorem mkX2_set : xMkV mX2_set 2 := ⟨⟨tw1708, tw168, ⟨by decide, by decide⟩, by decide +kernel⟩, tw1706, tw1707⟩
theorem mkX2_shiftLeft : xMkV mX2_shiftLeft 3 := ⟨⟨tw1726, tw168, ⟨by decide, by decide⟩, by decide +kernel⟩, tw1725, tw70⟩
theorem mkX2_shiftRight : xMkV mX2_shiftRight 3 := ⟨⟨tw1730, tw168, ⟨by decide, by decide⟩, by decide +kernel⟩, tw1729, tw71⟩
theorem mkX8_isWithin : xMkS mX8_isWithin 4 := ⟨⟨tw840, tw165, ⟨by decide, by decide⟩, by decide +kernel⟩, tw839⟩
theorem mkX8_dataAt : xMkV mX8_dataAt 1 := ⟨⟨tw1437, tw165, ⟨by decide, by decide⟩, by decide +kernel⟩, tw1435, tw1436⟩
theorem mkX8_setData : xMkV mX8_setData 2 := ⟨⟨tw1478, tw165, ⟨by decide, by decide⟩, by decide +kernel⟩, tw1476, tw1477⟩
theorem mkX3_sum : xMkV mX3_sum 2 := ⟨⟨tw1578, tw166, ⟨by decide, by decide⟩, by decide +kernel⟩, tw1577, tw55⟩
theorem mkX3_readIn : xMkV mX3_readIn 2 := ⟨⟨tw1573, tw166, ⟨by decide, by decide⟩, by decide +kernel⟩, tw1572, tw54⟩
theorem mkX3_writeOut : xMkV mX3_writeOut 2 := ⟨⟨tw1567, tw166, ⟨by decide, by decide⟩, by decide +kernel⟩, tw1566, tw53⟩
theorem mkX8_inData : xMkS mX8_inData 2 := ⟨⟨tw836, tw165, ⟨by decide, by decide⟩, by decide +kernel⟩, tw835⟩
theorem mkX3_serveBytes : xMkV mX3_serveBytes 3 := ⟨⟨tw1561, tw166, ⟨by decide, by decide⟩, by decide +kernel⟩, tw1560, tw52⟩
theorem mkX6_startsWithG : xMkV mX6_startsWithG 0 := ⟨⟨tw821, tw155, ⟨by decide, by decide⟩, by decide +kernel⟩, tw819, tw820⟩
theorem mkX6_isMask : xMkV mX6_isMask 3 := ⟨⟨tw847, tw155, ⟨by decide, by decide⟩, by decide +kernel⟩, tw845, tw846⟩
theorem mkX6_isRegisterJump : xMkV mX6_isRegisterJump 0 := ⟨⟨tw851, tw155, ⟨by decide, by decide⟩, by decide +kernel⟩, tw849, tw850⟩
theorem mkX6_isFixedInData : xMkV mX6_isFixedInData 0 := ⟨⟨tw833, tw155, ⟨by decide, by decide⟩, by decide +kernel⟩, tw831, tw832⟩
theorem mkX6_isNear : xMkV mX6_isNear 0 := ⟨⟨tw829, tw155, ⟨by decide, by decide⟩, by decide +kernel⟩, tw827, tw828⟩
theorem mkX6_writesMemory : xMkV mX6_writesMemory 0 := ⟨⟨tw825, tw155, ⟨by decide, by decide⟩, by decide +kernel⟩, tw823, tw824⟩
theorem mkX6_writesStackPointer : xMkV mX6_writesStackPointer 0 := ⟨⟨tw817, tw155, ⟨by decide, by decide⟩, by decide +kernel⟩, tw815, tw816⟩
theorem mkX5_isOf : xMkV mX5_isOf 3 := ⟨⟨tw898, tw159, ⟨by decide, by decide⟩, by decide +kernel⟩, tw897, tw34⟩
theorem mkX5_mark : xMkV mX5_mark 2 := ⟨⟨tw882, tw159, ⟨by decide, by decide⟩, by decide +kernel⟩, tw881, tw30⟩
theorem mkX5_refuse : xMkV mX5_refuse 2 := ⟨⟨tw867, tw159, ⟨by decide, by decide⟩, by decide +kernel⟩, tw866, tw27⟩
theorem mkX5_hasFences : xMkV mX5_hasFences 2 := ⟨⟨tw894, tw159, ⟨by decide, by decide⟩, by decide +kernel⟩, tw893, tw33⟩
theorem mkX5_leavesBundle : xMkS mX5_leavesBundle 2 := ⟨⟨tw878, tw159, ⟨by decide, by decide⟩, by decide +kernel⟩, tw877⟩
theorem mkX5_is : xMkV mX5_is 2 := ⟨⟨tw886, tw159, ⟨by decide, by decide⟩, by decide +kernel⟩, tw885, tw31⟩
theorem mkX5_registerAt : xMkV mX5_registerAt 1 := ⟨⟨tw906, tw159, ⟨by decide, by decide⟩, by decide +kernel⟩, tw905, tw36⟩
theorem mkX5_lengthAt : xMkV mX5_lengthAt 1 := ⟨⟨tw875, tw159, ⟨by decide, by decide⟩, by decide +kernel⟩, tw874, tw29⟩
theorem mkX5_checkAlone : xMkV mX5_checkAlone 2 := ⟨⟨tw914, tw159, ⟨by decide, by decide⟩, by decide +kernel⟩, tw913, tw38⟩
theorem mkX5_markWriteUnit : xMkV mX5_markWriteUnit 1 := ⟨⟨tw910, tw159, ⟨by decide, by decide⟩, by decide +kernel⟩, tw909, tw37⟩
theorem mkX5_markJumpUnit : xMkV mX5_markJumpUnit 2 := ⟨⟨tw902, tw159, ⟨by decide, by decide⟩, by decide +kernel⟩, tw901, tw35⟩
theorem mkX5_markStackUnit : xMkV mX5_markStackUnit 2 := ⟨⟨tw890, tw159, ⟨by decide, by decide⟩, by decide +kernel⟩, tw889, tw32⟩
theorem mkX5_markUnit : xMkV mX5_markUnit 1 := ⟨⟨tw871, tw159, ⟨by decide, by decide⟩, by decide +kernel⟩, tw870, tw28⟩
theorem mkX5_markAt : xMkV mX5_markAt 1 := ⟨⟨tw932, tw159, ⟨by decide, by decide⟩, by decide +kernel⟩, tw930, tw931⟩
theorem mkX11_gateAt : xMkS mX11_gateAt 1 := ⟨⟨tw928, tw153, ⟨by decide, by decide⟩, by decide +kernel⟩, tw927⟩
theorem mkX5_isEntry : xMkV mX5_isEntry 1 := ⟨⟨tw925, tw159, ⟨by decide, by decide⟩, by decide +kernel⟩, tw924, tw40⟩
theorem mkX5_checkEnd : xMkV mX5_checkEnd 1 := ⟨⟨tw936, tw159, ⟨by decide, by decide⟩, by decide +kernel⟩, tw935, tw41⟩
theorem mkX5_checkTargets : xMkV mX5_checkTargets 0 := ⟨⟨tw921, tw159, ⟨by decide, by decide⟩, by decide +kernel⟩, tw920, tw39⟩
theorem mkX5_markUnits : xMkV mX5_markUnits 0 := ⟨⟨tw863, tw159, ⟨by decide, by decide⟩, by decide +kernel⟩, tw862, tw26⟩
theorem mkX5_traitsOfIt : xMkV mX5_traitsOfIt 0 := ⟨⟨tw813, tw159, ⟨by decide, by decide⟩, by decide +kernel⟩, tw812, tw25⟩
theorem mkX1_decode : xMkV mX1_decode 1 := ⟨⟨tw626, tw158, ⟨by decide, by decide⟩, by decide +kernel⟩, tw624, tw625⟩
theorem mkX5_forget : xMkV mX5_forget 0 := ⟨⟨tw613, tw159, ⟨by decide, by decide⟩, by decide +kernel⟩, tw611, tw612⟩
theorem mkX8_fail : xMkV mX8_fail 1 := ⟨⟨tw1553, tw165, ⟨by decide, by decide⟩, by decide +kernel⟩, tw1551, tw1552⟩
theorem mkX3_serve : xMkV mX3_serve 4 := ⟨⟨tw1557, tw166, ⟨by decide, by decide⟩, by decide +kernel⟩, tw1555, tw1556⟩
theorem mkX8_load : xMkV mX8_load 2 := ⟨⟨tw1549, tw165, ⟨by decide, by decide⟩, by decide +kernel⟩, tw1547, tw1548⟩
theorem mkX7_addressOfE : xMkV mX7_addressOfE 0 := ⟨⟨tw1598, tw167, ⟨by decide, by decide⟩, by decide +kernel⟩, tw1597, tw57⟩
theorem mkX5_permits : xMkV mX5_permits 1 := ⟨⟨tw1593, tw159, ⟨by decide, by decide⟩, by decide +kernel⟩, tw1591, tw1592⟩
theorem mkX8_inImage : xMkV mX8_inImage 2 := ⟨⟨tw1587, tw165, ⟨by decide, by decide⟩, by decide +kernel⟩, tw1585, tw1586⟩
theorem mkX7_part : xMkV mX7_part 2 := ⟨⟨tw1615, tw167, ⟨by decide, by decide⟩, by decide +kernel⟩, tw1614, tw61⟩
theorem mkX7_readG : xMkV mX7_readG 0 := ⟨⟨tw1611, tw167, ⟨by decide, by decide⟩, by decide +kernel⟩, tw1610, tw60⟩
theorem mkX7_readE : xMkV mX7_readE 0 := ⟨⟨tw1620, tw167, ⟨by decide, by decide⟩, by decide +kernel⟩, tw1619, tw62⟩
theorem mkX7_setPart : xMkV mX7_setPart 3 := ⟨⟨tw1689, tw167, ⟨by decide, by decide⟩, by decide +kernel⟩, tw1688, tw67⟩
theorem mkX8_store : xMkV mX8_store 3 := ⟨⟨tw1697, tw165, ⟨by decide, by decide⟩, by decide +kernel⟩, tw1695, tw1696⟩
theorem mkX7_writeE : xMkV mX7_writeE 1 := ⟨⟨tw1693, tw167, ⟨by decide, by decide⟩, by decide +kernel⟩, tw1692, tw68⟩
theorem mkX7_writeG : xMkV mX7_writeG 1 := ⟨⟨tw1685, tw167, ⟨by decide, by decide⟩, by decide +kernel⟩, tw1684, tw66⟩
theorem mkX7_writeFirst : xMkV mX7_writeFirst 1 := ⟨⟨tw1681, tw167, ⟨by decide, by decide⟩, by decide +kernel⟩, tw1680, tw65⟩
theorem mkX2_two : xMkV mX2_two 4 := ⟨⟨tw1632, tw168, ⟨by decide, by decide⟩, by decide +kernel⟩, tw1630, tw1631⟩
theorem mkX7_readSecond : xMkV mX7_readSecond 0 := ⟨⟨tw1624, tw167, ⟨by decide, by decide⟩, by decide +kernel⟩, tw1623, tw63⟩
theorem mkX2_shiftDouble : xMkV mX2_shiftDouble 4 := ⟨⟨tw1742, tw168, ⟨by decide, by decide⟩, by decide +kernel⟩, tw1740, tw1741⟩
theorem mkX2_shift : xMkV mX2_shift 4 := ⟨⟨tw1716, tw168, ⟨by decide, by decide⟩, by decide +kernel⟩, tw1714, tw1715⟩
theorem mkX7_multiplyLong : xMkV mX7_multiplyLong 1 := ⟨⟨tw1759, tw167, ⟨by decide, by decide⟩, by decide +kernel⟩, tw1758, tw74⟩
theorem mkX7_multiplyByte : xMkV mX7_multiplyByte 1 := ⟨⟨tw1754, tw167, ⟨by decide, by decide⟩, by decide +kernel⟩, tw1753, tw73⟩
theorem mkX7_divideLongWithSign : xMkV mX7_divideLongWithSign 1 := ⟨⟨tw1778, tw167, ⟨by decide, by decide⟩, by decide +kernel⟩, tw1777, tw78⟩
theorem mkX7_divideLong : xMkV mX7_divideLong 1 := ⟨⟨tw1774, tw167, ⟨by decide, by decide⟩, by decide +kernel⟩, tw1773, tw77⟩
theorem mkX7_divideByte : xMkV mX7_divideByte 1 := ⟨⟨tw1768, tw167, ⟨by decide, by decide⟩, by decide +kernel⟩, tw1767, tw76⟩
theorem mkX2_holds : xMkV mX2_holds 1 := ⟨⟨tw1791, tw168, ⟨by decide, by decide⟩, by decide +kernel⟩, tw1789, tw1790⟩
theorem mkX11_withSign : xMkS mX11_withSign 2 := ⟨⟨tw1787, tw153, ⟨by decide, by decide⟩, by decide +kernel⟩, tw1786⟩
theorem mkJ6_numberOfLeadingZeros_0f7a4 : xMkS mJ6_numberOfLeadingZeros_0f7a4 1 := ⟨⟨tw1808, tw182, ⟨by decide, by decide⟩, by decide +kernel⟩, tw1807⟩
theorem mkJ6_numberOfTrailingZeros_0f7a4 : xMkS mJ6_numberOfTrailingZeros_0f7a4 1 := ⟨⟨tw1804, tw182, ⟨by decide, by decide⟩, by decide +kernel⟩, tw1803⟩
theorem mkX7_scanBits : xMkV mX7_scanBits 1 := ⟨⟨tw1799, tw167, ⟨by decide, by decide⟩, by decide +kernel⟩, tw1798, tw81⟩
theorem mkJ6_reverseBytes_0f7a4 : xMkS mJ6_reverseBytes_0f7a4 1 := ⟨⟨tw1811, tw182, ⟨by decide, by decide⟩, by decide +kernel⟩, tw1810⟩
theorem mkX7_push : xMkV mX7_push 1 := ⟨⟨tw1826, tw167, ⟨by decide, by decide⟩, by decide +kernel⟩, tw1825, tw84⟩
theorem mkX7_doRest : xMkV mX7_doRest 0 := ⟨⟨tw1837, tw167, ⟨by decide, by decide⟩, by decide +kernel⟩, tw1836, tw86⟩
theorem mkX7_doArithmetic : xMkV mX7_doArithmetic 0 := ⟨⟨tw1606, tw167, ⟨by decide, by decide⟩, by decide +kernel⟩, tw1605, tw59⟩
theorem mkX2_single : xMkV mX2_single 3 := ⟨⟨tw1704, tw168, ⟨by decide, by decide⟩, by decide +kernel⟩, tw1702, tw1703⟩
theorem mkX7_doShift : xMkV mX7_doShift 0 := ⟨⟨tw1712, tw167, ⟨by decide, by decide⟩, by decide +kernel⟩, tw1711, tw69⟩
theorem mkX7_doProduct : xMkV mX7_doProduct 0 := ⟨⟨tw1747, tw167, ⟨by decide, by decide⟩, by decide +kernel⟩, tw1746, tw72⟩
theorem mkX7_doQuotient : xMkV mX7_doQuotient 0 := ⟨⟨tw1764, tw167, ⟨by decide, by decide⟩, by decide +kernel⟩, tw1763, tw75⟩
theorem mkX7_doMove : xMkV mX7_doMove 0 := ⟨⟨tw1782, tw167, ⟨by decide, by decide⟩, by decide +kernel⟩, tw1781, tw79⟩
theorem mkX7_doRearrange : xMkV mX7_doRearrange 0 := ⟨⟨tw1795, tw167, ⟨by decide, by decide⟩, by decide +kernel⟩, tw1794, tw80⟩
theorem mkX7_doExchange : xMkV mX7_doExchange 0 := ⟨⟨tw1816, tw167, ⟨by decide, by decide⟩, by decide +kernel⟩, tw1815, tw82⟩
theorem mkX7_doStack : xMkV mX7_doStack 0 := ⟨⟨tw1822, tw167, ⟨by decide, by decide⟩, by decide +kernel⟩, tw1821, tw83⟩
theorem mkX7_doJump : xMkV mX7_doJump 0 := ⟨⟨tw1830, tw167, ⟨by decide, by decide⟩, by decide +kernel⟩, tw1829, tw85⟩
theorem mkX7_settle : xMkV mX7_settle 0 := ⟨⟨tw1842, tw167, ⟨by decide, by decide⟩, by decide +kernel⟩, tw1841, tw87⟩
theorem mkX7_execute : xMkV mX7_execute 0 := ⟨⟨tw1602, tw167, ⟨by decide, by decide⟩, by decide +kernel⟩, tw1601, tw58⟩
theorem mkX7_isReady : xMkV mX7_isReady 0 := ⟨⟨tw1583, tw167, ⟨by decide, by decide⟩, by decide +kernel⟩, tw1582, tw56⟩
theorem mkX7_doService : xMkV mX7_doService 1 := ⟨⟨tw1545, tw167, ⟨by decide, by decide⟩, by decide +kernel⟩, tw1544, tw51⟩
theorem mkX11_forgetProgram : xMkV mX11_forgetProgram 0 := ⟨⟨tw609, tw153, ⟨by decide, by decide⟩, by decide +kernel⟩, tw608, tw0⟩
theorem mkX4_append : xMkV mX4_append 2 := ⟨⟨tw1465, tw154, ⟨by decide, by decide⟩, by decide +kernel⟩, tw1463, tw1464⟩
theorem mkX5_inspect : xMkV mX5_inspect 0 := ⟨⟨tw621, tw159, ⟨by decide, by decide⟩, by decide +kernel⟩, tw619, tw620⟩
theorem mkX3_take : xMkV mX3_take 2 := ⟨⟨tw1489, tw166, ⟨by decide, by decide⟩, by decide +kernel⟩, tw1487, tw1488⟩
theorem mkX7_restart : xMkV mX7_restart 0 := ⟨⟨tw515, tw167, ⟨by decide, by decide⟩, by decide +kernel⟩, tw513, tw514⟩
theorem mkX3_restart : xMkV mX3_restart 0 := ⟨⟨tw1518, tw166, ⟨by decide, by decide⟩, by decide +kernel⟩, tw1516, tw1517⟩
theorem mkX7_step : xMkV mX7_step 0 := ⟨⟨tw1540, tw167, ⟨by decide, by decide⟩, by decide +kernel⟩, tw1538, tw1539⟩
theorem mkX11_hasBreakpoint : xMkV mX11_hasBreakpoint 1 := ⟨⟨tw1536, tw153, ⟨by decide, by decide⟩, by decide +kernel⟩, tw1535, tw50⟩
theorem mkX7_wake : xMkV mX7_wake 0 := ⟨⟨tw1532, tw167, ⟨by decide, by decide⟩, by decide +kernel⟩, tw1530, tw1531⟩
theorem mkX3_outputAt : xMkV mX3_outputAt 1 := ⟨⟨tw1450, tw166, ⟨by decide, by decide⟩, by decide +kernel⟩, tw1448, tw1449⟩
