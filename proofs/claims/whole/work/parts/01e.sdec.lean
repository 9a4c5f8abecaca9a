/-! decoded: String members -/
abbrev cStr_coder : ByteArray := prog_26_method_152_code
theorem ddStr_coder : xdec cStr_coder [(0, (.getstatic 38, 3)), (3, (.ifCond .eq 10, 3)), (6, (.aload_n 0, 1)), (7, (.getfield 15, 3)), (10, (.goto 4, 3)), (13, (.iconst 1, 1)), (14, (.ireturn, 1))] = true := by decide +kernel
theorem dStr_coder_0 : decode cStr_coder 0 = .ok (.getstatic 38, 3) := xdc ddStr_coder 0 rfl
theorem dStr_coder_3 : decode cStr_coder 3 = .ok (.ifCond .eq 10, 3) := xdc ddStr_coder 1 rfl
theorem dStr_coder_6 : decode cStr_coder 6 = .ok (.aload_n 0, 1) := xdc ddStr_coder 2 rfl
theorem dStr_coder_7 : decode cStr_coder 7 = .ok (.getfield 15, 3) := xdc ddStr_coder 3 rfl
theorem dStr_coder_10 : decode cStr_coder 10 = .ok (.goto 4, 3) := xdc ddStr_coder 4 rfl
theorem dStr_coder_13 : decode cStr_coder 13 = .ok (.iconst 1, 1) := xdc ddStr_coder 5 rfl
theorem dStr_coder_14 : decode cStr_coder 14 = .ok (.ireturn, 1) := xdc ddStr_coder 6 rfl
abbrev cStr_isLatin1 : ByteArray := prog_26_method_154_code
theorem ddStr_isLatin1 : xdec cStr_isLatin1 [(0, (.getstatic 38, 3)), (3, (.ifCond .eq 14, 3)), (6, (.aload_n 0, 1)), (7, (.getfield 15, 3)), (10, (.ifCond .ne 7, 3)), (13, (.iconst 1, 1)), (14, (.goto 4, 3)), (17, (.iconst 0, 1)), (18, (.ireturn, 1))] = true := by decide +kernel
theorem dStr_isLatin1_0 : decode cStr_isLatin1 0 = .ok (.getstatic 38, 3) := xdc ddStr_isLatin1 0 rfl
theorem dStr_isLatin1_3 : decode cStr_isLatin1 3 = .ok (.ifCond .eq 14, 3) := xdc ddStr_isLatin1 1 rfl
theorem dStr_isLatin1_6 : decode cStr_isLatin1 6 = .ok (.aload_n 0, 1) := xdc ddStr_isLatin1 2 rfl
theorem dStr_isLatin1_7 : decode cStr_isLatin1 7 = .ok (.getfield 15, 3) := xdc ddStr_isLatin1 3 rfl
theorem dStr_isLatin1_10 : decode cStr_isLatin1 10 = .ok (.ifCond .ne 7, 3) := xdc ddStr_isLatin1 4 rfl
theorem dStr_isLatin1_13 : decode cStr_isLatin1 13 = .ok (.iconst 1, 1) := xdc ddStr_isLatin1 5 rfl
theorem dStr_isLatin1_14 : decode cStr_isLatin1 14 = .ok (.goto 4, 3) := xdc ddStr_isLatin1 6 rfl
theorem dStr_isLatin1_17 : decode cStr_isLatin1 17 = .ok (.iconst 0, 1) := xdc ddStr_isLatin1 7 rfl
theorem dStr_isLatin1_18 : decode cStr_isLatin1 18 = .ok (.ireturn, 1) := xdc ddStr_isLatin1 8 rfl
abbrev cStr_length : ByteArray := prog_26_method_54_code
theorem ddStr_length : xdec cStr_length [(0, (.aload_n 0, 1)), (1, (.getfield 9, 3)), (4, (.arraylength, 1)), (5, (.aload_n 0, 1)), (6, (.invokevirtual 335, 3)), (9, (.ishr, 1)), (10, (.ireturn, 1))] = true := by decide +kernel
theorem dStr_length_0 : decode cStr_length 0 = .ok (.aload_n 0, 1) := xdc ddStr_length 0 rfl
theorem dStr_length_1 : decode cStr_length 1 = .ok (.getfield 9, 3) := xdc ddStr_length 1 rfl
theorem dStr_length_4 : decode cStr_length 4 = .ok (.arraylength, 1) := xdc ddStr_length 2 rfl
theorem dStr_length_5 : decode cStr_length 5 = .ok (.aload_n 0, 1) := xdc ddStr_length 3 rfl
theorem dStr_length_6 : decode cStr_length 6 = .ok (.invokevirtual 335, 3) := xdc ddStr_length 4 rfl
theorem dStr_length_9 : decode cStr_length 9 = .ok (.ishr, 1) := xdc ddStr_length 5 rfl
theorem dStr_length_10 : decode cStr_length 10 = .ok (.ireturn, 1) := xdc ddStr_length 6 rfl
abbrev cStr_check3 : ByteArray := prog_35_method_11_code
theorem ddStr_check3 : xdec cStr_check3 [(0, (.iload_n 0, 1)), (1, (.ifCond .lt 8, 3)), (4, (.iload_n 0, 1)), (5, (.iload_n 1, 1)), (6, (.if_icmp .lt 10, 3)), (9, (.aload_n 2, 1)), (10, (.iload_n 0, 1)), (11, (.iload_n 1, 1)), (12, (.invokestatic 95, 3)), (15, (.athrow, 1)), (16, (.iload_n 0, 1)), (17, (.ireturn, 1))] = true := by decide +kernel
theorem dStr_check3_0 : decode cStr_check3 0 = .ok (.iload_n 0, 1) := xdc ddStr_check3 0 rfl
theorem dStr_check3_1 : decode cStr_check3 1 = .ok (.ifCond .lt 8, 3) := xdc ddStr_check3 1 rfl
theorem dStr_check3_4 : decode cStr_check3 4 = .ok (.iload_n 0, 1) := xdc ddStr_check3 2 rfl
theorem dStr_check3_5 : decode cStr_check3 5 = .ok (.iload_n 1, 1) := xdc ddStr_check3 3 rfl
theorem dStr_check3_6 : decode cStr_check3 6 = .ok (.if_icmp .lt 10, 3) := xdc ddStr_check3 4 rfl
theorem dStr_check3_9 : decode cStr_check3 9 = .ok (.aload_n 2, 1) := xdc ddStr_check3 5 rfl
theorem dStr_check3_10 : decode cStr_check3 10 = .ok (.iload_n 0, 1) := xdc ddStr_check3 6 rfl
theorem dStr_check3_11 : decode cStr_check3 11 = .ok (.iload_n 1, 1) := xdc ddStr_check3 7 rfl
theorem dStr_check3_12 : decode cStr_check3 12 = .ok (.invokestatic 95, 3) := xdc ddStr_check3 8 rfl
theorem dStr_check3_15 : decode cStr_check3 15 = .ok (.athrow, 1) := xdc ddStr_check3 9 rfl
theorem dStr_check3_16 : decode cStr_check3 16 = .ok (.iload_n 0, 1) := xdc ddStr_check3 10 rfl
theorem dStr_check3_17 : decode cStr_check3 17 = .ok (.ireturn, 1) := xdc ddStr_check3 11 rfl
abbrev cStr_check2 : ByteArray := prog_26_method_155_code
theorem ddStr_check2 : xdec cStr_check2 [(0, (.iload_n 0, 1)), (1, (.iload_n 1, 1)), (2, (.getstatic 1053, 3)), (5, (.invokestatic 1059, 3)), (8, (.pop, 1)), (9, (.return_, 1))] = true := by decide +kernel
theorem dStr_check2_0 : decode cStr_check2 0 = .ok (.iload_n 0, 1) := xdc ddStr_check2 0 rfl
theorem dStr_check2_1 : decode cStr_check2 1 = .ok (.iload_n 1, 1) := xdc ddStr_check2 1 rfl
theorem dStr_check2_2 : decode cStr_check2 2 = .ok (.getstatic 1053, 3) := xdc ddStr_check2 2 rfl
theorem dStr_check2_5 : decode cStr_check2 5 = .ok (.invokestatic 1059, 3) := xdc ddStr_check2 3 rfl
theorem dStr_check2_8 : decode cStr_check2 8 = .ok (.pop, 1) := xdc ddStr_check2 4 rfl
theorem dStr_check2_9 : decode cStr_check2 9 = .ok (.return_, 1) := xdc ddStr_check2 5 rfl
abbrev cStr_latCharAt : ByteArray := prog_29_method_2_code
theorem ddStr_latCharAt : xdec cStr_latCharAt [(0, (.iload_n 1, 1)), (1, (.aload_n 0, 1)), (2, (.arraylength, 1)), (3, (.invokestatic 9, 3)), (6, (.aload_n 0, 1)), (7, (.iload_n 1, 1)), (8, (.baload, 1)), (9, (.sipush 255, 3)), (12, (.iand, 1)), (13, (.i2c, 1)), (14, (.ireturn, 1))] = true := by decide +kernel
theorem dStr_latCharAt_0 : decode cStr_latCharAt 0 = .ok (.iload_n 1, 1) := xdc ddStr_latCharAt 0 rfl
theorem dStr_latCharAt_1 : decode cStr_latCharAt 1 = .ok (.aload_n 0, 1) := xdc ddStr_latCharAt 1 rfl
theorem dStr_latCharAt_2 : decode cStr_latCharAt 2 = .ok (.arraylength, 1) := xdc ddStr_latCharAt 2 rfl
theorem dStr_latCharAt_3 : decode cStr_latCharAt 3 = .ok (.invokestatic 9, 3) := xdc ddStr_latCharAt 3 rfl
theorem dStr_latCharAt_6 : decode cStr_latCharAt 6 = .ok (.aload_n 0, 1) := xdc ddStr_latCharAt 4 rfl
theorem dStr_latCharAt_7 : decode cStr_latCharAt 7 = .ok (.iload_n 1, 1) := xdc ddStr_latCharAt 5 rfl
theorem dStr_latCharAt_8 : decode cStr_latCharAt 8 = .ok (.baload, 1) := xdc ddStr_latCharAt 6 rfl
theorem dStr_latCharAt_9 : decode cStr_latCharAt 9 = .ok (.sipush 255, 3) := xdc ddStr_latCharAt 7 rfl
theorem dStr_latCharAt_12 : decode cStr_latCharAt 12 = .ok (.iand, 1) := xdc ddStr_latCharAt 8 rfl
theorem dStr_latCharAt_13 : decode cStr_latCharAt 13 = .ok (.i2c, 1) := xdc ddStr_latCharAt 9 rfl
theorem dStr_latCharAt_14 : decode cStr_latCharAt 14 = .ok (.ireturn, 1) := xdc ddStr_latCharAt 10 rfl
abbrev cStr_charAt : ByteArray := prog_26_method_56_code
theorem ddStr_charAt : xdec cStr_charAt [(0, (.aload_n 0, 1)), (1, (.invokevirtual 492, 3)), (4, (.ifCond .eq 12, 3)), (7, (.aload_n 0, 1)), (8, (.getfield 9, 3)), (11, (.iload_n 1, 1)), (12, (.invokestatic 495, 3)), (15, (.ireturn, 1)), (16, (.aload_n 0, 1)), (17, (.getfield 9, 3)), (20, (.iload_n 1, 1)), (21, (.invokestatic 498, 3)), (24, (.ireturn, 1))] = true := by decide +kernel
theorem dStr_charAt_0 : decode cStr_charAt 0 = .ok (.aload_n 0, 1) := xdc ddStr_charAt 0 rfl
theorem dStr_charAt_1 : decode cStr_charAt 1 = .ok (.invokevirtual 492, 3) := xdc ddStr_charAt 1 rfl
theorem dStr_charAt_4 : decode cStr_charAt 4 = .ok (.ifCond .eq 12, 3) := xdc ddStr_charAt 2 rfl
theorem dStr_charAt_7 : decode cStr_charAt 7 = .ok (.aload_n 0, 1) := xdc ddStr_charAt 3 rfl
theorem dStr_charAt_8 : decode cStr_charAt 8 = .ok (.getfield 9, 3) := xdc ddStr_charAt 4 rfl
theorem dStr_charAt_11 : decode cStr_charAt 11 = .ok (.iload_n 1, 1) := xdc ddStr_charAt 5 rfl
theorem dStr_charAt_12 : decode cStr_charAt 12 = .ok (.invokestatic 495, 3) := xdc ddStr_charAt 6 rfl
theorem dStr_charAt_15 : decode cStr_charAt 15 = .ok (.ireturn, 1) := xdc ddStr_charAt 7 rfl
theorem dStr_charAt_16 : decode cStr_charAt 16 = .ok (.aload_n 0, 1) := xdc ddStr_charAt 8 rfl
theorem dStr_charAt_17 : decode cStr_charAt 17 = .ok (.getfield 9, 3) := xdc ddStr_charAt 9 rfl
theorem dStr_charAt_20 : decode cStr_charAt 20 = .ok (.iload_n 1, 1) := xdc ddStr_charAt 10 rfl
theorem dStr_charAt_21 : decode cStr_charAt 21 = .ok (.invokestatic 498, 3) := xdc ddStr_charAt 11 rfl
theorem dStr_charAt_24 : decode cStr_charAt 24 = .ok (.ireturn, 1) := xdc ddStr_charAt 12 rfl
