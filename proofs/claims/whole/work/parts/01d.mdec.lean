/-! the instructions of the reference, decoded -/
def xdec (c : ByteArray) (l : List (Nat × (Instr × Nat))) : Bool := l.all (fun q => decide (decode c q.1 = .ok q.2))
theorem xdc {c : ByteArray} {l : List (Nat × (Instr × Nat))} (h : xdec c l = true) {pc : Nat} {q : Instr × Nat} (i : Nat) (hi : l[i]? = some (pc, q)) : decode c pc = .ok q := of_decide_eq_true (List.all_eq_true.mp h (pc, q) (List.mem_of_getElem? hi))
abbrev cX12_thrown : ByteArray := prog_14_method_2_code
theorem ddX12_thrown_0 : xdec cX12_thrown [(0, (.aload_n 0, 1)), (1, (.getfield 53, 3)), (4, (.ireturn, 1))] = true := by decide +kernel
theorem dX12_thrown_0 : decode cX12_thrown 0 = .ok (.aload_n 0, 1) := xdc ddX12_thrown_0 0 rfl
theorem dX12_thrown_1 : decode cX12_thrown 1 = .ok (.getfield 53, 3) := xdc ddX12_thrown_0 1 rfl
theorem dX12_thrown_4 : decode cX12_thrown 4 = .ok (.ireturn, 1) := xdc ddX12_thrown_0 2 rfl
abbrev cX12_isIn : ByteArray := prog_14_method_3_code
theorem ddX12_isIn_0 : xdec cX12_isIn [(0, (.lload_n 0, 1)), (1, (.lload_n 2, 1)), (2, (.lcmp, 1)), (3, (.ifCond .lt 14, 3)), (6, (.lload_n 0, 1)), (7, (.lload 4, 2)), (9, (.lcmp, 1)), (10, (.ifCond .gt 7, 3)), (13, (.iconst 1, 1)), (14, (.goto 4, 3)), (17, (.iconst 0, 1)), (18, (.ireturn, 1))] = true := by decide +kernel
theorem dX12_isIn_0 : decode cX12_isIn 0 = .ok (.lload_n 0, 1) := xdc ddX12_isIn_0 0 rfl
theorem dX12_isIn_1 : decode cX12_isIn 1 = .ok (.lload_n 2, 1) := xdc ddX12_isIn_0 1 rfl
theorem dX12_isIn_2 : decode cX12_isIn 2 = .ok (.lcmp, 1) := xdc ddX12_isIn_0 2 rfl
theorem dX12_isIn_3 : decode cX12_isIn 3 = .ok (.ifCond .lt 14, 3) := xdc ddX12_isIn_0 3 rfl
theorem dX12_isIn_6 : decode cX12_isIn 6 = .ok (.lload_n 0, 1) := xdc ddX12_isIn_0 4 rfl
theorem dX12_isIn_7 : decode cX12_isIn 7 = .ok (.lload 4, 2) := xdc ddX12_isIn_0 5 rfl
theorem dX12_isIn_9 : decode cX12_isIn 9 = .ok (.lcmp, 1) := xdc ddX12_isIn_0 6 rfl
theorem dX12_isIn_10 : decode cX12_isIn 10 = .ok (.ifCond .gt 7, 3) := xdc ddX12_isIn_0 7 rfl
theorem dX12_isIn_13 : decode cX12_isIn 13 = .ok (.iconst 1, 1) := xdc ddX12_isIn_0 8 rfl
theorem dX12_isIn_14 : decode cX12_isIn 14 = .ok (.goto 4, 3) := xdc ddX12_isIn_0 9 rfl
theorem dX12_isIn_17 : decode cX12_isIn 17 = .ok (.iconst 0, 1) := xdc ddX12_isIn_0 10 rfl
theorem dX12_isIn_18 : decode cX12_isIn 18 = .ok (.ireturn, 1) := xdc ddX12_isIn_0 11 rfl
abbrev cX12_next : ByteArray := prog_14_method_4_code
theorem ddX12_next_0 : xdec cX12_next [(0, (.aload_n 0, 1)), (1, (.getfield 56, 3)), (4, (.aload_n 0, 1)), (5, (.getfield 59, 3)), (8, (.if_icmp .lt 10, 3)), (11, (.aload_n 0, 1)), (12, (.iconst 0, 1)), (13, (.putfield 62, 3)), (16, (.iconst 0, 1)), (17, (.ireturn, 1)), (18, (.aload_n 0, 1)), (19, (.dup, 1)), (20, (.getfield 56, 3)), (23, (.iconst 1, 1)), (24, (.iadd, 1)), (25, (.putfield 56, 3)), (28, (.aload_n 0, 1)), (29, (.getfield 7, 3)), (32, (.aload_n 0, 1)), (33, (.getfield 56, 3)), (36, (.iconst 1, 1)), (37, (.isub, 1)), (38, (.iaload, 1)), (39, (.ireturn, 1))] = true := by decide +kernel
theorem dX12_next_0 : decode cX12_next 0 = .ok (.aload_n 0, 1) := xdc ddX12_next_0 0 rfl
theorem dX12_next_1 : decode cX12_next 1 = .ok (.getfield 56, 3) := xdc ddX12_next_0 1 rfl
theorem dX12_next_4 : decode cX12_next 4 = .ok (.aload_n 0, 1) := xdc ddX12_next_0 2 rfl
theorem dX12_next_5 : decode cX12_next 5 = .ok (.getfield 59, 3) := xdc ddX12_next_0 3 rfl
theorem dX12_next_8 : decode cX12_next 8 = .ok (.if_icmp .lt 10, 3) := xdc ddX12_next_0 4 rfl
theorem dX12_next_11 : decode cX12_next 11 = .ok (.aload_n 0, 1) := xdc ddX12_next_0 5 rfl
theorem dX12_next_12 : decode cX12_next 12 = .ok (.iconst 0, 1) := xdc ddX12_next_0 6 rfl
theorem dX12_next_13 : decode cX12_next 13 = .ok (.putfield 62, 3) := xdc ddX12_next_0 7 rfl
theorem dX12_next_16 : decode cX12_next 16 = .ok (.iconst 0, 1) := xdc ddX12_next_0 8 rfl
theorem dX12_next_17 : decode cX12_next 17 = .ok (.ireturn, 1) := xdc ddX12_next_0 9 rfl
theorem dX12_next_18 : decode cX12_next 18 = .ok (.aload_n 0, 1) := xdc ddX12_next_0 10 rfl
theorem dX12_next_19 : decode cX12_next 19 = .ok (.dup, 1) := xdc ddX12_next_0 11 rfl
theorem dX12_next_20 : decode cX12_next 20 = .ok (.getfield 56, 3) := xdc ddX12_next_0 12 rfl
theorem dX12_next_23 : decode cX12_next 23 = .ok (.iconst 1, 1) := xdc ddX12_next_0 13 rfl
theorem dX12_next_24 : decode cX12_next 24 = .ok (.iadd, 1) := xdc ddX12_next_0 14 rfl
theorem dX12_next_25 : decode cX12_next 25 = .ok (.putfield 56, 3) := xdc ddX12_next_0 15 rfl
theorem dX12_next_28 : decode cX12_next 28 = .ok (.aload_n 0, 1) := xdc ddX12_next_0 16 rfl
theorem dX12_next_29 : decode cX12_next 29 = .ok (.getfield 7, 3) := xdc ddX12_next_0 17 rfl
theorem dX12_next_32 : decode cX12_next 32 = .ok (.aload_n 0, 1) := xdc ddX12_next_0 18 rfl
theorem dX12_next_33 : decode cX12_next 33 = .ok (.getfield 56, 3) := xdc ddX12_next_0 19 rfl
theorem dX12_next_36 : decode cX12_next 36 = .ok (.iconst 1, 1) := xdc ddX12_next_0 20 rfl
theorem dX12_next_37 : decode cX12_next 37 = .ok (.isub, 1) := xdc ddX12_next_0 21 rfl
theorem dX12_next_38 : decode cX12_next 38 = .ok (.iaload, 1) := xdc ddX12_next_0 22 rfl
theorem dX12_next_39 : decode cX12_next 39 = .ok (.ireturn, 1) := xdc ddX12_next_0 23 rfl
abbrev cX12_signedByte : ByteArray := prog_14_method_5_code
theorem ddX12_signedByte_0 : xdec cX12_signedByte [(0, (.aload_n 0, 1)), (1, (.invokevirtual 66, 3)), (4, (.i2b, 1)), (5, (.ireturn, 1))] = true := by decide +kernel
theorem dX12_signedByte_0 : decode cX12_signedByte 0 = .ok (.aload_n 0, 1) := xdc ddX12_signedByte_0 0 rfl
theorem dX12_signedByte_1 : decode cX12_signedByte 1 = .ok (.invokevirtual 66, 3) := xdc ddX12_signedByte_0 1 rfl
theorem dX12_signedByte_4 : decode cX12_signedByte 4 = .ok (.i2b, 1) := xdc ddX12_signedByte_0 2 rfl
theorem dX12_signedByte_5 : decode cX12_signedByte 5 = .ok (.ireturn, 1) := xdc ddX12_signedByte_0 3 rfl
abbrev cX12_nextLong : ByteArray := prog_14_method_6_code
theorem ddX12_nextLong_0 : xdec cX12_nextLong [(0, (.aload_n 0, 1)), (1, (.invokevirtual 66, 3)), (4, (.istore_n 1, 1)), (5, (.iload_n 1, 1)), (6, (.aload_n 0, 1)), (7, (.invokevirtual 66, 3)), (10, (.bipush 8, 2)), (12, (.ishl, 1)), (13, (.ior, 1)), (14, (.istore_n 1, 1)), (15, (.iload_n 1, 1)), (16, (.aload_n 0, 1)), (17, (.invokevirtual 66, 3)), (20, (.bipush 16, 2)), (22, (.ishl, 1)), (23, (.ior, 1)), (24, (.istore_n 1, 1)), (25, (.iload_n 1, 1)), (26, (.aload_n 0, 1)), (27, (.invokevirtual 66, 3)), (30, (.bipush 24, 2)), (32, (.ishl, 1)), (33, (.ior, 1)), (34, (.ireturn, 1))] = true := by decide +kernel
theorem dX12_nextLong_0 : decode cX12_nextLong 0 = .ok (.aload_n 0, 1) := xdc ddX12_nextLong_0 0 rfl
theorem dX12_nextLong_1 : decode cX12_nextLong 1 = .ok (.invokevirtual 66, 3) := xdc ddX12_nextLong_0 1 rfl
theorem dX12_nextLong_4 : decode cX12_nextLong 4 = .ok (.istore_n 1, 1) := xdc ddX12_nextLong_0 2 rfl
theorem dX12_nextLong_5 : decode cX12_nextLong 5 = .ok (.iload_n 1, 1) := xdc ddX12_nextLong_0 3 rfl
theorem dX12_nextLong_6 : decode cX12_nextLong 6 = .ok (.aload_n 0, 1) := xdc ddX12_nextLong_0 4 rfl
theorem dX12_nextLong_7 : decode cX12_nextLong 7 = .ok (.invokevirtual 66, 3) := xdc ddX12_nextLong_0 5 rfl
theorem dX12_nextLong_10 : decode cX12_nextLong 10 = .ok (.bipush 8, 2) := xdc ddX12_nextLong_0 6 rfl
theorem dX12_nextLong_12 : decode cX12_nextLong 12 = .ok (.ishl, 1) := xdc ddX12_nextLong_0 7 rfl
theorem dX12_nextLong_13 : decode cX12_nextLong 13 = .ok (.ior, 1) := xdc ddX12_nextLong_0 8 rfl
theorem dX12_nextLong_14 : decode cX12_nextLong 14 = .ok (.istore_n 1, 1) := xdc ddX12_nextLong_0 9 rfl
theorem dX12_nextLong_15 : decode cX12_nextLong 15 = .ok (.iload_n 1, 1) := xdc ddX12_nextLong_0 10 rfl
theorem dX12_nextLong_16 : decode cX12_nextLong 16 = .ok (.aload_n 0, 1) := xdc ddX12_nextLong_0 11 rfl
theorem dX12_nextLong_17 : decode cX12_nextLong 17 = .ok (.invokevirtual 66, 3) := xdc ddX12_nextLong_0 12 rfl
theorem dX12_nextLong_20 : decode cX12_nextLong 20 = .ok (.bipush 16, 2) := xdc ddX12_nextLong_0 13 rfl
theorem dX12_nextLong_22 : decode cX12_nextLong 22 = .ok (.ishl, 1) := xdc ddX12_nextLong_0 14 rfl
theorem dX12_nextLong_23 : decode cX12_nextLong 23 = .ok (.ior, 1) := xdc ddX12_nextLong_0 15 rfl
theorem dX12_nextLong_24 : decode cX12_nextLong 24 = .ok (.istore_n 1, 1) := xdc ddX12_nextLong_0 16 rfl
theorem dX12_nextLong_25 : decode cX12_nextLong 25 = .ok (.iload_n 1, 1) := xdc ddX12_nextLong_0 17 rfl
theorem dX12_nextLong_26 : decode cX12_nextLong 26 = .ok (.aload_n 0, 1) := xdc ddX12_nextLong_0 18 rfl
theorem dX12_nextLong_27 : decode cX12_nextLong 27 = .ok (.invokevirtual 66, 3) := xdc ddX12_nextLong_0 19 rfl
theorem dX12_nextLong_30 : decode cX12_nextLong 30 = .ok (.bipush 24, 2) := xdc ddX12_nextLong_0 20 rfl
theorem dX12_nextLong_32 : decode cX12_nextLong 32 = .ok (.ishl, 1) := xdc ddX12_nextLong_0 21 rfl
theorem dX12_nextLong_33 : decode cX12_nextLong 33 = .ok (.ior, 1) := xdc ddX12_nextLong_0 22 rfl
theorem dX12_nextLong_34 : decode cX12_nextLong 34 = .ok (.ireturn, 1) := xdc ddX12_nextLong_0 23 rfl
abbrev cX12_is : ByteArray := prog_14_method_7_code
theorem ddX12_is_0 : xdec cX12_is [(0, (.aload_n 0, 1)), (1, (.iload_n 1, 1)), (2, (.putfield 70, 3)), (5, (.aload_n 0, 1)), (6, (.iload_n 2, 1)), (7, (.putfield 73, 3)), (10, (.aload_n 0, 1)), (11, (.iload_n 3, 1)), (12, (.putfield 76, 3)), (15, (.aload_n 0, 1)), (16, (.iload_n 3, 1)), (17, (.putfield 79, 3)), (20, (.return_, 1))] = true := by decide +kernel
theorem dX12_is_0 : decode cX12_is 0 = .ok (.aload_n 0, 1) := xdc ddX12_is_0 0 rfl
theorem dX12_is_1 : decode cX12_is 1 = .ok (.iload_n 1, 1) := xdc ddX12_is_0 1 rfl
theorem dX12_is_2 : decode cX12_is 2 = .ok (.putfield 70, 3) := xdc ddX12_is_0 2 rfl
theorem dX12_is_5 : decode cX12_is 5 = .ok (.aload_n 0, 1) := xdc ddX12_is_0 3 rfl
theorem dX12_is_6 : decode cX12_is 6 = .ok (.iload_n 2, 1) := xdc ddX12_is_0 4 rfl
theorem dX12_is_7 : decode cX12_is 7 = .ok (.putfield 73, 3) := xdc ddX12_is_0 5 rfl
theorem dX12_is_10 : decode cX12_is 10 = .ok (.aload_n 0, 1) := xdc ddX12_is_0 6 rfl
theorem dX12_is_11 : decode cX12_is 11 = .ok (.iload_n 3, 1) := xdc ddX12_is_0 7 rfl
theorem dX12_is_12 : decode cX12_is 12 = .ok (.putfield 76, 3) := xdc ddX12_is_0 8 rfl
theorem dX12_is_15 : decode cX12_is 15 = .ok (.aload_n 0, 1) := xdc ddX12_is_0 9 rfl
theorem dX12_is_16 : decode cX12_is 16 = .ok (.iload_n 3, 1) := xdc ddX12_is_0 10 rfl
theorem dX12_is_17 : decode cX12_is 17 = .ok (.putfield 79, 3) := xdc ddX12_is_0 11 rfl
theorem dX12_is_20 : decode cX12_is 20 = .ok (.return_, 1) := xdc ddX12_is_0 12 rfl
abbrev cX12_operand : ByteArray := prog_14_method_8_code
theorem ddX12_operand_0 : xdec cX12_operand [(0, (.aload_n 0, 1)), (1, (.invokevirtual 66, 3)), (4, (.istore_n 1, 1)), (5, (.aload_n 0, 1)), (6, (.iload_n 1, 1)), (7, (.bipush 6, 2)), (9, (.ishr, 1)), (10, (.putfield 82, 3)), (13, (.aload_n 0, 1)), (14, (.iload_n 1, 1)), (15, (.iconst 3, 1)), (16, (.ishr, 1)), (17, (.bipush 7, 2)), (19, (.iand, 1)), (20, (.putfield 85, 3)), (23, (.aload_n 0, 1)), (24, (.iload_n 1, 1)), (25, (.bipush 7, 2)), (27, (.iand, 1)), (28, (.putfield 88, 3)), (31, (.aload_n 0, 1)), (32, (.iconst (-1), 1)), (33, (.putfield 91, 3)), (36, (.aload_n 0, 1)), (37, (.iconst (-1), 1)), (38, (.putfield 94, 3)), (41, (.aload_n 0, 1)), (42, (.iconst 1, 1)), (43, (.putfield 97, 3)), (46, (.aload_n 0, 1)), (47, (.iconst 0, 1)), (48, (.putfield 100, 3)), (51, (.aload_n 0, 1)), (52, (.getfield 82, 3)), (55, (.iconst 3, 1)), (56, (.if_icmp .ne 4, 3)), (59, (.return_, 1)), (60, (.aload_n 0, 1)), (61, (.aload_n 0, 1)), (62, (.getfield 88, 3))] = true := by decide +kernel
theorem dX12_operand_0 : decode cX12_operand 0 = .ok (.aload_n 0, 1) := xdc ddX12_operand_0 0 rfl
theorem dX12_operand_1 : decode cX12_operand 1 = .ok (.invokevirtual 66, 3) := xdc ddX12_operand_0 1 rfl
theorem dX12_operand_4 : decode cX12_operand 4 = .ok (.istore_n 1, 1) := xdc ddX12_operand_0 2 rfl
theorem dX12_operand_5 : decode cX12_operand 5 = .ok (.aload_n 0, 1) := xdc ddX12_operand_0 3 rfl
theorem dX12_operand_6 : decode cX12_operand 6 = .ok (.iload_n 1, 1) := xdc ddX12_operand_0 4 rfl
theorem dX12_operand_7 : decode cX12_operand 7 = .ok (.bipush 6, 2) := xdc ddX12_operand_0 5 rfl
theorem dX12_operand_9 : decode cX12_operand 9 = .ok (.ishr, 1) := xdc ddX12_operand_0 6 rfl
theorem dX12_operand_10 : decode cX12_operand 10 = .ok (.putfield 82, 3) := xdc ddX12_operand_0 7 rfl
theorem dX12_operand_13 : decode cX12_operand 13 = .ok (.aload_n 0, 1) := xdc ddX12_operand_0 8 rfl
theorem dX12_operand_14 : decode cX12_operand 14 = .ok (.iload_n 1, 1) := xdc ddX12_operand_0 9 rfl
theorem dX12_operand_15 : decode cX12_operand 15 = .ok (.iconst 3, 1) := xdc ddX12_operand_0 10 rfl
theorem dX12_operand_16 : decode cX12_operand 16 = .ok (.ishr, 1) := xdc ddX12_operand_0 11 rfl
theorem dX12_operand_17 : decode cX12_operand 17 = .ok (.bipush 7, 2) := xdc ddX12_operand_0 12 rfl
theorem dX12_operand_19 : decode cX12_operand 19 = .ok (.iand, 1) := xdc ddX12_operand_0 13 rfl
theorem dX12_operand_20 : decode cX12_operand 20 = .ok (.putfield 85, 3) := xdc ddX12_operand_0 14 rfl
theorem dX12_operand_23 : decode cX12_operand 23 = .ok (.aload_n 0, 1) := xdc ddX12_operand_0 15 rfl
theorem dX12_operand_24 : decode cX12_operand 24 = .ok (.iload_n 1, 1) := xdc ddX12_operand_0 16 rfl
theorem dX12_operand_25 : decode cX12_operand 25 = .ok (.bipush 7, 2) := xdc ddX12_operand_0 17 rfl
theorem dX12_operand_27 : decode cX12_operand 27 = .ok (.iand, 1) := xdc ddX12_operand_0 18 rfl
theorem dX12_operand_28 : decode cX12_operand 28 = .ok (.putfield 88, 3) := xdc ddX12_operand_0 19 rfl
theorem dX12_operand_31 : decode cX12_operand 31 = .ok (.aload_n 0, 1) := xdc ddX12_operand_0 20 rfl
theorem dX12_operand_32 : decode cX12_operand 32 = .ok (.iconst (-1), 1) := xdc ddX12_operand_0 21 rfl
theorem dX12_operand_33 : decode cX12_operand 33 = .ok (.putfield 91, 3) := xdc ddX12_operand_0 22 rfl
theorem dX12_operand_36 : decode cX12_operand 36 = .ok (.aload_n 0, 1) := xdc ddX12_operand_0 23 rfl
theorem dX12_operand_37 : decode cX12_operand 37 = .ok (.iconst (-1), 1) := xdc ddX12_operand_0 24 rfl
theorem dX12_operand_38 : decode cX12_operand 38 = .ok (.putfield 94, 3) := xdc ddX12_operand_0 25 rfl
theorem dX12_operand_41 : decode cX12_operand 41 = .ok (.aload_n 0, 1) := xdc ddX12_operand_0 26 rfl
theorem dX12_operand_42 : decode cX12_operand 42 = .ok (.iconst 1, 1) := xdc ddX12_operand_0 27 rfl
theorem dX12_operand_43 : decode cX12_operand 43 = .ok (.putfield 97, 3) := xdc ddX12_operand_0 28 rfl
theorem dX12_operand_46 : decode cX12_operand 46 = .ok (.aload_n 0, 1) := xdc ddX12_operand_0 29 rfl
theorem dX12_operand_47 : decode cX12_operand 47 = .ok (.iconst 0, 1) := xdc ddX12_operand_0 30 rfl
theorem dX12_operand_48 : decode cX12_operand 48 = .ok (.putfield 100, 3) := xdc ddX12_operand_0 31 rfl
theorem dX12_operand_51 : decode cX12_operand 51 = .ok (.aload_n 0, 1) := xdc ddX12_operand_0 32 rfl
theorem dX12_operand_52 : decode cX12_operand 52 = .ok (.getfield 82, 3) := xdc ddX12_operand_0 33 rfl
theorem dX12_operand_55 : decode cX12_operand 55 = .ok (.iconst 3, 1) := xdc ddX12_operand_0 34 rfl
theorem dX12_operand_56 : decode cX12_operand 56 = .ok (.if_icmp .ne 4, 3) := xdc ddX12_operand_0 35 rfl
theorem dX12_operand_59 : decode cX12_operand 59 = .ok (.return_, 1) := xdc ddX12_operand_0 36 rfl
theorem dX12_operand_60 : decode cX12_operand 60 = .ok (.aload_n 0, 1) := xdc ddX12_operand_0 37 rfl
theorem dX12_operand_61 : decode cX12_operand 61 = .ok (.aload_n 0, 1) := xdc ddX12_operand_0 38 rfl
theorem dX12_operand_62 : decode cX12_operand 62 = .ok (.getfield 88, 3) := xdc ddX12_operand_0 39 rfl
theorem ddX12_operand_1 : xdec cX12_operand [(65, (.putfield 91, 3)), (68, (.aload_n 0, 1)), (69, (.getfield 88, 3)), (72, (.iconst 4, 1)), (73, (.if_icmp .ne 50, 3)), (76, (.aload_n 0, 1)), (77, (.invokevirtual 66, 3)), (80, (.istore_n 2, 1)), (81, (.aload_n 0, 1)), (82, (.iload_n 2, 1)), (83, (.iconst 3, 1)), (84, (.ishr, 1)), (85, (.bipush 7, 2)), (87, (.iand, 1)), (88, (.iconst 4, 1)), (89, (.if_icmp .ne 7, 3)), (92, (.iconst (-1), 1)), (93, (.goto 9, 3)), (96, (.iload_n 2, 1)), (97, (.iconst 3, 1)), (98, (.ishr, 1)), (99, (.bipush 7, 2)), (101, (.iand, 1)), (102, (.putfield 94, 3)), (105, (.aload_n 0, 1)), (106, (.iconst 1, 1)), (107, (.iload_n 2, 1)), (108, (.bipush 6, 2)), (110, (.ishr, 1)), (111, (.ishl, 1)), (112, (.putfield 97, 3)), (115, (.aload_n 0, 1)), (116, (.iload_n 2, 1)), (117, (.bipush 7, 2)), (119, (.iand, 1)), (120, (.putfield 91, 3)), (123, (.aload_n 0, 1)), (124, (.getfield 82, 3)), (127, (.ifCond .ne 27, 3)), (130, (.aload_n 0, 1))] = true := by decide +kernel
theorem dX12_operand_65 : decode cX12_operand 65 = .ok (.putfield 91, 3) := xdc ddX12_operand_1 0 rfl
theorem dX12_operand_68 : decode cX12_operand 68 = .ok (.aload_n 0, 1) := xdc ddX12_operand_1 1 rfl
theorem dX12_operand_69 : decode cX12_operand 69 = .ok (.getfield 88, 3) := xdc ddX12_operand_1 2 rfl
theorem dX12_operand_72 : decode cX12_operand 72 = .ok (.iconst 4, 1) := xdc ddX12_operand_1 3 rfl
theorem dX12_operand_73 : decode cX12_operand 73 = .ok (.if_icmp .ne 50, 3) := xdc ddX12_operand_1 4 rfl
theorem dX12_operand_76 : decode cX12_operand 76 = .ok (.aload_n 0, 1) := xdc ddX12_operand_1 5 rfl
theorem dX12_operand_77 : decode cX12_operand 77 = .ok (.invokevirtual 66, 3) := xdc ddX12_operand_1 6 rfl
theorem dX12_operand_80 : decode cX12_operand 80 = .ok (.istore_n 2, 1) := xdc ddX12_operand_1 7 rfl
theorem dX12_operand_81 : decode cX12_operand 81 = .ok (.aload_n 0, 1) := xdc ddX12_operand_1 8 rfl
theorem dX12_operand_82 : decode cX12_operand 82 = .ok (.iload_n 2, 1) := xdc ddX12_operand_1 9 rfl
theorem dX12_operand_83 : decode cX12_operand 83 = .ok (.iconst 3, 1) := xdc ddX12_operand_1 10 rfl
theorem dX12_operand_84 : decode cX12_operand 84 = .ok (.ishr, 1) := xdc ddX12_operand_1 11 rfl
theorem dX12_operand_85 : decode cX12_operand 85 = .ok (.bipush 7, 2) := xdc ddX12_operand_1 12 rfl
theorem dX12_operand_87 : decode cX12_operand 87 = .ok (.iand, 1) := xdc ddX12_operand_1 13 rfl
theorem dX12_operand_88 : decode cX12_operand 88 = .ok (.iconst 4, 1) := xdc ddX12_operand_1 14 rfl
theorem dX12_operand_89 : decode cX12_operand 89 = .ok (.if_icmp .ne 7, 3) := xdc ddX12_operand_1 15 rfl
theorem dX12_operand_92 : decode cX12_operand 92 = .ok (.iconst (-1), 1) := xdc ddX12_operand_1 16 rfl
theorem dX12_operand_93 : decode cX12_operand 93 = .ok (.goto 9, 3) := xdc ddX12_operand_1 17 rfl
theorem dX12_operand_96 : decode cX12_operand 96 = .ok (.iload_n 2, 1) := xdc ddX12_operand_1 18 rfl
theorem dX12_operand_97 : decode cX12_operand 97 = .ok (.iconst 3, 1) := xdc ddX12_operand_1 19 rfl
theorem dX12_operand_98 : decode cX12_operand 98 = .ok (.ishr, 1) := xdc ddX12_operand_1 20 rfl
theorem dX12_operand_99 : decode cX12_operand 99 = .ok (.bipush 7, 2) := xdc ddX12_operand_1 21 rfl
theorem dX12_operand_101 : decode cX12_operand 101 = .ok (.iand, 1) := xdc ddX12_operand_1 22 rfl
theorem dX12_operand_102 : decode cX12_operand 102 = .ok (.putfield 94, 3) := xdc ddX12_operand_1 23 rfl
theorem dX12_operand_105 : decode cX12_operand 105 = .ok (.aload_n 0, 1) := xdc ddX12_operand_1 24 rfl
theorem dX12_operand_106 : decode cX12_operand 106 = .ok (.iconst 1, 1) := xdc ddX12_operand_1 25 rfl
theorem dX12_operand_107 : decode cX12_operand 107 = .ok (.iload_n 2, 1) := xdc ddX12_operand_1 26 rfl
theorem dX12_operand_108 : decode cX12_operand 108 = .ok (.bipush 6, 2) := xdc ddX12_operand_1 27 rfl
theorem dX12_operand_110 : decode cX12_operand 110 = .ok (.ishr, 1) := xdc ddX12_operand_1 28 rfl
theorem dX12_operand_111 : decode cX12_operand 111 = .ok (.ishl, 1) := xdc ddX12_operand_1 29 rfl
theorem dX12_operand_112 : decode cX12_operand 112 = .ok (.putfield 97, 3) := xdc ddX12_operand_1 30 rfl
theorem dX12_operand_115 : decode cX12_operand 115 = .ok (.aload_n 0, 1) := xdc ddX12_operand_1 31 rfl
theorem dX12_operand_116 : decode cX12_operand 116 = .ok (.iload_n 2, 1) := xdc ddX12_operand_1 32 rfl
theorem dX12_operand_117 : decode cX12_operand 117 = .ok (.bipush 7, 2) := xdc ddX12_operand_1 33 rfl
theorem dX12_operand_119 : decode cX12_operand 119 = .ok (.iand, 1) := xdc ddX12_operand_1 34 rfl
theorem dX12_operand_120 : decode cX12_operand 120 = .ok (.putfield 91, 3) := xdc ddX12_operand_1 35 rfl
theorem dX12_operand_123 : decode cX12_operand 123 = .ok (.aload_n 0, 1) := xdc ddX12_operand_1 36 rfl
theorem dX12_operand_124 : decode cX12_operand 124 = .ok (.getfield 82, 3) := xdc ddX12_operand_1 37 rfl
theorem dX12_operand_127 : decode cX12_operand 127 = .ok (.ifCond .ne 27, 3) := xdc ddX12_operand_1 38 rfl
theorem dX12_operand_130 : decode cX12_operand 130 = .ok (.aload_n 0, 1) := xdc ddX12_operand_1 39 rfl
theorem ddX12_operand_2 : xdec cX12_operand [(131, (.getfield 91, 3)), (134, (.iconst 5, 1)), (135, (.if_icmp .ne 19, 3)), (138, (.aload_n 0, 1)), (139, (.iconst (-1), 1)), (140, (.putfield 91, 3)), (143, (.aload_n 0, 1)), (144, (.aload_n 0, 1)), (145, (.invokevirtual 103, 3)), (148, (.putfield 100, 3)), (151, (.goto 38, 3)), (154, (.aload_n 0, 1)), (155, (.getfield 82, 3)), (158, (.iconst 1, 1)), (159, (.if_icmp .ne 14, 3)), (162, (.aload_n 0, 1)), (163, (.aload_n 0, 1)), (164, (.invokevirtual 106, 3)), (167, (.putfield 100, 3)), (170, (.goto 19, 3)), (173, (.aload_n 0, 1)), (174, (.getfield 82, 3)), (177, (.iconst 2, 1)), (178, (.if_icmp .ne 11, 3)), (181, (.aload_n 0, 1)), (182, (.aload_n 0, 1)), (183, (.invokevirtual 103, 3)), (186, (.putfield 100, 3)), (189, (.return_, 1))] = true := by decide +kernel
theorem dX12_operand_131 : decode cX12_operand 131 = .ok (.getfield 91, 3) := xdc ddX12_operand_2 0 rfl
theorem dX12_operand_134 : decode cX12_operand 134 = .ok (.iconst 5, 1) := xdc ddX12_operand_2 1 rfl
theorem dX12_operand_135 : decode cX12_operand 135 = .ok (.if_icmp .ne 19, 3) := xdc ddX12_operand_2 2 rfl
theorem dX12_operand_138 : decode cX12_operand 138 = .ok (.aload_n 0, 1) := xdc ddX12_operand_2 3 rfl
theorem dX12_operand_139 : decode cX12_operand 139 = .ok (.iconst (-1), 1) := xdc ddX12_operand_2 4 rfl
theorem dX12_operand_140 : decode cX12_operand 140 = .ok (.putfield 91, 3) := xdc ddX12_operand_2 5 rfl
theorem dX12_operand_143 : decode cX12_operand 143 = .ok (.aload_n 0, 1) := xdc ddX12_operand_2 6 rfl
theorem dX12_operand_144 : decode cX12_operand 144 = .ok (.aload_n 0, 1) := xdc ddX12_operand_2 7 rfl
theorem dX12_operand_145 : decode cX12_operand 145 = .ok (.invokevirtual 103, 3) := xdc ddX12_operand_2 8 rfl
theorem dX12_operand_148 : decode cX12_operand 148 = .ok (.putfield 100, 3) := xdc ddX12_operand_2 9 rfl
theorem dX12_operand_151 : decode cX12_operand 151 = .ok (.goto 38, 3) := xdc ddX12_operand_2 10 rfl
theorem dX12_operand_154 : decode cX12_operand 154 = .ok (.aload_n 0, 1) := xdc ddX12_operand_2 11 rfl
theorem dX12_operand_155 : decode cX12_operand 155 = .ok (.getfield 82, 3) := xdc ddX12_operand_2 12 rfl
theorem dX12_operand_158 : decode cX12_operand 158 = .ok (.iconst 1, 1) := xdc ddX12_operand_2 13 rfl
theorem dX12_operand_159 : decode cX12_operand 159 = .ok (.if_icmp .ne 14, 3) := xdc ddX12_operand_2 14 rfl
theorem dX12_operand_162 : decode cX12_operand 162 = .ok (.aload_n 0, 1) := xdc ddX12_operand_2 15 rfl
theorem dX12_operand_163 : decode cX12_operand 163 = .ok (.aload_n 0, 1) := xdc ddX12_operand_2 16 rfl
theorem dX12_operand_164 : decode cX12_operand 164 = .ok (.invokevirtual 106, 3) := xdc ddX12_operand_2 17 rfl
theorem dX12_operand_167 : decode cX12_operand 167 = .ok (.putfield 100, 3) := xdc ddX12_operand_2 18 rfl
theorem dX12_operand_170 : decode cX12_operand 170 = .ok (.goto 19, 3) := xdc ddX12_operand_2 19 rfl
theorem dX12_operand_173 : decode cX12_operand 173 = .ok (.aload_n 0, 1) := xdc ddX12_operand_2 20 rfl
theorem dX12_operand_174 : decode cX12_operand 174 = .ok (.getfield 82, 3) := xdc ddX12_operand_2 21 rfl
theorem dX12_operand_177 : decode cX12_operand 177 = .ok (.iconst 2, 1) := xdc ddX12_operand_2 22 rfl
theorem dX12_operand_178 : decode cX12_operand 178 = .ok (.if_icmp .ne 11, 3) := xdc ddX12_operand_2 23 rfl
theorem dX12_operand_181 : decode cX12_operand 181 = .ok (.aload_n 0, 1) := xdc ddX12_operand_2 24 rfl
theorem dX12_operand_182 : decode cX12_operand 182 = .ok (.aload_n 0, 1) := xdc ddX12_operand_2 25 rfl
theorem dX12_operand_183 : decode cX12_operand 183 = .ok (.invokevirtual 103, 3) := xdc ddX12_operand_2 26 rfl
theorem dX12_operand_186 : decode cX12_operand 186 = .ok (.putfield 100, 3) := xdc ddX12_operand_2 27 rfl
theorem dX12_operand_189 : decode cX12_operand 189 = .ok (.return_, 1) := xdc ddX12_operand_2 28 rfl
abbrev cX12_number : ByteArray := prog_14_method_9_code
theorem ddX12_number_0 : xdec cX12_number [(0, (.iload_n 1, 1)), (1, (.iconst 1, 1)), (2, (.if_icmp .ne 14, 3)), (5, (.aload_n 0, 1)), (6, (.aload_n 0, 1)), (7, (.invokevirtual 106, 3)), (10, (.putfield 109, 3)), (13, (.goto 11, 3)), (16, (.aload_n 0, 1)), (17, (.aload_n 0, 1)), (18, (.invokevirtual 103, 3)), (21, (.putfield 109, 3)), (24, (.return_, 1))] = true := by decide +kernel
theorem dX12_number_0 : decode cX12_number 0 = .ok (.iload_n 1, 1) := xdc ddX12_number_0 0 rfl
theorem dX12_number_1 : decode cX12_number 1 = .ok (.iconst 1, 1) := xdc ddX12_number_0 1 rfl
theorem dX12_number_2 : decode cX12_number 2 = .ok (.if_icmp .ne 14, 3) := xdc ddX12_number_0 2 rfl
theorem dX12_number_5 : decode cX12_number 5 = .ok (.aload_n 0, 1) := xdc ddX12_number_0 3 rfl
theorem dX12_number_6 : decode cX12_number 6 = .ok (.aload_n 0, 1) := xdc ddX12_number_0 4 rfl
theorem dX12_number_7 : decode cX12_number 7 = .ok (.invokevirtual 106, 3) := xdc ddX12_number_0 5 rfl
theorem dX12_number_10 : decode cX12_number 10 = .ok (.putfield 109, 3) := xdc ddX12_number_0 6 rfl
theorem dX12_number_13 : decode cX12_number 13 = .ok (.goto 11, 3) := xdc ddX12_number_0 7 rfl
theorem dX12_number_16 : decode cX12_number 16 = .ok (.aload_n 0, 1) := xdc ddX12_number_0 8 rfl
theorem dX12_number_17 : decode cX12_number 17 = .ok (.aload_n 0, 1) := xdc ddX12_number_0 9 rfl
theorem dX12_number_18 : decode cX12_number 18 = .ok (.invokevirtual 103, 3) := xdc ddX12_number_0 10 rfl
theorem dX12_number_21 : decode cX12_number 21 = .ok (.putfield 109, 3) := xdc ddX12_number_0 11 rfl
theorem dX12_number_24 : decode cX12_number 24 = .ok (.return_, 1) := xdc ddX12_number_0 12 rfl
abbrev cX12_place : ByteArray := prog_14_method_10_code
theorem ddX12_place_0 : xdec cX12_place [(0, (.aload_n 0, 1)), (1, (.iload_n 1, 1)), (2, (.invokevirtual 112, 3)), (5, (.aload_n 0, 1)), (6, (.dup, 1)), (7, (.getfield 109, 3)), (10, (.sipush 4096, 3)), (13, (.aload_n 0, 1)), (14, (.getfield 56, 3)), (17, (.iadd, 1)), (18, (.iadd, 1)), (19, (.putfield 109, 3)), (22, (.return_, 1))] = true := by decide +kernel
theorem dX12_place_0 : decode cX12_place 0 = .ok (.aload_n 0, 1) := xdc ddX12_place_0 0 rfl
theorem dX12_place_1 : decode cX12_place 1 = .ok (.iload_n 1, 1) := xdc ddX12_place_0 1 rfl
theorem dX12_place_2 : decode cX12_place 2 = .ok (.invokevirtual 112, 3) := xdc ddX12_place_0 2 rfl
theorem dX12_place_5 : decode cX12_place 5 = .ok (.aload_n 0, 1) := xdc ddX12_place_0 3 rfl
theorem dX12_place_6 : decode cX12_place 6 = .ok (.dup, 1) := xdc ddX12_place_0 4 rfl
theorem dX12_place_7 : decode cX12_place 7 = .ok (.getfield 109, 3) := xdc ddX12_place_0 5 rfl
theorem dX12_place_10 : decode cX12_place 10 = .ok (.sipush 4096, 3) := xdc ddX12_place_0 6 rfl
theorem dX12_place_13 : decode cX12_place 13 = .ok (.aload_n 0, 1) := xdc ddX12_place_0 7 rfl
theorem dX12_place_14 : decode cX12_place 14 = .ok (.getfield 56, 3) := xdc ddX12_place_0 8 rfl
theorem dX12_place_17 : decode cX12_place 17 = .ok (.iadd, 1) := xdc ddX12_place_0 9 rfl
theorem dX12_place_18 : decode cX12_place 18 = .ok (.iadd, 1) := xdc ddX12_place_0 10 rfl
theorem dX12_place_19 : decode cX12_place 19 = .ok (.putfield 109, 3) := xdc ddX12_place_0 11 rfl
theorem dX12_place_22 : decode cX12_place 22 = .ok (.return_, 1) := xdc ddX12_place_0 12 rfl
abbrev cX12_digits : ByteArray := prog_14_method_11_code
theorem ddX12_digits_0 : xdec cX12_digits [(0, (.aload_n 0, 1)), (1, (.aload_n 0, 1)), (2, (.getfield 62, 3)), (5, (.ifCond .eq 11, 3)), (8, (.iload_n 1, 1)), (9, (.ifCond .eq 7, 3)), (12, (.iconst 1, 1)), (13, (.goto 4, 3)), (16, (.iconst 0, 1)), (17, (.putfield 62, 3)), (20, (.return_, 1))] = true := by decide +kernel
theorem dX12_digits_0 : decode cX12_digits 0 = .ok (.aload_n 0, 1) := xdc ddX12_digits_0 0 rfl
theorem dX12_digits_1 : decode cX12_digits 1 = .ok (.aload_n 0, 1) := xdc ddX12_digits_0 1 rfl
theorem dX12_digits_2 : decode cX12_digits 2 = .ok (.getfield 62, 3) := xdc ddX12_digits_0 2 rfl
theorem dX12_digits_5 : decode cX12_digits 5 = .ok (.ifCond .eq 11, 3) := xdc ddX12_digits_0 3 rfl
theorem dX12_digits_8 : decode cX12_digits 8 = .ok (.iload_n 1, 1) := xdc ddX12_digits_0 4 rfl
theorem dX12_digits_9 : decode cX12_digits 9 = .ok (.ifCond .eq 7, 3) := xdc ddX12_digits_0 5 rfl
theorem dX12_digits_12 : decode cX12_digits 12 = .ok (.iconst 1, 1) := xdc ddX12_digits_0 6 rfl
theorem dX12_digits_13 : decode cX12_digits 13 = .ok (.goto 4, 3) := xdc ddX12_digits_0 7 rfl
theorem dX12_digits_16 : decode cX12_digits 16 = .ok (.iconst 0, 1) := xdc ddX12_digits_0 8 rfl
theorem dX12_digits_17 : decode cX12_digits 17 = .ok (.putfield 62, 3) := xdc ddX12_digits_0 9 rfl
theorem dX12_digits_20 : decode cX12_digits 20 = .ok (.return_, 1) := xdc ddX12_digits_0 10 rfl
abbrev cX12_takeSecond : ByteArray := prog_14_method_14_code
theorem ddX12_takeSecond_0 : xdec cX12_takeSecond [(0, (.aload_n 0, 1)), (1, (.invokevirtual 66, 3)), (4, (.istore_n 1, 1)), (5, (.aload_n 0, 1)), (6, (.bipush 18, 2)), (8, (.iconst 5, 1)), (9, (.iconst 4, 1)), (10, (.invokevirtual 118, 3)), (13, (.aload_n 0, 1)), (14, (.iload_n 1, 1)), (15, (.bipush 15, 2)), (17, (.iand, 1)), (18, (.putfield 115, 3)), (21, (.iload_n 1, 1)), (22, (.bipush 31, 2)), (24, (.if_icmp .ne 26, 3)), (27, (.aload_n 0, 1)), (28, (.invokevirtual 122, 3)), (31, (.aload_n 0, 1)), (32, (.aload_n 0, 1)), (33, (.getfield 85, 3)), (36, (.ifCond .ne 7, 3)), (39, (.iconst 1, 1)), (40, (.goto 4, 3)), (43, (.iconst 0, 1)), (44, (.invokevirtual 141, 3)), (47, (.goto 336, 3)), (50, (.iload_n 1, 1)), (51, (.iconst 4, 1)), (52, (.ishr, 1)), (53, (.iconst 4, 1)), (54, (.if_icmp .ne 18, 3)), (57, (.aload_n 0, 1)), (58, (.bipush 44, 2)), (60, (.iconst 2, 1)), (61, (.iconst 4, 1)), (62, (.invokevirtual 118, 3)), (65, (.aload_n 0, 1)), (66, (.invokevirtual 122, 3)), (69, (.goto 314, 3))] = true := by decide +kernel
theorem dX12_takeSecond_0 : decode cX12_takeSecond 0 = .ok (.aload_n 0, 1) := xdc ddX12_takeSecond_0 0 rfl
theorem dX12_takeSecond_1 : decode cX12_takeSecond 1 = .ok (.invokevirtual 66, 3) := xdc ddX12_takeSecond_0 1 rfl
theorem dX12_takeSecond_4 : decode cX12_takeSecond 4 = .ok (.istore_n 1, 1) := xdc ddX12_takeSecond_0 2 rfl
theorem dX12_takeSecond_5 : decode cX12_takeSecond 5 = .ok (.aload_n 0, 1) := xdc ddX12_takeSecond_0 3 rfl
theorem dX12_takeSecond_6 : decode cX12_takeSecond 6 = .ok (.bipush 18, 2) := xdc ddX12_takeSecond_0 4 rfl
theorem dX12_takeSecond_8 : decode cX12_takeSecond 8 = .ok (.iconst 5, 1) := xdc ddX12_takeSecond_0 5 rfl
theorem dX12_takeSecond_9 : decode cX12_takeSecond 9 = .ok (.iconst 4, 1) := xdc ddX12_takeSecond_0 6 rfl
theorem dX12_takeSecond_10 : decode cX12_takeSecond 10 = .ok (.invokevirtual 118, 3) := xdc ddX12_takeSecond_0 7 rfl
theorem dX12_takeSecond_13 : decode cX12_takeSecond 13 = .ok (.aload_n 0, 1) := xdc ddX12_takeSecond_0 8 rfl
theorem dX12_takeSecond_14 : decode cX12_takeSecond 14 = .ok (.iload_n 1, 1) := xdc ddX12_takeSecond_0 9 rfl
theorem dX12_takeSecond_15 : decode cX12_takeSecond 15 = .ok (.bipush 15, 2) := xdc ddX12_takeSecond_0 10 rfl
theorem dX12_takeSecond_17 : decode cX12_takeSecond 17 = .ok (.iand, 1) := xdc ddX12_takeSecond_0 11 rfl
theorem dX12_takeSecond_18 : decode cX12_takeSecond 18 = .ok (.putfield 115, 3) := xdc ddX12_takeSecond_0 12 rfl
theorem dX12_takeSecond_21 : decode cX12_takeSecond 21 = .ok (.iload_n 1, 1) := xdc ddX12_takeSecond_0 13 rfl
theorem dX12_takeSecond_22 : decode cX12_takeSecond 22 = .ok (.bipush 31, 2) := xdc ddX12_takeSecond_0 14 rfl
theorem dX12_takeSecond_24 : decode cX12_takeSecond 24 = .ok (.if_icmp .ne 26, 3) := xdc ddX12_takeSecond_0 15 rfl
theorem dX12_takeSecond_27 : decode cX12_takeSecond 27 = .ok (.aload_n 0, 1) := xdc ddX12_takeSecond_0 16 rfl
theorem dX12_takeSecond_28 : decode cX12_takeSecond 28 = .ok (.invokevirtual 122, 3) := xdc ddX12_takeSecond_0 17 rfl
theorem dX12_takeSecond_31 : decode cX12_takeSecond 31 = .ok (.aload_n 0, 1) := xdc ddX12_takeSecond_0 18 rfl
theorem dX12_takeSecond_32 : decode cX12_takeSecond 32 = .ok (.aload_n 0, 1) := xdc ddX12_takeSecond_0 19 rfl
theorem dX12_takeSecond_33 : decode cX12_takeSecond 33 = .ok (.getfield 85, 3) := xdc ddX12_takeSecond_0 20 rfl
theorem dX12_takeSecond_36 : decode cX12_takeSecond 36 = .ok (.ifCond .ne 7, 3) := xdc ddX12_takeSecond_0 21 rfl
theorem dX12_takeSecond_39 : decode cX12_takeSecond 39 = .ok (.iconst 1, 1) := xdc ddX12_takeSecond_0 22 rfl
theorem dX12_takeSecond_40 : decode cX12_takeSecond 40 = .ok (.goto 4, 3) := xdc ddX12_takeSecond_0 23 rfl
theorem dX12_takeSecond_43 : decode cX12_takeSecond 43 = .ok (.iconst 0, 1) := xdc ddX12_takeSecond_0 24 rfl
theorem dX12_takeSecond_44 : decode cX12_takeSecond 44 = .ok (.invokevirtual 141, 3) := xdc ddX12_takeSecond_0 25 rfl
theorem dX12_takeSecond_47 : decode cX12_takeSecond 47 = .ok (.goto 336, 3) := xdc ddX12_takeSecond_0 26 rfl
theorem dX12_takeSecond_50 : decode cX12_takeSecond 50 = .ok (.iload_n 1, 1) := xdc ddX12_takeSecond_0 27 rfl
theorem dX12_takeSecond_51 : decode cX12_takeSecond 51 = .ok (.iconst 4, 1) := xdc ddX12_takeSecond_0 28 rfl
theorem dX12_takeSecond_52 : decode cX12_takeSecond 52 = .ok (.ishr, 1) := xdc ddX12_takeSecond_0 29 rfl
theorem dX12_takeSecond_53 : decode cX12_takeSecond 53 = .ok (.iconst 4, 1) := xdc ddX12_takeSecond_0 30 rfl
theorem dX12_takeSecond_54 : decode cX12_takeSecond 54 = .ok (.if_icmp .ne 18, 3) := xdc ddX12_takeSecond_0 31 rfl
theorem dX12_takeSecond_57 : decode cX12_takeSecond 57 = .ok (.aload_n 0, 1) := xdc ddX12_takeSecond_0 32 rfl
theorem dX12_takeSecond_58 : decode cX12_takeSecond 58 = .ok (.bipush 44, 2) := xdc ddX12_takeSecond_0 33 rfl
theorem dX12_takeSecond_60 : decode cX12_takeSecond 60 = .ok (.iconst 2, 1) := xdc ddX12_takeSecond_0 34 rfl
theorem dX12_takeSecond_61 : decode cX12_takeSecond 61 = .ok (.iconst 4, 1) := xdc ddX12_takeSecond_0 35 rfl
theorem dX12_takeSecond_62 : decode cX12_takeSecond 62 = .ok (.invokevirtual 118, 3) := xdc ddX12_takeSecond_0 36 rfl
theorem dX12_takeSecond_65 : decode cX12_takeSecond 65 = .ok (.aload_n 0, 1) := xdc ddX12_takeSecond_0 37 rfl
theorem dX12_takeSecond_66 : decode cX12_takeSecond 66 = .ok (.invokevirtual 122, 3) := xdc ddX12_takeSecond_0 38 rfl
theorem dX12_takeSecond_69 : decode cX12_takeSecond 69 = .ok (.goto 314, 3) := xdc ddX12_takeSecond_0 39 rfl
theorem ddX12_takeSecond_1 : xdec cX12_takeSecond [(72, (.iload_n 1, 1)), (73, (.iconst 4, 1)), (74, (.ishr, 1)), (75, (.bipush 8, 2)), (77, (.if_icmp .ne 20, 3)), (80, (.aload_n 0, 1)), (81, (.bipush 13, 2)), (83, (.bipush 8, 2)), (85, (.iconst 4, 1)), (86, (.invokevirtual 118, 3)), (89, (.aload_n 0, 1)), (90, (.iconst 4, 1)), (91, (.invokevirtual 125, 3)), (94, (.goto 289, 3)), (97, (.iload_n 1, 1)), (98, (.iconst 4, 1)), (99, (.ishr, 1)), (100, (.bipush 9, 2)), (102, (.if_icmp .ne 18, 3)), (105, (.aload_n 0, 1)), (106, (.bipush 45, 2)), (108, (.iconst 5, 1)), (109, (.iconst 1, 1)), (110, (.invokevirtual 118, 3)), (113, (.aload_n 0, 1)), (114, (.invokevirtual 122, 3)), (117, (.goto 266, 3)), (120, (.iload_n 1, 1)), (121, (.sipush 164, 3)), (124, (.if_icmp .eq 10, 3)), (127, (.iload_n 1, 1)), (128, (.sipush 172, 3)), (131, (.if_icmp .ne 36, 3)), (134, (.aload_n 0, 1)), (135, (.iload_n 1, 1)), (136, (.sipush 164, 3)), (139, (.if_icmp .ne 8, 3)), (142, (.bipush 46, 2)), (144, (.goto 5, 3)), (147, (.bipush 47, 2))] = true := by decide +kernel
theorem dX12_takeSecond_72 : decode cX12_takeSecond 72 = .ok (.iload_n 1, 1) := xdc ddX12_takeSecond_1 0 rfl
theorem dX12_takeSecond_73 : decode cX12_takeSecond 73 = .ok (.iconst 4, 1) := xdc ddX12_takeSecond_1 1 rfl
theorem dX12_takeSecond_74 : decode cX12_takeSecond 74 = .ok (.ishr, 1) := xdc ddX12_takeSecond_1 2 rfl
theorem dX12_takeSecond_75 : decode cX12_takeSecond 75 = .ok (.bipush 8, 2) := xdc ddX12_takeSecond_1 3 rfl
theorem dX12_takeSecond_77 : decode cX12_takeSecond 77 = .ok (.if_icmp .ne 20, 3) := xdc ddX12_takeSecond_1 4 rfl
theorem dX12_takeSecond_80 : decode cX12_takeSecond 80 = .ok (.aload_n 0, 1) := xdc ddX12_takeSecond_1 5 rfl
theorem dX12_takeSecond_81 : decode cX12_takeSecond 81 = .ok (.bipush 13, 2) := xdc ddX12_takeSecond_1 6 rfl
theorem dX12_takeSecond_83 : decode cX12_takeSecond 83 = .ok (.bipush 8, 2) := xdc ddX12_takeSecond_1 7 rfl
theorem dX12_takeSecond_85 : decode cX12_takeSecond 85 = .ok (.iconst 4, 1) := xdc ddX12_takeSecond_1 8 rfl
theorem dX12_takeSecond_86 : decode cX12_takeSecond 86 = .ok (.invokevirtual 118, 3) := xdc ddX12_takeSecond_1 9 rfl
theorem dX12_takeSecond_89 : decode cX12_takeSecond 89 = .ok (.aload_n 0, 1) := xdc ddX12_takeSecond_1 10 rfl
theorem dX12_takeSecond_90 : decode cX12_takeSecond 90 = .ok (.iconst 4, 1) := xdc ddX12_takeSecond_1 11 rfl
theorem dX12_takeSecond_91 : decode cX12_takeSecond 91 = .ok (.invokevirtual 125, 3) := xdc ddX12_takeSecond_1 12 rfl
theorem dX12_takeSecond_94 : decode cX12_takeSecond 94 = .ok (.goto 289, 3) := xdc ddX12_takeSecond_1 13 rfl
theorem dX12_takeSecond_97 : decode cX12_takeSecond 97 = .ok (.iload_n 1, 1) := xdc ddX12_takeSecond_1 14 rfl
theorem dX12_takeSecond_98 : decode cX12_takeSecond 98 = .ok (.iconst 4, 1) := xdc ddX12_takeSecond_1 15 rfl
theorem dX12_takeSecond_99 : decode cX12_takeSecond 99 = .ok (.ishr, 1) := xdc ddX12_takeSecond_1 16 rfl
theorem dX12_takeSecond_100 : decode cX12_takeSecond 100 = .ok (.bipush 9, 2) := xdc ddX12_takeSecond_1 17 rfl
theorem dX12_takeSecond_102 : decode cX12_takeSecond 102 = .ok (.if_icmp .ne 18, 3) := xdc ddX12_takeSecond_1 18 rfl
theorem dX12_takeSecond_105 : decode cX12_takeSecond 105 = .ok (.aload_n 0, 1) := xdc ddX12_takeSecond_1 19 rfl
theorem dX12_takeSecond_106 : decode cX12_takeSecond 106 = .ok (.bipush 45, 2) := xdc ddX12_takeSecond_1 20 rfl
theorem dX12_takeSecond_108 : decode cX12_takeSecond 108 = .ok (.iconst 5, 1) := xdc ddX12_takeSecond_1 21 rfl
theorem dX12_takeSecond_109 : decode cX12_takeSecond 109 = .ok (.iconst 1, 1) := xdc ddX12_takeSecond_1 22 rfl
theorem dX12_takeSecond_110 : decode cX12_takeSecond 110 = .ok (.invokevirtual 118, 3) := xdc ddX12_takeSecond_1 23 rfl
theorem dX12_takeSecond_113 : decode cX12_takeSecond 113 = .ok (.aload_n 0, 1) := xdc ddX12_takeSecond_1 24 rfl
theorem dX12_takeSecond_114 : decode cX12_takeSecond 114 = .ok (.invokevirtual 122, 3) := xdc ddX12_takeSecond_1 25 rfl
theorem dX12_takeSecond_117 : decode cX12_takeSecond 117 = .ok (.goto 266, 3) := xdc ddX12_takeSecond_1 26 rfl
theorem dX12_takeSecond_120 : decode cX12_takeSecond 120 = .ok (.iload_n 1, 1) := xdc ddX12_takeSecond_1 27 rfl
theorem dX12_takeSecond_121 : decode cX12_takeSecond 121 = .ok (.sipush 164, 3) := xdc ddX12_takeSecond_1 28 rfl
theorem dX12_takeSecond_124 : decode cX12_takeSecond 124 = .ok (.if_icmp .eq 10, 3) := xdc ddX12_takeSecond_1 29 rfl
theorem dX12_takeSecond_127 : decode cX12_takeSecond 127 = .ok (.iload_n 1, 1) := xdc ddX12_takeSecond_1 30 rfl
theorem dX12_takeSecond_128 : decode cX12_takeSecond 128 = .ok (.sipush 172, 3) := xdc ddX12_takeSecond_1 31 rfl
theorem dX12_takeSecond_131 : decode cX12_takeSecond 131 = .ok (.if_icmp .ne 36, 3) := xdc ddX12_takeSecond_1 32 rfl
theorem dX12_takeSecond_134 : decode cX12_takeSecond 134 = .ok (.aload_n 0, 1) := xdc ddX12_takeSecond_1 33 rfl
theorem dX12_takeSecond_135 : decode cX12_takeSecond 135 = .ok (.iload_n 1, 1) := xdc ddX12_takeSecond_1 34 rfl
theorem dX12_takeSecond_136 : decode cX12_takeSecond 136 = .ok (.sipush 164, 3) := xdc ddX12_takeSecond_1 35 rfl
theorem dX12_takeSecond_139 : decode cX12_takeSecond 139 = .ok (.if_icmp .ne 8, 3) := xdc ddX12_takeSecond_1 36 rfl
theorem dX12_takeSecond_142 : decode cX12_takeSecond 142 = .ok (.bipush 46, 2) := xdc ddX12_takeSecond_1 37 rfl
theorem dX12_takeSecond_144 : decode cX12_takeSecond 144 = .ok (.goto 5, 3) := xdc ddX12_takeSecond_1 38 rfl
theorem dX12_takeSecond_147 : decode cX12_takeSecond 147 = .ok (.bipush 47, 2) := xdc ddX12_takeSecond_1 39 rfl
theorem ddX12_takeSecond_2 : xdec cX12_takeSecond [(149, (.bipush 12, 2)), (151, (.iconst 4, 1)), (152, (.invokevirtual 118, 3)), (155, (.aload_n 0, 1)), (156, (.invokevirtual 122, 3)), (159, (.aload_n 0, 1)), (160, (.iconst 1, 1)), (161, (.invokevirtual 112, 3)), (164, (.goto 219, 3)), (167, (.iload_n 1, 1)), (168, (.sipush 200, 3)), (171, (.if_icmp .lt 30, 3)), (174, (.iload_n 1, 1)), (175, (.sipush 208, 3)), (178, (.if_icmp .ge 23, 3)), (181, (.aload_n 0, 1)), (182, (.bipush 54, 2)), (184, (.bipush 6, 2)), (186, (.iconst 4, 1)), (187, (.invokevirtual 118, 3)), (190, (.aload_n 0, 1)), (191, (.iload_n 1, 1)), (192, (.bipush 7, 2)), (194, (.iand, 1)), (195, (.putfield 88, 3)), (198, (.goto 185, 3)), (201, (.iload_n 1, 1)), (202, (.sipush 175, 3)), (205, (.if_icmp .ne 8, 3)), (208, (.bipush 12, 2)), (210, (.goto 90, 3)), (213, (.iload_n 1, 1)), (214, (.sipush 177, 3)), (217, (.if_icmp .ne 8, 3)), (220, (.bipush 48, 2)), (222, (.goto 78, 3)), (225, (.iload_n 1, 1)), (226, (.sipush 182, 3)), (229, (.if_icmp .eq 10, 3)), (232, (.iload_n 1, 1))] = true := by decide +kernel
theorem dX12_takeSecond_149 : decode cX12_takeSecond 149 = .ok (.bipush 12, 2) := xdc ddX12_takeSecond_2 0 rfl
theorem dX12_takeSecond_151 : decode cX12_takeSecond 151 = .ok (.iconst 4, 1) := xdc ddX12_takeSecond_2 1 rfl
theorem dX12_takeSecond_152 : decode cX12_takeSecond 152 = .ok (.invokevirtual 118, 3) := xdc ddX12_takeSecond_2 2 rfl
theorem dX12_takeSecond_155 : decode cX12_takeSecond 155 = .ok (.aload_n 0, 1) := xdc ddX12_takeSecond_2 3 rfl
theorem dX12_takeSecond_156 : decode cX12_takeSecond 156 = .ok (.invokevirtual 122, 3) := xdc ddX12_takeSecond_2 4 rfl
theorem dX12_takeSecond_159 : decode cX12_takeSecond 159 = .ok (.aload_n 0, 1) := xdc ddX12_takeSecond_2 5 rfl
theorem dX12_takeSecond_160 : decode cX12_takeSecond 160 = .ok (.iconst 1, 1) := xdc ddX12_takeSecond_2 6 rfl
theorem dX12_takeSecond_161 : decode cX12_takeSecond 161 = .ok (.invokevirtual 112, 3) := xdc ddX12_takeSecond_2 7 rfl
theorem dX12_takeSecond_164 : decode cX12_takeSecond 164 = .ok (.goto 219, 3) := xdc ddX12_takeSecond_2 8 rfl
theorem dX12_takeSecond_167 : decode cX12_takeSecond 167 = .ok (.iload_n 1, 1) := xdc ddX12_takeSecond_2 9 rfl
theorem dX12_takeSecond_168 : decode cX12_takeSecond 168 = .ok (.sipush 200, 3) := xdc ddX12_takeSecond_2 10 rfl
theorem dX12_takeSecond_171 : decode cX12_takeSecond 171 = .ok (.if_icmp .lt 30, 3) := xdc ddX12_takeSecond_2 11 rfl
theorem dX12_takeSecond_174 : decode cX12_takeSecond 174 = .ok (.iload_n 1, 1) := xdc ddX12_takeSecond_2 12 rfl
theorem dX12_takeSecond_175 : decode cX12_takeSecond 175 = .ok (.sipush 208, 3) := xdc ddX12_takeSecond_2 13 rfl
theorem dX12_takeSecond_178 : decode cX12_takeSecond 178 = .ok (.if_icmp .ge 23, 3) := xdc ddX12_takeSecond_2 14 rfl
theorem dX12_takeSecond_181 : decode cX12_takeSecond 181 = .ok (.aload_n 0, 1) := xdc ddX12_takeSecond_2 15 rfl
theorem dX12_takeSecond_182 : decode cX12_takeSecond 182 = .ok (.bipush 54, 2) := xdc ddX12_takeSecond_2 16 rfl
theorem dX12_takeSecond_184 : decode cX12_takeSecond 184 = .ok (.bipush 6, 2) := xdc ddX12_takeSecond_2 17 rfl
theorem dX12_takeSecond_186 : decode cX12_takeSecond 186 = .ok (.iconst 4, 1) := xdc ddX12_takeSecond_2 18 rfl
theorem dX12_takeSecond_187 : decode cX12_takeSecond 187 = .ok (.invokevirtual 118, 3) := xdc ddX12_takeSecond_2 19 rfl
theorem dX12_takeSecond_190 : decode cX12_takeSecond 190 = .ok (.aload_n 0, 1) := xdc ddX12_takeSecond_2 20 rfl
theorem dX12_takeSecond_191 : decode cX12_takeSecond 191 = .ok (.iload_n 1, 1) := xdc ddX12_takeSecond_2 21 rfl
theorem dX12_takeSecond_192 : decode cX12_takeSecond 192 = .ok (.bipush 7, 2) := xdc ddX12_takeSecond_2 22 rfl
theorem dX12_takeSecond_194 : decode cX12_takeSecond 194 = .ok (.iand, 1) := xdc ddX12_takeSecond_2 23 rfl
theorem dX12_takeSecond_195 : decode cX12_takeSecond 195 = .ok (.putfield 88, 3) := xdc ddX12_takeSecond_2 24 rfl
theorem dX12_takeSecond_198 : decode cX12_takeSecond 198 = .ok (.goto 185, 3) := xdc ddX12_takeSecond_2 25 rfl
theorem dX12_takeSecond_201 : decode cX12_takeSecond 201 = .ok (.iload_n 1, 1) := xdc ddX12_takeSecond_2 26 rfl
theorem dX12_takeSecond_202 : decode cX12_takeSecond 202 = .ok (.sipush 175, 3) := xdc ddX12_takeSecond_2 27 rfl
theorem dX12_takeSecond_205 : decode cX12_takeSecond 205 = .ok (.if_icmp .ne 8, 3) := xdc ddX12_takeSecond_2 28 rfl
theorem dX12_takeSecond_208 : decode cX12_takeSecond 208 = .ok (.bipush 12, 2) := xdc ddX12_takeSecond_2 29 rfl
theorem dX12_takeSecond_210 : decode cX12_takeSecond 210 = .ok (.goto 90, 3) := xdc ddX12_takeSecond_2 30 rfl
theorem dX12_takeSecond_213 : decode cX12_takeSecond 213 = .ok (.iload_n 1, 1) := xdc ddX12_takeSecond_2 31 rfl
theorem dX12_takeSecond_214 : decode cX12_takeSecond 214 = .ok (.sipush 177, 3) := xdc ddX12_takeSecond_2 32 rfl
theorem dX12_takeSecond_217 : decode cX12_takeSecond 217 = .ok (.if_icmp .ne 8, 3) := xdc ddX12_takeSecond_2 33 rfl
theorem dX12_takeSecond_220 : decode cX12_takeSecond 220 = .ok (.bipush 48, 2) := xdc ddX12_takeSecond_2 34 rfl
theorem dX12_takeSecond_222 : decode cX12_takeSecond 222 = .ok (.goto 78, 3) := xdc ddX12_takeSecond_2 35 rfl
theorem dX12_takeSecond_225 : decode cX12_takeSecond 225 = .ok (.iload_n 1, 1) := xdc ddX12_takeSecond_2 36 rfl
theorem dX12_takeSecond_226 : decode cX12_takeSecond 226 = .ok (.sipush 182, 3) := xdc ddX12_takeSecond_2 37 rfl
theorem dX12_takeSecond_229 : decode cX12_takeSecond 229 = .ok (.if_icmp .eq 10, 3) := xdc ddX12_takeSecond_2 38 rfl
theorem dX12_takeSecond_232 : decode cX12_takeSecond 232 = .ok (.iload_n 1, 1) := xdc ddX12_takeSecond_2 39 rfl
theorem ddX12_takeSecond_3 : xdec cX12_takeSecond [(233, (.sipush 183, 3)), (236, (.if_icmp .ne 8, 3)), (239, (.bipush 49, 2)), (241, (.goto 59, 3)), (244, (.iload_n 1, 1)), (245, (.sipush 188, 3)), (248, (.if_icmp .ne 8, 3)), (251, (.bipush 50, 2)), (253, (.goto 47, 3)), (256, (.iload_n 1, 1)), (257, (.sipush 189, 3)), (260, (.if_icmp .ne 8, 3)), (263, (.bipush 51, 2)), (265, (.goto 35, 3)), (268, (.iload_n 1, 1)), (269, (.sipush 190, 3)), (272, (.if_icmp .eq 10, 3)), (275, (.iload_n 1, 1)), (276, (.sipush 191, 3)), (279, (.if_icmp .ne 8, 3)), (282, (.bipush 52, 2)), (284, (.goto 16, 3)), (287, (.iload_n 1, 1)), (288, (.sipush 193, 3)), (291, (.if_icmp .ne 8, 3)), (294, (.bipush 53, 2)), (296, (.goto 4, 3)), (299, (.iconst (-1), 1)), (300, (.istore_n 2, 1)), (301, (.aload_n 0, 1)), (302, (.iload_n 2, 1)), (303, (.iconst (-1), 1)), (304, (.if_icmp .eq 7, 3)), (307, (.iconst 1, 1)), (308, (.goto 4, 3)), (311, (.iconst 0, 1)), (312, (.invokevirtual 141, 3)), (315, (.aload_n 0, 1)), (316, (.iload_n 2, 1)), (317, (.iload_n 2, 1))] = true := by decide +kernel
theorem dX12_takeSecond_233 : decode cX12_takeSecond 233 = .ok (.sipush 183, 3) := xdc ddX12_takeSecond_3 0 rfl
theorem dX12_takeSecond_236 : decode cX12_takeSecond 236 = .ok (.if_icmp .ne 8, 3) := xdc ddX12_takeSecond_3 1 rfl
theorem dX12_takeSecond_239 : decode cX12_takeSecond 239 = .ok (.bipush 49, 2) := xdc ddX12_takeSecond_3 2 rfl
theorem dX12_takeSecond_241 : decode cX12_takeSecond 241 = .ok (.goto 59, 3) := xdc ddX12_takeSecond_3 3 rfl
theorem dX12_takeSecond_244 : decode cX12_takeSecond 244 = .ok (.iload_n 1, 1) := xdc ddX12_takeSecond_3 4 rfl
theorem dX12_takeSecond_245 : decode cX12_takeSecond 245 = .ok (.sipush 188, 3) := xdc ddX12_takeSecond_3 5 rfl
theorem dX12_takeSecond_248 : decode cX12_takeSecond 248 = .ok (.if_icmp .ne 8, 3) := xdc ddX12_takeSecond_3 6 rfl
theorem dX12_takeSecond_251 : decode cX12_takeSecond 251 = .ok (.bipush 50, 2) := xdc ddX12_takeSecond_3 7 rfl
theorem dX12_takeSecond_253 : decode cX12_takeSecond 253 = .ok (.goto 47, 3) := xdc ddX12_takeSecond_3 8 rfl
theorem dX12_takeSecond_256 : decode cX12_takeSecond 256 = .ok (.iload_n 1, 1) := xdc ddX12_takeSecond_3 9 rfl
theorem dX12_takeSecond_257 : decode cX12_takeSecond 257 = .ok (.sipush 189, 3) := xdc ddX12_takeSecond_3 10 rfl
theorem dX12_takeSecond_260 : decode cX12_takeSecond 260 = .ok (.if_icmp .ne 8, 3) := xdc ddX12_takeSecond_3 11 rfl
theorem dX12_takeSecond_263 : decode cX12_takeSecond 263 = .ok (.bipush 51, 2) := xdc ddX12_takeSecond_3 12 rfl
theorem dX12_takeSecond_265 : decode cX12_takeSecond 265 = .ok (.goto 35, 3) := xdc ddX12_takeSecond_3 13 rfl
theorem dX12_takeSecond_268 : decode cX12_takeSecond 268 = .ok (.iload_n 1, 1) := xdc ddX12_takeSecond_3 14 rfl
theorem dX12_takeSecond_269 : decode cX12_takeSecond 269 = .ok (.sipush 190, 3) := xdc ddX12_takeSecond_3 15 rfl
theorem dX12_takeSecond_272 : decode cX12_takeSecond 272 = .ok (.if_icmp .eq 10, 3) := xdc ddX12_takeSecond_3 16 rfl
theorem dX12_takeSecond_275 : decode cX12_takeSecond 275 = .ok (.iload_n 1, 1) := xdc ddX12_takeSecond_3 17 rfl
theorem dX12_takeSecond_276 : decode cX12_takeSecond 276 = .ok (.sipush 191, 3) := xdc ddX12_takeSecond_3 18 rfl
theorem dX12_takeSecond_279 : decode cX12_takeSecond 279 = .ok (.if_icmp .ne 8, 3) := xdc ddX12_takeSecond_3 19 rfl
theorem dX12_takeSecond_282 : decode cX12_takeSecond 282 = .ok (.bipush 52, 2) := xdc ddX12_takeSecond_3 20 rfl
theorem dX12_takeSecond_284 : decode cX12_takeSecond 284 = .ok (.goto 16, 3) := xdc ddX12_takeSecond_3 21 rfl
theorem dX12_takeSecond_287 : decode cX12_takeSecond 287 = .ok (.iload_n 1, 1) := xdc ddX12_takeSecond_3 22 rfl
theorem dX12_takeSecond_288 : decode cX12_takeSecond 288 = .ok (.sipush 193, 3) := xdc ddX12_takeSecond_3 23 rfl
theorem dX12_takeSecond_291 : decode cX12_takeSecond 291 = .ok (.if_icmp .ne 8, 3) := xdc ddX12_takeSecond_3 24 rfl
theorem dX12_takeSecond_294 : decode cX12_takeSecond 294 = .ok (.bipush 53, 2) := xdc ddX12_takeSecond_3 25 rfl
theorem dX12_takeSecond_296 : decode cX12_takeSecond 296 = .ok (.goto 4, 3) := xdc ddX12_takeSecond_3 26 rfl
theorem dX12_takeSecond_299 : decode cX12_takeSecond 299 = .ok (.iconst (-1), 1) := xdc ddX12_takeSecond_3 27 rfl
theorem dX12_takeSecond_300 : decode cX12_takeSecond 300 = .ok (.istore_n 2, 1) := xdc ddX12_takeSecond_3 28 rfl
theorem dX12_takeSecond_301 : decode cX12_takeSecond 301 = .ok (.aload_n 0, 1) := xdc ddX12_takeSecond_3 29 rfl
theorem dX12_takeSecond_302 : decode cX12_takeSecond 302 = .ok (.iload_n 2, 1) := xdc ddX12_takeSecond_3 30 rfl
theorem dX12_takeSecond_303 : decode cX12_takeSecond 303 = .ok (.iconst (-1), 1) := xdc ddX12_takeSecond_3 31 rfl
theorem dX12_takeSecond_304 : decode cX12_takeSecond 304 = .ok (.if_icmp .eq 7, 3) := xdc ddX12_takeSecond_3 32 rfl
theorem dX12_takeSecond_307 : decode cX12_takeSecond 307 = .ok (.iconst 1, 1) := xdc ddX12_takeSecond_3 33 rfl
theorem dX12_takeSecond_308 : decode cX12_takeSecond 308 = .ok (.goto 4, 3) := xdc ddX12_takeSecond_3 34 rfl
theorem dX12_takeSecond_311 : decode cX12_takeSecond 311 = .ok (.iconst 0, 1) := xdc ddX12_takeSecond_3 35 rfl
theorem dX12_takeSecond_312 : decode cX12_takeSecond 312 = .ok (.invokevirtual 141, 3) := xdc ddX12_takeSecond_3 36 rfl
theorem dX12_takeSecond_315 : decode cX12_takeSecond 315 = .ok (.aload_n 0, 1) := xdc ddX12_takeSecond_3 37 rfl
theorem dX12_takeSecond_316 : decode cX12_takeSecond 316 = .ok (.iload_n 2, 1) := xdc ddX12_takeSecond_3 38 rfl
theorem dX12_takeSecond_317 : decode cX12_takeSecond 317 = .ok (.iload_n 2, 1) := xdc ddX12_takeSecond_3 39 rfl
theorem ddX12_takeSecond_4 : xdec cX12_takeSecond [(318, (.bipush 48, 2)), (320, (.if_icmp .eq 9, 3)), (323, (.iload_n 2, 1)), (324, (.bipush 53, 2)), (326, (.if_icmp .ne 7, 3)), (329, (.iconst 1, 1)), (330, (.goto 4, 3)), (333, (.iconst 2, 1)), (334, (.iconst 4, 1)), (335, (.invokevirtual 118, 3)), (338, (.aload_n 0, 1)), (339, (.iload_n 1, 1)), (340, (.sipush 182, 3)), (343, (.if_icmp .eq 10, 3)), (346, (.iload_n 1, 1)), (347, (.sipush 190, 3)), (350, (.if_icmp .ne 7, 3)), (353, (.iconst 1, 1)), (354, (.goto 22, 3)), (357, (.iload_n 1, 1)), (358, (.sipush 183, 3)), (361, (.if_icmp .eq 10, 3)), (364, (.iload_n 1, 1)), (365, (.sipush 191, 3)), (368, (.if_icmp .ne 7, 3)), (371, (.iconst 2, 1)), (372, (.goto 4, 3)), (375, (.iconst 4, 1)), (376, (.putfield 79, 3)), (379, (.aload_n 0, 1)), (380, (.invokevirtual 122, 3)), (383, (.return_, 1))] = true := by decide +kernel
theorem dX12_takeSecond_318 : decode cX12_takeSecond 318 = .ok (.bipush 48, 2) := xdc ddX12_takeSecond_4 0 rfl
theorem dX12_takeSecond_320 : decode cX12_takeSecond 320 = .ok (.if_icmp .eq 9, 3) := xdc ddX12_takeSecond_4 1 rfl
theorem dX12_takeSecond_323 : decode cX12_takeSecond 323 = .ok (.iload_n 2, 1) := xdc ddX12_takeSecond_4 2 rfl
theorem dX12_takeSecond_324 : decode cX12_takeSecond 324 = .ok (.bipush 53, 2) := xdc ddX12_takeSecond_4 3 rfl
theorem dX12_takeSecond_326 : decode cX12_takeSecond 326 = .ok (.if_icmp .ne 7, 3) := xdc ddX12_takeSecond_4 4 rfl
theorem dX12_takeSecond_329 : decode cX12_takeSecond 329 = .ok (.iconst 1, 1) := xdc ddX12_takeSecond_4 5 rfl
theorem dX12_takeSecond_330 : decode cX12_takeSecond 330 = .ok (.goto 4, 3) := xdc ddX12_takeSecond_4 6 rfl
theorem dX12_takeSecond_333 : decode cX12_takeSecond 333 = .ok (.iconst 2, 1) := xdc ddX12_takeSecond_4 7 rfl
theorem dX12_takeSecond_334 : decode cX12_takeSecond 334 = .ok (.iconst 4, 1) := xdc ddX12_takeSecond_4 8 rfl
theorem dX12_takeSecond_335 : decode cX12_takeSecond 335 = .ok (.invokevirtual 118, 3) := xdc ddX12_takeSecond_4 9 rfl
theorem dX12_takeSecond_338 : decode cX12_takeSecond 338 = .ok (.aload_n 0, 1) := xdc ddX12_takeSecond_4 10 rfl
theorem dX12_takeSecond_339 : decode cX12_takeSecond 339 = .ok (.iload_n 1, 1) := xdc ddX12_takeSecond_4 11 rfl
theorem dX12_takeSecond_340 : decode cX12_takeSecond 340 = .ok (.sipush 182, 3) := xdc ddX12_takeSecond_4 12 rfl
theorem dX12_takeSecond_343 : decode cX12_takeSecond 343 = .ok (.if_icmp .eq 10, 3) := xdc ddX12_takeSecond_4 13 rfl
theorem dX12_takeSecond_346 : decode cX12_takeSecond 346 = .ok (.iload_n 1, 1) := xdc ddX12_takeSecond_4 14 rfl
theorem dX12_takeSecond_347 : decode cX12_takeSecond 347 = .ok (.sipush 190, 3) := xdc ddX12_takeSecond_4 15 rfl
theorem dX12_takeSecond_350 : decode cX12_takeSecond 350 = .ok (.if_icmp .ne 7, 3) := xdc ddX12_takeSecond_4 16 rfl
theorem dX12_takeSecond_353 : decode cX12_takeSecond 353 = .ok (.iconst 1, 1) := xdc ddX12_takeSecond_4 17 rfl
theorem dX12_takeSecond_354 : decode cX12_takeSecond 354 = .ok (.goto 22, 3) := xdc ddX12_takeSecond_4 18 rfl
theorem dX12_takeSecond_357 : decode cX12_takeSecond 357 = .ok (.iload_n 1, 1) := xdc ddX12_takeSecond_4 19 rfl
theorem dX12_takeSecond_358 : decode cX12_takeSecond 358 = .ok (.sipush 183, 3) := xdc ddX12_takeSecond_4 20 rfl
theorem dX12_takeSecond_361 : decode cX12_takeSecond 361 = .ok (.if_icmp .eq 10, 3) := xdc ddX12_takeSecond_4 21 rfl
theorem dX12_takeSecond_364 : decode cX12_takeSecond 364 = .ok (.iload_n 1, 1) := xdc ddX12_takeSecond_4 22 rfl
theorem dX12_takeSecond_365 : decode cX12_takeSecond 365 = .ok (.sipush 191, 3) := xdc ddX12_takeSecond_4 23 rfl
theorem dX12_takeSecond_368 : decode cX12_takeSecond 368 = .ok (.if_icmp .ne 7, 3) := xdc ddX12_takeSecond_4 24 rfl
theorem dX12_takeSecond_371 : decode cX12_takeSecond 371 = .ok (.iconst 2, 1) := xdc ddX12_takeSecond_4 25 rfl
theorem dX12_takeSecond_372 : decode cX12_takeSecond 372 = .ok (.goto 4, 3) := xdc ddX12_takeSecond_4 26 rfl
theorem dX12_takeSecond_375 : decode cX12_takeSecond 375 = .ok (.iconst 4, 1) := xdc ddX12_takeSecond_4 27 rfl
theorem dX12_takeSecond_376 : decode cX12_takeSecond 376 = .ok (.putfield 79, 3) := xdc ddX12_takeSecond_4 28 rfl
theorem dX12_takeSecond_379 : decode cX12_takeSecond 379 = .ok (.aload_n 0, 1) := xdc ddX12_takeSecond_4 29 rfl
theorem dX12_takeSecond_380 : decode cX12_takeSecond 380 = .ok (.invokevirtual 122, 3) := xdc ddX12_takeSecond_4 30 rfl
theorem dX12_takeSecond_383 : decode cX12_takeSecond 383 = .ok (.return_, 1) := xdc ddX12_takeSecond_4 31 rfl
abbrev cX12_takeWord : ByteArray := prog_14_method_13_code
theorem ddX12_takeWord_0 : xdec cX12_takeWord [(0, (.aload_n 0, 1)), (1, (.invokevirtual 66, 3)), (4, (.istore_n 1, 1)), (5, (.iload_n 1, 1)), (6, (.sipush 144, 3)), (9, (.if_icmp .ne 14, 3)), (12, (.aload_n 0, 1)), (13, (.bipush 18, 2)), (15, (.iconst 0, 1)), (16, (.iconst 4, 1)), (17, (.invokevirtual 118, 3)), (20, (.goto 49, 3)), (23, (.aload_n 0, 1)), (24, (.iload_n 1, 1)), (25, (.sipush 137, 3)), (28, (.if_icmp .eq 10, 3)), (31, (.iload_n 1, 1)), (32, (.sipush 139, 3)), (35, (.if_icmp .ne 7, 3)), (38, (.iconst 1, 1)), (39, (.goto 4, 3)), (42, (.iconst 0, 1)), (43, (.invokevirtual 141, 3)), (46, (.aload_n 0, 1)), (47, (.bipush 16, 2)), (49, (.iload_n 1, 1)), (50, (.sipush 137, 3)), (53, (.if_icmp .ne 7, 3)), (56, (.iconst 1, 1)), (57, (.goto 4, 3)), (60, (.iconst 2, 1)), (61, (.iconst 2, 1)), (62, (.invokevirtual 118, 3)), (65, (.aload_n 0, 1)), (66, (.invokevirtual 122, 3)), (69, (.return_, 1))] = true := by decide +kernel
theorem dX12_takeWord_0 : decode cX12_takeWord 0 = .ok (.aload_n 0, 1) := xdc ddX12_takeWord_0 0 rfl
theorem dX12_takeWord_1 : decode cX12_takeWord 1 = .ok (.invokevirtual 66, 3) := xdc ddX12_takeWord_0 1 rfl
theorem dX12_takeWord_4 : decode cX12_takeWord 4 = .ok (.istore_n 1, 1) := xdc ddX12_takeWord_0 2 rfl
theorem dX12_takeWord_5 : decode cX12_takeWord 5 = .ok (.iload_n 1, 1) := xdc ddX12_takeWord_0 3 rfl
theorem dX12_takeWord_6 : decode cX12_takeWord 6 = .ok (.sipush 144, 3) := xdc ddX12_takeWord_0 4 rfl
theorem dX12_takeWord_9 : decode cX12_takeWord 9 = .ok (.if_icmp .ne 14, 3) := xdc ddX12_takeWord_0 5 rfl
theorem dX12_takeWord_12 : decode cX12_takeWord 12 = .ok (.aload_n 0, 1) := xdc ddX12_takeWord_0 6 rfl
theorem dX12_takeWord_13 : decode cX12_takeWord 13 = .ok (.bipush 18, 2) := xdc ddX12_takeWord_0 7 rfl
theorem dX12_takeWord_15 : decode cX12_takeWord 15 = .ok (.iconst 0, 1) := xdc ddX12_takeWord_0 8 rfl
theorem dX12_takeWord_16 : decode cX12_takeWord 16 = .ok (.iconst 4, 1) := xdc ddX12_takeWord_0 9 rfl
theorem dX12_takeWord_17 : decode cX12_takeWord 17 = .ok (.invokevirtual 118, 3) := xdc ddX12_takeWord_0 10 rfl
theorem dX12_takeWord_20 : decode cX12_takeWord 20 = .ok (.goto 49, 3) := xdc ddX12_takeWord_0 11 rfl
theorem dX12_takeWord_23 : decode cX12_takeWord 23 = .ok (.aload_n 0, 1) := xdc ddX12_takeWord_0 12 rfl
theorem dX12_takeWord_24 : decode cX12_takeWord 24 = .ok (.iload_n 1, 1) := xdc ddX12_takeWord_0 13 rfl
theorem dX12_takeWord_25 : decode cX12_takeWord 25 = .ok (.sipush 137, 3) := xdc ddX12_takeWord_0 14 rfl
theorem dX12_takeWord_28 : decode cX12_takeWord 28 = .ok (.if_icmp .eq 10, 3) := xdc ddX12_takeWord_0 15 rfl
theorem dX12_takeWord_31 : decode cX12_takeWord 31 = .ok (.iload_n 1, 1) := xdc ddX12_takeWord_0 16 rfl
theorem dX12_takeWord_32 : decode cX12_takeWord 32 = .ok (.sipush 139, 3) := xdc ddX12_takeWord_0 17 rfl
theorem dX12_takeWord_35 : decode cX12_takeWord 35 = .ok (.if_icmp .ne 7, 3) := xdc ddX12_takeWord_0 18 rfl
theorem dX12_takeWord_38 : decode cX12_takeWord 38 = .ok (.iconst 1, 1) := xdc ddX12_takeWord_0 19 rfl
theorem dX12_takeWord_39 : decode cX12_takeWord 39 = .ok (.goto 4, 3) := xdc ddX12_takeWord_0 20 rfl
theorem dX12_takeWord_42 : decode cX12_takeWord 42 = .ok (.iconst 0, 1) := xdc ddX12_takeWord_0 21 rfl
theorem dX12_takeWord_43 : decode cX12_takeWord 43 = .ok (.invokevirtual 141, 3) := xdc ddX12_takeWord_0 22 rfl
theorem dX12_takeWord_46 : decode cX12_takeWord 46 = .ok (.aload_n 0, 1) := xdc ddX12_takeWord_0 23 rfl
theorem dX12_takeWord_47 : decode cX12_takeWord 47 = .ok (.bipush 16, 2) := xdc ddX12_takeWord_0 24 rfl
theorem dX12_takeWord_49 : decode cX12_takeWord 49 = .ok (.iload_n 1, 1) := xdc ddX12_takeWord_0 25 rfl
theorem dX12_takeWord_50 : decode cX12_takeWord 50 = .ok (.sipush 137, 3) := xdc ddX12_takeWord_0 26 rfl
theorem dX12_takeWord_53 : decode cX12_takeWord 53 = .ok (.if_icmp .ne 7, 3) := xdc ddX12_takeWord_0 27 rfl
theorem dX12_takeWord_56 : decode cX12_takeWord 56 = .ok (.iconst 1, 1) := xdc ddX12_takeWord_0 28 rfl
theorem dX12_takeWord_57 : decode cX12_takeWord 57 = .ok (.goto 4, 3) := xdc ddX12_takeWord_0 29 rfl
theorem dX12_takeWord_60 : decode cX12_takeWord 60 = .ok (.iconst 2, 1) := xdc ddX12_takeWord_0 30 rfl
theorem dX12_takeWord_61 : decode cX12_takeWord 61 = .ok (.iconst 2, 1) := xdc ddX12_takeWord_0 31 rfl
theorem dX12_takeWord_62 : decode cX12_takeWord 62 = .ok (.invokevirtual 118, 3) := xdc ddX12_takeWord_0 32 rfl
theorem dX12_takeWord_65 : decode cX12_takeWord 65 = .ok (.aload_n 0, 1) := xdc ddX12_takeWord_0 33 rfl
theorem dX12_takeWord_66 : decode cX12_takeWord 66 = .ok (.invokevirtual 122, 3) := xdc ddX12_takeWord_0 34 rfl
theorem dX12_takeWord_69 : decode cX12_takeWord 69 = .ok (.return_, 1) := xdc ddX12_takeWord_0 35 rfl
abbrev cX12_takeOther : ByteArray := prog_14_method_15_code
theorem ddX12_takeOther_0 : xdec cX12_takeOther [(0, (.iload_n 1, 1)), (1, (.tableswitch 1338 104 255 #[623, 650, 623, 650, 1338, 1338, 1338, 1338, 1338, 1338, 1338, 1338, 1338, 1338, 1338, 1338, 1338, 1338, 1338, 1338, 1338, 1338, 1338, 1338, 681, 681, 1338, 681, 719, 719, 734, 734, 749, 749, 764, 764, 1338, 779, 1338, 811, 842, 1338, 1338, 1338, 1338, 1338, 1338, 1338, 853, 853, 1338, 1338, 1338, 1338, 1338, 1338, 1338, 1338, 1338, 1338, 1338, 1338, 1338, 1338, 876, 876, 1338, 1338, 1338, 1338, 1338, 1338, 1338, 1338, 1338, 1338, 1338, 1338, 1338, 1338, 1338, 1338, 1338, 1338, 1338, 1338, 1338, 1338, 892, 892, 1338, 1338, 1338, 1338, 985, 985, 1338, 1338, 1338, 1338, 1338, 1338, 1338, 1338, 892, 892, 892, 892, 1338, 1338, 1338, 1338, 1338, 1338, 1338, 1338, 1338, 1338, 1338, 1338, 1338, 1338, 1021, 1021, 1338, 1338, 1338, 1338, 1062, 1062, 1338, 1021, 1338, 1338, 1338, 1338, 1338, 1338, 1338, 1338, 1091, 1091, 1137, 1137, 1114, 1114, 1338, 1338, 1338, 1338, 1210, 1210], 623)), (624, (.aload_n 0, 1)), (625, (.bipush 10, 2)), (627, (.bipush 7, 2)), (629, (.iconst 4, 1)), (630, (.invokevirtual 118, 3)), (633, (.aload_n 0, 1)), (634, (.iload_n 1, 1)), (635, (.bipush 104, 2)), (637, (.if_icmp .ne 7, 3)), (640, (.iconst 4, 1)), (641, (.goto 4, 3)), (644, (.iconst 1, 1)), (645, (.invokevirtual 112, 3)), (648, (.goto 704, 3)), (651, (.aload_n 0, 1)), (652, (.bipush 12, 2)), (654, (.bipush 9, 2)), (656, (.iconst 4, 1)), (657, (.invokevirtual 118, 3)), (660, (.aload_n 0, 1)), (661, (.invokevirtual 122, 3)), (664, (.aload_n 0, 1)), (665, (.iload_n 1, 1)), (666, (.bipush 105, 2)), (668, (.if_icmp .ne 7, 3)), (671, (.iconst 4, 1)), (672, (.goto 4, 3)), (675, (.iconst 1, 1)), (676, (.invokevirtual 112, 3)), (679, (.goto 673, 3)), (682, (.aload_n 0, 1)), (683, (.iconst 0, 1)), (684, (.iconst 4, 1)), (685, (.iload_n 2, 1)), (686, (.invokevirtual 118, 3)), (689, (.aload_n 0, 1)), (690, (.invokevirtual 122, 3)), (693, (.aload_n 0, 1))] = true := by decide +kernel
theorem dX12_takeOther_0 : decode cX12_takeOther 0 = .ok (.iload_n 1, 1) := xdc ddX12_takeOther_0 0 rfl
theorem dX12_takeOther_1 : decode cX12_takeOther 1 = .ok (.tableswitch 1338 104 255 #[623, 650, 623, 650, 1338, 1338, 1338, 1338, 1338, 1338, 1338, 1338, 1338, 1338, 1338, 1338, 1338, 1338, 1338, 1338, 1338, 1338, 1338, 1338, 681, 681, 1338, 681, 719, 719, 734, 734, 749, 749, 764, 764, 1338, 779, 1338, 811, 842, 1338, 1338, 1338, 1338, 1338, 1338, 1338, 853, 853, 1338, 1338, 1338, 1338, 1338, 1338, 1338, 1338, 1338, 1338, 1338, 1338, 1338, 1338, 876, 876, 1338, 1338, 1338, 1338, 1338, 1338, 1338, 1338, 1338, 1338, 1338, 1338, 1338, 1338, 1338, 1338, 1338, 1338, 1338, 1338, 1338, 1338, 892, 892, 1338, 1338, 1338, 1338, 985, 985, 1338, 1338, 1338, 1338, 1338, 1338, 1338, 1338, 892, 892, 892, 892, 1338, 1338, 1338, 1338, 1338, 1338, 1338, 1338, 1338, 1338, 1338, 1338, 1338, 1338, 1021, 1021, 1338, 1338, 1338, 1338, 1062, 1062, 1338, 1021, 1338, 1338, 1338, 1338, 1338, 1338, 1338, 1338, 1091, 1091, 1137, 1137, 1114, 1114, 1338, 1338, 1338, 1338, 1210, 1210], 623) := xdc ddX12_takeOther_0 1 rfl
theorem dX12_takeOther_624 : decode cX12_takeOther 624 = .ok (.aload_n 0, 1) := xdc ddX12_takeOther_0 2 rfl
theorem dX12_takeOther_625 : decode cX12_takeOther 625 = .ok (.bipush 10, 2) := xdc ddX12_takeOther_0 3 rfl
theorem dX12_takeOther_627 : decode cX12_takeOther 627 = .ok (.bipush 7, 2) := xdc ddX12_takeOther_0 4 rfl
theorem dX12_takeOther_629 : decode cX12_takeOther 629 = .ok (.iconst 4, 1) := xdc ddX12_takeOther_0 5 rfl
theorem dX12_takeOther_630 : decode cX12_takeOther 630 = .ok (.invokevirtual 118, 3) := xdc ddX12_takeOther_0 6 rfl
theorem dX12_takeOther_633 : decode cX12_takeOther 633 = .ok (.aload_n 0, 1) := xdc ddX12_takeOther_0 7 rfl
theorem dX12_takeOther_634 : decode cX12_takeOther 634 = .ok (.iload_n 1, 1) := xdc ddX12_takeOther_0 8 rfl
theorem dX12_takeOther_635 : decode cX12_takeOther 635 = .ok (.bipush 104, 2) := xdc ddX12_takeOther_0 9 rfl
theorem dX12_takeOther_637 : decode cX12_takeOther 637 = .ok (.if_icmp .ne 7, 3) := xdc ddX12_takeOther_0 10 rfl
theorem dX12_takeOther_640 : decode cX12_takeOther 640 = .ok (.iconst 4, 1) := xdc ddX12_takeOther_0 11 rfl
theorem dX12_takeOther_641 : decode cX12_takeOther 641 = .ok (.goto 4, 3) := xdc ddX12_takeOther_0 12 rfl
theorem dX12_takeOther_644 : decode cX12_takeOther 644 = .ok (.iconst 1, 1) := xdc ddX12_takeOther_0 13 rfl
theorem dX12_takeOther_645 : decode cX12_takeOther 645 = .ok (.invokevirtual 112, 3) := xdc ddX12_takeOther_0 14 rfl
theorem dX12_takeOther_648 : decode cX12_takeOther 648 = .ok (.goto 704, 3) := xdc ddX12_takeOther_0 15 rfl
theorem dX12_takeOther_651 : decode cX12_takeOther 651 = .ok (.aload_n 0, 1) := xdc ddX12_takeOther_0 16 rfl
theorem dX12_takeOther_652 : decode cX12_takeOther 652 = .ok (.bipush 12, 2) := xdc ddX12_takeOther_0 17 rfl
theorem dX12_takeOther_654 : decode cX12_takeOther 654 = .ok (.bipush 9, 2) := xdc ddX12_takeOther_0 18 rfl
theorem dX12_takeOther_656 : decode cX12_takeOther 656 = .ok (.iconst 4, 1) := xdc ddX12_takeOther_0 19 rfl
theorem dX12_takeOther_657 : decode cX12_takeOther 657 = .ok (.invokevirtual 118, 3) := xdc ddX12_takeOther_0 20 rfl
theorem dX12_takeOther_660 : decode cX12_takeOther 660 = .ok (.aload_n 0, 1) := xdc ddX12_takeOther_0 21 rfl
theorem dX12_takeOther_661 : decode cX12_takeOther 661 = .ok (.invokevirtual 122, 3) := xdc ddX12_takeOther_0 22 rfl
theorem dX12_takeOther_664 : decode cX12_takeOther 664 = .ok (.aload_n 0, 1) := xdc ddX12_takeOther_0 23 rfl
theorem dX12_takeOther_665 : decode cX12_takeOther 665 = .ok (.iload_n 1, 1) := xdc ddX12_takeOther_0 24 rfl
theorem dX12_takeOther_666 : decode cX12_takeOther 666 = .ok (.bipush 105, 2) := xdc ddX12_takeOther_0 25 rfl
theorem dX12_takeOther_668 : decode cX12_takeOther 668 = .ok (.if_icmp .ne 7, 3) := xdc ddX12_takeOther_0 26 rfl
theorem dX12_takeOther_671 : decode cX12_takeOther 671 = .ok (.iconst 4, 1) := xdc ddX12_takeOther_0 27 rfl
theorem dX12_takeOther_672 : decode cX12_takeOther 672 = .ok (.goto 4, 3) := xdc ddX12_takeOther_0 28 rfl
theorem dX12_takeOther_675 : decode cX12_takeOther 675 = .ok (.iconst 1, 1) := xdc ddX12_takeOther_0 29 rfl
theorem dX12_takeOther_676 : decode cX12_takeOther 676 = .ok (.invokevirtual 112, 3) := xdc ddX12_takeOther_0 30 rfl
theorem dX12_takeOther_679 : decode cX12_takeOther 679 = .ok (.goto 673, 3) := xdc ddX12_takeOther_0 31 rfl
theorem dX12_takeOther_682 : decode cX12_takeOther 682 = .ok (.aload_n 0, 1) := xdc ddX12_takeOther_0 32 rfl
theorem dX12_takeOther_683 : decode cX12_takeOther 683 = .ok (.iconst 0, 1) := xdc ddX12_takeOther_0 33 rfl
theorem dX12_takeOther_684 : decode cX12_takeOther 684 = .ok (.iconst 4, 1) := xdc ddX12_takeOther_0 34 rfl
theorem dX12_takeOther_685 : decode cX12_takeOther 685 = .ok (.iload_n 2, 1) := xdc ddX12_takeOther_0 35 rfl
theorem dX12_takeOther_686 : decode cX12_takeOther 686 = .ok (.invokevirtual 118, 3) := xdc ddX12_takeOther_0 36 rfl
theorem dX12_takeOther_689 : decode cX12_takeOther 689 = .ok (.aload_n 0, 1) := xdc ddX12_takeOther_0 37 rfl
theorem dX12_takeOther_690 : decode cX12_takeOther 690 = .ok (.invokevirtual 122, 3) := xdc ddX12_takeOther_0 38 rfl
theorem dX12_takeOther_693 : decode cX12_takeOther 693 = .ok (.aload_n 0, 1) := xdc ddX12_takeOther_0 39 rfl
theorem ddX12_takeOther_1 : xdec cX12_takeOther [(694, (.aload_n 0, 1)), (695, (.getfield 85, 3)), (698, (.putfield 70, 3)), (701, (.aload_n 0, 1)), (702, (.iload_n 1, 1)), (703, (.sipush 129, 3)), (706, (.if_icmp .ne 7, 3)), (709, (.iconst 4, 1)), (710, (.goto 4, 3)), (713, (.iconst 1, 1)), (714, (.invokevirtual 112, 3)), (717, (.goto 635, 3)), (720, (.aload_n 0, 1)), (721, (.bipush 14, 2)), (723, (.iconst 1, 1)), (724, (.iload_n 2, 1)), (725, (.invokevirtual 118, 3)), (728, (.aload_n 0, 1)), (729, (.invokevirtual 122, 3)), (732, (.goto 620, 3)), (735, (.aload_n 0, 1)), (736, (.bipush 15, 2)), (738, (.iconst 1, 1)), (739, (.iload_n 2, 1)), (740, (.invokevirtual 118, 3)), (743, (.aload_n 0, 1)), (744, (.invokevirtual 122, 3)), (747, (.goto 605, 3)), (750, (.aload_n 0, 1)), (751, (.bipush 16, 2)), (753, (.iconst 1, 1)), (754, (.iload_n 2, 1)), (755, (.invokevirtual 118, 3)), (758, (.aload_n 0, 1)), (759, (.invokevirtual 122, 3)), (762, (.goto 590, 3)), (765, (.aload_n 0, 1)), (766, (.bipush 16, 2)), (768, (.iconst 2, 1)), (769, (.iload_n 2, 1))] = true := by decide +kernel
theorem dX12_takeOther_694 : decode cX12_takeOther 694 = .ok (.aload_n 0, 1) := xdc ddX12_takeOther_1 0 rfl
theorem dX12_takeOther_695 : decode cX12_takeOther 695 = .ok (.getfield 85, 3) := xdc ddX12_takeOther_1 1 rfl
theorem dX12_takeOther_698 : decode cX12_takeOther 698 = .ok (.putfield 70, 3) := xdc ddX12_takeOther_1 2 rfl
theorem dX12_takeOther_701 : decode cX12_takeOther 701 = .ok (.aload_n 0, 1) := xdc ddX12_takeOther_1 3 rfl
theorem dX12_takeOther_702 : decode cX12_takeOther 702 = .ok (.iload_n 1, 1) := xdc ddX12_takeOther_1 4 rfl
theorem dX12_takeOther_703 : decode cX12_takeOther 703 = .ok (.sipush 129, 3) := xdc ddX12_takeOther_1 5 rfl
theorem dX12_takeOther_706 : decode cX12_takeOther 706 = .ok (.if_icmp .ne 7, 3) := xdc ddX12_takeOther_1 6 rfl
theorem dX12_takeOther_709 : decode cX12_takeOther 709 = .ok (.iconst 4, 1) := xdc ddX12_takeOther_1 7 rfl
theorem dX12_takeOther_710 : decode cX12_takeOther 710 = .ok (.goto 4, 3) := xdc ddX12_takeOther_1 8 rfl
theorem dX12_takeOther_713 : decode cX12_takeOther 713 = .ok (.iconst 1, 1) := xdc ddX12_takeOther_1 9 rfl
theorem dX12_takeOther_714 : decode cX12_takeOther 714 = .ok (.invokevirtual 112, 3) := xdc ddX12_takeOther_1 10 rfl
theorem dX12_takeOther_717 : decode cX12_takeOther 717 = .ok (.goto 635, 3) := xdc ddX12_takeOther_1 11 rfl
theorem dX12_takeOther_720 : decode cX12_takeOther 720 = .ok (.aload_n 0, 1) := xdc ddX12_takeOther_1 12 rfl
theorem dX12_takeOther_721 : decode cX12_takeOther 721 = .ok (.bipush 14, 2) := xdc ddX12_takeOther_1 13 rfl
theorem dX12_takeOther_723 : decode cX12_takeOther 723 = .ok (.iconst 1, 1) := xdc ddX12_takeOther_1 14 rfl
theorem dX12_takeOther_724 : decode cX12_takeOther 724 = .ok (.iload_n 2, 1) := xdc ddX12_takeOther_1 15 rfl
theorem dX12_takeOther_725 : decode cX12_takeOther 725 = .ok (.invokevirtual 118, 3) := xdc ddX12_takeOther_1 16 rfl
theorem dX12_takeOther_728 : decode cX12_takeOther 728 = .ok (.aload_n 0, 1) := xdc ddX12_takeOther_1 17 rfl
theorem dX12_takeOther_729 : decode cX12_takeOther 729 = .ok (.invokevirtual 122, 3) := xdc ddX12_takeOther_1 18 rfl
theorem dX12_takeOther_732 : decode cX12_takeOther 732 = .ok (.goto 620, 3) := xdc ddX12_takeOther_1 19 rfl
theorem dX12_takeOther_735 : decode cX12_takeOther 735 = .ok (.aload_n 0, 1) := xdc ddX12_takeOther_1 20 rfl
theorem dX12_takeOther_736 : decode cX12_takeOther 736 = .ok (.bipush 15, 2) := xdc ddX12_takeOther_1 21 rfl
theorem dX12_takeOther_738 : decode cX12_takeOther 738 = .ok (.iconst 1, 1) := xdc ddX12_takeOther_1 22 rfl
theorem dX12_takeOther_739 : decode cX12_takeOther 739 = .ok (.iload_n 2, 1) := xdc ddX12_takeOther_1 23 rfl
theorem dX12_takeOther_740 : decode cX12_takeOther 740 = .ok (.invokevirtual 118, 3) := xdc ddX12_takeOther_1 24 rfl
theorem dX12_takeOther_743 : decode cX12_takeOther 743 = .ok (.aload_n 0, 1) := xdc ddX12_takeOther_1 25 rfl
theorem dX12_takeOther_744 : decode cX12_takeOther 744 = .ok (.invokevirtual 122, 3) := xdc ddX12_takeOther_1 26 rfl
theorem dX12_takeOther_747 : decode cX12_takeOther 747 = .ok (.goto 605, 3) := xdc ddX12_takeOther_1 27 rfl
theorem dX12_takeOther_750 : decode cX12_takeOther 750 = .ok (.aload_n 0, 1) := xdc ddX12_takeOther_1 28 rfl
theorem dX12_takeOther_751 : decode cX12_takeOther 751 = .ok (.bipush 16, 2) := xdc ddX12_takeOther_1 29 rfl
theorem dX12_takeOther_753 : decode cX12_takeOther 753 = .ok (.iconst 1, 1) := xdc ddX12_takeOther_1 30 rfl
theorem dX12_takeOther_754 : decode cX12_takeOther 754 = .ok (.iload_n 2, 1) := xdc ddX12_takeOther_1 31 rfl
theorem dX12_takeOther_755 : decode cX12_takeOther 755 = .ok (.invokevirtual 118, 3) := xdc ddX12_takeOther_1 32 rfl
theorem dX12_takeOther_758 : decode cX12_takeOther 758 = .ok (.aload_n 0, 1) := xdc ddX12_takeOther_1 33 rfl
theorem dX12_takeOther_759 : decode cX12_takeOther 759 = .ok (.invokevirtual 122, 3) := xdc ddX12_takeOther_1 34 rfl
theorem dX12_takeOther_762 : decode cX12_takeOther 762 = .ok (.goto 590, 3) := xdc ddX12_takeOther_1 35 rfl
theorem dX12_takeOther_765 : decode cX12_takeOther 765 = .ok (.aload_n 0, 1) := xdc ddX12_takeOther_1 36 rfl
theorem dX12_takeOther_766 : decode cX12_takeOther 766 = .ok (.bipush 16, 2) := xdc ddX12_takeOther_1 37 rfl
theorem dX12_takeOther_768 : decode cX12_takeOther 768 = .ok (.iconst 2, 1) := xdc ddX12_takeOther_1 38 rfl
theorem dX12_takeOther_769 : decode cX12_takeOther 769 = .ok (.iload_n 2, 1) := xdc ddX12_takeOther_1 39 rfl
theorem ddX12_takeOther_2 : xdec cX12_takeOther [(770, (.invokevirtual 118, 3)), (773, (.aload_n 0, 1)), (774, (.invokevirtual 122, 3)), (777, (.goto 575, 3)), (780, (.aload_n 0, 1)), (781, (.bipush 17, 2)), (783, (.iconst 2, 1)), (784, (.iconst 4, 1)), (785, (.invokevirtual 118, 3)), (788, (.aload_n 0, 1)), (789, (.invokevirtual 122, 3)), (792, (.aload_n 0, 1)), (793, (.aload_n 0, 1)), (794, (.getfield 82, 3)), (797, (.iconst 3, 1)), (798, (.if_icmp .eq 7, 3)), (801, (.iconst 1, 1)), (802, (.goto 4, 3)), (805, (.iconst 0, 1)), (806, (.invokevirtual 141, 3)), (809, (.goto 543, 3)), (812, (.aload_n 0, 1)), (813, (.bipush 11, 2)), (815, (.iconst 5, 1)), (816, (.iconst 4, 1)), (817, (.invokevirtual 118, 3)), (820, (.aload_n 0, 1)), (821, (.invokevirtual 122, 3)), (824, (.aload_n 0, 1)), (825, (.aload_n 0, 1)), (826, (.getfield 85, 3)), (829, (.ifCond .ne 7, 3)), (832, (.iconst 1, 1)), (833, (.goto 4, 3)), (836, (.iconst 0, 1)), (837, (.invokevirtual 141, 3)), (840, (.goto 512, 3)), (843, (.aload_n 0, 1)), (844, (.bipush 18, 2)), (846, (.iconst 0, 1))] = true := by decide +kernel
theorem dX12_takeOther_770 : decode cX12_takeOther 770 = .ok (.invokevirtual 118, 3) := xdc ddX12_takeOther_2 0 rfl
theorem dX12_takeOther_773 : decode cX12_takeOther 773 = .ok (.aload_n 0, 1) := xdc ddX12_takeOther_2 1 rfl
theorem dX12_takeOther_774 : decode cX12_takeOther 774 = .ok (.invokevirtual 122, 3) := xdc ddX12_takeOther_2 2 rfl
theorem dX12_takeOther_777 : decode cX12_takeOther 777 = .ok (.goto 575, 3) := xdc ddX12_takeOther_2 3 rfl
theorem dX12_takeOther_780 : decode cX12_takeOther 780 = .ok (.aload_n 0, 1) := xdc ddX12_takeOther_2 4 rfl
theorem dX12_takeOther_781 : decode cX12_takeOther 781 = .ok (.bipush 17, 2) := xdc ddX12_takeOther_2 5 rfl
theorem dX12_takeOther_783 : decode cX12_takeOther 783 = .ok (.iconst 2, 1) := xdc ddX12_takeOther_2 6 rfl
theorem dX12_takeOther_784 : decode cX12_takeOther 784 = .ok (.iconst 4, 1) := xdc ddX12_takeOther_2 7 rfl
theorem dX12_takeOther_785 : decode cX12_takeOther 785 = .ok (.invokevirtual 118, 3) := xdc ddX12_takeOther_2 8 rfl
theorem dX12_takeOther_788 : decode cX12_takeOther 788 = .ok (.aload_n 0, 1) := xdc ddX12_takeOther_2 9 rfl
theorem dX12_takeOther_789 : decode cX12_takeOther 789 = .ok (.invokevirtual 122, 3) := xdc ddX12_takeOther_2 10 rfl
theorem dX12_takeOther_792 : decode cX12_takeOther 792 = .ok (.aload_n 0, 1) := xdc ddX12_takeOther_2 11 rfl
theorem dX12_takeOther_793 : decode cX12_takeOther 793 = .ok (.aload_n 0, 1) := xdc ddX12_takeOther_2 12 rfl
theorem dX12_takeOther_794 : decode cX12_takeOther 794 = .ok (.getfield 82, 3) := xdc ddX12_takeOther_2 13 rfl
theorem dX12_takeOther_797 : decode cX12_takeOther 797 = .ok (.iconst 3, 1) := xdc ddX12_takeOther_2 14 rfl
theorem dX12_takeOther_798 : decode cX12_takeOther 798 = .ok (.if_icmp .eq 7, 3) := xdc ddX12_takeOther_2 15 rfl
theorem dX12_takeOther_801 : decode cX12_takeOther 801 = .ok (.iconst 1, 1) := xdc ddX12_takeOther_2 16 rfl
theorem dX12_takeOther_802 : decode cX12_takeOther 802 = .ok (.goto 4, 3) := xdc ddX12_takeOther_2 17 rfl
theorem dX12_takeOther_805 : decode cX12_takeOther 805 = .ok (.iconst 0, 1) := xdc ddX12_takeOther_2 18 rfl
theorem dX12_takeOther_806 : decode cX12_takeOther 806 = .ok (.invokevirtual 141, 3) := xdc ddX12_takeOther_2 19 rfl
theorem dX12_takeOther_809 : decode cX12_takeOther 809 = .ok (.goto 543, 3) := xdc ddX12_takeOther_2 20 rfl
theorem dX12_takeOther_812 : decode cX12_takeOther 812 = .ok (.aload_n 0, 1) := xdc ddX12_takeOther_2 21 rfl
theorem dX12_takeOther_813 : decode cX12_takeOther 813 = .ok (.bipush 11, 2) := xdc ddX12_takeOther_2 22 rfl
theorem dX12_takeOther_815 : decode cX12_takeOther 815 = .ok (.iconst 5, 1) := xdc ddX12_takeOther_2 23 rfl
theorem dX12_takeOther_816 : decode cX12_takeOther 816 = .ok (.iconst 4, 1) := xdc ddX12_takeOther_2 24 rfl
theorem dX12_takeOther_817 : decode cX12_takeOther 817 = .ok (.invokevirtual 118, 3) := xdc ddX12_takeOther_2 25 rfl
theorem dX12_takeOther_820 : decode cX12_takeOther 820 = .ok (.aload_n 0, 1) := xdc ddX12_takeOther_2 26 rfl
theorem dX12_takeOther_821 : decode cX12_takeOther 821 = .ok (.invokevirtual 122, 3) := xdc ddX12_takeOther_2 27 rfl
theorem dX12_takeOther_824 : decode cX12_takeOther 824 = .ok (.aload_n 0, 1) := xdc ddX12_takeOther_2 28 rfl
theorem dX12_takeOther_825 : decode cX12_takeOther 825 = .ok (.aload_n 0, 1) := xdc ddX12_takeOther_2 29 rfl
theorem dX12_takeOther_826 : decode cX12_takeOther 826 = .ok (.getfield 85, 3) := xdc ddX12_takeOther_2 30 rfl
theorem dX12_takeOther_829 : decode cX12_takeOther 829 = .ok (.ifCond .ne 7, 3) := xdc ddX12_takeOther_2 31 rfl
theorem dX12_takeOther_832 : decode cX12_takeOther 832 = .ok (.iconst 1, 1) := xdc ddX12_takeOther_2 32 rfl
theorem dX12_takeOther_833 : decode cX12_takeOther 833 = .ok (.goto 4, 3) := xdc ddX12_takeOther_2 33 rfl
theorem dX12_takeOther_836 : decode cX12_takeOther 836 = .ok (.iconst 0, 1) := xdc ddX12_takeOther_2 34 rfl
theorem dX12_takeOther_837 : decode cX12_takeOther 837 = .ok (.invokevirtual 141, 3) := xdc ddX12_takeOther_2 35 rfl
theorem dX12_takeOther_840 : decode cX12_takeOther 840 = .ok (.goto 512, 3) := xdc ddX12_takeOther_2 36 rfl
theorem dX12_takeOther_843 : decode cX12_takeOther 843 = .ok (.aload_n 0, 1) := xdc ddX12_takeOther_2 37 rfl
theorem dX12_takeOther_844 : decode cX12_takeOther 844 = .ok (.bipush 18, 2) := xdc ddX12_takeOther_2 38 rfl
theorem dX12_takeOther_846 : decode cX12_takeOther 846 = .ok (.iconst 0, 1) := xdc ddX12_takeOther_2 39 rfl
theorem ddX12_takeOther_3 : xdec cX12_takeOther [(847, (.iconst 4, 1)), (848, (.invokevirtual 118, 3)), (851, (.goto 501, 3)), (854, (.aload_n 0, 1)), (855, (.iload_n 1, 1)), (856, (.sipush 152, 3)), (859, (.if_icmp .ne 8, 3)), (862, (.bipush 19, 2)), (864, (.goto 5, 3)), (867, (.bipush 20, 2)), (869, (.iconst 0, 1)), (870, (.iconst 4, 1)), (871, (.invokevirtual 118, 3)), (874, (.goto 478, 3)), (877, (.aload_n 0, 1)), (878, (.bipush 14, 2)), (880, (.iconst 3, 1)), (881, (.iload_n 2, 1)), (882, (.invokevirtual 118, 3)), (885, (.aload_n 0, 1)), (886, (.iload_n 2, 1)), (887, (.invokevirtual 112, 3)), (890, (.goto 462, 3)), (893, (.aload_n 0, 1)), (894, (.iconst 0, 1)), (895, (.iload_n 1, 1)), (896, (.sipush 194, 3)), (899, (.if_icmp .ge 7, 3)), (902, (.iconst 4, 1)), (903, (.goto 17, 3)), (906, (.iload_n 1, 1)), (907, (.sipush 210, 3)), (910, (.if_icmp .ge 8, 3)), (913, (.bipush 10, 2)), (915, (.goto 5, 3)), (918, (.bipush 11, 2)), (920, (.iload_n 2, 1)), (921, (.invokevirtual 118, 3)), (924, (.aload_n 0, 1)), (925, (.invokevirtual 122, 3))] = true := by decide +kernel
theorem dX12_takeOther_847 : decode cX12_takeOther 847 = .ok (.iconst 4, 1) := xdc ddX12_takeOther_3 0 rfl
theorem dX12_takeOther_848 : decode cX12_takeOther 848 = .ok (.invokevirtual 118, 3) := xdc ddX12_takeOther_3 1 rfl
theorem dX12_takeOther_851 : decode cX12_takeOther 851 = .ok (.goto 501, 3) := xdc ddX12_takeOther_3 2 rfl
theorem dX12_takeOther_854 : decode cX12_takeOther 854 = .ok (.aload_n 0, 1) := xdc ddX12_takeOther_3 3 rfl
theorem dX12_takeOther_855 : decode cX12_takeOther 855 = .ok (.iload_n 1, 1) := xdc ddX12_takeOther_3 4 rfl
theorem dX12_takeOther_856 : decode cX12_takeOther 856 = .ok (.sipush 152, 3) := xdc ddX12_takeOther_3 5 rfl
theorem dX12_takeOther_859 : decode cX12_takeOther 859 = .ok (.if_icmp .ne 8, 3) := xdc ddX12_takeOther_3 6 rfl
theorem dX12_takeOther_862 : decode cX12_takeOther 862 = .ok (.bipush 19, 2) := xdc ddX12_takeOther_3 7 rfl
theorem dX12_takeOther_864 : decode cX12_takeOther 864 = .ok (.goto 5, 3) := xdc ddX12_takeOther_3 8 rfl
theorem dX12_takeOther_867 : decode cX12_takeOther 867 = .ok (.bipush 20, 2) := xdc ddX12_takeOther_3 9 rfl
theorem dX12_takeOther_869 : decode cX12_takeOther 869 = .ok (.iconst 0, 1) := xdc ddX12_takeOther_3 10 rfl
theorem dX12_takeOther_870 : decode cX12_takeOther 870 = .ok (.iconst 4, 1) := xdc ddX12_takeOther_3 11 rfl
theorem dX12_takeOther_871 : decode cX12_takeOther 871 = .ok (.invokevirtual 118, 3) := xdc ddX12_takeOther_3 12 rfl
theorem dX12_takeOther_874 : decode cX12_takeOther 874 = .ok (.goto 478, 3) := xdc ddX12_takeOther_3 13 rfl
theorem dX12_takeOther_877 : decode cX12_takeOther 877 = .ok (.aload_n 0, 1) := xdc ddX12_takeOther_3 14 rfl
theorem dX12_takeOther_878 : decode cX12_takeOther 878 = .ok (.bipush 14, 2) := xdc ddX12_takeOther_3 15 rfl
theorem dX12_takeOther_880 : decode cX12_takeOther 880 = .ok (.iconst 3, 1) := xdc ddX12_takeOther_3 16 rfl
theorem dX12_takeOther_881 : decode cX12_takeOther 881 = .ok (.iload_n 2, 1) := xdc ddX12_takeOther_3 17 rfl
theorem dX12_takeOther_882 : decode cX12_takeOther 882 = .ok (.invokevirtual 118, 3) := xdc ddX12_takeOther_3 18 rfl
theorem dX12_takeOther_885 : decode cX12_takeOther 885 = .ok (.aload_n 0, 1) := xdc ddX12_takeOther_3 19 rfl
theorem dX12_takeOther_886 : decode cX12_takeOther 886 = .ok (.iload_n 2, 1) := xdc ddX12_takeOther_3 20 rfl
theorem dX12_takeOther_887 : decode cX12_takeOther 887 = .ok (.invokevirtual 112, 3) := xdc ddX12_takeOther_3 21 rfl
theorem dX12_takeOther_890 : decode cX12_takeOther 890 = .ok (.goto 462, 3) := xdc ddX12_takeOther_3 22 rfl
theorem dX12_takeOther_893 : decode cX12_takeOther 893 = .ok (.aload_n 0, 1) := xdc ddX12_takeOther_3 23 rfl
theorem dX12_takeOther_894 : decode cX12_takeOther 894 = .ok (.iconst 0, 1) := xdc ddX12_takeOther_3 24 rfl
theorem dX12_takeOther_895 : decode cX12_takeOther 895 = .ok (.iload_n 1, 1) := xdc ddX12_takeOther_3 25 rfl
theorem dX12_takeOther_896 : decode cX12_takeOther 896 = .ok (.sipush 194, 3) := xdc ddX12_takeOther_3 26 rfl
theorem dX12_takeOther_899 : decode cX12_takeOther 899 = .ok (.if_icmp .ge 7, 3) := xdc ddX12_takeOther_3 27 rfl
theorem dX12_takeOther_902 : decode cX12_takeOther 902 = .ok (.iconst 4, 1) := xdc ddX12_takeOther_3 28 rfl
theorem dX12_takeOther_903 : decode cX12_takeOther 903 = .ok (.goto 17, 3) := xdc ddX12_takeOther_3 29 rfl
theorem dX12_takeOther_906 : decode cX12_takeOther 906 = .ok (.iload_n 1, 1) := xdc ddX12_takeOther_3 30 rfl
theorem dX12_takeOther_907 : decode cX12_takeOther 907 = .ok (.sipush 210, 3) := xdc ddX12_takeOther_3 31 rfl
theorem dX12_takeOther_910 : decode cX12_takeOther 910 = .ok (.if_icmp .ge 8, 3) := xdc ddX12_takeOther_3 32 rfl
theorem dX12_takeOther_913 : decode cX12_takeOther 913 = .ok (.bipush 10, 2) := xdc ddX12_takeOther_3 33 rfl
theorem dX12_takeOther_915 : decode cX12_takeOther 915 = .ok (.goto 5, 3) := xdc ddX12_takeOther_3 34 rfl
theorem dX12_takeOther_918 : decode cX12_takeOther 918 = .ok (.bipush 11, 2) := xdc ddX12_takeOther_3 35 rfl
theorem dX12_takeOther_920 : decode cX12_takeOther 920 = .ok (.iload_n 2, 1) := xdc ddX12_takeOther_3 36 rfl
theorem dX12_takeOther_921 : decode cX12_takeOther 921 = .ok (.invokevirtual 118, 3) := xdc ddX12_takeOther_3 37 rfl
theorem dX12_takeOther_924 : decode cX12_takeOther 924 = .ok (.aload_n 0, 1) := xdc ddX12_takeOther_3 38 rfl
theorem dX12_takeOther_925 : decode cX12_takeOther 925 = .ok (.invokevirtual 122, 3) := xdc ddX12_takeOther_3 39 rfl
theorem ddX12_takeOther_4 : xdec cX12_takeOther [(928, (.aload_n 0, 1)), (929, (.aload_n 0, 1)), (930, (.getfield 85, 3)), (933, (.bipush 6, 2)), (935, (.if_icmp .eq 7, 3)), (938, (.iconst 1, 1)), (939, (.goto 4, 3)), (942, (.iconst 0, 1)), (943, (.invokevirtual 141, 3)), (946, (.aload_n 0, 1)), (947, (.aload_n 0, 1)), (948, (.getfield 85, 3)), (951, (.bipush 7, 2)), (953, (.if_icmp .ne 8, 3)), (956, (.bipush 27, 2)), (958, (.goto 10, 3)), (961, (.bipush 21, 2)), (963, (.aload_n 0, 1)), (964, (.getfield 85, 3)), (967, (.iadd, 1)), (968, (.putfield 70, 3)), (971, (.iload_n 1, 1)), (972, (.sipush 194, 3)), (975, (.if_icmp .ge 377, 3)), (978, (.aload_n 0, 1)), (979, (.iconst 1, 1)), (980, (.invokevirtual 112, 3)), (983, (.goto 369, 3)), (986, (.aload_n 0, 1)), (987, (.bipush 16, 2)), (989, (.iconst 4, 1)), (990, (.iload_n 2, 1)), (991, (.invokevirtual 118, 3)), (994, (.aload_n 0, 1)), (995, (.invokevirtual 122, 3)), (998, (.aload_n 0, 1)), (999, (.aload_n 0, 1)), (1000, (.getfield 85, 3)), (1003, (.ifCond .ne 7, 3)), (1006, (.iconst 1, 1))] = true := by decide +kernel
theorem dX12_takeOther_928 : decode cX12_takeOther 928 = .ok (.aload_n 0, 1) := xdc ddX12_takeOther_4 0 rfl
theorem dX12_takeOther_929 : decode cX12_takeOther 929 = .ok (.aload_n 0, 1) := xdc ddX12_takeOther_4 1 rfl
theorem dX12_takeOther_930 : decode cX12_takeOther 930 = .ok (.getfield 85, 3) := xdc ddX12_takeOther_4 2 rfl
theorem dX12_takeOther_933 : decode cX12_takeOther 933 = .ok (.bipush 6, 2) := xdc ddX12_takeOther_4 3 rfl
theorem dX12_takeOther_935 : decode cX12_takeOther 935 = .ok (.if_icmp .eq 7, 3) := xdc ddX12_takeOther_4 4 rfl
theorem dX12_takeOther_938 : decode cX12_takeOther 938 = .ok (.iconst 1, 1) := xdc ddX12_takeOther_4 5 rfl
theorem dX12_takeOther_939 : decode cX12_takeOther 939 = .ok (.goto 4, 3) := xdc ddX12_takeOther_4 6 rfl
theorem dX12_takeOther_942 : decode cX12_takeOther 942 = .ok (.iconst 0, 1) := xdc ddX12_takeOther_4 7 rfl
theorem dX12_takeOther_943 : decode cX12_takeOther 943 = .ok (.invokevirtual 141, 3) := xdc ddX12_takeOther_4 8 rfl
theorem dX12_takeOther_946 : decode cX12_takeOther 946 = .ok (.aload_n 0, 1) := xdc ddX12_takeOther_4 9 rfl
theorem dX12_takeOther_947 : decode cX12_takeOther 947 = .ok (.aload_n 0, 1) := xdc ddX12_takeOther_4 10 rfl
theorem dX12_takeOther_948 : decode cX12_takeOther 948 = .ok (.getfield 85, 3) := xdc ddX12_takeOther_4 11 rfl
theorem dX12_takeOther_951 : decode cX12_takeOther 951 = .ok (.bipush 7, 2) := xdc ddX12_takeOther_4 12 rfl
theorem dX12_takeOther_953 : decode cX12_takeOther 953 = .ok (.if_icmp .ne 8, 3) := xdc ddX12_takeOther_4 13 rfl
theorem dX12_takeOther_956 : decode cX12_takeOther 956 = .ok (.bipush 27, 2) := xdc ddX12_takeOther_4 14 rfl
theorem dX12_takeOther_958 : decode cX12_takeOther 958 = .ok (.goto 10, 3) := xdc ddX12_takeOther_4 15 rfl
theorem dX12_takeOther_961 : decode cX12_takeOther 961 = .ok (.bipush 21, 2) := xdc ddX12_takeOther_4 16 rfl
theorem dX12_takeOther_963 : decode cX12_takeOther 963 = .ok (.aload_n 0, 1) := xdc ddX12_takeOther_4 17 rfl
theorem dX12_takeOther_964 : decode cX12_takeOther 964 = .ok (.getfield 85, 3) := xdc ddX12_takeOther_4 18 rfl
theorem dX12_takeOther_967 : decode cX12_takeOther 967 = .ok (.iadd, 1) := xdc ddX12_takeOther_4 19 rfl
theorem dX12_takeOther_968 : decode cX12_takeOther 968 = .ok (.putfield 70, 3) := xdc ddX12_takeOther_4 20 rfl
theorem dX12_takeOther_971 : decode cX12_takeOther 971 = .ok (.iload_n 1, 1) := xdc ddX12_takeOther_4 21 rfl
theorem dX12_takeOther_972 : decode cX12_takeOther 972 = .ok (.sipush 194, 3) := xdc ddX12_takeOther_4 22 rfl
theorem dX12_takeOther_975 : decode cX12_takeOther 975 = .ok (.if_icmp .ge 377, 3) := xdc ddX12_takeOther_4 23 rfl
theorem dX12_takeOther_978 : decode cX12_takeOther 978 = .ok (.aload_n 0, 1) := xdc ddX12_takeOther_4 24 rfl
theorem dX12_takeOther_979 : decode cX12_takeOther 979 = .ok (.iconst 1, 1) := xdc ddX12_takeOther_4 25 rfl
theorem dX12_takeOther_980 : decode cX12_takeOther 980 = .ok (.invokevirtual 112, 3) := xdc ddX12_takeOther_4 26 rfl
theorem dX12_takeOther_983 : decode cX12_takeOther 983 = .ok (.goto 369, 3) := xdc ddX12_takeOther_4 27 rfl
theorem dX12_takeOther_986 : decode cX12_takeOther 986 = .ok (.aload_n 0, 1) := xdc ddX12_takeOther_4 28 rfl
theorem dX12_takeOther_987 : decode cX12_takeOther 987 = .ok (.bipush 16, 2) := xdc ddX12_takeOther_4 29 rfl
theorem dX12_takeOther_989 : decode cX12_takeOther 989 = .ok (.iconst 4, 1) := xdc ddX12_takeOther_4 30 rfl
theorem dX12_takeOther_990 : decode cX12_takeOther 990 = .ok (.iload_n 2, 1) := xdc ddX12_takeOther_4 31 rfl
theorem dX12_takeOther_991 : decode cX12_takeOther 991 = .ok (.invokevirtual 118, 3) := xdc ddX12_takeOther_4 32 rfl
theorem dX12_takeOther_994 : decode cX12_takeOther 994 = .ok (.aload_n 0, 1) := xdc ddX12_takeOther_4 33 rfl
theorem dX12_takeOther_995 : decode cX12_takeOther 995 = .ok (.invokevirtual 122, 3) := xdc ddX12_takeOther_4 34 rfl
theorem dX12_takeOther_998 : decode cX12_takeOther 998 = .ok (.aload_n 0, 1) := xdc ddX12_takeOther_4 35 rfl
theorem dX12_takeOther_999 : decode cX12_takeOther 999 = .ok (.aload_n 0, 1) := xdc ddX12_takeOther_4 36 rfl
theorem dX12_takeOther_1000 : decode cX12_takeOther 1000 = .ok (.getfield 85, 3) := xdc ddX12_takeOther_4 37 rfl
theorem dX12_takeOther_1003 : decode cX12_takeOther 1003 = .ok (.ifCond .ne 7, 3) := xdc ddX12_takeOther_4 38 rfl
theorem dX12_takeOther_1006 : decode cX12_takeOther 1006 = .ok (.iconst 1, 1) := xdc ddX12_takeOther_4 39 rfl
theorem ddX12_takeOther_5 : xdec cX12_takeOther [(1007, (.goto 4, 3)), (1010, (.iconst 0, 1)), (1011, (.invokevirtual 141, 3)), (1014, (.aload_n 0, 1)), (1015, (.iload_n 2, 1)), (1016, (.invokevirtual 112, 3)), (1019, (.goto 333, 3)), (1022, (.aload_n 0, 1)), (1023, (.iload_n 1, 1)), (1024, (.sipush 226, 3)), (1027, (.if_icmp .ne 8, 3)), (1030, (.bipush 28, 2)), (1032, (.goto 17, 3)), (1035, (.iload_n 1, 1)), (1036, (.sipush 227, 3)), (1039, (.if_icmp .ne 8, 3)), (1042, (.bipush 29, 2)), (1044, (.goto 5, 3)), (1047, (.bipush 31, 2)), (1049, (.bipush 8, 2)), (1051, (.iconst 4, 1)), (1052, (.invokevirtual 118, 3)), (1055, (.aload_n 0, 1)), (1056, (.iconst 1, 1)), (1057, (.invokevirtual 125, 3)), (1060, (.goto 292, 3)), (1063, (.aload_n 0, 1)), (1064, (.iload_n 1, 1)), (1065, (.sipush 232, 3)), (1068, (.if_icmp .ne 8, 3)), (1071, (.bipush 30, 2)), (1073, (.goto 5, 3)), (1076, (.bipush 31, 2)), (1078, (.bipush 8, 2)), (1080, (.iconst 4, 1)), (1081, (.invokevirtual 118, 3)), (1084, (.aload_n 0, 1)), (1085, (.iconst 4, 1)), (1086, (.invokevirtual 125, 3)), (1089, (.goto 263, 3))] = true := by decide +kernel
theorem dX12_takeOther_1007 : decode cX12_takeOther 1007 = .ok (.goto 4, 3) := xdc ddX12_takeOther_5 0 rfl
theorem dX12_takeOther_1010 : decode cX12_takeOther 1010 = .ok (.iconst 0, 1) := xdc ddX12_takeOther_5 1 rfl
theorem dX12_takeOther_1011 : decode cX12_takeOther 1011 = .ok (.invokevirtual 141, 3) := xdc ddX12_takeOther_5 2 rfl
theorem dX12_takeOther_1014 : decode cX12_takeOther 1014 = .ok (.aload_n 0, 1) := xdc ddX12_takeOther_5 3 rfl
theorem dX12_takeOther_1015 : decode cX12_takeOther 1015 = .ok (.iload_n 2, 1) := xdc ddX12_takeOther_5 4 rfl
theorem dX12_takeOther_1016 : decode cX12_takeOther 1016 = .ok (.invokevirtual 112, 3) := xdc ddX12_takeOther_5 5 rfl
theorem dX12_takeOther_1019 : decode cX12_takeOther 1019 = .ok (.goto 333, 3) := xdc ddX12_takeOther_5 6 rfl
theorem dX12_takeOther_1022 : decode cX12_takeOther 1022 = .ok (.aload_n 0, 1) := xdc ddX12_takeOther_5 7 rfl
theorem dX12_takeOther_1023 : decode cX12_takeOther 1023 = .ok (.iload_n 1, 1) := xdc ddX12_takeOther_5 8 rfl
theorem dX12_takeOther_1024 : decode cX12_takeOther 1024 = .ok (.sipush 226, 3) := xdc ddX12_takeOther_5 9 rfl
theorem dX12_takeOther_1027 : decode cX12_takeOther 1027 = .ok (.if_icmp .ne 8, 3) := xdc ddX12_takeOther_5 10 rfl
theorem dX12_takeOther_1030 : decode cX12_takeOther 1030 = .ok (.bipush 28, 2) := xdc ddX12_takeOther_5 11 rfl
theorem dX12_takeOther_1032 : decode cX12_takeOther 1032 = .ok (.goto 17, 3) := xdc ddX12_takeOther_5 12 rfl
theorem dX12_takeOther_1035 : decode cX12_takeOther 1035 = .ok (.iload_n 1, 1) := xdc ddX12_takeOther_5 13 rfl
theorem dX12_takeOther_1036 : decode cX12_takeOther 1036 = .ok (.sipush 227, 3) := xdc ddX12_takeOther_5 14 rfl
theorem dX12_takeOther_1039 : decode cX12_takeOther 1039 = .ok (.if_icmp .ne 8, 3) := xdc ddX12_takeOther_5 15 rfl
theorem dX12_takeOther_1042 : decode cX12_takeOther 1042 = .ok (.bipush 29, 2) := xdc ddX12_takeOther_5 16 rfl
theorem dX12_takeOther_1044 : decode cX12_takeOther 1044 = .ok (.goto 5, 3) := xdc ddX12_takeOther_5 17 rfl
theorem dX12_takeOther_1047 : decode cX12_takeOther 1047 = .ok (.bipush 31, 2) := xdc ddX12_takeOther_5 18 rfl
theorem dX12_takeOther_1049 : decode cX12_takeOther 1049 = .ok (.bipush 8, 2) := xdc ddX12_takeOther_5 19 rfl
theorem dX12_takeOther_1051 : decode cX12_takeOther 1051 = .ok (.iconst 4, 1) := xdc ddX12_takeOther_5 20 rfl
theorem dX12_takeOther_1052 : decode cX12_takeOther 1052 = .ok (.invokevirtual 118, 3) := xdc ddX12_takeOther_5 21 rfl
theorem dX12_takeOther_1055 : decode cX12_takeOther 1055 = .ok (.aload_n 0, 1) := xdc ddX12_takeOther_5 22 rfl
theorem dX12_takeOther_1056 : decode cX12_takeOther 1056 = .ok (.iconst 1, 1) := xdc ddX12_takeOther_5 23 rfl
theorem dX12_takeOther_1057 : decode cX12_takeOther 1057 = .ok (.invokevirtual 125, 3) := xdc ddX12_takeOther_5 24 rfl
theorem dX12_takeOther_1060 : decode cX12_takeOther 1060 = .ok (.goto 292, 3) := xdc ddX12_takeOther_5 25 rfl
theorem dX12_takeOther_1063 : decode cX12_takeOther 1063 = .ok (.aload_n 0, 1) := xdc ddX12_takeOther_5 26 rfl
theorem dX12_takeOther_1064 : decode cX12_takeOther 1064 = .ok (.iload_n 1, 1) := xdc ddX12_takeOther_5 27 rfl
theorem dX12_takeOther_1065 : decode cX12_takeOther 1065 = .ok (.sipush 232, 3) := xdc ddX12_takeOther_5 28 rfl
theorem dX12_takeOther_1068 : decode cX12_takeOther 1068 = .ok (.if_icmp .ne 8, 3) := xdc ddX12_takeOther_5 29 rfl
theorem dX12_takeOther_1071 : decode cX12_takeOther 1071 = .ok (.bipush 30, 2) := xdc ddX12_takeOther_5 30 rfl
theorem dX12_takeOther_1073 : decode cX12_takeOther 1073 = .ok (.goto 5, 3) := xdc ddX12_takeOther_5 31 rfl
theorem dX12_takeOther_1076 : decode cX12_takeOther 1076 = .ok (.bipush 31, 2) := xdc ddX12_takeOther_5 32 rfl
theorem dX12_takeOther_1078 : decode cX12_takeOther 1078 = .ok (.bipush 8, 2) := xdc ddX12_takeOther_5 33 rfl
theorem dX12_takeOther_1080 : decode cX12_takeOther 1080 = .ok (.iconst 4, 1) := xdc ddX12_takeOther_5 34 rfl
theorem dX12_takeOther_1081 : decode cX12_takeOther 1081 = .ok (.invokevirtual 118, 3) := xdc ddX12_takeOther_5 35 rfl
theorem dX12_takeOther_1084 : decode cX12_takeOther 1084 = .ok (.aload_n 0, 1) := xdc ddX12_takeOther_5 36 rfl
theorem dX12_takeOther_1085 : decode cX12_takeOther 1085 = .ok (.iconst 4, 1) := xdc ddX12_takeOther_5 37 rfl
theorem dX12_takeOther_1086 : decode cX12_takeOther 1086 = .ok (.invokevirtual 125, 3) := xdc ddX12_takeOther_5 38 rfl
theorem dX12_takeOther_1089 : decode cX12_takeOther 1089 = .ok (.goto 263, 3) := xdc ddX12_takeOther_5 39 rfl
theorem ddX12_takeOther_6 : xdec cX12_takeOther [(1092, (.aload_n 0, 1)), (1093, (.iload_n 1, 1)), (1094, (.sipush 244, 3)), (1097, (.if_icmp .ne 8, 3)), (1100, (.bipush 32, 2)), (1102, (.goto 5, 3)), (1105, (.bipush 33, 2)), (1107, (.iconst 0, 1)), (1108, (.iconst 4, 1)), (1109, (.invokevirtual 118, 3)), (1112, (.goto 240, 3)), (1115, (.aload_n 0, 1)), (1116, (.iload_n 1, 1)), (1117, (.sipush 248, 3)), (1120, (.if_icmp .ne 8, 3)), (1123, (.bipush 34, 2)), (1125, (.goto 5, 3)), (1128, (.bipush 35, 2)), (1130, (.iconst 0, 1)), (1131, (.iconst 4, 1)), (1132, (.invokevirtual 118, 3)), (1135, (.goto 217, 3)), (1138, (.aload_n 0, 1)), (1139, (.iconst 0, 1)), (1140, (.iconst 5, 1)), (1141, (.iload_n 2, 1)), (1142, (.invokevirtual 118, 3)), (1145, (.aload_n 0, 1)), (1146, (.invokevirtual 122, 3)), (1149, (.aload_n 0, 1)), (1150, (.aload_n 0, 1)), (1151, (.getfield 85, 3)), (1154, (.iconst 1, 1)), (1155, (.if_icmp .eq 7, 3)), (1158, (.iconst 1, 1)), (1159, (.goto 4, 3)), (1162, (.iconst 0, 1)), (1163, (.invokevirtual 141, 3)), (1166, (.aload_n 0, 1)), (1167, (.aload_n 0, 1))] = true := by decide +kernel
theorem dX12_takeOther_1092 : decode cX12_takeOther 1092 = .ok (.aload_n 0, 1) := xdc ddX12_takeOther_6 0 rfl
theorem dX12_takeOther_1093 : decode cX12_takeOther 1093 = .ok (.iload_n 1, 1) := xdc ddX12_takeOther_6 1 rfl
theorem dX12_takeOther_1094 : decode cX12_takeOther 1094 = .ok (.sipush 244, 3) := xdc ddX12_takeOther_6 2 rfl
theorem dX12_takeOther_1097 : decode cX12_takeOther 1097 = .ok (.if_icmp .ne 8, 3) := xdc ddX12_takeOther_6 3 rfl
theorem dX12_takeOther_1100 : decode cX12_takeOther 1100 = .ok (.bipush 32, 2) := xdc ddX12_takeOther_6 4 rfl
theorem dX12_takeOther_1102 : decode cX12_takeOther 1102 = .ok (.goto 5, 3) := xdc ddX12_takeOther_6 5 rfl
theorem dX12_takeOther_1105 : decode cX12_takeOther 1105 = .ok (.bipush 33, 2) := xdc ddX12_takeOther_6 6 rfl
theorem dX12_takeOther_1107 : decode cX12_takeOther 1107 = .ok (.iconst 0, 1) := xdc ddX12_takeOther_6 7 rfl
theorem dX12_takeOther_1108 : decode cX12_takeOther 1108 = .ok (.iconst 4, 1) := xdc ddX12_takeOther_6 8 rfl
theorem dX12_takeOther_1109 : decode cX12_takeOther 1109 = .ok (.invokevirtual 118, 3) := xdc ddX12_takeOther_6 9 rfl
theorem dX12_takeOther_1112 : decode cX12_takeOther 1112 = .ok (.goto 240, 3) := xdc ddX12_takeOther_6 10 rfl
theorem dX12_takeOther_1115 : decode cX12_takeOther 1115 = .ok (.aload_n 0, 1) := xdc ddX12_takeOther_6 11 rfl
theorem dX12_takeOther_1116 : decode cX12_takeOther 1116 = .ok (.iload_n 1, 1) := xdc ddX12_takeOther_6 12 rfl
theorem dX12_takeOther_1117 : decode cX12_takeOther 1117 = .ok (.sipush 248, 3) := xdc ddX12_takeOther_6 13 rfl
theorem dX12_takeOther_1120 : decode cX12_takeOther 1120 = .ok (.if_icmp .ne 8, 3) := xdc ddX12_takeOther_6 14 rfl
theorem dX12_takeOther_1123 : decode cX12_takeOther 1123 = .ok (.bipush 34, 2) := xdc ddX12_takeOther_6 15 rfl
theorem dX12_takeOther_1125 : decode cX12_takeOther 1125 = .ok (.goto 5, 3) := xdc ddX12_takeOther_6 16 rfl
theorem dX12_takeOther_1128 : decode cX12_takeOther 1128 = .ok (.bipush 35, 2) := xdc ddX12_takeOther_6 17 rfl
theorem dX12_takeOther_1130 : decode cX12_takeOther 1130 = .ok (.iconst 0, 1) := xdc ddX12_takeOther_6 18 rfl
theorem dX12_takeOther_1131 : decode cX12_takeOther 1131 = .ok (.iconst 4, 1) := xdc ddX12_takeOther_6 19 rfl
theorem dX12_takeOther_1132 : decode cX12_takeOther 1132 = .ok (.invokevirtual 118, 3) := xdc ddX12_takeOther_6 20 rfl
theorem dX12_takeOther_1135 : decode cX12_takeOther 1135 = .ok (.goto 217, 3) := xdc ddX12_takeOther_6 21 rfl
theorem dX12_takeOther_1138 : decode cX12_takeOther 1138 = .ok (.aload_n 0, 1) := xdc ddX12_takeOther_6 22 rfl
theorem dX12_takeOther_1139 : decode cX12_takeOther 1139 = .ok (.iconst 0, 1) := xdc ddX12_takeOther_6 23 rfl
theorem dX12_takeOther_1140 : decode cX12_takeOther 1140 = .ok (.iconst 5, 1) := xdc ddX12_takeOther_6 24 rfl
theorem dX12_takeOther_1141 : decode cX12_takeOther 1141 = .ok (.iload_n 2, 1) := xdc ddX12_takeOther_6 25 rfl
theorem dX12_takeOther_1142 : decode cX12_takeOther 1142 = .ok (.invokevirtual 118, 3) := xdc ddX12_takeOther_6 26 rfl
theorem dX12_takeOther_1145 : decode cX12_takeOther 1145 = .ok (.aload_n 0, 1) := xdc ddX12_takeOther_6 27 rfl
theorem dX12_takeOther_1146 : decode cX12_takeOther 1146 = .ok (.invokevirtual 122, 3) := xdc ddX12_takeOther_6 28 rfl
theorem dX12_takeOther_1149 : decode cX12_takeOther 1149 = .ok (.aload_n 0, 1) := xdc ddX12_takeOther_6 29 rfl
theorem dX12_takeOther_1150 : decode cX12_takeOther 1150 = .ok (.aload_n 0, 1) := xdc ddX12_takeOther_6 30 rfl
theorem dX12_takeOther_1151 : decode cX12_takeOther 1151 = .ok (.getfield 85, 3) := xdc ddX12_takeOther_6 31 rfl
theorem dX12_takeOther_1154 : decode cX12_takeOther 1154 = .ok (.iconst 1, 1) := xdc ddX12_takeOther_6 32 rfl
theorem dX12_takeOther_1155 : decode cX12_takeOther 1155 = .ok (.if_icmp .eq 7, 3) := xdc ddX12_takeOther_6 33 rfl
theorem dX12_takeOther_1158 : decode cX12_takeOther 1158 = .ok (.iconst 1, 1) := xdc ddX12_takeOther_6 34 rfl
theorem dX12_takeOther_1159 : decode cX12_takeOther 1159 = .ok (.goto 4, 3) := xdc ddX12_takeOther_6 35 rfl
theorem dX12_takeOther_1162 : decode cX12_takeOther 1162 = .ok (.iconst 0, 1) := xdc ddX12_takeOther_6 36 rfl
theorem dX12_takeOther_1163 : decode cX12_takeOther 1163 = .ok (.invokevirtual 141, 3) := xdc ddX12_takeOther_6 37 rfl
theorem dX12_takeOther_1166 : decode cX12_takeOther 1166 = .ok (.aload_n 0, 1) := xdc ddX12_takeOther_6 38 rfl
theorem dX12_takeOther_1167 : decode cX12_takeOther 1167 = .ok (.aload_n 0, 1) := xdc ddX12_takeOther_6 39 rfl
theorem ddX12_takeOther_7 : xdec cX12_takeOther [(1168, (.getfield 85, 3)), (1171, (.ifCond .ne 8, 3)), (1174, (.bipush 14, 2)), (1176, (.goto 12, 3)), (1179, (.bipush 36, 2)), (1181, (.aload_n 0, 1)), (1182, (.getfield 85, 3)), (1185, (.iadd, 1)), (1186, (.iconst 2, 1)), (1187, (.isub, 1)), (1188, (.putfield 70, 3)), (1191, (.aload_n 0, 1)), (1192, (.getfield 85, 3)), (1195, (.ifCond .ne 157, 3)), (1198, (.aload_n 0, 1)), (1199, (.iconst 4, 1)), (1200, (.putfield 73, 3)), (1203, (.aload_n 0, 1)), (1204, (.iload_n 2, 1)), (1205, (.invokevirtual 112, 3)), (1208, (.goto 144, 3)), (1211, (.aload_n 0, 1)), (1212, (.iconst 0, 1)), (1213, (.iconst 5, 1)), (1214, (.iload_n 2, 1)), (1215, (.invokevirtual 118, 3)), (1218, (.aload_n 0, 1)), (1219, (.invokevirtual 122, 3)), (1222, (.aload_n 0, 1)), (1223, (.aload_n 0, 1)), (1224, (.getfield 85, 3)), (1227, (.ifCond .ne 8, 3)), (1230, (.bipush 8, 2)), (1232, (.goto 44, 3)), (1235, (.aload_n 0, 1)), (1236, (.getfield 85, 3)), (1239, (.iconst 1, 1)), (1240, (.if_icmp .ne 8, 3)), (1243, (.bipush 9, 2)), (1245, (.goto 31, 3))] = true := by decide +kernel
theorem dX12_takeOther_1168 : decode cX12_takeOther 1168 = .ok (.getfield 85, 3) := xdc ddX12_takeOther_7 0 rfl
theorem dX12_takeOther_1171 : decode cX12_takeOther 1171 = .ok (.ifCond .ne 8, 3) := xdc ddX12_takeOther_7 1 rfl
theorem dX12_takeOther_1174 : decode cX12_takeOther 1174 = .ok (.bipush 14, 2) := xdc ddX12_takeOther_7 2 rfl
theorem dX12_takeOther_1176 : decode cX12_takeOther 1176 = .ok (.goto 12, 3) := xdc ddX12_takeOther_7 3 rfl
theorem dX12_takeOther_1179 : decode cX12_takeOther 1179 = .ok (.bipush 36, 2) := xdc ddX12_takeOther_7 4 rfl
theorem dX12_takeOther_1181 : decode cX12_takeOther 1181 = .ok (.aload_n 0, 1) := xdc ddX12_takeOther_7 5 rfl
theorem dX12_takeOther_1182 : decode cX12_takeOther 1182 = .ok (.getfield 85, 3) := xdc ddX12_takeOther_7 6 rfl
theorem dX12_takeOther_1185 : decode cX12_takeOther 1185 = .ok (.iadd, 1) := xdc ddX12_takeOther_7 7 rfl
theorem dX12_takeOther_1186 : decode cX12_takeOther 1186 = .ok (.iconst 2, 1) := xdc ddX12_takeOther_7 8 rfl
theorem dX12_takeOther_1187 : decode cX12_takeOther 1187 = .ok (.isub, 1) := xdc ddX12_takeOther_7 9 rfl
theorem dX12_takeOther_1188 : decode cX12_takeOther 1188 = .ok (.putfield 70, 3) := xdc ddX12_takeOther_7 10 rfl
theorem dX12_takeOther_1191 : decode cX12_takeOther 1191 = .ok (.aload_n 0, 1) := xdc ddX12_takeOther_7 11 rfl
theorem dX12_takeOther_1192 : decode cX12_takeOther 1192 = .ok (.getfield 85, 3) := xdc ddX12_takeOther_7 12 rfl
theorem dX12_takeOther_1195 : decode cX12_takeOther 1195 = .ok (.ifCond .ne 157, 3) := xdc ddX12_takeOther_7 13 rfl
theorem dX12_takeOther_1198 : decode cX12_takeOther 1198 = .ok (.aload_n 0, 1) := xdc ddX12_takeOther_7 14 rfl
theorem dX12_takeOther_1199 : decode cX12_takeOther 1199 = .ok (.iconst 4, 1) := xdc ddX12_takeOther_7 15 rfl
theorem dX12_takeOther_1200 : decode cX12_takeOther 1200 = .ok (.putfield 73, 3) := xdc ddX12_takeOther_7 16 rfl
theorem dX12_takeOther_1203 : decode cX12_takeOther 1203 = .ok (.aload_n 0, 1) := xdc ddX12_takeOther_7 17 rfl
theorem dX12_takeOther_1204 : decode cX12_takeOther 1204 = .ok (.iload_n 2, 1) := xdc ddX12_takeOther_7 18 rfl
theorem dX12_takeOther_1205 : decode cX12_takeOther 1205 = .ok (.invokevirtual 112, 3) := xdc ddX12_takeOther_7 19 rfl
theorem dX12_takeOther_1208 : decode cX12_takeOther 1208 = .ok (.goto 144, 3) := xdc ddX12_takeOther_7 20 rfl
theorem dX12_takeOther_1211 : decode cX12_takeOther 1211 = .ok (.aload_n 0, 1) := xdc ddX12_takeOther_7 21 rfl
theorem dX12_takeOther_1212 : decode cX12_takeOther 1212 = .ok (.iconst 0, 1) := xdc ddX12_takeOther_7 22 rfl
theorem dX12_takeOther_1213 : decode cX12_takeOther 1213 = .ok (.iconst 5, 1) := xdc ddX12_takeOther_7 23 rfl
theorem dX12_takeOther_1214 : decode cX12_takeOther 1214 = .ok (.iload_n 2, 1) := xdc ddX12_takeOther_7 24 rfl
theorem dX12_takeOther_1215 : decode cX12_takeOther 1215 = .ok (.invokevirtual 118, 3) := xdc ddX12_takeOther_7 25 rfl
theorem dX12_takeOther_1218 : decode cX12_takeOther 1218 = .ok (.aload_n 0, 1) := xdc ddX12_takeOther_7 26 rfl
theorem dX12_takeOther_1219 : decode cX12_takeOther 1219 = .ok (.invokevirtual 122, 3) := xdc ddX12_takeOther_7 27 rfl
theorem dX12_takeOther_1222 : decode cX12_takeOther 1222 = .ok (.aload_n 0, 1) := xdc ddX12_takeOther_7 28 rfl
theorem dX12_takeOther_1223 : decode cX12_takeOther 1223 = .ok (.aload_n 0, 1) := xdc ddX12_takeOther_7 29 rfl
theorem dX12_takeOther_1224 : decode cX12_takeOther 1224 = .ok (.getfield 85, 3) := xdc ddX12_takeOther_7 30 rfl
theorem dX12_takeOther_1227 : decode cX12_takeOther 1227 = .ok (.ifCond .ne 8, 3) := xdc ddX12_takeOther_7 31 rfl
theorem dX12_takeOther_1230 : decode cX12_takeOther 1230 = .ok (.bipush 8, 2) := xdc ddX12_takeOther_7 32 rfl
theorem dX12_takeOther_1232 : decode cX12_takeOther 1232 = .ok (.goto 44, 3) := xdc ddX12_takeOther_7 33 rfl
theorem dX12_takeOther_1235 : decode cX12_takeOther 1235 = .ok (.aload_n 0, 1) := xdc ddX12_takeOther_7 34 rfl
theorem dX12_takeOther_1236 : decode cX12_takeOther 1236 = .ok (.getfield 85, 3) := xdc ddX12_takeOther_7 35 rfl
theorem dX12_takeOther_1239 : decode cX12_takeOther 1239 = .ok (.iconst 1, 1) := xdc ddX12_takeOther_7 36 rfl
theorem dX12_takeOther_1240 : decode cX12_takeOther 1240 = .ok (.if_icmp .ne 8, 3) := xdc ddX12_takeOther_7 37 rfl
theorem dX12_takeOther_1243 : decode cX12_takeOther 1243 = .ok (.bipush 9, 2) := xdc ddX12_takeOther_7 38 rfl
theorem dX12_takeOther_1245 : decode cX12_takeOther 1245 = .ok (.goto 31, 3) := xdc ddX12_takeOther_7 39 rfl
theorem ddX12_takeOther_8 : xdec cX12_takeOther [(1248, (.aload_n 0, 1)), (1249, (.getfield 85, 3)), (1252, (.iconst 2, 1)), (1253, (.if_icmp .ne 8, 3)), (1256, (.bipush 42, 2)), (1258, (.goto 18, 3)), (1261, (.aload_n 0, 1)), (1262, (.getfield 85, 3)), (1265, (.iconst 4, 1)), (1266, (.if_icmp .ne 8, 3)), (1269, (.bipush 43, 2)), (1271, (.goto 5, 3)), (1274, (.bipush 10, 2)), (1276, (.putfield 70, 3)), (1279, (.aload_n 0, 1)), (1280, (.aload_n 0, 1)), (1281, (.getfield 85, 3)), (1284, (.iconst 2, 1)), (1285, (.if_icmp .lt 43, 3)), (1288, (.iload_n 1, 1)), (1289, (.sipush 255, 3)), (1292, (.if_icmp .ne 40, 3)), (1295, (.aload_n 0, 1)), (1296, (.getfield 85, 3)), (1299, (.bipush 6, 2)), (1301, (.if_icmp .eq 27, 3)), (1304, (.aload_n 0, 1)), (1305, (.getfield 85, 3)), (1308, (.iconst 2, 1)), (1309, (.if_icmp .eq 11, 3)), (1312, (.aload_n 0, 1)), (1313, (.getfield 85, 3)), (1316, (.iconst 4, 1)), (1317, (.if_icmp .ne 15, 3)), (1320, (.aload_n 0, 1)), (1321, (.getfield 82, 3)), (1324, (.iconst 3, 1)), (1325, (.if_icmp .ne 7, 3)), (1328, (.iconst 1, 1)), (1329, (.goto 4, 3))] = true := by decide +kernel
theorem dX12_takeOther_1248 : decode cX12_takeOther 1248 = .ok (.aload_n 0, 1) := xdc ddX12_takeOther_8 0 rfl
theorem dX12_takeOther_1249 : decode cX12_takeOther 1249 = .ok (.getfield 85, 3) := xdc ddX12_takeOther_8 1 rfl
theorem dX12_takeOther_1252 : decode cX12_takeOther 1252 = .ok (.iconst 2, 1) := xdc ddX12_takeOther_8 2 rfl
theorem dX12_takeOther_1253 : decode cX12_takeOther 1253 = .ok (.if_icmp .ne 8, 3) := xdc ddX12_takeOther_8 3 rfl
theorem dX12_takeOther_1256 : decode cX12_takeOther 1256 = .ok (.bipush 42, 2) := xdc ddX12_takeOther_8 4 rfl
theorem dX12_takeOther_1258 : decode cX12_takeOther 1258 = .ok (.goto 18, 3) := xdc ddX12_takeOther_8 5 rfl
theorem dX12_takeOther_1261 : decode cX12_takeOther 1261 = .ok (.aload_n 0, 1) := xdc ddX12_takeOther_8 6 rfl
theorem dX12_takeOther_1262 : decode cX12_takeOther 1262 = .ok (.getfield 85, 3) := xdc ddX12_takeOther_8 7 rfl
theorem dX12_takeOther_1265 : decode cX12_takeOther 1265 = .ok (.iconst 4, 1) := xdc ddX12_takeOther_8 8 rfl
theorem dX12_takeOther_1266 : decode cX12_takeOther 1266 = .ok (.if_icmp .ne 8, 3) := xdc ddX12_takeOther_8 9 rfl
theorem dX12_takeOther_1269 : decode cX12_takeOther 1269 = .ok (.bipush 43, 2) := xdc ddX12_takeOther_8 10 rfl
theorem dX12_takeOther_1271 : decode cX12_takeOther 1271 = .ok (.goto 5, 3) := xdc ddX12_takeOther_8 11 rfl
theorem dX12_takeOther_1274 : decode cX12_takeOther 1274 = .ok (.bipush 10, 2) := xdc ddX12_takeOther_8 12 rfl
theorem dX12_takeOther_1276 : decode cX12_takeOther 1276 = .ok (.putfield 70, 3) := xdc ddX12_takeOther_8 13 rfl
theorem dX12_takeOther_1279 : decode cX12_takeOther 1279 = .ok (.aload_n 0, 1) := xdc ddX12_takeOther_8 14 rfl
theorem dX12_takeOther_1280 : decode cX12_takeOther 1280 = .ok (.aload_n 0, 1) := xdc ddX12_takeOther_8 15 rfl
theorem dX12_takeOther_1281 : decode cX12_takeOther 1281 = .ok (.getfield 85, 3) := xdc ddX12_takeOther_8 16 rfl
theorem dX12_takeOther_1284 : decode cX12_takeOther 1284 = .ok (.iconst 2, 1) := xdc ddX12_takeOther_8 17 rfl
theorem dX12_takeOther_1285 : decode cX12_takeOther 1285 = .ok (.if_icmp .lt 43, 3) := xdc ddX12_takeOther_8 18 rfl
theorem dX12_takeOther_1288 : decode cX12_takeOther 1288 = .ok (.iload_n 1, 1) := xdc ddX12_takeOther_8 19 rfl
theorem dX12_takeOther_1289 : decode cX12_takeOther 1289 = .ok (.sipush 255, 3) := xdc ddX12_takeOther_8 20 rfl
theorem dX12_takeOther_1292 : decode cX12_takeOther 1292 = .ok (.if_icmp .ne 40, 3) := xdc ddX12_takeOther_8 21 rfl
theorem dX12_takeOther_1295 : decode cX12_takeOther 1295 = .ok (.aload_n 0, 1) := xdc ddX12_takeOther_8 22 rfl
theorem dX12_takeOther_1296 : decode cX12_takeOther 1296 = .ok (.getfield 85, 3) := xdc ddX12_takeOther_8 23 rfl
theorem dX12_takeOther_1299 : decode cX12_takeOther 1299 = .ok (.bipush 6, 2) := xdc ddX12_takeOther_8 24 rfl
theorem dX12_takeOther_1301 : decode cX12_takeOther 1301 = .ok (.if_icmp .eq 27, 3) := xdc ddX12_takeOther_8 25 rfl
theorem dX12_takeOther_1304 : decode cX12_takeOther 1304 = .ok (.aload_n 0, 1) := xdc ddX12_takeOther_8 26 rfl
theorem dX12_takeOther_1305 : decode cX12_takeOther 1305 = .ok (.getfield 85, 3) := xdc ddX12_takeOther_8 27 rfl
theorem dX12_takeOther_1308 : decode cX12_takeOther 1308 = .ok (.iconst 2, 1) := xdc ddX12_takeOther_8 28 rfl
theorem dX12_takeOther_1309 : decode cX12_takeOther 1309 = .ok (.if_icmp .eq 11, 3) := xdc ddX12_takeOther_8 29 rfl
theorem dX12_takeOther_1312 : decode cX12_takeOther 1312 = .ok (.aload_n 0, 1) := xdc ddX12_takeOther_8 30 rfl
theorem dX12_takeOther_1313 : decode cX12_takeOther 1313 = .ok (.getfield 85, 3) := xdc ddX12_takeOther_8 31 rfl
theorem dX12_takeOther_1316 : decode cX12_takeOther 1316 = .ok (.iconst 4, 1) := xdc ddX12_takeOther_8 32 rfl
theorem dX12_takeOther_1317 : decode cX12_takeOther 1317 = .ok (.if_icmp .ne 15, 3) := xdc ddX12_takeOther_8 33 rfl
theorem dX12_takeOther_1320 : decode cX12_takeOther 1320 = .ok (.aload_n 0, 1) := xdc ddX12_takeOther_8 34 rfl
theorem dX12_takeOther_1321 : decode cX12_takeOther 1321 = .ok (.getfield 82, 3) := xdc ddX12_takeOther_8 35 rfl
theorem dX12_takeOther_1324 : decode cX12_takeOther 1324 = .ok (.iconst 3, 1) := xdc ddX12_takeOther_8 36 rfl
theorem dX12_takeOther_1325 : decode cX12_takeOther 1325 = .ok (.if_icmp .ne 7, 3) := xdc ddX12_takeOther_8 37 rfl
theorem dX12_takeOther_1328 : decode cX12_takeOther 1328 = .ok (.iconst 1, 1) := xdc ddX12_takeOther_8 38 rfl
theorem dX12_takeOther_1329 : decode cX12_takeOther 1329 = .ok (.goto 4, 3) := xdc ddX12_takeOther_8 39 rfl
theorem ddX12_takeOther_9 : xdec cX12_takeOther [(1332, (.iconst 0, 1)), (1333, (.invokevirtual 141, 3)), (1336, (.goto 16, 3)), (1339, (.aload_n 0, 1)), (1340, (.bipush 18, 2)), (1342, (.iconst 0, 1)), (1343, (.iconst 4, 1)), (1344, (.invokevirtual 118, 3)), (1347, (.aload_n 0, 1)), (1348, (.iconst 0, 1)), (1349, (.putfield 62, 3)), (1352, (.return_, 1))] = true := by decide +kernel
theorem dX12_takeOther_1332 : decode cX12_takeOther 1332 = .ok (.iconst 0, 1) := xdc ddX12_takeOther_9 0 rfl
theorem dX12_takeOther_1333 : decode cX12_takeOther 1333 = .ok (.invokevirtual 141, 3) := xdc ddX12_takeOther_9 1 rfl
theorem dX12_takeOther_1336 : decode cX12_takeOther 1336 = .ok (.goto 16, 3) := xdc ddX12_takeOther_9 2 rfl
theorem dX12_takeOther_1339 : decode cX12_takeOther 1339 = .ok (.aload_n 0, 1) := xdc ddX12_takeOther_9 3 rfl
theorem dX12_takeOther_1340 : decode cX12_takeOther 1340 = .ok (.bipush 18, 2) := xdc ddX12_takeOther_9 4 rfl
theorem dX12_takeOther_1342 : decode cX12_takeOther 1342 = .ok (.iconst 0, 1) := xdc ddX12_takeOther_9 5 rfl
theorem dX12_takeOther_1343 : decode cX12_takeOther 1343 = .ok (.iconst 4, 1) := xdc ddX12_takeOther_9 6 rfl
theorem dX12_takeOther_1344 : decode cX12_takeOther 1344 = .ok (.invokevirtual 118, 3) := xdc ddX12_takeOther_9 7 rfl
theorem dX12_takeOther_1347 : decode cX12_takeOther 1347 = .ok (.aload_n 0, 1) := xdc ddX12_takeOther_9 8 rfl
theorem dX12_takeOther_1348 : decode cX12_takeOther 1348 = .ok (.iconst 0, 1) := xdc ddX12_takeOther_9 9 rfl
theorem dX12_takeOther_1349 : decode cX12_takeOther 1349 = .ok (.putfield 62, 3) := xdc ddX12_takeOther_9 10 rfl
theorem dX12_takeOther_1352 : decode cX12_takeOther 1352 = .ok (.return_, 1) := xdc ddX12_takeOther_9 11 rfl
abbrev cX12_take : ByteArray := prog_14_method_12_code
theorem ddX12_take_0 : xdec cX12_take [(0, (.aload_n 0, 1)), (1, (.iload_n 1, 1)), (2, (.putfield 56, 3)), (5, (.aload_n 0, 1)), (6, (.iload_n 1, 1)), (7, (.ifCond .lt 15, 3)), (10, (.iload_n 1, 1)), (11, (.aload_n 0, 1)), (12, (.getfield 59, 3)), (15, (.if_icmp .ge 7, 3)), (18, (.iconst 1, 1)), (19, (.goto 4, 3)), (22, (.iconst 0, 1)), (23, (.putfield 62, 3)), (26, (.aload_n 0, 1)), (27, (.iconst 3, 1)), (28, (.putfield 82, 3)), (31, (.aload_n 0, 1)), (32, (.iconst 0, 1)), (33, (.putfield 115, 3)), (36, (.aload_n 0, 1)), (37, (.iconst 0, 1)), (38, (.putfield 109, 3)), (41, (.aload_n 0, 1)), (42, (.iconst 0, 1)), (43, (.putfield 85, 3)), (46, (.aload_n 0, 1)), (47, (.iconst 0, 1)), (48, (.putfield 88, 3)), (51, (.aload_n 0, 1)), (52, (.iconst (-1), 1)), (53, (.putfield 91, 3)), (56, (.aload_n 0, 1)), (57, (.iconst (-1), 1)), (58, (.putfield 94, 3)), (61, (.aload_n 0, 1)), (62, (.getfield 62, 3)), (65, (.ifCond .ne 5, 3)), (68, (.iconst 0, 1)), (69, (.ireturn, 1))] = true := by decide +kernel
theorem dX12_take_0 : decode cX12_take 0 = .ok (.aload_n 0, 1) := xdc ddX12_take_0 0 rfl
theorem dX12_take_1 : decode cX12_take 1 = .ok (.iload_n 1, 1) := xdc ddX12_take_0 1 rfl
theorem dX12_take_2 : decode cX12_take 2 = .ok (.putfield 56, 3) := xdc ddX12_take_0 2 rfl
theorem dX12_take_5 : decode cX12_take 5 = .ok (.aload_n 0, 1) := xdc ddX12_take_0 3 rfl
theorem dX12_take_6 : decode cX12_take 6 = .ok (.iload_n 1, 1) := xdc ddX12_take_0 4 rfl
theorem dX12_take_7 : decode cX12_take 7 = .ok (.ifCond .lt 15, 3) := xdc ddX12_take_0 5 rfl
theorem dX12_take_10 : decode cX12_take 10 = .ok (.iload_n 1, 1) := xdc ddX12_take_0 6 rfl
theorem dX12_take_11 : decode cX12_take 11 = .ok (.aload_n 0, 1) := xdc ddX12_take_0 7 rfl
theorem dX12_take_12 : decode cX12_take 12 = .ok (.getfield 59, 3) := xdc ddX12_take_0 8 rfl
theorem dX12_take_15 : decode cX12_take 15 = .ok (.if_icmp .ge 7, 3) := xdc ddX12_take_0 9 rfl
theorem dX12_take_18 : decode cX12_take 18 = .ok (.iconst 1, 1) := xdc ddX12_take_0 10 rfl
theorem dX12_take_19 : decode cX12_take 19 = .ok (.goto 4, 3) := xdc ddX12_take_0 11 rfl
theorem dX12_take_22 : decode cX12_take 22 = .ok (.iconst 0, 1) := xdc ddX12_take_0 12 rfl
theorem dX12_take_23 : decode cX12_take 23 = .ok (.putfield 62, 3) := xdc ddX12_take_0 13 rfl
theorem dX12_take_26 : decode cX12_take 26 = .ok (.aload_n 0, 1) := xdc ddX12_take_0 14 rfl
theorem dX12_take_27 : decode cX12_take 27 = .ok (.iconst 3, 1) := xdc ddX12_take_0 15 rfl
theorem dX12_take_28 : decode cX12_take 28 = .ok (.putfield 82, 3) := xdc ddX12_take_0 16 rfl
theorem dX12_take_31 : decode cX12_take 31 = .ok (.aload_n 0, 1) := xdc ddX12_take_0 17 rfl
theorem dX12_take_32 : decode cX12_take 32 = .ok (.iconst 0, 1) := xdc ddX12_take_0 18 rfl
theorem dX12_take_33 : decode cX12_take 33 = .ok (.putfield 115, 3) := xdc ddX12_take_0 19 rfl
theorem dX12_take_36 : decode cX12_take 36 = .ok (.aload_n 0, 1) := xdc ddX12_take_0 20 rfl
theorem dX12_take_37 : decode cX12_take 37 = .ok (.iconst 0, 1) := xdc ddX12_take_0 21 rfl
theorem dX12_take_38 : decode cX12_take 38 = .ok (.putfield 109, 3) := xdc ddX12_take_0 22 rfl
theorem dX12_take_41 : decode cX12_take 41 = .ok (.aload_n 0, 1) := xdc ddX12_take_0 23 rfl
theorem dX12_take_42 : decode cX12_take 42 = .ok (.iconst 0, 1) := xdc ddX12_take_0 24 rfl
theorem dX12_take_43 : decode cX12_take 43 = .ok (.putfield 85, 3) := xdc ddX12_take_0 25 rfl
theorem dX12_take_46 : decode cX12_take 46 = .ok (.aload_n 0, 1) := xdc ddX12_take_0 26 rfl
theorem dX12_take_47 : decode cX12_take 47 = .ok (.iconst 0, 1) := xdc ddX12_take_0 27 rfl
theorem dX12_take_48 : decode cX12_take 48 = .ok (.putfield 88, 3) := xdc ddX12_take_0 28 rfl
theorem dX12_take_51 : decode cX12_take 51 = .ok (.aload_n 0, 1) := xdc ddX12_take_0 29 rfl
theorem dX12_take_52 : decode cX12_take 52 = .ok (.iconst (-1), 1) := xdc ddX12_take_0 30 rfl
theorem dX12_take_53 : decode cX12_take 53 = .ok (.putfield 91, 3) := xdc ddX12_take_0 31 rfl
theorem dX12_take_56 : decode cX12_take 56 = .ok (.aload_n 0, 1) := xdc ddX12_take_0 32 rfl
theorem dX12_take_57 : decode cX12_take 57 = .ok (.iconst (-1), 1) := xdc ddX12_take_0 33 rfl
theorem dX12_take_58 : decode cX12_take 58 = .ok (.putfield 94, 3) := xdc ddX12_take_0 34 rfl
theorem dX12_take_61 : decode cX12_take 61 = .ok (.aload_n 0, 1) := xdc ddX12_take_0 35 rfl
theorem dX12_take_62 : decode cX12_take 62 = .ok (.getfield 62, 3) := xdc ddX12_take_0 36 rfl
theorem dX12_take_65 : decode cX12_take 65 = .ok (.ifCond .ne 5, 3) := xdc ddX12_take_0 37 rfl
theorem dX12_take_68 : decode cX12_take 68 = .ok (.iconst 0, 1) := xdc ddX12_take_0 38 rfl
theorem dX12_take_69 : decode cX12_take 69 = .ok (.ireturn, 1) := xdc ddX12_take_0 39 rfl
theorem ddX12_take_1 : xdec cX12_take [(70, (.aload_n 0, 1)), (71, (.invokevirtual 66, 3)), (74, (.istore_n 2, 1)), (75, (.iload_n 2, 1)), (76, (.iconst 1, 1)), (77, (.iand, 1)), (78, (.ifCond .ne 7, 3)), (81, (.iconst 1, 1)), (82, (.goto 4, 3)), (85, (.iconst 4, 1)), (86, (.istore_n 3, 1)), (87, (.iload_n 2, 1)), (88, (.bipush 64, 2)), (90, (.if_icmp .ge 68, 3)), (93, (.iload_n 2, 1)), (94, (.bipush 7, 2)), (96, (.iand, 1)), (97, (.bipush 6, 2)), (99, (.if_icmp .ge 59, 3)), (102, (.aload_n 0, 1)), (103, (.iload_n 2, 1)), (104, (.iconst 3, 1)), (105, (.ishr, 1)), (106, (.iload_n 2, 1)), (107, (.bipush 7, 2)), (109, (.iand, 1)), (110, (.iconst 2, 1)), (111, (.if_icmp .ge 7, 3)), (114, (.iconst 1, 1)), (115, (.goto 16, 3)), (118, (.iload_n 2, 1)), (119, (.bipush 7, 2)), (121, (.iand, 1)), (122, (.iconst 4, 1)), (123, (.if_icmp .ge 7, 3)), (126, (.iconst 2, 1)), (127, (.goto 4, 3)), (130, (.iconst 3, 1)), (131, (.iload_n 3, 1)), (132, (.invokevirtual 118, 3))] = true := by decide +kernel
theorem dX12_take_70 : decode cX12_take 70 = .ok (.aload_n 0, 1) := xdc ddX12_take_1 0 rfl
theorem dX12_take_71 : decode cX12_take 71 = .ok (.invokevirtual 66, 3) := xdc ddX12_take_1 1 rfl
theorem dX12_take_74 : decode cX12_take 74 = .ok (.istore_n 2, 1) := xdc ddX12_take_1 2 rfl
theorem dX12_take_75 : decode cX12_take 75 = .ok (.iload_n 2, 1) := xdc ddX12_take_1 3 rfl
theorem dX12_take_76 : decode cX12_take 76 = .ok (.iconst 1, 1) := xdc ddX12_take_1 4 rfl
theorem dX12_take_77 : decode cX12_take 77 = .ok (.iand, 1) := xdc ddX12_take_1 5 rfl
theorem dX12_take_78 : decode cX12_take 78 = .ok (.ifCond .ne 7, 3) := xdc ddX12_take_1 6 rfl
theorem dX12_take_81 : decode cX12_take 81 = .ok (.iconst 1, 1) := xdc ddX12_take_1 7 rfl
theorem dX12_take_82 : decode cX12_take 82 = .ok (.goto 4, 3) := xdc ddX12_take_1 8 rfl
theorem dX12_take_85 : decode cX12_take 85 = .ok (.iconst 4, 1) := xdc ddX12_take_1 9 rfl
theorem dX12_take_86 : decode cX12_take 86 = .ok (.istore_n 3, 1) := xdc ddX12_take_1 10 rfl
theorem dX12_take_87 : decode cX12_take 87 = .ok (.iload_n 2, 1) := xdc ddX12_take_1 11 rfl
theorem dX12_take_88 : decode cX12_take 88 = .ok (.bipush 64, 2) := xdc ddX12_take_1 12 rfl
theorem dX12_take_90 : decode cX12_take 90 = .ok (.if_icmp .ge 68, 3) := xdc ddX12_take_1 13 rfl
theorem dX12_take_93 : decode cX12_take 93 = .ok (.iload_n 2, 1) := xdc ddX12_take_1 14 rfl
theorem dX12_take_94 : decode cX12_take 94 = .ok (.bipush 7, 2) := xdc ddX12_take_1 15 rfl
theorem dX12_take_96 : decode cX12_take 96 = .ok (.iand, 1) := xdc ddX12_take_1 16 rfl
theorem dX12_take_97 : decode cX12_take 97 = .ok (.bipush 6, 2) := xdc ddX12_take_1 17 rfl
theorem dX12_take_99 : decode cX12_take 99 = .ok (.if_icmp .ge 59, 3) := xdc ddX12_take_1 18 rfl
theorem dX12_take_102 : decode cX12_take 102 = .ok (.aload_n 0, 1) := xdc ddX12_take_1 19 rfl
theorem dX12_take_103 : decode cX12_take 103 = .ok (.iload_n 2, 1) := xdc ddX12_take_1 20 rfl
theorem dX12_take_104 : decode cX12_take 104 = .ok (.iconst 3, 1) := xdc ddX12_take_1 21 rfl
theorem dX12_take_105 : decode cX12_take 105 = .ok (.ishr, 1) := xdc ddX12_take_1 22 rfl
theorem dX12_take_106 : decode cX12_take 106 = .ok (.iload_n 2, 1) := xdc ddX12_take_1 23 rfl
theorem dX12_take_107 : decode cX12_take 107 = .ok (.bipush 7, 2) := xdc ddX12_take_1 24 rfl
theorem dX12_take_109 : decode cX12_take 109 = .ok (.iand, 1) := xdc ddX12_take_1 25 rfl
theorem dX12_take_110 : decode cX12_take 110 = .ok (.iconst 2, 1) := xdc ddX12_take_1 26 rfl
theorem dX12_take_111 : decode cX12_take 111 = .ok (.if_icmp .ge 7, 3) := xdc ddX12_take_1 27 rfl
theorem dX12_take_114 : decode cX12_take 114 = .ok (.iconst 1, 1) := xdc ddX12_take_1 28 rfl
theorem dX12_take_115 : decode cX12_take 115 = .ok (.goto 16, 3) := xdc ddX12_take_1 29 rfl
theorem dX12_take_118 : decode cX12_take 118 = .ok (.iload_n 2, 1) := xdc ddX12_take_1 30 rfl
theorem dX12_take_119 : decode cX12_take 119 = .ok (.bipush 7, 2) := xdc ddX12_take_1 31 rfl
theorem dX12_take_121 : decode cX12_take 121 = .ok (.iand, 1) := xdc ddX12_take_1 32 rfl
theorem dX12_take_122 : decode cX12_take 122 = .ok (.iconst 4, 1) := xdc ddX12_take_1 33 rfl
theorem dX12_take_123 : decode cX12_take 123 = .ok (.if_icmp .ge 7, 3) := xdc ddX12_take_1 34 rfl
theorem dX12_take_126 : decode cX12_take 126 = .ok (.iconst 2, 1) := xdc ddX12_take_1 35 rfl
theorem dX12_take_127 : decode cX12_take 127 = .ok (.goto 4, 3) := xdc ddX12_take_1 36 rfl
theorem dX12_take_130 : decode cX12_take 130 = .ok (.iconst 3, 1) := xdc ddX12_take_1 37 rfl
theorem dX12_take_131 : decode cX12_take 131 = .ok (.iload_n 3, 1) := xdc ddX12_take_1 38 rfl
theorem dX12_take_132 : decode cX12_take 132 = .ok (.invokevirtual 118, 3) := xdc ddX12_take_1 39 rfl
theorem ddX12_take_2 : xdec cX12_take [(135, (.aload_n 0, 1)), (136, (.getfield 73, 3)), (139, (.iconst 3, 1)), (140, (.if_icmp .ne 11, 3)), (143, (.aload_n 0, 1)), (144, (.iload_n 3, 1)), (145, (.invokevirtual 112, 3)), (148, (.goto 232, 3)), (151, (.aload_n 0, 1)), (152, (.invokevirtual 122, 3)), (155, (.goto 225, 3)), (158, (.iload_n 2, 1)), (159, (.bipush 64, 2)), (161, (.if_icmp .lt 62, 3)), (164, (.iload_n 2, 1)), (165, (.bipush 96, 2)), (167, (.if_icmp .ge 56, 3)), (170, (.aload_n 0, 1)), (171, (.iload_n 2, 1)), (172, (.bipush 72, 2)), (174, (.if_icmp .ge 8, 3)), (177, (.bipush 8, 2)), (179, (.goto 27, 3)), (182, (.iload_n 2, 1)), (183, (.bipush 80, 2)), (185, (.if_icmp .ge 8, 3)), (188, (.bipush 9, 2)), (190, (.goto 16, 3)), (193, (.iload_n 2, 1)), (194, (.bipush 88, 2)), (196, (.if_icmp .ge 8, 3)), (199, (.bipush 10, 2)), (201, (.goto 5, 3)), (204, (.bipush 11, 2)), (206, (.bipush 6, 2)), (208, (.iconst 4, 1)), (209, (.invokevirtual 118, 3)), (212, (.aload_n 0, 1)), (213, (.iload_n 2, 1)), (214, (.bipush 7, 2))] = true := by decide +kernel
theorem dX12_take_135 : decode cX12_take 135 = .ok (.aload_n 0, 1) := xdc ddX12_take_2 0 rfl
theorem dX12_take_136 : decode cX12_take 136 = .ok (.getfield 73, 3) := xdc ddX12_take_2 1 rfl
theorem dX12_take_139 : decode cX12_take 139 = .ok (.iconst 3, 1) := xdc ddX12_take_2 2 rfl
theorem dX12_take_140 : decode cX12_take 140 = .ok (.if_icmp .ne 11, 3) := xdc ddX12_take_2 3 rfl
theorem dX12_take_143 : decode cX12_take 143 = .ok (.aload_n 0, 1) := xdc ddX12_take_2 4 rfl
theorem dX12_take_144 : decode cX12_take 144 = .ok (.iload_n 3, 1) := xdc ddX12_take_2 5 rfl
theorem dX12_take_145 : decode cX12_take 145 = .ok (.invokevirtual 112, 3) := xdc ddX12_take_2 6 rfl
theorem dX12_take_148 : decode cX12_take 148 = .ok (.goto 232, 3) := xdc ddX12_take_2 7 rfl
theorem dX12_take_151 : decode cX12_take 151 = .ok (.aload_n 0, 1) := xdc ddX12_take_2 8 rfl
theorem dX12_take_152 : decode cX12_take 152 = .ok (.invokevirtual 122, 3) := xdc ddX12_take_2 9 rfl
theorem dX12_take_155 : decode cX12_take 155 = .ok (.goto 225, 3) := xdc ddX12_take_2 10 rfl
theorem dX12_take_158 : decode cX12_take 158 = .ok (.iload_n 2, 1) := xdc ddX12_take_2 11 rfl
theorem dX12_take_159 : decode cX12_take 159 = .ok (.bipush 64, 2) := xdc ddX12_take_2 12 rfl
theorem dX12_take_161 : decode cX12_take 161 = .ok (.if_icmp .lt 62, 3) := xdc ddX12_take_2 13 rfl
theorem dX12_take_164 : decode cX12_take 164 = .ok (.iload_n 2, 1) := xdc ddX12_take_2 14 rfl
theorem dX12_take_165 : decode cX12_take 165 = .ok (.bipush 96, 2) := xdc ddX12_take_2 15 rfl
theorem dX12_take_167 : decode cX12_take 167 = .ok (.if_icmp .ge 56, 3) := xdc ddX12_take_2 16 rfl
theorem dX12_take_170 : decode cX12_take 170 = .ok (.aload_n 0, 1) := xdc ddX12_take_2 17 rfl
theorem dX12_take_171 : decode cX12_take 171 = .ok (.iload_n 2, 1) := xdc ddX12_take_2 18 rfl
theorem dX12_take_172 : decode cX12_take 172 = .ok (.bipush 72, 2) := xdc ddX12_take_2 19 rfl
theorem dX12_take_174 : decode cX12_take 174 = .ok (.if_icmp .ge 8, 3) := xdc ddX12_take_2 20 rfl
theorem dX12_take_177 : decode cX12_take 177 = .ok (.bipush 8, 2) := xdc ddX12_take_2 21 rfl
theorem dX12_take_179 : decode cX12_take 179 = .ok (.goto 27, 3) := xdc ddX12_take_2 22 rfl
theorem dX12_take_182 : decode cX12_take 182 = .ok (.iload_n 2, 1) := xdc ddX12_take_2 23 rfl
theorem dX12_take_183 : decode cX12_take 183 = .ok (.bipush 80, 2) := xdc ddX12_take_2 24 rfl
theorem dX12_take_185 : decode cX12_take 185 = .ok (.if_icmp .ge 8, 3) := xdc ddX12_take_2 25 rfl
theorem dX12_take_188 : decode cX12_take 188 = .ok (.bipush 9, 2) := xdc ddX12_take_2 26 rfl
theorem dX12_take_190 : decode cX12_take 190 = .ok (.goto 16, 3) := xdc ddX12_take_2 27 rfl
theorem dX12_take_193 : decode cX12_take 193 = .ok (.iload_n 2, 1) := xdc ddX12_take_2 28 rfl
theorem dX12_take_194 : decode cX12_take 194 = .ok (.bipush 88, 2) := xdc ddX12_take_2 29 rfl
theorem dX12_take_196 : decode cX12_take 196 = .ok (.if_icmp .ge 8, 3) := xdc ddX12_take_2 30 rfl
theorem dX12_take_199 : decode cX12_take 199 = .ok (.bipush 10, 2) := xdc ddX12_take_2 31 rfl
theorem dX12_take_201 : decode cX12_take 201 = .ok (.goto 5, 3) := xdc ddX12_take_2 32 rfl
theorem dX12_take_204 : decode cX12_take 204 = .ok (.bipush 11, 2) := xdc ddX12_take_2 33 rfl
theorem dX12_take_206 : decode cX12_take 206 = .ok (.bipush 6, 2) := xdc ddX12_take_2 34 rfl
theorem dX12_take_208 : decode cX12_take 208 = .ok (.iconst 4, 1) := xdc ddX12_take_2 35 rfl
theorem dX12_take_209 : decode cX12_take 209 = .ok (.invokevirtual 118, 3) := xdc ddX12_take_2 36 rfl
theorem dX12_take_212 : decode cX12_take 212 = .ok (.aload_n 0, 1) := xdc ddX12_take_2 37 rfl
theorem dX12_take_213 : decode cX12_take 213 = .ok (.iload_n 2, 1) := xdc ddX12_take_2 38 rfl
theorem dX12_take_214 : decode cX12_take 214 = .ok (.bipush 7, 2) := xdc ddX12_take_2 39 rfl
theorem ddX12_take_3 : xdec cX12_take [(216, (.iand, 1)), (217, (.putfield 88, 3)), (220, (.goto 160, 3)), (223, (.iload_n 2, 1)), (224, (.bipush 112, 2)), (226, (.if_icmp .lt 35, 3)), (229, (.iload_n 2, 1)), (230, (.sipush 128, 3)), (233, (.if_icmp .ge 28, 3)), (236, (.aload_n 0, 1)), (237, (.bipush 13, 2)), (239, (.bipush 8, 2)), (241, (.iconst 4, 1)), (242, (.invokevirtual 118, 3)), (245, (.aload_n 0, 1)), (246, (.iload_n 2, 1)), (247, (.bipush 15, 2)), (249, (.iand, 1)), (250, (.putfield 115, 3)), (253, (.aload_n 0, 1)), (254, (.iconst 1, 1)), (255, (.invokevirtual 125, 3)), (258, (.goto 122, 3)), (261, (.iload_n 2, 1)), (262, (.sipush 145, 3)), (265, (.if_icmp .lt 30, 3)), (268, (.iload_n 2, 1)), (269, (.sipush 152, 3)), (272, (.if_icmp .ge 23, 3)), (275, (.aload_n 0, 1)), (276, (.bipush 15, 2)), (278, (.bipush 14, 2)), (280, (.iconst 4, 1)), (281, (.invokevirtual 118, 3)), (284, (.aload_n 0, 1)), (285, (.iload_n 2, 1)), (286, (.bipush 7, 2)), (288, (.iand, 1)), (289, (.putfield 88, 3)), (292, (.goto 88, 3))] = true := by decide +kernel
theorem dX12_take_216 : decode cX12_take 216 = .ok (.iand, 1) := xdc ddX12_take_3 0 rfl
theorem dX12_take_217 : decode cX12_take 217 = .ok (.putfield 88, 3) := xdc ddX12_take_3 1 rfl
theorem dX12_take_220 : decode cX12_take 220 = .ok (.goto 160, 3) := xdc ddX12_take_3 2 rfl
theorem dX12_take_223 : decode cX12_take 223 = .ok (.iload_n 2, 1) := xdc ddX12_take_3 3 rfl
theorem dX12_take_224 : decode cX12_take 224 = .ok (.bipush 112, 2) := xdc ddX12_take_3 4 rfl
theorem dX12_take_226 : decode cX12_take 226 = .ok (.if_icmp .lt 35, 3) := xdc ddX12_take_3 5 rfl
theorem dX12_take_229 : decode cX12_take 229 = .ok (.iload_n 2, 1) := xdc ddX12_take_3 6 rfl
theorem dX12_take_230 : decode cX12_take 230 = .ok (.sipush 128, 3) := xdc ddX12_take_3 7 rfl
theorem dX12_take_233 : decode cX12_take 233 = .ok (.if_icmp .ge 28, 3) := xdc ddX12_take_3 8 rfl
theorem dX12_take_236 : decode cX12_take 236 = .ok (.aload_n 0, 1) := xdc ddX12_take_3 9 rfl
theorem dX12_take_237 : decode cX12_take 237 = .ok (.bipush 13, 2) := xdc ddX12_take_3 10 rfl
theorem dX12_take_239 : decode cX12_take 239 = .ok (.bipush 8, 2) := xdc ddX12_take_3 11 rfl
theorem dX12_take_241 : decode cX12_take 241 = .ok (.iconst 4, 1) := xdc ddX12_take_3 12 rfl
theorem dX12_take_242 : decode cX12_take 242 = .ok (.invokevirtual 118, 3) := xdc ddX12_take_3 13 rfl
theorem dX12_take_245 : decode cX12_take 245 = .ok (.aload_n 0, 1) := xdc ddX12_take_3 14 rfl
theorem dX12_take_246 : decode cX12_take 246 = .ok (.iload_n 2, 1) := xdc ddX12_take_3 15 rfl
theorem dX12_take_247 : decode cX12_take 247 = .ok (.bipush 15, 2) := xdc ddX12_take_3 16 rfl
theorem dX12_take_249 : decode cX12_take 249 = .ok (.iand, 1) := xdc ddX12_take_3 17 rfl
theorem dX12_take_250 : decode cX12_take 250 = .ok (.putfield 115, 3) := xdc ddX12_take_3 18 rfl
theorem dX12_take_253 : decode cX12_take 253 = .ok (.aload_n 0, 1) := xdc ddX12_take_3 19 rfl
theorem dX12_take_254 : decode cX12_take 254 = .ok (.iconst 1, 1) := xdc ddX12_take_3 20 rfl
theorem dX12_take_255 : decode cX12_take 255 = .ok (.invokevirtual 125, 3) := xdc ddX12_take_3 21 rfl
theorem dX12_take_258 : decode cX12_take 258 = .ok (.goto 122, 3) := xdc ddX12_take_3 22 rfl
theorem dX12_take_261 : decode cX12_take 261 = .ok (.iload_n 2, 1) := xdc ddX12_take_3 23 rfl
theorem dX12_take_262 : decode cX12_take 262 = .ok (.sipush 145, 3) := xdc ddX12_take_3 24 rfl
theorem dX12_take_265 : decode cX12_take 265 = .ok (.if_icmp .lt 30, 3) := xdc ddX12_take_3 25 rfl
theorem dX12_take_268 : decode cX12_take 268 = .ok (.iload_n 2, 1) := xdc ddX12_take_3 26 rfl
theorem dX12_take_269 : decode cX12_take 269 = .ok (.sipush 152, 3) := xdc ddX12_take_3 27 rfl
theorem dX12_take_272 : decode cX12_take 272 = .ok (.if_icmp .ge 23, 3) := xdc ddX12_take_3 28 rfl
theorem dX12_take_275 : decode cX12_take 275 = .ok (.aload_n 0, 1) := xdc ddX12_take_3 29 rfl
theorem dX12_take_276 : decode cX12_take 276 = .ok (.bipush 15, 2) := xdc ddX12_take_3 30 rfl
theorem dX12_take_278 : decode cX12_take 278 = .ok (.bipush 14, 2) := xdc ddX12_take_3 31 rfl
theorem dX12_take_280 : decode cX12_take 280 = .ok (.iconst 4, 1) := xdc ddX12_take_3 32 rfl
theorem dX12_take_281 : decode cX12_take 281 = .ok (.invokevirtual 118, 3) := xdc ddX12_take_3 33 rfl
theorem dX12_take_284 : decode cX12_take 284 = .ok (.aload_n 0, 1) := xdc ddX12_take_3 34 rfl
theorem dX12_take_285 : decode cX12_take 285 = .ok (.iload_n 2, 1) := xdc ddX12_take_3 35 rfl
theorem dX12_take_286 : decode cX12_take 286 = .ok (.bipush 7, 2) := xdc ddX12_take_3 36 rfl
theorem dX12_take_288 : decode cX12_take 288 = .ok (.iand, 1) := xdc ddX12_take_3 37 rfl
theorem dX12_take_289 : decode cX12_take 289 = .ok (.putfield 88, 3) := xdc ddX12_take_3 38 rfl
theorem dX12_take_292 : decode cX12_take 292 = .ok (.goto 88, 3) := xdc ddX12_take_3 39 rfl
theorem ddX12_take_4 : xdec cX12_take [(295, (.iload_n 2, 1)), (296, (.sipush 176, 3)), (299, (.if_icmp .lt 49, 3)), (302, (.iload_n 2, 1)), (303, (.sipush 192, 3)), (306, (.if_icmp .ge 42, 3)), (309, (.aload_n 0, 1)), (310, (.bipush 16, 2)), (312, (.bipush 13, 2)), (314, (.iload_n 2, 1)), (315, (.sipush 184, 3)), (318, (.if_icmp .ge 7, 3)), (321, (.iconst 1, 1)), (322, (.goto 4, 3)), (325, (.iconst 4, 1)), (326, (.invokevirtual 118, 3)), (329, (.aload_n 0, 1)), (330, (.iload_n 2, 1)), (331, (.bipush 7, 2)), (333, (.iand, 1)), (334, (.putfield 88, 3)), (337, (.aload_n 0, 1)), (338, (.aload_n 0, 1)), (339, (.getfield 76, 3)), (342, (.invokevirtual 112, 3)), (345, (.goto 35, 3)), (348, (.iload_n 2, 1)), (349, (.bipush 15, 2)), (351, (.if_icmp .ne 10, 3)), (354, (.aload_n 0, 1)), (355, (.invokevirtual 128, 3)), (358, (.goto 22, 3)), (361, (.iload_n 2, 1)), (362, (.bipush 102, 2)), (364, (.if_icmp .ne 10, 3)), (367, (.aload_n 0, 1)), (368, (.invokevirtual 131, 3)), (371, (.goto 9, 3)), (374, (.aload_n 0, 1)), (375, (.iload_n 2, 1))] = true := by decide +kernel
theorem dX12_take_295 : decode cX12_take 295 = .ok (.iload_n 2, 1) := xdc ddX12_take_4 0 rfl
theorem dX12_take_296 : decode cX12_take 296 = .ok (.sipush 176, 3) := xdc ddX12_take_4 1 rfl
theorem dX12_take_299 : decode cX12_take 299 = .ok (.if_icmp .lt 49, 3) := xdc ddX12_take_4 2 rfl
theorem dX12_take_302 : decode cX12_take 302 = .ok (.iload_n 2, 1) := xdc ddX12_take_4 3 rfl
theorem dX12_take_303 : decode cX12_take 303 = .ok (.sipush 192, 3) := xdc ddX12_take_4 4 rfl
theorem dX12_take_306 : decode cX12_take 306 = .ok (.if_icmp .ge 42, 3) := xdc ddX12_take_4 5 rfl
theorem dX12_take_309 : decode cX12_take 309 = .ok (.aload_n 0, 1) := xdc ddX12_take_4 6 rfl
theorem dX12_take_310 : decode cX12_take 310 = .ok (.bipush 16, 2) := xdc ddX12_take_4 7 rfl
theorem dX12_take_312 : decode cX12_take 312 = .ok (.bipush 13, 2) := xdc ddX12_take_4 8 rfl
theorem dX12_take_314 : decode cX12_take 314 = .ok (.iload_n 2, 1) := xdc ddX12_take_4 9 rfl
theorem dX12_take_315 : decode cX12_take 315 = .ok (.sipush 184, 3) := xdc ddX12_take_4 10 rfl
theorem dX12_take_318 : decode cX12_take 318 = .ok (.if_icmp .ge 7, 3) := xdc ddX12_take_4 11 rfl
theorem dX12_take_321 : decode cX12_take 321 = .ok (.iconst 1, 1) := xdc ddX12_take_4 12 rfl
theorem dX12_take_322 : decode cX12_take 322 = .ok (.goto 4, 3) := xdc ddX12_take_4 13 rfl
theorem dX12_take_325 : decode cX12_take 325 = .ok (.iconst 4, 1) := xdc ddX12_take_4 14 rfl
theorem dX12_take_326 : decode cX12_take 326 = .ok (.invokevirtual 118, 3) := xdc ddX12_take_4 15 rfl
theorem dX12_take_329 : decode cX12_take 329 = .ok (.aload_n 0, 1) := xdc ddX12_take_4 16 rfl
theorem dX12_take_330 : decode cX12_take 330 = .ok (.iload_n 2, 1) := xdc ddX12_take_4 17 rfl
theorem dX12_take_331 : decode cX12_take 331 = .ok (.bipush 7, 2) := xdc ddX12_take_4 18 rfl
theorem dX12_take_333 : decode cX12_take 333 = .ok (.iand, 1) := xdc ddX12_take_4 19 rfl
theorem dX12_take_334 : decode cX12_take 334 = .ok (.putfield 88, 3) := xdc ddX12_take_4 20 rfl
theorem dX12_take_337 : decode cX12_take 337 = .ok (.aload_n 0, 1) := xdc ddX12_take_4 21 rfl
theorem dX12_take_338 : decode cX12_take 338 = .ok (.aload_n 0, 1) := xdc ddX12_take_4 22 rfl
theorem dX12_take_339 : decode cX12_take 339 = .ok (.getfield 76, 3) := xdc ddX12_take_4 23 rfl
theorem dX12_take_342 : decode cX12_take 342 = .ok (.invokevirtual 112, 3) := xdc ddX12_take_4 24 rfl
theorem dX12_take_345 : decode cX12_take 345 = .ok (.goto 35, 3) := xdc ddX12_take_4 25 rfl
theorem dX12_take_348 : decode cX12_take 348 = .ok (.iload_n 2, 1) := xdc ddX12_take_4 26 rfl
theorem dX12_take_349 : decode cX12_take 349 = .ok (.bipush 15, 2) := xdc ddX12_take_4 27 rfl
theorem dX12_take_351 : decode cX12_take 351 = .ok (.if_icmp .ne 10, 3) := xdc ddX12_take_4 28 rfl
theorem dX12_take_354 : decode cX12_take 354 = .ok (.aload_n 0, 1) := xdc ddX12_take_4 29 rfl
theorem dX12_take_355 : decode cX12_take 355 = .ok (.invokevirtual 128, 3) := xdc ddX12_take_4 30 rfl
theorem dX12_take_358 : decode cX12_take 358 = .ok (.goto 22, 3) := xdc ddX12_take_4 31 rfl
theorem dX12_take_361 : decode cX12_take 361 = .ok (.iload_n 2, 1) := xdc ddX12_take_4 32 rfl
theorem dX12_take_362 : decode cX12_take 362 = .ok (.bipush 102, 2) := xdc ddX12_take_4 33 rfl
theorem dX12_take_364 : decode cX12_take 364 = .ok (.if_icmp .ne 10, 3) := xdc ddX12_take_4 34 rfl
theorem dX12_take_367 : decode cX12_take 367 = .ok (.aload_n 0, 1) := xdc ddX12_take_4 35 rfl
theorem dX12_take_368 : decode cX12_take 368 = .ok (.invokevirtual 131, 3) := xdc ddX12_take_4 36 rfl
theorem dX12_take_371 : decode cX12_take 371 = .ok (.goto 9, 3) := xdc ddX12_take_4 37 rfl
theorem dX12_take_374 : decode cX12_take 374 = .ok (.aload_n 0, 1) := xdc ddX12_take_4 38 rfl
theorem dX12_take_375 : decode cX12_take 375 = .ok (.iload_n 2, 1) := xdc ddX12_take_4 39 rfl
theorem ddX12_take_5 : xdec cX12_take [(376, (.iload_n 3, 1)), (377, (.invokevirtual 134, 3)), (380, (.aload_n 0, 1)), (381, (.aload_n 0, 1)), (382, (.getfield 56, 3)), (385, (.iload_n 1, 1)), (386, (.isub, 1)), (387, (.putfield 138, 3)), (390, (.aload_n 0, 1)), (391, (.getfield 62, 3)), (394, (.ireturn, 1))] = true := by decide +kernel
theorem dX12_take_376 : decode cX12_take 376 = .ok (.iload_n 3, 1) := xdc ddX12_take_5 0 rfl
theorem dX12_take_377 : decode cX12_take 377 = .ok (.invokevirtual 134, 3) := xdc ddX12_take_5 1 rfl
theorem dX12_take_380 : decode cX12_take 380 = .ok (.aload_n 0, 1) := xdc ddX12_take_5 2 rfl
theorem dX12_take_381 : decode cX12_take 381 = .ok (.aload_n 0, 1) := xdc ddX12_take_5 3 rfl
theorem dX12_take_382 : decode cX12_take 382 = .ok (.getfield 56, 3) := xdc ddX12_take_5 4 rfl
theorem dX12_take_385 : decode cX12_take 385 = .ok (.iload_n 1, 1) := xdc ddX12_take_5 5 rfl
theorem dX12_take_386 : decode cX12_take 386 = .ok (.isub, 1) := xdc ddX12_take_5 6 rfl
theorem dX12_take_387 : decode cX12_take 387 = .ok (.putfield 138, 3) := xdc ddX12_take_5 7 rfl
theorem dX12_take_390 : decode cX12_take 390 = .ok (.aload_n 0, 1) := xdc ddX12_take_5 8 rfl
theorem dX12_take_391 : decode cX12_take 391 = .ok (.getfield 62, 3) := xdc ddX12_take_5 9 rfl
theorem dX12_take_394 : decode cX12_take 394 = .ok (.ireturn, 1) := xdc ddX12_take_5 10 rfl
abbrev cX12_hasE : ByteArray := prog_14_method_16_code
theorem ddX12_hasE_0 : xdec cX12_hasE [(0, (.aload_n 0, 1)), (1, (.getfield 73, 3)), (4, (.iconst 1, 1)), (5, (.if_icmp .eq 63, 3)), (8, (.aload_n 0, 1)), (9, (.getfield 73, 3)), (12, (.iconst 2, 1)), (13, (.if_icmp .eq 55, 3)), (16, (.aload_n 0, 1)), (17, (.getfield 73, 3)), (20, (.iconst 4, 1)), (21, (.if_icmp .eq 47, 3)), (24, (.aload_n 0, 1)), (25, (.getfield 73, 3)), (28, (.iconst 5, 1)), (29, (.if_icmp .eq 39, 3)), (32, (.aload_n 0, 1)), (33, (.getfield 73, 3)), (36, (.bipush 9, 2)), (38, (.if_icmp .eq 30, 3)), (41, (.aload_n 0, 1)), (42, (.getfield 73, 3)), (45, (.bipush 10, 2)), (47, (.if_icmp .eq 21, 3)), (50, (.aload_n 0, 1)), (51, (.getfield 73, 3)), (54, (.bipush 11, 2)), (56, (.if_icmp .eq 12, 3)), (59, (.aload_n 0, 1)), (60, (.getfield 73, 3)), (63, (.bipush 12, 2)), (65, (.if_icmp .ne 7, 3)), (68, (.iconst 1, 1)), (69, (.goto 4, 3)), (72, (.iconst 0, 1)), (73, (.ireturn, 1))] = true := by decide +kernel
theorem dX12_hasE_0 : decode cX12_hasE 0 = .ok (.aload_n 0, 1) := xdc ddX12_hasE_0 0 rfl
theorem dX12_hasE_1 : decode cX12_hasE 1 = .ok (.getfield 73, 3) := xdc ddX12_hasE_0 1 rfl
theorem dX12_hasE_4 : decode cX12_hasE 4 = .ok (.iconst 1, 1) := xdc ddX12_hasE_0 2 rfl
theorem dX12_hasE_5 : decode cX12_hasE 5 = .ok (.if_icmp .eq 63, 3) := xdc ddX12_hasE_0 3 rfl
theorem dX12_hasE_8 : decode cX12_hasE 8 = .ok (.aload_n 0, 1) := xdc ddX12_hasE_0 4 rfl
theorem dX12_hasE_9 : decode cX12_hasE 9 = .ok (.getfield 73, 3) := xdc ddX12_hasE_0 5 rfl
theorem dX12_hasE_12 : decode cX12_hasE 12 = .ok (.iconst 2, 1) := xdc ddX12_hasE_0 6 rfl
theorem dX12_hasE_13 : decode cX12_hasE 13 = .ok (.if_icmp .eq 55, 3) := xdc ddX12_hasE_0 7 rfl
theorem dX12_hasE_16 : decode cX12_hasE 16 = .ok (.aload_n 0, 1) := xdc ddX12_hasE_0 8 rfl
theorem dX12_hasE_17 : decode cX12_hasE 17 = .ok (.getfield 73, 3) := xdc ddX12_hasE_0 9 rfl
theorem dX12_hasE_20 : decode cX12_hasE 20 = .ok (.iconst 4, 1) := xdc ddX12_hasE_0 10 rfl
theorem dX12_hasE_21 : decode cX12_hasE 21 = .ok (.if_icmp .eq 47, 3) := xdc ddX12_hasE_0 11 rfl
theorem dX12_hasE_24 : decode cX12_hasE 24 = .ok (.aload_n 0, 1) := xdc ddX12_hasE_0 12 rfl
theorem dX12_hasE_25 : decode cX12_hasE 25 = .ok (.getfield 73, 3) := xdc ddX12_hasE_0 13 rfl
theorem dX12_hasE_28 : decode cX12_hasE 28 = .ok (.iconst 5, 1) := xdc ddX12_hasE_0 14 rfl
theorem dX12_hasE_29 : decode cX12_hasE 29 = .ok (.if_icmp .eq 39, 3) := xdc ddX12_hasE_0 15 rfl
theorem dX12_hasE_32 : decode cX12_hasE 32 = .ok (.aload_n 0, 1) := xdc ddX12_hasE_0 16 rfl
theorem dX12_hasE_33 : decode cX12_hasE 33 = .ok (.getfield 73, 3) := xdc ddX12_hasE_0 17 rfl
theorem dX12_hasE_36 : decode cX12_hasE 36 = .ok (.bipush 9, 2) := xdc ddX12_hasE_0 18 rfl
theorem dX12_hasE_38 : decode cX12_hasE 38 = .ok (.if_icmp .eq 30, 3) := xdc ddX12_hasE_0 19 rfl
theorem dX12_hasE_41 : decode cX12_hasE 41 = .ok (.aload_n 0, 1) := xdc ddX12_hasE_0 20 rfl
theorem dX12_hasE_42 : decode cX12_hasE 42 = .ok (.getfield 73, 3) := xdc ddX12_hasE_0 21 rfl
theorem dX12_hasE_45 : decode cX12_hasE 45 = .ok (.bipush 10, 2) := xdc ddX12_hasE_0 22 rfl
theorem dX12_hasE_47 : decode cX12_hasE 47 = .ok (.if_icmp .eq 21, 3) := xdc ddX12_hasE_0 23 rfl
theorem dX12_hasE_50 : decode cX12_hasE 50 = .ok (.aload_n 0, 1) := xdc ddX12_hasE_0 24 rfl
theorem dX12_hasE_51 : decode cX12_hasE 51 = .ok (.getfield 73, 3) := xdc ddX12_hasE_0 25 rfl
theorem dX12_hasE_54 : decode cX12_hasE 54 = .ok (.bipush 11, 2) := xdc ddX12_hasE_0 26 rfl
theorem dX12_hasE_56 : decode cX12_hasE 56 = .ok (.if_icmp .eq 12, 3) := xdc ddX12_hasE_0 27 rfl
theorem dX12_hasE_59 : decode cX12_hasE 59 = .ok (.aload_n 0, 1) := xdc ddX12_hasE_0 28 rfl
theorem dX12_hasE_60 : decode cX12_hasE 60 = .ok (.getfield 73, 3) := xdc ddX12_hasE_0 29 rfl
theorem dX12_hasE_63 : decode cX12_hasE 63 = .ok (.bipush 12, 2) := xdc ddX12_hasE_0 30 rfl
theorem dX12_hasE_65 : decode cX12_hasE 65 = .ok (.if_icmp .ne 7, 3) := xdc ddX12_hasE_0 31 rfl
theorem dX12_hasE_68 : decode cX12_hasE 68 = .ok (.iconst 1, 1) := xdc ddX12_hasE_0 32 rfl
theorem dX12_hasE_69 : decode cX12_hasE 69 = .ok (.goto 4, 3) := xdc ddX12_hasE_0 33 rfl
theorem dX12_hasE_72 : decode cX12_hasE 72 = .ok (.iconst 0, 1) := xdc ddX12_hasE_0 34 rfl
theorem dX12_hasE_73 : decode cX12_hasE 73 = .ok (.ireturn, 1) := xdc ddX12_hasE_0 35 rfl
abbrev cX12_writesFirst : ByteArray := prog_14_method_17_code
theorem ddX12_writesFirst_0 : xdec cX12_writesFirst [(0, (.aload_n 0, 1)), (1, (.getfield 70, 3)), (4, (.bipush 9, 2)), (6, (.if_icmp .gt 12, 3)), (9, (.aload_n 0, 1)), (10, (.getfield 70, 3)), (13, (.bipush 7, 2)), (15, (.if_icmp .ne 111, 3)), (18, (.aload_n 0, 1)), (19, (.getfield 70, 3)), (22, (.bipush 11, 2)), (24, (.if_icmp .eq 102, 3)), (27, (.aload_n 0, 1)), (28, (.getfield 70, 3)), (31, (.bipush 15, 2)), (33, (.if_icmp .eq 93, 3)), (36, (.aload_n 0, 1)), (37, (.getfield 70, 3)), (40, (.bipush 16, 2)), (42, (.if_icmp .eq 84, 3)), (45, (.aload_n 0, 1)), (46, (.getfield 70, 3)), (49, (.bipush 21, 2)), (51, (.if_icmp .lt 12, 3)), (54, (.aload_n 0, 1)), (55, (.getfield 70, 3)), (58, (.bipush 27, 2)), (60, (.if_icmp .le 66, 3)), (63, (.aload_n 0, 1)), (64, (.getfield 70, 3)), (67, (.bipush 36, 2)), (69, (.if_icmp .eq 57, 3)), (72, (.aload_n 0, 1)), (73, (.getfield 70, 3)), (76, (.bipush 37, 2)), (78, (.if_icmp .eq 48, 3)), (81, (.aload_n 0, 1)), (82, (.getfield 70, 3)), (85, (.bipush 45, 2)), (87, (.if_icmp .eq 39, 3))] = true := by decide +kernel
theorem dX12_writesFirst_0 : decode cX12_writesFirst 0 = .ok (.aload_n 0, 1) := xdc ddX12_writesFirst_0 0 rfl
theorem dX12_writesFirst_1 : decode cX12_writesFirst 1 = .ok (.getfield 70, 3) := xdc ddX12_writesFirst_0 1 rfl
theorem dX12_writesFirst_4 : decode cX12_writesFirst 4 = .ok (.bipush 9, 2) := xdc ddX12_writesFirst_0 2 rfl
theorem dX12_writesFirst_6 : decode cX12_writesFirst 6 = .ok (.if_icmp .gt 12, 3) := xdc ddX12_writesFirst_0 3 rfl
theorem dX12_writesFirst_9 : decode cX12_writesFirst 9 = .ok (.aload_n 0, 1) := xdc ddX12_writesFirst_0 4 rfl
theorem dX12_writesFirst_10 : decode cX12_writesFirst 10 = .ok (.getfield 70, 3) := xdc ddX12_writesFirst_0 5 rfl
theorem dX12_writesFirst_13 : decode cX12_writesFirst 13 = .ok (.bipush 7, 2) := xdc ddX12_writesFirst_0 6 rfl
theorem dX12_writesFirst_15 : decode cX12_writesFirst 15 = .ok (.if_icmp .ne 111, 3) := xdc ddX12_writesFirst_0 7 rfl
theorem dX12_writesFirst_18 : decode cX12_writesFirst 18 = .ok (.aload_n 0, 1) := xdc ddX12_writesFirst_0 8 rfl
theorem dX12_writesFirst_19 : decode cX12_writesFirst 19 = .ok (.getfield 70, 3) := xdc ddX12_writesFirst_0 9 rfl
theorem dX12_writesFirst_22 : decode cX12_writesFirst 22 = .ok (.bipush 11, 2) := xdc ddX12_writesFirst_0 10 rfl
theorem dX12_writesFirst_24 : decode cX12_writesFirst 24 = .ok (.if_icmp .eq 102, 3) := xdc ddX12_writesFirst_0 11 rfl
theorem dX12_writesFirst_27 : decode cX12_writesFirst 27 = .ok (.aload_n 0, 1) := xdc ddX12_writesFirst_0 12 rfl
theorem dX12_writesFirst_28 : decode cX12_writesFirst 28 = .ok (.getfield 70, 3) := xdc ddX12_writesFirst_0 13 rfl
theorem dX12_writesFirst_31 : decode cX12_writesFirst 31 = .ok (.bipush 15, 2) := xdc ddX12_writesFirst_0 14 rfl
theorem dX12_writesFirst_33 : decode cX12_writesFirst 33 = .ok (.if_icmp .eq 93, 3) := xdc ddX12_writesFirst_0 15 rfl
theorem dX12_writesFirst_36 : decode cX12_writesFirst 36 = .ok (.aload_n 0, 1) := xdc ddX12_writesFirst_0 16 rfl
theorem dX12_writesFirst_37 : decode cX12_writesFirst 37 = .ok (.getfield 70, 3) := xdc ddX12_writesFirst_0 17 rfl
theorem dX12_writesFirst_40 : decode cX12_writesFirst 40 = .ok (.bipush 16, 2) := xdc ddX12_writesFirst_0 18 rfl
theorem dX12_writesFirst_42 : decode cX12_writesFirst 42 = .ok (.if_icmp .eq 84, 3) := xdc ddX12_writesFirst_0 19 rfl
theorem dX12_writesFirst_45 : decode cX12_writesFirst 45 = .ok (.aload_n 0, 1) := xdc ddX12_writesFirst_0 20 rfl
theorem dX12_writesFirst_46 : decode cX12_writesFirst 46 = .ok (.getfield 70, 3) := xdc ddX12_writesFirst_0 21 rfl
theorem dX12_writesFirst_49 : decode cX12_writesFirst 49 = .ok (.bipush 21, 2) := xdc ddX12_writesFirst_0 22 rfl
theorem dX12_writesFirst_51 : decode cX12_writesFirst 51 = .ok (.if_icmp .lt 12, 3) := xdc ddX12_writesFirst_0 23 rfl
theorem dX12_writesFirst_54 : decode cX12_writesFirst 54 = .ok (.aload_n 0, 1) := xdc ddX12_writesFirst_0 24 rfl
theorem dX12_writesFirst_55 : decode cX12_writesFirst 55 = .ok (.getfield 70, 3) := xdc ddX12_writesFirst_0 25 rfl
theorem dX12_writesFirst_58 : decode cX12_writesFirst 58 = .ok (.bipush 27, 2) := xdc ddX12_writesFirst_0 26 rfl
theorem dX12_writesFirst_60 : decode cX12_writesFirst 60 = .ok (.if_icmp .le 66, 3) := xdc ddX12_writesFirst_0 27 rfl
theorem dX12_writesFirst_63 : decode cX12_writesFirst 63 = .ok (.aload_n 0, 1) := xdc ddX12_writesFirst_0 28 rfl
theorem dX12_writesFirst_64 : decode cX12_writesFirst 64 = .ok (.getfield 70, 3) := xdc ddX12_writesFirst_0 29 rfl
theorem dX12_writesFirst_67 : decode cX12_writesFirst 67 = .ok (.bipush 36, 2) := xdc ddX12_writesFirst_0 30 rfl
theorem dX12_writesFirst_69 : decode cX12_writesFirst 69 = .ok (.if_icmp .eq 57, 3) := xdc ddX12_writesFirst_0 31 rfl
theorem dX12_writesFirst_72 : decode cX12_writesFirst 72 = .ok (.aload_n 0, 1) := xdc ddX12_writesFirst_0 32 rfl
theorem dX12_writesFirst_73 : decode cX12_writesFirst 73 = .ok (.getfield 70, 3) := xdc ddX12_writesFirst_0 33 rfl
theorem dX12_writesFirst_76 : decode cX12_writesFirst 76 = .ok (.bipush 37, 2) := xdc ddX12_writesFirst_0 34 rfl
theorem dX12_writesFirst_78 : decode cX12_writesFirst 78 = .ok (.if_icmp .eq 48, 3) := xdc ddX12_writesFirst_0 35 rfl
theorem dX12_writesFirst_81 : decode cX12_writesFirst 81 = .ok (.aload_n 0, 1) := xdc ddX12_writesFirst_0 36 rfl
theorem dX12_writesFirst_82 : decode cX12_writesFirst 82 = .ok (.getfield 70, 3) := xdc ddX12_writesFirst_0 37 rfl
theorem dX12_writesFirst_85 : decode cX12_writesFirst 85 = .ok (.bipush 45, 2) := xdc ddX12_writesFirst_0 38 rfl
theorem dX12_writesFirst_87 : decode cX12_writesFirst 87 = .ok (.if_icmp .eq 39, 3) := xdc ddX12_writesFirst_0 39 rfl
theorem ddX12_writesFirst_1 : xdec cX12_writesFirst [(90, (.aload_n 0, 1)), (91, (.getfield 70, 3)), (94, (.bipush 46, 2)), (96, (.if_icmp .eq 30, 3)), (99, (.aload_n 0, 1)), (100, (.getfield 70, 3)), (103, (.bipush 47, 2)), (105, (.if_icmp .eq 21, 3)), (108, (.aload_n 0, 1)), (109, (.getfield 70, 3)), (112, (.bipush 48, 2)), (114, (.if_icmp .eq 12, 3)), (117, (.aload_n 0, 1)), (118, (.getfield 70, 3)), (121, (.bipush 53, 2)), (123, (.if_icmp .ne 7, 3)), (126, (.iconst 1, 1)), (127, (.goto 4, 3)), (130, (.iconst 0, 1)), (131, (.ireturn, 1))] = true := by decide +kernel
theorem dX12_writesFirst_90 : decode cX12_writesFirst 90 = .ok (.aload_n 0, 1) := xdc ddX12_writesFirst_1 0 rfl
theorem dX12_writesFirst_91 : decode cX12_writesFirst 91 = .ok (.getfield 70, 3) := xdc ddX12_writesFirst_1 1 rfl
theorem dX12_writesFirst_94 : decode cX12_writesFirst 94 = .ok (.bipush 46, 2) := xdc ddX12_writesFirst_1 2 rfl
theorem dX12_writesFirst_96 : decode cX12_writesFirst 96 = .ok (.if_icmp .eq 30, 3) := xdc ddX12_writesFirst_1 3 rfl
theorem dX12_writesFirst_99 : decode cX12_writesFirst 99 = .ok (.aload_n 0, 1) := xdc ddX12_writesFirst_1 4 rfl
theorem dX12_writesFirst_100 : decode cX12_writesFirst 100 = .ok (.getfield 70, 3) := xdc ddX12_writesFirst_1 5 rfl
theorem dX12_writesFirst_103 : decode cX12_writesFirst 103 = .ok (.bipush 47, 2) := xdc ddX12_writesFirst_1 6 rfl
theorem dX12_writesFirst_105 : decode cX12_writesFirst 105 = .ok (.if_icmp .eq 21, 3) := xdc ddX12_writesFirst_1 7 rfl
theorem dX12_writesFirst_108 : decode cX12_writesFirst 108 = .ok (.aload_n 0, 1) := xdc ddX12_writesFirst_1 8 rfl
theorem dX12_writesFirst_109 : decode cX12_writesFirst 109 = .ok (.getfield 70, 3) := xdc ddX12_writesFirst_1 9 rfl
theorem dX12_writesFirst_112 : decode cX12_writesFirst 112 = .ok (.bipush 48, 2) := xdc ddX12_writesFirst_1 10 rfl
theorem dX12_writesFirst_114 : decode cX12_writesFirst 114 = .ok (.if_icmp .eq 12, 3) := xdc ddX12_writesFirst_1 11 rfl
theorem dX12_writesFirst_117 : decode cX12_writesFirst 117 = .ok (.aload_n 0, 1) := xdc ddX12_writesFirst_1 12 rfl
theorem dX12_writesFirst_118 : decode cX12_writesFirst 118 = .ok (.getfield 70, 3) := xdc ddX12_writesFirst_1 13 rfl
theorem dX12_writesFirst_121 : decode cX12_writesFirst 121 = .ok (.bipush 53, 2) := xdc ddX12_writesFirst_1 14 rfl
theorem dX12_writesFirst_123 : decode cX12_writesFirst 123 = .ok (.if_icmp .ne 7, 3) := xdc ddX12_writesFirst_1 15 rfl
theorem dX12_writesFirst_126 : decode cX12_writesFirst 126 = .ok (.iconst 1, 1) := xdc ddX12_writesFirst_1 16 rfl
theorem dX12_writesFirst_127 : decode cX12_writesFirst 127 = .ok (.goto 4, 3) := xdc ddX12_writesFirst_1 17 rfl
theorem dX12_writesFirst_130 : decode cX12_writesFirst 130 = .ok (.iconst 0, 1) := xdc ddX12_writesFirst_1 18 rfl
theorem dX12_writesFirst_131 : decode cX12_writesFirst 131 = .ok (.ireturn, 1) := xdc ddX12_writesFirst_1 19 rfl
abbrev cX12_writesE : ByteArray := prog_14_method_18_code
theorem ddX12_writesE_0 : xdec cX12_writesE [(0, (.aload_n 0, 1)), (1, (.invokevirtual 145, 3)), (4, (.ifCond .ne 5, 3)), (7, (.iconst 0, 1)), (8, (.ireturn, 1)), (9, (.aload_n 0, 1)), (10, (.getfield 73, 3)), (13, (.iconst 2, 1)), (14, (.if_icmp .eq 12, 3)), (17, (.aload_n 0, 1)), (18, (.getfield 73, 3)), (21, (.bipush 9, 2)), (23, (.if_icmp .ne 7, 3)), (26, (.iconst 0, 1)), (27, (.goto 7, 3)), (30, (.aload_n 0, 1)), (31, (.invokevirtual 149, 3)), (34, (.ireturn, 1))] = true := by decide +kernel
theorem dX12_writesE_0 : decode cX12_writesE 0 = .ok (.aload_n 0, 1) := xdc ddX12_writesE_0 0 rfl
theorem dX12_writesE_1 : decode cX12_writesE 1 = .ok (.invokevirtual 145, 3) := xdc ddX12_writesE_0 1 rfl
theorem dX12_writesE_4 : decode cX12_writesE 4 = .ok (.ifCond .ne 5, 3) := xdc ddX12_writesE_0 2 rfl
theorem dX12_writesE_7 : decode cX12_writesE 7 = .ok (.iconst 0, 1) := xdc ddX12_writesE_0 3 rfl
theorem dX12_writesE_8 : decode cX12_writesE 8 = .ok (.ireturn, 1) := xdc ddX12_writesE_0 4 rfl
theorem dX12_writesE_9 : decode cX12_writesE 9 = .ok (.aload_n 0, 1) := xdc ddX12_writesE_0 5 rfl
theorem dX12_writesE_10 : decode cX12_writesE 10 = .ok (.getfield 73, 3) := xdc ddX12_writesE_0 6 rfl
theorem dX12_writesE_13 : decode cX12_writesE 13 = .ok (.iconst 2, 1) := xdc ddX12_writesE_0 7 rfl
theorem dX12_writesE_14 : decode cX12_writesE 14 = .ok (.if_icmp .eq 12, 3) := xdc ddX12_writesE_0 8 rfl
theorem dX12_writesE_17 : decode cX12_writesE 17 = .ok (.aload_n 0, 1) := xdc ddX12_writesE_0 9 rfl
theorem dX12_writesE_18 : decode cX12_writesE 18 = .ok (.getfield 73, 3) := xdc ddX12_writesE_0 10 rfl
theorem dX12_writesE_21 : decode cX12_writesE 21 = .ok (.bipush 9, 2) := xdc ddX12_writesE_0 11 rfl
theorem dX12_writesE_23 : decode cX12_writesE 23 = .ok (.if_icmp .ne 7, 3) := xdc ddX12_writesE_0 12 rfl
theorem dX12_writesE_26 : decode cX12_writesE 26 = .ok (.iconst 0, 1) := xdc ddX12_writesE_0 13 rfl
theorem dX12_writesE_27 : decode cX12_writesE 27 = .ok (.goto 7, 3) := xdc ddX12_writesE_0 14 rfl
theorem dX12_writesE_30 : decode cX12_writesE 30 = .ok (.aload_n 0, 1) := xdc ddX12_writesE_0 15 rfl
theorem dX12_writesE_31 : decode cX12_writesE 31 = .ok (.invokevirtual 149, 3) := xdc ddX12_writesE_0 16 rfl
theorem dX12_writesE_34 : decode cX12_writesE 34 = .ok (.ireturn, 1) := xdc ddX12_writesE_0 17 rfl
abbrev cX12_writesMemory : ByteArray := prog_14_method_19_code
theorem ddX12_writesMemory_0 : xdec cX12_writesMemory [(0, (.aload_n 0, 1)), (1, (.getfield 82, 3)), (4, (.iconst 3, 1)), (5, (.if_icmp .eq 14, 3)), (8, (.aload_n 0, 1)), (9, (.invokevirtual 152, 3)), (12, (.ifCond .eq 7, 3)), (15, (.iconst 1, 1)), (16, (.goto 4, 3)), (19, (.iconst 0, 1)), (20, (.ireturn, 1))] = true := by decide +kernel
theorem dX12_writesMemory_0 : decode cX12_writesMemory 0 = .ok (.aload_n 0, 1) := xdc ddX12_writesMemory_0 0 rfl
theorem dX12_writesMemory_1 : decode cX12_writesMemory 1 = .ok (.getfield 82, 3) := xdc ddX12_writesMemory_0 1 rfl
theorem dX12_writesMemory_4 : decode cX12_writesMemory 4 = .ok (.iconst 3, 1) := xdc ddX12_writesMemory_0 2 rfl
theorem dX12_writesMemory_5 : decode cX12_writesMemory 5 = .ok (.if_icmp .eq 14, 3) := xdc ddX12_writesMemory_0 3 rfl
theorem dX12_writesMemory_8 : decode cX12_writesMemory 8 = .ok (.aload_n 0, 1) := xdc ddX12_writesMemory_0 4 rfl
theorem dX12_writesMemory_9 : decode cX12_writesMemory 9 = .ok (.invokevirtual 152, 3) := xdc ddX12_writesMemory_0 5 rfl
theorem dX12_writesMemory_12 : decode cX12_writesMemory 12 = .ok (.ifCond .eq 7, 3) := xdc ddX12_writesMemory_0 6 rfl
theorem dX12_writesMemory_15 : decode cX12_writesMemory 15 = .ok (.iconst 1, 1) := xdc ddX12_writesMemory_0 7 rfl
theorem dX12_writesMemory_16 : decode cX12_writesMemory 16 = .ok (.goto 4, 3) := xdc ddX12_writesMemory_0 8 rfl
theorem dX12_writesMemory_19 : decode cX12_writesMemory 19 = .ok (.iconst 0, 1) := xdc ddX12_writesMemory_0 9 rfl
theorem dX12_writesMemory_20 : decode cX12_writesMemory 20 = .ok (.ireturn, 1) := xdc ddX12_writesMemory_0 10 rfl
abbrev cX12_writesG : ByteArray := prog_14_method_20_code
theorem ddX12_writesG_0 : xdec cX12_writesG [(0, (.aload_n 0, 1)), (1, (.getfield 73, 3)), (4, (.iconst 2, 1)), (5, (.if_icmp .ne 25, 3)), (8, (.aload_n 0, 1)), (9, (.getfield 70, 3)), (12, (.bipush 7, 2)), (14, (.if_icmp .eq 16, 3)), (17, (.aload_n 0, 1)), (18, (.getfield 70, 3)), (21, (.bipush 14, 2)), (23, (.if_icmp .eq 7, 3)), (26, (.iconst 1, 1)), (27, (.goto 4, 3)), (30, (.iconst 0, 1)), (31, (.istore_n 1, 1)), (32, (.iload_n 1, 1)), (33, (.ifCond .ne 38, 3)), (36, (.aload_n 0, 1)), (37, (.getfield 73, 3)), (40, (.bipush 9, 2)), (42, (.if_icmp .eq 29, 3)), (45, (.aload_n 0, 1)), (46, (.getfield 73, 3)), (49, (.iconst 1, 1)), (50, (.if_icmp .ne 25, 3)), (53, (.aload_n 0, 1)), (54, (.getfield 70, 3)), (57, (.bipush 15, 2)), (59, (.if_icmp .eq 12, 3)), (62, (.aload_n 0, 1)), (63, (.getfield 70, 3)), (66, (.bipush 53, 2)), (68, (.if_icmp .ne 7, 3)), (71, (.iconst 1, 1)), (72, (.goto 4, 3)), (75, (.iconst 0, 1)), (76, (.ireturn, 1))] = true := by decide +kernel
theorem dX12_writesG_0 : decode cX12_writesG 0 = .ok (.aload_n 0, 1) := xdc ddX12_writesG_0 0 rfl
theorem dX12_writesG_1 : decode cX12_writesG 1 = .ok (.getfield 73, 3) := xdc ddX12_writesG_0 1 rfl
theorem dX12_writesG_4 : decode cX12_writesG 4 = .ok (.iconst 2, 1) := xdc ddX12_writesG_0 2 rfl
theorem dX12_writesG_5 : decode cX12_writesG 5 = .ok (.if_icmp .ne 25, 3) := xdc ddX12_writesG_0 3 rfl
theorem dX12_writesG_8 : decode cX12_writesG 8 = .ok (.aload_n 0, 1) := xdc ddX12_writesG_0 4 rfl
theorem dX12_writesG_9 : decode cX12_writesG 9 = .ok (.getfield 70, 3) := xdc ddX12_writesG_0 5 rfl
theorem dX12_writesG_12 : decode cX12_writesG 12 = .ok (.bipush 7, 2) := xdc ddX12_writesG_0 6 rfl
theorem dX12_writesG_14 : decode cX12_writesG 14 = .ok (.if_icmp .eq 16, 3) := xdc ddX12_writesG_0 7 rfl
theorem dX12_writesG_17 : decode cX12_writesG 17 = .ok (.aload_n 0, 1) := xdc ddX12_writesG_0 8 rfl
theorem dX12_writesG_18 : decode cX12_writesG 18 = .ok (.getfield 70, 3) := xdc ddX12_writesG_0 9 rfl
theorem dX12_writesG_21 : decode cX12_writesG 21 = .ok (.bipush 14, 2) := xdc ddX12_writesG_0 10 rfl
theorem dX12_writesG_23 : decode cX12_writesG 23 = .ok (.if_icmp .eq 7, 3) := xdc ddX12_writesG_0 11 rfl
theorem dX12_writesG_26 : decode cX12_writesG 26 = .ok (.iconst 1, 1) := xdc ddX12_writesG_0 12 rfl
theorem dX12_writesG_27 : decode cX12_writesG 27 = .ok (.goto 4, 3) := xdc ddX12_writesG_0 13 rfl
theorem dX12_writesG_30 : decode cX12_writesG 30 = .ok (.iconst 0, 1) := xdc ddX12_writesG_0 14 rfl
theorem dX12_writesG_31 : decode cX12_writesG 31 = .ok (.istore_n 1, 1) := xdc ddX12_writesG_0 15 rfl
theorem dX12_writesG_32 : decode cX12_writesG 32 = .ok (.iload_n 1, 1) := xdc ddX12_writesG_0 16 rfl
theorem dX12_writesG_33 : decode cX12_writesG 33 = .ok (.ifCond .ne 38, 3) := xdc ddX12_writesG_0 17 rfl
theorem dX12_writesG_36 : decode cX12_writesG 36 = .ok (.aload_n 0, 1) := xdc ddX12_writesG_0 18 rfl
theorem dX12_writesG_37 : decode cX12_writesG 37 = .ok (.getfield 73, 3) := xdc ddX12_writesG_0 19 rfl
theorem dX12_writesG_40 : decode cX12_writesG 40 = .ok (.bipush 9, 2) := xdc ddX12_writesG_0 20 rfl
theorem dX12_writesG_42 : decode cX12_writesG 42 = .ok (.if_icmp .eq 29, 3) := xdc ddX12_writesG_0 21 rfl
theorem dX12_writesG_45 : decode cX12_writesG 45 = .ok (.aload_n 0, 1) := xdc ddX12_writesG_0 22 rfl
theorem dX12_writesG_46 : decode cX12_writesG 46 = .ok (.getfield 73, 3) := xdc ddX12_writesG_0 23 rfl
theorem dX12_writesG_49 : decode cX12_writesG 49 = .ok (.iconst 1, 1) := xdc ddX12_writesG_0 24 rfl
theorem dX12_writesG_50 : decode cX12_writesG 50 = .ok (.if_icmp .ne 25, 3) := xdc ddX12_writesG_0 25 rfl
theorem dX12_writesG_53 : decode cX12_writesG 53 = .ok (.aload_n 0, 1) := xdc ddX12_writesG_0 26 rfl
theorem dX12_writesG_54 : decode cX12_writesG 54 = .ok (.getfield 70, 3) := xdc ddX12_writesG_0 27 rfl
theorem dX12_writesG_57 : decode cX12_writesG 57 = .ok (.bipush 15, 2) := xdc ddX12_writesG_0 28 rfl
theorem dX12_writesG_59 : decode cX12_writesG 59 = .ok (.if_icmp .eq 12, 3) := xdc ddX12_writesG_0 29 rfl
theorem dX12_writesG_62 : decode cX12_writesG 62 = .ok (.aload_n 0, 1) := xdc ddX12_writesG_0 30 rfl
theorem dX12_writesG_63 : decode cX12_writesG 63 = .ok (.getfield 70, 3) := xdc ddX12_writesG_0 31 rfl
theorem dX12_writesG_66 : decode cX12_writesG 66 = .ok (.bipush 53, 2) := xdc ddX12_writesG_0 32 rfl
theorem dX12_writesG_68 : decode cX12_writesG 68 = .ok (.if_icmp .ne 7, 3) := xdc ddX12_writesG_0 33 rfl
theorem dX12_writesG_71 : decode cX12_writesG 71 = .ok (.iconst 1, 1) := xdc ddX12_writesG_0 34 rfl
theorem dX12_writesG_72 : decode cX12_writesG 72 = .ok (.goto 4, 3) := xdc ddX12_writesG_0 35 rfl
theorem dX12_writesG_75 : decode cX12_writesG 75 = .ok (.iconst 0, 1) := xdc ddX12_writesG_0 36 rfl
theorem dX12_writesG_76 : decode cX12_writesG 76 = .ok (.ireturn, 1) := xdc ddX12_writesG_0 37 rfl
abbrev cX12_writesStack : ByteArray := prog_14_method_21_code
theorem ddX12_writesStack_0 : xdec cX12_writesStack [(0, (.aload_n 0, 1)), (1, (.invokevirtual 155, 3)), (4, (.ifCond .eq 23, 3)), (7, (.aload_n 0, 1)), (8, (.getfield 76, 3)), (11, (.iconst 1, 1)), (12, (.if_icmp .le 15, 3)), (15, (.aload_n 0, 1)), (16, (.getfield 85, 3)), (19, (.iconst 4, 1)), (20, (.if_icmp .ne 7, 3)), (23, (.iconst 1, 1)), (24, (.goto 4, 3)), (27, (.iconst 0, 1)), (28, (.istore_n 1, 1)), (29, (.aload_n 0, 1)), (30, (.invokevirtual 152, 3)), (33, (.ifCond .eq 31, 3)), (36, (.aload_n 0, 1)), (37, (.getfield 82, 3)), (40, (.iconst 3, 1)), (41, (.if_icmp .ne 23, 3)), (44, (.aload_n 0, 1)), (45, (.getfield 79, 3)), (48, (.iconst 1, 1)), (49, (.if_icmp .le 15, 3)), (52, (.aload_n 0, 1)), (53, (.getfield 88, 3)), (56, (.iconst 4, 1)), (57, (.if_icmp .ne 7, 3)), (60, (.iconst 1, 1)), (61, (.goto 4, 3)), (64, (.iconst 0, 1)), (65, (.istore_n 2, 1)), (66, (.aload_n 0, 1)), (67, (.getfield 73, 3)), (70, (.bipush 6, 2)), (72, (.if_icmp .ne 12, 3)), (75, (.aload_n 0, 1)), (76, (.getfield 70, 3))] = true := by decide +kernel
theorem dX12_writesStack_0 : decode cX12_writesStack 0 = .ok (.aload_n 0, 1) := xdc ddX12_writesStack_0 0 rfl
theorem dX12_writesStack_1 : decode cX12_writesStack 1 = .ok (.invokevirtual 155, 3) := xdc ddX12_writesStack_0 1 rfl
theorem dX12_writesStack_4 : decode cX12_writesStack 4 = .ok (.ifCond .eq 23, 3) := xdc ddX12_writesStack_0 2 rfl
theorem dX12_writesStack_7 : decode cX12_writesStack 7 = .ok (.aload_n 0, 1) := xdc ddX12_writesStack_0 3 rfl
theorem dX12_writesStack_8 : decode cX12_writesStack 8 = .ok (.getfield 76, 3) := xdc ddX12_writesStack_0 4 rfl
theorem dX12_writesStack_11 : decode cX12_writesStack 11 = .ok (.iconst 1, 1) := xdc ddX12_writesStack_0 5 rfl
theorem dX12_writesStack_12 : decode cX12_writesStack 12 = .ok (.if_icmp .le 15, 3) := xdc ddX12_writesStack_0 6 rfl
theorem dX12_writesStack_15 : decode cX12_writesStack 15 = .ok (.aload_n 0, 1) := xdc ddX12_writesStack_0 7 rfl
theorem dX12_writesStack_16 : decode cX12_writesStack 16 = .ok (.getfield 85, 3) := xdc ddX12_writesStack_0 8 rfl
theorem dX12_writesStack_19 : decode cX12_writesStack 19 = .ok (.iconst 4, 1) := xdc ddX12_writesStack_0 9 rfl
theorem dX12_writesStack_20 : decode cX12_writesStack 20 = .ok (.if_icmp .ne 7, 3) := xdc ddX12_writesStack_0 10 rfl
theorem dX12_writesStack_23 : decode cX12_writesStack 23 = .ok (.iconst 1, 1) := xdc ddX12_writesStack_0 11 rfl
theorem dX12_writesStack_24 : decode cX12_writesStack 24 = .ok (.goto 4, 3) := xdc ddX12_writesStack_0 12 rfl
theorem dX12_writesStack_27 : decode cX12_writesStack 27 = .ok (.iconst 0, 1) := xdc ddX12_writesStack_0 13 rfl
theorem dX12_writesStack_28 : decode cX12_writesStack 28 = .ok (.istore_n 1, 1) := xdc ddX12_writesStack_0 14 rfl
theorem dX12_writesStack_29 : decode cX12_writesStack 29 = .ok (.aload_n 0, 1) := xdc ddX12_writesStack_0 15 rfl
theorem dX12_writesStack_30 : decode cX12_writesStack 30 = .ok (.invokevirtual 152, 3) := xdc ddX12_writesStack_0 16 rfl
theorem dX12_writesStack_33 : decode cX12_writesStack 33 = .ok (.ifCond .eq 31, 3) := xdc ddX12_writesStack_0 17 rfl
theorem dX12_writesStack_36 : decode cX12_writesStack 36 = .ok (.aload_n 0, 1) := xdc ddX12_writesStack_0 18 rfl
theorem dX12_writesStack_37 : decode cX12_writesStack 37 = .ok (.getfield 82, 3) := xdc ddX12_writesStack_0 19 rfl
theorem dX12_writesStack_40 : decode cX12_writesStack 40 = .ok (.iconst 3, 1) := xdc ddX12_writesStack_0 20 rfl
theorem dX12_writesStack_41 : decode cX12_writesStack 41 = .ok (.if_icmp .ne 23, 3) := xdc ddX12_writesStack_0 21 rfl
theorem dX12_writesStack_44 : decode cX12_writesStack 44 = .ok (.aload_n 0, 1) := xdc ddX12_writesStack_0 22 rfl
theorem dX12_writesStack_45 : decode cX12_writesStack 45 = .ok (.getfield 79, 3) := xdc ddX12_writesStack_0 23 rfl
theorem dX12_writesStack_48 : decode cX12_writesStack 48 = .ok (.iconst 1, 1) := xdc ddX12_writesStack_0 24 rfl
theorem dX12_writesStack_49 : decode cX12_writesStack 49 = .ok (.if_icmp .le 15, 3) := xdc ddX12_writesStack_0 25 rfl
theorem dX12_writesStack_52 : decode cX12_writesStack 52 = .ok (.aload_n 0, 1) := xdc ddX12_writesStack_0 26 rfl
theorem dX12_writesStack_53 : decode cX12_writesStack 53 = .ok (.getfield 88, 3) := xdc ddX12_writesStack_0 27 rfl
theorem dX12_writesStack_56 : decode cX12_writesStack 56 = .ok (.iconst 4, 1) := xdc ddX12_writesStack_0 28 rfl
theorem dX12_writesStack_57 : decode cX12_writesStack 57 = .ok (.if_icmp .ne 7, 3) := xdc ddX12_writesStack_0 29 rfl
theorem dX12_writesStack_60 : decode cX12_writesStack 60 = .ok (.iconst 1, 1) := xdc ddX12_writesStack_0 30 rfl
theorem dX12_writesStack_61 : decode cX12_writesStack 61 = .ok (.goto 4, 3) := xdc ddX12_writesStack_0 31 rfl
theorem dX12_writesStack_64 : decode cX12_writesStack 64 = .ok (.iconst 0, 1) := xdc ddX12_writesStack_0 32 rfl
theorem dX12_writesStack_65 : decode cX12_writesStack 65 = .ok (.istore_n 2, 1) := xdc ddX12_writesStack_0 33 rfl
theorem dX12_writesStack_66 : decode cX12_writesStack 66 = .ok (.aload_n 0, 1) := xdc ddX12_writesStack_0 34 rfl
theorem dX12_writesStack_67 : decode cX12_writesStack 67 = .ok (.getfield 73, 3) := xdc ddX12_writesStack_0 35 rfl
theorem dX12_writesStack_70 : decode cX12_writesStack 70 = .ok (.bipush 6, 2) := xdc ddX12_writesStack_0 36 rfl
theorem dX12_writesStack_72 : decode cX12_writesStack 72 = .ok (.if_icmp .ne 12, 3) := xdc ddX12_writesStack_0 37 rfl
theorem dX12_writesStack_75 : decode cX12_writesStack 75 = .ok (.aload_n 0, 1) := xdc ddX12_writesStack_0 38 rfl
theorem dX12_writesStack_76 : decode cX12_writesStack 76 = .ok (.getfield 70, 3) := xdc ddX12_writesStack_0 39 rfl
theorem ddX12_writesStack_1 : xdec cX12_writesStack [(79, (.bipush 10, 2)), (81, (.if_icmp .ne 12, 3)), (84, (.aload_n 0, 1)), (85, (.getfield 73, 3)), (88, (.bipush 14, 2)), (90, (.if_icmp .ne 11, 3)), (93, (.aload_n 0, 1)), (94, (.getfield 88, 3)), (97, (.iconst 4, 1)), (98, (.if_icmp .eq 28, 3)), (101, (.aload_n 0, 1)), (102, (.getfield 73, 3)), (105, (.bipush 13, 2)), (107, (.if_icmp .ne 23, 3)), (110, (.aload_n 0, 1)), (111, (.getfield 76, 3)), (114, (.iconst 1, 1)), (115, (.if_icmp .le 15, 3)), (118, (.aload_n 0, 1)), (119, (.getfield 88, 3)), (122, (.iconst 4, 1)), (123, (.if_icmp .ne 7, 3)), (126, (.iconst 1, 1)), (127, (.goto 4, 3)), (130, (.iconst 0, 1)), (131, (.istore_n 3, 1)), (132, (.iload_n 1, 1)), (133, (.ifCond .ne 11, 3)), (136, (.iload_n 2, 1)), (137, (.ifCond .ne 7, 3)), (140, (.iload_n 3, 1)), (141, (.ifCond .eq 7, 3)), (144, (.iconst 1, 1)), (145, (.goto 4, 3)), (148, (.iconst 0, 1)), (149, (.ireturn, 1))] = true := by decide +kernel
theorem dX12_writesStack_79 : decode cX12_writesStack 79 = .ok (.bipush 10, 2) := xdc ddX12_writesStack_1 0 rfl
theorem dX12_writesStack_81 : decode cX12_writesStack 81 = .ok (.if_icmp .ne 12, 3) := xdc ddX12_writesStack_1 1 rfl
theorem dX12_writesStack_84 : decode cX12_writesStack 84 = .ok (.aload_n 0, 1) := xdc ddX12_writesStack_1 2 rfl
theorem dX12_writesStack_85 : decode cX12_writesStack 85 = .ok (.getfield 73, 3) := xdc ddX12_writesStack_1 3 rfl
theorem dX12_writesStack_88 : decode cX12_writesStack 88 = .ok (.bipush 14, 2) := xdc ddX12_writesStack_1 4 rfl
theorem dX12_writesStack_90 : decode cX12_writesStack 90 = .ok (.if_icmp .ne 11, 3) := xdc ddX12_writesStack_1 5 rfl
theorem dX12_writesStack_93 : decode cX12_writesStack 93 = .ok (.aload_n 0, 1) := xdc ddX12_writesStack_1 6 rfl
theorem dX12_writesStack_94 : decode cX12_writesStack 94 = .ok (.getfield 88, 3) := xdc ddX12_writesStack_1 7 rfl
theorem dX12_writesStack_97 : decode cX12_writesStack 97 = .ok (.iconst 4, 1) := xdc ddX12_writesStack_1 8 rfl
theorem dX12_writesStack_98 : decode cX12_writesStack 98 = .ok (.if_icmp .eq 28, 3) := xdc ddX12_writesStack_1 9 rfl
theorem dX12_writesStack_101 : decode cX12_writesStack 101 = .ok (.aload_n 0, 1) := xdc ddX12_writesStack_1 10 rfl
theorem dX12_writesStack_102 : decode cX12_writesStack 102 = .ok (.getfield 73, 3) := xdc ddX12_writesStack_1 11 rfl
theorem dX12_writesStack_105 : decode cX12_writesStack 105 = .ok (.bipush 13, 2) := xdc ddX12_writesStack_1 12 rfl
theorem dX12_writesStack_107 : decode cX12_writesStack 107 = .ok (.if_icmp .ne 23, 3) := xdc ddX12_writesStack_1 13 rfl
theorem dX12_writesStack_110 : decode cX12_writesStack 110 = .ok (.aload_n 0, 1) := xdc ddX12_writesStack_1 14 rfl
theorem dX12_writesStack_111 : decode cX12_writesStack 111 = .ok (.getfield 76, 3) := xdc ddX12_writesStack_1 15 rfl
theorem dX12_writesStack_114 : decode cX12_writesStack 114 = .ok (.iconst 1, 1) := xdc ddX12_writesStack_1 16 rfl
theorem dX12_writesStack_115 : decode cX12_writesStack 115 = .ok (.if_icmp .le 15, 3) := xdc ddX12_writesStack_1 17 rfl
theorem dX12_writesStack_118 : decode cX12_writesStack 118 = .ok (.aload_n 0, 1) := xdc ddX12_writesStack_1 18 rfl
theorem dX12_writesStack_119 : decode cX12_writesStack 119 = .ok (.getfield 88, 3) := xdc ddX12_writesStack_1 19 rfl
theorem dX12_writesStack_122 : decode cX12_writesStack 122 = .ok (.iconst 4, 1) := xdc ddX12_writesStack_1 20 rfl
theorem dX12_writesStack_123 : decode cX12_writesStack 123 = .ok (.if_icmp .ne 7, 3) := xdc ddX12_writesStack_1 21 rfl
theorem dX12_writesStack_126 : decode cX12_writesStack 126 = .ok (.iconst 1, 1) := xdc ddX12_writesStack_1 22 rfl
theorem dX12_writesStack_127 : decode cX12_writesStack 127 = .ok (.goto 4, 3) := xdc ddX12_writesStack_1 23 rfl
theorem dX12_writesStack_130 : decode cX12_writesStack 130 = .ok (.iconst 0, 1) := xdc ddX12_writesStack_1 24 rfl
theorem dX12_writesStack_131 : decode cX12_writesStack 131 = .ok (.istore_n 3, 1) := xdc ddX12_writesStack_1 25 rfl
theorem dX12_writesStack_132 : decode cX12_writesStack 132 = .ok (.iload_n 1, 1) := xdc ddX12_writesStack_1 26 rfl
theorem dX12_writesStack_133 : decode cX12_writesStack 133 = .ok (.ifCond .ne 11, 3) := xdc ddX12_writesStack_1 27 rfl
theorem dX12_writesStack_136 : decode cX12_writesStack 136 = .ok (.iload_n 2, 1) := xdc ddX12_writesStack_1 28 rfl
theorem dX12_writesStack_137 : decode cX12_writesStack 137 = .ok (.ifCond .ne 7, 3) := xdc ddX12_writesStack_1 29 rfl
theorem dX12_writesStack_140 : decode cX12_writesStack 140 = .ok (.iload_n 3, 1) := xdc ddX12_writesStack_1 30 rfl
theorem dX12_writesStack_141 : decode cX12_writesStack 141 = .ok (.ifCond .eq 7, 3) := xdc ddX12_writesStack_1 31 rfl
theorem dX12_writesStack_144 : decode cX12_writesStack 144 = .ok (.iconst 1, 1) := xdc ddX12_writesStack_1 32 rfl
theorem dX12_writesStack_145 : decode cX12_writesStack 145 = .ok (.goto 4, 3) := xdc ddX12_writesStack_1 33 rfl
theorem dX12_writesStack_148 : decode cX12_writesStack 148 = .ok (.iconst 0, 1) := xdc ddX12_writesStack_1 34 rfl
theorem dX12_writesStack_149 : decode cX12_writesStack 149 = .ok (.ireturn, 1) := xdc ddX12_writesStack_1 35 rfl
abbrev cX12_isFenceAnd : ByteArray := prog_14_method_22_code
theorem ddX12_isFenceAnd_0 : xdec cX12_isFenceAnd [(0, (.aload_n 0, 1)), (1, (.getfield 70, 3)), (4, (.iconst 4, 1)), (5, (.if_icmp .ne 72, 3)), (8, (.aload_n 0, 1)), (9, (.getfield 73, 3)), (12, (.iconst 4, 1)), (13, (.if_icmp .ne 64, 3)), (16, (.aload_n 0, 1)), (17, (.getfield 76, 3)), (20, (.iconst 4, 1)), (21, (.if_icmp .ne 56, 3)), (24, (.aload_n 0, 1)), (25, (.getfield 82, 3)), (28, (.iconst 3, 1)), (29, (.if_icmp .ne 48, 3)), (32, (.iload_n 1, 1)), (33, (.ifCond .ge 14, 3)), (36, (.aload_n 0, 1)), (37, (.getfield 88, 3)), (40, (.iconst 4, 1)), (41, (.if_icmp .eq 36, 3)), (44, (.goto 11, 3)), (47, (.aload_n 0, 1)), (48, (.getfield 88, 3)), (51, (.iload_n 1, 1)), (52, (.if_icmp .ne 25, 3)), (55, (.aload_n 0, 1)), (56, (.getfield 109, 3)), (59, (.ldc 158, 2)), (61, (.if_icmp .ne 16, 3)), (64, (.aload_n 0, 1)), (65, (.getfield 138, 3)), (68, (.bipush 6, 2)), (70, (.if_icmp .ne 7, 3)), (73, (.iconst 1, 1)), (74, (.goto 4, 3)), (77, (.iconst 0, 1)), (78, (.ireturn, 1))] = true := by decide +kernel
theorem dX12_isFenceAnd_0 : decode cX12_isFenceAnd 0 = .ok (.aload_n 0, 1) := xdc ddX12_isFenceAnd_0 0 rfl
theorem dX12_isFenceAnd_1 : decode cX12_isFenceAnd 1 = .ok (.getfield 70, 3) := xdc ddX12_isFenceAnd_0 1 rfl
theorem dX12_isFenceAnd_4 : decode cX12_isFenceAnd 4 = .ok (.iconst 4, 1) := xdc ddX12_isFenceAnd_0 2 rfl
theorem dX12_isFenceAnd_5 : decode cX12_isFenceAnd 5 = .ok (.if_icmp .ne 72, 3) := xdc ddX12_isFenceAnd_0 3 rfl
theorem dX12_isFenceAnd_8 : decode cX12_isFenceAnd 8 = .ok (.aload_n 0, 1) := xdc ddX12_isFenceAnd_0 4 rfl
theorem dX12_isFenceAnd_9 : decode cX12_isFenceAnd 9 = .ok (.getfield 73, 3) := xdc ddX12_isFenceAnd_0 5 rfl
theorem dX12_isFenceAnd_12 : decode cX12_isFenceAnd 12 = .ok (.iconst 4, 1) := xdc ddX12_isFenceAnd_0 6 rfl
theorem dX12_isFenceAnd_13 : decode cX12_isFenceAnd 13 = .ok (.if_icmp .ne 64, 3) := xdc ddX12_isFenceAnd_0 7 rfl
theorem dX12_isFenceAnd_16 : decode cX12_isFenceAnd 16 = .ok (.aload_n 0, 1) := xdc ddX12_isFenceAnd_0 8 rfl
theorem dX12_isFenceAnd_17 : decode cX12_isFenceAnd 17 = .ok (.getfield 76, 3) := xdc ddX12_isFenceAnd_0 9 rfl
theorem dX12_isFenceAnd_20 : decode cX12_isFenceAnd 20 = .ok (.iconst 4, 1) := xdc ddX12_isFenceAnd_0 10 rfl
theorem dX12_isFenceAnd_21 : decode cX12_isFenceAnd 21 = .ok (.if_icmp .ne 56, 3) := xdc ddX12_isFenceAnd_0 11 rfl
theorem dX12_isFenceAnd_24 : decode cX12_isFenceAnd 24 = .ok (.aload_n 0, 1) := xdc ddX12_isFenceAnd_0 12 rfl
theorem dX12_isFenceAnd_25 : decode cX12_isFenceAnd 25 = .ok (.getfield 82, 3) := xdc ddX12_isFenceAnd_0 13 rfl
theorem dX12_isFenceAnd_28 : decode cX12_isFenceAnd 28 = .ok (.iconst 3, 1) := xdc ddX12_isFenceAnd_0 14 rfl
theorem dX12_isFenceAnd_29 : decode cX12_isFenceAnd 29 = .ok (.if_icmp .ne 48, 3) := xdc ddX12_isFenceAnd_0 15 rfl
theorem dX12_isFenceAnd_32 : decode cX12_isFenceAnd 32 = .ok (.iload_n 1, 1) := xdc ddX12_isFenceAnd_0 16 rfl
theorem dX12_isFenceAnd_33 : decode cX12_isFenceAnd 33 = .ok (.ifCond .ge 14, 3) := xdc ddX12_isFenceAnd_0 17 rfl
theorem dX12_isFenceAnd_36 : decode cX12_isFenceAnd 36 = .ok (.aload_n 0, 1) := xdc ddX12_isFenceAnd_0 18 rfl
theorem dX12_isFenceAnd_37 : decode cX12_isFenceAnd 37 = .ok (.getfield 88, 3) := xdc ddX12_isFenceAnd_0 19 rfl
theorem dX12_isFenceAnd_40 : decode cX12_isFenceAnd 40 = .ok (.iconst 4, 1) := xdc ddX12_isFenceAnd_0 20 rfl
theorem dX12_isFenceAnd_41 : decode cX12_isFenceAnd 41 = .ok (.if_icmp .eq 36, 3) := xdc ddX12_isFenceAnd_0 21 rfl
theorem dX12_isFenceAnd_44 : decode cX12_isFenceAnd 44 = .ok (.goto 11, 3) := xdc ddX12_isFenceAnd_0 22 rfl
theorem dX12_isFenceAnd_47 : decode cX12_isFenceAnd 47 = .ok (.aload_n 0, 1) := xdc ddX12_isFenceAnd_0 23 rfl
theorem dX12_isFenceAnd_48 : decode cX12_isFenceAnd 48 = .ok (.getfield 88, 3) := xdc ddX12_isFenceAnd_0 24 rfl
theorem dX12_isFenceAnd_51 : decode cX12_isFenceAnd 51 = .ok (.iload_n 1, 1) := xdc ddX12_isFenceAnd_0 25 rfl
theorem dX12_isFenceAnd_52 : decode cX12_isFenceAnd 52 = .ok (.if_icmp .ne 25, 3) := xdc ddX12_isFenceAnd_0 26 rfl
theorem dX12_isFenceAnd_55 : decode cX12_isFenceAnd 55 = .ok (.aload_n 0, 1) := xdc ddX12_isFenceAnd_0 27 rfl
theorem dX12_isFenceAnd_56 : decode cX12_isFenceAnd 56 = .ok (.getfield 109, 3) := xdc ddX12_isFenceAnd_0 28 rfl
theorem dX12_isFenceAnd_59 : decode cX12_isFenceAnd 59 = .ok (.ldc 158, 2) := xdc ddX12_isFenceAnd_0 29 rfl
theorem dX12_isFenceAnd_61 : decode cX12_isFenceAnd 61 = .ok (.if_icmp .ne 16, 3) := xdc ddX12_isFenceAnd_0 30 rfl
theorem dX12_isFenceAnd_64 : decode cX12_isFenceAnd 64 = .ok (.aload_n 0, 1) := xdc ddX12_isFenceAnd_0 31 rfl
theorem dX12_isFenceAnd_65 : decode cX12_isFenceAnd 65 = .ok (.getfield 138, 3) := xdc ddX12_isFenceAnd_0 32 rfl
theorem dX12_isFenceAnd_68 : decode cX12_isFenceAnd 68 = .ok (.bipush 6, 2) := xdc ddX12_isFenceAnd_0 33 rfl
theorem dX12_isFenceAnd_70 : decode cX12_isFenceAnd 70 = .ok (.if_icmp .ne 7, 3) := xdc ddX12_isFenceAnd_0 34 rfl
theorem dX12_isFenceAnd_73 : decode cX12_isFenceAnd 73 = .ok (.iconst 1, 1) := xdc ddX12_isFenceAnd_0 35 rfl
theorem dX12_isFenceAnd_74 : decode cX12_isFenceAnd 74 = .ok (.goto 4, 3) := xdc ddX12_isFenceAnd_0 36 rfl
theorem dX12_isFenceAnd_77 : decode cX12_isFenceAnd 77 = .ok (.iconst 0, 1) := xdc ddX12_isFenceAnd_0 37 rfl
theorem dX12_isFenceAnd_78 : decode cX12_isFenceAnd 78 = .ok (.ireturn, 1) := xdc ddX12_isFenceAnd_0 38 rfl
abbrev cX12_isFenceOr : ByteArray := prog_14_method_23_code
theorem ddX12_isFenceOr_0 : xdec cX12_isFenceOr [(0, (.aload_n 0, 1)), (1, (.getfield 70, 3)), (4, (.iconst 1, 1)), (5, (.if_icmp .ne 57, 3)), (8, (.aload_n 0, 1)), (9, (.getfield 73, 3)), (12, (.iconst 4, 1)), (13, (.if_icmp .ne 49, 3)), (16, (.aload_n 0, 1)), (17, (.getfield 76, 3)), (20, (.iconst 4, 1)), (21, (.if_icmp .ne 41, 3)), (24, (.aload_n 0, 1)), (25, (.getfield 82, 3)), (28, (.iconst 3, 1)), (29, (.if_icmp .ne 33, 3)), (32, (.aload_n 0, 1)), (33, (.getfield 88, 3)), (36, (.iload_n 1, 1)), (37, (.if_icmp .ne 25, 3)), (40, (.aload_n 0, 1)), (41, (.getfield 109, 3)), (44, (.ldc 13, 2)), (46, (.if_icmp .ne 16, 3)), (49, (.aload_n 0, 1)), (50, (.getfield 138, 3)), (53, (.bipush 6, 2)), (55, (.if_icmp .ne 7, 3)), (58, (.iconst 1, 1)), (59, (.goto 4, 3)), (62, (.iconst 0, 1)), (63, (.ireturn, 1))] = true := by decide +kernel
theorem dX12_isFenceOr_0 : decode cX12_isFenceOr 0 = .ok (.aload_n 0, 1) := xdc ddX12_isFenceOr_0 0 rfl
theorem dX12_isFenceOr_1 : decode cX12_isFenceOr 1 = .ok (.getfield 70, 3) := xdc ddX12_isFenceOr_0 1 rfl
theorem dX12_isFenceOr_4 : decode cX12_isFenceOr 4 = .ok (.iconst 1, 1) := xdc ddX12_isFenceOr_0 2 rfl
theorem dX12_isFenceOr_5 : decode cX12_isFenceOr 5 = .ok (.if_icmp .ne 57, 3) := xdc ddX12_isFenceOr_0 3 rfl
theorem dX12_isFenceOr_8 : decode cX12_isFenceOr 8 = .ok (.aload_n 0, 1) := xdc ddX12_isFenceOr_0 4 rfl
theorem dX12_isFenceOr_9 : decode cX12_isFenceOr 9 = .ok (.getfield 73, 3) := xdc ddX12_isFenceOr_0 5 rfl
theorem dX12_isFenceOr_12 : decode cX12_isFenceOr 12 = .ok (.iconst 4, 1) := xdc ddX12_isFenceOr_0 6 rfl
theorem dX12_isFenceOr_13 : decode cX12_isFenceOr 13 = .ok (.if_icmp .ne 49, 3) := xdc ddX12_isFenceOr_0 7 rfl
theorem dX12_isFenceOr_16 : decode cX12_isFenceOr 16 = .ok (.aload_n 0, 1) := xdc ddX12_isFenceOr_0 8 rfl
theorem dX12_isFenceOr_17 : decode cX12_isFenceOr 17 = .ok (.getfield 76, 3) := xdc ddX12_isFenceOr_0 9 rfl
theorem dX12_isFenceOr_20 : decode cX12_isFenceOr 20 = .ok (.iconst 4, 1) := xdc ddX12_isFenceOr_0 10 rfl
theorem dX12_isFenceOr_21 : decode cX12_isFenceOr 21 = .ok (.if_icmp .ne 41, 3) := xdc ddX12_isFenceOr_0 11 rfl
theorem dX12_isFenceOr_24 : decode cX12_isFenceOr 24 = .ok (.aload_n 0, 1) := xdc ddX12_isFenceOr_0 12 rfl
theorem dX12_isFenceOr_25 : decode cX12_isFenceOr 25 = .ok (.getfield 82, 3) := xdc ddX12_isFenceOr_0 13 rfl
theorem dX12_isFenceOr_28 : decode cX12_isFenceOr 28 = .ok (.iconst 3, 1) := xdc ddX12_isFenceOr_0 14 rfl
theorem dX12_isFenceOr_29 : decode cX12_isFenceOr 29 = .ok (.if_icmp .ne 33, 3) := xdc ddX12_isFenceOr_0 15 rfl
theorem dX12_isFenceOr_32 : decode cX12_isFenceOr 32 = .ok (.aload_n 0, 1) := xdc ddX12_isFenceOr_0 16 rfl
theorem dX12_isFenceOr_33 : decode cX12_isFenceOr 33 = .ok (.getfield 88, 3) := xdc ddX12_isFenceOr_0 17 rfl
theorem dX12_isFenceOr_36 : decode cX12_isFenceOr 36 = .ok (.iload_n 1, 1) := xdc ddX12_isFenceOr_0 18 rfl
theorem dX12_isFenceOr_37 : decode cX12_isFenceOr 37 = .ok (.if_icmp .ne 25, 3) := xdc ddX12_isFenceOr_0 19 rfl
theorem dX12_isFenceOr_40 : decode cX12_isFenceOr 40 = .ok (.aload_n 0, 1) := xdc ddX12_isFenceOr_0 20 rfl
theorem dX12_isFenceOr_41 : decode cX12_isFenceOr 41 = .ok (.getfield 109, 3) := xdc ddX12_isFenceOr_0 21 rfl
theorem dX12_isFenceOr_44 : decode cX12_isFenceOr 44 = .ok (.ldc 13, 2) := xdc ddX12_isFenceOr_0 22 rfl
theorem dX12_isFenceOr_46 : decode cX12_isFenceOr 46 = .ok (.if_icmp .ne 16, 3) := xdc ddX12_isFenceOr_0 23 rfl
theorem dX12_isFenceOr_49 : decode cX12_isFenceOr 49 = .ok (.aload_n 0, 1) := xdc ddX12_isFenceOr_0 24 rfl
theorem dX12_isFenceOr_50 : decode cX12_isFenceOr 50 = .ok (.getfield 138, 3) := xdc ddX12_isFenceOr_0 25 rfl
theorem dX12_isFenceOr_53 : decode cX12_isFenceOr 53 = .ok (.bipush 6, 2) := xdc ddX12_isFenceOr_0 26 rfl
theorem dX12_isFenceOr_55 : decode cX12_isFenceOr 55 = .ok (.if_icmp .ne 7, 3) := xdc ddX12_isFenceOr_0 27 rfl
theorem dX12_isFenceOr_58 : decode cX12_isFenceOr 58 = .ok (.iconst 1, 1) := xdc ddX12_isFenceOr_0 28 rfl
theorem dX12_isFenceOr_59 : decode cX12_isFenceOr 59 = .ok (.goto 4, 3) := xdc ddX12_isFenceOr_0 29 rfl
theorem dX12_isFenceOr_62 : decode cX12_isFenceOr 62 = .ok (.iconst 0, 1) := xdc ddX12_isFenceOr_0 30 rfl
theorem dX12_isFenceOr_63 : decode cX12_isFenceOr 63 = .ok (.ireturn, 1) := xdc ddX12_isFenceOr_0 31 rfl
abbrev cX12_isNear : ByteArray := prog_14_method_24_code
theorem ddX12_isNear_0 : xdec cX12_isNear [(0, (.aload_n 0, 1)), (1, (.getfield 94, 3)), (4, (.iconst (-1), 1)), (5, (.if_icmp .ne 24, 3)), (8, (.aload_n 0, 1)), (9, (.getfield 100, 3)), (12, (.i2l, 1)), (13, (.ldc2_w 159, 3)), (16, (.ldc2_w 161, 3)), (19, (.invokestatic 163, 3)), (22, (.ifCond .eq 7, 3)), (25, (.iconst 1, 1)), (26, (.goto 4, 3)), (29, (.iconst 0, 1)), (30, (.ireturn, 1))] = true := by decide +kernel
theorem dX12_isNear_0 : decode cX12_isNear 0 = .ok (.aload_n 0, 1) := xdc ddX12_isNear_0 0 rfl
theorem dX12_isNear_1 : decode cX12_isNear 1 = .ok (.getfield 94, 3) := xdc ddX12_isNear_0 1 rfl
theorem dX12_isNear_4 : decode cX12_isNear 4 = .ok (.iconst (-1), 1) := xdc ddX12_isNear_0 2 rfl
theorem dX12_isNear_5 : decode cX12_isNear 5 = .ok (.if_icmp .ne 24, 3) := xdc ddX12_isNear_0 3 rfl
theorem dX12_isNear_8 : decode cX12_isNear 8 = .ok (.aload_n 0, 1) := xdc ddX12_isNear_0 4 rfl
theorem dX12_isNear_9 : decode cX12_isNear 9 = .ok (.getfield 100, 3) := xdc ddX12_isNear_0 5 rfl
theorem dX12_isNear_12 : decode cX12_isNear 12 = .ok (.i2l, 1) := xdc ddX12_isNear_0 6 rfl
theorem dX12_isNear_13 : decode cX12_isNear 13 = .ok (.ldc2_w 159, 3) := xdc ddX12_isNear_0 7 rfl
theorem dX12_isNear_16 : decode cX12_isNear 16 = .ok (.ldc2_w 161, 3) := xdc ddX12_isNear_0 8 rfl
theorem dX12_isNear_19 : decode cX12_isNear 19 = .ok (.invokestatic 163, 3) := xdc ddX12_isNear_0 9 rfl
theorem dX12_isNear_22 : decode cX12_isNear 22 = .ok (.ifCond .eq 7, 3) := xdc ddX12_isNear_0 10 rfl
theorem dX12_isNear_25 : decode cX12_isNear 25 = .ok (.iconst 1, 1) := xdc ddX12_isNear_0 11 rfl
theorem dX12_isNear_26 : decode cX12_isNear 26 = .ok (.goto 4, 3) := xdc ddX12_isNear_0 12 rfl
theorem dX12_isNear_29 : decode cX12_isNear 29 = .ok (.iconst 0, 1) := xdc ddX12_isNear_0 13 rfl
theorem dX12_isNear_30 : decode cX12_isNear 30 = .ok (.ireturn, 1) := xdc ddX12_isNear_0 14 rfl
abbrev cX12_longer : ByteArray := prog_14_method_25_code
theorem ddX12_longer_0 : xdec cX12_longer [(0, (.aload_n 0, 1)), (1, (.iload_n 1, 1)), (2, (.invokevirtual 167, 3)), (5, (.istore_n 3, 1)), (6, (.aload_n 0, 1)), (7, (.getfield 88, 3)), (10, (.istore 4, 2)), (12, (.aload_n 0, 1)), (13, (.getfield 70, 3)), (16, (.iconst 4, 1)), (17, (.if_icmp .ne 54, 3)), (20, (.aload_n 0, 1)), (21, (.getfield 73, 3)), (24, (.iconst 4, 1)), (25, (.if_icmp .ne 46, 3)), (28, (.aload_n 0, 1)), (29, (.getfield 76, 3)), (32, (.iconst 4, 1)), (33, (.if_icmp .ne 38, 3)), (36, (.aload_n 0, 1)), (37, (.getfield 82, 3)), (40, (.iconst 3, 1)), (41, (.if_icmp .ne 30, 3)), (44, (.aload_n 0, 1)), (45, (.getfield 138, 3)), (48, (.iconst 3, 1)), (49, (.if_icmp .ne 22, 3)), (52, (.aload_n 0, 1)), (53, (.getfield 109, 3)), (56, (.bipush (-32), 2)), (58, (.if_icmp .ne 13, 3)), (61, (.iload 4, 2)), (63, (.iconst 4, 1)), (64, (.if_icmp .eq 7, 3)), (67, (.iconst 1, 1)), (68, (.goto 4, 3)), (71, (.iconst 0, 1)), (72, (.istore 5, 2)), (74, (.aload_n 0, 1)), (75, (.iconst (-1), 1))] = true := by decide +kernel
theorem dX12_longer_0 : decode cX12_longer 0 = .ok (.aload_n 0, 1) := xdc ddX12_longer_0 0 rfl
theorem dX12_longer_1 : decode cX12_longer 1 = .ok (.iload_n 1, 1) := xdc ddX12_longer_0 1 rfl
theorem dX12_longer_2 : decode cX12_longer 2 = .ok (.invokevirtual 167, 3) := xdc ddX12_longer_0 2 rfl
theorem dX12_longer_5 : decode cX12_longer 5 = .ok (.istore_n 3, 1) := xdc ddX12_longer_0 3 rfl
theorem dX12_longer_6 : decode cX12_longer 6 = .ok (.aload_n 0, 1) := xdc ddX12_longer_0 4 rfl
theorem dX12_longer_7 : decode cX12_longer 7 = .ok (.getfield 88, 3) := xdc ddX12_longer_0 5 rfl
theorem dX12_longer_10 : decode cX12_longer 10 = .ok (.istore 4, 2) := xdc ddX12_longer_0 6 rfl
theorem dX12_longer_12 : decode cX12_longer 12 = .ok (.aload_n 0, 1) := xdc ddX12_longer_0 7 rfl
theorem dX12_longer_13 : decode cX12_longer 13 = .ok (.getfield 70, 3) := xdc ddX12_longer_0 8 rfl
theorem dX12_longer_16 : decode cX12_longer 16 = .ok (.iconst 4, 1) := xdc ddX12_longer_0 9 rfl
theorem dX12_longer_17 : decode cX12_longer 17 = .ok (.if_icmp .ne 54, 3) := xdc ddX12_longer_0 10 rfl
theorem dX12_longer_20 : decode cX12_longer 20 = .ok (.aload_n 0, 1) := xdc ddX12_longer_0 11 rfl
theorem dX12_longer_21 : decode cX12_longer 21 = .ok (.getfield 73, 3) := xdc ddX12_longer_0 12 rfl
theorem dX12_longer_24 : decode cX12_longer 24 = .ok (.iconst 4, 1) := xdc ddX12_longer_0 13 rfl
theorem dX12_longer_25 : decode cX12_longer 25 = .ok (.if_icmp .ne 46, 3) := xdc ddX12_longer_0 14 rfl
theorem dX12_longer_28 : decode cX12_longer 28 = .ok (.aload_n 0, 1) := xdc ddX12_longer_0 15 rfl
theorem dX12_longer_29 : decode cX12_longer 29 = .ok (.getfield 76, 3) := xdc ddX12_longer_0 16 rfl
theorem dX12_longer_32 : decode cX12_longer 32 = .ok (.iconst 4, 1) := xdc ddX12_longer_0 17 rfl
theorem dX12_longer_33 : decode cX12_longer 33 = .ok (.if_icmp .ne 38, 3) := xdc ddX12_longer_0 18 rfl
theorem dX12_longer_36 : decode cX12_longer 36 = .ok (.aload_n 0, 1) := xdc ddX12_longer_0 19 rfl
theorem dX12_longer_37 : decode cX12_longer 37 = .ok (.getfield 82, 3) := xdc ddX12_longer_0 20 rfl
theorem dX12_longer_40 : decode cX12_longer 40 = .ok (.iconst 3, 1) := xdc ddX12_longer_0 21 rfl
theorem dX12_longer_41 : decode cX12_longer 41 = .ok (.if_icmp .ne 30, 3) := xdc ddX12_longer_0 22 rfl
theorem dX12_longer_44 : decode cX12_longer 44 = .ok (.aload_n 0, 1) := xdc ddX12_longer_0 23 rfl
theorem dX12_longer_45 : decode cX12_longer 45 = .ok (.getfield 138, 3) := xdc ddX12_longer_0 24 rfl
theorem dX12_longer_48 : decode cX12_longer 48 = .ok (.iconst 3, 1) := xdc ddX12_longer_0 25 rfl
theorem dX12_longer_49 : decode cX12_longer 49 = .ok (.if_icmp .ne 22, 3) := xdc ddX12_longer_0 26 rfl
theorem dX12_longer_52 : decode cX12_longer 52 = .ok (.aload_n 0, 1) := xdc ddX12_longer_0 27 rfl
theorem dX12_longer_53 : decode cX12_longer 53 = .ok (.getfield 109, 3) := xdc ddX12_longer_0 28 rfl
theorem dX12_longer_56 : decode cX12_longer 56 = .ok (.bipush (-32), 2) := xdc ddX12_longer_0 29 rfl
theorem dX12_longer_58 : decode cX12_longer 58 = .ok (.if_icmp .ne 13, 3) := xdc ddX12_longer_0 30 rfl
theorem dX12_longer_61 : decode cX12_longer 61 = .ok (.iload 4, 2) := xdc ddX12_longer_0 31 rfl
theorem dX12_longer_63 : decode cX12_longer 63 = .ok (.iconst 4, 1) := xdc ddX12_longer_0 32 rfl
theorem dX12_longer_64 : decode cX12_longer 64 = .ok (.if_icmp .eq 7, 3) := xdc ddX12_longer_0 33 rfl
theorem dX12_longer_67 : decode cX12_longer 67 = .ok (.iconst 1, 1) := xdc ddX12_longer_0 34 rfl
theorem dX12_longer_68 : decode cX12_longer 68 = .ok (.goto 4, 3) := xdc ddX12_longer_0 35 rfl
theorem dX12_longer_71 : decode cX12_longer 71 = .ok (.iconst 0, 1) := xdc ddX12_longer_0 36 rfl
theorem dX12_longer_72 : decode cX12_longer 72 = .ok (.istore 5, 2) := xdc ddX12_longer_0 37 rfl
theorem dX12_longer_74 : decode cX12_longer 74 = .ok (.aload_n 0, 1) := xdc ddX12_longer_0 38 rfl
theorem dX12_longer_75 : decode cX12_longer 75 = .ok (.iconst (-1), 1) := xdc ddX12_longer_0 39 rfl
theorem ddX12_longer_1 : xdec cX12_longer [(76, (.invokevirtual 171, 3)), (79, (.istore 6, 2)), (81, (.aload_n 0, 1)), (82, (.invokevirtual 174, 3)), (85, (.ifCond .eq 14, 3)), (88, (.aload_n 0, 1)), (89, (.invokevirtual 177, 3)), (92, (.ifCond .ne 7, 3)), (95, (.iconst 1, 1)), (96, (.goto 4, 3)), (99, (.iconst 0, 1)), (100, (.istore 7, 2)), (102, (.iload_n 1, 1)), (103, (.aload_n 0, 1)), (104, (.getfield 138, 3)), (107, (.iadd, 1)), (108, (.istore 8, 2)), (110, (.iload 5, 2)), (112, (.ifCond .eq 74, 3)), (115, (.aload_n 0, 1)), (116, (.iload 8, 2)), (118, (.invokevirtual 167, 3)), (121, (.ifCond .eq 45, 3)), (124, (.aload_n 0, 1)), (125, (.getfield 70, 3)), (128, (.bipush 42, 2)), (130, (.if_icmp .eq 12, 3)), (133, (.aload_n 0, 1)), (134, (.getfield 70, 3)), (137, (.bipush 43, 2)), (139, (.if_icmp .ne 27, 3)), (142, (.aload_n 0, 1)), (143, (.getfield 88, 3)), (146, (.iload 4, 2)), (148, (.if_icmp .ne 18, 3)), (151, (.iload 8, 2)), (153, (.aload_n 0, 1)), (154, (.getfield 138, 3)), (157, (.iadd, 1)), (158, (.iload_n 2, 1))] = true := by decide +kernel
theorem dX12_longer_76 : decode cX12_longer 76 = .ok (.invokevirtual 171, 3) := xdc ddX12_longer_1 0 rfl
theorem dX12_longer_79 : decode cX12_longer 79 = .ok (.istore 6, 2) := xdc ddX12_longer_1 1 rfl
theorem dX12_longer_81 : decode cX12_longer 81 = .ok (.aload_n 0, 1) := xdc ddX12_longer_1 2 rfl
theorem dX12_longer_82 : decode cX12_longer 82 = .ok (.invokevirtual 174, 3) := xdc ddX12_longer_1 3 rfl
theorem dX12_longer_85 : decode cX12_longer 85 = .ok (.ifCond .eq 14, 3) := xdc ddX12_longer_1 4 rfl
theorem dX12_longer_88 : decode cX12_longer 88 = .ok (.aload_n 0, 1) := xdc ddX12_longer_1 5 rfl
theorem dX12_longer_89 : decode cX12_longer 89 = .ok (.invokevirtual 177, 3) := xdc ddX12_longer_1 6 rfl
theorem dX12_longer_92 : decode cX12_longer 92 = .ok (.ifCond .ne 7, 3) := xdc ddX12_longer_1 7 rfl
theorem dX12_longer_95 : decode cX12_longer 95 = .ok (.iconst 1, 1) := xdc ddX12_longer_1 8 rfl
theorem dX12_longer_96 : decode cX12_longer 96 = .ok (.goto 4, 3) := xdc ddX12_longer_1 9 rfl
theorem dX12_longer_99 : decode cX12_longer 99 = .ok (.iconst 0, 1) := xdc ddX12_longer_1 10 rfl
theorem dX12_longer_100 : decode cX12_longer 100 = .ok (.istore 7, 2) := xdc ddX12_longer_1 11 rfl
theorem dX12_longer_102 : decode cX12_longer 102 = .ok (.iload_n 1, 1) := xdc ddX12_longer_1 12 rfl
theorem dX12_longer_103 : decode cX12_longer 103 = .ok (.aload_n 0, 1) := xdc ddX12_longer_1 13 rfl
theorem dX12_longer_104 : decode cX12_longer 104 = .ok (.getfield 138, 3) := xdc ddX12_longer_1 14 rfl
theorem dX12_longer_107 : decode cX12_longer 107 = .ok (.iadd, 1) := xdc ddX12_longer_1 15 rfl
theorem dX12_longer_108 : decode cX12_longer 108 = .ok (.istore 8, 2) := xdc ddX12_longer_1 16 rfl
theorem dX12_longer_110 : decode cX12_longer 110 = .ok (.iload 5, 2) := xdc ddX12_longer_1 17 rfl
theorem dX12_longer_112 : decode cX12_longer 112 = .ok (.ifCond .eq 74, 3) := xdc ddX12_longer_1 18 rfl
theorem dX12_longer_115 : decode cX12_longer 115 = .ok (.aload_n 0, 1) := xdc ddX12_longer_1 19 rfl
theorem dX12_longer_116 : decode cX12_longer 116 = .ok (.iload 8, 2) := xdc ddX12_longer_1 20 rfl
theorem dX12_longer_118 : decode cX12_longer 118 = .ok (.invokevirtual 167, 3) := xdc ddX12_longer_1 21 rfl
theorem dX12_longer_121 : decode cX12_longer 121 = .ok (.ifCond .eq 45, 3) := xdc ddX12_longer_1 22 rfl
theorem dX12_longer_124 : decode cX12_longer 124 = .ok (.aload_n 0, 1) := xdc ddX12_longer_1 23 rfl
theorem dX12_longer_125 : decode cX12_longer 125 = .ok (.getfield 70, 3) := xdc ddX12_longer_1 24 rfl
theorem dX12_longer_128 : decode cX12_longer 128 = .ok (.bipush 42, 2) := xdc ddX12_longer_1 25 rfl
theorem dX12_longer_130 : decode cX12_longer 130 = .ok (.if_icmp .eq 12, 3) := xdc ddX12_longer_1 26 rfl
theorem dX12_longer_133 : decode cX12_longer 133 = .ok (.aload_n 0, 1) := xdc ddX12_longer_1 27 rfl
theorem dX12_longer_134 : decode cX12_longer 134 = .ok (.getfield 70, 3) := xdc ddX12_longer_1 28 rfl
theorem dX12_longer_137 : decode cX12_longer 137 = .ok (.bipush 43, 2) := xdc ddX12_longer_1 29 rfl
theorem dX12_longer_139 : decode cX12_longer 139 = .ok (.if_icmp .ne 27, 3) := xdc ddX12_longer_1 30 rfl
theorem dX12_longer_142 : decode cX12_longer 142 = .ok (.aload_n 0, 1) := xdc ddX12_longer_1 31 rfl
theorem dX12_longer_143 : decode cX12_longer 143 = .ok (.getfield 88, 3) := xdc ddX12_longer_1 32 rfl
theorem dX12_longer_146 : decode cX12_longer 146 = .ok (.iload 4, 2) := xdc ddX12_longer_1 33 rfl
theorem dX12_longer_148 : decode cX12_longer 148 = .ok (.if_icmp .ne 18, 3) := xdc ddX12_longer_1 34 rfl
theorem dX12_longer_151 : decode cX12_longer 151 = .ok (.iload 8, 2) := xdc ddX12_longer_1 35 rfl
theorem dX12_longer_153 : decode cX12_longer 153 = .ok (.aload_n 0, 1) := xdc ddX12_longer_1 36 rfl
theorem dX12_longer_154 : decode cX12_longer 154 = .ok (.getfield 138, 3) := xdc ddX12_longer_1 37 rfl
theorem dX12_longer_157 : decode cX12_longer 157 = .ok (.iadd, 1) := xdc ddX12_longer_1 38 rfl
theorem dX12_longer_158 : decode cX12_longer 158 = .ok (.iload_n 2, 1) := xdc ddX12_longer_1 39 rfl
theorem ddX12_longer_2 : xdec cX12_longer [(159, (.if_icmp .gt 7, 3)), (162, (.iconst 1, 1)), (163, (.goto 4, 3)), (166, (.iconst 0, 1)), (167, (.istore 9, 2)), (169, (.iload 9, 2)), (171, (.ifCond .eq 13, 3)), (174, (.iload 8, 2)), (176, (.aload_n 0, 1)), (177, (.getfield 138, 3)), (180, (.iadd, 1)), (181, (.goto 4, 3)), (184, (.iconst (-1), 1)), (185, (.ireturn, 1)), (186, (.iload 6, 2)), (188, (.ifCond .ne 8, 3)), (191, (.iload 7, 2)), (193, (.ifCond .eq 194, 3)), (196, (.iload 6, 2)), (198, (.ifCond .eq 8, 3)), (201, (.iload 4, 2)), (203, (.goto 4, 3)), (206, (.iconst 4, 1)), (207, (.istore 9, 2)), (209, (.iload 6, 2)), (211, (.ifCond .ne 43, 3)), (214, (.aload_n 0, 1)), (215, (.iload 8, 2)), (217, (.invokevirtual 167, 3)), (220, (.ifCond .eq 15, 3)), (223, (.aload_n 0, 1)), (224, (.iconst 4, 1)), (225, (.invokevirtual 171, 3)), (228, (.ifCond .eq 7, 3)), (231, (.iconst 1, 1)), (232, (.goto 4, 3)), (235, (.iconst 0, 1)), (236, (.istore 10, 2)), (238, (.iload 10, 2)), (240, (.ifCond .ne 5, 3))] = true := by decide +kernel
theorem dX12_longer_159 : decode cX12_longer 159 = .ok (.if_icmp .gt 7, 3) := xdc ddX12_longer_2 0 rfl
theorem dX12_longer_162 : decode cX12_longer 162 = .ok (.iconst 1, 1) := xdc ddX12_longer_2 1 rfl
theorem dX12_longer_163 : decode cX12_longer 163 = .ok (.goto 4, 3) := xdc ddX12_longer_2 2 rfl
theorem dX12_longer_166 : decode cX12_longer 166 = .ok (.iconst 0, 1) := xdc ddX12_longer_2 3 rfl
theorem dX12_longer_167 : decode cX12_longer 167 = .ok (.istore 9, 2) := xdc ddX12_longer_2 4 rfl
theorem dX12_longer_169 : decode cX12_longer 169 = .ok (.iload 9, 2) := xdc ddX12_longer_2 5 rfl
theorem dX12_longer_171 : decode cX12_longer 171 = .ok (.ifCond .eq 13, 3) := xdc ddX12_longer_2 6 rfl
theorem dX12_longer_174 : decode cX12_longer 174 = .ok (.iload 8, 2) := xdc ddX12_longer_2 7 rfl
theorem dX12_longer_176 : decode cX12_longer 176 = .ok (.aload_n 0, 1) := xdc ddX12_longer_2 8 rfl
theorem dX12_longer_177 : decode cX12_longer 177 = .ok (.getfield 138, 3) := xdc ddX12_longer_2 9 rfl
theorem dX12_longer_180 : decode cX12_longer 180 = .ok (.iadd, 1) := xdc ddX12_longer_2 10 rfl
theorem dX12_longer_181 : decode cX12_longer 181 = .ok (.goto 4, 3) := xdc ddX12_longer_2 11 rfl
theorem dX12_longer_184 : decode cX12_longer 184 = .ok (.iconst (-1), 1) := xdc ddX12_longer_2 12 rfl
theorem dX12_longer_185 : decode cX12_longer 185 = .ok (.ireturn, 1) := xdc ddX12_longer_2 13 rfl
theorem dX12_longer_186 : decode cX12_longer 186 = .ok (.iload 6, 2) := xdc ddX12_longer_2 14 rfl
theorem dX12_longer_188 : decode cX12_longer 188 = .ok (.ifCond .ne 8, 3) := xdc ddX12_longer_2 15 rfl
theorem dX12_longer_191 : decode cX12_longer 191 = .ok (.iload 7, 2) := xdc ddX12_longer_2 16 rfl
theorem dX12_longer_193 : decode cX12_longer 193 = .ok (.ifCond .eq 194, 3) := xdc ddX12_longer_2 17 rfl
theorem dX12_longer_196 : decode cX12_longer 196 = .ok (.iload 6, 2) := xdc ddX12_longer_2 18 rfl
theorem dX12_longer_198 : decode cX12_longer 198 = .ok (.ifCond .eq 8, 3) := xdc ddX12_longer_2 19 rfl
theorem dX12_longer_201 : decode cX12_longer 201 = .ok (.iload 4, 2) := xdc ddX12_longer_2 20 rfl
theorem dX12_longer_203 : decode cX12_longer 203 = .ok (.goto 4, 3) := xdc ddX12_longer_2 21 rfl
theorem dX12_longer_206 : decode cX12_longer 206 = .ok (.iconst 4, 1) := xdc ddX12_longer_2 22 rfl
theorem dX12_longer_207 : decode cX12_longer 207 = .ok (.istore 9, 2) := xdc ddX12_longer_2 23 rfl
theorem dX12_longer_209 : decode cX12_longer 209 = .ok (.iload 6, 2) := xdc ddX12_longer_2 24 rfl
theorem dX12_longer_211 : decode cX12_longer 211 = .ok (.ifCond .ne 43, 3) := xdc ddX12_longer_2 25 rfl
theorem dX12_longer_214 : decode cX12_longer 214 = .ok (.aload_n 0, 1) := xdc ddX12_longer_2 26 rfl
theorem dX12_longer_215 : decode cX12_longer 215 = .ok (.iload 8, 2) := xdc ddX12_longer_2 27 rfl
theorem dX12_longer_217 : decode cX12_longer 217 = .ok (.invokevirtual 167, 3) := xdc ddX12_longer_2 28 rfl
theorem dX12_longer_220 : decode cX12_longer 220 = .ok (.ifCond .eq 15, 3) := xdc ddX12_longer_2 29 rfl
theorem dX12_longer_223 : decode cX12_longer 223 = .ok (.aload_n 0, 1) := xdc ddX12_longer_2 30 rfl
theorem dX12_longer_224 : decode cX12_longer 224 = .ok (.iconst 4, 1) := xdc ddX12_longer_2 31 rfl
theorem dX12_longer_225 : decode cX12_longer 225 = .ok (.invokevirtual 171, 3) := xdc ddX12_longer_2 32 rfl
theorem dX12_longer_228 : decode cX12_longer 228 = .ok (.ifCond .eq 7, 3) := xdc ddX12_longer_2 33 rfl
theorem dX12_longer_231 : decode cX12_longer 231 = .ok (.iconst 1, 1) := xdc ddX12_longer_2 34 rfl
theorem dX12_longer_232 : decode cX12_longer 232 = .ok (.goto 4, 3) := xdc ddX12_longer_2 35 rfl
theorem dX12_longer_235 : decode cX12_longer 235 = .ok (.iconst 0, 1) := xdc ddX12_longer_2 36 rfl
theorem dX12_longer_236 : decode cX12_longer 236 = .ok (.istore 10, 2) := xdc ddX12_longer_2 37 rfl
theorem dX12_longer_238 : decode cX12_longer 238 = .ok (.iload 10, 2) := xdc ddX12_longer_2 38 rfl
theorem dX12_longer_240 : decode cX12_longer 240 = .ok (.ifCond .ne 5, 3) := xdc ddX12_longer_2 39 rfl
theorem ddX12_longer_3 : xdec cX12_longer [(243, (.iconst (-1), 1)), (244, (.ireturn, 1)), (245, (.iload 8, 2)), (247, (.aload_n 0, 1)), (248, (.getfield 138, 3)), (251, (.iadd, 1)), (252, (.istore 8, 2)), (254, (.aload_n 0, 1)), (255, (.iload 8, 2)), (257, (.invokevirtual 167, 3)), (260, (.ifCond .eq 16, 3)), (263, (.aload_n 0, 1)), (264, (.iload 9, 2)), (266, (.invokevirtual 180, 3)), (269, (.ifCond .eq 7, 3)), (272, (.iconst 1, 1)), (273, (.goto 4, 3)), (276, (.iconst 0, 1)), (277, (.istore 10, 2)), (279, (.iload 10, 2)), (281, (.ifCond .ne 5, 3)), (284, (.iconst (-1), 1)), (285, (.ireturn, 1)), (286, (.iload 8, 2)), (288, (.aload_n 0, 1)), (289, (.getfield 138, 3)), (292, (.iadd, 1)), (293, (.istore 8, 2)), (295, (.iload 6, 2)), (297, (.ifCond .ne 16, 3)), (300, (.iload 8, 2)), (302, (.iload_n 2, 1)), (303, (.if_icmp .gt 8, 3)), (306, (.iload 8, 2)), (308, (.goto 4, 3)), (311, (.iconst (-1), 1)), (312, (.ireturn, 1)), (313, (.aload_n 0, 1)), (314, (.iload 8, 2)), (316, (.invokevirtual 167, 3))] = true := by decide +kernel
theorem dX12_longer_243 : decode cX12_longer 243 = .ok (.iconst (-1), 1) := xdc ddX12_longer_3 0 rfl
theorem dX12_longer_244 : decode cX12_longer 244 = .ok (.ireturn, 1) := xdc ddX12_longer_3 1 rfl
theorem dX12_longer_245 : decode cX12_longer 245 = .ok (.iload 8, 2) := xdc ddX12_longer_3 2 rfl
theorem dX12_longer_247 : decode cX12_longer 247 = .ok (.aload_n 0, 1) := xdc ddX12_longer_3 3 rfl
theorem dX12_longer_248 : decode cX12_longer 248 = .ok (.getfield 138, 3) := xdc ddX12_longer_3 4 rfl
theorem dX12_longer_251 : decode cX12_longer 251 = .ok (.iadd, 1) := xdc ddX12_longer_3 5 rfl
theorem dX12_longer_252 : decode cX12_longer 252 = .ok (.istore 8, 2) := xdc ddX12_longer_3 6 rfl
theorem dX12_longer_254 : decode cX12_longer 254 = .ok (.aload_n 0, 1) := xdc ddX12_longer_3 7 rfl
theorem dX12_longer_255 : decode cX12_longer 255 = .ok (.iload 8, 2) := xdc ddX12_longer_3 8 rfl
theorem dX12_longer_257 : decode cX12_longer 257 = .ok (.invokevirtual 167, 3) := xdc ddX12_longer_3 9 rfl
theorem dX12_longer_260 : decode cX12_longer 260 = .ok (.ifCond .eq 16, 3) := xdc ddX12_longer_3 10 rfl
theorem dX12_longer_263 : decode cX12_longer 263 = .ok (.aload_n 0, 1) := xdc ddX12_longer_3 11 rfl
theorem dX12_longer_264 : decode cX12_longer 264 = .ok (.iload 9, 2) := xdc ddX12_longer_3 12 rfl
theorem dX12_longer_266 : decode cX12_longer 266 = .ok (.invokevirtual 180, 3) := xdc ddX12_longer_3 13 rfl
theorem dX12_longer_269 : decode cX12_longer 269 = .ok (.ifCond .eq 7, 3) := xdc ddX12_longer_3 14 rfl
theorem dX12_longer_272 : decode cX12_longer 272 = .ok (.iconst 1, 1) := xdc ddX12_longer_3 15 rfl
theorem dX12_longer_273 : decode cX12_longer 273 = .ok (.goto 4, 3) := xdc ddX12_longer_3 16 rfl
theorem dX12_longer_276 : decode cX12_longer 276 = .ok (.iconst 0, 1) := xdc ddX12_longer_3 17 rfl
theorem dX12_longer_277 : decode cX12_longer 277 = .ok (.istore 10, 2) := xdc ddX12_longer_3 18 rfl
theorem dX12_longer_279 : decode cX12_longer 279 = .ok (.iload 10, 2) := xdc ddX12_longer_3 19 rfl
theorem dX12_longer_281 : decode cX12_longer 281 = .ok (.ifCond .ne 5, 3) := xdc ddX12_longer_3 20 rfl
theorem dX12_longer_284 : decode cX12_longer 284 = .ok (.iconst (-1), 1) := xdc ddX12_longer_3 21 rfl
theorem dX12_longer_285 : decode cX12_longer 285 = .ok (.ireturn, 1) := xdc ddX12_longer_3 22 rfl
theorem dX12_longer_286 : decode cX12_longer 286 = .ok (.iload 8, 2) := xdc ddX12_longer_3 23 rfl
theorem dX12_longer_288 : decode cX12_longer 288 = .ok (.aload_n 0, 1) := xdc ddX12_longer_3 24 rfl
theorem dX12_longer_289 : decode cX12_longer 289 = .ok (.getfield 138, 3) := xdc ddX12_longer_3 25 rfl
theorem dX12_longer_292 : decode cX12_longer 292 = .ok (.iadd, 1) := xdc ddX12_longer_3 26 rfl
theorem dX12_longer_293 : decode cX12_longer 293 = .ok (.istore 8, 2) := xdc ddX12_longer_3 27 rfl
theorem dX12_longer_295 : decode cX12_longer 295 = .ok (.iload 6, 2) := xdc ddX12_longer_3 28 rfl
theorem dX12_longer_297 : decode cX12_longer 297 = .ok (.ifCond .ne 16, 3) := xdc ddX12_longer_3 29 rfl
theorem dX12_longer_300 : decode cX12_longer 300 = .ok (.iload 8, 2) := xdc ddX12_longer_3 30 rfl
theorem dX12_longer_302 : decode cX12_longer 302 = .ok (.iload_n 2, 1) := xdc ddX12_longer_3 31 rfl
theorem dX12_longer_303 : decode cX12_longer 303 = .ok (.if_icmp .gt 8, 3) := xdc ddX12_longer_3 32 rfl
theorem dX12_longer_306 : decode cX12_longer 306 = .ok (.iload 8, 2) := xdc ddX12_longer_3 33 rfl
theorem dX12_longer_308 : decode cX12_longer 308 = .ok (.goto 4, 3) := xdc ddX12_longer_3 34 rfl
theorem dX12_longer_311 : decode cX12_longer 311 = .ok (.iconst (-1), 1) := xdc ddX12_longer_3 35 rfl
theorem dX12_longer_312 : decode cX12_longer 312 = .ok (.ireturn, 1) := xdc ddX12_longer_3 36 rfl
theorem dX12_longer_313 : decode cX12_longer 313 = .ok (.aload_n 0, 1) := xdc ddX12_longer_3 37 rfl
theorem dX12_longer_314 : decode cX12_longer 314 = .ok (.iload 8, 2) := xdc ddX12_longer_3 38 rfl
theorem dX12_longer_316 : decode cX12_longer 316 = .ok (.invokevirtual 167, 3) := xdc ddX12_longer_3 39 rfl
theorem ddX12_longer_4 : xdec cX12_longer [(319, (.ifCond .eq 48, 3)), (322, (.aload_n 0, 1)), (323, (.invokevirtual 177, 3)), (326, (.ifCond .eq 41, 3)), (329, (.aload_n 0, 1)), (330, (.getfield 91, 3)), (333, (.iload 4, 2)), (335, (.if_icmp .ne 32, 3)), (338, (.aload_n 0, 1)), (339, (.invokevirtual 183, 3)), (342, (.ifCond .eq 25, 3)), (345, (.aload_n 0, 1)), (346, (.invokevirtual 174, 3)), (349, (.ifCond .ne 18, 3)), (352, (.iload 8, 2)), (354, (.aload_n 0, 1)), (355, (.getfield 138, 3)), (358, (.iadd, 1)), (359, (.iload_n 2, 1)), (360, (.if_icmp .gt 7, 3)), (363, (.iconst 1, 1)), (364, (.goto 4, 3)), (367, (.iconst 0, 1)), (368, (.istore 11, 2)), (370, (.iload 11, 2)), (372, (.ifCond .eq 13, 3)), (375, (.iload 8, 2)), (377, (.aload_n 0, 1)), (378, (.getfield 138, 3)), (381, (.iadd, 1)), (382, (.goto 4, 3)), (385, (.iconst (-1), 1)), (386, (.ireturn, 1)), (387, (.iconst (-1), 1)), (388, (.ireturn, 1))] = true := by decide +kernel
theorem dX12_longer_319 : decode cX12_longer 319 = .ok (.ifCond .eq 48, 3) := xdc ddX12_longer_4 0 rfl
theorem dX12_longer_322 : decode cX12_longer 322 = .ok (.aload_n 0, 1) := xdc ddX12_longer_4 1 rfl
theorem dX12_longer_323 : decode cX12_longer 323 = .ok (.invokevirtual 177, 3) := xdc ddX12_longer_4 2 rfl
theorem dX12_longer_326 : decode cX12_longer 326 = .ok (.ifCond .eq 41, 3) := xdc ddX12_longer_4 3 rfl
theorem dX12_longer_329 : decode cX12_longer 329 = .ok (.aload_n 0, 1) := xdc ddX12_longer_4 4 rfl
theorem dX12_longer_330 : decode cX12_longer 330 = .ok (.getfield 91, 3) := xdc ddX12_longer_4 5 rfl
theorem dX12_longer_333 : decode cX12_longer 333 = .ok (.iload 4, 2) := xdc ddX12_longer_4 6 rfl
theorem dX12_longer_335 : decode cX12_longer 335 = .ok (.if_icmp .ne 32, 3) := xdc ddX12_longer_4 7 rfl
theorem dX12_longer_338 : decode cX12_longer 338 = .ok (.aload_n 0, 1) := xdc ddX12_longer_4 8 rfl
theorem dX12_longer_339 : decode cX12_longer 339 = .ok (.invokevirtual 183, 3) := xdc ddX12_longer_4 9 rfl
theorem dX12_longer_342 : decode cX12_longer 342 = .ok (.ifCond .eq 25, 3) := xdc ddX12_longer_4 10 rfl
theorem dX12_longer_345 : decode cX12_longer 345 = .ok (.aload_n 0, 1) := xdc ddX12_longer_4 11 rfl
theorem dX12_longer_346 : decode cX12_longer 346 = .ok (.invokevirtual 174, 3) := xdc ddX12_longer_4 12 rfl
theorem dX12_longer_349 : decode cX12_longer 349 = .ok (.ifCond .ne 18, 3) := xdc ddX12_longer_4 13 rfl
theorem dX12_longer_352 : decode cX12_longer 352 = .ok (.iload 8, 2) := xdc ddX12_longer_4 14 rfl
theorem dX12_longer_354 : decode cX12_longer 354 = .ok (.aload_n 0, 1) := xdc ddX12_longer_4 15 rfl
theorem dX12_longer_355 : decode cX12_longer 355 = .ok (.getfield 138, 3) := xdc ddX12_longer_4 16 rfl
theorem dX12_longer_358 : decode cX12_longer 358 = .ok (.iadd, 1) := xdc ddX12_longer_4 17 rfl
theorem dX12_longer_359 : decode cX12_longer 359 = .ok (.iload_n 2, 1) := xdc ddX12_longer_4 18 rfl
theorem dX12_longer_360 : decode cX12_longer 360 = .ok (.if_icmp .gt 7, 3) := xdc ddX12_longer_4 19 rfl
theorem dX12_longer_363 : decode cX12_longer 363 = .ok (.iconst 1, 1) := xdc ddX12_longer_4 20 rfl
theorem dX12_longer_364 : decode cX12_longer 364 = .ok (.goto 4, 3) := xdc ddX12_longer_4 21 rfl
theorem dX12_longer_367 : decode cX12_longer 367 = .ok (.iconst 0, 1) := xdc ddX12_longer_4 22 rfl
theorem dX12_longer_368 : decode cX12_longer 368 = .ok (.istore 11, 2) := xdc ddX12_longer_4 23 rfl
theorem dX12_longer_370 : decode cX12_longer 370 = .ok (.iload 11, 2) := xdc ddX12_longer_4 24 rfl
theorem dX12_longer_372 : decode cX12_longer 372 = .ok (.ifCond .eq 13, 3) := xdc ddX12_longer_4 25 rfl
theorem dX12_longer_375 : decode cX12_longer 375 = .ok (.iload 8, 2) := xdc ddX12_longer_4 26 rfl
theorem dX12_longer_377 : decode cX12_longer 377 = .ok (.aload_n 0, 1) := xdc ddX12_longer_4 27 rfl
theorem dX12_longer_378 : decode cX12_longer 378 = .ok (.getfield 138, 3) := xdc ddX12_longer_4 28 rfl
theorem dX12_longer_381 : decode cX12_longer 381 = .ok (.iadd, 1) := xdc ddX12_longer_4 29 rfl
theorem dX12_longer_382 : decode cX12_longer 382 = .ok (.goto 4, 3) := xdc ddX12_longer_4 30 rfl
theorem dX12_longer_385 : decode cX12_longer 385 = .ok (.iconst (-1), 1) := xdc ddX12_longer_4 31 rfl
theorem dX12_longer_386 : decode cX12_longer 386 = .ok (.ireturn, 1) := xdc ddX12_longer_4 32 rfl
theorem dX12_longer_387 : decode cX12_longer 387 = .ok (.iconst (-1), 1) := xdc ddX12_longer_4 33 rfl
theorem dX12_longer_388 : decode cX12_longer 388 = .ok (.ireturn, 1) := xdc ddX12_longer_4 34 rfl
abbrev cX12_faultAt : ByteArray := prog_14_method_26_code
theorem ddX12_faultAt_0 : xdec cX12_faultAt [(0, (.aload_n 0, 1)), (1, (.iload_n 1, 1)), (2, (.invokevirtual 167, 3)), (5, (.ifCond .ne 5, 3)), (8, (.iconst 2, 1)), (9, (.ireturn, 1)), (10, (.iload_n 1, 1)), (11, (.aload_n 0, 1)), (12, (.getfield 138, 3)), (15, (.iadd, 1)), (16, (.iload_n 2, 1)), (17, (.if_icmp .le 5, 3)), (20, (.iconst 3, 1)), (21, (.ireturn, 1)), (22, (.aload_n 0, 1)), (23, (.getfield 70, 3)), (26, (.bipush 42, 2)), (28, (.if_icmp .eq 12, 3)), (31, (.aload_n 0, 1)), (32, (.getfield 70, 3)), (35, (.bipush 43, 2)), (37, (.if_icmp .ne 5, 3)), (40, (.iconst 4, 1)), (41, (.ireturn, 1)), (42, (.aload_n 0, 1)), (43, (.getfield 91, 3)), (46, (.iconst (-1), 1)), (47, (.if_icmp .ne 42, 3)), (50, (.aload_n 0, 1)), (51, (.getfield 94, 3)), (54, (.iconst (-1), 1)), (55, (.if_icmp .ne 34, 3)), (58, (.aload_n 0, 1)), (59, (.getfield 100, 3)), (62, (.i2l, 1)), (63, (.ldc2_w 186, 3)), (66, (.land, 1)), (67, (.ldc2_w 188, 3)), (70, (.ldc2_w 190, 3)), (73, (.aload_n 0, 1))] = true := by decide +kernel
theorem dX12_faultAt_0 : decode cX12_faultAt 0 = .ok (.aload_n 0, 1) := xdc ddX12_faultAt_0 0 rfl
theorem dX12_faultAt_1 : decode cX12_faultAt 1 = .ok (.iload_n 1, 1) := xdc ddX12_faultAt_0 1 rfl
theorem dX12_faultAt_2 : decode cX12_faultAt 2 = .ok (.invokevirtual 167, 3) := xdc ddX12_faultAt_0 2 rfl
theorem dX12_faultAt_5 : decode cX12_faultAt 5 = .ok (.ifCond .ne 5, 3) := xdc ddX12_faultAt_0 3 rfl
theorem dX12_faultAt_8 : decode cX12_faultAt 8 = .ok (.iconst 2, 1) := xdc ddX12_faultAt_0 4 rfl
theorem dX12_faultAt_9 : decode cX12_faultAt 9 = .ok (.ireturn, 1) := xdc ddX12_faultAt_0 5 rfl
theorem dX12_faultAt_10 : decode cX12_faultAt 10 = .ok (.iload_n 1, 1) := xdc ddX12_faultAt_0 6 rfl
theorem dX12_faultAt_11 : decode cX12_faultAt 11 = .ok (.aload_n 0, 1) := xdc ddX12_faultAt_0 7 rfl
theorem dX12_faultAt_12 : decode cX12_faultAt 12 = .ok (.getfield 138, 3) := xdc ddX12_faultAt_0 8 rfl
theorem dX12_faultAt_15 : decode cX12_faultAt 15 = .ok (.iadd, 1) := xdc ddX12_faultAt_0 9 rfl
theorem dX12_faultAt_16 : decode cX12_faultAt 16 = .ok (.iload_n 2, 1) := xdc ddX12_faultAt_0 10 rfl
theorem dX12_faultAt_17 : decode cX12_faultAt 17 = .ok (.if_icmp .le 5, 3) := xdc ddX12_faultAt_0 11 rfl
theorem dX12_faultAt_20 : decode cX12_faultAt 20 = .ok (.iconst 3, 1) := xdc ddX12_faultAt_0 12 rfl
theorem dX12_faultAt_21 : decode cX12_faultAt 21 = .ok (.ireturn, 1) := xdc ddX12_faultAt_0 13 rfl
theorem dX12_faultAt_22 : decode cX12_faultAt 22 = .ok (.aload_n 0, 1) := xdc ddX12_faultAt_0 14 rfl
theorem dX12_faultAt_23 : decode cX12_faultAt 23 = .ok (.getfield 70, 3) := xdc ddX12_faultAt_0 15 rfl
theorem dX12_faultAt_26 : decode cX12_faultAt 26 = .ok (.bipush 42, 2) := xdc ddX12_faultAt_0 16 rfl
theorem dX12_faultAt_28 : decode cX12_faultAt 28 = .ok (.if_icmp .eq 12, 3) := xdc ddX12_faultAt_0 17 rfl
theorem dX12_faultAt_31 : decode cX12_faultAt 31 = .ok (.aload_n 0, 1) := xdc ddX12_faultAt_0 18 rfl
theorem dX12_faultAt_32 : decode cX12_faultAt 32 = .ok (.getfield 70, 3) := xdc ddX12_faultAt_0 19 rfl
theorem dX12_faultAt_35 : decode cX12_faultAt 35 = .ok (.bipush 43, 2) := xdc ddX12_faultAt_0 20 rfl
theorem dX12_faultAt_37 : decode cX12_faultAt 37 = .ok (.if_icmp .ne 5, 3) := xdc ddX12_faultAt_0 21 rfl
theorem dX12_faultAt_40 : decode cX12_faultAt 40 = .ok (.iconst 4, 1) := xdc ddX12_faultAt_0 22 rfl
theorem dX12_faultAt_41 : decode cX12_faultAt 41 = .ok (.ireturn, 1) := xdc ddX12_faultAt_0 23 rfl
theorem dX12_faultAt_42 : decode cX12_faultAt 42 = .ok (.aload_n 0, 1) := xdc ddX12_faultAt_0 24 rfl
theorem dX12_faultAt_43 : decode cX12_faultAt 43 = .ok (.getfield 91, 3) := xdc ddX12_faultAt_0 25 rfl
theorem dX12_faultAt_46 : decode cX12_faultAt 46 = .ok (.iconst (-1), 1) := xdc ddX12_faultAt_0 26 rfl
theorem dX12_faultAt_47 : decode cX12_faultAt 47 = .ok (.if_icmp .ne 42, 3) := xdc ddX12_faultAt_0 27 rfl
theorem dX12_faultAt_50 : decode cX12_faultAt 50 = .ok (.aload_n 0, 1) := xdc ddX12_faultAt_0 28 rfl
theorem dX12_faultAt_51 : decode cX12_faultAt 51 = .ok (.getfield 94, 3) := xdc ddX12_faultAt_0 29 rfl
theorem dX12_faultAt_54 : decode cX12_faultAt 54 = .ok (.iconst (-1), 1) := xdc ddX12_faultAt_0 30 rfl
theorem dX12_faultAt_55 : decode cX12_faultAt 55 = .ok (.if_icmp .ne 34, 3) := xdc ddX12_faultAt_0 31 rfl
theorem dX12_faultAt_58 : decode cX12_faultAt 58 = .ok (.aload_n 0, 1) := xdc ddX12_faultAt_0 32 rfl
theorem dX12_faultAt_59 : decode cX12_faultAt 59 = .ok (.getfield 100, 3) := xdc ddX12_faultAt_0 33 rfl
theorem dX12_faultAt_62 : decode cX12_faultAt 62 = .ok (.i2l, 1) := xdc ddX12_faultAt_0 34 rfl
theorem dX12_faultAt_63 : decode cX12_faultAt 63 = .ok (.ldc2_w 186, 3) := xdc ddX12_faultAt_0 35 rfl
theorem dX12_faultAt_66 : decode cX12_faultAt 66 = .ok (.land, 1) := xdc ddX12_faultAt_0 36 rfl
theorem dX12_faultAt_67 : decode cX12_faultAt 67 = .ok (.ldc2_w 188, 3) := xdc ddX12_faultAt_0 37 rfl
theorem dX12_faultAt_70 : decode cX12_faultAt 70 = .ok (.ldc2_w 190, 3) := xdc ddX12_faultAt_0 38 rfl
theorem dX12_faultAt_73 : decode cX12_faultAt 73 = .ok (.aload_n 0, 1) := xdc ddX12_faultAt_0 39 rfl
theorem ddX12_faultAt_1 : xdec cX12_faultAt [(74, (.getfield 79, 3)), (77, (.i2l, 1)), (78, (.lsub, 1)), (79, (.invokestatic 163, 3)), (82, (.ifCond .eq 7, 3)), (85, (.iconst 1, 1)), (86, (.goto 4, 3)), (89, (.iconst 0, 1)), (90, (.istore_n 3, 1)), (91, (.aload_n 0, 1)), (92, (.invokevirtual 174, 3)), (95, (.ifCond .eq 6, 3)), (98, (.bipush 6, 2)), (100, (.ireturn, 1)), (101, (.aload_n 0, 1)), (102, (.invokevirtual 177, 3)), (105, (.ifCond .eq 26, 3)), (108, (.aload_n 0, 1)), (109, (.getfield 91, 3)), (112, (.iconst 4, 1)), (113, (.if_icmp .ne 10, 3)), (116, (.aload_n 0, 1)), (117, (.invokevirtual 183, 3)), (120, (.ifCond .ne 11, 3)), (123, (.iload_n 3, 1)), (124, (.ifCond .ne 7, 3)), (127, (.iconst 5, 1)), (128, (.goto 4, 3)), (131, (.iconst 0, 1)), (132, (.ireturn, 1))] = true := by decide +kernel
theorem dX12_faultAt_74 : decode cX12_faultAt 74 = .ok (.getfield 79, 3) := xdc ddX12_faultAt_1 0 rfl
theorem dX12_faultAt_77 : decode cX12_faultAt 77 = .ok (.i2l, 1) := xdc ddX12_faultAt_1 1 rfl
theorem dX12_faultAt_78 : decode cX12_faultAt 78 = .ok (.lsub, 1) := xdc ddX12_faultAt_1 2 rfl
theorem dX12_faultAt_79 : decode cX12_faultAt 79 = .ok (.invokestatic 163, 3) := xdc ddX12_faultAt_1 3 rfl
theorem dX12_faultAt_82 : decode cX12_faultAt 82 = .ok (.ifCond .eq 7, 3) := xdc ddX12_faultAt_1 4 rfl
theorem dX12_faultAt_85 : decode cX12_faultAt 85 = .ok (.iconst 1, 1) := xdc ddX12_faultAt_1 5 rfl
theorem dX12_faultAt_86 : decode cX12_faultAt 86 = .ok (.goto 4, 3) := xdc ddX12_faultAt_1 6 rfl
theorem dX12_faultAt_89 : decode cX12_faultAt 89 = .ok (.iconst 0, 1) := xdc ddX12_faultAt_1 7 rfl
theorem dX12_faultAt_90 : decode cX12_faultAt 90 = .ok (.istore_n 3, 1) := xdc ddX12_faultAt_1 8 rfl
theorem dX12_faultAt_91 : decode cX12_faultAt 91 = .ok (.aload_n 0, 1) := xdc ddX12_faultAt_1 9 rfl
theorem dX12_faultAt_92 : decode cX12_faultAt 92 = .ok (.invokevirtual 174, 3) := xdc ddX12_faultAt_1 10 rfl
theorem dX12_faultAt_95 : decode cX12_faultAt 95 = .ok (.ifCond .eq 6, 3) := xdc ddX12_faultAt_1 11 rfl
theorem dX12_faultAt_98 : decode cX12_faultAt 98 = .ok (.bipush 6, 2) := xdc ddX12_faultAt_1 12 rfl
theorem dX12_faultAt_100 : decode cX12_faultAt 100 = .ok (.ireturn, 1) := xdc ddX12_faultAt_1 13 rfl
theorem dX12_faultAt_101 : decode cX12_faultAt 101 = .ok (.aload_n 0, 1) := xdc ddX12_faultAt_1 14 rfl
theorem dX12_faultAt_102 : decode cX12_faultAt 102 = .ok (.invokevirtual 177, 3) := xdc ddX12_faultAt_1 15 rfl
theorem dX12_faultAt_105 : decode cX12_faultAt 105 = .ok (.ifCond .eq 26, 3) := xdc ddX12_faultAt_1 16 rfl
theorem dX12_faultAt_108 : decode cX12_faultAt 108 = .ok (.aload_n 0, 1) := xdc ddX12_faultAt_1 17 rfl
theorem dX12_faultAt_109 : decode cX12_faultAt 109 = .ok (.getfield 91, 3) := xdc ddX12_faultAt_1 18 rfl
theorem dX12_faultAt_112 : decode cX12_faultAt 112 = .ok (.iconst 4, 1) := xdc ddX12_faultAt_1 19 rfl
theorem dX12_faultAt_113 : decode cX12_faultAt 113 = .ok (.if_icmp .ne 10, 3) := xdc ddX12_faultAt_1 20 rfl
theorem dX12_faultAt_116 : decode cX12_faultAt 116 = .ok (.aload_n 0, 1) := xdc ddX12_faultAt_1 21 rfl
theorem dX12_faultAt_117 : decode cX12_faultAt 117 = .ok (.invokevirtual 183, 3) := xdc ddX12_faultAt_1 22 rfl
theorem dX12_faultAt_120 : decode cX12_faultAt 120 = .ok (.ifCond .ne 11, 3) := xdc ddX12_faultAt_1 23 rfl
theorem dX12_faultAt_123 : decode cX12_faultAt 123 = .ok (.iload_n 3, 1) := xdc ddX12_faultAt_1 24 rfl
theorem dX12_faultAt_124 : decode cX12_faultAt 124 = .ok (.ifCond .ne 7, 3) := xdc ddX12_faultAt_1 25 rfl
theorem dX12_faultAt_127 : decode cX12_faultAt 127 = .ok (.iconst 5, 1) := xdc ddX12_faultAt_1 26 rfl
theorem dX12_faultAt_128 : decode cX12_faultAt 128 = .ok (.goto 4, 3) := xdc ddX12_faultAt_1 27 rfl
theorem dX12_faultAt_131 : decode cX12_faultAt 131 = .ok (.iconst 0, 1) := xdc ddX12_faultAt_1 28 rfl
theorem dX12_faultAt_132 : decode cX12_faultAt 132 = .ok (.ireturn, 1) := xdc ddX12_faultAt_1 29 rfl
abbrev cX12_bad : ByteArray := prog_14_method_27_code
theorem ddX12_bad_0 : xdec cX12_bad [(0, (.aload_n 0, 1)), (1, (.iload_n 1, 1)), (2, (.putfield 192, 3)), (5, (.aload_n 0, 1)), (6, (.iload_n 2, 1)), (7, (.putfield 23, 3)), (10, (.aload_n 0, 1)), (11, (.iconst 0, 1)), (12, (.putfield 195, 3)), (15, (.iconst (-1), 1)), (16, (.ireturn, 1))] = true := by decide +kernel
theorem dX12_bad_0 : decode cX12_bad 0 = .ok (.aload_n 0, 1) := xdc ddX12_bad_0 0 rfl
theorem dX12_bad_1 : decode cX12_bad 1 = .ok (.iload_n 1, 1) := xdc ddX12_bad_0 1 rfl
theorem dX12_bad_2 : decode cX12_bad 2 = .ok (.putfield 192, 3) := xdc ddX12_bad_0 2 rfl
theorem dX12_bad_5 : decode cX12_bad 5 = .ok (.aload_n 0, 1) := xdc ddX12_bad_0 3 rfl
theorem dX12_bad_6 : decode cX12_bad 6 = .ok (.iload_n 2, 1) := xdc ddX12_bad_0 4 rfl
theorem dX12_bad_7 : decode cX12_bad 7 = .ok (.putfield 23, 3) := xdc ddX12_bad_0 5 rfl
theorem dX12_bad_10 : decode cX12_bad 10 = .ok (.aload_n 0, 1) := xdc ddX12_bad_0 6 rfl
theorem dX12_bad_11 : decode cX12_bad 11 = .ok (.iconst 0, 1) := xdc ddX12_bad_0 7 rfl
theorem dX12_bad_12 : decode cX12_bad 12 = .ok (.putfield 195, 3) := xdc ddX12_bad_0 8 rfl
theorem dX12_bad_15 : decode cX12_bad 15 = .ok (.iconst (-1), 1) := xdc ddX12_bad_0 9 rfl
theorem dX12_bad_16 : decode cX12_bad 16 = .ok (.ireturn, 1) := xdc ddX12_bad_0 10 rfl
abbrev cX12_isGate : ByteArray := prog_14_method_28_code
theorem ddX12_isGate_0 : xdec cX12_isGate [(0, (.lload_n 1, 1)), (1, (.ldc2_w 198, 3)), (4, (.lcmp, 1)), (5, (.ifCond .lt 25, 3)), (8, (.lload_n 1, 1)), (9, (.ldc2_w 200, 3)), (12, (.lcmp, 1)), (13, (.ifCond .ge 17, 3)), (16, (.lload_n 1, 1)), (17, (.ldc2_w 202, 3)), (20, (.lrem, 1)), (21, (.lconst 0, 1)), (22, (.lcmp, 1)), (23, (.ifCond .ne 7, 3)), (26, (.iconst 1, 1)), (27, (.goto 4, 3)), (30, (.iconst 0, 1)), (31, (.ireturn, 1))] = true := by decide +kernel
theorem dX12_isGate_0 : decode cX12_isGate 0 = .ok (.lload_n 1, 1) := xdc ddX12_isGate_0 0 rfl
theorem dX12_isGate_1 : decode cX12_isGate 1 = .ok (.ldc2_w 198, 3) := xdc ddX12_isGate_0 1 rfl
theorem dX12_isGate_4 : decode cX12_isGate 4 = .ok (.lcmp, 1) := xdc ddX12_isGate_0 2 rfl
theorem dX12_isGate_5 : decode cX12_isGate 5 = .ok (.ifCond .lt 25, 3) := xdc ddX12_isGate_0 3 rfl
theorem dX12_isGate_8 : decode cX12_isGate 8 = .ok (.lload_n 1, 1) := xdc ddX12_isGate_0 4 rfl
theorem dX12_isGate_9 : decode cX12_isGate 9 = .ok (.ldc2_w 200, 3) := xdc ddX12_isGate_0 5 rfl
theorem dX12_isGate_12 : decode cX12_isGate 12 = .ok (.lcmp, 1) := xdc ddX12_isGate_0 6 rfl
theorem dX12_isGate_13 : decode cX12_isGate 13 = .ok (.ifCond .ge 17, 3) := xdc ddX12_isGate_0 7 rfl
theorem dX12_isGate_16 : decode cX12_isGate 16 = .ok (.lload_n 1, 1) := xdc ddX12_isGate_0 8 rfl
theorem dX12_isGate_17 : decode cX12_isGate 17 = .ok (.ldc2_w 202, 3) := xdc ddX12_isGate_0 9 rfl
theorem dX12_isGate_20 : decode cX12_isGate 20 = .ok (.lrem, 1) := xdc ddX12_isGate_0 10 rfl
theorem dX12_isGate_21 : decode cX12_isGate 21 = .ok (.lconst 0, 1) := xdc ddX12_isGate_0 11 rfl
theorem dX12_isGate_22 : decode cX12_isGate 22 = .ok (.lcmp, 1) := xdc ddX12_isGate_0 12 rfl
theorem dX12_isGate_23 : decode cX12_isGate 23 = .ok (.ifCond .ne 7, 3) := xdc ddX12_isGate_0 13 rfl
theorem dX12_isGate_26 : decode cX12_isGate 26 = .ok (.iconst 1, 1) := xdc ddX12_isGate_0 14 rfl
theorem dX12_isGate_27 : decode cX12_isGate 27 = .ok (.goto 4, 3) := xdc ddX12_isGate_0 15 rfl
theorem dX12_isGate_30 : decode cX12_isGate 30 = .ok (.iconst 0, 1) := xdc ddX12_isGate_0 16 rfl
theorem dX12_isGate_31 : decode cX12_isGate 31 = .ok (.ireturn, 1) := xdc ddX12_isGate_0 17 rfl
abbrev cX12_look : ByteArray := prog_14_method_29_code
theorem ddX12_look_0 : xdec cX12_look [(0, (.aload_n 0, 1)), (1, (.iconst 0, 1)), (2, (.putfield 53, 3)), (5, (.iconst 0, 1)), (6, (.istore_n 1, 1)), (7, (.iload_n 1, 1)), (8, (.sipush 2048, 3)), (11, (.if_icmp .ge 16, 3)), (14, (.aload_n 0, 1)), (15, (.getfield 27, 3)), (18, (.iload_n 1, 1)), (19, (.iconst 0, 1)), (20, (.iastore, 1)), (21, (.iinc 1 1, 3)), (24, (.goto (-17), 3)), (27, (.aload_n 0, 1)), (28, (.getfield 59, 3)), (31, (.ifCond .eq 13, 3)), (34, (.aload_n 0, 1)), (35, (.getfield 59, 3)), (38, (.bipush 32, 2)), (40, (.irem, 1)), (41, (.ifCond .eq 10, 3)), (44, (.aload_n 0, 1)), (45, (.iconst 1, 1)), (46, (.iconst 0, 1)), (47, (.invokevirtual 204, 3)), (50, (.ireturn, 1)), (51, (.iconst 0, 1)), (52, (.istore_n 1, 1)), (53, (.iconst 0, 1)), (54, (.istore_n 2, 1)), (55, (.iconst 0, 1)), (56, (.istore_n 3, 1)), (57, (.iload_n 1, 1)), (58, (.aload_n 0, 1)), (59, (.getfield 59, 3)), (62, (.if_icmp .ge 133, 3)), (65, (.iload_n 1, 1)), (66, (.bipush 32, 2))] = true := by decide +kernel
theorem dX12_look_0 : decode cX12_look 0 = .ok (.aload_n 0, 1) := xdc ddX12_look_0 0 rfl
theorem dX12_look_1 : decode cX12_look 1 = .ok (.iconst 0, 1) := xdc ddX12_look_0 1 rfl
theorem dX12_look_2 : decode cX12_look 2 = .ok (.putfield 53, 3) := xdc ddX12_look_0 2 rfl
theorem dX12_look_5 : decode cX12_look 5 = .ok (.iconst 0, 1) := xdc ddX12_look_0 3 rfl
theorem dX12_look_6 : decode cX12_look 6 = .ok (.istore_n 1, 1) := xdc ddX12_look_0 4 rfl
theorem dX12_look_7 : decode cX12_look 7 = .ok (.iload_n 1, 1) := xdc ddX12_look_0 5 rfl
theorem dX12_look_8 : decode cX12_look 8 = .ok (.sipush 2048, 3) := xdc ddX12_look_0 6 rfl
theorem dX12_look_11 : decode cX12_look 11 = .ok (.if_icmp .ge 16, 3) := xdc ddX12_look_0 7 rfl
theorem dX12_look_14 : decode cX12_look 14 = .ok (.aload_n 0, 1) := xdc ddX12_look_0 8 rfl
theorem dX12_look_15 : decode cX12_look 15 = .ok (.getfield 27, 3) := xdc ddX12_look_0 9 rfl
theorem dX12_look_18 : decode cX12_look 18 = .ok (.iload_n 1, 1) := xdc ddX12_look_0 10 rfl
theorem dX12_look_19 : decode cX12_look 19 = .ok (.iconst 0, 1) := xdc ddX12_look_0 11 rfl
theorem dX12_look_20 : decode cX12_look 20 = .ok (.iastore, 1) := xdc ddX12_look_0 12 rfl
theorem dX12_look_21 : decode cX12_look 21 = .ok (.iinc 1 1, 3) := xdc ddX12_look_0 13 rfl
theorem dX12_look_24 : decode cX12_look 24 = .ok (.goto (-17), 3) := xdc ddX12_look_0 14 rfl
theorem dX12_look_27 : decode cX12_look 27 = .ok (.aload_n 0, 1) := xdc ddX12_look_0 15 rfl
theorem dX12_look_28 : decode cX12_look 28 = .ok (.getfield 59, 3) := xdc ddX12_look_0 16 rfl
theorem dX12_look_31 : decode cX12_look 31 = .ok (.ifCond .eq 13, 3) := xdc ddX12_look_0 17 rfl
theorem dX12_look_34 : decode cX12_look 34 = .ok (.aload_n 0, 1) := xdc ddX12_look_0 18 rfl
theorem dX12_look_35 : decode cX12_look 35 = .ok (.getfield 59, 3) := xdc ddX12_look_0 19 rfl
theorem dX12_look_38 : decode cX12_look 38 = .ok (.bipush 32, 2) := xdc ddX12_look_0 20 rfl
theorem dX12_look_40 : decode cX12_look 40 = .ok (.irem, 1) := xdc ddX12_look_0 21 rfl
theorem dX12_look_41 : decode cX12_look 41 = .ok (.ifCond .eq 10, 3) := xdc ddX12_look_0 22 rfl
theorem dX12_look_44 : decode cX12_look 44 = .ok (.aload_n 0, 1) := xdc ddX12_look_0 23 rfl
theorem dX12_look_45 : decode cX12_look 45 = .ok (.iconst 1, 1) := xdc ddX12_look_0 24 rfl
theorem dX12_look_46 : decode cX12_look 46 = .ok (.iconst 0, 1) := xdc ddX12_look_0 25 rfl
theorem dX12_look_47 : decode cX12_look 47 = .ok (.invokevirtual 204, 3) := xdc ddX12_look_0 26 rfl
theorem dX12_look_50 : decode cX12_look 50 = .ok (.ireturn, 1) := xdc ddX12_look_0 27 rfl
theorem dX12_look_51 : decode cX12_look 51 = .ok (.iconst 0, 1) := xdc ddX12_look_0 28 rfl
theorem dX12_look_52 : decode cX12_look 52 = .ok (.istore_n 1, 1) := xdc ddX12_look_0 29 rfl
theorem dX12_look_53 : decode cX12_look 53 = .ok (.iconst 0, 1) := xdc ddX12_look_0 30 rfl
theorem dX12_look_54 : decode cX12_look 54 = .ok (.istore_n 2, 1) := xdc ddX12_look_0 31 rfl
theorem dX12_look_55 : decode cX12_look 55 = .ok (.iconst 0, 1) := xdc ddX12_look_0 32 rfl
theorem dX12_look_56 : decode cX12_look 56 = .ok (.istore_n 3, 1) := xdc ddX12_look_0 33 rfl
theorem dX12_look_57 : decode cX12_look 57 = .ok (.iload_n 1, 1) := xdc ddX12_look_0 34 rfl
theorem dX12_look_58 : decode cX12_look 58 = .ok (.aload_n 0, 1) := xdc ddX12_look_0 35 rfl
theorem dX12_look_59 : decode cX12_look 59 = .ok (.getfield 59, 3) := xdc ddX12_look_0 36 rfl
theorem dX12_look_62 : decode cX12_look 62 = .ok (.if_icmp .ge 133, 3) := xdc ddX12_look_0 37 rfl
theorem dX12_look_65 : decode cX12_look 65 = .ok (.iload_n 1, 1) := xdc ddX12_look_0 38 rfl
theorem dX12_look_66 : decode cX12_look 66 = .ok (.bipush 32, 2) := xdc ddX12_look_0 39 rfl
theorem ddX12_look_1 : xdec cX12_look [(68, (.idiv, 1)), (69, (.iconst 1, 1)), (70, (.iadd, 1)), (71, (.bipush 32, 2)), (73, (.imul, 1)), (74, (.istore 4, 2)), (76, (.aload_n 0, 1)), (77, (.iload_n 1, 1)), (78, (.invokevirtual 167, 3)), (81, (.ifCond .eq 24, 3)), (84, (.iload_n 1, 1)), (85, (.aload_n 0, 1)), (86, (.getfield 138, 3)), (89, (.iadd, 1)), (90, (.iload 4, 2)), (92, (.if_icmp .gt 13, 3)), (95, (.aload_n 0, 1)), (96, (.iload_n 1, 1)), (97, (.iload 4, 2)), (99, (.invokevirtual 208, 3)), (102, (.goto 4, 3)), (105, (.iconst (-1), 1)), (106, (.istore 5, 2)), (108, (.iload 5, 2)), (110, (.iconst (-1), 1)), (111, (.if_icmp .ne 33, 3)), (114, (.aload_n 0, 1)), (115, (.iload_n 1, 1)), (116, (.iload 4, 2)), (118, (.invokevirtual 211, 3)), (121, (.istore 6, 2)), (123, (.iload 6, 2)), (125, (.ifCond .le 11, 3)), (128, (.aload_n 0, 1)), (129, (.iload 6, 2)), (131, (.iload_n 1, 1)), (132, (.invokevirtual 204, 3)), (135, (.ireturn, 1)), (136, (.iload_n 1, 1)), (137, (.aload_n 0, 1))] = true := by decide +kernel
theorem dX12_look_68 : decode cX12_look 68 = .ok (.idiv, 1) := xdc ddX12_look_1 0 rfl
theorem dX12_look_69 : decode cX12_look 69 = .ok (.iconst 1, 1) := xdc ddX12_look_1 1 rfl
theorem dX12_look_70 : decode cX12_look 70 = .ok (.iadd, 1) := xdc ddX12_look_1 2 rfl
theorem dX12_look_71 : decode cX12_look 71 = .ok (.bipush 32, 2) := xdc ddX12_look_1 3 rfl
theorem dX12_look_73 : decode cX12_look 73 = .ok (.imul, 1) := xdc ddX12_look_1 4 rfl
theorem dX12_look_74 : decode cX12_look 74 = .ok (.istore 4, 2) := xdc ddX12_look_1 5 rfl
theorem dX12_look_76 : decode cX12_look 76 = .ok (.aload_n 0, 1) := xdc ddX12_look_1 6 rfl
theorem dX12_look_77 : decode cX12_look 77 = .ok (.iload_n 1, 1) := xdc ddX12_look_1 7 rfl
theorem dX12_look_78 : decode cX12_look 78 = .ok (.invokevirtual 167, 3) := xdc ddX12_look_1 8 rfl
theorem dX12_look_81 : decode cX12_look 81 = .ok (.ifCond .eq 24, 3) := xdc ddX12_look_1 9 rfl
theorem dX12_look_84 : decode cX12_look 84 = .ok (.iload_n 1, 1) := xdc ddX12_look_1 10 rfl
theorem dX12_look_85 : decode cX12_look 85 = .ok (.aload_n 0, 1) := xdc ddX12_look_1 11 rfl
theorem dX12_look_86 : decode cX12_look 86 = .ok (.getfield 138, 3) := xdc ddX12_look_1 12 rfl
theorem dX12_look_89 : decode cX12_look 89 = .ok (.iadd, 1) := xdc ddX12_look_1 13 rfl
theorem dX12_look_90 : decode cX12_look 90 = .ok (.iload 4, 2) := xdc ddX12_look_1 14 rfl
theorem dX12_look_92 : decode cX12_look 92 = .ok (.if_icmp .gt 13, 3) := xdc ddX12_look_1 15 rfl
theorem dX12_look_95 : decode cX12_look 95 = .ok (.aload_n 0, 1) := xdc ddX12_look_1 16 rfl
theorem dX12_look_96 : decode cX12_look 96 = .ok (.iload_n 1, 1) := xdc ddX12_look_1 17 rfl
theorem dX12_look_97 : decode cX12_look 97 = .ok (.iload 4, 2) := xdc ddX12_look_1 18 rfl
theorem dX12_look_99 : decode cX12_look 99 = .ok (.invokevirtual 208, 3) := xdc ddX12_look_1 19 rfl
theorem dX12_look_102 : decode cX12_look 102 = .ok (.goto 4, 3) := xdc ddX12_look_1 20 rfl
theorem dX12_look_105 : decode cX12_look 105 = .ok (.iconst (-1), 1) := xdc ddX12_look_1 21 rfl
theorem dX12_look_106 : decode cX12_look 106 = .ok (.istore 5, 2) := xdc ddX12_look_1 22 rfl
theorem dX12_look_108 : decode cX12_look 108 = .ok (.iload 5, 2) := xdc ddX12_look_1 23 rfl
theorem dX12_look_110 : decode cX12_look 110 = .ok (.iconst (-1), 1) := xdc ddX12_look_1 24 rfl
theorem dX12_look_111 : decode cX12_look 111 = .ok (.if_icmp .ne 33, 3) := xdc ddX12_look_1 25 rfl
theorem dX12_look_114 : decode cX12_look 114 = .ok (.aload_n 0, 1) := xdc ddX12_look_1 26 rfl
theorem dX12_look_115 : decode cX12_look 115 = .ok (.iload_n 1, 1) := xdc ddX12_look_1 27 rfl
theorem dX12_look_116 : decode cX12_look 116 = .ok (.iload 4, 2) := xdc ddX12_look_1 28 rfl
theorem dX12_look_118 : decode cX12_look 118 = .ok (.invokevirtual 211, 3) := xdc ddX12_look_1 29 rfl
theorem dX12_look_121 : decode cX12_look 121 = .ok (.istore 6, 2) := xdc ddX12_look_1 30 rfl
theorem dX12_look_123 : decode cX12_look 123 = .ok (.iload 6, 2) := xdc ddX12_look_1 31 rfl
theorem dX12_look_125 : decode cX12_look 125 = .ok (.ifCond .le 11, 3) := xdc ddX12_look_1 32 rfl
theorem dX12_look_128 : decode cX12_look 128 = .ok (.aload_n 0, 1) := xdc ddX12_look_1 33 rfl
theorem dX12_look_129 : decode cX12_look 129 = .ok (.iload 6, 2) := xdc ddX12_look_1 34 rfl
theorem dX12_look_131 : decode cX12_look 131 = .ok (.iload_n 1, 1) := xdc ddX12_look_1 35 rfl
theorem dX12_look_132 : decode cX12_look 132 = .ok (.invokevirtual 204, 3) := xdc ddX12_look_1 36 rfl
theorem dX12_look_135 : decode cX12_look 135 = .ok (.ireturn, 1) := xdc ddX12_look_1 37 rfl
theorem dX12_look_136 : decode cX12_look 136 = .ok (.iload_n 1, 1) := xdc ddX12_look_1 38 rfl
theorem dX12_look_137 : decode cX12_look 137 = .ok (.aload_n 0, 1) := xdc ddX12_look_1 39 rfl
theorem ddX12_look_2 : xdec cX12_look [(138, (.getfield 138, 3)), (141, (.iadd, 1)), (142, (.istore 5, 2)), (144, (.iload_n 1, 1)), (145, (.istore_n 3, 1)), (146, (.iload_n 1, 1)), (147, (.istore 6, 2)), (149, (.iload_n 1, 1)), (150, (.iload 5, 2)), (152, (.if_icmp .ge 40, 3)), (155, (.aload_n 0, 1)), (156, (.iload_n 1, 1)), (157, (.invokevirtual 167, 3)), (160, (.istore 7, 2)), (162, (.aload_n 0, 1)), (163, (.getfield 27, 3)), (166, (.iload_n 1, 1)), (167, (.iload_n 1, 1)), (168, (.iload 6, 2)), (170, (.if_icmp .ne 7, 3)), (173, (.iconst 1, 1)), (174, (.goto 4, 3)), (177, (.iconst 2, 1)), (178, (.iastore, 1)), (179, (.iinc 2 1, 3)), (182, (.iload_n 1, 1)), (183, (.aload_n 0, 1)), (184, (.getfield 138, 3)), (187, (.iadd, 1)), (188, (.istore_n 1, 1)), (189, (.goto (-40), 3)), (192, (.goto (-135), 3)), (195, (.iconst 0, 1)), (196, (.istore 4, 2)), (198, (.iload 4, 2)), (200, (.aload_n 0, 1)), (201, (.getfield 59, 3)), (204, (.if_icmp .ge 117, 3)), (207, (.aload_n 0, 1)), (208, (.getfield 27, 3))] = true := by decide +kernel
theorem dX12_look_138 : decode cX12_look 138 = .ok (.getfield 138, 3) := xdc ddX12_look_2 0 rfl
theorem dX12_look_141 : decode cX12_look 141 = .ok (.iadd, 1) := xdc ddX12_look_2 1 rfl
theorem dX12_look_142 : decode cX12_look 142 = .ok (.istore 5, 2) := xdc ddX12_look_2 2 rfl
theorem dX12_look_144 : decode cX12_look 144 = .ok (.iload_n 1, 1) := xdc ddX12_look_2 3 rfl
theorem dX12_look_145 : decode cX12_look 145 = .ok (.istore_n 3, 1) := xdc ddX12_look_2 4 rfl
theorem dX12_look_146 : decode cX12_look 146 = .ok (.iload_n 1, 1) := xdc ddX12_look_2 5 rfl
theorem dX12_look_147 : decode cX12_look 147 = .ok (.istore 6, 2) := xdc ddX12_look_2 6 rfl
theorem dX12_look_149 : decode cX12_look 149 = .ok (.iload_n 1, 1) := xdc ddX12_look_2 7 rfl
theorem dX12_look_150 : decode cX12_look 150 = .ok (.iload 5, 2) := xdc ddX12_look_2 8 rfl
theorem dX12_look_152 : decode cX12_look 152 = .ok (.if_icmp .ge 40, 3) := xdc ddX12_look_2 9 rfl
theorem dX12_look_155 : decode cX12_look 155 = .ok (.aload_n 0, 1) := xdc ddX12_look_2 10 rfl
theorem dX12_look_156 : decode cX12_look 156 = .ok (.iload_n 1, 1) := xdc ddX12_look_2 11 rfl
theorem dX12_look_157 : decode cX12_look 157 = .ok (.invokevirtual 167, 3) := xdc ddX12_look_2 12 rfl
theorem dX12_look_160 : decode cX12_look 160 = .ok (.istore 7, 2) := xdc ddX12_look_2 13 rfl
theorem dX12_look_162 : decode cX12_look 162 = .ok (.aload_n 0, 1) := xdc ddX12_look_2 14 rfl
theorem dX12_look_163 : decode cX12_look 163 = .ok (.getfield 27, 3) := xdc ddX12_look_2 15 rfl
theorem dX12_look_166 : decode cX12_look 166 = .ok (.iload_n 1, 1) := xdc ddX12_look_2 16 rfl
theorem dX12_look_167 : decode cX12_look 167 = .ok (.iload_n 1, 1) := xdc ddX12_look_2 17 rfl
theorem dX12_look_168 : decode cX12_look 168 = .ok (.iload 6, 2) := xdc ddX12_look_2 18 rfl
theorem dX12_look_170 : decode cX12_look 170 = .ok (.if_icmp .ne 7, 3) := xdc ddX12_look_2 19 rfl
theorem dX12_look_173 : decode cX12_look 173 = .ok (.iconst 1, 1) := xdc ddX12_look_2 20 rfl
theorem dX12_look_174 : decode cX12_look 174 = .ok (.goto 4, 3) := xdc ddX12_look_2 21 rfl
theorem dX12_look_177 : decode cX12_look 177 = .ok (.iconst 2, 1) := xdc ddX12_look_2 22 rfl
theorem dX12_look_178 : decode cX12_look 178 = .ok (.iastore, 1) := xdc ddX12_look_2 23 rfl
theorem dX12_look_179 : decode cX12_look 179 = .ok (.iinc 2 1, 3) := xdc ddX12_look_2 24 rfl
theorem dX12_look_182 : decode cX12_look 182 = .ok (.iload_n 1, 1) := xdc ddX12_look_2 25 rfl
theorem dX12_look_183 : decode cX12_look 183 = .ok (.aload_n 0, 1) := xdc ddX12_look_2 26 rfl
theorem dX12_look_184 : decode cX12_look 184 = .ok (.getfield 138, 3) := xdc ddX12_look_2 27 rfl
theorem dX12_look_187 : decode cX12_look 187 = .ok (.iadd, 1) := xdc ddX12_look_2 28 rfl
theorem dX12_look_188 : decode cX12_look 188 = .ok (.istore_n 1, 1) := xdc ddX12_look_2 29 rfl
theorem dX12_look_189 : decode cX12_look 189 = .ok (.goto (-40), 3) := xdc ddX12_look_2 30 rfl
theorem dX12_look_192 : decode cX12_look 192 = .ok (.goto (-135), 3) := xdc ddX12_look_2 31 rfl
theorem dX12_look_195 : decode cX12_look 195 = .ok (.iconst 0, 1) := xdc ddX12_look_2 32 rfl
theorem dX12_look_196 : decode cX12_look 196 = .ok (.istore 4, 2) := xdc ddX12_look_2 33 rfl
theorem dX12_look_198 : decode cX12_look 198 = .ok (.iload 4, 2) := xdc ddX12_look_2 34 rfl
theorem dX12_look_200 : decode cX12_look 200 = .ok (.aload_n 0, 1) := xdc ddX12_look_2 35 rfl
theorem dX12_look_201 : decode cX12_look 201 = .ok (.getfield 59, 3) := xdc ddX12_look_2 36 rfl
theorem dX12_look_204 : decode cX12_look 204 = .ok (.if_icmp .ge 117, 3) := xdc ddX12_look_2 37 rfl
theorem dX12_look_207 : decode cX12_look 207 = .ok (.aload_n 0, 1) := xdc ddX12_look_2 38 rfl
theorem dX12_look_208 : decode cX12_look 208 = .ok (.getfield 27, 3) := xdc ddX12_look_2 39 rfl
theorem ddX12_look_3 : xdec cX12_look [(211, (.iload 4, 2)), (213, (.iaload, 1)), (214, (.ifCond .le 101, 3)), (217, (.aload_n 0, 1)), (218, (.iload 4, 2)), (220, (.invokevirtual 167, 3)), (223, (.ifCond .eq 92, 3)), (226, (.aload_n 0, 1)), (227, (.getfield 73, 3)), (230, (.bipush 8, 2)), (232, (.if_icmp .ne 83, 3)), (235, (.aload_n 0, 1)), (236, (.getfield 109, 3)), (239, (.i2l, 1)), (240, (.ldc2_w 186, 3)), (243, (.land, 1)), (244, (.ldc2_w 214, 3)), (247, (.lsub, 1)), (248, (.lstore 5, 2)), (250, (.aload_n 0, 1)), (251, (.aload_n 0, 1)), (252, (.getfield 109, 3)), (255, (.i2l, 1)), (256, (.ldc2_w 186, 3)), (259, (.land, 1)), (260, (.invokevirtual 216, 3)), (263, (.ifCond .ne 31, 3)), (266, (.lload 5, 2)), (268, (.lconst 0, 1)), (269, (.aload_n 0, 1)), (270, (.getfield 59, 3)), (273, (.i2l, 1)), (274, (.lconst 1, 1)), (275, (.lsub, 1)), (276, (.invokestatic 163, 3)), (279, (.ifCond .eq 19, 3)), (282, (.aload_n 0, 1)), (283, (.getfield 27, 3)), (286, (.lload 5, 2)), (288, (.l2i, 1))] = true := by decide +kernel
theorem dX12_look_211 : decode cX12_look 211 = .ok (.iload 4, 2) := xdc ddX12_look_3 0 rfl
theorem dX12_look_213 : decode cX12_look 213 = .ok (.iaload, 1) := xdc ddX12_look_3 1 rfl
theorem dX12_look_214 : decode cX12_look 214 = .ok (.ifCond .le 101, 3) := xdc ddX12_look_3 2 rfl
theorem dX12_look_217 : decode cX12_look 217 = .ok (.aload_n 0, 1) := xdc ddX12_look_3 3 rfl
theorem dX12_look_218 : decode cX12_look 218 = .ok (.iload 4, 2) := xdc ddX12_look_3 4 rfl
theorem dX12_look_220 : decode cX12_look 220 = .ok (.invokevirtual 167, 3) := xdc ddX12_look_3 5 rfl
theorem dX12_look_223 : decode cX12_look 223 = .ok (.ifCond .eq 92, 3) := xdc ddX12_look_3 6 rfl
theorem dX12_look_226 : decode cX12_look 226 = .ok (.aload_n 0, 1) := xdc ddX12_look_3 7 rfl
theorem dX12_look_227 : decode cX12_look 227 = .ok (.getfield 73, 3) := xdc ddX12_look_3 8 rfl
theorem dX12_look_230 : decode cX12_look 230 = .ok (.bipush 8, 2) := xdc ddX12_look_3 9 rfl
theorem dX12_look_232 : decode cX12_look 232 = .ok (.if_icmp .ne 83, 3) := xdc ddX12_look_3 10 rfl
theorem dX12_look_235 : decode cX12_look 235 = .ok (.aload_n 0, 1) := xdc ddX12_look_3 11 rfl
theorem dX12_look_236 : decode cX12_look 236 = .ok (.getfield 109, 3) := xdc ddX12_look_3 12 rfl
theorem dX12_look_239 : decode cX12_look 239 = .ok (.i2l, 1) := xdc ddX12_look_3 13 rfl
theorem dX12_look_240 : decode cX12_look 240 = .ok (.ldc2_w 186, 3) := xdc ddX12_look_3 14 rfl
theorem dX12_look_243 : decode cX12_look 243 = .ok (.land, 1) := xdc ddX12_look_3 15 rfl
theorem dX12_look_244 : decode cX12_look 244 = .ok (.ldc2_w 214, 3) := xdc ddX12_look_3 16 rfl
theorem dX12_look_247 : decode cX12_look 247 = .ok (.lsub, 1) := xdc ddX12_look_3 17 rfl
theorem dX12_look_248 : decode cX12_look 248 = .ok (.lstore 5, 2) := xdc ddX12_look_3 18 rfl
theorem dX12_look_250 : decode cX12_look 250 = .ok (.aload_n 0, 1) := xdc ddX12_look_3 19 rfl
theorem dX12_look_251 : decode cX12_look 251 = .ok (.aload_n 0, 1) := xdc ddX12_look_3 20 rfl
theorem dX12_look_252 : decode cX12_look 252 = .ok (.getfield 109, 3) := xdc ddX12_look_3 21 rfl
theorem dX12_look_255 : decode cX12_look 255 = .ok (.i2l, 1) := xdc ddX12_look_3 22 rfl
theorem dX12_look_256 : decode cX12_look 256 = .ok (.ldc2_w 186, 3) := xdc ddX12_look_3 23 rfl
theorem dX12_look_259 : decode cX12_look 259 = .ok (.land, 1) := xdc ddX12_look_3 24 rfl
theorem dX12_look_260 : decode cX12_look 260 = .ok (.invokevirtual 216, 3) := xdc ddX12_look_3 25 rfl
theorem dX12_look_263 : decode cX12_look 263 = .ok (.ifCond .ne 31, 3) := xdc ddX12_look_3 26 rfl
theorem dX12_look_266 : decode cX12_look 266 = .ok (.lload 5, 2) := xdc ddX12_look_3 27 rfl
theorem dX12_look_268 : decode cX12_look 268 = .ok (.lconst 0, 1) := xdc ddX12_look_3 28 rfl
theorem dX12_look_269 : decode cX12_look 269 = .ok (.aload_n 0, 1) := xdc ddX12_look_3 29 rfl
theorem dX12_look_270 : decode cX12_look 270 = .ok (.getfield 59, 3) := xdc ddX12_look_3 30 rfl
theorem dX12_look_273 : decode cX12_look 273 = .ok (.i2l, 1) := xdc ddX12_look_3 31 rfl
theorem dX12_look_274 : decode cX12_look 274 = .ok (.lconst 1, 1) := xdc ddX12_look_3 32 rfl
theorem dX12_look_275 : decode cX12_look 275 = .ok (.lsub, 1) := xdc ddX12_look_3 33 rfl
theorem dX12_look_276 : decode cX12_look 276 = .ok (.invokestatic 163, 3) := xdc ddX12_look_3 34 rfl
theorem dX12_look_279 : decode cX12_look 279 = .ok (.ifCond .eq 19, 3) := xdc ddX12_look_3 35 rfl
theorem dX12_look_282 : decode cX12_look 282 = .ok (.aload_n 0, 1) := xdc ddX12_look_3 36 rfl
theorem dX12_look_283 : decode cX12_look 283 = .ok (.getfield 27, 3) := xdc ddX12_look_3 37 rfl
theorem dX12_look_286 : decode cX12_look 286 = .ok (.lload 5, 2) := xdc ddX12_look_3 38 rfl
theorem dX12_look_288 : decode cX12_look 288 = .ok (.l2i, 1) := xdc ddX12_look_3 39 rfl
theorem ddX12_look_4 : xdec cX12_look [(289, (.iaload, 1)), (290, (.iconst 1, 1)), (291, (.if_icmp .ne 7, 3)), (294, (.iconst 1, 1)), (295, (.goto 4, 3)), (298, (.iconst 0, 1)), (299, (.istore 7, 2)), (301, (.iload 7, 2)), (303, (.ifCond .ne 12, 3)), (306, (.aload_n 0, 1)), (307, (.bipush 7, 2)), (309, (.iload 4, 2)), (311, (.invokevirtual 204, 3)), (314, (.ireturn, 1)), (315, (.iinc 4 1, 3)), (318, (.goto (-120), 3)), (321, (.iload_n 3, 1)), (322, (.istore 4, 2)), (324, (.iload_n 3, 1)), (325, (.iconst 1, 1)), (326, (.iadd, 1)), (327, (.istore 5, 2)), (329, (.iload 5, 2)), (331, (.aload_n 0, 1)), (332, (.getfield 59, 3)), (335, (.if_icmp .ge 28, 3)), (338, (.aload_n 0, 1)), (339, (.getfield 27, 3)), (342, (.iload 5, 2)), (344, (.iaload, 1)), (345, (.ifCond .le 8, 3)), (348, (.iload 5, 2)), (350, (.goto 5, 3)), (353, (.iload 4, 2)), (355, (.istore 4, 2)), (357, (.iinc 5 1, 3)), (360, (.goto (-31), 3)), (363, (.aload_n 0, 1)), (364, (.iload 4, 2)), (366, (.invokevirtual 167, 3))] = true := by decide +kernel
theorem dX12_look_289 : decode cX12_look 289 = .ok (.iaload, 1) := xdc ddX12_look_4 0 rfl
theorem dX12_look_290 : decode cX12_look 290 = .ok (.iconst 1, 1) := xdc ddX12_look_4 1 rfl
theorem dX12_look_291 : decode cX12_look 291 = .ok (.if_icmp .ne 7, 3) := xdc ddX12_look_4 2 rfl
theorem dX12_look_294 : decode cX12_look 294 = .ok (.iconst 1, 1) := xdc ddX12_look_4 3 rfl
theorem dX12_look_295 : decode cX12_look 295 = .ok (.goto 4, 3) := xdc ddX12_look_4 4 rfl
theorem dX12_look_298 : decode cX12_look 298 = .ok (.iconst 0, 1) := xdc ddX12_look_4 5 rfl
theorem dX12_look_299 : decode cX12_look 299 = .ok (.istore 7, 2) := xdc ddX12_look_4 6 rfl
theorem dX12_look_301 : decode cX12_look 301 = .ok (.iload 7, 2) := xdc ddX12_look_4 7 rfl
theorem dX12_look_303 : decode cX12_look 303 = .ok (.ifCond .ne 12, 3) := xdc ddX12_look_4 8 rfl
theorem dX12_look_306 : decode cX12_look 306 = .ok (.aload_n 0, 1) := xdc ddX12_look_4 9 rfl
theorem dX12_look_307 : decode cX12_look 307 = .ok (.bipush 7, 2) := xdc ddX12_look_4 10 rfl
theorem dX12_look_309 : decode cX12_look 309 = .ok (.iload 4, 2) := xdc ddX12_look_4 11 rfl
theorem dX12_look_311 : decode cX12_look 311 = .ok (.invokevirtual 204, 3) := xdc ddX12_look_4 12 rfl
theorem dX12_look_314 : decode cX12_look 314 = .ok (.ireturn, 1) := xdc ddX12_look_4 13 rfl
theorem dX12_look_315 : decode cX12_look 315 = .ok (.iinc 4 1, 3) := xdc ddX12_look_4 14 rfl
theorem dX12_look_318 : decode cX12_look 318 = .ok (.goto (-120), 3) := xdc ddX12_look_4 15 rfl
theorem dX12_look_321 : decode cX12_look 321 = .ok (.iload_n 3, 1) := xdc ddX12_look_4 16 rfl
theorem dX12_look_322 : decode cX12_look 322 = .ok (.istore 4, 2) := xdc ddX12_look_4 17 rfl
theorem dX12_look_324 : decode cX12_look 324 = .ok (.iload_n 3, 1) := xdc ddX12_look_4 18 rfl
theorem dX12_look_325 : decode cX12_look 325 = .ok (.iconst 1, 1) := xdc ddX12_look_4 19 rfl
theorem dX12_look_326 : decode cX12_look 326 = .ok (.iadd, 1) := xdc ddX12_look_4 20 rfl
theorem dX12_look_327 : decode cX12_look 327 = .ok (.istore 5, 2) := xdc ddX12_look_4 21 rfl
theorem dX12_look_329 : decode cX12_look 329 = .ok (.iload 5, 2) := xdc ddX12_look_4 22 rfl
theorem dX12_look_331 : decode cX12_look 331 = .ok (.aload_n 0, 1) := xdc ddX12_look_4 23 rfl
theorem dX12_look_332 : decode cX12_look 332 = .ok (.getfield 59, 3) := xdc ddX12_look_4 24 rfl
theorem dX12_look_335 : decode cX12_look 335 = .ok (.if_icmp .ge 28, 3) := xdc ddX12_look_4 25 rfl
theorem dX12_look_338 : decode cX12_look 338 = .ok (.aload_n 0, 1) := xdc ddX12_look_4 26 rfl
theorem dX12_look_339 : decode cX12_look 339 = .ok (.getfield 27, 3) := xdc ddX12_look_4 27 rfl
theorem dX12_look_342 : decode cX12_look 342 = .ok (.iload 5, 2) := xdc ddX12_look_4 28 rfl
theorem dX12_look_344 : decode cX12_look 344 = .ok (.iaload, 1) := xdc ddX12_look_4 29 rfl
theorem dX12_look_345 : decode cX12_look 345 = .ok (.ifCond .le 8, 3) := xdc ddX12_look_4 30 rfl
theorem dX12_look_348 : decode cX12_look 348 = .ok (.iload 5, 2) := xdc ddX12_look_4 31 rfl
theorem dX12_look_350 : decode cX12_look 350 = .ok (.goto 5, 3) := xdc ddX12_look_4 32 rfl
theorem dX12_look_353 : decode cX12_look 353 = .ok (.iload 4, 2) := xdc ddX12_look_4 33 rfl
theorem dX12_look_355 : decode cX12_look 355 = .ok (.istore 4, 2) := xdc ddX12_look_4 34 rfl
theorem dX12_look_357 : decode cX12_look 357 = .ok (.iinc 5 1, 3) := xdc ddX12_look_4 35 rfl
theorem dX12_look_360 : decode cX12_look 360 = .ok (.goto (-31), 3) := xdc ddX12_look_4 36 rfl
theorem dX12_look_363 : decode cX12_look 363 = .ok (.aload_n 0, 1) := xdc ddX12_look_4 37 rfl
theorem dX12_look_364 : decode cX12_look 364 = .ok (.iload 4, 2) := xdc ddX12_look_4 38 rfl
theorem dX12_look_366 : decode cX12_look 366 = .ok (.invokevirtual 167, 3) := xdc ddX12_look_4 39 rfl
theorem ddX12_look_5 : xdec cX12_look [(369, (.ifCond .eq 34, 3)), (372, (.aload_n 0, 1)), (373, (.getfield 70, 3)), (376, (.bipush 32, 2)), (378, (.if_icmp .eq 21, 3)), (381, (.aload_n 0, 1)), (382, (.getfield 70, 3)), (385, (.bipush 31, 2)), (387, (.if_icmp .eq 12, 3)), (390, (.aload_n 0, 1)), (391, (.getfield 70, 3)), (394, (.bipush 43, 2)), (396, (.if_icmp .ne 7, 3)), (399, (.iconst 1, 1)), (400, (.goto 4, 3)), (403, (.iconst 0, 1)), (404, (.istore 5, 2)), (406, (.iload 5, 2)), (408, (.ifCond .ne 11, 3)), (411, (.aload_n 0, 1)), (412, (.bipush 8, 2)), (414, (.iload_n 3, 1)), (415, (.invokevirtual 204, 3)), (418, (.ireturn, 1)), (419, (.aload_n 0, 1)), (420, (.iconst 1, 1)), (421, (.putfield 195, 3)), (424, (.aload_n 0, 1)), (425, (.iconst 0, 1)), (426, (.putfield 192, 3)), (429, (.aload_n 0, 1)), (430, (.iconst (-1), 1)), (431, (.putfield 23, 3)), (434, (.iload_n 2, 1)), (435, (.ireturn, 1))] = true := by decide +kernel
theorem dX12_look_369 : decode cX12_look 369 = .ok (.ifCond .eq 34, 3) := xdc ddX12_look_5 0 rfl
theorem dX12_look_372 : decode cX12_look 372 = .ok (.aload_n 0, 1) := xdc ddX12_look_5 1 rfl
theorem dX12_look_373 : decode cX12_look 373 = .ok (.getfield 70, 3) := xdc ddX12_look_5 2 rfl
theorem dX12_look_376 : decode cX12_look 376 = .ok (.bipush 32, 2) := xdc ddX12_look_5 3 rfl
theorem dX12_look_378 : decode cX12_look 378 = .ok (.if_icmp .eq 21, 3) := xdc ddX12_look_5 4 rfl
theorem dX12_look_381 : decode cX12_look 381 = .ok (.aload_n 0, 1) := xdc ddX12_look_5 5 rfl
theorem dX12_look_382 : decode cX12_look 382 = .ok (.getfield 70, 3) := xdc ddX12_look_5 6 rfl
theorem dX12_look_385 : decode cX12_look 385 = .ok (.bipush 31, 2) := xdc ddX12_look_5 7 rfl
theorem dX12_look_387 : decode cX12_look 387 = .ok (.if_icmp .eq 12, 3) := xdc ddX12_look_5 8 rfl
theorem dX12_look_390 : decode cX12_look 390 = .ok (.aload_n 0, 1) := xdc ddX12_look_5 9 rfl
theorem dX12_look_391 : decode cX12_look 391 = .ok (.getfield 70, 3) := xdc ddX12_look_5 10 rfl
theorem dX12_look_394 : decode cX12_look 394 = .ok (.bipush 43, 2) := xdc ddX12_look_5 11 rfl
theorem dX12_look_396 : decode cX12_look 396 = .ok (.if_icmp .ne 7, 3) := xdc ddX12_look_5 12 rfl
theorem dX12_look_399 : decode cX12_look 399 = .ok (.iconst 1, 1) := xdc ddX12_look_5 13 rfl
theorem dX12_look_400 : decode cX12_look 400 = .ok (.goto 4, 3) := xdc ddX12_look_5 14 rfl
theorem dX12_look_403 : decode cX12_look 403 = .ok (.iconst 0, 1) := xdc ddX12_look_5 15 rfl
theorem dX12_look_404 : decode cX12_look 404 = .ok (.istore 5, 2) := xdc ddX12_look_5 16 rfl
theorem dX12_look_406 : decode cX12_look 406 = .ok (.iload 5, 2) := xdc ddX12_look_5 17 rfl
theorem dX12_look_408 : decode cX12_look 408 = .ok (.ifCond .ne 11, 3) := xdc ddX12_look_5 18 rfl
theorem dX12_look_411 : decode cX12_look 411 = .ok (.aload_n 0, 1) := xdc ddX12_look_5 19 rfl
theorem dX12_look_412 : decode cX12_look 412 = .ok (.bipush 8, 2) := xdc ddX12_look_5 20 rfl
theorem dX12_look_414 : decode cX12_look 414 = .ok (.iload_n 3, 1) := xdc ddX12_look_5 21 rfl
theorem dX12_look_415 : decode cX12_look 415 = .ok (.invokevirtual 204, 3) := xdc ddX12_look_5 22 rfl
theorem dX12_look_418 : decode cX12_look 418 = .ok (.ireturn, 1) := xdc ddX12_look_5 23 rfl
theorem dX12_look_419 : decode cX12_look 419 = .ok (.aload_n 0, 1) := xdc ddX12_look_5 24 rfl
theorem dX12_look_420 : decode cX12_look 420 = .ok (.iconst 1, 1) := xdc ddX12_look_5 25 rfl
theorem dX12_look_421 : decode cX12_look 421 = .ok (.putfield 195, 3) := xdc ddX12_look_5 26 rfl
theorem dX12_look_424 : decode cX12_look 424 = .ok (.aload_n 0, 1) := xdc ddX12_look_5 27 rfl
theorem dX12_look_425 : decode cX12_look 425 = .ok (.iconst 0, 1) := xdc ddX12_look_5 28 rfl
theorem dX12_look_426 : decode cX12_look 426 = .ok (.putfield 192, 3) := xdc ddX12_look_5 29 rfl
theorem dX12_look_429 : decode cX12_look 429 = .ok (.aload_n 0, 1) := xdc ddX12_look_5 30 rfl
theorem dX12_look_430 : decode cX12_look 430 = .ok (.iconst (-1), 1) := xdc ddX12_look_5 31 rfl
theorem dX12_look_431 : decode cX12_look 431 = .ok (.putfield 23, 3) := xdc ddX12_look_5 32 rfl
theorem dX12_look_434 : decode cX12_look 434 = .ok (.iload_n 2, 1) := xdc ddX12_look_5 33 rfl
theorem dX12_look_435 : decode cX12_look 435 = .ok (.ireturn, 1) := xdc ddX12_look_5 34 rfl
abbrev cX12_fault : ByteArray := prog_14_method_30_code
theorem ddX12_fault_0 : xdec cX12_fault [(0, (.aload_n 0, 1)), (1, (.iconst 0, 1)), (2, (.putfield 53, 3)), (5, (.aload_n 0, 1)), (6, (.getfield 192, 3)), (9, (.ireturn, 1))] = true := by decide +kernel
theorem dX12_fault_0 : decode cX12_fault 0 = .ok (.aload_n 0, 1) := xdc ddX12_fault_0 0 rfl
theorem dX12_fault_1 : decode cX12_fault 1 = .ok (.iconst 0, 1) := xdc ddX12_fault_0 1 rfl
theorem dX12_fault_2 : decode cX12_fault 2 = .ok (.putfield 53, 3) := xdc ddX12_fault_0 2 rfl
theorem dX12_fault_5 : decode cX12_fault 5 = .ok (.aload_n 0, 1) := xdc ddX12_fault_0 3 rfl
theorem dX12_fault_6 : decode cX12_fault 6 = .ok (.getfield 192, 3) := xdc ddX12_fault_0 4 rfl
theorem dX12_fault_9 : decode cX12_fault 9 = .ok (.ireturn, 1) := xdc ddX12_fault_0 5 rfl
abbrev cX12_place_ : ByteArray := prog_14_method_31_code
theorem ddX12_place__0 : xdec cX12_place_ [(0, (.aload_n 0, 1)), (1, (.iconst 0, 1)), (2, (.putfield 53, 3)), (5, (.aload_n 0, 1)), (6, (.getfield 192, 3)), (9, (.ifCond .le 10, 3)), (12, (.aload_n 0, 1)), (13, (.getfield 23, 3)), (16, (.goto 4, 3)), (19, (.iconst (-1), 1)), (20, (.ireturn, 1))] = true := by decide +kernel
theorem dX12_place__0 : decode cX12_place_ 0 = .ok (.aload_n 0, 1) := xdc ddX12_place__0 0 rfl
theorem dX12_place__1 : decode cX12_place_ 1 = .ok (.iconst 0, 1) := xdc ddX12_place__0 1 rfl
theorem dX12_place__2 : decode cX12_place_ 2 = .ok (.putfield 53, 3) := xdc ddX12_place__0 2 rfl
theorem dX12_place__5 : decode cX12_place_ 5 = .ok (.aload_n 0, 1) := xdc ddX12_place__0 3 rfl
theorem dX12_place__6 : decode cX12_place_ 6 = .ok (.getfield 192, 3) := xdc ddX12_place__0 4 rfl
theorem dX12_place__9 : decode cX12_place_ 9 = .ok (.ifCond .le 10, 3) := xdc ddX12_place__0 5 rfl
theorem dX12_place__12 : decode cX12_place_ 12 = .ok (.aload_n 0, 1) := xdc ddX12_place__0 6 rfl
theorem dX12_place__13 : decode cX12_place_ 13 = .ok (.getfield 23, 3) := xdc ddX12_place__0 7 rfl
theorem dX12_place__16 : decode cX12_place_ 16 = .ok (.goto 4, 3) := xdc ddX12_place__0 8 rfl
theorem dX12_place__19 : decode cX12_place_ 19 = .ok (.iconst (-1), 1) := xdc ddX12_place__0 9 rfl
theorem dX12_place__20 : decode cX12_place_ 20 = .ok (.ireturn, 1) := xdc ddX12_place__0 10 rfl
abbrev cX12_unit : ByteArray := prog_14_method_32_code
theorem ddX12_unit_0 : xdec cX12_unit [(0, (.aload_n 0, 1)), (1, (.iconst 0, 1)), (2, (.putfield 53, 3)), (5, (.aload_n 0, 1)), (6, (.getfield 195, 3)), (9, (.ifCond .eq 28, 3)), (12, (.iload_n 1, 1)), (13, (.i2l, 1)), (14, (.lconst 0, 1)), (15, (.aload_n 0, 1)), (16, (.getfield 59, 3)), (19, (.i2l, 1)), (20, (.lconst 1, 1)), (21, (.lsub, 1)), (22, (.invokestatic 163, 3)), (25, (.ifCond .eq 12, 3)), (28, (.aload_n 0, 1)), (29, (.getfield 27, 3)), (32, (.iload_n 1, 1)), (33, (.iaload, 1)), (34, (.goto 4, 3)), (37, (.iconst (-1), 1)), (38, (.ireturn, 1))] = true := by decide +kernel
theorem dX12_unit_0 : decode cX12_unit 0 = .ok (.aload_n 0, 1) := xdc ddX12_unit_0 0 rfl
theorem dX12_unit_1 : decode cX12_unit 1 = .ok (.iconst 0, 1) := xdc ddX12_unit_0 1 rfl
theorem dX12_unit_2 : decode cX12_unit 2 = .ok (.putfield 53, 3) := xdc ddX12_unit_0 2 rfl
theorem dX12_unit_5 : decode cX12_unit 5 = .ok (.aload_n 0, 1) := xdc ddX12_unit_0 3 rfl
theorem dX12_unit_6 : decode cX12_unit 6 = .ok (.getfield 195, 3) := xdc ddX12_unit_0 4 rfl
theorem dX12_unit_9 : decode cX12_unit 9 = .ok (.ifCond .eq 28, 3) := xdc ddX12_unit_0 5 rfl
theorem dX12_unit_12 : decode cX12_unit 12 = .ok (.iload_n 1, 1) := xdc ddX12_unit_0 6 rfl
theorem dX12_unit_13 : decode cX12_unit 13 = .ok (.i2l, 1) := xdc ddX12_unit_0 7 rfl
theorem dX12_unit_14 : decode cX12_unit 14 = .ok (.lconst 0, 1) := xdc ddX12_unit_0 8 rfl
theorem dX12_unit_15 : decode cX12_unit 15 = .ok (.aload_n 0, 1) := xdc ddX12_unit_0 9 rfl
theorem dX12_unit_16 : decode cX12_unit 16 = .ok (.getfield 59, 3) := xdc ddX12_unit_0 10 rfl
theorem dX12_unit_19 : decode cX12_unit 19 = .ok (.i2l, 1) := xdc ddX12_unit_0 11 rfl
theorem dX12_unit_20 : decode cX12_unit 20 = .ok (.lconst 1, 1) := xdc ddX12_unit_0 12 rfl
theorem dX12_unit_21 : decode cX12_unit 21 = .ok (.lsub, 1) := xdc ddX12_unit_0 13 rfl
theorem dX12_unit_22 : decode cX12_unit 22 = .ok (.invokestatic 163, 3) := xdc ddX12_unit_0 14 rfl
theorem dX12_unit_25 : decode cX12_unit 25 = .ok (.ifCond .eq 12, 3) := xdc ddX12_unit_0 15 rfl
theorem dX12_unit_28 : decode cX12_unit 28 = .ok (.aload_n 0, 1) := xdc ddX12_unit_0 16 rfl
theorem dX12_unit_29 : decode cX12_unit 29 = .ok (.getfield 27, 3) := xdc ddX12_unit_0 17 rfl
theorem dX12_unit_32 : decode cX12_unit 32 = .ok (.iload_n 1, 1) := xdc ddX12_unit_0 18 rfl
theorem dX12_unit_33 : decode cX12_unit 33 = .ok (.iaload, 1) := xdc ddX12_unit_0 19 rfl
theorem dX12_unit_34 : decode cX12_unit 34 = .ok (.goto 4, 3) := xdc ddX12_unit_0 20 rfl
theorem dX12_unit_37 : decode cX12_unit 37 = .ok (.iconst (-1), 1) := xdc ddX12_unit_0 21 rfl
theorem dX12_unit_38 : decode cX12_unit 38 = .ok (.ireturn, 1) := xdc ddX12_unit_0 22 rfl
abbrev cX12_size : ByteArray := prog_14_method_33_code
theorem ddX12_size_0 : xdec cX12_size [(0, (.aload_n 0, 1)), (1, (.iconst 0, 1)), (2, (.putfield 53, 3)), (5, (.iload_n 1, 1)), (6, (.i2l, 1)), (7, (.lconst 0, 1)), (8, (.aload_n 0, 1)), (9, (.getfield 59, 3)), (12, (.i2l, 1)), (13, (.lconst 1, 1)), (14, (.lsub, 1)), (15, (.invokestatic 163, 3)), (18, (.ifCond .eq 18, 3)), (21, (.aload_n 0, 1)), (22, (.iload_n 1, 1)), (23, (.invokevirtual 167, 3)), (26, (.ifCond .eq 10, 3)), (29, (.aload_n 0, 1)), (30, (.getfield 138, 3)), (33, (.goto 4, 3)), (36, (.iconst 0, 1)), (37, (.ireturn, 1))] = true := by decide +kernel
theorem dX12_size_0 : decode cX12_size 0 = .ok (.aload_n 0, 1) := xdc ddX12_size_0 0 rfl
theorem dX12_size_1 : decode cX12_size 1 = .ok (.iconst 0, 1) := xdc ddX12_size_0 1 rfl
theorem dX12_size_2 : decode cX12_size 2 = .ok (.putfield 53, 3) := xdc ddX12_size_0 2 rfl
theorem dX12_size_5 : decode cX12_size 5 = .ok (.iload_n 1, 1) := xdc ddX12_size_0 3 rfl
theorem dX12_size_6 : decode cX12_size 6 = .ok (.i2l, 1) := xdc ddX12_size_0 4 rfl
theorem dX12_size_7 : decode cX12_size 7 = .ok (.lconst 0, 1) := xdc ddX12_size_0 5 rfl
theorem dX12_size_8 : decode cX12_size 8 = .ok (.aload_n 0, 1) := xdc ddX12_size_0 6 rfl
theorem dX12_size_9 : decode cX12_size 9 = .ok (.getfield 59, 3) := xdc ddX12_size_0 7 rfl
theorem dX12_size_12 : decode cX12_size 12 = .ok (.i2l, 1) := xdc ddX12_size_0 8 rfl
theorem dX12_size_13 : decode cX12_size 13 = .ok (.lconst 1, 1) := xdc ddX12_size_0 9 rfl
theorem dX12_size_14 : decode cX12_size 14 = .ok (.lsub, 1) := xdc ddX12_size_0 10 rfl
theorem dX12_size_15 : decode cX12_size 15 = .ok (.invokestatic 163, 3) := xdc ddX12_size_0 11 rfl
theorem dX12_size_18 : decode cX12_size 18 = .ok (.ifCond .eq 18, 3) := xdc ddX12_size_0 12 rfl
theorem dX12_size_21 : decode cX12_size 21 = .ok (.aload_n 0, 1) := xdc ddX12_size_0 13 rfl
theorem dX12_size_22 : decode cX12_size 22 = .ok (.iload_n 1, 1) := xdc ddX12_size_0 14 rfl
theorem dX12_size_23 : decode cX12_size 23 = .ok (.invokevirtual 167, 3) := xdc ddX12_size_0 15 rfl
theorem dX12_size_26 : decode cX12_size 26 = .ok (.ifCond .eq 10, 3) := xdc ddX12_size_0 16 rfl
theorem dX12_size_29 : decode cX12_size 29 = .ok (.aload_n 0, 1) := xdc ddX12_size_0 17 rfl
theorem dX12_size_30 : decode cX12_size 30 = .ok (.getfield 138, 3) := xdc ddX12_size_0 18 rfl
theorem dX12_size_33 : decode cX12_size 33 = .ok (.goto 4, 3) := xdc ddX12_size_0 19 rfl
theorem dX12_size_36 : decode cX12_size 36 = .ok (.iconst 0, 1) := xdc ddX12_size_0 20 rfl
theorem dX12_size_37 : decode cX12_size 37 = .ok (.ireturn, 1) := xdc ddX12_size_0 21 rfl
abbrev cX12_say : ByteArray := prog_14_method_34_code
theorem ddX12_say_0 : xdec cX12_say [(0, (.aload_n 0, 1)), (1, (.getfield 37, 3)), (4, (.aload_n 0, 1)), (5, (.getfield 220, 3)), (8, (.iload_n 1, 1)), (9, (.iastore, 1)), (10, (.aload_n 0, 1)), (11, (.dup, 1)), (12, (.getfield 220, 3)), (15, (.iconst 1, 1)), (16, (.iadd, 1)), (17, (.putfield 220, 3)), (20, (.return_, 1))] = true := by decide +kernel
theorem dX12_say_0 : decode cX12_say 0 = .ok (.aload_n 0, 1) := xdc ddX12_say_0 0 rfl
theorem dX12_say_1 : decode cX12_say 1 = .ok (.getfield 37, 3) := xdc ddX12_say_0 1 rfl
theorem dX12_say_4 : decode cX12_say 4 = .ok (.aload_n 0, 1) := xdc ddX12_say_0 2 rfl
theorem dX12_say_5 : decode cX12_say 5 = .ok (.getfield 220, 3) := xdc ddX12_say_0 3 rfl
theorem dX12_say_8 : decode cX12_say 8 = .ok (.iload_n 1, 1) := xdc ddX12_say_0 4 rfl
theorem dX12_say_9 : decode cX12_say 9 = .ok (.iastore, 1) := xdc ddX12_say_0 5 rfl
theorem dX12_say_10 : decode cX12_say 10 = .ok (.aload_n 0, 1) := xdc ddX12_say_0 6 rfl
theorem dX12_say_11 : decode cX12_say 11 = .ok (.dup, 1) := xdc ddX12_say_0 7 rfl
theorem dX12_say_12 : decode cX12_say 12 = .ok (.getfield 220, 3) := xdc ddX12_say_0 8 rfl
theorem dX12_say_15 : decode cX12_say 15 = .ok (.iconst 1, 1) := xdc ddX12_say_0 9 rfl
theorem dX12_say_16 : decode cX12_say 16 = .ok (.iadd, 1) := xdc ddX12_say_0 10 rfl
theorem dX12_say_17 : decode cX12_say 17 = .ok (.putfield 220, 3) := xdc ddX12_say_0 11 rfl
theorem dX12_say_20 : decode cX12_say 20 = .ok (.return_, 1) := xdc ddX12_say_0 12 rfl
abbrev cX12_sayWord : ByteArray := prog_14_method_35_code
theorem ddX12_sayWord_0 : xdec cX12_sayWord [(0, (.iconst 0, 1)), (1, (.istore_n 3, 1)), (2, (.iconst 0, 1)), (3, (.istore 4, 2)), (5, (.iload 4, 2)), (7, (.aload_n 1, 1)), (8, (.invokevirtual 223, 3)), (11, (.if_icmp .ge 41, 3)), (14, (.aload_n 1, 1)), (15, (.iload 4, 2)), (17, (.invokevirtual 227, 3)), (20, (.bipush 32, 2)), (22, (.if_icmp .ne 9, 3)), (25, (.iinc 3 1, 3)), (28, (.goto 18, 3)), (31, (.iload_n 3, 1)), (32, (.iload_n 2, 1)), (33, (.if_icmp .ne 13, 3)), (36, (.aload_n 0, 1)), (37, (.aload_n 1, 1)), (38, (.iload 4, 2)), (40, (.invokevirtual 227, 3)), (43, (.invokevirtual 231, 3)), (46, (.iinc 4 1, 3)), (49, (.goto (-44), 3)), (52, (.return_, 1))] = true := by decide +kernel
theorem dX12_sayWord_0 : decode cX12_sayWord 0 = .ok (.iconst 0, 1) := xdc ddX12_sayWord_0 0 rfl
theorem dX12_sayWord_1 : decode cX12_sayWord 1 = .ok (.istore_n 3, 1) := xdc ddX12_sayWord_0 1 rfl
theorem dX12_sayWord_2 : decode cX12_sayWord 2 = .ok (.iconst 0, 1) := xdc ddX12_sayWord_0 2 rfl
theorem dX12_sayWord_3 : decode cX12_sayWord 3 = .ok (.istore 4, 2) := xdc ddX12_sayWord_0 3 rfl
theorem dX12_sayWord_5 : decode cX12_sayWord 5 = .ok (.iload 4, 2) := xdc ddX12_sayWord_0 4 rfl
theorem dX12_sayWord_7 : decode cX12_sayWord 7 = .ok (.aload_n 1, 1) := xdc ddX12_sayWord_0 5 rfl
theorem dX12_sayWord_8 : decode cX12_sayWord 8 = .ok (.invokevirtual 223, 3) := xdc ddX12_sayWord_0 6 rfl
theorem dX12_sayWord_11 : decode cX12_sayWord 11 = .ok (.if_icmp .ge 41, 3) := xdc ddX12_sayWord_0 7 rfl
theorem dX12_sayWord_14 : decode cX12_sayWord 14 = .ok (.aload_n 1, 1) := xdc ddX12_sayWord_0 8 rfl
theorem dX12_sayWord_15 : decode cX12_sayWord 15 = .ok (.iload 4, 2) := xdc ddX12_sayWord_0 9 rfl
theorem dX12_sayWord_17 : decode cX12_sayWord 17 = .ok (.invokevirtual 227, 3) := xdc ddX12_sayWord_0 10 rfl
theorem dX12_sayWord_20 : decode cX12_sayWord 20 = .ok (.bipush 32, 2) := xdc ddX12_sayWord_0 11 rfl
theorem dX12_sayWord_22 : decode cX12_sayWord 22 = .ok (.if_icmp .ne 9, 3) := xdc ddX12_sayWord_0 12 rfl
theorem dX12_sayWord_25 : decode cX12_sayWord 25 = .ok (.iinc 3 1, 3) := xdc ddX12_sayWord_0 13 rfl
theorem dX12_sayWord_28 : decode cX12_sayWord 28 = .ok (.goto 18, 3) := xdc ddX12_sayWord_0 14 rfl
theorem dX12_sayWord_31 : decode cX12_sayWord 31 = .ok (.iload_n 3, 1) := xdc ddX12_sayWord_0 15 rfl
theorem dX12_sayWord_32 : decode cX12_sayWord 32 = .ok (.iload_n 2, 1) := xdc ddX12_sayWord_0 16 rfl
theorem dX12_sayWord_33 : decode cX12_sayWord 33 = .ok (.if_icmp .ne 13, 3) := xdc ddX12_sayWord_0 17 rfl
theorem dX12_sayWord_36 : decode cX12_sayWord 36 = .ok (.aload_n 0, 1) := xdc ddX12_sayWord_0 18 rfl
theorem dX12_sayWord_37 : decode cX12_sayWord 37 = .ok (.aload_n 1, 1) := xdc ddX12_sayWord_0 19 rfl
theorem dX12_sayWord_38 : decode cX12_sayWord 38 = .ok (.iload 4, 2) := xdc ddX12_sayWord_0 20 rfl
theorem dX12_sayWord_40 : decode cX12_sayWord 40 = .ok (.invokevirtual 227, 3) := xdc ddX12_sayWord_0 21 rfl
theorem dX12_sayWord_43 : decode cX12_sayWord 43 = .ok (.invokevirtual 231, 3) := xdc ddX12_sayWord_0 22 rfl
theorem dX12_sayWord_46 : decode cX12_sayWord 46 = .ok (.iinc 4 1, 3) := xdc ddX12_sayWord_0 23 rfl
theorem dX12_sayWord_49 : decode cX12_sayWord 49 = .ok (.goto (-44), 3) := xdc ddX12_sayWord_0 24 rfl
theorem dX12_sayWord_52 : decode cX12_sayWord 52 = .ok (.return_, 1) := xdc ddX12_sayWord_0 25 rfl
abbrev cX12_sayNumber : ByteArray := prog_14_method_36_code
theorem ddX12_sayNumber_0 : xdec cX12_sayNumber [(0, (.lload_n 1, 1)), (1, (.lconst 0, 1)), (2, (.lcmp, 1)), (3, (.ifCond .ge 9, 3)), (6, (.aload_n 0, 1)), (7, (.bipush 45, 2)), (9, (.invokevirtual 231, 3)), (12, (.lload_n 1, 1)), (13, (.lconst 0, 1)), (14, (.lcmp, 1)), (15, (.ifCond .ge 8, 3)), (18, (.lload_n 1, 1)), (19, (.lneg, 1)), (20, (.goto 4, 3)), (23, (.lload_n 1, 1)), (24, (.lstore_n 3, 1)), (25, (.lconst 1, 1)), (26, (.lstore 5, 2)), (28, (.lload_n 3, 1)), (29, (.lload 5, 2)), (31, (.ldiv, 1)), (32, (.ldc2_w 234, 3)), (35, (.lcmp, 1)), (36, (.ifCond .lt 14, 3)), (39, (.lload 5, 2)), (41, (.ldc2_w 234, 3)), (44, (.lmul, 1)), (45, (.lstore 5, 2)), (47, (.goto (-19), 3)), (50, (.lload 5, 2)), (52, (.lconst 0, 1)), (53, (.lcmp, 1)), (54, (.ifCond .le 30, 3)), (57, (.aload_n 0, 1)), (58, (.bipush 48, 2)), (60, (.lload_n 3, 1)), (61, (.lload 5, 2)), (63, (.ldiv, 1)), (64, (.ldc2_w 234, 3)), (67, (.lrem, 1))] = true := by decide +kernel
theorem dX12_sayNumber_0 : decode cX12_sayNumber 0 = .ok (.lload_n 1, 1) := xdc ddX12_sayNumber_0 0 rfl
theorem dX12_sayNumber_1 : decode cX12_sayNumber 1 = .ok (.lconst 0, 1) := xdc ddX12_sayNumber_0 1 rfl
theorem dX12_sayNumber_2 : decode cX12_sayNumber 2 = .ok (.lcmp, 1) := xdc ddX12_sayNumber_0 2 rfl
theorem dX12_sayNumber_3 : decode cX12_sayNumber 3 = .ok (.ifCond .ge 9, 3) := xdc ddX12_sayNumber_0 3 rfl
theorem dX12_sayNumber_6 : decode cX12_sayNumber 6 = .ok (.aload_n 0, 1) := xdc ddX12_sayNumber_0 4 rfl
theorem dX12_sayNumber_7 : decode cX12_sayNumber 7 = .ok (.bipush 45, 2) := xdc ddX12_sayNumber_0 5 rfl
theorem dX12_sayNumber_9 : decode cX12_sayNumber 9 = .ok (.invokevirtual 231, 3) := xdc ddX12_sayNumber_0 6 rfl
theorem dX12_sayNumber_12 : decode cX12_sayNumber 12 = .ok (.lload_n 1, 1) := xdc ddX12_sayNumber_0 7 rfl
theorem dX12_sayNumber_13 : decode cX12_sayNumber 13 = .ok (.lconst 0, 1) := xdc ddX12_sayNumber_0 8 rfl
theorem dX12_sayNumber_14 : decode cX12_sayNumber 14 = .ok (.lcmp, 1) := xdc ddX12_sayNumber_0 9 rfl
theorem dX12_sayNumber_15 : decode cX12_sayNumber 15 = .ok (.ifCond .ge 8, 3) := xdc ddX12_sayNumber_0 10 rfl
theorem dX12_sayNumber_18 : decode cX12_sayNumber 18 = .ok (.lload_n 1, 1) := xdc ddX12_sayNumber_0 11 rfl
theorem dX12_sayNumber_19 : decode cX12_sayNumber 19 = .ok (.lneg, 1) := xdc ddX12_sayNumber_0 12 rfl
theorem dX12_sayNumber_20 : decode cX12_sayNumber 20 = .ok (.goto 4, 3) := xdc ddX12_sayNumber_0 13 rfl
theorem dX12_sayNumber_23 : decode cX12_sayNumber 23 = .ok (.lload_n 1, 1) := xdc ddX12_sayNumber_0 14 rfl
theorem dX12_sayNumber_24 : decode cX12_sayNumber 24 = .ok (.lstore_n 3, 1) := xdc ddX12_sayNumber_0 15 rfl
theorem dX12_sayNumber_25 : decode cX12_sayNumber 25 = .ok (.lconst 1, 1) := xdc ddX12_sayNumber_0 16 rfl
theorem dX12_sayNumber_26 : decode cX12_sayNumber 26 = .ok (.lstore 5, 2) := xdc ddX12_sayNumber_0 17 rfl
theorem dX12_sayNumber_28 : decode cX12_sayNumber 28 = .ok (.lload_n 3, 1) := xdc ddX12_sayNumber_0 18 rfl
theorem dX12_sayNumber_29 : decode cX12_sayNumber 29 = .ok (.lload 5, 2) := xdc ddX12_sayNumber_0 19 rfl
theorem dX12_sayNumber_31 : decode cX12_sayNumber 31 = .ok (.ldiv, 1) := xdc ddX12_sayNumber_0 20 rfl
theorem dX12_sayNumber_32 : decode cX12_sayNumber 32 = .ok (.ldc2_w 234, 3) := xdc ddX12_sayNumber_0 21 rfl
theorem dX12_sayNumber_35 : decode cX12_sayNumber 35 = .ok (.lcmp, 1) := xdc ddX12_sayNumber_0 22 rfl
theorem dX12_sayNumber_36 : decode cX12_sayNumber 36 = .ok (.ifCond .lt 14, 3) := xdc ddX12_sayNumber_0 23 rfl
theorem dX12_sayNumber_39 : decode cX12_sayNumber 39 = .ok (.lload 5, 2) := xdc ddX12_sayNumber_0 24 rfl
theorem dX12_sayNumber_41 : decode cX12_sayNumber 41 = .ok (.ldc2_w 234, 3) := xdc ddX12_sayNumber_0 25 rfl
theorem dX12_sayNumber_44 : decode cX12_sayNumber 44 = .ok (.lmul, 1) := xdc ddX12_sayNumber_0 26 rfl
theorem dX12_sayNumber_45 : decode cX12_sayNumber 45 = .ok (.lstore 5, 2) := xdc ddX12_sayNumber_0 27 rfl
theorem dX12_sayNumber_47 : decode cX12_sayNumber 47 = .ok (.goto (-19), 3) := xdc ddX12_sayNumber_0 28 rfl
theorem dX12_sayNumber_50 : decode cX12_sayNumber 50 = .ok (.lload 5, 2) := xdc ddX12_sayNumber_0 29 rfl
theorem dX12_sayNumber_52 : decode cX12_sayNumber 52 = .ok (.lconst 0, 1) := xdc ddX12_sayNumber_0 30 rfl
theorem dX12_sayNumber_53 : decode cX12_sayNumber 53 = .ok (.lcmp, 1) := xdc ddX12_sayNumber_0 31 rfl
theorem dX12_sayNumber_54 : decode cX12_sayNumber 54 = .ok (.ifCond .le 30, 3) := xdc ddX12_sayNumber_0 32 rfl
theorem dX12_sayNumber_57 : decode cX12_sayNumber 57 = .ok (.aload_n 0, 1) := xdc ddX12_sayNumber_0 33 rfl
theorem dX12_sayNumber_58 : decode cX12_sayNumber 58 = .ok (.bipush 48, 2) := xdc ddX12_sayNumber_0 34 rfl
theorem dX12_sayNumber_60 : decode cX12_sayNumber 60 = .ok (.lload_n 3, 1) := xdc ddX12_sayNumber_0 35 rfl
theorem dX12_sayNumber_61 : decode cX12_sayNumber 61 = .ok (.lload 5, 2) := xdc ddX12_sayNumber_0 36 rfl
theorem dX12_sayNumber_63 : decode cX12_sayNumber 63 = .ok (.ldiv, 1) := xdc ddX12_sayNumber_0 37 rfl
theorem dX12_sayNumber_64 : decode cX12_sayNumber 64 = .ok (.ldc2_w 234, 3) := xdc ddX12_sayNumber_0 38 rfl
theorem dX12_sayNumber_67 : decode cX12_sayNumber 67 = .ok (.lrem, 1) := xdc ddX12_sayNumber_0 39 rfl
theorem ddX12_sayNumber_1 : xdec cX12_sayNumber [(68, (.l2i, 1)), (69, (.iadd, 1)), (70, (.invokevirtual 231, 3)), (73, (.lload 5, 2)), (75, (.ldc2_w 234, 3)), (78, (.ldiv, 1)), (79, (.lstore 5, 2)), (81, (.goto (-31), 3)), (84, (.return_, 1))] = true := by decide +kernel
theorem dX12_sayNumber_68 : decode cX12_sayNumber 68 = .ok (.l2i, 1) := xdc ddX12_sayNumber_1 0 rfl
theorem dX12_sayNumber_69 : decode cX12_sayNumber 69 = .ok (.iadd, 1) := xdc ddX12_sayNumber_1 1 rfl
theorem dX12_sayNumber_70 : decode cX12_sayNumber 70 = .ok (.invokevirtual 231, 3) := xdc ddX12_sayNumber_1 2 rfl
theorem dX12_sayNumber_73 : decode cX12_sayNumber 73 = .ok (.lload 5, 2) := xdc ddX12_sayNumber_1 3 rfl
theorem dX12_sayNumber_75 : decode cX12_sayNumber 75 = .ok (.ldc2_w 234, 3) := xdc ddX12_sayNumber_1 4 rfl
theorem dX12_sayNumber_78 : decode cX12_sayNumber 78 = .ok (.ldiv, 1) := xdc ddX12_sayNumber_1 5 rfl
theorem dX12_sayNumber_79 : decode cX12_sayNumber 79 = .ok (.lstore 5, 2) := xdc ddX12_sayNumber_1 6 rfl
theorem dX12_sayNumber_81 : decode cX12_sayNumber 81 = .ok (.goto (-31), 3) := xdc ddX12_sayNumber_1 7 rfl
theorem dX12_sayNumber_84 : decode cX12_sayNumber 84 = .ok (.return_, 1) := xdc ddX12_sayNumber_1 8 rfl
abbrev cX12_sayRegister : ByteArray := prog_14_method_37_code
theorem ddX12_sayRegister_0 : xdec cX12_sayRegister [(0, (.aload_n 0, 1)), (1, (.iload_n 2, 1)), (2, (.iconst 1, 1)), (3, (.if_icmp .ne 8, 3)), (6, (.ldc 236, 2)), (8, (.goto 15, 3)), (11, (.iload_n 2, 1)), (12, (.iconst 2, 1)), (13, (.if_icmp .ne 8, 3)), (16, (.ldc 238, 2)), (18, (.goto 5, 3)), (21, (.ldc 240, 2)), (23, (.iload_n 1, 1)), (24, (.invokevirtual 242, 3)), (27, (.return_, 1))] = true := by decide +kernel
theorem dX12_sayRegister_0 : decode cX12_sayRegister 0 = .ok (.aload_n 0, 1) := xdc ddX12_sayRegister_0 0 rfl
theorem dX12_sayRegister_1 : decode cX12_sayRegister 1 = .ok (.iload_n 2, 1) := xdc ddX12_sayRegister_0 1 rfl
theorem dX12_sayRegister_2 : decode cX12_sayRegister 2 = .ok (.iconst 1, 1) := xdc ddX12_sayRegister_0 2 rfl
theorem dX12_sayRegister_3 : decode cX12_sayRegister 3 = .ok (.if_icmp .ne 8, 3) := xdc ddX12_sayRegister_0 3 rfl
theorem dX12_sayRegister_6 : decode cX12_sayRegister 6 = .ok (.ldc 236, 2) := xdc ddX12_sayRegister_0 4 rfl
theorem dX12_sayRegister_8 : decode cX12_sayRegister 8 = .ok (.goto 15, 3) := xdc ddX12_sayRegister_0 5 rfl
theorem dX12_sayRegister_11 : decode cX12_sayRegister 11 = .ok (.iload_n 2, 1) := xdc ddX12_sayRegister_0 6 rfl
theorem dX12_sayRegister_12 : decode cX12_sayRegister 12 = .ok (.iconst 2, 1) := xdc ddX12_sayRegister_0 7 rfl
theorem dX12_sayRegister_13 : decode cX12_sayRegister 13 = .ok (.if_icmp .ne 8, 3) := xdc ddX12_sayRegister_0 8 rfl
theorem dX12_sayRegister_16 : decode cX12_sayRegister 16 = .ok (.ldc 238, 2) := xdc ddX12_sayRegister_0 9 rfl
theorem dX12_sayRegister_18 : decode cX12_sayRegister 18 = .ok (.goto 5, 3) := xdc ddX12_sayRegister_0 10 rfl
theorem dX12_sayRegister_21 : decode cX12_sayRegister 21 = .ok (.ldc 240, 2) := xdc ddX12_sayRegister_0 11 rfl
theorem dX12_sayRegister_23 : decode cX12_sayRegister 23 = .ok (.iload_n 1, 1) := xdc ddX12_sayRegister_0 12 rfl
theorem dX12_sayRegister_24 : decode cX12_sayRegister 24 = .ok (.invokevirtual 242, 3) := xdc ddX12_sayRegister_0 13 rfl
theorem dX12_sayRegister_27 : decode cX12_sayRegister 27 = .ok (.return_, 1) := xdc ddX12_sayRegister_0 14 rfl
abbrev cX12_sayE : ByteArray := prog_14_method_38_code
theorem ddX12_sayE_0 : xdec cX12_sayE [(0, (.aload_n 0, 1)), (1, (.getfield 82, 3)), (4, (.iconst 3, 1)), (5, (.if_icmp .ne 16, 3)), (8, (.aload_n 0, 1)), (9, (.aload_n 0, 1)), (10, (.getfield 88, 3)), (13, (.aload_n 0, 1)), (14, (.getfield 79, 3)), (17, (.invokevirtual 246, 3)), (20, (.return_, 1)), (21, (.aload_n 0, 1)), (22, (.aload_n 0, 1)), (23, (.getfield 79, 3)), (26, (.iconst 1, 1)), (27, (.if_icmp .ne 8, 3)), (30, (.bipush 98, 2)), (32, (.goto 18, 3)), (35, (.aload_n 0, 1)), (36, (.getfield 79, 3)), (39, (.iconst 2, 1)), (40, (.if_icmp .ne 8, 3)), (43, (.bipush 119, 2)), (45, (.goto 5, 3)), (48, (.bipush 100, 2)), (50, (.invokevirtual 231, 3)), (53, (.aload_n 0, 1)), (54, (.bipush 91, 2)), (56, (.invokevirtual 231, 3)), (59, (.iconst 0, 1)), (60, (.istore_n 1, 1)), (61, (.aload_n 0, 1)), (62, (.getfield 91, 3)), (65, (.iconst (-1), 1)), (66, (.if_icmp .eq 14, 3)), (69, (.aload_n 0, 1)), (70, (.aload_n 0, 1)), (71, (.getfield 91, 3)), (74, (.iconst 4, 1)), (75, (.invokevirtual 246, 3))] = true := by decide +kernel
theorem dX12_sayE_0 : decode cX12_sayE 0 = .ok (.aload_n 0, 1) := xdc ddX12_sayE_0 0 rfl
theorem dX12_sayE_1 : decode cX12_sayE 1 = .ok (.getfield 82, 3) := xdc ddX12_sayE_0 1 rfl
theorem dX12_sayE_4 : decode cX12_sayE 4 = .ok (.iconst 3, 1) := xdc ddX12_sayE_0 2 rfl
theorem dX12_sayE_5 : decode cX12_sayE 5 = .ok (.if_icmp .ne 16, 3) := xdc ddX12_sayE_0 3 rfl
theorem dX12_sayE_8 : decode cX12_sayE 8 = .ok (.aload_n 0, 1) := xdc ddX12_sayE_0 4 rfl
theorem dX12_sayE_9 : decode cX12_sayE 9 = .ok (.aload_n 0, 1) := xdc ddX12_sayE_0 5 rfl
theorem dX12_sayE_10 : decode cX12_sayE 10 = .ok (.getfield 88, 3) := xdc ddX12_sayE_0 6 rfl
theorem dX12_sayE_13 : decode cX12_sayE 13 = .ok (.aload_n 0, 1) := xdc ddX12_sayE_0 7 rfl
theorem dX12_sayE_14 : decode cX12_sayE 14 = .ok (.getfield 79, 3) := xdc ddX12_sayE_0 8 rfl
theorem dX12_sayE_17 : decode cX12_sayE 17 = .ok (.invokevirtual 246, 3) := xdc ddX12_sayE_0 9 rfl
theorem dX12_sayE_20 : decode cX12_sayE 20 = .ok (.return_, 1) := xdc ddX12_sayE_0 10 rfl
theorem dX12_sayE_21 : decode cX12_sayE 21 = .ok (.aload_n 0, 1) := xdc ddX12_sayE_0 11 rfl
theorem dX12_sayE_22 : decode cX12_sayE 22 = .ok (.aload_n 0, 1) := xdc ddX12_sayE_0 12 rfl
theorem dX12_sayE_23 : decode cX12_sayE 23 = .ok (.getfield 79, 3) := xdc ddX12_sayE_0 13 rfl
theorem dX12_sayE_26 : decode cX12_sayE 26 = .ok (.iconst 1, 1) := xdc ddX12_sayE_0 14 rfl
theorem dX12_sayE_27 : decode cX12_sayE 27 = .ok (.if_icmp .ne 8, 3) := xdc ddX12_sayE_0 15 rfl
theorem dX12_sayE_30 : decode cX12_sayE 30 = .ok (.bipush 98, 2) := xdc ddX12_sayE_0 16 rfl
theorem dX12_sayE_32 : decode cX12_sayE 32 = .ok (.goto 18, 3) := xdc ddX12_sayE_0 17 rfl
theorem dX12_sayE_35 : decode cX12_sayE 35 = .ok (.aload_n 0, 1) := xdc ddX12_sayE_0 18 rfl
theorem dX12_sayE_36 : decode cX12_sayE 36 = .ok (.getfield 79, 3) := xdc ddX12_sayE_0 19 rfl
theorem dX12_sayE_39 : decode cX12_sayE 39 = .ok (.iconst 2, 1) := xdc ddX12_sayE_0 20 rfl
theorem dX12_sayE_40 : decode cX12_sayE 40 = .ok (.if_icmp .ne 8, 3) := xdc ddX12_sayE_0 21 rfl
theorem dX12_sayE_43 : decode cX12_sayE 43 = .ok (.bipush 119, 2) := xdc ddX12_sayE_0 22 rfl
theorem dX12_sayE_45 : decode cX12_sayE 45 = .ok (.goto 5, 3) := xdc ddX12_sayE_0 23 rfl
theorem dX12_sayE_48 : decode cX12_sayE 48 = .ok (.bipush 100, 2) := xdc ddX12_sayE_0 24 rfl
theorem dX12_sayE_50 : decode cX12_sayE 50 = .ok (.invokevirtual 231, 3) := xdc ddX12_sayE_0 25 rfl
theorem dX12_sayE_53 : decode cX12_sayE 53 = .ok (.aload_n 0, 1) := xdc ddX12_sayE_0 26 rfl
theorem dX12_sayE_54 : decode cX12_sayE 54 = .ok (.bipush 91, 2) := xdc ddX12_sayE_0 27 rfl
theorem dX12_sayE_56 : decode cX12_sayE 56 = .ok (.invokevirtual 231, 3) := xdc ddX12_sayE_0 28 rfl
theorem dX12_sayE_59 : decode cX12_sayE 59 = .ok (.iconst 0, 1) := xdc ddX12_sayE_0 29 rfl
theorem dX12_sayE_60 : decode cX12_sayE 60 = .ok (.istore_n 1, 1) := xdc ddX12_sayE_0 30 rfl
theorem dX12_sayE_61 : decode cX12_sayE 61 = .ok (.aload_n 0, 1) := xdc ddX12_sayE_0 31 rfl
theorem dX12_sayE_62 : decode cX12_sayE 62 = .ok (.getfield 91, 3) := xdc ddX12_sayE_0 32 rfl
theorem dX12_sayE_65 : decode cX12_sayE 65 = .ok (.iconst (-1), 1) := xdc ddX12_sayE_0 33 rfl
theorem dX12_sayE_66 : decode cX12_sayE 66 = .ok (.if_icmp .eq 14, 3) := xdc ddX12_sayE_0 34 rfl
theorem dX12_sayE_69 : decode cX12_sayE 69 = .ok (.aload_n 0, 1) := xdc ddX12_sayE_0 35 rfl
theorem dX12_sayE_70 : decode cX12_sayE 70 = .ok (.aload_n 0, 1) := xdc ddX12_sayE_0 36 rfl
theorem dX12_sayE_71 : decode cX12_sayE 71 = .ok (.getfield 91, 3) := xdc ddX12_sayE_0 37 rfl
theorem dX12_sayE_74 : decode cX12_sayE 74 = .ok (.iconst 4, 1) := xdc ddX12_sayE_0 38 rfl
theorem dX12_sayE_75 : decode cX12_sayE 75 = .ok (.invokevirtual 246, 3) := xdc ddX12_sayE_0 39 rfl
theorem ddX12_sayE_1 : xdec cX12_sayE [(78, (.iconst 1, 1)), (79, (.istore_n 1, 1)), (80, (.aload_n 0, 1)), (81, (.getfield 94, 3)), (84, (.iconst (-1), 1)), (85, (.if_icmp .eq 41, 3)), (88, (.iload_n 1, 1)), (89, (.ifCond .eq 9, 3)), (92, (.aload_n 0, 1)), (93, (.bipush 43, 2)), (95, (.invokevirtual 231, 3)), (98, (.aload_n 0, 1)), (99, (.aload_n 0, 1)), (100, (.getfield 94, 3)), (103, (.iconst 4, 1)), (104, (.invokevirtual 246, 3)), (107, (.aload_n 0, 1)), (108, (.bipush 42, 2)), (110, (.invokevirtual 231, 3)), (113, (.aload_n 0, 1)), (114, (.bipush 48, 2)), (116, (.aload_n 0, 1)), (117, (.getfield 97, 3)), (120, (.iadd, 1)), (121, (.invokevirtual 231, 3)), (124, (.iconst 1, 1)), (125, (.istore_n 1, 1)), (126, (.iload_n 1, 1)), (127, (.ifCond .eq 10, 3)), (130, (.aload_n 0, 1)), (131, (.getfield 100, 3)), (134, (.ifCond .eq 29, 3)), (137, (.iload_n 1, 1)), (138, (.ifCond .eq 16, 3)), (141, (.aload_n 0, 1)), (142, (.getfield 100, 3)), (145, (.ifCond .le 9, 3)), (148, (.aload_n 0, 1)), (149, (.bipush 43, 2)), (151, (.invokevirtual 231, 3))] = true := by decide +kernel
theorem dX12_sayE_78 : decode cX12_sayE 78 = .ok (.iconst 1, 1) := xdc ddX12_sayE_1 0 rfl
theorem dX12_sayE_79 : decode cX12_sayE 79 = .ok (.istore_n 1, 1) := xdc ddX12_sayE_1 1 rfl
theorem dX12_sayE_80 : decode cX12_sayE 80 = .ok (.aload_n 0, 1) := xdc ddX12_sayE_1 2 rfl
theorem dX12_sayE_81 : decode cX12_sayE 81 = .ok (.getfield 94, 3) := xdc ddX12_sayE_1 3 rfl
theorem dX12_sayE_84 : decode cX12_sayE 84 = .ok (.iconst (-1), 1) := xdc ddX12_sayE_1 4 rfl
theorem dX12_sayE_85 : decode cX12_sayE 85 = .ok (.if_icmp .eq 41, 3) := xdc ddX12_sayE_1 5 rfl
theorem dX12_sayE_88 : decode cX12_sayE 88 = .ok (.iload_n 1, 1) := xdc ddX12_sayE_1 6 rfl
theorem dX12_sayE_89 : decode cX12_sayE 89 = .ok (.ifCond .eq 9, 3) := xdc ddX12_sayE_1 7 rfl
theorem dX12_sayE_92 : decode cX12_sayE 92 = .ok (.aload_n 0, 1) := xdc ddX12_sayE_1 8 rfl
theorem dX12_sayE_93 : decode cX12_sayE 93 = .ok (.bipush 43, 2) := xdc ddX12_sayE_1 9 rfl
theorem dX12_sayE_95 : decode cX12_sayE 95 = .ok (.invokevirtual 231, 3) := xdc ddX12_sayE_1 10 rfl
theorem dX12_sayE_98 : decode cX12_sayE 98 = .ok (.aload_n 0, 1) := xdc ddX12_sayE_1 11 rfl
theorem dX12_sayE_99 : decode cX12_sayE 99 = .ok (.aload_n 0, 1) := xdc ddX12_sayE_1 12 rfl
theorem dX12_sayE_100 : decode cX12_sayE 100 = .ok (.getfield 94, 3) := xdc ddX12_sayE_1 13 rfl
theorem dX12_sayE_103 : decode cX12_sayE 103 = .ok (.iconst 4, 1) := xdc ddX12_sayE_1 14 rfl
theorem dX12_sayE_104 : decode cX12_sayE 104 = .ok (.invokevirtual 246, 3) := xdc ddX12_sayE_1 15 rfl
theorem dX12_sayE_107 : decode cX12_sayE 107 = .ok (.aload_n 0, 1) := xdc ddX12_sayE_1 16 rfl
theorem dX12_sayE_108 : decode cX12_sayE 108 = .ok (.bipush 42, 2) := xdc ddX12_sayE_1 17 rfl
theorem dX12_sayE_110 : decode cX12_sayE 110 = .ok (.invokevirtual 231, 3) := xdc ddX12_sayE_1 18 rfl
theorem dX12_sayE_113 : decode cX12_sayE 113 = .ok (.aload_n 0, 1) := xdc ddX12_sayE_1 19 rfl
theorem dX12_sayE_114 : decode cX12_sayE 114 = .ok (.bipush 48, 2) := xdc ddX12_sayE_1 20 rfl
theorem dX12_sayE_116 : decode cX12_sayE 116 = .ok (.aload_n 0, 1) := xdc ddX12_sayE_1 21 rfl
theorem dX12_sayE_117 : decode cX12_sayE 117 = .ok (.getfield 97, 3) := xdc ddX12_sayE_1 22 rfl
theorem dX12_sayE_120 : decode cX12_sayE 120 = .ok (.iadd, 1) := xdc ddX12_sayE_1 23 rfl
theorem dX12_sayE_121 : decode cX12_sayE 121 = .ok (.invokevirtual 231, 3) := xdc ddX12_sayE_1 24 rfl
theorem dX12_sayE_124 : decode cX12_sayE 124 = .ok (.iconst 1, 1) := xdc ddX12_sayE_1 25 rfl
theorem dX12_sayE_125 : decode cX12_sayE 125 = .ok (.istore_n 1, 1) := xdc ddX12_sayE_1 26 rfl
theorem dX12_sayE_126 : decode cX12_sayE 126 = .ok (.iload_n 1, 1) := xdc ddX12_sayE_1 27 rfl
theorem dX12_sayE_127 : decode cX12_sayE 127 = .ok (.ifCond .eq 10, 3) := xdc ddX12_sayE_1 28 rfl
theorem dX12_sayE_130 : decode cX12_sayE 130 = .ok (.aload_n 0, 1) := xdc ddX12_sayE_1 29 rfl
theorem dX12_sayE_131 : decode cX12_sayE 131 = .ok (.getfield 100, 3) := xdc ddX12_sayE_1 30 rfl
theorem dX12_sayE_134 : decode cX12_sayE 134 = .ok (.ifCond .eq 29, 3) := xdc ddX12_sayE_1 31 rfl
theorem dX12_sayE_137 : decode cX12_sayE 137 = .ok (.iload_n 1, 1) := xdc ddX12_sayE_1 32 rfl
theorem dX12_sayE_138 : decode cX12_sayE 138 = .ok (.ifCond .eq 16, 3) := xdc ddX12_sayE_1 33 rfl
theorem dX12_sayE_141 : decode cX12_sayE 141 = .ok (.aload_n 0, 1) := xdc ddX12_sayE_1 34 rfl
theorem dX12_sayE_142 : decode cX12_sayE 142 = .ok (.getfield 100, 3) := xdc ddX12_sayE_1 35 rfl
theorem dX12_sayE_145 : decode cX12_sayE 145 = .ok (.ifCond .le 9, 3) := xdc ddX12_sayE_1 36 rfl
theorem dX12_sayE_148 : decode cX12_sayE 148 = .ok (.aload_n 0, 1) := xdc ddX12_sayE_1 37 rfl
theorem dX12_sayE_149 : decode cX12_sayE 149 = .ok (.bipush 43, 2) := xdc ddX12_sayE_1 38 rfl
theorem dX12_sayE_151 : decode cX12_sayE 151 = .ok (.invokevirtual 231, 3) := xdc ddX12_sayE_1 39 rfl
theorem ddX12_sayE_2 : xdec cX12_sayE [(154, (.aload_n 0, 1)), (155, (.aload_n 0, 1)), (156, (.getfield 100, 3)), (159, (.i2l, 1)), (160, (.invokevirtual 249, 3)), (163, (.aload_n 0, 1)), (164, (.bipush 93, 2)), (166, (.invokevirtual 231, 3)), (169, (.return_, 1))] = true := by decide +kernel
theorem dX12_sayE_154 : decode cX12_sayE 154 = .ok (.aload_n 0, 1) := xdc ddX12_sayE_2 0 rfl
theorem dX12_sayE_155 : decode cX12_sayE 155 = .ok (.aload_n 0, 1) := xdc ddX12_sayE_2 1 rfl
theorem dX12_sayE_156 : decode cX12_sayE 156 = .ok (.getfield 100, 3) := xdc ddX12_sayE_2 2 rfl
theorem dX12_sayE_159 : decode cX12_sayE 159 = .ok (.i2l, 1) := xdc ddX12_sayE_2 3 rfl
theorem dX12_sayE_160 : decode cX12_sayE 160 = .ok (.invokevirtual 249, 3) := xdc ddX12_sayE_2 4 rfl
theorem dX12_sayE_163 : decode cX12_sayE 163 = .ok (.aload_n 0, 1) := xdc ddX12_sayE_2 5 rfl
theorem dX12_sayE_164 : decode cX12_sayE 164 = .ok (.bipush 93, 2) := xdc ddX12_sayE_2 6 rfl
theorem dX12_sayE_166 : decode cX12_sayE 166 = .ok (.invokevirtual 231, 3) := xdc ddX12_sayE_2 7 rfl
theorem dX12_sayE_169 : decode cX12_sayE 169 = .ok (.return_, 1) := xdc ddX12_sayE_2 8 rfl
abbrev cX12_sayOperands : ByteArray := prog_14_method_39_code
theorem ddX12_sayOperands_0 : xdec cX12_sayOperands [(0, (.aload_n 0, 1)), (1, (.getfield 73, 3)), (4, (.tableswitch 200 1 14 #[72, 97, 122, 134, 134, 141, 200, 184, 97, 134, 134, 72, 141, 156], 72)), (76, (.aload_n 0, 1)), (77, (.invokevirtual 253, 3)), (80, (.aload_n 0, 1)), (81, (.bipush 44, 2)), (83, (.invokevirtual 231, 3)), (86, (.aload_n 0, 1)), (87, (.aload_n 0, 1)), (88, (.getfield 85, 3)), (91, (.aload_n 0, 1)), (92, (.getfield 76, 3)), (95, (.invokevirtual 246, 3)), (98, (.goto 106, 3)), (101, (.aload_n 0, 1)), (102, (.aload_n 0, 1)), (103, (.getfield 85, 3)), (106, (.aload_n 0, 1)), (107, (.getfield 76, 3)), (110, (.invokevirtual 246, 3)), (113, (.aload_n 0, 1)), (114, (.bipush 44, 2)), (116, (.invokevirtual 231, 3)), (119, (.aload_n 0, 1)), (120, (.invokevirtual 253, 3)), (123, (.goto 81, 3)), (126, (.aload_n 0, 1)), (127, (.iconst 0, 1)), (128, (.aload_n 0, 1)), (129, (.getfield 76, 3)), (132, (.invokevirtual 246, 3)), (135, (.goto 69, 3)), (138, (.aload_n 0, 1)), (139, (.invokevirtual 253, 3)), (142, (.goto 62, 3)), (145, (.aload_n 0, 1)), (146, (.aload_n 0, 1)), (147, (.getfield 88, 3)), (150, (.aload_n 0, 1))] = true := by decide +kernel
theorem dX12_sayOperands_0 : decode cX12_sayOperands 0 = .ok (.aload_n 0, 1) := xdc ddX12_sayOperands_0 0 rfl
theorem dX12_sayOperands_1 : decode cX12_sayOperands 1 = .ok (.getfield 73, 3) := xdc ddX12_sayOperands_0 1 rfl
theorem dX12_sayOperands_4 : decode cX12_sayOperands 4 = .ok (.tableswitch 200 1 14 #[72, 97, 122, 134, 134, 141, 200, 184, 97, 134, 134, 72, 141, 156], 72) := xdc ddX12_sayOperands_0 2 rfl
theorem dX12_sayOperands_76 : decode cX12_sayOperands 76 = .ok (.aload_n 0, 1) := xdc ddX12_sayOperands_0 3 rfl
theorem dX12_sayOperands_77 : decode cX12_sayOperands 77 = .ok (.invokevirtual 253, 3) := xdc ddX12_sayOperands_0 4 rfl
theorem dX12_sayOperands_80 : decode cX12_sayOperands 80 = .ok (.aload_n 0, 1) := xdc ddX12_sayOperands_0 5 rfl
theorem dX12_sayOperands_81 : decode cX12_sayOperands 81 = .ok (.bipush 44, 2) := xdc ddX12_sayOperands_0 6 rfl
theorem dX12_sayOperands_83 : decode cX12_sayOperands 83 = .ok (.invokevirtual 231, 3) := xdc ddX12_sayOperands_0 7 rfl
theorem dX12_sayOperands_86 : decode cX12_sayOperands 86 = .ok (.aload_n 0, 1) := xdc ddX12_sayOperands_0 8 rfl
theorem dX12_sayOperands_87 : decode cX12_sayOperands 87 = .ok (.aload_n 0, 1) := xdc ddX12_sayOperands_0 9 rfl
theorem dX12_sayOperands_88 : decode cX12_sayOperands 88 = .ok (.getfield 85, 3) := xdc ddX12_sayOperands_0 10 rfl
theorem dX12_sayOperands_91 : decode cX12_sayOperands 91 = .ok (.aload_n 0, 1) := xdc ddX12_sayOperands_0 11 rfl
theorem dX12_sayOperands_92 : decode cX12_sayOperands 92 = .ok (.getfield 76, 3) := xdc ddX12_sayOperands_0 12 rfl
theorem dX12_sayOperands_95 : decode cX12_sayOperands 95 = .ok (.invokevirtual 246, 3) := xdc ddX12_sayOperands_0 13 rfl
theorem dX12_sayOperands_98 : decode cX12_sayOperands 98 = .ok (.goto 106, 3) := xdc ddX12_sayOperands_0 14 rfl
theorem dX12_sayOperands_101 : decode cX12_sayOperands 101 = .ok (.aload_n 0, 1) := xdc ddX12_sayOperands_0 15 rfl
theorem dX12_sayOperands_102 : decode cX12_sayOperands 102 = .ok (.aload_n 0, 1) := xdc ddX12_sayOperands_0 16 rfl
theorem dX12_sayOperands_103 : decode cX12_sayOperands 103 = .ok (.getfield 85, 3) := xdc ddX12_sayOperands_0 17 rfl
theorem dX12_sayOperands_106 : decode cX12_sayOperands 106 = .ok (.aload_n 0, 1) := xdc ddX12_sayOperands_0 18 rfl
theorem dX12_sayOperands_107 : decode cX12_sayOperands 107 = .ok (.getfield 76, 3) := xdc ddX12_sayOperands_0 19 rfl
theorem dX12_sayOperands_110 : decode cX12_sayOperands 110 = .ok (.invokevirtual 246, 3) := xdc ddX12_sayOperands_0 20 rfl
theorem dX12_sayOperands_113 : decode cX12_sayOperands 113 = .ok (.aload_n 0, 1) := xdc ddX12_sayOperands_0 21 rfl
theorem dX12_sayOperands_114 : decode cX12_sayOperands 114 = .ok (.bipush 44, 2) := xdc ddX12_sayOperands_0 22 rfl
theorem dX12_sayOperands_116 : decode cX12_sayOperands 116 = .ok (.invokevirtual 231, 3) := xdc ddX12_sayOperands_0 23 rfl
theorem dX12_sayOperands_119 : decode cX12_sayOperands 119 = .ok (.aload_n 0, 1) := xdc ddX12_sayOperands_0 24 rfl
theorem dX12_sayOperands_120 : decode cX12_sayOperands 120 = .ok (.invokevirtual 253, 3) := xdc ddX12_sayOperands_0 25 rfl
theorem dX12_sayOperands_123 : decode cX12_sayOperands 123 = .ok (.goto 81, 3) := xdc ddX12_sayOperands_0 26 rfl
theorem dX12_sayOperands_126 : decode cX12_sayOperands 126 = .ok (.aload_n 0, 1) := xdc ddX12_sayOperands_0 27 rfl
theorem dX12_sayOperands_127 : decode cX12_sayOperands 127 = .ok (.iconst 0, 1) := xdc ddX12_sayOperands_0 28 rfl
theorem dX12_sayOperands_128 : decode cX12_sayOperands 128 = .ok (.aload_n 0, 1) := xdc ddX12_sayOperands_0 29 rfl
theorem dX12_sayOperands_129 : decode cX12_sayOperands 129 = .ok (.getfield 76, 3) := xdc ddX12_sayOperands_0 30 rfl
theorem dX12_sayOperands_132 : decode cX12_sayOperands 132 = .ok (.invokevirtual 246, 3) := xdc ddX12_sayOperands_0 31 rfl
theorem dX12_sayOperands_135 : decode cX12_sayOperands 135 = .ok (.goto 69, 3) := xdc ddX12_sayOperands_0 32 rfl
theorem dX12_sayOperands_138 : decode cX12_sayOperands 138 = .ok (.aload_n 0, 1) := xdc ddX12_sayOperands_0 33 rfl
theorem dX12_sayOperands_139 : decode cX12_sayOperands 139 = .ok (.invokevirtual 253, 3) := xdc ddX12_sayOperands_0 34 rfl
theorem dX12_sayOperands_142 : decode cX12_sayOperands 142 = .ok (.goto 62, 3) := xdc ddX12_sayOperands_0 35 rfl
theorem dX12_sayOperands_145 : decode cX12_sayOperands 145 = .ok (.aload_n 0, 1) := xdc ddX12_sayOperands_0 36 rfl
theorem dX12_sayOperands_146 : decode cX12_sayOperands 146 = .ok (.aload_n 0, 1) := xdc ddX12_sayOperands_0 37 rfl
theorem dX12_sayOperands_147 : decode cX12_sayOperands 147 = .ok (.getfield 88, 3) := xdc ddX12_sayOperands_0 38 rfl
theorem dX12_sayOperands_150 : decode cX12_sayOperands 150 = .ok (.aload_n 0, 1) := xdc ddX12_sayOperands_0 39 rfl
theorem ddX12_sayOperands_1 : xdec cX12_sayOperands [(151, (.getfield 76, 3)), (154, (.invokevirtual 246, 3)), (157, (.goto 47, 3)), (160, (.aload_n 0, 1)), (161, (.ldc 240, 2)), (163, (.iconst 0, 1)), (164, (.invokevirtual 242, 3)), (167, (.aload_n 0, 1)), (168, (.bipush 44, 2)), (170, (.invokevirtual 231, 3)), (173, (.aload_n 0, 1)), (174, (.aload_n 0, 1)), (175, (.getfield 88, 3)), (178, (.aload_n 0, 1)), (179, (.getfield 76, 3)), (182, (.invokevirtual 246, 3)), (185, (.goto 19, 3)), (188, (.aload_n 0, 1)), (189, (.aload_n 0, 1)), (190, (.getfield 109, 3)), (193, (.i2l, 1)), (194, (.ldc2_w 186, 3)), (197, (.land, 1)), (198, (.invokevirtual 249, 3)), (201, (.goto 3, 3)), (204, (.aload_n 0, 1)), (205, (.getfield 73, 3)), (208, (.iconst 3, 1)), (209, (.if_icmp .eq 56, 3)), (212, (.aload_n 0, 1)), (213, (.getfield 73, 3)), (216, (.iconst 4, 1)), (217, (.if_icmp .eq 48, 3)), (220, (.aload_n 0, 1)), (221, (.getfield 73, 3)), (224, (.bipush 9, 2)), (226, (.if_icmp .eq 39, 3)), (229, (.aload_n 0, 1)), (230, (.getfield 73, 3)), (233, (.bipush 12, 2))] = true := by decide +kernel
theorem dX12_sayOperands_151 : decode cX12_sayOperands 151 = .ok (.getfield 76, 3) := xdc ddX12_sayOperands_1 0 rfl
theorem dX12_sayOperands_154 : decode cX12_sayOperands 154 = .ok (.invokevirtual 246, 3) := xdc ddX12_sayOperands_1 1 rfl
theorem dX12_sayOperands_157 : decode cX12_sayOperands 157 = .ok (.goto 47, 3) := xdc ddX12_sayOperands_1 2 rfl
theorem dX12_sayOperands_160 : decode cX12_sayOperands 160 = .ok (.aload_n 0, 1) := xdc ddX12_sayOperands_1 3 rfl
theorem dX12_sayOperands_161 : decode cX12_sayOperands 161 = .ok (.ldc 240, 2) := xdc ddX12_sayOperands_1 4 rfl
theorem dX12_sayOperands_163 : decode cX12_sayOperands 163 = .ok (.iconst 0, 1) := xdc ddX12_sayOperands_1 5 rfl
theorem dX12_sayOperands_164 : decode cX12_sayOperands 164 = .ok (.invokevirtual 242, 3) := xdc ddX12_sayOperands_1 6 rfl
theorem dX12_sayOperands_167 : decode cX12_sayOperands 167 = .ok (.aload_n 0, 1) := xdc ddX12_sayOperands_1 7 rfl
theorem dX12_sayOperands_168 : decode cX12_sayOperands 168 = .ok (.bipush 44, 2) := xdc ddX12_sayOperands_1 8 rfl
theorem dX12_sayOperands_170 : decode cX12_sayOperands 170 = .ok (.invokevirtual 231, 3) := xdc ddX12_sayOperands_1 9 rfl
theorem dX12_sayOperands_173 : decode cX12_sayOperands 173 = .ok (.aload_n 0, 1) := xdc ddX12_sayOperands_1 10 rfl
theorem dX12_sayOperands_174 : decode cX12_sayOperands 174 = .ok (.aload_n 0, 1) := xdc ddX12_sayOperands_1 11 rfl
theorem dX12_sayOperands_175 : decode cX12_sayOperands 175 = .ok (.getfield 88, 3) := xdc ddX12_sayOperands_1 12 rfl
theorem dX12_sayOperands_178 : decode cX12_sayOperands 178 = .ok (.aload_n 0, 1) := xdc ddX12_sayOperands_1 13 rfl
theorem dX12_sayOperands_179 : decode cX12_sayOperands 179 = .ok (.getfield 76, 3) := xdc ddX12_sayOperands_1 14 rfl
theorem dX12_sayOperands_182 : decode cX12_sayOperands 182 = .ok (.invokevirtual 246, 3) := xdc ddX12_sayOperands_1 15 rfl
theorem dX12_sayOperands_185 : decode cX12_sayOperands 185 = .ok (.goto 19, 3) := xdc ddX12_sayOperands_1 16 rfl
theorem dX12_sayOperands_188 : decode cX12_sayOperands 188 = .ok (.aload_n 0, 1) := xdc ddX12_sayOperands_1 17 rfl
theorem dX12_sayOperands_189 : decode cX12_sayOperands 189 = .ok (.aload_n 0, 1) := xdc ddX12_sayOperands_1 18 rfl
theorem dX12_sayOperands_190 : decode cX12_sayOperands 190 = .ok (.getfield 109, 3) := xdc ddX12_sayOperands_1 19 rfl
theorem dX12_sayOperands_193 : decode cX12_sayOperands 193 = .ok (.i2l, 1) := xdc ddX12_sayOperands_1 20 rfl
theorem dX12_sayOperands_194 : decode cX12_sayOperands 194 = .ok (.ldc2_w 186, 3) := xdc ddX12_sayOperands_1 21 rfl
theorem dX12_sayOperands_197 : decode cX12_sayOperands 197 = .ok (.land, 1) := xdc ddX12_sayOperands_1 22 rfl
theorem dX12_sayOperands_198 : decode cX12_sayOperands 198 = .ok (.invokevirtual 249, 3) := xdc ddX12_sayOperands_1 23 rfl
theorem dX12_sayOperands_201 : decode cX12_sayOperands 201 = .ok (.goto 3, 3) := xdc ddX12_sayOperands_1 24 rfl
theorem dX12_sayOperands_204 : decode cX12_sayOperands 204 = .ok (.aload_n 0, 1) := xdc ddX12_sayOperands_1 25 rfl
theorem dX12_sayOperands_205 : decode cX12_sayOperands 205 = .ok (.getfield 73, 3) := xdc ddX12_sayOperands_1 26 rfl
theorem dX12_sayOperands_208 : decode cX12_sayOperands 208 = .ok (.iconst 3, 1) := xdc ddX12_sayOperands_1 27 rfl
theorem dX12_sayOperands_209 : decode cX12_sayOperands 209 = .ok (.if_icmp .eq 56, 3) := xdc ddX12_sayOperands_1 28 rfl
theorem dX12_sayOperands_212 : decode cX12_sayOperands 212 = .ok (.aload_n 0, 1) := xdc ddX12_sayOperands_1 29 rfl
theorem dX12_sayOperands_213 : decode cX12_sayOperands 213 = .ok (.getfield 73, 3) := xdc ddX12_sayOperands_1 30 rfl
theorem dX12_sayOperands_216 : decode cX12_sayOperands 216 = .ok (.iconst 4, 1) := xdc ddX12_sayOperands_1 31 rfl
theorem dX12_sayOperands_217 : decode cX12_sayOperands 217 = .ok (.if_icmp .eq 48, 3) := xdc ddX12_sayOperands_1 32 rfl
theorem dX12_sayOperands_220 : decode cX12_sayOperands 220 = .ok (.aload_n 0, 1) := xdc ddX12_sayOperands_1 33 rfl
theorem dX12_sayOperands_221 : decode cX12_sayOperands 221 = .ok (.getfield 73, 3) := xdc ddX12_sayOperands_1 34 rfl
theorem dX12_sayOperands_224 : decode cX12_sayOperands 224 = .ok (.bipush 9, 2) := xdc ddX12_sayOperands_1 35 rfl
theorem dX12_sayOperands_226 : decode cX12_sayOperands 226 = .ok (.if_icmp .eq 39, 3) := xdc ddX12_sayOperands_1 36 rfl
theorem dX12_sayOperands_229 : decode cX12_sayOperands 229 = .ok (.aload_n 0, 1) := xdc ddX12_sayOperands_1 37 rfl
theorem dX12_sayOperands_230 : decode cX12_sayOperands 230 = .ok (.getfield 73, 3) := xdc ddX12_sayOperands_1 38 rfl
theorem dX12_sayOperands_233 : decode cX12_sayOperands 233 = .ok (.bipush 12, 2) := xdc ddX12_sayOperands_1 39 rfl
theorem ddX12_sayOperands_2 : xdec cX12_sayOperands [(235, (.if_icmp .eq 30, 3)), (238, (.aload_n 0, 1)), (239, (.getfield 73, 3)), (242, (.bipush 13, 2)), (244, (.if_icmp .eq 21, 3)), (247, (.aload_n 0, 1)), (248, (.getfield 73, 3)), (251, (.bipush 10, 2)), (253, (.if_icmp .eq 12, 3)), (256, (.aload_n 0, 1)), (257, (.getfield 73, 3)), (260, (.bipush 11, 2)), (262, (.if_icmp .ne 9, 3)), (265, (.aload_n 0, 1)), (266, (.bipush 44, 2)), (268, (.invokevirtual 231, 3)), (271, (.aload_n 0, 1)), (272, (.getfield 73, 3)), (275, (.iconst 3, 1)), (276, (.if_icmp .eq 47, 3)), (279, (.aload_n 0, 1)), (280, (.getfield 73, 3)), (283, (.iconst 4, 1)), (284, (.if_icmp .eq 39, 3)), (287, (.aload_n 0, 1)), (288, (.getfield 73, 3)), (291, (.bipush 9, 2)), (293, (.if_icmp .eq 30, 3)), (296, (.aload_n 0, 1)), (297, (.getfield 73, 3)), (300, (.bipush 12, 2)), (302, (.if_icmp .eq 21, 3)), (305, (.aload_n 0, 1)), (306, (.getfield 73, 3)), (309, (.bipush 13, 2)), (311, (.if_icmp .eq 12, 3)), (314, (.aload_n 0, 1)), (315, (.getfield 73, 3)), (318, (.bipush 7, 2)), (320, (.if_icmp .ne 15, 3))] = true := by decide +kernel
theorem dX12_sayOperands_235 : decode cX12_sayOperands 235 = .ok (.if_icmp .eq 30, 3) := xdc ddX12_sayOperands_2 0 rfl
theorem dX12_sayOperands_238 : decode cX12_sayOperands 238 = .ok (.aload_n 0, 1) := xdc ddX12_sayOperands_2 1 rfl
theorem dX12_sayOperands_239 : decode cX12_sayOperands 239 = .ok (.getfield 73, 3) := xdc ddX12_sayOperands_2 2 rfl
theorem dX12_sayOperands_242 : decode cX12_sayOperands 242 = .ok (.bipush 13, 2) := xdc ddX12_sayOperands_2 3 rfl
theorem dX12_sayOperands_244 : decode cX12_sayOperands 244 = .ok (.if_icmp .eq 21, 3) := xdc ddX12_sayOperands_2 4 rfl
theorem dX12_sayOperands_247 : decode cX12_sayOperands 247 = .ok (.aload_n 0, 1) := xdc ddX12_sayOperands_2 5 rfl
theorem dX12_sayOperands_248 : decode cX12_sayOperands 248 = .ok (.getfield 73, 3) := xdc ddX12_sayOperands_2 6 rfl
theorem dX12_sayOperands_251 : decode cX12_sayOperands 251 = .ok (.bipush 10, 2) := xdc ddX12_sayOperands_2 7 rfl
theorem dX12_sayOperands_253 : decode cX12_sayOperands 253 = .ok (.if_icmp .eq 12, 3) := xdc ddX12_sayOperands_2 8 rfl
theorem dX12_sayOperands_256 : decode cX12_sayOperands 256 = .ok (.aload_n 0, 1) := xdc ddX12_sayOperands_2 9 rfl
theorem dX12_sayOperands_257 : decode cX12_sayOperands 257 = .ok (.getfield 73, 3) := xdc ddX12_sayOperands_2 10 rfl
theorem dX12_sayOperands_260 : decode cX12_sayOperands 260 = .ok (.bipush 11, 2) := xdc ddX12_sayOperands_2 11 rfl
theorem dX12_sayOperands_262 : decode cX12_sayOperands 262 = .ok (.if_icmp .ne 9, 3) := xdc ddX12_sayOperands_2 12 rfl
theorem dX12_sayOperands_265 : decode cX12_sayOperands 265 = .ok (.aload_n 0, 1) := xdc ddX12_sayOperands_2 13 rfl
theorem dX12_sayOperands_266 : decode cX12_sayOperands 266 = .ok (.bipush 44, 2) := xdc ddX12_sayOperands_2 14 rfl
theorem dX12_sayOperands_268 : decode cX12_sayOperands 268 = .ok (.invokevirtual 231, 3) := xdc ddX12_sayOperands_2 15 rfl
theorem dX12_sayOperands_271 : decode cX12_sayOperands 271 = .ok (.aload_n 0, 1) := xdc ddX12_sayOperands_2 16 rfl
theorem dX12_sayOperands_272 : decode cX12_sayOperands 272 = .ok (.getfield 73, 3) := xdc ddX12_sayOperands_2 17 rfl
theorem dX12_sayOperands_275 : decode cX12_sayOperands 275 = .ok (.iconst 3, 1) := xdc ddX12_sayOperands_2 18 rfl
theorem dX12_sayOperands_276 : decode cX12_sayOperands 276 = .ok (.if_icmp .eq 47, 3) := xdc ddX12_sayOperands_2 19 rfl
theorem dX12_sayOperands_279 : decode cX12_sayOperands 279 = .ok (.aload_n 0, 1) := xdc ddX12_sayOperands_2 20 rfl
theorem dX12_sayOperands_280 : decode cX12_sayOperands 280 = .ok (.getfield 73, 3) := xdc ddX12_sayOperands_2 21 rfl
theorem dX12_sayOperands_283 : decode cX12_sayOperands 283 = .ok (.iconst 4, 1) := xdc ddX12_sayOperands_2 22 rfl
theorem dX12_sayOperands_284 : decode cX12_sayOperands 284 = .ok (.if_icmp .eq 39, 3) := xdc ddX12_sayOperands_2 23 rfl
theorem dX12_sayOperands_287 : decode cX12_sayOperands 287 = .ok (.aload_n 0, 1) := xdc ddX12_sayOperands_2 24 rfl
theorem dX12_sayOperands_288 : decode cX12_sayOperands 288 = .ok (.getfield 73, 3) := xdc ddX12_sayOperands_2 25 rfl
theorem dX12_sayOperands_291 : decode cX12_sayOperands 291 = .ok (.bipush 9, 2) := xdc ddX12_sayOperands_2 26 rfl
theorem dX12_sayOperands_293 : decode cX12_sayOperands 293 = .ok (.if_icmp .eq 30, 3) := xdc ddX12_sayOperands_2 27 rfl
theorem dX12_sayOperands_296 : decode cX12_sayOperands 296 = .ok (.aload_n 0, 1) := xdc ddX12_sayOperands_2 28 rfl
theorem dX12_sayOperands_297 : decode cX12_sayOperands 297 = .ok (.getfield 73, 3) := xdc ddX12_sayOperands_2 29 rfl
theorem dX12_sayOperands_300 : decode cX12_sayOperands 300 = .ok (.bipush 12, 2) := xdc ddX12_sayOperands_2 30 rfl
theorem dX12_sayOperands_302 : decode cX12_sayOperands 302 = .ok (.if_icmp .eq 21, 3) := xdc ddX12_sayOperands_2 31 rfl
theorem dX12_sayOperands_305 : decode cX12_sayOperands 305 = .ok (.aload_n 0, 1) := xdc ddX12_sayOperands_2 32 rfl
theorem dX12_sayOperands_306 : decode cX12_sayOperands 306 = .ok (.getfield 73, 3) := xdc ddX12_sayOperands_2 33 rfl
theorem dX12_sayOperands_309 : decode cX12_sayOperands 309 = .ok (.bipush 13, 2) := xdc ddX12_sayOperands_2 34 rfl
theorem dX12_sayOperands_311 : decode cX12_sayOperands 311 = .ok (.if_icmp .eq 12, 3) := xdc ddX12_sayOperands_2 35 rfl
theorem dX12_sayOperands_314 : decode cX12_sayOperands 314 = .ok (.aload_n 0, 1) := xdc ddX12_sayOperands_2 36 rfl
theorem dX12_sayOperands_315 : decode cX12_sayOperands 315 = .ok (.getfield 73, 3) := xdc ddX12_sayOperands_2 37 rfl
theorem dX12_sayOperands_318 : decode cX12_sayOperands 318 = .ok (.bipush 7, 2) := xdc ddX12_sayOperands_2 38 rfl
theorem dX12_sayOperands_320 : decode cX12_sayOperands 320 = .ok (.if_icmp .ne 15, 3) := xdc ddX12_sayOperands_2 39 rfl
theorem ddX12_sayOperands_3 : xdec cX12_sayOperands [(323, (.aload_n 0, 1)), (324, (.aload_n 0, 1)), (325, (.getfield 109, 3)), (328, (.i2l, 1)), (329, (.invokevirtual 249, 3)), (332, (.goto 37, 3)), (335, (.aload_n 0, 1)), (336, (.getfield 73, 3)), (339, (.bipush 10, 2)), (341, (.if_icmp .ne 12, 3)), (344, (.aload_n 0, 1)), (345, (.bipush 49, 2)), (347, (.invokevirtual 231, 3)), (350, (.goto 19, 3)), (353, (.aload_n 0, 1)), (354, (.getfield 73, 3)), (357, (.bipush 11, 2)), (359, (.if_icmp .ne 10, 3)), (362, (.aload_n 0, 1)), (363, (.ldc 236, 2)), (365, (.iconst 1, 1)), (366, (.invokevirtual 242, 3)), (369, (.return_, 1))] = true := by decide +kernel
theorem dX12_sayOperands_323 : decode cX12_sayOperands 323 = .ok (.aload_n 0, 1) := xdc ddX12_sayOperands_3 0 rfl
theorem dX12_sayOperands_324 : decode cX12_sayOperands 324 = .ok (.aload_n 0, 1) := xdc ddX12_sayOperands_3 1 rfl
theorem dX12_sayOperands_325 : decode cX12_sayOperands 325 = .ok (.getfield 109, 3) := xdc ddX12_sayOperands_3 2 rfl
theorem dX12_sayOperands_328 : decode cX12_sayOperands 328 = .ok (.i2l, 1) := xdc ddX12_sayOperands_3 3 rfl
theorem dX12_sayOperands_329 : decode cX12_sayOperands 329 = .ok (.invokevirtual 249, 3) := xdc ddX12_sayOperands_3 4 rfl
theorem dX12_sayOperands_332 : decode cX12_sayOperands 332 = .ok (.goto 37, 3) := xdc ddX12_sayOperands_3 5 rfl
theorem dX12_sayOperands_335 : decode cX12_sayOperands 335 = .ok (.aload_n 0, 1) := xdc ddX12_sayOperands_3 6 rfl
theorem dX12_sayOperands_336 : decode cX12_sayOperands 336 = .ok (.getfield 73, 3) := xdc ddX12_sayOperands_3 7 rfl
theorem dX12_sayOperands_339 : decode cX12_sayOperands 339 = .ok (.bipush 10, 2) := xdc ddX12_sayOperands_3 8 rfl
theorem dX12_sayOperands_341 : decode cX12_sayOperands 341 = .ok (.if_icmp .ne 12, 3) := xdc ddX12_sayOperands_3 9 rfl
theorem dX12_sayOperands_344 : decode cX12_sayOperands 344 = .ok (.aload_n 0, 1) := xdc ddX12_sayOperands_3 10 rfl
theorem dX12_sayOperands_345 : decode cX12_sayOperands 345 = .ok (.bipush 49, 2) := xdc ddX12_sayOperands_3 11 rfl
theorem dX12_sayOperands_347 : decode cX12_sayOperands 347 = .ok (.invokevirtual 231, 3) := xdc ddX12_sayOperands_3 12 rfl
theorem dX12_sayOperands_350 : decode cX12_sayOperands 350 = .ok (.goto 19, 3) := xdc ddX12_sayOperands_3 13 rfl
theorem dX12_sayOperands_353 : decode cX12_sayOperands 353 = .ok (.aload_n 0, 1) := xdc ddX12_sayOperands_3 14 rfl
theorem dX12_sayOperands_354 : decode cX12_sayOperands 354 = .ok (.getfield 73, 3) := xdc ddX12_sayOperands_3 15 rfl
theorem dX12_sayOperands_357 : decode cX12_sayOperands 357 = .ok (.bipush 11, 2) := xdc ddX12_sayOperands_3 16 rfl
theorem dX12_sayOperands_359 : decode cX12_sayOperands 359 = .ok (.if_icmp .ne 10, 3) := xdc ddX12_sayOperands_3 17 rfl
theorem dX12_sayOperands_362 : decode cX12_sayOperands 362 = .ok (.aload_n 0, 1) := xdc ddX12_sayOperands_3 18 rfl
theorem dX12_sayOperands_363 : decode cX12_sayOperands 363 = .ok (.ldc 236, 2) := xdc ddX12_sayOperands_3 19 rfl
theorem dX12_sayOperands_365 : decode cX12_sayOperands 365 = .ok (.iconst 1, 1) := xdc ddX12_sayOperands_3 20 rfl
theorem dX12_sayOperands_366 : decode cX12_sayOperands 366 = .ok (.invokevirtual 242, 3) := xdc ddX12_sayOperands_3 21 rfl
theorem dX12_sayOperands_369 : decode cX12_sayOperands 369 = .ok (.return_, 1) := xdc ddX12_sayOperands_3 22 rfl
abbrev cX12_tell : ByteArray := prog_14_method_40_code
theorem ddX12_tell_0 : xdec cX12_tell [(0, (.aload_n 0, 1)), (1, (.iconst 0, 1)), (2, (.putfield 53, 3)), (5, (.iload_n 1, 1)), (6, (.i2l, 1)), (7, (.lconst 0, 1)), (8, (.aload_n 0, 1)), (9, (.getfield 59, 3)), (12, (.i2l, 1)), (13, (.lconst 1, 1)), (14, (.lsub, 1)), (15, (.invokestatic 163, 3)), (18, (.ifCond .eq 11, 3)), (21, (.aload_n 0, 1)), (22, (.iload_n 1, 1)), (23, (.invokevirtual 167, 3)), (26, (.ifCond .ne 5, 3)), (29, (.iconst (-1), 1)), (30, (.ireturn, 1)), (31, (.aload_n 0, 1)), (32, (.iconst 0, 1)), (33, (.putfield 220, 3)), (36, (.aload_n 0, 1)), (37, (.ldc_w 256, 3)), (40, (.aload_n 0, 1)), (41, (.getfield 70, 3)), (44, (.invokevirtual 242, 3)), (47, (.aload_n 0, 1)), (48, (.getfield 70, 3)), (51, (.bipush 13, 2)), (53, (.if_icmp .eq 21, 3)), (56, (.aload_n 0, 1)), (57, (.getfield 70, 3)), (60, (.bipush 44, 2)), (62, (.if_icmp .eq 12, 3)), (65, (.aload_n 0, 1)), (66, (.getfield 70, 3)), (69, (.bipush 45, 2)), (71, (.if_icmp .ne 14, 3)), (74, (.aload_n 0, 1))] = true := by decide +kernel
theorem dX12_tell_0 : decode cX12_tell 0 = .ok (.aload_n 0, 1) := xdc ddX12_tell_0 0 rfl
theorem dX12_tell_1 : decode cX12_tell 1 = .ok (.iconst 0, 1) := xdc ddX12_tell_0 1 rfl
theorem dX12_tell_2 : decode cX12_tell 2 = .ok (.putfield 53, 3) := xdc ddX12_tell_0 2 rfl
theorem dX12_tell_5 : decode cX12_tell 5 = .ok (.iload_n 1, 1) := xdc ddX12_tell_0 3 rfl
theorem dX12_tell_6 : decode cX12_tell 6 = .ok (.i2l, 1) := xdc ddX12_tell_0 4 rfl
theorem dX12_tell_7 : decode cX12_tell 7 = .ok (.lconst 0, 1) := xdc ddX12_tell_0 5 rfl
theorem dX12_tell_8 : decode cX12_tell 8 = .ok (.aload_n 0, 1) := xdc ddX12_tell_0 6 rfl
theorem dX12_tell_9 : decode cX12_tell 9 = .ok (.getfield 59, 3) := xdc ddX12_tell_0 7 rfl
theorem dX12_tell_12 : decode cX12_tell 12 = .ok (.i2l, 1) := xdc ddX12_tell_0 8 rfl
theorem dX12_tell_13 : decode cX12_tell 13 = .ok (.lconst 1, 1) := xdc ddX12_tell_0 9 rfl
theorem dX12_tell_14 : decode cX12_tell 14 = .ok (.lsub, 1) := xdc ddX12_tell_0 10 rfl
theorem dX12_tell_15 : decode cX12_tell 15 = .ok (.invokestatic 163, 3) := xdc ddX12_tell_0 11 rfl
theorem dX12_tell_18 : decode cX12_tell 18 = .ok (.ifCond .eq 11, 3) := xdc ddX12_tell_0 12 rfl
theorem dX12_tell_21 : decode cX12_tell 21 = .ok (.aload_n 0, 1) := xdc ddX12_tell_0 13 rfl
theorem dX12_tell_22 : decode cX12_tell 22 = .ok (.iload_n 1, 1) := xdc ddX12_tell_0 14 rfl
theorem dX12_tell_23 : decode cX12_tell 23 = .ok (.invokevirtual 167, 3) := xdc ddX12_tell_0 15 rfl
theorem dX12_tell_26 : decode cX12_tell 26 = .ok (.ifCond .ne 5, 3) := xdc ddX12_tell_0 16 rfl
theorem dX12_tell_29 : decode cX12_tell 29 = .ok (.iconst (-1), 1) := xdc ddX12_tell_0 17 rfl
theorem dX12_tell_30 : decode cX12_tell 30 = .ok (.ireturn, 1) := xdc ddX12_tell_0 18 rfl
theorem dX12_tell_31 : decode cX12_tell 31 = .ok (.aload_n 0, 1) := xdc ddX12_tell_0 19 rfl
theorem dX12_tell_32 : decode cX12_tell 32 = .ok (.iconst 0, 1) := xdc ddX12_tell_0 20 rfl
theorem dX12_tell_33 : decode cX12_tell 33 = .ok (.putfield 220, 3) := xdc ddX12_tell_0 21 rfl
theorem dX12_tell_36 : decode cX12_tell 36 = .ok (.aload_n 0, 1) := xdc ddX12_tell_0 22 rfl
theorem dX12_tell_37 : decode cX12_tell 37 = .ok (.ldc_w 256, 3) := xdc ddX12_tell_0 23 rfl
theorem dX12_tell_40 : decode cX12_tell 40 = .ok (.aload_n 0, 1) := xdc ddX12_tell_0 24 rfl
theorem dX12_tell_41 : decode cX12_tell 41 = .ok (.getfield 70, 3) := xdc ddX12_tell_0 25 rfl
theorem dX12_tell_44 : decode cX12_tell 44 = .ok (.invokevirtual 242, 3) := xdc ddX12_tell_0 26 rfl
theorem dX12_tell_47 : decode cX12_tell 47 = .ok (.aload_n 0, 1) := xdc ddX12_tell_0 27 rfl
theorem dX12_tell_48 : decode cX12_tell 48 = .ok (.getfield 70, 3) := xdc ddX12_tell_0 28 rfl
theorem dX12_tell_51 : decode cX12_tell 51 = .ok (.bipush 13, 2) := xdc ddX12_tell_0 29 rfl
theorem dX12_tell_53 : decode cX12_tell 53 = .ok (.if_icmp .eq 21, 3) := xdc ddX12_tell_0 30 rfl
theorem dX12_tell_56 : decode cX12_tell 56 = .ok (.aload_n 0, 1) := xdc ddX12_tell_0 31 rfl
theorem dX12_tell_57 : decode cX12_tell 57 = .ok (.getfield 70, 3) := xdc ddX12_tell_0 32 rfl
theorem dX12_tell_60 : decode cX12_tell 60 = .ok (.bipush 44, 2) := xdc ddX12_tell_0 33 rfl
theorem dX12_tell_62 : decode cX12_tell 62 = .ok (.if_icmp .eq 12, 3) := xdc ddX12_tell_0 34 rfl
theorem dX12_tell_65 : decode cX12_tell 65 = .ok (.aload_n 0, 1) := xdc ddX12_tell_0 35 rfl
theorem dX12_tell_66 : decode cX12_tell 66 = .ok (.getfield 70, 3) := xdc ddX12_tell_0 36 rfl
theorem dX12_tell_69 : decode cX12_tell 69 = .ok (.bipush 45, 2) := xdc ddX12_tell_0 37 rfl
theorem dX12_tell_71 : decode cX12_tell 71 = .ok (.if_icmp .ne 14, 3) := xdc ddX12_tell_0 38 rfl
theorem dX12_tell_74 : decode cX12_tell 74 = .ok (.aload_n 0, 1) := xdc ddX12_tell_0 39 rfl
theorem ddX12_tell_1 : xdec cX12_tell [(75, (.ldc_w 258, 3)), (78, (.aload_n 0, 1)), (79, (.getfield 115, 3)), (82, (.invokevirtual 242, 3)), (85, (.aload_n 0, 1)), (86, (.getfield 73, 3)), (89, (.ifCond .eq 13, 3)), (92, (.aload_n 0, 1)), (93, (.bipush 32, 2)), (95, (.invokevirtual 231, 3)), (98, (.aload_n 0, 1)), (99, (.invokevirtual 260, 3)), (102, (.aload_n 0, 1)), (103, (.getfield 220, 3)), (106, (.ireturn, 1))] = true := by decide +kernel
theorem dX12_tell_75 : decode cX12_tell 75 = .ok (.ldc_w 258, 3) := xdc ddX12_tell_1 0 rfl
theorem dX12_tell_78 : decode cX12_tell 78 = .ok (.aload_n 0, 1) := xdc ddX12_tell_1 1 rfl
theorem dX12_tell_79 : decode cX12_tell 79 = .ok (.getfield 115, 3) := xdc ddX12_tell_1 2 rfl
theorem dX12_tell_82 : decode cX12_tell 82 = .ok (.invokevirtual 242, 3) := xdc ddX12_tell_1 3 rfl
theorem dX12_tell_85 : decode cX12_tell 85 = .ok (.aload_n 0, 1) := xdc ddX12_tell_1 4 rfl
theorem dX12_tell_86 : decode cX12_tell 86 = .ok (.getfield 73, 3) := xdc ddX12_tell_1 5 rfl
theorem dX12_tell_89 : decode cX12_tell 89 = .ok (.ifCond .eq 13, 3) := xdc ddX12_tell_1 6 rfl
theorem dX12_tell_92 : decode cX12_tell 92 = .ok (.aload_n 0, 1) := xdc ddX12_tell_1 7 rfl
theorem dX12_tell_93 : decode cX12_tell 93 = .ok (.bipush 32, 2) := xdc ddX12_tell_1 8 rfl
theorem dX12_tell_95 : decode cX12_tell 95 = .ok (.invokevirtual 231, 3) := xdc ddX12_tell_1 9 rfl
theorem dX12_tell_98 : decode cX12_tell 98 = .ok (.aload_n 0, 1) := xdc ddX12_tell_1 10 rfl
theorem dX12_tell_99 : decode cX12_tell 99 = .ok (.invokevirtual 260, 3) := xdc ddX12_tell_1 11 rfl
theorem dX12_tell_102 : decode cX12_tell 102 = .ok (.aload_n 0, 1) := xdc ddX12_tell_1 12 rfl
theorem dX12_tell_103 : decode cX12_tell 103 = .ok (.getfield 220, 3) := xdc ddX12_tell_1 13 rfl
theorem dX12_tell_106 : decode cX12_tell 106 = .ok (.ireturn, 1) := xdc ddX12_tell_1 14 rfl
abbrev cX12_text : ByteArray := prog_14_method_41_code
theorem ddX12_text_0 : xdec cX12_text [(0, (.aload_n 0, 1)), (1, (.iconst 0, 1)), (2, (.putfield 53, 3)), (5, (.lconst 0, 1)), (6, (.lstore_n 2, 1)), (7, (.ldc2_w 263, 3)), (10, (.lstore 4, 2)), (12, (.lload 4, 2)), (14, (.lconst 0, 1)), (15, (.lcmp, 1)), (16, (.ifCond .lt 56, 3)), (19, (.iload_n 1, 1)), (20, (.i2l, 1)), (21, (.lload 4, 2)), (23, (.ladd, 1)), (24, (.lstore 6, 2)), (26, (.lload_n 2, 1)), (27, (.bipush 8, 2)), (29, (.lshl, 1)), (30, (.lload 6, 2)), (32, (.lconst 0, 1)), (33, (.lcmp, 1)), (34, (.ifCond .lt 25, 3)), (37, (.lload 6, 2)), (39, (.aload_n 0, 1)), (40, (.getfield 220, 3)), (43, (.i2l, 1)), (44, (.lcmp, 1)), (45, (.ifCond .ge 14, 3)), (48, (.aload_n 0, 1)), (49, (.getfield 37, 3)), (52, (.lload 6, 2)), (54, (.l2i, 1)), (55, (.iaload, 1)), (56, (.goto 4, 3)), (59, (.iconst 0, 1)), (60, (.i2l, 1)), (61, (.lor, 1)), (62, (.lstore_n 2, 1)), (63, (.lload 4, 2))] = true := by decide +kernel
theorem dX12_text_0 : decode cX12_text 0 = .ok (.aload_n 0, 1) := xdc ddX12_text_0 0 rfl
theorem dX12_text_1 : decode cX12_text 1 = .ok (.iconst 0, 1) := xdc ddX12_text_0 1 rfl
theorem dX12_text_2 : decode cX12_text 2 = .ok (.putfield 53, 3) := xdc ddX12_text_0 2 rfl
theorem dX12_text_5 : decode cX12_text 5 = .ok (.lconst 0, 1) := xdc ddX12_text_0 3 rfl
theorem dX12_text_6 : decode cX12_text 6 = .ok (.lstore_n 2, 1) := xdc ddX12_text_0 4 rfl
theorem dX12_text_7 : decode cX12_text 7 = .ok (.ldc2_w 263, 3) := xdc ddX12_text_0 5 rfl
theorem dX12_text_10 : decode cX12_text 10 = .ok (.lstore 4, 2) := xdc ddX12_text_0 6 rfl
theorem dX12_text_12 : decode cX12_text 12 = .ok (.lload 4, 2) := xdc ddX12_text_0 7 rfl
theorem dX12_text_14 : decode cX12_text 14 = .ok (.lconst 0, 1) := xdc ddX12_text_0 8 rfl
theorem dX12_text_15 : decode cX12_text 15 = .ok (.lcmp, 1) := xdc ddX12_text_0 9 rfl
theorem dX12_text_16 : decode cX12_text 16 = .ok (.ifCond .lt 56, 3) := xdc ddX12_text_0 10 rfl
theorem dX12_text_19 : decode cX12_text 19 = .ok (.iload_n 1, 1) := xdc ddX12_text_0 11 rfl
theorem dX12_text_20 : decode cX12_text 20 = .ok (.i2l, 1) := xdc ddX12_text_0 12 rfl
theorem dX12_text_21 : decode cX12_text 21 = .ok (.lload 4, 2) := xdc ddX12_text_0 13 rfl
theorem dX12_text_23 : decode cX12_text 23 = .ok (.ladd, 1) := xdc ddX12_text_0 14 rfl
theorem dX12_text_24 : decode cX12_text 24 = .ok (.lstore 6, 2) := xdc ddX12_text_0 15 rfl
theorem dX12_text_26 : decode cX12_text 26 = .ok (.lload_n 2, 1) := xdc ddX12_text_0 16 rfl
theorem dX12_text_27 : decode cX12_text 27 = .ok (.bipush 8, 2) := xdc ddX12_text_0 17 rfl
theorem dX12_text_29 : decode cX12_text 29 = .ok (.lshl, 1) := xdc ddX12_text_0 18 rfl
theorem dX12_text_30 : decode cX12_text 30 = .ok (.lload 6, 2) := xdc ddX12_text_0 19 rfl
theorem dX12_text_32 : decode cX12_text 32 = .ok (.lconst 0, 1) := xdc ddX12_text_0 20 rfl
theorem dX12_text_33 : decode cX12_text 33 = .ok (.lcmp, 1) := xdc ddX12_text_0 21 rfl
theorem dX12_text_34 : decode cX12_text 34 = .ok (.ifCond .lt 25, 3) := xdc ddX12_text_0 22 rfl
theorem dX12_text_37 : decode cX12_text 37 = .ok (.lload 6, 2) := xdc ddX12_text_0 23 rfl
theorem dX12_text_39 : decode cX12_text 39 = .ok (.aload_n 0, 1) := xdc ddX12_text_0 24 rfl
theorem dX12_text_40 : decode cX12_text 40 = .ok (.getfield 220, 3) := xdc ddX12_text_0 25 rfl
theorem dX12_text_43 : decode cX12_text 43 = .ok (.i2l, 1) := xdc ddX12_text_0 26 rfl
theorem dX12_text_44 : decode cX12_text 44 = .ok (.lcmp, 1) := xdc ddX12_text_0 27 rfl
theorem dX12_text_45 : decode cX12_text 45 = .ok (.ifCond .ge 14, 3) := xdc ddX12_text_0 28 rfl
theorem dX12_text_48 : decode cX12_text 48 = .ok (.aload_n 0, 1) := xdc ddX12_text_0 29 rfl
theorem dX12_text_49 : decode cX12_text 49 = .ok (.getfield 37, 3) := xdc ddX12_text_0 30 rfl
theorem dX12_text_52 : decode cX12_text 52 = .ok (.lload 6, 2) := xdc ddX12_text_0 31 rfl
theorem dX12_text_54 : decode cX12_text 54 = .ok (.l2i, 1) := xdc ddX12_text_0 32 rfl
theorem dX12_text_55 : decode cX12_text 55 = .ok (.iaload, 1) := xdc ddX12_text_0 33 rfl
theorem dX12_text_56 : decode cX12_text 56 = .ok (.goto 4, 3) := xdc ddX12_text_0 34 rfl
theorem dX12_text_59 : decode cX12_text 59 = .ok (.iconst 0, 1) := xdc ddX12_text_0 35 rfl
theorem dX12_text_60 : decode cX12_text 60 = .ok (.i2l, 1) := xdc ddX12_text_0 36 rfl
theorem dX12_text_61 : decode cX12_text 61 = .ok (.lor, 1) := xdc ddX12_text_0 37 rfl
theorem dX12_text_62 : decode cX12_text 62 = .ok (.lstore_n 2, 1) := xdc ddX12_text_0 38 rfl
theorem dX12_text_63 : decode cX12_text 63 = .ok (.lload 4, 2) := xdc ddX12_text_0 39 rfl
theorem ddX12_text_1 : xdec cX12_text [(65, (.lconst 1, 1)), (66, (.lsub, 1)), (67, (.lstore 4, 2)), (69, (.goto (-57), 3)), (72, (.lload_n 2, 1)), (73, (.lreturn, 1))] = true := by decide +kernel
theorem dX12_text_65 : decode cX12_text 65 = .ok (.lconst 1, 1) := xdc ddX12_text_1 0 rfl
theorem dX12_text_66 : decode cX12_text 66 = .ok (.lsub, 1) := xdc ddX12_text_1 1 rfl
theorem dX12_text_67 : decode cX12_text 67 = .ok (.lstore 4, 2) := xdc ddX12_text_1 2 rfl
theorem dX12_text_69 : decode cX12_text 69 = .ok (.goto (-57), 3) := xdc ddX12_text_1 3 rfl
theorem dX12_text_72 : decode cX12_text 72 = .ok (.lload_n 2, 1) := xdc ddX12_text_1 4 rfl
theorem dX12_text_73 : decode cX12_text 73 = .ok (.lreturn, 1) := xdc ddX12_text_1 5 rfl
abbrev cX12_inData : ByteArray := prog_14_method_42_code
theorem ddX12_inData_0 : xdec cX12_inData [(0, (.lload_n 1, 1)), (1, (.ldc2_w 188, 3)), (4, (.lcmp, 1)), (5, (.ifCond .lt 18, 3)), (8, (.lload_n 1, 1)), (9, (.iload_n 3, 1)), (10, (.i2l, 1)), (11, (.ladd, 1)), (12, (.ldc2_w 190, 3)), (15, (.lcmp, 1)), (16, (.ifCond .gt 7, 3)), (19, (.iconst 1, 1)), (20, (.goto 4, 3)), (23, (.iconst 0, 1)), (24, (.ireturn, 1))] = true := by decide +kernel
theorem dX12_inData_0 : decode cX12_inData 0 = .ok (.lload_n 1, 1) := xdc ddX12_inData_0 0 rfl
theorem dX12_inData_1 : decode cX12_inData 1 = .ok (.ldc2_w 188, 3) := xdc ddX12_inData_0 1 rfl
theorem dX12_inData_4 : decode cX12_inData 4 = .ok (.lcmp, 1) := xdc ddX12_inData_0 2 rfl
theorem dX12_inData_5 : decode cX12_inData 5 = .ok (.ifCond .lt 18, 3) := xdc ddX12_inData_0 3 rfl
theorem dX12_inData_8 : decode cX12_inData 8 = .ok (.lload_n 1, 1) := xdc ddX12_inData_0 4 rfl
theorem dX12_inData_9 : decode cX12_inData 9 = .ok (.iload_n 3, 1) := xdc ddX12_inData_0 5 rfl
theorem dX12_inData_10 : decode cX12_inData 10 = .ok (.i2l, 1) := xdc ddX12_inData_0 6 rfl
theorem dX12_inData_11 : decode cX12_inData 11 = .ok (.ladd, 1) := xdc ddX12_inData_0 7 rfl
theorem dX12_inData_12 : decode cX12_inData 12 = .ok (.ldc2_w 190, 3) := xdc ddX12_inData_0 8 rfl
theorem dX12_inData_15 : decode cX12_inData 15 = .ok (.lcmp, 1) := xdc ddX12_inData_0 9 rfl
theorem dX12_inData_16 : decode cX12_inData 16 = .ok (.ifCond .gt 7, 3) := xdc ddX12_inData_0 10 rfl
theorem dX12_inData_19 : decode cX12_inData 19 = .ok (.iconst 1, 1) := xdc ddX12_inData_0 11 rfl
theorem dX12_inData_20 : decode cX12_inData 20 = .ok (.goto 4, 3) := xdc ddX12_inData_0 12 rfl
theorem dX12_inData_23 : decode cX12_inData 23 = .ok (.iconst 0, 1) := xdc ddX12_inData_0 13 rfl
theorem dX12_inData_24 : decode cX12_inData 24 = .ok (.ireturn, 1) := xdc ddX12_inData_0 14 rfl
abbrev cX12_inImage : ByteArray := prog_14_method_43_code
theorem ddX12_inImage_0 : xdec cX12_inImage [(0, (.lload_n 1, 1)), (1, (.ldc2_w 214, 3)), (4, (.lcmp, 1)), (5, (.ifCond .lt 24, 3)), (8, (.lload_n 1, 1)), (9, (.iload_n 3, 1)), (10, (.i2l, 1)), (11, (.ladd, 1)), (12, (.sipush 4096, 3)), (15, (.aload_n 0, 1)), (16, (.getfield 59, 3)), (19, (.iadd, 1)), (20, (.i2l, 1)), (21, (.lcmp, 1)), (22, (.ifCond .gt 7, 3)), (25, (.iconst 1, 1)), (26, (.goto 4, 3)), (29, (.iconst 0, 1)), (30, (.ireturn, 1))] = true := by decide +kernel
theorem dX12_inImage_0 : decode cX12_inImage 0 = .ok (.lload_n 1, 1) := xdc ddX12_inImage_0 0 rfl
theorem dX12_inImage_1 : decode cX12_inImage 1 = .ok (.ldc2_w 214, 3) := xdc ddX12_inImage_0 1 rfl
theorem dX12_inImage_4 : decode cX12_inImage 4 = .ok (.lcmp, 1) := xdc ddX12_inImage_0 2 rfl
theorem dX12_inImage_5 : decode cX12_inImage 5 = .ok (.ifCond .lt 24, 3) := xdc ddX12_inImage_0 3 rfl
theorem dX12_inImage_8 : decode cX12_inImage 8 = .ok (.lload_n 1, 1) := xdc ddX12_inImage_0 4 rfl
theorem dX12_inImage_9 : decode cX12_inImage 9 = .ok (.iload_n 3, 1) := xdc ddX12_inImage_0 5 rfl
theorem dX12_inImage_10 : decode cX12_inImage 10 = .ok (.i2l, 1) := xdc ddX12_inImage_0 6 rfl
theorem dX12_inImage_11 : decode cX12_inImage 11 = .ok (.ladd, 1) := xdc ddX12_inImage_0 7 rfl
theorem dX12_inImage_12 : decode cX12_inImage 12 = .ok (.sipush 4096, 3) := xdc ddX12_inImage_0 8 rfl
theorem dX12_inImage_15 : decode cX12_inImage 15 = .ok (.aload_n 0, 1) := xdc ddX12_inImage_0 9 rfl
theorem dX12_inImage_16 : decode cX12_inImage 16 = .ok (.getfield 59, 3) := xdc ddX12_inImage_0 10 rfl
theorem dX12_inImage_19 : decode cX12_inImage 19 = .ok (.iadd, 1) := xdc ddX12_inImage_0 11 rfl
theorem dX12_inImage_20 : decode cX12_inImage 20 = .ok (.i2l, 1) := xdc ddX12_inImage_0 12 rfl
theorem dX12_inImage_21 : decode cX12_inImage 21 = .ok (.lcmp, 1) := xdc ddX12_inImage_0 13 rfl
theorem dX12_inImage_22 : decode cX12_inImage 22 = .ok (.ifCond .gt 7, 3) := xdc ddX12_inImage_0 14 rfl
theorem dX12_inImage_25 : decode cX12_inImage 25 = .ok (.iconst 1, 1) := xdc ddX12_inImage_0 15 rfl
theorem dX12_inImage_26 : decode cX12_inImage 26 = .ok (.goto 4, 3) := xdc ddX12_inImage_0 16 rfl
theorem dX12_inImage_29 : decode cX12_inImage 29 = .ok (.iconst 0, 1) := xdc ddX12_inImage_0 17 rfl
theorem dX12_inImage_30 : decode cX12_inImage 30 = .ok (.ireturn, 1) := xdc ddX12_inImage_0 18 rfl
abbrev cX12_byteAt : ByteArray := prog_14_method_44_code
theorem ddX12_byteAt_0 : xdec cX12_byteAt [(0, (.lload_n 1, 1)), (1, (.ldc2_w 188, 3)), (4, (.lcmp, 1)), (5, (.ifCond .lt 16, 3)), (8, (.aload_n 0, 1)), (9, (.getfield 14, 3)), (12, (.lload_n 1, 1)), (13, (.l2i, 1)), (14, (.ldc 13, 2)), (16, (.isub, 1)), (17, (.iaload, 1)), (18, (.goto 14, 3)), (21, (.aload_n 0, 1)), (22, (.getfield 7, 3)), (25, (.lload_n 1, 1)), (26, (.l2i, 1)), (27, (.sipush 4096, 3)), (30, (.isub, 1)), (31, (.iaload, 1)), (32, (.ireturn, 1))] = true := by decide +kernel
theorem dX12_byteAt_0 : decode cX12_byteAt 0 = .ok (.lload_n 1, 1) := xdc ddX12_byteAt_0 0 rfl
theorem dX12_byteAt_1 : decode cX12_byteAt 1 = .ok (.ldc2_w 188, 3) := xdc ddX12_byteAt_0 1 rfl
theorem dX12_byteAt_4 : decode cX12_byteAt 4 = .ok (.lcmp, 1) := xdc ddX12_byteAt_0 2 rfl
theorem dX12_byteAt_5 : decode cX12_byteAt 5 = .ok (.ifCond .lt 16, 3) := xdc ddX12_byteAt_0 3 rfl
theorem dX12_byteAt_8 : decode cX12_byteAt 8 = .ok (.aload_n 0, 1) := xdc ddX12_byteAt_0 4 rfl
theorem dX12_byteAt_9 : decode cX12_byteAt 9 = .ok (.getfield 14, 3) := xdc ddX12_byteAt_0 5 rfl
theorem dX12_byteAt_12 : decode cX12_byteAt 12 = .ok (.lload_n 1, 1) := xdc ddX12_byteAt_0 6 rfl
theorem dX12_byteAt_13 : decode cX12_byteAt 13 = .ok (.l2i, 1) := xdc ddX12_byteAt_0 7 rfl
theorem dX12_byteAt_14 : decode cX12_byteAt 14 = .ok (.ldc 13, 2) := xdc ddX12_byteAt_0 8 rfl
theorem dX12_byteAt_16 : decode cX12_byteAt 16 = .ok (.isub, 1) := xdc ddX12_byteAt_0 9 rfl
theorem dX12_byteAt_17 : decode cX12_byteAt 17 = .ok (.iaload, 1) := xdc ddX12_byteAt_0 10 rfl
theorem dX12_byteAt_18 : decode cX12_byteAt 18 = .ok (.goto 14, 3) := xdc ddX12_byteAt_0 11 rfl
theorem dX12_byteAt_21 : decode cX12_byteAt 21 = .ok (.aload_n 0, 1) := xdc ddX12_byteAt_0 12 rfl
theorem dX12_byteAt_22 : decode cX12_byteAt 22 = .ok (.getfield 7, 3) := xdc ddX12_byteAt_0 13 rfl
theorem dX12_byteAt_25 : decode cX12_byteAt 25 = .ok (.lload_n 1, 1) := xdc ddX12_byteAt_0 14 rfl
theorem dX12_byteAt_26 : decode cX12_byteAt 26 = .ok (.l2i, 1) := xdc ddX12_byteAt_0 15 rfl
theorem dX12_byteAt_27 : decode cX12_byteAt 27 = .ok (.sipush 4096, 3) := xdc ddX12_byteAt_0 16 rfl
theorem dX12_byteAt_30 : decode cX12_byteAt 30 = .ok (.isub, 1) := xdc ddX12_byteAt_0 17 rfl
theorem dX12_byteAt_31 : decode cX12_byteAt 31 = .ok (.iaload, 1) := xdc ddX12_byteAt_0 18 rfl
theorem dX12_byteAt_32 : decode cX12_byteAt 32 = .ok (.ireturn, 1) := xdc ddX12_byteAt_0 19 rfl
abbrev cX12_read : ByteArray := prog_14_method_45_code
theorem ddX12_read_0 : xdec cX12_read [(0, (.iload_n 1, 1)), (1, (.i2l, 1)), (2, (.ldc2_w 186, 3)), (5, (.land, 1)), (6, (.lstore_n 3, 1)), (7, (.aload_n 0, 1)), (8, (.lload_n 3, 1)), (9, (.iload_n 2, 1)), (10, (.invokevirtual 265, 3)), (13, (.ifCond .ne 33, 3)), (16, (.aload_n 0, 1)), (17, (.lload_n 3, 1)), (18, (.iload_n 2, 1)), (19, (.invokevirtual 269, 3)), (22, (.ifCond .ne 24, 3)), (25, (.aload_n 0, 1)), (26, (.aload_n 0, 1)), (27, (.getfield 272, 3)), (30, (.ifCond .ne 7, 3)), (33, (.iconst 5, 1)), (34, (.goto 7, 3)), (37, (.aload_n 0, 1)), (38, (.getfield 272, 3)), (41, (.putfield 272, 3)), (44, (.iconst 0, 1)), (45, (.ireturn, 1)), (46, (.iconst 0, 1)), (47, (.istore 5, 2)), (49, (.iload_n 2, 1)), (50, (.iconst 1, 1)), (51, (.isub, 1)), (52, (.istore 6, 2)), (54, (.iload 6, 2)), (56, (.ifCond .lt 26, 3)), (59, (.iload 5, 2)), (61, (.bipush 8, 2)), (63, (.ishl, 1)), (64, (.aload_n 0, 1)), (65, (.lload_n 3, 1)), (66, (.iload 6, 2))] = true := by decide +kernel
theorem dX12_read_0 : decode cX12_read 0 = .ok (.iload_n 1, 1) := xdc ddX12_read_0 0 rfl
theorem dX12_read_1 : decode cX12_read 1 = .ok (.i2l, 1) := xdc ddX12_read_0 1 rfl
theorem dX12_read_2 : decode cX12_read 2 = .ok (.ldc2_w 186, 3) := xdc ddX12_read_0 2 rfl
theorem dX12_read_5 : decode cX12_read 5 = .ok (.land, 1) := xdc ddX12_read_0 3 rfl
theorem dX12_read_6 : decode cX12_read 6 = .ok (.lstore_n 3, 1) := xdc ddX12_read_0 4 rfl
theorem dX12_read_7 : decode cX12_read 7 = .ok (.aload_n 0, 1) := xdc ddX12_read_0 5 rfl
theorem dX12_read_8 : decode cX12_read 8 = .ok (.lload_n 3, 1) := xdc ddX12_read_0 6 rfl
theorem dX12_read_9 : decode cX12_read 9 = .ok (.iload_n 2, 1) := xdc ddX12_read_0 7 rfl
theorem dX12_read_10 : decode cX12_read 10 = .ok (.invokevirtual 265, 3) := xdc ddX12_read_0 8 rfl
theorem dX12_read_13 : decode cX12_read 13 = .ok (.ifCond .ne 33, 3) := xdc ddX12_read_0 9 rfl
theorem dX12_read_16 : decode cX12_read 16 = .ok (.aload_n 0, 1) := xdc ddX12_read_0 10 rfl
theorem dX12_read_17 : decode cX12_read 17 = .ok (.lload_n 3, 1) := xdc ddX12_read_0 11 rfl
theorem dX12_read_18 : decode cX12_read 18 = .ok (.iload_n 2, 1) := xdc ddX12_read_0 12 rfl
theorem dX12_read_19 : decode cX12_read 19 = .ok (.invokevirtual 269, 3) := xdc ddX12_read_0 13 rfl
theorem dX12_read_22 : decode cX12_read 22 = .ok (.ifCond .ne 24, 3) := xdc ddX12_read_0 14 rfl
theorem dX12_read_25 : decode cX12_read 25 = .ok (.aload_n 0, 1) := xdc ddX12_read_0 15 rfl
theorem dX12_read_26 : decode cX12_read 26 = .ok (.aload_n 0, 1) := xdc ddX12_read_0 16 rfl
theorem dX12_read_27 : decode cX12_read 27 = .ok (.getfield 272, 3) := xdc ddX12_read_0 17 rfl
theorem dX12_read_30 : decode cX12_read 30 = .ok (.ifCond .ne 7, 3) := xdc ddX12_read_0 18 rfl
theorem dX12_read_33 : decode cX12_read 33 = .ok (.iconst 5, 1) := xdc ddX12_read_0 19 rfl
theorem dX12_read_34 : decode cX12_read 34 = .ok (.goto 7, 3) := xdc ddX12_read_0 20 rfl
theorem dX12_read_37 : decode cX12_read 37 = .ok (.aload_n 0, 1) := xdc ddX12_read_0 21 rfl
theorem dX12_read_38 : decode cX12_read 38 = .ok (.getfield 272, 3) := xdc ddX12_read_0 22 rfl
theorem dX12_read_41 : decode cX12_read 41 = .ok (.putfield 272, 3) := xdc ddX12_read_0 23 rfl
theorem dX12_read_44 : decode cX12_read 44 = .ok (.iconst 0, 1) := xdc ddX12_read_0 24 rfl
theorem dX12_read_45 : decode cX12_read 45 = .ok (.ireturn, 1) := xdc ddX12_read_0 25 rfl
theorem dX12_read_46 : decode cX12_read 46 = .ok (.iconst 0, 1) := xdc ddX12_read_0 26 rfl
theorem dX12_read_47 : decode cX12_read 47 = .ok (.istore 5, 2) := xdc ddX12_read_0 27 rfl
theorem dX12_read_49 : decode cX12_read 49 = .ok (.iload_n 2, 1) := xdc ddX12_read_0 28 rfl
theorem dX12_read_50 : decode cX12_read 50 = .ok (.iconst 1, 1) := xdc ddX12_read_0 29 rfl
theorem dX12_read_51 : decode cX12_read 51 = .ok (.isub, 1) := xdc ddX12_read_0 30 rfl
theorem dX12_read_52 : decode cX12_read 52 = .ok (.istore 6, 2) := xdc ddX12_read_0 31 rfl
theorem dX12_read_54 : decode cX12_read 54 = .ok (.iload 6, 2) := xdc ddX12_read_0 32 rfl
theorem dX12_read_56 : decode cX12_read 56 = .ok (.ifCond .lt 26, 3) := xdc ddX12_read_0 33 rfl
theorem dX12_read_59 : decode cX12_read 59 = .ok (.iload 5, 2) := xdc ddX12_read_0 34 rfl
theorem dX12_read_61 : decode cX12_read 61 = .ok (.bipush 8, 2) := xdc ddX12_read_0 35 rfl
theorem dX12_read_63 : decode cX12_read 63 = .ok (.ishl, 1) := xdc ddX12_read_0 36 rfl
theorem dX12_read_64 : decode cX12_read 64 = .ok (.aload_n 0, 1) := xdc ddX12_read_0 37 rfl
theorem dX12_read_65 : decode cX12_read 65 = .ok (.lload_n 3, 1) := xdc ddX12_read_0 38 rfl
theorem dX12_read_66 : decode cX12_read 66 = .ok (.iload 6, 2) := xdc ddX12_read_0 39 rfl
theorem ddX12_read_1 : xdec cX12_read [(68, (.i2l, 1)), (69, (.ladd, 1)), (70, (.invokevirtual 275, 3)), (73, (.ior, 1)), (74, (.istore 5, 2)), (76, (.iinc 6 (-1), 3)), (79, (.goto (-25), 3)), (82, (.iload 5, 2)), (84, (.ireturn, 1))] = true := by decide +kernel
theorem dX12_read_68 : decode cX12_read 68 = .ok (.i2l, 1) := xdc ddX12_read_1 0 rfl
theorem dX12_read_69 : decode cX12_read 69 = .ok (.ladd, 1) := xdc ddX12_read_1 1 rfl
theorem dX12_read_70 : decode cX12_read 70 = .ok (.invokevirtual 275, 3) := xdc ddX12_read_1 2 rfl
theorem dX12_read_73 : decode cX12_read 73 = .ok (.ior, 1) := xdc ddX12_read_1 3 rfl
theorem dX12_read_74 : decode cX12_read 74 = .ok (.istore 5, 2) := xdc ddX12_read_1 4 rfl
theorem dX12_read_76 : decode cX12_read 76 = .ok (.iinc 6 (-1), 3) := xdc ddX12_read_1 5 rfl
theorem dX12_read_79 : decode cX12_read 79 = .ok (.goto (-25), 3) := xdc ddX12_read_1 6 rfl
theorem dX12_read_82 : decode cX12_read 82 = .ok (.iload 5, 2) := xdc ddX12_read_1 7 rfl
theorem dX12_read_84 : decode cX12_read 84 = .ok (.ireturn, 1) := xdc ddX12_read_1 8 rfl
abbrev cX12_write : ByteArray := prog_14_method_46_code
theorem ddX12_write_0 : xdec cX12_write [(0, (.iload_n 1, 1)), (1, (.i2l, 1)), (2, (.ldc2_w 186, 3)), (5, (.land, 1)), (6, (.lstore 4, 2)), (8, (.aload_n 0, 1)), (9, (.getfield 272, 3)), (12, (.ifCond .eq 4, 3)), (15, (.return_, 1)), (16, (.aload_n 0, 1)), (17, (.lload 4, 2)), (19, (.iload_n 3, 1)), (20, (.invokevirtual 265, 3)), (23, (.ifCond .ne 35, 3)), (26, (.aload_n 0, 1)), (27, (.lload 4, 2)), (29, (.ldc2_w 279, 3)), (32, (.lcmp, 1)), (33, (.ifCond .lt 19, 3)), (36, (.lload 4, 2)), (38, (.iload_n 3, 1)), (39, (.i2l, 1)), (40, (.ladd, 1)), (41, (.ldc2_w 281, 3)), (44, (.lcmp, 1)), (45, (.ifCond .gt 7, 3)), (48, (.iconst 5, 1)), (49, (.goto 5, 3)), (52, (.bipush 6, 2)), (54, (.putfield 272, 3)), (57, (.return_, 1)), (58, (.iconst 0, 1)), (59, (.istore 6, 2)), (61, (.iload 6, 2)), (63, (.iload_n 3, 1)), (64, (.if_icmp .ge 34, 3)), (67, (.aload_n 0, 1)), (68, (.getfield 14, 3)), (71, (.lload 4, 2)), (73, (.l2i, 1))] = true := by decide +kernel
theorem dX12_write_0 : decode cX12_write 0 = .ok (.iload_n 1, 1) := xdc ddX12_write_0 0 rfl
theorem dX12_write_1 : decode cX12_write 1 = .ok (.i2l, 1) := xdc ddX12_write_0 1 rfl
theorem dX12_write_2 : decode cX12_write 2 = .ok (.ldc2_w 186, 3) := xdc ddX12_write_0 2 rfl
theorem dX12_write_5 : decode cX12_write 5 = .ok (.land, 1) := xdc ddX12_write_0 3 rfl
theorem dX12_write_6 : decode cX12_write 6 = .ok (.lstore 4, 2) := xdc ddX12_write_0 4 rfl
theorem dX12_write_8 : decode cX12_write 8 = .ok (.aload_n 0, 1) := xdc ddX12_write_0 5 rfl
theorem dX12_write_9 : decode cX12_write 9 = .ok (.getfield 272, 3) := xdc ddX12_write_0 6 rfl
theorem dX12_write_12 : decode cX12_write 12 = .ok (.ifCond .eq 4, 3) := xdc ddX12_write_0 7 rfl
theorem dX12_write_15 : decode cX12_write 15 = .ok (.return_, 1) := xdc ddX12_write_0 8 rfl
theorem dX12_write_16 : decode cX12_write 16 = .ok (.aload_n 0, 1) := xdc ddX12_write_0 9 rfl
theorem dX12_write_17 : decode cX12_write 17 = .ok (.lload 4, 2) := xdc ddX12_write_0 10 rfl
theorem dX12_write_19 : decode cX12_write 19 = .ok (.iload_n 3, 1) := xdc ddX12_write_0 11 rfl
theorem dX12_write_20 : decode cX12_write 20 = .ok (.invokevirtual 265, 3) := xdc ddX12_write_0 12 rfl
theorem dX12_write_23 : decode cX12_write 23 = .ok (.ifCond .ne 35, 3) := xdc ddX12_write_0 13 rfl
theorem dX12_write_26 : decode cX12_write 26 = .ok (.aload_n 0, 1) := xdc ddX12_write_0 14 rfl
theorem dX12_write_27 : decode cX12_write 27 = .ok (.lload 4, 2) := xdc ddX12_write_0 15 rfl
theorem dX12_write_29 : decode cX12_write 29 = .ok (.ldc2_w 279, 3) := xdc ddX12_write_0 16 rfl
theorem dX12_write_32 : decode cX12_write 32 = .ok (.lcmp, 1) := xdc ddX12_write_0 17 rfl
theorem dX12_write_33 : decode cX12_write 33 = .ok (.ifCond .lt 19, 3) := xdc ddX12_write_0 18 rfl
theorem dX12_write_36 : decode cX12_write 36 = .ok (.lload 4, 2) := xdc ddX12_write_0 19 rfl
theorem dX12_write_38 : decode cX12_write 38 = .ok (.iload_n 3, 1) := xdc ddX12_write_0 20 rfl
theorem dX12_write_39 : decode cX12_write 39 = .ok (.i2l, 1) := xdc ddX12_write_0 21 rfl
theorem dX12_write_40 : decode cX12_write 40 = .ok (.ladd, 1) := xdc ddX12_write_0 22 rfl
theorem dX12_write_41 : decode cX12_write 41 = .ok (.ldc2_w 281, 3) := xdc ddX12_write_0 23 rfl
theorem dX12_write_44 : decode cX12_write 44 = .ok (.lcmp, 1) := xdc ddX12_write_0 24 rfl
theorem dX12_write_45 : decode cX12_write 45 = .ok (.ifCond .gt 7, 3) := xdc ddX12_write_0 25 rfl
theorem dX12_write_48 : decode cX12_write 48 = .ok (.iconst 5, 1) := xdc ddX12_write_0 26 rfl
theorem dX12_write_49 : decode cX12_write 49 = .ok (.goto 5, 3) := xdc ddX12_write_0 27 rfl
theorem dX12_write_52 : decode cX12_write 52 = .ok (.bipush 6, 2) := xdc ddX12_write_0 28 rfl
theorem dX12_write_54 : decode cX12_write 54 = .ok (.putfield 272, 3) := xdc ddX12_write_0 29 rfl
theorem dX12_write_57 : decode cX12_write 57 = .ok (.return_, 1) := xdc ddX12_write_0 30 rfl
theorem dX12_write_58 : decode cX12_write 58 = .ok (.iconst 0, 1) := xdc ddX12_write_0 31 rfl
theorem dX12_write_59 : decode cX12_write 59 = .ok (.istore 6, 2) := xdc ddX12_write_0 32 rfl
theorem dX12_write_61 : decode cX12_write 61 = .ok (.iload 6, 2) := xdc ddX12_write_0 33 rfl
theorem dX12_write_63 : decode cX12_write 63 = .ok (.iload_n 3, 1) := xdc ddX12_write_0 34 rfl
theorem dX12_write_64 : decode cX12_write 64 = .ok (.if_icmp .ge 34, 3) := xdc ddX12_write_0 35 rfl
theorem dX12_write_67 : decode cX12_write 67 = .ok (.aload_n 0, 1) := xdc ddX12_write_0 36 rfl
theorem dX12_write_68 : decode cX12_write 68 = .ok (.getfield 14, 3) := xdc ddX12_write_0 37 rfl
theorem dX12_write_71 : decode cX12_write 71 = .ok (.lload 4, 2) := xdc ddX12_write_0 38 rfl
theorem dX12_write_73 : decode cX12_write 73 = .ok (.l2i, 1) := xdc ddX12_write_0 39 rfl
theorem ddX12_write_1 : xdec cX12_write [(74, (.ldc 13, 2)), (76, (.isub, 1)), (77, (.iload 6, 2)), (79, (.iadd, 1)), (80, (.iload_n 2, 1)), (81, (.bipush 8, 2)), (83, (.iload 6, 2)), (85, (.imul, 1)), (86, (.ishr, 1)), (87, (.sipush 255, 3)), (90, (.iand, 1)), (91, (.iastore, 1)), (92, (.iinc 6 1, 3)), (95, (.goto (-34), 3)), (98, (.return_, 1))] = true := by decide +kernel
theorem dX12_write_74 : decode cX12_write 74 = .ok (.ldc 13, 2) := xdc ddX12_write_1 0 rfl
theorem dX12_write_76 : decode cX12_write 76 = .ok (.isub, 1) := xdc ddX12_write_1 1 rfl
theorem dX12_write_77 : decode cX12_write 77 = .ok (.iload 6, 2) := xdc ddX12_write_1 2 rfl
theorem dX12_write_79 : decode cX12_write 79 = .ok (.iadd, 1) := xdc ddX12_write_1 3 rfl
theorem dX12_write_80 : decode cX12_write 80 = .ok (.iload_n 2, 1) := xdc ddX12_write_1 4 rfl
theorem dX12_write_81 : decode cX12_write 81 = .ok (.bipush 8, 2) := xdc ddX12_write_1 5 rfl
theorem dX12_write_83 : decode cX12_write 83 = .ok (.iload 6, 2) := xdc ddX12_write_1 6 rfl
theorem dX12_write_85 : decode cX12_write 85 = .ok (.imul, 1) := xdc ddX12_write_1 7 rfl
theorem dX12_write_86 : decode cX12_write 86 = .ok (.ishr, 1) := xdc ddX12_write_1 8 rfl
theorem dX12_write_87 : decode cX12_write 87 = .ok (.sipush 255, 3) := xdc ddX12_write_1 9 rfl
theorem dX12_write_90 : decode cX12_write 90 = .ok (.iand, 1) := xdc ddX12_write_1 10 rfl
theorem dX12_write_91 : decode cX12_write 91 = .ok (.iastore, 1) := xdc ddX12_write_1 11 rfl
theorem dX12_write_92 : decode cX12_write 92 = .ok (.iinc 6 1, 3) := xdc ddX12_write_1 12 rfl
theorem dX12_write_95 : decode cX12_write 95 = .ok (.goto (-34), 3) := xdc ddX12_write_1 13 rfl
theorem dX12_write_98 : decode cX12_write 98 = .ok (.return_, 1) := xdc ddX12_write_1 14 rfl
abbrev cX12_part : ByteArray := prog_14_method_47_code
theorem ddX12_part_0 : xdec cX12_part [(0, (.iload_n 2, 1)), (1, (.iconst 4, 1)), (2, (.if_icmp .ne 12, 3)), (5, (.aload_n 0, 1)), (6, (.getfield 44, 3)), (9, (.iload_n 1, 1)), (10, (.iaload, 1)), (11, (.goto 53, 3)), (14, (.iload_n 2, 1)), (15, (.iconst 2, 1)), (16, (.if_icmp .ne 15, 3)), (19, (.aload_n 0, 1)), (20, (.getfield 44, 3)), (23, (.iload_n 1, 1)), (24, (.iaload, 1)), (25, (.ldc 158, 2)), (27, (.iand, 1)), (28, (.goto 36, 3)), (31, (.iload_n 1, 1)), (32, (.iconst 4, 1)), (33, (.if_icmp .ge 16, 3)), (36, (.aload_n 0, 1)), (37, (.getfield 44, 3)), (40, (.iload_n 1, 1)), (41, (.iaload, 1)), (42, (.sipush 255, 3)), (45, (.iand, 1)), (46, (.goto 18, 3)), (49, (.aload_n 0, 1)), (50, (.getfield 44, 3)), (53, (.iload_n 1, 1)), (54, (.iconst 4, 1)), (55, (.isub, 1)), (56, (.iaload, 1)), (57, (.bipush 8, 2)), (59, (.ishr, 1)), (60, (.sipush 255, 3)), (63, (.iand, 1)), (64, (.ireturn, 1))] = true := by decide +kernel
theorem dX12_part_0 : decode cX12_part 0 = .ok (.iload_n 2, 1) := xdc ddX12_part_0 0 rfl
theorem dX12_part_1 : decode cX12_part 1 = .ok (.iconst 4, 1) := xdc ddX12_part_0 1 rfl
theorem dX12_part_2 : decode cX12_part 2 = .ok (.if_icmp .ne 12, 3) := xdc ddX12_part_0 2 rfl
theorem dX12_part_5 : decode cX12_part 5 = .ok (.aload_n 0, 1) := xdc ddX12_part_0 3 rfl
theorem dX12_part_6 : decode cX12_part 6 = .ok (.getfield 44, 3) := xdc ddX12_part_0 4 rfl
theorem dX12_part_9 : decode cX12_part 9 = .ok (.iload_n 1, 1) := xdc ddX12_part_0 5 rfl
theorem dX12_part_10 : decode cX12_part 10 = .ok (.iaload, 1) := xdc ddX12_part_0 6 rfl
theorem dX12_part_11 : decode cX12_part 11 = .ok (.goto 53, 3) := xdc ddX12_part_0 7 rfl
theorem dX12_part_14 : decode cX12_part 14 = .ok (.iload_n 2, 1) := xdc ddX12_part_0 8 rfl
theorem dX12_part_15 : decode cX12_part 15 = .ok (.iconst 2, 1) := xdc ddX12_part_0 9 rfl
theorem dX12_part_16 : decode cX12_part 16 = .ok (.if_icmp .ne 15, 3) := xdc ddX12_part_0 10 rfl
theorem dX12_part_19 : decode cX12_part 19 = .ok (.aload_n 0, 1) := xdc ddX12_part_0 11 rfl
theorem dX12_part_20 : decode cX12_part 20 = .ok (.getfield 44, 3) := xdc ddX12_part_0 12 rfl
theorem dX12_part_23 : decode cX12_part 23 = .ok (.iload_n 1, 1) := xdc ddX12_part_0 13 rfl
theorem dX12_part_24 : decode cX12_part 24 = .ok (.iaload, 1) := xdc ddX12_part_0 14 rfl
theorem dX12_part_25 : decode cX12_part 25 = .ok (.ldc 158, 2) := xdc ddX12_part_0 15 rfl
theorem dX12_part_27 : decode cX12_part 27 = .ok (.iand, 1) := xdc ddX12_part_0 16 rfl
theorem dX12_part_28 : decode cX12_part 28 = .ok (.goto 36, 3) := xdc ddX12_part_0 17 rfl
theorem dX12_part_31 : decode cX12_part 31 = .ok (.iload_n 1, 1) := xdc ddX12_part_0 18 rfl
theorem dX12_part_32 : decode cX12_part 32 = .ok (.iconst 4, 1) := xdc ddX12_part_0 19 rfl
theorem dX12_part_33 : decode cX12_part 33 = .ok (.if_icmp .ge 16, 3) := xdc ddX12_part_0 20 rfl
theorem dX12_part_36 : decode cX12_part 36 = .ok (.aload_n 0, 1) := xdc ddX12_part_0 21 rfl
theorem dX12_part_37 : decode cX12_part 37 = .ok (.getfield 44, 3) := xdc ddX12_part_0 22 rfl
theorem dX12_part_40 : decode cX12_part 40 = .ok (.iload_n 1, 1) := xdc ddX12_part_0 23 rfl
theorem dX12_part_41 : decode cX12_part 41 = .ok (.iaload, 1) := xdc ddX12_part_0 24 rfl
theorem dX12_part_42 : decode cX12_part 42 = .ok (.sipush 255, 3) := xdc ddX12_part_0 25 rfl
theorem dX12_part_45 : decode cX12_part 45 = .ok (.iand, 1) := xdc ddX12_part_0 26 rfl
theorem dX12_part_46 : decode cX12_part 46 = .ok (.goto 18, 3) := xdc ddX12_part_0 27 rfl
theorem dX12_part_49 : decode cX12_part 49 = .ok (.aload_n 0, 1) := xdc ddX12_part_0 28 rfl
theorem dX12_part_50 : decode cX12_part 50 = .ok (.getfield 44, 3) := xdc ddX12_part_0 29 rfl
theorem dX12_part_53 : decode cX12_part 53 = .ok (.iload_n 1, 1) := xdc ddX12_part_0 30 rfl
theorem dX12_part_54 : decode cX12_part 54 = .ok (.iconst 4, 1) := xdc ddX12_part_0 31 rfl
theorem dX12_part_55 : decode cX12_part 55 = .ok (.isub, 1) := xdc ddX12_part_0 32 rfl
theorem dX12_part_56 : decode cX12_part 56 = .ok (.iaload, 1) := xdc ddX12_part_0 33 rfl
theorem dX12_part_57 : decode cX12_part 57 = .ok (.bipush 8, 2) := xdc ddX12_part_0 34 rfl
theorem dX12_part_59 : decode cX12_part 59 = .ok (.ishr, 1) := xdc ddX12_part_0 35 rfl
theorem dX12_part_60 : decode cX12_part 60 = .ok (.sipush 255, 3) := xdc ddX12_part_0 36 rfl
theorem dX12_part_63 : decode cX12_part 63 = .ok (.iand, 1) := xdc ddX12_part_0 37 rfl
theorem dX12_part_64 : decode cX12_part 64 = .ok (.ireturn, 1) := xdc ddX12_part_0 38 rfl
abbrev cX12_setRegister : ByteArray := prog_14_method_48_code
theorem ddX12_setRegister_0 : xdec cX12_setRegister [(0, (.iload_n 2, 1)), (1, (.iconst 4, 1)), (2, (.if_icmp .ne 13, 3)), (5, (.aload_n 0, 1)), (6, (.getfield 44, 3)), (9, (.iload_n 1, 1)), (10, (.iload_n 3, 1)), (11, (.iastore, 1)), (12, (.goto 91, 3)), (15, (.iload_n 2, 1)), (16, (.iconst 2, 1)), (17, (.if_icmp .ne 27, 3)), (20, (.aload_n 0, 1)), (21, (.getfield 44, 3)), (24, (.iload_n 1, 1)), (25, (.aload_n 0, 1)), (26, (.getfield 44, 3)), (29, (.iload_n 1, 1)), (30, (.iaload, 1)), (31, (.ldc_w 283, 3)), (34, (.iand, 1)), (35, (.iload_n 3, 1)), (36, (.ldc 158, 2)), (38, (.iand, 1)), (39, (.ior, 1)), (40, (.iastore, 1)), (41, (.goto 62, 3)), (44, (.iload_n 1, 1)), (45, (.iconst 4, 1)), (46, (.if_icmp .ge 28, 3)), (49, (.aload_n 0, 1)), (50, (.getfield 44, 3)), (53, (.iload_n 1, 1)), (54, (.aload_n 0, 1)), (55, (.getfield 44, 3)), (58, (.iload_n 1, 1)), (59, (.iaload, 1)), (60, (.sipush (-256), 3)), (63, (.iand, 1)), (64, (.iload_n 3, 1))] = true := by decide +kernel
theorem dX12_setRegister_0 : decode cX12_setRegister 0 = .ok (.iload_n 2, 1) := xdc ddX12_setRegister_0 0 rfl
theorem dX12_setRegister_1 : decode cX12_setRegister 1 = .ok (.iconst 4, 1) := xdc ddX12_setRegister_0 1 rfl
theorem dX12_setRegister_2 : decode cX12_setRegister 2 = .ok (.if_icmp .ne 13, 3) := xdc ddX12_setRegister_0 2 rfl
theorem dX12_setRegister_5 : decode cX12_setRegister 5 = .ok (.aload_n 0, 1) := xdc ddX12_setRegister_0 3 rfl
theorem dX12_setRegister_6 : decode cX12_setRegister 6 = .ok (.getfield 44, 3) := xdc ddX12_setRegister_0 4 rfl
theorem dX12_setRegister_9 : decode cX12_setRegister 9 = .ok (.iload_n 1, 1) := xdc ddX12_setRegister_0 5 rfl
theorem dX12_setRegister_10 : decode cX12_setRegister 10 = .ok (.iload_n 3, 1) := xdc ddX12_setRegister_0 6 rfl
theorem dX12_setRegister_11 : decode cX12_setRegister 11 = .ok (.iastore, 1) := xdc ddX12_setRegister_0 7 rfl
theorem dX12_setRegister_12 : decode cX12_setRegister 12 = .ok (.goto 91, 3) := xdc ddX12_setRegister_0 8 rfl
theorem dX12_setRegister_15 : decode cX12_setRegister 15 = .ok (.iload_n 2, 1) := xdc ddX12_setRegister_0 9 rfl
theorem dX12_setRegister_16 : decode cX12_setRegister 16 = .ok (.iconst 2, 1) := xdc ddX12_setRegister_0 10 rfl
theorem dX12_setRegister_17 : decode cX12_setRegister 17 = .ok (.if_icmp .ne 27, 3) := xdc ddX12_setRegister_0 11 rfl
theorem dX12_setRegister_20 : decode cX12_setRegister 20 = .ok (.aload_n 0, 1) := xdc ddX12_setRegister_0 12 rfl
theorem dX12_setRegister_21 : decode cX12_setRegister 21 = .ok (.getfield 44, 3) := xdc ddX12_setRegister_0 13 rfl
theorem dX12_setRegister_24 : decode cX12_setRegister 24 = .ok (.iload_n 1, 1) := xdc ddX12_setRegister_0 14 rfl
theorem dX12_setRegister_25 : decode cX12_setRegister 25 = .ok (.aload_n 0, 1) := xdc ddX12_setRegister_0 15 rfl
theorem dX12_setRegister_26 : decode cX12_setRegister 26 = .ok (.getfield 44, 3) := xdc ddX12_setRegister_0 16 rfl
theorem dX12_setRegister_29 : decode cX12_setRegister 29 = .ok (.iload_n 1, 1) := xdc ddX12_setRegister_0 17 rfl
theorem dX12_setRegister_30 : decode cX12_setRegister 30 = .ok (.iaload, 1) := xdc ddX12_setRegister_0 18 rfl
theorem dX12_setRegister_31 : decode cX12_setRegister 31 = .ok (.ldc_w 283, 3) := xdc ddX12_setRegister_0 19 rfl
theorem dX12_setRegister_34 : decode cX12_setRegister 34 = .ok (.iand, 1) := xdc ddX12_setRegister_0 20 rfl
theorem dX12_setRegister_35 : decode cX12_setRegister 35 = .ok (.iload_n 3, 1) := xdc ddX12_setRegister_0 21 rfl
theorem dX12_setRegister_36 : decode cX12_setRegister 36 = .ok (.ldc 158, 2) := xdc ddX12_setRegister_0 22 rfl
theorem dX12_setRegister_38 : decode cX12_setRegister 38 = .ok (.iand, 1) := xdc ddX12_setRegister_0 23 rfl
theorem dX12_setRegister_39 : decode cX12_setRegister 39 = .ok (.ior, 1) := xdc ddX12_setRegister_0 24 rfl
theorem dX12_setRegister_40 : decode cX12_setRegister 40 = .ok (.iastore, 1) := xdc ddX12_setRegister_0 25 rfl
theorem dX12_setRegister_41 : decode cX12_setRegister 41 = .ok (.goto 62, 3) := xdc ddX12_setRegister_0 26 rfl
theorem dX12_setRegister_44 : decode cX12_setRegister 44 = .ok (.iload_n 1, 1) := xdc ddX12_setRegister_0 27 rfl
theorem dX12_setRegister_45 : decode cX12_setRegister 45 = .ok (.iconst 4, 1) := xdc ddX12_setRegister_0 28 rfl
theorem dX12_setRegister_46 : decode cX12_setRegister 46 = .ok (.if_icmp .ge 28, 3) := xdc ddX12_setRegister_0 29 rfl
theorem dX12_setRegister_49 : decode cX12_setRegister 49 = .ok (.aload_n 0, 1) := xdc ddX12_setRegister_0 30 rfl
theorem dX12_setRegister_50 : decode cX12_setRegister 50 = .ok (.getfield 44, 3) := xdc ddX12_setRegister_0 31 rfl
theorem dX12_setRegister_53 : decode cX12_setRegister 53 = .ok (.iload_n 1, 1) := xdc ddX12_setRegister_0 32 rfl
theorem dX12_setRegister_54 : decode cX12_setRegister 54 = .ok (.aload_n 0, 1) := xdc ddX12_setRegister_0 33 rfl
theorem dX12_setRegister_55 : decode cX12_setRegister 55 = .ok (.getfield 44, 3) := xdc ddX12_setRegister_0 34 rfl
theorem dX12_setRegister_58 : decode cX12_setRegister 58 = .ok (.iload_n 1, 1) := xdc ddX12_setRegister_0 35 rfl
theorem dX12_setRegister_59 : decode cX12_setRegister 59 = .ok (.iaload, 1) := xdc ddX12_setRegister_0 36 rfl
theorem dX12_setRegister_60 : decode cX12_setRegister 60 = .ok (.sipush (-256), 3) := xdc ddX12_setRegister_0 37 rfl
theorem dX12_setRegister_63 : decode cX12_setRegister 63 = .ok (.iand, 1) := xdc ddX12_setRegister_0 38 rfl
theorem dX12_setRegister_64 : decode cX12_setRegister 64 = .ok (.iload_n 3, 1) := xdc ddX12_setRegister_0 39 rfl
theorem ddX12_setRegister_1 : xdec cX12_setRegister [(65, (.sipush 255, 3)), (68, (.iand, 1)), (69, (.ior, 1)), (70, (.iastore, 1)), (71, (.goto 32, 3)), (74, (.aload_n 0, 1)), (75, (.getfield 44, 3)), (78, (.iload_n 1, 1)), (79, (.iconst 4, 1)), (80, (.isub, 1)), (81, (.aload_n 0, 1)), (82, (.getfield 44, 3)), (85, (.iload_n 1, 1)), (86, (.iconst 4, 1)), (87, (.isub, 1)), (88, (.iaload, 1)), (89, (.ldc_w 284, 3)), (92, (.iand, 1)), (93, (.iload_n 3, 1)), (94, (.sipush 255, 3)), (97, (.iand, 1)), (98, (.bipush 8, 2)), (100, (.ishl, 1)), (101, (.ior, 1)), (102, (.iastore, 1)), (103, (.return_, 1))] = true := by decide +kernel
theorem dX12_setRegister_65 : decode cX12_setRegister 65 = .ok (.sipush 255, 3) := xdc ddX12_setRegister_1 0 rfl
theorem dX12_setRegister_68 : decode cX12_setRegister 68 = .ok (.iand, 1) := xdc ddX12_setRegister_1 1 rfl
theorem dX12_setRegister_69 : decode cX12_setRegister 69 = .ok (.ior, 1) := xdc ddX12_setRegister_1 2 rfl
theorem dX12_setRegister_70 : decode cX12_setRegister 70 = .ok (.iastore, 1) := xdc ddX12_setRegister_1 3 rfl
theorem dX12_setRegister_71 : decode cX12_setRegister 71 = .ok (.goto 32, 3) := xdc ddX12_setRegister_1 4 rfl
theorem dX12_setRegister_74 : decode cX12_setRegister 74 = .ok (.aload_n 0, 1) := xdc ddX12_setRegister_1 5 rfl
theorem dX12_setRegister_75 : decode cX12_setRegister 75 = .ok (.getfield 44, 3) := xdc ddX12_setRegister_1 6 rfl
theorem dX12_setRegister_78 : decode cX12_setRegister 78 = .ok (.iload_n 1, 1) := xdc ddX12_setRegister_1 7 rfl
theorem dX12_setRegister_79 : decode cX12_setRegister 79 = .ok (.iconst 4, 1) := xdc ddX12_setRegister_1 8 rfl
theorem dX12_setRegister_80 : decode cX12_setRegister 80 = .ok (.isub, 1) := xdc ddX12_setRegister_1 9 rfl
theorem dX12_setRegister_81 : decode cX12_setRegister 81 = .ok (.aload_n 0, 1) := xdc ddX12_setRegister_1 10 rfl
theorem dX12_setRegister_82 : decode cX12_setRegister 82 = .ok (.getfield 44, 3) := xdc ddX12_setRegister_1 11 rfl
theorem dX12_setRegister_85 : decode cX12_setRegister 85 = .ok (.iload_n 1, 1) := xdc ddX12_setRegister_1 12 rfl
theorem dX12_setRegister_86 : decode cX12_setRegister 86 = .ok (.iconst 4, 1) := xdc ddX12_setRegister_1 13 rfl
theorem dX12_setRegister_87 : decode cX12_setRegister 87 = .ok (.isub, 1) := xdc ddX12_setRegister_1 14 rfl
theorem dX12_setRegister_88 : decode cX12_setRegister 88 = .ok (.iaload, 1) := xdc ddX12_setRegister_1 15 rfl
theorem dX12_setRegister_89 : decode cX12_setRegister 89 = .ok (.ldc_w 284, 3) := xdc ddX12_setRegister_1 16 rfl
theorem dX12_setRegister_92 : decode cX12_setRegister 92 = .ok (.iand, 1) := xdc ddX12_setRegister_1 17 rfl
theorem dX12_setRegister_93 : decode cX12_setRegister 93 = .ok (.iload_n 3, 1) := xdc ddX12_setRegister_1 18 rfl
theorem dX12_setRegister_94 : decode cX12_setRegister 94 = .ok (.sipush 255, 3) := xdc ddX12_setRegister_1 19 rfl
theorem dX12_setRegister_97 : decode cX12_setRegister 97 = .ok (.iand, 1) := xdc ddX12_setRegister_1 20 rfl
theorem dX12_setRegister_98 : decode cX12_setRegister 98 = .ok (.bipush 8, 2) := xdc ddX12_setRegister_1 21 rfl
theorem dX12_setRegister_100 : decode cX12_setRegister 100 = .ok (.ishl, 1) := xdc ddX12_setRegister_1 22 rfl
theorem dX12_setRegister_101 : decode cX12_setRegister 101 = .ok (.ior, 1) := xdc ddX12_setRegister_1 23 rfl
theorem dX12_setRegister_102 : decode cX12_setRegister 102 = .ok (.iastore, 1) := xdc ddX12_setRegister_1 24 rfl
theorem dX12_setRegister_103 : decode cX12_setRegister 103 = .ok (.return_, 1) := xdc ddX12_setRegister_1 25 rfl
abbrev cX12_address : ByteArray := prog_14_method_49_code
theorem ddX12_address_0 : xdec cX12_address [(0, (.aload_n 0, 1)), (1, (.getfield 91, 3)), (4, (.iconst (-1), 1)), (5, (.if_icmp .ne 7, 3)), (8, (.iconst 0, 1)), (9, (.goto 12, 3)), (12, (.aload_n 0, 1)), (13, (.getfield 44, 3)), (16, (.aload_n 0, 1)), (17, (.getfield 91, 3)), (20, (.iaload, 1)), (21, (.aload_n 0, 1)), (22, (.getfield 94, 3)), (25, (.iconst (-1), 1)), (26, (.if_icmp .ne 7, 3)), (29, (.iconst 0, 1)), (30, (.goto 17, 3)), (33, (.aload_n 0, 1)), (34, (.getfield 44, 3)), (37, (.aload_n 0, 1)), (38, (.getfield 94, 3)), (41, (.iaload, 1)), (42, (.aload_n 0, 1)), (43, (.getfield 97, 3)), (46, (.imul, 1)), (47, (.iadd, 1)), (48, (.aload_n 0, 1)), (49, (.getfield 100, 3)), (52, (.iadd, 1)), (53, (.ireturn, 1))] = true := by decide +kernel
theorem dX12_address_0 : decode cX12_address 0 = .ok (.aload_n 0, 1) := xdc ddX12_address_0 0 rfl
theorem dX12_address_1 : decode cX12_address 1 = .ok (.getfield 91, 3) := xdc ddX12_address_0 1 rfl
theorem dX12_address_4 : decode cX12_address 4 = .ok (.iconst (-1), 1) := xdc ddX12_address_0 2 rfl
theorem dX12_address_5 : decode cX12_address 5 = .ok (.if_icmp .ne 7, 3) := xdc ddX12_address_0 3 rfl
theorem dX12_address_8 : decode cX12_address 8 = .ok (.iconst 0, 1) := xdc ddX12_address_0 4 rfl
theorem dX12_address_9 : decode cX12_address 9 = .ok (.goto 12, 3) := xdc ddX12_address_0 5 rfl
theorem dX12_address_12 : decode cX12_address 12 = .ok (.aload_n 0, 1) := xdc ddX12_address_0 6 rfl
theorem dX12_address_13 : decode cX12_address 13 = .ok (.getfield 44, 3) := xdc ddX12_address_0 7 rfl
theorem dX12_address_16 : decode cX12_address 16 = .ok (.aload_n 0, 1) := xdc ddX12_address_0 8 rfl
theorem dX12_address_17 : decode cX12_address 17 = .ok (.getfield 91, 3) := xdc ddX12_address_0 9 rfl
theorem dX12_address_20 : decode cX12_address 20 = .ok (.iaload, 1) := xdc ddX12_address_0 10 rfl
theorem dX12_address_21 : decode cX12_address 21 = .ok (.aload_n 0, 1) := xdc ddX12_address_0 11 rfl
theorem dX12_address_22 : decode cX12_address 22 = .ok (.getfield 94, 3) := xdc ddX12_address_0 12 rfl
theorem dX12_address_25 : decode cX12_address 25 = .ok (.iconst (-1), 1) := xdc ddX12_address_0 13 rfl
theorem dX12_address_26 : decode cX12_address 26 = .ok (.if_icmp .ne 7, 3) := xdc ddX12_address_0 14 rfl
theorem dX12_address_29 : decode cX12_address 29 = .ok (.iconst 0, 1) := xdc ddX12_address_0 15 rfl
theorem dX12_address_30 : decode cX12_address 30 = .ok (.goto 17, 3) := xdc ddX12_address_0 16 rfl
theorem dX12_address_33 : decode cX12_address 33 = .ok (.aload_n 0, 1) := xdc ddX12_address_0 17 rfl
theorem dX12_address_34 : decode cX12_address 34 = .ok (.getfield 44, 3) := xdc ddX12_address_0 18 rfl
theorem dX12_address_37 : decode cX12_address 37 = .ok (.aload_n 0, 1) := xdc ddX12_address_0 19 rfl
theorem dX12_address_38 : decode cX12_address 38 = .ok (.getfield 94, 3) := xdc ddX12_address_0 20 rfl
theorem dX12_address_41 : decode cX12_address 41 = .ok (.iaload, 1) := xdc ddX12_address_0 21 rfl
theorem dX12_address_42 : decode cX12_address 42 = .ok (.aload_n 0, 1) := xdc ddX12_address_0 22 rfl
theorem dX12_address_43 : decode cX12_address 43 = .ok (.getfield 97, 3) := xdc ddX12_address_0 23 rfl
theorem dX12_address_46 : decode cX12_address 46 = .ok (.imul, 1) := xdc ddX12_address_0 24 rfl
theorem dX12_address_47 : decode cX12_address 47 = .ok (.iadd, 1) := xdc ddX12_address_0 25 rfl
theorem dX12_address_48 : decode cX12_address 48 = .ok (.aload_n 0, 1) := xdc ddX12_address_0 26 rfl
theorem dX12_address_49 : decode cX12_address 49 = .ok (.getfield 100, 3) := xdc ddX12_address_0 27 rfl
theorem dX12_address_52 : decode cX12_address 52 = .ok (.iadd, 1) := xdc ddX12_address_0 28 rfl
theorem dX12_address_53 : decode cX12_address 53 = .ok (.ireturn, 1) := xdc ddX12_address_0 29 rfl
abbrev cX12_getE : ByteArray := prog_14_method_50_code
theorem ddX12_getE_0 : xdec cX12_getE [(0, (.aload_n 0, 1)), (1, (.aload_n 0, 1)), (2, (.getfield 82, 3)), (5, (.iconst 3, 1)), (6, (.if_icmp .ne 7, 3)), (9, (.iconst 0, 1)), (10, (.goto 7, 3)), (13, (.aload_n 0, 1)), (14, (.invokevirtual 285, 3)), (17, (.putfield 288, 3)), (20, (.aload_n 0, 1)), (21, (.getfield 82, 3)), (24, (.iconst 3, 1)), (25, (.if_icmp .ne 18, 3)), (28, (.aload_n 0, 1)), (29, (.aload_n 0, 1)), (30, (.getfield 88, 3)), (33, (.aload_n 0, 1)), (34, (.getfield 79, 3)), (37, (.invokevirtual 291, 3)), (40, (.goto 15, 3)), (43, (.aload_n 0, 1)), (44, (.aload_n 0, 1)), (45, (.getfield 288, 3)), (48, (.aload_n 0, 1)), (49, (.getfield 79, 3)), (52, (.invokevirtual 294, 3)), (55, (.ireturn, 1))] = true := by decide +kernel
theorem dX12_getE_0 : decode cX12_getE 0 = .ok (.aload_n 0, 1) := xdc ddX12_getE_0 0 rfl
theorem dX12_getE_1 : decode cX12_getE 1 = .ok (.aload_n 0, 1) := xdc ddX12_getE_0 1 rfl
theorem dX12_getE_2 : decode cX12_getE 2 = .ok (.getfield 82, 3) := xdc ddX12_getE_0 2 rfl
theorem dX12_getE_5 : decode cX12_getE 5 = .ok (.iconst 3, 1) := xdc ddX12_getE_0 3 rfl
theorem dX12_getE_6 : decode cX12_getE 6 = .ok (.if_icmp .ne 7, 3) := xdc ddX12_getE_0 4 rfl
theorem dX12_getE_9 : decode cX12_getE 9 = .ok (.iconst 0, 1) := xdc ddX12_getE_0 5 rfl
theorem dX12_getE_10 : decode cX12_getE 10 = .ok (.goto 7, 3) := xdc ddX12_getE_0 6 rfl
theorem dX12_getE_13 : decode cX12_getE 13 = .ok (.aload_n 0, 1) := xdc ddX12_getE_0 7 rfl
theorem dX12_getE_14 : decode cX12_getE 14 = .ok (.invokevirtual 285, 3) := xdc ddX12_getE_0 8 rfl
theorem dX12_getE_17 : decode cX12_getE 17 = .ok (.putfield 288, 3) := xdc ddX12_getE_0 9 rfl
theorem dX12_getE_20 : decode cX12_getE 20 = .ok (.aload_n 0, 1) := xdc ddX12_getE_0 10 rfl
theorem dX12_getE_21 : decode cX12_getE 21 = .ok (.getfield 82, 3) := xdc ddX12_getE_0 11 rfl
theorem dX12_getE_24 : decode cX12_getE 24 = .ok (.iconst 3, 1) := xdc ddX12_getE_0 12 rfl
theorem dX12_getE_25 : decode cX12_getE 25 = .ok (.if_icmp .ne 18, 3) := xdc ddX12_getE_0 13 rfl
theorem dX12_getE_28 : decode cX12_getE 28 = .ok (.aload_n 0, 1) := xdc ddX12_getE_0 14 rfl
theorem dX12_getE_29 : decode cX12_getE 29 = .ok (.aload_n 0, 1) := xdc ddX12_getE_0 15 rfl
theorem dX12_getE_30 : decode cX12_getE 30 = .ok (.getfield 88, 3) := xdc ddX12_getE_0 16 rfl
theorem dX12_getE_33 : decode cX12_getE 33 = .ok (.aload_n 0, 1) := xdc ddX12_getE_0 17 rfl
theorem dX12_getE_34 : decode cX12_getE 34 = .ok (.getfield 79, 3) := xdc ddX12_getE_0 18 rfl
theorem dX12_getE_37 : decode cX12_getE 37 = .ok (.invokevirtual 291, 3) := xdc ddX12_getE_0 19 rfl
theorem dX12_getE_40 : decode cX12_getE 40 = .ok (.goto 15, 3) := xdc ddX12_getE_0 20 rfl
theorem dX12_getE_43 : decode cX12_getE 43 = .ok (.aload_n 0, 1) := xdc ddX12_getE_0 21 rfl
theorem dX12_getE_44 : decode cX12_getE 44 = .ok (.aload_n 0, 1) := xdc ddX12_getE_0 22 rfl
theorem dX12_getE_45 : decode cX12_getE 45 = .ok (.getfield 288, 3) := xdc ddX12_getE_0 23 rfl
theorem dX12_getE_48 : decode cX12_getE 48 = .ok (.aload_n 0, 1) := xdc ddX12_getE_0 24 rfl
theorem dX12_getE_49 : decode cX12_getE 49 = .ok (.getfield 79, 3) := xdc ddX12_getE_0 25 rfl
theorem dX12_getE_52 : decode cX12_getE 52 = .ok (.invokevirtual 294, 3) := xdc ddX12_getE_0 26 rfl
theorem dX12_getE_55 : decode cX12_getE 55 = .ok (.ireturn, 1) := xdc ddX12_getE_0 27 rfl
abbrev cX12_setE : ByteArray := prog_14_method_51_code
theorem ddX12_setE_0 : xdec cX12_setE [(0, (.aload_n 0, 1)), (1, (.getfield 82, 3)), (4, (.iconst 3, 1)), (5, (.if_icmp .ne 19, 3)), (8, (.aload_n 0, 1)), (9, (.aload_n 0, 1)), (10, (.getfield 88, 3)), (13, (.aload_n 0, 1)), (14, (.getfield 79, 3)), (17, (.iload_n 1, 1)), (18, (.invokevirtual 297, 3)), (21, (.goto 16, 3)), (24, (.aload_n 0, 1)), (25, (.aload_n 0, 1)), (26, (.getfield 288, 3)), (29, (.iload_n 1, 1)), (30, (.aload_n 0, 1)), (31, (.getfield 79, 3)), (34, (.invokevirtual 300, 3)), (37, (.return_, 1))] = true := by decide +kernel
theorem dX12_setE_0 : decode cX12_setE 0 = .ok (.aload_n 0, 1) := xdc ddX12_setE_0 0 rfl
theorem dX12_setE_1 : decode cX12_setE 1 = .ok (.getfield 82, 3) := xdc ddX12_setE_0 1 rfl
theorem dX12_setE_4 : decode cX12_setE 4 = .ok (.iconst 3, 1) := xdc ddX12_setE_0 2 rfl
theorem dX12_setE_5 : decode cX12_setE 5 = .ok (.if_icmp .ne 19, 3) := xdc ddX12_setE_0 3 rfl
theorem dX12_setE_8 : decode cX12_setE 8 = .ok (.aload_n 0, 1) := xdc ddX12_setE_0 4 rfl
theorem dX12_setE_9 : decode cX12_setE 9 = .ok (.aload_n 0, 1) := xdc ddX12_setE_0 5 rfl
theorem dX12_setE_10 : decode cX12_setE 10 = .ok (.getfield 88, 3) := xdc ddX12_setE_0 6 rfl
theorem dX12_setE_13 : decode cX12_setE 13 = .ok (.aload_n 0, 1) := xdc ddX12_setE_0 7 rfl
theorem dX12_setE_14 : decode cX12_setE 14 = .ok (.getfield 79, 3) := xdc ddX12_setE_0 8 rfl
theorem dX12_setE_17 : decode cX12_setE 17 = .ok (.iload_n 1, 1) := xdc ddX12_setE_0 9 rfl
theorem dX12_setE_18 : decode cX12_setE 18 = .ok (.invokevirtual 297, 3) := xdc ddX12_setE_0 10 rfl
theorem dX12_setE_21 : decode cX12_setE 21 = .ok (.goto 16, 3) := xdc ddX12_setE_0 11 rfl
theorem dX12_setE_24 : decode cX12_setE 24 = .ok (.aload_n 0, 1) := xdc ddX12_setE_0 12 rfl
theorem dX12_setE_25 : decode cX12_setE 25 = .ok (.aload_n 0, 1) := xdc ddX12_setE_0 13 rfl
theorem dX12_setE_26 : decode cX12_setE 26 = .ok (.getfield 288, 3) := xdc ddX12_setE_0 14 rfl
theorem dX12_setE_29 : decode cX12_setE 29 = .ok (.iload_n 1, 1) := xdc ddX12_setE_0 15 rfl
theorem dX12_setE_30 : decode cX12_setE 30 = .ok (.aload_n 0, 1) := xdc ddX12_setE_0 16 rfl
theorem dX12_setE_31 : decode cX12_setE 31 = .ok (.getfield 79, 3) := xdc ddX12_setE_0 17 rfl
theorem dX12_setE_34 : decode cX12_setE 34 = .ok (.invokevirtual 300, 3) := xdc ddX12_setE_0 18 rfl
theorem dX12_setE_37 : decode cX12_setE 37 = .ok (.return_, 1) := xdc ddX12_setE_0 19 rfl
abbrev cX12_mask : ByteArray := prog_14_method_52_code
theorem ddX12_mask_0 : xdec cX12_mask [(0, (.iload_n 0, 1)), (1, (.iconst 4, 1)), (2, (.if_icmp .ne 7, 3)), (5, (.iconst (-1), 1)), (6, (.goto 16, 3)), (9, (.iload_n 0, 1)), (10, (.iconst 2, 1)), (11, (.if_icmp .ne 8, 3)), (14, (.ldc 158, 2)), (16, (.goto 6, 3)), (19, (.sipush 255, 3)), (22, (.ireturn, 1))] = true := by decide +kernel
theorem dX12_mask_0 : decode cX12_mask 0 = .ok (.iload_n 0, 1) := xdc ddX12_mask_0 0 rfl
theorem dX12_mask_1 : decode cX12_mask 1 = .ok (.iconst 4, 1) := xdc ddX12_mask_0 1 rfl
theorem dX12_mask_2 : decode cX12_mask 2 = .ok (.if_icmp .ne 7, 3) := xdc ddX12_mask_0 2 rfl
theorem dX12_mask_5 : decode cX12_mask 5 = .ok (.iconst (-1), 1) := xdc ddX12_mask_0 3 rfl
theorem dX12_mask_6 : decode cX12_mask 6 = .ok (.goto 16, 3) := xdc ddX12_mask_0 4 rfl
theorem dX12_mask_9 : decode cX12_mask 9 = .ok (.iload_n 0, 1) := xdc ddX12_mask_0 5 rfl
theorem dX12_mask_10 : decode cX12_mask 10 = .ok (.iconst 2, 1) := xdc ddX12_mask_0 6 rfl
theorem dX12_mask_11 : decode cX12_mask 11 = .ok (.if_icmp .ne 8, 3) := xdc ddX12_mask_0 7 rfl
theorem dX12_mask_14 : decode cX12_mask 14 = .ok (.ldc 158, 2) := xdc ddX12_mask_0 8 rfl
theorem dX12_mask_16 : decode cX12_mask 16 = .ok (.goto 6, 3) := xdc ddX12_mask_0 9 rfl
theorem dX12_mask_19 : decode cX12_mask 19 = .ok (.sipush 255, 3) := xdc ddX12_mask_0 10 rfl
theorem dX12_mask_22 : decode cX12_mask 22 = .ok (.ireturn, 1) := xdc ddX12_mask_0 11 rfl
abbrev cX12_top : ByteArray := prog_14_method_53_code
theorem ddX12_top_0 : xdec cX12_top [(0, (.iload_n 0, 1)), (1, (.bipush 8, 2)), (3, (.iload_n 1, 1)), (4, (.imul, 1)), (5, (.iconst 1, 1)), (6, (.isub, 1)), (7, (.iushr, 1)), (8, (.iconst 1, 1)), (9, (.iand, 1)), (10, (.ifCond .eq 7, 3)), (13, (.iconst 1, 1)), (14, (.goto 4, 3)), (17, (.iconst 0, 1)), (18, (.ireturn, 1))] = true := by decide +kernel
theorem dX12_top_0 : decode cX12_top 0 = .ok (.iload_n 0, 1) := xdc ddX12_top_0 0 rfl
theorem dX12_top_1 : decode cX12_top 1 = .ok (.bipush 8, 2) := xdc ddX12_top_0 1 rfl
theorem dX12_top_3 : decode cX12_top 3 = .ok (.iload_n 1, 1) := xdc ddX12_top_0 2 rfl
theorem dX12_top_4 : decode cX12_top 4 = .ok (.imul, 1) := xdc ddX12_top_0 3 rfl
theorem dX12_top_5 : decode cX12_top 5 = .ok (.iconst 1, 1) := xdc ddX12_top_0 4 rfl
theorem dX12_top_6 : decode cX12_top 6 = .ok (.isub, 1) := xdc ddX12_top_0 5 rfl
theorem dX12_top_7 : decode cX12_top 7 = .ok (.iushr, 1) := xdc ddX12_top_0 6 rfl
theorem dX12_top_8 : decode cX12_top 8 = .ok (.iconst 1, 1) := xdc ddX12_top_0 7 rfl
theorem dX12_top_9 : decode cX12_top 9 = .ok (.iand, 1) := xdc ddX12_top_0 8 rfl
theorem dX12_top_10 : decode cX12_top 10 = .ok (.ifCond .eq 7, 3) := xdc ddX12_top_0 9 rfl
theorem dX12_top_13 : decode cX12_top 13 = .ok (.iconst 1, 1) := xdc ddX12_top_0 10 rfl
theorem dX12_top_14 : decode cX12_top 14 = .ok (.goto 4, 3) := xdc ddX12_top_0 11 rfl
theorem dX12_top_17 : decode cX12_top 17 = .ok (.iconst 0, 1) := xdc ddX12_top_0 12 rfl
theorem dX12_top_18 : decode cX12_top 18 = .ok (.ireturn, 1) := xdc ddX12_top_0 13 rfl
abbrev cX12_byResult : ByteArray := prog_14_method_54_code
theorem ddX12_byResult_0 : xdec cX12_byResult [(0, (.aload_n 0, 1)), (1, (.iload_n 1, 1)), (2, (.iload_n 2, 1)), (3, (.invokestatic 303, 3)), (6, (.iand, 1)), (7, (.ifCond .ne 7, 3)), (10, (.iconst 1, 1)), (11, (.goto 4, 3)), (14, (.iconst 0, 1)), (15, (.putfield 307, 3)), (18, (.aload_n 0, 1)), (19, (.iload_n 1, 1)), (20, (.iload_n 2, 1)), (21, (.invokestatic 310, 3)), (24, (.putfield 314, 3)), (27, (.iload_n 1, 1)), (28, (.sipush 255, 3)), (31, (.iand, 1)), (32, (.istore_n 3, 1)), (33, (.iload_n 3, 1)), (34, (.iload_n 3, 1)), (35, (.iconst 4, 1)), (36, (.ishr, 1)), (37, (.ixor, 1)), (38, (.istore_n 3, 1)), (39, (.iload_n 3, 1)), (40, (.iload_n 3, 1)), (41, (.iconst 2, 1)), (42, (.ishr, 1)), (43, (.ixor, 1)), (44, (.istore_n 3, 1)), (45, (.iload_n 3, 1)), (46, (.iload_n 3, 1)), (47, (.iconst 1, 1)), (48, (.ishr, 1)), (49, (.ixor, 1)), (50, (.istore_n 3, 1)), (51, (.aload_n 0, 1)), (52, (.iload_n 3, 1)), (53, (.iconst 1, 1))] = true := by decide +kernel
theorem dX12_byResult_0 : decode cX12_byResult 0 = .ok (.aload_n 0, 1) := xdc ddX12_byResult_0 0 rfl
theorem dX12_byResult_1 : decode cX12_byResult 1 = .ok (.iload_n 1, 1) := xdc ddX12_byResult_0 1 rfl
theorem dX12_byResult_2 : decode cX12_byResult 2 = .ok (.iload_n 2, 1) := xdc ddX12_byResult_0 2 rfl
theorem dX12_byResult_3 : decode cX12_byResult 3 = .ok (.invokestatic 303, 3) := xdc ddX12_byResult_0 3 rfl
theorem dX12_byResult_6 : decode cX12_byResult 6 = .ok (.iand, 1) := xdc ddX12_byResult_0 4 rfl
theorem dX12_byResult_7 : decode cX12_byResult 7 = .ok (.ifCond .ne 7, 3) := xdc ddX12_byResult_0 5 rfl
theorem dX12_byResult_10 : decode cX12_byResult 10 = .ok (.iconst 1, 1) := xdc ddX12_byResult_0 6 rfl
theorem dX12_byResult_11 : decode cX12_byResult 11 = .ok (.goto 4, 3) := xdc ddX12_byResult_0 7 rfl
theorem dX12_byResult_14 : decode cX12_byResult 14 = .ok (.iconst 0, 1) := xdc ddX12_byResult_0 8 rfl
theorem dX12_byResult_15 : decode cX12_byResult 15 = .ok (.putfield 307, 3) := xdc ddX12_byResult_0 9 rfl
theorem dX12_byResult_18 : decode cX12_byResult 18 = .ok (.aload_n 0, 1) := xdc ddX12_byResult_0 10 rfl
theorem dX12_byResult_19 : decode cX12_byResult 19 = .ok (.iload_n 1, 1) := xdc ddX12_byResult_0 11 rfl
theorem dX12_byResult_20 : decode cX12_byResult 20 = .ok (.iload_n 2, 1) := xdc ddX12_byResult_0 12 rfl
theorem dX12_byResult_21 : decode cX12_byResult 21 = .ok (.invokestatic 310, 3) := xdc ddX12_byResult_0 13 rfl
theorem dX12_byResult_24 : decode cX12_byResult 24 = .ok (.putfield 314, 3) := xdc ddX12_byResult_0 14 rfl
theorem dX12_byResult_27 : decode cX12_byResult 27 = .ok (.iload_n 1, 1) := xdc ddX12_byResult_0 15 rfl
theorem dX12_byResult_28 : decode cX12_byResult 28 = .ok (.sipush 255, 3) := xdc ddX12_byResult_0 16 rfl
theorem dX12_byResult_31 : decode cX12_byResult 31 = .ok (.iand, 1) := xdc ddX12_byResult_0 17 rfl
theorem dX12_byResult_32 : decode cX12_byResult 32 = .ok (.istore_n 3, 1) := xdc ddX12_byResult_0 18 rfl
theorem dX12_byResult_33 : decode cX12_byResult 33 = .ok (.iload_n 3, 1) := xdc ddX12_byResult_0 19 rfl
theorem dX12_byResult_34 : decode cX12_byResult 34 = .ok (.iload_n 3, 1) := xdc ddX12_byResult_0 20 rfl
theorem dX12_byResult_35 : decode cX12_byResult 35 = .ok (.iconst 4, 1) := xdc ddX12_byResult_0 21 rfl
theorem dX12_byResult_36 : decode cX12_byResult 36 = .ok (.ishr, 1) := xdc ddX12_byResult_0 22 rfl
theorem dX12_byResult_37 : decode cX12_byResult 37 = .ok (.ixor, 1) := xdc ddX12_byResult_0 23 rfl
theorem dX12_byResult_38 : decode cX12_byResult 38 = .ok (.istore_n 3, 1) := xdc ddX12_byResult_0 24 rfl
theorem dX12_byResult_39 : decode cX12_byResult 39 = .ok (.iload_n 3, 1) := xdc ddX12_byResult_0 25 rfl
theorem dX12_byResult_40 : decode cX12_byResult 40 = .ok (.iload_n 3, 1) := xdc ddX12_byResult_0 26 rfl
theorem dX12_byResult_41 : decode cX12_byResult 41 = .ok (.iconst 2, 1) := xdc ddX12_byResult_0 27 rfl
theorem dX12_byResult_42 : decode cX12_byResult 42 = .ok (.ishr, 1) := xdc ddX12_byResult_0 28 rfl
theorem dX12_byResult_43 : decode cX12_byResult 43 = .ok (.ixor, 1) := xdc ddX12_byResult_0 29 rfl
theorem dX12_byResult_44 : decode cX12_byResult 44 = .ok (.istore_n 3, 1) := xdc ddX12_byResult_0 30 rfl
theorem dX12_byResult_45 : decode cX12_byResult 45 = .ok (.iload_n 3, 1) := xdc ddX12_byResult_0 31 rfl
theorem dX12_byResult_46 : decode cX12_byResult 46 = .ok (.iload_n 3, 1) := xdc ddX12_byResult_0 32 rfl
theorem dX12_byResult_47 : decode cX12_byResult 47 = .ok (.iconst 1, 1) := xdc ddX12_byResult_0 33 rfl
theorem dX12_byResult_48 : decode cX12_byResult 48 = .ok (.ishr, 1) := xdc ddX12_byResult_0 34 rfl
theorem dX12_byResult_49 : decode cX12_byResult 49 = .ok (.ixor, 1) := xdc ddX12_byResult_0 35 rfl
theorem dX12_byResult_50 : decode cX12_byResult 50 = .ok (.istore_n 3, 1) := xdc ddX12_byResult_0 36 rfl
theorem dX12_byResult_51 : decode cX12_byResult 51 = .ok (.aload_n 0, 1) := xdc ddX12_byResult_0 37 rfl
theorem dX12_byResult_52 : decode cX12_byResult 52 = .ok (.iload_n 3, 1) := xdc ddX12_byResult_0 38 rfl
theorem dX12_byResult_53 : decode cX12_byResult 53 = .ok (.iconst 1, 1) := xdc ddX12_byResult_0 39 rfl
theorem ddX12_byResult_1 : xdec cX12_byResult [(54, (.iand, 1)), (55, (.ifCond .ne 7, 3)), (58, (.iconst 1, 1)), (59, (.goto 4, 3)), (62, (.iconst 0, 1)), (63, (.putfield 317, 3)), (66, (.return_, 1))] = true := by decide +kernel
theorem dX12_byResult_54 : decode cX12_byResult 54 = .ok (.iand, 1) := xdc ddX12_byResult_1 0 rfl
theorem dX12_byResult_55 : decode cX12_byResult 55 = .ok (.ifCond .ne 7, 3) := xdc ddX12_byResult_1 1 rfl
theorem dX12_byResult_58 : decode cX12_byResult 58 = .ok (.iconst 1, 1) := xdc ddX12_byResult_1 2 rfl
theorem dX12_byResult_59 : decode cX12_byResult 59 = .ok (.goto 4, 3) := xdc ddX12_byResult_1 3 rfl
theorem dX12_byResult_62 : decode cX12_byResult 62 = .ok (.iconst 0, 1) := xdc ddX12_byResult_1 4 rfl
theorem dX12_byResult_63 : decode cX12_byResult 63 = .ok (.putfield 317, 3) := xdc ddX12_byResult_1 5 rfl
theorem dX12_byResult_66 : decode cX12_byResult 66 = .ok (.return_, 1) := xdc ddX12_byResult_1 6 rfl
abbrev cX12_sum : ByteArray := prog_14_method_55_code
theorem ddX12_sum_0 : xdec cX12_sum [(0, (.iload 4, 2)), (2, (.invokestatic 303, 3)), (5, (.i2l, 1)), (6, (.ldc2_w 186, 3)), (9, (.land, 1)), (10, (.lstore 5, 2)), (12, (.iload_n 1, 1)), (13, (.i2l, 1)), (14, (.lload 5, 2)), (16, (.land, 1)), (17, (.iload_n 2, 1)), (18, (.i2l, 1)), (19, (.lload 5, 2)), (21, (.land, 1)), (22, (.ladd, 1)), (23, (.iload_n 3, 1)), (24, (.i2l, 1)), (25, (.ladd, 1)), (26, (.lstore 7, 2)), (28, (.lload 7, 2)), (30, (.l2i, 1)), (31, (.istore 9, 2)), (33, (.aload_n 0, 1)), (34, (.lload 7, 2)), (36, (.lload 5, 2)), (38, (.lcmp, 1)), (39, (.ifCond .le 7, 3)), (42, (.iconst 1, 1)), (43, (.goto 4, 3)), (46, (.iconst 0, 1)), (47, (.putfield 320, 3)), (50, (.aload_n 0, 1)), (51, (.iload_n 1, 1)), (52, (.iload 9, 2)), (54, (.ixor, 1)), (55, (.iload_n 2, 1)), (56, (.iload 9, 2)), (58, (.ixor, 1)), (59, (.iand, 1)), (60, (.iload 4, 2))] = true := by decide +kernel
theorem dX12_sum_0 : decode cX12_sum 0 = .ok (.iload 4, 2) := xdc ddX12_sum_0 0 rfl
theorem dX12_sum_2 : decode cX12_sum 2 = .ok (.invokestatic 303, 3) := xdc ddX12_sum_0 1 rfl
theorem dX12_sum_5 : decode cX12_sum 5 = .ok (.i2l, 1) := xdc ddX12_sum_0 2 rfl
theorem dX12_sum_6 : decode cX12_sum 6 = .ok (.ldc2_w 186, 3) := xdc ddX12_sum_0 3 rfl
theorem dX12_sum_9 : decode cX12_sum 9 = .ok (.land, 1) := xdc ddX12_sum_0 4 rfl
theorem dX12_sum_10 : decode cX12_sum 10 = .ok (.lstore 5, 2) := xdc ddX12_sum_0 5 rfl
theorem dX12_sum_12 : decode cX12_sum 12 = .ok (.iload_n 1, 1) := xdc ddX12_sum_0 6 rfl
theorem dX12_sum_13 : decode cX12_sum 13 = .ok (.i2l, 1) := xdc ddX12_sum_0 7 rfl
theorem dX12_sum_14 : decode cX12_sum 14 = .ok (.lload 5, 2) := xdc ddX12_sum_0 8 rfl
theorem dX12_sum_16 : decode cX12_sum 16 = .ok (.land, 1) := xdc ddX12_sum_0 9 rfl
theorem dX12_sum_17 : decode cX12_sum 17 = .ok (.iload_n 2, 1) := xdc ddX12_sum_0 10 rfl
theorem dX12_sum_18 : decode cX12_sum 18 = .ok (.i2l, 1) := xdc ddX12_sum_0 11 rfl
theorem dX12_sum_19 : decode cX12_sum 19 = .ok (.lload 5, 2) := xdc ddX12_sum_0 12 rfl
theorem dX12_sum_21 : decode cX12_sum 21 = .ok (.land, 1) := xdc ddX12_sum_0 13 rfl
theorem dX12_sum_22 : decode cX12_sum 22 = .ok (.ladd, 1) := xdc ddX12_sum_0 14 rfl
theorem dX12_sum_23 : decode cX12_sum 23 = .ok (.iload_n 3, 1) := xdc ddX12_sum_0 15 rfl
theorem dX12_sum_24 : decode cX12_sum 24 = .ok (.i2l, 1) := xdc ddX12_sum_0 16 rfl
theorem dX12_sum_25 : decode cX12_sum 25 = .ok (.ladd, 1) := xdc ddX12_sum_0 17 rfl
theorem dX12_sum_26 : decode cX12_sum 26 = .ok (.lstore 7, 2) := xdc ddX12_sum_0 18 rfl
theorem dX12_sum_28 : decode cX12_sum 28 = .ok (.lload 7, 2) := xdc ddX12_sum_0 19 rfl
theorem dX12_sum_30 : decode cX12_sum 30 = .ok (.l2i, 1) := xdc ddX12_sum_0 20 rfl
theorem dX12_sum_31 : decode cX12_sum 31 = .ok (.istore 9, 2) := xdc ddX12_sum_0 21 rfl
theorem dX12_sum_33 : decode cX12_sum 33 = .ok (.aload_n 0, 1) := xdc ddX12_sum_0 22 rfl
theorem dX12_sum_34 : decode cX12_sum 34 = .ok (.lload 7, 2) := xdc ddX12_sum_0 23 rfl
theorem dX12_sum_36 : decode cX12_sum 36 = .ok (.lload 5, 2) := xdc ddX12_sum_0 24 rfl
theorem dX12_sum_38 : decode cX12_sum 38 = .ok (.lcmp, 1) := xdc ddX12_sum_0 25 rfl
theorem dX12_sum_39 : decode cX12_sum 39 = .ok (.ifCond .le 7, 3) := xdc ddX12_sum_0 26 rfl
theorem dX12_sum_42 : decode cX12_sum 42 = .ok (.iconst 1, 1) := xdc ddX12_sum_0 27 rfl
theorem dX12_sum_43 : decode cX12_sum 43 = .ok (.goto 4, 3) := xdc ddX12_sum_0 28 rfl
theorem dX12_sum_46 : decode cX12_sum 46 = .ok (.iconst 0, 1) := xdc ddX12_sum_0 29 rfl
theorem dX12_sum_47 : decode cX12_sum 47 = .ok (.putfield 320, 3) := xdc ddX12_sum_0 30 rfl
theorem dX12_sum_50 : decode cX12_sum 50 = .ok (.aload_n 0, 1) := xdc ddX12_sum_0 31 rfl
theorem dX12_sum_51 : decode cX12_sum 51 = .ok (.iload_n 1, 1) := xdc ddX12_sum_0 32 rfl
theorem dX12_sum_52 : decode cX12_sum 52 = .ok (.iload 9, 2) := xdc ddX12_sum_0 33 rfl
theorem dX12_sum_54 : decode cX12_sum 54 = .ok (.ixor, 1) := xdc ddX12_sum_0 34 rfl
theorem dX12_sum_55 : decode cX12_sum 55 = .ok (.iload_n 2, 1) := xdc ddX12_sum_0 35 rfl
theorem dX12_sum_56 : decode cX12_sum 56 = .ok (.iload 9, 2) := xdc ddX12_sum_0 36 rfl
theorem dX12_sum_58 : decode cX12_sum 58 = .ok (.ixor, 1) := xdc ddX12_sum_0 37 rfl
theorem dX12_sum_59 : decode cX12_sum 59 = .ok (.iand, 1) := xdc ddX12_sum_0 38 rfl
theorem dX12_sum_60 : decode cX12_sum 60 = .ok (.iload 4, 2) := xdc ddX12_sum_0 39 rfl
theorem ddX12_sum_1 : xdec cX12_sum [(62, (.invokestatic 310, 3)), (65, (.putfield 323, 3)), (68, (.aload_n 0, 1)), (69, (.iload 9, 2)), (71, (.iload 4, 2)), (73, (.invokevirtual 326, 3)), (76, (.iload 9, 2)), (78, (.iload 4, 2)), (80, (.invokestatic 303, 3)), (83, (.iand, 1)), (84, (.ireturn, 1))] = true := by decide +kernel
theorem dX12_sum_62 : decode cX12_sum 62 = .ok (.invokestatic 310, 3) := xdc ddX12_sum_1 0 rfl
theorem dX12_sum_65 : decode cX12_sum 65 = .ok (.putfield 323, 3) := xdc ddX12_sum_1 1 rfl
theorem dX12_sum_68 : decode cX12_sum 68 = .ok (.aload_n 0, 1) := xdc ddX12_sum_1 2 rfl
theorem dX12_sum_69 : decode cX12_sum 69 = .ok (.iload 9, 2) := xdc ddX12_sum_1 3 rfl
theorem dX12_sum_71 : decode cX12_sum 71 = .ok (.iload 4, 2) := xdc ddX12_sum_1 4 rfl
theorem dX12_sum_73 : decode cX12_sum 73 = .ok (.invokevirtual 326, 3) := xdc ddX12_sum_1 5 rfl
theorem dX12_sum_76 : decode cX12_sum 76 = .ok (.iload 9, 2) := xdc ddX12_sum_1 6 rfl
theorem dX12_sum_78 : decode cX12_sum 78 = .ok (.iload 4, 2) := xdc ddX12_sum_1 7 rfl
theorem dX12_sum_80 : decode cX12_sum 80 = .ok (.invokestatic 303, 3) := xdc ddX12_sum_1 8 rfl
theorem dX12_sum_83 : decode cX12_sum 83 = .ok (.iand, 1) := xdc ddX12_sum_1 9 rfl
theorem dX12_sum_84 : decode cX12_sum 84 = .ok (.ireturn, 1) := xdc ddX12_sum_1 10 rfl
abbrev cX12_difference : ByteArray := prog_14_method_56_code
theorem ddX12_difference_0 : xdec cX12_difference [(0, (.iload 4, 2)), (2, (.invokestatic 303, 3)), (5, (.i2l, 1)), (6, (.ldc2_w 186, 3)), (9, (.land, 1)), (10, (.lstore 5, 2)), (12, (.iload_n 1, 1)), (13, (.i2l, 1)), (14, (.lload 5, 2)), (16, (.land, 1)), (17, (.iload_n 2, 1)), (18, (.i2l, 1)), (19, (.lload 5, 2)), (21, (.land, 1)), (22, (.lsub, 1)), (23, (.iload_n 3, 1)), (24, (.i2l, 1)), (25, (.lsub, 1)), (26, (.lstore 7, 2)), (28, (.lload 7, 2)), (30, (.l2i, 1)), (31, (.istore 9, 2)), (33, (.aload_n 0, 1)), (34, (.lload 7, 2)), (36, (.lconst 0, 1)), (37, (.lcmp, 1)), (38, (.ifCond .ge 7, 3)), (41, (.iconst 1, 1)), (42, (.goto 4, 3)), (45, (.iconst 0, 1)), (46, (.putfield 320, 3)), (49, (.aload_n 0, 1)), (50, (.iload_n 1, 1)), (51, (.iload_n 2, 1)), (52, (.ixor, 1)), (53, (.iload_n 1, 1)), (54, (.iload 9, 2)), (56, (.ixor, 1)), (57, (.iand, 1)), (58, (.iload 4, 2))] = true := by decide +kernel
theorem dX12_difference_0 : decode cX12_difference 0 = .ok (.iload 4, 2) := xdc ddX12_difference_0 0 rfl
theorem dX12_difference_2 : decode cX12_difference 2 = .ok (.invokestatic 303, 3) := xdc ddX12_difference_0 1 rfl
theorem dX12_difference_5 : decode cX12_difference 5 = .ok (.i2l, 1) := xdc ddX12_difference_0 2 rfl
theorem dX12_difference_6 : decode cX12_difference 6 = .ok (.ldc2_w 186, 3) := xdc ddX12_difference_0 3 rfl
theorem dX12_difference_9 : decode cX12_difference 9 = .ok (.land, 1) := xdc ddX12_difference_0 4 rfl
theorem dX12_difference_10 : decode cX12_difference 10 = .ok (.lstore 5, 2) := xdc ddX12_difference_0 5 rfl
theorem dX12_difference_12 : decode cX12_difference 12 = .ok (.iload_n 1, 1) := xdc ddX12_difference_0 6 rfl
theorem dX12_difference_13 : decode cX12_difference 13 = .ok (.i2l, 1) := xdc ddX12_difference_0 7 rfl
theorem dX12_difference_14 : decode cX12_difference 14 = .ok (.lload 5, 2) := xdc ddX12_difference_0 8 rfl
theorem dX12_difference_16 : decode cX12_difference 16 = .ok (.land, 1) := xdc ddX12_difference_0 9 rfl
theorem dX12_difference_17 : decode cX12_difference 17 = .ok (.iload_n 2, 1) := xdc ddX12_difference_0 10 rfl
theorem dX12_difference_18 : decode cX12_difference 18 = .ok (.i2l, 1) := xdc ddX12_difference_0 11 rfl
theorem dX12_difference_19 : decode cX12_difference 19 = .ok (.lload 5, 2) := xdc ddX12_difference_0 12 rfl
theorem dX12_difference_21 : decode cX12_difference 21 = .ok (.land, 1) := xdc ddX12_difference_0 13 rfl
theorem dX12_difference_22 : decode cX12_difference 22 = .ok (.lsub, 1) := xdc ddX12_difference_0 14 rfl
theorem dX12_difference_23 : decode cX12_difference 23 = .ok (.iload_n 3, 1) := xdc ddX12_difference_0 15 rfl
theorem dX12_difference_24 : decode cX12_difference 24 = .ok (.i2l, 1) := xdc ddX12_difference_0 16 rfl
theorem dX12_difference_25 : decode cX12_difference 25 = .ok (.lsub, 1) := xdc ddX12_difference_0 17 rfl
theorem dX12_difference_26 : decode cX12_difference 26 = .ok (.lstore 7, 2) := xdc ddX12_difference_0 18 rfl
theorem dX12_difference_28 : decode cX12_difference 28 = .ok (.lload 7, 2) := xdc ddX12_difference_0 19 rfl
theorem dX12_difference_30 : decode cX12_difference 30 = .ok (.l2i, 1) := xdc ddX12_difference_0 20 rfl
theorem dX12_difference_31 : decode cX12_difference 31 = .ok (.istore 9, 2) := xdc ddX12_difference_0 21 rfl
theorem dX12_difference_33 : decode cX12_difference 33 = .ok (.aload_n 0, 1) := xdc ddX12_difference_0 22 rfl
theorem dX12_difference_34 : decode cX12_difference 34 = .ok (.lload 7, 2) := xdc ddX12_difference_0 23 rfl
theorem dX12_difference_36 : decode cX12_difference 36 = .ok (.lconst 0, 1) := xdc ddX12_difference_0 24 rfl
theorem dX12_difference_37 : decode cX12_difference 37 = .ok (.lcmp, 1) := xdc ddX12_difference_0 25 rfl
theorem dX12_difference_38 : decode cX12_difference 38 = .ok (.ifCond .ge 7, 3) := xdc ddX12_difference_0 26 rfl
theorem dX12_difference_41 : decode cX12_difference 41 = .ok (.iconst 1, 1) := xdc ddX12_difference_0 27 rfl
theorem dX12_difference_42 : decode cX12_difference 42 = .ok (.goto 4, 3) := xdc ddX12_difference_0 28 rfl
theorem dX12_difference_45 : decode cX12_difference 45 = .ok (.iconst 0, 1) := xdc ddX12_difference_0 29 rfl
theorem dX12_difference_46 : decode cX12_difference 46 = .ok (.putfield 320, 3) := xdc ddX12_difference_0 30 rfl
theorem dX12_difference_49 : decode cX12_difference 49 = .ok (.aload_n 0, 1) := xdc ddX12_difference_0 31 rfl
theorem dX12_difference_50 : decode cX12_difference 50 = .ok (.iload_n 1, 1) := xdc ddX12_difference_0 32 rfl
theorem dX12_difference_51 : decode cX12_difference 51 = .ok (.iload_n 2, 1) := xdc ddX12_difference_0 33 rfl
theorem dX12_difference_52 : decode cX12_difference 52 = .ok (.ixor, 1) := xdc ddX12_difference_0 34 rfl
theorem dX12_difference_53 : decode cX12_difference 53 = .ok (.iload_n 1, 1) := xdc ddX12_difference_0 35 rfl
theorem dX12_difference_54 : decode cX12_difference 54 = .ok (.iload 9, 2) := xdc ddX12_difference_0 36 rfl
theorem dX12_difference_56 : decode cX12_difference 56 = .ok (.ixor, 1) := xdc ddX12_difference_0 37 rfl
theorem dX12_difference_57 : decode cX12_difference 57 = .ok (.iand, 1) := xdc ddX12_difference_0 38 rfl
theorem dX12_difference_58 : decode cX12_difference 58 = .ok (.iload 4, 2) := xdc ddX12_difference_0 39 rfl
theorem ddX12_difference_1 : xdec cX12_difference [(60, (.invokestatic 310, 3)), (63, (.putfield 323, 3)), (66, (.aload_n 0, 1)), (67, (.iload 9, 2)), (69, (.iload 4, 2)), (71, (.invokevirtual 326, 3)), (74, (.iload 9, 2)), (76, (.iload 4, 2)), (78, (.invokestatic 303, 3)), (81, (.iand, 1)), (82, (.ireturn, 1))] = true := by decide +kernel
theorem dX12_difference_60 : decode cX12_difference 60 = .ok (.invokestatic 310, 3) := xdc ddX12_difference_1 0 rfl
theorem dX12_difference_63 : decode cX12_difference 63 = .ok (.putfield 323, 3) := xdc ddX12_difference_1 1 rfl
theorem dX12_difference_66 : decode cX12_difference 66 = .ok (.aload_n 0, 1) := xdc ddX12_difference_1 2 rfl
theorem dX12_difference_67 : decode cX12_difference 67 = .ok (.iload 9, 2) := xdc ddX12_difference_1 3 rfl
theorem dX12_difference_69 : decode cX12_difference 69 = .ok (.iload 4, 2) := xdc ddX12_difference_1 4 rfl
theorem dX12_difference_71 : decode cX12_difference 71 = .ok (.invokevirtual 326, 3) := xdc ddX12_difference_1 5 rfl
theorem dX12_difference_74 : decode cX12_difference 74 = .ok (.iload 9, 2) := xdc ddX12_difference_1 6 rfl
theorem dX12_difference_76 : decode cX12_difference 76 = .ok (.iload 4, 2) := xdc ddX12_difference_1 7 rfl
theorem dX12_difference_78 : decode cX12_difference 78 = .ok (.invokestatic 303, 3) := xdc ddX12_difference_1 8 rfl
theorem dX12_difference_81 : decode cX12_difference 81 = .ok (.iand, 1) := xdc ddX12_difference_1 9 rfl
theorem dX12_difference_82 : decode cX12_difference 82 = .ok (.ireturn, 1) := xdc ddX12_difference_1 10 rfl
abbrev cX12_eight : ByteArray := prog_14_method_57_code
theorem ddX12_eight_0 : xdec cX12_eight [(0, (.iload_n 1, 1)), (1, (.tableswitch 109 0 7 #[47, 109, 57, 78, 109, 99, 109, 99], 47)), (48, (.aload_n 0, 1)), (49, (.iload_n 2, 1)), (50, (.iload_n 3, 1)), (51, (.iconst 0, 1)), (52, (.iload 4, 2)), (54, (.invokevirtual 329, 3)), (57, (.ireturn, 1)), (58, (.aload_n 0, 1)), (59, (.iload_n 2, 1)), (60, (.iload_n 3, 1)), (61, (.aload_n 0, 1)), (62, (.getfield 320, 3)), (65, (.ifCond .eq 7, 3)), (68, (.iconst 1, 1)), (69, (.goto 4, 3)), (72, (.iconst 0, 1)), (73, (.iload 4, 2)), (75, (.invokevirtual 329, 3)), (78, (.ireturn, 1)), (79, (.aload_n 0, 1)), (80, (.iload_n 2, 1)), (81, (.iload_n 3, 1)), (82, (.aload_n 0, 1)), (83, (.getfield 320, 3)), (86, (.ifCond .eq 7, 3)), (89, (.iconst 1, 1)), (90, (.goto 4, 3)), (93, (.iconst 0, 1)), (94, (.iload 4, 2)), (96, (.invokevirtual 333, 3)), (99, (.ireturn, 1)), (100, (.aload_n 0, 1)), (101, (.iload_n 2, 1)), (102, (.iload_n 3, 1)), (103, (.iconst 0, 1)), (104, (.iload 4, 2)), (106, (.invokevirtual 333, 3)), (109, (.ireturn, 1))] = true := by decide +kernel
theorem dX12_eight_0 : decode cX12_eight 0 = .ok (.iload_n 1, 1) := xdc ddX12_eight_0 0 rfl
theorem dX12_eight_1 : decode cX12_eight 1 = .ok (.tableswitch 109 0 7 #[47, 109, 57, 78, 109, 99, 109, 99], 47) := xdc ddX12_eight_0 1 rfl
theorem dX12_eight_48 : decode cX12_eight 48 = .ok (.aload_n 0, 1) := xdc ddX12_eight_0 2 rfl
theorem dX12_eight_49 : decode cX12_eight 49 = .ok (.iload_n 2, 1) := xdc ddX12_eight_0 3 rfl
theorem dX12_eight_50 : decode cX12_eight 50 = .ok (.iload_n 3, 1) := xdc ddX12_eight_0 4 rfl
theorem dX12_eight_51 : decode cX12_eight 51 = .ok (.iconst 0, 1) := xdc ddX12_eight_0 5 rfl
theorem dX12_eight_52 : decode cX12_eight 52 = .ok (.iload 4, 2) := xdc ddX12_eight_0 6 rfl
theorem dX12_eight_54 : decode cX12_eight 54 = .ok (.invokevirtual 329, 3) := xdc ddX12_eight_0 7 rfl
theorem dX12_eight_57 : decode cX12_eight 57 = .ok (.ireturn, 1) := xdc ddX12_eight_0 8 rfl
theorem dX12_eight_58 : decode cX12_eight 58 = .ok (.aload_n 0, 1) := xdc ddX12_eight_0 9 rfl
theorem dX12_eight_59 : decode cX12_eight 59 = .ok (.iload_n 2, 1) := xdc ddX12_eight_0 10 rfl
theorem dX12_eight_60 : decode cX12_eight 60 = .ok (.iload_n 3, 1) := xdc ddX12_eight_0 11 rfl
theorem dX12_eight_61 : decode cX12_eight 61 = .ok (.aload_n 0, 1) := xdc ddX12_eight_0 12 rfl
theorem dX12_eight_62 : decode cX12_eight 62 = .ok (.getfield 320, 3) := xdc ddX12_eight_0 13 rfl
theorem dX12_eight_65 : decode cX12_eight 65 = .ok (.ifCond .eq 7, 3) := xdc ddX12_eight_0 14 rfl
theorem dX12_eight_68 : decode cX12_eight 68 = .ok (.iconst 1, 1) := xdc ddX12_eight_0 15 rfl
theorem dX12_eight_69 : decode cX12_eight 69 = .ok (.goto 4, 3) := xdc ddX12_eight_0 16 rfl
theorem dX12_eight_72 : decode cX12_eight 72 = .ok (.iconst 0, 1) := xdc ddX12_eight_0 17 rfl
theorem dX12_eight_73 : decode cX12_eight 73 = .ok (.iload 4, 2) := xdc ddX12_eight_0 18 rfl
theorem dX12_eight_75 : decode cX12_eight 75 = .ok (.invokevirtual 329, 3) := xdc ddX12_eight_0 19 rfl
theorem dX12_eight_78 : decode cX12_eight 78 = .ok (.ireturn, 1) := xdc ddX12_eight_0 20 rfl
theorem dX12_eight_79 : decode cX12_eight 79 = .ok (.aload_n 0, 1) := xdc ddX12_eight_0 21 rfl
theorem dX12_eight_80 : decode cX12_eight 80 = .ok (.iload_n 2, 1) := xdc ddX12_eight_0 22 rfl
theorem dX12_eight_81 : decode cX12_eight 81 = .ok (.iload_n 3, 1) := xdc ddX12_eight_0 23 rfl
theorem dX12_eight_82 : decode cX12_eight 82 = .ok (.aload_n 0, 1) := xdc ddX12_eight_0 24 rfl
theorem dX12_eight_83 : decode cX12_eight 83 = .ok (.getfield 320, 3) := xdc ddX12_eight_0 25 rfl
theorem dX12_eight_86 : decode cX12_eight 86 = .ok (.ifCond .eq 7, 3) := xdc ddX12_eight_0 26 rfl
theorem dX12_eight_89 : decode cX12_eight 89 = .ok (.iconst 1, 1) := xdc ddX12_eight_0 27 rfl
theorem dX12_eight_90 : decode cX12_eight 90 = .ok (.goto 4, 3) := xdc ddX12_eight_0 28 rfl
theorem dX12_eight_93 : decode cX12_eight 93 = .ok (.iconst 0, 1) := xdc ddX12_eight_0 29 rfl
theorem dX12_eight_94 : decode cX12_eight 94 = .ok (.iload 4, 2) := xdc ddX12_eight_0 30 rfl
theorem dX12_eight_96 : decode cX12_eight 96 = .ok (.invokevirtual 333, 3) := xdc ddX12_eight_0 31 rfl
theorem dX12_eight_99 : decode cX12_eight 99 = .ok (.ireturn, 1) := xdc ddX12_eight_0 32 rfl
theorem dX12_eight_100 : decode cX12_eight 100 = .ok (.aload_n 0, 1) := xdc ddX12_eight_0 33 rfl
theorem dX12_eight_101 : decode cX12_eight 101 = .ok (.iload_n 2, 1) := xdc ddX12_eight_0 34 rfl
theorem dX12_eight_102 : decode cX12_eight 102 = .ok (.iload_n 3, 1) := xdc ddX12_eight_0 35 rfl
theorem dX12_eight_103 : decode cX12_eight 103 = .ok (.iconst 0, 1) := xdc ddX12_eight_0 36 rfl
theorem dX12_eight_104 : decode cX12_eight 104 = .ok (.iload 4, 2) := xdc ddX12_eight_0 37 rfl
theorem dX12_eight_106 : decode cX12_eight 106 = .ok (.invokevirtual 333, 3) := xdc ddX12_eight_0 38 rfl
theorem dX12_eight_109 : decode cX12_eight 109 = .ok (.ireturn, 1) := xdc ddX12_eight_0 39 rfl
theorem ddX12_eight_1 : xdec cX12_eight [(110, (.iload_n 1, 1)), (111, (.iconst 1, 1)), (112, (.if_icmp .ne 9, 3)), (115, (.iload_n 2, 1)), (116, (.iload_n 3, 1)), (117, (.ior, 1)), (118, (.goto 17, 3)), (121, (.iload_n 1, 1)), (122, (.iconst 4, 1)), (123, (.if_icmp .ne 9, 3)), (126, (.iload_n 2, 1)), (127, (.iload_n 3, 1)), (128, (.iand, 1)), (129, (.goto 6, 3)), (132, (.iload_n 2, 1)), (133, (.iload_n 3, 1)), (134, (.ixor, 1)), (135, (.istore 5, 2)), (137, (.aload_n 0, 1)), (138, (.iconst 0, 1)), (139, (.putfield 320, 3)), (142, (.aload_n 0, 1)), (143, (.iconst 0, 1)), (144, (.putfield 323, 3)), (147, (.aload_n 0, 1)), (148, (.iload 5, 2)), (150, (.iload 4, 2)), (152, (.invokevirtual 326, 3)), (155, (.iload 5, 2)), (157, (.iload 4, 2)), (159, (.invokestatic 303, 3)), (162, (.iand, 1)), (163, (.ireturn, 1))] = true := by decide +kernel
theorem dX12_eight_110 : decode cX12_eight 110 = .ok (.iload_n 1, 1) := xdc ddX12_eight_1 0 rfl
theorem dX12_eight_111 : decode cX12_eight 111 = .ok (.iconst 1, 1) := xdc ddX12_eight_1 1 rfl
theorem dX12_eight_112 : decode cX12_eight 112 = .ok (.if_icmp .ne 9, 3) := xdc ddX12_eight_1 2 rfl
theorem dX12_eight_115 : decode cX12_eight 115 = .ok (.iload_n 2, 1) := xdc ddX12_eight_1 3 rfl
theorem dX12_eight_116 : decode cX12_eight 116 = .ok (.iload_n 3, 1) := xdc ddX12_eight_1 4 rfl
theorem dX12_eight_117 : decode cX12_eight 117 = .ok (.ior, 1) := xdc ddX12_eight_1 5 rfl
theorem dX12_eight_118 : decode cX12_eight 118 = .ok (.goto 17, 3) := xdc ddX12_eight_1 6 rfl
theorem dX12_eight_121 : decode cX12_eight 121 = .ok (.iload_n 1, 1) := xdc ddX12_eight_1 7 rfl
theorem dX12_eight_122 : decode cX12_eight 122 = .ok (.iconst 4, 1) := xdc ddX12_eight_1 8 rfl
theorem dX12_eight_123 : decode cX12_eight 123 = .ok (.if_icmp .ne 9, 3) := xdc ddX12_eight_1 9 rfl
theorem dX12_eight_126 : decode cX12_eight 126 = .ok (.iload_n 2, 1) := xdc ddX12_eight_1 10 rfl
theorem dX12_eight_127 : decode cX12_eight 127 = .ok (.iload_n 3, 1) := xdc ddX12_eight_1 11 rfl
theorem dX12_eight_128 : decode cX12_eight 128 = .ok (.iand, 1) := xdc ddX12_eight_1 12 rfl
theorem dX12_eight_129 : decode cX12_eight 129 = .ok (.goto 6, 3) := xdc ddX12_eight_1 13 rfl
theorem dX12_eight_132 : decode cX12_eight 132 = .ok (.iload_n 2, 1) := xdc ddX12_eight_1 14 rfl
theorem dX12_eight_133 : decode cX12_eight 133 = .ok (.iload_n 3, 1) := xdc ddX12_eight_1 15 rfl
theorem dX12_eight_134 : decode cX12_eight 134 = .ok (.ixor, 1) := xdc ddX12_eight_1 16 rfl
theorem dX12_eight_135 : decode cX12_eight 135 = .ok (.istore 5, 2) := xdc ddX12_eight_1 17 rfl
theorem dX12_eight_137 : decode cX12_eight 137 = .ok (.aload_n 0, 1) := xdc ddX12_eight_1 18 rfl
theorem dX12_eight_138 : decode cX12_eight 138 = .ok (.iconst 0, 1) := xdc ddX12_eight_1 19 rfl
theorem dX12_eight_139 : decode cX12_eight 139 = .ok (.putfield 320, 3) := xdc ddX12_eight_1 20 rfl
theorem dX12_eight_142 : decode cX12_eight 142 = .ok (.aload_n 0, 1) := xdc ddX12_eight_1 21 rfl
theorem dX12_eight_143 : decode cX12_eight 143 = .ok (.iconst 0, 1) := xdc ddX12_eight_1 22 rfl
theorem dX12_eight_144 : decode cX12_eight 144 = .ok (.putfield 323, 3) := xdc ddX12_eight_1 23 rfl
theorem dX12_eight_147 : decode cX12_eight 147 = .ok (.aload_n 0, 1) := xdc ddX12_eight_1 24 rfl
theorem dX12_eight_148 : decode cX12_eight 148 = .ok (.iload 5, 2) := xdc ddX12_eight_1 25 rfl
theorem dX12_eight_150 : decode cX12_eight 150 = .ok (.iload 4, 2) := xdc ddX12_eight_1 26 rfl
theorem dX12_eight_152 : decode cX12_eight 152 = .ok (.invokevirtual 326, 3) := xdc ddX12_eight_1 27 rfl
theorem dX12_eight_155 : decode cX12_eight 155 = .ok (.iload 5, 2) := xdc ddX12_eight_1 28 rfl
theorem dX12_eight_157 : decode cX12_eight 157 = .ok (.iload 4, 2) := xdc ddX12_eight_1 29 rfl
theorem dX12_eight_159 : decode cX12_eight 159 = .ok (.invokestatic 303, 3) := xdc ddX12_eight_1 30 rfl
theorem dX12_eight_162 : decode cX12_eight 162 = .ok (.iand, 1) := xdc ddX12_eight_1 31 rfl
theorem dX12_eight_163 : decode cX12_eight 163 = .ok (.ireturn, 1) := xdc ddX12_eight_1 32 rfl
abbrev cX12_holds : ByteArray := prog_14_method_58_code
theorem ddX12_holds_0 : xdec cX12_holds [(0, (.iload_n 1, 1)), (1, (.iconst 1, 1)), (2, (.ishr, 1)), (3, (.tableswitch 124 0 6 #[41, 49, 57, 65, 88, 96, 104], 41)), (44, (.aload_n 0, 1)), (45, (.getfield 323, 3)), (48, (.istore_n 2, 1)), (49, (.goto 102, 3)), (52, (.aload_n 0, 1)), (53, (.getfield 320, 3)), (56, (.istore_n 2, 1)), (57, (.goto 94, 3)), (60, (.aload_n 0, 1)), (61, (.getfield 307, 3)), (64, (.istore_n 2, 1)), (65, (.goto 86, 3)), (68, (.aload_n 0, 1)), (69, (.getfield 320, 3)), (72, (.ifCond .ne 10, 3)), (75, (.aload_n 0, 1)), (76, (.getfield 307, 3)), (79, (.ifCond .eq 7, 3)), (82, (.iconst 1, 1)), (83, (.goto 4, 3)), (86, (.iconst 0, 1)), (87, (.istore_n 2, 1)), (88, (.goto 63, 3)), (91, (.aload_n 0, 1)), (92, (.getfield 314, 3)), (95, (.istore_n 2, 1)), (96, (.goto 55, 3)), (99, (.aload_n 0, 1)), (100, (.getfield 317, 3)), (103, (.istore_n 2, 1)), (104, (.goto 47, 3)), (107, (.aload_n 0, 1)), (108, (.getfield 314, 3)), (111, (.aload_n 0, 1)), (112, (.getfield 323, 3)), (115, (.if_icmp .eq 7, 3))] = true := by decide +kernel
theorem dX12_holds_0 : decode cX12_holds 0 = .ok (.iload_n 1, 1) := xdc ddX12_holds_0 0 rfl
theorem dX12_holds_1 : decode cX12_holds 1 = .ok (.iconst 1, 1) := xdc ddX12_holds_0 1 rfl
theorem dX12_holds_2 : decode cX12_holds 2 = .ok (.ishr, 1) := xdc ddX12_holds_0 2 rfl
theorem dX12_holds_3 : decode cX12_holds 3 = .ok (.tableswitch 124 0 6 #[41, 49, 57, 65, 88, 96, 104], 41) := xdc ddX12_holds_0 3 rfl
theorem dX12_holds_44 : decode cX12_holds 44 = .ok (.aload_n 0, 1) := xdc ddX12_holds_0 4 rfl
theorem dX12_holds_45 : decode cX12_holds 45 = .ok (.getfield 323, 3) := xdc ddX12_holds_0 5 rfl
theorem dX12_holds_48 : decode cX12_holds 48 = .ok (.istore_n 2, 1) := xdc ddX12_holds_0 6 rfl
theorem dX12_holds_49 : decode cX12_holds 49 = .ok (.goto 102, 3) := xdc ddX12_holds_0 7 rfl
theorem dX12_holds_52 : decode cX12_holds 52 = .ok (.aload_n 0, 1) := xdc ddX12_holds_0 8 rfl
theorem dX12_holds_53 : decode cX12_holds 53 = .ok (.getfield 320, 3) := xdc ddX12_holds_0 9 rfl
theorem dX12_holds_56 : decode cX12_holds 56 = .ok (.istore_n 2, 1) := xdc ddX12_holds_0 10 rfl
theorem dX12_holds_57 : decode cX12_holds 57 = .ok (.goto 94, 3) := xdc ddX12_holds_0 11 rfl
theorem dX12_holds_60 : decode cX12_holds 60 = .ok (.aload_n 0, 1) := xdc ddX12_holds_0 12 rfl
theorem dX12_holds_61 : decode cX12_holds 61 = .ok (.getfield 307, 3) := xdc ddX12_holds_0 13 rfl
theorem dX12_holds_64 : decode cX12_holds 64 = .ok (.istore_n 2, 1) := xdc ddX12_holds_0 14 rfl
theorem dX12_holds_65 : decode cX12_holds 65 = .ok (.goto 86, 3) := xdc ddX12_holds_0 15 rfl
theorem dX12_holds_68 : decode cX12_holds 68 = .ok (.aload_n 0, 1) := xdc ddX12_holds_0 16 rfl
theorem dX12_holds_69 : decode cX12_holds 69 = .ok (.getfield 320, 3) := xdc ddX12_holds_0 17 rfl
theorem dX12_holds_72 : decode cX12_holds 72 = .ok (.ifCond .ne 10, 3) := xdc ddX12_holds_0 18 rfl
theorem dX12_holds_75 : decode cX12_holds 75 = .ok (.aload_n 0, 1) := xdc ddX12_holds_0 19 rfl
theorem dX12_holds_76 : decode cX12_holds 76 = .ok (.getfield 307, 3) := xdc ddX12_holds_0 20 rfl
theorem dX12_holds_79 : decode cX12_holds 79 = .ok (.ifCond .eq 7, 3) := xdc ddX12_holds_0 21 rfl
theorem dX12_holds_82 : decode cX12_holds 82 = .ok (.iconst 1, 1) := xdc ddX12_holds_0 22 rfl
theorem dX12_holds_83 : decode cX12_holds 83 = .ok (.goto 4, 3) := xdc ddX12_holds_0 23 rfl
theorem dX12_holds_86 : decode cX12_holds 86 = .ok (.iconst 0, 1) := xdc ddX12_holds_0 24 rfl
theorem dX12_holds_87 : decode cX12_holds 87 = .ok (.istore_n 2, 1) := xdc ddX12_holds_0 25 rfl
theorem dX12_holds_88 : decode cX12_holds 88 = .ok (.goto 63, 3) := xdc ddX12_holds_0 26 rfl
theorem dX12_holds_91 : decode cX12_holds 91 = .ok (.aload_n 0, 1) := xdc ddX12_holds_0 27 rfl
theorem dX12_holds_92 : decode cX12_holds 92 = .ok (.getfield 314, 3) := xdc ddX12_holds_0 28 rfl
theorem dX12_holds_95 : decode cX12_holds 95 = .ok (.istore_n 2, 1) := xdc ddX12_holds_0 29 rfl
theorem dX12_holds_96 : decode cX12_holds 96 = .ok (.goto 55, 3) := xdc ddX12_holds_0 30 rfl
theorem dX12_holds_99 : decode cX12_holds 99 = .ok (.aload_n 0, 1) := xdc ddX12_holds_0 31 rfl
theorem dX12_holds_100 : decode cX12_holds 100 = .ok (.getfield 317, 3) := xdc ddX12_holds_0 32 rfl
theorem dX12_holds_103 : decode cX12_holds 103 = .ok (.istore_n 2, 1) := xdc ddX12_holds_0 33 rfl
theorem dX12_holds_104 : decode cX12_holds 104 = .ok (.goto 47, 3) := xdc ddX12_holds_0 34 rfl
theorem dX12_holds_107 : decode cX12_holds 107 = .ok (.aload_n 0, 1) := xdc ddX12_holds_0 35 rfl
theorem dX12_holds_108 : decode cX12_holds 108 = .ok (.getfield 314, 3) := xdc ddX12_holds_0 36 rfl
theorem dX12_holds_111 : decode cX12_holds 111 = .ok (.aload_n 0, 1) := xdc ddX12_holds_0 37 rfl
theorem dX12_holds_112 : decode cX12_holds 112 = .ok (.getfield 323, 3) := xdc ddX12_holds_0 38 rfl
theorem dX12_holds_115 : decode cX12_holds 115 = .ok (.if_icmp .eq 7, 3) := xdc ddX12_holds_0 39 rfl
theorem ddX12_holds_1 : xdec cX12_holds [(118, (.iconst 1, 1)), (119, (.goto 4, 3)), (122, (.iconst 0, 1)), (123, (.istore_n 2, 1)), (124, (.goto 27, 3)), (127, (.aload_n 0, 1)), (128, (.getfield 307, 3)), (131, (.ifCond .ne 14, 3)), (134, (.aload_n 0, 1)), (135, (.getfield 314, 3)), (138, (.aload_n 0, 1)), (139, (.getfield 323, 3)), (142, (.if_icmp .eq 7, 3)), (145, (.iconst 1, 1)), (146, (.goto 4, 3)), (149, (.iconst 0, 1)), (150, (.istore_n 2, 1)), (151, (.iload_n 1, 1)), (152, (.iconst 1, 1)), (153, (.iand, 1)), (154, (.ifCond .ne 7, 3)), (157, (.iconst 1, 1)), (158, (.goto 4, 3)), (161, (.iconst 0, 1)), (162, (.iload_n 2, 1)), (163, (.if_icmp .ne 7, 3)), (166, (.iconst 1, 1)), (167, (.goto 4, 3)), (170, (.iconst 0, 1)), (171, (.ireturn, 1))] = true := by decide +kernel
theorem dX12_holds_118 : decode cX12_holds 118 = .ok (.iconst 1, 1) := xdc ddX12_holds_1 0 rfl
theorem dX12_holds_119 : decode cX12_holds 119 = .ok (.goto 4, 3) := xdc ddX12_holds_1 1 rfl
theorem dX12_holds_122 : decode cX12_holds 122 = .ok (.iconst 0, 1) := xdc ddX12_holds_1 2 rfl
theorem dX12_holds_123 : decode cX12_holds 123 = .ok (.istore_n 2, 1) := xdc ddX12_holds_1 3 rfl
theorem dX12_holds_124 : decode cX12_holds 124 = .ok (.goto 27, 3) := xdc ddX12_holds_1 4 rfl
theorem dX12_holds_127 : decode cX12_holds 127 = .ok (.aload_n 0, 1) := xdc ddX12_holds_1 5 rfl
theorem dX12_holds_128 : decode cX12_holds 128 = .ok (.getfield 307, 3) := xdc ddX12_holds_1 6 rfl
theorem dX12_holds_131 : decode cX12_holds 131 = .ok (.ifCond .ne 14, 3) := xdc ddX12_holds_1 7 rfl
theorem dX12_holds_134 : decode cX12_holds 134 = .ok (.aload_n 0, 1) := xdc ddX12_holds_1 8 rfl
theorem dX12_holds_135 : decode cX12_holds 135 = .ok (.getfield 314, 3) := xdc ddX12_holds_1 9 rfl
theorem dX12_holds_138 : decode cX12_holds 138 = .ok (.aload_n 0, 1) := xdc ddX12_holds_1 10 rfl
theorem dX12_holds_139 : decode cX12_holds 139 = .ok (.getfield 323, 3) := xdc ddX12_holds_1 11 rfl
theorem dX12_holds_142 : decode cX12_holds 142 = .ok (.if_icmp .eq 7, 3) := xdc ddX12_holds_1 12 rfl
theorem dX12_holds_145 : decode cX12_holds 145 = .ok (.iconst 1, 1) := xdc ddX12_holds_1 13 rfl
theorem dX12_holds_146 : decode cX12_holds 146 = .ok (.goto 4, 3) := xdc ddX12_holds_1 14 rfl
theorem dX12_holds_149 : decode cX12_holds 149 = .ok (.iconst 0, 1) := xdc ddX12_holds_1 15 rfl
theorem dX12_holds_150 : decode cX12_holds 150 = .ok (.istore_n 2, 1) := xdc ddX12_holds_1 16 rfl
theorem dX12_holds_151 : decode cX12_holds 151 = .ok (.iload_n 1, 1) := xdc ddX12_holds_1 17 rfl
theorem dX12_holds_152 : decode cX12_holds 152 = .ok (.iconst 1, 1) := xdc ddX12_holds_1 18 rfl
theorem dX12_holds_153 : decode cX12_holds 153 = .ok (.iand, 1) := xdc ddX12_holds_1 19 rfl
theorem dX12_holds_154 : decode cX12_holds 154 = .ok (.ifCond .ne 7, 3) := xdc ddX12_holds_1 20 rfl
theorem dX12_holds_157 : decode cX12_holds 157 = .ok (.iconst 1, 1) := xdc ddX12_holds_1 21 rfl
theorem dX12_holds_158 : decode cX12_holds 158 = .ok (.goto 4, 3) := xdc ddX12_holds_1 22 rfl
theorem dX12_holds_161 : decode cX12_holds 161 = .ok (.iconst 0, 1) := xdc ddX12_holds_1 23 rfl
theorem dX12_holds_162 : decode cX12_holds 162 = .ok (.iload_n 2, 1) := xdc ddX12_holds_1 24 rfl
theorem dX12_holds_163 : decode cX12_holds 163 = .ok (.if_icmp .ne 7, 3) := xdc ddX12_holds_1 25 rfl
theorem dX12_holds_166 : decode cX12_holds 166 = .ok (.iconst 1, 1) := xdc ddX12_holds_1 26 rfl
theorem dX12_holds_167 : decode cX12_holds 167 = .ok (.goto 4, 3) := xdc ddX12_holds_1 27 rfl
theorem dX12_holds_170 : decode cX12_holds 170 = .ok (.iconst 0, 1) := xdc ddX12_holds_1 28 rfl
theorem dX12_holds_171 : decode cX12_holds 171 = .ok (.ireturn, 1) := xdc ddX12_holds_1 29 rfl
abbrev cX12_firstOf : ByteArray := prog_14_method_59_code
theorem ddX12_firstOf_0 : xdec cX12_firstOf [(0, (.aload_n 0, 1)), (1, (.getfield 73, 3)), (4, (.iconst 3, 1)), (5, (.if_icmp .ne 15, 3)), (8, (.aload_n 0, 1)), (9, (.iconst 0, 1)), (10, (.aload_n 0, 1)), (11, (.getfield 76, 3)), (14, (.invokevirtual 291, 3)), (17, (.goto 54, 3)), (20, (.aload_n 0, 1)), (21, (.getfield 73, 3)), (24, (.iconst 2, 1)), (25, (.if_icmp .ne 18, 3)), (28, (.aload_n 0, 1)), (29, (.aload_n 0, 1)), (30, (.getfield 85, 3)), (33, (.aload_n 0, 1)), (34, (.getfield 76, 3)), (37, (.invokevirtual 291, 3)), (40, (.goto 31, 3)), (43, (.aload_n 0, 1)), (44, (.getfield 73, 3)), (47, (.bipush 6, 2)), (49, (.if_icmp .ne 18, 3)), (52, (.aload_n 0, 1)), (53, (.aload_n 0, 1)), (54, (.getfield 88, 3)), (57, (.aload_n 0, 1)), (58, (.getfield 76, 3)), (61, (.invokevirtual 291, 3)), (64, (.goto 7, 3)), (67, (.aload_n 0, 1)), (68, (.invokevirtual 336, 3)), (71, (.ireturn, 1))] = true := by decide +kernel
theorem dX12_firstOf_0 : decode cX12_firstOf 0 = .ok (.aload_n 0, 1) := xdc ddX12_firstOf_0 0 rfl
theorem dX12_firstOf_1 : decode cX12_firstOf 1 = .ok (.getfield 73, 3) := xdc ddX12_firstOf_0 1 rfl
theorem dX12_firstOf_4 : decode cX12_firstOf 4 = .ok (.iconst 3, 1) := xdc ddX12_firstOf_0 2 rfl
theorem dX12_firstOf_5 : decode cX12_firstOf 5 = .ok (.if_icmp .ne 15, 3) := xdc ddX12_firstOf_0 3 rfl
theorem dX12_firstOf_8 : decode cX12_firstOf 8 = .ok (.aload_n 0, 1) := xdc ddX12_firstOf_0 4 rfl
theorem dX12_firstOf_9 : decode cX12_firstOf 9 = .ok (.iconst 0, 1) := xdc ddX12_firstOf_0 5 rfl
theorem dX12_firstOf_10 : decode cX12_firstOf 10 = .ok (.aload_n 0, 1) := xdc ddX12_firstOf_0 6 rfl
theorem dX12_firstOf_11 : decode cX12_firstOf 11 = .ok (.getfield 76, 3) := xdc ddX12_firstOf_0 7 rfl
theorem dX12_firstOf_14 : decode cX12_firstOf 14 = .ok (.invokevirtual 291, 3) := xdc ddX12_firstOf_0 8 rfl
theorem dX12_firstOf_17 : decode cX12_firstOf 17 = .ok (.goto 54, 3) := xdc ddX12_firstOf_0 9 rfl
theorem dX12_firstOf_20 : decode cX12_firstOf 20 = .ok (.aload_n 0, 1) := xdc ddX12_firstOf_0 10 rfl
theorem dX12_firstOf_21 : decode cX12_firstOf 21 = .ok (.getfield 73, 3) := xdc ddX12_firstOf_0 11 rfl
theorem dX12_firstOf_24 : decode cX12_firstOf 24 = .ok (.iconst 2, 1) := xdc ddX12_firstOf_0 12 rfl
theorem dX12_firstOf_25 : decode cX12_firstOf 25 = .ok (.if_icmp .ne 18, 3) := xdc ddX12_firstOf_0 13 rfl
theorem dX12_firstOf_28 : decode cX12_firstOf 28 = .ok (.aload_n 0, 1) := xdc ddX12_firstOf_0 14 rfl
theorem dX12_firstOf_29 : decode cX12_firstOf 29 = .ok (.aload_n 0, 1) := xdc ddX12_firstOf_0 15 rfl
theorem dX12_firstOf_30 : decode cX12_firstOf 30 = .ok (.getfield 85, 3) := xdc ddX12_firstOf_0 16 rfl
theorem dX12_firstOf_33 : decode cX12_firstOf 33 = .ok (.aload_n 0, 1) := xdc ddX12_firstOf_0 17 rfl
theorem dX12_firstOf_34 : decode cX12_firstOf 34 = .ok (.getfield 76, 3) := xdc ddX12_firstOf_0 18 rfl
theorem dX12_firstOf_37 : decode cX12_firstOf 37 = .ok (.invokevirtual 291, 3) := xdc ddX12_firstOf_0 19 rfl
theorem dX12_firstOf_40 : decode cX12_firstOf 40 = .ok (.goto 31, 3) := xdc ddX12_firstOf_0 20 rfl
theorem dX12_firstOf_43 : decode cX12_firstOf 43 = .ok (.aload_n 0, 1) := xdc ddX12_firstOf_0 21 rfl
theorem dX12_firstOf_44 : decode cX12_firstOf 44 = .ok (.getfield 73, 3) := xdc ddX12_firstOf_0 22 rfl
theorem dX12_firstOf_47 : decode cX12_firstOf 47 = .ok (.bipush 6, 2) := xdc ddX12_firstOf_0 23 rfl
theorem dX12_firstOf_49 : decode cX12_firstOf 49 = .ok (.if_icmp .ne 18, 3) := xdc ddX12_firstOf_0 24 rfl
theorem dX12_firstOf_52 : decode cX12_firstOf 52 = .ok (.aload_n 0, 1) := xdc ddX12_firstOf_0 25 rfl
theorem dX12_firstOf_53 : decode cX12_firstOf 53 = .ok (.aload_n 0, 1) := xdc ddX12_firstOf_0 26 rfl
theorem dX12_firstOf_54 : decode cX12_firstOf 54 = .ok (.getfield 88, 3) := xdc ddX12_firstOf_0 27 rfl
theorem dX12_firstOf_57 : decode cX12_firstOf 57 = .ok (.aload_n 0, 1) := xdc ddX12_firstOf_0 28 rfl
theorem dX12_firstOf_58 : decode cX12_firstOf 58 = .ok (.getfield 76, 3) := xdc ddX12_firstOf_0 29 rfl
theorem dX12_firstOf_61 : decode cX12_firstOf 61 = .ok (.invokevirtual 291, 3) := xdc ddX12_firstOf_0 30 rfl
theorem dX12_firstOf_64 : decode cX12_firstOf 64 = .ok (.goto 7, 3) := xdc ddX12_firstOf_0 31 rfl
theorem dX12_firstOf_67 : decode cX12_firstOf 67 = .ok (.aload_n 0, 1) := xdc ddX12_firstOf_0 32 rfl
theorem dX12_firstOf_68 : decode cX12_firstOf 68 = .ok (.invokevirtual 336, 3) := xdc ddX12_firstOf_0 33 rfl
theorem dX12_firstOf_71 : decode cX12_firstOf 71 = .ok (.ireturn, 1) := xdc ddX12_firstOf_0 34 rfl
abbrev cX12_secondOf : ByteArray := prog_14_method_60_code
theorem ddX12_secondOf_0 : xdec cX12_secondOf [(0, (.aload_n 0, 1)), (1, (.getfield 73, 3)), (4, (.iconst 3, 1)), (5, (.if_icmp .eq 11, 3)), (8, (.aload_n 0, 1)), (9, (.getfield 73, 3)), (12, (.iconst 4, 1)), (13, (.if_icmp .ne 10, 3)), (16, (.aload_n 0, 1)), (17, (.getfield 109, 3)), (20, (.goto 30, 3)), (23, (.aload_n 0, 1)), (24, (.getfield 73, 3)), (27, (.iconst 2, 1)), (28, (.if_icmp .ne 10, 3)), (31, (.aload_n 0, 1)), (32, (.invokevirtual 336, 3)), (35, (.goto 15, 3)), (38, (.aload_n 0, 1)), (39, (.aload_n 0, 1)), (40, (.getfield 85, 3)), (43, (.aload_n 0, 1)), (44, (.getfield 76, 3)), (47, (.invokevirtual 291, 3)), (50, (.ireturn, 1))] = true := by decide +kernel
theorem dX12_secondOf_0 : decode cX12_secondOf 0 = .ok (.aload_n 0, 1) := xdc ddX12_secondOf_0 0 rfl
theorem dX12_secondOf_1 : decode cX12_secondOf 1 = .ok (.getfield 73, 3) := xdc ddX12_secondOf_0 1 rfl
theorem dX12_secondOf_4 : decode cX12_secondOf 4 = .ok (.iconst 3, 1) := xdc ddX12_secondOf_0 2 rfl
theorem dX12_secondOf_5 : decode cX12_secondOf 5 = .ok (.if_icmp .eq 11, 3) := xdc ddX12_secondOf_0 3 rfl
theorem dX12_secondOf_8 : decode cX12_secondOf 8 = .ok (.aload_n 0, 1) := xdc ddX12_secondOf_0 4 rfl
theorem dX12_secondOf_9 : decode cX12_secondOf 9 = .ok (.getfield 73, 3) := xdc ddX12_secondOf_0 5 rfl
theorem dX12_secondOf_12 : decode cX12_secondOf 12 = .ok (.iconst 4, 1) := xdc ddX12_secondOf_0 6 rfl
theorem dX12_secondOf_13 : decode cX12_secondOf 13 = .ok (.if_icmp .ne 10, 3) := xdc ddX12_secondOf_0 7 rfl
theorem dX12_secondOf_16 : decode cX12_secondOf 16 = .ok (.aload_n 0, 1) := xdc ddX12_secondOf_0 8 rfl
theorem dX12_secondOf_17 : decode cX12_secondOf 17 = .ok (.getfield 109, 3) := xdc ddX12_secondOf_0 9 rfl
theorem dX12_secondOf_20 : decode cX12_secondOf 20 = .ok (.goto 30, 3) := xdc ddX12_secondOf_0 10 rfl
theorem dX12_secondOf_23 : decode cX12_secondOf 23 = .ok (.aload_n 0, 1) := xdc ddX12_secondOf_0 11 rfl
theorem dX12_secondOf_24 : decode cX12_secondOf 24 = .ok (.getfield 73, 3) := xdc ddX12_secondOf_0 12 rfl
theorem dX12_secondOf_27 : decode cX12_secondOf 27 = .ok (.iconst 2, 1) := xdc ddX12_secondOf_0 13 rfl
theorem dX12_secondOf_28 : decode cX12_secondOf 28 = .ok (.if_icmp .ne 10, 3) := xdc ddX12_secondOf_0 14 rfl
theorem dX12_secondOf_31 : decode cX12_secondOf 31 = .ok (.aload_n 0, 1) := xdc ddX12_secondOf_0 15 rfl
theorem dX12_secondOf_32 : decode cX12_secondOf 32 = .ok (.invokevirtual 336, 3) := xdc ddX12_secondOf_0 16 rfl
theorem dX12_secondOf_35 : decode cX12_secondOf 35 = .ok (.goto 15, 3) := xdc ddX12_secondOf_0 17 rfl
theorem dX12_secondOf_38 : decode cX12_secondOf 38 = .ok (.aload_n 0, 1) := xdc ddX12_secondOf_0 18 rfl
theorem dX12_secondOf_39 : decode cX12_secondOf 39 = .ok (.aload_n 0, 1) := xdc ddX12_secondOf_0 19 rfl
theorem dX12_secondOf_40 : decode cX12_secondOf 40 = .ok (.getfield 85, 3) := xdc ddX12_secondOf_0 20 rfl
theorem dX12_secondOf_43 : decode cX12_secondOf 43 = .ok (.aload_n 0, 1) := xdc ddX12_secondOf_0 21 rfl
theorem dX12_secondOf_44 : decode cX12_secondOf 44 = .ok (.getfield 76, 3) := xdc ddX12_secondOf_0 22 rfl
theorem dX12_secondOf_47 : decode cX12_secondOf 47 = .ok (.invokevirtual 291, 3) := xdc ddX12_secondOf_0 23 rfl
theorem dX12_secondOf_50 : decode cX12_secondOf 50 = .ok (.ireturn, 1) := xdc ddX12_secondOf_0 24 rfl
abbrev cX12_setFirst : ByteArray := prog_14_method_61_code
theorem ddX12_setFirst_0 : xdec cX12_setFirst [(0, (.aload_n 0, 1)), (1, (.getfield 73, 3)), (4, (.iconst 3, 1)), (5, (.if_icmp .ne 16, 3)), (8, (.aload_n 0, 1)), (9, (.iconst 0, 1)), (10, (.aload_n 0, 1)), (11, (.getfield 76, 3)), (14, (.iload_n 1, 1)), (15, (.invokevirtual 297, 3)), (18, (.goto 57, 3)), (21, (.aload_n 0, 1)), (22, (.getfield 73, 3)), (25, (.iconst 2, 1)), (26, (.if_icmp .ne 19, 3)), (29, (.aload_n 0, 1)), (30, (.aload_n 0, 1)), (31, (.getfield 85, 3)), (34, (.aload_n 0, 1)), (35, (.getfield 76, 3)), (38, (.iload_n 1, 1)), (39, (.invokevirtual 297, 3)), (42, (.goto 33, 3)), (45, (.aload_n 0, 1)), (46, (.getfield 73, 3)), (49, (.bipush 6, 2)), (51, (.if_icmp .ne 19, 3)), (54, (.aload_n 0, 1)), (55, (.aload_n 0, 1)), (56, (.getfield 88, 3)), (59, (.aload_n 0, 1)), (60, (.getfield 76, 3)), (63, (.iload_n 1, 1)), (64, (.invokevirtual 297, 3)), (67, (.goto 8, 3)), (70, (.aload_n 0, 1)), (71, (.iload_n 1, 1)), (72, (.invokevirtual 339, 3)), (75, (.return_, 1))] = true := by decide +kernel
theorem dX12_setFirst_0 : decode cX12_setFirst 0 = .ok (.aload_n 0, 1) := xdc ddX12_setFirst_0 0 rfl
theorem dX12_setFirst_1 : decode cX12_setFirst 1 = .ok (.getfield 73, 3) := xdc ddX12_setFirst_0 1 rfl
theorem dX12_setFirst_4 : decode cX12_setFirst 4 = .ok (.iconst 3, 1) := xdc ddX12_setFirst_0 2 rfl
theorem dX12_setFirst_5 : decode cX12_setFirst 5 = .ok (.if_icmp .ne 16, 3) := xdc ddX12_setFirst_0 3 rfl
theorem dX12_setFirst_8 : decode cX12_setFirst 8 = .ok (.aload_n 0, 1) := xdc ddX12_setFirst_0 4 rfl
theorem dX12_setFirst_9 : decode cX12_setFirst 9 = .ok (.iconst 0, 1) := xdc ddX12_setFirst_0 5 rfl
theorem dX12_setFirst_10 : decode cX12_setFirst 10 = .ok (.aload_n 0, 1) := xdc ddX12_setFirst_0 6 rfl
theorem dX12_setFirst_11 : decode cX12_setFirst 11 = .ok (.getfield 76, 3) := xdc ddX12_setFirst_0 7 rfl
theorem dX12_setFirst_14 : decode cX12_setFirst 14 = .ok (.iload_n 1, 1) := xdc ddX12_setFirst_0 8 rfl
theorem dX12_setFirst_15 : decode cX12_setFirst 15 = .ok (.invokevirtual 297, 3) := xdc ddX12_setFirst_0 9 rfl
theorem dX12_setFirst_18 : decode cX12_setFirst 18 = .ok (.goto 57, 3) := xdc ddX12_setFirst_0 10 rfl
theorem dX12_setFirst_21 : decode cX12_setFirst 21 = .ok (.aload_n 0, 1) := xdc ddX12_setFirst_0 11 rfl
theorem dX12_setFirst_22 : decode cX12_setFirst 22 = .ok (.getfield 73, 3) := xdc ddX12_setFirst_0 12 rfl
theorem dX12_setFirst_25 : decode cX12_setFirst 25 = .ok (.iconst 2, 1) := xdc ddX12_setFirst_0 13 rfl
theorem dX12_setFirst_26 : decode cX12_setFirst 26 = .ok (.if_icmp .ne 19, 3) := xdc ddX12_setFirst_0 14 rfl
theorem dX12_setFirst_29 : decode cX12_setFirst 29 = .ok (.aload_n 0, 1) := xdc ddX12_setFirst_0 15 rfl
theorem dX12_setFirst_30 : decode cX12_setFirst 30 = .ok (.aload_n 0, 1) := xdc ddX12_setFirst_0 16 rfl
theorem dX12_setFirst_31 : decode cX12_setFirst 31 = .ok (.getfield 85, 3) := xdc ddX12_setFirst_0 17 rfl
theorem dX12_setFirst_34 : decode cX12_setFirst 34 = .ok (.aload_n 0, 1) := xdc ddX12_setFirst_0 18 rfl
theorem dX12_setFirst_35 : decode cX12_setFirst 35 = .ok (.getfield 76, 3) := xdc ddX12_setFirst_0 19 rfl
theorem dX12_setFirst_38 : decode cX12_setFirst 38 = .ok (.iload_n 1, 1) := xdc ddX12_setFirst_0 20 rfl
theorem dX12_setFirst_39 : decode cX12_setFirst 39 = .ok (.invokevirtual 297, 3) := xdc ddX12_setFirst_0 21 rfl
theorem dX12_setFirst_42 : decode cX12_setFirst 42 = .ok (.goto 33, 3) := xdc ddX12_setFirst_0 22 rfl
theorem dX12_setFirst_45 : decode cX12_setFirst 45 = .ok (.aload_n 0, 1) := xdc ddX12_setFirst_0 23 rfl
theorem dX12_setFirst_46 : decode cX12_setFirst 46 = .ok (.getfield 73, 3) := xdc ddX12_setFirst_0 24 rfl
theorem dX12_setFirst_49 : decode cX12_setFirst 49 = .ok (.bipush 6, 2) := xdc ddX12_setFirst_0 25 rfl
theorem dX12_setFirst_51 : decode cX12_setFirst 51 = .ok (.if_icmp .ne 19, 3) := xdc ddX12_setFirst_0 26 rfl
theorem dX12_setFirst_54 : decode cX12_setFirst 54 = .ok (.aload_n 0, 1) := xdc ddX12_setFirst_0 27 rfl
theorem dX12_setFirst_55 : decode cX12_setFirst 55 = .ok (.aload_n 0, 1) := xdc ddX12_setFirst_0 28 rfl
theorem dX12_setFirst_56 : decode cX12_setFirst 56 = .ok (.getfield 88, 3) := xdc ddX12_setFirst_0 29 rfl
theorem dX12_setFirst_59 : decode cX12_setFirst 59 = .ok (.aload_n 0, 1) := xdc ddX12_setFirst_0 30 rfl
theorem dX12_setFirst_60 : decode cX12_setFirst 60 = .ok (.getfield 76, 3) := xdc ddX12_setFirst_0 31 rfl
theorem dX12_setFirst_63 : decode cX12_setFirst 63 = .ok (.iload_n 1, 1) := xdc ddX12_setFirst_0 32 rfl
theorem dX12_setFirst_64 : decode cX12_setFirst 64 = .ok (.invokevirtual 297, 3) := xdc ddX12_setFirst_0 33 rfl
theorem dX12_setFirst_67 : decode cX12_setFirst 67 = .ok (.goto 8, 3) := xdc ddX12_setFirst_0 34 rfl
theorem dX12_setFirst_70 : decode cX12_setFirst 70 = .ok (.aload_n 0, 1) := xdc ddX12_setFirst_0 35 rfl
theorem dX12_setFirst_71 : decode cX12_setFirst 71 = .ok (.iload_n 1, 1) := xdc ddX12_setFirst_0 36 rfl
theorem dX12_setFirst_72 : decode cX12_setFirst 72 = .ok (.invokevirtual 339, 3) := xdc ddX12_setFirst_0 37 rfl
theorem dX12_setFirst_75 : decode cX12_setFirst 75 = .ok (.return_, 1) := xdc ddX12_setFirst_0 38 rfl
abbrev cX12_shifted : ByteArray := prog_14_method_62_code
theorem ddX12_shifted_0 : xdec cX12_shifted [(0, (.aload_n 0, 1)), (1, (.getfield 76, 3)), (4, (.istore_n 3, 1)), (5, (.iload_n 1, 1)), (6, (.iload_n 3, 1)), (7, (.invokestatic 303, 3)), (10, (.iand, 1)), (11, (.istore 4, 2)), (13, (.iconst 0, 1)), (14, (.istore 5, 2)), (16, (.iload 5, 2)), (18, (.iload_n 2, 1)), (19, (.if_icmp .ge 369, 3)), (22, (.iload 4, 2)), (24, (.iload_n 3, 1)), (25, (.invokestatic 310, 3)), (28, (.istore 6, 2)), (30, (.iload 4, 2)), (32, (.iconst 1, 1)), (33, (.iand, 1)), (34, (.ifCond .eq 7, 3)), (37, (.iconst 1, 1)), (38, (.goto 4, 3)), (41, (.iconst 0, 1)), (42, (.istore 7, 2)), (44, (.iconst 1, 1)), (45, (.bipush 8, 2)), (47, (.iload_n 3, 1)), (48, (.imul, 1)), (49, (.iconst 1, 1)), (50, (.isub, 1)), (51, (.ishl, 1)), (52, (.istore 8, 2)), (54, (.aload_n 0, 1)), (55, (.getfield 70, 3)), (58, (.tableswitch 178 21 26 #[38, 64, 91, 119, 148, 163], 38)), (96, (.iload 4, 2)), (98, (.iconst 1, 1)), (99, (.ishl, 1)), (100, (.iload 6, 2))] = true := by decide +kernel
theorem dX12_shifted_0 : decode cX12_shifted 0 = .ok (.aload_n 0, 1) := xdc ddX12_shifted_0 0 rfl
theorem dX12_shifted_1 : decode cX12_shifted 1 = .ok (.getfield 76, 3) := xdc ddX12_shifted_0 1 rfl
theorem dX12_shifted_4 : decode cX12_shifted 4 = .ok (.istore_n 3, 1) := xdc ddX12_shifted_0 2 rfl
theorem dX12_shifted_5 : decode cX12_shifted 5 = .ok (.iload_n 1, 1) := xdc ddX12_shifted_0 3 rfl
theorem dX12_shifted_6 : decode cX12_shifted 6 = .ok (.iload_n 3, 1) := xdc ddX12_shifted_0 4 rfl
theorem dX12_shifted_7 : decode cX12_shifted 7 = .ok (.invokestatic 303, 3) := xdc ddX12_shifted_0 5 rfl
theorem dX12_shifted_10 : decode cX12_shifted 10 = .ok (.iand, 1) := xdc ddX12_shifted_0 6 rfl
theorem dX12_shifted_11 : decode cX12_shifted 11 = .ok (.istore 4, 2) := xdc ddX12_shifted_0 7 rfl
theorem dX12_shifted_13 : decode cX12_shifted 13 = .ok (.iconst 0, 1) := xdc ddX12_shifted_0 8 rfl
theorem dX12_shifted_14 : decode cX12_shifted 14 = .ok (.istore 5, 2) := xdc ddX12_shifted_0 9 rfl
theorem dX12_shifted_16 : decode cX12_shifted 16 = .ok (.iload 5, 2) := xdc ddX12_shifted_0 10 rfl
theorem dX12_shifted_18 : decode cX12_shifted 18 = .ok (.iload_n 2, 1) := xdc ddX12_shifted_0 11 rfl
theorem dX12_shifted_19 : decode cX12_shifted 19 = .ok (.if_icmp .ge 369, 3) := xdc ddX12_shifted_0 12 rfl
theorem dX12_shifted_22 : decode cX12_shifted 22 = .ok (.iload 4, 2) := xdc ddX12_shifted_0 13 rfl
theorem dX12_shifted_24 : decode cX12_shifted 24 = .ok (.iload_n 3, 1) := xdc ddX12_shifted_0 14 rfl
theorem dX12_shifted_25 : decode cX12_shifted 25 = .ok (.invokestatic 310, 3) := xdc ddX12_shifted_0 15 rfl
theorem dX12_shifted_28 : decode cX12_shifted 28 = .ok (.istore 6, 2) := xdc ddX12_shifted_0 16 rfl
theorem dX12_shifted_30 : decode cX12_shifted 30 = .ok (.iload 4, 2) := xdc ddX12_shifted_0 17 rfl
theorem dX12_shifted_32 : decode cX12_shifted 32 = .ok (.iconst 1, 1) := xdc ddX12_shifted_0 18 rfl
theorem dX12_shifted_33 : decode cX12_shifted 33 = .ok (.iand, 1) := xdc ddX12_shifted_0 19 rfl
theorem dX12_shifted_34 : decode cX12_shifted 34 = .ok (.ifCond .eq 7, 3) := xdc ddX12_shifted_0 20 rfl
theorem dX12_shifted_37 : decode cX12_shifted 37 = .ok (.iconst 1, 1) := xdc ddX12_shifted_0 21 rfl
theorem dX12_shifted_38 : decode cX12_shifted 38 = .ok (.goto 4, 3) := xdc ddX12_shifted_0 22 rfl
theorem dX12_shifted_41 : decode cX12_shifted 41 = .ok (.iconst 0, 1) := xdc ddX12_shifted_0 23 rfl
theorem dX12_shifted_42 : decode cX12_shifted 42 = .ok (.istore 7, 2) := xdc ddX12_shifted_0 24 rfl
theorem dX12_shifted_44 : decode cX12_shifted 44 = .ok (.iconst 1, 1) := xdc ddX12_shifted_0 25 rfl
theorem dX12_shifted_45 : decode cX12_shifted 45 = .ok (.bipush 8, 2) := xdc ddX12_shifted_0 26 rfl
theorem dX12_shifted_47 : decode cX12_shifted 47 = .ok (.iload_n 3, 1) := xdc ddX12_shifted_0 27 rfl
theorem dX12_shifted_48 : decode cX12_shifted 48 = .ok (.imul, 1) := xdc ddX12_shifted_0 28 rfl
theorem dX12_shifted_49 : decode cX12_shifted 49 = .ok (.iconst 1, 1) := xdc ddX12_shifted_0 29 rfl
theorem dX12_shifted_50 : decode cX12_shifted 50 = .ok (.isub, 1) := xdc ddX12_shifted_0 30 rfl
theorem dX12_shifted_51 : decode cX12_shifted 51 = .ok (.ishl, 1) := xdc ddX12_shifted_0 31 rfl
theorem dX12_shifted_52 : decode cX12_shifted 52 = .ok (.istore 8, 2) := xdc ddX12_shifted_0 32 rfl
theorem dX12_shifted_54 : decode cX12_shifted 54 = .ok (.aload_n 0, 1) := xdc ddX12_shifted_0 33 rfl
theorem dX12_shifted_55 : decode cX12_shifted 55 = .ok (.getfield 70, 3) := xdc ddX12_shifted_0 34 rfl
theorem dX12_shifted_58 : decode cX12_shifted 58 = .ok (.tableswitch 178 21 26 #[38, 64, 91, 119, 148, 163], 38) := xdc ddX12_shifted_0 35 rfl
theorem dX12_shifted_96 : decode cX12_shifted 96 = .ok (.iload 4, 2) := xdc ddX12_shifted_0 36 rfl
theorem dX12_shifted_98 : decode cX12_shifted 98 = .ok (.iconst 1, 1) := xdc ddX12_shifted_0 37 rfl
theorem dX12_shifted_99 : decode cX12_shifted 99 = .ok (.ishl, 1) := xdc ddX12_shifted_0 38 rfl
theorem dX12_shifted_100 : decode cX12_shifted 100 = .ok (.iload 6, 2) := xdc ddX12_shifted_0 39 rfl
theorem ddX12_shifted_1 : xdec cX12_shifted [(102, (.ifCond .eq 7, 3)), (105, (.iconst 1, 1)), (106, (.goto 4, 3)), (109, (.iconst 0, 1)), (110, (.ior, 1)), (111, (.istore 4, 2)), (113, (.aload_n 0, 1)), (114, (.iload 6, 2)), (116, (.putfield 320, 3)), (119, (.goto 141, 3)), (122, (.iload 4, 2)), (124, (.iconst 1, 1)), (125, (.iushr, 1)), (126, (.iload 7, 2)), (128, (.ifCond .eq 8, 3)), (131, (.iload 8, 2)), (133, (.goto 4, 3)), (136, (.iconst 0, 1)), (137, (.ior, 1)), (138, (.istore 4, 2)), (140, (.aload_n 0, 1)), (141, (.iload 7, 2)), (143, (.putfield 320, 3)), (146, (.goto 114, 3)), (149, (.iload 4, 2)), (151, (.iconst 1, 1)), (152, (.ishl, 1)), (153, (.aload_n 0, 1)), (154, (.getfield 320, 3)), (157, (.ifCond .eq 7, 3)), (160, (.iconst 1, 1)), (161, (.goto 4, 3)), (164, (.iconst 0, 1)), (165, (.ior, 1)), (166, (.istore 4, 2)), (168, (.aload_n 0, 1)), (169, (.iload 6, 2)), (171, (.putfield 320, 3)), (174, (.goto 86, 3)), (177, (.iload 4, 2))] = true := by decide +kernel
theorem dX12_shifted_102 : decode cX12_shifted 102 = .ok (.ifCond .eq 7, 3) := xdc ddX12_shifted_1 0 rfl
theorem dX12_shifted_105 : decode cX12_shifted 105 = .ok (.iconst 1, 1) := xdc ddX12_shifted_1 1 rfl
theorem dX12_shifted_106 : decode cX12_shifted 106 = .ok (.goto 4, 3) := xdc ddX12_shifted_1 2 rfl
theorem dX12_shifted_109 : decode cX12_shifted 109 = .ok (.iconst 0, 1) := xdc ddX12_shifted_1 3 rfl
theorem dX12_shifted_110 : decode cX12_shifted 110 = .ok (.ior, 1) := xdc ddX12_shifted_1 4 rfl
theorem dX12_shifted_111 : decode cX12_shifted 111 = .ok (.istore 4, 2) := xdc ddX12_shifted_1 5 rfl
theorem dX12_shifted_113 : decode cX12_shifted 113 = .ok (.aload_n 0, 1) := xdc ddX12_shifted_1 6 rfl
theorem dX12_shifted_114 : decode cX12_shifted 114 = .ok (.iload 6, 2) := xdc ddX12_shifted_1 7 rfl
theorem dX12_shifted_116 : decode cX12_shifted 116 = .ok (.putfield 320, 3) := xdc ddX12_shifted_1 8 rfl
theorem dX12_shifted_119 : decode cX12_shifted 119 = .ok (.goto 141, 3) := xdc ddX12_shifted_1 9 rfl
theorem dX12_shifted_122 : decode cX12_shifted 122 = .ok (.iload 4, 2) := xdc ddX12_shifted_1 10 rfl
theorem dX12_shifted_124 : decode cX12_shifted 124 = .ok (.iconst 1, 1) := xdc ddX12_shifted_1 11 rfl
theorem dX12_shifted_125 : decode cX12_shifted 125 = .ok (.iushr, 1) := xdc ddX12_shifted_1 12 rfl
theorem dX12_shifted_126 : decode cX12_shifted 126 = .ok (.iload 7, 2) := xdc ddX12_shifted_1 13 rfl
theorem dX12_shifted_128 : decode cX12_shifted 128 = .ok (.ifCond .eq 8, 3) := xdc ddX12_shifted_1 14 rfl
theorem dX12_shifted_131 : decode cX12_shifted 131 = .ok (.iload 8, 2) := xdc ddX12_shifted_1 15 rfl
theorem dX12_shifted_133 : decode cX12_shifted 133 = .ok (.goto 4, 3) := xdc ddX12_shifted_1 16 rfl
theorem dX12_shifted_136 : decode cX12_shifted 136 = .ok (.iconst 0, 1) := xdc ddX12_shifted_1 17 rfl
theorem dX12_shifted_137 : decode cX12_shifted 137 = .ok (.ior, 1) := xdc ddX12_shifted_1 18 rfl
theorem dX12_shifted_138 : decode cX12_shifted 138 = .ok (.istore 4, 2) := xdc ddX12_shifted_1 19 rfl
theorem dX12_shifted_140 : decode cX12_shifted 140 = .ok (.aload_n 0, 1) := xdc ddX12_shifted_1 20 rfl
theorem dX12_shifted_141 : decode cX12_shifted 141 = .ok (.iload 7, 2) := xdc ddX12_shifted_1 21 rfl
theorem dX12_shifted_143 : decode cX12_shifted 143 = .ok (.putfield 320, 3) := xdc ddX12_shifted_1 22 rfl
theorem dX12_shifted_146 : decode cX12_shifted 146 = .ok (.goto 114, 3) := xdc ddX12_shifted_1 23 rfl
theorem dX12_shifted_149 : decode cX12_shifted 149 = .ok (.iload 4, 2) := xdc ddX12_shifted_1 24 rfl
theorem dX12_shifted_151 : decode cX12_shifted 151 = .ok (.iconst 1, 1) := xdc ddX12_shifted_1 25 rfl
theorem dX12_shifted_152 : decode cX12_shifted 152 = .ok (.ishl, 1) := xdc ddX12_shifted_1 26 rfl
theorem dX12_shifted_153 : decode cX12_shifted 153 = .ok (.aload_n 0, 1) := xdc ddX12_shifted_1 27 rfl
theorem dX12_shifted_154 : decode cX12_shifted 154 = .ok (.getfield 320, 3) := xdc ddX12_shifted_1 28 rfl
theorem dX12_shifted_157 : decode cX12_shifted 157 = .ok (.ifCond .eq 7, 3) := xdc ddX12_shifted_1 29 rfl
theorem dX12_shifted_160 : decode cX12_shifted 160 = .ok (.iconst 1, 1) := xdc ddX12_shifted_1 30 rfl
theorem dX12_shifted_161 : decode cX12_shifted 161 = .ok (.goto 4, 3) := xdc ddX12_shifted_1 31 rfl
theorem dX12_shifted_164 : decode cX12_shifted 164 = .ok (.iconst 0, 1) := xdc ddX12_shifted_1 32 rfl
theorem dX12_shifted_165 : decode cX12_shifted 165 = .ok (.ior, 1) := xdc ddX12_shifted_1 33 rfl
theorem dX12_shifted_166 : decode cX12_shifted 166 = .ok (.istore 4, 2) := xdc ddX12_shifted_1 34 rfl
theorem dX12_shifted_168 : decode cX12_shifted 168 = .ok (.aload_n 0, 1) := xdc ddX12_shifted_1 35 rfl
theorem dX12_shifted_169 : decode cX12_shifted 169 = .ok (.iload 6, 2) := xdc ddX12_shifted_1 36 rfl
theorem dX12_shifted_171 : decode cX12_shifted 171 = .ok (.putfield 320, 3) := xdc ddX12_shifted_1 37 rfl
theorem dX12_shifted_174 : decode cX12_shifted 174 = .ok (.goto 86, 3) := xdc ddX12_shifted_1 38 rfl
theorem dX12_shifted_177 : decode cX12_shifted 177 = .ok (.iload 4, 2) := xdc ddX12_shifted_1 39 rfl
theorem ddX12_shifted_2 : xdec cX12_shifted [(179, (.iconst 1, 1)), (180, (.iushr, 1)), (181, (.aload_n 0, 1)), (182, (.getfield 320, 3)), (185, (.ifCond .eq 8, 3)), (188, (.iload 8, 2)), (190, (.goto 4, 3)), (193, (.iconst 0, 1)), (194, (.ior, 1)), (195, (.istore 4, 2)), (197, (.aload_n 0, 1)), (198, (.iload 7, 2)), (200, (.putfield 320, 3)), (203, (.goto 57, 3)), (206, (.iload 4, 2)), (208, (.iconst 1, 1)), (209, (.ishl, 1)), (210, (.istore 4, 2)), (212, (.aload_n 0, 1)), (213, (.iload 6, 2)), (215, (.putfield 320, 3)), (218, (.goto 42, 3)), (221, (.iload 4, 2)), (223, (.iconst 1, 1)), (224, (.iushr, 1)), (225, (.istore 4, 2)), (227, (.aload_n 0, 1)), (228, (.iload 7, 2)), (230, (.putfield 320, 3)), (233, (.goto 27, 3)), (236, (.iload 4, 2)), (238, (.iconst 1, 1)), (239, (.iushr, 1)), (240, (.iload 6, 2)), (242, (.ifCond .eq 8, 3)), (245, (.iload 8, 2)), (247, (.goto 4, 3)), (250, (.iconst 0, 1)), (251, (.ior, 1)), (252, (.istore 4, 2))] = true := by decide +kernel
theorem dX12_shifted_179 : decode cX12_shifted 179 = .ok (.iconst 1, 1) := xdc ddX12_shifted_2 0 rfl
theorem dX12_shifted_180 : decode cX12_shifted 180 = .ok (.iushr, 1) := xdc ddX12_shifted_2 1 rfl
theorem dX12_shifted_181 : decode cX12_shifted 181 = .ok (.aload_n 0, 1) := xdc ddX12_shifted_2 2 rfl
theorem dX12_shifted_182 : decode cX12_shifted 182 = .ok (.getfield 320, 3) := xdc ddX12_shifted_2 3 rfl
theorem dX12_shifted_185 : decode cX12_shifted 185 = .ok (.ifCond .eq 8, 3) := xdc ddX12_shifted_2 4 rfl
theorem dX12_shifted_188 : decode cX12_shifted 188 = .ok (.iload 8, 2) := xdc ddX12_shifted_2 5 rfl
theorem dX12_shifted_190 : decode cX12_shifted 190 = .ok (.goto 4, 3) := xdc ddX12_shifted_2 6 rfl
theorem dX12_shifted_193 : decode cX12_shifted 193 = .ok (.iconst 0, 1) := xdc ddX12_shifted_2 7 rfl
theorem dX12_shifted_194 : decode cX12_shifted 194 = .ok (.ior, 1) := xdc ddX12_shifted_2 8 rfl
theorem dX12_shifted_195 : decode cX12_shifted 195 = .ok (.istore 4, 2) := xdc ddX12_shifted_2 9 rfl
theorem dX12_shifted_197 : decode cX12_shifted 197 = .ok (.aload_n 0, 1) := xdc ddX12_shifted_2 10 rfl
theorem dX12_shifted_198 : decode cX12_shifted 198 = .ok (.iload 7, 2) := xdc ddX12_shifted_2 11 rfl
theorem dX12_shifted_200 : decode cX12_shifted 200 = .ok (.putfield 320, 3) := xdc ddX12_shifted_2 12 rfl
theorem dX12_shifted_203 : decode cX12_shifted 203 = .ok (.goto 57, 3) := xdc ddX12_shifted_2 13 rfl
theorem dX12_shifted_206 : decode cX12_shifted 206 = .ok (.iload 4, 2) := xdc ddX12_shifted_2 14 rfl
theorem dX12_shifted_208 : decode cX12_shifted 208 = .ok (.iconst 1, 1) := xdc ddX12_shifted_2 15 rfl
theorem dX12_shifted_209 : decode cX12_shifted 209 = .ok (.ishl, 1) := xdc ddX12_shifted_2 16 rfl
theorem dX12_shifted_210 : decode cX12_shifted 210 = .ok (.istore 4, 2) := xdc ddX12_shifted_2 17 rfl
theorem dX12_shifted_212 : decode cX12_shifted 212 = .ok (.aload_n 0, 1) := xdc ddX12_shifted_2 18 rfl
theorem dX12_shifted_213 : decode cX12_shifted 213 = .ok (.iload 6, 2) := xdc ddX12_shifted_2 19 rfl
theorem dX12_shifted_215 : decode cX12_shifted 215 = .ok (.putfield 320, 3) := xdc ddX12_shifted_2 20 rfl
theorem dX12_shifted_218 : decode cX12_shifted 218 = .ok (.goto 42, 3) := xdc ddX12_shifted_2 21 rfl
theorem dX12_shifted_221 : decode cX12_shifted 221 = .ok (.iload 4, 2) := xdc ddX12_shifted_2 22 rfl
theorem dX12_shifted_223 : decode cX12_shifted 223 = .ok (.iconst 1, 1) := xdc ddX12_shifted_2 23 rfl
theorem dX12_shifted_224 : decode cX12_shifted 224 = .ok (.iushr, 1) := xdc ddX12_shifted_2 24 rfl
theorem dX12_shifted_225 : decode cX12_shifted 225 = .ok (.istore 4, 2) := xdc ddX12_shifted_2 25 rfl
theorem dX12_shifted_227 : decode cX12_shifted 227 = .ok (.aload_n 0, 1) := xdc ddX12_shifted_2 26 rfl
theorem dX12_shifted_228 : decode cX12_shifted 228 = .ok (.iload 7, 2) := xdc ddX12_shifted_2 27 rfl
theorem dX12_shifted_230 : decode cX12_shifted 230 = .ok (.putfield 320, 3) := xdc ddX12_shifted_2 28 rfl
theorem dX12_shifted_233 : decode cX12_shifted 233 = .ok (.goto 27, 3) := xdc ddX12_shifted_2 29 rfl
theorem dX12_shifted_236 : decode cX12_shifted 236 = .ok (.iload 4, 2) := xdc ddX12_shifted_2 30 rfl
theorem dX12_shifted_238 : decode cX12_shifted 238 = .ok (.iconst 1, 1) := xdc ddX12_shifted_2 31 rfl
theorem dX12_shifted_239 : decode cX12_shifted 239 = .ok (.iushr, 1) := xdc ddX12_shifted_2 32 rfl
theorem dX12_shifted_240 : decode cX12_shifted 240 = .ok (.iload 6, 2) := xdc ddX12_shifted_2 33 rfl
theorem dX12_shifted_242 : decode cX12_shifted 242 = .ok (.ifCond .eq 8, 3) := xdc ddX12_shifted_2 34 rfl
theorem dX12_shifted_245 : decode cX12_shifted 245 = .ok (.iload 8, 2) := xdc ddX12_shifted_2 35 rfl
theorem dX12_shifted_247 : decode cX12_shifted 247 = .ok (.goto 4, 3) := xdc ddX12_shifted_2 36 rfl
theorem dX12_shifted_250 : decode cX12_shifted 250 = .ok (.iconst 0, 1) := xdc ddX12_shifted_2 37 rfl
theorem dX12_shifted_251 : decode cX12_shifted 251 = .ok (.ior, 1) := xdc ddX12_shifted_2 38 rfl
theorem dX12_shifted_252 : decode cX12_shifted 252 = .ok (.istore 4, 2) := xdc ddX12_shifted_2 39 rfl
theorem ddX12_shifted_3 : xdec cX12_shifted [(254, (.aload_n 0, 1)), (255, (.iload 7, 2)), (257, (.putfield 320, 3)), (260, (.iload 4, 2)), (262, (.iload_n 3, 1)), (263, (.invokestatic 303, 3)), (266, (.iand, 1)), (267, (.istore 4, 2)), (269, (.aload_n 0, 1)), (270, (.getfield 70, 3)), (273, (.bipush 21, 2)), (275, (.if_icmp .eq 21, 3)), (278, (.aload_n 0, 1)), (279, (.getfield 70, 3)), (282, (.bipush 23, 2)), (284, (.if_icmp .eq 12, 3)), (287, (.aload_n 0, 1)), (288, (.getfield 70, 3)), (291, (.bipush 25, 2)), (293, (.if_icmp .ne 7, 3)), (296, (.iconst 1, 1)), (297, (.goto 4, 3)), (300, (.iconst 0, 1)), (301, (.istore 9, 2)), (303, (.aload_n 0, 1)), (304, (.iload 9, 2)), (306, (.ifCond .eq 24, 3)), (309, (.iload 4, 2)), (311, (.iload_n 3, 1)), (312, (.invokestatic 310, 3)), (315, (.aload_n 0, 1)), (316, (.getfield 320, 3)), (319, (.if_icmp .eq 7, 3)), (322, (.iconst 1, 1)), (323, (.goto 56, 3)), (326, (.iconst 0, 1)), (327, (.goto 52, 3)), (330, (.aload_n 0, 1)), (331, (.getfield 70, 3)), (334, (.bipush 26, 2))] = true := by decide +kernel
theorem dX12_shifted_254 : decode cX12_shifted 254 = .ok (.aload_n 0, 1) := xdc ddX12_shifted_3 0 rfl
theorem dX12_shifted_255 : decode cX12_shifted 255 = .ok (.iload 7, 2) := xdc ddX12_shifted_3 1 rfl
theorem dX12_shifted_257 : decode cX12_shifted 257 = .ok (.putfield 320, 3) := xdc ddX12_shifted_3 2 rfl
theorem dX12_shifted_260 : decode cX12_shifted 260 = .ok (.iload 4, 2) := xdc ddX12_shifted_3 3 rfl
theorem dX12_shifted_262 : decode cX12_shifted 262 = .ok (.iload_n 3, 1) := xdc ddX12_shifted_3 4 rfl
theorem dX12_shifted_263 : decode cX12_shifted 263 = .ok (.invokestatic 303, 3) := xdc ddX12_shifted_3 5 rfl
theorem dX12_shifted_266 : decode cX12_shifted 266 = .ok (.iand, 1) := xdc ddX12_shifted_3 6 rfl
theorem dX12_shifted_267 : decode cX12_shifted 267 = .ok (.istore 4, 2) := xdc ddX12_shifted_3 7 rfl
theorem dX12_shifted_269 : decode cX12_shifted 269 = .ok (.aload_n 0, 1) := xdc ddX12_shifted_3 8 rfl
theorem dX12_shifted_270 : decode cX12_shifted 270 = .ok (.getfield 70, 3) := xdc ddX12_shifted_3 9 rfl
theorem dX12_shifted_273 : decode cX12_shifted 273 = .ok (.bipush 21, 2) := xdc ddX12_shifted_3 10 rfl
theorem dX12_shifted_275 : decode cX12_shifted 275 = .ok (.if_icmp .eq 21, 3) := xdc ddX12_shifted_3 11 rfl
theorem dX12_shifted_278 : decode cX12_shifted 278 = .ok (.aload_n 0, 1) := xdc ddX12_shifted_3 12 rfl
theorem dX12_shifted_279 : decode cX12_shifted 279 = .ok (.getfield 70, 3) := xdc ddX12_shifted_3 13 rfl
theorem dX12_shifted_282 : decode cX12_shifted 282 = .ok (.bipush 23, 2) := xdc ddX12_shifted_3 14 rfl
theorem dX12_shifted_284 : decode cX12_shifted 284 = .ok (.if_icmp .eq 12, 3) := xdc ddX12_shifted_3 15 rfl
theorem dX12_shifted_287 : decode cX12_shifted 287 = .ok (.aload_n 0, 1) := xdc ddX12_shifted_3 16 rfl
theorem dX12_shifted_288 : decode cX12_shifted 288 = .ok (.getfield 70, 3) := xdc ddX12_shifted_3 17 rfl
theorem dX12_shifted_291 : decode cX12_shifted 291 = .ok (.bipush 25, 2) := xdc ddX12_shifted_3 18 rfl
theorem dX12_shifted_293 : decode cX12_shifted 293 = .ok (.if_icmp .ne 7, 3) := xdc ddX12_shifted_3 19 rfl
theorem dX12_shifted_296 : decode cX12_shifted 296 = .ok (.iconst 1, 1) := xdc ddX12_shifted_3 20 rfl
theorem dX12_shifted_297 : decode cX12_shifted 297 = .ok (.goto 4, 3) := xdc ddX12_shifted_3 21 rfl
theorem dX12_shifted_300 : decode cX12_shifted 300 = .ok (.iconst 0, 1) := xdc ddX12_shifted_3 22 rfl
theorem dX12_shifted_301 : decode cX12_shifted 301 = .ok (.istore 9, 2) := xdc ddX12_shifted_3 23 rfl
theorem dX12_shifted_303 : decode cX12_shifted 303 = .ok (.aload_n 0, 1) := xdc ddX12_shifted_3 24 rfl
theorem dX12_shifted_304 : decode cX12_shifted 304 = .ok (.iload 9, 2) := xdc ddX12_shifted_3 25 rfl
theorem dX12_shifted_306 : decode cX12_shifted 306 = .ok (.ifCond .eq 24, 3) := xdc ddX12_shifted_3 26 rfl
theorem dX12_shifted_309 : decode cX12_shifted 309 = .ok (.iload 4, 2) := xdc ddX12_shifted_3 27 rfl
theorem dX12_shifted_311 : decode cX12_shifted 311 = .ok (.iload_n 3, 1) := xdc ddX12_shifted_3 28 rfl
theorem dX12_shifted_312 : decode cX12_shifted 312 = .ok (.invokestatic 310, 3) := xdc ddX12_shifted_3 29 rfl
theorem dX12_shifted_315 : decode cX12_shifted 315 = .ok (.aload_n 0, 1) := xdc ddX12_shifted_3 30 rfl
theorem dX12_shifted_316 : decode cX12_shifted 316 = .ok (.getfield 320, 3) := xdc ddX12_shifted_3 31 rfl
theorem dX12_shifted_319 : decode cX12_shifted 319 = .ok (.if_icmp .eq 7, 3) := xdc ddX12_shifted_3 32 rfl
theorem dX12_shifted_322 : decode cX12_shifted 322 = .ok (.iconst 1, 1) := xdc ddX12_shifted_3 33 rfl
theorem dX12_shifted_323 : decode cX12_shifted 323 = .ok (.goto 56, 3) := xdc ddX12_shifted_3 34 rfl
theorem dX12_shifted_326 : decode cX12_shifted 326 = .ok (.iconst 0, 1) := xdc ddX12_shifted_3 35 rfl
theorem dX12_shifted_327 : decode cX12_shifted 327 = .ok (.goto 52, 3) := xdc ddX12_shifted_3 36 rfl
theorem dX12_shifted_330 : decode cX12_shifted 330 = .ok (.aload_n 0, 1) := xdc ddX12_shifted_3 37 rfl
theorem dX12_shifted_331 : decode cX12_shifted 331 = .ok (.getfield 70, 3) := xdc ddX12_shifted_3 38 rfl
theorem dX12_shifted_334 : decode cX12_shifted 334 = .ok (.bipush 26, 2) := xdc ddX12_shifted_3 39 rfl
theorem ddX12_shifted_4 : xdec cX12_shifted [(336, (.if_icmp .ne 8, 3)), (339, (.iload 6, 2)), (341, (.goto 38, 3)), (344, (.aload_n 0, 1)), (345, (.getfield 70, 3)), (348, (.bipush 27, 2)), (350, (.if_icmp .ne 7, 3)), (353, (.iconst 0, 1)), (354, (.goto 25, 3)), (357, (.iload 4, 2)), (359, (.iload_n 3, 1)), (360, (.invokestatic 310, 3)), (363, (.iload 4, 2)), (365, (.iconst 1, 1)), (366, (.ishl, 1)), (367, (.iload_n 3, 1)), (368, (.invokestatic 310, 3)), (371, (.if_icmp .eq 7, 3)), (374, (.iconst 1, 1)), (375, (.goto 4, 3)), (378, (.iconst 0, 1)), (379, (.putfield 323, 3)), (382, (.iinc 5 1, 3)), (385, (.goto (-369), 3)), (388, (.aload_n 0, 1)), (389, (.getfield 70, 3)), (392, (.bipush 25, 2)), (394, (.if_icmp .lt 10, 3)), (397, (.aload_n 0, 1)), (398, (.iload 4, 2)), (400, (.iload_n 3, 1)), (401, (.invokevirtual 326, 3)), (404, (.iload 4, 2)), (406, (.ireturn, 1))] = true := by decide +kernel
theorem dX12_shifted_336 : decode cX12_shifted 336 = .ok (.if_icmp .ne 8, 3) := xdc ddX12_shifted_4 0 rfl
theorem dX12_shifted_339 : decode cX12_shifted 339 = .ok (.iload 6, 2) := xdc ddX12_shifted_4 1 rfl
theorem dX12_shifted_341 : decode cX12_shifted 341 = .ok (.goto 38, 3) := xdc ddX12_shifted_4 2 rfl
theorem dX12_shifted_344 : decode cX12_shifted 344 = .ok (.aload_n 0, 1) := xdc ddX12_shifted_4 3 rfl
theorem dX12_shifted_345 : decode cX12_shifted 345 = .ok (.getfield 70, 3) := xdc ddX12_shifted_4 4 rfl
theorem dX12_shifted_348 : decode cX12_shifted 348 = .ok (.bipush 27, 2) := xdc ddX12_shifted_4 5 rfl
theorem dX12_shifted_350 : decode cX12_shifted 350 = .ok (.if_icmp .ne 7, 3) := xdc ddX12_shifted_4 6 rfl
theorem dX12_shifted_353 : decode cX12_shifted 353 = .ok (.iconst 0, 1) := xdc ddX12_shifted_4 7 rfl
theorem dX12_shifted_354 : decode cX12_shifted 354 = .ok (.goto 25, 3) := xdc ddX12_shifted_4 8 rfl
theorem dX12_shifted_357 : decode cX12_shifted 357 = .ok (.iload 4, 2) := xdc ddX12_shifted_4 9 rfl
theorem dX12_shifted_359 : decode cX12_shifted 359 = .ok (.iload_n 3, 1) := xdc ddX12_shifted_4 10 rfl
theorem dX12_shifted_360 : decode cX12_shifted 360 = .ok (.invokestatic 310, 3) := xdc ddX12_shifted_4 11 rfl
theorem dX12_shifted_363 : decode cX12_shifted 363 = .ok (.iload 4, 2) := xdc ddX12_shifted_4 12 rfl
theorem dX12_shifted_365 : decode cX12_shifted 365 = .ok (.iconst 1, 1) := xdc ddX12_shifted_4 13 rfl
theorem dX12_shifted_366 : decode cX12_shifted 366 = .ok (.ishl, 1) := xdc ddX12_shifted_4 14 rfl
theorem dX12_shifted_367 : decode cX12_shifted 367 = .ok (.iload_n 3, 1) := xdc ddX12_shifted_4 15 rfl
theorem dX12_shifted_368 : decode cX12_shifted 368 = .ok (.invokestatic 310, 3) := xdc ddX12_shifted_4 16 rfl
theorem dX12_shifted_371 : decode cX12_shifted 371 = .ok (.if_icmp .eq 7, 3) := xdc ddX12_shifted_4 17 rfl
theorem dX12_shifted_374 : decode cX12_shifted 374 = .ok (.iconst 1, 1) := xdc ddX12_shifted_4 18 rfl
theorem dX12_shifted_375 : decode cX12_shifted 375 = .ok (.goto 4, 3) := xdc ddX12_shifted_4 19 rfl
theorem dX12_shifted_378 : decode cX12_shifted 378 = .ok (.iconst 0, 1) := xdc ddX12_shifted_4 20 rfl
theorem dX12_shifted_379 : decode cX12_shifted 379 = .ok (.putfield 323, 3) := xdc ddX12_shifted_4 21 rfl
theorem dX12_shifted_382 : decode cX12_shifted 382 = .ok (.iinc 5 1, 3) := xdc ddX12_shifted_4 22 rfl
theorem dX12_shifted_385 : decode cX12_shifted 385 = .ok (.goto (-369), 3) := xdc ddX12_shifted_4 23 rfl
theorem dX12_shifted_388 : decode cX12_shifted 388 = .ok (.aload_n 0, 1) := xdc ddX12_shifted_4 24 rfl
theorem dX12_shifted_389 : decode cX12_shifted 389 = .ok (.getfield 70, 3) := xdc ddX12_shifted_4 25 rfl
theorem dX12_shifted_392 : decode cX12_shifted 392 = .ok (.bipush 25, 2) := xdc ddX12_shifted_4 26 rfl
theorem dX12_shifted_394 : decode cX12_shifted 394 = .ok (.if_icmp .lt 10, 3) := xdc ddX12_shifted_4 27 rfl
theorem dX12_shifted_397 : decode cX12_shifted 397 = .ok (.aload_n 0, 1) := xdc ddX12_shifted_4 28 rfl
theorem dX12_shifted_398 : decode cX12_shifted 398 = .ok (.iload 4, 2) := xdc ddX12_shifted_4 29 rfl
theorem dX12_shifted_400 : decode cX12_shifted 400 = .ok (.iload_n 3, 1) := xdc ddX12_shifted_4 30 rfl
theorem dX12_shifted_401 : decode cX12_shifted 401 = .ok (.invokevirtual 326, 3) := xdc ddX12_shifted_4 31 rfl
theorem dX12_shifted_404 : decode cX12_shifted 404 = .ok (.iload 4, 2) := xdc ddX12_shifted_4 32 rfl
theorem dX12_shifted_406 : decode cX12_shifted 406 = .ok (.ireturn, 1) := xdc ddX12_shifted_4 33 rfl
abbrev cX12_shifts : ByteArray := prog_14_method_63_code
theorem ddX12_shifts_0 : xdec cX12_shifts [(0, (.aload_n 0, 1)), (1, (.getfield 73, 3)), (4, (.iconst 4, 1)), (5, (.if_icmp .ne 10, 3)), (8, (.aload_n 0, 1)), (9, (.getfield 109, 3)), (12, (.goto 22, 3)), (15, (.aload_n 0, 1)), (16, (.getfield 73, 3)), (19, (.bipush 10, 2)), (21, (.if_icmp .ne 7, 3)), (24, (.iconst 1, 1)), (25, (.goto 9, 3)), (28, (.aload_n 0, 1)), (29, (.getfield 44, 3)), (32, (.iconst 1, 1)), (33, (.iaload, 1)), (34, (.bipush 31, 2)), (36, (.iand, 1)), (37, (.istore_n 1, 1)), (38, (.aload_n 0, 1)), (39, (.invokevirtual 336, 3)), (42, (.istore_n 2, 1)), (43, (.iload_n 1, 1)), (44, (.ifCond .le 20, 3)), (47, (.aload_n 0, 1)), (48, (.getfield 272, 3)), (51, (.ifCond .ne 13, 3)), (54, (.aload_n 0, 1)), (55, (.aload_n 0, 1)), (56, (.iload_n 2, 1)), (57, (.iload_n 1, 1)), (58, (.invokevirtual 342, 3)), (61, (.invokevirtual 339, 3)), (64, (.return_, 1))] = true := by decide +kernel
theorem dX12_shifts_0 : decode cX12_shifts 0 = .ok (.aload_n 0, 1) := xdc ddX12_shifts_0 0 rfl
theorem dX12_shifts_1 : decode cX12_shifts 1 = .ok (.getfield 73, 3) := xdc ddX12_shifts_0 1 rfl
theorem dX12_shifts_4 : decode cX12_shifts 4 = .ok (.iconst 4, 1) := xdc ddX12_shifts_0 2 rfl
theorem dX12_shifts_5 : decode cX12_shifts 5 = .ok (.if_icmp .ne 10, 3) := xdc ddX12_shifts_0 3 rfl
theorem dX12_shifts_8 : decode cX12_shifts 8 = .ok (.aload_n 0, 1) := xdc ddX12_shifts_0 4 rfl
theorem dX12_shifts_9 : decode cX12_shifts 9 = .ok (.getfield 109, 3) := xdc ddX12_shifts_0 5 rfl
theorem dX12_shifts_12 : decode cX12_shifts 12 = .ok (.goto 22, 3) := xdc ddX12_shifts_0 6 rfl
theorem dX12_shifts_15 : decode cX12_shifts 15 = .ok (.aload_n 0, 1) := xdc ddX12_shifts_0 7 rfl
theorem dX12_shifts_16 : decode cX12_shifts 16 = .ok (.getfield 73, 3) := xdc ddX12_shifts_0 8 rfl
theorem dX12_shifts_19 : decode cX12_shifts 19 = .ok (.bipush 10, 2) := xdc ddX12_shifts_0 9 rfl
theorem dX12_shifts_21 : decode cX12_shifts 21 = .ok (.if_icmp .ne 7, 3) := xdc ddX12_shifts_0 10 rfl
theorem dX12_shifts_24 : decode cX12_shifts 24 = .ok (.iconst 1, 1) := xdc ddX12_shifts_0 11 rfl
theorem dX12_shifts_25 : decode cX12_shifts 25 = .ok (.goto 9, 3) := xdc ddX12_shifts_0 12 rfl
theorem dX12_shifts_28 : decode cX12_shifts 28 = .ok (.aload_n 0, 1) := xdc ddX12_shifts_0 13 rfl
theorem dX12_shifts_29 : decode cX12_shifts 29 = .ok (.getfield 44, 3) := xdc ddX12_shifts_0 14 rfl
theorem dX12_shifts_32 : decode cX12_shifts 32 = .ok (.iconst 1, 1) := xdc ddX12_shifts_0 15 rfl
theorem dX12_shifts_33 : decode cX12_shifts 33 = .ok (.iaload, 1) := xdc ddX12_shifts_0 16 rfl
theorem dX12_shifts_34 : decode cX12_shifts 34 = .ok (.bipush 31, 2) := xdc ddX12_shifts_0 17 rfl
theorem dX12_shifts_36 : decode cX12_shifts 36 = .ok (.iand, 1) := xdc ddX12_shifts_0 18 rfl
theorem dX12_shifts_37 : decode cX12_shifts 37 = .ok (.istore_n 1, 1) := xdc ddX12_shifts_0 19 rfl
theorem dX12_shifts_38 : decode cX12_shifts 38 = .ok (.aload_n 0, 1) := xdc ddX12_shifts_0 20 rfl
theorem dX12_shifts_39 : decode cX12_shifts 39 = .ok (.invokevirtual 336, 3) := xdc ddX12_shifts_0 21 rfl
theorem dX12_shifts_42 : decode cX12_shifts 42 = .ok (.istore_n 2, 1) := xdc ddX12_shifts_0 22 rfl
theorem dX12_shifts_43 : decode cX12_shifts 43 = .ok (.iload_n 1, 1) := xdc ddX12_shifts_0 23 rfl
theorem dX12_shifts_44 : decode cX12_shifts 44 = .ok (.ifCond .le 20, 3) := xdc ddX12_shifts_0 24 rfl
theorem dX12_shifts_47 : decode cX12_shifts 47 = .ok (.aload_n 0, 1) := xdc ddX12_shifts_0 25 rfl
theorem dX12_shifts_48 : decode cX12_shifts 48 = .ok (.getfield 272, 3) := xdc ddX12_shifts_0 26 rfl
theorem dX12_shifts_51 : decode cX12_shifts 51 = .ok (.ifCond .ne 13, 3) := xdc ddX12_shifts_0 27 rfl
theorem dX12_shifts_54 : decode cX12_shifts 54 = .ok (.aload_n 0, 1) := xdc ddX12_shifts_0 28 rfl
theorem dX12_shifts_55 : decode cX12_shifts 55 = .ok (.aload_n 0, 1) := xdc ddX12_shifts_0 29 rfl
theorem dX12_shifts_56 : decode cX12_shifts 56 = .ok (.iload_n 2, 1) := xdc ddX12_shifts_0 30 rfl
theorem dX12_shifts_57 : decode cX12_shifts 57 = .ok (.iload_n 1, 1) := xdc ddX12_shifts_0 31 rfl
theorem dX12_shifts_58 : decode cX12_shifts 58 = .ok (.invokevirtual 342, 3) := xdc ddX12_shifts_0 32 rfl
theorem dX12_shifts_61 : decode cX12_shifts 61 = .ok (.invokevirtual 339, 3) := xdc ddX12_shifts_0 33 rfl
theorem dX12_shifts_64 : decode cX12_shifts 64 = .ok (.return_, 1) := xdc ddX12_shifts_0 34 rfl
abbrev cX12_doubles : ByteArray := prog_14_method_64_code
theorem ddX12_doubles_0 : xdec cX12_doubles [(0, (.aload_n 0, 1)), (1, (.getfield 109, 3)), (4, (.bipush 31, 2)), (6, (.iand, 1)), (7, (.istore_n 1, 1)), (8, (.aload_n 0, 1)), (9, (.invokevirtual 336, 3)), (12, (.istore_n 2, 1)), (13, (.aload_n 0, 1)), (14, (.getfield 44, 3)), (17, (.aload_n 0, 1)), (18, (.getfield 85, 3)), (21, (.iaload, 1)), (22, (.istore_n 3, 1)), (23, (.iload_n 1, 1)), (24, (.ifCond .eq 10, 3)), (27, (.aload_n 0, 1)), (28, (.getfield 272, 3)), (31, (.ifCond .eq 4, 3)), (34, (.return_, 1)), (35, (.aload_n 0, 1)), (36, (.getfield 70, 3)), (39, (.bipush 46, 2)), (41, (.if_icmp .ne 16, 3)), (44, (.iload_n 2, 1)), (45, (.iload_n 1, 1)), (46, (.ishl, 1)), (47, (.iload_n 3, 1)), (48, (.bipush 32, 2)), (50, (.iload_n 1, 1)), (51, (.isub, 1)), (52, (.iushr, 1)), (53, (.ior, 1)), (54, (.goto 13, 3)), (57, (.iload_n 2, 1)), (58, (.iload_n 1, 1)), (59, (.iushr, 1)), (60, (.iload_n 3, 1)), (61, (.bipush 32, 2)), (63, (.iload_n 1, 1))] = true := by decide +kernel
theorem dX12_doubles_0 : decode cX12_doubles 0 = .ok (.aload_n 0, 1) := xdc ddX12_doubles_0 0 rfl
theorem dX12_doubles_1 : decode cX12_doubles 1 = .ok (.getfield 109, 3) := xdc ddX12_doubles_0 1 rfl
theorem dX12_doubles_4 : decode cX12_doubles 4 = .ok (.bipush 31, 2) := xdc ddX12_doubles_0 2 rfl
theorem dX12_doubles_6 : decode cX12_doubles 6 = .ok (.iand, 1) := xdc ddX12_doubles_0 3 rfl
theorem dX12_doubles_7 : decode cX12_doubles 7 = .ok (.istore_n 1, 1) := xdc ddX12_doubles_0 4 rfl
theorem dX12_doubles_8 : decode cX12_doubles 8 = .ok (.aload_n 0, 1) := xdc ddX12_doubles_0 5 rfl
theorem dX12_doubles_9 : decode cX12_doubles 9 = .ok (.invokevirtual 336, 3) := xdc ddX12_doubles_0 6 rfl
theorem dX12_doubles_12 : decode cX12_doubles 12 = .ok (.istore_n 2, 1) := xdc ddX12_doubles_0 7 rfl
theorem dX12_doubles_13 : decode cX12_doubles 13 = .ok (.aload_n 0, 1) := xdc ddX12_doubles_0 8 rfl
theorem dX12_doubles_14 : decode cX12_doubles 14 = .ok (.getfield 44, 3) := xdc ddX12_doubles_0 9 rfl
theorem dX12_doubles_17 : decode cX12_doubles 17 = .ok (.aload_n 0, 1) := xdc ddX12_doubles_0 10 rfl
theorem dX12_doubles_18 : decode cX12_doubles 18 = .ok (.getfield 85, 3) := xdc ddX12_doubles_0 11 rfl
theorem dX12_doubles_21 : decode cX12_doubles 21 = .ok (.iaload, 1) := xdc ddX12_doubles_0 12 rfl
theorem dX12_doubles_22 : decode cX12_doubles 22 = .ok (.istore_n 3, 1) := xdc ddX12_doubles_0 13 rfl
theorem dX12_doubles_23 : decode cX12_doubles 23 = .ok (.iload_n 1, 1) := xdc ddX12_doubles_0 14 rfl
theorem dX12_doubles_24 : decode cX12_doubles 24 = .ok (.ifCond .eq 10, 3) := xdc ddX12_doubles_0 15 rfl
theorem dX12_doubles_27 : decode cX12_doubles 27 = .ok (.aload_n 0, 1) := xdc ddX12_doubles_0 16 rfl
theorem dX12_doubles_28 : decode cX12_doubles 28 = .ok (.getfield 272, 3) := xdc ddX12_doubles_0 17 rfl
theorem dX12_doubles_31 : decode cX12_doubles 31 = .ok (.ifCond .eq 4, 3) := xdc ddX12_doubles_0 18 rfl
theorem dX12_doubles_34 : decode cX12_doubles 34 = .ok (.return_, 1) := xdc ddX12_doubles_0 19 rfl
theorem dX12_doubles_35 : decode cX12_doubles 35 = .ok (.aload_n 0, 1) := xdc ddX12_doubles_0 20 rfl
theorem dX12_doubles_36 : decode cX12_doubles 36 = .ok (.getfield 70, 3) := xdc ddX12_doubles_0 21 rfl
theorem dX12_doubles_39 : decode cX12_doubles 39 = .ok (.bipush 46, 2) := xdc ddX12_doubles_0 22 rfl
theorem dX12_doubles_41 : decode cX12_doubles 41 = .ok (.if_icmp .ne 16, 3) := xdc ddX12_doubles_0 23 rfl
theorem dX12_doubles_44 : decode cX12_doubles 44 = .ok (.iload_n 2, 1) := xdc ddX12_doubles_0 24 rfl
theorem dX12_doubles_45 : decode cX12_doubles 45 = .ok (.iload_n 1, 1) := xdc ddX12_doubles_0 25 rfl
theorem dX12_doubles_46 : decode cX12_doubles 46 = .ok (.ishl, 1) := xdc ddX12_doubles_0 26 rfl
theorem dX12_doubles_47 : decode cX12_doubles 47 = .ok (.iload_n 3, 1) := xdc ddX12_doubles_0 27 rfl
theorem dX12_doubles_48 : decode cX12_doubles 48 = .ok (.bipush 32, 2) := xdc ddX12_doubles_0 28 rfl
theorem dX12_doubles_50 : decode cX12_doubles 50 = .ok (.iload_n 1, 1) := xdc ddX12_doubles_0 29 rfl
theorem dX12_doubles_51 : decode cX12_doubles 51 = .ok (.isub, 1) := xdc ddX12_doubles_0 30 rfl
theorem dX12_doubles_52 : decode cX12_doubles 52 = .ok (.iushr, 1) := xdc ddX12_doubles_0 31 rfl
theorem dX12_doubles_53 : decode cX12_doubles 53 = .ok (.ior, 1) := xdc ddX12_doubles_0 32 rfl
theorem dX12_doubles_54 : decode cX12_doubles 54 = .ok (.goto 13, 3) := xdc ddX12_doubles_0 33 rfl
theorem dX12_doubles_57 : decode cX12_doubles 57 = .ok (.iload_n 2, 1) := xdc ddX12_doubles_0 34 rfl
theorem dX12_doubles_58 : decode cX12_doubles 58 = .ok (.iload_n 1, 1) := xdc ddX12_doubles_0 35 rfl
theorem dX12_doubles_59 : decode cX12_doubles 59 = .ok (.iushr, 1) := xdc ddX12_doubles_0 36 rfl
theorem dX12_doubles_60 : decode cX12_doubles 60 = .ok (.iload_n 3, 1) := xdc ddX12_doubles_0 37 rfl
theorem dX12_doubles_61 : decode cX12_doubles 61 = .ok (.bipush 32, 2) := xdc ddX12_doubles_0 38 rfl
theorem dX12_doubles_63 : decode cX12_doubles 63 = .ok (.iload_n 1, 1) := xdc ddX12_doubles_0 39 rfl
theorem ddX12_doubles_1 : xdec cX12_doubles [(64, (.isub, 1)), (65, (.ishl, 1)), (66, (.ior, 1)), (67, (.istore 4, 2)), (69, (.aload_n 0, 1)), (70, (.aload_n 0, 1)), (71, (.getfield 70, 3)), (74, (.bipush 46, 2)), (76, (.if_icmp .ne 12, 3)), (79, (.iload_n 2, 1)), (80, (.bipush 32, 2)), (82, (.iload_n 1, 1)), (83, (.isub, 1)), (84, (.iushr, 1)), (85, (.goto 8, 3)), (88, (.iload_n 2, 1)), (89, (.iload_n 1, 1)), (90, (.iconst 1, 1)), (91, (.isub, 1)), (92, (.iushr, 1)), (93, (.iconst 1, 1)), (94, (.iand, 1)), (95, (.ifCond .eq 7, 3)), (98, (.iconst 1, 1)), (99, (.goto 4, 3)), (102, (.iconst 0, 1)), (103, (.putfield 320, 3)), (106, (.aload_n 0, 1)), (107, (.iload_n 2, 1)), (108, (.ifCond .ge 7, 3)), (111, (.iconst 1, 1)), (112, (.goto 4, 3)), (115, (.iconst 0, 1)), (116, (.iload 4, 2)), (118, (.ifCond .ge 7, 3)), (121, (.iconst 1, 1)), (122, (.goto 4, 3)), (125, (.iconst 0, 1)), (126, (.if_icmp .eq 7, 3)), (129, (.iconst 1, 1))] = true := by decide +kernel
theorem dX12_doubles_64 : decode cX12_doubles 64 = .ok (.isub, 1) := xdc ddX12_doubles_1 0 rfl
theorem dX12_doubles_65 : decode cX12_doubles 65 = .ok (.ishl, 1) := xdc ddX12_doubles_1 1 rfl
theorem dX12_doubles_66 : decode cX12_doubles 66 = .ok (.ior, 1) := xdc ddX12_doubles_1 2 rfl
theorem dX12_doubles_67 : decode cX12_doubles 67 = .ok (.istore 4, 2) := xdc ddX12_doubles_1 3 rfl
theorem dX12_doubles_69 : decode cX12_doubles 69 = .ok (.aload_n 0, 1) := xdc ddX12_doubles_1 4 rfl
theorem dX12_doubles_70 : decode cX12_doubles 70 = .ok (.aload_n 0, 1) := xdc ddX12_doubles_1 5 rfl
theorem dX12_doubles_71 : decode cX12_doubles 71 = .ok (.getfield 70, 3) := xdc ddX12_doubles_1 6 rfl
theorem dX12_doubles_74 : decode cX12_doubles 74 = .ok (.bipush 46, 2) := xdc ddX12_doubles_1 7 rfl
theorem dX12_doubles_76 : decode cX12_doubles 76 = .ok (.if_icmp .ne 12, 3) := xdc ddX12_doubles_1 8 rfl
theorem dX12_doubles_79 : decode cX12_doubles 79 = .ok (.iload_n 2, 1) := xdc ddX12_doubles_1 9 rfl
theorem dX12_doubles_80 : decode cX12_doubles 80 = .ok (.bipush 32, 2) := xdc ddX12_doubles_1 10 rfl
theorem dX12_doubles_82 : decode cX12_doubles 82 = .ok (.iload_n 1, 1) := xdc ddX12_doubles_1 11 rfl
theorem dX12_doubles_83 : decode cX12_doubles 83 = .ok (.isub, 1) := xdc ddX12_doubles_1 12 rfl
theorem dX12_doubles_84 : decode cX12_doubles 84 = .ok (.iushr, 1) := xdc ddX12_doubles_1 13 rfl
theorem dX12_doubles_85 : decode cX12_doubles 85 = .ok (.goto 8, 3) := xdc ddX12_doubles_1 14 rfl
theorem dX12_doubles_88 : decode cX12_doubles 88 = .ok (.iload_n 2, 1) := xdc ddX12_doubles_1 15 rfl
theorem dX12_doubles_89 : decode cX12_doubles 89 = .ok (.iload_n 1, 1) := xdc ddX12_doubles_1 16 rfl
theorem dX12_doubles_90 : decode cX12_doubles 90 = .ok (.iconst 1, 1) := xdc ddX12_doubles_1 17 rfl
theorem dX12_doubles_91 : decode cX12_doubles 91 = .ok (.isub, 1) := xdc ddX12_doubles_1 18 rfl
theorem dX12_doubles_92 : decode cX12_doubles 92 = .ok (.iushr, 1) := xdc ddX12_doubles_1 19 rfl
theorem dX12_doubles_93 : decode cX12_doubles 93 = .ok (.iconst 1, 1) := xdc ddX12_doubles_1 20 rfl
theorem dX12_doubles_94 : decode cX12_doubles 94 = .ok (.iand, 1) := xdc ddX12_doubles_1 21 rfl
theorem dX12_doubles_95 : decode cX12_doubles 95 = .ok (.ifCond .eq 7, 3) := xdc ddX12_doubles_1 22 rfl
theorem dX12_doubles_98 : decode cX12_doubles 98 = .ok (.iconst 1, 1) := xdc ddX12_doubles_1 23 rfl
theorem dX12_doubles_99 : decode cX12_doubles 99 = .ok (.goto 4, 3) := xdc ddX12_doubles_1 24 rfl
theorem dX12_doubles_102 : decode cX12_doubles 102 = .ok (.iconst 0, 1) := xdc ddX12_doubles_1 25 rfl
theorem dX12_doubles_103 : decode cX12_doubles 103 = .ok (.putfield 320, 3) := xdc ddX12_doubles_1 26 rfl
theorem dX12_doubles_106 : decode cX12_doubles 106 = .ok (.aload_n 0, 1) := xdc ddX12_doubles_1 27 rfl
theorem dX12_doubles_107 : decode cX12_doubles 107 = .ok (.iload_n 2, 1) := xdc ddX12_doubles_1 28 rfl
theorem dX12_doubles_108 : decode cX12_doubles 108 = .ok (.ifCond .ge 7, 3) := xdc ddX12_doubles_1 29 rfl
theorem dX12_doubles_111 : decode cX12_doubles 111 = .ok (.iconst 1, 1) := xdc ddX12_doubles_1 30 rfl
theorem dX12_doubles_112 : decode cX12_doubles 112 = .ok (.goto 4, 3) := xdc ddX12_doubles_1 31 rfl
theorem dX12_doubles_115 : decode cX12_doubles 115 = .ok (.iconst 0, 1) := xdc ddX12_doubles_1 32 rfl
theorem dX12_doubles_116 : decode cX12_doubles 116 = .ok (.iload 4, 2) := xdc ddX12_doubles_1 33 rfl
theorem dX12_doubles_118 : decode cX12_doubles 118 = .ok (.ifCond .ge 7, 3) := xdc ddX12_doubles_1 34 rfl
theorem dX12_doubles_121 : decode cX12_doubles 121 = .ok (.iconst 1, 1) := xdc ddX12_doubles_1 35 rfl
theorem dX12_doubles_122 : decode cX12_doubles 122 = .ok (.goto 4, 3) := xdc ddX12_doubles_1 36 rfl
theorem dX12_doubles_125 : decode cX12_doubles 125 = .ok (.iconst 0, 1) := xdc ddX12_doubles_1 37 rfl
theorem dX12_doubles_126 : decode cX12_doubles 126 = .ok (.if_icmp .eq 7, 3) := xdc ddX12_doubles_1 38 rfl
theorem dX12_doubles_129 : decode cX12_doubles 129 = .ok (.iconst 1, 1) := xdc ddX12_doubles_1 39 rfl
theorem ddX12_doubles_2 : xdec cX12_doubles [(130, (.goto 4, 3)), (133, (.iconst 0, 1)), (134, (.putfield 323, 3)), (137, (.aload_n 0, 1)), (138, (.iload 4, 2)), (140, (.iconst 4, 1)), (141, (.invokevirtual 326, 3)), (144, (.aload_n 0, 1)), (145, (.iload 4, 2)), (147, (.invokevirtual 339, 3)), (150, (.return_, 1))] = true := by decide +kernel
theorem dX12_doubles_130 : decode cX12_doubles 130 = .ok (.goto 4, 3) := xdc ddX12_doubles_2 0 rfl
theorem dX12_doubles_133 : decode cX12_doubles 133 = .ok (.iconst 0, 1) := xdc ddX12_doubles_2 1 rfl
theorem dX12_doubles_134 : decode cX12_doubles 134 = .ok (.putfield 323, 3) := xdc ddX12_doubles_2 2 rfl
theorem dX12_doubles_137 : decode cX12_doubles 137 = .ok (.aload_n 0, 1) := xdc ddX12_doubles_2 3 rfl
theorem dX12_doubles_138 : decode cX12_doubles 138 = .ok (.iload 4, 2) := xdc ddX12_doubles_2 4 rfl
theorem dX12_doubles_140 : decode cX12_doubles 140 = .ok (.iconst 4, 1) := xdc ddX12_doubles_2 5 rfl
theorem dX12_doubles_141 : decode cX12_doubles 141 = .ok (.invokevirtual 326, 3) := xdc ddX12_doubles_2 6 rfl
theorem dX12_doubles_144 : decode cX12_doubles 144 = .ok (.aload_n 0, 1) := xdc ddX12_doubles_2 7 rfl
theorem dX12_doubles_145 : decode cX12_doubles 145 = .ok (.iload 4, 2) := xdc ddX12_doubles_2 8 rfl
theorem dX12_doubles_147 : decode cX12_doubles 147 = .ok (.invokevirtual 339, 3) := xdc ddX12_doubles_2 9 rfl
theorem dX12_doubles_150 : decode cX12_doubles 150 = .ok (.return_, 1) := xdc ddX12_doubles_2 10 rfl
abbrev cX12_product : ByteArray := prog_14_method_65_code
theorem ddX12_product_0 : xdec cX12_product [(0, (.lload_n 1, 1)), (1, (.lload_n 3, 1)), (2, (.lmul, 1)), (3, (.lstore 5, 2)), (5, (.aload_n 0, 1)), (6, (.lload 5, 2)), (8, (.lload 5, 2)), (10, (.l2i, 1)), (11, (.i2l, 1)), (12, (.lcmp, 1)), (13, (.ifCond .eq 7, 3)), (16, (.iconst 1, 1)), (17, (.goto 4, 3)), (20, (.iconst 0, 1)), (21, (.putfield 320, 3)), (24, (.aload_n 0, 1)), (25, (.aload_n 0, 1)), (26, (.getfield 320, 3)), (29, (.putfield 323, 3)), (32, (.aload_n 0, 1)), (33, (.lload 5, 2)), (35, (.l2i, 1)), (36, (.iconst 4, 1)), (37, (.invokevirtual 326, 3)), (40, (.aload_n 0, 1)), (41, (.getfield 44, 3)), (44, (.aload_n 0, 1)), (45, (.getfield 85, 3)), (48, (.lload 5, 2)), (50, (.l2i, 1)), (51, (.iastore, 1)), (52, (.return_, 1))] = true := by decide +kernel
theorem dX12_product_0 : decode cX12_product 0 = .ok (.lload_n 1, 1) := xdc ddX12_product_0 0 rfl
theorem dX12_product_1 : decode cX12_product 1 = .ok (.lload_n 3, 1) := xdc ddX12_product_0 1 rfl
theorem dX12_product_2 : decode cX12_product 2 = .ok (.lmul, 1) := xdc ddX12_product_0 2 rfl
theorem dX12_product_3 : decode cX12_product 3 = .ok (.lstore 5, 2) := xdc ddX12_product_0 3 rfl
theorem dX12_product_5 : decode cX12_product 5 = .ok (.aload_n 0, 1) := xdc ddX12_product_0 4 rfl
theorem dX12_product_6 : decode cX12_product 6 = .ok (.lload 5, 2) := xdc ddX12_product_0 5 rfl
theorem dX12_product_8 : decode cX12_product 8 = .ok (.lload 5, 2) := xdc ddX12_product_0 6 rfl
theorem dX12_product_10 : decode cX12_product 10 = .ok (.l2i, 1) := xdc ddX12_product_0 7 rfl
theorem dX12_product_11 : decode cX12_product 11 = .ok (.i2l, 1) := xdc ddX12_product_0 8 rfl
theorem dX12_product_12 : decode cX12_product 12 = .ok (.lcmp, 1) := xdc ddX12_product_0 9 rfl
theorem dX12_product_13 : decode cX12_product 13 = .ok (.ifCond .eq 7, 3) := xdc ddX12_product_0 10 rfl
theorem dX12_product_16 : decode cX12_product 16 = .ok (.iconst 1, 1) := xdc ddX12_product_0 11 rfl
theorem dX12_product_17 : decode cX12_product 17 = .ok (.goto 4, 3) := xdc ddX12_product_0 12 rfl
theorem dX12_product_20 : decode cX12_product 20 = .ok (.iconst 0, 1) := xdc ddX12_product_0 13 rfl
theorem dX12_product_21 : decode cX12_product 21 = .ok (.putfield 320, 3) := xdc ddX12_product_0 14 rfl
theorem dX12_product_24 : decode cX12_product 24 = .ok (.aload_n 0, 1) := xdc ddX12_product_0 15 rfl
theorem dX12_product_25 : decode cX12_product 25 = .ok (.aload_n 0, 1) := xdc ddX12_product_0 16 rfl
theorem dX12_product_26 : decode cX12_product 26 = .ok (.getfield 320, 3) := xdc ddX12_product_0 17 rfl
theorem dX12_product_29 : decode cX12_product 29 = .ok (.putfield 323, 3) := xdc ddX12_product_0 18 rfl
theorem dX12_product_32 : decode cX12_product 32 = .ok (.aload_n 0, 1) := xdc ddX12_product_0 19 rfl
theorem dX12_product_33 : decode cX12_product 33 = .ok (.lload 5, 2) := xdc ddX12_product_0 20 rfl
theorem dX12_product_35 : decode cX12_product 35 = .ok (.l2i, 1) := xdc ddX12_product_0 21 rfl
theorem dX12_product_36 : decode cX12_product 36 = .ok (.iconst 4, 1) := xdc ddX12_product_0 22 rfl
theorem dX12_product_37 : decode cX12_product 37 = .ok (.invokevirtual 326, 3) := xdc ddX12_product_0 23 rfl
theorem dX12_product_40 : decode cX12_product 40 = .ok (.aload_n 0, 1) := xdc ddX12_product_0 24 rfl
theorem dX12_product_41 : decode cX12_product 41 = .ok (.getfield 44, 3) := xdc ddX12_product_0 25 rfl
theorem dX12_product_44 : decode cX12_product 44 = .ok (.aload_n 0, 1) := xdc ddX12_product_0 26 rfl
theorem dX12_product_45 : decode cX12_product 45 = .ok (.getfield 85, 3) := xdc ddX12_product_0 27 rfl
theorem dX12_product_48 : decode cX12_product 48 = .ok (.lload 5, 2) := xdc ddX12_product_0 28 rfl
theorem dX12_product_50 : decode cX12_product 50 = .ok (.l2i, 1) := xdc ddX12_product_0 29 rfl
theorem dX12_product_51 : decode cX12_product 51 = .ok (.iastore, 1) := xdc ddX12_product_0 30 rfl
theorem dX12_product_52 : decode cX12_product 52 = .ok (.return_, 1) := xdc ddX12_product_0 31 rfl
abbrev cX12_wholeProduct : ByteArray := prog_14_method_66_code
theorem ddX12_wholeProduct_0 : xdec cX12_wholeProduct [(0, (.aload_n 0, 1)), (1, (.invokevirtual 336, 3)), (4, (.istore_n 1, 1)), (5, (.aload_n 0, 1)), (6, (.getfield 76, 3)), (9, (.iconst 1, 1)), (10, (.if_icmp .ne 97, 3)), (13, (.aload_n 0, 1)), (14, (.getfield 70, 3)), (17, (.bipush 38, 2)), (19, (.if_icmp .ne 22, 3)), (22, (.aload_n 0, 1)), (23, (.getfield 44, 3)), (26, (.iconst 0, 1)), (27, (.iaload, 1)), (28, (.sipush 255, 3)), (31, (.iand, 1)), (32, (.iload_n 1, 1)), (33, (.sipush 255, 3)), (36, (.iand, 1)), (37, (.imul, 1)), (38, (.goto 13, 3)), (41, (.aload_n 0, 1)), (42, (.getfield 44, 3)), (45, (.iconst 0, 1)), (46, (.iaload, 1)), (47, (.i2b, 1)), (48, (.iload_n 1, 1)), (49, (.i2b, 1)), (50, (.imul, 1)), (51, (.istore_n 2, 1)), (52, (.aload_n 0, 1)), (53, (.iconst 0, 1)), (54, (.iconst 2, 1)), (55, (.iload_n 2, 1)), (56, (.invokevirtual 297, 3)), (59, (.aload_n 0, 1)), (60, (.aload_n 0, 1)), (61, (.getfield 70, 3)), (64, (.bipush 38, 2))] = true := by decide +kernel
theorem dX12_wholeProduct_0 : decode cX12_wholeProduct 0 = .ok (.aload_n 0, 1) := xdc ddX12_wholeProduct_0 0 rfl
theorem dX12_wholeProduct_1 : decode cX12_wholeProduct 1 = .ok (.invokevirtual 336, 3) := xdc ddX12_wholeProduct_0 1 rfl
theorem dX12_wholeProduct_4 : decode cX12_wholeProduct 4 = .ok (.istore_n 1, 1) := xdc ddX12_wholeProduct_0 2 rfl
theorem dX12_wholeProduct_5 : decode cX12_wholeProduct 5 = .ok (.aload_n 0, 1) := xdc ddX12_wholeProduct_0 3 rfl
theorem dX12_wholeProduct_6 : decode cX12_wholeProduct 6 = .ok (.getfield 76, 3) := xdc ddX12_wholeProduct_0 4 rfl
theorem dX12_wholeProduct_9 : decode cX12_wholeProduct 9 = .ok (.iconst 1, 1) := xdc ddX12_wholeProduct_0 5 rfl
theorem dX12_wholeProduct_10 : decode cX12_wholeProduct 10 = .ok (.if_icmp .ne 97, 3) := xdc ddX12_wholeProduct_0 6 rfl
theorem dX12_wholeProduct_13 : decode cX12_wholeProduct 13 = .ok (.aload_n 0, 1) := xdc ddX12_wholeProduct_0 7 rfl
theorem dX12_wholeProduct_14 : decode cX12_wholeProduct 14 = .ok (.getfield 70, 3) := xdc ddX12_wholeProduct_0 8 rfl
theorem dX12_wholeProduct_17 : decode cX12_wholeProduct 17 = .ok (.bipush 38, 2) := xdc ddX12_wholeProduct_0 9 rfl
theorem dX12_wholeProduct_19 : decode cX12_wholeProduct 19 = .ok (.if_icmp .ne 22, 3) := xdc ddX12_wholeProduct_0 10 rfl
theorem dX12_wholeProduct_22 : decode cX12_wholeProduct 22 = .ok (.aload_n 0, 1) := xdc ddX12_wholeProduct_0 11 rfl
theorem dX12_wholeProduct_23 : decode cX12_wholeProduct 23 = .ok (.getfield 44, 3) := xdc ddX12_wholeProduct_0 12 rfl
theorem dX12_wholeProduct_26 : decode cX12_wholeProduct 26 = .ok (.iconst 0, 1) := xdc ddX12_wholeProduct_0 13 rfl
theorem dX12_wholeProduct_27 : decode cX12_wholeProduct 27 = .ok (.iaload, 1) := xdc ddX12_wholeProduct_0 14 rfl
theorem dX12_wholeProduct_28 : decode cX12_wholeProduct 28 = .ok (.sipush 255, 3) := xdc ddX12_wholeProduct_0 15 rfl
theorem dX12_wholeProduct_31 : decode cX12_wholeProduct 31 = .ok (.iand, 1) := xdc ddX12_wholeProduct_0 16 rfl
theorem dX12_wholeProduct_32 : decode cX12_wholeProduct 32 = .ok (.iload_n 1, 1) := xdc ddX12_wholeProduct_0 17 rfl
theorem dX12_wholeProduct_33 : decode cX12_wholeProduct 33 = .ok (.sipush 255, 3) := xdc ddX12_wholeProduct_0 18 rfl
theorem dX12_wholeProduct_36 : decode cX12_wholeProduct 36 = .ok (.iand, 1) := xdc ddX12_wholeProduct_0 19 rfl
theorem dX12_wholeProduct_37 : decode cX12_wholeProduct 37 = .ok (.imul, 1) := xdc ddX12_wholeProduct_0 20 rfl
theorem dX12_wholeProduct_38 : decode cX12_wholeProduct 38 = .ok (.goto 13, 3) := xdc ddX12_wholeProduct_0 21 rfl
theorem dX12_wholeProduct_41 : decode cX12_wholeProduct 41 = .ok (.aload_n 0, 1) := xdc ddX12_wholeProduct_0 22 rfl
theorem dX12_wholeProduct_42 : decode cX12_wholeProduct 42 = .ok (.getfield 44, 3) := xdc ddX12_wholeProduct_0 23 rfl
theorem dX12_wholeProduct_45 : decode cX12_wholeProduct 45 = .ok (.iconst 0, 1) := xdc ddX12_wholeProduct_0 24 rfl
theorem dX12_wholeProduct_46 : decode cX12_wholeProduct 46 = .ok (.iaload, 1) := xdc ddX12_wholeProduct_0 25 rfl
theorem dX12_wholeProduct_47 : decode cX12_wholeProduct 47 = .ok (.i2b, 1) := xdc ddX12_wholeProduct_0 26 rfl
theorem dX12_wholeProduct_48 : decode cX12_wholeProduct 48 = .ok (.iload_n 1, 1) := xdc ddX12_wholeProduct_0 27 rfl
theorem dX12_wholeProduct_49 : decode cX12_wholeProduct 49 = .ok (.i2b, 1) := xdc ddX12_wholeProduct_0 28 rfl
theorem dX12_wholeProduct_50 : decode cX12_wholeProduct 50 = .ok (.imul, 1) := xdc ddX12_wholeProduct_0 29 rfl
theorem dX12_wholeProduct_51 : decode cX12_wholeProduct 51 = .ok (.istore_n 2, 1) := xdc ddX12_wholeProduct_0 30 rfl
theorem dX12_wholeProduct_52 : decode cX12_wholeProduct 52 = .ok (.aload_n 0, 1) := xdc ddX12_wholeProduct_0 31 rfl
theorem dX12_wholeProduct_53 : decode cX12_wholeProduct 53 = .ok (.iconst 0, 1) := xdc ddX12_wholeProduct_0 32 rfl
theorem dX12_wholeProduct_54 : decode cX12_wholeProduct 54 = .ok (.iconst 2, 1) := xdc ddX12_wholeProduct_0 33 rfl
theorem dX12_wholeProduct_55 : decode cX12_wholeProduct 55 = .ok (.iload_n 2, 1) := xdc ddX12_wholeProduct_0 34 rfl
theorem dX12_wholeProduct_56 : decode cX12_wholeProduct 56 = .ok (.invokevirtual 297, 3) := xdc ddX12_wholeProduct_0 35 rfl
theorem dX12_wholeProduct_59 : decode cX12_wholeProduct 59 = .ok (.aload_n 0, 1) := xdc ddX12_wholeProduct_0 36 rfl
theorem dX12_wholeProduct_60 : decode cX12_wholeProduct 60 = .ok (.aload_n 0, 1) := xdc ddX12_wholeProduct_0 37 rfl
theorem dX12_wholeProduct_61 : decode cX12_wholeProduct 61 = .ok (.getfield 70, 3) := xdc ddX12_wholeProduct_0 38 rfl
theorem dX12_wholeProduct_64 : decode cX12_wholeProduct 64 = .ok (.bipush 38, 2) := xdc ddX12_wholeProduct_0 39 rfl
theorem ddX12_wholeProduct_1 : xdec cX12_wholeProduct [(66, (.if_icmp .ne 18, 3)), (69, (.iload_n 2, 1)), (70, (.bipush 8, 2)), (72, (.ishr, 1)), (73, (.ifCond .eq 7, 3)), (76, (.iconst 1, 1)), (77, (.goto 18, 3)), (80, (.iconst 0, 1)), (81, (.goto 14, 3)), (84, (.iload_n 2, 1)), (85, (.iload_n 2, 1)), (86, (.i2b, 1)), (87, (.if_icmp .eq 7, 3)), (90, (.iconst 1, 1)), (91, (.goto 4, 3)), (94, (.iconst 0, 1)), (95, (.putfield 320, 3)), (98, (.aload_n 0, 1)), (99, (.iload_n 2, 1)), (100, (.iconst 1, 1)), (101, (.invokevirtual 326, 3)), (104, (.goto 113, 3)), (107, (.aload_n 0, 1)), (108, (.getfield 70, 3)), (111, (.bipush 38, 2)), (113, (.if_icmp .ne 24, 3)), (116, (.aload_n 0, 1)), (117, (.getfield 44, 3)), (120, (.iconst 0, 1)), (121, (.iaload, 1)), (122, (.i2l, 1)), (123, (.ldc2_w 186, 3)), (126, (.land, 1)), (127, (.iload_n 1, 1)), (128, (.i2l, 1)), (129, (.ldc2_w 186, 3)), (132, (.land, 1)), (133, (.lmul, 1)), (134, (.goto 13, 3)), (137, (.aload_n 0, 1))] = true := by decide +kernel
theorem dX12_wholeProduct_66 : decode cX12_wholeProduct 66 = .ok (.if_icmp .ne 18, 3) := xdc ddX12_wholeProduct_1 0 rfl
theorem dX12_wholeProduct_69 : decode cX12_wholeProduct 69 = .ok (.iload_n 2, 1) := xdc ddX12_wholeProduct_1 1 rfl
theorem dX12_wholeProduct_70 : decode cX12_wholeProduct 70 = .ok (.bipush 8, 2) := xdc ddX12_wholeProduct_1 2 rfl
theorem dX12_wholeProduct_72 : decode cX12_wholeProduct 72 = .ok (.ishr, 1) := xdc ddX12_wholeProduct_1 3 rfl
theorem dX12_wholeProduct_73 : decode cX12_wholeProduct 73 = .ok (.ifCond .eq 7, 3) := xdc ddX12_wholeProduct_1 4 rfl
theorem dX12_wholeProduct_76 : decode cX12_wholeProduct 76 = .ok (.iconst 1, 1) := xdc ddX12_wholeProduct_1 5 rfl
theorem dX12_wholeProduct_77 : decode cX12_wholeProduct 77 = .ok (.goto 18, 3) := xdc ddX12_wholeProduct_1 6 rfl
theorem dX12_wholeProduct_80 : decode cX12_wholeProduct 80 = .ok (.iconst 0, 1) := xdc ddX12_wholeProduct_1 7 rfl
theorem dX12_wholeProduct_81 : decode cX12_wholeProduct 81 = .ok (.goto 14, 3) := xdc ddX12_wholeProduct_1 8 rfl
theorem dX12_wholeProduct_84 : decode cX12_wholeProduct 84 = .ok (.iload_n 2, 1) := xdc ddX12_wholeProduct_1 9 rfl
theorem dX12_wholeProduct_85 : decode cX12_wholeProduct 85 = .ok (.iload_n 2, 1) := xdc ddX12_wholeProduct_1 10 rfl
theorem dX12_wholeProduct_86 : decode cX12_wholeProduct 86 = .ok (.i2b, 1) := xdc ddX12_wholeProduct_1 11 rfl
theorem dX12_wholeProduct_87 : decode cX12_wholeProduct 87 = .ok (.if_icmp .eq 7, 3) := xdc ddX12_wholeProduct_1 12 rfl
theorem dX12_wholeProduct_90 : decode cX12_wholeProduct 90 = .ok (.iconst 1, 1) := xdc ddX12_wholeProduct_1 13 rfl
theorem dX12_wholeProduct_91 : decode cX12_wholeProduct 91 = .ok (.goto 4, 3) := xdc ddX12_wholeProduct_1 14 rfl
theorem dX12_wholeProduct_94 : decode cX12_wholeProduct 94 = .ok (.iconst 0, 1) := xdc ddX12_wholeProduct_1 15 rfl
theorem dX12_wholeProduct_95 : decode cX12_wholeProduct 95 = .ok (.putfield 320, 3) := xdc ddX12_wholeProduct_1 16 rfl
theorem dX12_wholeProduct_98 : decode cX12_wholeProduct 98 = .ok (.aload_n 0, 1) := xdc ddX12_wholeProduct_1 17 rfl
theorem dX12_wholeProduct_99 : decode cX12_wholeProduct 99 = .ok (.iload_n 2, 1) := xdc ddX12_wholeProduct_1 18 rfl
theorem dX12_wholeProduct_100 : decode cX12_wholeProduct 100 = .ok (.iconst 1, 1) := xdc ddX12_wholeProduct_1 19 rfl
theorem dX12_wholeProduct_101 : decode cX12_wholeProduct 101 = .ok (.invokevirtual 326, 3) := xdc ddX12_wholeProduct_1 20 rfl
theorem dX12_wholeProduct_104 : decode cX12_wholeProduct 104 = .ok (.goto 113, 3) := xdc ddX12_wholeProduct_1 21 rfl
theorem dX12_wholeProduct_107 : decode cX12_wholeProduct 107 = .ok (.aload_n 0, 1) := xdc ddX12_wholeProduct_1 22 rfl
theorem dX12_wholeProduct_108 : decode cX12_wholeProduct 108 = .ok (.getfield 70, 3) := xdc ddX12_wholeProduct_1 23 rfl
theorem dX12_wholeProduct_111 : decode cX12_wholeProduct 111 = .ok (.bipush 38, 2) := xdc ddX12_wholeProduct_1 24 rfl
theorem dX12_wholeProduct_113 : decode cX12_wholeProduct 113 = .ok (.if_icmp .ne 24, 3) := xdc ddX12_wholeProduct_1 25 rfl
theorem dX12_wholeProduct_116 : decode cX12_wholeProduct 116 = .ok (.aload_n 0, 1) := xdc ddX12_wholeProduct_1 26 rfl
theorem dX12_wholeProduct_117 : decode cX12_wholeProduct 117 = .ok (.getfield 44, 3) := xdc ddX12_wholeProduct_1 27 rfl
theorem dX12_wholeProduct_120 : decode cX12_wholeProduct 120 = .ok (.iconst 0, 1) := xdc ddX12_wholeProduct_1 28 rfl
theorem dX12_wholeProduct_121 : decode cX12_wholeProduct 121 = .ok (.iaload, 1) := xdc ddX12_wholeProduct_1 29 rfl
theorem dX12_wholeProduct_122 : decode cX12_wholeProduct 122 = .ok (.i2l, 1) := xdc ddX12_wholeProduct_1 30 rfl
theorem dX12_wholeProduct_123 : decode cX12_wholeProduct 123 = .ok (.ldc2_w 186, 3) := xdc ddX12_wholeProduct_1 31 rfl
theorem dX12_wholeProduct_126 : decode cX12_wholeProduct 126 = .ok (.land, 1) := xdc ddX12_wholeProduct_1 32 rfl
theorem dX12_wholeProduct_127 : decode cX12_wholeProduct 127 = .ok (.iload_n 1, 1) := xdc ddX12_wholeProduct_1 33 rfl
theorem dX12_wholeProduct_128 : decode cX12_wholeProduct 128 = .ok (.i2l, 1) := xdc ddX12_wholeProduct_1 34 rfl
theorem dX12_wholeProduct_129 : decode cX12_wholeProduct 129 = .ok (.ldc2_w 186, 3) := xdc ddX12_wholeProduct_1 35 rfl
theorem dX12_wholeProduct_132 : decode cX12_wholeProduct 132 = .ok (.land, 1) := xdc ddX12_wholeProduct_1 36 rfl
theorem dX12_wholeProduct_133 : decode cX12_wholeProduct 133 = .ok (.lmul, 1) := xdc ddX12_wholeProduct_1 37 rfl
theorem dX12_wholeProduct_134 : decode cX12_wholeProduct 134 = .ok (.goto 13, 3) := xdc ddX12_wholeProduct_1 38 rfl
theorem dX12_wholeProduct_137 : decode cX12_wholeProduct 137 = .ok (.aload_n 0, 1) := xdc ddX12_wholeProduct_1 39 rfl
theorem ddX12_wholeProduct_2 : xdec cX12_wholeProduct [(138, (.getfield 44, 3)), (141, (.iconst 0, 1)), (142, (.iaload, 1)), (143, (.i2l, 1)), (144, (.iload_n 1, 1)), (145, (.i2l, 1)), (146, (.lmul, 1)), (147, (.lstore_n 2, 1)), (148, (.aload_n 0, 1)), (149, (.getfield 44, 3)), (152, (.iconst 0, 1)), (153, (.lload_n 2, 1)), (154, (.l2i, 1)), (155, (.iastore, 1)), (156, (.aload_n 0, 1)), (157, (.getfield 44, 3)), (160, (.iconst 2, 1)), (161, (.lload_n 2, 1)), (162, (.bipush 32, 2)), (164, (.lshr, 1)), (165, (.l2i, 1)), (166, (.iastore, 1)), (167, (.aload_n 0, 1)), (168, (.aload_n 0, 1)), (169, (.getfield 70, 3)), (172, (.bipush 38, 2)), (174, (.if_icmp .ne 20, 3)), (177, (.aload_n 0, 1)), (178, (.getfield 44, 3)), (181, (.iconst 2, 1)), (182, (.iaload, 1)), (183, (.ifCond .eq 7, 3)), (186, (.iconst 1, 1)), (187, (.goto 20, 3)), (190, (.iconst 0, 1)), (191, (.goto 16, 3)), (194, (.lload_n 2, 1)), (195, (.lload_n 2, 1)), (196, (.l2i, 1)), (197, (.i2l, 1))] = true := by decide +kernel
theorem dX12_wholeProduct_138 : decode cX12_wholeProduct 138 = .ok (.getfield 44, 3) := xdc ddX12_wholeProduct_2 0 rfl
theorem dX12_wholeProduct_141 : decode cX12_wholeProduct 141 = .ok (.iconst 0, 1) := xdc ddX12_wholeProduct_2 1 rfl
theorem dX12_wholeProduct_142 : decode cX12_wholeProduct 142 = .ok (.iaload, 1) := xdc ddX12_wholeProduct_2 2 rfl
theorem dX12_wholeProduct_143 : decode cX12_wholeProduct 143 = .ok (.i2l, 1) := xdc ddX12_wholeProduct_2 3 rfl
theorem dX12_wholeProduct_144 : decode cX12_wholeProduct 144 = .ok (.iload_n 1, 1) := xdc ddX12_wholeProduct_2 4 rfl
theorem dX12_wholeProduct_145 : decode cX12_wholeProduct 145 = .ok (.i2l, 1) := xdc ddX12_wholeProduct_2 5 rfl
theorem dX12_wholeProduct_146 : decode cX12_wholeProduct 146 = .ok (.lmul, 1) := xdc ddX12_wholeProduct_2 6 rfl
theorem dX12_wholeProduct_147 : decode cX12_wholeProduct 147 = .ok (.lstore_n 2, 1) := xdc ddX12_wholeProduct_2 7 rfl
theorem dX12_wholeProduct_148 : decode cX12_wholeProduct 148 = .ok (.aload_n 0, 1) := xdc ddX12_wholeProduct_2 8 rfl
theorem dX12_wholeProduct_149 : decode cX12_wholeProduct 149 = .ok (.getfield 44, 3) := xdc ddX12_wholeProduct_2 9 rfl
theorem dX12_wholeProduct_152 : decode cX12_wholeProduct 152 = .ok (.iconst 0, 1) := xdc ddX12_wholeProduct_2 10 rfl
theorem dX12_wholeProduct_153 : decode cX12_wholeProduct 153 = .ok (.lload_n 2, 1) := xdc ddX12_wholeProduct_2 11 rfl
theorem dX12_wholeProduct_154 : decode cX12_wholeProduct 154 = .ok (.l2i, 1) := xdc ddX12_wholeProduct_2 12 rfl
theorem dX12_wholeProduct_155 : decode cX12_wholeProduct 155 = .ok (.iastore, 1) := xdc ddX12_wholeProduct_2 13 rfl
theorem dX12_wholeProduct_156 : decode cX12_wholeProduct 156 = .ok (.aload_n 0, 1) := xdc ddX12_wholeProduct_2 14 rfl
theorem dX12_wholeProduct_157 : decode cX12_wholeProduct 157 = .ok (.getfield 44, 3) := xdc ddX12_wholeProduct_2 15 rfl
theorem dX12_wholeProduct_160 : decode cX12_wholeProduct 160 = .ok (.iconst 2, 1) := xdc ddX12_wholeProduct_2 16 rfl
theorem dX12_wholeProduct_161 : decode cX12_wholeProduct 161 = .ok (.lload_n 2, 1) := xdc ddX12_wholeProduct_2 17 rfl
theorem dX12_wholeProduct_162 : decode cX12_wholeProduct 162 = .ok (.bipush 32, 2) := xdc ddX12_wholeProduct_2 18 rfl
theorem dX12_wholeProduct_164 : decode cX12_wholeProduct 164 = .ok (.lshr, 1) := xdc ddX12_wholeProduct_2 19 rfl
theorem dX12_wholeProduct_165 : decode cX12_wholeProduct 165 = .ok (.l2i, 1) := xdc ddX12_wholeProduct_2 20 rfl
theorem dX12_wholeProduct_166 : decode cX12_wholeProduct 166 = .ok (.iastore, 1) := xdc ddX12_wholeProduct_2 21 rfl
theorem dX12_wholeProduct_167 : decode cX12_wholeProduct 167 = .ok (.aload_n 0, 1) := xdc ddX12_wholeProduct_2 22 rfl
theorem dX12_wholeProduct_168 : decode cX12_wholeProduct 168 = .ok (.aload_n 0, 1) := xdc ddX12_wholeProduct_2 23 rfl
theorem dX12_wholeProduct_169 : decode cX12_wholeProduct 169 = .ok (.getfield 70, 3) := xdc ddX12_wholeProduct_2 24 rfl
theorem dX12_wholeProduct_172 : decode cX12_wholeProduct 172 = .ok (.bipush 38, 2) := xdc ddX12_wholeProduct_2 25 rfl
theorem dX12_wholeProduct_174 : decode cX12_wholeProduct 174 = .ok (.if_icmp .ne 20, 3) := xdc ddX12_wholeProduct_2 26 rfl
theorem dX12_wholeProduct_177 : decode cX12_wholeProduct 177 = .ok (.aload_n 0, 1) := xdc ddX12_wholeProduct_2 27 rfl
theorem dX12_wholeProduct_178 : decode cX12_wholeProduct 178 = .ok (.getfield 44, 3) := xdc ddX12_wholeProduct_2 28 rfl
theorem dX12_wholeProduct_181 : decode cX12_wholeProduct 181 = .ok (.iconst 2, 1) := xdc ddX12_wholeProduct_2 29 rfl
theorem dX12_wholeProduct_182 : decode cX12_wholeProduct 182 = .ok (.iaload, 1) := xdc ddX12_wholeProduct_2 30 rfl
theorem dX12_wholeProduct_183 : decode cX12_wholeProduct 183 = .ok (.ifCond .eq 7, 3) := xdc ddX12_wholeProduct_2 31 rfl
theorem dX12_wholeProduct_186 : decode cX12_wholeProduct 186 = .ok (.iconst 1, 1) := xdc ddX12_wholeProduct_2 32 rfl
theorem dX12_wholeProduct_187 : decode cX12_wholeProduct 187 = .ok (.goto 20, 3) := xdc ddX12_wholeProduct_2 33 rfl
theorem dX12_wholeProduct_190 : decode cX12_wholeProduct 190 = .ok (.iconst 0, 1) := xdc ddX12_wholeProduct_2 34 rfl
theorem dX12_wholeProduct_191 : decode cX12_wholeProduct 191 = .ok (.goto 16, 3) := xdc ddX12_wholeProduct_2 35 rfl
theorem dX12_wholeProduct_194 : decode cX12_wholeProduct 194 = .ok (.lload_n 2, 1) := xdc ddX12_wholeProduct_2 36 rfl
theorem dX12_wholeProduct_195 : decode cX12_wholeProduct 195 = .ok (.lload_n 2, 1) := xdc ddX12_wholeProduct_2 37 rfl
theorem dX12_wholeProduct_196 : decode cX12_wholeProduct 196 = .ok (.l2i, 1) := xdc ddX12_wholeProduct_2 38 rfl
theorem dX12_wholeProduct_197 : decode cX12_wholeProduct 197 = .ok (.i2l, 1) := xdc ddX12_wholeProduct_2 39 rfl
theorem ddX12_wholeProduct_3 : xdec cX12_wholeProduct [(198, (.lcmp, 1)), (199, (.ifCond .eq 7, 3)), (202, (.iconst 1, 1)), (203, (.goto 4, 3)), (206, (.iconst 0, 1)), (207, (.putfield 320, 3)), (210, (.aload_n 0, 1)), (211, (.lload_n 2, 1)), (212, (.l2i, 1)), (213, (.iconst 4, 1)), (214, (.invokevirtual 326, 3)), (217, (.aload_n 0, 1)), (218, (.aload_n 0, 1)), (219, (.getfield 320, 3)), (222, (.putfield 323, 3)), (225, (.return_, 1))] = true := by decide +kernel
theorem dX12_wholeProduct_198 : decode cX12_wholeProduct 198 = .ok (.lcmp, 1) := xdc ddX12_wholeProduct_3 0 rfl
theorem dX12_wholeProduct_199 : decode cX12_wholeProduct 199 = .ok (.ifCond .eq 7, 3) := xdc ddX12_wholeProduct_3 1 rfl
theorem dX12_wholeProduct_202 : decode cX12_wholeProduct 202 = .ok (.iconst 1, 1) := xdc ddX12_wholeProduct_3 2 rfl
theorem dX12_wholeProduct_203 : decode cX12_wholeProduct 203 = .ok (.goto 4, 3) := xdc ddX12_wholeProduct_3 3 rfl
theorem dX12_wholeProduct_206 : decode cX12_wholeProduct 206 = .ok (.iconst 0, 1) := xdc ddX12_wholeProduct_3 4 rfl
theorem dX12_wholeProduct_207 : decode cX12_wholeProduct 207 = .ok (.putfield 320, 3) := xdc ddX12_wholeProduct_3 5 rfl
theorem dX12_wholeProduct_210 : decode cX12_wholeProduct 210 = .ok (.aload_n 0, 1) := xdc ddX12_wholeProduct_3 6 rfl
theorem dX12_wholeProduct_211 : decode cX12_wholeProduct 211 = .ok (.lload_n 2, 1) := xdc ddX12_wholeProduct_3 7 rfl
theorem dX12_wholeProduct_212 : decode cX12_wholeProduct 212 = .ok (.l2i, 1) := xdc ddX12_wholeProduct_3 8 rfl
theorem dX12_wholeProduct_213 : decode cX12_wholeProduct 213 = .ok (.iconst 4, 1) := xdc ddX12_wholeProduct_3 9 rfl
theorem dX12_wholeProduct_214 : decode cX12_wholeProduct 214 = .ok (.invokevirtual 326, 3) := xdc ddX12_wholeProduct_3 10 rfl
theorem dX12_wholeProduct_217 : decode cX12_wholeProduct 217 = .ok (.aload_n 0, 1) := xdc ddX12_wholeProduct_3 11 rfl
theorem dX12_wholeProduct_218 : decode cX12_wholeProduct 218 = .ok (.aload_n 0, 1) := xdc ddX12_wholeProduct_3 12 rfl
theorem dX12_wholeProduct_219 : decode cX12_wholeProduct 219 = .ok (.getfield 320, 3) := xdc ddX12_wholeProduct_3 13 rfl
theorem dX12_wholeProduct_222 : decode cX12_wholeProduct 222 = .ok (.putfield 323, 3) := xdc ddX12_wholeProduct_3 14 rfl
theorem dX12_wholeProduct_225 : decode cX12_wholeProduct 225 = .ok (.return_, 1) := xdc ddX12_wholeProduct_3 15 rfl
abbrev cX12_traps : ByteArray := prog_14_method_67_code
theorem ddX12_traps_0 : xdec cX12_traps [(0, (.aload_n 0, 1)), (1, (.aload_n 0, 1)), (2, (.getfield 272, 3)), (5, (.ifCond .ne 7, 3)), (8, (.iconst 4, 1)), (9, (.goto 7, 3)), (12, (.aload_n 0, 1)), (13, (.getfield 272, 3)), (16, (.putfield 272, 3)), (19, (.return_, 1))] = true := by decide +kernel
theorem dX12_traps_0 : decode cX12_traps 0 = .ok (.aload_n 0, 1) := xdc ddX12_traps_0 0 rfl
theorem dX12_traps_1 : decode cX12_traps 1 = .ok (.aload_n 0, 1) := xdc ddX12_traps_0 1 rfl
theorem dX12_traps_2 : decode cX12_traps 2 = .ok (.getfield 272, 3) := xdc ddX12_traps_0 2 rfl
theorem dX12_traps_5 : decode cX12_traps 5 = .ok (.ifCond .ne 7, 3) := xdc ddX12_traps_0 3 rfl
theorem dX12_traps_8 : decode cX12_traps 8 = .ok (.iconst 4, 1) := xdc ddX12_traps_0 4 rfl
theorem dX12_traps_9 : decode cX12_traps 9 = .ok (.goto 7, 3) := xdc ddX12_traps_0 5 rfl
theorem dX12_traps_12 : decode cX12_traps 12 = .ok (.aload_n 0, 1) := xdc ddX12_traps_0 6 rfl
theorem dX12_traps_13 : decode cX12_traps 13 = .ok (.getfield 272, 3) := xdc ddX12_traps_0 7 rfl
theorem dX12_traps_16 : decode cX12_traps 16 = .ok (.putfield 272, 3) := xdc ddX12_traps_0 8 rfl
theorem dX12_traps_19 : decode cX12_traps 19 = .ok (.return_, 1) := xdc ddX12_traps_0 9 rfl
abbrev cX12_quotient : ByteArray := prog_14_method_68_code
theorem ddX12_quotient_0 : xdec cX12_quotient [(0, (.aload_n 0, 1)), (1, (.invokevirtual 336, 3)), (4, (.istore_n 1, 1)), (5, (.aload_n 0, 1)), (6, (.getfield 272, 3)), (9, (.ifCond .eq 4, 3)), (12, (.return_, 1)), (13, (.aload_n 0, 1)), (14, (.getfield 76, 3)), (17, (.iconst 1, 1)), (18, (.if_icmp .ne 130, 3)), (21, (.aload_n 0, 1)), (22, (.getfield 70, 3)), (25, (.bipush 40, 2)), (27, (.if_icmp .ne 15, 3)), (30, (.aload_n 0, 1)), (31, (.getfield 44, 3)), (34, (.iconst 0, 1)), (35, (.iaload, 1)), (36, (.ldc 158, 2)), (38, (.iand, 1)), (39, (.goto 10, 3)), (42, (.aload_n 0, 1)), (43, (.getfield 44, 3)), (46, (.iconst 0, 1)), (47, (.iaload, 1)), (48, (.i2s, 1)), (49, (.istore_n 2, 1)), (50, (.aload_n 0, 1)), (51, (.getfield 70, 3)), (54, (.bipush 40, 2)), (56, (.if_icmp .ne 11, 3)), (59, (.iload_n 1, 1)), (60, (.sipush 255, 3)), (63, (.iand, 1)), (64, (.goto 5, 3)), (67, (.iload_n 1, 1)), (68, (.i2b, 1)), (69, (.istore_n 3, 1)), (70, (.iload_n 3, 1))] = true := by decide +kernel
theorem dX12_quotient_0 : decode cX12_quotient 0 = .ok (.aload_n 0, 1) := xdc ddX12_quotient_0 0 rfl
theorem dX12_quotient_1 : decode cX12_quotient 1 = .ok (.invokevirtual 336, 3) := xdc ddX12_quotient_0 1 rfl
theorem dX12_quotient_4 : decode cX12_quotient 4 = .ok (.istore_n 1, 1) := xdc ddX12_quotient_0 2 rfl
theorem dX12_quotient_5 : decode cX12_quotient 5 = .ok (.aload_n 0, 1) := xdc ddX12_quotient_0 3 rfl
theorem dX12_quotient_6 : decode cX12_quotient 6 = .ok (.getfield 272, 3) := xdc ddX12_quotient_0 4 rfl
theorem dX12_quotient_9 : decode cX12_quotient 9 = .ok (.ifCond .eq 4, 3) := xdc ddX12_quotient_0 5 rfl
theorem dX12_quotient_12 : decode cX12_quotient 12 = .ok (.return_, 1) := xdc ddX12_quotient_0 6 rfl
theorem dX12_quotient_13 : decode cX12_quotient 13 = .ok (.aload_n 0, 1) := xdc ddX12_quotient_0 7 rfl
theorem dX12_quotient_14 : decode cX12_quotient 14 = .ok (.getfield 76, 3) := xdc ddX12_quotient_0 8 rfl
theorem dX12_quotient_17 : decode cX12_quotient 17 = .ok (.iconst 1, 1) := xdc ddX12_quotient_0 9 rfl
theorem dX12_quotient_18 : decode cX12_quotient 18 = .ok (.if_icmp .ne 130, 3) := xdc ddX12_quotient_0 10 rfl
theorem dX12_quotient_21 : decode cX12_quotient 21 = .ok (.aload_n 0, 1) := xdc ddX12_quotient_0 11 rfl
theorem dX12_quotient_22 : decode cX12_quotient 22 = .ok (.getfield 70, 3) := xdc ddX12_quotient_0 12 rfl
theorem dX12_quotient_25 : decode cX12_quotient 25 = .ok (.bipush 40, 2) := xdc ddX12_quotient_0 13 rfl
theorem dX12_quotient_27 : decode cX12_quotient 27 = .ok (.if_icmp .ne 15, 3) := xdc ddX12_quotient_0 14 rfl
theorem dX12_quotient_30 : decode cX12_quotient 30 = .ok (.aload_n 0, 1) := xdc ddX12_quotient_0 15 rfl
theorem dX12_quotient_31 : decode cX12_quotient 31 = .ok (.getfield 44, 3) := xdc ddX12_quotient_0 16 rfl
theorem dX12_quotient_34 : decode cX12_quotient 34 = .ok (.iconst 0, 1) := xdc ddX12_quotient_0 17 rfl
theorem dX12_quotient_35 : decode cX12_quotient 35 = .ok (.iaload, 1) := xdc ddX12_quotient_0 18 rfl
theorem dX12_quotient_36 : decode cX12_quotient 36 = .ok (.ldc 158, 2) := xdc ddX12_quotient_0 19 rfl
theorem dX12_quotient_38 : decode cX12_quotient 38 = .ok (.iand, 1) := xdc ddX12_quotient_0 20 rfl
theorem dX12_quotient_39 : decode cX12_quotient 39 = .ok (.goto 10, 3) := xdc ddX12_quotient_0 21 rfl
theorem dX12_quotient_42 : decode cX12_quotient 42 = .ok (.aload_n 0, 1) := xdc ddX12_quotient_0 22 rfl
theorem dX12_quotient_43 : decode cX12_quotient 43 = .ok (.getfield 44, 3) := xdc ddX12_quotient_0 23 rfl
theorem dX12_quotient_46 : decode cX12_quotient 46 = .ok (.iconst 0, 1) := xdc ddX12_quotient_0 24 rfl
theorem dX12_quotient_47 : decode cX12_quotient 47 = .ok (.iaload, 1) := xdc ddX12_quotient_0 25 rfl
theorem dX12_quotient_48 : decode cX12_quotient 48 = .ok (.i2s, 1) := xdc ddX12_quotient_0 26 rfl
theorem dX12_quotient_49 : decode cX12_quotient 49 = .ok (.istore_n 2, 1) := xdc ddX12_quotient_0 27 rfl
theorem dX12_quotient_50 : decode cX12_quotient 50 = .ok (.aload_n 0, 1) := xdc ddX12_quotient_0 28 rfl
theorem dX12_quotient_51 : decode cX12_quotient 51 = .ok (.getfield 70, 3) := xdc ddX12_quotient_0 29 rfl
theorem dX12_quotient_54 : decode cX12_quotient 54 = .ok (.bipush 40, 2) := xdc ddX12_quotient_0 30 rfl
theorem dX12_quotient_56 : decode cX12_quotient 56 = .ok (.if_icmp .ne 11, 3) := xdc ddX12_quotient_0 31 rfl
theorem dX12_quotient_59 : decode cX12_quotient 59 = .ok (.iload_n 1, 1) := xdc ddX12_quotient_0 32 rfl
theorem dX12_quotient_60 : decode cX12_quotient 60 = .ok (.sipush 255, 3) := xdc ddX12_quotient_0 33 rfl
theorem dX12_quotient_63 : decode cX12_quotient 63 = .ok (.iand, 1) := xdc ddX12_quotient_0 34 rfl
theorem dX12_quotient_64 : decode cX12_quotient 64 = .ok (.goto 5, 3) := xdc ddX12_quotient_0 35 rfl
theorem dX12_quotient_67 : decode cX12_quotient 67 = .ok (.iload_n 1, 1) := xdc ddX12_quotient_0 36 rfl
theorem dX12_quotient_68 : decode cX12_quotient 68 = .ok (.i2b, 1) := xdc ddX12_quotient_0 37 rfl
theorem dX12_quotient_69 : decode cX12_quotient 69 = .ok (.istore_n 3, 1) := xdc ddX12_quotient_0 38 rfl
theorem dX12_quotient_70 : decode cX12_quotient 70 = .ok (.iload_n 3, 1) := xdc ddX12_quotient_0 39 rfl
theorem ddX12_quotient_1 : xdec cX12_quotient [(71, (.ifCond .ne 9, 3)), (74, (.sipush 1000, 3)), (77, (.goto 6, 3)), (80, (.iload_n 2, 1)), (81, (.iload_n 3, 1)), (82, (.idiv, 1)), (83, (.istore 4, 2)), (85, (.aload_n 0, 1)), (86, (.getfield 70, 3)), (89, (.bipush 40, 2)), (91, (.if_icmp .ne 14, 3)), (94, (.iload 4, 2)), (96, (.sipush 255, 3)), (99, (.if_icmp .le 25, 3)), (102, (.goto 17, 3)), (105, (.iload 4, 2)), (107, (.bipush (-128), 2)), (109, (.if_icmp .lt 10, 3)), (112, (.iload 4, 2)), (114, (.bipush 127, 2)), (116, (.if_icmp .le 8, 3)), (119, (.aload_n 0, 1)), (120, (.invokevirtual 345, 3)), (123, (.return_, 1)), (124, (.aload_n 0, 1)), (125, (.iconst 0, 1)), (126, (.iconst 2, 1)), (127, (.iload 4, 2)), (129, (.sipush 255, 3)), (132, (.iand, 1)), (133, (.iload_n 2, 1)), (134, (.iload_n 3, 1)), (135, (.irem, 1)), (136, (.sipush 255, 3)), (139, (.iand, 1)), (140, (.bipush 8, 2)), (142, (.ishl, 1)), (143, (.ior, 1)), (144, (.invokevirtual 297, 3)), (147, (.return_, 1))] = true := by decide +kernel
theorem dX12_quotient_71 : decode cX12_quotient 71 = .ok (.ifCond .ne 9, 3) := xdc ddX12_quotient_1 0 rfl
theorem dX12_quotient_74 : decode cX12_quotient 74 = .ok (.sipush 1000, 3) := xdc ddX12_quotient_1 1 rfl
theorem dX12_quotient_77 : decode cX12_quotient 77 = .ok (.goto 6, 3) := xdc ddX12_quotient_1 2 rfl
theorem dX12_quotient_80 : decode cX12_quotient 80 = .ok (.iload_n 2, 1) := xdc ddX12_quotient_1 3 rfl
theorem dX12_quotient_81 : decode cX12_quotient 81 = .ok (.iload_n 3, 1) := xdc ddX12_quotient_1 4 rfl
theorem dX12_quotient_82 : decode cX12_quotient 82 = .ok (.idiv, 1) := xdc ddX12_quotient_1 5 rfl
theorem dX12_quotient_83 : decode cX12_quotient 83 = .ok (.istore 4, 2) := xdc ddX12_quotient_1 6 rfl
theorem dX12_quotient_85 : decode cX12_quotient 85 = .ok (.aload_n 0, 1) := xdc ddX12_quotient_1 7 rfl
theorem dX12_quotient_86 : decode cX12_quotient 86 = .ok (.getfield 70, 3) := xdc ddX12_quotient_1 8 rfl
theorem dX12_quotient_89 : decode cX12_quotient 89 = .ok (.bipush 40, 2) := xdc ddX12_quotient_1 9 rfl
theorem dX12_quotient_91 : decode cX12_quotient 91 = .ok (.if_icmp .ne 14, 3) := xdc ddX12_quotient_1 10 rfl
theorem dX12_quotient_94 : decode cX12_quotient 94 = .ok (.iload 4, 2) := xdc ddX12_quotient_1 11 rfl
theorem dX12_quotient_96 : decode cX12_quotient 96 = .ok (.sipush 255, 3) := xdc ddX12_quotient_1 12 rfl
theorem dX12_quotient_99 : decode cX12_quotient 99 = .ok (.if_icmp .le 25, 3) := xdc ddX12_quotient_1 13 rfl
theorem dX12_quotient_102 : decode cX12_quotient 102 = .ok (.goto 17, 3) := xdc ddX12_quotient_1 14 rfl
theorem dX12_quotient_105 : decode cX12_quotient 105 = .ok (.iload 4, 2) := xdc ddX12_quotient_1 15 rfl
theorem dX12_quotient_107 : decode cX12_quotient 107 = .ok (.bipush (-128), 2) := xdc ddX12_quotient_1 16 rfl
theorem dX12_quotient_109 : decode cX12_quotient 109 = .ok (.if_icmp .lt 10, 3) := xdc ddX12_quotient_1 17 rfl
theorem dX12_quotient_112 : decode cX12_quotient 112 = .ok (.iload 4, 2) := xdc ddX12_quotient_1 18 rfl
theorem dX12_quotient_114 : decode cX12_quotient 114 = .ok (.bipush 127, 2) := xdc ddX12_quotient_1 19 rfl
theorem dX12_quotient_116 : decode cX12_quotient 116 = .ok (.if_icmp .le 8, 3) := xdc ddX12_quotient_1 20 rfl
theorem dX12_quotient_119 : decode cX12_quotient 119 = .ok (.aload_n 0, 1) := xdc ddX12_quotient_1 21 rfl
theorem dX12_quotient_120 : decode cX12_quotient 120 = .ok (.invokevirtual 345, 3) := xdc ddX12_quotient_1 22 rfl
theorem dX12_quotient_123 : decode cX12_quotient 123 = .ok (.return_, 1) := xdc ddX12_quotient_1 23 rfl
theorem dX12_quotient_124 : decode cX12_quotient 124 = .ok (.aload_n 0, 1) := xdc ddX12_quotient_1 24 rfl
theorem dX12_quotient_125 : decode cX12_quotient 125 = .ok (.iconst 0, 1) := xdc ddX12_quotient_1 25 rfl
theorem dX12_quotient_126 : decode cX12_quotient 126 = .ok (.iconst 2, 1) := xdc ddX12_quotient_1 26 rfl
theorem dX12_quotient_127 : decode cX12_quotient 127 = .ok (.iload 4, 2) := xdc ddX12_quotient_1 27 rfl
theorem dX12_quotient_129 : decode cX12_quotient 129 = .ok (.sipush 255, 3) := xdc ddX12_quotient_1 28 rfl
theorem dX12_quotient_132 : decode cX12_quotient 132 = .ok (.iand, 1) := xdc ddX12_quotient_1 29 rfl
theorem dX12_quotient_133 : decode cX12_quotient 133 = .ok (.iload_n 2, 1) := xdc ddX12_quotient_1 30 rfl
theorem dX12_quotient_134 : decode cX12_quotient 134 = .ok (.iload_n 3, 1) := xdc ddX12_quotient_1 31 rfl
theorem dX12_quotient_135 : decode cX12_quotient 135 = .ok (.irem, 1) := xdc ddX12_quotient_1 32 rfl
theorem dX12_quotient_136 : decode cX12_quotient 136 = .ok (.sipush 255, 3) := xdc ddX12_quotient_1 33 rfl
theorem dX12_quotient_139 : decode cX12_quotient 139 = .ok (.iand, 1) := xdc ddX12_quotient_1 34 rfl
theorem dX12_quotient_140 : decode cX12_quotient 140 = .ok (.bipush 8, 2) := xdc ddX12_quotient_1 35 rfl
theorem dX12_quotient_142 : decode cX12_quotient 142 = .ok (.ishl, 1) := xdc ddX12_quotient_1 36 rfl
theorem dX12_quotient_143 : decode cX12_quotient 143 = .ok (.ior, 1) := xdc ddX12_quotient_1 37 rfl
theorem dX12_quotient_144 : decode cX12_quotient 144 = .ok (.invokevirtual 297, 3) := xdc ddX12_quotient_1 38 rfl
theorem dX12_quotient_147 : decode cX12_quotient 147 = .ok (.return_, 1) := xdc ddX12_quotient_1 39 rfl
theorem ddX12_quotient_2 : xdec cX12_quotient [(148, (.aload_n 0, 1)), (149, (.getfield 44, 3)), (152, (.iconst 2, 1)), (153, (.iaload, 1)), (154, (.i2l, 1)), (155, (.bipush 32, 2)), (157, (.lshl, 1)), (158, (.aload_n 0, 1)), (159, (.getfield 44, 3)), (162, (.iconst 0, 1)), (163, (.iaload, 1)), (164, (.i2l, 1)), (165, (.ldc2_w 186, 3)), (168, (.land, 1)), (169, (.lor, 1)), (170, (.lstore_n 2, 1)), (171, (.aload_n 0, 1)), (172, (.getfield 70, 3)), (175, (.bipush 40, 2)), (177, (.if_icmp .ne 119, 3)), (180, (.iload_n 1, 1)), (181, (.i2l, 1)), (182, (.ldc2_w 186, 3)), (185, (.land, 1)), (186, (.lstore 4, 2)), (188, (.aload_n 0, 1)), (189, (.getfield 44, 3)), (192, (.iconst 2, 1)), (193, (.iaload, 1)), (194, (.i2l, 1)), (195, (.ldc2_w 186, 3)), (198, (.land, 1)), (199, (.lstore 6, 2)), (201, (.lload 6, 2)), (203, (.lload 4, 2)), (205, (.lcmp, 1)), (206, (.ifCond .lt 8, 3)), (209, (.aload_n 0, 1)), (210, (.invokevirtual 345, 3)), (213, (.return_, 1))] = true := by decide +kernel
theorem dX12_quotient_148 : decode cX12_quotient 148 = .ok (.aload_n 0, 1) := xdc ddX12_quotient_2 0 rfl
theorem dX12_quotient_149 : decode cX12_quotient 149 = .ok (.getfield 44, 3) := xdc ddX12_quotient_2 1 rfl
theorem dX12_quotient_152 : decode cX12_quotient 152 = .ok (.iconst 2, 1) := xdc ddX12_quotient_2 2 rfl
theorem dX12_quotient_153 : decode cX12_quotient 153 = .ok (.iaload, 1) := xdc ddX12_quotient_2 3 rfl
theorem dX12_quotient_154 : decode cX12_quotient 154 = .ok (.i2l, 1) := xdc ddX12_quotient_2 4 rfl
theorem dX12_quotient_155 : decode cX12_quotient 155 = .ok (.bipush 32, 2) := xdc ddX12_quotient_2 5 rfl
theorem dX12_quotient_157 : decode cX12_quotient 157 = .ok (.lshl, 1) := xdc ddX12_quotient_2 6 rfl
theorem dX12_quotient_158 : decode cX12_quotient 158 = .ok (.aload_n 0, 1) := xdc ddX12_quotient_2 7 rfl
theorem dX12_quotient_159 : decode cX12_quotient 159 = .ok (.getfield 44, 3) := xdc ddX12_quotient_2 8 rfl
theorem dX12_quotient_162 : decode cX12_quotient 162 = .ok (.iconst 0, 1) := xdc ddX12_quotient_2 9 rfl
theorem dX12_quotient_163 : decode cX12_quotient 163 = .ok (.iaload, 1) := xdc ddX12_quotient_2 10 rfl
theorem dX12_quotient_164 : decode cX12_quotient 164 = .ok (.i2l, 1) := xdc ddX12_quotient_2 11 rfl
theorem dX12_quotient_165 : decode cX12_quotient 165 = .ok (.ldc2_w 186, 3) := xdc ddX12_quotient_2 12 rfl
theorem dX12_quotient_168 : decode cX12_quotient 168 = .ok (.land, 1) := xdc ddX12_quotient_2 13 rfl
theorem dX12_quotient_169 : decode cX12_quotient 169 = .ok (.lor, 1) := xdc ddX12_quotient_2 14 rfl
theorem dX12_quotient_170 : decode cX12_quotient 170 = .ok (.lstore_n 2, 1) := xdc ddX12_quotient_2 15 rfl
theorem dX12_quotient_171 : decode cX12_quotient 171 = .ok (.aload_n 0, 1) := xdc ddX12_quotient_2 16 rfl
theorem dX12_quotient_172 : decode cX12_quotient 172 = .ok (.getfield 70, 3) := xdc ddX12_quotient_2 17 rfl
theorem dX12_quotient_175 : decode cX12_quotient 175 = .ok (.bipush 40, 2) := xdc ddX12_quotient_2 18 rfl
theorem dX12_quotient_177 : decode cX12_quotient 177 = .ok (.if_icmp .ne 119, 3) := xdc ddX12_quotient_2 19 rfl
theorem dX12_quotient_180 : decode cX12_quotient 180 = .ok (.iload_n 1, 1) := xdc ddX12_quotient_2 20 rfl
theorem dX12_quotient_181 : decode cX12_quotient 181 = .ok (.i2l, 1) := xdc ddX12_quotient_2 21 rfl
theorem dX12_quotient_182 : decode cX12_quotient 182 = .ok (.ldc2_w 186, 3) := xdc ddX12_quotient_2 22 rfl
theorem dX12_quotient_185 : decode cX12_quotient 185 = .ok (.land, 1) := xdc ddX12_quotient_2 23 rfl
theorem dX12_quotient_186 : decode cX12_quotient 186 = .ok (.lstore 4, 2) := xdc ddX12_quotient_2 24 rfl
theorem dX12_quotient_188 : decode cX12_quotient 188 = .ok (.aload_n 0, 1) := xdc ddX12_quotient_2 25 rfl
theorem dX12_quotient_189 : decode cX12_quotient 189 = .ok (.getfield 44, 3) := xdc ddX12_quotient_2 26 rfl
theorem dX12_quotient_192 : decode cX12_quotient 192 = .ok (.iconst 2, 1) := xdc ddX12_quotient_2 27 rfl
theorem dX12_quotient_193 : decode cX12_quotient 193 = .ok (.iaload, 1) := xdc ddX12_quotient_2 28 rfl
theorem dX12_quotient_194 : decode cX12_quotient 194 = .ok (.i2l, 1) := xdc ddX12_quotient_2 29 rfl
theorem dX12_quotient_195 : decode cX12_quotient 195 = .ok (.ldc2_w 186, 3) := xdc ddX12_quotient_2 30 rfl
theorem dX12_quotient_198 : decode cX12_quotient 198 = .ok (.land, 1) := xdc ddX12_quotient_2 31 rfl
theorem dX12_quotient_199 : decode cX12_quotient 199 = .ok (.lstore 6, 2) := xdc ddX12_quotient_2 32 rfl
theorem dX12_quotient_201 : decode cX12_quotient 201 = .ok (.lload 6, 2) := xdc ddX12_quotient_2 33 rfl
theorem dX12_quotient_203 : decode cX12_quotient 203 = .ok (.lload 4, 2) := xdc ddX12_quotient_2 34 rfl
theorem dX12_quotient_205 : decode cX12_quotient 205 = .ok (.lcmp, 1) := xdc ddX12_quotient_2 35 rfl
theorem dX12_quotient_206 : decode cX12_quotient 206 = .ok (.ifCond .lt 8, 3) := xdc ddX12_quotient_2 36 rfl
theorem dX12_quotient_209 : decode cX12_quotient 209 = .ok (.aload_n 0, 1) := xdc ddX12_quotient_2 37 rfl
theorem dX12_quotient_210 : decode cX12_quotient 210 = .ok (.invokevirtual 345, 3) := xdc ddX12_quotient_2 38 rfl
theorem dX12_quotient_213 : decode cX12_quotient 213 = .ok (.return_, 1) := xdc ddX12_quotient_2 39 rfl
theorem ddX12_quotient_3 : xdec cX12_quotient [(214, (.iconst 0, 1)), (215, (.istore 8, 2)), (217, (.bipush 31, 2)), (219, (.istore 9, 2)), (221, (.iload 9, 2)), (223, (.ifCond .lt 55, 3)), (226, (.lload 6, 2)), (228, (.iconst 1, 1)), (229, (.lshl, 1)), (230, (.aload_n 0, 1)), (231, (.getfield 44, 3)), (234, (.iconst 0, 1)), (235, (.iaload, 1)), (236, (.iload 9, 2)), (238, (.iushr, 1)), (239, (.iconst 1, 1)), (240, (.iand, 1)), (241, (.i2l, 1)), (242, (.lor, 1)), (243, (.lstore 6, 2)), (245, (.iload 8, 2)), (247, (.iconst 1, 1)), (248, (.ishl, 1)), (249, (.istore 8, 2)), (251, (.lload 6, 2)), (253, (.lload 4, 2)), (255, (.lcmp, 1)), (256, (.ifCond .lt 16, 3)), (259, (.lload 6, 2)), (261, (.lload 4, 2)), (263, (.lsub, 1)), (264, (.lstore 6, 2)), (266, (.iload 8, 2)), (268, (.iconst 1, 1)), (269, (.ior, 1)), (270, (.istore 8, 2)), (272, (.iinc 9 (-1), 3)), (275, (.goto (-54), 3)), (278, (.aload_n 0, 1)), (279, (.getfield 44, 3))] = true := by decide +kernel
theorem dX12_quotient_214 : decode cX12_quotient 214 = .ok (.iconst 0, 1) := xdc ddX12_quotient_3 0 rfl
theorem dX12_quotient_215 : decode cX12_quotient 215 = .ok (.istore 8, 2) := xdc ddX12_quotient_3 1 rfl
theorem dX12_quotient_217 : decode cX12_quotient 217 = .ok (.bipush 31, 2) := xdc ddX12_quotient_3 2 rfl
theorem dX12_quotient_219 : decode cX12_quotient 219 = .ok (.istore 9, 2) := xdc ddX12_quotient_3 3 rfl
theorem dX12_quotient_221 : decode cX12_quotient 221 = .ok (.iload 9, 2) := xdc ddX12_quotient_3 4 rfl
theorem dX12_quotient_223 : decode cX12_quotient 223 = .ok (.ifCond .lt 55, 3) := xdc ddX12_quotient_3 5 rfl
theorem dX12_quotient_226 : decode cX12_quotient 226 = .ok (.lload 6, 2) := xdc ddX12_quotient_3 6 rfl
theorem dX12_quotient_228 : decode cX12_quotient 228 = .ok (.iconst 1, 1) := xdc ddX12_quotient_3 7 rfl
theorem dX12_quotient_229 : decode cX12_quotient 229 = .ok (.lshl, 1) := xdc ddX12_quotient_3 8 rfl
theorem dX12_quotient_230 : decode cX12_quotient 230 = .ok (.aload_n 0, 1) := xdc ddX12_quotient_3 9 rfl
theorem dX12_quotient_231 : decode cX12_quotient 231 = .ok (.getfield 44, 3) := xdc ddX12_quotient_3 10 rfl
theorem dX12_quotient_234 : decode cX12_quotient 234 = .ok (.iconst 0, 1) := xdc ddX12_quotient_3 11 rfl
theorem dX12_quotient_235 : decode cX12_quotient 235 = .ok (.iaload, 1) := xdc ddX12_quotient_3 12 rfl
theorem dX12_quotient_236 : decode cX12_quotient 236 = .ok (.iload 9, 2) := xdc ddX12_quotient_3 13 rfl
theorem dX12_quotient_238 : decode cX12_quotient 238 = .ok (.iushr, 1) := xdc ddX12_quotient_3 14 rfl
theorem dX12_quotient_239 : decode cX12_quotient 239 = .ok (.iconst 1, 1) := xdc ddX12_quotient_3 15 rfl
theorem dX12_quotient_240 : decode cX12_quotient 240 = .ok (.iand, 1) := xdc ddX12_quotient_3 16 rfl
theorem dX12_quotient_241 : decode cX12_quotient 241 = .ok (.i2l, 1) := xdc ddX12_quotient_3 17 rfl
theorem dX12_quotient_242 : decode cX12_quotient 242 = .ok (.lor, 1) := xdc ddX12_quotient_3 18 rfl
theorem dX12_quotient_243 : decode cX12_quotient 243 = .ok (.lstore 6, 2) := xdc ddX12_quotient_3 19 rfl
theorem dX12_quotient_245 : decode cX12_quotient 245 = .ok (.iload 8, 2) := xdc ddX12_quotient_3 20 rfl
theorem dX12_quotient_247 : decode cX12_quotient 247 = .ok (.iconst 1, 1) := xdc ddX12_quotient_3 21 rfl
theorem dX12_quotient_248 : decode cX12_quotient 248 = .ok (.ishl, 1) := xdc ddX12_quotient_3 22 rfl
theorem dX12_quotient_249 : decode cX12_quotient 249 = .ok (.istore 8, 2) := xdc ddX12_quotient_3 23 rfl
theorem dX12_quotient_251 : decode cX12_quotient 251 = .ok (.lload 6, 2) := xdc ddX12_quotient_3 24 rfl
theorem dX12_quotient_253 : decode cX12_quotient 253 = .ok (.lload 4, 2) := xdc ddX12_quotient_3 25 rfl
theorem dX12_quotient_255 : decode cX12_quotient 255 = .ok (.lcmp, 1) := xdc ddX12_quotient_3 26 rfl
theorem dX12_quotient_256 : decode cX12_quotient 256 = .ok (.ifCond .lt 16, 3) := xdc ddX12_quotient_3 27 rfl
theorem dX12_quotient_259 : decode cX12_quotient 259 = .ok (.lload 6, 2) := xdc ddX12_quotient_3 28 rfl
theorem dX12_quotient_261 : decode cX12_quotient 261 = .ok (.lload 4, 2) := xdc ddX12_quotient_3 29 rfl
theorem dX12_quotient_263 : decode cX12_quotient 263 = .ok (.lsub, 1) := xdc ddX12_quotient_3 30 rfl
theorem dX12_quotient_264 : decode cX12_quotient 264 = .ok (.lstore 6, 2) := xdc ddX12_quotient_3 31 rfl
theorem dX12_quotient_266 : decode cX12_quotient 266 = .ok (.iload 8, 2) := xdc ddX12_quotient_3 32 rfl
theorem dX12_quotient_268 : decode cX12_quotient 268 = .ok (.iconst 1, 1) := xdc ddX12_quotient_3 33 rfl
theorem dX12_quotient_269 : decode cX12_quotient 269 = .ok (.ior, 1) := xdc ddX12_quotient_3 34 rfl
theorem dX12_quotient_270 : decode cX12_quotient 270 = .ok (.istore 8, 2) := xdc ddX12_quotient_3 35 rfl
theorem dX12_quotient_272 : decode cX12_quotient 272 = .ok (.iinc 9 (-1), 3) := xdc ddX12_quotient_3 36 rfl
theorem dX12_quotient_275 : decode cX12_quotient 275 = .ok (.goto (-54), 3) := xdc ddX12_quotient_3 37 rfl
theorem dX12_quotient_278 : decode cX12_quotient 278 = .ok (.aload_n 0, 1) := xdc ddX12_quotient_3 38 rfl
theorem dX12_quotient_279 : decode cX12_quotient 279 = .ok (.getfield 44, 3) := xdc ddX12_quotient_3 39 rfl
theorem ddX12_quotient_4 : xdec cX12_quotient [(282, (.iconst 0, 1)), (283, (.iload 8, 2)), (285, (.iastore, 1)), (286, (.aload_n 0, 1)), (287, (.getfield 44, 3)), (290, (.iconst 2, 1)), (291, (.lload 6, 2)), (293, (.l2i, 1)), (294, (.iastore, 1)), (295, (.return_, 1)), (296, (.iload_n 1, 1)), (297, (.ifCond .ne 7, 3)), (300, (.lconst 0, 1)), (301, (.goto 7, 3)), (304, (.lload_n 2, 1)), (305, (.iload_n 1, 1)), (306, (.i2l, 1)), (307, (.ldiv, 1)), (308, (.lstore 4, 2)), (310, (.iload_n 1, 1)), (311, (.ifCond .eq 13, 3)), (314, (.lload 4, 2)), (316, (.lload 4, 2)), (318, (.l2i, 1)), (319, (.i2l, 1)), (320, (.lcmp, 1)), (321, (.ifCond .eq 8, 3)), (324, (.aload_n 0, 1)), (325, (.invokevirtual 345, 3)), (328, (.return_, 1)), (329, (.aload_n 0, 1)), (330, (.getfield 44, 3)), (333, (.iconst 2, 1)), (334, (.lload_n 2, 1)), (335, (.iload_n 1, 1)), (336, (.i2l, 1)), (337, (.lrem, 1)), (338, (.l2i, 1)), (339, (.iastore, 1)), (340, (.aload_n 0, 1))] = true := by decide +kernel
theorem dX12_quotient_282 : decode cX12_quotient 282 = .ok (.iconst 0, 1) := xdc ddX12_quotient_4 0 rfl
theorem dX12_quotient_283 : decode cX12_quotient 283 = .ok (.iload 8, 2) := xdc ddX12_quotient_4 1 rfl
theorem dX12_quotient_285 : decode cX12_quotient 285 = .ok (.iastore, 1) := xdc ddX12_quotient_4 2 rfl
theorem dX12_quotient_286 : decode cX12_quotient 286 = .ok (.aload_n 0, 1) := xdc ddX12_quotient_4 3 rfl
theorem dX12_quotient_287 : decode cX12_quotient 287 = .ok (.getfield 44, 3) := xdc ddX12_quotient_4 4 rfl
theorem dX12_quotient_290 : decode cX12_quotient 290 = .ok (.iconst 2, 1) := xdc ddX12_quotient_4 5 rfl
theorem dX12_quotient_291 : decode cX12_quotient 291 = .ok (.lload 6, 2) := xdc ddX12_quotient_4 6 rfl
theorem dX12_quotient_293 : decode cX12_quotient 293 = .ok (.l2i, 1) := xdc ddX12_quotient_4 7 rfl
theorem dX12_quotient_294 : decode cX12_quotient 294 = .ok (.iastore, 1) := xdc ddX12_quotient_4 8 rfl
theorem dX12_quotient_295 : decode cX12_quotient 295 = .ok (.return_, 1) := xdc ddX12_quotient_4 9 rfl
theorem dX12_quotient_296 : decode cX12_quotient 296 = .ok (.iload_n 1, 1) := xdc ddX12_quotient_4 10 rfl
theorem dX12_quotient_297 : decode cX12_quotient 297 = .ok (.ifCond .ne 7, 3) := xdc ddX12_quotient_4 11 rfl
theorem dX12_quotient_300 : decode cX12_quotient 300 = .ok (.lconst 0, 1) := xdc ddX12_quotient_4 12 rfl
theorem dX12_quotient_301 : decode cX12_quotient 301 = .ok (.goto 7, 3) := xdc ddX12_quotient_4 13 rfl
theorem dX12_quotient_304 : decode cX12_quotient 304 = .ok (.lload_n 2, 1) := xdc ddX12_quotient_4 14 rfl
theorem dX12_quotient_305 : decode cX12_quotient 305 = .ok (.iload_n 1, 1) := xdc ddX12_quotient_4 15 rfl
theorem dX12_quotient_306 : decode cX12_quotient 306 = .ok (.i2l, 1) := xdc ddX12_quotient_4 16 rfl
theorem dX12_quotient_307 : decode cX12_quotient 307 = .ok (.ldiv, 1) := xdc ddX12_quotient_4 17 rfl
theorem dX12_quotient_308 : decode cX12_quotient 308 = .ok (.lstore 4, 2) := xdc ddX12_quotient_4 18 rfl
theorem dX12_quotient_310 : decode cX12_quotient 310 = .ok (.iload_n 1, 1) := xdc ddX12_quotient_4 19 rfl
theorem dX12_quotient_311 : decode cX12_quotient 311 = .ok (.ifCond .eq 13, 3) := xdc ddX12_quotient_4 20 rfl
theorem dX12_quotient_314 : decode cX12_quotient 314 = .ok (.lload 4, 2) := xdc ddX12_quotient_4 21 rfl
theorem dX12_quotient_316 : decode cX12_quotient 316 = .ok (.lload 4, 2) := xdc ddX12_quotient_4 22 rfl
theorem dX12_quotient_318 : decode cX12_quotient 318 = .ok (.l2i, 1) := xdc ddX12_quotient_4 23 rfl
theorem dX12_quotient_319 : decode cX12_quotient 319 = .ok (.i2l, 1) := xdc ddX12_quotient_4 24 rfl
theorem dX12_quotient_320 : decode cX12_quotient 320 = .ok (.lcmp, 1) := xdc ddX12_quotient_4 25 rfl
theorem dX12_quotient_321 : decode cX12_quotient 321 = .ok (.ifCond .eq 8, 3) := xdc ddX12_quotient_4 26 rfl
theorem dX12_quotient_324 : decode cX12_quotient 324 = .ok (.aload_n 0, 1) := xdc ddX12_quotient_4 27 rfl
theorem dX12_quotient_325 : decode cX12_quotient 325 = .ok (.invokevirtual 345, 3) := xdc ddX12_quotient_4 28 rfl
theorem dX12_quotient_328 : decode cX12_quotient 328 = .ok (.return_, 1) := xdc ddX12_quotient_4 29 rfl
theorem dX12_quotient_329 : decode cX12_quotient 329 = .ok (.aload_n 0, 1) := xdc ddX12_quotient_4 30 rfl
theorem dX12_quotient_330 : decode cX12_quotient 330 = .ok (.getfield 44, 3) := xdc ddX12_quotient_4 31 rfl
theorem dX12_quotient_333 : decode cX12_quotient 333 = .ok (.iconst 2, 1) := xdc ddX12_quotient_4 32 rfl
theorem dX12_quotient_334 : decode cX12_quotient 334 = .ok (.lload_n 2, 1) := xdc ddX12_quotient_4 33 rfl
theorem dX12_quotient_335 : decode cX12_quotient 335 = .ok (.iload_n 1, 1) := xdc ddX12_quotient_4 34 rfl
theorem dX12_quotient_336 : decode cX12_quotient 336 = .ok (.i2l, 1) := xdc ddX12_quotient_4 35 rfl
theorem dX12_quotient_337 : decode cX12_quotient 337 = .ok (.lrem, 1) := xdc ddX12_quotient_4 36 rfl
theorem dX12_quotient_338 : decode cX12_quotient 338 = .ok (.l2i, 1) := xdc ddX12_quotient_4 37 rfl
theorem dX12_quotient_339 : decode cX12_quotient 339 = .ok (.iastore, 1) := xdc ddX12_quotient_4 38 rfl
theorem dX12_quotient_340 : decode cX12_quotient 340 = .ok (.aload_n 0, 1) := xdc ddX12_quotient_4 39 rfl
theorem ddX12_quotient_5 : xdec cX12_quotient [(341, (.getfield 44, 3)), (344, (.iconst 0, 1)), (345, (.lload 4, 2)), (347, (.l2i, 1)), (348, (.iastore, 1)), (349, (.return_, 1))] = true := by decide +kernel
theorem dX12_quotient_341 : decode cX12_quotient 341 = .ok (.getfield 44, 3) := xdc ddX12_quotient_5 0 rfl
theorem dX12_quotient_344 : decode cX12_quotient 344 = .ok (.iconst 0, 1) := xdc ddX12_quotient_5 1 rfl
theorem dX12_quotient_345 : decode cX12_quotient 345 = .ok (.lload 4, 2) := xdc ddX12_quotient_5 2 rfl
theorem dX12_quotient_347 : decode cX12_quotient 347 = .ok (.l2i, 1) := xdc ddX12_quotient_5 3 rfl
theorem dX12_quotient_348 : decode cX12_quotient 348 = .ok (.iastore, 1) := xdc ddX12_quotient_5 4 rfl
theorem dX12_quotient_349 : decode cX12_quotient 349 = .ok (.return_, 1) := xdc ddX12_quotient_5 5 rfl
abbrev cX12_push : ByteArray := prog_14_method_69_code
theorem ddX12_push_0 : xdec cX12_push [(0, (.aload_n 0, 1)), (1, (.getfield 44, 3)), (4, (.iconst 4, 1)), (5, (.dup2, 1)), (6, (.iaload, 1)), (7, (.iconst 4, 1)), (8, (.isub, 1)), (9, (.iastore, 1)), (10, (.aload_n 0, 1)), (11, (.aload_n 0, 1)), (12, (.getfield 44, 3)), (15, (.iconst 4, 1)), (16, (.iaload, 1)), (17, (.iload_n 1, 1)), (18, (.iconst 4, 1)), (19, (.invokevirtual 300, 3)), (22, (.return_, 1))] = true := by decide +kernel
theorem dX12_push_0 : decode cX12_push 0 = .ok (.aload_n 0, 1) := xdc ddX12_push_0 0 rfl
theorem dX12_push_1 : decode cX12_push 1 = .ok (.getfield 44, 3) := xdc ddX12_push_0 1 rfl
theorem dX12_push_4 : decode cX12_push 4 = .ok (.iconst 4, 1) := xdc ddX12_push_0 2 rfl
theorem dX12_push_5 : decode cX12_push 5 = .ok (.dup2, 1) := xdc ddX12_push_0 3 rfl
theorem dX12_push_6 : decode cX12_push 6 = .ok (.iaload, 1) := xdc ddX12_push_0 4 rfl
theorem dX12_push_7 : decode cX12_push 7 = .ok (.iconst 4, 1) := xdc ddX12_push_0 5 rfl
theorem dX12_push_8 : decode cX12_push 8 = .ok (.isub, 1) := xdc ddX12_push_0 6 rfl
theorem dX12_push_9 : decode cX12_push 9 = .ok (.iastore, 1) := xdc ddX12_push_0 7 rfl
theorem dX12_push_10 : decode cX12_push 10 = .ok (.aload_n 0, 1) := xdc ddX12_push_0 8 rfl
theorem dX12_push_11 : decode cX12_push 11 = .ok (.aload_n 0, 1) := xdc ddX12_push_0 9 rfl
theorem dX12_push_12 : decode cX12_push 12 = .ok (.getfield 44, 3) := xdc ddX12_push_0 10 rfl
theorem dX12_push_15 : decode cX12_push 15 = .ok (.iconst 4, 1) := xdc ddX12_push_0 11 rfl
theorem dX12_push_16 : decode cX12_push 16 = .ok (.iaload, 1) := xdc ddX12_push_0 12 rfl
theorem dX12_push_17 : decode cX12_push 17 = .ok (.iload_n 1, 1) := xdc ddX12_push_0 13 rfl
theorem dX12_push_18 : decode cX12_push 18 = .ok (.iconst 4, 1) := xdc ddX12_push_0 14 rfl
theorem dX12_push_19 : decode cX12_push 19 = .ok (.invokevirtual 300, 3) := xdc ddX12_push_0 15 rfl
theorem dX12_push_22 : decode cX12_push 22 = .ok (.return_, 1) := xdc ddX12_push_0 16 rfl
abbrev cX12_pop : ByteArray := prog_14_method_70_code
theorem ddX12_pop_0 : xdec cX12_pop [(0, (.aload_n 0, 1)), (1, (.aload_n 0, 1)), (2, (.getfield 44, 3)), (5, (.iconst 4, 1)), (6, (.iaload, 1)), (7, (.iconst 4, 1)), (8, (.invokevirtual 294, 3)), (11, (.istore_n 1, 1)), (12, (.aload_n 0, 1)), (13, (.getfield 44, 3)), (16, (.iconst 4, 1)), (17, (.dup2, 1)), (18, (.iaload, 1)), (19, (.iconst 4, 1)), (20, (.iadd, 1)), (21, (.iastore, 1)), (22, (.iload_n 1, 1)), (23, (.ireturn, 1))] = true := by decide +kernel
theorem dX12_pop_0 : decode cX12_pop 0 = .ok (.aload_n 0, 1) := xdc ddX12_pop_0 0 rfl
theorem dX12_pop_1 : decode cX12_pop 1 = .ok (.aload_n 0, 1) := xdc ddX12_pop_0 1 rfl
theorem dX12_pop_2 : decode cX12_pop 2 = .ok (.getfield 44, 3) := xdc ddX12_pop_0 2 rfl
theorem dX12_pop_5 : decode cX12_pop 5 = .ok (.iconst 4, 1) := xdc ddX12_pop_0 3 rfl
theorem dX12_pop_6 : decode cX12_pop 6 = .ok (.iaload, 1) := xdc ddX12_pop_0 4 rfl
theorem dX12_pop_7 : decode cX12_pop 7 = .ok (.iconst 4, 1) := xdc ddX12_pop_0 5 rfl
theorem dX12_pop_8 : decode cX12_pop 8 = .ok (.invokevirtual 294, 3) := xdc ddX12_pop_0 6 rfl
theorem dX12_pop_11 : decode cX12_pop 11 = .ok (.istore_n 1, 1) := xdc ddX12_pop_0 7 rfl
theorem dX12_pop_12 : decode cX12_pop 12 = .ok (.aload_n 0, 1) := xdc ddX12_pop_0 8 rfl
theorem dX12_pop_13 : decode cX12_pop 13 = .ok (.getfield 44, 3) := xdc ddX12_pop_0 9 rfl
theorem dX12_pop_16 : decode cX12_pop 16 = .ok (.iconst 4, 1) := xdc ddX12_pop_0 10 rfl
theorem dX12_pop_17 : decode cX12_pop 17 = .ok (.dup2, 1) := xdc ddX12_pop_0 11 rfl
theorem dX12_pop_18 : decode cX12_pop 18 = .ok (.iaload, 1) := xdc ddX12_pop_0 12 rfl
theorem dX12_pop_19 : decode cX12_pop 19 = .ok (.iconst 4, 1) := xdc ddX12_pop_0 13 rfl
theorem dX12_pop_20 : decode cX12_pop 20 = .ok (.iadd, 1) := xdc ddX12_pop_0 14 rfl
theorem dX12_pop_21 : decode cX12_pop 21 = .ok (.iastore, 1) := xdc ddX12_pop_0 15 rfl
theorem dX12_pop_22 : decode cX12_pop 22 = .ok (.iload_n 1, 1) := xdc ddX12_pop_0 16 rfl
theorem dX12_pop_23 : decode cX12_pop 23 = .ok (.ireturn, 1) := xdc ddX12_pop_0 17 rfl
abbrev cX12_doRest : ByteArray := prog_14_method_73_code
theorem ddX12_doRest_0 : xdec cX12_doRest [(0, (.aload_n 0, 1)), (1, (.getfield 70, 3)), (4, (.tableswitch 412 44 54 #[60, 88, 130, 130, 136, 184, 236, 236, 184, 319, 364], 60)), (64, (.aload_n 0, 1)), (65, (.invokevirtual 336, 3)), (68, (.istore_n 2, 1)), (69, (.aload_n 0, 1)), (70, (.aload_n 0, 1)), (71, (.getfield 115, 3)), (74, (.invokevirtual 376, 3)), (77, (.ifCond .eq 13, 3)), (80, (.aload_n 0, 1)), (81, (.getfield 44, 3)), (84, (.aload_n 0, 1)), (85, (.getfield 85, 3)), (88, (.iload_n 2, 1)), (89, (.iastore, 1)), (90, (.iload_n 1, 1)), (91, (.ireturn, 1)), (92, (.aload_n 0, 1)), (93, (.aload_n 0, 1)), (94, (.getfield 82, 3)), (97, (.iconst 3, 1)), (98, (.if_icmp .ne 7, 3)), (101, (.iconst 0, 1)), (102, (.goto 7, 3)), (105, (.aload_n 0, 1)), (106, (.invokevirtual 285, 3)), (109, (.putfield 288, 3)), (112, (.aload_n 0, 1)), (113, (.aload_n 0, 1)), (114, (.aload_n 0, 1)), (115, (.getfield 115, 3)), (118, (.invokevirtual 376, 3)), (121, (.ifCond .eq 7, 3)), (124, (.iconst 1, 1)), (125, (.goto 4, 3)), (128, (.iconst 0, 1)), (129, (.invokevirtual 339, 3)), (132, (.iload_n 1, 1))] = true := by decide +kernel
theorem dX12_doRest_0 : decode cX12_doRest 0 = .ok (.aload_n 0, 1) := xdc ddX12_doRest_0 0 rfl
theorem dX12_doRest_1 : decode cX12_doRest 1 = .ok (.getfield 70, 3) := xdc ddX12_doRest_0 1 rfl
theorem dX12_doRest_4 : decode cX12_doRest 4 = .ok (.tableswitch 412 44 54 #[60, 88, 130, 130, 136, 184, 236, 236, 184, 319, 364], 60) := xdc ddX12_doRest_0 2 rfl
theorem dX12_doRest_64 : decode cX12_doRest 64 = .ok (.aload_n 0, 1) := xdc ddX12_doRest_0 3 rfl
theorem dX12_doRest_65 : decode cX12_doRest 65 = .ok (.invokevirtual 336, 3) := xdc ddX12_doRest_0 4 rfl
theorem dX12_doRest_68 : decode cX12_doRest 68 = .ok (.istore_n 2, 1) := xdc ddX12_doRest_0 5 rfl
theorem dX12_doRest_69 : decode cX12_doRest 69 = .ok (.aload_n 0, 1) := xdc ddX12_doRest_0 6 rfl
theorem dX12_doRest_70 : decode cX12_doRest 70 = .ok (.aload_n 0, 1) := xdc ddX12_doRest_0 7 rfl
theorem dX12_doRest_71 : decode cX12_doRest 71 = .ok (.getfield 115, 3) := xdc ddX12_doRest_0 8 rfl
theorem dX12_doRest_74 : decode cX12_doRest 74 = .ok (.invokevirtual 376, 3) := xdc ddX12_doRest_0 9 rfl
theorem dX12_doRest_77 : decode cX12_doRest 77 = .ok (.ifCond .eq 13, 3) := xdc ddX12_doRest_0 10 rfl
theorem dX12_doRest_80 : decode cX12_doRest 80 = .ok (.aload_n 0, 1) := xdc ddX12_doRest_0 11 rfl
theorem dX12_doRest_81 : decode cX12_doRest 81 = .ok (.getfield 44, 3) := xdc ddX12_doRest_0 12 rfl
theorem dX12_doRest_84 : decode cX12_doRest 84 = .ok (.aload_n 0, 1) := xdc ddX12_doRest_0 13 rfl
theorem dX12_doRest_85 : decode cX12_doRest 85 = .ok (.getfield 85, 3) := xdc ddX12_doRest_0 14 rfl
theorem dX12_doRest_88 : decode cX12_doRest 88 = .ok (.iload_n 2, 1) := xdc ddX12_doRest_0 15 rfl
theorem dX12_doRest_89 : decode cX12_doRest 89 = .ok (.iastore, 1) := xdc ddX12_doRest_0 16 rfl
theorem dX12_doRest_90 : decode cX12_doRest 90 = .ok (.iload_n 1, 1) := xdc ddX12_doRest_0 17 rfl
theorem dX12_doRest_91 : decode cX12_doRest 91 = .ok (.ireturn, 1) := xdc ddX12_doRest_0 18 rfl
theorem dX12_doRest_92 : decode cX12_doRest 92 = .ok (.aload_n 0, 1) := xdc ddX12_doRest_0 19 rfl
theorem dX12_doRest_93 : decode cX12_doRest 93 = .ok (.aload_n 0, 1) := xdc ddX12_doRest_0 20 rfl
theorem dX12_doRest_94 : decode cX12_doRest 94 = .ok (.getfield 82, 3) := xdc ddX12_doRest_0 21 rfl
theorem dX12_doRest_97 : decode cX12_doRest 97 = .ok (.iconst 3, 1) := xdc ddX12_doRest_0 22 rfl
theorem dX12_doRest_98 : decode cX12_doRest 98 = .ok (.if_icmp .ne 7, 3) := xdc ddX12_doRest_0 23 rfl
theorem dX12_doRest_101 : decode cX12_doRest 101 = .ok (.iconst 0, 1) := xdc ddX12_doRest_0 24 rfl
theorem dX12_doRest_102 : decode cX12_doRest 102 = .ok (.goto 7, 3) := xdc ddX12_doRest_0 25 rfl
theorem dX12_doRest_105 : decode cX12_doRest 105 = .ok (.aload_n 0, 1) := xdc ddX12_doRest_0 26 rfl
theorem dX12_doRest_106 : decode cX12_doRest 106 = .ok (.invokevirtual 285, 3) := xdc ddX12_doRest_0 27 rfl
theorem dX12_doRest_109 : decode cX12_doRest 109 = .ok (.putfield 288, 3) := xdc ddX12_doRest_0 28 rfl
theorem dX12_doRest_112 : decode cX12_doRest 112 = .ok (.aload_n 0, 1) := xdc ddX12_doRest_0 29 rfl
theorem dX12_doRest_113 : decode cX12_doRest 113 = .ok (.aload_n 0, 1) := xdc ddX12_doRest_0 30 rfl
theorem dX12_doRest_114 : decode cX12_doRest 114 = .ok (.aload_n 0, 1) := xdc ddX12_doRest_0 31 rfl
theorem dX12_doRest_115 : decode cX12_doRest 115 = .ok (.getfield 115, 3) := xdc ddX12_doRest_0 32 rfl
theorem dX12_doRest_118 : decode cX12_doRest 118 = .ok (.invokevirtual 376, 3) := xdc ddX12_doRest_0 33 rfl
theorem dX12_doRest_121 : decode cX12_doRest 121 = .ok (.ifCond .eq 7, 3) := xdc ddX12_doRest_0 34 rfl
theorem dX12_doRest_124 : decode cX12_doRest 124 = .ok (.iconst 1, 1) := xdc ddX12_doRest_0 35 rfl
theorem dX12_doRest_125 : decode cX12_doRest 125 = .ok (.goto 4, 3) := xdc ddX12_doRest_0 36 rfl
theorem dX12_doRest_128 : decode cX12_doRest 128 = .ok (.iconst 0, 1) := xdc ddX12_doRest_0 37 rfl
theorem dX12_doRest_129 : decode cX12_doRest 129 = .ok (.invokevirtual 339, 3) := xdc ddX12_doRest_0 38 rfl
theorem dX12_doRest_132 : decode cX12_doRest 132 = .ok (.iload_n 1, 1) := xdc ddX12_doRest_0 39 rfl
theorem ddX12_doRest_1 : xdec cX12_doRest [(133, (.ireturn, 1)), (134, (.aload_n 0, 1)), (135, (.invokevirtual 388, 3)), (138, (.iload_n 1, 1)), (139, (.ireturn, 1)), (140, (.aload_n 0, 1)), (141, (.invokevirtual 336, 3)), (144, (.istore_n 2, 1)), (145, (.aload_n 0, 1)), (146, (.aload_n 0, 1)), (147, (.getfield 44, 3)), (150, (.iconst 0, 1)), (151, (.iaload, 1)), (152, (.iload_n 2, 1)), (153, (.iconst 0, 1)), (154, (.iconst 4, 1)), (155, (.invokevirtual 333, 3)), (158, (.istore_n 3, 1)), (159, (.iload_n 3, 1)), (160, (.ifCond .ne 19, 3)), (163, (.aload_n 0, 1)), (164, (.aload_n 0, 1)), (165, (.getfield 44, 3)), (168, (.aload_n 0, 1)), (169, (.getfield 85, 3)), (172, (.iaload, 1)), (173, (.invokevirtual 339, 3)), (176, (.goto 10, 3)), (179, (.aload_n 0, 1)), (180, (.getfield 44, 3)), (183, (.iconst 0, 1)), (184, (.iload_n 2, 1)), (185, (.iastore, 1)), (186, (.iload_n 1, 1)), (187, (.ireturn, 1)), (188, (.aload_n 0, 1)), (189, (.invokevirtual 336, 3)), (192, (.istore_n 2, 1)), (193, (.aload_n 0, 1)), (194, (.getfield 44, 3))] = true := by decide +kernel
theorem dX12_doRest_133 : decode cX12_doRest 133 = .ok (.ireturn, 1) := xdc ddX12_doRest_1 0 rfl
theorem dX12_doRest_134 : decode cX12_doRest 134 = .ok (.aload_n 0, 1) := xdc ddX12_doRest_1 1 rfl
theorem dX12_doRest_135 : decode cX12_doRest 135 = .ok (.invokevirtual 388, 3) := xdc ddX12_doRest_1 2 rfl
theorem dX12_doRest_138 : decode cX12_doRest 138 = .ok (.iload_n 1, 1) := xdc ddX12_doRest_1 3 rfl
theorem dX12_doRest_139 : decode cX12_doRest 139 = .ok (.ireturn, 1) := xdc ddX12_doRest_1 4 rfl
theorem dX12_doRest_140 : decode cX12_doRest 140 = .ok (.aload_n 0, 1) := xdc ddX12_doRest_1 5 rfl
theorem dX12_doRest_141 : decode cX12_doRest 141 = .ok (.invokevirtual 336, 3) := xdc ddX12_doRest_1 6 rfl
theorem dX12_doRest_144 : decode cX12_doRest 144 = .ok (.istore_n 2, 1) := xdc ddX12_doRest_1 7 rfl
theorem dX12_doRest_145 : decode cX12_doRest 145 = .ok (.aload_n 0, 1) := xdc ddX12_doRest_1 8 rfl
theorem dX12_doRest_146 : decode cX12_doRest 146 = .ok (.aload_n 0, 1) := xdc ddX12_doRest_1 9 rfl
theorem dX12_doRest_147 : decode cX12_doRest 147 = .ok (.getfield 44, 3) := xdc ddX12_doRest_1 10 rfl
theorem dX12_doRest_150 : decode cX12_doRest 150 = .ok (.iconst 0, 1) := xdc ddX12_doRest_1 11 rfl
theorem dX12_doRest_151 : decode cX12_doRest 151 = .ok (.iaload, 1) := xdc ddX12_doRest_1 12 rfl
theorem dX12_doRest_152 : decode cX12_doRest 152 = .ok (.iload_n 2, 1) := xdc ddX12_doRest_1 13 rfl
theorem dX12_doRest_153 : decode cX12_doRest 153 = .ok (.iconst 0, 1) := xdc ddX12_doRest_1 14 rfl
theorem dX12_doRest_154 : decode cX12_doRest 154 = .ok (.iconst 4, 1) := xdc ddX12_doRest_1 15 rfl
theorem dX12_doRest_155 : decode cX12_doRest 155 = .ok (.invokevirtual 333, 3) := xdc ddX12_doRest_1 16 rfl
theorem dX12_doRest_158 : decode cX12_doRest 158 = .ok (.istore_n 3, 1) := xdc ddX12_doRest_1 17 rfl
theorem dX12_doRest_159 : decode cX12_doRest 159 = .ok (.iload_n 3, 1) := xdc ddX12_doRest_1 18 rfl
theorem dX12_doRest_160 : decode cX12_doRest 160 = .ok (.ifCond .ne 19, 3) := xdc ddX12_doRest_1 19 rfl
theorem dX12_doRest_163 : decode cX12_doRest 163 = .ok (.aload_n 0, 1) := xdc ddX12_doRest_1 20 rfl
theorem dX12_doRest_164 : decode cX12_doRest 164 = .ok (.aload_n 0, 1) := xdc ddX12_doRest_1 21 rfl
theorem dX12_doRest_165 : decode cX12_doRest 165 = .ok (.getfield 44, 3) := xdc ddX12_doRest_1 22 rfl
theorem dX12_doRest_168 : decode cX12_doRest 168 = .ok (.aload_n 0, 1) := xdc ddX12_doRest_1 23 rfl
theorem dX12_doRest_169 : decode cX12_doRest 169 = .ok (.getfield 85, 3) := xdc ddX12_doRest_1 24 rfl
theorem dX12_doRest_172 : decode cX12_doRest 172 = .ok (.iaload, 1) := xdc ddX12_doRest_1 25 rfl
theorem dX12_doRest_173 : decode cX12_doRest 173 = .ok (.invokevirtual 339, 3) := xdc ddX12_doRest_1 26 rfl
theorem dX12_doRest_176 : decode cX12_doRest 176 = .ok (.goto 10, 3) := xdc ddX12_doRest_1 27 rfl
theorem dX12_doRest_179 : decode cX12_doRest 179 = .ok (.aload_n 0, 1) := xdc ddX12_doRest_1 28 rfl
theorem dX12_doRest_180 : decode cX12_doRest 180 = .ok (.getfield 44, 3) := xdc ddX12_doRest_1 29 rfl
theorem dX12_doRest_183 : decode cX12_doRest 183 = .ok (.iconst 0, 1) := xdc ddX12_doRest_1 30 rfl
theorem dX12_doRest_184 : decode cX12_doRest 184 = .ok (.iload_n 2, 1) := xdc ddX12_doRest_1 31 rfl
theorem dX12_doRest_185 : decode cX12_doRest 185 = .ok (.iastore, 1) := xdc ddX12_doRest_1 32 rfl
theorem dX12_doRest_186 : decode cX12_doRest 186 = .ok (.iload_n 1, 1) := xdc ddX12_doRest_1 33 rfl
theorem dX12_doRest_187 : decode cX12_doRest 187 = .ok (.ireturn, 1) := xdc ddX12_doRest_1 34 rfl
theorem dX12_doRest_188 : decode cX12_doRest 188 = .ok (.aload_n 0, 1) := xdc ddX12_doRest_1 35 rfl
theorem dX12_doRest_189 : decode cX12_doRest 189 = .ok (.invokevirtual 336, 3) := xdc ddX12_doRest_1 36 rfl
theorem dX12_doRest_192 : decode cX12_doRest 192 = .ok (.istore_n 2, 1) := xdc ddX12_doRest_1 37 rfl
theorem dX12_doRest_193 : decode cX12_doRest 193 = .ok (.aload_n 0, 1) := xdc ddX12_doRest_1 38 rfl
theorem dX12_doRest_194 : decode cX12_doRest 194 = .ok (.getfield 44, 3) := xdc ddX12_doRest_1 39 rfl
theorem ddX12_doRest_2 : xdec cX12_doRest [(197, (.aload_n 0, 1)), (198, (.getfield 85, 3)), (201, (.aload_n 0, 1)), (202, (.getfield 70, 3)), (205, (.bipush 49, 2)), (207, (.if_icmp .ne 15, 3)), (210, (.iload_n 2, 1)), (211, (.aload_n 0, 1)), (212, (.getfield 79, 3)), (215, (.invokestatic 303, 3)), (218, (.iand, 1)), (219, (.goto 18, 3)), (222, (.aload_n 0, 1)), (223, (.getfield 79, 3)), (226, (.iconst 1, 1)), (227, (.if_icmp .ne 8, 3)), (230, (.iload_n 2, 1)), (231, (.i2b, 1)), (232, (.goto 5, 3)), (235, (.iload_n 2, 1)), (236, (.i2s, 1)), (237, (.iastore, 1)), (238, (.iload_n 1, 1)), (239, (.ireturn, 1)), (240, (.aload_n 0, 1)), (241, (.invokevirtual 336, 3)), (244, (.istore_n 2, 1)), (245, (.aload_n 0, 1)), (246, (.iload_n 2, 1)), (247, (.ifCond .ne 7, 3)), (250, (.iconst 1, 1)), (251, (.goto 4, 3)), (254, (.iconst 0, 1)), (255, (.putfield 307, 3)), (258, (.iload_n 2, 1)), (259, (.ifCond .eq 62, 3)), (262, (.aload_n 0, 1)), (263, (.getfield 70, 3)), (266, (.bipush 50, 2)), (268, (.if_icmp .ne 7, 3))] = true := by decide +kernel
theorem dX12_doRest_197 : decode cX12_doRest 197 = .ok (.aload_n 0, 1) := xdc ddX12_doRest_2 0 rfl
theorem dX12_doRest_198 : decode cX12_doRest 198 = .ok (.getfield 85, 3) := xdc ddX12_doRest_2 1 rfl
theorem dX12_doRest_201 : decode cX12_doRest 201 = .ok (.aload_n 0, 1) := xdc ddX12_doRest_2 2 rfl
theorem dX12_doRest_202 : decode cX12_doRest 202 = .ok (.getfield 70, 3) := xdc ddX12_doRest_2 3 rfl
theorem dX12_doRest_205 : decode cX12_doRest 205 = .ok (.bipush 49, 2) := xdc ddX12_doRest_2 4 rfl
theorem dX12_doRest_207 : decode cX12_doRest 207 = .ok (.if_icmp .ne 15, 3) := xdc ddX12_doRest_2 5 rfl
theorem dX12_doRest_210 : decode cX12_doRest 210 = .ok (.iload_n 2, 1) := xdc ddX12_doRest_2 6 rfl
theorem dX12_doRest_211 : decode cX12_doRest 211 = .ok (.aload_n 0, 1) := xdc ddX12_doRest_2 7 rfl
theorem dX12_doRest_212 : decode cX12_doRest 212 = .ok (.getfield 79, 3) := xdc ddX12_doRest_2 8 rfl
theorem dX12_doRest_215 : decode cX12_doRest 215 = .ok (.invokestatic 303, 3) := xdc ddX12_doRest_2 9 rfl
theorem dX12_doRest_218 : decode cX12_doRest 218 = .ok (.iand, 1) := xdc ddX12_doRest_2 10 rfl
theorem dX12_doRest_219 : decode cX12_doRest 219 = .ok (.goto 18, 3) := xdc ddX12_doRest_2 11 rfl
theorem dX12_doRest_222 : decode cX12_doRest 222 = .ok (.aload_n 0, 1) := xdc ddX12_doRest_2 12 rfl
theorem dX12_doRest_223 : decode cX12_doRest 223 = .ok (.getfield 79, 3) := xdc ddX12_doRest_2 13 rfl
theorem dX12_doRest_226 : decode cX12_doRest 226 = .ok (.iconst 1, 1) := xdc ddX12_doRest_2 14 rfl
theorem dX12_doRest_227 : decode cX12_doRest 227 = .ok (.if_icmp .ne 8, 3) := xdc ddX12_doRest_2 15 rfl
theorem dX12_doRest_230 : decode cX12_doRest 230 = .ok (.iload_n 2, 1) := xdc ddX12_doRest_2 16 rfl
theorem dX12_doRest_231 : decode cX12_doRest 231 = .ok (.i2b, 1) := xdc ddX12_doRest_2 17 rfl
theorem dX12_doRest_232 : decode cX12_doRest 232 = .ok (.goto 5, 3) := xdc ddX12_doRest_2 18 rfl
theorem dX12_doRest_235 : decode cX12_doRest 235 = .ok (.iload_n 2, 1) := xdc ddX12_doRest_2 19 rfl
theorem dX12_doRest_236 : decode cX12_doRest 236 = .ok (.i2s, 1) := xdc ddX12_doRest_2 20 rfl
theorem dX12_doRest_237 : decode cX12_doRest 237 = .ok (.iastore, 1) := xdc ddX12_doRest_2 21 rfl
theorem dX12_doRest_238 : decode cX12_doRest 238 = .ok (.iload_n 1, 1) := xdc ddX12_doRest_2 22 rfl
theorem dX12_doRest_239 : decode cX12_doRest 239 = .ok (.ireturn, 1) := xdc ddX12_doRest_2 23 rfl
theorem dX12_doRest_240 : decode cX12_doRest 240 = .ok (.aload_n 0, 1) := xdc ddX12_doRest_2 24 rfl
theorem dX12_doRest_241 : decode cX12_doRest 241 = .ok (.invokevirtual 336, 3) := xdc ddX12_doRest_2 25 rfl
theorem dX12_doRest_244 : decode cX12_doRest 244 = .ok (.istore_n 2, 1) := xdc ddX12_doRest_2 26 rfl
theorem dX12_doRest_245 : decode cX12_doRest 245 = .ok (.aload_n 0, 1) := xdc ddX12_doRest_2 27 rfl
theorem dX12_doRest_246 : decode cX12_doRest 246 = .ok (.iload_n 2, 1) := xdc ddX12_doRest_2 28 rfl
theorem dX12_doRest_247 : decode cX12_doRest 247 = .ok (.ifCond .ne 7, 3) := xdc ddX12_doRest_2 29 rfl
theorem dX12_doRest_250 : decode cX12_doRest 250 = .ok (.iconst 1, 1) := xdc ddX12_doRest_2 30 rfl
theorem dX12_doRest_251 : decode cX12_doRest 251 = .ok (.goto 4, 3) := xdc ddX12_doRest_2 31 rfl
theorem dX12_doRest_254 : decode cX12_doRest 254 = .ok (.iconst 0, 1) := xdc ddX12_doRest_2 32 rfl
theorem dX12_doRest_255 : decode cX12_doRest 255 = .ok (.putfield 307, 3) := xdc ddX12_doRest_2 33 rfl
theorem dX12_doRest_258 : decode cX12_doRest 258 = .ok (.iload_n 2, 1) := xdc ddX12_doRest_2 34 rfl
theorem dX12_doRest_259 : decode cX12_doRest 259 = .ok (.ifCond .eq 62, 3) := xdc ddX12_doRest_2 35 rfl
theorem dX12_doRest_262 : decode cX12_doRest 262 = .ok (.aload_n 0, 1) := xdc ddX12_doRest_2 36 rfl
theorem dX12_doRest_263 : decode cX12_doRest 263 = .ok (.getfield 70, 3) := xdc ddX12_doRest_2 37 rfl
theorem dX12_doRest_266 : decode cX12_doRest 266 = .ok (.bipush 50, 2) := xdc ddX12_doRest_2 38 rfl
theorem dX12_doRest_268 : decode cX12_doRest 268 = .ok (.if_icmp .ne 7, 3) := xdc ddX12_doRest_2 39 rfl
theorem ddX12_doRest_3 : xdec cX12_doRest [(271, (.iconst 0, 1)), (272, (.goto 5, 3)), (275, (.bipush 31, 2)), (277, (.istore 4, 2)), (279, (.iload_n 2, 1)), (280, (.iload 4, 2)), (282, (.iushr, 1)), (283, (.iconst 1, 1)), (284, (.iand, 1)), (285, (.ifCond .ne 25, 3)), (288, (.iload 4, 2)), (290, (.aload_n 0, 1)), (291, (.getfield 70, 3)), (294, (.bipush 50, 2)), (296, (.if_icmp .ne 7, 3)), (299, (.iconst 1, 1)), (300, (.goto 4, 3)), (303, (.iconst (-1), 1)), (304, (.iadd, 1)), (305, (.istore 4, 2)), (307, (.goto (-28), 3)), (310, (.aload_n 0, 1)), (311, (.getfield 44, 3)), (314, (.aload_n 0, 1)), (315, (.getfield 85, 3)), (318, (.iload 4, 2)), (320, (.iastore, 1)), (321, (.iload_n 1, 1)), (322, (.ireturn, 1)), (323, (.aload_n 0, 1)), (324, (.invokevirtual 336, 3)), (327, (.istore_n 2, 1)), (328, (.aload_n 0, 1)), (329, (.getfield 44, 3)), (332, (.aload_n 0, 1)), (333, (.getfield 85, 3)), (336, (.iaload, 1)), (337, (.istore 4, 2)), (339, (.aload_n 0, 1)), (340, (.iload_n 2, 1))] = true := by decide +kernel
theorem dX12_doRest_271 : decode cX12_doRest 271 = .ok (.iconst 0, 1) := xdc ddX12_doRest_3 0 rfl
theorem dX12_doRest_272 : decode cX12_doRest 272 = .ok (.goto 5, 3) := xdc ddX12_doRest_3 1 rfl
theorem dX12_doRest_275 : decode cX12_doRest 275 = .ok (.bipush 31, 2) := xdc ddX12_doRest_3 2 rfl
theorem dX12_doRest_277 : decode cX12_doRest 277 = .ok (.istore 4, 2) := xdc ddX12_doRest_3 3 rfl
theorem dX12_doRest_279 : decode cX12_doRest 279 = .ok (.iload_n 2, 1) := xdc ddX12_doRest_3 4 rfl
theorem dX12_doRest_280 : decode cX12_doRest 280 = .ok (.iload 4, 2) := xdc ddX12_doRest_3 5 rfl
theorem dX12_doRest_282 : decode cX12_doRest 282 = .ok (.iushr, 1) := xdc ddX12_doRest_3 6 rfl
theorem dX12_doRest_283 : decode cX12_doRest 283 = .ok (.iconst 1, 1) := xdc ddX12_doRest_3 7 rfl
theorem dX12_doRest_284 : decode cX12_doRest 284 = .ok (.iand, 1) := xdc ddX12_doRest_3 8 rfl
theorem dX12_doRest_285 : decode cX12_doRest 285 = .ok (.ifCond .ne 25, 3) := xdc ddX12_doRest_3 9 rfl
theorem dX12_doRest_288 : decode cX12_doRest 288 = .ok (.iload 4, 2) := xdc ddX12_doRest_3 10 rfl
theorem dX12_doRest_290 : decode cX12_doRest 290 = .ok (.aload_n 0, 1) := xdc ddX12_doRest_3 11 rfl
theorem dX12_doRest_291 : decode cX12_doRest 291 = .ok (.getfield 70, 3) := xdc ddX12_doRest_3 12 rfl
theorem dX12_doRest_294 : decode cX12_doRest 294 = .ok (.bipush 50, 2) := xdc ddX12_doRest_3 13 rfl
theorem dX12_doRest_296 : decode cX12_doRest 296 = .ok (.if_icmp .ne 7, 3) := xdc ddX12_doRest_3 14 rfl
theorem dX12_doRest_299 : decode cX12_doRest 299 = .ok (.iconst 1, 1) := xdc ddX12_doRest_3 15 rfl
theorem dX12_doRest_300 : decode cX12_doRest 300 = .ok (.goto 4, 3) := xdc ddX12_doRest_3 16 rfl
theorem dX12_doRest_303 : decode cX12_doRest 303 = .ok (.iconst (-1), 1) := xdc ddX12_doRest_3 17 rfl
theorem dX12_doRest_304 : decode cX12_doRest 304 = .ok (.iadd, 1) := xdc ddX12_doRest_3 18 rfl
theorem dX12_doRest_305 : decode cX12_doRest 305 = .ok (.istore 4, 2) := xdc ddX12_doRest_3 19 rfl
theorem dX12_doRest_307 : decode cX12_doRest 307 = .ok (.goto (-28), 3) := xdc ddX12_doRest_3 20 rfl
theorem dX12_doRest_310 : decode cX12_doRest 310 = .ok (.aload_n 0, 1) := xdc ddX12_doRest_3 21 rfl
theorem dX12_doRest_311 : decode cX12_doRest 311 = .ok (.getfield 44, 3) := xdc ddX12_doRest_3 22 rfl
theorem dX12_doRest_314 : decode cX12_doRest 314 = .ok (.aload_n 0, 1) := xdc ddX12_doRest_3 23 rfl
theorem dX12_doRest_315 : decode cX12_doRest 315 = .ok (.getfield 85, 3) := xdc ddX12_doRest_3 24 rfl
theorem dX12_doRest_318 : decode cX12_doRest 318 = .ok (.iload 4, 2) := xdc ddX12_doRest_3 25 rfl
theorem dX12_doRest_320 : decode cX12_doRest 320 = .ok (.iastore, 1) := xdc ddX12_doRest_3 26 rfl
theorem dX12_doRest_321 : decode cX12_doRest 321 = .ok (.iload_n 1, 1) := xdc ddX12_doRest_3 27 rfl
theorem dX12_doRest_322 : decode cX12_doRest 322 = .ok (.ireturn, 1) := xdc ddX12_doRest_3 28 rfl
theorem dX12_doRest_323 : decode cX12_doRest 323 = .ok (.aload_n 0, 1) := xdc ddX12_doRest_3 29 rfl
theorem dX12_doRest_324 : decode cX12_doRest 324 = .ok (.invokevirtual 336, 3) := xdc ddX12_doRest_3 30 rfl
theorem dX12_doRest_327 : decode cX12_doRest 327 = .ok (.istore_n 2, 1) := xdc ddX12_doRest_3 31 rfl
theorem dX12_doRest_328 : decode cX12_doRest 328 = .ok (.aload_n 0, 1) := xdc ddX12_doRest_3 32 rfl
theorem dX12_doRest_329 : decode cX12_doRest 329 = .ok (.getfield 44, 3) := xdc ddX12_doRest_3 33 rfl
theorem dX12_doRest_332 : decode cX12_doRest 332 = .ok (.aload_n 0, 1) := xdc ddX12_doRest_3 34 rfl
theorem dX12_doRest_333 : decode cX12_doRest 333 = .ok (.getfield 85, 3) := xdc ddX12_doRest_3 35 rfl
theorem dX12_doRest_336 : decode cX12_doRest 336 = .ok (.iaload, 1) := xdc ddX12_doRest_3 36 rfl
theorem dX12_doRest_337 : decode cX12_doRest 337 = .ok (.istore 4, 2) := xdc ddX12_doRest_3 37 rfl
theorem dX12_doRest_339 : decode cX12_doRest 339 = .ok (.aload_n 0, 1) := xdc ddX12_doRest_3 38 rfl
theorem dX12_doRest_340 : decode cX12_doRest 340 = .ok (.iload_n 2, 1) := xdc ddX12_doRest_3 39 rfl
theorem ddX12_doRest_4 : xdec cX12_doRest [(341, (.iload 4, 2)), (343, (.iconst 0, 1)), (344, (.iconst 4, 1)), (345, (.invokevirtual 329, 3)), (348, (.istore 5, 2)), (350, (.aload_n 0, 1)), (351, (.getfield 44, 3)), (354, (.aload_n 0, 1)), (355, (.getfield 85, 3)), (358, (.iload_n 2, 1)), (359, (.iastore, 1)), (360, (.aload_n 0, 1)), (361, (.iload 5, 2)), (363, (.invokevirtual 339, 3)), (366, (.iload_n 1, 1)), (367, (.ireturn, 1)), (368, (.aload_n 0, 1)), (369, (.getfield 44, 3)), (372, (.aload_n 0, 1)), (373, (.getfield 88, 3)), (376, (.iaload, 1)), (377, (.istore_n 2, 1)), (378, (.aload_n 0, 1)), (379, (.getfield 44, 3)), (382, (.aload_n 0, 1)), (383, (.getfield 88, 3)), (386, (.iload_n 2, 1)), (387, (.bipush 24, 2)), (389, (.iushr, 1)), (390, (.iload_n 2, 1)), (391, (.bipush 8, 2)), (393, (.ishr, 1)), (394, (.ldc_w 391, 3)), (397, (.iand, 1)), (398, (.ior, 1)), (399, (.iload_n 2, 1)), (400, (.ldc_w 391, 3)), (403, (.iand, 1)), (404, (.bipush 8, 2)), (406, (.ishl, 1))] = true := by decide +kernel
theorem dX12_doRest_341 : decode cX12_doRest 341 = .ok (.iload 4, 2) := xdc ddX12_doRest_4 0 rfl
theorem dX12_doRest_343 : decode cX12_doRest 343 = .ok (.iconst 0, 1) := xdc ddX12_doRest_4 1 rfl
theorem dX12_doRest_344 : decode cX12_doRest 344 = .ok (.iconst 4, 1) := xdc ddX12_doRest_4 2 rfl
theorem dX12_doRest_345 : decode cX12_doRest 345 = .ok (.invokevirtual 329, 3) := xdc ddX12_doRest_4 3 rfl
theorem dX12_doRest_348 : decode cX12_doRest 348 = .ok (.istore 5, 2) := xdc ddX12_doRest_4 4 rfl
theorem dX12_doRest_350 : decode cX12_doRest 350 = .ok (.aload_n 0, 1) := xdc ddX12_doRest_4 5 rfl
theorem dX12_doRest_351 : decode cX12_doRest 351 = .ok (.getfield 44, 3) := xdc ddX12_doRest_4 6 rfl
theorem dX12_doRest_354 : decode cX12_doRest 354 = .ok (.aload_n 0, 1) := xdc ddX12_doRest_4 7 rfl
theorem dX12_doRest_355 : decode cX12_doRest 355 = .ok (.getfield 85, 3) := xdc ddX12_doRest_4 8 rfl
theorem dX12_doRest_358 : decode cX12_doRest 358 = .ok (.iload_n 2, 1) := xdc ddX12_doRest_4 9 rfl
theorem dX12_doRest_359 : decode cX12_doRest 359 = .ok (.iastore, 1) := xdc ddX12_doRest_4 10 rfl
theorem dX12_doRest_360 : decode cX12_doRest 360 = .ok (.aload_n 0, 1) := xdc ddX12_doRest_4 11 rfl
theorem dX12_doRest_361 : decode cX12_doRest 361 = .ok (.iload 5, 2) := xdc ddX12_doRest_4 12 rfl
theorem dX12_doRest_363 : decode cX12_doRest 363 = .ok (.invokevirtual 339, 3) := xdc ddX12_doRest_4 13 rfl
theorem dX12_doRest_366 : decode cX12_doRest 366 = .ok (.iload_n 1, 1) := xdc ddX12_doRest_4 14 rfl
theorem dX12_doRest_367 : decode cX12_doRest 367 = .ok (.ireturn, 1) := xdc ddX12_doRest_4 15 rfl
theorem dX12_doRest_368 : decode cX12_doRest 368 = .ok (.aload_n 0, 1) := xdc ddX12_doRest_4 16 rfl
theorem dX12_doRest_369 : decode cX12_doRest 369 = .ok (.getfield 44, 3) := xdc ddX12_doRest_4 17 rfl
theorem dX12_doRest_372 : decode cX12_doRest 372 = .ok (.aload_n 0, 1) := xdc ddX12_doRest_4 18 rfl
theorem dX12_doRest_373 : decode cX12_doRest 373 = .ok (.getfield 88, 3) := xdc ddX12_doRest_4 19 rfl
theorem dX12_doRest_376 : decode cX12_doRest 376 = .ok (.iaload, 1) := xdc ddX12_doRest_4 20 rfl
theorem dX12_doRest_377 : decode cX12_doRest 377 = .ok (.istore_n 2, 1) := xdc ddX12_doRest_4 21 rfl
theorem dX12_doRest_378 : decode cX12_doRest 378 = .ok (.aload_n 0, 1) := xdc ddX12_doRest_4 22 rfl
theorem dX12_doRest_379 : decode cX12_doRest 379 = .ok (.getfield 44, 3) := xdc ddX12_doRest_4 23 rfl
theorem dX12_doRest_382 : decode cX12_doRest 382 = .ok (.aload_n 0, 1) := xdc ddX12_doRest_4 24 rfl
theorem dX12_doRest_383 : decode cX12_doRest 383 = .ok (.getfield 88, 3) := xdc ddX12_doRest_4 25 rfl
theorem dX12_doRest_386 : decode cX12_doRest 386 = .ok (.iload_n 2, 1) := xdc ddX12_doRest_4 26 rfl
theorem dX12_doRest_387 : decode cX12_doRest 387 = .ok (.bipush 24, 2) := xdc ddX12_doRest_4 27 rfl
theorem dX12_doRest_389 : decode cX12_doRest 389 = .ok (.iushr, 1) := xdc ddX12_doRest_4 28 rfl
theorem dX12_doRest_390 : decode cX12_doRest 390 = .ok (.iload_n 2, 1) := xdc ddX12_doRest_4 29 rfl
theorem dX12_doRest_391 : decode cX12_doRest 391 = .ok (.bipush 8, 2) := xdc ddX12_doRest_4 30 rfl
theorem dX12_doRest_393 : decode cX12_doRest 393 = .ok (.ishr, 1) := xdc ddX12_doRest_4 31 rfl
theorem dX12_doRest_394 : decode cX12_doRest 394 = .ok (.ldc_w 391, 3) := xdc ddX12_doRest_4 32 rfl
theorem dX12_doRest_397 : decode cX12_doRest 397 = .ok (.iand, 1) := xdc ddX12_doRest_4 33 rfl
theorem dX12_doRest_398 : decode cX12_doRest 398 = .ok (.ior, 1) := xdc ddX12_doRest_4 34 rfl
theorem dX12_doRest_399 : decode cX12_doRest 399 = .ok (.iload_n 2, 1) := xdc ddX12_doRest_4 35 rfl
theorem dX12_doRest_400 : decode cX12_doRest 400 = .ok (.ldc_w 391, 3) := xdc ddX12_doRest_4 36 rfl
theorem dX12_doRest_403 : decode cX12_doRest 403 = .ok (.iand, 1) := xdc ddX12_doRest_4 37 rfl
theorem dX12_doRest_404 : decode cX12_doRest 404 = .ok (.bipush 8, 2) := xdc ddX12_doRest_4 38 rfl
theorem dX12_doRest_406 : decode cX12_doRest 406 = .ok (.ishl, 1) := xdc ddX12_doRest_4 39 rfl
theorem ddX12_doRest_5 : xdec cX12_doRest [(407, (.ior, 1)), (408, (.iload_n 2, 1)), (409, (.bipush 24, 2)), (411, (.ishl, 1)), (412, (.ior, 1)), (413, (.iastore, 1)), (414, (.iload_n 1, 1)), (415, (.ireturn, 1)), (416, (.iload_n 1, 1)), (417, (.ireturn, 1))] = true := by decide +kernel
theorem dX12_doRest_407 : decode cX12_doRest 407 = .ok (.ior, 1) := xdc ddX12_doRest_5 0 rfl
theorem dX12_doRest_408 : decode cX12_doRest 408 = .ok (.iload_n 2, 1) := xdc ddX12_doRest_5 1 rfl
theorem dX12_doRest_409 : decode cX12_doRest 409 = .ok (.bipush 24, 2) := xdc ddX12_doRest_5 2 rfl
theorem dX12_doRest_411 : decode cX12_doRest 411 = .ok (.ishl, 1) := xdc ddX12_doRest_5 3 rfl
theorem dX12_doRest_412 : decode cX12_doRest 412 = .ok (.ior, 1) := xdc ddX12_doRest_5 4 rfl
theorem dX12_doRest_413 : decode cX12_doRest 413 = .ok (.iastore, 1) := xdc ddX12_doRest_5 5 rfl
theorem dX12_doRest_414 : decode cX12_doRest 414 = .ok (.iload_n 1, 1) := xdc ddX12_doRest_5 6 rfl
theorem dX12_doRest_415 : decode cX12_doRest 415 = .ok (.ireturn, 1) := xdc ddX12_doRest_5 7 rfl
theorem dX12_doRest_416 : decode cX12_doRest 416 = .ok (.iload_n 1, 1) := xdc ddX12_doRest_5 8 rfl
theorem dX12_doRest_417 : decode cX12_doRest 417 = .ok (.ireturn, 1) := xdc ddX12_doRest_5 9 rfl
abbrev cX12_doOther : ByteArray := prog_14_method_72_code
theorem ddX12_doOther_0 : xdec cX12_doOther [(0, (.aload_n 0, 1)), (1, (.getfield 70, 3)), (4, (.tableswitch 767 8 43 #[160, 160, 217, 243, 275, 314, 334, 356, 438, 546, 767, 561, 576, 767, 767, 767, 767, 767, 767, 767, 593, 621, 639, 649, 767, 681, 699, 699, 719, 733, 755, 755, 761, 761, 654, 671], 160)), (164, (.aload_n 0, 1)), (165, (.getfield 320, 3)), (168, (.istore 4, 2)), (170, (.aload_n 0, 1)), (171, (.invokevirtual 348, 3)), (174, (.istore_n 2, 1)), (175, (.aload_n 0, 1)), (176, (.aload_n 0, 1)), (177, (.getfield 70, 3)), (180, (.bipush 8, 2)), (182, (.if_icmp .ne 17, 3)), (185, (.aload_n 0, 1)), (186, (.iload_n 2, 1)), (187, (.iconst 1, 1)), (188, (.iconst 0, 1)), (189, (.aload_n 0, 1)), (190, (.getfield 76, 3)), (193, (.invokevirtual 329, 3)), (196, (.goto 14, 3)), (199, (.aload_n 0, 1)), (200, (.iload_n 2, 1)), (201, (.iconst 1, 1)), (202, (.iconst 0, 1)), (203, (.aload_n 0, 1)), (204, (.getfield 76, 3)), (207, (.invokevirtual 333, 3)), (210, (.invokevirtual 357, 3)), (213, (.aload_n 0, 1)), (214, (.iload 4, 2)), (216, (.putfield 320, 3)), (219, (.iload_n 1, 1)), (220, (.ireturn, 1)), (221, (.aload_n 0, 1)), (222, (.aload_n 0, 1)), (223, (.getfield 73, 3)), (226, (.bipush 7, 2)), (228, (.if_icmp .ne 10, 3))] = true := by decide +kernel
theorem dX12_doOther_0 : decode cX12_doOther 0 = .ok (.aload_n 0, 1) := xdc ddX12_doOther_0 0 rfl
theorem dX12_doOther_1 : decode cX12_doOther 1 = .ok (.getfield 70, 3) := xdc ddX12_doOther_0 1 rfl
theorem dX12_doOther_4 : decode cX12_doOther 4 = .ok (.tableswitch 767 8 43 #[160, 160, 217, 243, 275, 314, 334, 356, 438, 546, 767, 561, 576, 767, 767, 767, 767, 767, 767, 767, 593, 621, 639, 649, 767, 681, 699, 699, 719, 733, 755, 755, 761, 761, 654, 671], 160) := xdc ddX12_doOther_0 2 rfl
theorem dX12_doOther_164 : decode cX12_doOther 164 = .ok (.aload_n 0, 1) := xdc ddX12_doOther_0 3 rfl
theorem dX12_doOther_165 : decode cX12_doOther 165 = .ok (.getfield 320, 3) := xdc ddX12_doOther_0 4 rfl
theorem dX12_doOther_168 : decode cX12_doOther 168 = .ok (.istore 4, 2) := xdc ddX12_doOther_0 5 rfl
theorem dX12_doOther_170 : decode cX12_doOther 170 = .ok (.aload_n 0, 1) := xdc ddX12_doOther_0 6 rfl
theorem dX12_doOther_171 : decode cX12_doOther 171 = .ok (.invokevirtual 348, 3) := xdc ddX12_doOther_0 7 rfl
theorem dX12_doOther_174 : decode cX12_doOther 174 = .ok (.istore_n 2, 1) := xdc ddX12_doOther_0 8 rfl
theorem dX12_doOther_175 : decode cX12_doOther 175 = .ok (.aload_n 0, 1) := xdc ddX12_doOther_0 9 rfl
theorem dX12_doOther_176 : decode cX12_doOther 176 = .ok (.aload_n 0, 1) := xdc ddX12_doOther_0 10 rfl
theorem dX12_doOther_177 : decode cX12_doOther 177 = .ok (.getfield 70, 3) := xdc ddX12_doOther_0 11 rfl
theorem dX12_doOther_180 : decode cX12_doOther 180 = .ok (.bipush 8, 2) := xdc ddX12_doOther_0 12 rfl
theorem dX12_doOther_182 : decode cX12_doOther 182 = .ok (.if_icmp .ne 17, 3) := xdc ddX12_doOther_0 13 rfl
theorem dX12_doOther_185 : decode cX12_doOther 185 = .ok (.aload_n 0, 1) := xdc ddX12_doOther_0 14 rfl
theorem dX12_doOther_186 : decode cX12_doOther 186 = .ok (.iload_n 2, 1) := xdc ddX12_doOther_0 15 rfl
theorem dX12_doOther_187 : decode cX12_doOther 187 = .ok (.iconst 1, 1) := xdc ddX12_doOther_0 16 rfl
theorem dX12_doOther_188 : decode cX12_doOther 188 = .ok (.iconst 0, 1) := xdc ddX12_doOther_0 17 rfl
theorem dX12_doOther_189 : decode cX12_doOther 189 = .ok (.aload_n 0, 1) := xdc ddX12_doOther_0 18 rfl
theorem dX12_doOther_190 : decode cX12_doOther 190 = .ok (.getfield 76, 3) := xdc ddX12_doOther_0 19 rfl
theorem dX12_doOther_193 : decode cX12_doOther 193 = .ok (.invokevirtual 329, 3) := xdc ddX12_doOther_0 20 rfl
theorem dX12_doOther_196 : decode cX12_doOther 196 = .ok (.goto 14, 3) := xdc ddX12_doOther_0 21 rfl
theorem dX12_doOther_199 : decode cX12_doOther 199 = .ok (.aload_n 0, 1) := xdc ddX12_doOther_0 22 rfl
theorem dX12_doOther_200 : decode cX12_doOther 200 = .ok (.iload_n 2, 1) := xdc ddX12_doOther_0 23 rfl
theorem dX12_doOther_201 : decode cX12_doOther 201 = .ok (.iconst 1, 1) := xdc ddX12_doOther_0 24 rfl
theorem dX12_doOther_202 : decode cX12_doOther 202 = .ok (.iconst 0, 1) := xdc ddX12_doOther_0 25 rfl
theorem dX12_doOther_203 : decode cX12_doOther 203 = .ok (.aload_n 0, 1) := xdc ddX12_doOther_0 26 rfl
theorem dX12_doOther_204 : decode cX12_doOther 204 = .ok (.getfield 76, 3) := xdc ddX12_doOther_0 27 rfl
theorem dX12_doOther_207 : decode cX12_doOther 207 = .ok (.invokevirtual 333, 3) := xdc ddX12_doOther_0 28 rfl
theorem dX12_doOther_210 : decode cX12_doOther 210 = .ok (.invokevirtual 357, 3) := xdc ddX12_doOther_0 29 rfl
theorem dX12_doOther_213 : decode cX12_doOther 213 = .ok (.aload_n 0, 1) := xdc ddX12_doOther_0 30 rfl
theorem dX12_doOther_214 : decode cX12_doOther 214 = .ok (.iload 4, 2) := xdc ddX12_doOther_0 31 rfl
theorem dX12_doOther_216 : decode cX12_doOther 216 = .ok (.putfield 320, 3) := xdc ddX12_doOther_0 32 rfl
theorem dX12_doOther_219 : decode cX12_doOther 219 = .ok (.iload_n 1, 1) := xdc ddX12_doOther_0 33 rfl
theorem dX12_doOther_220 : decode cX12_doOther 220 = .ok (.ireturn, 1) := xdc ddX12_doOther_0 34 rfl
theorem dX12_doOther_221 : decode cX12_doOther 221 = .ok (.aload_n 0, 1) := xdc ddX12_doOther_0 35 rfl
theorem dX12_doOther_222 : decode cX12_doOther 222 = .ok (.aload_n 0, 1) := xdc ddX12_doOther_0 36 rfl
theorem dX12_doOther_223 : decode cX12_doOther 223 = .ok (.getfield 73, 3) := xdc ddX12_doOther_0 37 rfl
theorem dX12_doOther_226 : decode cX12_doOther 226 = .ok (.bipush 7, 2) := xdc ddX12_doOther_0 38 rfl
theorem dX12_doOther_228 : decode cX12_doOther 228 = .ok (.if_icmp .ne 10, 3) := xdc ddX12_doOther_0 39 rfl
theorem ddX12_doOther_1 : xdec cX12_doOther [(231, (.aload_n 0, 1)), (232, (.getfield 109, 3)), (235, (.goto 7, 3)), (238, (.aload_n 0, 1)), (239, (.invokevirtual 348, 3)), (242, (.invokevirtual 366, 3)), (245, (.iload_n 1, 1)), (246, (.ireturn, 1)), (247, (.aload_n 0, 1)), (248, (.invokevirtual 369, 3)), (251, (.istore_n 2, 1)), (252, (.aload_n 0, 1)), (253, (.aload_n 0, 1)), (254, (.getfield 82, 3)), (257, (.iconst 3, 1)), (258, (.if_icmp .ne 7, 3)), (261, (.iconst 0, 1)), (262, (.goto 7, 3)), (265, (.aload_n 0, 1)), (266, (.invokevirtual 285, 3)), (269, (.putfield 288, 3)), (272, (.aload_n 0, 1)), (273, (.iload_n 2, 1)), (274, (.invokevirtual 357, 3)), (277, (.iload_n 1, 1)), (278, (.ireturn, 1)), (279, (.aload_n 0, 1)), (280, (.invokevirtual 336, 3)), (283, (.istore_n 2, 1)), (284, (.aload_n 0, 1)), (285, (.aload_n 0, 1)), (286, (.getfield 73, 3)), (289, (.iconst 2, 1)), (290, (.if_icmp .ne 16, 3)), (293, (.aload_n 0, 1)), (294, (.getfield 44, 3)), (297, (.aload_n 0, 1)), (298, (.getfield 85, 3)), (301, (.iaload, 1)), (302, (.i2l, 1))] = true := by decide +kernel
theorem dX12_doOther_231 : decode cX12_doOther 231 = .ok (.aload_n 0, 1) := xdc ddX12_doOther_1 0 rfl
theorem dX12_doOther_232 : decode cX12_doOther 232 = .ok (.getfield 109, 3) := xdc ddX12_doOther_1 1 rfl
theorem dX12_doOther_235 : decode cX12_doOther 235 = .ok (.goto 7, 3) := xdc ddX12_doOther_1 2 rfl
theorem dX12_doOther_238 : decode cX12_doOther 238 = .ok (.aload_n 0, 1) := xdc ddX12_doOther_1 3 rfl
theorem dX12_doOther_239 : decode cX12_doOther 239 = .ok (.invokevirtual 348, 3) := xdc ddX12_doOther_1 4 rfl
theorem dX12_doOther_242 : decode cX12_doOther 242 = .ok (.invokevirtual 366, 3) := xdc ddX12_doOther_1 5 rfl
theorem dX12_doOther_245 : decode cX12_doOther 245 = .ok (.iload_n 1, 1) := xdc ddX12_doOther_1 6 rfl
theorem dX12_doOther_246 : decode cX12_doOther 246 = .ok (.ireturn, 1) := xdc ddX12_doOther_1 7 rfl
theorem dX12_doOther_247 : decode cX12_doOther 247 = .ok (.aload_n 0, 1) := xdc ddX12_doOther_1 8 rfl
theorem dX12_doOther_248 : decode cX12_doOther 248 = .ok (.invokevirtual 369, 3) := xdc ddX12_doOther_1 9 rfl
theorem dX12_doOther_251 : decode cX12_doOther 251 = .ok (.istore_n 2, 1) := xdc ddX12_doOther_1 10 rfl
theorem dX12_doOther_252 : decode cX12_doOther 252 = .ok (.aload_n 0, 1) := xdc ddX12_doOther_1 11 rfl
theorem dX12_doOther_253 : decode cX12_doOther 253 = .ok (.aload_n 0, 1) := xdc ddX12_doOther_1 12 rfl
theorem dX12_doOther_254 : decode cX12_doOther 254 = .ok (.getfield 82, 3) := xdc ddX12_doOther_1 13 rfl
theorem dX12_doOther_257 : decode cX12_doOther 257 = .ok (.iconst 3, 1) := xdc ddX12_doOther_1 14 rfl
theorem dX12_doOther_258 : decode cX12_doOther 258 = .ok (.if_icmp .ne 7, 3) := xdc ddX12_doOther_1 15 rfl
theorem dX12_doOther_261 : decode cX12_doOther 261 = .ok (.iconst 0, 1) := xdc ddX12_doOther_1 16 rfl
theorem dX12_doOther_262 : decode cX12_doOther 262 = .ok (.goto 7, 3) := xdc ddX12_doOther_1 17 rfl
theorem dX12_doOther_265 : decode cX12_doOther 265 = .ok (.aload_n 0, 1) := xdc ddX12_doOther_1 18 rfl
theorem dX12_doOther_266 : decode cX12_doOther 266 = .ok (.invokevirtual 285, 3) := xdc ddX12_doOther_1 19 rfl
theorem dX12_doOther_269 : decode cX12_doOther 269 = .ok (.putfield 288, 3) := xdc ddX12_doOther_1 20 rfl
theorem dX12_doOther_272 : decode cX12_doOther 272 = .ok (.aload_n 0, 1) := xdc ddX12_doOther_1 21 rfl
theorem dX12_doOther_273 : decode cX12_doOther 273 = .ok (.iload_n 2, 1) := xdc ddX12_doOther_1 22 rfl
theorem dX12_doOther_274 : decode cX12_doOther 274 = .ok (.invokevirtual 357, 3) := xdc ddX12_doOther_1 23 rfl
theorem dX12_doOther_277 : decode cX12_doOther 277 = .ok (.iload_n 1, 1) := xdc ddX12_doOther_1 24 rfl
theorem dX12_doOther_278 : decode cX12_doOther 278 = .ok (.ireturn, 1) := xdc ddX12_doOther_1 25 rfl
theorem dX12_doOther_279 : decode cX12_doOther 279 = .ok (.aload_n 0, 1) := xdc ddX12_doOther_1 26 rfl
theorem dX12_doOther_280 : decode cX12_doOther 280 = .ok (.invokevirtual 336, 3) := xdc ddX12_doOther_1 27 rfl
theorem dX12_doOther_283 : decode cX12_doOther 283 = .ok (.istore_n 2, 1) := xdc ddX12_doOther_1 28 rfl
theorem dX12_doOther_284 : decode cX12_doOther 284 = .ok (.aload_n 0, 1) := xdc ddX12_doOther_1 29 rfl
theorem dX12_doOther_285 : decode cX12_doOther 285 = .ok (.aload_n 0, 1) := xdc ddX12_doOther_1 30 rfl
theorem dX12_doOther_286 : decode cX12_doOther 286 = .ok (.getfield 73, 3) := xdc ddX12_doOther_1 31 rfl
theorem dX12_doOther_289 : decode cX12_doOther 289 = .ok (.iconst 2, 1) := xdc ddX12_doOther_1 32 rfl
theorem dX12_doOther_290 : decode cX12_doOther 290 = .ok (.if_icmp .ne 16, 3) := xdc ddX12_doOther_1 33 rfl
theorem dX12_doOther_293 : decode cX12_doOther 293 = .ok (.aload_n 0, 1) := xdc ddX12_doOther_1 34 rfl
theorem dX12_doOther_294 : decode cX12_doOther 294 = .ok (.getfield 44, 3) := xdc ddX12_doOther_1 35 rfl
theorem dX12_doOther_297 : decode cX12_doOther 297 = .ok (.aload_n 0, 1) := xdc ddX12_doOther_1 36 rfl
theorem dX12_doOther_298 : decode cX12_doOther 298 = .ok (.getfield 85, 3) := xdc ddX12_doOther_1 37 rfl
theorem dX12_doOther_301 : decode cX12_doOther 301 = .ok (.iaload, 1) := xdc ddX12_doOther_1 38 rfl
theorem dX12_doOther_302 : decode cX12_doOther 302 = .ok (.i2l, 1) := xdc ddX12_doOther_1 39 rfl
theorem ddX12_doOther_2 : xdec cX12_doOther [(303, (.goto 8, 3)), (306, (.aload_n 0, 1)), (307, (.getfield 109, 3)), (310, (.i2l, 1)), (311, (.iload_n 2, 1)), (312, (.i2l, 1)), (313, (.invokevirtual 372, 3)), (316, (.iload_n 1, 1)), (317, (.ireturn, 1)), (318, (.aload_n 0, 1)), (319, (.aload_n 0, 1)), (320, (.getfield 115, 3)), (323, (.invokevirtual 376, 3)), (326, (.ifCond .eq 10, 3)), (329, (.aload_n 0, 1)), (330, (.getfield 109, 3)), (333, (.goto 4, 3)), (336, (.iload_n 1, 1)), (337, (.ireturn, 1)), (338, (.aload_n 0, 1)), (339, (.invokevirtual 348, 3)), (342, (.istore_n 2, 1)), (343, (.aload_n 0, 1)), (344, (.iconst 4, 1)), (345, (.iload_n 2, 1)), (346, (.aload_n 0, 1)), (347, (.invokevirtual 351, 3)), (350, (.aload_n 0, 1)), (351, (.getfield 76, 3)), (354, (.invokevirtual 354, 3)), (357, (.istore_n 2, 1)), (358, (.iload_n 1, 1)), (359, (.ireturn, 1)), (360, (.aload_n 0, 1)), (361, (.getfield 73, 3)), (364, (.bipush 14, 2)), (366, (.if_icmp .ne 38, 3)), (369, (.aload_n 0, 1)), (370, (.getfield 44, 3)), (373, (.iconst 0, 1))] = true := by decide +kernel
theorem dX12_doOther_303 : decode cX12_doOther 303 = .ok (.goto 8, 3) := xdc ddX12_doOther_2 0 rfl
theorem dX12_doOther_306 : decode cX12_doOther 306 = .ok (.aload_n 0, 1) := xdc ddX12_doOther_2 1 rfl
theorem dX12_doOther_307 : decode cX12_doOther 307 = .ok (.getfield 109, 3) := xdc ddX12_doOther_2 2 rfl
theorem dX12_doOther_310 : decode cX12_doOther 310 = .ok (.i2l, 1) := xdc ddX12_doOther_2 3 rfl
theorem dX12_doOther_311 : decode cX12_doOther 311 = .ok (.iload_n 2, 1) := xdc ddX12_doOther_2 4 rfl
theorem dX12_doOther_312 : decode cX12_doOther 312 = .ok (.i2l, 1) := xdc ddX12_doOther_2 5 rfl
theorem dX12_doOther_313 : decode cX12_doOther 313 = .ok (.invokevirtual 372, 3) := xdc ddX12_doOther_2 6 rfl
theorem dX12_doOther_316 : decode cX12_doOther 316 = .ok (.iload_n 1, 1) := xdc ddX12_doOther_2 7 rfl
theorem dX12_doOther_317 : decode cX12_doOther 317 = .ok (.ireturn, 1) := xdc ddX12_doOther_2 8 rfl
theorem dX12_doOther_318 : decode cX12_doOther 318 = .ok (.aload_n 0, 1) := xdc ddX12_doOther_2 9 rfl
theorem dX12_doOther_319 : decode cX12_doOther 319 = .ok (.aload_n 0, 1) := xdc ddX12_doOther_2 10 rfl
theorem dX12_doOther_320 : decode cX12_doOther 320 = .ok (.getfield 115, 3) := xdc ddX12_doOther_2 11 rfl
theorem dX12_doOther_323 : decode cX12_doOther 323 = .ok (.invokevirtual 376, 3) := xdc ddX12_doOther_2 12 rfl
theorem dX12_doOther_326 : decode cX12_doOther 326 = .ok (.ifCond .eq 10, 3) := xdc ddX12_doOther_2 13 rfl
theorem dX12_doOther_329 : decode cX12_doOther 329 = .ok (.aload_n 0, 1) := xdc ddX12_doOther_2 14 rfl
theorem dX12_doOther_330 : decode cX12_doOther 330 = .ok (.getfield 109, 3) := xdc ddX12_doOther_2 15 rfl
theorem dX12_doOther_333 : decode cX12_doOther 333 = .ok (.goto 4, 3) := xdc ddX12_doOther_2 16 rfl
theorem dX12_doOther_336 : decode cX12_doOther 336 = .ok (.iload_n 1, 1) := xdc ddX12_doOther_2 17 rfl
theorem dX12_doOther_337 : decode cX12_doOther 337 = .ok (.ireturn, 1) := xdc ddX12_doOther_2 18 rfl
theorem dX12_doOther_338 : decode cX12_doOther 338 = .ok (.aload_n 0, 1) := xdc ddX12_doOther_2 19 rfl
theorem dX12_doOther_339 : decode cX12_doOther 339 = .ok (.invokevirtual 348, 3) := xdc ddX12_doOther_2 20 rfl
theorem dX12_doOther_342 : decode cX12_doOther 342 = .ok (.istore_n 2, 1) := xdc ddX12_doOther_2 21 rfl
theorem dX12_doOther_343 : decode cX12_doOther 343 = .ok (.aload_n 0, 1) := xdc ddX12_doOther_2 22 rfl
theorem dX12_doOther_344 : decode cX12_doOther 344 = .ok (.iconst 4, 1) := xdc ddX12_doOther_2 23 rfl
theorem dX12_doOther_345 : decode cX12_doOther 345 = .ok (.iload_n 2, 1) := xdc ddX12_doOther_2 24 rfl
theorem dX12_doOther_346 : decode cX12_doOther 346 = .ok (.aload_n 0, 1) := xdc ddX12_doOther_2 25 rfl
theorem dX12_doOther_347 : decode cX12_doOther 347 = .ok (.invokevirtual 351, 3) := xdc ddX12_doOther_2 26 rfl
theorem dX12_doOther_350 : decode cX12_doOther 350 = .ok (.aload_n 0, 1) := xdc ddX12_doOther_2 27 rfl
theorem dX12_doOther_351 : decode cX12_doOther 351 = .ok (.getfield 76, 3) := xdc ddX12_doOther_2 28 rfl
theorem dX12_doOther_354 : decode cX12_doOther 354 = .ok (.invokevirtual 354, 3) := xdc ddX12_doOther_2 29 rfl
theorem dX12_doOther_357 : decode cX12_doOther 357 = .ok (.istore_n 2, 1) := xdc ddX12_doOther_2 30 rfl
theorem dX12_doOther_358 : decode cX12_doOther 358 = .ok (.iload_n 1, 1) := xdc ddX12_doOther_2 31 rfl
theorem dX12_doOther_359 : decode cX12_doOther 359 = .ok (.ireturn, 1) := xdc ddX12_doOther_2 32 rfl
theorem dX12_doOther_360 : decode cX12_doOther 360 = .ok (.aload_n 0, 1) := xdc ddX12_doOther_2 33 rfl
theorem dX12_doOther_361 : decode cX12_doOther 361 = .ok (.getfield 73, 3) := xdc ddX12_doOther_2 34 rfl
theorem dX12_doOther_364 : decode cX12_doOther 364 = .ok (.bipush 14, 2) := xdc ddX12_doOther_2 35 rfl
theorem dX12_doOther_366 : decode cX12_doOther 366 = .ok (.if_icmp .ne 38, 3) := xdc ddX12_doOther_2 36 rfl
theorem dX12_doOther_369 : decode cX12_doOther 369 = .ok (.aload_n 0, 1) := xdc ddX12_doOther_2 37 rfl
theorem dX12_doOther_370 : decode cX12_doOther 370 = .ok (.getfield 44, 3) := xdc ddX12_doOther_2 38 rfl
theorem dX12_doOther_373 : decode cX12_doOther 373 = .ok (.iconst 0, 1) := xdc ddX12_doOther_2 39 rfl
theorem ddX12_doOther_3 : xdec cX12_doOther [(374, (.iaload, 1)), (375, (.istore_n 2, 1)), (376, (.aload_n 0, 1)), (377, (.getfield 44, 3)), (380, (.iconst 0, 1)), (381, (.aload_n 0, 1)), (382, (.getfield 44, 3)), (385, (.aload_n 0, 1)), (386, (.getfield 88, 3)), (389, (.iaload, 1)), (390, (.iastore, 1)), (391, (.aload_n 0, 1)), (392, (.getfield 44, 3)), (395, (.aload_n 0, 1)), (396, (.getfield 88, 3)), (399, (.iload_n 2, 1)), (400, (.iastore, 1)), (401, (.goto 39, 3)), (404, (.aload_n 0, 1)), (405, (.invokevirtual 336, 3)), (408, (.istore_n 2, 1)), (409, (.aload_n 0, 1)), (410, (.aload_n 0, 1)), (411, (.getfield 85, 3)), (414, (.aload_n 0, 1)), (415, (.getfield 76, 3)), (418, (.invokevirtual 291, 3)), (421, (.istore_n 3, 1)), (422, (.aload_n 0, 1)), (423, (.iload_n 3, 1)), (424, (.invokevirtual 339, 3)), (427, (.aload_n 0, 1)), (428, (.aload_n 0, 1)), (429, (.getfield 85, 3)), (432, (.aload_n 0, 1)), (433, (.getfield 76, 3)), (436, (.iload_n 2, 1)), (437, (.invokevirtual 297, 3)), (440, (.iload_n 1, 1)), (441, (.ireturn, 1))] = true := by decide +kernel
theorem dX12_doOther_374 : decode cX12_doOther 374 = .ok (.iaload, 1) := xdc ddX12_doOther_3 0 rfl
theorem dX12_doOther_375 : decode cX12_doOther 375 = .ok (.istore_n 2, 1) := xdc ddX12_doOther_3 1 rfl
theorem dX12_doOther_376 : decode cX12_doOther 376 = .ok (.aload_n 0, 1) := xdc ddX12_doOther_3 2 rfl
theorem dX12_doOther_377 : decode cX12_doOther 377 = .ok (.getfield 44, 3) := xdc ddX12_doOther_3 3 rfl
theorem dX12_doOther_380 : decode cX12_doOther 380 = .ok (.iconst 0, 1) := xdc ddX12_doOther_3 4 rfl
theorem dX12_doOther_381 : decode cX12_doOther 381 = .ok (.aload_n 0, 1) := xdc ddX12_doOther_3 5 rfl
theorem dX12_doOther_382 : decode cX12_doOther 382 = .ok (.getfield 44, 3) := xdc ddX12_doOther_3 6 rfl
theorem dX12_doOther_385 : decode cX12_doOther 385 = .ok (.aload_n 0, 1) := xdc ddX12_doOther_3 7 rfl
theorem dX12_doOther_386 : decode cX12_doOther 386 = .ok (.getfield 88, 3) := xdc ddX12_doOther_3 8 rfl
theorem dX12_doOther_389 : decode cX12_doOther 389 = .ok (.iaload, 1) := xdc ddX12_doOther_3 9 rfl
theorem dX12_doOther_390 : decode cX12_doOther 390 = .ok (.iastore, 1) := xdc ddX12_doOther_3 10 rfl
theorem dX12_doOther_391 : decode cX12_doOther 391 = .ok (.aload_n 0, 1) := xdc ddX12_doOther_3 11 rfl
theorem dX12_doOther_392 : decode cX12_doOther 392 = .ok (.getfield 44, 3) := xdc ddX12_doOther_3 12 rfl
theorem dX12_doOther_395 : decode cX12_doOther 395 = .ok (.aload_n 0, 1) := xdc ddX12_doOther_3 13 rfl
theorem dX12_doOther_396 : decode cX12_doOther 396 = .ok (.getfield 88, 3) := xdc ddX12_doOther_3 14 rfl
theorem dX12_doOther_399 : decode cX12_doOther 399 = .ok (.iload_n 2, 1) := xdc ddX12_doOther_3 15 rfl
theorem dX12_doOther_400 : decode cX12_doOther 400 = .ok (.iastore, 1) := xdc ddX12_doOther_3 16 rfl
theorem dX12_doOther_401 : decode cX12_doOther 401 = .ok (.goto 39, 3) := xdc ddX12_doOther_3 17 rfl
theorem dX12_doOther_404 : decode cX12_doOther 404 = .ok (.aload_n 0, 1) := xdc ddX12_doOther_3 18 rfl
theorem dX12_doOther_405 : decode cX12_doOther 405 = .ok (.invokevirtual 336, 3) := xdc ddX12_doOther_3 19 rfl
theorem dX12_doOther_408 : decode cX12_doOther 408 = .ok (.istore_n 2, 1) := xdc ddX12_doOther_3 20 rfl
theorem dX12_doOther_409 : decode cX12_doOther 409 = .ok (.aload_n 0, 1) := xdc ddX12_doOther_3 21 rfl
theorem dX12_doOther_410 : decode cX12_doOther 410 = .ok (.aload_n 0, 1) := xdc ddX12_doOther_3 22 rfl
theorem dX12_doOther_411 : decode cX12_doOther 411 = .ok (.getfield 85, 3) := xdc ddX12_doOther_3 23 rfl
theorem dX12_doOther_414 : decode cX12_doOther 414 = .ok (.aload_n 0, 1) := xdc ddX12_doOther_3 24 rfl
theorem dX12_doOther_415 : decode cX12_doOther 415 = .ok (.getfield 76, 3) := xdc ddX12_doOther_3 25 rfl
theorem dX12_doOther_418 : decode cX12_doOther 418 = .ok (.invokevirtual 291, 3) := xdc ddX12_doOther_3 26 rfl
theorem dX12_doOther_421 : decode cX12_doOther 421 = .ok (.istore_n 3, 1) := xdc ddX12_doOther_3 27 rfl
theorem dX12_doOther_422 : decode cX12_doOther 422 = .ok (.aload_n 0, 1) := xdc ddX12_doOther_3 28 rfl
theorem dX12_doOther_423 : decode cX12_doOther 423 = .ok (.iload_n 3, 1) := xdc ddX12_doOther_3 29 rfl
theorem dX12_doOther_424 : decode cX12_doOther 424 = .ok (.invokevirtual 339, 3) := xdc ddX12_doOther_3 30 rfl
theorem dX12_doOther_427 : decode cX12_doOther 427 = .ok (.aload_n 0, 1) := xdc ddX12_doOther_3 31 rfl
theorem dX12_doOther_428 : decode cX12_doOther 428 = .ok (.aload_n 0, 1) := xdc ddX12_doOther_3 32 rfl
theorem dX12_doOther_429 : decode cX12_doOther 429 = .ok (.getfield 85, 3) := xdc ddX12_doOther_3 33 rfl
theorem dX12_doOther_432 : decode cX12_doOther 432 = .ok (.aload_n 0, 1) := xdc ddX12_doOther_3 34 rfl
theorem dX12_doOther_433 : decode cX12_doOther 433 = .ok (.getfield 76, 3) := xdc ddX12_doOther_3 35 rfl
theorem dX12_doOther_436 : decode cX12_doOther 436 = .ok (.iload_n 2, 1) := xdc ddX12_doOther_3 36 rfl
theorem dX12_doOther_437 : decode cX12_doOther 437 = .ok (.invokevirtual 297, 3) := xdc ddX12_doOther_3 37 rfl
theorem dX12_doOther_440 : decode cX12_doOther 440 = .ok (.iload_n 1, 1) := xdc ddX12_doOther_3 38 rfl
theorem dX12_doOther_441 : decode cX12_doOther 441 = .ok (.ireturn, 1) := xdc ddX12_doOther_3 39 rfl
theorem ddX12_doOther_4 : xdec cX12_doOther [(442, (.aload_n 0, 1)), (443, (.getfield 73, 3)), (446, (.bipush 13, 2)), (448, (.if_icmp .ne 22, 3)), (451, (.aload_n 0, 1)), (452, (.aload_n 0, 1)), (453, (.getfield 88, 3)), (456, (.aload_n 0, 1)), (457, (.getfield 76, 3)), (460, (.aload_n 0, 1)), (461, (.getfield 109, 3)), (464, (.invokevirtual 297, 3)), (467, (.goto 81, 3)), (470, (.aload_n 0, 1)), (471, (.getfield 73, 3)), (474, (.iconst 2, 1)), (475, (.if_icmp .ne 22, 3)), (478, (.aload_n 0, 1)), (479, (.aload_n 0, 1)), (480, (.getfield 85, 3)), (483, (.aload_n 0, 1)), (484, (.getfield 76, 3)), (487, (.aload_n 0, 1)), (488, (.invokevirtual 336, 3)), (491, (.invokevirtual 297, 3)), (494, (.goto 54, 3)), (497, (.aload_n 0, 1)), (498, (.aload_n 0, 1)), (499, (.getfield 82, 3)), (502, (.iconst 3, 1)), (503, (.if_icmp .ne 7, 3)), (506, (.iconst 0, 1)), (507, (.goto 7, 3)), (510, (.aload_n 0, 1)), (511, (.invokevirtual 285, 3)), (514, (.putfield 288, 3)), (517, (.aload_n 0, 1)), (518, (.aload_n 0, 1)), (519, (.getfield 73, 3)), (522, (.iconst 4, 1))] = true := by decide +kernel
theorem dX12_doOther_442 : decode cX12_doOther 442 = .ok (.aload_n 0, 1) := xdc ddX12_doOther_4 0 rfl
theorem dX12_doOther_443 : decode cX12_doOther 443 = .ok (.getfield 73, 3) := xdc ddX12_doOther_4 1 rfl
theorem dX12_doOther_446 : decode cX12_doOther 446 = .ok (.bipush 13, 2) := xdc ddX12_doOther_4 2 rfl
theorem dX12_doOther_448 : decode cX12_doOther 448 = .ok (.if_icmp .ne 22, 3) := xdc ddX12_doOther_4 3 rfl
theorem dX12_doOther_451 : decode cX12_doOther 451 = .ok (.aload_n 0, 1) := xdc ddX12_doOther_4 4 rfl
theorem dX12_doOther_452 : decode cX12_doOther 452 = .ok (.aload_n 0, 1) := xdc ddX12_doOther_4 5 rfl
theorem dX12_doOther_453 : decode cX12_doOther 453 = .ok (.getfield 88, 3) := xdc ddX12_doOther_4 6 rfl
theorem dX12_doOther_456 : decode cX12_doOther 456 = .ok (.aload_n 0, 1) := xdc ddX12_doOther_4 7 rfl
theorem dX12_doOther_457 : decode cX12_doOther 457 = .ok (.getfield 76, 3) := xdc ddX12_doOther_4 8 rfl
theorem dX12_doOther_460 : decode cX12_doOther 460 = .ok (.aload_n 0, 1) := xdc ddX12_doOther_4 9 rfl
theorem dX12_doOther_461 : decode cX12_doOther 461 = .ok (.getfield 109, 3) := xdc ddX12_doOther_4 10 rfl
theorem dX12_doOther_464 : decode cX12_doOther 464 = .ok (.invokevirtual 297, 3) := xdc ddX12_doOther_4 11 rfl
theorem dX12_doOther_467 : decode cX12_doOther 467 = .ok (.goto 81, 3) := xdc ddX12_doOther_4 12 rfl
theorem dX12_doOther_470 : decode cX12_doOther 470 = .ok (.aload_n 0, 1) := xdc ddX12_doOther_4 13 rfl
theorem dX12_doOther_471 : decode cX12_doOther 471 = .ok (.getfield 73, 3) := xdc ddX12_doOther_4 14 rfl
theorem dX12_doOther_474 : decode cX12_doOther 474 = .ok (.iconst 2, 1) := xdc ddX12_doOther_4 15 rfl
theorem dX12_doOther_475 : decode cX12_doOther 475 = .ok (.if_icmp .ne 22, 3) := xdc ddX12_doOther_4 16 rfl
theorem dX12_doOther_478 : decode cX12_doOther 478 = .ok (.aload_n 0, 1) := xdc ddX12_doOther_4 17 rfl
theorem dX12_doOther_479 : decode cX12_doOther 479 = .ok (.aload_n 0, 1) := xdc ddX12_doOther_4 18 rfl
theorem dX12_doOther_480 : decode cX12_doOther 480 = .ok (.getfield 85, 3) := xdc ddX12_doOther_4 19 rfl
theorem dX12_doOther_483 : decode cX12_doOther 483 = .ok (.aload_n 0, 1) := xdc ddX12_doOther_4 20 rfl
theorem dX12_doOther_484 : decode cX12_doOther 484 = .ok (.getfield 76, 3) := xdc ddX12_doOther_4 21 rfl
theorem dX12_doOther_487 : decode cX12_doOther 487 = .ok (.aload_n 0, 1) := xdc ddX12_doOther_4 22 rfl
theorem dX12_doOther_488 : decode cX12_doOther 488 = .ok (.invokevirtual 336, 3) := xdc ddX12_doOther_4 23 rfl
theorem dX12_doOther_491 : decode cX12_doOther 491 = .ok (.invokevirtual 297, 3) := xdc ddX12_doOther_4 24 rfl
theorem dX12_doOther_494 : decode cX12_doOther 494 = .ok (.goto 54, 3) := xdc ddX12_doOther_4 25 rfl
theorem dX12_doOther_497 : decode cX12_doOther 497 = .ok (.aload_n 0, 1) := xdc ddX12_doOther_4 26 rfl
theorem dX12_doOther_498 : decode cX12_doOther 498 = .ok (.aload_n 0, 1) := xdc ddX12_doOther_4 27 rfl
theorem dX12_doOther_499 : decode cX12_doOther 499 = .ok (.getfield 82, 3) := xdc ddX12_doOther_4 28 rfl
theorem dX12_doOther_502 : decode cX12_doOther 502 = .ok (.iconst 3, 1) := xdc ddX12_doOther_4 29 rfl
theorem dX12_doOther_503 : decode cX12_doOther 503 = .ok (.if_icmp .ne 7, 3) := xdc ddX12_doOther_4 30 rfl
theorem dX12_doOther_506 : decode cX12_doOther 506 = .ok (.iconst 0, 1) := xdc ddX12_doOther_4 31 rfl
theorem dX12_doOther_507 : decode cX12_doOther 507 = .ok (.goto 7, 3) := xdc ddX12_doOther_4 32 rfl
theorem dX12_doOther_510 : decode cX12_doOther 510 = .ok (.aload_n 0, 1) := xdc ddX12_doOther_4 33 rfl
theorem dX12_doOther_511 : decode cX12_doOther 511 = .ok (.invokevirtual 285, 3) := xdc ddX12_doOther_4 34 rfl
theorem dX12_doOther_514 : decode cX12_doOther 514 = .ok (.putfield 288, 3) := xdc ddX12_doOther_4 35 rfl
theorem dX12_doOther_517 : decode cX12_doOther 517 = .ok (.aload_n 0, 1) := xdc ddX12_doOther_4 36 rfl
theorem dX12_doOther_518 : decode cX12_doOther 518 = .ok (.aload_n 0, 1) := xdc ddX12_doOther_4 37 rfl
theorem dX12_doOther_519 : decode cX12_doOther 519 = .ok (.getfield 73, 3) := xdc ddX12_doOther_4 38 rfl
theorem dX12_doOther_522 : decode cX12_doOther 522 = .ok (.iconst 4, 1) := xdc ddX12_doOther_4 39 rfl
theorem ddX12_doOther_5 : xdec cX12_doOther [(523, (.if_icmp .ne 10, 3)), (526, (.aload_n 0, 1)), (527, (.getfield 109, 3)), (530, (.goto 15, 3)), (533, (.aload_n 0, 1)), (534, (.aload_n 0, 1)), (535, (.getfield 85, 3)), (538, (.aload_n 0, 1)), (539, (.getfield 76, 3)), (542, (.invokevirtual 291, 3)), (545, (.invokevirtual 339, 3)), (548, (.iload_n 1, 1)), (549, (.ireturn, 1)), (550, (.aload_n 0, 1)), (551, (.getfield 44, 3)), (554, (.aload_n 0, 1)), (555, (.getfield 85, 3)), (558, (.aload_n 0, 1)), (559, (.invokevirtual 285, 3)), (562, (.iastore, 1)), (563, (.iload_n 1, 1)), (564, (.ireturn, 1)), (565, (.aload_n 0, 1)), (566, (.getfield 44, 3)), (569, (.iconst 0, 1)), (570, (.aload_n 0, 1)), (571, (.getfield 44, 3)), (574, (.iconst 0, 1)), (575, (.iaload, 1)), (576, (.i2s, 1)), (577, (.iastore, 1)), (578, (.iload_n 1, 1)), (579, (.ireturn, 1)), (580, (.aload_n 0, 1)), (581, (.getfield 44, 3)), (584, (.iconst 2, 1)), (585, (.aload_n 0, 1)), (586, (.getfield 44, 3)), (589, (.iconst 0, 1)), (590, (.iaload, 1))] = true := by decide +kernel
theorem dX12_doOther_523 : decode cX12_doOther 523 = .ok (.if_icmp .ne 10, 3) := xdc ddX12_doOther_5 0 rfl
theorem dX12_doOther_526 : decode cX12_doOther 526 = .ok (.aload_n 0, 1) := xdc ddX12_doOther_5 1 rfl
theorem dX12_doOther_527 : decode cX12_doOther 527 = .ok (.getfield 109, 3) := xdc ddX12_doOther_5 2 rfl
theorem dX12_doOther_530 : decode cX12_doOther 530 = .ok (.goto 15, 3) := xdc ddX12_doOther_5 3 rfl
theorem dX12_doOther_533 : decode cX12_doOther 533 = .ok (.aload_n 0, 1) := xdc ddX12_doOther_5 4 rfl
theorem dX12_doOther_534 : decode cX12_doOther 534 = .ok (.aload_n 0, 1) := xdc ddX12_doOther_5 5 rfl
theorem dX12_doOther_535 : decode cX12_doOther 535 = .ok (.getfield 85, 3) := xdc ddX12_doOther_5 6 rfl
theorem dX12_doOther_538 : decode cX12_doOther 538 = .ok (.aload_n 0, 1) := xdc ddX12_doOther_5 7 rfl
theorem dX12_doOther_539 : decode cX12_doOther 539 = .ok (.getfield 76, 3) := xdc ddX12_doOther_5 8 rfl
theorem dX12_doOther_542 : decode cX12_doOther 542 = .ok (.invokevirtual 291, 3) := xdc ddX12_doOther_5 9 rfl
theorem dX12_doOther_545 : decode cX12_doOther 545 = .ok (.invokevirtual 339, 3) := xdc ddX12_doOther_5 10 rfl
theorem dX12_doOther_548 : decode cX12_doOther 548 = .ok (.iload_n 1, 1) := xdc ddX12_doOther_5 11 rfl
theorem dX12_doOther_549 : decode cX12_doOther 549 = .ok (.ireturn, 1) := xdc ddX12_doOther_5 12 rfl
theorem dX12_doOther_550 : decode cX12_doOther 550 = .ok (.aload_n 0, 1) := xdc ddX12_doOther_5 13 rfl
theorem dX12_doOther_551 : decode cX12_doOther 551 = .ok (.getfield 44, 3) := xdc ddX12_doOther_5 14 rfl
theorem dX12_doOther_554 : decode cX12_doOther 554 = .ok (.aload_n 0, 1) := xdc ddX12_doOther_5 15 rfl
theorem dX12_doOther_555 : decode cX12_doOther 555 = .ok (.getfield 85, 3) := xdc ddX12_doOther_5 16 rfl
theorem dX12_doOther_558 : decode cX12_doOther 558 = .ok (.aload_n 0, 1) := xdc ddX12_doOther_5 17 rfl
theorem dX12_doOther_559 : decode cX12_doOther 559 = .ok (.invokevirtual 285, 3) := xdc ddX12_doOther_5 18 rfl
theorem dX12_doOther_562 : decode cX12_doOther 562 = .ok (.iastore, 1) := xdc ddX12_doOther_5 19 rfl
theorem dX12_doOther_563 : decode cX12_doOther 563 = .ok (.iload_n 1, 1) := xdc ddX12_doOther_5 20 rfl
theorem dX12_doOther_564 : decode cX12_doOther 564 = .ok (.ireturn, 1) := xdc ddX12_doOther_5 21 rfl
theorem dX12_doOther_565 : decode cX12_doOther 565 = .ok (.aload_n 0, 1) := xdc ddX12_doOther_5 22 rfl
theorem dX12_doOther_566 : decode cX12_doOther 566 = .ok (.getfield 44, 3) := xdc ddX12_doOther_5 23 rfl
theorem dX12_doOther_569 : decode cX12_doOther 569 = .ok (.iconst 0, 1) := xdc ddX12_doOther_5 24 rfl
theorem dX12_doOther_570 : decode cX12_doOther 570 = .ok (.aload_n 0, 1) := xdc ddX12_doOther_5 25 rfl
theorem dX12_doOther_571 : decode cX12_doOther 571 = .ok (.getfield 44, 3) := xdc ddX12_doOther_5 26 rfl
theorem dX12_doOther_574 : decode cX12_doOther 574 = .ok (.iconst 0, 1) := xdc ddX12_doOther_5 27 rfl
theorem dX12_doOther_575 : decode cX12_doOther 575 = .ok (.iaload, 1) := xdc ddX12_doOther_5 28 rfl
theorem dX12_doOther_576 : decode cX12_doOther 576 = .ok (.i2s, 1) := xdc ddX12_doOther_5 29 rfl
theorem dX12_doOther_577 : decode cX12_doOther 577 = .ok (.iastore, 1) := xdc ddX12_doOther_5 30 rfl
theorem dX12_doOther_578 : decode cX12_doOther 578 = .ok (.iload_n 1, 1) := xdc ddX12_doOther_5 31 rfl
theorem dX12_doOther_579 : decode cX12_doOther 579 = .ok (.ireturn, 1) := xdc ddX12_doOther_5 32 rfl
theorem dX12_doOther_580 : decode cX12_doOther 580 = .ok (.aload_n 0, 1) := xdc ddX12_doOther_5 33 rfl
theorem dX12_doOther_581 : decode cX12_doOther 581 = .ok (.getfield 44, 3) := xdc ddX12_doOther_5 34 rfl
theorem dX12_doOther_584 : decode cX12_doOther 584 = .ok (.iconst 2, 1) := xdc ddX12_doOther_5 35 rfl
theorem dX12_doOther_585 : decode cX12_doOther 585 = .ok (.aload_n 0, 1) := xdc ddX12_doOther_5 36 rfl
theorem dX12_doOther_586 : decode cX12_doOther 586 = .ok (.getfield 44, 3) := xdc ddX12_doOther_5 37 rfl
theorem dX12_doOther_589 : decode cX12_doOther 589 = .ok (.iconst 0, 1) := xdc ddX12_doOther_5 38 rfl
theorem dX12_doOther_590 : decode cX12_doOther 590 = .ok (.iaload, 1) := xdc ddX12_doOther_5 39 rfl
theorem ddX12_doOther_6 : xdec cX12_doOther [(591, (.bipush 31, 2)), (593, (.ishr, 1)), (594, (.iastore, 1)), (595, (.iload_n 1, 1)), (596, (.ireturn, 1)), (597, (.aload_n 0, 1)), (598, (.getfield 44, 3)), (601, (.iconst 1, 1)), (602, (.dup2, 1)), (603, (.iaload, 1)), (604, (.iconst 1, 1)), (605, (.isub, 1)), (606, (.iastore, 1)), (607, (.aload_n 0, 1)), (608, (.getfield 44, 3)), (611, (.iconst 1, 1)), (612, (.iaload, 1)), (613, (.ifCond .eq 10, 3)), (616, (.aload_n 0, 1)), (617, (.getfield 109, 3)), (620, (.goto 4, 3)), (623, (.iload_n 1, 1)), (624, (.ireturn, 1)), (625, (.aload_n 0, 1)), (626, (.getfield 44, 3)), (629, (.iconst 1, 1)), (630, (.iaload, 1)), (631, (.ifCond .ne 10, 3)), (634, (.aload_n 0, 1)), (635, (.getfield 109, 3)), (638, (.goto 4, 3)), (641, (.iload_n 1, 1)), (642, (.ireturn, 1)), (643, (.aload_n 0, 1)), (644, (.iload_n 1, 1)), (645, (.invokevirtual 366, 3)), (648, (.aload_n 0, 1)), (649, (.getfield 109, 3)), (652, (.ireturn, 1)), (653, (.aload_n 0, 1))] = true := by decide +kernel
theorem dX12_doOther_591 : decode cX12_doOther 591 = .ok (.bipush 31, 2) := xdc ddX12_doOther_6 0 rfl
theorem dX12_doOther_593 : decode cX12_doOther 593 = .ok (.ishr, 1) := xdc ddX12_doOther_6 1 rfl
theorem dX12_doOther_594 : decode cX12_doOther 594 = .ok (.iastore, 1) := xdc ddX12_doOther_6 2 rfl
theorem dX12_doOther_595 : decode cX12_doOther 595 = .ok (.iload_n 1, 1) := xdc ddX12_doOther_6 3 rfl
theorem dX12_doOther_596 : decode cX12_doOther 596 = .ok (.ireturn, 1) := xdc ddX12_doOther_6 4 rfl
theorem dX12_doOther_597 : decode cX12_doOther 597 = .ok (.aload_n 0, 1) := xdc ddX12_doOther_6 5 rfl
theorem dX12_doOther_598 : decode cX12_doOther 598 = .ok (.getfield 44, 3) := xdc ddX12_doOther_6 6 rfl
theorem dX12_doOther_601 : decode cX12_doOther 601 = .ok (.iconst 1, 1) := xdc ddX12_doOther_6 7 rfl
theorem dX12_doOther_602 : decode cX12_doOther 602 = .ok (.dup2, 1) := xdc ddX12_doOther_6 8 rfl
theorem dX12_doOther_603 : decode cX12_doOther 603 = .ok (.iaload, 1) := xdc ddX12_doOther_6 9 rfl
theorem dX12_doOther_604 : decode cX12_doOther 604 = .ok (.iconst 1, 1) := xdc ddX12_doOther_6 10 rfl
theorem dX12_doOther_605 : decode cX12_doOther 605 = .ok (.isub, 1) := xdc ddX12_doOther_6 11 rfl
theorem dX12_doOther_606 : decode cX12_doOther 606 = .ok (.iastore, 1) := xdc ddX12_doOther_6 12 rfl
theorem dX12_doOther_607 : decode cX12_doOther 607 = .ok (.aload_n 0, 1) := xdc ddX12_doOther_6 13 rfl
theorem dX12_doOther_608 : decode cX12_doOther 608 = .ok (.getfield 44, 3) := xdc ddX12_doOther_6 14 rfl
theorem dX12_doOther_611 : decode cX12_doOther 611 = .ok (.iconst 1, 1) := xdc ddX12_doOther_6 15 rfl
theorem dX12_doOther_612 : decode cX12_doOther 612 = .ok (.iaload, 1) := xdc ddX12_doOther_6 16 rfl
theorem dX12_doOther_613 : decode cX12_doOther 613 = .ok (.ifCond .eq 10, 3) := xdc ddX12_doOther_6 17 rfl
theorem dX12_doOther_616 : decode cX12_doOther 616 = .ok (.aload_n 0, 1) := xdc ddX12_doOther_6 18 rfl
theorem dX12_doOther_617 : decode cX12_doOther 617 = .ok (.getfield 109, 3) := xdc ddX12_doOther_6 19 rfl
theorem dX12_doOther_620 : decode cX12_doOther 620 = .ok (.goto 4, 3) := xdc ddX12_doOther_6 20 rfl
theorem dX12_doOther_623 : decode cX12_doOther 623 = .ok (.iload_n 1, 1) := xdc ddX12_doOther_6 21 rfl
theorem dX12_doOther_624 : decode cX12_doOther 624 = .ok (.ireturn, 1) := xdc ddX12_doOther_6 22 rfl
theorem dX12_doOther_625 : decode cX12_doOther 625 = .ok (.aload_n 0, 1) := xdc ddX12_doOther_6 23 rfl
theorem dX12_doOther_626 : decode cX12_doOther 626 = .ok (.getfield 44, 3) := xdc ddX12_doOther_6 24 rfl
theorem dX12_doOther_629 : decode cX12_doOther 629 = .ok (.iconst 1, 1) := xdc ddX12_doOther_6 25 rfl
theorem dX12_doOther_630 : decode cX12_doOther 630 = .ok (.iaload, 1) := xdc ddX12_doOther_6 26 rfl
theorem dX12_doOther_631 : decode cX12_doOther 631 = .ok (.ifCond .ne 10, 3) := xdc ddX12_doOther_6 27 rfl
theorem dX12_doOther_634 : decode cX12_doOther 634 = .ok (.aload_n 0, 1) := xdc ddX12_doOther_6 28 rfl
theorem dX12_doOther_635 : decode cX12_doOther 635 = .ok (.getfield 109, 3) := xdc ddX12_doOther_6 29 rfl
theorem dX12_doOther_638 : decode cX12_doOther 638 = .ok (.goto 4, 3) := xdc ddX12_doOther_6 30 rfl
theorem dX12_doOther_641 : decode cX12_doOther 641 = .ok (.iload_n 1, 1) := xdc ddX12_doOther_6 31 rfl
theorem dX12_doOther_642 : decode cX12_doOther 642 = .ok (.ireturn, 1) := xdc ddX12_doOther_6 32 rfl
theorem dX12_doOther_643 : decode cX12_doOther 643 = .ok (.aload_n 0, 1) := xdc ddX12_doOther_6 33 rfl
theorem dX12_doOther_644 : decode cX12_doOther 644 = .ok (.iload_n 1, 1) := xdc ddX12_doOther_6 34 rfl
theorem dX12_doOther_645 : decode cX12_doOther 645 = .ok (.invokevirtual 366, 3) := xdc ddX12_doOther_6 35 rfl
theorem dX12_doOther_648 : decode cX12_doOther 648 = .ok (.aload_n 0, 1) := xdc ddX12_doOther_6 36 rfl
theorem dX12_doOther_649 : decode cX12_doOther 649 = .ok (.getfield 109, 3) := xdc ddX12_doOther_6 37 rfl
theorem dX12_doOther_652 : decode cX12_doOther 652 = .ok (.ireturn, 1) := xdc ddX12_doOther_6 38 rfl
theorem dX12_doOther_653 : decode cX12_doOther 653 = .ok (.aload_n 0, 1) := xdc ddX12_doOther_6 39 rfl
theorem ddX12_doOther_7 : xdec cX12_doOther [(654, (.getfield 109, 3)), (657, (.ireturn, 1)), (658, (.aload_n 0, 1)), (659, (.getfield 44, 3)), (662, (.aload_n 0, 1)), (663, (.getfield 88, 3)), (666, (.iaload, 1)), (667, (.istore_n 2, 1)), (668, (.aload_n 0, 1)), (669, (.iload_n 1, 1)), (670, (.invokevirtual 366, 3)), (673, (.iload_n 2, 1)), (674, (.ireturn, 1)), (675, (.aload_n 0, 1)), (676, (.getfield 44, 3)), (679, (.aload_n 0, 1)), (680, (.getfield 88, 3)), (683, (.iaload, 1)), (684, (.ireturn, 1)), (685, (.aload_n 0, 1)), (686, (.aload_n 0, 1)), (687, (.getfield 320, 3)), (690, (.ifCond .ne 7, 3)), (693, (.iconst 1, 1)), (694, (.goto 4, 3)), (697, (.iconst 0, 1)), (698, (.putfield 320, 3)), (701, (.iload_n 1, 1)), (702, (.ireturn, 1)), (703, (.aload_n 0, 1)), (704, (.aload_n 0, 1)), (705, (.getfield 70, 3)), (708, (.bipush 35, 2)), (710, (.if_icmp .ne 7, 3)), (713, (.iconst 1, 1)), (714, (.goto 4, 3)), (717, (.iconst 0, 1)), (718, (.putfield 320, 3)), (721, (.iload_n 1, 1)), (722, (.ireturn, 1))] = true := by decide +kernel
theorem dX12_doOther_654 : decode cX12_doOther 654 = .ok (.getfield 109, 3) := xdc ddX12_doOther_7 0 rfl
theorem dX12_doOther_657 : decode cX12_doOther 657 = .ok (.ireturn, 1) := xdc ddX12_doOther_7 1 rfl
theorem dX12_doOther_658 : decode cX12_doOther 658 = .ok (.aload_n 0, 1) := xdc ddX12_doOther_7 2 rfl
theorem dX12_doOther_659 : decode cX12_doOther 659 = .ok (.getfield 44, 3) := xdc ddX12_doOther_7 3 rfl
theorem dX12_doOther_662 : decode cX12_doOther 662 = .ok (.aload_n 0, 1) := xdc ddX12_doOther_7 4 rfl
theorem dX12_doOther_663 : decode cX12_doOther 663 = .ok (.getfield 88, 3) := xdc ddX12_doOther_7 5 rfl
theorem dX12_doOther_666 : decode cX12_doOther 666 = .ok (.iaload, 1) := xdc ddX12_doOther_7 6 rfl
theorem dX12_doOther_667 : decode cX12_doOther 667 = .ok (.istore_n 2, 1) := xdc ddX12_doOther_7 7 rfl
theorem dX12_doOther_668 : decode cX12_doOther 668 = .ok (.aload_n 0, 1) := xdc ddX12_doOther_7 8 rfl
theorem dX12_doOther_669 : decode cX12_doOther 669 = .ok (.iload_n 1, 1) := xdc ddX12_doOther_7 9 rfl
theorem dX12_doOther_670 : decode cX12_doOther 670 = .ok (.invokevirtual 366, 3) := xdc ddX12_doOther_7 10 rfl
theorem dX12_doOther_673 : decode cX12_doOther 673 = .ok (.iload_n 2, 1) := xdc ddX12_doOther_7 11 rfl
theorem dX12_doOther_674 : decode cX12_doOther 674 = .ok (.ireturn, 1) := xdc ddX12_doOther_7 12 rfl
theorem dX12_doOther_675 : decode cX12_doOther 675 = .ok (.aload_n 0, 1) := xdc ddX12_doOther_7 13 rfl
theorem dX12_doOther_676 : decode cX12_doOther 676 = .ok (.getfield 44, 3) := xdc ddX12_doOther_7 14 rfl
theorem dX12_doOther_679 : decode cX12_doOther 679 = .ok (.aload_n 0, 1) := xdc ddX12_doOther_7 15 rfl
theorem dX12_doOther_680 : decode cX12_doOther 680 = .ok (.getfield 88, 3) := xdc ddX12_doOther_7 16 rfl
theorem dX12_doOther_683 : decode cX12_doOther 683 = .ok (.iaload, 1) := xdc ddX12_doOther_7 17 rfl
theorem dX12_doOther_684 : decode cX12_doOther 684 = .ok (.ireturn, 1) := xdc ddX12_doOther_7 18 rfl
theorem dX12_doOther_685 : decode cX12_doOther 685 = .ok (.aload_n 0, 1) := xdc ddX12_doOther_7 19 rfl
theorem dX12_doOther_686 : decode cX12_doOther 686 = .ok (.aload_n 0, 1) := xdc ddX12_doOther_7 20 rfl
theorem dX12_doOther_687 : decode cX12_doOther 687 = .ok (.getfield 320, 3) := xdc ddX12_doOther_7 21 rfl
theorem dX12_doOther_690 : decode cX12_doOther 690 = .ok (.ifCond .ne 7, 3) := xdc ddX12_doOther_7 22 rfl
theorem dX12_doOther_693 : decode cX12_doOther 693 = .ok (.iconst 1, 1) := xdc ddX12_doOther_7 23 rfl
theorem dX12_doOther_694 : decode cX12_doOther 694 = .ok (.goto 4, 3) := xdc ddX12_doOther_7 24 rfl
theorem dX12_doOther_697 : decode cX12_doOther 697 = .ok (.iconst 0, 1) := xdc ddX12_doOther_7 25 rfl
theorem dX12_doOther_698 : decode cX12_doOther 698 = .ok (.putfield 320, 3) := xdc ddX12_doOther_7 26 rfl
theorem dX12_doOther_701 : decode cX12_doOther 701 = .ok (.iload_n 1, 1) := xdc ddX12_doOther_7 27 rfl
theorem dX12_doOther_702 : decode cX12_doOther 702 = .ok (.ireturn, 1) := xdc ddX12_doOther_7 28 rfl
theorem dX12_doOther_703 : decode cX12_doOther 703 = .ok (.aload_n 0, 1) := xdc ddX12_doOther_7 29 rfl
theorem dX12_doOther_704 : decode cX12_doOther 704 = .ok (.aload_n 0, 1) := xdc ddX12_doOther_7 30 rfl
theorem dX12_doOther_705 : decode cX12_doOther 705 = .ok (.getfield 70, 3) := xdc ddX12_doOther_7 31 rfl
theorem dX12_doOther_708 : decode cX12_doOther 708 = .ok (.bipush 35, 2) := xdc ddX12_doOther_7 32 rfl
theorem dX12_doOther_710 : decode cX12_doOther 710 = .ok (.if_icmp .ne 7, 3) := xdc ddX12_doOther_7 33 rfl
theorem dX12_doOther_713 : decode cX12_doOther 713 = .ok (.iconst 1, 1) := xdc ddX12_doOther_7 34 rfl
theorem dX12_doOther_714 : decode cX12_doOther 714 = .ok (.goto 4, 3) := xdc ddX12_doOther_7 35 rfl
theorem dX12_doOther_717 : decode cX12_doOther 717 = .ok (.iconst 0, 1) := xdc ddX12_doOther_7 36 rfl
theorem dX12_doOther_718 : decode cX12_doOther 718 = .ok (.putfield 320, 3) := xdc ddX12_doOther_7 37 rfl
theorem dX12_doOther_721 : decode cX12_doOther 721 = .ok (.iload_n 1, 1) := xdc ddX12_doOther_7 38 rfl
theorem dX12_doOther_722 : decode cX12_doOther 722 = .ok (.ireturn, 1) := xdc ddX12_doOther_7 39 rfl
theorem ddX12_doOther_8 : xdec cX12_doOther [(723, (.aload_n 0, 1)), (724, (.invokevirtual 336, 3)), (727, (.istore_n 2, 1)), (728, (.aload_n 0, 1)), (729, (.iload_n 2, 1)), (730, (.iconst (-1), 1)), (731, (.ixor, 1)), (732, (.invokevirtual 339, 3)), (735, (.iload_n 1, 1)), (736, (.ireturn, 1)), (737, (.aload_n 0, 1)), (738, (.invokevirtual 336, 3)), (741, (.istore_n 2, 1)), (742, (.aload_n 0, 1)), (743, (.aload_n 0, 1)), (744, (.iconst 0, 1)), (745, (.iload_n 2, 1)), (746, (.iconst 0, 1)), (747, (.aload_n 0, 1)), (748, (.getfield 76, 3)), (751, (.invokevirtual 333, 3)), (754, (.invokevirtual 339, 3)), (757, (.iload_n 1, 1)), (758, (.ireturn, 1)), (759, (.aload_n 0, 1)), (760, (.invokevirtual 379, 3)), (763, (.iload_n 1, 1)), (764, (.ireturn, 1)), (765, (.aload_n 0, 1)), (766, (.invokevirtual 382, 3)), (769, (.iload_n 1, 1)), (770, (.ireturn, 1)), (771, (.aload_n 0, 1)), (772, (.iload_n 1, 1)), (773, (.invokevirtual 385, 3)), (776, (.ireturn, 1))] = true := by decide +kernel
theorem dX12_doOther_723 : decode cX12_doOther 723 = .ok (.aload_n 0, 1) := xdc ddX12_doOther_8 0 rfl
theorem dX12_doOther_724 : decode cX12_doOther 724 = .ok (.invokevirtual 336, 3) := xdc ddX12_doOther_8 1 rfl
theorem dX12_doOther_727 : decode cX12_doOther 727 = .ok (.istore_n 2, 1) := xdc ddX12_doOther_8 2 rfl
theorem dX12_doOther_728 : decode cX12_doOther 728 = .ok (.aload_n 0, 1) := xdc ddX12_doOther_8 3 rfl
theorem dX12_doOther_729 : decode cX12_doOther 729 = .ok (.iload_n 2, 1) := xdc ddX12_doOther_8 4 rfl
theorem dX12_doOther_730 : decode cX12_doOther 730 = .ok (.iconst (-1), 1) := xdc ddX12_doOther_8 5 rfl
theorem dX12_doOther_731 : decode cX12_doOther 731 = .ok (.ixor, 1) := xdc ddX12_doOther_8 6 rfl
theorem dX12_doOther_732 : decode cX12_doOther 732 = .ok (.invokevirtual 339, 3) := xdc ddX12_doOther_8 7 rfl
theorem dX12_doOther_735 : decode cX12_doOther 735 = .ok (.iload_n 1, 1) := xdc ddX12_doOther_8 8 rfl
theorem dX12_doOther_736 : decode cX12_doOther 736 = .ok (.ireturn, 1) := xdc ddX12_doOther_8 9 rfl
theorem dX12_doOther_737 : decode cX12_doOther 737 = .ok (.aload_n 0, 1) := xdc ddX12_doOther_8 10 rfl
theorem dX12_doOther_738 : decode cX12_doOther 738 = .ok (.invokevirtual 336, 3) := xdc ddX12_doOther_8 11 rfl
theorem dX12_doOther_741 : decode cX12_doOther 741 = .ok (.istore_n 2, 1) := xdc ddX12_doOther_8 12 rfl
theorem dX12_doOther_742 : decode cX12_doOther 742 = .ok (.aload_n 0, 1) := xdc ddX12_doOther_8 13 rfl
theorem dX12_doOther_743 : decode cX12_doOther 743 = .ok (.aload_n 0, 1) := xdc ddX12_doOther_8 14 rfl
theorem dX12_doOther_744 : decode cX12_doOther 744 = .ok (.iconst 0, 1) := xdc ddX12_doOther_8 15 rfl
theorem dX12_doOther_745 : decode cX12_doOther 745 = .ok (.iload_n 2, 1) := xdc ddX12_doOther_8 16 rfl
theorem dX12_doOther_746 : decode cX12_doOther 746 = .ok (.iconst 0, 1) := xdc ddX12_doOther_8 17 rfl
theorem dX12_doOther_747 : decode cX12_doOther 747 = .ok (.aload_n 0, 1) := xdc ddX12_doOther_8 18 rfl
theorem dX12_doOther_748 : decode cX12_doOther 748 = .ok (.getfield 76, 3) := xdc ddX12_doOther_8 19 rfl
theorem dX12_doOther_751 : decode cX12_doOther 751 = .ok (.invokevirtual 333, 3) := xdc ddX12_doOther_8 20 rfl
theorem dX12_doOther_754 : decode cX12_doOther 754 = .ok (.invokevirtual 339, 3) := xdc ddX12_doOther_8 21 rfl
theorem dX12_doOther_757 : decode cX12_doOther 757 = .ok (.iload_n 1, 1) := xdc ddX12_doOther_8 22 rfl
theorem dX12_doOther_758 : decode cX12_doOther 758 = .ok (.ireturn, 1) := xdc ddX12_doOther_8 23 rfl
theorem dX12_doOther_759 : decode cX12_doOther 759 = .ok (.aload_n 0, 1) := xdc ddX12_doOther_8 24 rfl
theorem dX12_doOther_760 : decode cX12_doOther 760 = .ok (.invokevirtual 379, 3) := xdc ddX12_doOther_8 25 rfl
theorem dX12_doOther_763 : decode cX12_doOther 763 = .ok (.iload_n 1, 1) := xdc ddX12_doOther_8 26 rfl
theorem dX12_doOther_764 : decode cX12_doOther 764 = .ok (.ireturn, 1) := xdc ddX12_doOther_8 27 rfl
theorem dX12_doOther_765 : decode cX12_doOther 765 = .ok (.aload_n 0, 1) := xdc ddX12_doOther_8 28 rfl
theorem dX12_doOther_766 : decode cX12_doOther 766 = .ok (.invokevirtual 382, 3) := xdc ddX12_doOther_8 29 rfl
theorem dX12_doOther_769 : decode cX12_doOther 769 = .ok (.iload_n 1, 1) := xdc ddX12_doOther_8 30 rfl
theorem dX12_doOther_770 : decode cX12_doOther 770 = .ok (.ireturn, 1) := xdc ddX12_doOther_8 31 rfl
theorem dX12_doOther_771 : decode cX12_doOther 771 = .ok (.aload_n 0, 1) := xdc ddX12_doOther_8 32 rfl
theorem dX12_doOther_772 : decode cX12_doOther 772 = .ok (.iload_n 1, 1) := xdc ddX12_doOther_8 33 rfl
theorem dX12_doOther_773 : decode cX12_doOther 773 = .ok (.invokevirtual 385, 3) := xdc ddX12_doOther_8 34 rfl
theorem dX12_doOther_776 : decode cX12_doOther 776 = .ok (.ireturn, 1) := xdc ddX12_doOther_8 35 rfl
abbrev cX12_doOne : ByteArray := prog_14_method_71_code
theorem ddX12_doOne_0 : xdec cX12_doOne [(0, (.aload_n 0, 1)), (1, (.getfield 40, 3)), (4, (.aload_n 0, 1)), (5, (.getfield 138, 3)), (8, (.iadd, 1)), (9, (.istore_n 1, 1)), (10, (.iload_n 1, 1)), (11, (.istore_n 2, 1)), (12, (.aload_n 0, 1)), (13, (.getfield 70, 3)), (16, (.bipush 7, 2)), (18, (.if_icmp .gt 49, 3)), (21, (.aload_n 0, 1)), (22, (.invokevirtual 348, 3)), (25, (.istore_n 3, 1)), (26, (.aload_n 0, 1)), (27, (.invokevirtual 351, 3)), (30, (.istore 4, 2)), (32, (.aload_n 0, 1)), (33, (.aload_n 0, 1)), (34, (.getfield 70, 3)), (37, (.iload_n 3, 1)), (38, (.iload 4, 2)), (40, (.aload_n 0, 1)), (41, (.getfield 76, 3)), (44, (.invokevirtual 354, 3)), (47, (.istore 5, 2)), (49, (.aload_n 0, 1)), (50, (.getfield 70, 3)), (53, (.bipush 7, 2)), (55, (.if_icmp .eq 9, 3)), (58, (.aload_n 0, 1)), (59, (.iload 5, 2)), (61, (.invokevirtual 357, 3)), (64, (.goto 34, 3)), (67, (.aload_n 0, 1)), (68, (.getfield 70, 3)), (71, (.bipush 21, 2)), (73, (.if_icmp .lt 19, 3)), (76, (.aload_n 0, 1))] = true := by decide +kernel
theorem dX12_doOne_0 : decode cX12_doOne 0 = .ok (.aload_n 0, 1) := xdc ddX12_doOne_0 0 rfl
theorem dX12_doOne_1 : decode cX12_doOne 1 = .ok (.getfield 40, 3) := xdc ddX12_doOne_0 1 rfl
theorem dX12_doOne_4 : decode cX12_doOne 4 = .ok (.aload_n 0, 1) := xdc ddX12_doOne_0 2 rfl
theorem dX12_doOne_5 : decode cX12_doOne 5 = .ok (.getfield 138, 3) := xdc ddX12_doOne_0 3 rfl
theorem dX12_doOne_8 : decode cX12_doOne 8 = .ok (.iadd, 1) := xdc ddX12_doOne_0 4 rfl
theorem dX12_doOne_9 : decode cX12_doOne 9 = .ok (.istore_n 1, 1) := xdc ddX12_doOne_0 5 rfl
theorem dX12_doOne_10 : decode cX12_doOne 10 = .ok (.iload_n 1, 1) := xdc ddX12_doOne_0 6 rfl
theorem dX12_doOne_11 : decode cX12_doOne 11 = .ok (.istore_n 2, 1) := xdc ddX12_doOne_0 7 rfl
theorem dX12_doOne_12 : decode cX12_doOne 12 = .ok (.aload_n 0, 1) := xdc ddX12_doOne_0 8 rfl
theorem dX12_doOne_13 : decode cX12_doOne 13 = .ok (.getfield 70, 3) := xdc ddX12_doOne_0 9 rfl
theorem dX12_doOne_16 : decode cX12_doOne 16 = .ok (.bipush 7, 2) := xdc ddX12_doOne_0 10 rfl
theorem dX12_doOne_18 : decode cX12_doOne 18 = .ok (.if_icmp .gt 49, 3) := xdc ddX12_doOne_0 11 rfl
theorem dX12_doOne_21 : decode cX12_doOne 21 = .ok (.aload_n 0, 1) := xdc ddX12_doOne_0 12 rfl
theorem dX12_doOne_22 : decode cX12_doOne 22 = .ok (.invokevirtual 348, 3) := xdc ddX12_doOne_0 13 rfl
theorem dX12_doOne_25 : decode cX12_doOne 25 = .ok (.istore_n 3, 1) := xdc ddX12_doOne_0 14 rfl
theorem dX12_doOne_26 : decode cX12_doOne 26 = .ok (.aload_n 0, 1) := xdc ddX12_doOne_0 15 rfl
theorem dX12_doOne_27 : decode cX12_doOne 27 = .ok (.invokevirtual 351, 3) := xdc ddX12_doOne_0 16 rfl
theorem dX12_doOne_30 : decode cX12_doOne 30 = .ok (.istore 4, 2) := xdc ddX12_doOne_0 17 rfl
theorem dX12_doOne_32 : decode cX12_doOne 32 = .ok (.aload_n 0, 1) := xdc ddX12_doOne_0 18 rfl
theorem dX12_doOne_33 : decode cX12_doOne 33 = .ok (.aload_n 0, 1) := xdc ddX12_doOne_0 19 rfl
theorem dX12_doOne_34 : decode cX12_doOne 34 = .ok (.getfield 70, 3) := xdc ddX12_doOne_0 20 rfl
theorem dX12_doOne_37 : decode cX12_doOne 37 = .ok (.iload_n 3, 1) := xdc ddX12_doOne_0 21 rfl
theorem dX12_doOne_38 : decode cX12_doOne 38 = .ok (.iload 4, 2) := xdc ddX12_doOne_0 22 rfl
theorem dX12_doOne_40 : decode cX12_doOne 40 = .ok (.aload_n 0, 1) := xdc ddX12_doOne_0 23 rfl
theorem dX12_doOne_41 : decode cX12_doOne 41 = .ok (.getfield 76, 3) := xdc ddX12_doOne_0 24 rfl
theorem dX12_doOne_44 : decode cX12_doOne 44 = .ok (.invokevirtual 354, 3) := xdc ddX12_doOne_0 25 rfl
theorem dX12_doOne_47 : decode cX12_doOne 47 = .ok (.istore 5, 2) := xdc ddX12_doOne_0 26 rfl
theorem dX12_doOne_49 : decode cX12_doOne 49 = .ok (.aload_n 0, 1) := xdc ddX12_doOne_0 27 rfl
theorem dX12_doOne_50 : decode cX12_doOne 50 = .ok (.getfield 70, 3) := xdc ddX12_doOne_0 28 rfl
theorem dX12_doOne_53 : decode cX12_doOne 53 = .ok (.bipush 7, 2) := xdc ddX12_doOne_0 29 rfl
theorem dX12_doOne_55 : decode cX12_doOne 55 = .ok (.if_icmp .eq 9, 3) := xdc ddX12_doOne_0 30 rfl
theorem dX12_doOne_58 : decode cX12_doOne 58 = .ok (.aload_n 0, 1) := xdc ddX12_doOne_0 31 rfl
theorem dX12_doOne_59 : decode cX12_doOne 59 = .ok (.iload 5, 2) := xdc ddX12_doOne_0 32 rfl
theorem dX12_doOne_61 : decode cX12_doOne 61 = .ok (.invokevirtual 357, 3) := xdc ddX12_doOne_0 33 rfl
theorem dX12_doOne_64 : decode cX12_doOne 64 = .ok (.goto 34, 3) := xdc ddX12_doOne_0 34 rfl
theorem dX12_doOne_67 : decode cX12_doOne 67 = .ok (.aload_n 0, 1) := xdc ddX12_doOne_0 35 rfl
theorem dX12_doOne_68 : decode cX12_doOne 68 = .ok (.getfield 70, 3) := xdc ddX12_doOne_0 36 rfl
theorem dX12_doOne_71 : decode cX12_doOne 71 = .ok (.bipush 21, 2) := xdc ddX12_doOne_0 37 rfl
theorem dX12_doOne_73 : decode cX12_doOne 73 = .ok (.if_icmp .lt 19, 3) := xdc ddX12_doOne_0 38 rfl
theorem dX12_doOne_76 : decode cX12_doOne 76 = .ok (.aload_n 0, 1) := xdc ddX12_doOne_0 39 rfl
theorem ddX12_doOne_1 : xdec cX12_doOne [(77, (.getfield 70, 3)), (80, (.bipush 27, 2)), (82, (.if_icmp .gt 10, 3)), (85, (.aload_n 0, 1)), (86, (.invokevirtual 360, 3)), (89, (.goto 9, 3)), (92, (.aload_n 0, 1)), (93, (.iload_n 1, 1)), (94, (.invokevirtual 363, 3)), (97, (.istore_n 2, 1)), (98, (.aload_n 0, 1)), (99, (.iload_n 2, 1)), (100, (.putfield 40, 3)), (103, (.return_, 1))] = true := by decide +kernel
theorem dX12_doOne_77 : decode cX12_doOne 77 = .ok (.getfield 70, 3) := xdc ddX12_doOne_1 0 rfl
theorem dX12_doOne_80 : decode cX12_doOne 80 = .ok (.bipush 27, 2) := xdc ddX12_doOne_1 1 rfl
theorem dX12_doOne_82 : decode cX12_doOne 82 = .ok (.if_icmp .gt 10, 3) := xdc ddX12_doOne_1 2 rfl
theorem dX12_doOne_85 : decode cX12_doOne 85 = .ok (.aload_n 0, 1) := xdc ddX12_doOne_1 3 rfl
theorem dX12_doOne_86 : decode cX12_doOne 86 = .ok (.invokevirtual 360, 3) := xdc ddX12_doOne_1 4 rfl
theorem dX12_doOne_89 : decode cX12_doOne 89 = .ok (.goto 9, 3) := xdc ddX12_doOne_1 5 rfl
theorem dX12_doOne_92 : decode cX12_doOne 92 = .ok (.aload_n 0, 1) := xdc ddX12_doOne_1 6 rfl
theorem dX12_doOne_93 : decode cX12_doOne 93 = .ok (.iload_n 1, 1) := xdc ddX12_doOne_1 7 rfl
theorem dX12_doOne_94 : decode cX12_doOne 94 = .ok (.invokevirtual 363, 3) := xdc ddX12_doOne_1 8 rfl
theorem dX12_doOne_97 : decode cX12_doOne 97 = .ok (.istore_n 2, 1) := xdc ddX12_doOne_1 9 rfl
theorem dX12_doOne_98 : decode cX12_doOne 98 = .ok (.aload_n 0, 1) := xdc ddX12_doOne_1 10 rfl
theorem dX12_doOne_99 : decode cX12_doOne 99 = .ok (.iload_n 2, 1) := xdc ddX12_doOne_1 11 rfl
theorem dX12_doOne_100 : decode cX12_doOne 100 = .ok (.putfield 40, 3) := xdc ddX12_doOne_1 12 rfl
theorem dX12_doOne_103 : decode cX12_doOne 103 = .ok (.return_, 1) := xdc ddX12_doOne_1 13 rfl
abbrev cX12_serve : ByteArray := prog_14_method_74_code
theorem ddX12_serve_0 : xdec cX12_serve [(0, (.iload_n 1, 1)), (1, (.ifCond .ne 19, 3)), (4, (.aload_n 0, 1)), (5, (.aload_n 0, 1)), (6, (.getfield 44, 3)), (9, (.iconst 3, 1)), (10, (.iaload, 1)), (11, (.putfield 392, 3)), (14, (.aload_n 0, 1)), (15, (.iconst 2, 1)), (16, (.putfield 395, 3)), (19, (.return_, 1)), (20, (.aload_n 0, 1)), (21, (.aload_n 0, 1)), (22, (.getfield 44, 3)), (25, (.iconst 4, 1)), (26, (.iaload, 1)), (27, (.iconst 4, 1)), (28, (.invokevirtual 294, 3)), (31, (.istore_n 2, 1)), (32, (.aload_n 0, 1)), (33, (.getfield 272, 3)), (36, (.ifCond .eq 4, 3)), (39, (.return_, 1)), (40, (.aload_n 0, 1)), (41, (.getfield 44, 3)), (44, (.iconst 3, 1)), (45, (.iaload, 1)), (46, (.i2l, 1)), (47, (.ldc2_w 186, 3)), (50, (.land, 1)), (51, (.lstore_n 3, 1)), (52, (.aload_n 0, 1)), (53, (.getfield 44, 3)), (56, (.iconst 1, 1)), (57, (.iaload, 1)), (58, (.i2l, 1)), (59, (.ldc2_w 186, 3)), (62, (.land, 1)), (63, (.lstore 5, 2))] = true := by decide +kernel
theorem dX12_serve_0 : decode cX12_serve 0 = .ok (.iload_n 1, 1) := xdc ddX12_serve_0 0 rfl
theorem dX12_serve_1 : decode cX12_serve 1 = .ok (.ifCond .ne 19, 3) := xdc ddX12_serve_0 1 rfl
theorem dX12_serve_4 : decode cX12_serve 4 = .ok (.aload_n 0, 1) := xdc ddX12_serve_0 2 rfl
theorem dX12_serve_5 : decode cX12_serve 5 = .ok (.aload_n 0, 1) := xdc ddX12_serve_0 3 rfl
theorem dX12_serve_6 : decode cX12_serve 6 = .ok (.getfield 44, 3) := xdc ddX12_serve_0 4 rfl
theorem dX12_serve_9 : decode cX12_serve 9 = .ok (.iconst 3, 1) := xdc ddX12_serve_0 5 rfl
theorem dX12_serve_10 : decode cX12_serve 10 = .ok (.iaload, 1) := xdc ddX12_serve_0 6 rfl
theorem dX12_serve_11 : decode cX12_serve 11 = .ok (.putfield 392, 3) := xdc ddX12_serve_0 7 rfl
theorem dX12_serve_14 : decode cX12_serve 14 = .ok (.aload_n 0, 1) := xdc ddX12_serve_0 8 rfl
theorem dX12_serve_15 : decode cX12_serve 15 = .ok (.iconst 2, 1) := xdc ddX12_serve_0 9 rfl
theorem dX12_serve_16 : decode cX12_serve 16 = .ok (.putfield 395, 3) := xdc ddX12_serve_0 10 rfl
theorem dX12_serve_19 : decode cX12_serve 19 = .ok (.return_, 1) := xdc ddX12_serve_0 11 rfl
theorem dX12_serve_20 : decode cX12_serve 20 = .ok (.aload_n 0, 1) := xdc ddX12_serve_0 12 rfl
theorem dX12_serve_21 : decode cX12_serve 21 = .ok (.aload_n 0, 1) := xdc ddX12_serve_0 13 rfl
theorem dX12_serve_22 : decode cX12_serve 22 = .ok (.getfield 44, 3) := xdc ddX12_serve_0 14 rfl
theorem dX12_serve_25 : decode cX12_serve 25 = .ok (.iconst 4, 1) := xdc ddX12_serve_0 15 rfl
theorem dX12_serve_26 : decode cX12_serve 26 = .ok (.iaload, 1) := xdc ddX12_serve_0 16 rfl
theorem dX12_serve_27 : decode cX12_serve 27 = .ok (.iconst 4, 1) := xdc ddX12_serve_0 17 rfl
theorem dX12_serve_28 : decode cX12_serve 28 = .ok (.invokevirtual 294, 3) := xdc ddX12_serve_0 18 rfl
theorem dX12_serve_31 : decode cX12_serve 31 = .ok (.istore_n 2, 1) := xdc ddX12_serve_0 19 rfl
theorem dX12_serve_32 : decode cX12_serve 32 = .ok (.aload_n 0, 1) := xdc ddX12_serve_0 20 rfl
theorem dX12_serve_33 : decode cX12_serve 33 = .ok (.getfield 272, 3) := xdc ddX12_serve_0 21 rfl
theorem dX12_serve_36 : decode cX12_serve 36 = .ok (.ifCond .eq 4, 3) := xdc ddX12_serve_0 22 rfl
theorem dX12_serve_39 : decode cX12_serve 39 = .ok (.return_, 1) := xdc ddX12_serve_0 23 rfl
theorem dX12_serve_40 : decode cX12_serve 40 = .ok (.aload_n 0, 1) := xdc ddX12_serve_0 24 rfl
theorem dX12_serve_41 : decode cX12_serve 41 = .ok (.getfield 44, 3) := xdc ddX12_serve_0 25 rfl
theorem dX12_serve_44 : decode cX12_serve 44 = .ok (.iconst 3, 1) := xdc ddX12_serve_0 26 rfl
theorem dX12_serve_45 : decode cX12_serve 45 = .ok (.iaload, 1) := xdc ddX12_serve_0 27 rfl
theorem dX12_serve_46 : decode cX12_serve 46 = .ok (.i2l, 1) := xdc ddX12_serve_0 28 rfl
theorem dX12_serve_47 : decode cX12_serve 47 = .ok (.ldc2_w 186, 3) := xdc ddX12_serve_0 29 rfl
theorem dX12_serve_50 : decode cX12_serve 50 = .ok (.land, 1) := xdc ddX12_serve_0 30 rfl
theorem dX12_serve_51 : decode cX12_serve 51 = .ok (.lstore_n 3, 1) := xdc ddX12_serve_0 31 rfl
theorem dX12_serve_52 : decode cX12_serve 52 = .ok (.aload_n 0, 1) := xdc ddX12_serve_0 32 rfl
theorem dX12_serve_53 : decode cX12_serve 53 = .ok (.getfield 44, 3) := xdc ddX12_serve_0 33 rfl
theorem dX12_serve_56 : decode cX12_serve 56 = .ok (.iconst 1, 1) := xdc ddX12_serve_0 34 rfl
theorem dX12_serve_57 : decode cX12_serve 57 = .ok (.iaload, 1) := xdc ddX12_serve_0 35 rfl
theorem dX12_serve_58 : decode cX12_serve 58 = .ok (.i2l, 1) := xdc ddX12_serve_0 36 rfl
theorem dX12_serve_59 : decode cX12_serve 59 = .ok (.ldc2_w 186, 3) := xdc ddX12_serve_0 37 rfl
theorem dX12_serve_62 : decode cX12_serve 62 = .ok (.land, 1) := xdc ddX12_serve_0 38 rfl
theorem dX12_serve_63 : decode cX12_serve 63 = .ok (.lstore 5, 2) := xdc ddX12_serve_0 39 rfl
theorem ddX12_serve_1 : xdec cX12_serve [(65, (.lload 5, 2)), (67, (.lconst 0, 1)), (68, (.lcmp, 1)), (69, (.ifCond .eq 22, 3)), (72, (.lload_n 3, 1)), (73, (.ldc2_w 188, 3)), (76, (.lcmp, 1)), (77, (.ifCond .lt 18, 3)), (80, (.lload_n 3, 1)), (81, (.lload 5, 2)), (83, (.ladd, 1)), (84, (.ldc2_w 190, 3)), (87, (.lcmp, 1)), (88, (.ifCond .gt 7, 3)), (91, (.iconst 1, 1)), (92, (.goto 4, 3)), (95, (.iconst 0, 1)), (96, (.istore 7, 2)), (98, (.bipush (-38), 2)), (100, (.istore 8, 2)), (102, (.iload_n 1, 1)), (103, (.tableswitch 360 1 7 #[41, 116, 202, 212, 254, 286, 348], 41)), (144, (.iload 7, 2)), (146, (.ifCond .eq 7, 3)), (149, (.iconst 0, 1)), (150, (.goto 5, 3)), (153, (.bipush (-14), 2)), (155, (.istore 8, 2)), (157, (.iload 7, 2)), (159, (.ifCond .eq 304, 3)), (162, (.iload 8, 2)), (164, (.i2l, 1)), (165, (.lload 5, 2)), (167, (.lcmp, 1)), (168, (.ifCond .ge 295, 3)), (171, (.aload_n 0, 1)), (172, (.getfield 398, 3)), (175, (.sipush 1024, 3)), (178, (.if_icmp .ge 285, 3)), (181, (.aload_n 0, 1))] = true := by decide +kernel
theorem dX12_serve_65 : decode cX12_serve 65 = .ok (.lload 5, 2) := xdc ddX12_serve_1 0 rfl
theorem dX12_serve_67 : decode cX12_serve 67 = .ok (.lconst 0, 1) := xdc ddX12_serve_1 1 rfl
theorem dX12_serve_68 : decode cX12_serve 68 = .ok (.lcmp, 1) := xdc ddX12_serve_1 2 rfl
theorem dX12_serve_69 : decode cX12_serve 69 = .ok (.ifCond .eq 22, 3) := xdc ddX12_serve_1 3 rfl
theorem dX12_serve_72 : decode cX12_serve 72 = .ok (.lload_n 3, 1) := xdc ddX12_serve_1 4 rfl
theorem dX12_serve_73 : decode cX12_serve 73 = .ok (.ldc2_w 188, 3) := xdc ddX12_serve_1 5 rfl
theorem dX12_serve_76 : decode cX12_serve 76 = .ok (.lcmp, 1) := xdc ddX12_serve_1 6 rfl
theorem dX12_serve_77 : decode cX12_serve 77 = .ok (.ifCond .lt 18, 3) := xdc ddX12_serve_1 7 rfl
theorem dX12_serve_80 : decode cX12_serve 80 = .ok (.lload_n 3, 1) := xdc ddX12_serve_1 8 rfl
theorem dX12_serve_81 : decode cX12_serve 81 = .ok (.lload 5, 2) := xdc ddX12_serve_1 9 rfl
theorem dX12_serve_83 : decode cX12_serve 83 = .ok (.ladd, 1) := xdc ddX12_serve_1 10 rfl
theorem dX12_serve_84 : decode cX12_serve 84 = .ok (.ldc2_w 190, 3) := xdc ddX12_serve_1 11 rfl
theorem dX12_serve_87 : decode cX12_serve 87 = .ok (.lcmp, 1) := xdc ddX12_serve_1 12 rfl
theorem dX12_serve_88 : decode cX12_serve 88 = .ok (.ifCond .gt 7, 3) := xdc ddX12_serve_1 13 rfl
theorem dX12_serve_91 : decode cX12_serve 91 = .ok (.iconst 1, 1) := xdc ddX12_serve_1 14 rfl
theorem dX12_serve_92 : decode cX12_serve 92 = .ok (.goto 4, 3) := xdc ddX12_serve_1 15 rfl
theorem dX12_serve_95 : decode cX12_serve 95 = .ok (.iconst 0, 1) := xdc ddX12_serve_1 16 rfl
theorem dX12_serve_96 : decode cX12_serve 96 = .ok (.istore 7, 2) := xdc ddX12_serve_1 17 rfl
theorem dX12_serve_98 : decode cX12_serve 98 = .ok (.bipush (-38), 2) := xdc ddX12_serve_1 18 rfl
theorem dX12_serve_100 : decode cX12_serve 100 = .ok (.istore 8, 2) := xdc ddX12_serve_1 19 rfl
theorem dX12_serve_102 : decode cX12_serve 102 = .ok (.iload_n 1, 1) := xdc ddX12_serve_1 20 rfl
theorem dX12_serve_103 : decode cX12_serve 103 = .ok (.tableswitch 360 1 7 #[41, 116, 202, 212, 254, 286, 348], 41) := xdc ddX12_serve_1 21 rfl
theorem dX12_serve_144 : decode cX12_serve 144 = .ok (.iload 7, 2) := xdc ddX12_serve_1 22 rfl
theorem dX12_serve_146 : decode cX12_serve 146 = .ok (.ifCond .eq 7, 3) := xdc ddX12_serve_1 23 rfl
theorem dX12_serve_149 : decode cX12_serve 149 = .ok (.iconst 0, 1) := xdc ddX12_serve_1 24 rfl
theorem dX12_serve_150 : decode cX12_serve 150 = .ok (.goto 5, 3) := xdc ddX12_serve_1 25 rfl
theorem dX12_serve_153 : decode cX12_serve 153 = .ok (.bipush (-14), 2) := xdc ddX12_serve_1 26 rfl
theorem dX12_serve_155 : decode cX12_serve 155 = .ok (.istore 8, 2) := xdc ddX12_serve_1 27 rfl
theorem dX12_serve_157 : decode cX12_serve 157 = .ok (.iload 7, 2) := xdc ddX12_serve_1 28 rfl
theorem dX12_serve_159 : decode cX12_serve 159 = .ok (.ifCond .eq 304, 3) := xdc ddX12_serve_1 29 rfl
theorem dX12_serve_162 : decode cX12_serve 162 = .ok (.iload 8, 2) := xdc ddX12_serve_1 30 rfl
theorem dX12_serve_164 : decode cX12_serve 164 = .ok (.i2l, 1) := xdc ddX12_serve_1 31 rfl
theorem dX12_serve_165 : decode cX12_serve 165 = .ok (.lload 5, 2) := xdc ddX12_serve_1 32 rfl
theorem dX12_serve_167 : decode cX12_serve 167 = .ok (.lcmp, 1) := xdc ddX12_serve_1 33 rfl
theorem dX12_serve_168 : decode cX12_serve 168 = .ok (.ifCond .ge 295, 3) := xdc ddX12_serve_1 34 rfl
theorem dX12_serve_171 : decode cX12_serve 171 = .ok (.aload_n 0, 1) := xdc ddX12_serve_1 35 rfl
theorem dX12_serve_172 : decode cX12_serve 172 = .ok (.getfield 398, 3) := xdc ddX12_serve_1 36 rfl
theorem dX12_serve_175 : decode cX12_serve 175 = .ok (.sipush 1024, 3) := xdc ddX12_serve_1 37 rfl
theorem dX12_serve_178 : decode cX12_serve 178 = .ok (.if_icmp .ge 285, 3) := xdc ddX12_serve_1 38 rfl
theorem dX12_serve_181 : decode cX12_serve 181 = .ok (.aload_n 0, 1) := xdc ddX12_serve_1 39 rfl
theorem ddX12_serve_2 : xdec cX12_serve [(182, (.getfield 20, 3)), (185, (.aload_n 0, 1)), (186, (.getfield 398, 3)), (189, (.aload_n 0, 1)), (190, (.getfield 14, 3)), (193, (.lload_n 3, 1)), (194, (.l2i, 1)), (195, (.ldc 13, 2)), (197, (.isub, 1)), (198, (.iload 8, 2)), (200, (.iadd, 1)), (201, (.iaload, 1)), (202, (.iastore, 1)), (203, (.aload_n 0, 1)), (204, (.dup, 1)), (205, (.getfield 398, 3)), (208, (.iconst 1, 1)), (209, (.iadd, 1)), (210, (.putfield 398, 3)), (213, (.iinc 8 1, 3)), (216, (.goto (-59), 3)), (219, (.iload 7, 2)), (221, (.ifCond .eq 7, 3)), (224, (.iconst 0, 1)), (225, (.goto 5, 3)), (228, (.bipush (-14), 2)), (230, (.istore 8, 2)), (232, (.iload 7, 2)), (234, (.ifCond .eq 229, 3)), (237, (.iload 8, 2)), (239, (.i2l, 1)), (240, (.lload 5, 2)), (242, (.lcmp, 1)), (243, (.ifCond .ge 220, 3)), (246, (.aload_n 0, 1)), (247, (.getfield 401, 3)), (250, (.ifCond .le 213, 3)), (253, (.aload_n 0, 1)), (254, (.getfield 14, 3)), (257, (.lload_n 3, 1))] = true := by decide +kernel
theorem dX12_serve_182 : decode cX12_serve 182 = .ok (.getfield 20, 3) := xdc ddX12_serve_2 0 rfl
theorem dX12_serve_185 : decode cX12_serve 185 = .ok (.aload_n 0, 1) := xdc ddX12_serve_2 1 rfl
theorem dX12_serve_186 : decode cX12_serve 186 = .ok (.getfield 398, 3) := xdc ddX12_serve_2 2 rfl
theorem dX12_serve_189 : decode cX12_serve 189 = .ok (.aload_n 0, 1) := xdc ddX12_serve_2 3 rfl
theorem dX12_serve_190 : decode cX12_serve 190 = .ok (.getfield 14, 3) := xdc ddX12_serve_2 4 rfl
theorem dX12_serve_193 : decode cX12_serve 193 = .ok (.lload_n 3, 1) := xdc ddX12_serve_2 5 rfl
theorem dX12_serve_194 : decode cX12_serve 194 = .ok (.l2i, 1) := xdc ddX12_serve_2 6 rfl
theorem dX12_serve_195 : decode cX12_serve 195 = .ok (.ldc 13, 2) := xdc ddX12_serve_2 7 rfl
theorem dX12_serve_197 : decode cX12_serve 197 = .ok (.isub, 1) := xdc ddX12_serve_2 8 rfl
theorem dX12_serve_198 : decode cX12_serve 198 = .ok (.iload 8, 2) := xdc ddX12_serve_2 9 rfl
theorem dX12_serve_200 : decode cX12_serve 200 = .ok (.iadd, 1) := xdc ddX12_serve_2 10 rfl
theorem dX12_serve_201 : decode cX12_serve 201 = .ok (.iaload, 1) := xdc ddX12_serve_2 11 rfl
theorem dX12_serve_202 : decode cX12_serve 202 = .ok (.iastore, 1) := xdc ddX12_serve_2 12 rfl
theorem dX12_serve_203 : decode cX12_serve 203 = .ok (.aload_n 0, 1) := xdc ddX12_serve_2 13 rfl
theorem dX12_serve_204 : decode cX12_serve 204 = .ok (.dup, 1) := xdc ddX12_serve_2 14 rfl
theorem dX12_serve_205 : decode cX12_serve 205 = .ok (.getfield 398, 3) := xdc ddX12_serve_2 15 rfl
theorem dX12_serve_208 : decode cX12_serve 208 = .ok (.iconst 1, 1) := xdc ddX12_serve_2 16 rfl
theorem dX12_serve_209 : decode cX12_serve 209 = .ok (.iadd, 1) := xdc ddX12_serve_2 17 rfl
theorem dX12_serve_210 : decode cX12_serve 210 = .ok (.putfield 398, 3) := xdc ddX12_serve_2 18 rfl
theorem dX12_serve_213 : decode cX12_serve 213 = .ok (.iinc 8 1, 3) := xdc ddX12_serve_2 19 rfl
theorem dX12_serve_216 : decode cX12_serve 216 = .ok (.goto (-59), 3) := xdc ddX12_serve_2 20 rfl
theorem dX12_serve_219 : decode cX12_serve 219 = .ok (.iload 7, 2) := xdc ddX12_serve_2 21 rfl
theorem dX12_serve_221 : decode cX12_serve 221 = .ok (.ifCond .eq 7, 3) := xdc ddX12_serve_2 22 rfl
theorem dX12_serve_224 : decode cX12_serve 224 = .ok (.iconst 0, 1) := xdc ddX12_serve_2 23 rfl
theorem dX12_serve_225 : decode cX12_serve 225 = .ok (.goto 5, 3) := xdc ddX12_serve_2 24 rfl
theorem dX12_serve_228 : decode cX12_serve 228 = .ok (.bipush (-14), 2) := xdc ddX12_serve_2 25 rfl
theorem dX12_serve_230 : decode cX12_serve 230 = .ok (.istore 8, 2) := xdc ddX12_serve_2 26 rfl
theorem dX12_serve_232 : decode cX12_serve 232 = .ok (.iload 7, 2) := xdc ddX12_serve_2 27 rfl
theorem dX12_serve_234 : decode cX12_serve 234 = .ok (.ifCond .eq 229, 3) := xdc ddX12_serve_2 28 rfl
theorem dX12_serve_237 : decode cX12_serve 237 = .ok (.iload 8, 2) := xdc ddX12_serve_2 29 rfl
theorem dX12_serve_239 : decode cX12_serve 239 = .ok (.i2l, 1) := xdc ddX12_serve_2 30 rfl
theorem dX12_serve_240 : decode cX12_serve 240 = .ok (.lload 5, 2) := xdc ddX12_serve_2 31 rfl
theorem dX12_serve_242 : decode cX12_serve 242 = .ok (.lcmp, 1) := xdc ddX12_serve_2 32 rfl
theorem dX12_serve_243 : decode cX12_serve 243 = .ok (.ifCond .ge 220, 3) := xdc ddX12_serve_2 33 rfl
theorem dX12_serve_246 : decode cX12_serve 246 = .ok (.aload_n 0, 1) := xdc ddX12_serve_2 34 rfl
theorem dX12_serve_247 : decode cX12_serve 247 = .ok (.getfield 401, 3) := xdc ddX12_serve_2 35 rfl
theorem dX12_serve_250 : decode cX12_serve 250 = .ok (.ifCond .le 213, 3) := xdc ddX12_serve_2 36 rfl
theorem dX12_serve_253 : decode cX12_serve 253 = .ok (.aload_n 0, 1) := xdc ddX12_serve_2 37 rfl
theorem dX12_serve_254 : decode cX12_serve 254 = .ok (.getfield 14, 3) := xdc ddX12_serve_2 38 rfl
theorem dX12_serve_257 : decode cX12_serve 257 = .ok (.lload_n 3, 1) := xdc ddX12_serve_2 39 rfl
theorem ddX12_serve_3 : xdec cX12_serve [(258, (.l2i, 1)), (259, (.ldc 13, 2)), (261, (.isub, 1)), (262, (.iload 8, 2)), (264, (.iadd, 1)), (265, (.aload_n 0, 1)), (266, (.getfield 17, 3)), (269, (.aload_n 0, 1)), (270, (.getfield 404, 3)), (273, (.iaload, 1)), (274, (.iastore, 1)), (275, (.aload_n 0, 1)), (276, (.aload_n 0, 1)), (277, (.getfield 404, 3)), (280, (.iconst 1, 1)), (281, (.iadd, 1)), (282, (.sipush 256, 3)), (285, (.irem, 1)), (286, (.putfield 404, 3)), (289, (.aload_n 0, 1)), (290, (.dup, 1)), (291, (.getfield 401, 3)), (294, (.iconst 1, 1)), (295, (.isub, 1)), (296, (.putfield 401, 3)), (299, (.iinc 8 1, 3)), (302, (.goto (-70), 3)), (305, (.aload_n 0, 1)), (306, (.getfield 407, 3)), (309, (.l2i, 1)), (310, (.istore 8, 2)), (312, (.goto 151, 3)), (315, (.aload_n 0, 1)), (316, (.lload_n 3, 1)), (317, (.ldc2_w 188, 3)), (320, (.lcmp, 1)), (321, (.ifCond .lt 20, 3)), (324, (.lload_n 3, 1)), (325, (.ldc2_w 190, 3)), (328, (.lcmp, 1))] = true := by decide +kernel
theorem dX12_serve_258 : decode cX12_serve 258 = .ok (.l2i, 1) := xdc ddX12_serve_3 0 rfl
theorem dX12_serve_259 : decode cX12_serve 259 = .ok (.ldc 13, 2) := xdc ddX12_serve_3 1 rfl
theorem dX12_serve_261 : decode cX12_serve 261 = .ok (.isub, 1) := xdc ddX12_serve_3 2 rfl
theorem dX12_serve_262 : decode cX12_serve 262 = .ok (.iload 8, 2) := xdc ddX12_serve_3 3 rfl
theorem dX12_serve_264 : decode cX12_serve 264 = .ok (.iadd, 1) := xdc ddX12_serve_3 4 rfl
theorem dX12_serve_265 : decode cX12_serve 265 = .ok (.aload_n 0, 1) := xdc ddX12_serve_3 5 rfl
theorem dX12_serve_266 : decode cX12_serve 266 = .ok (.getfield 17, 3) := xdc ddX12_serve_3 6 rfl
theorem dX12_serve_269 : decode cX12_serve 269 = .ok (.aload_n 0, 1) := xdc ddX12_serve_3 7 rfl
theorem dX12_serve_270 : decode cX12_serve 270 = .ok (.getfield 404, 3) := xdc ddX12_serve_3 8 rfl
theorem dX12_serve_273 : decode cX12_serve 273 = .ok (.iaload, 1) := xdc ddX12_serve_3 9 rfl
theorem dX12_serve_274 : decode cX12_serve 274 = .ok (.iastore, 1) := xdc ddX12_serve_3 10 rfl
theorem dX12_serve_275 : decode cX12_serve 275 = .ok (.aload_n 0, 1) := xdc ddX12_serve_3 11 rfl
theorem dX12_serve_276 : decode cX12_serve 276 = .ok (.aload_n 0, 1) := xdc ddX12_serve_3 12 rfl
theorem dX12_serve_277 : decode cX12_serve 277 = .ok (.getfield 404, 3) := xdc ddX12_serve_3 13 rfl
theorem dX12_serve_280 : decode cX12_serve 280 = .ok (.iconst 1, 1) := xdc ddX12_serve_3 14 rfl
theorem dX12_serve_281 : decode cX12_serve 281 = .ok (.iadd, 1) := xdc ddX12_serve_3 15 rfl
theorem dX12_serve_282 : decode cX12_serve 282 = .ok (.sipush 256, 3) := xdc ddX12_serve_3 16 rfl
theorem dX12_serve_285 : decode cX12_serve 285 = .ok (.irem, 1) := xdc ddX12_serve_3 17 rfl
theorem dX12_serve_286 : decode cX12_serve 286 = .ok (.putfield 404, 3) := xdc ddX12_serve_3 18 rfl
theorem dX12_serve_289 : decode cX12_serve 289 = .ok (.aload_n 0, 1) := xdc ddX12_serve_3 19 rfl
theorem dX12_serve_290 : decode cX12_serve 290 = .ok (.dup, 1) := xdc ddX12_serve_3 20 rfl
theorem dX12_serve_291 : decode cX12_serve 291 = .ok (.getfield 401, 3) := xdc ddX12_serve_3 21 rfl
theorem dX12_serve_294 : decode cX12_serve 294 = .ok (.iconst 1, 1) := xdc ddX12_serve_3 22 rfl
theorem dX12_serve_295 : decode cX12_serve 295 = .ok (.isub, 1) := xdc ddX12_serve_3 23 rfl
theorem dX12_serve_296 : decode cX12_serve 296 = .ok (.putfield 401, 3) := xdc ddX12_serve_3 24 rfl
theorem dX12_serve_299 : decode cX12_serve 299 = .ok (.iinc 8 1, 3) := xdc ddX12_serve_3 25 rfl
theorem dX12_serve_302 : decode cX12_serve 302 = .ok (.goto (-70), 3) := xdc ddX12_serve_3 26 rfl
theorem dX12_serve_305 : decode cX12_serve 305 = .ok (.aload_n 0, 1) := xdc ddX12_serve_3 27 rfl
theorem dX12_serve_306 : decode cX12_serve 306 = .ok (.getfield 407, 3) := xdc ddX12_serve_3 28 rfl
theorem dX12_serve_309 : decode cX12_serve 309 = .ok (.l2i, 1) := xdc ddX12_serve_3 29 rfl
theorem dX12_serve_310 : decode cX12_serve 310 = .ok (.istore 8, 2) := xdc ddX12_serve_3 30 rfl
theorem dX12_serve_312 : decode cX12_serve 312 = .ok (.goto 151, 3) := xdc ddX12_serve_3 31 rfl
theorem dX12_serve_315 : decode cX12_serve 315 = .ok (.aload_n 0, 1) := xdc ddX12_serve_3 32 rfl
theorem dX12_serve_316 : decode cX12_serve 316 = .ok (.lload_n 3, 1) := xdc ddX12_serve_3 33 rfl
theorem dX12_serve_317 : decode cX12_serve 317 = .ok (.ldc2_w 188, 3) := xdc ddX12_serve_3 34 rfl
theorem dX12_serve_320 : decode cX12_serve 320 = .ok (.lcmp, 1) := xdc ddX12_serve_3 35 rfl
theorem dX12_serve_321 : decode cX12_serve 321 = .ok (.ifCond .lt 20, 3) := xdc ddX12_serve_3 36 rfl
theorem dX12_serve_324 : decode cX12_serve 324 = .ok (.lload_n 3, 1) := xdc ddX12_serve_3 37 rfl
theorem dX12_serve_325 : decode cX12_serve 325 = .ok (.ldc2_w 190, 3) := xdc ddX12_serve_3 38 rfl
theorem dX12_serve_328 : decode cX12_serve 328 = .ok (.lcmp, 1) := xdc ddX12_serve_3 39 rfl
theorem ddX12_serve_4 : xdec cX12_serve [(329, (.ifCond .ge 12, 3)), (332, (.aload_n 0, 1)), (333, (.getfield 44, 3)), (336, (.iconst 3, 1)), (337, (.iaload, 1)), (338, (.goto 7, 3)), (341, (.aload_n 0, 1)), (342, (.getfield 47, 3)), (345, (.putfield 47, 3)), (348, (.aload_n 0, 1)), (349, (.getfield 47, 3)), (352, (.istore 8, 2)), (354, (.goto 109, 3)), (357, (.aload_n 0, 1)), (358, (.aload_n 0, 1)), (359, (.getfield 411, 3)), (362, (.ldc_w 414, 3)), (365, (.imul, 1)), (366, (.sipush 12345, 3)), (369, (.iadd, 1)), (370, (.putfield 411, 3)), (373, (.aload_n 0, 1)), (374, (.getfield 411, 3)), (377, (.bipush 16, 2)), (379, (.iushr, 1)), (380, (.sipush 32767, 3)), (383, (.iand, 1)), (384, (.istore 8, 2)), (386, (.goto 77, 3)), (389, (.iload 7, 2)), (391, (.ifCond .eq 7, 3)), (394, (.iconst 0, 1)), (395, (.goto 5, 3)), (398, (.bipush (-14), 2)), (400, (.istore 8, 2)), (402, (.lconst 0, 1)), (403, (.lstore 9, 2)), (405, (.iload 7, 2)), (407, (.ifCond .eq 41, 3)), (410, (.lload 9, 2))] = true := by decide +kernel
theorem dX12_serve_329 : decode cX12_serve 329 = .ok (.ifCond .ge 12, 3) := xdc ddX12_serve_4 0 rfl
theorem dX12_serve_332 : decode cX12_serve 332 = .ok (.aload_n 0, 1) := xdc ddX12_serve_4 1 rfl
theorem dX12_serve_333 : decode cX12_serve 333 = .ok (.getfield 44, 3) := xdc ddX12_serve_4 2 rfl
theorem dX12_serve_336 : decode cX12_serve 336 = .ok (.iconst 3, 1) := xdc ddX12_serve_4 3 rfl
theorem dX12_serve_337 : decode cX12_serve 337 = .ok (.iaload, 1) := xdc ddX12_serve_4 4 rfl
theorem dX12_serve_338 : decode cX12_serve 338 = .ok (.goto 7, 3) := xdc ddX12_serve_4 5 rfl
theorem dX12_serve_341 : decode cX12_serve 341 = .ok (.aload_n 0, 1) := xdc ddX12_serve_4 6 rfl
theorem dX12_serve_342 : decode cX12_serve 342 = .ok (.getfield 47, 3) := xdc ddX12_serve_4 7 rfl
theorem dX12_serve_345 : decode cX12_serve 345 = .ok (.putfield 47, 3) := xdc ddX12_serve_4 8 rfl
theorem dX12_serve_348 : decode cX12_serve 348 = .ok (.aload_n 0, 1) := xdc ddX12_serve_4 9 rfl
theorem dX12_serve_349 : decode cX12_serve 349 = .ok (.getfield 47, 3) := xdc ddX12_serve_4 10 rfl
theorem dX12_serve_352 : decode cX12_serve 352 = .ok (.istore 8, 2) := xdc ddX12_serve_4 11 rfl
theorem dX12_serve_354 : decode cX12_serve 354 = .ok (.goto 109, 3) := xdc ddX12_serve_4 12 rfl
theorem dX12_serve_357 : decode cX12_serve 357 = .ok (.aload_n 0, 1) := xdc ddX12_serve_4 13 rfl
theorem dX12_serve_358 : decode cX12_serve 358 = .ok (.aload_n 0, 1) := xdc ddX12_serve_4 14 rfl
theorem dX12_serve_359 : decode cX12_serve 359 = .ok (.getfield 411, 3) := xdc ddX12_serve_4 15 rfl
theorem dX12_serve_362 : decode cX12_serve 362 = .ok (.ldc_w 414, 3) := xdc ddX12_serve_4 16 rfl
theorem dX12_serve_365 : decode cX12_serve 365 = .ok (.imul, 1) := xdc ddX12_serve_4 17 rfl
theorem dX12_serve_366 : decode cX12_serve 366 = .ok (.sipush 12345, 3) := xdc ddX12_serve_4 18 rfl
theorem dX12_serve_369 : decode cX12_serve 369 = .ok (.iadd, 1) := xdc ddX12_serve_4 19 rfl
theorem dX12_serve_370 : decode cX12_serve 370 = .ok (.putfield 411, 3) := xdc ddX12_serve_4 20 rfl
theorem dX12_serve_373 : decode cX12_serve 373 = .ok (.aload_n 0, 1) := xdc ddX12_serve_4 21 rfl
theorem dX12_serve_374 : decode cX12_serve 374 = .ok (.getfield 411, 3) := xdc ddX12_serve_4 22 rfl
theorem dX12_serve_377 : decode cX12_serve 377 = .ok (.bipush 16, 2) := xdc ddX12_serve_4 23 rfl
theorem dX12_serve_379 : decode cX12_serve 379 = .ok (.iushr, 1) := xdc ddX12_serve_4 24 rfl
theorem dX12_serve_380 : decode cX12_serve 380 = .ok (.sipush 32767, 3) := xdc ddX12_serve_4 25 rfl
theorem dX12_serve_383 : decode cX12_serve 383 = .ok (.iand, 1) := xdc ddX12_serve_4 26 rfl
theorem dX12_serve_384 : decode cX12_serve 384 = .ok (.istore 8, 2) := xdc ddX12_serve_4 27 rfl
theorem dX12_serve_386 : decode cX12_serve 386 = .ok (.goto 77, 3) := xdc ddX12_serve_4 28 rfl
theorem dX12_serve_389 : decode cX12_serve 389 = .ok (.iload 7, 2) := xdc ddX12_serve_4 29 rfl
theorem dX12_serve_391 : decode cX12_serve 391 = .ok (.ifCond .eq 7, 3) := xdc ddX12_serve_4 30 rfl
theorem dX12_serve_394 : decode cX12_serve 394 = .ok (.iconst 0, 1) := xdc ddX12_serve_4 31 rfl
theorem dX12_serve_395 : decode cX12_serve 395 = .ok (.goto 5, 3) := xdc ddX12_serve_4 32 rfl
theorem dX12_serve_398 : decode cX12_serve 398 = .ok (.bipush (-14), 2) := xdc ddX12_serve_4 33 rfl
theorem dX12_serve_400 : decode cX12_serve 400 = .ok (.istore 8, 2) := xdc ddX12_serve_4 34 rfl
theorem dX12_serve_402 : decode cX12_serve 402 = .ok (.lconst 0, 1) := xdc ddX12_serve_4 35 rfl
theorem dX12_serve_403 : decode cX12_serve 403 = .ok (.lstore 9, 2) := xdc ddX12_serve_4 36 rfl
theorem dX12_serve_405 : decode cX12_serve 405 = .ok (.iload 7, 2) := xdc ddX12_serve_4 37 rfl
theorem dX12_serve_407 : decode cX12_serve 407 = .ok (.ifCond .eq 41, 3) := xdc ddX12_serve_4 38 rfl
theorem dX12_serve_410 : decode cX12_serve 410 = .ok (.lload 9, 2) := xdc ddX12_serve_4 39 rfl
theorem ddX12_serve_5 : xdec cX12_serve [(412, (.lload 5, 2)), (414, (.lcmp, 1)), (415, (.ifCond .ge 33, 3)), (418, (.bipush 31, 2)), (420, (.iload 8, 2)), (422, (.imul, 1)), (423, (.aload_n 0, 1)), (424, (.getfield 14, 3)), (427, (.lload_n 3, 1)), (428, (.lload 9, 2)), (430, (.ladd, 1)), (431, (.l2i, 1)), (432, (.ldc 13, 2)), (434, (.isub, 1)), (435, (.iaload, 1)), (436, (.iadd, 1)), (437, (.istore 8, 2)), (439, (.lload 9, 2)), (441, (.lconst 1, 1)), (442, (.ladd, 1)), (443, (.lstore 9, 2)), (445, (.goto (-40), 3)), (448, (.goto 15, 3)), (451, (.iconst 0, 1)), (452, (.istore 8, 2)), (454, (.aload_n 0, 1)), (455, (.bipush 7, 2)), (457, (.putfield 395, 3)), (460, (.goto 3, 3)), (463, (.aload_n 0, 1)), (464, (.iload_n 2, 1)), (465, (.bipush (-32), 2)), (467, (.iand, 1)), (468, (.putfield 40, 3)), (471, (.aload_n 0, 1)), (472, (.getfield 44, 3)), (475, (.iconst 4, 1)), (476, (.dup2, 1)), (477, (.iaload, 1)), (478, (.iconst 4, 1))] = true := by decide +kernel
theorem dX12_serve_412 : decode cX12_serve 412 = .ok (.lload 5, 2) := xdc ddX12_serve_5 0 rfl
theorem dX12_serve_414 : decode cX12_serve 414 = .ok (.lcmp, 1) := xdc ddX12_serve_5 1 rfl
theorem dX12_serve_415 : decode cX12_serve 415 = .ok (.ifCond .ge 33, 3) := xdc ddX12_serve_5 2 rfl
theorem dX12_serve_418 : decode cX12_serve 418 = .ok (.bipush 31, 2) := xdc ddX12_serve_5 3 rfl
theorem dX12_serve_420 : decode cX12_serve 420 = .ok (.iload 8, 2) := xdc ddX12_serve_5 4 rfl
theorem dX12_serve_422 : decode cX12_serve 422 = .ok (.imul, 1) := xdc ddX12_serve_5 5 rfl
theorem dX12_serve_423 : decode cX12_serve 423 = .ok (.aload_n 0, 1) := xdc ddX12_serve_5 6 rfl
theorem dX12_serve_424 : decode cX12_serve 424 = .ok (.getfield 14, 3) := xdc ddX12_serve_5 7 rfl
theorem dX12_serve_427 : decode cX12_serve 427 = .ok (.lload_n 3, 1) := xdc ddX12_serve_5 8 rfl
theorem dX12_serve_428 : decode cX12_serve 428 = .ok (.lload 9, 2) := xdc ddX12_serve_5 9 rfl
theorem dX12_serve_430 : decode cX12_serve 430 = .ok (.ladd, 1) := xdc ddX12_serve_5 10 rfl
theorem dX12_serve_431 : decode cX12_serve 431 = .ok (.l2i, 1) := xdc ddX12_serve_5 11 rfl
theorem dX12_serve_432 : decode cX12_serve 432 = .ok (.ldc 13, 2) := xdc ddX12_serve_5 12 rfl
theorem dX12_serve_434 : decode cX12_serve 434 = .ok (.isub, 1) := xdc ddX12_serve_5 13 rfl
theorem dX12_serve_435 : decode cX12_serve 435 = .ok (.iaload, 1) := xdc ddX12_serve_5 14 rfl
theorem dX12_serve_436 : decode cX12_serve 436 = .ok (.iadd, 1) := xdc ddX12_serve_5 15 rfl
theorem dX12_serve_437 : decode cX12_serve 437 = .ok (.istore 8, 2) := xdc ddX12_serve_5 16 rfl
theorem dX12_serve_439 : decode cX12_serve 439 = .ok (.lload 9, 2) := xdc ddX12_serve_5 17 rfl
theorem dX12_serve_441 : decode cX12_serve 441 = .ok (.lconst 1, 1) := xdc ddX12_serve_5 18 rfl
theorem dX12_serve_442 : decode cX12_serve 442 = .ok (.ladd, 1) := xdc ddX12_serve_5 19 rfl
theorem dX12_serve_443 : decode cX12_serve 443 = .ok (.lstore 9, 2) := xdc ddX12_serve_5 20 rfl
theorem dX12_serve_445 : decode cX12_serve 445 = .ok (.goto (-40), 3) := xdc ddX12_serve_5 21 rfl
theorem dX12_serve_448 : decode cX12_serve 448 = .ok (.goto 15, 3) := xdc ddX12_serve_5 22 rfl
theorem dX12_serve_451 : decode cX12_serve 451 = .ok (.iconst 0, 1) := xdc ddX12_serve_5 23 rfl
theorem dX12_serve_452 : decode cX12_serve 452 = .ok (.istore 8, 2) := xdc ddX12_serve_5 24 rfl
theorem dX12_serve_454 : decode cX12_serve 454 = .ok (.aload_n 0, 1) := xdc ddX12_serve_5 25 rfl
theorem dX12_serve_455 : decode cX12_serve 455 = .ok (.bipush 7, 2) := xdc ddX12_serve_5 26 rfl
theorem dX12_serve_457 : decode cX12_serve 457 = .ok (.putfield 395, 3) := xdc ddX12_serve_5 27 rfl
theorem dX12_serve_460 : decode cX12_serve 460 = .ok (.goto 3, 3) := xdc ddX12_serve_5 28 rfl
theorem dX12_serve_463 : decode cX12_serve 463 = .ok (.aload_n 0, 1) := xdc ddX12_serve_5 29 rfl
theorem dX12_serve_464 : decode cX12_serve 464 = .ok (.iload_n 2, 1) := xdc ddX12_serve_5 30 rfl
theorem dX12_serve_465 : decode cX12_serve 465 = .ok (.bipush (-32), 2) := xdc ddX12_serve_5 31 rfl
theorem dX12_serve_467 : decode cX12_serve 467 = .ok (.iand, 1) := xdc ddX12_serve_5 32 rfl
theorem dX12_serve_468 : decode cX12_serve 468 = .ok (.putfield 40, 3) := xdc ddX12_serve_5 33 rfl
theorem dX12_serve_471 : decode cX12_serve 471 = .ok (.aload_n 0, 1) := xdc ddX12_serve_5 34 rfl
theorem dX12_serve_472 : decode cX12_serve 472 = .ok (.getfield 44, 3) := xdc ddX12_serve_5 35 rfl
theorem dX12_serve_475 : decode cX12_serve 475 = .ok (.iconst 4, 1) := xdc ddX12_serve_5 36 rfl
theorem dX12_serve_476 : decode cX12_serve 476 = .ok (.dup2, 1) := xdc ddX12_serve_5 37 rfl
theorem dX12_serve_477 : decode cX12_serve 477 = .ok (.iaload, 1) := xdc ddX12_serve_5 38 rfl
theorem dX12_serve_478 : decode cX12_serve 478 = .ok (.iconst 4, 1) := xdc ddX12_serve_5 39 rfl
theorem ddX12_serve_6 : xdec cX12_serve [(479, (.iadd, 1)), (480, (.iastore, 1)), (481, (.aload_n 0, 1)), (482, (.getfield 44, 3)), (485, (.iconst 0, 1)), (486, (.iload 8, 2)), (488, (.iastore, 1)), (489, (.return_, 1))] = true := by decide +kernel
theorem dX12_serve_479 : decode cX12_serve 479 = .ok (.iadd, 1) := xdc ddX12_serve_6 0 rfl
theorem dX12_serve_480 : decode cX12_serve 480 = .ok (.iastore, 1) := xdc ddX12_serve_6 1 rfl
theorem dX12_serve_481 : decode cX12_serve 481 = .ok (.aload_n 0, 1) := xdc ddX12_serve_6 2 rfl
theorem dX12_serve_482 : decode cX12_serve 482 = .ok (.getfield 44, 3) := xdc ddX12_serve_6 3 rfl
theorem dX12_serve_485 : decode cX12_serve 485 = .ok (.iconst 0, 1) := xdc ddX12_serve_6 4 rfl
theorem dX12_serve_486 : decode cX12_serve 486 = .ok (.iload 8, 2) := xdc ddX12_serve_6 5 rfl
theorem dX12_serve_488 : decode cX12_serve 488 = .ok (.iastore, 1) := xdc ddX12_serve_6 6 rfl
theorem dX12_serve_489 : decode cX12_serve 489 = .ok (.return_, 1) := xdc ddX12_serve_6 7 rfl
abbrev cX12_step : ByteArray := prog_14_method_75_code
theorem ddX12_step_0 : xdec cX12_step [(0, (.aload_n 0, 1)), (1, (.getfield 40, 3)), (4, (.i2l, 1)), (5, (.ldc2_w 186, 3)), (8, (.land, 1)), (9, (.lstore_n 1, 1)), (10, (.aload_n 0, 1)), (11, (.getfield 320, 3)), (14, (.istore_n 3, 1)), (15, (.aload_n 0, 1)), (16, (.getfield 317, 3)), (19, (.istore 4, 2)), (21, (.aload_n 0, 1)), (22, (.getfield 307, 3)), (25, (.istore 5, 2)), (27, (.aload_n 0, 1)), (28, (.getfield 314, 3)), (31, (.istore 6, 2)), (33, (.aload_n 0, 1)), (34, (.getfield 323, 3)), (37, (.istore 7, 2)), (39, (.aload_n 0, 1)), (40, (.getfield 40, 3)), (43, (.istore 8, 2)), (45, (.aload_n 0, 1)), (46, (.iconst 0, 1)), (47, (.putfield 272, 3)), (50, (.iconst 0, 1)), (51, (.istore 9, 2)), (53, (.iload 9, 2)), (55, (.bipush 8, 2)), (57, (.if_icmp .ge 23, 3)), (60, (.aload_n 0, 1)), (61, (.getfield 50, 3)), (64, (.iload 9, 2)), (66, (.aload_n 0, 1)), (67, (.getfield 44, 3)), (70, (.iload 9, 2)), (72, (.iaload, 1)), (73, (.iastore, 1))] = true := by decide +kernel
theorem dX12_step_0 : decode cX12_step 0 = .ok (.aload_n 0, 1) := xdc ddX12_step_0 0 rfl
theorem dX12_step_1 : decode cX12_step 1 = .ok (.getfield 40, 3) := xdc ddX12_step_0 1 rfl
theorem dX12_step_4 : decode cX12_step 4 = .ok (.i2l, 1) := xdc ddX12_step_0 2 rfl
theorem dX12_step_5 : decode cX12_step 5 = .ok (.ldc2_w 186, 3) := xdc ddX12_step_0 3 rfl
theorem dX12_step_8 : decode cX12_step 8 = .ok (.land, 1) := xdc ddX12_step_0 4 rfl
theorem dX12_step_9 : decode cX12_step 9 = .ok (.lstore_n 1, 1) := xdc ddX12_step_0 5 rfl
theorem dX12_step_10 : decode cX12_step 10 = .ok (.aload_n 0, 1) := xdc ddX12_step_0 6 rfl
theorem dX12_step_11 : decode cX12_step 11 = .ok (.getfield 320, 3) := xdc ddX12_step_0 7 rfl
theorem dX12_step_14 : decode cX12_step 14 = .ok (.istore_n 3, 1) := xdc ddX12_step_0 8 rfl
theorem dX12_step_15 : decode cX12_step 15 = .ok (.aload_n 0, 1) := xdc ddX12_step_0 9 rfl
theorem dX12_step_16 : decode cX12_step 16 = .ok (.getfield 317, 3) := xdc ddX12_step_0 10 rfl
theorem dX12_step_19 : decode cX12_step 19 = .ok (.istore 4, 2) := xdc ddX12_step_0 11 rfl
theorem dX12_step_21 : decode cX12_step 21 = .ok (.aload_n 0, 1) := xdc ddX12_step_0 12 rfl
theorem dX12_step_22 : decode cX12_step 22 = .ok (.getfield 307, 3) := xdc ddX12_step_0 13 rfl
theorem dX12_step_25 : decode cX12_step 25 = .ok (.istore 5, 2) := xdc ddX12_step_0 14 rfl
theorem dX12_step_27 : decode cX12_step 27 = .ok (.aload_n 0, 1) := xdc ddX12_step_0 15 rfl
theorem dX12_step_28 : decode cX12_step 28 = .ok (.getfield 314, 3) := xdc ddX12_step_0 16 rfl
theorem dX12_step_31 : decode cX12_step 31 = .ok (.istore 6, 2) := xdc ddX12_step_0 17 rfl
theorem dX12_step_33 : decode cX12_step 33 = .ok (.aload_n 0, 1) := xdc ddX12_step_0 18 rfl
theorem dX12_step_34 : decode cX12_step 34 = .ok (.getfield 323, 3) := xdc ddX12_step_0 19 rfl
theorem dX12_step_37 : decode cX12_step 37 = .ok (.istore 7, 2) := xdc ddX12_step_0 20 rfl
theorem dX12_step_39 : decode cX12_step 39 = .ok (.aload_n 0, 1) := xdc ddX12_step_0 21 rfl
theorem dX12_step_40 : decode cX12_step 40 = .ok (.getfield 40, 3) := xdc ddX12_step_0 22 rfl
theorem dX12_step_43 : decode cX12_step 43 = .ok (.istore 8, 2) := xdc ddX12_step_0 23 rfl
theorem dX12_step_45 : decode cX12_step 45 = .ok (.aload_n 0, 1) := xdc ddX12_step_0 24 rfl
theorem dX12_step_46 : decode cX12_step 46 = .ok (.iconst 0, 1) := xdc ddX12_step_0 25 rfl
theorem dX12_step_47 : decode cX12_step 47 = .ok (.putfield 272, 3) := xdc ddX12_step_0 26 rfl
theorem dX12_step_50 : decode cX12_step 50 = .ok (.iconst 0, 1) := xdc ddX12_step_0 27 rfl
theorem dX12_step_51 : decode cX12_step 51 = .ok (.istore 9, 2) := xdc ddX12_step_0 28 rfl
theorem dX12_step_53 : decode cX12_step 53 = .ok (.iload 9, 2) := xdc ddX12_step_0 29 rfl
theorem dX12_step_55 : decode cX12_step 55 = .ok (.bipush 8, 2) := xdc ddX12_step_0 30 rfl
theorem dX12_step_57 : decode cX12_step 57 = .ok (.if_icmp .ge 23, 3) := xdc ddX12_step_0 31 rfl
theorem dX12_step_60 : decode cX12_step 60 = .ok (.aload_n 0, 1) := xdc ddX12_step_0 32 rfl
theorem dX12_step_61 : decode cX12_step 61 = .ok (.getfield 50, 3) := xdc ddX12_step_0 33 rfl
theorem dX12_step_64 : decode cX12_step 64 = .ok (.iload 9, 2) := xdc ddX12_step_0 34 rfl
theorem dX12_step_66 : decode cX12_step 66 = .ok (.aload_n 0, 1) := xdc ddX12_step_0 35 rfl
theorem dX12_step_67 : decode cX12_step 67 = .ok (.getfield 44, 3) := xdc ddX12_step_0 36 rfl
theorem dX12_step_70 : decode cX12_step 70 = .ok (.iload 9, 2) := xdc ddX12_step_0 37 rfl
theorem dX12_step_72 : decode cX12_step 72 = .ok (.iaload, 1) := xdc ddX12_step_0 38 rfl
theorem dX12_step_73 : decode cX12_step 73 = .ok (.iastore, 1) := xdc ddX12_step_0 39 rfl
theorem ddX12_step_1 : xdec cX12_step [(74, (.iinc 9 1, 3)), (77, (.goto (-24), 3)), (80, (.iconst (-1), 1)), (81, (.istore 9, 2)), (83, (.aload_n 0, 1)), (84, (.lload_n 1, 1)), (85, (.invokevirtual 216, 3)), (88, (.ifCond .eq 19, 3)), (91, (.aload_n 0, 1)), (92, (.lload_n 1, 1)), (93, (.ldc2_w 198, 3)), (96, (.lsub, 1)), (97, (.l2i, 1)), (98, (.bipush 32, 2)), (100, (.idiv, 1)), (101, (.invokevirtual 415, 3)), (104, (.goto 108, 3)), (107, (.lload_n 1, 1)), (108, (.ldc2_w 214, 3)), (111, (.lcmp, 1)), (112, (.ifCond .lt 17, 3)), (115, (.lload_n 1, 1)), (116, (.sipush 4096, 3)), (119, (.aload_n 0, 1)), (120, (.getfield 59, 3)), (123, (.iadd, 1)), (124, (.i2l, 1)), (125, (.lcmp, 1)), (126, (.ifCond .lt 11, 3)), (129, (.aload_n 0, 1)), (130, (.iconst 5, 1)), (131, (.putfield 272, 3)), (134, (.goto 78, 3)), (137, (.lload_n 1, 1)), (138, (.l2i, 1)), (139, (.sipush 4096, 3)), (142, (.isub, 1)), (143, (.istore 9, 2)), (145, (.aload_n 0, 1)), (146, (.iload 9, 2))] = true := by decide +kernel
theorem dX12_step_74 : decode cX12_step 74 = .ok (.iinc 9 1, 3) := xdc ddX12_step_1 0 rfl
theorem dX12_step_77 : decode cX12_step 77 = .ok (.goto (-24), 3) := xdc ddX12_step_1 1 rfl
theorem dX12_step_80 : decode cX12_step 80 = .ok (.iconst (-1), 1) := xdc ddX12_step_1 2 rfl
theorem dX12_step_81 : decode cX12_step 81 = .ok (.istore 9, 2) := xdc ddX12_step_1 3 rfl
theorem dX12_step_83 : decode cX12_step 83 = .ok (.aload_n 0, 1) := xdc ddX12_step_1 4 rfl
theorem dX12_step_84 : decode cX12_step 84 = .ok (.lload_n 1, 1) := xdc ddX12_step_1 5 rfl
theorem dX12_step_85 : decode cX12_step 85 = .ok (.invokevirtual 216, 3) := xdc ddX12_step_1 6 rfl
theorem dX12_step_88 : decode cX12_step 88 = .ok (.ifCond .eq 19, 3) := xdc ddX12_step_1 7 rfl
theorem dX12_step_91 : decode cX12_step 91 = .ok (.aload_n 0, 1) := xdc ddX12_step_1 8 rfl
theorem dX12_step_92 : decode cX12_step 92 = .ok (.lload_n 1, 1) := xdc ddX12_step_1 9 rfl
theorem dX12_step_93 : decode cX12_step 93 = .ok (.ldc2_w 198, 3) := xdc ddX12_step_1 10 rfl
theorem dX12_step_96 : decode cX12_step 96 = .ok (.lsub, 1) := xdc ddX12_step_1 11 rfl
theorem dX12_step_97 : decode cX12_step 97 = .ok (.l2i, 1) := xdc ddX12_step_1 12 rfl
theorem dX12_step_98 : decode cX12_step 98 = .ok (.bipush 32, 2) := xdc ddX12_step_1 13 rfl
theorem dX12_step_100 : decode cX12_step 100 = .ok (.idiv, 1) := xdc ddX12_step_1 14 rfl
theorem dX12_step_101 : decode cX12_step 101 = .ok (.invokevirtual 415, 3) := xdc ddX12_step_1 15 rfl
theorem dX12_step_104 : decode cX12_step 104 = .ok (.goto 108, 3) := xdc ddX12_step_1 16 rfl
theorem dX12_step_107 : decode cX12_step 107 = .ok (.lload_n 1, 1) := xdc ddX12_step_1 17 rfl
theorem dX12_step_108 : decode cX12_step 108 = .ok (.ldc2_w 214, 3) := xdc ddX12_step_1 18 rfl
theorem dX12_step_111 : decode cX12_step 111 = .ok (.lcmp, 1) := xdc ddX12_step_1 19 rfl
theorem dX12_step_112 : decode cX12_step 112 = .ok (.ifCond .lt 17, 3) := xdc ddX12_step_1 20 rfl
theorem dX12_step_115 : decode cX12_step 115 = .ok (.lload_n 1, 1) := xdc ddX12_step_1 21 rfl
theorem dX12_step_116 : decode cX12_step 116 = .ok (.sipush 4096, 3) := xdc ddX12_step_1 22 rfl
theorem dX12_step_119 : decode cX12_step 119 = .ok (.aload_n 0, 1) := xdc ddX12_step_1 23 rfl
theorem dX12_step_120 : decode cX12_step 120 = .ok (.getfield 59, 3) := xdc ddX12_step_1 24 rfl
theorem dX12_step_123 : decode cX12_step 123 = .ok (.iadd, 1) := xdc ddX12_step_1 25 rfl
theorem dX12_step_124 : decode cX12_step 124 = .ok (.i2l, 1) := xdc ddX12_step_1 26 rfl
theorem dX12_step_125 : decode cX12_step 125 = .ok (.lcmp, 1) := xdc ddX12_step_1 27 rfl
theorem dX12_step_126 : decode cX12_step 126 = .ok (.ifCond .lt 11, 3) := xdc ddX12_step_1 28 rfl
theorem dX12_step_129 : decode cX12_step 129 = .ok (.aload_n 0, 1) := xdc ddX12_step_1 29 rfl
theorem dX12_step_130 : decode cX12_step 130 = .ok (.iconst 5, 1) := xdc ddX12_step_1 30 rfl
theorem dX12_step_131 : decode cX12_step 131 = .ok (.putfield 272, 3) := xdc ddX12_step_1 31 rfl
theorem dX12_step_134 : decode cX12_step 134 = .ok (.goto 78, 3) := xdc ddX12_step_1 32 rfl
theorem dX12_step_137 : decode cX12_step 137 = .ok (.lload_n 1, 1) := xdc ddX12_step_1 33 rfl
theorem dX12_step_138 : decode cX12_step 138 = .ok (.l2i, 1) := xdc ddX12_step_1 34 rfl
theorem dX12_step_139 : decode cX12_step 139 = .ok (.sipush 4096, 3) := xdc ddX12_step_1 35 rfl
theorem dX12_step_142 : decode cX12_step 142 = .ok (.isub, 1) := xdc ddX12_step_1 36 rfl
theorem dX12_step_143 : decode cX12_step 143 = .ok (.istore 9, 2) := xdc ddX12_step_1 37 rfl
theorem dX12_step_145 : decode cX12_step 145 = .ok (.aload_n 0, 1) := xdc ddX12_step_1 38 rfl
theorem dX12_step_146 : decode cX12_step 146 = .ok (.iload 9, 2) := xdc ddX12_step_1 39 rfl
theorem ddX12_step_2 : xdec cX12_step [(148, (.invokevirtual 167, 3)), (151, (.ifCond .eq 20, 3)), (154, (.aload_n 0, 1)), (155, (.getfield 195, 3)), (158, (.ifCond .eq 22, 3)), (161, (.aload_n 0, 1)), (162, (.getfield 27, 3)), (165, (.iload 9, 2)), (167, (.iaload, 1)), (168, (.ifCond .ne 12, 3)), (171, (.aload_n 0, 1)), (172, (.bipush 6, 2)), (174, (.putfield 272, 3)), (177, (.goto 35, 3)), (180, (.aload_n 0, 1)), (181, (.invokevirtual 418, 3)), (184, (.aload_n 0, 1)), (185, (.aload_n 0, 1)), (186, (.getfield 272, 3)), (189, (.ifCond .ne 16, 3)), (192, (.aload_n 0, 1)), (193, (.getfield 70, 3)), (196, (.bipush 32, 2)), (198, (.if_icmp .ne 7, 3)), (201, (.iconst 3, 1)), (202, (.goto 7, 3)), (205, (.aload_n 0, 1)), (206, (.getfield 395, 3)), (209, (.putfield 395, 3)), (212, (.aload_n 0, 1)), (213, (.getfield 272, 3)), (216, (.ifCond .ne 31, 3)), (219, (.aload_n 0, 1)), (220, (.dup, 1)), (221, (.getfield 407, 3)), (224, (.lconst 1, 1)), (225, (.ladd, 1)), (226, (.putfield 407, 3)), (229, (.iload 9, 2)), (231, (.ifCond .lt 14, 3))] = true := by decide +kernel
theorem dX12_step_148 : decode cX12_step 148 = .ok (.invokevirtual 167, 3) := xdc ddX12_step_2 0 rfl
theorem dX12_step_151 : decode cX12_step 151 = .ok (.ifCond .eq 20, 3) := xdc ddX12_step_2 1 rfl
theorem dX12_step_154 : decode cX12_step 154 = .ok (.aload_n 0, 1) := xdc ddX12_step_2 2 rfl
theorem dX12_step_155 : decode cX12_step 155 = .ok (.getfield 195, 3) := xdc ddX12_step_2 3 rfl
theorem dX12_step_158 : decode cX12_step 158 = .ok (.ifCond .eq 22, 3) := xdc ddX12_step_2 4 rfl
theorem dX12_step_161 : decode cX12_step 161 = .ok (.aload_n 0, 1) := xdc ddX12_step_2 5 rfl
theorem dX12_step_162 : decode cX12_step 162 = .ok (.getfield 27, 3) := xdc ddX12_step_2 6 rfl
theorem dX12_step_165 : decode cX12_step 165 = .ok (.iload 9, 2) := xdc ddX12_step_2 7 rfl
theorem dX12_step_167 : decode cX12_step 167 = .ok (.iaload, 1) := xdc ddX12_step_2 8 rfl
theorem dX12_step_168 : decode cX12_step 168 = .ok (.ifCond .ne 12, 3) := xdc ddX12_step_2 9 rfl
theorem dX12_step_171 : decode cX12_step 171 = .ok (.aload_n 0, 1) := xdc ddX12_step_2 10 rfl
theorem dX12_step_172 : decode cX12_step 172 = .ok (.bipush 6, 2) := xdc ddX12_step_2 11 rfl
theorem dX12_step_174 : decode cX12_step 174 = .ok (.putfield 272, 3) := xdc ddX12_step_2 12 rfl
theorem dX12_step_177 : decode cX12_step 177 = .ok (.goto 35, 3) := xdc ddX12_step_2 13 rfl
theorem dX12_step_180 : decode cX12_step 180 = .ok (.aload_n 0, 1) := xdc ddX12_step_2 14 rfl
theorem dX12_step_181 : decode cX12_step 181 = .ok (.invokevirtual 418, 3) := xdc ddX12_step_2 15 rfl
theorem dX12_step_184 : decode cX12_step 184 = .ok (.aload_n 0, 1) := xdc ddX12_step_2 16 rfl
theorem dX12_step_185 : decode cX12_step 185 = .ok (.aload_n 0, 1) := xdc ddX12_step_2 17 rfl
theorem dX12_step_186 : decode cX12_step 186 = .ok (.getfield 272, 3) := xdc ddX12_step_2 18 rfl
theorem dX12_step_189 : decode cX12_step 189 = .ok (.ifCond .ne 16, 3) := xdc ddX12_step_2 19 rfl
theorem dX12_step_192 : decode cX12_step 192 = .ok (.aload_n 0, 1) := xdc ddX12_step_2 20 rfl
theorem dX12_step_193 : decode cX12_step 193 = .ok (.getfield 70, 3) := xdc ddX12_step_2 21 rfl
theorem dX12_step_196 : decode cX12_step 196 = .ok (.bipush 32, 2) := xdc ddX12_step_2 22 rfl
theorem dX12_step_198 : decode cX12_step 198 = .ok (.if_icmp .ne 7, 3) := xdc ddX12_step_2 23 rfl
theorem dX12_step_201 : decode cX12_step 201 = .ok (.iconst 3, 1) := xdc ddX12_step_2 24 rfl
theorem dX12_step_202 : decode cX12_step 202 = .ok (.goto 7, 3) := xdc ddX12_step_2 25 rfl
theorem dX12_step_205 : decode cX12_step 205 = .ok (.aload_n 0, 1) := xdc ddX12_step_2 26 rfl
theorem dX12_step_206 : decode cX12_step 206 = .ok (.getfield 395, 3) := xdc ddX12_step_2 27 rfl
theorem dX12_step_209 : decode cX12_step 209 = .ok (.putfield 395, 3) := xdc ddX12_step_2 28 rfl
theorem dX12_step_212 : decode cX12_step 212 = .ok (.aload_n 0, 1) := xdc ddX12_step_2 29 rfl
theorem dX12_step_213 : decode cX12_step 213 = .ok (.getfield 272, 3) := xdc ddX12_step_2 30 rfl
theorem dX12_step_216 : decode cX12_step 216 = .ok (.ifCond .ne 31, 3) := xdc ddX12_step_2 31 rfl
theorem dX12_step_219 : decode cX12_step 219 = .ok (.aload_n 0, 1) := xdc ddX12_step_2 32 rfl
theorem dX12_step_220 : decode cX12_step 220 = .ok (.dup, 1) := xdc ddX12_step_2 33 rfl
theorem dX12_step_221 : decode cX12_step 221 = .ok (.getfield 407, 3) := xdc ddX12_step_2 34 rfl
theorem dX12_step_224 : decode cX12_step 224 = .ok (.lconst 1, 1) := xdc ddX12_step_2 35 rfl
theorem dX12_step_225 : decode cX12_step 225 = .ok (.ladd, 1) := xdc ddX12_step_2 36 rfl
theorem dX12_step_226 : decode cX12_step 226 = .ok (.putfield 407, 3) := xdc ddX12_step_2 37 rfl
theorem dX12_step_229 : decode cX12_step 229 = .ok (.iload 9, 2) := xdc ddX12_step_2 38 rfl
theorem dX12_step_231 : decode cX12_step 231 = .ok (.ifCond .lt 14, 3) := xdc ddX12_step_2 39 rfl
theorem ddX12_step_3 : xdec cX12_step [(234, (.aload_n 0, 1)), (235, (.getfield 30, 3)), (238, (.iload 9, 2)), (240, (.dup2, 1)), (241, (.iaload, 1)), (242, (.iconst 1, 1)), (243, (.iadd, 1)), (244, (.iastore, 1)), (245, (.iconst 1, 1)), (246, (.ireturn, 1)), (247, (.iconst 0, 1)), (248, (.istore 10, 2)), (250, (.iload 10, 2)), (252, (.bipush 8, 2)), (254, (.if_icmp .ge 23, 3)), (257, (.aload_n 0, 1)), (258, (.getfield 44, 3)), (261, (.iload 10, 2)), (263, (.aload_n 0, 1)), (264, (.getfield 50, 3)), (267, (.iload 10, 2)), (269, (.iaload, 1)), (270, (.iastore, 1)), (271, (.iinc 10 1, 3)), (274, (.goto (-24), 3)), (277, (.aload_n 0, 1)), (278, (.iload_n 3, 1)), (279, (.putfield 320, 3)), (282, (.aload_n 0, 1)), (283, (.iload 4, 2)), (285, (.putfield 317, 3)), (288, (.aload_n 0, 1)), (289, (.iload 5, 2)), (291, (.putfield 307, 3)), (294, (.aload_n 0, 1)), (295, (.iload 6, 2)), (297, (.putfield 314, 3)), (300, (.aload_n 0, 1)), (301, (.iload 7, 2)), (303, (.putfield 323, 3))] = true := by decide +kernel
theorem dX12_step_234 : decode cX12_step 234 = .ok (.aload_n 0, 1) := xdc ddX12_step_3 0 rfl
theorem dX12_step_235 : decode cX12_step 235 = .ok (.getfield 30, 3) := xdc ddX12_step_3 1 rfl
theorem dX12_step_238 : decode cX12_step 238 = .ok (.iload 9, 2) := xdc ddX12_step_3 2 rfl
theorem dX12_step_240 : decode cX12_step 240 = .ok (.dup2, 1) := xdc ddX12_step_3 3 rfl
theorem dX12_step_241 : decode cX12_step 241 = .ok (.iaload, 1) := xdc ddX12_step_3 4 rfl
theorem dX12_step_242 : decode cX12_step 242 = .ok (.iconst 1, 1) := xdc ddX12_step_3 5 rfl
theorem dX12_step_243 : decode cX12_step 243 = .ok (.iadd, 1) := xdc ddX12_step_3 6 rfl
theorem dX12_step_244 : decode cX12_step 244 = .ok (.iastore, 1) := xdc ddX12_step_3 7 rfl
theorem dX12_step_245 : decode cX12_step 245 = .ok (.iconst 1, 1) := xdc ddX12_step_3 8 rfl
theorem dX12_step_246 : decode cX12_step 246 = .ok (.ireturn, 1) := xdc ddX12_step_3 9 rfl
theorem dX12_step_247 : decode cX12_step 247 = .ok (.iconst 0, 1) := xdc ddX12_step_3 10 rfl
theorem dX12_step_248 : decode cX12_step 248 = .ok (.istore 10, 2) := xdc ddX12_step_3 11 rfl
theorem dX12_step_250 : decode cX12_step 250 = .ok (.iload 10, 2) := xdc ddX12_step_3 12 rfl
theorem dX12_step_252 : decode cX12_step 252 = .ok (.bipush 8, 2) := xdc ddX12_step_3 13 rfl
theorem dX12_step_254 : decode cX12_step 254 = .ok (.if_icmp .ge 23, 3) := xdc ddX12_step_3 14 rfl
theorem dX12_step_257 : decode cX12_step 257 = .ok (.aload_n 0, 1) := xdc ddX12_step_3 15 rfl
theorem dX12_step_258 : decode cX12_step 258 = .ok (.getfield 44, 3) := xdc ddX12_step_3 16 rfl
theorem dX12_step_261 : decode cX12_step 261 = .ok (.iload 10, 2) := xdc ddX12_step_3 17 rfl
theorem dX12_step_263 : decode cX12_step 263 = .ok (.aload_n 0, 1) := xdc ddX12_step_3 18 rfl
theorem dX12_step_264 : decode cX12_step 264 = .ok (.getfield 50, 3) := xdc ddX12_step_3 19 rfl
theorem dX12_step_267 : decode cX12_step 267 = .ok (.iload 10, 2) := xdc ddX12_step_3 20 rfl
theorem dX12_step_269 : decode cX12_step 269 = .ok (.iaload, 1) := xdc ddX12_step_3 21 rfl
theorem dX12_step_270 : decode cX12_step 270 = .ok (.iastore, 1) := xdc ddX12_step_3 22 rfl
theorem dX12_step_271 : decode cX12_step 271 = .ok (.iinc 10 1, 3) := xdc ddX12_step_3 23 rfl
theorem dX12_step_274 : decode cX12_step 274 = .ok (.goto (-24), 3) := xdc ddX12_step_3 24 rfl
theorem dX12_step_277 : decode cX12_step 277 = .ok (.aload_n 0, 1) := xdc ddX12_step_3 25 rfl
theorem dX12_step_278 : decode cX12_step 278 = .ok (.iload_n 3, 1) := xdc ddX12_step_3 26 rfl
theorem dX12_step_279 : decode cX12_step 279 = .ok (.putfield 320, 3) := xdc ddX12_step_3 27 rfl
theorem dX12_step_282 : decode cX12_step 282 = .ok (.aload_n 0, 1) := xdc ddX12_step_3 28 rfl
theorem dX12_step_283 : decode cX12_step 283 = .ok (.iload 4, 2) := xdc ddX12_step_3 29 rfl
theorem dX12_step_285 : decode cX12_step 285 = .ok (.putfield 317, 3) := xdc ddX12_step_3 30 rfl
theorem dX12_step_288 : decode cX12_step 288 = .ok (.aload_n 0, 1) := xdc ddX12_step_3 31 rfl
theorem dX12_step_289 : decode cX12_step 289 = .ok (.iload 5, 2) := xdc ddX12_step_3 32 rfl
theorem dX12_step_291 : decode cX12_step 291 = .ok (.putfield 307, 3) := xdc ddX12_step_3 33 rfl
theorem dX12_step_294 : decode cX12_step 294 = .ok (.aload_n 0, 1) := xdc ddX12_step_3 34 rfl
theorem dX12_step_295 : decode cX12_step 295 = .ok (.iload 6, 2) := xdc ddX12_step_3 35 rfl
theorem dX12_step_297 : decode cX12_step 297 = .ok (.putfield 314, 3) := xdc ddX12_step_3 36 rfl
theorem dX12_step_300 : decode cX12_step 300 = .ok (.aload_n 0, 1) := xdc ddX12_step_3 37 rfl
theorem dX12_step_301 : decode cX12_step 301 = .ok (.iload 7, 2) := xdc ddX12_step_3 38 rfl
theorem dX12_step_303 : decode cX12_step 303 = .ok (.putfield 323, 3) := xdc ddX12_step_3 39 rfl
theorem ddX12_step_4 : xdec cX12_step [(306, (.aload_n 0, 1)), (307, (.iload 8, 2)), (309, (.putfield 40, 3)), (312, (.aload_n 0, 1)), (313, (.aload_n 0, 1)), (314, (.getfield 272, 3)), (317, (.putfield 395, 3)), (320, (.iconst 0, 1)), (321, (.ireturn, 1))] = true := by decide +kernel
theorem dX12_step_306 : decode cX12_step 306 = .ok (.aload_n 0, 1) := xdc ddX12_step_4 0 rfl
theorem dX12_step_307 : decode cX12_step 307 = .ok (.iload 8, 2) := xdc ddX12_step_4 1 rfl
theorem dX12_step_309 : decode cX12_step 309 = .ok (.putfield 40, 3) := xdc ddX12_step_4 2 rfl
theorem dX12_step_312 : decode cX12_step 312 = .ok (.aload_n 0, 1) := xdc ddX12_step_4 3 rfl
theorem dX12_step_313 : decode cX12_step 313 = .ok (.aload_n 0, 1) := xdc ddX12_step_4 4 rfl
theorem dX12_step_314 : decode cX12_step 314 = .ok (.getfield 272, 3) := xdc ddX12_step_4 5 rfl
theorem dX12_step_317 : decode cX12_step 317 = .ok (.putfield 395, 3) := xdc ddX12_step_4 6 rfl
theorem dX12_step_320 : decode cX12_step 320 = .ok (.iconst 0, 1) := xdc ddX12_step_4 7 rfl
theorem dX12_step_321 : decode cX12_step 321 = .ok (.ireturn, 1) := xdc ddX12_step_4 8 rfl
abbrev cX12_change : ByteArray := prog_14_method_76_code
theorem ddX12_change_0 : xdec cX12_change [(0, (.aload_n 0, 1)), (1, (.iconst 0, 1)), (2, (.putfield 195, 3)), (5, (.aload_n 0, 1)), (6, (.iconst 0, 1)), (7, (.putfield 192, 3)), (10, (.aload_n 0, 1)), (11, (.iconst (-1), 1)), (12, (.putfield 23, 3)), (15, (.aload_n 0, 1)), (16, (.iconst 0, 1)), (17, (.putfield 395, 3)), (20, (.iconst 0, 1)), (21, (.istore_n 1, 1)), (22, (.iload_n 1, 1)), (23, (.sipush 2048, 3)), (26, (.if_icmp .ge 16, 3)), (29, (.aload_n 0, 1)), (30, (.getfield 27, 3)), (33, (.iload_n 1, 1)), (34, (.iconst 0, 1)), (35, (.iastore, 1)), (36, (.iinc 1 1, 3)), (39, (.goto (-17), 3)), (42, (.return_, 1))] = true := by decide +kernel
theorem dX12_change_0 : decode cX12_change 0 = .ok (.aload_n 0, 1) := xdc ddX12_change_0 0 rfl
theorem dX12_change_1 : decode cX12_change 1 = .ok (.iconst 0, 1) := xdc ddX12_change_0 1 rfl
theorem dX12_change_2 : decode cX12_change 2 = .ok (.putfield 195, 3) := xdc ddX12_change_0 2 rfl
theorem dX12_change_5 : decode cX12_change 5 = .ok (.aload_n 0, 1) := xdc ddX12_change_0 3 rfl
theorem dX12_change_6 : decode cX12_change 6 = .ok (.iconst 0, 1) := xdc ddX12_change_0 4 rfl
theorem dX12_change_7 : decode cX12_change 7 = .ok (.putfield 192, 3) := xdc ddX12_change_0 5 rfl
theorem dX12_change_10 : decode cX12_change 10 = .ok (.aload_n 0, 1) := xdc ddX12_change_0 6 rfl
theorem dX12_change_11 : decode cX12_change 11 = .ok (.iconst (-1), 1) := xdc ddX12_change_0 7 rfl
theorem dX12_change_12 : decode cX12_change 12 = .ok (.putfield 23, 3) := xdc ddX12_change_0 8 rfl
theorem dX12_change_15 : decode cX12_change 15 = .ok (.aload_n 0, 1) := xdc ddX12_change_0 9 rfl
theorem dX12_change_16 : decode cX12_change 16 = .ok (.iconst 0, 1) := xdc ddX12_change_0 10 rfl
theorem dX12_change_17 : decode cX12_change 17 = .ok (.putfield 395, 3) := xdc ddX12_change_0 11 rfl
theorem dX12_change_20 : decode cX12_change 20 = .ok (.iconst 0, 1) := xdc ddX12_change_0 12 rfl
theorem dX12_change_21 : decode cX12_change 21 = .ok (.istore_n 1, 1) := xdc ddX12_change_0 13 rfl
theorem dX12_change_22 : decode cX12_change 22 = .ok (.iload_n 1, 1) := xdc ddX12_change_0 14 rfl
theorem dX12_change_23 : decode cX12_change 23 = .ok (.sipush 2048, 3) := xdc ddX12_change_0 15 rfl
theorem dX12_change_26 : decode cX12_change 26 = .ok (.if_icmp .ge 16, 3) := xdc ddX12_change_0 16 rfl
theorem dX12_change_29 : decode cX12_change 29 = .ok (.aload_n 0, 1) := xdc ddX12_change_0 17 rfl
theorem dX12_change_30 : decode cX12_change 30 = .ok (.getfield 27, 3) := xdc ddX12_change_0 18 rfl
theorem dX12_change_33 : decode cX12_change 33 = .ok (.iload_n 1, 1) := xdc ddX12_change_0 19 rfl
theorem dX12_change_34 : decode cX12_change 34 = .ok (.iconst 0, 1) := xdc ddX12_change_0 20 rfl
theorem dX12_change_35 : decode cX12_change 35 = .ok (.iastore, 1) := xdc ddX12_change_0 21 rfl
theorem dX12_change_36 : decode cX12_change 36 = .ok (.iinc 1 1, 3) := xdc ddX12_change_0 22 rfl
theorem dX12_change_39 : decode cX12_change 39 = .ok (.goto (-17), 3) := xdc ddX12_change_0 23 rfl
theorem dX12_change_42 : decode cX12_change 42 = .ok (.return_, 1) := xdc ddX12_change_0 24 rfl
abbrev cX12_feed : ByteArray := prog_14_method_77_code
theorem ddX12_feed_0 : xdec cX12_feed [(0, (.aload_n 0, 1)), (1, (.iload_n 1, 1)), (2, (.i2l, 1)), (3, (.lconst 1, 1)), (4, (.ldc2_w 421, 3)), (7, (.invokestatic 163, 3)), (10, (.ifCond .eq 7, 3)), (13, (.iconst 0, 1)), (14, (.goto 4, 3)), (17, (.iconst 1, 1)), (18, (.putfield 53, 3)), (21, (.aload_n 0, 1)), (22, (.getfield 53, 3)), (25, (.ifCond .le 5, 3)), (28, (.iconst 0, 1)), (29, (.ireturn, 1)), (30, (.aload_n 0, 1)), (31, (.getfield 59, 3)), (34, (.iload_n 1, 1)), (35, (.iadd, 1)), (36, (.sipush 2048, 3)), (39, (.if_icmp .le 5, 3)), (42, (.iconst (-1), 1)), (43, (.ireturn, 1)), (44, (.iconst 0, 1)), (45, (.istore 4, 2)), (47, (.iload 4, 2)), (49, (.iload_n 1, 1)), (50, (.if_icmp .ge 40, 3)), (53, (.aload_n 0, 1)), (54, (.getfield 7, 3)), (57, (.aload_n 0, 1)), (58, (.getfield 59, 3)), (61, (.lload_n 2, 1)), (62, (.bipush 8, 2)), (64, (.iload 4, 2)), (66, (.imul, 1)), (67, (.lshr, 1)), (68, (.ldc2_w 423, 3)), (71, (.land, 1))] = true := by decide +kernel
theorem dX12_feed_0 : decode cX12_feed 0 = .ok (.aload_n 0, 1) := xdc ddX12_feed_0 0 rfl
theorem dX12_feed_1 : decode cX12_feed 1 = .ok (.iload_n 1, 1) := xdc ddX12_feed_0 1 rfl
theorem dX12_feed_2 : decode cX12_feed 2 = .ok (.i2l, 1) := xdc ddX12_feed_0 2 rfl
theorem dX12_feed_3 : decode cX12_feed 3 = .ok (.lconst 1, 1) := xdc ddX12_feed_0 3 rfl
theorem dX12_feed_4 : decode cX12_feed 4 = .ok (.ldc2_w 421, 3) := xdc ddX12_feed_0 4 rfl
theorem dX12_feed_7 : decode cX12_feed 7 = .ok (.invokestatic 163, 3) := xdc ddX12_feed_0 5 rfl
theorem dX12_feed_10 : decode cX12_feed 10 = .ok (.ifCond .eq 7, 3) := xdc ddX12_feed_0 6 rfl
theorem dX12_feed_13 : decode cX12_feed 13 = .ok (.iconst 0, 1) := xdc ddX12_feed_0 7 rfl
theorem dX12_feed_14 : decode cX12_feed 14 = .ok (.goto 4, 3) := xdc ddX12_feed_0 8 rfl
theorem dX12_feed_17 : decode cX12_feed 17 = .ok (.iconst 1, 1) := xdc ddX12_feed_0 9 rfl
theorem dX12_feed_18 : decode cX12_feed 18 = .ok (.putfield 53, 3) := xdc ddX12_feed_0 10 rfl
theorem dX12_feed_21 : decode cX12_feed 21 = .ok (.aload_n 0, 1) := xdc ddX12_feed_0 11 rfl
theorem dX12_feed_22 : decode cX12_feed 22 = .ok (.getfield 53, 3) := xdc ddX12_feed_0 12 rfl
theorem dX12_feed_25 : decode cX12_feed 25 = .ok (.ifCond .le 5, 3) := xdc ddX12_feed_0 13 rfl
theorem dX12_feed_28 : decode cX12_feed 28 = .ok (.iconst 0, 1) := xdc ddX12_feed_0 14 rfl
theorem dX12_feed_29 : decode cX12_feed 29 = .ok (.ireturn, 1) := xdc ddX12_feed_0 15 rfl
theorem dX12_feed_30 : decode cX12_feed 30 = .ok (.aload_n 0, 1) := xdc ddX12_feed_0 16 rfl
theorem dX12_feed_31 : decode cX12_feed 31 = .ok (.getfield 59, 3) := xdc ddX12_feed_0 17 rfl
theorem dX12_feed_34 : decode cX12_feed 34 = .ok (.iload_n 1, 1) := xdc ddX12_feed_0 18 rfl
theorem dX12_feed_35 : decode cX12_feed 35 = .ok (.iadd, 1) := xdc ddX12_feed_0 19 rfl
theorem dX12_feed_36 : decode cX12_feed 36 = .ok (.sipush 2048, 3) := xdc ddX12_feed_0 20 rfl
theorem dX12_feed_39 : decode cX12_feed 39 = .ok (.if_icmp .le 5, 3) := xdc ddX12_feed_0 21 rfl
theorem dX12_feed_42 : decode cX12_feed 42 = .ok (.iconst (-1), 1) := xdc ddX12_feed_0 22 rfl
theorem dX12_feed_43 : decode cX12_feed 43 = .ok (.ireturn, 1) := xdc ddX12_feed_0 23 rfl
theorem dX12_feed_44 : decode cX12_feed 44 = .ok (.iconst 0, 1) := xdc ddX12_feed_0 24 rfl
theorem dX12_feed_45 : decode cX12_feed 45 = .ok (.istore 4, 2) := xdc ddX12_feed_0 25 rfl
theorem dX12_feed_47 : decode cX12_feed 47 = .ok (.iload 4, 2) := xdc ddX12_feed_0 26 rfl
theorem dX12_feed_49 : decode cX12_feed 49 = .ok (.iload_n 1, 1) := xdc ddX12_feed_0 27 rfl
theorem dX12_feed_50 : decode cX12_feed 50 = .ok (.if_icmp .ge 40, 3) := xdc ddX12_feed_0 28 rfl
theorem dX12_feed_53 : decode cX12_feed 53 = .ok (.aload_n 0, 1) := xdc ddX12_feed_0 29 rfl
theorem dX12_feed_54 : decode cX12_feed 54 = .ok (.getfield 7, 3) := xdc ddX12_feed_0 30 rfl
theorem dX12_feed_57 : decode cX12_feed 57 = .ok (.aload_n 0, 1) := xdc ddX12_feed_0 31 rfl
theorem dX12_feed_58 : decode cX12_feed 58 = .ok (.getfield 59, 3) := xdc ddX12_feed_0 32 rfl
theorem dX12_feed_61 : decode cX12_feed 61 = .ok (.lload_n 2, 1) := xdc ddX12_feed_0 33 rfl
theorem dX12_feed_62 : decode cX12_feed 62 = .ok (.bipush 8, 2) := xdc ddX12_feed_0 34 rfl
theorem dX12_feed_64 : decode cX12_feed 64 = .ok (.iload 4, 2) := xdc ddX12_feed_0 35 rfl
theorem dX12_feed_66 : decode cX12_feed 66 = .ok (.imul, 1) := xdc ddX12_feed_0 36 rfl
theorem dX12_feed_67 : decode cX12_feed 67 = .ok (.lshr, 1) := xdc ddX12_feed_0 37 rfl
theorem dX12_feed_68 : decode cX12_feed 68 = .ok (.ldc2_w 423, 3) := xdc ddX12_feed_0 38 rfl
theorem dX12_feed_71 : decode cX12_feed 71 = .ok (.land, 1) := xdc ddX12_feed_0 39 rfl
theorem ddX12_feed_1 : xdec cX12_feed [(72, (.l2i, 1)), (73, (.iastore, 1)), (74, (.aload_n 0, 1)), (75, (.dup, 1)), (76, (.getfield 59, 3)), (79, (.iconst 1, 1)), (80, (.iadd, 1)), (81, (.putfield 59, 3)), (84, (.iinc 4 1, 3)), (87, (.goto (-40), 3)), (90, (.aload_n 0, 1)), (91, (.invokevirtual 425, 3)), (94, (.aload_n 0, 1)), (95, (.getfield 59, 3)), (98, (.ireturn, 1))] = true := by decide +kernel
theorem dX12_feed_72 : decode cX12_feed 72 = .ok (.l2i, 1) := xdc ddX12_feed_1 0 rfl
theorem dX12_feed_73 : decode cX12_feed 73 = .ok (.iastore, 1) := xdc ddX12_feed_1 1 rfl
theorem dX12_feed_74 : decode cX12_feed 74 = .ok (.aload_n 0, 1) := xdc ddX12_feed_1 2 rfl
theorem dX12_feed_75 : decode cX12_feed 75 = .ok (.dup, 1) := xdc ddX12_feed_1 3 rfl
theorem dX12_feed_76 : decode cX12_feed 76 = .ok (.getfield 59, 3) := xdc ddX12_feed_1 4 rfl
theorem dX12_feed_79 : decode cX12_feed 79 = .ok (.iconst 1, 1) := xdc ddX12_feed_1 5 rfl
theorem dX12_feed_80 : decode cX12_feed 80 = .ok (.iadd, 1) := xdc ddX12_feed_1 6 rfl
theorem dX12_feed_81 : decode cX12_feed 81 = .ok (.putfield 59, 3) := xdc ddX12_feed_1 7 rfl
theorem dX12_feed_84 : decode cX12_feed 84 = .ok (.iinc 4 1, 3) := xdc ddX12_feed_1 8 rfl
theorem dX12_feed_87 : decode cX12_feed 87 = .ok (.goto (-40), 3) := xdc ddX12_feed_1 9 rfl
theorem dX12_feed_90 : decode cX12_feed 90 = .ok (.aload_n 0, 1) := xdc ddX12_feed_1 10 rfl
theorem dX12_feed_91 : decode cX12_feed 91 = .ok (.invokevirtual 425, 3) := xdc ddX12_feed_1 11 rfl
theorem dX12_feed_94 : decode cX12_feed 94 = .ok (.aload_n 0, 1) := xdc ddX12_feed_1 12 rfl
theorem dX12_feed_95 : decode cX12_feed 95 = .ok (.getfield 59, 3) := xdc ddX12_feed_1 13 rfl
theorem dX12_feed_98 : decode cX12_feed 98 = .ok (.ireturn, 1) := xdc ddX12_feed_1 14 rfl
abbrev cX12_wipe : ByteArray := prog_14_method_78_code
theorem ddX12_wipe_0 : xdec cX12_wipe [(0, (.aload_n 0, 1)), (1, (.iconst 0, 1)), (2, (.putfield 53, 3)), (5, (.aload_n 0, 1)), (6, (.getfield 59, 3)), (9, (.istore_n 1, 1)), (10, (.aload_n 0, 1)), (11, (.iconst 0, 1)), (12, (.putfield 59, 3)), (15, (.aload_n 0, 1)), (16, (.invokevirtual 425, 3)), (19, (.iload_n 1, 1)), (20, (.ireturn, 1))] = true := by decide +kernel
theorem dX12_wipe_0 : decode cX12_wipe 0 = .ok (.aload_n 0, 1) := xdc ddX12_wipe_0 0 rfl
theorem dX12_wipe_1 : decode cX12_wipe 1 = .ok (.iconst 0, 1) := xdc ddX12_wipe_0 1 rfl
theorem dX12_wipe_2 : decode cX12_wipe 2 = .ok (.putfield 53, 3) := xdc ddX12_wipe_0 2 rfl
theorem dX12_wipe_5 : decode cX12_wipe 5 = .ok (.aload_n 0, 1) := xdc ddX12_wipe_0 3 rfl
theorem dX12_wipe_6 : decode cX12_wipe 6 = .ok (.getfield 59, 3) := xdc ddX12_wipe_0 4 rfl
theorem dX12_wipe_9 : decode cX12_wipe 9 = .ok (.istore_n 1, 1) := xdc ddX12_wipe_0 5 rfl
theorem dX12_wipe_10 : decode cX12_wipe 10 = .ok (.aload_n 0, 1) := xdc ddX12_wipe_0 6 rfl
theorem dX12_wipe_11 : decode cX12_wipe 11 = .ok (.iconst 0, 1) := xdc ddX12_wipe_0 7 rfl
theorem dX12_wipe_12 : decode cX12_wipe 12 = .ok (.putfield 59, 3) := xdc ddX12_wipe_0 8 rfl
theorem dX12_wipe_15 : decode cX12_wipe 15 = .ok (.aload_n 0, 1) := xdc ddX12_wipe_0 9 rfl
theorem dX12_wipe_16 : decode cX12_wipe 16 = .ok (.invokevirtual 425, 3) := xdc ddX12_wipe_0 10 rfl
theorem dX12_wipe_19 : decode cX12_wipe 19 = .ok (.iload_n 1, 1) := xdc ddX12_wipe_0 11 rfl
theorem dX12_wipe_20 : decode cX12_wipe 20 = .ok (.ireturn, 1) := xdc ddX12_wipe_0 12 rfl
abbrev cX12_poke : ByteArray := prog_14_method_79_code
theorem ddX12_poke_0 : xdec cX12_poke [(0, (.aload_n 0, 1)), (1, (.iload_n 1, 1)), (2, (.i2l, 1)), (3, (.ldc2_w 188, 3)), (6, (.ldc2_w 428, 3)), (9, (.invokestatic 163, 3)), (12, (.ifCond .eq 15, 3)), (15, (.iload_n 2, 1)), (16, (.i2l, 1)), (17, (.lconst 0, 1)), (18, (.ldc2_w 423, 3)), (21, (.invokestatic 163, 3)), (24, (.ifCond .ne 7, 3)), (27, (.iconst 1, 1)), (28, (.goto 4, 3)), (31, (.iconst 0, 1)), (32, (.putfield 53, 3)), (35, (.aload_n 0, 1)), (36, (.getfield 53, 3)), (39, (.ifCond .le 5, 3)), (42, (.iconst 0, 1)), (43, (.ireturn, 1)), (44, (.aload_n 0, 1)), (45, (.getfield 14, 3)), (48, (.iload_n 1, 1)), (49, (.ldc 13, 2)), (51, (.isub, 1)), (52, (.iaload, 1)), (53, (.istore_n 3, 1)), (54, (.aload_n 0, 1)), (55, (.getfield 14, 3)), (58, (.iload_n 1, 1)), (59, (.ldc 13, 2)), (61, (.isub, 1)), (62, (.iload_n 2, 1)), (63, (.iastore, 1)), (64, (.iload_n 3, 1)), (65, (.ireturn, 1))] = true := by decide +kernel
theorem dX12_poke_0 : decode cX12_poke 0 = .ok (.aload_n 0, 1) := xdc ddX12_poke_0 0 rfl
theorem dX12_poke_1 : decode cX12_poke 1 = .ok (.iload_n 1, 1) := xdc ddX12_poke_0 1 rfl
theorem dX12_poke_2 : decode cX12_poke 2 = .ok (.i2l, 1) := xdc ddX12_poke_0 2 rfl
theorem dX12_poke_3 : decode cX12_poke 3 = .ok (.ldc2_w 188, 3) := xdc ddX12_poke_0 3 rfl
theorem dX12_poke_6 : decode cX12_poke 6 = .ok (.ldc2_w 428, 3) := xdc ddX12_poke_0 4 rfl
theorem dX12_poke_9 : decode cX12_poke 9 = .ok (.invokestatic 163, 3) := xdc ddX12_poke_0 5 rfl
theorem dX12_poke_12 : decode cX12_poke 12 = .ok (.ifCond .eq 15, 3) := xdc ddX12_poke_0 6 rfl
theorem dX12_poke_15 : decode cX12_poke 15 = .ok (.iload_n 2, 1) := xdc ddX12_poke_0 7 rfl
theorem dX12_poke_16 : decode cX12_poke 16 = .ok (.i2l, 1) := xdc ddX12_poke_0 8 rfl
theorem dX12_poke_17 : decode cX12_poke 17 = .ok (.lconst 0, 1) := xdc ddX12_poke_0 9 rfl
theorem dX12_poke_18 : decode cX12_poke 18 = .ok (.ldc2_w 423, 3) := xdc ddX12_poke_0 10 rfl
theorem dX12_poke_21 : decode cX12_poke 21 = .ok (.invokestatic 163, 3) := xdc ddX12_poke_0 11 rfl
theorem dX12_poke_24 : decode cX12_poke 24 = .ok (.ifCond .ne 7, 3) := xdc ddX12_poke_0 12 rfl
theorem dX12_poke_27 : decode cX12_poke 27 = .ok (.iconst 1, 1) := xdc ddX12_poke_0 13 rfl
theorem dX12_poke_28 : decode cX12_poke 28 = .ok (.goto 4, 3) := xdc ddX12_poke_0 14 rfl
theorem dX12_poke_31 : decode cX12_poke 31 = .ok (.iconst 0, 1) := xdc ddX12_poke_0 15 rfl
theorem dX12_poke_32 : decode cX12_poke 32 = .ok (.putfield 53, 3) := xdc ddX12_poke_0 16 rfl
theorem dX12_poke_35 : decode cX12_poke 35 = .ok (.aload_n 0, 1) := xdc ddX12_poke_0 17 rfl
theorem dX12_poke_36 : decode cX12_poke 36 = .ok (.getfield 53, 3) := xdc ddX12_poke_0 18 rfl
theorem dX12_poke_39 : decode cX12_poke 39 = .ok (.ifCond .le 5, 3) := xdc ddX12_poke_0 19 rfl
theorem dX12_poke_42 : decode cX12_poke 42 = .ok (.iconst 0, 1) := xdc ddX12_poke_0 20 rfl
theorem dX12_poke_43 : decode cX12_poke 43 = .ok (.ireturn, 1) := xdc ddX12_poke_0 21 rfl
theorem dX12_poke_44 : decode cX12_poke 44 = .ok (.aload_n 0, 1) := xdc ddX12_poke_0 22 rfl
theorem dX12_poke_45 : decode cX12_poke 45 = .ok (.getfield 14, 3) := xdc ddX12_poke_0 23 rfl
theorem dX12_poke_48 : decode cX12_poke 48 = .ok (.iload_n 1, 1) := xdc ddX12_poke_0 24 rfl
theorem dX12_poke_49 : decode cX12_poke 49 = .ok (.ldc 13, 2) := xdc ddX12_poke_0 25 rfl
theorem dX12_poke_51 : decode cX12_poke 51 = .ok (.isub, 1) := xdc ddX12_poke_0 26 rfl
theorem dX12_poke_52 : decode cX12_poke 52 = .ok (.iaload, 1) := xdc ddX12_poke_0 27 rfl
theorem dX12_poke_53 : decode cX12_poke 53 = .ok (.istore_n 3, 1) := xdc ddX12_poke_0 28 rfl
theorem dX12_poke_54 : decode cX12_poke 54 = .ok (.aload_n 0, 1) := xdc ddX12_poke_0 29 rfl
theorem dX12_poke_55 : decode cX12_poke 55 = .ok (.getfield 14, 3) := xdc ddX12_poke_0 30 rfl
theorem dX12_poke_58 : decode cX12_poke 58 = .ok (.iload_n 1, 1) := xdc ddX12_poke_0 31 rfl
theorem dX12_poke_59 : decode cX12_poke 59 = .ok (.ldc 13, 2) := xdc ddX12_poke_0 32 rfl
theorem dX12_poke_61 : decode cX12_poke 61 = .ok (.isub, 1) := xdc ddX12_poke_0 33 rfl
theorem dX12_poke_62 : decode cX12_poke 62 = .ok (.iload_n 2, 1) := xdc ddX12_poke_0 34 rfl
theorem dX12_poke_63 : decode cX12_poke 63 = .ok (.iastore, 1) := xdc ddX12_poke_0 35 rfl
theorem dX12_poke_64 : decode cX12_poke 64 = .ok (.iload_n 3, 1) := xdc ddX12_poke_0 36 rfl
theorem dX12_poke_65 : decode cX12_poke 65 = .ok (.ireturn, 1) := xdc ddX12_poke_0 37 rfl
abbrev cX12_peek : ByteArray := prog_14_method_80_code
theorem ddX12_peek_0 : xdec cX12_peek [(0, (.aload_n 0, 1)), (1, (.iconst 0, 1)), (2, (.putfield 53, 3)), (5, (.aload_n 0, 1)), (6, (.iload_n 1, 1)), (7, (.i2l, 1)), (8, (.iconst 1, 1)), (9, (.invokevirtual 265, 3)), (12, (.ifCond .ne 13, 3)), (15, (.aload_n 0, 1)), (16, (.iload_n 1, 1)), (17, (.i2l, 1)), (18, (.iconst 1, 1)), (19, (.invokevirtual 269, 3)), (22, (.ifCond .eq 12, 3)), (25, (.aload_n 0, 1)), (26, (.iload_n 1, 1)), (27, (.i2l, 1)), (28, (.invokevirtual 275, 3)), (31, (.goto 4, 3)), (34, (.iconst (-1), 1)), (35, (.ireturn, 1))] = true := by decide +kernel
theorem dX12_peek_0 : decode cX12_peek 0 = .ok (.aload_n 0, 1) := xdc ddX12_peek_0 0 rfl
theorem dX12_peek_1 : decode cX12_peek 1 = .ok (.iconst 0, 1) := xdc ddX12_peek_0 1 rfl
theorem dX12_peek_2 : decode cX12_peek 2 = .ok (.putfield 53, 3) := xdc ddX12_peek_0 2 rfl
theorem dX12_peek_5 : decode cX12_peek 5 = .ok (.aload_n 0, 1) := xdc ddX12_peek_0 3 rfl
theorem dX12_peek_6 : decode cX12_peek 6 = .ok (.iload_n 1, 1) := xdc ddX12_peek_0 4 rfl
theorem dX12_peek_7 : decode cX12_peek 7 = .ok (.i2l, 1) := xdc ddX12_peek_0 5 rfl
theorem dX12_peek_8 : decode cX12_peek 8 = .ok (.iconst 1, 1) := xdc ddX12_peek_0 6 rfl
theorem dX12_peek_9 : decode cX12_peek 9 = .ok (.invokevirtual 265, 3) := xdc ddX12_peek_0 7 rfl
theorem dX12_peek_12 : decode cX12_peek 12 = .ok (.ifCond .ne 13, 3) := xdc ddX12_peek_0 8 rfl
theorem dX12_peek_15 : decode cX12_peek 15 = .ok (.aload_n 0, 1) := xdc ddX12_peek_0 9 rfl
theorem dX12_peek_16 : decode cX12_peek 16 = .ok (.iload_n 1, 1) := xdc ddX12_peek_0 10 rfl
theorem dX12_peek_17 : decode cX12_peek 17 = .ok (.i2l, 1) := xdc ddX12_peek_0 11 rfl
theorem dX12_peek_18 : decode cX12_peek 18 = .ok (.iconst 1, 1) := xdc ddX12_peek_0 12 rfl
theorem dX12_peek_19 : decode cX12_peek 19 = .ok (.invokevirtual 269, 3) := xdc ddX12_peek_0 13 rfl
theorem dX12_peek_22 : decode cX12_peek 22 = .ok (.ifCond .eq 12, 3) := xdc ddX12_peek_0 14 rfl
theorem dX12_peek_25 : decode cX12_peek 25 = .ok (.aload_n 0, 1) := xdc ddX12_peek_0 15 rfl
theorem dX12_peek_26 : decode cX12_peek 26 = .ok (.iload_n 1, 1) := xdc ddX12_peek_0 16 rfl
theorem dX12_peek_27 : decode cX12_peek 27 = .ok (.i2l, 1) := xdc ddX12_peek_0 17 rfl
theorem dX12_peek_28 : decode cX12_peek 28 = .ok (.invokevirtual 275, 3) := xdc ddX12_peek_0 18 rfl
theorem dX12_peek_31 : decode cX12_peek 31 = .ok (.goto 4, 3) := xdc ddX12_peek_0 19 rfl
theorem dX12_peek_34 : decode cX12_peek 34 = .ok (.iconst (-1), 1) := xdc ddX12_peek_0 20 rfl
theorem dX12_peek_35 : decode cX12_peek 35 = .ok (.ireturn, 1) := xdc ddX12_peek_0 21 rfl
abbrev cX12_give : ByteArray := prog_14_method_81_code
theorem ddX12_give_0 : xdec cX12_give [(0, (.aload_n 0, 1)), (1, (.iload_n 1, 1)), (2, (.i2l, 1)), (3, (.lconst 1, 1)), (4, (.ldc2_w 421, 3)), (7, (.invokestatic 163, 3)), (10, (.ifCond .eq 7, 3)), (13, (.iconst 0, 1)), (14, (.goto 4, 3)), (17, (.iconst 1, 1)), (18, (.putfield 53, 3)), (21, (.aload_n 0, 1)), (22, (.getfield 53, 3)), (25, (.ifCond .le 5, 3)), (28, (.iconst 0, 1)), (29, (.ireturn, 1)), (30, (.aload_n 0, 1)), (31, (.getfield 401, 3)), (34, (.iload_n 1, 1)), (35, (.iadd, 1)), (36, (.sipush 256, 3)), (39, (.if_icmp .le 5, 3)), (42, (.iconst (-1), 1)), (43, (.ireturn, 1)), (44, (.iconst 0, 1)), (45, (.istore 4, 2)), (47, (.iload 4, 2)), (49, (.iload_n 1, 1)), (50, (.if_icmp .ge 49, 3)), (53, (.aload_n 0, 1)), (54, (.getfield 17, 3)), (57, (.aload_n 0, 1)), (58, (.getfield 404, 3)), (61, (.aload_n 0, 1)), (62, (.getfield 401, 3)), (65, (.iadd, 1)), (66, (.sipush 256, 3)), (69, (.irem, 1)), (70, (.lload_n 2, 1)), (71, (.bipush 8, 2))] = true := by decide +kernel
theorem dX12_give_0 : decode cX12_give 0 = .ok (.aload_n 0, 1) := xdc ddX12_give_0 0 rfl
theorem dX12_give_1 : decode cX12_give 1 = .ok (.iload_n 1, 1) := xdc ddX12_give_0 1 rfl
theorem dX12_give_2 : decode cX12_give 2 = .ok (.i2l, 1) := xdc ddX12_give_0 2 rfl
theorem dX12_give_3 : decode cX12_give 3 = .ok (.lconst 1, 1) := xdc ddX12_give_0 3 rfl
theorem dX12_give_4 : decode cX12_give 4 = .ok (.ldc2_w 421, 3) := xdc ddX12_give_0 4 rfl
theorem dX12_give_7 : decode cX12_give 7 = .ok (.invokestatic 163, 3) := xdc ddX12_give_0 5 rfl
theorem dX12_give_10 : decode cX12_give 10 = .ok (.ifCond .eq 7, 3) := xdc ddX12_give_0 6 rfl
theorem dX12_give_13 : decode cX12_give 13 = .ok (.iconst 0, 1) := xdc ddX12_give_0 7 rfl
theorem dX12_give_14 : decode cX12_give 14 = .ok (.goto 4, 3) := xdc ddX12_give_0 8 rfl
theorem dX12_give_17 : decode cX12_give 17 = .ok (.iconst 1, 1) := xdc ddX12_give_0 9 rfl
theorem dX12_give_18 : decode cX12_give 18 = .ok (.putfield 53, 3) := xdc ddX12_give_0 10 rfl
theorem dX12_give_21 : decode cX12_give 21 = .ok (.aload_n 0, 1) := xdc ddX12_give_0 11 rfl
theorem dX12_give_22 : decode cX12_give 22 = .ok (.getfield 53, 3) := xdc ddX12_give_0 12 rfl
theorem dX12_give_25 : decode cX12_give 25 = .ok (.ifCond .le 5, 3) := xdc ddX12_give_0 13 rfl
theorem dX12_give_28 : decode cX12_give 28 = .ok (.iconst 0, 1) := xdc ddX12_give_0 14 rfl
theorem dX12_give_29 : decode cX12_give 29 = .ok (.ireturn, 1) := xdc ddX12_give_0 15 rfl
theorem dX12_give_30 : decode cX12_give 30 = .ok (.aload_n 0, 1) := xdc ddX12_give_0 16 rfl
theorem dX12_give_31 : decode cX12_give 31 = .ok (.getfield 401, 3) := xdc ddX12_give_0 17 rfl
theorem dX12_give_34 : decode cX12_give 34 = .ok (.iload_n 1, 1) := xdc ddX12_give_0 18 rfl
theorem dX12_give_35 : decode cX12_give 35 = .ok (.iadd, 1) := xdc ddX12_give_0 19 rfl
theorem dX12_give_36 : decode cX12_give 36 = .ok (.sipush 256, 3) := xdc ddX12_give_0 20 rfl
theorem dX12_give_39 : decode cX12_give 39 = .ok (.if_icmp .le 5, 3) := xdc ddX12_give_0 21 rfl
theorem dX12_give_42 : decode cX12_give 42 = .ok (.iconst (-1), 1) := xdc ddX12_give_0 22 rfl
theorem dX12_give_43 : decode cX12_give 43 = .ok (.ireturn, 1) := xdc ddX12_give_0 23 rfl
theorem dX12_give_44 : decode cX12_give 44 = .ok (.iconst 0, 1) := xdc ddX12_give_0 24 rfl
theorem dX12_give_45 : decode cX12_give 45 = .ok (.istore 4, 2) := xdc ddX12_give_0 25 rfl
theorem dX12_give_47 : decode cX12_give 47 = .ok (.iload 4, 2) := xdc ddX12_give_0 26 rfl
theorem dX12_give_49 : decode cX12_give 49 = .ok (.iload_n 1, 1) := xdc ddX12_give_0 27 rfl
theorem dX12_give_50 : decode cX12_give 50 = .ok (.if_icmp .ge 49, 3) := xdc ddX12_give_0 28 rfl
theorem dX12_give_53 : decode cX12_give 53 = .ok (.aload_n 0, 1) := xdc ddX12_give_0 29 rfl
theorem dX12_give_54 : decode cX12_give 54 = .ok (.getfield 17, 3) := xdc ddX12_give_0 30 rfl
theorem dX12_give_57 : decode cX12_give 57 = .ok (.aload_n 0, 1) := xdc ddX12_give_0 31 rfl
theorem dX12_give_58 : decode cX12_give 58 = .ok (.getfield 404, 3) := xdc ddX12_give_0 32 rfl
theorem dX12_give_61 : decode cX12_give 61 = .ok (.aload_n 0, 1) := xdc ddX12_give_0 33 rfl
theorem dX12_give_62 : decode cX12_give 62 = .ok (.getfield 401, 3) := xdc ddX12_give_0 34 rfl
theorem dX12_give_65 : decode cX12_give 65 = .ok (.iadd, 1) := xdc ddX12_give_0 35 rfl
theorem dX12_give_66 : decode cX12_give 66 = .ok (.sipush 256, 3) := xdc ddX12_give_0 36 rfl
theorem dX12_give_69 : decode cX12_give 69 = .ok (.irem, 1) := xdc ddX12_give_0 37 rfl
theorem dX12_give_70 : decode cX12_give 70 = .ok (.lload_n 2, 1) := xdc ddX12_give_0 38 rfl
theorem dX12_give_71 : decode cX12_give 71 = .ok (.bipush 8, 2) := xdc ddX12_give_0 39 rfl
theorem ddX12_give_1 : xdec cX12_give [(73, (.iload 4, 2)), (75, (.imul, 1)), (76, (.lshr, 1)), (77, (.ldc2_w 423, 3)), (80, (.land, 1)), (81, (.l2i, 1)), (82, (.iastore, 1)), (83, (.aload_n 0, 1)), (84, (.dup, 1)), (85, (.getfield 401, 3)), (88, (.iconst 1, 1)), (89, (.iadd, 1)), (90, (.putfield 401, 3)), (93, (.iinc 4 1, 3)), (96, (.goto (-49), 3)), (99, (.aload_n 0, 1)), (100, (.getfield 401, 3)), (103, (.ireturn, 1))] = true := by decide +kernel
theorem dX12_give_73 : decode cX12_give 73 = .ok (.iload 4, 2) := xdc ddX12_give_1 0 rfl
theorem dX12_give_75 : decode cX12_give 75 = .ok (.imul, 1) := xdc ddX12_give_1 1 rfl
theorem dX12_give_76 : decode cX12_give 76 = .ok (.lshr, 1) := xdc ddX12_give_1 2 rfl
theorem dX12_give_77 : decode cX12_give 77 = .ok (.ldc2_w 423, 3) := xdc ddX12_give_1 3 rfl
theorem dX12_give_80 : decode cX12_give 80 = .ok (.land, 1) := xdc ddX12_give_1 4 rfl
theorem dX12_give_81 : decode cX12_give 81 = .ok (.l2i, 1) := xdc ddX12_give_1 5 rfl
theorem dX12_give_82 : decode cX12_give 82 = .ok (.iastore, 1) := xdc ddX12_give_1 6 rfl
theorem dX12_give_83 : decode cX12_give 83 = .ok (.aload_n 0, 1) := xdc ddX12_give_1 7 rfl
theorem dX12_give_84 : decode cX12_give 84 = .ok (.dup, 1) := xdc ddX12_give_1 8 rfl
theorem dX12_give_85 : decode cX12_give 85 = .ok (.getfield 401, 3) := xdc ddX12_give_1 9 rfl
theorem dX12_give_88 : decode cX12_give 88 = .ok (.iconst 1, 1) := xdc ddX12_give_1 10 rfl
theorem dX12_give_89 : decode cX12_give 89 = .ok (.iadd, 1) := xdc ddX12_give_1 11 rfl
theorem dX12_give_90 : decode cX12_give 90 = .ok (.putfield 401, 3) := xdc ddX12_give_1 12 rfl
theorem dX12_give_93 : decode cX12_give 93 = .ok (.iinc 4 1, 3) := xdc ddX12_give_1 13 rfl
theorem dX12_give_96 : decode cX12_give 96 = .ok (.goto (-49), 3) := xdc ddX12_give_1 14 rfl
theorem dX12_give_99 : decode cX12_give 99 = .ok (.aload_n 0, 1) := xdc ddX12_give_1 15 rfl
theorem dX12_give_100 : decode cX12_give 100 = .ok (.getfield 401, 3) := xdc ddX12_give_1 16 rfl
theorem dX12_give_103 : decode cX12_give 103 = .ok (.ireturn, 1) := xdc ddX12_give_1 17 rfl
abbrev cX12_begin : ByteArray := prog_14_method_82_code
theorem ddX12_begin_0 : xdec cX12_begin [(0, (.aload_n 0, 1)), (1, (.aload_n 0, 1)), (2, (.getfield 195, 3)), (5, (.ifCond .ne 7, 3)), (8, (.iload_n 1, 1)), (9, (.ifCond .eq 10, 3)), (12, (.aload_n 0, 1)), (13, (.getfield 59, 3)), (16, (.ifCond .ne 7, 3)), (19, (.iconst 1, 1)), (20, (.goto 4, 3)), (23, (.iconst 0, 1)), (24, (.putfield 53, 3)), (27, (.aload_n 0, 1)), (28, (.getfield 53, 3)), (31, (.ifCond .le 4, 3)), (34, (.return_, 1)), (35, (.iconst 0, 1)), (36, (.istore_n 2, 1)), (37, (.iload_n 2, 1)), (38, (.bipush 8, 2)), (40, (.if_icmp .ge 26, 3)), (43, (.aload_n 0, 1)), (44, (.getfield 44, 3)), (47, (.iload_n 2, 1)), (48, (.iload_n 2, 1)), (49, (.iconst 4, 1)), (50, (.if_icmp .ne 8, 3)), (53, (.ldc 43, 2)), (55, (.goto 4, 3)), (58, (.iconst 0, 1)), (59, (.iastore, 1)), (60, (.iinc 2 1, 3)), (63, (.goto (-26), 3)), (66, (.aload_n 0, 1)), (67, (.iconst 0, 1)), (68, (.putfield 320, 3)), (71, (.aload_n 0, 1)), (72, (.iconst 0, 1)), (73, (.putfield 317, 3))] = true := by decide +kernel
theorem dX12_begin_0 : decode cX12_begin 0 = .ok (.aload_n 0, 1) := xdc ddX12_begin_0 0 rfl
theorem dX12_begin_1 : decode cX12_begin 1 = .ok (.aload_n 0, 1) := xdc ddX12_begin_0 1 rfl
theorem dX12_begin_2 : decode cX12_begin 2 = .ok (.getfield 195, 3) := xdc ddX12_begin_0 2 rfl
theorem dX12_begin_5 : decode cX12_begin 5 = .ok (.ifCond .ne 7, 3) := xdc ddX12_begin_0 3 rfl
theorem dX12_begin_8 : decode cX12_begin 8 = .ok (.iload_n 1, 1) := xdc ddX12_begin_0 4 rfl
theorem dX12_begin_9 : decode cX12_begin 9 = .ok (.ifCond .eq 10, 3) := xdc ddX12_begin_0 5 rfl
theorem dX12_begin_12 : decode cX12_begin 12 = .ok (.aload_n 0, 1) := xdc ddX12_begin_0 6 rfl
theorem dX12_begin_13 : decode cX12_begin 13 = .ok (.getfield 59, 3) := xdc ddX12_begin_0 7 rfl
theorem dX12_begin_16 : decode cX12_begin 16 = .ok (.ifCond .ne 7, 3) := xdc ddX12_begin_0 8 rfl
theorem dX12_begin_19 : decode cX12_begin 19 = .ok (.iconst 1, 1) := xdc ddX12_begin_0 9 rfl
theorem dX12_begin_20 : decode cX12_begin 20 = .ok (.goto 4, 3) := xdc ddX12_begin_0 10 rfl
theorem dX12_begin_23 : decode cX12_begin 23 = .ok (.iconst 0, 1) := xdc ddX12_begin_0 11 rfl
theorem dX12_begin_24 : decode cX12_begin 24 = .ok (.putfield 53, 3) := xdc ddX12_begin_0 12 rfl
theorem dX12_begin_27 : decode cX12_begin 27 = .ok (.aload_n 0, 1) := xdc ddX12_begin_0 13 rfl
theorem dX12_begin_28 : decode cX12_begin 28 = .ok (.getfield 53, 3) := xdc ddX12_begin_0 14 rfl
theorem dX12_begin_31 : decode cX12_begin 31 = .ok (.ifCond .le 4, 3) := xdc ddX12_begin_0 15 rfl
theorem dX12_begin_34 : decode cX12_begin 34 = .ok (.return_, 1) := xdc ddX12_begin_0 16 rfl
theorem dX12_begin_35 : decode cX12_begin 35 = .ok (.iconst 0, 1) := xdc ddX12_begin_0 17 rfl
theorem dX12_begin_36 : decode cX12_begin 36 = .ok (.istore_n 2, 1) := xdc ddX12_begin_0 18 rfl
theorem dX12_begin_37 : decode cX12_begin 37 = .ok (.iload_n 2, 1) := xdc ddX12_begin_0 19 rfl
theorem dX12_begin_38 : decode cX12_begin 38 = .ok (.bipush 8, 2) := xdc ddX12_begin_0 20 rfl
theorem dX12_begin_40 : decode cX12_begin 40 = .ok (.if_icmp .ge 26, 3) := xdc ddX12_begin_0 21 rfl
theorem dX12_begin_43 : decode cX12_begin 43 = .ok (.aload_n 0, 1) := xdc ddX12_begin_0 22 rfl
theorem dX12_begin_44 : decode cX12_begin 44 = .ok (.getfield 44, 3) := xdc ddX12_begin_0 23 rfl
theorem dX12_begin_47 : decode cX12_begin 47 = .ok (.iload_n 2, 1) := xdc ddX12_begin_0 24 rfl
theorem dX12_begin_48 : decode cX12_begin 48 = .ok (.iload_n 2, 1) := xdc ddX12_begin_0 25 rfl
theorem dX12_begin_49 : decode cX12_begin 49 = .ok (.iconst 4, 1) := xdc ddX12_begin_0 26 rfl
theorem dX12_begin_50 : decode cX12_begin 50 = .ok (.if_icmp .ne 8, 3) := xdc ddX12_begin_0 27 rfl
theorem dX12_begin_53 : decode cX12_begin 53 = .ok (.ldc 43, 2) := xdc ddX12_begin_0 28 rfl
theorem dX12_begin_55 : decode cX12_begin 55 = .ok (.goto 4, 3) := xdc ddX12_begin_0 29 rfl
theorem dX12_begin_58 : decode cX12_begin 58 = .ok (.iconst 0, 1) := xdc ddX12_begin_0 30 rfl
theorem dX12_begin_59 : decode cX12_begin 59 = .ok (.iastore, 1) := xdc ddX12_begin_0 31 rfl
theorem dX12_begin_60 : decode cX12_begin 60 = .ok (.iinc 2 1, 3) := xdc ddX12_begin_0 32 rfl
theorem dX12_begin_63 : decode cX12_begin 63 = .ok (.goto (-26), 3) := xdc ddX12_begin_0 33 rfl
theorem dX12_begin_66 : decode cX12_begin 66 = .ok (.aload_n 0, 1) := xdc ddX12_begin_0 34 rfl
theorem dX12_begin_67 : decode cX12_begin 67 = .ok (.iconst 0, 1) := xdc ddX12_begin_0 35 rfl
theorem dX12_begin_68 : decode cX12_begin 68 = .ok (.putfield 320, 3) := xdc ddX12_begin_0 36 rfl
theorem dX12_begin_71 : decode cX12_begin 71 = .ok (.aload_n 0, 1) := xdc ddX12_begin_0 37 rfl
theorem dX12_begin_72 : decode cX12_begin 72 = .ok (.iconst 0, 1) := xdc ddX12_begin_0 38 rfl
theorem dX12_begin_73 : decode cX12_begin 73 = .ok (.putfield 317, 3) := xdc ddX12_begin_0 39 rfl
theorem ddX12_begin_1 : xdec cX12_begin [(76, (.aload_n 0, 1)), (77, (.iconst 0, 1)), (78, (.putfield 307, 3)), (81, (.aload_n 0, 1)), (82, (.iconst 0, 1)), (83, (.putfield 314, 3)), (86, (.aload_n 0, 1)), (87, (.iconst 0, 1)), (88, (.putfield 323, 3)), (91, (.aload_n 0, 1)), (92, (.sipush 4096, 3)), (95, (.putfield 40, 3)), (98, (.aload_n 0, 1)), (99, (.iconst 1, 1)), (100, (.putfield 395, 3)), (103, (.aload_n 0, 1)), (104, (.iconst 0, 1)), (105, (.putfield 392, 3)), (108, (.aload_n 0, 1)), (109, (.ldc 13, 2)), (111, (.putfield 47, 3)), (114, (.aload_n 0, 1)), (115, (.iconst 0, 1)), (116, (.putfield 411, 3)), (119, (.aload_n 0, 1)), (120, (.lconst 0, 1)), (121, (.putfield 407, 3)), (124, (.aload_n 0, 1)), (125, (.iconst 0, 1)), (126, (.putfield 398, 3)), (129, (.iconst 0, 1)), (130, (.istore_n 2, 1)), (131, (.iload_n 2, 1)), (132, (.sipush 2048, 3)), (135, (.if_icmp .ge 16, 3)), (138, (.aload_n 0, 1)), (139, (.getfield 30, 3)), (142, (.iload_n 2, 1)), (143, (.iconst 0, 1)), (144, (.iastore, 1))] = true := by decide +kernel
theorem dX12_begin_76 : decode cX12_begin 76 = .ok (.aload_n 0, 1) := xdc ddX12_begin_1 0 rfl
theorem dX12_begin_77 : decode cX12_begin 77 = .ok (.iconst 0, 1) := xdc ddX12_begin_1 1 rfl
theorem dX12_begin_78 : decode cX12_begin 78 = .ok (.putfield 307, 3) := xdc ddX12_begin_1 2 rfl
theorem dX12_begin_81 : decode cX12_begin 81 = .ok (.aload_n 0, 1) := xdc ddX12_begin_1 3 rfl
theorem dX12_begin_82 : decode cX12_begin 82 = .ok (.iconst 0, 1) := xdc ddX12_begin_1 4 rfl
theorem dX12_begin_83 : decode cX12_begin 83 = .ok (.putfield 314, 3) := xdc ddX12_begin_1 5 rfl
theorem dX12_begin_86 : decode cX12_begin 86 = .ok (.aload_n 0, 1) := xdc ddX12_begin_1 6 rfl
theorem dX12_begin_87 : decode cX12_begin 87 = .ok (.iconst 0, 1) := xdc ddX12_begin_1 7 rfl
theorem dX12_begin_88 : decode cX12_begin 88 = .ok (.putfield 323, 3) := xdc ddX12_begin_1 8 rfl
theorem dX12_begin_91 : decode cX12_begin 91 = .ok (.aload_n 0, 1) := xdc ddX12_begin_1 9 rfl
theorem dX12_begin_92 : decode cX12_begin 92 = .ok (.sipush 4096, 3) := xdc ddX12_begin_1 10 rfl
theorem dX12_begin_95 : decode cX12_begin 95 = .ok (.putfield 40, 3) := xdc ddX12_begin_1 11 rfl
theorem dX12_begin_98 : decode cX12_begin 98 = .ok (.aload_n 0, 1) := xdc ddX12_begin_1 12 rfl
theorem dX12_begin_99 : decode cX12_begin 99 = .ok (.iconst 1, 1) := xdc ddX12_begin_1 13 rfl
theorem dX12_begin_100 : decode cX12_begin 100 = .ok (.putfield 395, 3) := xdc ddX12_begin_1 14 rfl
theorem dX12_begin_103 : decode cX12_begin 103 = .ok (.aload_n 0, 1) := xdc ddX12_begin_1 15 rfl
theorem dX12_begin_104 : decode cX12_begin 104 = .ok (.iconst 0, 1) := xdc ddX12_begin_1 16 rfl
theorem dX12_begin_105 : decode cX12_begin 105 = .ok (.putfield 392, 3) := xdc ddX12_begin_1 17 rfl
theorem dX12_begin_108 : decode cX12_begin 108 = .ok (.aload_n 0, 1) := xdc ddX12_begin_1 18 rfl
theorem dX12_begin_109 : decode cX12_begin 109 = .ok (.ldc 13, 2) := xdc ddX12_begin_1 19 rfl
theorem dX12_begin_111 : decode cX12_begin 111 = .ok (.putfield 47, 3) := xdc ddX12_begin_1 20 rfl
theorem dX12_begin_114 : decode cX12_begin 114 = .ok (.aload_n 0, 1) := xdc ddX12_begin_1 21 rfl
theorem dX12_begin_115 : decode cX12_begin 115 = .ok (.iconst 0, 1) := xdc ddX12_begin_1 22 rfl
theorem dX12_begin_116 : decode cX12_begin 116 = .ok (.putfield 411, 3) := xdc ddX12_begin_1 23 rfl
theorem dX12_begin_119 : decode cX12_begin 119 = .ok (.aload_n 0, 1) := xdc ddX12_begin_1 24 rfl
theorem dX12_begin_120 : decode cX12_begin 120 = .ok (.lconst 0, 1) := xdc ddX12_begin_1 25 rfl
theorem dX12_begin_121 : decode cX12_begin 121 = .ok (.putfield 407, 3) := xdc ddX12_begin_1 26 rfl
theorem dX12_begin_124 : decode cX12_begin 124 = .ok (.aload_n 0, 1) := xdc ddX12_begin_1 27 rfl
theorem dX12_begin_125 : decode cX12_begin 125 = .ok (.iconst 0, 1) := xdc ddX12_begin_1 28 rfl
theorem dX12_begin_126 : decode cX12_begin 126 = .ok (.putfield 398, 3) := xdc ddX12_begin_1 29 rfl
theorem dX12_begin_129 : decode cX12_begin 129 = .ok (.iconst 0, 1) := xdc ddX12_begin_1 30 rfl
theorem dX12_begin_130 : decode cX12_begin 130 = .ok (.istore_n 2, 1) := xdc ddX12_begin_1 31 rfl
theorem dX12_begin_131 : decode cX12_begin 131 = .ok (.iload_n 2, 1) := xdc ddX12_begin_1 32 rfl
theorem dX12_begin_132 : decode cX12_begin 132 = .ok (.sipush 2048, 3) := xdc ddX12_begin_1 33 rfl
theorem dX12_begin_135 : decode cX12_begin 135 = .ok (.if_icmp .ge 16, 3) := xdc ddX12_begin_1 34 rfl
theorem dX12_begin_138 : decode cX12_begin 138 = .ok (.aload_n 0, 1) := xdc ddX12_begin_1 35 rfl
theorem dX12_begin_139 : decode cX12_begin 139 = .ok (.getfield 30, 3) := xdc ddX12_begin_1 36 rfl
theorem dX12_begin_142 : decode cX12_begin 142 = .ok (.iload_n 2, 1) := xdc ddX12_begin_1 37 rfl
theorem dX12_begin_143 : decode cX12_begin 143 = .ok (.iconst 0, 1) := xdc ddX12_begin_1 38 rfl
theorem dX12_begin_144 : decode cX12_begin 144 = .ok (.iastore, 1) := xdc ddX12_begin_1 39 rfl
theorem ddX12_begin_2 : xdec cX12_begin [(145, (.iinc 2 1, 3)), (148, (.goto (-17), 3)), (151, (.return_, 1))] = true := by decide +kernel
theorem dX12_begin_145 : decode cX12_begin 145 = .ok (.iinc 2 1, 3) := xdc ddX12_begin_2 0 rfl
theorem dX12_begin_148 : decode cX12_begin 148 = .ok (.goto (-17), 3) := xdc ddX12_begin_2 1 rfl
theorem dX12_begin_151 : decode cX12_begin 151 = .ok (.return_, 1) := xdc ddX12_begin_2 2 rfl
abbrev cX12_run : ByteArray := prog_14_method_83_code
theorem ddX12_run_0 : xdec cX12_run [(0, (.aload_n 0, 1)), (1, (.iload_n 1, 1)), (2, (.i2l, 1)), (3, (.lconst 0, 1)), (4, (.ldc2_w 430, 3)), (7, (.invokestatic 163, 3)), (10, (.ifCond .ne 7, 3)), (13, (.iconst 1, 1)), (14, (.goto 15, 3)), (17, (.aload_n 0, 1)), (18, (.getfield 395, 3)), (21, (.ifCond .ne 7, 3)), (24, (.iconst 2, 1)), (25, (.goto 4, 3)), (28, (.iconst 0, 1)), (29, (.putfield 53, 3)), (32, (.aload_n 0, 1)), (33, (.getfield 53, 3)), (36, (.ifCond .le 5, 3)), (39, (.iconst 0, 1)), (40, (.ireturn, 1)), (41, (.aload_n 0, 1)), (42, (.aload_n 0, 1)), (43, (.getfield 395, 3)), (46, (.bipush 7, 2)), (48, (.if_icmp .eq 12, 3)), (51, (.aload_n 0, 1)), (52, (.getfield 395, 3)), (55, (.bipush 8, 2)), (57, (.if_icmp .ne 7, 3)), (60, (.iconst 1, 1)), (61, (.goto 7, 3)), (64, (.aload_n 0, 1)), (65, (.getfield 395, 3)), (68, (.putfield 395, 3)), (71, (.iconst 0, 1)), (72, (.istore_n 2, 1)), (73, (.iconst 1, 1)), (74, (.istore_n 3, 1)), (75, (.iload_n 2, 1))] = true := by decide +kernel
theorem dX12_run_0 : decode cX12_run 0 = .ok (.aload_n 0, 1) := xdc ddX12_run_0 0 rfl
theorem dX12_run_1 : decode cX12_run 1 = .ok (.iload_n 1, 1) := xdc ddX12_run_0 1 rfl
theorem dX12_run_2 : decode cX12_run 2 = .ok (.i2l, 1) := xdc ddX12_run_0 2 rfl
theorem dX12_run_3 : decode cX12_run 3 = .ok (.lconst 0, 1) := xdc ddX12_run_0 3 rfl
theorem dX12_run_4 : decode cX12_run 4 = .ok (.ldc2_w 430, 3) := xdc ddX12_run_0 4 rfl
theorem dX12_run_7 : decode cX12_run 7 = .ok (.invokestatic 163, 3) := xdc ddX12_run_0 5 rfl
theorem dX12_run_10 : decode cX12_run 10 = .ok (.ifCond .ne 7, 3) := xdc ddX12_run_0 6 rfl
theorem dX12_run_13 : decode cX12_run 13 = .ok (.iconst 1, 1) := xdc ddX12_run_0 7 rfl
theorem dX12_run_14 : decode cX12_run 14 = .ok (.goto 15, 3) := xdc ddX12_run_0 8 rfl
theorem dX12_run_17 : decode cX12_run 17 = .ok (.aload_n 0, 1) := xdc ddX12_run_0 9 rfl
theorem dX12_run_18 : decode cX12_run 18 = .ok (.getfield 395, 3) := xdc ddX12_run_0 10 rfl
theorem dX12_run_21 : decode cX12_run 21 = .ok (.ifCond .ne 7, 3) := xdc ddX12_run_0 11 rfl
theorem dX12_run_24 : decode cX12_run 24 = .ok (.iconst 2, 1) := xdc ddX12_run_0 12 rfl
theorem dX12_run_25 : decode cX12_run 25 = .ok (.goto 4, 3) := xdc ddX12_run_0 13 rfl
theorem dX12_run_28 : decode cX12_run 28 = .ok (.iconst 0, 1) := xdc ddX12_run_0 14 rfl
theorem dX12_run_29 : decode cX12_run 29 = .ok (.putfield 53, 3) := xdc ddX12_run_0 15 rfl
theorem dX12_run_32 : decode cX12_run 32 = .ok (.aload_n 0, 1) := xdc ddX12_run_0 16 rfl
theorem dX12_run_33 : decode cX12_run 33 = .ok (.getfield 53, 3) := xdc ddX12_run_0 17 rfl
theorem dX12_run_36 : decode cX12_run 36 = .ok (.ifCond .le 5, 3) := xdc ddX12_run_0 18 rfl
theorem dX12_run_39 : decode cX12_run 39 = .ok (.iconst 0, 1) := xdc ddX12_run_0 19 rfl
theorem dX12_run_40 : decode cX12_run 40 = .ok (.ireturn, 1) := xdc ddX12_run_0 20 rfl
theorem dX12_run_41 : decode cX12_run 41 = .ok (.aload_n 0, 1) := xdc ddX12_run_0 21 rfl
theorem dX12_run_42 : decode cX12_run 42 = .ok (.aload_n 0, 1) := xdc ddX12_run_0 22 rfl
theorem dX12_run_43 : decode cX12_run 43 = .ok (.getfield 395, 3) := xdc ddX12_run_0 23 rfl
theorem dX12_run_46 : decode cX12_run 46 = .ok (.bipush 7, 2) := xdc ddX12_run_0 24 rfl
theorem dX12_run_48 : decode cX12_run 48 = .ok (.if_icmp .eq 12, 3) := xdc ddX12_run_0 25 rfl
theorem dX12_run_51 : decode cX12_run 51 = .ok (.aload_n 0, 1) := xdc ddX12_run_0 26 rfl
theorem dX12_run_52 : decode cX12_run 52 = .ok (.getfield 395, 3) := xdc ddX12_run_0 27 rfl
theorem dX12_run_55 : decode cX12_run 55 = .ok (.bipush 8, 2) := xdc ddX12_run_0 28 rfl
theorem dX12_run_57 : decode cX12_run 57 = .ok (.if_icmp .ne 7, 3) := xdc ddX12_run_0 29 rfl
theorem dX12_run_60 : decode cX12_run 60 = .ok (.iconst 1, 1) := xdc ddX12_run_0 30 rfl
theorem dX12_run_61 : decode cX12_run 61 = .ok (.goto 7, 3) := xdc ddX12_run_0 31 rfl
theorem dX12_run_64 : decode cX12_run 64 = .ok (.aload_n 0, 1) := xdc ddX12_run_0 32 rfl
theorem dX12_run_65 : decode cX12_run 65 = .ok (.getfield 395, 3) := xdc ddX12_run_0 33 rfl
theorem dX12_run_68 : decode cX12_run 68 = .ok (.putfield 395, 3) := xdc ddX12_run_0 34 rfl
theorem dX12_run_71 : decode cX12_run 71 = .ok (.iconst 0, 1) := xdc ddX12_run_0 35 rfl
theorem dX12_run_72 : decode cX12_run 72 = .ok (.istore_n 2, 1) := xdc ddX12_run_0 36 rfl
theorem dX12_run_73 : decode cX12_run 73 = .ok (.iconst 1, 1) := xdc ddX12_run_0 37 rfl
theorem dX12_run_74 : decode cX12_run 74 = .ok (.istore_n 3, 1) := xdc ddX12_run_0 38 rfl
theorem dX12_run_75 : decode cX12_run 75 = .ok (.iload_n 2, 1) := xdc ddX12_run_0 39 rfl
theorem ddX12_run_1 : xdec cX12_run [(76, (.iload_n 1, 1)), (77, (.if_icmp .ge 82, 3)), (80, (.aload_n 0, 1)), (81, (.getfield 395, 3)), (84, (.iconst 1, 1)), (85, (.if_icmp .ne 74, 3)), (88, (.aload_n 0, 1)), (89, (.getfield 40, 3)), (92, (.i2l, 1)), (93, (.ldc2_w 186, 3)), (96, (.land, 1)), (97, (.ldc2_w 214, 3)), (100, (.lsub, 1)), (101, (.lstore 4, 2)), (103, (.iload_n 3, 1)), (104, (.ifCond .ne 35, 3)), (107, (.lload 4, 2)), (109, (.lconst 0, 1)), (110, (.ldc2_w 161, 3)), (113, (.invokestatic 163, 3)), (116, (.ifCond .eq 23, 3)), (119, (.aload_n 0, 1)), (120, (.getfield 33, 3)), (123, (.lload 4, 2)), (125, (.l2i, 1)), (126, (.baload, 1)), (127, (.ifCond .eq 12, 3)), (130, (.aload_n 0, 1)), (131, (.bipush 8, 2)), (133, (.putfield 395, 3)), (136, (.goto 18, 3)), (139, (.iload_n 2, 1)), (140, (.aload_n 0, 1)), (141, (.invokevirtual 432, 3)), (144, (.ifCond .eq 7, 3)), (147, (.iconst 1, 1)), (148, (.goto 4, 3)), (151, (.iconst 0, 1)), (152, (.iadd, 1)), (153, (.istore_n 2, 1))] = true := by decide +kernel
theorem dX12_run_76 : decode cX12_run 76 = .ok (.iload_n 1, 1) := xdc ddX12_run_1 0 rfl
theorem dX12_run_77 : decode cX12_run 77 = .ok (.if_icmp .ge 82, 3) := xdc ddX12_run_1 1 rfl
theorem dX12_run_80 : decode cX12_run 80 = .ok (.aload_n 0, 1) := xdc ddX12_run_1 2 rfl
theorem dX12_run_81 : decode cX12_run 81 = .ok (.getfield 395, 3) := xdc ddX12_run_1 3 rfl
theorem dX12_run_84 : decode cX12_run 84 = .ok (.iconst 1, 1) := xdc ddX12_run_1 4 rfl
theorem dX12_run_85 : decode cX12_run 85 = .ok (.if_icmp .ne 74, 3) := xdc ddX12_run_1 5 rfl
theorem dX12_run_88 : decode cX12_run 88 = .ok (.aload_n 0, 1) := xdc ddX12_run_1 6 rfl
theorem dX12_run_89 : decode cX12_run 89 = .ok (.getfield 40, 3) := xdc ddX12_run_1 7 rfl
theorem dX12_run_92 : decode cX12_run 92 = .ok (.i2l, 1) := xdc ddX12_run_1 8 rfl
theorem dX12_run_93 : decode cX12_run 93 = .ok (.ldc2_w 186, 3) := xdc ddX12_run_1 9 rfl
theorem dX12_run_96 : decode cX12_run 96 = .ok (.land, 1) := xdc ddX12_run_1 10 rfl
theorem dX12_run_97 : decode cX12_run 97 = .ok (.ldc2_w 214, 3) := xdc ddX12_run_1 11 rfl
theorem dX12_run_100 : decode cX12_run 100 = .ok (.lsub, 1) := xdc ddX12_run_1 12 rfl
theorem dX12_run_101 : decode cX12_run 101 = .ok (.lstore 4, 2) := xdc ddX12_run_1 13 rfl
theorem dX12_run_103 : decode cX12_run 103 = .ok (.iload_n 3, 1) := xdc ddX12_run_1 14 rfl
theorem dX12_run_104 : decode cX12_run 104 = .ok (.ifCond .ne 35, 3) := xdc ddX12_run_1 15 rfl
theorem dX12_run_107 : decode cX12_run 107 = .ok (.lload 4, 2) := xdc ddX12_run_1 16 rfl
theorem dX12_run_109 : decode cX12_run 109 = .ok (.lconst 0, 1) := xdc ddX12_run_1 17 rfl
theorem dX12_run_110 : decode cX12_run 110 = .ok (.ldc2_w 161, 3) := xdc ddX12_run_1 18 rfl
theorem dX12_run_113 : decode cX12_run 113 = .ok (.invokestatic 163, 3) := xdc ddX12_run_1 19 rfl
theorem dX12_run_116 : decode cX12_run 116 = .ok (.ifCond .eq 23, 3) := xdc ddX12_run_1 20 rfl
theorem dX12_run_119 : decode cX12_run 119 = .ok (.aload_n 0, 1) := xdc ddX12_run_1 21 rfl
theorem dX12_run_120 : decode cX12_run 120 = .ok (.getfield 33, 3) := xdc ddX12_run_1 22 rfl
theorem dX12_run_123 : decode cX12_run 123 = .ok (.lload 4, 2) := xdc ddX12_run_1 23 rfl
theorem dX12_run_125 : decode cX12_run 125 = .ok (.l2i, 1) := xdc ddX12_run_1 24 rfl
theorem dX12_run_126 : decode cX12_run 126 = .ok (.baload, 1) := xdc ddX12_run_1 25 rfl
theorem dX12_run_127 : decode cX12_run 127 = .ok (.ifCond .eq 12, 3) := xdc ddX12_run_1 26 rfl
theorem dX12_run_130 : decode cX12_run 130 = .ok (.aload_n 0, 1) := xdc ddX12_run_1 27 rfl
theorem dX12_run_131 : decode cX12_run 131 = .ok (.bipush 8, 2) := xdc ddX12_run_1 28 rfl
theorem dX12_run_133 : decode cX12_run 133 = .ok (.putfield 395, 3) := xdc ddX12_run_1 29 rfl
theorem dX12_run_136 : decode cX12_run 136 = .ok (.goto 18, 3) := xdc ddX12_run_1 30 rfl
theorem dX12_run_139 : decode cX12_run 139 = .ok (.iload_n 2, 1) := xdc ddX12_run_1 31 rfl
theorem dX12_run_140 : decode cX12_run 140 = .ok (.aload_n 0, 1) := xdc ddX12_run_1 32 rfl
theorem dX12_run_141 : decode cX12_run 141 = .ok (.invokevirtual 432, 3) := xdc ddX12_run_1 33 rfl
theorem dX12_run_144 : decode cX12_run 144 = .ok (.ifCond .eq 7, 3) := xdc ddX12_run_1 34 rfl
theorem dX12_run_147 : decode cX12_run 147 = .ok (.iconst 1, 1) := xdc ddX12_run_1 35 rfl
theorem dX12_run_148 : decode cX12_run 148 = .ok (.goto 4, 3) := xdc ddX12_run_1 36 rfl
theorem dX12_run_151 : decode cX12_run 151 = .ok (.iconst 0, 1) := xdc ddX12_run_1 37 rfl
theorem dX12_run_152 : decode cX12_run 152 = .ok (.iadd, 1) := xdc ddX12_run_1 38 rfl
theorem dX12_run_153 : decode cX12_run 153 = .ok (.istore_n 2, 1) := xdc ddX12_run_1 39 rfl
theorem ddX12_run_2 : xdec cX12_run [(154, (.iconst 0, 1)), (155, (.istore_n 3, 1)), (156, (.goto (-81), 3)), (159, (.iload_n 2, 1)), (160, (.ireturn, 1))] = true := by decide +kernel
theorem dX12_run_154 : decode cX12_run 154 = .ok (.iconst 0, 1) := xdc ddX12_run_2 0 rfl
theorem dX12_run_155 : decode cX12_run 155 = .ok (.istore_n 3, 1) := xdc ddX12_run_2 1 rfl
theorem dX12_run_156 : decode cX12_run 156 = .ok (.goto (-81), 3) := xdc ddX12_run_2 2 rfl
theorem dX12_run_159 : decode cX12_run 159 = .ok (.iload_n 2, 1) := xdc ddX12_run_2 3 rfl
theorem dX12_run_160 : decode cX12_run 160 = .ok (.ireturn, 1) := xdc ddX12_run_2 4 rfl
abbrev cX12_stop : ByteArray := prog_14_method_84_code
theorem ddX12_stop_0 : xdec cX12_stop [(0, (.aload_n 0, 1)), (1, (.iload_n 1, 1)), (2, (.i2l, 1)), (3, (.lconst 0, 1)), (4, (.ldc2_w 161, 3)), (7, (.invokestatic 163, 3)), (10, (.ifCond .eq 7, 3)), (13, (.iconst 0, 1)), (14, (.goto 4, 3)), (17, (.iconst 1, 1)), (18, (.putfield 53, 3)), (21, (.aload_n 0, 1)), (22, (.getfield 53, 3)), (25, (.ifCond .le 5, 3)), (28, (.iconst 0, 1)), (29, (.ireturn, 1)), (30, (.aload_n 0, 1)), (31, (.getfield 33, 3)), (34, (.iload_n 1, 1)), (35, (.baload, 1)), (36, (.istore_n 3, 1)), (37, (.aload_n 0, 1)), (38, (.getfield 33, 3)), (41, (.iload_n 1, 1)), (42, (.iload_n 2, 1)), (43, (.bastore, 1)), (44, (.iload_n 3, 1)), (45, (.ireturn, 1))] = true := by decide +kernel
theorem dX12_stop_0 : decode cX12_stop 0 = .ok (.aload_n 0, 1) := xdc ddX12_stop_0 0 rfl
theorem dX12_stop_1 : decode cX12_stop 1 = .ok (.iload_n 1, 1) := xdc ddX12_stop_0 1 rfl
theorem dX12_stop_2 : decode cX12_stop 2 = .ok (.i2l, 1) := xdc ddX12_stop_0 2 rfl
theorem dX12_stop_3 : decode cX12_stop 3 = .ok (.lconst 0, 1) := xdc ddX12_stop_0 3 rfl
theorem dX12_stop_4 : decode cX12_stop 4 = .ok (.ldc2_w 161, 3) := xdc ddX12_stop_0 4 rfl
theorem dX12_stop_7 : decode cX12_stop 7 = .ok (.invokestatic 163, 3) := xdc ddX12_stop_0 5 rfl
theorem dX12_stop_10 : decode cX12_stop 10 = .ok (.ifCond .eq 7, 3) := xdc ddX12_stop_0 6 rfl
theorem dX12_stop_13 : decode cX12_stop 13 = .ok (.iconst 0, 1) := xdc ddX12_stop_0 7 rfl
theorem dX12_stop_14 : decode cX12_stop 14 = .ok (.goto 4, 3) := xdc ddX12_stop_0 8 rfl
theorem dX12_stop_17 : decode cX12_stop 17 = .ok (.iconst 1, 1) := xdc ddX12_stop_0 9 rfl
theorem dX12_stop_18 : decode cX12_stop 18 = .ok (.putfield 53, 3) := xdc ddX12_stop_0 10 rfl
theorem dX12_stop_21 : decode cX12_stop 21 = .ok (.aload_n 0, 1) := xdc ddX12_stop_0 11 rfl
theorem dX12_stop_22 : decode cX12_stop 22 = .ok (.getfield 53, 3) := xdc ddX12_stop_0 12 rfl
theorem dX12_stop_25 : decode cX12_stop 25 = .ok (.ifCond .le 5, 3) := xdc ddX12_stop_0 13 rfl
theorem dX12_stop_28 : decode cX12_stop 28 = .ok (.iconst 0, 1) := xdc ddX12_stop_0 14 rfl
theorem dX12_stop_29 : decode cX12_stop 29 = .ok (.ireturn, 1) := xdc ddX12_stop_0 15 rfl
theorem dX12_stop_30 : decode cX12_stop 30 = .ok (.aload_n 0, 1) := xdc ddX12_stop_0 16 rfl
theorem dX12_stop_31 : decode cX12_stop 31 = .ok (.getfield 33, 3) := xdc ddX12_stop_0 17 rfl
theorem dX12_stop_34 : decode cX12_stop 34 = .ok (.iload_n 1, 1) := xdc ddX12_stop_0 18 rfl
theorem dX12_stop_35 : decode cX12_stop 35 = .ok (.baload, 1) := xdc ddX12_stop_0 19 rfl
theorem dX12_stop_36 : decode cX12_stop 36 = .ok (.istore_n 3, 1) := xdc ddX12_stop_0 20 rfl
theorem dX12_stop_37 : decode cX12_stop 37 = .ok (.aload_n 0, 1) := xdc ddX12_stop_0 21 rfl
theorem dX12_stop_38 : decode cX12_stop 38 = .ok (.getfield 33, 3) := xdc ddX12_stop_0 22 rfl
theorem dX12_stop_41 : decode cX12_stop 41 = .ok (.iload_n 1, 1) := xdc ddX12_stop_0 23 rfl
theorem dX12_stop_42 : decode cX12_stop 42 = .ok (.iload_n 2, 1) := xdc ddX12_stop_0 24 rfl
theorem dX12_stop_43 : decode cX12_stop 43 = .ok (.bastore, 1) := xdc ddX12_stop_0 25 rfl
theorem dX12_stop_44 : decode cX12_stop 44 = .ok (.iload_n 3, 1) := xdc ddX12_stop_0 26 rfl
theorem dX12_stop_45 : decode cX12_stop 45 = .ok (.ireturn, 1) := xdc ddX12_stop_0 27 rfl
abbrev cX12_told : ByteArray := prog_14_method_85_code
theorem ddX12_told_0 : xdec cX12_told [(0, (.aload_n 0, 1)), (1, (.iload_n 1, 1)), (2, (.i2l, 1)), (3, (.lconst 0, 1)), (4, (.ldc2_w 263, 3)), (7, (.invokestatic 163, 3)), (10, (.ifCond .eq 7, 3)), (13, (.iconst 0, 1)), (14, (.goto 4, 3)), (17, (.iconst 1, 1)), (18, (.putfield 53, 3)), (21, (.aload_n 0, 1)), (22, (.getfield 53, 3)), (25, (.ifCond .le 5, 3)), (28, (.iconst 0, 1)), (29, (.ireturn, 1)), (30, (.iload_n 1, 1)), (31, (.tableswitch 76 0 6 #[41, 46, 51, 56, 61, 66, 71], 41)), (72, (.aload_n 0, 1)), (73, (.getfield 395, 3)), (76, (.ireturn, 1)), (77, (.aload_n 0, 1)), (78, (.getfield 40, 3)), (81, (.ireturn, 1)), (82, (.aload_n 0, 1)), (83, (.getfield 392, 3)), (86, (.ireturn, 1)), (87, (.aload_n 0, 1)), (88, (.getfield 398, 3)), (91, (.ireturn, 1)), (92, (.aload_n 0, 1)), (93, (.getfield 401, 3)), (96, (.ireturn, 1)), (97, (.aload_n 0, 1)), (98, (.getfield 47, 3)), (101, (.ireturn, 1)), (102, (.aload_n 0, 1)), (103, (.getfield 411, 3)), (106, (.ireturn, 1)), (107, (.aload_n 0, 1))] = true := by decide +kernel
theorem dX12_told_0 : decode cX12_told 0 = .ok (.aload_n 0, 1) := xdc ddX12_told_0 0 rfl
theorem dX12_told_1 : decode cX12_told 1 = .ok (.iload_n 1, 1) := xdc ddX12_told_0 1 rfl
theorem dX12_told_2 : decode cX12_told 2 = .ok (.i2l, 1) := xdc ddX12_told_0 2 rfl
theorem dX12_told_3 : decode cX12_told 3 = .ok (.lconst 0, 1) := xdc ddX12_told_0 3 rfl
theorem dX12_told_4 : decode cX12_told 4 = .ok (.ldc2_w 263, 3) := xdc ddX12_told_0 4 rfl
theorem dX12_told_7 : decode cX12_told 7 = .ok (.invokestatic 163, 3) := xdc ddX12_told_0 5 rfl
theorem dX12_told_10 : decode cX12_told 10 = .ok (.ifCond .eq 7, 3) := xdc ddX12_told_0 6 rfl
theorem dX12_told_13 : decode cX12_told 13 = .ok (.iconst 0, 1) := xdc ddX12_told_0 7 rfl
theorem dX12_told_14 : decode cX12_told 14 = .ok (.goto 4, 3) := xdc ddX12_told_0 8 rfl
theorem dX12_told_17 : decode cX12_told 17 = .ok (.iconst 1, 1) := xdc ddX12_told_0 9 rfl
theorem dX12_told_18 : decode cX12_told 18 = .ok (.putfield 53, 3) := xdc ddX12_told_0 10 rfl
theorem dX12_told_21 : decode cX12_told 21 = .ok (.aload_n 0, 1) := xdc ddX12_told_0 11 rfl
theorem dX12_told_22 : decode cX12_told 22 = .ok (.getfield 53, 3) := xdc ddX12_told_0 12 rfl
theorem dX12_told_25 : decode cX12_told 25 = .ok (.ifCond .le 5, 3) := xdc ddX12_told_0 13 rfl
theorem dX12_told_28 : decode cX12_told 28 = .ok (.iconst 0, 1) := xdc ddX12_told_0 14 rfl
theorem dX12_told_29 : decode cX12_told 29 = .ok (.ireturn, 1) := xdc ddX12_told_0 15 rfl
theorem dX12_told_30 : decode cX12_told 30 = .ok (.iload_n 1, 1) := xdc ddX12_told_0 16 rfl
theorem dX12_told_31 : decode cX12_told 31 = .ok (.tableswitch 76 0 6 #[41, 46, 51, 56, 61, 66, 71], 41) := xdc ddX12_told_0 17 rfl
theorem dX12_told_72 : decode cX12_told 72 = .ok (.aload_n 0, 1) := xdc ddX12_told_0 18 rfl
theorem dX12_told_73 : decode cX12_told 73 = .ok (.getfield 395, 3) := xdc ddX12_told_0 19 rfl
theorem dX12_told_76 : decode cX12_told 76 = .ok (.ireturn, 1) := xdc ddX12_told_0 20 rfl
theorem dX12_told_77 : decode cX12_told 77 = .ok (.aload_n 0, 1) := xdc ddX12_told_0 21 rfl
theorem dX12_told_78 : decode cX12_told 78 = .ok (.getfield 40, 3) := xdc ddX12_told_0 22 rfl
theorem dX12_told_81 : decode cX12_told 81 = .ok (.ireturn, 1) := xdc ddX12_told_0 23 rfl
theorem dX12_told_82 : decode cX12_told 82 = .ok (.aload_n 0, 1) := xdc ddX12_told_0 24 rfl
theorem dX12_told_83 : decode cX12_told 83 = .ok (.getfield 392, 3) := xdc ddX12_told_0 25 rfl
theorem dX12_told_86 : decode cX12_told 86 = .ok (.ireturn, 1) := xdc ddX12_told_0 26 rfl
theorem dX12_told_87 : decode cX12_told 87 = .ok (.aload_n 0, 1) := xdc ddX12_told_0 27 rfl
theorem dX12_told_88 : decode cX12_told 88 = .ok (.getfield 398, 3) := xdc ddX12_told_0 28 rfl
theorem dX12_told_91 : decode cX12_told 91 = .ok (.ireturn, 1) := xdc ddX12_told_0 29 rfl
theorem dX12_told_92 : decode cX12_told 92 = .ok (.aload_n 0, 1) := xdc ddX12_told_0 30 rfl
theorem dX12_told_93 : decode cX12_told 93 = .ok (.getfield 401, 3) := xdc ddX12_told_0 31 rfl
theorem dX12_told_96 : decode cX12_told 96 = .ok (.ireturn, 1) := xdc ddX12_told_0 32 rfl
theorem dX12_told_97 : decode cX12_told 97 = .ok (.aload_n 0, 1) := xdc ddX12_told_0 33 rfl
theorem dX12_told_98 : decode cX12_told 98 = .ok (.getfield 47, 3) := xdc ddX12_told_0 34 rfl
theorem dX12_told_101 : decode cX12_told 101 = .ok (.ireturn, 1) := xdc ddX12_told_0 35 rfl
theorem dX12_told_102 : decode cX12_told 102 = .ok (.aload_n 0, 1) := xdc ddX12_told_0 36 rfl
theorem dX12_told_103 : decode cX12_told 103 = .ok (.getfield 411, 3) := xdc ddX12_told_0 37 rfl
theorem dX12_told_106 : decode cX12_told 106 = .ok (.ireturn, 1) := xdc ddX12_told_0 38 rfl
theorem dX12_told_107 : decode cX12_told 107 = .ok (.aload_n 0, 1) := xdc ddX12_told_0 39 rfl
theorem ddX12_told_1 : xdec cX12_told [(108, (.getfield 320, 3)), (111, (.ifCond .eq 7, 3)), (114, (.iconst 1, 1)), (115, (.goto 4, 3)), (118, (.iconst 0, 1)), (119, (.aload_n 0, 1)), (120, (.getfield 317, 3)), (123, (.ifCond .eq 7, 3)), (126, (.iconst 4, 1)), (127, (.goto 4, 3)), (130, (.iconst 0, 1)), (131, (.iadd, 1)), (132, (.aload_n 0, 1)), (133, (.getfield 307, 3)), (136, (.ifCond .eq 8, 3)), (139, (.bipush 64, 2)), (141, (.goto 4, 3)), (144, (.iconst 0, 1)), (145, (.iadd, 1)), (146, (.aload_n 0, 1)), (147, (.getfield 314, 3)), (150, (.ifCond .eq 9, 3)), (153, (.sipush 128, 3)), (156, (.goto 4, 3)), (159, (.iconst 0, 1)), (160, (.iadd, 1)), (161, (.aload_n 0, 1)), (162, (.getfield 323, 3)), (165, (.ifCond .eq 9, 3)), (168, (.sipush 2048, 3)), (171, (.goto 4, 3)), (174, (.iconst 0, 1)), (175, (.iadd, 1)), (176, (.ireturn, 1))] = true := by decide +kernel
theorem dX12_told_108 : decode cX12_told 108 = .ok (.getfield 320, 3) := xdc ddX12_told_1 0 rfl
theorem dX12_told_111 : decode cX12_told 111 = .ok (.ifCond .eq 7, 3) := xdc ddX12_told_1 1 rfl
theorem dX12_told_114 : decode cX12_told 114 = .ok (.iconst 1, 1) := xdc ddX12_told_1 2 rfl
theorem dX12_told_115 : decode cX12_told 115 = .ok (.goto 4, 3) := xdc ddX12_told_1 3 rfl
theorem dX12_told_118 : decode cX12_told 118 = .ok (.iconst 0, 1) := xdc ddX12_told_1 4 rfl
theorem dX12_told_119 : decode cX12_told 119 = .ok (.aload_n 0, 1) := xdc ddX12_told_1 5 rfl
theorem dX12_told_120 : decode cX12_told 120 = .ok (.getfield 317, 3) := xdc ddX12_told_1 6 rfl
theorem dX12_told_123 : decode cX12_told 123 = .ok (.ifCond .eq 7, 3) := xdc ddX12_told_1 7 rfl
theorem dX12_told_126 : decode cX12_told 126 = .ok (.iconst 4, 1) := xdc ddX12_told_1 8 rfl
theorem dX12_told_127 : decode cX12_told 127 = .ok (.goto 4, 3) := xdc ddX12_told_1 9 rfl
theorem dX12_told_130 : decode cX12_told 130 = .ok (.iconst 0, 1) := xdc ddX12_told_1 10 rfl
theorem dX12_told_131 : decode cX12_told 131 = .ok (.iadd, 1) := xdc ddX12_told_1 11 rfl
theorem dX12_told_132 : decode cX12_told 132 = .ok (.aload_n 0, 1) := xdc ddX12_told_1 12 rfl
theorem dX12_told_133 : decode cX12_told 133 = .ok (.getfield 307, 3) := xdc ddX12_told_1 13 rfl
theorem dX12_told_136 : decode cX12_told 136 = .ok (.ifCond .eq 8, 3) := xdc ddX12_told_1 14 rfl
theorem dX12_told_139 : decode cX12_told 139 = .ok (.bipush 64, 2) := xdc ddX12_told_1 15 rfl
theorem dX12_told_141 : decode cX12_told 141 = .ok (.goto 4, 3) := xdc ddX12_told_1 16 rfl
theorem dX12_told_144 : decode cX12_told 144 = .ok (.iconst 0, 1) := xdc ddX12_told_1 17 rfl
theorem dX12_told_145 : decode cX12_told 145 = .ok (.iadd, 1) := xdc ddX12_told_1 18 rfl
theorem dX12_told_146 : decode cX12_told 146 = .ok (.aload_n 0, 1) := xdc ddX12_told_1 19 rfl
theorem dX12_told_147 : decode cX12_told 147 = .ok (.getfield 314, 3) := xdc ddX12_told_1 20 rfl
theorem dX12_told_150 : decode cX12_told 150 = .ok (.ifCond .eq 9, 3) := xdc ddX12_told_1 21 rfl
theorem dX12_told_153 : decode cX12_told 153 = .ok (.sipush 128, 3) := xdc ddX12_told_1 22 rfl
theorem dX12_told_156 : decode cX12_told 156 = .ok (.goto 4, 3) := xdc ddX12_told_1 23 rfl
theorem dX12_told_159 : decode cX12_told 159 = .ok (.iconst 0, 1) := xdc ddX12_told_1 24 rfl
theorem dX12_told_160 : decode cX12_told 160 = .ok (.iadd, 1) := xdc ddX12_told_1 25 rfl
theorem dX12_told_161 : decode cX12_told 161 = .ok (.aload_n 0, 1) := xdc ddX12_told_1 26 rfl
theorem dX12_told_162 : decode cX12_told 162 = .ok (.getfield 323, 3) := xdc ddX12_told_1 27 rfl
theorem dX12_told_165 : decode cX12_told 165 = .ok (.ifCond .eq 9, 3) := xdc ddX12_told_1 28 rfl
theorem dX12_told_168 : decode cX12_told 168 = .ok (.sipush 2048, 3) := xdc ddX12_told_1 29 rfl
theorem dX12_told_171 : decode cX12_told 171 = .ok (.goto 4, 3) := xdc ddX12_told_1 30 rfl
theorem dX12_told_174 : decode cX12_told 174 = .ok (.iconst 0, 1) := xdc ddX12_told_1 31 rfl
theorem dX12_told_175 : decode cX12_told 175 = .ok (.iadd, 1) := xdc ddX12_told_1 32 rfl
theorem dX12_told_176 : decode cX12_told 176 = .ok (.ireturn, 1) := xdc ddX12_told_1 33 rfl
abbrev cX12_steps : ByteArray := prog_14_method_86_code
theorem ddX12_steps_0 : xdec cX12_steps [(0, (.aload_n 0, 1)), (1, (.iconst 0, 1)), (2, (.putfield 53, 3)), (5, (.aload_n 0, 1)), (6, (.getfield 407, 3)), (9, (.lreturn, 1))] = true := by decide +kernel
theorem dX12_steps_0 : decode cX12_steps 0 = .ok (.aload_n 0, 1) := xdc ddX12_steps_0 0 rfl
theorem dX12_steps_1 : decode cX12_steps 1 = .ok (.iconst 0, 1) := xdc ddX12_steps_0 1 rfl
theorem dX12_steps_2 : decode cX12_steps 2 = .ok (.putfield 53, 3) := xdc ddX12_steps_0 2 rfl
theorem dX12_steps_5 : decode cX12_steps 5 = .ok (.aload_n 0, 1) := xdc ddX12_steps_0 3 rfl
theorem dX12_steps_6 : decode cX12_steps 6 = .ok (.getfield 407, 3) := xdc ddX12_steps_0 4 rfl
theorem dX12_steps_9 : decode cX12_steps 9 = .ok (.lreturn, 1) := xdc ddX12_steps_0 5 rfl
abbrev cX12_register : ByteArray := prog_14_method_87_code
theorem ddX12_register_0 : xdec cX12_register [(0, (.aload_n 0, 1)), (1, (.iload_n 1, 1)), (2, (.i2l, 1)), (3, (.lconst 0, 1)), (4, (.ldc2_w 263, 3)), (7, (.invokestatic 163, 3)), (10, (.ifCond .eq 7, 3)), (13, (.iconst 0, 1)), (14, (.goto 4, 3)), (17, (.iconst 1, 1)), (18, (.putfield 53, 3)), (21, (.aload_n 0, 1)), (22, (.getfield 53, 3)), (25, (.ifCond .le 7, 3)), (28, (.iconst 0, 1)), (29, (.goto 9, 3)), (32, (.aload_n 0, 1)), (33, (.getfield 44, 3)), (36, (.iload_n 1, 1)), (37, (.iaload, 1)), (38, (.ireturn, 1))] = true := by decide +kernel
theorem dX12_register_0 : decode cX12_register 0 = .ok (.aload_n 0, 1) := xdc ddX12_register_0 0 rfl
theorem dX12_register_1 : decode cX12_register 1 = .ok (.iload_n 1, 1) := xdc ddX12_register_0 1 rfl
theorem dX12_register_2 : decode cX12_register 2 = .ok (.i2l, 1) := xdc ddX12_register_0 2 rfl
theorem dX12_register_3 : decode cX12_register 3 = .ok (.lconst 0, 1) := xdc ddX12_register_0 3 rfl
theorem dX12_register_4 : decode cX12_register 4 = .ok (.ldc2_w 263, 3) := xdc ddX12_register_0 4 rfl
theorem dX12_register_7 : decode cX12_register 7 = .ok (.invokestatic 163, 3) := xdc ddX12_register_0 5 rfl
theorem dX12_register_10 : decode cX12_register 10 = .ok (.ifCond .eq 7, 3) := xdc ddX12_register_0 6 rfl
theorem dX12_register_13 : decode cX12_register 13 = .ok (.iconst 0, 1) := xdc ddX12_register_0 7 rfl
theorem dX12_register_14 : decode cX12_register 14 = .ok (.goto 4, 3) := xdc ddX12_register_0 8 rfl
theorem dX12_register_17 : decode cX12_register 17 = .ok (.iconst 1, 1) := xdc ddX12_register_0 9 rfl
theorem dX12_register_18 : decode cX12_register 18 = .ok (.putfield 53, 3) := xdc ddX12_register_0 10 rfl
theorem dX12_register_21 : decode cX12_register 21 = .ok (.aload_n 0, 1) := xdc ddX12_register_0 11 rfl
theorem dX12_register_22 : decode cX12_register 22 = .ok (.getfield 53, 3) := xdc ddX12_register_0 12 rfl
theorem dX12_register_25 : decode cX12_register 25 = .ok (.ifCond .le 7, 3) := xdc ddX12_register_0 13 rfl
theorem dX12_register_28 : decode cX12_register 28 = .ok (.iconst 0, 1) := xdc ddX12_register_0 14 rfl
theorem dX12_register_29 : decode cX12_register 29 = .ok (.goto 9, 3) := xdc ddX12_register_0 15 rfl
theorem dX12_register_32 : decode cX12_register 32 = .ok (.aload_n 0, 1) := xdc ddX12_register_0 16 rfl
theorem dX12_register_33 : decode cX12_register 33 = .ok (.getfield 44, 3) := xdc ddX12_register_0 17 rfl
theorem dX12_register_36 : decode cX12_register 36 = .ok (.iload_n 1, 1) := xdc ddX12_register_0 18 rfl
theorem dX12_register_37 : decode cX12_register 37 = .ok (.iaload, 1) := xdc ddX12_register_0 19 rfl
theorem dX12_register_38 : decode cX12_register 38 = .ok (.ireturn, 1) := xdc ddX12_register_0 20 rfl
abbrev cX12_put : ByteArray := prog_14_method_88_code
theorem ddX12_put_0 : xdec cX12_put [(0, (.aload_n 0, 1)), (1, (.iload_n 1, 1)), (2, (.i2l, 1)), (3, (.lconst 0, 1)), (4, (.ldc2_w 263, 3)), (7, (.invokestatic 163, 3)), (10, (.ifCond .ne 7, 3)), (13, (.iconst 1, 1)), (14, (.goto 15, 3)), (17, (.aload_n 0, 1)), (18, (.getfield 395, 3)), (21, (.ifCond .ne 7, 3)), (24, (.iconst 2, 1)), (25, (.goto 4, 3)), (28, (.iconst 0, 1)), (29, (.putfield 53, 3)), (32, (.aload_n 0, 1)), (33, (.getfield 53, 3)), (36, (.ifCond .le 5, 3)), (39, (.iconst 0, 1)), (40, (.ireturn, 1)), (41, (.aload_n 0, 1)), (42, (.getfield 44, 3)), (45, (.iload_n 1, 1)), (46, (.iaload, 1)), (47, (.istore_n 3, 1)), (48, (.aload_n 0, 1)), (49, (.getfield 44, 3)), (52, (.iload_n 1, 1)), (53, (.iload_n 2, 1)), (54, (.iastore, 1)), (55, (.iload_n 3, 1)), (56, (.ireturn, 1))] = true := by decide +kernel
theorem dX12_put_0 : decode cX12_put 0 = .ok (.aload_n 0, 1) := xdc ddX12_put_0 0 rfl
theorem dX12_put_1 : decode cX12_put 1 = .ok (.iload_n 1, 1) := xdc ddX12_put_0 1 rfl
theorem dX12_put_2 : decode cX12_put 2 = .ok (.i2l, 1) := xdc ddX12_put_0 2 rfl
theorem dX12_put_3 : decode cX12_put 3 = .ok (.lconst 0, 1) := xdc ddX12_put_0 3 rfl
theorem dX12_put_4 : decode cX12_put 4 = .ok (.ldc2_w 263, 3) := xdc ddX12_put_0 4 rfl
theorem dX12_put_7 : decode cX12_put 7 = .ok (.invokestatic 163, 3) := xdc ddX12_put_0 5 rfl
theorem dX12_put_10 : decode cX12_put 10 = .ok (.ifCond .ne 7, 3) := xdc ddX12_put_0 6 rfl
theorem dX12_put_13 : decode cX12_put 13 = .ok (.iconst 1, 1) := xdc ddX12_put_0 7 rfl
theorem dX12_put_14 : decode cX12_put 14 = .ok (.goto 15, 3) := xdc ddX12_put_0 8 rfl
theorem dX12_put_17 : decode cX12_put 17 = .ok (.aload_n 0, 1) := xdc ddX12_put_0 9 rfl
theorem dX12_put_18 : decode cX12_put 18 = .ok (.getfield 395, 3) := xdc ddX12_put_0 10 rfl
theorem dX12_put_21 : decode cX12_put 21 = .ok (.ifCond .ne 7, 3) := xdc ddX12_put_0 11 rfl
theorem dX12_put_24 : decode cX12_put 24 = .ok (.iconst 2, 1) := xdc ddX12_put_0 12 rfl
theorem dX12_put_25 : decode cX12_put 25 = .ok (.goto 4, 3) := xdc ddX12_put_0 13 rfl
theorem dX12_put_28 : decode cX12_put 28 = .ok (.iconst 0, 1) := xdc ddX12_put_0 14 rfl
theorem dX12_put_29 : decode cX12_put 29 = .ok (.putfield 53, 3) := xdc ddX12_put_0 15 rfl
theorem dX12_put_32 : decode cX12_put 32 = .ok (.aload_n 0, 1) := xdc ddX12_put_0 16 rfl
theorem dX12_put_33 : decode cX12_put 33 = .ok (.getfield 53, 3) := xdc ddX12_put_0 17 rfl
theorem dX12_put_36 : decode cX12_put 36 = .ok (.ifCond .le 5, 3) := xdc ddX12_put_0 18 rfl
theorem dX12_put_39 : decode cX12_put 39 = .ok (.iconst 0, 1) := xdc ddX12_put_0 19 rfl
theorem dX12_put_40 : decode cX12_put 40 = .ok (.ireturn, 1) := xdc ddX12_put_0 20 rfl
theorem dX12_put_41 : decode cX12_put 41 = .ok (.aload_n 0, 1) := xdc ddX12_put_0 21 rfl
theorem dX12_put_42 : decode cX12_put 42 = .ok (.getfield 44, 3) := xdc ddX12_put_0 22 rfl
theorem dX12_put_45 : decode cX12_put 45 = .ok (.iload_n 1, 1) := xdc ddX12_put_0 23 rfl
theorem dX12_put_46 : decode cX12_put 46 = .ok (.iaload, 1) := xdc ddX12_put_0 24 rfl
theorem dX12_put_47 : decode cX12_put 47 = .ok (.istore_n 3, 1) := xdc ddX12_put_0 25 rfl
theorem dX12_put_48 : decode cX12_put 48 = .ok (.aload_n 0, 1) := xdc ddX12_put_0 26 rfl
theorem dX12_put_49 : decode cX12_put 49 = .ok (.getfield 44, 3) := xdc ddX12_put_0 27 rfl
theorem dX12_put_52 : decode cX12_put 52 = .ok (.iload_n 1, 1) := xdc ddX12_put_0 28 rfl
theorem dX12_put_53 : decode cX12_put 53 = .ok (.iload_n 2, 1) := xdc ddX12_put_0 29 rfl
theorem dX12_put_54 : decode cX12_put 54 = .ok (.iastore, 1) := xdc ddX12_put_0 30 rfl
theorem dX12_put_55 : decode cX12_put 55 = .ok (.iload_n 3, 1) := xdc ddX12_put_0 31 rfl
theorem dX12_put_56 : decode cX12_put 56 = .ok (.ireturn, 1) := xdc ddX12_put_0 32 rfl
abbrev cX12_output : ByteArray := prog_14_method_89_code
theorem ddX12_output_0 : xdec cX12_output [(0, (.aload_n 0, 1)), (1, (.iconst 0, 1)), (2, (.putfield 53, 3)), (5, (.iload_n 1, 1)), (6, (.i2l, 1)), (7, (.lconst 0, 1)), (8, (.aload_n 0, 1)), (9, (.getfield 398, 3)), (12, (.i2l, 1)), (13, (.lconst 1, 1)), (14, (.lsub, 1)), (15, (.invokestatic 163, 3)), (18, (.ifCond .eq 12, 3)), (21, (.aload_n 0, 1)), (22, (.getfield 20, 3)), (25, (.iload_n 1, 1)), (26, (.iaload, 1)), (27, (.goto 4, 3)), (30, (.iconst (-1), 1)), (31, (.ireturn, 1))] = true := by decide +kernel
theorem dX12_output_0 : decode cX12_output 0 = .ok (.aload_n 0, 1) := xdc ddX12_output_0 0 rfl
theorem dX12_output_1 : decode cX12_output 1 = .ok (.iconst 0, 1) := xdc ddX12_output_0 1 rfl
theorem dX12_output_2 : decode cX12_output 2 = .ok (.putfield 53, 3) := xdc ddX12_output_0 2 rfl
theorem dX12_output_5 : decode cX12_output 5 = .ok (.iload_n 1, 1) := xdc ddX12_output_0 3 rfl
theorem dX12_output_6 : decode cX12_output 6 = .ok (.i2l, 1) := xdc ddX12_output_0 4 rfl
theorem dX12_output_7 : decode cX12_output 7 = .ok (.lconst 0, 1) := xdc ddX12_output_0 5 rfl
theorem dX12_output_8 : decode cX12_output 8 = .ok (.aload_n 0, 1) := xdc ddX12_output_0 6 rfl
theorem dX12_output_9 : decode cX12_output 9 = .ok (.getfield 398, 3) := xdc ddX12_output_0 7 rfl
theorem dX12_output_12 : decode cX12_output 12 = .ok (.i2l, 1) := xdc ddX12_output_0 8 rfl
theorem dX12_output_13 : decode cX12_output 13 = .ok (.lconst 1, 1) := xdc ddX12_output_0 9 rfl
theorem dX12_output_14 : decode cX12_output 14 = .ok (.lsub, 1) := xdc ddX12_output_0 10 rfl
theorem dX12_output_15 : decode cX12_output 15 = .ok (.invokestatic 163, 3) := xdc ddX12_output_0 11 rfl
theorem dX12_output_18 : decode cX12_output 18 = .ok (.ifCond .eq 12, 3) := xdc ddX12_output_0 12 rfl
theorem dX12_output_21 : decode cX12_output 21 = .ok (.aload_n 0, 1) := xdc ddX12_output_0 13 rfl
theorem dX12_output_22 : decode cX12_output 22 = .ok (.getfield 20, 3) := xdc ddX12_output_0 14 rfl
theorem dX12_output_25 : decode cX12_output 25 = .ok (.iload_n 1, 1) := xdc ddX12_output_0 15 rfl
theorem dX12_output_26 : decode cX12_output 26 = .ok (.iaload, 1) := xdc ddX12_output_0 16 rfl
theorem dX12_output_27 : decode cX12_output 27 = .ok (.goto 4, 3) := xdc ddX12_output_0 17 rfl
theorem dX12_output_30 : decode cX12_output 30 = .ok (.iconst (-1), 1) := xdc ddX12_output_0 18 rfl
theorem dX12_output_31 : decode cX12_output 31 = .ok (.ireturn, 1) := xdc ddX12_output_0 19 rfl
abbrev cX12_passed : ByteArray := prog_14_method_90_code
theorem ddX12_passed_0 : xdec cX12_passed [(0, (.aload_n 0, 1)), (1, (.iload_n 1, 1)), (2, (.i2l, 1)), (3, (.lconst 0, 1)), (4, (.ldc2_w 161, 3)), (7, (.invokestatic 163, 3)), (10, (.ifCond .eq 7, 3)), (13, (.iconst 0, 1)), (14, (.goto 4, 3)), (17, (.iconst 1, 1)), (18, (.putfield 53, 3)), (21, (.aload_n 0, 1)), (22, (.getfield 53, 3)), (25, (.ifCond .le 7, 3)), (28, (.iconst 0, 1)), (29, (.goto 9, 3)), (32, (.aload_n 0, 1)), (33, (.getfield 30, 3)), (36, (.iload_n 1, 1)), (37, (.iaload, 1)), (38, (.ireturn, 1))] = true := by decide +kernel
theorem dX12_passed_0 : decode cX12_passed 0 = .ok (.aload_n 0, 1) := xdc ddX12_passed_0 0 rfl
theorem dX12_passed_1 : decode cX12_passed 1 = .ok (.iload_n 1, 1) := xdc ddX12_passed_0 1 rfl
theorem dX12_passed_2 : decode cX12_passed 2 = .ok (.i2l, 1) := xdc ddX12_passed_0 2 rfl
theorem dX12_passed_3 : decode cX12_passed 3 = .ok (.lconst 0, 1) := xdc ddX12_passed_0 3 rfl
theorem dX12_passed_4 : decode cX12_passed 4 = .ok (.ldc2_w 161, 3) := xdc ddX12_passed_0 4 rfl
theorem dX12_passed_7 : decode cX12_passed 7 = .ok (.invokestatic 163, 3) := xdc ddX12_passed_0 5 rfl
theorem dX12_passed_10 : decode cX12_passed 10 = .ok (.ifCond .eq 7, 3) := xdc ddX12_passed_0 6 rfl
theorem dX12_passed_13 : decode cX12_passed 13 = .ok (.iconst 0, 1) := xdc ddX12_passed_0 7 rfl
theorem dX12_passed_14 : decode cX12_passed 14 = .ok (.goto 4, 3) := xdc ddX12_passed_0 8 rfl
theorem dX12_passed_17 : decode cX12_passed 17 = .ok (.iconst 1, 1) := xdc ddX12_passed_0 9 rfl
theorem dX12_passed_18 : decode cX12_passed 18 = .ok (.putfield 53, 3) := xdc ddX12_passed_0 10 rfl
theorem dX12_passed_21 : decode cX12_passed 21 = .ok (.aload_n 0, 1) := xdc ddX12_passed_0 11 rfl
theorem dX12_passed_22 : decode cX12_passed 22 = .ok (.getfield 53, 3) := xdc ddX12_passed_0 12 rfl
theorem dX12_passed_25 : decode cX12_passed 25 = .ok (.ifCond .le 7, 3) := xdc ddX12_passed_0 13 rfl
theorem dX12_passed_28 : decode cX12_passed 28 = .ok (.iconst 0, 1) := xdc ddX12_passed_0 14 rfl
theorem dX12_passed_29 : decode cX12_passed 29 = .ok (.goto 9, 3) := xdc ddX12_passed_0 15 rfl
theorem dX12_passed_32 : decode cX12_passed 32 = .ok (.aload_n 0, 1) := xdc ddX12_passed_0 16 rfl
theorem dX12_passed_33 : decode cX12_passed 33 = .ok (.getfield 30, 3) := xdc ddX12_passed_0 17 rfl
theorem dX12_passed_36 : decode cX12_passed 36 = .ok (.iload_n 1, 1) := xdc ddX12_passed_0 18 rfl
theorem dX12_passed_37 : decode cX12_passed 37 = .ok (.iaload, 1) := xdc ddX12_passed_0 19 rfl
theorem dX12_passed_38 : decode cX12_passed 38 = .ok (.ireturn, 1) := xdc ddX12_passed_0 20 rfl
