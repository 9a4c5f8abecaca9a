/-! the instructions of the class, decoded -/
abbrev cOrd : ByteArray := prog_18_method_2_code
theorem dOrd_0 : decode cOrd 0 = .ok (.aload_n 0, 1) := by decide +kernel
theorem dOrd_1 : decode cOrd 1 = .ok (.getfield 7, 3) := by decide +kernel
theorem dOrd_4 : decode cOrd 4 = .ok (.ireturn, 1) := by decide +kernel
abbrev cX6_clear : ByteArray := prog_8_method_2_code
theorem ddX6_clear_0 : xdec cX6_clear [(0, (.aload_n 0, 1)), (1, (.getstatic 9, 3)), (4, (.putfield 15, 3)), (7, (.aload_n 0, 1)), (8, (.iconst 0, 1)), (9, (.putfield 20, 3)), (12, (.aload_n 0, 1)), (13, (.iconst 0, 1)), (14, (.putfield 24, 3)), (17, (.aload_n 0, 1)), (18, (.iconst 0, 1)), (19, (.putfield 27, 3)), (22, (.aload_n 0, 1)), (23, (.iconst 4, 1)), (24, (.putfield 30, 3)), (27, (.aload_n 0, 1)), (28, (.iconst 4, 1)), (29, (.putfield 33, 3)), (32, (.aload_n 0, 1)), (33, (.iconst 0, 1)), (34, (.putfield 36, 3)), (37, (.aload_n 0, 1)), (38, (.iconst 0, 1)), (39, (.putfield 39, 3)), (42, (.aload_n 0, 1)), (43, (.iconst 0, 1)), (44, (.putfield 42, 3)), (47, (.aload_n 0, 1)), (48, (.iconst 0, 1)), (49, (.putfield 45, 3)), (52, (.aload_n 0, 1)), (53, (.iconst 0, 1)), (54, (.putfield 48, 3)), (57, (.aload_n 0, 1)), (58, (.iconst (-1), 1)), (59, (.putfield 52, 3)), (62, (.aload_n 0, 1)), (63, (.iconst (-1), 1)), (64, (.putfield 55, 3)), (67, (.aload_n 0, 1))] = true := by decide +kernel
theorem dX6_clear_0 : decode cX6_clear 0 = .ok (.aload_n 0, 1) := xdc ddX6_clear_0 0 rfl
theorem dX6_clear_1 : decode cX6_clear 1 = .ok (.getstatic 9, 3) := xdc ddX6_clear_0 1 rfl
theorem dX6_clear_4 : decode cX6_clear 4 = .ok (.putfield 15, 3) := xdc ddX6_clear_0 2 rfl
theorem dX6_clear_7 : decode cX6_clear 7 = .ok (.aload_n 0, 1) := xdc ddX6_clear_0 3 rfl
theorem dX6_clear_8 : decode cX6_clear 8 = .ok (.iconst 0, 1) := xdc ddX6_clear_0 4 rfl
theorem dX6_clear_9 : decode cX6_clear 9 = .ok (.putfield 20, 3) := xdc ddX6_clear_0 5 rfl
theorem dX6_clear_12 : decode cX6_clear 12 = .ok (.aload_n 0, 1) := xdc ddX6_clear_0 6 rfl
theorem dX6_clear_13 : decode cX6_clear 13 = .ok (.iconst 0, 1) := xdc ddX6_clear_0 7 rfl
theorem dX6_clear_14 : decode cX6_clear 14 = .ok (.putfield 24, 3) := xdc ddX6_clear_0 8 rfl
theorem dX6_clear_17 : decode cX6_clear 17 = .ok (.aload_n 0, 1) := xdc ddX6_clear_0 9 rfl
theorem dX6_clear_18 : decode cX6_clear 18 = .ok (.iconst 0, 1) := xdc ddX6_clear_0 10 rfl
theorem dX6_clear_19 : decode cX6_clear 19 = .ok (.putfield 27, 3) := xdc ddX6_clear_0 11 rfl
theorem dX6_clear_22 : decode cX6_clear 22 = .ok (.aload_n 0, 1) := xdc ddX6_clear_0 12 rfl
theorem dX6_clear_23 : decode cX6_clear 23 = .ok (.iconst 4, 1) := xdc ddX6_clear_0 13 rfl
theorem dX6_clear_24 : decode cX6_clear 24 = .ok (.putfield 30, 3) := xdc ddX6_clear_0 14 rfl
theorem dX6_clear_27 : decode cX6_clear 27 = .ok (.aload_n 0, 1) := xdc ddX6_clear_0 15 rfl
theorem dX6_clear_28 : decode cX6_clear 28 = .ok (.iconst 4, 1) := xdc ddX6_clear_0 16 rfl
theorem dX6_clear_29 : decode cX6_clear 29 = .ok (.putfield 33, 3) := xdc ddX6_clear_0 17 rfl
theorem dX6_clear_32 : decode cX6_clear 32 = .ok (.aload_n 0, 1) := xdc ddX6_clear_0 18 rfl
theorem dX6_clear_33 : decode cX6_clear 33 = .ok (.iconst 0, 1) := xdc ddX6_clear_0 19 rfl
theorem dX6_clear_34 : decode cX6_clear 34 = .ok (.putfield 36, 3) := xdc ddX6_clear_0 20 rfl
theorem dX6_clear_37 : decode cX6_clear 37 = .ok (.aload_n 0, 1) := xdc ddX6_clear_0 21 rfl
theorem dX6_clear_38 : decode cX6_clear 38 = .ok (.iconst 0, 1) := xdc ddX6_clear_0 22 rfl
theorem dX6_clear_39 : decode cX6_clear 39 = .ok (.putfield 39, 3) := xdc ddX6_clear_0 23 rfl
theorem dX6_clear_42 : decode cX6_clear 42 = .ok (.aload_n 0, 1) := xdc ddX6_clear_0 24 rfl
theorem dX6_clear_43 : decode cX6_clear 43 = .ok (.iconst 0, 1) := xdc ddX6_clear_0 25 rfl
theorem dX6_clear_44 : decode cX6_clear 44 = .ok (.putfield 42, 3) := xdc ddX6_clear_0 26 rfl
theorem dX6_clear_47 : decode cX6_clear 47 = .ok (.aload_n 0, 1) := xdc ddX6_clear_0 27 rfl
theorem dX6_clear_48 : decode cX6_clear 48 = .ok (.iconst 0, 1) := xdc ddX6_clear_0 28 rfl
theorem dX6_clear_49 : decode cX6_clear 49 = .ok (.putfield 45, 3) := xdc ddX6_clear_0 29 rfl
theorem dX6_clear_52 : decode cX6_clear 52 = .ok (.aload_n 0, 1) := xdc ddX6_clear_0 30 rfl
theorem dX6_clear_53 : decode cX6_clear 53 = .ok (.iconst 0, 1) := xdc ddX6_clear_0 31 rfl
theorem dX6_clear_54 : decode cX6_clear 54 = .ok (.putfield 48, 3) := xdc ddX6_clear_0 32 rfl
theorem dX6_clear_57 : decode cX6_clear 57 = .ok (.aload_n 0, 1) := xdc ddX6_clear_0 33 rfl
theorem dX6_clear_58 : decode cX6_clear 58 = .ok (.iconst (-1), 1) := xdc ddX6_clear_0 34 rfl
theorem dX6_clear_59 : decode cX6_clear 59 = .ok (.putfield 52, 3) := xdc ddX6_clear_0 35 rfl
theorem dX6_clear_62 : decode cX6_clear 62 = .ok (.aload_n 0, 1) := xdc ddX6_clear_0 36 rfl
theorem dX6_clear_63 : decode cX6_clear 63 = .ok (.iconst (-1), 1) := xdc ddX6_clear_0 37 rfl
theorem dX6_clear_64 : decode cX6_clear 64 = .ok (.putfield 55, 3) := xdc ddX6_clear_0 38 rfl
theorem dX6_clear_67 : decode cX6_clear 67 = .ok (.aload_n 0, 1) := xdc ddX6_clear_0 39 rfl
theorem ddX6_clear_1 : xdec cX6_clear [(68, (.iconst 0, 1)), (69, (.putfield 58, 3)), (72, (.aload_n 0, 1)), (73, (.iconst 0, 1)), (74, (.putfield 61, 3)), (77, (.return_, 1))] = true := by decide +kernel
theorem dX6_clear_68 : decode cX6_clear 68 = .ok (.iconst 0, 1) := xdc ddX6_clear_1 0 rfl
theorem dX6_clear_69 : decode cX6_clear 69 = .ok (.putfield 58, 3) := xdc ddX6_clear_1 1 rfl
theorem dX6_clear_72 : decode cX6_clear 72 = .ok (.aload_n 0, 1) := xdc ddX6_clear_1 2 rfl
theorem dX6_clear_73 : decode cX6_clear 73 = .ok (.iconst 0, 1) := xdc ddX6_clear_1 3 rfl
theorem dX6_clear_74 : decode cX6_clear 74 = .ok (.putfield 61, 3) := xdc ddX6_clear_1 4 rfl
theorem dX6_clear_77 : decode cX6_clear 77 = .ok (.return_, 1) := xdc ddX6_clear_1 5 rfl
abbrev cX4_has : ByteArray := prog_6_method_2_code
theorem ddX4_has_0 : xdec cX4_has [(0, (.iload_n 1, 1)), (1, (.ifCond .lt 22, 3)), (4, (.iload_n 1, 1)), (5, (.aload_n 0, 1)), (6, (.getfield 13, 3)), (9, (.if_icmp .ge 14, 3)), (12, (.iload_n 1, 1)), (13, (.sipush 2048, 3)), (16, (.if_icmp .ge 7, 3)), (19, (.iconst 1, 1)), (20, (.goto 4, 3)), (23, (.iconst 0, 1)), (24, (.ireturn, 1))] = true := by decide +kernel
theorem dX4_has_0 : decode cX4_has 0 = .ok (.iload_n 1, 1) := xdc ddX4_has_0 0 rfl
theorem dX4_has_1 : decode cX4_has 1 = .ok (.ifCond .lt 22, 3) := xdc ddX4_has_0 1 rfl
theorem dX4_has_4 : decode cX4_has 4 = .ok (.iload_n 1, 1) := xdc ddX4_has_0 2 rfl
theorem dX4_has_5 : decode cX4_has 5 = .ok (.aload_n 0, 1) := xdc ddX4_has_0 3 rfl
theorem dX4_has_6 : decode cX4_has 6 = .ok (.getfield 13, 3) := xdc ddX4_has_0 4 rfl
theorem dX4_has_9 : decode cX4_has 9 = .ok (.if_icmp .ge 14, 3) := xdc ddX4_has_0 5 rfl
theorem dX4_has_12 : decode cX4_has 12 = .ok (.iload_n 1, 1) := xdc ddX4_has_0 6 rfl
theorem dX4_has_13 : decode cX4_has 13 = .ok (.sipush 2048, 3) := xdc ddX4_has_0 7 rfl
theorem dX4_has_16 : decode cX4_has 16 = .ok (.if_icmp .ge 7, 3) := xdc ddX4_has_0 8 rfl
theorem dX4_has_19 : decode cX4_has 19 = .ok (.iconst 1, 1) := xdc ddX4_has_0 9 rfl
theorem dX4_has_20 : decode cX4_has 20 = .ok (.goto 4, 3) := xdc ddX4_has_0 10 rfl
theorem dX4_has_23 : decode cX4_has 23 = .ok (.iconst 0, 1) := xdc ddX4_has_0 11 rfl
theorem dX4_has_24 : decode cX4_has 24 = .ok (.ireturn, 1) := xdc ddX4_has_0 12 rfl
abbrev cX1_nextByte : ByteArray := prog_3_method_3_code
theorem ddX1_nextByte_0 : xdec cX1_nextByte [(0, (.aload_n 0, 1)), (1, (.getfield 30, 3)), (4, (.ifCond .lt 27, 3)), (7, (.aload_n 0, 1)), (8, (.getfield 30, 3)), (11, (.aload_n 0, 1)), (12, (.getfield 9, 3)), (15, (.getfield 90, 3)), (18, (.if_icmp .ge 13, 3)), (21, (.aload_n 0, 1)), (22, (.getfield 30, 3)), (25, (.sipush 2048, 3)), (28, (.if_icmp .lt 10, 3)), (31, (.aload_n 0, 1)), (32, (.iconst 1, 1)), (33, (.putfield 34, 3)), (36, (.iconst 0, 1)), (37, (.ireturn, 1)), (38, (.aload_n 0, 1)), (39, (.getfield 9, 3)), (42, (.getfield 93, 3)), (45, (.aload_n 0, 1)), (46, (.getfield 30, 3)), (49, (.baload, 1)), (50, (.sipush 255, 3)), (53, (.iand, 1)), (54, (.istore_n 1, 1)), (55, (.aload_n 0, 1)), (56, (.dup, 1)), (57, (.getfield 30, 3)), (60, (.iconst 1, 1)), (61, (.iadd, 1)), (62, (.putfield 30, 3)), (65, (.iload_n 1, 1)), (66, (.ireturn, 1))] = true := by decide +kernel
theorem dX1_nextByte_0 : decode cX1_nextByte 0 = .ok (.aload_n 0, 1) := xdc ddX1_nextByte_0 0 rfl
theorem dX1_nextByte_1 : decode cX1_nextByte 1 = .ok (.getfield 30, 3) := xdc ddX1_nextByte_0 1 rfl
theorem dX1_nextByte_4 : decode cX1_nextByte 4 = .ok (.ifCond .lt 27, 3) := xdc ddX1_nextByte_0 2 rfl
theorem dX1_nextByte_7 : decode cX1_nextByte 7 = .ok (.aload_n 0, 1) := xdc ddX1_nextByte_0 3 rfl
theorem dX1_nextByte_8 : decode cX1_nextByte 8 = .ok (.getfield 30, 3) := xdc ddX1_nextByte_0 4 rfl
theorem dX1_nextByte_11 : decode cX1_nextByte 11 = .ok (.aload_n 0, 1) := xdc ddX1_nextByte_0 5 rfl
theorem dX1_nextByte_12 : decode cX1_nextByte 12 = .ok (.getfield 9, 3) := xdc ddX1_nextByte_0 6 rfl
theorem dX1_nextByte_15 : decode cX1_nextByte 15 = .ok (.getfield 90, 3) := xdc ddX1_nextByte_0 7 rfl
theorem dX1_nextByte_18 : decode cX1_nextByte 18 = .ok (.if_icmp .ge 13, 3) := xdc ddX1_nextByte_0 8 rfl
theorem dX1_nextByte_21 : decode cX1_nextByte 21 = .ok (.aload_n 0, 1) := xdc ddX1_nextByte_0 9 rfl
theorem dX1_nextByte_22 : decode cX1_nextByte 22 = .ok (.getfield 30, 3) := xdc ddX1_nextByte_0 10 rfl
theorem dX1_nextByte_25 : decode cX1_nextByte 25 = .ok (.sipush 2048, 3) := xdc ddX1_nextByte_0 11 rfl
theorem dX1_nextByte_28 : decode cX1_nextByte 28 = .ok (.if_icmp .lt 10, 3) := xdc ddX1_nextByte_0 12 rfl
theorem dX1_nextByte_31 : decode cX1_nextByte 31 = .ok (.aload_n 0, 1) := xdc ddX1_nextByte_0 13 rfl
theorem dX1_nextByte_32 : decode cX1_nextByte 32 = .ok (.iconst 1, 1) := xdc ddX1_nextByte_0 14 rfl
theorem dX1_nextByte_33 : decode cX1_nextByte 33 = .ok (.putfield 34, 3) := xdc ddX1_nextByte_0 15 rfl
theorem dX1_nextByte_36 : decode cX1_nextByte 36 = .ok (.iconst 0, 1) := xdc ddX1_nextByte_0 16 rfl
theorem dX1_nextByte_37 : decode cX1_nextByte 37 = .ok (.ireturn, 1) := xdc ddX1_nextByte_0 17 rfl
theorem dX1_nextByte_38 : decode cX1_nextByte 38 = .ok (.aload_n 0, 1) := xdc ddX1_nextByte_0 18 rfl
theorem dX1_nextByte_39 : decode cX1_nextByte 39 = .ok (.getfield 9, 3) := xdc ddX1_nextByte_0 19 rfl
theorem dX1_nextByte_42 : decode cX1_nextByte 42 = .ok (.getfield 93, 3) := xdc ddX1_nextByte_0 20 rfl
theorem dX1_nextByte_45 : decode cX1_nextByte 45 = .ok (.aload_n 0, 1) := xdc ddX1_nextByte_0 21 rfl
theorem dX1_nextByte_46 : decode cX1_nextByte 46 = .ok (.getfield 30, 3) := xdc ddX1_nextByte_0 22 rfl
theorem dX1_nextByte_49 : decode cX1_nextByte 49 = .ok (.baload, 1) := xdc ddX1_nextByte_0 23 rfl
theorem dX1_nextByte_50 : decode cX1_nextByte 50 = .ok (.sipush 255, 3) := xdc ddX1_nextByte_0 24 rfl
theorem dX1_nextByte_53 : decode cX1_nextByte 53 = .ok (.iand, 1) := xdc ddX1_nextByte_0 25 rfl
theorem dX1_nextByte_54 : decode cX1_nextByte 54 = .ok (.istore_n 1, 1) := xdc ddX1_nextByte_0 26 rfl
theorem dX1_nextByte_55 : decode cX1_nextByte 55 = .ok (.aload_n 0, 1) := xdc ddX1_nextByte_0 27 rfl
theorem dX1_nextByte_56 : decode cX1_nextByte 56 = .ok (.dup, 1) := xdc ddX1_nextByte_0 28 rfl
theorem dX1_nextByte_57 : decode cX1_nextByte 57 = .ok (.getfield 30, 3) := xdc ddX1_nextByte_0 29 rfl
theorem dX1_nextByte_60 : decode cX1_nextByte 60 = .ok (.iconst 1, 1) := xdc ddX1_nextByte_0 30 rfl
theorem dX1_nextByte_61 : decode cX1_nextByte 61 = .ok (.iadd, 1) := xdc ddX1_nextByte_0 31 rfl
theorem dX1_nextByte_62 : decode cX1_nextByte 62 = .ok (.putfield 30, 3) := xdc ddX1_nextByte_0 32 rfl
theorem dX1_nextByte_65 : decode cX1_nextByte 65 = .ok (.iload_n 1, 1) := xdc ddX1_nextByte_0 33 rfl
theorem dX1_nextByte_66 : decode cX1_nextByte 66 = .ok (.ireturn, 1) := xdc ddX1_nextByte_0 34 rfl
abbrev cX1_withE : ByteArray := prog_3_method_8_code
theorem ddX1_withE_0 : xdec cX1_withE [(0, (.aload_n 0, 1)), (1, (.getfield 15, 3)), (4, (.aload_n 1, 1)), (5, (.putfield 122, 3)), (8, (.aload_n 0, 1)), (9, (.getfield 15, 3)), (12, (.iload_n 2, 1)), (13, (.putfield 87, 3)), (16, (.aload_n 0, 1)), (17, (.getfield 15, 3)), (20, (.iload_n 3, 1)), (21, (.putfield 137, 3)), (24, (.aload_n 0, 1)), (25, (.getfield 15, 3)), (28, (.iload_n 3, 1)), (29, (.putfield 140, 3)), (32, (.aload_n 0, 1)), (33, (.iconst 1, 1)), (34, (.putfield 41, 3)), (37, (.return_, 1))] = true := by decide +kernel
theorem dX1_withE_0 : decode cX1_withE 0 = .ok (.aload_n 0, 1) := xdc ddX1_withE_0 0 rfl
theorem dX1_withE_1 : decode cX1_withE 1 = .ok (.getfield 15, 3) := xdc ddX1_withE_0 1 rfl
theorem dX1_withE_4 : decode cX1_withE 4 = .ok (.aload_n 1, 1) := xdc ddX1_withE_0 2 rfl
theorem dX1_withE_5 : decode cX1_withE 5 = .ok (.putfield 122, 3) := xdc ddX1_withE_0 3 rfl
theorem dX1_withE_8 : decode cX1_withE 8 = .ok (.aload_n 0, 1) := xdc ddX1_withE_0 4 rfl
theorem dX1_withE_9 : decode cX1_withE 9 = .ok (.getfield 15, 3) := xdc ddX1_withE_0 5 rfl
theorem dX1_withE_12 : decode cX1_withE 12 = .ok (.iload_n 2, 1) := xdc ddX1_withE_0 6 rfl
theorem dX1_withE_13 : decode cX1_withE 13 = .ok (.putfield 87, 3) := xdc ddX1_withE_0 7 rfl
theorem dX1_withE_16 : decode cX1_withE 16 = .ok (.aload_n 0, 1) := xdc ddX1_withE_0 8 rfl
theorem dX1_withE_17 : decode cX1_withE 17 = .ok (.getfield 15, 3) := xdc ddX1_withE_0 9 rfl
theorem dX1_withE_20 : decode cX1_withE 20 = .ok (.iload_n 3, 1) := xdc ddX1_withE_0 10 rfl
theorem dX1_withE_21 : decode cX1_withE 21 = .ok (.putfield 137, 3) := xdc ddX1_withE_0 11 rfl
theorem dX1_withE_24 : decode cX1_withE 24 = .ok (.aload_n 0, 1) := xdc ddX1_withE_0 12 rfl
theorem dX1_withE_25 : decode cX1_withE 25 = .ok (.getfield 15, 3) := xdc ddX1_withE_0 13 rfl
theorem dX1_withE_28 : decode cX1_withE 28 = .ok (.iload_n 3, 1) := xdc ddX1_withE_0 14 rfl
theorem dX1_withE_29 : decode cX1_withE 29 = .ok (.putfield 140, 3) := xdc ddX1_withE_0 15 rfl
theorem dX1_withE_32 : decode cX1_withE 32 = .ok (.aload_n 0, 1) := xdc ddX1_withE_0 16 rfl
theorem dX1_withE_33 : decode cX1_withE 33 = .ok (.iconst 1, 1) := xdc ddX1_withE_0 17 rfl
theorem dX1_withE_34 : decode cX1_withE 34 = .ok (.putfield 41, 3) := xdc ddX1_withE_0 18 rfl
theorem dX1_withE_37 : decode cX1_withE 37 = .ok (.return_, 1) := xdc ddX1_withE_0 19 rfl
abbrev cX1_plain : ByteArray := prog_3_method_7_code
theorem ddX1_plain_0 : xdec cX1_plain [(0, (.aload_n 0, 1)), (1, (.getfield 15, 3)), (4, (.aload_n 1, 1)), (5, (.putfield 122, 3)), (8, (.aload_n 0, 1)), (9, (.getfield 15, 3)), (12, (.iload_n 2, 1)), (13, (.putfield 87, 3)), (16, (.aload_n 0, 1)), (17, (.getfield 15, 3)), (20, (.iload_n 3, 1)), (21, (.putfield 137, 3)), (24, (.aload_n 0, 1)), (25, (.getfield 15, 3)), (28, (.iload_n 3, 1)), (29, (.putfield 140, 3)), (32, (.aload_n 0, 1)), (33, (.iload 4, 2)), (35, (.putfield 47, 3)), (38, (.return_, 1))] = true := by decide +kernel
theorem dX1_plain_0 : decode cX1_plain 0 = .ok (.aload_n 0, 1) := xdc ddX1_plain_0 0 rfl
theorem dX1_plain_1 : decode cX1_plain 1 = .ok (.getfield 15, 3) := xdc ddX1_plain_0 1 rfl
theorem dX1_plain_4 : decode cX1_plain 4 = .ok (.aload_n 1, 1) := xdc ddX1_plain_0 2 rfl
theorem dX1_plain_5 : decode cX1_plain 5 = .ok (.putfield 122, 3) := xdc ddX1_plain_0 3 rfl
theorem dX1_plain_8 : decode cX1_plain 8 = .ok (.aload_n 0, 1) := xdc ddX1_plain_0 4 rfl
theorem dX1_plain_9 : decode cX1_plain 9 = .ok (.getfield 15, 3) := xdc ddX1_plain_0 5 rfl
theorem dX1_plain_12 : decode cX1_plain 12 = .ok (.iload_n 2, 1) := xdc ddX1_plain_0 6 rfl
theorem dX1_plain_13 : decode cX1_plain 13 = .ok (.putfield 87, 3) := xdc ddX1_plain_0 7 rfl
theorem dX1_plain_16 : decode cX1_plain 16 = .ok (.aload_n 0, 1) := xdc ddX1_plain_0 8 rfl
theorem dX1_plain_17 : decode cX1_plain 17 = .ok (.getfield 15, 3) := xdc ddX1_plain_0 9 rfl
theorem dX1_plain_20 : decode cX1_plain 20 = .ok (.iload_n 3, 1) := xdc ddX1_plain_0 10 rfl
theorem dX1_plain_21 : decode cX1_plain 21 = .ok (.putfield 137, 3) := xdc ddX1_plain_0 11 rfl
theorem dX1_plain_24 : decode cX1_plain 24 = .ok (.aload_n 0, 1) := xdc ddX1_plain_0 12 rfl
theorem dX1_plain_25 : decode cX1_plain 25 = .ok (.getfield 15, 3) := xdc ddX1_plain_0 13 rfl
theorem dX1_plain_28 : decode cX1_plain 28 = .ok (.iload_n 3, 1) := xdc ddX1_plain_0 14 rfl
theorem dX1_plain_29 : decode cX1_plain 29 = .ok (.putfield 140, 3) := xdc ddX1_plain_0 15 rfl
theorem dX1_plain_32 : decode cX1_plain 32 = .ok (.aload_n 0, 1) := xdc ddX1_plain_0 16 rfl
theorem dX1_plain_33 : decode cX1_plain 33 = .ok (.iload 4, 2) := xdc ddX1_plain_0 17 rfl
theorem dX1_plain_35 : decode cX1_plain 35 = .ok (.putfield 47, 3) := xdc ddX1_plain_0 18 rfl
theorem dX1_plain_38 : decode cX1_plain 38 = .ok (.return_, 1) := xdc ddX1_plain_0 19 rfl
abbrev cX1_chooseLongMore : ByteArray := prog_3_method_24_code
theorem ddX1_chooseLongMore_0 : xdec cX1_chooseLongMore [(0, (.iload_n 1, 1)), (1, (.tableswitch 269 164 191 #[127, 269, 269, 269, 269, 269, 269, 269, 127, 269, 269, 158, 269, 170, 269, 269, 269, 269, 182, 182, 269, 269, 269, 269, 213, 213, 238, 238], 127)), (128, (.aload_n 0, 1)), (129, (.iload_n 1, 1)), (130, (.sipush 164, 3)), (133, (.if_icmp .ne 9, 3)), (136, (.getstatic 279, 3)), (139, (.goto 6, 3)), (142, (.getstatic 282, 3)), (145, (.bipush 8, 2)), (147, (.iconst 4, 1)), (148, (.invokevirtual 175, 3)), (151, (.aload_n 0, 1)), (152, (.iconst 1, 1)), (153, (.putfield 47, 3)), (156, (.goto 119, 3)), (159, (.aload_n 0, 1)), (160, (.getstatic 179, 3)), (163, (.iconst 2, 1)), (164, (.iconst 4, 1)), (165, (.invokevirtual 175, 3)), (168, (.goto 107, 3)), (171, (.aload_n 0, 1)), (172, (.getstatic 285, 3)), (175, (.iconst 1, 1)), (176, (.iconst 4, 1)), (177, (.invokevirtual 175, 3)), (180, (.goto 95, 3)), (183, (.aload_n 0, 1)), (184, (.getstatic 288, 3)), (187, (.iconst 2, 1)), (188, (.iconst 4, 1)), (189, (.invokevirtual 175, 3)), (192, (.aload_n 0, 1)), (193, (.getfield 15, 3)), (196, (.iload_n 1, 1)), (197, (.sipush 182, 3)), (200, (.if_icmp .ne 7, 3)), (203, (.iconst 1, 1)), (204, (.goto 4, 3))] = true := by decide +kernel
theorem dX1_chooseLongMore_0 : decode cX1_chooseLongMore 0 = .ok (.iload_n 1, 1) := xdc ddX1_chooseLongMore_0 0 rfl
theorem dX1_chooseLongMore_1 : decode cX1_chooseLongMore 1 = .ok (.tableswitch 269 164 191 #[127, 269, 269, 269, 269, 269, 269, 269, 127, 269, 269, 158, 269, 170, 269, 269, 269, 269, 182, 182, 269, 269, 269, 269, 213, 213, 238, 238], 127) := xdc ddX1_chooseLongMore_0 1 rfl
theorem dX1_chooseLongMore_128 : decode cX1_chooseLongMore 128 = .ok (.aload_n 0, 1) := xdc ddX1_chooseLongMore_0 2 rfl
theorem dX1_chooseLongMore_129 : decode cX1_chooseLongMore 129 = .ok (.iload_n 1, 1) := xdc ddX1_chooseLongMore_0 3 rfl
theorem dX1_chooseLongMore_130 : decode cX1_chooseLongMore 130 = .ok (.sipush 164, 3) := xdc ddX1_chooseLongMore_0 4 rfl
theorem dX1_chooseLongMore_133 : decode cX1_chooseLongMore 133 = .ok (.if_icmp .ne 9, 3) := xdc ddX1_chooseLongMore_0 5 rfl
theorem dX1_chooseLongMore_136 : decode cX1_chooseLongMore 136 = .ok (.getstatic 279, 3) := xdc ddX1_chooseLongMore_0 6 rfl
theorem dX1_chooseLongMore_139 : decode cX1_chooseLongMore 139 = .ok (.goto 6, 3) := xdc ddX1_chooseLongMore_0 7 rfl
theorem dX1_chooseLongMore_142 : decode cX1_chooseLongMore 142 = .ok (.getstatic 282, 3) := xdc ddX1_chooseLongMore_0 8 rfl
theorem dX1_chooseLongMore_145 : decode cX1_chooseLongMore 145 = .ok (.bipush 8, 2) := xdc ddX1_chooseLongMore_0 9 rfl
theorem dX1_chooseLongMore_147 : decode cX1_chooseLongMore 147 = .ok (.iconst 4, 1) := xdc ddX1_chooseLongMore_0 10 rfl
theorem dX1_chooseLongMore_148 : decode cX1_chooseLongMore 148 = .ok (.invokevirtual 175, 3) := xdc ddX1_chooseLongMore_0 11 rfl
theorem dX1_chooseLongMore_151 : decode cX1_chooseLongMore 151 = .ok (.aload_n 0, 1) := xdc ddX1_chooseLongMore_0 12 rfl
theorem dX1_chooseLongMore_152 : decode cX1_chooseLongMore 152 = .ok (.iconst 1, 1) := xdc ddX1_chooseLongMore_0 13 rfl
theorem dX1_chooseLongMore_153 : decode cX1_chooseLongMore 153 = .ok (.putfield 47, 3) := xdc ddX1_chooseLongMore_0 14 rfl
theorem dX1_chooseLongMore_156 : decode cX1_chooseLongMore 156 = .ok (.goto 119, 3) := xdc ddX1_chooseLongMore_0 15 rfl
theorem dX1_chooseLongMore_159 : decode cX1_chooseLongMore 159 = .ok (.aload_n 0, 1) := xdc ddX1_chooseLongMore_0 16 rfl
theorem dX1_chooseLongMore_160 : decode cX1_chooseLongMore 160 = .ok (.getstatic 179, 3) := xdc ddX1_chooseLongMore_0 17 rfl
theorem dX1_chooseLongMore_163 : decode cX1_chooseLongMore 163 = .ok (.iconst 2, 1) := xdc ddX1_chooseLongMore_0 18 rfl
theorem dX1_chooseLongMore_164 : decode cX1_chooseLongMore 164 = .ok (.iconst 4, 1) := xdc ddX1_chooseLongMore_0 19 rfl
theorem dX1_chooseLongMore_165 : decode cX1_chooseLongMore 165 = .ok (.invokevirtual 175, 3) := xdc ddX1_chooseLongMore_0 20 rfl
theorem dX1_chooseLongMore_168 : decode cX1_chooseLongMore 168 = .ok (.goto 107, 3) := xdc ddX1_chooseLongMore_0 21 rfl
theorem dX1_chooseLongMore_171 : decode cX1_chooseLongMore 171 = .ok (.aload_n 0, 1) := xdc ddX1_chooseLongMore_0 22 rfl
theorem dX1_chooseLongMore_172 : decode cX1_chooseLongMore 172 = .ok (.getstatic 285, 3) := xdc ddX1_chooseLongMore_0 23 rfl
theorem dX1_chooseLongMore_175 : decode cX1_chooseLongMore 175 = .ok (.iconst 1, 1) := xdc ddX1_chooseLongMore_0 24 rfl
theorem dX1_chooseLongMore_176 : decode cX1_chooseLongMore 176 = .ok (.iconst 4, 1) := xdc ddX1_chooseLongMore_0 25 rfl
theorem dX1_chooseLongMore_177 : decode cX1_chooseLongMore 177 = .ok (.invokevirtual 175, 3) := xdc ddX1_chooseLongMore_0 26 rfl
theorem dX1_chooseLongMore_180 : decode cX1_chooseLongMore 180 = .ok (.goto 95, 3) := xdc ddX1_chooseLongMore_0 27 rfl
theorem dX1_chooseLongMore_183 : decode cX1_chooseLongMore 183 = .ok (.aload_n 0, 1) := xdc ddX1_chooseLongMore_0 28 rfl
theorem dX1_chooseLongMore_184 : decode cX1_chooseLongMore 184 = .ok (.getstatic 288, 3) := xdc ddX1_chooseLongMore_0 29 rfl
theorem dX1_chooseLongMore_187 : decode cX1_chooseLongMore 187 = .ok (.iconst 2, 1) := xdc ddX1_chooseLongMore_0 30 rfl
theorem dX1_chooseLongMore_188 : decode cX1_chooseLongMore 188 = .ok (.iconst 4, 1) := xdc ddX1_chooseLongMore_0 31 rfl
theorem dX1_chooseLongMore_189 : decode cX1_chooseLongMore 189 = .ok (.invokevirtual 175, 3) := xdc ddX1_chooseLongMore_0 32 rfl
theorem dX1_chooseLongMore_192 : decode cX1_chooseLongMore 192 = .ok (.aload_n 0, 1) := xdc ddX1_chooseLongMore_0 33 rfl
theorem dX1_chooseLongMore_193 : decode cX1_chooseLongMore 193 = .ok (.getfield 15, 3) := xdc ddX1_chooseLongMore_0 34 rfl
theorem dX1_chooseLongMore_196 : decode cX1_chooseLongMore 196 = .ok (.iload_n 1, 1) := xdc ddX1_chooseLongMore_0 35 rfl
theorem dX1_chooseLongMore_197 : decode cX1_chooseLongMore 197 = .ok (.sipush 182, 3) := xdc ddX1_chooseLongMore_0 36 rfl
theorem dX1_chooseLongMore_200 : decode cX1_chooseLongMore 200 = .ok (.if_icmp .ne 7, 3) := xdc ddX1_chooseLongMore_0 37 rfl
theorem dX1_chooseLongMore_203 : decode cX1_chooseLongMore 203 = .ok (.iconst 1, 1) := xdc ddX1_chooseLongMore_0 38 rfl
theorem dX1_chooseLongMore_204 : decode cX1_chooseLongMore 204 = .ok (.goto 4, 3) := xdc ddX1_chooseLongMore_0 39 rfl
theorem ddX1_chooseLongMore_1 : xdec cX1_chooseLongMore [(207, (.iconst 2, 1)), (208, (.putfield 140, 3)), (211, (.goto 64, 3)), (214, (.aload_n 0, 1)), (215, (.iload_n 1, 1)), (216, (.sipush 188, 3)), (219, (.if_icmp .ne 9, 3)), (222, (.getstatic 291, 3)), (225, (.goto 6, 3)), (228, (.getstatic 294, 3)), (231, (.iconst 2, 1)), (232, (.iconst 4, 1)), (233, (.invokevirtual 175, 3)), (236, (.goto 39, 3)), (239, (.aload_n 0, 1)), (240, (.getstatic 297, 3)), (243, (.iconst 2, 1)), (244, (.iconst 4, 1)), (245, (.invokevirtual 175, 3)), (248, (.aload_n 0, 1)), (249, (.getfield 15, 3)), (252, (.iload_n 1, 1)), (253, (.sipush 190, 3)), (256, (.if_icmp .ne 7, 3)), (259, (.iconst 1, 1)), (260, (.goto 4, 3)), (263, (.iconst 2, 1)), (264, (.putfield 140, 3)), (267, (.goto 8, 3)), (270, (.aload_n 0, 1)), (271, (.iconst 0, 1)), (272, (.putfield 38, 3)), (275, (.return_, 1))] = true := by decide +kernel
theorem dX1_chooseLongMore_207 : decode cX1_chooseLongMore 207 = .ok (.iconst 2, 1) := xdc ddX1_chooseLongMore_1 0 rfl
theorem dX1_chooseLongMore_208 : decode cX1_chooseLongMore 208 = .ok (.putfield 140, 3) := xdc ddX1_chooseLongMore_1 1 rfl
theorem dX1_chooseLongMore_211 : decode cX1_chooseLongMore 211 = .ok (.goto 64, 3) := xdc ddX1_chooseLongMore_1 2 rfl
theorem dX1_chooseLongMore_214 : decode cX1_chooseLongMore 214 = .ok (.aload_n 0, 1) := xdc ddX1_chooseLongMore_1 3 rfl
theorem dX1_chooseLongMore_215 : decode cX1_chooseLongMore 215 = .ok (.iload_n 1, 1) := xdc ddX1_chooseLongMore_1 4 rfl
theorem dX1_chooseLongMore_216 : decode cX1_chooseLongMore 216 = .ok (.sipush 188, 3) := xdc ddX1_chooseLongMore_1 5 rfl
theorem dX1_chooseLongMore_219 : decode cX1_chooseLongMore 219 = .ok (.if_icmp .ne 9, 3) := xdc ddX1_chooseLongMore_1 6 rfl
theorem dX1_chooseLongMore_222 : decode cX1_chooseLongMore 222 = .ok (.getstatic 291, 3) := xdc ddX1_chooseLongMore_1 7 rfl
theorem dX1_chooseLongMore_225 : decode cX1_chooseLongMore 225 = .ok (.goto 6, 3) := xdc ddX1_chooseLongMore_1 8 rfl
theorem dX1_chooseLongMore_228 : decode cX1_chooseLongMore 228 = .ok (.getstatic 294, 3) := xdc ddX1_chooseLongMore_1 9 rfl
theorem dX1_chooseLongMore_231 : decode cX1_chooseLongMore 231 = .ok (.iconst 2, 1) := xdc ddX1_chooseLongMore_1 10 rfl
theorem dX1_chooseLongMore_232 : decode cX1_chooseLongMore 232 = .ok (.iconst 4, 1) := xdc ddX1_chooseLongMore_1 11 rfl
theorem dX1_chooseLongMore_233 : decode cX1_chooseLongMore 233 = .ok (.invokevirtual 175, 3) := xdc ddX1_chooseLongMore_1 12 rfl
theorem dX1_chooseLongMore_236 : decode cX1_chooseLongMore 236 = .ok (.goto 39, 3) := xdc ddX1_chooseLongMore_1 13 rfl
theorem dX1_chooseLongMore_239 : decode cX1_chooseLongMore 239 = .ok (.aload_n 0, 1) := xdc ddX1_chooseLongMore_1 14 rfl
theorem dX1_chooseLongMore_240 : decode cX1_chooseLongMore 240 = .ok (.getstatic 297, 3) := xdc ddX1_chooseLongMore_1 15 rfl
theorem dX1_chooseLongMore_243 : decode cX1_chooseLongMore 243 = .ok (.iconst 2, 1) := xdc ddX1_chooseLongMore_1 16 rfl
theorem dX1_chooseLongMore_244 : decode cX1_chooseLongMore 244 = .ok (.iconst 4, 1) := xdc ddX1_chooseLongMore_1 17 rfl
theorem dX1_chooseLongMore_245 : decode cX1_chooseLongMore 245 = .ok (.invokevirtual 175, 3) := xdc ddX1_chooseLongMore_1 18 rfl
theorem dX1_chooseLongMore_248 : decode cX1_chooseLongMore 248 = .ok (.aload_n 0, 1) := xdc ddX1_chooseLongMore_1 19 rfl
theorem dX1_chooseLongMore_249 : decode cX1_chooseLongMore 249 = .ok (.getfield 15, 3) := xdc ddX1_chooseLongMore_1 20 rfl
theorem dX1_chooseLongMore_252 : decode cX1_chooseLongMore 252 = .ok (.iload_n 1, 1) := xdc ddX1_chooseLongMore_1 21 rfl
theorem dX1_chooseLongMore_253 : decode cX1_chooseLongMore 253 = .ok (.sipush 190, 3) := xdc ddX1_chooseLongMore_1 22 rfl
theorem dX1_chooseLongMore_256 : decode cX1_chooseLongMore 256 = .ok (.if_icmp .ne 7, 3) := xdc ddX1_chooseLongMore_1 23 rfl
theorem dX1_chooseLongMore_259 : decode cX1_chooseLongMore 259 = .ok (.iconst 1, 1) := xdc ddX1_chooseLongMore_1 24 rfl
theorem dX1_chooseLongMore_260 : decode cX1_chooseLongMore 260 = .ok (.goto 4, 3) := xdc ddX1_chooseLongMore_1 25 rfl
theorem dX1_chooseLongMore_263 : decode cX1_chooseLongMore 263 = .ok (.iconst 2, 1) := xdc ddX1_chooseLongMore_1 26 rfl
theorem dX1_chooseLongMore_264 : decode cX1_chooseLongMore 264 = .ok (.putfield 140, 3) := xdc ddX1_chooseLongMore_1 27 rfl
theorem dX1_chooseLongMore_267 : decode cX1_chooseLongMore 267 = .ok (.goto 8, 3) := xdc ddX1_chooseLongMore_1 28 rfl
theorem dX1_chooseLongMore_270 : decode cX1_chooseLongMore 270 = .ok (.aload_n 0, 1) := xdc ddX1_chooseLongMore_1 29 rfl
theorem dX1_chooseLongMore_271 : decode cX1_chooseLongMore 271 = .ok (.iconst 0, 1) := xdc ddX1_chooseLongMore_1 30 rfl
theorem dX1_chooseLongMore_272 : decode cX1_chooseLongMore 272 = .ok (.putfield 38, 3) := xdc ddX1_chooseLongMore_1 31 rfl
theorem dX1_chooseLongMore_275 : decode cX1_chooseLongMore 275 = .ok (.return_, 1) := xdc ddX1_chooseLongMore_1 32 rfl
abbrev cX1_withRegister : ByteArray := prog_3_method_10_code
theorem ddX1_withRegister_0 : xdec cX1_withRegister [(0, (.aload_n 0, 1)), (1, (.aload_n 1, 1)), (2, (.iconst 5, 1)), (3, (.iconst 4, 1)), (4, (.iconst 0, 1)), (5, (.invokevirtual 143, 3)), (8, (.aload_n 0, 1)), (9, (.getfield 15, 3)), (12, (.iload_n 2, 1)), (13, (.putfield 100, 3)), (16, (.return_, 1))] = true := by decide +kernel
theorem dX1_withRegister_0 : decode cX1_withRegister 0 = .ok (.aload_n 0, 1) := xdc ddX1_withRegister_0 0 rfl
theorem dX1_withRegister_1 : decode cX1_withRegister 1 = .ok (.aload_n 1, 1) := xdc ddX1_withRegister_0 1 rfl
theorem dX1_withRegister_2 : decode cX1_withRegister 2 = .ok (.iconst 5, 1) := xdc ddX1_withRegister_0 2 rfl
theorem dX1_withRegister_3 : decode cX1_withRegister 3 = .ok (.iconst 4, 1) := xdc ddX1_withRegister_0 3 rfl
theorem dX1_withRegister_4 : decode cX1_withRegister 4 = .ok (.iconst 0, 1) := xdc ddX1_withRegister_0 4 rfl
theorem dX1_withRegister_5 : decode cX1_withRegister 5 = .ok (.invokevirtual 143, 3) := xdc ddX1_withRegister_0 5 rfl
theorem dX1_withRegister_8 : decode cX1_withRegister 8 = .ok (.aload_n 0, 1) := xdc ddX1_withRegister_0 6 rfl
theorem dX1_withRegister_9 : decode cX1_withRegister 9 = .ok (.getfield 15, 3) := xdc ddX1_withRegister_0 7 rfl
theorem dX1_withRegister_12 : decode cX1_withRegister 12 = .ok (.iload_n 2, 1) := xdc ddX1_withRegister_0 8 rfl
theorem dX1_withRegister_13 : decode cX1_withRegister 13 = .ok (.putfield 100, 3) := xdc ddX1_withRegister_0 9 rfl
theorem dX1_withRegister_16 : decode cX1_withRegister 16 = .ok (.return_, 1) := xdc ddX1_withRegister_0 10 rfl
abbrev cX1_chooseSwap : ByteArray := prog_3_method_25_code
theorem ddX1_chooseSwap_0 : xdec cX1_chooseSwap [(0, (.iload_n 1, 1)), (1, (.sipush 200, 3)), (4, (.if_icmp .lt 17, 3)), (7, (.aload_n 0, 1)), (8, (.getstatic 300, 3)), (11, (.iload_n 1, 1)), (12, (.bipush 7, 2)), (14, (.iand, 1)), (15, (.invokevirtual 150, 3)), (18, (.goto 27, 3)), (21, (.iload_n 1, 1)), (22, (.sipush 193, 3)), (25, (.if_icmp .ne 15, 3)), (28, (.aload_n 0, 1)), (29, (.getstatic 303, 3)), (32, (.iconst 1, 1)), (33, (.iconst 4, 1)), (34, (.invokevirtual 175, 3)), (37, (.goto 8, 3)), (40, (.aload_n 0, 1)), (41, (.iconst 0, 1)), (42, (.putfield 38, 3)), (45, (.return_, 1))] = true := by decide +kernel
theorem dX1_chooseSwap_0 : decode cX1_chooseSwap 0 = .ok (.iload_n 1, 1) := xdc ddX1_chooseSwap_0 0 rfl
theorem dX1_chooseSwap_1 : decode cX1_chooseSwap 1 = .ok (.sipush 200, 3) := xdc ddX1_chooseSwap_0 1 rfl
theorem dX1_chooseSwap_4 : decode cX1_chooseSwap 4 = .ok (.if_icmp .lt 17, 3) := xdc ddX1_chooseSwap_0 2 rfl
theorem dX1_chooseSwap_7 : decode cX1_chooseSwap 7 = .ok (.aload_n 0, 1) := xdc ddX1_chooseSwap_0 3 rfl
theorem dX1_chooseSwap_8 : decode cX1_chooseSwap 8 = .ok (.getstatic 300, 3) := xdc ddX1_chooseSwap_0 4 rfl
theorem dX1_chooseSwap_11 : decode cX1_chooseSwap 11 = .ok (.iload_n 1, 1) := xdc ddX1_chooseSwap_0 5 rfl
theorem dX1_chooseSwap_12 : decode cX1_chooseSwap 12 = .ok (.bipush 7, 2) := xdc ddX1_chooseSwap_0 6 rfl
theorem dX1_chooseSwap_14 : decode cX1_chooseSwap 14 = .ok (.iand, 1) := xdc ddX1_chooseSwap_0 7 rfl
theorem dX1_chooseSwap_15 : decode cX1_chooseSwap 15 = .ok (.invokevirtual 150, 3) := xdc ddX1_chooseSwap_0 8 rfl
theorem dX1_chooseSwap_18 : decode cX1_chooseSwap 18 = .ok (.goto 27, 3) := xdc ddX1_chooseSwap_0 9 rfl
theorem dX1_chooseSwap_21 : decode cX1_chooseSwap 21 = .ok (.iload_n 1, 1) := xdc ddX1_chooseSwap_0 10 rfl
theorem dX1_chooseSwap_22 : decode cX1_chooseSwap 22 = .ok (.sipush 193, 3) := xdc ddX1_chooseSwap_0 11 rfl
theorem dX1_chooseSwap_25 : decode cX1_chooseSwap 25 = .ok (.if_icmp .ne 15, 3) := xdc ddX1_chooseSwap_0 12 rfl
theorem dX1_chooseSwap_28 : decode cX1_chooseSwap 28 = .ok (.aload_n 0, 1) := xdc ddX1_chooseSwap_0 13 rfl
theorem dX1_chooseSwap_29 : decode cX1_chooseSwap 29 = .ok (.getstatic 303, 3) := xdc ddX1_chooseSwap_0 14 rfl
theorem dX1_chooseSwap_32 : decode cX1_chooseSwap 32 = .ok (.iconst 1, 1) := xdc ddX1_chooseSwap_0 15 rfl
theorem dX1_chooseSwap_33 : decode cX1_chooseSwap 33 = .ok (.iconst 4, 1) := xdc ddX1_chooseSwap_0 16 rfl
theorem dX1_chooseSwap_34 : decode cX1_chooseSwap 34 = .ok (.invokevirtual 175, 3) := xdc ddX1_chooseSwap_0 17 rfl
theorem dX1_chooseSwap_37 : decode cX1_chooseSwap 37 = .ok (.goto 8, 3) := xdc ddX1_chooseSwap_0 18 rfl
theorem dX1_chooseSwap_40 : decode cX1_chooseSwap 40 = .ok (.aload_n 0, 1) := xdc ddX1_chooseSwap_0 19 rfl
theorem dX1_chooseSwap_41 : decode cX1_chooseSwap 41 = .ok (.iconst 0, 1) := xdc ddX1_chooseSwap_0 20 rfl
theorem dX1_chooseSwap_42 : decode cX1_chooseSwap 42 = .ok (.putfield 38, 3) := xdc ddX1_chooseSwap_0 21 rfl
theorem dX1_chooseSwap_45 : decode cX1_chooseSwap 45 = .ok (.return_, 1) := xdc ddX1_chooseSwap_0 22 rfl
abbrev cX1_chooseLong : ByteArray := prog_3_method_23_code
theorem ddX1_chooseLong_0 : xdec cX1_chooseLong [(0, (.iload_n 1, 1)), (1, (.iconst 4, 1)), (2, (.ishr, 1)), (3, (.tableswitch 188 1 12 #[61, 188, 188, 101, 188, 188, 188, 124, 149, 172, 172, 180], 61)), (64, (.aload_n 0, 1)), (65, (.getstatic 222, 3)), (68, (.iconst 5, 1)), (69, (.iconst 4, 1)), (70, (.invokevirtual 175, 3)), (73, (.aload_n 0, 1)), (74, (.iconst 1, 1)), (75, (.putfield 44, 3)), (78, (.aload_n 0, 1)), (79, (.iload_n 1, 1)), (80, (.bipush 31, 2)), (82, (.if_icmp .ne 7, 3)), (85, (.iconst 1, 1)), (86, (.goto 4, 3)), (89, (.iconst 0, 1)), (90, (.putfield 41, 3)), (93, (.aload_n 0, 1)), (94, (.aload_n 0, 1)), (95, (.getfield 41, 3)), (98, (.putfield 38, 3)), (101, (.goto 95, 3)), (104, (.aload_n 0, 1)), (105, (.getstatic 267, 3)), (108, (.iconst 2, 1)), (109, (.iconst 4, 1)), (110, (.invokevirtual 175, 3)), (113, (.aload_n 0, 1)), (114, (.getfield 15, 3)), (117, (.iload_n 1, 1)), (118, (.bipush 15, 2)), (120, (.iand, 1)), (121, (.putfield 169, 3)), (124, (.goto 72, 3)), (127, (.aload_n 0, 1)), (128, (.getstatic 166, 3)), (131, (.bipush 9, 2))] = true := by decide +kernel
theorem dX1_chooseLong_0 : decode cX1_chooseLong 0 = .ok (.iload_n 1, 1) := xdc ddX1_chooseLong_0 0 rfl
theorem dX1_chooseLong_1 : decode cX1_chooseLong 1 = .ok (.iconst 4, 1) := xdc ddX1_chooseLong_0 1 rfl
theorem dX1_chooseLong_2 : decode cX1_chooseLong 2 = .ok (.ishr, 1) := xdc ddX1_chooseLong_0 2 rfl
theorem dX1_chooseLong_3 : decode cX1_chooseLong 3 = .ok (.tableswitch 188 1 12 #[61, 188, 188, 101, 188, 188, 188, 124, 149, 172, 172, 180], 61) := xdc ddX1_chooseLong_0 3 rfl
theorem dX1_chooseLong_64 : decode cX1_chooseLong 64 = .ok (.aload_n 0, 1) := xdc ddX1_chooseLong_0 4 rfl
theorem dX1_chooseLong_65 : decode cX1_chooseLong 65 = .ok (.getstatic 222, 3) := xdc ddX1_chooseLong_0 5 rfl
theorem dX1_chooseLong_68 : decode cX1_chooseLong 68 = .ok (.iconst 5, 1) := xdc ddX1_chooseLong_0 6 rfl
theorem dX1_chooseLong_69 : decode cX1_chooseLong 69 = .ok (.iconst 4, 1) := xdc ddX1_chooseLong_0 7 rfl
theorem dX1_chooseLong_70 : decode cX1_chooseLong 70 = .ok (.invokevirtual 175, 3) := xdc ddX1_chooseLong_0 8 rfl
theorem dX1_chooseLong_73 : decode cX1_chooseLong 73 = .ok (.aload_n 0, 1) := xdc ddX1_chooseLong_0 9 rfl
theorem dX1_chooseLong_74 : decode cX1_chooseLong 74 = .ok (.iconst 1, 1) := xdc ddX1_chooseLong_0 10 rfl
theorem dX1_chooseLong_75 : decode cX1_chooseLong 75 = .ok (.putfield 44, 3) := xdc ddX1_chooseLong_0 11 rfl
theorem dX1_chooseLong_78 : decode cX1_chooseLong 78 = .ok (.aload_n 0, 1) := xdc ddX1_chooseLong_0 12 rfl
theorem dX1_chooseLong_79 : decode cX1_chooseLong 79 = .ok (.iload_n 1, 1) := xdc ddX1_chooseLong_0 13 rfl
theorem dX1_chooseLong_80 : decode cX1_chooseLong 80 = .ok (.bipush 31, 2) := xdc ddX1_chooseLong_0 14 rfl
theorem dX1_chooseLong_82 : decode cX1_chooseLong 82 = .ok (.if_icmp .ne 7, 3) := xdc ddX1_chooseLong_0 15 rfl
theorem dX1_chooseLong_85 : decode cX1_chooseLong 85 = .ok (.iconst 1, 1) := xdc ddX1_chooseLong_0 16 rfl
theorem dX1_chooseLong_86 : decode cX1_chooseLong 86 = .ok (.goto 4, 3) := xdc ddX1_chooseLong_0 17 rfl
theorem dX1_chooseLong_89 : decode cX1_chooseLong 89 = .ok (.iconst 0, 1) := xdc ddX1_chooseLong_0 18 rfl
theorem dX1_chooseLong_90 : decode cX1_chooseLong 90 = .ok (.putfield 41, 3) := xdc ddX1_chooseLong_0 19 rfl
theorem dX1_chooseLong_93 : decode cX1_chooseLong 93 = .ok (.aload_n 0, 1) := xdc ddX1_chooseLong_0 20 rfl
theorem dX1_chooseLong_94 : decode cX1_chooseLong 94 = .ok (.aload_n 0, 1) := xdc ddX1_chooseLong_0 21 rfl
theorem dX1_chooseLong_95 : decode cX1_chooseLong 95 = .ok (.getfield 41, 3) := xdc ddX1_chooseLong_0 22 rfl
theorem dX1_chooseLong_98 : decode cX1_chooseLong 98 = .ok (.putfield 38, 3) := xdc ddX1_chooseLong_0 23 rfl
theorem dX1_chooseLong_101 : decode cX1_chooseLong 101 = .ok (.goto 95, 3) := xdc ddX1_chooseLong_0 24 rfl
theorem dX1_chooseLong_104 : decode cX1_chooseLong 104 = .ok (.aload_n 0, 1) := xdc ddX1_chooseLong_0 25 rfl
theorem dX1_chooseLong_105 : decode cX1_chooseLong 105 = .ok (.getstatic 267, 3) := xdc ddX1_chooseLong_0 26 rfl
theorem dX1_chooseLong_108 : decode cX1_chooseLong 108 = .ok (.iconst 2, 1) := xdc ddX1_chooseLong_0 27 rfl
theorem dX1_chooseLong_109 : decode cX1_chooseLong 109 = .ok (.iconst 4, 1) := xdc ddX1_chooseLong_0 28 rfl
theorem dX1_chooseLong_110 : decode cX1_chooseLong 110 = .ok (.invokevirtual 175, 3) := xdc ddX1_chooseLong_0 29 rfl
theorem dX1_chooseLong_113 : decode cX1_chooseLong 113 = .ok (.aload_n 0, 1) := xdc ddX1_chooseLong_0 30 rfl
theorem dX1_chooseLong_114 : decode cX1_chooseLong 114 = .ok (.getfield 15, 3) := xdc ddX1_chooseLong_0 31 rfl
theorem dX1_chooseLong_117 : decode cX1_chooseLong 117 = .ok (.iload_n 1, 1) := xdc ddX1_chooseLong_0 32 rfl
theorem dX1_chooseLong_118 : decode cX1_chooseLong 118 = .ok (.bipush 15, 2) := xdc ddX1_chooseLong_0 33 rfl
theorem dX1_chooseLong_120 : decode cX1_chooseLong 120 = .ok (.iand, 1) := xdc ddX1_chooseLong_0 34 rfl
theorem dX1_chooseLong_121 : decode cX1_chooseLong 121 = .ok (.putfield 169, 3) := xdc ddX1_chooseLong_0 35 rfl
theorem dX1_chooseLong_124 : decode cX1_chooseLong 124 = .ok (.goto 72, 3) := xdc ddX1_chooseLong_0 36 rfl
theorem dX1_chooseLong_127 : decode cX1_chooseLong 127 = .ok (.aload_n 0, 1) := xdc ddX1_chooseLong_0 37 rfl
theorem dX1_chooseLong_128 : decode cX1_chooseLong 128 = .ok (.getstatic 166, 3) := xdc ddX1_chooseLong_0 38 rfl
theorem dX1_chooseLong_131 : decode cX1_chooseLong 131 = .ok (.bipush 9, 2) := xdc ddX1_chooseLong_0 39 rfl
theorem ddX1_chooseLong_1 : xdec cX1_chooseLong [(133, (.iconst 4, 1)), (134, (.iconst 4, 1)), (135, (.invokevirtual 143, 3)), (138, (.aload_n 0, 1)), (139, (.getfield 15, 3)), (142, (.iload_n 1, 1)), (143, (.bipush 15, 2)), (145, (.iand, 1)), (146, (.putfield 169, 3)), (149, (.goto 47, 3)), (152, (.aload_n 0, 1)), (153, (.getstatic 270, 3)), (156, (.iconst 5, 1)), (157, (.iconst 1, 1)), (158, (.invokevirtual 175, 3)), (161, (.aload_n 0, 1)), (162, (.getfield 15, 3)), (165, (.iload_n 1, 1)), (166, (.bipush 15, 2)), (168, (.iand, 1)), (169, (.putfield 169, 3)), (172, (.goto 24, 3)), (175, (.aload_n 0, 1)), (176, (.iload_n 1, 1)), (177, (.invokevirtual 273, 3)), (180, (.goto 16, 3)), (183, (.aload_n 0, 1)), (184, (.iload_n 1, 1)), (185, (.invokevirtual 276, 3)), (188, (.goto 8, 3)), (191, (.aload_n 0, 1)), (192, (.iconst 0, 1)), (193, (.putfield 38, 3)), (196, (.return_, 1))] = true := by decide +kernel
theorem dX1_chooseLong_133 : decode cX1_chooseLong 133 = .ok (.iconst 4, 1) := xdc ddX1_chooseLong_1 0 rfl
theorem dX1_chooseLong_134 : decode cX1_chooseLong 134 = .ok (.iconst 4, 1) := xdc ddX1_chooseLong_1 1 rfl
theorem dX1_chooseLong_135 : decode cX1_chooseLong 135 = .ok (.invokevirtual 143, 3) := xdc ddX1_chooseLong_1 2 rfl
theorem dX1_chooseLong_138 : decode cX1_chooseLong 138 = .ok (.aload_n 0, 1) := xdc ddX1_chooseLong_1 3 rfl
theorem dX1_chooseLong_139 : decode cX1_chooseLong 139 = .ok (.getfield 15, 3) := xdc ddX1_chooseLong_1 4 rfl
theorem dX1_chooseLong_142 : decode cX1_chooseLong 142 = .ok (.iload_n 1, 1) := xdc ddX1_chooseLong_1 5 rfl
theorem dX1_chooseLong_143 : decode cX1_chooseLong 143 = .ok (.bipush 15, 2) := xdc ddX1_chooseLong_1 6 rfl
theorem dX1_chooseLong_145 : decode cX1_chooseLong 145 = .ok (.iand, 1) := xdc ddX1_chooseLong_1 7 rfl
theorem dX1_chooseLong_146 : decode cX1_chooseLong 146 = .ok (.putfield 169, 3) := xdc ddX1_chooseLong_1 8 rfl
theorem dX1_chooseLong_149 : decode cX1_chooseLong 149 = .ok (.goto 47, 3) := xdc ddX1_chooseLong_1 9 rfl
theorem dX1_chooseLong_152 : decode cX1_chooseLong 152 = .ok (.aload_n 0, 1) := xdc ddX1_chooseLong_1 10 rfl
theorem dX1_chooseLong_153 : decode cX1_chooseLong 153 = .ok (.getstatic 270, 3) := xdc ddX1_chooseLong_1 11 rfl
theorem dX1_chooseLong_156 : decode cX1_chooseLong 156 = .ok (.iconst 5, 1) := xdc ddX1_chooseLong_1 12 rfl
theorem dX1_chooseLong_157 : decode cX1_chooseLong 157 = .ok (.iconst 1, 1) := xdc ddX1_chooseLong_1 13 rfl
theorem dX1_chooseLong_158 : decode cX1_chooseLong 158 = .ok (.invokevirtual 175, 3) := xdc ddX1_chooseLong_1 14 rfl
theorem dX1_chooseLong_161 : decode cX1_chooseLong 161 = .ok (.aload_n 0, 1) := xdc ddX1_chooseLong_1 15 rfl
theorem dX1_chooseLong_162 : decode cX1_chooseLong 162 = .ok (.getfield 15, 3) := xdc ddX1_chooseLong_1 16 rfl
theorem dX1_chooseLong_165 : decode cX1_chooseLong 165 = .ok (.iload_n 1, 1) := xdc ddX1_chooseLong_1 17 rfl
theorem dX1_chooseLong_166 : decode cX1_chooseLong 166 = .ok (.bipush 15, 2) := xdc ddX1_chooseLong_1 18 rfl
theorem dX1_chooseLong_168 : decode cX1_chooseLong 168 = .ok (.iand, 1) := xdc ddX1_chooseLong_1 19 rfl
theorem dX1_chooseLong_169 : decode cX1_chooseLong 169 = .ok (.putfield 169, 3) := xdc ddX1_chooseLong_1 20 rfl
theorem dX1_chooseLong_172 : decode cX1_chooseLong 172 = .ok (.goto 24, 3) := xdc ddX1_chooseLong_1 21 rfl
theorem dX1_chooseLong_175 : decode cX1_chooseLong 175 = .ok (.aload_n 0, 1) := xdc ddX1_chooseLong_1 22 rfl
theorem dX1_chooseLong_176 : decode cX1_chooseLong 176 = .ok (.iload_n 1, 1) := xdc ddX1_chooseLong_1 23 rfl
theorem dX1_chooseLong_177 : decode cX1_chooseLong 177 = .ok (.invokevirtual 273, 3) := xdc ddX1_chooseLong_1 24 rfl
theorem dX1_chooseLong_180 : decode cX1_chooseLong 180 = .ok (.goto 16, 3) := xdc ddX1_chooseLong_1 25 rfl
theorem dX1_chooseLong_183 : decode cX1_chooseLong 183 = .ok (.aload_n 0, 1) := xdc ddX1_chooseLong_1 26 rfl
theorem dX1_chooseLong_184 : decode cX1_chooseLong 184 = .ok (.iload_n 1, 1) := xdc ddX1_chooseLong_1 27 rfl
theorem dX1_chooseLong_185 : decode cX1_chooseLong 185 = .ok (.invokevirtual 276, 3) := xdc ddX1_chooseLong_1 28 rfl
theorem dX1_chooseLong_188 : decode cX1_chooseLong 188 = .ok (.goto 8, 3) := xdc ddX1_chooseLong_1 29 rfl
theorem dX1_chooseLong_191 : decode cX1_chooseLong 191 = .ok (.aload_n 0, 1) := xdc ddX1_chooseLong_1 30 rfl
theorem dX1_chooseLong_192 : decode cX1_chooseLong 192 = .ok (.iconst 0, 1) := xdc ddX1_chooseLong_1 31 rfl
theorem dX1_chooseLong_193 : decode cX1_chooseLong 193 = .ok (.putfield 38, 3) := xdc ddX1_chooseLong_1 32 rfl
theorem dX1_chooseLong_196 : decode cX1_chooseLong 196 = .ok (.return_, 1) := xdc ddX1_chooseLong_1 33 rfl
abbrev cX1_chooseWord : ByteArray := prog_3_method_26_code
theorem ddX1_chooseWord_0 : xdec cX1_chooseWord [(0, (.iload_n 1, 1)), (1, (.sipush 137, 3)), (4, (.if_icmp .ne 15, 3)), (7, (.aload_n 0, 1)), (8, (.getstatic 200, 3)), (11, (.iconst 1, 1)), (12, (.iconst 2, 1)), (13, (.invokevirtual 175, 3)), (16, (.goto 47, 3)), (19, (.iload_n 1, 1)), (20, (.sipush 139, 3)), (23, (.if_icmp .ne 15, 3)), (26, (.aload_n 0, 1)), (27, (.getstatic 200, 3)), (30, (.iconst 2, 1)), (31, (.iconst 2, 1)), (32, (.invokevirtual 175, 3)), (35, (.goto 28, 3)), (38, (.iload_n 1, 1)), (39, (.sipush 144, 3)), (42, (.if_icmp .ne 16, 3)), (45, (.aload_n 0, 1)), (46, (.getstatic 222, 3)), (49, (.iconst 0, 1)), (50, (.iconst 4, 1)), (51, (.iconst 0, 1)), (52, (.invokevirtual 143, 3)), (55, (.goto 8, 3)), (58, (.aload_n 0, 1)), (59, (.iconst 0, 1)), (60, (.putfield 38, 3)), (63, (.return_, 1))] = true := by decide +kernel
theorem dX1_chooseWord_0 : decode cX1_chooseWord 0 = .ok (.iload_n 1, 1) := xdc ddX1_chooseWord_0 0 rfl
theorem dX1_chooseWord_1 : decode cX1_chooseWord 1 = .ok (.sipush 137, 3) := xdc ddX1_chooseWord_0 1 rfl
theorem dX1_chooseWord_4 : decode cX1_chooseWord 4 = .ok (.if_icmp .ne 15, 3) := xdc ddX1_chooseWord_0 2 rfl
theorem dX1_chooseWord_7 : decode cX1_chooseWord 7 = .ok (.aload_n 0, 1) := xdc ddX1_chooseWord_0 3 rfl
theorem dX1_chooseWord_8 : decode cX1_chooseWord 8 = .ok (.getstatic 200, 3) := xdc ddX1_chooseWord_0 4 rfl
theorem dX1_chooseWord_11 : decode cX1_chooseWord 11 = .ok (.iconst 1, 1) := xdc ddX1_chooseWord_0 5 rfl
theorem dX1_chooseWord_12 : decode cX1_chooseWord 12 = .ok (.iconst 2, 1) := xdc ddX1_chooseWord_0 6 rfl
theorem dX1_chooseWord_13 : decode cX1_chooseWord 13 = .ok (.invokevirtual 175, 3) := xdc ddX1_chooseWord_0 7 rfl
theorem dX1_chooseWord_16 : decode cX1_chooseWord 16 = .ok (.goto 47, 3) := xdc ddX1_chooseWord_0 8 rfl
theorem dX1_chooseWord_19 : decode cX1_chooseWord 19 = .ok (.iload_n 1, 1) := xdc ddX1_chooseWord_0 9 rfl
theorem dX1_chooseWord_20 : decode cX1_chooseWord 20 = .ok (.sipush 139, 3) := xdc ddX1_chooseWord_0 10 rfl
theorem dX1_chooseWord_23 : decode cX1_chooseWord 23 = .ok (.if_icmp .ne 15, 3) := xdc ddX1_chooseWord_0 11 rfl
theorem dX1_chooseWord_26 : decode cX1_chooseWord 26 = .ok (.aload_n 0, 1) := xdc ddX1_chooseWord_0 12 rfl
theorem dX1_chooseWord_27 : decode cX1_chooseWord 27 = .ok (.getstatic 200, 3) := xdc ddX1_chooseWord_0 13 rfl
theorem dX1_chooseWord_30 : decode cX1_chooseWord 30 = .ok (.iconst 2, 1) := xdc ddX1_chooseWord_0 14 rfl
theorem dX1_chooseWord_31 : decode cX1_chooseWord 31 = .ok (.iconst 2, 1) := xdc ddX1_chooseWord_0 15 rfl
theorem dX1_chooseWord_32 : decode cX1_chooseWord 32 = .ok (.invokevirtual 175, 3) := xdc ddX1_chooseWord_0 16 rfl
theorem dX1_chooseWord_35 : decode cX1_chooseWord 35 = .ok (.goto 28, 3) := xdc ddX1_chooseWord_0 17 rfl
theorem dX1_chooseWord_38 : decode cX1_chooseWord 38 = .ok (.iload_n 1, 1) := xdc ddX1_chooseWord_0 18 rfl
theorem dX1_chooseWord_39 : decode cX1_chooseWord 39 = .ok (.sipush 144, 3) := xdc ddX1_chooseWord_0 19 rfl
theorem dX1_chooseWord_42 : decode cX1_chooseWord 42 = .ok (.if_icmp .ne 16, 3) := xdc ddX1_chooseWord_0 20 rfl
theorem dX1_chooseWord_45 : decode cX1_chooseWord 45 = .ok (.aload_n 0, 1) := xdc ddX1_chooseWord_0 21 rfl
theorem dX1_chooseWord_46 : decode cX1_chooseWord 46 = .ok (.getstatic 222, 3) := xdc ddX1_chooseWord_0 22 rfl
theorem dX1_chooseWord_49 : decode cX1_chooseWord 49 = .ok (.iconst 0, 1) := xdc ddX1_chooseWord_0 23 rfl
theorem dX1_chooseWord_50 : decode cX1_chooseWord 50 = .ok (.iconst 4, 1) := xdc ddX1_chooseWord_0 24 rfl
theorem dX1_chooseWord_51 : decode cX1_chooseWord 51 = .ok (.iconst 0, 1) := xdc ddX1_chooseWord_0 25 rfl
theorem dX1_chooseWord_52 : decode cX1_chooseWord 52 = .ok (.invokevirtual 143, 3) := xdc ddX1_chooseWord_0 26 rfl
theorem dX1_chooseWord_55 : decode cX1_chooseWord 55 = .ok (.goto 8, 3) := xdc ddX1_chooseWord_0 27 rfl
theorem dX1_chooseWord_58 : decode cX1_chooseWord 58 = .ok (.aload_n 0, 1) := xdc ddX1_chooseWord_0 28 rfl
theorem dX1_chooseWord_59 : decode cX1_chooseWord 59 = .ok (.iconst 0, 1) := xdc ddX1_chooseWord_0 29 rfl
theorem dX1_chooseWord_60 : decode cX1_chooseWord 60 = .ok (.putfield 38, 3) := xdc ddX1_chooseWord_0 30 rfl
theorem dX1_chooseWord_63 : decode cX1_chooseWord 63 = .ok (.return_, 1) := xdc ddX1_chooseWord_0 31 rfl
abbrev cX1_choosePush : ByteArray := prog_3_method_13_code
theorem ddX1_choosePush_0 : xdec cX1_choosePush [(0, (.iload_n 1, 1)), (1, (.bipush 106, 2)), (3, (.if_icmp .ge 7, 3)), (6, (.iconst 4, 1)), (7, (.goto 4, 3)), (10, (.iconst 1, 1)), (11, (.istore_n 2, 1)), (12, (.iload_n 1, 1)), (13, (.bipush 104, 2)), (15, (.if_icmp .eq 9, 3)), (18, (.iload_n 1, 1)), (19, (.bipush 106, 2)), (21, (.if_icmp .ne 17, 3)), (24, (.aload_n 0, 1)), (25, (.getstatic 157, 3)), (28, (.bipush 6, 2)), (30, (.iconst 4, 1)), (31, (.iload_n 2, 1)), (32, (.invokevirtual 143, 3)), (35, (.goto 38, 3)), (38, (.iload_n 1, 1)), (39, (.bipush 105, 2)), (41, (.if_icmp .eq 9, 3)), (44, (.iload_n 1, 1)), (45, (.bipush 107, 2)), (47, (.if_icmp .ne 21, 3)), (50, (.aload_n 0, 1)), (51, (.getstatic 179, 3)), (54, (.bipush 7, 2)), (56, (.iconst 4, 1)), (57, (.invokevirtual 175, 3)), (60, (.aload_n 0, 1)), (61, (.iload_n 2, 1)), (62, (.putfield 47, 3)), (65, (.goto 8, 3)), (68, (.aload_n 0, 1)), (69, (.iconst 0, 1)), (70, (.putfield 38, 3)), (73, (.return_, 1))] = true := by decide +kernel
theorem dX1_choosePush_0 : decode cX1_choosePush 0 = .ok (.iload_n 1, 1) := xdc ddX1_choosePush_0 0 rfl
theorem dX1_choosePush_1 : decode cX1_choosePush 1 = .ok (.bipush 106, 2) := xdc ddX1_choosePush_0 1 rfl
theorem dX1_choosePush_3 : decode cX1_choosePush 3 = .ok (.if_icmp .ge 7, 3) := xdc ddX1_choosePush_0 2 rfl
theorem dX1_choosePush_6 : decode cX1_choosePush 6 = .ok (.iconst 4, 1) := xdc ddX1_choosePush_0 3 rfl
theorem dX1_choosePush_7 : decode cX1_choosePush 7 = .ok (.goto 4, 3) := xdc ddX1_choosePush_0 4 rfl
theorem dX1_choosePush_10 : decode cX1_choosePush 10 = .ok (.iconst 1, 1) := xdc ddX1_choosePush_0 5 rfl
theorem dX1_choosePush_11 : decode cX1_choosePush 11 = .ok (.istore_n 2, 1) := xdc ddX1_choosePush_0 6 rfl
theorem dX1_choosePush_12 : decode cX1_choosePush 12 = .ok (.iload_n 1, 1) := xdc ddX1_choosePush_0 7 rfl
theorem dX1_choosePush_13 : decode cX1_choosePush 13 = .ok (.bipush 104, 2) := xdc ddX1_choosePush_0 8 rfl
theorem dX1_choosePush_15 : decode cX1_choosePush 15 = .ok (.if_icmp .eq 9, 3) := xdc ddX1_choosePush_0 9 rfl
theorem dX1_choosePush_18 : decode cX1_choosePush 18 = .ok (.iload_n 1, 1) := xdc ddX1_choosePush_0 10 rfl
theorem dX1_choosePush_19 : decode cX1_choosePush 19 = .ok (.bipush 106, 2) := xdc ddX1_choosePush_0 11 rfl
theorem dX1_choosePush_21 : decode cX1_choosePush 21 = .ok (.if_icmp .ne 17, 3) := xdc ddX1_choosePush_0 12 rfl
theorem dX1_choosePush_24 : decode cX1_choosePush 24 = .ok (.aload_n 0, 1) := xdc ddX1_choosePush_0 13 rfl
theorem dX1_choosePush_25 : decode cX1_choosePush 25 = .ok (.getstatic 157, 3) := xdc ddX1_choosePush_0 14 rfl
theorem dX1_choosePush_28 : decode cX1_choosePush 28 = .ok (.bipush 6, 2) := xdc ddX1_choosePush_0 15 rfl
theorem dX1_choosePush_30 : decode cX1_choosePush 30 = .ok (.iconst 4, 1) := xdc ddX1_choosePush_0 16 rfl
theorem dX1_choosePush_31 : decode cX1_choosePush 31 = .ok (.iload_n 2, 1) := xdc ddX1_choosePush_0 17 rfl
theorem dX1_choosePush_32 : decode cX1_choosePush 32 = .ok (.invokevirtual 143, 3) := xdc ddX1_choosePush_0 18 rfl
theorem dX1_choosePush_35 : decode cX1_choosePush 35 = .ok (.goto 38, 3) := xdc ddX1_choosePush_0 19 rfl
theorem dX1_choosePush_38 : decode cX1_choosePush 38 = .ok (.iload_n 1, 1) := xdc ddX1_choosePush_0 20 rfl
theorem dX1_choosePush_39 : decode cX1_choosePush 39 = .ok (.bipush 105, 2) := xdc ddX1_choosePush_0 21 rfl
theorem dX1_choosePush_41 : decode cX1_choosePush 41 = .ok (.if_icmp .eq 9, 3) := xdc ddX1_choosePush_0 22 rfl
theorem dX1_choosePush_44 : decode cX1_choosePush 44 = .ok (.iload_n 1, 1) := xdc ddX1_choosePush_0 23 rfl
theorem dX1_choosePush_45 : decode cX1_choosePush 45 = .ok (.bipush 107, 2) := xdc ddX1_choosePush_0 24 rfl
theorem dX1_choosePush_47 : decode cX1_choosePush 47 = .ok (.if_icmp .ne 21, 3) := xdc ddX1_choosePush_0 25 rfl
theorem dX1_choosePush_50 : decode cX1_choosePush 50 = .ok (.aload_n 0, 1) := xdc ddX1_choosePush_0 26 rfl
theorem dX1_choosePush_51 : decode cX1_choosePush 51 = .ok (.getstatic 179, 3) := xdc ddX1_choosePush_0 27 rfl
theorem dX1_choosePush_54 : decode cX1_choosePush 54 = .ok (.bipush 7, 2) := xdc ddX1_choosePush_0 28 rfl
theorem dX1_choosePush_56 : decode cX1_choosePush 56 = .ok (.iconst 4, 1) := xdc ddX1_choosePush_0 29 rfl
theorem dX1_choosePush_57 : decode cX1_choosePush 57 = .ok (.invokevirtual 175, 3) := xdc ddX1_choosePush_0 30 rfl
theorem dX1_choosePush_60 : decode cX1_choosePush 60 = .ok (.aload_n 0, 1) := xdc ddX1_choosePush_0 31 rfl
theorem dX1_choosePush_61 : decode cX1_choosePush 61 = .ok (.iload_n 2, 1) := xdc ddX1_choosePush_0 32 rfl
theorem dX1_choosePush_62 : decode cX1_choosePush 62 = .ok (.putfield 47, 3) := xdc ddX1_choosePush_0 33 rfl
theorem dX1_choosePush_65 : decode cX1_choosePush 65 = .ok (.goto 8, 3) := xdc ddX1_choosePush_0 34 rfl
theorem dX1_choosePush_68 : decode cX1_choosePush 68 = .ok (.aload_n 0, 1) := xdc ddX1_choosePush_0 35 rfl
theorem dX1_choosePush_69 : decode cX1_choosePush 69 = .ok (.iconst 0, 1) := xdc ddX1_choosePush_0 36 rfl
theorem dX1_choosePush_70 : decode cX1_choosePush 70 = .ok (.putfield 38, 3) := xdc ddX1_choosePush_0 37 rfl
theorem dX1_choosePush_73 : decode cX1_choosePush 73 = .ok (.return_, 1) := xdc ddX1_choosePush_0 38 rfl
abbrev cX1_chooseEight : ByteArray := prog_3_method_12_code
theorem ddX1_chooseEight_0 : xdec cX1_chooseEight [(0, (.iload_n 2, 1)), (1, (.iconst 1, 1)), (2, (.iand, 1)), (3, (.ifCond .ne 7, 3)), (6, (.iconst 1, 1)), (7, (.goto 4, 3)), (10, (.iconst 4, 1)), (11, (.istore_n 3, 1)), (12, (.iload_n 2, 1)), (13, (.iconst 2, 1)), (14, (.if_icmp .ge 13, 3)), (17, (.aload_n 0, 1)), (18, (.aload_n 1, 1)), (19, (.iconst 1, 1)), (20, (.iload_n 3, 1)), (21, (.invokevirtual 175, 3)), (24, (.goto 40, 3)), (27, (.iload_n 2, 1)), (28, (.iconst 4, 1)), (29, (.if_icmp .ge 13, 3)), (32, (.aload_n 0, 1)), (33, (.aload_n 1, 1)), (34, (.iconst 2, 1)), (35, (.iload_n 3, 1)), (36, (.invokevirtual 175, 3)), (39, (.goto 25, 3)), (42, (.iload_n 2, 1)), (43, (.bipush 6, 2)), (45, (.if_icmp .ge 14, 3)), (48, (.aload_n 0, 1)), (49, (.aload_n 1, 1)), (50, (.iconst 3, 1)), (51, (.iload_n 3, 1)), (52, (.iload_n 3, 1)), (53, (.invokevirtual 143, 3)), (56, (.goto 8, 3)), (59, (.aload_n 0, 1)), (60, (.iconst 0, 1)), (61, (.putfield 38, 3)), (64, (.return_, 1))] = true := by decide +kernel
theorem dX1_chooseEight_0 : decode cX1_chooseEight 0 = .ok (.iload_n 2, 1) := xdc ddX1_chooseEight_0 0 rfl
theorem dX1_chooseEight_1 : decode cX1_chooseEight 1 = .ok (.iconst 1, 1) := xdc ddX1_chooseEight_0 1 rfl
theorem dX1_chooseEight_2 : decode cX1_chooseEight 2 = .ok (.iand, 1) := xdc ddX1_chooseEight_0 2 rfl
theorem dX1_chooseEight_3 : decode cX1_chooseEight 3 = .ok (.ifCond .ne 7, 3) := xdc ddX1_chooseEight_0 3 rfl
theorem dX1_chooseEight_6 : decode cX1_chooseEight 6 = .ok (.iconst 1, 1) := xdc ddX1_chooseEight_0 4 rfl
theorem dX1_chooseEight_7 : decode cX1_chooseEight 7 = .ok (.goto 4, 3) := xdc ddX1_chooseEight_0 5 rfl
theorem dX1_chooseEight_10 : decode cX1_chooseEight 10 = .ok (.iconst 4, 1) := xdc ddX1_chooseEight_0 6 rfl
theorem dX1_chooseEight_11 : decode cX1_chooseEight 11 = .ok (.istore_n 3, 1) := xdc ddX1_chooseEight_0 7 rfl
theorem dX1_chooseEight_12 : decode cX1_chooseEight 12 = .ok (.iload_n 2, 1) := xdc ddX1_chooseEight_0 8 rfl
theorem dX1_chooseEight_13 : decode cX1_chooseEight 13 = .ok (.iconst 2, 1) := xdc ddX1_chooseEight_0 9 rfl
theorem dX1_chooseEight_14 : decode cX1_chooseEight 14 = .ok (.if_icmp .ge 13, 3) := xdc ddX1_chooseEight_0 10 rfl
theorem dX1_chooseEight_17 : decode cX1_chooseEight 17 = .ok (.aload_n 0, 1) := xdc ddX1_chooseEight_0 11 rfl
theorem dX1_chooseEight_18 : decode cX1_chooseEight 18 = .ok (.aload_n 1, 1) := xdc ddX1_chooseEight_0 12 rfl
theorem dX1_chooseEight_19 : decode cX1_chooseEight 19 = .ok (.iconst 1, 1) := xdc ddX1_chooseEight_0 13 rfl
theorem dX1_chooseEight_20 : decode cX1_chooseEight 20 = .ok (.iload_n 3, 1) := xdc ddX1_chooseEight_0 14 rfl
theorem dX1_chooseEight_21 : decode cX1_chooseEight 21 = .ok (.invokevirtual 175, 3) := xdc ddX1_chooseEight_0 15 rfl
theorem dX1_chooseEight_24 : decode cX1_chooseEight 24 = .ok (.goto 40, 3) := xdc ddX1_chooseEight_0 16 rfl
theorem dX1_chooseEight_27 : decode cX1_chooseEight 27 = .ok (.iload_n 2, 1) := xdc ddX1_chooseEight_0 17 rfl
theorem dX1_chooseEight_28 : decode cX1_chooseEight 28 = .ok (.iconst 4, 1) := xdc ddX1_chooseEight_0 18 rfl
theorem dX1_chooseEight_29 : decode cX1_chooseEight 29 = .ok (.if_icmp .ge 13, 3) := xdc ddX1_chooseEight_0 19 rfl
theorem dX1_chooseEight_32 : decode cX1_chooseEight 32 = .ok (.aload_n 0, 1) := xdc ddX1_chooseEight_0 20 rfl
theorem dX1_chooseEight_33 : decode cX1_chooseEight 33 = .ok (.aload_n 1, 1) := xdc ddX1_chooseEight_0 21 rfl
theorem dX1_chooseEight_34 : decode cX1_chooseEight 34 = .ok (.iconst 2, 1) := xdc ddX1_chooseEight_0 22 rfl
theorem dX1_chooseEight_35 : decode cX1_chooseEight 35 = .ok (.iload_n 3, 1) := xdc ddX1_chooseEight_0 23 rfl
theorem dX1_chooseEight_36 : decode cX1_chooseEight 36 = .ok (.invokevirtual 175, 3) := xdc ddX1_chooseEight_0 24 rfl
theorem dX1_chooseEight_39 : decode cX1_chooseEight 39 = .ok (.goto 25, 3) := xdc ddX1_chooseEight_0 25 rfl
theorem dX1_chooseEight_42 : decode cX1_chooseEight 42 = .ok (.iload_n 2, 1) := xdc ddX1_chooseEight_0 26 rfl
theorem dX1_chooseEight_43 : decode cX1_chooseEight 43 = .ok (.bipush 6, 2) := xdc ddX1_chooseEight_0 27 rfl
theorem dX1_chooseEight_45 : decode cX1_chooseEight 45 = .ok (.if_icmp .ge 14, 3) := xdc ddX1_chooseEight_0 28 rfl
theorem dX1_chooseEight_48 : decode cX1_chooseEight 48 = .ok (.aload_n 0, 1) := xdc ddX1_chooseEight_0 29 rfl
theorem dX1_chooseEight_49 : decode cX1_chooseEight 49 = .ok (.aload_n 1, 1) := xdc ddX1_chooseEight_0 30 rfl
theorem dX1_chooseEight_50 : decode cX1_chooseEight 50 = .ok (.iconst 3, 1) := xdc ddX1_chooseEight_0 31 rfl
theorem dX1_chooseEight_51 : decode cX1_chooseEight 51 = .ok (.iload_n 3, 1) := xdc ddX1_chooseEight_0 32 rfl
theorem dX1_chooseEight_52 : decode cX1_chooseEight 52 = .ok (.iload_n 3, 1) := xdc ddX1_chooseEight_0 33 rfl
theorem dX1_chooseEight_53 : decode cX1_chooseEight 53 = .ok (.invokevirtual 143, 3) := xdc ddX1_chooseEight_0 34 rfl
theorem dX1_chooseEight_56 : decode cX1_chooseEight 56 = .ok (.goto 8, 3) := xdc ddX1_chooseEight_0 35 rfl
theorem dX1_chooseEight_59 : decode cX1_chooseEight 59 = .ok (.aload_n 0, 1) := xdc ddX1_chooseEight_0 36 rfl
theorem dX1_chooseEight_60 : decode cX1_chooseEight 60 = .ok (.iconst 0, 1) := xdc ddX1_chooseEight_0 37 rfl
theorem dX1_chooseEight_61 : decode cX1_chooseEight 61 = .ok (.putfield 38, 3) := xdc ddX1_chooseEight_0 38 rfl
theorem dX1_chooseEight_64 : decode cX1_chooseEight 64 = .ok (.return_, 1) := xdc ddX1_chooseEight_0 39 rfl
abbrev cX1_chooseLow : ByteArray := prog_3_method_11_code
theorem ddX1_chooseLow_0 : xdec cX1_chooseLow [(0, (.iload_n 1, 1)), (1, (.bipush 7, 2)), (3, (.iand, 1)), (4, (.istore_n 2, 1)), (5, (.iload_n 1, 1)), (6, (.iconst 3, 1)), (7, (.ishr, 1)), (8, (.tableswitch 133 8 15 #[48, 59, 70, 81, 92, 100, 108, 108], 48)), (56, (.aload_n 0, 1)), (57, (.getstatic 147, 3)), (60, (.iload_n 2, 1)), (61, (.invokevirtual 150, 3)), (64, (.goto 92, 3)), (67, (.aload_n 0, 1)), (68, (.getstatic 154, 3)), (71, (.iload_n 2, 1)), (72, (.invokevirtual 150, 3)), (75, (.goto 81, 3)), (78, (.aload_n 0, 1)), (79, (.getstatic 157, 3)), (82, (.iload_n 2, 1)), (83, (.invokevirtual 150, 3)), (86, (.goto 70, 3)), (89, (.aload_n 0, 1)), (90, (.getstatic 160, 3)), (93, (.iload_n 2, 1)), (94, (.invokevirtual 150, 3)), (97, (.goto 59, 3)), (100, (.aload_n 0, 1)), (101, (.iconst 0, 1)), (102, (.putfield 38, 3)), (105, (.goto 51, 3)), (108, (.aload_n 0, 1)), (109, (.iload_n 1, 1)), (110, (.invokevirtual 163, 3)), (113, (.goto 43, 3)), (116, (.aload_n 0, 1)), (117, (.getstatic 166, 3)), (120, (.bipush 9, 2)), (122, (.iconst 4, 1))] = true := by decide +kernel
theorem dX1_chooseLow_0 : decode cX1_chooseLow 0 = .ok (.iload_n 1, 1) := xdc ddX1_chooseLow_0 0 rfl
theorem dX1_chooseLow_1 : decode cX1_chooseLow 1 = .ok (.bipush 7, 2) := xdc ddX1_chooseLow_0 1 rfl
theorem dX1_chooseLow_3 : decode cX1_chooseLow 3 = .ok (.iand, 1) := xdc ddX1_chooseLow_0 2 rfl
theorem dX1_chooseLow_4 : decode cX1_chooseLow 4 = .ok (.istore_n 2, 1) := xdc ddX1_chooseLow_0 3 rfl
theorem dX1_chooseLow_5 : decode cX1_chooseLow 5 = .ok (.iload_n 1, 1) := xdc ddX1_chooseLow_0 4 rfl
theorem dX1_chooseLow_6 : decode cX1_chooseLow 6 = .ok (.iconst 3, 1) := xdc ddX1_chooseLow_0 5 rfl
theorem dX1_chooseLow_7 : decode cX1_chooseLow 7 = .ok (.ishr, 1) := xdc ddX1_chooseLow_0 6 rfl
theorem dX1_chooseLow_8 : decode cX1_chooseLow 8 = .ok (.tableswitch 133 8 15 #[48, 59, 70, 81, 92, 100, 108, 108], 48) := xdc ddX1_chooseLow_0 7 rfl
theorem dX1_chooseLow_56 : decode cX1_chooseLow 56 = .ok (.aload_n 0, 1) := xdc ddX1_chooseLow_0 8 rfl
theorem dX1_chooseLow_57 : decode cX1_chooseLow 57 = .ok (.getstatic 147, 3) := xdc ddX1_chooseLow_0 9 rfl
theorem dX1_chooseLow_60 : decode cX1_chooseLow 60 = .ok (.iload_n 2, 1) := xdc ddX1_chooseLow_0 10 rfl
theorem dX1_chooseLow_61 : decode cX1_chooseLow 61 = .ok (.invokevirtual 150, 3) := xdc ddX1_chooseLow_0 11 rfl
theorem dX1_chooseLow_64 : decode cX1_chooseLow 64 = .ok (.goto 92, 3) := xdc ddX1_chooseLow_0 12 rfl
theorem dX1_chooseLow_67 : decode cX1_chooseLow 67 = .ok (.aload_n 0, 1) := xdc ddX1_chooseLow_0 13 rfl
theorem dX1_chooseLow_68 : decode cX1_chooseLow 68 = .ok (.getstatic 154, 3) := xdc ddX1_chooseLow_0 14 rfl
theorem dX1_chooseLow_71 : decode cX1_chooseLow 71 = .ok (.iload_n 2, 1) := xdc ddX1_chooseLow_0 15 rfl
theorem dX1_chooseLow_72 : decode cX1_chooseLow 72 = .ok (.invokevirtual 150, 3) := xdc ddX1_chooseLow_0 16 rfl
theorem dX1_chooseLow_75 : decode cX1_chooseLow 75 = .ok (.goto 81, 3) := xdc ddX1_chooseLow_0 17 rfl
theorem dX1_chooseLow_78 : decode cX1_chooseLow 78 = .ok (.aload_n 0, 1) := xdc ddX1_chooseLow_0 18 rfl
theorem dX1_chooseLow_79 : decode cX1_chooseLow 79 = .ok (.getstatic 157, 3) := xdc ddX1_chooseLow_0 19 rfl
theorem dX1_chooseLow_82 : decode cX1_chooseLow 82 = .ok (.iload_n 2, 1) := xdc ddX1_chooseLow_0 20 rfl
theorem dX1_chooseLow_83 : decode cX1_chooseLow 83 = .ok (.invokevirtual 150, 3) := xdc ddX1_chooseLow_0 21 rfl
theorem dX1_chooseLow_86 : decode cX1_chooseLow 86 = .ok (.goto 70, 3) := xdc ddX1_chooseLow_0 22 rfl
theorem dX1_chooseLow_89 : decode cX1_chooseLow 89 = .ok (.aload_n 0, 1) := xdc ddX1_chooseLow_0 23 rfl
theorem dX1_chooseLow_90 : decode cX1_chooseLow 90 = .ok (.getstatic 160, 3) := xdc ddX1_chooseLow_0 24 rfl
theorem dX1_chooseLow_93 : decode cX1_chooseLow 93 = .ok (.iload_n 2, 1) := xdc ddX1_chooseLow_0 25 rfl
theorem dX1_chooseLow_94 : decode cX1_chooseLow 94 = .ok (.invokevirtual 150, 3) := xdc ddX1_chooseLow_0 26 rfl
theorem dX1_chooseLow_97 : decode cX1_chooseLow 97 = .ok (.goto 59, 3) := xdc ddX1_chooseLow_0 27 rfl
theorem dX1_chooseLow_100 : decode cX1_chooseLow 100 = .ok (.aload_n 0, 1) := xdc ddX1_chooseLow_0 28 rfl
theorem dX1_chooseLow_101 : decode cX1_chooseLow 101 = .ok (.iconst 0, 1) := xdc ddX1_chooseLow_0 29 rfl
theorem dX1_chooseLow_102 : decode cX1_chooseLow 102 = .ok (.putfield 38, 3) := xdc ddX1_chooseLow_0 30 rfl
theorem dX1_chooseLow_105 : decode cX1_chooseLow 105 = .ok (.goto 51, 3) := xdc ddX1_chooseLow_0 31 rfl
theorem dX1_chooseLow_108 : decode cX1_chooseLow 108 = .ok (.aload_n 0, 1) := xdc ddX1_chooseLow_0 32 rfl
theorem dX1_chooseLow_109 : decode cX1_chooseLow 109 = .ok (.iload_n 1, 1) := xdc ddX1_chooseLow_0 33 rfl
theorem dX1_chooseLow_110 : decode cX1_chooseLow 110 = .ok (.invokevirtual 163, 3) := xdc ddX1_chooseLow_0 34 rfl
theorem dX1_chooseLow_113 : decode cX1_chooseLow 113 = .ok (.goto 43, 3) := xdc ddX1_chooseLow_0 35 rfl
theorem dX1_chooseLow_116 : decode cX1_chooseLow 116 = .ok (.aload_n 0, 1) := xdc ddX1_chooseLow_0 36 rfl
theorem dX1_chooseLow_117 : decode cX1_chooseLow 117 = .ok (.getstatic 166, 3) := xdc ddX1_chooseLow_0 37 rfl
theorem dX1_chooseLow_120 : decode cX1_chooseLow 120 = .ok (.bipush 9, 2) := xdc ddX1_chooseLow_0 38 rfl
theorem dX1_chooseLow_122 : decode cX1_chooseLow 122 = .ok (.iconst 4, 1) := xdc ddX1_chooseLow_0 39 rfl
theorem ddX1_chooseLow_1 : xdec cX1_chooseLow [(123, (.iconst 1, 1)), (124, (.invokevirtual 143, 3)), (127, (.aload_n 0, 1)), (128, (.getfield 15, 3)), (131, (.iload_n 1, 1)), (132, (.bipush 15, 2)), (134, (.iand, 1)), (135, (.putfield 169, 3)), (138, (.goto 18, 3)), (141, (.aload_n 0, 1)), (142, (.getstatic 118, 3)), (145, (.iload_n 1, 1)), (146, (.iconst 3, 1)), (147, (.ishr, 1)), (148, (.bipush 7, 2)), (150, (.iand, 1)), (151, (.aaload, 1)), (152, (.iload_n 2, 1)), (153, (.invokevirtual 172, 3)), (156, (.return_, 1))] = true := by decide +kernel
theorem dX1_chooseLow_123 : decode cX1_chooseLow 123 = .ok (.iconst 1, 1) := xdc ddX1_chooseLow_1 0 rfl
theorem dX1_chooseLow_124 : decode cX1_chooseLow 124 = .ok (.invokevirtual 143, 3) := xdc ddX1_chooseLow_1 1 rfl
theorem dX1_chooseLow_127 : decode cX1_chooseLow 127 = .ok (.aload_n 0, 1) := xdc ddX1_chooseLow_1 2 rfl
theorem dX1_chooseLow_128 : decode cX1_chooseLow 128 = .ok (.getfield 15, 3) := xdc ddX1_chooseLow_1 3 rfl
theorem dX1_chooseLow_131 : decode cX1_chooseLow 131 = .ok (.iload_n 1, 1) := xdc ddX1_chooseLow_1 4 rfl
theorem dX1_chooseLow_132 : decode cX1_chooseLow 132 = .ok (.bipush 15, 2) := xdc ddX1_chooseLow_1 5 rfl
theorem dX1_chooseLow_134 : decode cX1_chooseLow 134 = .ok (.iand, 1) := xdc ddX1_chooseLow_1 6 rfl
theorem dX1_chooseLow_135 : decode cX1_chooseLow 135 = .ok (.putfield 169, 3) := xdc ddX1_chooseLow_1 7 rfl
theorem dX1_chooseLow_138 : decode cX1_chooseLow 138 = .ok (.goto 18, 3) := xdc ddX1_chooseLow_1 8 rfl
theorem dX1_chooseLow_141 : decode cX1_chooseLow 141 = .ok (.aload_n 0, 1) := xdc ddX1_chooseLow_1 9 rfl
theorem dX1_chooseLow_142 : decode cX1_chooseLow 142 = .ok (.getstatic 118, 3) := xdc ddX1_chooseLow_1 10 rfl
theorem dX1_chooseLow_145 : decode cX1_chooseLow 145 = .ok (.iload_n 1, 1) := xdc ddX1_chooseLow_1 11 rfl
theorem dX1_chooseLow_146 : decode cX1_chooseLow 146 = .ok (.iconst 3, 1) := xdc ddX1_chooseLow_1 12 rfl
theorem dX1_chooseLow_147 : decode cX1_chooseLow 147 = .ok (.ishr, 1) := xdc ddX1_chooseLow_1 13 rfl
theorem dX1_chooseLow_148 : decode cX1_chooseLow 148 = .ok (.bipush 7, 2) := xdc ddX1_chooseLow_1 14 rfl
theorem dX1_chooseLow_150 : decode cX1_chooseLow 150 = .ok (.iand, 1) := xdc ddX1_chooseLow_1 15 rfl
theorem dX1_chooseLow_151 : decode cX1_chooseLow 151 = .ok (.aaload, 1) := xdc ddX1_chooseLow_1 16 rfl
theorem dX1_chooseLow_152 : decode cX1_chooseLow 152 = .ok (.iload_n 2, 1) := xdc ddX1_chooseLow_1 17 rfl
theorem dX1_chooseLow_153 : decode cX1_chooseLow 153 = .ok (.invokevirtual 172, 3) := xdc ddX1_chooseLow_1 18 rfl
theorem dX1_chooseLow_156 : decode cX1_chooseLow 156 = .ok (.return_, 1) := xdc ddX1_chooseLow_1 19 rfl
abbrev cX1_withDigit : ByteArray := prog_3_method_9_code
theorem ddX1_withDigit_0 : xdec cX1_withDigit [(0, (.aload_n 0, 1)), (1, (.getfield 15, 3)), (4, (.iload_n 2, 1)), (5, (.putfield 87, 3)), (8, (.aload_n 0, 1)), (9, (.getfield 15, 3)), (12, (.iload_n 3, 1)), (13, (.putfield 137, 3)), (16, (.aload_n 0, 1)), (17, (.getfield 15, 3)), (20, (.iload_n 3, 1)), (21, (.putfield 140, 3)), (24, (.aload_n 0, 1)), (25, (.iconst 1, 1)), (26, (.putfield 41, 3)), (29, (.aload_n 0, 1)), (30, (.iload_n 1, 1)), (31, (.putfield 44, 3)), (34, (.return_, 1))] = true := by decide +kernel
theorem dX1_withDigit_0 : decode cX1_withDigit 0 = .ok (.aload_n 0, 1) := xdc ddX1_withDigit_0 0 rfl
theorem dX1_withDigit_1 : decode cX1_withDigit 1 = .ok (.getfield 15, 3) := xdc ddX1_withDigit_0 1 rfl
theorem dX1_withDigit_4 : decode cX1_withDigit 4 = .ok (.iload_n 2, 1) := xdc ddX1_withDigit_0 2 rfl
theorem dX1_withDigit_5 : decode cX1_withDigit 5 = .ok (.putfield 87, 3) := xdc ddX1_withDigit_0 3 rfl
theorem dX1_withDigit_8 : decode cX1_withDigit 8 = .ok (.aload_n 0, 1) := xdc ddX1_withDigit_0 4 rfl
theorem dX1_withDigit_9 : decode cX1_withDigit 9 = .ok (.getfield 15, 3) := xdc ddX1_withDigit_0 5 rfl
theorem dX1_withDigit_12 : decode cX1_withDigit 12 = .ok (.iload_n 3, 1) := xdc ddX1_withDigit_0 6 rfl
theorem dX1_withDigit_13 : decode cX1_withDigit 13 = .ok (.putfield 137, 3) := xdc ddX1_withDigit_0 7 rfl
theorem dX1_withDigit_16 : decode cX1_withDigit 16 = .ok (.aload_n 0, 1) := xdc ddX1_withDigit_0 8 rfl
theorem dX1_withDigit_17 : decode cX1_withDigit 17 = .ok (.getfield 15, 3) := xdc ddX1_withDigit_0 9 rfl
theorem dX1_withDigit_20 : decode cX1_withDigit 20 = .ok (.iload_n 3, 1) := xdc ddX1_withDigit_0 10 rfl
theorem dX1_withDigit_21 : decode cX1_withDigit 21 = .ok (.putfield 140, 3) := xdc ddX1_withDigit_0 11 rfl
theorem dX1_withDigit_24 : decode cX1_withDigit 24 = .ok (.aload_n 0, 1) := xdc ddX1_withDigit_0 12 rfl
theorem dX1_withDigit_25 : decode cX1_withDigit 25 = .ok (.iconst 1, 1) := xdc ddX1_withDigit_0 13 rfl
theorem dX1_withDigit_26 : decode cX1_withDigit 26 = .ok (.putfield 41, 3) := xdc ddX1_withDigit_0 14 rfl
theorem dX1_withDigit_29 : decode cX1_withDigit 29 = .ok (.aload_n 0, 1) := xdc ddX1_withDigit_0 15 rfl
theorem dX1_withDigit_30 : decode cX1_withDigit 30 = .ok (.iload_n 1, 1) := xdc ddX1_withDigit_0 16 rfl
theorem dX1_withDigit_31 : decode cX1_withDigit 31 = .ok (.putfield 44, 3) := xdc ddX1_withDigit_0 17 rfl
theorem dX1_withDigit_34 : decode cX1_withDigit 34 = .ok (.return_, 1) := xdc ddX1_withDigit_0 18 rfl
abbrev cX1_chooseGroup : ByteArray := prog_3_method_15_code
theorem ddX1_chooseGroup_0 : xdec cX1_chooseGroup [(0, (.iload_n 1, 1)), (1, (.tableswitch 71 130 135 #[39, 71, 47, 47, 59, 59], 39)), (40, (.aload_n 0, 1)), (41, (.iconst 0, 1)), (42, (.putfield 38, 3)), (45, (.goto 50, 3)), (48, (.aload_n 0, 1)), (49, (.getstatic 197, 3)), (52, (.iconst 1, 1)), (53, (.iload_n 2, 1)), (54, (.invokevirtual 175, 3)), (57, (.goto 38, 3)), (60, (.aload_n 0, 1)), (61, (.getstatic 216, 3)), (64, (.iconst 1, 1)), (65, (.iload_n 2, 1)), (66, (.invokevirtual 175, 3)), (69, (.goto 26, 3)), (72, (.aload_n 0, 1)), (73, (.iconst 2, 1)), (74, (.iconst 3, 1)), (75, (.iload_n 2, 1)), (76, (.invokevirtual 206, 3)), (79, (.aload_n 0, 1)), (80, (.iload_n 1, 1)), (81, (.sipush 129, 3)), (84, (.if_icmp .ne 7, 3)), (87, (.iconst 4, 1)), (88, (.goto 4, 3)), (91, (.iconst 1, 1)), (92, (.putfield 47, 3)), (95, (.return_, 1))] = true := by decide +kernel
theorem dX1_chooseGroup_0 : decode cX1_chooseGroup 0 = .ok (.iload_n 1, 1) := xdc ddX1_chooseGroup_0 0 rfl
theorem dX1_chooseGroup_1 : decode cX1_chooseGroup 1 = .ok (.tableswitch 71 130 135 #[39, 71, 47, 47, 59, 59], 39) := xdc ddX1_chooseGroup_0 1 rfl
theorem dX1_chooseGroup_40 : decode cX1_chooseGroup 40 = .ok (.aload_n 0, 1) := xdc ddX1_chooseGroup_0 2 rfl
theorem dX1_chooseGroup_41 : decode cX1_chooseGroup 41 = .ok (.iconst 0, 1) := xdc ddX1_chooseGroup_0 3 rfl
theorem dX1_chooseGroup_42 : decode cX1_chooseGroup 42 = .ok (.putfield 38, 3) := xdc ddX1_chooseGroup_0 4 rfl
theorem dX1_chooseGroup_45 : decode cX1_chooseGroup 45 = .ok (.goto 50, 3) := xdc ddX1_chooseGroup_0 5 rfl
theorem dX1_chooseGroup_48 : decode cX1_chooseGroup 48 = .ok (.aload_n 0, 1) := xdc ddX1_chooseGroup_0 6 rfl
theorem dX1_chooseGroup_49 : decode cX1_chooseGroup 49 = .ok (.getstatic 197, 3) := xdc ddX1_chooseGroup_0 7 rfl
theorem dX1_chooseGroup_52 : decode cX1_chooseGroup 52 = .ok (.iconst 1, 1) := xdc ddX1_chooseGroup_0 8 rfl
theorem dX1_chooseGroup_53 : decode cX1_chooseGroup 53 = .ok (.iload_n 2, 1) := xdc ddX1_chooseGroup_0 9 rfl
theorem dX1_chooseGroup_54 : decode cX1_chooseGroup 54 = .ok (.invokevirtual 175, 3) := xdc ddX1_chooseGroup_0 10 rfl
theorem dX1_chooseGroup_57 : decode cX1_chooseGroup 57 = .ok (.goto 38, 3) := xdc ddX1_chooseGroup_0 11 rfl
theorem dX1_chooseGroup_60 : decode cX1_chooseGroup 60 = .ok (.aload_n 0, 1) := xdc ddX1_chooseGroup_0 12 rfl
theorem dX1_chooseGroup_61 : decode cX1_chooseGroup 61 = .ok (.getstatic 216, 3) := xdc ddX1_chooseGroup_0 13 rfl
theorem dX1_chooseGroup_64 : decode cX1_chooseGroup 64 = .ok (.iconst 1, 1) := xdc ddX1_chooseGroup_0 14 rfl
theorem dX1_chooseGroup_65 : decode cX1_chooseGroup 65 = .ok (.iload_n 2, 1) := xdc ddX1_chooseGroup_0 15 rfl
theorem dX1_chooseGroup_66 : decode cX1_chooseGroup 66 = .ok (.invokevirtual 175, 3) := xdc ddX1_chooseGroup_0 16 rfl
theorem dX1_chooseGroup_69 : decode cX1_chooseGroup 69 = .ok (.goto 26, 3) := xdc ddX1_chooseGroup_0 17 rfl
theorem dX1_chooseGroup_72 : decode cX1_chooseGroup 72 = .ok (.aload_n 0, 1) := xdc ddX1_chooseGroup_0 18 rfl
theorem dX1_chooseGroup_73 : decode cX1_chooseGroup 73 = .ok (.iconst 2, 1) := xdc ddX1_chooseGroup_0 19 rfl
theorem dX1_chooseGroup_74 : decode cX1_chooseGroup 74 = .ok (.iconst 3, 1) := xdc ddX1_chooseGroup_0 20 rfl
theorem dX1_chooseGroup_75 : decode cX1_chooseGroup 75 = .ok (.iload_n 2, 1) := xdc ddX1_chooseGroup_0 21 rfl
theorem dX1_chooseGroup_76 : decode cX1_chooseGroup 76 = .ok (.invokevirtual 206, 3) := xdc ddX1_chooseGroup_0 22 rfl
theorem dX1_chooseGroup_79 : decode cX1_chooseGroup 79 = .ok (.aload_n 0, 1) := xdc ddX1_chooseGroup_0 23 rfl
theorem dX1_chooseGroup_80 : decode cX1_chooseGroup 80 = .ok (.iload_n 1, 1) := xdc ddX1_chooseGroup_0 24 rfl
theorem dX1_chooseGroup_81 : decode cX1_chooseGroup 81 = .ok (.sipush 129, 3) := xdc ddX1_chooseGroup_0 25 rfl
theorem dX1_chooseGroup_84 : decode cX1_chooseGroup 84 = .ok (.if_icmp .ne 7, 3) := xdc ddX1_chooseGroup_0 26 rfl
theorem dX1_chooseGroup_87 : decode cX1_chooseGroup 87 = .ok (.iconst 4, 1) := xdc ddX1_chooseGroup_0 27 rfl
theorem dX1_chooseGroup_88 : decode cX1_chooseGroup 88 = .ok (.goto 4, 3) := xdc ddX1_chooseGroup_0 28 rfl
theorem dX1_chooseGroup_91 : decode cX1_chooseGroup 91 = .ok (.iconst 1, 1) := xdc ddX1_chooseGroup_0 29 rfl
theorem dX1_chooseGroup_92 : decode cX1_chooseGroup 92 = .ok (.putfield 47, 3) := xdc ddX1_chooseGroup_0 30 rfl
theorem dX1_chooseGroup_95 : decode cX1_chooseGroup 95 = .ok (.return_, 1) := xdc ddX1_chooseGroup_0 31 rfl
abbrev cX1_chooseMove : ByteArray := prog_3_method_16_code
theorem ddX1_chooseMove_0 : xdec cX1_chooseMove [(0, (.iload_n 1, 1)), (1, (.tableswitch 106 136 143 #[47, 47, 59, 59, 106, 71, 106, 89], 47)), (48, (.aload_n 0, 1)), (49, (.getstatic 200, 3)), (52, (.iconst 1, 1)), (53, (.iload_n 2, 1)), (54, (.invokevirtual 175, 3)), (57, (.goto 55, 3)), (60, (.aload_n 0, 1)), (61, (.getstatic 200, 3)), (64, (.iconst 2, 1)), (65, (.iload_n 2, 1)), (66, (.invokevirtual 175, 3)), (69, (.goto 43, 3)), (72, (.aload_n 0, 1)), (73, (.getstatic 219, 3)), (76, (.iconst 2, 1)), (77, (.iconst 4, 1)), (78, (.invokevirtual 175, 3)), (81, (.aload_n 0, 1)), (82, (.bipush 6, 2)), (84, (.putfield 44, 3)), (87, (.goto 25, 3)), (90, (.aload_n 0, 1)), (91, (.getstatic 160, 3)), (94, (.iconst 5, 1)), (95, (.iconst 4, 1)), (96, (.invokevirtual 175, 3)), (99, (.aload_n 0, 1)), (100, (.iconst 1, 1)), (101, (.putfield 44, 3)), (104, (.goto 8, 3)), (107, (.aload_n 0, 1)), (108, (.iconst 0, 1)), (109, (.putfield 38, 3)), (112, (.return_, 1))] = true := by decide +kernel
theorem dX1_chooseMove_0 : decode cX1_chooseMove 0 = .ok (.iload_n 1, 1) := xdc ddX1_chooseMove_0 0 rfl
theorem dX1_chooseMove_1 : decode cX1_chooseMove 1 = .ok (.tableswitch 106 136 143 #[47, 47, 59, 59, 106, 71, 106, 89], 47) := xdc ddX1_chooseMove_0 1 rfl
theorem dX1_chooseMove_48 : decode cX1_chooseMove 48 = .ok (.aload_n 0, 1) := xdc ddX1_chooseMove_0 2 rfl
theorem dX1_chooseMove_49 : decode cX1_chooseMove 49 = .ok (.getstatic 200, 3) := xdc ddX1_chooseMove_0 3 rfl
theorem dX1_chooseMove_52 : decode cX1_chooseMove 52 = .ok (.iconst 1, 1) := xdc ddX1_chooseMove_0 4 rfl
theorem dX1_chooseMove_53 : decode cX1_chooseMove 53 = .ok (.iload_n 2, 1) := xdc ddX1_chooseMove_0 5 rfl
theorem dX1_chooseMove_54 : decode cX1_chooseMove 54 = .ok (.invokevirtual 175, 3) := xdc ddX1_chooseMove_0 6 rfl
theorem dX1_chooseMove_57 : decode cX1_chooseMove 57 = .ok (.goto 55, 3) := xdc ddX1_chooseMove_0 7 rfl
theorem dX1_chooseMove_60 : decode cX1_chooseMove 60 = .ok (.aload_n 0, 1) := xdc ddX1_chooseMove_0 8 rfl
theorem dX1_chooseMove_61 : decode cX1_chooseMove 61 = .ok (.getstatic 200, 3) := xdc ddX1_chooseMove_0 9 rfl
theorem dX1_chooseMove_64 : decode cX1_chooseMove 64 = .ok (.iconst 2, 1) := xdc ddX1_chooseMove_0 10 rfl
theorem dX1_chooseMove_65 : decode cX1_chooseMove 65 = .ok (.iload_n 2, 1) := xdc ddX1_chooseMove_0 11 rfl
theorem dX1_chooseMove_66 : decode cX1_chooseMove 66 = .ok (.invokevirtual 175, 3) := xdc ddX1_chooseMove_0 12 rfl
theorem dX1_chooseMove_69 : decode cX1_chooseMove 69 = .ok (.goto 43, 3) := xdc ddX1_chooseMove_0 13 rfl
theorem dX1_chooseMove_72 : decode cX1_chooseMove 72 = .ok (.aload_n 0, 1) := xdc ddX1_chooseMove_0 14 rfl
theorem dX1_chooseMove_73 : decode cX1_chooseMove 73 = .ok (.getstatic 219, 3) := xdc ddX1_chooseMove_0 15 rfl
theorem dX1_chooseMove_76 : decode cX1_chooseMove 76 = .ok (.iconst 2, 1) := xdc ddX1_chooseMove_0 16 rfl
theorem dX1_chooseMove_77 : decode cX1_chooseMove 77 = .ok (.iconst 4, 1) := xdc ddX1_chooseMove_0 17 rfl
theorem dX1_chooseMove_78 : decode cX1_chooseMove 78 = .ok (.invokevirtual 175, 3) := xdc ddX1_chooseMove_0 18 rfl
theorem dX1_chooseMove_81 : decode cX1_chooseMove 81 = .ok (.aload_n 0, 1) := xdc ddX1_chooseMove_0 19 rfl
theorem dX1_chooseMove_82 : decode cX1_chooseMove 82 = .ok (.bipush 6, 2) := xdc ddX1_chooseMove_0 20 rfl
theorem dX1_chooseMove_84 : decode cX1_chooseMove 84 = .ok (.putfield 44, 3) := xdc ddX1_chooseMove_0 21 rfl
theorem dX1_chooseMove_87 : decode cX1_chooseMove 87 = .ok (.goto 25, 3) := xdc ddX1_chooseMove_0 22 rfl
theorem dX1_chooseMove_90 : decode cX1_chooseMove 90 = .ok (.aload_n 0, 1) := xdc ddX1_chooseMove_0 23 rfl
theorem dX1_chooseMove_91 : decode cX1_chooseMove 91 = .ok (.getstatic 160, 3) := xdc ddX1_chooseMove_0 24 rfl
theorem dX1_chooseMove_94 : decode cX1_chooseMove 94 = .ok (.iconst 5, 1) := xdc ddX1_chooseMove_0 25 rfl
theorem dX1_chooseMove_95 : decode cX1_chooseMove 95 = .ok (.iconst 4, 1) := xdc ddX1_chooseMove_0 26 rfl
theorem dX1_chooseMove_96 : decode cX1_chooseMove 96 = .ok (.invokevirtual 175, 3) := xdc ddX1_chooseMove_0 27 rfl
theorem dX1_chooseMove_99 : decode cX1_chooseMove 99 = .ok (.aload_n 0, 1) := xdc ddX1_chooseMove_0 28 rfl
theorem dX1_chooseMove_100 : decode cX1_chooseMove 100 = .ok (.iconst 1, 1) := xdc ddX1_chooseMove_0 29 rfl
theorem dX1_chooseMove_101 : decode cX1_chooseMove 101 = .ok (.putfield 44, 3) := xdc ddX1_chooseMove_0 30 rfl
theorem dX1_chooseMove_104 : decode cX1_chooseMove 104 = .ok (.goto 8, 3) := xdc ddX1_chooseMove_0 31 rfl
theorem dX1_chooseMove_107 : decode cX1_chooseMove 107 = .ok (.aload_n 0, 1) := xdc ddX1_chooseMove_0 32 rfl
theorem dX1_chooseMove_108 : decode cX1_chooseMove 108 = .ok (.iconst 0, 1) := xdc ddX1_chooseMove_0 33 rfl
theorem dX1_chooseMove_109 : decode cX1_chooseMove 109 = .ok (.putfield 38, 3) := xdc ddX1_chooseMove_0 34 rfl
theorem dX1_chooseMove_112 : decode cX1_chooseMove 112 = .ok (.return_, 1) := xdc ddX1_chooseMove_0 35 rfl
abbrev cX1_chooseXchg : ByteArray := prog_3_method_17_code
theorem ddX1_chooseXchg_0 : xdec cX1_chooseXchg [(0, (.aload_n 0, 1)), (1, (.iload_n 1, 1)), (2, (.ifCond .ne 9, 3)), (5, (.getstatic 222, 3)), (8, (.goto 6, 3)), (11, (.getstatic 216, 3)), (14, (.iload_n 1, 1)), (15, (.ifCond .ne 7, 3)), (18, (.iconst 0, 1)), (19, (.goto 4, 3)), (22, (.iconst 1, 1)), (23, (.iconst 4, 1)), (24, (.iconst 0, 1)), (25, (.invokevirtual 143, 3)), (28, (.aload_n 0, 1)), (29, (.getfield 15, 3)), (32, (.iload_n 1, 1)), (33, (.putfield 97, 3)), (36, (.return_, 1))] = true := by decide +kernel
theorem dX1_chooseXchg_0 : decode cX1_chooseXchg 0 = .ok (.aload_n 0, 1) := xdc ddX1_chooseXchg_0 0 rfl
theorem dX1_chooseXchg_1 : decode cX1_chooseXchg 1 = .ok (.iload_n 1, 1) := xdc ddX1_chooseXchg_0 1 rfl
theorem dX1_chooseXchg_2 : decode cX1_chooseXchg 2 = .ok (.ifCond .ne 9, 3) := xdc ddX1_chooseXchg_0 2 rfl
theorem dX1_chooseXchg_5 : decode cX1_chooseXchg 5 = .ok (.getstatic 222, 3) := xdc ddX1_chooseXchg_0 3 rfl
theorem dX1_chooseXchg_8 : decode cX1_chooseXchg 8 = .ok (.goto 6, 3) := xdc ddX1_chooseXchg_0 4 rfl
theorem dX1_chooseXchg_11 : decode cX1_chooseXchg 11 = .ok (.getstatic 216, 3) := xdc ddX1_chooseXchg_0 5 rfl
theorem dX1_chooseXchg_14 : decode cX1_chooseXchg 14 = .ok (.iload_n 1, 1) := xdc ddX1_chooseXchg_0 6 rfl
theorem dX1_chooseXchg_15 : decode cX1_chooseXchg 15 = .ok (.ifCond .ne 7, 3) := xdc ddX1_chooseXchg_0 7 rfl
theorem dX1_chooseXchg_18 : decode cX1_chooseXchg 18 = .ok (.iconst 0, 1) := xdc ddX1_chooseXchg_0 8 rfl
theorem dX1_chooseXchg_19 : decode cX1_chooseXchg 19 = .ok (.goto 4, 3) := xdc ddX1_chooseXchg_0 9 rfl
theorem dX1_chooseXchg_22 : decode cX1_chooseXchg 22 = .ok (.iconst 1, 1) := xdc ddX1_chooseXchg_0 10 rfl
theorem dX1_chooseXchg_23 : decode cX1_chooseXchg 23 = .ok (.iconst 4, 1) := xdc ddX1_chooseXchg_0 11 rfl
theorem dX1_chooseXchg_24 : decode cX1_chooseXchg 24 = .ok (.iconst 0, 1) := xdc ddX1_chooseXchg_0 12 rfl
theorem dX1_chooseXchg_25 : decode cX1_chooseXchg 25 = .ok (.invokevirtual 143, 3) := xdc ddX1_chooseXchg_0 13 rfl
theorem dX1_chooseXchg_28 : decode cX1_chooseXchg 28 = .ok (.aload_n 0, 1) := xdc ddX1_chooseXchg_0 14 rfl
theorem dX1_chooseXchg_29 : decode cX1_chooseXchg 29 = .ok (.getfield 15, 3) := xdc ddX1_chooseXchg_0 15 rfl
theorem dX1_chooseXchg_32 : decode cX1_chooseXchg 32 = .ok (.iload_n 1, 1) := xdc ddX1_chooseXchg_0 16 rfl
theorem dX1_chooseXchg_33 : decode cX1_chooseXchg 33 = .ok (.putfield 97, 3) := xdc ddX1_chooseXchg_0 17 rfl
theorem dX1_chooseXchg_36 : decode cX1_chooseXchg 36 = .ok (.return_, 1) := xdc ddX1_chooseXchg_0 18 rfl
abbrev cX1_chooseShiftOrMove : ByteArray := prog_3_method_18_code
theorem ddX1_chooseShiftOrMove_0 : xdec cX1_chooseShiftOrMove [(0, (.iload_n 1, 1)), (1, (.sipush 194, 3)), (4, (.if_icmp .ge 18, 3)), (7, (.aload_n 0, 1)), (8, (.iconst 3, 1)), (9, (.iconst 3, 1)), (10, (.iload_n 2, 1)), (11, (.invokevirtual 206, 3)), (14, (.aload_n 0, 1)), (15, (.iconst 1, 1)), (16, (.putfield 47, 3)), (19, (.goto 44, 3)), (22, (.iload_n 1, 1)), (23, (.sipush 198, 3)), (26, (.if_icmp .eq 10, 3)), (29, (.iload_n 1, 1)), (30, (.sipush 199, 3)), (33, (.if_icmp .ne 25, 3)), (36, (.aload_n 0, 1)), (37, (.getstatic 200, 3)), (40, (.iconst 3, 1)), (41, (.iload_n 2, 1)), (42, (.invokevirtual 175, 3)), (45, (.aload_n 0, 1)), (46, (.iconst 1, 1)), (47, (.putfield 44, 3)), (50, (.aload_n 0, 1)), (51, (.iload_n 2, 1)), (52, (.putfield 47, 3)), (55, (.goto 8, 3)), (58, (.aload_n 0, 1)), (59, (.iconst 0, 1)), (60, (.putfield 38, 3)), (63, (.return_, 1))] = true := by decide +kernel
theorem dX1_chooseShiftOrMove_0 : decode cX1_chooseShiftOrMove 0 = .ok (.iload_n 1, 1) := xdc ddX1_chooseShiftOrMove_0 0 rfl
theorem dX1_chooseShiftOrMove_1 : decode cX1_chooseShiftOrMove 1 = .ok (.sipush 194, 3) := xdc ddX1_chooseShiftOrMove_0 1 rfl
theorem dX1_chooseShiftOrMove_4 : decode cX1_chooseShiftOrMove 4 = .ok (.if_icmp .ge 18, 3) := xdc ddX1_chooseShiftOrMove_0 2 rfl
theorem dX1_chooseShiftOrMove_7 : decode cX1_chooseShiftOrMove 7 = .ok (.aload_n 0, 1) := xdc ddX1_chooseShiftOrMove_0 3 rfl
theorem dX1_chooseShiftOrMove_8 : decode cX1_chooseShiftOrMove 8 = .ok (.iconst 3, 1) := xdc ddX1_chooseShiftOrMove_0 4 rfl
theorem dX1_chooseShiftOrMove_9 : decode cX1_chooseShiftOrMove 9 = .ok (.iconst 3, 1) := xdc ddX1_chooseShiftOrMove_0 5 rfl
theorem dX1_chooseShiftOrMove_10 : decode cX1_chooseShiftOrMove 10 = .ok (.iload_n 2, 1) := xdc ddX1_chooseShiftOrMove_0 6 rfl
theorem dX1_chooseShiftOrMove_11 : decode cX1_chooseShiftOrMove 11 = .ok (.invokevirtual 206, 3) := xdc ddX1_chooseShiftOrMove_0 7 rfl
theorem dX1_chooseShiftOrMove_14 : decode cX1_chooseShiftOrMove 14 = .ok (.aload_n 0, 1) := xdc ddX1_chooseShiftOrMove_0 8 rfl
theorem dX1_chooseShiftOrMove_15 : decode cX1_chooseShiftOrMove 15 = .ok (.iconst 1, 1) := xdc ddX1_chooseShiftOrMove_0 9 rfl
theorem dX1_chooseShiftOrMove_16 : decode cX1_chooseShiftOrMove 16 = .ok (.putfield 47, 3) := xdc ddX1_chooseShiftOrMove_0 10 rfl
theorem dX1_chooseShiftOrMove_19 : decode cX1_chooseShiftOrMove 19 = .ok (.goto 44, 3) := xdc ddX1_chooseShiftOrMove_0 11 rfl
theorem dX1_chooseShiftOrMove_22 : decode cX1_chooseShiftOrMove 22 = .ok (.iload_n 1, 1) := xdc ddX1_chooseShiftOrMove_0 12 rfl
theorem dX1_chooseShiftOrMove_23 : decode cX1_chooseShiftOrMove 23 = .ok (.sipush 198, 3) := xdc ddX1_chooseShiftOrMove_0 13 rfl
theorem dX1_chooseShiftOrMove_26 : decode cX1_chooseShiftOrMove 26 = .ok (.if_icmp .eq 10, 3) := xdc ddX1_chooseShiftOrMove_0 14 rfl
theorem dX1_chooseShiftOrMove_29 : decode cX1_chooseShiftOrMove 29 = .ok (.iload_n 1, 1) := xdc ddX1_chooseShiftOrMove_0 15 rfl
theorem dX1_chooseShiftOrMove_30 : decode cX1_chooseShiftOrMove 30 = .ok (.sipush 199, 3) := xdc ddX1_chooseShiftOrMove_0 16 rfl
theorem dX1_chooseShiftOrMove_33 : decode cX1_chooseShiftOrMove 33 = .ok (.if_icmp .ne 25, 3) := xdc ddX1_chooseShiftOrMove_0 17 rfl
theorem dX1_chooseShiftOrMove_36 : decode cX1_chooseShiftOrMove 36 = .ok (.aload_n 0, 1) := xdc ddX1_chooseShiftOrMove_0 18 rfl
theorem dX1_chooseShiftOrMove_37 : decode cX1_chooseShiftOrMove 37 = .ok (.getstatic 200, 3) := xdc ddX1_chooseShiftOrMove_0 19 rfl
theorem dX1_chooseShiftOrMove_40 : decode cX1_chooseShiftOrMove 40 = .ok (.iconst 3, 1) := xdc ddX1_chooseShiftOrMove_0 20 rfl
theorem dX1_chooseShiftOrMove_41 : decode cX1_chooseShiftOrMove 41 = .ok (.iload_n 2, 1) := xdc ddX1_chooseShiftOrMove_0 21 rfl
theorem dX1_chooseShiftOrMove_42 : decode cX1_chooseShiftOrMove 42 = .ok (.invokevirtual 175, 3) := xdc ddX1_chooseShiftOrMove_0 22 rfl
theorem dX1_chooseShiftOrMove_45 : decode cX1_chooseShiftOrMove 45 = .ok (.aload_n 0, 1) := xdc ddX1_chooseShiftOrMove_0 23 rfl
theorem dX1_chooseShiftOrMove_46 : decode cX1_chooseShiftOrMove 46 = .ok (.iconst 1, 1) := xdc ddX1_chooseShiftOrMove_0 24 rfl
theorem dX1_chooseShiftOrMove_47 : decode cX1_chooseShiftOrMove 47 = .ok (.putfield 44, 3) := xdc ddX1_chooseShiftOrMove_0 25 rfl
theorem dX1_chooseShiftOrMove_50 : decode cX1_chooseShiftOrMove 50 = .ok (.aload_n 0, 1) := xdc ddX1_chooseShiftOrMove_0 26 rfl
theorem dX1_chooseShiftOrMove_51 : decode cX1_chooseShiftOrMove 51 = .ok (.iload_n 2, 1) := xdc ddX1_chooseShiftOrMove_0 27 rfl
theorem dX1_chooseShiftOrMove_52 : decode cX1_chooseShiftOrMove 52 = .ok (.putfield 47, 3) := xdc ddX1_chooseShiftOrMove_0 28 rfl
theorem dX1_chooseShiftOrMove_55 : decode cX1_chooseShiftOrMove 55 = .ok (.goto 8, 3) := xdc ddX1_chooseShiftOrMove_0 29 rfl
theorem dX1_chooseShiftOrMove_58 : decode cX1_chooseShiftOrMove 58 = .ok (.aload_n 0, 1) := xdc ddX1_chooseShiftOrMove_0 30 rfl
theorem dX1_chooseShiftOrMove_59 : decode cX1_chooseShiftOrMove 59 = .ok (.iconst 0, 1) := xdc ddX1_chooseShiftOrMove_0 31 rfl
theorem dX1_chooseShiftOrMove_60 : decode cX1_chooseShiftOrMove 60 = .ok (.putfield 38, 3) := xdc ddX1_chooseShiftOrMove_0 32 rfl
theorem dX1_chooseShiftOrMove_63 : decode cX1_chooseShiftOrMove 63 = .ok (.return_, 1) := xdc ddX1_chooseShiftOrMove_0 33 rfl
abbrev cX1_chooseJump : ByteArray := prog_3_method_19_code
theorem ddX1_chooseJump_0 : xdec cX1_chooseJump [(0, (.iload_n 1, 1)), (1, (.tableswitch 125 226 235 #[55, 69, 125, 125, 125, 125, 83, 97, 125, 111], 55)), (56, (.aload_n 0, 1)), (57, (.getstatic 225, 3)), (60, (.bipush 9, 2)), (62, (.iconst 4, 1)), (63, (.iconst 1, 1)), (64, (.invokevirtual 143, 3)), (67, (.goto 64, 3)), (70, (.aload_n 0, 1)), (71, (.getstatic 228, 3)), (74, (.bipush 9, 2)), (76, (.iconst 4, 1)), (77, (.iconst 1, 1)), (78, (.invokevirtual 143, 3)), (81, (.goto 50, 3)), (84, (.aload_n 0, 1)), (85, (.getstatic 231, 3)), (88, (.bipush 9, 2)), (90, (.iconst 4, 1)), (91, (.iconst 4, 1)), (92, (.invokevirtual 143, 3)), (95, (.goto 36, 3)), (98, (.aload_n 0, 1)), (99, (.getstatic 234, 3)), (102, (.bipush 9, 2)), (104, (.iconst 4, 1)), (105, (.iconst 4, 1)), (106, (.invokevirtual 143, 3)), (109, (.goto 22, 3)), (112, (.aload_n 0, 1)), (113, (.getstatic 234, 3)), (116, (.bipush 9, 2)), (118, (.iconst 4, 1)), (119, (.iconst 1, 1)), (120, (.invokevirtual 143, 3)), (123, (.goto 8, 3)), (126, (.aload_n 0, 1)), (127, (.iconst 0, 1)), (128, (.putfield 38, 3))] = true := by decide +kernel
theorem dX1_chooseJump_0 : decode cX1_chooseJump 0 = .ok (.iload_n 1, 1) := xdc ddX1_chooseJump_0 0 rfl
theorem dX1_chooseJump_1 : decode cX1_chooseJump 1 = .ok (.tableswitch 125 226 235 #[55, 69, 125, 125, 125, 125, 83, 97, 125, 111], 55) := xdc ddX1_chooseJump_0 1 rfl
theorem dX1_chooseJump_56 : decode cX1_chooseJump 56 = .ok (.aload_n 0, 1) := xdc ddX1_chooseJump_0 2 rfl
theorem dX1_chooseJump_57 : decode cX1_chooseJump 57 = .ok (.getstatic 225, 3) := xdc ddX1_chooseJump_0 3 rfl
theorem dX1_chooseJump_60 : decode cX1_chooseJump 60 = .ok (.bipush 9, 2) := xdc ddX1_chooseJump_0 4 rfl
theorem dX1_chooseJump_62 : decode cX1_chooseJump 62 = .ok (.iconst 4, 1) := xdc ddX1_chooseJump_0 5 rfl
theorem dX1_chooseJump_63 : decode cX1_chooseJump 63 = .ok (.iconst 1, 1) := xdc ddX1_chooseJump_0 6 rfl
theorem dX1_chooseJump_64 : decode cX1_chooseJump 64 = .ok (.invokevirtual 143, 3) := xdc ddX1_chooseJump_0 7 rfl
theorem dX1_chooseJump_67 : decode cX1_chooseJump 67 = .ok (.goto 64, 3) := xdc ddX1_chooseJump_0 8 rfl
theorem dX1_chooseJump_70 : decode cX1_chooseJump 70 = .ok (.aload_n 0, 1) := xdc ddX1_chooseJump_0 9 rfl
theorem dX1_chooseJump_71 : decode cX1_chooseJump 71 = .ok (.getstatic 228, 3) := xdc ddX1_chooseJump_0 10 rfl
theorem dX1_chooseJump_74 : decode cX1_chooseJump 74 = .ok (.bipush 9, 2) := xdc ddX1_chooseJump_0 11 rfl
theorem dX1_chooseJump_76 : decode cX1_chooseJump 76 = .ok (.iconst 4, 1) := xdc ddX1_chooseJump_0 12 rfl
theorem dX1_chooseJump_77 : decode cX1_chooseJump 77 = .ok (.iconst 1, 1) := xdc ddX1_chooseJump_0 13 rfl
theorem dX1_chooseJump_78 : decode cX1_chooseJump 78 = .ok (.invokevirtual 143, 3) := xdc ddX1_chooseJump_0 14 rfl
theorem dX1_chooseJump_81 : decode cX1_chooseJump 81 = .ok (.goto 50, 3) := xdc ddX1_chooseJump_0 15 rfl
theorem dX1_chooseJump_84 : decode cX1_chooseJump 84 = .ok (.aload_n 0, 1) := xdc ddX1_chooseJump_0 16 rfl
theorem dX1_chooseJump_85 : decode cX1_chooseJump 85 = .ok (.getstatic 231, 3) := xdc ddX1_chooseJump_0 17 rfl
theorem dX1_chooseJump_88 : decode cX1_chooseJump 88 = .ok (.bipush 9, 2) := xdc ddX1_chooseJump_0 18 rfl
theorem dX1_chooseJump_90 : decode cX1_chooseJump 90 = .ok (.iconst 4, 1) := xdc ddX1_chooseJump_0 19 rfl
theorem dX1_chooseJump_91 : decode cX1_chooseJump 91 = .ok (.iconst 4, 1) := xdc ddX1_chooseJump_0 20 rfl
theorem dX1_chooseJump_92 : decode cX1_chooseJump 92 = .ok (.invokevirtual 143, 3) := xdc ddX1_chooseJump_0 21 rfl
theorem dX1_chooseJump_95 : decode cX1_chooseJump 95 = .ok (.goto 36, 3) := xdc ddX1_chooseJump_0 22 rfl
theorem dX1_chooseJump_98 : decode cX1_chooseJump 98 = .ok (.aload_n 0, 1) := xdc ddX1_chooseJump_0 23 rfl
theorem dX1_chooseJump_99 : decode cX1_chooseJump 99 = .ok (.getstatic 234, 3) := xdc ddX1_chooseJump_0 24 rfl
theorem dX1_chooseJump_102 : decode cX1_chooseJump 102 = .ok (.bipush 9, 2) := xdc ddX1_chooseJump_0 25 rfl
theorem dX1_chooseJump_104 : decode cX1_chooseJump 104 = .ok (.iconst 4, 1) := xdc ddX1_chooseJump_0 26 rfl
theorem dX1_chooseJump_105 : decode cX1_chooseJump 105 = .ok (.iconst 4, 1) := xdc ddX1_chooseJump_0 27 rfl
theorem dX1_chooseJump_106 : decode cX1_chooseJump 106 = .ok (.invokevirtual 143, 3) := xdc ddX1_chooseJump_0 28 rfl
theorem dX1_chooseJump_109 : decode cX1_chooseJump 109 = .ok (.goto 22, 3) := xdc ddX1_chooseJump_0 29 rfl
theorem dX1_chooseJump_112 : decode cX1_chooseJump 112 = .ok (.aload_n 0, 1) := xdc ddX1_chooseJump_0 30 rfl
theorem dX1_chooseJump_113 : decode cX1_chooseJump 113 = .ok (.getstatic 234, 3) := xdc ddX1_chooseJump_0 31 rfl
theorem dX1_chooseJump_116 : decode cX1_chooseJump 116 = .ok (.bipush 9, 2) := xdc ddX1_chooseJump_0 32 rfl
theorem dX1_chooseJump_118 : decode cX1_chooseJump 118 = .ok (.iconst 4, 1) := xdc ddX1_chooseJump_0 33 rfl
theorem dX1_chooseJump_119 : decode cX1_chooseJump 119 = .ok (.iconst 1, 1) := xdc ddX1_chooseJump_0 34 rfl
theorem dX1_chooseJump_120 : decode cX1_chooseJump 120 = .ok (.invokevirtual 143, 3) := xdc ddX1_chooseJump_0 35 rfl
theorem dX1_chooseJump_123 : decode cX1_chooseJump 123 = .ok (.goto 8, 3) := xdc ddX1_chooseJump_0 36 rfl
theorem dX1_chooseJump_126 : decode cX1_chooseJump 126 = .ok (.aload_n 0, 1) := xdc ddX1_chooseJump_0 37 rfl
theorem dX1_chooseJump_127 : decode cX1_chooseJump 127 = .ok (.iconst 0, 1) := xdc ddX1_chooseJump_0 38 rfl
theorem dX1_chooseJump_128 : decode cX1_chooseJump 128 = .ok (.putfield 38, 3) := xdc ddX1_chooseJump_0 39 rfl
theorem ddX1_chooseJump_1 : xdec cX1_chooseJump [(131, (.return_, 1))] = true := by decide +kernel
theorem dX1_chooseJump_131 : decode cX1_chooseJump 131 = .ok (.return_, 1) := xdc ddX1_chooseJump_1 0 rfl
abbrev cX1_chooseLast : ByteArray := prog_3_method_20_code
theorem ddX1_chooseLast_0 : xdec cX1_chooseLast [(0, (.iload_n 1, 1)), (1, (.tableswitch 135 244 255 #[63, 76, 89, 89, 99, 112, 135, 135, 135, 135, 125, 125], 63)), (64, (.aload_n 0, 1)), (65, (.getstatic 237, 3)), (68, (.iconst 0, 1)), (69, (.iconst 4, 1)), (70, (.iconst 0, 1)), (71, (.invokevirtual 143, 3)), (74, (.goto 67, 3)), (77, (.aload_n 0, 1)), (78, (.getstatic 240, 3)), (81, (.iconst 0, 1)), (82, (.iconst 4, 1)), (83, (.iconst 0, 1)), (84, (.invokevirtual 143, 3)), (87, (.goto 54, 3)), (90, (.aload_n 0, 1)), (91, (.iconst 4, 1)), (92, (.iconst 5, 1)), (93, (.iload_n 2, 1)), (94, (.invokevirtual 206, 3)), (97, (.goto 44, 3)), (100, (.aload_n 0, 1)), (101, (.getstatic 243, 3)), (104, (.iconst 0, 1)), (105, (.iconst 4, 1)), (106, (.iconst 0, 1)), (107, (.invokevirtual 143, 3)), (110, (.goto 31, 3)), (113, (.aload_n 0, 1)), (114, (.getstatic 246, 3)), (117, (.iconst 0, 1)), (118, (.iconst 4, 1)), (119, (.iconst 0, 1)), (120, (.invokevirtual 143, 3)), (123, (.goto 18, 3)), (126, (.aload_n 0, 1)), (127, (.iconst 5, 1)), (128, (.iconst 5, 1)), (129, (.iload_n 2, 1))] = true := by decide +kernel
theorem dX1_chooseLast_0 : decode cX1_chooseLast 0 = .ok (.iload_n 1, 1) := xdc ddX1_chooseLast_0 0 rfl
theorem dX1_chooseLast_1 : decode cX1_chooseLast 1 = .ok (.tableswitch 135 244 255 #[63, 76, 89, 89, 99, 112, 135, 135, 135, 135, 125, 125], 63) := xdc ddX1_chooseLast_0 1 rfl
theorem dX1_chooseLast_64 : decode cX1_chooseLast 64 = .ok (.aload_n 0, 1) := xdc ddX1_chooseLast_0 2 rfl
theorem dX1_chooseLast_65 : decode cX1_chooseLast 65 = .ok (.getstatic 237, 3) := xdc ddX1_chooseLast_0 3 rfl
theorem dX1_chooseLast_68 : decode cX1_chooseLast 68 = .ok (.iconst 0, 1) := xdc ddX1_chooseLast_0 4 rfl
theorem dX1_chooseLast_69 : decode cX1_chooseLast 69 = .ok (.iconst 4, 1) := xdc ddX1_chooseLast_0 5 rfl
theorem dX1_chooseLast_70 : decode cX1_chooseLast 70 = .ok (.iconst 0, 1) := xdc ddX1_chooseLast_0 6 rfl
theorem dX1_chooseLast_71 : decode cX1_chooseLast 71 = .ok (.invokevirtual 143, 3) := xdc ddX1_chooseLast_0 7 rfl
theorem dX1_chooseLast_74 : decode cX1_chooseLast 74 = .ok (.goto 67, 3) := xdc ddX1_chooseLast_0 8 rfl
theorem dX1_chooseLast_77 : decode cX1_chooseLast 77 = .ok (.aload_n 0, 1) := xdc ddX1_chooseLast_0 9 rfl
theorem dX1_chooseLast_78 : decode cX1_chooseLast 78 = .ok (.getstatic 240, 3) := xdc ddX1_chooseLast_0 10 rfl
theorem dX1_chooseLast_81 : decode cX1_chooseLast 81 = .ok (.iconst 0, 1) := xdc ddX1_chooseLast_0 11 rfl
theorem dX1_chooseLast_82 : decode cX1_chooseLast 82 = .ok (.iconst 4, 1) := xdc ddX1_chooseLast_0 12 rfl
theorem dX1_chooseLast_83 : decode cX1_chooseLast 83 = .ok (.iconst 0, 1) := xdc ddX1_chooseLast_0 13 rfl
theorem dX1_chooseLast_84 : decode cX1_chooseLast 84 = .ok (.invokevirtual 143, 3) := xdc ddX1_chooseLast_0 14 rfl
theorem dX1_chooseLast_87 : decode cX1_chooseLast 87 = .ok (.goto 54, 3) := xdc ddX1_chooseLast_0 15 rfl
theorem dX1_chooseLast_90 : decode cX1_chooseLast 90 = .ok (.aload_n 0, 1) := xdc ddX1_chooseLast_0 16 rfl
theorem dX1_chooseLast_91 : decode cX1_chooseLast 91 = .ok (.iconst 4, 1) := xdc ddX1_chooseLast_0 17 rfl
theorem dX1_chooseLast_92 : decode cX1_chooseLast 92 = .ok (.iconst 5, 1) := xdc ddX1_chooseLast_0 18 rfl
theorem dX1_chooseLast_93 : decode cX1_chooseLast 93 = .ok (.iload_n 2, 1) := xdc ddX1_chooseLast_0 19 rfl
theorem dX1_chooseLast_94 : decode cX1_chooseLast 94 = .ok (.invokevirtual 206, 3) := xdc ddX1_chooseLast_0 20 rfl
theorem dX1_chooseLast_97 : decode cX1_chooseLast 97 = .ok (.goto 44, 3) := xdc ddX1_chooseLast_0 21 rfl
theorem dX1_chooseLast_100 : decode cX1_chooseLast 100 = .ok (.aload_n 0, 1) := xdc ddX1_chooseLast_0 22 rfl
theorem dX1_chooseLast_101 : decode cX1_chooseLast 101 = .ok (.getstatic 243, 3) := xdc ddX1_chooseLast_0 23 rfl
theorem dX1_chooseLast_104 : decode cX1_chooseLast 104 = .ok (.iconst 0, 1) := xdc ddX1_chooseLast_0 24 rfl
theorem dX1_chooseLast_105 : decode cX1_chooseLast 105 = .ok (.iconst 4, 1) := xdc ddX1_chooseLast_0 25 rfl
theorem dX1_chooseLast_106 : decode cX1_chooseLast 106 = .ok (.iconst 0, 1) := xdc ddX1_chooseLast_0 26 rfl
theorem dX1_chooseLast_107 : decode cX1_chooseLast 107 = .ok (.invokevirtual 143, 3) := xdc ddX1_chooseLast_0 27 rfl
theorem dX1_chooseLast_110 : decode cX1_chooseLast 110 = .ok (.goto 31, 3) := xdc ddX1_chooseLast_0 28 rfl
theorem dX1_chooseLast_113 : decode cX1_chooseLast 113 = .ok (.aload_n 0, 1) := xdc ddX1_chooseLast_0 29 rfl
theorem dX1_chooseLast_114 : decode cX1_chooseLast 114 = .ok (.getstatic 246, 3) := xdc ddX1_chooseLast_0 30 rfl
theorem dX1_chooseLast_117 : decode cX1_chooseLast 117 = .ok (.iconst 0, 1) := xdc ddX1_chooseLast_0 31 rfl
theorem dX1_chooseLast_118 : decode cX1_chooseLast 118 = .ok (.iconst 4, 1) := xdc ddX1_chooseLast_0 32 rfl
theorem dX1_chooseLast_119 : decode cX1_chooseLast 119 = .ok (.iconst 0, 1) := xdc ddX1_chooseLast_0 33 rfl
theorem dX1_chooseLast_120 : decode cX1_chooseLast 120 = .ok (.invokevirtual 143, 3) := xdc ddX1_chooseLast_0 34 rfl
theorem dX1_chooseLast_123 : decode cX1_chooseLast 123 = .ok (.goto 18, 3) := xdc ddX1_chooseLast_0 35 rfl
theorem dX1_chooseLast_126 : decode cX1_chooseLast 126 = .ok (.aload_n 0, 1) := xdc ddX1_chooseLast_0 36 rfl
theorem dX1_chooseLast_127 : decode cX1_chooseLast 127 = .ok (.iconst 5, 1) := xdc ddX1_chooseLast_0 37 rfl
theorem dX1_chooseLast_128 : decode cX1_chooseLast 128 = .ok (.iconst 5, 1) := xdc ddX1_chooseLast_0 38 rfl
theorem dX1_chooseLast_129 : decode cX1_chooseLast 129 = .ok (.iload_n 2, 1) := xdc ddX1_chooseLast_0 39 rfl
theorem ddX1_chooseLast_1 : xdec cX1_chooseLast [(130, (.invokevirtual 206, 3)), (133, (.goto 8, 3)), (136, (.aload_n 0, 1)), (137, (.iconst 0, 1)), (138, (.putfield 38, 3)), (141, (.return_, 1))] = true := by decide +kernel
theorem dX1_chooseLast_130 : decode cX1_chooseLast 130 = .ok (.invokevirtual 206, 3) := xdc ddX1_chooseLast_1 0 rfl
theorem dX1_chooseLast_133 : decode cX1_chooseLast 133 = .ok (.goto 8, 3) := xdc ddX1_chooseLast_1 1 rfl
theorem dX1_chooseLast_136 : decode cX1_chooseLast 136 = .ok (.aload_n 0, 1) := xdc ddX1_chooseLast_1 2 rfl
theorem dX1_chooseLast_137 : decode cX1_chooseLast 137 = .ok (.iconst 0, 1) := xdc ddX1_chooseLast_1 3 rfl
theorem dX1_chooseLast_138 : decode cX1_chooseLast 138 = .ok (.putfield 38, 3) := xdc ddX1_chooseLast_1 4 rfl
theorem dX1_chooseLast_141 : decode cX1_chooseLast 141 = .ok (.return_, 1) := xdc ddX1_chooseLast_1 5 rfl
abbrev cX1_chooseHigh : ByteArray := prog_3_method_14_code
theorem ddX1_chooseHigh_0 : xdec cX1_chooseHigh [(0, (.iload_n 1, 1)), (1, (.iconst 3, 1)), (2, (.ishr, 1)), (3, (.tableswitch 302 16 31 #[77, 86, 95, 106, 302, 148, 177, 177, 223, 302, 232, 302, 285, 285, 293, 293], 77)), (80, (.aload_n 0, 1)), (81, (.iload_n 1, 1)), (82, (.iload_n 2, 1)), (83, (.invokevirtual 182, 3)), (86, (.goto 224, 3)), (89, (.aload_n 0, 1)), (90, (.iload_n 1, 1)), (91, (.iload_n 2, 1)), (92, (.invokevirtual 185, 3)), (95, (.goto 215, 3)), (98, (.aload_n 0, 1)), (99, (.iload_n 1, 1)), (100, (.bipush 7, 2)), (102, (.iand, 1)), (103, (.invokevirtual 188, 3)), (106, (.goto 204, 3)), (109, (.aload_n 0, 1)), (110, (.iload_n 1, 1)), (111, (.sipush 152, 3)), (114, (.if_icmp .ne 9, 3)), (117, (.getstatic 191, 3)), (120, (.goto 6, 3)), (123, (.getstatic 194, 3)), (126, (.iconst 0, 1)), (127, (.iconst 4, 1)), (128, (.iconst 0, 1)), (129, (.invokevirtual 143, 3)), (132, (.aload_n 0, 1)), (133, (.iload_n 1, 1)), (134, (.sipush 154, 3)), (137, (.if_icmp .ge 7, 3)), (140, (.iconst 1, 1)), (141, (.goto 4, 3)), (144, (.iconst 0, 1)), (145, (.putfield 38, 3)), (148, (.goto 162, 3))] = true := by decide +kernel
theorem dX1_chooseHigh_0 : decode cX1_chooseHigh 0 = .ok (.iload_n 1, 1) := xdc ddX1_chooseHigh_0 0 rfl
theorem dX1_chooseHigh_1 : decode cX1_chooseHigh 1 = .ok (.iconst 3, 1) := xdc ddX1_chooseHigh_0 1 rfl
theorem dX1_chooseHigh_2 : decode cX1_chooseHigh 2 = .ok (.ishr, 1) := xdc ddX1_chooseHigh_0 2 rfl
theorem dX1_chooseHigh_3 : decode cX1_chooseHigh 3 = .ok (.tableswitch 302 16 31 #[77, 86, 95, 106, 302, 148, 177, 177, 223, 302, 232, 302, 285, 285, 293, 293], 77) := xdc ddX1_chooseHigh_0 3 rfl
theorem dX1_chooseHigh_80 : decode cX1_chooseHigh 80 = .ok (.aload_n 0, 1) := xdc ddX1_chooseHigh_0 4 rfl
theorem dX1_chooseHigh_81 : decode cX1_chooseHigh 81 = .ok (.iload_n 1, 1) := xdc ddX1_chooseHigh_0 5 rfl
theorem dX1_chooseHigh_82 : decode cX1_chooseHigh 82 = .ok (.iload_n 2, 1) := xdc ddX1_chooseHigh_0 6 rfl
theorem dX1_chooseHigh_83 : decode cX1_chooseHigh 83 = .ok (.invokevirtual 182, 3) := xdc ddX1_chooseHigh_0 7 rfl
theorem dX1_chooseHigh_86 : decode cX1_chooseHigh 86 = .ok (.goto 224, 3) := xdc ddX1_chooseHigh_0 8 rfl
theorem dX1_chooseHigh_89 : decode cX1_chooseHigh 89 = .ok (.aload_n 0, 1) := xdc ddX1_chooseHigh_0 9 rfl
theorem dX1_chooseHigh_90 : decode cX1_chooseHigh 90 = .ok (.iload_n 1, 1) := xdc ddX1_chooseHigh_0 10 rfl
theorem dX1_chooseHigh_91 : decode cX1_chooseHigh 91 = .ok (.iload_n 2, 1) := xdc ddX1_chooseHigh_0 11 rfl
theorem dX1_chooseHigh_92 : decode cX1_chooseHigh 92 = .ok (.invokevirtual 185, 3) := xdc ddX1_chooseHigh_0 12 rfl
theorem dX1_chooseHigh_95 : decode cX1_chooseHigh 95 = .ok (.goto 215, 3) := xdc ddX1_chooseHigh_0 13 rfl
theorem dX1_chooseHigh_98 : decode cX1_chooseHigh 98 = .ok (.aload_n 0, 1) := xdc ddX1_chooseHigh_0 14 rfl
theorem dX1_chooseHigh_99 : decode cX1_chooseHigh 99 = .ok (.iload_n 1, 1) := xdc ddX1_chooseHigh_0 15 rfl
theorem dX1_chooseHigh_100 : decode cX1_chooseHigh 100 = .ok (.bipush 7, 2) := xdc ddX1_chooseHigh_0 16 rfl
theorem dX1_chooseHigh_102 : decode cX1_chooseHigh 102 = .ok (.iand, 1) := xdc ddX1_chooseHigh_0 17 rfl
theorem dX1_chooseHigh_103 : decode cX1_chooseHigh 103 = .ok (.invokevirtual 188, 3) := xdc ddX1_chooseHigh_0 18 rfl
theorem dX1_chooseHigh_106 : decode cX1_chooseHigh 106 = .ok (.goto 204, 3) := xdc ddX1_chooseHigh_0 19 rfl
theorem dX1_chooseHigh_109 : decode cX1_chooseHigh 109 = .ok (.aload_n 0, 1) := xdc ddX1_chooseHigh_0 20 rfl
theorem dX1_chooseHigh_110 : decode cX1_chooseHigh 110 = .ok (.iload_n 1, 1) := xdc ddX1_chooseHigh_0 21 rfl
theorem dX1_chooseHigh_111 : decode cX1_chooseHigh 111 = .ok (.sipush 152, 3) := xdc ddX1_chooseHigh_0 22 rfl
theorem dX1_chooseHigh_114 : decode cX1_chooseHigh 114 = .ok (.if_icmp .ne 9, 3) := xdc ddX1_chooseHigh_0 23 rfl
theorem dX1_chooseHigh_117 : decode cX1_chooseHigh 117 = .ok (.getstatic 191, 3) := xdc ddX1_chooseHigh_0 24 rfl
theorem dX1_chooseHigh_120 : decode cX1_chooseHigh 120 = .ok (.goto 6, 3) := xdc ddX1_chooseHigh_0 25 rfl
theorem dX1_chooseHigh_123 : decode cX1_chooseHigh 123 = .ok (.getstatic 194, 3) := xdc ddX1_chooseHigh_0 26 rfl
theorem dX1_chooseHigh_126 : decode cX1_chooseHigh 126 = .ok (.iconst 0, 1) := xdc ddX1_chooseHigh_0 27 rfl
theorem dX1_chooseHigh_127 : decode cX1_chooseHigh 127 = .ok (.iconst 4, 1) := xdc ddX1_chooseHigh_0 28 rfl
theorem dX1_chooseHigh_128 : decode cX1_chooseHigh 128 = .ok (.iconst 0, 1) := xdc ddX1_chooseHigh_0 29 rfl
theorem dX1_chooseHigh_129 : decode cX1_chooseHigh 129 = .ok (.invokevirtual 143, 3) := xdc ddX1_chooseHigh_0 30 rfl
theorem dX1_chooseHigh_132 : decode cX1_chooseHigh 132 = .ok (.aload_n 0, 1) := xdc ddX1_chooseHigh_0 31 rfl
theorem dX1_chooseHigh_133 : decode cX1_chooseHigh 133 = .ok (.iload_n 1, 1) := xdc ddX1_chooseHigh_0 32 rfl
theorem dX1_chooseHigh_134 : decode cX1_chooseHigh 134 = .ok (.sipush 154, 3) := xdc ddX1_chooseHigh_0 33 rfl
theorem dX1_chooseHigh_137 : decode cX1_chooseHigh 137 = .ok (.if_icmp .ge 7, 3) := xdc ddX1_chooseHigh_0 34 rfl
theorem dX1_chooseHigh_140 : decode cX1_chooseHigh 140 = .ok (.iconst 1, 1) := xdc ddX1_chooseHigh_0 35 rfl
theorem dX1_chooseHigh_141 : decode cX1_chooseHigh 141 = .ok (.goto 4, 3) := xdc ddX1_chooseHigh_0 36 rfl
theorem dX1_chooseHigh_144 : decode cX1_chooseHigh 144 = .ok (.iconst 0, 1) := xdc ddX1_chooseHigh_0 37 rfl
theorem dX1_chooseHigh_145 : decode cX1_chooseHigh 145 = .ok (.putfield 38, 3) := xdc ddX1_chooseHigh_0 38 rfl
theorem dX1_chooseHigh_148 : decode cX1_chooseHigh 148 = .ok (.goto 162, 3) := xdc ddX1_chooseHigh_0 39 rfl
theorem ddX1_chooseHigh_1 : xdec cX1_chooseHigh [(151, (.aload_n 0, 1)), (152, (.getstatic 197, 3)), (155, (.iconst 3, 1)), (156, (.iload_n 2, 1)), (157, (.iload_n 2, 1)), (158, (.invokevirtual 143, 3)), (161, (.aload_n 0, 1)), (162, (.iload_n 1, 1)), (163, (.sipush 170, 3)), (166, (.if_icmp .ge 7, 3)), (169, (.iconst 1, 1)), (170, (.goto 4, 3)), (173, (.iconst 0, 1)), (174, (.putfield 38, 3)), (177, (.goto 133, 3)), (180, (.aload_n 0, 1)), (181, (.getstatic 200, 3)), (184, (.iconst 3, 1)), (185, (.iload_n 1, 1)), (186, (.sipush 184, 3)), (189, (.if_icmp .ge 7, 3)), (192, (.iconst 1, 1)), (193, (.goto 4, 3)), (196, (.iconst 4, 1)), (197, (.iload_n 1, 1)), (198, (.sipush 184, 3)), (201, (.if_icmp .ge 7, 3)), (204, (.iconst 1, 1)), (205, (.goto 4, 3)), (208, (.iconst 4, 1)), (209, (.invokevirtual 143, 3)), (212, (.aload_n 0, 1)), (213, (.getfield 15, 3)), (216, (.iload_n 1, 1)), (217, (.bipush 7, 2)), (219, (.iand, 1)), (220, (.putfield 100, 3)), (223, (.goto 87, 3)), (226, (.aload_n 0, 1)), (227, (.iload_n 1, 1))] = true := by decide +kernel
theorem dX1_chooseHigh_151 : decode cX1_chooseHigh 151 = .ok (.aload_n 0, 1) := xdc ddX1_chooseHigh_1 0 rfl
theorem dX1_chooseHigh_152 : decode cX1_chooseHigh 152 = .ok (.getstatic 197, 3) := xdc ddX1_chooseHigh_1 1 rfl
theorem dX1_chooseHigh_155 : decode cX1_chooseHigh 155 = .ok (.iconst 3, 1) := xdc ddX1_chooseHigh_1 2 rfl
theorem dX1_chooseHigh_156 : decode cX1_chooseHigh 156 = .ok (.iload_n 2, 1) := xdc ddX1_chooseHigh_1 3 rfl
theorem dX1_chooseHigh_157 : decode cX1_chooseHigh 157 = .ok (.iload_n 2, 1) := xdc ddX1_chooseHigh_1 4 rfl
theorem dX1_chooseHigh_158 : decode cX1_chooseHigh 158 = .ok (.invokevirtual 143, 3) := xdc ddX1_chooseHigh_1 5 rfl
theorem dX1_chooseHigh_161 : decode cX1_chooseHigh 161 = .ok (.aload_n 0, 1) := xdc ddX1_chooseHigh_1 6 rfl
theorem dX1_chooseHigh_162 : decode cX1_chooseHigh 162 = .ok (.iload_n 1, 1) := xdc ddX1_chooseHigh_1 7 rfl
theorem dX1_chooseHigh_163 : decode cX1_chooseHigh 163 = .ok (.sipush 170, 3) := xdc ddX1_chooseHigh_1 8 rfl
theorem dX1_chooseHigh_166 : decode cX1_chooseHigh 166 = .ok (.if_icmp .ge 7, 3) := xdc ddX1_chooseHigh_1 9 rfl
theorem dX1_chooseHigh_169 : decode cX1_chooseHigh 169 = .ok (.iconst 1, 1) := xdc ddX1_chooseHigh_1 10 rfl
theorem dX1_chooseHigh_170 : decode cX1_chooseHigh 170 = .ok (.goto 4, 3) := xdc ddX1_chooseHigh_1 11 rfl
theorem dX1_chooseHigh_173 : decode cX1_chooseHigh 173 = .ok (.iconst 0, 1) := xdc ddX1_chooseHigh_1 12 rfl
theorem dX1_chooseHigh_174 : decode cX1_chooseHigh 174 = .ok (.putfield 38, 3) := xdc ddX1_chooseHigh_1 13 rfl
theorem dX1_chooseHigh_177 : decode cX1_chooseHigh 177 = .ok (.goto 133, 3) := xdc ddX1_chooseHigh_1 14 rfl
theorem dX1_chooseHigh_180 : decode cX1_chooseHigh 180 = .ok (.aload_n 0, 1) := xdc ddX1_chooseHigh_1 15 rfl
theorem dX1_chooseHigh_181 : decode cX1_chooseHigh 181 = .ok (.getstatic 200, 3) := xdc ddX1_chooseHigh_1 16 rfl
theorem dX1_chooseHigh_184 : decode cX1_chooseHigh 184 = .ok (.iconst 3, 1) := xdc ddX1_chooseHigh_1 17 rfl
theorem dX1_chooseHigh_185 : decode cX1_chooseHigh 185 = .ok (.iload_n 1, 1) := xdc ddX1_chooseHigh_1 18 rfl
theorem dX1_chooseHigh_186 : decode cX1_chooseHigh 186 = .ok (.sipush 184, 3) := xdc ddX1_chooseHigh_1 19 rfl
theorem dX1_chooseHigh_189 : decode cX1_chooseHigh 189 = .ok (.if_icmp .ge 7, 3) := xdc ddX1_chooseHigh_1 20 rfl
theorem dX1_chooseHigh_192 : decode cX1_chooseHigh 192 = .ok (.iconst 1, 1) := xdc ddX1_chooseHigh_1 21 rfl
theorem dX1_chooseHigh_193 : decode cX1_chooseHigh 193 = .ok (.goto 4, 3) := xdc ddX1_chooseHigh_1 22 rfl
theorem dX1_chooseHigh_196 : decode cX1_chooseHigh 196 = .ok (.iconst 4, 1) := xdc ddX1_chooseHigh_1 23 rfl
theorem dX1_chooseHigh_197 : decode cX1_chooseHigh 197 = .ok (.iload_n 1, 1) := xdc ddX1_chooseHigh_1 24 rfl
theorem dX1_chooseHigh_198 : decode cX1_chooseHigh 198 = .ok (.sipush 184, 3) := xdc ddX1_chooseHigh_1 25 rfl
theorem dX1_chooseHigh_201 : decode cX1_chooseHigh 201 = .ok (.if_icmp .ge 7, 3) := xdc ddX1_chooseHigh_1 26 rfl
theorem dX1_chooseHigh_204 : decode cX1_chooseHigh 204 = .ok (.iconst 1, 1) := xdc ddX1_chooseHigh_1 27 rfl
theorem dX1_chooseHigh_205 : decode cX1_chooseHigh 205 = .ok (.goto 4, 3) := xdc ddX1_chooseHigh_1 28 rfl
theorem dX1_chooseHigh_208 : decode cX1_chooseHigh 208 = .ok (.iconst 4, 1) := xdc ddX1_chooseHigh_1 29 rfl
theorem dX1_chooseHigh_209 : decode cX1_chooseHigh 209 = .ok (.invokevirtual 143, 3) := xdc ddX1_chooseHigh_1 30 rfl
theorem dX1_chooseHigh_212 : decode cX1_chooseHigh 212 = .ok (.aload_n 0, 1) := xdc ddX1_chooseHigh_1 31 rfl
theorem dX1_chooseHigh_213 : decode cX1_chooseHigh 213 = .ok (.getfield 15, 3) := xdc ddX1_chooseHigh_1 32 rfl
theorem dX1_chooseHigh_216 : decode cX1_chooseHigh 216 = .ok (.iload_n 1, 1) := xdc ddX1_chooseHigh_1 33 rfl
theorem dX1_chooseHigh_217 : decode cX1_chooseHigh 217 = .ok (.bipush 7, 2) := xdc ddX1_chooseHigh_1 34 rfl
theorem dX1_chooseHigh_219 : decode cX1_chooseHigh 219 = .ok (.iand, 1) := xdc ddX1_chooseHigh_1 35 rfl
theorem dX1_chooseHigh_220 : decode cX1_chooseHigh 220 = .ok (.putfield 100, 3) := xdc ddX1_chooseHigh_1 36 rfl
theorem dX1_chooseHigh_223 : decode cX1_chooseHigh 223 = .ok (.goto 87, 3) := xdc ddX1_chooseHigh_1 37 rfl
theorem dX1_chooseHigh_226 : decode cX1_chooseHigh 226 = .ok (.aload_n 0, 1) := xdc ddX1_chooseHigh_1 38 rfl
theorem dX1_chooseHigh_227 : decode cX1_chooseHigh 227 = .ok (.iload_n 1, 1) := xdc ddX1_chooseHigh_1 39 rfl
theorem ddX1_chooseHigh_2 : xdec cX1_chooseHigh [(228, (.iload_n 2, 1)), (229, (.invokevirtual 203, 3)), (232, (.goto 78, 3)), (235, (.aload_n 0, 1)), (236, (.iconst 3, 1)), (237, (.iload_n 1, 1)), (238, (.sipush 210, 3)), (241, (.if_icmp .ge 7, 3)), (244, (.iconst 3, 1)), (245, (.goto 4, 3)), (248, (.iconst 4, 1)), (249, (.iload_n 2, 1)), (250, (.invokevirtual 206, 3)), (253, (.aload_n 0, 1)), (254, (.getfield 15, 3)), (257, (.iconst 1, 1)), (258, (.putfield 81, 3)), (261, (.aload_n 0, 1)), (262, (.iload_n 1, 1)), (263, (.sipush 212, 3)), (266, (.if_icmp .ge 7, 3)), (269, (.iconst 1, 1)), (270, (.goto 4, 3)), (273, (.iconst 0, 1)), (274, (.putfield 38, 3)), (277, (.aload_n 0, 1)), (278, (.aload_n 0, 1)), (279, (.getfield 38, 3)), (282, (.putfield 41, 3)), (285, (.goto 25, 3)), (288, (.aload_n 0, 1)), (289, (.iload_n 1, 1)), (290, (.invokevirtual 210, 3)), (293, (.goto 17, 3)), (296, (.aload_n 0, 1)), (297, (.iload_n 1, 1)), (298, (.iload_n 2, 1)), (299, (.invokevirtual 213, 3)), (302, (.goto 8, 3)), (305, (.aload_n 0, 1))] = true := by decide +kernel
theorem dX1_chooseHigh_228 : decode cX1_chooseHigh 228 = .ok (.iload_n 2, 1) := xdc ddX1_chooseHigh_2 0 rfl
theorem dX1_chooseHigh_229 : decode cX1_chooseHigh 229 = .ok (.invokevirtual 203, 3) := xdc ddX1_chooseHigh_2 1 rfl
theorem dX1_chooseHigh_232 : decode cX1_chooseHigh 232 = .ok (.goto 78, 3) := xdc ddX1_chooseHigh_2 2 rfl
theorem dX1_chooseHigh_235 : decode cX1_chooseHigh 235 = .ok (.aload_n 0, 1) := xdc ddX1_chooseHigh_2 3 rfl
theorem dX1_chooseHigh_236 : decode cX1_chooseHigh 236 = .ok (.iconst 3, 1) := xdc ddX1_chooseHigh_2 4 rfl
theorem dX1_chooseHigh_237 : decode cX1_chooseHigh 237 = .ok (.iload_n 1, 1) := xdc ddX1_chooseHigh_2 5 rfl
theorem dX1_chooseHigh_238 : decode cX1_chooseHigh 238 = .ok (.sipush 210, 3) := xdc ddX1_chooseHigh_2 6 rfl
theorem dX1_chooseHigh_241 : decode cX1_chooseHigh 241 = .ok (.if_icmp .ge 7, 3) := xdc ddX1_chooseHigh_2 7 rfl
theorem dX1_chooseHigh_244 : decode cX1_chooseHigh 244 = .ok (.iconst 3, 1) := xdc ddX1_chooseHigh_2 8 rfl
theorem dX1_chooseHigh_245 : decode cX1_chooseHigh 245 = .ok (.goto 4, 3) := xdc ddX1_chooseHigh_2 9 rfl
theorem dX1_chooseHigh_248 : decode cX1_chooseHigh 248 = .ok (.iconst 4, 1) := xdc ddX1_chooseHigh_2 10 rfl
theorem dX1_chooseHigh_249 : decode cX1_chooseHigh 249 = .ok (.iload_n 2, 1) := xdc ddX1_chooseHigh_2 11 rfl
theorem dX1_chooseHigh_250 : decode cX1_chooseHigh 250 = .ok (.invokevirtual 206, 3) := xdc ddX1_chooseHigh_2 12 rfl
theorem dX1_chooseHigh_253 : decode cX1_chooseHigh 253 = .ok (.aload_n 0, 1) := xdc ddX1_chooseHigh_2 13 rfl
theorem dX1_chooseHigh_254 : decode cX1_chooseHigh 254 = .ok (.getfield 15, 3) := xdc ddX1_chooseHigh_2 14 rfl
theorem dX1_chooseHigh_257 : decode cX1_chooseHigh 257 = .ok (.iconst 1, 1) := xdc ddX1_chooseHigh_2 15 rfl
theorem dX1_chooseHigh_258 : decode cX1_chooseHigh 258 = .ok (.putfield 81, 3) := xdc ddX1_chooseHigh_2 16 rfl
theorem dX1_chooseHigh_261 : decode cX1_chooseHigh 261 = .ok (.aload_n 0, 1) := xdc ddX1_chooseHigh_2 17 rfl
theorem dX1_chooseHigh_262 : decode cX1_chooseHigh 262 = .ok (.iload_n 1, 1) := xdc ddX1_chooseHigh_2 18 rfl
theorem dX1_chooseHigh_263 : decode cX1_chooseHigh 263 = .ok (.sipush 212, 3) := xdc ddX1_chooseHigh_2 19 rfl
theorem dX1_chooseHigh_266 : decode cX1_chooseHigh 266 = .ok (.if_icmp .ge 7, 3) := xdc ddX1_chooseHigh_2 20 rfl
theorem dX1_chooseHigh_269 : decode cX1_chooseHigh 269 = .ok (.iconst 1, 1) := xdc ddX1_chooseHigh_2 21 rfl
theorem dX1_chooseHigh_270 : decode cX1_chooseHigh 270 = .ok (.goto 4, 3) := xdc ddX1_chooseHigh_2 22 rfl
theorem dX1_chooseHigh_273 : decode cX1_chooseHigh 273 = .ok (.iconst 0, 1) := xdc ddX1_chooseHigh_2 23 rfl
theorem dX1_chooseHigh_274 : decode cX1_chooseHigh 274 = .ok (.putfield 38, 3) := xdc ddX1_chooseHigh_2 24 rfl
theorem dX1_chooseHigh_277 : decode cX1_chooseHigh 277 = .ok (.aload_n 0, 1) := xdc ddX1_chooseHigh_2 25 rfl
theorem dX1_chooseHigh_278 : decode cX1_chooseHigh 278 = .ok (.aload_n 0, 1) := xdc ddX1_chooseHigh_2 26 rfl
theorem dX1_chooseHigh_279 : decode cX1_chooseHigh 279 = .ok (.getfield 38, 3) := xdc ddX1_chooseHigh_2 27 rfl
theorem dX1_chooseHigh_282 : decode cX1_chooseHigh 282 = .ok (.putfield 41, 3) := xdc ddX1_chooseHigh_2 28 rfl
theorem dX1_chooseHigh_285 : decode cX1_chooseHigh 285 = .ok (.goto 25, 3) := xdc ddX1_chooseHigh_2 29 rfl
theorem dX1_chooseHigh_288 : decode cX1_chooseHigh 288 = .ok (.aload_n 0, 1) := xdc ddX1_chooseHigh_2 30 rfl
theorem dX1_chooseHigh_289 : decode cX1_chooseHigh 289 = .ok (.iload_n 1, 1) := xdc ddX1_chooseHigh_2 31 rfl
theorem dX1_chooseHigh_290 : decode cX1_chooseHigh 290 = .ok (.invokevirtual 210, 3) := xdc ddX1_chooseHigh_2 32 rfl
theorem dX1_chooseHigh_293 : decode cX1_chooseHigh 293 = .ok (.goto 17, 3) := xdc ddX1_chooseHigh_2 33 rfl
theorem dX1_chooseHigh_296 : decode cX1_chooseHigh 296 = .ok (.aload_n 0, 1) := xdc ddX1_chooseHigh_2 34 rfl
theorem dX1_chooseHigh_297 : decode cX1_chooseHigh 297 = .ok (.iload_n 1, 1) := xdc ddX1_chooseHigh_2 35 rfl
theorem dX1_chooseHigh_298 : decode cX1_chooseHigh 298 = .ok (.iload_n 2, 1) := xdc ddX1_chooseHigh_2 36 rfl
theorem dX1_chooseHigh_299 : decode cX1_chooseHigh 299 = .ok (.invokevirtual 213, 3) := xdc ddX1_chooseHigh_2 37 rfl
theorem dX1_chooseHigh_302 : decode cX1_chooseHigh 302 = .ok (.goto 8, 3) := xdc ddX1_chooseHigh_2 38 rfl
theorem dX1_chooseHigh_305 : decode cX1_chooseHigh 305 = .ok (.aload_n 0, 1) := xdc ddX1_chooseHigh_2 39 rfl
theorem ddX1_chooseHigh_3 : xdec cX1_chooseHigh [(306, (.iconst 0, 1)), (307, (.putfield 38, 3)), (310, (.return_, 1))] = true := by decide +kernel
theorem dX1_chooseHigh_306 : decode cX1_chooseHigh 306 = .ok (.iconst 0, 1) := xdc ddX1_chooseHigh_3 0 rfl
theorem dX1_chooseHigh_307 : decode cX1_chooseHigh 307 = .ok (.putfield 38, 3) := xdc ddX1_chooseHigh_3 1 rfl
theorem dX1_chooseHigh_310 : decode cX1_chooseHigh 310 = .ok (.return_, 1) := xdc ddX1_chooseHigh_3 2 rfl
abbrev cX1_nextNumber : ByteArray := prog_3_method_4_code
theorem ddX1_nextNumber_0 : xdec cX1_nextNumber [(0, (.iconst 0, 1)), (1, (.istore_n 2, 1)), (2, (.iconst 0, 1)), (3, (.istore_n 3, 1)), (4, (.iload_n 3, 1)), (5, (.iload_n 1, 1)), (6, (.if_icmp .ge 21, 3)), (9, (.iload_n 2, 1)), (10, (.aload_n 0, 1)), (11, (.invokevirtual 50, 3)), (14, (.bipush 8, 2)), (16, (.iload_n 3, 1)), (17, (.imul, 1)), (18, (.ishl, 1)), (19, (.ior, 1)), (20, (.istore_n 2, 1)), (21, (.iinc 3 1, 3)), (24, (.goto (-20), 3)), (27, (.iload_n 1, 1)), (28, (.iconst 1, 1)), (29, (.if_icmp .ne 8, 3)), (32, (.iload_n 2, 1)), (33, (.i2b, 1)), (34, (.goto 4, 3)), (37, (.iload_n 2, 1)), (38, (.ireturn, 1))] = true := by decide +kernel
theorem dX1_nextNumber_0 : decode cX1_nextNumber 0 = .ok (.iconst 0, 1) := xdc ddX1_nextNumber_0 0 rfl
theorem dX1_nextNumber_1 : decode cX1_nextNumber 1 = .ok (.istore_n 2, 1) := xdc ddX1_nextNumber_0 1 rfl
theorem dX1_nextNumber_2 : decode cX1_nextNumber 2 = .ok (.iconst 0, 1) := xdc ddX1_nextNumber_0 2 rfl
theorem dX1_nextNumber_3 : decode cX1_nextNumber 3 = .ok (.istore_n 3, 1) := xdc ddX1_nextNumber_0 3 rfl
theorem dX1_nextNumber_4 : decode cX1_nextNumber 4 = .ok (.iload_n 3, 1) := xdc ddX1_nextNumber_0 4 rfl
theorem dX1_nextNumber_5 : decode cX1_nextNumber 5 = .ok (.iload_n 1, 1) := xdc ddX1_nextNumber_0 5 rfl
theorem dX1_nextNumber_6 : decode cX1_nextNumber 6 = .ok (.if_icmp .ge 21, 3) := xdc ddX1_nextNumber_0 6 rfl
theorem dX1_nextNumber_9 : decode cX1_nextNumber 9 = .ok (.iload_n 2, 1) := xdc ddX1_nextNumber_0 7 rfl
theorem dX1_nextNumber_10 : decode cX1_nextNumber 10 = .ok (.aload_n 0, 1) := xdc ddX1_nextNumber_0 8 rfl
theorem dX1_nextNumber_11 : decode cX1_nextNumber 11 = .ok (.invokevirtual 50, 3) := xdc ddX1_nextNumber_0 9 rfl
theorem dX1_nextNumber_14 : decode cX1_nextNumber 14 = .ok (.bipush 8, 2) := xdc ddX1_nextNumber_0 10 rfl
theorem dX1_nextNumber_16 : decode cX1_nextNumber 16 = .ok (.iload_n 3, 1) := xdc ddX1_nextNumber_0 11 rfl
theorem dX1_nextNumber_17 : decode cX1_nextNumber 17 = .ok (.imul, 1) := xdc ddX1_nextNumber_0 12 rfl
theorem dX1_nextNumber_18 : decode cX1_nextNumber 18 = .ok (.ishl, 1) := xdc ddX1_nextNumber_0 13 rfl
theorem dX1_nextNumber_19 : decode cX1_nextNumber 19 = .ok (.ior, 1) := xdc ddX1_nextNumber_0 14 rfl
theorem dX1_nextNumber_20 : decode cX1_nextNumber 20 = .ok (.istore_n 2, 1) := xdc ddX1_nextNumber_0 15 rfl
theorem dX1_nextNumber_21 : decode cX1_nextNumber 21 = .ok (.iinc 3 1, 3) := xdc ddX1_nextNumber_0 16 rfl
theorem dX1_nextNumber_24 : decode cX1_nextNumber 24 = .ok (.goto (-20), 3) := xdc ddX1_nextNumber_0 17 rfl
theorem dX1_nextNumber_27 : decode cX1_nextNumber 27 = .ok (.iload_n 1, 1) := xdc ddX1_nextNumber_0 18 rfl
theorem dX1_nextNumber_28 : decode cX1_nextNumber 28 = .ok (.iconst 1, 1) := xdc ddX1_nextNumber_0 19 rfl
theorem dX1_nextNumber_29 : decode cX1_nextNumber 29 = .ok (.if_icmp .ne 8, 3) := xdc ddX1_nextNumber_0 20 rfl
theorem dX1_nextNumber_32 : decode cX1_nextNumber 32 = .ok (.iload_n 2, 1) := xdc ddX1_nextNumber_0 21 rfl
theorem dX1_nextNumber_33 : decode cX1_nextNumber 33 = .ok (.i2b, 1) := xdc ddX1_nextNumber_0 22 rfl
theorem dX1_nextNumber_34 : decode cX1_nextNumber 34 = .ok (.goto 4, 3) := xdc ddX1_nextNumber_0 23 rfl
theorem dX1_nextNumber_37 : decode cX1_nextNumber 37 = .ok (.iload_n 2, 1) := xdc ddX1_nextNumber_0 24 rfl
theorem dX1_nextNumber_38 : decode cX1_nextNumber 38 = .ok (.ireturn, 1) := xdc ddX1_nextNumber_0 25 rfl
abbrev cX1_readE : ByteArray := prog_3_method_5_code
theorem ddX1_readE_0 : xdec cX1_readE [(0, (.aload_n 0, 1)), (1, (.invokevirtual 50, 3)), (4, (.istore_n 1, 1)), (5, (.iload_n 1, 1)), (6, (.bipush 6, 2)), (8, (.ishr, 1)), (9, (.istore_n 2, 1)), (10, (.aload_n 0, 1)), (11, (.getfield 15, 3)), (14, (.iload_n 1, 1)), (15, (.iconst 3, 1)), (16, (.ishr, 1)), (17, (.bipush 7, 2)), (19, (.iand, 1)), (20, (.putfield 97, 3)), (23, (.aload_n 0, 1)), (24, (.getfield 15, 3)), (27, (.iload_n 1, 1)), (28, (.bipush 7, 2)), (30, (.iand, 1)), (31, (.putfield 100, 3)), (34, (.iload_n 2, 1)), (35, (.iconst 3, 1)), (36, (.if_icmp .ne 4, 3)), (39, (.return_, 1)), (40, (.aload_n 0, 1)), (41, (.getfield 15, 3)), (44, (.iconst 1, 1)), (45, (.putfield 103, 3)), (48, (.aload_n 0, 1)), (49, (.getfield 15, 3)), (52, (.aload_n 0, 1)), (53, (.getfield 15, 3)), (56, (.getfield 100, 3)), (59, (.putfield 106, 3)), (62, (.aload_n 0, 1)), (63, (.getfield 15, 3)), (66, (.getfield 100, 3)), (69, (.iconst 4, 1)), (70, (.if_icmp .ne 57, 3))] = true := by decide +kernel
theorem dX1_readE_0 : decode cX1_readE 0 = .ok (.aload_n 0, 1) := xdc ddX1_readE_0 0 rfl
theorem dX1_readE_1 : decode cX1_readE 1 = .ok (.invokevirtual 50, 3) := xdc ddX1_readE_0 1 rfl
theorem dX1_readE_4 : decode cX1_readE 4 = .ok (.istore_n 1, 1) := xdc ddX1_readE_0 2 rfl
theorem dX1_readE_5 : decode cX1_readE 5 = .ok (.iload_n 1, 1) := xdc ddX1_readE_0 3 rfl
theorem dX1_readE_6 : decode cX1_readE 6 = .ok (.bipush 6, 2) := xdc ddX1_readE_0 4 rfl
theorem dX1_readE_8 : decode cX1_readE 8 = .ok (.ishr, 1) := xdc ddX1_readE_0 5 rfl
theorem dX1_readE_9 : decode cX1_readE 9 = .ok (.istore_n 2, 1) := xdc ddX1_readE_0 6 rfl
theorem dX1_readE_10 : decode cX1_readE 10 = .ok (.aload_n 0, 1) := xdc ddX1_readE_0 7 rfl
theorem dX1_readE_11 : decode cX1_readE 11 = .ok (.getfield 15, 3) := xdc ddX1_readE_0 8 rfl
theorem dX1_readE_14 : decode cX1_readE 14 = .ok (.iload_n 1, 1) := xdc ddX1_readE_0 9 rfl
theorem dX1_readE_15 : decode cX1_readE 15 = .ok (.iconst 3, 1) := xdc ddX1_readE_0 10 rfl
theorem dX1_readE_16 : decode cX1_readE 16 = .ok (.ishr, 1) := xdc ddX1_readE_0 11 rfl
theorem dX1_readE_17 : decode cX1_readE 17 = .ok (.bipush 7, 2) := xdc ddX1_readE_0 12 rfl
theorem dX1_readE_19 : decode cX1_readE 19 = .ok (.iand, 1) := xdc ddX1_readE_0 13 rfl
theorem dX1_readE_20 : decode cX1_readE 20 = .ok (.putfield 97, 3) := xdc ddX1_readE_0 14 rfl
theorem dX1_readE_23 : decode cX1_readE 23 = .ok (.aload_n 0, 1) := xdc ddX1_readE_0 15 rfl
theorem dX1_readE_24 : decode cX1_readE 24 = .ok (.getfield 15, 3) := xdc ddX1_readE_0 16 rfl
theorem dX1_readE_27 : decode cX1_readE 27 = .ok (.iload_n 1, 1) := xdc ddX1_readE_0 17 rfl
theorem dX1_readE_28 : decode cX1_readE 28 = .ok (.bipush 7, 2) := xdc ddX1_readE_0 18 rfl
theorem dX1_readE_30 : decode cX1_readE 30 = .ok (.iand, 1) := xdc ddX1_readE_0 19 rfl
theorem dX1_readE_31 : decode cX1_readE 31 = .ok (.putfield 100, 3) := xdc ddX1_readE_0 20 rfl
theorem dX1_readE_34 : decode cX1_readE 34 = .ok (.iload_n 2, 1) := xdc ddX1_readE_0 21 rfl
theorem dX1_readE_35 : decode cX1_readE 35 = .ok (.iconst 3, 1) := xdc ddX1_readE_0 22 rfl
theorem dX1_readE_36 : decode cX1_readE 36 = .ok (.if_icmp .ne 4, 3) := xdc ddX1_readE_0 23 rfl
theorem dX1_readE_39 : decode cX1_readE 39 = .ok (.return_, 1) := xdc ddX1_readE_0 24 rfl
theorem dX1_readE_40 : decode cX1_readE 40 = .ok (.aload_n 0, 1) := xdc ddX1_readE_0 25 rfl
theorem dX1_readE_41 : decode cX1_readE 41 = .ok (.getfield 15, 3) := xdc ddX1_readE_0 26 rfl
theorem dX1_readE_44 : decode cX1_readE 44 = .ok (.iconst 1, 1) := xdc ddX1_readE_0 27 rfl
theorem dX1_readE_45 : decode cX1_readE 45 = .ok (.putfield 103, 3) := xdc ddX1_readE_0 28 rfl
theorem dX1_readE_48 : decode cX1_readE 48 = .ok (.aload_n 0, 1) := xdc ddX1_readE_0 29 rfl
theorem dX1_readE_49 : decode cX1_readE 49 = .ok (.getfield 15, 3) := xdc ddX1_readE_0 30 rfl
theorem dX1_readE_52 : decode cX1_readE 52 = .ok (.aload_n 0, 1) := xdc ddX1_readE_0 31 rfl
theorem dX1_readE_53 : decode cX1_readE 53 = .ok (.getfield 15, 3) := xdc ddX1_readE_0 32 rfl
theorem dX1_readE_56 : decode cX1_readE 56 = .ok (.getfield 100, 3) := xdc ddX1_readE_0 33 rfl
theorem dX1_readE_59 : decode cX1_readE 59 = .ok (.putfield 106, 3) := xdc ddX1_readE_0 34 rfl
theorem dX1_readE_62 : decode cX1_readE 62 = .ok (.aload_n 0, 1) := xdc ddX1_readE_0 35 rfl
theorem dX1_readE_63 : decode cX1_readE 63 = .ok (.getfield 15, 3) := xdc ddX1_readE_0 36 rfl
theorem dX1_readE_66 : decode cX1_readE 66 = .ok (.getfield 100, 3) := xdc ddX1_readE_0 37 rfl
theorem dX1_readE_69 : decode cX1_readE 69 = .ok (.iconst 4, 1) := xdc ddX1_readE_0 38 rfl
theorem dX1_readE_70 : decode cX1_readE 70 = .ok (.if_icmp .ne 57, 3) := xdc ddX1_readE_0 39 rfl
theorem ddX1_readE_1 : xdec cX1_readE [(73, (.aload_n 0, 1)), (74, (.invokevirtual 50, 3)), (77, (.istore_n 3, 1)), (78, (.iload_n 3, 1)), (79, (.iconst 3, 1)), (80, (.ishr, 1)), (81, (.bipush 7, 2)), (83, (.iand, 1)), (84, (.istore 4, 2)), (86, (.aload_n 0, 1)), (87, (.getfield 15, 3)), (90, (.iload 4, 2)), (92, (.iconst 4, 1)), (93, (.if_icmp .ne 7, 3)), (96, (.iconst (-1), 1)), (97, (.goto 5, 3)), (100, (.iload 4, 2)), (102, (.putfield 109, 3)), (105, (.aload_n 0, 1)), (106, (.getfield 15, 3)), (109, (.iload_n 3, 1)), (110, (.bipush 6, 2)), (112, (.ishr, 1)), (113, (.putfield 112, 3)), (116, (.aload_n 0, 1)), (117, (.getfield 15, 3)), (120, (.iload_n 3, 1)), (121, (.bipush 7, 2)), (123, (.iand, 1)), (124, (.putfield 106, 3)), (127, (.iload_n 2, 1)), (128, (.ifCond .ne 37, 3)), (131, (.aload_n 0, 1)), (132, (.getfield 15, 3)), (135, (.getfield 106, 3)), (138, (.iconst 5, 1)), (139, (.if_icmp .ne 26, 3)), (142, (.aload_n 0, 1)), (143, (.getfield 15, 3)), (146, (.iconst (-1), 1))] = true := by decide +kernel
theorem dX1_readE_73 : decode cX1_readE 73 = .ok (.aload_n 0, 1) := xdc ddX1_readE_1 0 rfl
theorem dX1_readE_74 : decode cX1_readE 74 = .ok (.invokevirtual 50, 3) := xdc ddX1_readE_1 1 rfl
theorem dX1_readE_77 : decode cX1_readE 77 = .ok (.istore_n 3, 1) := xdc ddX1_readE_1 2 rfl
theorem dX1_readE_78 : decode cX1_readE 78 = .ok (.iload_n 3, 1) := xdc ddX1_readE_1 3 rfl
theorem dX1_readE_79 : decode cX1_readE 79 = .ok (.iconst 3, 1) := xdc ddX1_readE_1 4 rfl
theorem dX1_readE_80 : decode cX1_readE 80 = .ok (.ishr, 1) := xdc ddX1_readE_1 5 rfl
theorem dX1_readE_81 : decode cX1_readE 81 = .ok (.bipush 7, 2) := xdc ddX1_readE_1 6 rfl
theorem dX1_readE_83 : decode cX1_readE 83 = .ok (.iand, 1) := xdc ddX1_readE_1 7 rfl
theorem dX1_readE_84 : decode cX1_readE 84 = .ok (.istore 4, 2) := xdc ddX1_readE_1 8 rfl
theorem dX1_readE_86 : decode cX1_readE 86 = .ok (.aload_n 0, 1) := xdc ddX1_readE_1 9 rfl
theorem dX1_readE_87 : decode cX1_readE 87 = .ok (.getfield 15, 3) := xdc ddX1_readE_1 10 rfl
theorem dX1_readE_90 : decode cX1_readE 90 = .ok (.iload 4, 2) := xdc ddX1_readE_1 11 rfl
theorem dX1_readE_92 : decode cX1_readE 92 = .ok (.iconst 4, 1) := xdc ddX1_readE_1 12 rfl
theorem dX1_readE_93 : decode cX1_readE 93 = .ok (.if_icmp .ne 7, 3) := xdc ddX1_readE_1 13 rfl
theorem dX1_readE_96 : decode cX1_readE 96 = .ok (.iconst (-1), 1) := xdc ddX1_readE_1 14 rfl
theorem dX1_readE_97 : decode cX1_readE 97 = .ok (.goto 5, 3) := xdc ddX1_readE_1 15 rfl
theorem dX1_readE_100 : decode cX1_readE 100 = .ok (.iload 4, 2) := xdc ddX1_readE_1 16 rfl
theorem dX1_readE_102 : decode cX1_readE 102 = .ok (.putfield 109, 3) := xdc ddX1_readE_1 17 rfl
theorem dX1_readE_105 : decode cX1_readE 105 = .ok (.aload_n 0, 1) := xdc ddX1_readE_1 18 rfl
theorem dX1_readE_106 : decode cX1_readE 106 = .ok (.getfield 15, 3) := xdc ddX1_readE_1 19 rfl
theorem dX1_readE_109 : decode cX1_readE 109 = .ok (.iload_n 3, 1) := xdc ddX1_readE_1 20 rfl
theorem dX1_readE_110 : decode cX1_readE 110 = .ok (.bipush 6, 2) := xdc ddX1_readE_1 21 rfl
theorem dX1_readE_112 : decode cX1_readE 112 = .ok (.ishr, 1) := xdc ddX1_readE_1 22 rfl
theorem dX1_readE_113 : decode cX1_readE 113 = .ok (.putfield 112, 3) := xdc ddX1_readE_1 23 rfl
theorem dX1_readE_116 : decode cX1_readE 116 = .ok (.aload_n 0, 1) := xdc ddX1_readE_1 24 rfl
theorem dX1_readE_117 : decode cX1_readE 117 = .ok (.getfield 15, 3) := xdc ddX1_readE_1 25 rfl
theorem dX1_readE_120 : decode cX1_readE 120 = .ok (.iload_n 3, 1) := xdc ddX1_readE_1 26 rfl
theorem dX1_readE_121 : decode cX1_readE 121 = .ok (.bipush 7, 2) := xdc ddX1_readE_1 27 rfl
theorem dX1_readE_123 : decode cX1_readE 123 = .ok (.iand, 1) := xdc ddX1_readE_1 28 rfl
theorem dX1_readE_124 : decode cX1_readE 124 = .ok (.putfield 106, 3) := xdc ddX1_readE_1 29 rfl
theorem dX1_readE_127 : decode cX1_readE 127 = .ok (.iload_n 2, 1) := xdc ddX1_readE_1 30 rfl
theorem dX1_readE_128 : decode cX1_readE 128 = .ok (.ifCond .ne 37, 3) := xdc ddX1_readE_1 31 rfl
theorem dX1_readE_131 : decode cX1_readE 131 = .ok (.aload_n 0, 1) := xdc ddX1_readE_1 32 rfl
theorem dX1_readE_132 : decode cX1_readE 132 = .ok (.getfield 15, 3) := xdc ddX1_readE_1 33 rfl
theorem dX1_readE_135 : decode cX1_readE 135 = .ok (.getfield 106, 3) := xdc ddX1_readE_1 34 rfl
theorem dX1_readE_138 : decode cX1_readE 138 = .ok (.iconst 5, 1) := xdc ddX1_readE_1 35 rfl
theorem dX1_readE_139 : decode cX1_readE 139 = .ok (.if_icmp .ne 26, 3) := xdc ddX1_readE_1 36 rfl
theorem dX1_readE_142 : decode cX1_readE 142 = .ok (.aload_n 0, 1) := xdc ddX1_readE_1 37 rfl
theorem dX1_readE_143 : decode cX1_readE 143 = .ok (.getfield 15, 3) := xdc ddX1_readE_1 38 rfl
theorem dX1_readE_146 : decode cX1_readE 146 = .ok (.iconst (-1), 1) := xdc ddX1_readE_1 39 rfl
theorem ddX1_readE_2 : xdec cX1_readE [(147, (.putfield 106, 3)), (150, (.aload_n 0, 1)), (151, (.getfield 15, 3)), (154, (.aload_n 0, 1)), (155, (.iconst 4, 1)), (156, (.invokevirtual 77, 3)), (159, (.putfield 115, 3)), (162, (.goto 28, 3)), (165, (.iload_n 2, 1)), (166, (.ifCond .eq 24, 3)), (169, (.aload_n 0, 1)), (170, (.getfield 15, 3)), (173, (.aload_n 0, 1)), (174, (.iload_n 2, 1)), (175, (.iconst 1, 1)), (176, (.if_icmp .ne 7, 3)), (179, (.iconst 1, 1)), (180, (.goto 4, 3)), (183, (.iconst 4, 1)), (184, (.invokevirtual 77, 3)), (187, (.putfield 115, 3)), (190, (.return_, 1))] = true := by decide +kernel
theorem dX1_readE_147 : decode cX1_readE 147 = .ok (.putfield 106, 3) := xdc ddX1_readE_2 0 rfl
theorem dX1_readE_150 : decode cX1_readE 150 = .ok (.aload_n 0, 1) := xdc ddX1_readE_2 1 rfl
theorem dX1_readE_151 : decode cX1_readE 151 = .ok (.getfield 15, 3) := xdc ddX1_readE_2 2 rfl
theorem dX1_readE_154 : decode cX1_readE 154 = .ok (.aload_n 0, 1) := xdc ddX1_readE_2 3 rfl
theorem dX1_readE_155 : decode cX1_readE 155 = .ok (.iconst 4, 1) := xdc ddX1_readE_2 4 rfl
theorem dX1_readE_156 : decode cX1_readE 156 = .ok (.invokevirtual 77, 3) := xdc ddX1_readE_2 5 rfl
theorem dX1_readE_159 : decode cX1_readE 159 = .ok (.putfield 115, 3) := xdc ddX1_readE_2 6 rfl
theorem dX1_readE_162 : decode cX1_readE 162 = .ok (.goto 28, 3) := xdc ddX1_readE_2 7 rfl
theorem dX1_readE_165 : decode cX1_readE 165 = .ok (.iload_n 2, 1) := xdc ddX1_readE_2 8 rfl
theorem dX1_readE_166 : decode cX1_readE 166 = .ok (.ifCond .eq 24, 3) := xdc ddX1_readE_2 9 rfl
theorem dX1_readE_169 : decode cX1_readE 169 = .ok (.aload_n 0, 1) := xdc ddX1_readE_2 10 rfl
theorem dX1_readE_170 : decode cX1_readE 170 = .ok (.getfield 15, 3) := xdc ddX1_readE_2 11 rfl
theorem dX1_readE_173 : decode cX1_readE 173 = .ok (.aload_n 0, 1) := xdc ddX1_readE_2 12 rfl
theorem dX1_readE_174 : decode cX1_readE 174 = .ok (.iload_n 2, 1) := xdc ddX1_readE_2 13 rfl
theorem dX1_readE_175 : decode cX1_readE 175 = .ok (.iconst 1, 1) := xdc ddX1_readE_2 14 rfl
theorem dX1_readE_176 : decode cX1_readE 176 = .ok (.if_icmp .ne 7, 3) := xdc ddX1_readE_2 15 rfl
theorem dX1_readE_179 : decode cX1_readE 179 = .ok (.iconst 1, 1) := xdc ddX1_readE_2 16 rfl
theorem dX1_readE_180 : decode cX1_readE 180 = .ok (.goto 4, 3) := xdc ddX1_readE_2 17 rfl
theorem dX1_readE_183 : decode cX1_readE 183 = .ok (.iconst 4, 1) := xdc ddX1_readE_2 18 rfl
theorem dX1_readE_184 : decode cX1_readE 184 = .ok (.invokevirtual 77, 3) := xdc ddX1_readE_2 19 rfl
theorem dX1_readE_187 : decode cX1_readE 187 = .ok (.putfield 115, 3) := xdc ddX1_readE_2 20 rfl
theorem dX1_readE_190 : decode cX1_readE 190 = .ok (.return_, 1) := xdc ddX1_readE_2 21 rfl
abbrev cX1_chooseSingle : ByteArray := prog_3_method_21_code
theorem ddX1_chooseSingle_0 : xdec cX1_chooseSingle [(0, (.iload_n 1, 1)), (1, (.tableswitch 157 0 7 #[47, 157, 79, 92, 105, 118, 131, 144], 47)), (48, (.aload_n 0, 1)), (49, (.getfield 15, 3)), (52, (.getstatic 197, 3)), (55, (.putfield 122, 3)), (58, (.aload_n 0, 1)), (59, (.getfield 15, 3)), (62, (.iconst 3, 1)), (63, (.putfield 87, 3)), (66, (.aload_n 0, 1)), (67, (.aload_n 0, 1)), (68, (.getfield 15, 3)), (71, (.getfield 137, 3)), (74, (.putfield 47, 3)), (77, (.goto 86, 3)), (80, (.aload_n 0, 1)), (81, (.getfield 15, 3)), (84, (.getstatic 249, 3)), (87, (.putfield 122, 3)), (90, (.goto 73, 3)), (93, (.aload_n 0, 1)), (94, (.getfield 15, 3)), (97, (.getstatic 252, 3)), (100, (.putfield 122, 3)), (103, (.goto 60, 3)), (106, (.aload_n 0, 1)), (107, (.getfield 15, 3)), (110, (.getstatic 255, 3)), (113, (.putfield 122, 3)), (116, (.goto 47, 3)), (119, (.aload_n 0, 1)), (120, (.getfield 15, 3)), (123, (.getstatic 258, 3)), (126, (.putfield 122, 3)), (129, (.goto 34, 3)), (132, (.aload_n 0, 1)), (133, (.getfield 15, 3)), (136, (.getstatic 261, 3)), (139, (.putfield 122, 3))] = true := by decide +kernel
theorem dX1_chooseSingle_0 : decode cX1_chooseSingle 0 = .ok (.iload_n 1, 1) := xdc ddX1_chooseSingle_0 0 rfl
theorem dX1_chooseSingle_1 : decode cX1_chooseSingle 1 = .ok (.tableswitch 157 0 7 #[47, 157, 79, 92, 105, 118, 131, 144], 47) := xdc ddX1_chooseSingle_0 1 rfl
theorem dX1_chooseSingle_48 : decode cX1_chooseSingle 48 = .ok (.aload_n 0, 1) := xdc ddX1_chooseSingle_0 2 rfl
theorem dX1_chooseSingle_49 : decode cX1_chooseSingle 49 = .ok (.getfield 15, 3) := xdc ddX1_chooseSingle_0 3 rfl
theorem dX1_chooseSingle_52 : decode cX1_chooseSingle 52 = .ok (.getstatic 197, 3) := xdc ddX1_chooseSingle_0 4 rfl
theorem dX1_chooseSingle_55 : decode cX1_chooseSingle 55 = .ok (.putfield 122, 3) := xdc ddX1_chooseSingle_0 5 rfl
theorem dX1_chooseSingle_58 : decode cX1_chooseSingle 58 = .ok (.aload_n 0, 1) := xdc ddX1_chooseSingle_0 6 rfl
theorem dX1_chooseSingle_59 : decode cX1_chooseSingle 59 = .ok (.getfield 15, 3) := xdc ddX1_chooseSingle_0 7 rfl
theorem dX1_chooseSingle_62 : decode cX1_chooseSingle 62 = .ok (.iconst 3, 1) := xdc ddX1_chooseSingle_0 8 rfl
theorem dX1_chooseSingle_63 : decode cX1_chooseSingle 63 = .ok (.putfield 87, 3) := xdc ddX1_chooseSingle_0 9 rfl
theorem dX1_chooseSingle_66 : decode cX1_chooseSingle 66 = .ok (.aload_n 0, 1) := xdc ddX1_chooseSingle_0 10 rfl
theorem dX1_chooseSingle_67 : decode cX1_chooseSingle 67 = .ok (.aload_n 0, 1) := xdc ddX1_chooseSingle_0 11 rfl
theorem dX1_chooseSingle_68 : decode cX1_chooseSingle 68 = .ok (.getfield 15, 3) := xdc ddX1_chooseSingle_0 12 rfl
theorem dX1_chooseSingle_71 : decode cX1_chooseSingle 71 = .ok (.getfield 137, 3) := xdc ddX1_chooseSingle_0 13 rfl
theorem dX1_chooseSingle_74 : decode cX1_chooseSingle 74 = .ok (.putfield 47, 3) := xdc ddX1_chooseSingle_0 14 rfl
theorem dX1_chooseSingle_77 : decode cX1_chooseSingle 77 = .ok (.goto 86, 3) := xdc ddX1_chooseSingle_0 15 rfl
theorem dX1_chooseSingle_80 : decode cX1_chooseSingle 80 = .ok (.aload_n 0, 1) := xdc ddX1_chooseSingle_0 16 rfl
theorem dX1_chooseSingle_81 : decode cX1_chooseSingle 81 = .ok (.getfield 15, 3) := xdc ddX1_chooseSingle_0 17 rfl
theorem dX1_chooseSingle_84 : decode cX1_chooseSingle 84 = .ok (.getstatic 249, 3) := xdc ddX1_chooseSingle_0 18 rfl
theorem dX1_chooseSingle_87 : decode cX1_chooseSingle 87 = .ok (.putfield 122, 3) := xdc ddX1_chooseSingle_0 19 rfl
theorem dX1_chooseSingle_90 : decode cX1_chooseSingle 90 = .ok (.goto 73, 3) := xdc ddX1_chooseSingle_0 20 rfl
theorem dX1_chooseSingle_93 : decode cX1_chooseSingle 93 = .ok (.aload_n 0, 1) := xdc ddX1_chooseSingle_0 21 rfl
theorem dX1_chooseSingle_94 : decode cX1_chooseSingle 94 = .ok (.getfield 15, 3) := xdc ddX1_chooseSingle_0 22 rfl
theorem dX1_chooseSingle_97 : decode cX1_chooseSingle 97 = .ok (.getstatic 252, 3) := xdc ddX1_chooseSingle_0 23 rfl
theorem dX1_chooseSingle_100 : decode cX1_chooseSingle 100 = .ok (.putfield 122, 3) := xdc ddX1_chooseSingle_0 24 rfl
theorem dX1_chooseSingle_103 : decode cX1_chooseSingle 103 = .ok (.goto 60, 3) := xdc ddX1_chooseSingle_0 25 rfl
theorem dX1_chooseSingle_106 : decode cX1_chooseSingle 106 = .ok (.aload_n 0, 1) := xdc ddX1_chooseSingle_0 26 rfl
theorem dX1_chooseSingle_107 : decode cX1_chooseSingle 107 = .ok (.getfield 15, 3) := xdc ddX1_chooseSingle_0 27 rfl
theorem dX1_chooseSingle_110 : decode cX1_chooseSingle 110 = .ok (.getstatic 255, 3) := xdc ddX1_chooseSingle_0 28 rfl
theorem dX1_chooseSingle_113 : decode cX1_chooseSingle 113 = .ok (.putfield 122, 3) := xdc ddX1_chooseSingle_0 29 rfl
theorem dX1_chooseSingle_116 : decode cX1_chooseSingle 116 = .ok (.goto 47, 3) := xdc ddX1_chooseSingle_0 30 rfl
theorem dX1_chooseSingle_119 : decode cX1_chooseSingle 119 = .ok (.aload_n 0, 1) := xdc ddX1_chooseSingle_0 31 rfl
theorem dX1_chooseSingle_120 : decode cX1_chooseSingle 120 = .ok (.getfield 15, 3) := xdc ddX1_chooseSingle_0 32 rfl
theorem dX1_chooseSingle_123 : decode cX1_chooseSingle 123 = .ok (.getstatic 258, 3) := xdc ddX1_chooseSingle_0 33 rfl
theorem dX1_chooseSingle_126 : decode cX1_chooseSingle 126 = .ok (.putfield 122, 3) := xdc ddX1_chooseSingle_0 34 rfl
theorem dX1_chooseSingle_129 : decode cX1_chooseSingle 129 = .ok (.goto 34, 3) := xdc ddX1_chooseSingle_0 35 rfl
theorem dX1_chooseSingle_132 : decode cX1_chooseSingle 132 = .ok (.aload_n 0, 1) := xdc ddX1_chooseSingle_0 36 rfl
theorem dX1_chooseSingle_133 : decode cX1_chooseSingle 133 = .ok (.getfield 15, 3) := xdc ddX1_chooseSingle_0 37 rfl
theorem dX1_chooseSingle_136 : decode cX1_chooseSingle 136 = .ok (.getstatic 261, 3) := xdc ddX1_chooseSingle_0 38 rfl
theorem dX1_chooseSingle_139 : decode cX1_chooseSingle 139 = .ok (.putfield 122, 3) := xdc ddX1_chooseSingle_0 39 rfl
theorem ddX1_chooseSingle_1 : xdec cX1_chooseSingle [(142, (.goto 21, 3)), (145, (.aload_n 0, 1)), (146, (.getfield 15, 3)), (149, (.getstatic 264, 3)), (152, (.putfield 122, 3)), (155, (.goto 8, 3)), (158, (.aload_n 0, 1)), (159, (.iconst 0, 1)), (160, (.putfield 38, 3)), (163, (.return_, 1))] = true := by decide +kernel
theorem dX1_chooseSingle_142 : decode cX1_chooseSingle 142 = .ok (.goto 21, 3) := xdc ddX1_chooseSingle_1 0 rfl
theorem dX1_chooseSingle_145 : decode cX1_chooseSingle 145 = .ok (.aload_n 0, 1) := xdc ddX1_chooseSingle_1 1 rfl
theorem dX1_chooseSingle_146 : decode cX1_chooseSingle 146 = .ok (.getfield 15, 3) := xdc ddX1_chooseSingle_1 2 rfl
theorem dX1_chooseSingle_149 : decode cX1_chooseSingle 149 = .ok (.getstatic 264, 3) := xdc ddX1_chooseSingle_1 3 rfl
theorem dX1_chooseSingle_152 : decode cX1_chooseSingle 152 = .ok (.putfield 122, 3) := xdc ddX1_chooseSingle_1 4 rfl
theorem dX1_chooseSingle_155 : decode cX1_chooseSingle 155 = .ok (.goto 8, 3) := xdc ddX1_chooseSingle_1 5 rfl
theorem dX1_chooseSingle_158 : decode cX1_chooseSingle 158 = .ok (.aload_n 0, 1) := xdc ddX1_chooseSingle_1 6 rfl
theorem dX1_chooseSingle_159 : decode cX1_chooseSingle 159 = .ok (.iconst 0, 1) := xdc ddX1_chooseSingle_1 7 rfl
theorem dX1_chooseSingle_160 : decode cX1_chooseSingle 160 = .ok (.putfield 38, 3) := xdc ddX1_chooseSingle_1 8 rfl
theorem dX1_chooseSingle_163 : decode cX1_chooseSingle 163 = .ok (.return_, 1) := xdc ddX1_chooseSingle_1 9 rfl
abbrev cX1_chooseCounting : ByteArray := prog_3_method_22_code
theorem ddX1_chooseCounting_0 : xdec cX1_chooseCounting [(0, (.aload_n 0, 1)), (1, (.iload_n 1, 1)), (2, (.iconst 2, 1)), (3, (.if_icmp .lt 14, 3)), (6, (.aload_n 0, 1)), (7, (.getfield 15, 3)), (10, (.getfield 137, 3)), (13, (.iconst 4, 1)), (14, (.if_icmp .ne 7, 3)), (17, (.iconst 1, 1)), (18, (.goto 4, 3)), (21, (.iconst 0, 1)), (22, (.putfield 38, 3)), (25, (.iload_n 1, 1)), (26, (.tableswitch 131 0 6 #[42, 55, 68, 131, 68, 131, 118], 42)), (68, (.aload_n 0, 1)), (69, (.getfield 15, 3)), (72, (.getstatic 147, 3)), (75, (.putfield 122, 3)), (78, (.goto 84, 3)), (81, (.aload_n 0, 1)), (82, (.getfield 15, 3)), (85, (.getstatic 154, 3)), (88, (.putfield 122, 3)), (91, (.goto 71, 3)), (94, (.aload_n 0, 1)), (95, (.getfield 15, 3)), (98, (.iload_n 1, 1)), (99, (.iconst 2, 1)), (100, (.if_icmp .ne 9, 3)), (103, (.getstatic 231, 3)), (106, (.goto 6, 3)), (109, (.getstatic 234, 3)), (112, (.putfield 122, 3)), (115, (.aload_n 0, 1)), (116, (.aload_n 0, 1)), (117, (.getfield 38, 3)), (120, (.ifCond .eq 17, 3)), (123, (.aload_n 0, 1)), (124, (.getfield 15, 3))] = true := by decide +kernel
theorem dX1_chooseCounting_0 : decode cX1_chooseCounting 0 = .ok (.aload_n 0, 1) := xdc ddX1_chooseCounting_0 0 rfl
theorem dX1_chooseCounting_1 : decode cX1_chooseCounting 1 = .ok (.iload_n 1, 1) := xdc ddX1_chooseCounting_0 1 rfl
theorem dX1_chooseCounting_2 : decode cX1_chooseCounting 2 = .ok (.iconst 2, 1) := xdc ddX1_chooseCounting_0 2 rfl
theorem dX1_chooseCounting_3 : decode cX1_chooseCounting 3 = .ok (.if_icmp .lt 14, 3) := xdc ddX1_chooseCounting_0 3 rfl
theorem dX1_chooseCounting_6 : decode cX1_chooseCounting 6 = .ok (.aload_n 0, 1) := xdc ddX1_chooseCounting_0 4 rfl
theorem dX1_chooseCounting_7 : decode cX1_chooseCounting 7 = .ok (.getfield 15, 3) := xdc ddX1_chooseCounting_0 5 rfl
theorem dX1_chooseCounting_10 : decode cX1_chooseCounting 10 = .ok (.getfield 137, 3) := xdc ddX1_chooseCounting_0 6 rfl
theorem dX1_chooseCounting_13 : decode cX1_chooseCounting 13 = .ok (.iconst 4, 1) := xdc ddX1_chooseCounting_0 7 rfl
theorem dX1_chooseCounting_14 : decode cX1_chooseCounting 14 = .ok (.if_icmp .ne 7, 3) := xdc ddX1_chooseCounting_0 8 rfl
theorem dX1_chooseCounting_17 : decode cX1_chooseCounting 17 = .ok (.iconst 1, 1) := xdc ddX1_chooseCounting_0 9 rfl
theorem dX1_chooseCounting_18 : decode cX1_chooseCounting 18 = .ok (.goto 4, 3) := xdc ddX1_chooseCounting_0 10 rfl
theorem dX1_chooseCounting_21 : decode cX1_chooseCounting 21 = .ok (.iconst 0, 1) := xdc ddX1_chooseCounting_0 11 rfl
theorem dX1_chooseCounting_22 : decode cX1_chooseCounting 22 = .ok (.putfield 38, 3) := xdc ddX1_chooseCounting_0 12 rfl
theorem dX1_chooseCounting_25 : decode cX1_chooseCounting 25 = .ok (.iload_n 1, 1) := xdc ddX1_chooseCounting_0 13 rfl
theorem dX1_chooseCounting_26 : decode cX1_chooseCounting 26 = .ok (.tableswitch 131 0 6 #[42, 55, 68, 131, 68, 131, 118], 42) := xdc ddX1_chooseCounting_0 14 rfl
theorem dX1_chooseCounting_68 : decode cX1_chooseCounting 68 = .ok (.aload_n 0, 1) := xdc ddX1_chooseCounting_0 15 rfl
theorem dX1_chooseCounting_69 : decode cX1_chooseCounting 69 = .ok (.getfield 15, 3) := xdc ddX1_chooseCounting_0 16 rfl
theorem dX1_chooseCounting_72 : decode cX1_chooseCounting 72 = .ok (.getstatic 147, 3) := xdc ddX1_chooseCounting_0 17 rfl
theorem dX1_chooseCounting_75 : decode cX1_chooseCounting 75 = .ok (.putfield 122, 3) := xdc ddX1_chooseCounting_0 18 rfl
theorem dX1_chooseCounting_78 : decode cX1_chooseCounting 78 = .ok (.goto 84, 3) := xdc ddX1_chooseCounting_0 19 rfl
theorem dX1_chooseCounting_81 : decode cX1_chooseCounting 81 = .ok (.aload_n 0, 1) := xdc ddX1_chooseCounting_0 20 rfl
theorem dX1_chooseCounting_82 : decode cX1_chooseCounting 82 = .ok (.getfield 15, 3) := xdc ddX1_chooseCounting_0 21 rfl
theorem dX1_chooseCounting_85 : decode cX1_chooseCounting 85 = .ok (.getstatic 154, 3) := xdc ddX1_chooseCounting_0 22 rfl
theorem dX1_chooseCounting_88 : decode cX1_chooseCounting 88 = .ok (.putfield 122, 3) := xdc ddX1_chooseCounting_0 23 rfl
theorem dX1_chooseCounting_91 : decode cX1_chooseCounting 91 = .ok (.goto 71, 3) := xdc ddX1_chooseCounting_0 24 rfl
theorem dX1_chooseCounting_94 : decode cX1_chooseCounting 94 = .ok (.aload_n 0, 1) := xdc ddX1_chooseCounting_0 25 rfl
theorem dX1_chooseCounting_95 : decode cX1_chooseCounting 95 = .ok (.getfield 15, 3) := xdc ddX1_chooseCounting_0 26 rfl
theorem dX1_chooseCounting_98 : decode cX1_chooseCounting 98 = .ok (.iload_n 1, 1) := xdc ddX1_chooseCounting_0 27 rfl
theorem dX1_chooseCounting_99 : decode cX1_chooseCounting 99 = .ok (.iconst 2, 1) := xdc ddX1_chooseCounting_0 28 rfl
theorem dX1_chooseCounting_100 : decode cX1_chooseCounting 100 = .ok (.if_icmp .ne 9, 3) := xdc ddX1_chooseCounting_0 29 rfl
theorem dX1_chooseCounting_103 : decode cX1_chooseCounting 103 = .ok (.getstatic 231, 3) := xdc ddX1_chooseCounting_0 30 rfl
theorem dX1_chooseCounting_106 : decode cX1_chooseCounting 106 = .ok (.goto 6, 3) := xdc ddX1_chooseCounting_0 31 rfl
theorem dX1_chooseCounting_109 : decode cX1_chooseCounting 109 = .ok (.getstatic 234, 3) := xdc ddX1_chooseCounting_0 32 rfl
theorem dX1_chooseCounting_112 : decode cX1_chooseCounting 112 = .ok (.putfield 122, 3) := xdc ddX1_chooseCounting_0 33 rfl
theorem dX1_chooseCounting_115 : decode cX1_chooseCounting 115 = .ok (.aload_n 0, 1) := xdc ddX1_chooseCounting_0 34 rfl
theorem dX1_chooseCounting_116 : decode cX1_chooseCounting 116 = .ok (.aload_n 0, 1) := xdc ddX1_chooseCounting_0 35 rfl
theorem dX1_chooseCounting_117 : decode cX1_chooseCounting 117 = .ok (.getfield 38, 3) := xdc ddX1_chooseCounting_0 36 rfl
theorem dX1_chooseCounting_120 : decode cX1_chooseCounting 120 = .ok (.ifCond .eq 17, 3) := xdc ddX1_chooseCounting_0 37 rfl
theorem dX1_chooseCounting_123 : decode cX1_chooseCounting 123 = .ok (.aload_n 0, 1) := xdc ddX1_chooseCounting_0 38 rfl
theorem dX1_chooseCounting_124 : decode cX1_chooseCounting 124 = .ok (.getfield 15, 3) := xdc ddX1_chooseCounting_0 39 rfl
theorem ddX1_chooseCounting_1 : xdec cX1_chooseCounting [(127, (.getfield 103, 3)), (130, (.ifCond .ne 7, 3)), (133, (.iconst 1, 1)), (134, (.goto 4, 3)), (137, (.iconst 0, 1)), (138, (.putfield 38, 3)), (141, (.goto 21, 3)), (144, (.aload_n 0, 1)), (145, (.getfield 15, 3)), (148, (.getstatic 157, 3)), (151, (.putfield 122, 3)), (154, (.goto 8, 3)), (157, (.aload_n 0, 1)), (158, (.iconst 0, 1)), (159, (.putfield 38, 3)), (162, (.return_, 1))] = true := by decide +kernel
theorem dX1_chooseCounting_127 : decode cX1_chooseCounting 127 = .ok (.getfield 103, 3) := xdc ddX1_chooseCounting_1 0 rfl
theorem dX1_chooseCounting_130 : decode cX1_chooseCounting 130 = .ok (.ifCond .ne 7, 3) := xdc ddX1_chooseCounting_1 1 rfl
theorem dX1_chooseCounting_133 : decode cX1_chooseCounting 133 = .ok (.iconst 1, 1) := xdc ddX1_chooseCounting_1 2 rfl
theorem dX1_chooseCounting_134 : decode cX1_chooseCounting 134 = .ok (.goto 4, 3) := xdc ddX1_chooseCounting_1 3 rfl
theorem dX1_chooseCounting_137 : decode cX1_chooseCounting 137 = .ok (.iconst 0, 1) := xdc ddX1_chooseCounting_1 4 rfl
theorem dX1_chooseCounting_138 : decode cX1_chooseCounting 138 = .ok (.putfield 38, 3) := xdc ddX1_chooseCounting_1 5 rfl
theorem dX1_chooseCounting_141 : decode cX1_chooseCounting 141 = .ok (.goto 21, 3) := xdc ddX1_chooseCounting_1 6 rfl
theorem dX1_chooseCounting_144 : decode cX1_chooseCounting 144 = .ok (.aload_n 0, 1) := xdc ddX1_chooseCounting_1 7 rfl
theorem dX1_chooseCounting_145 : decode cX1_chooseCounting 145 = .ok (.getfield 15, 3) := xdc ddX1_chooseCounting_1 8 rfl
theorem dX1_chooseCounting_148 : decode cX1_chooseCounting 148 = .ok (.getstatic 157, 3) := xdc ddX1_chooseCounting_1 9 rfl
theorem dX1_chooseCounting_151 : decode cX1_chooseCounting 151 = .ok (.putfield 122, 3) := xdc ddX1_chooseCounting_1 10 rfl
theorem dX1_chooseCounting_154 : decode cX1_chooseCounting 154 = .ok (.goto 8, 3) := xdc ddX1_chooseCounting_1 11 rfl
theorem dX1_chooseCounting_157 : decode cX1_chooseCounting 157 = .ok (.aload_n 0, 1) := xdc ddX1_chooseCounting_1 12 rfl
theorem dX1_chooseCounting_158 : decode cX1_chooseCounting 158 = .ok (.iconst 0, 1) := xdc ddX1_chooseCounting_1 13 rfl
theorem dX1_chooseCounting_159 : decode cX1_chooseCounting 159 = .ok (.putfield 38, 3) := xdc ddX1_chooseCounting_1 14 rfl
theorem dX1_chooseCounting_162 : decode cX1_chooseCounting 162 = .ok (.return_, 1) := xdc ddX1_chooseCounting_1 15 rfl
abbrev cX1_chooseByDigit : ByteArray := prog_3_method_6_code
theorem ddX1_chooseByDigit_0 : xdec cX1_chooseByDigit [(0, (.aload_n 0, 1)), (1, (.getfield 15, 3)), (4, (.getfield 97, 3)), (7, (.bipush 7, 2)), (9, (.iand, 1)), (10, (.istore_n 1, 1)), (11, (.aload_n 0, 1)), (12, (.getfield 44, 3)), (15, (.tableswitch 138 1 6 #[37, 53, 68, 108, 116, 124], 37)), (52, (.aload_n 0, 1)), (53, (.iload_n 1, 1)), (54, (.ifCond .ne 7, 3)), (57, (.iconst 1, 1)), (58, (.goto 4, 3)), (61, (.iconst 0, 1)), (62, (.putfield 38, 3)), (65, (.goto 88, 3)), (68, (.aload_n 0, 1)), (69, (.getfield 15, 3)), (72, (.getstatic 118, 3)), (75, (.iload_n 1, 1)), (76, (.aaload, 1)), (77, (.putfield 122, 3)), (80, (.goto 73, 3)), (83, (.aload_n 0, 1)), (84, (.getfield 15, 3)), (87, (.getstatic 118, 3)), (90, (.bipush 8, 2)), (92, (.iload_n 1, 1)), (93, (.iadd, 1)), (94, (.aaload, 1)), (95, (.putfield 122, 3)), (98, (.aload_n 0, 1)), (99, (.aload_n 0, 1)), (100, (.getfield 15, 3)), (103, (.getfield 122, 3)), (106, (.getstatic 126, 3)), (109, (.if_acmp .eq 7, 3)), (112, (.iconst 1, 1)), (113, (.goto 4, 3))] = true := by decide +kernel
theorem dX1_chooseByDigit_0 : decode cX1_chooseByDigit 0 = .ok (.aload_n 0, 1) := xdc ddX1_chooseByDigit_0 0 rfl
theorem dX1_chooseByDigit_1 : decode cX1_chooseByDigit 1 = .ok (.getfield 15, 3) := xdc ddX1_chooseByDigit_0 1 rfl
theorem dX1_chooseByDigit_4 : decode cX1_chooseByDigit 4 = .ok (.getfield 97, 3) := xdc ddX1_chooseByDigit_0 2 rfl
theorem dX1_chooseByDigit_7 : decode cX1_chooseByDigit 7 = .ok (.bipush 7, 2) := xdc ddX1_chooseByDigit_0 3 rfl
theorem dX1_chooseByDigit_9 : decode cX1_chooseByDigit 9 = .ok (.iand, 1) := xdc ddX1_chooseByDigit_0 4 rfl
theorem dX1_chooseByDigit_10 : decode cX1_chooseByDigit 10 = .ok (.istore_n 1, 1) := xdc ddX1_chooseByDigit_0 5 rfl
theorem dX1_chooseByDigit_11 : decode cX1_chooseByDigit 11 = .ok (.aload_n 0, 1) := xdc ddX1_chooseByDigit_0 6 rfl
theorem dX1_chooseByDigit_12 : decode cX1_chooseByDigit 12 = .ok (.getfield 44, 3) := xdc ddX1_chooseByDigit_0 7 rfl
theorem dX1_chooseByDigit_15 : decode cX1_chooseByDigit 15 = .ok (.tableswitch 138 1 6 #[37, 53, 68, 108, 116, 124], 37) := xdc ddX1_chooseByDigit_0 8 rfl
theorem dX1_chooseByDigit_52 : decode cX1_chooseByDigit 52 = .ok (.aload_n 0, 1) := xdc ddX1_chooseByDigit_0 9 rfl
theorem dX1_chooseByDigit_53 : decode cX1_chooseByDigit 53 = .ok (.iload_n 1, 1) := xdc ddX1_chooseByDigit_0 10 rfl
theorem dX1_chooseByDigit_54 : decode cX1_chooseByDigit 54 = .ok (.ifCond .ne 7, 3) := xdc ddX1_chooseByDigit_0 11 rfl
theorem dX1_chooseByDigit_57 : decode cX1_chooseByDigit 57 = .ok (.iconst 1, 1) := xdc ddX1_chooseByDigit_0 12 rfl
theorem dX1_chooseByDigit_58 : decode cX1_chooseByDigit 58 = .ok (.goto 4, 3) := xdc ddX1_chooseByDigit_0 13 rfl
theorem dX1_chooseByDigit_61 : decode cX1_chooseByDigit 61 = .ok (.iconst 0, 1) := xdc ddX1_chooseByDigit_0 14 rfl
theorem dX1_chooseByDigit_62 : decode cX1_chooseByDigit 62 = .ok (.putfield 38, 3) := xdc ddX1_chooseByDigit_0 15 rfl
theorem dX1_chooseByDigit_65 : decode cX1_chooseByDigit 65 = .ok (.goto 88, 3) := xdc ddX1_chooseByDigit_0 16 rfl
theorem dX1_chooseByDigit_68 : decode cX1_chooseByDigit 68 = .ok (.aload_n 0, 1) := xdc ddX1_chooseByDigit_0 17 rfl
theorem dX1_chooseByDigit_69 : decode cX1_chooseByDigit 69 = .ok (.getfield 15, 3) := xdc ddX1_chooseByDigit_0 18 rfl
theorem dX1_chooseByDigit_72 : decode cX1_chooseByDigit 72 = .ok (.getstatic 118, 3) := xdc ddX1_chooseByDigit_0 19 rfl
theorem dX1_chooseByDigit_75 : decode cX1_chooseByDigit 75 = .ok (.iload_n 1, 1) := xdc ddX1_chooseByDigit_0 20 rfl
theorem dX1_chooseByDigit_76 : decode cX1_chooseByDigit 76 = .ok (.aaload, 1) := xdc ddX1_chooseByDigit_0 21 rfl
theorem dX1_chooseByDigit_77 : decode cX1_chooseByDigit 77 = .ok (.putfield 122, 3) := xdc ddX1_chooseByDigit_0 22 rfl
theorem dX1_chooseByDigit_80 : decode cX1_chooseByDigit 80 = .ok (.goto 73, 3) := xdc ddX1_chooseByDigit_0 23 rfl
theorem dX1_chooseByDigit_83 : decode cX1_chooseByDigit 83 = .ok (.aload_n 0, 1) := xdc ddX1_chooseByDigit_0 24 rfl
theorem dX1_chooseByDigit_84 : decode cX1_chooseByDigit 84 = .ok (.getfield 15, 3) := xdc ddX1_chooseByDigit_0 25 rfl
theorem dX1_chooseByDigit_87 : decode cX1_chooseByDigit 87 = .ok (.getstatic 118, 3) := xdc ddX1_chooseByDigit_0 26 rfl
theorem dX1_chooseByDigit_90 : decode cX1_chooseByDigit 90 = .ok (.bipush 8, 2) := xdc ddX1_chooseByDigit_0 27 rfl
theorem dX1_chooseByDigit_92 : decode cX1_chooseByDigit 92 = .ok (.iload_n 1, 1) := xdc ddX1_chooseByDigit_0 28 rfl
theorem dX1_chooseByDigit_93 : decode cX1_chooseByDigit 93 = .ok (.iadd, 1) := xdc ddX1_chooseByDigit_0 29 rfl
theorem dX1_chooseByDigit_94 : decode cX1_chooseByDigit 94 = .ok (.aaload, 1) := xdc ddX1_chooseByDigit_0 30 rfl
theorem dX1_chooseByDigit_95 : decode cX1_chooseByDigit 95 = .ok (.putfield 122, 3) := xdc ddX1_chooseByDigit_0 31 rfl
theorem dX1_chooseByDigit_98 : decode cX1_chooseByDigit 98 = .ok (.aload_n 0, 1) := xdc ddX1_chooseByDigit_0 32 rfl
theorem dX1_chooseByDigit_99 : decode cX1_chooseByDigit 99 = .ok (.aload_n 0, 1) := xdc ddX1_chooseByDigit_0 33 rfl
theorem dX1_chooseByDigit_100 : decode cX1_chooseByDigit 100 = .ok (.getfield 15, 3) := xdc ddX1_chooseByDigit_0 34 rfl
theorem dX1_chooseByDigit_103 : decode cX1_chooseByDigit 103 = .ok (.getfield 122, 3) := xdc ddX1_chooseByDigit_0 35 rfl
theorem dX1_chooseByDigit_106 : decode cX1_chooseByDigit 106 = .ok (.getstatic 126, 3) := xdc ddX1_chooseByDigit_0 36 rfl
theorem dX1_chooseByDigit_109 : decode cX1_chooseByDigit 109 = .ok (.if_acmp .eq 7, 3) := xdc ddX1_chooseByDigit_0 37 rfl
theorem dX1_chooseByDigit_112 : decode cX1_chooseByDigit 112 = .ok (.iconst 1, 1) := xdc ddX1_chooseByDigit_0 38 rfl
theorem dX1_chooseByDigit_113 : decode cX1_chooseByDigit 113 = .ok (.goto 4, 3) := xdc ddX1_chooseByDigit_0 39 rfl
theorem ddX1_chooseByDigit_1 : xdec cX1_chooseByDigit [(116, (.iconst 0, 1)), (117, (.putfield 38, 3)), (120, (.goto 33, 3)), (123, (.aload_n 0, 1)), (124, (.iload_n 1, 1)), (125, (.invokevirtual 131, 3)), (128, (.goto 25, 3)), (131, (.aload_n 0, 1)), (132, (.iload_n 1, 1)), (133, (.invokevirtual 134, 3)), (136, (.goto 17, 3)), (139, (.aload_n 0, 1)), (140, (.aload_n 0, 1)), (141, (.getfield 15, 3)), (144, (.getfield 103, 3)), (147, (.putfield 38, 3)), (150, (.goto 3, 3)), (153, (.return_, 1))] = true := by decide +kernel
theorem dX1_chooseByDigit_116 : decode cX1_chooseByDigit 116 = .ok (.iconst 0, 1) := xdc ddX1_chooseByDigit_1 0 rfl
theorem dX1_chooseByDigit_117 : decode cX1_chooseByDigit 117 = .ok (.putfield 38, 3) := xdc ddX1_chooseByDigit_1 1 rfl
theorem dX1_chooseByDigit_120 : decode cX1_chooseByDigit 120 = .ok (.goto 33, 3) := xdc ddX1_chooseByDigit_1 2 rfl
theorem dX1_chooseByDigit_123 : decode cX1_chooseByDigit 123 = .ok (.aload_n 0, 1) := xdc ddX1_chooseByDigit_1 3 rfl
theorem dX1_chooseByDigit_124 : decode cX1_chooseByDigit 124 = .ok (.iload_n 1, 1) := xdc ddX1_chooseByDigit_1 4 rfl
theorem dX1_chooseByDigit_125 : decode cX1_chooseByDigit 125 = .ok (.invokevirtual 131, 3) := xdc ddX1_chooseByDigit_1 5 rfl
theorem dX1_chooseByDigit_128 : decode cX1_chooseByDigit 128 = .ok (.goto 25, 3) := xdc ddX1_chooseByDigit_1 6 rfl
theorem dX1_chooseByDigit_131 : decode cX1_chooseByDigit 131 = .ok (.aload_n 0, 1) := xdc ddX1_chooseByDigit_1 7 rfl
theorem dX1_chooseByDigit_132 : decode cX1_chooseByDigit 132 = .ok (.iload_n 1, 1) := xdc ddX1_chooseByDigit_1 8 rfl
theorem dX1_chooseByDigit_133 : decode cX1_chooseByDigit 133 = .ok (.invokevirtual 134, 3) := xdc ddX1_chooseByDigit_1 9 rfl
theorem dX1_chooseByDigit_136 : decode cX1_chooseByDigit 136 = .ok (.goto 17, 3) := xdc ddX1_chooseByDigit_1 10 rfl
theorem dX1_chooseByDigit_139 : decode cX1_chooseByDigit 139 = .ok (.aload_n 0, 1) := xdc ddX1_chooseByDigit_1 11 rfl
theorem dX1_chooseByDigit_140 : decode cX1_chooseByDigit 140 = .ok (.aload_n 0, 1) := xdc ddX1_chooseByDigit_1 12 rfl
theorem dX1_chooseByDigit_141 : decode cX1_chooseByDigit 141 = .ok (.getfield 15, 3) := xdc ddX1_chooseByDigit_1 13 rfl
theorem dX1_chooseByDigit_144 : decode cX1_chooseByDigit 144 = .ok (.getfield 103, 3) := xdc ddX1_chooseByDigit_1 14 rfl
theorem dX1_chooseByDigit_147 : decode cX1_chooseByDigit 147 = .ok (.putfield 38, 3) := xdc ddX1_chooseByDigit_1 15 rfl
theorem dX1_chooseByDigit_150 : decode cX1_chooseByDigit 150 = .ok (.goto 3, 3) := xdc ddX1_chooseByDigit_1 16 rfl
theorem dX1_chooseByDigit_153 : decode cX1_chooseByDigit 153 = .ok (.return_, 1) := xdc ddX1_chooseByDigit_1 17 rfl
abbrev cX1_decode : ByteArray := prog_3_method_2_code
theorem ddX1_decode_0 : xdec cX1_decode [(0, (.aload_n 0, 1)), (1, (.getfield 15, 3)), (4, (.invokevirtual 19, 3)), (7, (.aload_n 0, 1)), (8, (.getfield 9, 3)), (11, (.iload_n 1, 1)), (12, (.invokevirtual 24, 3)), (15, (.ifCond .ne 5, 3)), (18, (.iconst 0, 1)), (19, (.ireturn, 1)), (20, (.aload_n 0, 1)), (21, (.iload_n 1, 1)), (22, (.putfield 30, 3)), (25, (.aload_n 0, 1)), (26, (.iconst 0, 1)), (27, (.putfield 34, 3)), (30, (.aload_n 0, 1)), (31, (.iconst 1, 1)), (32, (.putfield 38, 3)), (35, (.aload_n 0, 1)), (36, (.iconst 0, 1)), (37, (.putfield 41, 3)), (40, (.aload_n 0, 1)), (41, (.iconst 0, 1)), (42, (.putfield 44, 3)), (45, (.aload_n 0, 1)), (46, (.iconst 0, 1)), (47, (.putfield 47, 3)), (50, (.aload_n 0, 1)), (51, (.invokevirtual 50, 3)), (54, (.istore_n 2, 1)), (55, (.aload_n 0, 1)), (56, (.getfield 15, 3)), (59, (.iload_n 2, 1)), (60, (.putfield 54, 3)), (63, (.iload_n 2, 1)), (64, (.bipush 15, 2)), (66, (.if_icmp .ne 14, 3)), (69, (.aload_n 0, 1)), (70, (.aload_n 0, 1))] = true := by decide +kernel
theorem dX1_decode_0 : decode cX1_decode 0 = .ok (.aload_n 0, 1) := xdc ddX1_decode_0 0 rfl
theorem dX1_decode_1 : decode cX1_decode 1 = .ok (.getfield 15, 3) := xdc ddX1_decode_0 1 rfl
theorem dX1_decode_4 : decode cX1_decode 4 = .ok (.invokevirtual 19, 3) := xdc ddX1_decode_0 2 rfl
theorem dX1_decode_7 : decode cX1_decode 7 = .ok (.aload_n 0, 1) := xdc ddX1_decode_0 3 rfl
theorem dX1_decode_8 : decode cX1_decode 8 = .ok (.getfield 9, 3) := xdc ddX1_decode_0 4 rfl
theorem dX1_decode_11 : decode cX1_decode 11 = .ok (.iload_n 1, 1) := xdc ddX1_decode_0 5 rfl
theorem dX1_decode_12 : decode cX1_decode 12 = .ok (.invokevirtual 24, 3) := xdc ddX1_decode_0 6 rfl
theorem dX1_decode_15 : decode cX1_decode 15 = .ok (.ifCond .ne 5, 3) := xdc ddX1_decode_0 7 rfl
theorem dX1_decode_18 : decode cX1_decode 18 = .ok (.iconst 0, 1) := xdc ddX1_decode_0 8 rfl
theorem dX1_decode_19 : decode cX1_decode 19 = .ok (.ireturn, 1) := xdc ddX1_decode_0 9 rfl
theorem dX1_decode_20 : decode cX1_decode 20 = .ok (.aload_n 0, 1) := xdc ddX1_decode_0 10 rfl
theorem dX1_decode_21 : decode cX1_decode 21 = .ok (.iload_n 1, 1) := xdc ddX1_decode_0 11 rfl
theorem dX1_decode_22 : decode cX1_decode 22 = .ok (.putfield 30, 3) := xdc ddX1_decode_0 12 rfl
theorem dX1_decode_25 : decode cX1_decode 25 = .ok (.aload_n 0, 1) := xdc ddX1_decode_0 13 rfl
theorem dX1_decode_26 : decode cX1_decode 26 = .ok (.iconst 0, 1) := xdc ddX1_decode_0 14 rfl
theorem dX1_decode_27 : decode cX1_decode 27 = .ok (.putfield 34, 3) := xdc ddX1_decode_0 15 rfl
theorem dX1_decode_30 : decode cX1_decode 30 = .ok (.aload_n 0, 1) := xdc ddX1_decode_0 16 rfl
theorem dX1_decode_31 : decode cX1_decode 31 = .ok (.iconst 1, 1) := xdc ddX1_decode_0 17 rfl
theorem dX1_decode_32 : decode cX1_decode 32 = .ok (.putfield 38, 3) := xdc ddX1_decode_0 18 rfl
theorem dX1_decode_35 : decode cX1_decode 35 = .ok (.aload_n 0, 1) := xdc ddX1_decode_0 19 rfl
theorem dX1_decode_36 : decode cX1_decode 36 = .ok (.iconst 0, 1) := xdc ddX1_decode_0 20 rfl
theorem dX1_decode_37 : decode cX1_decode 37 = .ok (.putfield 41, 3) := xdc ddX1_decode_0 21 rfl
theorem dX1_decode_40 : decode cX1_decode 40 = .ok (.aload_n 0, 1) := xdc ddX1_decode_0 22 rfl
theorem dX1_decode_41 : decode cX1_decode 41 = .ok (.iconst 0, 1) := xdc ddX1_decode_0 23 rfl
theorem dX1_decode_42 : decode cX1_decode 42 = .ok (.putfield 44, 3) := xdc ddX1_decode_0 24 rfl
theorem dX1_decode_45 : decode cX1_decode 45 = .ok (.aload_n 0, 1) := xdc ddX1_decode_0 25 rfl
theorem dX1_decode_46 : decode cX1_decode 46 = .ok (.iconst 0, 1) := xdc ddX1_decode_0 26 rfl
theorem dX1_decode_47 : decode cX1_decode 47 = .ok (.putfield 47, 3) := xdc ddX1_decode_0 27 rfl
theorem dX1_decode_50 : decode cX1_decode 50 = .ok (.aload_n 0, 1) := xdc ddX1_decode_0 28 rfl
theorem dX1_decode_51 : decode cX1_decode 51 = .ok (.invokevirtual 50, 3) := xdc ddX1_decode_0 29 rfl
theorem dX1_decode_54 : decode cX1_decode 54 = .ok (.istore_n 2, 1) := xdc ddX1_decode_0 30 rfl
theorem dX1_decode_55 : decode cX1_decode 55 = .ok (.aload_n 0, 1) := xdc ddX1_decode_0 31 rfl
theorem dX1_decode_56 : decode cX1_decode 56 = .ok (.getfield 15, 3) := xdc ddX1_decode_0 32 rfl
theorem dX1_decode_59 : decode cX1_decode 59 = .ok (.iload_n 2, 1) := xdc ddX1_decode_0 33 rfl
theorem dX1_decode_60 : decode cX1_decode 60 = .ok (.putfield 54, 3) := xdc ddX1_decode_0 34 rfl
theorem dX1_decode_63 : decode cX1_decode 63 = .ok (.iload_n 2, 1) := xdc ddX1_decode_0 35 rfl
theorem dX1_decode_64 : decode cX1_decode 64 = .ok (.bipush 15, 2) := xdc ddX1_decode_0 36 rfl
theorem dX1_decode_66 : decode cX1_decode 66 = .ok (.if_icmp .ne 14, 3) := xdc ddX1_decode_0 37 rfl
theorem dX1_decode_69 : decode cX1_decode 69 = .ok (.aload_n 0, 1) := xdc ddX1_decode_0 38 rfl
theorem dX1_decode_70 : decode cX1_decode 70 = .ok (.aload_n 0, 1) := xdc ddX1_decode_0 39 rfl
theorem ddX1_decode_1 : xdec cX1_decode [(71, (.invokevirtual 50, 3)), (74, (.invokevirtual 57, 3)), (77, (.goto 51, 3)), (80, (.iload_n 2, 1)), (81, (.bipush 102, 2)), (83, (.if_icmp .ne 14, 3)), (86, (.aload_n 0, 1)), (87, (.aload_n 0, 1)), (88, (.invokevirtual 50, 3)), (91, (.invokevirtual 61, 3)), (94, (.goto 34, 3)), (97, (.iload_n 2, 1)), (98, (.sipush 128, 3)), (101, (.if_icmp .ge 11, 3)), (104, (.aload_n 0, 1)), (105, (.iload_n 2, 1)), (106, (.invokevirtual 64, 3)), (109, (.goto 19, 3)), (112, (.aload_n 0, 1)), (113, (.iload_n 2, 1)), (114, (.iload_n 2, 1)), (115, (.iconst 1, 1)), (116, (.iand, 1)), (117, (.ifCond .ne 7, 3)), (120, (.iconst 1, 1)), (121, (.goto 4, 3)), (124, (.iconst 4, 1)), (125, (.invokevirtual 67, 3)), (128, (.aload_n 0, 1)), (129, (.getfield 41, 3)), (132, (.ifCond .eq 11, 3)), (135, (.aload_n 0, 1)), (136, (.invokevirtual 71, 3)), (139, (.aload_n 0, 1)), (140, (.invokevirtual 74, 3)), (143, (.aload_n 0, 1)), (144, (.getfield 47, 3)), (147, (.ifCond .le 18, 3)), (150, (.aload_n 0, 1)), (151, (.getfield 15, 3))] = true := by decide +kernel
theorem dX1_decode_71 : decode cX1_decode 71 = .ok (.invokevirtual 50, 3) := xdc ddX1_decode_1 0 rfl
theorem dX1_decode_74 : decode cX1_decode 74 = .ok (.invokevirtual 57, 3) := xdc ddX1_decode_1 1 rfl
theorem dX1_decode_77 : decode cX1_decode 77 = .ok (.goto 51, 3) := xdc ddX1_decode_1 2 rfl
theorem dX1_decode_80 : decode cX1_decode 80 = .ok (.iload_n 2, 1) := xdc ddX1_decode_1 3 rfl
theorem dX1_decode_81 : decode cX1_decode 81 = .ok (.bipush 102, 2) := xdc ddX1_decode_1 4 rfl
theorem dX1_decode_83 : decode cX1_decode 83 = .ok (.if_icmp .ne 14, 3) := xdc ddX1_decode_1 5 rfl
theorem dX1_decode_86 : decode cX1_decode 86 = .ok (.aload_n 0, 1) := xdc ddX1_decode_1 6 rfl
theorem dX1_decode_87 : decode cX1_decode 87 = .ok (.aload_n 0, 1) := xdc ddX1_decode_1 7 rfl
theorem dX1_decode_88 : decode cX1_decode 88 = .ok (.invokevirtual 50, 3) := xdc ddX1_decode_1 8 rfl
theorem dX1_decode_91 : decode cX1_decode 91 = .ok (.invokevirtual 61, 3) := xdc ddX1_decode_1 9 rfl
theorem dX1_decode_94 : decode cX1_decode 94 = .ok (.goto 34, 3) := xdc ddX1_decode_1 10 rfl
theorem dX1_decode_97 : decode cX1_decode 97 = .ok (.iload_n 2, 1) := xdc ddX1_decode_1 11 rfl
theorem dX1_decode_98 : decode cX1_decode 98 = .ok (.sipush 128, 3) := xdc ddX1_decode_1 12 rfl
theorem dX1_decode_101 : decode cX1_decode 101 = .ok (.if_icmp .ge 11, 3) := xdc ddX1_decode_1 13 rfl
theorem dX1_decode_104 : decode cX1_decode 104 = .ok (.aload_n 0, 1) := xdc ddX1_decode_1 14 rfl
theorem dX1_decode_105 : decode cX1_decode 105 = .ok (.iload_n 2, 1) := xdc ddX1_decode_1 15 rfl
theorem dX1_decode_106 : decode cX1_decode 106 = .ok (.invokevirtual 64, 3) := xdc ddX1_decode_1 16 rfl
theorem dX1_decode_109 : decode cX1_decode 109 = .ok (.goto 19, 3) := xdc ddX1_decode_1 17 rfl
theorem dX1_decode_112 : decode cX1_decode 112 = .ok (.aload_n 0, 1) := xdc ddX1_decode_1 18 rfl
theorem dX1_decode_113 : decode cX1_decode 113 = .ok (.iload_n 2, 1) := xdc ddX1_decode_1 19 rfl
theorem dX1_decode_114 : decode cX1_decode 114 = .ok (.iload_n 2, 1) := xdc ddX1_decode_1 20 rfl
theorem dX1_decode_115 : decode cX1_decode 115 = .ok (.iconst 1, 1) := xdc ddX1_decode_1 21 rfl
theorem dX1_decode_116 : decode cX1_decode 116 = .ok (.iand, 1) := xdc ddX1_decode_1 22 rfl
theorem dX1_decode_117 : decode cX1_decode 117 = .ok (.ifCond .ne 7, 3) := xdc ddX1_decode_1 23 rfl
theorem dX1_decode_120 : decode cX1_decode 120 = .ok (.iconst 1, 1) := xdc ddX1_decode_1 24 rfl
theorem dX1_decode_121 : decode cX1_decode 121 = .ok (.goto 4, 3) := xdc ddX1_decode_1 25 rfl
theorem dX1_decode_124 : decode cX1_decode 124 = .ok (.iconst 4, 1) := xdc ddX1_decode_1 26 rfl
theorem dX1_decode_125 : decode cX1_decode 125 = .ok (.invokevirtual 67, 3) := xdc ddX1_decode_1 27 rfl
theorem dX1_decode_128 : decode cX1_decode 128 = .ok (.aload_n 0, 1) := xdc ddX1_decode_1 28 rfl
theorem dX1_decode_129 : decode cX1_decode 129 = .ok (.getfield 41, 3) := xdc ddX1_decode_1 29 rfl
theorem dX1_decode_132 : decode cX1_decode 132 = .ok (.ifCond .eq 11, 3) := xdc ddX1_decode_1 30 rfl
theorem dX1_decode_135 : decode cX1_decode 135 = .ok (.aload_n 0, 1) := xdc ddX1_decode_1 31 rfl
theorem dX1_decode_136 : decode cX1_decode 136 = .ok (.invokevirtual 71, 3) := xdc ddX1_decode_1 32 rfl
theorem dX1_decode_139 : decode cX1_decode 139 = .ok (.aload_n 0, 1) := xdc ddX1_decode_1 33 rfl
theorem dX1_decode_140 : decode cX1_decode 140 = .ok (.invokevirtual 74, 3) := xdc ddX1_decode_1 34 rfl
theorem dX1_decode_143 : decode cX1_decode 143 = .ok (.aload_n 0, 1) := xdc ddX1_decode_1 35 rfl
theorem dX1_decode_144 : decode cX1_decode 144 = .ok (.getfield 47, 3) := xdc ddX1_decode_1 36 rfl
theorem dX1_decode_147 : decode cX1_decode 147 = .ok (.ifCond .le 18, 3) := xdc ddX1_decode_1 37 rfl
theorem dX1_decode_150 : decode cX1_decode 150 = .ok (.aload_n 0, 1) := xdc ddX1_decode_1 38 rfl
theorem dX1_decode_151 : decode cX1_decode 151 = .ok (.getfield 15, 3) := xdc ddX1_decode_1 39 rfl
theorem ddX1_decode_2 : xdec cX1_decode [(154, (.aload_n 0, 1)), (155, (.aload_n 0, 1)), (156, (.getfield 47, 3)), (159, (.invokevirtual 77, 3)), (162, (.putfield 81, 3)), (165, (.aload_n 0, 1)), (166, (.getfield 34, 3)), (169, (.ifCond .ne 10, 3)), (172, (.aload_n 0, 1)), (173, (.getfield 38, 3)), (176, (.ifCond .ne 5, 3)), (179, (.iconst 0, 1)), (180, (.ireturn, 1)), (181, (.aload_n 0, 1)), (182, (.getfield 15, 3)), (185, (.aload_n 0, 1)), (186, (.getfield 30, 3)), (189, (.iload_n 1, 1)), (190, (.isub, 1)), (191, (.putfield 84, 3)), (194, (.aload_n 0, 1)), (195, (.getfield 15, 3)), (198, (.getfield 87, 3)), (201, (.bipush 9, 2)), (203, (.if_icmp .ne 23, 3)), (206, (.aload_n 0, 1)), (207, (.getfield 15, 3)), (210, (.dup, 1)), (211, (.getfield 81, 3)), (214, (.sipush 4096, 3)), (217, (.aload_n 0, 1)), (218, (.getfield 30, 3)), (221, (.iadd, 1)), (222, (.iadd, 1)), (223, (.putfield 81, 3)), (226, (.aload_n 0, 1)), (227, (.getfield 15, 3)), (230, (.getfield 84, 3)), (233, (.ireturn, 1))] = true := by decide +kernel
theorem dX1_decode_154 : decode cX1_decode 154 = .ok (.aload_n 0, 1) := xdc ddX1_decode_2 0 rfl
theorem dX1_decode_155 : decode cX1_decode 155 = .ok (.aload_n 0, 1) := xdc ddX1_decode_2 1 rfl
theorem dX1_decode_156 : decode cX1_decode 156 = .ok (.getfield 47, 3) := xdc ddX1_decode_2 2 rfl
theorem dX1_decode_159 : decode cX1_decode 159 = .ok (.invokevirtual 77, 3) := xdc ddX1_decode_2 3 rfl
theorem dX1_decode_162 : decode cX1_decode 162 = .ok (.putfield 81, 3) := xdc ddX1_decode_2 4 rfl
theorem dX1_decode_165 : decode cX1_decode 165 = .ok (.aload_n 0, 1) := xdc ddX1_decode_2 5 rfl
theorem dX1_decode_166 : decode cX1_decode 166 = .ok (.getfield 34, 3) := xdc ddX1_decode_2 6 rfl
theorem dX1_decode_169 : decode cX1_decode 169 = .ok (.ifCond .ne 10, 3) := xdc ddX1_decode_2 7 rfl
theorem dX1_decode_172 : decode cX1_decode 172 = .ok (.aload_n 0, 1) := xdc ddX1_decode_2 8 rfl
theorem dX1_decode_173 : decode cX1_decode 173 = .ok (.getfield 38, 3) := xdc ddX1_decode_2 9 rfl
theorem dX1_decode_176 : decode cX1_decode 176 = .ok (.ifCond .ne 5, 3) := xdc ddX1_decode_2 10 rfl
theorem dX1_decode_179 : decode cX1_decode 179 = .ok (.iconst 0, 1) := xdc ddX1_decode_2 11 rfl
theorem dX1_decode_180 : decode cX1_decode 180 = .ok (.ireturn, 1) := xdc ddX1_decode_2 12 rfl
theorem dX1_decode_181 : decode cX1_decode 181 = .ok (.aload_n 0, 1) := xdc ddX1_decode_2 13 rfl
theorem dX1_decode_182 : decode cX1_decode 182 = .ok (.getfield 15, 3) := xdc ddX1_decode_2 14 rfl
theorem dX1_decode_185 : decode cX1_decode 185 = .ok (.aload_n 0, 1) := xdc ddX1_decode_2 15 rfl
theorem dX1_decode_186 : decode cX1_decode 186 = .ok (.getfield 30, 3) := xdc ddX1_decode_2 16 rfl
theorem dX1_decode_189 : decode cX1_decode 189 = .ok (.iload_n 1, 1) := xdc ddX1_decode_2 17 rfl
theorem dX1_decode_190 : decode cX1_decode 190 = .ok (.isub, 1) := xdc ddX1_decode_2 18 rfl
theorem dX1_decode_191 : decode cX1_decode 191 = .ok (.putfield 84, 3) := xdc ddX1_decode_2 19 rfl
theorem dX1_decode_194 : decode cX1_decode 194 = .ok (.aload_n 0, 1) := xdc ddX1_decode_2 20 rfl
theorem dX1_decode_195 : decode cX1_decode 195 = .ok (.getfield 15, 3) := xdc ddX1_decode_2 21 rfl
theorem dX1_decode_198 : decode cX1_decode 198 = .ok (.getfield 87, 3) := xdc ddX1_decode_2 22 rfl
theorem dX1_decode_201 : decode cX1_decode 201 = .ok (.bipush 9, 2) := xdc ddX1_decode_2 23 rfl
theorem dX1_decode_203 : decode cX1_decode 203 = .ok (.if_icmp .ne 23, 3) := xdc ddX1_decode_2 24 rfl
theorem dX1_decode_206 : decode cX1_decode 206 = .ok (.aload_n 0, 1) := xdc ddX1_decode_2 25 rfl
theorem dX1_decode_207 : decode cX1_decode 207 = .ok (.getfield 15, 3) := xdc ddX1_decode_2 26 rfl
theorem dX1_decode_210 : decode cX1_decode 210 = .ok (.dup, 1) := xdc ddX1_decode_2 27 rfl
theorem dX1_decode_211 : decode cX1_decode 211 = .ok (.getfield 81, 3) := xdc ddX1_decode_2 28 rfl
theorem dX1_decode_214 : decode cX1_decode 214 = .ok (.sipush 4096, 3) := xdc ddX1_decode_2 29 rfl
theorem dX1_decode_217 : decode cX1_decode 217 = .ok (.aload_n 0, 1) := xdc ddX1_decode_2 30 rfl
theorem dX1_decode_218 : decode cX1_decode 218 = .ok (.getfield 30, 3) := xdc ddX1_decode_2 31 rfl
theorem dX1_decode_221 : decode cX1_decode 221 = .ok (.iadd, 1) := xdc ddX1_decode_2 32 rfl
theorem dX1_decode_222 : decode cX1_decode 222 = .ok (.iadd, 1) := xdc ddX1_decode_2 33 rfl
theorem dX1_decode_223 : decode cX1_decode 223 = .ok (.putfield 81, 3) := xdc ddX1_decode_2 34 rfl
theorem dX1_decode_226 : decode cX1_decode 226 = .ok (.aload_n 0, 1) := xdc ddX1_decode_2 35 rfl
theorem dX1_decode_227 : decode cX1_decode 227 = .ok (.getfield 15, 3) := xdc ddX1_decode_2 36 rfl
theorem dX1_decode_230 : decode cX1_decode 230 = .ok (.getfield 84, 3) := xdc ddX1_decode_2 37 rfl
theorem dX1_decode_233 : decode cX1_decode 233 = .ok (.ireturn, 1) := xdc ddX1_decode_2 38 rfl
abbrev cX2_has : ByteArray := prog_4_method_2_code
theorem ddX2_has_0 : xdec cX2_has [(0, (.aload_n 0, 1)), (1, (.getfield 7, 3)), (4, (.iload_n 1, 1)), (5, (.iand, 1)), (6, (.ifCond .eq 7, 3)), (9, (.iconst 1, 1)), (10, (.goto 4, 3)), (13, (.iconst 0, 1)), (14, (.ireturn, 1))] = true := by decide +kernel
theorem dX2_has_0 : decode cX2_has 0 = .ok (.aload_n 0, 1) := xdc ddX2_has_0 0 rfl
theorem dX2_has_1 : decode cX2_has 1 = .ok (.getfield 7, 3) := xdc ddX2_has_0 1 rfl
theorem dX2_has_4 : decode cX2_has 4 = .ok (.iload_n 1, 1) := xdc ddX2_has_0 2 rfl
theorem dX2_has_5 : decode cX2_has 5 = .ok (.iand, 1) := xdc ddX2_has_0 3 rfl
theorem dX2_has_6 : decode cX2_has 6 = .ok (.ifCond .eq 7, 3) := xdc ddX2_has_0 4 rfl
theorem dX2_has_9 : decode cX2_has 9 = .ok (.iconst 1, 1) := xdc ddX2_has_0 5 rfl
theorem dX2_has_10 : decode cX2_has 10 = .ok (.goto 4, 3) := xdc ddX2_has_0 6 rfl
theorem dX2_has_13 : decode cX2_has 13 = .ok (.iconst 0, 1) := xdc ddX2_has_0 7 rfl
theorem dX2_has_14 : decode cX2_has 14 = .ok (.ireturn, 1) := xdc ddX2_has_0 8 rfl
abbrev cX2_set : ByteArray := prog_4_method_3_code
theorem ddX2_set_0 : xdec cX2_set [(0, (.aload_n 0, 1)), (1, (.iload_n 2, 1)), (2, (.ifCond .eq 12, 3)), (5, (.aload_n 0, 1)), (6, (.getfield 7, 3)), (9, (.iload_n 1, 1)), (10, (.ior, 1)), (11, (.goto 11, 3)), (14, (.aload_n 0, 1)), (15, (.getfield 7, 3)), (18, (.iload_n 1, 1)), (19, (.iconst (-1), 1)), (20, (.ixor, 1)), (21, (.iand, 1)), (22, (.putfield 7, 3)), (25, (.return_, 1))] = true := by decide +kernel
theorem dX2_set_0 : decode cX2_set 0 = .ok (.aload_n 0, 1) := xdc ddX2_set_0 0 rfl
theorem dX2_set_1 : decode cX2_set 1 = .ok (.iload_n 2, 1) := xdc ddX2_set_0 1 rfl
theorem dX2_set_2 : decode cX2_set 2 = .ok (.ifCond .eq 12, 3) := xdc ddX2_set_0 2 rfl
theorem dX2_set_5 : decode cX2_set 5 = .ok (.aload_n 0, 1) := xdc ddX2_set_0 3 rfl
theorem dX2_set_6 : decode cX2_set 6 = .ok (.getfield 7, 3) := xdc ddX2_set_0 4 rfl
theorem dX2_set_9 : decode cX2_set 9 = .ok (.iload_n 1, 1) := xdc ddX2_set_0 5 rfl
theorem dX2_set_10 : decode cX2_set 10 = .ok (.ior, 1) := xdc ddX2_set_0 6 rfl
theorem dX2_set_11 : decode cX2_set 11 = .ok (.goto 11, 3) := xdc ddX2_set_0 7 rfl
theorem dX2_set_14 : decode cX2_set 14 = .ok (.aload_n 0, 1) := xdc ddX2_set_0 8 rfl
theorem dX2_set_15 : decode cX2_set 15 = .ok (.getfield 7, 3) := xdc ddX2_set_0 9 rfl
theorem dX2_set_18 : decode cX2_set 18 = .ok (.iload_n 1, 1) := xdc ddX2_set_0 10 rfl
theorem dX2_set_19 : decode cX2_set 19 = .ok (.iconst (-1), 1) := xdc ddX2_set_0 11 rfl
theorem dX2_set_20 : decode cX2_set 20 = .ok (.ixor, 1) := xdc ddX2_set_0 12 rfl
theorem dX2_set_21 : decode cX2_set 21 = .ok (.iand, 1) := xdc ddX2_set_0 13 rfl
theorem dX2_set_22 : decode cX2_set 22 = .ok (.putfield 7, 3) := xdc ddX2_set_0 14 rfl
theorem dX2_set_25 : decode cX2_set 25 = .ok (.return_, 1) := xdc ddX2_set_0 15 rfl
abbrev cX2_holds : ByteArray := prog_4_method_4_code
theorem ddX2_holds_0 : xdec cX2_holds [(0, (.iload_n 1, 1)), (1, (.iconst 1, 1)), (2, (.ishr, 1)), (3, (.bipush 7, 2)), (5, (.iand, 1)), (6, (.tableswitch 144 0 6 #[42, 53, 62, 72, 98, 109, 118], 42)), (48, (.aload_n 0, 1)), (49, (.sipush 2048, 3)), (52, (.invokevirtual 13, 3)), (55, (.istore_n 2, 1)), (56, (.goto 126, 3)), (59, (.aload_n 0, 1)), (60, (.iconst 1, 1)), (61, (.invokevirtual 13, 3)), (64, (.istore_n 2, 1)), (65, (.goto 117, 3)), (68, (.aload_n 0, 1)), (69, (.bipush 64, 2)), (71, (.invokevirtual 13, 3)), (74, (.istore_n 2, 1)), (75, (.goto 107, 3)), (78, (.aload_n 0, 1)), (79, (.iconst 1, 1)), (80, (.invokevirtual 13, 3)), (83, (.ifCond .ne 12, 3)), (86, (.aload_n 0, 1)), (87, (.bipush 64, 2)), (89, (.invokevirtual 13, 3)), (92, (.ifCond .eq 7, 3)), (95, (.iconst 1, 1)), (96, (.goto 4, 3)), (99, (.iconst 0, 1)), (100, (.istore_n 2, 1)), (101, (.goto 81, 3)), (104, (.aload_n 0, 1)), (105, (.sipush 128, 3)), (108, (.invokevirtual 13, 3)), (111, (.istore_n 2, 1)), (112, (.goto 70, 3)), (115, (.aload_n 0, 1))] = true := by decide +kernel
theorem dX2_holds_0 : decode cX2_holds 0 = .ok (.iload_n 1, 1) := xdc ddX2_holds_0 0 rfl
theorem dX2_holds_1 : decode cX2_holds 1 = .ok (.iconst 1, 1) := xdc ddX2_holds_0 1 rfl
theorem dX2_holds_2 : decode cX2_holds 2 = .ok (.ishr, 1) := xdc ddX2_holds_0 2 rfl
theorem dX2_holds_3 : decode cX2_holds 3 = .ok (.bipush 7, 2) := xdc ddX2_holds_0 3 rfl
theorem dX2_holds_5 : decode cX2_holds 5 = .ok (.iand, 1) := xdc ddX2_holds_0 4 rfl
theorem dX2_holds_6 : decode cX2_holds 6 = .ok (.tableswitch 144 0 6 #[42, 53, 62, 72, 98, 109, 118], 42) := xdc ddX2_holds_0 5 rfl
theorem dX2_holds_48 : decode cX2_holds 48 = .ok (.aload_n 0, 1) := xdc ddX2_holds_0 6 rfl
theorem dX2_holds_49 : decode cX2_holds 49 = .ok (.sipush 2048, 3) := xdc ddX2_holds_0 7 rfl
theorem dX2_holds_52 : decode cX2_holds 52 = .ok (.invokevirtual 13, 3) := xdc ddX2_holds_0 8 rfl
theorem dX2_holds_55 : decode cX2_holds 55 = .ok (.istore_n 2, 1) := xdc ddX2_holds_0 9 rfl
theorem dX2_holds_56 : decode cX2_holds 56 = .ok (.goto 126, 3) := xdc ddX2_holds_0 10 rfl
theorem dX2_holds_59 : decode cX2_holds 59 = .ok (.aload_n 0, 1) := xdc ddX2_holds_0 11 rfl
theorem dX2_holds_60 : decode cX2_holds 60 = .ok (.iconst 1, 1) := xdc ddX2_holds_0 12 rfl
theorem dX2_holds_61 : decode cX2_holds 61 = .ok (.invokevirtual 13, 3) := xdc ddX2_holds_0 13 rfl
theorem dX2_holds_64 : decode cX2_holds 64 = .ok (.istore_n 2, 1) := xdc ddX2_holds_0 14 rfl
theorem dX2_holds_65 : decode cX2_holds 65 = .ok (.goto 117, 3) := xdc ddX2_holds_0 15 rfl
theorem dX2_holds_68 : decode cX2_holds 68 = .ok (.aload_n 0, 1) := xdc ddX2_holds_0 16 rfl
theorem dX2_holds_69 : decode cX2_holds 69 = .ok (.bipush 64, 2) := xdc ddX2_holds_0 17 rfl
theorem dX2_holds_71 : decode cX2_holds 71 = .ok (.invokevirtual 13, 3) := xdc ddX2_holds_0 18 rfl
theorem dX2_holds_74 : decode cX2_holds 74 = .ok (.istore_n 2, 1) := xdc ddX2_holds_0 19 rfl
theorem dX2_holds_75 : decode cX2_holds 75 = .ok (.goto 107, 3) := xdc ddX2_holds_0 20 rfl
theorem dX2_holds_78 : decode cX2_holds 78 = .ok (.aload_n 0, 1) := xdc ddX2_holds_0 21 rfl
theorem dX2_holds_79 : decode cX2_holds 79 = .ok (.iconst 1, 1) := xdc ddX2_holds_0 22 rfl
theorem dX2_holds_80 : decode cX2_holds 80 = .ok (.invokevirtual 13, 3) := xdc ddX2_holds_0 23 rfl
theorem dX2_holds_83 : decode cX2_holds 83 = .ok (.ifCond .ne 12, 3) := xdc ddX2_holds_0 24 rfl
theorem dX2_holds_86 : decode cX2_holds 86 = .ok (.aload_n 0, 1) := xdc ddX2_holds_0 25 rfl
theorem dX2_holds_87 : decode cX2_holds 87 = .ok (.bipush 64, 2) := xdc ddX2_holds_0 26 rfl
theorem dX2_holds_89 : decode cX2_holds 89 = .ok (.invokevirtual 13, 3) := xdc ddX2_holds_0 27 rfl
theorem dX2_holds_92 : decode cX2_holds 92 = .ok (.ifCond .eq 7, 3) := xdc ddX2_holds_0 28 rfl
theorem dX2_holds_95 : decode cX2_holds 95 = .ok (.iconst 1, 1) := xdc ddX2_holds_0 29 rfl
theorem dX2_holds_96 : decode cX2_holds 96 = .ok (.goto 4, 3) := xdc ddX2_holds_0 30 rfl
theorem dX2_holds_99 : decode cX2_holds 99 = .ok (.iconst 0, 1) := xdc ddX2_holds_0 31 rfl
theorem dX2_holds_100 : decode cX2_holds 100 = .ok (.istore_n 2, 1) := xdc ddX2_holds_0 32 rfl
theorem dX2_holds_101 : decode cX2_holds 101 = .ok (.goto 81, 3) := xdc ddX2_holds_0 33 rfl
theorem dX2_holds_104 : decode cX2_holds 104 = .ok (.aload_n 0, 1) := xdc ddX2_holds_0 34 rfl
theorem dX2_holds_105 : decode cX2_holds 105 = .ok (.sipush 128, 3) := xdc ddX2_holds_0 35 rfl
theorem dX2_holds_108 : decode cX2_holds 108 = .ok (.invokevirtual 13, 3) := xdc ddX2_holds_0 36 rfl
theorem dX2_holds_111 : decode cX2_holds 111 = .ok (.istore_n 2, 1) := xdc ddX2_holds_0 37 rfl
theorem dX2_holds_112 : decode cX2_holds 112 = .ok (.goto 70, 3) := xdc ddX2_holds_0 38 rfl
theorem dX2_holds_115 : decode cX2_holds 115 = .ok (.aload_n 0, 1) := xdc ddX2_holds_0 39 rfl
theorem ddX2_holds_1 : xdec cX2_holds [(116, (.iconst 4, 1)), (117, (.invokevirtual 13, 3)), (120, (.istore_n 2, 1)), (121, (.goto 61, 3)), (124, (.aload_n 0, 1)), (125, (.sipush 128, 3)), (128, (.invokevirtual 13, 3)), (131, (.aload_n 0, 1)), (132, (.sipush 2048, 3)), (135, (.invokevirtual 13, 3)), (138, (.if_icmp .eq 7, 3)), (141, (.iconst 1, 1)), (142, (.goto 4, 3)), (145, (.iconst 0, 1)), (146, (.istore_n 2, 1)), (147, (.goto 35, 3)), (150, (.aload_n 0, 1)), (151, (.bipush 64, 2)), (153, (.invokevirtual 13, 3)), (156, (.ifCond .ne 20, 3)), (159, (.aload_n 0, 1)), (160, (.sipush 128, 3)), (163, (.invokevirtual 13, 3)), (166, (.aload_n 0, 1)), (167, (.sipush 2048, 3)), (170, (.invokevirtual 13, 3)), (173, (.if_icmp .eq 7, 3)), (176, (.iconst 1, 1)), (177, (.goto 4, 3)), (180, (.iconst 0, 1)), (181, (.istore_n 2, 1)), (182, (.iload_n 2, 1)), (183, (.iload_n 1, 1)), (184, (.iconst 1, 1)), (185, (.iand, 1)), (186, (.ifCond .ne 7, 3)), (189, (.iconst 1, 1)), (190, (.goto 4, 3)), (193, (.iconst 0, 1)), (194, (.if_icmp .ne 7, 3))] = true := by decide +kernel
theorem dX2_holds_116 : decode cX2_holds 116 = .ok (.iconst 4, 1) := xdc ddX2_holds_1 0 rfl
theorem dX2_holds_117 : decode cX2_holds 117 = .ok (.invokevirtual 13, 3) := xdc ddX2_holds_1 1 rfl
theorem dX2_holds_120 : decode cX2_holds 120 = .ok (.istore_n 2, 1) := xdc ddX2_holds_1 2 rfl
theorem dX2_holds_121 : decode cX2_holds 121 = .ok (.goto 61, 3) := xdc ddX2_holds_1 3 rfl
theorem dX2_holds_124 : decode cX2_holds 124 = .ok (.aload_n 0, 1) := xdc ddX2_holds_1 4 rfl
theorem dX2_holds_125 : decode cX2_holds 125 = .ok (.sipush 128, 3) := xdc ddX2_holds_1 5 rfl
theorem dX2_holds_128 : decode cX2_holds 128 = .ok (.invokevirtual 13, 3) := xdc ddX2_holds_1 6 rfl
theorem dX2_holds_131 : decode cX2_holds 131 = .ok (.aload_n 0, 1) := xdc ddX2_holds_1 7 rfl
theorem dX2_holds_132 : decode cX2_holds 132 = .ok (.sipush 2048, 3) := xdc ddX2_holds_1 8 rfl
theorem dX2_holds_135 : decode cX2_holds 135 = .ok (.invokevirtual 13, 3) := xdc ddX2_holds_1 9 rfl
theorem dX2_holds_138 : decode cX2_holds 138 = .ok (.if_icmp .eq 7, 3) := xdc ddX2_holds_1 10 rfl
theorem dX2_holds_141 : decode cX2_holds 141 = .ok (.iconst 1, 1) := xdc ddX2_holds_1 11 rfl
theorem dX2_holds_142 : decode cX2_holds 142 = .ok (.goto 4, 3) := xdc ddX2_holds_1 12 rfl
theorem dX2_holds_145 : decode cX2_holds 145 = .ok (.iconst 0, 1) := xdc ddX2_holds_1 13 rfl
theorem dX2_holds_146 : decode cX2_holds 146 = .ok (.istore_n 2, 1) := xdc ddX2_holds_1 14 rfl
theorem dX2_holds_147 : decode cX2_holds 147 = .ok (.goto 35, 3) := xdc ddX2_holds_1 15 rfl
theorem dX2_holds_150 : decode cX2_holds 150 = .ok (.aload_n 0, 1) := xdc ddX2_holds_1 16 rfl
theorem dX2_holds_151 : decode cX2_holds 151 = .ok (.bipush 64, 2) := xdc ddX2_holds_1 17 rfl
theorem dX2_holds_153 : decode cX2_holds 153 = .ok (.invokevirtual 13, 3) := xdc ddX2_holds_1 18 rfl
theorem dX2_holds_156 : decode cX2_holds 156 = .ok (.ifCond .ne 20, 3) := xdc ddX2_holds_1 19 rfl
theorem dX2_holds_159 : decode cX2_holds 159 = .ok (.aload_n 0, 1) := xdc ddX2_holds_1 20 rfl
theorem dX2_holds_160 : decode cX2_holds 160 = .ok (.sipush 128, 3) := xdc ddX2_holds_1 21 rfl
theorem dX2_holds_163 : decode cX2_holds 163 = .ok (.invokevirtual 13, 3) := xdc ddX2_holds_1 22 rfl
theorem dX2_holds_166 : decode cX2_holds 166 = .ok (.aload_n 0, 1) := xdc ddX2_holds_1 23 rfl
theorem dX2_holds_167 : decode cX2_holds 167 = .ok (.sipush 2048, 3) := xdc ddX2_holds_1 24 rfl
theorem dX2_holds_170 : decode cX2_holds 170 = .ok (.invokevirtual 13, 3) := xdc ddX2_holds_1 25 rfl
theorem dX2_holds_173 : decode cX2_holds 173 = .ok (.if_icmp .eq 7, 3) := xdc ddX2_holds_1 26 rfl
theorem dX2_holds_176 : decode cX2_holds 176 = .ok (.iconst 1, 1) := xdc ddX2_holds_1 27 rfl
theorem dX2_holds_177 : decode cX2_holds 177 = .ok (.goto 4, 3) := xdc ddX2_holds_1 28 rfl
theorem dX2_holds_180 : decode cX2_holds 180 = .ok (.iconst 0, 1) := xdc ddX2_holds_1 29 rfl
theorem dX2_holds_181 : decode cX2_holds 181 = .ok (.istore_n 2, 1) := xdc ddX2_holds_1 30 rfl
theorem dX2_holds_182 : decode cX2_holds 182 = .ok (.iload_n 2, 1) := xdc ddX2_holds_1 31 rfl
theorem dX2_holds_183 : decode cX2_holds 183 = .ok (.iload_n 1, 1) := xdc ddX2_holds_1 32 rfl
theorem dX2_holds_184 : decode cX2_holds 184 = .ok (.iconst 1, 1) := xdc ddX2_holds_1 33 rfl
theorem dX2_holds_185 : decode cX2_holds 185 = .ok (.iand, 1) := xdc ddX2_holds_1 34 rfl
theorem dX2_holds_186 : decode cX2_holds 186 = .ok (.ifCond .ne 7, 3) := xdc ddX2_holds_1 35 rfl
theorem dX2_holds_189 : decode cX2_holds 189 = .ok (.iconst 1, 1) := xdc ddX2_holds_1 36 rfl
theorem dX2_holds_190 : decode cX2_holds 190 = .ok (.goto 4, 3) := xdc ddX2_holds_1 37 rfl
theorem dX2_holds_193 : decode cX2_holds 193 = .ok (.iconst 0, 1) := xdc ddX2_holds_1 38 rfl
theorem dX2_holds_194 : decode cX2_holds 194 = .ok (.if_icmp .ne 7, 3) := xdc ddX2_holds_1 39 rfl
theorem ddX2_holds_2 : xdec cX2_holds [(197, (.iconst 1, 1)), (198, (.goto 4, 3)), (201, (.iconst 0, 1)), (202, (.ireturn, 1))] = true := by decide +kernel
theorem dX2_holds_197 : decode cX2_holds 197 = .ok (.iconst 1, 1) := xdc ddX2_holds_2 0 rfl
theorem dX2_holds_198 : decode cX2_holds 198 = .ok (.goto 4, 3) := xdc ddX2_holds_2 1 rfl
theorem dX2_holds_201 : decode cX2_holds 201 = .ok (.iconst 0, 1) := xdc ddX2_holds_2 2 rfl
theorem dX2_holds_202 : decode cX2_holds 202 = .ok (.ireturn, 1) := xdc ddX2_holds_2 3 rfl
abbrev cX11_topOf : ByteArray := prog_1_method_27_code
theorem ddX11_topOf_0 : xdec cX11_topOf [(0, (.iload_n 0, 1)), (1, (.iconst 1, 1)), (2, (.if_icmp .ne 7, 3)), (5, (.sipush 128, 3)), (8, (.ireturn, 1)), (9, (.iload_n 0, 1)), (10, (.iconst 2, 1)), (11, (.if_icmp .ne 8, 3)), (14, (.ldc 235, 2)), (16, (.goto 5, 3)), (19, (.ldc 236, 2)), (21, (.ireturn, 1))] = true := by decide +kernel
theorem dX11_topOf_0 : decode cX11_topOf 0 = .ok (.iload_n 0, 1) := xdc ddX11_topOf_0 0 rfl
theorem dX11_topOf_1 : decode cX11_topOf 1 = .ok (.iconst 1, 1) := xdc ddX11_topOf_0 1 rfl
theorem dX11_topOf_2 : decode cX11_topOf 2 = .ok (.if_icmp .ne 7, 3) := xdc ddX11_topOf_0 2 rfl
theorem dX11_topOf_5 : decode cX11_topOf 5 = .ok (.sipush 128, 3) := xdc ddX11_topOf_0 3 rfl
theorem dX11_topOf_8 : decode cX11_topOf 8 = .ok (.ireturn, 1) := xdc ddX11_topOf_0 4 rfl
theorem dX11_topOf_9 : decode cX11_topOf 9 = .ok (.iload_n 0, 1) := xdc ddX11_topOf_0 5 rfl
theorem dX11_topOf_10 : decode cX11_topOf 10 = .ok (.iconst 2, 1) := xdc ddX11_topOf_0 6 rfl
theorem dX11_topOf_11 : decode cX11_topOf 11 = .ok (.if_icmp .ne 8, 3) := xdc ddX11_topOf_0 7 rfl
theorem dX11_topOf_14 : decode cX11_topOf 14 = .ok (.ldc 235, 2) := xdc ddX11_topOf_0 8 rfl
theorem dX11_topOf_16 : decode cX11_topOf 16 = .ok (.goto 5, 3) := xdc ddX11_topOf_0 9 rfl
theorem dX11_topOf_19 : decode cX11_topOf 19 = .ok (.ldc 236, 2) := xdc ddX11_topOf_0 10 rfl
theorem dX11_topOf_21 : decode cX11_topOf 21 = .ok (.ireturn, 1) := xdc ddX11_topOf_0 11 rfl
abbrev cJ6_bitCount_0f7a4 : ByteArray := prog_23_method_49_code
theorem ddJ6_bitCount_0f7a4_0 : xdec cJ6_bitCount_0f7a4 [(0, (.iload_n 0, 1)), (1, (.iload_n 0, 1)), (2, (.iconst 1, 1)), (3, (.iushr, 1)), (4, (.ldc_w 265, 3)), (7, (.iand, 1)), (8, (.isub, 1)), (9, (.istore_n 0, 1)), (10, (.iload_n 0, 1)), (11, (.ldc_w 266, 3)), (14, (.iand, 1)), (15, (.iload_n 0, 1)), (16, (.iconst 2, 1)), (17, (.iushr, 1)), (18, (.ldc_w 266, 3)), (21, (.iand, 1)), (22, (.iadd, 1)), (23, (.istore_n 0, 1)), (24, (.iload_n 0, 1)), (25, (.iload_n 0, 1)), (26, (.iconst 4, 1)), (27, (.iushr, 1)), (28, (.iadd, 1)), (29, (.ldc_w 267, 3)), (32, (.iand, 1)), (33, (.istore_n 0, 1)), (34, (.iload_n 0, 1)), (35, (.iload_n 0, 1)), (36, (.bipush 8, 2)), (38, (.iushr, 1)), (39, (.iadd, 1)), (40, (.istore_n 0, 1)), (41, (.iload_n 0, 1)), (42, (.iload_n 0, 1)), (43, (.bipush 16, 2)), (45, (.iushr, 1)), (46, (.iadd, 1)), (47, (.istore_n 0, 1)), (48, (.iload_n 0, 1)), (49, (.bipush 63, 2))] = true := by decide +kernel
theorem dJ6_bitCount_0f7a4_0 : decode cJ6_bitCount_0f7a4 0 = .ok (.iload_n 0, 1) := xdc ddJ6_bitCount_0f7a4_0 0 rfl
theorem dJ6_bitCount_0f7a4_1 : decode cJ6_bitCount_0f7a4 1 = .ok (.iload_n 0, 1) := xdc ddJ6_bitCount_0f7a4_0 1 rfl
theorem dJ6_bitCount_0f7a4_2 : decode cJ6_bitCount_0f7a4 2 = .ok (.iconst 1, 1) := xdc ddJ6_bitCount_0f7a4_0 2 rfl
theorem dJ6_bitCount_0f7a4_3 : decode cJ6_bitCount_0f7a4 3 = .ok (.iushr, 1) := xdc ddJ6_bitCount_0f7a4_0 3 rfl
theorem dJ6_bitCount_0f7a4_4 : decode cJ6_bitCount_0f7a4 4 = .ok (.ldc_w 265, 3) := xdc ddJ6_bitCount_0f7a4_0 4 rfl
theorem dJ6_bitCount_0f7a4_7 : decode cJ6_bitCount_0f7a4 7 = .ok (.iand, 1) := xdc ddJ6_bitCount_0f7a4_0 5 rfl
theorem dJ6_bitCount_0f7a4_8 : decode cJ6_bitCount_0f7a4 8 = .ok (.isub, 1) := xdc ddJ6_bitCount_0f7a4_0 6 rfl
theorem dJ6_bitCount_0f7a4_9 : decode cJ6_bitCount_0f7a4 9 = .ok (.istore_n 0, 1) := xdc ddJ6_bitCount_0f7a4_0 7 rfl
theorem dJ6_bitCount_0f7a4_10 : decode cJ6_bitCount_0f7a4 10 = .ok (.iload_n 0, 1) := xdc ddJ6_bitCount_0f7a4_0 8 rfl
theorem dJ6_bitCount_0f7a4_11 : decode cJ6_bitCount_0f7a4 11 = .ok (.ldc_w 266, 3) := xdc ddJ6_bitCount_0f7a4_0 9 rfl
theorem dJ6_bitCount_0f7a4_14 : decode cJ6_bitCount_0f7a4 14 = .ok (.iand, 1) := xdc ddJ6_bitCount_0f7a4_0 10 rfl
theorem dJ6_bitCount_0f7a4_15 : decode cJ6_bitCount_0f7a4 15 = .ok (.iload_n 0, 1) := xdc ddJ6_bitCount_0f7a4_0 11 rfl
theorem dJ6_bitCount_0f7a4_16 : decode cJ6_bitCount_0f7a4 16 = .ok (.iconst 2, 1) := xdc ddJ6_bitCount_0f7a4_0 12 rfl
theorem dJ6_bitCount_0f7a4_17 : decode cJ6_bitCount_0f7a4 17 = .ok (.iushr, 1) := xdc ddJ6_bitCount_0f7a4_0 13 rfl
theorem dJ6_bitCount_0f7a4_18 : decode cJ6_bitCount_0f7a4 18 = .ok (.ldc_w 266, 3) := xdc ddJ6_bitCount_0f7a4_0 14 rfl
theorem dJ6_bitCount_0f7a4_21 : decode cJ6_bitCount_0f7a4 21 = .ok (.iand, 1) := xdc ddJ6_bitCount_0f7a4_0 15 rfl
theorem dJ6_bitCount_0f7a4_22 : decode cJ6_bitCount_0f7a4 22 = .ok (.iadd, 1) := xdc ddJ6_bitCount_0f7a4_0 16 rfl
theorem dJ6_bitCount_0f7a4_23 : decode cJ6_bitCount_0f7a4 23 = .ok (.istore_n 0, 1) := xdc ddJ6_bitCount_0f7a4_0 17 rfl
theorem dJ6_bitCount_0f7a4_24 : decode cJ6_bitCount_0f7a4 24 = .ok (.iload_n 0, 1) := xdc ddJ6_bitCount_0f7a4_0 18 rfl
theorem dJ6_bitCount_0f7a4_25 : decode cJ6_bitCount_0f7a4 25 = .ok (.iload_n 0, 1) := xdc ddJ6_bitCount_0f7a4_0 19 rfl
theorem dJ6_bitCount_0f7a4_26 : decode cJ6_bitCount_0f7a4 26 = .ok (.iconst 4, 1) := xdc ddJ6_bitCount_0f7a4_0 20 rfl
theorem dJ6_bitCount_0f7a4_27 : decode cJ6_bitCount_0f7a4 27 = .ok (.iushr, 1) := xdc ddJ6_bitCount_0f7a4_0 21 rfl
theorem dJ6_bitCount_0f7a4_28 : decode cJ6_bitCount_0f7a4 28 = .ok (.iadd, 1) := xdc ddJ6_bitCount_0f7a4_0 22 rfl
theorem dJ6_bitCount_0f7a4_29 : decode cJ6_bitCount_0f7a4 29 = .ok (.ldc_w 267, 3) := xdc ddJ6_bitCount_0f7a4_0 23 rfl
theorem dJ6_bitCount_0f7a4_32 : decode cJ6_bitCount_0f7a4 32 = .ok (.iand, 1) := xdc ddJ6_bitCount_0f7a4_0 24 rfl
theorem dJ6_bitCount_0f7a4_33 : decode cJ6_bitCount_0f7a4 33 = .ok (.istore_n 0, 1) := xdc ddJ6_bitCount_0f7a4_0 25 rfl
theorem dJ6_bitCount_0f7a4_34 : decode cJ6_bitCount_0f7a4 34 = .ok (.iload_n 0, 1) := xdc ddJ6_bitCount_0f7a4_0 26 rfl
theorem dJ6_bitCount_0f7a4_35 : decode cJ6_bitCount_0f7a4 35 = .ok (.iload_n 0, 1) := xdc ddJ6_bitCount_0f7a4_0 27 rfl
theorem dJ6_bitCount_0f7a4_36 : decode cJ6_bitCount_0f7a4 36 = .ok (.bipush 8, 2) := xdc ddJ6_bitCount_0f7a4_0 28 rfl
theorem dJ6_bitCount_0f7a4_38 : decode cJ6_bitCount_0f7a4 38 = .ok (.iushr, 1) := xdc ddJ6_bitCount_0f7a4_0 29 rfl
theorem dJ6_bitCount_0f7a4_39 : decode cJ6_bitCount_0f7a4 39 = .ok (.iadd, 1) := xdc ddJ6_bitCount_0f7a4_0 30 rfl
theorem dJ6_bitCount_0f7a4_40 : decode cJ6_bitCount_0f7a4 40 = .ok (.istore_n 0, 1) := xdc ddJ6_bitCount_0f7a4_0 31 rfl
theorem dJ6_bitCount_0f7a4_41 : decode cJ6_bitCount_0f7a4 41 = .ok (.iload_n 0, 1) := xdc ddJ6_bitCount_0f7a4_0 32 rfl
theorem dJ6_bitCount_0f7a4_42 : decode cJ6_bitCount_0f7a4 42 = .ok (.iload_n 0, 1) := xdc ddJ6_bitCount_0f7a4_0 33 rfl
theorem dJ6_bitCount_0f7a4_43 : decode cJ6_bitCount_0f7a4 43 = .ok (.bipush 16, 2) := xdc ddJ6_bitCount_0f7a4_0 34 rfl
theorem dJ6_bitCount_0f7a4_45 : decode cJ6_bitCount_0f7a4 45 = .ok (.iushr, 1) := xdc ddJ6_bitCount_0f7a4_0 35 rfl
theorem dJ6_bitCount_0f7a4_46 : decode cJ6_bitCount_0f7a4 46 = .ok (.iadd, 1) := xdc ddJ6_bitCount_0f7a4_0 36 rfl
theorem dJ6_bitCount_0f7a4_47 : decode cJ6_bitCount_0f7a4 47 = .ok (.istore_n 0, 1) := xdc ddJ6_bitCount_0f7a4_0 37 rfl
theorem dJ6_bitCount_0f7a4_48 : decode cJ6_bitCount_0f7a4 48 = .ok (.iload_n 0, 1) := xdc ddJ6_bitCount_0f7a4_0 38 rfl
theorem dJ6_bitCount_0f7a4_49 : decode cJ6_bitCount_0f7a4 49 = .ok (.bipush 63, 2) := xdc ddJ6_bitCount_0f7a4_0 39 rfl
theorem ddJ6_bitCount_0f7a4_1 : xdec cJ6_bitCount_0f7a4 [(51, (.iand, 1)), (52, (.ireturn, 1))] = true := by decide +kernel
theorem dJ6_bitCount_0f7a4_51 : decode cJ6_bitCount_0f7a4 51 = .ok (.iand, 1) := xdc ddJ6_bitCount_0f7a4_1 0 rfl
theorem dJ6_bitCount_0f7a4_52 : decode cJ6_bitCount_0f7a4 52 = .ok (.ireturn, 1) := xdc ddJ6_bitCount_0f7a4_1 1 rfl
abbrev cX2_tellResult : ByteArray := prog_4_method_5_code
theorem ddX2_tellResult_0 : xdec cX2_tellResult [(0, (.iload_n 1, 1)), (1, (.ifCond .ne 8, 3)), (4, (.bipush 64, 2)), (6, (.goto 4, 3)), (9, (.iconst 0, 1)), (10, (.istore_n 3, 1)), (11, (.iload_n 3, 1)), (12, (.iload_n 1, 1)), (13, (.iload_n 2, 1)), (14, (.invokestatic 17, 3)), (17, (.iand, 1)), (18, (.ifCond .eq 9, 3)), (21, (.sipush 128, 3)), (24, (.goto 4, 3)), (27, (.iconst 0, 1)), (28, (.ior, 1)), (29, (.istore_n 3, 1)), (30, (.iload_n 3, 1)), (31, (.iload_n 1, 1)), (32, (.sipush 255, 3)), (35, (.iand, 1)), (36, (.invokestatic 23, 3)), (39, (.iconst 1, 1)), (40, (.iand, 1)), (41, (.ifCond .ne 7, 3)), (44, (.iconst 4, 1)), (45, (.goto 4, 3)), (48, (.iconst 0, 1)), (49, (.ior, 1)), (50, (.istore_n 3, 1)), (51, (.aload_n 0, 1)), (52, (.aload_n 0, 1)), (53, (.getfield 7, 3)), (56, (.sipush (-197), 3)), (59, (.iand, 1)), (60, (.iload_n 3, 1)), (61, (.ior, 1)), (62, (.putfield 7, 3)), (65, (.return_, 1))] = true := by decide +kernel
theorem dX2_tellResult_0 : decode cX2_tellResult 0 = .ok (.iload_n 1, 1) := xdc ddX2_tellResult_0 0 rfl
theorem dX2_tellResult_1 : decode cX2_tellResult 1 = .ok (.ifCond .ne 8, 3) := xdc ddX2_tellResult_0 1 rfl
theorem dX2_tellResult_4 : decode cX2_tellResult 4 = .ok (.bipush 64, 2) := xdc ddX2_tellResult_0 2 rfl
theorem dX2_tellResult_6 : decode cX2_tellResult 6 = .ok (.goto 4, 3) := xdc ddX2_tellResult_0 3 rfl
theorem dX2_tellResult_9 : decode cX2_tellResult 9 = .ok (.iconst 0, 1) := xdc ddX2_tellResult_0 4 rfl
theorem dX2_tellResult_10 : decode cX2_tellResult 10 = .ok (.istore_n 3, 1) := xdc ddX2_tellResult_0 5 rfl
theorem dX2_tellResult_11 : decode cX2_tellResult 11 = .ok (.iload_n 3, 1) := xdc ddX2_tellResult_0 6 rfl
theorem dX2_tellResult_12 : decode cX2_tellResult 12 = .ok (.iload_n 1, 1) := xdc ddX2_tellResult_0 7 rfl
theorem dX2_tellResult_13 : decode cX2_tellResult 13 = .ok (.iload_n 2, 1) := xdc ddX2_tellResult_0 8 rfl
theorem dX2_tellResult_14 : decode cX2_tellResult 14 = .ok (.invokestatic 17, 3) := xdc ddX2_tellResult_0 9 rfl
theorem dX2_tellResult_17 : decode cX2_tellResult 17 = .ok (.iand, 1) := xdc ddX2_tellResult_0 10 rfl
theorem dX2_tellResult_18 : decode cX2_tellResult 18 = .ok (.ifCond .eq 9, 3) := xdc ddX2_tellResult_0 11 rfl
theorem dX2_tellResult_21 : decode cX2_tellResult 21 = .ok (.sipush 128, 3) := xdc ddX2_tellResult_0 12 rfl
theorem dX2_tellResult_24 : decode cX2_tellResult 24 = .ok (.goto 4, 3) := xdc ddX2_tellResult_0 13 rfl
theorem dX2_tellResult_27 : decode cX2_tellResult 27 = .ok (.iconst 0, 1) := xdc ddX2_tellResult_0 14 rfl
theorem dX2_tellResult_28 : decode cX2_tellResult 28 = .ok (.ior, 1) := xdc ddX2_tellResult_0 15 rfl
theorem dX2_tellResult_29 : decode cX2_tellResult 29 = .ok (.istore_n 3, 1) := xdc ddX2_tellResult_0 16 rfl
theorem dX2_tellResult_30 : decode cX2_tellResult 30 = .ok (.iload_n 3, 1) := xdc ddX2_tellResult_0 17 rfl
theorem dX2_tellResult_31 : decode cX2_tellResult 31 = .ok (.iload_n 1, 1) := xdc ddX2_tellResult_0 18 rfl
theorem dX2_tellResult_32 : decode cX2_tellResult 32 = .ok (.sipush 255, 3) := xdc ddX2_tellResult_0 19 rfl
theorem dX2_tellResult_35 : decode cX2_tellResult 35 = .ok (.iand, 1) := xdc ddX2_tellResult_0 20 rfl
theorem dX2_tellResult_36 : decode cX2_tellResult 36 = .ok (.invokestatic 23, 3) := xdc ddX2_tellResult_0 21 rfl
theorem dX2_tellResult_39 : decode cX2_tellResult 39 = .ok (.iconst 1, 1) := xdc ddX2_tellResult_0 22 rfl
theorem dX2_tellResult_40 : decode cX2_tellResult 40 = .ok (.iand, 1) := xdc ddX2_tellResult_0 23 rfl
theorem dX2_tellResult_41 : decode cX2_tellResult 41 = .ok (.ifCond .ne 7, 3) := xdc ddX2_tellResult_0 24 rfl
theorem dX2_tellResult_44 : decode cX2_tellResult 44 = .ok (.iconst 4, 1) := xdc ddX2_tellResult_0 25 rfl
theorem dX2_tellResult_45 : decode cX2_tellResult 45 = .ok (.goto 4, 3) := xdc ddX2_tellResult_0 26 rfl
theorem dX2_tellResult_48 : decode cX2_tellResult 48 = .ok (.iconst 0, 1) := xdc ddX2_tellResult_0 27 rfl
theorem dX2_tellResult_49 : decode cX2_tellResult 49 = .ok (.ior, 1) := xdc ddX2_tellResult_0 28 rfl
theorem dX2_tellResult_50 : decode cX2_tellResult 50 = .ok (.istore_n 3, 1) := xdc ddX2_tellResult_0 29 rfl
theorem dX2_tellResult_51 : decode cX2_tellResult 51 = .ok (.aload_n 0, 1) := xdc ddX2_tellResult_0 30 rfl
theorem dX2_tellResult_52 : decode cX2_tellResult 52 = .ok (.aload_n 0, 1) := xdc ddX2_tellResult_0 31 rfl
theorem dX2_tellResult_53 : decode cX2_tellResult 53 = .ok (.getfield 7, 3) := xdc ddX2_tellResult_0 32 rfl
theorem dX2_tellResult_56 : decode cX2_tellResult 56 = .ok (.sipush (-197), 3) := xdc ddX2_tellResult_0 33 rfl
theorem dX2_tellResult_59 : decode cX2_tellResult 59 = .ok (.iand, 1) := xdc ddX2_tellResult_0 34 rfl
theorem dX2_tellResult_60 : decode cX2_tellResult 60 = .ok (.iload_n 3, 1) := xdc ddX2_tellResult_0 35 rfl
theorem dX2_tellResult_61 : decode cX2_tellResult 61 = .ok (.ior, 1) := xdc ddX2_tellResult_0 36 rfl
theorem dX2_tellResult_62 : decode cX2_tellResult 62 = .ok (.putfield 7, 3) := xdc ddX2_tellResult_0 37 rfl
theorem dX2_tellResult_65 : decode cX2_tellResult 65 = .ok (.return_, 1) := xdc ddX2_tellResult_0 38 rfl
abbrev cX2_tellCarry : ByteArray := prog_4_method_6_code
theorem ddX2_tellCarry_0 : xdec cX2_tellCarry [(0, (.aload_n 0, 1)), (1, (.aload_n 0, 1)), (2, (.getfield 7, 3)), (5, (.sipush (-2050), 3)), (8, (.iand, 1)), (9, (.iload_n 1, 1)), (10, (.ifCond .eq 7, 3)), (13, (.iconst 1, 1)), (14, (.goto 4, 3)), (17, (.iconst 0, 1)), (18, (.ior, 1)), (19, (.iload_n 2, 1)), (20, (.ifCond .eq 9, 3)), (23, (.sipush 2048, 3)), (26, (.goto 4, 3)), (29, (.iconst 0, 1)), (30, (.ior, 1)), (31, (.putfield 7, 3)), (34, (.return_, 1))] = true := by decide +kernel
theorem dX2_tellCarry_0 : decode cX2_tellCarry 0 = .ok (.aload_n 0, 1) := xdc ddX2_tellCarry_0 0 rfl
theorem dX2_tellCarry_1 : decode cX2_tellCarry 1 = .ok (.aload_n 0, 1) := xdc ddX2_tellCarry_0 1 rfl
theorem dX2_tellCarry_2 : decode cX2_tellCarry 2 = .ok (.getfield 7, 3) := xdc ddX2_tellCarry_0 2 rfl
theorem dX2_tellCarry_5 : decode cX2_tellCarry 5 = .ok (.sipush (-2050), 3) := xdc ddX2_tellCarry_0 3 rfl
theorem dX2_tellCarry_8 : decode cX2_tellCarry 8 = .ok (.iand, 1) := xdc ddX2_tellCarry_0 4 rfl
theorem dX2_tellCarry_9 : decode cX2_tellCarry 9 = .ok (.iload_n 1, 1) := xdc ddX2_tellCarry_0 5 rfl
theorem dX2_tellCarry_10 : decode cX2_tellCarry 10 = .ok (.ifCond .eq 7, 3) := xdc ddX2_tellCarry_0 6 rfl
theorem dX2_tellCarry_13 : decode cX2_tellCarry 13 = .ok (.iconst 1, 1) := xdc ddX2_tellCarry_0 7 rfl
theorem dX2_tellCarry_14 : decode cX2_tellCarry 14 = .ok (.goto 4, 3) := xdc ddX2_tellCarry_0 8 rfl
theorem dX2_tellCarry_17 : decode cX2_tellCarry 17 = .ok (.iconst 0, 1) := xdc ddX2_tellCarry_0 9 rfl
theorem dX2_tellCarry_18 : decode cX2_tellCarry 18 = .ok (.ior, 1) := xdc ddX2_tellCarry_0 10 rfl
theorem dX2_tellCarry_19 : decode cX2_tellCarry 19 = .ok (.iload_n 2, 1) := xdc ddX2_tellCarry_0 11 rfl
theorem dX2_tellCarry_20 : decode cX2_tellCarry 20 = .ok (.ifCond .eq 9, 3) := xdc ddX2_tellCarry_0 12 rfl
theorem dX2_tellCarry_23 : decode cX2_tellCarry 23 = .ok (.sipush 2048, 3) := xdc ddX2_tellCarry_0 13 rfl
theorem dX2_tellCarry_26 : decode cX2_tellCarry 26 = .ok (.goto 4, 3) := xdc ddX2_tellCarry_0 14 rfl
theorem dX2_tellCarry_29 : decode cX2_tellCarry 29 = .ok (.iconst 0, 1) := xdc ddX2_tellCarry_0 15 rfl
theorem dX2_tellCarry_30 : decode cX2_tellCarry 30 = .ok (.ior, 1) := xdc ddX2_tellCarry_0 16 rfl
theorem dX2_tellCarry_31 : decode cX2_tellCarry 31 = .ok (.putfield 7, 3) := xdc ddX2_tellCarry_0 17 rfl
theorem dX2_tellCarry_34 : decode cX2_tellCarry 34 = .ok (.return_, 1) := xdc ddX2_tellCarry_0 18 rfl
abbrev cX11_maskOf : ByteArray := prog_1_method_26_code
theorem ddX11_maskOf_0 : xdec cX11_maskOf [(0, (.iload_n 0, 1)), (1, (.iconst 1, 1)), (2, (.if_icmp .ne 7, 3)), (5, (.sipush 255, 3)), (8, (.ireturn, 1)), (9, (.iload_n 0, 1)), (10, (.iconst 2, 1)), (11, (.if_icmp .ne 8, 3)), (14, (.ldc 234, 2)), (16, (.goto 4, 3)), (19, (.iconst (-1), 1)), (20, (.ireturn, 1))] = true := by decide +kernel
theorem dX11_maskOf_0 : decode cX11_maskOf 0 = .ok (.iload_n 0, 1) := xdc ddX11_maskOf_0 0 rfl
theorem dX11_maskOf_1 : decode cX11_maskOf 1 = .ok (.iconst 1, 1) := xdc ddX11_maskOf_0 1 rfl
theorem dX11_maskOf_2 : decode cX11_maskOf 2 = .ok (.if_icmp .ne 7, 3) := xdc ddX11_maskOf_0 2 rfl
theorem dX11_maskOf_5 : decode cX11_maskOf 5 = .ok (.sipush 255, 3) := xdc ddX11_maskOf_0 3 rfl
theorem dX11_maskOf_8 : decode cX11_maskOf 8 = .ok (.ireturn, 1) := xdc ddX11_maskOf_0 4 rfl
theorem dX11_maskOf_9 : decode cX11_maskOf 9 = .ok (.iload_n 0, 1) := xdc ddX11_maskOf_0 5 rfl
theorem dX11_maskOf_10 : decode cX11_maskOf 10 = .ok (.iconst 2, 1) := xdc ddX11_maskOf_0 6 rfl
theorem dX11_maskOf_11 : decode cX11_maskOf 11 = .ok (.if_icmp .ne 8, 3) := xdc ddX11_maskOf_0 7 rfl
theorem dX11_maskOf_14 : decode cX11_maskOf 14 = .ok (.ldc 234, 2) := xdc ddX11_maskOf_0 8 rfl
theorem dX11_maskOf_16 : decode cX11_maskOf 16 = .ok (.goto 4, 3) := xdc ddX11_maskOf_0 9 rfl
theorem dX11_maskOf_19 : decode cX11_maskOf 19 = .ok (.iconst (-1), 1) := xdc ddX11_maskOf_0 10 rfl
theorem dX11_maskOf_20 : decode cX11_maskOf 20 = .ok (.ireturn, 1) := xdc ddX11_maskOf_0 11 rfl
abbrev cX11_unsigned : ByteArray := prog_1_method_29_code
theorem ddX11_unsigned_0 : xdec cX11_unsigned [(0, (.iload_n 0, 1)), (1, (.i2l, 1)), (2, (.ldc2_w 237, 3)), (5, (.land, 1)), (6, (.lreturn, 1))] = true := by decide +kernel
theorem dX11_unsigned_0 : decode cX11_unsigned 0 = .ok (.iload_n 0, 1) := xdc ddX11_unsigned_0 0 rfl
theorem dX11_unsigned_1 : decode cX11_unsigned 1 = .ok (.i2l, 1) := xdc ddX11_unsigned_0 1 rfl
theorem dX11_unsigned_2 : decode cX11_unsigned 2 = .ok (.ldc2_w 237, 3) := xdc ddX11_unsigned_0 2 rfl
theorem dX11_unsigned_5 : decode cX11_unsigned 5 = .ok (.land, 1) := xdc ddX11_unsigned_0 3 rfl
theorem dX11_unsigned_6 : decode cX11_unsigned 6 = .ok (.lreturn, 1) := xdc ddX11_unsigned_0 4 rfl
abbrev cX2_add : ByteArray := prog_4_method_8_code
theorem ddX2_add_0 : xdec cX2_add [(0, (.iload 4, 2)), (2, (.invokestatic 51, 3)), (5, (.istore 5, 2)), (7, (.iload_n 1, 1)), (8, (.iload 5, 2)), (10, (.iand, 1)), (11, (.invokestatic 54, 3)), (14, (.iload_n 2, 1)), (15, (.iload 5, 2)), (17, (.iand, 1)), (18, (.invokestatic 54, 3)), (21, (.ladd, 1)), (22, (.iload_n 3, 1)), (23, (.i2l, 1)), (24, (.ladd, 1)), (25, (.lstore 6, 2)), (27, (.lload 6, 2)), (29, (.l2i, 1)), (30, (.iload 5, 2)), (32, (.iand, 1)), (33, (.istore 8, 2)), (35, (.aload_n 0, 1)), (36, (.iload 8, 2)), (38, (.iload 4, 2)), (40, (.invokevirtual 58, 3)), (43, (.aload_n 0, 1)), (44, (.lload 6, 2)), (46, (.iload 5, 2)), (48, (.invokestatic 54, 3)), (51, (.lcmp, 1)), (52, (.ifCond .le 7, 3)), (55, (.iconst 1, 1)), (56, (.goto 4, 3)), (59, (.iconst 0, 1)), (60, (.iload_n 1, 1)), (61, (.iload 8, 2)), (63, (.ixor, 1)), (64, (.iload_n 2, 1)), (65, (.iload 8, 2)), (67, (.ixor, 1))] = true := by decide +kernel
theorem dX2_add_0 : decode cX2_add 0 = .ok (.iload 4, 2) := xdc ddX2_add_0 0 rfl
theorem dX2_add_2 : decode cX2_add 2 = .ok (.invokestatic 51, 3) := xdc ddX2_add_0 1 rfl
theorem dX2_add_5 : decode cX2_add 5 = .ok (.istore 5, 2) := xdc ddX2_add_0 2 rfl
theorem dX2_add_7 : decode cX2_add 7 = .ok (.iload_n 1, 1) := xdc ddX2_add_0 3 rfl
theorem dX2_add_8 : decode cX2_add 8 = .ok (.iload 5, 2) := xdc ddX2_add_0 4 rfl
theorem dX2_add_10 : decode cX2_add 10 = .ok (.iand, 1) := xdc ddX2_add_0 5 rfl
theorem dX2_add_11 : decode cX2_add 11 = .ok (.invokestatic 54, 3) := xdc ddX2_add_0 6 rfl
theorem dX2_add_14 : decode cX2_add 14 = .ok (.iload_n 2, 1) := xdc ddX2_add_0 7 rfl
theorem dX2_add_15 : decode cX2_add 15 = .ok (.iload 5, 2) := xdc ddX2_add_0 8 rfl
theorem dX2_add_17 : decode cX2_add 17 = .ok (.iand, 1) := xdc ddX2_add_0 9 rfl
theorem dX2_add_18 : decode cX2_add 18 = .ok (.invokestatic 54, 3) := xdc ddX2_add_0 10 rfl
theorem dX2_add_21 : decode cX2_add 21 = .ok (.ladd, 1) := xdc ddX2_add_0 11 rfl
theorem dX2_add_22 : decode cX2_add 22 = .ok (.iload_n 3, 1) := xdc ddX2_add_0 12 rfl
theorem dX2_add_23 : decode cX2_add 23 = .ok (.i2l, 1) := xdc ddX2_add_0 13 rfl
theorem dX2_add_24 : decode cX2_add 24 = .ok (.ladd, 1) := xdc ddX2_add_0 14 rfl
theorem dX2_add_25 : decode cX2_add 25 = .ok (.lstore 6, 2) := xdc ddX2_add_0 15 rfl
theorem dX2_add_27 : decode cX2_add 27 = .ok (.lload 6, 2) := xdc ddX2_add_0 16 rfl
theorem dX2_add_29 : decode cX2_add 29 = .ok (.l2i, 1) := xdc ddX2_add_0 17 rfl
theorem dX2_add_30 : decode cX2_add 30 = .ok (.iload 5, 2) := xdc ddX2_add_0 18 rfl
theorem dX2_add_32 : decode cX2_add 32 = .ok (.iand, 1) := xdc ddX2_add_0 19 rfl
theorem dX2_add_33 : decode cX2_add 33 = .ok (.istore 8, 2) := xdc ddX2_add_0 20 rfl
theorem dX2_add_35 : decode cX2_add 35 = .ok (.aload_n 0, 1) := xdc ddX2_add_0 21 rfl
theorem dX2_add_36 : decode cX2_add 36 = .ok (.iload 8, 2) := xdc ddX2_add_0 22 rfl
theorem dX2_add_38 : decode cX2_add 38 = .ok (.iload 4, 2) := xdc ddX2_add_0 23 rfl
theorem dX2_add_40 : decode cX2_add 40 = .ok (.invokevirtual 58, 3) := xdc ddX2_add_0 24 rfl
theorem dX2_add_43 : decode cX2_add 43 = .ok (.aload_n 0, 1) := xdc ddX2_add_0 25 rfl
theorem dX2_add_44 : decode cX2_add 44 = .ok (.lload 6, 2) := xdc ddX2_add_0 26 rfl
theorem dX2_add_46 : decode cX2_add 46 = .ok (.iload 5, 2) := xdc ddX2_add_0 27 rfl
theorem dX2_add_48 : decode cX2_add 48 = .ok (.invokestatic 54, 3) := xdc ddX2_add_0 28 rfl
theorem dX2_add_51 : decode cX2_add 51 = .ok (.lcmp, 1) := xdc ddX2_add_0 29 rfl
theorem dX2_add_52 : decode cX2_add 52 = .ok (.ifCond .le 7, 3) := xdc ddX2_add_0 30 rfl
theorem dX2_add_55 : decode cX2_add 55 = .ok (.iconst 1, 1) := xdc ddX2_add_0 31 rfl
theorem dX2_add_56 : decode cX2_add 56 = .ok (.goto 4, 3) := xdc ddX2_add_0 32 rfl
theorem dX2_add_59 : decode cX2_add 59 = .ok (.iconst 0, 1) := xdc ddX2_add_0 33 rfl
theorem dX2_add_60 : decode cX2_add 60 = .ok (.iload_n 1, 1) := xdc ddX2_add_0 34 rfl
theorem dX2_add_61 : decode cX2_add 61 = .ok (.iload 8, 2) := xdc ddX2_add_0 35 rfl
theorem dX2_add_63 : decode cX2_add 63 = .ok (.ixor, 1) := xdc ddX2_add_0 36 rfl
theorem dX2_add_64 : decode cX2_add 64 = .ok (.iload_n 2, 1) := xdc ddX2_add_0 37 rfl
theorem dX2_add_65 : decode cX2_add 65 = .ok (.iload 8, 2) := xdc ddX2_add_0 38 rfl
theorem dX2_add_67 : decode cX2_add 67 = .ok (.ixor, 1) := xdc ddX2_add_0 39 rfl
theorem ddX2_add_1 : xdec cX2_add [(68, (.iand, 1)), (69, (.iload 4, 2)), (71, (.invokestatic 17, 3)), (74, (.iand, 1)), (75, (.ifCond .eq 7, 3)), (78, (.iconst 1, 1)), (79, (.goto 4, 3)), (82, (.iconst 0, 1)), (83, (.invokevirtual 62, 3)), (86, (.iload 8, 2)), (88, (.ireturn, 1))] = true := by decide +kernel
theorem dX2_add_68 : decode cX2_add 68 = .ok (.iand, 1) := xdc ddX2_add_1 0 rfl
theorem dX2_add_69 : decode cX2_add 69 = .ok (.iload 4, 2) := xdc ddX2_add_1 1 rfl
theorem dX2_add_71 : decode cX2_add 71 = .ok (.invokestatic 17, 3) := xdc ddX2_add_1 2 rfl
theorem dX2_add_74 : decode cX2_add 74 = .ok (.iand, 1) := xdc ddX2_add_1 3 rfl
theorem dX2_add_75 : decode cX2_add 75 = .ok (.ifCond .eq 7, 3) := xdc ddX2_add_1 4 rfl
theorem dX2_add_78 : decode cX2_add 78 = .ok (.iconst 1, 1) := xdc ddX2_add_1 5 rfl
theorem dX2_add_79 : decode cX2_add 79 = .ok (.goto 4, 3) := xdc ddX2_add_1 6 rfl
theorem dX2_add_82 : decode cX2_add 82 = .ok (.iconst 0, 1) := xdc ddX2_add_1 7 rfl
theorem dX2_add_83 : decode cX2_add 83 = .ok (.invokevirtual 62, 3) := xdc ddX2_add_1 8 rfl
theorem dX2_add_86 : decode cX2_add 86 = .ok (.iload 8, 2) := xdc ddX2_add_1 9 rfl
theorem dX2_add_88 : decode cX2_add 88 = .ok (.ireturn, 1) := xdc ddX2_add_1 10 rfl
abbrev cX2_subtract : ByteArray := prog_4_method_9_code
theorem ddX2_subtract_0 : xdec cX2_subtract [(0, (.iload 4, 2)), (2, (.invokestatic 51, 3)), (5, (.istore 5, 2)), (7, (.iload_n 1, 1)), (8, (.iload 5, 2)), (10, (.iand, 1)), (11, (.invokestatic 54, 3)), (14, (.iload_n 2, 1)), (15, (.iload 5, 2)), (17, (.iand, 1)), (18, (.invokestatic 54, 3)), (21, (.lsub, 1)), (22, (.iload_n 3, 1)), (23, (.i2l, 1)), (24, (.lsub, 1)), (25, (.lstore 6, 2)), (27, (.lload 6, 2)), (29, (.l2i, 1)), (30, (.iload 5, 2)), (32, (.iand, 1)), (33, (.istore 8, 2)), (35, (.aload_n 0, 1)), (36, (.iload 8, 2)), (38, (.iload 4, 2)), (40, (.invokevirtual 58, 3)), (43, (.aload_n 0, 1)), (44, (.lload 6, 2)), (46, (.lconst 0, 1)), (47, (.lcmp, 1)), (48, (.ifCond .ge 7, 3)), (51, (.iconst 1, 1)), (52, (.goto 4, 3)), (55, (.iconst 0, 1)), (56, (.iload_n 1, 1)), (57, (.iload_n 2, 1)), (58, (.ixor, 1)), (59, (.iload_n 1, 1)), (60, (.iload 8, 2)), (62, (.ixor, 1)), (63, (.iand, 1))] = true := by decide +kernel
theorem dX2_subtract_0 : decode cX2_subtract 0 = .ok (.iload 4, 2) := xdc ddX2_subtract_0 0 rfl
theorem dX2_subtract_2 : decode cX2_subtract 2 = .ok (.invokestatic 51, 3) := xdc ddX2_subtract_0 1 rfl
theorem dX2_subtract_5 : decode cX2_subtract 5 = .ok (.istore 5, 2) := xdc ddX2_subtract_0 2 rfl
theorem dX2_subtract_7 : decode cX2_subtract 7 = .ok (.iload_n 1, 1) := xdc ddX2_subtract_0 3 rfl
theorem dX2_subtract_8 : decode cX2_subtract 8 = .ok (.iload 5, 2) := xdc ddX2_subtract_0 4 rfl
theorem dX2_subtract_10 : decode cX2_subtract 10 = .ok (.iand, 1) := xdc ddX2_subtract_0 5 rfl
theorem dX2_subtract_11 : decode cX2_subtract 11 = .ok (.invokestatic 54, 3) := xdc ddX2_subtract_0 6 rfl
theorem dX2_subtract_14 : decode cX2_subtract 14 = .ok (.iload_n 2, 1) := xdc ddX2_subtract_0 7 rfl
theorem dX2_subtract_15 : decode cX2_subtract 15 = .ok (.iload 5, 2) := xdc ddX2_subtract_0 8 rfl
theorem dX2_subtract_17 : decode cX2_subtract 17 = .ok (.iand, 1) := xdc ddX2_subtract_0 9 rfl
theorem dX2_subtract_18 : decode cX2_subtract 18 = .ok (.invokestatic 54, 3) := xdc ddX2_subtract_0 10 rfl
theorem dX2_subtract_21 : decode cX2_subtract 21 = .ok (.lsub, 1) := xdc ddX2_subtract_0 11 rfl
theorem dX2_subtract_22 : decode cX2_subtract 22 = .ok (.iload_n 3, 1) := xdc ddX2_subtract_0 12 rfl
theorem dX2_subtract_23 : decode cX2_subtract 23 = .ok (.i2l, 1) := xdc ddX2_subtract_0 13 rfl
theorem dX2_subtract_24 : decode cX2_subtract 24 = .ok (.lsub, 1) := xdc ddX2_subtract_0 14 rfl
theorem dX2_subtract_25 : decode cX2_subtract 25 = .ok (.lstore 6, 2) := xdc ddX2_subtract_0 15 rfl
theorem dX2_subtract_27 : decode cX2_subtract 27 = .ok (.lload 6, 2) := xdc ddX2_subtract_0 16 rfl
theorem dX2_subtract_29 : decode cX2_subtract 29 = .ok (.l2i, 1) := xdc ddX2_subtract_0 17 rfl
theorem dX2_subtract_30 : decode cX2_subtract 30 = .ok (.iload 5, 2) := xdc ddX2_subtract_0 18 rfl
theorem dX2_subtract_32 : decode cX2_subtract 32 = .ok (.iand, 1) := xdc ddX2_subtract_0 19 rfl
theorem dX2_subtract_33 : decode cX2_subtract 33 = .ok (.istore 8, 2) := xdc ddX2_subtract_0 20 rfl
theorem dX2_subtract_35 : decode cX2_subtract 35 = .ok (.aload_n 0, 1) := xdc ddX2_subtract_0 21 rfl
theorem dX2_subtract_36 : decode cX2_subtract 36 = .ok (.iload 8, 2) := xdc ddX2_subtract_0 22 rfl
theorem dX2_subtract_38 : decode cX2_subtract 38 = .ok (.iload 4, 2) := xdc ddX2_subtract_0 23 rfl
theorem dX2_subtract_40 : decode cX2_subtract 40 = .ok (.invokevirtual 58, 3) := xdc ddX2_subtract_0 24 rfl
theorem dX2_subtract_43 : decode cX2_subtract 43 = .ok (.aload_n 0, 1) := xdc ddX2_subtract_0 25 rfl
theorem dX2_subtract_44 : decode cX2_subtract 44 = .ok (.lload 6, 2) := xdc ddX2_subtract_0 26 rfl
theorem dX2_subtract_46 : decode cX2_subtract 46 = .ok (.lconst 0, 1) := xdc ddX2_subtract_0 27 rfl
theorem dX2_subtract_47 : decode cX2_subtract 47 = .ok (.lcmp, 1) := xdc ddX2_subtract_0 28 rfl
theorem dX2_subtract_48 : decode cX2_subtract 48 = .ok (.ifCond .ge 7, 3) := xdc ddX2_subtract_0 29 rfl
theorem dX2_subtract_51 : decode cX2_subtract 51 = .ok (.iconst 1, 1) := xdc ddX2_subtract_0 30 rfl
theorem dX2_subtract_52 : decode cX2_subtract 52 = .ok (.goto 4, 3) := xdc ddX2_subtract_0 31 rfl
theorem dX2_subtract_55 : decode cX2_subtract 55 = .ok (.iconst 0, 1) := xdc ddX2_subtract_0 32 rfl
theorem dX2_subtract_56 : decode cX2_subtract 56 = .ok (.iload_n 1, 1) := xdc ddX2_subtract_0 33 rfl
theorem dX2_subtract_57 : decode cX2_subtract 57 = .ok (.iload_n 2, 1) := xdc ddX2_subtract_0 34 rfl
theorem dX2_subtract_58 : decode cX2_subtract 58 = .ok (.ixor, 1) := xdc ddX2_subtract_0 35 rfl
theorem dX2_subtract_59 : decode cX2_subtract 59 = .ok (.iload_n 1, 1) := xdc ddX2_subtract_0 36 rfl
theorem dX2_subtract_60 : decode cX2_subtract 60 = .ok (.iload 8, 2) := xdc ddX2_subtract_0 37 rfl
theorem dX2_subtract_62 : decode cX2_subtract 62 = .ok (.ixor, 1) := xdc ddX2_subtract_0 38 rfl
theorem dX2_subtract_63 : decode cX2_subtract 63 = .ok (.iand, 1) := xdc ddX2_subtract_0 39 rfl
theorem ddX2_subtract_1 : xdec cX2_subtract [(64, (.iload 4, 2)), (66, (.invokestatic 17, 3)), (69, (.iand, 1)), (70, (.ifCond .eq 7, 3)), (73, (.iconst 1, 1)), (74, (.goto 4, 3)), (77, (.iconst 0, 1)), (78, (.invokevirtual 62, 3)), (81, (.iload 8, 2)), (83, (.ireturn, 1))] = true := by decide +kernel
theorem dX2_subtract_64 : decode cX2_subtract 64 = .ok (.iload 4, 2) := xdc ddX2_subtract_1 0 rfl
theorem dX2_subtract_66 : decode cX2_subtract 66 = .ok (.invokestatic 17, 3) := xdc ddX2_subtract_1 1 rfl
theorem dX2_subtract_69 : decode cX2_subtract 69 = .ok (.iand, 1) := xdc ddX2_subtract_1 2 rfl
theorem dX2_subtract_70 : decode cX2_subtract 70 = .ok (.ifCond .eq 7, 3) := xdc ddX2_subtract_1 3 rfl
theorem dX2_subtract_73 : decode cX2_subtract 73 = .ok (.iconst 1, 1) := xdc ddX2_subtract_1 4 rfl
theorem dX2_subtract_74 : decode cX2_subtract 74 = .ok (.goto 4, 3) := xdc ddX2_subtract_1 5 rfl
theorem dX2_subtract_77 : decode cX2_subtract 77 = .ok (.iconst 0, 1) := xdc ddX2_subtract_1 6 rfl
theorem dX2_subtract_78 : decode cX2_subtract 78 = .ok (.invokevirtual 62, 3) := xdc ddX2_subtract_1 7 rfl
theorem dX2_subtract_81 : decode cX2_subtract 81 = .ok (.iload 8, 2) := xdc ddX2_subtract_1 8 rfl
theorem dX2_subtract_83 : decode cX2_subtract 83 = .ok (.ireturn, 1) := xdc ddX2_subtract_1 9 rfl
abbrev cX2_bitwise : ByteArray := prog_4_method_10_code
theorem ddX2_bitwise_0 : xdec cX2_bitwise [(0, (.aload_n 0, 1)), (1, (.iload_n 1, 1)), (2, (.iload_n 2, 1)), (3, (.invokevirtual 58, 3)), (6, (.aload_n 0, 1)), (7, (.iconst 0, 1)), (8, (.iconst 0, 1)), (9, (.invokevirtual 62, 3)), (12, (.iload_n 1, 1)), (13, (.ireturn, 1))] = true := by decide +kernel
theorem dX2_bitwise_0 : decode cX2_bitwise 0 = .ok (.aload_n 0, 1) := xdc ddX2_bitwise_0 0 rfl
theorem dX2_bitwise_1 : decode cX2_bitwise 1 = .ok (.iload_n 1, 1) := xdc ddX2_bitwise_0 1 rfl
theorem dX2_bitwise_2 : decode cX2_bitwise 2 = .ok (.iload_n 2, 1) := xdc ddX2_bitwise_0 2 rfl
theorem dX2_bitwise_3 : decode cX2_bitwise 3 = .ok (.invokevirtual 58, 3) := xdc ddX2_bitwise_0 3 rfl
theorem dX2_bitwise_6 : decode cX2_bitwise 6 = .ok (.aload_n 0, 1) := xdc ddX2_bitwise_0 4 rfl
theorem dX2_bitwise_7 : decode cX2_bitwise 7 = .ok (.iconst 0, 1) := xdc ddX2_bitwise_0 5 rfl
theorem dX2_bitwise_8 : decode cX2_bitwise 8 = .ok (.iconst 0, 1) := xdc ddX2_bitwise_0 6 rfl
theorem dX2_bitwise_9 : decode cX2_bitwise 9 = .ok (.invokevirtual 62, 3) := xdc ddX2_bitwise_0 7 rfl
theorem dX2_bitwise_12 : decode cX2_bitwise 12 = .ok (.iload_n 1, 1) := xdc ddX2_bitwise_0 8 rfl
theorem dX2_bitwise_13 : decode cX2_bitwise 13 = .ok (.ireturn, 1) := xdc ddX2_bitwise_0 9 rfl
abbrev cX2_two : ByteArray := prog_4_method_7_code
theorem ddX2_two_0 : xdec cX2_two [(0, (.aload_n 0, 1)), (1, (.iconst 1, 1)), (2, (.invokevirtual 13, 3)), (5, (.ifCond .eq 7, 3)), (8, (.iconst 1, 1)), (9, (.goto 4, 3)), (12, (.iconst 0, 1)), (13, (.istore 5, 2)), (15, (.getstatic 28, 3)), (18, (.aload_n 1, 1)), (19, (.invokevirtual 34, 3)), (22, (.iaload, 1)), (23, (.tableswitch 103 1 7 #[41, 51, 62, 62, 72, 83, 93], 41)), (64, (.aload_n 0, 1)), (65, (.iload_n 2, 1)), (66, (.iload_n 3, 1)), (67, (.iconst 0, 1)), (68, (.iload 4, 2)), (70, (.invokevirtual 40, 3)), (73, (.ireturn, 1)), (74, (.aload_n 0, 1)), (75, (.iload_n 2, 1)), (76, (.iload_n 3, 1)), (77, (.iload 5, 2)), (79, (.iload 4, 2)), (81, (.invokevirtual 40, 3)), (84, (.ireturn, 1)), (85, (.aload_n 0, 1)), (86, (.iload_n 2, 1)), (87, (.iload_n 3, 1)), (88, (.iconst 0, 1)), (89, (.iload 4, 2)), (91, (.invokevirtual 44, 3)), (94, (.ireturn, 1)), (95, (.aload_n 0, 1)), (96, (.iload_n 2, 1)), (97, (.iload_n 3, 1)), (98, (.iload 5, 2)), (100, (.iload 4, 2)), (102, (.invokevirtual 44, 3))] = true := by decide +kernel
theorem dX2_two_0 : decode cX2_two 0 = .ok (.aload_n 0, 1) := xdc ddX2_two_0 0 rfl
theorem dX2_two_1 : decode cX2_two 1 = .ok (.iconst 1, 1) := xdc ddX2_two_0 1 rfl
theorem dX2_two_2 : decode cX2_two 2 = .ok (.invokevirtual 13, 3) := xdc ddX2_two_0 2 rfl
theorem dX2_two_5 : decode cX2_two 5 = .ok (.ifCond .eq 7, 3) := xdc ddX2_two_0 3 rfl
theorem dX2_two_8 : decode cX2_two 8 = .ok (.iconst 1, 1) := xdc ddX2_two_0 4 rfl
theorem dX2_two_9 : decode cX2_two 9 = .ok (.goto 4, 3) := xdc ddX2_two_0 5 rfl
theorem dX2_two_12 : decode cX2_two 12 = .ok (.iconst 0, 1) := xdc ddX2_two_0 6 rfl
theorem dX2_two_13 : decode cX2_two 13 = .ok (.istore 5, 2) := xdc ddX2_two_0 7 rfl
theorem dX2_two_15 : decode cX2_two 15 = .ok (.getstatic 28, 3) := xdc ddX2_two_0 8 rfl
theorem dX2_two_18 : decode cX2_two 18 = .ok (.aload_n 1, 1) := xdc ddX2_two_0 9 rfl
theorem dX2_two_19 : decode cX2_two 19 = .ok (.invokevirtual 34, 3) := xdc ddX2_two_0 10 rfl
theorem dX2_two_22 : decode cX2_two 22 = .ok (.iaload, 1) := xdc ddX2_two_0 11 rfl
theorem dX2_two_23 : decode cX2_two 23 = .ok (.tableswitch 103 1 7 #[41, 51, 62, 62, 72, 83, 93], 41) := xdc ddX2_two_0 12 rfl
theorem dX2_two_64 : decode cX2_two 64 = .ok (.aload_n 0, 1) := xdc ddX2_two_0 13 rfl
theorem dX2_two_65 : decode cX2_two 65 = .ok (.iload_n 2, 1) := xdc ddX2_two_0 14 rfl
theorem dX2_two_66 : decode cX2_two 66 = .ok (.iload_n 3, 1) := xdc ddX2_two_0 15 rfl
theorem dX2_two_67 : decode cX2_two 67 = .ok (.iconst 0, 1) := xdc ddX2_two_0 16 rfl
theorem dX2_two_68 : decode cX2_two 68 = .ok (.iload 4, 2) := xdc ddX2_two_0 17 rfl
theorem dX2_two_70 : decode cX2_two 70 = .ok (.invokevirtual 40, 3) := xdc ddX2_two_0 18 rfl
theorem dX2_two_73 : decode cX2_two 73 = .ok (.ireturn, 1) := xdc ddX2_two_0 19 rfl
theorem dX2_two_74 : decode cX2_two 74 = .ok (.aload_n 0, 1) := xdc ddX2_two_0 20 rfl
theorem dX2_two_75 : decode cX2_two 75 = .ok (.iload_n 2, 1) := xdc ddX2_two_0 21 rfl
theorem dX2_two_76 : decode cX2_two 76 = .ok (.iload_n 3, 1) := xdc ddX2_two_0 22 rfl
theorem dX2_two_77 : decode cX2_two 77 = .ok (.iload 5, 2) := xdc ddX2_two_0 23 rfl
theorem dX2_two_79 : decode cX2_two 79 = .ok (.iload 4, 2) := xdc ddX2_two_0 24 rfl
theorem dX2_two_81 : decode cX2_two 81 = .ok (.invokevirtual 40, 3) := xdc ddX2_two_0 25 rfl
theorem dX2_two_84 : decode cX2_two 84 = .ok (.ireturn, 1) := xdc ddX2_two_0 26 rfl
theorem dX2_two_85 : decode cX2_two 85 = .ok (.aload_n 0, 1) := xdc ddX2_two_0 27 rfl
theorem dX2_two_86 : decode cX2_two 86 = .ok (.iload_n 2, 1) := xdc ddX2_two_0 28 rfl
theorem dX2_two_87 : decode cX2_two 87 = .ok (.iload_n 3, 1) := xdc ddX2_two_0 29 rfl
theorem dX2_two_88 : decode cX2_two 88 = .ok (.iconst 0, 1) := xdc ddX2_two_0 30 rfl
theorem dX2_two_89 : decode cX2_two 89 = .ok (.iload 4, 2) := xdc ddX2_two_0 31 rfl
theorem dX2_two_91 : decode cX2_two 91 = .ok (.invokevirtual 44, 3) := xdc ddX2_two_0 32 rfl
theorem dX2_two_94 : decode cX2_two 94 = .ok (.ireturn, 1) := xdc ddX2_two_0 33 rfl
theorem dX2_two_95 : decode cX2_two 95 = .ok (.aload_n 0, 1) := xdc ddX2_two_0 34 rfl
theorem dX2_two_96 : decode cX2_two 96 = .ok (.iload_n 2, 1) := xdc ddX2_two_0 35 rfl
theorem dX2_two_97 : decode cX2_two 97 = .ok (.iload_n 3, 1) := xdc ddX2_two_0 36 rfl
theorem dX2_two_98 : decode cX2_two 98 = .ok (.iload 5, 2) := xdc ddX2_two_0 37 rfl
theorem dX2_two_100 : decode cX2_two 100 = .ok (.iload 4, 2) := xdc ddX2_two_0 38 rfl
theorem dX2_two_102 : decode cX2_two 102 = .ok (.invokevirtual 44, 3) := xdc ddX2_two_0 39 rfl
theorem ddX2_two_1 : xdec cX2_two [(105, (.ireturn, 1)), (106, (.aload_n 0, 1)), (107, (.iload_n 2, 1)), (108, (.iload_n 3, 1)), (109, (.ior, 1)), (110, (.iload 4, 2)), (112, (.invokevirtual 47, 3)), (115, (.ireturn, 1)), (116, (.aload_n 0, 1)), (117, (.iload_n 2, 1)), (118, (.iload_n 3, 1)), (119, (.ixor, 1)), (120, (.iload 4, 2)), (122, (.invokevirtual 47, 3)), (125, (.ireturn, 1)), (126, (.aload_n 0, 1)), (127, (.iload_n 2, 1)), (128, (.iload_n 3, 1)), (129, (.iand, 1)), (130, (.iload 4, 2)), (132, (.invokevirtual 47, 3)), (135, (.ireturn, 1))] = true := by decide +kernel
theorem dX2_two_105 : decode cX2_two 105 = .ok (.ireturn, 1) := xdc ddX2_two_1 0 rfl
theorem dX2_two_106 : decode cX2_two 106 = .ok (.aload_n 0, 1) := xdc ddX2_two_1 1 rfl
theorem dX2_two_107 : decode cX2_two 107 = .ok (.iload_n 2, 1) := xdc ddX2_two_1 2 rfl
theorem dX2_two_108 : decode cX2_two 108 = .ok (.iload_n 3, 1) := xdc ddX2_two_1 3 rfl
theorem dX2_two_109 : decode cX2_two 109 = .ok (.ior, 1) := xdc ddX2_two_1 4 rfl
theorem dX2_two_110 : decode cX2_two 110 = .ok (.iload 4, 2) := xdc ddX2_two_1 5 rfl
theorem dX2_two_112 : decode cX2_two 112 = .ok (.invokevirtual 47, 3) := xdc ddX2_two_1 6 rfl
theorem dX2_two_115 : decode cX2_two 115 = .ok (.ireturn, 1) := xdc ddX2_two_1 7 rfl
theorem dX2_two_116 : decode cX2_two 116 = .ok (.aload_n 0, 1) := xdc ddX2_two_1 8 rfl
theorem dX2_two_117 : decode cX2_two 117 = .ok (.iload_n 2, 1) := xdc ddX2_two_1 9 rfl
theorem dX2_two_118 : decode cX2_two 118 = .ok (.iload_n 3, 1) := xdc ddX2_two_1 10 rfl
theorem dX2_two_119 : decode cX2_two 119 = .ok (.ixor, 1) := xdc ddX2_two_1 11 rfl
theorem dX2_two_120 : decode cX2_two 120 = .ok (.iload 4, 2) := xdc ddX2_two_1 12 rfl
theorem dX2_two_122 : decode cX2_two 122 = .ok (.invokevirtual 47, 3) := xdc ddX2_two_1 13 rfl
theorem dX2_two_125 : decode cX2_two 125 = .ok (.ireturn, 1) := xdc ddX2_two_1 14 rfl
theorem dX2_two_126 : decode cX2_two 126 = .ok (.aload_n 0, 1) := xdc ddX2_two_1 15 rfl
theorem dX2_two_127 : decode cX2_two 127 = .ok (.iload_n 2, 1) := xdc ddX2_two_1 16 rfl
theorem dX2_two_128 : decode cX2_two 128 = .ok (.iload_n 3, 1) := xdc ddX2_two_1 17 rfl
theorem dX2_two_129 : decode cX2_two 129 = .ok (.iand, 1) := xdc ddX2_two_1 18 rfl
theorem dX2_two_130 : decode cX2_two 130 = .ok (.iload 4, 2) := xdc ddX2_two_1 19 rfl
theorem dX2_two_132 : decode cX2_two 132 = .ok (.invokevirtual 47, 3) := xdc ddX2_two_1 20 rfl
theorem dX2_two_135 : decode cX2_two 135 = .ok (.ireturn, 1) := xdc ddX2_two_1 21 rfl
abbrev cX2_single : ByteArray := prog_4_method_11_code
theorem ddX2_single_0 : xdec cX2_single [(0, (.aload_n 0, 1)), (1, (.iconst 1, 1)), (2, (.invokevirtual 13, 3)), (5, (.istore 4, 2)), (7, (.getstatic 28, 3)), (10, (.aload_n 1, 1)), (11, (.invokevirtual 34, 3)), (14, (.iaload, 1)), (15, (.tableswitch 74 8 10 #[25, 45, 65], 25)), (40, (.aload_n 0, 1)), (41, (.iload_n 2, 1)), (42, (.iconst 1, 1)), (43, (.iconst 0, 1)), (44, (.iload_n 3, 1)), (45, (.invokevirtual 40, 3)), (48, (.istore 5, 2)), (50, (.aload_n 0, 1)), (51, (.iconst 1, 1)), (52, (.iload 4, 2)), (54, (.invokevirtual 66, 3)), (57, (.iload 5, 2)), (59, (.ireturn, 1)), (60, (.aload_n 0, 1)), (61, (.iload_n 2, 1)), (62, (.iconst 1, 1)), (63, (.iconst 0, 1)), (64, (.iload_n 3, 1)), (65, (.invokevirtual 44, 3)), (68, (.istore 5, 2)), (70, (.aload_n 0, 1)), (71, (.iconst 1, 1)), (72, (.iload 4, 2)), (74, (.invokevirtual 66, 3)), (77, (.iload 5, 2)), (79, (.ireturn, 1)), (80, (.aload_n 0, 1)), (81, (.iconst 0, 1)), (82, (.iload_n 2, 1)), (83, (.iconst 0, 1)), (84, (.iload_n 3, 1))] = true := by decide +kernel
theorem dX2_single_0 : decode cX2_single 0 = .ok (.aload_n 0, 1) := xdc ddX2_single_0 0 rfl
theorem dX2_single_1 : decode cX2_single 1 = .ok (.iconst 1, 1) := xdc ddX2_single_0 1 rfl
theorem dX2_single_2 : decode cX2_single 2 = .ok (.invokevirtual 13, 3) := xdc ddX2_single_0 2 rfl
theorem dX2_single_5 : decode cX2_single 5 = .ok (.istore 4, 2) := xdc ddX2_single_0 3 rfl
theorem dX2_single_7 : decode cX2_single 7 = .ok (.getstatic 28, 3) := xdc ddX2_single_0 4 rfl
theorem dX2_single_10 : decode cX2_single 10 = .ok (.aload_n 1, 1) := xdc ddX2_single_0 5 rfl
theorem dX2_single_11 : decode cX2_single 11 = .ok (.invokevirtual 34, 3) := xdc ddX2_single_0 6 rfl
theorem dX2_single_14 : decode cX2_single 14 = .ok (.iaload, 1) := xdc ddX2_single_0 7 rfl
theorem dX2_single_15 : decode cX2_single 15 = .ok (.tableswitch 74 8 10 #[25, 45, 65], 25) := xdc ddX2_single_0 8 rfl
theorem dX2_single_40 : decode cX2_single 40 = .ok (.aload_n 0, 1) := xdc ddX2_single_0 9 rfl
theorem dX2_single_41 : decode cX2_single 41 = .ok (.iload_n 2, 1) := xdc ddX2_single_0 10 rfl
theorem dX2_single_42 : decode cX2_single 42 = .ok (.iconst 1, 1) := xdc ddX2_single_0 11 rfl
theorem dX2_single_43 : decode cX2_single 43 = .ok (.iconst 0, 1) := xdc ddX2_single_0 12 rfl
theorem dX2_single_44 : decode cX2_single 44 = .ok (.iload_n 3, 1) := xdc ddX2_single_0 13 rfl
theorem dX2_single_45 : decode cX2_single 45 = .ok (.invokevirtual 40, 3) := xdc ddX2_single_0 14 rfl
theorem dX2_single_48 : decode cX2_single 48 = .ok (.istore 5, 2) := xdc ddX2_single_0 15 rfl
theorem dX2_single_50 : decode cX2_single 50 = .ok (.aload_n 0, 1) := xdc ddX2_single_0 16 rfl
theorem dX2_single_51 : decode cX2_single 51 = .ok (.iconst 1, 1) := xdc ddX2_single_0 17 rfl
theorem dX2_single_52 : decode cX2_single 52 = .ok (.iload 4, 2) := xdc ddX2_single_0 18 rfl
theorem dX2_single_54 : decode cX2_single 54 = .ok (.invokevirtual 66, 3) := xdc ddX2_single_0 19 rfl
theorem dX2_single_57 : decode cX2_single 57 = .ok (.iload 5, 2) := xdc ddX2_single_0 20 rfl
theorem dX2_single_59 : decode cX2_single 59 = .ok (.ireturn, 1) := xdc ddX2_single_0 21 rfl
theorem dX2_single_60 : decode cX2_single 60 = .ok (.aload_n 0, 1) := xdc ddX2_single_0 22 rfl
theorem dX2_single_61 : decode cX2_single 61 = .ok (.iload_n 2, 1) := xdc ddX2_single_0 23 rfl
theorem dX2_single_62 : decode cX2_single 62 = .ok (.iconst 1, 1) := xdc ddX2_single_0 24 rfl
theorem dX2_single_63 : decode cX2_single 63 = .ok (.iconst 0, 1) := xdc ddX2_single_0 25 rfl
theorem dX2_single_64 : decode cX2_single 64 = .ok (.iload_n 3, 1) := xdc ddX2_single_0 26 rfl
theorem dX2_single_65 : decode cX2_single 65 = .ok (.invokevirtual 44, 3) := xdc ddX2_single_0 27 rfl
theorem dX2_single_68 : decode cX2_single 68 = .ok (.istore 5, 2) := xdc ddX2_single_0 28 rfl
theorem dX2_single_70 : decode cX2_single 70 = .ok (.aload_n 0, 1) := xdc ddX2_single_0 29 rfl
theorem dX2_single_71 : decode cX2_single 71 = .ok (.iconst 1, 1) := xdc ddX2_single_0 30 rfl
theorem dX2_single_72 : decode cX2_single 72 = .ok (.iload 4, 2) := xdc ddX2_single_0 31 rfl
theorem dX2_single_74 : decode cX2_single 74 = .ok (.invokevirtual 66, 3) := xdc ddX2_single_0 32 rfl
theorem dX2_single_77 : decode cX2_single 77 = .ok (.iload 5, 2) := xdc ddX2_single_0 33 rfl
theorem dX2_single_79 : decode cX2_single 79 = .ok (.ireturn, 1) := xdc ddX2_single_0 34 rfl
theorem dX2_single_80 : decode cX2_single 80 = .ok (.aload_n 0, 1) := xdc ddX2_single_0 35 rfl
theorem dX2_single_81 : decode cX2_single 81 = .ok (.iconst 0, 1) := xdc ddX2_single_0 36 rfl
theorem dX2_single_82 : decode cX2_single 82 = .ok (.iload_n 2, 1) := xdc ddX2_single_0 37 rfl
theorem dX2_single_83 : decode cX2_single 83 = .ok (.iconst 0, 1) := xdc ddX2_single_0 38 rfl
theorem dX2_single_84 : decode cX2_single 84 = .ok (.iload_n 3, 1) := xdc ddX2_single_0 39 rfl
theorem ddX2_single_1 : xdec cX2_single [(85, (.invokevirtual 44, 3)), (88, (.ireturn, 1)), (89, (.iload_n 2, 1)), (90, (.iconst (-1), 1)), (91, (.ixor, 1)), (92, (.iload_n 3, 1)), (93, (.invokestatic 51, 3)), (96, (.iand, 1)), (97, (.ireturn, 1))] = true := by decide +kernel
theorem dX2_single_85 : decode cX2_single 85 = .ok (.invokevirtual 44, 3) := xdc ddX2_single_1 0 rfl
theorem dX2_single_88 : decode cX2_single 88 = .ok (.ireturn, 1) := xdc ddX2_single_1 1 rfl
theorem dX2_single_89 : decode cX2_single 89 = .ok (.iload_n 2, 1) := xdc ddX2_single_1 2 rfl
theorem dX2_single_90 : decode cX2_single 90 = .ok (.iconst (-1), 1) := xdc ddX2_single_1 3 rfl
theorem dX2_single_91 : decode cX2_single 91 = .ok (.ixor, 1) := xdc ddX2_single_1 4 rfl
theorem dX2_single_92 : decode cX2_single 92 = .ok (.iload_n 3, 1) := xdc ddX2_single_1 5 rfl
theorem dX2_single_93 : decode cX2_single 93 = .ok (.invokestatic 51, 3) := xdc ddX2_single_1 6 rfl
theorem dX2_single_96 : decode cX2_single 96 = .ok (.iand, 1) := xdc ddX2_single_1 7 rfl
theorem dX2_single_97 : decode cX2_single 97 = .ok (.ireturn, 1) := xdc ddX2_single_1 8 rfl
abbrev cX2_shiftLeft : ByteArray := prog_4_method_13_code
theorem ddX2_shiftLeft_0 : xdec cX2_shiftLeft [(0, (.iload_n 3, 1)), (1, (.invokestatic 17, 3)), (4, (.istore 4, 2)), (6, (.iload_n 2, 1)), (7, (.iload 4, 2)), (9, (.iand, 1)), (10, (.ifCond .eq 7, 3)), (13, (.iconst 1, 1)), (14, (.goto 4, 3)), (17, (.iconst 0, 1)), (18, (.istore 5, 2)), (20, (.aload_n 1, 1)), (21, (.getstatic 70, 3)), (24, (.if_acmp .ne 8, 3)), (27, (.iload 5, 2)), (29, (.goto 23, 3)), (32, (.aload_n 1, 1)), (33, (.getstatic 74, 3)), (36, (.if_acmp .ne 15, 3)), (39, (.aload_n 0, 1)), (40, (.iconst 1, 1)), (41, (.invokevirtual 13, 3)), (44, (.ifCond .eq 7, 3)), (47, (.iconst 1, 1)), (48, (.goto 4, 3)), (51, (.iconst 0, 1)), (52, (.istore 6, 2)), (54, (.iload_n 2, 1)), (55, (.iconst 1, 1)), (56, (.ishl, 1)), (57, (.iload 6, 2)), (59, (.ifCond .eq 7, 3)), (62, (.iconst 1, 1)), (63, (.goto 4, 3)), (66, (.iconst 0, 1)), (67, (.ior, 1)), (68, (.iload_n 3, 1)), (69, (.invokestatic 51, 3)), (72, (.iand, 1)), (73, (.istore 7, 2))] = true := by decide +kernel
theorem dX2_shiftLeft_0 : decode cX2_shiftLeft 0 = .ok (.iload_n 3, 1) := xdc ddX2_shiftLeft_0 0 rfl
theorem dX2_shiftLeft_1 : decode cX2_shiftLeft 1 = .ok (.invokestatic 17, 3) := xdc ddX2_shiftLeft_0 1 rfl
theorem dX2_shiftLeft_4 : decode cX2_shiftLeft 4 = .ok (.istore 4, 2) := xdc ddX2_shiftLeft_0 2 rfl
theorem dX2_shiftLeft_6 : decode cX2_shiftLeft 6 = .ok (.iload_n 2, 1) := xdc ddX2_shiftLeft_0 3 rfl
theorem dX2_shiftLeft_7 : decode cX2_shiftLeft 7 = .ok (.iload 4, 2) := xdc ddX2_shiftLeft_0 4 rfl
theorem dX2_shiftLeft_9 : decode cX2_shiftLeft 9 = .ok (.iand, 1) := xdc ddX2_shiftLeft_0 5 rfl
theorem dX2_shiftLeft_10 : decode cX2_shiftLeft 10 = .ok (.ifCond .eq 7, 3) := xdc ddX2_shiftLeft_0 6 rfl
theorem dX2_shiftLeft_13 : decode cX2_shiftLeft 13 = .ok (.iconst 1, 1) := xdc ddX2_shiftLeft_0 7 rfl
theorem dX2_shiftLeft_14 : decode cX2_shiftLeft 14 = .ok (.goto 4, 3) := xdc ddX2_shiftLeft_0 8 rfl
theorem dX2_shiftLeft_17 : decode cX2_shiftLeft 17 = .ok (.iconst 0, 1) := xdc ddX2_shiftLeft_0 9 rfl
theorem dX2_shiftLeft_18 : decode cX2_shiftLeft 18 = .ok (.istore 5, 2) := xdc ddX2_shiftLeft_0 10 rfl
theorem dX2_shiftLeft_20 : decode cX2_shiftLeft 20 = .ok (.aload_n 1, 1) := xdc ddX2_shiftLeft_0 11 rfl
theorem dX2_shiftLeft_21 : decode cX2_shiftLeft 21 = .ok (.getstatic 70, 3) := xdc ddX2_shiftLeft_0 12 rfl
theorem dX2_shiftLeft_24 : decode cX2_shiftLeft 24 = .ok (.if_acmp .ne 8, 3) := xdc ddX2_shiftLeft_0 13 rfl
theorem dX2_shiftLeft_27 : decode cX2_shiftLeft 27 = .ok (.iload 5, 2) := xdc ddX2_shiftLeft_0 14 rfl
theorem dX2_shiftLeft_29 : decode cX2_shiftLeft 29 = .ok (.goto 23, 3) := xdc ddX2_shiftLeft_0 15 rfl
theorem dX2_shiftLeft_32 : decode cX2_shiftLeft 32 = .ok (.aload_n 1, 1) := xdc ddX2_shiftLeft_0 16 rfl
theorem dX2_shiftLeft_33 : decode cX2_shiftLeft 33 = .ok (.getstatic 74, 3) := xdc ddX2_shiftLeft_0 17 rfl
theorem dX2_shiftLeft_36 : decode cX2_shiftLeft 36 = .ok (.if_acmp .ne 15, 3) := xdc ddX2_shiftLeft_0 18 rfl
theorem dX2_shiftLeft_39 : decode cX2_shiftLeft 39 = .ok (.aload_n 0, 1) := xdc ddX2_shiftLeft_0 19 rfl
theorem dX2_shiftLeft_40 : decode cX2_shiftLeft 40 = .ok (.iconst 1, 1) := xdc ddX2_shiftLeft_0 20 rfl
theorem dX2_shiftLeft_41 : decode cX2_shiftLeft 41 = .ok (.invokevirtual 13, 3) := xdc ddX2_shiftLeft_0 21 rfl
theorem dX2_shiftLeft_44 : decode cX2_shiftLeft 44 = .ok (.ifCond .eq 7, 3) := xdc ddX2_shiftLeft_0 22 rfl
theorem dX2_shiftLeft_47 : decode cX2_shiftLeft 47 = .ok (.iconst 1, 1) := xdc ddX2_shiftLeft_0 23 rfl
theorem dX2_shiftLeft_48 : decode cX2_shiftLeft 48 = .ok (.goto 4, 3) := xdc ddX2_shiftLeft_0 24 rfl
theorem dX2_shiftLeft_51 : decode cX2_shiftLeft 51 = .ok (.iconst 0, 1) := xdc ddX2_shiftLeft_0 25 rfl
theorem dX2_shiftLeft_52 : decode cX2_shiftLeft 52 = .ok (.istore 6, 2) := xdc ddX2_shiftLeft_0 26 rfl
theorem dX2_shiftLeft_54 : decode cX2_shiftLeft 54 = .ok (.iload_n 2, 1) := xdc ddX2_shiftLeft_0 27 rfl
theorem dX2_shiftLeft_55 : decode cX2_shiftLeft 55 = .ok (.iconst 1, 1) := xdc ddX2_shiftLeft_0 28 rfl
theorem dX2_shiftLeft_56 : decode cX2_shiftLeft 56 = .ok (.ishl, 1) := xdc ddX2_shiftLeft_0 29 rfl
theorem dX2_shiftLeft_57 : decode cX2_shiftLeft 57 = .ok (.iload 6, 2) := xdc ddX2_shiftLeft_0 30 rfl
theorem dX2_shiftLeft_59 : decode cX2_shiftLeft 59 = .ok (.ifCond .eq 7, 3) := xdc ddX2_shiftLeft_0 31 rfl
theorem dX2_shiftLeft_62 : decode cX2_shiftLeft 62 = .ok (.iconst 1, 1) := xdc ddX2_shiftLeft_0 32 rfl
theorem dX2_shiftLeft_63 : decode cX2_shiftLeft 63 = .ok (.goto 4, 3) := xdc ddX2_shiftLeft_0 33 rfl
theorem dX2_shiftLeft_66 : decode cX2_shiftLeft 66 = .ok (.iconst 0, 1) := xdc ddX2_shiftLeft_0 34 rfl
theorem dX2_shiftLeft_67 : decode cX2_shiftLeft 67 = .ok (.ior, 1) := xdc ddX2_shiftLeft_0 35 rfl
theorem dX2_shiftLeft_68 : decode cX2_shiftLeft 68 = .ok (.iload_n 3, 1) := xdc ddX2_shiftLeft_0 36 rfl
theorem dX2_shiftLeft_69 : decode cX2_shiftLeft 69 = .ok (.invokestatic 51, 3) := xdc ddX2_shiftLeft_0 37 rfl
theorem dX2_shiftLeft_72 : decode cX2_shiftLeft 72 = .ok (.iand, 1) := xdc ddX2_shiftLeft_0 38 rfl
theorem dX2_shiftLeft_73 : decode cX2_shiftLeft 73 = .ok (.istore 7, 2) := xdc ddX2_shiftLeft_0 39 rfl
theorem ddX2_shiftLeft_1 : xdec cX2_shiftLeft [(75, (.aload_n 0, 1)), (76, (.iload 5, 2)), (78, (.iload 7, 2)), (80, (.iload 4, 2)), (82, (.iand, 1)), (83, (.ifCond .eq 7, 3)), (86, (.iconst 1, 1)), (87, (.goto 4, 3)), (90, (.iconst 0, 1)), (91, (.iload 5, 2)), (93, (.if_icmp .eq 7, 3)), (96, (.iconst 1, 1)), (97, (.goto 4, 3)), (100, (.iconst 0, 1)), (101, (.invokevirtual 62, 3)), (104, (.iload 7, 2)), (106, (.ireturn, 1))] = true := by decide +kernel
theorem dX2_shiftLeft_75 : decode cX2_shiftLeft 75 = .ok (.aload_n 0, 1) := xdc ddX2_shiftLeft_1 0 rfl
theorem dX2_shiftLeft_76 : decode cX2_shiftLeft 76 = .ok (.iload 5, 2) := xdc ddX2_shiftLeft_1 1 rfl
theorem dX2_shiftLeft_78 : decode cX2_shiftLeft 78 = .ok (.iload 7, 2) := xdc ddX2_shiftLeft_1 2 rfl
theorem dX2_shiftLeft_80 : decode cX2_shiftLeft 80 = .ok (.iload 4, 2) := xdc ddX2_shiftLeft_1 3 rfl
theorem dX2_shiftLeft_82 : decode cX2_shiftLeft 82 = .ok (.iand, 1) := xdc ddX2_shiftLeft_1 4 rfl
theorem dX2_shiftLeft_83 : decode cX2_shiftLeft 83 = .ok (.ifCond .eq 7, 3) := xdc ddX2_shiftLeft_1 5 rfl
theorem dX2_shiftLeft_86 : decode cX2_shiftLeft 86 = .ok (.iconst 1, 1) := xdc ddX2_shiftLeft_1 6 rfl
theorem dX2_shiftLeft_87 : decode cX2_shiftLeft 87 = .ok (.goto 4, 3) := xdc ddX2_shiftLeft_1 7 rfl
theorem dX2_shiftLeft_90 : decode cX2_shiftLeft 90 = .ok (.iconst 0, 1) := xdc ddX2_shiftLeft_1 8 rfl
theorem dX2_shiftLeft_91 : decode cX2_shiftLeft 91 = .ok (.iload 5, 2) := xdc ddX2_shiftLeft_1 9 rfl
theorem dX2_shiftLeft_93 : decode cX2_shiftLeft 93 = .ok (.if_icmp .eq 7, 3) := xdc ddX2_shiftLeft_1 10 rfl
theorem dX2_shiftLeft_96 : decode cX2_shiftLeft 96 = .ok (.iconst 1, 1) := xdc ddX2_shiftLeft_1 11 rfl
theorem dX2_shiftLeft_97 : decode cX2_shiftLeft 97 = .ok (.goto 4, 3) := xdc ddX2_shiftLeft_1 12 rfl
theorem dX2_shiftLeft_100 : decode cX2_shiftLeft 100 = .ok (.iconst 0, 1) := xdc ddX2_shiftLeft_1 13 rfl
theorem dX2_shiftLeft_101 : decode cX2_shiftLeft 101 = .ok (.invokevirtual 62, 3) := xdc ddX2_shiftLeft_1 14 rfl
theorem dX2_shiftLeft_104 : decode cX2_shiftLeft 104 = .ok (.iload 7, 2) := xdc ddX2_shiftLeft_1 15 rfl
theorem dX2_shiftLeft_106 : decode cX2_shiftLeft 106 = .ok (.ireturn, 1) := xdc ddX2_shiftLeft_1 16 rfl
abbrev cX2_shiftRight : ByteArray := prog_4_method_14_code
theorem ddX2_shiftRight_0 : xdec cX2_shiftRight [(0, (.iload_n 3, 1)), (1, (.invokestatic 17, 3)), (4, (.istore 4, 2)), (6, (.iload_n 2, 1)), (7, (.iload 4, 2)), (9, (.iand, 1)), (10, (.ifCond .eq 7, 3)), (13, (.iconst 1, 1)), (14, (.goto 4, 3)), (17, (.iconst 0, 1)), (18, (.istore 5, 2)), (20, (.iload_n 2, 1)), (21, (.iconst 1, 1)), (22, (.iand, 1)), (23, (.ifCond .eq 7, 3)), (26, (.iconst 1, 1)), (27, (.goto 4, 3)), (30, (.iconst 0, 1)), (31, (.istore 6, 2)), (33, (.iconst 0, 1)), (34, (.istore 7, 2)), (36, (.aload_n 1, 1)), (37, (.getstatic 93, 3)), (40, (.if_acmp .ne 10, 3)), (43, (.iload 6, 2)), (45, (.istore 7, 2)), (47, (.goto 31, 3)), (50, (.aload_n 1, 1)), (51, (.getstatic 96, 3)), (54, (.if_acmp .ne 13, 3)), (57, (.aload_n 0, 1)), (58, (.iconst 1, 1)), (59, (.invokevirtual 13, 3)), (62, (.istore 7, 2)), (64, (.goto 14, 3)), (67, (.aload_n 1, 1)), (68, (.getstatic 90, 3)), (71, (.if_acmp .ne 7, 3)), (74, (.iload 5, 2)), (76, (.istore 7, 2))] = true := by decide +kernel
theorem dX2_shiftRight_0 : decode cX2_shiftRight 0 = .ok (.iload_n 3, 1) := xdc ddX2_shiftRight_0 0 rfl
theorem dX2_shiftRight_1 : decode cX2_shiftRight 1 = .ok (.invokestatic 17, 3) := xdc ddX2_shiftRight_0 1 rfl
theorem dX2_shiftRight_4 : decode cX2_shiftRight 4 = .ok (.istore 4, 2) := xdc ddX2_shiftRight_0 2 rfl
theorem dX2_shiftRight_6 : decode cX2_shiftRight 6 = .ok (.iload_n 2, 1) := xdc ddX2_shiftRight_0 3 rfl
theorem dX2_shiftRight_7 : decode cX2_shiftRight 7 = .ok (.iload 4, 2) := xdc ddX2_shiftRight_0 4 rfl
theorem dX2_shiftRight_9 : decode cX2_shiftRight 9 = .ok (.iand, 1) := xdc ddX2_shiftRight_0 5 rfl
theorem dX2_shiftRight_10 : decode cX2_shiftRight 10 = .ok (.ifCond .eq 7, 3) := xdc ddX2_shiftRight_0 6 rfl
theorem dX2_shiftRight_13 : decode cX2_shiftRight 13 = .ok (.iconst 1, 1) := xdc ddX2_shiftRight_0 7 rfl
theorem dX2_shiftRight_14 : decode cX2_shiftRight 14 = .ok (.goto 4, 3) := xdc ddX2_shiftRight_0 8 rfl
theorem dX2_shiftRight_17 : decode cX2_shiftRight 17 = .ok (.iconst 0, 1) := xdc ddX2_shiftRight_0 9 rfl
theorem dX2_shiftRight_18 : decode cX2_shiftRight 18 = .ok (.istore 5, 2) := xdc ddX2_shiftRight_0 10 rfl
theorem dX2_shiftRight_20 : decode cX2_shiftRight 20 = .ok (.iload_n 2, 1) := xdc ddX2_shiftRight_0 11 rfl
theorem dX2_shiftRight_21 : decode cX2_shiftRight 21 = .ok (.iconst 1, 1) := xdc ddX2_shiftRight_0 12 rfl
theorem dX2_shiftRight_22 : decode cX2_shiftRight 22 = .ok (.iand, 1) := xdc ddX2_shiftRight_0 13 rfl
theorem dX2_shiftRight_23 : decode cX2_shiftRight 23 = .ok (.ifCond .eq 7, 3) := xdc ddX2_shiftRight_0 14 rfl
theorem dX2_shiftRight_26 : decode cX2_shiftRight 26 = .ok (.iconst 1, 1) := xdc ddX2_shiftRight_0 15 rfl
theorem dX2_shiftRight_27 : decode cX2_shiftRight 27 = .ok (.goto 4, 3) := xdc ddX2_shiftRight_0 16 rfl
theorem dX2_shiftRight_30 : decode cX2_shiftRight 30 = .ok (.iconst 0, 1) := xdc ddX2_shiftRight_0 17 rfl
theorem dX2_shiftRight_31 : decode cX2_shiftRight 31 = .ok (.istore 6, 2) := xdc ddX2_shiftRight_0 18 rfl
theorem dX2_shiftRight_33 : decode cX2_shiftRight 33 = .ok (.iconst 0, 1) := xdc ddX2_shiftRight_0 19 rfl
theorem dX2_shiftRight_34 : decode cX2_shiftRight 34 = .ok (.istore 7, 2) := xdc ddX2_shiftRight_0 20 rfl
theorem dX2_shiftRight_36 : decode cX2_shiftRight 36 = .ok (.aload_n 1, 1) := xdc ddX2_shiftRight_0 21 rfl
theorem dX2_shiftRight_37 : decode cX2_shiftRight 37 = .ok (.getstatic 93, 3) := xdc ddX2_shiftRight_0 22 rfl
theorem dX2_shiftRight_40 : decode cX2_shiftRight 40 = .ok (.if_acmp .ne 10, 3) := xdc ddX2_shiftRight_0 23 rfl
theorem dX2_shiftRight_43 : decode cX2_shiftRight 43 = .ok (.iload 6, 2) := xdc ddX2_shiftRight_0 24 rfl
theorem dX2_shiftRight_45 : decode cX2_shiftRight 45 = .ok (.istore 7, 2) := xdc ddX2_shiftRight_0 25 rfl
theorem dX2_shiftRight_47 : decode cX2_shiftRight 47 = .ok (.goto 31, 3) := xdc ddX2_shiftRight_0 26 rfl
theorem dX2_shiftRight_50 : decode cX2_shiftRight 50 = .ok (.aload_n 1, 1) := xdc ddX2_shiftRight_0 27 rfl
theorem dX2_shiftRight_51 : decode cX2_shiftRight 51 = .ok (.getstatic 96, 3) := xdc ddX2_shiftRight_0 28 rfl
theorem dX2_shiftRight_54 : decode cX2_shiftRight 54 = .ok (.if_acmp .ne 13, 3) := xdc ddX2_shiftRight_0 29 rfl
theorem dX2_shiftRight_57 : decode cX2_shiftRight 57 = .ok (.aload_n 0, 1) := xdc ddX2_shiftRight_0 30 rfl
theorem dX2_shiftRight_58 : decode cX2_shiftRight 58 = .ok (.iconst 1, 1) := xdc ddX2_shiftRight_0 31 rfl
theorem dX2_shiftRight_59 : decode cX2_shiftRight 59 = .ok (.invokevirtual 13, 3) := xdc ddX2_shiftRight_0 32 rfl
theorem dX2_shiftRight_62 : decode cX2_shiftRight 62 = .ok (.istore 7, 2) := xdc ddX2_shiftRight_0 33 rfl
theorem dX2_shiftRight_64 : decode cX2_shiftRight 64 = .ok (.goto 14, 3) := xdc ddX2_shiftRight_0 34 rfl
theorem dX2_shiftRight_67 : decode cX2_shiftRight 67 = .ok (.aload_n 1, 1) := xdc ddX2_shiftRight_0 35 rfl
theorem dX2_shiftRight_68 : decode cX2_shiftRight 68 = .ok (.getstatic 90, 3) := xdc ddX2_shiftRight_0 36 rfl
theorem dX2_shiftRight_71 : decode cX2_shiftRight 71 = .ok (.if_acmp .ne 7, 3) := xdc ddX2_shiftRight_0 37 rfl
theorem dX2_shiftRight_74 : decode cX2_shiftRight 74 = .ok (.iload 5, 2) := xdc ddX2_shiftRight_0 38 rfl
theorem dX2_shiftRight_76 : decode cX2_shiftRight 76 = .ok (.istore 7, 2) := xdc ddX2_shiftRight_0 39 rfl
theorem ddX2_shiftRight_1 : xdec cX2_shiftRight [(78, (.iload_n 2, 1)), (79, (.iconst 1, 1)), (80, (.iushr, 1)), (81, (.iload 7, 2)), (83, (.ifCond .eq 8, 3)), (86, (.iload 4, 2)), (88, (.goto 4, 3)), (91, (.iconst 0, 1)), (92, (.ior, 1)), (93, (.istore 9, 2)), (95, (.aload_n 1, 1)), (96, (.getstatic 87, 3)), (99, (.if_acmp .ne 10, 3)), (102, (.iload 5, 2)), (104, (.istore 8, 2)), (106, (.goto 24, 3)), (109, (.aload_n 1, 1)), (110, (.getstatic 90, 3)), (113, (.if_acmp .eq 14, 3)), (116, (.iload 7, 2)), (118, (.iload 5, 2)), (120, (.if_icmp .eq 7, 3)), (123, (.iconst 1, 1)), (124, (.goto 4, 3)), (127, (.iconst 0, 1)), (128, (.istore 8, 2)), (130, (.aload_n 0, 1)), (131, (.iload 6, 2)), (133, (.iload 8, 2)), (135, (.invokevirtual 62, 3)), (138, (.iload 9, 2)), (140, (.ireturn, 1))] = true := by decide +kernel
theorem dX2_shiftRight_78 : decode cX2_shiftRight 78 = .ok (.iload_n 2, 1) := xdc ddX2_shiftRight_1 0 rfl
theorem dX2_shiftRight_79 : decode cX2_shiftRight 79 = .ok (.iconst 1, 1) := xdc ddX2_shiftRight_1 1 rfl
theorem dX2_shiftRight_80 : decode cX2_shiftRight 80 = .ok (.iushr, 1) := xdc ddX2_shiftRight_1 2 rfl
theorem dX2_shiftRight_81 : decode cX2_shiftRight 81 = .ok (.iload 7, 2) := xdc ddX2_shiftRight_1 3 rfl
theorem dX2_shiftRight_83 : decode cX2_shiftRight 83 = .ok (.ifCond .eq 8, 3) := xdc ddX2_shiftRight_1 4 rfl
theorem dX2_shiftRight_86 : decode cX2_shiftRight 86 = .ok (.iload 4, 2) := xdc ddX2_shiftRight_1 5 rfl
theorem dX2_shiftRight_88 : decode cX2_shiftRight 88 = .ok (.goto 4, 3) := xdc ddX2_shiftRight_1 6 rfl
theorem dX2_shiftRight_91 : decode cX2_shiftRight 91 = .ok (.iconst 0, 1) := xdc ddX2_shiftRight_1 7 rfl
theorem dX2_shiftRight_92 : decode cX2_shiftRight 92 = .ok (.ior, 1) := xdc ddX2_shiftRight_1 8 rfl
theorem dX2_shiftRight_93 : decode cX2_shiftRight 93 = .ok (.istore 9, 2) := xdc ddX2_shiftRight_1 9 rfl
theorem dX2_shiftRight_95 : decode cX2_shiftRight 95 = .ok (.aload_n 1, 1) := xdc ddX2_shiftRight_1 10 rfl
theorem dX2_shiftRight_96 : decode cX2_shiftRight 96 = .ok (.getstatic 87, 3) := xdc ddX2_shiftRight_1 11 rfl
theorem dX2_shiftRight_99 : decode cX2_shiftRight 99 = .ok (.if_acmp .ne 10, 3) := xdc ddX2_shiftRight_1 12 rfl
theorem dX2_shiftRight_102 : decode cX2_shiftRight 102 = .ok (.iload 5, 2) := xdc ddX2_shiftRight_1 13 rfl
theorem dX2_shiftRight_104 : decode cX2_shiftRight 104 = .ok (.istore 8, 2) := xdc ddX2_shiftRight_1 14 rfl
theorem dX2_shiftRight_106 : decode cX2_shiftRight 106 = .ok (.goto 24, 3) := xdc ddX2_shiftRight_1 15 rfl
theorem dX2_shiftRight_109 : decode cX2_shiftRight 109 = .ok (.aload_n 1, 1) := xdc ddX2_shiftRight_1 16 rfl
theorem dX2_shiftRight_110 : decode cX2_shiftRight 110 = .ok (.getstatic 90, 3) := xdc ddX2_shiftRight_1 17 rfl
theorem dX2_shiftRight_113 : decode cX2_shiftRight 113 = .ok (.if_acmp .eq 14, 3) := xdc ddX2_shiftRight_1 18 rfl
theorem dX2_shiftRight_116 : decode cX2_shiftRight 116 = .ok (.iload 7, 2) := xdc ddX2_shiftRight_1 19 rfl
theorem dX2_shiftRight_118 : decode cX2_shiftRight 118 = .ok (.iload 5, 2) := xdc ddX2_shiftRight_1 20 rfl
theorem dX2_shiftRight_120 : decode cX2_shiftRight 120 = .ok (.if_icmp .eq 7, 3) := xdc ddX2_shiftRight_1 21 rfl
theorem dX2_shiftRight_123 : decode cX2_shiftRight 123 = .ok (.iconst 1, 1) := xdc ddX2_shiftRight_1 22 rfl
theorem dX2_shiftRight_124 : decode cX2_shiftRight 124 = .ok (.goto 4, 3) := xdc ddX2_shiftRight_1 23 rfl
theorem dX2_shiftRight_127 : decode cX2_shiftRight 127 = .ok (.iconst 0, 1) := xdc ddX2_shiftRight_1 24 rfl
theorem dX2_shiftRight_128 : decode cX2_shiftRight 128 = .ok (.istore 8, 2) := xdc ddX2_shiftRight_1 25 rfl
theorem dX2_shiftRight_130 : decode cX2_shiftRight 130 = .ok (.aload_n 0, 1) := xdc ddX2_shiftRight_1 26 rfl
theorem dX2_shiftRight_131 : decode cX2_shiftRight 131 = .ok (.iload 6, 2) := xdc ddX2_shiftRight_1 27 rfl
theorem dX2_shiftRight_133 : decode cX2_shiftRight 133 = .ok (.iload 8, 2) := xdc ddX2_shiftRight_1 28 rfl
theorem dX2_shiftRight_135 : decode cX2_shiftRight 135 = .ok (.invokevirtual 62, 3) := xdc ddX2_shiftRight_1 29 rfl
theorem dX2_shiftRight_138 : decode cX2_shiftRight 138 = .ok (.iload 9, 2) := xdc ddX2_shiftRight_1 30 rfl
theorem dX2_shiftRight_140 : decode cX2_shiftRight 140 = .ok (.ireturn, 1) := xdc ddX2_shiftRight_1 31 rfl
abbrev cX2_shift : ByteArray := prog_4_method_12_code
theorem ddX2_shift_0 : xdec cX2_shift [(0, (.iload_n 2, 1)), (1, (.istore 5, 2)), (3, (.iconst 0, 1)), (4, (.istore 6, 2)), (6, (.iload 6, 2)), (8, (.iload_n 3, 1)), (9, (.if_icmp .ge 60, 3)), (12, (.iload 6, 2)), (14, (.bipush 32, 2)), (16, (.if_icmp .ge 53, 3)), (19, (.aload_n 1, 1)), (20, (.getstatic 70, 3)), (23, (.if_acmp .eq 17, 3)), (26, (.aload_n 1, 1)), (27, (.getstatic 74, 3)), (30, (.if_acmp .eq 10, 3)), (33, (.aload_n 1, 1)), (34, (.getstatic 77, 3)), (37, (.if_acmp .ne 15, 3)), (40, (.aload_n 0, 1)), (41, (.aload_n 1, 1)), (42, (.iload 5, 2)), (44, (.iload 4, 2)), (46, (.invokevirtual 80, 3)), (49, (.goto 12, 3)), (52, (.aload_n 0, 1)), (53, (.aload_n 1, 1)), (54, (.iload 5, 2)), (56, (.iload 4, 2)), (58, (.invokevirtual 84, 3)), (61, (.istore 5, 2)), (63, (.iinc 6 1, 3)), (66, (.goto (-60), 3)), (69, (.aload_n 1, 1)), (70, (.getstatic 77, 3)), (73, (.if_acmp .eq 17, 3)), (76, (.aload_n 1, 1)), (77, (.getstatic 87, 3)), (80, (.if_acmp .eq 10, 3)), (83, (.aload_n 1, 1))] = true := by decide +kernel
theorem dX2_shift_0 : decode cX2_shift 0 = .ok (.iload_n 2, 1) := xdc ddX2_shift_0 0 rfl
theorem dX2_shift_1 : decode cX2_shift 1 = .ok (.istore 5, 2) := xdc ddX2_shift_0 1 rfl
theorem dX2_shift_3 : decode cX2_shift 3 = .ok (.iconst 0, 1) := xdc ddX2_shift_0 2 rfl
theorem dX2_shift_4 : decode cX2_shift 4 = .ok (.istore 6, 2) := xdc ddX2_shift_0 3 rfl
theorem dX2_shift_6 : decode cX2_shift 6 = .ok (.iload 6, 2) := xdc ddX2_shift_0 4 rfl
theorem dX2_shift_8 : decode cX2_shift 8 = .ok (.iload_n 3, 1) := xdc ddX2_shift_0 5 rfl
theorem dX2_shift_9 : decode cX2_shift 9 = .ok (.if_icmp .ge 60, 3) := xdc ddX2_shift_0 6 rfl
theorem dX2_shift_12 : decode cX2_shift 12 = .ok (.iload 6, 2) := xdc ddX2_shift_0 7 rfl
theorem dX2_shift_14 : decode cX2_shift 14 = .ok (.bipush 32, 2) := xdc ddX2_shift_0 8 rfl
theorem dX2_shift_16 : decode cX2_shift 16 = .ok (.if_icmp .ge 53, 3) := xdc ddX2_shift_0 9 rfl
theorem dX2_shift_19 : decode cX2_shift 19 = .ok (.aload_n 1, 1) := xdc ddX2_shift_0 10 rfl
theorem dX2_shift_20 : decode cX2_shift 20 = .ok (.getstatic 70, 3) := xdc ddX2_shift_0 11 rfl
theorem dX2_shift_23 : decode cX2_shift 23 = .ok (.if_acmp .eq 17, 3) := xdc ddX2_shift_0 12 rfl
theorem dX2_shift_26 : decode cX2_shift 26 = .ok (.aload_n 1, 1) := xdc ddX2_shift_0 13 rfl
theorem dX2_shift_27 : decode cX2_shift 27 = .ok (.getstatic 74, 3) := xdc ddX2_shift_0 14 rfl
theorem dX2_shift_30 : decode cX2_shift 30 = .ok (.if_acmp .eq 10, 3) := xdc ddX2_shift_0 15 rfl
theorem dX2_shift_33 : decode cX2_shift 33 = .ok (.aload_n 1, 1) := xdc ddX2_shift_0 16 rfl
theorem dX2_shift_34 : decode cX2_shift 34 = .ok (.getstatic 77, 3) := xdc ddX2_shift_0 17 rfl
theorem dX2_shift_37 : decode cX2_shift 37 = .ok (.if_acmp .ne 15, 3) := xdc ddX2_shift_0 18 rfl
theorem dX2_shift_40 : decode cX2_shift 40 = .ok (.aload_n 0, 1) := xdc ddX2_shift_0 19 rfl
theorem dX2_shift_41 : decode cX2_shift 41 = .ok (.aload_n 1, 1) := xdc ddX2_shift_0 20 rfl
theorem dX2_shift_42 : decode cX2_shift 42 = .ok (.iload 5, 2) := xdc ddX2_shift_0 21 rfl
theorem dX2_shift_44 : decode cX2_shift 44 = .ok (.iload 4, 2) := xdc ddX2_shift_0 22 rfl
theorem dX2_shift_46 : decode cX2_shift 46 = .ok (.invokevirtual 80, 3) := xdc ddX2_shift_0 23 rfl
theorem dX2_shift_49 : decode cX2_shift 49 = .ok (.goto 12, 3) := xdc ddX2_shift_0 24 rfl
theorem dX2_shift_52 : decode cX2_shift 52 = .ok (.aload_n 0, 1) := xdc ddX2_shift_0 25 rfl
theorem dX2_shift_53 : decode cX2_shift 53 = .ok (.aload_n 1, 1) := xdc ddX2_shift_0 26 rfl
theorem dX2_shift_54 : decode cX2_shift 54 = .ok (.iload 5, 2) := xdc ddX2_shift_0 27 rfl
theorem dX2_shift_56 : decode cX2_shift 56 = .ok (.iload 4, 2) := xdc ddX2_shift_0 28 rfl
theorem dX2_shift_58 : decode cX2_shift 58 = .ok (.invokevirtual 84, 3) := xdc ddX2_shift_0 29 rfl
theorem dX2_shift_61 : decode cX2_shift 61 = .ok (.istore 5, 2) := xdc ddX2_shift_0 30 rfl
theorem dX2_shift_63 : decode cX2_shift 63 = .ok (.iinc 6 1, 3) := xdc ddX2_shift_0 31 rfl
theorem dX2_shift_66 : decode cX2_shift 66 = .ok (.goto (-60), 3) := xdc ddX2_shift_0 32 rfl
theorem dX2_shift_69 : decode cX2_shift 69 = .ok (.aload_n 1, 1) := xdc ddX2_shift_0 33 rfl
theorem dX2_shift_70 : decode cX2_shift 70 = .ok (.getstatic 77, 3) := xdc ddX2_shift_0 34 rfl
theorem dX2_shift_73 : decode cX2_shift 73 = .ok (.if_acmp .eq 17, 3) := xdc ddX2_shift_0 35 rfl
theorem dX2_shift_76 : decode cX2_shift 76 = .ok (.aload_n 1, 1) := xdc ddX2_shift_0 36 rfl
theorem dX2_shift_77 : decode cX2_shift 77 = .ok (.getstatic 87, 3) := xdc ddX2_shift_0 37 rfl
theorem dX2_shift_80 : decode cX2_shift 80 = .ok (.if_acmp .eq 10, 3) := xdc ddX2_shift_0 38 rfl
theorem dX2_shift_83 : decode cX2_shift 83 = .ok (.aload_n 1, 1) := xdc ddX2_shift_0 39 rfl
theorem ddX2_shift_1 : xdec cX2_shift [(84, (.getstatic 90, 3)), (87, (.if_acmp .ne 11, 3)), (90, (.aload_n 0, 1)), (91, (.iload 5, 2)), (93, (.iload 4, 2)), (95, (.invokevirtual 58, 3)), (98, (.iload 5, 2)), (100, (.ireturn, 1))] = true := by decide +kernel
theorem dX2_shift_84 : decode cX2_shift 84 = .ok (.getstatic 90, 3) := xdc ddX2_shift_1 0 rfl
theorem dX2_shift_87 : decode cX2_shift 87 = .ok (.if_acmp .ne 11, 3) := xdc ddX2_shift_1 1 rfl
theorem dX2_shift_90 : decode cX2_shift 90 = .ok (.aload_n 0, 1) := xdc ddX2_shift_1 2 rfl
theorem dX2_shift_91 : decode cX2_shift 91 = .ok (.iload 5, 2) := xdc ddX2_shift_1 3 rfl
theorem dX2_shift_93 : decode cX2_shift 93 = .ok (.iload 4, 2) := xdc ddX2_shift_1 4 rfl
theorem dX2_shift_95 : decode cX2_shift 95 = .ok (.invokevirtual 58, 3) := xdc ddX2_shift_1 5 rfl
theorem dX2_shift_98 : decode cX2_shift 98 = .ok (.iload 5, 2) := xdc ddX2_shift_1 6 rfl
theorem dX2_shift_100 : decode cX2_shift 100 = .ok (.ireturn, 1) := xdc ddX2_shift_1 7 rfl
abbrev cX2_shiftDouble : ByteArray := prog_4_method_15_code
theorem ddX2_shiftDouble_0 : xdec cX2_shiftDouble [(0, (.aload_n 1, 1)), (1, (.getstatic 99, 3)), (4, (.if_acmp .ne 7, 3)), (7, (.iconst 1, 1)), (8, (.goto 4, 3)), (11, (.iconst 0, 1)), (12, (.istore 5, 2)), (14, (.iload 5, 2)), (16, (.ifCond .eq 18, 3)), (19, (.iload_n 2, 1)), (20, (.iload 4, 2)), (22, (.ishl, 1)), (23, (.iload_n 3, 1)), (24, (.bipush 32, 2)), (26, (.iload 4, 2)), (28, (.isub, 1)), (29, (.iushr, 1)), (30, (.ior, 1)), (31, (.goto 15, 3)), (34, (.iload_n 2, 1)), (35, (.iload 4, 2)), (37, (.iushr, 1)), (38, (.iload_n 3, 1)), (39, (.bipush 32, 2)), (41, (.iload 4, 2)), (43, (.isub, 1)), (44, (.ishl, 1)), (45, (.ior, 1)), (46, (.istore 6, 2)), (48, (.iload 5, 2)), (50, (.ifCond .eq 13, 3)), (53, (.iload_n 2, 1)), (54, (.bipush 32, 2)), (56, (.iload 4, 2)), (58, (.isub, 1)), (59, (.iushr, 1)), (60, (.goto 9, 3)), (63, (.iload_n 2, 1)), (64, (.iload 4, 2)), (66, (.iconst 1, 1))] = true := by decide +kernel
theorem dX2_shiftDouble_0 : decode cX2_shiftDouble 0 = .ok (.aload_n 1, 1) := xdc ddX2_shiftDouble_0 0 rfl
theorem dX2_shiftDouble_1 : decode cX2_shiftDouble 1 = .ok (.getstatic 99, 3) := xdc ddX2_shiftDouble_0 1 rfl
theorem dX2_shiftDouble_4 : decode cX2_shiftDouble 4 = .ok (.if_acmp .ne 7, 3) := xdc ddX2_shiftDouble_0 2 rfl
theorem dX2_shiftDouble_7 : decode cX2_shiftDouble 7 = .ok (.iconst 1, 1) := xdc ddX2_shiftDouble_0 3 rfl
theorem dX2_shiftDouble_8 : decode cX2_shiftDouble 8 = .ok (.goto 4, 3) := xdc ddX2_shiftDouble_0 4 rfl
theorem dX2_shiftDouble_11 : decode cX2_shiftDouble 11 = .ok (.iconst 0, 1) := xdc ddX2_shiftDouble_0 5 rfl
theorem dX2_shiftDouble_12 : decode cX2_shiftDouble 12 = .ok (.istore 5, 2) := xdc ddX2_shiftDouble_0 6 rfl
theorem dX2_shiftDouble_14 : decode cX2_shiftDouble 14 = .ok (.iload 5, 2) := xdc ddX2_shiftDouble_0 7 rfl
theorem dX2_shiftDouble_16 : decode cX2_shiftDouble 16 = .ok (.ifCond .eq 18, 3) := xdc ddX2_shiftDouble_0 8 rfl
theorem dX2_shiftDouble_19 : decode cX2_shiftDouble 19 = .ok (.iload_n 2, 1) := xdc ddX2_shiftDouble_0 9 rfl
theorem dX2_shiftDouble_20 : decode cX2_shiftDouble 20 = .ok (.iload 4, 2) := xdc ddX2_shiftDouble_0 10 rfl
theorem dX2_shiftDouble_22 : decode cX2_shiftDouble 22 = .ok (.ishl, 1) := xdc ddX2_shiftDouble_0 11 rfl
theorem dX2_shiftDouble_23 : decode cX2_shiftDouble 23 = .ok (.iload_n 3, 1) := xdc ddX2_shiftDouble_0 12 rfl
theorem dX2_shiftDouble_24 : decode cX2_shiftDouble 24 = .ok (.bipush 32, 2) := xdc ddX2_shiftDouble_0 13 rfl
theorem dX2_shiftDouble_26 : decode cX2_shiftDouble 26 = .ok (.iload 4, 2) := xdc ddX2_shiftDouble_0 14 rfl
theorem dX2_shiftDouble_28 : decode cX2_shiftDouble 28 = .ok (.isub, 1) := xdc ddX2_shiftDouble_0 15 rfl
theorem dX2_shiftDouble_29 : decode cX2_shiftDouble 29 = .ok (.iushr, 1) := xdc ddX2_shiftDouble_0 16 rfl
theorem dX2_shiftDouble_30 : decode cX2_shiftDouble 30 = .ok (.ior, 1) := xdc ddX2_shiftDouble_0 17 rfl
theorem dX2_shiftDouble_31 : decode cX2_shiftDouble 31 = .ok (.goto 15, 3) := xdc ddX2_shiftDouble_0 18 rfl
theorem dX2_shiftDouble_34 : decode cX2_shiftDouble 34 = .ok (.iload_n 2, 1) := xdc ddX2_shiftDouble_0 19 rfl
theorem dX2_shiftDouble_35 : decode cX2_shiftDouble 35 = .ok (.iload 4, 2) := xdc ddX2_shiftDouble_0 20 rfl
theorem dX2_shiftDouble_37 : decode cX2_shiftDouble 37 = .ok (.iushr, 1) := xdc ddX2_shiftDouble_0 21 rfl
theorem dX2_shiftDouble_38 : decode cX2_shiftDouble 38 = .ok (.iload_n 3, 1) := xdc ddX2_shiftDouble_0 22 rfl
theorem dX2_shiftDouble_39 : decode cX2_shiftDouble 39 = .ok (.bipush 32, 2) := xdc ddX2_shiftDouble_0 23 rfl
theorem dX2_shiftDouble_41 : decode cX2_shiftDouble 41 = .ok (.iload 4, 2) := xdc ddX2_shiftDouble_0 24 rfl
theorem dX2_shiftDouble_43 : decode cX2_shiftDouble 43 = .ok (.isub, 1) := xdc ddX2_shiftDouble_0 25 rfl
theorem dX2_shiftDouble_44 : decode cX2_shiftDouble 44 = .ok (.ishl, 1) := xdc ddX2_shiftDouble_0 26 rfl
theorem dX2_shiftDouble_45 : decode cX2_shiftDouble 45 = .ok (.ior, 1) := xdc ddX2_shiftDouble_0 27 rfl
theorem dX2_shiftDouble_46 : decode cX2_shiftDouble 46 = .ok (.istore 6, 2) := xdc ddX2_shiftDouble_0 28 rfl
theorem dX2_shiftDouble_48 : decode cX2_shiftDouble 48 = .ok (.iload 5, 2) := xdc ddX2_shiftDouble_0 29 rfl
theorem dX2_shiftDouble_50 : decode cX2_shiftDouble 50 = .ok (.ifCond .eq 13, 3) := xdc ddX2_shiftDouble_0 30 rfl
theorem dX2_shiftDouble_53 : decode cX2_shiftDouble 53 = .ok (.iload_n 2, 1) := xdc ddX2_shiftDouble_0 31 rfl
theorem dX2_shiftDouble_54 : decode cX2_shiftDouble 54 = .ok (.bipush 32, 2) := xdc ddX2_shiftDouble_0 32 rfl
theorem dX2_shiftDouble_56 : decode cX2_shiftDouble 56 = .ok (.iload 4, 2) := xdc ddX2_shiftDouble_0 33 rfl
theorem dX2_shiftDouble_58 : decode cX2_shiftDouble 58 = .ok (.isub, 1) := xdc ddX2_shiftDouble_0 34 rfl
theorem dX2_shiftDouble_59 : decode cX2_shiftDouble 59 = .ok (.iushr, 1) := xdc ddX2_shiftDouble_0 35 rfl
theorem dX2_shiftDouble_60 : decode cX2_shiftDouble 60 = .ok (.goto 9, 3) := xdc ddX2_shiftDouble_0 36 rfl
theorem dX2_shiftDouble_63 : decode cX2_shiftDouble 63 = .ok (.iload_n 2, 1) := xdc ddX2_shiftDouble_0 37 rfl
theorem dX2_shiftDouble_64 : decode cX2_shiftDouble 64 = .ok (.iload 4, 2) := xdc ddX2_shiftDouble_0 38 rfl
theorem dX2_shiftDouble_66 : decode cX2_shiftDouble 66 = .ok (.iconst 1, 1) := xdc ddX2_shiftDouble_0 39 rfl
theorem ddX2_shiftDouble_1 : xdec cX2_shiftDouble [(67, (.isub, 1)), (68, (.iushr, 1)), (69, (.istore 7, 2)), (71, (.aload_n 0, 1)), (72, (.iload 6, 2)), (74, (.iconst 4, 1)), (75, (.invokevirtual 58, 3)), (78, (.aload_n 0, 1)), (79, (.iload 7, 2)), (81, (.iconst 1, 1)), (82, (.iand, 1)), (83, (.ifCond .eq 7, 3)), (86, (.iconst 1, 1)), (87, (.goto 4, 3)), (90, (.iconst 0, 1)), (91, (.iload_n 2, 1)), (92, (.iload 6, 2)), (94, (.ixor, 1)), (95, (.ifCond .ge 7, 3)), (98, (.iconst 1, 1)), (99, (.goto 4, 3)), (102, (.iconst 0, 1)), (103, (.invokevirtual 62, 3)), (106, (.iload 6, 2)), (108, (.ireturn, 1))] = true := by decide +kernel
theorem dX2_shiftDouble_67 : decode cX2_shiftDouble 67 = .ok (.isub, 1) := xdc ddX2_shiftDouble_1 0 rfl
theorem dX2_shiftDouble_68 : decode cX2_shiftDouble 68 = .ok (.iushr, 1) := xdc ddX2_shiftDouble_1 1 rfl
theorem dX2_shiftDouble_69 : decode cX2_shiftDouble 69 = .ok (.istore 7, 2) := xdc ddX2_shiftDouble_1 2 rfl
theorem dX2_shiftDouble_71 : decode cX2_shiftDouble 71 = .ok (.aload_n 0, 1) := xdc ddX2_shiftDouble_1 3 rfl
theorem dX2_shiftDouble_72 : decode cX2_shiftDouble 72 = .ok (.iload 6, 2) := xdc ddX2_shiftDouble_1 4 rfl
theorem dX2_shiftDouble_74 : decode cX2_shiftDouble 74 = .ok (.iconst 4, 1) := xdc ddX2_shiftDouble_1 5 rfl
theorem dX2_shiftDouble_75 : decode cX2_shiftDouble 75 = .ok (.invokevirtual 58, 3) := xdc ddX2_shiftDouble_1 6 rfl
theorem dX2_shiftDouble_78 : decode cX2_shiftDouble 78 = .ok (.aload_n 0, 1) := xdc ddX2_shiftDouble_1 7 rfl
theorem dX2_shiftDouble_79 : decode cX2_shiftDouble 79 = .ok (.iload 7, 2) := xdc ddX2_shiftDouble_1 8 rfl
theorem dX2_shiftDouble_81 : decode cX2_shiftDouble 81 = .ok (.iconst 1, 1) := xdc ddX2_shiftDouble_1 9 rfl
theorem dX2_shiftDouble_82 : decode cX2_shiftDouble 82 = .ok (.iand, 1) := xdc ddX2_shiftDouble_1 10 rfl
theorem dX2_shiftDouble_83 : decode cX2_shiftDouble 83 = .ok (.ifCond .eq 7, 3) := xdc ddX2_shiftDouble_1 11 rfl
theorem dX2_shiftDouble_86 : decode cX2_shiftDouble 86 = .ok (.iconst 1, 1) := xdc ddX2_shiftDouble_1 12 rfl
theorem dX2_shiftDouble_87 : decode cX2_shiftDouble 87 = .ok (.goto 4, 3) := xdc ddX2_shiftDouble_1 13 rfl
theorem dX2_shiftDouble_90 : decode cX2_shiftDouble 90 = .ok (.iconst 0, 1) := xdc ddX2_shiftDouble_1 14 rfl
theorem dX2_shiftDouble_91 : decode cX2_shiftDouble 91 = .ok (.iload_n 2, 1) := xdc ddX2_shiftDouble_1 15 rfl
theorem dX2_shiftDouble_92 : decode cX2_shiftDouble 92 = .ok (.iload 6, 2) := xdc ddX2_shiftDouble_1 16 rfl
theorem dX2_shiftDouble_94 : decode cX2_shiftDouble 94 = .ok (.ixor, 1) := xdc ddX2_shiftDouble_1 17 rfl
theorem dX2_shiftDouble_95 : decode cX2_shiftDouble 95 = .ok (.ifCond .ge 7, 3) := xdc ddX2_shiftDouble_1 18 rfl
theorem dX2_shiftDouble_98 : decode cX2_shiftDouble 98 = .ok (.iconst 1, 1) := xdc ddX2_shiftDouble_1 19 rfl
theorem dX2_shiftDouble_99 : decode cX2_shiftDouble 99 = .ok (.goto 4, 3) := xdc ddX2_shiftDouble_1 20 rfl
theorem dX2_shiftDouble_102 : decode cX2_shiftDouble 102 = .ok (.iconst 0, 1) := xdc ddX2_shiftDouble_1 21 rfl
theorem dX2_shiftDouble_103 : decode cX2_shiftDouble 103 = .ok (.invokevirtual 62, 3) := xdc ddX2_shiftDouble_1 22 rfl
theorem dX2_shiftDouble_106 : decode cX2_shiftDouble 106 = .ok (.iload 6, 2) := xdc ddX2_shiftDouble_1 23 rfl
theorem dX2_shiftDouble_108 : decode cX2_shiftDouble 108 = .ok (.ireturn, 1) := xdc ddX2_shiftDouble_1 24 rfl
abbrev cX3_restart : ByteArray := prog_5_method_2_code
theorem ddX3_restart_0 : xdec cX3_restart [(0, (.aload_n 0, 1)), (1, (.iconst 0, 1)), (2, (.putfield 27, 3)), (5, (.aload_n 0, 1)), (6, (.ldc 18, 2)), (8, (.putfield 19, 3)), (11, (.aload_n 0, 1)), (12, (.iconst 0, 1)), (13, (.putfield 30, 3)), (16, (.return_, 1))] = true := by decide +kernel
theorem dX3_restart_0 : decode cX3_restart 0 = .ok (.aload_n 0, 1) := xdc ddX3_restart_0 0 rfl
theorem dX3_restart_1 : decode cX3_restart 1 = .ok (.iconst 0, 1) := xdc ddX3_restart_0 1 rfl
theorem dX3_restart_2 : decode cX3_restart 2 = .ok (.putfield 27, 3) := xdc ddX3_restart_0 2 rfl
theorem dX3_restart_5 : decode cX3_restart 5 = .ok (.aload_n 0, 1) := xdc ddX3_restart_0 3 rfl
theorem dX3_restart_6 : decode cX3_restart 6 = .ok (.ldc 18, 2) := xdc ddX3_restart_0 4 rfl
theorem dX3_restart_8 : decode cX3_restart 8 = .ok (.putfield 19, 3) := xdc ddX3_restart_0 5 rfl
theorem dX3_restart_11 : decode cX3_restart 11 = .ok (.aload_n 0, 1) := xdc ddX3_restart_0 6 rfl
theorem dX3_restart_12 : decode cX3_restart 12 = .ok (.iconst 0, 1) := xdc ddX3_restart_0 7 rfl
theorem dX3_restart_13 : decode cX3_restart 13 = .ok (.putfield 30, 3) := xdc ddX3_restart_0 8 rfl
theorem dX3_restart_16 : decode cX3_restart 16 = .ok (.return_, 1) := xdc ddX3_restart_0 9 rfl
abbrev cX3_outputAt : ByteArray := prog_5_method_3_code
theorem ddX3_outputAt_0 : xdec cX3_outputAt [(0, (.iload_n 1, 1)), (1, (.ifCond .lt 31, 3)), (4, (.iload_n 1, 1)), (5, (.aload_n 0, 1)), (6, (.getfield 27, 3)), (9, (.if_icmp .ge 23, 3)), (12, (.iload_n 1, 1)), (13, (.sipush 1024, 3)), (16, (.if_icmp .ge 16, 3)), (19, (.aload_n 0, 1)), (20, (.getfield 11, 3)), (23, (.iload_n 1, 1)), (24, (.baload, 1)), (25, (.sipush 255, 3)), (28, (.iand, 1)), (29, (.goto 4, 3)), (32, (.iconst (-1), 1)), (33, (.ireturn, 1))] = true := by decide +kernel
theorem dX3_outputAt_0 : decode cX3_outputAt 0 = .ok (.iload_n 1, 1) := xdc ddX3_outputAt_0 0 rfl
theorem dX3_outputAt_1 : decode cX3_outputAt 1 = .ok (.ifCond .lt 31, 3) := xdc ddX3_outputAt_0 1 rfl
theorem dX3_outputAt_4 : decode cX3_outputAt 4 = .ok (.iload_n 1, 1) := xdc ddX3_outputAt_0 2 rfl
theorem dX3_outputAt_5 : decode cX3_outputAt 5 = .ok (.aload_n 0, 1) := xdc ddX3_outputAt_0 3 rfl
theorem dX3_outputAt_6 : decode cX3_outputAt 6 = .ok (.getfield 27, 3) := xdc ddX3_outputAt_0 4 rfl
theorem dX3_outputAt_9 : decode cX3_outputAt 9 = .ok (.if_icmp .ge 23, 3) := xdc ddX3_outputAt_0 5 rfl
theorem dX3_outputAt_12 : decode cX3_outputAt 12 = .ok (.iload_n 1, 1) := xdc ddX3_outputAt_0 6 rfl
theorem dX3_outputAt_13 : decode cX3_outputAt 13 = .ok (.sipush 1024, 3) := xdc ddX3_outputAt_0 7 rfl
theorem dX3_outputAt_16 : decode cX3_outputAt 16 = .ok (.if_icmp .ge 16, 3) := xdc ddX3_outputAt_0 8 rfl
theorem dX3_outputAt_19 : decode cX3_outputAt 19 = .ok (.aload_n 0, 1) := xdc ddX3_outputAt_0 9 rfl
theorem dX3_outputAt_20 : decode cX3_outputAt 20 = .ok (.getfield 11, 3) := xdc ddX3_outputAt_0 10 rfl
theorem dX3_outputAt_23 : decode cX3_outputAt 23 = .ok (.iload_n 1, 1) := xdc ddX3_outputAt_0 11 rfl
theorem dX3_outputAt_24 : decode cX3_outputAt 24 = .ok (.baload, 1) := xdc ddX3_outputAt_0 12 rfl
theorem dX3_outputAt_25 : decode cX3_outputAt 25 = .ok (.sipush 255, 3) := xdc ddX3_outputAt_0 13 rfl
theorem dX3_outputAt_28 : decode cX3_outputAt 28 = .ok (.iand, 1) := xdc ddX3_outputAt_0 14 rfl
theorem dX3_outputAt_29 : decode cX3_outputAt 29 = .ok (.goto 4, 3) := xdc ddX3_outputAt_0 15 rfl
theorem dX3_outputAt_32 : decode cX3_outputAt 32 = .ok (.iconst (-1), 1) := xdc ddX3_outputAt_0 16 rfl
theorem dX3_outputAt_33 : decode cX3_outputAt 33 = .ok (.ireturn, 1) := xdc ddX3_outputAt_0 17 rfl
abbrev cX3_take : ByteArray := prog_5_method_4_code
theorem ddX3_take_0 : xdec cX3_take [(0, (.iconst 0, 1)), (1, (.istore 4, 2)), (3, (.iload 4, 2)), (5, (.iload_n 1, 1)), (6, (.if_icmp .ge 56, 3)), (9, (.aload_n 0, 1)), (10, (.getfield 33, 3)), (13, (.sipush 256, 3)), (16, (.if_icmp .ge 46, 3)), (19, (.aload_n 0, 1)), (20, (.getfield 15, 3)), (23, (.aload_n 0, 1)), (24, (.getfield 36, 3)), (27, (.aload_n 0, 1)), (28, (.getfield 33, 3)), (31, (.iadd, 1)), (32, (.sipush 255, 3)), (35, (.iand, 1)), (36, (.lload_n 2, 1)), (37, (.bipush 8, 2)), (39, (.iload 4, 2)), (41, (.imul, 1)), (42, (.lushr, 1)), (43, (.l2i, 1)), (44, (.i2b, 1)), (45, (.bastore, 1)), (46, (.aload_n 0, 1)), (47, (.dup, 1)), (48, (.getfield 33, 3)), (51, (.iconst 1, 1)), (52, (.iadd, 1)), (53, (.putfield 33, 3)), (56, (.iinc 4 1, 3)), (59, (.goto (-56), 3)), (62, (.return_, 1))] = true := by decide +kernel
theorem dX3_take_0 : decode cX3_take 0 = .ok (.iconst 0, 1) := xdc ddX3_take_0 0 rfl
theorem dX3_take_1 : decode cX3_take 1 = .ok (.istore 4, 2) := xdc ddX3_take_0 1 rfl
theorem dX3_take_3 : decode cX3_take 3 = .ok (.iload 4, 2) := xdc ddX3_take_0 2 rfl
theorem dX3_take_5 : decode cX3_take 5 = .ok (.iload_n 1, 1) := xdc ddX3_take_0 3 rfl
theorem dX3_take_6 : decode cX3_take 6 = .ok (.if_icmp .ge 56, 3) := xdc ddX3_take_0 4 rfl
theorem dX3_take_9 : decode cX3_take 9 = .ok (.aload_n 0, 1) := xdc ddX3_take_0 5 rfl
theorem dX3_take_10 : decode cX3_take 10 = .ok (.getfield 33, 3) := xdc ddX3_take_0 6 rfl
theorem dX3_take_13 : decode cX3_take 13 = .ok (.sipush 256, 3) := xdc ddX3_take_0 7 rfl
theorem dX3_take_16 : decode cX3_take 16 = .ok (.if_icmp .ge 46, 3) := xdc ddX3_take_0 8 rfl
theorem dX3_take_19 : decode cX3_take 19 = .ok (.aload_n 0, 1) := xdc ddX3_take_0 9 rfl
theorem dX3_take_20 : decode cX3_take 20 = .ok (.getfield 15, 3) := xdc ddX3_take_0 10 rfl
theorem dX3_take_23 : decode cX3_take 23 = .ok (.aload_n 0, 1) := xdc ddX3_take_0 11 rfl
theorem dX3_take_24 : decode cX3_take 24 = .ok (.getfield 36, 3) := xdc ddX3_take_0 12 rfl
theorem dX3_take_27 : decode cX3_take 27 = .ok (.aload_n 0, 1) := xdc ddX3_take_0 13 rfl
theorem dX3_take_28 : decode cX3_take 28 = .ok (.getfield 33, 3) := xdc ddX3_take_0 14 rfl
theorem dX3_take_31 : decode cX3_take 31 = .ok (.iadd, 1) := xdc ddX3_take_0 15 rfl
theorem dX3_take_32 : decode cX3_take 32 = .ok (.sipush 255, 3) := xdc ddX3_take_0 16 rfl
theorem dX3_take_35 : decode cX3_take 35 = .ok (.iand, 1) := xdc ddX3_take_0 17 rfl
theorem dX3_take_36 : decode cX3_take 36 = .ok (.lload_n 2, 1) := xdc ddX3_take_0 18 rfl
theorem dX3_take_37 : decode cX3_take 37 = .ok (.bipush 8, 2) := xdc ddX3_take_0 19 rfl
theorem dX3_take_39 : decode cX3_take 39 = .ok (.iload 4, 2) := xdc ddX3_take_0 20 rfl
theorem dX3_take_41 : decode cX3_take 41 = .ok (.imul, 1) := xdc ddX3_take_0 21 rfl
theorem dX3_take_42 : decode cX3_take 42 = .ok (.lushr, 1) := xdc ddX3_take_0 22 rfl
theorem dX3_take_43 : decode cX3_take 43 = .ok (.l2i, 1) := xdc ddX3_take_0 23 rfl
theorem dX3_take_44 : decode cX3_take 44 = .ok (.i2b, 1) := xdc ddX3_take_0 24 rfl
theorem dX3_take_45 : decode cX3_take 45 = .ok (.bastore, 1) := xdc ddX3_take_0 25 rfl
theorem dX3_take_46 : decode cX3_take 46 = .ok (.aload_n 0, 1) := xdc ddX3_take_0 26 rfl
theorem dX3_take_47 : decode cX3_take 47 = .ok (.dup, 1) := xdc ddX3_take_0 27 rfl
theorem dX3_take_48 : decode cX3_take 48 = .ok (.getfield 33, 3) := xdc ddX3_take_0 28 rfl
theorem dX3_take_51 : decode cX3_take 51 = .ok (.iconst 1, 1) := xdc ddX3_take_0 29 rfl
theorem dX3_take_52 : decode cX3_take 52 = .ok (.iadd, 1) := xdc ddX3_take_0 30 rfl
theorem dX3_take_53 : decode cX3_take 53 = .ok (.putfield 33, 3) := xdc ddX3_take_0 31 rfl
theorem dX3_take_56 : decode cX3_take 56 = .ok (.iinc 4 1, 3) := xdc ddX3_take_0 32 rfl
theorem dX3_take_59 : decode cX3_take 59 = .ok (.goto (-56), 3) := xdc ddX3_take_0 33 rfl
theorem dX3_take_62 : decode cX3_take 62 = .ok (.return_, 1) := xdc ddX3_take_0 34 rfl
abbrev cX8_isWithin : ByteArray := prog_10_method_2_code
theorem ddX8_isWithin_0 : xdec cX8_isWithin [(0, (.iload_n 0, 1)), (1, (.i2l, 1)), (2, (.ldc2_w 20, 3)), (5, (.land, 1)), (6, (.lstore 5, 2)), (8, (.lload 5, 2)), (10, (.iload_n 3, 1)), (11, (.i2l, 1)), (12, (.lcmp, 1)), (13, (.ifCond .lt 18, 3)), (16, (.lload 5, 2)), (18, (.lload_n 1, 1)), (19, (.ladd, 1)), (20, (.iload 4, 2)), (22, (.i2l, 1)), (23, (.lcmp, 1)), (24, (.ifCond .gt 7, 3)), (27, (.iconst 1, 1)), (28, (.goto 4, 3)), (31, (.iconst 0, 1)), (32, (.ireturn, 1))] = true := by decide +kernel
theorem dX8_isWithin_0 : decode cX8_isWithin 0 = .ok (.iload_n 0, 1) := xdc ddX8_isWithin_0 0 rfl
theorem dX8_isWithin_1 : decode cX8_isWithin 1 = .ok (.i2l, 1) := xdc ddX8_isWithin_0 1 rfl
theorem dX8_isWithin_2 : decode cX8_isWithin 2 = .ok (.ldc2_w 20, 3) := xdc ddX8_isWithin_0 2 rfl
theorem dX8_isWithin_5 : decode cX8_isWithin 5 = .ok (.land, 1) := xdc ddX8_isWithin_0 3 rfl
theorem dX8_isWithin_6 : decode cX8_isWithin 6 = .ok (.lstore 5, 2) := xdc ddX8_isWithin_0 4 rfl
theorem dX8_isWithin_8 : decode cX8_isWithin 8 = .ok (.lload 5, 2) := xdc ddX8_isWithin_0 5 rfl
theorem dX8_isWithin_10 : decode cX8_isWithin 10 = .ok (.iload_n 3, 1) := xdc ddX8_isWithin_0 6 rfl
theorem dX8_isWithin_11 : decode cX8_isWithin 11 = .ok (.i2l, 1) := xdc ddX8_isWithin_0 7 rfl
theorem dX8_isWithin_12 : decode cX8_isWithin 12 = .ok (.lcmp, 1) := xdc ddX8_isWithin_0 8 rfl
theorem dX8_isWithin_13 : decode cX8_isWithin 13 = .ok (.ifCond .lt 18, 3) := xdc ddX8_isWithin_0 9 rfl
theorem dX8_isWithin_16 : decode cX8_isWithin 16 = .ok (.lload 5, 2) := xdc ddX8_isWithin_0 10 rfl
theorem dX8_isWithin_18 : decode cX8_isWithin 18 = .ok (.lload_n 1, 1) := xdc ddX8_isWithin_0 11 rfl
theorem dX8_isWithin_19 : decode cX8_isWithin 19 = .ok (.ladd, 1) := xdc ddX8_isWithin_0 12 rfl
theorem dX8_isWithin_20 : decode cX8_isWithin 20 = .ok (.iload 4, 2) := xdc ddX8_isWithin_0 13 rfl
theorem dX8_isWithin_22 : decode cX8_isWithin 22 = .ok (.i2l, 1) := xdc ddX8_isWithin_0 14 rfl
theorem dX8_isWithin_23 : decode cX8_isWithin 23 = .ok (.lcmp, 1) := xdc ddX8_isWithin_0 15 rfl
theorem dX8_isWithin_24 : decode cX8_isWithin 24 = .ok (.ifCond .gt 7, 3) := xdc ddX8_isWithin_0 16 rfl
theorem dX8_isWithin_27 : decode cX8_isWithin 27 = .ok (.iconst 1, 1) := xdc ddX8_isWithin_0 17 rfl
theorem dX8_isWithin_28 : decode cX8_isWithin 28 = .ok (.goto 4, 3) := xdc ddX8_isWithin_0 18 rfl
theorem dX8_isWithin_31 : decode cX8_isWithin 31 = .ok (.iconst 0, 1) := xdc ddX8_isWithin_0 19 rfl
theorem dX8_isWithin_32 : decode cX8_isWithin 32 = .ok (.ireturn, 1) := xdc ddX8_isWithin_0 20 rfl
abbrev cX8_inData : ByteArray := prog_10_method_3_code
theorem ddX8_inData_0 : xdec cX8_inData [(0, (.iload_n 0, 1)), (1, (.lload_n 1, 1)), (2, (.ldc 11, 2)), (4, (.ldc 22, 2)), (6, (.invokestatic 23, 3)), (9, (.ireturn, 1))] = true := by decide +kernel
theorem dX8_inData_0 : decode cX8_inData 0 = .ok (.iload_n 0, 1) := xdc ddX8_inData_0 0 rfl
theorem dX8_inData_1 : decode cX8_inData 1 = .ok (.lload_n 1, 1) := xdc ddX8_inData_0 1 rfl
theorem dX8_inData_2 : decode cX8_inData 2 = .ok (.ldc 11, 2) := xdc ddX8_inData_0 2 rfl
theorem dX8_inData_4 : decode cX8_inData 4 = .ok (.ldc 22, 2) := xdc ddX8_inData_0 3 rfl
theorem dX8_inData_6 : decode cX8_inData 6 = .ok (.invokestatic 23, 3) := xdc ddX8_inData_0 4 rfl
theorem dX8_inData_9 : decode cX8_inData 9 = .ok (.ireturn, 1) := xdc ddX8_inData_0 5 rfl
abbrev cX8_dataAt : ByteArray := prog_10_method_5_code
theorem ddX8_dataAt_0 : xdec cX8_dataAt [(0, (.aload_n 0, 1)), (1, (.getfield 12, 3)), (4, (.iload_n 1, 1)), (5, (.ldc 33, 2)), (7, (.iand, 1)), (8, (.baload, 1)), (9, (.sipush 255, 3)), (12, (.iand, 1)), (13, (.ireturn, 1))] = true := by decide +kernel
theorem dX8_dataAt_0 : decode cX8_dataAt 0 = .ok (.aload_n 0, 1) := xdc ddX8_dataAt_0 0 rfl
theorem dX8_dataAt_1 : decode cX8_dataAt 1 = .ok (.getfield 12, 3) := xdc ddX8_dataAt_0 1 rfl
theorem dX8_dataAt_4 : decode cX8_dataAt 4 = .ok (.iload_n 1, 1) := xdc ddX8_dataAt_0 2 rfl
theorem dX8_dataAt_5 : decode cX8_dataAt 5 = .ok (.ldc 33, 2) := xdc ddX8_dataAt_0 3 rfl
theorem dX8_dataAt_7 : decode cX8_dataAt 7 = .ok (.iand, 1) := xdc ddX8_dataAt_0 4 rfl
theorem dX8_dataAt_8 : decode cX8_dataAt 8 = .ok (.baload, 1) := xdc ddX8_dataAt_0 5 rfl
theorem dX8_dataAt_9 : decode cX8_dataAt 9 = .ok (.sipush 255, 3) := xdc ddX8_dataAt_0 6 rfl
theorem dX8_dataAt_12 : decode cX8_dataAt 12 = .ok (.iand, 1) := xdc ddX8_dataAt_0 7 rfl
theorem dX8_dataAt_13 : decode cX8_dataAt 13 = .ok (.ireturn, 1) := xdc ddX8_dataAt_0 8 rfl
abbrev cX3_writeOut : ByteArray := prog_5_method_7_code
theorem ddX3_writeOut_0 : xdec cX3_writeOut [(0, (.iload_n 2, 1)), (1, (.sipush 1024, 3)), (4, (.aload_n 0, 1)), (5, (.getfield 27, 3)), (8, (.isub, 1)), (9, (.invokestatic 64, 3)), (12, (.istore_n 3, 1)), (13, (.iconst 0, 1)), (14, (.istore 4, 2)), (16, (.iload 4, 2)), (18, (.iload_n 3, 1)), (19, (.if_icmp .ge 50, 3)), (22, (.aload_n 0, 1)), (23, (.getfield 27, 3)), (26, (.sipush 1024, 3)), (29, (.if_icmp .ge 40, 3)), (32, (.aload_n 0, 1)), (33, (.getfield 11, 3)), (36, (.aload_n 0, 1)), (37, (.getfield 27, 3)), (40, (.aload_n 0, 1)), (41, (.getfield 23, 3)), (44, (.iload_n 1, 1)), (45, (.iload 4, 2)), (47, (.iadd, 1)), (48, (.invokevirtual 69, 3)), (51, (.i2b, 1)), (52, (.bastore, 1)), (53, (.aload_n 0, 1)), (54, (.dup, 1)), (55, (.getfield 27, 3)), (58, (.iconst 1, 1)), (59, (.iadd, 1)), (60, (.putfield 27, 3)), (63, (.iinc 4 1, 3)), (66, (.goto (-50), 3)), (69, (.iload_n 3, 1)), (70, (.ireturn, 1))] = true := by decide +kernel
theorem dX3_writeOut_0 : decode cX3_writeOut 0 = .ok (.iload_n 2, 1) := xdc ddX3_writeOut_0 0 rfl
theorem dX3_writeOut_1 : decode cX3_writeOut 1 = .ok (.sipush 1024, 3) := xdc ddX3_writeOut_0 1 rfl
theorem dX3_writeOut_4 : decode cX3_writeOut 4 = .ok (.aload_n 0, 1) := xdc ddX3_writeOut_0 2 rfl
theorem dX3_writeOut_5 : decode cX3_writeOut 5 = .ok (.getfield 27, 3) := xdc ddX3_writeOut_0 3 rfl
theorem dX3_writeOut_8 : decode cX3_writeOut 8 = .ok (.isub, 1) := xdc ddX3_writeOut_0 4 rfl
theorem dX3_writeOut_9 : decode cX3_writeOut 9 = .ok (.invokestatic 64, 3) := xdc ddX3_writeOut_0 5 rfl
theorem dX3_writeOut_12 : decode cX3_writeOut 12 = .ok (.istore_n 3, 1) := xdc ddX3_writeOut_0 6 rfl
theorem dX3_writeOut_13 : decode cX3_writeOut 13 = .ok (.iconst 0, 1) := xdc ddX3_writeOut_0 7 rfl
theorem dX3_writeOut_14 : decode cX3_writeOut 14 = .ok (.istore 4, 2) := xdc ddX3_writeOut_0 8 rfl
theorem dX3_writeOut_16 : decode cX3_writeOut 16 = .ok (.iload 4, 2) := xdc ddX3_writeOut_0 9 rfl
theorem dX3_writeOut_18 : decode cX3_writeOut 18 = .ok (.iload_n 3, 1) := xdc ddX3_writeOut_0 10 rfl
theorem dX3_writeOut_19 : decode cX3_writeOut 19 = .ok (.if_icmp .ge 50, 3) := xdc ddX3_writeOut_0 11 rfl
theorem dX3_writeOut_22 : decode cX3_writeOut 22 = .ok (.aload_n 0, 1) := xdc ddX3_writeOut_0 12 rfl
theorem dX3_writeOut_23 : decode cX3_writeOut 23 = .ok (.getfield 27, 3) := xdc ddX3_writeOut_0 13 rfl
theorem dX3_writeOut_26 : decode cX3_writeOut 26 = .ok (.sipush 1024, 3) := xdc ddX3_writeOut_0 14 rfl
theorem dX3_writeOut_29 : decode cX3_writeOut 29 = .ok (.if_icmp .ge 40, 3) := xdc ddX3_writeOut_0 15 rfl
theorem dX3_writeOut_32 : decode cX3_writeOut 32 = .ok (.aload_n 0, 1) := xdc ddX3_writeOut_0 16 rfl
theorem dX3_writeOut_33 : decode cX3_writeOut 33 = .ok (.getfield 11, 3) := xdc ddX3_writeOut_0 17 rfl
theorem dX3_writeOut_36 : decode cX3_writeOut 36 = .ok (.aload_n 0, 1) := xdc ddX3_writeOut_0 18 rfl
theorem dX3_writeOut_37 : decode cX3_writeOut 37 = .ok (.getfield 27, 3) := xdc ddX3_writeOut_0 19 rfl
theorem dX3_writeOut_40 : decode cX3_writeOut 40 = .ok (.aload_n 0, 1) := xdc ddX3_writeOut_0 20 rfl
theorem dX3_writeOut_41 : decode cX3_writeOut 41 = .ok (.getfield 23, 3) := xdc ddX3_writeOut_0 21 rfl
theorem dX3_writeOut_44 : decode cX3_writeOut 44 = .ok (.iload_n 1, 1) := xdc ddX3_writeOut_0 22 rfl
theorem dX3_writeOut_45 : decode cX3_writeOut 45 = .ok (.iload 4, 2) := xdc ddX3_writeOut_0 23 rfl
theorem dX3_writeOut_47 : decode cX3_writeOut 47 = .ok (.iadd, 1) := xdc ddX3_writeOut_0 24 rfl
theorem dX3_writeOut_48 : decode cX3_writeOut 48 = .ok (.invokevirtual 69, 3) := xdc ddX3_writeOut_0 25 rfl
theorem dX3_writeOut_51 : decode cX3_writeOut 51 = .ok (.i2b, 1) := xdc ddX3_writeOut_0 26 rfl
theorem dX3_writeOut_52 : decode cX3_writeOut 52 = .ok (.bastore, 1) := xdc ddX3_writeOut_0 27 rfl
theorem dX3_writeOut_53 : decode cX3_writeOut 53 = .ok (.aload_n 0, 1) := xdc ddX3_writeOut_0 28 rfl
theorem dX3_writeOut_54 : decode cX3_writeOut 54 = .ok (.dup, 1) := xdc ddX3_writeOut_0 29 rfl
theorem dX3_writeOut_55 : decode cX3_writeOut 55 = .ok (.getfield 27, 3) := xdc ddX3_writeOut_0 30 rfl
theorem dX3_writeOut_58 : decode cX3_writeOut 58 = .ok (.iconst 1, 1) := xdc ddX3_writeOut_0 31 rfl
theorem dX3_writeOut_59 : decode cX3_writeOut 59 = .ok (.iadd, 1) := xdc ddX3_writeOut_0 32 rfl
theorem dX3_writeOut_60 : decode cX3_writeOut 60 = .ok (.putfield 27, 3) := xdc ddX3_writeOut_0 33 rfl
theorem dX3_writeOut_63 : decode cX3_writeOut 63 = .ok (.iinc 4 1, 3) := xdc ddX3_writeOut_0 34 rfl
theorem dX3_writeOut_66 : decode cX3_writeOut 66 = .ok (.goto (-50), 3) := xdc ddX3_writeOut_0 35 rfl
theorem dX3_writeOut_69 : decode cX3_writeOut 69 = .ok (.iload_n 3, 1) := xdc ddX3_writeOut_0 36 rfl
theorem dX3_writeOut_70 : decode cX3_writeOut 70 = .ok (.ireturn, 1) := xdc ddX3_writeOut_0 37 rfl
abbrev cX8_setData : ByteArray := prog_10_method_6_code
theorem ddX8_setData_0 : xdec cX8_setData [(0, (.aload_n 0, 1)), (1, (.getfield 12, 3)), (4, (.iload_n 1, 1)), (5, (.ldc 33, 2)), (7, (.iand, 1)), (8, (.iload_n 2, 1)), (9, (.i2b, 1)), (10, (.bastore, 1)), (11, (.return_, 1))] = true := by decide +kernel
theorem dX8_setData_0 : decode cX8_setData 0 = .ok (.aload_n 0, 1) := xdc ddX8_setData_0 0 rfl
theorem dX8_setData_1 : decode cX8_setData 1 = .ok (.getfield 12, 3) := xdc ddX8_setData_0 1 rfl
theorem dX8_setData_4 : decode cX8_setData 4 = .ok (.iload_n 1, 1) := xdc ddX8_setData_0 2 rfl
theorem dX8_setData_5 : decode cX8_setData 5 = .ok (.ldc 33, 2) := xdc ddX8_setData_0 3 rfl
theorem dX8_setData_7 : decode cX8_setData 7 = .ok (.iand, 1) := xdc ddX8_setData_0 4 rfl
theorem dX8_setData_8 : decode cX8_setData 8 = .ok (.iload_n 2, 1) := xdc ddX8_setData_0 5 rfl
theorem dX8_setData_9 : decode cX8_setData 9 = .ok (.i2b, 1) := xdc ddX8_setData_0 6 rfl
theorem dX8_setData_10 : decode cX8_setData 10 = .ok (.bastore, 1) := xdc ddX8_setData_0 7 rfl
theorem dX8_setData_11 : decode cX8_setData 11 = .ok (.return_, 1) := xdc ddX8_setData_0 8 rfl
abbrev cX3_readIn : ByteArray := prog_5_method_8_code
theorem ddX3_readIn_0 : xdec cX3_readIn [(0, (.iload_n 2, 1)), (1, (.aload_n 0, 1)), (2, (.getfield 33, 3)), (5, (.invokestatic 64, 3)), (8, (.istore_n 3, 1)), (9, (.iconst 0, 1)), (10, (.istore 4, 2)), (12, (.iload 4, 2)), (14, (.iload_n 3, 1)), (15, (.if_icmp .ge 61, 3)), (18, (.aload_n 0, 1)), (19, (.getfield 23, 3)), (22, (.iload_n 1, 1)), (23, (.iload 4, 2)), (25, (.iadd, 1)), (26, (.aload_n 0, 1)), (27, (.getfield 15, 3)), (30, (.aload_n 0, 1)), (31, (.getfield 36, 3)), (34, (.sipush 255, 3)), (37, (.iand, 1)), (38, (.baload, 1)), (39, (.sipush 255, 3)), (42, (.iand, 1)), (43, (.invokevirtual 73, 3)), (46, (.aload_n 0, 1)), (47, (.aload_n 0, 1)), (48, (.getfield 36, 3)), (51, (.iconst 1, 1)), (52, (.iadd, 1)), (53, (.sipush 255, 3)), (56, (.iand, 1)), (57, (.putfield 36, 3)), (60, (.aload_n 0, 1)), (61, (.dup, 1)), (62, (.getfield 33, 3)), (65, (.iconst 1, 1)), (66, (.isub, 1)), (67, (.putfield 33, 3)), (70, (.iinc 4 1, 3))] = true := by decide +kernel
theorem dX3_readIn_0 : decode cX3_readIn 0 = .ok (.iload_n 2, 1) := xdc ddX3_readIn_0 0 rfl
theorem dX3_readIn_1 : decode cX3_readIn 1 = .ok (.aload_n 0, 1) := xdc ddX3_readIn_0 1 rfl
theorem dX3_readIn_2 : decode cX3_readIn 2 = .ok (.getfield 33, 3) := xdc ddX3_readIn_0 2 rfl
theorem dX3_readIn_5 : decode cX3_readIn 5 = .ok (.invokestatic 64, 3) := xdc ddX3_readIn_0 3 rfl
theorem dX3_readIn_8 : decode cX3_readIn 8 = .ok (.istore_n 3, 1) := xdc ddX3_readIn_0 4 rfl
theorem dX3_readIn_9 : decode cX3_readIn 9 = .ok (.iconst 0, 1) := xdc ddX3_readIn_0 5 rfl
theorem dX3_readIn_10 : decode cX3_readIn 10 = .ok (.istore 4, 2) := xdc ddX3_readIn_0 6 rfl
theorem dX3_readIn_12 : decode cX3_readIn 12 = .ok (.iload 4, 2) := xdc ddX3_readIn_0 7 rfl
theorem dX3_readIn_14 : decode cX3_readIn 14 = .ok (.iload_n 3, 1) := xdc ddX3_readIn_0 8 rfl
theorem dX3_readIn_15 : decode cX3_readIn 15 = .ok (.if_icmp .ge 61, 3) := xdc ddX3_readIn_0 9 rfl
theorem dX3_readIn_18 : decode cX3_readIn 18 = .ok (.aload_n 0, 1) := xdc ddX3_readIn_0 10 rfl
theorem dX3_readIn_19 : decode cX3_readIn 19 = .ok (.getfield 23, 3) := xdc ddX3_readIn_0 11 rfl
theorem dX3_readIn_22 : decode cX3_readIn 22 = .ok (.iload_n 1, 1) := xdc ddX3_readIn_0 12 rfl
theorem dX3_readIn_23 : decode cX3_readIn 23 = .ok (.iload 4, 2) := xdc ddX3_readIn_0 13 rfl
theorem dX3_readIn_25 : decode cX3_readIn 25 = .ok (.iadd, 1) := xdc ddX3_readIn_0 14 rfl
theorem dX3_readIn_26 : decode cX3_readIn 26 = .ok (.aload_n 0, 1) := xdc ddX3_readIn_0 15 rfl
theorem dX3_readIn_27 : decode cX3_readIn 27 = .ok (.getfield 15, 3) := xdc ddX3_readIn_0 16 rfl
theorem dX3_readIn_30 : decode cX3_readIn 30 = .ok (.aload_n 0, 1) := xdc ddX3_readIn_0 17 rfl
theorem dX3_readIn_31 : decode cX3_readIn 31 = .ok (.getfield 36, 3) := xdc ddX3_readIn_0 18 rfl
theorem dX3_readIn_34 : decode cX3_readIn 34 = .ok (.sipush 255, 3) := xdc ddX3_readIn_0 19 rfl
theorem dX3_readIn_37 : decode cX3_readIn 37 = .ok (.iand, 1) := xdc ddX3_readIn_0 20 rfl
theorem dX3_readIn_38 : decode cX3_readIn 38 = .ok (.baload, 1) := xdc ddX3_readIn_0 21 rfl
theorem dX3_readIn_39 : decode cX3_readIn 39 = .ok (.sipush 255, 3) := xdc ddX3_readIn_0 22 rfl
theorem dX3_readIn_42 : decode cX3_readIn 42 = .ok (.iand, 1) := xdc ddX3_readIn_0 23 rfl
theorem dX3_readIn_43 : decode cX3_readIn 43 = .ok (.invokevirtual 73, 3) := xdc ddX3_readIn_0 24 rfl
theorem dX3_readIn_46 : decode cX3_readIn 46 = .ok (.aload_n 0, 1) := xdc ddX3_readIn_0 25 rfl
theorem dX3_readIn_47 : decode cX3_readIn 47 = .ok (.aload_n 0, 1) := xdc ddX3_readIn_0 26 rfl
theorem dX3_readIn_48 : decode cX3_readIn 48 = .ok (.getfield 36, 3) := xdc ddX3_readIn_0 27 rfl
theorem dX3_readIn_51 : decode cX3_readIn 51 = .ok (.iconst 1, 1) := xdc ddX3_readIn_0 28 rfl
theorem dX3_readIn_52 : decode cX3_readIn 52 = .ok (.iadd, 1) := xdc ddX3_readIn_0 29 rfl
theorem dX3_readIn_53 : decode cX3_readIn 53 = .ok (.sipush 255, 3) := xdc ddX3_readIn_0 30 rfl
theorem dX3_readIn_56 : decode cX3_readIn 56 = .ok (.iand, 1) := xdc ddX3_readIn_0 31 rfl
theorem dX3_readIn_57 : decode cX3_readIn 57 = .ok (.putfield 36, 3) := xdc ddX3_readIn_0 32 rfl
theorem dX3_readIn_60 : decode cX3_readIn 60 = .ok (.aload_n 0, 1) := xdc ddX3_readIn_0 33 rfl
theorem dX3_readIn_61 : decode cX3_readIn 61 = .ok (.dup, 1) := xdc ddX3_readIn_0 34 rfl
theorem dX3_readIn_62 : decode cX3_readIn 62 = .ok (.getfield 33, 3) := xdc ddX3_readIn_0 35 rfl
theorem dX3_readIn_65 : decode cX3_readIn 65 = .ok (.iconst 1, 1) := xdc ddX3_readIn_0 36 rfl
theorem dX3_readIn_66 : decode cX3_readIn 66 = .ok (.isub, 1) := xdc ddX3_readIn_0 37 rfl
theorem dX3_readIn_67 : decode cX3_readIn 67 = .ok (.putfield 33, 3) := xdc ddX3_readIn_0 38 rfl
theorem dX3_readIn_70 : decode cX3_readIn 70 = .ok (.iinc 4 1, 3) := xdc ddX3_readIn_0 39 rfl
theorem ddX3_readIn_1 : xdec cX3_readIn [(73, (.goto (-61), 3)), (76, (.iload_n 3, 1)), (77, (.ireturn, 1))] = true := by decide +kernel
theorem dX3_readIn_73 : decode cX3_readIn 73 = .ok (.goto (-61), 3) := xdc ddX3_readIn_1 0 rfl
theorem dX3_readIn_76 : decode cX3_readIn 76 = .ok (.iload_n 3, 1) := xdc ddX3_readIn_1 1 rfl
theorem dX3_readIn_77 : decode cX3_readIn 77 = .ok (.ireturn, 1) := xdc ddX3_readIn_1 2 rfl
abbrev cX3_sum : ByteArray := prog_5_method_9_code
theorem ddX3_sum_0 : xdec cX3_sum [(0, (.iconst 0, 1)), (1, (.istore_n 3, 1)), (2, (.iconst 0, 1)), (3, (.istore 4, 2)), (5, (.iload 4, 2)), (7, (.iload_n 2, 1)), (8, (.if_icmp .ge 26, 3)), (11, (.bipush 31, 2)), (13, (.iload_n 3, 1)), (14, (.imul, 1)), (15, (.aload_n 0, 1)), (16, (.getfield 23, 3)), (19, (.iload_n 1, 1)), (20, (.iload 4, 2)), (22, (.iadd, 1)), (23, (.invokevirtual 69, 3)), (26, (.iadd, 1)), (27, (.istore_n 3, 1)), (28, (.iinc 4 1, 3)), (31, (.goto (-26), 3)), (34, (.iload_n 3, 1)), (35, (.ireturn, 1))] = true := by decide +kernel
theorem dX3_sum_0 : decode cX3_sum 0 = .ok (.iconst 0, 1) := xdc ddX3_sum_0 0 rfl
theorem dX3_sum_1 : decode cX3_sum 1 = .ok (.istore_n 3, 1) := xdc ddX3_sum_0 1 rfl
theorem dX3_sum_2 : decode cX3_sum 2 = .ok (.iconst 0, 1) := xdc ddX3_sum_0 2 rfl
theorem dX3_sum_3 : decode cX3_sum 3 = .ok (.istore 4, 2) := xdc ddX3_sum_0 3 rfl
theorem dX3_sum_5 : decode cX3_sum 5 = .ok (.iload 4, 2) := xdc ddX3_sum_0 4 rfl
theorem dX3_sum_7 : decode cX3_sum 7 = .ok (.iload_n 2, 1) := xdc ddX3_sum_0 5 rfl
theorem dX3_sum_8 : decode cX3_sum 8 = .ok (.if_icmp .ge 26, 3) := xdc ddX3_sum_0 6 rfl
theorem dX3_sum_11 : decode cX3_sum 11 = .ok (.bipush 31, 2) := xdc ddX3_sum_0 7 rfl
theorem dX3_sum_13 : decode cX3_sum 13 = .ok (.iload_n 3, 1) := xdc ddX3_sum_0 8 rfl
theorem dX3_sum_14 : decode cX3_sum 14 = .ok (.imul, 1) := xdc ddX3_sum_0 9 rfl
theorem dX3_sum_15 : decode cX3_sum 15 = .ok (.aload_n 0, 1) := xdc ddX3_sum_0 10 rfl
theorem dX3_sum_16 : decode cX3_sum 16 = .ok (.getfield 23, 3) := xdc ddX3_sum_0 11 rfl
theorem dX3_sum_19 : decode cX3_sum 19 = .ok (.iload_n 1, 1) := xdc ddX3_sum_0 12 rfl
theorem dX3_sum_20 : decode cX3_sum 20 = .ok (.iload 4, 2) := xdc ddX3_sum_0 13 rfl
theorem dX3_sum_22 : decode cX3_sum 22 = .ok (.iadd, 1) := xdc ddX3_sum_0 14 rfl
theorem dX3_sum_23 : decode cX3_sum 23 = .ok (.invokevirtual 69, 3) := xdc ddX3_sum_0 15 rfl
theorem dX3_sum_26 : decode cX3_sum 26 = .ok (.iadd, 1) := xdc ddX3_sum_0 16 rfl
theorem dX3_sum_27 : decode cX3_sum 27 = .ok (.istore_n 3, 1) := xdc ddX3_sum_0 17 rfl
theorem dX3_sum_28 : decode cX3_sum 28 = .ok (.iinc 4 1, 3) := xdc ddX3_sum_0 18 rfl
theorem dX3_sum_31 : decode cX3_sum 31 = .ok (.goto (-26), 3) := xdc ddX3_sum_0 19 rfl
theorem dX3_sum_34 : decode cX3_sum 34 = .ok (.iload_n 3, 1) := xdc ddX3_sum_0 20 rfl
theorem dX3_sum_35 : decode cX3_sum 35 = .ok (.ireturn, 1) := xdc ddX3_sum_0 21 rfl
abbrev cX3_serveBytes : ByteArray := prog_5_method_6_code
theorem ddX3_serveBytes_0 : xdec cX3_serveBytes [(0, (.iload_n 3, 1)), (1, (.ifCond .ne 5, 3)), (4, (.iconst 0, 1)), (5, (.ireturn, 1)), (6, (.iload_n 2, 1)), (7, (.iload_n 3, 1)), (8, (.invokestatic 50, 3)), (11, (.invokestatic 43, 3)), (14, (.ifCond .ne 6, 3)), (17, (.bipush (-14), 2)), (19, (.ireturn, 1)), (20, (.iload_n 1, 1)), (21, (.iconst 1, 1)), (22, (.if_icmp .ne 10, 3)), (25, (.aload_n 0, 1)), (26, (.iload_n 2, 1)), (27, (.iload_n 3, 1)), (28, (.invokevirtual 54, 3)), (31, (.ireturn, 1)), (32, (.iload_n 1, 1)), (33, (.iconst 2, 1)), (34, (.if_icmp .ne 12, 3)), (37, (.aload_n 0, 1)), (38, (.iload_n 2, 1)), (39, (.iload_n 3, 1)), (40, (.invokevirtual 58, 3)), (43, (.goto 9, 3)), (46, (.aload_n 0, 1)), (47, (.iload_n 2, 1)), (48, (.iload_n 3, 1)), (49, (.invokevirtual 61, 3)), (52, (.ireturn, 1))] = true := by decide +kernel
theorem dX3_serveBytes_0 : decode cX3_serveBytes 0 = .ok (.iload_n 3, 1) := xdc ddX3_serveBytes_0 0 rfl
theorem dX3_serveBytes_1 : decode cX3_serveBytes 1 = .ok (.ifCond .ne 5, 3) := xdc ddX3_serveBytes_0 1 rfl
theorem dX3_serveBytes_4 : decode cX3_serveBytes 4 = .ok (.iconst 0, 1) := xdc ddX3_serveBytes_0 2 rfl
theorem dX3_serveBytes_5 : decode cX3_serveBytes 5 = .ok (.ireturn, 1) := xdc ddX3_serveBytes_0 3 rfl
theorem dX3_serveBytes_6 : decode cX3_serveBytes 6 = .ok (.iload_n 2, 1) := xdc ddX3_serveBytes_0 4 rfl
theorem dX3_serveBytes_7 : decode cX3_serveBytes 7 = .ok (.iload_n 3, 1) := xdc ddX3_serveBytes_0 5 rfl
theorem dX3_serveBytes_8 : decode cX3_serveBytes 8 = .ok (.invokestatic 50, 3) := xdc ddX3_serveBytes_0 6 rfl
theorem dX3_serveBytes_11 : decode cX3_serveBytes 11 = .ok (.invokestatic 43, 3) := xdc ddX3_serveBytes_0 7 rfl
theorem dX3_serveBytes_14 : decode cX3_serveBytes 14 = .ok (.ifCond .ne 6, 3) := xdc ddX3_serveBytes_0 8 rfl
theorem dX3_serveBytes_17 : decode cX3_serveBytes 17 = .ok (.bipush (-14), 2) := xdc ddX3_serveBytes_0 9 rfl
theorem dX3_serveBytes_19 : decode cX3_serveBytes 19 = .ok (.ireturn, 1) := xdc ddX3_serveBytes_0 10 rfl
theorem dX3_serveBytes_20 : decode cX3_serveBytes 20 = .ok (.iload_n 1, 1) := xdc ddX3_serveBytes_0 11 rfl
theorem dX3_serveBytes_21 : decode cX3_serveBytes 21 = .ok (.iconst 1, 1) := xdc ddX3_serveBytes_0 12 rfl
theorem dX3_serveBytes_22 : decode cX3_serveBytes 22 = .ok (.if_icmp .ne 10, 3) := xdc ddX3_serveBytes_0 13 rfl
theorem dX3_serveBytes_25 : decode cX3_serveBytes 25 = .ok (.aload_n 0, 1) := xdc ddX3_serveBytes_0 14 rfl
theorem dX3_serveBytes_26 : decode cX3_serveBytes 26 = .ok (.iload_n 2, 1) := xdc ddX3_serveBytes_0 15 rfl
theorem dX3_serveBytes_27 : decode cX3_serveBytes 27 = .ok (.iload_n 3, 1) := xdc ddX3_serveBytes_0 16 rfl
theorem dX3_serveBytes_28 : decode cX3_serveBytes 28 = .ok (.invokevirtual 54, 3) := xdc ddX3_serveBytes_0 17 rfl
theorem dX3_serveBytes_31 : decode cX3_serveBytes 31 = .ok (.ireturn, 1) := xdc ddX3_serveBytes_0 18 rfl
theorem dX3_serveBytes_32 : decode cX3_serveBytes 32 = .ok (.iload_n 1, 1) := xdc ddX3_serveBytes_0 19 rfl
theorem dX3_serveBytes_33 : decode cX3_serveBytes 33 = .ok (.iconst 2, 1) := xdc ddX3_serveBytes_0 20 rfl
theorem dX3_serveBytes_34 : decode cX3_serveBytes 34 = .ok (.if_icmp .ne 12, 3) := xdc ddX3_serveBytes_0 21 rfl
theorem dX3_serveBytes_37 : decode cX3_serveBytes 37 = .ok (.aload_n 0, 1) := xdc ddX3_serveBytes_0 22 rfl
theorem dX3_serveBytes_38 : decode cX3_serveBytes 38 = .ok (.iload_n 2, 1) := xdc ddX3_serveBytes_0 23 rfl
theorem dX3_serveBytes_39 : decode cX3_serveBytes 39 = .ok (.iload_n 3, 1) := xdc ddX3_serveBytes_0 24 rfl
theorem dX3_serveBytes_40 : decode cX3_serveBytes 40 = .ok (.invokevirtual 58, 3) := xdc ddX3_serveBytes_0 25 rfl
theorem dX3_serveBytes_43 : decode cX3_serveBytes 43 = .ok (.goto 9, 3) := xdc ddX3_serveBytes_0 26 rfl
theorem dX3_serveBytes_46 : decode cX3_serveBytes 46 = .ok (.aload_n 0, 1) := xdc ddX3_serveBytes_0 27 rfl
theorem dX3_serveBytes_47 : decode cX3_serveBytes 47 = .ok (.iload_n 2, 1) := xdc ddX3_serveBytes_0 28 rfl
theorem dX3_serveBytes_48 : decode cX3_serveBytes 48 = .ok (.iload_n 3, 1) := xdc ddX3_serveBytes_0 29 rfl
theorem dX3_serveBytes_49 : decode cX3_serveBytes 49 = .ok (.invokevirtual 61, 3) := xdc ddX3_serveBytes_0 30 rfl
theorem dX3_serveBytes_52 : decode cX3_serveBytes 52 = .ok (.ireturn, 1) := xdc ddX3_serveBytes_0 31 rfl
abbrev cX3_serve : ByteArray := prog_5_method_5_code
theorem ddX3_serve_0 : xdec cX3_serve [(0, (.iload_n 1, 1)), (1, (.tableswitch 102 1 7 #[43, 43, 51, 55, 73, 43, 100], 43)), (44, (.aload_n 0, 1)), (45, (.iload_n 1, 1)), (46, (.iload_n 2, 1)), (47, (.iload_n 3, 1)), (48, (.invokevirtual 39, 3)), (51, (.ireturn, 1)), (52, (.lload 4, 2)), (54, (.l2i, 1)), (55, (.ireturn, 1)), (56, (.iload_n 2, 1)), (57, (.lconst 1, 1)), (58, (.invokestatic 43, 3)), (61, (.ifCond .eq 8, 3)), (64, (.aload_n 0, 1)), (65, (.iload_n 2, 1)), (66, (.putfield 19, 3)), (69, (.aload_n 0, 1)), (70, (.getfield 19, 3)), (73, (.ireturn, 1)), (74, (.aload_n 0, 1)), (75, (.aload_n 0, 1)), (76, (.getfield 30, 3)), (79, (.ldc 49, 2)), (81, (.imul, 1)), (82, (.sipush 12345, 3)), (85, (.iadd, 1)), (86, (.putfield 30, 3)), (89, (.aload_n 0, 1)), (90, (.getfield 30, 3)), (93, (.bipush 16, 2)), (95, (.iushr, 1)), (96, (.sipush 32767, 3)), (99, (.iand, 1)), (100, (.ireturn, 1)), (101, (.iconst 0, 1)), (102, (.ireturn, 1)), (103, (.bipush (-38), 2)), (105, (.ireturn, 1))] = true := by decide +kernel
theorem dX3_serve_0 : decode cX3_serve 0 = .ok (.iload_n 1, 1) := xdc ddX3_serve_0 0 rfl
theorem dX3_serve_1 : decode cX3_serve 1 = .ok (.tableswitch 102 1 7 #[43, 43, 51, 55, 73, 43, 100], 43) := xdc ddX3_serve_0 1 rfl
theorem dX3_serve_44 : decode cX3_serve 44 = .ok (.aload_n 0, 1) := xdc ddX3_serve_0 2 rfl
theorem dX3_serve_45 : decode cX3_serve 45 = .ok (.iload_n 1, 1) := xdc ddX3_serve_0 3 rfl
theorem dX3_serve_46 : decode cX3_serve 46 = .ok (.iload_n 2, 1) := xdc ddX3_serve_0 4 rfl
theorem dX3_serve_47 : decode cX3_serve 47 = .ok (.iload_n 3, 1) := xdc ddX3_serve_0 5 rfl
theorem dX3_serve_48 : decode cX3_serve 48 = .ok (.invokevirtual 39, 3) := xdc ddX3_serve_0 6 rfl
theorem dX3_serve_51 : decode cX3_serve 51 = .ok (.ireturn, 1) := xdc ddX3_serve_0 7 rfl
theorem dX3_serve_52 : decode cX3_serve 52 = .ok (.lload 4, 2) := xdc ddX3_serve_0 8 rfl
theorem dX3_serve_54 : decode cX3_serve 54 = .ok (.l2i, 1) := xdc ddX3_serve_0 9 rfl
theorem dX3_serve_55 : decode cX3_serve 55 = .ok (.ireturn, 1) := xdc ddX3_serve_0 10 rfl
theorem dX3_serve_56 : decode cX3_serve 56 = .ok (.iload_n 2, 1) := xdc ddX3_serve_0 11 rfl
theorem dX3_serve_57 : decode cX3_serve 57 = .ok (.lconst 1, 1) := xdc ddX3_serve_0 12 rfl
theorem dX3_serve_58 : decode cX3_serve 58 = .ok (.invokestatic 43, 3) := xdc ddX3_serve_0 13 rfl
theorem dX3_serve_61 : decode cX3_serve 61 = .ok (.ifCond .eq 8, 3) := xdc ddX3_serve_0 14 rfl
theorem dX3_serve_64 : decode cX3_serve 64 = .ok (.aload_n 0, 1) := xdc ddX3_serve_0 15 rfl
theorem dX3_serve_65 : decode cX3_serve 65 = .ok (.iload_n 2, 1) := xdc ddX3_serve_0 16 rfl
theorem dX3_serve_66 : decode cX3_serve 66 = .ok (.putfield 19, 3) := xdc ddX3_serve_0 17 rfl
theorem dX3_serve_69 : decode cX3_serve 69 = .ok (.aload_n 0, 1) := xdc ddX3_serve_0 18 rfl
theorem dX3_serve_70 : decode cX3_serve 70 = .ok (.getfield 19, 3) := xdc ddX3_serve_0 19 rfl
theorem dX3_serve_73 : decode cX3_serve 73 = .ok (.ireturn, 1) := xdc ddX3_serve_0 20 rfl
theorem dX3_serve_74 : decode cX3_serve 74 = .ok (.aload_n 0, 1) := xdc ddX3_serve_0 21 rfl
theorem dX3_serve_75 : decode cX3_serve 75 = .ok (.aload_n 0, 1) := xdc ddX3_serve_0 22 rfl
theorem dX3_serve_76 : decode cX3_serve 76 = .ok (.getfield 30, 3) := xdc ddX3_serve_0 23 rfl
theorem dX3_serve_79 : decode cX3_serve 79 = .ok (.ldc 49, 2) := xdc ddX3_serve_0 24 rfl
theorem dX3_serve_81 : decode cX3_serve 81 = .ok (.imul, 1) := xdc ddX3_serve_0 25 rfl
theorem dX3_serve_82 : decode cX3_serve 82 = .ok (.sipush 12345, 3) := xdc ddX3_serve_0 26 rfl
theorem dX3_serve_85 : decode cX3_serve 85 = .ok (.iadd, 1) := xdc ddX3_serve_0 27 rfl
theorem dX3_serve_86 : decode cX3_serve 86 = .ok (.putfield 30, 3) := xdc ddX3_serve_0 28 rfl
theorem dX3_serve_89 : decode cX3_serve 89 = .ok (.aload_n 0, 1) := xdc ddX3_serve_0 29 rfl
theorem dX3_serve_90 : decode cX3_serve 90 = .ok (.getfield 30, 3) := xdc ddX3_serve_0 30 rfl
theorem dX3_serve_93 : decode cX3_serve 93 = .ok (.bipush 16, 2) := xdc ddX3_serve_0 31 rfl
theorem dX3_serve_95 : decode cX3_serve 95 = .ok (.iushr, 1) := xdc ddX3_serve_0 32 rfl
theorem dX3_serve_96 : decode cX3_serve 96 = .ok (.sipush 32767, 3) := xdc ddX3_serve_0 33 rfl
theorem dX3_serve_99 : decode cX3_serve 99 = .ok (.iand, 1) := xdc ddX3_serve_0 34 rfl
theorem dX3_serve_100 : decode cX3_serve 100 = .ok (.ireturn, 1) := xdc ddX3_serve_0 35 rfl
theorem dX3_serve_101 : decode cX3_serve 101 = .ok (.iconst 0, 1) := xdc ddX3_serve_0 36 rfl
theorem dX3_serve_102 : decode cX3_serve 102 = .ok (.ireturn, 1) := xdc ddX3_serve_0 37 rfl
theorem dX3_serve_103 : decode cX3_serve 103 = .ok (.bipush (-38), 2) := xdc ddX3_serve_0 38 rfl
theorem dX3_serve_105 : decode cX3_serve 105 = .ok (.ireturn, 1) := xdc ddX3_serve_0 39 rfl
abbrev cX4_append : ByteArray := prog_6_method_3_code
theorem ddX4_append_0 : xdec cX4_append [(0, (.iconst 0, 1)), (1, (.istore 4, 2)), (3, (.iload 4, 2)), (5, (.iload_n 1, 1)), (6, (.if_icmp .ge 47, 3)), (9, (.aload_n 0, 1)), (10, (.getfield 13, 3)), (13, (.sipush 2048, 3)), (16, (.if_icmp .ge 37, 3)), (19, (.aload_n 0, 1)), (20, (.getfield 9, 3)), (23, (.aload_n 0, 1)), (24, (.getfield 13, 3)), (27, (.lload_n 2, 1)), (28, (.bipush 8, 2)), (30, (.iload 4, 2)), (32, (.imul, 1)), (33, (.lushr, 1)), (34, (.l2i, 1)), (35, (.i2b, 1)), (36, (.bastore, 1)), (37, (.aload_n 0, 1)), (38, (.dup, 1)), (39, (.getfield 13, 3)), (42, (.iconst 1, 1)), (43, (.iadd, 1)), (44, (.putfield 13, 3)), (47, (.iinc 4 1, 3)), (50, (.goto (-47), 3)), (53, (.return_, 1))] = true := by decide +kernel
theorem dX4_append_0 : decode cX4_append 0 = .ok (.iconst 0, 1) := xdc ddX4_append_0 0 rfl
theorem dX4_append_1 : decode cX4_append 1 = .ok (.istore 4, 2) := xdc ddX4_append_0 1 rfl
theorem dX4_append_3 : decode cX4_append 3 = .ok (.iload 4, 2) := xdc ddX4_append_0 2 rfl
theorem dX4_append_5 : decode cX4_append 5 = .ok (.iload_n 1, 1) := xdc ddX4_append_0 3 rfl
theorem dX4_append_6 : decode cX4_append 6 = .ok (.if_icmp .ge 47, 3) := xdc ddX4_append_0 4 rfl
theorem dX4_append_9 : decode cX4_append 9 = .ok (.aload_n 0, 1) := xdc ddX4_append_0 5 rfl
theorem dX4_append_10 : decode cX4_append 10 = .ok (.getfield 13, 3) := xdc ddX4_append_0 6 rfl
theorem dX4_append_13 : decode cX4_append 13 = .ok (.sipush 2048, 3) := xdc ddX4_append_0 7 rfl
theorem dX4_append_16 : decode cX4_append 16 = .ok (.if_icmp .ge 37, 3) := xdc ddX4_append_0 8 rfl
theorem dX4_append_19 : decode cX4_append 19 = .ok (.aload_n 0, 1) := xdc ddX4_append_0 9 rfl
theorem dX4_append_20 : decode cX4_append 20 = .ok (.getfield 9, 3) := xdc ddX4_append_0 10 rfl
theorem dX4_append_23 : decode cX4_append 23 = .ok (.aload_n 0, 1) := xdc ddX4_append_0 11 rfl
theorem dX4_append_24 : decode cX4_append 24 = .ok (.getfield 13, 3) := xdc ddX4_append_0 12 rfl
theorem dX4_append_27 : decode cX4_append 27 = .ok (.lload_n 2, 1) := xdc ddX4_append_0 13 rfl
theorem dX4_append_28 : decode cX4_append 28 = .ok (.bipush 8, 2) := xdc ddX4_append_0 14 rfl
theorem dX4_append_30 : decode cX4_append 30 = .ok (.iload 4, 2) := xdc ddX4_append_0 15 rfl
theorem dX4_append_32 : decode cX4_append 32 = .ok (.imul, 1) := xdc ddX4_append_0 16 rfl
theorem dX4_append_33 : decode cX4_append 33 = .ok (.lushr, 1) := xdc ddX4_append_0 17 rfl
theorem dX4_append_34 : decode cX4_append 34 = .ok (.l2i, 1) := xdc ddX4_append_0 18 rfl
theorem dX4_append_35 : decode cX4_append 35 = .ok (.i2b, 1) := xdc ddX4_append_0 19 rfl
theorem dX4_append_36 : decode cX4_append 36 = .ok (.bastore, 1) := xdc ddX4_append_0 20 rfl
theorem dX4_append_37 : decode cX4_append 37 = .ok (.aload_n 0, 1) := xdc ddX4_append_0 21 rfl
theorem dX4_append_38 : decode cX4_append 38 = .ok (.dup, 1) := xdc ddX4_append_0 22 rfl
theorem dX4_append_39 : decode cX4_append 39 = .ok (.getfield 13, 3) := xdc ddX4_append_0 23 rfl
theorem dX4_append_42 : decode cX4_append 42 = .ok (.iconst 1, 1) := xdc ddX4_append_0 24 rfl
theorem dX4_append_43 : decode cX4_append 43 = .ok (.iadd, 1) := xdc ddX4_append_0 25 rfl
theorem dX4_append_44 : decode cX4_append 44 = .ok (.putfield 13, 3) := xdc ddX4_append_0 26 rfl
theorem dX4_append_47 : decode cX4_append 47 = .ok (.iinc 4 1, 3) := xdc ddX4_append_0 27 rfl
theorem dX4_append_50 : decode cX4_append 50 = .ok (.goto (-47), 3) := xdc ddX4_append_0 28 rfl
theorem dX4_append_53 : decode cX4_append 53 = .ok (.return_, 1) := xdc ddX4_append_0 29 rfl
abbrev cX5_forget : ByteArray := prog_7_method_2_code
theorem ddX5_forget_0 : xdec cX5_forget [(0, (.aload_n 0, 1)), (1, (.iconst 0, 1)), (2, (.putfield 45, 3)), (5, (.aload_n 0, 1)), (6, (.iconst 0, 1)), (7, (.putfield 49, 3)), (10, (.aload_n 0, 1)), (11, (.iconst (-1), 1)), (12, (.putfield 29, 3)), (15, (.return_, 1))] = true := by decide +kernel
theorem dX5_forget_0 : decode cX5_forget 0 = .ok (.aload_n 0, 1) := xdc ddX5_forget_0 0 rfl
theorem dX5_forget_1 : decode cX5_forget 1 = .ok (.iconst 0, 1) := xdc ddX5_forget_0 1 rfl
theorem dX5_forget_2 : decode cX5_forget 2 = .ok (.putfield 45, 3) := xdc ddX5_forget_0 2 rfl
theorem dX5_forget_5 : decode cX5_forget 5 = .ok (.aload_n 0, 1) := xdc ddX5_forget_0 3 rfl
theorem dX5_forget_6 : decode cX5_forget 6 = .ok (.iconst 0, 1) := xdc ddX5_forget_0 4 rfl
theorem dX5_forget_7 : decode cX5_forget 7 = .ok (.putfield 49, 3) := xdc ddX5_forget_0 5 rfl
theorem dX5_forget_10 : decode cX5_forget 10 = .ok (.aload_n 0, 1) := xdc ddX5_forget_0 6 rfl
theorem dX5_forget_11 : decode cX5_forget 11 = .ok (.iconst (-1), 1) := xdc ddX5_forget_0 7 rfl
theorem dX5_forget_12 : decode cX5_forget 12 = .ok (.putfield 29, 3) := xdc ddX5_forget_0 8 rfl
theorem dX5_forget_15 : decode cX5_forget 15 = .ok (.return_, 1) := xdc ddX5_forget_0 9 rfl
abbrev cX5_markAt : ByteArray := prog_7_method_3_code
theorem ddX5_markAt_0 : xdec cX5_markAt [(0, (.iload_n 1, 1)), (1, (.ifCond .lt 19, 3)), (4, (.iload_n 1, 1)), (5, (.sipush 2048, 3)), (8, (.if_icmp .ge 12, 3)), (11, (.aload_n 0, 1)), (12, (.getfield 26, 3)), (15, (.iload_n 1, 1)), (16, (.iaload, 1)), (17, (.goto 4, 3)), (20, (.iconst 0, 1)), (21, (.ireturn, 1))] = true := by decide +kernel
theorem dX5_markAt_0 : decode cX5_markAt 0 = .ok (.iload_n 1, 1) := xdc ddX5_markAt_0 0 rfl
theorem dX5_markAt_1 : decode cX5_markAt 1 = .ok (.ifCond .lt 19, 3) := xdc ddX5_markAt_0 1 rfl
theorem dX5_markAt_4 : decode cX5_markAt 4 = .ok (.iload_n 1, 1) := xdc ddX5_markAt_0 2 rfl
theorem dX5_markAt_5 : decode cX5_markAt 5 = .ok (.sipush 2048, 3) := xdc ddX5_markAt_0 3 rfl
theorem dX5_markAt_8 : decode cX5_markAt 8 = .ok (.if_icmp .ge 12, 3) := xdc ddX5_markAt_0 4 rfl
theorem dX5_markAt_11 : decode cX5_markAt 11 = .ok (.aload_n 0, 1) := xdc ddX5_markAt_0 5 rfl
theorem dX5_markAt_12 : decode cX5_markAt 12 = .ok (.getfield 26, 3) := xdc ddX5_markAt_0 6 rfl
theorem dX5_markAt_15 : decode cX5_markAt 15 = .ok (.iload_n 1, 1) := xdc ddX5_markAt_0 7 rfl
theorem dX5_markAt_16 : decode cX5_markAt 16 = .ok (.iaload, 1) := xdc ddX5_markAt_0 8 rfl
theorem dX5_markAt_17 : decode cX5_markAt 17 = .ok (.goto 4, 3) := xdc ddX5_markAt_0 9 rfl
theorem dX5_markAt_20 : decode cX5_markAt 20 = .ok (.iconst 0, 1) := xdc ddX5_markAt_0 10 rfl
theorem dX5_markAt_21 : decode cX5_markAt 21 = .ok (.ireturn, 1) := xdc ddX5_markAt_0 11 rfl
abbrev cX6_startsWithG : ByteArray := prog_8_method_3_code
theorem ddX6_startsWithG_0 : xdec cX6_startsWithG [(0, (.aload_n 0, 1)), (1, (.getfield 20, 3)), (4, (.iconst 2, 1)), (5, (.if_icmp .eq 12, 3)), (8, (.aload_n 0, 1)), (9, (.getfield 20, 3)), (12, (.bipush 7, 2)), (14, (.if_icmp .ne 7, 3)), (17, (.iconst 1, 1)), (18, (.goto 4, 3)), (21, (.iconst 0, 1)), (22, (.ireturn, 1))] = true := by decide +kernel
theorem dX6_startsWithG_0 : decode cX6_startsWithG 0 = .ok (.aload_n 0, 1) := xdc ddX6_startsWithG_0 0 rfl
theorem dX6_startsWithG_1 : decode cX6_startsWithG 1 = .ok (.getfield 20, 3) := xdc ddX6_startsWithG_0 1 rfl
theorem dX6_startsWithG_4 : decode cX6_startsWithG 4 = .ok (.iconst 2, 1) := xdc ddX6_startsWithG_0 2 rfl
theorem dX6_startsWithG_5 : decode cX6_startsWithG 5 = .ok (.if_icmp .eq 12, 3) := xdc ddX6_startsWithG_0 3 rfl
theorem dX6_startsWithG_8 : decode cX6_startsWithG 8 = .ok (.aload_n 0, 1) := xdc ddX6_startsWithG_0 4 rfl
theorem dX6_startsWithG_9 : decode cX6_startsWithG 9 = .ok (.getfield 20, 3) := xdc ddX6_startsWithG_0 5 rfl
theorem dX6_startsWithG_12 : decode cX6_startsWithG 12 = .ok (.bipush 7, 2) := xdc ddX6_startsWithG_0 6 rfl
theorem dX6_startsWithG_14 : decode cX6_startsWithG 14 = .ok (.if_icmp .ne 7, 3) := xdc ddX6_startsWithG_0 7 rfl
theorem dX6_startsWithG_17 : decode cX6_startsWithG 17 = .ok (.iconst 1, 1) := xdc ddX6_startsWithG_0 8 rfl
theorem dX6_startsWithG_18 : decode cX6_startsWithG 18 = .ok (.goto 4, 3) := xdc ddX6_startsWithG_0 9 rfl
theorem dX6_startsWithG_21 : decode cX6_startsWithG 21 = .ok (.iconst 0, 1) := xdc ddX6_startsWithG_0 10 rfl
theorem dX6_startsWithG_22 : decode cX6_startsWithG 22 = .ok (.ireturn, 1) := xdc ddX6_startsWithG_0 11 rfl
abbrev cX6_writesStackPointer : ByteArray := prog_8_method_5_code
theorem ddX6_writesStackPointer_0 : xdec cX6_writesStackPointer [(0, (.aload_n 0, 1)), (1, (.getfield 15, 3)), (4, (.getfield 64, 3)), (7, (.ifCond .eq 11, 3)), (10, (.aload_n 0, 1)), (11, (.getfield 30, 3)), (14, (.iconst 1, 1)), (15, (.if_icmp .ne 5, 3)), (18, (.iconst 0, 1)), (19, (.ireturn, 1)), (20, (.aload_n 0, 1)), (21, (.invokevirtual 67, 3)), (24, (.ifCond .ne 14, 3)), (27, (.aload_n 0, 1)), (28, (.getfield 15, 3)), (31, (.getfield 64, 3)), (34, (.iconst 2, 1)), (35, (.if_icmp .ne 7, 3)), (38, (.iconst 1, 1)), (39, (.goto 4, 3)), (42, (.iconst 0, 1)), (43, (.istore_n 1, 1)), (44, (.aload_n 0, 1)), (45, (.invokevirtual 67, 3)), (48, (.ifCond .ne 14, 3)), (51, (.aload_n 0, 1)), (52, (.getfield 48, 3)), (55, (.ifCond .ne 7, 3)), (58, (.iconst 1, 1)), (59, (.goto 4, 3)), (62, (.iconst 0, 1)), (63, (.istore_n 2, 1)), (64, (.iload_n 1, 1)), (65, (.ifCond .eq 11, 3)), (68, (.aload_n 0, 1)), (69, (.getfield 39, 3)), (72, (.iconst 4, 1)), (73, (.if_icmp .eq 15, 3)), (76, (.iload_n 2, 1)), (77, (.ifCond .eq 15, 3))] = true := by decide +kernel
theorem dX6_writesStackPointer_0 : decode cX6_writesStackPointer 0 = .ok (.aload_n 0, 1) := xdc ddX6_writesStackPointer_0 0 rfl
theorem dX6_writesStackPointer_1 : decode cX6_writesStackPointer 1 = .ok (.getfield 15, 3) := xdc ddX6_writesStackPointer_0 1 rfl
theorem dX6_writesStackPointer_4 : decode cX6_writesStackPointer 4 = .ok (.getfield 64, 3) := xdc ddX6_writesStackPointer_0 2 rfl
theorem dX6_writesStackPointer_7 : decode cX6_writesStackPointer 7 = .ok (.ifCond .eq 11, 3) := xdc ddX6_writesStackPointer_0 3 rfl
theorem dX6_writesStackPointer_10 : decode cX6_writesStackPointer 10 = .ok (.aload_n 0, 1) := xdc ddX6_writesStackPointer_0 4 rfl
theorem dX6_writesStackPointer_11 : decode cX6_writesStackPointer 11 = .ok (.getfield 30, 3) := xdc ddX6_writesStackPointer_0 5 rfl
theorem dX6_writesStackPointer_14 : decode cX6_writesStackPointer 14 = .ok (.iconst 1, 1) := xdc ddX6_writesStackPointer_0 6 rfl
theorem dX6_writesStackPointer_15 : decode cX6_writesStackPointer 15 = .ok (.if_icmp .ne 5, 3) := xdc ddX6_writesStackPointer_0 7 rfl
theorem dX6_writesStackPointer_18 : decode cX6_writesStackPointer 18 = .ok (.iconst 0, 1) := xdc ddX6_writesStackPointer_0 8 rfl
theorem dX6_writesStackPointer_19 : decode cX6_writesStackPointer 19 = .ok (.ireturn, 1) := xdc ddX6_writesStackPointer_0 9 rfl
theorem dX6_writesStackPointer_20 : decode cX6_writesStackPointer 20 = .ok (.aload_n 0, 1) := xdc ddX6_writesStackPointer_0 10 rfl
theorem dX6_writesStackPointer_21 : decode cX6_writesStackPointer 21 = .ok (.invokevirtual 67, 3) := xdc ddX6_writesStackPointer_0 11 rfl
theorem dX6_writesStackPointer_24 : decode cX6_writesStackPointer 24 = .ok (.ifCond .ne 14, 3) := xdc ddX6_writesStackPointer_0 12 rfl
theorem dX6_writesStackPointer_27 : decode cX6_writesStackPointer 27 = .ok (.aload_n 0, 1) := xdc ddX6_writesStackPointer_0 13 rfl
theorem dX6_writesStackPointer_28 : decode cX6_writesStackPointer 28 = .ok (.getfield 15, 3) := xdc ddX6_writesStackPointer_0 14 rfl
theorem dX6_writesStackPointer_31 : decode cX6_writesStackPointer 31 = .ok (.getfield 64, 3) := xdc ddX6_writesStackPointer_0 15 rfl
theorem dX6_writesStackPointer_34 : decode cX6_writesStackPointer 34 = .ok (.iconst 2, 1) := xdc ddX6_writesStackPointer_0 16 rfl
theorem dX6_writesStackPointer_35 : decode cX6_writesStackPointer 35 = .ok (.if_icmp .ne 7, 3) := xdc ddX6_writesStackPointer_0 17 rfl
theorem dX6_writesStackPointer_38 : decode cX6_writesStackPointer 38 = .ok (.iconst 1, 1) := xdc ddX6_writesStackPointer_0 18 rfl
theorem dX6_writesStackPointer_39 : decode cX6_writesStackPointer 39 = .ok (.goto 4, 3) := xdc ddX6_writesStackPointer_0 19 rfl
theorem dX6_writesStackPointer_42 : decode cX6_writesStackPointer 42 = .ok (.iconst 0, 1) := xdc ddX6_writesStackPointer_0 20 rfl
theorem dX6_writesStackPointer_43 : decode cX6_writesStackPointer 43 = .ok (.istore_n 1, 1) := xdc ddX6_writesStackPointer_0 21 rfl
theorem dX6_writesStackPointer_44 : decode cX6_writesStackPointer 44 = .ok (.aload_n 0, 1) := xdc ddX6_writesStackPointer_0 22 rfl
theorem dX6_writesStackPointer_45 : decode cX6_writesStackPointer 45 = .ok (.invokevirtual 67, 3) := xdc ddX6_writesStackPointer_0 23 rfl
theorem dX6_writesStackPointer_48 : decode cX6_writesStackPointer 48 = .ok (.ifCond .ne 14, 3) := xdc ddX6_writesStackPointer_0 24 rfl
theorem dX6_writesStackPointer_51 : decode cX6_writesStackPointer 51 = .ok (.aload_n 0, 1) := xdc ddX6_writesStackPointer_0 25 rfl
theorem dX6_writesStackPointer_52 : decode cX6_writesStackPointer 52 = .ok (.getfield 48, 3) := xdc ddX6_writesStackPointer_0 26 rfl
theorem dX6_writesStackPointer_55 : decode cX6_writesStackPointer 55 = .ok (.ifCond .ne 7, 3) := xdc ddX6_writesStackPointer_0 27 rfl
theorem dX6_writesStackPointer_58 : decode cX6_writesStackPointer 58 = .ok (.iconst 1, 1) := xdc ddX6_writesStackPointer_0 28 rfl
theorem dX6_writesStackPointer_59 : decode cX6_writesStackPointer 59 = .ok (.goto 4, 3) := xdc ddX6_writesStackPointer_0 29 rfl
theorem dX6_writesStackPointer_62 : decode cX6_writesStackPointer 62 = .ok (.iconst 0, 1) := xdc ddX6_writesStackPointer_0 30 rfl
theorem dX6_writesStackPointer_63 : decode cX6_writesStackPointer 63 = .ok (.istore_n 2, 1) := xdc ddX6_writesStackPointer_0 31 rfl
theorem dX6_writesStackPointer_64 : decode cX6_writesStackPointer 64 = .ok (.iload_n 1, 1) := xdc ddX6_writesStackPointer_0 32 rfl
theorem dX6_writesStackPointer_65 : decode cX6_writesStackPointer 65 = .ok (.ifCond .eq 11, 3) := xdc ddX6_writesStackPointer_0 33 rfl
theorem dX6_writesStackPointer_68 : decode cX6_writesStackPointer 68 = .ok (.aload_n 0, 1) := xdc ddX6_writesStackPointer_0 34 rfl
theorem dX6_writesStackPointer_69 : decode cX6_writesStackPointer 69 = .ok (.getfield 39, 3) := xdc ddX6_writesStackPointer_0 35 rfl
theorem dX6_writesStackPointer_72 : decode cX6_writesStackPointer 72 = .ok (.iconst 4, 1) := xdc ddX6_writesStackPointer_0 36 rfl
theorem dX6_writesStackPointer_73 : decode cX6_writesStackPointer 73 = .ok (.if_icmp .eq 15, 3) := xdc ddX6_writesStackPointer_0 37 rfl
theorem dX6_writesStackPointer_76 : decode cX6_writesStackPointer 76 = .ok (.iload_n 2, 1) := xdc ddX6_writesStackPointer_0 38 rfl
theorem dX6_writesStackPointer_77 : decode cX6_writesStackPointer 77 = .ok (.ifCond .eq 15, 3) := xdc ddX6_writesStackPointer_0 39 rfl
theorem ddX6_writesStackPointer_1 : xdec cX6_writesStackPointer [(80, (.aload_n 0, 1)), (81, (.getfield 36, 3)), (84, (.iconst 4, 1)), (85, (.if_icmp .ne 7, 3)), (88, (.iconst 1, 1)), (89, (.goto 4, 3)), (92, (.iconst 0, 1)), (93, (.ireturn, 1))] = true := by decide +kernel
theorem dX6_writesStackPointer_80 : decode cX6_writesStackPointer 80 = .ok (.aload_n 0, 1) := xdc ddX6_writesStackPointer_1 0 rfl
theorem dX6_writesStackPointer_81 : decode cX6_writesStackPointer 81 = .ok (.getfield 36, 3) := xdc ddX6_writesStackPointer_1 1 rfl
theorem dX6_writesStackPointer_84 : decode cX6_writesStackPointer 84 = .ok (.iconst 4, 1) := xdc ddX6_writesStackPointer_1 2 rfl
theorem dX6_writesStackPointer_85 : decode cX6_writesStackPointer 85 = .ok (.if_icmp .ne 7, 3) := xdc ddX6_writesStackPointer_1 3 rfl
theorem dX6_writesStackPointer_88 : decode cX6_writesStackPointer 88 = .ok (.iconst 1, 1) := xdc ddX6_writesStackPointer_1 4 rfl
theorem dX6_writesStackPointer_89 : decode cX6_writesStackPointer 89 = .ok (.goto 4, 3) := xdc ddX6_writesStackPointer_1 5 rfl
theorem dX6_writesStackPointer_92 : decode cX6_writesStackPointer 92 = .ok (.iconst 0, 1) := xdc ddX6_writesStackPointer_1 6 rfl
theorem dX6_writesStackPointer_93 : decode cX6_writesStackPointer 93 = .ok (.ireturn, 1) := xdc ddX6_writesStackPointer_1 7 rfl
abbrev cX6_writesMemory : ByteArray := prog_8_method_4_code
theorem ddX6_writesMemory_0 : xdec cX6_writesMemory [(0, (.aload_n 0, 1)), (1, (.getfield 15, 3)), (4, (.getfield 64, 3)), (7, (.ifCond .eq 21, 3)), (10, (.aload_n 0, 1)), (11, (.getfield 48, 3)), (14, (.ifCond .eq 14, 3)), (17, (.aload_n 0, 1)), (18, (.invokevirtual 67, 3)), (21, (.ifCond .ne 7, 3)), (24, (.iconst 1, 1)), (25, (.goto 4, 3)), (28, (.iconst 0, 1)), (29, (.ireturn, 1))] = true := by decide +kernel
theorem dX6_writesMemory_0 : decode cX6_writesMemory 0 = .ok (.aload_n 0, 1) := xdc ddX6_writesMemory_0 0 rfl
theorem dX6_writesMemory_1 : decode cX6_writesMemory 1 = .ok (.getfield 15, 3) := xdc ddX6_writesMemory_0 1 rfl
theorem dX6_writesMemory_4 : decode cX6_writesMemory 4 = .ok (.getfield 64, 3) := xdc ddX6_writesMemory_0 2 rfl
theorem dX6_writesMemory_7 : decode cX6_writesMemory 7 = .ok (.ifCond .eq 21, 3) := xdc ddX6_writesMemory_0 3 rfl
theorem dX6_writesMemory_10 : decode cX6_writesMemory 10 = .ok (.aload_n 0, 1) := xdc ddX6_writesMemory_0 4 rfl
theorem dX6_writesMemory_11 : decode cX6_writesMemory 11 = .ok (.getfield 48, 3) := xdc ddX6_writesMemory_0 5 rfl
theorem dX6_writesMemory_14 : decode cX6_writesMemory 14 = .ok (.ifCond .eq 14, 3) := xdc ddX6_writesMemory_0 6 rfl
theorem dX6_writesMemory_17 : decode cX6_writesMemory 17 = .ok (.aload_n 0, 1) := xdc ddX6_writesMemory_0 7 rfl
theorem dX6_writesMemory_18 : decode cX6_writesMemory 18 = .ok (.invokevirtual 67, 3) := xdc ddX6_writesMemory_0 8 rfl
theorem dX6_writesMemory_21 : decode cX6_writesMemory 21 = .ok (.ifCond .ne 7, 3) := xdc ddX6_writesMemory_0 9 rfl
theorem dX6_writesMemory_24 : decode cX6_writesMemory 24 = .ok (.iconst 1, 1) := xdc ddX6_writesMemory_0 10 rfl
theorem dX6_writesMemory_25 : decode cX6_writesMemory 25 = .ok (.goto 4, 3) := xdc ddX6_writesMemory_0 11 rfl
theorem dX6_writesMemory_28 : decode cX6_writesMemory 28 = .ok (.iconst 0, 1) := xdc ddX6_writesMemory_0 12 rfl
theorem dX6_writesMemory_29 : decode cX6_writesMemory 29 = .ok (.ireturn, 1) := xdc ddX6_writesMemory_0 13 rfl
abbrev cX6_isNear : ByteArray := prog_8_method_6_code
theorem ddX6_isNear_0 : xdec cX6_isNear [(0, (.aload_n 0, 1)), (1, (.getfield 48, 3)), (4, (.ifCond .eq 43, 3)), (7, (.aload_n 0, 1)), (8, (.getfield 52, 3)), (11, (.iconst (-1), 1)), (12, (.if_icmp .eq 35, 3)), (15, (.aload_n 0, 1)), (16, (.getfield 55, 3)), (19, (.iconst (-1), 1)), (20, (.if_icmp .ne 27, 3)), (23, (.aload_n 0, 1)), (24, (.getfield 61, 3)), (27, (.sipush (-2048), 3)), (30, (.if_icmp .lt 17, 3)), (33, (.aload_n 0, 1)), (34, (.getfield 61, 3)), (37, (.sipush 2047, 3)), (40, (.if_icmp .gt 7, 3)), (43, (.iconst 1, 1)), (44, (.goto 4, 3)), (47, (.iconst 0, 1)), (48, (.ireturn, 1))] = true := by decide +kernel
theorem dX6_isNear_0 : decode cX6_isNear 0 = .ok (.aload_n 0, 1) := xdc ddX6_isNear_0 0 rfl
theorem dX6_isNear_1 : decode cX6_isNear 1 = .ok (.getfield 48, 3) := xdc ddX6_isNear_0 1 rfl
theorem dX6_isNear_4 : decode cX6_isNear 4 = .ok (.ifCond .eq 43, 3) := xdc ddX6_isNear_0 2 rfl
theorem dX6_isNear_7 : decode cX6_isNear 7 = .ok (.aload_n 0, 1) := xdc ddX6_isNear_0 3 rfl
theorem dX6_isNear_8 : decode cX6_isNear 8 = .ok (.getfield 52, 3) := xdc ddX6_isNear_0 4 rfl
theorem dX6_isNear_11 : decode cX6_isNear 11 = .ok (.iconst (-1), 1) := xdc ddX6_isNear_0 5 rfl
theorem dX6_isNear_12 : decode cX6_isNear 12 = .ok (.if_icmp .eq 35, 3) := xdc ddX6_isNear_0 6 rfl
theorem dX6_isNear_15 : decode cX6_isNear 15 = .ok (.aload_n 0, 1) := xdc ddX6_isNear_0 7 rfl
theorem dX6_isNear_16 : decode cX6_isNear 16 = .ok (.getfield 55, 3) := xdc ddX6_isNear_0 8 rfl
theorem dX6_isNear_19 : decode cX6_isNear 19 = .ok (.iconst (-1), 1) := xdc ddX6_isNear_0 9 rfl
theorem dX6_isNear_20 : decode cX6_isNear 20 = .ok (.if_icmp .ne 27, 3) := xdc ddX6_isNear_0 10 rfl
theorem dX6_isNear_23 : decode cX6_isNear 23 = .ok (.aload_n 0, 1) := xdc ddX6_isNear_0 11 rfl
theorem dX6_isNear_24 : decode cX6_isNear 24 = .ok (.getfield 61, 3) := xdc ddX6_isNear_0 12 rfl
theorem dX6_isNear_27 : decode cX6_isNear 27 = .ok (.sipush (-2048), 3) := xdc ddX6_isNear_0 13 rfl
theorem dX6_isNear_30 : decode cX6_isNear 30 = .ok (.if_icmp .lt 17, 3) := xdc ddX6_isNear_0 14 rfl
theorem dX6_isNear_33 : decode cX6_isNear 33 = .ok (.aload_n 0, 1) := xdc ddX6_isNear_0 15 rfl
theorem dX6_isNear_34 : decode cX6_isNear 34 = .ok (.getfield 61, 3) := xdc ddX6_isNear_0 16 rfl
theorem dX6_isNear_37 : decode cX6_isNear 37 = .ok (.sipush 2047, 3) := xdc ddX6_isNear_0 17 rfl
theorem dX6_isNear_40 : decode cX6_isNear 40 = .ok (.if_icmp .gt 7, 3) := xdc ddX6_isNear_0 18 rfl
theorem dX6_isNear_43 : decode cX6_isNear 43 = .ok (.iconst 1, 1) := xdc ddX6_isNear_0 19 rfl
theorem dX6_isNear_44 : decode cX6_isNear 44 = .ok (.goto 4, 3) := xdc ddX6_isNear_0 20 rfl
theorem dX6_isNear_47 : decode cX6_isNear 47 = .ok (.iconst 0, 1) := xdc ddX6_isNear_0 21 rfl
theorem dX6_isNear_48 : decode cX6_isNear 48 = .ok (.ireturn, 1) := xdc ddX6_isNear_0 22 rfl
abbrev cX6_isFixedInData : ByteArray := prog_8_method_7_code
theorem ddX6_isFixedInData_0 : xdec cX6_isFixedInData [(0, (.aload_n 0, 1)), (1, (.getfield 48, 3)), (4, (.ifCond .eq 38, 3)), (7, (.aload_n 0, 1)), (8, (.getfield 52, 3)), (11, (.iconst (-1), 1)), (12, (.if_icmp .ne 30, 3)), (15, (.aload_n 0, 1)), (16, (.getfield 55, 3)), (19, (.iconst (-1), 1)), (20, (.if_icmp .ne 22, 3)), (23, (.aload_n 0, 1)), (24, (.getfield 61, 3)), (27, (.aload_n 0, 1)), (28, (.getfield 33, 3)), (31, (.i2l, 1)), (32, (.invokestatic 71, 3)), (35, (.ifCond .eq 7, 3)), (38, (.iconst 1, 1)), (39, (.goto 4, 3)), (42, (.iconst 0, 1)), (43, (.ireturn, 1))] = true := by decide +kernel
theorem dX6_isFixedInData_0 : decode cX6_isFixedInData 0 = .ok (.aload_n 0, 1) := xdc ddX6_isFixedInData_0 0 rfl
theorem dX6_isFixedInData_1 : decode cX6_isFixedInData 1 = .ok (.getfield 48, 3) := xdc ddX6_isFixedInData_0 1 rfl
theorem dX6_isFixedInData_4 : decode cX6_isFixedInData 4 = .ok (.ifCond .eq 38, 3) := xdc ddX6_isFixedInData_0 2 rfl
theorem dX6_isFixedInData_7 : decode cX6_isFixedInData 7 = .ok (.aload_n 0, 1) := xdc ddX6_isFixedInData_0 3 rfl
theorem dX6_isFixedInData_8 : decode cX6_isFixedInData 8 = .ok (.getfield 52, 3) := xdc ddX6_isFixedInData_0 4 rfl
theorem dX6_isFixedInData_11 : decode cX6_isFixedInData 11 = .ok (.iconst (-1), 1) := xdc ddX6_isFixedInData_0 5 rfl
theorem dX6_isFixedInData_12 : decode cX6_isFixedInData 12 = .ok (.if_icmp .ne 30, 3) := xdc ddX6_isFixedInData_0 6 rfl
theorem dX6_isFixedInData_15 : decode cX6_isFixedInData 15 = .ok (.aload_n 0, 1) := xdc ddX6_isFixedInData_0 7 rfl
theorem dX6_isFixedInData_16 : decode cX6_isFixedInData 16 = .ok (.getfield 55, 3) := xdc ddX6_isFixedInData_0 8 rfl
theorem dX6_isFixedInData_19 : decode cX6_isFixedInData 19 = .ok (.iconst (-1), 1) := xdc ddX6_isFixedInData_0 9 rfl
theorem dX6_isFixedInData_20 : decode cX6_isFixedInData 20 = .ok (.if_icmp .ne 22, 3) := xdc ddX6_isFixedInData_0 10 rfl
theorem dX6_isFixedInData_23 : decode cX6_isFixedInData 23 = .ok (.aload_n 0, 1) := xdc ddX6_isFixedInData_0 11 rfl
theorem dX6_isFixedInData_24 : decode cX6_isFixedInData 24 = .ok (.getfield 61, 3) := xdc ddX6_isFixedInData_0 12 rfl
theorem dX6_isFixedInData_27 : decode cX6_isFixedInData 27 = .ok (.aload_n 0, 1) := xdc ddX6_isFixedInData_0 13 rfl
theorem dX6_isFixedInData_28 : decode cX6_isFixedInData 28 = .ok (.getfield 33, 3) := xdc ddX6_isFixedInData_0 14 rfl
theorem dX6_isFixedInData_31 : decode cX6_isFixedInData 31 = .ok (.i2l, 1) := xdc ddX6_isFixedInData_0 15 rfl
theorem dX6_isFixedInData_32 : decode cX6_isFixedInData 32 = .ok (.invokestatic 71, 3) := xdc ddX6_isFixedInData_0 16 rfl
theorem dX6_isFixedInData_35 : decode cX6_isFixedInData 35 = .ok (.ifCond .eq 7, 3) := xdc ddX6_isFixedInData_0 17 rfl
theorem dX6_isFixedInData_38 : decode cX6_isFixedInData 38 = .ok (.iconst 1, 1) := xdc ddX6_isFixedInData_0 18 rfl
theorem dX6_isFixedInData_39 : decode cX6_isFixedInData 39 = .ok (.goto 4, 3) := xdc ddX6_isFixedInData_0 19 rfl
theorem dX6_isFixedInData_42 : decode cX6_isFixedInData 42 = .ok (.iconst 0, 1) := xdc ddX6_isFixedInData_0 20 rfl
theorem dX6_isFixedInData_43 : decode cX6_isFixedInData 43 = .ok (.ireturn, 1) := xdc ddX6_isFixedInData_0 21 rfl
abbrev cX6_isMask : ByteArray := prog_8_method_9_code
theorem ddX6_isMask_0 : xdec cX6_isMask [(0, (.aload_n 0, 1)), (1, (.getfield 15, 3)), (4, (.aload_n 1, 1)), (5, (.if_acmp .ne 30, 3)), (8, (.aload_n 0, 1)), (9, (.getfield 24, 3)), (12, (.iload_n 2, 1)), (13, (.if_icmp .ne 22, 3)), (16, (.aload_n 0, 1)), (17, (.getfield 48, 3)), (20, (.ifCond .ne 15, 3)), (23, (.aload_n 0, 1)), (24, (.getfield 42, 3)), (27, (.iload_n 3, 1)), (28, (.if_icmp .ne 7, 3)), (31, (.iconst 1, 1)), (32, (.goto 4, 3)), (35, (.iconst 0, 1)), (36, (.ireturn, 1))] = true := by decide +kernel
theorem dX6_isMask_0 : decode cX6_isMask 0 = .ok (.aload_n 0, 1) := xdc ddX6_isMask_0 0 rfl
theorem dX6_isMask_1 : decode cX6_isMask 1 = .ok (.getfield 15, 3) := xdc ddX6_isMask_0 1 rfl
theorem dX6_isMask_4 : decode cX6_isMask 4 = .ok (.aload_n 1, 1) := xdc ddX6_isMask_0 2 rfl
theorem dX6_isMask_5 : decode cX6_isMask 5 = .ok (.if_acmp .ne 30, 3) := xdc ddX6_isMask_0 3 rfl
theorem dX6_isMask_8 : decode cX6_isMask 8 = .ok (.aload_n 0, 1) := xdc ddX6_isMask_0 4 rfl
theorem dX6_isMask_9 : decode cX6_isMask 9 = .ok (.getfield 24, 3) := xdc ddX6_isMask_0 5 rfl
theorem dX6_isMask_12 : decode cX6_isMask 12 = .ok (.iload_n 2, 1) := xdc ddX6_isMask_0 6 rfl
theorem dX6_isMask_13 : decode cX6_isMask 13 = .ok (.if_icmp .ne 22, 3) := xdc ddX6_isMask_0 7 rfl
theorem dX6_isMask_16 : decode cX6_isMask 16 = .ok (.aload_n 0, 1) := xdc ddX6_isMask_0 8 rfl
theorem dX6_isMask_17 : decode cX6_isMask 17 = .ok (.getfield 48, 3) := xdc ddX6_isMask_0 9 rfl
theorem dX6_isMask_20 : decode cX6_isMask 20 = .ok (.ifCond .ne 15, 3) := xdc ddX6_isMask_0 10 rfl
theorem dX6_isMask_23 : decode cX6_isMask 23 = .ok (.aload_n 0, 1) := xdc ddX6_isMask_0 11 rfl
theorem dX6_isMask_24 : decode cX6_isMask 24 = .ok (.getfield 42, 3) := xdc ddX6_isMask_0 12 rfl
theorem dX6_isMask_27 : decode cX6_isMask 27 = .ok (.iload_n 3, 1) := xdc ddX6_isMask_0 13 rfl
theorem dX6_isMask_28 : decode cX6_isMask 28 = .ok (.if_icmp .ne 7, 3) := xdc ddX6_isMask_0 14 rfl
theorem dX6_isMask_31 : decode cX6_isMask 31 = .ok (.iconst 1, 1) := xdc ddX6_isMask_0 15 rfl
theorem dX6_isMask_32 : decode cX6_isMask 32 = .ok (.goto 4, 3) := xdc ddX6_isMask_0 16 rfl
theorem dX6_isMask_35 : decode cX6_isMask 35 = .ok (.iconst 0, 1) := xdc ddX6_isMask_0 17 rfl
theorem dX6_isMask_36 : decode cX6_isMask 36 = .ok (.ireturn, 1) := xdc ddX6_isMask_0 18 rfl
abbrev cX6_isRegisterJump : ByteArray := prog_8_method_8_code
theorem ddX6_isRegisterJump_0 : xdec cX6_isRegisterJump [(0, (.aload_n 0, 1)), (1, (.getfield 20, 3)), (4, (.iconst 5, 1)), (5, (.if_icmp .ne 27, 3)), (8, (.aload_n 0, 1)), (9, (.getfield 15, 3)), (12, (.getstatic 77, 3)), (15, (.if_acmp .eq 13, 3)), (18, (.aload_n 0, 1)), (19, (.getfield 15, 3)), (22, (.getstatic 80, 3)), (25, (.if_acmp .ne 7, 3)), (28, (.iconst 1, 1)), (29, (.goto 4, 3)), (32, (.iconst 0, 1)), (33, (.ireturn, 1))] = true := by decide +kernel
theorem dX6_isRegisterJump_0 : decode cX6_isRegisterJump 0 = .ok (.aload_n 0, 1) := xdc ddX6_isRegisterJump_0 0 rfl
theorem dX6_isRegisterJump_1 : decode cX6_isRegisterJump 1 = .ok (.getfield 20, 3) := xdc ddX6_isRegisterJump_0 1 rfl
theorem dX6_isRegisterJump_4 : decode cX6_isRegisterJump 4 = .ok (.iconst 5, 1) := xdc ddX6_isRegisterJump_0 2 rfl
theorem dX6_isRegisterJump_5 : decode cX6_isRegisterJump 5 = .ok (.if_icmp .ne 27, 3) := xdc ddX6_isRegisterJump_0 3 rfl
theorem dX6_isRegisterJump_8 : decode cX6_isRegisterJump 8 = .ok (.aload_n 0, 1) := xdc ddX6_isRegisterJump_0 4 rfl
theorem dX6_isRegisterJump_9 : decode cX6_isRegisterJump 9 = .ok (.getfield 15, 3) := xdc ddX6_isRegisterJump_0 5 rfl
theorem dX6_isRegisterJump_12 : decode cX6_isRegisterJump 12 = .ok (.getstatic 77, 3) := xdc ddX6_isRegisterJump_0 6 rfl
theorem dX6_isRegisterJump_15 : decode cX6_isRegisterJump 15 = .ok (.if_acmp .eq 13, 3) := xdc ddX6_isRegisterJump_0 7 rfl
theorem dX6_isRegisterJump_18 : decode cX6_isRegisterJump 18 = .ok (.aload_n 0, 1) := xdc ddX6_isRegisterJump_0 8 rfl
theorem dX6_isRegisterJump_19 : decode cX6_isRegisterJump 19 = .ok (.getfield 15, 3) := xdc ddX6_isRegisterJump_0 9 rfl
theorem dX6_isRegisterJump_22 : decode cX6_isRegisterJump 22 = .ok (.getstatic 80, 3) := xdc ddX6_isRegisterJump_0 10 rfl
theorem dX6_isRegisterJump_25 : decode cX6_isRegisterJump 25 = .ok (.if_acmp .ne 7, 3) := xdc ddX6_isRegisterJump_0 11 rfl
theorem dX6_isRegisterJump_28 : decode cX6_isRegisterJump 28 = .ok (.iconst 1, 1) := xdc ddX6_isRegisterJump_0 12 rfl
theorem dX6_isRegisterJump_29 : decode cX6_isRegisterJump 29 = .ok (.goto 4, 3) := xdc ddX6_isRegisterJump_0 13 rfl
theorem dX6_isRegisterJump_32 : decode cX6_isRegisterJump 32 = .ok (.iconst 0, 1) := xdc ddX6_isRegisterJump_0 14 rfl
theorem dX6_isRegisterJump_33 : decode cX6_isRegisterJump 33 = .ok (.ireturn, 1) := xdc ddX6_isRegisterJump_0 15 rfl
abbrev cX5_traitsOfIt : ByteArray := prog_7_method_5_code
theorem ddX5_traitsOfIt_0 : xdec cX5_traitsOfIt [(0, (.aload_n 0, 1)), (1, (.getfield 41, 3)), (4, (.invokevirtual 92, 3)), (7, (.ifCond .eq 7, 3)), (10, (.iconst 1, 1)), (11, (.goto 4, 3)), (14, (.iconst 0, 1)), (15, (.istore_n 1, 1)), (16, (.iload_n 1, 1)), (17, (.aload_n 0, 1)), (18, (.getfield 41, 3)), (21, (.invokevirtual 96, 3)), (24, (.ifCond .eq 7, 3)), (27, (.iconst 2, 1)), (28, (.goto 4, 3)), (31, (.iconst 0, 1)), (32, (.ior, 1)), (33, (.istore_n 1, 1)), (34, (.iload_n 1, 1)), (35, (.aload_n 0, 1)), (36, (.getfield 41, 3)), (39, (.invokevirtual 99, 3)), (42, (.ifCond .eq 7, 3)), (45, (.iconst 4, 1)), (46, (.goto 4, 3)), (49, (.iconst 0, 1)), (50, (.ior, 1)), (51, (.istore_n 1, 1)), (52, (.iload_n 1, 1)), (53, (.aload_n 0, 1)), (54, (.getfield 41, 3)), (57, (.invokevirtual 102, 3)), (60, (.ifCond .eq 8, 3)), (63, (.bipush 8, 2)), (65, (.goto 4, 3)), (68, (.iconst 0, 1)), (69, (.ior, 1)), (70, (.istore_n 1, 1)), (71, (.iload_n 1, 1)), (72, (.aload_n 0, 1))] = true := by decide +kernel
theorem dX5_traitsOfIt_0 : decode cX5_traitsOfIt 0 = .ok (.aload_n 0, 1) := xdc ddX5_traitsOfIt_0 0 rfl
theorem dX5_traitsOfIt_1 : decode cX5_traitsOfIt 1 = .ok (.getfield 41, 3) := xdc ddX5_traitsOfIt_0 1 rfl
theorem dX5_traitsOfIt_4 : decode cX5_traitsOfIt 4 = .ok (.invokevirtual 92, 3) := xdc ddX5_traitsOfIt_0 2 rfl
theorem dX5_traitsOfIt_7 : decode cX5_traitsOfIt 7 = .ok (.ifCond .eq 7, 3) := xdc ddX5_traitsOfIt_0 3 rfl
theorem dX5_traitsOfIt_10 : decode cX5_traitsOfIt 10 = .ok (.iconst 1, 1) := xdc ddX5_traitsOfIt_0 4 rfl
theorem dX5_traitsOfIt_11 : decode cX5_traitsOfIt 11 = .ok (.goto 4, 3) := xdc ddX5_traitsOfIt_0 5 rfl
theorem dX5_traitsOfIt_14 : decode cX5_traitsOfIt 14 = .ok (.iconst 0, 1) := xdc ddX5_traitsOfIt_0 6 rfl
theorem dX5_traitsOfIt_15 : decode cX5_traitsOfIt 15 = .ok (.istore_n 1, 1) := xdc ddX5_traitsOfIt_0 7 rfl
theorem dX5_traitsOfIt_16 : decode cX5_traitsOfIt 16 = .ok (.iload_n 1, 1) := xdc ddX5_traitsOfIt_0 8 rfl
theorem dX5_traitsOfIt_17 : decode cX5_traitsOfIt 17 = .ok (.aload_n 0, 1) := xdc ddX5_traitsOfIt_0 9 rfl
theorem dX5_traitsOfIt_18 : decode cX5_traitsOfIt 18 = .ok (.getfield 41, 3) := xdc ddX5_traitsOfIt_0 10 rfl
theorem dX5_traitsOfIt_21 : decode cX5_traitsOfIt 21 = .ok (.invokevirtual 96, 3) := xdc ddX5_traitsOfIt_0 11 rfl
theorem dX5_traitsOfIt_24 : decode cX5_traitsOfIt 24 = .ok (.ifCond .eq 7, 3) := xdc ddX5_traitsOfIt_0 12 rfl
theorem dX5_traitsOfIt_27 : decode cX5_traitsOfIt 27 = .ok (.iconst 2, 1) := xdc ddX5_traitsOfIt_0 13 rfl
theorem dX5_traitsOfIt_28 : decode cX5_traitsOfIt 28 = .ok (.goto 4, 3) := xdc ddX5_traitsOfIt_0 14 rfl
theorem dX5_traitsOfIt_31 : decode cX5_traitsOfIt 31 = .ok (.iconst 0, 1) := xdc ddX5_traitsOfIt_0 15 rfl
theorem dX5_traitsOfIt_32 : decode cX5_traitsOfIt 32 = .ok (.ior, 1) := xdc ddX5_traitsOfIt_0 16 rfl
theorem dX5_traitsOfIt_33 : decode cX5_traitsOfIt 33 = .ok (.istore_n 1, 1) := xdc ddX5_traitsOfIt_0 17 rfl
theorem dX5_traitsOfIt_34 : decode cX5_traitsOfIt 34 = .ok (.iload_n 1, 1) := xdc ddX5_traitsOfIt_0 18 rfl
theorem dX5_traitsOfIt_35 : decode cX5_traitsOfIt 35 = .ok (.aload_n 0, 1) := xdc ddX5_traitsOfIt_0 19 rfl
theorem dX5_traitsOfIt_36 : decode cX5_traitsOfIt 36 = .ok (.getfield 41, 3) := xdc ddX5_traitsOfIt_0 20 rfl
theorem dX5_traitsOfIt_39 : decode cX5_traitsOfIt 39 = .ok (.invokevirtual 99, 3) := xdc ddX5_traitsOfIt_0 21 rfl
theorem dX5_traitsOfIt_42 : decode cX5_traitsOfIt 42 = .ok (.ifCond .eq 7, 3) := xdc ddX5_traitsOfIt_0 22 rfl
theorem dX5_traitsOfIt_45 : decode cX5_traitsOfIt 45 = .ok (.iconst 4, 1) := xdc ddX5_traitsOfIt_0 23 rfl
theorem dX5_traitsOfIt_46 : decode cX5_traitsOfIt 46 = .ok (.goto 4, 3) := xdc ddX5_traitsOfIt_0 24 rfl
theorem dX5_traitsOfIt_49 : decode cX5_traitsOfIt 49 = .ok (.iconst 0, 1) := xdc ddX5_traitsOfIt_0 25 rfl
theorem dX5_traitsOfIt_50 : decode cX5_traitsOfIt 50 = .ok (.ior, 1) := xdc ddX5_traitsOfIt_0 26 rfl
theorem dX5_traitsOfIt_51 : decode cX5_traitsOfIt 51 = .ok (.istore_n 1, 1) := xdc ddX5_traitsOfIt_0 27 rfl
theorem dX5_traitsOfIt_52 : decode cX5_traitsOfIt 52 = .ok (.iload_n 1, 1) := xdc ddX5_traitsOfIt_0 28 rfl
theorem dX5_traitsOfIt_53 : decode cX5_traitsOfIt 53 = .ok (.aload_n 0, 1) := xdc ddX5_traitsOfIt_0 29 rfl
theorem dX5_traitsOfIt_54 : decode cX5_traitsOfIt 54 = .ok (.getfield 41, 3) := xdc ddX5_traitsOfIt_0 30 rfl
theorem dX5_traitsOfIt_57 : decode cX5_traitsOfIt 57 = .ok (.invokevirtual 102, 3) := xdc ddX5_traitsOfIt_0 31 rfl
theorem dX5_traitsOfIt_60 : decode cX5_traitsOfIt 60 = .ok (.ifCond .eq 8, 3) := xdc ddX5_traitsOfIt_0 32 rfl
theorem dX5_traitsOfIt_63 : decode cX5_traitsOfIt 63 = .ok (.bipush 8, 2) := xdc ddX5_traitsOfIt_0 33 rfl
theorem dX5_traitsOfIt_65 : decode cX5_traitsOfIt 65 = .ok (.goto 4, 3) := xdc ddX5_traitsOfIt_0 34 rfl
theorem dX5_traitsOfIt_68 : decode cX5_traitsOfIt 68 = .ok (.iconst 0, 1) := xdc ddX5_traitsOfIt_0 35 rfl
theorem dX5_traitsOfIt_69 : decode cX5_traitsOfIt 69 = .ok (.ior, 1) := xdc ddX5_traitsOfIt_0 36 rfl
theorem dX5_traitsOfIt_70 : decode cX5_traitsOfIt 70 = .ok (.istore_n 1, 1) := xdc ddX5_traitsOfIt_0 37 rfl
theorem dX5_traitsOfIt_71 : decode cX5_traitsOfIt 71 = .ok (.iload_n 1, 1) := xdc ddX5_traitsOfIt_0 38 rfl
theorem dX5_traitsOfIt_72 : decode cX5_traitsOfIt 72 = .ok (.aload_n 0, 1) := xdc ddX5_traitsOfIt_0 39 rfl
theorem ddX5_traitsOfIt_1 : xdec cX5_traitsOfIt [(73, (.getfield 41, 3)), (76, (.getstatic 105, 3)), (79, (.sipush 131, 3)), (82, (.bipush (-32), 2)), (84, (.invokevirtual 111, 3)), (87, (.ifCond .eq 8, 3)), (90, (.bipush 16, 2)), (92, (.goto 4, 3)), (95, (.iconst 0, 1)), (96, (.ior, 1)), (97, (.istore_n 1, 1)), (98, (.iload_n 1, 1)), (99, (.aload_n 0, 1)), (100, (.getfield 41, 3)), (103, (.invokevirtual 115, 3)), (106, (.ifCond .eq 8, 3)), (109, (.bipush 32, 2)), (111, (.goto 4, 3)), (114, (.iconst 0, 1)), (115, (.ior, 1)), (116, (.istore_n 1, 1)), (117, (.iload_n 1, 1)), (118, (.aload_n 0, 1)), (119, (.getfield 41, 3)), (122, (.getstatic 105, 3)), (125, (.sipush 129, 3)), (128, (.ldc 118, 2)), (130, (.invokevirtual 111, 3)), (133, (.ifCond .eq 8, 3)), (136, (.bipush 64, 2)), (138, (.goto 4, 3)), (141, (.iconst 0, 1)), (142, (.ior, 1)), (143, (.istore_n 1, 1)), (144, (.iload_n 1, 1)), (145, (.aload_n 0, 1)), (146, (.getfield 41, 3)), (149, (.getstatic 119, 3)), (152, (.sipush 129, 3)), (155, (.ldc 122, 2))] = true := by decide +kernel
theorem dX5_traitsOfIt_73 : decode cX5_traitsOfIt 73 = .ok (.getfield 41, 3) := xdc ddX5_traitsOfIt_1 0 rfl
theorem dX5_traitsOfIt_76 : decode cX5_traitsOfIt 76 = .ok (.getstatic 105, 3) := xdc ddX5_traitsOfIt_1 1 rfl
theorem dX5_traitsOfIt_79 : decode cX5_traitsOfIt 79 = .ok (.sipush 131, 3) := xdc ddX5_traitsOfIt_1 2 rfl
theorem dX5_traitsOfIt_82 : decode cX5_traitsOfIt 82 = .ok (.bipush (-32), 2) := xdc ddX5_traitsOfIt_1 3 rfl
theorem dX5_traitsOfIt_84 : decode cX5_traitsOfIt 84 = .ok (.invokevirtual 111, 3) := xdc ddX5_traitsOfIt_1 4 rfl
theorem dX5_traitsOfIt_87 : decode cX5_traitsOfIt 87 = .ok (.ifCond .eq 8, 3) := xdc ddX5_traitsOfIt_1 5 rfl
theorem dX5_traitsOfIt_90 : decode cX5_traitsOfIt 90 = .ok (.bipush 16, 2) := xdc ddX5_traitsOfIt_1 6 rfl
theorem dX5_traitsOfIt_92 : decode cX5_traitsOfIt 92 = .ok (.goto 4, 3) := xdc ddX5_traitsOfIt_1 7 rfl
theorem dX5_traitsOfIt_95 : decode cX5_traitsOfIt 95 = .ok (.iconst 0, 1) := xdc ddX5_traitsOfIt_1 8 rfl
theorem dX5_traitsOfIt_96 : decode cX5_traitsOfIt 96 = .ok (.ior, 1) := xdc ddX5_traitsOfIt_1 9 rfl
theorem dX5_traitsOfIt_97 : decode cX5_traitsOfIt 97 = .ok (.istore_n 1, 1) := xdc ddX5_traitsOfIt_1 10 rfl
theorem dX5_traitsOfIt_98 : decode cX5_traitsOfIt 98 = .ok (.iload_n 1, 1) := xdc ddX5_traitsOfIt_1 11 rfl
theorem dX5_traitsOfIt_99 : decode cX5_traitsOfIt 99 = .ok (.aload_n 0, 1) := xdc ddX5_traitsOfIt_1 12 rfl
theorem dX5_traitsOfIt_100 : decode cX5_traitsOfIt 100 = .ok (.getfield 41, 3) := xdc ddX5_traitsOfIt_1 13 rfl
theorem dX5_traitsOfIt_103 : decode cX5_traitsOfIt 103 = .ok (.invokevirtual 115, 3) := xdc ddX5_traitsOfIt_1 14 rfl
theorem dX5_traitsOfIt_106 : decode cX5_traitsOfIt 106 = .ok (.ifCond .eq 8, 3) := xdc ddX5_traitsOfIt_1 15 rfl
theorem dX5_traitsOfIt_109 : decode cX5_traitsOfIt 109 = .ok (.bipush 32, 2) := xdc ddX5_traitsOfIt_1 16 rfl
theorem dX5_traitsOfIt_111 : decode cX5_traitsOfIt 111 = .ok (.goto 4, 3) := xdc ddX5_traitsOfIt_1 17 rfl
theorem dX5_traitsOfIt_114 : decode cX5_traitsOfIt 114 = .ok (.iconst 0, 1) := xdc ddX5_traitsOfIt_1 18 rfl
theorem dX5_traitsOfIt_115 : decode cX5_traitsOfIt 115 = .ok (.ior, 1) := xdc ddX5_traitsOfIt_1 19 rfl
theorem dX5_traitsOfIt_116 : decode cX5_traitsOfIt 116 = .ok (.istore_n 1, 1) := xdc ddX5_traitsOfIt_1 20 rfl
theorem dX5_traitsOfIt_117 : decode cX5_traitsOfIt 117 = .ok (.iload_n 1, 1) := xdc ddX5_traitsOfIt_1 21 rfl
theorem dX5_traitsOfIt_118 : decode cX5_traitsOfIt 118 = .ok (.aload_n 0, 1) := xdc ddX5_traitsOfIt_1 22 rfl
theorem dX5_traitsOfIt_119 : decode cX5_traitsOfIt 119 = .ok (.getfield 41, 3) := xdc ddX5_traitsOfIt_1 23 rfl
theorem dX5_traitsOfIt_122 : decode cX5_traitsOfIt 122 = .ok (.getstatic 105, 3) := xdc ddX5_traitsOfIt_1 24 rfl
theorem dX5_traitsOfIt_125 : decode cX5_traitsOfIt 125 = .ok (.sipush 129, 3) := xdc ddX5_traitsOfIt_1 25 rfl
theorem dX5_traitsOfIt_128 : decode cX5_traitsOfIt 128 = .ok (.ldc 118, 2) := xdc ddX5_traitsOfIt_1 26 rfl
theorem dX5_traitsOfIt_130 : decode cX5_traitsOfIt 130 = .ok (.invokevirtual 111, 3) := xdc ddX5_traitsOfIt_1 27 rfl
theorem dX5_traitsOfIt_133 : decode cX5_traitsOfIt 133 = .ok (.ifCond .eq 8, 3) := xdc ddX5_traitsOfIt_1 28 rfl
theorem dX5_traitsOfIt_136 : decode cX5_traitsOfIt 136 = .ok (.bipush 64, 2) := xdc ddX5_traitsOfIt_1 29 rfl
theorem dX5_traitsOfIt_138 : decode cX5_traitsOfIt 138 = .ok (.goto 4, 3) := xdc ddX5_traitsOfIt_1 30 rfl
theorem dX5_traitsOfIt_141 : decode cX5_traitsOfIt 141 = .ok (.iconst 0, 1) := xdc ddX5_traitsOfIt_1 31 rfl
theorem dX5_traitsOfIt_142 : decode cX5_traitsOfIt 142 = .ok (.ior, 1) := xdc ddX5_traitsOfIt_1 32 rfl
theorem dX5_traitsOfIt_143 : decode cX5_traitsOfIt 143 = .ok (.istore_n 1, 1) := xdc ddX5_traitsOfIt_1 33 rfl
theorem dX5_traitsOfIt_144 : decode cX5_traitsOfIt 144 = .ok (.iload_n 1, 1) := xdc ddX5_traitsOfIt_1 34 rfl
theorem dX5_traitsOfIt_145 : decode cX5_traitsOfIt 145 = .ok (.aload_n 0, 1) := xdc ddX5_traitsOfIt_1 35 rfl
theorem dX5_traitsOfIt_146 : decode cX5_traitsOfIt 146 = .ok (.getfield 41, 3) := xdc ddX5_traitsOfIt_1 36 rfl
theorem dX5_traitsOfIt_149 : decode cX5_traitsOfIt 149 = .ok (.getstatic 119, 3) := xdc ddX5_traitsOfIt_1 37 rfl
theorem dX5_traitsOfIt_152 : decode cX5_traitsOfIt 152 = .ok (.sipush 129, 3) := xdc ddX5_traitsOfIt_1 38 rfl
theorem dX5_traitsOfIt_155 : decode cX5_traitsOfIt 155 = .ok (.ldc 122, 2) := xdc ddX5_traitsOfIt_1 39 rfl
theorem ddX5_traitsOfIt_2 : xdec cX5_traitsOfIt [(157, (.invokevirtual 111, 3)), (160, (.ifCond .eq 9, 3)), (163, (.sipush 128, 3)), (166, (.goto 4, 3)), (169, (.iconst 0, 1)), (170, (.ior, 1)), (171, (.istore_n 1, 1)), (172, (.iload_n 1, 1)), (173, (.aload_n 0, 1)), (174, (.getfield 41, 3)), (177, (.getfield 123, 3)), (180, (.bipush 9, 2)), (182, (.if_icmp .ne 9, 3)), (185, (.sipush 256, 3)), (188, (.goto 4, 3)), (191, (.iconst 0, 1)), (192, (.ior, 1)), (193, (.istore_n 1, 1)), (194, (.iload_n 1, 1)), (195, (.aload_n 0, 1)), (196, (.getfield 41, 3)), (199, (.getfield 126, 3)), (202, (.getstatic 129, 3)), (205, (.if_acmp .eq 16, 3)), (208, (.aload_n 0, 1)), (209, (.getfield 41, 3)), (212, (.getfield 126, 3)), (215, (.getstatic 132, 3)), (218, (.if_acmp .ne 9, 3)), (221, (.sipush 512, 3)), (224, (.goto 4, 3)), (227, (.iconst 0, 1)), (228, (.ior, 1)), (229, (.istore_n 1, 1)), (230, (.iload_n 1, 1)), (231, (.ireturn, 1))] = true := by decide +kernel
theorem dX5_traitsOfIt_157 : decode cX5_traitsOfIt 157 = .ok (.invokevirtual 111, 3) := xdc ddX5_traitsOfIt_2 0 rfl
theorem dX5_traitsOfIt_160 : decode cX5_traitsOfIt 160 = .ok (.ifCond .eq 9, 3) := xdc ddX5_traitsOfIt_2 1 rfl
theorem dX5_traitsOfIt_163 : decode cX5_traitsOfIt 163 = .ok (.sipush 128, 3) := xdc ddX5_traitsOfIt_2 2 rfl
theorem dX5_traitsOfIt_166 : decode cX5_traitsOfIt 166 = .ok (.goto 4, 3) := xdc ddX5_traitsOfIt_2 3 rfl
theorem dX5_traitsOfIt_169 : decode cX5_traitsOfIt 169 = .ok (.iconst 0, 1) := xdc ddX5_traitsOfIt_2 4 rfl
theorem dX5_traitsOfIt_170 : decode cX5_traitsOfIt 170 = .ok (.ior, 1) := xdc ddX5_traitsOfIt_2 5 rfl
theorem dX5_traitsOfIt_171 : decode cX5_traitsOfIt 171 = .ok (.istore_n 1, 1) := xdc ddX5_traitsOfIt_2 6 rfl
theorem dX5_traitsOfIt_172 : decode cX5_traitsOfIt 172 = .ok (.iload_n 1, 1) := xdc ddX5_traitsOfIt_2 7 rfl
theorem dX5_traitsOfIt_173 : decode cX5_traitsOfIt 173 = .ok (.aload_n 0, 1) := xdc ddX5_traitsOfIt_2 8 rfl
theorem dX5_traitsOfIt_174 : decode cX5_traitsOfIt 174 = .ok (.getfield 41, 3) := xdc ddX5_traitsOfIt_2 9 rfl
theorem dX5_traitsOfIt_177 : decode cX5_traitsOfIt 177 = .ok (.getfield 123, 3) := xdc ddX5_traitsOfIt_2 10 rfl
theorem dX5_traitsOfIt_180 : decode cX5_traitsOfIt 180 = .ok (.bipush 9, 2) := xdc ddX5_traitsOfIt_2 11 rfl
theorem dX5_traitsOfIt_182 : decode cX5_traitsOfIt 182 = .ok (.if_icmp .ne 9, 3) := xdc ddX5_traitsOfIt_2 12 rfl
theorem dX5_traitsOfIt_185 : decode cX5_traitsOfIt 185 = .ok (.sipush 256, 3) := xdc ddX5_traitsOfIt_2 13 rfl
theorem dX5_traitsOfIt_188 : decode cX5_traitsOfIt 188 = .ok (.goto 4, 3) := xdc ddX5_traitsOfIt_2 14 rfl
theorem dX5_traitsOfIt_191 : decode cX5_traitsOfIt 191 = .ok (.iconst 0, 1) := xdc ddX5_traitsOfIt_2 15 rfl
theorem dX5_traitsOfIt_192 : decode cX5_traitsOfIt 192 = .ok (.ior, 1) := xdc ddX5_traitsOfIt_2 16 rfl
theorem dX5_traitsOfIt_193 : decode cX5_traitsOfIt 193 = .ok (.istore_n 1, 1) := xdc ddX5_traitsOfIt_2 17 rfl
theorem dX5_traitsOfIt_194 : decode cX5_traitsOfIt 194 = .ok (.iload_n 1, 1) := xdc ddX5_traitsOfIt_2 18 rfl
theorem dX5_traitsOfIt_195 : decode cX5_traitsOfIt 195 = .ok (.aload_n 0, 1) := xdc ddX5_traitsOfIt_2 19 rfl
theorem dX5_traitsOfIt_196 : decode cX5_traitsOfIt 196 = .ok (.getfield 41, 3) := xdc ddX5_traitsOfIt_2 20 rfl
theorem dX5_traitsOfIt_199 : decode cX5_traitsOfIt 199 = .ok (.getfield 126, 3) := xdc ddX5_traitsOfIt_2 21 rfl
theorem dX5_traitsOfIt_202 : decode cX5_traitsOfIt 202 = .ok (.getstatic 129, 3) := xdc ddX5_traitsOfIt_2 22 rfl
theorem dX5_traitsOfIt_205 : decode cX5_traitsOfIt 205 = .ok (.if_acmp .eq 16, 3) := xdc ddX5_traitsOfIt_2 23 rfl
theorem dX5_traitsOfIt_208 : decode cX5_traitsOfIt 208 = .ok (.aload_n 0, 1) := xdc ddX5_traitsOfIt_2 24 rfl
theorem dX5_traitsOfIt_209 : decode cX5_traitsOfIt 209 = .ok (.getfield 41, 3) := xdc ddX5_traitsOfIt_2 25 rfl
theorem dX5_traitsOfIt_212 : decode cX5_traitsOfIt 212 = .ok (.getfield 126, 3) := xdc ddX5_traitsOfIt_2 26 rfl
theorem dX5_traitsOfIt_215 : decode cX5_traitsOfIt 215 = .ok (.getstatic 132, 3) := xdc ddX5_traitsOfIt_2 27 rfl
theorem dX5_traitsOfIt_218 : decode cX5_traitsOfIt 218 = .ok (.if_acmp .ne 9, 3) := xdc ddX5_traitsOfIt_2 28 rfl
theorem dX5_traitsOfIt_221 : decode cX5_traitsOfIt 221 = .ok (.sipush 512, 3) := xdc ddX5_traitsOfIt_2 29 rfl
theorem dX5_traitsOfIt_224 : decode cX5_traitsOfIt 224 = .ok (.goto 4, 3) := xdc ddX5_traitsOfIt_2 30 rfl
theorem dX5_traitsOfIt_227 : decode cX5_traitsOfIt 227 = .ok (.iconst 0, 1) := xdc ddX5_traitsOfIt_2 31 rfl
theorem dX5_traitsOfIt_228 : decode cX5_traitsOfIt 228 = .ok (.ior, 1) := xdc ddX5_traitsOfIt_2 32 rfl
theorem dX5_traitsOfIt_229 : decode cX5_traitsOfIt 229 = .ok (.istore_n 1, 1) := xdc ddX5_traitsOfIt_2 33 rfl
theorem dX5_traitsOfIt_230 : decode cX5_traitsOfIt 230 = .ok (.iload_n 1, 1) := xdc ddX5_traitsOfIt_2 34 rfl
theorem dX5_traitsOfIt_231 : decode cX5_traitsOfIt 231 = .ok (.ireturn, 1) := xdc ddX5_traitsOfIt_2 35 rfl
abbrev cX5_refuse : ByteArray := prog_7_method_11_code
theorem ddX5_refuse_0 : xdec cX5_refuse [(0, (.aload_n 0, 1)), (1, (.iload_n 1, 1)), (2, (.putfield 49, 3)), (5, (.aload_n 0, 1)), (6, (.iload_n 2, 1)), (7, (.putfield 29, 3)), (10, (.iconst 0, 1)), (11, (.ireturn, 1))] = true := by decide +kernel
theorem dX5_refuse_0 : decode cX5_refuse 0 = .ok (.aload_n 0, 1) := xdc ddX5_refuse_0 0 rfl
theorem dX5_refuse_1 : decode cX5_refuse 1 = .ok (.iload_n 1, 1) := xdc ddX5_refuse_0 1 rfl
theorem dX5_refuse_2 : decode cX5_refuse 2 = .ok (.putfield 49, 3) := xdc ddX5_refuse_0 2 rfl
theorem dX5_refuse_5 : decode cX5_refuse 5 = .ok (.aload_n 0, 1) := xdc ddX5_refuse_0 3 rfl
theorem dX5_refuse_6 : decode cX5_refuse 6 = .ok (.iload_n 2, 1) := xdc ddX5_refuse_0 4 rfl
theorem dX5_refuse_7 : decode cX5_refuse 7 = .ok (.putfield 29, 3) := xdc ddX5_refuse_0 5 rfl
theorem dX5_refuse_10 : decode cX5_refuse 10 = .ok (.iconst 0, 1) := xdc ddX5_refuse_0 6 rfl
theorem dX5_refuse_11 : decode cX5_refuse 11 = .ok (.ireturn, 1) := xdc ddX5_refuse_0 7 rfl
abbrev cX5_lengthAt : ByteArray := prog_7_method_8_code
theorem ddX5_lengthAt_0 : xdec cX5_lengthAt [(0, (.iload_n 1, 1)), (1, (.ifCond .lt 19, 3)), (4, (.iload_n 1, 1)), (5, (.sipush 2048, 3)), (8, (.if_icmp .ge 12, 3)), (11, (.aload_n 0, 1)), (12, (.getfield 13, 3)), (15, (.iload_n 1, 1)), (16, (.iaload, 1)), (17, (.goto 4, 3)), (20, (.iconst 0, 1)), (21, (.ireturn, 1))] = true := by decide +kernel
theorem dX5_lengthAt_0 : decode cX5_lengthAt 0 = .ok (.iload_n 1, 1) := xdc ddX5_lengthAt_0 0 rfl
theorem dX5_lengthAt_1 : decode cX5_lengthAt 1 = .ok (.ifCond .lt 19, 3) := xdc ddX5_lengthAt_0 1 rfl
theorem dX5_lengthAt_4 : decode cX5_lengthAt 4 = .ok (.iload_n 1, 1) := xdc ddX5_lengthAt_0 2 rfl
theorem dX5_lengthAt_5 : decode cX5_lengthAt 5 = .ok (.sipush 2048, 3) := xdc ddX5_lengthAt_0 3 rfl
theorem dX5_lengthAt_8 : decode cX5_lengthAt 8 = .ok (.if_icmp .ge 12, 3) := xdc ddX5_lengthAt_0 4 rfl
theorem dX5_lengthAt_11 : decode cX5_lengthAt 11 = .ok (.aload_n 0, 1) := xdc ddX5_lengthAt_0 5 rfl
theorem dX5_lengthAt_12 : decode cX5_lengthAt 12 = .ok (.getfield 13, 3) := xdc ddX5_lengthAt_0 6 rfl
theorem dX5_lengthAt_15 : decode cX5_lengthAt 15 = .ok (.iload_n 1, 1) := xdc ddX5_lengthAt_0 7 rfl
theorem dX5_lengthAt_16 : decode cX5_lengthAt 16 = .ok (.iaload, 1) := xdc ddX5_lengthAt_0 8 rfl
theorem dX5_lengthAt_17 : decode cX5_lengthAt 17 = .ok (.goto 4, 3) := xdc ddX5_lengthAt_0 9 rfl
theorem dX5_lengthAt_20 : decode cX5_lengthAt 20 = .ok (.iconst 0, 1) := xdc ddX5_lengthAt_0 10 rfl
theorem dX5_lengthAt_21 : decode cX5_lengthAt 21 = .ok (.ireturn, 1) := xdc ddX5_lengthAt_0 11 rfl
abbrev cX5_leavesBundle : ByteArray := prog_7_method_12_code
theorem ddX5_leavesBundle_0 : xdec cX5_leavesBundle [(0, (.iload_n 0, 1)), (1, (.bipush 31, 2)), (3, (.iand, 1)), (4, (.iload_n 1, 1)), (5, (.iadd, 1)), (6, (.bipush 32, 2)), (8, (.if_icmp .le 7, 3)), (11, (.iconst 1, 1)), (12, (.goto 4, 3)), (15, (.iconst 0, 1)), (16, (.ireturn, 1))] = true := by decide +kernel
theorem dX5_leavesBundle_0 : decode cX5_leavesBundle 0 = .ok (.iload_n 0, 1) := xdc ddX5_leavesBundle_0 0 rfl
theorem dX5_leavesBundle_1 : decode cX5_leavesBundle 1 = .ok (.bipush 31, 2) := xdc ddX5_leavesBundle_0 1 rfl
theorem dX5_leavesBundle_3 : decode cX5_leavesBundle 3 = .ok (.iand, 1) := xdc ddX5_leavesBundle_0 2 rfl
theorem dX5_leavesBundle_4 : decode cX5_leavesBundle 4 = .ok (.iload_n 1, 1) := xdc ddX5_leavesBundle_0 3 rfl
theorem dX5_leavesBundle_5 : decode cX5_leavesBundle 5 = .ok (.iadd, 1) := xdc ddX5_leavesBundle_0 4 rfl
theorem dX5_leavesBundle_6 : decode cX5_leavesBundle 6 = .ok (.bipush 32, 2) := xdc ddX5_leavesBundle_0 5 rfl
theorem dX5_leavesBundle_8 : decode cX5_leavesBundle 8 = .ok (.if_icmp .le 7, 3) := xdc ddX5_leavesBundle_0 6 rfl
theorem dX5_leavesBundle_11 : decode cX5_leavesBundle 11 = .ok (.iconst 1, 1) := xdc ddX5_leavesBundle_0 7 rfl
theorem dX5_leavesBundle_12 : decode cX5_leavesBundle 12 = .ok (.goto 4, 3) := xdc ddX5_leavesBundle_0 8 rfl
theorem dX5_leavesBundle_15 : decode cX5_leavesBundle 15 = .ok (.iconst 0, 1) := xdc ddX5_leavesBundle_0 9 rfl
theorem dX5_leavesBundle_16 : decode cX5_leavesBundle 16 = .ok (.ireturn, 1) := xdc ddX5_leavesBundle_0 10 rfl
abbrev cX5_mark : ByteArray := prog_7_method_10_code
theorem ddX5_mark_0 : xdec cX5_mark [(0, (.iload_n 1, 1)), (1, (.ifCond .lt 27, 3)), (4, (.iload_n 1, 1)), (5, (.sipush 2048, 3)), (8, (.if_icmp .ge 20, 3)), (11, (.aload_n 0, 1)), (12, (.getfield 26, 3)), (15, (.iload_n 1, 1)), (16, (.iload_n 2, 1)), (17, (.iastore, 1)), (18, (.aload_n 0, 1)), (19, (.dup, 1)), (20, (.getfield 55, 3)), (23, (.iconst 1, 1)), (24, (.iadd, 1)), (25, (.putfield 55, 3)), (28, (.return_, 1))] = true := by decide +kernel
theorem dX5_mark_0 : decode cX5_mark 0 = .ok (.iload_n 1, 1) := xdc ddX5_mark_0 0 rfl
theorem dX5_mark_1 : decode cX5_mark 1 = .ok (.ifCond .lt 27, 3) := xdc ddX5_mark_0 1 rfl
theorem dX5_mark_4 : decode cX5_mark 4 = .ok (.iload_n 1, 1) := xdc ddX5_mark_0 2 rfl
theorem dX5_mark_5 : decode cX5_mark 5 = .ok (.sipush 2048, 3) := xdc ddX5_mark_0 3 rfl
theorem dX5_mark_8 : decode cX5_mark 8 = .ok (.if_icmp .ge 20, 3) := xdc ddX5_mark_0 4 rfl
theorem dX5_mark_11 : decode cX5_mark 11 = .ok (.aload_n 0, 1) := xdc ddX5_mark_0 5 rfl
theorem dX5_mark_12 : decode cX5_mark 12 = .ok (.getfield 26, 3) := xdc ddX5_mark_0 6 rfl
theorem dX5_mark_15 : decode cX5_mark 15 = .ok (.iload_n 1, 1) := xdc ddX5_mark_0 7 rfl
theorem dX5_mark_16 : decode cX5_mark 16 = .ok (.iload_n 2, 1) := xdc ddX5_mark_0 8 rfl
theorem dX5_mark_17 : decode cX5_mark 17 = .ok (.iastore, 1) := xdc ddX5_mark_0 9 rfl
theorem dX5_mark_18 : decode cX5_mark 18 = .ok (.aload_n 0, 1) := xdc ddX5_mark_0 10 rfl
theorem dX5_mark_19 : decode cX5_mark 19 = .ok (.dup, 1) := xdc ddX5_mark_0 11 rfl
theorem dX5_mark_20 : decode cX5_mark 20 = .ok (.getfield 55, 3) := xdc ddX5_mark_0 12 rfl
theorem dX5_mark_23 : decode cX5_mark 23 = .ok (.iconst 1, 1) := xdc ddX5_mark_0 13 rfl
theorem dX5_mark_24 : decode cX5_mark 24 = .ok (.iadd, 1) := xdc ddX5_mark_0 14 rfl
theorem dX5_mark_25 : decode cX5_mark 25 = .ok (.putfield 55, 3) := xdc ddX5_mark_0 15 rfl
theorem dX5_mark_28 : decode cX5_mark 28 = .ok (.return_, 1) := xdc ddX5_mark_0 16 rfl
abbrev cX5_is : ByteArray := prog_7_method_6_code
theorem ddX5_is_0 : xdec cX5_is [(0, (.iload_n 1, 1)), (1, (.ifCond .lt 25, 3)), (4, (.iload_n 1, 1)), (5, (.sipush 2048, 3)), (8, (.if_icmp .ge 18, 3)), (11, (.aload_n 0, 1)), (12, (.getfield 17, 3)), (15, (.iload_n 1, 1)), (16, (.iaload, 1)), (17, (.iload_n 2, 1)), (18, (.iand, 1)), (19, (.ifCond .eq 7, 3)), (22, (.iconst 1, 1)), (23, (.goto 4, 3)), (26, (.iconst 0, 1)), (27, (.ireturn, 1))] = true := by decide +kernel
theorem dX5_is_0 : decode cX5_is 0 = .ok (.iload_n 1, 1) := xdc ddX5_is_0 0 rfl
theorem dX5_is_1 : decode cX5_is 1 = .ok (.ifCond .lt 25, 3) := xdc ddX5_is_0 1 rfl
theorem dX5_is_4 : decode cX5_is 4 = .ok (.iload_n 1, 1) := xdc ddX5_is_0 2 rfl
theorem dX5_is_5 : decode cX5_is 5 = .ok (.sipush 2048, 3) := xdc ddX5_is_0 3 rfl
theorem dX5_is_8 : decode cX5_is 8 = .ok (.if_icmp .ge 18, 3) := xdc ddX5_is_0 4 rfl
theorem dX5_is_11 : decode cX5_is 11 = .ok (.aload_n 0, 1) := xdc ddX5_is_0 5 rfl
theorem dX5_is_12 : decode cX5_is 12 = .ok (.getfield 17, 3) := xdc ddX5_is_0 6 rfl
theorem dX5_is_15 : decode cX5_is 15 = .ok (.iload_n 1, 1) := xdc ddX5_is_0 7 rfl
theorem dX5_is_16 : decode cX5_is 16 = .ok (.iaload, 1) := xdc ddX5_is_0 8 rfl
theorem dX5_is_17 : decode cX5_is 17 = .ok (.iload_n 2, 1) := xdc ddX5_is_0 9 rfl
theorem dX5_is_18 : decode cX5_is 18 = .ok (.iand, 1) := xdc ddX5_is_0 10 rfl
theorem dX5_is_19 : decode cX5_is 19 = .ok (.ifCond .eq 7, 3) := xdc ddX5_is_0 11 rfl
theorem dX5_is_22 : decode cX5_is 22 = .ok (.iconst 1, 1) := xdc ddX5_is_0 12 rfl
theorem dX5_is_23 : decode cX5_is 23 = .ok (.goto 4, 3) := xdc ddX5_is_0 13 rfl
theorem dX5_is_26 : decode cX5_is 26 = .ok (.iconst 0, 1) := xdc ddX5_is_0 14 rfl
theorem dX5_is_27 : decode cX5_is 27 = .ok (.ireturn, 1) := xdc ddX5_is_0 15 rfl
abbrev cX5_isOf : ByteArray := prog_7_method_7_code
theorem ddX5_isOf_0 : xdec cX5_isOf [(0, (.iload_n 1, 1)), (1, (.ifCond .lt 35, 3)), (4, (.iload_n 1, 1)), (5, (.sipush 2048, 3)), (8, (.if_icmp .ge 28, 3)), (11, (.aload_n 0, 1)), (12, (.getfield 17, 3)), (15, (.iload_n 1, 1)), (16, (.iaload, 1)), (17, (.iload_n 2, 1)), (18, (.iand, 1)), (19, (.ifCond .eq 17, 3)), (22, (.aload_n 0, 1)), (23, (.getfield 20, 3)), (26, (.iload_n 1, 1)), (27, (.iaload, 1)), (28, (.iload_n 3, 1)), (29, (.if_icmp .ne 7, 3)), (32, (.iconst 1, 1)), (33, (.goto 4, 3)), (36, (.iconst 0, 1)), (37, (.ireturn, 1))] = true := by decide +kernel
theorem dX5_isOf_0 : decode cX5_isOf 0 = .ok (.iload_n 1, 1) := xdc ddX5_isOf_0 0 rfl
theorem dX5_isOf_1 : decode cX5_isOf 1 = .ok (.ifCond .lt 35, 3) := xdc ddX5_isOf_0 1 rfl
theorem dX5_isOf_4 : decode cX5_isOf 4 = .ok (.iload_n 1, 1) := xdc ddX5_isOf_0 2 rfl
theorem dX5_isOf_5 : decode cX5_isOf 5 = .ok (.sipush 2048, 3) := xdc ddX5_isOf_0 3 rfl
theorem dX5_isOf_8 : decode cX5_isOf 8 = .ok (.if_icmp .ge 28, 3) := xdc ddX5_isOf_0 4 rfl
theorem dX5_isOf_11 : decode cX5_isOf 11 = .ok (.aload_n 0, 1) := xdc ddX5_isOf_0 5 rfl
theorem dX5_isOf_12 : decode cX5_isOf 12 = .ok (.getfield 17, 3) := xdc ddX5_isOf_0 6 rfl
theorem dX5_isOf_15 : decode cX5_isOf 15 = .ok (.iload_n 1, 1) := xdc ddX5_isOf_0 7 rfl
theorem dX5_isOf_16 : decode cX5_isOf 16 = .ok (.iaload, 1) := xdc ddX5_isOf_0 8 rfl
theorem dX5_isOf_17 : decode cX5_isOf 17 = .ok (.iload_n 2, 1) := xdc ddX5_isOf_0 9 rfl
theorem dX5_isOf_18 : decode cX5_isOf 18 = .ok (.iand, 1) := xdc ddX5_isOf_0 10 rfl
theorem dX5_isOf_19 : decode cX5_isOf 19 = .ok (.ifCond .eq 17, 3) := xdc ddX5_isOf_0 11 rfl
theorem dX5_isOf_22 : decode cX5_isOf 22 = .ok (.aload_n 0, 1) := xdc ddX5_isOf_0 12 rfl
theorem dX5_isOf_23 : decode cX5_isOf 23 = .ok (.getfield 20, 3) := xdc ddX5_isOf_0 13 rfl
theorem dX5_isOf_26 : decode cX5_isOf 26 = .ok (.iload_n 1, 1) := xdc ddX5_isOf_0 14 rfl
theorem dX5_isOf_27 : decode cX5_isOf 27 = .ok (.iaload, 1) := xdc ddX5_isOf_0 15 rfl
theorem dX5_isOf_28 : decode cX5_isOf 28 = .ok (.iload_n 3, 1) := xdc ddX5_isOf_0 16 rfl
theorem dX5_isOf_29 : decode cX5_isOf 29 = .ok (.if_icmp .ne 7, 3) := xdc ddX5_isOf_0 17 rfl
theorem dX5_isOf_32 : decode cX5_isOf 32 = .ok (.iconst 1, 1) := xdc ddX5_isOf_0 18 rfl
theorem dX5_isOf_33 : decode cX5_isOf 33 = .ok (.goto 4, 3) := xdc ddX5_isOf_0 19 rfl
theorem dX5_isOf_36 : decode cX5_isOf 36 = .ok (.iconst 0, 1) := xdc ddX5_isOf_0 20 rfl
theorem dX5_isOf_37 : decode cX5_isOf 37 = .ok (.ireturn, 1) := xdc ddX5_isOf_0 21 rfl
abbrev cX5_hasFences : ByteArray := prog_7_method_16_code
theorem ddX5_hasFences_0 : xdec cX5_hasFences [(0, (.aload_n 0, 1)), (1, (.iload_n 1, 1)), (2, (.bipush 64, 2)), (4, (.iload_n 2, 1)), (5, (.invokevirtual 179, 3)), (8, (.ifCond .eq 22, 3)), (11, (.aload_n 0, 1)), (12, (.iload_n 1, 1)), (13, (.bipush 6, 2)), (15, (.iadd, 1)), (16, (.sipush 128, 3)), (19, (.iload_n 2, 1)), (20, (.invokevirtual 179, 3)), (23, (.ifCond .eq 7, 3)), (26, (.iconst 1, 1)), (27, (.goto 4, 3)), (30, (.iconst 0, 1)), (31, (.ireturn, 1))] = true := by decide +kernel
theorem dX5_hasFences_0 : decode cX5_hasFences 0 = .ok (.aload_n 0, 1) := xdc ddX5_hasFences_0 0 rfl
theorem dX5_hasFences_1 : decode cX5_hasFences 1 = .ok (.iload_n 1, 1) := xdc ddX5_hasFences_0 1 rfl
theorem dX5_hasFences_2 : decode cX5_hasFences 2 = .ok (.bipush 64, 2) := xdc ddX5_hasFences_0 2 rfl
theorem dX5_hasFences_4 : decode cX5_hasFences 4 = .ok (.iload_n 2, 1) := xdc ddX5_hasFences_0 3 rfl
theorem dX5_hasFences_5 : decode cX5_hasFences 5 = .ok (.invokevirtual 179, 3) := xdc ddX5_hasFences_0 4 rfl
theorem dX5_hasFences_8 : decode cX5_hasFences 8 = .ok (.ifCond .eq 22, 3) := xdc ddX5_hasFences_0 5 rfl
theorem dX5_hasFences_11 : decode cX5_hasFences 11 = .ok (.aload_n 0, 1) := xdc ddX5_hasFences_0 6 rfl
theorem dX5_hasFences_12 : decode cX5_hasFences 12 = .ok (.iload_n 1, 1) := xdc ddX5_hasFences_0 7 rfl
theorem dX5_hasFences_13 : decode cX5_hasFences 13 = .ok (.bipush 6, 2) := xdc ddX5_hasFences_0 8 rfl
theorem dX5_hasFences_15 : decode cX5_hasFences 15 = .ok (.iadd, 1) := xdc ddX5_hasFences_0 9 rfl
theorem dX5_hasFences_16 : decode cX5_hasFences 16 = .ok (.sipush 128, 3) := xdc ddX5_hasFences_0 10 rfl
theorem dX5_hasFences_19 : decode cX5_hasFences 19 = .ok (.iload_n 2, 1) := xdc ddX5_hasFences_0 11 rfl
theorem dX5_hasFences_20 : decode cX5_hasFences 20 = .ok (.invokevirtual 179, 3) := xdc ddX5_hasFences_0 12 rfl
theorem dX5_hasFences_23 : decode cX5_hasFences 23 = .ok (.ifCond .eq 7, 3) := xdc ddX5_hasFences_0 13 rfl
theorem dX5_hasFences_26 : decode cX5_hasFences 26 = .ok (.iconst 1, 1) := xdc ddX5_hasFences_0 14 rfl
theorem dX5_hasFences_27 : decode cX5_hasFences 27 = .ok (.goto 4, 3) := xdc ddX5_hasFences_0 15 rfl
theorem dX5_hasFences_30 : decode cX5_hasFences 30 = .ok (.iconst 0, 1) := xdc ddX5_hasFences_0 16 rfl
theorem dX5_hasFences_31 : decode cX5_hasFences 31 = .ok (.ireturn, 1) := xdc ddX5_hasFences_0 17 rfl
abbrev cX5_markStackUnit : ByteArray := prog_7_method_15_code
theorem ddX5_markStackUnit_0 : xdec cX5_markStackUnit [(0, (.aload_n 0, 1)), (1, (.iload_n 1, 1)), (2, (.iconst 2, 1)), (3, (.invokevirtual 161, 3)), (6, (.ifCond .ne 29, 3)), (9, (.iload_n 1, 1)), (10, (.iload_n 2, 1)), (11, (.bipush 12, 2)), (13, (.iadd, 1)), (14, (.invokestatic 153, 3)), (17, (.ifCond .ne 18, 3)), (20, (.aload_n 0, 1)), (21, (.iload_n 1, 1)), (22, (.iload_n 2, 1)), (23, (.iadd, 1)), (24, (.iconst 4, 1)), (25, (.invokevirtual 176, 3)), (28, (.ifCond .eq 7, 3)), (31, (.iconst 1, 1)), (32, (.goto 4, 3)), (35, (.iconst 0, 1)), (36, (.istore_n 3, 1)), (37, (.iload_n 3, 1)), (38, (.ifCond .ne 11, 3)), (41, (.aload_n 0, 1)), (42, (.bipush 6, 2)), (44, (.iload_n 1, 1)), (45, (.invokevirtual 138, 3)), (48, (.ireturn, 1)), (49, (.aload_n 0, 1)), (50, (.iload_n 1, 1)), (51, (.iload_n 2, 1)), (52, (.iadd, 1)), (53, (.iconst 2, 1)), (54, (.invokevirtual 157, 3)), (57, (.aload_n 0, 1)), (58, (.iload_n 1, 1)), (59, (.iload_n 2, 1)), (60, (.iadd, 1)), (61, (.bipush 6, 2))] = true := by decide +kernel
theorem dX5_markStackUnit_0 : decode cX5_markStackUnit 0 = .ok (.aload_n 0, 1) := xdc ddX5_markStackUnit_0 0 rfl
theorem dX5_markStackUnit_1 : decode cX5_markStackUnit 1 = .ok (.iload_n 1, 1) := xdc ddX5_markStackUnit_0 1 rfl
theorem dX5_markStackUnit_2 : decode cX5_markStackUnit 2 = .ok (.iconst 2, 1) := xdc ddX5_markStackUnit_0 2 rfl
theorem dX5_markStackUnit_3 : decode cX5_markStackUnit 3 = .ok (.invokevirtual 161, 3) := xdc ddX5_markStackUnit_0 3 rfl
theorem dX5_markStackUnit_6 : decode cX5_markStackUnit 6 = .ok (.ifCond .ne 29, 3) := xdc ddX5_markStackUnit_0 4 rfl
theorem dX5_markStackUnit_9 : decode cX5_markStackUnit 9 = .ok (.iload_n 1, 1) := xdc ddX5_markStackUnit_0 5 rfl
theorem dX5_markStackUnit_10 : decode cX5_markStackUnit 10 = .ok (.iload_n 2, 1) := xdc ddX5_markStackUnit_0 6 rfl
theorem dX5_markStackUnit_11 : decode cX5_markStackUnit 11 = .ok (.bipush 12, 2) := xdc ddX5_markStackUnit_0 7 rfl
theorem dX5_markStackUnit_13 : decode cX5_markStackUnit 13 = .ok (.iadd, 1) := xdc ddX5_markStackUnit_0 8 rfl
theorem dX5_markStackUnit_14 : decode cX5_markStackUnit 14 = .ok (.invokestatic 153, 3) := xdc ddX5_markStackUnit_0 9 rfl
theorem dX5_markStackUnit_17 : decode cX5_markStackUnit 17 = .ok (.ifCond .ne 18, 3) := xdc ddX5_markStackUnit_0 10 rfl
theorem dX5_markStackUnit_20 : decode cX5_markStackUnit 20 = .ok (.aload_n 0, 1) := xdc ddX5_markStackUnit_0 11 rfl
theorem dX5_markStackUnit_21 : decode cX5_markStackUnit 21 = .ok (.iload_n 1, 1) := xdc ddX5_markStackUnit_0 12 rfl
theorem dX5_markStackUnit_22 : decode cX5_markStackUnit 22 = .ok (.iload_n 2, 1) := xdc ddX5_markStackUnit_0 13 rfl
theorem dX5_markStackUnit_23 : decode cX5_markStackUnit 23 = .ok (.iadd, 1) := xdc ddX5_markStackUnit_0 14 rfl
theorem dX5_markStackUnit_24 : decode cX5_markStackUnit 24 = .ok (.iconst 4, 1) := xdc ddX5_markStackUnit_0 15 rfl
theorem dX5_markStackUnit_25 : decode cX5_markStackUnit 25 = .ok (.invokevirtual 176, 3) := xdc ddX5_markStackUnit_0 16 rfl
theorem dX5_markStackUnit_28 : decode cX5_markStackUnit 28 = .ok (.ifCond .eq 7, 3) := xdc ddX5_markStackUnit_0 17 rfl
theorem dX5_markStackUnit_31 : decode cX5_markStackUnit 31 = .ok (.iconst 1, 1) := xdc ddX5_markStackUnit_0 18 rfl
theorem dX5_markStackUnit_32 : decode cX5_markStackUnit 32 = .ok (.goto 4, 3) := xdc ddX5_markStackUnit_0 19 rfl
theorem dX5_markStackUnit_35 : decode cX5_markStackUnit 35 = .ok (.iconst 0, 1) := xdc ddX5_markStackUnit_0 20 rfl
theorem dX5_markStackUnit_36 : decode cX5_markStackUnit 36 = .ok (.istore_n 3, 1) := xdc ddX5_markStackUnit_0 21 rfl
theorem dX5_markStackUnit_37 : decode cX5_markStackUnit 37 = .ok (.iload_n 3, 1) := xdc ddX5_markStackUnit_0 22 rfl
theorem dX5_markStackUnit_38 : decode cX5_markStackUnit 38 = .ok (.ifCond .ne 11, 3) := xdc ddX5_markStackUnit_0 23 rfl
theorem dX5_markStackUnit_41 : decode cX5_markStackUnit 41 = .ok (.aload_n 0, 1) := xdc ddX5_markStackUnit_0 24 rfl
theorem dX5_markStackUnit_42 : decode cX5_markStackUnit 42 = .ok (.bipush 6, 2) := xdc ddX5_markStackUnit_0 25 rfl
theorem dX5_markStackUnit_44 : decode cX5_markStackUnit 44 = .ok (.iload_n 1, 1) := xdc ddX5_markStackUnit_0 26 rfl
theorem dX5_markStackUnit_45 : decode cX5_markStackUnit 45 = .ok (.invokevirtual 138, 3) := xdc ddX5_markStackUnit_0 27 rfl
theorem dX5_markStackUnit_48 : decode cX5_markStackUnit 48 = .ok (.ireturn, 1) := xdc ddX5_markStackUnit_0 28 rfl
theorem dX5_markStackUnit_49 : decode cX5_markStackUnit 49 = .ok (.aload_n 0, 1) := xdc ddX5_markStackUnit_0 29 rfl
theorem dX5_markStackUnit_50 : decode cX5_markStackUnit 50 = .ok (.iload_n 1, 1) := xdc ddX5_markStackUnit_0 30 rfl
theorem dX5_markStackUnit_51 : decode cX5_markStackUnit 51 = .ok (.iload_n 2, 1) := xdc ddX5_markStackUnit_0 31 rfl
theorem dX5_markStackUnit_52 : decode cX5_markStackUnit 52 = .ok (.iadd, 1) := xdc ddX5_markStackUnit_0 32 rfl
theorem dX5_markStackUnit_53 : decode cX5_markStackUnit 53 = .ok (.iconst 2, 1) := xdc ddX5_markStackUnit_0 33 rfl
theorem dX5_markStackUnit_54 : decode cX5_markStackUnit 54 = .ok (.invokevirtual 157, 3) := xdc ddX5_markStackUnit_0 34 rfl
theorem dX5_markStackUnit_57 : decode cX5_markStackUnit 57 = .ok (.aload_n 0, 1) := xdc ddX5_markStackUnit_0 35 rfl
theorem dX5_markStackUnit_58 : decode cX5_markStackUnit 58 = .ok (.iload_n 1, 1) := xdc ddX5_markStackUnit_0 36 rfl
theorem dX5_markStackUnit_59 : decode cX5_markStackUnit 59 = .ok (.iload_n 2, 1) := xdc ddX5_markStackUnit_0 37 rfl
theorem dX5_markStackUnit_60 : decode cX5_markStackUnit 60 = .ok (.iadd, 1) := xdc ddX5_markStackUnit_0 38 rfl
theorem dX5_markStackUnit_61 : decode cX5_markStackUnit 61 = .ok (.bipush 6, 2) := xdc ddX5_markStackUnit_0 39 rfl
theorem ddX5_markStackUnit_1 : xdec cX5_markStackUnit [(63, (.iadd, 1)), (64, (.iconst 2, 1)), (65, (.invokevirtual 157, 3)), (68, (.iload_n 2, 1)), (69, (.bipush 12, 2)), (71, (.iadd, 1)), (72, (.ireturn, 1))] = true := by decide +kernel
theorem dX5_markStackUnit_63 : decode cX5_markStackUnit 63 = .ok (.iadd, 1) := xdc ddX5_markStackUnit_1 0 rfl
theorem dX5_markStackUnit_64 : decode cX5_markStackUnit 64 = .ok (.iconst 2, 1) := xdc ddX5_markStackUnit_1 1 rfl
theorem dX5_markStackUnit_65 : decode cX5_markStackUnit 65 = .ok (.invokevirtual 157, 3) := xdc ddX5_markStackUnit_1 2 rfl
theorem dX5_markStackUnit_68 : decode cX5_markStackUnit 68 = .ok (.iload_n 2, 1) := xdc ddX5_markStackUnit_1 3 rfl
theorem dX5_markStackUnit_69 : decode cX5_markStackUnit 69 = .ok (.bipush 12, 2) := xdc ddX5_markStackUnit_1 4 rfl
theorem dX5_markStackUnit_71 : decode cX5_markStackUnit 71 = .ok (.iadd, 1) := xdc ddX5_markStackUnit_1 5 rfl
theorem dX5_markStackUnit_72 : decode cX5_markStackUnit 72 = .ok (.ireturn, 1) := xdc ddX5_markStackUnit_1 6 rfl
abbrev cX5_registerAt : ByteArray := prog_7_method_9_code
theorem ddX5_registerAt_0 : xdec cX5_registerAt [(0, (.iload_n 1, 1)), (1, (.ifCond .lt 19, 3)), (4, (.iload_n 1, 1)), (5, (.sipush 2048, 3)), (8, (.if_icmp .ge 12, 3)), (11, (.aload_n 0, 1)), (12, (.getfield 20, 3)), (15, (.iload_n 1, 1)), (16, (.iaload, 1)), (17, (.goto 4, 3)), (20, (.iconst (-1), 1)), (21, (.ireturn, 1))] = true := by decide +kernel
theorem dX5_registerAt_0 : decode cX5_registerAt 0 = .ok (.iload_n 1, 1) := xdc ddX5_registerAt_0 0 rfl
theorem dX5_registerAt_1 : decode cX5_registerAt 1 = .ok (.ifCond .lt 19, 3) := xdc ddX5_registerAt_0 1 rfl
theorem dX5_registerAt_4 : decode cX5_registerAt 4 = .ok (.iload_n 1, 1) := xdc ddX5_registerAt_0 2 rfl
theorem dX5_registerAt_5 : decode cX5_registerAt 5 = .ok (.sipush 2048, 3) := xdc ddX5_registerAt_0 3 rfl
theorem dX5_registerAt_8 : decode cX5_registerAt 8 = .ok (.if_icmp .ge 12, 3) := xdc ddX5_registerAt_0 4 rfl
theorem dX5_registerAt_11 : decode cX5_registerAt 11 = .ok (.aload_n 0, 1) := xdc ddX5_registerAt_0 5 rfl
theorem dX5_registerAt_12 : decode cX5_registerAt 12 = .ok (.getfield 20, 3) := xdc ddX5_registerAt_0 6 rfl
theorem dX5_registerAt_15 : decode cX5_registerAt 15 = .ok (.iload_n 1, 1) := xdc ddX5_registerAt_0 7 rfl
theorem dX5_registerAt_16 : decode cX5_registerAt 16 = .ok (.iaload, 1) := xdc ddX5_registerAt_0 8 rfl
theorem dX5_registerAt_17 : decode cX5_registerAt 17 = .ok (.goto 4, 3) := xdc ddX5_registerAt_0 9 rfl
theorem dX5_registerAt_20 : decode cX5_registerAt 20 = .ok (.iconst (-1), 1) := xdc ddX5_registerAt_0 10 rfl
theorem dX5_registerAt_21 : decode cX5_registerAt 21 = .ok (.ireturn, 1) := xdc ddX5_registerAt_0 11 rfl
abbrev cX5_markJumpUnit : ByteArray := prog_7_method_17_code
theorem ddX5_markJumpUnit_0 : xdec cX5_markJumpUnit [(0, (.iload_n 1, 1)), (1, (.iload_n 2, 1)), (2, (.iadd, 1)), (3, (.istore_n 3, 1)), (4, (.aload_n 0, 1)), (5, (.iload_n 3, 1)), (6, (.invokevirtual 150, 3)), (9, (.istore 4, 2)), (11, (.aload_n 0, 1)), (12, (.iload_n 3, 1)), (13, (.bipush 32, 2)), (15, (.aload_n 0, 1)), (16, (.iload_n 1, 1)), (17, (.invokevirtual 183, 3)), (20, (.invokevirtual 179, 3)), (23, (.ifCond .eq 14, 3)), (26, (.iload_n 1, 1)), (27, (.iload_n 2, 1)), (28, (.iload 4, 2)), (30, (.iadd, 1)), (31, (.invokestatic 153, 3)), (34, (.ifCond .eq 5, 3)), (37, (.iload_n 2, 1)), (38, (.ireturn, 1)), (39, (.aload_n 0, 1)), (40, (.iload_n 3, 1)), (41, (.iconst 2, 1)), (42, (.invokevirtual 157, 3)), (45, (.iload_n 2, 1)), (46, (.iload 4, 2)), (48, (.iadd, 1)), (49, (.ireturn, 1))] = true := by decide +kernel
theorem dX5_markJumpUnit_0 : decode cX5_markJumpUnit 0 = .ok (.iload_n 1, 1) := xdc ddX5_markJumpUnit_0 0 rfl
theorem dX5_markJumpUnit_1 : decode cX5_markJumpUnit 1 = .ok (.iload_n 2, 1) := xdc ddX5_markJumpUnit_0 1 rfl
theorem dX5_markJumpUnit_2 : decode cX5_markJumpUnit 2 = .ok (.iadd, 1) := xdc ddX5_markJumpUnit_0 2 rfl
theorem dX5_markJumpUnit_3 : decode cX5_markJumpUnit 3 = .ok (.istore_n 3, 1) := xdc ddX5_markJumpUnit_0 3 rfl
theorem dX5_markJumpUnit_4 : decode cX5_markJumpUnit 4 = .ok (.aload_n 0, 1) := xdc ddX5_markJumpUnit_0 4 rfl
theorem dX5_markJumpUnit_5 : decode cX5_markJumpUnit 5 = .ok (.iload_n 3, 1) := xdc ddX5_markJumpUnit_0 5 rfl
theorem dX5_markJumpUnit_6 : decode cX5_markJumpUnit 6 = .ok (.invokevirtual 150, 3) := xdc ddX5_markJumpUnit_0 6 rfl
theorem dX5_markJumpUnit_9 : decode cX5_markJumpUnit 9 = .ok (.istore 4, 2) := xdc ddX5_markJumpUnit_0 7 rfl
theorem dX5_markJumpUnit_11 : decode cX5_markJumpUnit 11 = .ok (.aload_n 0, 1) := xdc ddX5_markJumpUnit_0 8 rfl
theorem dX5_markJumpUnit_12 : decode cX5_markJumpUnit 12 = .ok (.iload_n 3, 1) := xdc ddX5_markJumpUnit_0 9 rfl
theorem dX5_markJumpUnit_13 : decode cX5_markJumpUnit 13 = .ok (.bipush 32, 2) := xdc ddX5_markJumpUnit_0 10 rfl
theorem dX5_markJumpUnit_15 : decode cX5_markJumpUnit 15 = .ok (.aload_n 0, 1) := xdc ddX5_markJumpUnit_0 11 rfl
theorem dX5_markJumpUnit_16 : decode cX5_markJumpUnit 16 = .ok (.iload_n 1, 1) := xdc ddX5_markJumpUnit_0 12 rfl
theorem dX5_markJumpUnit_17 : decode cX5_markJumpUnit 17 = .ok (.invokevirtual 183, 3) := xdc ddX5_markJumpUnit_0 13 rfl
theorem dX5_markJumpUnit_20 : decode cX5_markJumpUnit 20 = .ok (.invokevirtual 179, 3) := xdc ddX5_markJumpUnit_0 14 rfl
theorem dX5_markJumpUnit_23 : decode cX5_markJumpUnit 23 = .ok (.ifCond .eq 14, 3) := xdc ddX5_markJumpUnit_0 15 rfl
theorem dX5_markJumpUnit_26 : decode cX5_markJumpUnit 26 = .ok (.iload_n 1, 1) := xdc ddX5_markJumpUnit_0 16 rfl
theorem dX5_markJumpUnit_27 : decode cX5_markJumpUnit 27 = .ok (.iload_n 2, 1) := xdc ddX5_markJumpUnit_0 17 rfl
theorem dX5_markJumpUnit_28 : decode cX5_markJumpUnit 28 = .ok (.iload 4, 2) := xdc ddX5_markJumpUnit_0 18 rfl
theorem dX5_markJumpUnit_30 : decode cX5_markJumpUnit 30 = .ok (.iadd, 1) := xdc ddX5_markJumpUnit_0 19 rfl
theorem dX5_markJumpUnit_31 : decode cX5_markJumpUnit 31 = .ok (.invokestatic 153, 3) := xdc ddX5_markJumpUnit_0 20 rfl
theorem dX5_markJumpUnit_34 : decode cX5_markJumpUnit 34 = .ok (.ifCond .eq 5, 3) := xdc ddX5_markJumpUnit_0 21 rfl
theorem dX5_markJumpUnit_37 : decode cX5_markJumpUnit 37 = .ok (.iload_n 2, 1) := xdc ddX5_markJumpUnit_0 22 rfl
theorem dX5_markJumpUnit_38 : decode cX5_markJumpUnit 38 = .ok (.ireturn, 1) := xdc ddX5_markJumpUnit_0 23 rfl
theorem dX5_markJumpUnit_39 : decode cX5_markJumpUnit 39 = .ok (.aload_n 0, 1) := xdc ddX5_markJumpUnit_0 24 rfl
theorem dX5_markJumpUnit_40 : decode cX5_markJumpUnit 40 = .ok (.iload_n 3, 1) := xdc ddX5_markJumpUnit_0 25 rfl
theorem dX5_markJumpUnit_41 : decode cX5_markJumpUnit 41 = .ok (.iconst 2, 1) := xdc ddX5_markJumpUnit_0 26 rfl
theorem dX5_markJumpUnit_42 : decode cX5_markJumpUnit 42 = .ok (.invokevirtual 157, 3) := xdc ddX5_markJumpUnit_0 27 rfl
theorem dX5_markJumpUnit_45 : decode cX5_markJumpUnit 45 = .ok (.iload_n 2, 1) := xdc ddX5_markJumpUnit_0 28 rfl
theorem dX5_markJumpUnit_46 : decode cX5_markJumpUnit 46 = .ok (.iload 4, 2) := xdc ddX5_markJumpUnit_0 29 rfl
theorem dX5_markJumpUnit_48 : decode cX5_markJumpUnit 48 = .ok (.iadd, 1) := xdc ddX5_markJumpUnit_0 30 rfl
theorem dX5_markJumpUnit_49 : decode cX5_markJumpUnit 49 = .ok (.ireturn, 1) := xdc ddX5_markJumpUnit_0 31 rfl
abbrev cX5_markWriteUnit : ByteArray := prog_7_method_18_code
theorem ddX5_markWriteUnit_0 : xdec cX5_markWriteUnit [(0, (.aload_n 0, 1)), (1, (.iload_n 1, 1)), (2, (.invokevirtual 183, 3)), (5, (.istore_n 2, 1)), (6, (.iload_n 1, 1)), (7, (.bipush 12, 2)), (9, (.iadd, 1)), (10, (.istore_n 3, 1)), (11, (.aload_n 0, 1)), (12, (.iload_n 3, 1)), (13, (.invokevirtual 150, 3)), (16, (.istore 4, 2)), (18, (.aload_n 0, 1)), (19, (.iload_n 3, 1)), (20, (.iconst 2, 1)), (21, (.invokevirtual 161, 3)), (24, (.ifCond .eq 26, 3)), (27, (.aload_n 0, 1)), (28, (.iload_n 3, 1)), (29, (.iconst 4, 1)), (30, (.iload_n 2, 1)), (31, (.invokevirtual 179, 3)), (34, (.ifCond .eq 16, 3)), (37, (.aload_n 0, 1)), (38, (.iload_n 3, 1)), (39, (.iconst 1, 1)), (40, (.invokevirtual 161, 3)), (43, (.ifCond .ne 7, 3)), (46, (.iconst 1, 1)), (47, (.goto 4, 3)), (50, (.iconst 0, 1)), (51, (.istore 5, 2)), (53, (.iload 5, 2)), (55, (.ifCond .eq 24, 3)), (58, (.aload_n 0, 1)), (59, (.iload_n 1, 1)), (60, (.iload_n 2, 1)), (61, (.invokevirtual 176, 3)), (64, (.ifCond .eq 15, 3)), (67, (.iload_n 1, 1))] = true := by decide +kernel
theorem dX5_markWriteUnit_0 : decode cX5_markWriteUnit 0 = .ok (.aload_n 0, 1) := xdc ddX5_markWriteUnit_0 0 rfl
theorem dX5_markWriteUnit_1 : decode cX5_markWriteUnit 1 = .ok (.iload_n 1, 1) := xdc ddX5_markWriteUnit_0 1 rfl
theorem dX5_markWriteUnit_2 : decode cX5_markWriteUnit 2 = .ok (.invokevirtual 183, 3) := xdc ddX5_markWriteUnit_0 2 rfl
theorem dX5_markWriteUnit_5 : decode cX5_markWriteUnit 5 = .ok (.istore_n 2, 1) := xdc ddX5_markWriteUnit_0 3 rfl
theorem dX5_markWriteUnit_6 : decode cX5_markWriteUnit 6 = .ok (.iload_n 1, 1) := xdc ddX5_markWriteUnit_0 4 rfl
theorem dX5_markWriteUnit_7 : decode cX5_markWriteUnit 7 = .ok (.bipush 12, 2) := xdc ddX5_markWriteUnit_0 5 rfl
theorem dX5_markWriteUnit_9 : decode cX5_markWriteUnit 9 = .ok (.iadd, 1) := xdc ddX5_markWriteUnit_0 6 rfl
theorem dX5_markWriteUnit_10 : decode cX5_markWriteUnit 10 = .ok (.istore_n 3, 1) := xdc ddX5_markWriteUnit_0 7 rfl
theorem dX5_markWriteUnit_11 : decode cX5_markWriteUnit 11 = .ok (.aload_n 0, 1) := xdc ddX5_markWriteUnit_0 8 rfl
theorem dX5_markWriteUnit_12 : decode cX5_markWriteUnit 12 = .ok (.iload_n 3, 1) := xdc ddX5_markWriteUnit_0 9 rfl
theorem dX5_markWriteUnit_13 : decode cX5_markWriteUnit 13 = .ok (.invokevirtual 150, 3) := xdc ddX5_markWriteUnit_0 10 rfl
theorem dX5_markWriteUnit_16 : decode cX5_markWriteUnit 16 = .ok (.istore 4, 2) := xdc ddX5_markWriteUnit_0 11 rfl
theorem dX5_markWriteUnit_18 : decode cX5_markWriteUnit 18 = .ok (.aload_n 0, 1) := xdc ddX5_markWriteUnit_0 12 rfl
theorem dX5_markWriteUnit_19 : decode cX5_markWriteUnit 19 = .ok (.iload_n 3, 1) := xdc ddX5_markWriteUnit_0 13 rfl
theorem dX5_markWriteUnit_20 : decode cX5_markWriteUnit 20 = .ok (.iconst 2, 1) := xdc ddX5_markWriteUnit_0 14 rfl
theorem dX5_markWriteUnit_21 : decode cX5_markWriteUnit 21 = .ok (.invokevirtual 161, 3) := xdc ddX5_markWriteUnit_0 15 rfl
theorem dX5_markWriteUnit_24 : decode cX5_markWriteUnit 24 = .ok (.ifCond .eq 26, 3) := xdc ddX5_markWriteUnit_0 16 rfl
theorem dX5_markWriteUnit_27 : decode cX5_markWriteUnit 27 = .ok (.aload_n 0, 1) := xdc ddX5_markWriteUnit_0 17 rfl
theorem dX5_markWriteUnit_28 : decode cX5_markWriteUnit 28 = .ok (.iload_n 3, 1) := xdc ddX5_markWriteUnit_0 18 rfl
theorem dX5_markWriteUnit_29 : decode cX5_markWriteUnit 29 = .ok (.iconst 4, 1) := xdc ddX5_markWriteUnit_0 19 rfl
theorem dX5_markWriteUnit_30 : decode cX5_markWriteUnit 30 = .ok (.iload_n 2, 1) := xdc ddX5_markWriteUnit_0 20 rfl
theorem dX5_markWriteUnit_31 : decode cX5_markWriteUnit 31 = .ok (.invokevirtual 179, 3) := xdc ddX5_markWriteUnit_0 21 rfl
theorem dX5_markWriteUnit_34 : decode cX5_markWriteUnit 34 = .ok (.ifCond .eq 16, 3) := xdc ddX5_markWriteUnit_0 22 rfl
theorem dX5_markWriteUnit_37 : decode cX5_markWriteUnit 37 = .ok (.aload_n 0, 1) := xdc ddX5_markWriteUnit_0 23 rfl
theorem dX5_markWriteUnit_38 : decode cX5_markWriteUnit 38 = .ok (.iload_n 3, 1) := xdc ddX5_markWriteUnit_0 24 rfl
theorem dX5_markWriteUnit_39 : decode cX5_markWriteUnit 39 = .ok (.iconst 1, 1) := xdc ddX5_markWriteUnit_0 25 rfl
theorem dX5_markWriteUnit_40 : decode cX5_markWriteUnit 40 = .ok (.invokevirtual 161, 3) := xdc ddX5_markWriteUnit_0 26 rfl
theorem dX5_markWriteUnit_43 : decode cX5_markWriteUnit 43 = .ok (.ifCond .ne 7, 3) := xdc ddX5_markWriteUnit_0 27 rfl
theorem dX5_markWriteUnit_46 : decode cX5_markWriteUnit 46 = .ok (.iconst 1, 1) := xdc ddX5_markWriteUnit_0 28 rfl
theorem dX5_markWriteUnit_47 : decode cX5_markWriteUnit 47 = .ok (.goto 4, 3) := xdc ddX5_markWriteUnit_0 29 rfl
theorem dX5_markWriteUnit_50 : decode cX5_markWriteUnit 50 = .ok (.iconst 0, 1) := xdc ddX5_markWriteUnit_0 30 rfl
theorem dX5_markWriteUnit_51 : decode cX5_markWriteUnit 51 = .ok (.istore 5, 2) := xdc ddX5_markWriteUnit_0 31 rfl
theorem dX5_markWriteUnit_53 : decode cX5_markWriteUnit 53 = .ok (.iload 5, 2) := xdc ddX5_markWriteUnit_0 32 rfl
theorem dX5_markWriteUnit_55 : decode cX5_markWriteUnit 55 = .ok (.ifCond .eq 24, 3) := xdc ddX5_markWriteUnit_0 33 rfl
theorem dX5_markWriteUnit_58 : decode cX5_markWriteUnit 58 = .ok (.aload_n 0, 1) := xdc ddX5_markWriteUnit_0 34 rfl
theorem dX5_markWriteUnit_59 : decode cX5_markWriteUnit 59 = .ok (.iload_n 1, 1) := xdc ddX5_markWriteUnit_0 35 rfl
theorem dX5_markWriteUnit_60 : decode cX5_markWriteUnit 60 = .ok (.iload_n 2, 1) := xdc ddX5_markWriteUnit_0 36 rfl
theorem dX5_markWriteUnit_61 : decode cX5_markWriteUnit 61 = .ok (.invokevirtual 176, 3) := xdc ddX5_markWriteUnit_0 37 rfl
theorem dX5_markWriteUnit_64 : decode cX5_markWriteUnit 64 = .ok (.ifCond .eq 15, 3) := xdc ddX5_markWriteUnit_0 38 rfl
theorem dX5_markWriteUnit_67 : decode cX5_markWriteUnit 67 = .ok (.iload_n 1, 1) := xdc ddX5_markWriteUnit_0 39 rfl
theorem ddX5_markWriteUnit_1 : xdec cX5_markWriteUnit [(68, (.bipush 12, 2)), (70, (.iload 4, 2)), (72, (.iadd, 1)), (73, (.invokestatic 153, 3)), (76, (.ifCond .eq 6, 3)), (79, (.bipush 6, 2)), (81, (.ireturn, 1)), (82, (.aload_n 0, 1)), (83, (.iload_n 1, 1)), (84, (.bipush 6, 2)), (86, (.iadd, 1)), (87, (.iconst 2, 1)), (88, (.invokevirtual 157, 3)), (91, (.aload_n 0, 1)), (92, (.iload_n 3, 1)), (93, (.iconst 2, 1)), (94, (.invokevirtual 157, 3)), (97, (.bipush 12, 2)), (99, (.iload 4, 2)), (101, (.iadd, 1)), (102, (.ireturn, 1))] = true := by decide +kernel
theorem dX5_markWriteUnit_68 : decode cX5_markWriteUnit 68 = .ok (.bipush 12, 2) := xdc ddX5_markWriteUnit_1 0 rfl
theorem dX5_markWriteUnit_70 : decode cX5_markWriteUnit 70 = .ok (.iload 4, 2) := xdc ddX5_markWriteUnit_1 1 rfl
theorem dX5_markWriteUnit_72 : decode cX5_markWriteUnit 72 = .ok (.iadd, 1) := xdc ddX5_markWriteUnit_1 2 rfl
theorem dX5_markWriteUnit_73 : decode cX5_markWriteUnit 73 = .ok (.invokestatic 153, 3) := xdc ddX5_markWriteUnit_1 3 rfl
theorem dX5_markWriteUnit_76 : decode cX5_markWriteUnit 76 = .ok (.ifCond .eq 6, 3) := xdc ddX5_markWriteUnit_1 4 rfl
theorem dX5_markWriteUnit_79 : decode cX5_markWriteUnit 79 = .ok (.bipush 6, 2) := xdc ddX5_markWriteUnit_1 5 rfl
theorem dX5_markWriteUnit_81 : decode cX5_markWriteUnit 81 = .ok (.ireturn, 1) := xdc ddX5_markWriteUnit_1 6 rfl
theorem dX5_markWriteUnit_82 : decode cX5_markWriteUnit 82 = .ok (.aload_n 0, 1) := xdc ddX5_markWriteUnit_1 7 rfl
theorem dX5_markWriteUnit_83 : decode cX5_markWriteUnit 83 = .ok (.iload_n 1, 1) := xdc ddX5_markWriteUnit_1 8 rfl
theorem dX5_markWriteUnit_84 : decode cX5_markWriteUnit 84 = .ok (.bipush 6, 2) := xdc ddX5_markWriteUnit_1 9 rfl
theorem dX5_markWriteUnit_86 : decode cX5_markWriteUnit 86 = .ok (.iadd, 1) := xdc ddX5_markWriteUnit_1 10 rfl
theorem dX5_markWriteUnit_87 : decode cX5_markWriteUnit 87 = .ok (.iconst 2, 1) := xdc ddX5_markWriteUnit_1 11 rfl
theorem dX5_markWriteUnit_88 : decode cX5_markWriteUnit 88 = .ok (.invokevirtual 157, 3) := xdc ddX5_markWriteUnit_1 12 rfl
theorem dX5_markWriteUnit_91 : decode cX5_markWriteUnit 91 = .ok (.aload_n 0, 1) := xdc ddX5_markWriteUnit_1 13 rfl
theorem dX5_markWriteUnit_92 : decode cX5_markWriteUnit 92 = .ok (.iload_n 3, 1) := xdc ddX5_markWriteUnit_1 14 rfl
theorem dX5_markWriteUnit_93 : decode cX5_markWriteUnit 93 = .ok (.iconst 2, 1) := xdc ddX5_markWriteUnit_1 15 rfl
theorem dX5_markWriteUnit_94 : decode cX5_markWriteUnit 94 = .ok (.invokevirtual 157, 3) := xdc ddX5_markWriteUnit_1 16 rfl
theorem dX5_markWriteUnit_97 : decode cX5_markWriteUnit 97 = .ok (.bipush 12, 2) := xdc ddX5_markWriteUnit_1 17 rfl
theorem dX5_markWriteUnit_99 : decode cX5_markWriteUnit 99 = .ok (.iload 4, 2) := xdc ddX5_markWriteUnit_1 18 rfl
theorem dX5_markWriteUnit_101 : decode cX5_markWriteUnit 101 = .ok (.iadd, 1) := xdc ddX5_markWriteUnit_1 19 rfl
theorem dX5_markWriteUnit_102 : decode cX5_markWriteUnit 102 = .ok (.ireturn, 1) := xdc ddX5_markWriteUnit_1 20 rfl
abbrev cX5_checkAlone : ByteArray := prog_7_method_19_code
theorem ddX5_checkAlone_0 : xdec cX5_checkAlone [(0, (.aload_n 0, 1)), (1, (.iload_n 1, 1)), (2, (.bipush 32, 2)), (4, (.invokevirtual 161, 3)), (7, (.ifCond .eq 10, 3)), (10, (.aload_n 0, 1)), (11, (.iconst 4, 1)), (12, (.iload_n 1, 1)), (13, (.invokevirtual 138, 3)), (16, (.ireturn, 1)), (17, (.aload_n 0, 1)), (18, (.iload_n 1, 1)), (19, (.iconst 2, 1)), (20, (.invokevirtual 161, 3)), (23, (.ifCond .eq 30, 3)), (26, (.aload_n 0, 1)), (27, (.iload_n 1, 1)), (28, (.iconst 4, 1)), (29, (.iconst 4, 1)), (30, (.invokevirtual 179, 3)), (33, (.ifCond .ne 20, 3)), (36, (.aload_n 0, 1)), (37, (.iload_n 1, 1)), (38, (.bipush 8, 2)), (40, (.invokevirtual 161, 3)), (43, (.ifCond .ne 10, 3)), (46, (.aload_n 0, 1)), (47, (.iconst 5, 1)), (48, (.iload_n 1, 1)), (49, (.invokevirtual 138, 3)), (52, (.ireturn, 1)), (53, (.iload_n 2, 1)), (54, (.ireturn, 1))] = true := by decide +kernel
theorem dX5_checkAlone_0 : decode cX5_checkAlone 0 = .ok (.aload_n 0, 1) := xdc ddX5_checkAlone_0 0 rfl
theorem dX5_checkAlone_1 : decode cX5_checkAlone 1 = .ok (.iload_n 1, 1) := xdc ddX5_checkAlone_0 1 rfl
theorem dX5_checkAlone_2 : decode cX5_checkAlone 2 = .ok (.bipush 32, 2) := xdc ddX5_checkAlone_0 2 rfl
theorem dX5_checkAlone_4 : decode cX5_checkAlone 4 = .ok (.invokevirtual 161, 3) := xdc ddX5_checkAlone_0 3 rfl
theorem dX5_checkAlone_7 : decode cX5_checkAlone 7 = .ok (.ifCond .eq 10, 3) := xdc ddX5_checkAlone_0 4 rfl
theorem dX5_checkAlone_10 : decode cX5_checkAlone 10 = .ok (.aload_n 0, 1) := xdc ddX5_checkAlone_0 5 rfl
theorem dX5_checkAlone_11 : decode cX5_checkAlone 11 = .ok (.iconst 4, 1) := xdc ddX5_checkAlone_0 6 rfl
theorem dX5_checkAlone_12 : decode cX5_checkAlone 12 = .ok (.iload_n 1, 1) := xdc ddX5_checkAlone_0 7 rfl
theorem dX5_checkAlone_13 : decode cX5_checkAlone 13 = .ok (.invokevirtual 138, 3) := xdc ddX5_checkAlone_0 8 rfl
theorem dX5_checkAlone_16 : decode cX5_checkAlone 16 = .ok (.ireturn, 1) := xdc ddX5_checkAlone_0 9 rfl
theorem dX5_checkAlone_17 : decode cX5_checkAlone 17 = .ok (.aload_n 0, 1) := xdc ddX5_checkAlone_0 10 rfl
theorem dX5_checkAlone_18 : decode cX5_checkAlone 18 = .ok (.iload_n 1, 1) := xdc ddX5_checkAlone_0 11 rfl
theorem dX5_checkAlone_19 : decode cX5_checkAlone 19 = .ok (.iconst 2, 1) := xdc ddX5_checkAlone_0 12 rfl
theorem dX5_checkAlone_20 : decode cX5_checkAlone 20 = .ok (.invokevirtual 161, 3) := xdc ddX5_checkAlone_0 13 rfl
theorem dX5_checkAlone_23 : decode cX5_checkAlone 23 = .ok (.ifCond .eq 30, 3) := xdc ddX5_checkAlone_0 14 rfl
theorem dX5_checkAlone_26 : decode cX5_checkAlone 26 = .ok (.aload_n 0, 1) := xdc ddX5_checkAlone_0 15 rfl
theorem dX5_checkAlone_27 : decode cX5_checkAlone 27 = .ok (.iload_n 1, 1) := xdc ddX5_checkAlone_0 16 rfl
theorem dX5_checkAlone_28 : decode cX5_checkAlone 28 = .ok (.iconst 4, 1) := xdc ddX5_checkAlone_0 17 rfl
theorem dX5_checkAlone_29 : decode cX5_checkAlone 29 = .ok (.iconst 4, 1) := xdc ddX5_checkAlone_0 18 rfl
theorem dX5_checkAlone_30 : decode cX5_checkAlone 30 = .ok (.invokevirtual 179, 3) := xdc ddX5_checkAlone_0 19 rfl
theorem dX5_checkAlone_33 : decode cX5_checkAlone 33 = .ok (.ifCond .ne 20, 3) := xdc ddX5_checkAlone_0 20 rfl
theorem dX5_checkAlone_36 : decode cX5_checkAlone 36 = .ok (.aload_n 0, 1) := xdc ddX5_checkAlone_0 21 rfl
theorem dX5_checkAlone_37 : decode cX5_checkAlone 37 = .ok (.iload_n 1, 1) := xdc ddX5_checkAlone_0 22 rfl
theorem dX5_checkAlone_38 : decode cX5_checkAlone 38 = .ok (.bipush 8, 2) := xdc ddX5_checkAlone_0 23 rfl
theorem dX5_checkAlone_40 : decode cX5_checkAlone 40 = .ok (.invokevirtual 161, 3) := xdc ddX5_checkAlone_0 24 rfl
theorem dX5_checkAlone_43 : decode cX5_checkAlone 43 = .ok (.ifCond .ne 10, 3) := xdc ddX5_checkAlone_0 25 rfl
theorem dX5_checkAlone_46 : decode cX5_checkAlone 46 = .ok (.aload_n 0, 1) := xdc ddX5_checkAlone_0 26 rfl
theorem dX5_checkAlone_47 : decode cX5_checkAlone 47 = .ok (.iconst 5, 1) := xdc ddX5_checkAlone_0 27 rfl
theorem dX5_checkAlone_48 : decode cX5_checkAlone 48 = .ok (.iload_n 1, 1) := xdc ddX5_checkAlone_0 28 rfl
theorem dX5_checkAlone_49 : decode cX5_checkAlone 49 = .ok (.invokevirtual 138, 3) := xdc ddX5_checkAlone_0 29 rfl
theorem dX5_checkAlone_52 : decode cX5_checkAlone 52 = .ok (.ireturn, 1) := xdc ddX5_checkAlone_0 30 rfl
theorem dX5_checkAlone_53 : decode cX5_checkAlone 53 = .ok (.iload_n 2, 1) := xdc ddX5_checkAlone_0 31 rfl
theorem dX5_checkAlone_54 : decode cX5_checkAlone 54 = .ok (.ireturn, 1) := xdc ddX5_checkAlone_0 32 rfl
abbrev cX5_markUnit : ByteArray := prog_7_method_14_code
theorem ddX5_markUnit_0 : xdec cX5_markUnit [(0, (.aload_n 0, 1)), (1, (.iload_n 1, 1)), (2, (.invokevirtual 150, 3)), (5, (.istore_n 2, 1)), (6, (.iload_n 2, 1)), (7, (.ifCond .ne 10, 3)), (10, (.aload_n 0, 1)), (11, (.iconst 2, 1)), (12, (.iload_n 1, 1)), (13, (.invokevirtual 138, 3)), (16, (.ireturn, 1)), (17, (.iload_n 1, 1)), (18, (.iload_n 2, 1)), (19, (.invokestatic 153, 3)), (22, (.ifCond .eq 10, 3)), (25, (.aload_n 0, 1)), (26, (.iconst 3, 1)), (27, (.iload_n 1, 1)), (28, (.invokevirtual 138, 3)), (31, (.ireturn, 1)), (32, (.aload_n 0, 1)), (33, (.iload_n 1, 1)), (34, (.iconst 1, 1)), (35, (.invokevirtual 157, 3)), (38, (.aload_n 0, 1)), (39, (.iload_n 1, 1)), (40, (.iconst 1, 1)), (41, (.invokevirtual 161, 3)), (44, (.ifCond .eq 10, 3)), (47, (.aload_n 0, 1)), (48, (.iload_n 1, 1)), (49, (.iload_n 2, 1)), (50, (.invokevirtual 164, 3)), (53, (.ireturn, 1)), (54, (.aload_n 0, 1)), (55, (.iload_n 1, 1)), (56, (.bipush 16, 2)), (58, (.invokevirtual 161, 3)), (61, (.ifCond .eq 10, 3)), (64, (.aload_n 0, 1))] = true := by decide +kernel
theorem dX5_markUnit_0 : decode cX5_markUnit 0 = .ok (.aload_n 0, 1) := xdc ddX5_markUnit_0 0 rfl
theorem dX5_markUnit_1 : decode cX5_markUnit 1 = .ok (.iload_n 1, 1) := xdc ddX5_markUnit_0 1 rfl
theorem dX5_markUnit_2 : decode cX5_markUnit 2 = .ok (.invokevirtual 150, 3) := xdc ddX5_markUnit_0 2 rfl
theorem dX5_markUnit_5 : decode cX5_markUnit 5 = .ok (.istore_n 2, 1) := xdc ddX5_markUnit_0 3 rfl
theorem dX5_markUnit_6 : decode cX5_markUnit 6 = .ok (.iload_n 2, 1) := xdc ddX5_markUnit_0 4 rfl
theorem dX5_markUnit_7 : decode cX5_markUnit 7 = .ok (.ifCond .ne 10, 3) := xdc ddX5_markUnit_0 5 rfl
theorem dX5_markUnit_10 : decode cX5_markUnit 10 = .ok (.aload_n 0, 1) := xdc ddX5_markUnit_0 6 rfl
theorem dX5_markUnit_11 : decode cX5_markUnit 11 = .ok (.iconst 2, 1) := xdc ddX5_markUnit_0 7 rfl
theorem dX5_markUnit_12 : decode cX5_markUnit 12 = .ok (.iload_n 1, 1) := xdc ddX5_markUnit_0 8 rfl
theorem dX5_markUnit_13 : decode cX5_markUnit 13 = .ok (.invokevirtual 138, 3) := xdc ddX5_markUnit_0 9 rfl
theorem dX5_markUnit_16 : decode cX5_markUnit 16 = .ok (.ireturn, 1) := xdc ddX5_markUnit_0 10 rfl
theorem dX5_markUnit_17 : decode cX5_markUnit 17 = .ok (.iload_n 1, 1) := xdc ddX5_markUnit_0 11 rfl
theorem dX5_markUnit_18 : decode cX5_markUnit 18 = .ok (.iload_n 2, 1) := xdc ddX5_markUnit_0 12 rfl
theorem dX5_markUnit_19 : decode cX5_markUnit 19 = .ok (.invokestatic 153, 3) := xdc ddX5_markUnit_0 13 rfl
theorem dX5_markUnit_22 : decode cX5_markUnit 22 = .ok (.ifCond .eq 10, 3) := xdc ddX5_markUnit_0 14 rfl
theorem dX5_markUnit_25 : decode cX5_markUnit 25 = .ok (.aload_n 0, 1) := xdc ddX5_markUnit_0 15 rfl
theorem dX5_markUnit_26 : decode cX5_markUnit 26 = .ok (.iconst 3, 1) := xdc ddX5_markUnit_0 16 rfl
theorem dX5_markUnit_27 : decode cX5_markUnit 27 = .ok (.iload_n 1, 1) := xdc ddX5_markUnit_0 17 rfl
theorem dX5_markUnit_28 : decode cX5_markUnit 28 = .ok (.invokevirtual 138, 3) := xdc ddX5_markUnit_0 18 rfl
theorem dX5_markUnit_31 : decode cX5_markUnit 31 = .ok (.ireturn, 1) := xdc ddX5_markUnit_0 19 rfl
theorem dX5_markUnit_32 : decode cX5_markUnit 32 = .ok (.aload_n 0, 1) := xdc ddX5_markUnit_0 20 rfl
theorem dX5_markUnit_33 : decode cX5_markUnit 33 = .ok (.iload_n 1, 1) := xdc ddX5_markUnit_0 21 rfl
theorem dX5_markUnit_34 : decode cX5_markUnit 34 = .ok (.iconst 1, 1) := xdc ddX5_markUnit_0 22 rfl
theorem dX5_markUnit_35 : decode cX5_markUnit 35 = .ok (.invokevirtual 157, 3) := xdc ddX5_markUnit_0 23 rfl
theorem dX5_markUnit_38 : decode cX5_markUnit 38 = .ok (.aload_n 0, 1) := xdc ddX5_markUnit_0 24 rfl
theorem dX5_markUnit_39 : decode cX5_markUnit 39 = .ok (.iload_n 1, 1) := xdc ddX5_markUnit_0 25 rfl
theorem dX5_markUnit_40 : decode cX5_markUnit 40 = .ok (.iconst 1, 1) := xdc ddX5_markUnit_0 26 rfl
theorem dX5_markUnit_41 : decode cX5_markUnit 41 = .ok (.invokevirtual 161, 3) := xdc ddX5_markUnit_0 27 rfl
theorem dX5_markUnit_44 : decode cX5_markUnit 44 = .ok (.ifCond .eq 10, 3) := xdc ddX5_markUnit_0 28 rfl
theorem dX5_markUnit_47 : decode cX5_markUnit 47 = .ok (.aload_n 0, 1) := xdc ddX5_markUnit_0 29 rfl
theorem dX5_markUnit_48 : decode cX5_markUnit 48 = .ok (.iload_n 1, 1) := xdc ddX5_markUnit_0 30 rfl
theorem dX5_markUnit_49 : decode cX5_markUnit 49 = .ok (.iload_n 2, 1) := xdc ddX5_markUnit_0 31 rfl
theorem dX5_markUnit_50 : decode cX5_markUnit 50 = .ok (.invokevirtual 164, 3) := xdc ddX5_markUnit_0 32 rfl
theorem dX5_markUnit_53 : decode cX5_markUnit 53 = .ok (.ireturn, 1) := xdc ddX5_markUnit_0 33 rfl
theorem dX5_markUnit_54 : decode cX5_markUnit 54 = .ok (.aload_n 0, 1) := xdc ddX5_markUnit_0 34 rfl
theorem dX5_markUnit_55 : decode cX5_markUnit 55 = .ok (.iload_n 1, 1) := xdc ddX5_markUnit_0 35 rfl
theorem dX5_markUnit_56 : decode cX5_markUnit 56 = .ok (.bipush 16, 2) := xdc ddX5_markUnit_0 36 rfl
theorem dX5_markUnit_58 : decode cX5_markUnit 58 = .ok (.invokevirtual 161, 3) := xdc ddX5_markUnit_0 37 rfl
theorem dX5_markUnit_61 : decode cX5_markUnit 61 = .ok (.ifCond .eq 10, 3) := xdc ddX5_markUnit_0 38 rfl
theorem dX5_markUnit_64 : decode cX5_markUnit 64 = .ok (.aload_n 0, 1) := xdc ddX5_markUnit_0 39 rfl
theorem ddX5_markUnit_1 : xdec cX5_markUnit [(65, (.iload_n 1, 1)), (66, (.iload_n 2, 1)), (67, (.invokevirtual 167, 3)), (70, (.ireturn, 1)), (71, (.aload_n 0, 1)), (72, (.iload_n 1, 1)), (73, (.bipush 64, 2)), (75, (.invokevirtual 161, 3)), (78, (.ifCond .eq 9, 3)), (81, (.aload_n 0, 1)), (82, (.iload_n 1, 1)), (83, (.invokevirtual 170, 3)), (86, (.ireturn, 1)), (87, (.aload_n 0, 1)), (88, (.iload_n 1, 1)), (89, (.iload_n 2, 1)), (90, (.invokevirtual 173, 3)), (93, (.ireturn, 1))] = true := by decide +kernel
theorem dX5_markUnit_65 : decode cX5_markUnit 65 = .ok (.iload_n 1, 1) := xdc ddX5_markUnit_1 0 rfl
theorem dX5_markUnit_66 : decode cX5_markUnit 66 = .ok (.iload_n 2, 1) := xdc ddX5_markUnit_1 1 rfl
theorem dX5_markUnit_67 : decode cX5_markUnit 67 = .ok (.invokevirtual 167, 3) := xdc ddX5_markUnit_1 2 rfl
theorem dX5_markUnit_70 : decode cX5_markUnit 70 = .ok (.ireturn, 1) := xdc ddX5_markUnit_1 3 rfl
theorem dX5_markUnit_71 : decode cX5_markUnit 71 = .ok (.aload_n 0, 1) := xdc ddX5_markUnit_1 4 rfl
theorem dX5_markUnit_72 : decode cX5_markUnit 72 = .ok (.iload_n 1, 1) := xdc ddX5_markUnit_1 5 rfl
theorem dX5_markUnit_73 : decode cX5_markUnit 73 = .ok (.bipush 64, 2) := xdc ddX5_markUnit_1 6 rfl
theorem dX5_markUnit_75 : decode cX5_markUnit 75 = .ok (.invokevirtual 161, 3) := xdc ddX5_markUnit_1 7 rfl
theorem dX5_markUnit_78 : decode cX5_markUnit 78 = .ok (.ifCond .eq 9, 3) := xdc ddX5_markUnit_1 8 rfl
theorem dX5_markUnit_81 : decode cX5_markUnit 81 = .ok (.aload_n 0, 1) := xdc ddX5_markUnit_1 9 rfl
theorem dX5_markUnit_82 : decode cX5_markUnit 82 = .ok (.iload_n 1, 1) := xdc ddX5_markUnit_1 10 rfl
theorem dX5_markUnit_83 : decode cX5_markUnit 83 = .ok (.invokevirtual 170, 3) := xdc ddX5_markUnit_1 11 rfl
theorem dX5_markUnit_86 : decode cX5_markUnit 86 = .ok (.ireturn, 1) := xdc ddX5_markUnit_1 12 rfl
theorem dX5_markUnit_87 : decode cX5_markUnit 87 = .ok (.aload_n 0, 1) := xdc ddX5_markUnit_1 13 rfl
theorem dX5_markUnit_88 : decode cX5_markUnit 88 = .ok (.iload_n 1, 1) := xdc ddX5_markUnit_1 14 rfl
theorem dX5_markUnit_89 : decode cX5_markUnit 89 = .ok (.iload_n 2, 1) := xdc ddX5_markUnit_1 15 rfl
theorem dX5_markUnit_90 : decode cX5_markUnit 90 = .ok (.invokevirtual 173, 3) := xdc ddX5_markUnit_1 16 rfl
theorem dX5_markUnit_93 : decode cX5_markUnit 93 = .ok (.ireturn, 1) := xdc ddX5_markUnit_1 17 rfl
abbrev cX5_markUnits : ByteArray := prog_7_method_13_code
theorem ddX5_markUnits_0 : xdec cX5_markUnits [(0, (.aload_n 0, 1)), (1, (.getfield 33, 3)), (4, (.getfield 135, 3)), (7, (.ifCond .eq 16, 3)), (10, (.aload_n 0, 1)), (11, (.getfield 33, 3)), (14, (.getfield 135, 3)), (17, (.bipush 32, 2)), (19, (.irem, 1)), (20, (.ifCond .eq 10, 3)), (23, (.aload_n 0, 1)), (24, (.iconst 1, 1)), (25, (.iconst 0, 1)), (26, (.invokevirtual 138, 3)), (29, (.ireturn, 1)), (30, (.iconst 0, 1)), (31, (.istore_n 1, 1)), (32, (.iconst 0, 1)), (33, (.istore_n 2, 1)), (34, (.iconst 0, 1)), (35, (.istore_n 3, 1)), (36, (.iload_n 3, 1)), (37, (.aload_n 0, 1)), (38, (.getfield 33, 3)), (41, (.getfield 135, 3)), (44, (.if_icmp .ge 29, 3)), (47, (.aload_n 0, 1)), (48, (.getfield 49, 3)), (51, (.ifCond .ne 22, 3)), (54, (.iload_n 3, 1)), (55, (.istore_n 1, 1)), (56, (.aload_n 0, 1)), (57, (.iload_n 3, 1)), (58, (.invokevirtual 142, 3)), (61, (.istore_n 2, 1)), (62, (.iload_n 3, 1)), (63, (.iconst 1, 1)), (64, (.iload_n 2, 1)), (65, (.invokestatic 145, 3)), (68, (.iadd, 1))] = true := by decide +kernel
theorem dX5_markUnits_0 : decode cX5_markUnits 0 = .ok (.aload_n 0, 1) := xdc ddX5_markUnits_0 0 rfl
theorem dX5_markUnits_1 : decode cX5_markUnits 1 = .ok (.getfield 33, 3) := xdc ddX5_markUnits_0 1 rfl
theorem dX5_markUnits_4 : decode cX5_markUnits 4 = .ok (.getfield 135, 3) := xdc ddX5_markUnits_0 2 rfl
theorem dX5_markUnits_7 : decode cX5_markUnits 7 = .ok (.ifCond .eq 16, 3) := xdc ddX5_markUnits_0 3 rfl
theorem dX5_markUnits_10 : decode cX5_markUnits 10 = .ok (.aload_n 0, 1) := xdc ddX5_markUnits_0 4 rfl
theorem dX5_markUnits_11 : decode cX5_markUnits 11 = .ok (.getfield 33, 3) := xdc ddX5_markUnits_0 5 rfl
theorem dX5_markUnits_14 : decode cX5_markUnits 14 = .ok (.getfield 135, 3) := xdc ddX5_markUnits_0 6 rfl
theorem dX5_markUnits_17 : decode cX5_markUnits 17 = .ok (.bipush 32, 2) := xdc ddX5_markUnits_0 7 rfl
theorem dX5_markUnits_19 : decode cX5_markUnits 19 = .ok (.irem, 1) := xdc ddX5_markUnits_0 8 rfl
theorem dX5_markUnits_20 : decode cX5_markUnits 20 = .ok (.ifCond .eq 10, 3) := xdc ddX5_markUnits_0 9 rfl
theorem dX5_markUnits_23 : decode cX5_markUnits 23 = .ok (.aload_n 0, 1) := xdc ddX5_markUnits_0 10 rfl
theorem dX5_markUnits_24 : decode cX5_markUnits 24 = .ok (.iconst 1, 1) := xdc ddX5_markUnits_0 11 rfl
theorem dX5_markUnits_25 : decode cX5_markUnits 25 = .ok (.iconst 0, 1) := xdc ddX5_markUnits_0 12 rfl
theorem dX5_markUnits_26 : decode cX5_markUnits 26 = .ok (.invokevirtual 138, 3) := xdc ddX5_markUnits_0 13 rfl
theorem dX5_markUnits_29 : decode cX5_markUnits 29 = .ok (.ireturn, 1) := xdc ddX5_markUnits_0 14 rfl
theorem dX5_markUnits_30 : decode cX5_markUnits 30 = .ok (.iconst 0, 1) := xdc ddX5_markUnits_0 15 rfl
theorem dX5_markUnits_31 : decode cX5_markUnits 31 = .ok (.istore_n 1, 1) := xdc ddX5_markUnits_0 16 rfl
theorem dX5_markUnits_32 : decode cX5_markUnits 32 = .ok (.iconst 0, 1) := xdc ddX5_markUnits_0 17 rfl
theorem dX5_markUnits_33 : decode cX5_markUnits 33 = .ok (.istore_n 2, 1) := xdc ddX5_markUnits_0 18 rfl
theorem dX5_markUnits_34 : decode cX5_markUnits 34 = .ok (.iconst 0, 1) := xdc ddX5_markUnits_0 19 rfl
theorem dX5_markUnits_35 : decode cX5_markUnits 35 = .ok (.istore_n 3, 1) := xdc ddX5_markUnits_0 20 rfl
theorem dX5_markUnits_36 : decode cX5_markUnits 36 = .ok (.iload_n 3, 1) := xdc ddX5_markUnits_0 21 rfl
theorem dX5_markUnits_37 : decode cX5_markUnits 37 = .ok (.aload_n 0, 1) := xdc ddX5_markUnits_0 22 rfl
theorem dX5_markUnits_38 : decode cX5_markUnits 38 = .ok (.getfield 33, 3) := xdc ddX5_markUnits_0 23 rfl
theorem dX5_markUnits_41 : decode cX5_markUnits 41 = .ok (.getfield 135, 3) := xdc ddX5_markUnits_0 24 rfl
theorem dX5_markUnits_44 : decode cX5_markUnits 44 = .ok (.if_icmp .ge 29, 3) := xdc ddX5_markUnits_0 25 rfl
theorem dX5_markUnits_47 : decode cX5_markUnits 47 = .ok (.aload_n 0, 1) := xdc ddX5_markUnits_0 26 rfl
theorem dX5_markUnits_48 : decode cX5_markUnits 48 = .ok (.getfield 49, 3) := xdc ddX5_markUnits_0 27 rfl
theorem dX5_markUnits_51 : decode cX5_markUnits 51 = .ok (.ifCond .ne 22, 3) := xdc ddX5_markUnits_0 28 rfl
theorem dX5_markUnits_54 : decode cX5_markUnits 54 = .ok (.iload_n 3, 1) := xdc ddX5_markUnits_0 29 rfl
theorem dX5_markUnits_55 : decode cX5_markUnits 55 = .ok (.istore_n 1, 1) := xdc ddX5_markUnits_0 30 rfl
theorem dX5_markUnits_56 : decode cX5_markUnits 56 = .ok (.aload_n 0, 1) := xdc ddX5_markUnits_0 31 rfl
theorem dX5_markUnits_57 : decode cX5_markUnits 57 = .ok (.iload_n 3, 1) := xdc ddX5_markUnits_0 32 rfl
theorem dX5_markUnits_58 : decode cX5_markUnits 58 = .ok (.invokevirtual 142, 3) := xdc ddX5_markUnits_0 33 rfl
theorem dX5_markUnits_61 : decode cX5_markUnits 61 = .ok (.istore_n 2, 1) := xdc ddX5_markUnits_0 34 rfl
theorem dX5_markUnits_62 : decode cX5_markUnits 62 = .ok (.iload_n 3, 1) := xdc ddX5_markUnits_0 35 rfl
theorem dX5_markUnits_63 : decode cX5_markUnits 63 = .ok (.iconst 1, 1) := xdc ddX5_markUnits_0 36 rfl
theorem dX5_markUnits_64 : decode cX5_markUnits 64 = .ok (.iload_n 2, 1) := xdc ddX5_markUnits_0 37 rfl
theorem dX5_markUnits_65 : decode cX5_markUnits 65 = .ok (.invokestatic 145, 3) := xdc ddX5_markUnits_0 38 rfl
theorem dX5_markUnits_68 : decode cX5_markUnits 68 = .ok (.iadd, 1) := xdc ddX5_markUnits_0 39 rfl
theorem ddX5_markUnits_1 : xdec cX5_markUnits [(69, (.istore_n 3, 1)), (70, (.goto (-34), 3)), (73, (.iload_n 1, 1)), (74, (.ireturn, 1))] = true := by decide +kernel
theorem dX5_markUnits_69 : decode cX5_markUnits 69 = .ok (.istore_n 3, 1) := xdc ddX5_markUnits_1 0 rfl
theorem dX5_markUnits_70 : decode cX5_markUnits 70 = .ok (.goto (-34), 3) := xdc ddX5_markUnits_1 1 rfl
theorem dX5_markUnits_73 : decode cX5_markUnits 73 = .ok (.iload_n 1, 1) := xdc ddX5_markUnits_1 2 rfl
theorem dX5_markUnits_74 : decode cX5_markUnits 74 = .ok (.ireturn, 1) := xdc ddX5_markUnits_1 3 rfl
abbrev cX11_gateAt : ByteArray := prog_1_method_25_code
theorem ddX11_gateAt_0 : xdec cX11_gateAt [(0, (.iload_n 0, 1)), (1, (.sipush 1024, 3)), (4, (.isub, 1)), (5, (.iconst 5, 1)), (6, (.ishr, 1)), (7, (.istore_n 1, 1)), (8, (.iload_n 1, 1)), (9, (.ifCond .lt 20, 3)), (12, (.iload_n 1, 1)), (13, (.bipush 16, 2)), (15, (.if_icmp .ge 14, 3)), (18, (.iload_n 0, 1)), (19, (.bipush 31, 2)), (21, (.iand, 1)), (22, (.ifCond .ne 7, 3)), (25, (.iconst 1, 1)), (26, (.goto 4, 3)), (29, (.iconst 0, 1)), (30, (.istore_n 2, 1)), (31, (.iload_n 2, 1)), (32, (.ifCond .eq 7, 3)), (35, (.iload_n 1, 1)), (36, (.goto 4, 3)), (39, (.iconst (-1), 1)), (40, (.ireturn, 1))] = true := by decide +kernel
theorem dX11_gateAt_0 : decode cX11_gateAt 0 = .ok (.iload_n 0, 1) := xdc ddX11_gateAt_0 0 rfl
theorem dX11_gateAt_1 : decode cX11_gateAt 1 = .ok (.sipush 1024, 3) := xdc ddX11_gateAt_0 1 rfl
theorem dX11_gateAt_4 : decode cX11_gateAt 4 = .ok (.isub, 1) := xdc ddX11_gateAt_0 2 rfl
theorem dX11_gateAt_5 : decode cX11_gateAt 5 = .ok (.iconst 5, 1) := xdc ddX11_gateAt_0 3 rfl
theorem dX11_gateAt_6 : decode cX11_gateAt 6 = .ok (.ishr, 1) := xdc ddX11_gateAt_0 4 rfl
theorem dX11_gateAt_7 : decode cX11_gateAt 7 = .ok (.istore_n 1, 1) := xdc ddX11_gateAt_0 5 rfl
theorem dX11_gateAt_8 : decode cX11_gateAt 8 = .ok (.iload_n 1, 1) := xdc ddX11_gateAt_0 6 rfl
theorem dX11_gateAt_9 : decode cX11_gateAt 9 = .ok (.ifCond .lt 20, 3) := xdc ddX11_gateAt_0 7 rfl
theorem dX11_gateAt_12 : decode cX11_gateAt 12 = .ok (.iload_n 1, 1) := xdc ddX11_gateAt_0 8 rfl
theorem dX11_gateAt_13 : decode cX11_gateAt 13 = .ok (.bipush 16, 2) := xdc ddX11_gateAt_0 9 rfl
theorem dX11_gateAt_15 : decode cX11_gateAt 15 = .ok (.if_icmp .ge 14, 3) := xdc ddX11_gateAt_0 10 rfl
theorem dX11_gateAt_18 : decode cX11_gateAt 18 = .ok (.iload_n 0, 1) := xdc ddX11_gateAt_0 11 rfl
theorem dX11_gateAt_19 : decode cX11_gateAt 19 = .ok (.bipush 31, 2) := xdc ddX11_gateAt_0 12 rfl
theorem dX11_gateAt_21 : decode cX11_gateAt 21 = .ok (.iand, 1) := xdc ddX11_gateAt_0 13 rfl
theorem dX11_gateAt_22 : decode cX11_gateAt 22 = .ok (.ifCond .ne 7, 3) := xdc ddX11_gateAt_0 14 rfl
theorem dX11_gateAt_25 : decode cX11_gateAt 25 = .ok (.iconst 1, 1) := xdc ddX11_gateAt_0 15 rfl
theorem dX11_gateAt_26 : decode cX11_gateAt 26 = .ok (.goto 4, 3) := xdc ddX11_gateAt_0 16 rfl
theorem dX11_gateAt_29 : decode cX11_gateAt 29 = .ok (.iconst 0, 1) := xdc ddX11_gateAt_0 17 rfl
theorem dX11_gateAt_30 : decode cX11_gateAt 30 = .ok (.istore_n 2, 1) := xdc ddX11_gateAt_0 18 rfl
theorem dX11_gateAt_31 : decode cX11_gateAt 31 = .ok (.iload_n 2, 1) := xdc ddX11_gateAt_0 19 rfl
theorem dX11_gateAt_32 : decode cX11_gateAt 32 = .ok (.ifCond .eq 7, 3) := xdc ddX11_gateAt_0 20 rfl
theorem dX11_gateAt_35 : decode cX11_gateAt 35 = .ok (.iload_n 1, 1) := xdc ddX11_gateAt_0 21 rfl
theorem dX11_gateAt_36 : decode cX11_gateAt 36 = .ok (.goto 4, 3) := xdc ddX11_gateAt_0 22 rfl
theorem dX11_gateAt_39 : decode cX11_gateAt 39 = .ok (.iconst (-1), 1) := xdc ddX11_gateAt_0 23 rfl
theorem dX11_gateAt_40 : decode cX11_gateAt 40 = .ok (.ireturn, 1) := xdc ddX11_gateAt_0 24 rfl
abbrev cX5_isEntry : ByteArray := prog_7_method_21_code
theorem ddX5_isEntry_0 : xdec cX5_isEntry [(0, (.iload_n 1, 1)), (1, (.invokestatic 190, 3)), (4, (.iconst (-1), 1)), (5, (.if_icmp .ne 16, 3)), (8, (.aload_n 0, 1)), (9, (.iload_n 1, 1)), (10, (.sipush 4096, 3)), (13, (.isub, 1)), (14, (.invokevirtual 193, 3)), (17, (.iconst 1, 1)), (18, (.if_icmp .ne 7, 3)), (21, (.iconst 1, 1)), (22, (.goto 4, 3)), (25, (.iconst 0, 1)), (26, (.ireturn, 1))] = true := by decide +kernel
theorem dX5_isEntry_0 : decode cX5_isEntry 0 = .ok (.iload_n 1, 1) := xdc ddX5_isEntry_0 0 rfl
theorem dX5_isEntry_1 : decode cX5_isEntry 1 = .ok (.invokestatic 190, 3) := xdc ddX5_isEntry_0 1 rfl
theorem dX5_isEntry_4 : decode cX5_isEntry 4 = .ok (.iconst (-1), 1) := xdc ddX5_isEntry_0 2 rfl
theorem dX5_isEntry_5 : decode cX5_isEntry 5 = .ok (.if_icmp .ne 16, 3) := xdc ddX5_isEntry_0 3 rfl
theorem dX5_isEntry_8 : decode cX5_isEntry 8 = .ok (.aload_n 0, 1) := xdc ddX5_isEntry_0 4 rfl
theorem dX5_isEntry_9 : decode cX5_isEntry 9 = .ok (.iload_n 1, 1) := xdc ddX5_isEntry_0 5 rfl
theorem dX5_isEntry_10 : decode cX5_isEntry 10 = .ok (.sipush 4096, 3) := xdc ddX5_isEntry_0 6 rfl
theorem dX5_isEntry_13 : decode cX5_isEntry 13 = .ok (.isub, 1) := xdc ddX5_isEntry_0 7 rfl
theorem dX5_isEntry_14 : decode cX5_isEntry 14 = .ok (.invokevirtual 193, 3) := xdc ddX5_isEntry_0 8 rfl
theorem dX5_isEntry_17 : decode cX5_isEntry 17 = .ok (.iconst 1, 1) := xdc ddX5_isEntry_0 9 rfl
theorem dX5_isEntry_18 : decode cX5_isEntry 18 = .ok (.if_icmp .ne 7, 3) := xdc ddX5_isEntry_0 10 rfl
theorem dX5_isEntry_21 : decode cX5_isEntry 21 = .ok (.iconst 1, 1) := xdc ddX5_isEntry_0 11 rfl
theorem dX5_isEntry_22 : decode cX5_isEntry 22 = .ok (.goto 4, 3) := xdc ddX5_isEntry_0 12 rfl
theorem dX5_isEntry_25 : decode cX5_isEntry 25 = .ok (.iconst 0, 1) := xdc ddX5_isEntry_0 13 rfl
theorem dX5_isEntry_26 : decode cX5_isEntry 26 = .ok (.ireturn, 1) := xdc ddX5_isEntry_0 14 rfl
abbrev cX5_checkTargets : ByteArray := prog_7_method_20_code
theorem ddX5_checkTargets_0 : xdec cX5_checkTargets [(0, (.iconst 0, 1)), (1, (.istore_n 1, 1)), (2, (.iload_n 1, 1)), (3, (.sipush 2048, 3)), (6, (.if_icmp .ge 57, 3)), (9, (.aload_n 0, 1)), (10, (.getfield 49, 3)), (13, (.ifCond .ne 50, 3)), (16, (.aload_n 0, 1)), (17, (.getfield 26, 3)), (20, (.iload_n 1, 1)), (21, (.iaload, 1)), (22, (.ifCond .eq 35, 3)), (25, (.aload_n 0, 1)), (26, (.iload_n 1, 1)), (27, (.sipush 256, 3)), (30, (.invokevirtual 161, 3)), (33, (.ifCond .eq 24, 3)), (36, (.aload_n 0, 1)), (37, (.aload_n 0, 1)), (38, (.getfield 23, 3)), (41, (.iload_n 1, 1)), (42, (.iaload, 1)), (43, (.invokevirtual 186, 3)), (46, (.ifCond .ne 11, 3)), (49, (.aload_n 0, 1)), (50, (.bipush 7, 2)), (52, (.iload_n 1, 1)), (53, (.invokevirtual 138, 3)), (56, (.pop, 1)), (57, (.iinc 1 1, 3)), (60, (.goto (-58), 3)), (63, (.return_, 1))] = true := by decide +kernel
theorem dX5_checkTargets_0 : decode cX5_checkTargets 0 = .ok (.iconst 0, 1) := xdc ddX5_checkTargets_0 0 rfl
theorem dX5_checkTargets_1 : decode cX5_checkTargets 1 = .ok (.istore_n 1, 1) := xdc ddX5_checkTargets_0 1 rfl
theorem dX5_checkTargets_2 : decode cX5_checkTargets 2 = .ok (.iload_n 1, 1) := xdc ddX5_checkTargets_0 2 rfl
theorem dX5_checkTargets_3 : decode cX5_checkTargets 3 = .ok (.sipush 2048, 3) := xdc ddX5_checkTargets_0 3 rfl
theorem dX5_checkTargets_6 : decode cX5_checkTargets 6 = .ok (.if_icmp .ge 57, 3) := xdc ddX5_checkTargets_0 4 rfl
theorem dX5_checkTargets_9 : decode cX5_checkTargets 9 = .ok (.aload_n 0, 1) := xdc ddX5_checkTargets_0 5 rfl
theorem dX5_checkTargets_10 : decode cX5_checkTargets 10 = .ok (.getfield 49, 3) := xdc ddX5_checkTargets_0 6 rfl
theorem dX5_checkTargets_13 : decode cX5_checkTargets 13 = .ok (.ifCond .ne 50, 3) := xdc ddX5_checkTargets_0 7 rfl
theorem dX5_checkTargets_16 : decode cX5_checkTargets 16 = .ok (.aload_n 0, 1) := xdc ddX5_checkTargets_0 8 rfl
theorem dX5_checkTargets_17 : decode cX5_checkTargets 17 = .ok (.getfield 26, 3) := xdc ddX5_checkTargets_0 9 rfl
theorem dX5_checkTargets_20 : decode cX5_checkTargets 20 = .ok (.iload_n 1, 1) := xdc ddX5_checkTargets_0 10 rfl
theorem dX5_checkTargets_21 : decode cX5_checkTargets 21 = .ok (.iaload, 1) := xdc ddX5_checkTargets_0 11 rfl
theorem dX5_checkTargets_22 : decode cX5_checkTargets 22 = .ok (.ifCond .eq 35, 3) := xdc ddX5_checkTargets_0 12 rfl
theorem dX5_checkTargets_25 : decode cX5_checkTargets 25 = .ok (.aload_n 0, 1) := xdc ddX5_checkTargets_0 13 rfl
theorem dX5_checkTargets_26 : decode cX5_checkTargets 26 = .ok (.iload_n 1, 1) := xdc ddX5_checkTargets_0 14 rfl
theorem dX5_checkTargets_27 : decode cX5_checkTargets 27 = .ok (.sipush 256, 3) := xdc ddX5_checkTargets_0 15 rfl
theorem dX5_checkTargets_30 : decode cX5_checkTargets 30 = .ok (.invokevirtual 161, 3) := xdc ddX5_checkTargets_0 16 rfl
theorem dX5_checkTargets_33 : decode cX5_checkTargets 33 = .ok (.ifCond .eq 24, 3) := xdc ddX5_checkTargets_0 17 rfl
theorem dX5_checkTargets_36 : decode cX5_checkTargets 36 = .ok (.aload_n 0, 1) := xdc ddX5_checkTargets_0 18 rfl
theorem dX5_checkTargets_37 : decode cX5_checkTargets 37 = .ok (.aload_n 0, 1) := xdc ddX5_checkTargets_0 19 rfl
theorem dX5_checkTargets_38 : decode cX5_checkTargets 38 = .ok (.getfield 23, 3) := xdc ddX5_checkTargets_0 20 rfl
theorem dX5_checkTargets_41 : decode cX5_checkTargets 41 = .ok (.iload_n 1, 1) := xdc ddX5_checkTargets_0 21 rfl
theorem dX5_checkTargets_42 : decode cX5_checkTargets 42 = .ok (.iaload, 1) := xdc ddX5_checkTargets_0 22 rfl
theorem dX5_checkTargets_43 : decode cX5_checkTargets 43 = .ok (.invokevirtual 186, 3) := xdc ddX5_checkTargets_0 23 rfl
theorem dX5_checkTargets_46 : decode cX5_checkTargets 46 = .ok (.ifCond .ne 11, 3) := xdc ddX5_checkTargets_0 24 rfl
theorem dX5_checkTargets_49 : decode cX5_checkTargets 49 = .ok (.aload_n 0, 1) := xdc ddX5_checkTargets_0 25 rfl
theorem dX5_checkTargets_50 : decode cX5_checkTargets 50 = .ok (.bipush 7, 2) := xdc ddX5_checkTargets_0 26 rfl
theorem dX5_checkTargets_52 : decode cX5_checkTargets 52 = .ok (.iload_n 1, 1) := xdc ddX5_checkTargets_0 27 rfl
theorem dX5_checkTargets_53 : decode cX5_checkTargets 53 = .ok (.invokevirtual 138, 3) := xdc ddX5_checkTargets_0 28 rfl
theorem dX5_checkTargets_56 : decode cX5_checkTargets 56 = .ok (.pop, 1) := xdc ddX5_checkTargets_0 29 rfl
theorem dX5_checkTargets_57 : decode cX5_checkTargets 57 = .ok (.iinc 1 1, 3) := xdc ddX5_checkTargets_0 30 rfl
theorem dX5_checkTargets_60 : decode cX5_checkTargets 60 = .ok (.goto (-58), 3) := xdc ddX5_checkTargets_0 31 rfl
theorem dX5_checkTargets_63 : decode cX5_checkTargets 63 = .ok (.return_, 1) := xdc ddX5_checkTargets_0 32 rfl
abbrev cX5_checkEnd : ByteArray := prog_7_method_22_code
theorem ddX5_checkEnd_0 : xdec cX5_checkEnd [(0, (.iload_n 1, 1)), (1, (.istore_n 2, 1)), (2, (.iload_n 1, 1)), (3, (.istore_n 3, 1)), (4, (.iload_n 3, 1)), (5, (.aload_n 0, 1)), (6, (.getfield 33, 3)), (9, (.getfield 135, 3)), (12, (.if_icmp .ge 19, 3)), (15, (.aload_n 0, 1)), (16, (.iload_n 3, 1)), (17, (.invokevirtual 193, 3)), (20, (.ifCond .eq 5, 3)), (23, (.iload_n 3, 1)), (24, (.istore_n 2, 1)), (25, (.iinc 3 1, 3)), (28, (.goto (-24), 3)), (31, (.aload_n 0, 1)), (32, (.getfield 49, 3)), (35, (.ifCond .ne 22, 3)), (38, (.aload_n 0, 1)), (39, (.iload_n 2, 1)), (40, (.sipush 512, 3)), (43, (.invokevirtual 161, 3)), (46, (.ifCond .ne 11, 3)), (49, (.aload_n 0, 1)), (50, (.bipush 8, 2)), (52, (.iload_n 1, 1)), (53, (.invokevirtual 138, 3)), (56, (.pop, 1)), (57, (.return_, 1))] = true := by decide +kernel
theorem dX5_checkEnd_0 : decode cX5_checkEnd 0 = .ok (.iload_n 1, 1) := xdc ddX5_checkEnd_0 0 rfl
theorem dX5_checkEnd_1 : decode cX5_checkEnd 1 = .ok (.istore_n 2, 1) := xdc ddX5_checkEnd_0 1 rfl
theorem dX5_checkEnd_2 : decode cX5_checkEnd 2 = .ok (.iload_n 1, 1) := xdc ddX5_checkEnd_0 2 rfl
theorem dX5_checkEnd_3 : decode cX5_checkEnd 3 = .ok (.istore_n 3, 1) := xdc ddX5_checkEnd_0 3 rfl
theorem dX5_checkEnd_4 : decode cX5_checkEnd 4 = .ok (.iload_n 3, 1) := xdc ddX5_checkEnd_0 4 rfl
theorem dX5_checkEnd_5 : decode cX5_checkEnd 5 = .ok (.aload_n 0, 1) := xdc ddX5_checkEnd_0 5 rfl
theorem dX5_checkEnd_6 : decode cX5_checkEnd 6 = .ok (.getfield 33, 3) := xdc ddX5_checkEnd_0 6 rfl
theorem dX5_checkEnd_9 : decode cX5_checkEnd 9 = .ok (.getfield 135, 3) := xdc ddX5_checkEnd_0 7 rfl
theorem dX5_checkEnd_12 : decode cX5_checkEnd 12 = .ok (.if_icmp .ge 19, 3) := xdc ddX5_checkEnd_0 8 rfl
theorem dX5_checkEnd_15 : decode cX5_checkEnd 15 = .ok (.aload_n 0, 1) := xdc ddX5_checkEnd_0 9 rfl
theorem dX5_checkEnd_16 : decode cX5_checkEnd 16 = .ok (.iload_n 3, 1) := xdc ddX5_checkEnd_0 10 rfl
theorem dX5_checkEnd_17 : decode cX5_checkEnd 17 = .ok (.invokevirtual 193, 3) := xdc ddX5_checkEnd_0 11 rfl
theorem dX5_checkEnd_20 : decode cX5_checkEnd 20 = .ok (.ifCond .eq 5, 3) := xdc ddX5_checkEnd_0 12 rfl
theorem dX5_checkEnd_23 : decode cX5_checkEnd 23 = .ok (.iload_n 3, 1) := xdc ddX5_checkEnd_0 13 rfl
theorem dX5_checkEnd_24 : decode cX5_checkEnd 24 = .ok (.istore_n 2, 1) := xdc ddX5_checkEnd_0 14 rfl
theorem dX5_checkEnd_25 : decode cX5_checkEnd 25 = .ok (.iinc 3 1, 3) := xdc ddX5_checkEnd_0 15 rfl
theorem dX5_checkEnd_28 : decode cX5_checkEnd 28 = .ok (.goto (-24), 3) := xdc ddX5_checkEnd_0 16 rfl
theorem dX5_checkEnd_31 : decode cX5_checkEnd 31 = .ok (.aload_n 0, 1) := xdc ddX5_checkEnd_0 17 rfl
theorem dX5_checkEnd_32 : decode cX5_checkEnd 32 = .ok (.getfield 49, 3) := xdc ddX5_checkEnd_0 18 rfl
theorem dX5_checkEnd_35 : decode cX5_checkEnd 35 = .ok (.ifCond .ne 22, 3) := xdc ddX5_checkEnd_0 19 rfl
theorem dX5_checkEnd_38 : decode cX5_checkEnd 38 = .ok (.aload_n 0, 1) := xdc ddX5_checkEnd_0 20 rfl
theorem dX5_checkEnd_39 : decode cX5_checkEnd 39 = .ok (.iload_n 2, 1) := xdc ddX5_checkEnd_0 21 rfl
theorem dX5_checkEnd_40 : decode cX5_checkEnd 40 = .ok (.sipush 512, 3) := xdc ddX5_checkEnd_0 22 rfl
theorem dX5_checkEnd_43 : decode cX5_checkEnd 43 = .ok (.invokevirtual 161, 3) := xdc ddX5_checkEnd_0 23 rfl
theorem dX5_checkEnd_46 : decode cX5_checkEnd 46 = .ok (.ifCond .ne 11, 3) := xdc ddX5_checkEnd_0 24 rfl
theorem dX5_checkEnd_49 : decode cX5_checkEnd 49 = .ok (.aload_n 0, 1) := xdc ddX5_checkEnd_0 25 rfl
theorem dX5_checkEnd_50 : decode cX5_checkEnd 50 = .ok (.bipush 8, 2) := xdc ddX5_checkEnd_0 26 rfl
theorem dX5_checkEnd_52 : decode cX5_checkEnd 52 = .ok (.iload_n 1, 1) := xdc ddX5_checkEnd_0 27 rfl
theorem dX5_checkEnd_53 : decode cX5_checkEnd 53 = .ok (.invokevirtual 138, 3) := xdc ddX5_checkEnd_0 28 rfl
theorem dX5_checkEnd_56 : decode cX5_checkEnd 56 = .ok (.pop, 1) := xdc ddX5_checkEnd_0 29 rfl
theorem dX5_checkEnd_57 : decode cX5_checkEnd 57 = .ok (.return_, 1) := xdc ddX5_checkEnd_0 30 rfl
abbrev cX5_inspect : ByteArray := prog_7_method_4_code
theorem ddX5_inspect_0 : xdec cX5_inspect [(0, (.aload_n 0, 1)), (1, (.invokevirtual 52, 3)), (4, (.aload_n 0, 1)), (5, (.iconst 0, 1)), (6, (.putfield 55, 3)), (9, (.iconst 0, 1)), (10, (.istore_n 1, 1)), (11, (.iload_n 1, 1)), (12, (.sipush 2048, 3)), (15, (.if_icmp .ge 99, 3)), (18, (.aload_n 0, 1)), (19, (.getfield 26, 3)), (22, (.iload_n 1, 1)), (23, (.iconst 0, 1)), (24, (.iastore, 1)), (25, (.aload_n 0, 1)), (26, (.getfield 13, 3)), (29, (.iload_n 1, 1)), (30, (.aload_n 0, 1)), (31, (.getfield 37, 3)), (34, (.iload_n 1, 1)), (35, (.invokevirtual 58, 3)), (38, (.iastore, 1)), (39, (.aload_n 0, 1)), (40, (.getfield 17, 3)), (43, (.iload_n 1, 1)), (44, (.aload_n 0, 1)), (45, (.getfield 13, 3)), (48, (.iload_n 1, 1)), (49, (.iaload, 1)), (50, (.ifCond .ne 7, 3)), (53, (.iconst 0, 1)), (54, (.goto 7, 3)), (57, (.aload_n 0, 1)), (58, (.invokevirtual 64, 3)), (61, (.iastore, 1)), (62, (.aload_n 0, 1)), (63, (.getfield 20, 3)), (66, (.iload_n 1, 1)), (67, (.aload_n 0, 1))] = true := by decide +kernel
theorem dX5_inspect_0 : decode cX5_inspect 0 = .ok (.aload_n 0, 1) := xdc ddX5_inspect_0 0 rfl
theorem dX5_inspect_1 : decode cX5_inspect 1 = .ok (.invokevirtual 52, 3) := xdc ddX5_inspect_0 1 rfl
theorem dX5_inspect_4 : decode cX5_inspect 4 = .ok (.aload_n 0, 1) := xdc ddX5_inspect_0 2 rfl
theorem dX5_inspect_5 : decode cX5_inspect 5 = .ok (.iconst 0, 1) := xdc ddX5_inspect_0 3 rfl
theorem dX5_inspect_6 : decode cX5_inspect 6 = .ok (.putfield 55, 3) := xdc ddX5_inspect_0 4 rfl
theorem dX5_inspect_9 : decode cX5_inspect 9 = .ok (.iconst 0, 1) := xdc ddX5_inspect_0 5 rfl
theorem dX5_inspect_10 : decode cX5_inspect 10 = .ok (.istore_n 1, 1) := xdc ddX5_inspect_0 6 rfl
theorem dX5_inspect_11 : decode cX5_inspect 11 = .ok (.iload_n 1, 1) := xdc ddX5_inspect_0 7 rfl
theorem dX5_inspect_12 : decode cX5_inspect 12 = .ok (.sipush 2048, 3) := xdc ddX5_inspect_0 8 rfl
theorem dX5_inspect_15 : decode cX5_inspect 15 = .ok (.if_icmp .ge 99, 3) := xdc ddX5_inspect_0 9 rfl
theorem dX5_inspect_18 : decode cX5_inspect 18 = .ok (.aload_n 0, 1) := xdc ddX5_inspect_0 10 rfl
theorem dX5_inspect_19 : decode cX5_inspect 19 = .ok (.getfield 26, 3) := xdc ddX5_inspect_0 11 rfl
theorem dX5_inspect_22 : decode cX5_inspect 22 = .ok (.iload_n 1, 1) := xdc ddX5_inspect_0 12 rfl
theorem dX5_inspect_23 : decode cX5_inspect 23 = .ok (.iconst 0, 1) := xdc ddX5_inspect_0 13 rfl
theorem dX5_inspect_24 : decode cX5_inspect 24 = .ok (.iastore, 1) := xdc ddX5_inspect_0 14 rfl
theorem dX5_inspect_25 : decode cX5_inspect 25 = .ok (.aload_n 0, 1) := xdc ddX5_inspect_0 15 rfl
theorem dX5_inspect_26 : decode cX5_inspect 26 = .ok (.getfield 13, 3) := xdc ddX5_inspect_0 16 rfl
theorem dX5_inspect_29 : decode cX5_inspect 29 = .ok (.iload_n 1, 1) := xdc ddX5_inspect_0 17 rfl
theorem dX5_inspect_30 : decode cX5_inspect 30 = .ok (.aload_n 0, 1) := xdc ddX5_inspect_0 18 rfl
theorem dX5_inspect_31 : decode cX5_inspect 31 = .ok (.getfield 37, 3) := xdc ddX5_inspect_0 19 rfl
theorem dX5_inspect_34 : decode cX5_inspect 34 = .ok (.iload_n 1, 1) := xdc ddX5_inspect_0 20 rfl
theorem dX5_inspect_35 : decode cX5_inspect 35 = .ok (.invokevirtual 58, 3) := xdc ddX5_inspect_0 21 rfl
theorem dX5_inspect_38 : decode cX5_inspect 38 = .ok (.iastore, 1) := xdc ddX5_inspect_0 22 rfl
theorem dX5_inspect_39 : decode cX5_inspect 39 = .ok (.aload_n 0, 1) := xdc ddX5_inspect_0 23 rfl
theorem dX5_inspect_40 : decode cX5_inspect 40 = .ok (.getfield 17, 3) := xdc ddX5_inspect_0 24 rfl
theorem dX5_inspect_43 : decode cX5_inspect 43 = .ok (.iload_n 1, 1) := xdc ddX5_inspect_0 25 rfl
theorem dX5_inspect_44 : decode cX5_inspect 44 = .ok (.aload_n 0, 1) := xdc ddX5_inspect_0 26 rfl
theorem dX5_inspect_45 : decode cX5_inspect 45 = .ok (.getfield 13, 3) := xdc ddX5_inspect_0 27 rfl
theorem dX5_inspect_48 : decode cX5_inspect 48 = .ok (.iload_n 1, 1) := xdc ddX5_inspect_0 28 rfl
theorem dX5_inspect_49 : decode cX5_inspect 49 = .ok (.iaload, 1) := xdc ddX5_inspect_0 29 rfl
theorem dX5_inspect_50 : decode cX5_inspect 50 = .ok (.ifCond .ne 7, 3) := xdc ddX5_inspect_0 30 rfl
theorem dX5_inspect_53 : decode cX5_inspect 53 = .ok (.iconst 0, 1) := xdc ddX5_inspect_0 31 rfl
theorem dX5_inspect_54 : decode cX5_inspect 54 = .ok (.goto 7, 3) := xdc ddX5_inspect_0 32 rfl
theorem dX5_inspect_57 : decode cX5_inspect 57 = .ok (.aload_n 0, 1) := xdc ddX5_inspect_0 33 rfl
theorem dX5_inspect_58 : decode cX5_inspect 58 = .ok (.invokevirtual 64, 3) := xdc ddX5_inspect_0 34 rfl
theorem dX5_inspect_61 : decode cX5_inspect 61 = .ok (.iastore, 1) := xdc ddX5_inspect_0 35 rfl
theorem dX5_inspect_62 : decode cX5_inspect 62 = .ok (.aload_n 0, 1) := xdc ddX5_inspect_0 36 rfl
theorem dX5_inspect_63 : decode cX5_inspect 63 = .ok (.getfield 20, 3) := xdc ddX5_inspect_0 37 rfl
theorem dX5_inspect_66 : decode cX5_inspect 66 = .ok (.iload_n 1, 1) := xdc ddX5_inspect_0 38 rfl
theorem dX5_inspect_67 : decode cX5_inspect 67 = .ok (.aload_n 0, 1) := xdc ddX5_inspect_0 39 rfl
theorem ddX5_inspect_1 : xdec cX5_inspect [(68, (.getfield 41, 3)), (71, (.getfield 68, 3)), (74, (.ifCond .eq 13, 3)), (77, (.aload_n 0, 1)), (78, (.getfield 41, 3)), (81, (.getfield 73, 3)), (84, (.goto 10, 3)), (87, (.aload_n 0, 1)), (88, (.getfield 41, 3)), (91, (.getfield 76, 3)), (94, (.iastore, 1)), (95, (.aload_n 0, 1)), (96, (.getfield 23, 3)), (99, (.iload_n 1, 1)), (100, (.aload_n 0, 1)), (101, (.getfield 41, 3)), (104, (.getfield 79, 3)), (107, (.iastore, 1)), (108, (.iinc 1 1, 3)), (111, (.goto (-100), 3)), (114, (.aload_n 0, 1)), (115, (.invokevirtual 82, 3)), (118, (.istore_n 1, 1)), (119, (.aload_n 0, 1)), (120, (.invokevirtual 85, 3)), (123, (.aload_n 0, 1)), (124, (.iload_n 1, 1)), (125, (.invokevirtual 88, 3)), (128, (.aload_n 0, 1)), (129, (.aload_n 0, 1)), (130, (.getfield 49, 3)), (133, (.ifCond .ne 7, 3)), (136, (.iconst 1, 1)), (137, (.goto 4, 3)), (140, (.iconst 0, 1)), (141, (.putfield 45, 3)), (144, (.aload_n 0, 1)), (145, (.getfield 45, 3)), (148, (.ifCond .eq 10, 3)), (151, (.aload_n 0, 1))] = true := by decide +kernel
theorem dX5_inspect_68 : decode cX5_inspect 68 = .ok (.getfield 41, 3) := xdc ddX5_inspect_1 0 rfl
theorem dX5_inspect_71 : decode cX5_inspect 71 = .ok (.getfield 68, 3) := xdc ddX5_inspect_1 1 rfl
theorem dX5_inspect_74 : decode cX5_inspect 74 = .ok (.ifCond .eq 13, 3) := xdc ddX5_inspect_1 2 rfl
theorem dX5_inspect_77 : decode cX5_inspect 77 = .ok (.aload_n 0, 1) := xdc ddX5_inspect_1 3 rfl
theorem dX5_inspect_78 : decode cX5_inspect 78 = .ok (.getfield 41, 3) := xdc ddX5_inspect_1 4 rfl
theorem dX5_inspect_81 : decode cX5_inspect 81 = .ok (.getfield 73, 3) := xdc ddX5_inspect_1 5 rfl
theorem dX5_inspect_84 : decode cX5_inspect 84 = .ok (.goto 10, 3) := xdc ddX5_inspect_1 6 rfl
theorem dX5_inspect_87 : decode cX5_inspect 87 = .ok (.aload_n 0, 1) := xdc ddX5_inspect_1 7 rfl
theorem dX5_inspect_88 : decode cX5_inspect 88 = .ok (.getfield 41, 3) := xdc ddX5_inspect_1 8 rfl
theorem dX5_inspect_91 : decode cX5_inspect 91 = .ok (.getfield 76, 3) := xdc ddX5_inspect_1 9 rfl
theorem dX5_inspect_94 : decode cX5_inspect 94 = .ok (.iastore, 1) := xdc ddX5_inspect_1 10 rfl
theorem dX5_inspect_95 : decode cX5_inspect 95 = .ok (.aload_n 0, 1) := xdc ddX5_inspect_1 11 rfl
theorem dX5_inspect_96 : decode cX5_inspect 96 = .ok (.getfield 23, 3) := xdc ddX5_inspect_1 12 rfl
theorem dX5_inspect_99 : decode cX5_inspect 99 = .ok (.iload_n 1, 1) := xdc ddX5_inspect_1 13 rfl
theorem dX5_inspect_100 : decode cX5_inspect 100 = .ok (.aload_n 0, 1) := xdc ddX5_inspect_1 14 rfl
theorem dX5_inspect_101 : decode cX5_inspect 101 = .ok (.getfield 41, 3) := xdc ddX5_inspect_1 15 rfl
theorem dX5_inspect_104 : decode cX5_inspect 104 = .ok (.getfield 79, 3) := xdc ddX5_inspect_1 16 rfl
theorem dX5_inspect_107 : decode cX5_inspect 107 = .ok (.iastore, 1) := xdc ddX5_inspect_1 17 rfl
theorem dX5_inspect_108 : decode cX5_inspect 108 = .ok (.iinc 1 1, 3) := xdc ddX5_inspect_1 18 rfl
theorem dX5_inspect_111 : decode cX5_inspect 111 = .ok (.goto (-100), 3) := xdc ddX5_inspect_1 19 rfl
theorem dX5_inspect_114 : decode cX5_inspect 114 = .ok (.aload_n 0, 1) := xdc ddX5_inspect_1 20 rfl
theorem dX5_inspect_115 : decode cX5_inspect 115 = .ok (.invokevirtual 82, 3) := xdc ddX5_inspect_1 21 rfl
theorem dX5_inspect_118 : decode cX5_inspect 118 = .ok (.istore_n 1, 1) := xdc ddX5_inspect_1 22 rfl
theorem dX5_inspect_119 : decode cX5_inspect 119 = .ok (.aload_n 0, 1) := xdc ddX5_inspect_1 23 rfl
theorem dX5_inspect_120 : decode cX5_inspect 120 = .ok (.invokevirtual 85, 3) := xdc ddX5_inspect_1 24 rfl
theorem dX5_inspect_123 : decode cX5_inspect 123 = .ok (.aload_n 0, 1) := xdc ddX5_inspect_1 25 rfl
theorem dX5_inspect_124 : decode cX5_inspect 124 = .ok (.iload_n 1, 1) := xdc ddX5_inspect_1 26 rfl
theorem dX5_inspect_125 : decode cX5_inspect 125 = .ok (.invokevirtual 88, 3) := xdc ddX5_inspect_1 27 rfl
theorem dX5_inspect_128 : decode cX5_inspect 128 = .ok (.aload_n 0, 1) := xdc ddX5_inspect_1 28 rfl
theorem dX5_inspect_129 : decode cX5_inspect 129 = .ok (.aload_n 0, 1) := xdc ddX5_inspect_1 29 rfl
theorem dX5_inspect_130 : decode cX5_inspect 130 = .ok (.getfield 49, 3) := xdc ddX5_inspect_1 30 rfl
theorem dX5_inspect_133 : decode cX5_inspect 133 = .ok (.ifCond .ne 7, 3) := xdc ddX5_inspect_1 31 rfl
theorem dX5_inspect_136 : decode cX5_inspect 136 = .ok (.iconst 1, 1) := xdc ddX5_inspect_1 32 rfl
theorem dX5_inspect_137 : decode cX5_inspect 137 = .ok (.goto 4, 3) := xdc ddX5_inspect_1 33 rfl
theorem dX5_inspect_140 : decode cX5_inspect 140 = .ok (.iconst 0, 1) := xdc ddX5_inspect_1 34 rfl
theorem dX5_inspect_141 : decode cX5_inspect 141 = .ok (.putfield 45, 3) := xdc ddX5_inspect_1 35 rfl
theorem dX5_inspect_144 : decode cX5_inspect 144 = .ok (.aload_n 0, 1) := xdc ddX5_inspect_1 36 rfl
theorem dX5_inspect_145 : decode cX5_inspect 145 = .ok (.getfield 45, 3) := xdc ddX5_inspect_1 37 rfl
theorem dX5_inspect_148 : decode cX5_inspect 148 = .ok (.ifCond .eq 10, 3) := xdc ddX5_inspect_1 38 rfl
theorem dX5_inspect_151 : decode cX5_inspect 151 = .ok (.aload_n 0, 1) := xdc ddX5_inspect_1 39 rfl
theorem ddX5_inspect_2 : xdec cX5_inspect [(152, (.getfield 55, 3)), (155, (.goto 4, 3)), (158, (.iconst (-1), 1)), (159, (.ireturn, 1))] = true := by decide +kernel
theorem dX5_inspect_152 : decode cX5_inspect 152 = .ok (.getfield 55, 3) := xdc ddX5_inspect_2 0 rfl
theorem dX5_inspect_155 : decode cX5_inspect 155 = .ok (.goto 4, 3) := xdc ddX5_inspect_2 1 rfl
theorem dX5_inspect_158 : decode cX5_inspect 158 = .ok (.iconst (-1), 1) := xdc ddX5_inspect_2 2 rfl
theorem dX5_inspect_159 : decode cX5_inspect 159 = .ok (.ireturn, 1) := xdc ddX5_inspect_2 3 rfl
abbrev cX5_permits : ByteArray := prog_7_method_23_code
theorem ddX5_permits_0 : xdec cX5_permits [(0, (.aload_n 0, 1)), (1, (.getfield 45, 3)), (4, (.ifCond .eq 11, 3)), (7, (.aload_n 0, 1)), (8, (.iload_n 1, 1)), (9, (.invokevirtual 193, 3)), (12, (.ifCond .eq 7, 3)), (15, (.iconst 1, 1)), (16, (.goto 4, 3)), (19, (.iconst 0, 1)), (20, (.ireturn, 1))] = true := by decide +kernel
theorem dX5_permits_0 : decode cX5_permits 0 = .ok (.aload_n 0, 1) := xdc ddX5_permits_0 0 rfl
theorem dX5_permits_1 : decode cX5_permits 1 = .ok (.getfield 45, 3) := xdc ddX5_permits_0 1 rfl
theorem dX5_permits_4 : decode cX5_permits 4 = .ok (.ifCond .eq 11, 3) := xdc ddX5_permits_0 2 rfl
theorem dX5_permits_7 : decode cX5_permits 7 = .ok (.aload_n 0, 1) := xdc ddX5_permits_0 3 rfl
theorem dX5_permits_8 : decode cX5_permits 8 = .ok (.iload_n 1, 1) := xdc ddX5_permits_0 4 rfl
theorem dX5_permits_9 : decode cX5_permits 9 = .ok (.invokevirtual 193, 3) := xdc ddX5_permits_0 5 rfl
theorem dX5_permits_12 : decode cX5_permits 12 = .ok (.ifCond .eq 7, 3) := xdc ddX5_permits_0 6 rfl
theorem dX5_permits_15 : decode cX5_permits 15 = .ok (.iconst 1, 1) := xdc ddX5_permits_0 7 rfl
theorem dX5_permits_16 : decode cX5_permits 16 = .ok (.goto 4, 3) := xdc ddX5_permits_0 8 rfl
theorem dX5_permits_19 : decode cX5_permits 19 = .ok (.iconst 0, 1) := xdc ddX5_permits_0 9 rfl
theorem dX5_permits_20 : decode cX5_permits 20 = .ok (.ireturn, 1) := xdc ddX5_permits_0 10 rfl
abbrev cX7_restart : ByteArray := prog_9_method_2_code
theorem ddX7_restart_0 : xdec cX7_restart [(0, (.iconst 0, 1)), (1, (.istore_n 1, 1)), (2, (.iload_n 1, 1)), (3, (.bipush 8, 2)), (5, (.if_icmp .ge 16, 3)), (8, (.aload_n 0, 1)), (9, (.getfield 18, 3)), (12, (.iload_n 1, 1)), (13, (.iconst 0, 1)), (14, (.iastore, 1)), (15, (.iinc 1 1, 3)), (18, (.goto (-16), 3)), (21, (.aload_n 0, 1)), (22, (.getfield 18, 3)), (25, (.iconst 4, 1)), (26, (.ldc 53, 2)), (28, (.iastore, 1)), (29, (.aload_n 0, 1)), (30, (.sipush 4096, 3)), (33, (.putfield 54, 3)), (36, (.aload_n 0, 1)), (37, (.getfield 12, 3)), (40, (.iconst 0, 1)), (41, (.putfield 58, 3)), (44, (.aload_n 0, 1)), (45, (.iconst 0, 1)), (46, (.putfield 61, 3)), (49, (.aload_n 0, 1)), (50, (.lconst 0, 1)), (51, (.putfield 64, 3)), (54, (.iconst 0, 1)), (55, (.istore_n 1, 1)), (56, (.iload_n 1, 1)), (57, (.sipush 2048, 3)), (60, (.if_icmp .ge 16, 3)), (63, (.aload_n 0, 1)), (64, (.getfield 24, 3)), (67, (.iload_n 1, 1)), (68, (.iconst 0, 1)), (69, (.iastore, 1))] = true := by decide +kernel
theorem dX7_restart_0 : decode cX7_restart 0 = .ok (.iconst 0, 1) := xdc ddX7_restart_0 0 rfl
theorem dX7_restart_1 : decode cX7_restart 1 = .ok (.istore_n 1, 1) := xdc ddX7_restart_0 1 rfl
theorem dX7_restart_2 : decode cX7_restart 2 = .ok (.iload_n 1, 1) := xdc ddX7_restart_0 2 rfl
theorem dX7_restart_3 : decode cX7_restart 3 = .ok (.bipush 8, 2) := xdc ddX7_restart_0 3 rfl
theorem dX7_restart_5 : decode cX7_restart 5 = .ok (.if_icmp .ge 16, 3) := xdc ddX7_restart_0 4 rfl
theorem dX7_restart_8 : decode cX7_restart 8 = .ok (.aload_n 0, 1) := xdc ddX7_restart_0 5 rfl
theorem dX7_restart_9 : decode cX7_restart 9 = .ok (.getfield 18, 3) := xdc ddX7_restart_0 6 rfl
theorem dX7_restart_12 : decode cX7_restart 12 = .ok (.iload_n 1, 1) := xdc ddX7_restart_0 7 rfl
theorem dX7_restart_13 : decode cX7_restart 13 = .ok (.iconst 0, 1) := xdc ddX7_restart_0 8 rfl
theorem dX7_restart_14 : decode cX7_restart 14 = .ok (.iastore, 1) := xdc ddX7_restart_0 9 rfl
theorem dX7_restart_15 : decode cX7_restart 15 = .ok (.iinc 1 1, 3) := xdc ddX7_restart_0 10 rfl
theorem dX7_restart_18 : decode cX7_restart 18 = .ok (.goto (-16), 3) := xdc ddX7_restart_0 11 rfl
theorem dX7_restart_21 : decode cX7_restart 21 = .ok (.aload_n 0, 1) := xdc ddX7_restart_0 12 rfl
theorem dX7_restart_22 : decode cX7_restart 22 = .ok (.getfield 18, 3) := xdc ddX7_restart_0 13 rfl
theorem dX7_restart_25 : decode cX7_restart 25 = .ok (.iconst 4, 1) := xdc ddX7_restart_0 14 rfl
theorem dX7_restart_26 : decode cX7_restart 26 = .ok (.ldc 53, 2) := xdc ddX7_restart_0 15 rfl
theorem dX7_restart_28 : decode cX7_restart 28 = .ok (.iastore, 1) := xdc ddX7_restart_0 16 rfl
theorem dX7_restart_29 : decode cX7_restart 29 = .ok (.aload_n 0, 1) := xdc ddX7_restart_0 17 rfl
theorem dX7_restart_30 : decode cX7_restart 30 = .ok (.sipush 4096, 3) := xdc ddX7_restart_0 18 rfl
theorem dX7_restart_33 : decode cX7_restart 33 = .ok (.putfield 54, 3) := xdc ddX7_restart_0 19 rfl
theorem dX7_restart_36 : decode cX7_restart 36 = .ok (.aload_n 0, 1) := xdc ddX7_restart_0 20 rfl
theorem dX7_restart_37 : decode cX7_restart 37 = .ok (.getfield 12, 3) := xdc ddX7_restart_0 21 rfl
theorem dX7_restart_40 : decode cX7_restart 40 = .ok (.iconst 0, 1) := xdc ddX7_restart_0 22 rfl
theorem dX7_restart_41 : decode cX7_restart 41 = .ok (.putfield 58, 3) := xdc ddX7_restart_0 23 rfl
theorem dX7_restart_44 : decode cX7_restart 44 = .ok (.aload_n 0, 1) := xdc ddX7_restart_0 24 rfl
theorem dX7_restart_45 : decode cX7_restart 45 = .ok (.iconst 0, 1) := xdc ddX7_restart_0 25 rfl
theorem dX7_restart_46 : decode cX7_restart 46 = .ok (.putfield 61, 3) := xdc ddX7_restart_0 26 rfl
theorem dX7_restart_49 : decode cX7_restart 49 = .ok (.aload_n 0, 1) := xdc ddX7_restart_0 27 rfl
theorem dX7_restart_50 : decode cX7_restart 50 = .ok (.lconst 0, 1) := xdc ddX7_restart_0 28 rfl
theorem dX7_restart_51 : decode cX7_restart 51 = .ok (.putfield 64, 3) := xdc ddX7_restart_0 29 rfl
theorem dX7_restart_54 : decode cX7_restart 54 = .ok (.iconst 0, 1) := xdc ddX7_restart_0 30 rfl
theorem dX7_restart_55 : decode cX7_restart 55 = .ok (.istore_n 1, 1) := xdc ddX7_restart_0 31 rfl
theorem dX7_restart_56 : decode cX7_restart 56 = .ok (.iload_n 1, 1) := xdc ddX7_restart_0 32 rfl
theorem dX7_restart_57 : decode cX7_restart 57 = .ok (.sipush 2048, 3) := xdc ddX7_restart_0 33 rfl
theorem dX7_restart_60 : decode cX7_restart 60 = .ok (.if_icmp .ge 16, 3) := xdc ddX7_restart_0 34 rfl
theorem dX7_restart_63 : decode cX7_restart 63 = .ok (.aload_n 0, 1) := xdc ddX7_restart_0 35 rfl
theorem dX7_restart_64 : decode cX7_restart 64 = .ok (.getfield 24, 3) := xdc ddX7_restart_0 36 rfl
theorem dX7_restart_67 : decode cX7_restart 67 = .ok (.iload_n 1, 1) := xdc ddX7_restart_0 37 rfl
theorem dX7_restart_68 : decode cX7_restart 68 = .ok (.iconst 0, 1) := xdc ddX7_restart_0 38 rfl
theorem dX7_restart_69 : decode cX7_restart 69 = .ok (.iastore, 1) := xdc ddX7_restart_0 39 rfl
theorem ddX7_restart_1 : xdec cX7_restart [(70, (.iinc 1 1, 3)), (73, (.goto (-17), 3)), (76, (.return_, 1))] = true := by decide +kernel
theorem dX7_restart_70 : decode cX7_restart 70 = .ok (.iinc 1 1, 3) := xdc ddX7_restart_1 0 rfl
theorem dX7_restart_73 : decode cX7_restart 73 = .ok (.goto (-17), 3) := xdc ddX7_restart_1 1 rfl
theorem dX7_restart_76 : decode cX7_restart 76 = .ok (.return_, 1) := xdc ddX7_restart_1 2 rfl
abbrev cX7_wake : ByteArray := prog_9_method_3_code
theorem ddX7_wake_0 : xdec cX7_wake [(0, (.aload_n 0, 1)), (1, (.getfield 68, 3)), (4, (.bipush 7, 2)), (6, (.if_icmp .eq 12, 3)), (9, (.aload_n 0, 1)), (10, (.getfield 68, 3)), (13, (.bipush 8, 2)), (15, (.if_icmp .ne 8, 3)), (18, (.aload_n 0, 1)), (19, (.iconst 1, 1)), (20, (.putfield 68, 3)), (23, (.return_, 1))] = true := by decide +kernel
theorem dX7_wake_0 : decode cX7_wake 0 = .ok (.aload_n 0, 1) := xdc ddX7_wake_0 0 rfl
theorem dX7_wake_1 : decode cX7_wake 1 = .ok (.getfield 68, 3) := xdc ddX7_wake_0 1 rfl
theorem dX7_wake_4 : decode cX7_wake 4 = .ok (.bipush 7, 2) := xdc ddX7_wake_0 2 rfl
theorem dX7_wake_6 : decode cX7_wake 6 = .ok (.if_icmp .eq 12, 3) := xdc ddX7_wake_0 3 rfl
theorem dX7_wake_9 : decode cX7_wake 9 = .ok (.aload_n 0, 1) := xdc ddX7_wake_0 4 rfl
theorem dX7_wake_10 : decode cX7_wake 10 = .ok (.getfield 68, 3) := xdc ddX7_wake_0 5 rfl
theorem dX7_wake_13 : decode cX7_wake 13 = .ok (.bipush 8, 2) := xdc ddX7_wake_0 6 rfl
theorem dX7_wake_15 : decode cX7_wake 15 = .ok (.if_icmp .ne 8, 3) := xdc ddX7_wake_0 7 rfl
theorem dX7_wake_18 : decode cX7_wake 18 = .ok (.aload_n 0, 1) := xdc ddX7_wake_0 8 rfl
theorem dX7_wake_19 : decode cX7_wake 19 = .ok (.iconst 1, 1) := xdc ddX7_wake_0 9 rfl
theorem dX7_wake_20 : decode cX7_wake 20 = .ok (.putfield 68, 3) := xdc ddX7_wake_0 10 rfl
theorem dX7_wake_23 : decode cX7_wake 23 = .ok (.return_, 1) := xdc ddX7_wake_0 11 rfl
abbrev cX8_fail : ByteArray := prog_10_method_7_code
theorem ddX8_fail_0 : xdec cX8_fail [(0, (.aload_n 0, 1)), (1, (.getfield 34, 3)), (4, (.ifCond .ne 8, 3)), (7, (.aload_n 0, 1)), (8, (.iload_n 1, 1)), (9, (.putfield 34, 3)), (12, (.return_, 1))] = true := by decide +kernel
theorem dX8_fail_0 : decode cX8_fail 0 = .ok (.aload_n 0, 1) := xdc ddX8_fail_0 0 rfl
theorem dX8_fail_1 : decode cX8_fail 1 = .ok (.getfield 34, 3) := xdc ddX8_fail_0 1 rfl
theorem dX8_fail_4 : decode cX8_fail 4 = .ok (.ifCond .ne 8, 3) := xdc ddX8_fail_0 2 rfl
theorem dX8_fail_7 : decode cX8_fail 7 = .ok (.aload_n 0, 1) := xdc ddX8_fail_0 3 rfl
theorem dX8_fail_8 : decode cX8_fail 8 = .ok (.iload_n 1, 1) := xdc ddX8_fail_0 4 rfl
theorem dX8_fail_9 : decode cX8_fail 9 = .ok (.putfield 34, 3) := xdc ddX8_fail_0 5 rfl
theorem dX8_fail_12 : decode cX8_fail 12 = .ok (.return_, 1) := xdc ddX8_fail_0 6 rfl
abbrev cX8_load : ByteArray := prog_10_method_8_code
theorem ddX8_load_0 : xdec cX8_load [(0, (.iload_n 1, 1)), (1, (.iload_n 2, 1)), (2, (.i2l, 1)), (3, (.ldc 11, 2)), (5, (.ldc 22, 2)), (7, (.invokestatic 23, 3)), (10, (.istore_n 3, 1)), (11, (.iload_n 3, 1)), (12, (.ifCond .ne 33, 3)), (15, (.iload_n 1, 1)), (16, (.iload_n 2, 1)), (17, (.i2l, 1)), (18, (.sipush 4096, 3)), (21, (.sipush 4096, 3)), (24, (.aload_n 0, 1)), (25, (.getfield 16, 3)), (28, (.getfield 29, 3)), (31, (.iadd, 1)), (32, (.invokestatic 23, 3)), (35, (.ifCond .ne 10, 3)), (38, (.aload_n 0, 1)), (39, (.iconst 5, 1)), (40, (.invokevirtual 37, 3)), (43, (.iconst 0, 1)), (44, (.ireturn, 1)), (45, (.iload_n 3, 1)), (46, (.ifCond .eq 10, 3)), (49, (.aload_n 0, 1)), (50, (.getfield 12, 3)), (53, (.goto 10, 3)), (56, (.aload_n 0, 1)), (57, (.getfield 16, 3)), (60, (.getfield 41, 3)), (63, (.astore 4, 2)), (65, (.iload_n 1, 1)), (66, (.iload_n 3, 1)), (67, (.ifCond .eq 8, 3)), (70, (.ldc 11, 2)), (72, (.goto 6, 3)), (75, (.sipush 4096, 3))] = true := by decide +kernel
theorem dX8_load_0 : decode cX8_load 0 = .ok (.iload_n 1, 1) := xdc ddX8_load_0 0 rfl
theorem dX8_load_1 : decode cX8_load 1 = .ok (.iload_n 2, 1) := xdc ddX8_load_0 1 rfl
theorem dX8_load_2 : decode cX8_load 2 = .ok (.i2l, 1) := xdc ddX8_load_0 2 rfl
theorem dX8_load_3 : decode cX8_load 3 = .ok (.ldc 11, 2) := xdc ddX8_load_0 3 rfl
theorem dX8_load_5 : decode cX8_load 5 = .ok (.ldc 22, 2) := xdc ddX8_load_0 4 rfl
theorem dX8_load_7 : decode cX8_load 7 = .ok (.invokestatic 23, 3) := xdc ddX8_load_0 5 rfl
theorem dX8_load_10 : decode cX8_load 10 = .ok (.istore_n 3, 1) := xdc ddX8_load_0 6 rfl
theorem dX8_load_11 : decode cX8_load 11 = .ok (.iload_n 3, 1) := xdc ddX8_load_0 7 rfl
theorem dX8_load_12 : decode cX8_load 12 = .ok (.ifCond .ne 33, 3) := xdc ddX8_load_0 8 rfl
theorem dX8_load_15 : decode cX8_load 15 = .ok (.iload_n 1, 1) := xdc ddX8_load_0 9 rfl
theorem dX8_load_16 : decode cX8_load 16 = .ok (.iload_n 2, 1) := xdc ddX8_load_0 10 rfl
theorem dX8_load_17 : decode cX8_load 17 = .ok (.i2l, 1) := xdc ddX8_load_0 11 rfl
theorem dX8_load_18 : decode cX8_load 18 = .ok (.sipush 4096, 3) := xdc ddX8_load_0 12 rfl
theorem dX8_load_21 : decode cX8_load 21 = .ok (.sipush 4096, 3) := xdc ddX8_load_0 13 rfl
theorem dX8_load_24 : decode cX8_load 24 = .ok (.aload_n 0, 1) := xdc ddX8_load_0 14 rfl
theorem dX8_load_25 : decode cX8_load 25 = .ok (.getfield 16, 3) := xdc ddX8_load_0 15 rfl
theorem dX8_load_28 : decode cX8_load 28 = .ok (.getfield 29, 3) := xdc ddX8_load_0 16 rfl
theorem dX8_load_31 : decode cX8_load 31 = .ok (.iadd, 1) := xdc ddX8_load_0 17 rfl
theorem dX8_load_32 : decode cX8_load 32 = .ok (.invokestatic 23, 3) := xdc ddX8_load_0 18 rfl
theorem dX8_load_35 : decode cX8_load 35 = .ok (.ifCond .ne 10, 3) := xdc ddX8_load_0 19 rfl
theorem dX8_load_38 : decode cX8_load 38 = .ok (.aload_n 0, 1) := xdc ddX8_load_0 20 rfl
theorem dX8_load_39 : decode cX8_load 39 = .ok (.iconst 5, 1) := xdc ddX8_load_0 21 rfl
theorem dX8_load_40 : decode cX8_load 40 = .ok (.invokevirtual 37, 3) := xdc ddX8_load_0 22 rfl
theorem dX8_load_43 : decode cX8_load 43 = .ok (.iconst 0, 1) := xdc ddX8_load_0 23 rfl
theorem dX8_load_44 : decode cX8_load 44 = .ok (.ireturn, 1) := xdc ddX8_load_0 24 rfl
theorem dX8_load_45 : decode cX8_load 45 = .ok (.iload_n 3, 1) := xdc ddX8_load_0 25 rfl
theorem dX8_load_46 : decode cX8_load 46 = .ok (.ifCond .eq 10, 3) := xdc ddX8_load_0 26 rfl
theorem dX8_load_49 : decode cX8_load 49 = .ok (.aload_n 0, 1) := xdc ddX8_load_0 27 rfl
theorem dX8_load_50 : decode cX8_load 50 = .ok (.getfield 12, 3) := xdc ddX8_load_0 28 rfl
theorem dX8_load_53 : decode cX8_load 53 = .ok (.goto 10, 3) := xdc ddX8_load_0 29 rfl
theorem dX8_load_56 : decode cX8_load 56 = .ok (.aload_n 0, 1) := xdc ddX8_load_0 30 rfl
theorem dX8_load_57 : decode cX8_load 57 = .ok (.getfield 16, 3) := xdc ddX8_load_0 31 rfl
theorem dX8_load_60 : decode cX8_load 60 = .ok (.getfield 41, 3) := xdc ddX8_load_0 32 rfl
theorem dX8_load_63 : decode cX8_load 63 = .ok (.astore 4, 2) := xdc ddX8_load_0 33 rfl
theorem dX8_load_65 : decode cX8_load 65 = .ok (.iload_n 1, 1) := xdc ddX8_load_0 34 rfl
theorem dX8_load_66 : decode cX8_load 66 = .ok (.iload_n 3, 1) := xdc ddX8_load_0 35 rfl
theorem dX8_load_67 : decode cX8_load 67 = .ok (.ifCond .eq 8, 3) := xdc ddX8_load_0 36 rfl
theorem dX8_load_70 : decode cX8_load 70 = .ok (.ldc 11, 2) := xdc ddX8_load_0 37 rfl
theorem dX8_load_72 : decode cX8_load 72 = .ok (.goto 6, 3) := xdc ddX8_load_0 38 rfl
theorem dX8_load_75 : decode cX8_load 75 = .ok (.sipush 4096, 3) := xdc ddX8_load_0 39 rfl
theorem ddX8_load_1 : xdec cX8_load [(78, (.isub, 1)), (79, (.istore 5, 2)), (81, (.iconst 0, 1)), (82, (.istore 6, 2)), (84, (.iload 5, 2)), (86, (.iload_n 2, 1)), (87, (.iadd, 1)), (88, (.iconst 1, 1)), (89, (.isub, 1)), (90, (.istore 7, 2)), (92, (.iload 7, 2)), (94, (.iload 5, 2)), (96, (.if_icmp .lt 43, 3)), (99, (.iload 6, 2)), (101, (.bipush 8, 2)), (103, (.ishl, 1)), (104, (.iload 7, 2)), (106, (.ifCond .lt 23, 3)), (109, (.iload 7, 2)), (111, (.aload 4, 2)), (113, (.arraylength, 1)), (114, (.if_icmp .ge 15, 3)), (117, (.aload 4, 2)), (119, (.iload 7, 2)), (121, (.baload, 1)), (122, (.sipush 255, 3)), (125, (.iand, 1)), (126, (.goto 4, 3)), (129, (.iconst 0, 1)), (130, (.ior, 1)), (131, (.istore 6, 2)), (133, (.iinc 7 (-1), 3)), (136, (.goto (-44), 3)), (139, (.iload 6, 2)), (141, (.ireturn, 1))] = true := by decide +kernel
theorem dX8_load_78 : decode cX8_load 78 = .ok (.isub, 1) := xdc ddX8_load_1 0 rfl
theorem dX8_load_79 : decode cX8_load 79 = .ok (.istore 5, 2) := xdc ddX8_load_1 1 rfl
theorem dX8_load_81 : decode cX8_load 81 = .ok (.iconst 0, 1) := xdc ddX8_load_1 2 rfl
theorem dX8_load_82 : decode cX8_load 82 = .ok (.istore 6, 2) := xdc ddX8_load_1 3 rfl
theorem dX8_load_84 : decode cX8_load 84 = .ok (.iload 5, 2) := xdc ddX8_load_1 4 rfl
theorem dX8_load_86 : decode cX8_load 86 = .ok (.iload_n 2, 1) := xdc ddX8_load_1 5 rfl
theorem dX8_load_87 : decode cX8_load 87 = .ok (.iadd, 1) := xdc ddX8_load_1 6 rfl
theorem dX8_load_88 : decode cX8_load 88 = .ok (.iconst 1, 1) := xdc ddX8_load_1 7 rfl
theorem dX8_load_89 : decode cX8_load 89 = .ok (.isub, 1) := xdc ddX8_load_1 8 rfl
theorem dX8_load_90 : decode cX8_load 90 = .ok (.istore 7, 2) := xdc ddX8_load_1 9 rfl
theorem dX8_load_92 : decode cX8_load 92 = .ok (.iload 7, 2) := xdc ddX8_load_1 10 rfl
theorem dX8_load_94 : decode cX8_load 94 = .ok (.iload 5, 2) := xdc ddX8_load_1 11 rfl
theorem dX8_load_96 : decode cX8_load 96 = .ok (.if_icmp .lt 43, 3) := xdc ddX8_load_1 12 rfl
theorem dX8_load_99 : decode cX8_load 99 = .ok (.iload 6, 2) := xdc ddX8_load_1 13 rfl
theorem dX8_load_101 : decode cX8_load 101 = .ok (.bipush 8, 2) := xdc ddX8_load_1 14 rfl
theorem dX8_load_103 : decode cX8_load 103 = .ok (.ishl, 1) := xdc ddX8_load_1 15 rfl
theorem dX8_load_104 : decode cX8_load 104 = .ok (.iload 7, 2) := xdc ddX8_load_1 16 rfl
theorem dX8_load_106 : decode cX8_load 106 = .ok (.ifCond .lt 23, 3) := xdc ddX8_load_1 17 rfl
theorem dX8_load_109 : decode cX8_load 109 = .ok (.iload 7, 2) := xdc ddX8_load_1 18 rfl
theorem dX8_load_111 : decode cX8_load 111 = .ok (.aload 4, 2) := xdc ddX8_load_1 19 rfl
theorem dX8_load_113 : decode cX8_load 113 = .ok (.arraylength, 1) := xdc ddX8_load_1 20 rfl
theorem dX8_load_114 : decode cX8_load 114 = .ok (.if_icmp .ge 15, 3) := xdc ddX8_load_1 21 rfl
theorem dX8_load_117 : decode cX8_load 117 = .ok (.aload 4, 2) := xdc ddX8_load_1 22 rfl
theorem dX8_load_119 : decode cX8_load 119 = .ok (.iload 7, 2) := xdc ddX8_load_1 23 rfl
theorem dX8_load_121 : decode cX8_load 121 = .ok (.baload, 1) := xdc ddX8_load_1 24 rfl
theorem dX8_load_122 : decode cX8_load 122 = .ok (.sipush 255, 3) := xdc ddX8_load_1 25 rfl
theorem dX8_load_125 : decode cX8_load 125 = .ok (.iand, 1) := xdc ddX8_load_1 26 rfl
theorem dX8_load_126 : decode cX8_load 126 = .ok (.goto 4, 3) := xdc ddX8_load_1 27 rfl
theorem dX8_load_129 : decode cX8_load 129 = .ok (.iconst 0, 1) := xdc ddX8_load_1 28 rfl
theorem dX8_load_130 : decode cX8_load 130 = .ok (.ior, 1) := xdc ddX8_load_1 29 rfl
theorem dX8_load_131 : decode cX8_load 131 = .ok (.istore 6, 2) := xdc ddX8_load_1 30 rfl
theorem dX8_load_133 : decode cX8_load 133 = .ok (.iinc 7 (-1), 3) := xdc ddX8_load_1 31 rfl
theorem dX8_load_136 : decode cX8_load 136 = .ok (.goto (-44), 3) := xdc ddX8_load_1 32 rfl
theorem dX8_load_139 : decode cX8_load 139 = .ok (.iload 6, 2) := xdc ddX8_load_1 33 rfl
theorem dX8_load_141 : decode cX8_load 141 = .ok (.ireturn, 1) := xdc ddX8_load_1 34 rfl
abbrev cX7_doService : ByteArray := prog_9_method_5_code
theorem ddX7_doService_0 : xdec cX7_doService [(0, (.iload_n 1, 1)), (1, (.ifCond .ne 19, 3)), (4, (.aload_n 0, 1)), (5, (.aload_n 0, 1)), (6, (.getfield 18, 3)), (9, (.iconst 3, 1)), (10, (.iaload, 1)), (11, (.putfield 61, 3)), (14, (.aload_n 0, 1)), (15, (.iconst 2, 1)), (16, (.putfield 68, 3)), (19, (.return_, 1)), (20, (.aload_n 0, 1)), (21, (.getfield 42, 3)), (24, (.aload_n 0, 1)), (25, (.getfield 18, 3)), (28, (.iconst 4, 1)), (29, (.iaload, 1)), (30, (.iconst 4, 1)), (31, (.invokevirtual 94, 3)), (34, (.istore_n 2, 1)), (35, (.aload_n 0, 1)), (36, (.getfield 42, 3)), (39, (.getfield 71, 3)), (42, (.ifCond .eq 4, 3)), (45, (.return_, 1)), (46, (.aload_n 0, 1)), (47, (.getfield 18, 3)), (50, (.iconst 0, 1)), (51, (.aload_n 0, 1)), (52, (.getfield 46, 3)), (55, (.iload_n 1, 1)), (56, (.aload_n 0, 1)), (57, (.getfield 18, 3)), (60, (.iconst 3, 1)), (61, (.iaload, 1)), (62, (.aload_n 0, 1)), (63, (.getfield 18, 3)), (66, (.iconst 1, 1)), (67, (.iaload, 1))] = true := by decide +kernel
theorem dX7_doService_0 : decode cX7_doService 0 = .ok (.iload_n 1, 1) := xdc ddX7_doService_0 0 rfl
theorem dX7_doService_1 : decode cX7_doService 1 = .ok (.ifCond .ne 19, 3) := xdc ddX7_doService_0 1 rfl
theorem dX7_doService_4 : decode cX7_doService 4 = .ok (.aload_n 0, 1) := xdc ddX7_doService_0 2 rfl
theorem dX7_doService_5 : decode cX7_doService 5 = .ok (.aload_n 0, 1) := xdc ddX7_doService_0 3 rfl
theorem dX7_doService_6 : decode cX7_doService 6 = .ok (.getfield 18, 3) := xdc ddX7_doService_0 4 rfl
theorem dX7_doService_9 : decode cX7_doService 9 = .ok (.iconst 3, 1) := xdc ddX7_doService_0 5 rfl
theorem dX7_doService_10 : decode cX7_doService 10 = .ok (.iaload, 1) := xdc ddX7_doService_0 6 rfl
theorem dX7_doService_11 : decode cX7_doService 11 = .ok (.putfield 61, 3) := xdc ddX7_doService_0 7 rfl
theorem dX7_doService_14 : decode cX7_doService 14 = .ok (.aload_n 0, 1) := xdc ddX7_doService_0 8 rfl
theorem dX7_doService_15 : decode cX7_doService 15 = .ok (.iconst 2, 1) := xdc ddX7_doService_0 9 rfl
theorem dX7_doService_16 : decode cX7_doService 16 = .ok (.putfield 68, 3) := xdc ddX7_doService_0 10 rfl
theorem dX7_doService_19 : decode cX7_doService 19 = .ok (.return_, 1) := xdc ddX7_doService_0 11 rfl
theorem dX7_doService_20 : decode cX7_doService 20 = .ok (.aload_n 0, 1) := xdc ddX7_doService_0 12 rfl
theorem dX7_doService_21 : decode cX7_doService 21 = .ok (.getfield 42, 3) := xdc ddX7_doService_0 13 rfl
theorem dX7_doService_24 : decode cX7_doService 24 = .ok (.aload_n 0, 1) := xdc ddX7_doService_0 14 rfl
theorem dX7_doService_25 : decode cX7_doService 25 = .ok (.getfield 18, 3) := xdc ddX7_doService_0 15 rfl
theorem dX7_doService_28 : decode cX7_doService 28 = .ok (.iconst 4, 1) := xdc ddX7_doService_0 16 rfl
theorem dX7_doService_29 : decode cX7_doService 29 = .ok (.iaload, 1) := xdc ddX7_doService_0 17 rfl
theorem dX7_doService_30 : decode cX7_doService 30 = .ok (.iconst 4, 1) := xdc ddX7_doService_0 18 rfl
theorem dX7_doService_31 : decode cX7_doService 31 = .ok (.invokevirtual 94, 3) := xdc ddX7_doService_0 19 rfl
theorem dX7_doService_34 : decode cX7_doService 34 = .ok (.istore_n 2, 1) := xdc ddX7_doService_0 20 rfl
theorem dX7_doService_35 : decode cX7_doService 35 = .ok (.aload_n 0, 1) := xdc ddX7_doService_0 21 rfl
theorem dX7_doService_36 : decode cX7_doService 36 = .ok (.getfield 42, 3) := xdc ddX7_doService_0 22 rfl
theorem dX7_doService_39 : decode cX7_doService 39 = .ok (.getfield 71, 3) := xdc ddX7_doService_0 23 rfl
theorem dX7_doService_42 : decode cX7_doService 42 = .ok (.ifCond .eq 4, 3) := xdc ddX7_doService_0 24 rfl
theorem dX7_doService_45 : decode cX7_doService 45 = .ok (.return_, 1) := xdc ddX7_doService_0 25 rfl
theorem dX7_doService_46 : decode cX7_doService 46 = .ok (.aload_n 0, 1) := xdc ddX7_doService_0 26 rfl
theorem dX7_doService_47 : decode cX7_doService 47 = .ok (.getfield 18, 3) := xdc ddX7_doService_0 27 rfl
theorem dX7_doService_50 : decode cX7_doService 50 = .ok (.iconst 0, 1) := xdc ddX7_doService_0 28 rfl
theorem dX7_doService_51 : decode cX7_doService 51 = .ok (.aload_n 0, 1) := xdc ddX7_doService_0 29 rfl
theorem dX7_doService_52 : decode cX7_doService 52 = .ok (.getfield 46, 3) := xdc ddX7_doService_0 30 rfl
theorem dX7_doService_55 : decode cX7_doService 55 = .ok (.iload_n 1, 1) := xdc ddX7_doService_0 31 rfl
theorem dX7_doService_56 : decode cX7_doService 56 = .ok (.aload_n 0, 1) := xdc ddX7_doService_0 32 rfl
theorem dX7_doService_57 : decode cX7_doService 57 = .ok (.getfield 18, 3) := xdc ddX7_doService_0 33 rfl
theorem dX7_doService_60 : decode cX7_doService 60 = .ok (.iconst 3, 1) := xdc ddX7_doService_0 34 rfl
theorem dX7_doService_61 : decode cX7_doService 61 = .ok (.iaload, 1) := xdc ddX7_doService_0 35 rfl
theorem dX7_doService_62 : decode cX7_doService 62 = .ok (.aload_n 0, 1) := xdc ddX7_doService_0 36 rfl
theorem dX7_doService_63 : decode cX7_doService 63 = .ok (.getfield 18, 3) := xdc ddX7_doService_0 37 rfl
theorem dX7_doService_66 : decode cX7_doService 66 = .ok (.iconst 1, 1) := xdc ddX7_doService_0 38 rfl
theorem dX7_doService_67 : decode cX7_doService 67 = .ok (.iaload, 1) := xdc ddX7_doService_0 39 rfl
theorem ddX7_doService_1 : xdec cX7_doService [(68, (.aload_n 0, 1)), (69, (.getfield 64, 3)), (72, (.invokevirtual 98, 3)), (75, (.iastore, 1)), (76, (.aload_n 0, 1)), (77, (.getfield 18, 3)), (80, (.iconst 4, 1)), (81, (.dup2, 1)), (82, (.iaload, 1)), (83, (.iconst 4, 1)), (84, (.iadd, 1)), (85, (.iastore, 1)), (86, (.aload_n 0, 1)), (87, (.iload_n 2, 1)), (88, (.bipush (-32), 2)), (90, (.iand, 1)), (91, (.putfield 54, 3)), (94, (.iload_n 1, 1)), (95, (.bipush 7, 2)), (97, (.if_icmp .ne 9, 3)), (100, (.aload_n 0, 1)), (101, (.bipush 7, 2)), (103, (.putfield 68, 3)), (106, (.return_, 1))] = true := by decide +kernel
theorem dX7_doService_68 : decode cX7_doService 68 = .ok (.aload_n 0, 1) := xdc ddX7_doService_1 0 rfl
theorem dX7_doService_69 : decode cX7_doService 69 = .ok (.getfield 64, 3) := xdc ddX7_doService_1 1 rfl
theorem dX7_doService_72 : decode cX7_doService 72 = .ok (.invokevirtual 98, 3) := xdc ddX7_doService_1 2 rfl
theorem dX7_doService_75 : decode cX7_doService 75 = .ok (.iastore, 1) := xdc ddX7_doService_1 3 rfl
theorem dX7_doService_76 : decode cX7_doService 76 = .ok (.aload_n 0, 1) := xdc ddX7_doService_1 4 rfl
theorem dX7_doService_77 : decode cX7_doService 77 = .ok (.getfield 18, 3) := xdc ddX7_doService_1 5 rfl
theorem dX7_doService_80 : decode cX7_doService 80 = .ok (.iconst 4, 1) := xdc ddX7_doService_1 6 rfl
theorem dX7_doService_81 : decode cX7_doService 81 = .ok (.dup2, 1) := xdc ddX7_doService_1 7 rfl
theorem dX7_doService_82 : decode cX7_doService 82 = .ok (.iaload, 1) := xdc ddX7_doService_1 8 rfl
theorem dX7_doService_83 : decode cX7_doService 83 = .ok (.iconst 4, 1) := xdc ddX7_doService_1 9 rfl
theorem dX7_doService_84 : decode cX7_doService 84 = .ok (.iadd, 1) := xdc ddX7_doService_1 10 rfl
theorem dX7_doService_85 : decode cX7_doService 85 = .ok (.iastore, 1) := xdc ddX7_doService_1 11 rfl
theorem dX7_doService_86 : decode cX7_doService 86 = .ok (.aload_n 0, 1) := xdc ddX7_doService_1 12 rfl
theorem dX7_doService_87 : decode cX7_doService 87 = .ok (.iload_n 2, 1) := xdc ddX7_doService_1 13 rfl
theorem dX7_doService_88 : decode cX7_doService 88 = .ok (.bipush (-32), 2) := xdc ddX7_doService_1 14 rfl
theorem dX7_doService_90 : decode cX7_doService 90 = .ok (.iand, 1) := xdc ddX7_doService_1 15 rfl
theorem dX7_doService_91 : decode cX7_doService 91 = .ok (.putfield 54, 3) := xdc ddX7_doService_1 16 rfl
theorem dX7_doService_94 : decode cX7_doService 94 = .ok (.iload_n 1, 1) := xdc ddX7_doService_1 17 rfl
theorem dX7_doService_95 : decode cX7_doService 95 = .ok (.bipush 7, 2) := xdc ddX7_doService_1 18 rfl
theorem dX7_doService_97 : decode cX7_doService 97 = .ok (.if_icmp .ne 9, 3) := xdc ddX7_doService_1 19 rfl
theorem dX7_doService_100 : decode cX7_doService 100 = .ok (.aload_n 0, 1) := xdc ddX7_doService_1 20 rfl
theorem dX7_doService_101 : decode cX7_doService 101 = .ok (.bipush 7, 2) := xdc ddX7_doService_1 21 rfl
theorem dX7_doService_103 : decode cX7_doService 103 = .ok (.putfield 68, 3) := xdc ddX7_doService_1 22 rfl
theorem dX7_doService_106 : decode cX7_doService 106 = .ok (.return_, 1) := xdc ddX7_doService_1 23 rfl
abbrev cX8_inImage : ByteArray := prog_10_method_4_code
theorem ddX8_inImage_0 : xdec cX8_inImage [(0, (.iload_n 1, 1)), (1, (.lload_n 2, 1)), (2, (.sipush 4096, 3)), (5, (.sipush 4096, 3)), (8, (.aload_n 0, 1)), (9, (.getfield 16, 3)), (12, (.getfield 29, 3)), (15, (.iadd, 1)), (16, (.invokestatic 23, 3)), (19, (.ireturn, 1))] = true := by decide +kernel
theorem dX8_inImage_0 : decode cX8_inImage 0 = .ok (.iload_n 1, 1) := xdc ddX8_inImage_0 0 rfl
theorem dX8_inImage_1 : decode cX8_inImage 1 = .ok (.lload_n 2, 1) := xdc ddX8_inImage_0 1 rfl
theorem dX8_inImage_2 : decode cX8_inImage 2 = .ok (.sipush 4096, 3) := xdc ddX8_inImage_0 2 rfl
theorem dX8_inImage_5 : decode cX8_inImage 5 = .ok (.sipush 4096, 3) := xdc ddX8_inImage_0 3 rfl
theorem dX8_inImage_8 : decode cX8_inImage 8 = .ok (.aload_n 0, 1) := xdc ddX8_inImage_0 4 rfl
theorem dX8_inImage_9 : decode cX8_inImage 9 = .ok (.getfield 16, 3) := xdc ddX8_inImage_0 5 rfl
theorem dX8_inImage_12 : decode cX8_inImage 12 = .ok (.getfield 29, 3) := xdc ddX8_inImage_0 6 rfl
theorem dX8_inImage_15 : decode cX8_inImage 15 = .ok (.iadd, 1) := xdc ddX8_inImage_0 7 rfl
theorem dX8_inImage_16 : decode cX8_inImage 16 = .ok (.invokestatic 23, 3) := xdc ddX8_inImage_0 8 rfl
theorem dX8_inImage_19 : decode cX8_inImage 19 = .ok (.ireturn, 1) := xdc ddX8_inImage_0 9 rfl
abbrev cX7_addressOfE : ByteArray := prog_9_method_8_code
theorem ddX7_addressOfE_0 : xdec cX7_addressOfE [(0, (.aload_n 0, 1)), (1, (.getfield 38, 3)), (4, (.getfield 146, 3)), (7, (.istore_n 1, 1)), (8, (.aload_n 0, 1)), (9, (.getfield 38, 3)), (12, (.getfield 149, 3)), (15, (.iconst (-1), 1)), (16, (.if_icmp .eq 21, 3)), (19, (.iload_n 1, 1)), (20, (.aload_n 0, 1)), (21, (.getfield 18, 3)), (24, (.aload_n 0, 1)), (25, (.getfield 38, 3)), (28, (.getfield 149, 3)), (31, (.bipush 7, 2)), (33, (.iand, 1)), (34, (.iaload, 1)), (35, (.iadd, 1)), (36, (.istore_n 1, 1)), (37, (.aload_n 0, 1)), (38, (.getfield 38, 3)), (41, (.getfield 152, 3)), (44, (.iconst (-1), 1)), (45, (.if_icmp .eq 31, 3)), (48, (.iload_n 1, 1)), (49, (.aload_n 0, 1)), (50, (.getfield 18, 3)), (53, (.aload_n 0, 1)), (54, (.getfield 38, 3)), (57, (.getfield 152, 3)), (60, (.bipush 7, 2)), (62, (.iand, 1)), (63, (.iaload, 1)), (64, (.aload_n 0, 1)), (65, (.getfield 38, 3)), (68, (.getfield 155, 3)), (71, (.iconst 3, 1)), (72, (.iand, 1)), (73, (.ishl, 1))] = true := by decide +kernel
theorem dX7_addressOfE_0 : decode cX7_addressOfE 0 = .ok (.aload_n 0, 1) := xdc ddX7_addressOfE_0 0 rfl
theorem dX7_addressOfE_1 : decode cX7_addressOfE 1 = .ok (.getfield 38, 3) := xdc ddX7_addressOfE_0 1 rfl
theorem dX7_addressOfE_4 : decode cX7_addressOfE 4 = .ok (.getfield 146, 3) := xdc ddX7_addressOfE_0 2 rfl
theorem dX7_addressOfE_7 : decode cX7_addressOfE 7 = .ok (.istore_n 1, 1) := xdc ddX7_addressOfE_0 3 rfl
theorem dX7_addressOfE_8 : decode cX7_addressOfE 8 = .ok (.aload_n 0, 1) := xdc ddX7_addressOfE_0 4 rfl
theorem dX7_addressOfE_9 : decode cX7_addressOfE 9 = .ok (.getfield 38, 3) := xdc ddX7_addressOfE_0 5 rfl
theorem dX7_addressOfE_12 : decode cX7_addressOfE 12 = .ok (.getfield 149, 3) := xdc ddX7_addressOfE_0 6 rfl
theorem dX7_addressOfE_15 : decode cX7_addressOfE 15 = .ok (.iconst (-1), 1) := xdc ddX7_addressOfE_0 7 rfl
theorem dX7_addressOfE_16 : decode cX7_addressOfE 16 = .ok (.if_icmp .eq 21, 3) := xdc ddX7_addressOfE_0 8 rfl
theorem dX7_addressOfE_19 : decode cX7_addressOfE 19 = .ok (.iload_n 1, 1) := xdc ddX7_addressOfE_0 9 rfl
theorem dX7_addressOfE_20 : decode cX7_addressOfE 20 = .ok (.aload_n 0, 1) := xdc ddX7_addressOfE_0 10 rfl
theorem dX7_addressOfE_21 : decode cX7_addressOfE 21 = .ok (.getfield 18, 3) := xdc ddX7_addressOfE_0 11 rfl
theorem dX7_addressOfE_24 : decode cX7_addressOfE 24 = .ok (.aload_n 0, 1) := xdc ddX7_addressOfE_0 12 rfl
theorem dX7_addressOfE_25 : decode cX7_addressOfE 25 = .ok (.getfield 38, 3) := xdc ddX7_addressOfE_0 13 rfl
theorem dX7_addressOfE_28 : decode cX7_addressOfE 28 = .ok (.getfield 149, 3) := xdc ddX7_addressOfE_0 14 rfl
theorem dX7_addressOfE_31 : decode cX7_addressOfE 31 = .ok (.bipush 7, 2) := xdc ddX7_addressOfE_0 15 rfl
theorem dX7_addressOfE_33 : decode cX7_addressOfE 33 = .ok (.iand, 1) := xdc ddX7_addressOfE_0 16 rfl
theorem dX7_addressOfE_34 : decode cX7_addressOfE 34 = .ok (.iaload, 1) := xdc ddX7_addressOfE_0 17 rfl
theorem dX7_addressOfE_35 : decode cX7_addressOfE 35 = .ok (.iadd, 1) := xdc ddX7_addressOfE_0 18 rfl
theorem dX7_addressOfE_36 : decode cX7_addressOfE 36 = .ok (.istore_n 1, 1) := xdc ddX7_addressOfE_0 19 rfl
theorem dX7_addressOfE_37 : decode cX7_addressOfE 37 = .ok (.aload_n 0, 1) := xdc ddX7_addressOfE_0 20 rfl
theorem dX7_addressOfE_38 : decode cX7_addressOfE 38 = .ok (.getfield 38, 3) := xdc ddX7_addressOfE_0 21 rfl
theorem dX7_addressOfE_41 : decode cX7_addressOfE 41 = .ok (.getfield 152, 3) := xdc ddX7_addressOfE_0 22 rfl
theorem dX7_addressOfE_44 : decode cX7_addressOfE 44 = .ok (.iconst (-1), 1) := xdc ddX7_addressOfE_0 23 rfl
theorem dX7_addressOfE_45 : decode cX7_addressOfE 45 = .ok (.if_icmp .eq 31, 3) := xdc ddX7_addressOfE_0 24 rfl
theorem dX7_addressOfE_48 : decode cX7_addressOfE 48 = .ok (.iload_n 1, 1) := xdc ddX7_addressOfE_0 25 rfl
theorem dX7_addressOfE_49 : decode cX7_addressOfE 49 = .ok (.aload_n 0, 1) := xdc ddX7_addressOfE_0 26 rfl
theorem dX7_addressOfE_50 : decode cX7_addressOfE 50 = .ok (.getfield 18, 3) := xdc ddX7_addressOfE_0 27 rfl
theorem dX7_addressOfE_53 : decode cX7_addressOfE 53 = .ok (.aload_n 0, 1) := xdc ddX7_addressOfE_0 28 rfl
theorem dX7_addressOfE_54 : decode cX7_addressOfE 54 = .ok (.getfield 38, 3) := xdc ddX7_addressOfE_0 29 rfl
theorem dX7_addressOfE_57 : decode cX7_addressOfE 57 = .ok (.getfield 152, 3) := xdc ddX7_addressOfE_0 30 rfl
theorem dX7_addressOfE_60 : decode cX7_addressOfE 60 = .ok (.bipush 7, 2) := xdc ddX7_addressOfE_0 31 rfl
theorem dX7_addressOfE_62 : decode cX7_addressOfE 62 = .ok (.iand, 1) := xdc ddX7_addressOfE_0 32 rfl
theorem dX7_addressOfE_63 : decode cX7_addressOfE 63 = .ok (.iaload, 1) := xdc ddX7_addressOfE_0 33 rfl
theorem dX7_addressOfE_64 : decode cX7_addressOfE 64 = .ok (.aload_n 0, 1) := xdc ddX7_addressOfE_0 34 rfl
theorem dX7_addressOfE_65 : decode cX7_addressOfE 65 = .ok (.getfield 38, 3) := xdc ddX7_addressOfE_0 35 rfl
theorem dX7_addressOfE_68 : decode cX7_addressOfE 68 = .ok (.getfield 155, 3) := xdc ddX7_addressOfE_0 36 rfl
theorem dX7_addressOfE_71 : decode cX7_addressOfE 71 = .ok (.iconst 3, 1) := xdc ddX7_addressOfE_0 37 rfl
theorem dX7_addressOfE_72 : decode cX7_addressOfE 72 = .ok (.iand, 1) := xdc ddX7_addressOfE_0 38 rfl
theorem dX7_addressOfE_73 : decode cX7_addressOfE 73 = .ok (.ishl, 1) := xdc ddX7_addressOfE_0 39 rfl
theorem ddX7_addressOfE_1 : xdec cX7_addressOfE [(74, (.iadd, 1)), (75, (.istore_n 1, 1)), (76, (.iload_n 1, 1)), (77, (.ireturn, 1))] = true := by decide +kernel
theorem dX7_addressOfE_74 : decode cX7_addressOfE 74 = .ok (.iadd, 1) := xdc ddX7_addressOfE_1 0 rfl
theorem dX7_addressOfE_75 : decode cX7_addressOfE 75 = .ok (.istore_n 1, 1) := xdc ddX7_addressOfE_1 1 rfl
theorem dX7_addressOfE_76 : decode cX7_addressOfE 76 = .ok (.iload_n 1, 1) := xdc ddX7_addressOfE_1 2 rfl
theorem dX7_addressOfE_77 : decode cX7_addressOfE 77 = .ok (.ireturn, 1) := xdc ddX7_addressOfE_1 3 rfl
abbrev cX7_isReady : ByteArray := prog_9_method_6_code
theorem ddX7_isReady_0 : xdec cX7_isReady [(0, (.aload_n 0, 1)), (1, (.getfield 54, 3)), (4, (.sipush 4096, 3)), (7, (.isub, 1)), (8, (.istore_n 1, 1)), (9, (.aload_n 0, 1)), (10, (.getfield 42, 3)), (13, (.aload_n 0, 1)), (14, (.getfield 54, 3)), (17, (.lconst 1, 1)), (18, (.invokevirtual 104, 3)), (21, (.ifCond .ne 13, 3)), (24, (.aload_n 0, 1)), (25, (.getfield 42, 3)), (28, (.iconst 5, 1)), (29, (.invokevirtual 108, 3)), (32, (.iconst 0, 1)), (33, (.ireturn, 1)), (34, (.aload_n 0, 1)), (35, (.getfield 34, 3)), (38, (.iload_n 1, 1)), (39, (.invokevirtual 111, 3)), (42, (.ifCond .eq 14, 3)), (45, (.aload_n 0, 1)), (46, (.getfield 30, 3)), (49, (.iload_n 1, 1)), (50, (.invokevirtual 116, 3)), (53, (.ifCond .ne 14, 3)), (56, (.aload_n 0, 1)), (57, (.getfield 42, 3)), (60, (.bipush 6, 2)), (62, (.invokevirtual 108, 3)), (65, (.iconst 0, 1)), (66, (.ireturn, 1)), (67, (.aload_n 0, 1)), (68, (.getfield 18, 3)), (71, (.iconst 0, 1)), (72, (.aload_n 0, 1)), (73, (.getfield 27, 3)), (76, (.iconst 0, 1))] = true := by decide +kernel
theorem dX7_isReady_0 : decode cX7_isReady 0 = .ok (.aload_n 0, 1) := xdc ddX7_isReady_0 0 rfl
theorem dX7_isReady_1 : decode cX7_isReady 1 = .ok (.getfield 54, 3) := xdc ddX7_isReady_0 1 rfl
theorem dX7_isReady_4 : decode cX7_isReady 4 = .ok (.sipush 4096, 3) := xdc ddX7_isReady_0 2 rfl
theorem dX7_isReady_7 : decode cX7_isReady 7 = .ok (.isub, 1) := xdc ddX7_isReady_0 3 rfl
theorem dX7_isReady_8 : decode cX7_isReady 8 = .ok (.istore_n 1, 1) := xdc ddX7_isReady_0 4 rfl
theorem dX7_isReady_9 : decode cX7_isReady 9 = .ok (.aload_n 0, 1) := xdc ddX7_isReady_0 5 rfl
theorem dX7_isReady_10 : decode cX7_isReady 10 = .ok (.getfield 42, 3) := xdc ddX7_isReady_0 6 rfl
theorem dX7_isReady_13 : decode cX7_isReady 13 = .ok (.aload_n 0, 1) := xdc ddX7_isReady_0 7 rfl
theorem dX7_isReady_14 : decode cX7_isReady 14 = .ok (.getfield 54, 3) := xdc ddX7_isReady_0 8 rfl
theorem dX7_isReady_17 : decode cX7_isReady 17 = .ok (.lconst 1, 1) := xdc ddX7_isReady_0 9 rfl
theorem dX7_isReady_18 : decode cX7_isReady 18 = .ok (.invokevirtual 104, 3) := xdc ddX7_isReady_0 10 rfl
theorem dX7_isReady_21 : decode cX7_isReady 21 = .ok (.ifCond .ne 13, 3) := xdc ddX7_isReady_0 11 rfl
theorem dX7_isReady_24 : decode cX7_isReady 24 = .ok (.aload_n 0, 1) := xdc ddX7_isReady_0 12 rfl
theorem dX7_isReady_25 : decode cX7_isReady 25 = .ok (.getfield 42, 3) := xdc ddX7_isReady_0 13 rfl
theorem dX7_isReady_28 : decode cX7_isReady 28 = .ok (.iconst 5, 1) := xdc ddX7_isReady_0 14 rfl
theorem dX7_isReady_29 : decode cX7_isReady 29 = .ok (.invokevirtual 108, 3) := xdc ddX7_isReady_0 15 rfl
theorem dX7_isReady_32 : decode cX7_isReady 32 = .ok (.iconst 0, 1) := xdc ddX7_isReady_0 16 rfl
theorem dX7_isReady_33 : decode cX7_isReady 33 = .ok (.ireturn, 1) := xdc ddX7_isReady_0 17 rfl
theorem dX7_isReady_34 : decode cX7_isReady 34 = .ok (.aload_n 0, 1) := xdc ddX7_isReady_0 18 rfl
theorem dX7_isReady_35 : decode cX7_isReady 35 = .ok (.getfield 34, 3) := xdc ddX7_isReady_0 19 rfl
theorem dX7_isReady_38 : decode cX7_isReady 38 = .ok (.iload_n 1, 1) := xdc ddX7_isReady_0 20 rfl
theorem dX7_isReady_39 : decode cX7_isReady 39 = .ok (.invokevirtual 111, 3) := xdc ddX7_isReady_0 21 rfl
theorem dX7_isReady_42 : decode cX7_isReady 42 = .ok (.ifCond .eq 14, 3) := xdc ddX7_isReady_0 22 rfl
theorem dX7_isReady_45 : decode cX7_isReady 45 = .ok (.aload_n 0, 1) := xdc ddX7_isReady_0 23 rfl
theorem dX7_isReady_46 : decode cX7_isReady 46 = .ok (.getfield 30, 3) := xdc ddX7_isReady_0 24 rfl
theorem dX7_isReady_49 : decode cX7_isReady 49 = .ok (.iload_n 1, 1) := xdc ddX7_isReady_0 25 rfl
theorem dX7_isReady_50 : decode cX7_isReady 50 = .ok (.invokevirtual 116, 3) := xdc ddX7_isReady_0 26 rfl
theorem dX7_isReady_53 : decode cX7_isReady 53 = .ok (.ifCond .ne 14, 3) := xdc ddX7_isReady_0 27 rfl
theorem dX7_isReady_56 : decode cX7_isReady 56 = .ok (.aload_n 0, 1) := xdc ddX7_isReady_0 28 rfl
theorem dX7_isReady_57 : decode cX7_isReady 57 = .ok (.getfield 42, 3) := xdc ddX7_isReady_0 29 rfl
theorem dX7_isReady_60 : decode cX7_isReady 60 = .ok (.bipush 6, 2) := xdc ddX7_isReady_0 30 rfl
theorem dX7_isReady_62 : decode cX7_isReady 62 = .ok (.invokevirtual 108, 3) := xdc ddX7_isReady_0 31 rfl
theorem dX7_isReady_65 : decode cX7_isReady 65 = .ok (.iconst 0, 1) := xdc ddX7_isReady_0 32 rfl
theorem dX7_isReady_66 : decode cX7_isReady 66 = .ok (.ireturn, 1) := xdc ddX7_isReady_0 33 rfl
theorem dX7_isReady_67 : decode cX7_isReady 67 = .ok (.aload_n 0, 1) := xdc ddX7_isReady_0 34 rfl
theorem dX7_isReady_68 : decode cX7_isReady 68 = .ok (.getfield 18, 3) := xdc ddX7_isReady_0 35 rfl
theorem dX7_isReady_71 : decode cX7_isReady 71 = .ok (.iconst 0, 1) := xdc ddX7_isReady_0 36 rfl
theorem dX7_isReady_72 : decode cX7_isReady 72 = .ok (.aload_n 0, 1) := xdc ddX7_isReady_0 37 rfl
theorem dX7_isReady_73 : decode cX7_isReady 73 = .ok (.getfield 27, 3) := xdc ddX7_isReady_0 38 rfl
theorem dX7_isReady_76 : decode cX7_isReady 76 = .ok (.iconst 0, 1) := xdc ddX7_isReady_0 39 rfl
theorem ddX7_isReady_1 : xdec cX7_isReady [(77, (.bipush 8, 2)), (79, (.invokestatic 122, 3)), (82, (.aload_n 0, 1)), (83, (.aload_n 0, 1)), (84, (.getfield 12, 3)), (87, (.getfield 58, 3)), (90, (.putfield 128, 3)), (93, (.aload_n 0, 1)), (94, (.aload_n 0, 1)), (95, (.getfield 54, 3)), (98, (.aload_n 0, 1)), (99, (.getfield 38, 3)), (102, (.getfield 131, 3)), (105, (.iadd, 1)), (106, (.putfield 136, 3)), (109, (.aload_n 0, 1)), (110, (.aload_n 0, 1)), (111, (.invokevirtual 139, 3)), (114, (.putfield 143, 3)), (117, (.iconst 1, 1)), (118, (.ireturn, 1))] = true := by decide +kernel
theorem dX7_isReady_77 : decode cX7_isReady 77 = .ok (.bipush 8, 2) := xdc ddX7_isReady_1 0 rfl
theorem dX7_isReady_79 : decode cX7_isReady 79 = .ok (.invokestatic 122, 3) := xdc ddX7_isReady_1 1 rfl
theorem dX7_isReady_82 : decode cX7_isReady 82 = .ok (.aload_n 0, 1) := xdc ddX7_isReady_1 2 rfl
theorem dX7_isReady_83 : decode cX7_isReady 83 = .ok (.aload_n 0, 1) := xdc ddX7_isReady_1 3 rfl
theorem dX7_isReady_84 : decode cX7_isReady 84 = .ok (.getfield 12, 3) := xdc ddX7_isReady_1 4 rfl
theorem dX7_isReady_87 : decode cX7_isReady 87 = .ok (.getfield 58, 3) := xdc ddX7_isReady_1 5 rfl
theorem dX7_isReady_90 : decode cX7_isReady 90 = .ok (.putfield 128, 3) := xdc ddX7_isReady_1 6 rfl
theorem dX7_isReady_93 : decode cX7_isReady 93 = .ok (.aload_n 0, 1) := xdc ddX7_isReady_1 7 rfl
theorem dX7_isReady_94 : decode cX7_isReady 94 = .ok (.aload_n 0, 1) := xdc ddX7_isReady_1 8 rfl
theorem dX7_isReady_95 : decode cX7_isReady 95 = .ok (.getfield 54, 3) := xdc ddX7_isReady_1 9 rfl
theorem dX7_isReady_98 : decode cX7_isReady 98 = .ok (.aload_n 0, 1) := xdc ddX7_isReady_1 10 rfl
theorem dX7_isReady_99 : decode cX7_isReady 99 = .ok (.getfield 38, 3) := xdc ddX7_isReady_1 11 rfl
theorem dX7_isReady_102 : decode cX7_isReady 102 = .ok (.getfield 131, 3) := xdc ddX7_isReady_1 12 rfl
theorem dX7_isReady_105 : decode cX7_isReady 105 = .ok (.iadd, 1) := xdc ddX7_isReady_1 13 rfl
theorem dX7_isReady_106 : decode cX7_isReady 106 = .ok (.putfield 136, 3) := xdc ddX7_isReady_1 14 rfl
theorem dX7_isReady_109 : decode cX7_isReady 109 = .ok (.aload_n 0, 1) := xdc ddX7_isReady_1 15 rfl
theorem dX7_isReady_110 : decode cX7_isReady 110 = .ok (.aload_n 0, 1) := xdc ddX7_isReady_1 16 rfl
theorem dX7_isReady_111 : decode cX7_isReady 111 = .ok (.invokevirtual 139, 3) := xdc ddX7_isReady_1 17 rfl
theorem dX7_isReady_114 : decode cX7_isReady 114 = .ok (.putfield 143, 3) := xdc ddX7_isReady_1 18 rfl
theorem dX7_isReady_117 : decode cX7_isReady 117 = .ok (.iconst 1, 1) := xdc ddX7_isReady_1 19 rfl
theorem dX7_isReady_118 : decode cX7_isReady 118 = .ok (.ireturn, 1) := xdc ddX7_isReady_1 20 rfl
abbrev cX7_part : ByteArray := prog_9_method_10_code
theorem ddX7_part_0 : xdec cX7_part [(0, (.iload_n 2, 1)), (1, (.iconst 1, 1)), (2, (.if_icmp .ne 28, 3)), (5, (.aload_n 0, 1)), (6, (.getfield 18, 3)), (9, (.iload_n 1, 1)), (10, (.iconst 3, 1)), (11, (.iand, 1)), (12, (.iaload, 1)), (13, (.iload_n 1, 1)), (14, (.iconst 4, 1)), (15, (.if_icmp .ge 7, 3)), (18, (.iconst 0, 1)), (19, (.goto 5, 3)), (22, (.bipush 8, 2)), (24, (.iushr, 1)), (25, (.sipush 255, 3)), (28, (.iand, 1)), (29, (.ireturn, 1)), (30, (.iload_n 2, 1)), (31, (.iconst 2, 1)), (32, (.if_icmp .ne 18, 3)), (35, (.aload_n 0, 1)), (36, (.getfield 18, 3)), (39, (.iload_n 1, 1)), (40, (.bipush 7, 2)), (42, (.iand, 1)), (43, (.iaload, 1)), (44, (.ldc 210, 2)), (46, (.iand, 1)), (47, (.goto 12, 3)), (50, (.aload_n 0, 1)), (51, (.getfield 18, 3)), (54, (.iload_n 1, 1)), (55, (.bipush 7, 2)), (57, (.iand, 1)), (58, (.iaload, 1)), (59, (.ireturn, 1))] = true := by decide +kernel
theorem dX7_part_0 : decode cX7_part 0 = .ok (.iload_n 2, 1) := xdc ddX7_part_0 0 rfl
theorem dX7_part_1 : decode cX7_part 1 = .ok (.iconst 1, 1) := xdc ddX7_part_0 1 rfl
theorem dX7_part_2 : decode cX7_part 2 = .ok (.if_icmp .ne 28, 3) := xdc ddX7_part_0 2 rfl
theorem dX7_part_5 : decode cX7_part 5 = .ok (.aload_n 0, 1) := xdc ddX7_part_0 3 rfl
theorem dX7_part_6 : decode cX7_part 6 = .ok (.getfield 18, 3) := xdc ddX7_part_0 4 rfl
theorem dX7_part_9 : decode cX7_part 9 = .ok (.iload_n 1, 1) := xdc ddX7_part_0 5 rfl
theorem dX7_part_10 : decode cX7_part 10 = .ok (.iconst 3, 1) := xdc ddX7_part_0 6 rfl
theorem dX7_part_11 : decode cX7_part 11 = .ok (.iand, 1) := xdc ddX7_part_0 7 rfl
theorem dX7_part_12 : decode cX7_part 12 = .ok (.iaload, 1) := xdc ddX7_part_0 8 rfl
theorem dX7_part_13 : decode cX7_part 13 = .ok (.iload_n 1, 1) := xdc ddX7_part_0 9 rfl
theorem dX7_part_14 : decode cX7_part 14 = .ok (.iconst 4, 1) := xdc ddX7_part_0 10 rfl
theorem dX7_part_15 : decode cX7_part 15 = .ok (.if_icmp .ge 7, 3) := xdc ddX7_part_0 11 rfl
theorem dX7_part_18 : decode cX7_part 18 = .ok (.iconst 0, 1) := xdc ddX7_part_0 12 rfl
theorem dX7_part_19 : decode cX7_part 19 = .ok (.goto 5, 3) := xdc ddX7_part_0 13 rfl
theorem dX7_part_22 : decode cX7_part 22 = .ok (.bipush 8, 2) := xdc ddX7_part_0 14 rfl
theorem dX7_part_24 : decode cX7_part 24 = .ok (.iushr, 1) := xdc ddX7_part_0 15 rfl
theorem dX7_part_25 : decode cX7_part 25 = .ok (.sipush 255, 3) := xdc ddX7_part_0 16 rfl
theorem dX7_part_28 : decode cX7_part 28 = .ok (.iand, 1) := xdc ddX7_part_0 17 rfl
theorem dX7_part_29 : decode cX7_part 29 = .ok (.ireturn, 1) := xdc ddX7_part_0 18 rfl
theorem dX7_part_30 : decode cX7_part 30 = .ok (.iload_n 2, 1) := xdc ddX7_part_0 19 rfl
theorem dX7_part_31 : decode cX7_part 31 = .ok (.iconst 2, 1) := xdc ddX7_part_0 20 rfl
theorem dX7_part_32 : decode cX7_part 32 = .ok (.if_icmp .ne 18, 3) := xdc ddX7_part_0 21 rfl
theorem dX7_part_35 : decode cX7_part 35 = .ok (.aload_n 0, 1) := xdc ddX7_part_0 22 rfl
theorem dX7_part_36 : decode cX7_part 36 = .ok (.getfield 18, 3) := xdc ddX7_part_0 23 rfl
theorem dX7_part_39 : decode cX7_part 39 = .ok (.iload_n 1, 1) := xdc ddX7_part_0 24 rfl
theorem dX7_part_40 : decode cX7_part 40 = .ok (.bipush 7, 2) := xdc ddX7_part_0 25 rfl
theorem dX7_part_42 : decode cX7_part 42 = .ok (.iand, 1) := xdc ddX7_part_0 26 rfl
theorem dX7_part_43 : decode cX7_part 43 = .ok (.iaload, 1) := xdc ddX7_part_0 27 rfl
theorem dX7_part_44 : decode cX7_part 44 = .ok (.ldc 210, 2) := xdc ddX7_part_0 28 rfl
theorem dX7_part_46 : decode cX7_part 46 = .ok (.iand, 1) := xdc ddX7_part_0 29 rfl
theorem dX7_part_47 : decode cX7_part 47 = .ok (.goto 12, 3) := xdc ddX7_part_0 30 rfl
theorem dX7_part_50 : decode cX7_part 50 = .ok (.aload_n 0, 1) := xdc ddX7_part_0 31 rfl
theorem dX7_part_51 : decode cX7_part 51 = .ok (.getfield 18, 3) := xdc ddX7_part_0 32 rfl
theorem dX7_part_54 : decode cX7_part 54 = .ok (.iload_n 1, 1) := xdc ddX7_part_0 33 rfl
theorem dX7_part_55 : decode cX7_part 55 = .ok (.bipush 7, 2) := xdc ddX7_part_0 34 rfl
theorem dX7_part_57 : decode cX7_part 57 = .ok (.iand, 1) := xdc ddX7_part_0 35 rfl
theorem dX7_part_58 : decode cX7_part 58 = .ok (.iaload, 1) := xdc ddX7_part_0 36 rfl
theorem dX7_part_59 : decode cX7_part 59 = .ok (.ireturn, 1) := xdc ddX7_part_0 37 rfl
abbrev cX7_readG : ByteArray := prog_9_method_14_code
theorem ddX7_readG_0 : xdec cX7_readG [(0, (.aload_n 0, 1)), (1, (.aload_n 0, 1)), (2, (.getfield 38, 3)), (5, (.getfield 231, 3)), (8, (.aload_n 0, 1)), (9, (.getfield 38, 3)), (12, (.getfield 173, 3)), (15, (.invokevirtual 221, 3)), (18, (.ireturn, 1))] = true := by decide +kernel
theorem dX7_readG_0 : decode cX7_readG 0 = .ok (.aload_n 0, 1) := xdc ddX7_readG_0 0 rfl
theorem dX7_readG_1 : decode cX7_readG 1 = .ok (.aload_n 0, 1) := xdc ddX7_readG_0 1 rfl
theorem dX7_readG_2 : decode cX7_readG 2 = .ok (.getfield 38, 3) := xdc ddX7_readG_0 2 rfl
theorem dX7_readG_5 : decode cX7_readG 5 = .ok (.getfield 231, 3) := xdc ddX7_readG_0 3 rfl
theorem dX7_readG_8 : decode cX7_readG 8 = .ok (.aload_n 0, 1) := xdc ddX7_readG_0 4 rfl
theorem dX7_readG_9 : decode cX7_readG 9 = .ok (.getfield 38, 3) := xdc ddX7_readG_0 5 rfl
theorem dX7_readG_12 : decode cX7_readG 12 = .ok (.getfield 173, 3) := xdc ddX7_readG_0 6 rfl
theorem dX7_readG_15 : decode cX7_readG 15 = .ok (.invokevirtual 221, 3) := xdc ddX7_readG_0 7 rfl
theorem dX7_readG_18 : decode cX7_readG 18 = .ok (.ireturn, 1) := xdc ddX7_readG_0 8 rfl
abbrev cX7_readE : ByteArray := prog_9_method_12_code
theorem ddX7_readE_0 : xdec cX7_readE [(0, (.aload_n 0, 1)), (1, (.getfield 38, 3)), (4, (.getfield 211, 3)), (7, (.ifCond .eq 24, 3)), (10, (.aload_n 0, 1)), (11, (.getfield 42, 3)), (14, (.aload_n 0, 1)), (15, (.getfield 143, 3)), (18, (.aload_n 0, 1)), (19, (.getfield 38, 3)), (22, (.getfield 215, 3)), (25, (.invokevirtual 94, 3)), (28, (.goto 21, 3)), (31, (.aload_n 0, 1)), (32, (.aload_n 0, 1)), (33, (.getfield 38, 3)), (36, (.getfield 218, 3)), (39, (.aload_n 0, 1)), (40, (.getfield 38, 3)), (43, (.getfield 215, 3)), (46, (.invokevirtual 221, 3)), (49, (.ireturn, 1))] = true := by decide +kernel
theorem dX7_readE_0 : decode cX7_readE 0 = .ok (.aload_n 0, 1) := xdc ddX7_readE_0 0 rfl
theorem dX7_readE_1 : decode cX7_readE 1 = .ok (.getfield 38, 3) := xdc ddX7_readE_0 1 rfl
theorem dX7_readE_4 : decode cX7_readE 4 = .ok (.getfield 211, 3) := xdc ddX7_readE_0 2 rfl
theorem dX7_readE_7 : decode cX7_readE 7 = .ok (.ifCond .eq 24, 3) := xdc ddX7_readE_0 3 rfl
theorem dX7_readE_10 : decode cX7_readE 10 = .ok (.aload_n 0, 1) := xdc ddX7_readE_0 4 rfl
theorem dX7_readE_11 : decode cX7_readE 11 = .ok (.getfield 42, 3) := xdc ddX7_readE_0 5 rfl
theorem dX7_readE_14 : decode cX7_readE 14 = .ok (.aload_n 0, 1) := xdc ddX7_readE_0 6 rfl
theorem dX7_readE_15 : decode cX7_readE 15 = .ok (.getfield 143, 3) := xdc ddX7_readE_0 7 rfl
theorem dX7_readE_18 : decode cX7_readE 18 = .ok (.aload_n 0, 1) := xdc ddX7_readE_0 8 rfl
theorem dX7_readE_19 : decode cX7_readE 19 = .ok (.getfield 38, 3) := xdc ddX7_readE_0 9 rfl
theorem dX7_readE_22 : decode cX7_readE 22 = .ok (.getfield 215, 3) := xdc ddX7_readE_0 10 rfl
theorem dX7_readE_25 : decode cX7_readE 25 = .ok (.invokevirtual 94, 3) := xdc ddX7_readE_0 11 rfl
theorem dX7_readE_28 : decode cX7_readE 28 = .ok (.goto 21, 3) := xdc ddX7_readE_0 12 rfl
theorem dX7_readE_31 : decode cX7_readE 31 = .ok (.aload_n 0, 1) := xdc ddX7_readE_0 13 rfl
theorem dX7_readE_32 : decode cX7_readE 32 = .ok (.aload_n 0, 1) := xdc ddX7_readE_0 14 rfl
theorem dX7_readE_33 : decode cX7_readE 33 = .ok (.getfield 38, 3) := xdc ddX7_readE_0 15 rfl
theorem dX7_readE_36 : decode cX7_readE 36 = .ok (.getfield 218, 3) := xdc ddX7_readE_0 16 rfl
theorem dX7_readE_39 : decode cX7_readE 39 = .ok (.aload_n 0, 1) := xdc ddX7_readE_0 17 rfl
theorem dX7_readE_40 : decode cX7_readE 40 = .ok (.getfield 38, 3) := xdc ddX7_readE_0 18 rfl
theorem dX7_readE_43 : decode cX7_readE 43 = .ok (.getfield 215, 3) := xdc ddX7_readE_0 19 rfl
theorem dX7_readE_46 : decode cX7_readE 46 = .ok (.invokevirtual 221, 3) := xdc ddX7_readE_0 20 rfl
theorem dX7_readE_49 : decode cX7_readE 49 = .ok (.ireturn, 1) := xdc ddX7_readE_0 21 rfl
abbrev cX7_readSecond : ByteArray := prog_9_method_16_code
theorem ddX7_readSecond_0 : xdec cX7_readSecond [(0, (.aload_n 0, 1)), (1, (.getfield 38, 3)), (4, (.getfield 234, 3)), (7, (.iconst 3, 1)), (8, (.if_icmp .ne 22, 3)), (11, (.aload_n 0, 1)), (12, (.getfield 38, 3)), (15, (.getfield 237, 3)), (18, (.aload_n 0, 1)), (19, (.getfield 38, 3)), (22, (.getfield 173, 3)), (25, (.invokestatic 240, 3)), (28, (.iand, 1)), (29, (.ireturn, 1)), (30, (.aload_n 0, 1)), (31, (.getfield 38, 3)), (34, (.invokevirtual 243, 3)), (37, (.ifCond .eq 10, 3)), (40, (.aload_n 0, 1)), (41, (.invokevirtual 170, 3)), (44, (.goto 7, 3)), (47, (.aload_n 0, 1)), (48, (.invokevirtual 246, 3)), (51, (.ireturn, 1))] = true := by decide +kernel
theorem dX7_readSecond_0 : decode cX7_readSecond 0 = .ok (.aload_n 0, 1) := xdc ddX7_readSecond_0 0 rfl
theorem dX7_readSecond_1 : decode cX7_readSecond 1 = .ok (.getfield 38, 3) := xdc ddX7_readSecond_0 1 rfl
theorem dX7_readSecond_4 : decode cX7_readSecond 4 = .ok (.getfield 234, 3) := xdc ddX7_readSecond_0 2 rfl
theorem dX7_readSecond_7 : decode cX7_readSecond 7 = .ok (.iconst 3, 1) := xdc ddX7_readSecond_0 3 rfl
theorem dX7_readSecond_8 : decode cX7_readSecond 8 = .ok (.if_icmp .ne 22, 3) := xdc ddX7_readSecond_0 4 rfl
theorem dX7_readSecond_11 : decode cX7_readSecond 11 = .ok (.aload_n 0, 1) := xdc ddX7_readSecond_0 5 rfl
theorem dX7_readSecond_12 : decode cX7_readSecond 12 = .ok (.getfield 38, 3) := xdc ddX7_readSecond_0 6 rfl
theorem dX7_readSecond_15 : decode cX7_readSecond 15 = .ok (.getfield 237, 3) := xdc ddX7_readSecond_0 7 rfl
theorem dX7_readSecond_18 : decode cX7_readSecond 18 = .ok (.aload_n 0, 1) := xdc ddX7_readSecond_0 8 rfl
theorem dX7_readSecond_19 : decode cX7_readSecond 19 = .ok (.getfield 38, 3) := xdc ddX7_readSecond_0 9 rfl
theorem dX7_readSecond_22 : decode cX7_readSecond 22 = .ok (.getfield 173, 3) := xdc ddX7_readSecond_0 10 rfl
theorem dX7_readSecond_25 : decode cX7_readSecond 25 = .ok (.invokestatic 240, 3) := xdc ddX7_readSecond_0 11 rfl
theorem dX7_readSecond_28 : decode cX7_readSecond 28 = .ok (.iand, 1) := xdc ddX7_readSecond_0 12 rfl
theorem dX7_readSecond_29 : decode cX7_readSecond 29 = .ok (.ireturn, 1) := xdc ddX7_readSecond_0 13 rfl
theorem dX7_readSecond_30 : decode cX7_readSecond 30 = .ok (.aload_n 0, 1) := xdc ddX7_readSecond_0 14 rfl
theorem dX7_readSecond_31 : decode cX7_readSecond 31 = .ok (.getfield 38, 3) := xdc ddX7_readSecond_0 15 rfl
theorem dX7_readSecond_34 : decode cX7_readSecond 34 = .ok (.invokevirtual 243, 3) := xdc ddX7_readSecond_0 16 rfl
theorem dX7_readSecond_37 : decode cX7_readSecond 37 = .ok (.ifCond .eq 10, 3) := xdc ddX7_readSecond_0 17 rfl
theorem dX7_readSecond_40 : decode cX7_readSecond 40 = .ok (.aload_n 0, 1) := xdc ddX7_readSecond_0 18 rfl
theorem dX7_readSecond_41 : decode cX7_readSecond 41 = .ok (.invokevirtual 170, 3) := xdc ddX7_readSecond_0 19 rfl
theorem dX7_readSecond_44 : decode cX7_readSecond 44 = .ok (.goto 7, 3) := xdc ddX7_readSecond_0 20 rfl
theorem dX7_readSecond_47 : decode cX7_readSecond 47 = .ok (.aload_n 0, 1) := xdc ddX7_readSecond_0 21 rfl
theorem dX7_readSecond_48 : decode cX7_readSecond 48 = .ok (.invokevirtual 246, 3) := xdc ddX7_readSecond_0 22 rfl
theorem dX7_readSecond_51 : decode cX7_readSecond 51 = .ok (.ireturn, 1) := xdc ddX7_readSecond_0 23 rfl
abbrev cX7_setPart : ByteArray := prog_9_method_11_code
theorem ddX7_setPart_0 : xdec cX7_setPart [(0, (.iload_n 2, 1)), (1, (.iconst 1, 1)), (2, (.if_icmp .ne 9, 3)), (5, (.iload_n 1, 1)), (6, (.iconst 3, 1)), (7, (.iand, 1)), (8, (.goto 7, 3)), (11, (.iload_n 1, 1)), (12, (.bipush 7, 2)), (14, (.iand, 1)), (15, (.istore 4, 2)), (17, (.iload_n 2, 1)), (18, (.iconst 1, 1)), (19, (.if_icmp .ne 13, 3)), (22, (.iload_n 1, 1)), (23, (.iconst 4, 1)), (24, (.if_icmp .lt 8, 3)), (27, (.bipush 8, 2)), (29, (.goto 4, 3)), (32, (.iconst 0, 1)), (33, (.istore 5, 2)), (35, (.iload_n 2, 1)), (36, (.iconst 1, 1)), (37, (.if_icmp .ne 12, 3)), (40, (.sipush 255, 3)), (43, (.iload 5, 2)), (45, (.ishl, 1)), (46, (.goto 14, 3)), (49, (.iload_n 2, 1)), (50, (.iconst 2, 1)), (51, (.if_icmp .ne 8, 3)), (54, (.ldc 210, 2)), (56, (.goto 4, 3)), (59, (.iconst (-1), 1)), (60, (.istore 6, 2)), (62, (.aload_n 0, 1)), (63, (.getfield 18, 3)), (66, (.iload 4, 2)), (68, (.aload_n 0, 1)), (69, (.getfield 18, 3))] = true := by decide +kernel
theorem dX7_setPart_0 : decode cX7_setPart 0 = .ok (.iload_n 2, 1) := xdc ddX7_setPart_0 0 rfl
theorem dX7_setPart_1 : decode cX7_setPart 1 = .ok (.iconst 1, 1) := xdc ddX7_setPart_0 1 rfl
theorem dX7_setPart_2 : decode cX7_setPart 2 = .ok (.if_icmp .ne 9, 3) := xdc ddX7_setPart_0 2 rfl
theorem dX7_setPart_5 : decode cX7_setPart 5 = .ok (.iload_n 1, 1) := xdc ddX7_setPart_0 3 rfl
theorem dX7_setPart_6 : decode cX7_setPart 6 = .ok (.iconst 3, 1) := xdc ddX7_setPart_0 4 rfl
theorem dX7_setPart_7 : decode cX7_setPart 7 = .ok (.iand, 1) := xdc ddX7_setPart_0 5 rfl
theorem dX7_setPart_8 : decode cX7_setPart 8 = .ok (.goto 7, 3) := xdc ddX7_setPart_0 6 rfl
theorem dX7_setPart_11 : decode cX7_setPart 11 = .ok (.iload_n 1, 1) := xdc ddX7_setPart_0 7 rfl
theorem dX7_setPart_12 : decode cX7_setPart 12 = .ok (.bipush 7, 2) := xdc ddX7_setPart_0 8 rfl
theorem dX7_setPart_14 : decode cX7_setPart 14 = .ok (.iand, 1) := xdc ddX7_setPart_0 9 rfl
theorem dX7_setPart_15 : decode cX7_setPart 15 = .ok (.istore 4, 2) := xdc ddX7_setPart_0 10 rfl
theorem dX7_setPart_17 : decode cX7_setPart 17 = .ok (.iload_n 2, 1) := xdc ddX7_setPart_0 11 rfl
theorem dX7_setPart_18 : decode cX7_setPart 18 = .ok (.iconst 1, 1) := xdc ddX7_setPart_0 12 rfl
theorem dX7_setPart_19 : decode cX7_setPart 19 = .ok (.if_icmp .ne 13, 3) := xdc ddX7_setPart_0 13 rfl
theorem dX7_setPart_22 : decode cX7_setPart 22 = .ok (.iload_n 1, 1) := xdc ddX7_setPart_0 14 rfl
theorem dX7_setPart_23 : decode cX7_setPart 23 = .ok (.iconst 4, 1) := xdc ddX7_setPart_0 15 rfl
theorem dX7_setPart_24 : decode cX7_setPart 24 = .ok (.if_icmp .lt 8, 3) := xdc ddX7_setPart_0 16 rfl
theorem dX7_setPart_27 : decode cX7_setPart 27 = .ok (.bipush 8, 2) := xdc ddX7_setPart_0 17 rfl
theorem dX7_setPart_29 : decode cX7_setPart 29 = .ok (.goto 4, 3) := xdc ddX7_setPart_0 18 rfl
theorem dX7_setPart_32 : decode cX7_setPart 32 = .ok (.iconst 0, 1) := xdc ddX7_setPart_0 19 rfl
theorem dX7_setPart_33 : decode cX7_setPart 33 = .ok (.istore 5, 2) := xdc ddX7_setPart_0 20 rfl
theorem dX7_setPart_35 : decode cX7_setPart 35 = .ok (.iload_n 2, 1) := xdc ddX7_setPart_0 21 rfl
theorem dX7_setPart_36 : decode cX7_setPart 36 = .ok (.iconst 1, 1) := xdc ddX7_setPart_0 22 rfl
theorem dX7_setPart_37 : decode cX7_setPart 37 = .ok (.if_icmp .ne 12, 3) := xdc ddX7_setPart_0 23 rfl
theorem dX7_setPart_40 : decode cX7_setPart 40 = .ok (.sipush 255, 3) := xdc ddX7_setPart_0 24 rfl
theorem dX7_setPart_43 : decode cX7_setPart 43 = .ok (.iload 5, 2) := xdc ddX7_setPart_0 25 rfl
theorem dX7_setPart_45 : decode cX7_setPart 45 = .ok (.ishl, 1) := xdc ddX7_setPart_0 26 rfl
theorem dX7_setPart_46 : decode cX7_setPart 46 = .ok (.goto 14, 3) := xdc ddX7_setPart_0 27 rfl
theorem dX7_setPart_49 : decode cX7_setPart 49 = .ok (.iload_n 2, 1) := xdc ddX7_setPart_0 28 rfl
theorem dX7_setPart_50 : decode cX7_setPart 50 = .ok (.iconst 2, 1) := xdc ddX7_setPart_0 29 rfl
theorem dX7_setPart_51 : decode cX7_setPart 51 = .ok (.if_icmp .ne 8, 3) := xdc ddX7_setPart_0 30 rfl
theorem dX7_setPart_54 : decode cX7_setPart 54 = .ok (.ldc 210, 2) := xdc ddX7_setPart_0 31 rfl
theorem dX7_setPart_56 : decode cX7_setPart 56 = .ok (.goto 4, 3) := xdc ddX7_setPart_0 32 rfl
theorem dX7_setPart_59 : decode cX7_setPart 59 = .ok (.iconst (-1), 1) := xdc ddX7_setPart_0 33 rfl
theorem dX7_setPart_60 : decode cX7_setPart 60 = .ok (.istore 6, 2) := xdc ddX7_setPart_0 34 rfl
theorem dX7_setPart_62 : decode cX7_setPart 62 = .ok (.aload_n 0, 1) := xdc ddX7_setPart_0 35 rfl
theorem dX7_setPart_63 : decode cX7_setPart 63 = .ok (.getfield 18, 3) := xdc ddX7_setPart_0 36 rfl
theorem dX7_setPart_66 : decode cX7_setPart 66 = .ok (.iload 4, 2) := xdc ddX7_setPart_0 37 rfl
theorem dX7_setPart_68 : decode cX7_setPart 68 = .ok (.aload_n 0, 1) := xdc ddX7_setPart_0 38 rfl
theorem dX7_setPart_69 : decode cX7_setPart 69 = .ok (.getfield 18, 3) := xdc ddX7_setPart_0 39 rfl
theorem ddX7_setPart_1 : xdec cX7_setPart [(72, (.iload 4, 2)), (74, (.iaload, 1)), (75, (.iload 6, 2)), (77, (.iconst (-1), 1)), (78, (.ixor, 1)), (79, (.iand, 1)), (80, (.iload_n 3, 1)), (81, (.iload 5, 2)), (83, (.ishl, 1)), (84, (.iload 6, 2)), (86, (.iand, 1)), (87, (.ior, 1)), (88, (.iastore, 1)), (89, (.return_, 1))] = true := by decide +kernel
theorem dX7_setPart_72 : decode cX7_setPart 72 = .ok (.iload 4, 2) := xdc ddX7_setPart_1 0 rfl
theorem dX7_setPart_74 : decode cX7_setPart 74 = .ok (.iaload, 1) := xdc ddX7_setPart_1 1 rfl
theorem dX7_setPart_75 : decode cX7_setPart 75 = .ok (.iload 6, 2) := xdc ddX7_setPart_1 2 rfl
theorem dX7_setPart_77 : decode cX7_setPart 77 = .ok (.iconst (-1), 1) := xdc ddX7_setPart_1 3 rfl
theorem dX7_setPart_78 : decode cX7_setPart 78 = .ok (.ixor, 1) := xdc ddX7_setPart_1 4 rfl
theorem dX7_setPart_79 : decode cX7_setPart 79 = .ok (.iand, 1) := xdc ddX7_setPart_1 5 rfl
theorem dX7_setPart_80 : decode cX7_setPart 80 = .ok (.iload_n 3, 1) := xdc ddX7_setPart_1 6 rfl
theorem dX7_setPart_81 : decode cX7_setPart 81 = .ok (.iload 5, 2) := xdc ddX7_setPart_1 7 rfl
theorem dX7_setPart_83 : decode cX7_setPart 83 = .ok (.ishl, 1) := xdc ddX7_setPart_1 8 rfl
theorem dX7_setPart_84 : decode cX7_setPart 84 = .ok (.iload 6, 2) := xdc ddX7_setPart_1 9 rfl
theorem dX7_setPart_86 : decode cX7_setPart 86 = .ok (.iand, 1) := xdc ddX7_setPart_1 10 rfl
theorem dX7_setPart_87 : decode cX7_setPart 87 = .ok (.ior, 1) := xdc ddX7_setPart_1 11 rfl
theorem dX7_setPart_88 : decode cX7_setPart 88 = .ok (.iastore, 1) := xdc ddX7_setPart_1 12 rfl
theorem dX7_setPart_89 : decode cX7_setPart 89 = .ok (.return_, 1) := xdc ddX7_setPart_1 13 rfl
abbrev cX7_writeG : ByteArray := prog_9_method_15_code
theorem ddX7_writeG_0 : xdec cX7_writeG [(0, (.aload_n 0, 1)), (1, (.aload_n 0, 1)), (2, (.getfield 38, 3)), (5, (.getfield 231, 3)), (8, (.aload_n 0, 1)), (9, (.getfield 38, 3)), (12, (.getfield 173, 3)), (15, (.iload_n 1, 1)), (16, (.invokevirtual 228, 3)), (19, (.return_, 1))] = true := by decide +kernel
theorem dX7_writeG_0 : decode cX7_writeG 0 = .ok (.aload_n 0, 1) := xdc ddX7_writeG_0 0 rfl
theorem dX7_writeG_1 : decode cX7_writeG 1 = .ok (.aload_n 0, 1) := xdc ddX7_writeG_0 1 rfl
theorem dX7_writeG_2 : decode cX7_writeG 2 = .ok (.getfield 38, 3) := xdc ddX7_writeG_0 2 rfl
theorem dX7_writeG_5 : decode cX7_writeG 5 = .ok (.getfield 231, 3) := xdc ddX7_writeG_0 3 rfl
theorem dX7_writeG_8 : decode cX7_writeG 8 = .ok (.aload_n 0, 1) := xdc ddX7_writeG_0 4 rfl
theorem dX7_writeG_9 : decode cX7_writeG 9 = .ok (.getfield 38, 3) := xdc ddX7_writeG_0 5 rfl
theorem dX7_writeG_12 : decode cX7_writeG 12 = .ok (.getfield 173, 3) := xdc ddX7_writeG_0 6 rfl
theorem dX7_writeG_15 : decode cX7_writeG 15 = .ok (.iload_n 1, 1) := xdc ddX7_writeG_0 7 rfl
theorem dX7_writeG_16 : decode cX7_writeG 16 = .ok (.invokevirtual 228, 3) := xdc ddX7_writeG_0 8 rfl
theorem dX7_writeG_19 : decode cX7_writeG 19 = .ok (.return_, 1) := xdc ddX7_writeG_0 9 rfl
abbrev cX8_store : ByteArray := prog_10_method_9_code
theorem ddX8_store_0 : xdec cX8_store [(0, (.iload_n 1, 1)), (1, (.iload_n 2, 1)), (2, (.i2l, 1)), (3, (.ldc 11, 2)), (5, (.ldc 22, 2)), (7, (.invokestatic 23, 3)), (10, (.ifCond .ne 30, 3)), (13, (.iload_n 1, 1)), (14, (.iload_n 2, 1)), (15, (.i2l, 1)), (16, (.ldc 44, 2)), (18, (.ldc 45, 2)), (20, (.invokestatic 23, 3)), (23, (.istore 4, 2)), (25, (.aload_n 0, 1)), (26, (.iload 4, 2)), (28, (.ifCond .eq 7, 3)), (31, (.iconst 5, 1)), (32, (.goto 5, 3)), (35, (.bipush 6, 2)), (37, (.invokevirtual 37, 3)), (40, (.aload_n 0, 1)), (41, (.getfield 34, 3)), (44, (.ifCond .eq 4, 3)), (47, (.return_, 1)), (48, (.iconst 0, 1)), (49, (.istore 4, 2)), (51, (.iload 4, 2)), (53, (.iload_n 2, 1)), (54, (.if_icmp .ge 24, 3)), (57, (.aload_n 0, 1)), (58, (.iload_n 1, 1)), (59, (.iload 4, 2)), (61, (.iadd, 1)), (62, (.iload_n 3, 1)), (63, (.bipush 8, 2)), (65, (.iload 4, 2)), (67, (.imul, 1)), (68, (.iushr, 1)), (69, (.invokevirtual 46, 3))] = true := by decide +kernel
theorem dX8_store_0 : decode cX8_store 0 = .ok (.iload_n 1, 1) := xdc ddX8_store_0 0 rfl
theorem dX8_store_1 : decode cX8_store 1 = .ok (.iload_n 2, 1) := xdc ddX8_store_0 1 rfl
theorem dX8_store_2 : decode cX8_store 2 = .ok (.i2l, 1) := xdc ddX8_store_0 2 rfl
theorem dX8_store_3 : decode cX8_store 3 = .ok (.ldc 11, 2) := xdc ddX8_store_0 3 rfl
theorem dX8_store_5 : decode cX8_store 5 = .ok (.ldc 22, 2) := xdc ddX8_store_0 4 rfl
theorem dX8_store_7 : decode cX8_store 7 = .ok (.invokestatic 23, 3) := xdc ddX8_store_0 5 rfl
theorem dX8_store_10 : decode cX8_store 10 = .ok (.ifCond .ne 30, 3) := xdc ddX8_store_0 6 rfl
theorem dX8_store_13 : decode cX8_store 13 = .ok (.iload_n 1, 1) := xdc ddX8_store_0 7 rfl
theorem dX8_store_14 : decode cX8_store 14 = .ok (.iload_n 2, 1) := xdc ddX8_store_0 8 rfl
theorem dX8_store_15 : decode cX8_store 15 = .ok (.i2l, 1) := xdc ddX8_store_0 9 rfl
theorem dX8_store_16 : decode cX8_store 16 = .ok (.ldc 44, 2) := xdc ddX8_store_0 10 rfl
theorem dX8_store_18 : decode cX8_store 18 = .ok (.ldc 45, 2) := xdc ddX8_store_0 11 rfl
theorem dX8_store_20 : decode cX8_store 20 = .ok (.invokestatic 23, 3) := xdc ddX8_store_0 12 rfl
theorem dX8_store_23 : decode cX8_store 23 = .ok (.istore 4, 2) := xdc ddX8_store_0 13 rfl
theorem dX8_store_25 : decode cX8_store 25 = .ok (.aload_n 0, 1) := xdc ddX8_store_0 14 rfl
theorem dX8_store_26 : decode cX8_store 26 = .ok (.iload 4, 2) := xdc ddX8_store_0 15 rfl
theorem dX8_store_28 : decode cX8_store 28 = .ok (.ifCond .eq 7, 3) := xdc ddX8_store_0 16 rfl
theorem dX8_store_31 : decode cX8_store 31 = .ok (.iconst 5, 1) := xdc ddX8_store_0 17 rfl
theorem dX8_store_32 : decode cX8_store 32 = .ok (.goto 5, 3) := xdc ddX8_store_0 18 rfl
theorem dX8_store_35 : decode cX8_store 35 = .ok (.bipush 6, 2) := xdc ddX8_store_0 19 rfl
theorem dX8_store_37 : decode cX8_store 37 = .ok (.invokevirtual 37, 3) := xdc ddX8_store_0 20 rfl
theorem dX8_store_40 : decode cX8_store 40 = .ok (.aload_n 0, 1) := xdc ddX8_store_0 21 rfl
theorem dX8_store_41 : decode cX8_store 41 = .ok (.getfield 34, 3) := xdc ddX8_store_0 22 rfl
theorem dX8_store_44 : decode cX8_store 44 = .ok (.ifCond .eq 4, 3) := xdc ddX8_store_0 23 rfl
theorem dX8_store_47 : decode cX8_store 47 = .ok (.return_, 1) := xdc ddX8_store_0 24 rfl
theorem dX8_store_48 : decode cX8_store 48 = .ok (.iconst 0, 1) := xdc ddX8_store_0 25 rfl
theorem dX8_store_49 : decode cX8_store 49 = .ok (.istore 4, 2) := xdc ddX8_store_0 26 rfl
theorem dX8_store_51 : decode cX8_store 51 = .ok (.iload 4, 2) := xdc ddX8_store_0 27 rfl
theorem dX8_store_53 : decode cX8_store 53 = .ok (.iload_n 2, 1) := xdc ddX8_store_0 28 rfl
theorem dX8_store_54 : decode cX8_store 54 = .ok (.if_icmp .ge 24, 3) := xdc ddX8_store_0 29 rfl
theorem dX8_store_57 : decode cX8_store 57 = .ok (.aload_n 0, 1) := xdc ddX8_store_0 30 rfl
theorem dX8_store_58 : decode cX8_store 58 = .ok (.iload_n 1, 1) := xdc ddX8_store_0 31 rfl
theorem dX8_store_59 : decode cX8_store 59 = .ok (.iload 4, 2) := xdc ddX8_store_0 32 rfl
theorem dX8_store_61 : decode cX8_store 61 = .ok (.iadd, 1) := xdc ddX8_store_0 33 rfl
theorem dX8_store_62 : decode cX8_store 62 = .ok (.iload_n 3, 1) := xdc ddX8_store_0 34 rfl
theorem dX8_store_63 : decode cX8_store 63 = .ok (.bipush 8, 2) := xdc ddX8_store_0 35 rfl
theorem dX8_store_65 : decode cX8_store 65 = .ok (.iload 4, 2) := xdc ddX8_store_0 36 rfl
theorem dX8_store_67 : decode cX8_store 67 = .ok (.imul, 1) := xdc ddX8_store_0 37 rfl
theorem dX8_store_68 : decode cX8_store 68 = .ok (.iushr, 1) := xdc ddX8_store_0 38 rfl
theorem dX8_store_69 : decode cX8_store 69 = .ok (.invokevirtual 46, 3) := xdc ddX8_store_0 39 rfl
theorem ddX8_store_1 : xdec cX8_store [(72, (.iinc 4 1, 3)), (75, (.goto (-24), 3)), (78, (.return_, 1))] = true := by decide +kernel
theorem dX8_store_72 : decode cX8_store 72 = .ok (.iinc 4 1, 3) := xdc ddX8_store_1 0 rfl
theorem dX8_store_75 : decode cX8_store 75 = .ok (.goto (-24), 3) := xdc ddX8_store_1 1 rfl
theorem dX8_store_78 : decode cX8_store 78 = .ok (.return_, 1) := xdc ddX8_store_1 2 rfl
abbrev cX7_writeE : ByteArray := prog_9_method_13_code
theorem ddX7_writeE_0 : xdec cX7_writeE [(0, (.aload_n 0, 1)), (1, (.getfield 38, 3)), (4, (.getfield 211, 3)), (7, (.ifCond .eq 25, 3)), (10, (.aload_n 0, 1)), (11, (.getfield 42, 3)), (14, (.aload_n 0, 1)), (15, (.getfield 143, 3)), (18, (.aload_n 0, 1)), (19, (.getfield 38, 3)), (22, (.getfield 215, 3)), (25, (.iload_n 1, 1)), (26, (.invokevirtual 224, 3)), (29, (.goto 22, 3)), (32, (.aload_n 0, 1)), (33, (.aload_n 0, 1)), (34, (.getfield 38, 3)), (37, (.getfield 218, 3)), (40, (.aload_n 0, 1)), (41, (.getfield 38, 3)), (44, (.getfield 215, 3)), (47, (.iload_n 1, 1)), (48, (.invokevirtual 228, 3)), (51, (.return_, 1))] = true := by decide +kernel
theorem dX7_writeE_0 : decode cX7_writeE 0 = .ok (.aload_n 0, 1) := xdc ddX7_writeE_0 0 rfl
theorem dX7_writeE_1 : decode cX7_writeE 1 = .ok (.getfield 38, 3) := xdc ddX7_writeE_0 1 rfl
theorem dX7_writeE_4 : decode cX7_writeE 4 = .ok (.getfield 211, 3) := xdc ddX7_writeE_0 2 rfl
theorem dX7_writeE_7 : decode cX7_writeE 7 = .ok (.ifCond .eq 25, 3) := xdc ddX7_writeE_0 3 rfl
theorem dX7_writeE_10 : decode cX7_writeE 10 = .ok (.aload_n 0, 1) := xdc ddX7_writeE_0 4 rfl
theorem dX7_writeE_11 : decode cX7_writeE 11 = .ok (.getfield 42, 3) := xdc ddX7_writeE_0 5 rfl
theorem dX7_writeE_14 : decode cX7_writeE 14 = .ok (.aload_n 0, 1) := xdc ddX7_writeE_0 6 rfl
theorem dX7_writeE_15 : decode cX7_writeE 15 = .ok (.getfield 143, 3) := xdc ddX7_writeE_0 7 rfl
theorem dX7_writeE_18 : decode cX7_writeE 18 = .ok (.aload_n 0, 1) := xdc ddX7_writeE_0 8 rfl
theorem dX7_writeE_19 : decode cX7_writeE 19 = .ok (.getfield 38, 3) := xdc ddX7_writeE_0 9 rfl
theorem dX7_writeE_22 : decode cX7_writeE 22 = .ok (.getfield 215, 3) := xdc ddX7_writeE_0 10 rfl
theorem dX7_writeE_25 : decode cX7_writeE 25 = .ok (.iload_n 1, 1) := xdc ddX7_writeE_0 11 rfl
theorem dX7_writeE_26 : decode cX7_writeE 26 = .ok (.invokevirtual 224, 3) := xdc ddX7_writeE_0 12 rfl
theorem dX7_writeE_29 : decode cX7_writeE 29 = .ok (.goto 22, 3) := xdc ddX7_writeE_0 13 rfl
theorem dX7_writeE_32 : decode cX7_writeE 32 = .ok (.aload_n 0, 1) := xdc ddX7_writeE_0 14 rfl
theorem dX7_writeE_33 : decode cX7_writeE 33 = .ok (.aload_n 0, 1) := xdc ddX7_writeE_0 15 rfl
theorem dX7_writeE_34 : decode cX7_writeE 34 = .ok (.getfield 38, 3) := xdc ddX7_writeE_0 16 rfl
theorem dX7_writeE_37 : decode cX7_writeE 37 = .ok (.getfield 218, 3) := xdc ddX7_writeE_0 17 rfl
theorem dX7_writeE_40 : decode cX7_writeE 40 = .ok (.aload_n 0, 1) := xdc ddX7_writeE_0 18 rfl
theorem dX7_writeE_41 : decode cX7_writeE 41 = .ok (.getfield 38, 3) := xdc ddX7_writeE_0 19 rfl
theorem dX7_writeE_44 : decode cX7_writeE 44 = .ok (.getfield 215, 3) := xdc ddX7_writeE_0 20 rfl
theorem dX7_writeE_47 : decode cX7_writeE 47 = .ok (.iload_n 1, 1) := xdc ddX7_writeE_0 21 rfl
theorem dX7_writeE_48 : decode cX7_writeE 48 = .ok (.invokevirtual 228, 3) := xdc ddX7_writeE_0 22 rfl
theorem dX7_writeE_51 : decode cX7_writeE 51 = .ok (.return_, 1) := xdc ddX7_writeE_0 23 rfl
abbrev cX7_writeFirst : ByteArray := prog_9_method_17_code
theorem ddX7_writeFirst_0 : xdec cX7_writeFirst [(0, (.aload_n 0, 1)), (1, (.getfield 38, 3)), (4, (.invokevirtual 243, 3)), (7, (.ifCond .eq 11, 3)), (10, (.aload_n 0, 1)), (11, (.iload_n 1, 1)), (12, (.invokevirtual 249, 3)), (15, (.goto 8, 3)), (18, (.aload_n 0, 1)), (19, (.iload_n 1, 1)), (20, (.invokevirtual 180, 3)), (23, (.return_, 1))] = true := by decide +kernel
theorem dX7_writeFirst_0 : decode cX7_writeFirst 0 = .ok (.aload_n 0, 1) := xdc ddX7_writeFirst_0 0 rfl
theorem dX7_writeFirst_1 : decode cX7_writeFirst 1 = .ok (.getfield 38, 3) := xdc ddX7_writeFirst_0 1 rfl
theorem dX7_writeFirst_4 : decode cX7_writeFirst 4 = .ok (.invokevirtual 243, 3) := xdc ddX7_writeFirst_0 2 rfl
theorem dX7_writeFirst_7 : decode cX7_writeFirst 7 = .ok (.ifCond .eq 11, 3) := xdc ddX7_writeFirst_0 3 rfl
theorem dX7_writeFirst_10 : decode cX7_writeFirst 10 = .ok (.aload_n 0, 1) := xdc ddX7_writeFirst_0 4 rfl
theorem dX7_writeFirst_11 : decode cX7_writeFirst 11 = .ok (.iload_n 1, 1) := xdc ddX7_writeFirst_0 5 rfl
theorem dX7_writeFirst_12 : decode cX7_writeFirst 12 = .ok (.invokevirtual 249, 3) := xdc ddX7_writeFirst_0 6 rfl
theorem dX7_writeFirst_15 : decode cX7_writeFirst 15 = .ok (.goto 8, 3) := xdc ddX7_writeFirst_0 7 rfl
theorem dX7_writeFirst_18 : decode cX7_writeFirst 18 = .ok (.aload_n 0, 1) := xdc ddX7_writeFirst_0 8 rfl
theorem dX7_writeFirst_19 : decode cX7_writeFirst 19 = .ok (.iload_n 1, 1) := xdc ddX7_writeFirst_0 9 rfl
theorem dX7_writeFirst_20 : decode cX7_writeFirst 20 = .ok (.invokevirtual 180, 3) := xdc ddX7_writeFirst_0 10 rfl
theorem dX7_writeFirst_23 : decode cX7_writeFirst 23 = .ok (.return_, 1) := xdc ddX7_writeFirst_0 11 rfl
abbrev cX7_doArithmetic : ByteArray := prog_9_method_18_code
theorem ddX7_doArithmetic_0 : xdec cX7_doArithmetic [(0, (.aload_n 0, 1)), (1, (.getfield 38, 3)), (4, (.invokevirtual 243, 3)), (7, (.ifCond .eq 10, 3)), (10, (.aload_n 0, 1)), (11, (.invokevirtual 246, 3)), (14, (.goto 7, 3)), (17, (.aload_n 0, 1)), (18, (.invokevirtual 170, 3)), (21, (.istore_n 1, 1)), (22, (.aload_n 0, 1)), (23, (.getfield 12, 3)), (26, (.aload_n 0, 1)), (27, (.getfield 38, 3)), (30, (.getfield 158, 3)), (33, (.iload_n 1, 1)), (34, (.aload_n 0, 1)), (35, (.invokevirtual 252, 3)), (38, (.aload_n 0, 1)), (39, (.getfield 38, 3)), (42, (.getfield 173, 3)), (45, (.invokevirtual 255, 3)), (48, (.istore_n 2, 1)), (49, (.aload_n 0, 1)), (50, (.getfield 38, 3)), (53, (.getfield 158, 3)), (56, (.getfield 259, 3)), (59, (.ifCond .eq 8, 3)), (62, (.aload_n 0, 1)), (63, (.iload_n 2, 1)), (64, (.invokevirtual 262, 3)), (67, (.return_, 1))] = true := by decide +kernel
theorem dX7_doArithmetic_0 : decode cX7_doArithmetic 0 = .ok (.aload_n 0, 1) := xdc ddX7_doArithmetic_0 0 rfl
theorem dX7_doArithmetic_1 : decode cX7_doArithmetic 1 = .ok (.getfield 38, 3) := xdc ddX7_doArithmetic_0 1 rfl
theorem dX7_doArithmetic_4 : decode cX7_doArithmetic 4 = .ok (.invokevirtual 243, 3) := xdc ddX7_doArithmetic_0 2 rfl
theorem dX7_doArithmetic_7 : decode cX7_doArithmetic 7 = .ok (.ifCond .eq 10, 3) := xdc ddX7_doArithmetic_0 3 rfl
theorem dX7_doArithmetic_10 : decode cX7_doArithmetic 10 = .ok (.aload_n 0, 1) := xdc ddX7_doArithmetic_0 4 rfl
theorem dX7_doArithmetic_11 : decode cX7_doArithmetic 11 = .ok (.invokevirtual 246, 3) := xdc ddX7_doArithmetic_0 5 rfl
theorem dX7_doArithmetic_14 : decode cX7_doArithmetic 14 = .ok (.goto 7, 3) := xdc ddX7_doArithmetic_0 6 rfl
theorem dX7_doArithmetic_17 : decode cX7_doArithmetic 17 = .ok (.aload_n 0, 1) := xdc ddX7_doArithmetic_0 7 rfl
theorem dX7_doArithmetic_18 : decode cX7_doArithmetic 18 = .ok (.invokevirtual 170, 3) := xdc ddX7_doArithmetic_0 8 rfl
theorem dX7_doArithmetic_21 : decode cX7_doArithmetic 21 = .ok (.istore_n 1, 1) := xdc ddX7_doArithmetic_0 9 rfl
theorem dX7_doArithmetic_22 : decode cX7_doArithmetic 22 = .ok (.aload_n 0, 1) := xdc ddX7_doArithmetic_0 10 rfl
theorem dX7_doArithmetic_23 : decode cX7_doArithmetic 23 = .ok (.getfield 12, 3) := xdc ddX7_doArithmetic_0 11 rfl
theorem dX7_doArithmetic_26 : decode cX7_doArithmetic 26 = .ok (.aload_n 0, 1) := xdc ddX7_doArithmetic_0 12 rfl
theorem dX7_doArithmetic_27 : decode cX7_doArithmetic 27 = .ok (.getfield 38, 3) := xdc ddX7_doArithmetic_0 13 rfl
theorem dX7_doArithmetic_30 : decode cX7_doArithmetic 30 = .ok (.getfield 158, 3) := xdc ddX7_doArithmetic_0 14 rfl
theorem dX7_doArithmetic_33 : decode cX7_doArithmetic 33 = .ok (.iload_n 1, 1) := xdc ddX7_doArithmetic_0 15 rfl
theorem dX7_doArithmetic_34 : decode cX7_doArithmetic 34 = .ok (.aload_n 0, 1) := xdc ddX7_doArithmetic_0 16 rfl
theorem dX7_doArithmetic_35 : decode cX7_doArithmetic 35 = .ok (.invokevirtual 252, 3) := xdc ddX7_doArithmetic_0 17 rfl
theorem dX7_doArithmetic_38 : decode cX7_doArithmetic 38 = .ok (.aload_n 0, 1) := xdc ddX7_doArithmetic_0 18 rfl
theorem dX7_doArithmetic_39 : decode cX7_doArithmetic 39 = .ok (.getfield 38, 3) := xdc ddX7_doArithmetic_0 19 rfl
theorem dX7_doArithmetic_42 : decode cX7_doArithmetic 42 = .ok (.getfield 173, 3) := xdc ddX7_doArithmetic_0 20 rfl
theorem dX7_doArithmetic_45 : decode cX7_doArithmetic 45 = .ok (.invokevirtual 255, 3) := xdc ddX7_doArithmetic_0 21 rfl
theorem dX7_doArithmetic_48 : decode cX7_doArithmetic 48 = .ok (.istore_n 2, 1) := xdc ddX7_doArithmetic_0 22 rfl
theorem dX7_doArithmetic_49 : decode cX7_doArithmetic 49 = .ok (.aload_n 0, 1) := xdc ddX7_doArithmetic_0 23 rfl
theorem dX7_doArithmetic_50 : decode cX7_doArithmetic 50 = .ok (.getfield 38, 3) := xdc ddX7_doArithmetic_0 24 rfl
theorem dX7_doArithmetic_53 : decode cX7_doArithmetic 53 = .ok (.getfield 158, 3) := xdc ddX7_doArithmetic_0 25 rfl
theorem dX7_doArithmetic_56 : decode cX7_doArithmetic 56 = .ok (.getfield 259, 3) := xdc ddX7_doArithmetic_0 26 rfl
theorem dX7_doArithmetic_59 : decode cX7_doArithmetic 59 = .ok (.ifCond .eq 8, 3) := xdc ddX7_doArithmetic_0 27 rfl
theorem dX7_doArithmetic_62 : decode cX7_doArithmetic 62 = .ok (.aload_n 0, 1) := xdc ddX7_doArithmetic_0 28 rfl
theorem dX7_doArithmetic_63 : decode cX7_doArithmetic 63 = .ok (.iload_n 2, 1) := xdc ddX7_doArithmetic_0 29 rfl
theorem dX7_doArithmetic_64 : decode cX7_doArithmetic 64 = .ok (.invokevirtual 262, 3) := xdc ddX7_doArithmetic_0 30 rfl
theorem dX7_doArithmetic_67 : decode cX7_doArithmetic 67 = .ok (.return_, 1) := xdc ddX7_doArithmetic_0 31 rfl
abbrev cX7_doShift : ByteArray := prog_9_method_19_code
theorem ddX7_doShift_0 : xdec cX7_doShift [(0, (.aload_n 0, 1)), (1, (.getfield 38, 3)), (4, (.getfield 234, 3)), (7, (.iconst 4, 1)), (8, (.if_icmp .ne 12, 3)), (11, (.aload_n 0, 1)), (12, (.getfield 18, 3)), (15, (.iconst 1, 1)), (16, (.iaload, 1)), (17, (.goto 10, 3)), (20, (.aload_n 0, 1)), (21, (.getfield 38, 3)), (24, (.getfield 237, 3)), (27, (.bipush 31, 2)), (29, (.iand, 1)), (30, (.istore_n 1, 1)), (31, (.aload_n 0, 1)), (32, (.invokevirtual 170, 3)), (35, (.istore_n 2, 1)), (36, (.iload_n 1, 1)), (37, (.ifCond .ne 4, 3)), (40, (.return_, 1)), (41, (.aload_n 0, 1)), (42, (.getfield 38, 3)), (45, (.getfield 158, 3)), (48, (.getfield 162, 3)), (51, (.iconst 2, 1)), (52, (.if_icmp .ne 33, 3)), (55, (.aload_n 0, 1)), (56, (.aload_n 0, 1)), (57, (.getfield 12, 3)), (60, (.aload_n 0, 1)), (61, (.getfield 38, 3)), (64, (.getfield 158, 3)), (67, (.iload_n 2, 1)), (68, (.iload_n 1, 1)), (69, (.aload_n 0, 1)), (70, (.getfield 38, 3)), (73, (.getfield 173, 3)), (76, (.invokevirtual 265, 3))] = true := by decide +kernel
theorem dX7_doShift_0 : decode cX7_doShift 0 = .ok (.aload_n 0, 1) := xdc ddX7_doShift_0 0 rfl
theorem dX7_doShift_1 : decode cX7_doShift 1 = .ok (.getfield 38, 3) := xdc ddX7_doShift_0 1 rfl
theorem dX7_doShift_4 : decode cX7_doShift 4 = .ok (.getfield 234, 3) := xdc ddX7_doShift_0 2 rfl
theorem dX7_doShift_7 : decode cX7_doShift 7 = .ok (.iconst 4, 1) := xdc ddX7_doShift_0 3 rfl
theorem dX7_doShift_8 : decode cX7_doShift 8 = .ok (.if_icmp .ne 12, 3) := xdc ddX7_doShift_0 4 rfl
theorem dX7_doShift_11 : decode cX7_doShift 11 = .ok (.aload_n 0, 1) := xdc ddX7_doShift_0 5 rfl
theorem dX7_doShift_12 : decode cX7_doShift 12 = .ok (.getfield 18, 3) := xdc ddX7_doShift_0 6 rfl
theorem dX7_doShift_15 : decode cX7_doShift 15 = .ok (.iconst 1, 1) := xdc ddX7_doShift_0 7 rfl
theorem dX7_doShift_16 : decode cX7_doShift 16 = .ok (.iaload, 1) := xdc ddX7_doShift_0 8 rfl
theorem dX7_doShift_17 : decode cX7_doShift 17 = .ok (.goto 10, 3) := xdc ddX7_doShift_0 9 rfl
theorem dX7_doShift_20 : decode cX7_doShift 20 = .ok (.aload_n 0, 1) := xdc ddX7_doShift_0 10 rfl
theorem dX7_doShift_21 : decode cX7_doShift 21 = .ok (.getfield 38, 3) := xdc ddX7_doShift_0 11 rfl
theorem dX7_doShift_24 : decode cX7_doShift 24 = .ok (.getfield 237, 3) := xdc ddX7_doShift_0 12 rfl
theorem dX7_doShift_27 : decode cX7_doShift 27 = .ok (.bipush 31, 2) := xdc ddX7_doShift_0 13 rfl
theorem dX7_doShift_29 : decode cX7_doShift 29 = .ok (.iand, 1) := xdc ddX7_doShift_0 14 rfl
theorem dX7_doShift_30 : decode cX7_doShift 30 = .ok (.istore_n 1, 1) := xdc ddX7_doShift_0 15 rfl
theorem dX7_doShift_31 : decode cX7_doShift 31 = .ok (.aload_n 0, 1) := xdc ddX7_doShift_0 16 rfl
theorem dX7_doShift_32 : decode cX7_doShift 32 = .ok (.invokevirtual 170, 3) := xdc ddX7_doShift_0 17 rfl
theorem dX7_doShift_35 : decode cX7_doShift 35 = .ok (.istore_n 2, 1) := xdc ddX7_doShift_0 18 rfl
theorem dX7_doShift_36 : decode cX7_doShift 36 = .ok (.iload_n 1, 1) := xdc ddX7_doShift_0 19 rfl
theorem dX7_doShift_37 : decode cX7_doShift 37 = .ok (.ifCond .ne 4, 3) := xdc ddX7_doShift_0 20 rfl
theorem dX7_doShift_40 : decode cX7_doShift 40 = .ok (.return_, 1) := xdc ddX7_doShift_0 21 rfl
theorem dX7_doShift_41 : decode cX7_doShift 41 = .ok (.aload_n 0, 1) := xdc ddX7_doShift_0 22 rfl
theorem dX7_doShift_42 : decode cX7_doShift 42 = .ok (.getfield 38, 3) := xdc ddX7_doShift_0 23 rfl
theorem dX7_doShift_45 : decode cX7_doShift 45 = .ok (.getfield 158, 3) := xdc ddX7_doShift_0 24 rfl
theorem dX7_doShift_48 : decode cX7_doShift 48 = .ok (.getfield 162, 3) := xdc ddX7_doShift_0 25 rfl
theorem dX7_doShift_51 : decode cX7_doShift 51 = .ok (.iconst 2, 1) := xdc ddX7_doShift_0 26 rfl
theorem dX7_doShift_52 : decode cX7_doShift 52 = .ok (.if_icmp .ne 33, 3) := xdc ddX7_doShift_0 27 rfl
theorem dX7_doShift_55 : decode cX7_doShift 55 = .ok (.aload_n 0, 1) := xdc ddX7_doShift_0 28 rfl
theorem dX7_doShift_56 : decode cX7_doShift 56 = .ok (.aload_n 0, 1) := xdc ddX7_doShift_0 29 rfl
theorem dX7_doShift_57 : decode cX7_doShift 57 = .ok (.getfield 12, 3) := xdc ddX7_doShift_0 30 rfl
theorem dX7_doShift_60 : decode cX7_doShift 60 = .ok (.aload_n 0, 1) := xdc ddX7_doShift_0 31 rfl
theorem dX7_doShift_61 : decode cX7_doShift 61 = .ok (.getfield 38, 3) := xdc ddX7_doShift_0 32 rfl
theorem dX7_doShift_64 : decode cX7_doShift 64 = .ok (.getfield 158, 3) := xdc ddX7_doShift_0 33 rfl
theorem dX7_doShift_67 : decode cX7_doShift 67 = .ok (.iload_n 2, 1) := xdc ddX7_doShift_0 34 rfl
theorem dX7_doShift_68 : decode cX7_doShift 68 = .ok (.iload_n 1, 1) := xdc ddX7_doShift_0 35 rfl
theorem dX7_doShift_69 : decode cX7_doShift 69 = .ok (.aload_n 0, 1) := xdc ddX7_doShift_0 36 rfl
theorem dX7_doShift_70 : decode cX7_doShift 70 = .ok (.getfield 38, 3) := xdc ddX7_doShift_0 37 rfl
theorem dX7_doShift_73 : decode cX7_doShift 73 = .ok (.getfield 173, 3) := xdc ddX7_doShift_0 38 rfl
theorem dX7_doShift_76 : decode cX7_doShift 76 = .ok (.invokevirtual 265, 3) := xdc ddX7_doShift_0 39 rfl
theorem ddX7_doShift_1 : xdec cX7_doShift [(79, (.invokevirtual 180, 3)), (82, (.goto 27, 3)), (85, (.aload_n 0, 1)), (86, (.aload_n 0, 1)), (87, (.getfield 12, 3)), (90, (.aload_n 0, 1)), (91, (.getfield 38, 3)), (94, (.getfield 158, 3)), (97, (.iload_n 2, 1)), (98, (.aload_n 0, 1)), (99, (.invokevirtual 246, 3)), (102, (.iload_n 1, 1)), (103, (.invokevirtual 268, 3)), (106, (.invokevirtual 180, 3)), (109, (.return_, 1))] = true := by decide +kernel
theorem dX7_doShift_79 : decode cX7_doShift 79 = .ok (.invokevirtual 180, 3) := xdc ddX7_doShift_1 0 rfl
theorem dX7_doShift_82 : decode cX7_doShift 82 = .ok (.goto 27, 3) := xdc ddX7_doShift_1 1 rfl
theorem dX7_doShift_85 : decode cX7_doShift 85 = .ok (.aload_n 0, 1) := xdc ddX7_doShift_1 2 rfl
theorem dX7_doShift_86 : decode cX7_doShift 86 = .ok (.aload_n 0, 1) := xdc ddX7_doShift_1 3 rfl
theorem dX7_doShift_87 : decode cX7_doShift 87 = .ok (.getfield 12, 3) := xdc ddX7_doShift_1 4 rfl
theorem dX7_doShift_90 : decode cX7_doShift 90 = .ok (.aload_n 0, 1) := xdc ddX7_doShift_1 5 rfl
theorem dX7_doShift_91 : decode cX7_doShift 91 = .ok (.getfield 38, 3) := xdc ddX7_doShift_1 6 rfl
theorem dX7_doShift_94 : decode cX7_doShift 94 = .ok (.getfield 158, 3) := xdc ddX7_doShift_1 7 rfl
theorem dX7_doShift_97 : decode cX7_doShift 97 = .ok (.iload_n 2, 1) := xdc ddX7_doShift_1 8 rfl
theorem dX7_doShift_98 : decode cX7_doShift 98 = .ok (.aload_n 0, 1) := xdc ddX7_doShift_1 9 rfl
theorem dX7_doShift_99 : decode cX7_doShift 99 = .ok (.invokevirtual 246, 3) := xdc ddX7_doShift_1 10 rfl
theorem dX7_doShift_102 : decode cX7_doShift 102 = .ok (.iload_n 1, 1) := xdc ddX7_doShift_1 11 rfl
theorem dX7_doShift_103 : decode cX7_doShift 103 = .ok (.invokevirtual 268, 3) := xdc ddX7_doShift_1 12 rfl
theorem dX7_doShift_106 : decode cX7_doShift 106 = .ok (.invokevirtual 180, 3) := xdc ddX7_doShift_1 13 rfl
theorem dX7_doShift_109 : decode cX7_doShift 109 = .ok (.return_, 1) := xdc ddX7_doShift_1 14 rfl
abbrev cX7_multiplyByte : ByteArray := prog_9_method_21_code
theorem ddX7_multiplyByte_0 : xdec cX7_multiplyByte [(0, (.aload_n 0, 1)), (1, (.getfield 38, 3)), (4, (.getfield 158, 3)), (7, (.getstatic 288, 3)), (10, (.if_acmp .ne 7, 3)), (13, (.iconst 1, 1)), (14, (.goto 4, 3)), (17, (.iconst 0, 1)), (18, (.istore_n 2, 1)), (19, (.aload_n 0, 1)), (20, (.iconst 0, 1)), (21, (.iconst 1, 1)), (22, (.invokevirtual 221, 3)), (25, (.istore_n 3, 1)), (26, (.iload_n 2, 1)), (27, (.ifCond .eq 11, 3)), (30, (.iload_n 3, 1)), (31, (.i2b, 1)), (32, (.iload_n 1, 1)), (33, (.i2b, 1)), (34, (.imul, 1)), (35, (.goto 6, 3)), (38, (.iload_n 3, 1)), (39, (.iload_n 1, 1)), (40, (.imul, 1)), (41, (.istore 4, 2)), (43, (.iload_n 2, 1)), (44, (.ifCond .eq 19, 3)), (47, (.iload 4, 2)), (49, (.iload 4, 2)), (51, (.i2b, 1)), (52, (.if_icmp .eq 7, 3)), (55, (.iconst 1, 1)), (56, (.goto 20, 3)), (59, (.iconst 0, 1)), (60, (.goto 16, 3)), (63, (.iload 4, 2)), (65, (.sipush 255, 3)), (68, (.if_icmp .le 7, 3)), (71, (.iconst 1, 1))] = true := by decide +kernel
theorem dX7_multiplyByte_0 : decode cX7_multiplyByte 0 = .ok (.aload_n 0, 1) := xdc ddX7_multiplyByte_0 0 rfl
theorem dX7_multiplyByte_1 : decode cX7_multiplyByte 1 = .ok (.getfield 38, 3) := xdc ddX7_multiplyByte_0 1 rfl
theorem dX7_multiplyByte_4 : decode cX7_multiplyByte 4 = .ok (.getfield 158, 3) := xdc ddX7_multiplyByte_0 2 rfl
theorem dX7_multiplyByte_7 : decode cX7_multiplyByte 7 = .ok (.getstatic 288, 3) := xdc ddX7_multiplyByte_0 3 rfl
theorem dX7_multiplyByte_10 : decode cX7_multiplyByte 10 = .ok (.if_acmp .ne 7, 3) := xdc ddX7_multiplyByte_0 4 rfl
theorem dX7_multiplyByte_13 : decode cX7_multiplyByte 13 = .ok (.iconst 1, 1) := xdc ddX7_multiplyByte_0 5 rfl
theorem dX7_multiplyByte_14 : decode cX7_multiplyByte 14 = .ok (.goto 4, 3) := xdc ddX7_multiplyByte_0 6 rfl
theorem dX7_multiplyByte_17 : decode cX7_multiplyByte 17 = .ok (.iconst 0, 1) := xdc ddX7_multiplyByte_0 7 rfl
theorem dX7_multiplyByte_18 : decode cX7_multiplyByte 18 = .ok (.istore_n 2, 1) := xdc ddX7_multiplyByte_0 8 rfl
theorem dX7_multiplyByte_19 : decode cX7_multiplyByte 19 = .ok (.aload_n 0, 1) := xdc ddX7_multiplyByte_0 9 rfl
theorem dX7_multiplyByte_20 : decode cX7_multiplyByte 20 = .ok (.iconst 0, 1) := xdc ddX7_multiplyByte_0 10 rfl
theorem dX7_multiplyByte_21 : decode cX7_multiplyByte 21 = .ok (.iconst 1, 1) := xdc ddX7_multiplyByte_0 11 rfl
theorem dX7_multiplyByte_22 : decode cX7_multiplyByte 22 = .ok (.invokevirtual 221, 3) := xdc ddX7_multiplyByte_0 12 rfl
theorem dX7_multiplyByte_25 : decode cX7_multiplyByte 25 = .ok (.istore_n 3, 1) := xdc ddX7_multiplyByte_0 13 rfl
theorem dX7_multiplyByte_26 : decode cX7_multiplyByte 26 = .ok (.iload_n 2, 1) := xdc ddX7_multiplyByte_0 14 rfl
theorem dX7_multiplyByte_27 : decode cX7_multiplyByte 27 = .ok (.ifCond .eq 11, 3) := xdc ddX7_multiplyByte_0 15 rfl
theorem dX7_multiplyByte_30 : decode cX7_multiplyByte 30 = .ok (.iload_n 3, 1) := xdc ddX7_multiplyByte_0 16 rfl
theorem dX7_multiplyByte_31 : decode cX7_multiplyByte 31 = .ok (.i2b, 1) := xdc ddX7_multiplyByte_0 17 rfl
theorem dX7_multiplyByte_32 : decode cX7_multiplyByte 32 = .ok (.iload_n 1, 1) := xdc ddX7_multiplyByte_0 18 rfl
theorem dX7_multiplyByte_33 : decode cX7_multiplyByte 33 = .ok (.i2b, 1) := xdc ddX7_multiplyByte_0 19 rfl
theorem dX7_multiplyByte_34 : decode cX7_multiplyByte 34 = .ok (.imul, 1) := xdc ddX7_multiplyByte_0 20 rfl
theorem dX7_multiplyByte_35 : decode cX7_multiplyByte 35 = .ok (.goto 6, 3) := xdc ddX7_multiplyByte_0 21 rfl
theorem dX7_multiplyByte_38 : decode cX7_multiplyByte 38 = .ok (.iload_n 3, 1) := xdc ddX7_multiplyByte_0 22 rfl
theorem dX7_multiplyByte_39 : decode cX7_multiplyByte 39 = .ok (.iload_n 1, 1) := xdc ddX7_multiplyByte_0 23 rfl
theorem dX7_multiplyByte_40 : decode cX7_multiplyByte 40 = .ok (.imul, 1) := xdc ddX7_multiplyByte_0 24 rfl
theorem dX7_multiplyByte_41 : decode cX7_multiplyByte 41 = .ok (.istore 4, 2) := xdc ddX7_multiplyByte_0 25 rfl
theorem dX7_multiplyByte_43 : decode cX7_multiplyByte 43 = .ok (.iload_n 2, 1) := xdc ddX7_multiplyByte_0 26 rfl
theorem dX7_multiplyByte_44 : decode cX7_multiplyByte 44 = .ok (.ifCond .eq 19, 3) := xdc ddX7_multiplyByte_0 27 rfl
theorem dX7_multiplyByte_47 : decode cX7_multiplyByte 47 = .ok (.iload 4, 2) := xdc ddX7_multiplyByte_0 28 rfl
theorem dX7_multiplyByte_49 : decode cX7_multiplyByte 49 = .ok (.iload 4, 2) := xdc ddX7_multiplyByte_0 29 rfl
theorem dX7_multiplyByte_51 : decode cX7_multiplyByte 51 = .ok (.i2b, 1) := xdc ddX7_multiplyByte_0 30 rfl
theorem dX7_multiplyByte_52 : decode cX7_multiplyByte 52 = .ok (.if_icmp .eq 7, 3) := xdc ddX7_multiplyByte_0 31 rfl
theorem dX7_multiplyByte_55 : decode cX7_multiplyByte 55 = .ok (.iconst 1, 1) := xdc ddX7_multiplyByte_0 32 rfl
theorem dX7_multiplyByte_56 : decode cX7_multiplyByte 56 = .ok (.goto 20, 3) := xdc ddX7_multiplyByte_0 33 rfl
theorem dX7_multiplyByte_59 : decode cX7_multiplyByte 59 = .ok (.iconst 0, 1) := xdc ddX7_multiplyByte_0 34 rfl
theorem dX7_multiplyByte_60 : decode cX7_multiplyByte 60 = .ok (.goto 16, 3) := xdc ddX7_multiplyByte_0 35 rfl
theorem dX7_multiplyByte_63 : decode cX7_multiplyByte 63 = .ok (.iload 4, 2) := xdc ddX7_multiplyByte_0 36 rfl
theorem dX7_multiplyByte_65 : decode cX7_multiplyByte 65 = .ok (.sipush 255, 3) := xdc ddX7_multiplyByte_0 37 rfl
theorem dX7_multiplyByte_68 : decode cX7_multiplyByte 68 = .ok (.if_icmp .le 7, 3) := xdc ddX7_multiplyByte_0 38 rfl
theorem dX7_multiplyByte_71 : decode cX7_multiplyByte 71 = .ok (.iconst 1, 1) := xdc ddX7_multiplyByte_0 39 rfl
theorem ddX7_multiplyByte_1 : xdec cX7_multiplyByte [(72, (.goto 4, 3)), (75, (.iconst 0, 1)), (76, (.istore 5, 2)), (78, (.aload_n 0, 1)), (79, (.getfield 12, 3)), (82, (.iload 4, 2)), (84, (.sipush 255, 3)), (87, (.iand, 1)), (88, (.iconst 1, 1)), (89, (.invokevirtual 274, 3)), (92, (.aload_n 0, 1)), (93, (.getfield 12, 3)), (96, (.iload 5, 2)), (98, (.iload 5, 2)), (100, (.invokevirtual 278, 3)), (103, (.aload_n 0, 1)), (104, (.iconst 0, 1)), (105, (.iconst 2, 1)), (106, (.iload 4, 2)), (108, (.invokevirtual 228, 3)), (111, (.return_, 1))] = true := by decide +kernel
theorem dX7_multiplyByte_72 : decode cX7_multiplyByte 72 = .ok (.goto 4, 3) := xdc ddX7_multiplyByte_1 0 rfl
theorem dX7_multiplyByte_75 : decode cX7_multiplyByte 75 = .ok (.iconst 0, 1) := xdc ddX7_multiplyByte_1 1 rfl
theorem dX7_multiplyByte_76 : decode cX7_multiplyByte 76 = .ok (.istore 5, 2) := xdc ddX7_multiplyByte_1 2 rfl
theorem dX7_multiplyByte_78 : decode cX7_multiplyByte 78 = .ok (.aload_n 0, 1) := xdc ddX7_multiplyByte_1 3 rfl
theorem dX7_multiplyByte_79 : decode cX7_multiplyByte 79 = .ok (.getfield 12, 3) := xdc ddX7_multiplyByte_1 4 rfl
theorem dX7_multiplyByte_82 : decode cX7_multiplyByte 82 = .ok (.iload 4, 2) := xdc ddX7_multiplyByte_1 5 rfl
theorem dX7_multiplyByte_84 : decode cX7_multiplyByte 84 = .ok (.sipush 255, 3) := xdc ddX7_multiplyByte_1 6 rfl
theorem dX7_multiplyByte_87 : decode cX7_multiplyByte 87 = .ok (.iand, 1) := xdc ddX7_multiplyByte_1 7 rfl
theorem dX7_multiplyByte_88 : decode cX7_multiplyByte 88 = .ok (.iconst 1, 1) := xdc ddX7_multiplyByte_1 8 rfl
theorem dX7_multiplyByte_89 : decode cX7_multiplyByte 89 = .ok (.invokevirtual 274, 3) := xdc ddX7_multiplyByte_1 9 rfl
theorem dX7_multiplyByte_92 : decode cX7_multiplyByte 92 = .ok (.aload_n 0, 1) := xdc ddX7_multiplyByte_1 10 rfl
theorem dX7_multiplyByte_93 : decode cX7_multiplyByte 93 = .ok (.getfield 12, 3) := xdc ddX7_multiplyByte_1 11 rfl
theorem dX7_multiplyByte_96 : decode cX7_multiplyByte 96 = .ok (.iload 5, 2) := xdc ddX7_multiplyByte_1 12 rfl
theorem dX7_multiplyByte_98 : decode cX7_multiplyByte 98 = .ok (.iload 5, 2) := xdc ddX7_multiplyByte_1 13 rfl
theorem dX7_multiplyByte_100 : decode cX7_multiplyByte 100 = .ok (.invokevirtual 278, 3) := xdc ddX7_multiplyByte_1 14 rfl
theorem dX7_multiplyByte_103 : decode cX7_multiplyByte 103 = .ok (.aload_n 0, 1) := xdc ddX7_multiplyByte_1 15 rfl
theorem dX7_multiplyByte_104 : decode cX7_multiplyByte 104 = .ok (.iconst 0, 1) := xdc ddX7_multiplyByte_1 16 rfl
theorem dX7_multiplyByte_105 : decode cX7_multiplyByte 105 = .ok (.iconst 2, 1) := xdc ddX7_multiplyByte_1 17 rfl
theorem dX7_multiplyByte_106 : decode cX7_multiplyByte 106 = .ok (.iload 4, 2) := xdc ddX7_multiplyByte_1 18 rfl
theorem dX7_multiplyByte_108 : decode cX7_multiplyByte 108 = .ok (.invokevirtual 228, 3) := xdc ddX7_multiplyByte_1 19 rfl
theorem dX7_multiplyByte_111 : decode cX7_multiplyByte 111 = .ok (.return_, 1) := xdc ddX7_multiplyByte_1 20 rfl
abbrev cX7_multiplyLong : ByteArray := prog_9_method_22_code
theorem ddX7_multiplyLong_0 : xdec cX7_multiplyLong [(0, (.aload_n 0, 1)), (1, (.getfield 38, 3)), (4, (.getfield 158, 3)), (7, (.getstatic 288, 3)), (10, (.if_acmp .ne 7, 3)), (13, (.iconst 1, 1)), (14, (.goto 4, 3)), (17, (.iconst 0, 1)), (18, (.istore_n 2, 1)), (19, (.aload_n 0, 1)), (20, (.getfield 18, 3)), (23, (.iconst 0, 1)), (24, (.iaload, 1)), (25, (.istore_n 3, 1)), (26, (.iload_n 2, 1)), (27, (.ifCond .eq 11, 3)), (30, (.iload_n 3, 1)), (31, (.i2l, 1)), (32, (.iload_n 1, 1)), (33, (.i2l, 1)), (34, (.lmul, 1)), (35, (.goto 12, 3)), (38, (.iload_n 3, 1)), (39, (.invokestatic 291, 3)), (42, (.iload_n 1, 1)), (43, (.invokestatic 291, 3)), (46, (.lmul, 1)), (47, (.lstore 4, 2)), (49, (.iload_n 2, 1)), (50, (.ifCond .eq 21, 3)), (53, (.lload 4, 2)), (55, (.lload 4, 2)), (57, (.l2i, 1)), (58, (.i2l, 1)), (59, (.lcmp, 1)), (60, (.ifCond .eq 7, 3)), (63, (.iconst 1, 1)), (64, (.goto 22, 3)), (67, (.iconst 0, 1)), (68, (.goto 18, 3))] = true := by decide +kernel
theorem dX7_multiplyLong_0 : decode cX7_multiplyLong 0 = .ok (.aload_n 0, 1) := xdc ddX7_multiplyLong_0 0 rfl
theorem dX7_multiplyLong_1 : decode cX7_multiplyLong 1 = .ok (.getfield 38, 3) := xdc ddX7_multiplyLong_0 1 rfl
theorem dX7_multiplyLong_4 : decode cX7_multiplyLong 4 = .ok (.getfield 158, 3) := xdc ddX7_multiplyLong_0 2 rfl
theorem dX7_multiplyLong_7 : decode cX7_multiplyLong 7 = .ok (.getstatic 288, 3) := xdc ddX7_multiplyLong_0 3 rfl
theorem dX7_multiplyLong_10 : decode cX7_multiplyLong 10 = .ok (.if_acmp .ne 7, 3) := xdc ddX7_multiplyLong_0 4 rfl
theorem dX7_multiplyLong_13 : decode cX7_multiplyLong 13 = .ok (.iconst 1, 1) := xdc ddX7_multiplyLong_0 5 rfl
theorem dX7_multiplyLong_14 : decode cX7_multiplyLong 14 = .ok (.goto 4, 3) := xdc ddX7_multiplyLong_0 6 rfl
theorem dX7_multiplyLong_17 : decode cX7_multiplyLong 17 = .ok (.iconst 0, 1) := xdc ddX7_multiplyLong_0 7 rfl
theorem dX7_multiplyLong_18 : decode cX7_multiplyLong 18 = .ok (.istore_n 2, 1) := xdc ddX7_multiplyLong_0 8 rfl
theorem dX7_multiplyLong_19 : decode cX7_multiplyLong 19 = .ok (.aload_n 0, 1) := xdc ddX7_multiplyLong_0 9 rfl
theorem dX7_multiplyLong_20 : decode cX7_multiplyLong 20 = .ok (.getfield 18, 3) := xdc ddX7_multiplyLong_0 10 rfl
theorem dX7_multiplyLong_23 : decode cX7_multiplyLong 23 = .ok (.iconst 0, 1) := xdc ddX7_multiplyLong_0 11 rfl
theorem dX7_multiplyLong_24 : decode cX7_multiplyLong 24 = .ok (.iaload, 1) := xdc ddX7_multiplyLong_0 12 rfl
theorem dX7_multiplyLong_25 : decode cX7_multiplyLong 25 = .ok (.istore_n 3, 1) := xdc ddX7_multiplyLong_0 13 rfl
theorem dX7_multiplyLong_26 : decode cX7_multiplyLong 26 = .ok (.iload_n 2, 1) := xdc ddX7_multiplyLong_0 14 rfl
theorem dX7_multiplyLong_27 : decode cX7_multiplyLong 27 = .ok (.ifCond .eq 11, 3) := xdc ddX7_multiplyLong_0 15 rfl
theorem dX7_multiplyLong_30 : decode cX7_multiplyLong 30 = .ok (.iload_n 3, 1) := xdc ddX7_multiplyLong_0 16 rfl
theorem dX7_multiplyLong_31 : decode cX7_multiplyLong 31 = .ok (.i2l, 1) := xdc ddX7_multiplyLong_0 17 rfl
theorem dX7_multiplyLong_32 : decode cX7_multiplyLong 32 = .ok (.iload_n 1, 1) := xdc ddX7_multiplyLong_0 18 rfl
theorem dX7_multiplyLong_33 : decode cX7_multiplyLong 33 = .ok (.i2l, 1) := xdc ddX7_multiplyLong_0 19 rfl
theorem dX7_multiplyLong_34 : decode cX7_multiplyLong 34 = .ok (.lmul, 1) := xdc ddX7_multiplyLong_0 20 rfl
theorem dX7_multiplyLong_35 : decode cX7_multiplyLong 35 = .ok (.goto 12, 3) := xdc ddX7_multiplyLong_0 21 rfl
theorem dX7_multiplyLong_38 : decode cX7_multiplyLong 38 = .ok (.iload_n 3, 1) := xdc ddX7_multiplyLong_0 22 rfl
theorem dX7_multiplyLong_39 : decode cX7_multiplyLong 39 = .ok (.invokestatic 291, 3) := xdc ddX7_multiplyLong_0 23 rfl
theorem dX7_multiplyLong_42 : decode cX7_multiplyLong 42 = .ok (.iload_n 1, 1) := xdc ddX7_multiplyLong_0 24 rfl
theorem dX7_multiplyLong_43 : decode cX7_multiplyLong 43 = .ok (.invokestatic 291, 3) := xdc ddX7_multiplyLong_0 25 rfl
theorem dX7_multiplyLong_46 : decode cX7_multiplyLong 46 = .ok (.lmul, 1) := xdc ddX7_multiplyLong_0 26 rfl
theorem dX7_multiplyLong_47 : decode cX7_multiplyLong 47 = .ok (.lstore 4, 2) := xdc ddX7_multiplyLong_0 27 rfl
theorem dX7_multiplyLong_49 : decode cX7_multiplyLong 49 = .ok (.iload_n 2, 1) := xdc ddX7_multiplyLong_0 28 rfl
theorem dX7_multiplyLong_50 : decode cX7_multiplyLong 50 = .ok (.ifCond .eq 21, 3) := xdc ddX7_multiplyLong_0 29 rfl
theorem dX7_multiplyLong_53 : decode cX7_multiplyLong 53 = .ok (.lload 4, 2) := xdc ddX7_multiplyLong_0 30 rfl
theorem dX7_multiplyLong_55 : decode cX7_multiplyLong 55 = .ok (.lload 4, 2) := xdc ddX7_multiplyLong_0 31 rfl
theorem dX7_multiplyLong_57 : decode cX7_multiplyLong 57 = .ok (.l2i, 1) := xdc ddX7_multiplyLong_0 32 rfl
theorem dX7_multiplyLong_58 : decode cX7_multiplyLong 58 = .ok (.i2l, 1) := xdc ddX7_multiplyLong_0 33 rfl
theorem dX7_multiplyLong_59 : decode cX7_multiplyLong 59 = .ok (.lcmp, 1) := xdc ddX7_multiplyLong_0 34 rfl
theorem dX7_multiplyLong_60 : decode cX7_multiplyLong 60 = .ok (.ifCond .eq 7, 3) := xdc ddX7_multiplyLong_0 35 rfl
theorem dX7_multiplyLong_63 : decode cX7_multiplyLong 63 = .ok (.iconst 1, 1) := xdc ddX7_multiplyLong_0 36 rfl
theorem dX7_multiplyLong_64 : decode cX7_multiplyLong 64 = .ok (.goto 22, 3) := xdc ddX7_multiplyLong_0 37 rfl
theorem dX7_multiplyLong_67 : decode cX7_multiplyLong 67 = .ok (.iconst 0, 1) := xdc ddX7_multiplyLong_0 38 rfl
theorem dX7_multiplyLong_68 : decode cX7_multiplyLong 68 = .ok (.goto 18, 3) := xdc ddX7_multiplyLong_0 39 rfl
theorem ddX7_multiplyLong_1 : xdec cX7_multiplyLong [(71, (.lload 4, 2)), (73, (.bipush 32, 2)), (75, (.lushr, 1)), (76, (.lconst 0, 1)), (77, (.lcmp, 1)), (78, (.ifCond .eq 7, 3)), (81, (.iconst 1, 1)), (82, (.goto 4, 3)), (85, (.iconst 0, 1)), (86, (.istore 6, 2)), (88, (.aload_n 0, 1)), (89, (.getfield 12, 3)), (92, (.lload 4, 2)), (94, (.l2i, 1)), (95, (.iconst 4, 1)), (96, (.invokevirtual 274, 3)), (99, (.aload_n 0, 1)), (100, (.getfield 12, 3)), (103, (.iload 6, 2)), (105, (.iload 6, 2)), (107, (.invokevirtual 278, 3)), (110, (.aload_n 0, 1)), (111, (.getfield 18, 3)), (114, (.iconst 0, 1)), (115, (.lload 4, 2)), (117, (.l2i, 1)), (118, (.iastore, 1)), (119, (.aload_n 0, 1)), (120, (.getfield 18, 3)), (123, (.iconst 2, 1)), (124, (.lload 4, 2)), (126, (.bipush 32, 2)), (128, (.lushr, 1)), (129, (.l2i, 1)), (130, (.iastore, 1)), (131, (.return_, 1))] = true := by decide +kernel
theorem dX7_multiplyLong_71 : decode cX7_multiplyLong 71 = .ok (.lload 4, 2) := xdc ddX7_multiplyLong_1 0 rfl
theorem dX7_multiplyLong_73 : decode cX7_multiplyLong 73 = .ok (.bipush 32, 2) := xdc ddX7_multiplyLong_1 1 rfl
theorem dX7_multiplyLong_75 : decode cX7_multiplyLong 75 = .ok (.lushr, 1) := xdc ddX7_multiplyLong_1 2 rfl
theorem dX7_multiplyLong_76 : decode cX7_multiplyLong 76 = .ok (.lconst 0, 1) := xdc ddX7_multiplyLong_1 3 rfl
theorem dX7_multiplyLong_77 : decode cX7_multiplyLong 77 = .ok (.lcmp, 1) := xdc ddX7_multiplyLong_1 4 rfl
theorem dX7_multiplyLong_78 : decode cX7_multiplyLong 78 = .ok (.ifCond .eq 7, 3) := xdc ddX7_multiplyLong_1 5 rfl
theorem dX7_multiplyLong_81 : decode cX7_multiplyLong 81 = .ok (.iconst 1, 1) := xdc ddX7_multiplyLong_1 6 rfl
theorem dX7_multiplyLong_82 : decode cX7_multiplyLong 82 = .ok (.goto 4, 3) := xdc ddX7_multiplyLong_1 7 rfl
theorem dX7_multiplyLong_85 : decode cX7_multiplyLong 85 = .ok (.iconst 0, 1) := xdc ddX7_multiplyLong_1 8 rfl
theorem dX7_multiplyLong_86 : decode cX7_multiplyLong 86 = .ok (.istore 6, 2) := xdc ddX7_multiplyLong_1 9 rfl
theorem dX7_multiplyLong_88 : decode cX7_multiplyLong 88 = .ok (.aload_n 0, 1) := xdc ddX7_multiplyLong_1 10 rfl
theorem dX7_multiplyLong_89 : decode cX7_multiplyLong 89 = .ok (.getfield 12, 3) := xdc ddX7_multiplyLong_1 11 rfl
theorem dX7_multiplyLong_92 : decode cX7_multiplyLong 92 = .ok (.lload 4, 2) := xdc ddX7_multiplyLong_1 12 rfl
theorem dX7_multiplyLong_94 : decode cX7_multiplyLong 94 = .ok (.l2i, 1) := xdc ddX7_multiplyLong_1 13 rfl
theorem dX7_multiplyLong_95 : decode cX7_multiplyLong 95 = .ok (.iconst 4, 1) := xdc ddX7_multiplyLong_1 14 rfl
theorem dX7_multiplyLong_96 : decode cX7_multiplyLong 96 = .ok (.invokevirtual 274, 3) := xdc ddX7_multiplyLong_1 15 rfl
theorem dX7_multiplyLong_99 : decode cX7_multiplyLong 99 = .ok (.aload_n 0, 1) := xdc ddX7_multiplyLong_1 16 rfl
theorem dX7_multiplyLong_100 : decode cX7_multiplyLong 100 = .ok (.getfield 12, 3) := xdc ddX7_multiplyLong_1 17 rfl
theorem dX7_multiplyLong_103 : decode cX7_multiplyLong 103 = .ok (.iload 6, 2) := xdc ddX7_multiplyLong_1 18 rfl
theorem dX7_multiplyLong_105 : decode cX7_multiplyLong 105 = .ok (.iload 6, 2) := xdc ddX7_multiplyLong_1 19 rfl
theorem dX7_multiplyLong_107 : decode cX7_multiplyLong 107 = .ok (.invokevirtual 278, 3) := xdc ddX7_multiplyLong_1 20 rfl
theorem dX7_multiplyLong_110 : decode cX7_multiplyLong 110 = .ok (.aload_n 0, 1) := xdc ddX7_multiplyLong_1 21 rfl
theorem dX7_multiplyLong_111 : decode cX7_multiplyLong 111 = .ok (.getfield 18, 3) := xdc ddX7_multiplyLong_1 22 rfl
theorem dX7_multiplyLong_114 : decode cX7_multiplyLong 114 = .ok (.iconst 0, 1) := xdc ddX7_multiplyLong_1 23 rfl
theorem dX7_multiplyLong_115 : decode cX7_multiplyLong 115 = .ok (.lload 4, 2) := xdc ddX7_multiplyLong_1 24 rfl
theorem dX7_multiplyLong_117 : decode cX7_multiplyLong 117 = .ok (.l2i, 1) := xdc ddX7_multiplyLong_1 25 rfl
theorem dX7_multiplyLong_118 : decode cX7_multiplyLong 118 = .ok (.iastore, 1) := xdc ddX7_multiplyLong_1 26 rfl
theorem dX7_multiplyLong_119 : decode cX7_multiplyLong 119 = .ok (.aload_n 0, 1) := xdc ddX7_multiplyLong_1 27 rfl
theorem dX7_multiplyLong_120 : decode cX7_multiplyLong 120 = .ok (.getfield 18, 3) := xdc ddX7_multiplyLong_1 28 rfl
theorem dX7_multiplyLong_123 : decode cX7_multiplyLong 123 = .ok (.iconst 2, 1) := xdc ddX7_multiplyLong_1 29 rfl
theorem dX7_multiplyLong_124 : decode cX7_multiplyLong 124 = .ok (.lload 4, 2) := xdc ddX7_multiplyLong_1 30 rfl
theorem dX7_multiplyLong_126 : decode cX7_multiplyLong 126 = .ok (.bipush 32, 2) := xdc ddX7_multiplyLong_1 31 rfl
theorem dX7_multiplyLong_128 : decode cX7_multiplyLong 128 = .ok (.lushr, 1) := xdc ddX7_multiplyLong_1 32 rfl
theorem dX7_multiplyLong_129 : decode cX7_multiplyLong 129 = .ok (.l2i, 1) := xdc ddX7_multiplyLong_1 33 rfl
theorem dX7_multiplyLong_130 : decode cX7_multiplyLong 130 = .ok (.iastore, 1) := xdc ddX7_multiplyLong_1 34 rfl
theorem dX7_multiplyLong_131 : decode cX7_multiplyLong 131 = .ok (.return_, 1) := xdc ddX7_multiplyLong_1 35 rfl
abbrev cX7_doProduct : ByteArray := prog_9_method_20_code
theorem ddX7_doProduct_0 : xdec cX7_doProduct [(0, (.aload_n 0, 1)), (1, (.invokevirtual 170, 3)), (4, (.istore_n 1, 1)), (5, (.aload_n 0, 1)), (6, (.getfield 38, 3)), (9, (.getfield 158, 3)), (12, (.getstatic 271, 3)), (15, (.if_acmp .ne 87, 3)), (18, (.aload_n 0, 1)), (19, (.getfield 38, 3)), (22, (.getfield 234, 3)), (25, (.bipush 7, 2)), (27, (.if_icmp .ne 14, 3)), (30, (.aload_n 0, 1)), (31, (.getfield 38, 3)), (34, (.getfield 237, 3)), (37, (.i2l, 1)), (38, (.goto 8, 3)), (41, (.aload_n 0, 1)), (42, (.invokevirtual 246, 3)), (45, (.i2l, 1)), (46, (.lstore_n 2, 1)), (47, (.iload_n 1, 1)), (48, (.i2l, 1)), (49, (.lload_n 2, 1)), (50, (.lmul, 1)), (51, (.lstore 4, 2)), (53, (.lload 4, 2)), (55, (.lload 4, 2)), (57, (.l2i, 1)), (58, (.i2l, 1)), (59, (.lcmp, 1)), (60, (.ifCond .eq 7, 3)), (63, (.iconst 1, 1)), (64, (.goto 4, 3)), (67, (.iconst 0, 1)), (68, (.istore 6, 2)), (70, (.aload_n 0, 1)), (71, (.getfield 12, 3)), (74, (.lload 4, 2))] = true := by decide +kernel
theorem dX7_doProduct_0 : decode cX7_doProduct 0 = .ok (.aload_n 0, 1) := xdc ddX7_doProduct_0 0 rfl
theorem dX7_doProduct_1 : decode cX7_doProduct 1 = .ok (.invokevirtual 170, 3) := xdc ddX7_doProduct_0 1 rfl
theorem dX7_doProduct_4 : decode cX7_doProduct 4 = .ok (.istore_n 1, 1) := xdc ddX7_doProduct_0 2 rfl
theorem dX7_doProduct_5 : decode cX7_doProduct 5 = .ok (.aload_n 0, 1) := xdc ddX7_doProduct_0 3 rfl
theorem dX7_doProduct_6 : decode cX7_doProduct 6 = .ok (.getfield 38, 3) := xdc ddX7_doProduct_0 4 rfl
theorem dX7_doProduct_9 : decode cX7_doProduct 9 = .ok (.getfield 158, 3) := xdc ddX7_doProduct_0 5 rfl
theorem dX7_doProduct_12 : decode cX7_doProduct 12 = .ok (.getstatic 271, 3) := xdc ddX7_doProduct_0 6 rfl
theorem dX7_doProduct_15 : decode cX7_doProduct 15 = .ok (.if_acmp .ne 87, 3) := xdc ddX7_doProduct_0 7 rfl
theorem dX7_doProduct_18 : decode cX7_doProduct 18 = .ok (.aload_n 0, 1) := xdc ddX7_doProduct_0 8 rfl
theorem dX7_doProduct_19 : decode cX7_doProduct 19 = .ok (.getfield 38, 3) := xdc ddX7_doProduct_0 9 rfl
theorem dX7_doProduct_22 : decode cX7_doProduct 22 = .ok (.getfield 234, 3) := xdc ddX7_doProduct_0 10 rfl
theorem dX7_doProduct_25 : decode cX7_doProduct 25 = .ok (.bipush 7, 2) := xdc ddX7_doProduct_0 11 rfl
theorem dX7_doProduct_27 : decode cX7_doProduct 27 = .ok (.if_icmp .ne 14, 3) := xdc ddX7_doProduct_0 12 rfl
theorem dX7_doProduct_30 : decode cX7_doProduct 30 = .ok (.aload_n 0, 1) := xdc ddX7_doProduct_0 13 rfl
theorem dX7_doProduct_31 : decode cX7_doProduct 31 = .ok (.getfield 38, 3) := xdc ddX7_doProduct_0 14 rfl
theorem dX7_doProduct_34 : decode cX7_doProduct 34 = .ok (.getfield 237, 3) := xdc ddX7_doProduct_0 15 rfl
theorem dX7_doProduct_37 : decode cX7_doProduct 37 = .ok (.i2l, 1) := xdc ddX7_doProduct_0 16 rfl
theorem dX7_doProduct_38 : decode cX7_doProduct 38 = .ok (.goto 8, 3) := xdc ddX7_doProduct_0 17 rfl
theorem dX7_doProduct_41 : decode cX7_doProduct 41 = .ok (.aload_n 0, 1) := xdc ddX7_doProduct_0 18 rfl
theorem dX7_doProduct_42 : decode cX7_doProduct 42 = .ok (.invokevirtual 246, 3) := xdc ddX7_doProduct_0 19 rfl
theorem dX7_doProduct_45 : decode cX7_doProduct 45 = .ok (.i2l, 1) := xdc ddX7_doProduct_0 20 rfl
theorem dX7_doProduct_46 : decode cX7_doProduct 46 = .ok (.lstore_n 2, 1) := xdc ddX7_doProduct_0 21 rfl
theorem dX7_doProduct_47 : decode cX7_doProduct 47 = .ok (.iload_n 1, 1) := xdc ddX7_doProduct_0 22 rfl
theorem dX7_doProduct_48 : decode cX7_doProduct 48 = .ok (.i2l, 1) := xdc ddX7_doProduct_0 23 rfl
theorem dX7_doProduct_49 : decode cX7_doProduct 49 = .ok (.lload_n 2, 1) := xdc ddX7_doProduct_0 24 rfl
theorem dX7_doProduct_50 : decode cX7_doProduct 50 = .ok (.lmul, 1) := xdc ddX7_doProduct_0 25 rfl
theorem dX7_doProduct_51 : decode cX7_doProduct 51 = .ok (.lstore 4, 2) := xdc ddX7_doProduct_0 26 rfl
theorem dX7_doProduct_53 : decode cX7_doProduct 53 = .ok (.lload 4, 2) := xdc ddX7_doProduct_0 27 rfl
theorem dX7_doProduct_55 : decode cX7_doProduct 55 = .ok (.lload 4, 2) := xdc ddX7_doProduct_0 28 rfl
theorem dX7_doProduct_57 : decode cX7_doProduct 57 = .ok (.l2i, 1) := xdc ddX7_doProduct_0 29 rfl
theorem dX7_doProduct_58 : decode cX7_doProduct 58 = .ok (.i2l, 1) := xdc ddX7_doProduct_0 30 rfl
theorem dX7_doProduct_59 : decode cX7_doProduct 59 = .ok (.lcmp, 1) := xdc ddX7_doProduct_0 31 rfl
theorem dX7_doProduct_60 : decode cX7_doProduct 60 = .ok (.ifCond .eq 7, 3) := xdc ddX7_doProduct_0 32 rfl
theorem dX7_doProduct_63 : decode cX7_doProduct 63 = .ok (.iconst 1, 1) := xdc ddX7_doProduct_0 33 rfl
theorem dX7_doProduct_64 : decode cX7_doProduct 64 = .ok (.goto 4, 3) := xdc ddX7_doProduct_0 34 rfl
theorem dX7_doProduct_67 : decode cX7_doProduct 67 = .ok (.iconst 0, 1) := xdc ddX7_doProduct_0 35 rfl
theorem dX7_doProduct_68 : decode cX7_doProduct 68 = .ok (.istore 6, 2) := xdc ddX7_doProduct_0 36 rfl
theorem dX7_doProduct_70 : decode cX7_doProduct 70 = .ok (.aload_n 0, 1) := xdc ddX7_doProduct_0 37 rfl
theorem dX7_doProduct_71 : decode cX7_doProduct 71 = .ok (.getfield 12, 3) := xdc ddX7_doProduct_0 38 rfl
theorem dX7_doProduct_74 : decode cX7_doProduct 74 = .ok (.lload 4, 2) := xdc ddX7_doProduct_0 39 rfl
theorem ddX7_doProduct_1 : xdec cX7_doProduct [(76, (.l2i, 1)), (77, (.iconst 4, 1)), (78, (.invokevirtual 274, 3)), (81, (.aload_n 0, 1)), (82, (.getfield 12, 3)), (85, (.iload 6, 2)), (87, (.iload 6, 2)), (89, (.invokevirtual 278, 3)), (92, (.aload_n 0, 1)), (93, (.lload 4, 2)), (95, (.l2i, 1)), (96, (.invokevirtual 249, 3)), (99, (.goto 27, 3)), (102, (.aload_n 0, 1)), (103, (.getfield 38, 3)), (106, (.getfield 173, 3)), (109, (.iconst 1, 1)), (110, (.if_icmp .ne 11, 3)), (113, (.aload_n 0, 1)), (114, (.iload_n 1, 1)), (115, (.invokevirtual 282, 3)), (118, (.goto 8, 3)), (121, (.aload_n 0, 1)), (122, (.iload_n 1, 1)), (123, (.invokevirtual 285, 3)), (126, (.return_, 1))] = true := by decide +kernel
theorem dX7_doProduct_76 : decode cX7_doProduct 76 = .ok (.l2i, 1) := xdc ddX7_doProduct_1 0 rfl
theorem dX7_doProduct_77 : decode cX7_doProduct 77 = .ok (.iconst 4, 1) := xdc ddX7_doProduct_1 1 rfl
theorem dX7_doProduct_78 : decode cX7_doProduct 78 = .ok (.invokevirtual 274, 3) := xdc ddX7_doProduct_1 2 rfl
theorem dX7_doProduct_81 : decode cX7_doProduct 81 = .ok (.aload_n 0, 1) := xdc ddX7_doProduct_1 3 rfl
theorem dX7_doProduct_82 : decode cX7_doProduct 82 = .ok (.getfield 12, 3) := xdc ddX7_doProduct_1 4 rfl
theorem dX7_doProduct_85 : decode cX7_doProduct 85 = .ok (.iload 6, 2) := xdc ddX7_doProduct_1 5 rfl
theorem dX7_doProduct_87 : decode cX7_doProduct 87 = .ok (.iload 6, 2) := xdc ddX7_doProduct_1 6 rfl
theorem dX7_doProduct_89 : decode cX7_doProduct 89 = .ok (.invokevirtual 278, 3) := xdc ddX7_doProduct_1 7 rfl
theorem dX7_doProduct_92 : decode cX7_doProduct 92 = .ok (.aload_n 0, 1) := xdc ddX7_doProduct_1 8 rfl
theorem dX7_doProduct_93 : decode cX7_doProduct 93 = .ok (.lload 4, 2) := xdc ddX7_doProduct_1 9 rfl
theorem dX7_doProduct_95 : decode cX7_doProduct 95 = .ok (.l2i, 1) := xdc ddX7_doProduct_1 10 rfl
theorem dX7_doProduct_96 : decode cX7_doProduct 96 = .ok (.invokevirtual 249, 3) := xdc ddX7_doProduct_1 11 rfl
theorem dX7_doProduct_99 : decode cX7_doProduct 99 = .ok (.goto 27, 3) := xdc ddX7_doProduct_1 12 rfl
theorem dX7_doProduct_102 : decode cX7_doProduct 102 = .ok (.aload_n 0, 1) := xdc ddX7_doProduct_1 13 rfl
theorem dX7_doProduct_103 : decode cX7_doProduct 103 = .ok (.getfield 38, 3) := xdc ddX7_doProduct_1 14 rfl
theorem dX7_doProduct_106 : decode cX7_doProduct 106 = .ok (.getfield 173, 3) := xdc ddX7_doProduct_1 15 rfl
theorem dX7_doProduct_109 : decode cX7_doProduct 109 = .ok (.iconst 1, 1) := xdc ddX7_doProduct_1 16 rfl
theorem dX7_doProduct_110 : decode cX7_doProduct 110 = .ok (.if_icmp .ne 11, 3) := xdc ddX7_doProduct_1 17 rfl
theorem dX7_doProduct_113 : decode cX7_doProduct 113 = .ok (.aload_n 0, 1) := xdc ddX7_doProduct_1 18 rfl
theorem dX7_doProduct_114 : decode cX7_doProduct 114 = .ok (.iload_n 1, 1) := xdc ddX7_doProduct_1 19 rfl
theorem dX7_doProduct_115 : decode cX7_doProduct 115 = .ok (.invokevirtual 282, 3) := xdc ddX7_doProduct_1 20 rfl
theorem dX7_doProduct_118 : decode cX7_doProduct 118 = .ok (.goto 8, 3) := xdc ddX7_doProduct_1 21 rfl
theorem dX7_doProduct_121 : decode cX7_doProduct 121 = .ok (.aload_n 0, 1) := xdc ddX7_doProduct_1 22 rfl
theorem dX7_doProduct_122 : decode cX7_doProduct 122 = .ok (.iload_n 1, 1) := xdc ddX7_doProduct_1 23 rfl
theorem dX7_doProduct_123 : decode cX7_doProduct 123 = .ok (.invokevirtual 285, 3) := xdc ddX7_doProduct_1 24 rfl
theorem dX7_doProduct_126 : decode cX7_doProduct 126 = .ok (.return_, 1) := xdc ddX7_doProduct_1 25 rfl
abbrev cX7_divideByte : ByteArray := prog_9_method_24_code
theorem ddX7_divideByte_0 : xdec cX7_divideByte [(0, (.aload_n 0, 1)), (1, (.getfield 38, 3)), (4, (.getfield 158, 3)), (7, (.getstatic 308, 3)), (10, (.if_acmp .ne 7, 3)), (13, (.iconst 1, 1)), (14, (.goto 4, 3)), (17, (.iconst 0, 1)), (18, (.istore_n 2, 1)), (19, (.iload_n 2, 1)), (20, (.ifCond .eq 8, 3)), (23, (.iload_n 1, 1)), (24, (.i2b, 1)), (25, (.goto 4, 3)), (28, (.iload_n 1, 1)), (29, (.istore_n 3, 1)), (30, (.iload_n 3, 1)), (31, (.ifCond .ne 12, 3)), (34, (.aload_n 0, 1)), (35, (.getfield 42, 3)), (38, (.iconst 4, 1)), (39, (.invokevirtual 108, 3)), (42, (.return_, 1)), (43, (.iload_n 2, 1)), (44, (.ifCond .eq 13, 3)), (47, (.aload_n 0, 1)), (48, (.getfield 18, 3)), (51, (.iconst 0, 1)), (52, (.iaload, 1)), (53, (.i2s, 1)), (54, (.goto 12, 3)), (57, (.aload_n 0, 1)), (58, (.getfield 18, 3)), (61, (.iconst 0, 1)), (62, (.iaload, 1)), (63, (.ldc 210, 2)), (65, (.iand, 1)), (66, (.istore 4, 2)), (68, (.iload 4, 2)), (70, (.iload_n 3, 1))] = true := by decide +kernel
theorem dX7_divideByte_0 : decode cX7_divideByte 0 = .ok (.aload_n 0, 1) := xdc ddX7_divideByte_0 0 rfl
theorem dX7_divideByte_1 : decode cX7_divideByte 1 = .ok (.getfield 38, 3) := xdc ddX7_divideByte_0 1 rfl
theorem dX7_divideByte_4 : decode cX7_divideByte 4 = .ok (.getfield 158, 3) := xdc ddX7_divideByte_0 2 rfl
theorem dX7_divideByte_7 : decode cX7_divideByte 7 = .ok (.getstatic 308, 3) := xdc ddX7_divideByte_0 3 rfl
theorem dX7_divideByte_10 : decode cX7_divideByte 10 = .ok (.if_acmp .ne 7, 3) := xdc ddX7_divideByte_0 4 rfl
theorem dX7_divideByte_13 : decode cX7_divideByte 13 = .ok (.iconst 1, 1) := xdc ddX7_divideByte_0 5 rfl
theorem dX7_divideByte_14 : decode cX7_divideByte 14 = .ok (.goto 4, 3) := xdc ddX7_divideByte_0 6 rfl
theorem dX7_divideByte_17 : decode cX7_divideByte 17 = .ok (.iconst 0, 1) := xdc ddX7_divideByte_0 7 rfl
theorem dX7_divideByte_18 : decode cX7_divideByte 18 = .ok (.istore_n 2, 1) := xdc ddX7_divideByte_0 8 rfl
theorem dX7_divideByte_19 : decode cX7_divideByte 19 = .ok (.iload_n 2, 1) := xdc ddX7_divideByte_0 9 rfl
theorem dX7_divideByte_20 : decode cX7_divideByte 20 = .ok (.ifCond .eq 8, 3) := xdc ddX7_divideByte_0 10 rfl
theorem dX7_divideByte_23 : decode cX7_divideByte 23 = .ok (.iload_n 1, 1) := xdc ddX7_divideByte_0 11 rfl
theorem dX7_divideByte_24 : decode cX7_divideByte 24 = .ok (.i2b, 1) := xdc ddX7_divideByte_0 12 rfl
theorem dX7_divideByte_25 : decode cX7_divideByte 25 = .ok (.goto 4, 3) := xdc ddX7_divideByte_0 13 rfl
theorem dX7_divideByte_28 : decode cX7_divideByte 28 = .ok (.iload_n 1, 1) := xdc ddX7_divideByte_0 14 rfl
theorem dX7_divideByte_29 : decode cX7_divideByte 29 = .ok (.istore_n 3, 1) := xdc ddX7_divideByte_0 15 rfl
theorem dX7_divideByte_30 : decode cX7_divideByte 30 = .ok (.iload_n 3, 1) := xdc ddX7_divideByte_0 16 rfl
theorem dX7_divideByte_31 : decode cX7_divideByte 31 = .ok (.ifCond .ne 12, 3) := xdc ddX7_divideByte_0 17 rfl
theorem dX7_divideByte_34 : decode cX7_divideByte 34 = .ok (.aload_n 0, 1) := xdc ddX7_divideByte_0 18 rfl
theorem dX7_divideByte_35 : decode cX7_divideByte 35 = .ok (.getfield 42, 3) := xdc ddX7_divideByte_0 19 rfl
theorem dX7_divideByte_38 : decode cX7_divideByte 38 = .ok (.iconst 4, 1) := xdc ddX7_divideByte_0 20 rfl
theorem dX7_divideByte_39 : decode cX7_divideByte 39 = .ok (.invokevirtual 108, 3) := xdc ddX7_divideByte_0 21 rfl
theorem dX7_divideByte_42 : decode cX7_divideByte 42 = .ok (.return_, 1) := xdc ddX7_divideByte_0 22 rfl
theorem dX7_divideByte_43 : decode cX7_divideByte 43 = .ok (.iload_n 2, 1) := xdc ddX7_divideByte_0 23 rfl
theorem dX7_divideByte_44 : decode cX7_divideByte 44 = .ok (.ifCond .eq 13, 3) := xdc ddX7_divideByte_0 24 rfl
theorem dX7_divideByte_47 : decode cX7_divideByte 47 = .ok (.aload_n 0, 1) := xdc ddX7_divideByte_0 25 rfl
theorem dX7_divideByte_48 : decode cX7_divideByte 48 = .ok (.getfield 18, 3) := xdc ddX7_divideByte_0 26 rfl
theorem dX7_divideByte_51 : decode cX7_divideByte 51 = .ok (.iconst 0, 1) := xdc ddX7_divideByte_0 27 rfl
theorem dX7_divideByte_52 : decode cX7_divideByte 52 = .ok (.iaload, 1) := xdc ddX7_divideByte_0 28 rfl
theorem dX7_divideByte_53 : decode cX7_divideByte 53 = .ok (.i2s, 1) := xdc ddX7_divideByte_0 29 rfl
theorem dX7_divideByte_54 : decode cX7_divideByte 54 = .ok (.goto 12, 3) := xdc ddX7_divideByte_0 30 rfl
theorem dX7_divideByte_57 : decode cX7_divideByte 57 = .ok (.aload_n 0, 1) := xdc ddX7_divideByte_0 31 rfl
theorem dX7_divideByte_58 : decode cX7_divideByte 58 = .ok (.getfield 18, 3) := xdc ddX7_divideByte_0 32 rfl
theorem dX7_divideByte_61 : decode cX7_divideByte 61 = .ok (.iconst 0, 1) := xdc ddX7_divideByte_0 33 rfl
theorem dX7_divideByte_62 : decode cX7_divideByte 62 = .ok (.iaload, 1) := xdc ddX7_divideByte_0 34 rfl
theorem dX7_divideByte_63 : decode cX7_divideByte 63 = .ok (.ldc 210, 2) := xdc ddX7_divideByte_0 35 rfl
theorem dX7_divideByte_65 : decode cX7_divideByte 65 = .ok (.iand, 1) := xdc ddX7_divideByte_0 36 rfl
theorem dX7_divideByte_66 : decode cX7_divideByte 66 = .ok (.istore 4, 2) := xdc ddX7_divideByte_0 37 rfl
theorem dX7_divideByte_68 : decode cX7_divideByte 68 = .ok (.iload 4, 2) := xdc ddX7_divideByte_0 38 rfl
theorem dX7_divideByte_70 : decode cX7_divideByte 70 = .ok (.iload_n 3, 1) := xdc ddX7_divideByte_0 39 rfl
theorem ddX7_divideByte_1 : xdec cX7_divideByte [(71, (.idiv, 1)), (72, (.istore 5, 2)), (74, (.iload_n 2, 1)), (75, (.ifCond .eq 14, 3)), (78, (.iload 5, 2)), (80, (.iload 5, 2)), (82, (.i2b, 1)), (83, (.if_icmp .eq 23, 3)), (86, (.goto 11, 3)), (89, (.iload 5, 2)), (91, (.sipush 255, 3)), (94, (.if_icmp .le 12, 3)), (97, (.aload_n 0, 1)), (98, (.getfield 42, 3)), (101, (.iconst 4, 1)), (102, (.invokevirtual 108, 3)), (105, (.return_, 1)), (106, (.aload_n 0, 1)), (107, (.iconst 0, 1)), (108, (.iconst 2, 1)), (109, (.iload 5, 2)), (111, (.sipush 255, 3)), (114, (.iand, 1)), (115, (.iload 4, 2)), (117, (.iload_n 3, 1)), (118, (.irem, 1)), (119, (.sipush 255, 3)), (122, (.iand, 1)), (123, (.bipush 8, 2)), (125, (.ishl, 1)), (126, (.ior, 1)), (127, (.invokevirtual 228, 3)), (130, (.return_, 1))] = true := by decide +kernel
theorem dX7_divideByte_71 : decode cX7_divideByte 71 = .ok (.idiv, 1) := xdc ddX7_divideByte_1 0 rfl
theorem dX7_divideByte_72 : decode cX7_divideByte 72 = .ok (.istore 5, 2) := xdc ddX7_divideByte_1 1 rfl
theorem dX7_divideByte_74 : decode cX7_divideByte 74 = .ok (.iload_n 2, 1) := xdc ddX7_divideByte_1 2 rfl
theorem dX7_divideByte_75 : decode cX7_divideByte 75 = .ok (.ifCond .eq 14, 3) := xdc ddX7_divideByte_1 3 rfl
theorem dX7_divideByte_78 : decode cX7_divideByte 78 = .ok (.iload 5, 2) := xdc ddX7_divideByte_1 4 rfl
theorem dX7_divideByte_80 : decode cX7_divideByte 80 = .ok (.iload 5, 2) := xdc ddX7_divideByte_1 5 rfl
theorem dX7_divideByte_82 : decode cX7_divideByte 82 = .ok (.i2b, 1) := xdc ddX7_divideByte_1 6 rfl
theorem dX7_divideByte_83 : decode cX7_divideByte 83 = .ok (.if_icmp .eq 23, 3) := xdc ddX7_divideByte_1 7 rfl
theorem dX7_divideByte_86 : decode cX7_divideByte 86 = .ok (.goto 11, 3) := xdc ddX7_divideByte_1 8 rfl
theorem dX7_divideByte_89 : decode cX7_divideByte 89 = .ok (.iload 5, 2) := xdc ddX7_divideByte_1 9 rfl
theorem dX7_divideByte_91 : decode cX7_divideByte 91 = .ok (.sipush 255, 3) := xdc ddX7_divideByte_1 10 rfl
theorem dX7_divideByte_94 : decode cX7_divideByte 94 = .ok (.if_icmp .le 12, 3) := xdc ddX7_divideByte_1 11 rfl
theorem dX7_divideByte_97 : decode cX7_divideByte 97 = .ok (.aload_n 0, 1) := xdc ddX7_divideByte_1 12 rfl
theorem dX7_divideByte_98 : decode cX7_divideByte 98 = .ok (.getfield 42, 3) := xdc ddX7_divideByte_1 13 rfl
theorem dX7_divideByte_101 : decode cX7_divideByte 101 = .ok (.iconst 4, 1) := xdc ddX7_divideByte_1 14 rfl
theorem dX7_divideByte_102 : decode cX7_divideByte 102 = .ok (.invokevirtual 108, 3) := xdc ddX7_divideByte_1 15 rfl
theorem dX7_divideByte_105 : decode cX7_divideByte 105 = .ok (.return_, 1) := xdc ddX7_divideByte_1 16 rfl
theorem dX7_divideByte_106 : decode cX7_divideByte 106 = .ok (.aload_n 0, 1) := xdc ddX7_divideByte_1 17 rfl
theorem dX7_divideByte_107 : decode cX7_divideByte 107 = .ok (.iconst 0, 1) := xdc ddX7_divideByte_1 18 rfl
theorem dX7_divideByte_108 : decode cX7_divideByte 108 = .ok (.iconst 2, 1) := xdc ddX7_divideByte_1 19 rfl
theorem dX7_divideByte_109 : decode cX7_divideByte 109 = .ok (.iload 5, 2) := xdc ddX7_divideByte_1 20 rfl
theorem dX7_divideByte_111 : decode cX7_divideByte 111 = .ok (.sipush 255, 3) := xdc ddX7_divideByte_1 21 rfl
theorem dX7_divideByte_114 : decode cX7_divideByte 114 = .ok (.iand, 1) := xdc ddX7_divideByte_1 22 rfl
theorem dX7_divideByte_115 : decode cX7_divideByte 115 = .ok (.iload 4, 2) := xdc ddX7_divideByte_1 23 rfl
theorem dX7_divideByte_117 : decode cX7_divideByte 117 = .ok (.iload_n 3, 1) := xdc ddX7_divideByte_1 24 rfl
theorem dX7_divideByte_118 : decode cX7_divideByte 118 = .ok (.irem, 1) := xdc ddX7_divideByte_1 25 rfl
theorem dX7_divideByte_119 : decode cX7_divideByte 119 = .ok (.sipush 255, 3) := xdc ddX7_divideByte_1 26 rfl
theorem dX7_divideByte_122 : decode cX7_divideByte 122 = .ok (.iand, 1) := xdc ddX7_divideByte_1 27 rfl
theorem dX7_divideByte_123 : decode cX7_divideByte 123 = .ok (.bipush 8, 2) := xdc ddX7_divideByte_1 28 rfl
theorem dX7_divideByte_125 : decode cX7_divideByte 125 = .ok (.ishl, 1) := xdc ddX7_divideByte_1 29 rfl
theorem dX7_divideByte_126 : decode cX7_divideByte 126 = .ok (.ior, 1) := xdc ddX7_divideByte_1 30 rfl
theorem dX7_divideByte_127 : decode cX7_divideByte 127 = .ok (.invokevirtual 228, 3) := xdc ddX7_divideByte_1 31 rfl
theorem dX7_divideByte_130 : decode cX7_divideByte 130 = .ok (.return_, 1) := xdc ddX7_divideByte_1 32 rfl
abbrev cX7_divideLong : ByteArray := prog_9_method_25_code
theorem ddX7_divideLong_0 : xdec cX7_divideLong [(0, (.aload_n 0, 1)), (1, (.getfield 18, 3)), (4, (.iconst 2, 1)), (5, (.iaload, 1)), (6, (.invokestatic 291, 3)), (9, (.lstore_n 3, 1)), (10, (.lload_n 3, 1)), (11, (.lload_n 1, 1)), (12, (.lcmp, 1)), (13, (.ifCond .lt 12, 3)), (16, (.aload_n 0, 1)), (17, (.getfield 42, 3)), (20, (.iconst 4, 1)), (21, (.invokevirtual 108, 3)), (24, (.return_, 1)), (25, (.iconst 0, 1)), (26, (.istore 5, 2)), (28, (.bipush 31, 2)), (30, (.istore 6, 2)), (32, (.iload 6, 2)), (34, (.ifCond .lt 45, 3)), (37, (.lload_n 3, 1)), (38, (.iconst 1, 1)), (39, (.lshl, 1)), (40, (.aload_n 0, 1)), (41, (.getfield 18, 3)), (44, (.iconst 0, 1)), (45, (.iaload, 1)), (46, (.iload 6, 2)), (48, (.iushr, 1)), (49, (.iconst 1, 1)), (50, (.iand, 1)), (51, (.i2l, 1)), (52, (.lor, 1)), (53, (.lstore_n 3, 1)), (54, (.lload_n 3, 1)), (55, (.lload_n 1, 1)), (56, (.lcmp, 1)), (57, (.ifCond .lt 16, 3)), (60, (.lload_n 3, 1))] = true := by decide +kernel
theorem dX7_divideLong_0 : decode cX7_divideLong 0 = .ok (.aload_n 0, 1) := xdc ddX7_divideLong_0 0 rfl
theorem dX7_divideLong_1 : decode cX7_divideLong 1 = .ok (.getfield 18, 3) := xdc ddX7_divideLong_0 1 rfl
theorem dX7_divideLong_4 : decode cX7_divideLong 4 = .ok (.iconst 2, 1) := xdc ddX7_divideLong_0 2 rfl
theorem dX7_divideLong_5 : decode cX7_divideLong 5 = .ok (.iaload, 1) := xdc ddX7_divideLong_0 3 rfl
theorem dX7_divideLong_6 : decode cX7_divideLong 6 = .ok (.invokestatic 291, 3) := xdc ddX7_divideLong_0 4 rfl
theorem dX7_divideLong_9 : decode cX7_divideLong 9 = .ok (.lstore_n 3, 1) := xdc ddX7_divideLong_0 5 rfl
theorem dX7_divideLong_10 : decode cX7_divideLong 10 = .ok (.lload_n 3, 1) := xdc ddX7_divideLong_0 6 rfl
theorem dX7_divideLong_11 : decode cX7_divideLong 11 = .ok (.lload_n 1, 1) := xdc ddX7_divideLong_0 7 rfl
theorem dX7_divideLong_12 : decode cX7_divideLong 12 = .ok (.lcmp, 1) := xdc ddX7_divideLong_0 8 rfl
theorem dX7_divideLong_13 : decode cX7_divideLong 13 = .ok (.ifCond .lt 12, 3) := xdc ddX7_divideLong_0 9 rfl
theorem dX7_divideLong_16 : decode cX7_divideLong 16 = .ok (.aload_n 0, 1) := xdc ddX7_divideLong_0 10 rfl
theorem dX7_divideLong_17 : decode cX7_divideLong 17 = .ok (.getfield 42, 3) := xdc ddX7_divideLong_0 11 rfl
theorem dX7_divideLong_20 : decode cX7_divideLong 20 = .ok (.iconst 4, 1) := xdc ddX7_divideLong_0 12 rfl
theorem dX7_divideLong_21 : decode cX7_divideLong 21 = .ok (.invokevirtual 108, 3) := xdc ddX7_divideLong_0 13 rfl
theorem dX7_divideLong_24 : decode cX7_divideLong 24 = .ok (.return_, 1) := xdc ddX7_divideLong_0 14 rfl
theorem dX7_divideLong_25 : decode cX7_divideLong 25 = .ok (.iconst 0, 1) := xdc ddX7_divideLong_0 15 rfl
theorem dX7_divideLong_26 : decode cX7_divideLong 26 = .ok (.istore 5, 2) := xdc ddX7_divideLong_0 16 rfl
theorem dX7_divideLong_28 : decode cX7_divideLong 28 = .ok (.bipush 31, 2) := xdc ddX7_divideLong_0 17 rfl
theorem dX7_divideLong_30 : decode cX7_divideLong 30 = .ok (.istore 6, 2) := xdc ddX7_divideLong_0 18 rfl
theorem dX7_divideLong_32 : decode cX7_divideLong 32 = .ok (.iload 6, 2) := xdc ddX7_divideLong_0 19 rfl
theorem dX7_divideLong_34 : decode cX7_divideLong 34 = .ok (.ifCond .lt 45, 3) := xdc ddX7_divideLong_0 20 rfl
theorem dX7_divideLong_37 : decode cX7_divideLong 37 = .ok (.lload_n 3, 1) := xdc ddX7_divideLong_0 21 rfl
theorem dX7_divideLong_38 : decode cX7_divideLong 38 = .ok (.iconst 1, 1) := xdc ddX7_divideLong_0 22 rfl
theorem dX7_divideLong_39 : decode cX7_divideLong 39 = .ok (.lshl, 1) := xdc ddX7_divideLong_0 23 rfl
theorem dX7_divideLong_40 : decode cX7_divideLong 40 = .ok (.aload_n 0, 1) := xdc ddX7_divideLong_0 24 rfl
theorem dX7_divideLong_41 : decode cX7_divideLong 41 = .ok (.getfield 18, 3) := xdc ddX7_divideLong_0 25 rfl
theorem dX7_divideLong_44 : decode cX7_divideLong 44 = .ok (.iconst 0, 1) := xdc ddX7_divideLong_0 26 rfl
theorem dX7_divideLong_45 : decode cX7_divideLong 45 = .ok (.iaload, 1) := xdc ddX7_divideLong_0 27 rfl
theorem dX7_divideLong_46 : decode cX7_divideLong 46 = .ok (.iload 6, 2) := xdc ddX7_divideLong_0 28 rfl
theorem dX7_divideLong_48 : decode cX7_divideLong 48 = .ok (.iushr, 1) := xdc ddX7_divideLong_0 29 rfl
theorem dX7_divideLong_49 : decode cX7_divideLong 49 = .ok (.iconst 1, 1) := xdc ddX7_divideLong_0 30 rfl
theorem dX7_divideLong_50 : decode cX7_divideLong 50 = .ok (.iand, 1) := xdc ddX7_divideLong_0 31 rfl
theorem dX7_divideLong_51 : decode cX7_divideLong 51 = .ok (.i2l, 1) := xdc ddX7_divideLong_0 32 rfl
theorem dX7_divideLong_52 : decode cX7_divideLong 52 = .ok (.lor, 1) := xdc ddX7_divideLong_0 33 rfl
theorem dX7_divideLong_53 : decode cX7_divideLong 53 = .ok (.lstore_n 3, 1) := xdc ddX7_divideLong_0 34 rfl
theorem dX7_divideLong_54 : decode cX7_divideLong 54 = .ok (.lload_n 3, 1) := xdc ddX7_divideLong_0 35 rfl
theorem dX7_divideLong_55 : decode cX7_divideLong 55 = .ok (.lload_n 1, 1) := xdc ddX7_divideLong_0 36 rfl
theorem dX7_divideLong_56 : decode cX7_divideLong 56 = .ok (.lcmp, 1) := xdc ddX7_divideLong_0 37 rfl
theorem dX7_divideLong_57 : decode cX7_divideLong 57 = .ok (.ifCond .lt 16, 3) := xdc ddX7_divideLong_0 38 rfl
theorem dX7_divideLong_60 : decode cX7_divideLong 60 = .ok (.lload_n 3, 1) := xdc ddX7_divideLong_0 39 rfl
theorem ddX7_divideLong_1 : xdec cX7_divideLong [(61, (.lload_n 1, 1)), (62, (.lsub, 1)), (63, (.lstore_n 3, 1)), (64, (.iload 5, 2)), (66, (.iconst 1, 1)), (67, (.iload 6, 2)), (69, (.ishl, 1)), (70, (.ior, 1)), (71, (.istore 5, 2)), (73, (.iinc 6 (-1), 3)), (76, (.goto (-44), 3)), (79, (.aload_n 0, 1)), (80, (.getfield 18, 3)), (83, (.iconst 0, 1)), (84, (.iload 5, 2)), (86, (.iastore, 1)), (87, (.aload_n 0, 1)), (88, (.getfield 18, 3)), (91, (.iconst 2, 1)), (92, (.lload_n 3, 1)), (93, (.l2i, 1)), (94, (.iastore, 1)), (95, (.return_, 1))] = true := by decide +kernel
theorem dX7_divideLong_61 : decode cX7_divideLong 61 = .ok (.lload_n 1, 1) := xdc ddX7_divideLong_1 0 rfl
theorem dX7_divideLong_62 : decode cX7_divideLong 62 = .ok (.lsub, 1) := xdc ddX7_divideLong_1 1 rfl
theorem dX7_divideLong_63 : decode cX7_divideLong 63 = .ok (.lstore_n 3, 1) := xdc ddX7_divideLong_1 2 rfl
theorem dX7_divideLong_64 : decode cX7_divideLong 64 = .ok (.iload 5, 2) := xdc ddX7_divideLong_1 3 rfl
theorem dX7_divideLong_66 : decode cX7_divideLong 66 = .ok (.iconst 1, 1) := xdc ddX7_divideLong_1 4 rfl
theorem dX7_divideLong_67 : decode cX7_divideLong 67 = .ok (.iload 6, 2) := xdc ddX7_divideLong_1 5 rfl
theorem dX7_divideLong_69 : decode cX7_divideLong 69 = .ok (.ishl, 1) := xdc ddX7_divideLong_1 6 rfl
theorem dX7_divideLong_70 : decode cX7_divideLong 70 = .ok (.ior, 1) := xdc ddX7_divideLong_1 7 rfl
theorem dX7_divideLong_71 : decode cX7_divideLong 71 = .ok (.istore 5, 2) := xdc ddX7_divideLong_1 8 rfl
theorem dX7_divideLong_73 : decode cX7_divideLong 73 = .ok (.iinc 6 (-1), 3) := xdc ddX7_divideLong_1 9 rfl
theorem dX7_divideLong_76 : decode cX7_divideLong 76 = .ok (.goto (-44), 3) := xdc ddX7_divideLong_1 10 rfl
theorem dX7_divideLong_79 : decode cX7_divideLong 79 = .ok (.aload_n 0, 1) := xdc ddX7_divideLong_1 11 rfl
theorem dX7_divideLong_80 : decode cX7_divideLong 80 = .ok (.getfield 18, 3) := xdc ddX7_divideLong_1 12 rfl
theorem dX7_divideLong_83 : decode cX7_divideLong 83 = .ok (.iconst 0, 1) := xdc ddX7_divideLong_1 13 rfl
theorem dX7_divideLong_84 : decode cX7_divideLong 84 = .ok (.iload 5, 2) := xdc ddX7_divideLong_1 14 rfl
theorem dX7_divideLong_86 : decode cX7_divideLong 86 = .ok (.iastore, 1) := xdc ddX7_divideLong_1 15 rfl
theorem dX7_divideLong_87 : decode cX7_divideLong 87 = .ok (.aload_n 0, 1) := xdc ddX7_divideLong_1 16 rfl
theorem dX7_divideLong_88 : decode cX7_divideLong 88 = .ok (.getfield 18, 3) := xdc ddX7_divideLong_1 17 rfl
theorem dX7_divideLong_91 : decode cX7_divideLong 91 = .ok (.iconst 2, 1) := xdc ddX7_divideLong_1 18 rfl
theorem dX7_divideLong_92 : decode cX7_divideLong 92 = .ok (.lload_n 3, 1) := xdc ddX7_divideLong_1 19 rfl
theorem dX7_divideLong_93 : decode cX7_divideLong 93 = .ok (.l2i, 1) := xdc ddX7_divideLong_1 20 rfl
theorem dX7_divideLong_94 : decode cX7_divideLong 94 = .ok (.iastore, 1) := xdc ddX7_divideLong_1 21 rfl
theorem dX7_divideLong_95 : decode cX7_divideLong 95 = .ok (.return_, 1) := xdc ddX7_divideLong_1 22 rfl
abbrev cX7_divideLongWithSign : ByteArray := prog_9_method_26_code
theorem ddX7_divideLongWithSign_0 : xdec cX7_divideLongWithSign [(0, (.iload_n 1, 1)), (1, (.ifCond .ne 12, 3)), (4, (.aload_n 0, 1)), (5, (.getfield 42, 3)), (8, (.iconst 4, 1)), (9, (.invokevirtual 108, 3)), (12, (.return_, 1)), (13, (.aload_n 0, 1)), (14, (.getfield 18, 3)), (17, (.iconst 2, 1)), (18, (.iaload, 1)), (19, (.i2l, 1)), (20, (.bipush 32, 2)), (22, (.lshl, 1)), (23, (.aload_n 0, 1)), (24, (.getfield 18, 3)), (27, (.iconst 0, 1)), (28, (.iaload, 1)), (29, (.invokestatic 291, 3)), (32, (.lor, 1)), (33, (.lstore_n 2, 1)), (34, (.lload_n 2, 1)), (35, (.iload_n 1, 1)), (36, (.i2l, 1)), (37, (.ldiv, 1)), (38, (.lstore 4, 2)), (40, (.lload 4, 2)), (42, (.lload 4, 2)), (44, (.l2i, 1)), (45, (.i2l, 1)), (46, (.lcmp, 1)), (47, (.ifCond .eq 12, 3)), (50, (.aload_n 0, 1)), (51, (.getfield 42, 3)), (54, (.iconst 4, 1)), (55, (.invokevirtual 108, 3)), (58, (.return_, 1)), (59, (.aload_n 0, 1)), (60, (.getfield 18, 3)), (63, (.iconst 0, 1))] = true := by decide +kernel
theorem dX7_divideLongWithSign_0 : decode cX7_divideLongWithSign 0 = .ok (.iload_n 1, 1) := xdc ddX7_divideLongWithSign_0 0 rfl
theorem dX7_divideLongWithSign_1 : decode cX7_divideLongWithSign 1 = .ok (.ifCond .ne 12, 3) := xdc ddX7_divideLongWithSign_0 1 rfl
theorem dX7_divideLongWithSign_4 : decode cX7_divideLongWithSign 4 = .ok (.aload_n 0, 1) := xdc ddX7_divideLongWithSign_0 2 rfl
theorem dX7_divideLongWithSign_5 : decode cX7_divideLongWithSign 5 = .ok (.getfield 42, 3) := xdc ddX7_divideLongWithSign_0 3 rfl
theorem dX7_divideLongWithSign_8 : decode cX7_divideLongWithSign 8 = .ok (.iconst 4, 1) := xdc ddX7_divideLongWithSign_0 4 rfl
theorem dX7_divideLongWithSign_9 : decode cX7_divideLongWithSign 9 = .ok (.invokevirtual 108, 3) := xdc ddX7_divideLongWithSign_0 5 rfl
theorem dX7_divideLongWithSign_12 : decode cX7_divideLongWithSign 12 = .ok (.return_, 1) := xdc ddX7_divideLongWithSign_0 6 rfl
theorem dX7_divideLongWithSign_13 : decode cX7_divideLongWithSign 13 = .ok (.aload_n 0, 1) := xdc ddX7_divideLongWithSign_0 7 rfl
theorem dX7_divideLongWithSign_14 : decode cX7_divideLongWithSign 14 = .ok (.getfield 18, 3) := xdc ddX7_divideLongWithSign_0 8 rfl
theorem dX7_divideLongWithSign_17 : decode cX7_divideLongWithSign 17 = .ok (.iconst 2, 1) := xdc ddX7_divideLongWithSign_0 9 rfl
theorem dX7_divideLongWithSign_18 : decode cX7_divideLongWithSign 18 = .ok (.iaload, 1) := xdc ddX7_divideLongWithSign_0 10 rfl
theorem dX7_divideLongWithSign_19 : decode cX7_divideLongWithSign 19 = .ok (.i2l, 1) := xdc ddX7_divideLongWithSign_0 11 rfl
theorem dX7_divideLongWithSign_20 : decode cX7_divideLongWithSign 20 = .ok (.bipush 32, 2) := xdc ddX7_divideLongWithSign_0 12 rfl
theorem dX7_divideLongWithSign_22 : decode cX7_divideLongWithSign 22 = .ok (.lshl, 1) := xdc ddX7_divideLongWithSign_0 13 rfl
theorem dX7_divideLongWithSign_23 : decode cX7_divideLongWithSign 23 = .ok (.aload_n 0, 1) := xdc ddX7_divideLongWithSign_0 14 rfl
theorem dX7_divideLongWithSign_24 : decode cX7_divideLongWithSign 24 = .ok (.getfield 18, 3) := xdc ddX7_divideLongWithSign_0 15 rfl
theorem dX7_divideLongWithSign_27 : decode cX7_divideLongWithSign 27 = .ok (.iconst 0, 1) := xdc ddX7_divideLongWithSign_0 16 rfl
theorem dX7_divideLongWithSign_28 : decode cX7_divideLongWithSign 28 = .ok (.iaload, 1) := xdc ddX7_divideLongWithSign_0 17 rfl
theorem dX7_divideLongWithSign_29 : decode cX7_divideLongWithSign 29 = .ok (.invokestatic 291, 3) := xdc ddX7_divideLongWithSign_0 18 rfl
theorem dX7_divideLongWithSign_32 : decode cX7_divideLongWithSign 32 = .ok (.lor, 1) := xdc ddX7_divideLongWithSign_0 19 rfl
theorem dX7_divideLongWithSign_33 : decode cX7_divideLongWithSign 33 = .ok (.lstore_n 2, 1) := xdc ddX7_divideLongWithSign_0 20 rfl
theorem dX7_divideLongWithSign_34 : decode cX7_divideLongWithSign 34 = .ok (.lload_n 2, 1) := xdc ddX7_divideLongWithSign_0 21 rfl
theorem dX7_divideLongWithSign_35 : decode cX7_divideLongWithSign 35 = .ok (.iload_n 1, 1) := xdc ddX7_divideLongWithSign_0 22 rfl
theorem dX7_divideLongWithSign_36 : decode cX7_divideLongWithSign 36 = .ok (.i2l, 1) := xdc ddX7_divideLongWithSign_0 23 rfl
theorem dX7_divideLongWithSign_37 : decode cX7_divideLongWithSign 37 = .ok (.ldiv, 1) := xdc ddX7_divideLongWithSign_0 24 rfl
theorem dX7_divideLongWithSign_38 : decode cX7_divideLongWithSign 38 = .ok (.lstore 4, 2) := xdc ddX7_divideLongWithSign_0 25 rfl
theorem dX7_divideLongWithSign_40 : decode cX7_divideLongWithSign 40 = .ok (.lload 4, 2) := xdc ddX7_divideLongWithSign_0 26 rfl
theorem dX7_divideLongWithSign_42 : decode cX7_divideLongWithSign 42 = .ok (.lload 4, 2) := xdc ddX7_divideLongWithSign_0 27 rfl
theorem dX7_divideLongWithSign_44 : decode cX7_divideLongWithSign 44 = .ok (.l2i, 1) := xdc ddX7_divideLongWithSign_0 28 rfl
theorem dX7_divideLongWithSign_45 : decode cX7_divideLongWithSign 45 = .ok (.i2l, 1) := xdc ddX7_divideLongWithSign_0 29 rfl
theorem dX7_divideLongWithSign_46 : decode cX7_divideLongWithSign 46 = .ok (.lcmp, 1) := xdc ddX7_divideLongWithSign_0 30 rfl
theorem dX7_divideLongWithSign_47 : decode cX7_divideLongWithSign 47 = .ok (.ifCond .eq 12, 3) := xdc ddX7_divideLongWithSign_0 31 rfl
theorem dX7_divideLongWithSign_50 : decode cX7_divideLongWithSign 50 = .ok (.aload_n 0, 1) := xdc ddX7_divideLongWithSign_0 32 rfl
theorem dX7_divideLongWithSign_51 : decode cX7_divideLongWithSign 51 = .ok (.getfield 42, 3) := xdc ddX7_divideLongWithSign_0 33 rfl
theorem dX7_divideLongWithSign_54 : decode cX7_divideLongWithSign 54 = .ok (.iconst 4, 1) := xdc ddX7_divideLongWithSign_0 34 rfl
theorem dX7_divideLongWithSign_55 : decode cX7_divideLongWithSign 55 = .ok (.invokevirtual 108, 3) := xdc ddX7_divideLongWithSign_0 35 rfl
theorem dX7_divideLongWithSign_58 : decode cX7_divideLongWithSign 58 = .ok (.return_, 1) := xdc ddX7_divideLongWithSign_0 36 rfl
theorem dX7_divideLongWithSign_59 : decode cX7_divideLongWithSign 59 = .ok (.aload_n 0, 1) := xdc ddX7_divideLongWithSign_0 37 rfl
theorem dX7_divideLongWithSign_60 : decode cX7_divideLongWithSign 60 = .ok (.getfield 18, 3) := xdc ddX7_divideLongWithSign_0 38 rfl
theorem dX7_divideLongWithSign_63 : decode cX7_divideLongWithSign 63 = .ok (.iconst 0, 1) := xdc ddX7_divideLongWithSign_0 39 rfl
theorem ddX7_divideLongWithSign_1 : xdec cX7_divideLongWithSign [(64, (.lload 4, 2)), (66, (.l2i, 1)), (67, (.iastore, 1)), (68, (.aload_n 0, 1)), (69, (.getfield 18, 3)), (72, (.iconst 2, 1)), (73, (.lload_n 2, 1)), (74, (.iload_n 1, 1)), (75, (.i2l, 1)), (76, (.lrem, 1)), (77, (.l2i, 1)), (78, (.iastore, 1)), (79, (.return_, 1))] = true := by decide +kernel
theorem dX7_divideLongWithSign_64 : decode cX7_divideLongWithSign 64 = .ok (.lload 4, 2) := xdc ddX7_divideLongWithSign_1 0 rfl
theorem dX7_divideLongWithSign_66 : decode cX7_divideLongWithSign 66 = .ok (.l2i, 1) := xdc ddX7_divideLongWithSign_1 1 rfl
theorem dX7_divideLongWithSign_67 : decode cX7_divideLongWithSign 67 = .ok (.iastore, 1) := xdc ddX7_divideLongWithSign_1 2 rfl
theorem dX7_divideLongWithSign_68 : decode cX7_divideLongWithSign 68 = .ok (.aload_n 0, 1) := xdc ddX7_divideLongWithSign_1 3 rfl
theorem dX7_divideLongWithSign_69 : decode cX7_divideLongWithSign 69 = .ok (.getfield 18, 3) := xdc ddX7_divideLongWithSign_1 4 rfl
theorem dX7_divideLongWithSign_72 : decode cX7_divideLongWithSign 72 = .ok (.iconst 2, 1) := xdc ddX7_divideLongWithSign_1 5 rfl
theorem dX7_divideLongWithSign_73 : decode cX7_divideLongWithSign 73 = .ok (.lload_n 2, 1) := xdc ddX7_divideLongWithSign_1 6 rfl
theorem dX7_divideLongWithSign_74 : decode cX7_divideLongWithSign 74 = .ok (.iload_n 1, 1) := xdc ddX7_divideLongWithSign_1 7 rfl
theorem dX7_divideLongWithSign_75 : decode cX7_divideLongWithSign 75 = .ok (.i2l, 1) := xdc ddX7_divideLongWithSign_1 8 rfl
theorem dX7_divideLongWithSign_76 : decode cX7_divideLongWithSign 76 = .ok (.lrem, 1) := xdc ddX7_divideLongWithSign_1 9 rfl
theorem dX7_divideLongWithSign_77 : decode cX7_divideLongWithSign 77 = .ok (.l2i, 1) := xdc ddX7_divideLongWithSign_1 10 rfl
theorem dX7_divideLongWithSign_78 : decode cX7_divideLongWithSign 78 = .ok (.iastore, 1) := xdc ddX7_divideLongWithSign_1 11 rfl
theorem dX7_divideLongWithSign_79 : decode cX7_divideLongWithSign 79 = .ok (.return_, 1) := xdc ddX7_divideLongWithSign_1 12 rfl
abbrev cX7_doQuotient : ByteArray := prog_9_method_23_code
theorem ddX7_doQuotient_0 : xdec cX7_doQuotient [(0, (.aload_n 0, 1)), (1, (.invokevirtual 170, 3)), (4, (.istore_n 1, 1)), (5, (.iload_n 1, 1)), (6, (.ifCond .ne 14, 3)), (9, (.aload_n 0, 1)), (10, (.getfield 42, 3)), (13, (.iconst 4, 1)), (14, (.invokevirtual 108, 3)), (17, (.goto 51, 3)), (20, (.aload_n 0, 1)), (21, (.getfield 38, 3)), (24, (.getfield 173, 3)), (27, (.iconst 1, 1)), (28, (.if_icmp .ne 11, 3)), (31, (.aload_n 0, 1)), (32, (.iload_n 1, 1)), (33, (.invokevirtual 295, 3)), (36, (.goto 32, 3)), (39, (.aload_n 0, 1)), (40, (.getfield 38, 3)), (43, (.getfield 158, 3)), (46, (.getstatic 298, 3)), (49, (.if_acmp .ne 14, 3)), (52, (.aload_n 0, 1)), (53, (.iload_n 1, 1)), (54, (.invokestatic 291, 3)), (57, (.invokevirtual 301, 3)), (60, (.goto 8, 3)), (63, (.aload_n 0, 1)), (64, (.iload_n 1, 1)), (65, (.invokevirtual 305, 3)), (68, (.return_, 1))] = true := by decide +kernel
theorem dX7_doQuotient_0 : decode cX7_doQuotient 0 = .ok (.aload_n 0, 1) := xdc ddX7_doQuotient_0 0 rfl
theorem dX7_doQuotient_1 : decode cX7_doQuotient 1 = .ok (.invokevirtual 170, 3) := xdc ddX7_doQuotient_0 1 rfl
theorem dX7_doQuotient_4 : decode cX7_doQuotient 4 = .ok (.istore_n 1, 1) := xdc ddX7_doQuotient_0 2 rfl
theorem dX7_doQuotient_5 : decode cX7_doQuotient 5 = .ok (.iload_n 1, 1) := xdc ddX7_doQuotient_0 3 rfl
theorem dX7_doQuotient_6 : decode cX7_doQuotient 6 = .ok (.ifCond .ne 14, 3) := xdc ddX7_doQuotient_0 4 rfl
theorem dX7_doQuotient_9 : decode cX7_doQuotient 9 = .ok (.aload_n 0, 1) := xdc ddX7_doQuotient_0 5 rfl
theorem dX7_doQuotient_10 : decode cX7_doQuotient 10 = .ok (.getfield 42, 3) := xdc ddX7_doQuotient_0 6 rfl
theorem dX7_doQuotient_13 : decode cX7_doQuotient 13 = .ok (.iconst 4, 1) := xdc ddX7_doQuotient_0 7 rfl
theorem dX7_doQuotient_14 : decode cX7_doQuotient 14 = .ok (.invokevirtual 108, 3) := xdc ddX7_doQuotient_0 8 rfl
theorem dX7_doQuotient_17 : decode cX7_doQuotient 17 = .ok (.goto 51, 3) := xdc ddX7_doQuotient_0 9 rfl
theorem dX7_doQuotient_20 : decode cX7_doQuotient 20 = .ok (.aload_n 0, 1) := xdc ddX7_doQuotient_0 10 rfl
theorem dX7_doQuotient_21 : decode cX7_doQuotient 21 = .ok (.getfield 38, 3) := xdc ddX7_doQuotient_0 11 rfl
theorem dX7_doQuotient_24 : decode cX7_doQuotient 24 = .ok (.getfield 173, 3) := xdc ddX7_doQuotient_0 12 rfl
theorem dX7_doQuotient_27 : decode cX7_doQuotient 27 = .ok (.iconst 1, 1) := xdc ddX7_doQuotient_0 13 rfl
theorem dX7_doQuotient_28 : decode cX7_doQuotient 28 = .ok (.if_icmp .ne 11, 3) := xdc ddX7_doQuotient_0 14 rfl
theorem dX7_doQuotient_31 : decode cX7_doQuotient 31 = .ok (.aload_n 0, 1) := xdc ddX7_doQuotient_0 15 rfl
theorem dX7_doQuotient_32 : decode cX7_doQuotient 32 = .ok (.iload_n 1, 1) := xdc ddX7_doQuotient_0 16 rfl
theorem dX7_doQuotient_33 : decode cX7_doQuotient 33 = .ok (.invokevirtual 295, 3) := xdc ddX7_doQuotient_0 17 rfl
theorem dX7_doQuotient_36 : decode cX7_doQuotient 36 = .ok (.goto 32, 3) := xdc ddX7_doQuotient_0 18 rfl
theorem dX7_doQuotient_39 : decode cX7_doQuotient 39 = .ok (.aload_n 0, 1) := xdc ddX7_doQuotient_0 19 rfl
theorem dX7_doQuotient_40 : decode cX7_doQuotient 40 = .ok (.getfield 38, 3) := xdc ddX7_doQuotient_0 20 rfl
theorem dX7_doQuotient_43 : decode cX7_doQuotient 43 = .ok (.getfield 158, 3) := xdc ddX7_doQuotient_0 21 rfl
theorem dX7_doQuotient_46 : decode cX7_doQuotient 46 = .ok (.getstatic 298, 3) := xdc ddX7_doQuotient_0 22 rfl
theorem dX7_doQuotient_49 : decode cX7_doQuotient 49 = .ok (.if_acmp .ne 14, 3) := xdc ddX7_doQuotient_0 23 rfl
theorem dX7_doQuotient_52 : decode cX7_doQuotient 52 = .ok (.aload_n 0, 1) := xdc ddX7_doQuotient_0 24 rfl
theorem dX7_doQuotient_53 : decode cX7_doQuotient 53 = .ok (.iload_n 1, 1) := xdc ddX7_doQuotient_0 25 rfl
theorem dX7_doQuotient_54 : decode cX7_doQuotient 54 = .ok (.invokestatic 291, 3) := xdc ddX7_doQuotient_0 26 rfl
theorem dX7_doQuotient_57 : decode cX7_doQuotient 57 = .ok (.invokevirtual 301, 3) := xdc ddX7_doQuotient_0 27 rfl
theorem dX7_doQuotient_60 : decode cX7_doQuotient 60 = .ok (.goto 8, 3) := xdc ddX7_doQuotient_0 28 rfl
theorem dX7_doQuotient_63 : decode cX7_doQuotient 63 = .ok (.aload_n 0, 1) := xdc ddX7_doQuotient_0 29 rfl
theorem dX7_doQuotient_64 : decode cX7_doQuotient 64 = .ok (.iload_n 1, 1) := xdc ddX7_doQuotient_0 30 rfl
theorem dX7_doQuotient_65 : decode cX7_doQuotient 65 = .ok (.invokevirtual 305, 3) := xdc ddX7_doQuotient_0 31 rfl
theorem dX7_doQuotient_68 : decode cX7_doQuotient 68 = .ok (.return_, 1) := xdc ddX7_doQuotient_0 32 rfl
abbrev cX11_withSign : ByteArray := prog_1_method_28_code
theorem ddX11_withSign_0 : xdec cX11_withSign [(0, (.iload_n 1, 1)), (1, (.iconst 1, 1)), (2, (.if_icmp .ne 6, 3)), (5, (.iload_n 0, 1)), (6, (.i2b, 1)), (7, (.ireturn, 1)), (8, (.iload_n 1, 1)), (9, (.iconst 2, 1)), (10, (.if_icmp .ne 8, 3)), (13, (.iload_n 0, 1)), (14, (.i2s, 1)), (15, (.goto 4, 3)), (18, (.iload_n 0, 1)), (19, (.ireturn, 1))] = true := by decide +kernel
theorem dX11_withSign_0 : decode cX11_withSign 0 = .ok (.iload_n 1, 1) := xdc ddX11_withSign_0 0 rfl
theorem dX11_withSign_1 : decode cX11_withSign 1 = .ok (.iconst 1, 1) := xdc ddX11_withSign_0 1 rfl
theorem dX11_withSign_2 : decode cX11_withSign 2 = .ok (.if_icmp .ne 6, 3) := xdc ddX11_withSign_0 2 rfl
theorem dX11_withSign_5 : decode cX11_withSign 5 = .ok (.iload_n 0, 1) := xdc ddX11_withSign_0 3 rfl
theorem dX11_withSign_6 : decode cX11_withSign 6 = .ok (.i2b, 1) := xdc ddX11_withSign_0 4 rfl
theorem dX11_withSign_7 : decode cX11_withSign 7 = .ok (.ireturn, 1) := xdc ddX11_withSign_0 5 rfl
theorem dX11_withSign_8 : decode cX11_withSign 8 = .ok (.iload_n 1, 1) := xdc ddX11_withSign_0 6 rfl
theorem dX11_withSign_9 : decode cX11_withSign 9 = .ok (.iconst 2, 1) := xdc ddX11_withSign_0 7 rfl
theorem dX11_withSign_10 : decode cX11_withSign 10 = .ok (.if_icmp .ne 8, 3) := xdc ddX11_withSign_0 8 rfl
theorem dX11_withSign_13 : decode cX11_withSign 13 = .ok (.iload_n 0, 1) := xdc ddX11_withSign_0 9 rfl
theorem dX11_withSign_14 : decode cX11_withSign 14 = .ok (.i2s, 1) := xdc ddX11_withSign_0 10 rfl
theorem dX11_withSign_15 : decode cX11_withSign 15 = .ok (.goto 4, 3) := xdc ddX11_withSign_0 11 rfl
theorem dX11_withSign_18 : decode cX11_withSign 18 = .ok (.iload_n 0, 1) := xdc ddX11_withSign_0 12 rfl
theorem dX11_withSign_19 : decode cX11_withSign 19 = .ok (.ireturn, 1) := xdc ddX11_withSign_0 13 rfl
abbrev cX7_doMove : ByteArray := prog_9_method_27_code
theorem ddX7_doMove_0 : xdec cX7_doMove [(0, (.getstatic 311, 3)), (3, (.aload_n 0, 1)), (4, (.getfield 38, 3)), (7, (.getfield 158, 3)), (10, (.invokevirtual 316, 3)), (13, (.iaload, 1)), (14, (.tableswitch 118 11 15 #[34, 45, 56, 77, 88], 34)), (48, (.aload_n 0, 1)), (49, (.aload_n 0, 1)), (50, (.invokevirtual 252, 3)), (53, (.invokevirtual 262, 3)), (56, (.goto 102, 3)), (59, (.aload_n 0, 1)), (60, (.aload_n 0, 1)), (61, (.invokevirtual 170, 3)), (64, (.invokevirtual 249, 3)), (67, (.goto 91, 3)), (70, (.aload_n 0, 1)), (71, (.aload_n 0, 1)), (72, (.invokevirtual 170, 3)), (75, (.aload_n 0, 1)), (76, (.getfield 38, 3)), (79, (.getfield 215, 3)), (82, (.invokestatic 319, 3)), (85, (.invokevirtual 249, 3)), (88, (.goto 70, 3)), (91, (.aload_n 0, 1)), (92, (.aload_n 0, 1)), (93, (.getfield 143, 3)), (96, (.invokevirtual 249, 3)), (99, (.goto 59, 3)), (102, (.aload_n 0, 1)), (103, (.invokevirtual 170, 3)), (106, (.istore_n 1, 1)), (107, (.aload_n 0, 1)), (108, (.getfield 12, 3)), (111, (.aload_n 0, 1)), (112, (.getfield 38, 3)), (115, (.getfield 322, 3)), (118, (.invokevirtual 325, 3))] = true := by decide +kernel
theorem dX7_doMove_0 : decode cX7_doMove 0 = .ok (.getstatic 311, 3) := xdc ddX7_doMove_0 0 rfl
theorem dX7_doMove_3 : decode cX7_doMove 3 = .ok (.aload_n 0, 1) := xdc ddX7_doMove_0 1 rfl
theorem dX7_doMove_4 : decode cX7_doMove 4 = .ok (.getfield 38, 3) := xdc ddX7_doMove_0 2 rfl
theorem dX7_doMove_7 : decode cX7_doMove 7 = .ok (.getfield 158, 3) := xdc ddX7_doMove_0 3 rfl
theorem dX7_doMove_10 : decode cX7_doMove 10 = .ok (.invokevirtual 316, 3) := xdc ddX7_doMove_0 4 rfl
theorem dX7_doMove_13 : decode cX7_doMove 13 = .ok (.iaload, 1) := xdc ddX7_doMove_0 5 rfl
theorem dX7_doMove_14 : decode cX7_doMove 14 = .ok (.tableswitch 118 11 15 #[34, 45, 56, 77, 88], 34) := xdc ddX7_doMove_0 6 rfl
theorem dX7_doMove_48 : decode cX7_doMove 48 = .ok (.aload_n 0, 1) := xdc ddX7_doMove_0 7 rfl
theorem dX7_doMove_49 : decode cX7_doMove 49 = .ok (.aload_n 0, 1) := xdc ddX7_doMove_0 8 rfl
theorem dX7_doMove_50 : decode cX7_doMove 50 = .ok (.invokevirtual 252, 3) := xdc ddX7_doMove_0 9 rfl
theorem dX7_doMove_53 : decode cX7_doMove 53 = .ok (.invokevirtual 262, 3) := xdc ddX7_doMove_0 10 rfl
theorem dX7_doMove_56 : decode cX7_doMove 56 = .ok (.goto 102, 3) := xdc ddX7_doMove_0 11 rfl
theorem dX7_doMove_59 : decode cX7_doMove 59 = .ok (.aload_n 0, 1) := xdc ddX7_doMove_0 12 rfl
theorem dX7_doMove_60 : decode cX7_doMove 60 = .ok (.aload_n 0, 1) := xdc ddX7_doMove_0 13 rfl
theorem dX7_doMove_61 : decode cX7_doMove 61 = .ok (.invokevirtual 170, 3) := xdc ddX7_doMove_0 14 rfl
theorem dX7_doMove_64 : decode cX7_doMove 64 = .ok (.invokevirtual 249, 3) := xdc ddX7_doMove_0 15 rfl
theorem dX7_doMove_67 : decode cX7_doMove 67 = .ok (.goto 91, 3) := xdc ddX7_doMove_0 16 rfl
theorem dX7_doMove_70 : decode cX7_doMove 70 = .ok (.aload_n 0, 1) := xdc ddX7_doMove_0 17 rfl
theorem dX7_doMove_71 : decode cX7_doMove 71 = .ok (.aload_n 0, 1) := xdc ddX7_doMove_0 18 rfl
theorem dX7_doMove_72 : decode cX7_doMove 72 = .ok (.invokevirtual 170, 3) := xdc ddX7_doMove_0 19 rfl
theorem dX7_doMove_75 : decode cX7_doMove 75 = .ok (.aload_n 0, 1) := xdc ddX7_doMove_0 20 rfl
theorem dX7_doMove_76 : decode cX7_doMove 76 = .ok (.getfield 38, 3) := xdc ddX7_doMove_0 21 rfl
theorem dX7_doMove_79 : decode cX7_doMove 79 = .ok (.getfield 215, 3) := xdc ddX7_doMove_0 22 rfl
theorem dX7_doMove_82 : decode cX7_doMove 82 = .ok (.invokestatic 319, 3) := xdc ddX7_doMove_0 23 rfl
theorem dX7_doMove_85 : decode cX7_doMove 85 = .ok (.invokevirtual 249, 3) := xdc ddX7_doMove_0 24 rfl
theorem dX7_doMove_88 : decode cX7_doMove 88 = .ok (.goto 70, 3) := xdc ddX7_doMove_0 25 rfl
theorem dX7_doMove_91 : decode cX7_doMove 91 = .ok (.aload_n 0, 1) := xdc ddX7_doMove_0 26 rfl
theorem dX7_doMove_92 : decode cX7_doMove 92 = .ok (.aload_n 0, 1) := xdc ddX7_doMove_0 27 rfl
theorem dX7_doMove_93 : decode cX7_doMove 93 = .ok (.getfield 143, 3) := xdc ddX7_doMove_0 28 rfl
theorem dX7_doMove_96 : decode cX7_doMove 96 = .ok (.invokevirtual 249, 3) := xdc ddX7_doMove_0 29 rfl
theorem dX7_doMove_99 : decode cX7_doMove 99 = .ok (.goto 59, 3) := xdc ddX7_doMove_0 30 rfl
theorem dX7_doMove_102 : decode cX7_doMove 102 = .ok (.aload_n 0, 1) := xdc ddX7_doMove_0 31 rfl
theorem dX7_doMove_103 : decode cX7_doMove 103 = .ok (.invokevirtual 170, 3) := xdc ddX7_doMove_0 32 rfl
theorem dX7_doMove_106 : decode cX7_doMove 106 = .ok (.istore_n 1, 1) := xdc ddX7_doMove_0 33 rfl
theorem dX7_doMove_107 : decode cX7_doMove 107 = .ok (.aload_n 0, 1) := xdc ddX7_doMove_0 34 rfl
theorem dX7_doMove_108 : decode cX7_doMove 108 = .ok (.getfield 12, 3) := xdc ddX7_doMove_0 35 rfl
theorem dX7_doMove_111 : decode cX7_doMove 111 = .ok (.aload_n 0, 1) := xdc ddX7_doMove_0 36 rfl
theorem dX7_doMove_112 : decode cX7_doMove 112 = .ok (.getfield 38, 3) := xdc ddX7_doMove_0 37 rfl
theorem dX7_doMove_115 : decode cX7_doMove 115 = .ok (.getfield 322, 3) := xdc ddX7_doMove_0 38 rfl
theorem dX7_doMove_118 : decode cX7_doMove 118 = .ok (.invokevirtual 325, 3) := xdc ddX7_doMove_0 39 rfl
theorem ddX7_doMove_1 : xdec cX7_doMove [(121, (.ifCond .eq 37, 3)), (124, (.aload_n 0, 1)), (125, (.iload_n 1, 1)), (126, (.invokevirtual 249, 3)), (129, (.goto 29, 3)), (132, (.aload_n 0, 1)), (133, (.aload_n 0, 1)), (134, (.getfield 12, 3)), (137, (.aload_n 0, 1)), (138, (.getfield 38, 3)), (141, (.getfield 322, 3)), (144, (.invokevirtual 325, 3)), (147, (.ifCond .eq 7, 3)), (150, (.iconst 1, 1)), (151, (.goto 4, 3)), (154, (.iconst 0, 1)), (155, (.invokevirtual 180, 3)), (158, (.return_, 1))] = true := by decide +kernel
theorem dX7_doMove_121 : decode cX7_doMove 121 = .ok (.ifCond .eq 37, 3) := xdc ddX7_doMove_1 0 rfl
theorem dX7_doMove_124 : decode cX7_doMove 124 = .ok (.aload_n 0, 1) := xdc ddX7_doMove_1 1 rfl
theorem dX7_doMove_125 : decode cX7_doMove 125 = .ok (.iload_n 1, 1) := xdc ddX7_doMove_1 2 rfl
theorem dX7_doMove_126 : decode cX7_doMove 126 = .ok (.invokevirtual 249, 3) := xdc ddX7_doMove_1 3 rfl
theorem dX7_doMove_129 : decode cX7_doMove 129 = .ok (.goto 29, 3) := xdc ddX7_doMove_1 4 rfl
theorem dX7_doMove_132 : decode cX7_doMove 132 = .ok (.aload_n 0, 1) := xdc ddX7_doMove_1 5 rfl
theorem dX7_doMove_133 : decode cX7_doMove 133 = .ok (.aload_n 0, 1) := xdc ddX7_doMove_1 6 rfl
theorem dX7_doMove_134 : decode cX7_doMove 134 = .ok (.getfield 12, 3) := xdc ddX7_doMove_1 7 rfl
theorem dX7_doMove_137 : decode cX7_doMove 137 = .ok (.aload_n 0, 1) := xdc ddX7_doMove_1 8 rfl
theorem dX7_doMove_138 : decode cX7_doMove 138 = .ok (.getfield 38, 3) := xdc ddX7_doMove_1 9 rfl
theorem dX7_doMove_141 : decode cX7_doMove 141 = .ok (.getfield 322, 3) := xdc ddX7_doMove_1 10 rfl
theorem dX7_doMove_144 : decode cX7_doMove 144 = .ok (.invokevirtual 325, 3) := xdc ddX7_doMove_1 11 rfl
theorem dX7_doMove_147 : decode cX7_doMove 147 = .ok (.ifCond .eq 7, 3) := xdc ddX7_doMove_1 12 rfl
theorem dX7_doMove_150 : decode cX7_doMove 150 = .ok (.iconst 1, 1) := xdc ddX7_doMove_1 13 rfl
theorem dX7_doMove_151 : decode cX7_doMove 151 = .ok (.goto 4, 3) := xdc ddX7_doMove_1 14 rfl
theorem dX7_doMove_154 : decode cX7_doMove 154 = .ok (.iconst 0, 1) := xdc ddX7_doMove_1 15 rfl
theorem dX7_doMove_155 : decode cX7_doMove 155 = .ok (.invokevirtual 180, 3) := xdc ddX7_doMove_1 16 rfl
theorem dX7_doMove_158 : decode cX7_doMove 158 = .ok (.return_, 1) := xdc ddX7_doMove_1 17 rfl
abbrev cJ6_numberOfTrailingZeros_0f7a4 : ByteArray := prog_23_method_48_code
theorem ddJ6_numberOfTrailingZeros_0f7a4_0 : xdec cJ6_numberOfTrailingZeros_0f7a4 [(0, (.iload_n 0, 1)), (1, (.iconst (-1), 1)), (2, (.ixor, 1)), (3, (.iload_n 0, 1)), (4, (.iconst 1, 1)), (5, (.isub, 1)), (6, (.iand, 1)), (7, (.istore_n 0, 1)), (8, (.iload_n 0, 1)), (9, (.ifCond .gt 8, 3)), (12, (.iload_n 0, 1)), (13, (.bipush 32, 2)), (15, (.iand, 1)), (16, (.ireturn, 1)), (17, (.iconst 1, 1)), (18, (.istore_n 1, 1)), (19, (.iload_n 0, 1)), (20, (.ldc_w 264, 3)), (23, (.if_icmp .le 11, 3)), (26, (.iinc 1 16, 3)), (29, (.iload_n 0, 1)), (30, (.bipush 16, 2)), (32, (.iushr, 1)), (33, (.istore_n 0, 1)), (34, (.iload_n 0, 1)), (35, (.sipush 256, 3)), (38, (.if_icmp .le 11, 3)), (41, (.iinc 1 8, 3)), (44, (.iload_n 0, 1)), (45, (.bipush 8, 2)), (47, (.iushr, 1)), (48, (.istore_n 0, 1)), (49, (.iload_n 0, 1)), (50, (.bipush 16, 2)), (52, (.if_icmp .le 10, 3)), (55, (.iinc 1 4, 3)), (58, (.iload_n 0, 1)), (59, (.iconst 4, 1)), (60, (.iushr, 1)), (61, (.istore_n 0, 1))] = true := by decide +kernel
theorem dJ6_numberOfTrailingZeros_0f7a4_0 : decode cJ6_numberOfTrailingZeros_0f7a4 0 = .ok (.iload_n 0, 1) := xdc ddJ6_numberOfTrailingZeros_0f7a4_0 0 rfl
theorem dJ6_numberOfTrailingZeros_0f7a4_1 : decode cJ6_numberOfTrailingZeros_0f7a4 1 = .ok (.iconst (-1), 1) := xdc ddJ6_numberOfTrailingZeros_0f7a4_0 1 rfl
theorem dJ6_numberOfTrailingZeros_0f7a4_2 : decode cJ6_numberOfTrailingZeros_0f7a4 2 = .ok (.ixor, 1) := xdc ddJ6_numberOfTrailingZeros_0f7a4_0 2 rfl
theorem dJ6_numberOfTrailingZeros_0f7a4_3 : decode cJ6_numberOfTrailingZeros_0f7a4 3 = .ok (.iload_n 0, 1) := xdc ddJ6_numberOfTrailingZeros_0f7a4_0 3 rfl
theorem dJ6_numberOfTrailingZeros_0f7a4_4 : decode cJ6_numberOfTrailingZeros_0f7a4 4 = .ok (.iconst 1, 1) := xdc ddJ6_numberOfTrailingZeros_0f7a4_0 4 rfl
theorem dJ6_numberOfTrailingZeros_0f7a4_5 : decode cJ6_numberOfTrailingZeros_0f7a4 5 = .ok (.isub, 1) := xdc ddJ6_numberOfTrailingZeros_0f7a4_0 5 rfl
theorem dJ6_numberOfTrailingZeros_0f7a4_6 : decode cJ6_numberOfTrailingZeros_0f7a4 6 = .ok (.iand, 1) := xdc ddJ6_numberOfTrailingZeros_0f7a4_0 6 rfl
theorem dJ6_numberOfTrailingZeros_0f7a4_7 : decode cJ6_numberOfTrailingZeros_0f7a4 7 = .ok (.istore_n 0, 1) := xdc ddJ6_numberOfTrailingZeros_0f7a4_0 7 rfl
theorem dJ6_numberOfTrailingZeros_0f7a4_8 : decode cJ6_numberOfTrailingZeros_0f7a4 8 = .ok (.iload_n 0, 1) := xdc ddJ6_numberOfTrailingZeros_0f7a4_0 8 rfl
theorem dJ6_numberOfTrailingZeros_0f7a4_9 : decode cJ6_numberOfTrailingZeros_0f7a4 9 = .ok (.ifCond .gt 8, 3) := xdc ddJ6_numberOfTrailingZeros_0f7a4_0 9 rfl
theorem dJ6_numberOfTrailingZeros_0f7a4_12 : decode cJ6_numberOfTrailingZeros_0f7a4 12 = .ok (.iload_n 0, 1) := xdc ddJ6_numberOfTrailingZeros_0f7a4_0 10 rfl
theorem dJ6_numberOfTrailingZeros_0f7a4_13 : decode cJ6_numberOfTrailingZeros_0f7a4 13 = .ok (.bipush 32, 2) := xdc ddJ6_numberOfTrailingZeros_0f7a4_0 11 rfl
theorem dJ6_numberOfTrailingZeros_0f7a4_15 : decode cJ6_numberOfTrailingZeros_0f7a4 15 = .ok (.iand, 1) := xdc ddJ6_numberOfTrailingZeros_0f7a4_0 12 rfl
theorem dJ6_numberOfTrailingZeros_0f7a4_16 : decode cJ6_numberOfTrailingZeros_0f7a4 16 = .ok (.ireturn, 1) := xdc ddJ6_numberOfTrailingZeros_0f7a4_0 13 rfl
theorem dJ6_numberOfTrailingZeros_0f7a4_17 : decode cJ6_numberOfTrailingZeros_0f7a4 17 = .ok (.iconst 1, 1) := xdc ddJ6_numberOfTrailingZeros_0f7a4_0 14 rfl
theorem dJ6_numberOfTrailingZeros_0f7a4_18 : decode cJ6_numberOfTrailingZeros_0f7a4 18 = .ok (.istore_n 1, 1) := xdc ddJ6_numberOfTrailingZeros_0f7a4_0 15 rfl
theorem dJ6_numberOfTrailingZeros_0f7a4_19 : decode cJ6_numberOfTrailingZeros_0f7a4 19 = .ok (.iload_n 0, 1) := xdc ddJ6_numberOfTrailingZeros_0f7a4_0 16 rfl
theorem dJ6_numberOfTrailingZeros_0f7a4_20 : decode cJ6_numberOfTrailingZeros_0f7a4 20 = .ok (.ldc_w 264, 3) := xdc ddJ6_numberOfTrailingZeros_0f7a4_0 17 rfl
theorem dJ6_numberOfTrailingZeros_0f7a4_23 : decode cJ6_numberOfTrailingZeros_0f7a4 23 = .ok (.if_icmp .le 11, 3) := xdc ddJ6_numberOfTrailingZeros_0f7a4_0 18 rfl
theorem dJ6_numberOfTrailingZeros_0f7a4_26 : decode cJ6_numberOfTrailingZeros_0f7a4 26 = .ok (.iinc 1 16, 3) := xdc ddJ6_numberOfTrailingZeros_0f7a4_0 19 rfl
theorem dJ6_numberOfTrailingZeros_0f7a4_29 : decode cJ6_numberOfTrailingZeros_0f7a4 29 = .ok (.iload_n 0, 1) := xdc ddJ6_numberOfTrailingZeros_0f7a4_0 20 rfl
theorem dJ6_numberOfTrailingZeros_0f7a4_30 : decode cJ6_numberOfTrailingZeros_0f7a4 30 = .ok (.bipush 16, 2) := xdc ddJ6_numberOfTrailingZeros_0f7a4_0 21 rfl
theorem dJ6_numberOfTrailingZeros_0f7a4_32 : decode cJ6_numberOfTrailingZeros_0f7a4 32 = .ok (.iushr, 1) := xdc ddJ6_numberOfTrailingZeros_0f7a4_0 22 rfl
theorem dJ6_numberOfTrailingZeros_0f7a4_33 : decode cJ6_numberOfTrailingZeros_0f7a4 33 = .ok (.istore_n 0, 1) := xdc ddJ6_numberOfTrailingZeros_0f7a4_0 23 rfl
theorem dJ6_numberOfTrailingZeros_0f7a4_34 : decode cJ6_numberOfTrailingZeros_0f7a4 34 = .ok (.iload_n 0, 1) := xdc ddJ6_numberOfTrailingZeros_0f7a4_0 24 rfl
theorem dJ6_numberOfTrailingZeros_0f7a4_35 : decode cJ6_numberOfTrailingZeros_0f7a4 35 = .ok (.sipush 256, 3) := xdc ddJ6_numberOfTrailingZeros_0f7a4_0 25 rfl
theorem dJ6_numberOfTrailingZeros_0f7a4_38 : decode cJ6_numberOfTrailingZeros_0f7a4 38 = .ok (.if_icmp .le 11, 3) := xdc ddJ6_numberOfTrailingZeros_0f7a4_0 26 rfl
theorem dJ6_numberOfTrailingZeros_0f7a4_41 : decode cJ6_numberOfTrailingZeros_0f7a4 41 = .ok (.iinc 1 8, 3) := xdc ddJ6_numberOfTrailingZeros_0f7a4_0 27 rfl
theorem dJ6_numberOfTrailingZeros_0f7a4_44 : decode cJ6_numberOfTrailingZeros_0f7a4 44 = .ok (.iload_n 0, 1) := xdc ddJ6_numberOfTrailingZeros_0f7a4_0 28 rfl
theorem dJ6_numberOfTrailingZeros_0f7a4_45 : decode cJ6_numberOfTrailingZeros_0f7a4 45 = .ok (.bipush 8, 2) := xdc ddJ6_numberOfTrailingZeros_0f7a4_0 29 rfl
theorem dJ6_numberOfTrailingZeros_0f7a4_47 : decode cJ6_numberOfTrailingZeros_0f7a4 47 = .ok (.iushr, 1) := xdc ddJ6_numberOfTrailingZeros_0f7a4_0 30 rfl
theorem dJ6_numberOfTrailingZeros_0f7a4_48 : decode cJ6_numberOfTrailingZeros_0f7a4 48 = .ok (.istore_n 0, 1) := xdc ddJ6_numberOfTrailingZeros_0f7a4_0 31 rfl
theorem dJ6_numberOfTrailingZeros_0f7a4_49 : decode cJ6_numberOfTrailingZeros_0f7a4 49 = .ok (.iload_n 0, 1) := xdc ddJ6_numberOfTrailingZeros_0f7a4_0 32 rfl
theorem dJ6_numberOfTrailingZeros_0f7a4_50 : decode cJ6_numberOfTrailingZeros_0f7a4 50 = .ok (.bipush 16, 2) := xdc ddJ6_numberOfTrailingZeros_0f7a4_0 33 rfl
theorem dJ6_numberOfTrailingZeros_0f7a4_52 : decode cJ6_numberOfTrailingZeros_0f7a4 52 = .ok (.if_icmp .le 10, 3) := xdc ddJ6_numberOfTrailingZeros_0f7a4_0 34 rfl
theorem dJ6_numberOfTrailingZeros_0f7a4_55 : decode cJ6_numberOfTrailingZeros_0f7a4 55 = .ok (.iinc 1 4, 3) := xdc ddJ6_numberOfTrailingZeros_0f7a4_0 35 rfl
theorem dJ6_numberOfTrailingZeros_0f7a4_58 : decode cJ6_numberOfTrailingZeros_0f7a4 58 = .ok (.iload_n 0, 1) := xdc ddJ6_numberOfTrailingZeros_0f7a4_0 36 rfl
theorem dJ6_numberOfTrailingZeros_0f7a4_59 : decode cJ6_numberOfTrailingZeros_0f7a4 59 = .ok (.iconst 4, 1) := xdc ddJ6_numberOfTrailingZeros_0f7a4_0 37 rfl
theorem dJ6_numberOfTrailingZeros_0f7a4_60 : decode cJ6_numberOfTrailingZeros_0f7a4 60 = .ok (.iushr, 1) := xdc ddJ6_numberOfTrailingZeros_0f7a4_0 38 rfl
theorem dJ6_numberOfTrailingZeros_0f7a4_61 : decode cJ6_numberOfTrailingZeros_0f7a4 61 = .ok (.istore_n 0, 1) := xdc ddJ6_numberOfTrailingZeros_0f7a4_0 39 rfl
theorem ddJ6_numberOfTrailingZeros_0f7a4_1 : xdec cJ6_numberOfTrailingZeros_0f7a4 [(62, (.iload_n 0, 1)), (63, (.iconst 4, 1)), (64, (.if_icmp .le 10, 3)), (67, (.iinc 1 2, 3)), (70, (.iload_n 0, 1)), (71, (.iconst 2, 1)), (72, (.iushr, 1)), (73, (.istore_n 0, 1)), (74, (.iload_n 1, 1)), (75, (.iload_n 0, 1)), (76, (.iconst 1, 1)), (77, (.iushr, 1)), (78, (.iadd, 1)), (79, (.ireturn, 1))] = true := by decide +kernel
theorem dJ6_numberOfTrailingZeros_0f7a4_62 : decode cJ6_numberOfTrailingZeros_0f7a4 62 = .ok (.iload_n 0, 1) := xdc ddJ6_numberOfTrailingZeros_0f7a4_1 0 rfl
theorem dJ6_numberOfTrailingZeros_0f7a4_63 : decode cJ6_numberOfTrailingZeros_0f7a4 63 = .ok (.iconst 4, 1) := xdc ddJ6_numberOfTrailingZeros_0f7a4_1 1 rfl
theorem dJ6_numberOfTrailingZeros_0f7a4_64 : decode cJ6_numberOfTrailingZeros_0f7a4 64 = .ok (.if_icmp .le 10, 3) := xdc ddJ6_numberOfTrailingZeros_0f7a4_1 2 rfl
theorem dJ6_numberOfTrailingZeros_0f7a4_67 : decode cJ6_numberOfTrailingZeros_0f7a4 67 = .ok (.iinc 1 2, 3) := xdc ddJ6_numberOfTrailingZeros_0f7a4_1 3 rfl
theorem dJ6_numberOfTrailingZeros_0f7a4_70 : decode cJ6_numberOfTrailingZeros_0f7a4 70 = .ok (.iload_n 0, 1) := xdc ddJ6_numberOfTrailingZeros_0f7a4_1 4 rfl
theorem dJ6_numberOfTrailingZeros_0f7a4_71 : decode cJ6_numberOfTrailingZeros_0f7a4 71 = .ok (.iconst 2, 1) := xdc ddJ6_numberOfTrailingZeros_0f7a4_1 5 rfl
theorem dJ6_numberOfTrailingZeros_0f7a4_72 : decode cJ6_numberOfTrailingZeros_0f7a4 72 = .ok (.iushr, 1) := xdc ddJ6_numberOfTrailingZeros_0f7a4_1 6 rfl
theorem dJ6_numberOfTrailingZeros_0f7a4_73 : decode cJ6_numberOfTrailingZeros_0f7a4 73 = .ok (.istore_n 0, 1) := xdc ddJ6_numberOfTrailingZeros_0f7a4_1 7 rfl
theorem dJ6_numberOfTrailingZeros_0f7a4_74 : decode cJ6_numberOfTrailingZeros_0f7a4 74 = .ok (.iload_n 1, 1) := xdc ddJ6_numberOfTrailingZeros_0f7a4_1 8 rfl
theorem dJ6_numberOfTrailingZeros_0f7a4_75 : decode cJ6_numberOfTrailingZeros_0f7a4 75 = .ok (.iload_n 0, 1) := xdc ddJ6_numberOfTrailingZeros_0f7a4_1 9 rfl
theorem dJ6_numberOfTrailingZeros_0f7a4_76 : decode cJ6_numberOfTrailingZeros_0f7a4 76 = .ok (.iconst 1, 1) := xdc ddJ6_numberOfTrailingZeros_0f7a4_1 10 rfl
theorem dJ6_numberOfTrailingZeros_0f7a4_77 : decode cJ6_numberOfTrailingZeros_0f7a4 77 = .ok (.iushr, 1) := xdc ddJ6_numberOfTrailingZeros_0f7a4_1 11 rfl
theorem dJ6_numberOfTrailingZeros_0f7a4_78 : decode cJ6_numberOfTrailingZeros_0f7a4 78 = .ok (.iadd, 1) := xdc ddJ6_numberOfTrailingZeros_0f7a4_1 12 rfl
theorem dJ6_numberOfTrailingZeros_0f7a4_79 : decode cJ6_numberOfTrailingZeros_0f7a4 79 = .ok (.ireturn, 1) := xdc ddJ6_numberOfTrailingZeros_0f7a4_1 13 rfl
abbrev cJ6_numberOfLeadingZeros_0f7a4 : ByteArray := prog_23_method_47_code
theorem ddJ6_numberOfLeadingZeros_0f7a4_0 : xdec cJ6_numberOfLeadingZeros_0f7a4 [(0, (.iload_n 0, 1)), (1, (.ifCond .gt 14, 3)), (4, (.iload_n 0, 1)), (5, (.ifCond .ne 8, 3)), (8, (.bipush 32, 2)), (10, (.goto 4, 3)), (13, (.iconst 0, 1)), (14, (.ireturn, 1)), (15, (.bipush 31, 2)), (17, (.istore_n 1, 1)), (18, (.iload_n 0, 1)), (19, (.ldc_w 264, 3)), (22, (.if_icmp .lt 11, 3)), (25, (.iinc 1 (-16), 3)), (28, (.iload_n 0, 1)), (29, (.bipush 16, 2)), (31, (.iushr, 1)), (32, (.istore_n 0, 1)), (33, (.iload_n 0, 1)), (34, (.sipush 256, 3)), (37, (.if_icmp .lt 11, 3)), (40, (.iinc 1 (-8), 3)), (43, (.iload_n 0, 1)), (44, (.bipush 8, 2)), (46, (.iushr, 1)), (47, (.istore_n 0, 1)), (48, (.iload_n 0, 1)), (49, (.bipush 16, 2)), (51, (.if_icmp .lt 10, 3)), (54, (.iinc 1 (-4), 3)), (57, (.iload_n 0, 1)), (58, (.iconst 4, 1)), (59, (.iushr, 1)), (60, (.istore_n 0, 1)), (61, (.iload_n 0, 1)), (62, (.iconst 4, 1)), (63, (.if_icmp .lt 10, 3)), (66, (.iinc 1 (-2), 3)), (69, (.iload_n 0, 1)), (70, (.iconst 2, 1))] = true := by decide +kernel
theorem dJ6_numberOfLeadingZeros_0f7a4_0 : decode cJ6_numberOfLeadingZeros_0f7a4 0 = .ok (.iload_n 0, 1) := xdc ddJ6_numberOfLeadingZeros_0f7a4_0 0 rfl
theorem dJ6_numberOfLeadingZeros_0f7a4_1 : decode cJ6_numberOfLeadingZeros_0f7a4 1 = .ok (.ifCond .gt 14, 3) := xdc ddJ6_numberOfLeadingZeros_0f7a4_0 1 rfl
theorem dJ6_numberOfLeadingZeros_0f7a4_4 : decode cJ6_numberOfLeadingZeros_0f7a4 4 = .ok (.iload_n 0, 1) := xdc ddJ6_numberOfLeadingZeros_0f7a4_0 2 rfl
theorem dJ6_numberOfLeadingZeros_0f7a4_5 : decode cJ6_numberOfLeadingZeros_0f7a4 5 = .ok (.ifCond .ne 8, 3) := xdc ddJ6_numberOfLeadingZeros_0f7a4_0 3 rfl
theorem dJ6_numberOfLeadingZeros_0f7a4_8 : decode cJ6_numberOfLeadingZeros_0f7a4 8 = .ok (.bipush 32, 2) := xdc ddJ6_numberOfLeadingZeros_0f7a4_0 4 rfl
theorem dJ6_numberOfLeadingZeros_0f7a4_10 : decode cJ6_numberOfLeadingZeros_0f7a4 10 = .ok (.goto 4, 3) := xdc ddJ6_numberOfLeadingZeros_0f7a4_0 5 rfl
theorem dJ6_numberOfLeadingZeros_0f7a4_13 : decode cJ6_numberOfLeadingZeros_0f7a4 13 = .ok (.iconst 0, 1) := xdc ddJ6_numberOfLeadingZeros_0f7a4_0 6 rfl
theorem dJ6_numberOfLeadingZeros_0f7a4_14 : decode cJ6_numberOfLeadingZeros_0f7a4 14 = .ok (.ireturn, 1) := xdc ddJ6_numberOfLeadingZeros_0f7a4_0 7 rfl
theorem dJ6_numberOfLeadingZeros_0f7a4_15 : decode cJ6_numberOfLeadingZeros_0f7a4 15 = .ok (.bipush 31, 2) := xdc ddJ6_numberOfLeadingZeros_0f7a4_0 8 rfl
theorem dJ6_numberOfLeadingZeros_0f7a4_17 : decode cJ6_numberOfLeadingZeros_0f7a4 17 = .ok (.istore_n 1, 1) := xdc ddJ6_numberOfLeadingZeros_0f7a4_0 9 rfl
theorem dJ6_numberOfLeadingZeros_0f7a4_18 : decode cJ6_numberOfLeadingZeros_0f7a4 18 = .ok (.iload_n 0, 1) := xdc ddJ6_numberOfLeadingZeros_0f7a4_0 10 rfl
theorem dJ6_numberOfLeadingZeros_0f7a4_19 : decode cJ6_numberOfLeadingZeros_0f7a4 19 = .ok (.ldc_w 264, 3) := xdc ddJ6_numberOfLeadingZeros_0f7a4_0 11 rfl
theorem dJ6_numberOfLeadingZeros_0f7a4_22 : decode cJ6_numberOfLeadingZeros_0f7a4 22 = .ok (.if_icmp .lt 11, 3) := xdc ddJ6_numberOfLeadingZeros_0f7a4_0 12 rfl
theorem dJ6_numberOfLeadingZeros_0f7a4_25 : decode cJ6_numberOfLeadingZeros_0f7a4 25 = .ok (.iinc 1 (-16), 3) := xdc ddJ6_numberOfLeadingZeros_0f7a4_0 13 rfl
theorem dJ6_numberOfLeadingZeros_0f7a4_28 : decode cJ6_numberOfLeadingZeros_0f7a4 28 = .ok (.iload_n 0, 1) := xdc ddJ6_numberOfLeadingZeros_0f7a4_0 14 rfl
theorem dJ6_numberOfLeadingZeros_0f7a4_29 : decode cJ6_numberOfLeadingZeros_0f7a4 29 = .ok (.bipush 16, 2) := xdc ddJ6_numberOfLeadingZeros_0f7a4_0 15 rfl
theorem dJ6_numberOfLeadingZeros_0f7a4_31 : decode cJ6_numberOfLeadingZeros_0f7a4 31 = .ok (.iushr, 1) := xdc ddJ6_numberOfLeadingZeros_0f7a4_0 16 rfl
theorem dJ6_numberOfLeadingZeros_0f7a4_32 : decode cJ6_numberOfLeadingZeros_0f7a4 32 = .ok (.istore_n 0, 1) := xdc ddJ6_numberOfLeadingZeros_0f7a4_0 17 rfl
theorem dJ6_numberOfLeadingZeros_0f7a4_33 : decode cJ6_numberOfLeadingZeros_0f7a4 33 = .ok (.iload_n 0, 1) := xdc ddJ6_numberOfLeadingZeros_0f7a4_0 18 rfl
theorem dJ6_numberOfLeadingZeros_0f7a4_34 : decode cJ6_numberOfLeadingZeros_0f7a4 34 = .ok (.sipush 256, 3) := xdc ddJ6_numberOfLeadingZeros_0f7a4_0 19 rfl
theorem dJ6_numberOfLeadingZeros_0f7a4_37 : decode cJ6_numberOfLeadingZeros_0f7a4 37 = .ok (.if_icmp .lt 11, 3) := xdc ddJ6_numberOfLeadingZeros_0f7a4_0 20 rfl
theorem dJ6_numberOfLeadingZeros_0f7a4_40 : decode cJ6_numberOfLeadingZeros_0f7a4 40 = .ok (.iinc 1 (-8), 3) := xdc ddJ6_numberOfLeadingZeros_0f7a4_0 21 rfl
theorem dJ6_numberOfLeadingZeros_0f7a4_43 : decode cJ6_numberOfLeadingZeros_0f7a4 43 = .ok (.iload_n 0, 1) := xdc ddJ6_numberOfLeadingZeros_0f7a4_0 22 rfl
theorem dJ6_numberOfLeadingZeros_0f7a4_44 : decode cJ6_numberOfLeadingZeros_0f7a4 44 = .ok (.bipush 8, 2) := xdc ddJ6_numberOfLeadingZeros_0f7a4_0 23 rfl
theorem dJ6_numberOfLeadingZeros_0f7a4_46 : decode cJ6_numberOfLeadingZeros_0f7a4 46 = .ok (.iushr, 1) := xdc ddJ6_numberOfLeadingZeros_0f7a4_0 24 rfl
theorem dJ6_numberOfLeadingZeros_0f7a4_47 : decode cJ6_numberOfLeadingZeros_0f7a4 47 = .ok (.istore_n 0, 1) := xdc ddJ6_numberOfLeadingZeros_0f7a4_0 25 rfl
theorem dJ6_numberOfLeadingZeros_0f7a4_48 : decode cJ6_numberOfLeadingZeros_0f7a4 48 = .ok (.iload_n 0, 1) := xdc ddJ6_numberOfLeadingZeros_0f7a4_0 26 rfl
theorem dJ6_numberOfLeadingZeros_0f7a4_49 : decode cJ6_numberOfLeadingZeros_0f7a4 49 = .ok (.bipush 16, 2) := xdc ddJ6_numberOfLeadingZeros_0f7a4_0 27 rfl
theorem dJ6_numberOfLeadingZeros_0f7a4_51 : decode cJ6_numberOfLeadingZeros_0f7a4 51 = .ok (.if_icmp .lt 10, 3) := xdc ddJ6_numberOfLeadingZeros_0f7a4_0 28 rfl
theorem dJ6_numberOfLeadingZeros_0f7a4_54 : decode cJ6_numberOfLeadingZeros_0f7a4 54 = .ok (.iinc 1 (-4), 3) := xdc ddJ6_numberOfLeadingZeros_0f7a4_0 29 rfl
theorem dJ6_numberOfLeadingZeros_0f7a4_57 : decode cJ6_numberOfLeadingZeros_0f7a4 57 = .ok (.iload_n 0, 1) := xdc ddJ6_numberOfLeadingZeros_0f7a4_0 30 rfl
theorem dJ6_numberOfLeadingZeros_0f7a4_58 : decode cJ6_numberOfLeadingZeros_0f7a4 58 = .ok (.iconst 4, 1) := xdc ddJ6_numberOfLeadingZeros_0f7a4_0 31 rfl
theorem dJ6_numberOfLeadingZeros_0f7a4_59 : decode cJ6_numberOfLeadingZeros_0f7a4 59 = .ok (.iushr, 1) := xdc ddJ6_numberOfLeadingZeros_0f7a4_0 32 rfl
theorem dJ6_numberOfLeadingZeros_0f7a4_60 : decode cJ6_numberOfLeadingZeros_0f7a4 60 = .ok (.istore_n 0, 1) := xdc ddJ6_numberOfLeadingZeros_0f7a4_0 33 rfl
theorem dJ6_numberOfLeadingZeros_0f7a4_61 : decode cJ6_numberOfLeadingZeros_0f7a4 61 = .ok (.iload_n 0, 1) := xdc ddJ6_numberOfLeadingZeros_0f7a4_0 34 rfl
theorem dJ6_numberOfLeadingZeros_0f7a4_62 : decode cJ6_numberOfLeadingZeros_0f7a4 62 = .ok (.iconst 4, 1) := xdc ddJ6_numberOfLeadingZeros_0f7a4_0 35 rfl
theorem dJ6_numberOfLeadingZeros_0f7a4_63 : decode cJ6_numberOfLeadingZeros_0f7a4 63 = .ok (.if_icmp .lt 10, 3) := xdc ddJ6_numberOfLeadingZeros_0f7a4_0 36 rfl
theorem dJ6_numberOfLeadingZeros_0f7a4_66 : decode cJ6_numberOfLeadingZeros_0f7a4 66 = .ok (.iinc 1 (-2), 3) := xdc ddJ6_numberOfLeadingZeros_0f7a4_0 37 rfl
theorem dJ6_numberOfLeadingZeros_0f7a4_69 : decode cJ6_numberOfLeadingZeros_0f7a4 69 = .ok (.iload_n 0, 1) := xdc ddJ6_numberOfLeadingZeros_0f7a4_0 38 rfl
theorem dJ6_numberOfLeadingZeros_0f7a4_70 : decode cJ6_numberOfLeadingZeros_0f7a4 70 = .ok (.iconst 2, 1) := xdc ddJ6_numberOfLeadingZeros_0f7a4_0 39 rfl
theorem ddJ6_numberOfLeadingZeros_0f7a4_1 : xdec cJ6_numberOfLeadingZeros_0f7a4 [(71, (.iushr, 1)), (72, (.istore_n 0, 1)), (73, (.iload_n 1, 1)), (74, (.iload_n 0, 1)), (75, (.iconst 1, 1)), (76, (.iushr, 1)), (77, (.isub, 1)), (78, (.ireturn, 1))] = true := by decide +kernel
theorem dJ6_numberOfLeadingZeros_0f7a4_71 : decode cJ6_numberOfLeadingZeros_0f7a4 71 = .ok (.iushr, 1) := xdc ddJ6_numberOfLeadingZeros_0f7a4_1 0 rfl
theorem dJ6_numberOfLeadingZeros_0f7a4_72 : decode cJ6_numberOfLeadingZeros_0f7a4 72 = .ok (.istore_n 0, 1) := xdc ddJ6_numberOfLeadingZeros_0f7a4_1 1 rfl
theorem dJ6_numberOfLeadingZeros_0f7a4_73 : decode cJ6_numberOfLeadingZeros_0f7a4 73 = .ok (.iload_n 1, 1) := xdc ddJ6_numberOfLeadingZeros_0f7a4_1 2 rfl
theorem dJ6_numberOfLeadingZeros_0f7a4_74 : decode cJ6_numberOfLeadingZeros_0f7a4 74 = .ok (.iload_n 0, 1) := xdc ddJ6_numberOfLeadingZeros_0f7a4_1 3 rfl
theorem dJ6_numberOfLeadingZeros_0f7a4_75 : decode cJ6_numberOfLeadingZeros_0f7a4 75 = .ok (.iconst 1, 1) := xdc ddJ6_numberOfLeadingZeros_0f7a4_1 4 rfl
theorem dJ6_numberOfLeadingZeros_0f7a4_76 : decode cJ6_numberOfLeadingZeros_0f7a4 76 = .ok (.iushr, 1) := xdc ddJ6_numberOfLeadingZeros_0f7a4_1 5 rfl
theorem dJ6_numberOfLeadingZeros_0f7a4_77 : decode cJ6_numberOfLeadingZeros_0f7a4 77 = .ok (.isub, 1) := xdc ddJ6_numberOfLeadingZeros_0f7a4_1 6 rfl
theorem dJ6_numberOfLeadingZeros_0f7a4_78 : decode cJ6_numberOfLeadingZeros_0f7a4 78 = .ok (.ireturn, 1) := xdc ddJ6_numberOfLeadingZeros_0f7a4_1 7 rfl
abbrev cX7_scanBits : ByteArray := prog_9_method_29_code
theorem ddX7_scanBits_0 : xdec cX7_scanBits [(0, (.aload_n 0, 1)), (1, (.getfield 12, 3)), (4, (.bipush 64, 2)), (6, (.iload_n 1, 1)), (7, (.ifCond .ne 7, 3)), (10, (.iconst 1, 1)), (11, (.goto 4, 3)), (14, (.iconst 0, 1)), (15, (.invokevirtual 336, 3)), (18, (.iload_n 1, 1)), (19, (.ifCond .ne 4, 3)), (22, (.return_, 1)), (23, (.aload_n 0, 1)), (24, (.getfield 38, 3)), (27, (.getfield 158, 3)), (30, (.getstatic 340, 3)), (33, (.if_acmp .ne 7, 3)), (36, (.iconst 1, 1)), (37, (.goto 4, 3)), (40, (.iconst 0, 1)), (41, (.istore_n 2, 1)), (42, (.aload_n 0, 1)), (43, (.iload_n 2, 1)), (44, (.ifCond .eq 10, 3)), (47, (.iload_n 1, 1)), (48, (.invokestatic 343, 3)), (51, (.goto 10, 3)), (54, (.bipush 31, 2)), (56, (.iload_n 1, 1)), (57, (.invokestatic 346, 3)), (60, (.isub, 1)), (61, (.invokevirtual 249, 3)), (64, (.return_, 1))] = true := by decide +kernel
theorem dX7_scanBits_0 : decode cX7_scanBits 0 = .ok (.aload_n 0, 1) := xdc ddX7_scanBits_0 0 rfl
theorem dX7_scanBits_1 : decode cX7_scanBits 1 = .ok (.getfield 12, 3) := xdc ddX7_scanBits_0 1 rfl
theorem dX7_scanBits_4 : decode cX7_scanBits 4 = .ok (.bipush 64, 2) := xdc ddX7_scanBits_0 2 rfl
theorem dX7_scanBits_6 : decode cX7_scanBits 6 = .ok (.iload_n 1, 1) := xdc ddX7_scanBits_0 3 rfl
theorem dX7_scanBits_7 : decode cX7_scanBits 7 = .ok (.ifCond .ne 7, 3) := xdc ddX7_scanBits_0 4 rfl
theorem dX7_scanBits_10 : decode cX7_scanBits 10 = .ok (.iconst 1, 1) := xdc ddX7_scanBits_0 5 rfl
theorem dX7_scanBits_11 : decode cX7_scanBits 11 = .ok (.goto 4, 3) := xdc ddX7_scanBits_0 6 rfl
theorem dX7_scanBits_14 : decode cX7_scanBits 14 = .ok (.iconst 0, 1) := xdc ddX7_scanBits_0 7 rfl
theorem dX7_scanBits_15 : decode cX7_scanBits 15 = .ok (.invokevirtual 336, 3) := xdc ddX7_scanBits_0 8 rfl
theorem dX7_scanBits_18 : decode cX7_scanBits 18 = .ok (.iload_n 1, 1) := xdc ddX7_scanBits_0 9 rfl
theorem dX7_scanBits_19 : decode cX7_scanBits 19 = .ok (.ifCond .ne 4, 3) := xdc ddX7_scanBits_0 10 rfl
theorem dX7_scanBits_22 : decode cX7_scanBits 22 = .ok (.return_, 1) := xdc ddX7_scanBits_0 11 rfl
theorem dX7_scanBits_23 : decode cX7_scanBits 23 = .ok (.aload_n 0, 1) := xdc ddX7_scanBits_0 12 rfl
theorem dX7_scanBits_24 : decode cX7_scanBits 24 = .ok (.getfield 38, 3) := xdc ddX7_scanBits_0 13 rfl
theorem dX7_scanBits_27 : decode cX7_scanBits 27 = .ok (.getfield 158, 3) := xdc ddX7_scanBits_0 14 rfl
theorem dX7_scanBits_30 : decode cX7_scanBits 30 = .ok (.getstatic 340, 3) := xdc ddX7_scanBits_0 15 rfl
theorem dX7_scanBits_33 : decode cX7_scanBits 33 = .ok (.if_acmp .ne 7, 3) := xdc ddX7_scanBits_0 16 rfl
theorem dX7_scanBits_36 : decode cX7_scanBits 36 = .ok (.iconst 1, 1) := xdc ddX7_scanBits_0 17 rfl
theorem dX7_scanBits_37 : decode cX7_scanBits 37 = .ok (.goto 4, 3) := xdc ddX7_scanBits_0 18 rfl
theorem dX7_scanBits_40 : decode cX7_scanBits 40 = .ok (.iconst 0, 1) := xdc ddX7_scanBits_0 19 rfl
theorem dX7_scanBits_41 : decode cX7_scanBits 41 = .ok (.istore_n 2, 1) := xdc ddX7_scanBits_0 20 rfl
theorem dX7_scanBits_42 : decode cX7_scanBits 42 = .ok (.aload_n 0, 1) := xdc ddX7_scanBits_0 21 rfl
theorem dX7_scanBits_43 : decode cX7_scanBits 43 = .ok (.iload_n 2, 1) := xdc ddX7_scanBits_0 22 rfl
theorem dX7_scanBits_44 : decode cX7_scanBits 44 = .ok (.ifCond .eq 10, 3) := xdc ddX7_scanBits_0 23 rfl
theorem dX7_scanBits_47 : decode cX7_scanBits 47 = .ok (.iload_n 1, 1) := xdc ddX7_scanBits_0 24 rfl
theorem dX7_scanBits_48 : decode cX7_scanBits 48 = .ok (.invokestatic 343, 3) := xdc ddX7_scanBits_0 25 rfl
theorem dX7_scanBits_51 : decode cX7_scanBits 51 = .ok (.goto 10, 3) := xdc ddX7_scanBits_0 26 rfl
theorem dX7_scanBits_54 : decode cX7_scanBits 54 = .ok (.bipush 31, 2) := xdc ddX7_scanBits_0 27 rfl
theorem dX7_scanBits_56 : decode cX7_scanBits 56 = .ok (.iload_n 1, 1) := xdc ddX7_scanBits_0 28 rfl
theorem dX7_scanBits_57 : decode cX7_scanBits 57 = .ok (.invokestatic 346, 3) := xdc ddX7_scanBits_0 29 rfl
theorem dX7_scanBits_60 : decode cX7_scanBits 60 = .ok (.isub, 1) := xdc ddX7_scanBits_0 30 rfl
theorem dX7_scanBits_61 : decode cX7_scanBits 61 = .ok (.invokevirtual 249, 3) := xdc ddX7_scanBits_0 31 rfl
theorem dX7_scanBits_64 : decode cX7_scanBits 64 = .ok (.return_, 1) := xdc ddX7_scanBits_0 32 rfl
abbrev cJ6_reverseBytes_0f7a4 : ByteArray := prog_23_method_57_code
theorem ddJ6_reverseBytes_0f7a4_0 : xdec cJ6_reverseBytes_0f7a4 [(0, (.iload_n 0, 1)), (1, (.bipush 24, 2)), (3, (.ishl, 1)), (4, (.iload_n 0, 1)), (5, (.ldc_w 274, 3)), (8, (.iand, 1)), (9, (.bipush 8, 2)), (11, (.ishl, 1)), (12, (.ior, 1)), (13, (.iload_n 0, 1)), (14, (.bipush 8, 2)), (16, (.iushr, 1)), (17, (.ldc_w 274, 3)), (20, (.iand, 1)), (21, (.ior, 1)), (22, (.iload_n 0, 1)), (23, (.bipush 24, 2)), (25, (.iushr, 1)), (26, (.ior, 1)), (27, (.ireturn, 1))] = true := by decide +kernel
theorem dJ6_reverseBytes_0f7a4_0 : decode cJ6_reverseBytes_0f7a4 0 = .ok (.iload_n 0, 1) := xdc ddJ6_reverseBytes_0f7a4_0 0 rfl
theorem dJ6_reverseBytes_0f7a4_1 : decode cJ6_reverseBytes_0f7a4 1 = .ok (.bipush 24, 2) := xdc ddJ6_reverseBytes_0f7a4_0 1 rfl
theorem dJ6_reverseBytes_0f7a4_3 : decode cJ6_reverseBytes_0f7a4 3 = .ok (.ishl, 1) := xdc ddJ6_reverseBytes_0f7a4_0 2 rfl
theorem dJ6_reverseBytes_0f7a4_4 : decode cJ6_reverseBytes_0f7a4 4 = .ok (.iload_n 0, 1) := xdc ddJ6_reverseBytes_0f7a4_0 3 rfl
theorem dJ6_reverseBytes_0f7a4_5 : decode cJ6_reverseBytes_0f7a4 5 = .ok (.ldc_w 274, 3) := xdc ddJ6_reverseBytes_0f7a4_0 4 rfl
theorem dJ6_reverseBytes_0f7a4_8 : decode cJ6_reverseBytes_0f7a4 8 = .ok (.iand, 1) := xdc ddJ6_reverseBytes_0f7a4_0 5 rfl
theorem dJ6_reverseBytes_0f7a4_9 : decode cJ6_reverseBytes_0f7a4 9 = .ok (.bipush 8, 2) := xdc ddJ6_reverseBytes_0f7a4_0 6 rfl
theorem dJ6_reverseBytes_0f7a4_11 : decode cJ6_reverseBytes_0f7a4 11 = .ok (.ishl, 1) := xdc ddJ6_reverseBytes_0f7a4_0 7 rfl
theorem dJ6_reverseBytes_0f7a4_12 : decode cJ6_reverseBytes_0f7a4 12 = .ok (.ior, 1) := xdc ddJ6_reverseBytes_0f7a4_0 8 rfl
theorem dJ6_reverseBytes_0f7a4_13 : decode cJ6_reverseBytes_0f7a4 13 = .ok (.iload_n 0, 1) := xdc ddJ6_reverseBytes_0f7a4_0 9 rfl
theorem dJ6_reverseBytes_0f7a4_14 : decode cJ6_reverseBytes_0f7a4 14 = .ok (.bipush 8, 2) := xdc ddJ6_reverseBytes_0f7a4_0 10 rfl
theorem dJ6_reverseBytes_0f7a4_16 : decode cJ6_reverseBytes_0f7a4 16 = .ok (.iushr, 1) := xdc ddJ6_reverseBytes_0f7a4_0 11 rfl
theorem dJ6_reverseBytes_0f7a4_17 : decode cJ6_reverseBytes_0f7a4 17 = .ok (.ldc_w 274, 3) := xdc ddJ6_reverseBytes_0f7a4_0 12 rfl
theorem dJ6_reverseBytes_0f7a4_20 : decode cJ6_reverseBytes_0f7a4 20 = .ok (.iand, 1) := xdc ddJ6_reverseBytes_0f7a4_0 13 rfl
theorem dJ6_reverseBytes_0f7a4_21 : decode cJ6_reverseBytes_0f7a4 21 = .ok (.ior, 1) := xdc ddJ6_reverseBytes_0f7a4_0 14 rfl
theorem dJ6_reverseBytes_0f7a4_22 : decode cJ6_reverseBytes_0f7a4 22 = .ok (.iload_n 0, 1) := xdc ddJ6_reverseBytes_0f7a4_0 15 rfl
theorem dJ6_reverseBytes_0f7a4_23 : decode cJ6_reverseBytes_0f7a4 23 = .ok (.bipush 24, 2) := xdc ddJ6_reverseBytes_0f7a4_0 16 rfl
theorem dJ6_reverseBytes_0f7a4_25 : decode cJ6_reverseBytes_0f7a4 25 = .ok (.iushr, 1) := xdc ddJ6_reverseBytes_0f7a4_0 17 rfl
theorem dJ6_reverseBytes_0f7a4_26 : decode cJ6_reverseBytes_0f7a4 26 = .ok (.ior, 1) := xdc ddJ6_reverseBytes_0f7a4_0 18 rfl
theorem dJ6_reverseBytes_0f7a4_27 : decode cJ6_reverseBytes_0f7a4 27 = .ok (.ireturn, 1) := xdc ddJ6_reverseBytes_0f7a4_0 19 rfl
abbrev cX7_doRearrange : ByteArray := prog_9_method_28_code
theorem ddX7_doRearrange_0 : xdec cX7_doRearrange [(0, (.getstatic 311, 3)), (3, (.aload_n 0, 1)), (4, (.getfield 38, 3)), (7, (.getfield 158, 3)), (10, (.invokevirtual 316, 3)), (13, (.iaload, 1)), (14, (.tableswitch 71 16 19 #[30, 30, 41, 55], 30)), (44, (.aload_n 0, 1)), (45, (.aload_n 0, 1)), (46, (.invokevirtual 170, 3)), (49, (.invokevirtual 328, 3)), (52, (.goto 48, 3)), (55, (.aload_n 0, 1)), (56, (.aload_n 0, 1)), (57, (.invokevirtual 170, 3)), (60, (.invokestatic 331, 3)), (63, (.invokevirtual 180, 3)), (66, (.goto 34, 3)), (69, (.aload_n 0, 1)), (70, (.getfield 18, 3)), (73, (.iconst 0, 1)), (74, (.aload_n 0, 1)), (75, (.getfield 18, 3)), (78, (.iconst 0, 1)), (79, (.iaload, 1)), (80, (.i2s, 1)), (81, (.iastore, 1)), (82, (.goto 18, 3)), (85, (.aload_n 0, 1)), (86, (.getfield 18, 3)), (89, (.iconst 2, 1)), (90, (.aload_n 0, 1)), (91, (.getfield 18, 3)), (94, (.iconst 0, 1)), (95, (.iaload, 1)), (96, (.bipush 31, 2)), (98, (.ishr, 1)), (99, (.iastore, 1)), (100, (.return_, 1))] = true := by decide +kernel
theorem dX7_doRearrange_0 : decode cX7_doRearrange 0 = .ok (.getstatic 311, 3) := xdc ddX7_doRearrange_0 0 rfl
theorem dX7_doRearrange_3 : decode cX7_doRearrange 3 = .ok (.aload_n 0, 1) := xdc ddX7_doRearrange_0 1 rfl
theorem dX7_doRearrange_4 : decode cX7_doRearrange 4 = .ok (.getfield 38, 3) := xdc ddX7_doRearrange_0 2 rfl
theorem dX7_doRearrange_7 : decode cX7_doRearrange 7 = .ok (.getfield 158, 3) := xdc ddX7_doRearrange_0 3 rfl
theorem dX7_doRearrange_10 : decode cX7_doRearrange 10 = .ok (.invokevirtual 316, 3) := xdc ddX7_doRearrange_0 4 rfl
theorem dX7_doRearrange_13 : decode cX7_doRearrange 13 = .ok (.iaload, 1) := xdc ddX7_doRearrange_0 5 rfl
theorem dX7_doRearrange_14 : decode cX7_doRearrange 14 = .ok (.tableswitch 71 16 19 #[30, 30, 41, 55], 30) := xdc ddX7_doRearrange_0 6 rfl
theorem dX7_doRearrange_44 : decode cX7_doRearrange 44 = .ok (.aload_n 0, 1) := xdc ddX7_doRearrange_0 7 rfl
theorem dX7_doRearrange_45 : decode cX7_doRearrange 45 = .ok (.aload_n 0, 1) := xdc ddX7_doRearrange_0 8 rfl
theorem dX7_doRearrange_46 : decode cX7_doRearrange 46 = .ok (.invokevirtual 170, 3) := xdc ddX7_doRearrange_0 9 rfl
theorem dX7_doRearrange_49 : decode cX7_doRearrange 49 = .ok (.invokevirtual 328, 3) := xdc ddX7_doRearrange_0 10 rfl
theorem dX7_doRearrange_52 : decode cX7_doRearrange 52 = .ok (.goto 48, 3) := xdc ddX7_doRearrange_0 11 rfl
theorem dX7_doRearrange_55 : decode cX7_doRearrange 55 = .ok (.aload_n 0, 1) := xdc ddX7_doRearrange_0 12 rfl
theorem dX7_doRearrange_56 : decode cX7_doRearrange 56 = .ok (.aload_n 0, 1) := xdc ddX7_doRearrange_0 13 rfl
theorem dX7_doRearrange_57 : decode cX7_doRearrange 57 = .ok (.invokevirtual 170, 3) := xdc ddX7_doRearrange_0 14 rfl
theorem dX7_doRearrange_60 : decode cX7_doRearrange 60 = .ok (.invokestatic 331, 3) := xdc ddX7_doRearrange_0 15 rfl
theorem dX7_doRearrange_63 : decode cX7_doRearrange 63 = .ok (.invokevirtual 180, 3) := xdc ddX7_doRearrange_0 16 rfl
theorem dX7_doRearrange_66 : decode cX7_doRearrange 66 = .ok (.goto 34, 3) := xdc ddX7_doRearrange_0 17 rfl
theorem dX7_doRearrange_69 : decode cX7_doRearrange 69 = .ok (.aload_n 0, 1) := xdc ddX7_doRearrange_0 18 rfl
theorem dX7_doRearrange_70 : decode cX7_doRearrange 70 = .ok (.getfield 18, 3) := xdc ddX7_doRearrange_0 19 rfl
theorem dX7_doRearrange_73 : decode cX7_doRearrange 73 = .ok (.iconst 0, 1) := xdc ddX7_doRearrange_0 20 rfl
theorem dX7_doRearrange_74 : decode cX7_doRearrange 74 = .ok (.aload_n 0, 1) := xdc ddX7_doRearrange_0 21 rfl
theorem dX7_doRearrange_75 : decode cX7_doRearrange 75 = .ok (.getfield 18, 3) := xdc ddX7_doRearrange_0 22 rfl
theorem dX7_doRearrange_78 : decode cX7_doRearrange 78 = .ok (.iconst 0, 1) := xdc ddX7_doRearrange_0 23 rfl
theorem dX7_doRearrange_79 : decode cX7_doRearrange 79 = .ok (.iaload, 1) := xdc ddX7_doRearrange_0 24 rfl
theorem dX7_doRearrange_80 : decode cX7_doRearrange 80 = .ok (.i2s, 1) := xdc ddX7_doRearrange_0 25 rfl
theorem dX7_doRearrange_81 : decode cX7_doRearrange 81 = .ok (.iastore, 1) := xdc ddX7_doRearrange_0 26 rfl
theorem dX7_doRearrange_82 : decode cX7_doRearrange 82 = .ok (.goto 18, 3) := xdc ddX7_doRearrange_0 27 rfl
theorem dX7_doRearrange_85 : decode cX7_doRearrange 85 = .ok (.aload_n 0, 1) := xdc ddX7_doRearrange_0 28 rfl
theorem dX7_doRearrange_86 : decode cX7_doRearrange 86 = .ok (.getfield 18, 3) := xdc ddX7_doRearrange_0 29 rfl
theorem dX7_doRearrange_89 : decode cX7_doRearrange 89 = .ok (.iconst 2, 1) := xdc ddX7_doRearrange_0 30 rfl
theorem dX7_doRearrange_90 : decode cX7_doRearrange 90 = .ok (.aload_n 0, 1) := xdc ddX7_doRearrange_0 31 rfl
theorem dX7_doRearrange_91 : decode cX7_doRearrange 91 = .ok (.getfield 18, 3) := xdc ddX7_doRearrange_0 32 rfl
theorem dX7_doRearrange_94 : decode cX7_doRearrange 94 = .ok (.iconst 0, 1) := xdc ddX7_doRearrange_0 33 rfl
theorem dX7_doRearrange_95 : decode cX7_doRearrange 95 = .ok (.iaload, 1) := xdc ddX7_doRearrange_0 34 rfl
theorem dX7_doRearrange_96 : decode cX7_doRearrange 96 = .ok (.bipush 31, 2) := xdc ddX7_doRearrange_0 35 rfl
theorem dX7_doRearrange_98 : decode cX7_doRearrange 98 = .ok (.ishr, 1) := xdc ddX7_doRearrange_0 36 rfl
theorem dX7_doRearrange_99 : decode cX7_doRearrange 99 = .ok (.iastore, 1) := xdc ddX7_doRearrange_0 37 rfl
theorem dX7_doRearrange_100 : decode cX7_doRearrange 100 = .ok (.return_, 1) := xdc ddX7_doRearrange_0 38 rfl
abbrev cX7_doExchange : ByteArray := prog_9_method_30_code
theorem ddX7_doExchange_0 : xdec cX7_doExchange [(0, (.aload_n 0, 1)), (1, (.invokevirtual 170, 3)), (4, (.istore_n 1, 1)), (5, (.aload_n 0, 1)), (6, (.invokevirtual 246, 3)), (9, (.istore_n 2, 1)), (10, (.getstatic 311, 3)), (13, (.aload_n 0, 1)), (14, (.getfield 38, 3)), (17, (.getfield 158, 3)), (20, (.invokevirtual 316, 3)), (23, (.iaload, 1)), (24, (.lookupswitch 64 #[(20, 28), (21, 41)], 28)), (52, (.aload_n 0, 1)), (53, (.iload_n 1, 1)), (54, (.invokevirtual 249, 3)), (57, (.aload_n 0, 1)), (58, (.iload_n 2, 1)), (59, (.invokevirtual 180, 3)), (62, (.goto 68, 3)), (65, (.aload_n 0, 1)), (66, (.iload_n 1, 1)), (67, (.invokevirtual 249, 3)), (70, (.aload_n 0, 1)), (71, (.aload_n 0, 1)), (72, (.getfield 12, 3)), (75, (.iload_n 1, 1)), (76, (.iload_n 2, 1)), (77, (.iconst 0, 1)), (78, (.iconst 4, 1)), (79, (.invokevirtual 349, 3)), (82, (.invokevirtual 180, 3)), (85, (.goto 45, 3)), (88, (.aload_n 0, 1)), (89, (.getfield 12, 3)), (92, (.aload_n 0, 1)), (93, (.getfield 18, 3)), (96, (.iconst 0, 1)), (97, (.iaload, 1)), (98, (.iload_n 1, 1))] = true := by decide +kernel
theorem dX7_doExchange_0 : decode cX7_doExchange 0 = .ok (.aload_n 0, 1) := xdc ddX7_doExchange_0 0 rfl
theorem dX7_doExchange_1 : decode cX7_doExchange 1 = .ok (.invokevirtual 170, 3) := xdc ddX7_doExchange_0 1 rfl
theorem dX7_doExchange_4 : decode cX7_doExchange 4 = .ok (.istore_n 1, 1) := xdc ddX7_doExchange_0 2 rfl
theorem dX7_doExchange_5 : decode cX7_doExchange 5 = .ok (.aload_n 0, 1) := xdc ddX7_doExchange_0 3 rfl
theorem dX7_doExchange_6 : decode cX7_doExchange 6 = .ok (.invokevirtual 246, 3) := xdc ddX7_doExchange_0 4 rfl
theorem dX7_doExchange_9 : decode cX7_doExchange 9 = .ok (.istore_n 2, 1) := xdc ddX7_doExchange_0 5 rfl
theorem dX7_doExchange_10 : decode cX7_doExchange 10 = .ok (.getstatic 311, 3) := xdc ddX7_doExchange_0 6 rfl
theorem dX7_doExchange_13 : decode cX7_doExchange 13 = .ok (.aload_n 0, 1) := xdc ddX7_doExchange_0 7 rfl
theorem dX7_doExchange_14 : decode cX7_doExchange 14 = .ok (.getfield 38, 3) := xdc ddX7_doExchange_0 8 rfl
theorem dX7_doExchange_17 : decode cX7_doExchange 17 = .ok (.getfield 158, 3) := xdc ddX7_doExchange_0 9 rfl
theorem dX7_doExchange_20 : decode cX7_doExchange 20 = .ok (.invokevirtual 316, 3) := xdc ddX7_doExchange_0 10 rfl
theorem dX7_doExchange_23 : decode cX7_doExchange 23 = .ok (.iaload, 1) := xdc ddX7_doExchange_0 11 rfl
theorem dX7_doExchange_24 : decode cX7_doExchange 24 = .ok (.lookupswitch 64 #[(20, 28), (21, 41)], 28) := xdc ddX7_doExchange_0 12 rfl
theorem dX7_doExchange_52 : decode cX7_doExchange 52 = .ok (.aload_n 0, 1) := xdc ddX7_doExchange_0 13 rfl
theorem dX7_doExchange_53 : decode cX7_doExchange 53 = .ok (.iload_n 1, 1) := xdc ddX7_doExchange_0 14 rfl
theorem dX7_doExchange_54 : decode cX7_doExchange 54 = .ok (.invokevirtual 249, 3) := xdc ddX7_doExchange_0 15 rfl
theorem dX7_doExchange_57 : decode cX7_doExchange 57 = .ok (.aload_n 0, 1) := xdc ddX7_doExchange_0 16 rfl
theorem dX7_doExchange_58 : decode cX7_doExchange 58 = .ok (.iload_n 2, 1) := xdc ddX7_doExchange_0 17 rfl
theorem dX7_doExchange_59 : decode cX7_doExchange 59 = .ok (.invokevirtual 180, 3) := xdc ddX7_doExchange_0 18 rfl
theorem dX7_doExchange_62 : decode cX7_doExchange 62 = .ok (.goto 68, 3) := xdc ddX7_doExchange_0 19 rfl
theorem dX7_doExchange_65 : decode cX7_doExchange 65 = .ok (.aload_n 0, 1) := xdc ddX7_doExchange_0 20 rfl
theorem dX7_doExchange_66 : decode cX7_doExchange 66 = .ok (.iload_n 1, 1) := xdc ddX7_doExchange_0 21 rfl
theorem dX7_doExchange_67 : decode cX7_doExchange 67 = .ok (.invokevirtual 249, 3) := xdc ddX7_doExchange_0 22 rfl
theorem dX7_doExchange_70 : decode cX7_doExchange 70 = .ok (.aload_n 0, 1) := xdc ddX7_doExchange_0 23 rfl
theorem dX7_doExchange_71 : decode cX7_doExchange 71 = .ok (.aload_n 0, 1) := xdc ddX7_doExchange_0 24 rfl
theorem dX7_doExchange_72 : decode cX7_doExchange 72 = .ok (.getfield 12, 3) := xdc ddX7_doExchange_0 25 rfl
theorem dX7_doExchange_75 : decode cX7_doExchange 75 = .ok (.iload_n 1, 1) := xdc ddX7_doExchange_0 26 rfl
theorem dX7_doExchange_76 : decode cX7_doExchange 76 = .ok (.iload_n 2, 1) := xdc ddX7_doExchange_0 27 rfl
theorem dX7_doExchange_77 : decode cX7_doExchange 77 = .ok (.iconst 0, 1) := xdc ddX7_doExchange_0 28 rfl
theorem dX7_doExchange_78 : decode cX7_doExchange 78 = .ok (.iconst 4, 1) := xdc ddX7_doExchange_0 29 rfl
theorem dX7_doExchange_79 : decode cX7_doExchange 79 = .ok (.invokevirtual 349, 3) := xdc ddX7_doExchange_0 30 rfl
theorem dX7_doExchange_82 : decode cX7_doExchange 82 = .ok (.invokevirtual 180, 3) := xdc ddX7_doExchange_0 31 rfl
theorem dX7_doExchange_85 : decode cX7_doExchange 85 = .ok (.goto 45, 3) := xdc ddX7_doExchange_0 32 rfl
theorem dX7_doExchange_88 : decode cX7_doExchange 88 = .ok (.aload_n 0, 1) := xdc ddX7_doExchange_0 33 rfl
theorem dX7_doExchange_89 : decode cX7_doExchange 89 = .ok (.getfield 12, 3) := xdc ddX7_doExchange_0 34 rfl
theorem dX7_doExchange_92 : decode cX7_doExchange 92 = .ok (.aload_n 0, 1) := xdc ddX7_doExchange_0 35 rfl
theorem dX7_doExchange_93 : decode cX7_doExchange 93 = .ok (.getfield 18, 3) := xdc ddX7_doExchange_0 36 rfl
theorem dX7_doExchange_96 : decode cX7_doExchange 96 = .ok (.iconst 0, 1) := xdc ddX7_doExchange_0 37 rfl
theorem dX7_doExchange_97 : decode cX7_doExchange 97 = .ok (.iaload, 1) := xdc ddX7_doExchange_0 38 rfl
theorem dX7_doExchange_98 : decode cX7_doExchange 98 = .ok (.iload_n 1, 1) := xdc ddX7_doExchange_0 39 rfl
theorem ddX7_doExchange_1 : xdec cX7_doExchange [(99, (.iconst 0, 1)), (100, (.iconst 4, 1)), (101, (.invokevirtual 353, 3)), (104, (.pop, 1)), (105, (.aload_n 0, 1)), (106, (.getfield 18, 3)), (109, (.iconst 0, 1)), (110, (.iaload, 1)), (111, (.iload_n 1, 1)), (112, (.if_icmp .ne 11, 3)), (115, (.aload_n 0, 1)), (116, (.iload_n 2, 1)), (117, (.invokevirtual 180, 3)), (120, (.goto 10, 3)), (123, (.aload_n 0, 1)), (124, (.getfield 18, 3)), (127, (.iconst 0, 1)), (128, (.iload_n 1, 1)), (129, (.iastore, 1)), (130, (.return_, 1))] = true := by decide +kernel
theorem dX7_doExchange_99 : decode cX7_doExchange 99 = .ok (.iconst 0, 1) := xdc ddX7_doExchange_1 0 rfl
theorem dX7_doExchange_100 : decode cX7_doExchange 100 = .ok (.iconst 4, 1) := xdc ddX7_doExchange_1 1 rfl
theorem dX7_doExchange_101 : decode cX7_doExchange 101 = .ok (.invokevirtual 353, 3) := xdc ddX7_doExchange_1 2 rfl
theorem dX7_doExchange_104 : decode cX7_doExchange 104 = .ok (.pop, 1) := xdc ddX7_doExchange_1 3 rfl
theorem dX7_doExchange_105 : decode cX7_doExchange 105 = .ok (.aload_n 0, 1) := xdc ddX7_doExchange_1 4 rfl
theorem dX7_doExchange_106 : decode cX7_doExchange 106 = .ok (.getfield 18, 3) := xdc ddX7_doExchange_1 5 rfl
theorem dX7_doExchange_109 : decode cX7_doExchange 109 = .ok (.iconst 0, 1) := xdc ddX7_doExchange_1 6 rfl
theorem dX7_doExchange_110 : decode cX7_doExchange 110 = .ok (.iaload, 1) := xdc ddX7_doExchange_1 7 rfl
theorem dX7_doExchange_111 : decode cX7_doExchange 111 = .ok (.iload_n 1, 1) := xdc ddX7_doExchange_1 8 rfl
theorem dX7_doExchange_112 : decode cX7_doExchange 112 = .ok (.if_icmp .ne 11, 3) := xdc ddX7_doExchange_1 9 rfl
theorem dX7_doExchange_115 : decode cX7_doExchange 115 = .ok (.aload_n 0, 1) := xdc ddX7_doExchange_1 10 rfl
theorem dX7_doExchange_116 : decode cX7_doExchange 116 = .ok (.iload_n 2, 1) := xdc ddX7_doExchange_1 11 rfl
theorem dX7_doExchange_117 : decode cX7_doExchange 117 = .ok (.invokevirtual 180, 3) := xdc ddX7_doExchange_1 12 rfl
theorem dX7_doExchange_120 : decode cX7_doExchange 120 = .ok (.goto 10, 3) := xdc ddX7_doExchange_1 13 rfl
theorem dX7_doExchange_123 : decode cX7_doExchange 123 = .ok (.aload_n 0, 1) := xdc ddX7_doExchange_1 14 rfl
theorem dX7_doExchange_124 : decode cX7_doExchange 124 = .ok (.getfield 18, 3) := xdc ddX7_doExchange_1 15 rfl
theorem dX7_doExchange_127 : decode cX7_doExchange 127 = .ok (.iconst 0, 1) := xdc ddX7_doExchange_1 16 rfl
theorem dX7_doExchange_128 : decode cX7_doExchange 128 = .ok (.iload_n 1, 1) := xdc ddX7_doExchange_1 17 rfl
theorem dX7_doExchange_129 : decode cX7_doExchange 129 = .ok (.iastore, 1) := xdc ddX7_doExchange_1 18 rfl
theorem dX7_doExchange_130 : decode cX7_doExchange 130 = .ok (.return_, 1) := xdc ddX7_doExchange_1 19 rfl
abbrev cX7_push : ByteArray := prog_9_method_31_code
theorem ddX7_push_0 : xdec cX7_push [(0, (.aload_n 0, 1)), (1, (.getfield 18, 3)), (4, (.iconst 4, 1)), (5, (.dup2, 1)), (6, (.iaload, 1)), (7, (.iconst 4, 1)), (8, (.isub, 1)), (9, (.iastore, 1)), (10, (.aload_n 0, 1)), (11, (.getfield 42, 3)), (14, (.aload_n 0, 1)), (15, (.getfield 18, 3)), (18, (.iconst 4, 1)), (19, (.iaload, 1)), (20, (.iconst 4, 1)), (21, (.iload_n 1, 1)), (22, (.invokevirtual 224, 3)), (25, (.return_, 1))] = true := by decide +kernel
theorem dX7_push_0 : decode cX7_push 0 = .ok (.aload_n 0, 1) := xdc ddX7_push_0 0 rfl
theorem dX7_push_1 : decode cX7_push 1 = .ok (.getfield 18, 3) := xdc ddX7_push_0 1 rfl
theorem dX7_push_4 : decode cX7_push 4 = .ok (.iconst 4, 1) := xdc ddX7_push_0 2 rfl
theorem dX7_push_5 : decode cX7_push 5 = .ok (.dup2, 1) := xdc ddX7_push_0 3 rfl
theorem dX7_push_6 : decode cX7_push 6 = .ok (.iaload, 1) := xdc ddX7_push_0 4 rfl
theorem dX7_push_7 : decode cX7_push 7 = .ok (.iconst 4, 1) := xdc ddX7_push_0 5 rfl
theorem dX7_push_8 : decode cX7_push 8 = .ok (.isub, 1) := xdc ddX7_push_0 6 rfl
theorem dX7_push_9 : decode cX7_push 9 = .ok (.iastore, 1) := xdc ddX7_push_0 7 rfl
theorem dX7_push_10 : decode cX7_push 10 = .ok (.aload_n 0, 1) := xdc ddX7_push_0 8 rfl
theorem dX7_push_11 : decode cX7_push 11 = .ok (.getfield 42, 3) := xdc ddX7_push_0 9 rfl
theorem dX7_push_14 : decode cX7_push 14 = .ok (.aload_n 0, 1) := xdc ddX7_push_0 10 rfl
theorem dX7_push_15 : decode cX7_push 15 = .ok (.getfield 18, 3) := xdc ddX7_push_0 11 rfl
theorem dX7_push_18 : decode cX7_push 18 = .ok (.iconst 4, 1) := xdc ddX7_push_0 12 rfl
theorem dX7_push_19 : decode cX7_push 19 = .ok (.iaload, 1) := xdc ddX7_push_0 13 rfl
theorem dX7_push_20 : decode cX7_push 20 = .ok (.iconst 4, 1) := xdc ddX7_push_0 14 rfl
theorem dX7_push_21 : decode cX7_push 21 = .ok (.iload_n 1, 1) := xdc ddX7_push_0 15 rfl
theorem dX7_push_22 : decode cX7_push 22 = .ok (.invokevirtual 224, 3) := xdc ddX7_push_0 16 rfl
theorem dX7_push_25 : decode cX7_push 25 = .ok (.return_, 1) := xdc ddX7_push_0 17 rfl
abbrev cX7_doStack : ByteArray := prog_9_method_32_code
theorem ddX7_doStack_0 : xdec cX7_doStack [(0, (.getstatic 311, 3)), (3, (.aload_n 0, 1)), (4, (.getfield 38, 3)), (7, (.getfield 158, 3)), (10, (.invokevirtual 316, 3)), (13, (.iaload, 1)), (14, (.lookupswitch 100 #[(22, 26), (23, 59)], 26)), (40, (.aload_n 0, 1)), (41, (.aload_n 0, 1)), (42, (.getfield 38, 3)), (45, (.getfield 234, 3)), (48, (.bipush 6, 2)), (50, (.if_icmp .ne 13, 3)), (53, (.aload_n 0, 1)), (54, (.getfield 38, 3)), (57, (.getfield 237, 3)), (60, (.goto 7, 3)), (63, (.aload_n 0, 1)), (64, (.invokevirtual 170, 3)), (67, (.invokevirtual 356, 3)), (70, (.goto 84, 3)), (73, (.aload_n 0, 1)), (74, (.getfield 42, 3)), (77, (.aload_n 0, 1)), (78, (.getfield 18, 3)), (81, (.iconst 4, 1)), (82, (.iaload, 1)), (83, (.iconst 4, 1)), (84, (.invokevirtual 94, 3)), (87, (.istore_n 1, 1)), (88, (.aload_n 0, 1)), (89, (.getfield 18, 3)), (92, (.iconst 4, 1)), (93, (.dup2, 1)), (94, (.iaload, 1)), (95, (.iconst 4, 1)), (96, (.iadd, 1)), (97, (.iastore, 1)), (98, (.aload_n 0, 1)), (99, (.aload_n 0, 1))] = true := by decide +kernel
theorem dX7_doStack_0 : decode cX7_doStack 0 = .ok (.getstatic 311, 3) := xdc ddX7_doStack_0 0 rfl
theorem dX7_doStack_3 : decode cX7_doStack 3 = .ok (.aload_n 0, 1) := xdc ddX7_doStack_0 1 rfl
theorem dX7_doStack_4 : decode cX7_doStack 4 = .ok (.getfield 38, 3) := xdc ddX7_doStack_0 2 rfl
theorem dX7_doStack_7 : decode cX7_doStack 7 = .ok (.getfield 158, 3) := xdc ddX7_doStack_0 3 rfl
theorem dX7_doStack_10 : decode cX7_doStack 10 = .ok (.invokevirtual 316, 3) := xdc ddX7_doStack_0 4 rfl
theorem dX7_doStack_13 : decode cX7_doStack 13 = .ok (.iaload, 1) := xdc ddX7_doStack_0 5 rfl
theorem dX7_doStack_14 : decode cX7_doStack 14 = .ok (.lookupswitch 100 #[(22, 26), (23, 59)], 26) := xdc ddX7_doStack_0 6 rfl
theorem dX7_doStack_40 : decode cX7_doStack 40 = .ok (.aload_n 0, 1) := xdc ddX7_doStack_0 7 rfl
theorem dX7_doStack_41 : decode cX7_doStack 41 = .ok (.aload_n 0, 1) := xdc ddX7_doStack_0 8 rfl
theorem dX7_doStack_42 : decode cX7_doStack 42 = .ok (.getfield 38, 3) := xdc ddX7_doStack_0 9 rfl
theorem dX7_doStack_45 : decode cX7_doStack 45 = .ok (.getfield 234, 3) := xdc ddX7_doStack_0 10 rfl
theorem dX7_doStack_48 : decode cX7_doStack 48 = .ok (.bipush 6, 2) := xdc ddX7_doStack_0 11 rfl
theorem dX7_doStack_50 : decode cX7_doStack 50 = .ok (.if_icmp .ne 13, 3) := xdc ddX7_doStack_0 12 rfl
theorem dX7_doStack_53 : decode cX7_doStack 53 = .ok (.aload_n 0, 1) := xdc ddX7_doStack_0 13 rfl
theorem dX7_doStack_54 : decode cX7_doStack 54 = .ok (.getfield 38, 3) := xdc ddX7_doStack_0 14 rfl
theorem dX7_doStack_57 : decode cX7_doStack 57 = .ok (.getfield 237, 3) := xdc ddX7_doStack_0 15 rfl
theorem dX7_doStack_60 : decode cX7_doStack 60 = .ok (.goto 7, 3) := xdc ddX7_doStack_0 16 rfl
theorem dX7_doStack_63 : decode cX7_doStack 63 = .ok (.aload_n 0, 1) := xdc ddX7_doStack_0 17 rfl
theorem dX7_doStack_64 : decode cX7_doStack 64 = .ok (.invokevirtual 170, 3) := xdc ddX7_doStack_0 18 rfl
theorem dX7_doStack_67 : decode cX7_doStack 67 = .ok (.invokevirtual 356, 3) := xdc ddX7_doStack_0 19 rfl
theorem dX7_doStack_70 : decode cX7_doStack 70 = .ok (.goto 84, 3) := xdc ddX7_doStack_0 20 rfl
theorem dX7_doStack_73 : decode cX7_doStack 73 = .ok (.aload_n 0, 1) := xdc ddX7_doStack_0 21 rfl
theorem dX7_doStack_74 : decode cX7_doStack 74 = .ok (.getfield 42, 3) := xdc ddX7_doStack_0 22 rfl
theorem dX7_doStack_77 : decode cX7_doStack 77 = .ok (.aload_n 0, 1) := xdc ddX7_doStack_0 23 rfl
theorem dX7_doStack_78 : decode cX7_doStack 78 = .ok (.getfield 18, 3) := xdc ddX7_doStack_0 24 rfl
theorem dX7_doStack_81 : decode cX7_doStack 81 = .ok (.iconst 4, 1) := xdc ddX7_doStack_0 25 rfl
theorem dX7_doStack_82 : decode cX7_doStack 82 = .ok (.iaload, 1) := xdc ddX7_doStack_0 26 rfl
theorem dX7_doStack_83 : decode cX7_doStack 83 = .ok (.iconst 4, 1) := xdc ddX7_doStack_0 27 rfl
theorem dX7_doStack_84 : decode cX7_doStack 84 = .ok (.invokevirtual 94, 3) := xdc ddX7_doStack_0 28 rfl
theorem dX7_doStack_87 : decode cX7_doStack 87 = .ok (.istore_n 1, 1) := xdc ddX7_doStack_0 29 rfl
theorem dX7_doStack_88 : decode cX7_doStack 88 = .ok (.aload_n 0, 1) := xdc ddX7_doStack_0 30 rfl
theorem dX7_doStack_89 : decode cX7_doStack 89 = .ok (.getfield 18, 3) := xdc ddX7_doStack_0 31 rfl
theorem dX7_doStack_92 : decode cX7_doStack 92 = .ok (.iconst 4, 1) := xdc ddX7_doStack_0 32 rfl
theorem dX7_doStack_93 : decode cX7_doStack 93 = .ok (.dup2, 1) := xdc ddX7_doStack_0 33 rfl
theorem dX7_doStack_94 : decode cX7_doStack 94 = .ok (.iaload, 1) := xdc ddX7_doStack_0 34 rfl
theorem dX7_doStack_95 : decode cX7_doStack 95 = .ok (.iconst 4, 1) := xdc ddX7_doStack_0 35 rfl
theorem dX7_doStack_96 : decode cX7_doStack 96 = .ok (.iadd, 1) := xdc ddX7_doStack_0 36 rfl
theorem dX7_doStack_97 : decode cX7_doStack 97 = .ok (.iastore, 1) := xdc ddX7_doStack_0 37 rfl
theorem dX7_doStack_98 : decode cX7_doStack 98 = .ok (.aload_n 0, 1) := xdc ddX7_doStack_0 38 rfl
theorem dX7_doStack_99 : decode cX7_doStack 99 = .ok (.aload_n 0, 1) := xdc ddX7_doStack_0 39 rfl
theorem ddX7_doStack_1 : xdec cX7_doStack [(100, (.invokevirtual 139, 3)), (103, (.putfield 143, 3)), (106, (.aload_n 0, 1)), (107, (.iload_n 1, 1)), (108, (.invokevirtual 180, 3)), (111, (.goto 43, 3)), (114, (.aload_n 0, 1)), (115, (.getfield 38, 3)), (118, (.getfield 234, 3)), (121, (.bipush 9, 2)), (123, (.if_icmp .ne 13, 3)), (126, (.aload_n 0, 1)), (127, (.getfield 38, 3)), (130, (.getfield 237, 3)), (133, (.goto 7, 3)), (136, (.aload_n 0, 1)), (137, (.invokevirtual 170, 3)), (140, (.istore_n 2, 1)), (141, (.aload_n 0, 1)), (142, (.aload_n 0, 1)), (143, (.getfield 136, 3)), (146, (.invokevirtual 356, 3)), (149, (.aload_n 0, 1)), (150, (.iload_n 2, 1)), (151, (.putfield 136, 3)), (154, (.return_, 1))] = true := by decide +kernel
theorem dX7_doStack_100 : decode cX7_doStack 100 = .ok (.invokevirtual 139, 3) := xdc ddX7_doStack_1 0 rfl
theorem dX7_doStack_103 : decode cX7_doStack 103 = .ok (.putfield 143, 3) := xdc ddX7_doStack_1 1 rfl
theorem dX7_doStack_106 : decode cX7_doStack 106 = .ok (.aload_n 0, 1) := xdc ddX7_doStack_1 2 rfl
theorem dX7_doStack_107 : decode cX7_doStack 107 = .ok (.iload_n 1, 1) := xdc ddX7_doStack_1 3 rfl
theorem dX7_doStack_108 : decode cX7_doStack 108 = .ok (.invokevirtual 180, 3) := xdc ddX7_doStack_1 4 rfl
theorem dX7_doStack_111 : decode cX7_doStack 111 = .ok (.goto 43, 3) := xdc ddX7_doStack_1 5 rfl
theorem dX7_doStack_114 : decode cX7_doStack 114 = .ok (.aload_n 0, 1) := xdc ddX7_doStack_1 6 rfl
theorem dX7_doStack_115 : decode cX7_doStack 115 = .ok (.getfield 38, 3) := xdc ddX7_doStack_1 7 rfl
theorem dX7_doStack_118 : decode cX7_doStack 118 = .ok (.getfield 234, 3) := xdc ddX7_doStack_1 8 rfl
theorem dX7_doStack_121 : decode cX7_doStack 121 = .ok (.bipush 9, 2) := xdc ddX7_doStack_1 9 rfl
theorem dX7_doStack_123 : decode cX7_doStack 123 = .ok (.if_icmp .ne 13, 3) := xdc ddX7_doStack_1 10 rfl
theorem dX7_doStack_126 : decode cX7_doStack 126 = .ok (.aload_n 0, 1) := xdc ddX7_doStack_1 11 rfl
theorem dX7_doStack_127 : decode cX7_doStack 127 = .ok (.getfield 38, 3) := xdc ddX7_doStack_1 12 rfl
theorem dX7_doStack_130 : decode cX7_doStack 130 = .ok (.getfield 237, 3) := xdc ddX7_doStack_1 13 rfl
theorem dX7_doStack_133 : decode cX7_doStack 133 = .ok (.goto 7, 3) := xdc ddX7_doStack_1 14 rfl
theorem dX7_doStack_136 : decode cX7_doStack 136 = .ok (.aload_n 0, 1) := xdc ddX7_doStack_1 15 rfl
theorem dX7_doStack_137 : decode cX7_doStack 137 = .ok (.invokevirtual 170, 3) := xdc ddX7_doStack_1 16 rfl
theorem dX7_doStack_140 : decode cX7_doStack 140 = .ok (.istore_n 2, 1) := xdc ddX7_doStack_1 17 rfl
theorem dX7_doStack_141 : decode cX7_doStack 141 = .ok (.aload_n 0, 1) := xdc ddX7_doStack_1 18 rfl
theorem dX7_doStack_142 : decode cX7_doStack 142 = .ok (.aload_n 0, 1) := xdc ddX7_doStack_1 19 rfl
theorem dX7_doStack_143 : decode cX7_doStack 143 = .ok (.getfield 136, 3) := xdc ddX7_doStack_1 20 rfl
theorem dX7_doStack_146 : decode cX7_doStack 146 = .ok (.invokevirtual 356, 3) := xdc ddX7_doStack_1 21 rfl
theorem dX7_doStack_149 : decode cX7_doStack 149 = .ok (.aload_n 0, 1) := xdc ddX7_doStack_1 22 rfl
theorem dX7_doStack_150 : decode cX7_doStack 150 = .ok (.iload_n 2, 1) := xdc ddX7_doStack_1 23 rfl
theorem dX7_doStack_151 : decode cX7_doStack 151 = .ok (.putfield 136, 3) := xdc ddX7_doStack_1 24 rfl
theorem dX7_doStack_154 : decode cX7_doStack 154 = .ok (.return_, 1) := xdc ddX7_doStack_1 25 rfl
abbrev cX7_doJump : ByteArray := prog_9_method_33_code
theorem ddX7_doJump_0 : xdec cX7_doJump [(0, (.iconst 1, 1)), (1, (.istore_n 1, 1)), (2, (.aload_n 0, 1)), (3, (.getfield 38, 3)), (6, (.getfield 158, 3)), (9, (.getstatic 359, 3)), (12, (.if_acmp .ne 21, 3)), (15, (.aload_n 0, 1)), (16, (.getfield 12, 3)), (19, (.aload_n 0, 1)), (20, (.getfield 38, 3)), (23, (.getfield 322, 3)), (26, (.invokevirtual 325, 3)), (29, (.istore_n 1, 1)), (30, (.goto 72, 3)), (33, (.aload_n 0, 1)), (34, (.getfield 38, 3)), (37, (.getfield 158, 3)), (40, (.getstatic 361, 3)), (43, (.if_acmp .ne 31, 3)), (46, (.aload_n 0, 1)), (47, (.getfield 18, 3)), (50, (.iconst 1, 1)), (51, (.dup2, 1)), (52, (.iaload, 1)), (53, (.iconst 1, 1)), (54, (.isub, 1)), (55, (.iastore, 1)), (56, (.aload_n 0, 1)), (57, (.getfield 18, 3)), (60, (.iconst 1, 1)), (61, (.iaload, 1)), (62, (.ifCond .eq 7, 3)), (65, (.iconst 1, 1)), (66, (.goto 4, 3)), (69, (.iconst 0, 1)), (70, (.istore_n 1, 1)), (71, (.goto 31, 3)), (74, (.aload_n 0, 1)), (75, (.getfield 38, 3))] = true := by decide +kernel
theorem dX7_doJump_0 : decode cX7_doJump 0 = .ok (.iconst 1, 1) := xdc ddX7_doJump_0 0 rfl
theorem dX7_doJump_1 : decode cX7_doJump 1 = .ok (.istore_n 1, 1) := xdc ddX7_doJump_0 1 rfl
theorem dX7_doJump_2 : decode cX7_doJump 2 = .ok (.aload_n 0, 1) := xdc ddX7_doJump_0 2 rfl
theorem dX7_doJump_3 : decode cX7_doJump 3 = .ok (.getfield 38, 3) := xdc ddX7_doJump_0 3 rfl
theorem dX7_doJump_6 : decode cX7_doJump 6 = .ok (.getfield 158, 3) := xdc ddX7_doJump_0 4 rfl
theorem dX7_doJump_9 : decode cX7_doJump 9 = .ok (.getstatic 359, 3) := xdc ddX7_doJump_0 5 rfl
theorem dX7_doJump_12 : decode cX7_doJump 12 = .ok (.if_acmp .ne 21, 3) := xdc ddX7_doJump_0 6 rfl
theorem dX7_doJump_15 : decode cX7_doJump 15 = .ok (.aload_n 0, 1) := xdc ddX7_doJump_0 7 rfl
theorem dX7_doJump_16 : decode cX7_doJump 16 = .ok (.getfield 12, 3) := xdc ddX7_doJump_0 8 rfl
theorem dX7_doJump_19 : decode cX7_doJump 19 = .ok (.aload_n 0, 1) := xdc ddX7_doJump_0 9 rfl
theorem dX7_doJump_20 : decode cX7_doJump 20 = .ok (.getfield 38, 3) := xdc ddX7_doJump_0 10 rfl
theorem dX7_doJump_23 : decode cX7_doJump 23 = .ok (.getfield 322, 3) := xdc ddX7_doJump_0 11 rfl
theorem dX7_doJump_26 : decode cX7_doJump 26 = .ok (.invokevirtual 325, 3) := xdc ddX7_doJump_0 12 rfl
theorem dX7_doJump_29 : decode cX7_doJump 29 = .ok (.istore_n 1, 1) := xdc ddX7_doJump_0 13 rfl
theorem dX7_doJump_30 : decode cX7_doJump 30 = .ok (.goto 72, 3) := xdc ddX7_doJump_0 14 rfl
theorem dX7_doJump_33 : decode cX7_doJump 33 = .ok (.aload_n 0, 1) := xdc ddX7_doJump_0 15 rfl
theorem dX7_doJump_34 : decode cX7_doJump 34 = .ok (.getfield 38, 3) := xdc ddX7_doJump_0 16 rfl
theorem dX7_doJump_37 : decode cX7_doJump 37 = .ok (.getfield 158, 3) := xdc ddX7_doJump_0 17 rfl
theorem dX7_doJump_40 : decode cX7_doJump 40 = .ok (.getstatic 361, 3) := xdc ddX7_doJump_0 18 rfl
theorem dX7_doJump_43 : decode cX7_doJump 43 = .ok (.if_acmp .ne 31, 3) := xdc ddX7_doJump_0 19 rfl
theorem dX7_doJump_46 : decode cX7_doJump 46 = .ok (.aload_n 0, 1) := xdc ddX7_doJump_0 20 rfl
theorem dX7_doJump_47 : decode cX7_doJump 47 = .ok (.getfield 18, 3) := xdc ddX7_doJump_0 21 rfl
theorem dX7_doJump_50 : decode cX7_doJump 50 = .ok (.iconst 1, 1) := xdc ddX7_doJump_0 22 rfl
theorem dX7_doJump_51 : decode cX7_doJump 51 = .ok (.dup2, 1) := xdc ddX7_doJump_0 23 rfl
theorem dX7_doJump_52 : decode cX7_doJump 52 = .ok (.iaload, 1) := xdc ddX7_doJump_0 24 rfl
theorem dX7_doJump_53 : decode cX7_doJump 53 = .ok (.iconst 1, 1) := xdc ddX7_doJump_0 25 rfl
theorem dX7_doJump_54 : decode cX7_doJump 54 = .ok (.isub, 1) := xdc ddX7_doJump_0 26 rfl
theorem dX7_doJump_55 : decode cX7_doJump 55 = .ok (.iastore, 1) := xdc ddX7_doJump_0 27 rfl
theorem dX7_doJump_56 : decode cX7_doJump 56 = .ok (.aload_n 0, 1) := xdc ddX7_doJump_0 28 rfl
theorem dX7_doJump_57 : decode cX7_doJump 57 = .ok (.getfield 18, 3) := xdc ddX7_doJump_0 29 rfl
theorem dX7_doJump_60 : decode cX7_doJump 60 = .ok (.iconst 1, 1) := xdc ddX7_doJump_0 30 rfl
theorem dX7_doJump_61 : decode cX7_doJump 61 = .ok (.iaload, 1) := xdc ddX7_doJump_0 31 rfl
theorem dX7_doJump_62 : decode cX7_doJump 62 = .ok (.ifCond .eq 7, 3) := xdc ddX7_doJump_0 32 rfl
theorem dX7_doJump_65 : decode cX7_doJump 65 = .ok (.iconst 1, 1) := xdc ddX7_doJump_0 33 rfl
theorem dX7_doJump_66 : decode cX7_doJump 66 = .ok (.goto 4, 3) := xdc ddX7_doJump_0 34 rfl
theorem dX7_doJump_69 : decode cX7_doJump 69 = .ok (.iconst 0, 1) := xdc ddX7_doJump_0 35 rfl
theorem dX7_doJump_70 : decode cX7_doJump 70 = .ok (.istore_n 1, 1) := xdc ddX7_doJump_0 36 rfl
theorem dX7_doJump_71 : decode cX7_doJump 71 = .ok (.goto 31, 3) := xdc ddX7_doJump_0 37 rfl
theorem dX7_doJump_74 : decode cX7_doJump 74 = .ok (.aload_n 0, 1) := xdc ddX7_doJump_0 38 rfl
theorem dX7_doJump_75 : decode cX7_doJump 75 = .ok (.getfield 38, 3) := xdc ddX7_doJump_0 39 rfl
theorem ddX7_doJump_1 : xdec cX7_doJump [(78, (.getfield 158, 3)), (81, (.getstatic 364, 3)), (84, (.if_acmp .ne 18, 3)), (87, (.aload_n 0, 1)), (88, (.getfield 18, 3)), (91, (.iconst 1, 1)), (92, (.iaload, 1)), (93, (.ifCond .ne 7, 3)), (96, (.iconst 1, 1)), (97, (.goto 4, 3)), (100, (.iconst 0, 1)), (101, (.istore_n 1, 1)), (102, (.iload_n 1, 1)), (103, (.ifCond .eq 33, 3)), (106, (.aload_n 0, 1)), (107, (.aload_n 0, 1)), (108, (.getfield 38, 3)), (111, (.getfield 234, 3)), (114, (.bipush 9, 2)), (116, (.if_icmp .ne 13, 3)), (119, (.aload_n 0, 1)), (120, (.getfield 38, 3)), (123, (.getfield 237, 3)), (126, (.goto 7, 3)), (129, (.aload_n 0, 1)), (130, (.invokevirtual 170, 3)), (133, (.putfield 136, 3)), (136, (.return_, 1))] = true := by decide +kernel
theorem dX7_doJump_78 : decode cX7_doJump 78 = .ok (.getfield 158, 3) := xdc ddX7_doJump_1 0 rfl
theorem dX7_doJump_81 : decode cX7_doJump 81 = .ok (.getstatic 364, 3) := xdc ddX7_doJump_1 1 rfl
theorem dX7_doJump_84 : decode cX7_doJump 84 = .ok (.if_acmp .ne 18, 3) := xdc ddX7_doJump_1 2 rfl
theorem dX7_doJump_87 : decode cX7_doJump 87 = .ok (.aload_n 0, 1) := xdc ddX7_doJump_1 3 rfl
theorem dX7_doJump_88 : decode cX7_doJump 88 = .ok (.getfield 18, 3) := xdc ddX7_doJump_1 4 rfl
theorem dX7_doJump_91 : decode cX7_doJump 91 = .ok (.iconst 1, 1) := xdc ddX7_doJump_1 5 rfl
theorem dX7_doJump_92 : decode cX7_doJump 92 = .ok (.iaload, 1) := xdc ddX7_doJump_1 6 rfl
theorem dX7_doJump_93 : decode cX7_doJump 93 = .ok (.ifCond .ne 7, 3) := xdc ddX7_doJump_1 7 rfl
theorem dX7_doJump_96 : decode cX7_doJump 96 = .ok (.iconst 1, 1) := xdc ddX7_doJump_1 8 rfl
theorem dX7_doJump_97 : decode cX7_doJump 97 = .ok (.goto 4, 3) := xdc ddX7_doJump_1 9 rfl
theorem dX7_doJump_100 : decode cX7_doJump 100 = .ok (.iconst 0, 1) := xdc ddX7_doJump_1 10 rfl
theorem dX7_doJump_101 : decode cX7_doJump 101 = .ok (.istore_n 1, 1) := xdc ddX7_doJump_1 11 rfl
theorem dX7_doJump_102 : decode cX7_doJump 102 = .ok (.iload_n 1, 1) := xdc ddX7_doJump_1 12 rfl
theorem dX7_doJump_103 : decode cX7_doJump 103 = .ok (.ifCond .eq 33, 3) := xdc ddX7_doJump_1 13 rfl
theorem dX7_doJump_106 : decode cX7_doJump 106 = .ok (.aload_n 0, 1) := xdc ddX7_doJump_1 14 rfl
theorem dX7_doJump_107 : decode cX7_doJump 107 = .ok (.aload_n 0, 1) := xdc ddX7_doJump_1 15 rfl
theorem dX7_doJump_108 : decode cX7_doJump 108 = .ok (.getfield 38, 3) := xdc ddX7_doJump_1 16 rfl
theorem dX7_doJump_111 : decode cX7_doJump 111 = .ok (.getfield 234, 3) := xdc ddX7_doJump_1 17 rfl
theorem dX7_doJump_114 : decode cX7_doJump 114 = .ok (.bipush 9, 2) := xdc ddX7_doJump_1 18 rfl
theorem dX7_doJump_116 : decode cX7_doJump 116 = .ok (.if_icmp .ne 13, 3) := xdc ddX7_doJump_1 19 rfl
theorem dX7_doJump_119 : decode cX7_doJump 119 = .ok (.aload_n 0, 1) := xdc ddX7_doJump_1 20 rfl
theorem dX7_doJump_120 : decode cX7_doJump 120 = .ok (.getfield 38, 3) := xdc ddX7_doJump_1 21 rfl
theorem dX7_doJump_123 : decode cX7_doJump 123 = .ok (.getfield 237, 3) := xdc ddX7_doJump_1 22 rfl
theorem dX7_doJump_126 : decode cX7_doJump 126 = .ok (.goto 7, 3) := xdc ddX7_doJump_1 23 rfl
theorem dX7_doJump_129 : decode cX7_doJump 129 = .ok (.aload_n 0, 1) := xdc ddX7_doJump_1 24 rfl
theorem dX7_doJump_130 : decode cX7_doJump 130 = .ok (.invokevirtual 170, 3) := xdc ddX7_doJump_1 25 rfl
theorem dX7_doJump_133 : decode cX7_doJump 133 = .ok (.putfield 136, 3) := xdc ddX7_doJump_1 26 rfl
theorem dX7_doJump_136 : decode cX7_doJump 136 = .ok (.return_, 1) := xdc ddX7_doJump_1 27 rfl
abbrev cX7_doRest : ByteArray := prog_9_method_34_code
theorem ddX7_doRest_0 : xdec cX7_doRest [(0, (.getstatic 311, 3)), (3, (.aload_n 0, 1)), (4, (.getfield 38, 3)), (7, (.getfield 158, 3)), (10, (.invokevirtual 316, 3)), (13, (.iaload, 1)), (14, (.tableswitch 89 24 27 #[30, 38, 65, 77], 30)), (44, (.aload_n 0, 1)), (45, (.iconst 3, 1)), (46, (.putfield 68, 3)), (49, (.goto 54, 3)), (52, (.aload_n 0, 1)), (53, (.getfield 12, 3)), (56, (.iconst 1, 1)), (57, (.aload_n 0, 1)), (58, (.getfield 12, 3)), (61, (.iconst 1, 1)), (62, (.invokevirtual 367, 3)), (65, (.ifCond .ne 7, 3)), (68, (.iconst 1, 1)), (69, (.goto 4, 3)), (72, (.iconst 0, 1)), (73, (.invokevirtual 336, 3)), (76, (.goto 27, 3)), (79, (.aload_n 0, 1)), (80, (.getfield 12, 3)), (83, (.iconst 1, 1)), (84, (.iconst 0, 1)), (85, (.invokevirtual 336, 3)), (88, (.goto 15, 3)), (91, (.aload_n 0, 1)), (92, (.getfield 12, 3)), (95, (.iconst 1, 1)), (96, (.iconst 1, 1)), (97, (.invokevirtual 336, 3)), (100, (.goto 3, 3)), (103, (.return_, 1))] = true := by decide +kernel
theorem dX7_doRest_0 : decode cX7_doRest 0 = .ok (.getstatic 311, 3) := xdc ddX7_doRest_0 0 rfl
theorem dX7_doRest_3 : decode cX7_doRest 3 = .ok (.aload_n 0, 1) := xdc ddX7_doRest_0 1 rfl
theorem dX7_doRest_4 : decode cX7_doRest 4 = .ok (.getfield 38, 3) := xdc ddX7_doRest_0 2 rfl
theorem dX7_doRest_7 : decode cX7_doRest 7 = .ok (.getfield 158, 3) := xdc ddX7_doRest_0 3 rfl
theorem dX7_doRest_10 : decode cX7_doRest 10 = .ok (.invokevirtual 316, 3) := xdc ddX7_doRest_0 4 rfl
theorem dX7_doRest_13 : decode cX7_doRest 13 = .ok (.iaload, 1) := xdc ddX7_doRest_0 5 rfl
theorem dX7_doRest_14 : decode cX7_doRest 14 = .ok (.tableswitch 89 24 27 #[30, 38, 65, 77], 30) := xdc ddX7_doRest_0 6 rfl
theorem dX7_doRest_44 : decode cX7_doRest 44 = .ok (.aload_n 0, 1) := xdc ddX7_doRest_0 7 rfl
theorem dX7_doRest_45 : decode cX7_doRest 45 = .ok (.iconst 3, 1) := xdc ddX7_doRest_0 8 rfl
theorem dX7_doRest_46 : decode cX7_doRest 46 = .ok (.putfield 68, 3) := xdc ddX7_doRest_0 9 rfl
theorem dX7_doRest_49 : decode cX7_doRest 49 = .ok (.goto 54, 3) := xdc ddX7_doRest_0 10 rfl
theorem dX7_doRest_52 : decode cX7_doRest 52 = .ok (.aload_n 0, 1) := xdc ddX7_doRest_0 11 rfl
theorem dX7_doRest_53 : decode cX7_doRest 53 = .ok (.getfield 12, 3) := xdc ddX7_doRest_0 12 rfl
theorem dX7_doRest_56 : decode cX7_doRest 56 = .ok (.iconst 1, 1) := xdc ddX7_doRest_0 13 rfl
theorem dX7_doRest_57 : decode cX7_doRest 57 = .ok (.aload_n 0, 1) := xdc ddX7_doRest_0 14 rfl
theorem dX7_doRest_58 : decode cX7_doRest 58 = .ok (.getfield 12, 3) := xdc ddX7_doRest_0 15 rfl
theorem dX7_doRest_61 : decode cX7_doRest 61 = .ok (.iconst 1, 1) := xdc ddX7_doRest_0 16 rfl
theorem dX7_doRest_62 : decode cX7_doRest 62 = .ok (.invokevirtual 367, 3) := xdc ddX7_doRest_0 17 rfl
theorem dX7_doRest_65 : decode cX7_doRest 65 = .ok (.ifCond .ne 7, 3) := xdc ddX7_doRest_0 18 rfl
theorem dX7_doRest_68 : decode cX7_doRest 68 = .ok (.iconst 1, 1) := xdc ddX7_doRest_0 19 rfl
theorem dX7_doRest_69 : decode cX7_doRest 69 = .ok (.goto 4, 3) := xdc ddX7_doRest_0 20 rfl
theorem dX7_doRest_72 : decode cX7_doRest 72 = .ok (.iconst 0, 1) := xdc ddX7_doRest_0 21 rfl
theorem dX7_doRest_73 : decode cX7_doRest 73 = .ok (.invokevirtual 336, 3) := xdc ddX7_doRest_0 22 rfl
theorem dX7_doRest_76 : decode cX7_doRest 76 = .ok (.goto 27, 3) := xdc ddX7_doRest_0 23 rfl
theorem dX7_doRest_79 : decode cX7_doRest 79 = .ok (.aload_n 0, 1) := xdc ddX7_doRest_0 24 rfl
theorem dX7_doRest_80 : decode cX7_doRest 80 = .ok (.getfield 12, 3) := xdc ddX7_doRest_0 25 rfl
theorem dX7_doRest_83 : decode cX7_doRest 83 = .ok (.iconst 1, 1) := xdc ddX7_doRest_0 26 rfl
theorem dX7_doRest_84 : decode cX7_doRest 84 = .ok (.iconst 0, 1) := xdc ddX7_doRest_0 27 rfl
theorem dX7_doRest_85 : decode cX7_doRest 85 = .ok (.invokevirtual 336, 3) := xdc ddX7_doRest_0 28 rfl
theorem dX7_doRest_88 : decode cX7_doRest 88 = .ok (.goto 15, 3) := xdc ddX7_doRest_0 29 rfl
theorem dX7_doRest_91 : decode cX7_doRest 91 = .ok (.aload_n 0, 1) := xdc ddX7_doRest_0 30 rfl
theorem dX7_doRest_92 : decode cX7_doRest 92 = .ok (.getfield 12, 3) := xdc ddX7_doRest_0 31 rfl
theorem dX7_doRest_95 : decode cX7_doRest 95 = .ok (.iconst 1, 1) := xdc ddX7_doRest_0 32 rfl
theorem dX7_doRest_96 : decode cX7_doRest 96 = .ok (.iconst 1, 1) := xdc ddX7_doRest_0 33 rfl
theorem dX7_doRest_97 : decode cX7_doRest 97 = .ok (.invokevirtual 336, 3) := xdc ddX7_doRest_0 34 rfl
theorem dX7_doRest_100 : decode cX7_doRest 100 = .ok (.goto 3, 3) := xdc ddX7_doRest_0 35 rfl
theorem dX7_doRest_103 : decode cX7_doRest 103 = .ok (.return_, 1) := xdc ddX7_doRest_0 36 rfl
abbrev cX7_execute : ByteArray := prog_9_method_9_code
theorem ddX7_execute_0 : xdec cX7_execute [(0, (.aload_n 0, 1)), (1, (.getfield 38, 3)), (4, (.getfield 158, 3)), (7, (.getfield 162, 3)), (10, (.tableswitch 153 0 10 #[58, 65, 97, 97, 104, 111, 118, 125, 132, 139, 146], 58)), (68, (.aload_n 0, 1)), (69, (.invokevirtual 167, 3)), (72, (.goto 95, 3)), (75, (.aload_n 0, 1)), (76, (.aload_n 0, 1)), (77, (.getfield 12, 3)), (80, (.aload_n 0, 1)), (81, (.getfield 38, 3)), (84, (.getfield 158, 3)), (87, (.aload_n 0, 1)), (88, (.invokevirtual 170, 3)), (91, (.aload_n 0, 1)), (92, (.getfield 38, 3)), (95, (.getfield 173, 3)), (98, (.invokevirtual 176, 3)), (101, (.invokevirtual 180, 3)), (104, (.goto 63, 3)), (107, (.aload_n 0, 1)), (108, (.invokevirtual 183, 3)), (111, (.goto 56, 3)), (114, (.aload_n 0, 1)), (115, (.invokevirtual 186, 3)), (118, (.goto 49, 3)), (121, (.aload_n 0, 1)), (122, (.invokevirtual 189, 3)), (125, (.goto 42, 3)), (128, (.aload_n 0, 1)), (129, (.invokevirtual 192, 3)), (132, (.goto 35, 3)), (135, (.aload_n 0, 1)), (136, (.invokevirtual 195, 3)), (139, (.goto 28, 3)), (142, (.aload_n 0, 1)), (143, (.invokevirtual 198, 3)), (146, (.goto 21, 3))] = true := by decide +kernel
theorem dX7_execute_0 : decode cX7_execute 0 = .ok (.aload_n 0, 1) := xdc ddX7_execute_0 0 rfl
theorem dX7_execute_1 : decode cX7_execute 1 = .ok (.getfield 38, 3) := xdc ddX7_execute_0 1 rfl
theorem dX7_execute_4 : decode cX7_execute 4 = .ok (.getfield 158, 3) := xdc ddX7_execute_0 2 rfl
theorem dX7_execute_7 : decode cX7_execute 7 = .ok (.getfield 162, 3) := xdc ddX7_execute_0 3 rfl
theorem dX7_execute_10 : decode cX7_execute 10 = .ok (.tableswitch 153 0 10 #[58, 65, 97, 97, 104, 111, 118, 125, 132, 139, 146], 58) := xdc ddX7_execute_0 4 rfl
theorem dX7_execute_68 : decode cX7_execute 68 = .ok (.aload_n 0, 1) := xdc ddX7_execute_0 5 rfl
theorem dX7_execute_69 : decode cX7_execute 69 = .ok (.invokevirtual 167, 3) := xdc ddX7_execute_0 6 rfl
theorem dX7_execute_72 : decode cX7_execute 72 = .ok (.goto 95, 3) := xdc ddX7_execute_0 7 rfl
theorem dX7_execute_75 : decode cX7_execute 75 = .ok (.aload_n 0, 1) := xdc ddX7_execute_0 8 rfl
theorem dX7_execute_76 : decode cX7_execute 76 = .ok (.aload_n 0, 1) := xdc ddX7_execute_0 9 rfl
theorem dX7_execute_77 : decode cX7_execute 77 = .ok (.getfield 12, 3) := xdc ddX7_execute_0 10 rfl
theorem dX7_execute_80 : decode cX7_execute 80 = .ok (.aload_n 0, 1) := xdc ddX7_execute_0 11 rfl
theorem dX7_execute_81 : decode cX7_execute 81 = .ok (.getfield 38, 3) := xdc ddX7_execute_0 12 rfl
theorem dX7_execute_84 : decode cX7_execute 84 = .ok (.getfield 158, 3) := xdc ddX7_execute_0 13 rfl
theorem dX7_execute_87 : decode cX7_execute 87 = .ok (.aload_n 0, 1) := xdc ddX7_execute_0 14 rfl
theorem dX7_execute_88 : decode cX7_execute 88 = .ok (.invokevirtual 170, 3) := xdc ddX7_execute_0 15 rfl
theorem dX7_execute_91 : decode cX7_execute 91 = .ok (.aload_n 0, 1) := xdc ddX7_execute_0 16 rfl
theorem dX7_execute_92 : decode cX7_execute 92 = .ok (.getfield 38, 3) := xdc ddX7_execute_0 17 rfl
theorem dX7_execute_95 : decode cX7_execute 95 = .ok (.getfield 173, 3) := xdc ddX7_execute_0 18 rfl
theorem dX7_execute_98 : decode cX7_execute 98 = .ok (.invokevirtual 176, 3) := xdc ddX7_execute_0 19 rfl
theorem dX7_execute_101 : decode cX7_execute 101 = .ok (.invokevirtual 180, 3) := xdc ddX7_execute_0 20 rfl
theorem dX7_execute_104 : decode cX7_execute 104 = .ok (.goto 63, 3) := xdc ddX7_execute_0 21 rfl
theorem dX7_execute_107 : decode cX7_execute 107 = .ok (.aload_n 0, 1) := xdc ddX7_execute_0 22 rfl
theorem dX7_execute_108 : decode cX7_execute 108 = .ok (.invokevirtual 183, 3) := xdc ddX7_execute_0 23 rfl
theorem dX7_execute_111 : decode cX7_execute 111 = .ok (.goto 56, 3) := xdc ddX7_execute_0 24 rfl
theorem dX7_execute_114 : decode cX7_execute 114 = .ok (.aload_n 0, 1) := xdc ddX7_execute_0 25 rfl
theorem dX7_execute_115 : decode cX7_execute 115 = .ok (.invokevirtual 186, 3) := xdc ddX7_execute_0 26 rfl
theorem dX7_execute_118 : decode cX7_execute 118 = .ok (.goto 49, 3) := xdc ddX7_execute_0 27 rfl
theorem dX7_execute_121 : decode cX7_execute 121 = .ok (.aload_n 0, 1) := xdc ddX7_execute_0 28 rfl
theorem dX7_execute_122 : decode cX7_execute 122 = .ok (.invokevirtual 189, 3) := xdc ddX7_execute_0 29 rfl
theorem dX7_execute_125 : decode cX7_execute 125 = .ok (.goto 42, 3) := xdc ddX7_execute_0 30 rfl
theorem dX7_execute_128 : decode cX7_execute 128 = .ok (.aload_n 0, 1) := xdc ddX7_execute_0 31 rfl
theorem dX7_execute_129 : decode cX7_execute 129 = .ok (.invokevirtual 192, 3) := xdc ddX7_execute_0 32 rfl
theorem dX7_execute_132 : decode cX7_execute 132 = .ok (.goto 35, 3) := xdc ddX7_execute_0 33 rfl
theorem dX7_execute_135 : decode cX7_execute 135 = .ok (.aload_n 0, 1) := xdc ddX7_execute_0 34 rfl
theorem dX7_execute_136 : decode cX7_execute 136 = .ok (.invokevirtual 195, 3) := xdc ddX7_execute_0 35 rfl
theorem dX7_execute_139 : decode cX7_execute 139 = .ok (.goto 28, 3) := xdc ddX7_execute_0 36 rfl
theorem dX7_execute_142 : decode cX7_execute 142 = .ok (.aload_n 0, 1) := xdc ddX7_execute_0 37 rfl
theorem dX7_execute_143 : decode cX7_execute 143 = .ok (.invokevirtual 198, 3) := xdc ddX7_execute_0 38 rfl
theorem dX7_execute_146 : decode cX7_execute 146 = .ok (.goto 21, 3) := xdc ddX7_execute_0 39 rfl
theorem ddX7_execute_1 : xdec cX7_execute [(149, (.aload_n 0, 1)), (150, (.invokevirtual 201, 3)), (153, (.goto 14, 3)), (156, (.aload_n 0, 1)), (157, (.invokevirtual 204, 3)), (160, (.goto 7, 3)), (163, (.aload_n 0, 1)), (164, (.invokevirtual 207, 3)), (167, (.return_, 1))] = true := by decide +kernel
theorem dX7_execute_149 : decode cX7_execute 149 = .ok (.aload_n 0, 1) := xdc ddX7_execute_1 0 rfl
theorem dX7_execute_150 : decode cX7_execute 150 = .ok (.invokevirtual 201, 3) := xdc ddX7_execute_1 1 rfl
theorem dX7_execute_153 : decode cX7_execute 153 = .ok (.goto 14, 3) := xdc ddX7_execute_1 2 rfl
theorem dX7_execute_156 : decode cX7_execute 156 = .ok (.aload_n 0, 1) := xdc ddX7_execute_1 3 rfl
theorem dX7_execute_157 : decode cX7_execute 157 = .ok (.invokevirtual 204, 3) := xdc ddX7_execute_1 4 rfl
theorem dX7_execute_160 : decode cX7_execute 160 = .ok (.goto 7, 3) := xdc ddX7_execute_1 5 rfl
theorem dX7_execute_163 : decode cX7_execute 163 = .ok (.aload_n 0, 1) := xdc ddX7_execute_1 6 rfl
theorem dX7_execute_164 : decode cX7_execute 164 = .ok (.invokevirtual 207, 3) := xdc ddX7_execute_1 7 rfl
theorem dX7_execute_167 : decode cX7_execute 167 = .ok (.return_, 1) := xdc ddX7_execute_1 8 rfl
abbrev cX7_settle : ByteArray := prog_9_method_7_code
theorem ddX7_settle_0 : xdec cX7_settle [(0, (.aload_n 0, 1)), (1, (.getfield 42, 3)), (4, (.getfield 71, 3)), (7, (.ifCond .eq 30, 3)), (10, (.aload_n 0, 1)), (11, (.getfield 27, 3)), (14, (.iconst 0, 1)), (15, (.aload_n 0, 1)), (16, (.getfield 18, 3)), (19, (.iconst 0, 1)), (20, (.bipush 8, 2)), (22, (.invokestatic 122, 3)), (25, (.aload_n 0, 1)), (26, (.getfield 12, 3)), (29, (.aload_n 0, 1)), (30, (.getfield 128, 3)), (33, (.putfield 58, 3)), (36, (.return_, 1)), (37, (.aload_n 0, 1)), (38, (.getfield 54, 3)), (41, (.sipush 4096, 3)), (44, (.isub, 1)), (45, (.istore_n 1, 1)), (46, (.iload_n 1, 1)), (47, (.ifCond .lt 20, 3)), (50, (.iload_n 1, 1)), (51, (.sipush 2048, 3)), (54, (.if_icmp .ge 13, 3)), (57, (.aload_n 0, 1)), (58, (.getfield 24, 3)), (61, (.iload_n 1, 1)), (62, (.dup2, 1)), (63, (.iaload, 1)), (64, (.iconst 1, 1)), (65, (.iadd, 1)), (66, (.iastore, 1)), (67, (.aload_n 0, 1)), (68, (.aload_n 0, 1)), (69, (.getfield 136, 3)), (72, (.putfield 54, 3))] = true := by decide +kernel
theorem dX7_settle_0 : decode cX7_settle 0 = .ok (.aload_n 0, 1) := xdc ddX7_settle_0 0 rfl
theorem dX7_settle_1 : decode cX7_settle 1 = .ok (.getfield 42, 3) := xdc ddX7_settle_0 1 rfl
theorem dX7_settle_4 : decode cX7_settle 4 = .ok (.getfield 71, 3) := xdc ddX7_settle_0 2 rfl
theorem dX7_settle_7 : decode cX7_settle 7 = .ok (.ifCond .eq 30, 3) := xdc ddX7_settle_0 3 rfl
theorem dX7_settle_10 : decode cX7_settle 10 = .ok (.aload_n 0, 1) := xdc ddX7_settle_0 4 rfl
theorem dX7_settle_11 : decode cX7_settle 11 = .ok (.getfield 27, 3) := xdc ddX7_settle_0 5 rfl
theorem dX7_settle_14 : decode cX7_settle 14 = .ok (.iconst 0, 1) := xdc ddX7_settle_0 6 rfl
theorem dX7_settle_15 : decode cX7_settle 15 = .ok (.aload_n 0, 1) := xdc ddX7_settle_0 7 rfl
theorem dX7_settle_16 : decode cX7_settle 16 = .ok (.getfield 18, 3) := xdc ddX7_settle_0 8 rfl
theorem dX7_settle_19 : decode cX7_settle 19 = .ok (.iconst 0, 1) := xdc ddX7_settle_0 9 rfl
theorem dX7_settle_20 : decode cX7_settle 20 = .ok (.bipush 8, 2) := xdc ddX7_settle_0 10 rfl
theorem dX7_settle_22 : decode cX7_settle 22 = .ok (.invokestatic 122, 3) := xdc ddX7_settle_0 11 rfl
theorem dX7_settle_25 : decode cX7_settle 25 = .ok (.aload_n 0, 1) := xdc ddX7_settle_0 12 rfl
theorem dX7_settle_26 : decode cX7_settle 26 = .ok (.getfield 12, 3) := xdc ddX7_settle_0 13 rfl
theorem dX7_settle_29 : decode cX7_settle 29 = .ok (.aload_n 0, 1) := xdc ddX7_settle_0 14 rfl
theorem dX7_settle_30 : decode cX7_settle 30 = .ok (.getfield 128, 3) := xdc ddX7_settle_0 15 rfl
theorem dX7_settle_33 : decode cX7_settle 33 = .ok (.putfield 58, 3) := xdc ddX7_settle_0 16 rfl
theorem dX7_settle_36 : decode cX7_settle 36 = .ok (.return_, 1) := xdc ddX7_settle_0 17 rfl
theorem dX7_settle_37 : decode cX7_settle 37 = .ok (.aload_n 0, 1) := xdc ddX7_settle_0 18 rfl
theorem dX7_settle_38 : decode cX7_settle 38 = .ok (.getfield 54, 3) := xdc ddX7_settle_0 19 rfl
theorem dX7_settle_41 : decode cX7_settle 41 = .ok (.sipush 4096, 3) := xdc ddX7_settle_0 20 rfl
theorem dX7_settle_44 : decode cX7_settle 44 = .ok (.isub, 1) := xdc ddX7_settle_0 21 rfl
theorem dX7_settle_45 : decode cX7_settle 45 = .ok (.istore_n 1, 1) := xdc ddX7_settle_0 22 rfl
theorem dX7_settle_46 : decode cX7_settle 46 = .ok (.iload_n 1, 1) := xdc ddX7_settle_0 23 rfl
theorem dX7_settle_47 : decode cX7_settle 47 = .ok (.ifCond .lt 20, 3) := xdc ddX7_settle_0 24 rfl
theorem dX7_settle_50 : decode cX7_settle 50 = .ok (.iload_n 1, 1) := xdc ddX7_settle_0 25 rfl
theorem dX7_settle_51 : decode cX7_settle 51 = .ok (.sipush 2048, 3) := xdc ddX7_settle_0 26 rfl
theorem dX7_settle_54 : decode cX7_settle 54 = .ok (.if_icmp .ge 13, 3) := xdc ddX7_settle_0 27 rfl
theorem dX7_settle_57 : decode cX7_settle 57 = .ok (.aload_n 0, 1) := xdc ddX7_settle_0 28 rfl
theorem dX7_settle_58 : decode cX7_settle 58 = .ok (.getfield 24, 3) := xdc ddX7_settle_0 29 rfl
theorem dX7_settle_61 : decode cX7_settle 61 = .ok (.iload_n 1, 1) := xdc ddX7_settle_0 30 rfl
theorem dX7_settle_62 : decode cX7_settle 62 = .ok (.dup2, 1) := xdc ddX7_settle_0 31 rfl
theorem dX7_settle_63 : decode cX7_settle 63 = .ok (.iaload, 1) := xdc ddX7_settle_0 32 rfl
theorem dX7_settle_64 : decode cX7_settle 64 = .ok (.iconst 1, 1) := xdc ddX7_settle_0 33 rfl
theorem dX7_settle_65 : decode cX7_settle 65 = .ok (.iadd, 1) := xdc ddX7_settle_0 34 rfl
theorem dX7_settle_66 : decode cX7_settle 66 = .ok (.iastore, 1) := xdc ddX7_settle_0 35 rfl
theorem dX7_settle_67 : decode cX7_settle 67 = .ok (.aload_n 0, 1) := xdc ddX7_settle_0 36 rfl
theorem dX7_settle_68 : decode cX7_settle 68 = .ok (.aload_n 0, 1) := xdc ddX7_settle_0 37 rfl
theorem dX7_settle_69 : decode cX7_settle 69 = .ok (.getfield 136, 3) := xdc ddX7_settle_0 38 rfl
theorem dX7_settle_72 : decode cX7_settle 72 = .ok (.putfield 54, 3) := xdc ddX7_settle_0 39 rfl
theorem ddX7_settle_1 : xdec cX7_settle [(75, (.return_, 1))] = true := by decide +kernel
theorem dX7_settle_75 : decode cX7_settle 75 = .ok (.return_, 1) := xdc ddX7_settle_1 0 rfl
abbrev cX7_step : ByteArray := prog_9_method_4_code
theorem ddX7_step_0 : xdec cX7_step [(0, (.aload_n 0, 1)), (1, (.getfield 42, 3)), (4, (.iconst 0, 1)), (5, (.putfield 71, 3)), (8, (.aload_n 0, 1)), (9, (.getfield 54, 3)), (12, (.invokestatic 76, 3)), (15, (.istore_n 1, 1)), (16, (.iload_n 1, 1)), (17, (.iconst (-1), 1)), (18, (.if_icmp .eq 11, 3)), (21, (.aload_n 0, 1)), (22, (.iload_n 1, 1)), (23, (.invokevirtual 80, 3)), (26, (.goto 18, 3)), (29, (.aload_n 0, 1)), (30, (.invokevirtual 84, 3)), (33, (.ifCond .eq 11, 3)), (36, (.aload_n 0, 1)), (37, (.invokevirtual 88, 3)), (40, (.aload_n 0, 1)), (41, (.invokevirtual 91, 3)), (44, (.aload_n 0, 1)), (45, (.getfield 42, 3)), (48, (.getfield 71, 3)), (51, (.ifCond .eq 16, 3)), (54, (.aload_n 0, 1)), (55, (.aload_n 0, 1)), (56, (.getfield 42, 3)), (59, (.getfield 71, 3)), (62, (.putfield 68, 3)), (65, (.iconst 0, 1)), (66, (.ireturn, 1)), (67, (.aload_n 0, 1)), (68, (.dup, 1)), (69, (.getfield 64, 3)), (72, (.lconst 1, 1)), (73, (.ladd, 1)), (74, (.putfield 64, 3)), (77, (.iconst 1, 1))] = true := by decide +kernel
theorem dX7_step_0 : decode cX7_step 0 = .ok (.aload_n 0, 1) := xdc ddX7_step_0 0 rfl
theorem dX7_step_1 : decode cX7_step 1 = .ok (.getfield 42, 3) := xdc ddX7_step_0 1 rfl
theorem dX7_step_4 : decode cX7_step 4 = .ok (.iconst 0, 1) := xdc ddX7_step_0 2 rfl
theorem dX7_step_5 : decode cX7_step 5 = .ok (.putfield 71, 3) := xdc ddX7_step_0 3 rfl
theorem dX7_step_8 : decode cX7_step 8 = .ok (.aload_n 0, 1) := xdc ddX7_step_0 4 rfl
theorem dX7_step_9 : decode cX7_step 9 = .ok (.getfield 54, 3) := xdc ddX7_step_0 5 rfl
theorem dX7_step_12 : decode cX7_step 12 = .ok (.invokestatic 76, 3) := xdc ddX7_step_0 6 rfl
theorem dX7_step_15 : decode cX7_step 15 = .ok (.istore_n 1, 1) := xdc ddX7_step_0 7 rfl
theorem dX7_step_16 : decode cX7_step 16 = .ok (.iload_n 1, 1) := xdc ddX7_step_0 8 rfl
theorem dX7_step_17 : decode cX7_step 17 = .ok (.iconst (-1), 1) := xdc ddX7_step_0 9 rfl
theorem dX7_step_18 : decode cX7_step 18 = .ok (.if_icmp .eq 11, 3) := xdc ddX7_step_0 10 rfl
theorem dX7_step_21 : decode cX7_step 21 = .ok (.aload_n 0, 1) := xdc ddX7_step_0 11 rfl
theorem dX7_step_22 : decode cX7_step 22 = .ok (.iload_n 1, 1) := xdc ddX7_step_0 12 rfl
theorem dX7_step_23 : decode cX7_step 23 = .ok (.invokevirtual 80, 3) := xdc ddX7_step_0 13 rfl
theorem dX7_step_26 : decode cX7_step 26 = .ok (.goto 18, 3) := xdc ddX7_step_0 14 rfl
theorem dX7_step_29 : decode cX7_step 29 = .ok (.aload_n 0, 1) := xdc ddX7_step_0 15 rfl
theorem dX7_step_30 : decode cX7_step 30 = .ok (.invokevirtual 84, 3) := xdc ddX7_step_0 16 rfl
theorem dX7_step_33 : decode cX7_step 33 = .ok (.ifCond .eq 11, 3) := xdc ddX7_step_0 17 rfl
theorem dX7_step_36 : decode cX7_step 36 = .ok (.aload_n 0, 1) := xdc ddX7_step_0 18 rfl
theorem dX7_step_37 : decode cX7_step 37 = .ok (.invokevirtual 88, 3) := xdc ddX7_step_0 19 rfl
theorem dX7_step_40 : decode cX7_step 40 = .ok (.aload_n 0, 1) := xdc ddX7_step_0 20 rfl
theorem dX7_step_41 : decode cX7_step 41 = .ok (.invokevirtual 91, 3) := xdc ddX7_step_0 21 rfl
theorem dX7_step_44 : decode cX7_step 44 = .ok (.aload_n 0, 1) := xdc ddX7_step_0 22 rfl
theorem dX7_step_45 : decode cX7_step 45 = .ok (.getfield 42, 3) := xdc ddX7_step_0 23 rfl
theorem dX7_step_48 : decode cX7_step 48 = .ok (.getfield 71, 3) := xdc ddX7_step_0 24 rfl
theorem dX7_step_51 : decode cX7_step 51 = .ok (.ifCond .eq 16, 3) := xdc ddX7_step_0 25 rfl
theorem dX7_step_54 : decode cX7_step 54 = .ok (.aload_n 0, 1) := xdc ddX7_step_0 26 rfl
theorem dX7_step_55 : decode cX7_step 55 = .ok (.aload_n 0, 1) := xdc ddX7_step_0 27 rfl
theorem dX7_step_56 : decode cX7_step 56 = .ok (.getfield 42, 3) := xdc ddX7_step_0 28 rfl
theorem dX7_step_59 : decode cX7_step 59 = .ok (.getfield 71, 3) := xdc ddX7_step_0 29 rfl
theorem dX7_step_62 : decode cX7_step 62 = .ok (.putfield 68, 3) := xdc ddX7_step_0 30 rfl
theorem dX7_step_65 : decode cX7_step 65 = .ok (.iconst 0, 1) := xdc ddX7_step_0 31 rfl
theorem dX7_step_66 : decode cX7_step 66 = .ok (.ireturn, 1) := xdc ddX7_step_0 32 rfl
theorem dX7_step_67 : decode cX7_step 67 = .ok (.aload_n 0, 1) := xdc ddX7_step_0 33 rfl
theorem dX7_step_68 : decode cX7_step 68 = .ok (.dup, 1) := xdc ddX7_step_0 34 rfl
theorem dX7_step_69 : decode cX7_step 69 = .ok (.getfield 64, 3) := xdc ddX7_step_0 35 rfl
theorem dX7_step_72 : decode cX7_step 72 = .ok (.lconst 1, 1) := xdc ddX7_step_0 36 rfl
theorem dX7_step_73 : decode cX7_step 73 = .ok (.ladd, 1) := xdc ddX7_step_0 37 rfl
theorem dX7_step_74 : decode cX7_step 74 = .ok (.putfield 64, 3) := xdc ddX7_step_0 38 rfl
theorem dX7_step_77 : decode cX7_step 77 = .ok (.iconst 1, 1) := xdc ddX7_step_0 39 rfl
theorem ddX7_step_1 : xdec cX7_step [(78, (.ireturn, 1))] = true := by decide +kernel
theorem dX7_step_78 : decode cX7_step 78 = .ok (.ireturn, 1) := xdc ddX7_step_1 0 rfl
abbrev cX11_forgetProgram : ByteArray := prog_1_method_4_code
theorem ddX11_forgetProgram_0 : xdec cX11_forgetProgram [(0, (.aload_n 0, 1)), (1, (.getfield 37, 3)), (4, (.invokevirtual 99, 3)), (7, (.aload_n 0, 1)), (8, (.getfield 73, 3)), (11, (.iconst 0, 1)), (12, (.putfield 102, 3)), (15, (.return_, 1))] = true := by decide +kernel
theorem dX11_forgetProgram_0 : decode cX11_forgetProgram 0 = .ok (.aload_n 0, 1) := xdc ddX11_forgetProgram_0 0 rfl
theorem dX11_forgetProgram_1 : decode cX11_forgetProgram 1 = .ok (.getfield 37, 3) := xdc ddX11_forgetProgram_0 1 rfl
theorem dX11_forgetProgram_4 : decode cX11_forgetProgram 4 = .ok (.invokevirtual 99, 3) := xdc ddX11_forgetProgram_0 2 rfl
theorem dX11_forgetProgram_7 : decode cX11_forgetProgram 7 = .ok (.aload_n 0, 1) := xdc ddX11_forgetProgram_0 3 rfl
theorem dX11_forgetProgram_8 : decode cX11_forgetProgram 8 = .ok (.getfield 73, 3) := xdc ddX11_forgetProgram_0 4 rfl
theorem dX11_forgetProgram_11 : decode cX11_forgetProgram 11 = .ok (.iconst 0, 1) := xdc ddX11_forgetProgram_0 5 rfl
theorem dX11_forgetProgram_12 : decode cX11_forgetProgram 12 = .ok (.putfield 102, 3) := xdc ddX11_forgetProgram_0 6 rfl
theorem dX11_forgetProgram_15 : decode cX11_forgetProgram 15 = .ok (.return_, 1) := xdc ddX11_forgetProgram_0 7 rfl
abbrev cX11_feed : ByteArray := prog_1_method_2_code
theorem ddX11_feed_0 : xdec cX11_feed [(0, (.iload_n 1, 1)), (1, (.iconst 1, 1)), (2, (.if_icmp .lt 9, 3)), (5, (.iload_n 1, 1)), (6, (.bipush 8, 2)), (8, (.if_icmp .le 13, 3)), (11, (.new 81, 3)), (21, (.aload_n 0, 1)), (22, (.getfield 10, 3)), (25, (.getfield 88, 3)), (28, (.iload_n 1, 1)), (29, (.iadd, 1)), (30, (.sipush 2048, 3)), (33, (.if_icmp .le 5, 3)), (36, (.iconst (-1), 1)), (37, (.ireturn, 1)), (38, (.aload_n 0, 1)), (39, (.getfield 10, 3)), (42, (.iload_n 1, 1)), (43, (.lload_n 2, 1)), (44, (.invokevirtual 92, 3)), (47, (.aload_n 0, 1)), (48, (.invokevirtual 96, 3)), (51, (.aload_n 0, 1)), (52, (.getfield 10, 3)), (55, (.getfield 88, 3)), (58, (.ireturn, 1))] = true := by decide +kernel
theorem dX11_feed_0 : decode cX11_feed 0 = .ok (.iload_n 1, 1) := xdc ddX11_feed_0 0 rfl
theorem dX11_feed_1 : decode cX11_feed 1 = .ok (.iconst 1, 1) := xdc ddX11_feed_0 1 rfl
theorem dX11_feed_2 : decode cX11_feed 2 = .ok (.if_icmp .lt 9, 3) := xdc ddX11_feed_0 2 rfl
theorem dX11_feed_5 : decode cX11_feed 5 = .ok (.iload_n 1, 1) := xdc ddX11_feed_0 3 rfl
theorem dX11_feed_6 : decode cX11_feed 6 = .ok (.bipush 8, 2) := xdc ddX11_feed_0 4 rfl
theorem dX11_feed_8 : decode cX11_feed 8 = .ok (.if_icmp .le 13, 3) := xdc ddX11_feed_0 5 rfl
theorem dX11_feed_11 : decode cX11_feed 11 = .ok (.new 81, 3) := xdc ddX11_feed_0 6 rfl
theorem dX11_feed_21 : decode cX11_feed 21 = .ok (.aload_n 0, 1) := xdc ddX11_feed_0 7 rfl
theorem dX11_feed_22 : decode cX11_feed 22 = .ok (.getfield 10, 3) := xdc ddX11_feed_0 8 rfl
theorem dX11_feed_25 : decode cX11_feed 25 = .ok (.getfield 88, 3) := xdc ddX11_feed_0 9 rfl
theorem dX11_feed_28 : decode cX11_feed 28 = .ok (.iload_n 1, 1) := xdc ddX11_feed_0 10 rfl
theorem dX11_feed_29 : decode cX11_feed 29 = .ok (.iadd, 1) := xdc ddX11_feed_0 11 rfl
theorem dX11_feed_30 : decode cX11_feed 30 = .ok (.sipush 2048, 3) := xdc ddX11_feed_0 12 rfl
theorem dX11_feed_33 : decode cX11_feed 33 = .ok (.if_icmp .le 5, 3) := xdc ddX11_feed_0 13 rfl
theorem dX11_feed_36 : decode cX11_feed 36 = .ok (.iconst (-1), 1) := xdc ddX11_feed_0 14 rfl
theorem dX11_feed_37 : decode cX11_feed 37 = .ok (.ireturn, 1) := xdc ddX11_feed_0 15 rfl
theorem dX11_feed_38 : decode cX11_feed 38 = .ok (.aload_n 0, 1) := xdc ddX11_feed_0 16 rfl
theorem dX11_feed_39 : decode cX11_feed 39 = .ok (.getfield 10, 3) := xdc ddX11_feed_0 17 rfl
theorem dX11_feed_42 : decode cX11_feed 42 = .ok (.iload_n 1, 1) := xdc ddX11_feed_0 18 rfl
theorem dX11_feed_43 : decode cX11_feed 43 = .ok (.lload_n 2, 1) := xdc ddX11_feed_0 19 rfl
theorem dX11_feed_44 : decode cX11_feed 44 = .ok (.invokevirtual 92, 3) := xdc ddX11_feed_0 20 rfl
theorem dX11_feed_47 : decode cX11_feed 47 = .ok (.aload_n 0, 1) := xdc ddX11_feed_0 21 rfl
theorem dX11_feed_48 : decode cX11_feed 48 = .ok (.invokevirtual 96, 3) := xdc ddX11_feed_0 22 rfl
theorem dX11_feed_51 : decode cX11_feed 51 = .ok (.aload_n 0, 1) := xdc ddX11_feed_0 23 rfl
theorem dX11_feed_52 : decode cX11_feed 52 = .ok (.getfield 10, 3) := xdc ddX11_feed_0 24 rfl
theorem dX11_feed_55 : decode cX11_feed 55 = .ok (.getfield 88, 3) := xdc ddX11_feed_0 25 rfl
theorem dX11_feed_58 : decode cX11_feed 58 = .ok (.ireturn, 1) := xdc ddX11_feed_0 26 rfl
abbrev cX11_wipe : ByteArray := prog_1_method_3_code
theorem ddX11_wipe_0 : xdec cX11_wipe [(0, (.aload_n 0, 1)), (1, (.getfield 10, 3)), (4, (.getfield 88, 3)), (7, (.istore_n 1, 1)), (8, (.aload_n 0, 1)), (9, (.getfield 10, 3)), (12, (.iconst 0, 1)), (13, (.putfield 88, 3)), (16, (.aload_n 0, 1)), (17, (.invokevirtual 96, 3)), (20, (.iload_n 1, 1)), (21, (.ireturn, 1))] = true := by decide +kernel
theorem dX11_wipe_0 : decode cX11_wipe 0 = .ok (.aload_n 0, 1) := xdc ddX11_wipe_0 0 rfl
theorem dX11_wipe_1 : decode cX11_wipe 1 = .ok (.getfield 10, 3) := xdc ddX11_wipe_0 1 rfl
theorem dX11_wipe_4 : decode cX11_wipe 4 = .ok (.getfield 88, 3) := xdc ddX11_wipe_0 2 rfl
theorem dX11_wipe_7 : decode cX11_wipe 7 = .ok (.istore_n 1, 1) := xdc ddX11_wipe_0 3 rfl
theorem dX11_wipe_8 : decode cX11_wipe 8 = .ok (.aload_n 0, 1) := xdc ddX11_wipe_0 4 rfl
theorem dX11_wipe_9 : decode cX11_wipe 9 = .ok (.getfield 10, 3) := xdc ddX11_wipe_0 5 rfl
theorem dX11_wipe_12 : decode cX11_wipe 12 = .ok (.iconst 0, 1) := xdc ddX11_wipe_0 6 rfl
theorem dX11_wipe_13 : decode cX11_wipe 13 = .ok (.putfield 88, 3) := xdc ddX11_wipe_0 7 rfl
theorem dX11_wipe_16 : decode cX11_wipe 16 = .ok (.aload_n 0, 1) := xdc ddX11_wipe_0 8 rfl
theorem dX11_wipe_17 : decode cX11_wipe 17 = .ok (.invokevirtual 96, 3) := xdc ddX11_wipe_0 9 rfl
theorem dX11_wipe_20 : decode cX11_wipe 20 = .ok (.iload_n 1, 1) := xdc ddX11_wipe_0 10 rfl
theorem dX11_wipe_21 : decode cX11_wipe 21 = .ok (.ireturn, 1) := xdc ddX11_wipe_0 11 rfl
abbrev cX11_look : ByteArray := prog_1_method_5_code
theorem ddX11_look_0 : xdec cX11_look [(0, (.aload_n 0, 1)), (1, (.getfield 37, 3)), (4, (.invokevirtual 105, 3)), (7, (.ireturn, 1))] = true := by decide +kernel
theorem dX11_look_0 : decode cX11_look 0 = .ok (.aload_n 0, 1) := xdc ddX11_look_0 0 rfl
theorem dX11_look_1 : decode cX11_look 1 = .ok (.getfield 37, 3) := xdc ddX11_look_0 1 rfl
theorem dX11_look_4 : decode cX11_look 4 = .ok (.invokevirtual 105, 3) := xdc ddX11_look_0 2 rfl
theorem dX11_look_7 : decode cX11_look 7 = .ok (.ireturn, 1) := xdc ddX11_look_0 3 rfl
abbrev cX11_fault : ByteArray := prog_1_method_6_code
theorem ddX11_fault_0 : xdec cX11_fault [(0, (.aload_n 0, 1)), (1, (.getfield 37, 3)), (4, (.getfield 109, 3)), (7, (.ireturn, 1))] = true := by decide +kernel
theorem dX11_fault_0 : decode cX11_fault 0 = .ok (.aload_n 0, 1) := xdc ddX11_fault_0 0 rfl
theorem dX11_fault_1 : decode cX11_fault 1 = .ok (.getfield 37, 3) := xdc ddX11_fault_0 1 rfl
theorem dX11_fault_4 : decode cX11_fault 4 = .ok (.getfield 109, 3) := xdc ddX11_fault_0 2 rfl
theorem dX11_fault_7 : decode cX11_fault 7 = .ok (.ireturn, 1) := xdc ddX11_fault_0 3 rfl
abbrev cX11_place : ByteArray := prog_1_method_7_code
theorem ddX11_place_0 : xdec cX11_place [(0, (.aload_n 0, 1)), (1, (.getfield 37, 3)), (4, (.getfield 112, 3)), (7, (.ireturn, 1))] = true := by decide +kernel
theorem dX11_place_0 : decode cX11_place 0 = .ok (.aload_n 0, 1) := xdc ddX11_place_0 0 rfl
theorem dX11_place_1 : decode cX11_place 1 = .ok (.getfield 37, 3) := xdc ddX11_place_0 1 rfl
theorem dX11_place_4 : decode cX11_place 4 = .ok (.getfield 112, 3) := xdc ddX11_place_0 2 rfl
theorem dX11_place_7 : decode cX11_place 7 = .ok (.ireturn, 1) := xdc ddX11_place_0 3 rfl
abbrev cX11_unit : ByteArray := prog_1_method_8_code
theorem ddX11_unit_0 : xdec cX11_unit [(0, (.aload_n 0, 1)), (1, (.getfield 37, 3)), (4, (.getfield 115, 3)), (7, (.ifCond .eq 14, 3)), (10, (.aload_n 0, 1)), (11, (.getfield 10, 3)), (14, (.iload_n 1, 1)), (15, (.invokevirtual 119, 3)), (18, (.ifCond .ne 5, 3)), (21, (.iconst (-1), 1)), (22, (.ireturn, 1)), (23, (.aload_n 0, 1)), (24, (.getfield 37, 3)), (27, (.iload_n 1, 1)), (28, (.invokevirtual 123, 3)), (31, (.ireturn, 1))] = true := by decide +kernel
theorem dX11_unit_0 : decode cX11_unit 0 = .ok (.aload_n 0, 1) := xdc ddX11_unit_0 0 rfl
theorem dX11_unit_1 : decode cX11_unit 1 = .ok (.getfield 37, 3) := xdc ddX11_unit_0 1 rfl
theorem dX11_unit_4 : decode cX11_unit 4 = .ok (.getfield 115, 3) := xdc ddX11_unit_0 2 rfl
theorem dX11_unit_7 : decode cX11_unit 7 = .ok (.ifCond .eq 14, 3) := xdc ddX11_unit_0 3 rfl
theorem dX11_unit_10 : decode cX11_unit 10 = .ok (.aload_n 0, 1) := xdc ddX11_unit_0 4 rfl
theorem dX11_unit_11 : decode cX11_unit 11 = .ok (.getfield 10, 3) := xdc ddX11_unit_0 5 rfl
theorem dX11_unit_14 : decode cX11_unit 14 = .ok (.iload_n 1, 1) := xdc ddX11_unit_0 6 rfl
theorem dX11_unit_15 : decode cX11_unit 15 = .ok (.invokevirtual 119, 3) := xdc ddX11_unit_0 7 rfl
theorem dX11_unit_18 : decode cX11_unit 18 = .ok (.ifCond .ne 5, 3) := xdc ddX11_unit_0 8 rfl
theorem dX11_unit_21 : decode cX11_unit 21 = .ok (.iconst (-1), 1) := xdc ddX11_unit_0 9 rfl
theorem dX11_unit_22 : decode cX11_unit 22 = .ok (.ireturn, 1) := xdc ddX11_unit_0 10 rfl
theorem dX11_unit_23 : decode cX11_unit 23 = .ok (.aload_n 0, 1) := xdc ddX11_unit_0 11 rfl
theorem dX11_unit_24 : decode cX11_unit 24 = .ok (.getfield 37, 3) := xdc ddX11_unit_0 12 rfl
theorem dX11_unit_27 : decode cX11_unit 27 = .ok (.iload_n 1, 1) := xdc ddX11_unit_0 13 rfl
theorem dX11_unit_28 : decode cX11_unit 28 = .ok (.invokevirtual 123, 3) := xdc ddX11_unit_0 14 rfl
theorem dX11_unit_31 : decode cX11_unit 31 = .ok (.ireturn, 1) := xdc ddX11_unit_0 15 rfl
abbrev cX11_size : ByteArray := prog_1_method_9_code
theorem ddX11_size_0 : xdec cX11_size [(0, (.aload_n 0, 1)), (1, (.getfield 28, 3)), (4, (.iload_n 1, 1)), (5, (.invokevirtual 127, 3)), (8, (.ireturn, 1))] = true := by decide +kernel
theorem dX11_size_0 : decode cX11_size 0 = .ok (.aload_n 0, 1) := xdc ddX11_size_0 0 rfl
theorem dX11_size_1 : decode cX11_size 1 = .ok (.getfield 28, 3) := xdc ddX11_size_0 1 rfl
theorem dX11_size_4 : decode cX11_size 4 = .ok (.iload_n 1, 1) := xdc ddX11_size_0 2 rfl
theorem dX11_size_5 : decode cX11_size 5 = .ok (.invokevirtual 127, 3) := xdc ddX11_size_0 3 rfl
theorem dX11_size_8 : decode cX11_size 8 = .ok (.ireturn, 1) := xdc ddX11_size_0 4 rfl
abbrev cX11_poke : ByteArray := prog_1_method_12_code
theorem ddX11_poke_0 : xdec cX11_poke [(0, (.iload_n 1, 1)), (1, (.lconst 1, 1)), (2, (.invokestatic 137, 3)), (5, (.ifCond .ne 13, 3)), (8, (.new 81, 3)), (18, (.iload_n 2, 1)), (19, (.ifCond .lt 10, 3)), (22, (.iload_n 2, 1)), (23, (.sipush 255, 3)), (26, (.if_icmp .le 13, 3)), (29, (.new 81, 3)), (39, (.aload_n 0, 1)), (40, (.getfield 55, 3)), (43, (.iload_n 1, 1)), (44, (.invokevirtual 145, 3)), (47, (.istore_n 3, 1)), (48, (.aload_n 0, 1)), (49, (.getfield 55, 3)), (52, (.iload_n 1, 1)), (53, (.iload_n 2, 1)), (54, (.invokevirtual 148, 3)), (57, (.iload_n 3, 1)), (58, (.ireturn, 1))] = true := by decide +kernel
theorem dX11_poke_0 : decode cX11_poke 0 = .ok (.iload_n 1, 1) := xdc ddX11_poke_0 0 rfl
theorem dX11_poke_1 : decode cX11_poke 1 = .ok (.lconst 1, 1) := xdc ddX11_poke_0 1 rfl
theorem dX11_poke_2 : decode cX11_poke 2 = .ok (.invokestatic 137, 3) := xdc ddX11_poke_0 2 rfl
theorem dX11_poke_5 : decode cX11_poke 5 = .ok (.ifCond .ne 13, 3) := xdc ddX11_poke_0 3 rfl
theorem dX11_poke_8 : decode cX11_poke 8 = .ok (.new 81, 3) := xdc ddX11_poke_0 4 rfl
theorem dX11_poke_18 : decode cX11_poke 18 = .ok (.iload_n 2, 1) := xdc ddX11_poke_0 5 rfl
theorem dX11_poke_19 : decode cX11_poke 19 = .ok (.ifCond .lt 10, 3) := xdc ddX11_poke_0 6 rfl
theorem dX11_poke_22 : decode cX11_poke 22 = .ok (.iload_n 2, 1) := xdc ddX11_poke_0 7 rfl
theorem dX11_poke_23 : decode cX11_poke 23 = .ok (.sipush 255, 3) := xdc ddX11_poke_0 8 rfl
theorem dX11_poke_26 : decode cX11_poke 26 = .ok (.if_icmp .le 13, 3) := xdc ddX11_poke_0 9 rfl
theorem dX11_poke_29 : decode cX11_poke 29 = .ok (.new 81, 3) := xdc ddX11_poke_0 10 rfl
theorem dX11_poke_39 : decode cX11_poke 39 = .ok (.aload_n 0, 1) := xdc ddX11_poke_0 11 rfl
theorem dX11_poke_40 : decode cX11_poke 40 = .ok (.getfield 55, 3) := xdc ddX11_poke_0 12 rfl
theorem dX11_poke_43 : decode cX11_poke 43 = .ok (.iload_n 1, 1) := xdc ddX11_poke_0 13 rfl
theorem dX11_poke_44 : decode cX11_poke 44 = .ok (.invokevirtual 145, 3) := xdc ddX11_poke_0 14 rfl
theorem dX11_poke_47 : decode cX11_poke 47 = .ok (.istore_n 3, 1) := xdc ddX11_poke_0 15 rfl
theorem dX11_poke_48 : decode cX11_poke 48 = .ok (.aload_n 0, 1) := xdc ddX11_poke_0 16 rfl
theorem dX11_poke_49 : decode cX11_poke 49 = .ok (.getfield 55, 3) := xdc ddX11_poke_0 17 rfl
theorem dX11_poke_52 : decode cX11_poke 52 = .ok (.iload_n 1, 1) := xdc ddX11_poke_0 18 rfl
theorem dX11_poke_53 : decode cX11_poke 53 = .ok (.iload_n 2, 1) := xdc ddX11_poke_0 19 rfl
theorem dX11_poke_54 : decode cX11_poke 54 = .ok (.invokevirtual 148, 3) := xdc ddX11_poke_0 20 rfl
theorem dX11_poke_57 : decode cX11_poke 57 = .ok (.iload_n 3, 1) := xdc ddX11_poke_0 21 rfl
theorem dX11_poke_58 : decode cX11_poke 58 = .ok (.ireturn, 1) := xdc ddX11_poke_0 22 rfl
abbrev cX11_peek : ByteArray := prog_1_method_13_code
theorem ddX11_peek_0 : xdec cX11_peek [(0, (.iload_n 1, 1)), (1, (.lconst 1, 1)), (2, (.invokestatic 137, 3)), (5, (.ifCond .eq 12, 3)), (8, (.aload_n 0, 1)), (9, (.getfield 55, 3)), (12, (.iload_n 1, 1)), (13, (.invokevirtual 145, 3)), (16, (.ireturn, 1)), (17, (.iload_n 1, 1)), (18, (.sipush 4096, 3)), (21, (.isub, 1)), (22, (.istore_n 2, 1)), (23, (.aload_n 0, 1)), (24, (.getfield 10, 3)), (27, (.iload_n 2, 1)), (28, (.invokevirtual 119, 3)), (31, (.ifCond .eq 19, 3)), (34, (.aload_n 0, 1)), (35, (.getfield 10, 3)), (38, (.getfield 152, 3)), (41, (.iload_n 2, 1)), (42, (.baload, 1)), (43, (.sipush 255, 3)), (46, (.iand, 1)), (47, (.goto 4, 3)), (50, (.iconst (-1), 1)), (51, (.ireturn, 1))] = true := by decide +kernel
theorem dX11_peek_0 : decode cX11_peek 0 = .ok (.iload_n 1, 1) := xdc ddX11_peek_0 0 rfl
theorem dX11_peek_1 : decode cX11_peek 1 = .ok (.lconst 1, 1) := xdc ddX11_peek_0 1 rfl
theorem dX11_peek_2 : decode cX11_peek 2 = .ok (.invokestatic 137, 3) := xdc ddX11_peek_0 2 rfl
theorem dX11_peek_5 : decode cX11_peek 5 = .ok (.ifCond .eq 12, 3) := xdc ddX11_peek_0 3 rfl
theorem dX11_peek_8 : decode cX11_peek 8 = .ok (.aload_n 0, 1) := xdc ddX11_peek_0 4 rfl
theorem dX11_peek_9 : decode cX11_peek 9 = .ok (.getfield 55, 3) := xdc ddX11_peek_0 5 rfl
theorem dX11_peek_12 : decode cX11_peek 12 = .ok (.iload_n 1, 1) := xdc ddX11_peek_0 6 rfl
theorem dX11_peek_13 : decode cX11_peek 13 = .ok (.invokevirtual 145, 3) := xdc ddX11_peek_0 7 rfl
theorem dX11_peek_16 : decode cX11_peek 16 = .ok (.ireturn, 1) := xdc ddX11_peek_0 8 rfl
theorem dX11_peek_17 : decode cX11_peek 17 = .ok (.iload_n 1, 1) := xdc ddX11_peek_0 9 rfl
theorem dX11_peek_18 : decode cX11_peek 18 = .ok (.sipush 4096, 3) := xdc ddX11_peek_0 10 rfl
theorem dX11_peek_21 : decode cX11_peek 21 = .ok (.isub, 1) := xdc ddX11_peek_0 11 rfl
theorem dX11_peek_22 : decode cX11_peek 22 = .ok (.istore_n 2, 1) := xdc ddX11_peek_0 12 rfl
theorem dX11_peek_23 : decode cX11_peek 23 = .ok (.aload_n 0, 1) := xdc ddX11_peek_0 13 rfl
theorem dX11_peek_24 : decode cX11_peek 24 = .ok (.getfield 10, 3) := xdc ddX11_peek_0 14 rfl
theorem dX11_peek_27 : decode cX11_peek 27 = .ok (.iload_n 2, 1) := xdc ddX11_peek_0 15 rfl
theorem dX11_peek_28 : decode cX11_peek 28 = .ok (.invokevirtual 119, 3) := xdc ddX11_peek_0 16 rfl
theorem dX11_peek_31 : decode cX11_peek 31 = .ok (.ifCond .eq 19, 3) := xdc ddX11_peek_0 17 rfl
theorem dX11_peek_34 : decode cX11_peek 34 = .ok (.aload_n 0, 1) := xdc ddX11_peek_0 18 rfl
theorem dX11_peek_35 : decode cX11_peek 35 = .ok (.getfield 10, 3) := xdc ddX11_peek_0 19 rfl
theorem dX11_peek_38 : decode cX11_peek 38 = .ok (.getfield 152, 3) := xdc ddX11_peek_0 20 rfl
theorem dX11_peek_41 : decode cX11_peek 41 = .ok (.iload_n 2, 1) := xdc ddX11_peek_0 21 rfl
theorem dX11_peek_42 : decode cX11_peek 42 = .ok (.baload, 1) := xdc ddX11_peek_0 22 rfl
theorem dX11_peek_43 : decode cX11_peek 43 = .ok (.sipush 255, 3) := xdc ddX11_peek_0 23 rfl
theorem dX11_peek_46 : decode cX11_peek 46 = .ok (.iand, 1) := xdc ddX11_peek_0 24 rfl
theorem dX11_peek_47 : decode cX11_peek 47 = .ok (.goto 4, 3) := xdc ddX11_peek_0 25 rfl
theorem dX11_peek_50 : decode cX11_peek 50 = .ok (.iconst (-1), 1) := xdc ddX11_peek_0 26 rfl
theorem dX11_peek_51 : decode cX11_peek 51 = .ok (.ireturn, 1) := xdc ddX11_peek_0 27 rfl
abbrev cX11_give : ByteArray := prog_1_method_14_code
theorem ddX11_give_0 : xdec cX11_give [(0, (.iload_n 1, 1)), (1, (.iconst 1, 1)), (2, (.if_icmp .lt 9, 3)), (5, (.iload_n 1, 1)), (6, (.bipush 8, 2)), (8, (.if_icmp .le 13, 3)), (11, (.new 81, 3)), (21, (.aload_n 0, 1)), (22, (.getfield 64, 3)), (25, (.getfield 156, 3)), (28, (.iload_n 1, 1)), (29, (.iadd, 1)), (30, (.sipush 256, 3)), (33, (.if_icmp .le 5, 3)), (36, (.iconst (-1), 1)), (37, (.ireturn, 1)), (38, (.aload_n 0, 1)), (39, (.getfield 64, 3)), (42, (.iload_n 1, 1)), (43, (.lload_n 2, 1)), (44, (.invokevirtual 159, 3)), (47, (.aload_n 0, 1)), (48, (.getfield 64, 3)), (51, (.getfield 156, 3)), (54, (.ireturn, 1))] = true := by decide +kernel
theorem dX11_give_0 : decode cX11_give 0 = .ok (.iload_n 1, 1) := xdc ddX11_give_0 0 rfl
theorem dX11_give_1 : decode cX11_give 1 = .ok (.iconst 1, 1) := xdc ddX11_give_0 1 rfl
theorem dX11_give_2 : decode cX11_give 2 = .ok (.if_icmp .lt 9, 3) := xdc ddX11_give_0 2 rfl
theorem dX11_give_5 : decode cX11_give 5 = .ok (.iload_n 1, 1) := xdc ddX11_give_0 3 rfl
theorem dX11_give_6 : decode cX11_give 6 = .ok (.bipush 8, 2) := xdc ddX11_give_0 4 rfl
theorem dX11_give_8 : decode cX11_give 8 = .ok (.if_icmp .le 13, 3) := xdc ddX11_give_0 5 rfl
theorem dX11_give_11 : decode cX11_give 11 = .ok (.new 81, 3) := xdc ddX11_give_0 6 rfl
theorem dX11_give_21 : decode cX11_give 21 = .ok (.aload_n 0, 1) := xdc ddX11_give_0 7 rfl
theorem dX11_give_22 : decode cX11_give 22 = .ok (.getfield 64, 3) := xdc ddX11_give_0 8 rfl
theorem dX11_give_25 : decode cX11_give 25 = .ok (.getfield 156, 3) := xdc ddX11_give_0 9 rfl
theorem dX11_give_28 : decode cX11_give 28 = .ok (.iload_n 1, 1) := xdc ddX11_give_0 10 rfl
theorem dX11_give_29 : decode cX11_give 29 = .ok (.iadd, 1) := xdc ddX11_give_0 11 rfl
theorem dX11_give_30 : decode cX11_give 30 = .ok (.sipush 256, 3) := xdc ddX11_give_0 12 rfl
theorem dX11_give_33 : decode cX11_give 33 = .ok (.if_icmp .le 5, 3) := xdc ddX11_give_0 13 rfl
theorem dX11_give_36 : decode cX11_give 36 = .ok (.iconst (-1), 1) := xdc ddX11_give_0 14 rfl
theorem dX11_give_37 : decode cX11_give 37 = .ok (.ireturn, 1) := xdc ddX11_give_0 15 rfl
theorem dX11_give_38 : decode cX11_give 38 = .ok (.aload_n 0, 1) := xdc ddX11_give_0 16 rfl
theorem dX11_give_39 : decode cX11_give 39 = .ok (.getfield 64, 3) := xdc ddX11_give_0 17 rfl
theorem dX11_give_42 : decode cX11_give 42 = .ok (.iload_n 1, 1) := xdc ddX11_give_0 18 rfl
theorem dX11_give_43 : decode cX11_give 43 = .ok (.lload_n 2, 1) := xdc ddX11_give_0 19 rfl
theorem dX11_give_44 : decode cX11_give 44 = .ok (.invokevirtual 159, 3) := xdc ddX11_give_0 20 rfl
theorem dX11_give_47 : decode cX11_give 47 = .ok (.aload_n 0, 1) := xdc ddX11_give_0 21 rfl
theorem dX11_give_48 : decode cX11_give 48 = .ok (.getfield 64, 3) := xdc ddX11_give_0 22 rfl
theorem dX11_give_51 : decode cX11_give 51 = .ok (.getfield 156, 3) := xdc ddX11_give_0 23 rfl
theorem dX11_give_54 : decode cX11_give 54 = .ok (.ireturn, 1) := xdc ddX11_give_0 24 rfl
abbrev cX11_begin : ByteArray := prog_1_method_15_code
theorem ddX11_begin_0 : xdec cX11_begin [(0, (.aload_n 0, 1)), (1, (.getfield 37, 3)), (4, (.getfield 115, 3)), (7, (.ifCond .ne 17, 3)), (10, (.iload_n 1, 1)), (11, (.ifCond .ne 13, 3)), (14, (.new 162, 3)), (24, (.aload_n 0, 1)), (25, (.getfield 10, 3)), (28, (.getfield 88, 3)), (31, (.ifCond .ne 13, 3)), (34, (.new 162, 3)), (44, (.aload_n 0, 1)), (45, (.getfield 64, 3)), (48, (.invokevirtual 169, 3)), (51, (.aload_n 0, 1)), (52, (.getfield 73, 3)), (55, (.invokevirtual 172, 3)), (58, (.aload_n 0, 1)), (59, (.getfield 73, 3)), (62, (.iconst 1, 1)), (63, (.putfield 102, 3)), (66, (.return_, 1))] = true := by decide +kernel
theorem dX11_begin_0 : decode cX11_begin 0 = .ok (.aload_n 0, 1) := xdc ddX11_begin_0 0 rfl
theorem dX11_begin_1 : decode cX11_begin 1 = .ok (.getfield 37, 3) := xdc ddX11_begin_0 1 rfl
theorem dX11_begin_4 : decode cX11_begin 4 = .ok (.getfield 115, 3) := xdc ddX11_begin_0 2 rfl
theorem dX11_begin_7 : decode cX11_begin 7 = .ok (.ifCond .ne 17, 3) := xdc ddX11_begin_0 3 rfl
theorem dX11_begin_10 : decode cX11_begin 10 = .ok (.iload_n 1, 1) := xdc ddX11_begin_0 4 rfl
theorem dX11_begin_11 : decode cX11_begin 11 = .ok (.ifCond .ne 13, 3) := xdc ddX11_begin_0 5 rfl
theorem dX11_begin_14 : decode cX11_begin 14 = .ok (.new 162, 3) := xdc ddX11_begin_0 6 rfl
theorem dX11_begin_24 : decode cX11_begin 24 = .ok (.aload_n 0, 1) := xdc ddX11_begin_0 7 rfl
theorem dX11_begin_25 : decode cX11_begin 25 = .ok (.getfield 10, 3) := xdc ddX11_begin_0 8 rfl
theorem dX11_begin_28 : decode cX11_begin 28 = .ok (.getfield 88, 3) := xdc ddX11_begin_0 9 rfl
theorem dX11_begin_31 : decode cX11_begin 31 = .ok (.ifCond .ne 13, 3) := xdc ddX11_begin_0 10 rfl
theorem dX11_begin_34 : decode cX11_begin 34 = .ok (.new 162, 3) := xdc ddX11_begin_0 11 rfl
theorem dX11_begin_44 : decode cX11_begin 44 = .ok (.aload_n 0, 1) := xdc ddX11_begin_0 12 rfl
theorem dX11_begin_45 : decode cX11_begin 45 = .ok (.getfield 64, 3) := xdc ddX11_begin_0 13 rfl
theorem dX11_begin_48 : decode cX11_begin 48 = .ok (.invokevirtual 169, 3) := xdc ddX11_begin_0 14 rfl
theorem dX11_begin_51 : decode cX11_begin 51 = .ok (.aload_n 0, 1) := xdc ddX11_begin_0 15 rfl
theorem dX11_begin_52 : decode cX11_begin 52 = .ok (.getfield 73, 3) := xdc ddX11_begin_0 16 rfl
theorem dX11_begin_55 : decode cX11_begin 55 = .ok (.invokevirtual 172, 3) := xdc ddX11_begin_0 17 rfl
theorem dX11_begin_58 : decode cX11_begin 58 = .ok (.aload_n 0, 1) := xdc ddX11_begin_0 18 rfl
theorem dX11_begin_59 : decode cX11_begin 59 = .ok (.getfield 73, 3) := xdc ddX11_begin_0 19 rfl
theorem dX11_begin_62 : decode cX11_begin 62 = .ok (.iconst 1, 1) := xdc ddX11_begin_0 20 rfl
theorem dX11_begin_63 : decode cX11_begin 63 = .ok (.putfield 102, 3) := xdc ddX11_begin_0 21 rfl
theorem dX11_begin_66 : decode cX11_begin 66 = .ok (.return_, 1) := xdc ddX11_begin_0 22 rfl
abbrev cX11_hasBreakpoint : ByteArray := prog_1_method_17_code
theorem ddX11_hasBreakpoint_0 : xdec cX11_hasBreakpoint [(0, (.iload_n 1, 1)), (1, (.sipush 4096, 3)), (4, (.isub, 1)), (5, (.istore_n 2, 1)), (6, (.iload_n 2, 1)), (7, (.ifCond .lt 23, 3)), (10, (.iload_n 2, 1)), (11, (.sipush 2048, 3)), (14, (.if_icmp .ge 16, 3)), (17, (.aload_n 0, 1)), (18, (.getfield 77, 3)), (21, (.iload_n 2, 1)), (22, (.baload, 1)), (23, (.ifCond .eq 7, 3)), (26, (.iconst 1, 1)), (27, (.goto 4, 3)), (30, (.iconst 0, 1)), (31, (.ireturn, 1))] = true := by decide +kernel
theorem dX11_hasBreakpoint_0 : decode cX11_hasBreakpoint 0 = .ok (.iload_n 1, 1) := xdc ddX11_hasBreakpoint_0 0 rfl
theorem dX11_hasBreakpoint_1 : decode cX11_hasBreakpoint 1 = .ok (.sipush 4096, 3) := xdc ddX11_hasBreakpoint_0 1 rfl
theorem dX11_hasBreakpoint_4 : decode cX11_hasBreakpoint 4 = .ok (.isub, 1) := xdc ddX11_hasBreakpoint_0 2 rfl
theorem dX11_hasBreakpoint_5 : decode cX11_hasBreakpoint 5 = .ok (.istore_n 2, 1) := xdc ddX11_hasBreakpoint_0 3 rfl
theorem dX11_hasBreakpoint_6 : decode cX11_hasBreakpoint 6 = .ok (.iload_n 2, 1) := xdc ddX11_hasBreakpoint_0 4 rfl
theorem dX11_hasBreakpoint_7 : decode cX11_hasBreakpoint 7 = .ok (.ifCond .lt 23, 3) := xdc ddX11_hasBreakpoint_0 5 rfl
theorem dX11_hasBreakpoint_10 : decode cX11_hasBreakpoint 10 = .ok (.iload_n 2, 1) := xdc ddX11_hasBreakpoint_0 6 rfl
theorem dX11_hasBreakpoint_11 : decode cX11_hasBreakpoint 11 = .ok (.sipush 2048, 3) := xdc ddX11_hasBreakpoint_0 7 rfl
theorem dX11_hasBreakpoint_14 : decode cX11_hasBreakpoint 14 = .ok (.if_icmp .ge 16, 3) := xdc ddX11_hasBreakpoint_0 8 rfl
theorem dX11_hasBreakpoint_17 : decode cX11_hasBreakpoint 17 = .ok (.aload_n 0, 1) := xdc ddX11_hasBreakpoint_0 9 rfl
theorem dX11_hasBreakpoint_18 : decode cX11_hasBreakpoint 18 = .ok (.getfield 77, 3) := xdc ddX11_hasBreakpoint_0 10 rfl
theorem dX11_hasBreakpoint_21 : decode cX11_hasBreakpoint 21 = .ok (.iload_n 2, 1) := xdc ddX11_hasBreakpoint_0 11 rfl
theorem dX11_hasBreakpoint_22 : decode cX11_hasBreakpoint 22 = .ok (.baload, 1) := xdc ddX11_hasBreakpoint_0 12 rfl
theorem dX11_hasBreakpoint_23 : decode cX11_hasBreakpoint 23 = .ok (.ifCond .eq 7, 3) := xdc ddX11_hasBreakpoint_0 13 rfl
theorem dX11_hasBreakpoint_26 : decode cX11_hasBreakpoint 26 = .ok (.iconst 1, 1) := xdc ddX11_hasBreakpoint_0 14 rfl
theorem dX11_hasBreakpoint_27 : decode cX11_hasBreakpoint 27 = .ok (.goto 4, 3) := xdc ddX11_hasBreakpoint_0 15 rfl
theorem dX11_hasBreakpoint_30 : decode cX11_hasBreakpoint 30 = .ok (.iconst 0, 1) := xdc ddX11_hasBreakpoint_0 16 rfl
theorem dX11_hasBreakpoint_31 : decode cX11_hasBreakpoint 31 = .ok (.ireturn, 1) := xdc ddX11_hasBreakpoint_0 17 rfl
abbrev cX11_run : ByteArray := prog_1_method_16_code
theorem ddX11_run_0 : xdec cX11_run [(0, (.iload_n 1, 1)), (1, (.ifCond .lt 10, 3)), (4, (.iload_n 1, 1)), (5, (.sipush 10000, 3)), (8, (.if_icmp .le 13, 3)), (11, (.new 81, 3)), (21, (.aload_n 0, 1)), (22, (.getfield 73, 3)), (25, (.getfield 102, 3)), (28, (.ifCond .ne 13, 3)), (31, (.new 162, 3)), (41, (.aload_n 0, 1)), (42, (.getfield 73, 3)), (45, (.invokevirtual 177, 3)), (48, (.iconst 0, 1)), (49, (.istore_n 2, 1)), (50, (.iconst 0, 1)), (51, (.istore_n 3, 1)), (52, (.iload_n 3, 1)), (53, (.iload_n 1, 1)), (54, (.if_icmp .ge 63, 3)), (57, (.aload_n 0, 1)), (58, (.getfield 73, 3)), (61, (.getfield 102, 3)), (64, (.iconst 1, 1)), (65, (.if_icmp .ne 52, 3)), (68, (.iload_n 3, 1)), (69, (.ifCond .le 29, 3)), (72, (.aload_n 0, 1)), (73, (.aload_n 0, 1)), (74, (.getfield 73, 3)), (77, (.getfield 180, 3)), (80, (.invokevirtual 183, 3)), (83, (.ifCond .eq 15, 3)), (86, (.aload_n 0, 1)), (87, (.getfield 73, 3)), (90, (.bipush 8, 2)), (92, (.putfield 102, 3)), (95, (.goto 16, 3)), (98, (.aload_n 0, 1))] = true := by decide +kernel
theorem dX11_run_0 : decode cX11_run 0 = .ok (.iload_n 1, 1) := xdc ddX11_run_0 0 rfl
theorem dX11_run_1 : decode cX11_run 1 = .ok (.ifCond .lt 10, 3) := xdc ddX11_run_0 1 rfl
theorem dX11_run_4 : decode cX11_run 4 = .ok (.iload_n 1, 1) := xdc ddX11_run_0 2 rfl
theorem dX11_run_5 : decode cX11_run 5 = .ok (.sipush 10000, 3) := xdc ddX11_run_0 3 rfl
theorem dX11_run_8 : decode cX11_run 8 = .ok (.if_icmp .le 13, 3) := xdc ddX11_run_0 4 rfl
theorem dX11_run_11 : decode cX11_run 11 = .ok (.new 81, 3) := xdc ddX11_run_0 5 rfl
theorem dX11_run_21 : decode cX11_run 21 = .ok (.aload_n 0, 1) := xdc ddX11_run_0 6 rfl
theorem dX11_run_22 : decode cX11_run 22 = .ok (.getfield 73, 3) := xdc ddX11_run_0 7 rfl
theorem dX11_run_25 : decode cX11_run 25 = .ok (.getfield 102, 3) := xdc ddX11_run_0 8 rfl
theorem dX11_run_28 : decode cX11_run 28 = .ok (.ifCond .ne 13, 3) := xdc ddX11_run_0 9 rfl
theorem dX11_run_31 : decode cX11_run 31 = .ok (.new 162, 3) := xdc ddX11_run_0 10 rfl
theorem dX11_run_41 : decode cX11_run 41 = .ok (.aload_n 0, 1) := xdc ddX11_run_0 11 rfl
theorem dX11_run_42 : decode cX11_run 42 = .ok (.getfield 73, 3) := xdc ddX11_run_0 12 rfl
theorem dX11_run_45 : decode cX11_run 45 = .ok (.invokevirtual 177, 3) := xdc ddX11_run_0 13 rfl
theorem dX11_run_48 : decode cX11_run 48 = .ok (.iconst 0, 1) := xdc ddX11_run_0 14 rfl
theorem dX11_run_49 : decode cX11_run 49 = .ok (.istore_n 2, 1) := xdc ddX11_run_0 15 rfl
theorem dX11_run_50 : decode cX11_run 50 = .ok (.iconst 0, 1) := xdc ddX11_run_0 16 rfl
theorem dX11_run_51 : decode cX11_run 51 = .ok (.istore_n 3, 1) := xdc ddX11_run_0 17 rfl
theorem dX11_run_52 : decode cX11_run 52 = .ok (.iload_n 3, 1) := xdc ddX11_run_0 18 rfl
theorem dX11_run_53 : decode cX11_run 53 = .ok (.iload_n 1, 1) := xdc ddX11_run_0 19 rfl
theorem dX11_run_54 : decode cX11_run 54 = .ok (.if_icmp .ge 63, 3) := xdc ddX11_run_0 20 rfl
theorem dX11_run_57 : decode cX11_run 57 = .ok (.aload_n 0, 1) := xdc ddX11_run_0 21 rfl
theorem dX11_run_58 : decode cX11_run 58 = .ok (.getfield 73, 3) := xdc ddX11_run_0 22 rfl
theorem dX11_run_61 : decode cX11_run 61 = .ok (.getfield 102, 3) := xdc ddX11_run_0 23 rfl
theorem dX11_run_64 : decode cX11_run 64 = .ok (.iconst 1, 1) := xdc ddX11_run_0 24 rfl
theorem dX11_run_65 : decode cX11_run 65 = .ok (.if_icmp .ne 52, 3) := xdc ddX11_run_0 25 rfl
theorem dX11_run_68 : decode cX11_run 68 = .ok (.iload_n 3, 1) := xdc ddX11_run_0 26 rfl
theorem dX11_run_69 : decode cX11_run 69 = .ok (.ifCond .le 29, 3) := xdc ddX11_run_0 27 rfl
theorem dX11_run_72 : decode cX11_run 72 = .ok (.aload_n 0, 1) := xdc ddX11_run_0 28 rfl
theorem dX11_run_73 : decode cX11_run 73 = .ok (.aload_n 0, 1) := xdc ddX11_run_0 29 rfl
theorem dX11_run_74 : decode cX11_run 74 = .ok (.getfield 73, 3) := xdc ddX11_run_0 30 rfl
theorem dX11_run_77 : decode cX11_run 77 = .ok (.getfield 180, 3) := xdc ddX11_run_0 31 rfl
theorem dX11_run_80 : decode cX11_run 80 = .ok (.invokevirtual 183, 3) := xdc ddX11_run_0 32 rfl
theorem dX11_run_83 : decode cX11_run 83 = .ok (.ifCond .eq 15, 3) := xdc ddX11_run_0 33 rfl
theorem dX11_run_86 : decode cX11_run 86 = .ok (.aload_n 0, 1) := xdc ddX11_run_0 34 rfl
theorem dX11_run_87 : decode cX11_run 87 = .ok (.getfield 73, 3) := xdc ddX11_run_0 35 rfl
theorem dX11_run_90 : decode cX11_run 90 = .ok (.bipush 8, 2) := xdc ddX11_run_0 36 rfl
theorem dX11_run_92 : decode cX11_run 92 = .ok (.putfield 102, 3) := xdc ddX11_run_0 37 rfl
theorem dX11_run_95 : decode cX11_run 95 = .ok (.goto 16, 3) := xdc ddX11_run_0 38 rfl
theorem dX11_run_98 : decode cX11_run 98 = .ok (.aload_n 0, 1) := xdc ddX11_run_0 39 rfl
theorem ddX11_run_1 : xdec cX11_run [(99, (.getfield 73, 3)), (102, (.invokevirtual 186, 3)), (105, (.ifCond .eq 6, 3)), (108, (.iinc 2 1, 3)), (111, (.iinc 3 1, 3)), (114, (.goto (-62), 3)), (117, (.iload_n 2, 1)), (118, (.ireturn, 1))] = true := by decide +kernel
theorem dX11_run_99 : decode cX11_run 99 = .ok (.getfield 73, 3) := xdc ddX11_run_1 0 rfl
theorem dX11_run_102 : decode cX11_run 102 = .ok (.invokevirtual 186, 3) := xdc ddX11_run_1 1 rfl
theorem dX11_run_105 : decode cX11_run 105 = .ok (.ifCond .eq 6, 3) := xdc ddX11_run_1 2 rfl
theorem dX11_run_108 : decode cX11_run 108 = .ok (.iinc 2 1, 3) := xdc ddX11_run_1 3 rfl
theorem dX11_run_111 : decode cX11_run 111 = .ok (.iinc 3 1, 3) := xdc ddX11_run_1 4 rfl
theorem dX11_run_114 : decode cX11_run 114 = .ok (.goto (-62), 3) := xdc ddX11_run_1 5 rfl
theorem dX11_run_117 : decode cX11_run 117 = .ok (.iload_n 2, 1) := xdc ddX11_run_1 6 rfl
theorem dX11_run_118 : decode cX11_run 118 = .ok (.ireturn, 1) := xdc ddX11_run_1 7 rfl
abbrev cX11_stop : ByteArray := prog_1_method_18_code
theorem ddX11_stop_0 : xdec cX11_stop [(0, (.iload_n 1, 1)), (1, (.ifCond .lt 10, 3)), (4, (.iload_n 1, 1)), (5, (.sipush 2048, 3)), (8, (.if_icmp .lt 13, 3)), (11, (.new 81, 3)), (21, (.aload_n 0, 1)), (22, (.getfield 77, 3)), (25, (.iload_n 1, 1)), (26, (.baload, 1)), (27, (.istore_n 3, 1)), (28, (.aload_n 0, 1)), (29, (.getfield 77, 3)), (32, (.iload_n 1, 1)), (33, (.iload_n 2, 1)), (34, (.bastore, 1)), (35, (.iload_n 3, 1)), (36, (.ireturn, 1))] = true := by decide +kernel
theorem dX11_stop_0 : decode cX11_stop 0 = .ok (.iload_n 1, 1) := xdc ddX11_stop_0 0 rfl
theorem dX11_stop_1 : decode cX11_stop 1 = .ok (.ifCond .lt 10, 3) := xdc ddX11_stop_0 1 rfl
theorem dX11_stop_4 : decode cX11_stop 4 = .ok (.iload_n 1, 1) := xdc ddX11_stop_0 2 rfl
theorem dX11_stop_5 : decode cX11_stop 5 = .ok (.sipush 2048, 3) := xdc ddX11_stop_0 3 rfl
theorem dX11_stop_8 : decode cX11_stop 8 = .ok (.if_icmp .lt 13, 3) := xdc ddX11_stop_0 4 rfl
theorem dX11_stop_11 : decode cX11_stop 11 = .ok (.new 81, 3) := xdc ddX11_stop_0 5 rfl
theorem dX11_stop_21 : decode cX11_stop 21 = .ok (.aload_n 0, 1) := xdc ddX11_stop_0 6 rfl
theorem dX11_stop_22 : decode cX11_stop 22 = .ok (.getfield 77, 3) := xdc ddX11_stop_0 7 rfl
theorem dX11_stop_25 : decode cX11_stop 25 = .ok (.iload_n 1, 1) := xdc ddX11_stop_0 8 rfl
theorem dX11_stop_26 : decode cX11_stop 26 = .ok (.baload, 1) := xdc ddX11_stop_0 9 rfl
theorem dX11_stop_27 : decode cX11_stop 27 = .ok (.istore_n 3, 1) := xdc ddX11_stop_0 10 rfl
theorem dX11_stop_28 : decode cX11_stop 28 = .ok (.aload_n 0, 1) := xdc ddX11_stop_0 11 rfl
theorem dX11_stop_29 : decode cX11_stop 29 = .ok (.getfield 77, 3) := xdc ddX11_stop_0 12 rfl
theorem dX11_stop_32 : decode cX11_stop 32 = .ok (.iload_n 1, 1) := xdc ddX11_stop_0 13 rfl
theorem dX11_stop_33 : decode cX11_stop 33 = .ok (.iload_n 2, 1) := xdc ddX11_stop_0 14 rfl
theorem dX11_stop_34 : decode cX11_stop 34 = .ok (.bastore, 1) := xdc ddX11_stop_0 15 rfl
theorem dX11_stop_35 : decode cX11_stop 35 = .ok (.iload_n 3, 1) := xdc ddX11_stop_0 16 rfl
theorem dX11_stop_36 : decode cX11_stop 36 = .ok (.ireturn, 1) := xdc ddX11_stop_0 17 rfl
abbrev cX11_told : ByteArray := prog_1_method_19_code
theorem ddX11_told_0 : xdec cX11_told [(0, (.iload_n 1, 1)), (1, (.tableswitch 114 0 7 #[47, 55, 63, 71, 79, 87, 95, 103], 47)), (48, (.aload_n 0, 1)), (49, (.getfield 73, 3)), (52, (.getfield 102, 3)), (55, (.ireturn, 1)), (56, (.aload_n 0, 1)), (57, (.getfield 73, 3)), (60, (.getfield 180, 3)), (63, (.ireturn, 1)), (64, (.aload_n 0, 1)), (65, (.getfield 73, 3)), (68, (.getfield 192, 3)), (71, (.ireturn, 1)), (72, (.aload_n 0, 1)), (73, (.getfield 64, 3)), (76, (.getfield 195, 3)), (79, (.ireturn, 1)), (80, (.aload_n 0, 1)), (81, (.getfield 64, 3)), (84, (.getfield 156, 3)), (87, (.ireturn, 1)), (88, (.aload_n 0, 1)), (89, (.getfield 64, 3)), (92, (.getfield 198, 3)), (95, (.ireturn, 1)), (96, (.aload_n 0, 1)), (97, (.getfield 64, 3)), (100, (.getfield 201, 3)), (103, (.ireturn, 1)), (104, (.aload_n 0, 1)), (105, (.getfield 73, 3)), (108, (.getfield 204, 3)), (111, (.getfield 208, 3)), (114, (.ireturn, 1)), (115, (.new 81, 3))] = true := by decide +kernel
theorem dX11_told_0 : decode cX11_told 0 = .ok (.iload_n 1, 1) := xdc ddX11_told_0 0 rfl
theorem dX11_told_1 : decode cX11_told 1 = .ok (.tableswitch 114 0 7 #[47, 55, 63, 71, 79, 87, 95, 103], 47) := xdc ddX11_told_0 1 rfl
theorem dX11_told_48 : decode cX11_told 48 = .ok (.aload_n 0, 1) := xdc ddX11_told_0 2 rfl
theorem dX11_told_49 : decode cX11_told 49 = .ok (.getfield 73, 3) := xdc ddX11_told_0 3 rfl
theorem dX11_told_52 : decode cX11_told 52 = .ok (.getfield 102, 3) := xdc ddX11_told_0 4 rfl
theorem dX11_told_55 : decode cX11_told 55 = .ok (.ireturn, 1) := xdc ddX11_told_0 5 rfl
theorem dX11_told_56 : decode cX11_told 56 = .ok (.aload_n 0, 1) := xdc ddX11_told_0 6 rfl
theorem dX11_told_57 : decode cX11_told 57 = .ok (.getfield 73, 3) := xdc ddX11_told_0 7 rfl
theorem dX11_told_60 : decode cX11_told 60 = .ok (.getfield 180, 3) := xdc ddX11_told_0 8 rfl
theorem dX11_told_63 : decode cX11_told 63 = .ok (.ireturn, 1) := xdc ddX11_told_0 9 rfl
theorem dX11_told_64 : decode cX11_told 64 = .ok (.aload_n 0, 1) := xdc ddX11_told_0 10 rfl
theorem dX11_told_65 : decode cX11_told 65 = .ok (.getfield 73, 3) := xdc ddX11_told_0 11 rfl
theorem dX11_told_68 : decode cX11_told 68 = .ok (.getfield 192, 3) := xdc ddX11_told_0 12 rfl
theorem dX11_told_71 : decode cX11_told 71 = .ok (.ireturn, 1) := xdc ddX11_told_0 13 rfl
theorem dX11_told_72 : decode cX11_told 72 = .ok (.aload_n 0, 1) := xdc ddX11_told_0 14 rfl
theorem dX11_told_73 : decode cX11_told 73 = .ok (.getfield 64, 3) := xdc ddX11_told_0 15 rfl
theorem dX11_told_76 : decode cX11_told 76 = .ok (.getfield 195, 3) := xdc ddX11_told_0 16 rfl
theorem dX11_told_79 : decode cX11_told 79 = .ok (.ireturn, 1) := xdc ddX11_told_0 17 rfl
theorem dX11_told_80 : decode cX11_told 80 = .ok (.aload_n 0, 1) := xdc ddX11_told_0 18 rfl
theorem dX11_told_81 : decode cX11_told 81 = .ok (.getfield 64, 3) := xdc ddX11_told_0 19 rfl
theorem dX11_told_84 : decode cX11_told 84 = .ok (.getfield 156, 3) := xdc ddX11_told_0 20 rfl
theorem dX11_told_87 : decode cX11_told 87 = .ok (.ireturn, 1) := xdc ddX11_told_0 21 rfl
theorem dX11_told_88 : decode cX11_told 88 = .ok (.aload_n 0, 1) := xdc ddX11_told_0 22 rfl
theorem dX11_told_89 : decode cX11_told 89 = .ok (.getfield 64, 3) := xdc ddX11_told_0 23 rfl
theorem dX11_told_92 : decode cX11_told 92 = .ok (.getfield 198, 3) := xdc ddX11_told_0 24 rfl
theorem dX11_told_95 : decode cX11_told 95 = .ok (.ireturn, 1) := xdc ddX11_told_0 25 rfl
theorem dX11_told_96 : decode cX11_told 96 = .ok (.aload_n 0, 1) := xdc ddX11_told_0 26 rfl
theorem dX11_told_97 : decode cX11_told 97 = .ok (.getfield 64, 3) := xdc ddX11_told_0 27 rfl
theorem dX11_told_100 : decode cX11_told 100 = .ok (.getfield 201, 3) := xdc ddX11_told_0 28 rfl
theorem dX11_told_103 : decode cX11_told 103 = .ok (.ireturn, 1) := xdc ddX11_told_0 29 rfl
theorem dX11_told_104 : decode cX11_told 104 = .ok (.aload_n 0, 1) := xdc ddX11_told_0 30 rfl
theorem dX11_told_105 : decode cX11_told 105 = .ok (.getfield 73, 3) := xdc ddX11_told_0 31 rfl
theorem dX11_told_108 : decode cX11_told 108 = .ok (.getfield 204, 3) := xdc ddX11_told_0 32 rfl
theorem dX11_told_111 : decode cX11_told 111 = .ok (.getfield 208, 3) := xdc ddX11_told_0 33 rfl
theorem dX11_told_114 : decode cX11_told 114 = .ok (.ireturn, 1) := xdc ddX11_told_0 34 rfl
theorem dX11_told_115 : decode cX11_told 115 = .ok (.new 81, 3) := xdc ddX11_told_0 35 rfl
abbrev cX11_steps : ByteArray := prog_1_method_20_code
theorem ddX11_steps_0 : xdec cX11_steps [(0, (.aload_n 0, 1)), (1, (.getfield 73, 3)), (4, (.getfield 215, 3)), (7, (.lreturn, 1))] = true := by decide +kernel
theorem dX11_steps_0 : decode cX11_steps 0 = .ok (.aload_n 0, 1) := xdc ddX11_steps_0 0 rfl
theorem dX11_steps_1 : decode cX11_steps 1 = .ok (.getfield 73, 3) := xdc ddX11_steps_0 1 rfl
theorem dX11_steps_4 : decode cX11_steps 4 = .ok (.getfield 215, 3) := xdc ddX11_steps_0 2 rfl
theorem dX11_steps_7 : decode cX11_steps 7 = .ok (.lreturn, 1) := xdc ddX11_steps_0 3 rfl
abbrev cX11_register : ByteArray := prog_1_method_21_code
theorem ddX11_register_0 : xdec cX11_register [(0, (.iload_n 1, 1)), (1, (.ifCond .lt 9, 3)), (4, (.iload_n 1, 1)), (5, (.bipush 7, 2)), (7, (.if_icmp .le 13, 3)), (10, (.new 219, 3)), (20, (.aload_n 0, 1)), (21, (.getfield 73, 3)), (24, (.getfield 224, 3)), (27, (.iload_n 1, 1)), (28, (.iaload, 1)), (29, (.ireturn, 1))] = true := by decide +kernel
theorem dX11_register_0 : decode cX11_register 0 = .ok (.iload_n 1, 1) := xdc ddX11_register_0 0 rfl
theorem dX11_register_1 : decode cX11_register 1 = .ok (.ifCond .lt 9, 3) := xdc ddX11_register_0 1 rfl
theorem dX11_register_4 : decode cX11_register 4 = .ok (.iload_n 1, 1) := xdc ddX11_register_0 2 rfl
theorem dX11_register_5 : decode cX11_register 5 = .ok (.bipush 7, 2) := xdc ddX11_register_0 3 rfl
theorem dX11_register_7 : decode cX11_register 7 = .ok (.if_icmp .le 13, 3) := xdc ddX11_register_0 4 rfl
theorem dX11_register_10 : decode cX11_register 10 = .ok (.new 219, 3) := xdc ddX11_register_0 5 rfl
theorem dX11_register_20 : decode cX11_register 20 = .ok (.aload_n 0, 1) := xdc ddX11_register_0 6 rfl
theorem dX11_register_21 : decode cX11_register 21 = .ok (.getfield 73, 3) := xdc ddX11_register_0 7 rfl
theorem dX11_register_24 : decode cX11_register 24 = .ok (.getfield 224, 3) := xdc ddX11_register_0 8 rfl
theorem dX11_register_27 : decode cX11_register 27 = .ok (.iload_n 1, 1) := xdc ddX11_register_0 9 rfl
theorem dX11_register_28 : decode cX11_register 28 = .ok (.iaload, 1) := xdc ddX11_register_0 10 rfl
theorem dX11_register_29 : decode cX11_register 29 = .ok (.ireturn, 1) := xdc ddX11_register_0 11 rfl
abbrev cX11_put : ByteArray := prog_1_method_22_code
theorem ddX11_put_0 : xdec cX11_put [(0, (.iload_n 1, 1)), (1, (.ifCond .lt 9, 3)), (4, (.iload_n 1, 1)), (5, (.bipush 7, 2)), (7, (.if_icmp .le 13, 3)), (10, (.new 219, 3)), (20, (.aload_n 0, 1)), (21, (.getfield 73, 3)), (24, (.getfield 102, 3)), (27, (.ifCond .ne 13, 3)), (30, (.new 162, 3)), (40, (.aload_n 0, 1)), (41, (.getfield 73, 3)), (44, (.getfield 224, 3)), (47, (.iload_n 1, 1)), (48, (.iaload, 1)), (49, (.istore_n 3, 1)), (50, (.aload_n 0, 1)), (51, (.getfield 73, 3)), (54, (.getfield 224, 3)), (57, (.iload_n 1, 1)), (58, (.iload_n 2, 1)), (59, (.iastore, 1)), (60, (.iload_n 3, 1)), (61, (.ireturn, 1))] = true := by decide +kernel
theorem dX11_put_0 : decode cX11_put 0 = .ok (.iload_n 1, 1) := xdc ddX11_put_0 0 rfl
theorem dX11_put_1 : decode cX11_put 1 = .ok (.ifCond .lt 9, 3) := xdc ddX11_put_0 1 rfl
theorem dX11_put_4 : decode cX11_put 4 = .ok (.iload_n 1, 1) := xdc ddX11_put_0 2 rfl
theorem dX11_put_5 : decode cX11_put 5 = .ok (.bipush 7, 2) := xdc ddX11_put_0 3 rfl
theorem dX11_put_7 : decode cX11_put 7 = .ok (.if_icmp .le 13, 3) := xdc ddX11_put_0 4 rfl
theorem dX11_put_10 : decode cX11_put 10 = .ok (.new 219, 3) := xdc ddX11_put_0 5 rfl
theorem dX11_put_20 : decode cX11_put 20 = .ok (.aload_n 0, 1) := xdc ddX11_put_0 6 rfl
theorem dX11_put_21 : decode cX11_put 21 = .ok (.getfield 73, 3) := xdc ddX11_put_0 7 rfl
theorem dX11_put_24 : decode cX11_put 24 = .ok (.getfield 102, 3) := xdc ddX11_put_0 8 rfl
theorem dX11_put_27 : decode cX11_put 27 = .ok (.ifCond .ne 13, 3) := xdc ddX11_put_0 9 rfl
theorem dX11_put_30 : decode cX11_put 30 = .ok (.new 162, 3) := xdc ddX11_put_0 10 rfl
theorem dX11_put_40 : decode cX11_put 40 = .ok (.aload_n 0, 1) := xdc ddX11_put_0 11 rfl
theorem dX11_put_41 : decode cX11_put 41 = .ok (.getfield 73, 3) := xdc ddX11_put_0 12 rfl
theorem dX11_put_44 : decode cX11_put 44 = .ok (.getfield 224, 3) := xdc ddX11_put_0 13 rfl
theorem dX11_put_47 : decode cX11_put 47 = .ok (.iload_n 1, 1) := xdc ddX11_put_0 14 rfl
theorem dX11_put_48 : decode cX11_put 48 = .ok (.iaload, 1) := xdc ddX11_put_0 15 rfl
theorem dX11_put_49 : decode cX11_put 49 = .ok (.istore_n 3, 1) := xdc ddX11_put_0 16 rfl
theorem dX11_put_50 : decode cX11_put 50 = .ok (.aload_n 0, 1) := xdc ddX11_put_0 17 rfl
theorem dX11_put_51 : decode cX11_put 51 = .ok (.getfield 73, 3) := xdc ddX11_put_0 18 rfl
theorem dX11_put_54 : decode cX11_put 54 = .ok (.getfield 224, 3) := xdc ddX11_put_0 19 rfl
theorem dX11_put_57 : decode cX11_put 57 = .ok (.iload_n 1, 1) := xdc ddX11_put_0 20 rfl
theorem dX11_put_58 : decode cX11_put 58 = .ok (.iload_n 2, 1) := xdc ddX11_put_0 21 rfl
theorem dX11_put_59 : decode cX11_put 59 = .ok (.iastore, 1) := xdc ddX11_put_0 22 rfl
theorem dX11_put_60 : decode cX11_put 60 = .ok (.iload_n 3, 1) := xdc ddX11_put_0 23 rfl
theorem dX11_put_61 : decode cX11_put 61 = .ok (.ireturn, 1) := xdc ddX11_put_0 24 rfl
abbrev cX11_output : ByteArray := prog_1_method_23_code
theorem ddX11_output_0 : xdec cX11_output [(0, (.aload_n 0, 1)), (1, (.getfield 64, 3)), (4, (.iload_n 1, 1)), (5, (.invokevirtual 228, 3)), (8, (.ireturn, 1))] = true := by decide +kernel
theorem dX11_output_0 : decode cX11_output 0 = .ok (.aload_n 0, 1) := xdc ddX11_output_0 0 rfl
theorem dX11_output_1 : decode cX11_output 1 = .ok (.getfield 64, 3) := xdc ddX11_output_0 1 rfl
theorem dX11_output_4 : decode cX11_output 4 = .ok (.iload_n 1, 1) := xdc ddX11_output_0 2 rfl
theorem dX11_output_5 : decode cX11_output 5 = .ok (.invokevirtual 228, 3) := xdc ddX11_output_0 3 rfl
theorem dX11_output_8 : decode cX11_output 8 = .ok (.ireturn, 1) := xdc ddX11_output_0 4 rfl
abbrev cX11_passed : ByteArray := prog_1_method_24_code
theorem ddX11_passed_0 : xdec cX11_passed [(0, (.iload_n 1, 1)), (1, (.ifCond .lt 10, 3)), (4, (.iload_n 1, 1)), (5, (.sipush 2048, 3)), (8, (.if_icmp .lt 13, 3)), (11, (.new 81, 3)), (21, (.aload_n 0, 1)), (22, (.getfield 73, 3)), (25, (.getfield 231, 3)), (28, (.iload_n 1, 1)), (29, (.iaload, 1)), (30, (.ireturn, 1))] = true := by decide +kernel
theorem dX11_passed_0 : decode cX11_passed 0 = .ok (.iload_n 1, 1) := xdc ddX11_passed_0 0 rfl
theorem dX11_passed_1 : decode cX11_passed 1 = .ok (.ifCond .lt 10, 3) := xdc ddX11_passed_0 1 rfl
theorem dX11_passed_4 : decode cX11_passed 4 = .ok (.iload_n 1, 1) := xdc ddX11_passed_0 2 rfl
theorem dX11_passed_5 : decode cX11_passed 5 = .ok (.sipush 2048, 3) := xdc ddX11_passed_0 3 rfl
theorem dX11_passed_8 : decode cX11_passed 8 = .ok (.if_icmp .lt 13, 3) := xdc ddX11_passed_0 4 rfl
theorem dX11_passed_11 : decode cX11_passed 11 = .ok (.new 81, 3) := xdc ddX11_passed_0 5 rfl
theorem dX11_passed_21 : decode cX11_passed 21 = .ok (.aload_n 0, 1) := xdc ddX11_passed_0 6 rfl
theorem dX11_passed_22 : decode cX11_passed 22 = .ok (.getfield 73, 3) := xdc ddX11_passed_0 7 rfl
theorem dX11_passed_25 : decode cX11_passed 25 = .ok (.getfield 231, 3) := xdc ddX11_passed_0 8 rfl
theorem dX11_passed_28 : decode cX11_passed 28 = .ok (.iload_n 1, 1) := xdc ddX11_passed_0 9 rfl
theorem dX11_passed_29 : decode cX11_passed 29 = .ok (.iaload, 1) := xdc ddX11_passed_0 10 rfl
theorem dX11_passed_30 : decode cX11_passed 30 = .ok (.ireturn, 1) := xdc ddX11_passed_0 11 rfl
