/-! the members of StringBuilder, String, Arrays, Integer that the texts reach: names, instructions decoded, words -/
abbrev cB_isl : ByteArray := prog_15_method_68_code
theorem ddB_isl_0 : xdec cB_isl [(0, (.getstatic 18, 3)), (3, (.ifCond .eq 14, 3)), (6, (.aload_n 0, 1)), (7, (.getfield 22, 3)), (10, (.ifCond .ne 7, 3)), (13, (.iconst 1, 1)), (14, (.goto 4, 3)), (17, (.iconst 0, 1)), (18, (.ireturn, 1))] = true := by decide +kernel
theorem dB_isl_0 : decode cB_isl 0 = .ok (.getstatic 18, 3) := xdc ddB_isl_0 0 rfl
theorem dB_isl_3 : decode cB_isl 3 = .ok (.ifCond .eq 14, 3) := xdc ddB_isl_0 1 rfl
theorem dB_isl_6 : decode cB_isl 6 = .ok (.aload_n 0, 1) := xdc ddB_isl_0 2 rfl
theorem dB_isl_7 : decode cB_isl 7 = .ok (.getfield 22, 3) := xdc ddB_isl_0 3 rfl
theorem dB_isl_10 : decode cB_isl 10 = .ok (.ifCond .ne 7, 3) := xdc ddB_isl_0 4 rfl
theorem dB_isl_13 : decode cB_isl 13 = .ok (.iconst 1, 1) := xdc ddB_isl_0 5 rfl
theorem dB_isl_14 : decode cB_isl 14 = .ok (.goto 4, 3) := xdc ddB_isl_0 6 rfl
theorem dB_isl_17 : decode cB_isl 17 = .ok (.iconst 0, 1) := xdc ddB_isl_0 7 rfl
theorem dB_isl_18 : decode cB_isl 18 = .ok (.ireturn, 1) := xdc ddB_isl_0 8 rfl
abbrev yB_isl : MethodName := ⟨"java/lang/AbstractStringBuilder", "isLatin1", "()Z"⟩
abbrev mB_isl : xMd := (yB_isl, cB_isl, 1, (some .boolean), { frames := 0, cells := 0, slots := 0, locals := 30 })
theorem tB_c_isl : Cond.code yB_isl cB_isl 1 (some .boolean) ∈ gtbl := gtt_4 155 rfl rfl
theorem tB_i_J5 : Cond.initialized "java/lang/AbstractStringBuilder" ∈ gtbl := gtt_1 9 rfl rfl
theorem tB_n_isl : Cond.instanceMethod yB_isl ∈ gtbl := gtt_4 152 rfl rfl
theorem tB_q_isl : Cond.sameMethod "java/lang/AbstractStringBuilder" "java/lang/AbstractStringBuilder" "isLatin1" "()Z" ∈ gtbl := gtt_4 153 rfl rfl
theorem tB_u_isl : Cond.selects "java/lang/StringBuilder" yB_isl yB_isl ∈ gtbl := gtt_4 154 rfl rfl
theorem tB_f_J5_18 : Cond.fieldLink "java/lang/AbstractStringBuilder" 18 "java/lang/String" "COMPACT_STRINGS" "Z" ∈ gtbl := gtt_2 18 rfl rfl
theorem tB_f_J5_22 : Cond.fieldLink "java/lang/AbstractStringBuilder" 22 "java/lang/AbstractStringBuilder" "coder" "B" ∈ gtbl := gtt_2 28 rfl rfl
abbrev cB_can : ByteArray := prog_29_method_3_code
theorem ddB_can_0 : xdec cB_can [(0, (.iload_n 0, 1)), (1, (.sipush 255, 3)), (4, (.if_icmp .gt 7, 3)), (7, (.iconst 1, 1)), (8, (.goto 4, 3)), (11, (.iconst 0, 1)), (12, (.ireturn, 1))] = true := by decide +kernel
theorem dB_can_0 : decode cB_can 0 = .ok (.iload_n 0, 1) := xdc ddB_can_0 0 rfl
theorem dB_can_1 : decode cB_can 1 = .ok (.sipush 255, 3) := xdc ddB_can_0 1 rfl
theorem dB_can_4 : decode cB_can 4 = .ok (.if_icmp .gt 7, 3) := xdc ddB_can_0 2 rfl
theorem dB_can_7 : decode cB_can 7 = .ok (.iconst 1, 1) := xdc ddB_can_0 3 rfl
theorem dB_can_8 : decode cB_can 8 = .ok (.goto 4, 3) := xdc ddB_can_0 4 rfl
theorem dB_can_11 : decode cB_can 11 = .ok (.iconst 0, 1) := xdc ddB_can_0 5 rfl
theorem dB_can_12 : decode cB_can 12 = .ok (.ireturn, 1) := xdc ddB_can_0 6 rfl
abbrev yB_can : MethodName := ⟨"java/lang/StringLatin1", "canEncode", "(C)Z"⟩
abbrev mB_can : xMd := (yB_can, cB_can, 1, (some .boolean), { frames := 0, cells := 0, slots := 0, locals := 30 })
theorem tB_c_can : Cond.code yB_can cB_can 1 (some .boolean) ∈ gtbl := gtt_5 236 rfl rfl
theorem tB_i_J1 : Cond.initialized "java/lang/StringLatin1" ∈ gtbl := gtt_1 29 rfl rfl
theorem tB_s_can : Cond.static yB_can ∈ gtbl := gtt_5 235 rfl rfl
theorem mkB_can : xMkS mB_can 1 := ⟨⟨tB_c_can, tB_i_J1, ⟨by decide, by decide⟩, by decide +kernel⟩, tB_s_can⟩
abbrev cB_nlen : ByteArray := prog_34_method_27_code
theorem ddB_nlen_0 : xdec cB_nlen [(0, (.iload_n 0, 1)), (1, (.iload_n 1, 1)), (2, (.iload_n 2, 1)), (3, (.invokestatic 194, 3)), (6, (.iadd, 1)), (7, (.istore_n 3, 1)), (8, (.iconst 0, 1)), (9, (.iload_n 3, 1)), (10, (.if_icmp .ge 11, 3)), (13, (.iload_n 3, 1)), (14, (.ldc 200, 2)), (16, (.if_icmp .gt 5, 3)), (19, (.iload_n 3, 1)), (20, (.ireturn, 1)), (21, (.iload_n 0, 1)), (22, (.iload_n 1, 1)), (23, (.invokestatic 201, 3)), (26, (.ireturn, 1))] = true := by decide +kernel
theorem dB_nlen_0 : decode cB_nlen 0 = .ok (.iload_n 0, 1) := xdc ddB_nlen_0 0 rfl
theorem dB_nlen_1 : decode cB_nlen 1 = .ok (.iload_n 1, 1) := xdc ddB_nlen_0 1 rfl
theorem dB_nlen_2 : decode cB_nlen 2 = .ok (.iload_n 2, 1) := xdc ddB_nlen_0 2 rfl
theorem dB_nlen_3 : decode cB_nlen 3 = .ok (.invokestatic 194, 3) := xdc ddB_nlen_0 3 rfl
theorem dB_nlen_6 : decode cB_nlen 6 = .ok (.iadd, 1) := xdc ddB_nlen_0 4 rfl
theorem dB_nlen_7 : decode cB_nlen 7 = .ok (.istore_n 3, 1) := xdc ddB_nlen_0 5 rfl
theorem dB_nlen_8 : decode cB_nlen 8 = .ok (.iconst 0, 1) := xdc ddB_nlen_0 6 rfl
theorem dB_nlen_9 : decode cB_nlen 9 = .ok (.iload_n 3, 1) := xdc ddB_nlen_0 7 rfl
theorem dB_nlen_10 : decode cB_nlen 10 = .ok (.if_icmp .ge 11, 3) := xdc ddB_nlen_0 8 rfl
theorem dB_nlen_13 : decode cB_nlen 13 = .ok (.iload_n 3, 1) := xdc ddB_nlen_0 9 rfl
theorem dB_nlen_14 : decode cB_nlen 14 = .ok (.ldc 200, 2) := xdc ddB_nlen_0 10 rfl
theorem dB_nlen_16 : decode cB_nlen 16 = .ok (.if_icmp .gt 5, 3) := xdc ddB_nlen_0 11 rfl
theorem dB_nlen_19 : decode cB_nlen 19 = .ok (.iload_n 3, 1) := xdc ddB_nlen_0 12 rfl
theorem dB_nlen_20 : decode cB_nlen 20 = .ok (.ireturn, 1) := xdc ddB_nlen_0 13 rfl
theorem dB_nlen_21 : decode cB_nlen 21 = .ok (.iload_n 0, 1) := xdc ddB_nlen_0 14 rfl
theorem dB_nlen_22 : decode cB_nlen 22 = .ok (.iload_n 1, 1) := xdc ddB_nlen_0 15 rfl
theorem dB_nlen_23 : decode cB_nlen 23 = .ok (.invokestatic 201, 3) := xdc ddB_nlen_0 16 rfl
theorem dB_nlen_26 : decode cB_nlen 26 = .ok (.ireturn, 1) := xdc ddB_nlen_0 17 rfl
abbrev yB_nlen : MethodName := ⟨"jdk/internal/util/ArraysSupport", "newLength", "(III)I"⟩
abbrev mB_nlen : xMd := (yB_nlen, cB_nlen, 4, (some .int), { frames := 1, cells := 0, slots := 0, locals := 30 })
theorem tB_c_nlen : Cond.code yB_nlen cB_nlen 4 (some .int) ∈ gtbl := gtt_4 128 rfl rfl
theorem tB_i_J8 : Cond.initialized "jdk/internal/util/ArraysSupport" ∈ gtbl := gtt_1 25 rfl rfl
theorem tB_s_nlen : Cond.static yB_nlen ∈ gtbl := gtt_4 127 rfl rfl
theorem mkB_nlen : xMkS mB_nlen 3 := ⟨⟨tB_c_nlen, tB_i_J8, ⟨by decide, by decide⟩, by decide +kernel⟩, tB_s_nlen⟩
theorem tB_m_J8_194 : Cond.methodLink "jdk/internal/util/ArraysSupport" 194 ⟨"java/lang/Math", "max", "(II)I"⟩ ∈ gtbl := gtt_4 129 rfl rfl
theorem tB_k_J8_200 : Cond.constant "jdk/internal/util/ArraysSupport" 200 2147483639 ∈ gtbl := gtt_4 130 rfl rfl
theorem tB_m_J8_201 : Cond.methodLink "jdk/internal/util/ArraysSupport" 201 ⟨"jdk/internal/util/ArraysSupport", "hugeLength", "(II)I"⟩ ∈ gtbl := gtt_4 131 rfl rfl
abbrev cB_ncap : ByteArray := prog_15_method_10_code
theorem ddB_ncap_0 : xdec cB_ncap [(0, (.aload_n 0, 1)), (1, (.getfield 15, 3)), (4, (.arraylength, 1)), (5, (.istore_n 2, 1)), (6, (.iload_n 1, 1)), (7, (.aload_n 0, 1)), (8, (.getfield 22, 3)), (11, (.ishl, 1)), (12, (.istore_n 3, 1)), (13, (.iload_n 3, 1)), (14, (.iload_n 2, 1)), (15, (.isub, 1)), (16, (.istore 4, 2)), (18, (.iload_n 2, 1)), (19, (.iload 4, 2)), (21, (.iload_n 2, 1)), (22, (.iconst 2, 1)), (23, (.aload_n 0, 1)), (24, (.getfield 22, 3)), (27, (.ishl, 1)), (28, (.iadd, 1)), (29, (.invokestatic 114, 3)), (32, (.istore 5, 2)), (34, (.iload 5, 2)), (36, (.ldc 39, 2)), (38, (.if_icmp .ne 13, 3)), (41, (.new 120, 3)), (44, (.dup, 1)), (45, (.ldc 122, 2)), (47, (.invokespecial 124, 3)), (50, (.athrow, 1)), (51, (.iload 5, 2)), (53, (.aload_n 0, 1)), (54, (.getfield 22, 3)), (57, (.ishr, 1)), (58, (.ireturn, 1))] = true := by decide +kernel
theorem dB_ncap_0 : decode cB_ncap 0 = .ok (.aload_n 0, 1) := xdc ddB_ncap_0 0 rfl
theorem dB_ncap_1 : decode cB_ncap 1 = .ok (.getfield 15, 3) := xdc ddB_ncap_0 1 rfl
theorem dB_ncap_4 : decode cB_ncap 4 = .ok (.arraylength, 1) := xdc ddB_ncap_0 2 rfl
theorem dB_ncap_5 : decode cB_ncap 5 = .ok (.istore_n 2, 1) := xdc ddB_ncap_0 3 rfl
theorem dB_ncap_6 : decode cB_ncap 6 = .ok (.iload_n 1, 1) := xdc ddB_ncap_0 4 rfl
theorem dB_ncap_7 : decode cB_ncap 7 = .ok (.aload_n 0, 1) := xdc ddB_ncap_0 5 rfl
theorem dB_ncap_8 : decode cB_ncap 8 = .ok (.getfield 22, 3) := xdc ddB_ncap_0 6 rfl
theorem dB_ncap_11 : decode cB_ncap 11 = .ok (.ishl, 1) := xdc ddB_ncap_0 7 rfl
theorem dB_ncap_12 : decode cB_ncap 12 = .ok (.istore_n 3, 1) := xdc ddB_ncap_0 8 rfl
theorem dB_ncap_13 : decode cB_ncap 13 = .ok (.iload_n 3, 1) := xdc ddB_ncap_0 9 rfl
theorem dB_ncap_14 : decode cB_ncap 14 = .ok (.iload_n 2, 1) := xdc ddB_ncap_0 10 rfl
theorem dB_ncap_15 : decode cB_ncap 15 = .ok (.isub, 1) := xdc ddB_ncap_0 11 rfl
theorem dB_ncap_16 : decode cB_ncap 16 = .ok (.istore 4, 2) := xdc ddB_ncap_0 12 rfl
theorem dB_ncap_18 : decode cB_ncap 18 = .ok (.iload_n 2, 1) := xdc ddB_ncap_0 13 rfl
theorem dB_ncap_19 : decode cB_ncap 19 = .ok (.iload 4, 2) := xdc ddB_ncap_0 14 rfl
theorem dB_ncap_21 : decode cB_ncap 21 = .ok (.iload_n 2, 1) := xdc ddB_ncap_0 15 rfl
theorem dB_ncap_22 : decode cB_ncap 22 = .ok (.iconst 2, 1) := xdc ddB_ncap_0 16 rfl
theorem dB_ncap_23 : decode cB_ncap 23 = .ok (.aload_n 0, 1) := xdc ddB_ncap_0 17 rfl
theorem dB_ncap_24 : decode cB_ncap 24 = .ok (.getfield 22, 3) := xdc ddB_ncap_0 18 rfl
theorem dB_ncap_27 : decode cB_ncap 27 = .ok (.ishl, 1) := xdc ddB_ncap_0 19 rfl
theorem dB_ncap_28 : decode cB_ncap 28 = .ok (.iadd, 1) := xdc ddB_ncap_0 20 rfl
theorem dB_ncap_29 : decode cB_ncap 29 = .ok (.invokestatic 114, 3) := xdc ddB_ncap_0 21 rfl
theorem dB_ncap_32 : decode cB_ncap 32 = .ok (.istore 5, 2) := xdc ddB_ncap_0 22 rfl
theorem dB_ncap_34 : decode cB_ncap 34 = .ok (.iload 5, 2) := xdc ddB_ncap_0 23 rfl
theorem dB_ncap_36 : decode cB_ncap 36 = .ok (.ldc 39, 2) := xdc ddB_ncap_0 24 rfl
theorem dB_ncap_38 : decode cB_ncap 38 = .ok (.if_icmp .ne 13, 3) := xdc ddB_ncap_0 25 rfl
theorem dB_ncap_41 : decode cB_ncap 41 = .ok (.new 120, 3) := xdc ddB_ncap_0 26 rfl
theorem dB_ncap_44 : decode cB_ncap 44 = .ok (.dup, 1) := xdc ddB_ncap_0 27 rfl
theorem dB_ncap_45 : decode cB_ncap 45 = .ok (.ldc 122, 2) := xdc ddB_ncap_0 28 rfl
theorem dB_ncap_47 : decode cB_ncap 47 = .ok (.invokespecial 124, 3) := xdc ddB_ncap_0 29 rfl
theorem dB_ncap_50 : decode cB_ncap 50 = .ok (.athrow, 1) := xdc ddB_ncap_0 30 rfl
theorem dB_ncap_51 : decode cB_ncap 51 = .ok (.iload 5, 2) := xdc ddB_ncap_0 31 rfl
theorem dB_ncap_53 : decode cB_ncap 53 = .ok (.aload_n 0, 1) := xdc ddB_ncap_0 32 rfl
theorem dB_ncap_54 : decode cB_ncap 54 = .ok (.getfield 22, 3) := xdc ddB_ncap_0 33 rfl
theorem dB_ncap_57 : decode cB_ncap 57 = .ok (.ishr, 1) := xdc ddB_ncap_0 34 rfl
theorem dB_ncap_58 : decode cB_ncap 58 = .ok (.ireturn, 1) := xdc ddB_ncap_0 35 rfl
abbrev yB_ncap : MethodName := ⟨"java/lang/AbstractStringBuilder", "newCapacity", "(I)I"⟩
abbrev mB_ncap : xMd := (yB_ncap, cB_ncap, 6, (some .int), { frames := 2, cells := 0, slots := 0, locals := 53 })
theorem tB_c_ncap : Cond.code yB_ncap cB_ncap 6 (some .int) ∈ gtbl := gtt_4 125 rfl rfl
theorem tB_n_ncap : Cond.instanceMethod yB_ncap ∈ gtbl := gtt_4 124 rfl rfl
theorem tB_q_ncap : Cond.sameMethod "java/lang/AbstractStringBuilder" "java/lang/AbstractStringBuilder" "newCapacity" "(I)I" ∈ gtbl := gtt_10 123 rfl rfl
theorem tB_u_ncap : Cond.selects "java/lang/StringBuilder" yB_ncap yB_ncap ∈ gtbl := gt_ext 1 rfl
theorem tB_f_J5_15 : Cond.fieldLink "java/lang/AbstractStringBuilder" 15 "java/lang/AbstractStringBuilder" "value" "[B" ∈ gtbl := gtt_2 27 rfl rfl
theorem tB_m_J5_114 : Cond.methodLink "java/lang/AbstractStringBuilder" 114 ⟨"jdk/internal/util/ArraysSupport", "newLength", "(III)I"⟩ ∈ gtbl := gtt_4 126 rfl rfl
theorem tB_k_J5_39 : Cond.constant "java/lang/AbstractStringBuilder" 39 2147483647 ∈ gtbl := gtt_4 134 rfl rfl
abbrev cB_cpo : ByteArray := prog_33_method_121_code
theorem ddB_cpo_0 : xdec cB_cpo [(0, (.iload_n 1, 1)), (1, (.aload_n 0, 1)), (2, (.arraylength, 1)), (3, (.if_icmp .ne 11, 3)), (6, (.aload_n 0, 1)), (7, (.invokevirtual 310, 3)), (10, (.checkcast 311, 3)), (13, (.areturn, 1)), (14, (.iload_n 1, 1)), (15, (.newarray .byte, 2)), (17, (.astore_n 2, 1)), (18, (.aload_n 0, 1)), (19, (.iconst 0, 1)), (20, (.aload_n 2, 1)), (21, (.iconst 0, 1)), (22, (.aload_n 0, 1)), (23, (.arraylength, 1)), (24, (.iload_n 1, 1)), (25, (.invokestatic 304, 3)), (28, (.invokestatic 150, 3)), (31, (.aload_n 2, 1)), (32, (.areturn, 1))] = true := by decide +kernel
theorem dB_cpo_0 : decode cB_cpo 0 = .ok (.iload_n 1, 1) := xdc ddB_cpo_0 0 rfl
theorem dB_cpo_1 : decode cB_cpo 1 = .ok (.aload_n 0, 1) := xdc ddB_cpo_0 1 rfl
theorem dB_cpo_2 : decode cB_cpo 2 = .ok (.arraylength, 1) := xdc ddB_cpo_0 2 rfl
theorem dB_cpo_3 : decode cB_cpo 3 = .ok (.if_icmp .ne 11, 3) := xdc ddB_cpo_0 3 rfl
theorem dB_cpo_6 : decode cB_cpo 6 = .ok (.aload_n 0, 1) := xdc ddB_cpo_0 4 rfl
theorem dB_cpo_7 : decode cB_cpo 7 = .ok (.invokevirtual 310, 3) := xdc ddB_cpo_0 5 rfl
theorem dB_cpo_10 : decode cB_cpo 10 = .ok (.checkcast 311, 3) := xdc ddB_cpo_0 6 rfl
theorem dB_cpo_13 : decode cB_cpo 13 = .ok (.areturn, 1) := xdc ddB_cpo_0 7 rfl
theorem dB_cpo_14 : decode cB_cpo 14 = .ok (.iload_n 1, 1) := xdc ddB_cpo_0 8 rfl
theorem dB_cpo_15 : decode cB_cpo 15 = .ok (.newarray .byte, 2) := xdc ddB_cpo_0 9 rfl
theorem dB_cpo_17 : decode cB_cpo 17 = .ok (.astore_n 2, 1) := xdc ddB_cpo_0 10 rfl
theorem dB_cpo_18 : decode cB_cpo 18 = .ok (.aload_n 0, 1) := xdc ddB_cpo_0 11 rfl
theorem dB_cpo_19 : decode cB_cpo 19 = .ok (.iconst 0, 1) := xdc ddB_cpo_0 12 rfl
theorem dB_cpo_20 : decode cB_cpo 20 = .ok (.aload_n 2, 1) := xdc ddB_cpo_0 13 rfl
theorem dB_cpo_21 : decode cB_cpo 21 = .ok (.iconst 0, 1) := xdc ddB_cpo_0 14 rfl
theorem dB_cpo_22 : decode cB_cpo 22 = .ok (.aload_n 0, 1) := xdc ddB_cpo_0 15 rfl
theorem dB_cpo_23 : decode cB_cpo 23 = .ok (.arraylength, 1) := xdc ddB_cpo_0 16 rfl
theorem dB_cpo_24 : decode cB_cpo 24 = .ok (.iload_n 1, 1) := xdc ddB_cpo_0 17 rfl
theorem dB_cpo_25 : decode cB_cpo 25 = .ok (.invokestatic 304, 3) := xdc ddB_cpo_0 18 rfl
theorem dB_cpo_28 : decode cB_cpo 28 = .ok (.invokestatic 150, 3) := xdc ddB_cpo_0 19 rfl
theorem dB_cpo_31 : decode cB_cpo 31 = .ok (.aload_n 2, 1) := xdc ddB_cpo_0 20 rfl
theorem dB_cpo_32 : decode cB_cpo 32 = .ok (.areturn, 1) := xdc ddB_cpo_0 21 rfl
abbrev yB_cpo : MethodName := ⟨"java/util/Arrays", "copyOf", "([BI)[B"⟩
abbrev mB_cpo : xMd := (yB_cpo, cB_cpo, 3, (some (.array .byte)), { frames := 2, cells := 1, slots := 402, locals := 139 })
theorem tB_c_cpo : Cond.code yB_cpo cB_cpo 3 (some (.array .byte)) ∈ gtbl := gtt_4 137 rfl rfl
theorem tB_i_J7 : Cond.initialized "java/util/Arrays" ∈ gtbl := gtt_1 26 rfl rfl
theorem tB_s_cpo : Cond.static yB_cpo ∈ gtbl := gtt_4 136 rfl rfl
theorem mkB_cpo : xMkS mB_cpo 2 := ⟨⟨tB_c_cpo, tB_i_J7, ⟨by decide, by decide⟩, by decide +kernel⟩, tB_s_cpo⟩
theorem tB_m_J7_310 : Cond.methodLink "java/util/Arrays" 310 ⟨"[B", "clone", "()Ljava/lang/Object;"⟩ ∈ gtbl := gtt_4 138 rfl rfl
theorem tB_m_J7_304 : Cond.methodLink "java/util/Arrays" 304 ⟨"java/lang/Math", "min", "(II)I"⟩ ∈ gtbl := gtt_4 145 rfl rfl
theorem tB_m_J7_150 : Cond.methodLink "java/util/Arrays" 150 ⟨"java/lang/System", "arraycopy", "(Ljava/lang/Object;ILjava/lang/Object;II)V"⟩ ∈ gtbl := gtt_4 148 rfl rfl
abbrev cB_ens : ByteArray := prog_15_method_9_code
theorem ddB_ens_0 : xdec cB_ens [(0, (.aload_n 0, 1)), (1, (.getfield 15, 3)), (4, (.arraylength, 1)), (5, (.aload_n 0, 1)), (6, (.getfield 22, 3)), (9, (.ishr, 1)), (10, (.istore_n 2, 1)), (11, (.iload_n 1, 1)), (12, (.iload_n 2, 1)), (13, (.isub, 1)), (14, (.ifCond .le 24, 3)), (17, (.aload_n 0, 1)), (18, (.aload_n 0, 1)), (19, (.getfield 15, 3)), (22, (.aload_n 0, 1)), (23, (.iload_n 1, 1)), (24, (.invokevirtual 104, 3)), (27, (.aload_n 0, 1)), (28, (.getfield 22, 3)), (31, (.ishl, 1)), (32, (.invokestatic 108, 3)), (35, (.putfield 15, 3)), (38, (.return_, 1))] = true := by decide +kernel
theorem dB_ens_0 : decode cB_ens 0 = .ok (.aload_n 0, 1) := xdc ddB_ens_0 0 rfl
theorem dB_ens_1 : decode cB_ens 1 = .ok (.getfield 15, 3) := xdc ddB_ens_0 1 rfl
theorem dB_ens_4 : decode cB_ens 4 = .ok (.arraylength, 1) := xdc ddB_ens_0 2 rfl
theorem dB_ens_5 : decode cB_ens 5 = .ok (.aload_n 0, 1) := xdc ddB_ens_0 3 rfl
theorem dB_ens_6 : decode cB_ens 6 = .ok (.getfield 22, 3) := xdc ddB_ens_0 4 rfl
theorem dB_ens_9 : decode cB_ens 9 = .ok (.ishr, 1) := xdc ddB_ens_0 5 rfl
theorem dB_ens_10 : decode cB_ens 10 = .ok (.istore_n 2, 1) := xdc ddB_ens_0 6 rfl
theorem dB_ens_11 : decode cB_ens 11 = .ok (.iload_n 1, 1) := xdc ddB_ens_0 7 rfl
theorem dB_ens_12 : decode cB_ens 12 = .ok (.iload_n 2, 1) := xdc ddB_ens_0 8 rfl
theorem dB_ens_13 : decode cB_ens 13 = .ok (.isub, 1) := xdc ddB_ens_0 9 rfl
theorem dB_ens_14 : decode cB_ens 14 = .ok (.ifCond .le 24, 3) := xdc ddB_ens_0 10 rfl
theorem dB_ens_17 : decode cB_ens 17 = .ok (.aload_n 0, 1) := xdc ddB_ens_0 11 rfl
theorem dB_ens_18 : decode cB_ens 18 = .ok (.aload_n 0, 1) := xdc ddB_ens_0 12 rfl
theorem dB_ens_19 : decode cB_ens 19 = .ok (.getfield 15, 3) := xdc ddB_ens_0 13 rfl
theorem dB_ens_22 : decode cB_ens 22 = .ok (.aload_n 0, 1) := xdc ddB_ens_0 14 rfl
theorem dB_ens_23 : decode cB_ens 23 = .ok (.iload_n 1, 1) := xdc ddB_ens_0 15 rfl
theorem dB_ens_24 : decode cB_ens 24 = .ok (.invokevirtual 104, 3) := xdc ddB_ens_0 16 rfl
theorem dB_ens_27 : decode cB_ens 27 = .ok (.aload_n 0, 1) := xdc ddB_ens_0 17 rfl
theorem dB_ens_28 : decode cB_ens 28 = .ok (.getfield 22, 3) := xdc ddB_ens_0 18 rfl
theorem dB_ens_31 : decode cB_ens 31 = .ok (.ishl, 1) := xdc ddB_ens_0 19 rfl
theorem dB_ens_32 : decode cB_ens 32 = .ok (.invokestatic 108, 3) := xdc ddB_ens_0 20 rfl
theorem dB_ens_35 : decode cB_ens 35 = .ok (.putfield 15, 3) := xdc ddB_ens_0 21 rfl
theorem dB_ens_38 : decode cB_ens 38 = .ok (.return_, 1) := xdc ddB_ens_0 22 rfl
abbrev yB_ens : MethodName := ⟨"java/lang/AbstractStringBuilder", "ensureCapacityInternal", "(I)V"⟩
abbrev mB_ens : xMd := (yB_ens, cB_ens, 3, none, { frames := 3, cells := 1, slots := 402, locals := 161 })
theorem tB_c_ens : Cond.code yB_ens cB_ens 3 none ∈ gtbl := gtt_4 121 rfl rfl
theorem tB_n_ens : Cond.instanceMethod yB_ens ∈ gtbl := gtt_4 120 rfl rfl
theorem tB_q_ens : Cond.sameMethod "java/lang/AbstractStringBuilder" "java/lang/AbstractStringBuilder" "ensureCapacityInternal" "(I)V" ∈ gtbl := gtt_10 122 rfl rfl
theorem tB_u_ens : Cond.selects "java/lang/StringBuilder" yB_ens yB_ens ∈ gtbl := gt_ext 0 rfl
theorem tB_m_J5_104 : Cond.methodLink "java/lang/AbstractStringBuilder" 104 ⟨"java/lang/AbstractStringBuilder", "newCapacity", "(I)I"⟩ ∈ gtbl := gtt_4 122 rfl rfl
theorem tB_m_J5_108 : Cond.methodLink "java/lang/AbstractStringBuilder" 108 ⟨"java/util/Arrays", "copyOf", "([BI)[B"⟩ ∈ gtbl := gtt_4 135 rfl rfl
abbrev cB_apc : ByteArray := prog_15_method_31_code
theorem ddB_apc_0 : xdec cB_apc [(0, (.aload_n 0, 1)), (1, (.aload_n 0, 1)), (2, (.getfield 79, 3)), (5, (.iconst 1, 1)), (6, (.iadd, 1)), (7, (.invokevirtual 100, 3)), (10, (.aload_n 0, 1)), (11, (.invokevirtual 83, 3)), (14, (.ifCond .eq 31, 3)), (17, (.iload_n 1, 1)), (18, (.invokestatic 191, 3)), (21, (.ifCond .eq 24, 3)), (24, (.aload_n 0, 1)), (25, (.getfield 15, 3)), (28, (.aload_n 0, 1)), (29, (.dup, 1)), (30, (.getfield 79, 3)), (33, (.dup_x1, 1)), (34, (.iconst 1, 1)), (35, (.iadd, 1)), (36, (.putfield 79, 3)), (39, (.iload_n 1, 1)), (40, (.i2b, 1)), (41, (.bastore, 1)), (42, (.goto 33, 3)), (45, (.aload_n 0, 1)), (46, (.invokevirtual 83, 3)), (49, (.ifCond .eq 7, 3)), (52, (.aload_n 0, 1)), (53, (.invokevirtual 195, 3)), (56, (.aload_n 0, 1)), (57, (.getfield 15, 3)), (60, (.aload_n 0, 1)), (61, (.dup, 1)), (62, (.getfield 79, 3)), (65, (.dup_x1, 1)), (66, (.iconst 1, 1)), (67, (.iadd, 1)), (68, (.putfield 79, 3)), (71, (.iload_n 1, 1))] = true := by decide +kernel
theorem dB_apc_0 : decode cB_apc 0 = .ok (.aload_n 0, 1) := xdc ddB_apc_0 0 rfl
theorem dB_apc_1 : decode cB_apc 1 = .ok (.aload_n 0, 1) := xdc ddB_apc_0 1 rfl
theorem dB_apc_2 : decode cB_apc 2 = .ok (.getfield 79, 3) := xdc ddB_apc_0 2 rfl
theorem dB_apc_5 : decode cB_apc 5 = .ok (.iconst 1, 1) := xdc ddB_apc_0 3 rfl
theorem dB_apc_6 : decode cB_apc 6 = .ok (.iadd, 1) := xdc ddB_apc_0 4 rfl
theorem dB_apc_7 : decode cB_apc 7 = .ok (.invokevirtual 100, 3) := xdc ddB_apc_0 5 rfl
theorem dB_apc_10 : decode cB_apc 10 = .ok (.aload_n 0, 1) := xdc ddB_apc_0 6 rfl
theorem dB_apc_11 : decode cB_apc 11 = .ok (.invokevirtual 83, 3) := xdc ddB_apc_0 7 rfl
theorem dB_apc_14 : decode cB_apc 14 = .ok (.ifCond .eq 31, 3) := xdc ddB_apc_0 8 rfl
theorem dB_apc_17 : decode cB_apc 17 = .ok (.iload_n 1, 1) := xdc ddB_apc_0 9 rfl
theorem dB_apc_18 : decode cB_apc 18 = .ok (.invokestatic 191, 3) := xdc ddB_apc_0 10 rfl
theorem dB_apc_21 : decode cB_apc 21 = .ok (.ifCond .eq 24, 3) := xdc ddB_apc_0 11 rfl
theorem dB_apc_24 : decode cB_apc 24 = .ok (.aload_n 0, 1) := xdc ddB_apc_0 12 rfl
theorem dB_apc_25 : decode cB_apc 25 = .ok (.getfield 15, 3) := xdc ddB_apc_0 13 rfl
theorem dB_apc_28 : decode cB_apc 28 = .ok (.aload_n 0, 1) := xdc ddB_apc_0 14 rfl
theorem dB_apc_29 : decode cB_apc 29 = .ok (.dup, 1) := xdc ddB_apc_0 15 rfl
theorem dB_apc_30 : decode cB_apc 30 = .ok (.getfield 79, 3) := xdc ddB_apc_0 16 rfl
theorem dB_apc_33 : decode cB_apc 33 = .ok (.dup_x1, 1) := xdc ddB_apc_0 17 rfl
theorem dB_apc_34 : decode cB_apc 34 = .ok (.iconst 1, 1) := xdc ddB_apc_0 18 rfl
theorem dB_apc_35 : decode cB_apc 35 = .ok (.iadd, 1) := xdc ddB_apc_0 19 rfl
theorem dB_apc_36 : decode cB_apc 36 = .ok (.putfield 79, 3) := xdc ddB_apc_0 20 rfl
theorem dB_apc_39 : decode cB_apc 39 = .ok (.iload_n 1, 1) := xdc ddB_apc_0 21 rfl
theorem dB_apc_40 : decode cB_apc 40 = .ok (.i2b, 1) := xdc ddB_apc_0 22 rfl
theorem dB_apc_41 : decode cB_apc 41 = .ok (.bastore, 1) := xdc ddB_apc_0 23 rfl
theorem dB_apc_42 : decode cB_apc 42 = .ok (.goto 33, 3) := xdc ddB_apc_0 24 rfl
theorem dB_apc_45 : decode cB_apc 45 = .ok (.aload_n 0, 1) := xdc ddB_apc_0 25 rfl
theorem dB_apc_46 : decode cB_apc 46 = .ok (.invokevirtual 83, 3) := xdc ddB_apc_0 26 rfl
theorem dB_apc_49 : decode cB_apc 49 = .ok (.ifCond .eq 7, 3) := xdc ddB_apc_0 27 rfl
theorem dB_apc_52 : decode cB_apc 52 = .ok (.aload_n 0, 1) := xdc ddB_apc_0 28 rfl
theorem dB_apc_53 : decode cB_apc 53 = .ok (.invokevirtual 195, 3) := xdc ddB_apc_0 29 rfl
theorem dB_apc_56 : decode cB_apc 56 = .ok (.aload_n 0, 1) := xdc ddB_apc_0 30 rfl
theorem dB_apc_57 : decode cB_apc 57 = .ok (.getfield 15, 3) := xdc ddB_apc_0 31 rfl
theorem dB_apc_60 : decode cB_apc 60 = .ok (.aload_n 0, 1) := xdc ddB_apc_0 32 rfl
theorem dB_apc_61 : decode cB_apc 61 = .ok (.dup, 1) := xdc ddB_apc_0 33 rfl
theorem dB_apc_62 : decode cB_apc 62 = .ok (.getfield 79, 3) := xdc ddB_apc_0 34 rfl
theorem dB_apc_65 : decode cB_apc 65 = .ok (.dup_x1, 1) := xdc ddB_apc_0 35 rfl
theorem dB_apc_66 : decode cB_apc 66 = .ok (.iconst 1, 1) := xdc ddB_apc_0 36 rfl
theorem dB_apc_67 : decode cB_apc 67 = .ok (.iadd, 1) := xdc ddB_apc_0 37 rfl
theorem dB_apc_68 : decode cB_apc 68 = .ok (.putfield 79, 3) := xdc ddB_apc_0 38 rfl
theorem dB_apc_71 : decode cB_apc 71 = .ok (.iload_n 1, 1) := xdc ddB_apc_0 39 rfl
theorem ddB_apc_1 : xdec cB_apc [(72, (.invokestatic 197, 3)), (75, (.aload_n 0, 1)), (76, (.areturn, 1))] = true := by decide +kernel
theorem dB_apc_72 : decode cB_apc 72 = .ok (.invokestatic 197, 3) := xdc ddB_apc_1 0 rfl
theorem dB_apc_75 : decode cB_apc 75 = .ok (.aload_n 0, 1) := xdc ddB_apc_1 1 rfl
theorem dB_apc_76 : decode cB_apc 76 = .ok (.areturn, 1) := xdc ddB_apc_1 2 rfl
abbrev yB_apc : MethodName := ⟨"java/lang/AbstractStringBuilder", "append", "(C)Ljava/lang/AbstractStringBuilder;"⟩
abbrev mB_apc : xMd := (yB_apc, cB_apc, 2, (some (.object "java/lang/AbstractStringBuilder")), { frames := 4, cells := 1, slots := 402, locals := 183 })
theorem tB_c_apc : Cond.code yB_apc cB_apc 2 (some (.object "java/lang/AbstractStringBuilder")) ∈ gtbl := gtt_5 233 rfl rfl
theorem tB_n_apc : Cond.instanceMethod yB_apc ∈ gtbl := gtt_5 232 rfl rfl
theorem tB_q_apc : Cond.sameMethod "java/lang/AbstractStringBuilder" "java/lang/AbstractStringBuilder" "append" "(C)Ljava/lang/AbstractStringBuilder;" ∈ gtbl := gtt_10 129 rfl rfl
theorem tB_f_J5_79 : Cond.fieldLink "java/lang/AbstractStringBuilder" 79 "java/lang/AbstractStringBuilder" "count" "I" ∈ gtbl := gtt_2 31 rfl rfl
theorem tB_m_J5_100 : Cond.methodLink "java/lang/AbstractStringBuilder" 100 ⟨"java/lang/AbstractStringBuilder", "ensureCapacityInternal", "(I)V"⟩ ∈ gtbl := gtt_4 118 rfl rfl
theorem tB_m_J5_83 : Cond.methodLink "java/lang/AbstractStringBuilder" 83 ⟨"java/lang/AbstractStringBuilder", "isLatin1", "()Z"⟩ ∈ gtbl := gtt_4 151 rfl rfl
theorem tB_m_J5_191 : Cond.methodLink "java/lang/AbstractStringBuilder" 191 ⟨"java/lang/StringLatin1", "canEncode", "(C)Z"⟩ ∈ gtbl := gtt_5 234 rfl rfl
theorem tB_m_J5_195 : Cond.methodLink "java/lang/AbstractStringBuilder" 195 ⟨"java/lang/AbstractStringBuilder", "inflate", "()V"⟩ ∈ gtbl := gtt_4 200 rfl rfl
theorem tB_m_J5_197 : Cond.methodLink "java/lang/AbstractStringBuilder" 197 ⟨"java/lang/StringUTF16", "putCharSB", "([BII)V"⟩ ∈ gtbl := gtt_5 237 rfl rfl
abbrev cB_ssz : ByteArray := prog_23_method_13_code
theorem ddB_ssz_0 : xdec cB_ssz [(0, (.iconst 1, 1)), (1, (.istore_n 1, 1)), (2, (.iload_n 0, 1)), (3, (.ifCond .lt 8, 3)), (6, (.iconst 0, 1)), (7, (.istore_n 1, 1)), (8, (.iload_n 0, 1)), (9, (.ineg, 1)), (10, (.istore_n 0, 1)), (11, (.bipush (-10), 2)), (13, (.istore_n 2, 1)), (14, (.iconst 1, 1)), (15, (.istore_n 3, 1)), (16, (.iload_n 3, 1)), (17, (.bipush 10, 2)), (19, (.if_icmp .ge 23, 3)), (22, (.iload_n 0, 1)), (23, (.iload_n 2, 1)), (24, (.if_icmp .le 7, 3)), (27, (.iload_n 3, 1)), (28, (.iload_n 1, 1)), (29, (.iadd, 1)), (30, (.ireturn, 1)), (31, (.bipush 10, 2)), (33, (.iload_n 2, 1)), (34, (.imul, 1)), (35, (.istore_n 2, 1)), (36, (.iinc 3 1, 3)), (39, (.goto (-23), 3)), (42, (.bipush 10, 2)), (44, (.iload_n 1, 1)), (45, (.iadd, 1)), (46, (.ireturn, 1))] = true := by decide +kernel
theorem dB_ssz_0 : decode cB_ssz 0 = .ok (.iconst 1, 1) := xdc ddB_ssz_0 0 rfl
theorem dB_ssz_1 : decode cB_ssz 1 = .ok (.istore_n 1, 1) := xdc ddB_ssz_0 1 rfl
theorem dB_ssz_2 : decode cB_ssz 2 = .ok (.iload_n 0, 1) := xdc ddB_ssz_0 2 rfl
theorem dB_ssz_3 : decode cB_ssz 3 = .ok (.ifCond .lt 8, 3) := xdc ddB_ssz_0 3 rfl
theorem dB_ssz_6 : decode cB_ssz 6 = .ok (.iconst 0, 1) := xdc ddB_ssz_0 4 rfl
theorem dB_ssz_7 : decode cB_ssz 7 = .ok (.istore_n 1, 1) := xdc ddB_ssz_0 5 rfl
theorem dB_ssz_8 : decode cB_ssz 8 = .ok (.iload_n 0, 1) := xdc ddB_ssz_0 6 rfl
theorem dB_ssz_9 : decode cB_ssz 9 = .ok (.ineg, 1) := xdc ddB_ssz_0 7 rfl
theorem dB_ssz_10 : decode cB_ssz 10 = .ok (.istore_n 0, 1) := xdc ddB_ssz_0 8 rfl
theorem dB_ssz_11 : decode cB_ssz 11 = .ok (.bipush (-10), 2) := xdc ddB_ssz_0 9 rfl
theorem dB_ssz_13 : decode cB_ssz 13 = .ok (.istore_n 2, 1) := xdc ddB_ssz_0 10 rfl
theorem dB_ssz_14 : decode cB_ssz 14 = .ok (.iconst 1, 1) := xdc ddB_ssz_0 11 rfl
theorem dB_ssz_15 : decode cB_ssz 15 = .ok (.istore_n 3, 1) := xdc ddB_ssz_0 12 rfl
theorem dB_ssz_16 : decode cB_ssz 16 = .ok (.iload_n 3, 1) := xdc ddB_ssz_0 13 rfl
theorem dB_ssz_17 : decode cB_ssz 17 = .ok (.bipush 10, 2) := xdc ddB_ssz_0 14 rfl
theorem dB_ssz_19 : decode cB_ssz 19 = .ok (.if_icmp .ge 23, 3) := xdc ddB_ssz_0 15 rfl
theorem dB_ssz_22 : decode cB_ssz 22 = .ok (.iload_n 0, 1) := xdc ddB_ssz_0 16 rfl
theorem dB_ssz_23 : decode cB_ssz 23 = .ok (.iload_n 2, 1) := xdc ddB_ssz_0 17 rfl
theorem dB_ssz_24 : decode cB_ssz 24 = .ok (.if_icmp .le 7, 3) := xdc ddB_ssz_0 18 rfl
theorem dB_ssz_27 : decode cB_ssz 27 = .ok (.iload_n 3, 1) := xdc ddB_ssz_0 19 rfl
theorem dB_ssz_28 : decode cB_ssz 28 = .ok (.iload_n 1, 1) := xdc ddB_ssz_0 20 rfl
theorem dB_ssz_29 : decode cB_ssz 29 = .ok (.iadd, 1) := xdc ddB_ssz_0 21 rfl
theorem dB_ssz_30 : decode cB_ssz 30 = .ok (.ireturn, 1) := xdc ddB_ssz_0 22 rfl
theorem dB_ssz_31 : decode cB_ssz 31 = .ok (.bipush 10, 2) := xdc ddB_ssz_0 23 rfl
theorem dB_ssz_33 : decode cB_ssz 33 = .ok (.iload_n 2, 1) := xdc ddB_ssz_0 24 rfl
theorem dB_ssz_34 : decode cB_ssz 34 = .ok (.imul, 1) := xdc ddB_ssz_0 25 rfl
theorem dB_ssz_35 : decode cB_ssz 35 = .ok (.istore_n 2, 1) := xdc ddB_ssz_0 26 rfl
theorem dB_ssz_36 : decode cB_ssz 36 = .ok (.iinc 3 1, 3) := xdc ddB_ssz_0 27 rfl
theorem dB_ssz_39 : decode cB_ssz 39 = .ok (.goto (-23), 3) := xdc ddB_ssz_0 28 rfl
theorem dB_ssz_42 : decode cB_ssz 42 = .ok (.bipush 10, 2) := xdc ddB_ssz_0 29 rfl
theorem dB_ssz_44 : decode cB_ssz 44 = .ok (.iload_n 1, 1) := xdc ddB_ssz_0 30 rfl
theorem dB_ssz_45 : decode cB_ssz 45 = .ok (.iadd, 1) := xdc ddB_ssz_0 31 rfl
theorem dB_ssz_46 : decode cB_ssz 46 = .ok (.ireturn, 1) := xdc ddB_ssz_0 32 rfl
abbrev yB_ssz : MethodName := ⟨"java/lang/Integer", "stringSize", "(I)I"⟩
abbrev mB_ssz : xMd := (yB_ssz, cB_ssz, 4, (some .int), { frames := 0, cells := 0, slots := 0, locals := 30 })
theorem tB_c_ssz : Cond.code yB_ssz cB_ssz 4 (some .int) ∈ gtbl := gtt_4 234 rfl rfl
theorem tB_i_J6 : Cond.initialized "java/lang/Integer" ∈ gtbl := gtt_1 30 rfl rfl
theorem tB_s_ssz : Cond.static yB_ssz ∈ gtbl := gtt_4 233 rfl rfl
theorem mkB_ssz : xMkS mB_ssz 1 := ⟨⟨tB_c_ssz, tB_i_J6, ⟨by decide, by decide⟩, by decide +kernel⟩, tB_s_ssz⟩
abbrev cB_gch : ByteArray := prog_23_method_12_code
theorem ddB_gch_0 : xdec cB_gch [(0, (.iload_n 1, 1)), (1, (.istore 5, 2)), (3, (.iload_n 0, 1)), (4, (.ifCond .ge 7, 3)), (7, (.iconst 1, 1)), (8, (.goto 4, 3)), (11, (.iconst 0, 1)), (12, (.istore 6, 2)), (14, (.iload 6, 2)), (16, (.ifCond .ne 6, 3)), (19, (.iload_n 0, 1)), (20, (.ineg, 1)), (21, (.istore_n 0, 1)), (22, (.iload_n 0, 1)), (23, (.bipush (-100), 2)), (25, (.if_icmp .gt 47, 3)), (28, (.iload_n 0, 1)), (29, (.bipush 100, 2)), (31, (.idiv, 1)), (32, (.istore_n 3, 1)), (33, (.iload_n 3, 1)), (34, (.bipush 100, 2)), (36, (.imul, 1)), (37, (.iload_n 0, 1)), (38, (.isub, 1)), (39, (.istore 4, 2)), (41, (.iload_n 3, 1)), (42, (.istore_n 0, 1)), (43, (.aload_n 2, 1)), (44, (.iinc 5 (-1), 3)), (47, (.iload 5, 2)), (49, (.getstatic 83, 3)), (52, (.iload 4, 2)), (54, (.baload, 1)), (55, (.bastore, 1)), (56, (.aload_n 2, 1)), (57, (.iinc 5 (-1), 3)), (60, (.iload 5, 2)), (62, (.getstatic 87, 3)), (65, (.iload 4, 2))] = true := by decide +kernel
theorem dB_gch_0 : decode cB_gch 0 = .ok (.iload_n 1, 1) := xdc ddB_gch_0 0 rfl
theorem dB_gch_1 : decode cB_gch 1 = .ok (.istore 5, 2) := xdc ddB_gch_0 1 rfl
theorem dB_gch_3 : decode cB_gch 3 = .ok (.iload_n 0, 1) := xdc ddB_gch_0 2 rfl
theorem dB_gch_4 : decode cB_gch 4 = .ok (.ifCond .ge 7, 3) := xdc ddB_gch_0 3 rfl
theorem dB_gch_7 : decode cB_gch 7 = .ok (.iconst 1, 1) := xdc ddB_gch_0 4 rfl
theorem dB_gch_8 : decode cB_gch 8 = .ok (.goto 4, 3) := xdc ddB_gch_0 5 rfl
theorem dB_gch_11 : decode cB_gch 11 = .ok (.iconst 0, 1) := xdc ddB_gch_0 6 rfl
theorem dB_gch_12 : decode cB_gch 12 = .ok (.istore 6, 2) := xdc ddB_gch_0 7 rfl
theorem dB_gch_14 : decode cB_gch 14 = .ok (.iload 6, 2) := xdc ddB_gch_0 8 rfl
theorem dB_gch_16 : decode cB_gch 16 = .ok (.ifCond .ne 6, 3) := xdc ddB_gch_0 9 rfl
theorem dB_gch_19 : decode cB_gch 19 = .ok (.iload_n 0, 1) := xdc ddB_gch_0 10 rfl
theorem dB_gch_20 : decode cB_gch 20 = .ok (.ineg, 1) := xdc ddB_gch_0 11 rfl
theorem dB_gch_21 : decode cB_gch 21 = .ok (.istore_n 0, 1) := xdc ddB_gch_0 12 rfl
theorem dB_gch_22 : decode cB_gch 22 = .ok (.iload_n 0, 1) := xdc ddB_gch_0 13 rfl
theorem dB_gch_23 : decode cB_gch 23 = .ok (.bipush (-100), 2) := xdc ddB_gch_0 14 rfl
theorem dB_gch_25 : decode cB_gch 25 = .ok (.if_icmp .gt 47, 3) := xdc ddB_gch_0 15 rfl
theorem dB_gch_28 : decode cB_gch 28 = .ok (.iload_n 0, 1) := xdc ddB_gch_0 16 rfl
theorem dB_gch_29 : decode cB_gch 29 = .ok (.bipush 100, 2) := xdc ddB_gch_0 17 rfl
theorem dB_gch_31 : decode cB_gch 31 = .ok (.idiv, 1) := xdc ddB_gch_0 18 rfl
theorem dB_gch_32 : decode cB_gch 32 = .ok (.istore_n 3, 1) := xdc ddB_gch_0 19 rfl
theorem dB_gch_33 : decode cB_gch 33 = .ok (.iload_n 3, 1) := xdc ddB_gch_0 20 rfl
theorem dB_gch_34 : decode cB_gch 34 = .ok (.bipush 100, 2) := xdc ddB_gch_0 21 rfl
theorem dB_gch_36 : decode cB_gch 36 = .ok (.imul, 1) := xdc ddB_gch_0 22 rfl
theorem dB_gch_37 : decode cB_gch 37 = .ok (.iload_n 0, 1) := xdc ddB_gch_0 23 rfl
theorem dB_gch_38 : decode cB_gch 38 = .ok (.isub, 1) := xdc ddB_gch_0 24 rfl
theorem dB_gch_39 : decode cB_gch 39 = .ok (.istore 4, 2) := xdc ddB_gch_0 25 rfl
theorem dB_gch_41 : decode cB_gch 41 = .ok (.iload_n 3, 1) := xdc ddB_gch_0 26 rfl
theorem dB_gch_42 : decode cB_gch 42 = .ok (.istore_n 0, 1) := xdc ddB_gch_0 27 rfl
theorem dB_gch_43 : decode cB_gch 43 = .ok (.aload_n 2, 1) := xdc ddB_gch_0 28 rfl
theorem dB_gch_44 : decode cB_gch 44 = .ok (.iinc 5 (-1), 3) := xdc ddB_gch_0 29 rfl
theorem dB_gch_47 : decode cB_gch 47 = .ok (.iload 5, 2) := xdc ddB_gch_0 30 rfl
theorem dB_gch_49 : decode cB_gch 49 = .ok (.getstatic 83, 3) := xdc ddB_gch_0 31 rfl
theorem dB_gch_52 : decode cB_gch 52 = .ok (.iload 4, 2) := xdc ddB_gch_0 32 rfl
theorem dB_gch_54 : decode cB_gch 54 = .ok (.baload, 1) := xdc ddB_gch_0 33 rfl
theorem dB_gch_55 : decode cB_gch 55 = .ok (.bastore, 1) := xdc ddB_gch_0 34 rfl
theorem dB_gch_56 : decode cB_gch 56 = .ok (.aload_n 2, 1) := xdc ddB_gch_0 35 rfl
theorem dB_gch_57 : decode cB_gch 57 = .ok (.iinc 5 (-1), 3) := xdc ddB_gch_0 36 rfl
theorem dB_gch_60 : decode cB_gch 60 = .ok (.iload 5, 2) := xdc ddB_gch_0 37 rfl
theorem dB_gch_62 : decode cB_gch 62 = .ok (.getstatic 87, 3) := xdc ddB_gch_0 38 rfl
theorem dB_gch_65 : decode cB_gch 65 = .ok (.iload 4, 2) := xdc ddB_gch_0 39 rfl
theorem ddB_gch_1 : xdec cB_gch [(67, (.baload, 1)), (68, (.bastore, 1)), (69, (.goto (-47), 3)), (72, (.aload_n 2, 1)), (73, (.iinc 5 (-1), 3)), (76, (.iload 5, 2)), (78, (.getstatic 83, 3)), (81, (.iload_n 0, 1)), (82, (.ineg, 1)), (83, (.baload, 1)), (84, (.bastore, 1)), (85, (.iload_n 0, 1)), (86, (.bipush (-9), 2)), (88, (.if_icmp .ge 16, 3)), (91, (.aload_n 2, 1)), (92, (.iinc 5 (-1), 3)), (95, (.iload 5, 2)), (97, (.getstatic 87, 3)), (100, (.iload_n 0, 1)), (101, (.ineg, 1)), (102, (.baload, 1)), (103, (.bastore, 1)), (104, (.iload 6, 2)), (106, (.ifCond .eq 12, 3)), (109, (.aload_n 2, 1)), (110, (.iinc 5 (-1), 3)), (113, (.iload 5, 2)), (115, (.bipush 45, 2)), (117, (.bastore, 1)), (118, (.iload 5, 2)), (120, (.ireturn, 1))] = true := by decide +kernel
theorem dB_gch_67 : decode cB_gch 67 = .ok (.baload, 1) := xdc ddB_gch_1 0 rfl
theorem dB_gch_68 : decode cB_gch 68 = .ok (.bastore, 1) := xdc ddB_gch_1 1 rfl
theorem dB_gch_69 : decode cB_gch 69 = .ok (.goto (-47), 3) := xdc ddB_gch_1 2 rfl
theorem dB_gch_72 : decode cB_gch 72 = .ok (.aload_n 2, 1) := xdc ddB_gch_1 3 rfl
theorem dB_gch_73 : decode cB_gch 73 = .ok (.iinc 5 (-1), 3) := xdc ddB_gch_1 4 rfl
theorem dB_gch_76 : decode cB_gch 76 = .ok (.iload 5, 2) := xdc ddB_gch_1 5 rfl
theorem dB_gch_78 : decode cB_gch 78 = .ok (.getstatic 83, 3) := xdc ddB_gch_1 6 rfl
theorem dB_gch_81 : decode cB_gch 81 = .ok (.iload_n 0, 1) := xdc ddB_gch_1 7 rfl
theorem dB_gch_82 : decode cB_gch 82 = .ok (.ineg, 1) := xdc ddB_gch_1 8 rfl
theorem dB_gch_83 : decode cB_gch 83 = .ok (.baload, 1) := xdc ddB_gch_1 9 rfl
theorem dB_gch_84 : decode cB_gch 84 = .ok (.bastore, 1) := xdc ddB_gch_1 10 rfl
theorem dB_gch_85 : decode cB_gch 85 = .ok (.iload_n 0, 1) := xdc ddB_gch_1 11 rfl
theorem dB_gch_86 : decode cB_gch 86 = .ok (.bipush (-9), 2) := xdc ddB_gch_1 12 rfl
theorem dB_gch_88 : decode cB_gch 88 = .ok (.if_icmp .ge 16, 3) := xdc ddB_gch_1 13 rfl
theorem dB_gch_91 : decode cB_gch 91 = .ok (.aload_n 2, 1) := xdc ddB_gch_1 14 rfl
theorem dB_gch_92 : decode cB_gch 92 = .ok (.iinc 5 (-1), 3) := xdc ddB_gch_1 15 rfl
theorem dB_gch_95 : decode cB_gch 95 = .ok (.iload 5, 2) := xdc ddB_gch_1 16 rfl
theorem dB_gch_97 : decode cB_gch 97 = .ok (.getstatic 87, 3) := xdc ddB_gch_1 17 rfl
theorem dB_gch_100 : decode cB_gch 100 = .ok (.iload_n 0, 1) := xdc ddB_gch_1 18 rfl
theorem dB_gch_101 : decode cB_gch 101 = .ok (.ineg, 1) := xdc ddB_gch_1 19 rfl
theorem dB_gch_102 : decode cB_gch 102 = .ok (.baload, 1) := xdc ddB_gch_1 20 rfl
theorem dB_gch_103 : decode cB_gch 103 = .ok (.bastore, 1) := xdc ddB_gch_1 21 rfl
theorem dB_gch_104 : decode cB_gch 104 = .ok (.iload 6, 2) := xdc ddB_gch_1 22 rfl
theorem dB_gch_106 : decode cB_gch 106 = .ok (.ifCond .eq 12, 3) := xdc ddB_gch_1 23 rfl
theorem dB_gch_109 : decode cB_gch 109 = .ok (.aload_n 2, 1) := xdc ddB_gch_1 24 rfl
theorem dB_gch_110 : decode cB_gch 110 = .ok (.iinc 5 (-1), 3) := xdc ddB_gch_1 25 rfl
theorem dB_gch_113 : decode cB_gch 113 = .ok (.iload 5, 2) := xdc ddB_gch_1 26 rfl
theorem dB_gch_115 : decode cB_gch 115 = .ok (.bipush 45, 2) := xdc ddB_gch_1 27 rfl
theorem dB_gch_117 : decode cB_gch 117 = .ok (.bastore, 1) := xdc ddB_gch_1 28 rfl
theorem dB_gch_118 : decode cB_gch 118 = .ok (.iload 5, 2) := xdc ddB_gch_1 29 rfl
theorem dB_gch_120 : decode cB_gch 120 = .ok (.ireturn, 1) := xdc ddB_gch_1 30 rfl
abbrev yB_gch : MethodName := ⟨"java/lang/Integer", "getChars", "(II[B)I"⟩
abbrev mB_gch : xMd := (yB_gch, cB_gch, 7, (some .int), { frames := 0, cells := 0, slots := 0, locals := 30 })
theorem tB_c_gch : Cond.code yB_gch cB_gch 7 (some .int) ∈ gtbl := gtt_4 237 rfl rfl
theorem tB_s_gch : Cond.static yB_gch ∈ gtbl := gtt_4 236 rfl rfl
theorem mkB_gch : xMkS mB_gch 3 := ⟨⟨tB_c_gch, tB_i_J6, ⟨by decide, by decide⟩, by decide +kernel⟩, tB_s_gch⟩
theorem tB_f_J6_83 : Cond.fieldLink "java/lang/Integer" 83 "java/lang/Integer" "DigitOnes" "[B" ∈ gtbl := gtt_4 238 rfl rfl
theorem tB_f_J6_87 : Cond.fieldLink "java/lang/Integer" 87 "java/lang/Integer" "DigitTens" "[B" ∈ gtbl := gtt_5 0 rfl rfl
abbrev cB_api : ByteArray := prog_15_method_32_code
theorem ddB_api_0 : xdec cB_api [(0, (.aload_n 0, 1)), (1, (.getfield 79, 3)), (4, (.istore_n 2, 1)), (5, (.iload_n 2, 1)), (6, (.iload_n 1, 1)), (7, (.invokestatic 245, 3)), (10, (.iadd, 1)), (11, (.istore_n 3, 1)), (12, (.aload_n 0, 1)), (13, (.iload_n 3, 1)), (14, (.invokevirtual 100, 3)), (17, (.aload_n 0, 1)), (18, (.invokevirtual 83, 3)), (21, (.ifCond .eq 16, 3)), (24, (.iload_n 1, 1)), (25, (.iload_n 3, 1)), (26, (.aload_n 0, 1)), (27, (.getfield 15, 3)), (30, (.invokestatic 248, 3)), (33, (.pop, 1)), (34, (.goto 14, 3)), (37, (.iload_n 1, 1)), (38, (.iload_n 2, 1)), (39, (.iload_n 3, 1)), (40, (.aload_n 0, 1)), (41, (.getfield 15, 3)), (44, (.invokestatic 251, 3)), (47, (.pop, 1)), (48, (.aload_n 0, 1)), (49, (.iload_n 3, 1)), (50, (.putfield 79, 3)), (53, (.aload_n 0, 1)), (54, (.areturn, 1))] = true := by decide +kernel
theorem dB_api_0 : decode cB_api 0 = .ok (.aload_n 0, 1) := xdc ddB_api_0 0 rfl
theorem dB_api_1 : decode cB_api 1 = .ok (.getfield 79, 3) := xdc ddB_api_0 1 rfl
theorem dB_api_4 : decode cB_api 4 = .ok (.istore_n 2, 1) := xdc ddB_api_0 2 rfl
theorem dB_api_5 : decode cB_api 5 = .ok (.iload_n 2, 1) := xdc ddB_api_0 3 rfl
theorem dB_api_6 : decode cB_api 6 = .ok (.iload_n 1, 1) := xdc ddB_api_0 4 rfl
theorem dB_api_7 : decode cB_api 7 = .ok (.invokestatic 245, 3) := xdc ddB_api_0 5 rfl
theorem dB_api_10 : decode cB_api 10 = .ok (.iadd, 1) := xdc ddB_api_0 6 rfl
theorem dB_api_11 : decode cB_api 11 = .ok (.istore_n 3, 1) := xdc ddB_api_0 7 rfl
theorem dB_api_12 : decode cB_api 12 = .ok (.aload_n 0, 1) := xdc ddB_api_0 8 rfl
theorem dB_api_13 : decode cB_api 13 = .ok (.iload_n 3, 1) := xdc ddB_api_0 9 rfl
theorem dB_api_14 : decode cB_api 14 = .ok (.invokevirtual 100, 3) := xdc ddB_api_0 10 rfl
theorem dB_api_17 : decode cB_api 17 = .ok (.aload_n 0, 1) := xdc ddB_api_0 11 rfl
theorem dB_api_18 : decode cB_api 18 = .ok (.invokevirtual 83, 3) := xdc ddB_api_0 12 rfl
theorem dB_api_21 : decode cB_api 21 = .ok (.ifCond .eq 16, 3) := xdc ddB_api_0 13 rfl
theorem dB_api_24 : decode cB_api 24 = .ok (.iload_n 1, 1) := xdc ddB_api_0 14 rfl
theorem dB_api_25 : decode cB_api 25 = .ok (.iload_n 3, 1) := xdc ddB_api_0 15 rfl
theorem dB_api_26 : decode cB_api 26 = .ok (.aload_n 0, 1) := xdc ddB_api_0 16 rfl
theorem dB_api_27 : decode cB_api 27 = .ok (.getfield 15, 3) := xdc ddB_api_0 17 rfl
theorem dB_api_30 : decode cB_api 30 = .ok (.invokestatic 248, 3) := xdc ddB_api_0 18 rfl
theorem dB_api_33 : decode cB_api 33 = .ok (.pop, 1) := xdc ddB_api_0 19 rfl
theorem dB_api_34 : decode cB_api 34 = .ok (.goto 14, 3) := xdc ddB_api_0 20 rfl
theorem dB_api_37 : decode cB_api 37 = .ok (.iload_n 1, 1) := xdc ddB_api_0 21 rfl
theorem dB_api_38 : decode cB_api 38 = .ok (.iload_n 2, 1) := xdc ddB_api_0 22 rfl
theorem dB_api_39 : decode cB_api 39 = .ok (.iload_n 3, 1) := xdc ddB_api_0 23 rfl
theorem dB_api_40 : decode cB_api 40 = .ok (.aload_n 0, 1) := xdc ddB_api_0 24 rfl
theorem dB_api_41 : decode cB_api 41 = .ok (.getfield 15, 3) := xdc ddB_api_0 25 rfl
theorem dB_api_44 : decode cB_api 44 = .ok (.invokestatic 251, 3) := xdc ddB_api_0 26 rfl
theorem dB_api_47 : decode cB_api 47 = .ok (.pop, 1) := xdc ddB_api_0 27 rfl
theorem dB_api_48 : decode cB_api 48 = .ok (.aload_n 0, 1) := xdc ddB_api_0 28 rfl
theorem dB_api_49 : decode cB_api 49 = .ok (.iload_n 3, 1) := xdc ddB_api_0 29 rfl
theorem dB_api_50 : decode cB_api 50 = .ok (.putfield 79, 3) := xdc ddB_api_0 30 rfl
theorem dB_api_53 : decode cB_api 53 = .ok (.aload_n 0, 1) := xdc ddB_api_0 31 rfl
theorem dB_api_54 : decode cB_api 54 = .ok (.areturn, 1) := xdc ddB_api_0 32 rfl
abbrev yB_api : MethodName := ⟨"java/lang/AbstractStringBuilder", "append", "(I)Ljava/lang/AbstractStringBuilder;"⟩
abbrev mB_api : xMd := (yB_api, cB_api, 4, (some (.object "java/lang/AbstractStringBuilder")), { frames := 4, cells := 1, slots := 402, locals := 183 })
theorem tB_c_api : Cond.code yB_api cB_api 4 (some (.object "java/lang/AbstractStringBuilder")) ∈ gtbl := gtt_4 231 rfl rfl
theorem tB_n_api : Cond.instanceMethod yB_api ∈ gtbl := gtt_4 230 rfl rfl
theorem tB_q_api : Cond.sameMethod "java/lang/AbstractStringBuilder" "java/lang/AbstractStringBuilder" "append" "(I)Ljava/lang/AbstractStringBuilder;" ∈ gtbl := gtt_10 127 rfl rfl
theorem tB_m_J5_245 : Cond.methodLink "java/lang/AbstractStringBuilder" 245 ⟨"java/lang/Integer", "stringSize", "(I)I"⟩ ∈ gtbl := gtt_4 232 rfl rfl
theorem tB_m_J5_248 : Cond.methodLink "java/lang/AbstractStringBuilder" 248 ⟨"java/lang/Integer", "getChars", "(II[B)I"⟩ ∈ gtbl := gtt_4 235 rfl rfl
theorem tB_m_J5_251 : Cond.methodLink "java/lang/AbstractStringBuilder" 251 ⟨"java/lang/StringUTF16", "getChars", "(III[B)I"⟩ ∈ gtbl := gtt_5 2 rfl rfl
abbrev cB_cod : ByteArray := prog_26_method_152_code
theorem ddB_cod_0 : xdec cB_cod [(0, (.getstatic 38, 3)), (3, (.ifCond .eq 10, 3)), (6, (.aload_n 0, 1)), (7, (.getfield 15, 3)), (10, (.goto 4, 3)), (13, (.iconst 1, 1)), (14, (.ireturn, 1))] = true := by decide +kernel
theorem dB_cod_0 : decode cB_cod 0 = .ok (.getstatic 38, 3) := xdc ddB_cod_0 0 rfl
theorem dB_cod_3 : decode cB_cod 3 = .ok (.ifCond .eq 10, 3) := xdc ddB_cod_0 1 rfl
theorem dB_cod_6 : decode cB_cod 6 = .ok (.aload_n 0, 1) := xdc ddB_cod_0 2 rfl
theorem dB_cod_7 : decode cB_cod 7 = .ok (.getfield 15, 3) := xdc ddB_cod_0 3 rfl
theorem dB_cod_10 : decode cB_cod 10 = .ok (.goto 4, 3) := xdc ddB_cod_0 4 rfl
theorem dB_cod_13 : decode cB_cod 13 = .ok (.iconst 1, 1) := xdc ddB_cod_0 5 rfl
theorem dB_cod_14 : decode cB_cod 14 = .ok (.ireturn, 1) := xdc ddB_cod_0 6 rfl
abbrev yB_cod : MethodName := ⟨"java/lang/String", "coder", "()B"⟩
abbrev mB_cod : xMd := (yB_cod, cB_cod, 1, (some .byte), { frames := 0, cells := 0, slots := 0, locals := 30 })
theorem tB_c_cod : Cond.code yB_cod cB_cod 1 (some .byte) ∈ gtbl := gtt_4 189 rfl rfl
theorem tB_i_J0 : Cond.initialized "java/lang/String" ∈ gtbl := gtt_1 11 rfl rfl
theorem tB_n_cod : Cond.instanceMethod yB_cod ∈ gtbl := gtt_4 187 rfl rfl
theorem tB_e_cod : Cond.selects "java/lang/String" yB_cod yB_cod ∈ gtbl := gtt_4 188 rfl rfl
theorem mkB_cod : xMkV mB_cod 0 := ⟨⟨tB_c_cod, tB_i_J0, ⟨by decide, by decide⟩, by decide +kernel⟩, tB_n_cod, tB_e_cod⟩
theorem tB_f_J0_38 : Cond.fieldLink "java/lang/String" 38 "java/lang/String" "COMPACT_STRINGS" "Z" ∈ gtbl := gtt_4 190 rfl rfl
theorem tB_f_J0_15 : Cond.fieldLink "java/lang/String" 15 "java/lang/String" "coder" "B" ∈ gtbl := gtt_5 134 rfl rfl
abbrev cB_sle : ByteArray := prog_26_method_54_code
theorem ddB_sle_0 : xdec cB_sle [(0, (.aload_n 0, 1)), (1, (.getfield 9, 3)), (4, (.arraylength, 1)), (5, (.aload_n 0, 1)), (6, (.invokevirtual 335, 3)), (9, (.ishr, 1)), (10, (.ireturn, 1))] = true := by decide +kernel
theorem dB_sle_0 : decode cB_sle 0 = .ok (.aload_n 0, 1) := xdc ddB_sle_0 0 rfl
theorem dB_sle_1 : decode cB_sle 1 = .ok (.getfield 9, 3) := xdc ddB_sle_0 1 rfl
theorem dB_sle_4 : decode cB_sle 4 = .ok (.arraylength, 1) := xdc ddB_sle_0 2 rfl
theorem dB_sle_5 : decode cB_sle 5 = .ok (.aload_n 0, 1) := xdc ddB_sle_0 3 rfl
theorem dB_sle_6 : decode cB_sle 6 = .ok (.invokevirtual 335, 3) := xdc ddB_sle_0 4 rfl
theorem dB_sle_9 : decode cB_sle 9 = .ok (.ishr, 1) := xdc ddB_sle_0 5 rfl
theorem dB_sle_10 : decode cB_sle 10 = .ok (.ireturn, 1) := xdc ddB_sle_0 6 rfl
abbrev yB_sle : MethodName := ⟨"java/lang/String", "length", "()I"⟩
abbrev mB_sle : xMd := (yB_sle, cB_sle, 1, (some .int), { frames := 1, cells := 0, slots := 0, locals := 50 })
theorem tB_c_sle : Cond.code yB_sle cB_sle 1 (some .int) ∈ gtbl := gtt_4 185 rfl rfl
theorem tB_n_sle : Cond.instanceMethod yB_sle ∈ gtbl := gtt_4 183 rfl rfl
theorem tB_e_sle : Cond.selects "java/lang/String" yB_sle yB_sle ∈ gtbl := gtt_4 184 rfl rfl
theorem mkB_sle : xMkV mB_sle 0 := ⟨⟨tB_c_sle, tB_i_J0, ⟨by decide, by decide⟩, by decide +kernel⟩, tB_n_sle, tB_e_sle⟩
theorem tB_f_J0_9 : Cond.fieldLink "java/lang/String" 9 "java/lang/String" "value" "[B" ∈ gtbl := gtt_5 133 rfl rfl
theorem tB_m_J0_335 : Cond.methodLink "java/lang/String" 335 ⟨"java/lang/String", "coder", "()B"⟩ ∈ gtbl := gtt_4 186 rfl rfl
abbrev cB_sil : ByteArray := prog_26_method_154_code
theorem ddB_sil_0 : xdec cB_sil [(0, (.getstatic 38, 3)), (3, (.ifCond .eq 14, 3)), (6, (.aload_n 0, 1)), (7, (.getfield 15, 3)), (10, (.ifCond .ne 7, 3)), (13, (.iconst 1, 1)), (14, (.goto 4, 3)), (17, (.iconst 0, 1)), (18, (.ireturn, 1))] = true := by decide +kernel
theorem dB_sil_0 : decode cB_sil 0 = .ok (.getstatic 38, 3) := xdc ddB_sil_0 0 rfl
theorem dB_sil_3 : decode cB_sil 3 = .ok (.ifCond .eq 14, 3) := xdc ddB_sil_0 1 rfl
theorem dB_sil_6 : decode cB_sil 6 = .ok (.aload_n 0, 1) := xdc ddB_sil_0 2 rfl
theorem dB_sil_7 : decode cB_sil 7 = .ok (.getfield 15, 3) := xdc ddB_sil_0 3 rfl
theorem dB_sil_10 : decode cB_sil 10 = .ok (.ifCond .ne 7, 3) := xdc ddB_sil_0 4 rfl
theorem dB_sil_13 : decode cB_sil 13 = .ok (.iconst 1, 1) := xdc ddB_sil_0 5 rfl
theorem dB_sil_14 : decode cB_sil 14 = .ok (.goto 4, 3) := xdc ddB_sil_0 6 rfl
theorem dB_sil_17 : decode cB_sil 17 = .ok (.iconst 0, 1) := xdc ddB_sil_0 7 rfl
theorem dB_sil_18 : decode cB_sil 18 = .ok (.ireturn, 1) := xdc ddB_sil_0 8 rfl
abbrev yB_sil : MethodName := ⟨"java/lang/String", "isLatin1", "()Z"⟩
abbrev mB_sil : xMd := (yB_sil, cB_sil, 1, (some .boolean), { frames := 0, cells := 0, slots := 0, locals := 30 })
theorem tB_c_sil : Cond.code yB_sil cB_sil 1 (some .boolean) ∈ gtbl := gtt_5 210 rfl rfl
theorem tB_n_sil : Cond.instanceMethod yB_sil ∈ gtbl := gtt_5 208 rfl rfl
theorem tB_e_sil : Cond.selects "java/lang/String" yB_sil yB_sil ∈ gtbl := gtt_5 209 rfl rfl
theorem mkB_sil : xMkV mB_sil 0 := ⟨⟨tB_c_sil, tB_i_J0, ⟨by decide, by decide⟩, by decide +kernel⟩, tB_n_sil, tB_e_sil⟩
abbrev cB_inf : ByteArray := prog_15_method_71_code
theorem ddB_inf_0 : xdec cB_inf [(0, (.getstatic 18, 3)), (3, (.ifCond .eq 18, 3)), (6, (.aload_n 0, 1)), (7, (.getfield 22, 3)), (10, (.aload_n 1, 1)), (11, (.invokevirtual 40, 3)), (14, (.if_icmp .eq 7, 3)), (17, (.aload_n 0, 1)), (18, (.invokevirtual 195, 3)), (21, (.return_, 1))] = true := by decide +kernel
theorem dB_inf_0 : decode cB_inf 0 = .ok (.getstatic 18, 3) := xdc ddB_inf_0 0 rfl
theorem dB_inf_3 : decode cB_inf 3 = .ok (.ifCond .eq 18, 3) := xdc ddB_inf_0 1 rfl
theorem dB_inf_6 : decode cB_inf 6 = .ok (.aload_n 0, 1) := xdc ddB_inf_0 2 rfl
theorem dB_inf_7 : decode cB_inf 7 = .ok (.getfield 22, 3) := xdc ddB_inf_0 3 rfl
theorem dB_inf_10 : decode cB_inf 10 = .ok (.aload_n 1, 1) := xdc ddB_inf_0 4 rfl
theorem dB_inf_11 : decode cB_inf 11 = .ok (.invokevirtual 40, 3) := xdc ddB_inf_0 5 rfl
theorem dB_inf_14 : decode cB_inf 14 = .ok (.if_icmp .eq 7, 3) := xdc ddB_inf_0 6 rfl
theorem dB_inf_17 : decode cB_inf 17 = .ok (.aload_n 0, 1) := xdc ddB_inf_0 7 rfl
theorem dB_inf_18 : decode cB_inf 18 = .ok (.invokevirtual 195, 3) := xdc ddB_inf_0 8 rfl
theorem dB_inf_21 : decode cB_inf 21 = .ok (.return_, 1) := xdc ddB_inf_0 9 rfl
abbrev yB_inf : MethodName := ⟨"java/lang/AbstractStringBuilder", "inflateIfNeededFor", "(Ljava/lang/String;)V"⟩
abbrev mB_inf : xMd := (yB_inf, cB_inf, 2, none, { frames := 1, cells := 0, slots := 0, locals := 50 })
theorem tB_c_inf : Cond.code yB_inf cB_inf 2 none ∈ gtbl := gtt_4 198 rfl rfl
theorem tB_n_inf : Cond.instanceMethod yB_inf ∈ gtbl := gtt_4 197 rfl rfl
theorem tB_q_inf : Cond.sameMethod "java/lang/AbstractStringBuilder" "java/lang/AbstractStringBuilder" "inflateIfNeededFor" "(Ljava/lang/String;)V" ∈ gtbl := gtt_10 125 rfl rfl
theorem tB_u_inf : Cond.selects "java/lang/StringBuilder" yB_inf yB_inf ∈ gtbl := gt_ext 3 rfl
theorem tB_m_J5_40 : Cond.methodLink "java/lang/AbstractStringBuilder" 40 ⟨"java/lang/String", "coder", "()B"⟩ ∈ gtbl := gtt_4 199 rfl rfl
abbrev cB_gby : ByteArray := prog_26_method_147_code
theorem ddB_gby_0 : xdec cB_gby [(0, (.aload_n 0, 1)), (1, (.invokevirtual 335, 3)), (4, (.iload_n 3, 1)), (5, (.if_icmp .ne 23, 3)), (8, (.aload_n 0, 1)), (9, (.getfield 9, 3)), (12, (.iconst 0, 1)), (13, (.aload_n 1, 1)), (14, (.iload_n 2, 1)), (15, (.iload_n 3, 1)), (16, (.ishl, 1)), (17, (.aload_n 0, 1)), (18, (.getfield 9, 3)), (21, (.arraylength, 1)), (22, (.invokestatic 212, 3)), (25, (.goto 18, 3)), (28, (.aload_n 0, 1)), (29, (.getfield 9, 3)), (32, (.iconst 0, 1)), (33, (.aload_n 1, 1)), (34, (.iload_n 2, 1)), (35, (.aload_n 0, 1)), (36, (.getfield 9, 3)), (39, (.arraylength, 1)), (40, (.invokestatic 106, 3)), (43, (.return_, 1))] = true := by decide +kernel
theorem dB_gby_0 : decode cB_gby 0 = .ok (.aload_n 0, 1) := xdc ddB_gby_0 0 rfl
theorem dB_gby_1 : decode cB_gby 1 = .ok (.invokevirtual 335, 3) := xdc ddB_gby_0 1 rfl
theorem dB_gby_4 : decode cB_gby 4 = .ok (.iload_n 3, 1) := xdc ddB_gby_0 2 rfl
theorem dB_gby_5 : decode cB_gby 5 = .ok (.if_icmp .ne 23, 3) := xdc ddB_gby_0 3 rfl
theorem dB_gby_8 : decode cB_gby 8 = .ok (.aload_n 0, 1) := xdc ddB_gby_0 4 rfl
theorem dB_gby_9 : decode cB_gby 9 = .ok (.getfield 9, 3) := xdc ddB_gby_0 5 rfl
theorem dB_gby_12 : decode cB_gby 12 = .ok (.iconst 0, 1) := xdc ddB_gby_0 6 rfl
theorem dB_gby_13 : decode cB_gby 13 = .ok (.aload_n 1, 1) := xdc ddB_gby_0 7 rfl
theorem dB_gby_14 : decode cB_gby 14 = .ok (.iload_n 2, 1) := xdc ddB_gby_0 8 rfl
theorem dB_gby_15 : decode cB_gby 15 = .ok (.iload_n 3, 1) := xdc ddB_gby_0 9 rfl
theorem dB_gby_16 : decode cB_gby 16 = .ok (.ishl, 1) := xdc ddB_gby_0 10 rfl
theorem dB_gby_17 : decode cB_gby 17 = .ok (.aload_n 0, 1) := xdc ddB_gby_0 11 rfl
theorem dB_gby_18 : decode cB_gby 18 = .ok (.getfield 9, 3) := xdc ddB_gby_0 12 rfl
theorem dB_gby_21 : decode cB_gby 21 = .ok (.arraylength, 1) := xdc ddB_gby_0 13 rfl
theorem dB_gby_22 : decode cB_gby 22 = .ok (.invokestatic 212, 3) := xdc ddB_gby_0 14 rfl
theorem dB_gby_25 : decode cB_gby 25 = .ok (.goto 18, 3) := xdc ddB_gby_0 15 rfl
theorem dB_gby_28 : decode cB_gby 28 = .ok (.aload_n 0, 1) := xdc ddB_gby_0 16 rfl
theorem dB_gby_29 : decode cB_gby 29 = .ok (.getfield 9, 3) := xdc ddB_gby_0 17 rfl
theorem dB_gby_32 : decode cB_gby 32 = .ok (.iconst 0, 1) := xdc ddB_gby_0 18 rfl
theorem dB_gby_33 : decode cB_gby 33 = .ok (.aload_n 1, 1) := xdc ddB_gby_0 19 rfl
theorem dB_gby_34 : decode cB_gby 34 = .ok (.iload_n 2, 1) := xdc ddB_gby_0 20 rfl
theorem dB_gby_35 : decode cB_gby 35 = .ok (.aload_n 0, 1) := xdc ddB_gby_0 21 rfl
theorem dB_gby_36 : decode cB_gby 36 = .ok (.getfield 9, 3) := xdc ddB_gby_0 22 rfl
theorem dB_gby_39 : decode cB_gby 39 = .ok (.arraylength, 1) := xdc ddB_gby_0 23 rfl
theorem dB_gby_40 : decode cB_gby 40 = .ok (.invokestatic 106, 3) := xdc ddB_gby_0 24 rfl
theorem dB_gby_43 : decode cB_gby 43 = .ok (.return_, 1) := xdc ddB_gby_0 25 rfl
abbrev yB_gby : MethodName := ⟨"java/lang/String", "getBytes", "([BIB)V"⟩
abbrev mB_gby : xMd := (yB_gby, cB_gby, 4, none, { frames := 2, cells := 0, slots := 0, locals := 139 })
theorem tB_c_gby : Cond.code yB_gby cB_gby 4 none ∈ gtbl := gtt_4 222 rfl rfl
theorem tB_n_gby : Cond.instanceMethod yB_gby ∈ gtbl := gtt_4 220 rfl rfl
theorem tB_e_gby : Cond.selects "java/lang/String" yB_gby yB_gby ∈ gtbl := gtt_4 221 rfl rfl
theorem mkB_gby : xMkV mB_gby 3 := ⟨⟨tB_c_gby, tB_i_J0, ⟨by decide, by decide⟩, by decide +kernel⟩, tB_n_gby, tB_e_gby⟩
theorem tB_m_J0_212 : Cond.methodLink "java/lang/String" 212 ⟨"java/lang/System", "arraycopy", "(Ljava/lang/Object;ILjava/lang/Object;II)V"⟩ ∈ gtbl := gtt_4 223 rfl rfl
theorem tB_m_J0_106 : Cond.methodLink "java/lang/String" 106 ⟨"java/lang/StringLatin1", "inflate", "([BI[BII)V"⟩ ∈ gtbl := gtt_4 224 rfl rfl
abbrev cB_put : ByteArray := prog_15_method_73_code
theorem ddB_put_0 : xdec cB_put [(0, (.aload_n 0, 1)), (1, (.aload_n 2, 1)), (2, (.invokevirtual 397, 3)), (5, (.aload_n 2, 1)), (6, (.aload_n 0, 1)), (7, (.getfield 15, 3)), (10, (.iload_n 1, 1)), (11, (.aload_n 0, 1)), (12, (.getfield 22, 3)), (15, (.invokevirtual 399, 3)), (18, (.return_, 1))] = true := by decide +kernel
theorem dB_put_0 : decode cB_put 0 = .ok (.aload_n 0, 1) := xdc ddB_put_0 0 rfl
theorem dB_put_1 : decode cB_put 1 = .ok (.aload_n 2, 1) := xdc ddB_put_0 1 rfl
theorem dB_put_2 : decode cB_put 2 = .ok (.invokevirtual 397, 3) := xdc ddB_put_0 2 rfl
theorem dB_put_5 : decode cB_put 5 = .ok (.aload_n 2, 1) := xdc ddB_put_0 3 rfl
theorem dB_put_6 : decode cB_put 6 = .ok (.aload_n 0, 1) := xdc ddB_put_0 4 rfl
theorem dB_put_7 : decode cB_put 7 = .ok (.getfield 15, 3) := xdc ddB_put_0 5 rfl
theorem dB_put_10 : decode cB_put 10 = .ok (.iload_n 1, 1) := xdc ddB_put_0 6 rfl
theorem dB_put_11 : decode cB_put 11 = .ok (.aload_n 0, 1) := xdc ddB_put_0 7 rfl
theorem dB_put_12 : decode cB_put 12 = .ok (.getfield 22, 3) := xdc ddB_put_0 8 rfl
theorem dB_put_15 : decode cB_put 15 = .ok (.invokevirtual 399, 3) := xdc ddB_put_0 9 rfl
theorem dB_put_18 : decode cB_put 18 = .ok (.return_, 1) := xdc ddB_put_0 10 rfl
abbrev yB_put : MethodName := ⟨"java/lang/AbstractStringBuilder", "putStringAt", "(ILjava/lang/String;)V"⟩
abbrev mB_put : xMd := (yB_put, cB_put, 3, none, { frames := 3, cells := 0, slots := 0, locals := 162 })
theorem tB_c_put : Cond.code yB_put cB_put 3 none ∈ gtbl := gtt_4 194 rfl rfl
theorem tB_n_put : Cond.instanceMethod yB_put ∈ gtbl := gtt_4 193 rfl rfl
theorem tB_q_put : Cond.sameMethod "java/lang/AbstractStringBuilder" "java/lang/AbstractStringBuilder" "putStringAt" "(ILjava/lang/String;)V" ∈ gtbl := gtt_10 124 rfl rfl
theorem tB_u_put : Cond.selects "java/lang/StringBuilder" yB_put yB_put ∈ gtbl := gt_ext 2 rfl
theorem tB_m_J5_397 : Cond.methodLink "java/lang/AbstractStringBuilder" 397 ⟨"java/lang/AbstractStringBuilder", "inflateIfNeededFor", "(Ljava/lang/String;)V"⟩ ∈ gtbl := gtt_4 195 rfl rfl
theorem tB_m_J5_399 : Cond.methodLink "java/lang/AbstractStringBuilder" 399 ⟨"java/lang/String", "getBytes", "([BIB)V"⟩ ∈ gtbl := gtt_4 219 rfl rfl
abbrev cB_aps : ByteArray := prog_15_method_22_code
theorem ddB_aps_0 : xdec cB_aps [(0, (.aload_n 1, 1)), (1, (.ifnonnull 8, 3)), (4, (.aload_n 0, 1)), (5, (.invokevirtual 204, 3)), (8, (.areturn, 1)), (9, (.aload_n 1, 1)), (10, (.invokevirtual 32, 3)), (13, (.istore_n 2, 1)), (14, (.aload_n 0, 1)), (15, (.aload_n 0, 1)), (16, (.getfield 79, 3)), (19, (.iload_n 2, 1)), (20, (.iadd, 1)), (21, (.invokevirtual 100, 3)), (24, (.aload_n 0, 1)), (25, (.aload_n 0, 1)), (26, (.getfield 79, 3)), (29, (.aload_n 1, 1)), (30, (.invokevirtual 208, 3)), (33, (.aload_n 0, 1)), (34, (.dup, 1)), (35, (.getfield 79, 3)), (38, (.iload_n 2, 1)), (39, (.iadd, 1)), (40, (.putfield 79, 3)), (43, (.aload_n 0, 1)), (44, (.areturn, 1))] = true := by decide +kernel
theorem dB_aps_0 : decode cB_aps 0 = .ok (.aload_n 1, 1) := xdc ddB_aps_0 0 rfl
theorem dB_aps_1 : decode cB_aps 1 = .ok (.ifnonnull 8, 3) := xdc ddB_aps_0 1 rfl
theorem dB_aps_4 : decode cB_aps 4 = .ok (.aload_n 0, 1) := xdc ddB_aps_0 2 rfl
theorem dB_aps_5 : decode cB_aps 5 = .ok (.invokevirtual 204, 3) := xdc ddB_aps_0 3 rfl
theorem dB_aps_8 : decode cB_aps 8 = .ok (.areturn, 1) := xdc ddB_aps_0 4 rfl
theorem dB_aps_9 : decode cB_aps 9 = .ok (.aload_n 1, 1) := xdc ddB_aps_0 5 rfl
theorem dB_aps_10 : decode cB_aps 10 = .ok (.invokevirtual 32, 3) := xdc ddB_aps_0 6 rfl
theorem dB_aps_13 : decode cB_aps 13 = .ok (.istore_n 2, 1) := xdc ddB_aps_0 7 rfl
theorem dB_aps_14 : decode cB_aps 14 = .ok (.aload_n 0, 1) := xdc ddB_aps_0 8 rfl
theorem dB_aps_15 : decode cB_aps 15 = .ok (.aload_n 0, 1) := xdc ddB_aps_0 9 rfl
theorem dB_aps_16 : decode cB_aps 16 = .ok (.getfield 79, 3) := xdc ddB_aps_0 10 rfl
theorem dB_aps_19 : decode cB_aps 19 = .ok (.iload_n 2, 1) := xdc ddB_aps_0 11 rfl
theorem dB_aps_20 : decode cB_aps 20 = .ok (.iadd, 1) := xdc ddB_aps_0 12 rfl
theorem dB_aps_21 : decode cB_aps 21 = .ok (.invokevirtual 100, 3) := xdc ddB_aps_0 13 rfl
theorem dB_aps_24 : decode cB_aps 24 = .ok (.aload_n 0, 1) := xdc ddB_aps_0 14 rfl
theorem dB_aps_25 : decode cB_aps 25 = .ok (.aload_n 0, 1) := xdc ddB_aps_0 15 rfl
theorem dB_aps_26 : decode cB_aps 26 = .ok (.getfield 79, 3) := xdc ddB_aps_0 16 rfl
theorem dB_aps_29 : decode cB_aps 29 = .ok (.aload_n 1, 1) := xdc ddB_aps_0 17 rfl
theorem dB_aps_30 : decode cB_aps 30 = .ok (.invokevirtual 208, 3) := xdc ddB_aps_0 18 rfl
theorem dB_aps_33 : decode cB_aps 33 = .ok (.aload_n 0, 1) := xdc ddB_aps_0 19 rfl
theorem dB_aps_34 : decode cB_aps 34 = .ok (.dup, 1) := xdc ddB_aps_0 20 rfl
theorem dB_aps_35 : decode cB_aps 35 = .ok (.getfield 79, 3) := xdc ddB_aps_0 21 rfl
theorem dB_aps_38 : decode cB_aps 38 = .ok (.iload_n 2, 1) := xdc ddB_aps_0 22 rfl
theorem dB_aps_39 : decode cB_aps 39 = .ok (.iadd, 1) := xdc ddB_aps_0 23 rfl
theorem dB_aps_40 : decode cB_aps 40 = .ok (.putfield 79, 3) := xdc ddB_aps_0 24 rfl
theorem dB_aps_43 : decode cB_aps 43 = .ok (.aload_n 0, 1) := xdc ddB_aps_0 25 rfl
theorem dB_aps_44 : decode cB_aps 44 = .ok (.areturn, 1) := xdc ddB_aps_0 26 rfl
abbrev yB_aps : MethodName := ⟨"java/lang/AbstractStringBuilder", "append", "(Ljava/lang/String;)Ljava/lang/AbstractStringBuilder;"⟩
abbrev mB_aps : xMd := (yB_aps, cB_aps, 3, (some (.object "java/lang/AbstractStringBuilder")), { frames := 4, cells := 1, slots := 402, locals := 184 })
theorem tB_c_aps : Cond.code yB_aps cB_aps 3 (some (.object "java/lang/AbstractStringBuilder")) ∈ gtbl := gtt_4 113 rfl rfl
theorem tB_n_aps : Cond.instanceMethod yB_aps ∈ gtbl := gtt_4 112 rfl rfl
theorem tB_q_aps : Cond.sameMethod "java/lang/AbstractStringBuilder" "java/lang/AbstractStringBuilder" "append" "(Ljava/lang/String;)Ljava/lang/AbstractStringBuilder;" ∈ gtbl := gtt_10 120 rfl rfl
theorem tB_m_J5_204 : Cond.methodLink "java/lang/AbstractStringBuilder" 204 ⟨"java/lang/AbstractStringBuilder", "appendNull", "()Ljava/lang/AbstractStringBuilder;"⟩ ∈ gtbl := gtt_4 114 rfl rfl
theorem tB_m_J5_32 : Cond.methodLink "java/lang/AbstractStringBuilder" 32 ⟨"java/lang/String", "length", "()I"⟩ ∈ gtbl := gtt_4 182 rfl rfl
theorem tB_m_J5_208 : Cond.methodLink "java/lang/AbstractStringBuilder" 208 ⟨"java/lang/AbstractStringBuilder", "putStringAt", "(ILjava/lang/String;)V"⟩ ∈ gtbl := gtt_4 191 rfl rfl
abbrev cB_ch3 : ByteArray := prog_35_method_11_code
theorem ddB_ch3_0 : xdec cB_ch3 [(0, (.iload_n 0, 1)), (1, (.ifCond .lt 8, 3)), (4, (.iload_n 0, 1)), (5, (.iload_n 1, 1)), (6, (.if_icmp .lt 10, 3)), (9, (.aload_n 2, 1)), (10, (.iload_n 0, 1)), (11, (.iload_n 1, 1)), (12, (.invokestatic 95, 3)), (15, (.athrow, 1)), (16, (.iload_n 0, 1)), (17, (.ireturn, 1))] = true := by decide +kernel
theorem dB_ch3_0 : decode cB_ch3 0 = .ok (.iload_n 0, 1) := xdc ddB_ch3_0 0 rfl
theorem dB_ch3_1 : decode cB_ch3 1 = .ok (.ifCond .lt 8, 3) := xdc ddB_ch3_0 1 rfl
theorem dB_ch3_4 : decode cB_ch3 4 = .ok (.iload_n 0, 1) := xdc ddB_ch3_0 2 rfl
theorem dB_ch3_5 : decode cB_ch3 5 = .ok (.iload_n 1, 1) := xdc ddB_ch3_0 3 rfl
theorem dB_ch3_6 : decode cB_ch3 6 = .ok (.if_icmp .lt 10, 3) := xdc ddB_ch3_0 4 rfl
theorem dB_ch3_9 : decode cB_ch3 9 = .ok (.aload_n 2, 1) := xdc ddB_ch3_0 5 rfl
theorem dB_ch3_10 : decode cB_ch3 10 = .ok (.iload_n 0, 1) := xdc ddB_ch3_0 6 rfl
theorem dB_ch3_11 : decode cB_ch3 11 = .ok (.iload_n 1, 1) := xdc ddB_ch3_0 7 rfl
theorem dB_ch3_12 : decode cB_ch3 12 = .ok (.invokestatic 95, 3) := xdc ddB_ch3_0 8 rfl
theorem dB_ch3_15 : decode cB_ch3 15 = .ok (.athrow, 1) := xdc ddB_ch3_0 9 rfl
theorem dB_ch3_16 : decode cB_ch3 16 = .ok (.iload_n 0, 1) := xdc ddB_ch3_0 10 rfl
theorem dB_ch3_17 : decode cB_ch3 17 = .ok (.ireturn, 1) := xdc ddB_ch3_0 11 rfl
abbrev yB_ch3 : MethodName := ⟨"jdk/internal/util/Preconditions", "checkIndex", "(IILjava/util/function/BiFunction;)I"⟩
abbrev mB_ch3 : xMd := (yB_ch3, cB_ch3, 3, (some .int), { frames := 0, cells := 0, slots := 0, locals := 30 })
theorem tB_c_ch3 : Cond.code yB_ch3 cB_ch3 3 (some .int) ∈ gtbl := gtt_5 219 rfl rfl
theorem tB_i_J3 : Cond.initialized "jdk/internal/util/Preconditions" ∈ gtbl := gtt_1 28 rfl rfl
theorem tB_s_ch3 : Cond.static yB_ch3 ∈ gtbl := gtt_5 218 rfl rfl
theorem mkB_ch3 : xMkS mB_ch3 3 := ⟨⟨tB_c_ch3, tB_i_J3, ⟨by decide, by decide⟩, by decide +kernel⟩, tB_s_ch3⟩
abbrev cB_ch2 : ByteArray := prog_26_method_155_code
theorem ddB_ch2_0 : xdec cB_ch2 [(0, (.iload_n 0, 1)), (1, (.iload_n 1, 1)), (2, (.getstatic 1053, 3)), (5, (.invokestatic 1059, 3)), (8, (.pop, 1)), (9, (.return_, 1))] = true := by decide +kernel
theorem dB_ch2_0 : decode cB_ch2 0 = .ok (.iload_n 0, 1) := xdc ddB_ch2_0 0 rfl
theorem dB_ch2_1 : decode cB_ch2 1 = .ok (.iload_n 1, 1) := xdc ddB_ch2_0 1 rfl
theorem dB_ch2_2 : decode cB_ch2 2 = .ok (.getstatic 1053, 3) := xdc ddB_ch2_0 2 rfl
theorem dB_ch2_5 : decode cB_ch2 5 = .ok (.invokestatic 1059, 3) := xdc ddB_ch2_0 3 rfl
theorem dB_ch2_8 : decode cB_ch2 8 = .ok (.pop, 1) := xdc ddB_ch2_0 4 rfl
theorem dB_ch2_9 : decode cB_ch2 9 = .ok (.return_, 1) := xdc ddB_ch2_0 5 rfl
abbrev yB_ch2 : MethodName := ⟨"java/lang/String", "checkIndex", "(II)V"⟩
abbrev mB_ch2 : xMd := (yB_ch2, cB_ch2, 2, none, { frames := 1, cells := 0, slots := 0, locals := 52 })
theorem tB_c_ch2 : Cond.code yB_ch2 cB_ch2 2 none ∈ gtbl := gtt_5 216 rfl rfl
theorem tB_s_ch2 : Cond.static yB_ch2 ∈ gtbl := gtt_5 215 rfl rfl
theorem mkB_ch2 : xMkS mB_ch2 2 := ⟨⟨tB_c_ch2, tB_i_J0, ⟨by decide, by decide⟩, by decide +kernel⟩, tB_s_ch2⟩
theorem tB_f_J0_1053 : Cond.fieldLink "java/lang/String" 1053 "jdk/internal/util/Preconditions" "SIOOBE_FORMATTER" "Ljava/util/function/BiFunction;" ∈ gtbl := gtt_4 168 rfl rfl
theorem tB_m_J0_1059 : Cond.methodLink "java/lang/String" 1059 ⟨"jdk/internal/util/Preconditions", "checkIndex", "(IILjava/util/function/BiFunction;)I"⟩ ∈ gtbl := gtt_5 217 rfl rfl
abbrev cB_cha : ByteArray := prog_15_method_14_code
theorem ddB_cha_0 : xdec cB_cha [(0, (.aload_n 0, 1)), (1, (.getfield 22, 3)), (4, (.istore_n 2, 1)), (5, (.aload_n 0, 1)), (6, (.getfield 15, 3)), (9, (.astore_n 3, 1)), (10, (.aload_n 0, 1)), (11, (.getfield 79, 3)), (14, (.aload_n 3, 1)), (15, (.arraylength, 1)), (16, (.iload_n 2, 1)), (17, (.ishr, 1)), (18, (.invokestatic 138, 3)), (21, (.istore 4, 2)), (23, (.iload_n 1, 1)), (24, (.iload 4, 2)), (26, (.invokestatic 144, 3)), (29, (.iload_n 2, 1)), (30, (.ifCond .ne 12, 3)), (33, (.aload_n 3, 1)), (34, (.iload_n 1, 1)), (35, (.baload, 1)), (36, (.sipush 255, 3)), (39, (.iand, 1)), (40, (.i2c, 1)), (41, (.ireturn, 1)), (42, (.aload_n 3, 1)), (43, (.iload_n 1, 1)), (44, (.invokestatic 148, 3)), (47, (.ireturn, 1))] = true := by decide +kernel
theorem dB_cha_0 : decode cB_cha 0 = .ok (.aload_n 0, 1) := xdc ddB_cha_0 0 rfl
theorem dB_cha_1 : decode cB_cha 1 = .ok (.getfield 22, 3) := xdc ddB_cha_0 1 rfl
theorem dB_cha_4 : decode cB_cha 4 = .ok (.istore_n 2, 1) := xdc ddB_cha_0 2 rfl
theorem dB_cha_5 : decode cB_cha 5 = .ok (.aload_n 0, 1) := xdc ddB_cha_0 3 rfl
theorem dB_cha_6 : decode cB_cha 6 = .ok (.getfield 15, 3) := xdc ddB_cha_0 4 rfl
theorem dB_cha_9 : decode cB_cha 9 = .ok (.astore_n 3, 1) := xdc ddB_cha_0 5 rfl
theorem dB_cha_10 : decode cB_cha 10 = .ok (.aload_n 0, 1) := xdc ddB_cha_0 6 rfl
theorem dB_cha_11 : decode cB_cha 11 = .ok (.getfield 79, 3) := xdc ddB_cha_0 7 rfl
theorem dB_cha_14 : decode cB_cha 14 = .ok (.aload_n 3, 1) := xdc ddB_cha_0 8 rfl
theorem dB_cha_15 : decode cB_cha 15 = .ok (.arraylength, 1) := xdc ddB_cha_0 9 rfl
theorem dB_cha_16 : decode cB_cha 16 = .ok (.iload_n 2, 1) := xdc ddB_cha_0 10 rfl
theorem dB_cha_17 : decode cB_cha 17 = .ok (.ishr, 1) := xdc ddB_cha_0 11 rfl
theorem dB_cha_18 : decode cB_cha 18 = .ok (.invokestatic 138, 3) := xdc ddB_cha_0 12 rfl
theorem dB_cha_21 : decode cB_cha 21 = .ok (.istore 4, 2) := xdc ddB_cha_0 13 rfl
theorem dB_cha_23 : decode cB_cha 23 = .ok (.iload_n 1, 1) := xdc ddB_cha_0 14 rfl
theorem dB_cha_24 : decode cB_cha 24 = .ok (.iload 4, 2) := xdc ddB_cha_0 15 rfl
theorem dB_cha_26 : decode cB_cha 26 = .ok (.invokestatic 144, 3) := xdc ddB_cha_0 16 rfl
theorem dB_cha_29 : decode cB_cha 29 = .ok (.iload_n 2, 1) := xdc ddB_cha_0 17 rfl
theorem dB_cha_30 : decode cB_cha 30 = .ok (.ifCond .ne 12, 3) := xdc ddB_cha_0 18 rfl
theorem dB_cha_33 : decode cB_cha 33 = .ok (.aload_n 3, 1) := xdc ddB_cha_0 19 rfl
theorem dB_cha_34 : decode cB_cha 34 = .ok (.iload_n 1, 1) := xdc ddB_cha_0 20 rfl
theorem dB_cha_35 : decode cB_cha 35 = .ok (.baload, 1) := xdc ddB_cha_0 21 rfl
theorem dB_cha_36 : decode cB_cha 36 = .ok (.sipush 255, 3) := xdc ddB_cha_0 22 rfl
theorem dB_cha_39 : decode cB_cha 39 = .ok (.iand, 1) := xdc ddB_cha_0 23 rfl
theorem dB_cha_40 : decode cB_cha 40 = .ok (.i2c, 1) := xdc ddB_cha_0 24 rfl
theorem dB_cha_41 : decode cB_cha 41 = .ok (.ireturn, 1) := xdc ddB_cha_0 25 rfl
theorem dB_cha_42 : decode cB_cha 42 = .ok (.aload_n 3, 1) := xdc ddB_cha_0 26 rfl
theorem dB_cha_43 : decode cB_cha 43 = .ok (.iload_n 1, 1) := xdc ddB_cha_0 27 rfl
theorem dB_cha_44 : decode cB_cha 44 = .ok (.invokestatic 148, 3) := xdc ddB_cha_0 28 rfl
theorem dB_cha_47 : decode cB_cha 47 = .ok (.ireturn, 1) := xdc ddB_cha_0 29 rfl
abbrev yB_cha : MethodName := ⟨"java/lang/AbstractStringBuilder", "charAt", "(I)C"⟩
abbrev mB_cha : xMd := (yB_cha, cB_cha, 5, (some .char), { frames := 2, cells := 0, slots := 0, locals := 73 })
theorem tB_c_cha : Cond.code yB_cha cB_cha 5 (some .char) ∈ gtbl := gtt_6 73 rfl rfl
theorem tB_n_cha : Cond.instanceMethod yB_cha ∈ gtbl := gtt_6 72 rfl rfl
theorem tB_q_cha : Cond.sameMethod "java/lang/AbstractStringBuilder" "java/lang/AbstractStringBuilder" "charAt" "(I)C" ∈ gtbl := gtt_10 131 rfl rfl
theorem tB_m_J5_138 : Cond.methodLink "java/lang/AbstractStringBuilder" 138 ⟨"java/lang/Math", "min", "(II)I"⟩ ∈ gtbl := gtt_6 74 rfl rfl
theorem tB_m_J5_144 : Cond.methodLink "java/lang/AbstractStringBuilder" 144 ⟨"java/lang/String", "checkIndex", "(II)V"⟩ ∈ gtbl := gtt_6 75 rfl rfl
theorem tB_m_J5_148 : Cond.methodLink "java/lang/AbstractStringBuilder" 148 ⟨"java/lang/StringUTF16", "getChar", "([BI)C"⟩ ∈ gtbl := gtt_6 76 rfl rfl
abbrev cB_len : ByteArray := prog_15_method_6_code
theorem ddB_len_0 : xdec cB_len [(0, (.aload_n 0, 1)), (1, (.getfield 79, 3)), (4, (.ireturn, 1))] = true := by decide +kernel
theorem dB_len_0 : decode cB_len 0 = .ok (.aload_n 0, 1) := xdc ddB_len_0 0 rfl
theorem dB_len_1 : decode cB_len 1 = .ok (.getfield 79, 3) := xdc ddB_len_0 1 rfl
theorem dB_len_4 : decode cB_len 4 = .ok (.ireturn, 1) := xdc ddB_len_0 2 rfl
abbrev yB_len : MethodName := ⟨"java/lang/AbstractStringBuilder", "length", "()I"⟩
abbrev mB_len : xMd := (yB_len, cB_len, 1, (some .int), { frames := 0, cells := 0, slots := 0, locals := 30 })
theorem tB_c_len : Cond.code yB_len cB_len 1 (some .int) ∈ gtbl := gtt_5 35 rfl rfl
theorem tB_n_len : Cond.instanceMethod yB_len ∈ gtbl := gtt_5 29 rfl rfl
theorem tB_q_len : Cond.sameMethod "java/lang/AbstractStringBuilder" "java/lang/AbstractStringBuilder" "length" "()I" ∈ gtbl := gtt_5 30 rfl rfl
abbrev cB_set : ByteArray := prog_15_method_13_code
theorem ddB_set_0 : xdec cB_set [(0, (.iload_n 1, 1)), (1, (.ifCond .ge 12, 3)), (4, (.new 129, 3)), (7, (.dup, 1)), (8, (.iload_n 1, 1)), (9, (.invokespecial 131, 3)), (12, (.athrow, 1)), (13, (.aload_n 0, 1)), (14, (.iload_n 1, 1)), (15, (.invokevirtual 100, 3)), (18, (.aload_n 0, 1)), (19, (.getfield 79, 3)), (22, (.iload_n 1, 1)), (23, (.if_icmp .ge 40, 3)), (26, (.aload_n 0, 1)), (27, (.invokevirtual 83, 3)), (30, (.ifCond .eq 18, 3)), (33, (.aload_n 0, 1)), (34, (.getfield 15, 3)), (37, (.aload_n 0, 1)), (38, (.getfield 79, 3)), (41, (.iload_n 1, 1)), (42, (.invokestatic 133, 3)), (45, (.goto 31, 3)), (48, (.aload_n 0, 1)), (49, (.getfield 15, 3)), (52, (.aload_n 0, 1)), (53, (.getfield 79, 3)), (56, (.iload_n 1, 1)), (57, (.invokestatic 137, 3)), (60, (.goto 16, 3)), (63, (.aload_n 0, 1)), (64, (.getfield 79, 3)), (67, (.iload_n 1, 1)), (68, (.if_icmp .le 8, 3)), (71, (.aload_n 0, 1)), (72, (.iconst 1, 1)), (73, (.putfield 73, 3)), (76, (.aload_n 0, 1)), (77, (.iload_n 1, 1))] = true := by decide +kernel
theorem dB_set_0 : decode cB_set 0 = .ok (.iload_n 1, 1) := xdc ddB_set_0 0 rfl
theorem dB_set_1 : decode cB_set 1 = .ok (.ifCond .ge 12, 3) := xdc ddB_set_0 1 rfl
theorem dB_set_4 : decode cB_set 4 = .ok (.new 129, 3) := xdc ddB_set_0 2 rfl
theorem dB_set_7 : decode cB_set 7 = .ok (.dup, 1) := xdc ddB_set_0 3 rfl
theorem dB_set_8 : decode cB_set 8 = .ok (.iload_n 1, 1) := xdc ddB_set_0 4 rfl
theorem dB_set_9 : decode cB_set 9 = .ok (.invokespecial 131, 3) := xdc ddB_set_0 5 rfl
theorem dB_set_12 : decode cB_set 12 = .ok (.athrow, 1) := xdc ddB_set_0 6 rfl
theorem dB_set_13 : decode cB_set 13 = .ok (.aload_n 0, 1) := xdc ddB_set_0 7 rfl
theorem dB_set_14 : decode cB_set 14 = .ok (.iload_n 1, 1) := xdc ddB_set_0 8 rfl
theorem dB_set_15 : decode cB_set 15 = .ok (.invokevirtual 100, 3) := xdc ddB_set_0 9 rfl
theorem dB_set_18 : decode cB_set 18 = .ok (.aload_n 0, 1) := xdc ddB_set_0 10 rfl
theorem dB_set_19 : decode cB_set 19 = .ok (.getfield 79, 3) := xdc ddB_set_0 11 rfl
theorem dB_set_22 : decode cB_set 22 = .ok (.iload_n 1, 1) := xdc ddB_set_0 12 rfl
theorem dB_set_23 : decode cB_set 23 = .ok (.if_icmp .ge 40, 3) := xdc ddB_set_0 13 rfl
theorem dB_set_26 : decode cB_set 26 = .ok (.aload_n 0, 1) := xdc ddB_set_0 14 rfl
theorem dB_set_27 : decode cB_set 27 = .ok (.invokevirtual 83, 3) := xdc ddB_set_0 15 rfl
theorem dB_set_30 : decode cB_set 30 = .ok (.ifCond .eq 18, 3) := xdc ddB_set_0 16 rfl
theorem dB_set_33 : decode cB_set 33 = .ok (.aload_n 0, 1) := xdc ddB_set_0 17 rfl
theorem dB_set_34 : decode cB_set 34 = .ok (.getfield 15, 3) := xdc ddB_set_0 18 rfl
theorem dB_set_37 : decode cB_set 37 = .ok (.aload_n 0, 1) := xdc ddB_set_0 19 rfl
theorem dB_set_38 : decode cB_set 38 = .ok (.getfield 79, 3) := xdc ddB_set_0 20 rfl
theorem dB_set_41 : decode cB_set 41 = .ok (.iload_n 1, 1) := xdc ddB_set_0 21 rfl
theorem dB_set_42 : decode cB_set 42 = .ok (.invokestatic 133, 3) := xdc ddB_set_0 22 rfl
theorem dB_set_45 : decode cB_set 45 = .ok (.goto 31, 3) := xdc ddB_set_0 23 rfl
theorem dB_set_48 : decode cB_set 48 = .ok (.aload_n 0, 1) := xdc ddB_set_0 24 rfl
theorem dB_set_49 : decode cB_set 49 = .ok (.getfield 15, 3) := xdc ddB_set_0 25 rfl
theorem dB_set_52 : decode cB_set 52 = .ok (.aload_n 0, 1) := xdc ddB_set_0 26 rfl
theorem dB_set_53 : decode cB_set 53 = .ok (.getfield 79, 3) := xdc ddB_set_0 27 rfl
theorem dB_set_56 : decode cB_set 56 = .ok (.iload_n 1, 1) := xdc ddB_set_0 28 rfl
theorem dB_set_57 : decode cB_set 57 = .ok (.invokestatic 137, 3) := xdc ddB_set_0 29 rfl
theorem dB_set_60 : decode cB_set 60 = .ok (.goto 16, 3) := xdc ddB_set_0 30 rfl
theorem dB_set_63 : decode cB_set 63 = .ok (.aload_n 0, 1) := xdc ddB_set_0 31 rfl
theorem dB_set_64 : decode cB_set 64 = .ok (.getfield 79, 3) := xdc ddB_set_0 32 rfl
theorem dB_set_67 : decode cB_set 67 = .ok (.iload_n 1, 1) := xdc ddB_set_0 33 rfl
theorem dB_set_68 : decode cB_set 68 = .ok (.if_icmp .le 8, 3) := xdc ddB_set_0 34 rfl
theorem dB_set_71 : decode cB_set 71 = .ok (.aload_n 0, 1) := xdc ddB_set_0 35 rfl
theorem dB_set_72 : decode cB_set 72 = .ok (.iconst 1, 1) := xdc ddB_set_0 36 rfl
theorem dB_set_73 : decode cB_set 73 = .ok (.putfield 73, 3) := xdc ddB_set_0 37 rfl
theorem dB_set_76 : decode cB_set 76 = .ok (.aload_n 0, 1) := xdc ddB_set_0 38 rfl
theorem dB_set_77 : decode cB_set 77 = .ok (.iload_n 1, 1) := xdc ddB_set_0 39 rfl
theorem ddB_set_1 : xdec cB_set [(78, (.putfield 79, 3)), (81, (.return_, 1))] = true := by decide +kernel
theorem dB_set_78 : decode cB_set 78 = .ok (.putfield 79, 3) := xdc ddB_set_1 0 rfl
theorem dB_set_81 : decode cB_set 81 = .ok (.return_, 1) := xdc ddB_set_1 1 rfl
abbrev yB_set : MethodName := ⟨"java/lang/AbstractStringBuilder", "setLength", "(I)V"⟩
abbrev mB_set : xMd := (yB_set, cB_set, 2, none, { frames := 4, cells := 1, slots := 402, locals := 183 })
theorem tB_c_set : Cond.code yB_set cB_set 2 none ∈ gtbl := gtt_4 98 rfl rfl
theorem tB_n_set : Cond.instanceMethod yB_set ∈ gtbl := gtt_4 97 rfl rfl
theorem tB_q_set : Cond.sameMethod "java/lang/AbstractStringBuilder" "java/lang/AbstractStringBuilder" "setLength" "(I)V" ∈ gtbl := gtt_10 119 rfl rfl
theorem tB_w_J5_129 : Cond.classLink "java/lang/AbstractStringBuilder" 129 "java/lang/StringIndexOutOfBoundsException" ∈ gtbl := gtt_4 99 rfl rfl
theorem tB_m_J5_131 : Cond.methodLink "java/lang/AbstractStringBuilder" 131 ⟨"java/lang/StringIndexOutOfBoundsException", "<init>", "(I)V"⟩ ∈ gtbl := gtt_4 101 rfl rfl
theorem tB_m_J5_133 : Cond.methodLink "java/lang/AbstractStringBuilder" 133 ⟨"java/lang/StringLatin1", "fillNull", "([BII)V"⟩ ∈ gtbl := gtt_5 155 rfl rfl
theorem tB_m_J5_137 : Cond.methodLink "java/lang/AbstractStringBuilder" 137 ⟨"java/lang/StringUTF16", "fillNull", "([BII)V"⟩ ∈ gtbl := gtt_5 190 rfl rfl
theorem tB_f_J5_73 : Cond.fieldLink "java/lang/AbstractStringBuilder" 73 "java/lang/AbstractStringBuilder" "maybeLatin1" "Z" ∈ gtbl := gtt_2 29 rfl rfl
abbrev cB_Bapc : ByteArray := prog_27_method_14_code
theorem ddB_Bapc_0 : xdec cB_Bapc [(0, (.aload_n 0, 1)), (1, (.iload_n 1, 1)), (2, (.invokespecial 50, 3)), (5, (.pop, 1)), (6, (.aload_n 0, 1)), (7, (.areturn, 1))] = true := by decide +kernel
theorem dB_Bapc_0 : decode cB_Bapc 0 = .ok (.aload_n 0, 1) := xdc ddB_Bapc_0 0 rfl
theorem dB_Bapc_1 : decode cB_Bapc 1 = .ok (.iload_n 1, 1) := xdc ddB_Bapc_0 1 rfl
theorem dB_Bapc_2 : decode cB_Bapc 2 = .ok (.invokespecial 50, 3) := xdc ddB_Bapc_0 2 rfl
theorem dB_Bapc_5 : decode cB_Bapc 5 = .ok (.pop, 1) := xdc ddB_Bapc_0 3 rfl
theorem dB_Bapc_6 : decode cB_Bapc 6 = .ok (.aload_n 0, 1) := xdc ddB_Bapc_0 4 rfl
theorem dB_Bapc_7 : decode cB_Bapc 7 = .ok (.areturn, 1) := xdc ddB_Bapc_0 5 rfl
abbrev yB_Bapc : MethodName := ⟨"java/lang/StringBuilder", "append", "(C)Ljava/lang/StringBuilder;"⟩
abbrev mB_Bapc : xMd := (yB_Bapc, cB_Bapc, 2, (some (.object "java/lang/StringBuilder")), { frames := 5, cells := 1, slots := 402, locals := 204 })
theorem tB_c_Bapc : Cond.code yB_Bapc cB_Bapc 2 (some (.object "java/lang/StringBuilder")) ∈ gtbl := gtt_5 230 rfl rfl
theorem tB_i_J4 : Cond.initialized "java/lang/StringBuilder" ∈ gtbl := gtt_1 10 rfl rfl
theorem tB_n_Bapc : Cond.instanceMethod yB_Bapc ∈ gtbl := gtt_5 228 rfl rfl
theorem tB_e_Bapc : Cond.selects "java/lang/StringBuilder" yB_Bapc yB_Bapc ∈ gtbl := gtt_5 229 rfl rfl
theorem mkB_Bapc : xMkV mB_Bapc 1 := ⟨⟨tB_c_Bapc, tB_i_J4, ⟨by decide, by decide⟩, by decide +kernel⟩, tB_n_Bapc, tB_e_Bapc⟩
theorem tB_m_J4_50 : Cond.methodLink "java/lang/StringBuilder" 50 ⟨"java/lang/AbstractStringBuilder", "append", "(C)Ljava/lang/AbstractStringBuilder;"⟩ ∈ gtbl := gtt_5 231 rfl rfl
abbrev cB_Bapi : ByteArray := prog_27_method_15_code
theorem ddB_Bapi_0 : xdec cB_Bapi [(0, (.aload_n 0, 1)), (1, (.iload_n 1, 1)), (2, (.invokespecial 53, 3)), (5, (.pop, 1)), (6, (.aload_n 0, 1)), (7, (.areturn, 1))] = true := by decide +kernel
theorem dB_Bapi_0 : decode cB_Bapi 0 = .ok (.aload_n 0, 1) := xdc ddB_Bapi_0 0 rfl
theorem dB_Bapi_1 : decode cB_Bapi 1 = .ok (.iload_n 1, 1) := xdc ddB_Bapi_0 1 rfl
theorem dB_Bapi_2 : decode cB_Bapi 2 = .ok (.invokespecial 53, 3) := xdc ddB_Bapi_0 2 rfl
theorem dB_Bapi_5 : decode cB_Bapi 5 = .ok (.pop, 1) := xdc ddB_Bapi_0 3 rfl
theorem dB_Bapi_6 : decode cB_Bapi 6 = .ok (.aload_n 0, 1) := xdc ddB_Bapi_0 4 rfl
theorem dB_Bapi_7 : decode cB_Bapi 7 = .ok (.areturn, 1) := xdc ddB_Bapi_0 5 rfl
abbrev yB_Bapi : MethodName := ⟨"java/lang/StringBuilder", "append", "(I)Ljava/lang/StringBuilder;"⟩
abbrev mB_Bapi : xMd := (yB_Bapi, cB_Bapi, 2, (some (.object "java/lang/StringBuilder")), { frames := 5, cells := 1, slots := 402, locals := 206 })
theorem tB_c_Bapi : Cond.code yB_Bapi cB_Bapi 2 (some (.object "java/lang/StringBuilder")) ∈ gtbl := gtt_4 228 rfl rfl
theorem tB_n_Bapi : Cond.instanceMethod yB_Bapi ∈ gtbl := gtt_4 226 rfl rfl
theorem tB_e_Bapi : Cond.selects "java/lang/StringBuilder" yB_Bapi yB_Bapi ∈ gtbl := gtt_4 227 rfl rfl
theorem mkB_Bapi : xMkV mB_Bapi 1 := ⟨⟨tB_c_Bapi, tB_i_J4, ⟨by decide, by decide⟩, by decide +kernel⟩, tB_n_Bapi, tB_e_Bapi⟩
theorem tB_m_J4_53 : Cond.methodLink "java/lang/StringBuilder" 53 ⟨"java/lang/AbstractStringBuilder", "append", "(I)Ljava/lang/AbstractStringBuilder;"⟩ ∈ gtbl := gtt_4 229 rfl rfl
abbrev cB_Baps : ByteArray := prog_27_method_7_code
theorem ddB_Baps_0 : xdec cB_Baps [(0, (.aload_n 0, 1)), (1, (.aload_n 1, 1)), (2, (.invokespecial 29, 3)), (5, (.pop, 1)), (6, (.aload_n 0, 1)), (7, (.areturn, 1))] = true := by decide +kernel
theorem dB_Baps_0 : decode cB_Baps 0 = .ok (.aload_n 0, 1) := xdc ddB_Baps_0 0 rfl
theorem dB_Baps_1 : decode cB_Baps 1 = .ok (.aload_n 1, 1) := xdc ddB_Baps_0 1 rfl
theorem dB_Baps_2 : decode cB_Baps 2 = .ok (.invokespecial 29, 3) := xdc ddB_Baps_0 2 rfl
theorem dB_Baps_5 : decode cB_Baps 5 = .ok (.pop, 1) := xdc ddB_Baps_0 3 rfl
theorem dB_Baps_6 : decode cB_Baps 6 = .ok (.aload_n 0, 1) := xdc ddB_Baps_0 4 rfl
theorem dB_Baps_7 : decode cB_Baps 7 = .ok (.areturn, 1) := xdc ddB_Baps_0 5 rfl
abbrev yB_Baps : MethodName := ⟨"java/lang/StringBuilder", "append", "(Ljava/lang/String;)Ljava/lang/StringBuilder;"⟩
abbrev mB_Baps : xMd := (yB_Baps, cB_Baps, 2, (some (.object "java/lang/StringBuilder")), { frames := 5, cells := 1, slots := 402, locals := 206 })
theorem tB_c_Baps : Cond.code yB_Baps cB_Baps 2 (some (.object "java/lang/StringBuilder")) ∈ gtbl := gtt_4 110 rfl rfl
theorem tB_n_Baps : Cond.instanceMethod yB_Baps ∈ gtbl := gtt_4 108 rfl rfl
theorem tB_e_Baps : Cond.selects "java/lang/StringBuilder" yB_Baps yB_Baps ∈ gtbl := gtt_4 109 rfl rfl
theorem mkB_Baps : xMkV mB_Baps 1 := ⟨⟨tB_c_Baps, tB_i_J4, ⟨by decide, by decide⟩, by decide +kernel⟩, tB_n_Baps, tB_e_Baps⟩
theorem tB_m_J4_29 : Cond.methodLink "java/lang/StringBuilder" 29 ⟨"java/lang/AbstractStringBuilder", "append", "(Ljava/lang/String;)Ljava/lang/AbstractStringBuilder;"⟩ ∈ gtbl := gtt_4 111 rfl rfl
abbrev cB_Bcha : ByteArray := prog_27_method_88_code
theorem ddB_Bcha_0 : xdec cB_Bcha [(0, (.aload_n 0, 1)), (1, (.iload_n 1, 1)), (2, (.invokespecial 329, 3)), (5, (.ireturn, 1))] = true := by decide +kernel
theorem dB_Bcha_0 : decode cB_Bcha 0 = .ok (.aload_n 0, 1) := xdc ddB_Bcha_0 0 rfl
theorem dB_Bcha_1 : decode cB_Bcha 1 = .ok (.iload_n 1, 1) := xdc ddB_Bcha_0 1 rfl
theorem dB_Bcha_2 : decode cB_Bcha 2 = .ok (.invokespecial 329, 3) := xdc ddB_Bcha_0 2 rfl
theorem dB_Bcha_5 : decode cB_Bcha 5 = .ok (.ireturn, 1) := xdc ddB_Bcha_0 3 rfl
abbrev yB_Bcha : MethodName := ⟨"java/lang/StringBuilder", "charAt", "(I)C"⟩
abbrev mB_Bcha : xMd := (yB_Bcha, cB_Bcha, 2, (some .char), { frames := 3, cells := 0, slots := 0, locals := 97 })
theorem tB_c_Bcha : Cond.code yB_Bcha cB_Bcha 2 (some .char) ∈ gtbl := gtt_6 70 rfl rfl
theorem tB_n_Bcha : Cond.instanceMethod yB_Bcha ∈ gtbl := gtt_6 68 rfl rfl
theorem tB_e_Bcha : Cond.selects "java/lang/StringBuilder" yB_Bcha yB_Bcha ∈ gtbl := gtt_6 69 rfl rfl
theorem mkB_Bcha : xMkV mB_Bcha 1 := ⟨⟨tB_c_Bcha, tB_i_J4, ⟨by decide, by decide⟩, by decide +kernel⟩, tB_n_Bcha, tB_e_Bcha⟩
theorem tB_m_J4_329 : Cond.methodLink "java/lang/StringBuilder" 329 ⟨"java/lang/AbstractStringBuilder", "charAt", "(I)C"⟩ ∈ gtbl := gtt_6 71 rfl rfl
abbrev cB_Blen : ByteArray := prog_27_method_93_code
theorem ddB_Blen_0 : xdec cB_Blen [(0, (.aload_n 0, 1)), (1, (.invokespecial 343, 3)), (4, (.ireturn, 1))] = true := by decide +kernel
theorem dB_Blen_0 : decode cB_Blen 0 = .ok (.aload_n 0, 1) := xdc ddB_Blen_0 0 rfl
theorem dB_Blen_1 : decode cB_Blen 1 = .ok (.invokespecial 343, 3) := xdc ddB_Blen_0 1 rfl
theorem dB_Blen_4 : decode cB_Blen 4 = .ok (.ireturn, 1) := xdc ddB_Blen_0 2 rfl
abbrev yB_Blen : MethodName := ⟨"java/lang/StringBuilder", "length", "()I"⟩
abbrev mB_Blen : xMd := (yB_Blen, cB_Blen, 1, (some .int), { frames := 1, cells := 0, slots := 0, locals := 50 })
theorem tB_c_Blen : Cond.code yB_Blen cB_Blen 1 (some .int) ∈ gtbl := gtt_5 33 rfl rfl
theorem tB_n_Blen : Cond.instanceMethod yB_Blen ∈ gtbl := gtt_5 32 rfl rfl
theorem tB_e_Blen : Cond.selects "java/lang/StringBuilder" yB_Blen yB_Blen ∈ gtbl := gtt_10 130 rfl rfl
theorem mkB_Blen : xMkV mB_Blen 0 := ⟨⟨tB_c_Blen, tB_i_J4, ⟨by decide, by decide⟩, by decide +kernel⟩, tB_n_Blen, tB_e_Blen⟩
theorem tB_m_J4_343 : Cond.methodLink "java/lang/StringBuilder" 343 ⟨"java/lang/AbstractStringBuilder", "length", "()I"⟩ ∈ gtbl := gtt_5 34 rfl rfl
abbrev cB_Bset : ByteArray := prog_27_method_89_code
theorem ddB_Bset_0 : xdec cB_Bset [(0, (.aload_n 0, 1)), (1, (.iload_n 1, 1)), (2, (.invokespecial 333, 3)), (5, (.return_, 1))] = true := by decide +kernel
theorem dB_Bset_0 : decode cB_Bset 0 = .ok (.aload_n 0, 1) := xdc ddB_Bset_0 0 rfl
theorem dB_Bset_1 : decode cB_Bset 1 = .ok (.iload_n 1, 1) := xdc ddB_Bset_0 1 rfl
theorem dB_Bset_2 : decode cB_Bset 2 = .ok (.invokespecial 333, 3) := xdc ddB_Bset_0 2 rfl
theorem dB_Bset_5 : decode cB_Bset 5 = .ok (.return_, 1) := xdc ddB_Bset_0 3 rfl
abbrev yB_Bset : MethodName := ⟨"java/lang/StringBuilder", "setLength", "(I)V"⟩
abbrev mB_Bset : xMd := (yB_Bset, cB_Bset, 2, none, { frames := 5, cells := 1, slots := 402, locals := 204 })
theorem tB_c_Bset : Cond.code yB_Bset cB_Bset 2 none ∈ gtbl := gtt_4 95 rfl rfl
theorem tB_n_Bset : Cond.instanceMethod yB_Bset ∈ gtbl := gtt_4 93 rfl rfl
theorem tB_e_Bset : Cond.selects "java/lang/StringBuilder" yB_Bset yB_Bset ∈ gtbl := gtt_4 94 rfl rfl
theorem mkB_Bset : xMkV mB_Bset 1 := ⟨⟨tB_c_Bset, tB_i_J4, ⟨by decide, by decide⟩, by decide +kernel⟩, tB_n_Bset, tB_e_Bset⟩
theorem tB_m_J4_333 : Cond.methodLink "java/lang/StringBuilder" 333 ⟨"java/lang/AbstractStringBuilder", "setLength", "(I)V"⟩ ∈ gtbl := gtt_4 96 rfl rfl
abbrev cB_cft : ByteArray := prog_35_method_12_code
theorem ddB_cft_0 : xdec cB_cft [(0, (.iload_n 0, 1)), (1, (.ifCond .lt 13, 3)), (4, (.iload_n 0, 1)), (5, (.iload_n 1, 1)), (6, (.if_icmp .gt 8, 3)), (9, (.iload_n 1, 1)), (10, (.iload_n 2, 1)), (11, (.if_icmp .le 11, 3)), (14, (.aload_n 3, 1)), (15, (.iload_n 0, 1)), (16, (.iload_n 1, 1)), (17, (.iload_n 2, 1)), (18, (.invokestatic 99, 3)), (21, (.athrow, 1)), (22, (.iload_n 0, 1)), (23, (.ireturn, 1))] = true := by decide +kernel
theorem dB_cft_0 : decode cB_cft 0 = .ok (.iload_n 0, 1) := xdc ddB_cft_0 0 rfl
theorem dB_cft_1 : decode cB_cft 1 = .ok (.ifCond .lt 13, 3) := xdc ddB_cft_0 1 rfl
theorem dB_cft_4 : decode cB_cft 4 = .ok (.iload_n 0, 1) := xdc ddB_cft_0 2 rfl
theorem dB_cft_5 : decode cB_cft 5 = .ok (.iload_n 1, 1) := xdc ddB_cft_0 3 rfl
theorem dB_cft_6 : decode cB_cft 6 = .ok (.if_icmp .gt 8, 3) := xdc ddB_cft_0 4 rfl
theorem dB_cft_9 : decode cB_cft 9 = .ok (.iload_n 1, 1) := xdc ddB_cft_0 5 rfl
theorem dB_cft_10 : decode cB_cft 10 = .ok (.iload_n 2, 1) := xdc ddB_cft_0 6 rfl
theorem dB_cft_11 : decode cB_cft 11 = .ok (.if_icmp .le 11, 3) := xdc ddB_cft_0 7 rfl
theorem dB_cft_14 : decode cB_cft 14 = .ok (.aload_n 3, 1) := xdc ddB_cft_0 8 rfl
theorem dB_cft_15 : decode cB_cft 15 = .ok (.iload_n 0, 1) := xdc ddB_cft_0 9 rfl
theorem dB_cft_16 : decode cB_cft 16 = .ok (.iload_n 1, 1) := xdc ddB_cft_0 10 rfl
theorem dB_cft_17 : decode cB_cft 17 = .ok (.iload_n 2, 1) := xdc ddB_cft_0 11 rfl
theorem dB_cft_18 : decode cB_cft 18 = .ok (.invokestatic 99, 3) := xdc ddB_cft_0 12 rfl
theorem dB_cft_21 : decode cB_cft 21 = .ok (.athrow, 1) := xdc ddB_cft_0 13 rfl
theorem dB_cft_22 : decode cB_cft 22 = .ok (.iload_n 0, 1) := xdc ddB_cft_0 14 rfl
theorem dB_cft_23 : decode cB_cft 23 = .ok (.ireturn, 1) := xdc ddB_cft_0 15 rfl
abbrev yB_cft : MethodName := ⟨"jdk/internal/util/Preconditions", "checkFromToIndex", "(IIILjava/util/function/BiFunction;)I"⟩
abbrev mB_cft : xMd := (yB_cft, cB_cft, 4, (some .int), { frames := 0, cells := 0, slots := 0, locals := 30 })
theorem tB_c_cft : Cond.code yB_cft cB_cft 4 (some .int) ∈ gtbl := gtt_4 172 rfl rfl
theorem tB_s_cft : Cond.static yB_cft ∈ gtbl := gtt_4 171 rfl rfl
theorem mkB_cft : xMkS mB_cft 4 := ⟨⟨tB_c_cft, tB_i_J3, ⟨by decide, by decide⟩, by decide +kernel⟩, tB_s_cft⟩
abbrev cB_cbe : ByteArray := prog_26_method_158_code
theorem ddB_cbe_0 : xdec cB_cbe [(0, (.iload_n 0, 1)), (1, (.iload_n 1, 1)), (2, (.iload_n 2, 1)), (3, (.getstatic 1053, 3)), (6, (.invokestatic 1062, 3)), (9, (.pop, 1)), (10, (.return_, 1))] = true := by decide +kernel
theorem dB_cbe_0 : decode cB_cbe 0 = .ok (.iload_n 0, 1) := xdc ddB_cbe_0 0 rfl
theorem dB_cbe_1 : decode cB_cbe 1 = .ok (.iload_n 1, 1) := xdc ddB_cbe_0 1 rfl
theorem dB_cbe_2 : decode cB_cbe 2 = .ok (.iload_n 2, 1) := xdc ddB_cbe_0 2 rfl
theorem dB_cbe_3 : decode cB_cbe 3 = .ok (.getstatic 1053, 3) := xdc ddB_cbe_0 3 rfl
theorem dB_cbe_6 : decode cB_cbe 6 = .ok (.invokestatic 1062, 3) := xdc ddB_cbe_0 4 rfl
theorem dB_cbe_9 : decode cB_cbe 9 = .ok (.pop, 1) := xdc ddB_cbe_0 5 rfl
theorem dB_cbe_10 : decode cB_cbe 10 = .ok (.return_, 1) := xdc ddB_cbe_0 6 rfl
abbrev yB_cbe : MethodName := ⟨"java/lang/String", "checkBoundsBeginEnd", "(III)V"⟩
abbrev mB_cbe : xMd := (yB_cbe, cB_cbe, 3, none, { frames := 1, cells := 0, slots := 0, locals := 53 })
theorem tB_c_cbe : Cond.code yB_cbe cB_cbe 3 none ∈ gtbl := gtt_4 167 rfl rfl
theorem tB_s_cbe : Cond.static yB_cbe ∈ gtbl := gtt_4 166 rfl rfl
theorem mkB_cbe : xMkS mB_cbe 3 := ⟨⟨tB_c_cbe, tB_i_J0, ⟨by decide, by decide⟩, by decide +kernel⟩, tB_s_cbe⟩
theorem tB_m_J0_1062 : Cond.methodLink "java/lang/String" 1062 ⟨"jdk/internal/util/Preconditions", "checkFromToIndex", "(IIILjava/util/function/BiFunction;)I"⟩ ∈ gtbl := gtt_4 170 rfl rfl
abbrev cB_ckl : ByteArray := prog_33_method_131_code
theorem ddB_ckl_0 : xdec cB_ckl [(0, (.iload_n 1, 1)), (1, (.iload_n 0, 1)), (2, (.if_icmp .ge 35, 3)), (5, (.new 43, 3)), (8, (.dup, 1)), (9, (.new 45, 3)), (12, (.dup, 1)), (13, (.invokespecial 47, 3)), (16, (.iload_n 0, 1)), (17, (.invokevirtual 54, 3)), (20, (.ldc_w 337, 3)), (23, (.invokevirtual 50, 3)), (26, (.iload_n 1, 1)), (27, (.invokevirtual 54, 3)), (30, (.invokevirtual 61, 3)), (33, (.invokespecial 65, 3)), (36, (.athrow, 1)), (37, (.return_, 1))] = true := by decide +kernel
theorem dB_ckl_0 : decode cB_ckl 0 = .ok (.iload_n 1, 1) := xdc ddB_ckl_0 0 rfl
theorem dB_ckl_1 : decode cB_ckl 1 = .ok (.iload_n 0, 1) := xdc ddB_ckl_0 1 rfl
theorem dB_ckl_2 : decode cB_ckl 2 = .ok (.if_icmp .ge 35, 3) := xdc ddB_ckl_0 2 rfl
theorem dB_ckl_5 : decode cB_ckl 5 = .ok (.new 43, 3) := xdc ddB_ckl_0 3 rfl
theorem dB_ckl_8 : decode cB_ckl 8 = .ok (.dup, 1) := xdc ddB_ckl_0 4 rfl
theorem dB_ckl_9 : decode cB_ckl 9 = .ok (.new 45, 3) := xdc ddB_ckl_0 5 rfl
theorem dB_ckl_12 : decode cB_ckl 12 = .ok (.dup, 1) := xdc ddB_ckl_0 6 rfl
theorem dB_ckl_13 : decode cB_ckl 13 = .ok (.invokespecial 47, 3) := xdc ddB_ckl_0 7 rfl
theorem dB_ckl_16 : decode cB_ckl 16 = .ok (.iload_n 0, 1) := xdc ddB_ckl_0 8 rfl
theorem dB_ckl_17 : decode cB_ckl 17 = .ok (.invokevirtual 54, 3) := xdc ddB_ckl_0 9 rfl
theorem dB_ckl_20 : decode cB_ckl 20 = .ok (.ldc_w 337, 3) := xdc ddB_ckl_0 10 rfl
theorem dB_ckl_23 : decode cB_ckl 23 = .ok (.invokevirtual 50, 3) := xdc ddB_ckl_0 11 rfl
theorem dB_ckl_26 : decode cB_ckl 26 = .ok (.iload_n 1, 1) := xdc ddB_ckl_0 12 rfl
theorem dB_ckl_27 : decode cB_ckl 27 = .ok (.invokevirtual 54, 3) := xdc ddB_ckl_0 13 rfl
theorem dB_ckl_30 : decode cB_ckl 30 = .ok (.invokevirtual 61, 3) := xdc ddB_ckl_0 14 rfl
theorem dB_ckl_33 : decode cB_ckl 33 = .ok (.invokespecial 65, 3) := xdc ddB_ckl_0 15 rfl
theorem dB_ckl_36 : decode cB_ckl 36 = .ok (.athrow, 1) := xdc ddB_ckl_0 16 rfl
theorem dB_ckl_37 : decode cB_ckl 37 = .ok (.return_, 1) := xdc ddB_ckl_0 17 rfl
abbrev yB_ckl : MethodName := ⟨"java/util/Arrays", "checkLength", "(II)V"⟩
abbrev mB_ckl : xMd := (yB_ckl, cB_ckl, 2, none, { frames := 0, cells := 0, slots := 0, locals := 30 })
theorem tB_c_ckl : Cond.code yB_ckl cB_ckl 2 none ∈ gtbl := gtt_5 45 rfl rfl
theorem tB_s_ckl : Cond.static yB_ckl ∈ gtbl := gtt_5 44 rfl rfl
theorem mkB_ckl : xMkS mB_ckl 2 := ⟨⟨tB_c_ckl, tB_i_J7, ⟨by decide, by decide⟩, by decide +kernel⟩, tB_s_ckl⟩
theorem tB_w_J7_43 : Cond.classLink "java/util/Arrays" 43 "java/lang/IllegalArgumentException" ∈ gtbl := gtt_5 46 rfl rfl
theorem tB_w_J7_45 : Cond.classLink "java/util/Arrays" 45 "java/lang/StringBuilder" ∈ gtbl := gtt_5 89 rfl rfl
theorem tB_m_J7_47 : Cond.methodLink "java/util/Arrays" 47 ⟨"java/lang/StringBuilder", "<init>", "()V"⟩ ∈ gtbl := gtt_5 90 rfl rfl
theorem tB_m_J7_54 : Cond.methodLink "java/util/Arrays" 54 ⟨"java/lang/StringBuilder", "append", "(I)Ljava/lang/StringBuilder;"⟩ ∈ gtbl := gtt_5 91 rfl rfl
theorem tB_m_J7_50 : Cond.methodLink "java/util/Arrays" 50 ⟨"java/lang/StringBuilder", "append", "(Ljava/lang/String;)Ljava/lang/StringBuilder;"⟩ ∈ gtbl := gtt_5 93 rfl rfl
theorem tB_m_J7_61 : Cond.methodLink "java/util/Arrays" 61 ⟨"java/lang/StringBuilder", "toString", "()Ljava/lang/String;"⟩ ∈ gtbl := gtt_5 94 rfl rfl
theorem tB_m_J7_65 : Cond.methodLink "java/util/Arrays" 65 ⟨"java/lang/IllegalArgumentException", "<init>", "(Ljava/lang/String;)V"⟩ ∈ gtbl := gtt_5 95 rfl rfl
abbrev cB_crb : ByteArray := prog_33_method_133_code
theorem ddB_crb_0 : xdec cB_crb [(0, (.iload_n 1, 1)), (1, (.iload_n 2, 1)), (2, (.invokestatic 343, 3)), (5, (.iload_n 2, 1)), (6, (.iload_n 1, 1)), (7, (.isub, 1)), (8, (.istore_n 3, 1)), (9, (.iload_n 3, 1)), (10, (.newarray .byte, 2)), (12, (.astore 4, 2)), (14, (.aload_n 0, 1)), (15, (.iload_n 1, 1)), (16, (.aload 4, 2)), (18, (.iconst 0, 1)), (19, (.aload_n 0, 1)), (20, (.arraylength, 1)), (21, (.iload_n 1, 1)), (22, (.isub, 1)), (23, (.iload_n 3, 1)), (24, (.invokestatic 304, 3)), (27, (.invokestatic 150, 3)), (30, (.aload 4, 2)), (32, (.areturn, 1))] = true := by decide +kernel
theorem dB_crb_0 : decode cB_crb 0 = .ok (.iload_n 1, 1) := xdc ddB_crb_0 0 rfl
theorem dB_crb_1 : decode cB_crb 1 = .ok (.iload_n 2, 1) := xdc ddB_crb_0 1 rfl
theorem dB_crb_2 : decode cB_crb 2 = .ok (.invokestatic 343, 3) := xdc ddB_crb_0 2 rfl
theorem dB_crb_5 : decode cB_crb 5 = .ok (.iload_n 2, 1) := xdc ddB_crb_0 3 rfl
theorem dB_crb_6 : decode cB_crb 6 = .ok (.iload_n 1, 1) := xdc ddB_crb_0 4 rfl
theorem dB_crb_7 : decode cB_crb 7 = .ok (.isub, 1) := xdc ddB_crb_0 5 rfl
theorem dB_crb_8 : decode cB_crb 8 = .ok (.istore_n 3, 1) := xdc ddB_crb_0 6 rfl
theorem dB_crb_9 : decode cB_crb 9 = .ok (.iload_n 3, 1) := xdc ddB_crb_0 7 rfl
theorem dB_crb_10 : decode cB_crb 10 = .ok (.newarray .byte, 2) := xdc ddB_crb_0 8 rfl
theorem dB_crb_12 : decode cB_crb 12 = .ok (.astore 4, 2) := xdc ddB_crb_0 9 rfl
theorem dB_crb_14 : decode cB_crb 14 = .ok (.aload_n 0, 1) := xdc ddB_crb_0 10 rfl
theorem dB_crb_15 : decode cB_crb 15 = .ok (.iload_n 1, 1) := xdc ddB_crb_0 11 rfl
theorem dB_crb_16 : decode cB_crb 16 = .ok (.aload 4, 2) := xdc ddB_crb_0 12 rfl
theorem dB_crb_18 : decode cB_crb 18 = .ok (.iconst 0, 1) := xdc ddB_crb_0 13 rfl
theorem dB_crb_19 : decode cB_crb 19 = .ok (.aload_n 0, 1) := xdc ddB_crb_0 14 rfl
theorem dB_crb_20 : decode cB_crb 20 = .ok (.arraylength, 1) := xdc ddB_crb_0 15 rfl
theorem dB_crb_21 : decode cB_crb 21 = .ok (.iload_n 1, 1) := xdc ddB_crb_0 16 rfl
theorem dB_crb_22 : decode cB_crb 22 = .ok (.isub, 1) := xdc ddB_crb_0 17 rfl
theorem dB_crb_23 : decode cB_crb 23 = .ok (.iload_n 3, 1) := xdc ddB_crb_0 18 rfl
theorem dB_crb_24 : decode cB_crb 24 = .ok (.invokestatic 304, 3) := xdc ddB_crb_0 19 rfl
theorem dB_crb_27 : decode cB_crb 27 = .ok (.invokestatic 150, 3) := xdc ddB_crb_0 20 rfl
theorem dB_crb_30 : decode cB_crb 30 = .ok (.aload 4, 2) := xdc ddB_crb_0 21 rfl
theorem dB_crb_32 : decode cB_crb 32 = .ok (.areturn, 1) := xdc ddB_crb_0 22 rfl
abbrev yB_crb : MethodName := ⟨"java/util/Arrays", "copyOfRangeByte", "([BII)[B"⟩
abbrev mB_crb : xMd := (yB_crb, cB_crb, 5, (some (.array .byte)), { frames := 2, cells := 1, slots := 64, locals := 139 })
theorem tB_c_crb : Cond.code yB_crb cB_crb 5 (some (.array .byte)) ∈ gtbl := gtt_5 42 rfl rfl
theorem tB_s_crb : Cond.static yB_crb ∈ gtbl := gtt_5 41 rfl rfl
theorem mkB_crb : xMkS mB_crb 3 := ⟨⟨tB_c_crb, tB_i_J7, ⟨by decide, by decide⟩, by decide +kernel⟩, tB_s_crb⟩
theorem tB_m_J7_343 : Cond.methodLink "java/util/Arrays" 343 ⟨"java/util/Arrays", "checkLength", "(II)V"⟩ ∈ gtbl := gtt_5 43 rfl rfl
abbrev cB_cor : ByteArray := prog_33_method_132_code
theorem ddB_cor_0 : xdec cB_cor [(0, (.iload_n 1, 1)), (1, (.ifCond .ne 9, 3)), (4, (.iload_n 2, 1)), (5, (.aload_n 0, 1)), (6, (.arraylength, 1)), (7, (.if_icmp .eq 10, 3)), (10, (.aload_n 0, 1)), (11, (.iload_n 1, 1)), (12, (.iload_n 2, 1)), (13, (.invokestatic 339, 3)), (16, (.areturn, 1)), (17, (.aload_n 0, 1)), (18, (.invokevirtual 310, 3)), (21, (.checkcast 311, 3)), (24, (.areturn, 1))] = true := by decide +kernel
theorem dB_cor_0 : decode cB_cor 0 = .ok (.iload_n 1, 1) := xdc ddB_cor_0 0 rfl
theorem dB_cor_1 : decode cB_cor 1 = .ok (.ifCond .ne 9, 3) := xdc ddB_cor_0 1 rfl
theorem dB_cor_4 : decode cB_cor 4 = .ok (.iload_n 2, 1) := xdc ddB_cor_0 2 rfl
theorem dB_cor_5 : decode cB_cor 5 = .ok (.aload_n 0, 1) := xdc ddB_cor_0 3 rfl
theorem dB_cor_6 : decode cB_cor 6 = .ok (.arraylength, 1) := xdc ddB_cor_0 4 rfl
theorem dB_cor_7 : decode cB_cor 7 = .ok (.if_icmp .eq 10, 3) := xdc ddB_cor_0 5 rfl
theorem dB_cor_10 : decode cB_cor 10 = .ok (.aload_n 0, 1) := xdc ddB_cor_0 6 rfl
theorem dB_cor_11 : decode cB_cor 11 = .ok (.iload_n 1, 1) := xdc ddB_cor_0 7 rfl
theorem dB_cor_12 : decode cB_cor 12 = .ok (.iload_n 2, 1) := xdc ddB_cor_0 8 rfl
theorem dB_cor_13 : decode cB_cor 13 = .ok (.invokestatic 339, 3) := xdc ddB_cor_0 9 rfl
theorem dB_cor_16 : decode cB_cor 16 = .ok (.areturn, 1) := xdc ddB_cor_0 10 rfl
theorem dB_cor_17 : decode cB_cor 17 = .ok (.aload_n 0, 1) := xdc ddB_cor_0 11 rfl
theorem dB_cor_18 : decode cB_cor 18 = .ok (.invokevirtual 310, 3) := xdc ddB_cor_0 12 rfl
theorem dB_cor_21 : decode cB_cor 21 = .ok (.checkcast 311, 3) := xdc ddB_cor_0 13 rfl
theorem dB_cor_24 : decode cB_cor 24 = .ok (.areturn, 1) := xdc ddB_cor_0 14 rfl
abbrev yB_cor : MethodName := ⟨"java/util/Arrays", "copyOfRange", "([BII)[B"⟩
abbrev mB_cor : xMd := (yB_cor, cB_cor, 3, (some (.array .byte)), { frames := 3, cells := 1, slots := 64, locals := 163 })
theorem tB_c_cor : Cond.code yB_cor cB_cor 3 (some (.array .byte)) ∈ gtbl := gtt_5 39 rfl rfl
theorem tB_s_cor : Cond.static yB_cor ∈ gtbl := gtt_5 38 rfl rfl
theorem mkB_cor : xMkS mB_cor 3 := ⟨⟨tB_c_cor, tB_i_J7, ⟨by decide, by decide⟩, by decide +kernel⟩, tB_s_cor⟩
theorem tB_m_J7_339 : Cond.methodLink "java/util/Arrays" 339 ⟨"java/util/Arrays", "copyOfRangeByte", "([BII)[B"⟩ ∈ gtbl := gtt_5 40 rfl rfl
abbrev cB_ini : ByteArray := prog_26_method_151_code
theorem ddB_ini_0 : xdec cB_ini [(0, (.aload_n 0, 1)), (1, (.invokespecial 1, 3)), (4, (.aload_n 0, 1)), (5, (.aload_n 1, 1)), (6, (.putfield 9, 3)), (9, (.aload_n 0, 1)), (10, (.iload_n 2, 1)), (11, (.putfield 15, 3)), (14, (.return_, 1))] = true := by decide +kernel
theorem dB_ini_0 : decode cB_ini 0 = .ok (.aload_n 0, 1) := xdc ddB_ini_0 0 rfl
theorem dB_ini_1 : decode cB_ini 1 = .ok (.invokespecial 1, 3) := xdc ddB_ini_0 1 rfl
theorem dB_ini_4 : decode cB_ini 4 = .ok (.aload_n 0, 1) := xdc ddB_ini_0 2 rfl
theorem dB_ini_5 : decode cB_ini 5 = .ok (.aload_n 1, 1) := xdc ddB_ini_0 3 rfl
theorem dB_ini_6 : decode cB_ini 6 = .ok (.putfield 9, 3) := xdc ddB_ini_0 4 rfl
theorem dB_ini_9 : decode cB_ini 9 = .ok (.aload_n 0, 1) := xdc ddB_ini_0 5 rfl
theorem dB_ini_10 : decode cB_ini 10 = .ok (.iload_n 2, 1) := xdc ddB_ini_0 6 rfl
theorem dB_ini_11 : decode cB_ini 11 = .ok (.putfield 15, 3) := xdc ddB_ini_0 7 rfl
theorem dB_ini_14 : decode cB_ini 14 = .ok (.return_, 1) := xdc ddB_ini_0 8 rfl
abbrev yB_ini : MethodName := ⟨"java/lang/String", "<init>", "([BB)V"⟩
abbrev mB_ini : xMd := (yB_ini, cB_ini, 3, none, { frames := 1, cells := 0, slots := 0, locals := 30 })
theorem tB_c_ini : Cond.code yB_ini cB_ini 3 none ∈ gtbl := gtt_6 27 rfl rfl
theorem tB_n_ini : Cond.instanceMethod yB_ini ∈ gtbl := gtt_6 26 rfl rfl
theorem tB_m_J0_1 : Cond.methodLink "java/lang/String" 1 ⟨"java/lang/Object", "<init>", "()V"⟩ ∈ gtbl := gtt_5 22 rfl rfl
abbrev cB_nst : ByteArray := prog_29_method_47_code
theorem ddB_nst_0 : xdec cB_nst [(0, (.iload_n 2, 1)), (1, (.ifCond .ne 6, 3)), (4, (.ldc 151, 2)), (6, (.areturn, 1)), (7, (.new 1, 3)), (10, (.dup, 1)), (11, (.aload_n 0, 1)), (12, (.iload_n 1, 1)), (13, (.iload_n 1, 1)), (14, (.iload_n 2, 1)), (15, (.iadd, 1)), (16, (.invokestatic 232, 3)), (19, (.iconst 0, 1)), (20, (.invokespecial 112, 3)), (23, (.areturn, 1))] = true := by decide +kernel
theorem dB_nst_0 : decode cB_nst 0 = .ok (.iload_n 2, 1) := xdc ddB_nst_0 0 rfl
theorem dB_nst_1 : decode cB_nst 1 = .ok (.ifCond .ne 6, 3) := xdc ddB_nst_0 1 rfl
theorem dB_nst_4 : decode cB_nst 4 = .ok (.ldc 151, 2) := xdc ddB_nst_0 2 rfl
theorem dB_nst_6 : decode cB_nst 6 = .ok (.areturn, 1) := xdc ddB_nst_0 3 rfl
theorem dB_nst_7 : decode cB_nst 7 = .ok (.new 1, 3) := xdc ddB_nst_0 4 rfl
theorem dB_nst_10 : decode cB_nst 10 = .ok (.dup, 1) := xdc ddB_nst_0 5 rfl
theorem dB_nst_11 : decode cB_nst 11 = .ok (.aload_n 0, 1) := xdc ddB_nst_0 6 rfl
theorem dB_nst_12 : decode cB_nst 12 = .ok (.iload_n 1, 1) := xdc ddB_nst_0 7 rfl
theorem dB_nst_13 : decode cB_nst 13 = .ok (.iload_n 1, 1) := xdc ddB_nst_0 8 rfl
theorem dB_nst_14 : decode cB_nst 14 = .ok (.iload_n 2, 1) := xdc ddB_nst_0 9 rfl
theorem dB_nst_15 : decode cB_nst 15 = .ok (.iadd, 1) := xdc ddB_nst_0 10 rfl
theorem dB_nst_16 : decode cB_nst 16 = .ok (.invokestatic 232, 3) := xdc ddB_nst_0 11 rfl
theorem dB_nst_19 : decode cB_nst 19 = .ok (.iconst 0, 1) := xdc ddB_nst_0 12 rfl
theorem dB_nst_20 : decode cB_nst 20 = .ok (.invokespecial 112, 3) := xdc ddB_nst_0 13 rfl
theorem dB_nst_23 : decode cB_nst 23 = .ok (.areturn, 1) := xdc ddB_nst_0 14 rfl
abbrev yB_nst : MethodName := ⟨"java/lang/StringLatin1", "newString", "([BII)Ljava/lang/String;"⟩
abbrev mB_nst : xMd := (yB_nst, cB_nst, 3, (some (.object "java/lang/String")), { frames := 4, cells := 2, slots := 80, locals := 185 })
theorem tB_c_nst : Cond.code yB_nst cB_nst 3 (some (.object "java/lang/String")) ∈ gtbl := gtt_6 21 rfl rfl
theorem tB_s_nst : Cond.static yB_nst ∈ gtbl := gtt_6 20 rfl rfl
theorem mkB_nst : xMkS mB_nst 3 := ⟨⟨tB_c_nst, tB_i_J1, ⟨by decide, by decide⟩, by decide +kernel⟩, tB_s_nst⟩
theorem tB_w_J1_1 : Cond.classLink "java/lang/StringLatin1" 1 "java/lang/String" ∈ gtbl := gtt_6 23 rfl rfl
theorem tB_m_J1_232 : Cond.methodLink "java/lang/StringLatin1" 232 ⟨"java/util/Arrays", "copyOfRange", "([BII)[B"⟩ ∈ gtbl := gtt_6 24 rfl rfl
theorem tB_m_J1_112 : Cond.methodLink "java/lang/StringLatin1" 112 ⟨"java/lang/String", "<init>", "([BB)V"⟩ ∈ gtbl := gtt_6 25 rfl rfl
abbrev cB_sub : ByteArray := prog_26_method_92_code
theorem ddB_sub_0 : xdec cB_sub [(0, (.aload_n 0, 1)), (1, (.invokevirtual 505, 3)), (4, (.istore_n 3, 1)), (5, (.iload_n 1, 1)), (6, (.iload_n 2, 1)), (7, (.iload_n 3, 1)), (8, (.invokestatic 521, 3)), (11, (.iload_n 1, 1)), (12, (.ifCond .ne 10, 3)), (15, (.iload_n 2, 1)), (16, (.iload_n 3, 1)), (17, (.if_icmp .ne 5, 3)), (20, (.aload_n 0, 1)), (21, (.areturn, 1)), (22, (.iload_n 2, 1)), (23, (.iload_n 1, 1)), (24, (.isub, 1)), (25, (.istore 4, 2)), (27, (.aload_n 0, 1)), (28, (.invokevirtual 492, 3)), (31, (.ifCond .eq 16, 3)), (34, (.aload_n 0, 1)), (35, (.getfield 9, 3)), (38, (.iload_n 1, 1)), (39, (.iload 4, 2)), (41, (.invokestatic 685, 3)), (44, (.goto 13, 3)), (47, (.aload_n 0, 1)), (48, (.getfield 9, 3)), (51, (.iload_n 1, 1)), (52, (.iload 4, 2)), (54, (.invokestatic 689, 3)), (57, (.areturn, 1))] = true := by decide +kernel
theorem dB_sub_0 : decode cB_sub 0 = .ok (.aload_n 0, 1) := xdc ddB_sub_0 0 rfl
theorem dB_sub_1 : decode cB_sub 1 = .ok (.invokevirtual 505, 3) := xdc ddB_sub_0 1 rfl
theorem dB_sub_4 : decode cB_sub 4 = .ok (.istore_n 3, 1) := xdc ddB_sub_0 2 rfl
theorem dB_sub_5 : decode cB_sub 5 = .ok (.iload_n 1, 1) := xdc ddB_sub_0 3 rfl
theorem dB_sub_6 : decode cB_sub 6 = .ok (.iload_n 2, 1) := xdc ddB_sub_0 4 rfl
theorem dB_sub_7 : decode cB_sub 7 = .ok (.iload_n 3, 1) := xdc ddB_sub_0 5 rfl
theorem dB_sub_8 : decode cB_sub 8 = .ok (.invokestatic 521, 3) := xdc ddB_sub_0 6 rfl
theorem dB_sub_11 : decode cB_sub 11 = .ok (.iload_n 1, 1) := xdc ddB_sub_0 7 rfl
theorem dB_sub_12 : decode cB_sub 12 = .ok (.ifCond .ne 10, 3) := xdc ddB_sub_0 8 rfl
theorem dB_sub_15 : decode cB_sub 15 = .ok (.iload_n 2, 1) := xdc ddB_sub_0 9 rfl
theorem dB_sub_16 : decode cB_sub 16 = .ok (.iload_n 3, 1) := xdc ddB_sub_0 10 rfl
theorem dB_sub_17 : decode cB_sub 17 = .ok (.if_icmp .ne 5, 3) := xdc ddB_sub_0 11 rfl
theorem dB_sub_20 : decode cB_sub 20 = .ok (.aload_n 0, 1) := xdc ddB_sub_0 12 rfl
theorem dB_sub_21 : decode cB_sub 21 = .ok (.areturn, 1) := xdc ddB_sub_0 13 rfl
theorem dB_sub_22 : decode cB_sub 22 = .ok (.iload_n 2, 1) := xdc ddB_sub_0 14 rfl
theorem dB_sub_23 : decode cB_sub 23 = .ok (.iload_n 1, 1) := xdc ddB_sub_0 15 rfl
theorem dB_sub_24 : decode cB_sub 24 = .ok (.isub, 1) := xdc ddB_sub_0 16 rfl
theorem dB_sub_25 : decode cB_sub 25 = .ok (.istore 4, 2) := xdc ddB_sub_0 17 rfl
theorem dB_sub_27 : decode cB_sub 27 = .ok (.aload_n 0, 1) := xdc ddB_sub_0 18 rfl
theorem dB_sub_28 : decode cB_sub 28 = .ok (.invokevirtual 492, 3) := xdc ddB_sub_0 19 rfl
theorem dB_sub_31 : decode cB_sub 31 = .ok (.ifCond .eq 16, 3) := xdc ddB_sub_0 20 rfl
theorem dB_sub_34 : decode cB_sub 34 = .ok (.aload_n 0, 1) := xdc ddB_sub_0 21 rfl
theorem dB_sub_35 : decode cB_sub 35 = .ok (.getfield 9, 3) := xdc ddB_sub_0 22 rfl
theorem dB_sub_38 : decode cB_sub 38 = .ok (.iload_n 1, 1) := xdc ddB_sub_0 23 rfl
theorem dB_sub_39 : decode cB_sub 39 = .ok (.iload 4, 2) := xdc ddB_sub_0 24 rfl
theorem dB_sub_41 : decode cB_sub 41 = .ok (.invokestatic 685, 3) := xdc ddB_sub_0 25 rfl
theorem dB_sub_44 : decode cB_sub 44 = .ok (.goto 13, 3) := xdc ddB_sub_0 26 rfl
theorem dB_sub_47 : decode cB_sub 47 = .ok (.aload_n 0, 1) := xdc ddB_sub_0 27 rfl
theorem dB_sub_48 : decode cB_sub 48 = .ok (.getfield 9, 3) := xdc ddB_sub_0 28 rfl
theorem dB_sub_51 : decode cB_sub 51 = .ok (.iload_n 1, 1) := xdc ddB_sub_0 29 rfl
theorem dB_sub_52 : decode cB_sub 52 = .ok (.iload 4, 2) := xdc ddB_sub_0 30 rfl
theorem dB_sub_54 : decode cB_sub 54 = .ok (.invokestatic 689, 3) := xdc ddB_sub_0 31 rfl
theorem dB_sub_57 : decode cB_sub 57 = .ok (.areturn, 1) := xdc ddB_sub_0 32 rfl
abbrev yB_sub : MethodName := ⟨"java/lang/String", "substring", "(II)Ljava/lang/String;"⟩
abbrev mB_sub : xMd := (yB_sub, cB_sub, 5, (some (.object "java/lang/String")), { frames := 5, cells := 2, slots := 80, locals := 207 })
theorem tB_c_sub : Cond.code yB_sub cB_sub 5 (some (.object "java/lang/String")) ∈ gtbl := gtt_6 16 rfl rfl
theorem tB_n_sub : Cond.instanceMethod yB_sub ∈ gtbl := gtt_6 14 rfl rfl
theorem tB_e_sub : Cond.selects "java/lang/String" yB_sub yB_sub ∈ gtbl := gtt_6 15 rfl rfl
theorem mkB_sub : xMkV mB_sub 2 := ⟨⟨tB_c_sub, tB_i_J0, ⟨by decide, by decide⟩, by decide +kernel⟩, tB_n_sub, tB_e_sub⟩
theorem tB_m_J0_505 : Cond.methodLink "java/lang/String" 505 ⟨"java/lang/String", "length", "()I"⟩ ∈ gtbl := gtt_6 17 rfl rfl
theorem tB_m_J0_521 : Cond.methodLink "java/lang/String" 521 ⟨"java/lang/String", "checkBoundsBeginEnd", "(III)V"⟩ ∈ gtbl := gtt_6 18 rfl rfl
theorem tB_m_J0_492 : Cond.methodLink "java/lang/String" 492 ⟨"java/lang/String", "isLatin1", "()Z"⟩ ∈ gtbl := gtt_5 207 rfl rfl
theorem tB_m_J0_685 : Cond.methodLink "java/lang/String" 685 ⟨"java/lang/StringLatin1", "newString", "([BII)Ljava/lang/String;"⟩ ∈ gtbl := gtt_6 19 rfl rfl
theorem tB_m_J0_689 : Cond.methodLink "java/lang/String" 689 ⟨"java/lang/StringUTF16", "newString", "([BII)Ljava/lang/String;"⟩ ∈ gtbl := gtt_6 28 rfl rfl
theorem tB_sup : Cond.superclass "java/lang/StringBuilder" "java/lang/AbstractStringBuilder" ∈ gtbl := gtt_2 40 rfl rfl
theorem tB_arr : Cond.arrayClass .byte ∈ gtbl := gtt_1 62 rfl rfl
theorem tB_inst : Cond.instantiable "java/lang/String" 4 ∈ gtbl := gtt_5 15 rfl rfl
