/-! Teller, tell, text: their words and instructions -/
def xfitb (M M2 : xMd) (b2 : Nat × Nat) : Bool := Nat.ble (M2.2.2.2.2.frames + 1) M.2.2.2.2.frames && (Nat.ble (8 + (M2.2.2.1 + 11) + M2.2.2.2.2.locals) M.2.2.2.2.locals && (Nat.beq M2.2.2.2.2.cells b2.1 && Nat.beq M2.2.2.2.2.slots b2.2))
theorem xfitb_ok {M M2 : xMd} {b2 : Nat × Nat} (h : xfitb M M2 b2 = true) : xFitR M M2 b2 := by
  unfold xfitb at h
  rw [Bool.and_eq_true, Bool.and_eq_true, Bool.and_eq_true] at h
  exact ⟨Nat.le_of_ble_eq_true h.1, Nat.le_of_ble_eq_true h.2.1, Nat.eq_of_beq_eq_true h.2.2.1, Nat.eq_of_beq_eq_true h.2.2.2⟩
section XBV
variable {ρ : Type} {ι : ρ → xO × xW} {M : xMd} {L : xLay} {b b2 b3 : Nat × Nat} {pc : Nat} {lv : List (Nat × Value)} {st : List Value} {w : xW} {r : Option ρ} {M2 : xMd} {n idx k ci N : Nat} {T : u_T} {argv rest : List Value}
theorem xj_bVv {rc : Option (Unit × xW)} {F : Unit → xW → Option ρ} (hb : (Nat.ble (b2.1 + b3.1) b.1 && Nat.ble (b2.2 + b3.2) b.2) = true) (hd : decode M.2.1 pc = .ok (.invokevirtual idx, 3)) (hM : xMet jV M2 L b2 (.ref k :: argv) w rc) (hmk : xMkV M2 n) (hlink : Cond.methodLink M.1.cls idx M2.1 ∈ gtbl) (hf : xfitb M M2 b2 = true) (hk : L.2.1[k]? = some (.inl ci)) (hc : L.1[ci]? = some (M2.1.cls, T, N)) (hn : argv.length = n) (hst : st = argv.reverse ++ .ref k :: rest) (hsum : Nat.ble (rest.map fun v => v.category).sum 8 = true)
    (kk : ∀ (x : Unit) (w1 : xW), xJ ι M L b3 (pc + 3) lv (rest) w1 (F x w1)) : xJ ι M L b pc lv st w (xbd rc F) := by
  rw [Bool.and_eq_true] at hb
  exact xj_callV (fun x => []) (fun _ _ => rfl) (Nat.le_of_ble_eq_true hb.1) (Nat.le_of_ble_eq_true hb.2) hd hM hmk hlink (xfitb_ok hf) hk hc hn hst (Nat.le_of_ble_eq_true hsum) (fun x w1 _ => kk x w1)
theorem xj_bVi {rc : Option (Int32 × xW)} {F : Int32 → xW → Option ρ} (hb : (Nat.ble (b2.1 + b3.1) b.1 && Nat.ble (b2.2 + b3.2) b.2) = true) (hd : decode M.2.1 pc = .ok (.invokevirtual idx, 3)) (hM : xMet jI M2 L b2 (.ref k :: argv) w rc) (hmk : xMkV M2 n) (hlink : Cond.methodLink M.1.cls idx M2.1 ∈ gtbl) (hf : xfitb M M2 b2 = true) (hk : L.2.1[k]? = some (.inl ci)) (hc : L.1[ci]? = some (M2.1.cls, T, N)) (hn : argv.length = n) (hst : st = argv.reverse ++ .ref k :: rest) (hsum : Nat.ble (rest.map fun v => v.category).sum 8 = true)
    (kk : ∀ (x : Int32) (w1 : xW), xJ ι M L b3 (pc + 3) lv (.int x :: rest) w1 (F x w1)) : xJ ι M L b pc lv st w (xbd rc F) := by
  rw [Bool.and_eq_true] at hb
  exact xj_callV (fun x => [.int x]) (fun _ _ => rfl) (Nat.le_of_ble_eq_true hb.1) (Nat.le_of_ble_eq_true hb.2) hd hM hmk hlink (xfitb_ok hf) hk hc hn hst (Nat.le_of_ble_eq_true hsum) (fun x w1 _ => kk x w1)
end XBV
abbrev cX10_addRegister : ByteArray := prog_12_method_8_code
theorem ddX10_addRegister_0 : xdec cX10_addRegister [(0, (.iload_n 1, 1)), (1, (.bipush 7, 2)), (3, (.iand, 1)), (4, (.istore_n 3, 1)), (5, (.iload_n 2, 1)), (6, (.iconst 4, 1)), (7, (.if_icmp .ne 27, 3)), (10, (.aload_n 0, 1)), (11, (.getfield 12, 3)), (14, (.ldc 113, 2)), (16, (.iconst 3, 1)), (17, (.iload_n 3, 1)), (18, (.imul, 1)), (19, (.iconst 3, 1)), (20, (.iload_n 3, 1)), (21, (.imul, 1)), (22, (.iconst 3, 1)), (23, (.iadd, 1)), (24, (.invokevirtual 115, 3)), (27, (.invokevirtual 38, 3)), (30, (.pop, 1)), (31, (.goto 38, 3)), (34, (.iload_n 2, 1)), (35, (.iconst 2, 1)), (36, (.if_icmp .ne 8, 3)), (39, (.ldc 119, 2)), (41, (.goto 5, 3)), (44, (.ldc 121, 2)), (46, (.astore 4, 2)), (48, (.aload_n 0, 1)), (49, (.getfield 12, 3)), (52, (.aload 4, 2)), (54, (.iconst 2, 1)), (55, (.iload_n 3, 1)), (56, (.imul, 1)), (57, (.iconst 2, 1)), (58, (.iload_n 3, 1)), (59, (.imul, 1)), (60, (.iconst 2, 1)), (61, (.iadd, 1))] = true := by decide +kernel
theorem dX10_addRegister_0 : decode cX10_addRegister 0 = .ok (.iload_n 1, 1) := xdc ddX10_addRegister_0 0 rfl
theorem dX10_addRegister_1 : decode cX10_addRegister 1 = .ok (.bipush 7, 2) := xdc ddX10_addRegister_0 1 rfl
theorem dX10_addRegister_3 : decode cX10_addRegister 3 = .ok (.iand, 1) := xdc ddX10_addRegister_0 2 rfl
theorem dX10_addRegister_4 : decode cX10_addRegister 4 = .ok (.istore_n 3, 1) := xdc ddX10_addRegister_0 3 rfl
theorem dX10_addRegister_5 : decode cX10_addRegister 5 = .ok (.iload_n 2, 1) := xdc ddX10_addRegister_0 4 rfl
theorem dX10_addRegister_6 : decode cX10_addRegister 6 = .ok (.iconst 4, 1) := xdc ddX10_addRegister_0 5 rfl
theorem dX10_addRegister_7 : decode cX10_addRegister 7 = .ok (.if_icmp .ne 27, 3) := xdc ddX10_addRegister_0 6 rfl
theorem dX10_addRegister_10 : decode cX10_addRegister 10 = .ok (.aload_n 0, 1) := xdc ddX10_addRegister_0 7 rfl
theorem dX10_addRegister_11 : decode cX10_addRegister 11 = .ok (.getfield 12, 3) := xdc ddX10_addRegister_0 8 rfl
theorem dX10_addRegister_14 : decode cX10_addRegister 14 = .ok (.ldc 113, 2) := xdc ddX10_addRegister_0 9 rfl
theorem dX10_addRegister_16 : decode cX10_addRegister 16 = .ok (.iconst 3, 1) := xdc ddX10_addRegister_0 10 rfl
theorem dX10_addRegister_17 : decode cX10_addRegister 17 = .ok (.iload_n 3, 1) := xdc ddX10_addRegister_0 11 rfl
theorem dX10_addRegister_18 : decode cX10_addRegister 18 = .ok (.imul, 1) := xdc ddX10_addRegister_0 12 rfl
theorem dX10_addRegister_19 : decode cX10_addRegister 19 = .ok (.iconst 3, 1) := xdc ddX10_addRegister_0 13 rfl
theorem dX10_addRegister_20 : decode cX10_addRegister 20 = .ok (.iload_n 3, 1) := xdc ddX10_addRegister_0 14 rfl
theorem dX10_addRegister_21 : decode cX10_addRegister 21 = .ok (.imul, 1) := xdc ddX10_addRegister_0 15 rfl
theorem dX10_addRegister_22 : decode cX10_addRegister 22 = .ok (.iconst 3, 1) := xdc ddX10_addRegister_0 16 rfl
theorem dX10_addRegister_23 : decode cX10_addRegister 23 = .ok (.iadd, 1) := xdc ddX10_addRegister_0 17 rfl
theorem dX10_addRegister_24 : decode cX10_addRegister 24 = .ok (.invokevirtual 115, 3) := xdc ddX10_addRegister_0 18 rfl
theorem dX10_addRegister_27 : decode cX10_addRegister 27 = .ok (.invokevirtual 38, 3) := xdc ddX10_addRegister_0 19 rfl
theorem dX10_addRegister_30 : decode cX10_addRegister 30 = .ok (.pop, 1) := xdc ddX10_addRegister_0 20 rfl
theorem dX10_addRegister_31 : decode cX10_addRegister 31 = .ok (.goto 38, 3) := xdc ddX10_addRegister_0 21 rfl
theorem dX10_addRegister_34 : decode cX10_addRegister 34 = .ok (.iload_n 2, 1) := xdc ddX10_addRegister_0 22 rfl
theorem dX10_addRegister_35 : decode cX10_addRegister 35 = .ok (.iconst 2, 1) := xdc ddX10_addRegister_0 23 rfl
theorem dX10_addRegister_36 : decode cX10_addRegister 36 = .ok (.if_icmp .ne 8, 3) := xdc ddX10_addRegister_0 24 rfl
theorem dX10_addRegister_39 : decode cX10_addRegister 39 = .ok (.ldc 119, 2) := xdc ddX10_addRegister_0 25 rfl
theorem dX10_addRegister_41 : decode cX10_addRegister 41 = .ok (.goto 5, 3) := xdc ddX10_addRegister_0 26 rfl
theorem dX10_addRegister_44 : decode cX10_addRegister 44 = .ok (.ldc 121, 2) := xdc ddX10_addRegister_0 27 rfl
theorem dX10_addRegister_46 : decode cX10_addRegister 46 = .ok (.astore 4, 2) := xdc ddX10_addRegister_0 28 rfl
theorem dX10_addRegister_48 : decode cX10_addRegister 48 = .ok (.aload_n 0, 1) := xdc ddX10_addRegister_0 29 rfl
theorem dX10_addRegister_49 : decode cX10_addRegister 49 = .ok (.getfield 12, 3) := xdc ddX10_addRegister_0 30 rfl
theorem dX10_addRegister_52 : decode cX10_addRegister 52 = .ok (.aload 4, 2) := xdc ddX10_addRegister_0 31 rfl
theorem dX10_addRegister_54 : decode cX10_addRegister 54 = .ok (.iconst 2, 1) := xdc ddX10_addRegister_0 32 rfl
theorem dX10_addRegister_55 : decode cX10_addRegister 55 = .ok (.iload_n 3, 1) := xdc ddX10_addRegister_0 33 rfl
theorem dX10_addRegister_56 : decode cX10_addRegister 56 = .ok (.imul, 1) := xdc ddX10_addRegister_0 34 rfl
theorem dX10_addRegister_57 : decode cX10_addRegister 57 = .ok (.iconst 2, 1) := xdc ddX10_addRegister_0 35 rfl
theorem dX10_addRegister_58 : decode cX10_addRegister 58 = .ok (.iload_n 3, 1) := xdc ddX10_addRegister_0 36 rfl
theorem dX10_addRegister_59 : decode cX10_addRegister 59 = .ok (.imul, 1) := xdc ddX10_addRegister_0 37 rfl
theorem dX10_addRegister_60 : decode cX10_addRegister 60 = .ok (.iconst 2, 1) := xdc ddX10_addRegister_0 38 rfl
theorem dX10_addRegister_61 : decode cX10_addRegister 61 = .ok (.iadd, 1) := xdc ddX10_addRegister_0 39 rfl
theorem ddX10_addRegister_1 : xdec cX10_addRegister [(62, (.invokevirtual 115, 3)), (65, (.invokevirtual 38, 3)), (68, (.pop, 1)), (69, (.return_, 1))] = true := by decide +kernel
theorem dX10_addRegister_62 : decode cX10_addRegister 62 = .ok (.invokevirtual 115, 3) := xdc ddX10_addRegister_1 0 rfl
theorem dX10_addRegister_65 : decode cX10_addRegister 65 = .ok (.invokevirtual 38, 3) := xdc ddX10_addRegister_1 1 rfl
theorem dX10_addRegister_68 : decode cX10_addRegister 68 = .ok (.pop, 1) := xdc ddX10_addRegister_1 2 rfl
theorem dX10_addRegister_69 : decode cX10_addRegister 69 = .ok (.return_, 1) := xdc ddX10_addRegister_1 3 rfl
abbrev cX10_addLastNumber : ByteArray := prog_12_method_6_code
theorem ddX10_addLastNumber_0 : xdec cX10_addLastNumber [(0, (.aload_n 0, 1)), (1, (.getfield 12, 3)), (4, (.bipush 44, 2)), (6, (.invokevirtual 58, 3)), (9, (.aload_n 0, 1)), (10, (.getfield 18, 3)), (13, (.getfield 98, 3)), (16, (.invokevirtual 104, 3)), (19, (.pop, 1)), (20, (.return_, 1))] = true := by decide +kernel
theorem dX10_addLastNumber_0 : decode cX10_addLastNumber 0 = .ok (.aload_n 0, 1) := xdc ddX10_addLastNumber_0 0 rfl
theorem dX10_addLastNumber_1 : decode cX10_addLastNumber 1 = .ok (.getfield 12, 3) := xdc ddX10_addLastNumber_0 1 rfl
theorem dX10_addLastNumber_4 : decode cX10_addLastNumber 4 = .ok (.bipush 44, 2) := xdc ddX10_addLastNumber_0 2 rfl
theorem dX10_addLastNumber_6 : decode cX10_addLastNumber 6 = .ok (.invokevirtual 58, 3) := xdc ddX10_addLastNumber_0 3 rfl
theorem dX10_addLastNumber_9 : decode cX10_addLastNumber 9 = .ok (.aload_n 0, 1) := xdc ddX10_addLastNumber_0 4 rfl
theorem dX10_addLastNumber_10 : decode cX10_addLastNumber 10 = .ok (.getfield 18, 3) := xdc ddX10_addLastNumber_0 5 rfl
theorem dX10_addLastNumber_13 : decode cX10_addLastNumber 13 = .ok (.getfield 98, 3) := xdc ddX10_addLastNumber_0 6 rfl
theorem dX10_addLastNumber_16 : decode cX10_addLastNumber 16 = .ok (.invokevirtual 104, 3) := xdc ddX10_addLastNumber_0 7 rfl
theorem dX10_addLastNumber_19 : decode cX10_addLastNumber 19 = .ok (.pop, 1) := xdc ddX10_addLastNumber_0 8 rfl
theorem dX10_addLastNumber_20 : decode cX10_addLastNumber 20 = .ok (.return_, 1) := xdc ddX10_addLastNumber_0 9 rfl
abbrev cX10_addUnsigned : ByteArray := prog_12_method_7_code
theorem ddX10_addUnsigned_0 : xdec cX10_addUnsigned [(0, (.iload_n 1, 1)), (1, (.invokestatic 107, 3)), (4, (.lstore_n 2, 1)), (5, (.lload_n 2, 1)), (6, (.ldc2_w 111, 3)), (9, (.lcmp, 1)), (10, (.ifCond .lt 17, 3)), (13, (.aload_n 0, 1)), (14, (.getfield 12, 3)), (17, (.lload_n 2, 1)), (18, (.ldc2_w 111, 3)), (21, (.ldiv, 1)), (22, (.l2i, 1)), (23, (.invokevirtual 104, 3)), (26, (.pop, 1)), (27, (.aload_n 0, 1)), (28, (.getfield 12, 3)), (31, (.lload_n 2, 1)), (32, (.ldc2_w 111, 3)), (35, (.lrem, 1)), (36, (.l2i, 1)), (37, (.invokevirtual 104, 3)), (40, (.pop, 1)), (41, (.return_, 1))] = true := by decide +kernel
theorem dX10_addUnsigned_0 : decode cX10_addUnsigned 0 = .ok (.iload_n 1, 1) := xdc ddX10_addUnsigned_0 0 rfl
theorem dX10_addUnsigned_1 : decode cX10_addUnsigned 1 = .ok (.invokestatic 107, 3) := xdc ddX10_addUnsigned_0 1 rfl
theorem dX10_addUnsigned_4 : decode cX10_addUnsigned 4 = .ok (.lstore_n 2, 1) := xdc ddX10_addUnsigned_0 2 rfl
theorem dX10_addUnsigned_5 : decode cX10_addUnsigned 5 = .ok (.lload_n 2, 1) := xdc ddX10_addUnsigned_0 3 rfl
theorem dX10_addUnsigned_6 : decode cX10_addUnsigned 6 = .ok (.ldc2_w 111, 3) := xdc ddX10_addUnsigned_0 4 rfl
theorem dX10_addUnsigned_9 : decode cX10_addUnsigned 9 = .ok (.lcmp, 1) := xdc ddX10_addUnsigned_0 5 rfl
theorem dX10_addUnsigned_10 : decode cX10_addUnsigned 10 = .ok (.ifCond .lt 17, 3) := xdc ddX10_addUnsigned_0 6 rfl
theorem dX10_addUnsigned_13 : decode cX10_addUnsigned 13 = .ok (.aload_n 0, 1) := xdc ddX10_addUnsigned_0 7 rfl
theorem dX10_addUnsigned_14 : decode cX10_addUnsigned 14 = .ok (.getfield 12, 3) := xdc ddX10_addUnsigned_0 8 rfl
theorem dX10_addUnsigned_17 : decode cX10_addUnsigned 17 = .ok (.lload_n 2, 1) := xdc ddX10_addUnsigned_0 9 rfl
theorem dX10_addUnsigned_18 : decode cX10_addUnsigned 18 = .ok (.ldc2_w 111, 3) := xdc ddX10_addUnsigned_0 10 rfl
theorem dX10_addUnsigned_21 : decode cX10_addUnsigned 21 = .ok (.ldiv, 1) := xdc ddX10_addUnsigned_0 11 rfl
theorem dX10_addUnsigned_22 : decode cX10_addUnsigned 22 = .ok (.l2i, 1) := xdc ddX10_addUnsigned_0 12 rfl
theorem dX10_addUnsigned_23 : decode cX10_addUnsigned 23 = .ok (.invokevirtual 104, 3) := xdc ddX10_addUnsigned_0 13 rfl
theorem dX10_addUnsigned_26 : decode cX10_addUnsigned 26 = .ok (.pop, 1) := xdc ddX10_addUnsigned_0 14 rfl
theorem dX10_addUnsigned_27 : decode cX10_addUnsigned 27 = .ok (.aload_n 0, 1) := xdc ddX10_addUnsigned_0 15 rfl
theorem dX10_addUnsigned_28 : decode cX10_addUnsigned 28 = .ok (.getfield 12, 3) := xdc ddX10_addUnsigned_0 16 rfl
theorem dX10_addUnsigned_31 : decode cX10_addUnsigned 31 = .ok (.lload_n 2, 1) := xdc ddX10_addUnsigned_0 17 rfl
theorem dX10_addUnsigned_32 : decode cX10_addUnsigned 32 = .ok (.ldc2_w 111, 3) := xdc ddX10_addUnsigned_0 18 rfl
theorem dX10_addUnsigned_35 : decode cX10_addUnsigned 35 = .ok (.lrem, 1) := xdc ddX10_addUnsigned_0 19 rfl
theorem dX10_addUnsigned_36 : decode cX10_addUnsigned 36 = .ok (.l2i, 1) := xdc ddX10_addUnsigned_0 20 rfl
theorem dX10_addUnsigned_37 : decode cX10_addUnsigned 37 = .ok (.invokevirtual 104, 3) := xdc ddX10_addUnsigned_0 21 rfl
theorem dX10_addUnsigned_40 : decode cX10_addUnsigned 40 = .ok (.pop, 1) := xdc ddX10_addUnsigned_0 22 rfl
theorem dX10_addUnsigned_41 : decode cX10_addUnsigned 41 = .ok (.return_, 1) := xdc ddX10_addUnsigned_0 23 rfl
abbrev cX10_addCondition : ByteArray := prog_12_method_4_code
theorem ddX10_addCondition_0 : xdec cX10_addCondition [(0, (.iconst 2, 1)), (1, (.aload_n 0, 1)), (2, (.getfield 18, 3)), (5, (.getfield 72, 3)), (8, (.bipush 15, 2)), (10, (.iand, 1)), (11, (.imul, 1)), (12, (.istore_n 1, 1)), (13, (.aload_n 0, 1)), (14, (.getfield 12, 3)), (17, (.ldc 75, 2)), (19, (.iload_n 1, 1)), (20, (.invokevirtual 77, 3)), (23, (.invokevirtual 58, 3)), (26, (.pop, 1)), (27, (.ldc 75, 2)), (29, (.iload_n 1, 1)), (30, (.iconst 1, 1)), (31, (.iadd, 1)), (32, (.invokevirtual 77, 3)), (35, (.bipush 32, 2)), (37, (.if_icmp .eq 19, 3)), (40, (.aload_n 0, 1)), (41, (.getfield 12, 3)), (44, (.ldc 75, 2)), (46, (.iload_n 1, 1)), (47, (.iconst 1, 1)), (48, (.iadd, 1)), (49, (.invokevirtual 77, 3)), (52, (.invokevirtual 58, 3)), (55, (.pop, 1)), (56, (.return_, 1))] = true := by decide +kernel
theorem dX10_addCondition_0 : decode cX10_addCondition 0 = .ok (.iconst 2, 1) := xdc ddX10_addCondition_0 0 rfl
theorem dX10_addCondition_1 : decode cX10_addCondition 1 = .ok (.aload_n 0, 1) := xdc ddX10_addCondition_0 1 rfl
theorem dX10_addCondition_2 : decode cX10_addCondition 2 = .ok (.getfield 18, 3) := xdc ddX10_addCondition_0 2 rfl
theorem dX10_addCondition_5 : decode cX10_addCondition 5 = .ok (.getfield 72, 3) := xdc ddX10_addCondition_0 3 rfl
theorem dX10_addCondition_8 : decode cX10_addCondition 8 = .ok (.bipush 15, 2) := xdc ddX10_addCondition_0 4 rfl
theorem dX10_addCondition_10 : decode cX10_addCondition 10 = .ok (.iand, 1) := xdc ddX10_addCondition_0 5 rfl
theorem dX10_addCondition_11 : decode cX10_addCondition 11 = .ok (.imul, 1) := xdc ddX10_addCondition_0 6 rfl
theorem dX10_addCondition_12 : decode cX10_addCondition 12 = .ok (.istore_n 1, 1) := xdc ddX10_addCondition_0 7 rfl
theorem dX10_addCondition_13 : decode cX10_addCondition 13 = .ok (.aload_n 0, 1) := xdc ddX10_addCondition_0 8 rfl
theorem dX10_addCondition_14 : decode cX10_addCondition 14 = .ok (.getfield 12, 3) := xdc ddX10_addCondition_0 9 rfl
theorem dX10_addCondition_17 : decode cX10_addCondition 17 = .ok (.ldc 75, 2) := xdc ddX10_addCondition_0 10 rfl
theorem dX10_addCondition_19 : decode cX10_addCondition 19 = .ok (.iload_n 1, 1) := xdc ddX10_addCondition_0 11 rfl
theorem dX10_addCondition_20 : decode cX10_addCondition 20 = .ok (.invokevirtual 77, 3) := xdc ddX10_addCondition_0 12 rfl
theorem dX10_addCondition_23 : decode cX10_addCondition 23 = .ok (.invokevirtual 58, 3) := xdc ddX10_addCondition_0 13 rfl
theorem dX10_addCondition_26 : decode cX10_addCondition 26 = .ok (.pop, 1) := xdc ddX10_addCondition_0 14 rfl
theorem dX10_addCondition_27 : decode cX10_addCondition 27 = .ok (.ldc 75, 2) := xdc ddX10_addCondition_0 15 rfl
theorem dX10_addCondition_29 : decode cX10_addCondition 29 = .ok (.iload_n 1, 1) := xdc ddX10_addCondition_0 16 rfl
theorem dX10_addCondition_30 : decode cX10_addCondition 30 = .ok (.iconst 1, 1) := xdc ddX10_addCondition_0 17 rfl
theorem dX10_addCondition_31 : decode cX10_addCondition 31 = .ok (.iadd, 1) := xdc ddX10_addCondition_0 18 rfl
theorem dX10_addCondition_32 : decode cX10_addCondition 32 = .ok (.invokevirtual 77, 3) := xdc ddX10_addCondition_0 19 rfl
theorem dX10_addCondition_35 : decode cX10_addCondition 35 = .ok (.bipush 32, 2) := xdc ddX10_addCondition_0 20 rfl
theorem dX10_addCondition_37 : decode cX10_addCondition 37 = .ok (.if_icmp .eq 19, 3) := xdc ddX10_addCondition_0 21 rfl
theorem dX10_addCondition_40 : decode cX10_addCondition 40 = .ok (.aload_n 0, 1) := xdc ddX10_addCondition_0 22 rfl
theorem dX10_addCondition_41 : decode cX10_addCondition 41 = .ok (.getfield 12, 3) := xdc ddX10_addCondition_0 23 rfl
theorem dX10_addCondition_44 : decode cX10_addCondition 44 = .ok (.ldc 75, 2) := xdc ddX10_addCondition_0 24 rfl
theorem dX10_addCondition_46 : decode cX10_addCondition 46 = .ok (.iload_n 1, 1) := xdc ddX10_addCondition_0 25 rfl
theorem dX10_addCondition_47 : decode cX10_addCondition 47 = .ok (.iconst 1, 1) := xdc ddX10_addCondition_0 26 rfl
theorem dX10_addCondition_48 : decode cX10_addCondition 48 = .ok (.iadd, 1) := xdc ddX10_addCondition_0 27 rfl
theorem dX10_addCondition_49 : decode cX10_addCondition 49 = .ok (.invokevirtual 77, 3) := xdc ddX10_addCondition_0 28 rfl
theorem dX10_addCondition_52 : decode cX10_addCondition 52 = .ok (.invokevirtual 58, 3) := xdc ddX10_addCondition_0 29 rfl
theorem dX10_addCondition_55 : decode cX10_addCondition 55 = .ok (.pop, 1) := xdc ddX10_addCondition_0 30 rfl
theorem dX10_addCondition_56 : decode cX10_addCondition 56 = .ok (.return_, 1) := xdc ddX10_addCondition_0 31 rfl
abbrev cX10_addAddress : ByteArray := prog_12_method_10_code
theorem ddX10_addAddress_0 : xdec cX10_addAddress [(0, (.aload_n 0, 1)), (1, (.getfield 18, 3)), (4, (.getfield 136, 3)), (7, (.iconst (-1), 1)), (8, (.if_icmp .eq 15, 3)), (11, (.aload_n 0, 1)), (12, (.aload_n 0, 1)), (13, (.getfield 18, 3)), (16, (.getfield 136, 3)), (19, (.iconst 4, 1)), (20, (.invokevirtual 89, 3)), (23, (.aload_n 0, 1)), (24, (.getfield 18, 3)), (27, (.getfield 139, 3)), (30, (.iconst (-1), 1)), (31, (.if_icmp .eq 60, 3)), (34, (.aload_n 0, 1)), (35, (.getfield 18, 3)), (38, (.getfield 136, 3)), (41, (.iconst (-1), 1)), (42, (.if_icmp .eq 13, 3)), (45, (.aload_n 0, 1)), (46, (.getfield 12, 3)), (49, (.bipush 43, 2)), (51, (.invokevirtual 58, 3)), (54, (.pop, 1)), (55, (.aload_n 0, 1)), (56, (.aload_n 0, 1)), (57, (.getfield 18, 3)), (60, (.getfield 139, 3)), (63, (.iconst 4, 1)), (64, (.invokevirtual 89, 3)), (67, (.aload_n 0, 1)), (68, (.getfield 12, 3)), (71, (.bipush 42, 2)), (73, (.invokevirtual 58, 3)), (76, (.iconst 1, 1)), (77, (.aload_n 0, 1)), (78, (.getfield 18, 3)), (81, (.getfield 142, 3))] = true := by decide +kernel
theorem dX10_addAddress_0 : decode cX10_addAddress 0 = .ok (.aload_n 0, 1) := xdc ddX10_addAddress_0 0 rfl
theorem dX10_addAddress_1 : decode cX10_addAddress 1 = .ok (.getfield 18, 3) := xdc ddX10_addAddress_0 1 rfl
theorem dX10_addAddress_4 : decode cX10_addAddress 4 = .ok (.getfield 136, 3) := xdc ddX10_addAddress_0 2 rfl
theorem dX10_addAddress_7 : decode cX10_addAddress 7 = .ok (.iconst (-1), 1) := xdc ddX10_addAddress_0 3 rfl
theorem dX10_addAddress_8 : decode cX10_addAddress 8 = .ok (.if_icmp .eq 15, 3) := xdc ddX10_addAddress_0 4 rfl
theorem dX10_addAddress_11 : decode cX10_addAddress 11 = .ok (.aload_n 0, 1) := xdc ddX10_addAddress_0 5 rfl
theorem dX10_addAddress_12 : decode cX10_addAddress 12 = .ok (.aload_n 0, 1) := xdc ddX10_addAddress_0 6 rfl
theorem dX10_addAddress_13 : decode cX10_addAddress 13 = .ok (.getfield 18, 3) := xdc ddX10_addAddress_0 7 rfl
theorem dX10_addAddress_16 : decode cX10_addAddress 16 = .ok (.getfield 136, 3) := xdc ddX10_addAddress_0 8 rfl
theorem dX10_addAddress_19 : decode cX10_addAddress 19 = .ok (.iconst 4, 1) := xdc ddX10_addAddress_0 9 rfl
theorem dX10_addAddress_20 : decode cX10_addAddress 20 = .ok (.invokevirtual 89, 3) := xdc ddX10_addAddress_0 10 rfl
theorem dX10_addAddress_23 : decode cX10_addAddress 23 = .ok (.aload_n 0, 1) := xdc ddX10_addAddress_0 11 rfl
theorem dX10_addAddress_24 : decode cX10_addAddress 24 = .ok (.getfield 18, 3) := xdc ddX10_addAddress_0 12 rfl
theorem dX10_addAddress_27 : decode cX10_addAddress 27 = .ok (.getfield 139, 3) := xdc ddX10_addAddress_0 13 rfl
theorem dX10_addAddress_30 : decode cX10_addAddress 30 = .ok (.iconst (-1), 1) := xdc ddX10_addAddress_0 14 rfl
theorem dX10_addAddress_31 : decode cX10_addAddress 31 = .ok (.if_icmp .eq 60, 3) := xdc ddX10_addAddress_0 15 rfl
theorem dX10_addAddress_34 : decode cX10_addAddress 34 = .ok (.aload_n 0, 1) := xdc ddX10_addAddress_0 16 rfl
theorem dX10_addAddress_35 : decode cX10_addAddress 35 = .ok (.getfield 18, 3) := xdc ddX10_addAddress_0 17 rfl
theorem dX10_addAddress_38 : decode cX10_addAddress 38 = .ok (.getfield 136, 3) := xdc ddX10_addAddress_0 18 rfl
theorem dX10_addAddress_41 : decode cX10_addAddress 41 = .ok (.iconst (-1), 1) := xdc ddX10_addAddress_0 19 rfl
theorem dX10_addAddress_42 : decode cX10_addAddress 42 = .ok (.if_icmp .eq 13, 3) := xdc ddX10_addAddress_0 20 rfl
theorem dX10_addAddress_45 : decode cX10_addAddress 45 = .ok (.aload_n 0, 1) := xdc ddX10_addAddress_0 21 rfl
theorem dX10_addAddress_46 : decode cX10_addAddress 46 = .ok (.getfield 12, 3) := xdc ddX10_addAddress_0 22 rfl
theorem dX10_addAddress_49 : decode cX10_addAddress 49 = .ok (.bipush 43, 2) := xdc ddX10_addAddress_0 23 rfl
theorem dX10_addAddress_51 : decode cX10_addAddress 51 = .ok (.invokevirtual 58, 3) := xdc ddX10_addAddress_0 24 rfl
theorem dX10_addAddress_54 : decode cX10_addAddress 54 = .ok (.pop, 1) := xdc ddX10_addAddress_0 25 rfl
theorem dX10_addAddress_55 : decode cX10_addAddress 55 = .ok (.aload_n 0, 1) := xdc ddX10_addAddress_0 26 rfl
theorem dX10_addAddress_56 : decode cX10_addAddress 56 = .ok (.aload_n 0, 1) := xdc ddX10_addAddress_0 27 rfl
theorem dX10_addAddress_57 : decode cX10_addAddress 57 = .ok (.getfield 18, 3) := xdc ddX10_addAddress_0 28 rfl
theorem dX10_addAddress_60 : decode cX10_addAddress 60 = .ok (.getfield 139, 3) := xdc ddX10_addAddress_0 29 rfl
theorem dX10_addAddress_63 : decode cX10_addAddress 63 = .ok (.iconst 4, 1) := xdc ddX10_addAddress_0 30 rfl
theorem dX10_addAddress_64 : decode cX10_addAddress 64 = .ok (.invokevirtual 89, 3) := xdc ddX10_addAddress_0 31 rfl
theorem dX10_addAddress_67 : decode cX10_addAddress 67 = .ok (.aload_n 0, 1) := xdc ddX10_addAddress_0 32 rfl
theorem dX10_addAddress_68 : decode cX10_addAddress 68 = .ok (.getfield 12, 3) := xdc ddX10_addAddress_0 33 rfl
theorem dX10_addAddress_71 : decode cX10_addAddress 71 = .ok (.bipush 42, 2) := xdc ddX10_addAddress_0 34 rfl
theorem dX10_addAddress_73 : decode cX10_addAddress 73 = .ok (.invokevirtual 58, 3) := xdc ddX10_addAddress_0 35 rfl
theorem dX10_addAddress_76 : decode cX10_addAddress 76 = .ok (.iconst 1, 1) := xdc ddX10_addAddress_0 36 rfl
theorem dX10_addAddress_77 : decode cX10_addAddress 77 = .ok (.aload_n 0, 1) := xdc ddX10_addAddress_0 37 rfl
theorem dX10_addAddress_78 : decode cX10_addAddress 78 = .ok (.getfield 18, 3) := xdc ddX10_addAddress_0 38 rfl
theorem dX10_addAddress_81 : decode cX10_addAddress 81 = .ok (.getfield 142, 3) := xdc ddX10_addAddress_0 39 rfl
theorem ddX10_addAddress_1 : xdec cX10_addAddress [(84, (.iconst 3, 1)), (85, (.iand, 1)), (86, (.ishl, 1)), (87, (.invokevirtual 104, 3)), (90, (.pop, 1)), (91, (.aload_n 0, 1)), (92, (.getfield 18, 3)), (95, (.getfield 136, 3)), (98, (.iconst (-1), 1)), (99, (.if_icmp .ne 18, 3)), (102, (.aload_n 0, 1)), (103, (.getfield 18, 3)), (106, (.getfield 139, 3)), (109, (.iconst (-1), 1)), (110, (.if_icmp .ne 7, 3)), (113, (.iconst 1, 1)), (114, (.goto 4, 3)), (117, (.iconst 0, 1)), (118, (.istore_n 1, 1)), (119, (.iload_n 1, 1)), (120, (.ifCond .ne 23, 3)), (123, (.aload_n 0, 1)), (124, (.getfield 18, 3)), (127, (.getfield 145, 3)), (130, (.ifCond .le 13, 3)), (133, (.aload_n 0, 1)), (134, (.getfield 12, 3)), (137, (.bipush 43, 2)), (139, (.invokevirtual 58, 3)), (142, (.pop, 1)), (143, (.iload_n 1, 1)), (144, (.ifCond .ne 13, 3)), (147, (.aload_n 0, 1)), (148, (.getfield 18, 3)), (151, (.getfield 145, 3)), (154, (.ifCond .eq 18, 3)), (157, (.aload_n 0, 1)), (158, (.getfield 12, 3)), (161, (.aload_n 0, 1)), (162, (.getfield 18, 3))] = true := by decide +kernel
theorem dX10_addAddress_84 : decode cX10_addAddress 84 = .ok (.iconst 3, 1) := xdc ddX10_addAddress_1 0 rfl
theorem dX10_addAddress_85 : decode cX10_addAddress 85 = .ok (.iand, 1) := xdc ddX10_addAddress_1 1 rfl
theorem dX10_addAddress_86 : decode cX10_addAddress 86 = .ok (.ishl, 1) := xdc ddX10_addAddress_1 2 rfl
theorem dX10_addAddress_87 : decode cX10_addAddress 87 = .ok (.invokevirtual 104, 3) := xdc ddX10_addAddress_1 3 rfl
theorem dX10_addAddress_90 : decode cX10_addAddress 90 = .ok (.pop, 1) := xdc ddX10_addAddress_1 4 rfl
theorem dX10_addAddress_91 : decode cX10_addAddress 91 = .ok (.aload_n 0, 1) := xdc ddX10_addAddress_1 5 rfl
theorem dX10_addAddress_92 : decode cX10_addAddress 92 = .ok (.getfield 18, 3) := xdc ddX10_addAddress_1 6 rfl
theorem dX10_addAddress_95 : decode cX10_addAddress 95 = .ok (.getfield 136, 3) := xdc ddX10_addAddress_1 7 rfl
theorem dX10_addAddress_98 : decode cX10_addAddress 98 = .ok (.iconst (-1), 1) := xdc ddX10_addAddress_1 8 rfl
theorem dX10_addAddress_99 : decode cX10_addAddress 99 = .ok (.if_icmp .ne 18, 3) := xdc ddX10_addAddress_1 9 rfl
theorem dX10_addAddress_102 : decode cX10_addAddress 102 = .ok (.aload_n 0, 1) := xdc ddX10_addAddress_1 10 rfl
theorem dX10_addAddress_103 : decode cX10_addAddress 103 = .ok (.getfield 18, 3) := xdc ddX10_addAddress_1 11 rfl
theorem dX10_addAddress_106 : decode cX10_addAddress 106 = .ok (.getfield 139, 3) := xdc ddX10_addAddress_1 12 rfl
theorem dX10_addAddress_109 : decode cX10_addAddress 109 = .ok (.iconst (-1), 1) := xdc ddX10_addAddress_1 13 rfl
theorem dX10_addAddress_110 : decode cX10_addAddress 110 = .ok (.if_icmp .ne 7, 3) := xdc ddX10_addAddress_1 14 rfl
theorem dX10_addAddress_113 : decode cX10_addAddress 113 = .ok (.iconst 1, 1) := xdc ddX10_addAddress_1 15 rfl
theorem dX10_addAddress_114 : decode cX10_addAddress 114 = .ok (.goto 4, 3) := xdc ddX10_addAddress_1 16 rfl
theorem dX10_addAddress_117 : decode cX10_addAddress 117 = .ok (.iconst 0, 1) := xdc ddX10_addAddress_1 17 rfl
theorem dX10_addAddress_118 : decode cX10_addAddress 118 = .ok (.istore_n 1, 1) := xdc ddX10_addAddress_1 18 rfl
theorem dX10_addAddress_119 : decode cX10_addAddress 119 = .ok (.iload_n 1, 1) := xdc ddX10_addAddress_1 19 rfl
theorem dX10_addAddress_120 : decode cX10_addAddress 120 = .ok (.ifCond .ne 23, 3) := xdc ddX10_addAddress_1 20 rfl
theorem dX10_addAddress_123 : decode cX10_addAddress 123 = .ok (.aload_n 0, 1) := xdc ddX10_addAddress_1 21 rfl
theorem dX10_addAddress_124 : decode cX10_addAddress 124 = .ok (.getfield 18, 3) := xdc ddX10_addAddress_1 22 rfl
theorem dX10_addAddress_127 : decode cX10_addAddress 127 = .ok (.getfield 145, 3) := xdc ddX10_addAddress_1 23 rfl
theorem dX10_addAddress_130 : decode cX10_addAddress 130 = .ok (.ifCond .le 13, 3) := xdc ddX10_addAddress_1 24 rfl
theorem dX10_addAddress_133 : decode cX10_addAddress 133 = .ok (.aload_n 0, 1) := xdc ddX10_addAddress_1 25 rfl
theorem dX10_addAddress_134 : decode cX10_addAddress 134 = .ok (.getfield 12, 3) := xdc ddX10_addAddress_1 26 rfl
theorem dX10_addAddress_137 : decode cX10_addAddress 137 = .ok (.bipush 43, 2) := xdc ddX10_addAddress_1 27 rfl
theorem dX10_addAddress_139 : decode cX10_addAddress 139 = .ok (.invokevirtual 58, 3) := xdc ddX10_addAddress_1 28 rfl
theorem dX10_addAddress_142 : decode cX10_addAddress 142 = .ok (.pop, 1) := xdc ddX10_addAddress_1 29 rfl
theorem dX10_addAddress_143 : decode cX10_addAddress 143 = .ok (.iload_n 1, 1) := xdc ddX10_addAddress_1 30 rfl
theorem dX10_addAddress_144 : decode cX10_addAddress 144 = .ok (.ifCond .ne 13, 3) := xdc ddX10_addAddress_1 31 rfl
theorem dX10_addAddress_147 : decode cX10_addAddress 147 = .ok (.aload_n 0, 1) := xdc ddX10_addAddress_1 32 rfl
theorem dX10_addAddress_148 : decode cX10_addAddress 148 = .ok (.getfield 18, 3) := xdc ddX10_addAddress_1 33 rfl
theorem dX10_addAddress_151 : decode cX10_addAddress 151 = .ok (.getfield 145, 3) := xdc ddX10_addAddress_1 34 rfl
theorem dX10_addAddress_154 : decode cX10_addAddress 154 = .ok (.ifCond .eq 18, 3) := xdc ddX10_addAddress_1 35 rfl
theorem dX10_addAddress_157 : decode cX10_addAddress 157 = .ok (.aload_n 0, 1) := xdc ddX10_addAddress_1 36 rfl
theorem dX10_addAddress_158 : decode cX10_addAddress 158 = .ok (.getfield 12, 3) := xdc ddX10_addAddress_1 37 rfl
theorem dX10_addAddress_161 : decode cX10_addAddress 161 = .ok (.aload_n 0, 1) := xdc ddX10_addAddress_1 38 rfl
theorem dX10_addAddress_162 : decode cX10_addAddress 162 = .ok (.getfield 18, 3) := xdc ddX10_addAddress_1 39 rfl
theorem ddX10_addAddress_2 : xdec cX10_addAddress [(165, (.getfield 145, 3)), (168, (.invokevirtual 104, 3)), (171, (.pop, 1)), (172, (.return_, 1))] = true := by decide +kernel
theorem dX10_addAddress_165 : decode cX10_addAddress 165 = .ok (.getfield 145, 3) := xdc ddX10_addAddress_2 0 rfl
theorem dX10_addAddress_168 : decode cX10_addAddress 168 = .ok (.invokevirtual 104, 3) := xdc ddX10_addAddress_2 1 rfl
theorem dX10_addAddress_171 : decode cX10_addAddress 171 = .ok (.pop, 1) := xdc ddX10_addAddress_2 2 rfl
theorem dX10_addAddress_172 : decode cX10_addAddress 172 = .ok (.return_, 1) := xdc ddX10_addAddress_2 3 rfl
abbrev cX10_addE : ByteArray := prog_12_method_9_code
theorem ddX10_addE_0 : xdec cX10_addE [(0, (.aload_n 0, 1)), (1, (.getfield 18, 3)), (4, (.getfield 123, 3)), (7, (.ifCond .ne 22, 3)), (10, (.aload_n 0, 1)), (11, (.aload_n 0, 1)), (12, (.getfield 18, 3)), (15, (.getfield 127, 3)), (18, (.aload_n 0, 1)), (19, (.getfield 18, 3)), (22, (.getfield 130, 3)), (25, (.invokevirtual 89, 3)), (28, (.return_, 1)), (29, (.aload_n 0, 1)), (30, (.getfield 12, 3)), (33, (.aload_n 0, 1)), (34, (.getfield 18, 3)), (37, (.getfield 130, 3)), (40, (.iconst 1, 1)), (41, (.if_icmp .ne 8, 3)), (44, (.bipush 98, 2)), (46, (.goto 21, 3)), (49, (.aload_n 0, 1)), (50, (.getfield 18, 3)), (53, (.getfield 130, 3)), (56, (.iconst 2, 1)), (57, (.if_icmp .ne 8, 3)), (60, (.bipush 119, 2)), (62, (.goto 5, 3)), (65, (.bipush 100, 2)), (67, (.invokevirtual 58, 3)), (70, (.pop, 1)), (71, (.aload_n 0, 1)), (72, (.getfield 12, 3)), (75, (.bipush 91, 2)), (77, (.invokevirtual 58, 3)), (80, (.pop, 1)), (81, (.aload_n 0, 1)), (82, (.invokevirtual 133, 3)), (85, (.aload_n 0, 1))] = true := by decide +kernel
theorem dX10_addE_0 : decode cX10_addE 0 = .ok (.aload_n 0, 1) := xdc ddX10_addE_0 0 rfl
theorem dX10_addE_1 : decode cX10_addE 1 = .ok (.getfield 18, 3) := xdc ddX10_addE_0 1 rfl
theorem dX10_addE_4 : decode cX10_addE 4 = .ok (.getfield 123, 3) := xdc ddX10_addE_0 2 rfl
theorem dX10_addE_7 : decode cX10_addE 7 = .ok (.ifCond .ne 22, 3) := xdc ddX10_addE_0 3 rfl
theorem dX10_addE_10 : decode cX10_addE 10 = .ok (.aload_n 0, 1) := xdc ddX10_addE_0 4 rfl
theorem dX10_addE_11 : decode cX10_addE 11 = .ok (.aload_n 0, 1) := xdc ddX10_addE_0 5 rfl
theorem dX10_addE_12 : decode cX10_addE 12 = .ok (.getfield 18, 3) := xdc ddX10_addE_0 6 rfl
theorem dX10_addE_15 : decode cX10_addE 15 = .ok (.getfield 127, 3) := xdc ddX10_addE_0 7 rfl
theorem dX10_addE_18 : decode cX10_addE 18 = .ok (.aload_n 0, 1) := xdc ddX10_addE_0 8 rfl
theorem dX10_addE_19 : decode cX10_addE 19 = .ok (.getfield 18, 3) := xdc ddX10_addE_0 9 rfl
theorem dX10_addE_22 : decode cX10_addE 22 = .ok (.getfield 130, 3) := xdc ddX10_addE_0 10 rfl
theorem dX10_addE_25 : decode cX10_addE 25 = .ok (.invokevirtual 89, 3) := xdc ddX10_addE_0 11 rfl
theorem dX10_addE_28 : decode cX10_addE 28 = .ok (.return_, 1) := xdc ddX10_addE_0 12 rfl
theorem dX10_addE_29 : decode cX10_addE 29 = .ok (.aload_n 0, 1) := xdc ddX10_addE_0 13 rfl
theorem dX10_addE_30 : decode cX10_addE 30 = .ok (.getfield 12, 3) := xdc ddX10_addE_0 14 rfl
theorem dX10_addE_33 : decode cX10_addE 33 = .ok (.aload_n 0, 1) := xdc ddX10_addE_0 15 rfl
theorem dX10_addE_34 : decode cX10_addE 34 = .ok (.getfield 18, 3) := xdc ddX10_addE_0 16 rfl
theorem dX10_addE_37 : decode cX10_addE 37 = .ok (.getfield 130, 3) := xdc ddX10_addE_0 17 rfl
theorem dX10_addE_40 : decode cX10_addE 40 = .ok (.iconst 1, 1) := xdc ddX10_addE_0 18 rfl
theorem dX10_addE_41 : decode cX10_addE 41 = .ok (.if_icmp .ne 8, 3) := xdc ddX10_addE_0 19 rfl
theorem dX10_addE_44 : decode cX10_addE 44 = .ok (.bipush 98, 2) := xdc ddX10_addE_0 20 rfl
theorem dX10_addE_46 : decode cX10_addE 46 = .ok (.goto 21, 3) := xdc ddX10_addE_0 21 rfl
theorem dX10_addE_49 : decode cX10_addE 49 = .ok (.aload_n 0, 1) := xdc ddX10_addE_0 22 rfl
theorem dX10_addE_50 : decode cX10_addE 50 = .ok (.getfield 18, 3) := xdc ddX10_addE_0 23 rfl
theorem dX10_addE_53 : decode cX10_addE 53 = .ok (.getfield 130, 3) := xdc ddX10_addE_0 24 rfl
theorem dX10_addE_56 : decode cX10_addE 56 = .ok (.iconst 2, 1) := xdc ddX10_addE_0 25 rfl
theorem dX10_addE_57 : decode cX10_addE 57 = .ok (.if_icmp .ne 8, 3) := xdc ddX10_addE_0 26 rfl
theorem dX10_addE_60 : decode cX10_addE 60 = .ok (.bipush 119, 2) := xdc ddX10_addE_0 27 rfl
theorem dX10_addE_62 : decode cX10_addE 62 = .ok (.goto 5, 3) := xdc ddX10_addE_0 28 rfl
theorem dX10_addE_65 : decode cX10_addE 65 = .ok (.bipush 100, 2) := xdc ddX10_addE_0 29 rfl
theorem dX10_addE_67 : decode cX10_addE 67 = .ok (.invokevirtual 58, 3) := xdc ddX10_addE_0 30 rfl
theorem dX10_addE_70 : decode cX10_addE 70 = .ok (.pop, 1) := xdc ddX10_addE_0 31 rfl
theorem dX10_addE_71 : decode cX10_addE 71 = .ok (.aload_n 0, 1) := xdc ddX10_addE_0 32 rfl
theorem dX10_addE_72 : decode cX10_addE 72 = .ok (.getfield 12, 3) := xdc ddX10_addE_0 33 rfl
theorem dX10_addE_75 : decode cX10_addE 75 = .ok (.bipush 91, 2) := xdc ddX10_addE_0 34 rfl
theorem dX10_addE_77 : decode cX10_addE 77 = .ok (.invokevirtual 58, 3) := xdc ddX10_addE_0 35 rfl
theorem dX10_addE_80 : decode cX10_addE 80 = .ok (.pop, 1) := xdc ddX10_addE_0 36 rfl
theorem dX10_addE_81 : decode cX10_addE 81 = .ok (.aload_n 0, 1) := xdc ddX10_addE_0 37 rfl
theorem dX10_addE_82 : decode cX10_addE 82 = .ok (.invokevirtual 133, 3) := xdc ddX10_addE_0 38 rfl
theorem dX10_addE_85 : decode cX10_addE 85 = .ok (.aload_n 0, 1) := xdc ddX10_addE_0 39 rfl
theorem ddX10_addE_1 : xdec cX10_addE [(86, (.getfield 12, 3)), (89, (.bipush 93, 2)), (91, (.invokevirtual 58, 3)), (94, (.pop, 1)), (95, (.return_, 1))] = true := by decide +kernel
theorem dX10_addE_86 : decode cX10_addE 86 = .ok (.getfield 12, 3) := xdc ddX10_addE_1 0 rfl
theorem dX10_addE_89 : decode cX10_addE 89 = .ok (.bipush 93, 2) := xdc ddX10_addE_1 1 rfl
theorem dX10_addE_91 : decode cX10_addE 91 = .ok (.invokevirtual 58, 3) := xdc ddX10_addE_1 2 rfl
theorem dX10_addE_94 : decode cX10_addE 94 = .ok (.pop, 1) := xdc ddX10_addE_1 3 rfl
theorem dX10_addE_95 : decode cX10_addE 95 = .ok (.return_, 1) := xdc ddX10_addE_1 4 rfl
abbrev cX10_addOperands : ByteArray := prog_12_method_5_code
theorem ddX10_addOperands_0 : xdec cX10_addOperands [(0, (.aload_n 0, 1)), (1, (.getfield 18, 3)), (4, (.getfield 54, 3)), (7, (.tableswitch 246 1 9 #[49, 84, 119, 130, 147, 246, 154, 193, 232], 49)), (56, (.aload_n 0, 1)), (57, (.invokevirtual 80, 3)), (60, (.aload_n 0, 1)), (61, (.getfield 12, 3)), (64, (.bipush 44, 2)), (66, (.invokevirtual 58, 3)), (69, (.pop, 1)), (70, (.aload_n 0, 1)), (71, (.aload_n 0, 1)), (72, (.getfield 18, 3)), (75, (.getfield 83, 3)), (78, (.aload_n 0, 1)), (79, (.getfield 18, 3)), (82, (.getfield 86, 3)), (85, (.invokevirtual 89, 3)), (88, (.goto 180, 3)), (91, (.aload_n 0, 1)), (92, (.aload_n 0, 1)), (93, (.getfield 18, 3)), (96, (.getfield 83, 3)), (99, (.aload_n 0, 1)), (100, (.getfield 18, 3)), (103, (.getfield 86, 3)), (106, (.invokevirtual 89, 3)), (109, (.aload_n 0, 1)), (110, (.getfield 12, 3)), (113, (.bipush 44, 2)), (115, (.invokevirtual 58, 3)), (118, (.pop, 1)), (119, (.aload_n 0, 1)), (120, (.invokevirtual 80, 3)), (123, (.goto 145, 3)), (126, (.aload_n 0, 1)), (127, (.invokevirtual 80, 3)), (130, (.aload_n 0, 1)), (131, (.invokevirtual 93, 3))] = true := by decide +kernel
theorem dX10_addOperands_0 : decode cX10_addOperands 0 = .ok (.aload_n 0, 1) := xdc ddX10_addOperands_0 0 rfl
theorem dX10_addOperands_1 : decode cX10_addOperands 1 = .ok (.getfield 18, 3) := xdc ddX10_addOperands_0 1 rfl
theorem dX10_addOperands_4 : decode cX10_addOperands 4 = .ok (.getfield 54, 3) := xdc ddX10_addOperands_0 2 rfl
theorem dX10_addOperands_7 : decode cX10_addOperands 7 = .ok (.tableswitch 246 1 9 #[49, 84, 119, 130, 147, 246, 154, 193, 232], 49) := xdc ddX10_addOperands_0 3 rfl
theorem dX10_addOperands_56 : decode cX10_addOperands 56 = .ok (.aload_n 0, 1) := xdc ddX10_addOperands_0 4 rfl
theorem dX10_addOperands_57 : decode cX10_addOperands 57 = .ok (.invokevirtual 80, 3) := xdc ddX10_addOperands_0 5 rfl
theorem dX10_addOperands_60 : decode cX10_addOperands 60 = .ok (.aload_n 0, 1) := xdc ddX10_addOperands_0 6 rfl
theorem dX10_addOperands_61 : decode cX10_addOperands 61 = .ok (.getfield 12, 3) := xdc ddX10_addOperands_0 7 rfl
theorem dX10_addOperands_64 : decode cX10_addOperands 64 = .ok (.bipush 44, 2) := xdc ddX10_addOperands_0 8 rfl
theorem dX10_addOperands_66 : decode cX10_addOperands 66 = .ok (.invokevirtual 58, 3) := xdc ddX10_addOperands_0 9 rfl
theorem dX10_addOperands_69 : decode cX10_addOperands 69 = .ok (.pop, 1) := xdc ddX10_addOperands_0 10 rfl
theorem dX10_addOperands_70 : decode cX10_addOperands 70 = .ok (.aload_n 0, 1) := xdc ddX10_addOperands_0 11 rfl
theorem dX10_addOperands_71 : decode cX10_addOperands 71 = .ok (.aload_n 0, 1) := xdc ddX10_addOperands_0 12 rfl
theorem dX10_addOperands_72 : decode cX10_addOperands 72 = .ok (.getfield 18, 3) := xdc ddX10_addOperands_0 13 rfl
theorem dX10_addOperands_75 : decode cX10_addOperands 75 = .ok (.getfield 83, 3) := xdc ddX10_addOperands_0 14 rfl
theorem dX10_addOperands_78 : decode cX10_addOperands 78 = .ok (.aload_n 0, 1) := xdc ddX10_addOperands_0 15 rfl
theorem dX10_addOperands_79 : decode cX10_addOperands 79 = .ok (.getfield 18, 3) := xdc ddX10_addOperands_0 16 rfl
theorem dX10_addOperands_82 : decode cX10_addOperands 82 = .ok (.getfield 86, 3) := xdc ddX10_addOperands_0 17 rfl
theorem dX10_addOperands_85 : decode cX10_addOperands 85 = .ok (.invokevirtual 89, 3) := xdc ddX10_addOperands_0 18 rfl
theorem dX10_addOperands_88 : decode cX10_addOperands 88 = .ok (.goto 180, 3) := xdc ddX10_addOperands_0 19 rfl
theorem dX10_addOperands_91 : decode cX10_addOperands 91 = .ok (.aload_n 0, 1) := xdc ddX10_addOperands_0 20 rfl
theorem dX10_addOperands_92 : decode cX10_addOperands 92 = .ok (.aload_n 0, 1) := xdc ddX10_addOperands_0 21 rfl
theorem dX10_addOperands_93 : decode cX10_addOperands 93 = .ok (.getfield 18, 3) := xdc ddX10_addOperands_0 22 rfl
theorem dX10_addOperands_96 : decode cX10_addOperands 96 = .ok (.getfield 83, 3) := xdc ddX10_addOperands_0 23 rfl
theorem dX10_addOperands_99 : decode cX10_addOperands 99 = .ok (.aload_n 0, 1) := xdc ddX10_addOperands_0 24 rfl
theorem dX10_addOperands_100 : decode cX10_addOperands 100 = .ok (.getfield 18, 3) := xdc ddX10_addOperands_0 25 rfl
theorem dX10_addOperands_103 : decode cX10_addOperands 103 = .ok (.getfield 86, 3) := xdc ddX10_addOperands_0 26 rfl
theorem dX10_addOperands_106 : decode cX10_addOperands 106 = .ok (.invokevirtual 89, 3) := xdc ddX10_addOperands_0 27 rfl
theorem dX10_addOperands_109 : decode cX10_addOperands 109 = .ok (.aload_n 0, 1) := xdc ddX10_addOperands_0 28 rfl
theorem dX10_addOperands_110 : decode cX10_addOperands 110 = .ok (.getfield 12, 3) := xdc ddX10_addOperands_0 29 rfl
theorem dX10_addOperands_113 : decode cX10_addOperands 113 = .ok (.bipush 44, 2) := xdc ddX10_addOperands_0 30 rfl
theorem dX10_addOperands_115 : decode cX10_addOperands 115 = .ok (.invokevirtual 58, 3) := xdc ddX10_addOperands_0 31 rfl
theorem dX10_addOperands_118 : decode cX10_addOperands 118 = .ok (.pop, 1) := xdc ddX10_addOperands_0 32 rfl
theorem dX10_addOperands_119 : decode cX10_addOperands 119 = .ok (.aload_n 0, 1) := xdc ddX10_addOperands_0 33 rfl
theorem dX10_addOperands_120 : decode cX10_addOperands 120 = .ok (.invokevirtual 80, 3) := xdc ddX10_addOperands_0 34 rfl
theorem dX10_addOperands_123 : decode cX10_addOperands 123 = .ok (.goto 145, 3) := xdc ddX10_addOperands_0 35 rfl
theorem dX10_addOperands_126 : decode cX10_addOperands 126 = .ok (.aload_n 0, 1) := xdc ddX10_addOperands_0 36 rfl
theorem dX10_addOperands_127 : decode cX10_addOperands 127 = .ok (.invokevirtual 80, 3) := xdc ddX10_addOperands_0 37 rfl
theorem dX10_addOperands_130 : decode cX10_addOperands 130 = .ok (.aload_n 0, 1) := xdc ddX10_addOperands_0 38 rfl
theorem dX10_addOperands_131 : decode cX10_addOperands 131 = .ok (.invokevirtual 93, 3) := xdc ddX10_addOperands_0 39 rfl
theorem ddX10_addOperands_1 : xdec cX10_addOperands [(134, (.goto 134, 3)), (137, (.aload_n 0, 1)), (138, (.invokevirtual 80, 3)), (141, (.aload_n 0, 1)), (142, (.getfield 12, 3)), (145, (.ldc 96, 2)), (147, (.invokevirtual 38, 3)), (150, (.pop, 1)), (151, (.goto 117, 3)), (154, (.aload_n 0, 1)), (155, (.invokevirtual 80, 3)), (158, (.goto 110, 3)), (161, (.aload_n 0, 1)), (162, (.aload_n 0, 1)), (163, (.getfield 18, 3)), (166, (.getfield 83, 3)), (169, (.aload_n 0, 1)), (170, (.getfield 18, 3)), (173, (.getfield 86, 3)), (176, (.invokevirtual 89, 3)), (179, (.aload_n 0, 1)), (180, (.getfield 12, 3)), (183, (.bipush 44, 2)), (185, (.invokevirtual 58, 3)), (188, (.pop, 1)), (189, (.aload_n 0, 1)), (190, (.invokevirtual 80, 3)), (193, (.aload_n 0, 1)), (194, (.invokevirtual 93, 3)), (197, (.goto 71, 3)), (200, (.aload_n 0, 1)), (201, (.invokevirtual 80, 3)), (204, (.aload_n 0, 1)), (205, (.getfield 12, 3)), (208, (.bipush 44, 2)), (210, (.invokevirtual 58, 3)), (213, (.pop, 1)), (214, (.aload_n 0, 1)), (215, (.aload_n 0, 1)), (216, (.getfield 18, 3))] = true := by decide +kernel
theorem dX10_addOperands_134 : decode cX10_addOperands 134 = .ok (.goto 134, 3) := xdc ddX10_addOperands_1 0 rfl
theorem dX10_addOperands_137 : decode cX10_addOperands 137 = .ok (.aload_n 0, 1) := xdc ddX10_addOperands_1 1 rfl
theorem dX10_addOperands_138 : decode cX10_addOperands 138 = .ok (.invokevirtual 80, 3) := xdc ddX10_addOperands_1 2 rfl
theorem dX10_addOperands_141 : decode cX10_addOperands 141 = .ok (.aload_n 0, 1) := xdc ddX10_addOperands_1 3 rfl
theorem dX10_addOperands_142 : decode cX10_addOperands 142 = .ok (.getfield 12, 3) := xdc ddX10_addOperands_1 4 rfl
theorem dX10_addOperands_145 : decode cX10_addOperands 145 = .ok (.ldc 96, 2) := xdc ddX10_addOperands_1 5 rfl
theorem dX10_addOperands_147 : decode cX10_addOperands 147 = .ok (.invokevirtual 38, 3) := xdc ddX10_addOperands_1 6 rfl
theorem dX10_addOperands_150 : decode cX10_addOperands 150 = .ok (.pop, 1) := xdc ddX10_addOperands_1 7 rfl
theorem dX10_addOperands_151 : decode cX10_addOperands 151 = .ok (.goto 117, 3) := xdc ddX10_addOperands_1 8 rfl
theorem dX10_addOperands_154 : decode cX10_addOperands 154 = .ok (.aload_n 0, 1) := xdc ddX10_addOperands_1 9 rfl
theorem dX10_addOperands_155 : decode cX10_addOperands 155 = .ok (.invokevirtual 80, 3) := xdc ddX10_addOperands_1 10 rfl
theorem dX10_addOperands_158 : decode cX10_addOperands 158 = .ok (.goto 110, 3) := xdc ddX10_addOperands_1 11 rfl
theorem dX10_addOperands_161 : decode cX10_addOperands 161 = .ok (.aload_n 0, 1) := xdc ddX10_addOperands_1 12 rfl
theorem dX10_addOperands_162 : decode cX10_addOperands 162 = .ok (.aload_n 0, 1) := xdc ddX10_addOperands_1 13 rfl
theorem dX10_addOperands_163 : decode cX10_addOperands 163 = .ok (.getfield 18, 3) := xdc ddX10_addOperands_1 14 rfl
theorem dX10_addOperands_166 : decode cX10_addOperands 166 = .ok (.getfield 83, 3) := xdc ddX10_addOperands_1 15 rfl
theorem dX10_addOperands_169 : decode cX10_addOperands 169 = .ok (.aload_n 0, 1) := xdc ddX10_addOperands_1 16 rfl
theorem dX10_addOperands_170 : decode cX10_addOperands 170 = .ok (.getfield 18, 3) := xdc ddX10_addOperands_1 17 rfl
theorem dX10_addOperands_173 : decode cX10_addOperands 173 = .ok (.getfield 86, 3) := xdc ddX10_addOperands_1 18 rfl
theorem dX10_addOperands_176 : decode cX10_addOperands 176 = .ok (.invokevirtual 89, 3) := xdc ddX10_addOperands_1 19 rfl
theorem dX10_addOperands_179 : decode cX10_addOperands 179 = .ok (.aload_n 0, 1) := xdc ddX10_addOperands_1 20 rfl
theorem dX10_addOperands_180 : decode cX10_addOperands 180 = .ok (.getfield 12, 3) := xdc ddX10_addOperands_1 21 rfl
theorem dX10_addOperands_183 : decode cX10_addOperands 183 = .ok (.bipush 44, 2) := xdc ddX10_addOperands_1 22 rfl
theorem dX10_addOperands_185 : decode cX10_addOperands 185 = .ok (.invokevirtual 58, 3) := xdc ddX10_addOperands_1 23 rfl
theorem dX10_addOperands_188 : decode cX10_addOperands 188 = .ok (.pop, 1) := xdc ddX10_addOperands_1 24 rfl
theorem dX10_addOperands_189 : decode cX10_addOperands 189 = .ok (.aload_n 0, 1) := xdc ddX10_addOperands_1 25 rfl
theorem dX10_addOperands_190 : decode cX10_addOperands 190 = .ok (.invokevirtual 80, 3) := xdc ddX10_addOperands_1 26 rfl
theorem dX10_addOperands_193 : decode cX10_addOperands 193 = .ok (.aload_n 0, 1) := xdc ddX10_addOperands_1 27 rfl
theorem dX10_addOperands_194 : decode cX10_addOperands 194 = .ok (.invokevirtual 93, 3) := xdc ddX10_addOperands_1 28 rfl
theorem dX10_addOperands_197 : decode cX10_addOperands 197 = .ok (.goto 71, 3) := xdc ddX10_addOperands_1 29 rfl
theorem dX10_addOperands_200 : decode cX10_addOperands 200 = .ok (.aload_n 0, 1) := xdc ddX10_addOperands_1 30 rfl
theorem dX10_addOperands_201 : decode cX10_addOperands 201 = .ok (.invokevirtual 80, 3) := xdc ddX10_addOperands_1 31 rfl
theorem dX10_addOperands_204 : decode cX10_addOperands 204 = .ok (.aload_n 0, 1) := xdc ddX10_addOperands_1 32 rfl
theorem dX10_addOperands_205 : decode cX10_addOperands 205 = .ok (.getfield 12, 3) := xdc ddX10_addOperands_1 33 rfl
theorem dX10_addOperands_208 : decode cX10_addOperands 208 = .ok (.bipush 44, 2) := xdc ddX10_addOperands_1 34 rfl
theorem dX10_addOperands_210 : decode cX10_addOperands 210 = .ok (.invokevirtual 58, 3) := xdc ddX10_addOperands_1 35 rfl
theorem dX10_addOperands_213 : decode cX10_addOperands 213 = .ok (.pop, 1) := xdc ddX10_addOperands_1 36 rfl
theorem dX10_addOperands_214 : decode cX10_addOperands 214 = .ok (.aload_n 0, 1) := xdc ddX10_addOperands_1 37 rfl
theorem dX10_addOperands_215 : decode cX10_addOperands 215 = .ok (.aload_n 0, 1) := xdc ddX10_addOperands_1 38 rfl
theorem dX10_addOperands_216 : decode cX10_addOperands 216 = .ok (.getfield 18, 3) := xdc ddX10_addOperands_1 39 rfl
theorem ddX10_addOperands_2 : xdec cX10_addOperands [(219, (.getfield 83, 3)), (222, (.aload_n 0, 1)), (223, (.getfield 18, 3)), (226, (.getfield 86, 3)), (229, (.invokevirtual 89, 3)), (232, (.aload_n 0, 1)), (233, (.invokevirtual 93, 3)), (236, (.goto 32, 3)), (239, (.aload_n 0, 1)), (240, (.aload_n 0, 1)), (241, (.getfield 18, 3)), (244, (.getfield 98, 3)), (247, (.invokevirtual 101, 3)), (250, (.goto 18, 3)), (253, (.aload_n 0, 1)), (254, (.getfield 12, 3)), (257, (.aload_n 0, 1)), (258, (.getfield 18, 3)), (261, (.getfield 98, 3)), (264, (.invokevirtual 104, 3)), (267, (.pop, 1)), (268, (.return_, 1))] = true := by decide +kernel
theorem dX10_addOperands_219 : decode cX10_addOperands 219 = .ok (.getfield 83, 3) := xdc ddX10_addOperands_2 0 rfl
theorem dX10_addOperands_222 : decode cX10_addOperands 222 = .ok (.aload_n 0, 1) := xdc ddX10_addOperands_2 1 rfl
theorem dX10_addOperands_223 : decode cX10_addOperands 223 = .ok (.getfield 18, 3) := xdc ddX10_addOperands_2 2 rfl
theorem dX10_addOperands_226 : decode cX10_addOperands 226 = .ok (.getfield 86, 3) := xdc ddX10_addOperands_2 3 rfl
theorem dX10_addOperands_229 : decode cX10_addOperands 229 = .ok (.invokevirtual 89, 3) := xdc ddX10_addOperands_2 4 rfl
theorem dX10_addOperands_232 : decode cX10_addOperands 232 = .ok (.aload_n 0, 1) := xdc ddX10_addOperands_2 5 rfl
theorem dX10_addOperands_233 : decode cX10_addOperands 233 = .ok (.invokevirtual 93, 3) := xdc ddX10_addOperands_2 6 rfl
theorem dX10_addOperands_236 : decode cX10_addOperands 236 = .ok (.goto 32, 3) := xdc ddX10_addOperands_2 7 rfl
theorem dX10_addOperands_239 : decode cX10_addOperands 239 = .ok (.aload_n 0, 1) := xdc ddX10_addOperands_2 8 rfl
theorem dX10_addOperands_240 : decode cX10_addOperands 240 = .ok (.aload_n 0, 1) := xdc ddX10_addOperands_2 9 rfl
theorem dX10_addOperands_241 : decode cX10_addOperands 241 = .ok (.getfield 18, 3) := xdc ddX10_addOperands_2 10 rfl
theorem dX10_addOperands_244 : decode cX10_addOperands 244 = .ok (.getfield 98, 3) := xdc ddX10_addOperands_2 11 rfl
theorem dX10_addOperands_247 : decode cX10_addOperands 247 = .ok (.invokevirtual 101, 3) := xdc ddX10_addOperands_2 12 rfl
theorem dX10_addOperands_250 : decode cX10_addOperands 250 = .ok (.goto 18, 3) := xdc ddX10_addOperands_2 13 rfl
theorem dX10_addOperands_253 : decode cX10_addOperands 253 = .ok (.aload_n 0, 1) := xdc ddX10_addOperands_2 14 rfl
theorem dX10_addOperands_254 : decode cX10_addOperands 254 = .ok (.getfield 12, 3) := xdc ddX10_addOperands_2 15 rfl
theorem dX10_addOperands_257 : decode cX10_addOperands 257 = .ok (.aload_n 0, 1) := xdc ddX10_addOperands_2 16 rfl
theorem dX10_addOperands_258 : decode cX10_addOperands 258 = .ok (.getfield 18, 3) := xdc ddX10_addOperands_2 17 rfl
theorem dX10_addOperands_261 : decode cX10_addOperands 261 = .ok (.getfield 98, 3) := xdc ddX10_addOperands_2 18 rfl
theorem dX10_addOperands_264 : decode cX10_addOperands 264 = .ok (.invokevirtual 104, 3) := xdc ddX10_addOperands_2 19 rfl
theorem dX10_addOperands_267 : decode cX10_addOperands 267 = .ok (.pop, 1) := xdc ddX10_addOperands_2 20 rfl
theorem dX10_addOperands_268 : decode cX10_addOperands 268 = .ok (.return_, 1) := xdc ddX10_addOperands_2 21 rfl
abbrev cX10_compose : ByteArray := prog_12_method_2_code
theorem ddX10_compose_0 : xdec cX10_compose [(0, (.aload_n 0, 1)), (1, (.getfield 12, 3)), (4, (.iconst 0, 1)), (5, (.invokevirtual 22, 3)), (8, (.aload_n 0, 1)), (9, (.getfield 12, 3)), (12, (.aload_n 0, 1)), (13, (.getfield 18, 3)), (16, (.getfield 26, 3)), (19, (.getfield 32, 3)), (22, (.invokevirtual 38, 3)), (25, (.pop, 1)), (26, (.aload_n 0, 1)), (27, (.getfield 18, 3)), (30, (.getfield 26, 3)), (33, (.getstatic 42, 3)), (36, (.if_acmp .eq 29, 3)), (39, (.aload_n 0, 1)), (40, (.getfield 18, 3)), (43, (.getfield 26, 3)), (46, (.getstatic 45, 3)), (49, (.if_acmp .eq 16, 3)), (52, (.aload_n 0, 1)), (53, (.getfield 18, 3)), (56, (.getfield 26, 3)), (59, (.getstatic 48, 3)), (62, (.if_acmp .ne 7, 3)), (65, (.aload_n 0, 1)), (66, (.invokevirtual 51, 3)), (69, (.aload_n 0, 1)), (70, (.getfield 18, 3)), (73, (.getfield 54, 3)), (76, (.ifCond .eq 17, 3)), (79, (.aload_n 0, 1)), (80, (.getfield 12, 3)), (83, (.bipush 32, 2)), (85, (.invokevirtual 58, 3)), (88, (.pop, 1)), (89, (.aload_n 0, 1)), (90, (.invokevirtual 61, 3))] = true := by decide +kernel
theorem dX10_compose_0 : decode cX10_compose 0 = .ok (.aload_n 0, 1) := xdc ddX10_compose_0 0 rfl
theorem dX10_compose_1 : decode cX10_compose 1 = .ok (.getfield 12, 3) := xdc ddX10_compose_0 1 rfl
theorem dX10_compose_4 : decode cX10_compose 4 = .ok (.iconst 0, 1) := xdc ddX10_compose_0 2 rfl
theorem dX10_compose_5 : decode cX10_compose 5 = .ok (.invokevirtual 22, 3) := xdc ddX10_compose_0 3 rfl
theorem dX10_compose_8 : decode cX10_compose 8 = .ok (.aload_n 0, 1) := xdc ddX10_compose_0 4 rfl
theorem dX10_compose_9 : decode cX10_compose 9 = .ok (.getfield 12, 3) := xdc ddX10_compose_0 5 rfl
theorem dX10_compose_12 : decode cX10_compose 12 = .ok (.aload_n 0, 1) := xdc ddX10_compose_0 6 rfl
theorem dX10_compose_13 : decode cX10_compose 13 = .ok (.getfield 18, 3) := xdc ddX10_compose_0 7 rfl
theorem dX10_compose_16 : decode cX10_compose 16 = .ok (.getfield 26, 3) := xdc ddX10_compose_0 8 rfl
theorem dX10_compose_19 : decode cX10_compose 19 = .ok (.getfield 32, 3) := xdc ddX10_compose_0 9 rfl
theorem dX10_compose_22 : decode cX10_compose 22 = .ok (.invokevirtual 38, 3) := xdc ddX10_compose_0 10 rfl
theorem dX10_compose_25 : decode cX10_compose 25 = .ok (.pop, 1) := xdc ddX10_compose_0 11 rfl
theorem dX10_compose_26 : decode cX10_compose 26 = .ok (.aload_n 0, 1) := xdc ddX10_compose_0 12 rfl
theorem dX10_compose_27 : decode cX10_compose 27 = .ok (.getfield 18, 3) := xdc ddX10_compose_0 13 rfl
theorem dX10_compose_30 : decode cX10_compose 30 = .ok (.getfield 26, 3) := xdc ddX10_compose_0 14 rfl
theorem dX10_compose_33 : decode cX10_compose 33 = .ok (.getstatic 42, 3) := xdc ddX10_compose_0 15 rfl
theorem dX10_compose_36 : decode cX10_compose 36 = .ok (.if_acmp .eq 29, 3) := xdc ddX10_compose_0 16 rfl
theorem dX10_compose_39 : decode cX10_compose 39 = .ok (.aload_n 0, 1) := xdc ddX10_compose_0 17 rfl
theorem dX10_compose_40 : decode cX10_compose 40 = .ok (.getfield 18, 3) := xdc ddX10_compose_0 18 rfl
theorem dX10_compose_43 : decode cX10_compose 43 = .ok (.getfield 26, 3) := xdc ddX10_compose_0 19 rfl
theorem dX10_compose_46 : decode cX10_compose 46 = .ok (.getstatic 45, 3) := xdc ddX10_compose_0 20 rfl
theorem dX10_compose_49 : decode cX10_compose 49 = .ok (.if_acmp .eq 16, 3) := xdc ddX10_compose_0 21 rfl
theorem dX10_compose_52 : decode cX10_compose 52 = .ok (.aload_n 0, 1) := xdc ddX10_compose_0 22 rfl
theorem dX10_compose_53 : decode cX10_compose 53 = .ok (.getfield 18, 3) := xdc ddX10_compose_0 23 rfl
theorem dX10_compose_56 : decode cX10_compose 56 = .ok (.getfield 26, 3) := xdc ddX10_compose_0 24 rfl
theorem dX10_compose_59 : decode cX10_compose 59 = .ok (.getstatic 48, 3) := xdc ddX10_compose_0 25 rfl
theorem dX10_compose_62 : decode cX10_compose 62 = .ok (.if_acmp .ne 7, 3) := xdc ddX10_compose_0 26 rfl
theorem dX10_compose_65 : decode cX10_compose 65 = .ok (.aload_n 0, 1) := xdc ddX10_compose_0 27 rfl
theorem dX10_compose_66 : decode cX10_compose 66 = .ok (.invokevirtual 51, 3) := xdc ddX10_compose_0 28 rfl
theorem dX10_compose_69 : decode cX10_compose 69 = .ok (.aload_n 0, 1) := xdc ddX10_compose_0 29 rfl
theorem dX10_compose_70 : decode cX10_compose 70 = .ok (.getfield 18, 3) := xdc ddX10_compose_0 30 rfl
theorem dX10_compose_73 : decode cX10_compose 73 = .ok (.getfield 54, 3) := xdc ddX10_compose_0 31 rfl
theorem dX10_compose_76 : decode cX10_compose 76 = .ok (.ifCond .eq 17, 3) := xdc ddX10_compose_0 32 rfl
theorem dX10_compose_79 : decode cX10_compose 79 = .ok (.aload_n 0, 1) := xdc ddX10_compose_0 33 rfl
theorem dX10_compose_80 : decode cX10_compose 80 = .ok (.getfield 12, 3) := xdc ddX10_compose_0 34 rfl
theorem dX10_compose_83 : decode cX10_compose 83 = .ok (.bipush 32, 2) := xdc ddX10_compose_0 35 rfl
theorem dX10_compose_85 : decode cX10_compose 85 = .ok (.invokevirtual 58, 3) := xdc ddX10_compose_0 36 rfl
theorem dX10_compose_88 : decode cX10_compose 88 = .ok (.pop, 1) := xdc ddX10_compose_0 37 rfl
theorem dX10_compose_89 : decode cX10_compose 89 = .ok (.aload_n 0, 1) := xdc ddX10_compose_0 38 rfl
theorem dX10_compose_90 : decode cX10_compose 90 = .ok (.invokevirtual 61, 3) := xdc ddX10_compose_0 39 rfl
theorem ddX10_compose_1 : xdec cX10_compose [(93, (.aload_n 0, 1)), (94, (.getfield 12, 3)), (97, (.invokevirtual 64, 3)), (100, (.ireturn, 1))] = true := by decide +kernel
theorem dX10_compose_93 : decode cX10_compose 93 = .ok (.aload_n 0, 1) := xdc ddX10_compose_1 0 rfl
theorem dX10_compose_94 : decode cX10_compose 94 = .ok (.getfield 12, 3) := xdc ddX10_compose_1 1 rfl
theorem dX10_compose_97 : decode cX10_compose 97 = .ok (.invokevirtual 64, 3) := xdc ddX10_compose_1 2 rfl
theorem dX10_compose_100 : decode cX10_compose 100 = .ok (.ireturn, 1) := xdc ddX10_compose_1 3 rfl
abbrev cX10_eightFrom : ByteArray := prog_12_method_3_code
theorem ddX10_eightFrom_0 : xdec cX10_eightFrom [(0, (.lconst 0, 1)), (1, (.lstore_n 2, 1)), (2, (.bipush 7, 2)), (4, (.istore 4, 2)), (6, (.iload 4, 2)), (8, (.ifCond .lt 71, 3)), (11, (.iload_n 1, 1)), (12, (.i2l, 1)), (13, (.iload 4, 2)), (15, (.i2l, 1)), (16, (.ladd, 1)), (17, (.lstore 5, 2)), (19, (.lload 5, 2)), (21, (.lconst 0, 1)), (22, (.lcmp, 1)), (23, (.ifCond .lt 21, 3)), (26, (.lload 5, 2)), (28, (.aload_n 0, 1)), (29, (.getfield 12, 3)), (32, (.invokevirtual 64, 3)), (35, (.i2l, 1)), (36, (.lcmp, 1)), (37, (.ifCond .ge 7, 3)), (40, (.iconst 1, 1)), (41, (.goto 4, 3)), (44, (.iconst 0, 1)), (45, (.istore 7, 2)), (47, (.lload_n 2, 1)), (48, (.bipush 8, 2)), (50, (.lshl, 1)), (51, (.iload 7, 2)), (53, (.ifCond .eq 16, 3)), (56, (.aload_n 0, 1)), (57, (.getfield 12, 3)), (60, (.lload 5, 2)), (62, (.l2i, 1)), (63, (.invokevirtual 68, 3)), (66, (.goto 4, 3)), (69, (.iconst 0, 1)), (70, (.i2l, 1))] = true := by decide +kernel
theorem dX10_eightFrom_0 : decode cX10_eightFrom 0 = .ok (.lconst 0, 1) := xdc ddX10_eightFrom_0 0 rfl
theorem dX10_eightFrom_1 : decode cX10_eightFrom 1 = .ok (.lstore_n 2, 1) := xdc ddX10_eightFrom_0 1 rfl
theorem dX10_eightFrom_2 : decode cX10_eightFrom 2 = .ok (.bipush 7, 2) := xdc ddX10_eightFrom_0 2 rfl
theorem dX10_eightFrom_4 : decode cX10_eightFrom 4 = .ok (.istore 4, 2) := xdc ddX10_eightFrom_0 3 rfl
theorem dX10_eightFrom_6 : decode cX10_eightFrom 6 = .ok (.iload 4, 2) := xdc ddX10_eightFrom_0 4 rfl
theorem dX10_eightFrom_8 : decode cX10_eightFrom 8 = .ok (.ifCond .lt 71, 3) := xdc ddX10_eightFrom_0 5 rfl
theorem dX10_eightFrom_11 : decode cX10_eightFrom 11 = .ok (.iload_n 1, 1) := xdc ddX10_eightFrom_0 6 rfl
theorem dX10_eightFrom_12 : decode cX10_eightFrom 12 = .ok (.i2l, 1) := xdc ddX10_eightFrom_0 7 rfl
theorem dX10_eightFrom_13 : decode cX10_eightFrom 13 = .ok (.iload 4, 2) := xdc ddX10_eightFrom_0 8 rfl
theorem dX10_eightFrom_15 : decode cX10_eightFrom 15 = .ok (.i2l, 1) := xdc ddX10_eightFrom_0 9 rfl
theorem dX10_eightFrom_16 : decode cX10_eightFrom 16 = .ok (.ladd, 1) := xdc ddX10_eightFrom_0 10 rfl
theorem dX10_eightFrom_17 : decode cX10_eightFrom 17 = .ok (.lstore 5, 2) := xdc ddX10_eightFrom_0 11 rfl
theorem dX10_eightFrom_19 : decode cX10_eightFrom 19 = .ok (.lload 5, 2) := xdc ddX10_eightFrom_0 12 rfl
theorem dX10_eightFrom_21 : decode cX10_eightFrom 21 = .ok (.lconst 0, 1) := xdc ddX10_eightFrom_0 13 rfl
theorem dX10_eightFrom_22 : decode cX10_eightFrom 22 = .ok (.lcmp, 1) := xdc ddX10_eightFrom_0 14 rfl
theorem dX10_eightFrom_23 : decode cX10_eightFrom 23 = .ok (.ifCond .lt 21, 3) := xdc ddX10_eightFrom_0 15 rfl
theorem dX10_eightFrom_26 : decode cX10_eightFrom 26 = .ok (.lload 5, 2) := xdc ddX10_eightFrom_0 16 rfl
theorem dX10_eightFrom_28 : decode cX10_eightFrom 28 = .ok (.aload_n 0, 1) := xdc ddX10_eightFrom_0 17 rfl
theorem dX10_eightFrom_29 : decode cX10_eightFrom 29 = .ok (.getfield 12, 3) := xdc ddX10_eightFrom_0 18 rfl
theorem dX10_eightFrom_32 : decode cX10_eightFrom 32 = .ok (.invokevirtual 64, 3) := xdc ddX10_eightFrom_0 19 rfl
theorem dX10_eightFrom_35 : decode cX10_eightFrom 35 = .ok (.i2l, 1) := xdc ddX10_eightFrom_0 20 rfl
theorem dX10_eightFrom_36 : decode cX10_eightFrom 36 = .ok (.lcmp, 1) := xdc ddX10_eightFrom_0 21 rfl
theorem dX10_eightFrom_37 : decode cX10_eightFrom 37 = .ok (.ifCond .ge 7, 3) := xdc ddX10_eightFrom_0 22 rfl
theorem dX10_eightFrom_40 : decode cX10_eightFrom 40 = .ok (.iconst 1, 1) := xdc ddX10_eightFrom_0 23 rfl
theorem dX10_eightFrom_41 : decode cX10_eightFrom 41 = .ok (.goto 4, 3) := xdc ddX10_eightFrom_0 24 rfl
theorem dX10_eightFrom_44 : decode cX10_eightFrom 44 = .ok (.iconst 0, 1) := xdc ddX10_eightFrom_0 25 rfl
theorem dX10_eightFrom_45 : decode cX10_eightFrom 45 = .ok (.istore 7, 2) := xdc ddX10_eightFrom_0 26 rfl
theorem dX10_eightFrom_47 : decode cX10_eightFrom 47 = .ok (.lload_n 2, 1) := xdc ddX10_eightFrom_0 27 rfl
theorem dX10_eightFrom_48 : decode cX10_eightFrom 48 = .ok (.bipush 8, 2) := xdc ddX10_eightFrom_0 28 rfl
theorem dX10_eightFrom_50 : decode cX10_eightFrom 50 = .ok (.lshl, 1) := xdc ddX10_eightFrom_0 29 rfl
theorem dX10_eightFrom_51 : decode cX10_eightFrom 51 = .ok (.iload 7, 2) := xdc ddX10_eightFrom_0 30 rfl
theorem dX10_eightFrom_53 : decode cX10_eightFrom 53 = .ok (.ifCond .eq 16, 3) := xdc ddX10_eightFrom_0 31 rfl
theorem dX10_eightFrom_56 : decode cX10_eightFrom 56 = .ok (.aload_n 0, 1) := xdc ddX10_eightFrom_0 32 rfl
theorem dX10_eightFrom_57 : decode cX10_eightFrom 57 = .ok (.getfield 12, 3) := xdc ddX10_eightFrom_0 33 rfl
theorem dX10_eightFrom_60 : decode cX10_eightFrom 60 = .ok (.lload 5, 2) := xdc ddX10_eightFrom_0 34 rfl
theorem dX10_eightFrom_62 : decode cX10_eightFrom 62 = .ok (.l2i, 1) := xdc ddX10_eightFrom_0 35 rfl
theorem dX10_eightFrom_63 : decode cX10_eightFrom 63 = .ok (.invokevirtual 68, 3) := xdc ddX10_eightFrom_0 36 rfl
theorem dX10_eightFrom_66 : decode cX10_eightFrom 66 = .ok (.goto 4, 3) := xdc ddX10_eightFrom_0 37 rfl
theorem dX10_eightFrom_69 : decode cX10_eightFrom 69 = .ok (.iconst 0, 1) := xdc ddX10_eightFrom_0 38 rfl
theorem dX10_eightFrom_70 : decode cX10_eightFrom 70 = .ok (.i2l, 1) := xdc ddX10_eightFrom_0 39 rfl
theorem ddX10_eightFrom_1 : xdec cX10_eightFrom [(71, (.lor, 1)), (72, (.lstore_n 2, 1)), (73, (.iinc 4 (-1), 3)), (76, (.goto (-70), 3)), (79, (.lload_n 2, 1)), (80, (.lreturn, 1))] = true := by decide +kernel
theorem dX10_eightFrom_71 : decode cX10_eightFrom 71 = .ok (.lor, 1) := xdc ddX10_eightFrom_1 0 rfl
theorem dX10_eightFrom_72 : decode cX10_eightFrom 72 = .ok (.lstore_n 2, 1) := xdc ddX10_eightFrom_1 1 rfl
theorem dX10_eightFrom_73 : decode cX10_eightFrom 73 = .ok (.iinc 4 (-1), 3) := xdc ddX10_eightFrom_1 2 rfl
theorem dX10_eightFrom_76 : decode cX10_eightFrom 76 = .ok (.goto (-70), 3) := xdc ddX10_eightFrom_1 3 rfl
theorem dX10_eightFrom_79 : decode cX10_eightFrom 79 = .ok (.lload_n 2, 1) := xdc ddX10_eightFrom_1 4 rfl
theorem dX10_eightFrom_80 : decode cX10_eightFrom 80 = .ok (.lreturn, 1) := xdc ddX10_eightFrom_1 5 rfl
abbrev cX11_tell : ByteArray := prog_1_method_10_code
theorem ddX11_tell_0 : xdec cX11_tell [(0, (.aload_n 0, 1)), (1, (.getfield 28, 3)), (4, (.iload_n 1, 1)), (5, (.invokevirtual 127, 3)), (8, (.ifCond .ne 5, 3)), (11, (.iconst (-1), 1)), (12, (.ireturn, 1)), (13, (.aload_n 0, 1)), (14, (.getfield 46, 3)), (17, (.invokevirtual 130, 3)), (20, (.ireturn, 1))] = true := by decide +kernel
theorem dX11_tell_0 : decode cX11_tell 0 = .ok (.aload_n 0, 1) := xdc ddX11_tell_0 0 rfl
theorem dX11_tell_1 : decode cX11_tell 1 = .ok (.getfield 28, 3) := xdc ddX11_tell_0 1 rfl
theorem dX11_tell_4 : decode cX11_tell 4 = .ok (.iload_n 1, 1) := xdc ddX11_tell_0 2 rfl
theorem dX11_tell_5 : decode cX11_tell 5 = .ok (.invokevirtual 127, 3) := xdc ddX11_tell_0 3 rfl
theorem dX11_tell_8 : decode cX11_tell 8 = .ok (.ifCond .ne 5, 3) := xdc ddX11_tell_0 4 rfl
theorem dX11_tell_11 : decode cX11_tell 11 = .ok (.iconst (-1), 1) := xdc ddX11_tell_0 5 rfl
theorem dX11_tell_12 : decode cX11_tell 12 = .ok (.ireturn, 1) := xdc ddX11_tell_0 6 rfl
theorem dX11_tell_13 : decode cX11_tell 13 = .ok (.aload_n 0, 1) := xdc ddX11_tell_0 7 rfl
theorem dX11_tell_14 : decode cX11_tell 14 = .ok (.getfield 46, 3) := xdc ddX11_tell_0 8 rfl
theorem dX11_tell_17 : decode cX11_tell 17 = .ok (.invokevirtual 130, 3) := xdc ddX11_tell_0 9 rfl
theorem dX11_tell_20 : decode cX11_tell 20 = .ok (.ireturn, 1) := xdc ddX11_tell_0 10 rfl
abbrev cX11_text : ByteArray := prog_1_method_11_code
theorem ddX11_text_0 : xdec cX11_text [(0, (.aload_n 0, 1)), (1, (.getfield 46, 3)), (4, (.iload_n 1, 1)), (5, (.invokevirtual 133, 3)), (8, (.lreturn, 1))] = true := by decide +kernel
theorem dX11_text_0 : decode cX11_text 0 = .ok (.aload_n 0, 1) := xdc ddX11_text_0 0 rfl
theorem dX11_text_1 : decode cX11_text 1 = .ok (.getfield 46, 3) := xdc ddX11_text_0 1 rfl
theorem dX11_text_4 : decode cX11_text 4 = .ok (.iload_n 1, 1) := xdc ddX11_text_0 2 rfl
theorem dX11_text_5 : decode cX11_text 5 = .ok (.invokevirtual 133, 3) := xdc ddX11_text_0 3 rfl
theorem dX11_text_8 : decode cX11_text 8 = .ok (.lreturn, 1) := xdc ddX11_text_0 4 rfl
abbrev yX10_addRegister : MethodName := ⟨"BundleFence$Teller", "addRegister", "(II)V"⟩
abbrev mX10_addRegister : xMd := (yX10_addRegister, cX10_addRegister, 5, none, { frames := 6, cells := 3, slots := 482, locals := 231 })
abbrev yX10_addLastNumber : MethodName := ⟨"BundleFence$Teller", "addLastNumber", "()V"⟩
abbrev mX10_addLastNumber : xMd := (yX10_addLastNumber, cX10_addLastNumber, 1, none, { frames := 6, cells := 2, slots := 804, locals := 227 })
abbrev yX10_addUnsigned : MethodName := ⟨"BundleFence$Teller", "addUnsigned", "(I)V"⟩
abbrev mX10_addUnsigned : xMd := (yX10_addUnsigned, cX10_addUnsigned, 4, none, { frames := 6, cells := 2, slots := 804, locals := 227 })
abbrev yX10_addCondition : MethodName := ⟨"BundleFence$Teller", "addCondition", "()V"⟩
abbrev mX10_addCondition : xMd := (yX10_addCondition, cX10_addCondition, 2, none, { frames := 6, cells := 2, slots := 804, locals := 225 })
abbrev yX10_addAddress : MethodName := ⟨"BundleFence$Teller", "addAddress", "()V"⟩
abbrev mX10_addAddress : xMd := (yX10_addAddress, cX10_addAddress, 2, none, { frames := 7, cells := 11, slots := 2974, locals := 255 })
abbrev yX10_addE : MethodName := ⟨"BundleFence$Teller", "addE", "()V"⟩
abbrev mX10_addE : xMd := (yX10_addE, cX10_addE, 1, none, { frames := 8, cells := 14, slots := 4180, locals := 276 })
abbrev yX10_addOperands : MethodName := ⟨"BundleFence$Teller", "addOperands", "()V"⟩
abbrev mX10_addOperands : xMd := (yX10_addOperands, cX10_addOperands, 1, none, { frames := 9, cells := 20, slots := 5868, locals := 296 })
abbrev yX10_compose : MethodName := ⟨"BundleFence$Teller", "compose", "()I"⟩
abbrev mX10_compose : xMd := (yX10_compose, cX10_compose, 1, (some .int), { frames := 10, cells := 25, slots := 7878, locals := 316 })
abbrev yX10_eightFrom : MethodName := ⟨"BundleFence$Teller", "eightFrom", "(I)J"⟩
abbrev mX10_eightFrom : xMd := (yX10_eightFrom, cX10_eightFrom, 8, (some .long), { frames := 4, cells := 0, slots := 0, locals := 118 })
abbrev yX11_tell : MethodName := ⟨"BundleFence", "tell", "(I)I"⟩
abbrev mX11_tell : xMd := (yX11_tell, cX11_tell, 2, (some .int), { frames := 11, cells := 25, slots := 7878, locals := 336 })
abbrev yX11_text : MethodName := ⟨"BundleFence", "text", "(I)J"⟩
abbrev mX11_text : xMd := (yX11_text, cX11_text, 2, (some .long), { frames := 5, cells := 0, slots := 0, locals := 145 })
theorem tw43 : Cond.selects "BundleFence$Teller" ⟨"BundleFence$Teller", "addCondition", "()V"⟩ ⟨"BundleFence$Teller", "addCondition", "()V"⟩ ∈ gtbl := gts_3 (y := ⟨"BundleFence$Teller", "addCondition", "()V"⟩) 11 rfl
theorem tw44 : Cond.selects "BundleFence$Teller" ⟨"BundleFence$Teller", "addOperands", "()V"⟩ ⟨"BundleFence$Teller", "addOperands", "()V"⟩ ∈ gtbl := gts_3 (y := ⟨"BundleFence$Teller", "addOperands", "()V"⟩) 12 rfl
theorem tw45 : Cond.selects "BundleFence$Teller" ⟨"BundleFence$Teller", "addE", "()V"⟩ ⟨"BundleFence$Teller", "addE", "()V"⟩ ∈ gtbl := gts_3 (y := ⟨"BundleFence$Teller", "addE", "()V"⟩) 13 rfl
theorem tw46 : Cond.selects "BundleFence$Teller" ⟨"BundleFence$Teller", "addRegister", "(II)V"⟩ ⟨"BundleFence$Teller", "addRegister", "(II)V"⟩ ∈ gtbl := gts_3 (y := ⟨"BundleFence$Teller", "addRegister", "(II)V"⟩) 14 rfl
theorem tw47 : Cond.selects "BundleFence$Teller" ⟨"BundleFence$Teller", "addAddress", "()V"⟩ ⟨"BundleFence$Teller", "addAddress", "()V"⟩ ∈ gtbl := gts_3 (y := ⟨"BundleFence$Teller", "addAddress", "()V"⟩) 15 rfl
theorem tw48 : Cond.selects "BundleFence$Teller" ⟨"BundleFence$Teller", "addLastNumber", "()V"⟩ ⟨"BundleFence$Teller", "addLastNumber", "()V"⟩ ∈ gtbl := gts_4 (y := ⟨"BundleFence$Teller", "addLastNumber", "()V"⟩) 0 rfl
theorem tw49 : Cond.selects "BundleFence$Teller" ⟨"BundleFence$Teller", "addUnsigned", "(I)V"⟩ ⟨"BundleFence$Teller", "addUnsigned", "(I)V"⟩ ∈ gtbl := gts_4 (y := ⟨"BundleFence$Teller", "addUnsigned", "(I)V"⟩) 1 rfl
theorem tw160 : Cond.initialized "BundleFence$Teller" ∈ gtbl := gtt_1 8 rfl rfl
theorem tw224 : Cond.fieldLink "BundleFence$Teller" 26 "BundleFence$Instruction" "op" "LBundleFence$Op;" ∈ gtbl := gtt_1 72 rfl rfl
theorem tw229 : Cond.fieldLink "BundleFence$Teller" 54 "BundleFence$Instruction" "form" "I" ∈ gtbl := gtt_1 77 rfl rfl
theorem tw236 : Cond.fieldLink "BundleFence$Teller" 72 "BundleFence$Instruction" "condition" "I" ∈ gtbl := gtt_1 84 rfl rfl
theorem tw240 : Cond.fieldLink "BundleFence$Teller" 86 "BundleFence$Instruction" "width" "I" ∈ gtbl := gtt_1 88 rfl rfl
theorem tw245 : Cond.fieldLink "BundleFence$Teller" 130 "BundleFence$Instruction" "widthOfE" "I" ∈ gtbl := gtt_1 93 rfl rfl
theorem tw250 : Cond.fieldLink "BundleFence$Teller" 123 "BundleFence$Instruction" "inMemory" "Z" ∈ gtbl := gtt_1 98 rfl rfl
theorem tw255 : Cond.fieldLink "BundleFence$Teller" 127 "BundleFence$Instruction" "rm" "I" ∈ gtbl := gtt_1 103 rfl rfl
theorem tw259 : Cond.fieldLink "BundleFence$Teller" 83 "BundleFence$Instruction" "reg" "I" ∈ gtbl := gtt_1 107 rfl rfl
theorem tw265 : Cond.fieldLink "BundleFence$Teller" 136 "BundleFence$Instruction" "base" "I" ∈ gtbl := gtt_1 113 rfl rfl
theorem tw269 : Cond.fieldLink "BundleFence$Teller" 139 "BundleFence$Instruction" "index" "I" ∈ gtbl := gtt_1 117 rfl rfl
theorem tw273 : Cond.fieldLink "BundleFence$Teller" 142 "BundleFence$Instruction" "scale" "I" ∈ gtbl := gtt_1 121 rfl rfl
theorem tw277 : Cond.fieldLink "BundleFence$Teller" 145 "BundleFence$Instruction" "displacement" "I" ∈ gtbl := gtt_1 125 rfl rfl
theorem tw281 : Cond.fieldLink "BundleFence$Teller" 98 "BundleFence$Instruction" "number" "I" ∈ gtbl := gtt_1 129 rfl rfl
theorem tw577 : Cond.fieldLink "BundleFence" 46 "BundleFence" "teller" "LBundleFence$Teller;" ∈ gtbl := gtt_2 185 rfl rfl
theorem tw960 : Cond.methodLink "BundleFence" 130 ⟨"BundleFence$Teller", "compose", "()I"⟩ ∈ gtbl := gtt_4 88 rfl rfl
theorem tw961 : Cond.instanceMethod ⟨"BundleFence$Teller", "compose", "()I"⟩ ∈ gtbl := gtt_4 89 rfl rfl
theorem tw962 : Cond.selects "BundleFence$Teller" ⟨"BundleFence$Teller", "compose", "()I"⟩ ⟨"BundleFence$Teller", "compose", "()I"⟩ ∈ gtbl := gtt_4 90 rfl rfl
theorem tw963 : Cond.code ⟨"BundleFence$Teller", "compose", "()I"⟩ cX10_compose 1 (some .int) ∈ gtbl := gtt_4 91 rfl rfl
theorem tw964 : Cond.methodLink "BundleFence$Teller" 22 ⟨"java/lang/StringBuilder", "setLength", "(I)V"⟩ ∈ gtbl := gtt_4 92 rfl rfl
theorem tw1306 : Cond.methodLink "BundleFence$Teller" 38 ⟨"java/lang/StringBuilder", "append", "(Ljava/lang/String;)Ljava/lang/StringBuilder;"⟩ ∈ gtbl := gtt_5 194 rfl rfl
theorem tw1307 : Cond.fieldLink "BundleFence$Teller" 42 "BundleFence$Op" "J" "LBundleFence$Op;" ∈ gtbl := gtt_5 195 rfl rfl
theorem tw1308 : Cond.fieldLink "BundleFence$Teller" 45 "BundleFence$Op" "SET" "LBundleFence$Op;" ∈ gtbl := gtt_5 196 rfl rfl
theorem tw1309 : Cond.fieldLink "BundleFence$Teller" 48 "BundleFence$Op" "CMOV" "LBundleFence$Op;" ∈ gtbl := gtt_5 197 rfl rfl
theorem tw1310 : Cond.methodLink "BundleFence$Teller" 51 ⟨"BundleFence$Teller", "addCondition", "()V"⟩ ∈ gtbl := gtt_5 198 rfl rfl
theorem tw1312 : Cond.instanceMethod ⟨"BundleFence$Teller", "addCondition", "()V"⟩ ∈ gtbl := gtt_5 200 rfl rfl
theorem tw1313 : Cond.code ⟨"BundleFence$Teller", "addCondition", "()V"⟩ cX10_addCondition 2 none ∈ gtbl := gtt_5 201 rfl rfl
theorem tw1315 : Cond.methodLink "BundleFence$Teller" 77 ⟨"java/lang/String", "charAt", "(I)C"⟩ ∈ gtbl := gtt_5 203 rfl rfl
theorem tw1339 : Cond.methodLink "BundleFence$Teller" 58 ⟨"java/lang/StringBuilder", "append", "(C)Ljava/lang/StringBuilder;"⟩ ∈ gtbl := gtt_5 227 rfl rfl
theorem tw1352 : Cond.methodLink "BundleFence$Teller" 61 ⟨"BundleFence$Teller", "addOperands", "()V"⟩ ∈ gtbl := gtt_6 0 rfl rfl
theorem tw1354 : Cond.instanceMethod ⟨"BundleFence$Teller", "addOperands", "()V"⟩ ∈ gtbl := gtt_6 2 rfl rfl
theorem tw1355 : Cond.code ⟨"BundleFence$Teller", "addOperands", "()V"⟩ cX10_addOperands 1 none ∈ gtbl := gtt_6 3 rfl rfl
theorem tw1356 : Cond.methodLink "BundleFence$Teller" 80 ⟨"BundleFence$Teller", "addE", "()V"⟩ ∈ gtbl := gtt_6 4 rfl rfl
theorem tw1358 : Cond.instanceMethod ⟨"BundleFence$Teller", "addE", "()V"⟩ ∈ gtbl := gtt_6 6 rfl rfl
theorem tw1359 : Cond.code ⟨"BundleFence$Teller", "addE", "()V"⟩ cX10_addE 1 none ∈ gtbl := gtt_6 7 rfl rfl
theorem tw1360 : Cond.methodLink "BundleFence$Teller" 89 ⟨"BundleFence$Teller", "addRegister", "(II)V"⟩ ∈ gtbl := gtt_6 8 rfl rfl
theorem tw1362 : Cond.instanceMethod ⟨"BundleFence$Teller", "addRegister", "(II)V"⟩ ∈ gtbl := gtt_6 10 rfl rfl
theorem tw1363 : Cond.code ⟨"BundleFence$Teller", "addRegister", "(II)V"⟩ cX10_addRegister 5 none ∈ gtbl := gtt_6 11 rfl rfl
theorem tw1365 : Cond.methodLink "BundleFence$Teller" 115 ⟨"java/lang/String", "substring", "(II)Ljava/lang/String;"⟩ ∈ gtbl := gtt_6 13 rfl rfl
theorem tw1391 : Cond.methodLink "BundleFence$Teller" 133 ⟨"BundleFence$Teller", "addAddress", "()V"⟩ ∈ gtbl := gtt_6 39 rfl rfl
theorem tw1393 : Cond.instanceMethod ⟨"BundleFence$Teller", "addAddress", "()V"⟩ ∈ gtbl := gtt_6 41 rfl rfl
theorem tw1394 : Cond.code ⟨"BundleFence$Teller", "addAddress", "()V"⟩ cX10_addAddress 2 none ∈ gtbl := gtt_6 42 rfl rfl
theorem tw1395 : Cond.methodLink "BundleFence$Teller" 104 ⟨"java/lang/StringBuilder", "append", "(I)Ljava/lang/StringBuilder;"⟩ ∈ gtbl := gtt_6 43 rfl rfl
theorem tw1396 : Cond.methodLink "BundleFence$Teller" 93 ⟨"BundleFence$Teller", "addLastNumber", "()V"⟩ ∈ gtbl := gtt_6 44 rfl rfl
theorem tw1398 : Cond.instanceMethod ⟨"BundleFence$Teller", "addLastNumber", "()V"⟩ ∈ gtbl := gtt_6 46 rfl rfl
theorem tw1399 : Cond.code ⟨"BundleFence$Teller", "addLastNumber", "()V"⟩ cX10_addLastNumber 1 none ∈ gtbl := gtt_6 47 rfl rfl
theorem tw1401 : Cond.methodLink "BundleFence$Teller" 101 ⟨"BundleFence$Teller", "addUnsigned", "(I)V"⟩ ∈ gtbl := gtt_6 49 rfl rfl
theorem tw1403 : Cond.instanceMethod ⟨"BundleFence$Teller", "addUnsigned", "(I)V"⟩ ∈ gtbl := gtt_6 51 rfl rfl
theorem tw1404 : Cond.code ⟨"BundleFence$Teller", "addUnsigned", "(I)V"⟩ cX10_addUnsigned 4 none ∈ gtbl := gtt_6 52 rfl rfl
theorem tw1405 : ("BundleFence$Teller", 107, (⟨"BundleFence", "unsigned", "(I)J"⟩ : MethodName), "BundleFence") ∈ nestL := List.mem_of_getElem? (i := 1) rfl
theorem tw1409 : Cond.constantLong "BundleFence$Teller" 111 10 ∈ gtbl := gtt_6 57 rfl rfl
theorem tw1410 : Cond.methodLink "BundleFence$Teller" 64 ⟨"java/lang/StringBuilder", "length", "()I"⟩ ∈ gtbl := gtt_6 58 rfl rfl
theorem tw1415 : Cond.methodLink "BundleFence" 133 ⟨"BundleFence$Teller", "eightFrom", "(I)J"⟩ ∈ gtbl := gtt_6 63 rfl rfl
theorem tw1416 : Cond.instanceMethod ⟨"BundleFence$Teller", "eightFrom", "(I)J"⟩ ∈ gtbl := gtt_6 64 rfl rfl
theorem tw1417 : Cond.selects "BundleFence$Teller" ⟨"BundleFence$Teller", "eightFrom", "(I)J"⟩ ⟨"BundleFence$Teller", "eightFrom", "(I)J"⟩ ∈ gtbl := gtt_6 65 rfl rfl
theorem tw1418 : Cond.code ⟨"BundleFence$Teller", "eightFrom", "(I)J"⟩ cX10_eightFrom 8 (some .long) ∈ gtbl := gtt_6 66 rfl rfl
theorem tw1419 : Cond.methodLink "BundleFence$Teller" 68 ⟨"java/lang/StringBuilder", "charAt", "(I)C"⟩ ∈ gtbl := gtt_6 67 rfl rfl
theorem tw2447 : Cond.fieldLink "BundleFence$Teller" 32 "BundleFence$Op" "word" "Ljava/lang/String;" ∈ gtbl := gtt_10 135 rfl rfl
theorem gfX10_12 {ρ : Type} {ι : ρ → xO × xW} {M : xMd} {b : Nat × Nat} {pc : Nat} {lv : List (Nat × Value)} {st : List Value} {w : xW} {r : Option ρ} (hd : decode M.2.1 pc = .ok (.getfield 12, 3)) (hM : M.1.cls = "BundleFence$Teller") (kk : xJ ι M lC b (pc + 3) lv (.ref 30 :: st) w r) : xJ ι M lC b pc lv (.ref 5 :: st) w r :=
  xj_gf (v := .ref 30) (ci := 5) (j := 1) (C := RX10) (T := TX10) (N := 2) hd rfl rfl xkX10 (Nat.le_of_ble_eq_true rfl) (by rw [hM]; exact tw434) (fun _ => rfl) kk
theorem gfX10_123 {ρ : Type} {ι : ρ → xO × xW} {M : xMd} {b : Nat × Nat} {pc : Nat} {lv : List (Nat × Value)} {st : List Value} {w : xW} {r : Option ρ} {v : Int32} (hd : decode M.2.1 pc = .ok (.getfield 123, 3)) (hM : M.1.cls = "BundleFence$Teller") (hv : w.1 2 6 = v) (kk : xJ ι M lC b (pc + 3) lv (.int v :: st) w r) : xJ ι M lC b pc lv (.ref 2 :: st) w r :=
  xj_gf (v := .int v) (ci := 2) (j := 6) (C := RX6) (T := TX6) (N := 15) hd rfl rfl xkX6 (Nat.le_of_ble_eq_true rfl) (by rw [hM]; exact tw250) (fun _ => by subst hv; rfl) kk
theorem gfX10_127 {ρ : Type} {ι : ρ → xO × xW} {M : xMd} {b : Nat × Nat} {pc : Nat} {lv : List (Nat × Value)} {st : List Value} {w : xW} {r : Option ρ} {v : Int32} (hd : decode M.2.1 pc = .ok (.getfield 127, 3)) (hM : M.1.cls = "BundleFence$Teller") (hv : w.1 2 7 = v) (kk : xJ ι M lC b (pc + 3) lv (.int v :: st) w r) : xJ ι M lC b pc lv (.ref 2 :: st) w r :=
  xj_gf (v := .int v) (ci := 2) (j := 7) (C := RX6) (T := TX6) (N := 15) hd rfl rfl xkX6 (Nat.le_of_ble_eq_true rfl) (by rw [hM]; exact tw255) (fun _ => by subst hv; rfl) kk
theorem gfX10_130 {ρ : Type} {ι : ρ → xO × xW} {M : xMd} {b : Nat × Nat} {pc : Nat} {lv : List (Nat × Value)} {st : List Value} {w : xW} {r : Option ρ} {v : Int32} (hd : decode M.2.1 pc = .ok (.getfield 130, 3)) (hM : M.1.cls = "BundleFence$Teller") (hv : w.1 2 5 = v) (kk : xJ ι M lC b (pc + 3) lv (.int v :: st) w r) : xJ ι M lC b pc lv (.ref 2 :: st) w r :=
  xj_gf (v := .int v) (ci := 2) (j := 5) (C := RX6) (T := TX6) (N := 15) hd rfl rfl xkX6 (Nat.le_of_ble_eq_true rfl) (by rw [hM]; exact tw245) (fun _ => by subst hv; rfl) kk
theorem gfX10_136 {ρ : Type} {ι : ρ → xO × xW} {M : xMd} {b : Nat × Nat} {pc : Nat} {lv : List (Nat × Value)} {st : List Value} {w : xW} {r : Option ρ} {v : Int32} (hd : decode M.2.1 pc = .ok (.getfield 136, 3)) (hM : M.1.cls = "BundleFence$Teller") (hv : w.1 2 9 = v) (kk : xJ ι M lC b (pc + 3) lv (.int v :: st) w r) : xJ ι M lC b pc lv (.ref 2 :: st) w r :=
  xj_gf (v := .int v) (ci := 2) (j := 9) (C := RX6) (T := TX6) (N := 15) hd rfl rfl xkX6 (Nat.le_of_ble_eq_true rfl) (by rw [hM]; exact tw265) (fun _ => by subst hv; rfl) kk
theorem gfX10_139 {ρ : Type} {ι : ρ → xO × xW} {M : xMd} {b : Nat × Nat} {pc : Nat} {lv : List (Nat × Value)} {st : List Value} {w : xW} {r : Option ρ} {v : Int32} (hd : decode M.2.1 pc = .ok (.getfield 139, 3)) (hM : M.1.cls = "BundleFence$Teller") (hv : w.1 2 10 = v) (kk : xJ ι M lC b (pc + 3) lv (.int v :: st) w r) : xJ ι M lC b pc lv (.ref 2 :: st) w r :=
  xj_gf (v := .int v) (ci := 2) (j := 10) (C := RX6) (T := TX6) (N := 15) hd rfl rfl xkX6 (Nat.le_of_ble_eq_true rfl) (by rw [hM]; exact tw269) (fun _ => by subst hv; rfl) kk
theorem gfX10_142 {ρ : Type} {ι : ρ → xO × xW} {M : xMd} {b : Nat × Nat} {pc : Nat} {lv : List (Nat × Value)} {st : List Value} {w : xW} {r : Option ρ} {v : Int32} (hd : decode M.2.1 pc = .ok (.getfield 142, 3)) (hM : M.1.cls = "BundleFence$Teller") (hv : w.1 2 11 = v) (kk : xJ ι M lC b (pc + 3) lv (.int v :: st) w r) : xJ ι M lC b pc lv (.ref 2 :: st) w r :=
  xj_gf (v := .int v) (ci := 2) (j := 11) (C := RX6) (T := TX6) (N := 15) hd rfl rfl xkX6 (Nat.le_of_ble_eq_true rfl) (by rw [hM]; exact tw273) (fun _ => by subst hv; rfl) kk
theorem gfX10_145 {ρ : Type} {ι : ρ → xO × xW} {M : xMd} {b : Nat × Nat} {pc : Nat} {lv : List (Nat × Value)} {st : List Value} {w : xW} {r : Option ρ} {v : Int32} (hd : decode M.2.1 pc = .ok (.getfield 145, 3)) (hM : M.1.cls = "BundleFence$Teller") (hv : w.1 2 12 = v) (kk : xJ ι M lC b (pc + 3) lv (.int v :: st) w r) : xJ ι M lC b pc lv (.ref 2 :: st) w r :=
  xj_gf (v := .int v) (ci := 2) (j := 12) (C := RX6) (T := TX6) (N := 15) hd rfl rfl xkX6 (Nat.le_of_ble_eq_true rfl) (by rw [hM]; exact tw277) (fun _ => by subst hv; rfl) kk
theorem gfX10_18 {ρ : Type} {ι : ρ → xO × xW} {M : xMd} {b : Nat × Nat} {pc : Nat} {lv : List (Nat × Value)} {st : List Value} {w : xW} {r : Option ρ} (hd : decode M.2.1 pc = .ok (.getfield 18, 3)) (hM : M.1.cls = "BundleFence$Teller") (kk : xJ ι M lC b (pc + 3) lv (.ref 2 :: st) w r) : xJ ι M lC b pc lv (.ref 5 :: st) w r :=
  xj_gf (v := .ref 2) (ci := 5) (j := 0) (C := RX10) (T := TX10) (N := 2) hd rfl rfl xkX10 (Nat.le_of_ble_eq_true rfl) (by rw [hM]; exact tw433) (fun _ => rfl) kk
theorem gfX10_26 {ρ : Type} {ι : ρ → xO × xW} {M : xMd} {b : Nat × Nat} {pc : Nat} {lv : List (Nat × Value)} {st : List Value} {w : xW} {r : Option ρ} {v : Int32} (hd : decode M.2.1 pc = .ok (.getfield 26, 3)) (hM : M.1.cls = "BundleFence$Teller") (hv : w.1 2 0 = v) (kk : xJ ι M lC b (pc + 3) lv (.ref (2000 + v.toNatClampNeg) :: st) w r) : xJ ι M lC b pc lv (.ref 2 :: st) w r :=
  xj_gf (v := .ref (2000 + v.toNatClampNeg)) (ci := 2) (j := 0) (C := RX6) (T := TX6) (N := 15) hd rfl rfl xkX6 (Nat.le_of_ble_eq_true rfl) (by rw [hM]; exact tw224) (fun _ => by subst hv; rfl) kk
theorem gfX10_54 {ρ : Type} {ι : ρ → xO × xW} {M : xMd} {b : Nat × Nat} {pc : Nat} {lv : List (Nat × Value)} {st : List Value} {w : xW} {r : Option ρ} {v : Int32} (hd : decode M.2.1 pc = .ok (.getfield 54, 3)) (hM : M.1.cls = "BundleFence$Teller") (hv : w.1 2 1 = v) (kk : xJ ι M lC b (pc + 3) lv (.int v :: st) w r) : xJ ι M lC b pc lv (.ref 2 :: st) w r :=
  xj_gf (v := .int v) (ci := 2) (j := 1) (C := RX6) (T := TX6) (N := 15) hd rfl rfl xkX6 (Nat.le_of_ble_eq_true rfl) (by rw [hM]; exact tw229) (fun _ => by subst hv; rfl) kk
theorem gfX10_72 {ρ : Type} {ι : ρ → xO × xW} {M : xMd} {b : Nat × Nat} {pc : Nat} {lv : List (Nat × Value)} {st : List Value} {w : xW} {r : Option ρ} {v : Int32} (hd : decode M.2.1 pc = .ok (.getfield 72, 3)) (hM : M.1.cls = "BundleFence$Teller") (hv : w.1 2 3 = v) (kk : xJ ι M lC b (pc + 3) lv (.int v :: st) w r) : xJ ι M lC b pc lv (.ref 2 :: st) w r :=
  xj_gf (v := .int v) (ci := 2) (j := 3) (C := RX6) (T := TX6) (N := 15) hd rfl rfl xkX6 (Nat.le_of_ble_eq_true rfl) (by rw [hM]; exact tw236) (fun _ => by subst hv; rfl) kk
theorem gfX10_83 {ρ : Type} {ι : ρ → xO × xW} {M : xMd} {b : Nat × Nat} {pc : Nat} {lv : List (Nat × Value)} {st : List Value} {w : xW} {r : Option ρ} {v : Int32} (hd : decode M.2.1 pc = .ok (.getfield 83, 3)) (hM : M.1.cls = "BundleFence$Teller") (hv : w.1 2 8 = v) (kk : xJ ι M lC b (pc + 3) lv (.int v :: st) w r) : xJ ι M lC b pc lv (.ref 2 :: st) w r :=
  xj_gf (v := .int v) (ci := 2) (j := 8) (C := RX6) (T := TX6) (N := 15) hd rfl rfl xkX6 (Nat.le_of_ble_eq_true rfl) (by rw [hM]; exact tw259) (fun _ => by subst hv; rfl) kk
theorem gfX10_86 {ρ : Type} {ι : ρ → xO × xW} {M : xMd} {b : Nat × Nat} {pc : Nat} {lv : List (Nat × Value)} {st : List Value} {w : xW} {r : Option ρ} {v : Int32} (hd : decode M.2.1 pc = .ok (.getfield 86, 3)) (hM : M.1.cls = "BundleFence$Teller") (hv : w.1 2 4 = v) (kk : xJ ι M lC b (pc + 3) lv (.int v :: st) w r) : xJ ι M lC b pc lv (.ref 2 :: st) w r :=
  xj_gf (v := .int v) (ci := 2) (j := 4) (C := RX6) (T := TX6) (N := 15) hd rfl rfl xkX6 (Nat.le_of_ble_eq_true rfl) (by rw [hM]; exact tw240) (fun _ => by subst hv; rfl) kk
theorem gfX10_98 {ρ : Type} {ι : ρ → xO × xW} {M : xMd} {b : Nat × Nat} {pc : Nat} {lv : List (Nat × Value)} {st : List Value} {w : xW} {r : Option ρ} {v : Int32} (hd : decode M.2.1 pc = .ok (.getfield 98, 3)) (hM : M.1.cls = "BundleFence$Teller") (hv : w.1 2 13 = v) (kk : xJ ι M lC b (pc + 3) lv (.int v :: st) w r) : xJ ι M lC b pc lv (.ref 2 :: st) w r :=
  xj_gf (v := .int v) (ci := 2) (j := 13) (C := RX6) (T := TX6) (N := 15) hd rfl rfl xkX6 (Nat.le_of_ble_eq_true rfl) (by rw [hM]; exact tw281) (fun _ => by subst hv; rfl) kk
theorem gfX11_46 {ρ : Type} {ι : ρ → xO × xW} {M : xMd} {b : Nat × Nat} {pc : Nat} {lv : List (Nat × Value)} {st : List Value} {w : xW} {r : Option ρ} (hd : decode M.2.1 pc = .ok (.getfield 46, 3)) (hM : M.1.cls = "BundleFence") (kk : xJ ι M lC b (pc + 3) lv (.ref 5 :: st) w r) : xJ ι M lC b pc lv (.ref 0 :: st) w r :=
  xj_gf (v := .ref 5) (ci := 0) (j := 4) (C := RX11) (T := TX11) (N := 9) hd rfl rfl xkX11 (Nat.le_of_ble_eq_true rfl) (by rw [hM]; exact tw577) (fun _ => rfl) kk
theorem mkX10_addRegister : xMkV mX10_addRegister 2 := ⟨⟨tw1363, tw160, ⟨by decide, by decide⟩, by decide +kernel⟩, tw1362, tw46⟩
theorem mkX10_addAddress : xMkV mX10_addAddress 0 := ⟨⟨tw1394, tw160, ⟨by decide, by decide⟩, by decide +kernel⟩, tw1393, tw47⟩
theorem mkX10_addE : xMkV mX10_addE 0 := ⟨⟨tw1359, tw160, ⟨by decide, by decide⟩, by decide +kernel⟩, tw1358, tw45⟩
theorem mkX10_addLastNumber : xMkV mX10_addLastNumber 0 := ⟨⟨tw1399, tw160, ⟨by decide, by decide⟩, by decide +kernel⟩, tw1398, tw48⟩
theorem mkX10_addUnsigned : xMkV mX10_addUnsigned 1 := ⟨⟨tw1404, tw160, ⟨by decide, by decide⟩, by decide +kernel⟩, tw1403, tw49⟩
theorem mkX10_addOperands : xMkV mX10_addOperands 0 := ⟨⟨tw1355, tw160, ⟨by decide, by decide⟩, by decide +kernel⟩, tw1354, tw44⟩
theorem mkX10_addCondition : xMkV mX10_addCondition 0 := ⟨⟨tw1313, tw160, ⟨by decide, by decide⟩, by decide +kernel⟩, tw1312, tw43⟩
theorem mkX10_compose : xMkV mX10_compose 0 := ⟨⟨tw963, tw160, ⟨by decide, by decide⟩, by decide +kernel⟩, tw961, tw962⟩
theorem mkX10_eightFrom : xMkV mX10_eightFrom 1 := ⟨⟨tw1418, tw160, ⟨by decide, by decide⟩, by decide +kernel⟩, tw1416, tw1417⟩
