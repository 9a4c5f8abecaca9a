/-! constructors of the class that call none -/
theorem tw199 : Cond.methodLink "BundleFence$Image" 1 ⟨"java/lang/Object", "<init>", "()V"⟩ ∈ gtbl := gtt_1 47 rfl rfl
theorem tw214 : Cond.arrayClass .byte ∈ gtbl := gtt_1 62 rfl rfl
theorem tw322 : Cond.methodLink "BundleFence$Decoder" 3 ⟨"java/lang/Object", "<init>", "()V"⟩ ∈ gtbl := gtt_1 170 rfl rfl
theorem tw353 : Cond.methodLink "BundleFence$Inspector" 5 ⟨"java/lang/Object", "<init>", "()V"⟩ ∈ gtbl := gtt_1 201 rfl rfl
theorem tw445 : Cond.methodLink "BundleFence$Memory" 5 ⟨"java/lang/Object", "<init>", "()V"⟩ ∈ gtbl := gtt_2 53 rfl rfl
theorem tw463 : Cond.methodLink "BundleFence$Host" 3 ⟨"java/lang/Object", "<init>", "()V"⟩ ∈ gtbl := gtt_2 71 rfl rfl
theorem tw505 : Cond.methodLink "BundleFence$Flags" 1 ⟨"java/lang/Object", "<init>", "()V"⟩ ∈ gtbl := gtt_2 113 rfl rfl
abbrev cX4_init : ByteArray := prog_6_method_1_code
theorem dX4_init_0 : decode cX4_init 0 = .ok (.aload_n 0, 1) := by decide +kernel
theorem dX4_init_1 : decode cX4_init 1 = .ok (.invokespecial 1, 3) := by decide +kernel
theorem dX4_init_4 : decode cX4_init 4 = .ok (.aload_n 0, 1) := by decide +kernel
theorem dX4_init_5 : decode cX4_init 5 = .ok (.sipush 2048, 3) := by decide +kernel
theorem dX4_init_8 : decode cX4_init 8 = .ok (.newarray .byte, 2) := by decide +kernel
theorem dX4_init_10 : decode cX4_init 10 = .ok (.putfield 9, 3) := by decide +kernel
theorem dX4_init_13 : decode cX4_init 13 = .ok (.return_, 1) := by decide +kernel
abbrev yX4_init : MethodName := ⟨"BundleFence$Image", "<init>", "()V"⟩
abbrev mX4_init : xMd := (yX4_init, cX4_init, 1, none, { frames := 1, cells := 1, slots := 2048, locals := 12 })
def atX4 (dC : Nat → ClassId) (dI : Nat → Nat → Nat) (A : Nat → Prop) (h0 : Nat) (t : State) : Prop := ∃ (q1 : Nat) (a1 : ClassId), va_P (dC, dI) lC.1 [(h0, .inr (1, [.ref q1, .int 0])), (q1, .inl (a1, 2048, .inl fun _ => 0))] t.heap ∧ va_K (dC, dI) lC.1 [(a1, .byte)] t ∧ va_D A [(h0, .inr (1, [.ref q1, .int 0])), (q1, .inl (a1, 2048, .inl fun _ => 0))]
set_option maxHeartbeats 4000000 in
set_option maxRecDepth 100000 in
theorem c_X4_init (l : Launch) (dC : Nat → ClassId) (dI : Nat → Nat → Nat) (h0 sz : Nat) : Met l yX4_init (xwords mX4_init) mX4_init.2.2.2.2 (va_Pc [.ref h0] (fun U => U.heap.size = sz ∧ va_P (dC, dI) lC.1 [(h0, .inr (1, [.null, .int 0]))] U.heap ∧ va_K (dC, dI) lC.1 [] U ∧ va_D (fun _ => True) [(h0, .inr (1, [.null, .int 0]))])) (va_Qv (fun _ : Unit => True) (fun _ t => atX4 dC dI (va_A [(h0, .inr (1, [.null, .int 0]))] sz) h0 t) (va_A [(h0, .inr (1, [.null, .int 0]))] sz)) 1 2048 (va_A [(h0, .inr (1, [.null, .int 0]))] sz) := by
  refine Met.ofW (cc := cX4_init) (maxL := 1) (ret := none) (by decide) rfl ?_
  intro p e s m args below meth c s₁ B hml hv
  obtain ⟨rfl, hsz, hP, hK, hD0⟩ := hv
  have hx := B.exec
  have hb := B.bytes
  have hr := B.returns
  have hts : ∀ w ∈ gtbl, w.before _ s = true := fun w hw => atoms_spec (ws := xwords mX4_init) B.pre w (List.mem_cons_of_mem _ hw)
  have hown : s.vm.findClass RX4 = some m.cls := findClass_of_methodNamed B.named
  have hin : meth.name = "<init>" := (name_of_methodNamed B.named B.method).1
  subst hsz
  have hD := hD0.self (sz := s.heap.size)
  generalize hAe : va_A [(h0, .inr (1, [.null, .int 0]))] s.heap.size = A at hD ⊢
  have hA : ∀ q : Nat, s.heap.size ≤ q → A q := fun q h => by rw [← hAe]; exact Or.inr h
  have hS : va_S A s.heap s.heap [] := va_S.rf
  have hP : va_P (dC, dI) lC.1 [(h0, .inr (1, [.null, .int 0]))] s.heap := hP
  have hl := lv_entry ([.ref h0]) (n := 1) (Nat.le_of_ble_eq_true rfl)
  rw [lg_entry_eq]
  generalize (lg_sl ([.ref h0]) ++ List.replicate (1 - (lg_sl ([.ref h0])).length) Slot.unset).toArray = ls at hl ⊢
  have hl : lv_has ls 1 [(0, .ref h0)] := hl
  refine lv_aload_n hx hb dX4_init_0 rfl (lv_at hl 0 rfl) ?_
  refine W.objInit hx hb hown (hts _ tw199) (hts _ tw192) (hts _ tw193) rfl (by rw [hml]; exact hl.1) rfl dX4_init_1 (Nat.le_of_ble_eq_true rfl) (Nat.le_of_ble_eq_true rfl) ?_
  refine W.eq (g2 := F0 m 4 ls []) rfl ?_
  refine lv_aload_n hx hb dX4_init_4 rfl (lv_at hl 0 rfl) ?_
  refine lv_sipush (v := 2048) hx hb dX4_init_5 (by decide) ?_
  refine va_newa (atype := .byte) (N' := 2048) (ty := .byte) (a0 := (2048, .inl fun _ => 0)) hx hb (hts _ tw214) rfl hK hP hD hS hA (fun _ => rfl) (by decide) (by decide) (by decide) (Nat.le_of_ble_eq_true rfl) (Nat.le_of_ble_eq_true rfl) dX4_init_8 (fun q1 a1 H hK hP hD hS => ?_)
  have hP : va_P (dC, dI) lC.1 [(h0, .inr (1, [.null, .int 0])), (q1, .inl (a1, 2048, .inl fun _ => 0))] H := hP
  have hD : va_D A [(h0, .inr (1, [.null, .int 0])), (q1, .inl (a1, 2048, .inl fun _ => 0))] := hD
  have hK : va_K (dC, dI) lC.1 [(a1, .byte)] s := hK
  refine W.widen (k := 1) (n := 2048) (Nat.le_refl _) (Nat.le_refl _) ?_
  refine va_putF (D := (dC, dI)) (ci := 1) (v := .ref q1) (ty := .array .byte) (C := RX4) (T := TX4) (N := 2) hx hb hts inX4 tyX4 tyX4_ok nmX4 hown hK hP hD hS 0 rfl rfl 0 (by decide) (hts _ tw200) (fun _ h9 => h9) rfl hin rfl (by decide +kernel) rfl rfl (Nat.le_of_ble_eq_true rfl) dX4_init_10 (fun H locs hP hD hS => ?_)
  have hP : va_P (dC, dI) lC.1 [(h0, .inr (1, [.ref q1, .int 0])), (q1, .inl (a1, 2048, .inl fun _ => 0))] H := hP
  have hD : va_D A [(h0, .inr (1, [.ref q1, .int 0])), (q1, .inl (a1, 2048, .inl fun _ => 0))] := hD
  exact W.vret hx hb hr (fun t ht hW => ⟨⟨(), rfl, trivial, q1, a1, by rw [ht]; exact hP, va_K.moved hW.alike hK, hD⟩, hS.F ht⟩) hS.2.2 dX4_init_13
abbrev cX1_init : ByteArray := prog_3_method_1_code
theorem dX1_init_0 : decode cX1_init 0 = .ok (.aload_n 0, 1) := by decide +kernel
theorem dX1_init_1 : decode cX1_init 1 = .ok (.invokespecial 3, 3) := by decide +kernel
theorem dX1_init_4 : decode cX1_init 4 = .ok (.aload_n 0, 1) := by decide +kernel
theorem dX1_init_5 : decode cX1_init 5 = .ok (.aload_n 1, 1) := by decide +kernel
theorem dX1_init_6 : decode cX1_init 6 = .ok (.putfield 9, 3) := by decide +kernel
theorem dX1_init_9 : decode cX1_init 9 = .ok (.aload_n 0, 1) := by decide +kernel
theorem dX1_init_10 : decode cX1_init 10 = .ok (.aload_n 2, 1) := by decide +kernel
theorem dX1_init_11 : decode cX1_init 11 = .ok (.putfield 15, 3) := by decide +kernel
theorem dX1_init_14 : decode cX1_init 14 = .ok (.return_, 1) := by decide +kernel
abbrev yX1_init : MethodName := ⟨"BundleFence$Decoder", "<init>", "(LBundleFence$Image;LBundleFence$Instruction;)V"⟩
abbrev mX1_init : xMd := (yX1_init, cX1_init, 3, none, { frames := 1, cells := 0, slots := 0, locals := 12 })
def atX1 (dC : Nat → ClassId) (dI : Nat → Nat → Nat) (A : Nat → Prop) (h0 p1 p2 : Nat) (t : State) : Prop := va_P (dC, dI) lC.1 [(h0, .inr (3, [.ref p1, .ref p2, .int 0, .int 0, .int 0, .int 0, .int 0, .int 0]))] t.heap ∧ va_K (dC, dI) lC.1 [] t ∧ va_D A [(h0, .inr (3, [.ref p1, .ref p2, .int 0, .int 0, .int 0, .int 0, .int 0, .int 0]))]
set_option maxHeartbeats 4000000 in
set_option maxRecDepth 100000 in
theorem c_X1_init (l : Launch) (dC : Nat → ClassId) (dI : Nat → Nat → Nat) (h0 p1 p2 sz : Nat) : Met l yX1_init (xwords mX1_init) mX1_init.2.2.2.2 (va_Pc [.ref h0, .ref p1, .ref p2] (fun U => U.heap.size = sz ∧ va_P (dC, dI) lC.1 [(h0, .inr (3, [.null, .null, .int 0, .int 0, .int 0, .int 0, .int 0, .int 0]))] U.heap ∧ va_K (dC, dI) lC.1 [] U ∧ va_D (fun _ => True) [(h0, .inr (3, [.null, .null, .int 0, .int 0, .int 0, .int 0, .int 0, .int 0]))])) (va_Qv (fun _ : Unit => True) (fun _ t => atX1 dC dI (va_A [(h0, .inr (3, [.null, .null, .int 0, .int 0, .int 0, .int 0, .int 0, .int 0]))] sz) h0 p1 p2 t) (va_A [(h0, .inr (3, [.null, .null, .int 0, .int 0, .int 0, .int 0, .int 0, .int 0]))] sz)) 0 0 (va_A [(h0, .inr (3, [.null, .null, .int 0, .int 0, .int 0, .int 0, .int 0, .int 0]))] sz) := by
  refine Met.ofW (cc := cX1_init) (maxL := 3) (ret := none) (by decide) rfl ?_
  intro p e s m args below meth c s₁ B hml hv
  obtain ⟨rfl, hsz, hP, hK, hD0⟩ := hv
  have hx := B.exec
  have hb := B.bytes
  have hr := B.returns
  have hts : ∀ w ∈ gtbl, w.before _ s = true := fun w hw => atoms_spec (ws := xwords mX1_init) B.pre w (List.mem_cons_of_mem _ hw)
  have hown : s.vm.findClass RX1 = some m.cls := findClass_of_methodNamed B.named
  have hin : meth.name = "<init>" := (name_of_methodNamed B.named B.method).1
  subst hsz
  have hD := hD0.self (sz := s.heap.size)
  generalize hAe : va_A [(h0, .inr (3, [.null, .null, .int 0, .int 0, .int 0, .int 0, .int 0, .int 0]))] s.heap.size = A at hD ⊢
  have hA : ∀ q : Nat, s.heap.size ≤ q → A q := fun q h => by rw [← hAe]; exact Or.inr h
  have hS : va_S A s.heap s.heap [] := va_S.rf
  have hP : va_P (dC, dI) lC.1 [(h0, .inr (3, [.null, .null, .int 0, .int 0, .int 0, .int 0, .int 0, .int 0]))] s.heap := hP
  have hl := lv_entry ([.ref h0, .ref p1, .ref p2]) (n := 3) (Nat.le_of_ble_eq_true rfl)
  rw [lg_entry_eq]
  generalize (lg_sl ([.ref h0, .ref p1, .ref p2]) ++ List.replicate (3 - (lg_sl ([.ref h0, .ref p1, .ref p2])).length) Slot.unset).toArray = ls at hl ⊢
  have hl : lv_has ls 3 [(0, .ref h0), (1, .ref p1), (2, .ref p2)] := hl
  refine lv_aload_n hx hb dX1_init_0 rfl (lv_at hl 0 rfl) ?_
  refine W.objInit hx hb hown (hts _ tw322) (hts _ tw192) (hts _ tw193) rfl (by rw [hml]; exact hl.1) rfl dX1_init_1 (Nat.le_of_ble_eq_true rfl) (Nat.le_of_ble_eq_true rfl) ?_
  refine W.eq (g2 := F0 m 4 ls []) rfl ?_
  refine lv_aload_n hx hb dX1_init_4 rfl (lv_at hl 0 rfl) ?_
  refine lv_aload_n hx hb dX1_init_5 rfl (lv_at hl 1 rfl) ?_
  refine va_putF (D := (dC, dI)) (ci := 3) (v := .ref p1) (ty := .object "BundleFence$Image") (C := RX1) (T := TX1) (N := 8) hx hb hts inX1 tyX1 tyX1_ok nmX1 hown hK hP hD hS 0 rfl rfl 0 (by decide) (hts _ tw323) (fun _ h9 => h9) rfl hin rfl (by decide +kernel) rfl rfl (Nat.le_of_ble_eq_true rfl) dX1_init_6 (fun H locs hP hD hS => ?_)
  have hP : va_P (dC, dI) lC.1 [(h0, .inr (3, [.ref p1, .null, .int 0, .int 0, .int 0, .int 0, .int 0, .int 0]))] H := hP
  have hD : va_D A [(h0, .inr (3, [.ref p1, .null, .int 0, .int 0, .int 0, .int 0, .int 0, .int 0]))] := hD
  refine lv_aload_n hx hb dX1_init_9 rfl (lv_at hl 0 rfl) ?_
  refine lv_aload_n hx hb dX1_init_10 rfl (lv_at hl 2 rfl) ?_
  refine va_putF (D := (dC, dI)) (ci := 3) (v := .ref p2) (ty := .object "BundleFence$Instruction") (C := RX1) (T := TX1) (N := 8) hx hb hts inX1 tyX1 tyX1_ok nmX1 hown hK hP hD hS 0 rfl rfl 1 (by decide) (hts _ tw324) (fun _ h9 => h9) rfl hin rfl (by decide +kernel) rfl rfl (Nat.le_of_ble_eq_true rfl) dX1_init_11 (fun H locs hP hD hS => ?_)
  have hP : va_P (dC, dI) lC.1 [(h0, .inr (3, [.ref p1, .ref p2, .int 0, .int 0, .int 0, .int 0, .int 0, .int 0]))] H := hP
  have hD : va_D A [(h0, .inr (3, [.ref p1, .ref p2, .int 0, .int 0, .int 0, .int 0, .int 0, .int 0]))] := hD
  exact W.vret hx hb hr (fun t ht hW => ⟨⟨(), rfl, trivial, by rw [ht]; exact hP, va_K.moved hW.alike hK, hD⟩, hS.F ht⟩) hS.2.2 dX1_init_14
abbrev cX5_init : ByteArray := prog_7_method_1_code
theorem dX5_init_0 : decode cX5_init 0 = .ok (.aload_n 0, 1) := by decide +kernel
theorem dX5_init_1 : decode cX5_init 1 = .ok (.invokespecial 5, 3) := by decide +kernel
theorem dX5_init_4 : decode cX5_init 4 = .ok (.aload_n 0, 1) := by decide +kernel
theorem dX5_init_5 : decode cX5_init 5 = .ok (.sipush 2048, 3) := by decide +kernel
theorem dX5_init_8 : decode cX5_init 8 = .ok (.newarray .int, 2) := by decide +kernel
theorem dX5_init_10 : decode cX5_init 10 = .ok (.putfield 13, 3) := by decide +kernel
theorem dX5_init_13 : decode cX5_init 13 = .ok (.aload_n 0, 1) := by decide +kernel
theorem dX5_init_14 : decode cX5_init 14 = .ok (.sipush 2048, 3) := by decide +kernel
theorem dX5_init_17 : decode cX5_init 17 = .ok (.newarray .int, 2) := by decide +kernel
theorem dX5_init_19 : decode cX5_init 19 = .ok (.putfield 17, 3) := by decide +kernel
theorem dX5_init_22 : decode cX5_init 22 = .ok (.aload_n 0, 1) := by decide +kernel
theorem dX5_init_23 : decode cX5_init 23 = .ok (.sipush 2048, 3) := by decide +kernel
theorem dX5_init_26 : decode cX5_init 26 = .ok (.newarray .int, 2) := by decide +kernel
theorem dX5_init_28 : decode cX5_init 28 = .ok (.putfield 20, 3) := by decide +kernel
theorem dX5_init_31 : decode cX5_init 31 = .ok (.aload_n 0, 1) := by decide +kernel
theorem dX5_init_32 : decode cX5_init 32 = .ok (.sipush 2048, 3) := by decide +kernel
theorem dX5_init_35 : decode cX5_init 35 = .ok (.newarray .int, 2) := by decide +kernel
theorem dX5_init_37 : decode cX5_init 37 = .ok (.putfield 23, 3) := by decide +kernel
theorem dX5_init_40 : decode cX5_init 40 = .ok (.aload_n 0, 1) := by decide +kernel
theorem dX5_init_41 : decode cX5_init 41 = .ok (.sipush 2048, 3) := by decide +kernel
theorem dX5_init_44 : decode cX5_init 44 = .ok (.newarray .int, 2) := by decide +kernel
theorem dX5_init_46 : decode cX5_init 46 = .ok (.putfield 26, 3) := by decide +kernel
theorem dX5_init_49 : decode cX5_init 49 = .ok (.aload_n 0, 1) := by decide +kernel
theorem dX5_init_50 : decode cX5_init 50 = .ok (.iconst (-1), 1) := by decide +kernel
theorem dX5_init_51 : decode cX5_init 51 = .ok (.putfield 29, 3) := by decide +kernel
theorem dX5_init_54 : decode cX5_init 54 = .ok (.aload_n 0, 1) := by decide +kernel
theorem dX5_init_55 : decode cX5_init 55 = .ok (.aload_n 1, 1) := by decide +kernel
theorem dX5_init_56 : decode cX5_init 56 = .ok (.putfield 33, 3) := by decide +kernel
theorem dX5_init_59 : decode cX5_init 59 = .ok (.aload_n 0, 1) := by decide +kernel
theorem dX5_init_60 : decode cX5_init 60 = .ok (.aload_n 2, 1) := by decide +kernel
theorem dX5_init_61 : decode cX5_init 61 = .ok (.putfield 37, 3) := by decide +kernel
theorem dX5_init_64 : decode cX5_init 64 = .ok (.aload_n 0, 1) := by decide +kernel
theorem dX5_init_65 : decode cX5_init 65 = .ok (.aload_n 3, 1) := by decide +kernel
theorem dX5_init_66 : decode cX5_init 66 = .ok (.putfield 41, 3) := by decide +kernel
theorem dX5_init_69 : decode cX5_init 69 = .ok (.return_, 1) := by decide +kernel
abbrev yX5_init : MethodName := ⟨"BundleFence$Inspector", "<init>", "(LBundleFence$Image;LBundleFence$Decoder;LBundleFence$Instruction;)V"⟩
abbrev mX5_init : xMd := (yX5_init, cX5_init, 4, none, { frames := 1, cells := 5, slots := 10240, locals := 12 })
def atX5 (dC : Nat → ClassId) (dI : Nat → Nat → Nat) (A : Nat → Prop) (h0 p1 p2 p3 : Nat) (t : State) : Prop := ∃ (q1 q2 q3 q4 q5 : Nat) (a1 a2 a3 a4 a5 : ClassId), va_P (dC, dI) lC.1 [(h0, .inr (4, [.ref p1, .ref p2, .ref p3, .ref q1, .ref q2, .ref q3, .ref q4, .ref q5, .int 0, .int 0, .int 0, .int (-1)])), (q1, .inl (a1, 2048, .inl fun _ => 0)), (q2, .inl (a2, 2048, .inl fun _ => 0)), (q3, .inl (a3, 2048, .inl fun _ => 0)), (q4, .inl (a4, 2048, .inl fun _ => 0)), (q5, .inl (a5, 2048, .inl fun _ => 0))] t.heap ∧ va_K (dC, dI) lC.1 [(a1, .int), (a2, .int), (a3, .int), (a4, .int), (a5, .int)] t ∧ va_D A [(h0, .inr (4, [.ref p1, .ref p2, .ref p3, .ref q1, .ref q2, .ref q3, .ref q4, .ref q5, .int 0, .int 0, .int 0, .int (-1)])), (q1, .inl (a1, 2048, .inl fun _ => 0)), (q2, .inl (a2, 2048, .inl fun _ => 0)), (q3, .inl (a3, 2048, .inl fun _ => 0)), (q4, .inl (a4, 2048, .inl fun _ => 0)), (q5, .inl (a5, 2048, .inl fun _ => 0))]
set_option maxHeartbeats 4000000 in
set_option maxRecDepth 100000 in
theorem c_X5_init (l : Launch) (dC : Nat → ClassId) (dI : Nat → Nat → Nat) (h0 p1 p2 p3 sz : Nat) : Met l yX5_init (xwords mX5_init) mX5_init.2.2.2.2 (va_Pc [.ref h0, .ref p1, .ref p2, .ref p3] (fun U => U.heap.size = sz ∧ va_P (dC, dI) lC.1 [(h0, .inr (4, [.null, .null, .null, .null, .null, .null, .null, .null, .int 0, .int 0, .int 0, .int 0]))] U.heap ∧ va_K (dC, dI) lC.1 [] U ∧ va_D (fun _ => True) [(h0, .inr (4, [.null, .null, .null, .null, .null, .null, .null, .null, .int 0, .int 0, .int 0, .int 0]))])) (va_Qv (fun _ : Unit => True) (fun _ t => atX5 dC dI (va_A [(h0, .inr (4, [.null, .null, .null, .null, .null, .null, .null, .null, .int 0, .int 0, .int 0, .int 0]))] sz) h0 p1 p2 p3 t) (va_A [(h0, .inr (4, [.null, .null, .null, .null, .null, .null, .null, .null, .int 0, .int 0, .int 0, .int 0]))] sz)) 5 10240 (va_A [(h0, .inr (4, [.null, .null, .null, .null, .null, .null, .null, .null, .int 0, .int 0, .int 0, .int 0]))] sz) := by
  refine Met.ofW (cc := cX5_init) (maxL := 4) (ret := none) (by decide) rfl ?_
  intro p e s m args below meth c s₁ B hml hv
  obtain ⟨rfl, hsz, hP, hK, hD0⟩ := hv
  have hx := B.exec
  have hb := B.bytes
  have hr := B.returns
  have hts : ∀ w ∈ gtbl, w.before _ s = true := fun w hw => atoms_spec (ws := xwords mX5_init) B.pre w (List.mem_cons_of_mem _ hw)
  have hown : s.vm.findClass RX5 = some m.cls := findClass_of_methodNamed B.named
  have hin : meth.name = "<init>" := (name_of_methodNamed B.named B.method).1
  subst hsz
  have hD := hD0.self (sz := s.heap.size)
  generalize hAe : va_A [(h0, .inr (4, [.null, .null, .null, .null, .null, .null, .null, .null, .int 0, .int 0, .int 0, .int 0]))] s.heap.size = A at hD ⊢
  have hA : ∀ q : Nat, s.heap.size ≤ q → A q := fun q h => by rw [← hAe]; exact Or.inr h
  have hS : va_S A s.heap s.heap [] := va_S.rf
  have hP : va_P (dC, dI) lC.1 [(h0, .inr (4, [.null, .null, .null, .null, .null, .null, .null, .null, .int 0, .int 0, .int 0, .int 0]))] s.heap := hP
  have hl := lv_entry ([.ref h0, .ref p1, .ref p2, .ref p3]) (n := 4) (Nat.le_of_ble_eq_true rfl)
  rw [lg_entry_eq]
  generalize (lg_sl ([.ref h0, .ref p1, .ref p2, .ref p3]) ++ List.replicate (4 - (lg_sl ([.ref h0, .ref p1, .ref p2, .ref p3])).length) Slot.unset).toArray = ls at hl ⊢
  have hl : lv_has ls 4 [(0, .ref h0), (1, .ref p1), (2, .ref p2), (3, .ref p3)] := hl
  refine lv_aload_n hx hb dX5_init_0 rfl (lv_at hl 0 rfl) ?_
  refine W.objInit hx hb hown (hts _ tw353) (hts _ tw192) (hts _ tw193) rfl (by rw [hml]; exact hl.1) rfl dX5_init_1 (Nat.le_of_ble_eq_true rfl) (Nat.le_of_ble_eq_true rfl) ?_
  refine W.eq (g2 := F0 m 4 ls []) rfl ?_
  refine lv_aload_n hx hb dX5_init_4 rfl (lv_at hl 0 rfl) ?_
  refine lv_sipush (v := 2048) hx hb dX5_init_5 (by decide) ?_
  refine va_newa (atype := .int) (N' := 2048) (ty := .int) (a0 := (2048, .inl fun _ => 0)) hx hb (hts _ tw394) rfl hK hP hD hS hA (fun _ => rfl) (by decide) (by decide) (by decide) (Nat.le_of_ble_eq_true rfl) (Nat.le_of_ble_eq_true rfl) dX5_init_8 (fun q1 a1 H hK hP hD hS => ?_)
  have hP : va_P (dC, dI) lC.1 [(h0, .inr (4, [.null, .null, .null, .null, .null, .null, .null, .null, .int 0, .int 0, .int 0, .int 0])), (q1, .inl (a1, 2048, .inl fun _ => 0))] H := hP
  have hD : va_D A [(h0, .inr (4, [.null, .null, .null, .null, .null, .null, .null, .null, .int 0, .int 0, .int 0, .int 0])), (q1, .inl (a1, 2048, .inl fun _ => 0))] := hD
  have hK : va_K (dC, dI) lC.1 [(a1, .int)] s := hK
  refine W.widen (k := 1) (n := 2048) (Nat.le_refl _) (Nat.le_refl _) ?_
  refine va_putF (D := (dC, dI)) (ci := 4) (v := .ref q1) (ty := .array .int) (C := RX5) (T := TX5) (N := 12) hx hb hts inX5 tyX5 tyX5_ok nmX5 hown hK hP hD hS 0 rfl rfl 3 (by decide) (hts _ tw357) (fun _ h9 => h9) rfl hin rfl (by decide +kernel) rfl rfl (Nat.le_of_ble_eq_true rfl) dX5_init_10 (fun H locs hP hD hS => ?_)
  have hP : va_P (dC, dI) lC.1 [(h0, .inr (4, [.null, .null, .null, .ref q1, .null, .null, .null, .null, .int 0, .int 0, .int 0, .int 0])), (q1, .inl (a1, 2048, .inl fun _ => 0))] H := hP
  have hD : va_D A [(h0, .inr (4, [.null, .null, .null, .ref q1, .null, .null, .null, .null, .int 0, .int 0, .int 0, .int 0])), (q1, .inl (a1, 2048, .inl fun _ => 0))] := hD
  refine lv_aload_n hx hb dX5_init_13 rfl (lv_at hl 0 rfl) ?_
  refine lv_sipush (v := 2048) hx hb dX5_init_14 (by decide) ?_
  refine va_newa (atype := .int) (N' := 2048) (ty := .int) (a0 := (2048, .inl fun _ => 0)) hx hb (hts _ tw394) rfl hK hP hD hS hA (fun _ => rfl) (by decide) (by decide) (by decide) (Nat.le_of_ble_eq_true rfl) (Nat.le_of_ble_eq_true rfl) dX5_init_17 (fun q2 a2 H hK hP hD hS => ?_)
  have hP : va_P (dC, dI) lC.1 [(h0, .inr (4, [.null, .null, .null, .ref q1, .null, .null, .null, .null, .int 0, .int 0, .int 0, .int 0])), (q1, .inl (a1, 2048, .inl fun _ => 0)), (q2, .inl (a2, 2048, .inl fun _ => 0))] H := hP
  have hD : va_D A [(h0, .inr (4, [.null, .null, .null, .ref q1, .null, .null, .null, .null, .int 0, .int 0, .int 0, .int 0])), (q1, .inl (a1, 2048, .inl fun _ => 0)), (q2, .inl (a2, 2048, .inl fun _ => 0))] := hD
  have hK : va_K (dC, dI) lC.1 [(a1, .int), (a2, .int)] s := hK
  refine W.widen (k := 2) (n := 4096) (Nat.le_refl _) (Nat.le_refl _) ?_
  refine va_putF (D := (dC, dI)) (ci := 4) (v := .ref q2) (ty := .array .int) (C := RX5) (T := TX5) (N := 12) hx hb hts inX5 tyX5 tyX5_ok nmX5 hown hK hP hD hS 0 rfl rfl 4 (by decide) (hts _ tw358) (fun _ h9 => h9) rfl hin rfl (by decide +kernel) rfl rfl (Nat.le_of_ble_eq_true rfl) dX5_init_19 (fun H locs hP hD hS => ?_)
  have hP : va_P (dC, dI) lC.1 [(h0, .inr (4, [.null, .null, .null, .ref q1, .ref q2, .null, .null, .null, .int 0, .int 0, .int 0, .int 0])), (q1, .inl (a1, 2048, .inl fun _ => 0)), (q2, .inl (a2, 2048, .inl fun _ => 0))] H := hP
  have hD : va_D A [(h0, .inr (4, [.null, .null, .null, .ref q1, .ref q2, .null, .null, .null, .int 0, .int 0, .int 0, .int 0])), (q1, .inl (a1, 2048, .inl fun _ => 0)), (q2, .inl (a2, 2048, .inl fun _ => 0))] := hD
  refine lv_aload_n hx hb dX5_init_22 rfl (lv_at hl 0 rfl) ?_
  refine lv_sipush (v := 2048) hx hb dX5_init_23 (by decide) ?_
  refine va_newa (atype := .int) (N' := 2048) (ty := .int) (a0 := (2048, .inl fun _ => 0)) hx hb (hts _ tw394) rfl hK hP hD hS hA (fun _ => rfl) (by decide) (by decide) (by decide) (Nat.le_of_ble_eq_true rfl) (Nat.le_of_ble_eq_true rfl) dX5_init_26 (fun q3 a3 H hK hP hD hS => ?_)
  have hP : va_P (dC, dI) lC.1 [(h0, .inr (4, [.null, .null, .null, .ref q1, .ref q2, .null, .null, .null, .int 0, .int 0, .int 0, .int 0])), (q1, .inl (a1, 2048, .inl fun _ => 0)), (q2, .inl (a2, 2048, .inl fun _ => 0)), (q3, .inl (a3, 2048, .inl fun _ => 0))] H := hP
  have hD : va_D A [(h0, .inr (4, [.null, .null, .null, .ref q1, .ref q2, .null, .null, .null, .int 0, .int 0, .int 0, .int 0])), (q1, .inl (a1, 2048, .inl fun _ => 0)), (q2, .inl (a2, 2048, .inl fun _ => 0)), (q3, .inl (a3, 2048, .inl fun _ => 0))] := hD
  have hK : va_K (dC, dI) lC.1 [(a1, .int), (a2, .int), (a3, .int)] s := hK
  refine W.widen (k := 3) (n := 6144) (Nat.le_refl _) (Nat.le_refl _) ?_
  refine va_putF (D := (dC, dI)) (ci := 4) (v := .ref q3) (ty := .array .int) (C := RX5) (T := TX5) (N := 12) hx hb hts inX5 tyX5 tyX5_ok nmX5 hown hK hP hD hS 0 rfl rfl 5 (by decide) (hts _ tw359) (fun _ h9 => h9) rfl hin rfl (by decide +kernel) rfl rfl (Nat.le_of_ble_eq_true rfl) dX5_init_28 (fun H locs hP hD hS => ?_)
  have hP : va_P (dC, dI) lC.1 [(h0, .inr (4, [.null, .null, .null, .ref q1, .ref q2, .ref q3, .null, .null, .int 0, .int 0, .int 0, .int 0])), (q1, .inl (a1, 2048, .inl fun _ => 0)), (q2, .inl (a2, 2048, .inl fun _ => 0)), (q3, .inl (a3, 2048, .inl fun _ => 0))] H := hP
  have hD : va_D A [(h0, .inr (4, [.null, .null, .null, .ref q1, .ref q2, .ref q3, .null, .null, .int 0, .int 0, .int 0, .int 0])), (q1, .inl (a1, 2048, .inl fun _ => 0)), (q2, .inl (a2, 2048, .inl fun _ => 0)), (q3, .inl (a3, 2048, .inl fun _ => 0))] := hD
  refine lv_aload_n hx hb dX5_init_31 rfl (lv_at hl 0 rfl) ?_
  refine lv_sipush (v := 2048) hx hb dX5_init_32 (by decide) ?_
  refine va_newa (atype := .int) (N' := 2048) (ty := .int) (a0 := (2048, .inl fun _ => 0)) hx hb (hts _ tw394) rfl hK hP hD hS hA (fun _ => rfl) (by decide) (by decide) (by decide) (Nat.le_of_ble_eq_true rfl) (Nat.le_of_ble_eq_true rfl) dX5_init_35 (fun q4 a4 H hK hP hD hS => ?_)
  have hP : va_P (dC, dI) lC.1 [(h0, .inr (4, [.null, .null, .null, .ref q1, .ref q2, .ref q3, .null, .null, .int 0, .int 0, .int 0, .int 0])), (q1, .inl (a1, 2048, .inl fun _ => 0)), (q2, .inl (a2, 2048, .inl fun _ => 0)), (q3, .inl (a3, 2048, .inl fun _ => 0)), (q4, .inl (a4, 2048, .inl fun _ => 0))] H := hP
  have hD : va_D A [(h0, .inr (4, [.null, .null, .null, .ref q1, .ref q2, .ref q3, .null, .null, .int 0, .int 0, .int 0, .int 0])), (q1, .inl (a1, 2048, .inl fun _ => 0)), (q2, .inl (a2, 2048, .inl fun _ => 0)), (q3, .inl (a3, 2048, .inl fun _ => 0)), (q4, .inl (a4, 2048, .inl fun _ => 0))] := hD
  have hK : va_K (dC, dI) lC.1 [(a1, .int), (a2, .int), (a3, .int), (a4, .int)] s := hK
  refine W.widen (k := 4) (n := 8192) (Nat.le_refl _) (Nat.le_refl _) ?_
  refine va_putF (D := (dC, dI)) (ci := 4) (v := .ref q4) (ty := .array .int) (C := RX5) (T := TX5) (N := 12) hx hb hts inX5 tyX5 tyX5_ok nmX5 hown hK hP hD hS 0 rfl rfl 6 (by decide) (hts _ tw360) (fun _ h9 => h9) rfl hin rfl (by decide +kernel) rfl rfl (Nat.le_of_ble_eq_true rfl) dX5_init_37 (fun H locs hP hD hS => ?_)
  have hP : va_P (dC, dI) lC.1 [(h0, .inr (4, [.null, .null, .null, .ref q1, .ref q2, .ref q3, .ref q4, .null, .int 0, .int 0, .int 0, .int 0])), (q1, .inl (a1, 2048, .inl fun _ => 0)), (q2, .inl (a2, 2048, .inl fun _ => 0)), (q3, .inl (a3, 2048, .inl fun _ => 0)), (q4, .inl (a4, 2048, .inl fun _ => 0))] H := hP
  have hD : va_D A [(h0, .inr (4, [.null, .null, .null, .ref q1, .ref q2, .ref q3, .ref q4, .null, .int 0, .int 0, .int 0, .int 0])), (q1, .inl (a1, 2048, .inl fun _ => 0)), (q2, .inl (a2, 2048, .inl fun _ => 0)), (q3, .inl (a3, 2048, .inl fun _ => 0)), (q4, .inl (a4, 2048, .inl fun _ => 0))] := hD
  refine lv_aload_n hx hb dX5_init_40 rfl (lv_at hl 0 rfl) ?_
  refine lv_sipush (v := 2048) hx hb dX5_init_41 (by decide) ?_
  refine va_newa (atype := .int) (N' := 2048) (ty := .int) (a0 := (2048, .inl fun _ => 0)) hx hb (hts _ tw394) rfl hK hP hD hS hA (fun _ => rfl) (by decide) (by decide) (by decide) (Nat.le_of_ble_eq_true rfl) (Nat.le_of_ble_eq_true rfl) dX5_init_44 (fun q5 a5 H hK hP hD hS => ?_)
  have hP : va_P (dC, dI) lC.1 [(h0, .inr (4, [.null, .null, .null, .ref q1, .ref q2, .ref q3, .ref q4, .null, .int 0, .int 0, .int 0, .int 0])), (q1, .inl (a1, 2048, .inl fun _ => 0)), (q2, .inl (a2, 2048, .inl fun _ => 0)), (q3, .inl (a3, 2048, .inl fun _ => 0)), (q4, .inl (a4, 2048, .inl fun _ => 0)), (q5, .inl (a5, 2048, .inl fun _ => 0))] H := hP
  have hD : va_D A [(h0, .inr (4, [.null, .null, .null, .ref q1, .ref q2, .ref q3, .ref q4, .null, .int 0, .int 0, .int 0, .int 0])), (q1, .inl (a1, 2048, .inl fun _ => 0)), (q2, .inl (a2, 2048, .inl fun _ => 0)), (q3, .inl (a3, 2048, .inl fun _ => 0)), (q4, .inl (a4, 2048, .inl fun _ => 0)), (q5, .inl (a5, 2048, .inl fun _ => 0))] := hD
  have hK : va_K (dC, dI) lC.1 [(a1, .int), (a2, .int), (a3, .int), (a4, .int), (a5, .int)] s := hK
  refine W.widen (k := 5) (n := 10240) (Nat.le_refl _) (Nat.le_refl _) ?_
  refine va_putF (D := (dC, dI)) (ci := 4) (v := .ref q5) (ty := .array .int) (C := RX5) (T := TX5) (N := 12) hx hb hts inX5 tyX5 tyX5_ok nmX5 hown hK hP hD hS 0 rfl rfl 7 (by decide) (hts _ tw361) (fun _ h9 => h9) rfl hin rfl (by decide +kernel) rfl rfl (Nat.le_of_ble_eq_true rfl) dX5_init_46 (fun H locs hP hD hS => ?_)
  have hP : va_P (dC, dI) lC.1 [(h0, .inr (4, [.null, .null, .null, .ref q1, .ref q2, .ref q3, .ref q4, .ref q5, .int 0, .int 0, .int 0, .int 0])), (q1, .inl (a1, 2048, .inl fun _ => 0)), (q2, .inl (a2, 2048, .inl fun _ => 0)), (q3, .inl (a3, 2048, .inl fun _ => 0)), (q4, .inl (a4, 2048, .inl fun _ => 0)), (q5, .inl (a5, 2048, .inl fun _ => 0))] H := hP
  have hD : va_D A [(h0, .inr (4, [.null, .null, .null, .ref q1, .ref q2, .ref q3, .ref q4, .ref q5, .int 0, .int 0, .int 0, .int 0])), (q1, .inl (a1, 2048, .inl fun _ => 0)), (q2, .inl (a2, 2048, .inl fun _ => 0)), (q3, .inl (a3, 2048, .inl fun _ => 0)), (q4, .inl (a4, 2048, .inl fun _ => 0)), (q5, .inl (a5, 2048, .inl fun _ => 0))] := hD
  refine lv_aload_n hx hb dX5_init_49 rfl (lv_at hl 0 rfl) ?_
  refine lv_iconst (v := -1) hx hb dX5_init_50 (by decide) ?_
  refine va_put (D := (dC, dI)) (ci := 4) (v := .int (-1)) (ty := .int) (C := RX5) (T := TX5) (N := 12) hx hb hts inX5 tyX5 tyX5_ok nmX5 hown hK hP hD hS 0 rfl rfl 11 (by decide) (hts _ tw367) (fun _ h9 => h9) rfl (by decide +kernel) rfl rfl (Nat.le_of_ble_eq_true rfl) dX5_init_51 (fun H locs hP hD hS => ?_)
  have hP : va_P (dC, dI) lC.1 [(h0, .inr (4, [.null, .null, .null, .ref q1, .ref q2, .ref q3, .ref q4, .ref q5, .int 0, .int 0, .int 0, .int (-1)])), (q1, .inl (a1, 2048, .inl fun _ => 0)), (q2, .inl (a2, 2048, .inl fun _ => 0)), (q3, .inl (a3, 2048, .inl fun _ => 0)), (q4, .inl (a4, 2048, .inl fun _ => 0)), (q5, .inl (a5, 2048, .inl fun _ => 0))] H := hP
  have hD : va_D A [(h0, .inr (4, [.null, .null, .null, .ref q1, .ref q2, .ref q3, .ref q4, .ref q5, .int 0, .int 0, .int 0, .int (-1)])), (q1, .inl (a1, 2048, .inl fun _ => 0)), (q2, .inl (a2, 2048, .inl fun _ => 0)), (q3, .inl (a3, 2048, .inl fun _ => 0)), (q4, .inl (a4, 2048, .inl fun _ => 0)), (q5, .inl (a5, 2048, .inl fun _ => 0))] := hD
  refine lv_aload_n hx hb dX5_init_54 rfl (lv_at hl 0 rfl) ?_
  refine lv_aload_n hx hb dX5_init_55 rfl (lv_at hl 1 rfl) ?_
  refine va_putF (D := (dC, dI)) (ci := 4) (v := .ref p1) (ty := .object "BundleFence$Image") (C := RX5) (T := TX5) (N := 12) hx hb hts inX5 tyX5 tyX5_ok nmX5 hown hK hP hD hS 0 rfl rfl 0 (by decide) (hts _ tw354) (fun _ h9 => h9) rfl hin rfl (by decide +kernel) rfl rfl (Nat.le_of_ble_eq_true rfl) dX5_init_56 (fun H locs hP hD hS => ?_)
  have hP : va_P (dC, dI) lC.1 [(h0, .inr (4, [.ref p1, .null, .null, .ref q1, .ref q2, .ref q3, .ref q4, .ref q5, .int 0, .int 0, .int 0, .int (-1)])), (q1, .inl (a1, 2048, .inl fun _ => 0)), (q2, .inl (a2, 2048, .inl fun _ => 0)), (q3, .inl (a3, 2048, .inl fun _ => 0)), (q4, .inl (a4, 2048, .inl fun _ => 0)), (q5, .inl (a5, 2048, .inl fun _ => 0))] H := hP
  have hD : va_D A [(h0, .inr (4, [.ref p1, .null, .null, .ref q1, .ref q2, .ref q3, .ref q4, .ref q5, .int 0, .int 0, .int 0, .int (-1)])), (q1, .inl (a1, 2048, .inl fun _ => 0)), (q2, .inl (a2, 2048, .inl fun _ => 0)), (q3, .inl (a3, 2048, .inl fun _ => 0)), (q4, .inl (a4, 2048, .inl fun _ => 0)), (q5, .inl (a5, 2048, .inl fun _ => 0))] := hD
  refine lv_aload_n hx hb dX5_init_59 rfl (lv_at hl 0 rfl) ?_
  refine lv_aload_n hx hb dX5_init_60 rfl (lv_at hl 2 rfl) ?_
  refine va_putF (D := (dC, dI)) (ci := 4) (v := .ref p2) (ty := .object "BundleFence$Decoder") (C := RX5) (T := TX5) (N := 12) hx hb hts inX5 tyX5 tyX5_ok nmX5 hown hK hP hD hS 0 rfl rfl 1 (by decide) (hts _ tw355) (fun _ h9 => h9) rfl hin rfl (by decide +kernel) rfl rfl (Nat.le_of_ble_eq_true rfl) dX5_init_61 (fun H locs hP hD hS => ?_)
  have hP : va_P (dC, dI) lC.1 [(h0, .inr (4, [.ref p1, .ref p2, .null, .ref q1, .ref q2, .ref q3, .ref q4, .ref q5, .int 0, .int 0, .int 0, .int (-1)])), (q1, .inl (a1, 2048, .inl fun _ => 0)), (q2, .inl (a2, 2048, .inl fun _ => 0)), (q3, .inl (a3, 2048, .inl fun _ => 0)), (q4, .inl (a4, 2048, .inl fun _ => 0)), (q5, .inl (a5, 2048, .inl fun _ => 0))] H := hP
  have hD : va_D A [(h0, .inr (4, [.ref p1, .ref p2, .null, .ref q1, .ref q2, .ref q3, .ref q4, .ref q5, .int 0, .int 0, .int 0, .int (-1)])), (q1, .inl (a1, 2048, .inl fun _ => 0)), (q2, .inl (a2, 2048, .inl fun _ => 0)), (q3, .inl (a3, 2048, .inl fun _ => 0)), (q4, .inl (a4, 2048, .inl fun _ => 0)), (q5, .inl (a5, 2048, .inl fun _ => 0))] := hD
  refine lv_aload_n hx hb dX5_init_64 rfl (lv_at hl 0 rfl) ?_
  refine lv_aload_n hx hb dX5_init_65 rfl (lv_at hl 3 rfl) ?_
  refine va_putF (D := (dC, dI)) (ci := 4) (v := .ref p3) (ty := .object "BundleFence$Instruction") (C := RX5) (T := TX5) (N := 12) hx hb hts inX5 tyX5 tyX5_ok nmX5 hown hK hP hD hS 0 rfl rfl 2 (by decide) (hts _ tw356) (fun _ h9 => h9) rfl hin rfl (by decide +kernel) rfl rfl (Nat.le_of_ble_eq_true rfl) dX5_init_66 (fun H locs hP hD hS => ?_)
  have hP : va_P (dC, dI) lC.1 [(h0, .inr (4, [.ref p1, .ref p2, .ref p3, .ref q1, .ref q2, .ref q3, .ref q4, .ref q5, .int 0, .int 0, .int 0, .int (-1)])), (q1, .inl (a1, 2048, .inl fun _ => 0)), (q2, .inl (a2, 2048, .inl fun _ => 0)), (q3, .inl (a3, 2048, .inl fun _ => 0)), (q4, .inl (a4, 2048, .inl fun _ => 0)), (q5, .inl (a5, 2048, .inl fun _ => 0))] H := hP
  have hD : va_D A [(h0, .inr (4, [.ref p1, .ref p2, .ref p3, .ref q1, .ref q2, .ref q3, .ref q4, .ref q5, .int 0, .int 0, .int 0, .int (-1)])), (q1, .inl (a1, 2048, .inl fun _ => 0)), (q2, .inl (a2, 2048, .inl fun _ => 0)), (q3, .inl (a3, 2048, .inl fun _ => 0)), (q4, .inl (a4, 2048, .inl fun _ => 0)), (q5, .inl (a5, 2048, .inl fun _ => 0))] := hD
  exact W.vret hx hb hr (fun t ht hW => ⟨⟨(), rfl, trivial, q1, q2, q3, q4, q5, a1, a2, a3, a4, a5, by rw [ht]; exact hP, va_K.moved hW.alike hK, hD⟩, hS.F ht⟩) hS.2.2 dX5_init_69
abbrev cX8_init : ByteArray := prog_10_method_1_code
theorem dX8_init_0 : decode cX8_init 0 = .ok (.aload_n 0, 1) := by decide +kernel
theorem dX8_init_1 : decode cX8_init 1 = .ok (.invokespecial 5, 3) := by decide +kernel
theorem dX8_init_4 : decode cX8_init 4 = .ok (.aload_n 0, 1) := by decide +kernel
theorem dX8_init_5 : decode cX8_init 5 = .ok (.ldc 11, 2) := by decide +kernel
theorem dX8_init_7 : decode cX8_init 7 = .ok (.newarray .byte, 2) := by decide +kernel
theorem dX8_init_9 : decode cX8_init 9 = .ok (.putfield 12, 3) := by decide +kernel
theorem dX8_init_12 : decode cX8_init 12 = .ok (.aload_n 0, 1) := by decide +kernel
theorem dX8_init_13 : decode cX8_init 13 = .ok (.aload_n 1, 1) := by decide +kernel
theorem dX8_init_14 : decode cX8_init 14 = .ok (.putfield 16, 3) := by decide +kernel
theorem dX8_init_17 : decode cX8_init 17 = .ok (.return_, 1) := by decide +kernel
abbrev yX8_init : MethodName := ⟨"BundleFence$Memory", "<init>", "(LBundleFence$Image;)V"⟩
abbrev mX8_init : xMd := (yX8_init, cX8_init, 2, none, { frames := 1, cells := 1, slots := 65536, locals := 12 })
def atX8 (dC : Nat → ClassId) (dI : Nat → Nat → Nat) (A : Nat → Prop) (h0 p1 : Nat) (t : State) : Prop := ∃ (q1 : Nat) (a1 : ClassId), va_P (dC, dI) lC.1 [(h0, .inr (6, [.ref p1, .ref q1, .int 0])), (q1, .inl (a1, 65536, .inl fun _ => 0))] t.heap ∧ va_K (dC, dI) lC.1 [(a1, .byte)] t ∧ va_D A [(h0, .inr (6, [.ref p1, .ref q1, .int 0])), (q1, .inl (a1, 65536, .inl fun _ => 0))]
set_option maxHeartbeats 4000000 in
set_option maxRecDepth 100000 in
theorem c_X8_init (l : Launch) (dC : Nat → ClassId) (dI : Nat → Nat → Nat) (h0 p1 sz : Nat) : Met l yX8_init (xwords mX8_init) mX8_init.2.2.2.2 (va_Pc [.ref h0, .ref p1] (fun U => U.heap.size = sz ∧ va_P (dC, dI) lC.1 [(h0, .inr (6, [.null, .null, .int 0]))] U.heap ∧ va_K (dC, dI) lC.1 [] U ∧ va_D (fun _ => True) [(h0, .inr (6, [.null, .null, .int 0]))])) (va_Qv (fun _ : Unit => True) (fun _ t => atX8 dC dI (va_A [(h0, .inr (6, [.null, .null, .int 0]))] sz) h0 p1 t) (va_A [(h0, .inr (6, [.null, .null, .int 0]))] sz)) 1 65536 (va_A [(h0, .inr (6, [.null, .null, .int 0]))] sz) := by
  refine Met.ofW (cc := cX8_init) (maxL := 2) (ret := none) (by decide) rfl ?_
  intro p e s m args below meth c s₁ B hml hv
  obtain ⟨rfl, hsz, hP, hK, hD0⟩ := hv
  have hx := B.exec
  have hb := B.bytes
  have hr := B.returns
  have hts : ∀ w ∈ gtbl, w.before _ s = true := fun w hw => atoms_spec (ws := xwords mX8_init) B.pre w (List.mem_cons_of_mem _ hw)
  have hown : s.vm.findClass RX8 = some m.cls := findClass_of_methodNamed B.named
  have hin : meth.name = "<init>" := (name_of_methodNamed B.named B.method).1
  subst hsz
  have hD := hD0.self (sz := s.heap.size)
  generalize hAe : va_A [(h0, .inr (6, [.null, .null, .int 0]))] s.heap.size = A at hD ⊢
  have hA : ∀ q : Nat, s.heap.size ≤ q → A q := fun q h => by rw [← hAe]; exact Or.inr h
  have hS : va_S A s.heap s.heap [] := va_S.rf
  have hP : va_P (dC, dI) lC.1 [(h0, .inr (6, [.null, .null, .int 0]))] s.heap := hP
  have hl := lv_entry ([.ref h0, .ref p1]) (n := 2) (Nat.le_of_ble_eq_true rfl)
  rw [lg_entry_eq]
  generalize (lg_sl ([.ref h0, .ref p1]) ++ List.replicate (2 - (lg_sl ([.ref h0, .ref p1])).length) Slot.unset).toArray = ls at hl ⊢
  have hl : lv_has ls 2 [(0, .ref h0), (1, .ref p1)] := hl
  refine lv_aload_n hx hb dX8_init_0 rfl (lv_at hl 0 rfl) ?_
  refine W.objInit hx hb hown (hts _ tw445) (hts _ tw192) (hts _ tw193) rfl (by rw [hml]; exact hl.1) rfl dX8_init_1 (Nat.le_of_ble_eq_true rfl) (Nat.le_of_ble_eq_true rfl) ?_
  refine W.eq (g2 := F0 m 4 ls []) rfl ?_
  refine lv_aload_n hx hb dX8_init_4 rfl (lv_at hl 0 rfl) ?_
  refine lv_ldc (v := 65536) hx hb hown (hts _ tw446) dX8_init_5 ?_
  refine va_newa (atype := .byte) (N' := 65536) (ty := .byte) (a0 := (65536, .inl fun _ => 0)) hx hb (hts _ tw214) rfl hK hP hD hS hA (fun _ => rfl) (by decide) (by decide) (by decide) (Nat.le_of_ble_eq_true rfl) (Nat.le_of_ble_eq_true rfl) dX8_init_7 (fun q1 a1 H hK hP hD hS => ?_)
  have hP : va_P (dC, dI) lC.1 [(h0, .inr (6, [.null, .null, .int 0])), (q1, .inl (a1, 65536, .inl fun _ => 0))] H := hP
  have hD : va_D A [(h0, .inr (6, [.null, .null, .int 0])), (q1, .inl (a1, 65536, .inl fun _ => 0))] := hD
  have hK : va_K (dC, dI) lC.1 [(a1, .byte)] s := hK
  refine W.widen (k := 1) (n := 65536) (Nat.le_refl _) (Nat.le_refl _) ?_
  refine va_putF (D := (dC, dI)) (ci := 6) (v := .ref q1) (ty := .array .byte) (C := RX8) (T := TX8) (N := 3) hx hb hts inX8 tyX8 tyX8_ok nmX8 hown hK hP hD hS 0 rfl rfl 1 (by decide) (hts _ tw448) (fun _ h9 => h9) rfl hin rfl (by decide +kernel) rfl rfl (Nat.le_of_ble_eq_true rfl) dX8_init_9 (fun H locs hP hD hS => ?_)
  have hP : va_P (dC, dI) lC.1 [(h0, .inr (6, [.null, .ref q1, .int 0])), (q1, .inl (a1, 65536, .inl fun _ => 0))] H := hP
  have hD : va_D A [(h0, .inr (6, [.null, .ref q1, .int 0])), (q1, .inl (a1, 65536, .inl fun _ => 0))] := hD
  refine lv_aload_n hx hb dX8_init_12 rfl (lv_at hl 0 rfl) ?_
  refine lv_aload_n hx hb dX8_init_13 rfl (lv_at hl 1 rfl) ?_
  refine va_putF (D := (dC, dI)) (ci := 6) (v := .ref p1) (ty := .object "BundleFence$Image") (C := RX8) (T := TX8) (N := 3) hx hb hts inX8 tyX8 tyX8_ok nmX8 hown hK hP hD hS 0 rfl rfl 0 (by decide) (hts _ tw447) (fun _ h9 => h9) rfl hin rfl (by decide +kernel) rfl rfl (Nat.le_of_ble_eq_true rfl) dX8_init_14 (fun H locs hP hD hS => ?_)
  have hP : va_P (dC, dI) lC.1 [(h0, .inr (6, [.ref p1, .ref q1, .int 0])), (q1, .inl (a1, 65536, .inl fun _ => 0))] H := hP
  have hD : va_D A [(h0, .inr (6, [.ref p1, .ref q1, .int 0])), (q1, .inl (a1, 65536, .inl fun _ => 0))] := hD
  exact W.vret hx hb hr (fun t ht hW => ⟨⟨(), rfl, trivial, q1, a1, by rw [ht]; exact hP, va_K.moved hW.alike hK, hD⟩, hS.F ht⟩) hS.2.2 dX8_init_17
abbrev cX3_init : ByteArray := prog_5_method_1_code
theorem dX3_init_0 : decode cX3_init 0 = .ok (.aload_n 0, 1) := by decide +kernel
theorem dX3_init_1 : decode cX3_init 1 = .ok (.invokespecial 3, 3) := by decide +kernel
theorem dX3_init_4 : decode cX3_init 4 = .ok (.aload_n 0, 1) := by decide +kernel
theorem dX3_init_5 : decode cX3_init 5 = .ok (.sipush 1024, 3) := by decide +kernel
theorem dX3_init_8 : decode cX3_init 8 = .ok (.newarray .byte, 2) := by decide +kernel
theorem dX3_init_10 : decode cX3_init 10 = .ok (.putfield 11, 3) := by decide +kernel
theorem dX3_init_13 : decode cX3_init 13 = .ok (.aload_n 0, 1) := by decide +kernel
theorem dX3_init_14 : decode cX3_init 14 = .ok (.sipush 256, 3) := by decide +kernel
theorem dX3_init_17 : decode cX3_init 17 = .ok (.newarray .byte, 2) := by decide +kernel
theorem dX3_init_19 : decode cX3_init 19 = .ok (.putfield 15, 3) := by decide +kernel
theorem dX3_init_22 : decode cX3_init 22 = .ok (.aload_n 0, 1) := by decide +kernel
theorem dX3_init_23 : decode cX3_init 23 = .ok (.ldc 18, 2) := by decide +kernel
theorem dX3_init_25 : decode cX3_init 25 = .ok (.putfield 19, 3) := by decide +kernel
theorem dX3_init_28 : decode cX3_init 28 = .ok (.aload_n 0, 1) := by decide +kernel
theorem dX3_init_29 : decode cX3_init 29 = .ok (.aload_n 1, 1) := by decide +kernel
theorem dX3_init_30 : decode cX3_init 30 = .ok (.putfield 23, 3) := by decide +kernel
theorem dX3_init_33 : decode cX3_init 33 = .ok (.return_, 1) := by decide +kernel
abbrev yX3_init : MethodName := ⟨"BundleFence$Host", "<init>", "(LBundleFence$Memory;)V"⟩
abbrev mX3_init : xMd := (yX3_init, cX3_init, 2, none, { frames := 1, cells := 2, slots := 1280, locals := 12 })
def atX3 (dC : Nat → ClassId) (dI : Nat → Nat → Nat) (A : Nat → Prop) (h0 p1 : Nat) (t : State) : Prop := ∃ (q1 q2 : Nat) (a1 a2 : ClassId), va_P (dC, dI) lC.1 [(h0, .inr (7, [.ref p1, .ref q1, .ref q2, .int 0, .int 0, .int 0, .int 65536, .int 0])), (q1, .inl (a1, 1024, .inl fun _ => 0)), (q2, .inl (a2, 256, .inl fun _ => 0))] t.heap ∧ va_K (dC, dI) lC.1 [(a1, .byte), (a2, .byte)] t ∧ va_D A [(h0, .inr (7, [.ref p1, .ref q1, .ref q2, .int 0, .int 0, .int 0, .int 65536, .int 0])), (q1, .inl (a1, 1024, .inl fun _ => 0)), (q2, .inl (a2, 256, .inl fun _ => 0))]
set_option maxHeartbeats 4000000 in
set_option maxRecDepth 100000 in
theorem c_X3_init (l : Launch) (dC : Nat → ClassId) (dI : Nat → Nat → Nat) (h0 p1 sz : Nat) : Met l yX3_init (xwords mX3_init) mX3_init.2.2.2.2 (va_Pc [.ref h0, .ref p1] (fun U => U.heap.size = sz ∧ va_P (dC, dI) lC.1 [(h0, .inr (7, [.null, .null, .null, .int 0, .int 0, .int 0, .int 0, .int 0]))] U.heap ∧ va_K (dC, dI) lC.1 [] U ∧ va_D (fun _ => True) [(h0, .inr (7, [.null, .null, .null, .int 0, .int 0, .int 0, .int 0, .int 0]))])) (va_Qv (fun _ : Unit => True) (fun _ t => atX3 dC dI (va_A [(h0, .inr (7, [.null, .null, .null, .int 0, .int 0, .int 0, .int 0, .int 0]))] sz) h0 p1 t) (va_A [(h0, .inr (7, [.null, .null, .null, .int 0, .int 0, .int 0, .int 0, .int 0]))] sz)) 2 1280 (va_A [(h0, .inr (7, [.null, .null, .null, .int 0, .int 0, .int 0, .int 0, .int 0]))] sz) := by
  refine Met.ofW (cc := cX3_init) (maxL := 2) (ret := none) (by decide) rfl ?_
  intro p e s m args below meth c s₁ B hml hv
  obtain ⟨rfl, hsz, hP, hK, hD0⟩ := hv
  have hx := B.exec
  have hb := B.bytes
  have hr := B.returns
  have hts : ∀ w ∈ gtbl, w.before _ s = true := fun w hw => atoms_spec (ws := xwords mX3_init) B.pre w (List.mem_cons_of_mem _ hw)
  have hown : s.vm.findClass RX3 = some m.cls := findClass_of_methodNamed B.named
  have hin : meth.name = "<init>" := (name_of_methodNamed B.named B.method).1
  subst hsz
  have hD := hD0.self (sz := s.heap.size)
  generalize hAe : va_A [(h0, .inr (7, [.null, .null, .null, .int 0, .int 0, .int 0, .int 0, .int 0]))] s.heap.size = A at hD ⊢
  have hA : ∀ q : Nat, s.heap.size ≤ q → A q := fun q h => by rw [← hAe]; exact Or.inr h
  have hS : va_S A s.heap s.heap [] := va_S.rf
  have hP : va_P (dC, dI) lC.1 [(h0, .inr (7, [.null, .null, .null, .int 0, .int 0, .int 0, .int 0, .int 0]))] s.heap := hP
  have hl := lv_entry ([.ref h0, .ref p1]) (n := 2) (Nat.le_of_ble_eq_true rfl)
  rw [lg_entry_eq]
  generalize (lg_sl ([.ref h0, .ref p1]) ++ List.replicate (2 - (lg_sl ([.ref h0, .ref p1])).length) Slot.unset).toArray = ls at hl ⊢
  have hl : lv_has ls 2 [(0, .ref h0), (1, .ref p1)] := hl
  refine lv_aload_n hx hb dX3_init_0 rfl (lv_at hl 0 rfl) ?_
  refine W.objInit hx hb hown (hts _ tw463) (hts _ tw192) (hts _ tw193) rfl (by rw [hml]; exact hl.1) rfl dX3_init_1 (Nat.le_of_ble_eq_true rfl) (Nat.le_of_ble_eq_true rfl) ?_
  refine W.eq (g2 := F0 m 4 ls []) rfl ?_
  refine lv_aload_n hx hb dX3_init_4 rfl (lv_at hl 0 rfl) ?_
  refine lv_sipush (v := 1024) hx hb dX3_init_5 (by decide) ?_
  refine va_newa (atype := .byte) (N' := 1024) (ty := .byte) (a0 := (1024, .inl fun _ => 0)) hx hb (hts _ tw214) rfl hK hP hD hS hA (fun _ => rfl) (by decide) (by decide) (by decide) (Nat.le_of_ble_eq_true rfl) (Nat.le_of_ble_eq_true rfl) dX3_init_8 (fun q1 a1 H hK hP hD hS => ?_)
  have hP : va_P (dC, dI) lC.1 [(h0, .inr (7, [.null, .null, .null, .int 0, .int 0, .int 0, .int 0, .int 0])), (q1, .inl (a1, 1024, .inl fun _ => 0))] H := hP
  have hD : va_D A [(h0, .inr (7, [.null, .null, .null, .int 0, .int 0, .int 0, .int 0, .int 0])), (q1, .inl (a1, 1024, .inl fun _ => 0))] := hD
  have hK : va_K (dC, dI) lC.1 [(a1, .byte)] s := hK
  refine W.widen (k := 1) (n := 1024) (Nat.le_refl _) (Nat.le_refl _) ?_
  refine va_putF (D := (dC, dI)) (ci := 7) (v := .ref q1) (ty := .array .byte) (C := RX3) (T := TX3) (N := 8) hx hb hts inX3 tyX3 tyX3_ok nmX3 hown hK hP hD hS 0 rfl rfl 1 (by decide) (hts _ tw466) (fun _ h9 => h9) rfl hin rfl (by decide +kernel) rfl rfl (Nat.le_of_ble_eq_true rfl) dX3_init_10 (fun H locs hP hD hS => ?_)
  have hP : va_P (dC, dI) lC.1 [(h0, .inr (7, [.null, .ref q1, .null, .int 0, .int 0, .int 0, .int 0, .int 0])), (q1, .inl (a1, 1024, .inl fun _ => 0))] H := hP
  have hD : va_D A [(h0, .inr (7, [.null, .ref q1, .null, .int 0, .int 0, .int 0, .int 0, .int 0])), (q1, .inl (a1, 1024, .inl fun _ => 0))] := hD
  refine lv_aload_n hx hb dX3_init_13 rfl (lv_at hl 0 rfl) ?_
  refine lv_sipush (v := 256) hx hb dX3_init_14 (by decide) ?_
  refine va_newa (atype := .byte) (N' := 256) (ty := .byte) (a0 := (256, .inl fun _ => 0)) hx hb (hts _ tw214) rfl hK hP hD hS hA (fun _ => rfl) (by decide) (by decide) (by decide) (Nat.le_of_ble_eq_true rfl) (Nat.le_of_ble_eq_true rfl) dX3_init_17 (fun q2 a2 H hK hP hD hS => ?_)
  have hP : va_P (dC, dI) lC.1 [(h0, .inr (7, [.null, .ref q1, .null, .int 0, .int 0, .int 0, .int 0, .int 0])), (q1, .inl (a1, 1024, .inl fun _ => 0)), (q2, .inl (a2, 256, .inl fun _ => 0))] H := hP
  have hD : va_D A [(h0, .inr (7, [.null, .ref q1, .null, .int 0, .int 0, .int 0, .int 0, .int 0])), (q1, .inl (a1, 1024, .inl fun _ => 0)), (q2, .inl (a2, 256, .inl fun _ => 0))] := hD
  have hK : va_K (dC, dI) lC.1 [(a1, .byte), (a2, .byte)] s := hK
  refine W.widen (k := 2) (n := 1280) (Nat.le_refl _) (Nat.le_refl _) ?_
  refine va_putF (D := (dC, dI)) (ci := 7) (v := .ref q2) (ty := .array .byte) (C := RX3) (T := TX3) (N := 8) hx hb hts inX3 tyX3 tyX3_ok nmX3 hown hK hP hD hS 0 rfl rfl 2 (by decide) (hts _ tw467) (fun _ h9 => h9) rfl hin rfl (by decide +kernel) rfl rfl (Nat.le_of_ble_eq_true rfl) dX3_init_19 (fun H locs hP hD hS => ?_)
  have hP : va_P (dC, dI) lC.1 [(h0, .inr (7, [.null, .ref q1, .ref q2, .int 0, .int 0, .int 0, .int 0, .int 0])), (q1, .inl (a1, 1024, .inl fun _ => 0)), (q2, .inl (a2, 256, .inl fun _ => 0))] H := hP
  have hD : va_D A [(h0, .inr (7, [.null, .ref q1, .ref q2, .int 0, .int 0, .int 0, .int 0, .int 0])), (q1, .inl (a1, 1024, .inl fun _ => 0)), (q2, .inl (a2, 256, .inl fun _ => 0))] := hD
  refine lv_aload_n hx hb dX3_init_22 rfl (lv_at hl 0 rfl) ?_
  refine lv_ldc (v := 65536) hx hb hown (hts _ tw464) dX3_init_23 ?_
  refine va_put (D := (dC, dI)) (ci := 7) (v := .int 65536) (ty := .int) (C := RX3) (T := TX3) (N := 8) hx hb hts inX3 tyX3 tyX3_ok nmX3 hown hK hP hD hS 0 rfl rfl 6 (by decide) (hts _ tw473) (fun _ h9 => h9) rfl (by decide +kernel) rfl rfl (Nat.le_of_ble_eq_true rfl) dX3_init_25 (fun H locs hP hD hS => ?_)
  have hP : va_P (dC, dI) lC.1 [(h0, .inr (7, [.null, .ref q1, .ref q2, .int 0, .int 0, .int 0, .int 65536, .int 0])), (q1, .inl (a1, 1024, .inl fun _ => 0)), (q2, .inl (a2, 256, .inl fun _ => 0))] H := hP
  have hD : va_D A [(h0, .inr (7, [.null, .ref q1, .ref q2, .int 0, .int 0, .int 0, .int 65536, .int 0])), (q1, .inl (a1, 1024, .inl fun _ => 0)), (q2, .inl (a2, 256, .inl fun _ => 0))] := hD
  refine lv_aload_n hx hb dX3_init_28 rfl (lv_at hl 0 rfl) ?_
  refine lv_aload_n hx hb dX3_init_29 rfl (lv_at hl 1 rfl) ?_
  refine va_putF (D := (dC, dI)) (ci := 7) (v := .ref p1) (ty := .object "BundleFence$Memory") (C := RX3) (T := TX3) (N := 8) hx hb hts inX3 tyX3 tyX3_ok nmX3 hown hK hP hD hS 0 rfl rfl 0 (by decide) (hts _ tw465) (fun _ h9 => h9) rfl hin rfl (by decide +kernel) rfl rfl (Nat.le_of_ble_eq_true rfl) dX3_init_30 (fun H locs hP hD hS => ?_)
  have hP : va_P (dC, dI) lC.1 [(h0, .inr (7, [.ref p1, .ref q1, .ref q2, .int 0, .int 0, .int 0, .int 65536, .int 0])), (q1, .inl (a1, 1024, .inl fun _ => 0)), (q2, .inl (a2, 256, .inl fun _ => 0))] H := hP
  have hD : va_D A [(h0, .inr (7, [.ref p1, .ref q1, .ref q2, .int 0, .int 0, .int 0, .int 65536, .int 0])), (q1, .inl (a1, 1024, .inl fun _ => 0)), (q2, .inl (a2, 256, .inl fun _ => 0))] := hD
  exact W.vret hx hb hr (fun t ht hW => ⟨⟨(), rfl, trivial, q1, q2, a1, a2, by rw [ht]; exact hP, va_K.moved hW.alike hK, hD⟩, hS.F ht⟩) hS.2.2 dX3_init_33
abbrev cX2_init : ByteArray := prog_4_method_1_code
theorem dX2_init_0 : decode cX2_init 0 = .ok (.aload_n 0, 1) := by decide +kernel
theorem dX2_init_1 : decode cX2_init 1 = .ok (.invokespecial 1, 3) := by decide +kernel
theorem dX2_init_4 : decode cX2_init 4 = .ok (.return_, 1) := by decide +kernel
abbrev yX2_init : MethodName := ⟨"BundleFence$Flags", "<init>", "()V"⟩
abbrev mX2_init : xMd := (yX2_init, cX2_init, 1, none, { frames := 1, cells := 0, slots := 0, locals := 12 })
def atX2 (dC : Nat → ClassId) (dI : Nat → Nat → Nat) (A : Nat → Prop) (h0 : Nat) (t : State) : Prop := va_P (dC, dI) lC.1 [(h0, .inr (9, [.int 0]))] t.heap ∧ va_K (dC, dI) lC.1 [] t ∧ va_D A [(h0, .inr (9, [.int 0]))]
set_option maxHeartbeats 4000000 in
set_option maxRecDepth 100000 in
theorem c_X2_init (l : Launch) (dC : Nat → ClassId) (dI : Nat → Nat → Nat) (h0 sz : Nat) : Met l yX2_init (xwords mX2_init) mX2_init.2.2.2.2 (va_Pc [.ref h0] (fun U => U.heap.size = sz ∧ va_P (dC, dI) lC.1 [(h0, .inr (9, [.int 0]))] U.heap ∧ va_K (dC, dI) lC.1 [] U ∧ va_D (fun _ => True) [(h0, .inr (9, [.int 0]))])) (va_Qv (fun _ : Unit => True) (fun _ t => atX2 dC dI (va_A [(h0, .inr (9, [.int 0]))] sz) h0 t) (va_A [(h0, .inr (9, [.int 0]))] sz)) 0 0 (va_A [(h0, .inr (9, [.int 0]))] sz) := by
  refine Met.ofW (cc := cX2_init) (maxL := 1) (ret := none) (by decide) rfl ?_
  intro p e s m args below meth c s₁ B hml hv
  obtain ⟨rfl, hsz, hP, hK, hD0⟩ := hv
  have hx := B.exec
  have hb := B.bytes
  have hr := B.returns
  have hts : ∀ w ∈ gtbl, w.before _ s = true := fun w hw => atoms_spec (ws := xwords mX2_init) B.pre w (List.mem_cons_of_mem _ hw)
  have hown : s.vm.findClass RX2 = some m.cls := findClass_of_methodNamed B.named
  have hin : meth.name = "<init>" := (name_of_methodNamed B.named B.method).1
  subst hsz
  have hD := hD0.self (sz := s.heap.size)
  generalize hAe : va_A [(h0, .inr (9, [.int 0]))] s.heap.size = A at hD ⊢
  have hA : ∀ q : Nat, s.heap.size ≤ q → A q := fun q h => by rw [← hAe]; exact Or.inr h
  have hS : va_S A s.heap s.heap [] := va_S.rf
  have hP : va_P (dC, dI) lC.1 [(h0, .inr (9, [.int 0]))] s.heap := hP
  have hl := lv_entry ([.ref h0]) (n := 1) (Nat.le_of_ble_eq_true rfl)
  rw [lg_entry_eq]
  generalize (lg_sl ([.ref h0]) ++ List.replicate (1 - (lg_sl ([.ref h0])).length) Slot.unset).toArray = ls at hl ⊢
  have hl : lv_has ls 1 [(0, .ref h0)] := hl
  refine lv_aload_n hx hb dX2_init_0 rfl (lv_at hl 0 rfl) ?_
  refine W.objInit hx hb hown (hts _ tw505) (hts _ tw192) (hts _ tw193) rfl (by rw [hml]; exact hl.1) rfl dX2_init_1 (Nat.le_of_ble_eq_true rfl) (Nat.le_of_ble_eq_true rfl) ?_
  refine W.eq (g2 := F0 m 4 ls []) rfl ?_
  exact W.vret hx hb hr (fun t ht hW => ⟨⟨(), rfl, trivial, by rw [ht]; exact hP, va_K.moved hW.alike hK, hD⟩, hS.F ht⟩) hS.2.2 dX2_init_4
