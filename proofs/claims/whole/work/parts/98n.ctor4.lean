/-! the machine's constructor -/
theorem tw499 : Cond.methodLink "BundleFence$Machine" 3 ⟨"java/lang/Object", "<init>", "()V"⟩ ∈ gtbl := gtt_2 107 rfl rfl
theorem tw500 : Cond.classLink "BundleFence$Machine" 9 "BundleFence$Flags" ∈ gtbl := gtt_2 108 rfl rfl
theorem tw501 : Cond.instantiable "BundleFence$Flags" 1 ∈ gtbl := gtt_2 109 rfl rfl
theorem tw503 : Cond.instanceMethod ⟨"BundleFence$Flags", "<init>", "()V"⟩ ∈ gtbl := gtt_2 111 rfl rfl
theorem tw504 : Cond.code ⟨"BundleFence$Flags", "<init>", "()V"⟩ prog_4_method_1_code 1 none ∈ gtbl := gtt_2 112 rfl rfl
theorem tw512 : Cond.methodLink "BundleFence$Machine" 50 ⟨"BundleFence$Machine", "restart", "()V"⟩ ∈ gtbl := gtt_2 120 rfl rfl
abbrev cX7_init : ByteArray := prog_9_method_1_code
theorem dX7_init_0 : decode cX7_init 0 = .ok (.aload_n 0, 1) := by decide +kernel
theorem dX7_init_1 : decode cX7_init 1 = .ok (.invokespecial 3, 3) := by decide +kernel
theorem dX7_init_4 : decode cX7_init 4 = .ok (.aload_n 0, 1) := by decide +kernel
theorem dX7_init_5 : decode cX7_init 5 = .ok (.new 9, 3) := by decide +kernel
theorem dX7_init_8 : decode cX7_init 8 = .ok (.dup, 1) := by decide +kernel
theorem dX7_init_9 : decode cX7_init 9 = .ok (.invokespecial 11, 3) := by decide +kernel
theorem dX7_init_12 : decode cX7_init 12 = .ok (.putfield 12, 3) := by decide +kernel
theorem dX7_init_15 : decode cX7_init 15 = .ok (.aload_n 0, 1) := by decide +kernel
theorem dX7_init_16 : decode cX7_init 16 = .ok (.bipush 8, 2) := by decide +kernel
theorem dX7_init_18 : decode cX7_init 18 = .ok (.newarray .int, 2) := by decide +kernel
theorem dX7_init_20 : decode cX7_init 20 = .ok (.putfield 18, 3) := by decide +kernel
theorem dX7_init_23 : decode cX7_init 23 = .ok (.aload_n 0, 1) := by decide +kernel
theorem dX7_init_24 : decode cX7_init 24 = .ok (.sipush 2048, 3) := by decide +kernel
theorem dX7_init_27 : decode cX7_init 27 = .ok (.newarray .int, 2) := by decide +kernel
theorem dX7_init_29 : decode cX7_init 29 = .ok (.putfield 24, 3) := by decide +kernel
theorem dX7_init_32 : decode cX7_init 32 = .ok (.aload_n 0, 1) := by decide +kernel
theorem dX7_init_33 : decode cX7_init 33 = .ok (.bipush 8, 2) := by decide +kernel
theorem dX7_init_35 : decode cX7_init 35 = .ok (.newarray .int, 2) := by decide +kernel
theorem dX7_init_37 : decode cX7_init 37 = .ok (.putfield 27, 3) := by decide +kernel
theorem dX7_init_40 : decode cX7_init 40 = .ok (.aload_n 0, 1) := by decide +kernel
theorem dX7_init_41 : decode cX7_init 41 = .ok (.aload_n 1, 1) := by decide +kernel
theorem dX7_init_42 : decode cX7_init 42 = .ok (.putfield 30, 3) := by decide +kernel
theorem dX7_init_45 : decode cX7_init 45 = .ok (.aload_n 0, 1) := by decide +kernel
theorem dX7_init_46 : decode cX7_init 46 = .ok (.aload_n 2, 1) := by decide +kernel
theorem dX7_init_47 : decode cX7_init 47 = .ok (.putfield 34, 3) := by decide +kernel
theorem dX7_init_50 : decode cX7_init 50 = .ok (.aload_n 0, 1) := by decide +kernel
theorem dX7_init_51 : decode cX7_init 51 = .ok (.aload_n 3, 1) := by decide +kernel
theorem dX7_init_52 : decode cX7_init 52 = .ok (.putfield 38, 3) := by decide +kernel
theorem dX7_init_55 : decode cX7_init 55 = .ok (.aload_n 0, 1) := by decide +kernel
theorem dX7_init_56 : decode cX7_init 56 = .ok (.aload 4, 2) := by decide +kernel
theorem dX7_init_58 : decode cX7_init 58 = .ok (.putfield 42, 3) := by decide +kernel
theorem dX7_init_61 : decode cX7_init 61 = .ok (.aload_n 0, 1) := by decide +kernel
theorem dX7_init_62 : decode cX7_init 62 = .ok (.aload 5, 2) := by decide +kernel
theorem dX7_init_64 : decode cX7_init 64 = .ok (.putfield 46, 3) := by decide +kernel
theorem dX7_init_67 : decode cX7_init 67 = .ok (.aload_n 0, 1) := by decide +kernel
theorem dX7_init_68 : decode cX7_init 68 = .ok (.invokevirtual 50, 3) := by decide +kernel
theorem dX7_init_71 : decode cX7_init 71 = .ok (.return_, 1) := by decide +kernel
abbrev yX7_init : MethodName := ⟨"BundleFence$Machine", "<init>", "(LBundleFence$Inspector;LBundleFence$Decoder;LBundleFence$Instruction;LBundleFence$Memory;LBundleFence$Host;)V"⟩
abbrev mX7_init : xMd := (yX7_init, cX7_init, 6, none, { frames := 2, cells := 4, slots := 2065, locals := 32 })
def atX7_init (dC : Nat → ClassId) (dI : Nat → Nat → Nat) (A : Nat → Prop) (h0 p1 p2 p3 p4 p5 : Nat) (t : State) : Prop := ∃ (q1 q2 q3 q4 : Nat) (a1 a2 a3 : ClassId), va_P (dC, dI) lC.1 [(h0, .inr (8, [.ref p1, .ref p2, .ref p3, .ref p4, .ref p5, .ref q1, .ref q2, .ref q3, .ref q4, .int 0, .int 0, .int 4096, .int 0, .long 0, .int 0, .int 0])), (q1, .inr (9, [.int 0])), (q2, .inl (a1, 8, .inl (upd (fun _ => 0) (4 : Int32).toNatClampNeg 131072))), (q3, .inl (a2, 2048, .inl fun _ => 0)), (q4, .inl (a3, 8, .inl fun _ => 0))] t.heap ∧ va_K (dC, dI) lC.1 [(a1, .int), (a2, .int), (a3, .int)] t ∧ va_D A [(h0, .inr (8, [.ref p1, .ref p2, .ref p3, .ref p4, .ref p5, .ref q1, .ref q2, .ref q3, .ref q4, .int 0, .int 0, .int 4096, .int 0, .long 0, .int 0, .int 0])), (q1, .inr (9, [.int 0])), (q2, .inl (a1, 8, .inl (upd (fun _ => 0) (4 : Int32).toNatClampNeg 131072))), (q3, .inl (a2, 2048, .inl fun _ => 0)), (q4, .inl (a3, 8, .inl fun _ => 0))]
set_option maxHeartbeats 4000000 in
set_option maxRecDepth 100000 in
theorem c_X7_init (l : Launch) (dC : Nat → ClassId) (dI : Nat → Nat → Nat) (h0 p1 p2 p3 p4 p5 sz : Nat) : Met l yX7_init (xwords mX7_init) mX7_init.2.2.2.2 (va_Pc [.ref h0, .ref p1, .ref p2, .ref p3, .ref p4, .ref p5] (fun U => U.heap.size = sz ∧ va_P (dC, dI) lC.1 [(h0, .inr (8, [.null, .null, .null, .null, .null, .null, .null, .null, .null, .int 0, .int 0, .int 0, .int 0, .long 0, .int 0, .int 0]))] U.heap ∧ va_K (dC, dI) lC.1 [] U ∧ va_D (fun _ => True) [(h0, .inr (8, [.null, .null, .null, .null, .null, .null, .null, .null, .null, .int 0, .int 0, .int 0, .int 0, .long 0, .int 0, .int 0]))] ∧ va_Nw (.methodLinkNest "BundleFence$Machine" 11 ⟨"BundleFence$Flags", "<init>", "()V"⟩ "BundleFence") U)) (va_Qv (fun _ : Unit => True) (fun _ t => atX7_init dC dI (va_A [(h0, .inr (8, [.null, .null, .null, .null, .null, .null, .null, .null, .null, .int 0, .int 0, .int 0, .int 0, .long 0, .int 0, .int 0]))] sz) h0 p1 p2 p3 p4 p5 t) (va_A [(h0, .inr (8, [.null, .null, .null, .null, .null, .null, .null, .null, .null, .int 0, .int 0, .int 0, .int 0, .long 0, .int 0, .int 0]))] sz)) 4 2065 (va_A [(h0, .inr (8, [.null, .null, .null, .null, .null, .null, .null, .null, .null, .int 0, .int 0, .int 0, .int 0, .long 0, .int 0, .int 0]))] sz) := by
  refine Met.ofW (cc := cX7_init) (maxL := 6) (ret := none) (by decide) rfl ?_
  intro p e s m args below meth c s₁ B hml hv
  obtain ⟨rfl, hsz, hP, hK, hD0, hN0⟩ := hv
  have hx := B.exec
  have hb := B.bytes
  have hr := B.returns
  have hts : ∀ w ∈ gtbl, w.before _ s = true := fun w hw => atoms_spec (ws := xwords mX7_init) B.pre w (List.mem_cons_of_mem _ hw)
  have hown : s.vm.findClass RX7 = some m.cls := findClass_of_methodNamed B.named
  have hin : meth.name = "<init>" := (name_of_methodNamed B.named B.method).1
  subst hsz
  have hD := hD0.self (sz := s.heap.size)
  generalize hAe : va_A [(h0, .inr (8, [.null, .null, .null, .null, .null, .null, .null, .null, .null, .int 0, .int 0, .int 0, .int 0, .long 0, .int 0, .int 0]))] s.heap.size = A at hD ⊢
  have hA : ∀ q : Nat, s.heap.size ≤ q → A q := fun q h => by rw [← hAe]; exact Or.inr h
  have hS : va_S A s.heap s.heap [] := va_S.rf
  have hP : va_P (dC, dI) lC.1 [(h0, .inr (8, [.null, .null, .null, .null, .null, .null, .null, .null, .null, .int 0, .int 0, .int 0, .int 0, .long 0, .int 0, .int 0]))] s.heap := hP
  have hl := lv_entry ([.ref h0, .ref p1, .ref p2, .ref p3, .ref p4, .ref p5]) (n := 6) (Nat.le_of_ble_eq_true rfl)
  rw [lg_entry_eq]
  generalize (lg_sl ([.ref h0, .ref p1, .ref p2, .ref p3, .ref p4, .ref p5]) ++ List.replicate (6 - (lg_sl ([.ref h0, .ref p1, .ref p2, .ref p3, .ref p4, .ref p5])).length) Slot.unset).toArray = ls at hl ⊢
  have hl : lv_has ls 6 [(0, .ref h0), (1, .ref p1), (2, .ref p2), (3, .ref p3), (4, .ref p4), (5, .ref p5)] := hl
  refine lv_aload_n hx hb dX7_init_0 rfl (lv_at hl 0 rfl) ?_
  refine W.objInit hx hb hown (hts _ tw499) (hts _ tw192) (hts _ tw193) rfl (by rw [hml]; exact hl.1) rfl dX7_init_1 (Nat.le_of_ble_eq_true rfl) (Nat.le_of_ble_eq_true rfl) ?_
  refine W.eq (g2 := F0 m 4 ls []) rfl ?_
  refine lv_aload_n hx hb dX7_init_4 rfl (lv_at hl 0 rfl) ?_
  refine va_new (ci := 9) (fs := [.int 0]) (C := RX2) (T := TX2) (N := 1) hx hb hts inX2 tyX2 tyX2_ok hown (hts _ tw500) (hts _ tw501) (hts _ tw168) hK hP hD hS hA rfl (fun j hj => by rcases (show j = 0 by omega) with rfl <;> rfl) (Nat.le_of_ble_eq_true rfl) (Nat.le_of_ble_eq_true rfl) dX7_init_5 (fun q1 H hP hD hS => ?_)
  have hP : va_P (dC, dI) lC.1 [(h0, .inr (8, [.null, .null, .null, .null, .null, .null, .null, .null, .null, .int 0, .int 0, .int 0, .int 0, .long 0, .int 0, .int 0])), (q1, .inr (9, [.int 0]))] H := hP
  have hD : va_D A [(h0, .inr (8, [.null, .null, .null, .null, .null, .null, .null, .null, .null, .int 0, .int 0, .int 0, .int 0, .long 0, .int 0, .int 0])), (q1, .inr (9, [.int 0]))] := hD
  refine W.widen (k := 1) (n := 1) (Nat.le_refl _) (Nat.le_refl _) ?_
  refine lv_dup hx hb dX7_init_8 rfl ?_
  have hPc := hP.sub (ws' := [(q1, .inr (9, [.int 0]))]) [1] rfl
  have hDc := hD.sub (ws' := [(q1, .inr (9, [.int 0]))]) [1] (by decide) rfl
  have hKc := hK.sub (tys' := []) [] rfl
  have hFc := va_free (wc := [(q1, .inr (9, [.int 0]))]) hD hS hA [1] rfl
  refine va_callv (va_runIN (host := "BundleFence") (As := []) (rest := [.ref q1, .ref h0]) (n := 0) (own := RX7) (Ts := gtbl) (bytes := cX2_init) (maxL := 1) (index := 11) ⟨hx, hb, hml, hown, hts⟩ (c_X2_init l dC dI q1 H.size) ⟨va_cnB 0 hts (xgood hts tw504) rfl rfl rfl hN0 (hts _ tw168) ⟨by decide, by decide, by decide +kernel⟩ ⟨Nat.le_of_ble_eq_true rfl, Nat.le_of_ble_eq_true rfl⟩, rfl, hts _ tw503⟩ ⟨fun a U g mk q => by obtain ⟨q0, q1, qP, qK, qD⟩ := q; exact ⟨q0, q1, qP, va_K.moved (u := U) (U := U.calling g mk a) (Vm.Alike.refl U.vm) qK, qD⟩, fun U hU hW => ⟨rfl, by rw [hU], by rw [hU]; exact hPc, va_K.moved hW.alike hKc, hDc.weaken (fun _ _ _ _ => trivial)⟩⟩ rfl rfl hl.1 rfl (lv_room (Nat.le_of_ble_eq_true rfl)) dX7_init_9 ⟨Nat.le_of_ble_eq_true rfl, Nat.le_of_ble_eq_true rfl⟩) hS (fun q _ h => hFc q h) hFc (fun u t H1 locs ht hvm hw hB hz1 hk1 hS => ?_)
  obtain ⟨hP1, hK1, hD1⟩ := hB
  rw [ht] at hP1
  have hK1 := va_K.moved hvm.symm hK1
  obtain ⟨hP, hD⟩ := va_join (wr := [(h0, .inr (8, [.null, .null, .null, .null, .null, .null, .null, .null, .null, .int 0, .int 0, .int 0, .int 0, .long 0, .int 0, .int 0]))]) (w1 := [(q1, .inr (9, [.int 0]))]) hP hD [1] [0] rfl rfl (by decide) (by decide) hk1 hFc hP1 hD1
  have hK := (hK.sub (tys' := []) [] rfl).app hK1
  generalize H1 = H at hP hS ⊢
  have hP : va_P (dC, dI) lC.1 [(h0, .inr (8, [.null, .null, .null, .null, .null, .null, .null, .null, .null, .int 0, .int 0, .int 0, .int 0, .long 0, .int 0, .int 0])), (q1, .inr (9, [.int 0]))] H := hP
  have hD : va_D A [(h0, .inr (8, [.null, .null, .null, .null, .null, .null, .null, .null, .null, .int 0, .int 0, .int 0, .int 0, .long 0, .int 0, .int 0])), (q1, .inr (9, [.int 0]))] := hD
  have hK : va_K (dC, dI) lC.1 [] s := hK
  refine W.widen (k := 1) (n := 1) (Nat.le_refl _) (Nat.le_refl _) ?_
  refine va_putF (D := (dC, dI)) (ci := 8) (v := .ref q1) (ty := .object "BundleFence$Flags") (C := RX7) (T := TX7) (N := 16) hx hb hts inX7 tyX7 tyX7_ok nmX7 hown hK hP hD hS 0 rfl rfl 5 (by decide) (hts _ tw522) (fun _ h9 => h9) rfl hin rfl (by decide +kernel) rfl rfl (Nat.le_of_ble_eq_true rfl) dX7_init_12 (fun H locs hP hD hS => ?_)
  have hP : va_P (dC, dI) lC.1 [(h0, .inr (8, [.null, .null, .null, .null, .null, .ref q1, .null, .null, .null, .int 0, .int 0, .int 0, .int 0, .long 0, .int 0, .int 0])), (q1, .inr (9, [.int 0]))] H := hP
  have hD : va_D A [(h0, .inr (8, [.null, .null, .null, .null, .null, .ref q1, .null, .null, .null, .int 0, .int 0, .int 0, .int 0, .long 0, .int 0, .int 0])), (q1, .inr (9, [.int 0]))] := hD
  refine lv_aload_n hx hb dX7_init_15 rfl (lv_at hl 0 rfl) ?_
  refine lv_bipush (v := 8) hx hb dX7_init_16 (by decide) ?_
  refine va_newa (atype := .int) (N' := 8) (ty := .int) (a0 := (8, .inl fun _ => 0)) hx hb (hts _ tw394) rfl hK hP hD hS hA (fun _ => rfl) (by decide) (by decide) (by decide) (Nat.le_of_ble_eq_true rfl) (Nat.le_of_ble_eq_true rfl) dX7_init_18 (fun q2 a1 H hK hP hD hS => ?_)
  have hP : va_P (dC, dI) lC.1 [(h0, .inr (8, [.null, .null, .null, .null, .null, .ref q1, .null, .null, .null, .int 0, .int 0, .int 0, .int 0, .long 0, .int 0, .int 0])), (q1, .inr (9, [.int 0])), (q2, .inl (a1, 8, .inl fun _ => 0))] H := hP
  have hD : va_D A [(h0, .inr (8, [.null, .null, .null, .null, .null, .ref q1, .null, .null, .null, .int 0, .int 0, .int 0, .int 0, .long 0, .int 0, .int 0])), (q1, .inr (9, [.int 0])), (q2, .inl (a1, 8, .inl fun _ => 0))] := hD
  have hK : va_K (dC, dI) lC.1 [(a1, .int)] s := hK
  refine W.widen (k := 2) (n := 9) (Nat.le_refl _) (Nat.le_refl _) ?_
  refine va_putF (D := (dC, dI)) (ci := 8) (v := .ref q2) (ty := .array .int) (C := RX7) (T := TX7) (N := 16) hx hb hts inX7 tyX7 tyX7_ok nmX7 hown hK hP hD hS 0 rfl rfl 6 (by decide) (hts _ tw524) (fun _ h9 => h9) rfl hin rfl (by decide +kernel) rfl rfl (Nat.le_of_ble_eq_true rfl) dX7_init_20 (fun H locs hP hD hS => ?_)
  have hP : va_P (dC, dI) lC.1 [(h0, .inr (8, [.null, .null, .null, .null, .null, .ref q1, .ref q2, .null, .null, .int 0, .int 0, .int 0, .int 0, .long 0, .int 0, .int 0])), (q1, .inr (9, [.int 0])), (q2, .inl (a1, 8, .inl fun _ => 0))] H := hP
  have hD : va_D A [(h0, .inr (8, [.null, .null, .null, .null, .null, .ref q1, .ref q2, .null, .null, .int 0, .int 0, .int 0, .int 0, .long 0, .int 0, .int 0])), (q1, .inr (9, [.int 0])), (q2, .inl (a1, 8, .inl fun _ => 0))] := hD
  refine lv_aload_n hx hb dX7_init_23 rfl (lv_at hl 0 rfl) ?_
  refine lv_sipush (v := 2048) hx hb dX7_init_24 (by decide) ?_
  refine va_newa (atype := .int) (N' := 2048) (ty := .int) (a0 := (2048, .inl fun _ => 0)) hx hb (hts _ tw394) rfl hK hP hD hS hA (fun _ => rfl) (by decide) (by decide) (by decide) (Nat.le_of_ble_eq_true rfl) (Nat.le_of_ble_eq_true rfl) dX7_init_27 (fun q3 a2 H hK hP hD hS => ?_)
  have hP : va_P (dC, dI) lC.1 [(h0, .inr (8, [.null, .null, .null, .null, .null, .ref q1, .ref q2, .null, .null, .int 0, .int 0, .int 0, .int 0, .long 0, .int 0, .int 0])), (q1, .inr (9, [.int 0])), (q2, .inl (a1, 8, .inl fun _ => 0)), (q3, .inl (a2, 2048, .inl fun _ => 0))] H := hP
  have hD : va_D A [(h0, .inr (8, [.null, .null, .null, .null, .null, .ref q1, .ref q2, .null, .null, .int 0, .int 0, .int 0, .int 0, .long 0, .int 0, .int 0])), (q1, .inr (9, [.int 0])), (q2, .inl (a1, 8, .inl fun _ => 0)), (q3, .inl (a2, 2048, .inl fun _ => 0))] := hD
  have hK : va_K (dC, dI) lC.1 [(a1, .int), (a2, .int)] s := hK
  refine W.widen (k := 3) (n := 2057) (Nat.le_refl _) (Nat.le_refl _) ?_
  refine va_putF (D := (dC, dI)) (ci := 8) (v := .ref q3) (ty := .array .int) (C := RX7) (T := TX7) (N := 16) hx hb hts inX7 tyX7 tyX7_ok nmX7 hown hK hP hD hS 0 rfl rfl 7 (by decide) (hts _ tw526) (fun _ h9 => h9) rfl hin rfl (by decide +kernel) rfl rfl (Nat.le_of_ble_eq_true rfl) dX7_init_29 (fun H locs hP hD hS => ?_)
  have hP : va_P (dC, dI) lC.1 [(h0, .inr (8, [.null, .null, .null, .null, .null, .ref q1, .ref q2, .ref q3, .null, .int 0, .int 0, .int 0, .int 0, .long 0, .int 0, .int 0])), (q1, .inr (9, [.int 0])), (q2, .inl (a1, 8, .inl fun _ => 0)), (q3, .inl (a2, 2048, .inl fun _ => 0))] H := hP
  have hD : va_D A [(h0, .inr (8, [.null, .null, .null, .null, .null, .ref q1, .ref q2, .ref q3, .null, .int 0, .int 0, .int 0, .int 0, .long 0, .int 0, .int 0])), (q1, .inr (9, [.int 0])), (q2, .inl (a1, 8, .inl fun _ => 0)), (q3, .inl (a2, 2048, .inl fun _ => 0))] := hD
  refine lv_aload_n hx hb dX7_init_32 rfl (lv_at hl 0 rfl) ?_
  refine lv_bipush (v := 8) hx hb dX7_init_33 (by decide) ?_
  refine va_newa (atype := .int) (N' := 8) (ty := .int) (a0 := (8, .inl fun _ => 0)) hx hb (hts _ tw394) rfl hK hP hD hS hA (fun _ => rfl) (by decide) (by decide) (by decide) (Nat.le_of_ble_eq_true rfl) (Nat.le_of_ble_eq_true rfl) dX7_init_35 (fun q4 a3 H hK hP hD hS => ?_)
  have hP : va_P (dC, dI) lC.1 [(h0, .inr (8, [.null, .null, .null, .null, .null, .ref q1, .ref q2, .ref q3, .null, .int 0, .int 0, .int 0, .int 0, .long 0, .int 0, .int 0])), (q1, .inr (9, [.int 0])), (q2, .inl (a1, 8, .inl fun _ => 0)), (q3, .inl (a2, 2048, .inl fun _ => 0)), (q4, .inl (a3, 8, .inl fun _ => 0))] H := hP
  have hD : va_D A [(h0, .inr (8, [.null, .null, .null, .null, .null, .ref q1, .ref q2, .ref q3, .null, .int 0, .int 0, .int 0, .int 0, .long 0, .int 0, .int 0])), (q1, .inr (9, [.int 0])), (q2, .inl (a1, 8, .inl fun _ => 0)), (q3, .inl (a2, 2048, .inl fun _ => 0)), (q4, .inl (a3, 8, .inl fun _ => 0))] := hD
  have hK : va_K (dC, dI) lC.1 [(a1, .int), (a2, .int), (a3, .int)] s := hK
  refine W.widen (k := 4) (n := 2065) (Nat.le_refl _) (Nat.le_refl _) ?_
  refine va_putF (D := (dC, dI)) (ci := 8) (v := .ref q4) (ty := .array .int) (C := RX7) (T := TX7) (N := 16) hx hb hts inX7 tyX7 tyX7_ok nmX7 hown hK hP hD hS 0 rfl rfl 8 (by decide) (hts _ tw528) (fun _ h9 => h9) rfl hin rfl (by decide +kernel) rfl rfl (Nat.le_of_ble_eq_true rfl) dX7_init_37 (fun H locs hP hD hS => ?_)
  have hP : va_P (dC, dI) lC.1 [(h0, .inr (8, [.null, .null, .null, .null, .null, .ref q1, .ref q2, .ref q3, .ref q4, .int 0, .int 0, .int 0, .int 0, .long 0, .int 0, .int 0])), (q1, .inr (9, [.int 0])), (q2, .inl (a1, 8, .inl fun _ => 0)), (q3, .inl (a2, 2048, .inl fun _ => 0)), (q4, .inl (a3, 8, .inl fun _ => 0))] H := hP
  have hD : va_D A [(h0, .inr (8, [.null, .null, .null, .null, .null, .ref q1, .ref q2, .ref q3, .ref q4, .int 0, .int 0, .int 0, .int 0, .long 0, .int 0, .int 0])), (q1, .inr (9, [.int 0])), (q2, .inl (a1, 8, .inl fun _ => 0)), (q3, .inl (a2, 2048, .inl fun _ => 0)), (q4, .inl (a3, 8, .inl fun _ => 0))] := hD
  refine lv_aload_n hx hb dX7_init_40 rfl (lv_at hl 0 rfl) ?_
  refine lv_aload_n hx hb dX7_init_41 rfl (lv_at hl 1 rfl) ?_
  refine va_putF (D := (dC, dI)) (ci := 8) (v := .ref p1) (ty := .object "BundleFence$Inspector") (C := RX7) (T := TX7) (N := 16) hx hb hts inX7 tyX7 tyX7_ok nmX7 hown hK hP hD hS 0 rfl rfl 0 (by decide) (hts _ tw517) (fun _ h9 => h9) rfl hin rfl (by decide +kernel) rfl rfl (Nat.le_of_ble_eq_true rfl) dX7_init_42 (fun H locs hP hD hS => ?_)
  have hP : va_P (dC, dI) lC.1 [(h0, .inr (8, [.ref p1, .null, .null, .null, .null, .ref q1, .ref q2, .ref q3, .ref q4, .int 0, .int 0, .int 0, .int 0, .long 0, .int 0, .int 0])), (q1, .inr (9, [.int 0])), (q2, .inl (a1, 8, .inl fun _ => 0)), (q3, .inl (a2, 2048, .inl fun _ => 0)), (q4, .inl (a3, 8, .inl fun _ => 0))] H := hP
  have hD : va_D A [(h0, .inr (8, [.ref p1, .null, .null, .null, .null, .ref q1, .ref q2, .ref q3, .ref q4, .int 0, .int 0, .int 0, .int 0, .long 0, .int 0, .int 0])), (q1, .inr (9, [.int 0])), (q2, .inl (a1, 8, .inl fun _ => 0)), (q3, .inl (a2, 2048, .inl fun _ => 0)), (q4, .inl (a3, 8, .inl fun _ => 0))] := hD
  refine lv_aload_n hx hb dX7_init_45 rfl (lv_at hl 0 rfl) ?_
  refine lv_aload_n hx hb dX7_init_46 rfl (lv_at hl 2 rfl) ?_
  refine va_putF (D := (dC, dI)) (ci := 8) (v := .ref p2) (ty := .object "BundleFence$Decoder") (C := RX7) (T := TX7) (N := 16) hx hb hts inX7 tyX7 tyX7_ok nmX7 hown hK hP hD hS 0 rfl rfl 1 (by decide) (hts _ tw518) (fun _ h9 => h9) rfl hin rfl (by decide +kernel) rfl rfl (Nat.le_of_ble_eq_true rfl) dX7_init_47 (fun H locs hP hD hS => ?_)
  have hP : va_P (dC, dI) lC.1 [(h0, .inr (8, [.ref p1, .ref p2, .null, .null, .null, .ref q1, .ref q2, .ref q3, .ref q4, .int 0, .int 0, .int 0, .int 0, .long 0, .int 0, .int 0])), (q1, .inr (9, [.int 0])), (q2, .inl (a1, 8, .inl fun _ => 0)), (q3, .inl (a2, 2048, .inl fun _ => 0)), (q4, .inl (a3, 8, .inl fun _ => 0))] H := hP
  have hD : va_D A [(h0, .inr (8, [.ref p1, .ref p2, .null, .null, .null, .ref q1, .ref q2, .ref q3, .ref q4, .int 0, .int 0, .int 0, .int 0, .long 0, .int 0, .int 0])), (q1, .inr (9, [.int 0])), (q2, .inl (a1, 8, .inl fun _ => 0)), (q3, .inl (a2, 2048, .inl fun _ => 0)), (q4, .inl (a3, 8, .inl fun _ => 0))] := hD
  refine lv_aload_n hx hb dX7_init_50 rfl (lv_at hl 0 rfl) ?_
  refine lv_aload_n hx hb dX7_init_51 rfl (lv_at hl 3 rfl) ?_
  refine va_putF (D := (dC, dI)) (ci := 8) (v := .ref p3) (ty := .object "BundleFence$Instruction") (C := RX7) (T := TX7) (N := 16) hx hb hts inX7 tyX7 tyX7_ok nmX7 hown hK hP hD hS 0 rfl rfl 2 (by decide) (hts _ tw519) (fun _ h9 => h9) rfl hin rfl (by decide +kernel) rfl rfl (Nat.le_of_ble_eq_true rfl) dX7_init_52 (fun H locs hP hD hS => ?_)
  have hP : va_P (dC, dI) lC.1 [(h0, .inr (8, [.ref p1, .ref p2, .ref p3, .null, .null, .ref q1, .ref q2, .ref q3, .ref q4, .int 0, .int 0, .int 0, .int 0, .long 0, .int 0, .int 0])), (q1, .inr (9, [.int 0])), (q2, .inl (a1, 8, .inl fun _ => 0)), (q3, .inl (a2, 2048, .inl fun _ => 0)), (q4, .inl (a3, 8, .inl fun _ => 0))] H := hP
  have hD : va_D A [(h0, .inr (8, [.ref p1, .ref p2, .ref p3, .null, .null, .ref q1, .ref q2, .ref q3, .ref q4, .int 0, .int 0, .int 0, .int 0, .long 0, .int 0, .int 0])), (q1, .inr (9, [.int 0])), (q2, .inl (a1, 8, .inl fun _ => 0)), (q3, .inl (a2, 2048, .inl fun _ => 0)), (q4, .inl (a3, 8, .inl fun _ => 0))] := hD
  refine lv_aload_n hx hb dX7_init_55 rfl (lv_at hl 0 rfl) ?_
  refine lv_aload hx hb dX7_init_56 (lv_at hl 4 rfl) ?_
  refine va_putF (D := (dC, dI)) (ci := 8) (v := .ref p4) (ty := .object "BundleFence$Memory") (C := RX7) (T := TX7) (N := 16) hx hb hts inX7 tyX7 tyX7_ok nmX7 hown hK hP hD hS 0 rfl rfl 3 (by decide) (hts _ tw520) (fun _ h9 => h9) rfl hin rfl (by decide +kernel) rfl rfl (Nat.le_of_ble_eq_true rfl) dX7_init_58 (fun H locs hP hD hS => ?_)
  have hP : va_P (dC, dI) lC.1 [(h0, .inr (8, [.ref p1, .ref p2, .ref p3, .ref p4, .null, .ref q1, .ref q2, .ref q3, .ref q4, .int 0, .int 0, .int 0, .int 0, .long 0, .int 0, .int 0])), (q1, .inr (9, [.int 0])), (q2, .inl (a1, 8, .inl fun _ => 0)), (q3, .inl (a2, 2048, .inl fun _ => 0)), (q4, .inl (a3, 8, .inl fun _ => 0))] H := hP
  have hD : va_D A [(h0, .inr (8, [.ref p1, .ref p2, .ref p3, .ref p4, .null, .ref q1, .ref q2, .ref q3, .ref q4, .int 0, .int 0, .int 0, .int 0, .long 0, .int 0, .int 0])), (q1, .inr (9, [.int 0])), (q2, .inl (a1, 8, .inl fun _ => 0)), (q3, .inl (a2, 2048, .inl fun _ => 0)), (q4, .inl (a3, 8, .inl fun _ => 0))] := hD
  refine lv_aload_n hx hb dX7_init_61 rfl (lv_at hl 0 rfl) ?_
  refine lv_aload hx hb dX7_init_62 (lv_at hl 5 rfl) ?_
  refine va_putF (D := (dC, dI)) (ci := 8) (v := .ref p5) (ty := .object "BundleFence$Host") (C := RX7) (T := TX7) (N := 16) hx hb hts inX7 tyX7 tyX7_ok nmX7 hown hK hP hD hS 0 rfl rfl 4 (by decide) (hts _ tw521) (fun _ h9 => h9) rfl hin rfl (by decide +kernel) rfl rfl (Nat.le_of_ble_eq_true rfl) dX7_init_64 (fun H locs hP hD hS => ?_)
  have hP : va_P (dC, dI) lC.1 [(h0, .inr (8, [.ref p1, .ref p2, .ref p3, .ref p4, .ref p5, .ref q1, .ref q2, .ref q3, .ref q4, .int 0, .int 0, .int 0, .int 0, .long 0, .int 0, .int 0])), (q1, .inr (9, [.int 0])), (q2, .inl (a1, 8, .inl fun _ => 0)), (q3, .inl (a2, 2048, .inl fun _ => 0)), (q4, .inl (a3, 8, .inl fun _ => 0))] H := hP
  have hD : va_D A [(h0, .inr (8, [.ref p1, .ref p2, .ref p3, .ref p4, .ref p5, .ref q1, .ref q2, .ref q3, .ref q4, .int 0, .int 0, .int 0, .int 0, .long 0, .int 0, .int 0])), (q1, .inr (9, [.int 0])), (q2, .inl (a1, 8, .inl fun _ => 0)), (q3, .inl (a2, 2048, .inl fun _ => 0)), (q4, .inl (a3, 8, .inl fun _ => 0))] := hD
  refine lv_aload_n hx hb dX7_init_67 rfl (lv_at hl 0 rfl) ?_
  have hPc := hP.sub (ws' := [(h0, .inr (8, [.ref p1, .ref p2, .ref p3, .ref p4, .ref p5, .ref q1, .ref q2, .ref q3, .ref q4, .int 0, .int 0, .int 0, .int 0, .long 0, .int 0, .int 0])), (q1, .inr (9, [.int 0])), (q2, .inl (a1, 8, .inl fun _ => 0)), (q3, .inl (a2, 2048, .inl fun _ => 0))]) [0, 1, 2, 3] rfl
  have hDc := hD.sub (ws' := [(h0, .inr (8, [.ref p1, .ref p2, .ref p3, .ref p4, .ref p5, .ref q1, .ref q2, .ref q3, .ref q4, .int 0, .int 0, .int 0, .int 0, .long 0, .int 0, .int 0])), (q1, .inr (9, [.int 0])), (q2, .inl (a1, 8, .inl fun _ => 0)), (q3, .inl (a2, 2048, .inl fun _ => 0))]) [0, 1, 2, 3] (by decide) rfl
  have hKc := hK.sub (tys' := [(a1, .int), (a2, .int)]) [0, 1] rfl
  have hFc := va_free (wc := [(h0, .inr (8, [.ref p1, .ref p2, .ref p3, .ref p4, .ref p5, .ref q1, .ref q2, .ref q3, .ref q4, .int 0, .int 0, .int 0, .int 0, .long 0, .int 0, .int 0])), (q1, .inr (9, [.int 0])), (q2, .inl (a1, 8, .inl fun _ => 0)), (q3, .inl (a2, 2048, .inl fun _ => 0))]) hD hS hA [0, 1, 2, 3] rfl
  refine va_callv (va_runV (As := []) (rest := []) (n := 0) (C := RX7) (own := RX7) (Ts := gtbl) (bytes := cX7_restart) (maxL := 2) (ret := none) (index := 50) (b := h0) ⟨hx, hb, hml, hown, hts⟩ (c_X7_restart l dC dI h0 p1 p2 p3 p4 p5 q1 q2 q3 q4 H.size a1 a2) ⟨callB_of 0 hts (xgood hts mkX7_restart.1.1) rfl rfl rfl (hts _ mkX7_restart.1.2.1) (hts _ tw512) ⟨by decide, by decide, by decide +kernel⟩ ⟨Nat.le_of_ble_eq_true rfl, Nat.le_of_ble_eq_true rfl⟩, hts _ mkX7_restart.2.1, hts _ mkX7_restart.2.2⟩ ⟨fun a U g mk q => by obtain ⟨q0, q1, qP, qK, qD⟩ := q; exact ⟨q0, q1, qP, va_K.moved (u := U) (U := U.calling g mk a) (Vm.Alike.refl U.vm) qK, qD⟩, va_recv hKc hPc (ci := 8) (q0 := 0) rfl rfl, fun U hU hW => ⟨rfl, by rw [hU], by rw [hU]; exact hPc, va_K.moved hW.alike hKc, hDc.weaken (fun _ _ _ _ => trivial)⟩⟩ rfl rfl hl.1 rfl (lv_room (Nat.le_of_ble_eq_true rfl)) dX7_init_68 ⟨Nat.le_of_ble_eq_true rfl, Nat.le_of_ble_eq_true rfl⟩) hS (fun q _ h => hFc q h) hFc (fun u t H1 locs ht hvm hw hB hz1 hk1 hS => ?_)
  obtain ⟨hP1, hK1, hD1⟩ := hB
  rw [ht] at hP1
  obtain ⟨hP, hD⟩ := va_join (wr := [(q4, .inl (a3, 8, .inl fun _ => 0))]) (w1 := [(h0, .inr (8, [.ref p1, .ref p2, .ref p3, .ref p4, .ref p5, .ref q1, .ref q2, .ref q3, .ref q4, .int 0, .int 0, .int 4096, .int 0, .long 0, .int 0, .int 0])), (q1, .inr (9, [.int 0])), (q2, .inl (a1, 8, .inl (upd (fun _ => 0) (4 : Int32).toNatClampNeg 131072))), (q3, .inl (a2, 2048, .inl fun _ => 0))]) hP hD [0, 1, 2, 3] [4] rfl rfl (by decide) (by decide) hk1 hFc hP1 hD1
  generalize H1 = H at hP hS ⊢
  have hP := hP.sub (ws' := [(h0, .inr (8, [.ref p1, .ref p2, .ref p3, .ref p4, .ref p5, .ref q1, .ref q2, .ref q3, .ref q4, .int 0, .int 0, .int 4096, .int 0, .long 0, .int 0, .int 0])), (q1, .inr (9, [.int 0])), (q2, .inl (a1, 8, .inl (upd (fun _ => 0) (4 : Int32).toNatClampNeg 131072))), (q3, .inl (a2, 2048, .inl fun _ => 0)), (q4, .inl (a3, 8, .inl fun _ => 0))]) [1, 2, 3, 4, 0] rfl
  have hD := hD.sub (ws' := [(h0, .inr (8, [.ref p1, .ref p2, .ref p3, .ref p4, .ref p5, .ref q1, .ref q2, .ref q3, .ref q4, .int 0, .int 0, .int 4096, .int 0, .long 0, .int 0, .int 0])), (q1, .inr (9, [.int 0])), (q2, .inl (a1, 8, .inl (upd (fun _ => 0) (4 : Int32).toNatClampNeg 131072))), (q3, .inl (a2, 2048, .inl fun _ => 0)), (q4, .inl (a3, 8, .inl fun _ => 0))]) [1, 2, 3, 4, 0] (by decide) rfl
  have hP : va_P (dC, dI) lC.1 [(h0, .inr (8, [.ref p1, .ref p2, .ref p3, .ref p4, .ref p5, .ref q1, .ref q2, .ref q3, .ref q4, .int 0, .int 0, .int 4096, .int 0, .long 0, .int 0, .int 0])), (q1, .inr (9, [.int 0])), (q2, .inl (a1, 8, .inl (upd (fun _ => 0) (4 : Int32).toNatClampNeg 131072))), (q3, .inl (a2, 2048, .inl fun _ => 0)), (q4, .inl (a3, 8, .inl fun _ => 0))] H := hP
  have hD : va_D A [(h0, .inr (8, [.ref p1, .ref p2, .ref p3, .ref p4, .ref p5, .ref q1, .ref q2, .ref q3, .ref q4, .int 0, .int 0, .int 4096, .int 0, .long 0, .int 0, .int 0])), (q1, .inr (9, [.int 0])), (q2, .inl (a1, 8, .inl (upd (fun _ => 0) (4 : Int32).toNatClampNeg 131072))), (q3, .inl (a2, 2048, .inl fun _ => 0)), (q4, .inl (a3, 8, .inl fun _ => 0))] := hD
  refine W.widen (k := 4) (n := 2065) (Nat.le_refl _) (Nat.le_refl _) ?_
  exact W.vret hx hb hr (fun t ht hW => ⟨⟨(), rfl, trivial, q1, q2, q3, q4, a1, a2, a3, by rw [ht]; exact hP, va_K.moved hW.alike hK, hD⟩, hS.F ht⟩) hS.2.2 dX7_init_71
