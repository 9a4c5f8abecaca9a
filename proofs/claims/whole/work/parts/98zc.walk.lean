/-! the law's walk to its loop (printed by wip/whole/gen/walk.py) -/
theorem tw186 : Cond.classLink RL 8 "BundleFence" ∈ gtbl := gtt_1 34 rfl rfl
theorem tw187 : Cond.instantiable "BundleFence" 9 ∈ gtbl := gtt_1 35 rfl rfl
theorem tw188 : Cond.methodLink RL 50 yX11_init ∈ gtbl := gtt_1 36 rfl rfl
theorem tw189 : Cond.instanceMethod yX11_init ∈ gtbl := gtt_1 37 rfl rfl
theorem tw190 : Cond.code yX11_init cX11_init 1 none ∈ gtbl := gtt_1 38 rfl rfl
theorem tw1894 : Cond.classLink RL 51 "BundleFenceModel" ∈ gtbl := gtt_8 62 rfl rfl
theorem tw1895 : Cond.instantiable "BundleFenceModel" 48 ∈ gtbl := gtt_8 63 rfl rfl
theorem tw1896 : Cond.methodLink RL 53 yX12_init ∈ gtbl := gtt_8 64 rfl rfl
theorem tw1897 : Cond.instanceMethod yX12_init ∈ gtbl := gtt_8 65 rfl rfl
theorem tw1898 : Cond.code yX12_init cX12_init 1 none ∈ gtbl := gtt_8 66 rfl rfl
theorem tw2430 : Cond.arrayClass .long ∈ gtbl := gtt_10 118 rfl rfl
theorem known_C {s : State} {args : Array Value} (hts : ∀ w ∈ gtbl, w.before args s = true) : ∃ (dC : Nat → ClassId) (dI : Nat → Nat → Nat), ∀ (c : Nat) (q : vw_C), lC.1[c]? = some q → u_Kn s q.1 q.2.1 q.2.2 (dC c) (dI c) := by
  have h : ∀ c : Nat, ∃ z : ClassId × (Nat → Nat), ∀ q : vw_C, lC.1[c]? = some q → u_Kn s q.1 q.2.1 q.2.2 z.1 z.2 := fun c => by
    have h2 : ∃ (a : ClassId) (b : Nat → Nat), ∀ q : vw_C, lC.1[c]? = some q → u_Kn s q.1 q.2.1 q.2.2 a b := by
      match c with
      | 0 => obtain ⟨a, b, h⟩ := u_known hts inX11 (hts _ tw187); exact ⟨a, b, fun q hq => by cases hq; exact h⟩
      | 1 => obtain ⟨a, b, h⟩ := u_known hts inX4 (hts _ tw195); exact ⟨a, b, fun q hq => by cases hq; exact h⟩
      | 2 => obtain ⟨a, b, h⟩ := u_known hts inX6 (hts _ tw216); exact ⟨a, b, fun q hq => by cases hq; exact h⟩
      | 3 => obtain ⟨a, b, h⟩ := u_known hts inX1 (hts _ tw318); exact ⟨a, b, fun q hq => by cases hq; exact h⟩
      | 4 => obtain ⟨a, b, h⟩ := u_known hts inX5 (hts _ tw349); exact ⟨a, b, fun q hq => by cases hq; exact h⟩
      | 5 => obtain ⟨a, b, h⟩ := u_known hts inX10 (hts _ tw396); exact ⟨a, b, fun q hq => by cases hq; exact h⟩
      | 6 => obtain ⟨a, b, h⟩ := u_known hts inX8 (hts _ tw441); exact ⟨a, b, fun q hq => by cases hq; exact h⟩
      | 7 => obtain ⟨a, b, h⟩ := u_known hts inX3 (hts _ tw459); exact ⟨a, b, fun q hq => by cases hq; exact h⟩
      | 8 => obtain ⟨a, b, h⟩ := u_known hts inX7 (hts _ tw495); exact ⟨a, b, fun q hq => by cases hq; exact h⟩
      | 9 => obtain ⟨a, b, h⟩ := u_known hts inX2 (hts _ tw501); exact ⟨a, b, fun q hq => by cases hq; exact h⟩
      | 10 => obtain ⟨a, b, h⟩ := u_known hts inJ4 (hts _ tw402); exact ⟨a, b, fun q hq => by cases hq; exact h⟩
      | c + 11 => exact ⟨(u_known hts inX11 (hts _ tw187)).choose, fun _ => 0, fun q hq => by have := (List.getElem?_eq_some_iff.mp hq).1; exact absurd this (by show ¬ c + 11 < 11; omega)⟩
    obtain ⟨a, b, h3⟩ := h2
    exact ⟨(a, b), h3⟩
  obtain ⟨f, hf⟩ := Classical.axiomOfChoice h
  exact ⟨fun c => (f c).1, fun c => (f c).2, hf⟩
theorem known_M {s : State} {args : Array Value} (hts : ∀ w ∈ gtbl, w.before args s = true) : ∃ (dC : Nat → ClassId) (dI : Nat → Nat → Nat), ∀ (c : Nat) (q : vw_C), lM.1[c]? = some q → u_Kn s q.1 q.2.1 q.2.2 (dC c) (dI c) := by
  obtain ⟨a, b, h⟩ := u_known hts inX12 (hts _ tw1895)
  refine ⟨fun _ => a, fun _ => b, fun c q hq => ?_⟩
  have hc := (List.getElem?_eq_some_iff.mp hq).1
  have : c = 0 := by have : c < 1 := hc; omega
  subst this
  cases hq
  exact h
theorem arr_cls {s : State} {args : Array Value} {ty : FieldType} (h : (Cond.arrayClass ty).before args s = true) : ∃ c : ClassId, s.vm.findClass ("[" ++ ty.toString) = some c ∧ ArrOfT s c ty := by
  obtain ⟨c, k, comp, h1, h2, h3⟩ := Cond.arrayClass_spec h
  exact ⟨c, h1, fun n z => ⟨fun k h => (by cases h), k, h2, comp, h3⟩⟩
theorem d_ins {A : Nat → Prop} {a c : va_W} {n : Nat} {e : va_E} (h : va_D A (a ++ c)) (hlt : ∀ (k : Nat) (q : Nat × va_E), (a ++ c)[k]? = some q → q.1 < n) (hn : A n) : va_D A ((a ++ [(n, e)]) ++ c) := by
  have left : ∀ (k : Nat) (q : Nat × va_E), a[k]? = some q → (a ++ c)[k]? = some q := fun k q h => by rw [List.getElem?_append_left (List.getElem?_eq_some_iff.mp h).1]; exact h
  have right : ∀ (k : Nat) (q : Nat × va_E), c[k]? = some q → (a ++ c)[a.length + k]? = some q := fun k q h => by rw [List.getElem?_append_right (by omega), Nat.add_sub_cancel_left]; exact h
  have one : ∀ (k : Nat) (q : Nat × va_E), [(n, e)][k]? = some q → q.1 = n := fun k q hq => by
    have hk : k < 1 := (List.getElem?_eq_some_iff.mp hq).1
    rw [show k = 0 by omega] at hq
    cases hq
    rfl
  refine va_D.app (va_D.app ⟨fun i j p q h1 h2 h3 => h.1 i j p q (left i p h1) (left j q h2) h3, fun k q hq => h.2 k q (left k q hq)⟩ ⟨fun i j p q h1 h2 h3 => ?_, fun k q hq => by rw [one k q hq]; exact hn⟩ (fun i j x y hx hy hxy => ?_)) ⟨fun i j p q h1 h2 h3 => ?_, fun k q hq => h.2 _ q (right k q hq)⟩ (fun i j x y hx hy hxy => ?_)
  · have := (List.getElem?_eq_some_iff.mp h1).1
    have := (List.getElem?_eq_some_iff.mp h2).1
    have h5 : i < 1 := by assumption
    have h6 : j < 1 := by assumption
    omega
  · have h1 := hlt i x (left i x hx)
    rw [hxy, one j y hy] at h1
    omega
  · have := h.1 _ _ p q (right i p h1) (right j q h2) h3
    omega
  · by_cases hi : i < a.length
    · rw [List.getElem?_append_left hi] at hx
      have := h.1 _ _ x y (left i x hx) (right j y hy) hxy
      omega
    · rw [List.getElem?_append_right (Nat.not_lt.mp hi)] at hx
      have h1 := hlt _ y (right j y hy)
      rw [← hxy, one _ x hx] at h1
      omega
section WLK
variable {p : Program} {l : Launch} {e : Env} {R : Room} {s : State} {m : MethodId} {args : Array Value} {below : List Frame} {meth : Method} {c : Code} {H H0 : Heap} {locs : List Loc} {cells slots : Nat} {Q : State → Prop} {pc : Nat} {ls : Array Slot} {rest : List Value} {cc : ByteArray} {A : Nat → Prop} {D : va_G} {cl : List vw_C} {tys : List (ClassId × FieldType)}
theorem law_new {own C : String} {T : u_T} {N ci index : Nat} {Ts : List Cond} (hexec : p.tables.exec = Jvm.exec) (hb : c.code = cc) (hts : ∀ w ∈ Ts, w.before args s = true) (hin : ∀ w ∈ u_ws C T N, w ∈ Ts) (ty : Nat → FieldType) (hty : ∀ k, k < N → parseFieldDescriptor (T k).2.2.1 = some (ty k)) (hown : s.vm.findClass own = some m.cls) (hcl : (Cond.classLink own index C).before args s = true) (hinst : (Cond.instantiable C N).before args s = true) (hini : (Cond.initialized C).before args s = true)
    (hK : va_K D cl tys s) (hS : va_S A H0 H locs) (hA : ∀ q, H0.size ≤ q → A q) (hc : cl[ci]? = some (C, T, N)) {fs : List Value} (hfs : ∀ j, j < N → defaultValue (ty j) = vp_V fs j) (hcells : cells + 1 ≤ R.cells) (hslots : slots + N ≤ R.slots) (hdg : decode cc pc = .ok (.new index, 3))
    (kk : ∀ (H1 : Heap), va_P D cl [(H.size, .inr (ci, fs))] H1 → va_D A [(H.size, .inr (ci, fs))] → va_S A H0 H1 locs → H1.size = H.size + 1 → (∀ z : Nat, z < H.size → H1[z]? = H[z]?) → W p l e R s m args below meth c H1 locs (cells + 1) (slots + N) Q (F0 m (pc + 3) ls (.ref H.size :: rest))) : W p l e R s m args below meth c H locs cells slots Q (F0 m pc ls rest) := by
  have hKn := hK.1 ci _ hc
  refine W.newcK hexec hb hown hcl hinst hini rfl hdg hcells hslots hKn.2.1 rfl fun H1 kC hkC e1 z1 o1 => ?_
  refine kk H1 (fun k x hx => ?_) ⟨fun i j p q h1 h2 h3 => ?_, fun k q hq => ?_⟩ ⟨Nat.le_trans hS.1 (by omega), fun x h1 h2 => (o1 x (Nat.lt_of_lt_of_le h1 hS.1)).trans (hS.2.1 x h1 h2), hS.2.2⟩ z1 o1
  · have hz : k < 1 := (List.getElem?_eq_some_iff.mp hx).1
    rw [show k = 0 by omega] at hx
    cases hx
    exact ⟨_, hc, (u_born ty hts hin hKn hkC e1 hty).to hfs⟩
  · have h5 : i < 1 := (List.getElem?_eq_some_iff.mp h1).1
    have h6 : j < 1 := (List.getElem?_eq_some_iff.mp h2).1
    omega
  · have hz : k < 1 := (List.getElem?_eq_some_iff.mp hq).1
    rw [show k = 0 by omega] at hq
    cases hq
    exact hA _ hS.1
set_option maxHeartbeats 4000000 in
set_option maxRecDepth 20000 in
theorem law_walk {b L : Nat} {xs : Nat → Int32} {ad : Nat → Nat} (S : CallFix p m c cL_law 7 s args gtbl RL) (hfl : l.flags = flags0) (hXs : va_X b L xs s s.heap) (hbl : b < s.heap.size) (hL : L ≤ 256)
    (hSC : ∀ G : xG, (∀ k, 1000 ≤ k → G.2.2 k = ad k) → stC G (fun q => s.heap.size ≤ q) s s.heap) (hSM : ∀ G : xG, (∀ k, 1000 ≤ k → G.2.2 k = ad k) → stM G (fun q => s.heap.size ≤ q) s s.heap) (hX : stX (fun q => s.heap.size ≤ q) s s.heap)
    (hZ : va_Z "BundleFence$Op" "NOP" "LBundleFence$Op;" (.ref (ad 2050)) (fun q => s.heap.size ≤ q) s s.heap) (hCS : va_Z "java/lang/String" "COMPACT_STRINGS" "Z" (.int 1) (fun q => s.heap.size ≤ q) s s.heap)
    (hN0 : va_Nw (.methodLinkNest "BundleFence" 9 ⟨"BundleFence$Image", "<init>", "()V"⟩ "BundleFence") s) (hN1 : va_Nw (.methodLinkNest "BundleFence" 18 ⟨"BundleFence$Instruction", "<init>", "()V"⟩ "BundleFence") s) (hN2 : va_Nw (.methodLinkNest "BundleFence$Machine" 11 ⟨"BundleFence$Flags", "<init>", "()V"⟩ "BundleFence") s)
    (hend : ∀ (H : Heap) (locs : List Loc) (ls : Array Slot) (cl sl : Nat), va_S (fun q => s.heap.size ≤ q) s.heap H locs → cl ≤ 600128 → sl ≤ 7301098 → W p l e room_1 s m args below meth c H locs cl sl Q (F0 m 1062 ls [])) :
    W p l e room_1 s m args below meth c s.heap [] 0 0 Q (entryFrame m ([Value.ref b] : List Value).toArray 7) := by
  have hx := S.1
  have hb := S.2.1
  have hown := S.2.2.2.1
  have hts := S.2.2.2.2
  have hA : ∀ q : Nat, s.heap.size ≤ q → (fun q => s.heap.size ≤ q) q := fun q h => h
  generalize hAe : (fun q => s.heap.size ≤ q : Nat → Prop) = A at *
  obtain ⟨dC, dI, hKC⟩ := known_C hts
  obtain ⟨dM, iM, hKM⟩ := known_M hts
  obtain ⟨ci, hci, hti⟩ := arr_cls (hts _ tw394)
  obtain ⟨cb, hcb, htb⟩ := arr_cls (hts _ tw214)
  obtain ⟨cz, hcz, htz⟩ := arr_cls (hts _ tw601)
  obtain ⟨cL, hcL, htL⟩ := arr_cls (hts _ tw2430)
  obtain ⟨cA, hcA⟩ : ∃ cA : Nat → ClassId, cA = fun k => match k with | 0 => ci | 1 => cb | 2 => cz | _ => cL := ⟨_, rfl⟩
  have ht4 : ∀ (k : Nat) (q : ClassId × FieldType), (xtys cA)[k]? = some q → ArrOfT s q.1 q.2 ∧ va_RA s q.1 q.2 := fun k q hq => by
    rw [hcA] at hq
    match k, hq with
    | 0, hq => cases hq; exact ⟨hti, hci⟩
    | 1, hq => cases hq; exact ⟨htb, hcb⟩
    | 2, hq => cases hq; exact ⟨htz, hcz⟩
    | 3, hq => cases hq; exact ⟨htL, hcL⟩
    | k + 4, hq => exact absurd (List.getElem?_eq_some_iff.mp hq).1 (by show ¬ k + 4 < 4; omega)
  have hK0 : va_K (dC, dI) lC.1 [] s := ⟨hKC, fun k q hq => by cases hq⟩
  have hK1 : va_K (dM, iM) lM.1 [] s := ⟨hKM, fun k q hq => by cases hq⟩
  have hKA : ∀ t : State, s.vm.Alike t.vm → ∀ a, (va_RA t a .int → a = cA 0) ∧ (va_RA t a .byte → a = cA 1) ∧ (va_RA t a .boolean → a = cA 2) := fun t ht a => by
    rw [hcA]
    refine ⟨fun h => ?_, fun h => ?_, fun h => ?_⟩
    · have h1 : t.vm.findClass ("[" ++ FieldType.int.toString) = some a := h
      rw [ht.findClass, hci] at h1
      exact (Option.some.inj h1).symm
    · have h1 : t.vm.findClass ("[" ++ FieldType.byte.toString) = some a := h
      rw [ht.findClass, hcb] at h1
      exact (Option.some.inj h1).symm
    · have h1 : t.vm.findClass ("[" ++ FieldType.boolean.toString) = some a := h
      rw [ht.findClass, hcz] at h1
      exact (Option.some.inj h1).symm
  have hl := lv_entry ([.ref b]) (n := 7) (Nat.le_of_ble_eq_true rfl)
  rw [lg_entry_eq]
  generalize (lg_sl ([.ref b]) ++ List.replicate (7 - (lg_sl ([.ref b])).length) Slot.unset).toArray = ls at hl ⊢
  have hl : lv_has ls 7 [(0, .ref b)] := hl
  -- the class
  refine law_new (ci := 0) (fs := [.null, .null, .null, .null, .null, .null, .null, .null, .null]) (C := RX11) (T := TX11) (N := 9) hx hb hts inX11 tyX11 tyX11_ok hown (hts _ tw186) (hts _ tw187) (hts _ tw153) hK0 va_S.rf hA rfl (fun j hj => by rcases (show j = 0 ∨ j = 1 ∨ j = 2 ∨ j = 3 ∨ j = 4 ∨ j = 5 ∨ j = 6 ∨ j = 7 ∨ j = 8 by omega) with rfl | rfl | rfl | rfl | rfl | rfl | rfl | rfl | rfl <;> rfl) (Nat.le_of_ble_eq_true rfl) (Nat.le_of_ble_eq_true rfl) dL_law_0 (fun H1 hP hD hS hz1 hk1 => ?_)
  refine lv_dup hx hb dL_law_3 rfl ?_
  have hF : ∀ q : Nat, va_A [(s.heap.size, .inr (0, [.null, .null, .null, .null, .null, .null, .null, .null, .null]))] H1.size q → A q := fun q h => by
    rcases h with ⟨k, e, h⟩ | h
    · have hz : k < 1 := (List.getElem?_eq_some_iff.mp h).1
      rw [show k = 0 by omega] at h
      cases h
      exact hA _ (Nat.le_refl _)
    · exact hA _ (by omega)
  refine va_callv (va_runI (As := []) (rest := [.ref s.heap.size]) (n := 0) (own := RL) (Ts := gtbl) (bytes := cX11_init) (maxL := 1) (index := 50) S (c_X11_init l dC dI s.heap.size H1.size (ad 2050)) ⟨callB_of 0 hts (xgood (M2 := mX11_init) hts tw190) rfl rfl rfl (hts _ tw153) (hts _ tw188) ⟨by decide, by decide, by decide +kernel⟩ ⟨Nat.le_of_ble_eq_true rfl, Nat.le_of_ble_eq_true rfl⟩, rfl, hts _ tw189⟩ ⟨fun a U g mk q => by obtain ⟨q0, q1, qP, qK, qD, qZ0, qZ1, qN0, qN1, qN2⟩ := q; exact ⟨q0, q1, qP, va_K.moved (u := U) (U := U.calling g mk a) (Vm.Alike.refl U.vm) qK, qD, va_Z.moved (Vm.Alike.refl U.vm) qZ0, va_Z.moved (Vm.Alike.refl U.vm) qZ1, va_tabs (A := #[]) (u := U) rfl rfl qN0, va_tabs (A := #[]) (u := U) rfl rfl qN1, va_tabs (A := #[]) (u := U) rfl rfl qN2⟩, fun U hU hW => ⟨rfl, by rw [hU], by rw [hU]; exact hP, va_K.moved hW.alike hK0, hD.weaken (fun _ _ _ _ => trivial), va_Zcall hZ hS hF U hU hW.alike, va_Zcall hCS hS hF U hU hW.alike, va_Nw.warmM hW hN0, va_Nw.warmM hW hN1, va_Nw.warmM hW hN2⟩⟩ rfl rfl hl.1 rfl (lv_room (Nat.le_of_ble_eq_true rfl)) dL_law_4 ⟨Nat.le_of_ble_eq_true rfl, Nat.le_of_ble_eq_true rfl⟩) hS (fun q _ h => hF q h) hF (fun u t H2 locs2 ht hvm _ hB hz2 hk2 hS2 => ?_)
  obtain ⟨Gc, ex, g1, g2, g3, g4, hP2, hD2, hE2⟩ := start_c (ad := ad) (hKA t hvm) hB
  rw [ht] at hP2
  have hD2 : va_D A (xws lC Gc w00 ++ ex) := hD2.weaken (fun k q _ h => hF q.1 h)
  refine lv_astore_n (lv' := [(1, .ref s.heap.size), (0, .ref b)]) hx hb dL_law_7 rfl hl (by decide) rfl (fun ls1 hl1 => ?_)
  -- the reference
  refine law_new (ci := 0) (fs := [.int 0, .null, .int 0, .null, .null, .int 0, .int 0, .null, .int 0, .int 0, .int 0, .int 0, .null, .null, .null, .null, .int 0, .int 0, .int 0, .int 0, .int 0, .int 0, .int 0, .int 0, .int 0, .int 0, .int 0, .int 0, .int 0, .int 0, .int 0, .int 0, .int 0, .int 0, .int 0, .null, .int 0, .int 0, .int 0, .int 0, .int 0, .int 0, .int 0, .int 0, .long 0, .int 0, .int 0, .null]) (C := RX12) (T := TX12) (N := 48) hx hb hts inX12 tyX12 tyX12_ok hown (hts _ tw1894) (hts _ tw1895) (hts _ tw169) hK1 hS2 hA rfl (fun j hj => by rcases (show j = 0 ∨ j = 1 ∨ j = 2 ∨ j = 3 ∨ j = 4 ∨ j = 5 ∨ j = 6 ∨ j = 7 ∨ j = 8 ∨ j = 9 ∨ j = 10 ∨ j = 11 ∨ j = 12 ∨ j = 13 ∨ j = 14 ∨ j = 15 ∨ j = 16 ∨ j = 17 ∨ j = 18 ∨ j = 19 ∨ j = 20 ∨ j = 21 ∨ j = 22 ∨ j = 23 ∨ j = 24 ∨ j = 25 ∨ j = 26 ∨ j = 27 ∨ j = 28 ∨ j = 29 ∨ j = 30 ∨ j = 31 ∨ j = 32 ∨ j = 33 ∨ j = 34 ∨ j = 35 ∨ j = 36 ∨ j = 37 ∨ j = 38 ∨ j = 39 ∨ j = 40 ∨ j = 41 ∨ j = 42 ∨ j = 43 ∨ j = 44 ∨ j = 45 ∨ j = 46 ∨ j = 47 by omega) with rfl | rfl | rfl | rfl | rfl | rfl | rfl | rfl | rfl | rfl | rfl | rfl | rfl | rfl | rfl | rfl | rfl | rfl | rfl | rfl | rfl | rfl | rfl | rfl | rfl | rfl | rfl | rfl | rfl | rfl | rfl | rfl | rfl | rfl | rfl | rfl | rfl | rfl | rfl | rfl | rfl | rfl | rfl | rfl | rfl | rfl | rfl | rfl <;> rfl) (Nat.le_of_ble_eq_true rfl) (Nat.le_of_ble_eq_true rfl) dL_law_8 (fun H3 hP3 hD3 hS3 hz3 hk3 => ?_)
  refine lv_dup hx hb dL_law_11 rfl ?_
  have hF3 : ∀ q : Nat, va_A [(H2.size, .inr (0, [.int 0, .null, .int 0, .null, .null, .int 0, .int 0, .null, .int 0, .int 0, .int 0, .int 0, .null, .null, .null, .null, .int 0, .int 0, .int 0, .int 0, .int 0, .int 0, .int 0, .int 0, .int 0, .int 0, .int 0, .int 0, .int 0, .int 0, .int 0, .int 0, .int 0, .int 0, .int 0, .null, .int 0, .int 0, .int 0, .int 0, .int 0, .int 0, .int 0, .int 0, .long 0, .int 0, .int 0, .null]))] H3.size q → A q := fun q h => by
    rcases h with ⟨k, e, h⟩ | h
    · have hz : k < 1 := (List.getElem?_eq_some_iff.mp h).1
      rw [show k = 0 by omega] at h
      cases h
      exact hA _ hS2.1
    · exact hA _ (Nat.le_trans hS3.1 h)
  have hlt2 : ∀ (k : Nat) (q : Nat × va_E), (xws lC Gc w00 ++ ex)[k]? = some q → q.1 < H2.size := fun k q hq => (hP2 k q hq).lt
  have hD23 : va_D A ([(H2.size, .inr (0, [.int 0, .null, .int 0, .null, .null, .int 0, .int 0, .null, .int 0, .int 0, .int 0, .int 0, .null, .null, .null, .null, .int 0, .int 0, .int 0, .int 0, .int 0, .int 0, .int 0, .int 0, .int 0, .int 0, .int 0, .int 0, .int 0, .int 0, .int 0, .int 0, .int 0, .int 0, .int 0, .null, .int 0, .int 0, .int 0, .int 0, .int 0, .int 0, .int 0, .int 0, .long 0, .int 0, .int 0, .null]))] ++ (xws lC Gc w00 ++ ex)) := by
    refine va_D.app hD3 hD2 (fun i j x y hx hy hxy => ?_)
    have hz : i < 1 := (List.getElem?_eq_some_iff.mp hx).1
    rw [show i = 0 by omega] at hx
    cases hx
    have := hlt2 j y hy
    rw [← hxy] at this
    exact Nat.lt_irrefl _ this
  refine va_callv (va_runI (As := []) (rest := [.ref H2.size]) (n := 0) (own := RL) (Ts := gtbl) (bytes := cX12_init) (maxL := 1) (index := 53) S (c_X12_init l dM iM H2.size H3.size) ⟨callB_of 0 hts (xgood (M2 := mX12_init) hts tw1898) rfl rfl rfl (hts _ tw169) (hts _ tw1896) ⟨by decide, by decide, by decide +kernel⟩ ⟨Nat.le_of_ble_eq_true rfl, Nat.le_of_ble_eq_true rfl⟩, rfl, hts _ tw1897⟩ ⟨fun a U g mk q => by obtain ⟨q0, q1, qP, qK, qD⟩ := q; exact ⟨q0, q1, qP, va_K.moved (u := U) (U := U.calling g mk a) (Vm.Alike.refl U.vm) qK, qD⟩, fun U hU hW => ⟨rfl, by rw [hU], by rw [hU]; exact hP3, va_K.moved hW.alike hK1, hD3.weaken (fun _ _ _ _ => trivial)⟩⟩ rfl rfl hl1.1 rfl (lv_room (Nat.le_of_ble_eq_true rfl)) dL_law_12 ⟨Nat.le_of_ble_eq_true rfl, Nat.le_of_ble_eq_true rfl⟩) hS3 (fun q _ h => hF3 q h) hF3 (fun u4 t4 H4 locs4 ht4' hvm4 _ hB4 hz4 hk4 hS4 => ?_)
  obtain ⟨Gm, m1, m2, m3, m4, hP4, hD4⟩ := start_m (ad := ad) (hKA t4 hvm4) hB4
  rw [ht4'] at hP4
  obtain ⟨d1, d2⟩ := dj hD23 (fun k q hq => by have := hlt2 k q hq; omega) hF3 hD4
  have hP24 : va_P Gc.1 (xcl lC) (xws lC Gc w00 ++ ex) H4 := fun k q hq => ((hP2 k q hq).kept (hk3 _ (hlt2 k q hq))).kept (hk4 _ (by have := hlt2 k q hq; omega) (d2 k q hq))
  refine lv_astore_n (lv' := [(2, .ref H2.size), (1, .ref s.heap.size), (0, .ref b)]) hx hb dL_law_15 rfl hl1 (by decide) rfl (fun ls2 hl2 => ?_)
  refine lv_iconst (v := 1) hx hb dL_law_16 (by decide) ?_
  refine va_newaK (atype := .long) (N := 1) hx hb (hts _ tw2430) rfl dL_law_17 rfl (by decide) (by decide) (by decide) (Nat.le_of_ble_eq_true rfl) (Nat.le_of_ble_eq_true rfl) rfl (fun H5 cA5 e5 z5 o5 hAr hNm => ?_)
  have hc5 : cA5 = cA 3 := by
    have h1 : s.vm.findClass ("[" ++ FieldType.long.toString) = some cA5 := hNm
    rw [hcL] at h1
    rw [hcA]
    exact (Option.some.inj h1).symm
  subst hc5
  have hS5 : va_S A s.heap H5 locs4 := ⟨Nat.le_trans hS4.1 (by omega), fun x h1 h2 => (o5 x (Nat.lt_of_lt_of_le h1 hS4.1)).trans (hS4.2.1 x h1 h2), hS4.2.2⟩
  have hP5 : lwP Gc Gm H4.size (fun _ => 0) w00 m00 ex A s.heap H5 locs4 := by
    refine ⟨fun k q hq => (hP24 k q hq).kept (o5 _ (hP24 k q hq).lt), fun k q hq => ?_, fun k q hq => (hP4 k q hq).kept (o5 _ (hP4 k q hq).lt), d_ins (dswap d1) (fun k q hq => ?_) (hA _ hS4.1), hS5, hE2⟩
    · have hz : k < 1 := (List.getElem?_eq_some_iff.mp hq).1
      rw [show k = 0 by omega] at hq
      cases hq
      show H5[H4.size]? = some (vp_cell (Gc.2.1 3) (1, .inr (.inl fun _ => 0)))
      rw [g2]
      exact e5
    · by_cases hi : k < (xws lC Gc w00 ++ ex).length
      · rw [List.getElem?_append_left hi] at hq; exact (hP24 k q hq).lt
      · rw [List.getElem?_append_right (Nat.not_lt.mp hi)] at hq; exact (hP4 _ q hq).lt
  show W p l e room_1 s m args below meth c H5 locs4 _ _ Q (F0 m 19 ls2 [.ref H4.size])
  refine lv_astore_n (lv' := [(3, .ref H4.size), (2, .ref H2.size), (1, .ref s.heap.size), (0, .ref b)]) hx hb dL_law_19 rfl hl2 (by decide) rfl (fun ls3 hl3 => ?_)
  refine lv_iconst (v := 0) hx hb dL_law_20 (by decide) ?_
  refine lv_istore (nL := 7) (lv' := [(4, .int 0), (3, .ref H4.size), (2, .ref H2.size), (1, .ref s.heap.size), (0, .ref b)]) hx hb dL_law_21 hl3 (by decide) rfl (fun ls4 hl4 => ?_)
  have hXL : LX p l s m args c cL_law Gc Gm A := ⟨S, hfl, ⟨⟨by rw [g1]; exact hKC, by rw [g2]; exact ht4⟩, ⟨by rw [m1]; exact hKM, by rw [m2]; exact ht4⟩⟩, hSC Gc g4, hSM Gm m4, hX, hA⟩
  refine law_loop hXL hXs hbl (by rw [← hAe]; exact Nat.not_le.mpr hbl) hL hend 64 0 (fun _ => 0) 0 w00 m00 ex (fun _ => 0) H5 locs4 ls4 _ _ (by omega) (by omega) hP5 start_KR ?_ (Nat.le_of_ble_eq_true rfl) (Nat.le_of_ble_eq_true rfl)
  rw [g3, m3]
  exact lv_sub hl4 [4, 3, 2, 1, 0] rfl
end WLK
