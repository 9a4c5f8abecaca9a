/-! the facts at the start of the law (printed by wip/whole/gen/facts.py) -/
theorem st_p : lw_tbl[1026]? = some (.selects "java/lang/StringBuilder" ⟨"java/lang/AbstractStringBuilder", "isLatin1", "()Z"⟩ ⟨"java/lang/AbstractStringBuilder", "isLatin1", "()Z"⟩) ∧ lw_tbl[991]? = some (.privateMethod ⟨"java/lang/AbstractStringBuilder", "ensureCapacityInternal", "(I)V"⟩) ∧ lw_tbl[992]? = some (.instanceMethod ⟨"java/lang/AbstractStringBuilder", "ensureCapacityInternal", "(I)V"⟩) ∧ lw_tbl[995]? = some (.privateMethod ⟨"java/lang/AbstractStringBuilder", "newCapacity", "(I)I"⟩) ∧ lw_tbl[996]? = some (.instanceMethod ⟨"java/lang/AbstractStringBuilder", "newCapacity", "(I)I"⟩) ∧ lw_tbl[1064]? = some (.privateMethod ⟨"java/lang/AbstractStringBuilder", "putStringAt", "(ILjava/lang/String;)V"⟩) ∧ lw_tbl[1065]? = some (.instanceMethod ⟨"java/lang/AbstractStringBuilder", "putStringAt", "(ILjava/lang/String;)V"⟩) ∧ lw_tbl[1068]? = some (.privateMethod ⟨"java/lang/AbstractStringBuilder", "inflateIfNeededFor", "(Ljava/lang/String;)V"⟩) ∧ lw_tbl[1069]? = some (.instanceMethod ⟨"java/lang/AbstractStringBuilder", "inflateIfNeededFor", "(Ljava/lang/String;)V"⟩) := by decide +kernel
/-- a private method of the superclass is the one that a call finds -/
theorem sel_priv {C : String} {y0 y : MethodName} {s : State} {args : Array Value} (hy : y.cls ≠ "java/lang/invoke/MethodHandle" ∧ y.cls ≠ "java/lang/invoke/VarHandle") (h0 : (Cond.selects C y0 y0).before args s = true) (hc : y.cls = y0.cls)
    (hpriv : (Cond.privateMethod y).before args s = true) (hinst : (Cond.instanceMethod y).before args s = true) : (Cond.selects C y y).before args s = true := by
  obtain ⟨c, r0, m0, h1, -, h3, -, k0, h5, h6⟩ := Cond.selects_spec h0
  obtain ⟨mk, methM, hnamed, hmethM, -, -⟩ := Cond.instanceMethod_spec hinst
  have hfound : s.methodFound? y.cls y.name y.desc = some mk := State.methodFound?_of_named hnamed hy
  have hcls : mk.cls = m0.cls := by
    have e1 := findClass_of_methodNamed hnamed
    rw [hc] at e1
    exact Option.some.inj (e1.symm.trans (findClass_of_methodNamed h3))
  have hsel : selectMethod {} s.vm c mk = .method mk := selectMethod_private hmethM (Cond.privateMethod_at hpriv mk methM hnamed hmethM)
  have hk : s.vm.classes[mk.cls]? = some k0 := by rw [hcls]; exact h5
  simp only [Cond.before, Cond.holds, Cond.value, h1, hfound, hnamed, hsel, hk]
  simp; exact h6
theorem tbw {args : Array Value} {s : State} (h : ∀ w ∈ lw_tbl, w.before args s = true) {c : Cond} (i : Nat) (hc : lw_tbl[i]? = some c) : c.before args s = true := h c (List.mem_of_getElem? hc)
theorem gt_all {args : Array Value} {s : State} (h : ∀ w ∈ lw_tbl, w.before args s = true) : ∀ w ∈ gtbl, w.before args s = true := fun w hw => by
  rcases List.mem_append.mp hw with hw | hw
  · exact h w (List.mem_filter.mp hw).1
  · obtain ⟨h0, a1, b1, a2, b2, a3, b3, a4, b4⟩ := st_p
    have key : ∀ y : MethodName, y.cls = "java/lang/AbstractStringBuilder" → (Cond.privateMethod y).before args s = true → (Cond.instanceMethod y).before args s = true → (Cond.selects "java/lang/StringBuilder" y y).before args s = true := fun y hy hp hi =>
      sel_priv (y0 := ⟨"java/lang/AbstractStringBuilder", "isLatin1", "()Z"⟩) (by rw [hy]; exact ⟨by decide, by decide⟩) (tbw h _ h0) hy hp hi
    unfold lw_ext at hw
    simp only [List.map_cons, List.map_nil, List.mem_cons, List.not_mem_nil, or_false] at hw
    rcases hw with rfl | rfl | rfl | rfl
    · exact key _ rfl (tbw h _ a1) (tbw h _ b1)
    · exact key _ rfl (tbw h _ a2) (tbw h _ b2)
    · exact key _ rfl (tbw h _ a3) (tbw h _ b3)
    · exact key _ rfl (tbw h _ a4) (tbw h _ b4)
theorem va_T_ext {ty : FieldType} {t N : Nat} {f g : Nat → Value} {A : Nat → Prop} {U : State} {H : Heap} (h : va_T ty t N f A U H) (hf : ∀ j, j < N → g j = f j) : va_T ty t N g A U H := by
  obtain ⟨cell, h1, h2, h3, h4, h5, h6, h7⟩ := h
  exact ⟨cell, h1, h2, h3, h4, h5, fun j hj => by rw [hf j hj]; exact h6 j hj, h7⟩
theorem va_OF_one {o n d : String} {v v2 : Value} {t : Nat} {A : Nat → Prop} {U : State} {H : Heap} (h : va_OF o n d v t A U H) (h2 : va_OF o n d v2 t A U H) : v = v2 := by
  obtain ⟨cf, k, i, f, cell, a1, a2, a3, a4, a5, a6⟩ := h
  obtain ⟨cf', k', i', f', cell', b1, b2, b3, b4, b5, b6⟩ := h2
  rw [a1] at b1
  cases b1
  rw [a3] at b3
  cases b3
  rw [a5] at b5
  exact Option.some.inj b5
theorem or_inj : ∀ i, i < 54 → ∀ j, j < 54 → opOrL.getD i 0 = opOrL.getD j 0 → i = j := by decide +kernel
theorem range_at {α : Type} (n : Nat) (f : Nat → α) {j : Nat} (hj : j < n) : ((List.range n).map f)[j]? = some (f j) := by
  rw [List.getElem?_map, List.getElem?_range hj]; rfl
section FACTS
variable {args : Array Value} {s : State}
theorem arr_of {C n d : String} {ty : FieldType} {N b : Nat} {f : Nat → Value} {tm : Nat → Term} (htl : ∀ w ∈ lw_tbl, w.before args s = true) (hg : (Jvm.Cond.and given_1 narrow_1).before args s = true) (hN : N < 2 ^ 31) (i1 i2 i3 i4 : Nat) (h1 : lw_tbl[i1]? = some (.laysStatic C n d)) (h2 : lw_tbl[i2]? = some (.initialized C)) (h3 : flF[i3]? = some (.arrayOf (.static C n d) ty)) (h4 : flF[i4]? = some (.eq (.length (.static C n d)) (.int (Int32.ofNat N))))
    (h5 : (flF.drop b).take N = (List.range N).map (fun i => Cond.eq (.elem (.static C n d) (.int (Int32.ofNat i))) (tm i))) (h6 : ∀ i, i < N → (tm i).eval args s none [] s = some (f i)) : ∃ t : Nat, va_Z C n d (.ref t) (fun q => s.heap.size ≤ q) s s.heap ∧ va_T ty t N f (fun q => s.heap.size ≤ q) s s.heap := by
  have hA : ∀ a : Nat, a < s.heap.size → ¬ (fun q => s.heap.size ≤ q) a := fun a h => Nat.not_le.mpr h
  obtain ⟨t, e1, e2⟩ := va_Tof (f := f) (A := fun q => s.heap.size ≤ q) hN (fl_b hg i3 h3) (va_eqt (fl_b hg i4 h4)) (fun j hj => va_eqv (fl_b hg (b + j) (seg_at h5 (range_at N _ hj))) (h6 j hj)) hA
  exact ⟨t, va_Zof (tbw htl i1 h1) (tbw htl i2 h2) e1 hA, e2⟩
theorem str_all (hg : (Jvm.Cond.and given_1 narrow_1).before args s = true) : ∃ adK adV : Nat → Nat, ∀ i, i < strN → (sTm i).eval args s none [] s = some (.ref (adK i)) ∧ va_O "java/lang/String" (adK i) (fun q => s.heap.size ≤ q) s s.heap ∧ va_OF "java/lang/String" "coder" "B" (.int 0) (adK i) (fun q => s.heap.size ≤ q) s s.heap ∧ va_OF "java/lang/String" "value" "[B" (.ref (adV i)) (adK i) (fun q => s.heap.size ≤ q) s s.heap ∧ va_T .byte (adV i) (strLenN i) (fun j => .int (strCh i j)) (fun q => s.heap.size ≤ q) s s.heap := by
  have hA : ∀ a : Nat, a < s.heap.size → ¬ (fun q => s.heap.size ≤ q) a := fun a h => Nat.not_le.mpr h
  have h0 : ∀ i : Nat, ∃ z : Nat × Nat, i < strN → (sTm i).eval args s none [] s = some (.ref z.1) ∧ va_O "java/lang/String" z.1 (fun q => s.heap.size ≤ q) s s.heap ∧ va_OF "java/lang/String" "coder" "B" (.int 0) z.1 (fun q => s.heap.size ≤ q) s s.heap ∧ va_OF "java/lang/String" "value" "[B" (.ref z.2) z.1 (fun q => s.heap.size ≤ q) s s.heap ∧ va_T .byte z.2 (strLenN i) (fun j => .int (strCh i j)) (fun q => s.heap.size ≤ q) s s.heap := by
    intro i
    by_cases hi : i < strN
    · obtain ⟨s1, s2, s3, s4⟩ := st_s i hi
      obtain ⟨a, c, cA, kA, q1, q2, q3, q4, q5, q6, -⟩ := Cond.exactly_spec (args := args) (first := s) (o := none) (s := s) (idx := []) (t := sTm i) (cls := "java/lang/String") (fl_b hg _ s1)
      obtain ⟨t, ht, hT⟩ := va_Tof (f := fun j => .int (strCh i j)) (A := fun q => s.heap.size ≤ q) (by have := (strOk i hi).1; omega) (fl_b hg _ s3) (va_eqt (fl_b hg _ s4)) (fun j hj => va_eqt (fl_b hg (sB i + 4 + j) (seg_at (st_c i hi) (range_at _ _ hj)))) hA
      exact ⟨(a, t), fun _ => ⟨q1, ⟨cA, q3, q5, by rw [q6]; exact q2, hA a (Array.getElem?_eq_some_iff.mp q3).1⟩, vk_OFof q1 (va_eqt (fl_b hg _ s2)) hA, vk_OFof q1 ht hA, hT⟩⟩
    · exact ⟨(0, 0), fun h => absurd h hi⟩
  obtain ⟨ad, had⟩ := Classical.axiomOfChoice h0
  exact ⟨fun i => (ad i).1, fun i => (ad i).2, had⟩
theorem enum_all (hg : (Jvm.Cond.and given_1 narrow_1).before args s = true) : ∃ adE : Nat → Nat, ∀ i, i < 54 → (oTm i).eval args s none [] s = some (.ref (adE i)) ∧ va_O "BundleFence$Op" (adE i) (fun q => s.heap.size ≤ q) s s.heap := by
  have hA : ∀ a : Nat, a < s.heap.size → ¬ (fun q => s.heap.size ≤ q) a := fun a h => Nat.not_le.mpr h
  have h0 : ∀ i : Nat, ∃ z : Nat, i < 54 → (oTm i).eval args s none [] s = some (.ref z) ∧ va_O "BundleFence$Op" z (fun q => s.heap.size ≤ q) s s.heap := by
    intro i
    by_cases hi : i < 54
    · obtain ⟨a, c, cA, kA, q1, q2, q3, q4, q5, q6, -⟩ := Cond.exactly_spec (args := args) (first := s) (o := none) (s := s) (idx := []) (t := oTm i) (cls := "BundleFence$Op") (fl_b hg _ (st_e i hi).1)
      exact ⟨a, fun _ => ⟨q1, cA, q3, q5, by rw [q6]; exact q2, hA a (Array.getElem?_eq_some_iff.mp q3).1⟩⟩
    · exact ⟨0, fun h => absurd h hi⟩
  exact Classical.axiomOfChoice h0
theorem mem_at {α : Type} {l : List α} {q : α} (h : q ∈ l) (d : α) : ∃ i, i < l.length ∧ l[i]? = some q ∧ l.getD i d = q := by
  obtain ⟨i, hi⟩ := List.mem_iff_getElem?.mp h
  exact ⟨i, (List.getElem?_eq_some_iff.mp hi).1, hi, by rw [List.getD_eq_getElem?_getD, hi]; rfl⟩
theorem stX_start (htl : ∀ w ∈ lw_tbl, w.before args s = true) (hg : (Jvm.Cond.and given_1 narrow_1).before args s = true) : stX (fun q => s.heap.size ≤ q) s s.heap := by
  have hA : ∀ a : Nat, a < s.heap.size → ¬ (fun q => s.heap.size ≤ q) a := fun a h => Nat.not_le.mpr h
  obtain ⟨r1, r2, r3, r4, r5, r6⟩ := st_r
  obtain ⟨g1, g2, g3, g4, g5, g6, g7, g8⟩ := st_g
  obtain ⟨i1, i2, i3, i4, i5, i6, i7⟩ := st_i
  refine ⟨fun q hq => ?_, fun w hw => ?_, ⟨vx_Zqof (tbw htl _ g7) (tbw htl _ i6) (fl_b hg _ r1) hA, vx_Zqof (tbw htl _ g8) (tbw htl _ i6) (fl_b hg _ r2) hA⟩, va_Nc.of (fl_b hg _ r4), va_Nc.of (fl_b hg _ r5)⟩
  · obtain ⟨i, hi, -, e⟩ := mem_at hq (0, "")
    obtain ⟨t1, t2⟩ := st_t i hi
    rw [e] at t1 t2
    obtain ⟨a, c, cA, kA, q1, -⟩ := Cond.exactly_spec (args := args) (first := s) (o := none) (s := s) (idx := []) (fl_b hg _ t1)
    exact ⟨a, vk_R.of (A := args) (tbw htl _ t2) q1⟩
  · refine va_Nw.of (isCD_ot (thW_cd hw)) (A := args) (htl w ?_)
    unfold thW at hw
    rcases List.mem_append.mp hw with h | h
    · exact thx1 w (List.mem_filter.mp h).1
    · rcases List.mem_append.mp h with h | h
      · exact thx2 w (List.mem_filter.mp h).1
      · exact thx3 w (List.mem_filter.mp h).1
theorem start_facts (htl : ∀ w ∈ lw_tbl, w.before args s = true) (hg : (Jvm.Cond.and given_1 narrow_1).before args s = true) : ∃ ad : Nat → Nat,
    (∀ G : xG, (∀ k, 1000 ≤ k → G.2.2 k = ad k) → stC G (fun q => s.heap.size ≤ q) s s.heap) ∧ (∀ G : xG, (∀ k, 1000 ≤ k → G.2.2 k = ad k) → stM G (fun q => s.heap.size ≤ q) s s.heap) ∧ va_Z "BundleFence$Op" "NOP" "LBundleFence$Op;" (.ref (ad 2050)) (fun q => s.heap.size ≤ q) s s.heap ∧ va_Z "java/lang/String" "COMPACT_STRINGS" "Z" (.int 1) (fun q => s.heap.size ≤ q) s s.heap := by
  have hA : ∀ a : Nat, a < s.heap.size → ¬ (fun q => s.heap.size ≤ q) a := fun a h => Nat.not_le.mpr h
  obtain ⟨r1, r2, r3, r4, r5, r6⟩ := st_r
  obtain ⟨g1, g2, g3, g4, g5, g6, g7, g8⟩ := st_g
  obtain ⟨i1, i2, i3, i4, i5, i6, i7⟩ := st_i
  obtain ⟨y1, y2, y3, y4, y5, y6, y7, y8⟩ := st_a
  obtain ⟨adK, adV, hstr⟩ := str_all hg
  obtain ⟨adE, hen⟩ := enum_all hg
  obtain ⟨tS, zS, aS⟩ := arr_of (f := fun j => .int (opSwL.getD j 0)) (tm := fun j => .int (opSwL.getD j 0)) htl hg (by decide) _ _ _ _ g1 i1 y1 y2 st_w.1 (fun i hi => rfl)
  obtain ⟨tO, zO, aO⟩ := arr_of (f := fun j => .ref (adE j)) (tm := oTm) htl hg (by decide) _ _ _ _ g2 i2 y3 y4 st_w.2 (fun i hi => (hen i hi).1)
  obtain ⟨t1, z1, a1⟩ := arr_of (f := fun j => .int (digOnes j)) (tm := fun j => .int (digOnes j)) htl hg (by decide) _ _ _ _ g3 i3 y5 y6 st_d.1 (fun i hi => rfl)
  obtain ⟨t2, z2, a2⟩ := arr_of (f := fun j => .int (digTens j)) (tm := fun j => .int (digTens j)) htl hg (by decide) _ _ _ _ g4 i3 y7 y8 st_d.2 (fun i hi => rfl)
  have hCS : va_Z "java/lang/String" "COMPACT_STRINGS" "Z" (.int 1) (fun q => s.heap.size ≤ q) s s.heap := va_Zof (tbw htl _ g5) (tbw htl _ i4) (va_eqt (fl_b hg _ r6)) hA
  obtain ⟨tF, hF⟩ : ∃ tF : Nat, va_Z "jdk/internal/util/Preconditions" "SIOOBE_FORMATTER" "Ljava/util/function/BiFunction;" .null (fun q => s.heap.size ≤ q) s s.heap ∨ va_Z "jdk/internal/util/Preconditions" "SIOOBE_FORMATTER" "Ljava/util/function/BiFunction;" (.ref tF) (fun q => s.heap.size ≤ q) s s.heap := by
    rcases va_Zqof (A := fun q => s.heap.size ≤ q) (tbw htl _ g6) (tbw htl _ i5) (fl_b hg _ r3) hA with h | ⟨t, h⟩
    · exact ⟨0, Or.inl h⟩
    · exact ⟨t, Or.inr h⟩
  obtain ⟨ad, hd⟩ : ∃ ad : Nat → Nat, ad = fun k => if k < 1500 then adK (k - 1000) else if k < 2000 then adV (k - 1500) else if k = 3000 then tS else if k = 3001 then tO else if k = 3010 then tF else if k = 3020 then t1 else if k = 3021 then t2 else adE (k - 2000) := ⟨_, rfl⟩
  have eK : ∀ i, i < strN → ad (1000 + i) = adK i := fun i hi => by
    have h63 : strN = 63 := rfl
    rw [hd]
    show (if 1000 + i < 1500 then _ else _) = _
    rw [if_pos (by omega), Nat.add_sub_cancel_left]
  have eV : ∀ i, i < strN → ad (1500 + i) = adV i := fun i hi => by
    have h63 : strN = 63 := rfl
    rw [hd]
    show (if 1500 + i < 1500 then _ else if 1500 + i < 2000 then _ else _) = _
    rw [if_neg (by omega), if_pos (by omega), Nat.add_sub_cancel_left]
  have eE : ∀ i, i < 54 → ad (2000 + i) = adE i := fun i hi => by
    rw [hd]
    show (if 2000 + i < 1500 then _ else if 2000 + i < 2000 then _ else if 2000 + i = 3000 then _ else if 2000 + i = 3001 then _ else if 2000 + i = 3010 then _ else if 2000 + i = 3020 then _ else if 2000 + i = 3021 then _ else _) = _
    rw [if_neg (by omega), if_neg (by omega), if_neg (by omega), if_neg (by omega), if_neg (by omega), if_neg (by omega), if_neg (by omega), Nat.add_sub_cancel_left]
  have eS : ad 3000 = tS := by rw [hd]; rfl
  have eO : ad 3001 = tO := by rw [hd]; rfl
  have eF : ad 3010 = tF := by rw [hd]; rfl
  have e1 : ad 3020 = t1 := by rw [hd]; rfl
  have e2 : ad 3021 = t2 := by rw [hd]; rfl
  have hwd : ∀ i, i < 54 → opWdL.getD i 0 < strN := by decide +kernel
  have hord : ∀ i, i < 54 → va_OF "java/lang/Enum" "ordinal" "I" (.int (opOrL.getD i 0)) (adE i) (fun q => s.heap.size ≤ q) s s.heap := fun i hi => vk_OFof (hen i hi).1 (va_eqt (fl_b hg _ (st_e i hi).2.1)) hA
  have hzE : ∀ i, i < 54 → va_Z "BundleFence$Op" (opNm.getD i "") "LBundleFence$Op;" (.ref (adE i)) (fun q => s.heap.size ≤ q) s s.heap := fun i hi => va_Zof (tbw htl _ (st_l i hi)) (tbw htl _ i7) (hen i hi).1 hA
  have hS : ∀ G : xG, (∀ k, 1000 ≤ k → G.2.2 k = ad k) → stStr G (fun q => s.heap.size ≤ q) s s.heap ∧ stSites G s := fun G hG => by
    refine ⟨⟨fun i hi => ?_, hCS, ?_⟩, fun q hq => ?_⟩
    · rw [hG (1000 + i) (by omega), hG (1500 + i) (by omega), eK i hi, eV i hi]
      exact (hstr i hi).2
    · rw [hG 3010 (by decide), eF]; exact hF
    · obtain ⟨i, hi, -, e⟩ := mem_at hq ("", 0, "", 0)
      obtain ⟨k1, k2, k3⟩ := st_k i hi
      rw [e] at k1 k2 k3
      rw [hG _ (by omega), eK _ k3]
      refine vk_R.of (A := args) (tbw htl _ k1) ?_
      rw [← k2]
      exact (hstr _ k3).1
  refine ⟨ad, fun G hG => ?_, fun G hG => hS G hG, ?_, hCS⟩
  · obtain ⟨hs1, hs2⟩ := hS G hG
    have gE : ∀ i, i < 54 → G.2.2 (2000 + i) = adE i := fun i hi => (hG _ (by omega)).trans (eE i hi)
    refine ⟨⟨fun i hi => ?_, fun i j hi hj hij => ?_⟩, ⟨by rw [hG 3000 (by decide), eS]; exact zS, by rw [hG 3000 (by decide), eS]; exact aS⟩, ⟨by rw [hG 3001 (by decide), eO]; exact zO, by rw [hG 3001 (by decide), eO]; exact va_T_ext aO (fun j hj => by rw [gE j hj])⟩, fun q hq => ?_, fun i hi => ?_, hs1, hs2, ⟨⟨by rw [hG 3020 (by decide), e1]; exact z1, by rw [hG 3020 (by decide), e1]; exact a1⟩, by rw [hG 3021 (by decide), e2]; exact z2, by rw [hG 3021 (by decide), e2]; exact a2⟩⟩
    · have hi : i < 54 := hi
      show va_Z _ _ _ (.ref (G.2.2 (2000 + i))) _ _ _ ∧ va_O _ (G.2.2 (2000 + i)) _ _ _ ∧ ∀ q ∈ _, va_OF _ _ _ _ (G.2.2 (2000 + i)) _ _ _
      rw [gE i hi]
      refine ⟨hzE i hi, (hen i hi).2, fun q hq => ?_⟩
      simp only [List.mem_cons, List.not_mem_nil, or_false] at hq
      rcases hq with rfl | rfl | rfl
      · exact hord i hi
      · exact vk_OFof (hen i hi).1 (va_eqt (fl_b hg _ (st_e i hi).2.2.1)) hA
      · exact vk_OFof (hen i hi).1 (va_eqt (fl_b hg _ (st_e i hi).2.2.2.1)) hA
    · have hi : i < 54 := hi
      have hj : j < 54 := hj
      have hij : G.2.2 (2000 + i) = G.2.2 (2000 + j) := hij
      rw [gE i hi, gE j hj] at hij
      have h1 := hord i hi
      rw [hij] at h1
      have h2 := va_OF_one h1 (hord j hj)
      exact or_inj i hi j hj (Value.int.inj h2)
    · obtain ⟨i, hi, e, -⟩ := mem_at hq ("", 0, ⟨"", "", ""⟩, "")
      have h := st_n i hi
      rw [e] at h
      exact va_Nw.of rfl (A := args) (tbw htl _ h.symm)
    · rw [gE i hi, hG (1000 + opWdL.getD i 0) (by omega), eK _ (hwd i hi)]
      exact vk_OFof (hen i hi).1 (va_eqv (fl_b hg _ (st_e i hi).2.2.2.2) (hstr _ (hwd i hi)).1) hA
  · have h := hzE 50 (by decide)
    have e50 : ad 2050 = adE 50 := eE 50 (by decide)
    rw [e50]
    exact h
end FACTS

