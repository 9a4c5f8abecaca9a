/-! StringBuilder: the layout of one builder, what a call of its members asks -/
theorem kpT {ty : FieldType} {t N : Nat} {f : Nat → Value} {A A2 : Nat → Prop} {s U : State} {H H2 : Heap} (hW : s.WarmedH U.vm) (hk : ∀ q : Nat, q < H.size → ¬ A q → H2[q]? = H[q]?) (hA : ∀ q, q < H.size → A2 q → A q) (hT : va_T ty t N f A s H) : va_T ty t N f A2 U H2 := by
  obtain ⟨cell, h1, h2, h3, h4, h5, h6, h7⟩ := va_T.moved hW.alike hT
  have hlt := (Array.getElem?_eq_some_iff.mp h1).1
  exact ⟨cell, by rw [hk _ hlt h7]; exact h1, h2, h3, h4, h5, h6, fun z => h7 (hA _ hlt z)⟩
theorem kpO {E : String} {t : Nat} {A A2 : Nat → Prop} {s U : State} {H H2 : Heap} (hW : s.WarmedH U.vm) (hk : ∀ q : Nat, q < H.size → ¬ A q → H2[q]? = H[q]?) (hA : ∀ q, q < H.size → A2 q → A q) (hO : va_O E t A s H) : va_O E t A2 U H2 := by
  obtain ⟨cell, h1, h2, h3, h4⟩ := va_O.moved hW.alike hO
  have hlt := (Array.getElem?_eq_some_iff.mp h1).1
  exact ⟨cell, by rw [hk _ hlt h4]; exact h1, h2, h3, fun z => h4 (hA _ hlt z)⟩
theorem kpF {o n d : String} {v : Value} {t : Nat} {A A2 : Nat → Prop} {s U : State} {H H2 : Heap} (hW : s.WarmedH U.vm) (hk : ∀ q : Nat, q < H.size → ¬ A q → H2[q]? = H[q]?) (hA : ∀ q, q < H.size → A2 q → A q) (hO : va_OF o n d v t A s H) : va_OF o n d v t A2 U H2 := by
  obtain ⟨cf, k, i, f, cell, h1, h2, h3, h4, h5, h6⟩ := va_OF.moved hW.alike hO
  have hlt := (Array.getElem?_eq_some_iff.mp h3).1
  exact ⟨cf, k, i, f, cell, h1, h2, by rw [hk _ hlt h6]; exact h3, h4, h5, fun z => h6 (hA _ hlt z)⟩
theorem kpZ {C n d : String} {v : Value} {A A2 : Nat → Prop} {s U : State} {H H2 : Heap} (hW : s.WarmedH U.vm) (hk : ∀ q : Nat, q < H.size → ¬ A q → H2[q]? = H[q]?) (hA : ∀ q, q < H.size → A2 q → A q) (hZ : va_Z C n d v A s H) : va_Z C n d v A2 U H2 := by
  obtain ⟨cf, kf, fi, f, a, cell, h1, h2, h3, h4, h5, h6, h7, h8⟩ := va_Z.moved hW.alike hZ
  have hlt := (Array.getElem?_eq_some_iff.mp h5).1
  exact ⟨cf, kf, fi, f, a, cell, h1, h2, h3, h4, by rw [hk _ hlt h8]; exact h5, h6, h7, fun z => h8 (hA _ hlt z)⟩
theorem kpD {G : xG} {A A2 : Nat → Prop} {s U : State} {H H2 : Heap} (hW : s.WarmedH U.vm) (hk : ∀ q : Nat, q < H.size → ¬ A q → H2[q]? = H[q]?) (hA : ∀ q, q < H.size → A2 q → A q) (h : stDig G A s H) : stDig G A2 U H2 :=
  ⟨⟨kpZ hW hk hA h.1.1, kpT hW hk hA h.1.2⟩, kpZ hW hk hA h.2.1, kpT hW hk hA h.2.2⟩
def fkS : Nat → Nat → Nat × Nat := fun k j => match k with
  | 0 => (match j with | 0 => (2, 1) | _ => (0, 0))
  | _ => (0, 0)
/-- a Latin-1 String at 5, its z bytes at 6 -/
def stA (z : Nat) (f : Nat → Int32) : xG → (Nat → Prop) → State → Heap → Prop := fun G A U H =>
  va_O "java/lang/String" (G.2.2 5) A U H ∧ va_OF "java/lang/String" "coder" "B" (.int 0) (G.2.2 5) A U H ∧ va_OF "java/lang/String" "value" "[B" (.ref (G.2.2 6)) (G.2.2 5) A U H ∧ va_T .byte (G.2.2 6) z (fun j => .int (f j)) A U H
def stB (z : Nat) (f : Nat → Int32) : xG → (Nat → Prop) → State → Heap → Prop := fun G A U H => stStr G A U H ∧ stDig G A U H ∧ stA z f G A U H
/-- one builder: the object at 0, its m bytes at 1; its argument at 5 -/
def lS (m z : Nat) (f : Nat → Int32) : xLay := (lC.1, [.inl 10, .inr (1, m)], fkS, (fun _ _ ex => ex = []), stB z f)
theorem lS_ok {m z : Nat} {f : Nat → Int32} : xLok (lS m z f) :=
  ⟨fun _ _ _ _ _ h => h, fun G A A2 s U H H2 hW hk hA h => ⟨stStr_ok G A A2 s U H H2 hW hk hA h.1, kpD hW hk hA h.2.1, kpO hW hk hA h.2.2.1, kpF hW hk hA h.2.2.2.1, kpF hW hk hA h.2.2.2.2.1, kpT hW hk hA h.2.2.2.2.2⟩⟩
theorem lS_str {m z : Nat} {f : Nat → Int32} : xStrL (lS m z f) := fun _ _ _ _ h => h.1
/-- the same places, the bytes elsewhere -/
def gset (G : xG) (b : Nat) : xG := (G.1, G.2.1, fun k => if k = 1 then b else G.2.2 k)
theorem stB_gset {z : Nat} {f : Nat → Int32} {G : xG} {b : Nat} {A : Nat → Prop} {U : State} {H : Heap} (h : stB z f G A U H) : stB z f (gset G b) A U H := by
  have e : ∀ k, k ≠ 1 → (gset G b).2.2 k = G.2.2 k := fun k hk => if_neg hk
  obtain ⟨⟨h1, h2, h3⟩, h4, h5⟩ := h
  refine ⟨⟨fun i hi => ?_, h2, h3⟩, h4, h5⟩
  rw [e (1000 + i) (by omega), e (1500 + i) (by omega)]
  exact h1 i hi
theorem xCtx_gset {M : xMd} {m m' z b : Nat} {f : Nat → Int32} {X : xC} {G : xG} {A : Nat → Prop} (C : xCtx M (lS m z f) X G A) : xCtx M (lS m' z f) X (gset G b) A :=
  ⟨C.1, C.2.1, C.2.2.1, C.2.2.2.1, C.2.2.2.2.1, C.2.2.2.2.2.1, C.2.2.2.2.2.2.1, stB_gset C.2.2.2.2.2.2.2.1, C.2.2.2.2.2.2.2.2.1, lS_ok⟩
/-- what a call of the builder's own member asks -/
def sUw (own : String) (idx : Nat) (M2 : xMd) (n : Nat) : Prop :=
  Cond.methodLink own idx M2.1 ∈ gtbl ∧ Cond.sameMethod M2.1.cls M2.1.cls M2.1.name M2.1.desc ∈ gtbl ∧ Cond.instanceMethod M2.1 ∈ gtbl ∧ Cond.initialized M2.1.cls ∈ gtbl ∧ Cond.code M2.1 M2.2.1 M2.2.2.1 M2.2.2.2.1 ∈ gtbl ∧
  Cond.selects "java/lang/StringBuilder" M2.1 M2.1 ∈ gtbl ∧ (M2.1.cls ≠ "java/lang/invoke/MethodHandle" ∧ M2.1.cls ≠ "java/lang/invoke/VarHandle") ∧ (parseMethodDescriptor M2.1.desc).map (fun d => d.parameters.length) = some n
theorem sUw.cu {R : Room} {s : State} {args : Array Value} {own : String} {idx n mc ms : Nat} {M2 : xMd} (hts : ∀ w ∈ gtbl, w.before args s = true) (h : sUw own idx M2 n) (f1 : M2.2.2.2.2.frames + 1 ≤ R.frames) (f2 : 8 + (M2.2.2.1 + 11) + M2.2.2.2.2.locals ≤ R.locals) (f3 : M2.2.2.2.2.cells = mc) (f4 : M2.2.2.2.2.slots = ms) :
    va_CU R s args own "java/lang/StringBuilder" M2.1.cls idx M2.1 M2.1 M2.2.1 M2.2.2.1 M2.2.2.2.1 (xwords M2) M2.2.2.2.2 mc ms n := by
  obtain ⟨a1, a2, a3, a4, a5, a6, a7, a8⟩ := h
  refine ⟨⟨f3, f4, f1, f2, pay_in hts (xgood hts a5), List.mem_cons_self⟩, hts _ a5, hts _ a4, a7, fun sig hs => ?_, hts _ a1, hts _ a2, va_Decl.of (hts _ a3) (hts _ a5), hts _ a6, hts _ a3⟩
  rw [hs] at a8
  exact (Option.some.inj a8).symm
/-- what a call of the superclass's member asks -/
def sSw (own : String) (idx : Nat) (M2 : xMd) (n : Nat) : Prop :=
  Cond.methodLink own idx M2.1 ∈ gtbl ∧ Cond.sameMethod M2.1.cls M2.1.cls M2.1.name M2.1.desc ∈ gtbl ∧ Cond.superclass own M2.1.cls ∈ gtbl ∧ Cond.instanceMethod M2.1 ∈ gtbl ∧ Cond.initialized M2.1.cls ∈ gtbl ∧ Cond.code M2.1 M2.2.1 M2.2.2.1 M2.2.2.2.1 ∈ gtbl ∧ M2.1.name ≠ "<init>" ∧ (parseMethodDescriptor M2.1.desc).map (fun d => d.parameters.length) = some n
theorem sSw.cs {R : Room} {s : State} {args : Array Value} {own : String} {idx n mc ms : Nat} {M2 : xMd} (hts : ∀ w ∈ gtbl, w.before args s = true) (h : sSw own idx M2 n) (f1 : M2.2.2.2.2.frames + 1 ≤ R.frames) (f2 : 8 + (M2.2.2.1 + 11) + M2.2.2.2.2.locals ≤ R.locals) (f3 : M2.2.2.2.2.cells = mc) (f4 : M2.2.2.2.2.slots = ms) :
    va_CS R s args own idx M2.1 M2.2.1 M2.2.2.1 M2.2.2.2.1 (xwords M2) M2.2.2.2.2 mc ms n := by
  obtain ⟨a1, a2, a3, a4, a5, a6, a7, a8⟩ := h
  refine ⟨⟨f3, f4, f1, f2, pay_in hts (xgood hts a6), List.mem_cons_self⟩, hts _ a1, hts _ a2, hts _ a3, hts _ a4, hts _ a5, hts _ a6, a7, fun sig hs => ?_⟩
  rw [hs] at a8
  exact (Option.some.inj a8).symm
theorem xj_T {ρ : Type} {P : Prop} [Decidable P] {r : Option ρ} (hp : P) : r = if P then r else none := (if_pos hp).symm
theorem xj_F {ρ : Type} {P : Prop} [Decidable P] {r : Option ρ} (hp : ¬ P) : r = if P then none else r := (if_neg hp).symm
section SB1
variable {ρ : Type} {ι : ρ → xO × xW} {M : xMd} {m z : Nat} {f : Nat → Int32} {b : Nat × Nat} {pc : Nat} {lv : List (Nat × Value)} {st : List Value} {w : xW} {r : Option ρ}
theorem xj_callU {α : Type} {jc : α → Option Value} {M2 : xMd} {n idx : Nat} {argv rest : List Value} {q : α × xW} (pu : α → List Value) (hpu : ∀ (G : xG) (x : α), ((jc x).map (xv G)).toList = (pu x).map (xv G))
    (hd : decode M.2.1 pc = .ok (.invokevirtual idx, 3)) (hM : xMet jc M2 (lS m z f) (0, 0) (.ref 0 :: argv) w (some q)) (hU : sUw M.1.cls idx M2 n) (hfit : xfit0 M M2 = true) (hn : argv.length = n) (hst : st = argv.reverse ++ .ref 0 :: rest) (hsum : Nat.ble (rest.map fun v => v.category).sum 8 = true)
    (kk : xJ ι M (lS m z f) b (pc + 3) lv (pu q.1 ++ rest) q.2 r) : xJ ι M (lS m z f) b pc lv st w r := by
  refine xj_eq (r2 := xbd (some q) (fun _ _ => r)) rfl ?_
  refine xj_call (b2 := (0, 0)) (b3 := b) pu hpu (by show 0 + b.1 ≤ b.1; omega) (by show 0 + b.2 ≤ b.2; omega) ?_ (fun x w1 hx => by cases hx; exact kk)
  intro q1 hq1 X G A ex H locs ls cells slots Cx P hl hc1 hs1
  obtain ⟨f1, f2, f3, f4⟩ := xfit0_ok hfit
  have hts := Cx.2.2.2.2.1
  refine ⟨_, va_runU (As := argv.map (xv G)) (rest := rest.map (xv G)) (n := n) (C := "java/lang/StringBuilder") (own := M.1.cls) (Ts := gtbl) (index := idx) (b := G.2.2 0) ⟨Cx.1, Cx.2.1, Cx.2.2.1, Cx.2.2.2.1, hts⟩ (hM q1 hq1 X.2.1 Cx.2.2.2.2.2.2.2.2.1 G ex H.size) (hU.cu hts f1 f2 f3 f4) ⟨xPc_blind Cx.2.2.2.2.2.2.2.2.2, va_recv Cx.2.2.2.2.2.1 P.1 (ci := 10) (q := (RJ4, TJ4, 4)) (q0 := 0) rfl (xws_obj (k := 0) (ci := 10) (C := RJ4) (T := TJ4) (N := 4) rfl rfl), fun U hU hW => ⟨rfl, xPre_of Cx P U hU hW⟩⟩ rfl (by rw [List.length_map]; exact hn) hl.1 ?_ ?_ hd ⟨hc1, hs1⟩⟩
  · show st.map (xv G) = _
    rw [hst, List.map_append, List.map_reverse]; rfl
  · show 2 * 0 + _ ≤ 8
    rw [xcat_sum]
    have := Nat.le_of_ble_eq_true hsum
    omega
/-- super.m(..) -/
theorem xj_callP {α : Type} {jc : α → Option Value} {M2 : xMd} {n idx : Nat} {argv rest : List Value} {q : α × xW} (pu : α → List Value) (hpu : ∀ (G : xG) (x : α), ((jc x).map (xv G)).toList = (pu x).map (xv G))
    (hd : decode M.2.1 pc = .ok (.invokespecial idx, 3)) (hM : xMet jc M2 (lS m z f) (0, 0) (.ref 0 :: argv) w (some q)) (hU : sSw M.1.cls idx M2 n) (hfit : xfit0 M M2 = true) (hn : argv.length = n) (hst : st = argv.reverse ++ .ref 0 :: rest) (hsum : Nat.ble (rest.map fun v => v.category).sum 8 = true)
    (kk : xJ ι M (lS m z f) b (pc + 3) lv (pu q.1 ++ rest) q.2 r) : xJ ι M (lS m z f) b pc lv st w r := by
  refine xj_eq (r2 := xbd (some q) (fun _ _ => r)) rfl ?_
  refine xj_call (b2 := (0, 0)) (b3 := b) pu hpu (by show 0 + b.1 ≤ b.1; omega) (by show 0 + b.2 ≤ b.2; omega) ?_ (fun x w1 hx => by cases hx; exact kk)
  intro q1 hq1 X G A ex H locs ls cells slots Cx P hl hc1 hs1
  obtain ⟨f1, f2, f3, f4⟩ := xfit0_ok hfit
  have hts := Cx.2.2.2.2.1
  refine ⟨_, va_runSU (As := argv.map (xv G)) (rest := rest.map (xv G)) (n := n) (C := "java/lang/StringBuilder") (own := M.1.cls) (Ts := gtbl) (index := idx) (b := G.2.2 0) ((Cx.2.2.2.2.2.1.1 10 (RJ4, TJ4, 4) rfl).2) ⟨Cx.1, Cx.2.1, Cx.2.2.1, Cx.2.2.2.1, hts⟩ (hM q1 hq1 X.2.1 Cx.2.2.2.2.2.2.2.2.1 G ex H.size) (hU.cs hts f1 f2 f3 f4) ⟨xPc_blind Cx.2.2.2.2.2.2.2.2.2, va_recv Cx.2.2.2.2.2.1 P.1 (ci := 10) (q := (RJ4, TJ4, 4)) (q0 := 0) rfl (xws_obj (k := 0) (ci := 10) (C := RJ4) (T := TJ4) (N := 4) rfl rfl), fun U hU hW => ⟨rfl, xPre_of Cx P U hU hW⟩⟩ rfl (by rw [List.length_map]; exact hn) hl.1 ?_ ?_ hd ⟨hc1, hs1⟩⟩
  · show st.map (xv G) = _
    rw [hst, List.map_append, List.map_reverse]; rfl
  · show 2 * 0 + _ ≤ 8
    rw [xcat_sum]
    have := Nat.le_of_ble_eq_true hsum
    omega
theorem xj_dupx1 {va vb : Value} (hd : decode M.2.1 pc = .ok (.dup_x1, 1)) (ha : va.category = 1) (hb : vb.category = 1) {L : xLay} (k : xJ ι M L b (pc + 1) lv (va :: vb :: va :: st) w r) : xJ ι M L b pc lv (va :: vb :: st) w r :=
  xj_go (fun _ G _ _ _ _ _ _ _ C _ => lv_dup_x1 C.1 C.2.1 hd (by rw [xv_cat]; exact ha) (by rw [xv_cat]; exact hb)) k
theorem sgV (hd : decode M.2.1 pc = .ok (.getfield 15, 3)) (hM : M.1.cls = "java/lang/AbstractStringBuilder") (kk : xJ ι M (lS m z f) b (pc + 3) lv (.ref 1 :: st) w r) : xJ ι M (lS m z f) b pc lv (.ref 0 :: st) w r :=
  xj_gf (v := .ref 1) (ci := 10) (j := 0) (C := RJ4) (T := TJ4) (N := 4) hd rfl rfl xkJ4 (Nat.le_of_ble_eq_true rfl) (by rw [hM]; exact tB_f_J5_15) (fun _ => rfl) kk
theorem sgK {v : Int32} (hv : w.1 0 1 = v) (hd : decode M.2.1 pc = .ok (.getfield 22, 3)) (hM : M.1.cls = "java/lang/AbstractStringBuilder") (kk : xJ ι M (lS m z f) b (pc + 3) lv (.int v :: st) w r) : xJ ι M (lS m z f) b pc lv (.ref 0 :: st) w r :=
  xj_gf (v := .int v) (ci := 10) (j := 1) (C := RJ4) (T := TJ4) (N := 4) hd rfl rfl xkJ4 (Nat.le_of_ble_eq_true rfl) (by rw [hM]; exact tB_f_J5_22) (fun _ => by subst hv; rfl) kk
theorem sgN {v : Int32} (hv : w.1 0 3 = v) (hd : decode M.2.1 pc = .ok (.getfield 79, 3)) (hM : M.1.cls = "java/lang/AbstractStringBuilder") (kk : xJ ι M (lS m z f) b (pc + 3) lv (.int v :: st) w r) : xJ ι M (lS m z f) b pc lv (.ref 0 :: st) w r :=
  xj_gf (v := .int v) (ci := 10) (j := 3) (C := RJ4) (T := TJ4) (N := 4) hd rfl rfl xkJ4 (Nat.le_of_ble_eq_true rfl) (by rw [hM]; exact tB_f_J5_79) (fun _ => by subst hv; rfl) kk
theorem spN {v : Int32} (hd : decode M.2.1 pc = .ok (.putfield 79, 3)) (hM : M.1.cls = "java/lang/AbstractStringBuilder") (kk : xJ ι M (lS m z f) b (pc + 3) lv st (xwi w 0 3 v) r) : xJ ι M (lS m z f) b pc lv (.int v :: .ref 0 :: st) w r :=
  xj_pf (v := .int v) (w2 := xwi w 0 3 v) (ty := .int) (ci := 10) (j := 3) (C := RJ4) (T := TJ4) (N := 4) hd rfl rfl xkJ4 (Nat.le_of_ble_eq_true rfl) (by rw [hM]; exact tB_f_J5_79) rfl (by decide +kernel) (fun _ => rfl) (fun _ => rfl) (xput_i (Nat.le_of_ble_eq_true rfl) rfl) kk
theorem spM {v : Int32} (hz : xz v) (hd : decode M.2.1 pc = .ok (.putfield 73, 3)) (hM : M.1.cls = "java/lang/AbstractStringBuilder") (kk : xJ ι M (lS m z f) b (pc + 3) lv st (xwi w 0 2 v) r) : xJ ι M (lS m z f) b pc lv (.int v :: .ref 0 :: st) w r :=
  xj_pf (v := .int v) (w2 := xwi w 0 2 v) (ty := .boolean) (ci := 10) (j := 2) (C := RJ4) (T := TJ4) (N := 4) hd rfl rfl xkJ4 (Nat.le_of_ble_eq_true rfl) (by rw [hM]; exact tB_f_J5_73) rfl (by decide +kernel) (fun _ => (xz_nar hz).1) (fun _ => (xz_nar hz).2) (xput_i (Nat.le_of_ble_eq_true rfl) rfl) kk
theorem xj_ra {a : Nat} {L : xLay} (hd : decode M.2.1 pc = .ok (.areturn, 1)) (hr : ∃ ty, M.2.2.2.1 = some ty ∧ ((∃ n, ty = .object n) ∨ ∃ t, ty = .array t)) : xJ (fun q : Unit × xW => (.inl (some (.ref a)), q.2)) M L b pc lv [.ref a] w (some ((), w)) := xj_end rfl ⟨hd, hr⟩ (fun _ => rfl)
/-! isLatin1, canEncode, length -/
theorem tB_isl (h : w.1 0 1 = 0) : xJ ιI mB_isl (lS m z f) (0, 0) 0 [(0, .ref 0)] [] w (some (1, w)) := by
  refine xj_gsv (v := .int 1) dB_isl_0 tB_f_J5_18 (fun G A U H h => h.1.2.1) ?_
  refine xj_eq (xj_F (P := (1 : Int32) = 0) (by decide)) ?_
  refine xj_ifeq (tgt := 17) dB_isl_3 rfl xj_none ?_
  refine xj_aloadn 0 dB_isl_6 rfl rfl ?_
  refine sgK h dB_isl_7 rfl ?_
  refine xj_eq (xj_T (P := (0 : Int32) = 0) rfl) ?_
  refine xj_ifne (tgt := 17) dB_isl_10 rfl ?_ xj_none
  refine xj_iconst (v := 1) dB_isl_13 (by decide) ?_
  refine xj_goto (tgt := 18) dB_isl_14 rfl ?_
  exact xj_rz dB_isl_18 rfl (Or.inr rfl)
theorem kB_isl (h : w.1 0 1 = 0) : xMet jI mB_isl (lS m z f) (0, 0) [.ref 0] w (some (1, w)) := xj_met lS_ok (by decide) (Nat.le_of_ble_eq_true rfl) (Nat.zero_le _) (Nat.zero_le _) (tB_isl h)
theorem uB_isl : sUw "java/lang/AbstractStringBuilder" 83 mB_isl 0 := ⟨tB_m_J5_83, tB_q_isl, tB_n_isl, tB_i_J5, tB_c_isl, tB_u_isl, ⟨by decide, by decide⟩, by decide +kernel⟩
theorem tB_can {c : Nat} (hc : c < 256) : xJ ιI mB_can (lS m z f) (0, 0) 0 [(0, .int (nI c))] [] w (some (1, w)) := by
  refine xj_iloadn 0 dB_can_0 rfl rfl ?_
  refine xj_sipush (v := 255) dB_can_1 (by decide) ?_
  refine xj_eq (xj_F (P := (255 : Int32) < nI c) (nI_nlt (a := 255) (b := c) (by omega) (by omega))) ?_
  refine xj_igt (tgt := 11) dB_can_4 rfl xj_none ?_
  refine xj_iconst (v := 1) dB_can_7 (by decide) ?_
  refine xj_goto (tgt := 12) dB_can_8 rfl ?_
  exact xj_rz dB_can_12 rfl (Or.inr rfl)
theorem kB_can {c : Nat} (hc : c < 256) : xMet jI mB_can (lS m z f) (0, 0) [.int (nI c)] w (some (1, w)) := xj_met lS_ok (by decide) (Nat.le_of_ble_eq_true rfl) (Nat.zero_le _) (Nat.zero_le _) (tB_can hc)
/-! append(char), behind the call of ensureCapacityInternal -/
theorem b8_8 : ∀ c, c < 256 → ((nI c).toInt8.toInt32).toInt8.toInt32 = sb_b c := by decide +kernel
theorem tB_apc {n c : Nat} (h0 : w.1 0 1 = 0) (hn : w.1 0 3 = nI n) (hnm : n < m) (hm : m ≤ 65536) (hc : c < 256) : xJ (fun q : Unit × xW => (.inl (some (.ref 0)), q.2)) mB_apc (lS m z f) (0, 0) 10 [(0, .ref 0), (1, .int (nI c))] [] w (some ((), xwi (xwi w 0 3 (nI (n + 1))) 1 n (sb_b c))) := by
  refine xj_aloadn 0 dB_apc_10 rfl rfl ?_
  refine xj_callU (argv := []) (rest := []) (n := 0) (fun x => [.int x]) (fun _ _ => rfl) dB_apc_11 (kB_isl h0) uB_isl rfl rfl rfl rfl ?_
  refine xj_eq (xj_F (P := (1 : Int32) = 0) (by decide)) ?_
  refine xj_ifeq (tgt := 45) dB_apc_14 rfl xj_none ?_
  refine xj_iloadn 1 dB_apc_17 rfl rfl ?_
  refine xj_eq (r2 := xbd (some ((1 : Int32), w)) (fun x w1 => if x = 0 then none else some ((), xwi (xwi w1 0 3 (nI (n + 1))) 1 n (sb_b c)))) rfl ?_
  refine xj_callS (b2 := (0, 0)) (b3 := (0, 0)) (argv := [.int (nI c)]) (rest := []) (fun x => [.int x]) (fun _ _ => rfl) (Nat.le_refl _) (Nat.le_refl _) dB_apc_18 (kB_can hc) mkB_can tB_m_J5_191 (xfit0_ok rfl) rfl rfl (Nat.zero_le _) (fun x w1 hx => ?_)
  cases hx
  refine xj_ifeq (tgt := 45) dB_apc_21 rfl xj_none ?_
  refine xj_aloadn 0 dB_apc_24 rfl rfl ?_
  refine sgV dB_apc_25 rfl ?_
  refine xj_aloadn 0 dB_apc_28 rfl rfl ?_
  refine xj_dup dB_apc_29 rfl ?_
  refine sgN hn dB_apc_30 rfl ?_
  refine xj_dupx1 dB_apc_33 rfl rfl ?_
  refine xj_iconst (v := 1) dB_apc_34 (by decide) ?_
  refine xj_iadd dB_apc_35 ?_
  refine spN dB_apc_36 rfl ?_
  rw [nI_1]
  refine xj_iloadn 1 dB_apc_39 rfl rfl ?_
  refine xj_i2b dB_apc_40 ?_
  have hb := b8_8 c hc
  have hcl : (nI n).toNatClampNeg = n := nI_clamp (by omega)
  have hin : xin (nI n) m := ⟨nI_pos (by omega), by rw [hcl]; exact hnm⟩
  refine xj_eq (xj_T hin) ?_
  refine xj_bast (k := 1) dB_apc_41 rfl ?_
  rw [hb, hcl]
  refine xj_goto (tgt := 75) dB_apc_42 rfl ?_
  refine xj_aloadn 0 dB_apc_75 rfl rfl ?_
  exact xj_ra dB_apc_76 ⟨_, rfl, Or.inl ⟨_, rfl⟩⟩
/-! charAt, length -/
theorem tB_len {v : Int32} (hn : w.1 0 3 = v) : xJ ιI mB_len (lS m z f) (0, 0) 0 [(0, .ref 0)] [] w (some (v, w)) := by
  refine xj_aloadn 0 dB_len_0 rfl rfl ?_
  refine sgN hn dB_len_1 rfl ?_
  exact xj_ri dB_len_4 rfl
theorem kB_len {v : Int32} (hn : w.1 0 3 = v) : xMet jI mB_len (lS m z f) (0, 0) [.ref 0] w (some (v, w)) := xj_met lS_ok (by decide) (Nat.le_of_ble_eq_true rfl) (Nat.zero_le _) (Nat.zero_le _) (tB_len hn)
theorem pB_len : sSw "java/lang/StringBuilder" 343 mB_len 0 := ⟨tB_m_J4_343, tB_q_len, tB_sup, tB_n_len, tB_i_J5, tB_c_len, by decide, by decide +kernel⟩
theorem tB_Blen {v : Int32} (hn : w.1 0 3 = v) : xJ ιI mB_Blen (lS m z f) (0, 0) 0 [(0, .ref 0)] [] w (some (v, w)) := by
  refine xj_aloadn 0 dB_Blen_0 rfl rfl ?_
  refine xj_callP (argv := []) (rest := []) (n := 0) (fun x => [.int x]) (fun _ _ => rfl) dB_Blen_1 (kB_len hn) pB_len rfl rfl rfl rfl ?_
  exact xj_ri dB_Blen_4 rfl
theorem kB_Blen {v : Int32} (hn : w.1 0 3 = v) : xMet jI mB_Blen (lS m z f) (0, 0) [.ref 0] w (some (v, w)) := xj_met lS_ok (by decide) (Nat.le_of_ble_eq_true rfl) (Nat.zero_le _) (Nat.zero_le _) (tB_Blen hn)
theorem pB_cha : sSw "java/lang/StringBuilder" 329 mB_cha 1 := ⟨tB_m_J4_329, tB_q_cha, tB_sup, tB_n_cha, tB_i_J5, tB_c_cha, by decide, by decide +kernel⟩
theorem sb_chr : ∀ c, c < 256 → ((sb_b c &&& 255).toUInt32 % 65536).toInt32 = nI c ∧ narrow .char (.int (nI c)) = .int (nI c) := by decide +kernel
theorem tB_cha {n i c : Nat} (h0 : w.1 0 1 = 0) (hn : w.1 0 3 = nI n) (hnm : n ≤ m) (hm : m ≤ 65536) (hi : i < n) (hc : c < 256) (hv : w.1 1 i = sb_b c) : xJ ιI mB_cha (lS m z f) (0, 0) 0 [(0, .ref 0), (1, .int (nI i))] [] w (some (nI c, w)) := by
  refine xj_aloadn 0 dB_cha_0 rfl rfl ?_
  refine sgK h0 dB_cha_1 rfl ?_
  refine xj_istoren (lv2 := [(2, .int 0), (0, .ref 0), (1, .int (nI i))]) dB_cha_4 rfl (Nat.le_of_ble_eq_true rfl) rfl ?_
  refine xj_aloadn 1 dB_cha_5 rfl rfl ?_
  refine sgV dB_cha_6 rfl ?_
  refine xj_astoren (lv2 := [(3, .ref 1), (2, .int 0), (0, .ref 0), (1, .int (nI i))]) dB_cha_9 rfl (Nat.le_of_ble_eq_true rfl) rfl ?_
  refine xj_aloadn 2 dB_cha_10 rfl rfl ?_
  refine sgN hn dB_cha_11 rfl ?_
  refine xj_aloadn 0 dB_cha_14 rfl rfl ?_
  refine xj_alen (k := 1) (v := nI m) dB_cha_15 rfl ⟨rfl, by decide⟩ ?_
  refine xj_iloadn 1 dB_cha_16 rfl rfl ?_
  refine xj_ishr dB_cha_17 ?_
  rw [sb_shr0]
  refine xj_mmin (rest := []) dB_cha_18 tB_m_J5_138 rfl rfl ?_
  have hmin : xmin (nI n) (nI m) = nI n := if_neg (nI_nlt hnm (by omega))
  rw [hmin]
  refine xj_istore (lv2 := [(4, .int (nI n)), (3, .ref 1), (2, .int 0), (0, .ref 0), (1, .int (nI i))]) dB_cha_21 (Nat.le_of_ble_eq_true rfl) rfl ?_
  refine xj_iloadn 4 dB_cha_23 rfl rfl ?_
  refine xj_iload 0 dB_cha_24 rfl ?_
  refine xj_eq (r2 := xbd (some ((), w)) (fun _ w1 => some (nI c, w1))) rfl ?_
  refine xj_callS (b2 := (0, 0)) (b3 := (0, 0)) (argv := [.int (nI i), .int (nI n)]) (rest := []) (fun _ => []) (fun _ _ => rfl) (Nat.le_refl _) (Nat.le_refl _) dB_cha_26 (kStr_check2 lS_ok lS_str (nI_pos (by omega)) (nI_lt hi (by omega)) w) mkStr_check2 tB_m_J5_144 (xfit0_ok rfl) rfl rfl (Nat.zero_le _) (fun x w1 hx => ?_)
  cases hx
  refine xj_iloadn 2 dB_cha_29 rfl rfl ?_
  refine xj_eq (xj_T (P := (0 : Int32) = 0) rfl) ?_
  refine xj_ifne (tgt := 42) dB_cha_30 rfl ?_ xj_none
  refine xj_aloadn 1 dB_cha_33 rfl rfl ?_
  refine xj_iloadn 4 dB_cha_34 rfl rfl ?_
  have hcl : (nI i).toNatClampNeg = i := nI_clamp (by omega)
  have hin : xin (nI i) m := ⟨nI_pos (by omega), by rw [hcl]; omega⟩
  refine xj_eq (xj_T hin) ?_
  refine xj_bald (k := 1) dB_cha_35 rfl ?_
  rw [hcl, hv]
  refine xj_sipush (v := 255) dB_cha_36 (by decide) ?_
  refine xj_iand dB_cha_39 ?_
  refine xj_i2c dB_cha_40 ?_
  rw [(sb_chr c hc).1]
  exact xj_end rfl ⟨dB_cha_41, .char, rfl, (sb_chr c hc).2⟩ (fun _ => rfl)
theorem kB_cha {n i c : Nat} (h0 : w.1 0 1 = 0) (hn : w.1 0 3 = nI n) (hnm : n ≤ m) (hm : m ≤ 65536) (hi : i < n) (hc : c < 256) (hv : w.1 1 i = sb_b c) : xMet jI mB_cha (lS m z f) (0, 0) [.ref 0, .int (nI i)] w (some (nI c, w)) := xj_met lS_ok (by decide) (Nat.le_of_ble_eq_true rfl) (Nat.zero_le _) (Nat.zero_le _) (tB_cha h0 hn hnm hm hi hc hv)
theorem tB_Bcha {n i c : Nat} (h0 : w.1 0 1 = 0) (hn : w.1 0 3 = nI n) (hnm : n ≤ m) (hm : m ≤ 65536) (hi : i < n) (hc : c < 256) (hv : w.1 1 i = sb_b c) : xJ ιI mB_Bcha (lS m z f) (0, 0) 0 [(0, .ref 0), (1, .int (nI i))] [] w (some (nI c, w)) := by
  refine xj_aloadn 0 dB_Bcha_0 rfl rfl ?_
  refine xj_iloadn 1 dB_Bcha_1 rfl rfl ?_
  refine xj_callP (argv := [.int (nI i)]) (rest := []) (n := 1) (fun x => [.int x]) (fun _ _ => rfl) dB_Bcha_2 (kB_cha h0 hn hnm hm hi hc hv) pB_cha rfl rfl rfl rfl ?_
  exact xj_end rfl ⟨dB_Bcha_5, .char, rfl, (sb_chr c hc).2⟩ (fun _ => rfl)
theorem kB_Bcha {n i c : Nat} (h0 : w.1 0 1 = 0) (hn : w.1 0 3 = nI n) (hnm : n ≤ m) (hm : m ≤ 65536) (hi : i < n) (hc : c < 256) (hv : w.1 1 i = sb_b c) : xMet jI mB_Bcha (lS m z f) (0, 0) [.ref 0, .int (nI i)] w (some (nI c, w)) := xj_met lS_ok (by decide) (Nat.le_of_ble_eq_true rfl) (Nat.zero_le _) (Nat.zero_le _) (tB_Bcha h0 hn hnm hm hi hc hv)
end SB1
