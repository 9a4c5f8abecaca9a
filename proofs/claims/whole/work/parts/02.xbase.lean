/-! THE ABSTRACT MACHINE OVER TYPED WORLDS: a judgement xJ on virtual values (cells by numbers), a world of ints and longs by cell and place, and an answer written as a Lean value. -/
/-- the private members of the builder's superclass: the ones that a call on a builder finds (told out of the tables at the law's start) -/
def lw_ext : List Cond := [⟨"java/lang/AbstractStringBuilder", "ensureCapacityInternal", "(I)V"⟩, ⟨"java/lang/AbstractStringBuilder", "newCapacity", "(I)I"⟩, ⟨"java/lang/AbstractStringBuilder", "putStringAt", "(ILjava/lang/String;)V"⟩, ⟨"java/lang/AbstractStringBuilder", "inflateIfNeededFor", "(Ljava/lang/String;)V"⟩].map (fun y : MethodName => Cond.selects "java/lang/StringBuilder" y y)
theorem lw_ext_good : ∀ w ∈ lw_ext, goodWord w = true := by decide +kernel
def gtbl : List Cond := lw_tbl.filter goodWord ++ lw_ext
theorem gt_in {w : Cond} (h : w ∈ lw_tbl ∧ goodWord w = true) : w ∈ gtbl := List.mem_append_left _ (List.mem_filter.mpr h)
theorem gt_mem {w : Cond} (i : Nat) (h : lw_tbl[i]? = some w) (hg : goodWord w = true) : w ∈ gtbl := gt_in ⟨List.mem_of_getElem? h, hg⟩
theorem gt_ext {w : Cond} (i : Nat) (h : lw_ext[i]? = some w) : w ∈ gtbl := List.mem_append_right _ (List.mem_of_getElem? h)
theorem gt_good : GoodIn gtbl gtbl := fun w hw => ⟨hw, good_of_word (by
  rcases List.mem_append.mp hw with h | h
  · exact (List.mem_filter.mp h).2
  · exact lw_ext_good w h)⟩
abbrev xW : Type := (Nat → Nat → Int32) × (Nat → Nat → Int64)
def xwi (w : xW) (k i : Nat) (v : Int32) : xW := (fun a b => if a = k ∧ b = i then v else w.1 a b, w.2)
def xwl (w : xW) (k i : Nat) (v : Int64) : xW := (w.1, fun a b => if a = k ∧ b = i then v else w.2 a b)
abbrev xMd : Type := MethodName × ByteArray × Nat × Option FieldType × Room
def xwords (M : xMd) : List Cond := Cond.code M.1 M.2.1 M.2.2.1 M.2.2.2.1 :: gtbl
abbrev xG : Type := va_G × (Nat → ClassId) × (Nat → Nat)
/-- a layout: the cells (an object of a class by number, an array by its type's place and its length), each field's kind, what else the heap holds, what the tables and the statics say -/
abbrev xLay : Type := List vw_C × List (Nat ⊕ (Nat × Nat)) × (Nat → Nat → Nat × Nat) × (xW → xG → va_W → Prop) × (xG → (Nat → Prop) → State → Heap → Prop)
abbrev xcl (L : xLay) : List vw_C := L.1
def xtys (cA : Nat → ClassId) : List (ClassId × FieldType) := [(cA 0, .int), (cA 1, .byte), (cA 2, .boolean), (cA 3, .long)]
def xfv (L : xLay) (G : xG) (w : xW) (k j : Nat) : Value := match L.2.2.1 k j with
  | (0, _) => .int (w.1 k j)
  | (1, _) => .long (w.2 k j)
  | (2, a) => .ref (G.2.2 a)
  | (3, b) => .ref (G.2.2 (b + (w.1 k j).toNatClampNeg))
  | _ => .null
def xN (L : xLay) (ci : Nat) : Nat := match (xcl L)[ci]? with
  | some q => q.2.2
  | none => 0
def xcell (L : xLay) (G : xG) (w : xW) (k : Nat) : va_E := match L.2.1[k]? with
  | some (.inl ci) => .inr (ci, (List.range (xN L ci)).map (xfv L G w k))
  | some (.inr (t, n)) => .inl (G.2.1 t, n, .inl (w.1 k))
  | none => .inr (0, [])
def xws (L : xLay) (G : xG) (w : xW) : va_W := (List.range L.2.1.length).map (fun k => (G.2.2 k, xcell L G w k))
def xv (G : xG) : Value → Value
  | .ref a => .ref (G.2.2 a)
  | v => v
theorem xv_int (G : xG) (x : Int32) : xv G (.int x) = .int x := rfl
theorem xv_cat (G : xG) (v : Value) : (xv G v).category = v.category := by cases v <;> rfl
def xlv (G : xG) (lv : List (Nat × Value)) : List (Nat × Value) := lv.map (fun q => (q.1, xv G q.2))
abbrev xO : Type := Option Value ⊕ Nat
abbrev xC : Type := Program × Launch × Env × State × MethodId × Array Value × List Frame × Method × Code
abbrev xs (X : xC) : State := X.2.2.2.1
abbrev xWc (R : Room) (X : xC) (H : Heap) (locs : List Loc) (cells slots : Nat) (Q : State → Prop) (g : JFrame) : Prop :=
  W X.1 X.2.1 X.2.2.1 R X.2.2.2.1 X.2.2.2.2.1 X.2.2.2.2.2.1 X.2.2.2.2.2.2.1 X.2.2.2.2.2.2.2.1 X.2.2.2.2.2.2.2.2 H locs cells slots Q g
abbrev xF (X : xC) (pc : Nat) (ls : Array Slot) (st : List Value) : JFrame := F0 X.2.2.2.2.1 pc ls st
/-- what a layout's two predicates must be: blind to what the world's own cells hold; kept by what a method may do -/
def xLok (L : xLay) : Prop :=
  (∀ (w w2 : xW) (G : xG) (ex : va_W), (∀ k i, L.2.1.length ≤ k → w2.1 k i = w.1 k i) → L.2.2.2.1 w G ex → L.2.2.2.1 w2 G ex) ∧
  (∀ (G : xG) (A A2 : Nat → Prop) (s U : State) (H H2 : Heap), s.WarmedH U.vm → (∀ q : Nat, q < H.size → ¬ A q → H2[q]? = H[q]?) → (∀ q, q < H.size → A2 q → A q) → L.2.2.2.2 G A s H → L.2.2.2.2 G A2 U H2)
def xCtx (M : xMd) (L : xLay) (X : xC) (G : xG) (A : Nat → Prop) : Prop :=
  X.1.tables.exec = Jvm.exec ∧ X.2.2.2.2.2.2.2.2.code = M.2.1 ∧ X.2.2.2.2.2.2.2.2.maxLocals = M.2.2.1 ∧ (xs X).vm.findClass M.1.cls = some X.2.2.2.2.1.cls ∧ (∀ w ∈ gtbl, w.before X.2.2.2.2.2.1 (xs X) = true) ∧
  va_K G.1 (xcl L) (xtys G.2.1) (xs X) ∧ (∀ q : Nat, (xs X).heap.size ≤ q → A q) ∧ L.2.2.2.2 G A (xs X) (xs X).heap ∧ X.2.1.flags = flags0 ∧ xLok L
def xPic (L : xLay) (G : xG) (w : xW) (ex : va_W) (A : Nat → Prop) (H0 H : Heap) (locs : List Loc) : Prop :=
  va_P G.1 (xcl L) (xws L G w ++ ex) H ∧ va_D A (xws L G w ++ ex) ∧ va_S A H0 H locs ∧ L.2.2.2.1 w G ex
def xAt (M : xMd) (pc : Nat) : xO → Prop
  | .inl none => decode M.2.1 pc = .ok (.return_, 1) ∧ M.2.2.2.1 = none
  | .inl (some (.int v)) => decode M.2.1 pc = .ok (.ireturn, 1) ∧ ∃ ty, M.2.2.2.1 = some ty ∧ narrow ty (.int v) = .int v
  | .inl (some (.long _)) => decode M.2.1 pc = .ok (.lreturn, 1) ∧ M.2.2.2.1 = some .long
  | .inl (some (.ref _)) => decode M.2.1 pc = .ok (.areturn, 1) ∧ ∃ ty, M.2.2.2.1 = some ty ∧ ((∃ n, ty = .object n) ∨ ∃ t, ty = .array t)
  | .inl (some _) => False
  | .inr q => pc = q
def xst (G : xG) : xO → List Value
  | .inl v => (v.map (xv G)).toList
  | .inr _ => []
/-- THE JUDGEMENT: at pc, with these locals, this stack, this world, the method comes to the answer r (where r is some: none says nothing), with at most b.1 new cells of b.2 slots -/
def xJ {ρ : Type} (ι : ρ → xO × xW) (M : xMd) (L : xLay) (b : Nat × Nat) (pc : Nat) (lv : List (Nat × Value)) (st : List Value) (w : xW) (r : Option ρ) : Prop :=
  ∀ (q : ρ), r = some q → ∀ (X : xC) (G : xG) (A : Nat → Prop) (ex : va_W) (H : Heap) (locs : List Loc) (ls : Array Slot) (cells slots : Nat) (Q : State → Prop),
    xCtx M L X G A → xPic L G w ex A (xs X).heap H locs → lv_has ls M.2.2.1 (xlv G lv) → cells + b.1 ≤ M.2.2.2.2.cells → slots + b.2 ≤ M.2.2.2.2.slots →
    (∀ (H1 : Heap) (locs1 : List Loc) (ls1 : Array Slot) (pc1 : Nat) (ex1 : va_W) (cells1 slots1 : Nat), xPic L G (ι q).2 ex1 A (xs X).heap H1 locs1 → cells1 ≤ cells + b.1 → slots1 ≤ slots + b.2 → ls1.size = M.2.2.1 → xAt M pc1 (ι q).1 → xWc M.2.2.2.2 X H1 locs1 cells1 slots1 Q (xF X pc1 ls1 (xst G (ι q).1))) →
    xWc M.2.2.2.2 X H locs cells slots Q (xF X pc ls (st.map (xv G)))
section XJ
variable {ρ : Type} {ι : ρ → xO × xW} {M : xMd} {L : xLay} {b : Nat × Nat} {pc : Nat} {lv : List (Nat × Value)} {st : List Value} {w : xW} {r : Option ρ}
/-- an instruction that changes neither heap nor locals -/
theorem xj_go {pc2 : Nat} {st2 : List Value} (h : ∀ (X : xC) (G : xG) (A : Nat → Prop) (H : Heap) (locs : List Loc) (ls : Array Slot) (cells slots : Nat) (Q : State → Prop), xCtx M L X G A → lv_has ls M.2.2.1 (xlv G lv) →
    xWc M.2.2.2.2 X H locs cells slots Q (xF X pc2 ls (st2.map (xv G))) → xWc M.2.2.2.2 X H locs cells slots Q (xF X pc ls (st.map (xv G)))) (k : xJ ι M L b pc2 lv st2 w r) : xJ ι M L b pc lv st w r := by
  intro o ho X G A ex H locs ls cells slots Q C P hl hc hs hend
  exact h X G A H locs ls cells slots Q C hl (k o ho X G A ex H locs ls cells slots Q C P hl hc hs hend)
theorem xj_none : xJ ι M L b pc lv st w none := fun _ h => by cases h
theorem xj_iconst {n : Int} {v : Int32} (hd : decode M.2.1 pc = .ok (.iconst n, 1)) (hv : Int32.ofInt n = v) (k : xJ ι M L b (pc + 1) lv (.int v :: st) w r) : xJ ι M L b pc lv st w r :=
  xj_go (fun _ _ _ _ _ _ _ _ _ C _ => lv_iconst C.1 C.2.1 hd hv) k
theorem xj_bipush {n : Int} {v : Int32} (hd : decode M.2.1 pc = .ok (.bipush n, 2)) (hv : (Int8.ofInt n).toInt32 = v) (k : xJ ι M L b (pc + 2) lv (.int v :: st) w r) : xJ ι M L b pc lv st w r :=
  xj_go (fun _ _ _ _ _ _ _ _ _ C _ => lv_bipush C.1 C.2.1 hd hv) k
theorem xj_sipush {n : Int} {v : Int32} (hd : decode M.2.1 pc = .ok (.sipush n, 3)) (hv : (Int16.ofInt n).toInt32 = v) (k : xJ ι M L b (pc + 3) lv (.int v :: st) w r) : xJ ι M L b pc lv st w r :=
  xj_go (fun _ _ _ _ _ _ _ _ _ C _ => lv_sipush C.1 C.2.1 hd hv) k
theorem xj_lconst {n : Fin 2} {v : Int64} (hd : decode M.2.1 pc = .ok (.lconst n, 1)) (hv : Int64.ofNat (n : Nat) = v) (k : xJ ι M L b (pc + 1) lv (.long v :: st) w r) : xJ ι M L b pc lv st w r :=
  xj_go (fun _ _ _ _ _ _ _ _ _ C _ => lv_lconst C.1 C.2.1 hd hv) k
theorem xj_ldc {i : Nat} {v : Int32} (hw : Cond.constant M.1.cls i v ∈ gtbl) (hd : decode M.2.1 pc = .ok (.ldc i, 2)) (k : xJ ι M L b (pc + 2) lv (.int v :: st) w r) : xJ ι M L b pc lv st w r :=
  xj_go (fun _ _ _ _ _ _ _ _ _ C _ => lv_ldc C.1 C.2.1 C.2.2.2.1 (C.2.2.2.2.1 _ hw) hd) k
theorem xj_ldcw {i : Nat} {v : Int32} (hw : Cond.constant M.1.cls i v ∈ gtbl) (hd : decode M.2.1 pc = .ok (.ldc_w i, 3)) (k : xJ ι M L b (pc + 3) lv (.int v :: st) w r) : xJ ι M L b pc lv st w r :=
  xj_go (fun _ _ _ _ _ _ _ _ _ C _ => lv_ldcw C.1 C.2.1 C.2.2.2.1 (C.2.2.2.2.1 _ hw) hd) k
theorem xj_ldc2 {i : Nat} {v : Int64} (hw : Cond.constantLong M.1.cls i v ∈ gtbl) (hd : decode M.2.1 pc = .ok (.ldc2_w i, 3)) (k : xJ ι M L b (pc + 3) lv (.long v :: st) w r) : xJ ι M L b pc lv st w r :=
  xj_go (fun _ _ _ _ _ _ _ _ _ C _ => lv_ldc2 C.1 C.2.1 C.2.2.2.1 (C.2.2.2.2.1 _ hw) hd) k
theorem xlv_at {G : xG} {lv : List (Nat × Value)} {k i : Nat} {v : Value} (h : lv[k]? = some (i, v)) : (xlv G lv)[k]? = some (i, xv G v) := by
  unfold xlv; rw [List.getElem?_map, h]; rfl
theorem xj_iloadn {q : Fin 4} {i : Nat} {x : Int32} (n : Nat) (hd : decode M.2.1 pc = .ok (.iload_n q, 1)) (hi : (q : Nat) = i) (hl : lv[n]? = some (i, .int x)) (k : xJ ι M L b (pc + 1) lv (.int x :: st) w r) : xJ ι M L b pc lv st w r :=
  xj_go (fun _ _ _ _ _ _ _ _ _ C hv => lv_iload_n C.1 C.2.1 hd hi (lv_at hv n (xlv_at hl))) k
theorem xj_iload {i : Nat} {x : Int32} (n : Nat) (hd : decode M.2.1 pc = .ok (.iload i, 2)) (hl : lv[n]? = some (i, .int x)) (k : xJ ι M L b (pc + 2) lv (.int x :: st) w r) : xJ ι M L b pc lv st w r :=
  xj_go (fun _ _ _ _ _ _ _ _ _ C hv => lv_iload C.1 C.2.1 hd (lv_at hv n (xlv_at hl))) k
theorem xj_lloadn {q : Fin 4} {i : Nat} {x : Int64} (n : Nat) (hd : decode M.2.1 pc = .ok (.lload_n q, 1)) (hi : (q : Nat) = i) (hl : lv[n]? = some (i, .long x)) (k : xJ ι M L b (pc + 1) lv (.long x :: st) w r) : xJ ι M L b pc lv st w r :=
  xj_go (fun _ _ _ _ _ _ _ _ _ C hv => lv_lload_n C.1 C.2.1 hd hi (lv_at hv n (xlv_at hl))) k
theorem xj_lload {i : Nat} {x : Int64} (n : Nat) (hd : decode M.2.1 pc = .ok (.lload i, 2)) (hl : lv[n]? = some (i, .long x)) (k : xJ ι M L b (pc + 2) lv (.long x :: st) w r) : xJ ι M L b pc lv st w r :=
  xj_go (fun _ _ _ _ _ _ _ _ _ C hv => lv_lload C.1 C.2.1 hd (lv_at hv n (xlv_at hl))) k
theorem xj_aloadn {q : Fin 4} {i a : Nat} (n : Nat) (hd : decode M.2.1 pc = .ok (.aload_n q, 1)) (hi : (q : Nat) = i) (hl : lv[n]? = some (i, .ref a)) (k : xJ ι M L b (pc + 1) lv (.ref a :: st) w r) : xJ ι M L b pc lv st w r :=
  xj_go (fun _ G _ _ _ _ _ _ _ C hv => lv_aload_n (x := G.2.2 a) C.1 C.2.1 hd hi (lv_at hv n (xlv_at hl))) k
theorem xj_aload {i a : Nat} (n : Nat) (hd : decode M.2.1 pc = .ok (.aload i, 2)) (hl : lv[n]? = some (i, .ref a)) (k : xJ ι M L b (pc + 2) lv (.ref a :: st) w r) : xJ ι M L b pc lv st w r :=
  xj_go (fun _ G _ _ _ _ _ _ _ C hv => lv_aload (x := G.2.2 a) C.1 C.2.1 hd (lv_at hv n (xlv_at hl))) k
theorem xj_iadd {x y : Int32} (hd : decode M.2.1 pc = .ok (.iadd, 1)) (k : xJ ι M L b (pc + 1) lv (.int (x + y) :: st) w r) : xJ ι M L b pc lv (.int y :: .int x :: st) w r :=
  xj_go (fun _ _ _ _ _ _ _ _ _ C _ => lv_iadd C.1 C.2.1 hd) k
theorem xj_isub {x y : Int32} (hd : decode M.2.1 pc = .ok (.isub, 1)) (k : xJ ι M L b (pc + 1) lv (.int (x - y) :: st) w r) : xJ ι M L b pc lv (.int y :: .int x :: st) w r :=
  xj_go (fun _ _ _ _ _ _ _ _ _ C _ => lv_isub C.1 C.2.1 hd) k
theorem xj_imul {x y : Int32} (hd : decode M.2.1 pc = .ok (.imul, 1)) (k : xJ ι M L b (pc + 1) lv (.int (x * y) :: st) w r) : xJ ι M L b pc lv (.int y :: .int x :: st) w r :=
  xj_go (fun _ _ _ _ _ _ _ _ _ C _ => lv_imul C.1 C.2.1 hd) k
theorem xj_iand {x y : Int32} (hd : decode M.2.1 pc = .ok (.iand, 1)) (k : xJ ι M L b (pc + 1) lv (.int (x &&& y) :: st) w r) : xJ ι M L b pc lv (.int y :: .int x :: st) w r :=
  xj_go (fun _ _ _ _ _ _ _ _ _ C _ => lv_iand C.1 C.2.1 hd) k
theorem xj_ior {x y : Int32} (hd : decode M.2.1 pc = .ok (.ior, 1)) (k : xJ ι M L b (pc + 1) lv (.int (x ||| y) :: st) w r) : xJ ι M L b pc lv (.int y :: .int x :: st) w r :=
  xj_go (fun _ _ _ _ _ _ _ _ _ C _ => lv_ior C.1 C.2.1 hd) k
theorem xj_ixor {x y : Int32} (hd : decode M.2.1 pc = .ok (.ixor, 1)) (k : xJ ι M L b (pc + 1) lv (.int (x ^^^ y) :: st) w r) : xJ ι M L b pc lv (.int y :: .int x :: st) w r :=
  xj_go (fun _ _ _ _ _ _ _ _ _ C _ => lv_ixor C.1 C.2.1 hd) k
theorem xj_ineg {x : Int32} (hd : decode M.2.1 pc = .ok (.ineg, 1)) (k : xJ ι M L b (pc + 1) lv (.int (-x) :: st) w r) : xJ ι M L b pc lv (.int x :: st) w r :=
  xj_go (fun _ _ _ _ _ _ _ _ _ C _ => lv_ineg C.1 C.2.1 hd) k
theorem xj_ishl {x y : Int32} (hd : decode M.2.1 pc = .ok (.ishl, 1)) (k : xJ ι M L b (pc + 1) lv (.int (x <<< (y &&& 31)) :: st) w r) : xJ ι M L b pc lv (.int y :: .int x :: st) w r :=
  xj_go (fun _ _ _ _ _ _ _ _ _ C _ => lv_ishl C.1 C.2.1 hd) k
theorem xj_ishr {x y : Int32} (hd : decode M.2.1 pc = .ok (.ishr, 1)) (k : xJ ι M L b (pc + 1) lv (.int (x >>> (y &&& 31)) :: st) w r) : xJ ι M L b pc lv (.int y :: .int x :: st) w r :=
  xj_go (fun _ _ _ _ _ _ _ _ _ C _ => lv_ishr C.1 C.2.1 hd) k
def xushr (x y : Int32) : Int32 := (x.toUInt32 >>> (y.toUInt32 &&& Int32.toUInt32 31)).toInt32
theorem xj_iushr {x y : Int32} (hd : decode M.2.1 pc = .ok (.iushr, 1)) (k : xJ ι M L b (pc + 1) lv (.int (xushr x y) :: st) w r) : xJ ι M L b pc lv (.int y :: .int x :: st) w r :=
  xj_go (fun _ _ _ _ _ _ _ _ _ C _ => lv_iushr C.1 C.2.1 hd rfl) k
theorem xj_ladd {x y : Int64} (hd : decode M.2.1 pc = .ok (.ladd, 1)) (k : xJ ι M L b (pc + 1) lv (.long (x + y) :: st) w r) : xJ ι M L b pc lv (.long y :: .long x :: st) w r :=
  xj_go (fun _ _ _ _ _ _ _ _ _ C _ => lv_ladd C.1 C.2.1 hd) k
theorem xj_lsub {x y : Int64} (hd : decode M.2.1 pc = .ok (.lsub, 1)) (k : xJ ι M L b (pc + 1) lv (.long (x - y) :: st) w r) : xJ ι M L b pc lv (.long y :: .long x :: st) w r :=
  xj_go (fun _ _ _ _ _ _ _ _ _ C _ => lv_lsub C.1 C.2.1 hd) k
theorem xj_lmul {x y : Int64} (hd : decode M.2.1 pc = .ok (.lmul, 1)) (k : xJ ι M L b (pc + 1) lv (.long (x * y) :: st) w r) : xJ ι M L b pc lv (.long y :: .long x :: st) w r :=
  xj_go (fun _ _ _ _ _ _ _ _ _ C _ => lv_lmul C.1 C.2.1 hd) k
theorem xj_land {x y : Int64} (hd : decode M.2.1 pc = .ok (.land, 1)) (k : xJ ι M L b (pc + 1) lv (.long (x &&& y) :: st) w r) : xJ ι M L b pc lv (.long y :: .long x :: st) w r :=
  xj_go (fun _ _ _ _ _ _ _ _ _ C _ => lv_land C.1 C.2.1 hd) k
theorem xj_lor {x y : Int64} (hd : decode M.2.1 pc = .ok (.lor, 1)) (k : xJ ι M L b (pc + 1) lv (.long (x ||| y) :: st) w r) : xJ ι M L b pc lv (.long y :: .long x :: st) w r :=
  xj_go (fun _ _ _ _ _ _ _ _ _ C _ => lv_lor C.1 C.2.1 hd) k
theorem xj_lneg {x : Int64} (hd : decode M.2.1 pc = .ok (.lneg, 1)) (k : xJ ι M L b (pc + 1) lv (.long (-x) :: st) w r) : xJ ι M L b pc lv (.long x :: st) w r :=
  xj_go (fun _ _ _ _ _ _ _ _ _ C _ => lv_lneg C.1 C.2.1 hd) k
def xlshl (x : Int64) (y : Int32) : Int64 := x <<< (y.toInt64 &&& 63)
def xlshr (x : Int64) (y : Int32) : Int64 := x >>> (y.toInt64 &&& 63)
def xlushr (x : Int64) (y : Int32) : Int64 := (x.toUInt64 >>> (y.toInt64.toUInt64 &&& Int64.toUInt64 63)).toInt64
theorem xj_lshl {x : Int64} {y : Int32} (hd : decode M.2.1 pc = .ok (.lshl, 1)) (k : xJ ι M L b (pc + 1) lv (.long (xlshl x y) :: st) w r) : xJ ι M L b pc lv (.int y :: .long x :: st) w r :=
  xj_go (fun _ _ _ _ _ _ _ _ _ C _ => lv_lshl C.1 C.2.1 hd rfl) k
theorem xj_lshr {x : Int64} {y : Int32} (hd : decode M.2.1 pc = .ok (.lshr, 1)) (k : xJ ι M L b (pc + 1) lv (.long (xlshr x y) :: st) w r) : xJ ι M L b pc lv (.int y :: .long x :: st) w r :=
  xj_go (fun _ _ _ _ _ _ _ _ _ C _ => lv_lshr C.1 C.2.1 hd rfl) k
theorem xj_lushr {x : Int64} {y : Int32} (hd : decode M.2.1 pc = .ok (.lushr, 1)) (k : xJ ι M L b (pc + 1) lv (.long (xlushr x y) :: st) w r) : xJ ι M L b pc lv (.int y :: .long x :: st) w r :=
  xj_go (fun _ _ _ _ _ _ _ _ _ C _ => lv_lushr C.1 C.2.1 hd rfl) k
theorem xj_i2l {x : Int32} (hd : decode M.2.1 pc = .ok (.i2l, 1)) (k : xJ ι M L b (pc + 1) lv (.long x.toInt64 :: st) w r) : xJ ι M L b pc lv (.int x :: st) w r :=
  xj_go (fun _ _ _ _ _ _ _ _ _ C _ => lv_i2l C.1 C.2.1 hd rfl) k
theorem xj_l2i {x : Int64} (hd : decode M.2.1 pc = .ok (.l2i, 1)) (k : xJ ι M L b (pc + 1) lv (.int x.toInt32 :: st) w r) : xJ ι M L b pc lv (.long x :: st) w r :=
  xj_go (fun _ _ _ _ _ _ _ _ _ C _ => lv_l2i C.1 C.2.1 hd rfl) k
theorem xj_i2b {x : Int32} (hd : decode M.2.1 pc = .ok (.i2b, 1)) (k : xJ ι M L b (pc + 1) lv (.int x.toInt8.toInt32 :: st) w r) : xJ ι M L b pc lv (.int x :: st) w r :=
  xj_go (fun _ _ _ _ _ _ _ _ _ C _ => lv_i2b C.1 C.2.1 hd rfl) k
theorem xj_i2s {x : Int32} (hd : decode M.2.1 pc = .ok (.i2s, 1)) (k : xJ ι M L b (pc + 1) lv (.int x.toInt16.toInt32 :: st) w r) : xJ ι M L b pc lv (.int x :: st) w r :=
  xj_go (fun _ _ _ _ _ _ _ _ _ C _ => lv_i2s C.1 C.2.1 hd rfl) k
theorem xj_lcmp {x y : Int64} (hd : decode M.2.1 pc = .ok (.lcmp, 1)) (k : xJ ι M L b (pc + 1) lv (.int (lg_cmp x y) :: st) w r) : xJ ι M L b pc lv (.long y :: .long x :: st) w r :=
  xj_go (fun _ _ _ _ _ _ _ _ _ C _ => W.lcmp C.1 C.2.1 hd) k
theorem xj_dup {v : Value} (hd : decode M.2.1 pc = .ok (.dup, 1)) (hv : v.category = 1) (k : xJ ι M L b (pc + 1) lv (v :: v :: st) w r) : xJ ι M L b pc lv (v :: st) w r :=
  xj_go (fun _ G _ _ _ _ _ _ _ C _ => lv_dup C.1 C.2.1 hd (by rw [xv_cat]; exact hv)) k
theorem xj_pop {v : Value} (hd : decode M.2.1 pc = .ok (.pop, 1)) (hv : v.category = 1) (k : xJ ι M L b (pc + 1) lv st w r) : xJ ι M L b pc lv (v :: st) w r :=
  xj_go (fun _ G _ _ _ _ _ _ _ C _ => lv_pop C.1 C.2.1 hd (by rw [xv_cat]; exact hv)) k
theorem xj_goto {off : Int} {tgt : Nat} (hd : decode M.2.1 pc = .ok (.goto off, 3)) (ht : (pc : Int) + off = (tgt : Int)) (k : xJ ι M L b tgt lv st w r) : xJ ι M L b pc lv st w r :=
  xj_go (fun _ _ _ _ _ _ _ _ _ C _ => lv_goto C.1 C.2.1 hd ht) k
end XJ
