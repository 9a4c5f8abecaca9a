/-! fields, arrays, returns and calls of the abstract machine -/
theorem xws_at {L : xLay} {G : xG} {w : xW} {ex : va_W} {k : Nat} (hk : k < L.2.1.length) : (xws L G w ++ ex)[k]? = some (G.2.2 k, xcell L G w k) := by
  have h1 : k < (xws L G w).length := by unfold xws; rw [List.length_map, List.length_range]; exact hk
  rw [List.getElem?_append_left h1]
  unfold xws
  rw [List.getElem?_map, List.getElem?_range hk]
  rfl
theorem xlen {L : xLay} {k : Nat} {c : Nat ⊕ (Nat × Nat)} (hk : L.2.1[k]? = some c) : k < L.2.1.length := (List.getElem?_eq_some_iff.mp hk).1
theorem xws_obj {L : xLay} {G : xG} {w : xW} {ex : va_W} {k ci N : Nat} {C : String} {T : u_T} (hk : L.2.1[k]? = some (.inl ci)) (hc : L.1[ci]? = some (C, T, N)) : (xws L G w ++ ex)[k]? = some (G.2.2 k, .inr (ci, (List.range N).map (xfv L G w k))) := by
  rw [xws_at (xlen hk)]
  unfold xcell
  rw [hk]
  show some (G.2.2 k, Sum.inr (ci, (List.range (xN L ci)).map (xfv L G w k))) = _
  have : xN L ci = N := by unfold xN xcl; rw [hc]
  rw [this]
theorem xws_arr {L : xLay} {G : xG} {w : xW} {ex : va_W} {k t n : Nat} (hk : L.2.1[k]? = some (.inr (t, n))) : (xws L G w ++ ex)[k]? = some (G.2.2 k, .inl (G.2.1 t, n, .inl (w.1 k))) := by
  rw [xws_at (xlen hk)]
  unfold xcell
  rw [hk]
theorem xws_set {L : xLay} {G : xG} {w w2 : xW} {ex : va_W} {k : Nat} {e : va_E} (hk : k < L.2.1.length) (h1 : xcell L G w2 k = e) (h2 : ∀ j, j ≠ k → j < L.2.1.length → xcell L G w2 j = xcell L G w j) : (xws L G w ++ ex).set k (G.2.2 k, e) = xws L G w2 ++ ex := by
  apply List.ext_getElem?
  intro i
  have hlen : k < (xws L G w ++ ex).length := by
    rw [List.length_append]; unfold xws; rw [List.length_map, List.length_range]; omega
  by_cases hi : i = k
  · subst hi
    rw [List.getElem?_set_self hlen, xws_at hk, h1]
  · rw [List.getElem?_set_ne (Ne.symm hi)]
    by_cases hl : i < L.2.1.length
    · rw [xws_at hl, xws_at hl, h2 i hi hl]
    · have e1 : (xws L G w).length = L.2.1.length := by unfold xws; rw [List.length_map, List.length_range]
      have e2 : (xws L G w2).length = L.2.1.length := by unfold xws; rw [List.length_map, List.length_range]
      rw [List.getElem?_append_right (by omega), List.getElem?_append_right (by omega), e1, e2]
/-- a class as the tables have it: its words are there, its fields have types, their names are apart -/
def xCl (C : String) (T : u_T) (N : Nat) : Prop := (∀ q ∈ u_ws C T N, q ∈ gtbl) ∧ (∃ ty0 : Nat → FieldType, ∀ k, k < N → parseFieldDescriptor (T k).2.2.1 = some (ty0 k)) ∧ (∀ a, a < N → ∀ b, b < N → a ≠ b → (T a).2.1 ≠ (T b).2.1)
/-- the world w2 is w, but for one field -/
def xput (L : xLay) (w : xW) (k j : Nat) (v : Value) (w2 : xW) : Prop := ∀ G : xG, (∀ i, i ≠ k → i < L.2.1.length → xcell L G w2 i = xcell L G w i) ∧ xfv L G w2 k j = xv G v ∧ (∀ i, i ≠ j → xfv L G w2 k i = xfv L G w k i) ∧ ∀ i n, L.2.1.length ≤ i → w2.1 i n = w.1 i n
theorem xwi_o {w : xW} {k j a b : Nat} {x : Int32} (h : ¬ (a = k ∧ b = j)) : (xwi w k j x).1 a b = w.1 a b := if_neg h
theorem xwi_s {w : xW} {k j : Nat} {x : Int32} : (xwi w k j x).1 k j = x := if_pos ⟨rfl, rfl⟩
theorem xwi_2 {w : xW} {k j : Nat} {x : Int32} : (xwi w k j x).2 = w.2 := rfl
theorem xwl_o {w : xW} {k j a b : Nat} {x : Int64} (h : ¬ (a = k ∧ b = j)) : (xwl w k j x).2 a b = w.2 a b := if_neg h
theorem xwl_s {w : xW} {k j : Nat} {x : Int64} : (xwl w k j x).2 k j = x := if_pos ⟨rfl, rfl⟩
theorem xwl_1 {w : xW} {k j : Nat} {x : Int64} : (xwl w k j x).1 = w.1 := rfl
theorem xcell_wi {L : xLay} {G : xG} {w : xW} {k j i : Nat} {x : Int32} (hi : i ≠ k) : xcell L G (xwi w k j x) i = xcell L G w i := by
  have e : (xwi w k j x).1 i = w.1 i := funext fun b => xwi_o (fun h => hi h.1)
  have e3 : xfv L G (xwi w k j x) i = xfv L G w i := by
    funext b; unfold xfv; rw [e]; rfl
  unfold xcell
  rw [e, e3]
theorem xcell_wl {L : xLay} {G : xG} {w : xW} {k j i : Nat} {x : Int64} (hi : i ≠ k) : xcell L G (xwl w k j x) i = xcell L G w i := by
  have e : (xwl w k j x).2 i = w.2 i := funext fun b => xwl_o (fun h => hi h.1)
  have e3 : xfv L G (xwl w k j x) i = xfv L G w i := by
    funext b; unfold xfv; rw [e]; rfl
  unfold xcell
  rw [e3]
  rfl
theorem xput_i {L : xLay} {w : xW} {k j z : Nat} {x : Int32} (hk : k < L.2.1.length) (hf : L.2.2.1 k j = (0, z)) : xput L w k j (.int x) (xwi w k j x) := by
  intro G
  refine ⟨fun i hi _ => xcell_wi hi, ?_, fun i hi => ?_, fun i n hi => xwi_o (fun h => by omega)⟩
  · unfold xfv; rw [hf]; show Value.int _ = _; rw [xwi_s]; rfl
  · unfold xfv; rw [xwi_o (fun h => hi h.2)]; rfl
theorem xput_l {L : xLay} {w : xW} {k j z : Nat} {x : Int64} (hf : L.2.2.1 k j = (1, z)) : xput L w k j (.long x) (xwl w k j x) := by
  intro G
  refine ⟨fun i hi _ => xcell_wl hi, ?_, fun i hi => ?_, fun i n hi => rfl⟩
  · unfold xfv; rw [hf]; show Value.long _ = _; rw [xwl_s]; rfl
  · unfold xfv; rw [xwl_o (fun h => hi h.2)]; rfl
theorem xput_e {L : xLay} {w : xW} {k j z : Nat} {x : Int32} (hk : k < L.2.1.length) (hf : L.2.2.1 k j = (3, z)) : xput L w k j (.ref (z + x.toNatClampNeg)) (xwi w k j x) := by
  intro G
  refine ⟨fun i hi _ => xcell_wi hi, ?_, fun i hi => ?_, fun i n hi => xwi_o (fun h => by omega)⟩
  · unfold xfv; rw [hf]; show Value.ref _ = _; rw [xwi_s]; rfl
  · unfold xfv; rw [xwi_o (fun h => hi h.2)]; rfl
theorem xpf_set {L : xLay} {w w2 : xW} {G : xG} {ex : va_W} {ci k j N : Nat} {C : String} {T : u_T} {v : Value} (hk : L.2.1[k]? = some (.inl ci)) (hc : L.1[ci]? = some (C, T, N)) (hj : j < N) (hw : xput L w k j v w2) : (xws L G w ++ ex).set k (G.2.2 k, .inr (ci, ((List.range N).map (xfv L G w k)).set j (xv G v))) = xws L G w2 ++ ex := by
  obtain ⟨w1, w2a, w3, w4⟩ := hw G
  have hN : xN L ci = N := by unfold xN xcl; rw [hc]
  have hl : (List.range N).map (xfv L G w2 k) = ((List.range N).map (xfv L G w k)).set j (xv G v) := by
    apply List.ext_getElem
    · rw [List.length_map, List.length_set, List.length_map]
    · intro i h1 h2
      rw [List.getElem_set, List.getElem_map, List.getElem_map, List.getElem_range]
      by_cases h : j = i
      · rw [if_pos h, ← h]; exact w2a
      · rw [if_neg h]; exact w3 i (Ne.symm h)
  have hcell : xcell L G w2 k = .inr (ci, (List.range (xN L ci)).map (xfv L G w2 k)) := by
    unfold xcell
    rw [hk]
  refine xws_set (xlen hk) ?_ w1
  rw [hcell, hN, hl]
def xPre (L : xLay) (G : xG) (w : xW) (ex : va_W) (sz : Nat) (U : State) : Prop :=
  U.heap.size = sz ∧ va_P G.1 (xcl L) (xws L G w ++ ex) U.heap ∧ va_K G.1 (xcl L) (xtys G.2.1) U ∧ va_D (fun _ => True) (xws L G w ++ ex) ∧ L.2.2.2.1 w G ex ∧ L.2.2.2.2 G (va_A (xws L G w ++ ex) sz) U U.heap
def xQ (L : xLay) (G : xG) (w : xW) (ex : va_W) (sz : Nat) (v : Option Value) (w2 : xW) : Array Value → State → Outcome → State → Prop := fun _ st oc t =>
  (oc = .returned (v.map (xv G)) ∧ ∃ ex2 : va_W, va_P G.1 (xcl L) (xws L G w2 ++ ex2) t.heap ∧ va_D (va_A (xws L G w ++ ex) sz) (xws L G w2 ++ ex2) ∧ L.2.2.2.1 w2 G ex2) ∧ va_F (va_A (xws L G w ++ ex) sz) st t
def xMet {α : Type} (jc : α → Option Value) (M : xMd) (L : xLay) (b : Nat × Nat) (argv : List Value) (w : xW) (r : Option (α × xW)) : Prop :=
  ∀ q : α × xW, r = some q → ∀ l : Launch, l.flags = flags0 → ∀ (G : xG) (ex : va_W) (sz : Nat), Met l M.1 (xwords M) M.2.2.2.2 (va_Pc (argv.map (xv G)) (xPre L G w ex sz)) (xQ L G w ex sz (jc q.1) q.2) b.1 b.2 (va_A (xws L G w ++ ex) sz)
abbrev jI : Int32 → Option Value := fun x => some (.int x)
abbrev jL : Int64 → Option Value := fun x => some (.long x)
abbrev jV : Unit → Option Value := fun _ => none
abbrev ιI : Int32 × xW → xO × xW := fun q => (.inl (jI q.1), q.2)
abbrev ιL : Int64 × xW → xO × xW := fun q => (.inl (jL q.1), q.2)
abbrev ιV : Unit × xW → xO × xW := fun q => (.inl (jV q.1), q.2)
theorem xlv_args (G : xG) : ∀ (i : Nat) (vs : List Value), lv_args i (vs.map (xv G)) = xlv G (lv_args i vs)
  | _, [] => rfl
  | i, v :: vs => by
    show (i, xv G v) :: lv_args (if (xv G v).category = 2 then i + 2 else i + 1) (vs.map (xv G)) = (i, xv G v) :: xlv G (lv_args (if v.category = 2 then i + 2 else i + 1) vs)
    rw [xv_cat, xlv_args G]
theorem xsl_len (G : xG) (vs : List Value) : (lg_sl (vs.map (xv G))).length = (lg_sl vs).length := by
  induction vs with
  | nil => rfl
  | cons v vs ih =>
    have h1 : ∀ (u : Value) (us : List Value), (lg_sl (u :: us)).length = (if u.category = 2 then 2 else 1) + (lg_sl us).length := by
      intro u us
      show (List.flatMap _ (u :: us)).length = _
      rw [List.flatMap_cons, List.length_append]
      by_cases h : u.category = 2
      · rw [if_pos h, if_pos h]; rfl
      · rw [if_neg h, if_neg h]; rfl
    rw [List.map_cons, h1, h1, ih, xv_cat]
theorem xj_met {α : Type} {jc : α → Option Value} {M : xMd} {L : xLay} {b : Nat × Nat} {argv : List Value} {w : xW} {r : Option (α × xW)} (hL : xLok L) (hy : plainName M.1.cls = true) (hlen : (lg_sl argv).length ≤ M.2.2.1) (hrc : b.1 ≤ M.2.2.2.2.cells) (hrs : b.2 ≤ M.2.2.2.2.slots)
    (h : xJ (fun q : α × xW => (.inl (jc q.1), q.2)) M L b 0 (lv_args 0 argv) [] w r) : xMet jc M L b argv w r := by
  intro q hq l hfl G ex sz
  refine Met.ofW (cc := M.2.1) (maxL := M.2.2.1) (ret := M.2.2.2.1) hy rfl ?_
  intro p e s m args below meth c s₁ B hml hv
  obtain ⟨rfl, hsz, hP, hK, hD0, hE, hST⟩ := hv
  have hts := atoms_spec (ws := xwords M) B.pre
  have hown : s.vm.findClass M.1.cls = some m.cls := findClass_of_methodNamed B.named
  have hlocks := B.notSynchronized
  have hr := B.returns
  have hl := lv_entry (argv.map (xv G)) (n := M.2.2.1) (by rw [xsl_len]; exact hlen)
  rw [lg_entry_eq]
  generalize (lg_sl (argv.map (xv G)) ++ List.replicate (M.2.2.1 - (lg_sl (argv.map (xv G))).length) Slot.unset).toArray = ls at hl ⊢
  rw [xlv_args] at hl
  subst hsz
  have hctx : xCtx M L (p, l, e, s, m, (argv.map (xv G)).toArray, below, meth, c) G (va_A (xws L G w ++ ex) s.heap.size) :=
    ⟨B.exec, B.bytes, hml, hown, fun x hx => hts x (List.mem_cons_of_mem _ hx), hK, fun z hz => Or.inr hz, hST, hfl, hL⟩
  refine h q hq (p, l, e, s, m, (argv.map (xv G)).toArray, below, meth, c) G (va_A (xws L G w ++ ex) s.heap.size) ex s.heap [] ls 0 0 _ hctx ⟨hP, hD0.self, va_S.rf, hE⟩ hl (by omega) (by omega) ?_
  intro H1 locs1 ls1 pc1 ex1 cells1 slots1 hpic hc1 hs1 hls hat
  obtain ⟨hP1, hD1, hS1, hE1⟩ := hpic
  have hqq : ∀ t : State, t.heap = H1 → xQ L G w ex s.heap.size (jc q.1) q.2 (argv.map (xv G)).toArray s (.returned ((jc q.1).map (xv G))) t := fun t ht =>
    ⟨⟨rfl, ex1, by rw [ht]; exact hP1, hD1, hE1⟩, hS1.F ht⟩
  dsimp only [Prod.fst, Prod.snd] at hat hqq ⊢
  refine W.widen (k := b.1) (n := b.2) (by omega) (by omega) ?_
  generalize jc q.1 = jv at hat hqq ⊢
  match jv, hat with
  | none, hat => exact W.vret B.exec B.bytes (hr.trans hat.2) (fun t ht _ => hqq t ht) hS1.2.2 hat.1
  | some (.int v), hat =>
    obtain ⟨ty, h1, h2⟩ := hat.2
    exact W.zret B.exec B.bytes (hr.trans h1) h2 (fun t ht _ => hqq t ht) hS1.2.2 hat.1
  | some (.long v), hat => exact W.lret B.exec B.bytes (hr.trans hat.2) (fun t ht _ => hqq t ht) hS1.2.2 hat.1
  | some (.ref v), hat =>
    obtain ⟨ty, h1, h2⟩ := hat.2
    exact W.aret B.exec B.bytes (hr.trans h1) h2 (Or.inr ⟨_, rfl⟩) (fun t ht _ => hqq t ht) hS1.2.2 hat.1
section XC
variable {ρ : Type} {ι : ρ → xO × xW} {M : xMd} {L : xLay} {b : Nat × Nat} {pc : Nat} {lv : List (Nat × Value)} {st : List Value} {w : xW} {r : Option ρ}
theorem xj_gf {ci k j idx N : Nat} {C : String} {T : u_T} {v : Value} (hd : decode M.2.1 pc = .ok (.getfield idx, 3)) (hk : L.2.1[k]? = some (.inl ci)) (hc : L.1[ci]? = some (C, T, N)) (hcl : xCl C T N) (hj : j < N) (hlink : Cond.fieldLink M.1.cls idx (T j).1 (T j).2.1 (T j).2.2.1 ∈ gtbl) (hv : ∀ G, xfv L G w k j = xv G v)
    (kk : xJ ι M L b (pc + 3) lv (v :: st) w r) : xJ ι M L b pc lv (.ref k :: st) w r := by
  intro o ho X G A ex H locs ls cells slots Q Cx P hl hcl2 hsl hend
  exact va_get Cx.1 Cx.2.1 Cx.2.2.2.2.1 hcl.1 Cx.2.2.2.1 Cx.2.2.2.2.2.1 P.1 k (xws_obj hk hc) hc j hj (Cx.2.2.2.2.1 _ hlink) (fun _ h => h) (v := xv G v) (by rw [List.getElem?_map, List.getElem?_range hj]; exact congrArg some (hv G)) hd (kk o ho X G A ex H locs ls cells slots Q Cx P hl hcl2 hsl hend)
theorem xj_pf {ci k j idx N : Nat} {C : String} {T : u_T} {v : Value} {ty : FieldType} {w2 : xW} (hd : decode M.2.1 pc = .ok (.putfield idx, 3)) (hk : L.2.1[k]? = some (.inl ci)) (hc : L.1[ci]? = some (C, T, N)) (hcl : xCl C T N) (hj : j < N) (hlink : Cond.fieldLink M.1.cls idx (T j).1 (T j).2.1 (T j).2.2.1 ∈ gtbl)
    (hfin : (T j).2.2.2 = false) (hdp : parseFieldDescriptor (T j).2.2.1 = some ty) (hn : ∀ G, narrow ty (xv G v) = xv G v) (hfit : ∀ G, fits ty (xv G v) = true) (hw : xput L w k j v w2)
    (kk : xJ ι M L b (pc + 3) lv st w2 r) : xJ ι M L b pc lv (v :: .ref k :: st) w r := by
  intro o ho X G A ex H locs ls cells slots Q Cx P hl hcl2 hsl hend
  obtain ⟨hin, ⟨ty0, hty⟩, hnm⟩ := hcl
  have w4 := (hw G).2.2.2
  refine va_put Cx.1 Cx.2.1 Cx.2.2.2.2.1 hin ty0 hty hnm Cx.2.2.2.1 Cx.2.2.2.2.2.1 P.1 P.2.1 P.2.2.1 k (xws_obj hk hc) hc j hj (Cx.2.2.2.2.1 _ hlink) (fun _ h => h) hfin hdp (hn G) (hfit G) (by rw [List.length_map, List.length_range]; exact hj) hd (fun H1 locs1 hP1 hD1 hS1 => ?_)
  rw [xpf_set hk hc hj hw] at hP1 hD1
  exact kk o ho X G A ex H1 locs1 ls cells slots Q Cx ⟨hP1, hD1, hS1, Cx.2.2.2.2.2.2.2.2.2.1 w w2 G ex w4 P.2.2.2⟩ hl hcl2 hsl hend
theorem xj_iald {k n : Nat} {i : Int32} (hd : decode M.2.1 pc = .ok (.iaload, 1)) (hk : L.2.1[k]? = some (.inr (0, n))) (kk : xJ ι M L b (pc + 1) lv (.int (w.1 k i.toNatClampNeg) :: st) w r) : xJ ι M L b pc lv (.int i :: .ref k :: st) w (if xin i n then r else none) :=
  xj_guard fun hin => fun o ho X G A ex H locs ls cells slots Q Cx P hl hcl2 hsl hend =>
    va_iald Cx.1 Cx.2.1 Cx.2.2.2.2.2.1 P.1 k 0 (xws_arr hk) rfl (xin_vp hin) hd (kk o ho X G A ex H locs ls cells slots Q Cx P hl hcl2 hsl hend)
theorem xj_bald {k n : Nat} {i : Int32} (hd : decode M.2.1 pc = .ok (.baload, 1)) (hk : L.2.1[k]? = some (.inr (1, n))) (kk : xJ ι M L b (pc + 1) lv (.int (w.1 k i.toNatClampNeg) :: st) w r) : xJ ι M L b pc lv (.int i :: .ref k :: st) w (if xin i n then r else none) :=
  xj_guard fun hin => fun o ho X G A ex H locs ls cells slots Q Cx P hl hcl2 hsl hend =>
    va_bald Cx.1 Cx.2.1 Cx.2.2.2.2.2.1 P.1 k 1 (xws_arr hk) rfl (xin_vp hin) hd (kk o ho X G A ex H locs ls cells slots Q Cx P hl hcl2 hsl hend)
theorem xj_zald {k n : Nat} {i : Int32} (hd : decode M.2.1 pc = .ok (.baload, 1)) (hk : L.2.1[k]? = some (.inr (2, n))) (kk : xJ ι M L b (pc + 1) lv (.int (w.1 k i.toNatClampNeg) :: st) w r) : xJ ι M L b pc lv (.int i :: .ref k :: st) w (if xin i n then r else none) :=
  xj_guard fun hin => fun o ho X G A ex H locs ls cells slots Q Cx P hl hcl2 hsl hend =>
    va_zald Cx.1 Cx.2.1 Cx.2.2.2.2.2.1 P.1 k 2 (xws_arr hk) rfl (xin_vp hin) hd (kk o ho X G A ex H locs ls cells slots Q Cx P hl hcl2 hsl hend)
theorem xws_aset {G : xG} {ex : va_W} {k t n i : Nat} {x : Int32} (hk : L.2.1[k]? = some (.inr (t, n))) : (xws L G w ++ ex).set k (G.2.2 k, .inl (G.2.1 t, n, .inl (upd (w.1 k) i x))) = xws L G (xwi w k i x) ++ ex := by
  refine xws_set (xlen hk) ?_ (fun j hj _ => xcell_wi hj)
  unfold xcell
  rw [hk]
  show Sum.inl (G.2.1 t, n, Sum.inl ((xwi w k i x).1 k)) = _
  congr 4
  funext j
  unfold upd
  by_cases h : j = i
  · rw [if_pos h, h, xwi_s]
  · rw [if_neg h, xwi_o (fun q => h q.2)]
theorem xj_iast {k n : Nat} {i x : Int32} (hd : decode M.2.1 pc = .ok (.iastore, 1)) (hk : L.2.1[k]? = some (.inr (0, n))) (kk : xJ ι M L b (pc + 1) lv st (xwi w k i.toNatClampNeg x) r) : xJ ι M L b pc lv (.int x :: .int i :: .ref k :: st) w (if xin i n then r else none) :=
  xj_guard fun hin => fun o ho X G A ex H locs ls cells slots Q Cx P hl hcl2 hsl hend =>
    va_iast Cx.1 Cx.2.1 Cx.2.2.2.2.2.1 P.1 P.2.1 P.2.2.1 k 0 (xws_arr hk) rfl (xin_vp hin) hd (fun H1 locs1 hP1 hD1 hS1 => by
      rw [xws_aset hk] at hP1 hD1
      exact kk o ho X G A ex H1 locs1 ls cells slots Q Cx ⟨hP1, hD1, hS1, Cx.2.2.2.2.2.2.2.2.2.1 _ _ G ex (fun a c ha => xwi_o (fun h => by have := xlen hk; omega)) P.2.2.2⟩ hl hcl2 hsl hend)
theorem xj_bast {k n : Nat} {i x : Int32} (hd : decode M.2.1 pc = .ok (.bastore, 1)) (hk : L.2.1[k]? = some (.inr (1, n))) (kk : xJ ι M L b (pc + 1) lv st (xwi w k i.toNatClampNeg x.toInt8.toInt32) r) : xJ ι M L b pc lv (.int x :: .int i :: .ref k :: st) w (if xin i n then r else none) :=
  xj_guard fun hin => fun o ho X G A ex H locs ls cells slots Q Cx P hl hcl2 hsl hend =>
    va_bast Cx.1 Cx.2.1 Cx.2.2.2.2.2.1 P.1 P.2.1 P.2.2.1 k 1 (xws_arr hk) rfl (xin_vp hin) hd (fun H1 locs1 hP1 hD1 hS1 => by
      rw [vp_nar_byte, xws_aset hk] at hP1 hD1
      exact kk o ho X G A ex H1 locs1 ls cells slots Q Cx ⟨hP1, hD1, hS1, Cx.2.2.2.2.2.2.2.2.2.1 _ _ G ex (fun a c ha => xwi_o (fun h => by have := xlen hk; omega)) P.2.2.2⟩ hl hcl2 hsl hend)
theorem xz_vp {x : Int32} (h : xz x) : vp_nar .boolean x = x := by unfold vp_nar; rw [(xz_nar h).1]
theorem xj_zast {k n : Nat} {i x : Int32} (hd : decode M.2.1 pc = .ok (.bastore, 1)) (hk : L.2.1[k]? = some (.inr (2, n))) (kk : xJ ι M L b (pc + 1) lv st (xwi w k i.toNatClampNeg x) r) : xJ ι M L b pc lv (.int x :: .int i :: .ref k :: st) w (if xin i n ∧ xz x then r else none) :=
  xj_guard fun hin => fun o ho X G A ex H locs ls cells slots Q Cx P hl hcl2 hsl hend =>
    va_zast Cx.1 Cx.2.1 Cx.2.2.2.2.2.1 P.1 P.2.1 P.2.2.1 k 2 (xws_arr hk) rfl (xin_vp hin.1) hd (fun H1 locs1 hP1 hD1 hS1 => by
      rw [xz_vp hin.2, xws_aset hk] at hP1 hD1
      exact kk o ho X G A ex H1 locs1 ls cells slots Q Cx ⟨hP1, hD1, hS1, Cx.2.2.2.2.2.2.2.2.2.1 _ _ G ex (fun a c ha => xwi_o (fun h => by have := xlen hk; omega)) P.2.2.2⟩ hl hcl2 hsl hend)
/-- an end, or a stop at a place with nothing on the stack -/
theorem xj_end {q : ρ} (hw : (ι q).2 = w) (h1 : xAt M pc (ι q).1) (h2 : ∀ G, xst G (ι q).1 = st.map (xv G)) : xJ ι M L b pc lv st w (some q) := by
  intro o ho X G A ex H locs ls cells slots Q Cx P hl hcl2 hsl hend
  cases ho
  have h := hend H locs ls pc ex cells slots (by rw [hw]; exact P) (Nat.le_add_right _ _) (Nat.le_add_right _ _) hl.1 h1
  rw [h2 G] at h
  exact h
def xbd {α β : Type} (rc : Option (α × xW)) (F : α → xW → Option β) : Option β := rc.bind fun q => F q.1 q.2
/-- a call of a method whose contract stands: the answer and the world go on -/
theorem xj_call {α : Type} {jc : α → Option Value} {b2 b3 : Nat × Nat} {st2 : List Value} {rc : Option (α × xW)} {F : α → xW → Option ρ} (pu : α → List Value) (hpu : ∀ (G : xG) (x : α), ((jc x).map (xv G)).toList = (pu x).map (xv G)) (hb1 : b2.1 + b3.1 ≤ b.1) (hb2 : b2.2 + b3.2 ≤ b.2)
    (h : ∀ (q : α × xW), rc = some q → ∀ (X : xC) (G : xG) (A : Nat → Prop) (ex : va_W) (H : Heap) (locs : List Loc) (ls : Array Slot) (cells slots : Nat), xCtx M L X G A → xPic L G w ex A (xs X).heap H locs → lv_has ls M.2.2.1 (xlv G lv) → cells + b2.1 ≤ M.2.2.2.2.cells → slots + b2.2 ≤ M.2.2.2.2.slots →
      ∃ a : Array Value, va_Run X.1 X.2.1 X.2.2.1 M.2.2.2.2 X.2.2.2.1 X.2.2.2.2.1 X.2.2.2.2.2.1 X.2.2.2.2.2.2.1 X.2.2.2.2.2.2.2.1 X.2.2.2.2.2.2.2.2 H locs cells slots b2.1 b2.2 (xF X pc ls (st.map (xv G))) (st2.map (xv G)) (xQ L G w ex H.size (jc q.1) q.2 a) (va_A (xws L G w ++ ex) H.size))
    (k : ∀ (x : α) (w1 : xW), rc = some (x, w1) → xJ ι M L b3 (pc + 3) lv (pu x ++ st2) w1 (F x w1)) : xJ ι M L b pc lv st w (xbd rc F) := by
  intro o ho X G A ex H locs ls cells slots Q Cx P hl hcl2 hsl hend
  unfold xbd at ho
  cases hrc : rc with
  | none => rw [hrc] at ho; cases ho
  | some q =>
    rw [hrc] at ho
    have ho2 : F q.1 q.2 = some o := ho
    obtain ⟨a, hr⟩ := h q hrc X G A ex H locs ls cells slots Cx P hl (by omega) (by omega)
    intro T hT XX
    obtain ⟨v, st₀, t, T', LL, h0, X', hL, e1, e2, ⟨⟨hv, ex2, hP1, hD1, hE1⟩, hz, hkeep⟩, stp⟩ := hr T hT XX
    cases hv
    rw [h0] at hz hkeep
    rw [← e1] at hP1 hz hkeep
    have hsub : ∀ z, va_A (xws L G w ++ ex) H.size z → A z := fun z hzz => by
      rcases hzz with ⟨kk, e, hh⟩ | hh
      · exact P.2.1.2 kk (z, e) hh
      · exact Cx.2.2.2.2.2.2.1 z (Nat.le_trans P.2.2.1.1 hh)
    have hS2 : va_S A (xs X).heap T'.heap (locs ++ LL) := ⟨Nat.le_trans P.2.2.1.1 hz, fun z h1 h2 => by
        rw [hkeep z (Nat.lt_of_lt_of_le h1 P.2.2.1.1) (fun hh => h2 (hsub z hh))]; exact P.2.2.1.2.1 z h1 h2, fun z hzz => by
        rcases List.mem_append.mp hzz with hh | hh
        · exact P.2.2.1.2.2 z hh
        · exact hsub _ (hL z hh)⟩
    have hgo := k q.1 q.2 (by rw [hrc]) o ho2 X G A ex2 T'.heap (locs ++ LL) ls (cells + b2.1) (slots + b2.2) Q Cx ⟨hP1, hD1.weaken (fun _ _ _ hh => hsub _ hh), hS2, hE1⟩ hl (by omega) (by omega) (fun H1 locs1 ls1 pc1 ex1 cells1 slots1 g1 g2 g3 g4 g5 => hend H1 locs1 ls1 pc1 ex1 cells1 slots1 g1 (by omega) (by omega) g4 g5)
    have hst : ((jc q.1).map (xv G)).toList ++ st2.map (xv G) = (pu q.1 ++ st2).map (xv G) := by rw [hpu, List.map_append]
    rw [← hst] at hgo
    obtain ⟨t2, a1, b1⟩ := hgo T' rfl X'
    exact ⟨t2, stp t2 a1, b1⟩
theorem xPc_blind {L : xLay} (hL : xLok L) {G : xG} {w : xW} {ex : va_W} {sz : Nat} {vs : List Value} : FrameBlind (va_Pc vs (xPre L G w ex sz)) := fun a U g mk q => by
  obtain ⟨q0, q1, q2, q3, q4, q5, q6⟩ := q
  exact ⟨q0, q1, q2, va_K.moved (u := U) (U := U.calling g mk a) (Vm.Alike.refl U.vm) q3, q4, q5, hL.2 G _ _ U (U.calling g mk a) U.heap U.heap (State.WarmedH.refl U) (fun _ _ _ => rfl) (fun _ _ h => h) q6⟩
theorem xPre_of {G : xG} {A : Nat → Prop} {ex : va_W} {H : Heap} {locs : List Loc} {X : xC} (Cx : xCtx M L X G A) (P : xPic L G w ex A (xs X).heap H locs) (U : State) (hU : U.heap = H) (hW : (xs X).WarmedH U.vm) : xPre L G w ex H.size U := by
  refine ⟨by rw [hU], by rw [hU]; exact P.1, va_K.moved hW.alike Cx.2.2.2.2.2.1, P.2.1.weaken (fun _ _ _ _ => trivial), P.2.2.2, ?_⟩
  rw [hU]
  refine Cx.2.2.2.2.2.2.2.2.2.2 G A _ (xs X) U (xs X).heap H hW (fun q h1 h2 => P.2.2.1.2.1 q h1 h2) (fun q hq hh => ?_) Cx.2.2.2.2.2.2.2.1
  rcases hh with ⟨kk, e, hh⟩ | hh
  · exact P.2.1.2 kk (q, e) hh
  · exact Cx.2.2.2.2.2.2.1 q (Nat.le_trans P.2.2.1.1 hh)
/-- what the tables say of a method that is called -/
def xMk (M2 : xMd) (n : Nat) : Prop := Cond.code M2.1 M2.2.1 M2.2.2.1 M2.2.2.2.1 ∈ gtbl ∧ Cond.initialized M2.1.cls ∈ gtbl ∧ (M2.1.cls ≠ "java/lang/invoke/MethodHandle" ∧ M2.1.cls ≠ "java/lang/invoke/VarHandle") ∧ (parseMethodDescriptor M2.1.desc).map (fun d => d.parameters.length) = some n
def xMkV (M2 : xMd) (n : Nat) : Prop := xMk M2 n ∧ Cond.instanceMethod M2.1 ∈ gtbl ∧ Cond.selects M2.1.cls M2.1 M2.1 ∈ gtbl
def xMkS (M2 : xMd) (n : Nat) : Prop := xMk M2 n ∧ Cond.static M2.1 ∈ gtbl
def xFitR (M M2 : xMd) (b2 : Nat × Nat) : Prop := M2.2.2.2.2.frames + 1 ≤ M.2.2.2.2.frames ∧ 8 + (M2.2.2.1 + 11) + M2.2.2.2.2.locals ≤ M.2.2.2.2.locals ∧ M2.2.2.2.2.cells = b2.1 ∧ M2.2.2.2.2.slots = b2.2
theorem xcat_sum (G : xG) (st : List Value) : ((st.map (xv G)).map fun v => v.category).sum = (st.map fun v => v.category).sum := by
  congr 1
  rw [List.map_map]
  apply List.map_congr_left
  intro v _
  exact xv_cat G v
theorem xgood {s : State} {args : Array Value} {M2 : xMd} (hts : ∀ w ∈ gtbl, w.before args s = true) (hm : Cond.code M2.1 M2.2.1 M2.2.2.1 M2.2.2.2.1 ∈ gtbl) : GoodIn gtbl (xwords M2) := fun z hz => by
  rcases List.mem_cons.mp hz with rfl | hz
  · exact gt_good _ hm
  · exact gt_good _ hz
theorem xj_callV {α : Type} {jc : α → Option Value} {M2 : xMd} {n idx k ci N : Nat} {T : u_T} {b2 b3 : Nat × Nat} {argv rest : List Value} {rc : Option (α × xW)} {F : α → xW → Option ρ} (pu : α → List Value) (hpu : ∀ (G : xG) (x : α), ((jc x).map (xv G)).toList = (pu x).map (xv G)) (hb1 : b2.1 + b3.1 ≤ b.1) (hb2 : b2.2 + b3.2 ≤ b.2)
    (hd : decode M.2.1 pc = .ok (.invokevirtual idx, 3)) (hM : xMet jc M2 L b2 (.ref k :: argv) w rc) (hmk : xMkV M2 n) (hlink : Cond.methodLink M.1.cls idx M2.1 ∈ gtbl) (hfit : xFitR M M2 b2) (hk : L.2.1[k]? = some (.inl ci)) (hc : L.1[ci]? = some (M2.1.cls, T, N)) (hn : argv.length = n) (hst : st = argv.reverse ++ .ref k :: rest) (hsum : (rest.map fun v => v.category).sum ≤ 8)
    (kk : ∀ (x : α) (w1 : xW), rc = some (x, w1) → xJ ι M L b3 (pc + 3) lv (pu x ++ rest) w1 (F x w1)) : xJ ι M L b pc lv st w (xbd rc F) := by
  refine xj_call pu hpu hb1 hb2 ?_ kk
  intro q hq X G A ex H locs ls cells slots Cx P hl hc1 hs1
  obtain ⟨⟨m1, m2, m3, m4⟩, m5, m6⟩ := hmk
  obtain ⟨f1, f2, f3, f4⟩ := hfit
  have hts := Cx.2.2.2.2.1
  refine ⟨_, va_runV (As := argv.map (xv G)) (rest := rest.map (xv G)) (n := n) (C := M2.1.cls) (own := M.1.cls) (Ts := gtbl) (bytes := M2.2.1) (maxL := M2.2.2.1) (ret := M2.2.2.2.1) (index := idx) (b := G.2.2 k) ⟨Cx.1, Cx.2.1, Cx.2.2.1, Cx.2.2.2.1, hts⟩ (hM q hq X.2.1 Cx.2.2.2.2.2.2.2.2.1 G ex H.size) ⟨callB_of n hts (xgood hts m1) rfl f3 f4 (hts _ m2) (hts _ hlink) ⟨m3.1, m3.2, m4⟩ ⟨f1, f2⟩, hts _ m5, hts _ m6⟩ ⟨xPc_blind Cx.2.2.2.2.2.2.2.2.2, va_recv Cx.2.2.2.2.2.1 P.1 hc (xws_obj hk hc), fun U hU hW => ⟨rfl, xPre_of Cx P U hU hW⟩⟩ rfl (by rw [List.length_map]; exact hn) hl.1 ?_ ?_ hd ⟨hc1, hs1⟩⟩
  · show st.map (xv G) = _
    rw [hst, List.map_append, List.map_reverse]; rfl
  · show 2 * 0 + _ ≤ 8
    rw [xcat_sum]; omega
theorem xj_callS {α : Type} {jc : α → Option Value} {M2 : xMd} {n idx : Nat} {b2 b3 : Nat × Nat} {argv rest : List Value} {rc : Option (α × xW)} {F : α → xW → Option ρ} (pu : α → List Value) (hpu : ∀ (G : xG) (x : α), ((jc x).map (xv G)).toList = (pu x).map (xv G)) (hb1 : b2.1 + b3.1 ≤ b.1) (hb2 : b2.2 + b3.2 ≤ b.2)
    (hd : decode M.2.1 pc = .ok (.invokestatic idx, 3)) (hM : xMet jc M2 L b2 argv w rc) (hmk : xMkS M2 n) (hlink : Cond.methodLink M.1.cls idx M2.1 ∈ gtbl) (hfit : xFitR M M2 b2) (hn : argv.length = n) (hst : st = argv.reverse ++ rest) (hsum : (rest.map fun v => v.category).sum ≤ 8)
    (kk : ∀ (x : α) (w1 : xW), rc = some (x, w1) → xJ ι M L b3 (pc + 3) lv (pu x ++ rest) w1 (F x w1)) : xJ ι M L b pc lv st w (xbd rc F) := by
  refine xj_call pu hpu hb1 hb2 ?_ kk
  intro q hq X G A ex H locs ls cells slots Cx P hl hc1 hs1
  obtain ⟨⟨m1, m2, m3, m4⟩, m5⟩ := hmk
  obtain ⟨f1, f2, f3, f4⟩ := hfit
  have hts := Cx.2.2.2.2.1
  refine ⟨_, va_runS (As := argv.map (xv G)) (rest := rest.map (xv G)) (n := n) (own := M.1.cls) (Ts := gtbl) (bytes := M2.2.1) (maxL := M2.2.2.1) (ret := M2.2.2.2.1) (index := idx) ⟨Cx.1, Cx.2.1, Cx.2.2.1, Cx.2.2.2.1, hts⟩ (hM q hq X.2.1 Cx.2.2.2.2.2.2.2.2.1 G ex H.size) ⟨callB_of n hts (xgood hts m1) rfl f3 f4 (hts _ m2) (hts _ hlink) ⟨m3.1, m3.2, m4⟩ ⟨f1, f2⟩, hts _ m5⟩ ⟨xPc_blind Cx.2.2.2.2.2.2.2.2.2, fun U hU hW => ⟨rfl, xPre_of Cx P U hU hW⟩⟩ rfl (by rw [List.length_map]; exact hn) hl.1 ?_ ?_ hd ⟨hc1, hs1⟩⟩
  · show st.map (xv G) = _
    rw [hst, List.map_append, List.map_reverse]
  · show 2 * 0 + _ ≤ 8
    rw [xcat_sum]; omega
end XC
