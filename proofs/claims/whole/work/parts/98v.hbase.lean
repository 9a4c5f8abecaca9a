/-! the law's helpers: what they stand on -/
def hRoom : Room := { frames := 20, cells := 1, slots := 6, locals := 600 }
abbrev hWs (y : MethodName) (cc : ByteArray) (maxL : Nat) (hh : List (Nat × Nat × Nat × Nat)) : List Cond := Cond.codeWith y cc maxL (some .int) hh :: gtbl
abbrev oCell (G : xG) (o : Nat) (f : Nat → Int64) : Nat × va_E := (o, .inl (G.2.1 3, 1, .inr (.inl f)))
abbrev hWo (G : xG) (w : xW) (ex : va_W) (o : Nat) (f : Nat → Int64) : va_W := (xws lC G w ++ ex) ++ [oCell G o f]
def hPre (G : xG) (w : xW) (ex : va_W) (o : Nat) (f : Nat → Int64) (sz : Nat) (U : State) : Prop :=
  U.heap.size = sz ∧ va_P G.1 (xcl lC) (hWo G w ex o f) U.heap ∧ va_K G.1 (xcl lC) (xtys G.2.1) U ∧ va_D (fun _ => True) (hWo G w ex o f) ∧ eC w G ex ∧ stC G (va_A (hWo G w ex o f) sz) U U.heap ∧ stX (va_A (hWo G w ex o f) sz) U U.heap
abbrev hQ (G : xG) (w : xW) (ex : va_W) (o : Nat) (f : Nat → Int64) (sz : Nat) (r : Int32) (w1 : xW) (φ : (Nat → Int64) → Prop) : Array Value → State → Outcome → State → Prop :=
  va_Qi (fun (z : Int32) (_ : Unit) => z = r) (fun _ t => ∃ (ex2 : va_W) (f2 : Nat → Int64), va_P G.1 (xcl lC) (hWo G w1 ex2 o f2) t.heap ∧ va_D (va_A (hWo G w ex o f) sz) (hWo G w1 ex2 o f2) ∧ eC w1 G ex2 ∧ φ f2) (va_A (hWo G w ex o f) sz)
def hC (y : MethodName) (cc : ByteArray) (maxL : Nat) (hh : List (Nat × Nat × Nat × Nat)) (av : xG → Nat → List Value) (w w1 : xW) (r : Int32) (φ : (Nat → Int64) → Prop) : Prop :=
  ∀ l : Launch, l.flags = flags0 → ∀ (G : xG) (ex : va_W) (o : Nat) (f : Nat → Int64) (sz : Nat), vx_Met l y (hWs y cc maxL hh) hRoom (va_Pc (av G o) (hPre G w ex o f sz)) (hQ G w ex o f sz r w1 φ) (fun _ _ _ => False) 1 6 (va_A (hWo G w ex o f) sz)
theorem get_last {α : Type} (a : List α) (x : α) : (a ++ [x])[a.length]? = some x := by
  induction a with
  | nil => rfl
  | cons y a ih => exact ih
theorem set_last {α : Type} (a : List α) (x y : α) : (a ++ [x]).set a.length y = a ++ [y] := by
  induction a with
  | nil => rfl
  | cons z a ih => exact congrArg (z :: ·) ih
section HB
variable {p : Program} {l : Launch} {e : Env} {s : State} {m : MethodId} {args : Array Value} {below : List Frame} {meth : Method} {c : Code} {H : Heap} {locs : List Loc} {cells slots : Nat} {Q : State → Prop} {pc : Nat} {ls : Array Slot} {rest : List Value} {cc : ByteArray}
variable {G : xG} {w w1 : xW} {ex ex1 : va_W} {A : Nat → Prop} {o : Nat} {f f1 : Nat → Int64} {r : Int32} {φ : (Nat → Int64) → Prop} {R : Room}
theorem hC_of {y : MethodName} {maxL : Nat} {hh : List (Nat × Nat × Nat × Nat)} {av : xG → Nat → List Value} (hy : plainName y.cls = true) (hav : ∀ G o, (lg_sl (av G o)).length ≤ maxL)
    (body : ∀ (l : Launch) (p : Program) (e : Env) (s : State) (m : MethodId) (args : Array Value) (below : List Frame) (meth : Method) (c : Code) (G : xG) (ex : va_W) (o : Nat) (f : Nat → Int64) (ls : Array Slot) (A : Nat → Prop), A = va_A (hWo G w ex o f) s.heap.size → l.flags = flags0 → CallFix p m c cc maxL s args gtbl y.cls → meth.sig.returnType = some .int → meth.locks = false → c.exceptionTable.toList = tableOf hh →
      va_K G.1 (xcl lC) (xtys G.2.1) s → stC G A s s.heap → stX A s s.heap → (∀ q : Nat, s.heap.size ≤ q → A q) → cWs lC G w ex [oCell G o f] A s.heap s.heap [] → va_P G.1 (xcl lC) [oCell G o f] s.heap → lv_has ls maxL (lv_args 0 (av G o)) →
      W p l e hRoom s m args below meth c s.heap [] 0 0 (vx_MQ below (hQ G w ex o f s.heap.size r w1 φ) (fun _ _ _ => False) args s 1 6 (va_A (hWo G w ex o f) s.heap.size)) (F0 m 0 ls [])) : hC y cc maxL hh av w w1 r φ := by
  intro l hfl G ex o f sz
  refine vx_ofWH (cc := cc) (maxL := maxL) (ret := some .int) (hh := hh) hy rfl ?_
  intro p e s m args below meth c s₁ B hml hv
  obtain ⟨rfl, hsz, hP, hK, hD0, hE, hST, hX⟩ := hv
  have hts := atoms_spec (ws := hWs y cc maxL hh) B.pre
  have hown : s.vm.findClass y.cls = some m.cls := findClass_of_methodNamed B.named
  have hl := lv_entry (av G o) (n := maxL) (hav G o)
  rw [lg_entry_eq]
  generalize (lg_sl (av G o) ++ List.replicate (maxL - (lg_sl (av G o)).length) Slot.unset).toArray = ls at hl ⊢
  subst hsz
  have hD := hD0.self (sz := s.heap.size)
  refine body l p e s m _ below meth c G ex o f ls (va_A (hWo G w ex o f) s.heap.size) rfl hfl ⟨B.exec, B.bytes, hml, hown, fun x hx => hts x (List.mem_cons_of_mem _ hx)⟩ B.returns B.notSynchronized (vx_table (x := y) B (hts _ List.mem_cons_self)) hK hST hX (fun z hz => Or.inr hz) ⟨fun k q hq => hP k q (by rw [List.getElem?_append_left (List.getElem?_eq_some_iff.mp hq).1]; exact hq), hD, fun k q hq => ?_, va_S.rf, hE⟩ (fun k q hq => ?_) hl
  · exact (hP ((xws lC G w ++ ex).length + k) q (by rw [List.getElem?_append_right (by omega), Nat.add_sub_cancel_left]; exact hq)).lt
  · exact hP ((xws lC G w ++ ex).length + k) q (by rw [List.getElem?_append_right (by omega), Nat.add_sub_cancel_left]; exact hq)
theorem h_end (hx : p.tables.exec = Jvm.exec) (hb : c.code = cc) (hr : meth.sig.returnType = some .int) (hnl : meth.locks = false) (P : cWs lC G w1 ex1 [oCell G o f1] (va_A (hWo G w ex o f) s.heap.size) s.heap H locs) (hO : va_P G.1 (xcl lC) [oCell G o f1] H) (hφ : φ f1) (hc : cells ≤ 1) (hs : slots ≤ 6) (hd : decode cc pc = .ok (.ireturn, 1)) :
    W p l e hRoom s m args below meth c H locs cells slots (vx_MQ below (hQ G w ex o f s.heap.size r w1 φ) (fun _ _ _ => False) args s 1 6 (va_A (hWo G w ex o f) s.heap.size)) (F0 m pc ls [.int r]) := by
  refine W.widen (k := 1) (n := 6) hc hs (vx_ret ?_)
  exact W.iret hx hb hr (fun t ht _ => ⟨⟨r, (), rfl, rfl, ex1, f1, by rw [ht]; exact va_P.app P.1 hO, P.2.1, P.2.2.2.2, hφ⟩, P.2.2.2.1.F ht⟩) P.2.2.2.1.2.2 hd hnl
theorem h_store {x : Int64} (hx : p.tables.exec = Jvm.exec) (hb : c.code = cc) (hK : va_K G.1 (xcl lC) (xtys G.2.1) s) (P : cWs lC G w1 ex1 [oCell G o f] A s.heap H locs) (hO : va_P G.1 (xcl lC) [oCell G o f] H) (hd : decode cc pc = .ok (.lastore, 1))
    (kk : ∀ (H1 : Heap) (locs1 : List Loc) (f1 : Nat → Int64), f1 0 = x → cWs lC G w1 ex1 [oCell G o f1] A s.heap H1 locs1 → va_P G.1 (xcl lC) [oCell G o f1] H1 → W p l e R s m args below meth c H1 locs1 cells slots Q (F0 m (pc + 1) ls rest)) : W p l e R s m args below meth c H locs cells slots Q (F0 m pc ls (.long x :: .int 0 :: .ref o :: rest)) := by
  refine va_last hx hb hK (va_P.app P.1 hO) P.2.1 P.2.2.2.1 (xws lC G w1 ++ ex1).length 3 (cA := G.2.1 3) (n := 1) (f := f) (get_last _ _) rfl (xin_vp (show xin (0 : Int32) 1 from by decide)) hd (fun H1 locs1 hP hD hS => ?_)
  rw [set_last] at hP hD
  refine kk H1 locs1 (vp_updL f (0 : Int32).toNatClampNeg x) (by unfold vp_updL; exact if_pos rfl) ⟨fun k q hq => hP k q (by rw [List.getElem?_append_left (List.getElem?_eq_some_iff.mp hq).1]; exact hq), hD, fun k q hq => ?_, hS, P.2.2.2.2⟩ (fun k q hq => ?_)
  · exact (hP ((xws lC G w1 ++ ex1).length + k) q (by rw [List.getElem?_append_right (by omega), Nat.add_sub_cancel_left]; exact hq)).lt
  · exact hP ((xws lC G w1 ++ ex1).length + k) q (by rw [List.getElem?_append_right (by omega), Nat.add_sub_cancel_left]; exact hq)
theorem hO_keep {H1 : Heap} (hO : va_P G.1 (xcl lC) [oCell G o f] H) (hk : ∀ (k : Nat) (q : Nat × va_E), [oCell G o f][k]? = some q → H1[q.1]? = H[q.1]?) : va_P G.1 (xcl lC) [oCell G o f] H1 := fun k q hq => (hO k q hq).kept (hk k q hq)
theorem h_thr {M2 : xMd} {n nL idx : Nat} {own cls : String} {argv st : List Value} {w2 : xW} (S : CallFix p m c cc nL s args gtbl own) (hfl : l.flags = flags0) (hK : va_K G.1 (xcl lC) (xtys G.2.1) s) (hST : stC G A s s.heap) (hX : stX A s s.heap) (hA : ∀ q : Nat, s.heap.size ≤ q → A q) (P : cWs lC G w ex [oCell G o f] A s.heap H locs) (hO : va_P G.1 (xcl lC) [oCell G o f] H)
    (hd : decode cc pc = .ok (.invokevirtual idx, 3)) (hM : ∀ l : Launch, l.flags = flags0 → ∀ (G : xG) (ex : va_W) (sz : Nat), vx_Met l M2.1 (xwords M2) M2.2.2.2.2 (va_Pc ((Value.ref 0 :: argv).map (xv G)) (xPreX G w ex sz)) (va_Qv (fun _ : Unit => False) (fun _ _ => True) (va_A (xws lC G w ++ ex) sz)) (xXC G w ex sz cls w2) 1 6 (va_A (xws lC G w ++ ex) sz))
    (hmk : xMkV M2 n) (hlink : Cond.methodLink own idx M2.1 ∈ gtbl) (hcl : M2.1.cls = RX11) (hfit : M2.2.2.2.2.frames + 1 ≤ R.frames ∧ 8 + (M2.2.2.1 + 11) + M2.2.2.2.2.locals ≤ R.locals ∧ M2.2.2.2.2.cells = 1 ∧ M2.2.2.2.2.slots = 6)
    (hn : argv.length = n) (hls : ls.size = nL) (hst : st = (argv.map (xv G)).reverse ++ .ref (G.2.2 0) :: rest) (hsum : (rest.map fun v => v.category).sum ≤ 8) (hc1 : cells + 1 ≤ R.cells) (hs1 : slots + 6 ≤ R.slots)
    (kx : ∀ (H1 : Heap) (locs1 : List Loc) (ex1 : va_W) (q9 : Addr) (ce : Cell), cWs lC G w2 ex1 [oCell G o f] A s.heap H1 locs1 → va_P G.1 (xcl lC) [oCell G o f] H1 → H1[q9]? = some ce → ce.vm = .none → s.vm.findClass cls = some ce.cls → vx_W p l e R s m args below meth c H1 locs1 (cells + 1) (slots + 6) Q (F0 m pc ls rest) q9) :
    W p l e R s m args below meth c H locs cells slots Q (F0 m pc ls st) := by
  obtain ⟨⟨m1, m2, m3, m4⟩, m5, m6⟩ := hmk
  obtain ⟨f1, f2, f3, f4⟩ := hfit
  have hts := S.2.2.2.2
  have hc : lC.1[0]? = some (M2.1.cls, TX11, 9) := by rw [hcl]; rfl
  refine vx_callv (vx_runV (As := argv.map (xv G)) (rest := rest) (n := n) (C := M2.1.cls) (own := own) (Ts := gtbl) (bytes := M2.2.1) (maxL := M2.2.2.1) (ret := M2.2.2.2.1) (index := idx) (b := G.2.2 0) S (hM l hfl G ex H.size) ⟨callB_of n hts (xgood hts m1) rfl f3 f4 (hts _ m2) (hts _ hlink) ⟨m3.1, m3.2, m4⟩ ⟨f1, f2⟩, hts _ m5, hts _ m6⟩ ⟨fun a U g mk q => ?_, va_recv hK P.1 hc (xws_obj (ci := 0) rfl hc), fun U hU hW => ⟨rfl, P.pre hA lC_ok hK hST U hU hW, stX_call hX P.2.2.2.1 (P.sub hA) hU hW⟩⟩ rfl (by rw [List.length_map]; exact hn) hls hst (by show 2 * 0 + _ ≤ 8; omega) hd ⟨hc1, hs1⟩) P.2.2.2.1 (fun q _ h => P.sub hA q h) (fun q h => P.sub hA q h) (fun q _ h => P.sub hA q h) ?_ (fun u t H1 locs1 ht hvm hf => hf.elim)
  · obtain ⟨q0, q1, q2⟩ := q
    exact ⟨q0, (xPc_blind lC_ok (vs := (Value.ref 0 :: argv).map (xv G)) a U g mk ⟨q0, q1⟩).2, stX_same (u := U) (U := U.calling g mk a) rfl rfl q2⟩
  · intro E ce q9 u t H1 locs1 ht hvm _ hB hz hk hS hce hv hcl9
    obtain ⟨rfl, ex2, hP1, hD1, hE1⟩ := hB
    rw [ht] at hP1
    obtain ⟨g1, g2⟩ := P.next hA hP1 hD1 hE1 hz hk hS
    exact kx H1 locs1 ex2 q9 ce g1 (hO_keep hO g2) hce hv hcl9
end HB
