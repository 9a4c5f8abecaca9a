/-! the law: two worlds side by side, and the calls of both -/
theorem dswap {A : Nat → Prop} {a b : va_W} (h : va_D A (a ++ b)) : va_D A (b ++ a) := by
  have left : ∀ (k : Nat) (q : Nat × va_E), a[k]? = some q → (a ++ b)[k]? = some q := fun k q h => by rw [List.getElem?_append_left (List.getElem?_eq_some_iff.mp h).1]; exact h
  have right : ∀ (k : Nat) (q : Nat × va_E), b[k]? = some q → (a ++ b)[a.length + k]? = some q := fun k q h => by rw [List.getElem?_append_right (by omega), Nat.add_sub_cancel_left]; exact h
  refine va_D.app ⟨fun i j p q h1 h2 h3 => ?_, fun k q hq => h.2 _ q (right k q hq)⟩ ⟨fun i j p q h1 h2 h3 => h.1 i j p q (left i p h1) (left j q h2) h3, fun k q hq => h.2 k q (left k q hq)⟩ (fun i j x y hx hy hxy => ?_)
  · have := h.1 _ _ p q (right i p h1) (right j q h2) h3
    omega
  · have := h.1 _ _ x y (right i x hx) (left j y hy) hxy
    have := (List.getElem?_eq_some_iff.mp hy).1
    omega
section LAW
variable {p : Program} {l : Launch} {e : Env} {s : State} {m : MethodId} {args : Array Value} {below : List Frame} {meth : Method} {c : Code} {H : Heap} {locs : List Loc} {cells slots : Nat} {Q : State → Prop} {pc : Nat} {ls : Array Slot} {st rest : List Value} {cc : ByteArray}
variable {Gc Gm : xG} {wc wm w1 : xW} {ex : va_W} {A : Nat → Prop} {o : Nat} {f : Nat → Int64} {R : Room}
def lwP (Gc Gm : xG) (o : Nat) (f : Nat → Int64) (wc wm : xW) (ex : va_W) (A : Nat → Prop) (H0 H : Heap) (locs : List Loc) : Prop :=
  va_P Gc.1 (xcl lC) (xws lC Gc wc ++ ex) H ∧ va_P Gc.1 (xcl lC) [oCell Gc o f] H ∧ va_P Gm.1 (xcl lM) (xws lM Gm wm ++ []) H ∧ va_D A (((xws lC Gc wc ++ ex) ++ [oCell Gc o f]) ++ (xws lM Gm wm ++ [])) ∧ va_S A H0 H locs ∧ eC wc Gc ex
theorem lwP.toC (P : lwP Gc Gm o f wc wm ex A s.heap H locs) : cWs lC Gc wc ex ([oCell Gc o f] ++ (xws lM Gm wm ++ [])) A s.heap H locs := by
  refine ⟨P.1, by rw [← List.append_assoc]; exact P.2.2.2.1, fun k q hq => ?_, P.2.2.2.2.1, P.2.2.2.2.2⟩
  by_cases hk : k < 1
  · rw [List.getElem?_append_left hk] at hq; exact (P.2.1 k q hq).lt
  · rw [List.getElem?_append_right (Nat.not_lt.mp hk)] at hq; exact (P.2.2.1 _ q hq).lt
theorem lwP.toM (P : lwP Gc Gm o f wc wm ex A s.heap H locs) : cWs lM Gm wm [] ((xws lC Gc wc ++ ex) ++ [oCell Gc o f]) A s.heap H locs := by
  refine ⟨P.2.2.1, (dswap P.2.2.2.1), fun k q hq => ?_, P.2.2.2.2.1, rfl⟩
  by_cases hk : k < (xws lC Gc wc ++ ex).length
  · rw [List.getElem?_append_left hk] at hq; exact (P.1 k q hq).lt
  · rw [List.getElem?_append_right (Nat.not_lt.mp hk)] at hq; exact (P.2.1 _ q hq).lt
theorem lwP.ofC {H1 : Heap} {locs1 : List Loc} {ex1 : va_W} (P : lwP Gc Gm o f wc wm ex A s.heap H locs) (Z : cWs lC Gc w1 ex1 ([oCell Gc o f] ++ (xws lM Gm wm ++ [])) A s.heap H1 locs1) (hk : ∀ (k : Nat) (q : Nat × va_E), ([oCell Gc o f] ++ (xws lM Gm wm ++ []))[k]? = some q → H1[q.1]? = H[q.1]?) : lwP Gc Gm o f w1 wm ex1 A s.heap H1 locs1 := by
  refine ⟨Z.1, fun k q hq => (P.2.1 k q hq).kept (hk k q (by rw [List.getElem?_append_left (List.getElem?_eq_some_iff.mp hq).1]; exact hq)), fun k q hq => (P.2.2.1 k q hq).kept (hk (1 + k) q (by rw [List.getElem?_append_right (by show 1 ≤ 1 + k; omega)]; show (xws lM Gm wm ++ [])[1 + k - 1]? = some q; rw [Nat.add_sub_cancel_left]; exact hq)), by rw [List.append_assoc]; exact Z.2.1, Z.2.2.2.1, Z.2.2.2.2⟩
theorem lwP.ofM {H1 : Heap} {locs1 : List Loc} {ex1 : va_W} (P : lwP Gc Gm o f wc wm ex A s.heap H locs) (Z : cWs lM Gm w1 ex1 ((xws lC Gc wc ++ ex) ++ [oCell Gc o f]) A s.heap H1 locs1) (hk : ∀ (k : Nat) (q : Nat × va_E), ((xws lC Gc wc ++ ex) ++ [oCell Gc o f])[k]? = some q → H1[q.1]? = H[q.1]?) : lwP Gc Gm o f wc w1 ex A s.heap H1 locs1 := by
  have he : ex1 = [] := Z.2.2.2.2
  subst he
  refine ⟨fun k q hq => (P.1 k q hq).kept (hk k q (by rw [List.getElem?_append_left (List.getElem?_eq_some_iff.mp hq).1]; exact hq)), fun k q hq => (P.2.1 k q hq).kept (hk ((xws lC Gc wc ++ ex).length + k) q (by rw [List.getElem?_append_right (by omega), Nat.add_sub_cancel_left]; exact hq)), Z.1, (dswap Z.2.1), Z.2.2.2.1, P.2.2.2.2.2⟩
/-- what stands throughout the law's body -/
def LX (p : Program) (l : Launch) (s : State) (m : MethodId) (args : Array Value) (c : Code) (cc : ByteArray) (Gc Gm : xG) (A : Nat → Prop) : Prop :=
  CallFix p m c cc 7 s args gtbl RL ∧ l.flags = flags0 ∧ (va_K Gc.1 (xcl lC) (xtys Gc.2.1) s ∧ va_K Gm.1 (xcl lM) (xtys Gm.2.1) s) ∧ stC Gc A s s.heap ∧ stM Gm A s s.heap ∧ stX A s s.heap ∧ ∀ q : Nat, s.heap.size ≤ q → A q
theorem law_c {α : Type} {jc : α → Option Value} {v : α} {M2 : xMd} {n idx : Nat} {b2 : Nat × Nat} {argv : List Value} (X : LX p l s m args c cc Gc Gm A) (P : lwP Gc Gm o f wc wm ex A s.heap H locs)
    (hd : decode cc pc = .ok (.invokevirtual idx, 3)) (hM : xMet jc M2 lC b2 (.ref 0 :: argv) wc (some (v, w1))) (hmk : xMkV M2 n) (hlink : Cond.methodLink RL idx M2.1 ∈ gtbl) (hcl : M2.1.cls = RX11) (hfit : M2.2.2.2.2.frames + 1 ≤ R.frames ∧ 8 + (M2.2.2.1 + 11) + M2.2.2.2.2.locals ≤ R.locals ∧ M2.2.2.2.2.cells = b2.1 ∧ M2.2.2.2.2.slots = b2.2)
    (hn : argv.length = n) (hls : ls.size = 7) (hst : st = (argv.map (xv Gc)).reverse ++ .ref (Gc.2.2 0) :: rest) (hsum : (rest.map fun v => v.category).sum ≤ 8) (hc1 : cells + b2.1 ≤ R.cells) (hs1 : slots + b2.2 ≤ R.slots)
    (kk : ∀ (H1 : Heap) (locs1 : List Loc) (ex1 : va_W), lwP Gc Gm o f w1 wm ex1 A s.heap H1 locs1 → W p l e R s m args below meth c H1 locs1 (cells + b2.1) (slots + b2.2) Q (F0 m (pc + 3) ls (((jc v).map (xv Gc)).toList ++ rest))) :
    W p l e R s m args below meth c H locs cells slots Q (F0 m pc ls st) := by
  obtain ⟨S, hfl, ⟨hK, hKm⟩, hST, hSM, hX, hA⟩ := X
  exact core_V (ci := 0) (k := 0) (T := TX11) (N := 9) S hfl lC_ok hK hST hA P.toC hd hM hmk hlink hfit rfl (by rw [hcl]; rfl) hn hls hst hsum hc1 hs1 (fun H1 locs1 ex1 Z hk => kk H1 locs1 ex1 (P.ofC Z hk))
theorem law_m {α : Type} {jc : α → Option Value} {v : α} {M2 : xMd} {n idx : Nat} {b2 : Nat × Nat} {argv : List Value} (X : LX p l s m args c cc Gc Gm A) (P : lwP Gc Gm o f wc wm ex A s.heap H locs)
    (hd : decode cc pc = .ok (.invokevirtual idx, 3)) (hM : xMet jc M2 lM b2 (.ref 0 :: argv) wm (some (v, w1))) (hmk : xMkV M2 n) (hlink : Cond.methodLink RL idx M2.1 ∈ gtbl) (hcl : M2.1.cls = RX12) (hfit : M2.2.2.2.2.frames + 1 ≤ R.frames ∧ 8 + (M2.2.2.1 + 11) + M2.2.2.2.2.locals ≤ R.locals ∧ M2.2.2.2.2.cells = b2.1 ∧ M2.2.2.2.2.slots = b2.2)
    (hn : argv.length = n) (hls : ls.size = 7) (hst : st = (argv.map (xv Gm)).reverse ++ .ref (Gm.2.2 0) :: rest) (hsum : (rest.map fun v => v.category).sum ≤ 8) (hc1 : cells + b2.1 ≤ R.cells) (hs1 : slots + b2.2 ≤ R.slots)
    (kk : ∀ (H1 : Heap) (locs1 : List Loc), lwP Gc Gm o f wc w1 ex A s.heap H1 locs1 → W p l e R s m args below meth c H1 locs1 (cells + b2.1) (slots + b2.2) Q (F0 m (pc + 3) ls (((jc v).map (xv Gm)).toList ++ rest))) :
    W p l e R s m args below meth c H locs cells slots Q (F0 m pc ls st) := by
  obtain ⟨S, hfl, ⟨hK, hKm⟩, hST, hSM, hX, hA⟩ := X
  exact core_V (ci := 0) (k := 0) (T := TX12) (N := 48) S hfl lM_ok hKm hSM hA P.toM hd hM hmk hlink hfit rfl (by rw [hcl]; rfl) hn hls hst hsum hc1 hs1 (fun H1 locs1 ex1 Z hk => kk H1 locs1 (P.ofM Z hk))
theorem law_h {y : MethodName} {hcb : ByteArray} {maxL idx n : Nat} {hh : List (Nat × Nat × Nat × Nat)} {av : xG → Nat → List Value} {r : Int32} {φ : (Nat → Int64) → Prop} (X : LX p l s m args c cc Gc Gm A) (P : lwP Gc Gm o f wc wm ex A s.heap H locs)
    (hd : decode cc pc = .ok (.invokestatic idx, 3)) (hM : hC y hcb maxL hh av wc w1 r φ) (hwd : Cond.codeWith y hcb maxL (some .int) hh ∈ gtbl) (hini : Cond.initialized y.cls ∈ gtbl) (hstt : Cond.static y ∈ gtbl) (hlink : Cond.methodLink RL idx y ∈ gtbl) (hy : (y.cls ≠ "java/lang/invoke/MethodHandle" ∧ y.cls ≠ "java/lang/invoke/VarHandle") ∧ (parseMethodDescriptor y.desc).map (fun d => d.parameters.length) = some n)
    (hfit : 21 ≤ R.frames ∧ 8 + (maxL + 11) + 600 ≤ R.locals) (hn : (av Gc o).length = n) (hls : ls.size = 7) (hst : st = (av Gc o).reverse ++ rest) (hsum : (rest.map fun v => v.category).sum ≤ 8) (hc1 : cells + 1 ≤ R.cells) (hs1 : slots + 6 ≤ R.slots)
    (kk : ∀ (H1 : Heap) (locs1 : List Loc) (ex1 : va_W) (f1 : Nat → Int64), φ f1 → lwP Gc Gm o f1 w1 wm ex1 A s.heap H1 locs1 → W p l e R s m args below meth c H1 locs1 (cells + 1) (slots + 6) Q (F0 m (pc + 3) ls (.int r :: rest))) :
    W p l e R s m args below meth c H locs cells slots Q (F0 m pc ls st) := by
  obtain ⟨S, hfl, ⟨hK, hKm⟩, hST, hSM, hX, hA⟩ := X
  have hts := S.2.2.2.2
  have hsub : ∀ z, va_A (hWo Gc wc ex o f) H.size z → A z := fun z hzz => by
    rcases hzz with ⟨kk, e, hh⟩ | hh
    · exact P.2.2.2.1.2 kk (z, e) (by rw [List.getElem?_append_left (List.getElem?_eq_some_iff.mp hh).1]; exact hh)
    · exact hA z (Nat.le_trans P.2.2.2.2.1.1 hh)
  have hws : ∀ w ∈ hWs y hcb maxL hh, ∀ (a' : Array Value) (U : State), s.WarmedH U.vm → w.before a' U = true := pay_in hts (fun z hz => by
    rcases List.mem_cons.mp hz with rfl | hz
    · exact gt_good _ hwd
    · exact gt_good _ hz)
  have hM0 : vx_Met l y (hWs y hcb maxL hh) hRoom (va_Pc (av Gc o) (hPre Gc wc ex o f H.size)) (hQ Gc wc ex o f H.size r w1 φ) (vx_X (fun _ : Unit => True) (fun _ _ _ => False) (fun _ => False)) 1 6 (va_A (hWo Gc wc ex o f) H.size) := by
    have h0 := hM l hfl Gc ex o f H.size
    have hXC : (fun _ _ _ => False : String → State → State → Prop) = vx_X (fun _ : Unit => True) (fun _ _ _ => False) (fun _ => False) := by
      funext E a b
      exact propext ⟨False.elim, fun ⟨_, _, h, _⟩ => h⟩
    rw [← hXC]
    exact h0
  refine vx_calli (post := fun (z : Int32) (_ : Unit) => z = r) (px := fun _ : Unit => True) (BX := fun _ _ _ => False) (AX := fun _ => False) (vx_runSX (As := av Gc o) (rest := rest) (n := n) (own := RL) (Ts := gtbl) (bytes := hcb) (maxL := maxL) (ret := some .int) (hh := hh) (index := idx) S hM0 ⟨⟨rfl, rfl, hfit.1, hfit.2, hws, List.mem_cons_self⟩, hts _ hwd, hts _ hini, hy.1, fun sig h => ?_, hts _ hlink, hts _ hstt⟩ ⟨?_, fun U hU hW => ⟨rfl, ?_⟩⟩ rfl hn hls hst (by show 2 * 0 + _ ≤ 8; omega) hd ⟨hc1, hs1⟩) P.2.2.2.2.1 (fun q _ h => hsub q h) hsub (fun q _ h => h.elim) (fun E ce q9 u t H1 locs1 _ _ _ hf => hf.elim) ?_
  · have h2 := hy.2
    rw [h] at h2
    exact (Option.some.inj h2).symm
  · intro a U g mk q
    obtain ⟨q0, q1, q2, q3, q4, q5, q6, q7⟩ := q
    exact ⟨q0, q1, q2, va_K.moved (u := U) (U := U.calling g mk a) (Vm.Alike.refl U.vm) q3, q4, q5, lC_ok.2 Gc _ _ U (U.calling g mk a) U.heap U.heap (State.WarmedH.refl U) (fun _ _ _ => rfl) (fun _ _ h => h) q6, stX_same (u := U) (U := U.calling g mk a) rfl rfl q7⟩
  · refine ⟨by rw [hU], by rw [hU]; exact va_P.app P.1 P.2.1, va_K.moved hW.alike hK, ?_, P.2.2.2.2.2, ?_, stX_call hX P.2.2.2.2.1 hsub hU hW⟩
    · refine ⟨fun i j x y hx hy hxy => P.2.2.2.1.1 i j x y ?_ ?_ hxy, fun _ _ _ => trivial⟩
      · rw [List.getElem?_append_left (List.getElem?_eq_some_iff.mp hx).1]; exact hx
      · rw [List.getElem?_append_left (List.getElem?_eq_some_iff.mp hy).1]; exact hy
    · rw [hU]
      exact lC_ok.2 Gc A _ s U s.heap H hW (fun q h1 h2 => P.2.2.2.2.1.2.1 q h1 h2) (fun q hq hh => hsub q hh) hST
  · intro r1 u t H1 locs1 ht hvm hr1 hB hz hk hS
    obtain ⟨ex2, f2, hP1, hD1, hE1, hφ⟩ := hB
    subst hr1
    rw [ht] at hP1
    have hlt : ∀ (k : Nat) (q : Nat × va_E), (xws lM Gm wm ++ [])[k]? = some q → q.1 < H.size := fun k q hq => (P.2.2.1 k q hq).lt
    obtain ⟨d1, d2⟩ := dj P.2.2.2.1 hlt hsub hD1
    refine kk H1 locs1 ex2 f2 hφ ⟨fun k q hq => hP1 k q (by rw [List.getElem?_append_left (List.getElem?_eq_some_iff.mp hq).1]; exact hq), fun k q hq => hP1 ((xws lC Gc w1 ++ ex2).length + k) q (by rw [List.getElem?_append_right (by omega), Nat.add_sub_cancel_left]; exact hq), fun k q hq => (P.2.2.1 k q hq).kept (hk q.1 (hlt k q hq) (d2 k q hq)), d1, hS, hE1⟩
end LAW
