/-! calls out of the law and its helpers: one world of cells changes, the others stay -/
theorem dj {A0 : Nat → Prop} {c c1 wr : va_W} {H : Heap} (hD : va_D A0 (c ++ wr)) (hlt : ∀ (k : Nat) (q : Nat × va_E), wr[k]? = some q → q.1 < H.size) (hF : ∀ q, va_A c H.size q → A0 q) (hD1 : va_D (va_A c H.size) c1) : va_D A0 (c1 ++ wr) ∧ ∀ (k : Nat) (q : Nat × va_E), wr[k]? = some q → ¬ va_A c H.size q.1 := by
  have right : ∀ (k : Nat) (q : Nat × va_E), wr[k]? = some q → (c ++ wr)[c.length + k]? = some q := fun k q h => by
    rw [List.getElem?_append_right (by omega), Nat.add_sub_cancel_left]; exact h
  have apart : ∀ (k : Nat) (q : Nat × va_E), wr[k]? = some q → ¬ va_A c H.size q.1 := fun k q hq h => by
    have hl := hlt k q hq
    rcases h with ⟨k2, e, h⟩ | h
    · have h5 := (List.getElem?_eq_some_iff.mp h).1
      have h4 : (c ++ wr)[k2]? = some (q.1, e) := by rw [List.getElem?_append_left h5]; exact h
      have := hD.1 k2 (c.length + k) (q.1, e) q h4 (right k q hq) rfl
      omega
    · omega
  refine ⟨va_D.app (hD1.weaken (fun k q _ h => hF q.1 h)) ⟨fun i j p q h1 h2 h3 => ?_, fun k q h => hD.2 _ q (right k q h)⟩ (fun i j x y hx hy hxy => ?_), apart⟩
  · have := hD.1 _ _ p q (right i p h1) (right j q h2) h3
    omega
  · exact apart j y hy (by rw [← hxy]; exact hD1.2 i x hx)
section CORE
variable {p : Program} {l : Launch} {e : Env} {R : Room} {s : State} {m : MethodId} {args : Array Value} {below : List Frame} {meth : Method} {c : Code} {H : Heap} {locs : List Loc} {cells slots : Nat} {Q : State → Prop} {pc : Nat} {ls : Array Slot} {st rest : List Value}
variable {L : xLay} {G : xG} {w w1 : xW} {ex wr : va_W} {A : Nat → Prop}
/-- what stands before and behind a call -/
def cWs (L : xLay) (G : xG) (w : xW) (ex wr : va_W) (A : Nat → Prop) (H0 H : Heap) (locs : List Loc) : Prop :=
  va_P G.1 (xcl L) (xws L G w ++ ex) H ∧ va_D A ((xws L G w ++ ex) ++ wr) ∧ (∀ (k : Nat) (q : Nat × va_E), wr[k]? = some q → q.1 < H.size) ∧ va_S A H0 H locs ∧ L.2.2.2.1 w G ex
theorem cWs.sub (P : cWs L G w ex wr A s.heap H locs) (hA : ∀ q : Nat, s.heap.size ≤ q → A q) : ∀ z, va_A (xws L G w ++ ex) H.size z → A z := fun z hzz => by
  rcases hzz with ⟨kk, e, hh⟩ | hh
  · exact P.2.1.2 kk (z, e) (by rw [List.getElem?_append_left (List.getElem?_eq_some_iff.mp hh).1]; exact hh)
  · exact hA z (Nat.le_trans P.2.2.2.1.1 hh)
theorem cWs.next {H1 : Heap} {ex2 : va_W} {locs1 : List Loc} (P : cWs L G w ex wr A s.heap H locs) (hA : ∀ q : Nat, s.heap.size ≤ q → A q) (hP1 : va_P G.1 (xcl L) (xws L G w1 ++ ex2) H1) (hD1 : va_D (va_A (xws L G w ++ ex) H.size) (xws L G w1 ++ ex2)) (hE1 : L.2.2.2.1 w1 G ex2) (hz : H.size ≤ H1.size) (hkeep : ∀ q : Nat, q < H.size → ¬ va_A (xws L G w ++ ex) H.size q → H1[q]? = H[q]?) (hS : va_S A s.heap H1 locs1) :
    cWs L G w1 ex2 wr A s.heap H1 locs1 ∧ ∀ (k : Nat) (q : Nat × va_E), wr[k]? = some q → H1[q.1]? = H[q.1]? := by
  obtain ⟨d1, d2⟩ := dj P.2.1 P.2.2.1 (P.sub hA) hD1
  exact ⟨⟨hP1, d1, fun k q hq => Nat.lt_of_lt_of_le (P.2.2.1 k q hq) hz, hS, hE1⟩, fun k q hq => hkeep q.1 (P.2.2.1 k q hq) (d2 k q hq)⟩
theorem core_run {α : Type} {jc : α → Option Value} {v : α} {mc ms : Nat} {a : Array Value} (P : cWs L G w ex wr A s.heap H locs) (hA : ∀ q : Nat, s.heap.size ≤ q → A q)
    (hr : va_Run p l e R s m args below meth c H locs cells slots mc ms (F0 m pc ls st) rest (xQ L G w ex H.size (jc v) w1 a) (va_A (xws L G w ++ ex) H.size))
    (kk : ∀ (H1 : Heap) (locs1 : List Loc) (ex1 : va_W), cWs L G w1 ex1 wr A s.heap H1 locs1 → (∀ (k : Nat) (q : Nat × va_E), wr[k]? = some q → H1[q.1]? = H[q.1]?) → W p l e R s m args below meth c H1 locs1 (cells + mc) (slots + ms) Q (F0 m (pc + 3) ls (((jc v).map (xv G)).toList ++ rest))) :
    W p l e R s m args below meth c H locs cells slots Q (F0 m pc ls st) := by
  intro T hT XX
  obtain ⟨v', st₀, t, T', LL, h0, X', hL, e1, e2, ⟨⟨hv, ex2, hP1, hD1, hE1⟩, hz, hkeep⟩, stp⟩ := hr T hT XX
  cases hv
  rw [h0] at hz hkeep
  rw [← e1] at hP1 hz hkeep
  have hS2 : va_S A s.heap T'.heap (locs ++ LL) := ⟨Nat.le_trans P.2.2.2.1.1 hz, fun z h1 h2 => by
      rw [hkeep z (Nat.lt_of_lt_of_le h1 P.2.2.2.1.1) (fun hh => h2 (P.sub hA z hh))]; exact P.2.2.2.1.2.1 z h1 h2, fun z hzz => by
      rcases List.mem_append.mp hzz with hh | hh
      · exact P.2.2.2.1.2.2 z hh
      · exact P.sub hA _ (hL z hh)⟩
  obtain ⟨g1, g2⟩ := P.next hA hP1 hD1 hE1 hz hkeep hS2
  obtain ⟨t2, a1, b1⟩ := kk T'.heap (locs ++ LL) ex2 g1 g2 T' rfl X'
  exact ⟨t2, stp t2 a1, b1⟩
/-- the precondition of a callee -/
theorem cWs.pre (P : cWs L G w ex wr A s.heap H locs) (hA : ∀ q : Nat, s.heap.size ≤ q → A q) (hL : xLok L) (hK : va_K G.1 (xcl L) (xtys G.2.1) s) (hST : L.2.2.2.2 G A s s.heap) (U : State) (hU : U.heap = H) (hW : s.WarmedH U.vm) : xPre L G w ex H.size U := by
  refine ⟨by rw [hU], by rw [hU]; exact P.1, va_K.moved hW.alike hK, ?_, P.2.2.2.2, ?_⟩
  · refine ⟨fun i j x y hx hy hxy => P.2.1.1 i j x y ?_ ?_ hxy, fun _ _ _ => trivial⟩
    · rw [List.getElem?_append_left (List.getElem?_eq_some_iff.mp hx).1]; exact hx
    · rw [List.getElem?_append_left (List.getElem?_eq_some_iff.mp hy).1]; exact hy
  · rw [hU]
    exact hL.2 G A _ s U s.heap H hW (fun q h1 h2 => P.2.2.2.1.2.1 q h1 h2) (fun q hq hh => P.sub hA q hh) hST
/-- a virtual call whose answer is known -/
theorem core_V {α : Type} {jc : α → Option Value} {v : α} {M2 : xMd} {n nL idx k ci N : Nat} {T : u_T} {own : String} {cc : ByteArray} {b2 : Nat × Nat} {argv : List Value} (S : CallFix p m c cc nL s args gtbl own) (hfl : l.flags = flags0) (hLo : xLok L) (hK : va_K G.1 (xcl L) (xtys G.2.1) s) (hST : L.2.2.2.2 G A s s.heap) (hA : ∀ q : Nat, s.heap.size ≤ q → A q) (P : cWs L G w ex wr A s.heap H locs)
    (hd : decode cc pc = .ok (.invokevirtual idx, 3)) (hM : xMet jc M2 L b2 (.ref k :: argv) w (some (v, w1))) (hmk : xMkV M2 n) (hlink : Cond.methodLink own idx M2.1 ∈ gtbl) (hfit : M2.2.2.2.2.frames + 1 ≤ R.frames ∧ 8 + (M2.2.2.1 + 11) + M2.2.2.2.2.locals ≤ R.locals ∧ M2.2.2.2.2.cells = b2.1 ∧ M2.2.2.2.2.slots = b2.2)
    (hk : L.2.1[k]? = some (.inl ci)) (hc : L.1[ci]? = some (M2.1.cls, T, N)) (hn : argv.length = n) (hls : ls.size = nL) (hst : st = (argv.map (xv G)).reverse ++ .ref (G.2.2 k) :: rest) (hsum : (rest.map fun v => v.category).sum ≤ 8) (hc1 : cells + b2.1 ≤ R.cells) (hs1 : slots + b2.2 ≤ R.slots)
    (kk : ∀ (H1 : Heap) (locs1 : List Loc) (ex1 : va_W), cWs L G w1 ex1 wr A s.heap H1 locs1 → (∀ (k : Nat) (q : Nat × va_E), wr[k]? = some q → H1[q.1]? = H[q.1]?) → W p l e R s m args below meth c H1 locs1 (cells + b2.1) (slots + b2.2) Q (F0 m (pc + 3) ls (((jc v).map (xv G)).toList ++ rest))) :
    W p l e R s m args below meth c H locs cells slots Q (F0 m pc ls st) := by
  obtain ⟨⟨m1, m2, m3, m4⟩, m5, m6⟩ := hmk
  obtain ⟨f1, f2, f3, f4⟩ := hfit
  have hts := S.2.2.2.2
  exact core_run P hA (va_runV (As := argv.map (xv G)) (rest := rest) (n := n) (C := M2.1.cls) (own := own) (Ts := gtbl) (bytes := M2.2.1) (maxL := M2.2.2.1) (ret := M2.2.2.2.1) (index := idx) (b := G.2.2 k) S (hM _ rfl l hfl G ex H.size) ⟨callB_of n hts (xgood hts m1) rfl f3 f4 (hts _ m2) (hts _ hlink) ⟨m3.1, m3.2, m4⟩ ⟨f1, f2⟩, hts _ m5, hts _ m6⟩ ⟨xPc_blind hLo, va_recv hK P.1 hc (xws_obj hk hc), fun U hU hW => ⟨rfl, P.pre hA hLo hK hST U hU hW⟩⟩ rfl (by rw [List.length_map]; exact hn) hls hst (by show 2 * 0 + _ ≤ 8; omega) hd ⟨hc1, hs1⟩) kk
end CORE
