/-! what a throw stands on, told from caller to callee; the contract of a method that throws -/
def thSites : List (Nat × String) := [(83, "n is not 1 to 8"), (141, "the address is not in DATA"), (143, "v is not 0 to 255"), (164, "the image is not looked through and VALID"), (167, "the image is empty"), (173, "n is not 0 to 10000"), (175, "no run was begun"), (190, "place is not 0 to 2047"), (213, "what is not 0 to 7"), (221, "there is no such register")]
def thW : List Cond := (vx_atS RX11 85 IAEx upx).filter isCD ++ ((vx_atS RX11 166 ISEx upx).filter isCD ++ (vx_atS RX11 223 IOBx upx).filter isCD)
def stX (A : Nat → Prop) (U : State) (H : Heap) : Prop :=
  (∀ q ∈ thSites, ∃ a, vk_R RX11 q.1 q.2 a U) ∧ (∀ w ∈ thW, va_Nw w U) ∧ (vx_Zq Bundle.tN "UNASSIGNED_STACK" Bundle.steD A U H ∧ vx_Zq Bundle.tN "SUPPRESSED_SENTINEL" Bundle.listD A U H) ∧ va_Nc ISEx IAEx U ∧ va_Nc ISEx IOBx U
theorem thW_cd {w : Cond} (h : w ∈ thW) : isCD w = true := by
  unfold thW at h
  rcases List.mem_append.mp h with h | h
  · exact (List.mem_filter.mp h).2
  · rcases List.mem_append.mp h with h | h <;> exact (List.mem_filter.mp h).2
theorem thW_1 : ∀ w ∈ vx_atS RX11 85 IAEx upx, isCD w = true → w ∈ thW := fun w h g => List.mem_append_left _ (List.mem_filter.mpr ⟨h, g⟩)
theorem thW_2 : ∀ w ∈ vx_atS RX11 166 ISEx upx, isCD w = true → w ∈ thW := fun w h g => List.mem_append_right _ (List.mem_append_left _ (List.mem_filter.mpr ⟨h, g⟩))
theorem thW_3 : ∀ w ∈ vx_atS RX11 223 IOBx upx, isCD w = true → w ∈ thW := fun w h g => List.mem_append_right _ (List.mem_append_right _ (List.mem_filter.mpr ⟨h, g⟩))
theorem stX_call {A A2 : Nat → Prop} {s U : State} {H : Heap} {locs : List Loc} (h : stX A s s.heap) (hS : va_S A s.heap H locs) (hF : ∀ q, A2 q → A q) (hU : U.heap = H) (hW : s.WarmedH U.vm) : stX A2 U U.heap := by
  obtain ⟨h1, h2, ⟨h3, h4⟩, h5, h6⟩ := h
  subst hU
  refine ⟨fun q hq => ?_, fun w hw => isCD_warm (thW_cd hw) hW (h2 w hw), ⟨((h3.moved hW.alike).kept hS.2.1).narrow hF, ((h4.moved hW.alike).kept hS.2.1).narrow hF⟩, h5.moved hW.alike, h6.moved hW.alike⟩
  obtain ⟨a, ha⟩ := h1 q hq
  exact ⟨a, vk_R.warm hW ha⟩
theorem stX_same {A : Nat → Prop} {u U : State} (hv : U.vm = u.vm) (hh : U.heap = u.heap) (h : stX A u u.heap) : stX A U U.heap := by
  obtain ⟨h1, h2, ⟨h3, h4⟩, h5, h6⟩ := h
  have hal : u.vm.Alike U.vm := by rw [hv]; exact Vm.Alike.refl _
  rw [hh]
  refine ⟨fun q hq => ?_, fun w hw => va_tabs (isCD_ot (thW_cd hw)) hv.symm (h2 w hw), ⟨h3.moved hal, h4.moved hal⟩, h5.moved hal, h6.moved hal⟩
  obtain ⟨a, ha⟩ := h1 q hq
  exact ⟨a, vk_R.same hv ha⟩
theorem fl0_tr {l : Launch} (h : l.flags = flags0) : l.stackTraces = false := by
  unfold Launch.stackTraces
  rw [h]
  decide +kernel
/-- a method that throws: the world is as it was, but for the cells that it had made -/
abbrev xXC (G : xG) (w : xW) (ex : va_W) (sz : Nat) (cls : String) (w2 : xW) : String → State → State → Prop :=
  vx_X (fun _ : Unit => True) (fun E _ t => E = cls ∧ ∃ ex2 : va_W, va_P G.1 (xcl lC) (xws lC G w2 ++ ex2) t.heap ∧ va_D (va_A (xws lC G w ++ ex) sz) (xws lC G w2 ++ ex2) ∧ eC w2 G ex2) (va_A (xws lC G w ++ ex) sz)
abbrev xPreX (G : xG) (w : xW) (ex : va_W) (sz : Nat) (U : State) : Prop := xPre lC G w ex sz U ∧ stX (va_A (xws lC G w ++ ex) sz) U U.heap
theorem xj_thr {ρ : Type} {ι : ρ → xO × xW} {M : xMd} {argv : List Value} {w w2 : xW} {pc ik is ic : Nat} {cls text : String} {r : Option ρ} {q : ρ} (h : xJ ι M lC (0, 0) 0 (lv_args 0 argv) [] w r) (hr : r = some q) (hι : ι q = (.inr pc, w2))
    (hcls : M.1.cls = RX11) (hy : plainName M.1.cls = true) (hlen : (lg_sl argv).length ≤ M.2.2.1) (hR : 6 ≤ M.2.2.2.2.frames ∧ 82 ≤ M.2.2.2.2.locals ∧ 1 ≤ M.2.2.2.2.cells ∧ 6 ≤ M.2.2.2.2.slots) (hfit : Bundle.fit cls = true)
    (hk : Cond.classLink RX11 ik cls ∈ gtbl) (hini : Cond.initialized cls ∈ gtbl) (hs : (is, text) ∈ thSites) (hat : ∀ w ∈ vx_atS RX11 ic cls upx, w ∈ lw_tbl) (hg : (vx_atS RX11 ic cls upx).all (fun w => goodWord w || isCD w) = true) (hsub : ∀ w ∈ vx_atS RX11 ic cls upx, isCD w = true → w ∈ thW)
    (d0 : decode M.2.1 pc = .ok (.new ik, 3)) (d3 : decode M.2.1 (pc + 3) = .ok (.dup, 1)) (d4 : decode M.2.1 (pc + 4) = .ok (.ldc is, 2)) (d6 : decode M.2.1 (pc + 6) = .ok (.invokespecial ic, 3)) (d9 : decode M.2.1 (pc + 9) = .ok (.athrow, 1)) :
    ∀ l : Launch, l.flags = flags0 → ∀ (G : xG) (ex : va_W) (sz : Nat), vx_Met l M.1 (xwords M) M.2.2.2.2 (va_Pc (argv.map (xv G)) (xPreX G w ex sz)) (va_Qv (fun _ : Unit => False) (fun _ _ => True) (va_A (xws lC G w ++ ex) sz)) (xXC G w ex sz cls w2) 1 6 (va_A (xws lC G w ++ ex) sz) := by
  intro l hfl G ex sz
  refine vx_ofW (cc := M.2.1) (maxL := M.2.2.1) (ret := M.2.2.2.1) hy rfl ?_
  intro p e s m args below meth c s₁ B hml htab hv
  obtain ⟨rfl, ⟨hsz, hP, hK, hD0, hE, hST⟩, hX⟩ := hv
  have hts := atoms_spec (ws := xwords M) B.pre
  have htg : ∀ w ∈ gtbl, w.before (argv.map (xv G)).toArray s = true := fun x hx => hts x (List.mem_cons_of_mem _ hx)
  have hown : s.vm.findClass M.1.cls = some m.cls := findClass_of_methodNamed B.named
  have hl := lv_entry (argv.map (xv G)) (n := M.2.2.1) (by rw [xsl_len]; exact hlen)
  rw [lg_entry_eq]
  generalize (lg_sl (argv.map (xv G)) ++ List.replicate (M.2.2.1 - (lg_sl (argv.map (xv G))).length) Slot.unset).toArray = ls at hl ⊢
  rw [xlv_args] at hl
  subst hsz
  have hctx : xCtx M lC (p, l, e, s, m, (argv.map (xv G)).toArray, below, meth, c) G (va_A (xws lC G w ++ ex) s.heap.size) :=
    ⟨B.exec, B.bytes, hml, hown, htg, hK, fun z hz => Or.inr hz, hST, hfl, lC_ok⟩
  refine h q hr (p, l, e, s, m, (argv.map (xv G)).toArray, below, meth, c) G (va_A (xws lC G w ++ ex) s.heap.size) ex s.heap [] ls 0 0 _ hctx ⟨hP, hD0.self, va_S.rf, hE⟩ hl (by omega) (by omega) ?_
  intro H1 locs1 ls1 pc1 ex1 cells1 slots1 hpic hc1 hs1 hls hat1
  rw [hι] at hpic hat1 ⊢
  obtain ⟨hP1, hD1, hS1, hE1⟩ := hpic
  have hpc : pc1 = pc := hat1
  subst hpc
  obtain ⟨sa, hsa⟩ := hX.1 _ hs
  have hall : ∀ w ∈ vx_atS RX11 ic cls upx, goodWord w = true ∨ isCD w = true := fun x hx => by
    have := List.all_eq_true.mp hg x hx
    rw [Bool.or_eq_true] at this
    exact this
  refine vx_throwS (cc := M.2.1) (rest := []) (names := upx) (own := RX11) (cls := cls) (text := text) (ik := ik) (is := is) (ic := ic) (sa := sa) (A := va_A (xws lC G w ++ ex) s.heap.size) B.exec B.bytes (fl0_tr hfl) (by rw [← hcls]; exact hown) hfit (by decide +kernel) (htg _ hk) (htg _ hini) hsa ?_ ?_ hX.2.2.1.1 hX.2.2.1.2 hS1 (hls.trans hml.symm) d0 d3 d4 d6 d9 (fun x hx => (htab x hx).elim) (by show 2 + 3 < _; exact Nat.lt_of_lt_of_le (by decide) hR.1) (by show 0 + (13 * (2 + 1) + 43) ≤ _; exact hR.2.1) ?_ ?_ B.notSynchronized ?_ hS1.2.2 (by omega) (by omega)
  · intro x hx
    rcases hall x hx with g | g
    · exact htg x (gt_in ⟨hat x hx, g⟩)
    · exact va_tabs (isCD_ot g) rfl (hX.2.1 x (hsub x hx g))
  · intro x hx
    rcases List.mem_cons.mp hx with rfl | hx
    · exact rfl
    · rcases List.mem_cons.mp hx with rfl | hx
      · exact rfl
      · unfold vx_ot
        rcases hall x hx with g | g
        · rw [g, Bool.or_true]
        · rw [isCD_ot g, Bool.true_or]
  · exact Nat.le_trans (by omega) hR.2.2.1
  · exact Nat.le_trans (by omega) hR.2.2.2
  · intro t ht h1 h2
    refine ⟨(), trivial, ⟨rfl, ex1, fun k z hz => (hP1 k z hz).kept (h2 _ (hP1 k z hz).lt), hD1, hE1⟩, Nat.le_trans hS1.1 h1, fun z hz hn => ?_⟩
    rw [h2 z (Nat.lt_of_lt_of_le hz hS1.1)]
    exact hS1.2.1 z hz hn
