/-! texts: all of it -/
section TX
variable {w m : xW} {L : Nat}
theorem ax_l : wordF 0 0 (strBy.getD 0 []) = regL 0 4 := (reg_wd 0 (by decide)).1
theorem SP.ax (h6 : w.1 2 6 = 0) (h7 : w.1 2 7 = 0) (h5 : w.1 2 5 = 4) : SP w m 3 (fun w => sX10_addE w) (fun m => sX12_sayWord 0 (0 : Int32) m) := by
  refine ⟨regL 0 4, okL_reg (by decide) (Or.inr (Or.inr rfl)), fun w' m' n hn hm hk e1 e2 => ⟨?_, ?_⟩⟩
  · show sX10_addE w' = _
    unfold sX10_addE
    rw [e1 6, if_pos h6, e1 7, e1 5, h7, h5, xbd_e]
    exact addReg_v (r := 0) hn (by omega) (by decide) (Or.inr (Or.inr rfl))
  · show sX12_sayWord 0 (nI 0) m' = _
    rw [sayWord_v (by decide) (by decide) hm (by rw [ax_l]; have := (reg_len 0 (by decide)).1; omega), ax_l]
theorem ops_sp (h : IR L w m) (h0 : ¬ m.1 0 18 = 0) : SP w m 40 (fun w => sX10_addOperands w) (fun m => sX12_sayOperands m) := by
  obtain ⟨hp, hq⟩ := opTab_ok _ h.1
  obtain ⟨f1, f2, f3, f4, -⟩ := h.wd
  simp only [opPairs, List.mem_cons, Prod.mk.injEq, List.not_mem_nil, or_false] at hp
  rcases hp with ⟨p1, p2⟩ | ⟨p1, p2⟩ | ⟨p1, p2⟩ | ⟨p1, p2⟩ | ⟨p1, p2⟩ | ⟨p1, p2⟩ | ⟨p1, p2⟩ | ⟨p1, p2⟩ | ⟨p1, p2⟩ | ⟨p1, p2⟩ | ⟨p1, p2⟩ | ⟨p1, p2⟩ | ⟨p1, p2⟩ | ⟨p1, p2⟩ | ⟨p1, p2⟩
  · exact absurd p2 h0
  · have he : eform (m.1 0 18) = true := by rw [p2]; rfl
    refine (((SP.E h he).bind ((SP.c (c := 44) (by decide)).bind ((SP.G h he).bind (SP.no (by rw [p2]; decide))))).mono (b := 40) (by decide)).eq (fun w' a => ?_) (fun m' a => ?_)
    · unfold sX10_addOperands; rw [a 1, p1]; rfl
    · unfold sX12_sayOperands; rw [a 18 (by decide), p2]; rfl
  · have he : eform (m.1 0 18) = false := by rw [p2]; rfl
    obtain ⟨n1, n2, n3, n4, n5, n6⟩ := h.N he
    have hw4 := h.w4 (Or.inl p2)
    refine (((SP.ax n2 (n4 p2).1 ((h.weq (hq (Or.inr (Or.inr (Or.inl p2))))).trans hw4)).bind ((SP.c (c := 44) (by decide)).bind ((SP.reg (i := 8) (j := 24) (k := 4) (l := 20) n3 f3 (n4 p2).2 rfl (by decide) rfl f1.symm (by decide)).bind (SP.no (by rw [p2]; decide))))).mono (b := 40) (by decide)).eq (fun w' a => ?_) (fun m' a => ?_)
    · unfold sX10_addOperands; rw [a 1, p1]; rfl
    · unfold sX12_sayOperands; rw [a 18 (by decide), p2]; rfl
  · have he : eform (m.1 0 18) = true := by rw [p2]; rfl
    refine (((SP.G h he).bind ((SP.c (c := 44) (by decide)).bind ((SP.E h he).bind (SP.no (by rw [p2]; decide))))).mono (b := 40) (by decide)).eq (fun w' a => ?_) (fun m' a => ?_)
    · unfold sX10_addOperands; rw [a 1, p1]; rfl
    · unfold sX12_sayOperands; rw [a 18 (by decide), p2]; rfl
  · have he : eform (m.1 0 18) = false := by rw [p2]; rfl
    obtain ⟨n1, n2, n3, n4, n5, n6⟩ := h.N he
    refine (((SP.E0 (l := 20) n2 f3 (n5 p2) (h.weq (hq (Or.inl p2))) f1.symm (by decide)).bind (SP.ln (h.n.1 (by rw [p2]; rfl)) (Or.inl p2))).mono (b := 40) (by decide)).eq (fun w' a => ?_) (fun m' a => ?_)
    · unfold sX10_addOperands; rw [a 1, p1]; simp only [xbd_e]; rfl
    · unfold sX12_sayOperands; rw [a 18 (by decide), p2]; rfl
  · have he : eform (m.1 0 18) = true := by rw [p2]; rfl
    refine (((SP.E h he).bind (SP.ln (h.n.1 (by rw [p2]; rfl)) (Or.inr (Or.inl p2)))).mono (b := 40) (by decide)).eq (fun w' a => ?_) (fun m' a => ?_)
    · unfold sX10_addOperands; rw [a 1, p1]; simp only [xbd_e]; rfl
    · unfold sX12_sayOperands; rw [a 18 (by decide), p2]; rfl
  · have he : eform (m.1 0 18) = true := by rw [p2]; rfl
    refine (((SP.E h he).bind (SP.one (h.n.2 p2) p2)).mono (b := 40) (by decide)).eq (fun w' a => ?_) (fun m' a => ?_)
    · unfold sX10_addOperands; rw [a 1, p1]; simp only [xbd_e]; rfl
    · unfold sX12_sayOperands; rw [a 18 (by decide), p2]; rfl
  · have he : eform (m.1 0 18) = false := by rw [p2]; rfl
    obtain ⟨n1, n2, n3, n4, n5, n6⟩ := h.N he
    refine (((SP.Er (j := 24) (l := 20) n2 n3 f3 (n6 (Or.inr p2)) rfl (by decide) (h.weq (hq (Or.inr (Or.inl p2)))) f1.symm (by decide)).bind (SP.ln (h.n.1 (by rw [p2]; rfl)) (Or.inr (Or.inr (Or.inr (Or.inr p2)))))).mono (b := 40) (by decide)).eq (fun w' a => ?_) (fun m' a => ?_)
    · unfold sX10_addOperands; rw [a 1, p1]; simp only [xbd_e]; rfl
    · unfold sX12_sayOperands; rw [a 18 (by decide), p2]; rfl
  · have he : eform (m.1 0 18) = true := by rw [p2]; rfl
    refine (((SP.E h he).bind (SP.cl p2)).mono (b := 40) (by decide)).eq (fun w' a => ?_) (fun m' a => ?_)
    · unfold sX10_addOperands; rw [a 1, p1]; simp only [xbd_e]; rfl
    · unfold sX12_sayOperands; rw [a 18 (by decide), p2]; rfl
  · have he : eform (m.1 0 18) = true := by rw [p2]; rfl
    refine (((SP.E h he).bind (SP.no (by rw [p2]; decide))).mono (b := 40) (by decide)).eq (fun w' a => ?_) (fun m' a => ?_)
    · unfold sX10_addOperands; rw [a 1, p1]; rfl
    · unfold sX12_sayOperands; rw [a 18 (by decide), p2]; rfl
  · have he : eform (m.1 0 18) = false := by rw [p2]; rfl
    obtain ⟨n1, n2, n3, n4, n5, n6⟩ := h.N he
    refine (((SP.Er (j := 24) (l := 20) n2 n3 f3 (n6 (Or.inl p2)) rfl (by decide) (h.weq (hq (Or.inr (Or.inr (Or.inr p2))))) f1.symm (by decide)).bind (SP.no (by rw [p2]; decide))).mono (b := 40) (by decide)).eq (fun w' a => ?_) (fun m' a => ?_)
    · unfold sX10_addOperands; rw [a 1, p1]; rfl
    · unfold sX12_sayOperands; rw [a 18 (by decide), p2]; rfl
  · refine ((SP.seven (h.n.1 (by rw [p2]; rfl)) p2).mono (b := 40) (by decide)).eq (fun w' a => ?_) (fun m' a => ?_)
    · unfold sX10_addOperands; rw [a 1, p1]; unfold sX10_addOperands_j253; simp only [xbd_e]; rfl
    · unfold sX12_sayOperands; rw [a 18 (by decide), p2]; rfl
  · have he : eform (m.1 0 18) = true := by rw [p2]; rfl
    refine (((SP.G h he).bind ((SP.c (c := 44) (by decide)).bind ((SP.E h he).bind (SP.ln (h.n.1 (by rw [p2]; rfl)) (Or.inr (Or.inr (Or.inl p2))))))).mono (b := 40) (by decide)).eq (fun w' a => ?_) (fun m' a => ?_)
    · unfold sX10_addOperands; rw [a 1, p1]; simp only [xbd_e]; rfl
    · unfold sX12_sayOperands; rw [a 18 (by decide), p2]; rfl
  · have he : eform (m.1 0 18) = true := by rw [p2]; rfl
    refine (((SP.E h he).bind ((SP.c (c := 44) (by decide)).bind ((SP.G h he).bind (SP.ln (h.n.1 (by rw [p2]; rfl)) (Or.inr (Or.inr (Or.inr (Or.inl p2)))))))).mono (b := 40) (by decide)).eq (fun w' a => ?_) (fun m' a => ?_)
    · unfold sX10_addOperands; rw [a 1, p1]; simp only [xbd_e]; rfl
    · unfold sX12_sayOperands; rw [a 18 (by decide), p2]; rfl
  · refine (((SP.u (h.n.1 (by rw [p2]; rfl))).bind (SP.no (by rw [p2]; decide))).mono (b := 40) (by decide)).eq (fun w' a => ?_) (fun m' a => ?_)
    · unfold sX10_addOperands; rw [a 1, p1]; rfl
    · unfold sX12_sayOperands; rw [a 18 (by decide), p2]; rfl
theorem word_tab : ∀ q ∈ opTab, strL (opWd q.1) = wordF q.2.2.1.toNatClampNeg 0 (strBy.getD 3 []) ∧ (opWd q.1 < strN ∧ strLenN (opWd q.1) < 100) ∧ ((strL (opWd q.1)).length ≤ 10 ∧ ∀ c ∈ strL (opWd q.1), c < 256) ∧ (¬ q.1 < 0 ∧ q.1.toNatClampNeg < 54) ∧ (q.2.2.1 = nI q.2.2.1.toNatClampNeg ∧ q.2.2.1.toNatClampNeg < 2000) ∧ ((q.1 = 46 ↔ q.2.2.1 = 13) ∧ (q.1 = 33 ↔ q.2.2.1 = 45) ∧ (q.1 = 32 ↔ q.2.2.1 = 44)) ∧ (q.2.1 = 0 ↔ q.2.2.2 = 0) := by decide +kernel
theorem cond_tab : ∀ j, j < 16 → ((2 : Int32) * (nI j &&& 15) = nI (2 * j) ∧ nI (2 * j) + 1 = nI (2 * j + 1)) ∧ 5 < strN ∧ (¬ nI (2 * j) < 0 ∧ (nI (2 * j)).toNatClampNeg < strLenN 5) ∧ (¬ nI (2 * j + 1) < 0 ∧ (nI (2 * j + 1)).toNatClampNeg < strLenN 5) ∧ (strAt 5 (nI (2 * j)) = nI (strAt 5 (nI (2 * j))).toNatClampNeg ∧ (strAt 5 (nI (2 * j))).toNatClampNeg < 256) ∧ (strAt 5 (nI (2 * j + 1)) = nI (strAt 5 (nI (2 * j + 1))).toNatClampNeg ∧ (strAt 5 (nI (2 * j + 1))).toNatClampNeg < 256) ∧ wordF j 0 (strBy.getD 4 []) = if strAt 5 (nI (2 * j + 1)) = 32 then [(strAt 5 (nI (2 * j))).toNatClampNeg] else [(strAt 5 (nI (2 * j))).toNatClampNeg, (strAt 5 (nI (2 * j + 1))).toNatClampNeg] := by decide +kernel
theorem tput_two (w : xW) (a b : Nat) : tput (tput w [a]) [b] = tput w [a, b] := rfl
theorem SP.cond {j : Nat} (hj : j < 16) (h3 : w.1 2 3 = nI j) (h19 : m.1 0 19 = nI j) : SP w m 2 (fun w => sX10_addCondition w) (fun m => sX12_sayWord 4 (m.1 0 19) m) := by
  obtain ⟨⟨t1, t2⟩, t3, t4, t5, ⟨t6, t7⟩, ⟨t8, t9⟩, t10⟩ := cond_tab j hj
  have hok : okL 2 (wordF j 0 (strBy.getD 4 [])) := by
    rw [t10]
    split
    · exact okL_le (okL_c t7) (by decide)
    · exact okL_app (a := 1) (b := 1) (okL_c t7) (okL_c t9)
  refine ⟨_, hok, fun w' m' n hn hm hk e1 e2 => ⟨?_, ?_⟩⟩
  · show sX10_addCondition w' = _
    have s0 := sbC_v (c := (strAt 5 (nI (2 * j))).toNatClampNeg) hn (by omega) t7
    rw [← t6] at s0
    have c1 : (tput w' [(strAt 5 (nI (2 * j))).toNatClampNeg]).1 41 0 = nI (n + 1) := tput_cnt hn (by show n + 1 ≤ 80; omega)
    have s1 := sbC_v (c := (strAt 5 (nI (2 * j + 1))).toNatClampNeg) c1 (by omega) t9
    rw [← t8] at s1
    unfold sX10_addCondition xlet
    rw [e1 3, h3, t1]
    simp only []
    rw [t2, if_pos ⟨t3, t4⟩, s0, bset, if_pos ⟨t3, t5⟩, t10]
    by_cases h32 : strAt 5 (nI (2 * j + 1)) = 32
    · rw [if_pos h32, if_pos h32]
    · rw [if_neg h32, if_neg h32, if_pos ⟨t3, t5⟩, s1, bset]
      exact congrArg (fun x => some ((), x)) (tput_two w' _ _)
  · show sX12_sayWord 4 (m'.1 0 19) m' = _
    rw [e2 19 (by decide), h19]
    have := hok.1
    exact sayWord_v (by decide) (by omega) hm (by omega)
def tRc (w : xW) : Option (Unit × xW) := if w.1 2 1 = 0 then some ((), w) else xbd (sbC (nI 32) w) (fun _ w1 => sX10_addOperands w1)
def tRm (m : xW) : Option (Unit × xW) := if m.1 0 18 = 0 then some ((), m) else xbd (sX12_say (nI 32) m) (fun _ w1 => sX12_sayOperands w1)
theorem rest_sp (h : IR L w m) : SP w m 41 tRc tRm := by
  have hz := (word_tab _ h.1).2.2.2.2.2.2
  by_cases h0 : m.1 0 18 = 0
  · refine (SP.nil.mono (b := 41) (by decide)).eq (fun w' a => ?_) (fun m' a => ?_)
    · unfold tRc; rw [a 1, if_pos (hz.mpr h0)]
    · unfold tRm; rw [a 18 (by decide), if_pos h0]
  · refine ((SP.c (c := 32) (by decide)).bind (ops_sp h h0)).eq (fun w' a => ?_) (fun m' a => ?_)
    · unfold tRc; rw [a 1, if_neg (fun q => h0 (hz.mp q))]
    · unfold tRm; rw [a 18 (by decide), if_neg h0]
def tCc (w : xW) : Option (Unit × xW) := if w.1 2 0 = 46 ∨ w.1 2 0 = 33 ∨ w.1 2 0 = 32 then xbd (sX10_addCondition w) (fun _ w1 => tRc w1) else tRc w
def tCm (m : xW) : Option (Unit × xW) := if m.1 0 17 = 13 ∨ m.1 0 17 = 44 ∨ m.1 0 17 = 45 then xbd (sX12_sayWord 4 (m.1 0 19) m) (fun _ w1 => tRm w1) else tRm m
theorem co_sp (h : IR L w m) : SP w m 43 tCc tCm := by
  obtain ⟨z1, z2, z3⟩ := (word_tab _ h.1).2.2.2.2.2.1
  by_cases h0 : w.1 2 0 = 46 ∨ w.1 2 0 = 33 ∨ w.1 2 0 = 32
  · have h1 : m.1 0 17 = 13 ∨ m.1 0 17 = 44 ∨ m.1 0 17 = 45 := by
      rcases h0 with q | q | q
      · exact Or.inl (z1.mp q)
      · exact Or.inr (Or.inr (z2.mp q))
      · exact Or.inr (Or.inl (z3.mp q))
    obtain ⟨k1, j, k2, k3⟩ := h.c (by rcases h0 with q | q | q <;> simp [q])
    refine ((SP.cond k2 k3 (k1.symm.trans k3)).bind (rest_sp h)).eq (fun w' a => ?_) (fun m' a => ?_)
    · unfold tCc; rw [a 0, if_pos h0]
    · unfold tCm; rw [a 17 (by decide), if_pos h1]
  · have h1 : ¬ (m.1 0 17 = 13 ∨ m.1 0 17 = 44 ∨ m.1 0 17 = 45) := fun q => h0 (by
      rcases q with q | q | q
      · exact Or.inl (z1.mpr q)
      · exact Or.inr (Or.inr (z3.mpr q))
      · exact Or.inr (Or.inl (z2.mpr q)))
    refine ((rest_sp h).mono (b := 43) (by decide)).eq (fun w' a => ?_) (fun m' a => ?_)
    · unfold tCc; rw [a 0, if_neg h0]
    · unfold tCm; rw [a 17 (by decide), if_neg h1]
theorem all_sp (h : IR L w m) : SP w m 53 (fun w => xbd (sbS (opWd (w.1 2 0)) w) (fun _ w1 => tCc w1)) (fun m => xbd (sX12_sayWord 3 (m.1 0 17) m) (fun _ w1 => tCm w1)) := by
  obtain ⟨z1, ⟨z2, z3⟩, ⟨z4, z5⟩, z6, ⟨z7, z8⟩, -⟩ := word_tab _ h.1
  have hW : SP w m 10 (fun w => sbS (opWd (w.1 2 0)) w) (fun m => sX12_sayWord 3 (m.1 0 17) m) := by
    refine ⟨_, ⟨z4, z5⟩, fun w' m' n hn hm hk e1 e2 => ⟨?_, ?_⟩⟩
    · show sbS (opWd (w'.1 2 0)) w' = _
      rw [e1 0]
      exact sbS_v hn (by omega) z2 z3
    · show sX12_sayWord 3 (m'.1 0 17) m' = _
      rw [e2 17 (by decide), z1]
      have z4' := z4
      rw [z1] at z4'
      have := sayWord_v (s := 3) (k := (m.1 0 17).toNatClampNeg) (by decide) z8 hm (by
        show n + (wordF (m.1 0 17).toNatClampNeg 0 (strBy.getD 3 [])).length ≤ 80
        have z9 : (wordF (m.1 0 17).toNatClampNeg 0 (strBy.getD 3 [])).length ≤ 10 := z4'
        omega)
      rw [← show m.1 0 17 = nI (m.1 0 17).toNatClampNeg from z7] at this
      exact this
  exact hW.bind (co_sp h)
theorem c69_e (w : xW) : sX10_compose_j69 w = xbd (tRc w) (fun _ w2 => some ((w2.1 41 0), w2)) := by
  unfold sX10_compose_j69 tRc
  by_cases h : w.1 2 1 = 0
  · rw [if_pos h, if_pos h]; rfl
  · rw [if_neg h, if_neg h]
    show xbd (sbC (nI 32) w) _ = _
    cases sbC (nI 32) w with
    | none => rfl
    | some q => rfl
theorem m85_e (m : xW) : sX12_tell_j85 m = xbd (tRm m) (fun _ w2 => some ((w2.1 0 16), w2)) := by
  unfold sX12_tell_j85 tRm
  by_cases h : m.1 0 18 = 0
  · rw [if_pos h, if_pos h]; rfl
  · rw [if_neg h, if_neg h]
    show xbd (sX12_say (nI 32) m) _ = _
    cases sX12_say (nI 32) m with
    | none => rfl
    | some q => rfl
theorem cmp_e (w : xW) (hx : xin (w.1 2 0) 54) : (if xin (w.1 2 0) 54 ∧ xin (46 : Int32) 54 then (if (w.1 2 0) = (46 : Int32) then sX10_compose_j65 w else (if xin (w.1 2 0) 54 ∧ xin (33 : Int32) 54 then (if (w.1 2 0) = (33 : Int32) then sX10_compose_j65 w else (if xin (w.1 2 0) 54 ∧ xin (32 : Int32) 54 then (if (w.1 2 0) = (32 : Int32) then sX10_compose_j65 w else sX10_compose_j69 w) else none)) else none)) else none) = xbd (tCc w) (fun _ w2 => some ((w2.1 41 0), w2)) := by
  have h65 : sX10_compose_j65 w = xbd (xbd (sX10_addCondition w) (fun _ w1 => tRc w1)) (fun _ w2 => some ((w2.1 41 0), w2)) := by
    unfold sX10_compose_j65
    cases sX10_addCondition w with
    | none => rfl
    | some q => exact c69_e q.2
  have k46 : xin (46 : Int32) 54 := by decide
  have k33 : xin (33 : Int32) 54 := by decide
  have k32 : xin (32 : Int32) 54 := by decide
  rw [if_pos (And.intro hx k46), if_pos (And.intro hx k33), if_pos (And.intro hx k32)]
  unfold tCc
  by_cases h1 : w.1 2 0 = 46
  · rw [if_pos h1, if_pos (Or.inl h1), h65]
  · rw [if_neg h1]
    by_cases h2 : w.1 2 0 = 33
    · rw [if_pos h2, if_pos (Or.inr (Or.inl h2)), h65]
    · rw [if_neg h2]
      by_cases h3 : w.1 2 0 = 32
      · rw [if_pos h3, if_pos (Or.inr (Or.inr h3)), h65]
      · rw [if_neg h3, if_neg (by simp only [not_or]; exact ⟨h1, h2, h3⟩), c69_e]
theorem mtl_e (m : xW) : (if (m.1 0 17) = (13 : Int32) then sX12_tell_j74 m else (if (m.1 0 17) = (44 : Int32) then sX12_tell_j74 m else (if (m.1 0 17) = (45 : Int32) then sX12_tell_j74 m else sX12_tell_j85 m))) = xbd (tCm m) (fun _ w2 => some ((w2.1 0 16), w2)) := by
  have h74 : sX12_tell_j74 m = xbd (xbd (sX12_sayWord 4 (m.1 0 19) m) (fun _ w1 => tRm w1)) (fun _ w2 => some ((w2.1 0 16), w2)) := by
    unfold sX12_tell_j74
    cases sX12_sayWord 4 (m.1 0 19) m with
    | none => rfl
    | some q => exact m85_e q.2
  unfold tCm
  by_cases h1 : m.1 0 17 = 13
  · rw [if_pos h1, if_pos (Or.inl h1), h74]
  · rw [if_neg h1]
    by_cases h2 : m.1 0 17 = 44
    · rw [if_pos h2, if_pos (Or.inr (Or.inl h2)), h74]
    · rw [if_neg h2]
      by_cases h3 : m.1 0 17 = 45
      · rw [if_pos h3, if_pos (Or.inr (Or.inr h3)), h74]
      · rw [if_neg h3, if_neg (by simp only [not_or]; exact ⟨h1, h2, h3⟩), m85_e]
theorem xbd_xbd {α β γ : Type} {r : Option (α × xW)} {F : α → xW → Option (β × xW)} {G : β → xW → Option (γ × xW)} : xbd (xbd r F) G = xbd r (fun a w1 => xbd (F a w1) G) := by
  cases r with
  | none => rfl
  | some q => rfl
/-- tell, after the decoding -/
theorem tell_e (h : IR L w m) : ∃ T, okL 53 T ∧ sX10_compose w = some (nI T.length, tput (xwi w 41 0 0) T) ∧ xbd (sX12_sayWord 3 (m.1 0 17) (xwi m 0 16 (0 : Int32))) (fun _ w5 => (if (w5.1 0 17) = (13 : Int32) then sX12_tell_j74 w5 else (if (w5.1 0 17) = (44 : Int32) then sX12_tell_j74 w5 else (if (w5.1 0 17) = (45 : Int32) then sX12_tell_j74 w5 else sX12_tell_j85 w5)))) = some (nI T.length, mput (xwi m 0 16 0) T) := by
  obtain ⟨T, hT, f⟩ := all_sp h
  have hl := hT.1
  have hx : xin (w.1 2 0) 54 := (word_tab _ h.1).2.2.2.1
  obtain ⟨f1, f2⟩ := f (xwi w 41 0 0) (xwi m 0 16 0) 0 xwi_s xwi_s (by decide) (fun i => xwi_o (fun q => absurd q.1 (by decide))) (fun i hi => xwi_o (fun q => hi q.2))
  refine ⟨T, hT, ?_, ?_⟩
  · have hc : (tput (xwi w 41 0 0) T).1 41 0 = nI T.length := by
      have e0 : (xwi w 41 0 0).1 41 0 = nI 0 := xwi_s
      rw [tput_cnt e0 (by omega), Nat.zero_add]
    have hz : sX10_compose w = xbd (xbd (sbS (opWd ((xwi w 41 0 0).1 2 0)) (xwi w 41 0 0)) (fun _ w1 => tCc w1)) (fun _ w2 => some ((w2.1 41 0), w2)) := by
      unfold sX10_compose sbZ
      show (if xin ((xwi w 41 0 0).1 2 0) 54 then _ else none) = _
      rw [if_pos (show xin ((xwi w 41 0 0).1 2 0) 54 from hx), xbd_xbd]
      unfold sbS
      split
      · refine cmp_e _ ?_
        have e0 : (xwi w 41 0 0).1 41 0 = nI 0 := xwi_s
        have hlen : (strL (opWd ((xwi w 41 0 0).1 2 0))).length ≤ 10 := (word_tab _ h.1).2.2.1.1
        have e9 := (tput_w (strL (opWd ((xwi w 41 0 0).1 2 0))) (xwi w 41 0 0) 0 e0 (by omega)).2.1 2 0 (by decide) (by decide)
        show xin ((tput (xwi w 41 0 0) (strL (opWd ((xwi w 41 0 0).1 2 0)))).1 2 0) 54
        rw [e9]
        exact hx
      · rfl
    have f1' : xbd (sbS (opWd ((xwi w 41 0 0).1 2 0)) (xwi w 41 0 0)) (fun _ w1 => tCc w1) = some ((), tput (xwi w 41 0 0) T) := f1
    rw [hz, f1']
    show some ((tput (xwi w 41 0 0) T).1 41 0, _) = _
    rw [hc]
  · have hc : (mput (xwi m 0 16 0) T).1 0 16 = nI T.length := by
      have e0 : (xwi m 0 16 0).1 0 16 = nI 0 := xwi_s
      rw [mput_cnt e0 (by omega), Nat.zero_add]
    have f2' : xbd (sX12_sayWord 3 (m.1 0 17) (xwi m 0 16 0)) (fun _ w1 => tCm w1) = some ((), mput (xwi m 0 16 0) T) := f2
    have hz : xbd (sX12_sayWord 3 (m.1 0 17) (xwi m 0 16 (0 : Int32))) (fun _ w5 => (if (w5.1 0 17) = (13 : Int32) then sX12_tell_j74 w5 else (if (w5.1 0 17) = (44 : Int32) then sX12_tell_j74 w5 else (if (w5.1 0 17) = (45 : Int32) then sX12_tell_j74 w5 else sX12_tell_j85 w5)))) = xbd (xbd (sX12_sayWord 3 (m.1 0 17) (xwi m 0 16 0)) (fun _ w1 => tCm w1)) (fun _ w2 => some ((w2.1 0 16), w2)) := by
      rw [xbd_xbd]
      refine congrArg _ (funext fun _ => funext fun q => ?_)
      exact mtl_e q
    rw [hz, f2']
    show some ((mput (xwi m 0 16 0) T).1 0 16, _) = _
    rw [hc]
end TX
