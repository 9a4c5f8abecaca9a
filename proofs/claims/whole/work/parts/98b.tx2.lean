/-! the rules for append, setLength, length, charAt in the class's world -/
section TX2
variable {M : xMd} {G : xG} {w : xW} {ex : va_W} {A : Nat → Prop} {X : xC} {H : Heap} {locs : List Loc} {ls : Array Slot} {cells slots pc : Nat} {Q : State → Prop} {rest : List Value}
theorem xex_sub (C : xCtx M lC X G A) (P : xPic lC G w ex A (xs X).heap H locs) : ∀ q, va_A ex H.size q → A q := fun y hy => by
  rcases hy with ⟨kk, e, hh⟩ | hh
  · exact P.2.1.2 ((xws lC G w).length + kk) (y, e) (by rw [List.getElem?_append_right (by omega), Nat.add_sub_cancel_left]; exact hh)
  · exact C.2.2.2.2.2.2.1 y (Nat.le_trans P.2.2.1.1 hh)
theorem stB_of (C : xCtx M lC X G A) (P : xPic lC G w ex A (xs X).heap H locs) {s : Nat} (hs : s < strN) (b : Nat) : stB (strLenN s) (strCh s) (gS G b (G.2.2 (1000 + s)) (G.2.2 (1500 + s))) (va_A ex H.size) (xs X) H := by
  have hC : stC G (va_A ex H.size) (xs X) H := lC_ok.2 G A (va_A ex H.size) (xs X) (xs X) (xs X).heap H (State.WarmedH.refl _) (fun q h1 h2 => P.2.2.1.2.1 q h1 h2) (fun q _ h => xex_sub C P q h) C.2.2.2.2.2.2.2.1
  have e : ∀ k, 7 ≤ k → (gS G b (G.2.2 (1000 + s)) (G.2.2 (1500 + s))).2.2 k = G.2.2 k := fun k hk => by
    show (if k = 0 then G.2.2 30 else if k = 1 then b else if k = 5 then _ else if k = 6 then _ else G.2.2 k) = G.2.2 k
    rw [if_neg (by omega), if_neg (by omega), if_neg (by omega), if_neg (by omega)]
  obtain ⟨-, -, -, -, -, ⟨h1, h2, h3⟩, -, h4⟩ := hC
  refine ⟨⟨fun i hi => ?_, h2, h3⟩, h4, (h1 s hs).1, (h1 s hs).2.1, (h1 s hs).2.2.1, (h1 s hs).2.2.2⟩
  rw [e (1000 + i) (by omega), e (1500 + i) (by omega)]
  exact h1 i hi
/-- a call of a member that changes nothing -/
theorem xc_call0 {M2 : xMd} {idx n z sa va : Nat} {f : Nat → Int32} {As : List Value} {v : Option Value} (C : xCtx M lC X G A) (P : xPic lC G w ex A (xs X).heap H locs)
    (hst : ∀ b, stB z f (gS G b sa va) (va_A ex H.size) (xs X) H) (hcls : M2.1.cls = "java/lang/StringBuilder") (hmk : xMkV M2 n) (hlink : Cond.methodLink M.1.cls idx M2.1 ∈ gtbl) (f1 : Nat.ble (M2.2.2.2.2.frames + 1) M.2.2.2.2.frames = true) (f2 : Nat.ble (8 + (M2.2.2.1 + 11) + M2.2.2.2.2.locals) M.2.2.2.2.locals = true) (f3 : M2.2.2.2.2.cells = 0) (f4 : M2.2.2.2.2.slots = 0)
    (hn : As.length = n) (hsize : ls.size = M.2.2.1) (hsum : Nat.ble (rest.map fun v => v.category).sum 8 = true) (hd : decode M.2.1 pc = .ok (.invokevirtual idx, 3)) (hfc : cells ≤ M.2.2.2.2.cells ∧ slots ≤ M.2.2.2.2.slots)
    (hM : ∀ (b m n' : Nat) (wS : xW), wS.1 0 1 = 0 → wS.1 0 3 = nI n' → n' ≤ m → m ≤ 65536 → w.1 41 0 = nI n' → (∀ j, j < n' → ∃ c : Nat, c < 256 ∧ w.1 40 j = nI c ∧ wS.1 1 j = sb_b c) → Met X.2.1 M2.1 (xwords M2) M2.2.2.2.2 (va_Pc (.ref (G.2.2 30) :: As) (xPre (lS m z f) (gS G b sa va) wS [] H.size)) (xQ (lS m z f) (gS G b sa va) wS [] H.size v wS) 0 0 (va_A (xws (lS m z f) (gS G b sa va) wS ++ []) H.size))
    (hv : ∀ b, v.map (xv (gS G b sa va)) = v)
    (kk : ∀ (H1 : Heap) (locs1 : List Loc), xPic lC G w ex A (xs X).heap H1 locs1 → xWc M.2.2.2.2 X H1 locs1 cells slots Q (xF X (pc + 3) ls (v.toList ++ rest))) : xWc M.2.2.2.2 X H locs cells slots Q (xF X pc ls (As.reverse ++ .ref (G.2.2 30) :: rest)) := by
  obtain ⟨b, n', m, arr, ml, hex, h1, h2, h3, h4, h5⟩ : eC w G ex := P.2.2.2
  have hts := C.2.2.2.2.1
  obtain ⟨⟨m1, m2, m3, m4⟩, m5, m6⟩ := hmk
  obtain ⟨wS, hwS⟩ : ∃ wS : xW, wS = (fun a j => if a = 0 then (match j with | 1 => 0 | 2 => ml | _ => nI n') else arr j, w.2) := ⟨_, rfl⟩
  have e01 : wS.1 0 1 = 0 := by rw [hwS]; rfl
  have e02 : wS.1 0 2 = ml := by rw [hwS]; rfl
  have e03 : wS.1 0 3 = nI n' := by rw [hwS]; rfl
  have e1 : wS.1 1 = arr := by rw [hwS]; rfl
  have hws : xws (lS m z f) (gS G b sa va) wS ++ [] = ex := by
    rw [hex]
    show ([(G.2.2 30, .inr (10, [.ref b, .int (wS.1 0 1), .int (wS.1 0 2), .int (wS.1 0 3)])), (b, .inl (G.2.1 1, m, .inl (wS.1 1)))] : va_W) = _
    rw [e01, e02, e03, e1]
  have hPs : va_P G.1 lC.1 ex H := fun k q hk => P.1 ((xws lC G w).length + k) q (by rw [List.getElem?_append_right (by omega), Nat.add_sub_cancel_left]; exact hk)
  have hDs : va_D A ex := ⟨fun i j p q hi hj hpq => by
      have := P.2.1.1 ((xws lC G w).length + i) ((xws lC G w).length + j) p q (by rw [List.getElem?_append_right (by omega), Nat.add_sub_cancel_left]; exact hi) (by rw [List.getElem?_append_right (by omega), Nat.add_sub_cancel_left]; exact hj) hpq
      omega, fun k q hk => P.2.1.2 ((xws lC G w).length + k) q (by rw [List.getElem?_append_right (by omega), Nat.add_sub_cancel_left]; exact hk)⟩
  have hF := xex_sub C P
  have hMet := hM b m n' wS e01 e03 h1 h2 h3 (fun j hj => by
    obtain ⟨c, c1, c2, c3⟩ := h5 j hj
    exact ⟨c, c1, c2, by rw [e1]; exact c3⟩)
  have hrun := va_runV (As := As) (rest := rest) (n := n) (C := "java/lang/StringBuilder") (own := M.1.cls) (Ts := gtbl) (bytes := M2.2.1) (maxL := M2.2.2.1) (ret := M2.2.2.2.1) (index := idx) (b := G.2.2 30) (g := xF X pc ls (As.reverse ++ .ref (G.2.2 30) :: rest)) (cells := cells) (slots := slots) (R := M.2.2.2.2) (H := H) (locs := locs) (e := X.2.2.1) (below := X.2.2.2.2.2.2.1) (meth := X.2.2.2.2.2.2.2.1) ⟨C.1, C.2.1, C.2.2.1, C.2.2.2.1, hts⟩ hMet ⟨callB_of n hts (xgood hts m1) rfl f3 f4 (hts _ m2) (hts _ hlink) ⟨m3.1, m3.2, m4⟩ ⟨Nat.le_of_ble_eq_true f1, Nat.le_of_ble_eq_true f2⟩, hts _ m5, by rw [← hcls]; exact hts _ m6⟩ ⟨xPc_blind lS_ok, va_recv C.2.2.2.2.2.1 hPs (ci := 10) (q := (RJ4, TJ4, 4)) (q0 := 0) (fs := [.ref b, .int 0, .int ml, .int (nI n')]) rfl (by rw [hex]; rfl), fun U hU hW => ⟨rfl, by rw [hU], by rw [hws, hU]; exact hPs, va_K.moved hW.alike C.2.2.2.2.2.1, by rw [hws]; exact hDs.weaken (fun _ _ _ _ => trivial), rfl, by
      rw [hws, hU]
      exact (lS_ok (m := m) (z := z) (f := f)).2 (gS G b sa va) (va_A ex H.size) (va_A ex H.size) (xs X) U H H hW (fun _ _ _ => rfl) (fun _ _ h => h) (hst b)⟩⟩ rfl hn hsize rfl (by show 2 * 0 + _ ≤ 8; have := Nat.le_of_ble_eq_true hsum; omega) hd hfc
  intro T hT XX
  obtain ⟨v9, st₀, t, T', LL, h0, X', hL, g1, g2, ⟨⟨hv9, ex2, hP1, hD1, hE1⟩, hz, hkeep⟩, stp⟩ := hrun T hT XX
  cases hv9
  cases (show ex2 = [] from hE1)
  rw [h0] at hz hkeep
  rw [← g1] at hP1 hz hkeep
  rw [hws] at hkeep hD1 hL hP1
  have hz2 : H.size ≤ T'.heap.size := hz
  obtain ⟨hPj, hDj⟩ := va_join2 P.1 P.2.1 (H1 := T'.heap) (c1 := ex) hkeep hF hP1 hD1
  have hS2 : va_S A (xs X).heap T'.heap (locs ++ LL) := ⟨Nat.le_trans P.2.2.1.1 hz2, fun y y1 y2 => by
      rw [hkeep y (Nat.lt_of_lt_of_le y1 P.2.2.1.1) (fun hh => y2 (hF y hh))]; exact P.2.2.1.2.1 y y1 y2, fun y hy => by
      rcases List.mem_append.mp hy with hh | hh
      · exact P.2.2.1.2.2 y hh
      · exact hF _ (hL y hh)⟩
  have hgo := kk T'.heap (locs ++ LL) ⟨hPj, hDj, hS2, P.2.2.2⟩
  rw [← hv b] at hgo
  obtain ⟨t2, a1, b1⟩ := hgo T' rfl X'
  exact ⟨t2, stp t2 a1, b1⟩
end TX2
def sbC (x : Int32) (w : xW) : Option (Unit × xW) := if xin x 256 ∧ xin (w.1 41 0) 90 then some ((), tput w [x.toNatClampNeg]) else none
def sbI (x : Int32) (w : xW) : Option (Unit × xW) := if xin (w.1 41 0) 90 then some ((), tput w (numL x.toInt)) else none
def strL (s : Nat) : List Nat := (strBy.getD s []).map (fun c => c.toNatClampNeg)
def sbS (s : Nat) (w : xW) : Option (Unit × xW) := if (s < strN ∧ strLenN s < 100) ∧ xin (w.1 41 0) 90 then some ((), tput w (strL s)) else none
def sbZ (w : xW) : Option (Unit × xW) := some ((), xwi w 41 0 0)
theorem xin_ltn {x : Int32} {n k : Nat} (h : xin x k) (e : x = nI n) (hn : n ≤ 65536) : n < k := by
  have := h.2
  rw [e, nI_clamp (by omega)] at this
  exact this
theorem tput_hw {w : xW} {l : List Nat} (hl : l.length ≤ 65536) : ∀ n', w.1 41 0 = nI n' → n' ≤ 65536 → (∀ k, k < 23 → ∀ i, (tput w l).1 k i = w.1 k i) ∧ (tput w l).2 = w.2 ∧ (tput w l).1 41 0 = nI (n' + l.length) ∧ (∀ j, j < n' → (tput w l).1 40 j = w.1 40 j) ∧ ∀ i, i < l.length → (tput w l).1 40 (n' + i) = nI (l.getD i 0) := by
  intro n' h1 h2
  obtain ⟨a1, a2, a3, -, a5, a6⟩ := tput_w l w n' h1 (by omega)
  exact ⟨fun k hk i => a2 k i (by omega) (by omega), a1, a3, fun j hj => a5 j (Or.inl hj), a6⟩
theorem strL_ok : ∀ s, s < strN → (strL s).length = strLenN s ∧ (∀ i, i < strLenN s → strCh s i = sb_b ((strL s).getD i 0)) ∧ ∀ c ∈ strL s, c < 256 := by decide +kernel
theorem getD_256 {l : List Nat} (h : ∀ c ∈ l, c < 256) : ∀ i, l.getD i 0 < 256 := fun i => by
  rw [List.getD_eq_getElem?_getD]
  cases e : l[i]? with
  | none => decide
  | some c => exact h c (List.mem_of_getElem? e)
theorem strCh_fit {s : Nat} (hs : s < strN) : sb_Fit (strCh s) := fun j => by
  by_cases hj : j < strLenN s
  · rw [(strL_ok s hs).2.1 j hj]; exact sb_fitB _
  · have : strCh s j = 0 := by
      unfold strCh strLenN at *
      rw [List.getD_eq_getElem?_getD, List.getElem?_eq_none (by omega)]; rfl
    rw [this]; decide
section TX3
variable {ρ : Type} {ι : ρ → xO × xW} {M : xMd} {b b2 : Nat × Nat} {pc : Nat} {lv : List (Nat × Value)} {st : List Value} {w : xW} {r : Option ρ}
theorem xj_wid (h : Nat.ble b2.1 b.1 = true) (h2 : Nat.ble b2.2 b.2 = true) {L : xLay} (k : xJ ι M L b2 pc lv st w r) : xJ ι M L b pc lv st w r := by
  have h := Nat.le_of_ble_eq_true h
  have h2 := Nat.le_of_ble_eq_true h2
  intro o ho X G A ex H locs ls cells slots Q C P hl hc hs hend
  exact k o ho X G A ex H locs ls cells slots Q C P hl (by omega) (by omega) (fun H1 locs1 ls1 pc1 ex1 cells1 slots1 g1 g2 g3 g4 g5 => hend H1 locs1 ls1 pc1 ex1 cells1 slots1 g1 (by omega) (by omega) g4 g5)
theorem xj_sbC {x : Int32} {idx : Nat} {F : Unit → xW → Option ρ} (hb : (Nat.ble (b2.1 + 1) b.1 && Nat.ble (b2.2 + 402) b.2) = true) (hd : decode M.2.1 pc = .ok (.invokevirtual idx, 3)) (hlink : Cond.methodLink M.1.cls idx yB_Bapc ∈ gtbl) (f1 : Nat.ble (mB_Bapc.2.2.2.2.frames + 1) M.2.2.2.2.frames = true) (f2 : Nat.ble (8 + (mB_Bapc.2.2.1 + 11) + mB_Bapc.2.2.2.2.locals) M.2.2.2.2.locals = true) (hsum : Nat.ble (st.map fun v => v.category).sum 8 = true)
    (kk : ∀ w1, xJ ι M lC b2 (pc + 3) lv (.ref 30 :: st) w1 (F () w1)) : xJ ι M lC b pc lv (.int x :: .ref 30 :: st) w (xbd (sbC x w) F) := by
  rw [Bool.and_eq_true] at hb
  have hb1 := Nat.le_of_ble_eq_true hb.1
  have hb2 := Nat.le_of_ble_eq_true hb.2
  intro o ho X G A ex H locs ls cells slots Q C P hl hc hs hend
  unfold xbd sbC at ho
  split at ho
  · rename_i hg
    have ho : F () (tput w [x.toNatClampNeg]) = some o := ho
    have hx : nI x.toNatClampNeg = x := tn_nI hg.1.1
    refine xc_call (As := [.int x]) (rest := st.map (xv G)) (v := some (.ref (G.2.2 30))) (l := [x.toNatClampNeg]) (nn := id) (w2 := tput w [x.toNatClampNeg]) C P (stB_of C P (s := 0) (by decide)) rfl mkB_Bapc hlink f1 f2 rfl rfl rfl hl.1 (by rw [xcat_sum]; exact hsum) hd ⟨by omega, by omega⟩ (fun n => Nat.le_refl n) (fun bb m n' wS e1 e2 e3 e4 e5 e6 => ?_) (getD_256 (fun c hc => by rw [List.mem_singleton.mp hc]; exact hg.1.2)) (fun n' e1 e2 => tput_hw (Nat.le_of_ble_eq_true rfl) n' e1 e2) (fun ex2 H1 locs1 P1 => kk _ o ho X G A ex2 H1 locs1 ls (cells + 1) (slots + 402) Q C P1 hl (by omega) (by omega) (fun H1 locs1 ls1 pc1 ex1 cells1 slots1 g1 g2 g3 g4 g5 => hend H1 locs1 ls1 pc1 ex1 cells1 slots1 g1 (by omega) (by omega) g4 g5))
    have h := c_Bapc C.2.2.2.2.2.2.2.2.1 (gS G bb (G.2.2 (1000 + 0)) (G.2.2 (1500 + 0))) wS m (strLenN 0) (strCh 0) n' x.toNatClampNeg H.size e1 e2 e3 e4 (by have := xin_ltn hg.2 e5 (by omega); omega) hg.1.2 e6
    rw [hx] at h
    exact h
  · cases ho
theorem xj_sbI {x : Int32} {idx : Nat} {F : Unit → xW → Option ρ} (hb : (Nat.ble (b2.1 + 1) b.1 && Nat.ble (b2.2 + 402) b.2) = true) (hd : decode M.2.1 pc = .ok (.invokevirtual idx, 3)) (hlink : Cond.methodLink M.1.cls idx yB_Bapi ∈ gtbl) (f1 : Nat.ble (mB_Bapi.2.2.2.2.frames + 1) M.2.2.2.2.frames = true) (f2 : Nat.ble (8 + (mB_Bapi.2.2.1 + 11) + mB_Bapi.2.2.2.2.locals) M.2.2.2.2.locals = true) (hsum : Nat.ble (st.map fun v => v.category).sum 8 = true)
    (kk : ∀ w1, xJ ι M lC b2 (pc + 3) lv (.ref 30 :: st) w1 (F () w1)) : xJ ι M lC b pc lv (.int x :: .ref 30 :: st) w (xbd (sbI x w) F) := by
  rw [Bool.and_eq_true] at hb
  have hb1 := Nat.le_of_ble_eq_true hb.1
  have hb2 := Nat.le_of_ble_eq_true hb.2
  intro o ho X G A ex H locs ls cells slots Q C P hl hc hs hend
  unfold xbd sbI at ho
  split at ho
  · rename_i hg
    have ho : F () (tput w (numL x.toInt)) = some o := ho
    refine xc_call (As := [.int x]) (rest := st.map (xv G)) (v := some (.ref (G.2.2 30))) (l := numL x.toInt) (nn := id) (w2 := tput w (numL x.toInt)) C P (stB_of C P (s := 0) (by decide)) rfl mkB_Bapi hlink f1 f2 rfl rfl rfl hl.1 (by rw [xcat_sum]; exact hsum) hd ⟨by omega, by omega⟩ (fun n => Nat.le_refl n) (fun bb m n' wS e1 e2 e3 e4 e5 e6 => ?_) numL_256 (fun n' e1 e2 => tput_hw (by have := numL_le (x := x); omega) n' e1 e2) (fun ex2 H1 locs1 P1 => kk _ o ho X G A ex2 H1 locs1 ls (cells + 1) (slots + 402) Q C P1 hl (by omega) (by omega) (fun H1 locs1 ls1 pc1 ex1 cells1 slots1 g1 g2 g3 g4 g5 => hend H1 locs1 ls1 pc1 ex1 cells1 slots1 g1 (by omega) (by omega) g4 g5))
    exact c_Bapi C.2.2.2.2.2.2.2.2.1 (gS G bb (G.2.2 (1000 + 0)) (G.2.2 (1500 + 0))) wS m (strLenN 0) (strCh 0) n' x H.size e1 e2 e3 e4 (by have := xin_ltn hg e5 (by omega); omega) e6
  · cases ho
theorem xj_sbS {s idx : Nat} {F : Unit → xW → Option ρ} (hb : (Nat.ble (b2.1 + 1) b.1 && Nat.ble (b2.2 + 402) b.2) = true) (hd : decode M.2.1 pc = .ok (.invokevirtual idx, 3)) (hlink : Cond.methodLink M.1.cls idx yB_Baps ∈ gtbl) (f1 : Nat.ble (mB_Baps.2.2.2.2.frames + 1) M.2.2.2.2.frames = true) (f2 : Nat.ble (8 + (mB_Baps.2.2.1 + 11) + mB_Baps.2.2.2.2.locals) M.2.2.2.2.locals = true) (hsum : Nat.ble (st.map fun v => v.category).sum 8 = true)
    (kk : ∀ w1, xJ ι M lC b2 (pc + 3) lv (.ref 30 :: st) w1 (F () w1)) : xJ ι M lC b pc lv (.ref (1000 + s) :: .ref 30 :: st) w (xbd (sbS s w) F) := by
  rw [Bool.and_eq_true] at hb
  have hb1 := Nat.le_of_ble_eq_true hb.1
  have hb2 := Nat.le_of_ble_eq_true hb.2
  intro o ho X G A ex H locs ls cells slots Q C P hl hc hs hend
  unfold xbd sbS at ho
  split at ho
  · rename_i hg
    have ho : F () (tput w (strL s)) = some o := ho
    obtain ⟨s1, s2, s3⟩ := strL_ok s hg.1.1
    refine xc_call (As := [.ref (G.2.2 (1000 + s))]) (rest := st.map (xv G)) (v := some (.ref (G.2.2 30))) (l := strL s) (nn := id) (w2 := tput w (strL s)) C P (stB_of C P (s := s) hg.1.1) rfl mkB_Baps hlink f1 f2 rfl rfl rfl hl.1 (by rw [xcat_sum]; exact hsum) hd ⟨by omega, by omega⟩ (fun n => Nat.le_refl n) (fun bb m n' wS e1 e2 e3 e4 e5 e6 => ?_) (getD_256 s3) (fun n' e1 e2 => tput_hw (by have := hg.1.2; omega) n' e1 e2) (fun ex2 H1 locs1 P1 => kk _ o ho X G A ex2 H1 locs1 ls (cells + 1) (slots + 402) Q C P1 hl (by omega) (by omega) (fun H1 locs1 ls1 pc1 ex1 cells1 slots1 g1 g2 g3 g4 g5 => hend H1 locs1 ls1 pc1 ex1 cells1 slots1 g1 (by omega) (by omega) g4 g5))
    exact c_Baps C.2.2.2.2.2.2.2.2.1 (gS G bb (G.2.2 (1000 + s)) (G.2.2 (1500 + s))) wS m (strLenN s) (strCh s) n' (strL s) H.size e1 e2 e3 e4 (by have := xin_ltn hg.2 e5 (by omega); omega) hg.1.2 e6 (strCh_fit hg.1.1) s1 s2
  · cases ho
theorem xj_sbZ {idx : Nat} {F : Unit → xW → Option ρ} (hb : (Nat.ble (b2.1 + 1) b.1 && Nat.ble (b2.2 + 402) b.2) = true) (hd : decode M.2.1 pc = .ok (.invokevirtual idx, 3)) (hlink : Cond.methodLink M.1.cls idx yB_Bset ∈ gtbl) (f1 : Nat.ble (mB_Bset.2.2.2.2.frames + 1) M.2.2.2.2.frames = true) (f2 : Nat.ble (8 + (mB_Bset.2.2.1 + 11) + mB_Bset.2.2.2.2.locals) M.2.2.2.2.locals = true) (hsum : Nat.ble (st.map fun v => v.category).sum 8 = true)
    (kk : ∀ w1, xJ ι M lC b2 (pc + 3) lv st w1 (F () w1)) : xJ ι M lC b pc lv (.int 0 :: .ref 30 :: st) w (xbd (sbZ w) F) := by
  rw [Bool.and_eq_true] at hb
  have hb1 := Nat.le_of_ble_eq_true hb.1
  have hb2 := Nat.le_of_ble_eq_true hb.2
  intro o ho X G A ex H locs ls cells slots Q C P hl hc hs hend
  have ho : F () (xwi w 41 0 0) = some o := ho
  refine xc_call (As := [.int 0]) (rest := st.map (xv G)) (v := none) (l := []) (nn := fun _ => 0) (w2 := xwi w 41 0 0) C P (stB_of C P (s := 0) (by decide)) rfl mkB_Bset hlink f1 f2 rfl rfl rfl hl.1 (by rw [xcat_sum]; exact hsum) hd ⟨by omega, by omega⟩ (fun n => Nat.zero_le n) (fun bb m n' wS e1 e2 e3 e4 e5 e6 => ?_) (getD_256 (fun c hc => absurd hc List.not_mem_nil)) (fun n' e1 e2 => ⟨fun k hk i => xwi_o (by omega), rfl, xwi_s, fun j hj => absurd hj (Nat.not_lt_zero j), fun i hi => absurd hi (Nat.not_lt_zero i)⟩) (fun ex2 H1 locs1 P1 => kk _ o ho X G A ex2 H1 locs1 ls (cells + 1) (slots + 402) Q C P1 hl (by omega) (by omega) (fun H1 locs1 ls1 pc1 ex1 cells1 slots1 g1 g2 g3 g4 g5 => hend H1 locs1 ls1 pc1 ex1 cells1 slots1 g1 (by omega) (by omega) g4 g5))
  exact c_Bset C.2.2.2.2.2.2.2.2.1 (gS G bb (G.2.2 (1000 + 0)) (G.2.2 (1500 + 0))) wS m (strLenN 0) (strCh 0) n' H.size e1 e2 e3 e4 e6
theorem xj_sbL {idx : Nat} (hd : decode M.2.1 pc = .ok (.invokevirtual idx, 3)) (hlink : Cond.methodLink M.1.cls idx yB_Blen ∈ gtbl) (f1 : Nat.ble (mB_Blen.2.2.2.2.frames + 1) M.2.2.2.2.frames = true) (f2 : Nat.ble (8 + (mB_Blen.2.2.1 + 11) + mB_Blen.2.2.2.2.locals) M.2.2.2.2.locals = true) (hsum : Nat.ble (st.map fun v => v.category).sum 8 = true)
    (kk : xJ ι M lC b (pc + 3) lv (.int (w.1 41 0) :: st) w r) : xJ ι M lC b pc lv (.ref 30 :: st) w r := by
  intro o ho X G A ex H locs ls cells slots Q C P hl hc hs hend
  exact xc_call0 (As := []) (rest := st.map (xv G)) (v := some (.int (w.1 41 0))) C P (stB_of C P (s := 0) (by decide)) rfl mkB_Blen hlink f1 f2 rfl rfl rfl hl.1 (by rw [xcat_sum]; exact hsum) hd ⟨by omega, by omega⟩ (fun bb m n' wS e1 e2 e3 e4 e5 e6 => kB_Blen (v := w.1 41 0) (e2.trans e5.symm) _ rfl X.2.1 C.2.2.2.2.2.2.2.2.1 (gS G bb (G.2.2 (1000 + 0)) (G.2.2 (1500 + 0))) [] H.size) (fun _ => rfl) (fun H1 locs1 P1 => kk o ho X G A ex H1 locs1 ls cells slots Q C P1 hl hc hs hend)
theorem xj_sbA {idx : Nat} {i : Int32} (hd : decode M.2.1 pc = .ok (.invokevirtual idx, 3)) (hlink : Cond.methodLink M.1.cls idx yB_Bcha ∈ gtbl) (f1 : Nat.ble (mB_Bcha.2.2.2.2.frames + 1) M.2.2.2.2.frames = true) (f2 : Nat.ble (8 + (mB_Bcha.2.2.1 + 11) + mB_Bcha.2.2.2.2.locals) M.2.2.2.2.locals = true) (hsum : Nat.ble (st.map fun v => v.category).sum 8 = true)
    (kk : xJ ι M lC b (pc + 3) lv (.int (w.1 40 i.toNatClampNeg) :: st) w r) : xJ ι M lC b pc lv (.int i :: .ref 30 :: st) w (if xin i (w.1 41 0).toNatClampNeg then r else none) := by
  refine xj_guard (fun hi => ?_)
  intro o ho X G A ex H locs ls cells slots Q C P hl hc hs hend
  refine xc_call0 (As := [.int i]) (rest := st.map (xv G)) (v := some (.int (w.1 40 i.toNatClampNeg))) C P (stB_of C P (s := 0) (by decide)) rfl mkB_Bcha hlink f1 f2 rfl rfl rfl hl.1 (by rw [xcat_sum]; exact hsum) hd ⟨by omega, by omega⟩ (fun bb m n' wS e1 e2 e3 e4 e5 e6 => ?_) (fun _ => rfl) (fun H1 locs1 P1 => kk o ho X G A ex H1 locs1 ls cells slots Q C P1 hl hc hs hend)
  have hin : i.toNatClampNeg < n' := by
    have := hi.2
    rw [e5, nI_clamp (by omega)] at this
    exact this
  obtain ⟨c, c1, c2, c3⟩ := e6 i.toNatClampNeg hin
  have h := kB_Bcha (z := strLenN 0) (f := strCh 0) e1 e2 e3 e4 hin c1 c3 _ rfl X.2.1 C.2.2.2.2.2.2.2.2.1 (gS G bb (G.2.2 (1000 + 0)) (G.2.2 (1500 + 0))) [] H.size
  rw [c2]
  rw [tn_nI hi.1] at h
  exact h
end TX3
