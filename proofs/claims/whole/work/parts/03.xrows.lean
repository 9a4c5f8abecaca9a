/-! branches, stores, fields, arrays, returns, calls of the abstract machine -/
abbrev xin (i : Int32) (n : Nat) : Prop := ¬ i < 0 ∧ i.toNatClampNeg < n
abbrev xz (x : Int32) : Prop := x = 0 ∨ x = 1
theorem xin_vp {i : Int32} {n : Nat} (h : xin i n) : vp_in i n := fun q => q.elim h.1 (fun z => absurd h.2 (Nat.not_lt.mpr z))
theorem xz_nar {x : Int32} (h : xz x) : narrow .boolean (.int x) = .int x ∧ fits .boolean (.int x) = true := by rcases h with rfl | rfl <;> decide +kernel
theorem i32_le {x y : Int32} : x ≤ y ↔ ¬ y < x := Int32.not_lt.symm
theorem i64_le {x y : Int64} : x ≤ y ↔ ¬ y < x := Int64.not_lt.symm
section XR
variable {ρ : Type} {ι : ρ → xO × xW} {M : xMd} {L : xLay} {b : Nat × Nat} {pc : Nat} {lv : List (Nat × Value)} {st : List Value} {w : xW} {r ra rb : Option ρ}
theorem xj_br {P : Prop} [Decidable P] {p1 p2 : Nat} {st2 : List Value} (h : ∀ (X : xC) (G : xG) (A : Nat → Prop) (H : Heap) (locs : List Loc) (ls : Array Slot) (cells slots : Nat) (Q : State → Prop), xCtx M L X G A → lv_has ls M.2.2.1 (xlv G lv) →
    (P → xWc M.2.2.2.2 X H locs cells slots Q (xF X p1 ls (st2.map (xv G)))) → (¬ P → xWc M.2.2.2.2 X H locs cells slots Q (xF X p2 ls (st2.map (xv G)))) → xWc M.2.2.2.2 X H locs cells slots Q (xF X pc ls (st.map (xv G))))
    (k1 : xJ ι M L b p1 lv st2 w ra) (k2 : xJ ι M L b p2 lv st2 w rb) : xJ ι M L b pc lv st w (if P then ra else rb) := by
  intro o ho X G A ex H locs ls cells slots Q C Pp hl hc hs hend
  refine h X G A H locs ls cells slots Q C hl (fun hp => ?_) (fun hp => ?_)
  · rw [if_pos hp] at ho
    exact k1 o ho X G A ex H locs ls cells slots Q C Pp hl hc hs hend
  · rw [if_neg hp] at ho
    exact k2 o ho X G A ex H locs ls cells slots Q C Pp hl hc hs hend
variable {x y : Int32} {u v : Int64} {off : Int} {tgt : Nat}
theorem xj_ifeq (hd : decode M.2.1 pc = .ok (.ifCond .eq off, 3)) (ht : (pc : Int) + off = (tgt : Int)) (k1 : xJ ι M L b tgt lv st w ra) (k2 : xJ ι M L b (pc + 3) lv st w rb) : xJ ι M L b pc lv (.int x :: st) w (if x = 0 then ra else rb) :=
  xj_br (fun _ _ _ _ _ _ _ _ _ C _ h1 h2 => lv_if_eq C.1 C.2.1 hd ht h1 h2) k1 k2
theorem xj_ifne (hd : decode M.2.1 pc = .ok (.ifCond .ne off, 3)) (ht : (pc : Int) + off = (tgt : Int)) (k1 : xJ ι M L b (pc + 3) lv st w ra) (k2 : xJ ι M L b tgt lv st w rb) : xJ ι M L b pc lv (.int x :: st) w (if x = 0 then ra else rb) :=
  xj_br (fun _ _ _ _ _ _ _ _ _ C _ h1 h2 => lv_if_ne C.1 C.2.1 hd ht h2 h1) k1 k2
theorem xj_iflt (hd : decode M.2.1 pc = .ok (.ifCond .lt off, 3)) (ht : (pc : Int) + off = (tgt : Int)) (k1 : xJ ι M L b tgt lv st w ra) (k2 : xJ ι M L b (pc + 3) lv st w rb) : xJ ι M L b pc lv (.int x :: st) w (if x < 0 then ra else rb) :=
  xj_br (fun _ _ _ _ _ _ _ _ _ C _ h1 h2 => lv_if_lt C.1 C.2.1 hd ht h1 h2) k1 k2
theorem xj_ifge (hd : decode M.2.1 pc = .ok (.ifCond .ge off, 3)) (ht : (pc : Int) + off = (tgt : Int)) (k1 : xJ ι M L b (pc + 3) lv st w ra) (k2 : xJ ι M L b tgt lv st w rb) : xJ ι M L b pc lv (.int x :: st) w (if x < 0 then ra else rb) :=
  xj_br (fun _ _ _ _ _ _ _ _ _ C _ h1 h2 => lv_if_ge C.1 C.2.1 hd ht (fun h => h2 (i32_le.mp h)) (fun h => h1 (Decidable.not_not.mp (fun q => h (i32_le.mpr q))))) k1 k2
theorem xj_ifgt (hd : decode M.2.1 pc = .ok (.ifCond .gt off, 3)) (ht : (pc : Int) + off = (tgt : Int)) (k1 : xJ ι M L b tgt lv st w ra) (k2 : xJ ι M L b (pc + 3) lv st w rb) : xJ ι M L b pc lv (.int x :: st) w (if 0 < x then ra else rb) :=
  xj_br (fun _ _ _ _ _ _ _ _ _ C _ h1 h2 => lv_if_gt C.1 C.2.1 hd ht h1 h2) k1 k2
theorem xj_ifle (hd : decode M.2.1 pc = .ok (.ifCond .le off, 3)) (ht : (pc : Int) + off = (tgt : Int)) (k1 : xJ ι M L b (pc + 3) lv st w ra) (k2 : xJ ι M L b tgt lv st w rb) : xJ ι M L b pc lv (.int x :: st) w (if 0 < x then ra else rb) :=
  xj_br (fun _ _ _ _ _ _ _ _ _ C _ h1 h2 => lv_if_le C.1 C.2.1 hd ht (fun h => h2 (i32_le.mp h)) (fun h => h1 (Decidable.not_not.mp (fun q => h (i32_le.mpr q))))) k1 k2
theorem xj_ieq (hd : decode M.2.1 pc = .ok (.if_icmp .eq off, 3)) (ht : (pc : Int) + off = (tgt : Int)) (k1 : xJ ι M L b tgt lv st w ra) (k2 : xJ ι M L b (pc + 3) lv st w rb) : xJ ι M L b pc lv (.int y :: .int x :: st) w (if x = y then ra else rb) :=
  xj_br (fun _ _ _ _ _ _ _ _ _ C _ h1 h2 => lv_icmp_eq C.1 C.2.1 hd ht h1 h2) k1 k2
theorem xj_ine (hd : decode M.2.1 pc = .ok (.if_icmp .ne off, 3)) (ht : (pc : Int) + off = (tgt : Int)) (k1 : xJ ι M L b (pc + 3) lv st w ra) (k2 : xJ ι M L b tgt lv st w rb) : xJ ι M L b pc lv (.int y :: .int x :: st) w (if x = y then ra else rb) :=
  xj_br (fun _ _ _ _ _ _ _ _ _ C _ h1 h2 => lv_icmp_ne C.1 C.2.1 hd ht h2 h1) k1 k2
theorem xj_ilt (hd : decode M.2.1 pc = .ok (.if_icmp .lt off, 3)) (ht : (pc : Int) + off = (tgt : Int)) (k1 : xJ ι M L b tgt lv st w ra) (k2 : xJ ι M L b (pc + 3) lv st w rb) : xJ ι M L b pc lv (.int y :: .int x :: st) w (if x < y then ra else rb) :=
  xj_br (fun _ _ _ _ _ _ _ _ _ C _ h1 h2 => lv_icmp_lt C.1 C.2.1 hd ht h1 h2) k1 k2
theorem xj_ige (hd : decode M.2.1 pc = .ok (.if_icmp .ge off, 3)) (ht : (pc : Int) + off = (tgt : Int)) (k1 : xJ ι M L b (pc + 3) lv st w ra) (k2 : xJ ι M L b tgt lv st w rb) : xJ ι M L b pc lv (.int y :: .int x :: st) w (if x < y then ra else rb) :=
  xj_br (fun _ _ _ _ _ _ _ _ _ C _ h1 h2 => lv_icmp_ge C.1 C.2.1 hd ht (fun h => h2 (i32_le.mp h)) (fun h => h1 (Decidable.not_not.mp (fun q => h (i32_le.mpr q))))) k1 k2
theorem xj_igt (hd : decode M.2.1 pc = .ok (.if_icmp .gt off, 3)) (ht : (pc : Int) + off = (tgt : Int)) (k1 : xJ ι M L b tgt lv st w ra) (k2 : xJ ι M L b (pc + 3) lv st w rb) : xJ ι M L b pc lv (.int y :: .int x :: st) w (if y < x then ra else rb) :=
  xj_br (fun _ _ _ _ _ _ _ _ _ C _ h1 h2 => lv_icmp_gt C.1 C.2.1 hd ht h1 h2) k1 k2
theorem xj_ile (hd : decode M.2.1 pc = .ok (.if_icmp .le off, 3)) (ht : (pc : Int) + off = (tgt : Int)) (k1 : xJ ι M L b (pc + 3) lv st w ra) (k2 : xJ ι M L b tgt lv st w rb) : xJ ι M L b pc lv (.int y :: .int x :: st) w (if y < x then ra else rb) :=
  xj_br (fun _ _ _ _ _ _ _ _ _ C _ h1 h2 => lv_icmp_le C.1 C.2.1 hd ht (fun h => h2 (i32_le.mp h)) (fun h => h1 (Decidable.not_not.mp (fun q => h (i32_le.mpr q))))) k1 k2
theorem lgc (u v : Int64) : (lg_cmp u v = 0 ↔ u = v) ∧ (lg_cmp u v < 0 ↔ u < v) ∧ (0 < lg_cmp u v ↔ v < u) := by
  unfold lg_cmp
  by_cases h1 : u > v
  · rw [if_pos h1]
    refine ⟨⟨fun h => absurd h (by decide), fun h => ?_⟩, ⟨fun h => absurd h (by decide), fun h => ?_⟩, ⟨fun _ => h1, fun _ => by decide⟩⟩
    · rw [h] at h1; exact absurd h1 (Int64.lt_irrefl)
    · exact absurd (Int64.lt_trans h h1) (Int64.lt_irrefl)
  · rw [if_neg h1]
    by_cases h2 : u = v
    · rw [if_pos h2]
      exact ⟨⟨fun _ => h2, fun _ => rfl⟩, ⟨fun h => absurd h (by decide), fun h => by rw [h2] at h; exact absurd h (Int64.lt_irrefl)⟩, ⟨fun h => absurd h (by decide), fun h => absurd h h1⟩⟩
    · rw [if_neg h2]
      refine ⟨⟨fun h => absurd h (by decide), fun h => absurd h h2⟩, ⟨fun _ => ?_, fun _ => by decide⟩, ⟨fun h => absurd h (by decide), fun h => absurd h h1⟩⟩
      have h3 : u ≤ v := i64_le.mpr h1
      exact Int64.lt_of_le_of_ne h3 h2
theorem xj_leq (hd : decode M.2.1 pc = .ok (.lcmp, 1)) (hd2 : decode M.2.1 (pc + 1) = .ok (.ifCond .eq off, 3)) (ht : ((pc + 1 : Nat) : Int) + off = (tgt : Int)) (k1 : xJ ι M L b tgt lv st w ra) (k2 : xJ ι M L b (pc + 4) lv st w rb) : xJ ι M L b pc lv (.long v :: .long u :: st) w (if u = v then ra else rb) :=
  xj_br (fun _ _ _ _ _ _ _ _ _ C _ h1 h2 => W.lcmp C.1 C.2.1 hd (lv_if_eq C.1 C.2.1 hd2 ht (fun h => h1 ((lgc u v).1.mp h)) (fun h => h2 (fun z => h ((lgc u v).1.mpr z))))) k1 k2
theorem xj_lne (hd : decode M.2.1 pc = .ok (.lcmp, 1)) (hd2 : decode M.2.1 (pc + 1) = .ok (.ifCond .ne off, 3)) (ht : ((pc + 1 : Nat) : Int) + off = (tgt : Int)) (k1 : xJ ι M L b (pc + 4) lv st w ra) (k2 : xJ ι M L b tgt lv st w rb) : xJ ι M L b pc lv (.long v :: .long u :: st) w (if u = v then ra else rb) :=
  xj_br (fun _ _ _ _ _ _ _ _ _ C _ h1 h2 => W.lcmp C.1 C.2.1 hd (lv_if_ne C.1 C.2.1 hd2 ht (fun h => h2 (fun z => h ((lgc u v).1.mpr z))) (fun h => h1 ((lgc u v).1.mp h)))) k1 k2
theorem xj_llt (hd : decode M.2.1 pc = .ok (.lcmp, 1)) (hd2 : decode M.2.1 (pc + 1) = .ok (.ifCond .lt off, 3)) (ht : ((pc + 1 : Nat) : Int) + off = (tgt : Int)) (k1 : xJ ι M L b tgt lv st w ra) (k2 : xJ ι M L b (pc + 4) lv st w rb) : xJ ι M L b pc lv (.long v :: .long u :: st) w (if u < v then ra else rb) :=
  xj_br (fun _ _ _ _ _ _ _ _ _ C _ h1 h2 => W.lcmp C.1 C.2.1 hd (lv_if_lt C.1 C.2.1 hd2 ht (fun h => h1 ((lgc u v).2.1.mp h)) (fun h => h2 (fun z => h ((lgc u v).2.1.mpr z))))) k1 k2
theorem xj_lge (hd : decode M.2.1 pc = .ok (.lcmp, 1)) (hd2 : decode M.2.1 (pc + 1) = .ok (.ifCond .ge off, 3)) (ht : ((pc + 1 : Nat) : Int) + off = (tgt : Int)) (k1 : xJ ι M L b (pc + 4) lv st w ra) (k2 : xJ ι M L b tgt lv st w rb) : xJ ι M L b pc lv (.long v :: .long u :: st) w (if u < v then ra else rb) :=
  xj_br (fun _ _ _ _ _ _ _ _ _ C _ h1 h2 => W.lcmp C.1 C.2.1 hd (lv_if_ge C.1 C.2.1 hd2 ht (fun h => h2 (fun z => i32_le.mp h ((lgc u v).2.1.mpr z))) (fun h => h1 ((lgc u v).2.1.mp (Decidable.not_not.mp (fun q => h (i32_le.mpr q))))))) k1 k2
theorem xj_lgt (hd : decode M.2.1 pc = .ok (.lcmp, 1)) (hd2 : decode M.2.1 (pc + 1) = .ok (.ifCond .gt off, 3)) (ht : ((pc + 1 : Nat) : Int) + off = (tgt : Int)) (k1 : xJ ι M L b tgt lv st w ra) (k2 : xJ ι M L b (pc + 4) lv st w rb) : xJ ι M L b pc lv (.long v :: .long u :: st) w (if v < u then ra else rb) :=
  xj_br (fun _ _ _ _ _ _ _ _ _ C _ h1 h2 => W.lcmp C.1 C.2.1 hd (lv_if_gt C.1 C.2.1 hd2 ht (fun h => h1 ((lgc u v).2.2.mp h)) (fun h => h2 (fun z => h ((lgc u v).2.2.mpr z))))) k1 k2
theorem xj_lle (hd : decode M.2.1 pc = .ok (.lcmp, 1)) (hd2 : decode M.2.1 (pc + 1) = .ok (.ifCond .le off, 3)) (ht : ((pc + 1 : Nat) : Int) + off = (tgt : Int)) (k1 : xJ ι M L b (pc + 4) lv st w ra) (k2 : xJ ι M L b tgt lv st w rb) : xJ ι M L b pc lv (.long v :: .long u :: st) w (if v < u then ra else rb) :=
  xj_br (fun _ _ _ _ _ _ _ _ _ C _ h1 h2 => W.lcmp C.1 C.2.1 hd (lv_if_le C.1 C.2.1 hd2 ht (fun h => h2 (fun z => i32_le.mp h ((lgc u v).2.2.mpr z))) (fun h => h1 ((lgc u v).2.2.mp (Decidable.not_not.mp (fun q => h (i32_le.mpr q))))))) k1 k2
/-- a guard: the answer says something only where it holds -/
theorem xj_guard {P : Prop} [Decidable P] (k : P → xJ ι M L b pc lv st w r) : xJ ι M L b pc lv st w (if P then r else none) := by
  intro o ho
  by_cases hp : P
  · rw [if_pos hp] at ho
    exact k hp o ho
  · rw [if_neg hp] at ho
    cases ho
theorem xj_idiv (hd : decode M.2.1 pc = .ok (.idiv, 1)) (k : xJ ι M L b (pc + 1) lv (.int (x / y) :: st) w r) : xJ ι M L b pc lv (.int y :: .int x :: st) w (if ¬ y = 0 then r else none) :=
  xj_guard fun h => xj_go (fun _ _ _ _ _ _ _ _ _ C _ => lv_idiv C.1 C.2.1 hd h) k
theorem xj_irem (hd : decode M.2.1 pc = .ok (.irem, 1)) (k : xJ ι M L b (pc + 1) lv (.int (x - x / y * y) :: st) w r) : xJ ι M L b pc lv (.int y :: .int x :: st) w (if ¬ y = 0 then r else none) :=
  xj_guard fun h => xj_go (fun _ _ _ _ _ _ _ _ _ C _ => lv_irem C.1 C.2.1 hd h) k
theorem xj_ldiv (hd : decode M.2.1 pc = .ok (.ldiv, 1)) (k : xJ ι M L b (pc + 1) lv (.long (u / v) :: st) w r) : xJ ι M L b pc lv (.long v :: .long u :: st) w (if ¬ v = 0 then r else none) :=
  xj_guard fun h => xj_go (fun _ _ _ _ _ _ _ _ _ C _ => lv_ldiv C.1 C.2.1 hd h) k
theorem xj_lrem (hd : decode M.2.1 pc = .ok (.lrem, 1)) (k : xJ ι M L b (pc + 1) lv (.long (u - u / v * v) :: st) w r) : xJ ι M L b pc lv (.long v :: .long u :: st) w (if ¬ v = 0 then r else none) :=
  xj_guard fun h => xj_go (fun _ _ _ _ _ _ _ _ _ C _ => lv_lrem C.1 C.2.1 hd h) k
/-- the answer, rewritten -/
theorem xj_eq {r2 : Option ρ} (h : r = r2) (k : xJ ι M L b pc lv st w r2) : xJ ι M L b pc lv st w r := by rw [h]; exact k
theorem xj_dup2 {va vb : Value} (hd : decode M.2.1 pc = .ok (.dup2, 1)) (ha : va.category = 1) (hb : vb.category = 1) (k : xJ ι M L b (pc + 1) lv (va :: vb :: va :: vb :: st) w r) : xJ ι M L b pc lv (va :: vb :: st) w r :=
  xj_go (fun _ G _ _ _ _ _ _ _ C _ => lv_dup2_11 C.1 C.2.1 hd (by rw [xv_cat]; exact ha) (by rw [xv_cat]; exact hb)) k
theorem xj_dup2l {va : Value} (hd : decode M.2.1 pc = .ok (.dup2, 1)) (ha : va.category = 2) (k : xJ ι M L b (pc + 1) lv (va :: va :: st) w r) : xJ ι M L b pc lv (va :: st) w r :=
  xj_go (fun _ G _ _ _ _ _ _ _ C _ => lv_dup2_2 C.1 C.2.1 hd (by rw [xv_cat]; exact ha)) k
/-- fewer locals, in any order -/
theorem xj_sub {lv2 : List (Nat × Value)} (ks : List Nat) (h : lv_pick lv ks = lv2) (k : xJ ι M L b pc lv2 st w r) : xJ ι M L b pc lv st w r := by
  intro o ho X G A ex H locs ls cells slots Q C P hl hc hs hend
  refine k o ho X G A ex H locs ls cells slots Q C P (lv_sub hl ks ?_) hc hs hend
  rw [← h]
  unfold lv_pick xlv
  rw [List.map_filterMap]
  congr 1
  funext i
  rw [List.getElem?_map]
theorem xlv_filter (G : xG) (lv : List (Nat × Value)) (p : Nat → Nat → Bool) : (xlv G lv).filter (fun q => p q.1 q.2.category) = xlv G (lv.filter (fun q => p q.1 q.2.category)) := by
  induction lv with
  | nil => rfl
  | cons a lv ih =>
    show ((a.1, xv G a.2) :: xlv G lv).filter _ = _
    rw [List.filter_cons, List.filter_cons, xv_cat]
    split
    · rw [ih]; rfl
    · exact ih
def xset1 (i : Nat) (v : Value) (lv : List (Nat × Value)) : List (Nat × Value) := (i, v) :: lv.filter (fun q => !(q.1 == i) && !(q.1 + 1 == i && q.2.category == 2))
def xset2 (i : Nat) (v : Value) (lv : List (Nat × Value)) : List (Nat × Value) := (i, v) :: lv.filter (fun q => !(q.1 == i) && (!(q.1 == i + 1) && !(q.1 + 1 == i && q.2.category == 2)))
theorem xset1_v (G : xG) (i : Nat) (v : Value) (lv : List (Nat × Value)) : (i, xv G v) :: (xlv G lv).filter (fun q => !(q.1 == i) && !(q.1 + 1 == i && q.2.category == 2)) = xlv G (xset1 i v lv) := by
  rw [xlv_filter G lv (fun a c => !(a == i) && !(a + 1 == i && c == 2))]; rfl
theorem xset2_v (G : xG) (i : Nat) (v : Value) (lv : List (Nat × Value)) : (i, xv G v) :: (xlv G lv).filter (fun q => !(q.1 == i) && (!(q.1 == i + 1) && !(q.1 + 1 == i && q.2.category == 2))) = xlv G (xset2 i v lv) := by
  rw [xlv_filter G lv (fun a c => !(a == i) && (!(a == i + 1) && !(a + 1 == i && c == 2)))]; rfl
theorem xj_stq {pc2 : Nat} {st2 : List Value} {lv2 : List (Nat × Value)} (h : ∀ (X : xC) (G : xG) (A : Nat → Prop) (H : Heap) (locs : List Loc) (ls : Array Slot) (cells slots : Nat) (Q : State → Prop), xCtx M L X G A → lv_has ls M.2.2.1 (xlv G lv) →
    (∀ ls2 : Array Slot, lv_has ls2 M.2.2.1 (xlv G lv2) → xWc M.2.2.2.2 X H locs cells slots Q (xF X pc2 ls2 (st2.map (xv G)))) → xWc M.2.2.2.2 X H locs cells slots Q (xF X pc ls (st.map (xv G)))) (k : xJ ι M L b pc2 lv2 st2 w r) : xJ ι M L b pc lv st w r := by
  intro o ho X G A ex H locs ls cells slots Q C P hl hc hs hend
  exact h X G A H locs ls cells slots Q C hl (fun ls2 h2 => k o ho X G A ex H locs ls2 cells slots Q C P h2 hc hs hend)
variable {lv2 : List (Nat × Value)}
theorem xj_istoren {q : Fin 4} {i : Nat} (hd : decode M.2.1 pc = .ok (.istore_n q, 1)) (hi : (q : Nat) = i) (hn : i < M.2.2.1) (hl : xset1 i (.int x) lv = lv2) (k : xJ ι M L b (pc + 1) lv2 st w r) : xJ ι M L b pc lv (.int x :: st) w r :=
  xj_stq (fun _ G _ _ _ _ _ _ _ C hv h => lv_istore_n C.1 C.2.1 hd hi hv hn (by rw [← hl]; exact xset1_v G i (.int x) lv) h) k
theorem xj_istore {i : Nat} (hd : decode M.2.1 pc = .ok (.istore i, 2)) (hn : i < M.2.2.1) (hl : xset1 i (.int x) lv = lv2) (k : xJ ι M L b (pc + 2) lv2 st w r) : xJ ι M L b pc lv (.int x :: st) w r :=
  xj_stq (fun _ G _ _ _ _ _ _ _ C hv h => lv_istore C.1 C.2.1 hd hv hn (by rw [← hl]; exact xset1_v G i (.int x) lv) h) k
theorem xj_astoren {q : Fin 4} {i a : Nat} (hd : decode M.2.1 pc = .ok (.astore_n q, 1)) (hi : (q : Nat) = i) (hn : i < M.2.2.1) (hl : xset1 i (.ref a) lv = lv2) (k : xJ ι M L b (pc + 1) lv2 st w r) : xJ ι M L b pc lv (.ref a :: st) w r :=
  xj_stq (fun _ G _ _ _ _ _ _ _ C hv h => lv_astore_n (x := G.2.2 a) C.1 C.2.1 hd hi hv hn (by rw [← hl]; exact xset1_v G i (.ref a) lv) h) k
theorem xj_astore {i a : Nat} (hd : decode M.2.1 pc = .ok (.astore i, 2)) (hn : i < M.2.2.1) (hl : xset1 i (.ref a) lv = lv2) (k : xJ ι M L b (pc + 2) lv2 st w r) : xJ ι M L b pc lv (.ref a :: st) w r :=
  xj_stq (fun _ G _ _ _ _ _ _ _ C hv h => lv_astore (x := G.2.2 a) C.1 C.2.1 hd hv hn (by rw [← hl]; exact xset1_v G i (.ref a) lv) h) k
theorem xj_lstoren {q : Fin 4} {i : Nat} (hd : decode M.2.1 pc = .ok (.lstore_n q, 1)) (hi : (q : Nat) = i) (hn : i + 1 < M.2.2.1) (hl : xset2 i (.long u) lv = lv2) (k : xJ ι M L b (pc + 1) lv2 st w r) : xJ ι M L b pc lv (.long u :: st) w r :=
  xj_stq (fun _ G _ _ _ _ _ _ _ C hv h => lv_lstore_n C.1 C.2.1 hd hi hv hn (by rw [← hl]; exact xset2_v G i (.long u) lv) h) k
theorem xj_lstore {i : Nat} (hd : decode M.2.1 pc = .ok (.lstore i, 2)) (hn : i + 1 < M.2.2.1) (hl : xset2 i (.long u) lv = lv2) (k : xJ ι M L b (pc + 2) lv2 st w r) : xJ ι M L b pc lv (.long u :: st) w r :=
  xj_stq (fun _ G _ _ _ _ _ _ _ C hv h => lv_lstore C.1 C.2.1 hd hv hn (by rw [← hl]; exact xset2_v G i (.long u) lv) h) k
theorem xj_iinc {i n : Nat} {d : Int} {z : Int32} (hd : decode M.2.1 pc = .ok (.iinc i d, 3)) (hk : lv[n]? = some (i, .int x)) (hz : Int32.ofInt d = z) (hn : i < M.2.2.1) (hl : xset1 i (.int (x + z)) lv = lv2) (k : xJ ι M L b (pc + 3) lv2 st w r) : xJ ι M L b pc lv st w r :=
  xj_stq (fun _ G _ _ _ _ _ _ _ C hv h => lv_iinc (k := n) (v := x + z) C.1 C.2.1 hd hv (xlv_at hk) (by rw [hz]) hn (by rw [← hl]; exact xset1_v G i (.int (x + z)) lv) h) k
/-! switches -/
def xJs {ρ : Type} (ι : ρ → xO × xW) (M : xMd) (L : xLay) (b : Nat × Nat) (lv : List (Nat × Value)) (st : List Value) (w : xW) : List Nat → List (Option ρ) → Prop
  | t :: ts, q :: qs => xJ ι M L b t lv st w q ∧ xJs ι M L b lv st w ts qs
  | _, _ => True
theorem xJs_at {ρ : Type} {ι : ρ → xO × xW} {M : xMd} {L : xLay} {b : Nat × Nat} {lv : List (Nat × Value)} {st : List Value} {w : xW} : ∀ {ts : List Nat} {qs : List (Option ρ)}, xJs ι M L b lv st w ts qs → ∀ {i t : Nat} {q : Option ρ}, ts[i]? = some t → qs[i]? = some q → xJ ι M L b t lv st w q
  | [], _, _, i, t, q, h, _ => by simp at h
  | t0 :: ts, [], _, i, t, q, _, h => by simp at h
  | t0 :: ts, q0 :: qs, hh, 0, t, q, h1, h2 => by simp at h1 h2; rw [← h1, ← h2]; exact hh.1
  | t0 :: ts, q0 :: qs, hh, i + 1, t, q, h1, h2 => by rw [List.getElem?_cons_succ] at h1 h2; exact xJs_at hh.2 h1 h2
/-- the answer of a tableswitch -/
def xsw {ρ : Type} (x : Int32) (lo : Int) (l : List (Option ρ)) (d : Option ρ) : Option ρ := if x.toInt < lo then d else match l[(x.toInt - lo).toNat]? with
  | some q => q
  | none => d
theorem xj_tsw {dflt lo hi : Int} {offs : Array Int} {len tgtd : Nat} {l : List (Option ρ)} (tgts : List Nat) (hd : decode M.2.1 pc = .ok (.tableswitch dflt lo hi offs, len)) (ht : (pc : Int) + dflt = (tgtd : Int))
    (h1 : offs.toList.map (fun o => (pc : Int) + o) = List.map (fun (t : Nat) => (t : Int)) tgts) (h2 : tgts.length = l.length) (h3 : lo + l.length = hi + 1) (kd : xJ ι M L b tgtd lv st w rb) (ks : xJs ι M L b lv st w tgts l) : xJ ι M L b pc lv (.int x :: st) w (xsw x lo l rb) := by
  intro o ho X G A ex H locs ls cells slots Q C P hl hc hs hend
  unfold xsw at ho
  by_cases c1 : x.toInt < lo
  · rw [if_pos c1] at ho
    exact lv_tableOut C.1 C.2.1 hd (Or.inl c1) ht (kd o ho X G A ex H locs ls cells slots Q C P hl hc hs hend)
  · rw [if_neg c1] at ho
    by_cases c2 : hi < x.toInt
    · have hnone : l[(x.toInt - lo).toNat]? = none := List.getElem?_eq_none (by omega)
      rw [hnone] at ho
      exact lv_tableOut C.1 C.2.1 hd (Or.inr c2) ht (kd o ho X G A ex H locs ls cells slots Q C P hl hc hs hend)
    · have hlt : (x.toInt - lo).toNat < l.length := by omega
      have hltt : (x.toInt - lo).toNat < tgts.length := by omega
      rw [List.getElem?_eq_getElem hlt] at ho
      have hoff : (offs.toList.map (fun o => (pc : Int) + o))[(x.toInt - lo).toNat]? = some ((tgts[(x.toInt - lo).toNat] : Nat) : Int) := by
        rw [h1, List.getElem?_map, List.getElem?_eq_getElem hltt]; rfl
      rw [List.getElem?_map] at hoff
      cases hof : offs.toList[(x.toInt - lo).toNat]? with
      | none => rw [hof] at hoff; cases hoff
      | some off =>
        rw [hof] at hoff
        have hoff2 : (pc : Int) + off = ((tgts[(x.toInt - lo).toNat] : Nat) : Int) := Option.some.inj hoff
        refine lv_tableIn C.1 C.2.1 hd c1 c2 (off := off) (by rw [← Array.getElem?_toList]; exact hof) hoff2 ?_
        exact (xJs_at ks (List.getElem?_eq_getElem hltt) (List.getElem?_eq_getElem hlt)) o ho X G A ex H locs ls cells slots Q C P hl hc hs hend
end XR
