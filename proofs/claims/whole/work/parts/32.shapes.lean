/-! shapes of instructions: the class's end of decode and the reference's end of take on the same bytes -/
def opTab : List (Int32 × Int32 × Int32 × Int32) := [(0, 1, 0, 1), (0, 2, 0, 2), (0, 3, 0, 3), (0, 3, 0, 4), (1, 1, 1, 1), (1, 2, 1, 2), (1, 3, 1, 3), (1, 3, 1, 4), (2, 1, 2, 1), (2, 2, 2, 2), (2, 3, 2, 3), (2, 3, 2, 4), (3, 1, 3, 1), (3, 2, 3, 2), (3, 3, 3, 3), (3, 3, 3, 4), (4, 1, 4, 1), (4, 2, 4, 2), (4, 3, 4, 3), (4, 3, 4, 4), (5, 1, 5, 1), (5, 2, 5, 2), (5, 3, 5, 3), (5, 3, 5, 4), (6, 1, 6, 1), (6, 2, 6, 2), (6, 3, 6, 3), (6, 3, 6, 4), (7, 1, 7, 1), (7, 2, 7, 2), (7, 3, 7, 3), (7, 3, 7, 4), (8, 3, 21, 4), (8, 3, 21, 10), (8, 4, 21, 11), (9, 3, 22, 4), (9, 3, 22, 10), (9, 4, 22, 11), (10, 3, 23, 4), (10, 3, 23, 10), (10, 4, 23, 11), (11, 3, 24, 4), (11, 3, 24, 10), (11, 4, 24, 11), (12, 3, 25, 4), (12, 3, 25, 10), (12, 4, 25, 11), (13, 3, 26, 4), (13, 3, 26, 10), (13, 4, 26, 11), (15, 3, 27, 4), (15, 3, 27, 10), (15, 4, 27, 11), (16, 1, 14, 1), (16, 3, 14, 3), (16, 3, 14, 4), (17, 5, 8, 6), (17, 5, 8, 5), (18, 5, 9, 6), (18, 5, 9, 5), (19, 5, 37, 5), (20, 5, 36, 5), (21, 8, 46, 12), (22, 8, 47, 12), (23, 5, 38, 5), (24, 5, 39, 5), (25, 7, 12, 9), (25, 2, 12, 2), (26, 5, 40, 5), (27, 5, 41, 5), (28, 1, 16, 1), (28, 2, 16, 2), (28, 3, 16, 4), (28, 3, 16, 13), (29, 2, 49, 2), (30, 2, 52, 2), (31, 2, 17, 2), (32, 2, 44, 2), (33, 5, 45, 5), (34, 2, 50, 2), (35, 2, 51, 2), (36, 5, 54, 6), (37, 0, 19, 0), (38, 0, 20, 0), (39, 1, 15, 1), (39, 1, 15, 14), (40, 1, 53, 1), (41, 1, 48, 1), (42, 5, 10, 6), (42, 6, 10, 7), (42, 5, 10, 5), (43, 5, 11, 6), (43, 5, 11, 5), (44, 9, 30, 8), (44, 5, 42, 5), (45, 9, 31, 8), (45, 5, 43, 5), (46, 9, 13, 8), (47, 9, 28, 8), (48, 9, 29, 8), (49, 0, 32, 0), (50, 0, 18, 0), (50, 5, 18, 5), (51, 0, 33, 0), (52, 0, 34, 0), (53, 0, 35, 0)]
def eform (a : Int32) : Bool := a == 1 || a == 2 || a == 4 || a == 5 || a == 9 || a == 10 || a == 11 || a == 12
/-- E's parts, or a register's: class c6 .. c12, reference a5 .. a11 -/
def RDe (c6 c7 c8 c9 c10 c11 c12 a1 a5 a6 a7 a8 a9 a10 a11 : Int32) : Prop :=
  in8 c7 ∧ in8 c8 ∧ in8 a7 ∧
  ((eform a1 = true ∧ c7 = a7 ∧ c8 = a6 ∧ ((a5 = 3 ∧ c6 = 0 ∧ c9 = -1 ∧ c10 = -1 ∧ a8 = -1 ∧ a9 = -1) ∨
      ((a5 = 0 ∨ a5 = 1 ∨ a5 = 2) ∧ c6 = 1 ∧ c9 = a8 ∧ c10 = a9 ∧ c12 = a11 ∧ (a8 = -1 ∨ in8 a8) ∧ (a9 = -1 ∨ (in8 a9 ∧ a9 ≠ 4)) ∧ ∃ s : Nat, s < 4 ∧ c11 = nI s ∧ a10 = nI (2 ^ s)))) ∨
   (eform a1 = false ∧ a5 = 3 ∧ c6 = 0 ∧ c9 = -1 ∧ c10 = -1 ∧ a8 = -1 ∧ a9 = -1 ∧ (a1 = 14 → c7 = 0 ∧ c8 = a7) ∧ (a1 = 3 → c7 = 0) ∧ (a1 = 6 ∨ a1 = 13 → c7 = a7)))
def nform (a : Int32) : Bool := a == 3 || a == 4 || a == 7 || a == 8 || a == 9 || a == 12 || a == 13
def RDn (c13 a1 a12 : Int32) : Prop := (nform a1 = true → c13 = a12) ∧ (a1 = 10 → c13 = 1)
def RDc (c0 c3 a2 : Int32) : Prop := (c0 = 46 ∨ c0 = 32 ∨ c0 = 33) → c3 = a2 ∧ ∃ j : Nat, j < 16 ∧ c3 = nI j
def RDx (c6 a0 : Int32) : Prop := (a0 = 17 → c6 = 1) ∧ ((a0 = 42 ∨ a0 = 43) → c6 = 0)
def w4 (a : Int32) : Bool := a == 10 || a == 11 || a == 12 || a == 13 || a == 17 || a == 18 || a == 19 || a == 20 || a == 28 || a == 29 || a == 30 || a == 31 || a == 32 || a == 33 || a == 34 || a == 35 || a == 42 || a == 43 || a == 44 || a == 46 || a == 47 || a == 48 || a == 49 || a == 50 || a == 51 || a == 52 || a == 53 || a == 54
abbrev RDw (a0 a1 a3 a4 : Int32) : Prop := ((¬ a0 = 49 ∧ ¬ a0 = 52 ∧ a3 = a4) ∨ ((a0 = 49 ∨ a0 = 52) ∧ a3 = 4 ∧ (a4 = 1 ∨ a4 = 2))) ∧ ((a1 = 14 ∨ w4 a0 = true ∨ a1 = 6) → a3 = 4)
def RDm (L : Nat) (c2 c6 a0 a1 a3 : Int32) : Prop :=
  (((c2 = 131 ∨ c2 = 129) → a1 = 4 ∧ a3 = 4 ∧ (c6 = 0 → (c2 = 131 → L = 3) ∧ (c2 = 129 → L = 6))) ∧ ((a1 = 4 ∧ a3 = 4 ∧ (a0 = 1 ∨ a0 = 4)) → c2 = 131 ∨ c2 = 129)) ∧ RDx c6 a0
abbrev wid (x : Int32) : Prop := x = 1 ∨ x = 2 ∨ x = 4
def RD (L : Nat) (c0 c1 c2 c3 c4 c5 c6 c7 c8 c9 c10 c11 c12 c13 a0 a1 a2 a3 a4 a5 a6 a7 a8 a9 a10 a11 a12 : Int32) : Prop :=
  (c0, c1, a0, a1) ∈ opTab ∧ (c4 = a3 ∧ c5 = a4 ∧ wid a3 ∧ wid a4 ∧ RDw a0 a1 a3 a4) ∧ RDe c6 c7 c8 c9 c10 c11 c12 a1 a5 a6 a7 a8 a9 a10 a11 ∧ RDn c13 a1 a12 ∧ RDc c0 c3 a2 ∧ RDm L c2 c6 a0 a1 a3
/-- both came to an end: with the same word, and, where there is an instruction, with the same parts -/
def DP (n p : Nat) (w m : xW) (rc rm : Option (Int32 × xW)) : Prop :=
  ∃ (c0 c1 c2 c3 c4 c5 c6 c7 c8 c9 c10 c11 c12 c13 c14 a0 a1 a2 a3 a4 a5 a6 a7 a8 a9 a10 a11 a12 a13 : Int32) (l3 : List Int32) (a14 len ok : Int32),
    rc = some (len, dW [c0, c1, c2, c3, c4, c5, c6, c7, c8, c9, c10, c11, c12, c13, c14] l3 w) ∧ rm = some (ok, mW [a0, a1, a2, a3, a4, a5, a6, a7, a8, a9, a10, a11, a12, a13, a14, ok] m) ∧
    ((ok = 0 ∧ len = 0) ∨ (ok = 1 ∧ ∃ L : Nat, 0 < L ∧ L ≤ 15 ∧ p + L ≤ n ∧ len = nI L ∧ c14 = nI L ∧ a13 = nI L ∧ RD L c0 c1 c2 c3 c4 c5 c6 c7 c8 c9 c10 c11 c12 c13 a0 a1 a2 a3 a4 a5 a6 a7 a8 a9 a10 a11 a12))
theorem thr0 (n q : Nat) : thr n q 0 = 0 := by unfold thr; split <;> rfl
theorem thr_xz {n q : Nat} {d : Int32} (h : d = 0 ∨ d = 1) : xz (thr n q d) := by
  unfold thr
  rcases h with rfl | rfl <;> split <;> first | exact Or.inl rfl | exact Or.inr rfl
section DPS
variable {w m : xW} {B : Nat → Int32} {n p : Nat}
variable {c0 c1 c2 c3 c4 c5 c6 c7 c8 c9 c10 c11 c12 c13 c14 a0 a1 a2 a3 a4 a5 a6 a7 a8 a9 a10 a11 a12 a13 hE dg nb : Int32}
theorem mEnd {q' : Nat} {d : Int32} (hd : d = 0 ∨ d = 1) : sX12_take_j380 (nI p) (mW [a0, a1, a2, a3, a4, a5, a6, a7, a8, a9, a10, a11, a12, a13, nxn n q', thr n q' d] m) = some (thr n q' d, mW [a0, a1, a2, a3, a4, a5, a6, a7, a8, a9, a10, a11, a12, nxn n q' - nI p, nxn n q', thr n q' d] m) := by
  unfold sX12_take_j380
  simp (decide := true) only [mW_at, xwi_m, List.set, List.length, List.getD_cons_succ, List.getD_cons_zero, if_pos (thr_xz hd)]
theorem dp_end {q' : Nat} {f d : Int32} (hfd : (f = 0 ∧ d = 0) ∨ (f = 1 ∧ d = 1)) (hn : n ≤ 2048) (hpq : p < q') (hq15 : q' ≤ p + 15) (h9 : ¬ c1 = 9) (hRD : q' ≤ n → d = 1 → RD (q' - p) c0 c1 c2 c3 c4 c5 c6 c7 c8 c9 c10 c11 c12 c13 a0 a1 a2 a3 a4 a5 a6 a7 a8 a9 a10 a11 a12) :
    DP n p w m (sX1_decode_j165 (nI p) (dW [c0, c1, c2, c3, c4, c5, c6, c7, c8, c9, c10, c11, c12, c13, c14] [nxn n q', ctn n q', f, hE, dg, nb] w)) (sX12_take_j380 (nI p) (mW [a0, a1, a2, a3, a4, a5, a6, a7, a8, a9, a10, a11, a12, a13, nxn n q', thr n q' d] m)) := by
  have hd01 : d = 0 ∨ d = 1 := by rcases hfd with h | h <;> simp [h.2]
  rw [mEnd hd01]
  unfold sX1_decode_j165
  by_cases hc : n < q'
  · have e1 : ctn n q' = 1 := if_pos hc
    have e2 : thr n q' d = 0 := if_pos hc
    refine ⟨c0, c1, c2, c3, c4, c5, c6, c7, c8, c9, c10, c11, c12, c13, c14, a0, a1, a2, a3, a4, a5, a6, a7, a8, a9, a10, a11, a12, nxn n q' - nI p, [nxn n q', ctn n q', f, hE, dg, nb], nxn n q', 0, 0, ?_, ?_, Or.inl ⟨rfl, rfl⟩⟩
    · rw [e1]
      simp (decide := true) only [dW_3, List.getD_cons_succ, List.getD_cons_zero, if_false]
    · rw [e2]
  · have e1 : ctn n q' = 0 := if_neg hc
    have e2 : thr n q' d = d := if_neg hc
    have e3 : nxn n q' = nI q' := by unfold nxn; congr 1; omega
    rcases hfd with ⟨rfl, rfl⟩ | ⟨rfl, rfl⟩
    · refine ⟨c0, c1, c2, c3, c4, c5, c6, c7, c8, c9, c10, c11, c12, c13, c14, a0, a1, a2, a3, a4, a5, a6, a7, a8, a9, a10, a11, a12, nxn n q' - nI p, [nxn n q', ctn n q', 0, hE, dg, nb], nxn n q', 0, 0, ?_, ?_, Or.inl ⟨rfl, rfl⟩⟩
      · rw [e1]
        simp (decide := true) only [dW_3, List.getD_cons_succ, List.getD_cons_zero, if_true]
      · rw [e2]
    · have e4 : nI q' - nI p = nI (q' - p) := pk_sub (by omega)
      refine ⟨c0, c1, c2, c3, c4, c5, c6, c7, c8, c9, c10, c11, c12, c13, nI (q' - p), a0, a1, a2, a3, a4, a5, a6, a7, a8, a9, a10, a11, a12, nI (q' - p), [nxn n q', ctn n q', 1, hE, dg, nb], nI q', nI (q' - p), 1, ?_, ?_, Or.inr ⟨rfl, q' - p, by omega, by omega, by omega, rfl, rfl, rfl, hRD (by omega) rfl⟩⟩
      · rw [e1, e3]
        simp (decide := true) only [dW_3, dW_2, xwi_d2, List.set, List.length, Nat.reduceSub, List.getD_cons_succ, List.getD_cons_zero, if_true, if_false, h9, e4]
      · rw [e2, e3, e4]
theorem dp_endT {q' : Nat} {f d : Int32} (hfd : (f = 0 ∧ d = 0) ∨ (f = 1 ∧ d = 1)) (hn : n ≤ 2048) (hpq : p < q') (hq15 : q' ≤ p + 15) (h9 : c1 = 9) (hRD : q' ≤ n → d = 1 → RD (q' - p) c0 c1 c2 c3 c4 c5 c6 c7 c8 c9 c10 c11 c12 (c13 + (4096 + nxn n q')) a0 a1 a2 a3 a4 a5 a6 a7 a8 a9 a10 a11 a12) :
    DP n p w m (sX1_decode_j165 (nI p) (dW [c0, c1, c2, c3, c4, c5, c6, c7, c8, c9, c10, c11, c12, c13, c14] [nxn n q', ctn n q', f, hE, dg, nb] w)) (sX12_take_j380 (nI p) (mW [a0, a1, a2, a3, a4, a5, a6, a7, a8, a9, a10, a11, a12, a13, nxn n q', thr n q' d] m)) := by
  have hd01 : d = 0 ∨ d = 1 := by rcases hfd with h | h <;> simp [h.2]
  rw [mEnd hd01]
  unfold sX1_decode_j165
  by_cases hc : n < q'
  · have e1 : ctn n q' = 1 := if_pos hc
    have e2 : thr n q' d = 0 := if_pos hc
    refine ⟨c0, c1, c2, c3, c4, c5, c6, c7, c8, c9, c10, c11, c12, c13, c14, a0, a1, a2, a3, a4, a5, a6, a7, a8, a9, a10, a11, a12, nxn n q' - nI p, [nxn n q', ctn n q', f, hE, dg, nb], nxn n q', 0, 0, ?_, ?_, Or.inl ⟨rfl, rfl⟩⟩
    · rw [e1]
      simp (decide := true) only [dW_3, List.getD_cons_succ, List.getD_cons_zero, if_false]
    · rw [e2]
  · have e1 : ctn n q' = 0 := if_neg hc
    have e2 : thr n q' d = d := if_neg hc
    have e3 : nxn n q' = nI q' := by unfold nxn; congr 1; omega
    rcases hfd with ⟨rfl, rfl⟩ | ⟨rfl, rfl⟩
    · refine ⟨c0, c1, c2, c3, c4, c5, c6, c7, c8, c9, c10, c11, c12, c13, c14, a0, a1, a2, a3, a4, a5, a6, a7, a8, a9, a10, a11, a12, nxn n q' - nI p, [nxn n q', ctn n q', 0, hE, dg, nb], nxn n q', 0, 0, ?_, ?_, Or.inl ⟨rfl, rfl⟩⟩
      · rw [e1]
        simp (decide := true) only [dW_3, List.getD_cons_succ, List.getD_cons_zero, if_true]
      · rw [e2]
    · have e4 : nI q' - nI p = nI (q' - p) := pk_sub (by omega)
      refine ⟨c0, c1, c2, c3, c4, c5, c6, c7, c8, c9, c10, c11, c12, c13 + (4096 + nI q'), nI (q' - p), a0, a1, a2, a3, a4, a5, a6, a7, a8, a9, a10, a11, a12, nI (q' - p), [nxn n q', ctn n q', 1, hE, dg, nb], nI q', nI (q' - p), 1, ?_, ?_, Or.inr ⟨rfl, q' - p, by omega, by omega, by omega, rfl, rfl, rfl, by rw [← e3]; exact hRD (by omega) rfl⟩⟩
      · rw [e1, e3]
        simp (decide := true) only [dW_3, dW_2, xwi_d2, List.set, List.length, Nat.reduceSub, List.getD_cons_succ, List.getD_cons_zero, if_true, if_false, h9, e4]
      · rw [e2, e3, e4]
theorem digits_m {q : Nat} {d g : Int32} (hd : d = 0 ∨ d = 1) : sX12_digits g (mW [a0, a1, a2, a3, a4, a5, a6, a7, a8, a9, a10, a11, a12, a13, nxn n q, thr n q d] m) = some ((), mW [a0, a1, a2, a3, a4, a5, a6, a7, a8, a9, a10, a11, a12, a13, nxn n q, thr n q (if g = 0 then 0 else d)] m) := by
  unfold sX12_digits
  have h1 : (mW [a0, a1, a2, a3, a4, a5, a6, a7, a8, a9, a10, a11, a12, a13, nxn n q, thr n q d] m).1 0 32 = thr n q d := by rw [mW_at (by decide) (by decide)]; rfl
  have h2 : ∀ v : Int32, xwi (mW [a0, a1, a2, a3, a4, a5, a6, a7, a8, a9, a10, a11, a12, a13, nxn n q, thr n q d] m) 0 32 v = mW [a0, a1, a2, a3, a4, a5, a6, a7, a8, a9, a10, a11, a12, a13, nxn n q, v] m := fun v => by rw [xwi_m rfl (by decide) (by decide)]; rfl
  rw [h1, h2, h2]
  by_cases hc : n < q
  · have e : ∀ z, thr n q z = 0 := fun z => if_pos hc
    rw [e, e, if_pos rfl]
  · have e : ∀ z, thr n q z = z := fun z => if_neg hc
    rw [e, e]
    rcases hd with rfl | rfl
    · rw [if_pos rfl]; split <;> rfl
    · rw [if_neg (by decide)]
      split <;> rfl
end DPS
