/-! the shapes one by one -/
def in8b (x : Int32) : Bool := x == 0 || x == 1 || x == 2 || x == 3 || x == 4 || x == 5 || x == 6 || x == 7
theorem in8_of {x : Int32} (h : in8b x = true) : in8 x := by
  simp only [in8b, Bool.or_eq_true, beq_iff_eq] at h
  rcases h with ((((((h | h) | h) | h) | h) | h) | h) | h <;> subst h
  · exact ⟨0, by decide, rfl⟩
  · exact ⟨1, by decide, rfl⟩
  · exact ⟨2, by decide, rfl⟩
  · exact ⟨3, by decide, rfl⟩
  · exact ⟨4, by decide, rfl⟩
  · exact ⟨5, by decide, rfl⟩
  · exact ⟨6, by decide, rfl⟩
  · exact ⟨7, by decide, rfl⟩
theorem in8_0 : in8 0 := ⟨0, by decide, rfl⟩
abbrev condP (c0 c3 a2 : Int32) : Prop := (c0 = 46 ∨ c0 = 32 ∨ c0 = 33) → c3 = a2 ∧ in8b (c3 >>> 1) = true ∧ ¬ c3 < 0
theorem condP_c {c0 c3 a2 : Int32} (h : condP c0 c3 a2) : RDc c0 c3 a2 := fun hc => by
  obtain ⟨h1, h2, h3⟩ := h hc
  refine ⟨h1, c3.toNatClampNeg, ?_, (tn_nI h3).symm⟩
  obtain ⟨j, hj, ej⟩ := in8_of h2
  have e1 : (c3 >>> 1).toInt = c3.toInt >>> 1 := pk_shr c3 1 1 (by decide)
  rw [ej, nI_toInt (by omega)] at e1
  have e2 : c3.toNatClampNeg = c3.toInt.toNat := rfl
  rw [Int32.lt_iff_toInt_lt, Int32.toInt_zero] at h3
  rw [e2]
  have e3 : c3.toInt >>> 1 = c3.toInt / 2 := by rw [Int.shiftRight_eq_div_pow]; rfl
  omega
abbrev mask0 (c2 a0 a1 a3 : Int32) : Prop := ¬ c2 = 131 ∧ ¬ c2 = 129 ∧ ¬ (a1 = 4 ∧ a3 = 4 ∧ (a0 = 1 ∨ a0 = 4)) ∧ ¬ a0 = 17 ∧ ¬ a0 = 42 ∧ ¬ a0 = 43
theorem mask0_m {c2 a0 a1 a3 : Int32} (h : mask0 c2 a0 a1 a3) (L : Nat) (c6 : Int32) : RDm L c2 c6 a0 a1 a3 :=
  ⟨⟨fun q => (q.elim h.1 h.2.1).elim, fun q => (h.2.2.1 q).elim⟩, fun q => absurd q h.2.2.2.1, fun q => (q.elim h.2.2.2.2.1 h.2.2.2.2.2).elim⟩
theorem mask1_m {c2 c6 a0 a1 a3 : Int32} (h : ¬ c2 = 131 ∧ ¬ c2 = 129 ∧ ¬ (a1 = 4 ∧ a3 = 4 ∧ (a0 = 1 ∨ a0 = 4))) (hx : RDx c6 a0) (L : Nat) : RDm L c2 c6 a0 a1 a3 :=
  ⟨⟨fun q => (q.elim h.1 h.2.1).elim, fun q => (h.2.2 q).elim⟩, hx⟩
section SH
variable {w m : xW} {B : Nat → Int32} {n p q : Nat}
variable {c0 c1 c2 c3 c4 c5 c7 c8 c11 c12 c13 a0 a1 a2 a3 a4 a5 a6 a7 a8 a9 a10 a11 a12 a13 dg : Int32}
theorem RD_N (h1 : (c0, c1, a0, a1) ∈ opTab) (h2 : c4 = a3 ∧ c5 = a4 ∧ wid a3 ∧ wid a4 ∧ RDw a0 a1 a3 a4) (h3 : in8b c7 = true ∧ in8b c8 = true ∧ in8b a7 = true ∧ eform a1 = false ∧ (a1 = 14 → c7 = 0 ∧ c8 = a7) ∧ (a1 = 3 → c7 = 0) ∧ (a1 = 6 ∨ a1 = 13 → c7 = a7)) (h4 : condP c0 c3 a2) (h5 : mask0 c2 a0 a1 a3) (h6 : RDn c13 a1 a12) (L : Nat) :
    RD L c0 c1 c2 c3 c4 c5 0 c7 c8 (-1) (-1) c11 c12 c13 a0 a1 a2 a3 a4 3 a6 a7 (-1) (-1) a10 a11 a12 :=
  ⟨h1, h2, ⟨in8_of h3.1, in8_of h3.2.1, in8_of h3.2.2.1, Or.inr ⟨h3.2.2.2.1, rfl, rfl, rfl, rfl, rfl, rfl, h3.2.2.2.2⟩⟩, h6, condP_c h4, mask0_m h5 L 0⟩
variable {q' : Nat} {md rg rm bs ix sc tm dp mem : Int32}
theorem RD_E (hF : opF q q' md rg rm bs ix sc tm mem) (h1 : (c0, c1, a0, a1) ∈ opTab) (h2 : c4 = a3 ∧ c5 = a4 ∧ wid a3 ∧ wid a4 ∧ RDw a0 a1 a3 a4) (h3 : eform a1 = true) (h4 : condP c0 c3 a2) (L : Nat) (h5 : RDm L c2 mem a0 a1 a3) (h6 : RDn c13 a1 a12) :
    RD L c0 c1 c2 c3 c4 c5 mem rm rg bs ix sc dp c13 a0 a1 a2 a3 a4 md rg rm bs ix tm dp a12 := by
  obtain ⟨-, -, f3, f4, f5⟩ := hF
  refine ⟨h1, h2, ⟨f4, f3, f4, Or.inl ⟨h3, rfl, rfl, ?_⟩⟩, h6, condP_c h4, h5⟩
  rcases f5 with ⟨g1, g2, g3, g4, -⟩ | ⟨g1, g2, g3, g4, g5⟩
  · exact Or.inl ⟨g1, g2, g3, g4, g3, g4⟩
  · exact Or.inr ⟨g1, g2, rfl, rfl, rfl, g3, g4, g5⟩
theorem RDn_no {c13 a1 a12 : Int32} (h : nform a1 = false ∧ ¬ a1 = 10) : RDn c13 a1 a12 := ⟨fun q => (by rw [h.1] at q; cases q), fun q => (h.2 q).elim⟩
theorem RDn_eq {c13 a1 a12 : Int32} (h : ¬ a1 = 10) (e : c13 = a12) : RDn c13 a1 a12 := ⟨fun _ => e, fun q => (h q).elim⟩
/-- no E, no number -/
theorem shp0 (hn : n ≤ 2048) (hpq : p < q) (hq : q ≤ p + 2) (h9 : ¬ c1 = 9) (hRD : ∀ L, RD L c0 c1 c2 c3 c4 c5 0 c7 c8 (-1) (-1) 0 0 c13 a0 a1 a2 a3 a4 a5 a6 a7 a8 a9 a10 a11 a12) :
    DP n p w m (sX1_decode_j128 (nI p) (dW [c0, c1, c2, c3, c4, c5, 0, c7, c8, -1, -1, 0, 0, c13, 0] [nxn n q, ctn n q, 1, 0, dg, 0] w)) (sX12_take_j380 (nI p) (mW [a0, a1, a2, a3, a4, a5, a6, a7, a8, a9, a10, a11, a12, a13, nxn n q, thr n q 1] m)) := by
  unfold sX1_decode_j128
  simp (decide := true) only [dW_2, dW_3, mW_at, xwi_d2, xwi_d3, xwi_m, List.set, List.length, Nat.reduceSub, List.getD_cons_succ, List.getD_cons_zero, if_true]
  unfold sX1_decode_j143
  simp (decide := true) only [dW_2, dW_3, mW_at, xwi_d2, xwi_d3, xwi_m, List.set, List.length, Nat.reduceSub, List.getD_cons_succ, List.getD_cons_zero, if_false]
  exact dp_end (Or.inr ⟨rfl, rfl⟩) hn hpq (by omega) h9 (fun _ _ => hRD _)
/-- it fails without E -/
theorem shpF {b2 : Int32} (hn : n ≤ 2048) (hpq : p < q) (hq : q ≤ p + 2) (h9 : ¬ c1 = 9) :
    DP n p w m (sX1_decode_j128 (nI p) (dW [c0, c1, c2, c3, c4, c5, 0, c7, c8, -1, -1, 0, 0, c13, 0] [nxn n q, ctn n q, 0, 0, dg, 0] w)) (sX12_take_j380 (nI p) (mW [a0, a1, a2, a3, a4, a5, a6, a7, a8, a9, a10, a11, a12, a13, nxn n q, 0] m)) := by
  have e0 := thr0 n q
  rw [show (mW [a0, a1, a2, a3, a4, a5, a6, a7, a8, a9, a10, a11, a12, a13, nxn n q, 0] m) = mW [a0, a1, a2, a3, a4, a5, a6, a7, a8, a9, a10, a11, a12, a13, nxn n q, thr n q 0] m from by rw [e0]]
  unfold sX1_decode_j128
  simp (decide := true) only [dW_2, dW_3, mW_at, xwi_d2, xwi_d3, xwi_m, List.set, List.length, Nat.reduceSub, List.getD_cons_succ, List.getD_cons_zero, if_true]
  unfold sX1_decode_j143
  simp (decide := true) only [dW_2, dW_3, mW_at, xwi_d2, xwi_d3, xwi_m, List.set, List.length, Nat.reduceSub, List.getD_cons_succ, List.getD_cons_zero, if_false]
  exact dp_end (Or.inl ⟨rfl, rfl⟩) hn hpq (by omega) h9 (fun _ h => absurd h (by decide))
/-- it fails without E, the class reads a number -/
theorem shpFk1 (hw : imgC w B n) (hm : imgM m B n) (hpq : p < q) (hq : q ≤ p + 2) (h9 : ¬ c1 = 9) :
    DP n p w m (sX1_decode_j128 (nI p) (dW [c0, c1, c2, c3, c4, c5, 0, c7, c8, -1, -1, 0, 0, c13, 0] [nxn n q, ctn n q, 0, 0, dg, 1] w)) (sX12_take_j380 (nI p) (mW [a0, a1, a2, a3, a4, a5, a6, a7, a8, a9, a10, a11, a12, a13, nxn n q, 0] m)) := by
  have e0 := thr0 n q
  rw [show (mW [a0, a1, a2, a3, a4, a5, a6, a7, a8, a9, a10, a11, a12, a13, nxn n q, 0] m) = mW [a0, a1, a2, a3, a4, a5, a6, a7, a8, a9, a10, a11, a12, a13, nxn n q, thr n q 0] m from by rw [e0], mEnd (Or.inl rfl), e0]
  unfold sX1_decode_j128
  simp (decide := true) only [dW_2, dW_3, mW_at, xwi_d2, xwi_d3, xwi_m, List.set, List.length, Nat.reduceSub, List.getD_cons_succ, List.getD_cons_zero, if_true]
  unfold sX1_decode_j143
  simp (decide := true) only [dW_2, dW_3, mW_at, xwi_d2, xwi_d3, xwi_m, List.set, List.length, Nat.reduceSub, List.getD_cons_succ, List.getD_cons_zero, if_true, nextNumber1_d hw, xbd_some]
  unfold sX1_decode_j165
  refine ⟨c0, c1, c2, c3, c4, c5, 0, c7, c8, -1, -1, 0, 0, s8 B q, 0, a0, a1, a2, a3, a4, a5, a6, a7, a8, a9, a10, a11, a12, nxn n q - nI p, [nxn n (q + 1), ctn n (q + 1), 0, 0, dg, 1], nxn n q, 0, 0, ?_, rfl, Or.inl ⟨rfl, rfl⟩⟩
  simp (decide := true) only [dW_2, dW_3, mW_at, xwi_d2, xwi_d3, xwi_m, List.set, List.length, Nat.reduceSub, List.getD_cons_succ, List.getD_cons_zero, if_true]
  split <;> rfl
/-- it fails without E, the class reads a number -/
theorem shpFk4 (hw : imgC w B n) (hm : imgM m B n) (hpq : p < q) (hq : q ≤ p + 2) (h9 : ¬ c1 = 9) :
    DP n p w m (sX1_decode_j128 (nI p) (dW [c0, c1, c2, c3, c4, c5, 0, c7, c8, -1, -1, 0, 0, c13, 0] [nxn n q, ctn n q, 0, 0, dg, 4] w)) (sX12_take_j380 (nI p) (mW [a0, a1, a2, a3, a4, a5, a6, a7, a8, a9, a10, a11, a12, a13, nxn n q, 0] m)) := by
  have e0 := thr0 n q
  rw [show (mW [a0, a1, a2, a3, a4, a5, a6, a7, a8, a9, a10, a11, a12, a13, nxn n q, 0] m) = mW [a0, a1, a2, a3, a4, a5, a6, a7, a8, a9, a10, a11, a12, a13, nxn n q, thr n q 0] m from by rw [e0], mEnd (Or.inl rfl), e0]
  unfold sX1_decode_j128
  simp (decide := true) only [dW_2, dW_3, mW_at, xwi_d2, xwi_d3, xwi_m, List.set, List.length, Nat.reduceSub, List.getD_cons_succ, List.getD_cons_zero, if_true]
  unfold sX1_decode_j143
  simp (decide := true) only [dW_2, dW_3, mW_at, xwi_d2, xwi_d3, xwi_m, List.set, List.length, Nat.reduceSub, List.getD_cons_succ, List.getD_cons_zero, if_true, nextNumber4_d hw, xbd_some]
  unfold sX1_decode_j165
  refine ⟨c0, c1, c2, c3, c4, c5, 0, c7, c8, -1, -1, 0, 0, le4 B q, 0, a0, a1, a2, a3, a4, a5, a6, a7, a8, a9, a10, a11, a12, nxn n q - nI p, [nxn n (q + 4), ctn n (q + 4), 0, 0, dg, 4], nxn n q, 0, 0, ?_, rfl, Or.inl ⟨rfl, rfl⟩⟩
  simp (decide := true) only [dW_2, dW_3, mW_at, xwi_d2, xwi_d3, xwi_m, List.set, List.length, Nat.reduceSub, List.getD_cons_succ, List.getD_cons_zero, if_true]
  split <;> rfl
/-- it fails without E in the class, the reference reads E -/
theorem shpFE (hw : imgC w B n) (hm : imgM m B n) (hpq : p < q) (hq : q ≤ p + 2) (h9 : ¬ c1 = 9) :
    DP n p w m (sX1_decode_j128 (nI p) (dW [c0, c1, c2, c3, c4, c5, 0, c7, c8, -1, -1, 0, 0, c13, 0] [nxn n q, ctn n q, 0, 0, dg, 0] w)) (xbd (sX12_operand (mW [a0, a1, a2, a3, a4, a5, a6, a7, a8, a9, a10, a11, a12, a13, nxn n q, thr n q 0] m)) (fun _ w2 => sX12_take_j380 (nI p) w2)) := by
  obtain ⟨q', md, rg, rm, bs, ix, sc, tm, dp, mem, hF, -, hO⟩ := operand_pair hw hm q
  rw [hO, xbd_some, mEnd (Or.inl rfl)]
  unfold sX1_decode_j128
  simp (decide := true) only [dW_2, dW_3, mW_at, xwi_d2, xwi_d3, xwi_m, List.set, List.length, Nat.reduceSub, List.getD_cons_succ, List.getD_cons_zero, if_true]
  unfold sX1_decode_j143
  simp (decide := true) only [dW_2, dW_3, mW_at, xwi_d2, xwi_d3, xwi_m, List.set, List.length, Nat.reduceSub, List.getD_cons_succ, List.getD_cons_zero, if_false]
  unfold sX1_decode_j165
  have e0 : ∀ z, thr n z 0 = 0 := fun z => thr0 n z
  rw [e0]
  refine ⟨c0, c1, c2, c3, c4, c5, 0, c7, c8, -1, -1, 0, 0, c13, 0, a0, a1, a2, a3, a4, md, rg, rm, bs, ix, tm, dp, a12, nxn n q' - nI p, [nxn n q, ctn n q, 0, 0, dg, 0], nxn n q', 0, 0, ?_, rfl, Or.inl ⟨rfl, rfl⟩⟩
  simp (decide := true) only [dW_2, dW_3, mW_at, xwi_d2, xwi_d3, xwi_m, List.set, List.length, Nat.reduceSub, List.getD_cons_succ, List.getD_cons_zero, if_true]
  split <;> rfl
/-- no E, a number of one byte; of four -/
theorem shp0k1 (hw : imgC w B n) (hm : imgM m B n) (hpq : p < q) (hq : q ≤ p + 2) (h9 : ¬ c1 = 9) (hRD : ∀ L v, RD L c0 c1 c2 c3 c4 c5 0 c7 c8 (-1) (-1) 0 0 v a0 a1 a2 a3 a4 a5 a6 a7 a8 a9 a10 a11 v) :
    DP n p w m (sX1_decode_j128 (nI p) (dW [c0, c1, c2, c3, c4, c5, 0, c7, c8, -1, -1, 0, 0, c13, 0] [nxn n q, ctn n q, 1, 0, dg, 1] w)) (xbd (sX12_number 1 (mW [a0, a1, a2, a3, a4, a5, a6, a7, a8, a9, a10, a11, a12, a13, nxn n q, thr n q 1] m)) (fun _ w2 => sX12_take_j380 (nI p) w2)) := by
  unfold sX1_decode_j128
  simp (decide := true) only [dW_2, dW_3, mW_at, xwi_d2, xwi_d3, xwi_m, List.set, List.length, Nat.reduceSub, List.getD_cons_succ, List.getD_cons_zero, if_true]
  unfold sX1_decode_j143
  simp (decide := true) only [dW_2, dW_3, mW_at, xwi_d2, xwi_d3, xwi_m, List.set, List.length, Nat.reduceSub, List.getD_cons_succ, List.getD_cons_zero, if_true, nextNumber1_d hw, xbd_some, number1_m hm]
  exact dp_end (Or.inr ⟨rfl, rfl⟩) hw.2.1 (by omega) (by omega) h9 (fun _ _ => hRD _ _)
theorem shp0k4 (hw : imgC w B n) (hm : imgM m B n) (hpq : p < q) (hq : q ≤ p + 2) (h9 : ¬ c1 = 9) (hRD : ∀ L v, RD L c0 c1 c2 c3 c4 c5 0 c7 c8 (-1) (-1) 0 0 v a0 a1 a2 a3 a4 a5 a6 a7 a8 a9 a10 a11 v) :
    DP n p w m (sX1_decode_j128 (nI p) (dW [c0, c1, c2, c3, c4, c5, 0, c7, c8, -1, -1, 0, 0, c13, 0] [nxn n q, ctn n q, 1, 0, dg, 4] w)) (xbd (sX12_number 4 (mW [a0, a1, a2, a3, a4, a5, a6, a7, a8, a9, a10, a11, a12, a13, nxn n q, thr n q 1] m)) (fun _ w2 => sX12_take_j380 (nI p) w2)) := by
  unfold sX1_decode_j128
  simp (decide := true) only [dW_2, dW_3, mW_at, xwi_d2, xwi_d3, xwi_m, List.set, List.length, Nat.reduceSub, List.getD_cons_succ, List.getD_cons_zero, if_true]
  unfold sX1_decode_j143
  simp (decide := true) only [dW_2, dW_3, mW_at, xwi_d2, xwi_d3, xwi_m, List.set, List.length, Nat.reduceSub, List.getD_cons_succ, List.getD_cons_zero, if_true, nextNumber4_d hw, xbd_some, number4_m hm]
  exact dp_end (Or.inr ⟨rfl, rfl⟩) hw.2.1 (by omega) (by omega) h9 (fun _ _ => hRD _ _)
/-- a place to go to -/
theorem shp0t1 (hw : imgC w B n) (hm : imgM m B n) (hpq : p < q) (hq : q ≤ p + 2) (h9 : c1 = 9) (hRD : ∀ L v, RD L c0 c1 c2 c3 c4 c5 0 c7 c8 (-1) (-1) 0 0 v a0 a1 a2 a3 a4 a5 a6 a7 a8 a9 a10 a11 v) :
    DP n p w m (sX1_decode_j128 (nI p) (dW [c0, c1, c2, c3, c4, c5, 0, c7, c8, -1, -1, 0, 0, c13, 0] [nxn n q, ctn n q, 1, 0, dg, 1] w)) (xbd (sX12_place 1 (mW [a0, a1, a2, a3, a4, a5, a6, a7, a8, a9, a10, a11, a12, a13, nxn n q, thr n q 1] m)) (fun _ w2 => sX12_take_j380 (nI p) w2)) := by
  unfold sX1_decode_j128
  simp (decide := true) only [dW_2, dW_3, mW_at, xwi_d2, xwi_d3, xwi_m, List.set, List.length, Nat.reduceSub, List.getD_cons_succ, List.getD_cons_zero, if_true]
  unfold sX1_decode_j143 sX12_place
  simp (decide := true) only [dW_2, dW_3, mW_at, xwi_d2, xwi_d3, xwi_m, List.set, List.length, Nat.reduceSub, List.getD_cons_succ, List.getD_cons_zero, if_true, nextNumber1_d hw, xbd_some, number1_m hm]
  exact dp_endT (Or.inr ⟨rfl, rfl⟩) hw.2.1 (by omega) (by omega) h9 (fun _ _ => hRD _ _)
theorem shp0t4 (hw : imgC w B n) (hm : imgM m B n) (hpq : p < q) (hq : q ≤ p + 2) (h9 : c1 = 9) (hRD : ∀ L v, RD L c0 c1 c2 c3 c4 c5 0 c7 c8 (-1) (-1) 0 0 v a0 a1 a2 a3 a4 a5 a6 a7 a8 a9 a10 a11 v) :
    DP n p w m (sX1_decode_j128 (nI p) (dW [c0, c1, c2, c3, c4, c5, 0, c7, c8, -1, -1, 0, 0, c13, 0] [nxn n q, ctn n q, 1, 0, dg, 4] w)) (xbd (sX12_place 4 (mW [a0, a1, a2, a3, a4, a5, a6, a7, a8, a9, a10, a11, a12, a13, nxn n q, thr n q 1] m)) (fun _ w2 => sX12_take_j380 (nI p) w2)) := by
  unfold sX1_decode_j128
  simp (decide := true) only [dW_2, dW_3, mW_at, xwi_d2, xwi_d3, xwi_m, List.set, List.length, Nat.reduceSub, List.getD_cons_succ, List.getD_cons_zero, if_true]
  unfold sX1_decode_j143 sX12_place
  simp (decide := true) only [dW_2, dW_3, mW_at, xwi_d2, xwi_d3, xwi_m, List.set, List.length, Nat.reduceSub, List.getD_cons_succ, List.getD_cons_zero, if_true, nextNumber4_d hw, xbd_some, number4_m hm]
  exact dp_endT (Or.inr ⟨rfl, rfl⟩) hw.2.1 (by omega) (by omega) h9 (fun _ _ => hRD _ _)
/-- digits: what is done with E's digit -/
theorem dig0 {l2 : List Int32} {nx ct f h nb : Int32} : sX1_chooseByDigit (dW l2 [nx, ct, f, h, 0, nb] w) = some ((), dW l2 [nx, ct, f, h, 0, nb] w) := by
  unfold sX1_chooseByDigit
  rw [dW_3 (by decide) (by decide)]
  rfl
/-- E alone; E and a number -/
theorem shp1 (hw : imgC w B n) (hm : imgM m B n) (hpq : p < q) (hq : q ≤ p + 2) (h9 : ¬ c1 = 9) (hRD : ∀ (L q' : Nat) (md rg rm bs ix sc tm dp mem : Int32), opF q q' md rg rm bs ix sc tm mem → RD L c0 c1 c2 c3 c4 c5 mem rm rg bs ix sc dp c13 a0 a1 a2 a3 a4 md rg rm bs ix tm dp a12) :
    DP n p w m (sX1_decode_j128 (nI p) (dW [c0, c1, c2, c3, c4, c5, 0, c7, c8, -1, -1, 0, 0, c13, 0] [nxn n q, ctn n q, 1, 1, 0, 0] w)) (xbd (sX12_operand (mW [a0, a1, a2, a3, a4, a5, a6, a7, a8, a9, a10, a11, a12, a13, nxn n q, thr n q 1] m)) (fun _ w2 => sX12_take_j380 (nI p) w2)) := by
  obtain ⟨q', md, rg, rm, bs, ix, sc, tm, dp, mem, hF, hC, hO⟩ := operand_pair hw hm q
  rw [hO, xbd_some]
  unfold sX1_decode_j128
  simp (decide := true) only [dW_2, dW_3, mW_at, xwi_d2, xwi_d3, xwi_m, List.set, List.length, Nat.reduceSub, List.getD_cons_succ, List.getD_cons_zero, if_false, hC, xbd_some, dig0]
  unfold sX1_decode_j143
  simp (decide := true) only [dW_2, dW_3, mW_at, xwi_d2, xwi_d3, xwi_m, List.set, List.length, Nat.reduceSub, List.getD_cons_succ, List.getD_cons_zero, if_false]
  exact dp_end (Or.inr ⟨rfl, rfl⟩) hw.2.1 (by have := hF.1; omega) (by have := hF.2.1; omega) h9 (fun _ _ => hRD _ _ _ _ _ _ _ _ _ _ _ hF)
theorem shp1k1 (hw : imgC w B n) (hm : imgM m B n) (hpq : p < q) (hq : q ≤ p + 2) (h9 : ¬ c1 = 9) (hRD : ∀ (L q' : Nat) (md rg rm bs ix sc tm dp mem v : Int32), opF q q' md rg rm bs ix sc tm mem → RD L c0 c1 c2 c3 c4 c5 mem rm rg bs ix sc dp v a0 a1 a2 a3 a4 md rg rm bs ix tm dp v) :
    DP n p w m (sX1_decode_j128 (nI p) (dW [c0, c1, c2, c3, c4, c5, 0, c7, c8, -1, -1, 0, 0, c13, 0] [nxn n q, ctn n q, 1, 1, 0, 1] w)) (xbd (sX12_operand (mW [a0, a1, a2, a3, a4, a5, a6, a7, a8, a9, a10, a11, a12, a13, nxn n q, thr n q 1] m)) (fun _ w1 => xbd (sX12_number 1 w1) (fun _ w2 => sX12_take_j380 (nI p) w2))) := by
  obtain ⟨q', md, rg, rm, bs, ix, sc, tm, dp, mem, hF, hC, hO⟩ := operand_pair hw hm q
  rw [hO, xbd_some]
  unfold sX1_decode_j128
  simp (decide := true) only [dW_2, dW_3, mW_at, xwi_d2, xwi_d3, xwi_m, List.set, List.length, Nat.reduceSub, List.getD_cons_succ, List.getD_cons_zero, if_false, hC, xbd_some, dig0]
  unfold sX1_decode_j143
  simp (decide := true) only [dW_2, dW_3, mW_at, xwi_d2, xwi_d3, xwi_m, List.set, List.length, Nat.reduceSub, List.getD_cons_succ, List.getD_cons_zero, if_true, nextNumber1_d hw, xbd_some, number1_m hm]
  exact dp_end (Or.inr ⟨rfl, rfl⟩) hw.2.1 (by have := hF.1; omega) (by have := hF.2.1; omega) h9 (fun _ _ => hRD _ _ _ _ _ _ _ _ _ _ _ _ hF)
theorem shp1k4 (hw : imgC w B n) (hm : imgM m B n) (hpq : p < q) (hq : q ≤ p + 2) (h9 : ¬ c1 = 9) (hRD : ∀ (L q' : Nat) (md rg rm bs ix sc tm dp mem v : Int32), opF q q' md rg rm bs ix sc tm mem → RD L c0 c1 c2 c3 c4 c5 mem rm rg bs ix sc dp v a0 a1 a2 a3 a4 md rg rm bs ix tm dp v) :
    DP n p w m (sX1_decode_j128 (nI p) (dW [c0, c1, c2, c3, c4, c5, 0, c7, c8, -1, -1, 0, 0, c13, 0] [nxn n q, ctn n q, 1, 1, 0, 4] w)) (xbd (sX12_operand (mW [a0, a1, a2, a3, a4, a5, a6, a7, a8, a9, a10, a11, a12, a13, nxn n q, thr n q 1] m)) (fun _ w1 => xbd (sX12_number 4 w1) (fun _ w2 => sX12_take_j380 (nI p) w2))) := by
  obtain ⟨q', md, rg, rm, bs, ix, sc, tm, dp, mem, hF, hC, hO⟩ := operand_pair hw hm q
  rw [hO, xbd_some]
  unfold sX1_decode_j128
  simp (decide := true) only [dW_2, dW_3, mW_at, xwi_d2, xwi_d3, xwi_m, List.set, List.length, Nat.reduceSub, List.getD_cons_succ, List.getD_cons_zero, if_false, hC, xbd_some, dig0]
  unfold sX1_decode_j143
  simp (decide := true) only [dW_2, dW_3, mW_at, xwi_d2, xwi_d3, xwi_m, List.set, List.length, Nat.reduceSub, List.getD_cons_succ, List.getD_cons_zero, if_true, nextNumber4_d hw, xbd_some, number4_m hm]
  exact dp_end (Or.inr ⟨rfl, rfl⟩) hw.2.1 (by have := hF.1; omega) (by have := hF.2.1; omega) h9 (fun _ _ => hRD _ _ _ _ _ _ _ _ _ _ _ _ hF)
end SH
