/-! E of an instruction: the class and the reference read the same -/
theorem byteP : ∀ j, j < 256 → (nI j >>> ((6 : Int32) &&& 31)) = nI (j / 64) ∧ ((nI j >>> ((3 : Int32) &&& 31)) &&& 7) = nI (j / 8 % 8) ∧ (nI j &&& 7) = nI (j % 8) := by decide +kernel
theorem shl1P : ∀ j, j < 4 → (1 : Int32) <<< (nI j &&& 31) = nI (2 ^ j) := by decide +kernel
def in8 (x : Int32) : Prop := ∃ j : Nat, j < 8 ∧ x = nI j
/-- what E's parts are: mode, reg, rm, base, index, scale, times, displacement, whether it is memory; it ends at q' -/
def opF (q q' : Nat) (md rg rm bs ix sc tm mem : Int32) : Prop :=
  q < q' ∧ q' ≤ q + 6 ∧ in8 rg ∧ in8 rm ∧
  ((md = 3 ∧ mem = 0 ∧ bs = -1 ∧ ix = -1 ∧ q' = q + 1) ∨
   ((md = 0 ∨ md = 1 ∨ md = 2) ∧ mem = 1 ∧ (bs = -1 ∨ in8 bs) ∧ (ix = -1 ∨ (in8 ix ∧ ix ≠ 4)) ∧ ∃ s : Nat, s < 4 ∧ sc = nI s ∧ tm = nI (2 ^ s)))
theorem nI_ne {a b : Nat} (ha : a < 2 ^ 31) (hb : b < 2 ^ 31) (h : a ≠ b) : ¬ nI a = nI b := fun e => h ((nI_eq ha hb).mp e)
set_option maxHeartbeats 4000000 in
theorem operand_pair {w m : xW} {B : Nat → Int32} {n : Nat} (hw : imgC w B n) (hm : imgM m B n) (q : Nat) : ∃ (q' : Nat) (md rg rm bs ix sc tm dp mem : Int32), opF q q' md rg rm bs ix sc tm mem ∧
    (∀ c0 c1 c2 c3 c4 c5 c7 c8 c13 c14 f hE dg nb : Int32, sX1_readE (dW [c0, c1, c2, c3, c4, c5, 0, c7, c8, -1, -1, 0, 0, c13, c14] [nxn n q, ctn n q, f, hE, dg, nb] w) = some ((), dW [c0, c1, c2, c3, c4, c5, mem, rm, rg, bs, ix, sc, dp, c13, c14] [nxn n q', ctn n q', f, hE, dg, nb] w)) ∧
    (∀ a0 a1 a2 a3 a4 a5 a6 a7 a8 a9 a10 a11 a12 a13 d : Int32, sX12_operand (mW [a0, a1, a2, a3, a4, a5, a6, a7, a8, a9, a10, a11, a12, a13, nxn n q, thr n q d] m) = some ((), mW [a0, a1, a2, a3, a4, md, rg, rm, bs, ix, tm, dp, a12, a13, nxn n q', thr n q' d] m)) := by
  obtain ⟨j, hj, ej⟩ := hw.byte q
  obtain ⟨p1, p2, p3⟩ := byteP j hj
  rw [← ej] at p1 p2 p3
  obtain ⟨s, hs, es⟩ := hw.byte (q + 1)
  obtain ⟨t1, t2, t3⟩ := byteP s hs
  rw [← es] at t1 t2 t3
  have hg8 : in8 (nI (j / 8 % 8)) := ⟨_, by omega, rfl⟩
  have hr8 : in8 (nI (j % 8)) := ⟨_, by omega, rfl⟩
  have md4 : j / 64 = 0 ∨ j / 64 = 1 ∨ j / 64 = 2 ∨ j / 64 = 3 := by omega
  -- the tail of both, once base, index, scale stand
  have tail : ∀ (q1 : Nat) (md0 : Nat) (bs0 ix sc tm : Int32), (md0 = 0 ∨ md0 = 1 ∨ md0 = 2) → in8 bs0 → (ix = -1 ∨ (in8 ix ∧ ix ≠ 4)) → (∃ s : Nat, s < 4 ∧ sc = nI s ∧ tm = nI (2 ^ s)) → q < q1 → q1 ≤ q + 2 →
      ∃ (q' : Nat) (bs dp : Int32), opF q q' (nI md0) (nI (j / 8 % 8)) (nI (j % 8)) bs ix sc tm 1 ∧
        (∀ c0 c1 c2 c3 c4 c5 c13 c14 f hE dg nb : Int32, sX1_readE_j127 (nI md0) (dW [c0, c1, c2, c3, c4, c5, 1, nI (j % 8), nI (j / 8 % 8), bs0, ix, sc, 0, c13, c14] [nxn n q1, ctn n q1, f, hE, dg, nb] w) = some ((), dW [c0, c1, c2, c3, c4, c5, 1, nI (j % 8), nI (j / 8 % 8), bs, ix, sc, dp, c13, c14] [nxn n q', ctn n q', f, hE, dg, nb] w)) ∧
        (∀ a0 a1 a2 a3 a4 a12 a13 d : Int32, sX12_operand_j123 (mW [a0, a1, a2, a3, a4, nI md0, nI (j / 8 % 8), nI (j % 8), bs0, ix, tm, 0, a12, a13, nxn n q1, thr n q1 d] m) = some ((), mW [a0, a1, a2, a3, a4, nI md0, nI (j / 8 % 8), nI (j % 8), bs, ix, tm, dp, a12, a13, nxn n q', thr n q' d] m)) := by
    intro q1 md0 bs0 ix sc tm hmd hbs hix hsc hq1 hq2
    rcases hmd with rfl | rfl | rfl
    · by_cases h5 : bs0 = 5
      · subst h5
        refine ⟨q1 + 4, -1, le4 B q1, ⟨by omega, by omega, hg8, hr8, Or.inr ⟨Or.inl rfl, rfl, Or.inl rfl, hix, hsc⟩⟩, ?_, ?_⟩
        · intro c0 c1 c2 c3 c4 c5 c13 c14 f hE dg nb
          unfold sX1_readE_j127
          rw [if_pos (by decide)]
          simp (decide := true) only [dW_2, dW_3, mW_at, xwi_d2, xwi_d3, xwi_m, List.set, List.length, List.getD_cons_succ, List.getD_cons_zero, if_true, nextNumber4_d hw, xbd_some]
        · intro a0 a1 a2 a3 a4 a12 a13 d
          unfold sX12_operand_j123
          simp (decide := true) only [dW_2, dW_3, mW_at, xwi_d2, xwi_d3, xwi_m, List.set, List.length, List.getD_cons_succ, List.getD_cons_zero, if_true, nextLong_m hm, xbd_some]
      · refine ⟨q1, bs0, 0, ⟨by omega, by omega, hg8, hr8, Or.inr ⟨Or.inl rfl, rfl, Or.inr hbs, hix, hsc⟩⟩, ?_, ?_⟩
        · intro c0 c1 c2 c3 c4 c5 c13 c14 f hE dg nb
          unfold sX1_readE_j127
          rw [if_pos (by decide)]
          simp (decide := true) only [dW_2, dW_3, mW_at, xwi_d2, xwi_d3, xwi_m, List.set, List.length, List.getD_cons_succ, List.getD_cons_zero, h5, if_false]
          unfold sX1_readE_j165
          rw [if_pos (by decide)]
        · intro a0 a1 a2 a3 a4 a12 a13 d
          unfold sX12_operand_j123
          simp (decide := true) only [dW_2, dW_3, mW_at, xwi_d2, xwi_d3, xwi_m, List.set, List.length, List.getD_cons_succ, List.getD_cons_zero, h5, if_true, if_false]
          unfold sX12_operand_j154
          simp (decide := true) only [dW_2, dW_3, mW_at, xwi_d2, xwi_d3, xwi_m, List.set, List.length, List.getD_cons_succ, List.getD_cons_zero, if_false]
    · refine ⟨q1 + 1, bs0, s8 B q1, ⟨by omega, by omega, hg8, hr8, Or.inr ⟨Or.inr (Or.inl rfl), rfl, Or.inr hbs, hix, hsc⟩⟩, ?_, ?_⟩
      · intro c0 c1 c2 c3 c4 c5 c13 c14 f hE dg nb
        unfold sX1_readE_j127
        rw [if_neg (by decide)]
        unfold sX1_readE_j165
        rw [if_neg (by decide), if_pos (by decide), nextNumber1_d hw, xbd_some, xwi_d2 rfl (by decide)]; rfl
      · intro a0 a1 a2 a3 a4 a12 a13 d
        unfold sX12_operand_j123
        simp (decide := true) only [dW_2, dW_3, mW_at, xwi_d2, xwi_d3, xwi_m, List.set, List.length, List.getD_cons_succ, List.getD_cons_zero, if_false]
        unfold sX12_operand_j154
        simp (decide := true) only [dW_2, dW_3, mW_at, xwi_d2, xwi_d3, xwi_m, List.set, List.length, List.getD_cons_succ, List.getD_cons_zero, if_true, signedByte_m hm, xbd_some]
    · refine ⟨q1 + 4, bs0, le4 B q1, ⟨by omega, by omega, hg8, hr8, Or.inr ⟨Or.inr (Or.inr rfl), rfl, Or.inr hbs, hix, hsc⟩⟩, ?_, ?_⟩
      · intro c0 c1 c2 c3 c4 c5 c13 c14 f hE dg nb
        unfold sX1_readE_j127
        rw [if_neg (by decide)]
        unfold sX1_readE_j165
        rw [if_neg (by decide), if_neg (by decide), nextNumber4_d hw, xbd_some, xwi_d2 rfl (by decide)]; rfl
      · intro a0 a1 a2 a3 a4 a12 a13 d
        unfold sX12_operand_j123
        simp (decide := true) only [dW_2, dW_3, mW_at, xwi_d2, xwi_d3, xwi_m, List.set, List.length, List.getD_cons_succ, List.getD_cons_zero, if_false]
        unfold sX12_operand_j154
        simp (decide := true) only [dW_2, dW_3, mW_at, xwi_d2, xwi_d3, xwi_m, List.set, List.length, List.getD_cons_succ, List.getD_cons_zero, if_true, if_false, nextLong_m hm, xbd_some]
  by_cases h3 : j / 64 = 3
  · have e3 : (B q >>> ((6 : Int32) &&& 31)) = 3 := by rw [p1, h3]; rfl
    refine ⟨q + 1, 3, nI (j / 8 % 8), nI (j % 8), -1, -1, 0, 1, 0, 0, ⟨by omega, by omega, hg8, hr8, Or.inl ⟨rfl, rfl, rfl, rfl, rfl⟩⟩, ?_, ?_⟩
    · intro c0 c1 c2 c3 c4 c5 c7 c8 c13 c14 f hE dg nb
      unfold sX1_readE
      rw [nextByte_d hw, xbd_some, if_pos e3, p2, p3, xwi_d2 rfl (by decide), xwi_d2 rfl (by decide)]; rfl
    · intro a0 a1 a2 a3 a4 a5 a6 a7 a8 a9 a10 a11 a12 a13 d
      unfold sX12_operand
      rw [next_m hm, xbd_some, if_pos e3, e3, p2, p3]
      simp (decide := true) only [xwi_m, List.set, List.length]
  · have n3 : ¬ (B q >>> ((6 : Int32) &&& 31)) = 3 := by rw [p1]; exact nI_ne (by omega) (by decide) h3
    have hmd : j / 64 = 0 ∨ j / 64 = 1 ∨ j / 64 = 2 := by omega
    by_cases h4 : j % 8 = 4
    · have e4 : (B q &&& 7) = 4 := by rw [p3, h4]; rfl
      have hsc : ∃ z : Nat, z < 4 ∧ nI (s / 64) = nI z ∧ nI (2 ^ (s / 64)) = nI (2 ^ z) := ⟨s / 64, by omega, rfl, rfl⟩
      have hbs : in8 (nI (s % 8)) := ⟨_, by omega, rfl⟩
      have etm : (1 : Int32) <<< (nI (s / 64) &&& 31) = nI (2 ^ (s / 64)) := shl1P _ (by omega)
      by_cases hi : s / 8 % 8 = 4
      · have ei : ((B (q + 1) >>> ((3 : Int32) &&& 31)) &&& 7) = 4 := by rw [t2, hi]; rfl
        obtain ⟨q', bs, dp, hF, hC, hM⟩ := tail (q + 2) (j / 64) (nI (s % 8)) (-1) (nI (s / 64)) (nI (2 ^ (s / 64))) hmd hbs (Or.inl rfl) hsc (by omega) (by omega)
        refine ⟨q', _, _, _, bs, _, _, _, dp, _, hF, ?_, ?_⟩
        · intro c0 c1 c2 c3 c4 c5 c7 c8 c13 c14 f hE dg nb
          unfold sX1_readE
          rw [nextByte_d hw, xbd_some, if_neg n3, if_pos e4, p1, p2, p3, xwi_d2 rfl (by decide), xwi_d2 rfl (by decide), xwi_d2 rfl (by decide), xwi_d2 rfl (by decide)]
          rw [nextByte_d hw, xbd_some]
          dsimp only [xlet]
          rw [if_pos ei]
          unfold sX1_readE_j102
          rw [t1, t3, xwi_d2 rfl (by decide), xwi_d2 rfl (by decide), xwi_d2 rfl (by decide)]
          exact hC c0 c1 c2 c3 c4 c5 c13 c14 f hE dg nb
        · intro a0 a1 a2 a3 a4 a5 a6 a7 a8 a9 a10 a11 a12 a13 d
          unfold sX12_operand
          rw [next_m hm, xbd_some, if_neg n3, if_pos e4, p1, p2, p3]
          simp (decide := true) only [xwi_m, List.set, List.length]
          rw [next_m hm, xbd_some, if_pos ei]
          unfold sX12_operand_j102
          rw [t1, t3, etm]
          simp (decide := true) only [xwi_m, List.set, List.length]
          exact hM a0 a1 a2 a3 a4 a12 a13 d
      · have ei : ¬ ((B (q + 1) >>> ((3 : Int32) &&& 31)) &&& 7) = 4 := by rw [t2]; exact nI_ne (by omega) (by decide) hi
        obtain ⟨q', bs, dp, hF, hC, hM⟩ := tail (q + 2) (j / 64) (nI (s % 8)) (nI (s / 8 % 8)) (nI (s / 64)) (nI (2 ^ (s / 64))) hmd hbs (Or.inr ⟨⟨_, by omega, rfl⟩, nI_ne (by omega) (by decide) hi⟩) hsc (by omega) (by omega)
        refine ⟨q', _, _, _, bs, _, _, _, dp, _, hF, ?_, ?_⟩
        · intro c0 c1 c2 c3 c4 c5 c7 c8 c13 c14 f hE dg nb
          unfold sX1_readE
          rw [nextByte_d hw, xbd_some, if_neg n3, if_pos e4, p1, p2, p3, xwi_d2 rfl (by decide), xwi_d2 rfl (by decide), xwi_d2 rfl (by decide), xwi_d2 rfl (by decide)]
          rw [nextByte_d hw, xbd_some]
          dsimp only [xlet]
          rw [if_neg ei]
          unfold sX1_readE_j102
          rw [t1, t2, t3, xwi_d2 rfl (by decide), xwi_d2 rfl (by decide), xwi_d2 rfl (by decide)]
          exact hC c0 c1 c2 c3 c4 c5 c13 c14 f hE dg nb
        · intro a0 a1 a2 a3 a4 a5 a6 a7 a8 a9 a10 a11 a12 a13 d
          unfold sX12_operand
          rw [next_m hm, xbd_some, if_neg n3, if_pos e4, p1, p2, p3]
          simp (decide := true) only [xwi_m, List.set, List.length]
          rw [next_m hm, xbd_some, if_neg ei]
          unfold sX12_operand_j102
          rw [t1, t2, t3, etm]
          simp (decide := true) only [xwi_m, List.set, List.length]
          exact hM a0 a1 a2 a3 a4 a12 a13 d
    · have e4 : ¬ (B q &&& 7) = 4 := by rw [p3]; exact nI_ne (by omega) (by decide) h4
      obtain ⟨q', bs, dp, hF, hC, hM⟩ := tail (q + 1) (j / 64) (nI (j % 8)) (-1) 0 1 hmd hr8 (Or.inl rfl) ⟨0, by decide, rfl, rfl⟩ (by omega) (by omega)
      refine ⟨q', _, _, _, bs, _, _, _, dp, _, hF, ?_, ?_⟩
      · intro c0 c1 c2 c3 c4 c5 c7 c8 c13 c14 f hE dg nb
        unfold sX1_readE
        rw [nextByte_d hw, xbd_some, if_neg n3, if_neg e4, p1, p2, p3, xwi_d2 rfl (by decide), xwi_d2 rfl (by decide), xwi_d2 rfl (by decide), xwi_d2 rfl (by decide)]
        exact hC c0 c1 c2 c3 c4 c5 c13 c14 f hE dg nb
      · intro a0 a1 a2 a3 a4 a5 a6 a7 a8 a9 a10 a11 a12 a13 d
        unfold sX12_operand
        rw [next_m hm, xbd_some, if_neg n3, if_neg e4, p1, p2, p3]
        simp (decide := true) only [xwi_m, List.set, List.length]
        exact hM a0 a1 a2 a3 a4 a12 a13 d
