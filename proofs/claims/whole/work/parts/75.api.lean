/-! the calls: those of the image, the data, the input and the single values -/
/-- a call that doesn't throw: both give the same answer -/
def AP {α : Type} (rc rm : Option (α × xW)) : Prop := ∃ v w' m' B N, rc = some (v, w') ∧ rm = some (v, m') ∧ KR B N w' m'
/-- a call that may throw: the places where the class throws stand in cs, with the reference's number of it -/
def AT {α : Type} (w : xW) (cs : List (Nat × Int32)) (rc : Option ((α ⊕ Nat) × xW)) (rm : Option (α × xW)) : Prop :=
  (∃ v w' m' B N, rc = some (.inl v, w') ∧ rm = some (v, m') ∧ KR B N w' m' ∧ m'.1 0 0 = 0) ∨ ∃ pc c v m' B N, (pc, c) ∈ cs ∧ rc = some (.inr pc, w) ∧ rm = some (v, m') ∧ KR B N w m' ∧ m'.1 0 0 = c
def xfill (w : xW) (c k n : Nat) (f : Nat → Int32) : xW := (fun a b => if a = c ∧ k ≤ b ∧ b < n then f b else w.1 a b, w.2)
theorem xfill_0 (w : xW) (c n : Nat) (f : Nat → Int32) : xfill w c n n f = w := Prod.ext (funext fun a => funext fun b => if_neg (by omega)) rfl
theorem xfill_s {w : xW} {c k n : Nat} {f : Nat → Int32} (h : k < n) : xfill (xwi w c k (f k)) c (k + 1) n f = xfill w c k n f := by
  refine Prod.ext (funext fun a => funext fun b => ?_) rfl
  show (if a = c ∧ k + 1 ≤ b ∧ b < n then f b else if a = c ∧ b = k then f k else w.1 a b) = if a = c ∧ k ≤ b ∧ b < n then f b else w.1 a b
  by_cases h1 : a = c ∧ b = k
  · obtain ⟨rfl, rfl⟩ := h1
    rw [if_neg (by omega), if_pos ⟨rfl, rfl⟩, if_pos (by omega)]
  · rw [if_neg h1]
    by_cases h2 : a = c ∧ k + 1 ≤ b ∧ b < n
    · rw [if_pos h2, if_pos (by omega)]
    · rw [if_neg h2, if_neg (by omega)]
theorem xfill_i {w : xW} {c k n : Nat} {f : Nat → Int32} {b : Nat} (h : k ≤ b ∧ b < n) : (xfill w c k n f).1 c b = f b := if_pos ⟨rfl, h⟩
theorem xfill_o {w : xW} {c k n : Nat} {f : Nat → Int32} {a b : Nat} (h : ¬ (a = c ∧ k ≤ b ∧ b < n)) : (xfill w c k n f).1 a b = w.1 a b := if_neg h
theorem l64_255 : ∀ i, i < 64 → (255 : Int64).toBitVec.getLsbD i = decide (i < 8) := by decide +kernel
theorem i32_255 : ∀ i, i < 32 → tb 255 i = decide (i < 8) := by decide +kernel
/-- a byte of a long, in the class and in the reference -/
theorem byte_l {j : Nat} (hj : j < 8) (x : Int64) : ((((xlushr x ((8 : Int32) * nI j)).toInt32).toInt8.toInt32).toInt8.toInt32) &&& 255 = ((xlshr x ((8 : Int32) * nI j)) &&& 255).toInt32 := by
  rw [i8_255, i8_255]
  have e1 : (xlushr x ((8 : Int32) * nI j)).toBitVec = x.toBitVec >>> (8 * j) := by
    have h1 : (((8 : Int32) * nI j).toInt64.toUInt64 &&& Int64.toUInt64 63) = UInt64.ofNat (8 * j) := by
      have : ∀ j, j < 8 → (((8 : Int32) * nI j).toInt64.toUInt64 &&& Int64.toUInt64 63) = UInt64.ofNat (8 * j) := by decide +kernel
      exact this j hj
    unfold xlushr
    rw [h1]
    show (x.toUInt64 >>> UInt64.ofNat (8 * j)).toBitVec = _
    rw [UInt64.toBitVec_shiftRight]
    have e2 : ((UInt64.ofNat (8 * j)).toBitVec % 64).toNat = 8 * j := by
      have : ∀ j, j < 8 → ((UInt64.ofNat (8 * j)).toBitVec % 64).toNat = 8 * j := by decide +kernel
      exact this j hj
    rw [BitVec.ushiftRight_eq', e2]
    rfl
  have e2 : (xlshr x ((8 : Int32) * nI j)).toBitVec = x.toBitVec.sshiftRight (8 * j) := by
    have h1 : ((((8 : Int32) * nI j).toInt64 &&& 63).toBitVec.smod 64).toNat = 8 * j := by
      have : ∀ j, j < 8 → ((((8 : Int32) * nI j).toInt64 &&& 63).toBitVec.smod 64).toNat = 8 * j := by decide +kernel
      exact this j hj
    unfold xlshr
    rw [Int64.toBitVec_shiftRight, BitVec.sshiftRight_eq', h1]
  refine i32_ext (fun i hi => ?_)
  rw [tb_and, i32_255 i hi]
  show ((xlushr x ((8 : Int32) * nI j)).toInt32.toBitVec.getLsbD i && decide (i < 8)) = ((xlshr x ((8 : Int32) * nI j)) &&& 255).toInt32.toBitVec.getLsbD i
  rw [Int64.toBitVec_toInt32, Int64.toBitVec_toInt32, BitVec.getLsbD_signExtend, BitVec.getLsbD_signExtend, if_pos (by omega), if_pos (by omega), Int64.toBitVec_and, BitVec.getLsbD_and, l64_255 i (by omega), decide_eq_true hi, Bool.true_and, Bool.true_and]
  by_cases h8 : i < 8
  · rw [decide_eq_true h8, Bool.and_true, Bool.and_true, e1, e2, BitVec.getLsbD_ushiftRight, BitVec.getLsbD_sshiftRight, decide_eq_false (by omega : ¬ 64 ≤ i), if_pos (by omega)]
    rfl
  · rw [decide_eq_false h8, Bool.and_false, Bool.and_false]
section API
variable {B : Nat → Int32} {N : Nat} {w m : xW}
theorem isIn_t {p : Int32} {a b : Int64} (M : xW) (h : a.toInt ≤ p.toInt ∧ p.toInt ≤ b.toInt) : sX12_isIn p.toInt64 a b M = some (1, M) := by rw [isIn_v, decide_eq_true h]; rfl
theorem isIn_f {p : Int32} {a b : Int64} (M : xW) (h : ¬ (a.toInt ≤ p.toInt ∧ p.toInt ≤ b.toInt)) : sX12_isIn p.toInt64 a b M = some (0, M) := by rw [isIn_v, decide_eq_false h]; rfl
theorem n00 : ¬ (0 : Int32) < 0 := by decide
theorem n10 : ¬ (1 : Int32) = 0 := by decide
theorem p01 : (0 : Int32) < 1 := by decide
theorem p02 : (0 : Int32) < 2 := by decide
theorem tI0 : (0 : Int64).toInt = 0 := by decide
theorem tI1 : (1 : Int64).toInt = 1 := by decide
theorem tI7 : (7 : Int64).toInt = 7 := by decide
theorem tI8 : (8 : Int64).toInt = 8 := by decide
theorem tI255 : (255 : Int64).toInt = 255 := by decide
theorem tI2047 : (2047 : Int64).toInt = 2047 := by decide
theorem tI10000 : (10000 : Int64).toInt = 10000 := by decide
theorem ti0 : (0 : Int32).toInt = 0 := by decide
theorem ti1 : (1 : Int32).toInt = 1 := by decide
theorem ti7 : (7 : Int32).toInt = 7 := by decide
theorem ti8 : (8 : Int32).toInt = 8 := by decide
theorem ti255 : (255 : Int32).toInt = 255 := by decide
theorem ti2048 : (2048 : Int32).toInt = 2048 := by decide
theorem ti10000 : (10000 : Int32).toInt = 10000 := by decide
def fdC (k i : Nat) : Bool := k == 1 || k == 10 || k == 4 || (k == 8 && i == 10)
def fdM (k i : Nat) : Bool := k == 1 || k == 5 || (k == 0 && (i == 0 || i == 2 || i == 9 || i == 10 || i == 11 || i == 33))
theorem KR.feed {B' : Nat → Int32} {N' : Nat} {w' m' : xW} (h : KR B N w m) (hc : frC fdC w w') (hc2 : w'.2 = w.2) (hm : frC fdM m m') (hm2 : m'.2 = m.2) (iC : imgC w' B' N') (iM : imgM m' B' N')
    (a1 : w'.1 4 9 = 0) (a2 : w'.1 4 10 = 0) (a3 : w'.1 4 11 = -1) (a4 : w'.1 8 10 = 0) (b1 : m'.1 0 9 = 0) (b2 : m'.1 0 10 = 0) (b4 : m'.1 0 33 = 0) : KR B' N' w' m' := by
  obtain ⟨-, -, h3, h4, h5, ⟨u1, u2, u3, u4⟩, h7, h8, h9⟩ := h
  refine ⟨iC, iM, h3.fr (fun i => hc _ _ rfl) (fun i => hm _ _ rfl), h4.fr (fun i => hc _ _ rfl) (fun i => hc _ _ rfl) (fun i => hc _ _ rfl) (fun i => hm _ _ rfl) (fun i => hm _ _ rfl) (fun i => hm _ _ rfl), h5.fr (hc _ _ rfl) (hm _ _ rfl) (hm _ _ rfl) (hm _ _ rfl) (hm _ _ rfl) (hm _ _ rfl), ⟨?_, ?_, ?_, ?_⟩, h7.fr (fun i => hc _ _ rfl) (fun i => hc _ _ rfl) (fun i => hc _ _ rfl) (hm _ _ rfl) (hm _ _ rfl) (hm _ _ rfl) (hm _ _ rfl) (hm _ _ rfl) (fun i => hm _ _ rfl) (fun i => hm _ _ rfl), ⟨Or.inl a1, ?_, ?_, ⟨0, by omega, b2⟩, ?_, ?_⟩, h9.fr (hc _ _ rfl) (fun i => hc _ _ rfl) (hm _ _ rfl) (fun i => hm _ _ rfl)⟩
  · rw [a4, b4]
  · rw [hc _ _ rfl, hm _ _ rfl, u2]
  · rw [hc _ _ rfl, hm _ _ rfl, u3]
  · rw [hc2, hm2, u4]
  · rw [a1, b1]
  · rw [a2, b2]
  · rw [a3, b2, if_pos rfl]
  · intro q
    rw [a1] at q
    exact absurd q (by decide)
theorem change_l : ∀ (j k : Nat) (m : xW), k + j = 2048 → ∀ fuel, j < fuel → sX12_change_l22 fuel (nI k) m = some ((), xfill m 5 k 2048 (fun _ => 0)) := by
  intro j
  induction j with
  | zero =>
    intro k m hk fuel hf
    cases fuel with
    | zero => omega
    | succ f =>
      obtain rfl : k = 2048 := by omega
      rw [sX12_change_l22, if_neg (by decide), xfill_0]
  | succ j ih =>
    intro k m hk fuel hf
    cases fuel with
    | zero => omega
    | succ f =>
      rw [sX12_change_l22, if_pos (show nI k < (2048 : Int32) from nI_lq (b := 2048) (by omega) (by decide) (by omega)), if_pos (xin_n (by omega) (by decide)), nI_clamp (by omega), nI_1, ih (k + 1) _ (by omega) f (by omega), xfill_s (f := fun _ => 0) (by omega)]
theorem change_v (m : xW) : ∃ m', sX12_change m = some ((), m') ∧ m'.1 0 9 = 0 ∧ m'.1 0 10 = 0 ∧ m'.1 0 11 = -1 ∧ m'.1 0 33 = 0 ∧ m'.2 = m.2 ∧ ∀ k i, ¬ k = 5 → ¬ (k = 0 ∧ (i = 9 ∨ i = 10 ∨ i = 11 ∨ i = 33)) → m'.1 k i = m.1 k i := by
  refine ⟨_, change_l 2048 0 _ rfl 70000 (by omega), rfl, rfl, rfl, rfl, rfl, fun k i h1 h2 => ?_⟩
  rw [xfill_o (by omega), xwi_o (by omega), xwi_o (by omega), xwi_o (by omega), xwi_o (by omega)]
theorem feed_l {n : Nat} (hn : n ≤ 8) (x : Int64) : ∀ (j i N : Nat) (B : Nat → Int32) (w m : xW), i + j = n → N + j ≤ 2048 → imgC w B N → imgM m B N → ∃ B' w' m', imgC w' B' (N + j) ∧ imgM m' B' (N + j) ∧ (∀ k t, ¬ k = 10 → ¬ (k = 1 ∧ t = 1) → w'.1 k t = w.1 k t) ∧ w'.2 = w.2 ∧ (∀ k t, ¬ k = 1 → ¬ (k = 0 ∧ t = 2) → m'.1 k t = m.1 k t) ∧ m'.2 = m.2 ∧
    (∀ fuel, j < fuel → sX4_append_l3 fuel (nI n) x (nI i) w = some ((), w')) ∧ ∀ fuel, j < fuel → sX12_feed_l47 fuel (nI n) x (nI i) m = xbd (sX12_change m') (fun _ w1 => some ((w1.1 0 2), w1)) := by
  intro j
  induction j with
  | zero =>
    intro i N B w m hij hN hC hM
    refine ⟨B, w, m, hC, hM, fun _ _ _ _ => rfl, rfl, fun _ _ _ _ => rfl, rfl, fun fuel hf => ?_, fun fuel hf => ?_⟩
    · cases fuel with
      | zero => omega
      | succ f => rw [sX4_append_l3, if_neg (nI_nltI (by omega) (by omega) (by omega))]
    · cases fuel with
      | zero => omega
      | succ f => rw [sX12_feed_l47, if_neg (nI_nltI (by omega) (by omega) (by omega))]
  | succ j ih =>
    intro i N B w m hij hN hC hM
    obtain ⟨c1, c2, c3, c4⟩ := hC
    obtain ⟨m1, m2, m3, m4⟩ := hM
    obtain ⟨B', w', m', h1, h2, h3, h4, h5, h6, h7, h8⟩ := ih (i + 1) (N + 1) (fun q => if q = N then ((xlshr x ((8 : Int32) * nI i)) &&& (255 : Int64)).toInt32 else B q)
      (xwi (xwi w 10 N ((((xlushr x ((8 : Int32) * nI i)).toInt32).toInt8.toInt32).toInt8.toInt32)) 1 1 (nI (N + 1))) (xwi (xwi m 1 N (((xlshr x ((8 : Int32) * nI i)) &&& (255 : Int64)).toInt32)) 0 2 (nI (N + 1))) (by omega) (by omega)
      (by
        refine ⟨rfl, by omega, fun q hq => ?_, fun q hq => ?_⟩
        · rw [xwi_o (by omega)]
          show _ = (if q = N then _ else B q)
          by_cases e : q = N
          · subst e
            rw [if_pos rfl, xwi_s, byte_l (by omega)]
          · rw [if_neg e, xwi_o (by omega)]
            exact c3 q (by omega)
        · show (if q = N then _ else B q) = 0
          rw [if_neg (by omega)]
          exact c4 q (by omega))
      (by
        refine ⟨rfl, by omega, fun q hq => ?_, fun q hq => ?_⟩
        · rw [xwi_o (by omega)]
          show _ = (if q = N then _ else B q)
          by_cases e : q = N
          · subst e
            rw [if_pos rfl, xwi_s]
          · rw [if_neg e, xwi_o (by omega)]
            exact m3 q (by omega)
        · show (if q = N then _ else B q) = 0
          rw [if_neg (by omega)]
          exact c4 q (by omega))
    rw [show N + 1 + j = N + (j + 1) from by omega] at h1 h2
    refine ⟨B', w', m', h1, h2, fun k t a b => ?_, h4, fun k t a b => ?_, h6, fun fuel hf => ?_, fun fuel hf => ?_⟩
    · rw [h3 k t a b, xwi_o b, xwi_o (by omega)]
    · rw [h5 k t a b, xwi_o b, xwi_o (by omega)]
    · cases fuel with
      | zero => omega
      | succ f =>
        rw [sX4_append_l3, if_pos (nI_lq (by omega) (by omega) (by omega)), c1, if_pos (show nI N < (2048 : Int32) from nI_lq (b := 2048) (by omega) (by decide) (by omega)), if_pos (xin_n (by omega) (by decide)), nI_clamp (by omega)]
        rw [nI_1, nI_1]
        exact h7 f (by omega)
    · cases fuel with
      | zero => omega
      | succ f =>
        rw [sX12_feed_l47, if_pos (nI_lq (by omega) (by omega) (by omega)), m1, if_pos (xin_n (by omega) (by decide)), nI_clamp (by omega)]
        rw [nI_1, nI_1]
        exact h8 f (by omega)
theorem feed_p (h : KR B N w m) (n : Int32) (x : Int64) : AT w [(11, 1)] (sX11_feed n x w) (sX12_feed n x m) := by
  unfold sX11_feed sX12_feed
  by_cases hn : 1 ≤ n.toInt ∧ n.toInt ≤ 8
  · left
    obtain ⟨k, k1, rfl, k3⟩ := in_n (p := n) (n := 9) (by omega) (by omega)
    rw [if_neg (by rw [ltI, ti1]; omega), if_neg (by rw [ltI, ti8]; omega), isIn_t m (by rw [tI1, tI8]; exact hn), xbd_some, if_neg (show ¬ (1 : Int32) = 0 from by decide), h.1.1, nI_add]
    unfold sX12_feed_j18
    rw [if_neg n00, h.2.1.1, nI_add]
    have hN := h.1.2.1
    by_cases hf : 2048 < N + k
    · have hq : (2048 : Int32) < nI (N + k) := nI_lq (a := 2048) (by decide) (by omega) hf
      rw [if_pos hq, if_pos hq]
      exact ⟨_, _, _, B, N, rfl, rfl, h.thr 0, rfl⟩
    · have hq : ¬ (2048 : Int32) < nI (N + k) := nI_nltI (a := 2048) (by decide) (by omega) (by omega)
      rw [if_neg hq, if_neg hq]
      obtain ⟨B', w', m', h1, h2, h3, h4, h5, h6, h7, h8⟩ := feed_l (n := k) (by omega) x k 0 N B w (xwi m 0 0 0) (by omega) (by omega) h.1 (h.thr 0).2.1
      unfold sX4_append
      rw [show sX4_append_l3 70000 (nI k) x 0 w = _ from h7 70000 (by omega), show sX12_feed_l47 70000 (nI k) x 0 (xwi m 0 0 0) = _ from h8 70000 (by omega), xbd_some]
      obtain ⟨m2, g1, g2, g3, g4, g5, g6, g7⟩ := change_v m'
      rw [g1, xbd_some]
      have e2 : m2.1 0 2 = nI (N + k) := by rw [g7 0 2 (by decide) (by decide)]; exact h2.1
      unfold sX11_forgetProgram sX5_forget
      rw [xbd_some, xbd_some, e2]
      refine ⟨nI (N + k), xwi (xwi (xwi (xwi w' 4 9 0) 4 10 0) 4 11 (-1)) 8 10 0, m2, B', N + k, ?_, rfl, KR.feed h ?_ h4 ?_ (g6.trans h6) (h1.fr rfl (fun _ => rfl)) (h2.fr (g7 0 2 (by decide) (by decide)) (fun i => g7 1 i (by decide) (by omega))) rfl rfl rfl rfl g2 g3 g5, ?_⟩
      · have e3 : (xwi (xwi (xwi (xwi w' 4 9 0) 4 10 0) 4 11 (-1)) 8 10 0).1 1 1 = nI (N + k) := h1.1
        rw [← e3]
      · intro a b q
        have q' : a ≠ 1 ∧ a ≠ 10 ∧ a ≠ 4 ∧ ¬ (a = 8 ∧ b = 10) := by
          unfold fdC at q
          simp only [Bool.or_eq_false_iff, Bool.and_eq_false_iff, beq_eq_false_iff_ne] at q
          omega
        rw [xwi_o (by omega), xwi_o (by omega), xwi_o (by omega), xwi_o (by omega)]
        exact h3 a b (by omega) (by omega)
      · intro a b q
        have q' : a ≠ 1 ∧ a ≠ 5 ∧ ¬ (a = 0 ∧ (b = 0 ∨ b = 2 ∨ b = 9 ∨ b = 10 ∨ b = 11 ∨ b = 33)) := by
          unfold fdM at q
          simp only [Bool.or_eq_false_iff, Bool.and_eq_false_iff, beq_eq_false_iff_ne] at q
          omega
        rw [g7 a b (by omega) (by omega), h5 a b (by omega) (by omega), xwi_o (by omega)]
      · rw [g7 0 0 (by decide) (by decide), h5 0 0 (by decide) (by decide)]
        rfl
  · right
    rw [isIn_f m (by rw [tI1, tI8]; exact hn), xbd_some, if_pos rfl]
    refine ⟨11, 1, 0, xwi m 0 0 1, B, N, by simp, ?_, rfl, h.thr 1, rfl⟩
    by_cases h1 : n < 1
    · rw [if_pos h1]; rfl
    · rw [if_neg h1, if_pos (by rw [ltI, ti8]; rw [ltI, ti1] at h1; omega)]; rfl
theorem wipe_p (h : KR B N w m) : AP (sX11_wipe w) (sX12_wipe m) := by
  unfold sX11_wipe sX12_wipe sX11_forgetProgram sX5_forget
  obtain ⟨m2, g1, g2, g3, g4, g5, g6, g7⟩ := change_v (xwi (xwi m 0 0 (0 : Int32)) 0 2 (0 : Int32))
  rw [g1, xbd_some, xbd_some, xbd_some, h.1.1, h.2.1.1]
  refine ⟨_, _, _, fun _ => 0, 0, rfl, rfl, KR.feed h ?_ rfl ?_ g6 ⟨rfl, by omega, fun i hi => absurd hi (by omega), fun _ _ => rfl⟩ ⟨?_, by omega, fun i hi => absurd hi (by omega), fun _ _ => rfl⟩ rfl rfl rfl rfl g2 g3 g5⟩
  · intro a b q
    have q' : a ≠ 1 ∧ a ≠ 10 ∧ a ≠ 4 ∧ ¬ (a = 8 ∧ b = 10) := by
      unfold fdC at q
      simp only [Bool.or_eq_false_iff, Bool.and_eq_false_iff, beq_eq_false_iff_ne] at q
      omega
    rw [xwi_o (by omega), xwi_o (by omega), xwi_o (by omega), xwi_o (by omega), xwi_o (by omega)]
  · intro a b q
    have q' : a ≠ 1 ∧ a ≠ 5 ∧ ¬ (a = 0 ∧ (b = 0 ∨ b = 2 ∨ b = 9 ∨ b = 10 ∨ b = 11 ∨ b = 33)) := by
      unfold fdM at q
      simp only [Bool.or_eq_false_iff, Bool.and_eq_false_iff, beq_eq_false_iff_ne] at q
      omega
    rw [g7 a b (by omega) (by omega), xwi_o (by omega), xwi_o (by omega)]
  · rw [g7 0 2 (by decide) (by decide)]
    rfl
end API
