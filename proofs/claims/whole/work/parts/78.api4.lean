/-! the calls: run, begin -/
section API4
variable {B : Nat → Int32} {N : Nat} {w m : xW}
theorem xwi_self (w : xW) (k i : Nat) : xwi w k i (w.1 k i) = w := by
  refine Prod.ext (funext fun a => funext fun b => ?_) rfl
  show (if a = k ∧ b = i then w.1 k i else w.1 a b) = w.1 a b
  by_cases h : a = k ∧ b = i
  · rw [if_pos h, h.1, h.2]
  · rw [if_neg h]
theorem run_p (h : KR B N w m) (p : Int32) : AT w [(11, 1), (31, 2)] (sX11_run p w) (sX12_run p m) := by
  have hs := h.2.2.2.2.2.1.1
  unfold sX11_run sX12_run
  by_cases hp : 0 ≤ p.toInt ∧ p.toInt ≤ 10000
  · obtain ⟨n, k1, rfl, k3⟩ := in_n (p := p) (n := 10001) (by omega) (by omega)
    rw [if_neg (by rw [ltI, ti0]; omega), if_neg (by rw [ltI, ti10000]; omega), isIn_t m (by rw [tI0, tI10000]; exact hp), xbd_some, if_neg n10, ← hs]
    unfold sX12_run_j29
    by_cases h0 : w.1 8 10 = 0
    · right
      rw [if_pos h0, if_pos h0, if_pos p02]
      exact ⟨31, 2, 0, xwi m 0 0 2, B, N, by simp, rfl, rfl, h.thr 2, rfl⟩
    · left
      rw [if_neg h0, if_neg h0, if_neg n00, ← hs]
      unfold sX7_wake
      have fin : ∀ v, KR B N (xwi w 8 10 v) (xwi (xwi m 0 0 0) 0 33 v) → ∃ r w' m' B N, sX11_run_l52 70000 (nI n) 0 0 (xwi w 8 10 v) = some (.inl r, w') ∧ sX12_run_j68 (nI n) v (xwi m 0 0 0) = some (r, m') ∧ KR B N w' m' ∧ m'.1 0 0 = 0 := by
        intro v hK
        obtain ⟨r, w', m', q1, q2, q3, q4⟩ := run_l (n := n) (by omega) n 0 _ _ (by omega) hK
        refine ⟨r, w', m', B, N, q3 70000 (by omega), ?_, q1, by rw [q2]; rfl⟩
        unfold sX12_run_j68
        exact q4 70000 (by omega)
      by_cases h7 : w.1 8 10 = 7
      · rw [if_pos h7, if_pos h7, xbd_some]
        unfold sX12_run_j60
        exact fin 1 ((h.thr 0).st 1)
      · rw [if_neg h7, if_neg h7]
        by_cases h8 : w.1 8 10 = 8
        · rw [if_pos h8, if_pos h8, xbd_some]
          unfold sX12_run_j60
          exact fin 1 ((h.thr 0).st 1)
        · rw [if_neg h8, if_neg h8, xbd_some]
          have := fin (w.1 8 10) ((h.thr 0).st _)
          rw [xwi_self] at this
          exact this
  · right
    rw [isIn_f m (by rw [tI0, tI10000]; exact hp), xbd_some, if_pos rfl]
    unfold sX12_run_j29
    rw [if_pos p01]
    refine ⟨11, 1, 0, xwi m 0 0 1, B, N, by simp, ?_, rfl, h.thr 1, rfl⟩
    by_cases h1 : p < 0
    · rw [if_pos h1]; rfl
    · rw [if_neg h1, if_pos (by rw [ltI, ti10000]; rw [ltI, ti0] at h1; omega)]; rfl
theorem l56_v : ∀ (j k : Nat) (w : xW), k + j = 2048 → ∀ fuel, j < fuel → sX7_restart_l56 fuel (nI k) w = some ((), xfill w 21 k 2048 (fun _ => 0)) := by
  intro j
  induction j with
  | zero =>
    intro k m hk fuel hf
    cases fuel with
    | zero => omega
    | succ f =>
      obtain rfl : k = 2048 := by omega
      rw [sX7_restart_l56, if_neg (by decide), xfill_0]
  | succ j ih =>
    intro k m hk fuel hf
    cases fuel with
    | zero => omega
    | succ f =>
      rw [sX7_restart_l56, if_pos (show nI k < (2048 : Int32) from nI_lq (b := 2048) (by omega) (by decide) (by omega)), if_pos (xin_n (by omega) (by decide)), nI_clamp (by omega), nI_1, ih (k + 1) _ (by omega) f (by omega), xfill_s (f := fun _ => 0) (by omega)]
theorem l131_v : ∀ (j k : Nat) (w : xW), k + j = 2048 → ∀ fuel, j < fuel → sX12_begin_l131 fuel (nI k) w = some ((), xfill w 6 k 2048 (fun _ => 0)) := by
  intro j
  induction j with
  | zero =>
    intro k m hk fuel hf
    cases fuel with
    | zero => omega
    | succ f =>
      obtain rfl : k = 2048 := by omega
      rw [sX12_begin_l131, if_neg (by decide), xfill_0]
  | succ j ih =>
    intro k m hk fuel hf
    cases fuel with
    | zero => omega
    | succ f =>
      rw [sX12_begin_l131, if_pos (show nI k < (2048 : Int32) from nI_lq (b := 2048) (by omega) (by decide) (by omega)), if_pos (xin_n (by omega) (by decide)), nI_clamp (by omega), nI_1, ih (k + 1) _ (by omega) f (by omega), xfill_s (f := fun _ => 0) (by omega)]
def bgC (W : xW) : xW := xfill (xwl (xwi (xwi (xwi (xwi W 20 4 131072) 8 11 4096) 9 0 0) 8 12 0) 8 13 0) 21 0 2048 (fun _ => 0)
def bgM (M : xW) : xW := xfill (xwi (xwl (xwi (xwi (xwi (xwi (xwi (xwi (xwi (xwi (xwi (xwi M 0 36 0) 0 37 0) 0 38 0) 0 39 0) 0 40 0) 0 34 4096) 0 33 1) 0 41 0) 0 42 65536) 0 43 0) 0 44 0) 0 8 0) 6 0 2048 (fun _ => 0)
theorem xi4' : xin (4 : Int32) 8 := by decide
theorem xc4' : (4 : Int32).toNatClampNeg = 4 := by decide
theorem l2_v : ∀ (j k : Nat) (w : xW), k + j = 8 → ∀ fuel, j < fuel → sX7_restart_l2 fuel (nI k) w = some ((), bgC (xfill w 20 k 8 (fun _ => 0))) := by
  intro j
  induction j with
  | zero =>
    intro k m hk fuel hf
    cases fuel with
    | zero => omega
    | succ f =>
      obtain rfl : k = 8 := by omega
      rw [sX7_restart_l2, if_neg (by decide), xfill_0]
      simp only [if_pos xi4', xc4']
      exact l56_v 2048 0 _ rfl 70000 (by omega)
  | succ j ih =>
    intro k m hk fuel hf
    cases fuel with
    | zero => omega
    | succ f =>
      rw [sX7_restart_l2, if_pos (show nI k < (8 : Int32) from nI_lq (b := 8) (by omega) (by decide) (by omega)), if_pos (xin_n (by omega) (by decide)), nI_clamp (by omega), nI_1, ih (k + 1) _ (by omega) f (by omega), xfill_s (f := fun _ => 0) (by omega)]
theorem l37_v : ∀ (j k : Nat) (w : xW), k + j = 8 → ∀ fuel, j < fuel → sX12_begin_l37 fuel (nI k) w = some ((), bgM (xfill w 9 k 8 (fun i => if i = 4 then 131072 else 0))) := by
  intro j
  induction j with
  | zero =>
    intro k m hk fuel hf
    cases fuel with
    | zero => omega
    | succ f =>
      obtain rfl : k = 8 := by omega
      rw [sX12_begin_l37, if_neg (by decide), xfill_0]
      exact l131_v 2048 0 _ rfl 70000 (by omega)
  | succ j ih =>
    intro k m hk fuel hf
    cases fuel with
    | zero => omega
    | succ f =>
      rw [sX12_begin_l37, if_pos (show nI k < (8 : Int32) from nI_lq (b := 8) (by omega) (by decide) (by omega)), nI_1]
      have hx := xin_n (k := k) (n := 8) (by omega) (by decide)
      have hs := xfill_s (w := m) (c := 9) (k := k) (n := 8) (f := fun i => if i = 4 then 131072 else 0) (by omega)
      by_cases e : k = 4
      · rw [if_pos (show nI k = 4 from by rw [e]; rfl), if_pos hx, nI_clamp (by omega), ih (k + 1) _ (by omega) f (by omega)]
        rw [if_pos e] at hs
        rw [hs]
      · rw [if_neg (show ¬ nI k = 4 from nI_ne (b := 4) (by omega) (by decide) e), if_pos hx, nI_clamp (by omega), ih (k + 1) _ (by omega) f (by omega)]
        rw [if_neg e] at hs
        rw [hs]
theorem begin_p (h : KR B N w m) (p : Int32) : AT w [(14, 1), (34, 1)] (sX11_begin p w) (sX12_begin p m) := by
  have hv : w.1 4 9 = m.1 0 9 := h.2.2.2.2.2.2.2.1.2.1
  have hc : w.1 1 1 = m.1 0 2 := by rw [h.1.1, h.2.1.1]
  have hthrow : sX12_begin_j19 m = some ((), xwi m 0 0 1) := by
    unfold sX12_begin_j19 sX12_begin_j24
    rw [if_pos p01]
  have body : AT w [(14, 1), (34, 1)] (sX11_begin_j24 w) (sX12_begin_j12 m) := by
    unfold sX11_begin_j24 sX12_begin_j12
    rw [hc]
    by_cases h0 : m.1 0 2 = 0
    · right
      rw [if_pos h0, if_pos h0, hthrow]
      exact ⟨34, 1, (), xwi m 0 0 1, B, N, by simp, rfl, rfl, h.thr 1, rfl⟩
    · left
      rw [if_neg h0, if_neg h0]
      unfold sX3_restart sX7_restart sX12_begin_j24
      rw [xbd_some, if_neg n00]
      rw [show ∀ W, sX7_restart_l2 70000 0 W = _ from fun W => l2_v 8 0 W rfl 70000 (by omega), xbd_some, show ∀ M, sX12_begin_l37 70000 0 M = _ from fun M => l37_v 8 0 M rfl 70000 (by omega)]
      refine ⟨(), _, _, B, N, rfl, rfl, ?_, rfl⟩
      obtain ⟨h1, h2, h3, ⟨g1, g2, g3, g4⟩, h5, ⟨u1, u2, u3, u4⟩, ⟨hd, t, r, q1, q2, q3, ⟨q4, q5⟩, ⟨q6, q7⟩, ⟨q8, q9⟩, ⟨q10, q11⟩, q12, q13⟩, h8, h9⟩ := h
      have hC : ∀ k i, ¬ (k = 7 ∧ (i = 4 ∨ i = 6 ∨ i = 7)) → ¬ (k = 20 ∧ i < 8) → ¬ k = 21 → ¬ (k = 8 ∧ (i = 10 ∨ i = 11 ∨ i = 12)) → ¬ (k = 9 ∧ i = 0) → (xwi (bgC (xfill (xwi (xwi (xwi w 7 4 0) 7 6 65536) 7 7 0) 20 0 8 (fun _ => 0))) 8 10 1).1 k i = w.1 k i := by
        intro k i a1 a2 a3 a4 a5
        unfold bgC
        rw [xwi_o (by omega), xfill_o (by omega)]
        show (xwi (xwi (xwi (xwi _ 20 4 131072) 8 11 4096) 9 0 0) 8 12 0).1 k i = _
        rw [xwi_o (by omega), xwi_o (by omega), xwi_o (by omega), xwi_o (by omega), xfill_o (by omega), xwi_o (by omega), xwi_o (by omega), xwi_o (by omega)]
      have hM : ∀ k i, ¬ (k = 0 ∧ (i = 0 ∨ i = 8 ∨ (33 ≤ i ∧ i ≤ 43))) → ¬ (k = 9 ∧ i < 8) → ¬ k = 6 → (bgM (xfill (xwi m 0 0 0) 9 0 8 (fun i => if i = 4 then 131072 else 0))).1 k i = m.1 k i := by
        intro k i a1 a2 a3
        unfold bgM
        rw [xfill_o (by omega), xwi_o (by omega)]
        show (xwi (xwi (xwi (xwi (xwi (xwi (xwi (xwi (xwi (xwi _ 0 36 0) 0 37 0) 0 38 0) 0 39 0) 0 40 0) 0 34 4096) 0 33 1) 0 41 0) 0 42 65536) 0 43 0).1 k i = _
        rw [xwi_o (by omega), xwi_o (by omega), xwi_o (by omega), xwi_o (by omega), xwi_o (by omega), xwi_o (by omega), xwi_o (by omega), xwi_o (by omega), xwi_o (by omega), xwi_o (by omega), xfill_o (by omega), xwi_o (by omega)]
      have hC' := fun k i (a : ¬ k = 7 ∧ ¬ k = 20 ∧ ¬ k = 21 ∧ ¬ k = 8 ∧ ¬ k = 9) => hC k i (by omega) (by omega) (by omega) (by omega) (by omega)
      have hM' := fun k i (a : ¬ k = 0 ∧ ¬ k = 9 ∧ ¬ k = 6) => hM k i (by omega) (by omega) (by omega)
      refine ⟨h1.fr (hC' _ _ (by decide)) (fun i => hC' _ _ (by decide)), h2.fr (hM _ _ (by decide) (by decide) (by decide)) (fun i => hM' _ _ (by decide)), h3.fr (fun i => hC' _ _ (by decide)) (fun i => hM' _ _ (by decide)), ⟨fun i => ?_, fun i => ?_, fun i => ?_, fun i => ?_⟩, ⟨false, false, false, false, false, rfl, rfl, rfl, rfl, rfl, rfl⟩, ⟨rfl, rfl, rfl, rfl⟩, ⟨hd, t, 0, q1, q2, by omega, ⟨q4, q5⟩, ⟨q6, q7⟩, ⟨rfl, rfl⟩, ⟨rfl, rfl⟩, fun i hi => ?_, fun i hi => absurd hi (by omega)⟩,
        h8.fr (fun i => hC' _ _ (by decide)) (fun i => hC' _ _ (by decide)) (hM _ _ (by decide) (by decide) (by decide)) (hM _ _ (by decide) (by decide) (by decide)) (hM _ _ (by decide) (by decide) (by decide)) (fun i => hM' _ _ (by decide)),
        h9.fr (hC' _ _ (by decide)) (fun i => hC' _ _ (by decide)) (hM _ _ (by decide) (by decide) (by decide)) (fun i => hM' _ _ (by decide))⟩
      · by_cases hi : i < 8
        · have : i = 0 ∨ i = 1 ∨ i = 2 ∨ i = 3 ∨ i = 4 ∨ i = 5 ∨ i = 6 ∨ i = 7 := by omega
          rcases this with rfl | rfl | rfl | rfl | rfl | rfl | rfl | rfl <;> rfl
        · rw [hC _ _ (by omega) (by omega) (by omega) (by omega) (by omega), hM _ _ (by omega) (by omega) (by omega)]
          exact g1 i
      · rw [xwi_o (by omega)]
        unfold bgC bgM
        by_cases hi : i < 2048
        · rw [xfill_i (by omega), xfill_i (by omega)]
        · rw [xfill_o (by omega), xfill_o (by omega)]
          exact g2 i
      · rw [hC' _ _ (by decide), hM' _ _ (by decide)]
        exact g3 i
      · rw [hC' _ _ (by decide)]
        exact g4 i
      · rw [hC' _ _ (by decide), hM' _ _ (by decide)]
        exact q12 i hi
  unfold sX11_begin sX12_begin
  rw [hv]
  by_cases h9 : m.1 0 9 = 0
  · rw [if_pos h9, if_pos h9]
    by_cases hp : p = 0
    · right
      rw [if_pos hp, if_pos hp, hthrow]
      exact ⟨14, 1, (), xwi m 0 0 1, B, N, by simp, rfl, rfl, h.thr 1, rfl⟩
    · rw [if_neg hp, if_neg hp]
      exact body
  · rw [if_neg h9, if_neg h9]
    exact body
end API4
