/-! the step: the reference's copies, both ends -/
def cpF (k0 k1 : Nat) (w : xW) (i : Nat) : xW := (fun k t => if k = k1 ∧ i ≤ t ∧ t < 8 then w.1 k0 t else w.1 k t, w.2)
theorem cpF_8 (k0 k1 : Nat) (w : xW) : cpF k0 k1 w 8 = w := by
  refine Prod.ext ?_ rfl
  funext k t
  exact if_neg (fun q => by omega)
theorem cpF_s {k0 k1 : Nat} (h : k0 ≠ k1) {w : xW} {i : Nat} (hi : i < 8) : cpF k0 k1 (xwi w k1 i (w.1 k0 i)) (i + 1) = cpF k0 k1 w i := by
  refine Prod.ext ?_ rfl
  funext k t
  show (if k = k1 ∧ i + 1 ≤ t ∧ t < 8 then (if k0 = k1 ∧ t = i then w.1 k0 i else w.1 k0 t) else (if k = k1 ∧ t = i then w.1 k0 i else w.1 k t)) = (if k = k1 ∧ i ≤ t ∧ t < 8 then w.1 k0 t else w.1 k t)
  rw [if_neg (fun q : k0 = k1 ∧ t = i => h q.1)]
  by_cases h1 : k = k1
  · by_cases h2 : t = i
    · rw [if_neg (by omega), if_pos ⟨h1, h2⟩, if_pos ⟨h1, by omega, by omega⟩, h2]
    · rw [if_neg (fun q : k = k1 ∧ t = i => h2 q.2)]
      by_cases h3 : i ≤ t ∧ t < 8
      · rw [if_pos ⟨h1, by omega, h3.2⟩, if_pos ⟨h1, h3⟩]
      · rw [if_neg (fun q => h3 ⟨by omega, q.2.2⟩), if_neg (fun q => h3 q.2)]
  · rw [if_neg (fun q => h1 q.1), if_neg (fun q : k = k1 ∧ t = i => h1 q.1), if_neg (fun q => h1 q.1)]
theorem cpF_o {k0 k1 : Nat} {w : xW} {i k t : Nat} (h : ¬ k = k1) : (cpF k0 k1 w i).1 k t = w.1 k t := if_neg (fun q => h q.1)
theorem cpF_in {k0 k1 : Nat} {w : xW} {t : Nat} (h : t < 8) : (cpF k0 k1 w 0).1 k1 t = w.1 k0 t := if_pos ⟨rfl, Nat.zero_le t, h⟩
theorem cpF_out {k0 k1 : Nat} {w : xW} {t : Nat} (h : 8 ≤ t) : (cpF k0 k1 w 0).1 k1 t = w.1 k1 t := if_neg (fun q => by omega)
def fin250 (a3 a4 a5 a6 a7 a8 : Int32) (V : xW) : xW := xwi (xwi (xwi (xwi (xwi (xwi (xwi V 0 36 a3) 0 37 a4) 0 38 a5) 0 39 a6) 0 40 a7) 0 34 a8) 0 33 (V.1 0 45)
theorem l250_v {a3 a4 a5 a6 a7 a8 : Int32} (h3 : xz a3) (h4 : xz a4) (h5 : xz a5) (h6 : xz a6) (h7 : xz a7) : ∀ (j i fuel : Nat) (W : xW), i + j = 8 → j < fuel → sX12_step_l250 fuel a3 a4 a5 a6 a7 a8 (nI i) W = some (0, fin250 a3 a4 a5 a6 a7 a8 (cpF 10 9 W i)) := by
  intro j
  induction j with
  | zero =>
    intro i fuel W hij hf
    cases fuel with
    | zero => omega
    | succ f =>
      have e : i = 8 := by omega
      subst e
      rw [sX12_step_l250, if_neg (by decide), if_pos h3, if_pos h4, if_pos h5, if_pos h6, if_pos h7, cpF_8]
      rfl
  | succ j ih =>
    intro i fuel W hij hf
    cases fuel with
    | zero => omega
    | succ f =>
      rw [sX12_step_l250, if_pos (show nI i < (8 : Int32) from (nI_ltI2 (b := 8) (by omega) (by decide)).mpr (by omega)), if_pos (xin_n (by omega) (by decide)), if_pos (xin_n (by omega) (by decide)), nI_clamp (by omega), nI_1, ih (i + 1) f _ (by omega) (by omega), cpF_s (by decide) (by omega)]
/-- the reference's step behind the copies -/
def stR (a1 : Int64) (a3 a4 a5 a6 a7 a8 : Int32) (w : xW) : Option (Int32 × xW) := xbd (sX12_isGate a1 w) (fun x1 w2 => (if x1 = 0 then (if a1 < (4096 : Int64) then sX12_step_j129 a3 a4 a5 a6 a7 a8 (-1 : Int32) w2 else (if a1 < ((4096 : Int32) + (w2.1 0 2)).toInt64 then xbd (sX12_take (a1.toInt32 - (4096 : Int32)) w2) (fun x3 w4 => (if x3 = 0 then sX12_step_j171 a3 a4 a5 a6 a7 a8 (a1.toInt32 - (4096 : Int32)) w4 else (if (w4.1 0 9) = 0 then sX12_step_j180 a3 a4 a5 a6 a7 a8 (a1.toInt32 - (4096 : Int32)) w4 else (if xin (a1.toInt32 - (4096 : Int32)) 2048 then (if (w4.1 5 ((a1.toInt32 - (4096 : Int32)).toNatClampNeg)) = 0 then sX12_step_j171 a3 a4 a5 a6 a7 a8 (a1.toInt32 - (4096 : Int32)) w4 else sX12_step_j180 a3 a4 a5 a6 a7 a8 (a1.toInt32 - (4096 : Int32)) w4) else none)))) else sX12_step_j129 a3 a4 a5 a6 a7 a8 (-1 : Int32) w2)) else (if ¬ (32 : Int32) = 0 then xbd (sX12_serve ((a1 - (1024 : Int64)).toInt32 / (32 : Int32)) w2) (fun _ w5 => sX12_step_j212 a3 a4 a5 a6 a7 a8 (-1 : Int32) w5) else none)))
theorem l53_v {a1 : Int64} {a3 a4 a5 a6 a7 a8 : Int32} : ∀ (j i fuel : Nat) (W : xW), i + j = 8 → j < fuel → sX12_step_l53 fuel a1 a3 a4 a5 a6 a7 a8 (nI i) W = stR a1 a3 a4 a5 a6 a7 a8 (cpF 9 10 W i) := by
  intro j
  induction j with
  | zero =>
    intro i fuel W hij hf
    cases fuel with
    | zero => omega
    | succ f =>
      have e : i = 8 := by omega
      subst e
      rw [sX12_step_l53, if_neg (by decide), cpF_8]
      rfl
  | succ j ih =>
    intro i fuel W hij hf
    cases fuel with
    | zero => omega
    | succ f =>
      rw [sX12_step_l53, if_pos (show nI i < (8 : Int32) from (nI_ltI2 (b := 8) (by omega) (by decide)).mpr (by omega)), if_pos (xin_n (by omega) (by decide)), if_pos (xin_n (by omega) (by decide)), nI_clamp (by omega), nI_1, ih (i + 1) f _ (by omega) (by omega), cpF_s (by decide) (by omega)]
theorem step_m (m : xW) : sX12_step m = stR (lN (un (m.1 0 34))) (m.1 0 36) (m.1 0 37) (m.1 0 38) (m.1 0 39) (m.1 0 40) (m.1 0 34) (cpF 9 10 (xwi m 0 45 0) 0) := by
  unfold sX12_step
  dsimp only [xlet]
  rw [un_l]
  exact l53_v 8 0 70000 (xwi m 0 45 0) (by omega) (by omega)
/-! the ends -/
section FIN
variable {B : Nat → Int32} {N : Nat} {w m wA mA : xW}
/-- it was done -/
theorem fin_ok (hK : KR B N w m) (hc : frC stC_ w wA) (hm : frC stM_ m mA) (hD : dataP wA mA) {p : Nat} (hp : p < 2048) (c1 : wA.1 6 2 = 0) (c2 : wA.1 8 11 = nI (4096 + p)) (c3 : ∀ i, wA.1 21 i = w.1 21 i) (c4 : wA.1 8 12 = w.1 8 12) (c5 : wA.2 8 13 = w.2 8 13)
    (m1 : mA.1 0 45 = 0) (m3 : ∀ i, mA.1 6 i = m.1 6 i) (m4 : mA.1 0 41 = m.1 0 41) (m5 : mA.2 0 44 = m.2 0 44) (hr : ∀ i, wA.1 20 i = mA.1 9 i) (hF : KF wA mA) (hfo : wA.1 8 15 = mA.1 0 34) (hs : wA.1 8 10 = mA.1 0 33) (a3 a4 a5 a6 a7 a8 : Int32) :
    ∃ w' m', xbd (sX7_settle wA) (fun _ w6 => sX7_step_j44 w6) = some (1, w') ∧ sX12_step_j212 a3 a4 a5 a6 a7 a8 (nI p) mA = some (1, m') ∧ KR B N w' m' ∧ m'.1 0 0 = m.1 0 0 := by
  obtain ⟨h1, h2, h3, ⟨g1, g2, g3, g4⟩, h5, ⟨u1, u2, u3, u4⟩, h7, h8, h9⟩ := id hK
  have ep : wA.1 8 11 - 4096 = nI p := by rw [c2, show nI (4096 + p) - 4096 = nI (4096 + p - 4096) from pk_sub (a := 4096 + p) (b := 4096) (by omega), Nat.add_sub_cancel_left]
  refine ⟨xwl (xwi (xwi wA 21 p (wA.1 21 p + 1)) 8 11 (wA.1 8 15)) 8 13 (wA.2 8 13 + 1), xwi (xwl mA 0 44 (mA.2 0 44 + 1)) 6 p (mA.1 6 p + 1), ?_, ?_, ?_, hm 0 0 rfl⟩
  · unfold sX7_settle
    rw [c1, if_pos rfl, ep, if_neg (nI_pos (by omega)), if_pos (show nI p < (2048 : Int32) from (nI_ltI2 (b := 2048) (by omega) (by decide)).mpr hp), if_pos (xin_n hp (by decide)), if_pos (xin_n hp (by decide)), nI_clamp (by omega)]
    unfold sX7_settle_j67
    rw [xbd_some]
    unfold sX7_step_j44
    rw [show (xwi (xwi wA 21 p (wA.1 21 p + 1)) 8 11 ((xwi wA 21 p (wA.1 21 p + 1)).1 8 15)).1 6 2 = wA.1 6 2 from rfl, c1, if_pos rfl]
    rfl
  · unfold sX12_step_j212
    rw [m1, if_pos rfl, if_neg (nI_pos (by omega)), if_pos (xin_n hp (by decide)), if_pos (xin_n hp (by decide)), nI_clamp (by omega)]
  · refine hK.step ?_ ?_ ?_ ⟨?_, ?_⟩ ?_ ⟨?_, ?_, ?_, ?_⟩
    · exact ((hc.wi rfl).wi rfl).wl
    · exact (hm.wl).wi rfl
    · exact hD.fr (fun i => rfl) (fun i => rfl)
    · exact hr
    · intro i
      show (if 21 = 21 ∧ i = p then wA.1 21 p + 1 else wA.1 21 i) = (if 6 = 6 ∧ i = p then mA.1 6 p + 1 else mA.1 6 i)
      by_cases q : i = p
      · rw [if_pos ⟨rfl, q⟩, if_pos ⟨rfl, q⟩, c3, m3, g2]
      · rw [if_neg (fun z => q z.2), if_neg (fun z => q z.2), c3, m3, g2]
    · exact hF.fr rfl rfl rfl rfl rfl rfl
    · exact hs
    · exact hfo
    · show wA.1 8 12 = mA.1 0 41
      rw [c4, m4, u3]
    · show wA.2 8 13 + 1 = mA.2 0 44 + 1
      rw [c5, m5, u4]
/-- it was not done: the class's registers and flags stand in world wB -/
theorem fin_no (hK : KR B N w m) {wB : xW} (hc : frC stC_ w wB) (hm : frC stM_ m mA) (hD : dataP wB mA) {e a9 : Int32} (he : ¬ e = 0) (c2 : wB.1 8 11 = w.1 8 11) (c3 : ∀ i, wB.1 21 i = w.1 21 i) (c4 : wB.1 8 12 = w.1 8 12) (c5 : wB.2 8 13 = w.2 8 13) (c6 : wB.1 6 2 = e) (c7 : wB.1 9 0 = w.1 9 0)
    (m1 : mA.1 0 45 = e) (m3 : ∀ i, mA.1 6 i = m.1 6 i) (m4 : mA.1 0 41 = m.1 0 41) (m5 : mA.2 0 44 = m.2 0 44) (m6 : ∀ i, i < 8 → mA.1 10 i = m.1 9 i) (hr : ∀ i, i < 8 → wB.1 20 i = w.1 20 i) (hr8 : ∀ i, 8 ≤ i → wB.1 20 i = mA.1 9 i) :
    ∃ w' m', sX7_step_j44 wB = some (0, w') ∧ sX12_step_j212 (m.1 0 36) (m.1 0 37) (m.1 0 38) (m.1 0 39) (m.1 0 40) (m.1 0 34) a9 mA = some (0, m') ∧ KR B N w' m' ∧ w'.1 8 10 = e ∧ m'.1 0 0 = m.1 0 0 := by
  obtain ⟨h1, h2, h3, ⟨g1, g2, g3, g4⟩, ⟨fc, fp, fz, fs, fo, f1, f2, f3, f4, f5, f6⟩, ⟨u1, u2, u3, u4⟩, h7, h8, h9⟩ := id hK
  refine ⟨xwi wB 8 10 e, fin250 (m.1 0 36) (m.1 0 37) (m.1 0 38) (m.1 0 39) (m.1 0 40) (m.1 0 34) (cpF 10 9 mA 0), ?_, ?_, ?_⟩
  · unfold sX7_step_j44
    rw [c6, if_neg he]
  · unfold sX12_step_j212
    rw [m1, if_neg he]
    exact l250_v (by rw [f2]; exact bI_xz _) (by rw [f3]; exact bI_xz _) (by rw [f4]; exact bI_xz _) (by rw [f5]; exact bI_xz _) (by rw [f6]; exact bI_xz _) 8 0 70000 mA (by omega) (by omega)
  · refine ⟨?_, rfl, hm 0 0 rfl⟩
    have hcp : frC stM_ m (cpF 10 9 mA 0) := hm.t (fun k i q => cpF_o (fun z => by rw [z] at q; exact absurd q (by simp [stM_])))
    refine hK.step (hc.wi rfl) ?_ ?_ ⟨?_, ?_⟩ ?_ ⟨?_, ?_, ?_, ?_⟩
    · exact ((((((hcp.wi rfl).wi rfl).wi rfl).wi rfl).wi rfl).wi rfl).wi rfl
    · exact hD.fr (fun i => rfl) (fun i => rfl)
    · intro i
      show wB.1 20 i = (cpF 10 9 mA 0).1 9 i
      by_cases q : i < 8
      · rw [cpF_in q, m6 i q, hr i q, g1]
      · rw [cpF_out (by omega), hr8 i (by omega)]
    · intro i
      show wB.1 21 i = mA.1 6 i
      rw [c3, m3, g2]
    · refine ⟨fc, fp, fz, fs, fo, ?_, f2, f3, f4, f5, f6⟩
      show wB.1 9 0 = _
      rw [c7, f1]
    · show e = (cpF 10 9 mA 0).1 0 45
      exact m1.symm
    · show wB.1 8 11 = m.1 0 34
      rw [c2, u2]
    · show wB.1 8 12 = mA.1 0 41
      rw [c4, m4, u3]
    · show wB.2 8 13 = mA.2 0 44
      rw [c5, m5, u4]
end FIN
