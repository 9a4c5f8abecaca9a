/-! run -/
section RN
variable {B : Nat → Int32} {N : Nat} {w m : xW}
theorem KR.thr (h : KR B N w m) (v : Int32) : KR B N w (xwi m 0 0 v) := by
  obtain ⟨h1, h2, h3, h4, h5, h6, h7, h8, h9⟩ := h
  exact ⟨h1, h2.fr rfl (fun _ => rfl), h3.fr (fun _ => rfl) (fun _ => rfl), h4.fr (fun _ => rfl) (fun _ => rfl) (fun _ => rfl) (fun _ => rfl) (fun _ => rfl) (fun _ => rfl), h5.fr rfl rfl rfl rfl rfl rfl, h6, h7.fr (fun _ => rfl) (fun _ => rfl) (fun _ => rfl) rfl rfl rfl rfl rfl (fun _ => rfl) (fun _ => rfl), h8.fr (fun _ => rfl) (fun _ => rfl) rfl rfl rfl (fun _ => rfl), h9.fr rfl (fun _ => rfl) rfl (fun _ => rfl)⟩
/-- another state -/
theorem KR.st (h : KR B N w m) (v : Int32) : KR B N (xwi w 8 10 v) (xwi m 0 33 v) := by
  obtain ⟨h1, h2, h3, h4, h5, ⟨-, u2, u3, u4⟩, h7, h8, h9⟩ := h
  exact ⟨h1.fr rfl (fun _ => rfl), h2.fr rfl (fun _ => rfl), h3.fr (fun _ => rfl) (fun _ => rfl), h4.fr (fun _ => rfl) (fun _ => rfl) (fun _ => rfl) (fun _ => rfl) (fun _ => rfl) (fun _ => rfl), h5.fr rfl rfl rfl rfl rfl rfl, ⟨rfl, u2, u3, u4⟩, h7.fr (fun _ => rfl) (fun _ => rfl) (fun _ => rfl) rfl rfl rfl rfl rfl (fun _ => rfl) (fun _ => rfl), h8.fr (fun _ => rfl) (fun _ => rfl) rfl rfl rfl (fun _ => rfl), h9.fr rfl (fun _ => rfl) rfl (fun _ => rfl)⟩
theorem isIn_v (p : Int32) (a b : Int64) (M : xW) : sX12_isIn p.toInt64 a b M = some (bI (decide (a.toInt ≤ p.toInt ∧ p.toInt ≤ b.toInt)), M) := by
  unfold sX12_isIn
  have e1 : p.toInt64 < a ↔ p.toInt < a.toInt := by rw [Int64.lt_iff_toInt_lt, Int32.toInt_toInt64]
  have e2 : b < p.toInt64 ↔ b.toInt < p.toInt := by rw [Int64.lt_iff_toInt_lt, Int32.toInt_toInt64]
  by_cases h1 : p.toInt < a.toInt
  · rw [if_pos (e1.mpr h1), decide_eq_false (by omega)]; rfl
  · rw [if_neg (fun q => h1 (e1.mp q))]
    by_cases h2 : b.toInt < p.toInt
    · rw [if_pos (e2.mpr h2), decide_eq_false (by omega)]; rfl
    · rw [if_neg (fun q => h2 (e2.mp q)), decide_eq_true (by omega)]; rfl
theorem ltI (x y : Int32) : (x < y) = (x.toInt < y.toInt) := propext Int32.lt_iff_toInt_lt
/-- a number in a range is nI of a natural -/
theorem in_n {p : Int32} {n : Nat} (h0 : 0 ≤ p.toInt) (h1 : p.toInt < n) : ∃ j : Nat, j < n ∧ p = nI j ∧ p.toInt = j := by
  refine ⟨p.toInt.toNat, by omega, ?_, by omega⟩
  have h := p.toInt_lt
  apply Int32.toInt_inj.mp
  rw [nI_toInt (by omega)]
  omega
theorem bp_c (hw : ∀ i, xz (w.1 11 i)) {e : Int32} : sX11_hasBreakpoint e w = some (if 4096 ≤ un e ∧ un e < 6144 then w.1 11 (un e - 4096) else 0, w) := by
  have hlt := un_lt e
  unfold sX11_hasBreakpoint
  have ee := un_of e
  generalize un e = u at *
  subst ee
  have zz : ∀ i, (if w.1 11 i = 0 then some ((0 : Int32), w) else some ((1 : Int32), w)) = some (w.1 11 i, w) := by
    intro i
    rcases hw i with h | h
    · rw [h, if_pos rfl]
    · rw [h, if_neg (by decide)]
  by_cases h : 4096 ≤ u ∧ u < 6144
  · have es : nI u - 4096 = nI (u - 4096) := pk_sub (a := u) (b := 4096) h.1
    rw [es, if_neg (nI_pos (by omega)), if_pos (show nI (u - 4096) < (2048 : Int32) from nI_lq (b := 2048) (by omega) (by decide) (by omega)), if_pos (xin_n (by omega) (by decide)), nI_clamp (by omega), if_pos h, zz]
  · rw [if_neg h]
    by_cases h2 : nI u - 4096 < 0
    · rw [if_pos h2]
    · rw [if_neg h2, if_neg]
      intro h3
      obtain ⟨j, j1, j2, j3⟩ := in_n (p := nI u - 4096) (n := 2048) (by rw [ltI, Int32.toInt_zero] at h2; omega) (by rw [ltI] at h3; exact h3)
      have : nI u = nI (j + 4096) := by
        have e2 : nI u - 4096 + 4096 = nI j + nI 4096 := by rw [j2]; rfl
        rw [Int32.sub_add_cancel, nI_add] at e2
        exact e2
      have e3 : un (nI u) = un (nI (j + 4096)) := by rw [this]
      rw [un_nI hlt, un_nI (by omega)] at e3
      omega
theorem l52_n {f : Nat} {a1 a2 a3 : Int32} (h : ¬ w.1 8 10 = 1) (hf : 0 < f) : sX11_run_l52 f a1 a2 a3 w = some (.inl a2, w) := by
  cases f with
  | zero => omega
  | succ f =>
    rw [sX11_run_l52, if_neg h]
    split <;> rfl
theorem l75_n {f : Nat} {a1 a2 a3 : Int32} (h : ¬ m.1 0 33 = 1) (hf : 0 < f) : sX12_run_l75 f a1 a2 a3 m = some (a2, m) := by
  cases f with
  | zero => omega
  | succ f =>
    rw [sX12_run_l75, if_neg h]
    split <;> rfl
theorem run_l {n : Nat} (hn : n ≤ 10000) : ∀ (j d : Nat) (w m : xW), d + j = n → KR B N w m → ∃ (r : Int32) (w' m' : xW), KR B N w' m' ∧ m'.1 0 0 = m.1 0 0 ∧
    (∀ fuel, j + 1 < fuel → sX11_run_l52 fuel (nI n) (nI d) (nI d) w = some (.inl r, w')) ∧ (∀ fuel, j + 1 < fuel → sX12_run_l75 fuel (nI n) (nI d) (if d = 0 then 1 else 0) m = some (r, m')) := by
  intro j
  induction j with
  | zero =>
    intro d w m hdj hK
    refine ⟨nI d, w, m, hK, rfl, ?_, ?_⟩
    · intro fuel hf
      cases fuel with
      | zero => omega
      | succ f => rw [sX11_run_l52, if_neg (nI_nltI (by omega) (by omega) (by omega))]
    · intro fuel hf
      cases fuel with
      | zero => omega
      | succ f => rw [sX12_run_l75, if_neg (nI_nltI (by omega) (by omega) (by omega))]
  | succ j ih =>
    intro d w m hdj hK
    have hu1 := hK.2.2.2.2.2.1.1
    have hu2 := hK.2.2.2.2.2.1.2.1
    by_cases hs : w.1 8 10 = 1
    · have hs2 : m.1 0 33 = 1 := by rw [← hu1]; exact hs
      -- the step at hand
      have hstep : ∃ (r : Int32) (w' m' : xW), KR B N w' m' ∧ m'.1 0 0 = m.1 0 0 ∧ (∀ fuel, j + 1 < fuel → sX11_run_j98 (sX11_run_l52 fuel) (nI n) (nI d) (nI d) w = some (.inl r, w')) ∧ (∀ fuel, j + 1 < fuel → sX12_run_j139 (sX12_run_l75 fuel) (nI n) (nI d) m = some (r, m')) := by
        obtain ⟨r, w2, m2, s1, s2, s3, s4, s5⟩ := step_p hK
        rcases s4 with hr | ⟨hr, hst⟩
        · subst hr
          obtain ⟨r2, w', m', k1, k2, k3, k4⟩ := ih (d + 1) w2 m2 (by omega) s3
          refine ⟨r2, w', m', k1, k2.trans s5, fun fuel hf => ?_, fun fuel hf => ?_⟩
          · unfold sX11_run_j98
            rw [s1, xbd_some, if_neg (by decide), nI_1]
            exact k3 fuel hf
          · unfold sX12_run_j139 sX12_run_j152
            rw [s2, xbd_some, if_neg (by decide), nI_1]
            have := k4 fuel hf
            rw [if_neg (by omega)] at this
            exact this
        · subst hr
          have hst2 : ¬ m2.1 0 33 = 1 := by rw [← s3.2.2.2.2.2.1.1]; exact hst
          refine ⟨nI d, w2, m2, s3, s5, fun fuel hf => ?_, fun fuel hf => ?_⟩
          · unfold sX11_run_j98
            rw [s1, xbd_some, if_pos rfl, l52_n hst (by omega)]
          · unfold sX12_run_j139 sX12_run_j152
            rw [s2, xbd_some, if_pos rfl, Int32.add_zero, l75_n hst2 (by omega)]
      obtain ⟨r, w', m', k1, k2, k3, k4⟩ := hstep
      have hlt : nI d < nI n := nI_lq (by omega) (by omega) (by omega)
      by_cases hd0 : d = 0
      · subst hd0
        refine ⟨r, w', m', k1, k2, ?_, ?_⟩
        · intro fuel hf
          cases fuel with
          | zero => omega
          | succ f =>
            rw [sX11_run_l52, if_pos hlt, if_pos hs, if_neg (by decide)]
            exact k3 f (by omega)
        · intro fuel hf
          cases fuel with
          | zero => omega
          | succ f =>
            rw [sX12_run_l75, if_pos hlt, if_pos hs2]
            dsimp only [xlet]
            rw [if_neg (show ¬ (if 0 = 0 then (1 : Int32) else 0) = 0 from by decide)]
            exact k4 f (by omega)
      · have hpos : (0 : Int32) < nI d := nI_lq (a := 0) (by decide) (by omega) (by omega)
        have hbp := bp_c (w := w) hK.2.2.2.1.2.2.2 (e := w.1 8 11)
        have hult := un_lt (w.1 8 11)
        -- the reference's question
        have hbm : ∀ (X Y : xW → Option (Int32 × xW)), xbd (sX12_isIn (((m.1 0 34).toInt64 &&& 4294967295) - 4096) 0 2047 m) (fun x2 w3 => (if x2 = 0 then X w3 else (if xin (((m.1 0 34).toInt64 &&& 4294967295) - 4096).toInt32 2048 then (if (w3.1 7 ((((m.1 0 34).toInt64 &&& 4294967295) - 4096).toInt32).toNatClampNeg) = 0 then X w3 else Y w3) else none))) = (if (if 4096 ≤ un (w.1 8 11) ∧ un (w.1 8 11) < 6144 then w.1 11 (un (w.1 8 11) - 4096) else 0) = 0 then X m else Y m) := by
          intro X Y
          rw [← hu2, un_l]
          generalize un (w.1 8 11) = u at *
          have e : sX12_isIn (lN u - 4096) 0 2047 m = some (bI (decide (4096 ≤ u ∧ u < 6144)), m) := by
            unfold sX12_isIn
            have tI : (lN u - 4096).toInt = (u : Int) - 4096 := by
              rw [Int64.toInt_sub, pk_lT (by omega), show (4096 : Int64).toInt = 4096 from by decide]
              exact Int.bmod_eq_of_le (by omega) (by omega)
            have e1 : (lN u - 4096 < 0) ↔ u < 4096 := by rw [Int64.lt_iff_toInt_lt, tI, show (0 : Int64).toInt = 0 from by decide]; omega
            have e2 : (2047 < lN u - 4096) ↔ 6144 ≤ u := by rw [Int64.lt_iff_toInt_lt, tI, show (2047 : Int64).toInt = 2047 from by decide]; omega
            by_cases h1 : u < 4096
            · rw [if_pos (e1.mpr h1), decide_eq_false (by omega)]; rfl
            · rw [if_neg (fun q => h1 (e1.mp q))]
              by_cases h2 : 6144 ≤ u
              · rw [if_pos (e2.mpr h2), decide_eq_false (by omega)]; rfl
              · rw [if_neg (fun q => h2 (e2.mp q)), decide_eq_true (by omega)]; rfl
          rw [e, xbd_some]
          by_cases h : 4096 ≤ u ∧ u < 6144
          · have ei : (lN u - 4096).toInt32 = nI (u - 4096) := by
              rw [Int64.toInt32_sub, lN_i, show (4096 : Int64).toInt32 = nI 4096 from by decide, pk_sub h.1]
            rw [decide_eq_true h, show bI true = 1 from rfl, if_neg (by decide), ei, if_pos (xin_n (by omega) (by decide)), nI_clamp (by omega), if_pos h, hK.2.2.2.1.2.2.1]
          · rw [decide_eq_false h, show bI false = 0 from rfl, if_pos rfl, if_neg h, if_pos rfl]
        by_cases hb : (if 4096 ≤ un (w.1 8 11) ∧ un (w.1 8 11) < 6144 then w.1 11 (un (w.1 8 11) - 4096) else 0) = 0
        · refine ⟨r, w', m', k1, k2, ?_, ?_⟩
          · intro fuel hf
            cases fuel with
            | zero => omega
            | succ f =>
              rw [sX11_run_l52, if_pos hlt, if_pos hs, if_pos hpos, hbp, xbd_some, if_pos hb]
              exact k3 f (by omega)
          · intro fuel hf
            cases fuel with
            | zero => omega
            | succ f =>
              rw [sX12_run_l75, if_pos hlt, if_pos hs2]
              dsimp only [xlet]
              rw [if_pos (show (if d = 0 then (1 : Int32) else 0) = 0 from if_neg hd0), ← k4 f (by omega)]
              have := hbm (fun w3 => sX12_run_j139 (sX12_run_l75 f) (nI n) (nI d) w3) (fun w3 => sX12_run_l75 f (nI n) (nI d) 0 (xwi w3 0 33 8))
              rw [if_pos hb] at this
              exact this
        · have hK8 := hK.st 8
          have n1 : ¬ (xwi w 8 10 8).1 8 10 = 1 := by rw [xwi_s]; decide
          have n2 : ¬ (xwi m 0 33 8).1 0 33 = 1 := by rw [xwi_s]; decide
          refine ⟨nI d, xwi w 8 10 8, xwi m 0 33 8, hK8, rfl, ?_, ?_⟩
          · intro fuel hf
            cases fuel with
            | zero => omega
            | succ f =>
              rw [sX11_run_l52, if_pos hlt, if_pos hs, if_pos hpos, hbp, xbd_some, if_neg hb, l52_n n1 (by omega)]
          · intro fuel hf
            cases fuel with
            | zero => omega
            | succ f =>
              rw [sX12_run_l75, if_pos hlt, if_pos hs2]
              dsimp only [xlet]
              rw [if_pos (show (if d = 0 then (1 : Int32) else 0) = 0 from if_neg hd0)]
              have := hbm (fun w3 => sX12_run_j139 (sX12_run_l75 f) (nI n) (nI d) w3) (fun w3 => sX12_run_l75 f (nI n) (nI d) 0 (xwi w3 0 33 8))
              rw [if_neg hb] at this
              exact this.trans (l75_n n2 (by omega))
    · have hs2 : ¬ m.1 0 33 = 1 := by rw [← hu1]; exact hs
      exact ⟨nI d, w, m, hK, rfl, fun fuel hf => l52_n hs (by omega), fun fuel hf => l75_n hs2 (by omega)⟩
end RN
