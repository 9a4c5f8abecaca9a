/-! the relation of the two worlds between calls -/
def KG (w m : xW) : Prop := (∀ i, w.1 20 i = m.1 9 i) ∧ (∀ i, w.1 21 i = m.1 6 i) ∧ (∀ i, w.1 11 i = m.1 7 i) ∧ ∀ i, xz (w.1 11 i)
def KF (w m : xW) : Prop := ∃ c p z s o : Bool, w.1 9 0 = fb c p z s o ∧ m.1 0 36 = bI c ∧ m.1 0 37 = bI p ∧ m.1 0 38 = bI z ∧ m.1 0 39 = bI s ∧ m.1 0 40 = bI o
def KU (w m : xW) : Prop := w.1 8 10 = m.1 0 33 ∧ w.1 8 11 = m.1 0 34 ∧ w.1 8 12 = m.1 0 41 ∧ w.2 8 13 = m.2 0 44
def KH (w m : xW) : Prop := ∃ h t r : Nat, h < 256 ∧ t ≤ 256 ∧ r ≤ 1024 ∧ (w.1 7 3 = nI h ∧ m.1 0 5 = nI h) ∧ (w.1 7 5 = nI t ∧ m.1 0 6 = nI t) ∧ (w.1 7 4 = nI r ∧ m.1 0 8 = nI r) ∧ (w.1 7 6 = m.1 0 42 ∧ w.1 7 7 = m.1 0 43) ∧ (∀ i, i < 256 → w.1 19 i &&& 255 = m.1 3 i) ∧ ∀ i, i < r → w.1 18 i &&& 255 = m.1 4 i
def KI (w m : xW) : Prop := (w.1 4 9 = 0 ∨ w.1 4 9 = 1) ∧ w.1 4 9 = m.1 0 9 ∧ w.1 4 10 = m.1 0 10 ∧ (∃ f : Nat, f < 9 ∧ m.1 0 10 = nI f) ∧ w.1 4 11 = (if m.1 0 10 = 0 then -1 else m.1 0 11) ∧ (w.1 4 9 = 1 → ∀ i, i < 2048 → w.1 16 i = m.1 5 i)
def KT (w m : xW) : Prop := ∃ n : Nat, n ≤ 80 ∧ w.1 41 0 = nI n ∧ m.1 0 16 = nI n ∧ ∀ j, j < n → w.1 40 j = m.1 8 j ∧ ∃ c : Nat, c < 256 ∧ w.1 40 j = nI c
def KR (B : Nat → Int32) (N : Nat) (w m : xW) : Prop := imgC w B N ∧ imgM m B N ∧ dataP w m ∧ KG w m ∧ KF w m ∧ KU w m ∧ KH w m ∧ KI w m ∧ KT w m
/-- only those cells changed -/
def frC (P : Nat → Nat → Bool) (w w' : xW) : Prop := ∀ k i, P k i = false → w'.1 k i = w.1 k i
theorem frC.r (P : Nat → Nat → Bool) (w : xW) : frC P w w := fun _ _ _ => rfl
theorem frC.t {P : Nat → Nat → Bool} {a b c : xW} (h : frC P a b) (g : frC P b c) : frC P a c := fun k i q => (g k i q).trans (h k i q)
theorem frC.wi {P : Nat → Nat → Bool} {a b : xW} {k i : Nat} {v : Int32} (h : frC P a b) (hp : P k i = true) : frC P a (xwi b k i v) := fun x y q => by
  rw [xwi_o (fun z => by rw [z.1, z.2, hp] at q; exact absurd q (by decide))]
  exact h x y q
theorem frC.wl {P : Nat → Nat → Bool} {a b : xW} {k i : Nat} {v : Int64} (h : frC P a b) : frC P a (xwl b k i v) := fun x y q => h x y q
theorem frC.wC {P : Nat → Nat → Bool} {a b : xW} {k : Nat} (h : frC P a b) (hp : ∀ i, P k i = true) {i : Nat} {v : Int32} : frC P a (xwi b k i v) := h.wi (hp i)
theorem imgC.fr {w w' : xW} {B : Nat → Int32} {N : Nat} (h : imgC w B N) (h1 : w'.1 1 1 = w.1 1 1) (h2 : ∀ i, w'.1 10 i = w.1 10 i) : imgC w' B N :=
  ⟨h1.trans h.1, h.2.1, fun i hi => by rw [h2]; exact h.2.2.1 i hi, h.2.2.2⟩
theorem imgM.fr {m m' : xW} {B : Nat → Int32} {N : Nat} (h : imgM m B N) (h1 : m'.1 0 2 = m.1 0 2) (h2 : ∀ i, m'.1 1 i = m.1 1 i) : imgM m' B N :=
  ⟨h1.trans h.1, h.2.1, fun i hi => by rw [h2]; exact h.2.2.1 i hi, h.2.2.2⟩
theorem dataP.fr {w w' m m' : xW} (h : dataP w m) (h1 : ∀ i, w'.1 17 i = w.1 17 i) (h2 : ∀ i, m'.1 2 i = m.1 2 i) : dataP w' m' := fun i hi => by rw [h1, h2]; exact h i hi
theorem KH.fr {w w' m m' : xW} (h : KH w m) (h1 : ∀ i, w'.1 7 i = w.1 7 i) (h2 : ∀ i, w'.1 18 i = w.1 18 i) (h3 : ∀ i, w'.1 19 i = w.1 19 i) (g1 : m'.1 0 5 = m.1 0 5) (g2 : m'.1 0 6 = m.1 0 6) (g3 : m'.1 0 8 = m.1 0 8) (g4 : m'.1 0 42 = m.1 0 42) (g5 : m'.1 0 43 = m.1 0 43) (g6 : ∀ i, m'.1 3 i = m.1 3 i) (g7 : ∀ i, m'.1 4 i = m.1 4 i) : KH w' m' := by
  obtain ⟨a, b, c, h⟩ := h
  refine ⟨a, b, c, ?_⟩
  simp only [h1, h2, h3, g1, g2, g3, g4, g5, g6, g7]
  exact h
theorem KI.fr {w w' m m' : xW} (h : KI w m) (h1 : ∀ i, w'.1 4 i = w.1 4 i) (h2 : ∀ i, w'.1 16 i = w.1 16 i) (g1 : m'.1 0 9 = m.1 0 9) (g2 : m'.1 0 10 = m.1 0 10) (g3 : m'.1 0 11 = m.1 0 11) (g4 : ∀ i, m'.1 5 i = m.1 5 i) : KI w' m' := by
  unfold KI
  simp only [h1, h2, g1, g2, g3, g4]
  exact h
theorem KT.fr {w w' m m' : xW} (h : KT w m) (h1 : w'.1 41 0 = w.1 41 0) (h2 : ∀ i, w'.1 40 i = w.1 40 i) (g1 : m'.1 0 16 = m.1 0 16) (g2 : ∀ i, m'.1 8 i = m.1 8 i) : KT w' m' := by
  obtain ⟨n, h⟩ := h
  refine ⟨n, ?_⟩
  simp only [h1, h2, g1, g2]
  exact h
theorem KG.fr {w w' m m' : xW} (h : KG w m) (h1 : ∀ i, w'.1 20 i = w.1 20 i) (h2 : ∀ i, w'.1 21 i = w.1 21 i) (h3 : ∀ i, w'.1 11 i = w.1 11 i) (g1 : ∀ i, m'.1 9 i = m.1 9 i) (g2 : ∀ i, m'.1 6 i = m.1 6 i) (g3 : ∀ i, m'.1 7 i = m.1 7 i) : KG w' m' := by
  unfold KG
  simp only [h1, h2, h3, g1, g2, g3]
  exact h
theorem KF.fr {w w' m m' : xW} (h : KF w m) (h1 : w'.1 9 0 = w.1 9 0) (g1 : m'.1 0 36 = m.1 0 36) (g2 : m'.1 0 37 = m.1 0 37) (g3 : m'.1 0 38 = m.1 0 38) (g4 : m'.1 0 39 = m.1 0 39) (g5 : m'.1 0 40 = m.1 0 40) : KF w' m' := by
  unfold KF
  simp only [h1, g1, g2, g3, g4, g5]
  exact h
/-- the cells that a step may change -/
def stC_ (k i : Nat) : Bool := k == 2 || k == 3 || k == 6 || k == 8 || k == 9 || k == 17 || k == 20 || k == 21 || k == 22
def stM_ (k i : Nat) : Bool := k == 2 || k == 6 || k == 9 || k == 10 || (k == 0 && (17 ≤ i && !(i == 41) && !(i == 42) && !(i == 43)))
/-- what a step of an instruction leaves alone -/
theorem KR.step {B : Nat → Int32} {N : Nat} {w w' m m' : xW} (h : KR B N w m) (hc : frC stC_ w w') (hm : frC stM_ m m') (hD : dataP w' m') (hG : (∀ i, w'.1 20 i = m'.1 9 i) ∧ (∀ i, w'.1 21 i = m'.1 6 i)) (hF : KF w' m') (hU : w'.1 8 10 = m'.1 0 33 ∧ w'.1 8 11 = m'.1 0 34 ∧ w'.1 8 12 = m'.1 0 41 ∧ w'.2 8 13 = m'.2 0 44) : KR B N w' m' := by
  obtain ⟨h1, h2, h3, h4, h5, h6, h7, h8, h9⟩ := h
  refine ⟨h1.fr (hc 1 1 rfl) (fun i => hc 10 i rfl), h2.fr (hm 0 2 rfl) (fun i => hm 1 i rfl), hD, ⟨hG.1, hG.2, fun i => ?_, fun i => ?_⟩, hF, hU, ?_, ?_, ?_⟩
  · rw [hc 11 i rfl, hm 7 i rfl]; exact h4.2.2.1 i
  · rw [hc 11 i rfl]; exact h4.2.2.2 i
  · exact h7.fr (fun i => hc 7 i rfl) (fun i => hc 18 i rfl) (fun i => hc 19 i rfl) (hm 0 5 rfl) (hm 0 6 rfl) (hm 0 8 rfl) (hm 0 42 rfl) (hm 0 43 rfl) (fun i => hm 3 i rfl) (fun i => hm 4 i rfl)
  · exact h8.fr (fun i => hc 4 i rfl) (fun i => hc 16 i rfl) (hm 0 9 rfl) (hm 0 10 rfl) (hm 0 11 rfl) (fun i => hm 5 i rfl)
  · exact h9.fr (hc 41 0 rfl) (fun i => hc 40 i rfl) (hm 0 16 rfl) (fun i => hm 8 i rfl)
/-! gates -/
theorem gate_nat (u : Nat) (hu : u < 2 ^ 32) (W : xW) : (∃ k : Nat, k < 16 ∧ u = 1024 + 32 * k ∧ sX11_gateAt (nI u) W = some (nI k, W)) ∨ ((∀ k, k < 16 → u ≠ 1024 + 32 * k) ∧ sX11_gateAt (nI u) W = some (-1, W)) := by
  have j30 : ∀ x, sX11_gateAt_j30 x 0 W = some (-1, W) := fun x => if_pos rfl
  have j29 : ∀ x, sX11_gateAt_j29 x W = some (-1, W) := fun x => j30 x
  unfold sX11_gateAt
  dsimp only [xlet]
  have e31 : nI u &&& 31 = nI (u % 32) := pk_andN hu 5 (by decide)
  by_cases h1 : 1024 ≤ u ∧ u < 2 ^ 31
  · have es : nI u - 1024 = nI (u - 1024) := pk_sub (a := u) (b := 1024) h1.1
    have es2 : nI (u - 1024) >>> ((5 : Int32) &&& 31) = nI ((u - 1024) / 32) := pk_shrN (by omega) _ 5 (by decide)
    rw [es, es2, if_neg (nI_pos (by omega)), e31]
    by_cases h2 : (u - 1024) / 32 < 16
    · rw [if_pos (show nI ((u - 1024) / 32) < (16 : Int32) from (nI_ltI2 (b := 16) (by omega) (by decide)).mpr h2)]
      by_cases h3 : u % 32 = 0
      · rw [h3, if_pos (show nI 0 = (0 : Int32) from rfl)]
        refine Or.inl ⟨(u - 1024) / 32, h2, by omega, ?_⟩
        unfold sX11_gateAt_j30
        rw [if_neg (by decide)]
      · rw [if_neg (show ¬ nI (u % 32) = (0 : Int32) from fun q => h3 ((nI_eq (b := 0) (by omega) (by decide)).mp q)), j29]
        exact Or.inr ⟨fun k hk q => by omega, rfl⟩
    · rw [if_neg (show ¬ nI ((u - 1024) / 32) < (16 : Int32) from fun q => h2 ((nI_ltI2 (b := 16) (by omega) (by decide)).mp q)), j29]
      exact Or.inr ⟨fun k hk q => by omega, rfl⟩
  · refine Or.inr ⟨fun k hk q => by omega, ?_⟩
    -- the shifted difference is below 0 or at least 16
    have key : (nI u - 1024) >>> ((5 : Int32) &&& 31) < 0 ∨ ¬ (nI u - 1024) >>> ((5 : Int32) &&& 31) < 16 := by
      have e5 : ((nI u - 1024) >>> ((5 : Int32) &&& 31)).toInt = (nI u - 1024).toInt >>> 5 := pk_shr (nI u - 1024) _ 5 (by decide)
      rw [Int32.lt_iff_toInt_lt, Int32.lt_iff_toInt_lt, e5, Int32.toInt_zero, show (16 : Int32).toInt = 16 from by decide, Int.shiftRight_eq_div_pow]
      have hd : (nI u - 1024).toInt = ((u : Int) - 1024).bmod (2 ^ 32) := by
        rw [Int32.toInt_sub, show (1024 : Int32).toInt = 1024 from by decide]
        show ((Int32.ofNat u).toInt - 1024).bmod (2 ^ 32) = _
        rw [Int32.toInt_ofNat']
        rw [show Int32.size = 2 ^ 32 from rfl, Int.bmod_sub_bmod]
      rw [hd, Int.bmod_def]
      omega
    rcases key with q | q
    · rw [if_pos q, j29]
    · by_cases q2 : (nI u - 1024) >>> ((5 : Int32) &&& 31) < 0
      · rw [if_pos q2, j29]
      · rw [if_neg q2, if_neg q, j29]
theorem gate_c (a : Int32) (W : xW) : (∃ k : Nat, k < 16 ∧ un a = 1024 + 32 * k ∧ sX11_gateAt a W = some (nI k, W)) ∨ ((∀ k, k < 16 → un a ≠ 1024 + 32 * k) ∧ sX11_gateAt a W = some (-1, W)) := by
  have := gate_nat (un a) (un_lt a) W
  rw [← un_of] at this
  exact this
theorem gate_m {u : Nat} (hu : u < 2 ^ 32) (M : xW) : sX12_isGate (lN u) M = some (bI (decide (1024 ≤ u ∧ u < 1536 ∧ u % 32 = 0)), M) := by
  unfold sX12_isGate
  have er : lN u - lN u / 32 * 32 = lN (u % 32) := pk_lRem (by omega) (by decide) (by decide)
  by_cases h1 : u < 1024
  · rw [if_pos (show lN u < (1024 : Int64) from (pk_lLT (b := 1024) (by omega) (by decide)).mpr h1), decide_eq_false (by omega)]; rfl
  · rw [if_neg (show ¬ lN u < (1024 : Int64) from fun q => h1 ((pk_lLT (b := 1024) (by omega) (by decide)).mp q))]
    by_cases h2 : u < 1536
    · rw [if_pos (show lN u < (1536 : Int64) from (pk_lLT (b := 1536) (by omega) (by decide)).mpr h2)]
      rw [if_pos (show ¬ (32 : Int64) = 0 from by decide), er]
      by_cases h3 : u % 32 = 0
      · rw [h3, if_pos (show lN 0 = (0 : Int64) from rfl), decide_eq_true (by omega)]; rfl
      · rw [if_neg (show ¬ lN (u % 32) = (0 : Int64) from fun q => h3 ((pk_lEQ (b := 0) (by omega) (by decide)).mp q)), decide_eq_false (by omega)]; rfl
    · rw [if_neg (show ¬ lN u < (1536 : Int64) from fun q => h2 ((pk_lLT (b := 1536) (by omega) (by decide)).mp q)), decide_eq_false (by omega)]; rfl
