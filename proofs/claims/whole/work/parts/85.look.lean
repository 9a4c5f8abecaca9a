/-! look: all units, the targets, the end -/
section LK
variable {B : Nat → Int32} {N : Nat}
theorem PA.ar {p : Nat} {w w' : xW} (h : PA B N p w) (f : frC ucC w w') : PA B N p w' := h.fr (f _ _ rfl) (f _ _ rfl) (f _ _ rfl) (f _ _ rfl)
theorem imgC.uc {w w' : xW} (h : imgC w B N) (f : frC ucC w w') : imgC w' B N := h.fr (f _ _ rfl) (fun i => f _ _ rfl)
theorem imgM.uc {m m' : xW} (h : imgM m B N) (f : frC ucM m m') : imgM m' B N := h.fr (f _ _ rfl) (fun i => f _ _ rfl)
theorem units_l (h32 : N % 32 = 0) : ∀ (j p c last : Nat) (w m : xW), N - p ≤ j → p ≤ N → last < N → imgC w B N → imgM m B N → (∀ q, q < 2048 → PA B N q w) → w.1 4 8 = nI c → MK N w m → w.1 4 10 = 0 →
    (∃ (f q : Nat) (w' m' : xW), 0 < f ∧ f < 9 ∧ q < N ∧ (∀ fuel, j + 1 < fuel → sX5_markUnits_l36 fuel (nI last) (nI p) w = some (nI q, w')) ∧ (∀ fuel, j + 1 < fuel → sX12_look_l57 fuel (nI p) (nI c) (nI last) m = some (-1, m')) ∧ w'.1 4 10 = nI f ∧ w'.1 4 11 = nI q ∧ m'.1 0 10 = nI f ∧ m'.1 0 11 = nI q ∧ m'.1 0 9 = 0 ∧ frC ucC w w' ∧ w'.2 = w.2 ∧ frC ucM m m' ∧ m'.2 = m.2) ∨
    (∃ (q c' : Nat) (w' m' : xW), q < N ∧ (∀ fuel, j + 1 < fuel → sX5_markUnits_l36 fuel (nI last) (nI p) w = some (nI q, w')) ∧ (∀ fuel, j + 1 < fuel → sX12_look_l57 fuel (nI p) (nI c) (nI last) m = sX12_look_l198 70000 (nI c') (nI q) (0 : Int32) m') ∧ (w'.1 4 10 = 0 ∧ w'.1 4 11 = w.1 4 11) ∧ w'.1 4 8 = nI c' ∧ MK N w' m' ∧ frC ucC w w' ∧ w'.2 = w.2 ∧ frC ucM m m' ∧ m'.2 = m.2) := by
  intro j
  induction j with
  | zero =>
    intro p c last w m hj hp hl hC hM hA hc hk hmet
    have hN := hC.2.1
    obtain rfl : p = N := by omega
    right
    refine ⟨last, c, w, m, hl, fun fuel hf => ?_, fun fuel hf => ?_, ⟨hmet, rfl⟩, hc, hk, frC.r _ _, rfl, frC.r _ _, rfl⟩
    · cases fuel with
      | zero => omega
      | succ f => rw [sX5_markUnits_l36, hC.1, if_neg (nI_nltI (by omega) (by omega) (by omega))]
    · cases fuel with
      | zero => omega
      | succ f => rw [sX12_look_l57, hM.1, if_neg (nI_nltI (by omega) (by omega) (by omega))]
  | succ j ih =>
    intro p c last w m hj hp hl hC hM hA hc hk hmet
    have hN := hC.2.1
    by_cases hpN : p < N
    · have e1 : ∀ f, sX5_markUnits_l36 (f + 1) (nI last) (nI p) w = xbd (sX5_markUnit (nI p) w) (fun x1 w2 => (sX5_markUnits_l36 f) (nI p) ((nI p) + (xmax (1 : Int32) x1)) w2) := fun f => by
        rw [sX5_markUnits_l36, hC.1, if_pos (nI_lq (by omega) (by omega) hpN), if_pos hmet]
      have e2 : ∀ f, sX12_look_l57 (f + 1) (nI p) (nI c) (nI last) m = uBody (sX12_look_l57 f) (nI p) (nI c) m := fun f => by
        rw [sX12_look_l57, hM.1, if_pos (nI_lq (by omega) (by omega) hpN), if_pos (by decide)]
        rfl
      rcases unit_q (c := c) hpN h32 hM hA hc hk hmet with ⟨f, w', m', f1, f2, f3, f4, f5, f6, f7, f8, f9, g1, g2, g3, g4⟩ | ⟨len, k, w', m', f1, f2, f3, f4, f5, f6, f7, f8, f9, g1, g2, g3, g4⟩
      · left
        refine ⟨f, p, w', m', f1, f2, hpN, fun fuel hf => ?_, fun fuel hf => ?_, f4, f5, f9, g1, g2, f6, f7, g3, g4⟩
        · obtain ⟨fu, rfl⟩ : ∃ fu, fuel = fu + 1 + 1 := ⟨fuel - 2, by omega⟩
          rw [e1, f3, xbd_some, show xmax 1 0 = nI 1 from rfl, nI_add, sX5_markUnits_l36, (hC.uc f6).1, f4]
          have hno : ¬ nI f = 0 := nI_ne (b := 0) (by omega) (by decide) (by omega)
          by_cases q : nI (p + 1) < nI N
          · rw [if_pos q, if_neg hno]
          · rw [if_neg q]
        · obtain ⟨fu, rfl⟩ : ∃ fu, fuel = fu + 1 := ⟨fuel - 1, by omega⟩
          rw [e2]
          exact f8 _
      · have hx : xmax (1 : Int32) (nI len) = nI len := by
          unfold xmax
          by_cases q : (1 : Int32) < nI len
          · rw [if_pos q]
          · rw [if_neg q]
            have : ¬ 1 < len := fun z => q (nI_lq (a := 1) (by decide) (by omega) z)
            rw [show len = 1 from by omega]
            rfl
        have hlen : len ≤ 2048 := by omega
        rcases ih (p + len) (c + k) p w' m' (by omega) f2 hpN (hC.uc f8) (hM.uc g3) (fun q hq => (hA q hq).ar f8) f7 g1 (f6.1.trans hmet) with ⟨f, q, w2, m2, a1, a2, a3, a4, a5, a6, a7, a8, a9, b1, b2, b3, b4, b5⟩ | ⟨q, c', w2, m2, a3, a4, a5, a6, a7, a8, b2, b3, b4, b5⟩
        · left
          refine ⟨f, q, w2, m2, a1, a2, a3, fun fuel hf => ?_, fun fuel hf => ?_, a6, a7, a8, a9, b1, f8.t b2, b3.trans f9, g3.t b4, b5.trans g4⟩
          · obtain ⟨fu, rfl⟩ : ∃ fu, fuel = fu + 1 := ⟨fuel - 1, by omega⟩
            rw [e1, f5, xbd_some, hx, nI_add]
            exact a4 fu (by omega)
          · obtain ⟨fu, rfl⟩ : ∃ fu, fuel = fu + 1 := ⟨fuel - 1, by omega⟩
            rw [e2]
            exact (g2 _).trans (a5 fu (by omega))
        · right
          refine ⟨q, c', w2, m2, a3, fun fuel hf => ?_, fun fuel hf => ?_, ⟨a6.1, a6.2.trans f6.2⟩, a7, a8, f8.t b2, b3.trans f9, g3.t b4, b5.trans g4⟩
          · obtain ⟨fu, rfl⟩ : ∃ fu, fuel = fu + 1 := ⟨fuel - 1, by omega⟩
            rw [e1, f5, xbd_some, hx, nI_add]
            exact a4 fu (by omega)
          · obtain ⟨fu, rfl⟩ : ∃ fu, fuel = fu + 1 := ⟨fuel - 1, by omega⟩
            rw [e2]
            exact (g2 _).trans (a5 fu (by omega))
    · obtain rfl : p = N := by omega
      right
      refine ⟨last, c, w, m, hl, fun fuel hf => ?_, fun fuel hf => ?_, ⟨hmet, rfl⟩, hc, hk, frC.r _ _, rfl, frC.r _ _, rfl⟩
      · cases fuel with
        | zero => omega
        | succ f => rw [sX5_markUnits_l36, hC.1, if_neg (nI_nltI (by omega) (by omega) (by omega))]
      · cases fuel with
        | zero => omega
        | succ f => rw [sX12_look_l57, hM.1, if_neg (nI_nltI (by omega) (by omega) (by omega))]
/-- a mark at an address -/
theorem markAt_v {w : xW} (a : Int32) : sX5_markAt (a - 4096) w = some (if 4096 ≤ un a ∧ un a < 6144 then w.1 16 (un a - 4096) else 0, w) := by
  have hlt := un_lt a
  unfold sX5_markAt
  have ee := un_of a
  generalize un a = u at *
  subst ee
  by_cases h : 4096 ≤ u ∧ u < 6144
  · have es : nI u - 4096 = nI (u - 4096) := pk_sub (a := u) (b := 4096) h.1
    rw [es, if_neg (nI_pos (by omega)), if_pos (show nI (u - 4096) < (2048 : Int32) from nI_lq (b := 2048) (by omega) (by decide) (by omega)), if_pos (xin_n (by omega) (by decide)), nI_clamp (by omega), if_pos h]
  · rw [if_neg h]
    by_cases h2 : nI u - 4096 < 0
    · rw [if_pos h2]
    · rw [if_neg h2, if_neg]
      intro h3
      obtain ⟨j, j1, j2, j3⟩ := in_n (p := nI u - 4096) (n := 2048) (by rw [ltI, ti0] at h2; omega) (by rw [ltI] at h3; exact h3)
      have : nI u = nI (j + 4096) := by
        have e2 : nI u - 4096 + 4096 = nI j + nI 4096 := by rw [j2]; rfl
        rw [Int32.sub_add_cancel, nI_add] at e2
        exact e2
      have e3 : un (nI u) = un (nI (j + 4096)) := by rw [this]
      rw [un_nI hlt, un_nI (by omega)] at e3
      omega
/-- the place is an entry -/
def entB (w : xW) (u : Nat) : Bool := decide (1024 ≤ u ∧ u < 1536 ∧ u % 32 = 0) || ((if 4096 ≤ u ∧ u < 6144 then w.1 16 (u - 4096) else 0) == 1)
theorem entry_c (w : xW) (a : Int32) : sX5_isEntry a w = some (bI (entB w (un a)), w) := by
  unfold sX5_isEntry entB
  rcases gate_c a w with ⟨k, k1, k2, k3⟩ | ⟨k2, k3⟩
  · rw [k3, xbd_some, if_neg (nI_m1n (by omega)), decide_eq_true (by omega)]
    rfl
  · rw [k3, xbd_some, if_pos rfl, markAt_v, xbd_some, decide_eq_false (fun z => k2 ((un a - 1024) / 32) (by omega) (by omega))]
    by_cases h : (if 4096 ≤ un a ∧ un a < 6144 then w.1 16 (un a - 4096) else 0) = 1
    · rw [if_pos h, h]; rfl
    · rw [if_neg h, bq h]; rfl
theorem tg_c {k n : Nat} {t : Nat → Bool} {w : xW} (hk : k < 2048) (h2 : w.1 13 k = trv t) (hmet : w.1 4 10 = 0) (f : Nat) : sX5_checkTargets_l2 (f + 1) (nI k) w = (if (w.1 16 k) = 0 then (sX5_checkTargets_l2 f) (nI (k + 1)) w else (if bI (t 8) = 0 then (sX5_checkTargets_l2 f) (nI (k + 1)) w else (if bI (entB w (un (w.1 15 k))) = 0 then (sX5_checkTargets_l2 f) (nI (k + 1)) (xwi (xwi w 4 10 7) 4 11 (nI k)) else (sX5_checkTargets_l2 f) (nI (k + 1)) w))) := by
  have hx := xin_n (k := k) (n := 2048) (by omega) (by decide)
  have ec : (nI k).toNatClampNeg = k := nI_clamp (by omega)
  have hkl : nI k < (2048 : Int32) := nI_lq (b := 2048) (by omega) (by decide) (by omega)
  have his : sX5_is (nI k) 256 w = some (bI (t 8), w) := by
    unfold sX5_is
    rw [if_neg (nI_pos (by omega)), if_pos hkl, if_pos hx, ec, h2, ← nb (trv_8 t)]
    by_cases e : trv t &&& 256 = 0
    · rw [if_pos e, e]; rfl
    · rw [if_neg e, bq e]; rfl
  rw [sX5_checkTargets_l2, if_pos hkl, if_pos hmet, if_pos hx]
  simp only [ec]
  rw [his, xbd_some, if_pos hx, entry_c, xbd_some, nI_1]
  rfl
theorem tg_hi {m0 w : xW} (hm0 : imgM m0 B N) (hA : ∀ q, q < 2048 → PA B N q w) (hmet : w.1 4 10 = 0) : ∀ (j k : Nat), k + j = 2048 → N ≤ k → ∀ fuel, j < fuel → sX5_checkTargets_l2 fuel (nI k) w = some ((), w) := by
  intro j
  induction j with
  | zero =>
    intro k hk hN fuel hf
    obtain rfl : k = 2048 := by omega
    cases fuel with
    | zero => omega
    | succ f => rw [sX5_checkTargets_l2, if_neg (by decide)]
  | succ j ih =>
    intro k hk hN fuel hf
    obtain ⟨fu, rfl⟩ : ∃ fu, fuel = fu + 1 := ⟨fuel - 1, by omega⟩
    obtain ⟨n, t, h1, h2, h3, h4⟩ := hA k (by omega)
    have hz : t 8 = false := by
      rcases Nat.eq_zero_or_pos n with z | z
      · rw [h4.1 z]
      · obtain ⟨M1, t1, t2, t3⟩ := h4.tk hm0
        have := (t3 z).1
        omega
    rw [tg_c (n := n) (by omega) h2 hmet, hz, if_pos (show bI false = 0 from rfl), ih (k + 1) (by omega) (by omega) fu (by omega)]
    split <;> rfl
def TGP (last c j k : Nat) (w m : xW) : Prop :=
    (∃ (q : Nat) (w' m' : xW), (∀ fuel, j + 1 < fuel → sX5_checkTargets_l2 fuel (nI k) w = some ((), w')) ∧ (∀ fuel, j + 1 < fuel → sX12_look_l198 fuel (nI c) (nI last) (nI k) m = some (-1, m')) ∧ w'.1 4 10 = nI 7 ∧ w'.1 4 11 = nI q ∧ m'.1 0 10 = nI 7 ∧ m'.1 0 11 = nI q ∧ m'.1 0 9 = 0 ∧ frC ucC w w' ∧ w'.2 = w.2 ∧ frC ucM m m' ∧ m'.2 = m.2) ∨
    (∃ (m' : xW), (∀ fuel, j + 1 < fuel → sX5_checkTargets_l2 fuel (nI k) w = some ((), w)) ∧ (∀ fuel, j + 1 < fuel → sX12_look_l198 fuel (nI c) (nI last) (nI k) m = sX12_look_l329 70000 (nI c) (nI last) (nI last) (nI last + (1 : Int32)) m') ∧ SM m m')
theorem targets_l {m0 : xW} (hm0 : imgM m0 B N) {last c : Nat} : ∀ (j k : Nat) (w m : xW), k + j = 2048 → imgC w B N → imgM m B N → (∀ q, q < 2048 → PA B N q w) → MK N w m → w.1 4 10 = 0 →
    TGP last c j k w m := by
  intro j
  induction j with
  | zero =>
    intro k w m hk hC hM hA hmk hmet
    unfold TGP
    have hN := hC.2.1
    obtain rfl : k = 2048 := by omega
    right
    refine ⟨m, fun fuel hf => ?_, fun fuel hf => ?_, SM.r m⟩
    · cases fuel with
      | zero => omega
      | succ f => rw [sX5_checkTargets_l2, if_neg (by decide)]
    · cases fuel with
      | zero => omega
      | succ f => rw [sX12_look_l198, hM.1, if_neg (nI_nltI (by decide) (by omega) (by omega))]
  | succ j ih =>
    intro k w m hk hC hM hA hmk hmet
    unfold TGP
    have hN := hC.2.1
    have hx := xin_n (k := k) (n := 2048) (by omega) (by decide)
    have ec : (nI k).toNatClampNeg = k := nI_clamp (by omega)
    have hkl : nI k < (2048 : Int32) := nI_lq (b := 2048) (by omega) (by decide) (by omega)
    obtain ⟨n, t, h1, h2, h3, h4⟩ := hA k (by omega)
    -- the class's step
    have eC := tg_c (n := n) (t := t) (w := w) (k := k) (by omega) h2 hmet
    have stop : ∀ (f : Nat) (W : xW), 0 < f → W.1 4 10 = 7 → sX5_checkTargets_l2 f (nI (k + 1)) W = some ((), W) := by
      intro f W hf hW
      cases f with
      | zero => omega
      | succ f =>
        rw [sX5_checkTargets_l2, hW, if_neg (show ¬ (7 : Int32) = 0 from by decide)]
        split <;> rfl
    obtain ⟨e1, e2, e3⟩ := hmk k (by omega)
    have hpos : (0 < m.1 5 k) ↔ ¬ w.1 16 k = 0 := by
      rw [← e1]
      rcases e2 with q | q | q <;> (rw [q]; decide)
    by_cases hkN : k < N
    · have eM : ∀ f, sX12_look_l198 (f + 1) (nI c) (nI last) (nI k) m = (if 0 < (m.1 5 k) then xbd (sX12_take (nI k) m) (fun x1 w2 => (if x1 = 0 then (sX12_look_l198 f) (nI c) (nI last) (nI (k + 1)) w2 else (if (w2.1 0 18) = (8 : Int32) then xlet (((w2.1 0 29).toInt64 &&& (4294967295 : Int64)) - (4096 : Int64)) (fun x3 => xbd (sX12_isGate ((w2.1 0 29).toInt64 &&& (4294967295 : Int64)) w2) (fun x4 w5 => (if x4 = 0 then xbd (sX12_isIn x3 (0 : Int64) ((w5.1 0 2).toInt64 - (1 : Int64)) w5) (fun x6 w7 => (if x6 = 0 then sX12_look_j298 (sX12_look_l198 f) (nI c) (nI last) (nI k) w7 else (if xin x3.toInt32 2048 then (if (w7.1 5 x3.toInt32.toNatClampNeg) = (1 : Int32) then sX12_look_j294 (sX12_look_l198 f) (nI c) (nI last) (nI k) w7 else sX12_look_j298 (sX12_look_l198 f) (nI c) (nI last) (nI k) w7) else none))) else sX12_look_j294 (sX12_look_l198 f) (nI c) (nI last) (nI k) w5))) else (sX12_look_l198 f) (nI c) (nI last) (nI (k + 1)) w2))) else (sX12_look_l198 f) (nI c) (nI last) (nI (k + 1)) m) := by
        intro f
        rw [sX12_look_l198, hM.1, if_pos (nI_lq (by omega) (by omega) hkN), if_pos hx]
        simp only [ec]
        rw [nI_1]
      by_cases hmz : w.1 16 k = 0
      · -- no instruction begins here
        rcases ih (k + 1) w m (by omega) hC hM hA hmk hmet with ⟨q, w', m', a1, a2, a3⟩ | ⟨m', a1, a2, a3⟩
        · left
          refine ⟨q, w', m', fun fuel hf => ?_, fun fuel hf => ?_, a3⟩
          · obtain ⟨fu, rfl⟩ : ∃ fu, fuel = fu + 1 := ⟨fuel - 1, by omega⟩
            rw [eC, if_pos hmz]
            exact a1 fu (by omega)
          · obtain ⟨fu, rfl⟩ : ∃ fu, fuel = fu + 1 := ⟨fuel - 1, by omega⟩
            rw [eM, if_neg (fun z => (hpos.mp z) hmz)]
            exact a2 fu (by omega)
        · right
          refine ⟨m', fun fuel hf => ?_, fun fuel hf => ?_, a3⟩
          · obtain ⟨fu, rfl⟩ : ∃ fu, fuel = fu + 1 := ⟨fuel - 1, by omega⟩
            rw [eC, if_pos hmz]
            exact a1 fu (by omega)
          · obtain ⟨fu, rfl⟩ : ∃ fu, fuel = fu + 1 := ⟨fuel - 1, by omega⟩
            rw [eM, if_neg (fun z => (hpos.mp z) hmz)]
            exact a2 fu (by omega)
      · obtain ⟨M1, t1, t2, t3⟩ := h4.tk hM
        have hM1 := t2.img hM
        have hmk1 := hmk.sm t2
        -- on from here, both alike
        have on : (∀ f, sX5_checkTargets_l2 (f + 1) (nI k) w = sX5_checkTargets_l2 f (nI (k + 1)) w) → (∀ f, sX12_look_l198 (f + 1) (nI c) (nI last) (nI k) m = sX12_look_l198 f (nI c) (nI last) (nI (k + 1)) M1) → TGP last c (j + 1) k w m := fun z1 z2 => by
          rcases ih (k + 1) w M1 (by omega) hC hM1 hA hmk1 hmet with ⟨q, w', m', a1, a2, a3, a4, a5, a6, a7, a8, a9, a10, a11⟩ | ⟨m', a1, a2, a3⟩
          · exact Or.inl ⟨q, w', m', fun fuel hf => by
              obtain ⟨fu, rfl⟩ : ∃ fu, fuel = fu + 1 := ⟨fuel - 1, by omega⟩
              rw [z1]
              exact a1 fu (by omega), fun fuel hf => by
              obtain ⟨fu, rfl⟩ : ∃ fu, fuel = fu + 1 := ⟨fuel - 1, by omega⟩
              rw [z2]
              exact a2 fu (by omega), a3, a4, a5, a6, a7, a8, a9, t2.fr.t a10, a11.trans t2.2⟩
          · exact Or.inr ⟨m', fun fuel hf => by
              obtain ⟨fu, rfl⟩ : ∃ fu, fuel = fu + 1 := ⟨fuel - 1, by omega⟩
              rw [z1]
              exact a1 fu (by omega), fun fuel hf => by
              obtain ⟨fu, rfl⟩ : ∃ fu, fuel = fu + 1 := ⟨fuel - 1, by omega⟩
              rw [z2]
              exact a2 fu (by omega), t2.t a3⟩
        rcases Nat.eq_zero_or_pos n with z | z
        · refine on (fun f => ?_) (fun f => ?_)
          · rw [eC, if_neg hmz, h4.1 z, if_pos (show bI false = 0 from rfl)]
          · rw [eM, if_pos (hpos.mpr hmz), t1, xbd_some, if_pos (show (if n = 0 then (0 : Int32) else 1) = 0 from if_pos z)]
        · obtain ⟨-, f1⟩ := t3 z
          rcases f1.eight with ⟨y1, y2, y3⟩ | ⟨y1, y2⟩
          · -- it goes somewhere
            have hent : ∀ (X Y : xW → Option (Int32 × xW)), (xlet (((M1.1 0 29).toInt64 &&& (4294967295 : Int64)) - (4096 : Int64)) (fun x3 => xbd (sX12_isGate ((M1.1 0 29).toInt64 &&& (4294967295 : Int64)) M1) (fun x4 w5 => (if x4 = 0 then xbd (sX12_isIn x3 (0 : Int64) ((w5.1 0 2).toInt64 - (1 : Int64)) w5) (fun x6 w7 => (if x6 = 0 then X w7 else (if xin x3.toInt32 2048 then (if (w7.1 5 x3.toInt32.toNatClampNeg) = (1 : Int32) then Y w7 else X w7) else none))) else Y w5)))) = (if bI (entB w (un (w.1 15 k))) = 0 then X M1 else Y M1) := by
              intro X Y
              dsimp only [xlet]
              rw [y3, un_l]
              have hul := un_lt (w.1 15 k)
              generalize un (w.1 15 k) = u at *
              rw [gate_m hul, xbd_some, hM1.1]
              unfold entB
              by_cases hg : 1024 ≤ u ∧ u < 1536 ∧ u % 32 = 0
              · rw [decide_eq_true hg, if_neg (show ¬ bI true = 0 from by decide), Bool.true_or, if_neg (show ¬ bI true = 0 from by decide)]
              · rw [decide_eq_false hg, if_pos (show bI false = 0 from rfl), Bool.false_or]
                have tI : (lN u - 4096).toInt = (u : Int) - 4096 := by
                  rw [Int64.toInt_sub, pk_lT (by omega), show (4096 : Int64).toInt = 4096 from by decide]
                  exact Int.bmod_eq_of_le (by omega) (by omega)
                rw [isIn_L, xbd_some, tI, tI0, cnt_t (by omega)]
                by_cases hu : 4096 ≤ u ∧ u < 4096 + N
                · rw [decide_eq_true (by omega), if_neg (show ¬ bI true = 0 from by decide)]
                  have ei : (lN u - 4096).toInt32 = nI (u - 4096) := by
                    rw [Int64.toInt32_sub, lN_i, show (4096 : Int64).toInt32 = nI 4096 from by decide, pk_sub hu.1]
                  rw [ei, if_pos (xin_n (by omega) (by decide)), nI_clamp (by omega), if_pos (show 4096 ≤ u ∧ u < 6144 from by omega), ← (hmk1 (u - 4096) (by omega)).1]
                  by_cases h1' : w.1 16 (u - 4096) = 1
                  · rw [if_pos h1', h1', if_neg (by decide)]
                  · rw [if_neg h1', bq h1', if_pos (show bI false = 0 from rfl)]
                · rw [decide_eq_false (by omega), if_pos (show bI false = 0 from rfl)]
                  by_cases h6 : 4096 ≤ u ∧ u < 6144
                  · rw [if_pos h6, (hmk1 (u - 4096) (by omega)).2.2 (by omega), if_pos (by decide)]
                  · rw [if_neg h6, if_pos (by decide)]
            by_cases hE : entB w (un (w.1 15 k)) = true
            · refine on (fun f => ?_) (fun f => ?_)
              · rw [eC, if_neg hmz, y1, if_neg (show ¬ bI true = 0 from by decide), hE, if_neg (show ¬ bI true = 0 from by decide)]
              · rw [eM, if_pos (hpos.mpr hmz), t1, xbd_some, ok1 z, if_neg n10, if_pos y2, hent, hE, if_neg (show ¬ bI true = 0 from by decide)]
                unfold sX12_look_j294 sX12_look_j299
                rw [if_neg n10, nI_1]
            · have hEf : entB w (un (w.1 15 k)) = false := by cases h : entB w (un (w.1 15 k)); rfl; exact absurd h hE
              left
              refine ⟨k, xwi (xwi w 4 10 7) 4 11 (nI k), xwi (xwi (xwi M1 0 10 7) 0 11 (nI k)) 0 9 0, fun fuel hf => ?_, fun fuel hf => ?_, rfl, rfl, rfl, rfl, rfl, ((frC.r _ _).wi rfl).wi rfl, rfl, ((t2.fr.wi rfl).wi rfl).wi rfl, t2.2⟩
              · obtain ⟨fu, rfl⟩ : ∃ fu, fuel = fu + 1 := ⟨fuel - 1, by omega⟩
                rw [eC, if_neg hmz, y1, if_neg (show ¬ bI true = 0 from by decide), hEf, if_pos (show bI false = 0 from rfl)]
                exact stop fu _ (by omega) rfl
              · obtain ⟨fu, rfl⟩ : ∃ fu, fuel = fu + 1 := ⟨fuel - 1, by omega⟩
                rw [eM, if_pos (hpos.mpr hmz), t1, xbd_some, ok1 z, if_neg n10, if_pos y2, hent, hEf, if_pos (show bI false = 0 from rfl)]
                unfold sX12_look_j298 sX12_look_j299 sX12_bad
                rw [if_pos rfl, xbd_some]
          · refine on (fun f => ?_) (fun f => ?_)
            · rw [eC, if_neg hmz, y1, if_pos (show bI false = 0 from rfl)]
            · rw [eM, if_pos (hpos.mpr hmz), t1, xbd_some, ok1 z, if_neg n10, if_neg y2]
    · -- behind the image
      right
      refine ⟨m, fun fuel hf => tg_hi hm0 hA hmet (j + 1) k hk (by omega) fuel (by omega), fun fuel hf => ?_, SM.r m⟩
      obtain ⟨fu, rfl⟩ : ∃ fu, fuel = fu + 1 := ⟨fuel - 1, by omega⟩
      rw [sX12_look_l198, hM.1, if_neg (nI_nltI (by omega) (by omega) (by omega))]
end LK
