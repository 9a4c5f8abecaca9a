/-! look: unit by unit -/
section U3
variable {B : Nat → Int32} {N : Nat}
/-- the reference's look at one place, up to what longer says -/
theorem body_v {p n n2 n3 : Nat} {t t2 t3 : Nat → Bool} {r r2 r3 g g2 g3 : Int32} {m : xW} (hm : imgM m B N) (h1 : PL B N p n t r g) (k1 : n < 16) (h2 : PL B N (p + n) n2 t2 r2 g2) (k2 : n2 < 16) (h3 : PL B N (p + n + 6) n3 t3 r3 g3) (k3 : n3 < 16) (hp : p < 2048) (c : Nat) :
    ∃ M1, SM m M1 ∧ ∀ K57, uBody K57 (nI p) (nI c) m = sX12_look_j106 K57 (nI p) (nI c) (nI ((p / 32 + 1) * 32)) (if n = 0 ∨ (p / 32 + 1) * 32 < p + n then -1 else if t 4 = true ∧ ¬ r = 4 then (if t2 5 = true ∧ r2 = r ∧ p + n + n2 ≤ (p / 32 + 1) * 32 then nI (p + n + n2) else -1) else
      if t 6 = true ∧ ¬ r = 4 then (if (t2 7 = true ∧ r2 = r) ∧ (t3 1 = true ∧ (t3 2 && r3 == r) = true ∧ t3 0 = false) ∧ p + n + 6 + n3 ≤ (p / 32 + 1) * 32 then nI (p + n + 6 + n3) else -1) else
      if t 0 = true ∧ t 1 = false then (if (t2 6 = true ∧ r2 = 4) ∧ (t3 7 = true ∧ r3 = 4) ∧ p + n + 12 ≤ (p / 32 + 1) * 32 then nI (p + n + 12) else -1) else -1) M1 := by
  obtain ⟨M1, a1, a2, a3⟩ := h1.tk hm
  have hE : (p / 32 + 1) * 32 ≤ 2048 := by omega
  generalize hEE : (p / 32 + 1) * 32 = E at *
  rcases Nat.eq_zero_or_pos n with e | e
  · refine ⟨M1, a2, fun K57 => ?_⟩
    unfold uBody sX12_look_j105
    rw [E_v p hp, hEE]
    dsimp only [xlet]
    rw [a1, xbd_some, if_pos (show (if n = 0 then (0 : Int32) else 1) = 0 from if_pos e), if_pos (Or.inl e)]
  · obtain ⟨-, f1⟩ := a3 e
    by_cases q : E < p + n
    · refine ⟨M1, a2, fun K57 => ?_⟩
      unfold uBody sX12_look_j105
      rw [E_v p hp, hEE]
      dsimp only [xlet]
      rw [a1, xbd_some, ok1 e, if_neg n10, f1.1, nI_add, if_pos (nI_lq (by omega) (by omega) q), if_pos (Or.inr q)]
    · obtain ⟨M2, b1, b2⟩ := long_v (E := E) (a2.img hm) h1 e k1 h2 k2 h3 k3 hp hE
      refine ⟨M2, a2.t b1, fun K57 => ?_⟩
      unfold uBody
      rw [E_v p hp, hEE]
      dsimp only [xlet]
      rw [a1, xbd_some, ok1 e, if_neg n10, f1.1, nI_add, if_neg (nI_nltI (by omega) (by omega) (by omega)), b2, xbd_some, if_neg (show ¬ (n = 0 ∨ E < p + n) from by omega)]
theorem nI_m1n {e : Nat} (he : e < 2 ^ 31) : ¬ nI e = -1 := by
  intro y
  have := congrArg Int32.toInt y
  rw [nI_toInt he, show (-1 : Int32).toInt = -1 from by decide] at this
  omega
theorem unit_q {p c : Nat} {w m : xW} (hp : p < N) (h32 : N % 32 = 0) (hm : imgM m B N) (hA : ∀ q, q < 2048 → PA B N q w) (hc : w.1 4 8 = nI c) (hk : MK N w m) (hmet : w.1 4 10 = 0) :
    UBAD p w m (sX5_markUnit (nI p) w) (fun K57 => uBody K57 (nI p) (nI c) m) ∨ UOK N p c w m (sX5_markUnit (nI p) w) (fun K57 => uBody K57 (nI p) (nI c) m) := by
  have hN := hm.2.1
  obtain ⟨n, t, r, g, k1, h1, q1⟩ := GA_of hm hA (q := p) (by omega)
  obtain ⟨n2, t2, r2, g2, k2, h2, q2⟩ := GA_of hm hA (q := p + n) (by omega)
  obtain ⟨n3, t3, r3, g3, k3, h3, q3⟩ := GA_of hm hA (q := p + n + 6) (by omega)
  obtain ⟨M1, b1, b2⟩ := body_v hm h1 k1 h2 k2 h3 k3 (show p < 2048 from by omega) c
  have hm1 := b1.img hm
  have hE : (p / 32 + 1) * 32 ≤ N := by omega
  have hEm : (p / 32 + 1) * 32 = p + 32 - p % 32 := by omega
  have hp31 : p % 32 < 32 := by omega
  generalize hEE : (p / 32 + 1) * 32 = E at *
  have hE2 : E ≤ 2048 := by omega
  have sA : sameA w w := fun i => ⟨rfl, rfl, rfl⟩
  -- the worlds of the class behind the marks
  have sA1 : sameA w (mkC p 1 w) := fun i => ⟨rfl, rfl, rfl⟩
  obtain ⟨v1, v2, v3, v4⟩ := q1 w sA
  obtain ⟨u1, u2, u3, u4⟩ := q1 _ sA1
  obtain ⟨x1, x2, x3, x4⟩ := q2 _ sA1
  obtain ⟨y1, y2, y3, y4⟩ := q3 _ sA1
  have rfz : ∀ (f : Nat) (W : xW), sX5_refuse (nI f) (nI p) W = some (0, xwi (xwi W 4 10 (nI f)) 4 11 (nI p)) := fun f W => rfl
  have bad : ∀ (f : Nat) (W : xW), 0 < f ∧ f < 9 → frC ucC w W → W.2 = w.2 → sX5_markUnit (nI p) w = some (0, xwi (xwi W 4 10 (nI f)) 4 11 (nI p)) → (∀ K57, uBody K57 (nI p) (nI c) m = sX12_look_j106 K57 (nI p) (nI c) (nI E) (-1) M1) → (if n = 0 then (2 : Int32) else if E < p + n then 3 else fCode t r) = nI f →
      UBAD p w m (sX5_markUnit (nI p) w) (fun K57 => uBody K57 (nI p) (nI c) m) := by
    intro f W hf hW hW2 e1 e2 e3
    obtain ⟨m', g1, g2, g3, g4, g5, g6⟩ := ref_bad (c := c) hm1 h1 k1 (show p < 2048 from by omega) hE2 hf e3
    exact ⟨f, _, m', hf.1, hf.2, e1, rfl, rfl, (hW.wi rfl).wi rfl, hW2, fun K57 => (e2 K57).trans (g1 K57), g2, g3, g4, b1.fr.t g5, g6.trans b1.2⟩
  have one : sX5_markUnit (nI p) w = some (nI n, mkC p 1 w) → (∀ K57, uBody K57 (nI p) (nI c) m = sX12_look_j106 K57 (nI p) (nI c) (nI E) (-1) M1) → 0 < n → p + n ≤ E → fCode t r = 0 →
      UOK N p c w m (sX5_markUnit (nI p) w) (fun K57 => uBody K57 (nI p) (nI c) m) := by
    intro e1 e2 e3 e4 e5
    obtain ⟨M', g1, g2⟩ := ref_one (c := c) hm1 h1 e3 k1 (show p < 2048 from by omega) hE2 e4 e5
    exact ⟨n, 1, _, _, e3, by omega, by decide, by decide, e1, ⟨rfl, rfl⟩, by show w.1 4 8 + 1 = _; rw [hc, nI_1], frU (frC.r _ _) p 1, rfl, (hk.sm (b1.t g1)).st p 1 (by omega) (Or.inl rfl), fun K57 => (e2 K57).trans (g2 K57), fr5 (b1.t g1).fr p 1, (b1.t g1).2⟩
  have two : sX5_markUnit (nI p) w = some (nI (n + n2), mkC (p + n) 2 (mkC p 1 w)) → (∀ K57, uBody K57 (nI p) (nI c) m = sX12_look_j106 K57 (nI p) (nI c) (nI E) (nI (p + n + n2)) M1) → 0 < n → 0 < n2 → p + n + n2 ≤ E →
      UOK N p c w m (sX5_markUnit (nI p) w) (fun K57 => uBody K57 (nI p) (nI c) m) := by
    intro e1 e2 e3 e4 e5
    obtain ⟨M2, g1, g2⟩ := ch_1 (to := p + n + n2) hm1 h1 e3 (by omega) (by omega) (by omega) p c p (by omega)
    obtain ⟨M3, g3, g4⟩ := ch_1 (to := p + n + n2) (m := xwi M2 5 p 1) ((g1.img hm1).fr rfl (fun _ => rfl)) h2 e4 (by omega) (by omega) (by omega) p (c + 1) p (by omega)
    refine ⟨n + n2, 2, _, xwi M3 5 (p + n) 2, by omega, by omega, by decide, by decide, e1, ⟨rfl, rfl⟩, by show w.1 4 8 + 1 + 1 = _; rw [hc, nI_1, nI_1], frU (frU (frC.r _ _) p 1) (p + n) 2, rfl, (((hk.sm (b1.t g1)).st p 1 (by omega) (Or.inl rfl)).sm g3).st (p + n) 2 (by omega) (Or.inr rfl), fun K57 => (e2 K57).trans ?_, fr5 ((fr5 (b1.t g1).fr p 1).t g3.fr) (p + n) 2, g3.2.trans (b1.t g1).2⟩
    unfold sX12_look_j106
    rw [if_neg (nI_m1n (by omega)), show (70000 : Nat) = 69997 + 1 + 1 + 1 from rfl, g2, if_pos rfl, g4, if_neg (show ¬ p + n = p from by omega), ch_0 (by omega), Nat.add_assoc p n n2]
  have three : sX5_markUnit (nI p) w = some (nI (n + 6 + n3), mkC (p + n + 6) 2 (mkC (p + n) 2 (mkC p 1 w))) → (∀ K57, uBody K57 (nI p) (nI c) m = sX12_look_j106 K57 (nI p) (nI c) (nI E) (nI (p + n + 6 + n3)) M1) → 0 < n → n2 = 6 → 0 < n3 → p + n + 6 + n3 ≤ E →
      UOK N p c w m (sX5_markUnit (nI p) w) (fun K57 => uBody K57 (nI p) (nI c) m) := by
    intro e1 e2 e3 e4 e6 e5
    obtain ⟨M2, g1, g2⟩ := ch_1 (to := p + n + 6 + n3) hm1 h1 e3 (by omega) (by omega) (by omega) p c p (by omega)
    obtain ⟨M3, g3, g4⟩ := ch_1 (to := p + n + 6 + n3) (m := xwi M2 5 p 1) ((g1.img hm1).fr rfl (fun _ => rfl)) h2 (by omega) (by omega) (by omega) (by omega) p (c + 1) p (by omega)
    have hm3 : imgM (xwi M3 5 (p + n) 2) B N := (g3.img ((g1.img hm1).fr (m' := xwi M2 5 p 1) rfl (fun _ => rfl))).fr rfl (fun _ => rfl)
    obtain ⟨M4, g5, g6⟩ := ch_1 (to := p + n + 6 + n3) hm3 h3 e6 (by omega) (by omega) (by omega) p (c + 1 + 1) p (by omega)
    refine ⟨n + 6 + n3, 3, _, xwi M4 5 (p + n + 6) 2, by omega, by omega, by decide, by decide, e1, ⟨rfl, rfl⟩, by show w.1 4 8 + 1 + 1 + 1 = _; rw [hc, nI_1, nI_1, nI_1], frU (frU (frU (frC.r _ _) p 1) (p + n) 2) (p + n + 6) 2, rfl, (((((hk.sm (b1.t g1)).st p 1 (by omega) (Or.inl rfl)).sm g3).st (p + n) 2 (by omega) (Or.inr rfl)).sm g5).st (p + n + 6) 2 (by omega) (Or.inr rfl), fun K57 => (e2 K57).trans ?_, fr5 ((fr5 ((fr5 (b1.t g1).fr p 1).t g3.fr) (p + n) 2).t g5.fr) (p + n + 6) 2, g5.2.trans (g3.2.trans (b1.t g1).2)⟩
    unfold sX12_look_j106
    rw [if_neg (nI_m1n (by omega)), show (70000 : Nat) = 69996 + 1 + 1 + 1 + 1 from rfl, g2, if_pos rfl, g4, if_neg (show ¬ p + n = p from by omega), e4, g6, if_neg (show ¬ p + n + 6 = p from by omega), ch_0 (by omega), show p + n + 6 + n3 = p + (n + 6 + n3) from by omega]
  have hU : sX5_markUnit (nI p) w = sX5_markUnit (nI p) w := rfl
  conv at hU => rhs; unfold sX5_markUnit
  rw [v1, xbd_some] at hU
  have tb' : ∀ x : Bool, bI x = 0 → x = false := fun x y => by cases x; rfl; exact absurd y (by decide)
  rcases Nat.eq_zero_or_pos n with e | e
  · left
    have en : nI n = 0 := by rw [e]; rfl
    rw [if_pos en] at hU
    exact bad 2 w (by decide) (frC.r _ _) rfl hU (fun K57 => (b2 K57).trans (by rw [if_pos (Or.inl e)])) (by rw [if_pos e]; rfl)
  · have en : ¬ nI n = 0 := nI_ne (b := 0) (by omega) (by decide) (by omega)
    rw [if_neg en, leaves_v (by omega) (by omega), xbd_some] at hU
    by_cases hl : 32 < p % 32 + n
    · left
      have hlE : E < p + n := by omega
      rw [decide_eq_true hl, if_neg (show ¬ bI true = 0 from by decide)] at hU
      exact bad 3 w (by decide) (frC.r _ _) rfl hU (fun K57 => (b2 K57).trans (by rw [if_pos (Or.inr hlE)])) (by rw [if_neg (by omega), if_pos hlE]; rfl)
    · have hlE : p + n ≤ E := by omega
      rw [decide_eq_false hl, if_pos (show bI false = 0 from rfl), mark_v (show p < 2048 from by omega), xbd_some, u3, nb (trv_0 t), xbd_some] at hU
      have hfit : ¬ (n = 0 ∨ E < p + n) := by omega
      have b2' := fun K57 => b2 K57
      rw [if_neg hfit] at b2'
      have hcode : (if n = 0 then (2 : Int32) else if E < p + n then 3 else fCode t r) = fCode t r := by rw [if_neg (by omega), if_neg (by omega)]
      rw [hcode] at bad
      -- what the reference knows of the place
      obtain ⟨Mx, z1, z2, z3⟩ := h1.tk hm
      obtain ⟨-, f1⟩ := z3 e
      have fr1 : frC ucC w (mkC p 1 w) := frU (frC.r _ _) p 1
      have s6 : t2 6 = true → n2 = 6 := fun z => by
        obtain ⟨M', -, -, y⟩ := h2.tk hm
        exact ((y (h2.t0 z)).2.six z).1
      have s7 : t2 7 = true → n2 = 6 := fun z => by
        obtain ⟨M', -, -, y⟩ := h2.tk hm
        exact (y (h2.t0 z)).2.seven z
      have s7' : t3 7 = true → n3 = 6 := fun z => by
        obtain ⟨M', -, -, y⟩ := h3.tk hm
        exact (y (h3.t0 z)).2.seven z
      have c7 : ∀ x y : Bool, (bI (x && y) = 0) ↔ ¬ (x = true ∧ y = true) := fun x y => by cases x <;> cases y <;> decide
      by_cases hsp : t 0 = true
      · -- the stack pointer
        have h5 : t 5 = false := by
          rcases f1.five with ⟨-, -, -, y⟩ | ⟨y, -⟩
          · rw [hsp] at y; cases y
          · exact y
        have h4 : ¬ (t 4 = true ∧ ¬ r = 4) := fun y => by
          have := (f1.four y.1).2.2.2.1
          rw [hsp, bq y.2] at this
          cases this
        have h6 : ¬ (t 6 = true ∧ ¬ r = 4) := fun y => by
          have := (f1.six y.1).2.2.2.1
          rw [hsp, bq y.2] at this
          cases this
        have hf6 : fCode t r = nI 6 := by unfold fCode; rw [h5, hsp]; rfl
        rw [hsp, if_neg (show ¬ bI true = 0 from by decide)] at hU
        unfold sX5_markStackUnit sX5_markStackUnit_j35 at hU
        rw [u3, nb (trv_1 t), xbd_some, show nI n + (12 : Int32) = nI (n + 12) from nI_add n 12, leaves_v (by omega) (by omega), xbd_some, nI_add] at hU
        have b3 := fun K57 => b2' K57
        rw [if_neg h4, if_neg h6] at b3
        by_cases h1' : t 1 = true
        · left
          rw [h1', if_neg (show ¬ bI true = 0 from by decide)] at hU
          exact bad 6 _ (by decide) fr1 rfl hU (fun K57 => (b3 K57).trans (by rw [if_neg (fun y => by rw [h1'] at y; cases y.2)])) hf6
        · have h1f : t 1 = false := by cases h : t 1; rfl; exact absurd h h1'
          rw [if_pos ⟨hsp, h1f⟩] at b3
          rw [h1f, if_pos (show bI false = 0 from rfl)] at hU
          by_cases hl2 : 32 < p % 32 + (n + 12)
          · left
            rw [decide_eq_true hl2, if_neg (show ¬ bI true = 0 from by decide)] at hU
            exact bad 6 _ (by decide) fr1 rfl hU (fun K57 => (b3 K57).trans (by rw [if_neg (fun y => by have := y.2.2; omega)])) hf6
          · rw [decide_eq_false hl2, if_pos (show bI false = 0 from rfl)] at hU
            unfold sX5_hasFences at hU
            rw [x4, nb (trv_6 t2), xbd_some, show nI (p + n) + (6 : Int32) = nI (p + n + 6) from nI_add (p + n) 6, y4, nb (trv_7 t3), xbd_some] at hU
            by_cases k6 : t2 6 = true ∧ r2 = 4
            · rw [k6.1, k6.2, if_neg (show ¬ bI (true && (4 : Int32) == 4) = 0 from by decide)] at hU
              by_cases k7 : t3 7 = true ∧ r3 = 4
              · right
                rw [k7.1, k7.2, if_neg (show ¬ bI (true && (4 : Int32) == 4) = 0 from by decide), xbd_some, if_neg n10] at hU
                unfold sX5_markStackUnit_j36 at hU
                rw [if_neg n10, nI_add, mark_v (show p + n < 2048 from by omega), xbd_some, show nI (p + n) + (6 : Int32) = nI (p + n + 6) from nI_add (p + n) 6, mark_v (show p + n + 6 < 2048 from by omega), xbd_some, show nI n + (12 : Int32) = nI (n + 12) from nI_add n 12, xbd_some] at hU
                have e3 := s7' k7.1
                exact three (by rw [e3]; exact hU) (fun K57 => (b3 K57).trans (by rw [if_pos ⟨k6, k7, by omega⟩, e3])) e (s6 k6.1) (by omega) (by omega)
              · left
                have : (t3 7 && r3 == 4) = false := by
                  cases hq : t3 7
                  · rfl
                  · exact bq (fun y => k7 ⟨hq, y⟩)
                rw [this, if_pos (show bI false = 0 from rfl), xbd_some, if_pos rfl] at hU
                exact bad 6 _ (by decide) fr1 rfl hU (fun K57 => (b3 K57).trans (by rw [if_neg (fun y => k7 y.2.1)])) hf6
            · left
              have : (t2 6 && r2 == 4) = false := by
                cases hq : t2 6
                · rfl
                · exact bq (fun y => k6 ⟨hq, y⟩)
              rw [this, if_pos (show bI false = 0 from rfl), xbd_some, if_pos rfl] at hU
              exact bad 6 _ (by decide) fr1 rfl hU (fun K57 => (b3 K57).trans (by rw [if_neg (fun y => k6 y.1)])) hf6
      · have hsf : t 0 = false := by cases h : t 0; rfl; exact absurd h hsp
        have hst : ¬ (t 0 = true ∧ t 1 = false) := fun y => hsp y.1
        rw [hsf, if_pos (show bI false = 0 from rfl), u3, nb (trv_4 t), xbd_some] at hU
        by_cases h4 : t 4 = true
        · -- a jump through a masked register
          obtain ⟨n3', -, -, d0, d1, d5⟩ := f1.four h4
          have hr4 : ¬ r = 4 := fun y => by rw [hsf, y] at d0; cases d0
          have hf0 : fCode t r = 0 := by unfold fCode; rw [d5, hsf, d1]; rfl
          have b3 := fun K57 => b2' K57
          rw [if_pos ⟨h4, hr4⟩] at b3
          rw [h4, if_neg (show ¬ bI true = 0 from by decide)] at hU
          right
          unfold sX5_markJumpUnit at hU
          rw [nI_add, x1, xbd_some, u2, xbd_some, x4, nb (trv_5 t2), xbd_some, nI_add, leaves_v (by omega) (by omega), xbd_some] at hU
          by_cases k5 : t2 5 = true ∧ r2 = r
          · rw [k5.1, k5.2, beq_self_eq_true, if_neg (show ¬ bI (true && true) = 0 from by decide)] at hU
            by_cases hl2 : 32 < p % 32 + (n + n2)
            · rw [decide_eq_true hl2, if_neg (show ¬ bI true = 0 from by decide), xbd_some] at hU
              exact one hU (fun K57 => (b3 K57).trans (by rw [if_neg (fun y => by have := y.2.2; omega)])) e hlE hf0
            · have hz2 := h2.t0 k5.1
              rw [decide_eq_false hl2, if_pos (show bI false = 0 from rfl), mark_v (show p + n < 2048 from by omega), xbd_some, xbd_some] at hU
              exact two hU (fun K57 => (b3 K57).trans (by rw [if_pos ⟨k5.1, k5.2, by omega⟩])) e (h2.t0 k5.1) (by omega)
          · have : (t2 5 && r2 == r) = false := by
              cases hq : t2 5
              · rfl
              · exact bq (fun y => k5 ⟨hq, y⟩)
            rw [this, if_pos (show bI false = 0 from rfl), xbd_some] at hU
            exact one hU (fun K57 => (b3 K57).trans (by rw [if_neg (fun y => k5 ⟨y.1, y.2.1⟩)])) e hlE hf0
        · have h4f : t 4 = false := by cases h : t 4; rfl; exact absurd h h4
          rw [h4f, if_pos (show bI false = 0 from rfl), u3, nb (trv_6 t), xbd_some] at hU
          have b3 := fun K57 => b2' K57
          rw [if_neg (fun y => h4 y.1)] at b3
          by_cases h6 : t 6 = true
          · -- a write through a fenced register
            obtain ⟨n6, -, -, d0, d1, d5⟩ := f1.six h6
            have hr4 : ¬ r = 4 := fun y => by rw [hsf, y] at d0; cases d0
            have hf0 : fCode t r = 0 := by unfold fCode; rw [d5, hsf, d1]; rfl
            rw [if_pos ⟨h6, hr4⟩] at b3
            rw [h6, if_neg (show ¬ bI true = 0 from by decide)] at hU
            right
            have e12 : nI p + (12 : Int32) = nI (p + n + 6) := by rw [n6]; exact nI_add p 12
            have e6 : nI p + (6 : Int32) = nI (p + n) := by rw [n6]; exact nI_add p 6
            have el : (12 : Int32) + nI n3 = nI (12 + n3) := nI_add 12 n3
            have hno : ∀ W, sX5_markWriteUnit_j50 (nI p) r (nI (p + n + 6)) (nI n3) W = some (6, W) := fun W => by unfold sX5_markWriteUnit_j50 sX5_markWriteUnit_j51; rw [if_pos rfl]
            have on1 : sX5_markUnit (nI p) w = some (6, mkC p 1 w) → (∀ K57, uBody K57 (nI p) (nI c) m = sX12_look_j106 K57 (nI p) (nI c) (nI E) (-1) M1) → UOK N p c w m (sX5_markUnit (nI p) w) (fun K57 => uBody K57 (nI p) (nI c) m) := fun y1 y2 => one (by rw [y1, n6]; rfl) y2 e hlE hf0
            unfold sX5_markWriteUnit at hU
            rw [u2, xbd_some, e12, y1, xbd_some, y3, nb (trv_1 t3), xbd_some, y4, nb (trv_2 t3), xbd_some, y3, nb (trv_0 t3), xbd_some, hno] at hU
            by_cases k1' : t3 1 = true
            · rw [k1', if_neg (show ¬ bI true = 0 from by decide)] at hU
              by_cases k2' : (t3 2 && r3 == r) = true
              · rw [k2', if_neg (show ¬ bI true = 0 from by decide)] at hU
                by_cases k0' : t3 0 = true
                · rw [k0', if_neg (show ¬ bI true = 0 from by decide), xbd_some] at hU
                  exact on1 hU (fun K57 => (b3 K57).trans (by rw [if_neg (fun y => by have := y.2.1.2.2; rw [k0'] at this; cases this)]))
                · have k0f : t3 0 = false := by cases h : t3 0; rfl; exact absurd h k0'
                  rw [k0f, if_pos (show bI false = 0 from rfl)] at hU
                  unfold sX5_markWriteUnit_j51 sX5_hasFences at hU
                  rw [if_neg n10, u4, nb (trv_6 t), h6, beq_self_eq_true, xbd_some, if_neg (show ¬ bI (true && true) = 0 from by decide), e6, x4, nb (trv_7 t2), xbd_some] at hU
                  by_cases k7 : t2 7 = true ∧ r2 = r
                  · rw [k7.1, k7.2, beq_self_eq_true, if_neg (show ¬ bI (true && true) = 0 from by decide), xbd_some, if_neg n10, el, leaves_v (by omega) (by omega), xbd_some] at hU
                    by_cases hl2 : 32 < p % 32 + (12 + n3)
                    · rw [decide_eq_true hl2, if_neg (show ¬ bI true = 0 from by decide), xbd_some] at hU
                      exact on1 hU (fun K57 => (b3 K57).trans (by rw [if_neg (fun y => by have := y.2.2; omega)]))
                    · have hz3 := h3.t0 k1'
                      rw [decide_eq_false hl2, if_pos (show bI false = 0 from rfl), mark_v (show p + n < 2048 from by omega), xbd_some, mark_v (show p + n + 6 < 2048 from by omega), xbd_some, xbd_some] at hU
                      exact three (by rw [show n + 6 + n3 = 12 + n3 from by omega]; exact hU) (fun K57 => (b3 K57).trans (by rw [if_pos ⟨k7, ⟨k1', k2', k0f⟩, by omega⟩])) e (s7 k7.1) (h3.t0 k1') (by omega)
                  · have : (t2 7 && r2 == r) = false := by
                      cases hq : t2 7
                      · rfl
                      · exact bq (fun y => k7 ⟨hq, y⟩)
                    rw [this, if_pos (show bI false = 0 from rfl), xbd_some, if_pos rfl, xbd_some] at hU
                    exact on1 hU (fun K57 => (b3 K57).trans (by rw [if_neg (fun y => k7 y.1)]))
              · have k2f : (t3 2 && r3 == r) = false := by cases h : (t3 2 && r3 == r); rfl; exact absurd h k2'
                rw [k2f, if_pos (show bI false = 0 from rfl), xbd_some] at hU
                exact on1 hU (fun K57 => (b3 K57).trans (by rw [if_neg (fun y => k2' y.2.1.2.1)]))
            · have k1f : t3 1 = false := by cases h : t3 1; rfl; exact absurd h k1'
              rw [k1f, if_pos (show bI false = 0 from rfl), xbd_some] at hU
              exact on1 hU (fun K57 => (b3 K57).trans (by rw [if_neg (fun y => k1' y.2.1.1)]))
          · -- alone
            have h6f : t 6 = false := by cases h : t 6; rfl; exact absurd h h6
            rw [if_neg (fun y => h6 y.1), if_neg hst] at b3
            rw [h6f, if_pos (show bI false = 0 from rfl)] at hU
            unfold sX5_checkAlone at hU
            rw [u3, nb (trv_5 t), xbd_some, u3, nb (trv_1 t), xbd_some, u4, nb (trv_2 t), xbd_some, u3, nb (trv_3 t), xbd_some] at hU
            by_cases h5 : t 5 = true
            · left
              rw [h5, if_neg (show ¬ bI true = 0 from by decide)] at hU
              exact bad 4 _ (by decide) fr1 rfl hU b3 (by unfold fCode; rw [h5]; rfl)
            · have h5f : t 5 = false := by cases h : t 5; rfl; exact absurd h h5
              rw [h5f, if_pos (show bI false = 0 from rfl)] at hU
              by_cases hw1 : t 1 = true
              · rw [hw1, if_neg (show ¬ bI true = 0 from by decide)] at hU
                cases hn : (t 2 && r == 4)
                · rw [hn, if_pos (show bI false = 0 from rfl)] at hU
                  cases h3' : t 3
                  · left
                    rw [h3', if_pos (show bI false = 0 from rfl)] at hU
                    exact bad 5 _ (by decide) fr1 rfl hU b3 (by unfold fCode; rw [h5f, hsf, hw1, hn, h3']; rfl)
                  · right
                    rw [h3', if_neg (show ¬ bI true = 0 from by decide), xbd_some] at hU
                    exact one hU b3 e hlE (by unfold fCode; rw [h5f, hsf, hw1, hn, h3']; rfl)
                · right
                  rw [hn, if_neg (show ¬ bI true = 0 from by decide), xbd_some] at hU
                  exact one hU b3 e hlE (by unfold fCode; rw [h5f, hsf, hw1, hn]; rfl)
              · right
                have hw1f : t 1 = false := by cases h : t 1; rfl; exact absurd h hw1
                rw [hw1f, if_pos (show bI false = 0 from rfl), xbd_some] at hU
                exact one hU b3 e hlE (by unfold fCode; rw [h5f, hsf, hw1f]; rfl)
end U3
