/-! look: a unit, in the class and in the reference -/
def SM (m m' : xW) : Prop := (∀ k i, ¬ (k = 0 ∧ 17 ≤ i ∧ i < 33) → m'.1 k i = m.1 k i) ∧ m'.2 = m.2
theorem SM.r (m : xW) : SM m m := ⟨fun _ _ _ => rfl, rfl⟩
theorem SM.t {a b c : xW} (h : SM a b) (g : SM b c) : SM a c := ⟨fun k i q => (g.1 k i q).trans (h.1 k i q), g.2.trans h.2⟩
def sameA (w W : xW) : Prop := ∀ i, W.1 12 i = w.1 12 i ∧ W.1 13 i = w.1 13 i ∧ W.1 14 i = w.1 14 i
def QF (n : Nat) (t : Nat → Bool) (r g : Int32) (M : xW) : Prop := M.1 0 30 = nI n ∧ ∃ W, IR n W M ∧ tOf W = t ∧ rgOf W = r ∧ W.1 2 13 = g
def CQ (q n : Nat) (t : Nat → Bool) (r : Int32) (w : xW) : Prop := ∀ W, sameA w W → sX5_lengthAt (nI q) W = some (nI n, W) ∧ sX5_registerAt (nI q) W = some (r, W) ∧ (∀ v, sX5_is (nI q) v W = some (bI (!(trv t &&& v == 0)), W)) ∧ ∀ v x, sX5_isOf (nI q) v x W = some (bI (!(trv t &&& v == 0) && r == x), W)
theorem nb {x : Int32} {b : Bool} (h : (x = 0) = (b = false)) : (!(x == 0)) = b := by
  cases b
  · rw [show x = 0 from h.mpr rfl]; rfl
  · have : ¬ x = 0 := fun q => by have := h.mp q; cases this
    rw [bq this]; rfl
section UN
variable {B : Nat → Int32} {N : Nat}
theorem SM.img {m m' : xW} (h : SM m m') (hm : imgM m B N) : imgM m' B N := hm.fr (h.1 _ _ (by decide)) (fun i => h.1 _ _ (by omega))
theorem mkI (M : xW) (l : List Int32) : SM M (mW l M) := ⟨fun _ _ q => mW_o q, rfl⟩
/-- the reference takes a place apart -/
theorem PL.tk {q n : Nat} {t : Nat → Bool} {r g : Int32} (h : PL B N q n t r g) {M : xW} (hM : imgM M B N) : ∃ M', sX12_take (nI q) M = some ((if n = 0 then 0 else 1), M') ∧ SM M M' ∧ (0 < n → q + n ≤ N ∧ QF n t r g M') := by
  obtain ⟨l, h1, h2⟩ := h.2 M hM
  exact ⟨_, h1, mkI M l, fun q => ⟨(h2 q).1, (h2 q).2⟩⟩
theorem PL.t0 {q n : Nat} {t : Nat → Bool} {r g : Int32} (h : PL B N q n t r g) {k : Nat} (hk : t k = true) : 0 < n := by
  rcases Nat.eq_zero_or_pos n with e | e
  · rw [h.1 e] at hk; cases hk
  · exact e
theorem GA_of {w m0 : xW} (hm0 : imgM m0 B N) (hA : ∀ p, p < 2048 → PA B N p w) {q : Nat} (hq : q < 4096) : ∃ n t r g, n < 16 ∧ PL B N q n t r g ∧ CQ q n t r w := by
  by_cases h : q < 2048
  · obtain ⟨n, t, h1, h2, h3, h4⟩ := hA q h
    have hx := xin_n (k := q) (n := 2048) h (by decide)
    have h0 : ¬ nI q < 0 := nI_pos (by omega)
    have hl : nI q < (2048 : Int32) := nI_lq (b := 2048) (by omega) (by decide) h
    have ec : (nI q).toNatClampNeg = q := nI_clamp (by omega)
    refine ⟨n, t, _, _, h3, h4, fun W hW => ⟨?_, ?_, fun v => ?_, fun v x => ?_⟩⟩
    · unfold sX5_lengthAt
      rw [if_neg h0, if_pos hl, if_pos hx, ec, (hW q).1, h1]
    · unfold sX5_registerAt
      rw [if_neg h0, if_pos hl, if_pos hx, ec, (hW q).2.2]
    · unfold sX5_is
      rw [if_neg h0, if_pos hl, if_pos hx, ec, (hW q).2.1, h2]
      by_cases e : trv t &&& v = 0
      · rw [if_pos e, e]; rfl
      · rw [if_neg e, bq e]; rfl
    · unfold sX5_isOf
      rw [if_neg h0, if_pos hl, if_pos hx]
      simp only [ec, if_pos hx]
      rw [(hW q).2.1, h2, (hW q).2.2]
      by_cases e : trv t &&& v = 0
      · rw [if_pos e, e]; rfl
      · rw [if_neg e, bq e]
        by_cases e2 : w.1 14 q = x
        · rw [if_pos e2, e2, beq_self_eq_true]; rfl
        · rw [if_neg e2, bq e2]; rfl
  · have h0 : ¬ nI q < 0 := nI_pos (by omega)
    have hl : ¬ nI q < (2048 : Int32) := nI_nltI (b := 2048) (by omega) (by decide) (by omega)
    refine ⟨0, fun _ => false, -1, 0, by omega, ⟨fun _ => rfl, fun m hm => ?_⟩, fun W hW => ⟨?_, ?_, fun v => ?_, fun v x => ?_⟩⟩
    · obtain ⟨l, hl⟩ := take_out (a := nI q) hm.1 (Or.inr (nI_nltI (by omega) (by have := hm.2.1; omega) (by have := hm.2.1; omega)))
      exact ⟨l, hl, fun q => absurd q (by omega)⟩
    · unfold sX5_lengthAt
      rw [if_neg h0, if_neg hl]; rfl
    · unfold sX5_registerAt
      rw [if_neg h0, if_neg hl]
    · unfold sX5_is
      rw [if_neg h0, if_neg hl, trv_f, Int32.zero_and]; rfl
    · unfold sX5_isOf
      rw [if_neg h0, if_neg hl, trv_f, Int32.zero_and]; rfl
/-! the reference's questions behind a take -/
section Q
variable {n : Nat} {t : Nat → Bool} {r g : Int32} {M : xW}
theorem QF.sp (h : QF n t r g M) : sX12_writesStack M = some (bI (t 0), M) := by
  obtain ⟨-, W, h, rfl, -⟩ := h
  exact h.sp
theorem QF.wm (h : QF n t r g M) : sX12_writesMemory M = some (bI (t 1), M) := by
  obtain ⟨-, W, h, rfl, -⟩ := h
  exact h.wm
theorem QF.rest (h : QF n t r g M) : fRest M = some (fCode t r, M) := by
  obtain ⟨-, W, h, rfl, rfl, -⟩ := h
  exact h.rest
theorem QF.near (h : QF n t r g M) (h1 : t 1 = true) {x : Int32} (hx : ¬ x = -1) : (M.1 0 25 == x && nrM M) = (t 2 && r == x) := by
  obtain ⟨-, W, h, rfl, rfl, -⟩ := h
  exact h.near h1 hx
theorem QF.and_n (h : QF n t r g M) (hn : n < 16) : sX12_isFenceAnd (-1) M = some (bI (t 6 && !(r == 4)), M) := by
  obtain ⟨h0, W, h, rfl, rfl, -⟩ := h
  exact h.and_n h0 hn
theorem QF.and_4 (h : QF n t r g M) (hn : n < 16) : sX12_isFenceAnd 4 M = some (bI (t 6 && r == 4), M) := by
  obtain ⟨h0, W, h, rfl, rfl, -⟩ := h
  exact h.and_4 h0 hn
theorem QF.or_x (h : QF n t r g M) (hn : n < 16) (x : Int32) : sX12_isFenceOr x M = some (bI (t 7 && r == x), M) := by
  obtain ⟨h0, W, h, rfl, rfl, -⟩ := h
  exact h.or_x h0 hn x
theorem QF.four (h : QF n t r g M) (h4 : t 4 = true) : n = 3 ∧ M.1 0 24 = r ∧ in8 r ∧ t 0 = (r == 4) ∧ t 1 = false ∧ t 5 = false := by
  obtain ⟨h0, W, h, rfl, rfl, -⟩ := h
  exact h.four h4
theorem QF.six (h : QF n t r g M) (h4 : t 6 = true) : n = 6 ∧ M.1 0 24 = r ∧ in8 r ∧ t 0 = (r == 4) ∧ t 1 = false ∧ t 5 = false := by
  obtain ⟨h0, W, h, rfl, rfl, -⟩ := h
  exact h.six h4
theorem QF.seven (h : QF n t r g M) (h4 : t 7 = true) : n = 6 := by
  obtain ⟨h0, W, h, rfl, rfl, -⟩ := h
  exact h.seven h4
theorem QF.five (h : QF n t r g M) : (t 5 = true ∧ (M.1 0 17 = 42 ∨ M.1 0 17 = 43) ∧ M.1 0 24 = r ∧ t 0 = false) ∨ (t 5 = false ∧ ¬ M.1 0 17 = 42 ∧ ¬ M.1 0 17 = 43) := by
  obtain ⟨h0, W, h, rfl, rfl, -⟩ := h
  exact h.five
theorem QF.eight (h : QF n t r g M) : (t 8 = true ∧ M.1 0 18 = 8 ∧ M.1 0 29 = g) ∨ (t 8 = false ∧ ¬ M.1 0 18 = 8) := by
  obtain ⟨h0, W, h, rfl, rfl, rfl⟩ := h
  exact h.eight
theorem QF.byte0 (h : QF n t r g M) (hn : n < 16) {ρ : Type} (X Y : Option ρ) : (if (M.1 0 17) = (4 : Int32) then (if (M.1 0 18) = (4 : Int32) then (if (M.1 0 20) = (4 : Int32) then (if (M.1 0 22) = (3 : Int32) then (if (M.1 0 30) = (3 : Int32) then (if (M.1 0 29) = (-32 : Int32) then (if (M.1 0 24) = (4 : Int32) then Y else X) else Y) else Y) else Y) else Y) else Y) else Y) = (if t 4 && !(r == 4) then X else Y) := by
  obtain ⟨h0, W, h, rfl, rfl, -⟩ := h
  exact h.byte0 h0 hn X Y
theorem QF.nine (h : QF n t r g M) : (t 9 = true ∧ (M.1 0 17 = 32 ∨ M.1 0 17 = 31 ∨ M.1 0 17 = 43)) ∨ (t 9 = false ∧ ¬ (M.1 0 17 = 32 ∨ M.1 0 17 = 31 ∨ M.1 0 17 = 43)) := by
  obtain ⟨h0, W, h, rfl, -⟩ := h
  exact h.nine
end Q
/-! longer -/
theorem ok0 : ((if (0 : Nat) = 0 then (0 : Int32) else 1)) = 0 := rfl
theorem ok1 {n : Nat} (h : 0 < n) : (if n = 0 then (0 : Int32) else 1) = 1 := if_neg (by omega)
/-- a unit that changes the stack pointer -/
theorem long_st {q n2 n3 E : Nat} {t2 t3 : Nat → Bool} {r2 r3 g2 g3 a4 : Int32} {M : xW} (hM : imgM M B N) (h2 : PL B N q n2 t2 r2 g2) (k2 : n2 < 16) (h3 : PL B N (q + 6) n3 t3 r3 g3) (k3 : n3 < 16) (hq : q < 4096) (hE : E ≤ 2048) :
    ∃ M', sX12_longer_j196 (nI E) a4 0 (nI q) M = some ((if (t2 6 = true ∧ r2 = 4) ∧ (t3 7 = true ∧ r3 = 4) ∧ q + 12 ≤ E then nI (q + 12) else -1), M') ∧ SM M M' ∧ (t2 6 = true → n2 = 6) ∧ (t3 7 = true → n3 = 6) := by
  obtain ⟨M1, a1, a2, a3⟩ := h2.tk hM
  obtain ⟨M2, b1, b2, b3⟩ := h3.tk (a2.img hM)
  have s6 : t2 6 = true → n2 = 6 := fun z => ((a3 (h2.t0 z)).2.six z).1
  have s7 : t3 7 = true → n3 = 6 := fun z => (b3 (h3.t0 z)).2.seven z
  unfold sX12_longer_j196 sX12_longer_j207 sX12_longer_j235
  rw [if_pos rfl, if_pos rfl, a1, xbd_some]
  have hno : ∀ W, sX12_longer_j236 (nI E) a4 0 (nI q) 4 0 W = some (-1, W) := fun W => by unfold sX12_longer_j236; rw [if_pos rfl]
  rcases Nat.eq_zero_or_pos n2 with e | e
  · rw [e, if_pos ok0, hno, if_neg (fun z => by have := h2.t0 z.1.1; omega)]
    exact ⟨M1, rfl, a2, fun y => by rw [← e]; exact s6 y, s7⟩
  · obtain ⟨-, f2⟩ := a3 e
    rw [ok1 e, if_neg n10, f2.and_4 k2, xbd_some]
    by_cases c1 : t2 6 = true ∧ r2 = 4
    · have e6 := s6 c1.1
      rw [c1.1, c1.2, show bI (true && (4 : Int32) == 4) = 1 from rfl, if_neg n10]
      unfold sX12_longer_j236 sX12_longer_j254 sX12_longer_j276
      rw [if_neg n10, f2.1, e6, nI_add, b1, xbd_some]
      have hno2 : ∀ W, sX12_longer_j277 (nI E) a4 0 (nI (q + 6)) 0 W = some (-1, W) := fun W => by unfold sX12_longer_j277; rw [if_pos rfl]
      rcases Nat.eq_zero_or_pos n3 with z | z
      · rw [z, if_pos ok0, hno2, if_neg (fun y => by have := h3.t0 y.2.1.1; omega)]
        exact ⟨M2, rfl, a2.t b2, fun _ => rfl, fun y => by rw [← z]; exact s7 y⟩
      · obtain ⟨-, f3⟩ := b3 z
        rw [ok1 z, if_neg n10, f3.or_x k3, xbd_some]
        by_cases c2 : t3 7 = true ∧ r3 = 4
        · have e7 := s7 c2.1
          rw [c2.1, c2.2, show bI (true && (4 : Int32) == 4) = 1 from rfl, if_neg n10]
          unfold sX12_longer_j277
          rw [if_neg n10, if_pos rfl, f3.1, e7, nI_add]
          by_cases c3 : q + 12 ≤ E
          · rw [if_neg (nI_nltI (by omega) (by omega) (by omega)), if_pos ⟨⟨rfl, rfl⟩, ⟨rfl, rfl⟩, c3⟩]
            exact ⟨M2, rfl, a2.t b2, fun _ => rfl, fun _ => rfl⟩
          · rw [if_pos (nI_lq (by omega) (by omega) (by omega)), if_neg (fun y => c3 y.2.2)]
            exact ⟨M2, rfl, a2.t b2, fun _ => rfl, fun _ => rfl⟩
        · have : (t3 7 && r3 == 4) = false := by
            cases hq : t3 7
            · rfl
            · exact bq (fun y => c2 ⟨hq, y⟩)
          rw [this, if_pos (show bI false = 0 from rfl), hno2, if_neg (fun y => c2 y.2.1)]
          exact ⟨M2, rfl, a2.t b2, fun _ => rfl, s7⟩
    · have : (t2 6 && r2 == 4) = false := by
        cases hq : t2 6
        · rfl
        · exact bq (fun y => c1 ⟨hq, y⟩)
      rw [this, if_pos (show bI false = 0 from rfl), hno, if_neg (fun y => c1 y.1)]
      exact ⟨M1, rfl, a2, s6, s7⟩
/-- a unit that writes through a fenced register -/
theorem long_wr {q n2 n3 E : Nat} {t2 t3 : Nat → Bool} {r r2 r3 g2 g3 : Int32} {M : xW} (hr : ¬ r = -1) (hM : imgM M B N) (h2 : PL B N q n2 t2 r2 g2) (k2 : n2 < 16) (h3 : PL B N (q + 6) n3 t3 r3 g3) (k3 : n3 < 16) (hq : q < 4096) (hE : E ≤ 2048) :
    ∃ M', sX12_longer_j196 (nI E) r 1 (nI q) M = some ((if (t2 7 = true ∧ r2 = r) ∧ (t3 1 = true ∧ (t3 2 && r3 == r) = true ∧ t3 0 = false) ∧ q + 6 + n3 ≤ E then nI (q + 6 + n3) else -1), M') ∧ SM M M' ∧ (t2 7 = true → n2 = 6) := by
  obtain ⟨M1, a1, a2, a3⟩ := h2.tk hM
  obtain ⟨M2, b1, b2, b3⟩ := h3.tk (a2.img hM)
  have s7 : t2 7 = true → n2 = 6 := fun z => (a3 (h2.t0 z)).2.seven z
  unfold sX12_longer_j196 sX12_longer_j207 sX12_longer_j254 sX12_longer_j276
  rw [if_neg n10, if_neg n10, a1, xbd_some]
  have hno : ∀ W, sX12_longer_j277 (nI E) r 1 (nI q) 0 W = some (-1, W) := fun W => by unfold sX12_longer_j277; rw [if_pos rfl]
  rcases Nat.eq_zero_or_pos n2 with e | e
  · rw [e, if_pos ok0, hno, if_neg (fun z => by have := h2.t0 z.1.1; omega)]
    exact ⟨M1, rfl, a2, fun y => by rw [← e]; exact s7 y⟩
  · obtain ⟨-, f2⟩ := a3 e
    rw [ok1 e, if_neg n10, f2.or_x k2, xbd_some]
    by_cases c1 : t2 7 = true ∧ r2 = r
    · have e6 := s7 c1.1
      rw [c1.1, c1.2, show bI (true && r == r) = 1 from by rw [beq_self_eq_true]; rfl, if_neg n10]
      unfold sX12_longer_j277 sX12_longer_j367
      rw [if_neg n10, if_neg n10, f2.1, e6, nI_add, b1, xbd_some]
      have hno2 : ∀ W, sX12_longer_j368 (nI (q + 6)) 0 W = some (-1, W) := fun W => by unfold sX12_longer_j368; rw [if_pos rfl]
      rcases Nat.eq_zero_or_pos n3 with z | z
      · rw [z, if_pos ok0, hno2, if_neg (fun y => by have := h3.t0 y.2.1.1; omega)]
        exact ⟨M2, rfl, a2.t b2, fun _ => rfl⟩
      · obtain ⟨-, f3⟩ := b3 z
        rw [ok1 z, if_neg n10, f3.wm, xbd_some]
        cases hw1 : t3 1
        · rw [if_pos (show bI false = 0 from rfl), hno2, if_neg (fun y => by cases y.2.1.1)]
          exact ⟨M2, rfl, a2.t b2, fun _ => rfl⟩
        · rw [if_neg (show ¬ bI true = 0 from by decide)]
          have hn := f3.near hw1 hr
          by_cases c2 : M2.1 0 25 = r
          · rw [if_pos c2, near_v, xbd_some]
            rw [c2, beq_self_eq_true, Bool.true_and] at hn
            cases hnr : nrM M2
            · rw [hnr] at hn
              rw [if_pos (show bI false = 0 from rfl), hno2, if_neg (fun y => by rw [← hn] at y; cases y.2.1.2.1)]
              exact ⟨M2, rfl, a2.t b2, fun _ => rfl⟩
            · rw [hnr] at hn
              rw [if_neg (show ¬ bI true = 0 from by decide), f3.sp, xbd_some]
              cases hsp : t3 0
              · rw [if_pos (show bI false = 0 from rfl), f3.1, nI_add]
                by_cases c3 : q + 6 + n3 ≤ E
                · rw [if_neg (nI_nltI (by omega) (by omega) (by omega)), if_pos ⟨⟨rfl, rfl⟩, ⟨rfl, hn.symm, rfl⟩, c3⟩]
                  refine ⟨M2, ?_, a2.t b2, fun _ => rfl⟩
                  unfold sX12_longer_j368
                  rw [if_neg n10, f3.1, nI_add]
                · rw [if_pos (nI_lq (by omega) (by omega) (by omega)), if_neg (fun y => c3 y.2.2), hno2]
                  exact ⟨M2, rfl, a2.t b2, fun _ => rfl⟩
              · rw [if_neg (show ¬ bI true = 0 from by decide), hno2, if_neg (fun y => by cases y.2.1.2.2)]
                exact ⟨M2, rfl, a2.t b2, fun _ => rfl⟩
          · rw [if_neg c2, hno2]
            rw [bq c2, Bool.false_and] at hn
            rw [if_neg (fun y => by rw [← hn] at y; cases y.2.1.2.1)]
            exact ⟨M2, rfl, a2.t b2, fun _ => rfl⟩
    · have : (t2 7 && r2 == r) = false := by
        cases hq : t2 7
        · rfl
        · exact bq (fun y => c1 ⟨hq, y⟩)
      rw [this, if_pos (show bI false = 0 from rfl), hno, if_neg (fun y => c1 y.1)]
      exact ⟨M1, rfl, a2, s7⟩
/-- longer, whatever it finds -/
theorem long_v {p n n2 n3 E : Nat} {t t2 t3 : Nat → Bool} {r r2 r3 g g2 g3 : Int32} {m : xW} (hm : imgM m B N) (h1 : PL B N p n t r g) (k0 : 0 < n) (k1 : n < 16) (h2 : PL B N (p + n) n2 t2 r2 g2) (k2 : n2 < 16) (h3 : PL B N (p + n + 6) n3 t3 r3 g3) (k3 : n3 < 16) (hp : p < 2048) (hE : E ≤ 2048) :
    ∃ M', SM m M' ∧ sX12_longer (nI p) (nI E) m = some ((if t 4 = true ∧ ¬ r = 4 then (if t2 5 = true ∧ r2 = r ∧ p + n + n2 ≤ E then nI (p + n + n2) else -1) else
      if t 6 = true ∧ ¬ r = 4 then (if (t2 7 = true ∧ r2 = r) ∧ (t3 1 = true ∧ (t3 2 && r3 == r) = true ∧ t3 0 = false) ∧ p + n + 6 + n3 ≤ E then nI (p + n + 6 + n3) else -1) else
      if t 0 = true ∧ t 1 = false then (if (t2 6 = true ∧ r2 = 4) ∧ (t3 7 = true ∧ r3 = 4) ∧ p + n + 12 ≤ E then nI (p + n + 12) else -1) else -1), M') := by
  obtain ⟨M1, a1, a2, a3⟩ := h1.tk hm
  obtain ⟨-, f1⟩ := a3 k0
  have hm1 := a2.img hm
  have h72 : ∀ b : Bool, sX12_longer_j72 (nI p) (nI E) (M1.1 0 24) (bI b) M1 = sX12_longer_j100 (nI p) (nI E) (M1.1 0 24) (bI b) (bI (t 6 && !(r == 4))) (bI (t 0 && !t 1)) M1 := by
    intro b
    unfold sX12_longer_j72 sX12_longer_j99
    rw [f1.and_n k1, xbd_some, f1.sp, xbd_some, f1.wm, xbd_some]
    cases t 0
    · rw [if_pos (show bI false = 0 from rfl)]; rfl
    · rw [if_neg (show ¬ bI true = 0 from by decide)]
      cases t 1
      · rw [if_pos (show bI false = 0 from rfl)]; rfl
      · rw [if_neg (show ¬ bI true = 0 from by decide)]; rfl
  have hb0 : sX12_longer (nI p) (nI E) m = sX12_longer_j72 (nI p) (nI E) (M1.1 0 24) (bI (t 4 && !(r == 4))) M1 := by
    unfold sX12_longer sX12_longer_j71
    rw [a1, xbd_some]
    rw [f1.byte0 k1]
    cases (t 4 && !(r == 4)) <;> rfl
  rw [hb0, h72]
  unfold sX12_longer_j100
  have er : ∀ x y : Bool, (x = true ∧ ¬ r = 4) ↔ ((x && !(r == 4)) = true) := fun x y => by
    by_cases q : r = 4
    · rw [q]; simp
    · rw [bq q]; simp [q]
  by_cases c4 : t 4 = true ∧ ¬ r = 4
  · obtain ⟨e3, e24, e8, -⟩ := f1.four c4.1
    rw [if_pos c4, (er (t 4) true).mp c4, if_neg (show ¬ bI true = 0 from by decide), f1.1, nI_add]
    obtain ⟨M2, b1, b2, b3⟩ := h2.tk hm1
    rw [b1, xbd_some]
    have hno : ∀ W, sX12_longer_j166 (nI (p + n)) W = some (-1, W) := fun W => by unfold sX12_longer_j166 sX12_longer_j167; rw [if_pos rfl]
    refine ⟨M2, a2.t b2, ?_⟩
    rcases Nat.eq_zero_or_pos n2 with z | z
    · rw [z, if_pos ok0, hno, if_neg (fun y => by have := h2.t0 y.1; omega)]
    · obtain ⟨-, f2⟩ := b3 z
      rw [ok1 z, if_neg n10]
      have h142 : t2 5 = true → M2.1 0 24 = r2 → sX12_longer_j142 (nI E) (M1.1 0 24) (nI (p + n)) M2 = some ((if t2 5 = true ∧ r2 = r ∧ p + n + n2 ≤ E then nI (p + n + n2) else -1), M2) := by
        intro y1 y2
        unfold sX12_longer_j142
        rw [y2, e24, f2.1, nI_add]
        by_cases c5 : r2 = r
        · rw [if_pos c5]
          by_cases c6 : p + n + n2 ≤ E
          · rw [if_neg (nI_nltI (by omega) (by omega) (by omega)), if_pos ⟨y1, c5, c6⟩]
            unfold sX12_longer_j167
            rw [if_neg n10, f2.1, nI_add]
          · rw [if_pos (nI_lq (by omega) (by omega) (by omega)), hno, if_neg (fun y => c6 y.2.2)]
        · rw [if_neg c5, hno, if_neg (fun y => c5 y.2.1)]
      rcases f2.five with ⟨y1, y2 | y2, y3, -⟩ | ⟨y1, y2, y3⟩
      · rw [if_pos y2, h142 y1 y3]
      · rw [if_neg (by rw [y2]; decide), if_pos y2, h142 y1 y3]
      · rw [if_neg y2, if_neg y3, hno, if_neg (fun y => by rw [y1] at y; cases y.1)]
  · have e4 : (t 4 && !(r == 4)) = false := by
      cases hq : (t 4 && !(r == 4))
      · rfl
      · exact absurd ((er (t 4) true).mpr hq) c4
    rw [if_neg c4, e4, if_pos (show bI false = 0 from rfl), f1.1, nI_add]
    by_cases c6 : t 6 = true ∧ ¬ r = 4
    · obtain ⟨e6, e24, ⟨e8a, e8b, e8c⟩, -⟩ := f1.six c6.1
      rw [if_pos c6, (er (t 6) true).mp c6, if_neg (show ¬ bI true = 0 from by decide), e24]
      obtain ⟨M', b1, b2, -⟩ := long_wr (r := r) (E := E) (by
        intro y
        rw [e8c] at y
        have := congrArg Int32.toInt y
        rw [nI_toInt (by omega), show (-1 : Int32).toInt = -1 from by decide] at this
        omega) hm1 h2 k2 h3 k3 (by omega) hE
      exact ⟨M', a2.t b2, b1⟩
    · have e6 : (t 6 && !(r == 4)) = false := by
        cases hq : (t 6 && !(r == 4))
        · rfl
        · exact absurd ((er (t 6) true).mpr hq) c6
      rw [if_neg c6, e6, if_pos (show bI false = 0 from rfl)]
      by_cases c0 : t 0 = true ∧ t 1 = false
      · rw [if_pos c0, c0.1, c0.2, if_neg (show ¬ bI (true && !false) = 0 from by decide)]
        obtain ⟨M', b1, b2, -⟩ := long_st (a4 := M1.1 0 24) (E := E) hm1 h2 k2 h3 k3 (by omega) hE
        exact ⟨M', a2.t b2, b1⟩
      · rw [if_neg c0]
        have : (t 0 && !t 1) = false := by
          cases q0 : t 0
          · rfl
          · cases q1 : t 1
            · exact absurd ⟨q0, q1⟩ c0
            · rfl
        rw [this, if_pos (show bI false = 0 from rfl)]
        exact ⟨M1, a2, rfl⟩
end UN
