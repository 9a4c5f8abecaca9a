/-! look: the unit in both -/
def ucC (k i : Nat) : Bool := k == 16 || (k == 4 && (i == 8 || i == 10 || i == 11))
def ucM (k i : Nat) : Bool := k == 5 || (k == 0 && ((decide (17 ≤ i) && decide (i < 33)) || i == 9 || i == 10 || i == 11))
def MK (N : Nat) (w m : xW) : Prop := ∀ i, i < 2048 → w.1 16 i = m.1 5 i ∧ (w.1 16 i = 0 ∨ w.1 16 i = 1 ∨ w.1 16 i = 2) ∧ (N ≤ i → w.1 16 i = 0)
def mkC (q : Nat) (v : Int32) (W : xW) : xW := xwi (xwi W 16 q v) 4 8 ((W.1 4 8) + (1 : Int32))
theorem MK.st {N : Nat} {w m : xW} (h : MK N w m) (q : Nat) (v : Int32) (hq : q < N) (hv : v = 1 ∨ v = 2) : MK N (mkC q v w) (xwi m 5 q v) := by
  intro i hi
  show (xwi w 16 q v).1 16 i = (xwi m 5 q v).1 5 i ∧ ((xwi w 16 q v).1 16 i = 0 ∨ (xwi w 16 q v).1 16 i = 1 ∨ (xwi w 16 q v).1 16 i = 2) ∧ (N ≤ i → (xwi w 16 q v).1 16 i = 0)
  by_cases e : i = q
  · subst e
    rw [xwi_s, xwi_s]
    exact ⟨rfl, Or.inr hv, fun z => by omega⟩
  · rw [xwi_o (by omega), xwi_o (by omega)]; exact h i hi
theorem MK.sm {N : Nat} {w m m' : xW} (h : MK N w m) (g : SM m m') : MK N w m' := fun i hi => by rw [g.1 5 i (by omega)]; exact h i hi
theorem SM.fr {m m' : xW} (h : SM m m') : frC ucM m m' := by
  intro k i q
  refine h.1 k i (fun z => ?_)
  obtain ⟨rfl, z1, z2⟩ := z
  unfold ucM at q
  rw [decide_eq_true z1, decide_eq_true z2] at q
  cases q
theorem SM.w5 {m m' : xW} (h : SM m m') (q : Nat) (v : Int32) : SM (xwi m 5 q v) (xwi m' 5 q v) := by
  refine ⟨fun k i z => ?_, h.2⟩
  show (if k = 5 ∧ i = q then v else m'.1 k i) = if k = 5 ∧ i = q then v else m.1 k i
  by_cases e : k = 5 ∧ i = q
  · rw [if_pos e, if_pos e]
  · rw [if_neg e, if_neg e]; exact h.1 k i z
def uBody (K57 : Int32 → Int32 → Int32 → xW → Option (Int32 × xW)) (a1 a2 : Int32) (w : xW) : Option (Int32 × xW) :=
  xlet (((a1 / (32 : Int32)) + (1 : Int32)) * (32 : Int32)) (fun x1 => xbd (sX12_take a1 w) (fun x2 w3 => (if x2 = 0 then sX12_look_j105 K57 a1 a2 x1 w3 else (if x1 < (a1 + (w3.1 0 30)) then sX12_look_j105 K57 a1 a2 x1 w3 else xbd (sX12_longer a1 x1 w3) (fun x4 w5 => sX12_look_j106 K57 a1 a2 x1 x4 w5)))))
section U2
variable {B : Nat → Int32} {N : Nat}
def UOK (N p c : Nat) (w m : xW) (rc : Option (Int32 × xW)) (rm : (Int32 → Int32 → Int32 → xW → Option (Int32 × xW)) → Option (Int32 × xW)) : Prop :=
  ∃ (len k : Nat) (w' m' : xW), 0 < len ∧ p + len ≤ N ∧ 0 < k ∧ k ≤ 3 ∧ rc = some (nI len, w') ∧ (w'.1 4 10 = w.1 4 10 ∧ w'.1 4 11 = w.1 4 11) ∧ w'.1 4 8 = nI (c + k) ∧ frC ucC w w' ∧ w'.2 = w.2 ∧ MK N w' m' ∧ (∀ K57, rm K57 = K57 (nI (p + len)) (nI (c + k)) (nI p) m') ∧ frC ucM m m' ∧ m'.2 = m.2
def UBAD (p : Nat) (w m : xW) (rc : Option (Int32 × xW)) (rm : (Int32 → Int32 → Int32 → xW → Option (Int32 × xW)) → Option (Int32 × xW)) : Prop :=
  ∃ (f : Nat) (w' m' : xW), 0 < f ∧ f < 9 ∧ rc = some (0, w') ∧ w'.1 4 10 = nI f ∧ w'.1 4 11 = nI p ∧ frC ucC w w' ∧ w'.2 = w.2 ∧ (∀ K57, rm K57 = some (-1, m')) ∧ m'.1 0 10 = nI f ∧ m'.1 0 11 = nI p ∧ m'.1 0 9 = 0 ∧ frC ucM m m' ∧ m'.2 = m.2
/-- one instruction of a unit gets its mark -/
theorem ch_1 {p n to : Nat} {t : Nat → Bool} {r g : Int32} {m : xW} (hm : imgM m B N) (h1 : PL B N p n t r g) (k0 : 0 < n) (hp : p < 2048) (hto : to < 2 ^ 31) (hl : p < to) (first c last : Nat) (hfi : first < 2 ^ 31) :
    ∃ M', SM m M' ∧ ∀ K57 f, sX12_look_l149 K57 (f + 1) (nI p) (nI c) (nI last) (nI to) (nI first) m = sX12_look_l149 K57 f (nI (p + n)) (nI (c + 1)) (nI last) (nI to) (nI first) (xwi M' 5 p (if p = first then 1 else 2)) := by
  obtain ⟨M1, a1, a2, a3⟩ := h1.tk hm
  obtain ⟨-, f1⟩ := a3 k0
  refine ⟨M1, a2, fun K57 f => ?_⟩
  rw [sX12_look_l149, if_pos (nI_lq (by omega) hto hl), a1, xbd_some]
  unfold sX12_look_j178
  have hx := xin_n (k := p) (n := 2048) hp (by decide)
  have ec : (nI p).toNatClampNeg = p := nI_clamp (by omega)
  simp only [if_pos hx, ec]
  rw [f1.1, nI_add, nI_1]
  by_cases e : p = first
  · rw [if_pos (show nI p = nI first from by rw [e]), if_pos e]
  · rw [if_neg (nI_ne (by omega) hfi e), if_neg e]
theorem ch_0 {to : Nat} (hto : to < 2 ^ 31) (K57 : Int32 → Int32 → Int32 → xW → Option (Int32 × xW)) (f : Nat) (c last first : Int32) (m : xW) : sX12_look_l149 K57 (f + 1) (nI to) c last (nI to) first m = K57 (nI to) c last m := by
  rw [sX12_look_l149, if_neg (nI_nltI hto hto (by omega))]
theorem E_v (p : Nat) (hp : p < 2048) : (((nI p) / (32 : Int32)) + (1 : Int32)) * (32 : Int32) = nI ((p / 32 + 1) * 32) := by
  rw [show (32 : Int32) = nI 32 from rfl, pk_div (by omega) (by decide) (by decide), nI_1, pk_mul]
theorem leaves_v {p k : Nat} (hp : p < 2 ^ 30) (hk : k < 2 ^ 30) (W : xW) : sX5_leavesBundle (nI p) (nI k) W = some (bI (decide (32 < p % 32 + k)), W) := by
  unfold sX5_leavesBundle
  rw [pk_andN (n := p) (m := 31) (by omega) 5 (by decide), nI_add]
  by_cases h : 32 < p % 32 + k
  · rw [if_pos (show (32 : Int32) < nI (p % 2 ^ 5 + k) from nI_lq (a := 32) (by decide) (by omega) h), decide_eq_true h]; rfl
  · rw [if_neg (show ¬ (32 : Int32) < nI (p % 2 ^ 5 + k) from nI_nltI (a := 32) (by decide) (by omega) (by omega)), decide_eq_false h]; rfl
theorem mark_v {q : Nat} (hq : q < 2048) (v : Int32) (W : xW) : sX5_mark (nI q) v W = some ((), mkC q v W) := by
  unfold sX5_mark
  have hx := xin_n (k := q) (n := 2048) hq (by decide)
  rw [if_neg (nI_pos (by omega)), if_pos (show nI q < (2048 : Int32) from nI_lq (b := 2048) (by omega) (by decide) hq), if_pos hx, nI_clamp (by omega)]
  rfl
theorem frU {w W : xW} (h : frC ucC w W) (q : Nat) (v : Int32) : frC ucC w (mkC q v W) := (h.wi rfl).wi rfl
theorem fr5 {m M : xW} (h : frC ucM m M) (q : Nat) (v : Int32) : frC ucM m (xwi M 5 q v) := h.wi rfl
/-- what stands behind the reference's faultAt -/
theorem fault_v {p n E : Nat} {t : Nat → Bool} {r g : Int32} {m : xW} (hm : imgM m B N) (h1 : PL B N p n t r g) (k1 : n < 16) (hp : p < 2048) (hE : E ≤ 2048) :
    ∃ M', SM m M' ∧ (0 < n → QF n t r g M') ∧ sX12_faultAt (nI p) (nI E) m = some ((if n = 0 then 2 else if E < p + n then 3 else fCode t r), M') := by
  obtain ⟨M1, a1, a2, a3⟩ := h1.tk hm
  refine ⟨M1, a2, fun q => (a3 q).2, ?_⟩
  unfold sX12_faultAt
  rw [a1, xbd_some]
  rcases Nat.eq_zero_or_pos n with e | e
  · rw [e, if_pos ok0, if_pos rfl]
  · obtain ⟨-, f1⟩ := a3 e
    rw [ok1 e, if_neg n10, if_neg (show ¬ n = 0 from by omega), f1.1, nI_add]
    by_cases c : E < p + n
    · rw [if_pos (nI_lq (by omega) (by omega) c), if_pos c]
    · rw [if_neg (nI_nltI (by omega) (by omega) (by omega)), if_neg c]
      exact f1.rest
/-- the reference finds a fault -/
theorem ref_bad {p n E c f : Nat} {t : Nat → Bool} {r g : Int32} {m : xW} (hm : imgM m B N) (h1 : PL B N p n t r g) (k1 : n < 16) (hp : p < 2048) (hE : E ≤ 2048) (hf : 0 < f ∧ f < 9) (hc : (if n = 0 then (2 : Int32) else if E < p + n then 3 else fCode t r) = nI f) :
    ∃ m', (∀ K57, sX12_look_j106 K57 (nI p) (nI c) (nI E) (-1) m = some (-1, m')) ∧ m'.1 0 10 = nI f ∧ m'.1 0 11 = nI p ∧ m'.1 0 9 = 0 ∧ frC ucM m m' ∧ m'.2 = m.2 := by
  obtain ⟨M1, a1, a2, a3⟩ := fault_v hm h1 k1 hp hE
  refine ⟨xwi (xwi (xwi M1 0 10 (nI f)) 0 11 (nI p)) 0 9 0, fun K57 => ?_, rfl, rfl, rfl, ((a1.fr.wi rfl).wi rfl).wi rfl, a1.2⟩
  unfold sX12_look_j106 sX12_bad
  rw [if_pos rfl, a3, xbd_some, hc, if_pos (show (0 : Int32) < nI f from nI_lq (a := 0) (by decide) (by omega) hf.1), xbd_some]
/-- the reference takes one alone -/
theorem ref_one {p n E c : Nat} {t : Nat → Bool} {r g : Int32} {m : xW} (hm : imgM m B N) (h1 : PL B N p n t r g) (k0 : 0 < n) (k1 : n < 16) (hp : p < 2048) (hE : E ≤ 2048) (hpn : p + n ≤ E) (hc : fCode t r = 0) :
    ∃ M', SM m M' ∧ ∀ K57, sX12_look_j106 K57 (nI p) (nI c) (nI E) (-1) m = K57 (nI (p + n)) (nI (c + 1)) (nI p) (xwi M' 5 p 1) := by
  obtain ⟨M1, a1, a2, a3⟩ := fault_v hm h1 k1 hp hE
  obtain ⟨M2, b1, b2⟩ := ch_1 (to := p + n) (a1.img hm) h1 k0 hp (by omega) (by omega) p c p (by omega)
  refine ⟨M2, a1.t b1, fun K57 => ?_⟩
  have hq := a2 k0
  unfold sX12_look_j106
  rw [if_pos rfl, a3, xbd_some, if_neg (show ¬ n = 0 from by omega), if_neg (show ¬ E < p + n from by omega), hc, if_neg n00, hq.1, nI_add]
  rw [show (70000 : Nat) = 69998 + 1 + 1 from rfl, b2, ch_0 (by omega), if_pos rfl]
end U2
