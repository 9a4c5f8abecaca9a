/-! the reference's questions come to the class's traits -/
theorem tab_0 : ∀ x ∈ opTab, xin x.1 54 := by decide +kernel
theorem tab_1 : ∀ x ∈ opTab, (eform x.2.2.2 = true → wEb x.2.2.1 x.2.2.2 = (!(opWr x.1 == 0) && !sGb x.2.1) ∧ wGb x.2.2.1 x.2.2.2 = (!(opWr x.1 == 0) && (sGb x.2.1 || opWr x.1 == 2)) ∧ ((x.2.2.1 = 49 ∨ x.2.2.1 = 52) → sGb x.2.1 = true)) := by decide +kernel
theorem tab_2 : ∀ x ∈ opTab, (eform x.2.2.2 = false → wGb x.2.2.1 x.2.2.2 = false ∧ sGb x.2.1 = false ∧ ((opWr x.1 = 0 ∧ (x.2.2.2 = 6 → x.2.2.1 = 10) ∧ ¬ x.2.2.2 = 13 ∧ ¬ x.2.2.2 = 14) ∨ (opWr x.1 = 1 ∧ (x.2.2.2 = 3 ∨ (x.2.2.2 = 6 ∧ ¬ x.2.2.1 = 10) ∨ x.2.2.2 = 13)) ∨ (opWr x.1 = 2 ∧ x.2.2.2 = 14))) := by decide +kernel
theorem tab_3 : ∀ x ∈ opTab, (x.1 = 4 ↔ x.2.2.1 = 4) := by decide +kernel
theorem tab_4 : ∀ x ∈ opTab, (x.1 = 1 ↔ x.2.2.1 = 1) := by decide +kernel
theorem tab_5 : ∀ x ∈ opTab, ((x.2.1 = 5 ∧ (x.1 = 44 ∨ x.1 = 45)) ↔ (x.2.2.1 = 42 ∨ x.2.2.1 = 43)) := by decide +kernel
theorem tab_6 : ∀ x ∈ opTab, (x.2.1 = 9 ↔ x.2.2.2 = 8) := by decide +kernel
theorem tab_7 : ∀ x ∈ opTab, ((x.1 = 49 ∨ x.1 = 45) ↔ (x.2.2.1 = 32 ∨ x.2.2.1 = 31 ∨ x.2.2.1 = 43)) := by decide +kernel
theorem tab_8 : ∀ x ∈ opTab, ((x.2.2.1 = 42 ∨ x.2.2.1 = 43) → opWr x.1 = 0) := by decide +kernel
theorem tab_9 : ∀ x ∈ opTab, ((x.1 = 4 ∨ x.1 = 1) → opWr x.1 = 1 ∧ (x.2.2.2 = 4 → sGb x.2.1 = false)) := by decide +kernel
theorem tab_f : ∀ x ∈ opTab, xin x.1 54 ∧ (eform x.2.2.2 = true → wEb x.2.2.1 x.2.2.2 = (!(opWr x.1 == 0) && !sGb x.2.1) ∧ wGb x.2.2.1 x.2.2.2 = (!(opWr x.1 == 0) && (sGb x.2.1 || opWr x.1 == 2)) ∧ ((x.2.2.1 = 49 ∨ x.2.2.1 = 52) → sGb x.2.1 = true)) ∧ (eform x.2.2.2 = false → wGb x.2.2.1 x.2.2.2 = false ∧ sGb x.2.1 = false ∧ ((opWr x.1 = 0 ∧ (x.2.2.2 = 6 → x.2.2.1 = 10) ∧ ¬ x.2.2.2 = 13 ∧ ¬ x.2.2.2 = 14) ∨ (opWr x.1 = 1 ∧ (x.2.2.2 = 3 ∨ (x.2.2.2 = 6 ∧ ¬ x.2.2.1 = 10) ∨ x.2.2.2 = 13)) ∨ (opWr x.1 = 2 ∧ x.2.2.2 = 14))) ∧ (x.1 = 4 ↔ x.2.2.1 = 4) ∧ (x.1 = 1 ↔ x.2.2.1 = 1) ∧ ((x.2.1 = 5 ∧ (x.1 = 44 ∨ x.1 = 45)) ↔ (x.2.2.1 = 42 ∨ x.2.2.1 = 43)) ∧ (x.2.1 = 9 ↔ x.2.2.2 = 8) ∧ ((x.1 = 49 ∨ x.1 = 45) ↔ (x.2.2.1 = 32 ∨ x.2.2.1 = 31 ∨ x.2.2.1 = 43)) ∧ ((x.2.2.1 = 42 ∨ x.2.2.1 = 43) → opWr x.1 = 0) ∧ ((x.1 = 4 ∨ x.1 = 1) → opWr x.1 = 1 ∧ (x.2.2.2 = 4 → sGb x.2.1 = false)) := fun x h => ⟨tab_0 x h, tab_1 x h, tab_2 x h, tab_3 x h, tab_4 x h, tab_5 x h, tab_6 x h, tab_7 x h, tab_8 x h, tab_9 x h⟩
section TM
variable {L : Nat} {c0 c1 c2 c3 c4 c5 c6 c7 c8 c9 c10 c11 c12 c13 a0 a1 a2 a3 a4 a5 a6 a7 a8 a9 a10 a11 a12 : Int32}
theorem wid_gt {x : Int32} (h : wid x) : decide ((1 : Int32) < x) = !(x == 1) := by rcases h with rfl | rfl | rfl <;> decide
theorem rd_sp (h : RD L c0 c1 c2 c3 c4 c5 c6 c7 c8 c9 c10 c11 c12 c13 a0 a1 a2 a3 a4 a5 a6 a7 a8 a9 a10 a11 a12) : wSb a0 a1 a3 a4 a5 a6 a7 = tSP c0 c1 c4 c6 c7 c8 := by
  obtain ⟨hT, ⟨rfl, rfl, w3, w4, hw, hw2⟩, ⟨i7, i8, -, hE⟩, hN, hC, hM⟩ := h
  obtain ⟨-, f1, f2, -⟩ := tab_f _ hT
  dsimp only at f1 f2
  unfold wSb tSP
  rw [wid_gt w3, wid_gt w4]
  rcases hE with ⟨he, rfl, rfl, hE⟩ | ⟨he, rfl, rfl, rfl, rfl, rfl, rfl, e1, e2, e3⟩
  · obtain ⟨g1, g2, g3⟩ := f1 he
    have hR : byRb a0 a1 c4 c7 = false := by
      have h6 : ¬ a1 = 6 := fun q => by rw [q] at he; exact absurd he (by decide)
      have h13 : ¬ a1 = 13 := fun q => by rw [q] at he; exact absurd he (by decide)
      have h14 : ¬ a1 = 14 := fun q => by rw [q] at he; exact absurd he (by decide)
      unfold byRb
      simp [h6, h13, h14]
    have h56 : (a5 == 3) = (c6 == 0) := by
      rcases hE with ⟨rfl, rfl, -⟩ | ⟨q | q | q, rfl, -⟩
      · rfl
      · rw [q]; rfl
      · rw [q]; rfl
      · rw [q]; rfl
    rw [g1, g2, hR, h56]
    have hww : sGb c1 = true ∨ c4 = c5 := by
      rcases hw with ⟨-, -, q⟩ | ⟨q, -⟩
      · exact Or.inr q
      · exact Or.inl (g3 q)
    rcases hww with q | rfl
    · rw [q]
      cases (opWr c0 == 0) <;> cases (opWr c0 == 2) <;> cases (c4 == 1) <;> cases (c8 == 4) <;> simp
    · cases (opWr c0 == 0) <;> cases (opWr c0 == 2) <;> cases (c4 == 1) <;> cases (c8 == 4) <;> cases sGb c1 <;> cases (c6 == 0) <;> cases (c7 == 4) <;> rfl
  · obtain ⟨g1, g2, g3⟩ := f2 he
    have hwE : wEb a0 a1 = false := by unfold wEb; rw [he]; rfl
    rw [g1, g2, hwE]
    unfold byRb
    rcases g3 with ⟨k1, k2, k3, k4⟩ | ⟨k1, k2 | ⟨k2, k3⟩ | k2⟩ | ⟨k1, k2⟩
    · rw [k1]
      by_cases h6 : a1 = 6
      · simp [h6, k2 h6]
      · simp [h6, k3, k4]
    · rw [k1, k2, e2 k2]
      simp
    · rw [k1, k2, e3 (Or.inl k2), hw2 (Or.inr (Or.inr k2))]
      simp [k3]
    · rw [k1, k2, e3 (Or.inr k2)]
      simp
      rcases w3 with rfl | rfl | rfl <;> simp
    · obtain ⟨q1, q2⟩ := e1 k2
      rw [k1, k2, q1, q2, hw2 (Or.inl k2)]
      simp
theorem rd_wm (h : RD L c0 c1 c2 c3 c4 c5 c6 c7 c8 c9 c10 c11 c12 c13 a0 a1 a2 a3 a4 a5 a6 a7 a8 a9 a10 a11 a12) : (!(a5 == 3) && wEb a0 a1) = tWM c0 c1 c6 := by
  obtain ⟨hT, -, ⟨-, -, -, hE⟩, hN, hC, hM⟩ := h
  obtain ⟨-, f1, f2, -⟩ := tab_f _ hT
  dsimp only at f1 f2
  unfold tWM
  rcases hE with ⟨he, -, -, hE⟩ | ⟨he, rfl, rfl, -⟩
  · obtain ⟨g1, g2, g3⟩ := f1 he
    rw [g1]
    rcases hE with ⟨rfl, rfl, -⟩ | ⟨q | q | q, rfl, -⟩
    · simp
    · rw [q]; simp
    · rw [q]; simp
    · rw [q]; simp
  · simp
/-- E in memory: what tWM says of the parts -/
theorem rd_mem (h : RD L c0 c1 c2 c3 c4 c5 c6 c7 c8 c9 c10 c11 c12 c13 a0 a1 a2 a3 a4 a5 a6 a7 a8 a9 a10 a11 a12) (h1 : tWM c0 c1 c6 = true) : c6 = 1 ∧ c9 = a8 ∧ c10 = a9 ∧ c12 = a11 ∧ c5 = a4 := by
  obtain ⟨hT, ⟨-, e5, -⟩, ⟨-, -, -, hE⟩, hN, hC, hM⟩ := h
  unfold tWM at h1
  rcases hE with ⟨he, -, -, hE⟩ | ⟨he, rfl, rfl, -⟩
  · rcases hE with ⟨rfl, rfl, -⟩ | ⟨-, rfl, rfl, rfl, rfl, -⟩
    · simp at h1
    · exact ⟨rfl, rfl, rfl, rfl, e5⟩
  · simp at h1
theorem rd_rj (h : RD L c0 c1 c2 c3 c4 c5 c6 c7 c8 c9 c10 c11 c12 c13 a0 a1 a2 a3 a4 a5 a6 a7 a8 a9 a10 a11 a12) : ((tRJ c0 c1 = true ∧ (a0 = 42 ∨ a0 = 43) ∧ c6 = 0 ∧ a7 = c7) ∨ (tRJ c0 c1 = false ∧ ¬ a0 = 42 ∧ ¬ a0 = 43)) ∧ (tRJ c0 c1 = true → tSP c0 c1 c4 c6 c7 c8 = false ∧ tWM c0 c1 c6 = false) := by
  obtain ⟨hT, -, ⟨-, -, -, hE⟩, hN, hC, -, hx⟩ := h
  obtain ⟨-, -, -, -, -, f6, -, -, f9, -⟩ := tab_f _ hT
  dsimp only at f6 f9
  have e : tRJ c0 c1 = true ↔ (c1 = 5 ∧ (c0 = 44 ∨ c0 = 45)) := by unfold tRJ; simp
  constructor
  · by_cases q : a0 = 42 ∨ a0 = 43
    · left
      refine ⟨e.mpr (f6.mpr q), q, hx.2 q, ?_⟩
      rcases hE with ⟨-, r, -⟩ | ⟨he, -, -, -, -, -, -, -, -, e3⟩
      · exact r.symm
      · -- only where E is: forms 5
        have : ∀ x ∈ opTab, (x.2.2.1 = 42 ∨ x.2.2.1 = 43) → eform x.2.2.2 = true := by decide +kernel
        have := this _ hT q
        rw [he] at this
        cases this
    · right
      refine ⟨?_, fun z => q (Or.inl z), fun z => q (Or.inr z)⟩
      cases hq : tRJ c0 c1
      · rfl
      · exact absurd (f6.mp (e.mp hq)) q
  · intro q
    have := f9 (f6.mp (e.mp q))
    unfold tSP tWM
    rw [this]
    exact ⟨rfl, rfl⟩
/-- the masks -/
theorem rd_mk (h : RD L c0 c1 c2 c3 c4 c5 c6 c7 c8 c9 c10 c11 c12 c13 a0 a1 a2 a3 a4 a5 a6 a7 a8 a9 a10 a11 a12) {a b : Int32} {K : Nat} {d : Int32} (hab : (a = 4 ∧ b = 131 ∧ K = 3) ∨ (a = 4 ∧ b = 129 ∧ K = 6) ∨ (a = 1 ∧ b = 129 ∧ K = 6)) :
    (tMK c0 c2 c6 c13 a b d = true ∧ a0 = a ∧ a1 = 4 ∧ a3 = 4 ∧ a5 = 3 ∧ a12 = d ∧ L = K ∧ c6 = 0 ∧ a7 = c7 ∧ in8 c7 ∧ tSP c0 c1 c4 c6 c7 c8 = (c7 == 4) ∧ tWM c0 c1 c6 = false ∧ tRJ c0 c1 = false) ∨ (tMK c0 c2 c6 c13 a b d = false ∧ ¬ (a0 = a ∧ a1 = 4 ∧ a3 = 4 ∧ a5 = 3 ∧ a12 = d ∧ L = K)) := by
  obtain ⟨hT, ⟨rfl, rfl, w3, w4, hw, hw2⟩, ⟨i7, i8, -, hE⟩, ⟨hN, -⟩, hC, ⟨hM1, hM2⟩, hx⟩ := h
  obtain ⟨-, f1, -, f4, f5, f6, -, -, f9, f10⟩ := tab_f _ hT
  dsimp only at f1 f4 f5 f6 f9 f10
  have e : tMK c0 c2 c6 c13 a b d = true ↔ (c0 = a ∧ c2 = b ∧ c6 = 0 ∧ c13 = d) := by unfold tMK; simp [and_assoc]
  have ha : (c0 = a ↔ a0 = a) := by rcases hab with ⟨rfl, -⟩ | ⟨rfl, -⟩ | ⟨rfl, -⟩ <;> assumption
  by_cases q : a0 = a ∧ a1 = 4 ∧ c4 = 4 ∧ a5 = 3 ∧ a12 = d ∧ L = K
  · left
    obtain ⟨q1, q2, q3, q4, q5, q6⟩ := q
    have he : eform a1 = true := by rw [q2]; rfl
    have h6 : c6 = 0 ∧ c7 = a7 := by
      rcases hE with ⟨-, r, -, ⟨-, r2, -⟩ | ⟨r2, -⟩⟩ | ⟨r, -⟩
      · exact ⟨r2, r⟩
      · rw [q4] at r2; exact absurd r2 (by decide)
      · rw [he] at r; cases r
    have hc0 := ha.mpr q1
    have hb : c2 = b := by
      have hm := hM2 ⟨q2, q3, by rcases hab with ⟨r, -⟩ | ⟨r, -⟩ | ⟨r, -⟩ <;> (rw [q1, r]; first | exact Or.inl rfl | exact Or.inr rfl)⟩
      have hl := (hM1 hm).2.2 h6.1
      rcases hab with ⟨-, rfl, r⟩ | ⟨-, rfl, r⟩ | ⟨-, rfl, r⟩
      · rcases hm with z | z
        · exact z
        · have := hl.2 z; omega
      · rcases hm with z | z
        · have := hl.1 z; omega
        · exact z
      · rcases hm with z | z
        · have := hl.1 z; omega
        · exact z
    have hn : c13 = a12 := hN (by rw [q2]; rfl)
    have h41 : c0 = 4 ∨ c0 = 1 := by rcases hab with ⟨r, -⟩ | ⟨r, -⟩ | ⟨r, -⟩ <;> (rw [hc0, r]; first | exact Or.inl rfl | exact Or.inr rfl)
    obtain ⟨o1, o2⟩ := f10 h41
    have o2 := o2 q2
    refine ⟨e.mpr ⟨hc0, hb, h6.1, hn.trans q5⟩, q1, q2, q3, q4, q5, q6, h6.1, h6.2.symm, i7, ?_, ?_, ?_⟩
    · unfold tSP
      rw [o1, o2, q3, h6.1]
      simp
    · unfold tWM
      rw [h6.1]
      simp
    · unfold tRJ
      rcases h41 with r | r <;> (rw [r]; simp)
  · right
    refine ⟨?_, q⟩
    cases hq : tMK c0 c2 c6 c13 a b d
    · rfl
    · exfalso
      obtain ⟨k1, k2, k3, k4⟩ := e.mp hq
      have hb : c2 = 131 ∨ c2 = 129 := by rcases hab with ⟨-, r, -⟩ | ⟨-, r, -⟩ | ⟨-, r, -⟩ <;> (rw [k2, r]; first | exact Or.inl rfl | exact Or.inr rfl)
      obtain ⟨p1, p2, p3⟩ := hM1 hb
      have hl := p3 k3
      have he : eform a1 = true := by rw [p1]; rfl
      have h5 : a5 = 3 := by
        rcases hE with ⟨-, -, -, ⟨r, -⟩ | ⟨-, r, -⟩⟩ | ⟨r, -⟩
        · exact r
        · rw [k3] at r; exact absurd r (by decide)
        · rw [he] at r; cases r
      refine q ⟨ha.mp k1, p1, p2, h5, (hN (by rw [p1]; rfl)).symm.trans k4, ?_⟩
      rcases hab with ⟨-, rfl, r⟩ | ⟨-, rfl, r⟩ | ⟨-, rfl, r⟩
      · rw [hl.1 k2, r]
      · rw [hl.2 k2, r]
      · rw [hl.2 k2, r]
theorem rd_go (h : RD L c0 c1 c2 c3 c4 c5 c6 c7 c8 c9 c10 c11 c12 c13 a0 a1 a2 a3 a4 a5 a6 a7 a8 a9 a10 a11 a12) : ((c1 == 9) = true ∧ a1 = 8 ∧ a12 = c13) ∨ ((c1 == 9) = false ∧ ¬ a1 = 8) := by
  obtain ⟨hT, -, -, ⟨hN, -⟩, -⟩ := h
  obtain ⟨-, -, -, -, -, -, f7, -⟩ := tab_f _ hT
  dsimp only at f7
  by_cases q : c1 = 9
  · left
    exact ⟨by rw [q]; rfl, f7.mp q, (hN (by rw [f7.mp q]; rfl)).symm⟩
  · right
    exact ⟨by simp [q], fun z => q (f7.mpr z)⟩
theorem rd_en (h : RD L c0 c1 c2 c3 c4 c5 c6 c7 c8 c9 c10 c11 c12 c13 a0 a1 a2 a3 a4 a5 a6 a7 a8 a9 a10 a11 a12) : (tEN c0 = true ∧ (a0 = 32 ∨ a0 = 31 ∨ a0 = 43)) ∨ (tEN c0 = false ∧ ¬ (a0 = 32 ∨ a0 = 31 ∨ a0 = 43)) := by
  obtain ⟨hT, -⟩ := h
  obtain ⟨-, -, -, -, -, -, -, f8, -⟩ := tab_f _ hT
  dsimp only at f8
  have e : tEN c0 = true ↔ (c0 = 49 ∨ c0 = 45) := by unfold tEN; simp
  by_cases q : c0 = 49 ∨ c0 = 45
  · exact Or.inl ⟨e.mpr q, f8.mp q⟩
  · refine Or.inr ⟨?_, fun z => q (f8.mpr z)⟩
    cases hq : tEN c0
    · rfl
    · exact absurd (e.mp hq) q
theorem rd_x (h : RD L c0 c1 c2 c3 c4 c5 c6 c7 c8 c9 c10 c11 c12 c13 a0 a1 a2 a3 a4 a5 a6 a7 a8 a9 a10 a11 a12) : xin c0 54 ∧ un c5 < 2 ^ 31 := by
  obtain ⟨hT, ⟨-, rfl, -, w4, -⟩, -⟩ := h
  refine ⟨(tab_f _ hT).1, ?_⟩
  rcases w4 with rfl | rfl | rfl <;> decide
end TM
/-! over the reference's world -/
theorem isIn_L (x a b : Int64) (M : xW) : sX12_isIn x a b M = some (bI (decide (a.toInt ≤ x.toInt ∧ x.toInt ≤ b.toInt)), M) := by
  unfold sX12_isIn
  have e1 : x < a ↔ x.toInt < a.toInt := Int64.lt_iff_toInt_lt
  have e2 : b < x ↔ b.toInt < x.toInt := Int64.lt_iff_toInt_lt
  by_cases h1 : x.toInt < a.toInt
  · rw [if_pos (e1.mpr h1), decide_eq_false (by omega)]; rfl
  · rw [if_neg (fun q => h1 (e1.mp q))]
    by_cases h2 : b.toInt < x.toInt
    · rw [if_pos (e2.mpr h2), decide_eq_false (by omega)]; rfl
    · rw [if_neg (fun q => h2 (e2.mp q)), decide_eq_true (by omega)]; rfl
def nrM (M : xW) : Bool := M.1 0 26 == -1 && decide (-2048 ≤ (M.1 0 28).toInt ∧ (M.1 0 28).toInt ≤ 2047)
theorem near_v (M : xW) : sX12_isNear M = some (bI (nrM M), M) := by
  unfold sX12_isNear nrM
  rw [isIn_L, Int32.toInt_toInt64, show (-2048 : Int64).toInt = -2048 from by decide, tI2047, xbd_some]
  generalize decide (-2048 ≤ (M.1 0 28).toInt ∧ (M.1 0 28).toInt ≤ 2047) = D
  by_cases h : M.1 0 26 = -1
  · rw [if_pos h, h]
    cases D <;> rfl
  · rw [if_neg h]
    simp [h, bI]
def fRest (M : xW) : Option (Int32 × xW) := (if (M.1 0 17) = (42 : Int32) then some ((4 : Int32), M) else (if (M.1 0 17) = (43 : Int32) then some ((4 : Int32), M) else (if (M.1 0 25) = (-1 : Int32) then (if (M.1 0 26) = (-1 : Int32) then xbd (sX12_isIn ((M.1 0 28).toInt64 &&& (4294967295 : Int64)) (65536 : Int64) ((131072 : Int64) - (M.1 0 21).toInt64) M) (fun x3 w4 => (if x3 = 0 then sX12_faultAt_j89 w4 else sX12_faultAt_j90 (1 : Int32) w4)) else sX12_faultAt_j89 M) else sX12_faultAt_j89 M)))
def rgOf (W : xW) : Int32 := if W.1 2 6 = 0 then W.1 2 7 else W.1 2 9
def fCode (t : Nat → Bool) (r : Int32) : Int32 := if t 5 then 4 else if t 0 then 6 else if t 1 && !(t 2 && r == 4) && !t 3 then 5 else 0
section TR
variable {L : Nat} {W M : xW}
theorem IR.sp (h : IR L W M) : sX12_writesStack M = some (bI (tOf W 0), M) := by
  rw [wS_v]
  have := rd_sp h
  rw [this]
  rfl
theorem IR.wm (h : IR L W M) : sX12_writesMemory M = some (bI (tOf W 1), M) := by
  rw [wM_v]
  have := rd_wm h
  rw [this]
  rfl
theorem IR.near (h : IR L W M) (h1 : tOf W 1 = true) {x : Int32} (hx : ¬ x = -1) : (M.1 0 25 == x && nrM M) = (tOf W 2 && rgOf W == x) := by
  obtain ⟨e6, e9, e10, e12, -⟩ := rd_mem h h1
  show _ = (tNR (W.1 2 6) (W.1 2 9) (W.1 2 10) (W.1 2 12) && rgOf W == x)
  unfold rgOf tNR nrM
  have k1 : ∀ c : Int32, decide (c < -2048) = decide (c.toInt < -2048) := fun c => decide_eq_decide.mpr (by rw [Int32.lt_iff_toInt_lt, show (-2048 : Int32).toInt = -2048 from by decide])
  have k2 : ∀ c : Int32, decide (2047 < c) = decide (2047 < c.toInt) := fun c => decide_eq_decide.mpr (by rw [Int32.lt_iff_toInt_lt, show (2047 : Int32).toInt = 2047 from by decide])
  rw [e6, if_neg n10, ← e9, ← e10, ← e12, k1, k2]
  generalize (W.1 2 12).toInt = d
  by_cases h9 : W.1 2 9 = x
  · have hd : decide (-2048 ≤ d ∧ d ≤ 2047) = (!decide (d < -2048) && !decide (2047 < d)) := by
      by_cases q1 : d < -2048
      · rw [decide_eq_true q1, decide_eq_false (by omega)]; rfl
      · by_cases q2 : 2047 < d
        · rw [decide_eq_false q1, decide_eq_true q2, decide_eq_false (by omega)]; rfl
        · rw [decide_eq_false q1, decide_eq_false q2, decide_eq_true (by omega)]; rfl
    rw [hd, h9, beq_self_eq_true, bq hx]
    generalize decide (d < -2048) = A
    generalize decide (2047 < d) = B
    cases A <;> cases B <;> cases (W.1 2 10 == -1) <;> rfl
  · rw [bq h9, Bool.and_false]; rfl
theorem IR.rest (h : IR L W M) : fRest M = some (fCode (tOf W) (rgOf W), M) := by
  have j90 : ∀ b : Bool, sX12_faultAt_j90 (bI b) M = some ((if tOf W 0 then 6 else if tOf W 1 && !(tOf W 2 && rgOf W == 4) && !b then 5 else 0), M) := by
    intro b
    unfold sX12_faultAt_j90 sX12_faultAt_j123
    rw [h.sp, xbd_some, h.wm, xbd_some, near_v, xbd_some]
    cases h0 : tOf W 0
    · rw [if_pos (show bI false = 0 from rfl)]
      cases h1 : tOf W 1
      · rw [if_pos (show bI false = 0 from rfl)]; rfl
      · rw [if_neg (by decide)]
        have hn := h.near h1 (x := 4) (by decide)
        rw [← hn]
        by_cases h4 : M.1 0 25 = 4
        · rw [if_pos h4, h4]
          cases nrM M <;> cases b <;> rfl
        · rw [if_neg h4, bq h4]
          cases b <;> rfl
    · rw [if_neg (by decide)]; rfl
  have hrj := rd_rj h
  unfold fRest fCode
  show _ = some ((if tRJ (W.1 2 0) (W.1 2 1) then 4 else _), M)
  rcases hrj with ⟨⟨q1, q2, -⟩ | ⟨q1, q2, q3⟩, -⟩
  · rw [q1]
    rcases q2 with q | q
    · rw [if_pos q]; rfl
    · rw [if_neg (by rw [q]; decide), if_pos q]; rfl
  · rw [q1, if_neg q2, if_neg q3]
    unfold sX12_faultAt_j89
    have e0 : sX12_faultAt_j90 0 M = _ := j90 false
    have e1 : sX12_faultAt_j90 1 M = _ := j90 true
    rw [e0]
    -- does it stand in DATA for ever
    obtain ⟨-, hx5⟩ := rd_x h
    have h5 : W.1 2 5 = M.1 0 21 := h.2.1.2.1
    have e5 : ((131072 : Int64) - (M.1 0 21).toInt64).toInt = 131072 - (un (W.1 2 5) : Int) := by
      have hw := h.2.1.2.2.2.1
      rw [← h5] at *
      rcases hw with q | q | q <;> (rw [q]; decide)
    rw [un_l, isIn_L, xbd_some, e0, e1, e5, show (65536 : Int64).toInt = 65536 from by decide, pk_lT (by have := un_lt (M.1 0 28); omega)]
    have hfin : ∀ b : Bool, (tOf W 1 = true → b = tOf W 3) → (if tOf W 0 then (6 : Int32) else if tOf W 1 && !(tOf W 2 && rgOf W == 4) && !b then 5 else 0) = (if false = true then (4 : Int32) else if tOf W 0 then 6 else if tOf W 1 && !(tOf W 2 && rgOf W == 4) && !tOf W 3 then 5 else 0) := by
      intro b hb
      rw [if_neg (show ¬ false = true from by decide)]
      cases h1 : tOf W 1
      · rfl
      · rw [hb h1]
    have h3 : tOf W 3 = tFX (W.1 2 5) (W.1 2 6) (W.1 2 9) (W.1 2 10) (W.1 2 12) := rfl
    by_cases h25 : M.1 0 25 = -1
    · rw [if_pos h25]
      by_cases h26 : M.1 0 26 = -1
      · rw [if_pos h26]
        have hD : tOf W 1 = true → decide ((65536 : Int) ≤ (un (M.1 0 28) : Int) ∧ (un (M.1 0 28) : Int) ≤ 131072 - (un (W.1 2 5) : Int)) = tOf W 3 := by
          intro h1
          obtain ⟨e6, e9, e10, e12, -⟩ := rd_mem h h1
          rw [h3]
          unfold tFX
          rw [e6, e9, e10, e12, h25, h26]
          show decide _ = decide (65536 ≤ un (M.1 0 28) ∧ un (M.1 0 28) + un (W.1 2 5) ≤ 131072)
          exact decide_eq_decide.mpr (by omega)
        generalize decide ((65536 : Int) ≤ (un (M.1 0 28) : Int) ∧ (un (M.1 0 28) : Int) ≤ 131072 - (un (W.1 2 5) : Int)) = D at *
        rw [← hfin D hD]
        cases D <;> rfl
      · rw [if_neg h26, hfin false]
        intro h1
        obtain ⟨e6, e9, e10, e12, -⟩ := rd_mem h h1
        rw [h3]
        unfold tFX
        rw [e10]
        simp [h26]
    · rw [if_neg h25, hfin false]
      intro h1
      obtain ⟨e6, e9, e10, e12, -⟩ := rd_mem h h1
      rw [h3]
      unfold tFX
      rw [e9]
      simp [h25]
theorem IR.and_n (h : IR L W M) (hL : M.1 0 30 = nI L) (hL2 : L < 16) : sX12_isFenceAnd (-1) M = some (bI (tOf W 6 && !(rgOf W == 4)), M) := by
  have hm := rd_mk h (a := 4) (b := 129) (K := 6) (d := 65535) (Or.inr (Or.inl ⟨rfl, rfl, rfl⟩))
  show _ = some (bI (tMK (W.1 2 0) (W.1 2 2) (W.1 2 6) (W.1 2 13) 4 129 65535 && !(rgOf W == 4)), M)
  unfold sX12_isFenceAnd sX12_isFenceAnd_j55
  rcases hm with ⟨q1, q2, q3, q4, q5, q6, q7, q8, q9, -⟩ | ⟨q1, q2⟩
  · rw [q1, if_pos q2, if_pos q3, if_pos q4, if_pos q5, if_pos (show (-1 : Int32) < 0 from by decide), if_pos q6, hL, q7, if_pos (show nI 6 = (6 : Int32) from rfl)]
    unfold rgOf
    rw [if_pos q8, q9]
    by_cases h4 : W.1 2 7 = 4
    · rw [if_pos h4, h4]; rfl
    · rw [if_neg h4, bq h4]; rfl
  · rw [q1]
    by_cases k1 : M.1 0 17 = 4
    · rw [if_pos k1]
      by_cases k2 : M.1 0 18 = 4
      · rw [if_pos k2]
        by_cases k3 : M.1 0 20 = 4
        · rw [if_pos k3]
          by_cases k4 : M.1 0 22 = 3
          · rw [if_pos k4, if_pos (show (-1 : Int32) < 0 from by decide)]
            by_cases k5 : M.1 0 29 = 65535
            · rw [if_pos k5, hL, if_neg (show ¬ nI L = 6 from fun z => q2 ⟨k1, k2, k3, k4, k5, (nI_eq (b := 6) (by omega) (by omega)).mp z⟩)]
              split <;> rfl
            · rw [if_neg k5]
              split <;> rfl
          · rw [if_neg k4]; rfl
        · rw [if_neg k3]; rfl
      · rw [if_neg k2]; rfl
    · rw [if_neg k1]; rfl
theorem IR.and_4 (h : IR L W M) (hL : M.1 0 30 = nI L) (hL2 : L < 16) : sX12_isFenceAnd 4 M = some (bI (tOf W 6 && rgOf W == 4), M) := by
  have hm := rd_mk h (a := 4) (b := 129) (K := 6) (d := 65535) (Or.inr (Or.inl ⟨rfl, rfl, rfl⟩))
  show _ = some (bI (tMK (W.1 2 0) (W.1 2 2) (W.1 2 6) (W.1 2 13) 4 129 65535 && rgOf W == 4), M)
  unfold sX12_isFenceAnd sX12_isFenceAnd_j55
  rcases hm with ⟨q1, q2, q3, q4, q5, q6, q7, q8, q9, -⟩ | ⟨q1, q2⟩
  · rw [q1, if_pos q2, if_pos q3, if_pos q4, if_pos q5, if_neg (show ¬ (4 : Int32) < 0 from by decide), if_pos q6, hL, q7, if_pos (show nI 6 = (6 : Int32) from rfl)]
    unfold rgOf
    rw [if_pos q8, q9]
    by_cases h4 : W.1 2 7 = 4
    · rw [if_pos h4, h4]; rfl
    · rw [if_neg h4, bq h4]; rfl
  · rw [q1]
    by_cases k1 : M.1 0 17 = 4
    · rw [if_pos k1]
      by_cases k2 : M.1 0 18 = 4
      · rw [if_pos k2]
        by_cases k3 : M.1 0 20 = 4
        · rw [if_pos k3]
          by_cases k4 : M.1 0 22 = 3
          · rw [if_pos k4, if_neg (show ¬ (4 : Int32) < 0 from by decide)]
            by_cases k5 : M.1 0 29 = 65535
            · rw [if_pos k5, hL, if_neg (show ¬ nI L = 6 from fun z => q2 ⟨k1, k2, k3, k4, k5, (nI_eq (b := 6) (by omega) (by omega)).mp z⟩)]
              split <;> rfl
            · rw [if_neg k5]
              split <;> rfl
          · rw [if_neg k4]; rfl
        · rw [if_neg k3]; rfl
      · rw [if_neg k2]; rfl
    · rw [if_neg k1]; rfl
theorem IR.or_x (h : IR L W M) (hL : M.1 0 30 = nI L) (hL2 : L < 16) (x : Int32) : sX12_isFenceOr x M = some (bI (tOf W 7 && rgOf W == x), M) := by
  have hm := rd_mk h (a := 1) (b := 129) (K := 6) (d := 65536) (Or.inr (Or.inr ⟨rfl, rfl, rfl⟩))
  show _ = some (bI (tMK (W.1 2 0) (W.1 2 2) (W.1 2 6) (W.1 2 13) 1 129 65536 && rgOf W == x), M)
  unfold sX12_isFenceOr
  rcases hm with ⟨q1, q2, q3, q4, q5, q6, q7, q8, q9, -⟩ | ⟨q1, q2⟩
  · rw [q1, if_pos q2, if_pos q3, if_pos q4, if_pos q5, if_pos q6, hL, q7, if_pos (show nI 6 = (6 : Int32) from rfl)]
    unfold rgOf
    rw [if_pos q8, q9]
    by_cases h4 : W.1 2 7 = x
    · rw [if_pos h4, h4, beq_self_eq_true]; rfl
    · rw [if_neg h4, bq h4]; rfl
  · rw [q1]
    by_cases k1 : M.1 0 17 = 1
    · rw [if_pos k1]
      by_cases k2 : M.1 0 18 = 4
      · rw [if_pos k2]
        by_cases k3 : M.1 0 20 = 4
        · rw [if_pos k3]
          by_cases k4 : M.1 0 22 = 3
          · rw [if_pos k4]
            by_cases k5 : M.1 0 29 = 65536
            · rw [if_pos k5, hL, if_neg (show ¬ nI L = 6 from fun z => q2 ⟨k1, k2, k3, k4, k5, (nI_eq (b := 6) (by omega) (by omega)).mp z⟩)]
              split <;> rfl
            · rw [if_neg k5]
              split <;> rfl
          · rw [if_neg k4]; rfl
        · rw [if_neg k3]; rfl
      · rw [if_neg k2]; rfl
    · rw [if_neg k1]; rfl
/-- the jump's mask -/
theorem IR.byte0 (h : IR L W M) (hL : M.1 0 30 = nI L) (hL2 : L < 16) {ρ : Type} (X Y : Option ρ) : (if (M.1 0 17) = (4 : Int32) then (if (M.1 0 18) = (4 : Int32) then (if (M.1 0 20) = (4 : Int32) then (if (M.1 0 22) = (3 : Int32) then (if (M.1 0 30) = (3 : Int32) then (if (M.1 0 29) = (-32 : Int32) then (if (M.1 0 24) = (4 : Int32) then Y else X) else Y) else Y) else Y) else Y) else Y) else Y) = (if tOf W 4 && !(rgOf W == 4) then X else Y) := by
  have hm := rd_mk h (a := 4) (b := 131) (K := 3) (d := -32) (Or.inl ⟨rfl, rfl, rfl⟩)
  show _ = (if tMK (W.1 2 0) (W.1 2 2) (W.1 2 6) (W.1 2 13) 4 131 (-32) && !(rgOf W == 4) then X else Y)
  rcases hm with ⟨q1, q2, q3, q4, q5, q6, q7, q8, q9, -⟩ | ⟨q1, q2⟩
  · rw [q1, if_pos q2, if_pos q3, if_pos q4, if_pos q5, hL, q7, if_pos (show nI 3 = (3 : Int32) from rfl), if_pos q6]
    unfold rgOf
    rw [if_pos q8, q9]
    by_cases h4 : W.1 2 7 = 4
    · rw [if_pos h4, h4]; rfl
    · rw [if_neg h4, bq h4]; rfl
  · rw [q1]
    by_cases k1 : M.1 0 17 = 4
    · rw [if_pos k1]
      by_cases k2 : M.1 0 18 = 4
      · rw [if_pos k2]
        by_cases k3 : M.1 0 20 = 4
        · rw [if_pos k3]
          by_cases k4 : M.1 0 22 = 3
          · rw [if_pos k4]
            by_cases k5 : M.1 0 29 = -32
            · rw [hL, if_neg (show ¬ nI L = 3 from fun z => q2 ⟨k1, k2, k3, k4, k5, (nI_eq (b := 3) (by omega) (by omega)).mp z⟩)]
              rfl
            · rw [if_neg k5]
              split <;> rfl
          · rw [if_neg k4]; rfl
        · rw [if_neg k3]; rfl
      · rw [if_neg k2]; rfl
    · rw [if_neg k1]; rfl
/-- what the traits have to do with one another -/
theorem IR.four (h : IR L W M) (h4 : tOf W 4 = true) : L = 3 ∧ M.1 0 24 = rgOf W ∧ in8 (rgOf W) ∧ tOf W 0 = (rgOf W == 4) ∧ tOf W 1 = false ∧ tOf W 5 = false := by
  have hm := rd_mk h (a := 4) (b := 131) (K := 3) (d := -32) (Or.inl ⟨rfl, rfl, rfl⟩)
  rcases hm with ⟨-, -, -, -, -, -, q7, q8, q9, q10, q11, q12, q13⟩ | ⟨q1, -⟩
  · have e : rgOf W = W.1 2 7 := if_pos q8
    rw [e]
    exact ⟨q7, q9, q10, q11, q12, q13⟩
  · rw [show tOf W 4 = tMK (W.1 2 0) (W.1 2 2) (W.1 2 6) (W.1 2 13) 4 131 (-32) from rfl, q1] at h4
    cases h4
theorem IR.six (h : IR L W M) (h4 : tOf W 6 = true) : L = 6 ∧ M.1 0 24 = rgOf W ∧ in8 (rgOf W) ∧ tOf W 0 = (rgOf W == 4) ∧ tOf W 1 = false ∧ tOf W 5 = false := by
  have hm := rd_mk h (a := 4) (b := 129) (K := 6) (d := 65535) (Or.inr (Or.inl ⟨rfl, rfl, rfl⟩))
  rcases hm with ⟨-, -, -, -, -, -, q7, q8, q9, q10, q11, q12, q13⟩ | ⟨q1, -⟩
  · have e : rgOf W = W.1 2 7 := if_pos q8
    rw [e]
    exact ⟨q7, q9, q10, q11, q12, q13⟩
  · rw [show tOf W 6 = tMK (W.1 2 0) (W.1 2 2) (W.1 2 6) (W.1 2 13) 4 129 65535 from rfl, q1] at h4
    cases h4
theorem IR.seven (h : IR L W M) (h4 : tOf W 7 = true) : L = 6 := by
  have hm := rd_mk h (a := 1) (b := 129) (K := 6) (d := 65536) (Or.inr (Or.inr ⟨rfl, rfl, rfl⟩))
  rcases hm with ⟨-, -, -, -, -, -, q7, -⟩ | ⟨q1, -⟩
  · exact q7
  · rw [show tOf W 7 = tMK (W.1 2 0) (W.1 2 2) (W.1 2 6) (W.1 2 13) 1 129 65536 from rfl, q1] at h4
    cases h4
theorem IR.five (h : IR L W M) : (tOf W 5 = true ∧ (M.1 0 17 = 42 ∨ M.1 0 17 = 43) ∧ M.1 0 24 = rgOf W ∧ tOf W 0 = false) ∨ (tOf W 5 = false ∧ ¬ M.1 0 17 = 42 ∧ ¬ M.1 0 17 = 43) := by
  obtain ⟨h1, h2⟩ := rd_rj h
  rcases h1 with ⟨q1, q2, q3, q4⟩ | ⟨q1, q2⟩
  · left
    have e : rgOf W = W.1 2 7 := if_pos q3
    rw [e]
    exact ⟨q1, q2, q4, (h2 q1).1⟩
  · exact Or.inr ⟨q1, q2⟩
theorem IR.eight (h : IR L W M) : (tOf W 8 = true ∧ M.1 0 18 = 8 ∧ M.1 0 29 = W.1 2 13) ∨ (tOf W 8 = false ∧ ¬ M.1 0 18 = 8) := rd_go h
theorem IR.nine (h : IR L W M) : (tOf W 9 = true ∧ (M.1 0 17 = 32 ∨ M.1 0 17 = 31 ∨ M.1 0 17 = 43)) ∨ (tOf W 9 = false ∧ ¬ (M.1 0 17 = 32 ∨ M.1 0 17 = 31 ∨ M.1 0 17 = 43)) := rd_en h
end TR
