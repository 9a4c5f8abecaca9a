/-! what look asks of one instruction: the class's traits and the reference's questions -/
theorem bq {a b : Int32} (h : ¬ a = b) : (a == b) = false := beq_false_of_ne h
def w63 (a : Int32) : Bool := a == 36 || (a == 37 || (a == 45 || (a == 46 || (a == 47 || (a == 48 || a == 53)))))
def w18 (a : Int32) : Bool := a == 11 || (a == 15 || (a == 16 || ((!decide (a < (21 : Int32)) && !decide ((27 : Int32) < a)) || w63 a)))
def wF (a : Int32) : Bool := (!decide ((9 : Int32) < a) && !(a == 7)) || w18 a
def wEb (a0 a1 : Int32) : Bool := eform a1 && !(a1 == 2) && !(a1 == 9) && wF a0
def wGb (a0 a1 : Int32) : Bool := (a1 == 2 && !(a0 == 7) && !(a0 == 14)) || a1 == 9 || (a1 == 1 && (a0 == 15 || a0 == 53))
def sGb (c1 : Int32) : Bool := c1 == 2 || c1 == 7
theorem hasE_v (M : xW) : sX12_hasE M = some (bI (eform (M.1 0 18)), M) := by
  unfold sX12_hasE eform
  generalize M.1 0 18 = a
  repeat' split
  all_goals simp [*, bI]
theorem w63_v (M : xW) : sX12_writesFirst_j63 M = some (bI (w63 (M.1 0 17)), M) := by
  unfold sX12_writesFirst_j63 w63
  by_cases h36 : M.1 0 17 = 36
  · rw [if_pos h36, h36]; rfl
  rw [if_neg h36, bq h36]
  by_cases h37 : M.1 0 17 = 37
  · rw [if_pos h37, h37]; rfl
  rw [if_neg h37, bq h37]
  by_cases h45 : M.1 0 17 = 45
  · rw [if_pos h45, h45]; rfl
  rw [if_neg h45, bq h45]
  by_cases h46 : M.1 0 17 = 46
  · rw [if_pos h46, h46]; rfl
  rw [if_neg h46, bq h46]
  by_cases h47 : M.1 0 17 = 47
  · rw [if_pos h47, h47]; rfl
  rw [if_neg h47, bq h47]
  by_cases h48 : M.1 0 17 = 48
  · rw [if_pos h48, h48]; rfl
  rw [if_neg h48, bq h48]
  by_cases h53 : M.1 0 17 = 53
  · rw [if_pos h53, h53]; rfl
  rw [if_neg h53, bq h53]
  rfl
theorem w18_v (M : xW) : sX12_writesFirst_j18 M = some (bI (w18 (M.1 0 17)), M) := by
  unfold sX12_writesFirst_j18 w18
  rw [w63_v]
  by_cases h11 : M.1 0 17 = 11
  · rw [if_pos h11, h11]; rfl
  rw [if_neg h11, bq h11]
  by_cases h15 : M.1 0 17 = 15
  · rw [if_pos h15, h15]; rfl
  rw [if_neg h15, bq h15]
  by_cases h16 : M.1 0 17 = 16
  · rw [if_pos h16, h16]; rfl
  rw [if_neg h16, bq h16]
  by_cases g1 : M.1 0 17 < 21
  · rw [if_pos g1, decide_eq_true g1]; rfl
  rw [if_neg g1, decide_eq_false g1]
  by_cases g2 : 27 < M.1 0 17
  · rw [if_pos g2, decide_eq_true g2]; rfl
  rw [if_neg g2, decide_eq_false g2]
  rfl
theorem wF_v (M : xW) : sX12_writesFirst M = some (bI (wF (M.1 0 17)), M) := by
  unfold sX12_writesFirst wF
  rw [w18_v]
  by_cases g1 : 9 < M.1 0 17
  · rw [if_pos g1, decide_eq_true g1]; rfl
  rw [if_neg g1, decide_eq_false g1]
  by_cases g2 : M.1 0 17 = 7
  · rw [if_pos g2, g2]; rfl
  rw [if_neg g2, bq g2]
  rfl
theorem wE_v (M : xW) : sX12_writesE M = some (bI (wEb (M.1 0 17) (M.1 0 18)), M) := by
  unfold sX12_writesE wEb
  rw [hasE_v, xbd_some, wF_v]
  generalize wF (M.1 0 17) = f
  cases he : eform (M.1 0 18)
  · rfl
  · rw [if_neg (by decide)]
    by_cases h1 : M.1 0 18 = 2
    · rw [if_pos h1, h1]; rfl
    · rw [if_neg h1]
      by_cases h2 : M.1 0 18 = 9
      · rw [if_pos h2, h2]; rfl
      · rw [if_neg h2, xbd_some, if_pos (bI_xz f)]
        rw [bq h1, bq h2]; rfl
theorem wG_v (M : xW) : sX12_writesG M = some (bI (wGb (M.1 0 17) (M.1 0 18)), M) := by
  unfold sX12_writesG sX12_writesG_j30 sX12_writesG_j31 wGb
  generalize M.1 0 17 = a
  generalize M.1 0 18 = b
  rw [if_pos rfl, if_neg n10]
  repeat' split
  all_goals simp_all [bI]
theorem wM_v (M : xW) : sX12_writesMemory M = some (bI (!(M.1 0 22 == 3) && wEb (M.1 0 17) (M.1 0 18)), M) := by
  unfold sX12_writesMemory
  rw [wE_v]
  by_cases h : M.1 0 22 = 3
  · rw [if_pos h, h]; rfl
  · rw [if_neg h, xbd_some]
    cases wEb (M.1 0 17) (M.1 0 18)
    · rw [if_pos (show bI false = 0 from rfl), Bool.and_false]; rfl
    · rw [if_neg (by decide), bq h]; rfl
def byRb (a0 a1 wide rm : Int32) : Bool := (((a1 == 6 && !(a0 == 10)) || a1 == 14) && rm == 4) || (a1 == 13 && decide ((1 : Int32) < wide) && rm == 4)
def wSb (a0 a1 wide wideE mode reg rm : Int32) : Bool := (wGb a0 a1 && decide ((1 : Int32) < wide) && reg == 4) || (wEb a0 a1 && mode == 3 && decide ((1 : Int32) < wideE) && rm == 4) || byRb a0 a1 wide rm
theorem j131_v (x y z : Bool) (M : xW) : sX12_writesStack_j131 (bI x) (bI y) (bI z) M = some (bI (x || y || z), M) := by
  cases x <;> cases y <;> cases z <;> rfl
theorem j101_v (x y : Bool) (M : xW) : sX12_writesStack_j101 (bI x) (bI y) M = some (bI (x || y || (M.1 0 18 == 13 && decide ((1 : Int32) < M.1 0 20) && M.1 0 24 == 4)), M) := by
  unfold sX12_writesStack_j101 sX12_writesStack_j126 sX12_writesStack_j130
  have e1 : sX12_writesStack_j131 (bI x) (bI y) 1 M = _ := j131_v x y true M
  have e0 : sX12_writesStack_j131 (bI x) (bI y) 0 M = _ := j131_v x y false M
  rw [e1, e0]
  by_cases h1 : M.1 0 18 = 13
  · rw [if_pos h1, h1]
    by_cases h2 : 1 < M.1 0 20
    · rw [if_pos h2, decide_eq_true h2]
      by_cases h3 : M.1 0 24 = 4
      · rw [if_pos h3, h3]; rfl
      · rw [if_neg h3, bq h3]; rfl
    · rw [if_neg h2, decide_eq_false h2]; rfl
  · rw [if_neg h1, bq h1]; rfl
theorem j93_v (x y : Bool) (M : xW) : sX12_writesStack_j93 (bI x) (bI y) M = some (bI (x || y || (M.1 0 24 == 4)), M) := by
  unfold sX12_writesStack_j93 sX12_writesStack_j126
  have e1 : sX12_writesStack_j131 (bI x) (bI y) 1 M = _ := j131_v x y true M
  rw [e1, j101_v]
  by_cases h : M.1 0 24 = 4
  · rw [if_pos h, h]; rfl
  · rw [if_neg h, bq h, Bool.and_false]
theorem j65_v (x y : Bool) (M : xW) : sX12_writesStack_j65 (bI x) (bI y) M = some (bI (x || y || byRb (M.1 0 17) (M.1 0 18) (M.1 0 20) (M.1 0 24)), M) := by
  unfold sX12_writesStack_j65 sX12_writesStack_j84 byRb
  rw [j93_v, j101_v]
  by_cases h6 : M.1 0 18 = 6
  · rw [if_pos h6, h6]
    by_cases h10 : M.1 0 17 = 10
    · rw [if_pos h10, h10, if_neg (by decide)]; rfl
    · rw [if_neg h10, bq h10]
      generalize (M.1 0 24 == 4) = r
      generalize decide (1 < M.1 0 20) = d
      cases r <;> cases d <;> rfl
  · rw [if_neg h6, bq h6]
    by_cases h14 : M.1 0 18 = 14
    · rw [if_pos h14, h14]
      generalize (M.1 0 24 == 4) = r
      generalize decide (1 < M.1 0 20) = d
      cases r <;> cases d <;> rfl
    · rw [if_neg h14, bq h14]
      generalize (M.1 0 24 == 4) = r
      generalize decide (1 < M.1 0 20) = d
      cases r <;> cases d <;> rfl
theorem wS_v (M : xW) : sX12_writesStack M = some (bI (wSb (M.1 0 17) (M.1 0 18) (M.1 0 20) (M.1 0 21) (M.1 0 22) (M.1 0 23) (M.1 0 24)), M) := by
  have h28 : ∀ x : Bool, sX12_writesStack_j28 (bI x) M = some (bI (x || (wEb (M.1 0 17) (M.1 0 18) && M.1 0 22 == 3 && decide ((1 : Int32) < M.1 0 21) && M.1 0 24 == 4) || byRb (M.1 0 17) (M.1 0 18) (M.1 0 20) (M.1 0 24)), M) := by
    intro x
    unfold sX12_writesStack_j28 sX12_writesStack_j64
    have e1 : sX12_writesStack_j65 (bI x) 1 M = _ := j65_v x true M
    have e0 : sX12_writesStack_j65 (bI x) 0 M = _ := j65_v x false M
    rw [wE_v, xbd_some, e1, e0]
    cases wEb (M.1 0 17) (M.1 0 18)
    · rfl
    · rw [if_neg (by decide)]
      by_cases h1 : M.1 0 22 = 3
      · rw [if_pos h1, h1]
        by_cases h2 : 1 < M.1 0 21
        · rw [if_pos h2, decide_eq_true h2]
          by_cases h3 : M.1 0 24 = 4
          · rw [if_pos h3, h3]; rfl
          · rw [if_neg h3, bq h3]; rfl
        · rw [if_neg h2, decide_eq_false h2]; rfl
      · rw [if_neg h1, bq h1]; rfl
  unfold sX12_writesStack sX12_writesStack_j27 wSb
  have e1 : sX12_writesStack_j28 1 M = _ := h28 true
  have e0 : sX12_writesStack_j28 0 M = _ := h28 false
  rw [wG_v, xbd_some, e1, e0]
  generalize (wEb (M.1 0 17) (M.1 0 18) && M.1 0 22 == 3 && decide (1 < M.1 0 21) && M.1 0 24 == 4) = E
  generalize byRb (M.1 0 17) (M.1 0 18) (M.1 0 20) (M.1 0 24) = R
  cases wGb (M.1 0 17) (M.1 0 18)
  · rfl
  · rw [if_neg (by decide)]
    by_cases h2 : 1 < M.1 0 20
    · rw [if_pos h2, decide_eq_true h2]
      by_cases h3 : M.1 0 23 = 4
      · rw [if_pos h3, h3]; rfl
      · rw [if_neg h3, bq h3]; rfl
    · rw [if_neg h2, decide_eq_false h2]; rfl
/-! the class's side -/
def tSP (c0 c1 c4 c6 c7 c8 : Int32) : Bool := !(opWr c0 == 0) && !(c4 == 1) && (((sGb c1 || opWr c0 == 2) && c8 == 4) || ((!sGb c1 && c6 == 0) && c7 == 4))
def tWM (c0 c1 c6 : Int32) : Bool := !(opWr c0 == 0) && !(c6 == 0) && !sGb c1
def tNR (c6 c9 c10 c12 : Int32) : Bool := !(c6 == 0) && !(c9 == -1) && c10 == -1 && !decide (c12 < (-2048 : Int32)) && !decide ((2047 : Int32) < c12)
def tFX (c5 c6 c9 c10 c12 : Int32) : Bool := !(c6 == 0) && c9 == -1 && c10 == -1 && decide (65536 ≤ un c12 ∧ un c12 + un c5 ≤ 131072)
def tMK (c0 c2 c6 c13 a b d : Int32) : Bool := c0 == a && c2 == b && c6 == 0 && c13 == d
def tRJ (c0 c1 : Int32) : Bool := c1 == 5 && (c0 == 44 || c0 == 45)
def tEN (c0 : Int32) : Bool := c0 == 49 || c0 == 45
def tOf (W : xW) (k : Nat) : Bool :=
  [tSP (W.1 2 0) (W.1 2 1) (W.1 2 4) (W.1 2 6) (W.1 2 7) (W.1 2 8), tWM (W.1 2 0) (W.1 2 1) (W.1 2 6), tNR (W.1 2 6) (W.1 2 9) (W.1 2 10) (W.1 2 12), tFX (W.1 2 5) (W.1 2 6) (W.1 2 9) (W.1 2 10) (W.1 2 12),
    tMK (W.1 2 0) (W.1 2 2) (W.1 2 6) (W.1 2 13) 4 131 (-32), tRJ (W.1 2 0) (W.1 2 1), tMK (W.1 2 0) (W.1 2 2) (W.1 2 6) (W.1 2 13) 4 129 65535, tMK (W.1 2 0) (W.1 2 2) (W.1 2 6) (W.1 2 13) 1 129 65536, W.1 2 1 == 9, tEN (W.1 2 0)].getD k false
def trv (t : Nat → Bool) : Int32 := (((((((((if t 0 then (1 : Int32) else 0) ||| (if t 1 then (2 : Int32) else 0)) ||| (if t 2 then (4 : Int32) else 0)) ||| (if t 3 then (8 : Int32) else 0)) ||| (if t 4 then (16 : Int32) else 0)) ||| (if t 5 then (32 : Int32) else 0)) ||| (if t 6 then (64 : Int32) else 0)) ||| (if t 7 then (128 : Int32) else 0)) ||| (if t 8 then (256 : Int32) else 0)) ||| (if t 9 then (512 : Int32) else 0)
theorem trv_0 (t : Nat → Bool) : (trv t &&& 1 = 0) = (t 0 = false) := by
  unfold trv
  generalize t 0 = a; generalize t 1 = b; generalize t 2 = c; generalize t 3 = d; generalize t 4 = e; generalize t 5 = f; generalize t 6 = g; generalize t 7 = h; generalize t 8 = i; generalize t 9 = j
  exact propext (by revert a b c d e f g h i j; decide +kernel)
theorem trv_1 (t : Nat → Bool) : (trv t &&& 2 = 0) = (t 1 = false) := by
  unfold trv
  generalize t 0 = a; generalize t 1 = b; generalize t 2 = c; generalize t 3 = d; generalize t 4 = e; generalize t 5 = f; generalize t 6 = g; generalize t 7 = h; generalize t 8 = i; generalize t 9 = j
  exact propext (by revert a b c d e f g h i j; decide +kernel)
theorem trv_2 (t : Nat → Bool) : (trv t &&& 4 = 0) = (t 2 = false) := by
  unfold trv
  generalize t 0 = a; generalize t 1 = b; generalize t 2 = c; generalize t 3 = d; generalize t 4 = e; generalize t 5 = f; generalize t 6 = g; generalize t 7 = h; generalize t 8 = i; generalize t 9 = j
  exact propext (by revert a b c d e f g h i j; decide +kernel)
theorem trv_3 (t : Nat → Bool) : (trv t &&& 8 = 0) = (t 3 = false) := by
  unfold trv
  generalize t 0 = a; generalize t 1 = b; generalize t 2 = c; generalize t 3 = d; generalize t 4 = e; generalize t 5 = f; generalize t 6 = g; generalize t 7 = h; generalize t 8 = i; generalize t 9 = j
  exact propext (by revert a b c d e f g h i j; decide +kernel)
theorem trv_4 (t : Nat → Bool) : (trv t &&& 16 = 0) = (t 4 = false) := by
  unfold trv
  generalize t 0 = a; generalize t 1 = b; generalize t 2 = c; generalize t 3 = d; generalize t 4 = e; generalize t 5 = f; generalize t 6 = g; generalize t 7 = h; generalize t 8 = i; generalize t 9 = j
  exact propext (by revert a b c d e f g h i j; decide +kernel)
theorem trv_5 (t : Nat → Bool) : (trv t &&& 32 = 0) = (t 5 = false) := by
  unfold trv
  generalize t 0 = a; generalize t 1 = b; generalize t 2 = c; generalize t 3 = d; generalize t 4 = e; generalize t 5 = f; generalize t 6 = g; generalize t 7 = h; generalize t 8 = i; generalize t 9 = j
  exact propext (by revert a b c d e f g h i j; decide +kernel)
theorem trv_6 (t : Nat → Bool) : (trv t &&& 64 = 0) = (t 6 = false) := by
  unfold trv
  generalize t 0 = a; generalize t 1 = b; generalize t 2 = c; generalize t 3 = d; generalize t 4 = e; generalize t 5 = f; generalize t 6 = g; generalize t 7 = h; generalize t 8 = i; generalize t 9 = j
  exact propext (by revert a b c d e f g h i j; decide +kernel)
theorem trv_7 (t : Nat → Bool) : (trv t &&& 128 = 0) = (t 7 = false) := by
  unfold trv
  generalize t 0 = a; generalize t 1 = b; generalize t 2 = c; generalize t 3 = d; generalize t 4 = e; generalize t 5 = f; generalize t 6 = g; generalize t 7 = h; generalize t 8 = i; generalize t 9 = j
  exact propext (by revert a b c d e f g h i j; decide +kernel)
theorem trv_8 (t : Nat → Bool) : (trv t &&& 256 = 0) = (t 8 = false) := by
  unfold trv
  generalize t 0 = a; generalize t 1 = b; generalize t 2 = c; generalize t 3 = d; generalize t 4 = e; generalize t 5 = f; generalize t 6 = g; generalize t 7 = h; generalize t 8 = i; generalize t 9 = j
  exact propext (by revert a b c d e f g h i j; decide +kernel)
theorem trv_9 (t : Nat → Bool) : (trv t &&& 512 = 0) = (t 9 = false) := by
  unfold trv
  generalize t 0 = a; generalize t 1 = b; generalize t 2 = c; generalize t 3 = d; generalize t 4 = e; generalize t 5 = f; generalize t 6 = g; generalize t 7 = h; generalize t 8 = i; generalize t 9 = j
  exact propext (by revert a b c d e f g h i j; decide +kernel)
section TC
variable {W : xW}
theorem sG_v (W : xW) : sX6_startsWithG W = some (bI (sGb (W.1 2 1)), W) := by
  unfold sX6_startsWithG sGb
  generalize W.1 2 1 = a
  repeat' split
  all_goals simp_all [bI]
theorem SP_v (hx : xin (W.1 2 0) 54) : sX6_writesStackPointer W = some (bI (tOf W 0), W) := by
  show _ = some (bI (tSP (W.1 2 0) (W.1 2 1) (W.1 2 4) (W.1 2 6) (W.1 2 7) (W.1 2 8)), W)
  have h76 : ∀ x : Bool, sX6_writesStackPointer_j76 (bI x) W = some (bI (x && W.1 2 7 == 4), W) := by
    intro x
    unfold sX6_writesStackPointer_j76
    cases x
    · rfl
    · rw [if_neg (by decide)]
      by_cases h : W.1 2 7 = 4
      · rw [if_pos h, h]; rfl
      · rw [if_neg h, bq h]; rfl
  have h63 : ∀ x y : Bool, sX6_writesStackPointer_j63 (bI x) (bI y) W = some (bI ((x && W.1 2 8 == 4) || (y && W.1 2 7 == 4)), W) := by
    intro x y
    unfold sX6_writesStackPointer_j63
    rw [h76]
    cases x
    · rfl
    · rw [if_neg (by decide)]
      by_cases h : W.1 2 8 = 4
      · rw [if_pos h, h]; rfl
      · rw [if_neg h, bq h]; rfl
  have h43 : ∀ x : Bool, sX6_writesStackPointer_j43 (bI x) W = some (bI ((x && W.1 2 8 == 4) || ((!sGb (W.1 2 1) && W.1 2 6 == 0) && W.1 2 7 == 4)), W) := by
    intro x
    unfold sX6_writesStackPointer_j43 sX6_writesStackPointer_j62
    have e1 : sX6_writesStackPointer_j63 (bI x) 1 W = _ := h63 x true
    have e0 : sX6_writesStackPointer_j63 (bI x) 0 W = _ := h63 x false
    rw [sG_v, xbd_some, e1, e0]
    cases sGb (W.1 2 1)
    · rw [if_pos (show bI false = 0 from rfl)]
      by_cases h : W.1 2 6 = 0
      · rw [if_pos h, h]; rfl
      · rw [if_neg h, bq h]; rfl
    · rw [if_neg (by decide)]; rfl
  unfold sX6_writesStackPointer sX6_writesStackPointer_j38 tSP
  rw [if_pos hx, sG_v, xbd_some, if_pos hx, show sX6_writesStackPointer_j43 1 W = _ from h43 true, show sX6_writesStackPointer_j43 0 W = _ from h43 false]
  generalize ((!sGb (W.1 2 1) && W.1 2 6 == 0) && W.1 2 7 == 4) = E
  generalize opWr (W.1 2 0) = o
  by_cases h0 : o = 0
  · rw [if_pos h0, h0]; rfl
  · rw [if_neg h0]
    by_cases h1 : W.1 2 4 = 1
    · rw [if_pos h1, h1, bq h0]; rfl
    · rw [if_neg h1, bq h1, bq h0]
      cases sGb (W.1 2 1)
      · rw [if_pos (show bI false = 0 from rfl)]
        by_cases h2 : o = 2
        · rw [if_pos h2, h2]; rfl
        · rw [if_neg h2, bq h2]; rfl
      · rw [if_neg (by decide)]; rfl
theorem WM_v (hx : xin (W.1 2 0) 54) : sX6_writesMemory W = some (bI (tOf W 1), W) := by
  show _ = some (bI (tWM (W.1 2 0) (W.1 2 1) (W.1 2 6)), W)
  unfold sX6_writesMemory tWM
  rw [if_pos hx, sG_v, xbd_some]
  generalize opWr (W.1 2 0) = o
  by_cases h0 : o = 0
  · rw [if_pos h0, h0]; rfl
  · rw [if_neg h0]
    by_cases h1 : W.1 2 6 = 0
    · rw [if_pos h1, h1, bq h0]; rfl
    · rw [if_neg h1, bq h1, bq h0]
      cases sGb (W.1 2 1) <;> rfl
theorem NR_v : sX6_isNear W = some (bI (tOf W 2), W) := by
  show _ = some (bI (tNR (W.1 2 6) (W.1 2 9) (W.1 2 10) (W.1 2 12)), W)
  unfold sX6_isNear tNR
  generalize W.1 2 6 = a
  generalize W.1 2 9 = b
  generalize W.1 2 10 = c
  generalize W.1 2 12 = d
  repeat' split
  all_goals simp_all [bI]
theorem FX_v (h5 : un (W.1 2 5) < 2 ^ 31) : sX6_isFixedInData W = some (bI (tOf W 3), W) := by
  show _ = some (bI (tFX (W.1 2 5) (W.1 2 6) (W.1 2 9) (W.1 2 10) (W.1 2 12)), W)
  unfold sX6_isFixedInData tFX sX8_inData
  have e5 : (W.1 2 5).toInt64 = lN (un (W.1 2 5)) := by
    have := un_of (W.1 2 5)
    generalize un (W.1 2 5) = u at *
    rw [this, nI_l h5]
  rw [e5, show (65536 : Int32) = nI 65536 from rfl, show (131072 : Int32) = nI 131072 from rfl, within_v (by omega) (by decide) (by decide), xbd_some, if_pos (bI_xz _), xbd_some]
  generalize decide (65536 ≤ un (W.1 2 12) ∧ un (W.1 2 12) + un (W.1 2 5) ≤ 131072) = D
  generalize W.1 2 6 = a
  generalize W.1 2 9 = b
  generalize W.1 2 10 = c
  cases D
  all_goals repeat' split
  all_goals simp_all [bI]
theorem MK_v (hx : xin (W.1 2 0) 54) {a b d : Int32} (ha : xin a 54) : sX6_isMask a b d W = some (bI (tMK (W.1 2 0) (W.1 2 2) (W.1 2 6) (W.1 2 13) a b d), W) := by
  unfold sX6_isMask tMK
  rw [if_pos ⟨hx, ha⟩]
  generalize W.1 2 0 = x
  generalize W.1 2 2 = y
  generalize W.1 2 6 = z
  generalize W.1 2 13 = u
  repeat' split
  all_goals simp_all [bI]
theorem RJ_v (hx : xin (W.1 2 0) 54) : sX6_isRegisterJump W = some (bI (tOf W 5), W) := by
  show _ = some (bI (tRJ (W.1 2 0) (W.1 2 1)), W)
  unfold sX6_isRegisterJump tRJ
  rw [if_pos (show xin (W.1 2 0) 54 ∧ xin (44 : Int32) 54 from ⟨hx, by decide⟩), if_pos (show xin (W.1 2 0) 54 ∧ xin (45 : Int32) 54 from ⟨hx, by decide⟩)]
  generalize W.1 2 0 = x
  generalize W.1 2 1 = y
  repeat' split
  all_goals simp_all [bI]
theorem ifb {β : Type} (b : Bool) (k : Int32) (G : Int32 → xW → Option β) : xbd (some (bI b, W)) (fun x1 w2 => if x1 = 0 then G 0 w2 else G k w2) = G (if b then k else 0) W := by cases b <;> rfl
theorem traits_v (hx : xin (W.1 2 0) 54) (h5 : un (W.1 2 5) < 2 ^ 31) : sX5_traitsOfIt W = some (trv (tOf W), W) := by
  unfold sX5_traitsOfIt
  rw [SP_v hx, ifb (G := fun b w2 => sX5_traitsOfIt_j15 b w2)]
  unfold sX5_traitsOfIt_j15
  rw [WM_v hx, ifb (G := fun b w2 => sX5_traitsOfIt_j32 b _ w2)]
  unfold sX5_traitsOfIt_j32
  rw [NR_v, ifb (G := fun b w2 => sX5_traitsOfIt_j50 b _ w2)]
  unfold sX5_traitsOfIt_j50
  rw [FX_v h5, ifb (G := fun b w2 => sX5_traitsOfIt_j69 b _ w2)]
  unfold sX5_traitsOfIt_j69
  rw [MK_v hx (by decide), ifb (G := fun b w2 => sX5_traitsOfIt_j96 b _ w2)]
  unfold sX5_traitsOfIt_j96
  rw [RJ_v hx, ifb (G := fun b w2 => sX5_traitsOfIt_j115 b _ w2)]
  unfold sX5_traitsOfIt_j115
  rw [MK_v hx (by decide), ifb (G := fun b w2 => sX5_traitsOfIt_j142 b _ w2)]
  unfold sX5_traitsOfIt_j142
  rw [MK_v hx (by decide), ifb (G := fun b w2 => sX5_traitsOfIt_j170 b _ w2)]
  unfold sX5_traitsOfIt_j170 sX5_traitsOfIt_j192 sX5_traitsOfIt_j221
  rw [if_pos (show xin (W.1 2 0) 54 ∧ xin (49 : Int32) 54 from ⟨hx, by decide⟩), if_pos (show xin (W.1 2 0) 54 ∧ xin (45 : Int32) 54 from ⟨hx, by decide⟩), if_pos (show xin (W.1 2 0) 54 ∧ xin (49 : Int32) 54 from ⟨hx, by decide⟩), if_pos (show xin (W.1 2 0) 54 ∧ xin (45 : Int32) 54 from ⟨hx, by decide⟩)]
  unfold trv
  rw [show tOf W 4 = tMK (W.1 2 0) (W.1 2 2) (W.1 2 6) (W.1 2 13) 4 131 (-32) from rfl, show tOf W 6 = tMK (W.1 2 0) (W.1 2 2) (W.1 2 6) (W.1 2 13) 4 129 65535 from rfl, show tOf W 7 = tMK (W.1 2 0) (W.1 2 2) (W.1 2 6) (W.1 2 13) 1 129 65536 from rfl, show tOf W 8 = (W.1 2 1 == 9) from rfl, show tOf W 9 = tEN (W.1 2 0) from rfl]
  unfold tEN
  generalize W.1 2 0 = x
  by_cases h8 : W.1 2 1 = 9
  · rw [if_pos h8, h8]
    by_cases h49 : x = 49
    · rw [if_pos h49, h49]; simp
    · rw [if_neg h49]
      by_cases h45 : x = 45
      · rw [if_pos h45, h45]; simp
      · rw [if_neg h45]; simp [h49, h45]
  · rw [if_neg h8]
    by_cases h49 : x = 49
    · rw [if_pos h49, h49]; simp [h8]
    · rw [if_neg h49]
      by_cases h45 : x = 45
      · rw [if_pos h45, h45]; simp [h8]
      · rw [if_neg h45]; simp [h8, h49, h45]
end TC
