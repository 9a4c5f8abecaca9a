/-! masks, tops, results -/
def mkV (n : Int32) : Int32 := if n = 4 then -1 else if n = 2 then 65535 else 255
def tpV (n : Int32) : Int32 := if n = 1 then 128 else if n = 2 then 32768 else -2147483648
def bp (n : Int32) : Nat := if n = 1 then 7 else if n = 2 then 15 else 31
theorem maskOf_v {n : Int32} (h : wid n) (w : xW) : sX11_maskOf n w = some (mkV n, w) := by
  unfold sX11_maskOf mkV
  rcases h with rfl | rfl | rfl <;> rfl
theorem mask_v {n : Int32} (h : wid n) (w : xW) : sX12_mask n w = some (mkV n, w) := by
  unfold sX12_mask mkV
  rcases h with rfl | rfl | rfl <;> rfl
theorem topOf_v {n : Int32} (h : wid n) (w : xW) : sX11_topOf n w = some (tpV n, w) := by
  unfold sX11_topOf tpV
  rcases h with rfl | rfl | rfl <;> rfl
theorem tb_lit1 : ∀ i, i < 32 → tb 1 i = decide (i = 0) := by decide +kernel
theorem tb_255 : ∀ i, i < 32 → tb 255 i = decide (i < 8) := by decide +kernel
theorem tb_65535 : ∀ i, i < 32 → tb 65535 i = decide (i < 16) := by decide +kernel
theorem tb_m1 : ∀ i, i < 32 → tb (-1) i = true := by decide +kernel
theorem tb_128 : ∀ i, i < 32 → tb 128 i = decide (i = 7) := by decide +kernel
theorem tb_32768 : ∀ i, i < 32 → tb 32768 i = decide (i = 15) := by decide +kernel
theorem tb_min : ∀ i, i < 32 → tb (-2147483648) i = decide (i = 31) := by decide +kernel
theorem bp_lt (n : Int32) : bp n < 32 := by unfold bp; split <;> (try split) <;> decide
theorem tb_mk {n : Int32} (h : wid n) {i : Nat} (hi : i < 32) : tb (mkV n) i = decide (i ≤ bp n) := by
  rcases h with rfl | rfl | rfl
  · rw [show mkV 1 = 255 from rfl, tb_255 i hi, show bp 1 = 7 from rfl]; exact decide_eq_decide.mpr (by omega)
  · rw [show mkV 2 = 65535 from rfl, tb_65535 i hi, show bp 2 = 15 from rfl]; exact decide_eq_decide.mpr (by omega)
  · rw [show mkV 4 = -1 from rfl, tb_m1 i hi, show bp 4 = 31 from rfl]; exact (decide_eq_true (by omega)).symm
theorem tb_tp {n : Int32} (h : wid n) {i : Nat} (hi : i < 32) : tb (tpV n) i = decide (i = bp n) := by
  rcases h with rfl | rfl | rfl
  · rw [show tpV 1 = 128 from rfl, tb_128 i hi, show bp 1 = 7 from rfl]
  · rw [show tpV 2 = 32768 from rfl, tb_32768 i hi, show bp 2 = 15 from rfl]
  · rw [show tpV 4 = -2147483648 from rfl, tb_min i hi, show bp 4 = 31 from rfl]
theorem and_bit {x t : Int32} {b : Nat} (hb : b < 32) (ht : ∀ i, i < 32 → tb t i = decide (i = b)) : (x &&& t = 0) = (tb x b = false) := by
  apply propext
  constructor
  · intro h
    have q : tb (x &&& t) b = tb 0 b := by rw [h]
    rw [tb_and, ht b hb, tb_0, decide_eq_true rfl, Bool.and_true] at q
    exact q
  · intro h
    refine i32_ext (fun i hi => ?_)
    rw [tb_and, ht i hi, tb_0]
    by_cases e : i = b
    · rw [e, h]; rfl
    · rw [decide_eq_false e, Bool.and_false]
theorem and_tp {n : Int32} (h : wid n) (x : Int32) : (x &&& tpV n = 0) = (tb x (bp n) = false) := and_bit (bp_lt n) (fun _ hi => tb_tp h hi)
theorem and_1 (x : Int32) : (x &&& 1 = 0) = (tb x 0 = false) := and_bit (by decide) tb_lit1
theorem if_tb {α : Type} {P : Prop} [Decidable P] {b : Bool} (h : P = (b = false)) (x y : α) : (if P then x else y) = (if b then y else x) := by
  cases b
  · rw [if_pos (Eq.mpr h rfl)]; rfl
  · rw [if_neg (fun q => by have q2 := Eq.mp h q; cases q2)]; rfl
theorem top_v {n : Int32} (h : wid n) (x : Int32) (w : xW) : sX12_top x n w = some (bI (tb x (bp n)), w) := by
  unfold sX12_top
  have e : (8 : Int32) * n - 1 = nI (bp n) := by rcases h with rfl | rfl | rfl <;> decide
  have e2 := and_1 (xushr x (nI (bp n)))
  rw [tb_ushr x (bp n) 0 (bp_lt n), Nat.add_zero] at e2
  rw [e, if_tb e2]
  cases tb x (bp n) <;> rfl
def bcv (p0 : Int32) : Int32 := xlet (p0 - ((xushr p0 (1 : Int32)) &&& (1431655765 : Int32))) (fun x1 => xlet ((x1 &&& (858993459 : Int32)) + ((xushr x1 (2 : Int32)) &&& (858993459 : Int32))) (fun x2 => xlet ((x2 + (xushr x2 (4 : Int32))) &&& (252645135 : Int32)) (fun x3 => xlet ((x3 + (xushr x3 (8 : Int32))) + (xushr (x3 + (xushr x3 (8 : Int32))) (16 : Int32))) (fun x4 => x4 &&& (63 : Int32)))))
def fold8 (x : Int32) : Int32 := xlet (x ^^^ (x >>> ((4 : Int32) &&& 31))) (fun x3 => xlet (x3 ^^^ (x3 >>> ((2 : Int32) &&& 31))) (fun x4 => x4 ^^^ (x4 >>> ((1 : Int32) &&& 31))))
def par8 (r : Int32) : Bool := fold8 (r &&& 255) &&& 1 == 0
theorem bc_fold : ∀ j, j < 256 → (bcv (nI j) &&& 1 == 0) = (fold8 (nI j) &&& 1 == 0) := by decide +kernel
theorem par8_c (r : Int32) : (bcv (r &&& 255) &&& 1 == 0) = par8 r := by
  obtain ⟨j, h1, h2⟩ := pk_andE r (m := 255) 8 (by decide)
  unfold par8
  rw [h2]
  exact bc_fold j h1
def rz (n r : Int32) : Bool := r &&& mkV n == 0
theorem mk_255 {n : Int32} (h : wid n) (r : Int32) : (r &&& mkV n) &&& 255 = r &&& 255 := by
  refine i32_ext (fun i hi => ?_)
  rw [tb_and, tb_and, tb_and, tb_mk h hi, tb_255 i hi]
  by_cases q : i < 8
  · have : i ≤ bp n := by unfold bp; split <;> (try split) <;> omega
    rw [decide_eq_true this, Bool.and_true]
  · rw [decide_eq_false q, Bool.and_false, Bool.and_false]
theorem mk_top {n : Int32} (h : wid n) (r : Int32) : tb (r &&& mkV n) (bp n) = tb r (bp n) := by
  rw [tb_and, tb_mk h (bp_lt n), decide_eq_true (Nat.le_refl _), Bool.and_true]
section FV
variable {rg : Nat → Int32} {tr wh fo kp ef : Int32} {w m : xW} {c p z s o : Bool}
theorem if_b {α : Type} (b : Bool) (x y : α) : (if (b = false) then x else y) = (if b then y else x) := by cases b <;> rfl
theorem tellResult_v {n : Int32} (h : wid n) (r : Int32) : sX2_tellResult (r &&& mkV n) n (sW rg (fb c p z s o) tr wh fo w) = some ((), sW rg (fb c (par8 r) (rz n r) (tb r (bp n)) o) tr wh fo w) := by
  have hb : ∀ (x : Int32) (W : xW), sJ6_bitCount_0f7a4 x W = some (bcv x, W) := fun _ _ => rfl
  have key : ∀ (b0 : Bool), sX2_tellResult_j10 (r &&& mkV n) n (if b0 then 64 else 0) (sW rg (fb c p z s o) tr wh fo w) = some ((), sW rg (fb c (par8 r) b0 (tb r (bp n)) o) tr wh fo w) := by
    intro b0
    have k2 : ∀ b1 : Bool, sX2_tellResult_j28 (r &&& mkV n) (if b1 then 128 else 0) (if b0 then 64 else 0) (sW rg (fb c p z s o) tr wh fo w) = some ((), sW rg (fb c (par8 r) b0 b1 o) tr wh fo w) := by
      intro b1
      unfold sX2_tellResult_j28 sX2_tellResult_j49
      rw [hb, xbd_some, mk_255 h]
      have e := par8_c r
      have l := fb_res c p z s o (par8 r) b0 b1
      by_cases q : bcv (r &&& 255) &&& 1 = 0
      · rw [if_pos q]
        have : par8 r = true := by rw [← e]; exact beq_iff_eq.mpr q
        rw [this] at l ⊢
        rw [sW_wfl, sW_fl]
        exact congrArg (fun x => some ((), sW rg x tr wh fo w)) l
      · rw [if_neg q]
        have : par8 r = false := by rw [← e]; exact beq_eq_false_iff_ne.mpr q
        rw [this] at l ⊢
        rw [sW_wfl, sW_fl]
        exact congrArg (fun x => some ((), sW rg x tr wh fo w)) l
    unfold sX2_tellResult_j10
    have e2 := and_tp h (r &&& mkV n)
    rw [mk_top h] at e2
    rw [topOf_v h, xbd_some, if_tb e2]
    cases q : tb r (bp n)
    · exact k2 false
    · exact k2 true
  unfold sX2_tellResult
  by_cases q : r &&& mkV n = 0
  · rw [if_pos q, show rz n r = true from beq_iff_eq.mpr q]
    exact key true
  · rw [if_neg q, show rz n r = false from beq_eq_false_iff_ne.mpr q]
    exact key false
theorem tellCarry_v (a b : Bool) : sX2_tellCarry (bI a) (bI b) (sW rg (fb c p z s o) tr wh fo w) = some ((), sW rg (fb a p z s b) tr wh fo w) := by
  unfold sX2_tellCarry sX2_tellCarry_j18
  have l := fb_cy c p z s o a b
  cases a <;> cases b <;> (simp (decide := true) only [bI, if_true, if_false, sW_fl, sW_wfl]; exact congrArg (fun x => some ((), sW rg x tr wh fo w)) l)
theorem byResult_v {n : Int32} (h : wid n) (r : Int32) {c0 p0 z0 s0 o0 : Int32} : sX12_byResult r n (tW rg c0 p0 z0 s0 o0 kp ef m) = some ((), tW rg c0 (bI (par8 r)) (bI (rz n r)) (bI (tb r (bp n))) o0 kp ef m) := by
  have key : ∀ b : Bool, sX12_byResult_j15 r n (bI b) (tW rg c0 p0 z0 s0 o0 kp ef m) = some ((), tW rg c0 (bI (par8 r)) (bI b) (bI (tb r (bp n))) o0 kp ef m) := by
    intro b
    unfold sX12_byResult_j15
    rw [if_pos (bI_xz b), top_v h, xbd_some, if_pos (bI_xz _), tW_wz, tW_ws, tW_wp, tW_wp]
    show (if fold8 (r &&& 255) &&& 1 = 0 then _ else _) = _
    by_cases q : fold8 (r &&& 255) &&& 1 = 0
    · rw [if_pos q, show par8 r = true from beq_iff_eq.mpr q]; rfl
    · rw [if_neg q, show par8 r = false from beq_eq_false_iff_ne.mpr q]; rfl
  unfold sX12_byResult
  rw [mask_v h, xbd_some]
  by_cases q : r &&& mkV n = 0
  · rw [if_pos q, show rz n r = true from beq_iff_eq.mpr q]
    exact key true
  · rw [if_neg q, show rz n r = false from beq_eq_false_iff_ne.mpr q]
    exact key false
end FV
