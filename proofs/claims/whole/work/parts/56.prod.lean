/-! double shifts; products -/
theorem neg_tb (x : Int32) : (x < 0) = (tb x 31 = true) := by
  apply propext
  rw [Int32.lt_iff_toInt_lt, Int32.toInt_zero]
  unfold tb
  have e : x.toBitVec.msb = x.toBitVec.getLsbD 31 := BitVec.msb_eq_getLsbD_last x.toBitVec
  have e2 := BitVec.msb_eq_toInt (x := x.toBitVec)
  rw [← e, e2]
  exact (decide_eq_true_iff (p := x.toBitVec.toInt < 0)).symm
theorem if_neg_tb {α : Type} (v : Int32) (x y : α) : (if v < 0 then x else y) = (if tb v 31 then x else y) := by
  by_cases h : v < 0
  · rw [if_pos h, if_pos (by rw [← neg_tb]; exact h)]
  · rw [if_neg h, if_neg (by rw [← neg_tb]; exact h)]
def dbR (l : Bool) (a g : Int32) (k : Nat) : Int32 := if l then (a <<< (nI k &&& 31)) ||| xushr g (32 - nI k) else xushr a (nI k) ||| (g <<< ((32 - nI k) &&& 31))
def dbC (l : Bool) (a : Int32) (k : Nat) : Bool := if l then tb (xushr a (32 - nI k)) 0 else tb (xushr a (nI k - 1)) 0
section PRD
variable {rg : Nat → Int32} {tr wh fo kp ef : Int32} {w m : xW} {c p z s o : Bool}
theorem tellResult_4 (r : Int32) : sX2_tellResult r 4 (sW rg (fb c p z s o) tr wh fo w) = some ((), sW rg (fb c (par8 r) (rz 4 r) (tb r 31) o) tr wh fo w) := by
  have := tellResult_v (rg := rg) (tr := tr) (wh := wh) (fo := fo) (w := w) (c := c) (p := p) (z := z) (s := s) (o := o) (n := 4) (Or.inr (Or.inr rfl)) r
  rw [show mkV 4 = -1 from rfl, and_m1] at this
  exact this
theorem sd69 (a r : Int32) (b0 : Int32) : sX2_shiftDouble_j69 a r b0 (sW rg (fb c p z s o) tr wh fo w) = some (r, sW rg (fb (tb b0 0) (par8 r) (rz 4 r) (tb r 31) (Bool.xor (tb a 31) (tb r 31))) tr wh fo w) := by
  have k : ∀ x : Bool, sX2_shiftDouble_j91 a r (bI x) (sW rg (fb c (par8 r) (rz 4 r) (tb r 31) o) tr wh fo w) = some (r, sW rg (fb x (par8 r) (rz 4 r) (tb r 31) (Bool.xor (tb a 31) (tb r 31))) tr wh fo w) := by
    intro x
    unfold sX2_shiftDouble_j91
    rw [if_neg_tb, tellCarry_w x true (y := 1) rfl rfl, tellCarry_w x false (y := 0) rfl rfl, xbd_some, xbd_some, tb_xor]
    cases Bool.xor (tb a 31) (tb r 31) <;> rfl
  unfold sX2_shiftDouble_j69
  rw [tellResult_4, xbd_some, if_tb (and_1 b0)]
  cases tb b0 0
  · exact k false
  · exact k true
theorem dbl_c {cop : Int32} {l : Bool} (hop : (cop = 21 ∧ l = true) ∨ (cop = 22 ∧ l = false)) (a g : Int32) (k : Nat) : sX2_shiftDouble cop a g (nI k) (sW rg (fb c p z s o) tr wh fo w) = some (dbR l a g k, sW rg (fb (dbC l a k) (par8 (dbR l a g k)) (rz 4 (dbR l a g k)) (tb (dbR l a g k) 31) (Bool.xor (tb a 31) (tb (dbR l a g k) 31))) tr wh fo w) := by
  unfold sX2_shiftDouble
  rcases hop with ⟨rfl, rfl⟩ | ⟨rfl, rfl⟩
  · rw [if_pos (by decide), if_pos rfl]
    unfold sX2_shiftDouble_j12
    rw [if_neg (by decide)]
    unfold sX2_shiftDouble_j46
    rw [if_neg (by decide), sd69]
    rfl
  · rw [if_pos (by decide), if_neg (by decide)]
    unfold sX2_shiftDouble_j12
    rw [if_pos rfl]
    unfold sX2_shiftDouble_j46
    rw [if_pos rfl, sd69]
    rfl
theorem db93 (a r : Int32) (b0 : Int32) {c1 p1 z1 s1 o1 : Int32} : sX12_doubles_j93 a r b0 (tW rg c1 p1 z1 s1 o1 kp ef m) = xbd (sX12_setE r (tW rg (bI (tb b0 0)) (bI (par8 r)) (bI (rz 4 r)) (bI (tb r 31)) (bI (Bool.xor (tb a 31) (tb r 31))) kp ef m)) (fun _ w2 => some ((), w2)) := by
  have k : ∀ x : Bool, sX12_doubles_j103 a r (bI x) (tW rg c1 p1 z1 s1 o1 kp ef m) = xbd (sX12_setE r (tW rg (bI x) (bI (par8 r)) (bI (rz 4 r)) (bI (tb r 31)) (bI (Bool.xor (tb a 31) (tb r 31))) kp ef m)) (fun _ w2 => some ((), w2)) := by
    intro x
    have k2 : ∀ y : Bool, sX12_doubles_j134 r (bI y) (tW rg (bI x) p1 z1 s1 o1 kp ef m) = xbd (sX12_setE r (tW rg (bI x) (bI (par8 r)) (bI (rz 4 r)) (bI (tb r 31)) (bI y) kp ef m)) (fun _ w2 => some ((), w2)) := by
      intro y
      unfold sX12_doubles_j134
      rw [if_pos (bI_xz y), tW_wo, byResult_v (Or.inr (Or.inr rfl)), xbd_some]
      rfl
    unfold sX12_doubles_j103 sX12_doubles_j116 sX12_doubles_j126
    rw [if_pos (bI_xz x), tW_wc, if_neg_tb, if_neg_tb, if_neg_tb]
    have e0 := k2 false
    have e1 := k2 true
    revert e0 e1
    cases tb a 31 <;> cases tb r 31 <;> intro e0 e1 <;> first | exact e0 | exact e1
  unfold sX12_doubles_j93
  rw [if_tb (and_1 b0)]
  cases tb b0 0
  · exact k false
  · exact k true
theorem dbl_m {op : Int32} {l : Bool} (hop : (op = 46 ∧ l = true) ∨ (op = 47 ∧ l = false)) (hm : m.1 0 17 = op) (a r : Int32) (k : Nat) {c1 p1 z1 s1 o1 : Int32} : sX12_doubles_j67 (nI k) a r (tW rg c1 p1 z1 s1 o1 kp ef m) = xbd (sX12_setE r (tW rg (bI (dbC l a k)) (bI (par8 r)) (bI (rz 4 r)) (bI (tb r 31)) (bI (Bool.xor (tb a 31) (tb r 31))) kp ef m)) (fun _ w2 => some ((), w2)) := by
  unfold sX12_doubles_j67
  rw [tW_lo (by decide), hm]
  rcases hop with ⟨rfl, rfl⟩ | ⟨rfl, rfl⟩
  · rw [if_pos rfl, db93]; rfl
  · rw [if_neg (by decide), db93]; rfl
/-- products -/
def bey (x : Int64) : Bool := decide (¬ x = x.toInt32.toInt64)
theorem if_bey {α : Type} (q : Int64) (x y : α) : (if q = q.toInt32.toInt64 then x else y) = (if bey q then y else x) := by
  unfold bey
  by_cases h : q = q.toInt32.toInt64
  · rw [if_pos h, decide_eq_false (fun z => z h)]; rfl
  · rw [if_neg h, decide_eq_true h]; rfl
theorem prod_c (e : Int32) (b : Int64) : sX7_doProduct_j46 e b (sW rg (fb c p z s o) tr wh fo w) = xbd (sX7_writeG (e.toInt64 * b).toInt32 (sW rg (fb (bey (e.toInt64 * b)) (par8 (e.toInt64 * b).toInt32) (rz 4 (e.toInt64 * b).toInt32) (tb (e.toInt64 * b).toInt32 31) (bey (e.toInt64 * b))) tr wh fo w)) (fun _ w3 => some ((), w3)) := by
  have k : ∀ x : Bool, sX7_doProduct_j68 (e.toInt64 * b) (bI x) (sW rg (fb c p z s o) tr wh fo w) = xbd (sX7_writeG (e.toInt64 * b).toInt32 (sW rg (fb x (par8 (e.toInt64 * b).toInt32) (rz 4 (e.toInt64 * b).toInt32) (tb (e.toInt64 * b).toInt32 31) x) tr wh fo w)) (fun _ w3 => some ((), w3)) := by
    intro x
    unfold sX7_doProduct_j68
    rw [tellResult_4, xbd_some, tellCarry_v, xbd_some]
  unfold sX7_doProduct_j46
  rw [if_bey]
  cases bey (e.toInt64 * b)
  · exact k false
  · exact k true
theorem prod_m (e : Int32) (b : Int64) {g : Int32} (hg : in8 g) (hm : m.1 0 23 = g) {c1 p1 z1 s1 o1 : Int32} : sX12_product b e.toInt64 (tW rg c1 p1 z1 s1 o1 kp ef m) = some ((), tW (ru rg g.toNatClampNeg (e.toInt64 * b).toInt32) (bI (bey (e.toInt64 * b))) (bI (par8 (e.toInt64 * b).toInt32)) (bI (rz 4 (e.toInt64 * b).toInt32)) (bI (tb (e.toInt64 * b).toInt32 31)) (bI (bey (e.toInt64 * b))) kp ef m) := by
  have k : ∀ x : Bool, sX12_product_j21 (e.toInt64 * b) (bI x) (tW rg c1 p1 z1 s1 o1 kp ef m) = some ((), tW (ru rg g.toNatClampNeg (e.toInt64 * b).toInt32) (bI x) (bI (par8 (e.toInt64 * b).toInt32)) (bI (rz 4 (e.toInt64 * b).toInt32)) (bI (tb (e.toInt64 * b).toInt32 31)) (bI x) kp ef m) := by
    intro x
    unfold sX12_product_j21
    rw [if_pos (bI_xz x), if_pos (bI_xz x), tW_wc, tW_wo, byResult_v (Or.inr (Or.inr rfl)), xbd_some, tW_lo (by decide), hm, if_pos (in8_x hg).2.1, tW_wr]
    rfl
  unfold sX12_product
  rw [Int64.mul_comm b e.toInt64, if_bey]
  cases bey (e.toInt64 * b)
  · exact k false
  · exact k true
/-- the whole product of bytes -/
theorem tellResult_1 (r : Int32) : sX2_tellResult (r &&& 255) 1 (sW rg (fb c p z s o) tr wh fo w) = some ((), sW rg (fb c (par8 r) (rz 1 r) (tb r 7) o) tr wh fo w) := tellResult_v (n := 1) (Or.inl rfl) r
theorem mb76 (pr : Int32) (x : Bool) : sX7_multiplyByte_j76 pr (bI x) (sW rg (fb c p z s o) tr wh fo w) = some ((), sW (spr rg 0 2 pr) (fb x (par8 pr) (rz 1 pr) (tb pr 7) x) tr wh fo w) := by
  unfold sX7_multiplyByte_j76
  rw [tellResult_1, xbd_some, tellCarry_v, xbd_some, show (0 : Int32) = nI 0 from rfl, setPart_c (by decide) (Or.inr (Or.inl rfl)), xbd_some]
theorem wp95 (pr : Int32) (x : Bool) {c1 p1 z1 s1 o1 : Int32} : sX12_wholeProduct_j95 pr (bI x) (tW rg c1 p1 z1 s1 o1 kp ef m) = some ((), tW rg (bI x) (bI (par8 pr)) (bI (rz 1 pr)) (bI (tb pr 7)) (bI x) kp ef m) := by
  unfold sX12_wholeProduct_j95
  rw [if_pos (bI_xz x), tW_wc, byResult_v (Or.inl rfl), xbd_some]
  unfold sX12_wholeProduct_j217
  rw [tW_c, if_pos (bI_xz x), tW_wo]
  rfl
def b8b (q : Int32) : Bool := decide (¬ q = q.toInt8.toInt32)
theorem if_b8b {α : Type} (q : Int32) (x y : α) : (if q = q.toInt8.toInt32 then x else y) = (if b8b q then y else x) := by
  unfold b8b
  by_cases h : q = q.toInt8.toInt32
  · rw [if_pos h, decide_eq_false (fun z => z h)]; rfl
  · rw [if_neg h, decide_eq_true h]; rfl
theorem i8_m (x : Int32) : (x &&& 255).toInt8.toInt32 = x.toInt8.toInt32 := by
  have : (x &&& 255).toInt8 = x.toInt8 := by
    apply Int8.toBitVec_inj.mp
    rw [Int32.toBitVec_toInt8, Int32.toBitVec_toInt8]
    refine BitVec.eq_of_getLsbD_eq (fun i hi => ?_)
    rw [BitVec.getLsbD_signExtend, BitVec.getLsbD_signExtend, if_pos (by omega), if_pos (by omega)]
    show (decide (i < 8) && tb (x &&& 255) i) = (decide (i < 8) && tb x i)
    rw [tb_and, tb_255 i (by omega), decide_eq_true hi, Bool.and_true]
  rw [this]
theorem mul8 (a e : Int32) : ∃ q : Nat, q < 65536 ∧ (a &&& 255) * (e &&& 255) = nI q := by
  obtain ⟨j, hj, ej⟩ := pk_andE a (m := 255) 8 (by decide)
  obtain ⟨k, hk, ek⟩ := pk_andE e (m := 255) 8 (by decide)
  refine ⟨j * k, ?_, by rw [ej, ek, pk_mul]⟩
  have : j * k ≤ 255 * 255 := Nat.mul_le_mul (by omega) (by omega)
  omega
theorem mulB_p {cop op e : Int32} (he : e &&& 255 = e) (hop : (cop = 23 ∧ op = 38) ∨ (cop = 24 ∧ op = 39)) (hc : w.1 2 0 = cop) (hm : m.1 0 17 = op) (rg : Nat → Int32) (c p z s o : Bool) : ∃ (rg1 : Nat → Int32) (c1 p1 z1 s1 o1 : Bool),
    (∀ (tr wh fo : Int32), sX7_multiplyByte e (sW rg (fb c p z s o) tr wh fo w) = some ((), sW rg1 (fb c1 p1 z1 s1 o1) tr wh fo w)) ∧
    (∀ (kp ef : Int32), (if (tW rg (bI c) (bI p) (bI z) (bI s) (bI o) kp ef m).1 0 17 = 38 then (if xin (0 : Int32) 8 then sX12_wholeProduct_j51 (((tW rg (bI c) (bI p) (bI z) (bI s) (bI o) kp ef m).1 9 ((0 : Int32).toNatClampNeg) &&& 255) * (e &&& 255)) (tW rg (bI c) (bI p) (bI z) (bI s) (bI o) kp ef m) else none) else (if xin (0 : Int32) 8 then sX12_wholeProduct_j51 (((tW rg (bI c) (bI p) (bI z) (bI s) (bI o) kp ef m).1 9 ((0 : Int32).toNatClampNeg)).toInt8.toInt32 * e.toInt8.toInt32) (tW rg (bI c) (bI p) (bI z) (bI s) (bI o) kp ef m) else none)) = some ((), tW rg1 (bI c1) (bI p1) (bI z1) (bI s1) (bI o1) kp ef m)) := by
  have h0 : ∀ tr wh fo, sX7_part 0 1 (sW rg (fb c p z s o) tr wh fo w) = some (rg 0 &&& 255, sW rg (fb c p z s o) tr wh fo w) := fun tr wh fo => part_c (k := 0) (by decide) (Or.inl rfl)
  rcases hop with ⟨rfl, rfl⟩ | ⟨rfl, rfl⟩
  · obtain ⟨q, hq, eq⟩ := mul8 (rg 0) e
    have eq2 : (rg 0 &&& 255) * e = nI q := by rw [← eq, he]
    refine ⟨spr rg 0 2 (nI q), decide (255 < q), par8 (nI q), rz 1 (nI q), tb (nI q) 7, decide (255 < q), ?_, ?_⟩
    · intro tr wh fo
      unfold sX7_multiplyByte
      rw [sW_c2, hc, if_pos (by decide), if_neg (by decide)]
      unfold sX7_multiplyByte_j18
      rw [h0, xbd_some, if_pos rfl, eq2]
      unfold sX7_multiplyByte_j41
      rw [if_pos rfl]
      by_cases hb : 255 < q
      · rw [if_pos (show (255 : Int32) < nI q from (nI_ltI2 (a := 255) (by decide) (by omega)).mpr hb), decide_eq_true hb]
        exact mb76 (nI q) true
      · rw [if_neg (show ¬ (255 : Int32) < nI q from fun x => hb ((nI_ltI2 (a := 255) (by decide) (by omega)).mp x)), decide_eq_false hb]
        exact mb76 (nI q) false
    · intro kp ef
      rw [tW_lo (by decide), hm, if_pos rfl, if_pos (by decide)]
      show sX12_wholeProduct_j51 ((rg 0 &&& 255) * (e &&& 255)) _ = _
      rw [eq]
      unfold sX12_wholeProduct_j51
      rw [show (0 : Int32) = nI 0 from rfl, setReg_m (by decide) (Or.inr (Or.inl rfl)), xbd_some, tW_lo (by decide), hm, if_pos rfl, show nI q >>> ((8 : Int32) &&& 31) = nI (q / 256) from pk_shrN (by omega) _ 8 (by decide)]
      by_cases hb : 255 < q
      · rw [if_neg (show ¬ nI (q / 256) = nI 0 from fun x => by have := (nI_eq (by omega) (by decide)).mp x; omega), decide_eq_true hb]
        exact wp95 (nI q) true
      · rw [if_pos (show nI (q / 256) = nI 0 from by congr 1; omega), decide_eq_false hb]
        exact wp95 (nI q) false
  · have eq2 : (rg 0 &&& 255).toInt8.toInt32 * e.toInt8.toInt32 = (rg 0).toInt8.toInt32 * e.toInt8.toInt32 := by rw [i8_m]
    generalize hq : (rg 0).toInt8.toInt32 * e.toInt8.toInt32 = q at eq2
    refine ⟨spr rg 0 2 q, b8b q, par8 q, rz 1 q, tb q 7, b8b q, ?_, ?_⟩
    · intro tr wh fo
      unfold sX7_multiplyByte
      rw [sW_c2, hc, if_pos (by decide), if_pos rfl]
      unfold sX7_multiplyByte_j18
      rw [h0, xbd_some, if_neg (by decide), eq2]
      unfold sX7_multiplyByte_j41
      rw [if_neg (by decide), if_b8b]
      cases b8b q
      · exact mb76 q false
      · exact mb76 q true
    · intro kp ef
      rw [tW_lo (by decide), hm, if_neg (by decide), if_pos (by decide)]
      show sX12_wholeProduct_j51 ((rg 0).toInt8.toInt32 * e.toInt8.toInt32) _ = _
      rw [hq]
      unfold sX12_wholeProduct_j51
      rw [show (0 : Int32) = nI 0 from rfl, setReg_m (by decide) (Or.inr (Or.inl rfl)), xbd_some, tW_lo (by decide), hm, if_neg (by decide), if_b8b]
      cases b8b q
      · exact wp95 q false
      · exact wp95 q true
/-- the whole product of longs -/
theorem hi32 (x : Int64) : (xlushr x 32).toInt32 = (xlshr x 32).toInt32 := by
  apply Int32.toBitVec_inj.mp
  unfold xlushr xlshr
  rw [Int64.toBitVec_toInt32, Int64.toBitVec_toInt32]
  refine BitVec.eq_of_getLsbD_eq (fun i hi => ?_)
  rw [BitVec.getLsbD_signExtend, BitVec.getLsbD_signExtend, if_pos (by omega), if_pos (by omega)]
  show (decide (i < 32) && (x.toUInt64 >>> ((32 : Int32).toInt64.toUInt64 &&& Int64.toUInt64 63)).toBitVec.getLsbD i) = (decide (i < 32) && (x >>> ((32 : Int32).toInt64 &&& 63)).toBitVec.getLsbD i)
  rw [UInt64.toBitVec_shiftRight, Int64.toBitVec_shiftRight, BitVec.ushiftRight_eq', BitVec.sshiftRight_eq']
  have e1 : (((32 : Int32).toInt64.toUInt64 &&& Int64.toUInt64 63).toBitVec % 64).toNat = 32 := by decide
  have e2 : (((32 : Int32).toInt64 &&& 63).toBitVec.smod 64).toNat = 32 := by decide
  rw [e1, e2, BitVec.getLsbD_ushiftRight, BitVec.getLsbD_sshiftRight, if_pos (by omega), decide_eq_false (by omega : ¬ 64 ≤ i)]
  rfl
theorem hi0 (x : Int64) : (xlushr x 32 = 0) ↔ ((xlushr x 32).toInt32 = 0) := by
  constructor
  · intro h; rw [h]; decide
  · intro h
    apply Int64.toBitVec_inj.mp
    refine BitVec.eq_of_getLsbD_eq (fun i hi => ?_)
    have hb : (xlushr x 32).toBitVec.getLsbD i = x.toBitVec.getLsbD (32 + i) := by
      show (x.toUInt64 >>> ((32 : Int32).toInt64.toUInt64 &&& Int64.toUInt64 63)).toBitVec.getLsbD i = _
      have e1 : (((32 : Int32).toInt64.toUInt64 &&& Int64.toUInt64 63).toBitVec % 64).toNat = 32 := by decide
      rw [UInt64.toBitVec_shiftRight, BitVec.ushiftRight_eq', e1, BitVec.getLsbD_ushiftRight]
      rfl
    show _ = (0#64).getLsbD i
    rw [BitVec.getLsbD_zero]
    by_cases hi2 : i < 32
    · have q : ((xlushr x 32).toInt32).toBitVec.getLsbD i = (0 : Int32).toBitVec.getLsbD i := by rw [h]
      rw [Int64.toBitVec_toInt32, BitVec.getLsbD_signExtend, if_pos (by omega), decide_eq_true hi2, Bool.true_and] at q
      rw [q]
      exact BitVec.getLsbD_zero
    · rw [hb]
      exact BitVec.getLsbD_of_ge _ _ (by omega)
theorem ml86 (pr : Int64) (x : Bool) : sX7_multiplyLong_j86 pr (bI x) (sW rg (fb c p z s o) tr wh fo w) = some ((), sW (ru (ru rg 0 pr.toInt32) 2 (xlshr pr 32).toInt32) (fb x (par8 pr.toInt32) (rz 4 pr.toInt32) (tb pr.toInt32 31) x) tr wh fo w) := by
  unfold sX7_multiplyLong_j86
  rw [tellResult_4, xbd_some, tellCarry_v, xbd_some, if_pos (by decide), if_pos (by decide), show (0 : Int32).toNatClampNeg = 0 from rfl, show (2 : Int32).toNatClampNeg = 2 from rfl, sW_wr, sW_wr, hi32]
theorem wp207 (pr : Int64) (x : Bool) {c1 p1 z1 s1 o1 : Int32} : sX12_wholeProduct_j207 pr (bI x) (tW rg c1 p1 z1 s1 o1 kp ef m) = some ((), tW rg (bI x) (bI (par8 pr.toInt32)) (bI (rz 4 pr.toInt32)) (bI (tb pr.toInt32 31)) (bI x) kp ef m) := by
  unfold sX12_wholeProduct_j207
  rw [if_pos (bI_xz x), tW_wc, byResult_v (Or.inr (Or.inr rfl)), xbd_some]
  unfold sX12_wholeProduct_j217
  rw [tW_c, if_pos (bI_xz x), tW_wo]
  rfl
theorem mulL_p {cop op e : Int32} (hop : (cop = 23 ∧ op = 38) ∨ (cop = 24 ∧ op = 39)) (hc : w.1 2 0 = cop) (hm : m.1 0 17 = op) (rg : Nat → Int32) (c p z s o : Bool) : ∃ (rg1 : Nat → Int32) (c1 p1 z1 s1 o1 : Bool),
    (∀ (tr wh fo : Int32), sX7_multiplyLong e (sW rg (fb c p z s o) tr wh fo w) = some ((), sW rg1 (fb c1 p1 z1 s1 o1) tr wh fo w)) ∧
    (∀ (kp ef : Int32), (if (tW rg (bI c) (bI p) (bI z) (bI s) (bI o) kp ef m).1 0 17 = 38 then (if xin (0 : Int32) 8 then sX12_wholeProduct_j147 ((((tW rg (bI c) (bI p) (bI z) (bI s) (bI o) kp ef m).1 9 ((0 : Int32).toNatClampNeg)).toInt64 &&& 4294967295) * (e.toInt64 &&& 4294967295)) (tW rg (bI c) (bI p) (bI z) (bI s) (bI o) kp ef m) else none) else (if xin (0 : Int32) 8 then sX12_wholeProduct_j147 (((tW rg (bI c) (bI p) (bI z) (bI s) (bI o) kp ef m).1 9 ((0 : Int32).toNatClampNeg)).toInt64 * e.toInt64) (tW rg (bI c) (bI p) (bI z) (bI s) (bI o) kp ef m) else none)) = some ((), tW rg1 (bI c1) (bI p1) (bI z1) (bI s1) (bI o1) kp ef m)) := by
  have hu : ∀ (x : Int32) (W : xW), sX11_unsigned x W = some (x.toInt64 &&& 4294967295, W) := fun _ _ => rfl
  have h147 : ∀ (b : Int64) {c1 p1 z1 s1 o1 kp ef : Int32}, sX12_wholeProduct_j147 b (tW rg c1 p1 z1 s1 o1 kp ef m) = (if op = 38 then (if (xlshr b 32).toInt32 = 0 then sX12_wholeProduct_j207 b 0 (tW (ru (ru rg 0 b.toInt32) 2 (xlshr b 32).toInt32) c1 p1 z1 s1 o1 kp ef m) else sX12_wholeProduct_j207 b 1 (tW (ru (ru rg 0 b.toInt32) 2 (xlshr b 32).toInt32) c1 p1 z1 s1 o1 kp ef m)) else (if b = b.toInt32.toInt64 then sX12_wholeProduct_j207 b 0 (tW (ru (ru rg 0 b.toInt32) 2 (xlshr b 32).toInt32) c1 p1 z1 s1 o1 kp ef m) else sX12_wholeProduct_j207 b 1 (tW (ru (ru rg 0 b.toInt32) 2 (xlshr b 32).toInt32) c1 p1 z1 s1 o1 kp ef m))) := by
    intro b c1 p1 z1 s1 o1 kp ef
    unfold sX12_wholeProduct_j147
    rw [if_pos (by decide), if_pos (by decide), tW_lo (by decide), hm, if_pos (show xin (2 : Int32) 8 from by decide), show (0 : Int32).toNatClampNeg = 0 from rfl, show (2 : Int32).toNatClampNeg = 2 from rfl, tW_wr, tW_wr]
  rcases hop with ⟨rfl, rfl⟩ | ⟨rfl, rfl⟩
  · generalize hb : ((rg 0).toInt64 &&& 4294967295) * (e.toInt64 &&& 4294967295) = b
    refine ⟨ru (ru rg 0 b.toInt32) 2 (xlshr b 32).toInt32, decide (¬ (xlshr b 32).toInt32 = 0), par8 b.toInt32, rz 4 b.toInt32, tb b.toInt32 31, decide (¬ (xlshr b 32).toInt32 = 0), ?_, ?_⟩
    · intro tr wh fo
      unfold sX7_multiplyLong
      rw [sW_c2, hc, if_pos (by decide), if_neg (by decide)]
      unfold sX7_multiplyLong_j18
      rw [if_pos (by decide)]
      dsimp only [xlet]
      rw [if_pos rfl, hu, xbd_some, hu, xbd_some]
      show sX7_multiplyLong_j47 0 (((rg 0).toInt64 &&& 4294967295) * (e.toInt64 &&& 4294967295)) _ = _
      rw [hb]
      unfold sX7_multiplyLong_j47
      rw [if_pos rfl]
      by_cases q : (xlshr b 32).toInt32 = 0
      · rw [if_pos (show xlushr b 32 = 0 from (hi0 b).mpr (by rw [hi32]; exact q)), decide_eq_false (fun z => z q)]
        exact ml86 b false
      · rw [if_neg (show ¬ xlushr b 32 = 0 from fun z => q (by rw [← hi32]; exact (hi0 b).mp z)), decide_eq_true q]
        exact ml86 b true
    · intro kp ef
      rw [tW_lo (by decide), hm, if_pos rfl, if_pos (by decide)]
      show sX12_wholeProduct_j147 (((rg 0).toInt64 &&& 4294967295) * (e.toInt64 &&& 4294967295)) _ = _
      rw [hb, h147, if_pos rfl]
      by_cases q : (xlshr b 32).toInt32 = 0
      · rw [if_pos q, decide_eq_false (fun z => z q)]
        exact wp207 b false
      · rw [if_neg q, decide_eq_true q]
        exact wp207 b true
  · generalize hb : (rg 0).toInt64 * e.toInt64 = b
    refine ⟨ru (ru rg 0 b.toInt32) 2 (xlshr b 32).toInt32, bey b, par8 b.toInt32, rz 4 b.toInt32, tb b.toInt32 31, bey b, ?_, ?_⟩
    · intro tr wh fo
      unfold sX7_multiplyLong
      rw [sW_c2, hc, if_pos (by decide), if_pos rfl]
      unfold sX7_multiplyLong_j18
      rw [if_pos (by decide)]
      dsimp only [xlet]
      rw [if_neg (by decide)]
      show sX7_multiplyLong_j47 1 ((rg 0).toInt64 * e.toInt64) _ = _
      rw [hb]
      unfold sX7_multiplyLong_j47
      rw [if_neg (by decide), if_bey]
      cases bey b
      · exact ml86 b false
      · exact ml86 b true
    · intro kp ef
      rw [tW_lo (by decide), hm, if_neg (by decide), if_pos (by decide)]
      show sX12_wholeProduct_j147 ((rg 0).toInt64 * e.toInt64) _ = _
      rw [hb, h147, if_neg (by decide), if_bey]
      cases bey b
      · exact wp207 b false
      · exact wp207 b true
end PRD
