/-! sums and differences -/
def M64 (n : Int32) : Int64 := (mkV n).toInt64 &&& 4294967295
theorem um (a n : Int32) : (a &&& mkV n).toInt64 &&& 4294967295 = a.toInt64 &&& M64 n := by
  unfold M64
  rw [Int32.toInt64_and, Int64.and_assoc]
def sumS (n a b k : Int32) : Int64 := ((a.toInt64 &&& M64 n) + (b.toInt64 &&& M64 n)) + k.toInt64
def difS (n a b k : Int32) : Int64 := ((a.toInt64 &&& M64 n) - (b.toInt64 &&& M64 n)) - k.toInt64
def sumC (n a b k : Int32) : Bool := decide (M64 n < sumS n a b k)
def difC (n a b k : Int32) : Bool := decide (difS n a b k < 0)
def sumR (n a b k : Int32) : Int32 := (sumS n a b k).toInt32
def difR (n a b k : Int32) : Int32 := (difS n a b k).toInt32
def sumO (n a b k : Int32) : Bool := tb ((a ^^^ sumR n a b k) &&& (b ^^^ sumR n a b k)) (bp n)
def difO (n a b k : Int32) : Bool := tb ((a ^^^ b) &&& (a ^^^ difR n a b k)) (bp n)
theorem if_dec {α : Type} {P : Prop} [Decidable P] (x y : α) : (if P then x else y) = (if decide P then x else y) := by
  by_cases h : P
  · rw [if_pos h, decide_eq_true h]; rfl
  · rw [if_neg h, decide_eq_false h]; rfl
section SV
variable {rg : Nat → Int32} {tr wh fo kp ef : Int32} {w m : xW} {c p z s o : Bool}
theorem add_v {n : Int32} (h : wid n) (a b k : Int32) : sX2_add a b k n (sW rg (fb c p z s o) tr wh fo w) = some (sumR n a b k &&& mkV n, sW rg (fb (sumC n a b k) (par8 (sumR n a b k)) (rz n (sumR n a b k)) (tb (sumR n a b k) (bp n)) (sumO n a b k)) tr wh fo w) := by
  have j60 : ∀ (b0 : Bool) (c1 p1 z1 s1 o1 : Bool), sX2_add_j60 a b n (sumR n a b k &&& mkV n) (bI b0) (sW rg (fb c1 p1 z1 s1 o1) tr wh fo w) = some (sumR n a b k &&& mkV n, sW rg (fb b0 p1 z1 s1 (sumO n a b k)) tr wh fo w) := by
    intro b0 c1 p1 z1 s1 o1
    unfold sX2_add_j60
    have e : (((a ^^^ (sumR n a b k &&& mkV n)) &&& (b ^^^ (sumR n a b k &&& mkV n))) &&& tpV n = 0) = (sumO n a b k = false) := by
      rw [and_tp h]
      unfold sumO
      rw [tb_and, tb_xor, tb_xor, mk_top h, tb_and, tb_xor, tb_xor]
    rw [topOf_v h, xbd_some, if_tb e]
    cases q : sumO n a b k
    · rw [if_neg (by decide)]
      exact Eq.trans (congrArg (fun q => xbd q (fun _ w3 => some (sumR n a b k &&& mkV n, w3))) (tellCarry_v b0 false)) rfl
    · rw [if_pos rfl]
      exact Eq.trans (congrArg (fun q => xbd q (fun _ w3 => some (sumR n a b k &&& mkV n, w3))) (tellCarry_v b0 true)) rfl
  unfold sX2_add
  have hu : ∀ (x : Int32) (W : xW), sX11_unsigned x W = some (x.toInt64 &&& 4294967295, W) := fun _ _ => rfl
  rw [maskOf_v h, xbd_some, hu, xbd_some, hu, xbd_some, um, um]
  show xbd (sX2_tellResult (sumR n a b k &&& mkV n) n _) (fun _ w8 => xbd (sX11_unsigned (mkV n) w8) (fun x9 w10 => if x9 < sumS n a b k then sX2_add_j60 a b n (sumR n a b k &&& mkV n) 1 w10 else sX2_add_j60 a b n (sumR n a b k &&& mkV n) 0 w10)) = _
  rw [tellResult_v h, xbd_some, hu, xbd_some]
  show (if M64 n < sumS n a b k then _ else _) = _
  rw [if_dec]
  show (if sumC n a b k then _ else _) = _
  cases q : sumC n a b k
  · exact j60 false _ _ _ _ _
  · exact j60 true _ _ _ _ _
theorem subtract_v {n : Int32} (h : wid n) (a b k : Int32) : sX2_subtract a b k n (sW rg (fb c p z s o) tr wh fo w) = some (difR n a b k &&& mkV n, sW rg (fb (difC n a b k) (par8 (difR n a b k)) (rz n (difR n a b k)) (tb (difR n a b k) (bp n)) (difO n a b k)) tr wh fo w) := by
  have j56 : ∀ (b0 : Bool) (c1 p1 z1 s1 o1 : Bool), sX2_subtract_j56 a b n (difR n a b k &&& mkV n) (bI b0) (sW rg (fb c1 p1 z1 s1 o1) tr wh fo w) = some (difR n a b k &&& mkV n, sW rg (fb b0 p1 z1 s1 (difO n a b k)) tr wh fo w) := by
    intro b0 c1 p1 z1 s1 o1
    unfold sX2_subtract_j56
    have e : (((a ^^^ b) &&& (a ^^^ (difR n a b k &&& mkV n))) &&& tpV n = 0) = (difO n a b k = false) := by
      rw [and_tp h]
      unfold difO
      rw [tb_and, tb_xor, tb_xor, mk_top h, tb_and, tb_xor, tb_xor]
    rw [topOf_v h, xbd_some, if_tb e]
    cases q : difO n a b k
    · rw [if_neg (by decide)]
      exact Eq.trans (congrArg (fun q => xbd q (fun _ w3 => some (difR n a b k &&& mkV n, w3))) (tellCarry_v b0 false)) rfl
    · rw [if_pos rfl]
      exact Eq.trans (congrArg (fun q => xbd q (fun _ w3 => some (difR n a b k &&& mkV n, w3))) (tellCarry_v b0 true)) rfl
  unfold sX2_subtract
  have hu : ∀ (x : Int32) (W : xW), sX11_unsigned x W = some (x.toInt64 &&& 4294967295, W) := fun _ _ => rfl
  rw [maskOf_v h, xbd_some, hu, xbd_some, hu, xbd_some, um, um]
  show xbd (sX2_tellResult (difR n a b k &&& mkV n) n _) (fun _ w8 => if difS n a b k < 0 then sX2_subtract_j56 a b n (difR n a b k &&& mkV n) 1 w8 else sX2_subtract_j56 a b n (difR n a b k &&& mkV n) 0 w8) = _
  rw [tellResult_v h, xbd_some]
  rw [if_dec]
  show (if difC n a b k then _ else _) = _
  cases q : difC n a b k
  · exact j56 false _ _ _ _ _
  · exact j56 true _ _ _ _ _
variable {c0 p0 z0 s0 o0 : Int32}
theorem sum_v {n : Int32} (h : wid n) (a b k : Int32) : sX12_sum a b k n (tW rg c0 p0 z0 s0 o0 kp ef m) = some (sumR n a b k &&& mkV n, tW rg (bI (sumC n a b k)) (bI (par8 (sumR n a b k))) (bI (rz n (sumR n a b k))) (bI (tb (sumR n a b k) (bp n))) (bI (sumO n a b k)) kp ef m) := by
  have j47 : ∀ b0 : Bool, sX12_sum_j47 a b n (sumR n a b k) (bI b0) (tW rg c0 p0 z0 s0 o0 kp ef m) = some (sumR n a b k &&& mkV n, tW rg (bI b0) (bI (par8 (sumR n a b k))) (bI (rz n (sumR n a b k))) (bI (tb (sumR n a b k) (bp n))) (bI (sumO n a b k)) kp ef m) := by
    intro b0
    unfold sX12_sum_j47
    rw [if_pos (bI_xz b0), top_v h, xbd_some, if_pos (bI_xz _), tW_wc, tW_wo, byResult_v h, xbd_some, mask_v h, xbd_some]
    rfl
  unfold sX12_sum
  rw [mask_v h, xbd_some]
  show (if M64 n < sumS n a b k then sX12_sum_j47 a b n (sumR n a b k) 1 _ else sX12_sum_j47 a b n (sumR n a b k) 0 _) = _
  rw [if_dec]
  show (if sumC n a b k then _ else _) = _
  cases q : sumC n a b k
  · exact j47 false
  · exact j47 true
theorem difference_v {n : Int32} (h : wid n) (a b k : Int32) : sX12_difference a b k n (tW rg c0 p0 z0 s0 o0 kp ef m) = some (difR n a b k &&& mkV n, tW rg (bI (difC n a b k)) (bI (par8 (difR n a b k))) (bI (rz n (difR n a b k))) (bI (tb (difR n a b k) (bp n))) (bI (difO n a b k)) kp ef m) := by
  have j46 : ∀ b0 : Bool, sX12_difference_j46 a b n (difR n a b k) (bI b0) (tW rg c0 p0 z0 s0 o0 kp ef m) = some (difR n a b k &&& mkV n, tW rg (bI b0) (bI (par8 (difR n a b k))) (bI (rz n (difR n a b k))) (bI (tb (difR n a b k) (bp n))) (bI (difO n a b k)) kp ef m) := by
    intro b0
    unfold sX12_difference_j46
    rw [if_pos (bI_xz b0), top_v h, xbd_some, if_pos (bI_xz _), tW_wc, tW_wo, byResult_v h, xbd_some, mask_v h, xbd_some]
    rfl
  unfold sX12_difference
  rw [mask_v h, xbd_some]
  show (if difS n a b k < 0 then sX12_difference_j46 a b n (difR n a b k) 1 _ else sX12_difference_j46 a b n (difR n a b k) 0 _) = _
  rw [if_dec]
  show (if difC n a b k then _ else _) = _
  cases q : difC n a b k
  · exact j46 false
  · exact j46 true
end SV
