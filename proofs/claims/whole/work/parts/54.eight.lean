/-! the eight, and test; single ones -/
theorem mkM64 {n : Int32} (h : wid n) (b : Int32) : (b &&& mkV n).toInt64 &&& M64 n = b.toInt64 &&& M64 n := by
  rw [← um, mk_idem h, um]
theorem sumS_mk {n : Int32} (h : wid n) (a b k : Int32) : sumS n a (b &&& mkV n) k = sumS n a b k := by unfold sumS; rw [mkM64 h]
theorem difS_mk {n : Int32} (h : wid n) (a b k : Int32) : difS n a (b &&& mkV n) k = difS n a b k := by unfold difS; rw [mkM64 h]
theorem sumR_mk {n : Int32} (h : wid n) (a b k : Int32) : sumR n a (b &&& mkV n) k = sumR n a b k := by unfold sumR; rw [sumS_mk h]
theorem difR_mk {n : Int32} (h : wid n) (a b k : Int32) : difR n a (b &&& mkV n) k = difR n a b k := by unfold difR; rw [difS_mk h]
theorem sumC_mk {n : Int32} (h : wid n) (a b k : Int32) : sumC n a (b &&& mkV n) k = sumC n a b k := by unfold sumC; rw [sumS_mk h]
theorem difC_mk {n : Int32} (h : wid n) (a b k : Int32) : difC n a (b &&& mkV n) k = difC n a b k := by unfold difC; rw [difS_mk h]
theorem sumO_mk {n : Int32} (h : wid n) (a b k : Int32) : sumO n a (b &&& mkV n) k = sumO n a b k := by
  unfold sumO
  rw [sumR_mk h, tb_and, tb_xor, tb_xor, mk_top h, tb_and, tb_xor, tb_xor]
theorem difO_mk {n : Int32} (h : wid n) (a b k : Int32) : difO n a (b &&& mkV n) k = difO n a b k := by
  unfold difO
  rw [difR_mk h, tb_and, tb_xor, tb_xor, mk_top h, tb_and, tb_xor, tb_xor]
theorem xbd_id {α : Type} (r : Option (α × xW)) : xbd r (fun x w => some (x, w)) = r := by cases r <;> rfl
def eiTab : List (Int32 × Int32) := [(0, 0), (1, 1), (2, 2), (3, 3), (4, 4), (5, 5), (6, 6), (7, 7), (16, 4)]
section EI
variable {n : Int32}
/-- one of the eight came to the same: value in its width, flags -/
def EI (n cop what a b b2 : Int32) (c p z s o : Bool) : Prop :=
  ∃ (r r2 : Int32) (c1 p1 z1 s1 o1 : Bool), r &&& mkV n = r2 &&& mkV n ∧
    (∀ (rg : Nat → Int32) (tr wh fo : Int32) (w : xW), sX2_two cop a b n (sW rg (fb c p z s o) tr wh fo w) = some (r, sW rg (fb c1 p1 z1 s1 o1) tr wh fo w)) ∧
    (∀ (rg : Nat → Int32) (kp ef : Int32) (m : xW), sX12_eight what a b2 n (tW rg (bI c) (bI p) (bI z) (bI s) (bI o) kp ef m) = some (r2, tW rg (bI c1) (bI p1) (bI z1) (bI s1) (bI o1) kp ef m))
theorem two_0 {cop a b : Int32} {c p z s o : Bool} {rg : Nat → Int32} {tr wh fo : Int32} {w : xW} : sX2_two cop a b n (sW rg (fb c p z s o) tr wh fo w) = sX2_two_j13 cop a b n (bI c) (sW rg (fb c p z s o) tr wh fo w) := by
  unfold sX2_two sX2_has
  rw [sW_fl, if_tb (fb_c c p z s o)]
  cases c <;> rfl
theorem bitw_v (h : wid n) (r : Int32) {c p z s o : Bool} {rg : Nat → Int32} {tr wh fo : Int32} {w : xW} : sX2_bitwise (r &&& mkV n) n (sW rg (fb c p z s o) tr wh fo w) = some (r &&& mkV n, sW rg (fb false (par8 r) (rz n r) (tb r (bp n)) false) tr wh fo w) := by
  unfold sX2_bitwise
  rw [tellResult_v h, xbd_some]
  exact Eq.trans (congrArg (fun q => xbd q (fun _ w2 => some (r &&& mkV n, w2))) (tellCarry_v false false)) rfl
theorem bitw_m (h : wid n) (r : Int32) {c p z s o : Int32} {rg : Nat → Int32} {kp ef : Int32} {m : xW} : sX12_eight_j135 n r (tW rg c p z s o kp ef m) = some (r &&& mkV n, tW rg (bI false) (bI (par8 r)) (bI (rz n r)) (bI (tb r (bp n))) (bI false) kp ef m) := by
  unfold sX12_eight_j135
  rw [tW_wc, tW_wo, byResult_v h, xbd_some, mask_v h, xbd_some]
  rfl
theorem or_mk {a b t : Int32} (ha : a &&& t = a) : a ||| (b &&& t) = (a ||| b) &&& t := by
  refine i32_ext (fun i _ => ?_)
  have e : tb a i = (tb a i && tb t i) := by rw [← tb_and, ha]
  rw [tb_or, tb_and, tb_and, tb_or, e]
  cases tb a i <;> cases tb b i <;> cases tb t i <;> rfl
theorem xor_mk {a b t : Int32} (ha : a &&& t = a) : a ^^^ (b &&& t) = (a ^^^ b) &&& t := by
  refine i32_ext (fun i _ => ?_)
  have e : tb a i = (tb a i && tb t i) := by rw [← tb_and, ha]
  rw [tb_xor, tb_and, tb_and, tb_xor, e]
  cases tb a i <;> cases tb b i <;> cases tb t i <;> rfl
theorem and_mk {a b t : Int32} : a &&& (b &&& t) = (a &&& b) &&& t := (Int32.and_assoc a b t).symm
theorem eight_p (h : wid n) {cop what a b2 : Int32} (ht : (cop, what) ∈ eiTab) (ha : a &&& mkV n = a) (c p z s o : Bool) : EI n cop what a (b2 &&& mkV n) b2 c p z s o := by
  simp only [eiTab, List.mem_cons, List.not_mem_nil, or_false, Prod.mk.injEq] at ht
  rcases ht with ⟨rfl, rfl⟩ | ⟨rfl, rfl⟩ | ⟨rfl, rfl⟩ | ⟨rfl, rfl⟩ | ⟨rfl, rfl⟩ | ⟨rfl, rfl⟩ | ⟨rfl, rfl⟩ | ⟨rfl, rfl⟩ | ⟨rfl, rfl⟩
  · refine ⟨sumR n a b2 0 &&& mkV n, sumR n a b2 0 &&& mkV n, sumC n a b2 0, par8 (sumR n a b2 0), rz n (sumR n a b2 0), tb (sumR n a b2 0) (bp n), sumO n a b2 0, rfl, fun rg tr wh fo w => ?_, fun rg kp ef m => ?_⟩
    · rw [two_0]
      show xbd (sX2_add a (b2 &&& mkV n) 0 n _) (fun x3 w4 => some (x3, w4)) = _
      rw [add_v h, xbd_some, sumR_mk h, sumC_mk h, sumO_mk h]
    · show xbd (sX12_sum a b2 0 n _) (fun x1 w2 => some (x1, w2)) = _
      rw [sum_v h, xbd_some]
  · refine ⟨(a ||| b2) &&& mkV n, (a ||| b2) &&& mkV n, false, par8 (a ||| b2), rz n (a ||| b2), tb (a ||| b2) (bp n), false, rfl, fun rg tr wh fo w => ?_, fun rg kp ef m => ?_⟩
    · rw [two_0]
      show xbd (sX2_bitwise (a ||| (b2 &&& mkV n)) n _) (fun x3 w4 => some (x3, w4)) = _
      rw [or_mk ha, bitw_v h, xbd_some]
    · show sX12_eight_j135 n (a ||| b2) _ = _
      rw [bitw_m h]
  · refine ⟨sumR n a b2 (bI c) &&& mkV n, sumR n a b2 (bI c) &&& mkV n, sumC n a b2 (bI c), par8 (sumR n a b2 (bI c)), rz n (sumR n a b2 (bI c)), tb (sumR n a b2 (bI c)) (bp n), sumO n a b2 (bI c), rfl, fun rg tr wh fo w => ?_, fun rg kp ef m => ?_⟩
    · rw [two_0]
      show xbd (sX2_add a (b2 &&& mkV n) (bI c) n _) (fun x3 w4 => some (x3, w4)) = _
      rw [add_v h, xbd_some, sumR_mk h, sumC_mk h, sumO_mk h]
    · show (if bI c = 0 then xbd (sX12_sum a b2 0 n _) (fun x3 w4 => some (x3, w4)) else xbd (sX12_sum a b2 1 n _) (fun x5 w6 => some (x5, w6))) = _
      rw [xbd_id, xbd_id]
      have q : ∀ W, (if bI c = 0 then sX12_sum a b2 0 n W else sX12_sum a b2 1 n W) = sX12_sum a b2 (bI c) n W := fun W => by cases c <;> rfl
      rw [q, sum_v h]
  · refine ⟨difR n a b2 (bI c) &&& mkV n, difR n a b2 (bI c) &&& mkV n, difC n a b2 (bI c), par8 (difR n a b2 (bI c)), rz n (difR n a b2 (bI c)), tb (difR n a b2 (bI c)) (bp n), difO n a b2 (bI c), rfl, fun rg tr wh fo w => ?_, fun rg kp ef m => ?_⟩
    · rw [two_0]
      show xbd (sX2_subtract a (b2 &&& mkV n) (bI c) n _) (fun x3 w4 => some (x3, w4)) = _
      rw [subtract_v h, xbd_some, difR_mk h, difC_mk h, difO_mk h]
    · show (if bI c = 0 then xbd (sX12_difference a b2 0 n _) (fun x3 w4 => some (x3, w4)) else xbd (sX12_difference a b2 1 n _) (fun x5 w6 => some (x5, w6))) = _
      rw [xbd_id, xbd_id]
      have q : ∀ W, (if bI c = 0 then sX12_difference a b2 0 n W else sX12_difference a b2 1 n W) = sX12_difference a b2 (bI c) n W := fun W => by cases c <;> rfl
      rw [q, difference_v h]
  · refine ⟨(a &&& b2) &&& mkV n, (a &&& b2) &&& mkV n, false, par8 (a &&& b2), rz n (a &&& b2), tb (a &&& b2) (bp n), false, rfl, fun rg tr wh fo w => ?_, fun rg kp ef m => ?_⟩
    · rw [two_0]
      show xbd (sX2_bitwise (a &&& (b2 &&& mkV n)) n _) (fun x3 w4 => some (x3, w4)) = _
      rw [and_mk, bitw_v h, xbd_some]
    · show sX12_eight_j135 n (a &&& b2) _ = _
      rw [bitw_m h]
  · refine ⟨difR n a b2 0 &&& mkV n, difR n a b2 0 &&& mkV n, difC n a b2 0, par8 (difR n a b2 0), rz n (difR n a b2 0), tb (difR n a b2 0) (bp n), difO n a b2 0, rfl, fun rg tr wh fo w => ?_, fun rg kp ef m => ?_⟩
    · rw [two_0]
      show sX2_two_j85 a (b2 &&& mkV n) n _ = _
      unfold sX2_two_j85
      rw [subtract_v h, xbd_some, difR_mk h, difC_mk h, difO_mk h]
    · show sX12_eight_j100 a b2 n _ = _
      unfold sX12_eight_j100
      rw [difference_v h, xbd_some]
  · refine ⟨(a ^^^ b2) &&& mkV n, (a ^^^ b2) &&& mkV n, false, par8 (a ^^^ b2), rz n (a ^^^ b2), tb (a ^^^ b2) (bp n), false, rfl, fun rg tr wh fo w => ?_, fun rg kp ef m => ?_⟩
    · rw [two_0]
      show xbd (sX2_bitwise (a ^^^ (b2 &&& mkV n)) n _) (fun x3 w4 => some (x3, w4)) = _
      rw [xor_mk ha, bitw_v h, xbd_some]
    · show sX12_eight_j135 n (a ^^^ b2) _ = _
      rw [bitw_m h]
  · refine ⟨difR n a b2 0 &&& mkV n, difR n a b2 0 &&& mkV n, difC n a b2 0, par8 (difR n a b2 0), rz n (difR n a b2 0), tb (difR n a b2 0) (bp n), difO n a b2 0, rfl, fun rg tr wh fo w => ?_, fun rg kp ef m => ?_⟩
    · rw [two_0]
      show sX2_two_j85 a (b2 &&& mkV n) n _ = _
      unfold sX2_two_j85
      rw [subtract_v h, xbd_some, difR_mk h, difC_mk h, difO_mk h]
    · show sX12_eight_j100 a b2 n _ = _
      unfold sX12_eight_j100
      rw [difference_v h, xbd_some]
  · refine ⟨(a &&& b2) &&& mkV n, (a &&& b2) &&& mkV n, false, par8 (a &&& b2), rz n (a &&& b2), tb (a &&& b2) (bp n), false, rfl, fun rg tr wh fo w => ?_, fun rg kp ef m => ?_⟩
    · rw [two_0]
      show xbd (sX2_bitwise (a &&& (b2 &&& mkV n)) n _) (fun x3 w4 => some (x3, w4)) = _
      rw [and_mk, bitw_v h, xbd_some]
    · show sX12_eight_j135 n (a &&& b2) _ = _
      rw [bitw_m h]
/-- inc, dec, neg, not -/
theorem set_c {b : Int32} {x : Bool} (hb : b = bI x) {c p z s o : Bool} {rg : Nat → Int32} {tr wh fo : Int32} {w : xW} : sX2_set 1 b (sW rg (fb c p z s o) tr wh fo w) = some ((), sW rg (fb x p z s o) tr wh fo w) := by
  subst hb
  unfold sX2_set
  rw [sW_fl, fb_c1, fb_c0, sW_wfl, sW_wfl]
  cases x <;> rfl
theorem set_z {b : Int32} {x : Bool} (hb : b = bI x) {c p z s o : Bool} {rg : Nat → Int32} {tr wh fo : Int32} {w : xW} : sX2_set 64 b (sW rg (fb c p z s o) tr wh fo w) = some ((), sW rg (fb c p x s o) tr wh fo w) := by
  subst hb
  unfold sX2_set
  rw [sW_fl, fb_z1, fb_z0, sW_wfl, sW_wfl]
  cases x <;> rfl
theorem has_c {c p z s o : Bool} {rg : Nat → Int32} {tr wh fo : Int32} {w : xW} : sX2_has 1 (sW rg (fb c p z s o) tr wh fo w) = some (bI c, sW rg (fb c p z s o) tr wh fo w) := by
  unfold sX2_has
  rw [sW_fl, if_tb (fb_c c p z s o)]
  cases c <;> rfl
theorem has_p {c p z s o : Bool} {rg : Nat → Int32} {tr wh fo : Int32} {w : xW} : sX2_has 4 (sW rg (fb c p z s o) tr wh fo w) = some (bI p, sW rg (fb c p z s o) tr wh fo w) := by
  unfold sX2_has
  rw [sW_fl, if_tb (fb_p c p z s o)]
  cases p <;> rfl
theorem has_z {c p z s o : Bool} {rg : Nat → Int32} {tr wh fo : Int32} {w : xW} : sX2_has 64 (sW rg (fb c p z s o) tr wh fo w) = some (bI z, sW rg (fb c p z s o) tr wh fo w) := by
  unfold sX2_has
  rw [sW_fl, if_tb (fb_z c p z s o)]
  cases z <;> rfl
theorem has_s {c p z s o : Bool} {rg : Nat → Int32} {tr wh fo : Int32} {w : xW} : sX2_has 128 (sW rg (fb c p z s o) tr wh fo w) = some (bI s, sW rg (fb c p z s o) tr wh fo w) := by
  unfold sX2_has
  rw [sW_fl, if_tb (fb_s c p z s o)]
  cases s <;> rfl
theorem has_o {c p z s o : Bool} {rg : Nat → Int32} {tr wh fo : Int32} {w : xW} : sX2_has 2048 (sW rg (fb c p z s o) tr wh fo w) = some (bI o, sW rg (fb c p z s o) tr wh fo w) := by
  unfold sX2_has
  rw [sW_fl, if_tb (fb_o c p z s o)]
  cases o <;> rfl
theorem inc_v (h : wid n) (a : Int32) {c p z s o : Bool} {rg : Nat → Int32} {tr wh fo : Int32} {w : xW} : sX2_single 17 a n (sW rg (fb c p z s o) tr wh fo w) = some (sumR n a 1 0 &&& mkV n, sW rg (fb c (par8 (sumR n a 1 0)) (rz n (sumR n a 1 0)) (tb (sumR n a 1 0) (bp n)) (sumO n a 1 0)) tr wh fo w) := by
  unfold sX2_single
  rw [has_c, xbd_some]
  show xbd (sX2_add a 1 0 n _) (fun x5 w6 => xbd (sX2_set 1 (bI c) w6) (fun _ w7 => some (x5, w7))) = _
  rw [add_v h, xbd_some, set_c rfl, xbd_some]
theorem dec_v (h : wid n) (a : Int32) {c p z s o : Bool} {rg : Nat → Int32} {tr wh fo : Int32} {w : xW} : sX2_single 18 a n (sW rg (fb c p z s o) tr wh fo w) = some (difR n a 1 0 &&& mkV n, sW rg (fb c (par8 (difR n a 1 0)) (rz n (difR n a 1 0)) (tb (difR n a 1 0) (bp n)) (difO n a 1 0)) tr wh fo w) := by
  unfold sX2_single
  rw [has_c, xbd_some]
  show xbd (sX2_subtract a 1 0 n _) (fun x5 w6 => xbd (sX2_set 1 (bI c) w6) (fun _ w7 => some (x5, w7))) = _
  rw [subtract_v h, xbd_some, set_c rfl, xbd_some]
theorem neg_v (h : wid n) (a : Int32) {c p z s o : Bool} {rg : Nat → Int32} {tr wh fo : Int32} {w : xW} : sX2_single 19 a n (sW rg (fb c p z s o) tr wh fo w) = some (difR n 0 a 0 &&& mkV n, sW rg (fb (difC n 0 a 0) (par8 (difR n 0 a 0)) (rz n (difR n 0 a 0)) (tb (difR n 0 a 0) (bp n)) (difO n 0 a 0)) tr wh fo w) := by
  unfold sX2_single
  rw [has_c, xbd_some]
  show xbd (sX2_subtract 0 a 0 n _) (fun x5 w6 => some (x5, w6)) = _
  rw [subtract_v h, xbd_some]
theorem not_v (h : wid n) (a : Int32) {c p z s o : Bool} {rg : Nat → Int32} {tr wh fo : Int32} {w : xW} : sX2_single 20 a n (sW rg (fb c p z s o) tr wh fo w) = some ((a ^^^ (-1)) &&& mkV n, sW rg (fb c p z s o) tr wh fo w) := by
  unfold sX2_single
  rw [has_c, xbd_some]
  show xbd (sX11_maskOf n _) (fun x3 w4 => some ((a ^^^ (-1)) &&& x3, w4)) = _
  rw [maskOf_v h, xbd_some]
end EI
/-! conditions -/
def hoV (k : Nat) (c p z s o : Bool) : Bool := if k = 0 then o else if k = 1 then c else if k = 2 then z else if k = 3 then (c || z) else if k = 4 then s else if k = 5 then p else if k = 6 then Bool.xor s o else (z || Bool.xor s o)
theorem cndP : ∀ j, j < 16 → ((nI j >>> ((1 : Int32) &&& 31)) &&& 7) = nI (j / 2) ∧ (nI j >>> ((1 : Int32) &&& 31)) = nI (j / 2) ∧ (nI j &&& 1 = 0 ↔ j % 2 = 0) := by decide +kernel
def hoR (j : Nat) (c p z s o : Bool) : Bool := hoV (j / 2) c p z s o == (j % 2 == 0)
section HO
variable {rg : Nat → Int32} {tr wh fo kp ef : Int32} {w m : xW} {c p z s o : Bool}
theorem ho182 {j : Nat} (hj : j < 16) (b : Bool) {W : xW} : sX2_holds_j182 (nI j) (bI b) W = some (bI (b == (j % 2 == 0)), W) := by
  unfold sX2_holds_j182 sX2_holds_j194
  rcases Nat.mod_two_eq_zero_or_one j with h | h
  · rw [if_pos ((cndP j hj).2.2.mpr h), h]
    cases b <;> rfl
  · rw [if_neg (fun q => by have := (cndP j hj).2.2.mp q; omega), h]
    cases b <;> rfl
theorem ho151 {j : Nat} (hj : j < 16) (b : Bool) {M : xW} : sX12_holds_j151 (nI j) (bI b) M = some (bI (b == (j % 2 == 0)), M) := by
  unfold sX12_holds_j151 sX12_holds_j162
  rcases Nat.mod_two_eq_zero_or_one j with h | h
  · rw [if_pos ((cndP j hj).2.2.mpr h), h]
    cases b <;> rfl
  · rw [if_neg (fun q => by have := (cndP j hj).2.2.mp q; omega), h]
    cases b <;> rfl
theorem holds_c {j : Nat} (hj : j < 16) : sX2_holds (nI j) (sW rg (fb c p z s o) tr wh fo w) = some (bI (hoR j c p z s o), sW rg (fb c p z s o) tr wh fo w) := by
  unfold sX2_holds hoR hoV
  rw [(cndP j hj).1]
  have e1 : ∀ W, sX2_holds_j182 (nI j) 1 W = some (bI (true == (j % 2 == 0)), W) := fun W => ho182 hj true
  have e0 : ∀ W, sX2_holds_j182 (nI j) 0 W = some (bI (false == (j % 2 == 0)), W) := fun W => ho182 hj false
  simp only [has_c, has_p, has_z, has_s, has_o, xbd_some, sX2_holds_j100, sX2_holds_j95, sX2_holds_j146, sX2_holds_j181, sX2_holds_j176, e1, e0, ho182 hj]
  have h8 : j / 2 = 0 ∨ j / 2 = 1 ∨ j / 2 = 2 ∨ j / 2 = 3 ∨ j / 2 = 4 ∨ j / 2 = 5 ∨ j / 2 = 6 ∨ j / 2 = 7 := by omega
  rcases h8 with h | h | h | h | h | h | h | h
  · rw [h]; rfl
  · rw [h]; rfl
  · rw [h]; rfl
  · rw [h]; cases c <;> cases z <;> rfl
  · rw [h]; rfl
  · rw [h]; rfl
  · rw [h]; cases s <;> cases o <;> rfl
  · rw [h]; cases z <;> cases s <;> cases o <;> rfl
theorem holds_m {j : Nat} (hj : j < 16) : sX12_holds (nI j) (tW rg (bI c) (bI p) (bI z) (bI s) (bI o) kp ef m) = some (bI (hoR j c p z s o), tW rg (bI c) (bI p) (bI z) (bI s) (bI o) kp ef m) := by
  unfold sX12_holds hoR hoV
  rw [(cndP j hj).2.1]
  have e1 : ∀ W, sX12_holds_j151 (nI j) 1 W = some (bI (true == (j % 2 == 0)), W) := fun W => ho151 hj true
  have e0 : ∀ W, sX12_holds_j151 (nI j) 0 W = some (bI (false == (j % 2 == 0)), W) := fun W => ho151 hj false
  simp only [tW_c, tW_p, tW_z, tW_s, tW_o, sX12_holds_j87, sX12_holds_j82, sX12_holds_j123, sX12_holds_j150, sX12_holds_j145, e1, e0, ho151 hj]
  have h8 : j / 2 = 0 ∨ j / 2 = 1 ∨ j / 2 = 2 ∨ j / 2 = 3 ∨ j / 2 = 4 ∨ j / 2 = 5 ∨ j / 2 = 6 ∨ j / 2 = 7 := by omega
  rcases h8 with h | h | h | h | h | h | h | h
  · rw [h]; rfl
  · rw [h]; rfl
  · rw [h]; rfl
  · rw [h]; cases c <;> cases z <;> rfl
  · rw [h]; rfl
  · rw [h]; rfl
  · rw [h]; cases s <;> cases o <;> rfl
  · rw [h]; cases z <;> cases s <;> cases o <;> rfl
end HO
