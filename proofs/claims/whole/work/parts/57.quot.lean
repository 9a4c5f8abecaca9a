/-! quotients -/
section QU
variable {rg : Nat → Int32} {fl tr wh fo kp ef : Int32} {w m : xW} {c p z s o : Int32}
theorem fail_c (k : Int32) : sX8_fail k (sW rg fl tr wh fo w) = some ((), sW rg fl (fl5 k tr) wh fo w) := by
  unfold sX8_fail fl5
  rw [sW_tr]
  by_cases h : tr = 0
  · rw [if_pos h, if_pos h, sW_wtr]
  · rw [if_neg h, if_neg h]
theorem traps_m : sX12_traps (tW rg c p z s o kp ef m) = some ((), tW rg c p z s o (fl5 4 kp) ef m) := by
  unfold sX12_traps fl5
  rw [tW_kp]
  by_cases h : kp = 0
  · rw [if_pos h, if_pos h, tW_wkp]
  · rw [if_neg h, if_neg h, tW_wkp]
theorem b8_rng (q : Int32) : (q = q.toInt8.toInt32) ↔ (¬ q < -128 ∧ ¬ 127 < q) := by
  rw [Int32.lt_iff_toInt_lt, Int32.lt_iff_toInt_lt]
  have e1 : (-128 : Int32).toInt = -128 := by decide
  have e2 : (127 : Int32).toInt = 127 := by decide
  rw [e1, e2]
  have h1 := q.toInt8.toInt32.toInt_lt
  have e3 : q.toInt8.toInt32.toInt = q.toInt.bmod 256 := by
    rw [Int8.toInt_toInt32, Int32.toInt_toInt8]
  constructor
  · intro h
    rw [h, e3]
    have := Int.bmod_lt (x := q.toInt) (m := 256) (by decide)
    have := Int.le_bmod (x := q.toInt) (m := 256) (by decide)
    omega
  · intro h
    apply Int32.toInt_inj.mp
    rw [e3]
    have := Int.bmod_eq_of_le (n := q.toInt) (m := 256) (by omega) (by omega)
    exact this.symm
theorem if_b8 {α : Type} (q : Int32) (x y : α) : (if q = q.toInt8.toInt32 then x else y) = (if q < -128 then y else if 127 < q then y else x) := by
  by_cases h : q = q.toInt8.toInt32
  · have := (b8_rng q).mp h
    rw [if_pos h, if_neg this.1, if_neg this.2]
  · rw [if_neg h]
    by_cases h1 : q < -128
    · rw [if_pos h1]
    · rw [if_neg h1]
      by_cases h2 : 127 < q
      · rw [if_pos h2]
      · exact absurd ((b8_rng q).mpr ⟨h1, h2⟩) h
theorem i8_0 {e : Int32} (he : e &&& 255 = e) (h : e.toInt8.toInt32 = 0) : e = 0 := by
  obtain ⟨j, hj, ej⟩ := pk_andE e (m := 255) 8 (by decide)
  rw [he] at ej
  have q : ∀ j, j < 256 → (nI j).toInt8.toInt32 = 0 → j = 0 := by decide +kernel
  rw [ej] at h ⊢
  rw [q j hj h]
  rfl
/-- bytes: v the divisor as it was read -/
theorem divB_p {cop op e : Int32} (he : e &&& 255 = e) (h0 : ¬ e = 0) (hop : (cop = 26 ∧ op = 40) ∨ (cop = 27 ∧ op = 41)) (hc : w.1 2 0 = cop) (hm : m.1 0 17 = op) (rg : Nat → Int32) : ∃ (rg1 : Nat → Int32) (t : Int32), (t = 0 ∨ t = 4) ∧
    (∀ (fl tr wh fo : Int32), sX7_divideByte e (sW rg fl tr wh fo w) = some ((), sW rg1 fl (fl5 t tr) wh fo w)) ∧
    (∀ (c p z s o kp ef : Int32), (if (tW rg c p z s o kp ef m).1 0 17 = 40 then (if xin (0 : Int32) 8 then sX12_quotient_j49 e (((tW rg c p z s o kp ef m).1 9 ((0 : Int32).toNatClampNeg)) &&& 65535) (tW rg c p z s o kp ef m) else none) else (if xin (0 : Int32) 8 then sX12_quotient_j49 e (((tW rg c p z s o kp ef m).1 9 ((0 : Int32).toNatClampNeg)).toInt16.toInt32) (tW rg c p z s o kp ef m) else none)) = some ((), tW rg1 c p z s o (fl5 t kp) ef m)) := by
  have k106 : ∀ (d a q fl tr wh fo : Int32), ¬ d = 0 → sX7_divideByte_j106 d a q (sW rg fl tr wh fo w) = some ((), sW (spr rg 0 2 ((q &&& 255) ||| (((a - a / d * d) &&& 255) <<< ((8 : Int32) &&& 31)))) fl (fl5 0 tr) wh fo w) := by
    intro d a q fl tr wh fo hd
    unfold sX7_divideByte_j106
    rw [if_pos hd, show (0 : Int32) = nI 0 from rfl, setPart_c (by decide) (Or.inr (Or.inl rfl)), xbd_some, show nI 0 = (0 : Int32) from rfl, fl5_0]
  have k124 : ∀ (d a q c p z s o kp ef : Int32), ¬ d = 0 → sX12_quotient_j124 a d q (tW rg c p z s o kp ef m) = some ((), tW (spr rg 0 2 ((q &&& 255) ||| (((a - a / d * d) &&& 255) <<< ((8 : Int32) &&& 31)))) c p z s o (fl5 0 kp) ef m) := by
    intro d a q c p z s o kp ef hd
    unfold sX12_quotient_j124
    rw [if_pos hd, show (0 : Int32) = nI 0 from rfl, setReg_m (by decide) (Or.inr (Or.inl rfl)), xbd_some, show nI 0 = (0 : Int32) from rfl, fl5_0]
  have k97 : ∀ (fl tr wh fo : Int32), sX7_divideByte_j97 (sW rg fl tr wh fo w) = some ((), sW rg fl (fl5 4 tr) wh fo w) := by
    intro fl tr wh fo
    unfold sX7_divideByte_j97
    rw [fail_c, xbd_some]
  rcases hop with ⟨rfl, rfl⟩ | ⟨rfl, rfl⟩
  · by_cases hq : 255 < (rg 0 &&& 65535) / e
    · refine ⟨rg, 4, Or.inr rfl, fun fl tr wh fo => ?_, fun c p z s o kp ef => ?_⟩
      · unfold sX7_divideByte
        rw [sW_c2, hc, if_pos (by decide), if_neg (by decide)]
        unfold sX7_divideByte_j18
        rw [if_pos rfl]
        unfold sX7_divideByte_j29
        rw [if_neg h0, if_pos rfl, if_pos (by decide)]
        show sX7_divideByte_j66 0 e (rg 0 &&& 65535) _ = _
        unfold sX7_divideByte_j66
        rw [if_pos h0, if_pos rfl, if_pos hq, k97]
      · rw [tW_lo (by decide), hm, if_pos rfl, if_pos (by decide)]
        show sX12_quotient_j49 e (rg 0 &&& 65535) _ = _
        unfold sX12_quotient_j49
        rw [tW_lo (by decide), hm, if_pos rfl, he]
        unfold sX12_quotient_j69
        rw [if_neg h0, if_pos h0]
        unfold sX12_quotient_j83
        rw [tW_lo (by decide), hm, if_pos rfl, if_pos hq, traps_m, xbd_some]
    · refine ⟨spr rg 0 2 ((((rg 0 &&& 65535) / e) &&& 255) ||| ((((rg 0 &&& 65535) - (rg 0 &&& 65535) / e * e) &&& 255) <<< ((8 : Int32) &&& 31))), 0, Or.inl rfl, fun fl tr wh fo => ?_, fun c p z s o kp ef => ?_⟩
      · unfold sX7_divideByte
        rw [sW_c2, hc, if_pos (by decide), if_neg (by decide)]
        unfold sX7_divideByte_j18
        rw [if_pos rfl]
        unfold sX7_divideByte_j29
        rw [if_neg h0, if_pos rfl, if_pos (by decide)]
        show sX7_divideByte_j66 0 e (rg 0 &&& 65535) _ = _
        unfold sX7_divideByte_j66
        rw [if_pos h0, if_pos rfl, if_neg hq, k106 _ _ _ _ _ _ _ h0]
      · rw [tW_lo (by decide), hm, if_pos rfl, if_pos (by decide)]
        show sX12_quotient_j49 e (rg 0 &&& 65535) _ = _
        unfold sX12_quotient_j49
        rw [tW_lo (by decide), hm, if_pos rfl, he]
        unfold sX12_quotient_j69
        rw [if_neg h0, if_pos h0]
        unfold sX12_quotient_j83
        rw [tW_lo (by decide), hm, if_pos rfl, if_neg hq, k124 _ _ _ _ _ _ _ _ _ _ h0]
  · have hd : ¬ e.toInt8.toInt32 = 0 := fun q => h0 (i8_0 he q)
    by_cases hq : (rg 0).toInt16.toInt32 / e.toInt8.toInt32 = ((rg 0).toInt16.toInt32 / e.toInt8.toInt32).toInt8.toInt32
    · refine ⟨spr rg 0 2 ((((rg 0).toInt16.toInt32 / e.toInt8.toInt32) &&& 255) ||| ((((rg 0).toInt16.toInt32 - (rg 0).toInt16.toInt32 / e.toInt8.toInt32 * e.toInt8.toInt32) &&& 255) <<< ((8 : Int32) &&& 31))), 0, Or.inl rfl, fun fl tr wh fo => ?_, fun c p z s o kp ef => ?_⟩
      · unfold sX7_divideByte
        rw [sW_c2, hc, if_pos (by decide), if_pos rfl]
        unfold sX7_divideByte_j18
        rw [if_neg (by decide)]
        unfold sX7_divideByte_j29
        rw [if_neg hd, if_neg (by decide), if_pos (by decide)]
        show sX7_divideByte_j66 1 e.toInt8.toInt32 (rg 0).toInt16.toInt32 _ = _
        unfold sX7_divideByte_j66
        rw [if_pos hd, if_neg (by decide), if_pos hq, k106 _ _ _ _ _ _ _ hd]
      · rw [tW_lo (by decide), hm, if_neg (by decide), if_pos (by decide)]
        show sX12_quotient_j49 e (rg 0).toInt16.toInt32 _ = _
        unfold sX12_quotient_j49
        rw [tW_lo (by decide), hm, if_neg (by decide)]
        unfold sX12_quotient_j69
        rw [if_neg hd, if_pos hd]
        unfold sX12_quotient_j83
        rw [tW_lo (by decide), hm, if_neg (by decide), traps_m, xbd_some, ← if_b8, if_pos hq, k124 _ _ _ _ _ _ _ _ _ _ hd]
    · refine ⟨rg, 4, Or.inr rfl, fun fl tr wh fo => ?_, fun c p z s o kp ef => ?_⟩
      · unfold sX7_divideByte
        rw [sW_c2, hc, if_pos (by decide), if_pos rfl]
        unfold sX7_divideByte_j18
        rw [if_neg (by decide)]
        unfold sX7_divideByte_j29
        rw [if_neg hd, if_neg (by decide), if_pos (by decide)]
        show sX7_divideByte_j66 1 e.toInt8.toInt32 (rg 0).toInt16.toInt32 _ = _
        unfold sX7_divideByte_j66
        rw [if_pos hd, if_neg (by decide), if_neg hq, k97]
      · rw [tW_lo (by decide), hm, if_neg (by decide), if_pos (by decide)]
        show sX12_quotient_j49 e (rg 0).toInt16.toInt32 _ = _
        unfold sX12_quotient_j49
        rw [tW_lo (by decide), hm, if_neg (by decide)]
        unfold sX12_quotient_j69
        rw [if_neg hd, if_pos hd]
        unfold sX12_quotient_j83
        rw [tW_lo (by decide), hm, if_neg (by decide), traps_m, xbd_some, ← if_b8, if_neg hq]
/-- longs without sign: bit by bit -/
theorem ru_comm {j k : Nat} {x y : Int32} (h : j ≠ k) : ru (ru rg j x) k y = ru (ru rg k y) j x := by
  funext i
  unfold ru
  by_cases h1 : i = k
  · rw [if_pos h1, if_neg (fun q => h (q.symm.trans h1)), if_pos h1]
  · rw [if_neg h1]
    by_cases h2 : i = j
    · rw [if_pos h2, if_pos h2]
    · rw [if_neg h2, if_neg h2, if_neg h1]
def qAt (i : Nat) (qc qm : Int32) : Prop := ∀ t, t < 32 → tb qc t = (decide (i ≤ t) && tb qm (t - i))
theorem qAt_0 {qc qm : Int32} (h : qAt 0 qc qm) : qc = qm := i32_ext (fun t ht => by rw [h t ht, decide_eq_true (Nat.zero_le t), Bool.true_and, Nat.sub_zero])
theorem qAt_s {i : Nat} {qc qm : Int32} (hi : i < 32) (h : qAt (i + 1) qc qm) : qAt i qc (qm <<< ((1 : Int32) &&& 31)) ∧ qAt i (qc ||| ((1 : Int32) <<< (nI i &&& 31))) ((qm <<< ((1 : Int32) &&& 31)) ||| 1) := by
  have b1 : ∀ t, t < 32 → tb ((1 : Int32) <<< (nI i &&& 31)) t = decide (t = i) := by
    intro t ht
    rw [tb_shl 1 i t hi, decide_eq_true ht, Bool.true_and]
    by_cases q : t < i
    · rw [decide_eq_true q, decide_eq_false (by omega)]; rfl
    · rw [decide_eq_false q, tb_lit1 (t - i) (by omega)]
      show (true && _) = _
      rw [Bool.true_and]
      exact decide_eq_decide.mpr (by omega)
  have e : ∀ t, t < 32 → tb qc t = (decide (i ≤ t) && tb (qm <<< ((1 : Int32) &&& 31)) (t - i)) := by
    intro t ht
    rw [h t ht, tb_shl1]
    by_cases q : i ≤ t
    · rw [decide_eq_true q, Bool.true_and, decide_eq_true (by omega : t - i < 32), Bool.true_and]
      by_cases q2 : i + 1 ≤ t
      · rw [decide_eq_true q2, decide_eq_false (by omega : ¬ t - i < 1), show t - (i + 1) = t - i - 1 from by omega]; rfl
      · rw [decide_eq_false q2, decide_eq_true (by omega : t - i < 1)]; rfl
    · rw [decide_eq_false q, decide_eq_false (by omega : ¬ i + 1 ≤ t)]; rfl
  refine ⟨e, fun t ht => ?_⟩
  rw [tb_or, tb_or, e t ht, b1 t ht]
  by_cases q : i ≤ t
  · rw [decide_eq_true q, Bool.true_and, Bool.true_and, tb_lit1 (t - i) (by omega)]
    congr 1
    exact decide_eq_decide.mpr (by omega)
  · rw [decide_eq_false q, decide_eq_false (by omega : ¬ t = i)]; rfl
theorem divL_l (by_ : Int64) (rg : Nat → Int32) : ∀ (i : Nat) (rest : Int64) (qc qm : Int32), i ≤ 32 → qAt i qc qm → ∃ (q r : Int32),
    (∀ (fuel : Nat) (fl tr wh fo : Int32), i < fuel → sX7_divideLong_l32 fuel by_ rest qc (nI i - 1) (sW rg fl tr wh fo w) = some ((), sW (ru (ru rg 0 q) 2 r) fl tr wh fo w)) ∧
    (∀ (fuel : Nat) (c p z s o kp ef : Int32), i < fuel → sX12_quotient_l221 fuel by_ rest qm (nI i - 1) (tW rg c p z s o kp ef m) = some ((), tW (ru (ru rg 0 q) 2 r) c p z s o kp ef m)) := by
  intro i
  induction i with
  | zero =>
    intro rest qc qm _ hq
    have e := qAt_0 hq
    subst e
    refine ⟨qc, rest.toInt32, ?_, ?_⟩
    · intro fuel fl tr wh fo hf
      cases fuel with
      | zero => omega
      | succ f => rw [sX7_divideLong_l32, if_pos (by decide), if_pos (by decide), if_pos (by decide), show (0 : Int32).toNatClampNeg = 0 from rfl, show (2 : Int32).toNatClampNeg = 2 from rfl, sW_wr, sW_wr]
    · intro fuel c p z s o kp ef hf
      cases fuel with
      | zero => omega
      | succ f => rw [sX12_quotient_l221, if_pos (by decide), if_pos (by decide), if_pos (by decide), show (0 : Int32).toNatClampNeg = 0 from rfl, show (2 : Int32).toNatClampNeg = 2 from rfl, tW_wr, tW_wr]
  | succ i ih =>
    intro rest qc qm hi hq
    obtain ⟨h1, h2⟩ := qAt_s (by omega) hq
    generalize hx : (xlshl rest (1 : Int32)) ||| ((xushr (rg 0) (nI i)) &&& (1 : Int32)).toInt64 = x
    by_cases hlt : x < by_
    · obtain ⟨q, r, hC, hM⟩ := ih x qc (qm <<< ((1 : Int32) &&& 31)) (by omega) h1
      refine ⟨q, r, ?_, ?_⟩
      · intro fuel fl tr wh fo hf
        cases fuel with
        | zero => omega
        | succ f =>
          rw [nI_pred, sX7_divideLong_l32, if_neg (nI_pos (by omega)), if_pos (by decide)]
          show xlet ((xlshl rest 1) ||| ((xushr (rg 0) (nI i)) &&& 1).toInt64) _ = _
          rw [hx]
          dsimp only [xlet]
          rw [if_pos hlt, nI_m1]
          exact hC f fl tr wh fo (by omega)
      · intro fuel c p z s o kp ef hf
        cases fuel with
        | zero => omega
        | succ f =>
          rw [nI_pred, sX12_quotient_l221, if_neg (nI_pos (by omega)), if_pos (by decide)]
          show xlet ((xlshl rest 1) ||| ((xushr (rg 0) (nI i)) &&& 1).toInt64) _ = _
          rw [hx]
          dsimp only [xlet]
          rw [if_pos hlt, nI_m1]
          exact hM f c p z s o kp ef (by omega)
    · obtain ⟨q, r, hC, hM⟩ := ih (x - by_) (qc ||| ((1 : Int32) <<< (nI i &&& 31))) ((qm <<< ((1 : Int32) &&& 31)) ||| 1) (by omega) h2
      refine ⟨q, r, ?_, ?_⟩
      · intro fuel fl tr wh fo hf
        cases fuel with
        | zero => omega
        | succ f =>
          rw [nI_pred, sX7_divideLong_l32, if_neg (nI_pos (by omega)), if_pos (by decide)]
          show xlet ((xlshl rest 1) ||| ((xushr (rg 0) (nI i)) &&& 1).toInt64) _ = _
          rw [hx]
          dsimp only [xlet]
          rw [if_neg hlt, nI_m1]
          exact hC f fl tr wh fo (by omega)
      · intro fuel c p z s o kp ef hf
        cases fuel with
        | zero => omega
        | succ f =>
          rw [nI_pred, sX12_quotient_l221, if_neg (nI_pos (by omega)), if_pos (by decide)]
          show xlet ((xlshl rest 1) ||| ((xushr (rg 0) (nI i)) &&& 1).toInt64) _ = _
          rw [hx]
          dsimp only [xlet]
          rw [if_neg hlt, nI_m1]
          exact hM f c p z s o kp ef (by omega)
/-- the reference's part of quotient behind the reading, for longs -/
def quoL (x1 : Int32) (W : xW) : Option (Unit × xW) := (if xin (2 : Int32) 8 then (if xin (0 : Int32) 8 then xlet ((xlshl ((W.1 9 ((2 : Int32).toNatClampNeg)).toInt64) (32 : Int32)) ||| ((W.1 9 ((0 : Int32).toNatClampNeg)).toInt64 &&& (4294967295 : Int64))) (fun x3 => (if (W.1 0 17) = (40 : Int32) then xlet (x1.toInt64 &&& (4294967295 : Int64)) (fun x4 => (if xin (2 : Int32) 8 then xlet ((W.1 9 ((2 : Int32).toNatClampNeg)).toInt64 &&& (4294967295 : Int64)) (fun x5 => (if x5 < x4 then sX12_quotient_l221 70000 x4 x5 (0 : Int32) (31 : Int32) W else xbd (sX12_traps W) (fun _ w6 => some ((), w6)))) else none)) else (if x1 = 0 then sX12_quotient_j308 x1 x3 (0 : Int64) W else (if ¬ x1.toInt64 = 0 then sX12_quotient_j308 x1 x3 (x3 / x1.toInt64) W else none)))) else none) else none)
theorem tb_z64 {i : Nat} : (0 : Int64).toBitVec.getLsbD i = false := BitVec.getLsbD_zero
theorem ui_pos {e : Int32} (h : e.toInt64 &&& 4294967295 = 0) : e = 0 := by
  rw [un_l] at h
  have h2 := un_lt e
  have := (pk_lEQ (a := un e) (b := 0) (by omega) (by decide)).mp h
  rw [un_of e, this]
  rfl
theorem i64_0 {e : Int32} (h : e.toInt64 = 0) : e = 0 := by
  have h2 : e.toInt64.toInt32 = (0 : Int64).toInt32 := by rw [h]
  rw [Int32.toInt32_toInt64] at h2
  rw [h2]; rfl
theorem divU_p {e : Int32} (h0 : ¬ e = 0) (hm : m.1 0 17 = 40) (rg : Nat → Int32) : ∃ (rg1 : Nat → Int32) (t : Int32), (t = 0 ∨ t = 4) ∧
    (∀ (fl tr wh fo : Int32), sX7_divideLong (e.toInt64 &&& 4294967295) (sW rg fl tr wh fo w) = some ((), sW rg1 fl (fl5 t tr) wh fo w)) ∧
    (∀ (c p z s o kp ef : Int32), quoL e (tW rg c p z s o kp ef m) = some ((), tW rg1 c p z s o (fl5 t kp) ef m)) := by
  have hu : ∀ (x : Int32) (W : xW), sX11_unsigned x W = some (x.toInt64 &&& 4294967295, W) := fun _ _ => rfl
  generalize hd : e.toInt64 &&& 4294967295 = d
  by_cases hlt : (rg 2).toInt64 &&& 4294967295 < d
  · obtain ⟨q, r, hC, hM⟩ := divL_l (w := w) (m := m) d rg 32 ((rg 2).toInt64 &&& 4294967295) 0 0 (by omega) (fun t ht => by rw [tb_0, tb_0, Bool.and_false])
    refine ⟨ru (ru rg 0 q) 2 r, 0, Or.inl rfl, fun fl tr wh fo => ?_, fun c p z s o kp ef => ?_⟩
    · unfold sX7_divideLong
      rw [if_pos (by decide), hu, xbd_some, fl5_0]
      show (if (rg 2).toInt64 &&& 4294967295 < d then sX7_divideLong_l32 70000 d ((rg 2).toInt64 &&& 4294967295) 0 (nI 32 - 1) _ else _) = _
      rw [if_pos hlt]
      exact hC 70000 fl tr wh fo (by omega)
    · unfold quoL
      rw [if_pos (by decide), if_pos (by decide)]
      dsimp only [xlet]
      rw [tW_lo (by decide), hm, if_pos rfl, hd, if_pos (by decide), fl5_0]
      show (if (rg 2).toInt64 &&& 4294967295 < d then sX12_quotient_l221 70000 d ((rg 2).toInt64 &&& 4294967295) 0 (nI 32 - 1) _ else _) = _
      rw [if_pos hlt]
      exact hM 70000 c p z s o kp ef (by omega)
  · refine ⟨rg, 4, Or.inr rfl, fun fl tr wh fo => ?_, fun c p z s o kp ef => ?_⟩
    · unfold sX7_divideLong
      rw [if_pos (by decide), hu, xbd_some]
      show (if (rg 2).toInt64 &&& 4294967295 < d then _ else _) = _
      rw [if_neg hlt, fail_c, xbd_some]
    · unfold quoL
      rw [if_pos (by decide), if_pos (by decide)]
      dsimp only [xlet]
      rw [tW_lo (by decide), hm, if_pos rfl, hd, if_pos (by decide)]
      show (if (rg 2).toInt64 &&& 4294967295 < d then _ else _) = _
      rw [if_neg hlt, traps_m, xbd_some]
theorem divS_p {e : Int32} (h0 : ¬ e = 0) (hm : m.1 0 17 = 41) (rg : Nat → Int32) : ∃ (rg1 : Nat → Int32) (t : Int32), (t = 0 ∨ t = 4) ∧
    (∀ (fl tr wh fo : Int32), sX7_divideLongWithSign e (sW rg fl tr wh fo w) = some ((), sW rg1 fl (fl5 t tr) wh fo w)) ∧
    (∀ (c p z s o kp ef : Int32), quoL e (tW rg c p z s o kp ef m) = some ((), tW rg1 c p z s o (fl5 t kp) ef m)) := by
  have hu : ∀ (x : Int32) (W : xW), sX11_unsigned x W = some (x.toInt64 &&& 4294967295, W) := fun _ _ => rfl
  have hl : ¬ e.toInt64 = 0 := fun q => h0 (i64_0 q)
  generalize ha : (xlshl (rg 2).toInt64 32) ||| ((rg 0).toInt64 &&& 4294967295) = a
  by_cases hq : a / e.toInt64 = (a / e.toInt64).toInt32.toInt64
  · refine ⟨ru (ru rg 0 (a / e.toInt64).toInt32) 2 (a - a / e.toInt64 * e.toInt64).toInt32, 0, Or.inl rfl, fun fl tr wh fo => ?_, fun c p z s o kp ef => ?_⟩
    · unfold sX7_divideLongWithSign
      rw [if_neg h0, if_pos (by decide), if_pos (by decide), hu, xbd_some, fl5_0]
      show xlet ((xlshl (rg 2).toInt64 32) ||| ((rg 0).toInt64 &&& 4294967295)) _ = _
      rw [ha]
      dsimp only [xlet]
      rw [if_pos hl, if_pos hq, if_pos (by decide), if_pos hl, if_pos (by decide), show (0 : Int32).toNatClampNeg = 0 from rfl, show (2 : Int32).toNatClampNeg = 2 from rfl, sW_wr, sW_wr]
    · unfold quoL
      rw [if_pos (by decide), if_pos (by decide)]
      show xlet ((xlshl (rg 2).toInt64 32) ||| ((rg 0).toInt64 &&& 4294967295)) _ = _
      rw [ha]
      dsimp only [xlet]
      rw [tW_lo (by decide), hm, if_neg (by decide), if_neg h0, if_pos hl]
      unfold sX12_quotient_j308
      rw [if_neg h0, if_pos hq, if_pos hl, if_pos (by decide), if_pos (by decide), show (0 : Int32).toNatClampNeg = 0 from rfl, show (2 : Int32).toNatClampNeg = 2 from rfl, tW_wr, tW_wr, ru_comm (by decide), fl5_0]
  · refine ⟨rg, 4, Or.inr rfl, fun fl tr wh fo => ?_, fun c p z s o kp ef => ?_⟩
    · unfold sX7_divideLongWithSign
      rw [if_neg h0, if_pos (by decide), if_pos (by decide), hu, xbd_some]
      show xlet ((xlshl (rg 2).toInt64 32) ||| ((rg 0).toInt64 &&& 4294967295)) _ = _
      rw [ha]
      dsimp only [xlet]
      rw [if_pos hl, if_neg hq, fail_c, xbd_some]
    · unfold quoL
      rw [if_pos (by decide), if_pos (by decide)]
      show xlet ((xlshl (rg 2).toInt64 32) ||| ((rg 0).toInt64 &&& 4294967295)) _ = _
      rw [ha]
      dsimp only [xlet]
      rw [tW_lo (by decide), hm, if_neg (by decide), if_neg h0, if_pos hl]
      unfold sX12_quotient_j308
      rw [if_neg h0, if_neg hq, traps_m, xbd_some]
end QU
