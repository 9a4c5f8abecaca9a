/-! the digits of a number: Integer.stringSize, Integer.getChars -/
def decF : Nat → Nat → List Nat
  | 0, v => [48 + v % 10]
  | f + 1, v => if v < 10 then [48 + v] else decF f (v / 10) ++ [48 + v % 10]
def decL (v : Nat) : List Nat := decF 10 v
def numL (v : Int) : List Nat := if v < 0 then 45 :: decL v.natAbs else decL v.natAbs
theorem decF_len : ∀ (f v k : Nat), k ≤ f → v < 10 ^ (k + 1) → (10 ^ k ≤ v ∨ k = 0) → (decF f v).length = k + 1
  | 0, v, k, h1, h2, h3 => by obtain rfl : k = 0 := by omega
                              rfl
  | f + 1, v, k, h1, h2, h3 => by
    unfold decF
    by_cases h : v < 10
    · rw [if_pos h]
      have : k = 0 := by
        rcases h3 with h3 | h3
        · cases k with
          | zero => rfl
          | succ k =>
            have : 10 ^ 1 ≤ 10 ^ (k + 1) := Nat.pow_le_pow_right (by decide) (by omega)
            omega
        · exact h3
      subst this
      rfl
    · rw [if_neg h]
      cases k with
      | zero => omega
      | succ k =>
        rw [List.length_append, decF_len f (v / 10) k (by omega) (by rw [Nat.pow_succ] at h2; omega) (by
          rcases h3 with h3 | h3
          · left; rw [Nat.pow_succ] at h3; omega
          · omega)]
        rfl
theorem decF_f : ∀ (f g v : Nat), v < 10 ^ (f + 1) → v < 10 ^ (g + 1) → decF f v = decF g v
  | 0, 0, v, _, _ => rfl
  | 0, g + 1, v, h1, h2 => by
    unfold decF
    have : v < 10 := h1
    rw [if_pos this, Nat.mod_eq_of_lt this]
  | f + 1, 0, v, h1, h2 => by
    unfold decF
    have : v < 10 := h2
    rw [if_pos this, Nat.mod_eq_of_lt this]
  | f + 1, g + 1, v, h1, h2 => by
    unfold decF
    by_cases h : v < 10
    · rw [if_pos h, if_pos h]
    · rw [if_neg h, if_neg h, decF_f f g (v / 10) (by rw [Nat.pow_succ] at h1; omega) (by rw [Nat.pow_succ] at h2; omega)]
theorem decL_10 {v : Nat} (h : 10 ≤ v) (hv : v < 10 ^ 10) : decL v = decL (v / 10) ++ [48 + v % 10] := by
  show decF (9 + 1) v = _
  unfold decF
  rw [if_neg (by omega)]
  rw [decF_f 9 10 (v / 10) (by omega) (by omega)]
  rfl
theorem decL_lt {v : Nat} (h : v < 10) : decL v = [48 + v] := if_pos h
theorem decL_100 {v : Nat} (h : 100 ≤ v) (hv : v < 10 ^ 10) : decL v = decL (v / 100) ++ [48 + v % 100 / 10, 48 + v % 100 % 10] := by
  rw [decL_10 (by omega) hv, decL_10 (v := v / 10) (by omega) (by omega), List.append_assoc, Nat.div_div_eq_div_mul]
  congr 1
  show [48 + v / 10 % 10, 48 + v % 10] = _
  rw [show v % 100 / 10 = v / 10 % 10 by omega, show v % 100 % 10 = v % 10 by omega]
theorem decL_len {v k : Nat} (h1 : k ≤ 9) (h2 : v < 10 ^ (k + 1)) (h3 : 10 ^ k ≤ v ∨ k = 0) : (decL v).length = k + 1 := decF_len 10 v k (by omega) h2 h3
theorem decL_len1 {v : Nat} (hv : v < 10 ^ 10) : 1 ≤ (decL v).length ∧ (decL v).length ≤ 10 := by
  have go : ∀ k, k ≤ 9 → v < 10 ^ (k + 1) → 1 ≤ (decL v).length ∧ (decL v).length ≤ 10 := by
    intro k
    induction k with
    | zero => intro _ h; rw [decL_len (k := 0) (by decide) h (Or.inr rfl)]; omega
    | succ k ih =>
      intro h1 h2
      by_cases h : v < 10 ^ (k + 1)
      · exact ih (by omega) h
      · rw [decL_len h1 h2 (Or.inl (by omega))]; omega
  exact go 9 (by decide) hv
theorem i32_of_toInt {x y : Int32} (h : x.toInt = y.toInt) : x = y := Int32.toInt_inj.mp h
theorem i32_neg {x : Int32} {V : Nat} (h : x.toInt = (V : Int)) (hV : V < 2 ^ 31) : (-x).toInt = -(V : Int) := by
  rw [Int32.toInt_neg, h]
  exact Int.bmod_eq_of_le (by omega) (by omega)
theorem i32_pos {x : Int32} {V : Nat} (h : x.toInt = -(V : Int)) (hV : V < 2 ^ 31) : -x = nI V := by
  apply i32_of_toInt
  rw [Int32.toInt_neg, h, nI_toInt hV, Int.neg_neg]
  exact Int.bmod_eq_of_le (by omega) (by omega)
section SZ
variable {m z : Nat} {f : Nat → Int32} {w : xW}
theorem pow10_i : ∀ k, 1 ≤ k → k ≤ 9 → ∃ P : Int32, P.toInt = -(10 ^ k : Nat) ∧ (k < 9 → ((10 : Int32) * P).toInt = -(10 ^ (k + 1) : Nat)) := by
  intro k h1 h2
  have : k = 1 ∨ k = 2 ∨ k = 3 ∨ k = 4 ∨ k = 5 ∨ k = 6 ∨ k = 7 ∨ k = 8 ∨ k = 9 := by omega
  rcases this with rfl | rfl | rfl | rfl | rfl | rfl | rfl | rfl | rfl
  · exact ⟨-10, by decide, fun _ => by decide⟩
  · exact ⟨-100, by decide, fun _ => by decide⟩
  · exact ⟨-1000, by decide, fun _ => by decide⟩
  · exact ⟨-10000, by decide, fun _ => by decide⟩
  · exact ⟨-100000, by decide, fun _ => by decide⟩
  · exact ⟨-1000000, by decide, fun _ => by decide⟩
  · exact ⟨-10000000, by decide, fun _ => by decide⟩
  · exact ⟨-100000000, by decide, fun _ => by decide⟩
  · exact ⟨-1000000000, by decide, fun h => absurd h (by decide)⟩
theorem ssz_loop {V : Nat} {x d : Int32} (hx : x.toInt = -(V : Int)) (hV : V ≤ 2 ^ 31) : ∀ (j k : Nat) (P : Int32), j + k = 10 → 1 ≤ k → (k ≤ 9 → P.toInt = -(10 ^ k : Nat)) → (10 ^ (k - 1) ≤ V ∨ k = 1) →
    xJ ιI mB_ssz (lS m z f) (0, 0) 16 [(0, .int x), (1, .int d), (2, .int P), (3, .int (nI k))] [] w (some (nI (decL V).length + d, w)) := by
  intro j
  induction j with
  | zero =>
    intro k P hj h1 hP hL
    obtain rfl : k = 10 := by omega
    refine xj_iloadn 3 dB_ssz_16 rfl rfl ?_
    refine xj_bipush (v := 10) dB_ssz_17 (by decide) ?_
    refine xj_eq (xj_F (P := nI 10 < (10 : Int32)) (by decide)) ?_
    refine xj_ige (tgt := 42) dB_ssz_19 rfl xj_none ?_
    refine xj_bipush (v := 10) dB_ssz_42 (by decide) ?_
    refine xj_iloadn 1 dB_ssz_44 rfl rfl ?_
    refine xj_iadd dB_ssz_45 ?_
    have e : (decL V).length = 10 := decL_len (k := 9) (by decide) (by omega) (Or.inl (by rcases hL with h | h; exact h; omega))
    rw [e]
    exact xj_ri dB_ssz_46 rfl
  | succ j ih =>
    intro k P hj h1 hP hL
    have hP9 := hP (by omega)
    refine xj_iloadn 3 dB_ssz_16 rfl rfl ?_
    refine xj_bipush (v := 10) dB_ssz_17 (by decide) ?_
    refine xj_eq (xj_T (P := nI k < (10 : Int32)) (nI_lt (a := k) (b := 10) (by omega) (by decide))) ?_
    refine xj_ige (tgt := 42) dB_ssz_19 rfl ?_ xj_none
    refine xj_iloadn 0 dB_ssz_22 rfl rfl ?_
    refine xj_iloadn 2 dB_ssz_23 rfl rfl ?_
    by_cases hlt : V < 10 ^ k
    · refine xj_eq (xj_T (P := P < x) (by rw [Int32.lt_iff_toInt_lt, hP9, hx]; omega)) ?_
      refine xj_ile (tgt := 31) dB_ssz_24 rfl ?_ xj_none
      refine xj_iloadn 3 dB_ssz_27 rfl rfl ?_
      refine xj_iloadn 1 dB_ssz_28 rfl rfl ?_
      refine xj_iadd dB_ssz_29 ?_
      have e : (decL V).length = k := by
        obtain ⟨k', rfl⟩ : ∃ k', k = k' + 1 := ⟨k - 1, by omega⟩
        exact decL_len (by omega) hlt (by rcases hL with h | h; exact Or.inl h; exact Or.inr (by omega))
      rw [e]
      exact xj_ri dB_ssz_30 rfl
    · refine xj_eq (xj_F (P := P < x) (by rw [Int32.lt_iff_toInt_lt, hP9, hx]; omega)) ?_
      refine xj_ile (tgt := 31) dB_ssz_24 rfl xj_none ?_
      refine xj_bipush (v := 10) dB_ssz_31 (by decide) ?_
      refine xj_iloadn 2 dB_ssz_33 rfl rfl ?_
      refine xj_imul dB_ssz_34 ?_
      refine xj_istoren (lv2 := [(2, .int (10 * P)), (0, .int x), (1, .int d), (3, .int (nI k))]) dB_ssz_35 rfl (Nat.le_of_ble_eq_true rfl) rfl ?_
      refine xj_iinc (n := 3) (lv2 := [(3, .int (nI k + 1)), (2, .int (10 * P)), (0, .int x), (1, .int d)]) dB_ssz_36 rfl (by decide) (Nat.le_of_ble_eq_true rfl) rfl ?_
      rw [nI_1]
      refine xj_goto (tgt := 16) dB_ssz_39 rfl ?_
      refine xj_sub (lv2 := [(0, .int x), (1, .int d), (2, .int (10 * P)), (3, .int (nI (k + 1)))]) [2, 3, 1, 0] rfl ?_
      refine ih (k + 1) (10 * P) (by omega) (by omega) (fun h => ?_) (Or.inl (by show 10 ^ k ≤ V; omega))
      obtain ⟨P2, e1, e2⟩ := pow10_i k h1 (by omega)
      rw [i32_of_toInt (hP9.trans e1.symm)]
      exact e2 (by omega)
theorem numL_len {x : Int32} {V : Nat} (h : x.toInt = (V : Int)) : numL x.toInt = decL V := by
  unfold numL
  rw [if_neg (by omega), h]
  rfl
theorem numL_neg {x : Int32} {V : Nat} (h : x.toInt = -(V : Int)) (hV : 0 < V) : numL x.toInt = 45 :: decL V := by
  unfold numL
  rw [if_pos (by omega), h, Int.natAbs_neg]
  rfl
theorem tB_ssz (x : Int32) : xJ ιI mB_ssz (lS m z f) (0, 0) 0 [(0, .int x)] [] w (some (nI (numL x.toInt).length, w)) := by
  have hlo := x.le_toInt
  have hhi := x.toInt_lt
  refine xj_iconst (v := 1) dB_ssz_0 (by decide) ?_
  refine xj_istoren (lv2 := [(1, .int 1), (0, .int x)]) dB_ssz_1 rfl (Nat.le_of_ble_eq_true rfl) rfl ?_
  refine xj_iloadn 1 dB_ssz_2 rfl rfl ?_
  have tail : ∀ (V : Nat) (y d : Int32), y.toInt = -(V : Int) → V ≤ 2 ^ 31 → ∀ a b : Nat, xJ ιI mB_ssz (lS m z f) (0, 0) 11 [(0, .int y), (1, .int d)] [] w (some (nI (decL V).length + d, w)) := by
    intro V y d hy hV _ _
    refine xj_bipush (v := -10) dB_ssz_11 (by decide) ?_
    refine xj_istoren (lv2 := [(2, .int (-10)), (0, .int y), (1, .int d)]) dB_ssz_13 rfl (Nat.le_of_ble_eq_true rfl) rfl ?_
    refine xj_iconst (v := 1) dB_ssz_14 (by decide) ?_
    refine xj_istoren (lv2 := [(3, .int 1), (2, .int (-10)), (0, .int y), (1, .int d)]) dB_ssz_15 rfl (Nat.le_of_ble_eq_true rfl) rfl ?_
    refine xj_sub (lv2 := [(0, .int y), (1, .int d), (2, .int (-10)), (3, .int (nI 1))]) [2, 3, 1, 0] rfl ?_
    exact ssz_loop hy hV 9 1 (-10) rfl (by decide) (fun _ => by decide) (Or.inr rfl)
  by_cases hneg : x < 0
  · refine xj_eq (xj_T (P := x < 0) hneg) ?_
    refine xj_iflt (tgt := 11) dB_ssz_3 rfl ?_ xj_none
    rw [Int32.lt_iff_toInt_lt, Int32.toInt_zero] at hneg
    obtain ⟨V, hV⟩ : ∃ V : Nat, x.toInt = -(V : Int) := ⟨x.toInt.natAbs, by omega⟩
    refine xj_sub (lv2 := [(0, .int x), (1, .int 1)]) [1, 0] rfl ?_
    rw [numL_neg hV (by omega), List.length_cons, ← nI_1]
    exact tail V x 1 hV (by omega) 0 0
  · refine xj_eq (xj_F (P := x < 0) hneg) ?_
    refine xj_iflt (tgt := 11) dB_ssz_3 rfl xj_none ?_
    rw [Int32.lt_iff_toInt_lt, Int32.toInt_zero] at hneg
    obtain ⟨V, hV⟩ : ∃ V : Nat, x.toInt = (V : Int) := ⟨x.toInt.toNat, by omega⟩
    refine xj_iconst (v := 0) dB_ssz_6 (by decide) ?_
    refine xj_istoren (lv2 := [(1, .int 0), (0, .int x)]) dB_ssz_7 rfl (Nat.le_of_ble_eq_true rfl) rfl ?_
    refine xj_iloadn 1 dB_ssz_8 rfl rfl ?_
    refine xj_ineg dB_ssz_9 ?_
    refine xj_istoren (lv2 := [(0, .int (-x)), (1, .int 0)]) dB_ssz_10 rfl (Nat.le_of_ble_eq_true rfl) rfl ?_
    have h := tail V (-x) 0 (i32_neg hV (by omega)) (by omega) 0 0
    rw [Int32.add_zero] at h
    rw [numL_len hV]
    exact h
theorem kB_ssz (x : Int32) : xMet jI mB_ssz (lS m z f) (0, 0) [.int x] w (some (nI (numL x.toInt).length, w)) := xj_met lS_ok (by decide) (Nat.le_of_ble_eq_true rfl) (Nat.zero_le _) (Nat.zero_le _) (tB_ssz x)
end SZ
