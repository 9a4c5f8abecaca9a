/-! Integer.getChars -/
/-- the letters l stand from p on; everything else as before -/
def wrt (w w' : xW) (p : Nat) (l : List Nat) : Prop := w'.2 = w.2 ∧ (∀ k j, k ≠ 1 → w'.1 k j = w.1 k j) ∧ (∀ j, (j < p ∨ p + l.length ≤ j) → w'.1 1 j = w.1 1 j) ∧ ∀ i, i < l.length → w'.1 1 (p + i) = sb_b (l.getD i 0)
theorem wrt_nil (w : xW) (p : Nat) : wrt w w p [] := ⟨rfl, fun _ _ _ => rfl, fun _ _ => rfl, fun i hi => absurd hi (Nat.not_lt_zero i)⟩
/-- one letter more, ahead -/
theorem wrt_pre {w w' : xW} {p c : Nat} {l : List Nat} (h : wrt w w' (p + 1) l) : wrt w (xwi w' 1 p (sb_b c)) p (c :: l) := by
  obtain ⟨h1, h2, h3, h4⟩ := h
  refine ⟨h1, fun k j hk => ?_, fun j hj => ?_, fun i hi => ?_⟩
  · rw [xwi_o (fun q => hk q.1)]; exact h2 k j hk
  · rw [List.length_cons] at hj
    rw [xwi_o (fun q => by omega)]
    exact h3 j (by omega)
  · rw [List.length_cons] at hi
    cases i with
    | zero => exact xwi_s
    | succ i =>
      rw [xwi_o (fun q => by omega), show p + (i + 1) = p + 1 + i by omega]
      exact h4 i (by omega)
/-- one letter more, ahead, that was written first -/
theorem wrt_app {w w1 w' : xW} {p : Nat} {l l2 : List Nat} (h1 : wrt w w1 (p + l.length) l2) (h2 : wrt w1 w' p l) : wrt w w' p (l ++ l2) := by
  obtain ⟨a1, a2, a3, a4⟩ := h1
  obtain ⟨b1, b2, b3, b4⟩ := h2
  refine ⟨b1.trans a1, fun k j hk => (b2 k j hk).trans (a2 k j hk), fun j hj => ?_, fun i hi => ?_⟩
  · rw [List.length_append] at hj
    rw [b3 j (by omega)]
    exact a3 j (by omega)
  · rw [List.length_append] at hi
    by_cases h : i < l.length
    · rw [b4 i h, List.getD_eq_getElem?_getD, List.getD_eq_getElem?_getD, List.getElem?_append_left h]
    · rw [b3 (p + i) (Or.inr (by omega)), List.getD_eq_getElem?_getD, List.getElem?_append_right (by omega), ← List.getD_eq_getElem?_getD]
      have := a4 (i - l.length) (by omega)
      rw [show p + l.length + (i - l.length) = p + i by omega] at this
      exact this
theorem wrt_one {w : xW} {p c : Nat} : wrt w (xwi w 1 p (sb_b c)) p [c] := wrt_pre (wrt_nil w (p + 1))
theorem wrt_two {w : xW} {p c d : Nat} : wrt w (xwi (xwi w 1 (p + 1) (sb_b d)) 1 p (sb_b c)) p [c, d] := wrt_pre wrt_one
theorem dig1 : ∀ r, r < 100 → digOnes r = nI (48 + r % 10) ∧ digTens r = nI (48 + r / 10) := fun _ _ => ⟨rfl, rfl⟩
theorem i32_div {x : Int32} {V : Nat} (h : x.toInt = -(V : Int)) (hV : V ≤ 2 ^ 31) : (x / 100).toInt = -((V / 100 : Nat) : Int) ∧ x / 100 * 100 - x = nI (V % 100) := by
  have e1 : (x / 100).toInt = -((V / 100 : Nat) : Int) := by
    rw [Int32.toInt_div, h, show (100 : Int32).toInt = 100 by decide, Int.neg_tdiv, show ((V : Int)).tdiv 100 = ((V / 100 : Nat) : Int) from rfl]
    exact Int.bmod_eq_of_le (by omega) (by omega)
  refine ⟨e1, i32_of_toInt ?_⟩
  have e2 : (x / 100 * 100).toInt = -((V / 100 * 100 : Nat) : Int) := by
    rw [Int32.toInt_mul, e1, show (100 : Int32).toInt = 100 by decide]
    rw [show -((V / 100 : Nat) : Int) * 100 = -((V / 100 * 100 : Nat) : Int) by omega]
    exact Int.bmod_eq_of_le (by omega) (by omega)
  rw [Int32.toInt_sub, e2, h, nI_toInt (by omega)]
  rw [show -((V / 100 * 100 : Nat) : Int) - -(V : Int) = ((V % 100 : Nat) : Int) by omega]
  exact Int.bmod_eq_of_le (by omega) (by omega)
section GC
variable {ρ : Type} {ι : ρ → xO × xW} {m z : Nat} {f : Nat → Int32} {b : Nat × Nat} {r : Option ρ}
theorem gch_loop (hm : m ≤ 65536) (neg : Int32) (R : Option (Int32 × xW)) (W0 : xW) : ∀ (F V p : Nat) (w : xW) (x : Int32), V < F → x.toInt = -(V : Int) → V ≤ 2 ^ 31 → (decL V).length ≤ p → p ≤ m →
    (∀ w', wrt w w' (p - (decL V).length) (decL V) → xJ ιI mB_gch (lS m z f) (0, 0) 104 [(2, .ref 1), (5, .int (nI (p - (decL V).length))), (6, .int neg)] [] w' R) →
    xJ ιI mB_gch (lS m z f) (0, 0) 22 [(0, .int x), (2, .ref 1), (5, .int (nI p)), (6, .int neg)] [] w R := by
  intro F
  induction F with
  | zero => intro V p w x h; omega
  | succ F ih =>
    intro V p w x hF hx hV hlen hp hK
    have hl1 := decL_len1 (v := V) (by omega)
    have hb1 : ∀ c, c < 256 → ((nI c).toInt8.toInt32) = sb_b c := fun _ _ => rfl
    refine xj_iloadn 0 dB_gch_22 rfl rfl ?_
    refine xj_bipush (v := -100) dB_gch_23 (by decide) ?_
    by_cases h100 : V < 100
    · refine xj_eq (xj_T (P := (-100 : Int32) < x) (by rw [Int32.lt_iff_toInt_lt, hx, show (-100 : Int32).toInt = -100 by decide]; omega)) ?_
      refine xj_igt (tgt := 72) dB_gch_25 rfl ?_ xj_none
      have eneg : -x = nI V := i32_pos hx (by omega)
      have hcV : (nI V).toNatClampNeg = V := nI_clamp (by omega)
      have hin : xin (nI V) 100 := ⟨nI_pos (by omega), by rw [hcV]; exact h100⟩
      have hcp : (nI (p - 1)).toNatClampNeg = p - 1 := nI_clamp (by omega)
      refine xj_aloadn 1 dB_gch_72 rfl rfl ?_
      refine xj_iinc (n := 2) (lv2 := [(5, .int (nI p + -1)), (0, .int x), (2, .ref 1), (6, .int neg)]) dB_gch_73 rfl (by decide) (Nat.le_of_ble_eq_true rfl) rfl ?_
      rw [sb_m1 (by omega)]
      refine xj_iload 0 dB_gch_76 rfl ?_
      refine xj_gsv (v := .ref 3020) dB_gch_78 tB_f_J6_83 (fun G A U H h => h.2.1.1.1) ?_
      refine xj_iloadn 1 dB_gch_81 rfl rfl ?_
      refine xj_ineg dB_gch_82 ?_
      rw [eneg]
      refine xj_balds (f := digOnes) dB_gch_83 hin (fun G A U H h => h.2.1.1.2) ?_
      rw [hcV]
      refine xj_eq (xj_T (P := xin (nI (p - 1)) m) ⟨nI_pos (by omega), by rw [hcp]; omega⟩) ?_
      refine xj_bast (k := 1) dB_gch_84 rfl ?_
      rw [hcp]
      show xJ ιI mB_gch (lS m z f) (0, 0) 85 _ _ (xwi w 1 (p - 1) (sb_b (48 + V % 10))) R
      refine xj_iloadn 1 dB_gch_85 rfl rfl ?_
      refine xj_bipush (v := -9) dB_gch_86 (by decide) ?_
      by_cases h10 : V < 10
      · refine xj_eq (xj_F (P := x < (-9 : Int32)) (by rw [Int32.lt_iff_toInt_lt, hx, show (-9 : Int32).toInt = -9 by decide]; omega)) ?_
        refine xj_ige (tgt := 104) dB_gch_88 rfl xj_none ?_
        refine xj_sub (lv2 := [(2, .ref 1), (5, .int (nI (p - 1))), (6, .int neg)]) [2, 0, 3] rfl ?_
        have e := decL_lt h10
        have h := hK (xwi w 1 (p - 1) (sb_b (48 + V % 10))) (by rw [e, Nat.mod_eq_of_lt h10]; exact wrt_one)
        rw [e] at h
        exact h
      · have hcp2 : (nI (p - 1 - 1)).toNatClampNeg = p - 1 - 1 := nI_clamp (by omega)
        have e := decL_10 (v := V) (by omega) (by omega)
        rw [decL_lt (v := V / 10) (by omega)] at e
        have elen : (decL V).length = 2 := by rw [e]; rfl
        refine xj_eq (xj_T (P := x < (-9 : Int32)) (by rw [Int32.lt_iff_toInt_lt, hx, show (-9 : Int32).toInt = -9 by decide]; omega)) ?_
        refine xj_ige (tgt := 104) dB_gch_88 rfl ?_ xj_none
        refine xj_aloadn 2 dB_gch_91 rfl rfl ?_
        refine xj_iinc (n := 0) (lv2 := [(5, .int (nI (p - 1) + -1)), (0, .int x), (2, .ref 1), (6, .int neg)]) dB_gch_92 rfl (by decide) (Nat.le_of_ble_eq_true rfl) rfl ?_
        rw [sb_m1 (by omega)]
        refine xj_iload 0 dB_gch_95 rfl ?_
        refine xj_gsv (v := .ref 3021) dB_gch_97 tB_f_J6_87 (fun G A U H h => h.2.1.2.1) ?_
        refine xj_iloadn 1 dB_gch_100 rfl rfl ?_
        refine xj_ineg dB_gch_101 ?_
        rw [eneg]
        refine xj_balds (f := digTens) dB_gch_102 hin (fun G A U H h => h.2.1.2.2) ?_
        rw [hcV]
        refine xj_eq (xj_T (P := xin (nI (p - 1 - 1)) m) ⟨nI_pos (by omega), by rw [hcp2]; omega⟩) ?_
        refine xj_bast (k := 1) dB_gch_103 rfl ?_
        rw [hcp2]
        show xJ ιI mB_gch (lS m z f) (0, 0) 104 _ _ (xwi (xwi w 1 (p - 1) (sb_b (48 + V % 10))) 1 (p - 1 - 1) (sb_b (48 + V / 10))) R
        refine xj_sub (lv2 := [(2, .ref 1), (5, .int (nI (p - 1 - 1))), (6, .int neg)]) [2, 0, 3] rfl ?_
        have h := hK (xwi (xwi w 1 (p - 1) (sb_b (48 + V % 10))) 1 (p - 1 - 1) (sb_b (48 + V / 10))) (by
          rw [elen, e]
          have h9 := wrt_two (w := w) (p := p - 2) (c := 48 + V / 10) (d := 48 + V % 10)
          rw [show p - 2 + 1 = p - 1 by omega] at h9
          exact h9)
        rw [elen] at h
        exact h
    · obtain ⟨d1, d2⟩ := i32_div hx hV
      have hr100 : V % 100 < 100 := Nat.mod_lt _ (by decide)
      have hcr : (nI (V % 100)).toNatClampNeg = V % 100 := nI_clamp (by omega)
      have hin : xin (nI (V % 100)) 100 := ⟨nI_pos (by omega), by rw [hcr]; exact hr100⟩
      have e := decL_100 (v := V) (by omega) (by omega)
      have elen : (decL V).length = (decL (V / 100)).length + 2 := by rw [e, List.length_append]; rfl
      have hcp : (nI (p - 1)).toNatClampNeg = p - 1 := nI_clamp (by omega)
      have hcp2 : (nI (p - 1 - 1)).toNatClampNeg = p - 1 - 1 := nI_clamp (by omega)
      refine xj_eq (xj_F (P := (-100 : Int32) < x) (by rw [Int32.lt_iff_toInt_lt, hx, show (-100 : Int32).toInt = -100 by decide]; omega)) ?_
      refine xj_igt (tgt := 72) dB_gch_25 rfl xj_none ?_
      refine xj_iloadn 0 dB_gch_28 rfl rfl ?_
      refine xj_bipush (v := 100) dB_gch_29 (by decide) ?_
      refine xj_eq (xj_T (P := ¬ (100 : Int32) = 0) (by decide)) ?_
      refine xj_idiv dB_gch_31 ?_
      generalize hq : x / 100 = q at d1 d2
      refine xj_istoren (lv2 := [(3, .int q), (0, .int x), (2, .ref 1), (5, .int (nI p)), (6, .int neg)]) dB_gch_32 rfl (Nat.le_of_ble_eq_true rfl) rfl ?_
      refine xj_iloadn 0 dB_gch_33 rfl rfl ?_
      refine xj_bipush (v := 100) dB_gch_34 (by decide) ?_
      refine xj_imul dB_gch_36 ?_
      refine xj_iloadn 1 dB_gch_37 rfl rfl ?_
      refine xj_isub dB_gch_38 ?_
      rw [d2]
      refine xj_istore (lv2 := [(4, .int (nI (V % 100))), (3, .int q), (0, .int x), (2, .ref 1), (5, .int (nI p)), (6, .int neg)]) dB_gch_39 (Nat.le_of_ble_eq_true rfl) rfl ?_
      refine xj_iloadn 1 dB_gch_41 rfl rfl ?_
      refine xj_istoren (lv2 := [(0, .int q), (4, .int (nI (V % 100))), (3, .int q), (2, .ref 1), (5, .int (nI p)), (6, .int neg)]) dB_gch_42 rfl (Nat.le_of_ble_eq_true rfl) rfl ?_
      refine xj_aloadn 3 dB_gch_43 rfl rfl ?_
      refine xj_iinc (n := 4) (lv2 := [(5, .int (nI p + -1)), (0, .int q), (4, .int (nI (V % 100))), (3, .int q), (2, .ref 1), (6, .int neg)]) dB_gch_44 rfl (by decide) (Nat.le_of_ble_eq_true rfl) rfl ?_
      rw [sb_m1 (by omega)]
      refine xj_iload 0 dB_gch_47 rfl ?_
      refine xj_gsv (v := .ref 3020) dB_gch_49 tB_f_J6_83 (fun G A U H h => h.2.1.1.1) ?_
      refine xj_iload 2 dB_gch_52 rfl ?_
      refine xj_balds (f := digOnes) dB_gch_54 hin (fun G A U H h => h.2.1.1.2) ?_
      rw [hcr]
      refine xj_eq (xj_T (P := xin (nI (p - 1)) m) ⟨nI_pos (by omega), by rw [hcp]; omega⟩) ?_
      refine xj_bast (k := 1) dB_gch_55 rfl ?_
      rw [hcp]
      refine xj_aloadn 4 dB_gch_56 rfl rfl ?_
      refine xj_iinc (n := 0) (lv2 := [(5, .int (nI (p - 1) + -1)), (0, .int q), (4, .int (nI (V % 100))), (3, .int q), (2, .ref 1), (6, .int neg)]) dB_gch_57 rfl (by decide) (Nat.le_of_ble_eq_true rfl) rfl ?_
      rw [sb_m1 (by omega)]
      refine xj_iload 0 dB_gch_60 rfl ?_
      refine xj_gsv (v := .ref 3021) dB_gch_62 tB_f_J6_87 (fun G A U H h => h.2.1.2.1) ?_
      refine xj_iload 2 dB_gch_65 rfl ?_
      refine xj_balds (f := digTens) dB_gch_67 hin (fun G A U H h => h.2.1.2.2) ?_
      rw [hcr]
      refine xj_eq (xj_T (P := xin (nI (p - 1 - 1)) m) ⟨nI_pos (by omega), by rw [hcp2]; omega⟩) ?_
      refine xj_bast (k := 1) dB_gch_68 rfl ?_
      rw [hcp2]
      refine xj_goto (tgt := 22) dB_gch_69 rfl ?_
      refine xj_sub (lv2 := [(0, .int q), (2, .ref 1), (5, .int (nI (p - 1 - 1))), (6, .int neg)]) [1, 4, 0, 5] rfl ?_
      refine ih (V / 100) (p - 1 - 1) _ q (by omega) d1 (by omega) (by omega) (by omega) (fun w' hw' => ?_)
      have h := hK w' (by
        rw [elen, e]
        have h9 := wrt_two (w := w) (p := p - 2) (c := 48 + V % 100 / 10) (d := 48 + V % 100 % 10)
        rw [show p - 2 + 1 = p - 1 by omega] at h9
        refine wrt_app (w1 := _) ?_ (by rw [show p - ((decL (V / 100)).length + 2) = p - 1 - 1 - (decL (V / 100)).length by omega]; exact hw')
        rw [show p - ((decL (V / 100)).length + 2) + (decL (V / 100)).length = p - 2 by omega]
        exact h9)
      rw [elen, show p - ((decL (V / 100)).length + 2) = p - 1 - 1 - (decL (V / 100)).length by omega] at h
      exact h
end GC
/-- the world with the letters l from p on -/
def wput (w : xW) (p : Nat) (l : List Nat) : xW := (fun a j => if a = 1 ∧ p ≤ j ∧ j < p + l.length then sb_b (l.getD (j - p) 0) else w.1 a j, w.2)
theorem wrt_eq {w w' : xW} {p : Nat} {l : List Nat} (h : wrt w w' p l) : w' = wput w p l := by
  obtain ⟨h1, h2, h3, h4⟩ := h
  refine Prod.ext (funext fun a => funext fun j => ?_) h1
  show w'.1 a j = if a = 1 ∧ p ≤ j ∧ j < p + l.length then sb_b (l.getD (j - p) 0) else w.1 a j
  by_cases ha : a = 1
  · subst ha
    by_cases hj : p ≤ j ∧ j < p + l.length
    · rw [if_pos ⟨rfl, hj⟩]
      have := h4 (j - p) (by omega)
      rw [show p + (j - p) = j by omega] at this
      exact this
    · rw [if_neg (fun q => hj q.2)]
      exact h3 j (by omega)
  · rw [if_neg (fun q => ha q.1)]
    exact h2 a j ha
theorem wput_wrt (w : xW) (p : Nat) (l : List Nat) : wrt w (wput w p l) p l := by
  refine ⟨rfl, fun k j hk => if_neg (fun q => hk q.1), fun j hj => if_neg (fun q => by omega), fun i hi => ?_⟩
  show (if 1 = 1 ∧ p ≤ p + i ∧ p + i < p + l.length then sb_b (l.getD (p + i - p) 0) else w.1 1 (p + i)) = _
  rw [if_pos ⟨rfl, by omega, by omega⟩, show p + i - p = i by omega]
section GC2
variable {m z : Nat} {f : Nat → Int32}
/-- getChars: the letters of x, ending ahead of p -/
theorem tB_gch (hm : m ≤ 65536) (x : Int32) (p : Nat) (w : xW) (hlen : (numL x.toInt).length ≤ p) (hp : p ≤ m) : xJ ιI mB_gch (lS m z f) (0, 0) 0 [(0, .int x), (1, .int (nI p)), (2, .ref 1)] [] w (some (nI (p - (numL x.toInt).length), wput w (p - (numL x.toInt).length) (numL x.toInt))) := by
  have hlo := x.le_toInt
  have hhi := x.toInt_lt
  refine xj_iloadn 1 dB_gch_0 rfl rfl ?_
  refine xj_istore (lv2 := [(5, .int (nI p)), (0, .int x), (1, .int (nI p)), (2, .ref 1)]) dB_gch_1 (Nat.le_of_ble_eq_true rfl) rfl ?_
  refine xj_iloadn 1 dB_gch_3 rfl rfl ?_
  by_cases hneg : x < 0
  · refine xj_eq (xj_T (P := x < 0) hneg) ?_
    refine xj_ifge (tgt := 11) dB_gch_4 rfl ?_ xj_none
    rw [Int32.lt_iff_toInt_lt, Int32.toInt_zero] at hneg
    obtain ⟨V, hV⟩ : ∃ V : Nat, x.toInt = -(V : Int) := ⟨x.toInt.natAbs, by omega⟩
    have hl := decL_len1 (v := V) (by omega)
    rw [numL_neg hV (by omega)] at hlen ⊢
    rw [List.length_cons] at hlen ⊢
    refine xj_iconst (v := 1) dB_gch_7 (by decide) ?_
    refine xj_goto (tgt := 12) dB_gch_8 rfl ?_
    refine xj_istore (lv2 := [(6, .int 1), (5, .int (nI p)), (0, .int x), (1, .int (nI p)), (2, .ref 1)]) dB_gch_12 (Nat.le_of_ble_eq_true rfl) rfl ?_
    refine xj_iload 0 dB_gch_14 rfl ?_
    refine xj_eq (xj_F (P := (1 : Int32) = 0) (by decide)) ?_
    refine xj_ifne (tgt := 22) dB_gch_16 rfl xj_none ?_
    refine xj_sub (lv2 := [(0, .int x), (2, .ref 1), (5, .int (nI p)), (6, .int 1)]) [2, 4, 1, 0] rfl ?_
    refine gch_loop hm 1 _ w (V + 1) V p w x (by omega) hV (by omega) (by omega) hp (fun w' hw' => ?_)
    refine xj_iload 2 dB_gch_104 rfl ?_
    refine xj_eq (xj_F (P := (1 : Int32) = 0) (by decide)) ?_
    refine xj_ifeq (tgt := 118) dB_gch_106 rfl xj_none ?_
    refine xj_aloadn 0 dB_gch_109 rfl rfl ?_
    refine xj_iinc (n := 1) (lv2 := [(5, .int (nI (p - (decL V).length) + -1)), (2, .ref 1), (6, .int 1)]) dB_gch_110 rfl (by decide) (Nat.le_of_ble_eq_true rfl) rfl ?_
    rw [sb_m1 (by omega)]
    refine xj_iload 0 dB_gch_113 rfl ?_
    refine xj_bipush (v := 45) dB_gch_115 (by decide) ?_
    have hcp : (nI (p - (decL V).length - 1)).toNatClampNeg = p - (decL V).length - 1 := nI_clamp (by omega)
    refine xj_eq (xj_T (P := xin (nI (p - (decL V).length - 1)) m) ⟨nI_pos (by omega), by rw [hcp]; omega⟩) ?_
    refine xj_bast (k := 1) dB_gch_117 rfl ?_
    rw [hcp]
    refine xj_iload 0 dB_gch_118 rfl ?_
    have e1 : p - ((decL V).length + 1) = p - (decL V).length - 1 := by omega
    have e2 : wput w (p - ((decL V).length + 1)) (45 :: decL V) = xwi w' 1 (p - (decL V).length - 1) (sb_b 45) := by
      rw [e1]
      exact (wrt_eq (wrt_pre (by rw [show p - (decL V).length - 1 + 1 = p - (decL V).length by omega]; exact hw'))).symm
    rw [e2, e1]
    exact xj_ri dB_gch_120 rfl
  · refine xj_eq (xj_F (P := x < 0) hneg) ?_
    refine xj_ifge (tgt := 11) dB_gch_4 rfl xj_none ?_
    rw [Int32.lt_iff_toInt_lt, Int32.toInt_zero] at hneg
    obtain ⟨V, hV⟩ : ∃ V : Nat, x.toInt = (V : Int) := ⟨x.toInt.toNat, by omega⟩
    rw [numL_len hV] at hlen ⊢
    refine xj_iconst (v := 0) dB_gch_11 (by decide) ?_
    refine xj_istore (lv2 := [(6, .int 0), (5, .int (nI p)), (0, .int x), (1, .int (nI p)), (2, .ref 1)]) dB_gch_12 (Nat.le_of_ble_eq_true rfl) rfl ?_
    refine xj_iload 0 dB_gch_14 rfl ?_
    refine xj_eq (xj_T (P := (0 : Int32) = 0) rfl) ?_
    refine xj_ifne (tgt := 22) dB_gch_16 rfl ?_ xj_none
    refine xj_iloadn 2 dB_gch_19 rfl rfl ?_
    refine xj_ineg dB_gch_20 ?_
    refine xj_istoren (lv2 := [(0, .int (-x)), (6, .int 0), (5, .int (nI p)), (1, .int (nI p)), (2, .ref 1)]) dB_gch_21 rfl (Nat.le_of_ble_eq_true rfl) rfl ?_
    refine xj_sub (lv2 := [(0, .int (-x)), (2, .ref 1), (5, .int (nI p)), (6, .int 0)]) [0, 4, 2, 1] rfl ?_
    refine gch_loop hm 0 _ w (V + 1) V p w (-x) (by omega) (i32_neg hV (by omega)) (by omega) hlen hp (fun w' hw' => ?_)
    refine xj_iload 2 dB_gch_104 rfl ?_
    refine xj_eq (xj_T (P := (0 : Int32) = 0) rfl) ?_
    refine xj_ifeq (tgt := 118) dB_gch_106 rfl ?_ xj_none
    refine xj_iload 1 dB_gch_118 rfl ?_
    rw [← wrt_eq hw']
    exact xj_ri dB_gch_120 rfl
theorem kB_gch (hm : m ≤ 65536) (x : Int32) (p : Nat) (w : xW) (hlen : (numL x.toInt).length ≤ p) (hp : p ≤ m) : xMet jI mB_gch (lS m z f) (0, 0) [.int x, .int (nI p), .ref 1] w (some (nI (p - (numL x.toInt).length), wput w (p - (numL x.toInt).length) (numL x.toInt))) := xj_met lS_ok (by decide) (Nat.le_of_ble_eq_true rfl) (Nat.zero_le _) (Nat.zero_le _) (tB_gch hm x p w hlen hp)
end GC2
