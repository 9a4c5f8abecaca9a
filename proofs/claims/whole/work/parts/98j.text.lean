/-! texts: E, its address, in both -/
def okL (k : Nat) (T : List Nat) : Prop := T.length ≤ k ∧ ∀ c ∈ T, c < 256
theorem okL_app {a b : Nat} {T U : List Nat} (h1 : okL a T) (h2 : okL b U) : okL (a + b) (T ++ U) := ⟨by rw [List.length_append]; exact Nat.add_le_add h1.1 h2.1, fun c hc => (List.mem_append.mp hc).elim (h1.2 c) (h2.2 c)⟩
theorem okL_le {a b : Nat} {T : List Nat} (h1 : okL a T) (h : a ≤ b) : okL b T := ⟨Nat.le_trans h1.1 h, h1.2⟩
theorem okL_c {c : Nat} (h : c < 256) : okL 1 [c] := ⟨Nat.le_refl _, fun d hd => by rw [List.mem_singleton.mp hd]; exact h⟩
theorem okL_nil : okL 0 [] := ⟨Nat.le_refl _, fun _ h => absurd h List.not_mem_nil⟩
theorem decF_256 : ∀ (f v : Nat), ∀ c ∈ decF f v, c < 256 := by
  intro f
  induction f with
  | zero => intro v c hc; rw [List.mem_singleton.mp hc]; omega
  | succ f ih =>
    intro v c hc
    unfold decF at hc
    split at hc
    · rw [List.mem_singleton.mp hc]; omega
    · rcases List.mem_append.mp hc with h | h
      · exact ih _ c h
      · rw [List.mem_singleton.mp h]; omega
theorem okL_num (x : Int32) : okL 11 (numL x.toInt) := by
  refine ⟨numL_le.2, fun c hc => ?_⟩
  unfold numL at hc
  split at hc
  · rcases List.mem_cons.mp hc with rfl | h
    · decide
    · exact decF_256 _ _ c h
  · exact decF_256 _ _ c hc
theorem okL_dec {U : Nat} (h : U < 2 ^ 32) : okL 10 (decL U) := ⟨(decL_len1 (by omega)).2, decF_256 _ _⟩
theorem okL_reg {r : Nat} {size : Int32} (hr : r < 8) (hs : wid size) : okL 3 (regL r size) := by
  refine ⟨reg_le hr hs, fun c hc => ?_⟩
  unfold regL at hc
  split at hc
  · exact (strL_ok 7 (by decide)).2.2 c (List.mem_of_mem_drop (List.mem_of_mem_take hc))
  · split at hc
    · exact (strL_ok 8 (by decide)).2.2 c (List.mem_of_mem_drop (List.mem_of_mem_take hc))
    · exact (strL_ok 9 (by decide)).2.2 c (List.mem_of_mem_drop (List.mem_of_mem_take hc))
theorem in8_r {x : Int32} (h : in8 x) : x.toNatClampNeg < 8 ∧ x = nI x.toNatClampNeg := in8_n h
theorem bset {α : Type} {T : List Nat} {w : xW} (F : Unit → xW → Option (α × xW)) : xbd (some ((), tput w T)) F = F () (tput w T) := rfl
theorem msay {α : Type} {T : List Nat} {m : xW} (F : Unit → xW → Option (α × xW)) : xbd (some ((), mput m T)) F = F () (mput m T) := rfl
/-- what stands of the displacement -/
def dL (first : Bool) (d : Int32) : List Nat := if first then numL d.toInt else if 0 < d then 43 :: numL d.toInt else if d = 0 then [] else numL d.toInt
theorem okL_d (first : Bool) (d : Int32) : okL 12 (dL first d) := by
  unfold dL
  split
  · exact okL_le (okL_num d) (by decide)
  · split
    · exact okL_app (okL_c (by decide)) (okL_num d)
    · split
      · exact okL_le okL_nil (by decide)
      · exact okL_le (okL_num d) (by decide)
def aL (b x : Int32) (s : Nat) (d : Int32) : List Nat := (if b = -1 then [] else regL b.toNatClampNeg 4) ++ ((if x = -1 then [] else (if b = -1 then [] else [43]) ++ (regL x.toNatClampNeg 4 ++ [42, 48 + 2 ^ s])) ++ dL (decide (b = -1 ∧ x = -1)) d)
theorem sc_ok : ∀ s, s < 4 → numL ((1 : Int32) <<< ((nI s &&& (3 : Int32)) &&& 31)).toInt = [48 + 2 ^ s] ∧ (48 : Int32) + nI (2 ^ s) = nI (48 + 2 ^ s) ∧ 48 + 2 ^ s < 256 := by decide +kernel
section CE
variable {w : xW} {n : Nat}
theorem cd_157 (hn : w.1 41 0 = nI n) (h : n < 80) : sX10_addAddress_j157 w = some ((), tput w (numL (w.1 2 12).toInt)) := by
  unfold sX10_addAddress_j157
  rw [sbI_v _ hn (by omega)]
  rfl
theorem cd_143 (hn : w.1 41 0 = nI n) (h : n < 80) (hd : ¬ w.1 2 12 = 0) (a : Int32) : sX10_addAddress_j143 a w = some ((), tput w (numL (w.1 2 12).toInt)) := by
  unfold sX10_addAddress_j143
  rw [if_neg hd, cd_157 hn h]
  split <;> rfl
theorem cd_118 (hn : w.1 41 0 = nI n) (h : n + 12 ≤ 80) (first : Bool) : sX10_addAddress_j118 (bI first) w = some ((), tput w (dL first (w.1 2 12))) := by
  unfold sX10_addAddress_j118 dL
  cases first with
  | true =>
    show (if (1 : Int32) = 0 then _ else sX10_addAddress_j143 1 w) = _
    rw [if_neg n10]
    unfold sX10_addAddress_j143
    rw [if_neg n10]
    exact cd_157 hn (by omega)
  | false =>
    show (if (0 : Int32) = 0 then (if 0 < w.1 2 12 then xbd (sbC (43 : Int32) w) (fun _ w1 => sX10_addAddress_j143 0 w1) else sX10_addAddress_j143 0 w) else _) = _
    rw [if_pos rfl]
    by_cases h0 : 0 < w.1 2 12
    · rw [if_pos h0, show (43 : Int32) = nI 43 from rfl, sbC_v hn (by omega) (by decide), bset]
      have hf : (tput w [43]).1 2 12 = w.1 2 12 := tput_f hn (by show n + 1 ≤ 80; omega) (by decide)
      rw [cd_143 (tput_cnt hn (by show n + 1 ≤ 80; omega)) (by show n + 1 < 80; omega) (by rw [hf]; intro q; rw [q] at h0; exact absurd h0 (by decide)), hf, if_neg (by decide), if_pos h0]
      rfl
    · rw [if_neg h0, if_neg (by decide), if_neg h0]
      by_cases h1 : w.1 2 12 = 0
      · rw [if_pos h1]
        unfold sX10_addAddress_j143
        rw [if_pos rfl, if_pos h1]
        rfl
      · rw [if_neg h1]
        exact cd_143 hn (by omega) h1 0
theorem cd_91 (hn : w.1 41 0 = nI n) (h : n + 12 ≤ 80) : sX10_addAddress_j91 w = some ((), tput w (dL (decide (w.1 2 9 = -1 ∧ w.1 2 10 = -1)) (w.1 2 12))) := by
  unfold sX10_addAddress_j91 sX10_addAddress_j117
  by_cases hb : w.1 2 9 = -1
  · by_cases hx : w.1 2 10 = -1
    · rw [if_pos hb, if_pos hx, decide_eq_true ⟨hb, hx⟩]; exact cd_118 hn h true
    · rw [if_pos hb, if_neg hx, decide_eq_false (fun q => hx q.2)]; exact cd_118 hn h false
  · rw [if_neg hb, decide_eq_false (fun q => hb q.1)]; exact cd_118 hn h false
theorem cd_55 {s : Nat} (hn : w.1 41 0 = nI n) (h : n + 17 ≤ 80) (hx : in8 (w.1 2 10)) (hs : s < 4) (hs2 : w.1 2 11 = nI s) : sX10_addAddress_j55 w = some ((), tput w (regL (w.1 2 10).toNatClampNeg 4 ++ ([42, 48 + 2 ^ s] ++ dL (decide (w.1 2 9 = -1 ∧ w.1 2 10 = -1)) (w.1 2 12)))) := by
  obtain ⟨r8, er⟩ := in8_r hx
  have hl := (reg_len _ r8).1
  obtain ⟨e1, e2, e3⟩ := sc_ok s hs
  have c1 := tput_cnt (l := regL (w.1 2 10).toNatClampNeg 4) hn (by omega)
  have c2 := tput_cnt (l := [42]) c1 (by show _ + 1 ≤ 80; omega)
  have c3 := tput_cnt (l := [48 + 2 ^ s]) c2 (by show _ + 1 + 1 ≤ 80; omega)
  have f : ∀ i, (tput (tput (tput w (regL (w.1 2 10).toNatClampNeg 4)) [42]) [48 + 2 ^ s]).1 2 i = w.1 2 i := fun i => by
    rw [tput_f c2 (by show _ + 1 + 1 ≤ 80; omega) (by decide), tput_f c1 (by show _ + 1 ≤ 80; omega) (by decide), tput_f hn (by omega) (by decide)]
  have f2 : (tput (tput w (regL (w.1 2 10).toNatClampNeg 4)) [42]).1 2 11 = nI s := by
    rw [tput_f c1 (by show _ + 1 ≤ 80; omega) (by decide), tput_f hn (by omega) (by decide), hs2]
  unfold sX10_addAddress_j55
  rw [show sX10_addRegister (w.1 2 10) (4 : Int32) w = some ((), tput w (regL (w.1 2 10).toNatClampNeg 4)) by
    have := addReg_v (r := (w.1 2 10).toNatClampNeg) (size := 4) hn (by omega) r8 (Or.inr (Or.inr rfl))
    rw [← er] at this
    exact this, bset, show (42 : Int32) = nI 42 from rfl, sbC_v c1 (by omega) (by decide), bset, f2, sbI_v _ c2 (by show _ + 1 < 90; omega), e1, bset, cd_91 c3 (by show _ + 1 + 1 + 12 ≤ 80; omega), f, f, f]
  rw [tput_app, tput_app]
  rfl
theorem cd_23 {s : Nat} (hn : w.1 41 0 = nI n) (h : n + 18 ≤ 80) (hx : w.1 2 10 = -1 ∨ in8 (w.1 2 10)) (hs : s < 4) (hs2 : w.1 2 11 = nI s) : sX10_addAddress_j23 w = some ((), tput w ((if w.1 2 10 = -1 then [] else (if w.1 2 9 = -1 then [] else [43]) ++ (regL (w.1 2 10).toNatClampNeg 4 ++ [42, 48 + 2 ^ s])) ++ dL (decide (w.1 2 9 = -1 ∧ w.1 2 10 = -1)) (w.1 2 12))) := by
  unfold sX10_addAddress_j23
  by_cases hx1 : w.1 2 10 = -1
  · rw [if_pos hx1, if_pos hx1, cd_91 hn (by omega)]
    rfl
  · have h8 := hx.resolve_left hx1
    rw [if_neg hx1, if_neg hx1]
    by_cases hb : w.1 2 9 = -1
    · rw [if_pos hb, if_pos hb, cd_55 hn (by omega) h8 hs hs2, List.nil_append, List.append_assoc]
    · have c1 := tput_cnt (l := [43]) hn (by show n + 1 ≤ 80; omega)
      have f : ∀ i, (tput w [43]).1 2 i = w.1 2 i := fun i => tput_f hn (by show n + 1 ≤ 80; omega) (by decide)
      rw [if_neg hb, if_neg hb, show (43 : Int32) = nI 43 from rfl, sbC_v hn (by omega) (by decide), bset, cd_55 (s := s) c1 (by show n + 1 + 17 ≤ 80; omega) (by rw [f]; exact h8) hs (by rw [f]; exact hs2), f, f, f, List.append_assoc, List.append_assoc, tput_app w [43] _]
theorem addr_v {s : Nat} (hn : w.1 41 0 = nI n) (h : n + 21 ≤ 80) (hb : w.1 2 9 = -1 ∨ in8 (w.1 2 9)) (hx : w.1 2 10 = -1 ∨ in8 (w.1 2 10)) (hs : s < 4) (hs2 : w.1 2 11 = nI s) : sX10_addAddress w = some ((), tput w (aL (w.1 2 9) (w.1 2 10) s (w.1 2 12))) := by
  unfold sX10_addAddress aL
  by_cases hb1 : w.1 2 9 = -1
  · rw [if_pos hb1, if_pos hb1, cd_23 hn (by omega) hx hs hs2, List.nil_append]
  · have h8 := hb.resolve_left hb1
    obtain ⟨r8, er⟩ := in8_r h8
    have hl := (reg_len _ r8).1
    have c1 := tput_cnt (l := regL (w.1 2 9).toNatClampNeg 4) hn (by omega)
    have f : ∀ i, (tput w (regL (w.1 2 9).toNatClampNeg 4)).1 2 i = w.1 2 i := fun i => tput_f hn (by omega) (by decide)
    rw [if_neg hb1, if_neg hb1, show sX10_addRegister (w.1 2 9) (4 : Int32) w = some ((), tput w (regL (w.1 2 9).toNatClampNeg 4)) by
      have := addReg_v (r := (w.1 2 9).toNatClampNeg) (size := 4) hn (by omega) r8 (Or.inr (Or.inr rfl))
      rw [← er] at this
      exact this, bset, cd_23 (s := s) c1 (by omega) (by rw [f]; exact hx) hs (by rw [f]; exact hs2), f, f, f, tput_app w (regL (w.1 2 9).toNatClampNeg 4) _]
end CE
theorem okL_a {b x : Int32} {s : Nat} {d : Int32} (hb : b = -1 ∨ in8 b) (hx : x = -1 ∨ in8 x) (hs : s < 4) : okL 21 (aL b x s d) := by
  unfold aL
  refine okL_app (a := 3) (b := 18) ?_ (okL_app (a := 6) (b := 12) ?_ (okL_d _ _))
  · split
    · exact okL_le okL_nil (by decide)
    · exact okL_reg (in8_r (hb.resolve_left (by assumption))).1 (Or.inr (Or.inr rfl))
  · split
    · exact okL_le okL_nil (by decide)
    · refine okL_app (a := 1) (b := 5) ?_ (okL_app (a := 3) (b := 2) (okL_reg (in8_r (hx.resolve_left (by assumption))).1 (Or.inr (Or.inr rfl))) (okL_app (a := 1) (b := 1) (okL_c (by decide)) (okL_c (sc_ok s hs).2.2)))
      split
      · exact okL_le okL_nil (by decide)
      · exact okL_c (by decide)
/-! the reference's E -/
section ME
variable {m : xW} {n : Nat}
theorem md_154 (hn : m.1 0 16 = nI n) (h : n + 12 ≤ 80) : sX12_sayE_j154 m = some ((), mput m (numL (m.1 0 28).toInt ++ [93])) := by
  have hl := numL_le (x := m.1 0 28)
  unfold sX12_sayE_j154
  rw [sayInt_v hn (by omega), msay, show (93 : Int32) = nI 93 from rfl, say_v (mput_cnt hn (by omega)) (by omega), mput_app]
  rfl
theorem md_126 (hn : m.1 0 16 = nI n) (h : n + 13 ≤ 80) (first : Bool) : sX12_sayE_j126 (bI (!first)) m = some ((), mput m (dL first (m.1 0 28) ++ [93])) := by
  unfold sX12_sayE_j126 sX12_sayE_j137 dL
  cases first with
  | true =>
    show (if (0 : Int32) = 0 then (if (0 : Int32) = 0 then sX12_sayE_j154 m else _) else _) = _
    rw [if_pos rfl, if_pos rfl, md_154 hn (by omega)]
    rfl
  | false =>
    show (if (1 : Int32) = 0 then _ else (if m.1 0 28 = 0 then xbd (sX12_say (93 : Int32) m) (fun _ w1 => some ((), w1)) else (if (1 : Int32) = 0 then _ else (if 0 < m.1 0 28 then xbd (sX12_say (43 : Int32) m) (fun _ w1 => sX12_sayE_j154 w1) else sX12_sayE_j154 m)))) = _
    rw [if_neg n10, if_neg (show ¬ (false : Bool) = true by decide)]
    by_cases h1 : m.1 0 28 = 0
    · have h0 : ¬ 0 < m.1 0 28 := by rw [h1]; decide
      rw [if_pos h1, if_neg h0, if_pos h1, show (93 : Int32) = nI 93 from rfl, say_v hn (by omega)]
      rfl
    · rw [if_neg h1, if_neg n10]
      by_cases h0 : 0 < m.1 0 28
      · have f : (mput m [43]).1 0 28 = m.1 0 28 := mput_f hn (by show n + 1 ≤ 80; omega) (by decide)
        rw [if_pos h0, if_pos h0, show (43 : Int32) = nI 43 from rfl, say_v hn (by omega), msay, md_154 (mput_cnt hn (by show n + 1 ≤ 80; omega)) (by show n + 1 + 12 ≤ 80; omega), f]
        rfl
      · rw [if_neg h0, if_neg h0, if_neg h1, md_154 hn (by omega)]
theorem md_98 {s : Nat} (hn : m.1 0 16 = nI n) (h : n + 18 ≤ 80) (hx : in8 (m.1 0 26)) (hs : s < 4) (hs2 : m.1 0 27 = nI (2 ^ s)) : sX12_sayE_j98 m = some ((), mput m (regL (m.1 0 26).toNatClampNeg 4 ++ ([42, 48 + 2 ^ s] ++ (dL false (m.1 0 28) ++ [93])))) := by
  obtain ⟨r8, er⟩ := in8_r hx
  have hl := (reg_len _ r8).1
  obtain ⟨e1, e2, e3⟩ := sc_ok s hs
  have c1 := mput_cnt (l := regL (m.1 0 26).toNatClampNeg 4) hn (by omega)
  have c2 := mput_cnt (l := [42]) c1 (by show _ + 1 ≤ 80; omega)
  have c3 := mput_cnt (l := [48 + 2 ^ s]) c2 (by show _ + 1 + 1 ≤ 80; omega)
  have f : ∀ i, i ≠ 16 → (mput (mput (mput m (regL (m.1 0 26).toNatClampNeg 4)) [42]) [48 + 2 ^ s]).1 0 i = m.1 0 i := fun i hi => by
    rw [mput_f c2 (by show _ + 1 + 1 ≤ 80; omega) hi, mput_f c1 (by show _ + 1 ≤ 80; omega) hi, mput_f hn (by omega) hi]
  have f2 : (mput (mput m (regL (m.1 0 26).toNatClampNeg 4)) [42]).1 0 27 = nI (2 ^ s) := by
    rw [mput_f c1 (by show _ + 1 ≤ 80; omega) (by decide), mput_f hn (by omega) (by decide), hs2]
  unfold sX12_sayE_j98
  rw [show sX12_sayRegister (m.1 0 26) (4 : Int32) m = some ((), mput m (regL (m.1 0 26).toNatClampNeg 4)) by
    have := sayReg_v (r := (m.1 0 26).toNatClampNeg) (size := 4) hn (by omega) r8 (Or.inr (Or.inr rfl))
    rw [← er] at this
    exact this, msay, show (42 : Int32) = nI 42 from rfl, say_v c1 (by omega), msay, f2, e2, say_v c2 (by show _ + 1 < 80; omega), msay]
  have h9 := md_126 c3 (by show _ + 1 + 1 + 13 ≤ 80; omega) false
  rw [f 28 (by decide)] at h9
  rw [mput_app, mput_app]
  exact h9
theorem md_80 {s : Nat} (hn : m.1 0 16 = nI n) (h : n + 19 ≤ 80) (hx : m.1 0 26 = -1 ∨ in8 (m.1 0 26)) (hs : s < 4) (hs2 : m.1 0 27 = nI (2 ^ s)) (nob : Bool) : sX12_sayE_j80 (bI (!nob)) m = some ((), mput m ((if m.1 0 26 = -1 then [] else (if nob then [] else [43]) ++ (regL (m.1 0 26).toNatClampNeg 4 ++ [42, 48 + 2 ^ s])) ++ (dL (decide (nob = true ∧ m.1 0 26 = -1)) (m.1 0 28) ++ [93]))) := by
  unfold sX12_sayE_j80
  by_cases hx1 : m.1 0 26 = -1
  · rw [if_pos hx1, if_pos hx1, md_126 hn (by omega), List.nil_append]
    cases nob with
    | true => rw [decide_eq_true ⟨rfl, hx1⟩]
    | false => rw [decide_eq_false (fun q => absurd q.1 (by decide))]
  · have h8 := hx.resolve_left hx1
    rw [if_neg hx1, if_neg hx1, decide_eq_false (fun q => hx1 q.2)]
    cases nob with
    | true =>
      show (if (0 : Int32) = 0 then sX12_sayE_j98 m else _) = _
      rw [if_pos rfl, if_pos rfl, md_98 hn (by omega) h8 hs hs2, List.nil_append, List.append_assoc]
    | false =>
      show (if (1 : Int32) = 0 then _ else xbd (sX12_say (43 : Int32) m) (fun _ w1 => sX12_sayE_j98 w1)) = _
      have f : ∀ i, i ≠ 16 → (mput m [43]).1 0 i = m.1 0 i := fun i hi => mput_f hn (by show n + 1 ≤ 80; omega) hi
      rw [if_neg n10, show (43 : Int32) = nI 43 from rfl, say_v hn (by omega), msay, md_98 (s := s) (mput_cnt hn (by show n + 1 ≤ 80; omega)) (by show n + 1 + 18 ≤ 80; omega) (by rw [f _ (by decide)]; exact h8) hs (by rw [f _ (by decide)]; exact hs2), f _ (by decide), f _ (by decide), if_neg (show ¬ (false : Bool) = true by decide), List.append_assoc, List.append_assoc, mput_app m [43] _]
theorem md_50 {s c : Nat} (hc : c < 256) (hn : m.1 0 16 = nI n) (h : n + 24 ≤ 80) (hb : m.1 0 25 = -1 ∨ in8 (m.1 0 25)) (hx : m.1 0 26 = -1 ∨ in8 (m.1 0 26)) (hs : s < 4) (hs2 : m.1 0 27 = nI (2 ^ s)) : sX12_sayE_j50 (nI c) m = some ((), mput m ([c, 91] ++ (aL (m.1 0 25) (m.1 0 26) s (m.1 0 28) ++ [93]))) := by
  have c1 := mput_cnt (l := [c]) hn (by show n + 1 ≤ 80; omega)
  have c2 := mput_cnt (l := [91]) c1 (by show n + 1 + 1 ≤ 80; omega)
  have f : ∀ i, i ≠ 16 → (mput (mput m [c]) [91]).1 0 i = m.1 0 i := fun i hi => by
    rw [mput_f c1 (by show n + 1 + 1 ≤ 80; omega) hi, mput_f hn (by show n + 1 ≤ 80; omega) hi]
  unfold sX12_sayE_j50 aL
  rw [say_v hn (by omega), msay, show (91 : Int32) = nI 91 from rfl, say_v c1 (by show n + 1 < 80; omega), msay, f _ (by decide)]
  have e0 : mput m ([c, 91] ++ ((if m.1 0 25 = -1 then [] else regL (m.1 0 25).toNatClampNeg 4) ++ ((if m.1 0 26 = -1 then [] else (if m.1 0 25 = -1 then [] else [43]) ++ (regL (m.1 0 26).toNatClampNeg 4 ++ [42, 48 + 2 ^ s])) ++ dL (decide (m.1 0 25 = -1 ∧ m.1 0 26 = -1)) (m.1 0 28)) ++ [93])) = mput (mput (mput m [c]) [91]) ((if m.1 0 25 = -1 then [] else regL (m.1 0 25).toNatClampNeg 4) ++ ((if m.1 0 26 = -1 then [] else (if m.1 0 25 = -1 then [] else [43]) ++ (regL (m.1 0 26).toNatClampNeg 4 ++ [42, 48 + 2 ^ s])) ++ (dL (decide (m.1 0 25 = -1 ∧ m.1 0 26 = -1)) (m.1 0 28) ++ [93]))) := by
    rw [mput_app]
    simp only [List.append_assoc]
    rfl
  rw [e0]
  by_cases hb1 : m.1 0 25 = -1
  · have h9 := md_80 (s := s) c2 (by show n + 1 + 1 + 19 ≤ 80; omega) (by rw [f _ (by decide)]; exact hx) hs (by rw [f _ (by decide)]; exact hs2) true
    rw [f _ (by decide), f _ (by decide)] at h9
    rw [if_pos hb1, if_pos hb1, if_pos hb1, List.nil_append]
    simp only [hb1, true_and] at h9 ⊢
    exact h9
  · have h8 := hb.resolve_left hb1
    obtain ⟨r8, er⟩ := in8_r h8
    have hl := (reg_len _ r8).1
    have c3 := mput_cnt (l := regL (m.1 0 25).toNatClampNeg 4) c2 (by show n + 1 + 1 + _ ≤ 80; omega)
    have f3 : ∀ i, i ≠ 16 → (mput (mput (mput m [c]) [91]) (regL (m.1 0 25).toNatClampNeg 4)).1 0 i = m.1 0 i := fun i hi => by
      rw [mput_f c2 (by show n + 1 + 1 + _ ≤ 80; omega) hi, f i hi]
    have h9 := md_80 (s := s) c3 (by show n + 1 + 1 + _ + 19 ≤ 80; omega) (by rw [f3 _ (by decide)]; exact hx) hs (by rw [f3 _ (by decide)]; exact hs2) false
    rw [f3 _ (by decide), f3 _ (by decide)] at h9
    rw [if_neg hb1, if_neg hb1, if_neg hb1, show sX12_sayRegister (m.1 0 25) (4 : Int32) (mput (mput m [c]) [91]) = some ((), mput (mput (mput m [c]) [91]) (regL (m.1 0 25).toNatClampNeg 4)) by
      have := sayReg_v (r := (m.1 0 25).toNatClampNeg) (size := 4) c2 (by show n + 1 + 1 + 3 ≤ 80; omega) r8 (Or.inr (Or.inr rfl))
      rw [← er] at this
      exact this, msay, mput_app]
    simp only [hb1, false_and, decide_false, Bool.false_eq_true, if_false] at h9 ⊢
    exact h9
end ME
