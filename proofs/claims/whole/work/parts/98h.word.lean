/-! texts: words of a row, the reference's say -/
def mput1 (m : xW) (c : Nat) : xW := xwi (xwi m 8 (m.1 0 16).toNatClampNeg (nI c)) 0 16 (m.1 0 16 + 1)
def mput : xW → List Nat → xW
  | m, [] => m
  | m, c :: l => mput (mput1 m c) l
theorem mput_app (m : xW) (l1 l2 : List Nat) : mput m (l1 ++ l2) = mput (mput m l1) l2 := by
  induction l1 generalizing m with
  | nil => rfl
  | cons c l1 ih => exact ih (mput1 m c)
theorem mput_m : ∀ (l : List Nat) (m : xW) (n : Nat), m.1 0 16 = nI n → n + l.length < 2 ^ 31 → (mput m l).2 = m.2 ∧ (∀ k i, k ≠ 8 → ¬ (k = 0 ∧ i = 16) → (mput m l).1 k i = m.1 k i) ∧ (mput m l).1 0 16 = nI (n + l.length) ∧ (∀ j, (j < n ∨ n + l.length ≤ j) → (mput m l).1 8 j = m.1 8 j) ∧ ∀ i, i < l.length → (mput m l).1 8 (n + i) = nI (l.getD i 0)
  | [], m, n, hn, hl => ⟨rfl, fun _ _ _ _ => rfl, hn, fun _ _ => rfl, fun i hi => absurd hi (Nat.not_lt_zero i)⟩
  | c :: l, m, n, hn, hl => by
    rw [List.length_cons] at hl ⊢
    have ec : (m.1 0 16).toNatClampNeg = n := by rw [hn]; exact nI_clamp (by omega)
    have e1 : (mput1 m c).1 0 16 = nI (n + 1) := by
      unfold mput1
      rw [xwi_s, hn, nI_1]
    have e2 : ∀ j, (mput1 m c).1 8 j = if j = n then nI c else m.1 8 j := fun j => by
      unfold mput1
      rw [xwi_o (by omega), ec]
      by_cases hj : j = n
      · rw [if_pos hj, hj]; exact xwi_s
      · rw [if_neg hj]; exact xwi_o (fun q => hj q.2)
    obtain ⟨h1, h2, h3, h5, h6⟩ := mput_m l (mput1 m c) (n + 1) e1 (by omega)
    refine ⟨h1, fun k i hk hk2 => (h2 k i hk hk2).trans ?_, ?_, fun j hj => ?_, fun i hi => ?_⟩
    · unfold mput1
      rw [xwi_o hk2, xwi_o (fun q => hk q.1)]
    · rw [show n + (l.length + 1) = n + 1 + l.length by omega]; exact h3
    · rw [show (mput m (c :: l)).1 8 j = (mput (mput1 m c) l).1 8 j from rfl, h5 j (by omega), e2, if_neg (by omega)]
    · cases i with
      | zero =>
        rw [show (mput m (c :: l)).1 8 (n + 0) = (mput (mput1 m c) l).1 8 n from rfl, h5 n (Or.inl (by omega)), e2, if_pos rfl]; rfl
      | succ i =>
        rw [show n + (i + 1) = n + 1 + i by omega]
        exact h6 i (by omega)
theorem say_v {m : xW} {n c : Nat} (hn : m.1 0 16 = nI n) (h : n < 80) : sX12_say (nI c) m = some ((), mput m [c]) := by
  unfold sX12_say
  have ec : (m.1 0 16).toNatClampNeg = n := by rw [hn]; exact nI_clamp (by omega)
  rw [if_pos ⟨by rw [hn]; exact nI_pos (by omega), by rw [ec]; exact h⟩]
  rfl
theorem mput_cnt {m : xW} {n : Nat} {l : List Nat} (hn : m.1 0 16 = nI n) (h : n + l.length ≤ 80) : (mput m l).1 0 16 = nI (n + l.length) := (mput_m l m n hn (by omega)).2.2.1
theorem mput_f {m : xW} {n : Nat} {l : List Nat} (hn : m.1 0 16 = nI n) (h : n + l.length ≤ 80) {i : Nat} (hi : i ≠ 16) : (mput m l).1 0 i = m.1 0 i := (mput_m l m n hn (by omega)).2.1 0 i (by decide) (fun q => hi q.2)
/-- the k-th word of a row -/
def wordF (k : Nat) : Nat → List Int32 → List Nat
  | _, [] => []
  | n, c :: cs => if c = 32 then wordF k (n + 1) cs else if n = k then c.toNatClampNeg :: wordF k n cs else wordF k n cs
theorem strBy_ok : ∀ s, s < strN → ∀ c ∈ strBy.getD s [], ¬ c < 0 ∧ c.toNatClampNeg < 256 := by decide +kernel
theorem sayWord_l {s k : Nat} (hs : s < strN) (hk : k < 2000) : ∀ (cs pre : List Int32) (F n q : Nat) (m : xW), strBy.getD s [] = pre ++ cs → cs.length < F → n ≤ pre.length → m.1 0 16 = nI q → q + (wordF k n cs).length ≤ 80 → sX12_sayWord_l5 F s (nI k) (nI n) (nI pre.length) m = some ((), mput m (wordF k n cs)) := by
  intro cs
  induction cs with
  | nil =>
    intro pre F n q m hp hF hn hq hl
    obtain ⟨F, rfl⟩ : ∃ F', F = F' + 1 := ⟨F - 1, by have : 0 < F := hF; omega⟩
    have hlen : strLenN s = pre.length := by unfold strLenN; rw [hp, List.append_nil]
    rw [sX12_sayWord_l5]
    rw [if_pos hs, if_neg]
    · rfl
    · unfold strLen
      rw [hlen]
      exact nI_nlt (Nat.le_refl _) (by have := (strOk s hs).1; omega)
  | cons c cs ih =>
    intro pre F n q m hp hF hn hq hl
    obtain ⟨F, rfl⟩ : ∃ F', F = F' + 1 := ⟨F - 1, by omega⟩
    have hF : cs.length < F := by rw [List.length_cons] at hF; omega
    have hlen : strLenN s = pre.length + (cs.length + 1) := by unfold strLenN; rw [hp, List.length_append, List.length_cons]
    have h1000 := (strOk s hs).1
    have hcl : (nI pre.length).toNatClampNeg = pre.length := nI_clamp (by omega)
    have hch : strAt s (nI pre.length) = c := by
      unfold strAt strCh
      rw [hcl, hp, List.getD_eq_getElem?_getD, List.getElem?_append_right (Nat.le_refl _), Nat.sub_self]
      rfl
    have hc := strBy_ok s hs c (by rw [hp]; exact List.mem_append_right _ List.mem_cons_self)
    have hin : s < strN ∧ xin (nI pre.length) (strLenN s) := ⟨hs, nI_pos (by omega), by rw [hcl]; omega⟩
    have hp2 : strBy.getD s [] = (pre ++ [c]) ++ cs := by rw [List.append_assoc]; exact hp
    have hpl : (pre ++ [c]).length = pre.length + 1 := by rw [List.length_append]; rfl
    rw [sX12_sayWord_l5]
    rw [if_pos hs, if_pos (show nI pre.length < strLen s from nI_lt (by omega) (by omega)), if_pos hin, hch]
    unfold wordF at hl ⊢
    by_cases h32 : c = 32
    · rw [if_pos h32] at hl ⊢
      rw [if_pos h32, nI_1, nI_1, ← hpl]
      exact ih (pre ++ [c]) F (n + 1) q m hp2 hF (by omega) hq hl
    · rw [if_neg h32] at hl ⊢
      rw [if_neg h32]
      by_cases hnk : n = k
      · rw [if_pos hnk] at hl ⊢
        rw [if_pos (by rw [hnk]), if_pos hin]
        have ec : c = nI c.toNatClampNeg := (tn_nI hc.1).symm
        rw [List.length_cons] at hl
        have hsay : sX12_say c m = some ((), mput m [c.toNatClampNeg]) := by
          have h := say_v (c := c.toNatClampNeg) hq (by omega)
          rw [← ec] at h
          exact h
        rw [hsay, nI_1, ← hpl]
        show sX12_sayWord_l5 F s (nI k) (nI n) (nI (pre ++ [c]).length) (mput m [c.toNatClampNeg]) = _
        exact ih (pre ++ [c]) F n (q + 1) (mput m [c.toNatClampNeg]) hp2 hF (by omega) (mput_cnt hq (by show q + 1 ≤ 80; omega)) (by omega)
      · rw [if_neg hnk] at hl ⊢
        rw [if_neg (fun q => hnk ((nI_eq (by omega) (by omega)).mp q)), nI_1, ← hpl]
        exact ih (pre ++ [c]) F n q m hp2 hF (by omega) hq hl
theorem sayWord_v {s k q : Nat} {m : xW} (hs : s < strN) (hk : k < 2000) (hq : m.1 0 16 = nI q) (hl : q + (wordF k 0 (strBy.getD s [])).length ≤ 80) : sX12_sayWord s (nI k) m = some ((), mput m (wordF k 0 (strBy.getD s []))) :=
  sayWord_l hs hk (strBy.getD s []) [] 70000 0 q m rfl (by have := (strOk s hs).1; unfold strLenN at this; omega) (Nat.le_refl _) hq hl
/-- the class's texts -/
theorem tput_cnt {w : xW} {n : Nat} {l : List Nat} (hn : w.1 41 0 = nI n) (h : n + l.length ≤ 80) : (tput w l).1 41 0 = nI (n + l.length) := (tput_w l w n hn (by omega)).2.2.1
theorem tput_f {w : xW} {n : Nat} {l : List Nat} (hn : w.1 41 0 = nI n) (h : n + l.length ≤ 80) {k i : Nat} (hk : k < 23) : (tput w l).1 k i = w.1 k i := (tput_w l w n hn (by omega)).2.1 k i (by omega) (by omega)
theorem cnt90 {w : xW} {n : Nat} (hn : w.1 41 0 = nI n) (h : n < 90) : xin (w.1 41 0) 90 := ⟨by rw [hn]; exact nI_pos (by omega), by rw [hn, nI_clamp (by omega)]; exact h⟩
theorem sbC_v {w : xW} {n c : Nat} (hn : w.1 41 0 = nI n) (h : n < 90) (hc : c < 256) : sbC (nI c) w = some ((), tput w [c]) := by
  unfold sbC
  have ec : (nI c).toNatClampNeg = c := nI_clamp (by omega)
  rw [if_pos ⟨⟨nI_pos (by omega), by rw [ec]; exact hc⟩, cnt90 hn h⟩, ec]
theorem sbI_v {w : xW} {n : Nat} (x : Int32) (hn : w.1 41 0 = nI n) (h : n < 90) : sbI x w = some ((), tput w (numL x.toInt)) := by
  unfold sbI
  rw [if_pos (cnt90 hn h)]
theorem sbS_v {w : xW} {n s : Nat} (hn : w.1 41 0 = nI n) (h : n < 90) (hs : s < strN) (hl : strLenN s < 100) : sbS s w = some ((), tput w (strL s)) := by
  unfold sbS
  rw [if_pos ⟨⟨hs, hl⟩, cnt90 hn h⟩]
theorem sbB_v {w : xW} {n s i j : Nat} (hn : w.1 41 0 = nI n) (h : n < 90) (hs : s < strN) (hij : i < j) (hj : j ≤ strLenN s) (hlen : j - i ≤ 64) (hne : ¬ (i = 0 ∧ j = strLenN s)) : sbB s (nI i) (nI j) w = some ((), tput w (((strL s).drop i).take (j - i))) := by
  have h1000 := (strOk s hs).1
  unfold sbB
  rw [nI_clamp (n := i) (by omega), nI_clamp (n := j) (by omega), if_pos ⟨⟨hs, nI_pos (by omega), nI_pos (by omega)⟩, ⟨hij, hj, hlen, hne⟩, cnt90 hn h⟩]
/-- the names of the registers -/
def regL (r : Nat) (size : Int32) : List Nat := if size = 4 then ((strL 7).drop (3 * r)).take 3 else if size = 2 then ((strL 8).drop (2 * r)).take 2 else ((strL 9).drop (2 * r)).take 2
theorem reg_i : ∀ r, r < 8 → (3 : Int32) * (nI r &&& 7) = nI (3 * r) ∧ nI (3 * r) + 3 = nI (3 * r + 3) ∧ (2 : Int32) * (nI r &&& 7) = nI (2 * r) ∧ nI (2 * r) + 2 = nI (2 * r + 2) := by decide +kernel
theorem reg_len : ∀ r, r < 8 → (regL r 4).length = 3 ∧ (regL r 2).length = 2 ∧ (regL r 1).length = 2 := by decide +kernel
theorem reg_wd : ∀ r, r < 8 → wordF r 0 (strBy.getD 0 []) = regL r 4 ∧ wordF r 0 (strBy.getD 1 []) = regL r 2 ∧ wordF r 0 (strBy.getD 2 []) = regL r 1 := by decide +kernel
theorem reg_le {r : Nat} {size : Int32} (hr : r < 8) (hs : wid size) : (regL r size).length ≤ 3 := by
  obtain ⟨a, b, c⟩ := reg_len r hr
  rcases hs with rfl | rfl | rfl <;> omega
theorem addReg_v {w : xW} {n r : Nat} {size : Int32} (hn : w.1 41 0 = nI n) (h : n < 80) (hr : r < 8) (hs : wid size) : sX10_addRegister (nI r) size w = some ((), tput w (regL r size)) := by
  obtain ⟨e1, e2, e3, e4⟩ := reg_i r hr
  have l7 : strLenN 7 = 24 := by decide +kernel
  have l8 : strLenN 8 = 16 := by decide +kernel
  have l9 : strLenN 9 = 16 := by decide +kernel
  unfold sX10_addRegister sX10_addRegister_j46 regL
  rw [e1, e2, e3, e4]
  rcases hs with rfl | rfl | rfl
  · rw [if_neg (by decide), if_neg (by decide), if_neg (by decide), if_neg (by decide), sbB_v hn (by omega) (by decide) (by omega) (by rw [l9]; omega) (by omega) (by rw [l9]; omega), show 2 * r + 2 - 2 * r = 2 by omega]
    rfl
  · rw [if_neg (by decide), if_pos rfl, if_neg (by decide), if_pos rfl, sbB_v hn (by omega) (by decide) (by omega) (by rw [l8]; omega) (by omega) (by rw [l8]; omega), show 2 * r + 2 - 2 * r = 2 by omega]
    rfl
  · rw [if_pos rfl, if_pos rfl, sbB_v hn (by omega) (by decide) (by omega) (by rw [l7]; omega) (by omega) (by rw [l7]; omega), show 3 * r + 3 - 3 * r = 3 by omega]
    rfl
theorem sayReg_v {m : xW} {n r : Nat} {size : Int32} (hn : m.1 0 16 = nI n) (h : n + 3 ≤ 80) (hr : r < 8) (hs : wid size) : sX12_sayRegister (nI r) size m = some ((), mput m (regL r size)) := by
  obtain ⟨a, b, c⟩ := reg_wd r hr
  obtain ⟨d, e, f⟩ := reg_len r hr
  unfold sX12_sayRegister
  rcases hs with rfl | rfl | rfl
  · rw [if_pos rfl, sayWord_v (by decide) (by omega) hn (by rw [c]; omega), c]; rfl
  · rw [if_neg (by decide), if_pos rfl, sayWord_v (by decide) (by omega) hn (by rw [b]; omega), b]; rfl
  · rw [if_neg (by decide), if_neg (by decide), sayWord_v (by decide) (by omega) hn (by rw [a]; omega), a]; rfl
