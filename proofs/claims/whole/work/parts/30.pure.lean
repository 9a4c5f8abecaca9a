/-! PURE: the decoder's worlds in a normal form -/
theorem getD_set_same {l : List Int32} {j : Nat} {v : Int32} (h : j < l.length) : (l.set j v).getD j 0 = v := by
  rw [List.getD_eq_getElem?_getD, List.getElem?_set_self h]; rfl
theorem getD_set_other {l : List Int32} {j i : Nat} {v : Int32} (h : ¬ i = j) : (l.set j v).getD i 0 = l.getD i 0 := by
  rw [List.getD_eq_getElem?_getD, List.getD_eq_getElem?_getD, List.getElem?_set_ne (Ne.symm h)]
/-- cell c's places s .. s + n - 1 hold the list l -/
def oW (c s n : Nat) (l : List Int32) (w : xW) : xW := (fun k i => if k = c ∧ s ≤ i ∧ i < s + n then l.getD (i - s) 0 else w.1 k i, w.2)
theorem oW_at {c s n j : Nat} {l : List Int32} {w : xW} (h1 : s ≤ j) (h2 : j < s + n) : (oW c s n l w).1 c j = l.getD (j - s) 0 := if_pos ⟨rfl, h1, h2⟩
theorem oW_off {c s n k j : Nat} {l : List Int32} {w : xW} (h : ¬ (k = c ∧ s ≤ j ∧ j < s + n)) : (oW c s n l w).1 k j = w.1 k j := if_neg h
theorem oW_2 {c s n : Nat} {l : List Int32} {w : xW} : (oW c s n l w).2 = w.2 := rfl
theorem xwi_o1 {c s n j : Nat} {l : List Int32} {w : xW} {v : Int32} (hl : l.length = n) (h1 : s ≤ j) (h2 : j < s + n) : xwi (oW c s n l w) c j v = oW c s n (l.set (j - s) v) w := by
  refine Prod.ext ?_ rfl
  funext k i
  show (if k = c ∧ i = j then v else (if k = c ∧ s ≤ i ∧ i < s + n then l.getD (i - s) 0 else w.1 k i)) = (if k = c ∧ s ≤ i ∧ i < s + n then (l.set (j - s) v).getD (i - s) 0 else w.1 k i)
  by_cases hk : k = c ∧ s ≤ i ∧ i < s + n
  · rw [if_pos hk, if_pos hk]
    by_cases hi : i = j
    · subst hi
      rw [if_pos ⟨hk.1, rfl⟩, getD_set_same (by omega)]
    · rw [if_neg (fun q => hi q.2), getD_set_other (by omega)]
  · rw [if_neg hk, if_neg hk, if_neg (fun q => hk ⟨q.1, by omega, by omega⟩)]
theorem xwi_o2 {c s n k j : Nat} {l : List Int32} {w : xW} {v : Int32} (h : ¬ (k = c ∧ s ≤ j ∧ j < s + n)) : xwi (oW c s n l w) k j v = oW c s n l (xwi w k j v) := by
  refine Prod.ext ?_ rfl
  funext a i
  show (if a = k ∧ i = j then v else (if a = c ∧ s ≤ i ∧ i < s + n then l.getD (i - s) 0 else w.1 a i)) = (if a = c ∧ s ≤ i ∧ i < s + n then l.getD (i - s) 0 else (if a = k ∧ i = j then v else w.1 a i))
  by_cases h1 : a = k ∧ i = j
  · rw [if_pos h1, if_pos h1, if_neg (fun q => h ⟨h1.1 ▸ q.1, h1.2 ▸ q.2.1, h1.2 ▸ q.2.2⟩)]
  · rw [if_neg h1, if_neg h1]
/-- the class: instruction and decoder -/
abbrev dW (l2 l3 : List Int32) (w : xW) : xW := oW 2 0 15 l2 (oW 3 2 6 l3 w)
theorem xwi_d2 {l2 l3 : List Int32} {w : xW} {j : Nat} {v : Int32} (h : l2.length = 15) (hj : j < 15) : xwi (dW l2 l3 w) 2 j v = dW (l2.set j v) l3 w := xwi_o1 h (Nat.zero_le _) (by omega)
theorem xwi_d3 {l2 l3 : List Int32} {w : xW} {j : Nat} {v : Int32} (h : l3.length = 6) (h1 : 2 ≤ j) (hj : j < 8) : xwi (dW l2 l3 w) 3 j v = dW l2 (l3.set (j - 2) v) w := by
  show xwi (oW 2 0 15 l2 (oW 3 2 6 l3 w)) 3 j v = _
  rw [xwi_o2 (by omega), xwi_o1 h h1 (by omega)]
theorem dW_2 {l2 l3 : List Int32} {w : xW} {j : Nat} (hj : j < 15) : (dW l2 l3 w).1 2 j = l2.getD j 0 := oW_at (Nat.zero_le _) (by omega)
theorem dW_3 {l2 l3 : List Int32} {w : xW} {j : Nat} (h1 : 2 ≤ j) (hj : j < 8) : (dW l2 l3 w).1 3 j = l3.getD (j - 2) 0 := by
  show (oW 2 0 15 l2 (oW 3 2 6 l3 w)).1 3 j = _
  rw [oW_off (by omega), oW_at h1 (by omega)]
theorem dW_o {l2 l3 : List Int32} {w : xW} {k j : Nat} (h2 : ¬ k = 2) (h3 : ¬ k = 3) : (dW l2 l3 w).1 k j = w.1 k j := by
  show (oW 2 0 15 l2 (oW 3 2 6 l3 w)).1 k j = _
  rw [oW_off (fun q => h2 q.1), oW_off (fun q => h3 q.1)]
/-- the reference: op .. isThere -/
abbrev mW (l : List Int32) (m : xW) : xW := oW 0 17 16 l m
theorem xbd_some {α β : Type} (x : α) (w : xW) (F : α → xW → Option β) : xbd (some (x, w)) F = F x w := rfl
/-! the bytes of an image: B j, 0 behind the end n -/
def imgC (w : xW) (B : Nat → Int32) (n : Nat) : Prop := w.1 1 1 = nI n ∧ n ≤ 2048 ∧ (∀ i, i < n → w.1 10 i &&& 255 = B i) ∧ ∀ i, n ≤ i → B i = 0
def imgM (m : xW) (B : Nat → Int32) (n : Nat) : Prop := m.1 0 2 = nI n ∧ n ≤ 2048 ∧ (∀ i, i < n → m.1 1 i = B i) ∧ ∀ i, n ≤ i → B i = 0
def nxn (n q : Nat) : Int32 := nI (min q n)
def ctn (n q : Nat) : Int32 := if n < q then 1 else 0
def thr (n q : Nat) (d : Int32) : Int32 := if n < q then 0 else d
theorem imgC.byte {w : xW} {B : Nat → Int32} {n : Nat} (h : imgC w B n) (q : Nat) : ∃ j : Nat, j < 256 ∧ B q = nI j := by
  by_cases hq : q < n
  · obtain ⟨j, h1, h2⟩ := pk_andE (w.1 10 q) (m := 255) 8 (by decide)
    exact ⟨j, h1, by rw [← h.2.2.1 q hq]; exact h2⟩
  · exact ⟨0, by decide, by rw [h.2.2.2 q (by omega)]; rfl⟩
theorem nI_ltI2 {a b : Nat} (ha : a < 2 ^ 31) (hb : b < 2 ^ 31) : nI a < nI b ↔ a < b := nI_ltI ha hb
theorem nextByte_d {w : xW} {B : Nat → Int32} {n : Nat} (h : imgC w B n) {l2 : List Int32} {f hE dg nb : Int32} (q : Nat) : sX1_nextByte (dW l2 [nxn n q, ctn n q, f, hE, dg, nb] w) = some (B q, dW l2 [nxn n (q + 1), ctn n (q + 1), f, hE, dg, nb] w) := by
  obtain ⟨h1, h2, h3, h4⟩ := h
  have e2 : (dW l2 [nxn n q, ctn n q, f, hE, dg, nb] w).1 3 2 = nxn n q := by rw [dW_3 (by decide) (by decide)]; rfl
  have e1 : (dW l2 [nxn n q, ctn n q, f, hE, dg, nb] w).1 1 1 = nI n := by rw [dW_o (by decide) (by decide)]; exact h1
  have e10 : ∀ i, (dW l2 [nxn n q, ctn n q, f, hE, dg, nb] w).1 10 i = w.1 10 i := fun i => dW_o (by decide) (by decide)
  have hmin : min q n < 2 ^ 31 := by omega
  unfold sX1_nextByte
  have hnn : ¬ nxn n q < 0 := nI_pos hmin
  rw [e2, e1, if_neg hnn]
  by_cases hq : q < n
  · have em : min q n = q := by omega
    have e3 : nxn n q = nI q := by unfold nxn; rw [em]
    rw [e3, if_pos ((nI_ltI2 (by omega) (by omega)).mpr hq), if_pos (show nI q < (2048 : Int32) from (nI_ltI2 (a := q) (b := 2048) (by omega) (by decide)).mpr (by omega)), if_pos ⟨nI_pos (by omega), by rw [nI_clamp (by omega)]; omega⟩, nI_clamp (by omega), dW_o (k := 10) (by decide) (by decide)]
    show some (w.1 10 q &&& 255, _) = _
    rw [h3 q hq, xwi_d3 rfl (by decide) (by decide)]
    have e4 : nI q + 1 = nxn n (q + 1) := by unfold nxn; rw [nI_1]; congr 1; omega
    have e5 : ctn n (q + 1) = ctn n q := by unfold ctn; rw [if_neg (by omega), if_neg (by omega)]
    rw [e4, e5]; rfl
  · have em : min q n = n := by omega
    have e3 : nxn n q = nI n := by unfold nxn; rw [em]
    have e6 : nxn n (q + 1) = nI n := by unfold nxn; congr 1; omega
    rw [e3, if_neg (by rw [nI_ltI2 (by omega) (by omega)]; omega), h4 q (by omega)]
    unfold sX1_nextByte_j31
    rw [xwi_d3 rfl (by decide) (by decide), e6]
    have e5 : ctn n (q + 1) = 1 := by unfold ctn; rw [if_pos (by omega)]
    rw [e5]; rfl
theorem mW_at {l : List Int32} {m : xW} {j : Nat} (h1 : 17 ≤ j) (h2 : j < 33) : (mW l m).1 0 j = l.getD (j - 17) 0 := oW_at h1 (by omega)
theorem mW_o {l : List Int32} {m : xW} {k j : Nat} (h : ¬ (k = 0 ∧ 17 ≤ j ∧ j < 33)) : (mW l m).1 k j = m.1 k j := oW_off (fun q => h ⟨q.1, q.2.1, by omega⟩)
theorem xwi_m {l : List Int32} {m : xW} {j : Nat} {v : Int32} (h : l.length = 16) (h1 : 17 ≤ j) (h2 : j < 33) : xwi (mW l m) 0 j v = mW (l.set (j - 17) v) m := xwi_o1 h h1 (by omega)
theorem next_m {m : xW} {B : Nat → Int32} {n : Nat} (h : imgM m B n) {a0 a1 a2 a3 a4 a5 a6 a7 a8 a9 a10 a11 a12 a13 d : Int32} (q : Nat) : sX12_next (mW [a0, a1, a2, a3, a4, a5, a6, a7, a8, a9, a10, a11, a12, a13, nxn n q, thr n q d] m) = some (B q, mW [a0, a1, a2, a3, a4, a5, a6, a7, a8, a9, a10, a11, a12, a13, nxn n (q + 1), thr n (q + 1) d] m) := by
  obtain ⟨h1, h2, h3, h4⟩ := h
  have hmin : min q n < 2 ^ 31 := by omega
  unfold sX12_next
  rw [mW_at (by decide) (by decide), mW_o (by decide), mW_o (by omega)]
  show (if nxn n q < m.1 0 2 then (if xin (nxn n q + 1 - 1) 2048 then some (m.1 1 (nxn n q + 1 - 1).toNatClampNeg, _) else none) else _) = _
  rw [h1]
  by_cases hq : q < n
  · have em : min q n = q := by omega
    have e3 : nxn n q = nI q := by unfold nxn; rw [em]
    have e7 : nI q + 1 - 1 = nI q := by rw [nI_1, nI_pred]
    have e8 : thr n (q + 1) d = thr n q d := by unfold thr; rw [if_neg (by omega), if_neg (by omega)]
    have e4 : nI q + 1 = nxn n (q + 1) := by unfold nxn; rw [nI_1]; congr 1; omega
    rw [e3, if_pos ((nI_ltI2 (by omega) (by omega)).mpr hq), e7, if_pos ⟨nI_pos (by omega), by rw [nI_clamp (by omega)]; omega⟩, nI_clamp (by omega), h3 q hq, xwi_m rfl (by decide) (by decide)]
    show some (B q, mW [a0, a1, a2, a3, a4, a5, a6, a7, a8, a9, a10, a11, a12, a13, nI q + 1, thr n q d] m) = _
    rw [e4, e8]
  · have em : min q n = n := by omega
    have e3 : nxn n q = nI n := by unfold nxn; rw [em]
    have e6 : nxn n (q + 1) = nI n := by unfold nxn; congr 1; omega
    have e8 : thr n (q + 1) d = 0 := by unfold thr; rw [if_pos (by omega)]
    rw [e3, if_neg (by rw [nI_ltI2 (by omega) (by omega)]; omega), h4 q (by omega), xwi_m rfl (by decide) (by decide), e6, e8]; rfl
/-! numbers -/
def s8 (B : Nat → Int32) (q : Nat) : Int32 := (B q).toInt8.toInt32
def le4 (B : Nat → Int32) (q : Nat) : Int32 := ((B q ||| (B (q + 1) <<< ((8 : Int32) &&& 31))) ||| (B (q + 2) <<< ((16 : Int32) &&& 31))) ||| (B (q + 3) <<< ((24 : Int32) &&& 31))
theorem z_or (x : Int32) : (0 : Int32) ||| (x <<< (((8 : Int32) * 0) &&& 31)) = x := by
  rw [show (((8 : Int32) * 0) &&& 31) = ((0 : Int32) &&& 31) from by decide, sb_shl0]
  exact Int32.zero_or
theorem nextNumber1_d {w : xW} {B : Nat → Int32} {n : Nat} (h : imgC w B n) {l2 : List Int32} {f hE dg nb : Int32} (q : Nat) : sX1_nextNumber 1 (dW l2 [nxn n q, ctn n q, f, hE, dg, nb] w) = some (s8 B q, dW l2 [nxn n (q + 1), ctn n (q + 1), f, hE, dg, nb] w) := by
  have key : ∀ k, sX1_nextNumber_l4 (k + 2) 1 0 0 (dW l2 [nxn n q, ctn n q, f, hE, dg, nb] w) = some (s8 B q, dW l2 [nxn n (q + 1), ctn n (q + 1), f, hE, dg, nb] w) := by
    intro k
    rw [sX1_nextNumber_l4, if_pos (by decide), nextByte_d h, xbd_some]
    show sX1_nextNumber_l4 (k + 1) 1 (0 ||| (B q <<< (((8 : Int32) * 0) &&& 31))) (0 + 1) _ = _
    rw [z_or, sX1_nextNumber_l4, if_neg (by decide), if_pos rfl]
    rfl
  exact key 69998
theorem nextNumber4_d {w : xW} {B : Nat → Int32} {n : Nat} (h : imgC w B n) {l2 : List Int32} {f hE dg nb : Int32} (q : Nat) : sX1_nextNumber 4 (dW l2 [nxn n q, ctn n q, f, hE, dg, nb] w) = some (le4 B q, dW l2 [nxn n (q + 4), ctn n (q + 4), f, hE, dg, nb] w) := by
  have key : ∀ k, sX1_nextNumber_l4 (k + 5) 4 0 0 (dW l2 [nxn n q, ctn n q, f, hE, dg, nb] w) = some (le4 B q, dW l2 [nxn n (q + 4), ctn n (q + 4), f, hE, dg, nb] w) := by
    intro k
    rw [sX1_nextNumber_l4, if_pos (by decide), nextByte_d h, xbd_some]
    show sX1_nextNumber_l4 (k + 4) 4 (0 ||| (B q <<< (((8 : Int32) * 0) &&& 31))) (0 + 1) _ = _
    rw [z_or, sX1_nextNumber_l4, if_pos (by decide), nextByte_d h, xbd_some]
    show sX1_nextNumber_l4 (k + 3) 4 (B q ||| (B (q + 1) <<< (((8 : Int32) * (0 + 1)) &&& 31))) (0 + 1 + 1) _ = _
    rw [sX1_nextNumber_l4, if_pos (by decide), nextByte_d h, xbd_some]
    show sX1_nextNumber_l4 (k + 2) 4 (_ ||| (B (q + 2) <<< (((8 : Int32) * (0 + 1 + 1)) &&& 31))) (0 + 1 + 1 + 1) _ = _
    rw [sX1_nextNumber_l4, if_pos (by decide), nextByte_d h, xbd_some]
    show sX1_nextNumber_l4 (k + 1) 4 (_ ||| (B (q + 3) <<< (((8 : Int32) * (0 + 1 + 1 + 1)) &&& 31))) (0 + 1 + 1 + 1 + 1) _ = _
    rw [sX1_nextNumber_l4, if_neg (by decide), if_neg (by decide)]
    rfl
  exact key 69995
section MN
variable {m : xW} {B : Nat → Int32} {n : Nat} {a0 a1 a2 a3 a4 a5 a6 a7 a8 a9 a10 a11 a12 a13 d : Int32}
theorem signedByte_m (h : imgM m B n) (q : Nat) : sX12_signedByte (mW [a0, a1, a2, a3, a4, a5, a6, a7, a8, a9, a10, a11, a12, a13, nxn n q, thr n q d] m) = some (s8 B q, mW [a0, a1, a2, a3, a4, a5, a6, a7, a8, a9, a10, a11, a12, a13, nxn n (q + 1), thr n (q + 1) d] m) := by
  unfold sX12_signedByte
  rw [next_m h]; rfl
theorem nextLong_m (h : imgM m B n) (q : Nat) : sX12_nextLong (mW [a0, a1, a2, a3, a4, a5, a6, a7, a8, a9, a10, a11, a12, a13, nxn n q, thr n q d] m) = some (le4 B q, mW [a0, a1, a2, a3, a4, a5, a6, a7, a8, a9, a10, a11, a12, a13, nxn n (q + 4), thr n (q + 4) d] m) := by
  unfold sX12_nextLong
  simp only [xlet, next_m h, xbd_some]
  rfl
theorem number1_m (h : imgM m B n) (q : Nat) : sX12_number 1 (mW [a0, a1, a2, a3, a4, a5, a6, a7, a8, a9, a10, a11, a12, a13, nxn n q, thr n q d] m) = some ((), mW [a0, a1, a2, a3, a4, a5, a6, a7, a8, a9, a10, a11, s8 B q, a13, nxn n (q + 1), thr n (q + 1) d] m) := by
  unfold sX12_number
  rw [if_pos rfl, signedByte_m h, xbd_some, xwi_m rfl (by decide) (by decide)]; rfl
theorem number4_m (h : imgM m B n) (q : Nat) : sX12_number 4 (mW [a0, a1, a2, a3, a4, a5, a6, a7, a8, a9, a10, a11, a12, a13, nxn n q, thr n q d] m) = some ((), mW [a0, a1, a2, a3, a4, a5, a6, a7, a8, a9, a10, a11, le4 B q, a13, nxn n (q + 4), thr n (q + 4) d] m) := by
  unfold sX12_number
  rw [if_neg (by decide), nextLong_m h, xbd_some, xwi_m rfl (by decide) (by decide)]; rfl
end MN
