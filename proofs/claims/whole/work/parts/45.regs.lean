/-! parts of registers -/
def prt (rg : Nat → Int32) (k : Nat) (n : Int32) : Int32 := if n = 4 then rg k else if n = 2 then rg k &&& 65535 else if k < 4 then rg k &&& 255 else (xushr (rg (k - 4)) 8) &&& 255
def spr (rg : Nat → Int32) (k : Nat) (n v : Int32) : Nat → Int32 := if n = 4 then ru rg k v else if n = 2 then ru rg k ((rg k &&& (-65536)) ||| (v &&& 65535)) else if k < 4 then ru rg k ((rg k &&& (-256)) ||| (v &&& 255)) else ru rg (k - 4) ((rg (k - 4) &&& (-65281)) ||| ((v &&& 255) <<< ((8 : Int32) &&& 31)))
theorem xushr_0 (x : Int32) : xushr x 0 = x := i32_ext (fun i _ => by rw [show (0 : Int32) = nI 0 from rfl, tb_ushr x 0 i (by decide), Nat.zero_add])
theorem shr8_255 (x : Int32) : (x >>> ((8 : Int32) &&& 31)) &&& 255 = (xushr x 8) &&& 255 := i32_ext (fun i hi => by
  rw [tb_and, tb_and, show (8 : Int32) = nI 8 from rfl, tb_ushr x 8 i (by decide), tb_shr x 8 i (by decide), tb_255 i hi]
  by_cases h : i < 8
  · rw [if_pos (by omega), decide_eq_false (by omega : ¬ 32 ≤ i)]; rfl
  · rw [decide_eq_false h, Bool.and_false, Bool.and_false])
theorem tb_65280 : ∀ i, i < 32 → tb 65280 i = (decide (8 ≤ i) && decide (i < 16)) := by decide +kernel
theorem shl8_m (x : Int32) : (x <<< ((8 : Int32) &&& 31)) &&& 65280 = (x &&& 255) <<< ((8 : Int32) &&& 31) := i32_ext (fun i hi => by
  rw [tb_and, show (8 : Int32) = nI 8 from rfl, tb_shl x 8 i (by decide), tb_shl (x &&& 255) 8 i (by decide), tb_and, tb_65280 i hi]
  by_cases h : i < 8
  · rw [decide_eq_true h]; simp
  · rw [tb_255 (i - 8) (by omega), decide_eq_false h, decide_eq_true hi, decide_eq_true (by omega : 8 ≤ i)]
    by_cases q : i < 16
    · rw [decide_eq_true q, decide_eq_true (by omega : i - 8 < 8)]; simp
    · rw [decide_eq_false q, decide_eq_false (by omega : ¬ i - 8 < 8)]; simp)
theorem and_m1 (x : Int32) : x &&& (-1) = x := i32_ext (fun i hi => by rw [tb_and, tb_m1 i hi, Bool.and_true])
theorem and_z (x : Int32) : x &&& 0 = 0 := i32_ext (fun i _ => by rw [tb_and, tb_0, Bool.and_false])
theorem z_or2 (x : Int32) : (0 : Int32) ||| x = x := i32_ext (fun i _ => by rw [tb_or, tb_0, Bool.false_or])
theorem k8P : ∀ k, k < 8 → (nI k &&& 3) = nI (k % 4) ∧ (nI k &&& 7) = nI k ∧ (k < 4 → nI k < 4) ∧ (4 ≤ k → ¬ nI k < 4 ∧ nI k - 4 = nI (k - 4)) := by decide +kernel
theorem xin_n {k n : Nat} (h : k < n) (h2 : n ≤ 65536) : xin (nI k) n := ⟨nI_pos (by omega), by rw [nI_clamp (by omega)]; exact h⟩
section PV
variable {rg : Nat → Int32} {fl tr wh fo c p z s o kp ef : Int32} {w m : xW}
theorem part_c {k : Nat} {n : Int32} (hk : k < 8) (h : wid n) : sX7_part (nI k) n (sW rg fl tr wh fo w) = some (prt rg k n, sW rg fl tr wh fo w) := by
  obtain ⟨h1, h2, h3, h4⟩ := k8P k hk
  unfold sX7_part prt
  rcases h with rfl | rfl | rfl
  · simp (decide := true) only [if_true, if_false]
    rw [h1, if_pos (xin_n (by omega) (by decide)), nI_clamp (by omega), sW_r]
    by_cases q : k < 4
    · rw [if_pos (h3 q), if_pos q, xushr_0, Nat.mod_eq_of_lt q]
    · rw [if_neg (h4 (by omega)).1, if_neg q, show k % 4 = k - 4 from by omega]
  · simp (decide := true) only [if_true, if_false]
    rw [h2, if_pos (xin_n hk (by decide)), nI_clamp (by omega), sW_r]
  · simp (decide := true) only [if_true, if_false]
    rw [h2, if_pos (xin_n hk (by decide)), nI_clamp (by omega), sW_r]
theorem part_m {k : Nat} {n : Int32} (hk : k < 8) (h : wid n) : sX12_part (nI k) n (tW rg c p z s o kp ef m) = some (prt rg k n, tW rg c p z s o kp ef m) := by
  obtain ⟨h1, h2, h3, h4⟩ := k8P k hk
  unfold sX12_part prt
  rcases h with rfl | rfl | rfl
  · simp (decide := true) only [if_true, if_false]
    by_cases q : k < 4
    · rw [if_pos (h3 q), if_pos q, if_pos (xin_n hk (by decide)), nI_clamp (by omega), tW_r]
    · rw [if_neg (h4 (by omega)).1, if_neg q, (h4 (by omega)).2, if_pos (xin_n (by omega) (by decide)), nI_clamp (by omega), tW_r, shr8_255]
  · simp (decide := true) only [if_true, if_false]
    rw [if_pos (xin_n hk (by decide)), nI_clamp (by omega), tW_r]
  · simp (decide := true) only [if_true, if_false]
    rw [if_pos (xin_n hk (by decide)), nI_clamp (by omega), tW_r]
theorem setPart_c {k : Nat} {n v : Int32} (hk : k < 8) (h : wid n) : sX7_setPart (nI k) n v (sW rg fl tr wh fo w) = some ((), sW (spr rg k n v) fl tr wh fo w) := by
  obtain ⟨h1, h2, h3, h4⟩ := k8P k hk
  have key : ∀ (j : Nat) (a5 b0 : Int32), j < 8 → sX7_setPart_j60 v (nI j) a5 b0 (sW rg fl tr wh fo w) = some ((), sW (ru rg j ((rg j &&& (b0 ^^^ (-1))) ||| ((v <<< (a5 &&& 31)) &&& b0))) fl tr wh fo w) := by
    intro j a5 b0 hj
    unfold sX7_setPart_j60
    rw [if_pos (xin_n hj (by decide)), if_pos (xin_n hj (by decide)), nI_clamp (by omega), sW_r, sW_wr]
  have sh0 : v <<< ((0 : Int32) &&& 31) = v := sb_shl0 v
  unfold sX7_setPart sX7_setPart_j15 sX7_setPart_j32 sX7_setPart_j33 spr
  rcases h with rfl | rfl | rfl
  · simp (decide := true) only [if_true, if_false]
    rw [h1]
    by_cases q : k < 4
    · rw [if_pos (h3 q), if_pos q, key _ _ _ (by omega), Nat.mod_eq_of_lt q, show (255 : Int32) <<< ((0 : Int32) &&& 31) = 255 from by decide, sh0]
      rfl
    · rw [if_neg (h4 (by omega)).1, if_neg q, key _ _ _ (by omega), show k % 4 = k - 4 from by omega, show (255 : Int32) <<< ((8 : Int32) &&& 31) = 65280 from by decide, shl8_m]
      rfl
  · simp (decide := true) only [if_true, if_false]
    rw [h2, key _ _ _ hk, sh0]
    rfl
  · simp (decide := true) only [if_true, if_false]
    rw [h2, key _ _ _ hk, sh0, show ((-1 : Int32) ^^^ (-1)) = 0 from by decide, and_z, z_or2, and_m1]
theorem setReg_m {k : Nat} {n v : Int32} (hk : k < 8) (h : wid n) : sX12_setRegister (nI k) n v (tW rg c p z s o kp ef m) = some ((), tW (spr rg k n v) c p z s o kp ef m) := by
  obtain ⟨h1, h2, h3, h4⟩ := k8P k hk
  unfold sX12_setRegister spr
  rcases h with rfl | rfl | rfl
  · simp (decide := true) only [if_true, if_false]
    by_cases q : k < 4
    · rw [if_pos (h3 q), if_pos q, if_pos (xin_n hk (by decide)), if_pos (xin_n hk (by decide)), nI_clamp (by omega), tW_r, tW_wr]
    · rw [if_neg (h4 (by omega)).1, if_neg q, (h4 (by omega)).2, if_pos (xin_n (by omega) (by decide)), if_pos (xin_n (by omega) (by decide)), nI_clamp (by omega), tW_r, tW_wr]
  · simp (decide := true) only [if_true, if_false]
    rw [if_pos (xin_n hk (by decide)), if_pos (xin_n hk (by decide)), nI_clamp (by omega), tW_r, tW_wr]
  · simp (decide := true) only [if_true, if_false]
    rw [if_pos (xin_n hk (by decide)), nI_clamp (by omega), tW_wr]
end PV
