/-! store and write -/
theorem tb_i8 (x : Int32) {i : Nat} (h : i < 8) : tb x.toInt8.toInt32 i = tb x i := by
  unfold tb
  rw [Int8.toBitVec_toInt32, Int32.toBitVec_toInt8, BitVec.getLsbD_signExtend, if_pos h, decide_eq_true (by omega : i < 32), Bool.true_and, BitVec.getLsbD_signExtend, if_pos (by omega), decide_eq_true h, Bool.true_and]
theorem i8_255 (x : Int32) : x.toInt8.toInt32 &&& 255 = x &&& 255 := i32_ext (fun i hi => by
  rw [tb_and, tb_and, tb_255 i hi]
  by_cases h : i < 8
  · rw [tb_i8 x h]
  · rw [decide_eq_false h, Bool.and_false, Bool.and_false])
theorem byte_k (v : Int32) {i : Nat} (hi : i < 4) : (xushr v ((8 : Int32) * nI i)) &&& 255 = (v >>> (((8 : Int32) * nI i) &&& 31)) &&& 255 := by
  have e : (8 : Int32) * nI i = nI (8 * i) := by
    have : i = 0 ∨ i = 1 ∨ i = 2 ∨ i = 3 := by omega
    rcases this with rfl | rfl | rfl | rfl <;> decide
  rw [e]
  refine i32_ext (fun t ht => ?_)
  rw [tb_and, tb_and, tb_255 t ht, tb_ushr v (8 * i) t (by omega), tb_shr v (8 * i) t (by omega)]
  by_cases h : t < 8
  · rw [if_pos (by omega), decide_eq_false (by omega : ¬ 32 ≤ t)]; rfl
  · rw [decide_eq_false h, Bool.and_false, Bool.and_false]
theorem mk_bytes {v v2 : Int32} {k : Nat} (hk : k = 1 ∨ k = 2 ∨ k = 4) (h : v &&& mkV (nI k) = v2 &&& mkV (nI k)) : ∀ i, i < k → (xushr v ((8 : Int32) * nI i)) &&& 255 = (v2 >>> (((8 : Int32) * nI i) &&& 31)) &&& 255 := by
  intro i hi
  rw [← byte_k v2 (by omega)]
  have e : (8 : Int32) * nI i = nI (8 * i) := by
    have : i = 0 ∨ i = 1 ∨ i = 2 ∨ i = 3 := by omega
    rcases this with rfl | rfl | rfl | rfl <;> decide
  have hw : wid (nI k) := by rcases hk with rfl | rfl | rfl; exact Or.inl rfl; exact Or.inr (Or.inl rfl); exact Or.inr (Or.inr rfl)
  have hb : bp (nI k) + 1 = 8 * k := by rcases hk with rfl | rfl | rfl <;> rfl
  rw [e]
  refine i32_ext (fun t ht => ?_)
  rw [tb_and, tb_and, tb_255 t ht, tb_ushr v (8 * i) t (by omega), tb_ushr v2 (8 * i) t (by omega)]
  by_cases q : t < 8
  · have l : tb (v &&& mkV (nI k)) (8 * i + t) = tb (v2 &&& mkV (nI k)) (8 * i + t) := by rw [h]
    rw [tb_and, tb_and, tb_mk hw (by omega), decide_eq_true (by omega : 8 * i + t ≤ bp (nI k)), Bool.and_true, Bool.and_true] at l
    rw [l]
  · rw [decide_eq_false q, Bool.and_false, Bool.and_false]
/-- only DATA differs -/
def frD (w w' m m' : xW) : Prop := (∀ c i, ¬ c = 17 → w'.1 c i = w.1 c i) ∧ w'.2 = w.2 ∧ (∀ c i, ¬ c = 2 → m'.1 c i = m.1 c i) ∧ m'.2 = m.2
theorem frD_r (w m : xW) : frD w w m m := ⟨fun _ _ _ => rfl, rfl, fun _ _ _ => rfl, rfl⟩
theorem frD_t {w w1 w2 m m1 m2 : xW} (h : frD w w1 m m1) (g : frD w1 w2 m1 m2) : frD w w2 m m2 :=
  ⟨fun c i q => (g.1 c i q).trans (h.1 c i q), g.2.1.trans h.2.1, fun c i q => (g.2.2.1 c i q).trans (h.2.2.1 c i q), g.2.2.2.trans h.2.2.2⟩
theorem frD_w (w m : xW) {x y : Nat} {u v : Int32} : frD w (xwi w 17 x u) m (xwi m 2 y v) := by
  refine ⟨fun c i q => ?_, rfl, fun c i q => ?_, rfl⟩
  · exact if_neg (fun (z : c = 17 ∧ i = x) => q z.1)
  · exact if_neg (fun (z : c = 2 ∧ i = y) => q z.1)
theorem store_l {a v v2 : Int32} {k : Nat} (hk : k ≤ 4) (hv : ∀ i, i < k → (xushr v ((8 : Int32) * nI i)) &&& 255 = (v2 >>> (((8 : Int32) * nI i) &&& 31)) &&& 255) (h1 : 65536 ≤ un a) (h2 : un a + k ≤ 131072) : ∀ (j i : Nat) (w m : xW), i + j = k → dataP w m → ∃ w' m' : xW, frD w w' m m' ∧ dataP w' m' ∧
    (∀ (fuel : Nat) (rg : Nat → Int32) (fl tr wh fo : Int32), j < fuel → sX8_store_l51 fuel a (nI k) v (nI i) (sW rg fl tr wh fo w) = some ((), sW rg fl tr wh fo w')) ∧
    (∀ (fuel : Nat) (rg : Nat → Int32) (c p z s o kp ef : Int32), j < fuel → sX12_write_l61 fuel v2 (nI k) (lN (un a)) (nI i) (tW rg c p z s o kp ef m) = some ((), tW rg c p z s o kp ef m')) := by
  intro j
  induction j with
  | zero =>
    intro i w m hij hd
    refine ⟨w, m, frD_r w m, hd, ?_, ?_⟩
    · intro fuel rg fl tr wh fo hf
      cases fuel with
      | zero => omega
      | succ f => rw [sX8_store_l51, if_neg (nI_nltI (by omega) (by omega) (by omega))]
    · intro fuel rg c p z s o kp ef hf
      cases fuel with
      | zero => omega
      | succ f => rw [sX12_write_l61, if_neg (nI_nltI (by omega) (by omega) (by omega))]
  | succ j ih =>
    intro i w m hij hd
    have hA := un_lt a
    have ha : nI (un a) = a := (un_of a).symm
    have hlt : nI i < nI k := (nI_ltI2 (by omega) (by omega)).mpr (by omega)
    have hx : xin (nI (un a + i - 65536)) 65536 := xin_n (by omega) (by decide)
    have hc : (nI (un a + i - 65536)).toNatClampNeg = un a + i - 65536 := nI_clamp (by omega)
    have eA : (a + nI i) &&& 65535 = nI (un a + i - 65536) := by
      rw [← ha, un_nI (un_lt a), nI_add]
      rw [pk_andN (n := un a + i) (by omega) 16 (by decide)]
      exact congrArg nI (by omega)
    have eB : ((lN (un a)).toInt32 - 65536) + nI i = nI (un a + i - 65536) := by
      rw [lN_i, show nI (un a) - 65536 = nI (un a - 65536) from pk_sub (a := un a) (b := 65536) h1, nI_add]
      exact congrArg nI (by omega)
    obtain ⟨w', m', hf, hd', hC, hM⟩ := ih (i + 1) (xwi w 17 (un a + i - 65536) (xushr v ((8 : Int32) * nI i)).toInt8.toInt32.toInt8.toInt32) (xwi m 2 (un a + i - 65536) ((v2 >>> (((8 : Int32) * nI i) &&& 31)) &&& 255)) (by omega) (by
      intro t ht
      show (if 17 = 17 ∧ t = un a + i - 65536 then _ else w.1 17 t) &&& 255 = (if 2 = 2 ∧ t = un a + i - 65536 then _ else m.1 2 t)
      by_cases q : t = un a + i - 65536
      · rw [if_pos ⟨rfl, q⟩, if_pos ⟨rfl, q⟩, i8_255, i8_255, hv i (by omega)]
      · rw [if_neg (fun z => q z.2), if_neg (fun z => q z.2)]
        exact hd t ht)
    refine ⟨w', m', frD_t (frD_w w m) hf, hd', ?_, ?_⟩
    · intro fuel rg fl tr wh fo hfu
      cases fuel with
      | zero => omega
      | succ f =>
        rw [sX8_store_l51, if_pos hlt]
        unfold sX8_setData
        rw [eA, if_pos hx, xbd_some, hc, nI_1, sW_wx (by omega)]
        exact hC f rg fl tr wh fo (by omega)
    · intro fuel rg c p z s o kp ef hfu
      cases fuel with
      | zero => omega
      | succ f =>
        rw [sX12_write_l61, if_pos hlt, eB, if_pos hx, hc, nI_1, tW_wx (by omega)]
        exact hM f rg c p z s o kp ef (by omega)
