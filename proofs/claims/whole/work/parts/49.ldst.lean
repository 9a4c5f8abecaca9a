/-! load and read -/
theorem b255 {x : Int32} (h : x &&& 255 = x) {i : Nat} (hi : i < 32) (h8 : 8 ≤ i) : tb x i = false := by
  rw [← h, tb_and, tb_255 i hi, decide_eq_false (by omega), Bool.and_false]
theorem mk_eq {n x : Int32} (hn : wid n) (h : ∀ i, i < 32 → bp n < i → tb x i = false) : x &&& mkV n = x := i32_ext (fun i hi => by
  rw [tb_and, tb_mk hn hi]
  by_cases q : i ≤ bp n
  · rw [decide_eq_true q, Bool.and_true]
  · rw [decide_eq_false q, Bool.and_false, h i hi (by omega)])
theorem rdv_mk {f : Nat → Int32} {s : Nat} {k : Nat} (hk : k = 1 ∨ k = 2 ∨ k = 4) (hf : ∀ i, i < k → f (s + i) &&& 255 = f (s + i)) : rdv f s k 0 &&& mkV (nI k) = rdv f s k 0 := by
  rcases hk with rfl | rfl | rfl
  · refine mk_eq (Or.inl rfl) (fun i hi hb => ?_)
    have hb : 8 ≤ i := hb
    show tb (((0 : Int32) <<< ((8 : Int32) &&& 31)) ||| f (s + 0)) i = false
    rw [tb_or, b255 (hf 0 (by decide)) hi hb, show (0 : Int32) <<< ((8 : Int32) &&& 31) = 0 from by decide, tb_0]; rfl
  · refine mk_eq (Or.inr (Or.inl rfl)) (fun i hi hb => ?_)
    have hb : 16 ≤ i := hb
    show tb (((((0 : Int32) <<< ((8 : Int32) &&& 31)) ||| f (s + 1)) <<< ((8 : Int32) &&& 31)) ||| f (s + 0)) i = false
    rw [tb_or, b255 (hf 0 (by decide)) hi (by omega), show (0 : Int32) <<< ((8 : Int32) &&& 31) = 0 from by decide, z_or2, show (8 : Int32) = nI 8 from rfl, tb_shl _ 8 i (by decide), b255 (hf 1 (by decide)) (by omega) (by omega), Bool.and_false]; rfl
  · exact and_m1 _
section LD
variable {w m : xW} {B : Nat → Int32} {N : Nat}
theorem bI_dec_t {P : Prop} [Decidable P] (h : P) : bI (decide P) = 1 := by rw [decide_eq_true h]; rfl
theorem bI_dec_f {P : Prop} [Decidable P] (h : ¬ P) : bI (decide P) = 0 := by rw [decide_eq_false h]; rfl
theorem load_pair (hw : imgC w B N) (hm : imgM m B N) (hd : dataP w m) (a : Int32) {k : Nat} (hk : k = 1 ∨ k = 2 ∨ k = 4) : ∃ v e : Int32, (e = 0 ∨ (e = 5 ∧ v = 0)) ∧ v &&& mkV (nI k) = v ∧
    (∀ (rg : Nat → Int32) (fl tr wh fo : Int32), sX8_load a (nI k) (sW rg fl tr wh fo w) = some (v, sW rg fl (fl5 e tr) wh fo w)) ∧
    (∀ (rg : Nat → Int32) (c p z s o kp ef : Int32), sX12_read a (nI k) (tW rg c p z s o kp ef m) = some (v, tW rg c p z s o (fl5 e kp) ef m)) := by
  have hA := un_lt a
  have hN := hw.2.1
  have hk4 : k ≤ 4 := by omega
  have hk1 : 1 ≤ k := by omega
  have ea : a = nI (un a) := un_of a
  have ecount : ∀ (rg : Nat → Int32) (fl tr wh fo : Int32), (4096 : Int32) + (sW rg fl tr wh fo w).1 1 1 = nI (4096 + N) := by
    intro rg fl tr wh fo
    have : (sW rg fl tr wh fo w).1 1 1 = w.1 1 1 := rfl
    rw [this, hw.1]
    exact nI_add 4096 N
  by_cases hD : 65536 ≤ un a ∧ un a + k ≤ 131072
  · refine ⟨rdv (fun i => m.1 2 i) (un a - 65536) k 0, 0, Or.inl rfl, rdv_mk hk (fun i hi => by rw [← hd _ (by omega), Int32.and_assoc]; rfl), ?_, ?_⟩
    · intro rg fl tr wh fo
      unfold sX8_load
      rw [nI_l (by omega), show (65536 : Int32) = nI 65536 from rfl, show (131072 : Int32) = nI 131072 from rfl, within_v (by omega) (by decide) (by decide), xbd_some, bI_dec_t hD, if_neg (by decide)]
      unfold sX8_load_j45 sX8_load_j63_1 sX8_load_j78_1
      rw [if_neg (by decide), if_neg (by decide)]
      have e1 : a - 65536 = nI (un a - 65536) := by
        rw [ea, un_nI (un_lt a)]
        exact pk_sub (a := un a) (b := 65536) hD.1
      show sX8_load_l92_1 70000 (a - 65536) 0 ((a - 65536 + nI k) - 1) _ = _
      rw [e1, nI_add, loadD_l k 70000 0 (by omega) (by omega), fl5_0]
      refine congrArg (fun v => some (v, sW rg fl tr wh fo w)) (rdv_c k 0 (fun i hi => ?_))
      exact hd _ (by omega)
    · intro rg c p z s o kp ef
      unfold sX12_read
      rw [un_l]
      dsimp only [xlet]
      rw [inData_m (by omega) (by omega), xbd_some, bI_dec_t hD, if_neg (by decide)]
      unfold sX12_read_j46
      have e2 : un a = 65536 + (un a - 65536) := by omega
      rw [e2, readD_l k 70000 0 (by omega) (by omega), fl5_0, show 65536 + (un a - 65536) - 65536 = un a - 65536 from by omega]
      rfl
  · by_cases hI : 4096 ≤ un a ∧ un a + k ≤ 4096 + N
    · refine ⟨rdv (fun i => m.1 1 i) (un a - 4096) k 0, 0, Or.inl rfl, rdv_mk hk (fun i hi => by rw [hm.2.2.1 _ (by omega), ← hw.2.2.1 _ (by omega), Int32.and_assoc]; rfl), ?_, ?_⟩
      · intro rg fl tr wh fo
        unfold sX8_load
        rw [nI_l (by omega), show (65536 : Int32) = nI 65536 from rfl, show (131072 : Int32) = nI 131072 from rfl, within_v (by omega) (by decide) (by decide), xbd_some, bI_dec_f hD, if_pos rfl, ecount, show (4096 : Int32) = nI 4096 from rfl, within_v (by omega) (by decide) (by omega), xbd_some, bI_dec_t hI, if_neg (by decide)]
        unfold sX8_load_j45 sX8_load_j63 sX8_load_j78
        rw [if_pos rfl, if_pos rfl]
        have e1 : a - 4096 = nI (un a - 4096) := by
          rw [ea, un_nI (un_lt a)]
          exact pk_sub (a := un a) (b := 4096) hI.1
        show sX8_load_l92 70000 (a - 4096) 0 ((a - 4096 + nI k) - 1) _ = _
        rw [e1, nI_add, loadI_l k 70000 0 (by omega) (by omega), fl5_0]
        refine congrArg (fun v => some (v, sW rg fl tr wh fo w)) (rdv_c k 0 (fun i hi => ?_))
        show w.1 10 _ &&& 255 = m.1 1 _
        rw [hw.2.2.1 _ (by omega), hm.2.2.1 _ (by omega)]
      · intro rg c p z s o kp ef
        unfold sX12_read
        rw [un_l]
        dsimp only [xlet]
        rw [inData_m (by omega) (by omega), xbd_some, bI_dec_f hD, if_pos rfl, inImage_m (N := N) (M := tW rg c p z s o kp ef m) (by omega) (by omega) hm.1 hN, xbd_some, bI_dec_t hI, if_neg (by decide)]
        unfold sX12_read_j46
        have e2 : un a = 4096 + (un a - 4096) := by omega
        rw [e2, readI_l k 70000 0 (by omega) (by omega), fl5_0, show 4096 + (un a - 4096) - 4096 = un a - 4096 from by omega]
        rfl
    · refine ⟨0, 5, Or.inr ⟨rfl, rfl⟩, by rcases hk with rfl | rfl | rfl <;> decide, ?_, ?_⟩
      · intro rg fl tr wh fo
        unfold sX8_load
        rw [nI_l (by omega), show (65536 : Int32) = nI 65536 from rfl, show (131072 : Int32) = nI 131072 from rfl, within_v (by omega) (by decide) (by decide), xbd_some, bI_dec_f hD, if_pos rfl, ecount, show (4096 : Int32) = nI 4096 from rfl, within_v (by omega) (by decide) (by omega), xbd_some, bI_dec_f hI, if_pos rfl]
        unfold sX8_fail fl5
        rw [sW_tr]
        by_cases ht : tr = 0
        · rw [if_pos ht, if_pos ht, sW_wtr]; rfl
        · rw [if_neg ht, if_neg ht]; rfl
      · intro rg c p z s o kp ef
        unfold sX12_read fl5
        rw [un_l]
        dsimp only [xlet]
        rw [inData_m (by omega) (by omega), xbd_some, bI_dec_f hD, if_pos rfl, inImage_m (N := N) (M := tW rg c p z s o kp ef m) (by omega) (by omega) hm.1 hN, xbd_some, bI_dec_f hI, if_pos rfl, tW_kp]
        by_cases ht : kp = 0
        · rw [if_pos ht, if_pos ht, tW_wkp]
        · rw [if_neg ht, if_neg ht, tW_wkp]
end LD
