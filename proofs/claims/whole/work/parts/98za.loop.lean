/-! the law's loop (printed by wip/whole/gen/law2.py) -/
theorem and31 (x : Int32) : ∃ j : Nat, j < 32 ∧ x &&& 31 = nI j := by
  refine ⟨x.toBitVec.toNat % 32, Nat.mod_lt _ (by decide), ?_⟩
  apply Int32.toBitVec_inj.mp
  apply BitVec.eq_of_toNat_eq
  rw [Int32.toBitVec_and, BitVec.toNat_and]
  show x.toBitVec.toNat &&& 31 = (x.toBitVec.toNat % 32) % 2 ^ 32
  rw [show (31 : Nat) = 2 ^ 5 - 1 from rfl, Nat.and_two_pow_sub_one_eq_mod]
  omega
theorem law_gt {L i : Nat} (h : L < i + 4) (hL : L ≤ 256) (hi : i ≤ 260) : Int32.ofNat L - (4 : Int32) < nI i := by
  rw [Int32.lt_iff_toInt_lt, nI_toInt (by omega), Int32.toInt_sub]
  have e1 : (Int32.ofNat L).toInt = (L : Int) := nI_toInt (n := L) (by omega)
  rw [e1, show (4 : Int32).toInt = 4 from by decide, Int.bmod_eq_of_le (by omega) (by omega)]
  omega
section LAWD
variable {p : Program} {l : Launch} {e : Env} {s : State} {m : MethodId} {args : Array Value} {below : List Frame} {meth : Method} {c : Code} {Q : State → Prop}
variable {Gc Gm : xG} {A : Nat → Prop} {o b L : Nat} {xs : Nat → Int32}
set_option maxHeartbeats 2000000 in
theorem law_loop (X : LX p l s m args c cL_law Gc Gm A) (hXs : va_X b L xs s s.heap) (hbl : b < s.heap.size) (hbA : ¬ A b) (hL : L ≤ 256)
    (hend : ∀ (H : Heap) (locs : List Loc) (ls : Array Slot) (cl sl : Nat), va_S A s.heap H locs → cl ≤ 600128 → sl ≤ 7301098 → W p l e room_1 s m args below meth c H locs cl sl Q (F0 m 1062 ls [])) :
    ∀ (n i : Nat) (B : Nat → Int32) (N : Nat) (wc wm : xW) (ex : va_W) (f : Nat → Int64) (H : Heap) (locs : List Loc) (ls : Array Slot) (cl sl : Nat), L < i + 4 * n + 4 → i ≤ 260 → lwP Gc Gm o f wc wm ex A s.heap H locs → KR B N wc wm → lv_has ls 7 [(0, .ref b), (1, .ref (Gc.2.2 0)), (2, .ref (Gm.2.2 0)), (3, .ref o), (4, .int (nI i))] → cl + 26 * n ≤ 600128 → sl + 7884 * n ≤ 7301098 → W p l e room_1 s m args below meth c H locs cl sl Q (F0 m 23 ls []) := by
  intro n
  induction n with
  | zero =>
    intro i B N wc wm ex f H locs ls cl sl hn hi P hKR hl hcl hsl
    refine lv_iload X.1.1 X.1.2.1 dL_law_23 (lv_at hl 4 rfl) ?_
    refine lv_aload_n X.1.1 X.1.2.1 dL_law_25 rfl (lv_at hl 0 rfl) ?_
    refine va_slen X.1.1 X.1.2.1 hXs hbl hbA P.2.2.2.2.1 dL_law_26 ?_
    refine lv_iconst (v := 4) X.1.1 X.1.2.1 dL_law_27 (by decide) ?_
    refine lv_isub X.1.1 X.1.2.1 dL_law_28 ?_
    refine lv_icmp_gt (tgt := 1062) X.1.1 X.1.2.1 dL_law_29 (by decide) (fun _ => hend H locs ls cl sl P.2.2.2.2.1 (by omega) (by omega)) (fun q => ?_)
    exact absurd (law_gt (L := L) (i := i) (by omega) (by omega) (by omega)) q
  | succ n ih =>
    intro i B N wc wm ex f H locs ls cl sl hn hi P hKR hl hcl hsl
    refine lv_iload X.1.1 X.1.2.1 dL_law_23 (lv_at hl 4 rfl) ?_
    refine lv_aload_n X.1.1 X.1.2.1 dL_law_25 rfl (lv_at hl 0 rfl) ?_
    refine va_slen X.1.1 X.1.2.1 hXs hbl hbA P.2.2.2.2.1 dL_law_26 ?_
    refine lv_iconst (v := 4) X.1.1 X.1.2.1 dL_law_27 (by decide) ?_
    refine lv_isub X.1.1 X.1.2.1 dL_law_28 ?_
    refine lv_icmp_gt (tgt := 1062) X.1.1 X.1.2.1 dL_law_29 (by decide) (fun _ => hend H locs ls cl sl P.2.2.2.2.1 (by omega) (by omega)) (fun q => ?_)
    by_cases hiL : i + 4 ≤ L
    · refine lv_aload_n X.1.1 X.1.2.1 dL_law_32 rfl (lv_at hl 0 rfl) ?_
      refine lv_iload X.1.1 X.1.2.1 dL_law_33 (lv_at hl 4 rfl) ?_
      refine va_sld X.1.1 X.1.2.1 hXs hbl hbA P.2.2.2.2.1 (xin_vp (xin_n (k := i) (n := L) (by omega) (by omega))) dL_law_35 ?_
      refine lv_bipush (v := 31) X.1.1 X.1.2.1 dL_law_36 (by decide) ?_
      refine lv_iand X.1.1 X.1.2.1 dL_law_38 ?_
      have hk : ∀ (B : Nat → Int32) (N : Nat) (wc wm : xW) (ex : va_W) (f : Nat → Int64) (H : Heap) (locs : List Loc) (ls : Array Slot) (cl1 sl1 : Nat), lwP Gc Gm o f wc wm ex A s.heap H locs → KR B N wc wm → lv_has ls 7 [(0, .ref b), (1, .ref (Gc.2.2 0)), (2, .ref (Gm.2.2 0)), (3, .ref o), (4, .int (nI i))] → cl1 ≤ cl + 26 → sl1 ≤ sl + 7884 → W p l e room_1 s m args below meth c H locs cl1 sl1 Q (F0 m 1056 ls []) := by
        intro B N wc wm ex f H locs ls cl1 sl1 P hKR hl h1 h2
        refine lv_iinc (v := nI (i + 4)) (lv' := [(4, .int (nI (i + 4))), (0, .ref b), (1, .ref (Gc.2.2 0)), (2, .ref (Gm.2.2 0)), (3, .ref o)]) X.1.1 X.1.2.1 dL_law_1056 hl (k := 4) rfl (nI_add i 4) (by decide) rfl (fun ls2 hl2 => ?_)
        refine lv_goto (tgt := 23) X.1.1 X.1.2.1 dL_law_1059 (by decide) ?_
        exact ih (i + 4) B N wc wm ex f H locs ls2 cl1 sl1 (by omega) (by omega) P hKR (lv_sub hl2 [1, 2, 3, 4, 0] rfl) (by omega) (by omega)
      have hc2 : cl + 26 ≤ 600128 := Nat.le_trans (Nat.add_le_add_left (Nat.le_mul_of_pos_right 26 (Nat.succ_pos n)) cl) hcl
      have hs2 : sl + 7884 ≤ 7301098 := Nat.le_trans (Nat.add_le_add_left (Nat.le_mul_of_pos_right 7884 (Nat.succ_pos n)) sl) hsl
      obtain ⟨j, hj, ej⟩ := and31 (xs (nI i).toNatClampNeg)
      rw [ej]
      rcases (show j = 0 ∨ j = 1 ∨ j = 2 ∨ j = 3 ∨ j = 4 ∨ j = 5 ∨ j = 6 ∨ j = 7 ∨ j = 8 ∨ j = 9 ∨ j = 10 ∨ j = 11 ∨ j = 12 ∨ j = 13 ∨ j = 14 ∨ j = 15 ∨ j = 16 ∨ j = 17 ∨ j = 18 ∨ j = 19 ∨ j = 20 ∨ 21 ≤ j by omega) with rfl | rfl | rfl | rfl | rfl | rfl | rfl | rfl | rfl | rfl | rfl | rfl | rfl | rfl | rfl | rfl | rfl | rfl | rfl | rfl | rfl | h21
      · refine lv_tableIn (off := 97) (tgt := 136) X.1.1 X.1.2.1 dL_law_39 (by decide) (by decide) (by decide +kernel) (by decide) ?_
        exact law_0 X hXs hbl hbA (by omega) hL P hKR hl hc2 hs2 hk
      · refine lv_tableIn (off := 197) (tgt := 236) X.1.1 X.1.2.1 dL_law_39 (by decide) (by decide) (by decide +kernel) (by decide) ?_
        exact law_1 X hXs hbl hbA (by omega) hL P hKR hl hc2 hs2 hk
      · refine lv_tableIn (off := 210) (tgt := 249) X.1.1 X.1.2.1 dL_law_39 (by decide) (by decide) (by decide +kernel) (by decide) ?_
        exact law_2 X hXs hbl hbA (by omega) hL P hKR hl hc2 hs2 hk
      · refine lv_tableIn (off := 223) (tgt := 262) X.1.1 X.1.2.1 dL_law_39 (by decide) (by decide) (by decide +kernel) (by decide) ?_
        exact law_3 X hXs hbl hbA (by omega) hL P hKR hl hc2 hs2 hk
      · refine lv_tableIn (off := 236) (tgt := 275) X.1.1 X.1.2.1 dL_law_39 (by decide) (by decide) (by decide +kernel) (by decide) ?_
        exact law_4 X hXs hbl hbA (by omega) hL P hKR hl hc2 hs2 hk
      · refine lv_tableIn (off := 249) (tgt := 288) X.1.1 X.1.2.1 dL_law_39 (by decide) (by decide) (by decide +kernel) (by decide) ?_
        exact law_5 X hXs hbl hbA (by omega) hL P hKR hl hc2 hs2 hk
      · refine lv_tableIn (off := 274) (tgt := 313) X.1.1 X.1.2.1 dL_law_39 (by decide) (by decide) (by decide +kernel) (by decide) ?_
        exact law_6 X hXs hbl hbA (by omega) hL P hKR hl hc2 hs2 hk
      · refine lv_tableIn (off := 299) (tgt := 338) X.1.1 X.1.2.1 dL_law_39 (by decide) (by decide) (by decide +kernel) (by decide) ?_
        exact law_7 X hXs hbl hbA (by omega) hL P hKR hl hc2 hs2 hk
      · refine lv_tableIn (off := 324) (tgt := 363) X.1.1 X.1.2.1 dL_law_39 (by decide) (by decide) (by decide +kernel) (by decide) ?_
        exact law_8 X hXs hbl hbA (by omega) hL P hKR hl hc2 hs2 hk
      · refine lv_tableIn (off := 350) (tgt := 389) X.1.1 X.1.2.1 dL_law_39 (by decide) (by decide) (by decide +kernel) (by decide) ?_
        exact law_9 X hXs hbl hbA (by omega) hL P hKR hl hc2 hs2 hk
      · refine lv_tableIn (off := 418) (tgt := 457) X.1.1 X.1.2.1 dL_law_39 (by decide) (by decide) (by decide +kernel) (by decide) ?_
        exact law_10 X hXs hbl hbA (by omega) hL P hKR hl hc2 hs2 hk
      · refine lv_tableIn (off := 443) (tgt := 482) X.1.1 X.1.2.1 dL_law_39 (by decide) (by decide) (by decide +kernel) (by decide) ?_
        exact law_11 X hXs hbl hbA (by omega) hL P hKR hl hc2 hs2 hk
      · refine lv_tableIn (off := 543) (tgt := 582) X.1.1 X.1.2.1 dL_law_39 (by decide) (by decide) (by decide +kernel) (by decide) ?_
        exact law_12 X hXs hbl hbA (by omega) hL P hKR hl hc2 hs2 hk
      · refine lv_tableIn (off := 595) (tgt := 634) X.1.1 X.1.2.1 dL_law_39 (by decide) (by decide) (by decide +kernel) (by decide) ?_
        exact law_13 X hXs hbl hbA (by omega) hL P hKR hl hc2 hs2 hk
      · refine lv_tableIn (off := 651) (tgt := 690) X.1.1 X.1.2.1 dL_law_39 (by decide) (by decide) (by decide +kernel) (by decide) ?_
        exact law_14 X hXs hbl hbA (by omega) hL P hKR hl hc2 hs2 hk
      · refine lv_tableIn (off := 742) (tgt := 781) X.1.1 X.1.2.1 dL_law_39 (by decide) (by decide) (by decide +kernel) (by decide) ?_
        exact law_15 X hXs hbl hbA (by omega) hL P hKR hl hc2 hs2 hk
      · refine lv_tableIn (off := 798) (tgt := 837) X.1.1 X.1.2.1 dL_law_39 (by decide) (by decide) (by decide +kernel) (by decide) ?_
        exact law_16 X hXs hbl hbA (by omega) hL P hKR hl hc2 hs2 hk
      · refine lv_tableIn (off := 812) (tgt := 851) X.1.1 X.1.2.1 dL_law_39 (by decide) (by decide) (by decide +kernel) (by decide) ?_
        exact law_17 X hXs hbl hbA (by omega) hL P hKR hl hc2 hs2 hk
      · refine lv_tableIn (off := 868) (tgt := 907) X.1.1 X.1.2.1 dL_law_39 (by decide) (by decide) (by decide +kernel) (by decide) ?_
        exact law_18 X hXs hbl hbA (by omega) hL P hKR hl hc2 hs2 hk
      · refine lv_tableIn (off := 936) (tgt := 975) X.1.1 X.1.2.1 dL_law_39 (by decide) (by decide) (by decide +kernel) (by decide) ?_
        exact law_19 X hXs hbl hbA (by omega) hL P hKR hl hc2 hs2 hk
      · refine lv_tableIn (off := 961) (tgt := 1000) X.1.1 X.1.2.1 dL_law_39 (by decide) (by decide) (by decide +kernel) (by decide) ?_
        exact law_20 X hXs hbl hbA (by omega) hL P hKR hl hc2 hs2 hk
      · refine lv_tableOut (tgt := 1056) X.1.1 X.1.2.1 dL_law_39 (Or.inr ?_) (by decide) (hk B N wc wm ex f H locs ls cl sl P hKR hl (by omega) (by omega))
        rw [nI_toInt (by omega)]
        omega
    · exact absurd (law_gt (L := L) (i := i) (by omega) (by omega) (by omega)) q
end LAWD
