/-! append(int), append(String), setLength(0) -/
theorem sb_runS {M : xMd} {m z : Nat} {f : Nat → Int32} {G : xG} {w : xW} {A : Nat → Prop} {X : xC} {H : Heap} {locs : List Loc} {ls : Array Slot} {cells slots pc : Nat} {rest : List Value} {M2 : xMd} {As : List Value} {idx n mc ms : Nat} {Qc : Array Value → State → Outcome → State → Prop} {free : Addr → Prop} (C : xCtx M (lS m z f) X G A) (P : xPic (lS m z f) G w [] A (xs X).heap H locs)
    (hM : Met X.2.1 M2.1 (xwords M2) M2.2.2.2.2 (va_Pc As (xPre (lS m z f) G w [] H.size)) Qc mc ms free) (hmk : xMkS M2 n) (hlink : Cond.methodLink M.1.cls idx M2.1 ∈ gtbl) (f1 : Nat.ble (M2.2.2.2.2.frames + 1) M.2.2.2.2.frames = true) (f2 : Nat.ble (8 + (M2.2.2.1 + 11) + M2.2.2.2.2.locals) M.2.2.2.2.locals = true) (f3 : M2.2.2.2.2.cells = mc) (f4 : M2.2.2.2.2.slots = ms)
    (hn : As.length = n) (hsize : ls.size = M.2.2.1) (hsum : Nat.ble (rest.map fun v => v.category).sum 8 = true) (hd : decode M.2.1 pc = .ok (.invokestatic idx, 3)) (hf : cells + mc ≤ M.2.2.2.2.cells ∧ slots + ms ≤ M.2.2.2.2.slots) :
    va_Run X.1 X.2.1 X.2.2.1 M.2.2.2.2 X.2.2.2.1 X.2.2.2.2.1 X.2.2.2.2.2.1 X.2.2.2.2.2.2.1 X.2.2.2.2.2.2.2.1 X.2.2.2.2.2.2.2.2 H locs cells slots mc ms (xF X pc ls (As.reverse ++ rest)) rest (Qc As.toArray) free := by
  obtain ⟨⟨m1, m2, m3, m4⟩, m5⟩ := hmk
  have hts := C.2.2.2.2.1
  exact va_runS (As := As) (rest := rest) (n := n) (own := M.1.cls) (Ts := gtbl) (bytes := M2.2.1) (maxL := M2.2.2.1) (ret := M2.2.2.2.1) (index := idx) ⟨C.1, C.2.1, C.2.2.1, C.2.2.2.1, hts⟩ hM ⟨callB_of n hts (xgood hts m1) rfl f3 f4 (hts _ m2) (hts _ hlink) ⟨m3.1, m3.2, m4⟩ ⟨Nat.le_of_ble_eq_true f1, Nat.le_of_ble_eq_true f2⟩, hts _ m5⟩ ⟨xPc_blind lS_ok, fun U hU hW => ⟨rfl, xPre_of C P U hU hW⟩⟩ rfl hn hsize rfl (by show 2 * 0 + _ ≤ 8; have := Nat.le_of_ble_eq_true hsum; omega) hd hf
section API6
variable {m z : Nat} {f : Nat → Int32} {w : xW}
theorem tB_api {n : Nat} (x : Int32) (h0 : w.1 0 1 = 0) (hnm : n + (numL x.toInt).length ≤ m) (hm : m ≤ 65536) (v2 : Value) (hv2 : v2.category = 1) : xJ (fun q : Unit × xW => (.inl (some (.ref 0)), q.2)) mB_api (lS m z f) (0, 0) 17 [(3, .int (nI (n + (numL x.toInt).length))), (2, v2), (0, .ref 0), (1, .int x)] [] w (some ((), xwi (wput w n (numL x.toInt)) 0 3 (nI (n + (numL x.toInt).length)))) := by
  refine xj_aloadn 2 dB_api_17 rfl rfl ?_
  refine xj_callU (argv := []) (rest := []) (n := 0) (fun x => [.int x]) (fun _ _ => rfl) dB_api_18 (kB_isl h0) uB_isl rfl rfl rfl rfl ?_
  refine xj_eq (xj_F (P := (1 : Int32) = 0) (by decide)) ?_
  refine xj_ifeq (tgt := 37) dB_api_21 rfl xj_none ?_
  refine xj_iloadn 3 dB_api_24 rfl rfl ?_
  refine xj_iloadn 0 dB_api_25 rfl rfl ?_
  refine xj_aloadn 2 dB_api_26 rfl rfl ?_
  refine sgV dB_api_27 rfl ?_
  have e : n + (numL x.toInt).length - (numL x.toInt).length = n := by omega
  have hk := kB_gch (z := z) (f := f) hm x (n + (numL x.toInt).length) w (by omega) hnm
  rw [e] at hk
  refine xj_eq (r2 := xbd (some (nI n, wput w n (numL x.toInt))) (fun _ w1 => some ((), xwi w1 0 3 (nI (n + (numL x.toInt).length))))) rfl ?_
  refine xj_callS (b2 := (0, 0)) (b3 := (0, 0)) (argv := [.int x, .int (nI (n + (numL x.toInt).length)), .ref 1]) (rest := []) (fun x => [.int x]) (fun _ _ => rfl) (Nat.le_refl _) (Nat.le_refl _) dB_api_30 hk mkB_gch tB_m_J5_248 (xfit0_ok rfl) rfl rfl (Nat.zero_le _) (fun x w1 hx => ?_)
  cases hx
  refine xj_pop dB_api_33 rfl ?_
  refine xj_goto (tgt := 48) dB_api_34 rfl ?_
  refine xj_aloadn 2 dB_api_48 rfl rfl ?_
  refine xj_iloadn 0 dB_api_49 rfl rfl ?_
  refine spN dB_api_50 rfl ?_
  refine xj_aloadn 2 dB_api_53 rfl rfl ?_
  exact xj_ra dB_api_54 ⟨_, rfl, Or.inl ⟨_, rfl⟩⟩
end API6
theorem numL_le {x : Int32} : 1 ≤ (numL x.toInt).length ∧ (numL x.toInt).length ≤ 11 := by
  have hlo := x.le_toInt
  have hhi := x.toInt_lt
  have := decL_len1 (v := x.toInt.natAbs) (by omega)
  unfold numL
  split
  · rw [List.length_cons]; omega
  · omega
theorem numL_256 {x : Int32} : ∀ i, (numL x.toInt).getD i 0 < 256 := by
  have hF : ∀ (f v : Nat), ∀ c ∈ decF f v, c < 256 := by
    intro f
    induction f with
    | zero => intro v c hc; rw [List.mem_singleton.mp hc]; omega
    | succ f ih =>
      intro v c hc
      unfold decF at hc
      split at hc
      · rw [List.mem_singleton.mp hc]; omega
      · rcases List.mem_append.mp hc with h | h
        · exact ih _ c h
        · rw [List.mem_singleton.mp h]; omega
  have hall : ∀ c ∈ numL x.toInt, c < 256 := by
    intro c hc
    unfold numL at hc
    split at hc
    · rcases List.mem_cons.mp hc with rfl | h
      · decide
      · exact hF _ _ c h
    · exact hF _ _ c hc
  intro i
  rw [List.getD_eq_getElem?_getD]
  cases h : (numL x.toInt)[i]? with
  | none => decide
  | some c => exact hall c (List.mem_of_getElem? h)
theorem sbR_wput {n m m' : Nat} {l : List Nat} {w w' : xW} (h : sbE (n + l.length) m w m' w') (hnm : n ≤ m) (h0 : w.1 0 1 = 0) : sbR n l w m' (xwi (wput w' n l) 0 3 (nI (n + l.length))) := by
  obtain ⟨r1, r2, r3, r4, r5, r6⟩ := h
  refine ⟨r1, r3, fun j => ?_, (r5 1).trans h0, xwi_s, fun j hj => ?_, fun i hi => ?_⟩
  · show fits .byte (.int (if 1 = 1 ∧ n ≤ j ∧ j < n + l.length then sb_b (l.getD (j - n) 0) else w'.1 1 j)) = true
    split
    · exact sb_fitB _
    · exact r4 j
  · show (if 1 = 1 ∧ n ≤ j ∧ j < n + l.length then sb_b (l.getD (j - n) 0) else w'.1 1 j) = w.1 1 j
    rw [if_neg (by omega)]
    exact r6 j (by omega)
  · show (if 1 = 1 ∧ n ≤ n + i ∧ n + i < n + l.length then sb_b (l.getD (n + i - n) 0) else w'.1 1 (n + i)) = sb_b (l.getD i 0)
    rw [if_pos ⟨rfl, by omega, by omega⟩, show n + i - n = i by omega]
set_option maxHeartbeats 4000000 in
set_option maxRecDepth 100000 in
theorem c_api {l : Launch} (hfl : l.flags = flags0) (G : xG) (w : xW) (m z : Nat) (f : Nat → Int32) (n : Nat) (x : Int32) (sz : Nat) (h0 : w.1 0 1 = 0) (hn : w.1 0 3 = nI n) (hnm : n ≤ m) (hm : m ≤ 65536) (hn2 : n < 100) (hf : sb_Fit (w.1 1)) :
    Met l yB_api (xwords mB_api) mB_api.2.2.2.2 (va_Pc [.ref (G.2.2 0), .int x] (xPre (lS m z f) G w [] sz)) (sbQ z f G w m sz (some (.ref (G.2.2 0))) (sbR n (numL x.toInt) w)) 1 402 (va_A (xws (lS m z f) G w ++ []) sz) := by
  refine xb_met (M := mB_api) (argv := [.ref 0, .int x]) lS_ok (by decide) (Nat.le_of_ble_eq_true rfl) hfl ?_
  intro X ls hXl hsz hargs hr hlocks C P hl
  subst hsz
  have hlen := numL_le (x := x)
  have hl : lv_has ls 4 [(0, .ref (G.2.2 0)), (1, .int x)] := hl
  refine lv_aload_n C.1 C.2.1 dB_api_0 rfl (lv_at hl 0 rfl) ?_
  refine wgN C P hn dB_api_1 rfl ?_
  refine lv_istore_n (lv' := [(2, .int (nI n)), (0, .ref (G.2.2 0)), (1, .int x)]) C.1 C.2.1 dB_api_4 rfl hl (by decide) rfl (fun ls hl => ?_)
  refine lv_iload_n C.1 C.2.1 dB_api_5 rfl (lv_at hl 0 rfl) ?_
  refine lv_iload_n C.1 C.2.1 dB_api_6 rfl (lv_at hl 2 rfl) ?_
  refine sb_after0 C P (sb_runS (As := [.int x]) (rest := [.int (nI n)]) (n := 1) C P (kB_ssz x _ rfl X.2.1 (by rw [hXl]; exact hfl) G [] _) mkB_ssz tB_m_J5_245 rfl rfl rfl rfl rfl hl.1 rfl dB_api_7 ⟨Nat.zero_le _, Nat.zero_le _⟩) (fun H locs P1 => ?_)
  show xWc _ X H locs 0 0 _ (xF X 10 ls [.int (nI (numL x.toInt).length), .int (nI n)])
  refine lv_iadd C.1 C.2.1 dB_api_10 ?_
  rw [nI_add]
  refine lv_istore_n (lv' := [(3, .int (nI (n + (numL x.toInt).length))), (2, .int (nI n)), (0, .ref (G.2.2 0)), (1, .int x)]) C.1 C.2.1 dB_api_11 rfl hl (by decide) rfl (fun ls hl => ?_)
  refine lv_aload_n C.1 C.2.1 dB_api_12 rfl (lv_at hl 2 rfl) ?_
  refine lv_iload_n C.1 C.2.1 dB_api_13 rfl (lv_at hl 0 rfl) ?_
  refine sb_after C P1 (sb_runU (As := [.int (nI (n + (numL x.toInt).length))]) (rest := []) (n := 1) C P1 (c_ens (by rw [hXl]; exact hfl) G w m z f (n + (numL x.toInt).length) _ h0 hm (by omega) hf) uB_ens rfl rfl rfl rfl rfl hl.1 rfl dB_api_14 ⟨Nat.le_of_ble_eq_true rfl, Nat.le_of_ble_eq_true rfl⟩) (fun b' m' w' H1 locs1 hR P2 => ?_)
  have hC2 : xCtx mB_api (lS m' z f) X (gset G b') (va_A (xws (lS m z f) G w ++ []) (xs X).heap.size) := xCtx_gset C
  refine tB_api (m := m') (z := z) (f := f) (w := w') (n := n) x ((hR.2.2.2.2.1 1).trans h0) hR.1 hR.2.2.1 (.int (nI n)) rfl _ rfl X (gset G b') _ [] H1 locs1 ls (0 + 1) (0 + 402) _ hC2 P2 hl (Nat.le_refl _) (Nat.le_refl _) (fun H2 locs2 ls2 pc2 ex2 cells2 slots2 g1 g2 g3 g4 g5 => ?_)
  cases (show ex2 = [] from g1.2.2.2)
  obtain ⟨g6, ty, g7, g8⟩ := g5
  refine W.widen (k := 1) (n := 402) g2 g3 ?_
  exact W.aret C.1 C.2.1 (hr.trans g7) g8 (Or.inr ⟨_, rfl⟩) (fun t ht _ => sb_end g1 (sbR_wput hR hnm h0) _ t ht) g1.2.2.1.2.2 g6
theorem pB_api : sSw "java/lang/StringBuilder" 53 mB_api 1 := ⟨tB_m_J4_53, tB_q_api, tB_sup, tB_n_api, tB_i_J5, tB_c_api, by decide, by decide +kernel⟩
set_option maxHeartbeats 4000000 in
set_option maxRecDepth 100000 in
theorem c_Bapi {l : Launch} (hfl : l.flags = flags0) (G : xG) (w : xW) (m z : Nat) (f : Nat → Int32) (n : Nat) (x : Int32) (sz : Nat) (h0 : w.1 0 1 = 0) (hn : w.1 0 3 = nI n) (hnm : n ≤ m) (hm : m ≤ 65536) (hn2 : n < 100) (hf : sb_Fit (w.1 1)) :
    Met l yB_Bapi (xwords mB_Bapi) mB_Bapi.2.2.2.2 (va_Pc [.ref (G.2.2 0), .int x] (xPre (lS m z f) G w [] sz)) (sbQ z f G w m sz (some (.ref (G.2.2 0))) (sbR n (numL x.toInt) w)) 1 402 (va_A (xws (lS m z f) G w ++ []) sz) := by
  refine xb_met (M := mB_Bapi) (argv := [.ref 0, .int x]) lS_ok (by decide) (Nat.le_of_ble_eq_true rfl) hfl ?_
  intro X ls hXl hsz hargs hr hlocks C P hl
  subst hsz
  have hl : lv_has ls 2 [(0, .ref (G.2.2 0)), (1, .int x)] := hl
  refine lv_aload_n C.1 C.2.1 dB_Bapi_0 rfl (lv_at hl 0 rfl) ?_
  refine lv_iload_n C.1 C.2.1 dB_Bapi_1 rfl (lv_at hl 1 rfl) ?_
  refine sb_after C P (sb_runP (As := [.int x]) (rest := []) (n := 1) C P (c_api (by rw [hXl]; exact hfl) G w m z f n x _ h0 hn hnm hm hn2 hf) pB_api rfl rfl rfl rfl rfl hl.1 rfl dB_Bapi_2 ⟨Nat.le_of_ble_eq_true rfl, Nat.le_of_ble_eq_true rfl⟩) (fun b' m' w' H1 locs1 hR P1 => ?_)
  refine lv_pop C.1 C.2.1 dB_Bapi_5 rfl ?_
  refine lv_aload_n C.1 C.2.1 dB_Bapi_6 rfl (lv_at hl 0 rfl) ?_
  exact W.aret C.1 C.2.1 hr (Or.inl ⟨_, rfl⟩) (Or.inr ⟨_, rfl⟩) (fun t ht _ => sb_end P1 hR _ t ht) P1.2.2.1.2.2 dB_Bapi_7
/-! the String that is appended -/
def xcpt (w : xW) (f : Nat → Int32) (n z : Nat) : xW := (fun a j => if a = 1 then va_cpy f (w.1 1) 0 n z j else w.1 a j, w.2)
section APS
variable {ρ : Type} {ι : ρ → xO × xW} {M : xMd} {m z : Nat} {f : Nat → Int32} {b : Nat × Nat} {pc : Nat} {lv : List (Nat × Value)} {st : List Value} {w : xW} {r : Option ρ}
theorem xj_cpyt {n idx : Nat} (hd : decode M.2.1 pc = .ok (.invokestatic idx, 3)) (hlink : Cond.methodLink M.1.cls idx arraycopyName ∈ gtbl) (hf : sb_Fit f) (hz : z ≤ 65536) (hm : m ≤ 65536) (hnz : n + z ≤ m) (hroom : (Nat.ble ((st.map fun v => v.category).sum + (nativeFrameWords "java/lang/System" "arraycopy" 5 + 11)) M.2.2.2.2.locals && Nat.ble 1 M.2.2.2.2.frames) = true)
    (kk : xJ ι M (lS m z f) b (pc + 3) lv st (xcpt w f n z) r) : xJ ι M (lS m z f) b pc lv (.int (nI z) :: .int (nI n) :: .ref 1 :: .int 0 :: .ref 6 :: st) w r := by
  intro o ho X G A ex H locs ls cells slots Q Cx P hl hc hs hend
  rw [Bool.and_eq_true] at hroom
  obtain ⟨a3, a4⟩ := hroom
  have a3 := Nat.le_of_ble_eq_true a3
  have a4 := Nat.le_of_ble_eq_true a4
  have ez : (nI z).toNatClampNeg = z := nI_clamp (by omega)
  have en : (nI n).toNatClampNeg = n := nI_clamp (by omega)
  have e0 : (0 : Int32).toNatClampNeg = 0 := rfl
  have hset : (xws (lS m z f) G w ++ ex).set 1 (G.2.2 1, .inl (G.2.1 1, m, .inl (va_cpy f (w.1 1) 0 n z))) = xws (lS m z f) G (xcpt w f n z) ++ ex := by
    refine xws_set (Nat.le_of_ble_eq_true rfl) rfl (fun j hj hj2 => ?_)
    obtain rfl : j = 0 := by
      have : j < 2 := hj2
      omega
    rfl
  have hts := Cx.2.2.2.2.1
  refine vk_copyt Cx.1 Cx.2.1 (Cx.2.2.1.trans hl.1.symm) Cx.2.2.2.1 (hts _ hlink) (hts _ twCpy_nat) (hts _ twCpy_st) (hts _ twCpy_in) Cx.2.2.2.2.2.1 P.1 P.2.1 P.2.2.1 (Cx.2.2.2.2.2.2.2.1.2.2.2.2.2) 1 1 (xws_arr (k := 1) rfl) rfl (by decide) (nI_pos (by omega)) (nI_pos (by omega)) (by rw [ez, e0]; omega) (by rw [ez, en]; omega) (fun i _ => hf _) a4 (by rw [xcat_sum]; exact a3) hd (fun H1 locs1 hP1 hD1 hS1 => ?_)
  rw [ez, en, e0, hset] at hP1 hD1
  exact kk o ho X G A ex H1 locs1 ls cells slots Q Cx ⟨hP1, hD1, hS1, P.2.2.2⟩ hl hc hs hend
theorem tA_cod : xJ ιI mB_cod (lS m z f) (0, 0) 0 [(0, .ref 5)] [] w (some (0, w)) := by
  refine xj_gsv (v := .int 1) dB_cod_0 tB_f_J0_38 (fun G A U H h => h.1.2.1) ?_
  refine xj_eq (xj_F (P := (1 : Int32) = 0) (by decide)) ?_
  refine xj_ifeq (tgt := 13) dB_cod_3 rfl xj_none ?_
  refine xj_aloadn 0 dB_cod_6 rfl rfl ?_
  refine xj_gfs (v := .int 0) dB_cod_7 tB_f_J0_15 (fun G A U H h => h.2.2.2.1) ?_
  refine xj_goto (tgt := 14) dB_cod_10 rfl ?_
  exact xj_end rfl ⟨dB_cod_14, .byte, rfl, rfl⟩ (fun _ => rfl)
theorem kA_cod : xMet jI mB_cod (lS m z f) (0, 0) [.ref 5] w (some (0, w)) := xj_met lS_ok (by decide) (Nat.le_of_ble_eq_true rfl) (Nat.zero_le _) (Nat.zero_le _) tA_cod
theorem tA_sle : xJ ιI mB_sle (lS m z f) (0, 0) 0 [(0, .ref 5)] [] w (some (nI z, w)) := by
  refine xj_aloadn 0 dB_sle_0 rfl rfl ?_
  refine xj_gfs (v := .ref 6) dB_sle_1 tB_f_J0_9 (fun G A U H h => h.2.2.2.2.1) ?_
  refine xj_alens (f := fun _ j => .int (f j)) dB_sle_4 (fun G A U H h => h.2.2.2.2.2) ?_
  refine xj_aloadn 0 dB_sle_5 rfl rfl ?_
  refine xj_eq (r2 := xbd (some ((0 : Int32), w)) (fun x w1 => some (nI z >>> (x &&& 31), w1))) (by show some _ = some _; rw [sb_shr0]) ?_
  refine xj_cTi (argv := []) (rest := [.int (nI z)]) dB_sle_6 kA_cod mkB_cod tB_m_J0_335 rfl (fun G A U H h => h.2.2.1) rfl rfl rfl (fun x w1 _ => ?_)
  refine xj_ishr dB_sle_9 ?_
  exact xj_ri dB_sle_10 rfl
theorem kA_sle : xMet jI mB_sle (lS m z f) (0, 0) [.ref 5] w (some (nI z, w)) := xj_met lS_ok (by decide) (Nat.le_of_ble_eq_true rfl) (Nat.zero_le _) (Nat.zero_le _) tA_sle
theorem tA_inf (h0 : w.1 0 1 = 0) : xJ ιV mB_inf (lS m z f) (0, 0) 0 [(0, .ref 0), (1, .ref 5)] [] w (some ((), w)) := by
  refine xj_gsv (v := .int 1) dB_inf_0 tB_f_J5_18 (fun G A U H h => h.1.2.1) ?_
  refine xj_eq (xj_F (P := (1 : Int32) = 0) (by decide)) ?_
  refine xj_ifeq (tgt := 21) dB_inf_3 rfl xj_none ?_
  refine xj_aloadn 0 dB_inf_6 rfl rfl ?_
  refine sgK h0 dB_inf_7 rfl ?_
  refine xj_aloadn 1 dB_inf_10 rfl rfl ?_
  refine xj_eq (r2 := xbd (some ((0 : Int32), w)) (fun x w1 => if (0 : Int32) = x then some ((), w1) else none)) rfl ?_
  refine xj_cTi (argv := []) (rest := [.int 0]) dB_inf_11 kA_cod mkB_cod tB_m_J5_40 rfl (fun G A U H h => h.2.2.1) rfl rfl rfl (fun x w1 _ => ?_)
  refine xj_ieq (tgt := 21) dB_inf_14 rfl ?_ xj_none
  exact xj_rv dB_inf_21 rfl
theorem kA_inf (h0 : w.1 0 1 = 0) : xMet jV mB_inf (lS m z f) (0, 0) [.ref 0, .ref 5] w (some ((), w)) := xj_met lS_ok (by decide) (Nat.le_of_ble_eq_true rfl) (Nat.zero_le _) (Nat.zero_le _) (tA_inf h0)
theorem uB_inf : sUw "java/lang/AbstractStringBuilder" 397 mB_inf 1 := ⟨tB_m_J5_397, tB_q_inf, tB_n_inf, tB_i_J5, tB_c_inf, tB_u_inf, ⟨by decide, by decide⟩, by decide +kernel⟩
theorem tA_gby {n : Nat} (hf : sb_Fit f) (hz : z ≤ 65536) (hm : m ≤ 65536) (hnz : n + z ≤ m) : xJ ιV mB_gby (lS m z f) (0, 0) 0 [(0, .ref 5), (1, .ref 1), (2, .int (nI n)), (3, .int 0)] [] w (some ((), xcpt w f n z)) := by
  refine xj_aloadn 0 dB_gby_0 rfl rfl ?_
  refine xj_eq (r2 := xbd (some ((0 : Int32), w)) (fun x w1 => if x = 0 then some ((), xcpt w1 f n z) else none)) rfl ?_
  refine xj_cTi (argv := []) (rest := []) dB_gby_1 kA_cod mkB_cod tB_m_J0_335 rfl (fun G A U H h => h.2.2.1) rfl rfl rfl (fun x w1 _ => ?_)
  refine xj_iloadn 3 dB_gby_4 rfl rfl ?_
  refine xj_ine (tgt := 28) dB_gby_5 rfl ?_ xj_none
  refine xj_aloadn 0 dB_gby_8 rfl rfl ?_
  refine xj_gfs (v := .ref 6) dB_gby_9 tB_f_J0_9 (fun G A U H h => h.2.2.2.2.1) ?_
  refine xj_iconst (v := 0) dB_gby_12 (by decide) ?_
  refine xj_aloadn 1 dB_gby_13 rfl rfl ?_
  refine xj_iloadn 2 dB_gby_14 rfl rfl ?_
  refine xj_iloadn 3 dB_gby_15 rfl rfl ?_
  refine xj_ishl dB_gby_16 ?_
  rw [sb_shl0]
  refine xj_aloadn 0 dB_gby_17 rfl rfl ?_
  refine xj_gfs (v := .ref 6) dB_gby_18 tB_f_J0_9 (fun G A U H h => h.2.2.2.2.1) ?_
  refine xj_alens (f := fun _ j => .int (f j)) dB_gby_21 (fun G A U H h => h.2.2.2.2.2) ?_
  refine xj_cpyt dB_gby_22 tB_m_J0_212 hf hz hm hnz rfl ?_
  refine xj_goto (tgt := 43) dB_gby_25 rfl ?_
  exact xj_rv dB_gby_43 rfl
theorem kA_gby {n : Nat} (hf : sb_Fit f) (hz : z ≤ 65536) (hm : m ≤ 65536) (hnz : n + z ≤ m) : xMet jV mB_gby (lS m z f) (0, 0) [.ref 5, .ref 1, .int (nI n), .int 0] w (some ((), xcpt w f n z)) := xj_met lS_ok (by decide) (Nat.le_of_ble_eq_true rfl) (Nat.zero_le _) (Nat.zero_le _) (tA_gby hf hz hm hnz)
theorem tA_put {n : Nat} (h0 : w.1 0 1 = 0) (hf : sb_Fit f) (hz : z ≤ 65536) (hm : m ≤ 65536) (hnz : n + z ≤ m) : xJ ιV mB_put (lS m z f) (0, 0) 0 [(0, .ref 0), (1, .int (nI n)), (2, .ref 5)] [] w (some ((), xcpt w f n z)) := by
  refine xj_aloadn 0 dB_put_0 rfl rfl ?_
  refine xj_aloadn 2 dB_put_1 rfl rfl ?_
  refine xj_callU (argv := [.ref 5]) (rest := []) (n := 1) (fun _ => []) (fun _ _ => rfl) dB_put_2 (kA_inf h0) uB_inf rfl rfl rfl rfl ?_
  refine xj_aloadn 2 dB_put_5 rfl rfl ?_
  refine xj_aloadn 0 dB_put_6 rfl rfl ?_
  refine sgV dB_put_7 rfl ?_
  refine xj_iloadn 1 dB_put_10 rfl rfl ?_
  refine xj_aloadn 0 dB_put_11 rfl rfl ?_
  refine sgK h0 dB_put_12 rfl ?_
  refine xj_eq (r2 := xbd (some ((), xcpt w f n z)) (fun _ w1 => some ((), w1))) rfl ?_
  refine xj_callT (b2 := (0, 0)) (b3 := (0, 0)) (argv := [.ref 1, .int (nI n), .int 0]) (rest := []) (fun _ => []) (fun _ _ => rfl) (Nat.le_refl _) (Nat.le_refl _) dB_put_15 (kA_gby hf hz hm hnz) mkB_gby tB_m_J5_399 (xfit0_ok rfl) (fun G A U H h => h.2.2.1) rfl rfl (Nat.zero_le _) (fun x w1 hx => ?_)
  exact xj_rv dB_put_18 rfl
theorem kA_put {n : Nat} (h0 : w.1 0 1 = 0) (hf : sb_Fit f) (hz : z ≤ 65536) (hm : m ≤ 65536) (hnz : n + z ≤ m) : xMet jV mB_put (lS m z f) (0, 0) [.ref 0, .int (nI n), .ref 5] w (some ((), xcpt w f n z)) := xj_met lS_ok (by decide) (Nat.le_of_ble_eq_true rfl) (Nat.zero_le _) (Nat.zero_le _) (tA_put h0 hf hz hm hnz)
theorem uB_put : sUw "java/lang/AbstractStringBuilder" 208 mB_put 2 := ⟨tB_m_J5_208, tB_q_put, tB_n_put, tB_i_J5, tB_c_put, tB_u_put, ⟨by decide, by decide⟩, by decide +kernel⟩
theorem tA_aps {n : Nat} (h0 : w.1 0 1 = 0) (hn : w.1 0 3 = nI n) (hf : sb_Fit f) (hz : z ≤ 65536) (hm : m ≤ 65536) (hnz : n + z ≤ m) : xJ (fun q : Unit × xW => (.inl (some (.ref 0)), q.2)) mB_aps (lS m z f) (0, 0) 24 [(2, .int (nI z)), (0, .ref 0), (1, .ref 5)] [] w (some ((), xwi (xcpt w f n z) 0 3 (nI (n + z)))) := by
  refine xj_aloadn 1 dB_aps_24 rfl rfl ?_
  refine xj_aloadn 1 dB_aps_25 rfl rfl ?_
  refine sgN hn dB_aps_26 rfl ?_
  refine xj_aloadn 2 dB_aps_29 rfl rfl ?_
  refine xj_callU (argv := [.int (nI n), .ref 5]) (rest := []) (n := 2) (fun _ => []) (fun _ _ => rfl) dB_aps_30 (kA_put h0 hf hz hm hnz) uB_put rfl rfl rfl rfl ?_
  refine xj_aloadn 1 dB_aps_33 rfl rfl ?_
  refine xj_dup dB_aps_34 rfl ?_
  refine sgN (v := nI n) hn dB_aps_35 rfl ?_
  refine xj_iloadn 0 dB_aps_38 rfl rfl ?_
  refine xj_iadd dB_aps_39 ?_
  rw [nI_add]
  refine spN dB_aps_40 rfl ?_
  refine xj_aloadn 1 dB_aps_43 rfl rfl ?_
  exact xj_ra dB_aps_44 ⟨_, rfl, Or.inl ⟨_, rfl⟩⟩
end APS
theorem sbR_xcpt {n m m' z : Nat} {f : Nat → Int32} {l : List Nat} {w w' : xW} (h : sbE (n + z) m w m' w') (hnm : n ≤ m) (h0 : w.1 0 1 = 0) (hf : sb_Fit f) (hl : l.length = z) (hlf : ∀ i, i < z → f i = sb_b (l.getD i 0)) : sbR n l w m' (xwi (xcpt w' f n z) 0 3 (nI (n + z))) := by
  obtain ⟨r1, r2, r3, r4, r5, r6⟩ := h
  subst hl
  refine ⟨r1, r3, sb_fitC hf r4, (r5 1).trans h0, xwi_s, fun j hj => ?_, fun i hi => ?_⟩
  · show va_cpy f (w'.1 1) 0 n l.length j = w.1 1 j
    rw [pk_cpy_out (by omega)]
    exact r6 j (by omega)
  · show va_cpy f (w'.1 1) 0 n l.length (n + i) = sb_b (l.getD i 0)
    rw [pk_cpy_in (by omega) (by omega), show 0 + (n + i - n) = i by omega]
    exact hlf i hi
set_option maxHeartbeats 4000000 in
set_option maxRecDepth 100000 in
theorem c_aps {la : Launch} (hfl : la.flags = flags0) (G : xG) (w : xW) (m z : Nat) (f : Nat → Int32) (n : Nat) (l : List Nat) (sz : Nat) (h0 : w.1 0 1 = 0) (hn : w.1 0 3 = nI n) (hnm : n ≤ m) (hm : m ≤ 65536) (hn2 : n < 100) (hz : z < 100) (hf : sb_Fit (w.1 1)) (hff : sb_Fit f) (hl2 : l.length = z) (hlf : ∀ i, i < z → f i = sb_b (l.getD i 0)) :
    Met la yB_aps (xwords mB_aps) mB_aps.2.2.2.2 (va_Pc [.ref (G.2.2 0), .ref (G.2.2 5)] (xPre (lS m z f) G w [] sz)) (sbQ z f G w m sz (some (.ref (G.2.2 0))) (sbR n l w)) 1 402 (va_A (xws (lS m z f) G w ++ []) sz) := by
  refine xb_met (M := mB_aps) (argv := [.ref 0, .ref 5]) lS_ok (by decide) (Nat.le_of_ble_eq_true rfl) hfl ?_
  intro X ls hXl hsz hargs hr hlocks C P hl
  subst hsz
  have hl : lv_has ls 3 [(0, .ref (G.2.2 0)), (1, .ref (G.2.2 5))] := hl
  have hts := C.2.2.2.2.1
  refine lv_aload_n C.1 C.2.1 dB_aps_0 rfl (lv_at hl 1 rfl) ?_
  refine lv_ifnonnull (tgt := 9) C.1 C.2.1 dB_aps_1 (by decide) ?_
  refine lv_aload_n C.1 C.2.1 dB_aps_9 rfl (lv_at hl 1 rfl) ?_
  have hO := C.2.2.2.2.2.2.2.1.2.2.1
  have hrecv : ∃ cell : Cell, (xs X).heap[G.2.2 5]? = some cell ∧ cell.vm.isStatics = false ∧ (xs X).vm.findClass "java/lang/String" = some cell.cls := by
    obtain ⟨cell, h1, h2, h3, -⟩ := hO
    exact ⟨cell, h1, h2, h3⟩
  refine sb_after0 C P (va_runV (As := []) (rest := []) (n := 0) (C := "java/lang/String") (own := "java/lang/AbstractStringBuilder") (Ts := gtbl) (bytes := cB_sle) (maxL := 1) (index := 32) ⟨C.1, C.2.1, C.2.2.1, C.2.2.2.1, hts⟩ (kA_sle _ rfl X.2.1 (by rw [hXl]; exact hfl) G [] _) ⟨callB_of 0 hts (xgood hts tB_c_sle) rfl rfl rfl (hts _ tB_i_J0) (hts _ tB_m_J5_32) ⟨by decide, by decide, by decide +kernel⟩ ⟨Nat.le_of_ble_eq_true rfl, Nat.le_of_ble_eq_true rfl⟩, hts _ tB_n_sle, hts _ tB_e_sle⟩ ⟨xPc_blind lS_ok, hrecv, fun U hU hW => ⟨rfl, xPre_of C P U hU hW⟩⟩ rfl rfl hl.1 rfl (lv_room (Nat.le_of_ble_eq_true rfl)) dB_aps_10 ⟨Nat.zero_le _, Nat.zero_le _⟩) (fun H locs P1 => ?_)
  show xWc _ X H locs 0 0 _ (xF X 13 ls [.int (nI z)])
  refine lv_istore_n (lv' := [(2, .int (nI z)), (0, .ref (G.2.2 0)), (1, .ref (G.2.2 5))]) C.1 C.2.1 dB_aps_13 rfl hl (by decide) rfl (fun ls hl => ?_)
  refine lv_aload_n C.1 C.2.1 dB_aps_14 rfl (lv_at hl 1 rfl) ?_
  refine lv_aload_n C.1 C.2.1 dB_aps_15 rfl (lv_at hl 1 rfl) ?_
  refine wgN C P1 hn dB_aps_16 rfl ?_
  refine lv_iload_n C.1 C.2.1 dB_aps_19 rfl (lv_at hl 0 rfl) ?_
  refine lv_iadd C.1 C.2.1 dB_aps_20 ?_
  rw [nI_add]
  refine sb_after C P1 (sb_runU (As := [.int (nI (n + z))]) (rest := []) (n := 1) C P1 (c_ens (by rw [hXl]; exact hfl) G w m z f (n + z) _ h0 hm (by omega) hf) uB_ens rfl rfl rfl rfl rfl hl.1 rfl dB_aps_21 ⟨Nat.le_of_ble_eq_true rfl, Nat.le_of_ble_eq_true rfl⟩) (fun b' m' w' H1 locs1 hR P2 => ?_)
  have hC2 : xCtx mB_aps (lS m' z f) X (gset G b') (va_A (xws (lS m z f) G w ++ []) (xs X).heap.size) := xCtx_gset C
  refine tA_aps (m := m') (z := z) (f := f) (w := w') (n := n) ((hR.2.2.2.2.1 1).trans h0) ((hR.2.2.2.2.1 3).trans hn) hff (by omega) hR.2.2.1 hR.1 _ rfl X (gset G b') _ [] H1 locs1 ls (0 + 1) (0 + 402) _ hC2 P2 hl (Nat.le_refl _) (Nat.le_refl _) (fun H2 locs2 ls2 pc2 ex2 cells2 slots2 g1 g2 g3 g4 g5 => ?_)
  cases (show ex2 = [] from g1.2.2.2)
  obtain ⟨g6, ty, g7, g8⟩ := g5
  refine W.widen (k := 1) (n := 402) g2 g3 ?_
  exact W.aret C.1 C.2.1 (hr.trans g7) g8 (Or.inr ⟨_, rfl⟩) (fun t ht _ => sb_end g1 (sbR_xcpt hR hnm h0 hff hl2 hlf) _ t ht) g1.2.2.1.2.2 g6
theorem pB_aps : sSw "java/lang/StringBuilder" 29 mB_aps 1 := ⟨tB_m_J4_29, tB_q_aps, tB_sup, tB_n_aps, tB_i_J5, tB_c_aps, by decide, by decide +kernel⟩
set_option maxHeartbeats 4000000 in
set_option maxRecDepth 100000 in
theorem c_Baps {la : Launch} (hfl : la.flags = flags0) (G : xG) (w : xW) (m z : Nat) (f : Nat → Int32) (n : Nat) (l : List Nat) (sz : Nat) (h0 : w.1 0 1 = 0) (hn : w.1 0 3 = nI n) (hnm : n ≤ m) (hm : m ≤ 65536) (hn2 : n < 100) (hz : z < 100) (hf : sb_Fit (w.1 1)) (hff : sb_Fit f) (hl2 : l.length = z) (hlf : ∀ i, i < z → f i = sb_b (l.getD i 0)) :
    Met la yB_Baps (xwords mB_Baps) mB_Baps.2.2.2.2 (va_Pc [.ref (G.2.2 0), .ref (G.2.2 5)] (xPre (lS m z f) G w [] sz)) (sbQ z f G w m sz (some (.ref (G.2.2 0))) (sbR n l w)) 1 402 (va_A (xws (lS m z f) G w ++ []) sz) := by
  refine xb_met (M := mB_Baps) (argv := [.ref 0, .ref 5]) lS_ok (by decide) (Nat.le_of_ble_eq_true rfl) hfl ?_
  intro X ls hXl hsz hargs hr hlocks C P hl
  subst hsz
  have hl : lv_has ls 2 [(0, .ref (G.2.2 0)), (1, .ref (G.2.2 5))] := hl
  refine lv_aload_n C.1 C.2.1 dB_Baps_0 rfl (lv_at hl 0 rfl) ?_
  refine lv_aload_n C.1 C.2.1 dB_Baps_1 rfl (lv_at hl 1 rfl) ?_
  refine sb_after C P (sb_runP (As := [.ref (G.2.2 5)]) (rest := []) (n := 1) C P (c_aps (by rw [hXl]; exact hfl) G w m z f n l _ h0 hn hnm hm hn2 hz hf hff hl2 hlf) pB_aps rfl rfl rfl rfl rfl hl.1 rfl dB_Baps_2 ⟨Nat.le_of_ble_eq_true rfl, Nat.le_of_ble_eq_true rfl⟩) (fun b' m' w' H1 locs1 hR P1 => ?_)
  refine lv_pop C.1 C.2.1 dB_Baps_5 rfl ?_
  refine lv_aload_n C.1 C.2.1 dB_Baps_6 rfl (lv_at hl 0 rfl) ?_
  exact W.aret C.1 C.2.1 hr (Or.inl ⟨_, rfl⟩) (Or.inr ⟨_, rfl⟩) (fun t ht _ => sb_end P1 hR _ t ht) P1.2.2.1.2.2 dB_Baps_7
/-! setLength(0) -/
section SET
variable {m z : Nat} {f : Nat → Int32} {w : xW}
theorem tB_set {n : Nat} (hn : w.1 0 3 = nI n) (hn2 : n ≤ 65536) : ∃ w2 : xW, (w2.1 1 = w.1 1 ∧ w2.1 0 1 = w.1 0 1 ∧ w2.1 0 3 = 0) ∧ xJ ιV mB_set (lS m z f) (0, 0) 18 [(0, .ref 0), (1, .int 0)] [] w (some ((), w2)) := by
  by_cases h : n = 0
  · subst h
    refine ⟨xwi w 0 3 0, ⟨rfl, rfl, rfl⟩, ?_⟩
    refine xj_aloadn 0 dB_set_18 rfl rfl ?_
    refine sgN hn dB_set_19 rfl ?_
    refine xj_iloadn 1 dB_set_22 rfl rfl ?_
    refine xj_eq (xj_F (P := nI 0 < 0) (by decide)) ?_
    refine xj_ige (tgt := 63) dB_set_23 rfl xj_none ?_
    refine xj_aloadn 0 dB_set_63 rfl rfl ?_
    refine sgN hn dB_set_64 rfl ?_
    refine xj_iloadn 1 dB_set_67 rfl rfl ?_
    refine xj_eq (xj_F (P := 0 < nI 0) (by decide)) ?_
    refine xj_ile (tgt := 76) dB_set_68 rfl xj_none ?_
    refine xj_aloadn 0 dB_set_76 rfl rfl ?_
    refine xj_iloadn 1 dB_set_77 rfl rfl ?_
    refine spN dB_set_78 rfl ?_
    exact xj_rv dB_set_81 rfl
  · refine ⟨xwi (xwi w 0 2 1) 0 3 0, ⟨rfl, rfl, rfl⟩, ?_⟩
    refine xj_aloadn 0 dB_set_18 rfl rfl ?_
    refine sgN hn dB_set_19 rfl ?_
    refine xj_iloadn 1 dB_set_22 rfl rfl ?_
    refine xj_eq (xj_F (P := nI n < 0) (nI_pos (by omega))) ?_
    refine xj_ige (tgt := 63) dB_set_23 rfl xj_none ?_
    refine xj_aloadn 0 dB_set_63 rfl rfl ?_
    refine sgN hn dB_set_64 rfl ?_
    refine xj_iloadn 1 dB_set_67 rfl rfl ?_
    refine xj_eq (xj_T (P := 0 < nI n) (nI_lt (a := 0) (by omega) (by omega))) ?_
    refine xj_ile (tgt := 76) dB_set_68 rfl ?_ xj_none
    refine xj_aloadn 0 dB_set_71 rfl rfl ?_
    refine xj_iconst (v := 1) dB_set_72 (by decide) ?_
    refine spM (Or.inr rfl) dB_set_73 rfl ?_
    refine xj_aloadn 0 dB_set_76 rfl rfl ?_
    refine xj_iloadn 1 dB_set_77 rfl rfl ?_
    refine spN dB_set_78 rfl ?_
    exact xj_rv dB_set_81 rfl
end SET
set_option maxHeartbeats 4000000 in
set_option maxRecDepth 100000 in
theorem c_set {l : Launch} (hfl : l.flags = flags0) (G : xG) (w : xW) (m z : Nat) (f : Nat → Int32) (n sz : Nat) (h0 : w.1 0 1 = 0) (hn : w.1 0 3 = nI n) (hnm : n ≤ m) (hm : m ≤ 65536) (hf : sb_Fit (w.1 1)) :
    Met l yB_set (xwords mB_set) mB_set.2.2.2.2 (va_Pc [.ref (G.2.2 0), .int 0] (xPre (lS m z f) G w [] sz)) (sbQ z f G w m sz none (sbR 0 [] w)) 1 402 (va_A (xws (lS m z f) G w ++ []) sz) := by
  refine xb_met (M := mB_set) (argv := [.ref 0, .int 0]) lS_ok (by decide) (Nat.le_of_ble_eq_true rfl) hfl ?_
  intro X ls hXl hsz hargs hr hlocks C P hl
  subst hsz
  have hl : lv_has ls 2 [(0, .ref (G.2.2 0)), (1, .int 0)] := hl
  refine lv_iload_n C.1 C.2.1 dB_set_0 rfl (lv_at hl 1 rfl) ?_
  refine lv_if_ge (tgt := 13) C.1 C.2.1 dB_set_1 (by decide) (fun _ => ?_) (fun h => absurd (by decide) h)
  refine lv_aload_n C.1 C.2.1 dB_set_13 rfl (lv_at hl 0 rfl) ?_
  refine lv_iload_n C.1 C.2.1 dB_set_14 rfl (lv_at hl 1 rfl) ?_
  refine sb_after C P (sb_runU (As := [.int (nI 0)]) (rest := []) (n := 1) C P (c_ens (by rw [hXl]; exact hfl) G w m z f 0 _ h0 hm (by omega) hf) uB_ens rfl rfl rfl rfl rfl hl.1 rfl dB_set_15 ⟨Nat.le_of_ble_eq_true rfl, Nat.le_of_ble_eq_true rfl⟩) (fun b' m' w' H1 locs1 hR P1 => ?_)
  obtain ⟨r1, r2, r3, r4, r5, r6⟩ := hR
  have hC2 : xCtx mB_set (lS m' z f) X (gset G b') (va_A (xws (lS m z f) G w ++ []) (xs X).heap.size) := xCtx_gset C
  obtain ⟨w2, ⟨a1, a2, a3⟩, hJ⟩ := tB_set (m := m') (z := z) (f := f) (w := w') (n := n) ((r5 3).trans hn) (by omega)
  refine hJ _ rfl X (gset G b') _ [] H1 locs1 ls (0 + 1) (0 + 402) _ hC2 P1 hl (Nat.le_refl _) (Nat.le_refl _) (fun H2 locs2 ls2 pc2 ex2 cells2 slots2 g1 g2 g3 g4 g5 => ?_)
  cases (show ex2 = [] from g1.2.2.2)
  refine W.widen (k := 1) (n := 402) g2 g3 ?_
  exact W.vret C.1 C.2.1 (hr.trans g5.2) (fun t ht _ => sb_end g1 ⟨Nat.zero_le _, r3, by rw [a1]; exact r4, a2.trans ((r5 1).trans h0), a3, fun j hj => absurd hj (Nat.not_lt_zero j), fun i hi => absurd hi (Nat.not_lt_zero i)⟩ _ t ht) g1.2.2.1.2.2 g5.1
theorem pB_set : sSw "java/lang/StringBuilder" 333 mB_set 1 := ⟨tB_m_J4_333, tB_q_set, tB_sup, tB_n_set, tB_i_J5, tB_c_set, by decide, by decide +kernel⟩
set_option maxHeartbeats 4000000 in
set_option maxRecDepth 100000 in
theorem c_Bset {l : Launch} (hfl : l.flags = flags0) (G : xG) (w : xW) (m z : Nat) (f : Nat → Int32) (n sz : Nat) (h0 : w.1 0 1 = 0) (hn : w.1 0 3 = nI n) (hnm : n ≤ m) (hm : m ≤ 65536) (hf : sb_Fit (w.1 1)) :
    Met l yB_Bset (xwords mB_Bset) mB_Bset.2.2.2.2 (va_Pc [.ref (G.2.2 0), .int 0] (xPre (lS m z f) G w [] sz)) (sbQ z f G w m sz none (sbR 0 [] w)) 1 402 (va_A (xws (lS m z f) G w ++ []) sz) := by
  refine xb_met (M := mB_Bset) (argv := [.ref 0, .int 0]) lS_ok (by decide) (Nat.le_of_ble_eq_true rfl) hfl ?_
  intro X ls hXl hsz hargs hr hlocks C P hl
  subst hsz
  have hl : lv_has ls 2 [(0, .ref (G.2.2 0)), (1, .int 0)] := hl
  refine lv_aload_n C.1 C.2.1 dB_Bset_0 rfl (lv_at hl 0 rfl) ?_
  refine lv_iload_n C.1 C.2.1 dB_Bset_1 rfl (lv_at hl 1 rfl) ?_
  refine sb_after C P (sb_runP (As := [.int 0]) (rest := []) (n := 1) C P (c_set (by rw [hXl]; exact hfl) G w m z f n _ h0 hn hnm hm hf) pB_set rfl rfl rfl rfl rfl hl.1 rfl dB_Bset_2 ⟨Nat.le_of_ble_eq_true rfl, Nat.le_of_ble_eq_true rfl⟩) (fun b' m' w' H1 locs1 hR P1 => ?_)
  exact W.vret C.1 C.2.1 hr (fun t ht _ => sb_end P1 hR _ t ht) P1.2.2.1.2.2 dB_Bset_5
