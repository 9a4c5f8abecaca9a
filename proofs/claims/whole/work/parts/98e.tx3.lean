/-! append of a substring of a String constant, in the class's world -/
def sbB (s : Nat) (i j : Int32) (w : xW) : Option (Unit × xW) := if (s < strN ∧ ¬ i < 0 ∧ ¬ j < 0) ∧ (i.toNatClampNeg < j.toNatClampNeg ∧ j.toNatClampNeg ≤ strLenN s ∧ j.toNatClampNeg - i.toNatClampNeg ≤ 64 ∧ ¬ (i.toNatClampNeg = 0 ∧ j.toNatClampNeg = strLenN s)) ∧ xin (w.1 41 0) 90 then some ((), tput w (((strL s).drop i.toNatClampNeg).take (j.toNatClampNeg - i.toNatClampNeg))) else none
theorem getD_dt {l : List Nat} {i n k : Nat} (hk : k < n) : ((l.drop i).take n).getD k 0 = l.getD (i + k) 0 := by
  rw [List.getD_eq_getElem?_getD, List.getD_eq_getElem?_getD, List.getElem?_take, if_pos hk, List.getElem?_drop]
/-- what is said of a new String, as of one that the tables know -/
theorem stA_new {D : va_G} {cA : Nat → ClassId} {U : State} {H : Heap} {ra rb z : Nat} {f : Nat → Int32} {A' A : Nat → Prop} {G G' : xG} (hP : va_P D lE.1 [(rb, .inl (cA 1, z, .inl f)), (ra, .inr (0, [.ref rb, .int 0, .int 0, .int 0]))] H) (hK : va_K D lE.1 (xtys cA) U) (hst : stStr G A U U.heap) (ha : ¬ A' ra) (hb : ¬ A' rb) (e5 : G'.2.2 5 = ra) (e6 : G'.2.2 6 = rb) : stA z f G' A' U H := by
  obtain ⟨r, hr, cell, h1, h2, h3, h4⟩ := hP 1 _ rfl
  cases hr
  have hc := hK.1 0 _ rfl
  have h9 := hst.1 0 (by decide)
  have fld : ∀ {k : Nat} {v v0 : Value} {n d : String} {g : Nat}, k < 4 → (TJ0 k) = ("java/lang/String", n, d, true) → vp_V [.ref rb, .int 0, .int 0, .int 0] k = v → va_OF "java/lang/String" n d v0 g A U U.heap → va_OF "java/lang/String" n d v ra A' U H := by
    intro k v v0 n d g hk hT hv hO
    obtain ⟨cf, kf, i, fd, c9, o1, o2, -⟩ := hO
    obtain ⟨cf2, kf2, fi2, fd2, s1, s2⟩ := hc.1 k hk
    have s1 : U.fieldFound? (TJ0 k).1 (TJ0 k).2.1 (TJ0 k).2.2.1 = some (cf2, kf2, fi2, fd2) := s1
    rw [hT] at s1
    have e := s1.symm.trans o1
    cases e
    exact ⟨cf, kf, i, fd, cell, o1, o2, h1, (by rw [h3]; exact fun q => (by cases q)), (by rw [s2, ← hv]; exact h4 k hk), ha⟩
  unfold stA
  rw [e5, e6]
  refine ⟨⟨cell, h1, by rw [h3]; rfl, by rw [h2]; exact hc.2.1, ha⟩, fld (k := 1) (by decide) rfl rfl h9.2.1, fld (k := 0) (by decide) rfl rfl h9.2.2.1, ?_⟩
  have hb1 : H[rb]? = some (arrV (cA 1) z (fun j => .int (f j))) := hP 0 _ rfl
  refine ⟨_, hb1, (hK.2 1 (cA 1, .byte) rfl).1 z _, (fun q => (by cases q)), (by rw [arrV_size]; exact Nat.le_refl _), (by rw [arrV_size]), fun j hj => arrV_read _ _ hj, hb⟩
section TX4
variable {ρ : Type} {ι : ρ → xO × xW} {M : xMd} {b b2 : Nat × Nat} {pc : Nat} {lv : List (Nat × Value)} {st : List Value} {w : xW} {r : Option ρ}
set_option maxHeartbeats 4000000 in
theorem xj_sbB {s idx idx2 : Nat} {i j : Int32} {F : Unit → xW → Option ρ} (hb : (Nat.ble (b2.1 + 3) b.1 && Nat.ble (b2.2 + 482) b.2) = true) (hd : decode M.2.1 pc = .ok (.invokevirtual idx, 3)) (hd2 : decode M.2.1 (pc + 3) = .ok (.invokevirtual idx2, 3)) (hlink : Cond.methodLink M.1.cls idx yB_sub ∈ gtbl) (hlink2 : Cond.methodLink M.1.cls idx2 yB_Baps ∈ gtbl)
    (g1 : Nat.ble (mB_sub.2.2.2.2.frames + 1) M.2.2.2.2.frames = true) (g2 : Nat.ble (8 + (mB_sub.2.2.1 + 11) + mB_sub.2.2.2.2.locals) M.2.2.2.2.locals = true) (f1 : Nat.ble (mB_Baps.2.2.2.2.frames + 1) M.2.2.2.2.frames = true) (f2 : Nat.ble (8 + (mB_Baps.2.2.1 + 11) + mB_Baps.2.2.2.2.locals) M.2.2.2.2.locals = true) (hsum : Nat.ble ((st.map fun v => v.category).sum + 1) 8 = true)
    (kk : ∀ w1, xJ ι M lC b2 (pc + 3 + 3) lv (.ref 30 :: st) w1 (F () w1)) : xJ ι M lC b pc lv (.int j :: .int i :: .ref (1000 + s) :: .ref 30 :: st) w (xbd (sbB s i j w) F) := by
  rw [Bool.and_eq_true] at hb
  have hb1 := Nat.le_of_ble_eq_true hb.1
  have hb2 := Nat.le_of_ble_eq_true hb.2
  have hsum := Nat.le_of_ble_eq_true hsum
  intro o ho X G A ex H locs ls cells slots Q C P hl hc hs hend
  unfold xbd sbB at ho
  split at ho
  · rename_i hg
    obtain ⟨⟨hs9, hi0, hj0⟩, ⟨hij, hjl, hlen, hne⟩, hcnt⟩ := hg
    obtain ⟨i', hi'⟩ : ∃ i', i' = i.toNatClampNeg := ⟨_, rfl⟩
    obtain ⟨j', hj'⟩ : ∃ j', j' = j.toNatClampNeg := ⟨_, rfl⟩
    have ei : nI i' = i := by rw [hi']; exact tn_nI hi0
    have ej : nI j' = j := by rw [hj']; exact tn_nI hj0
    rw [← hi', ← hj'] at ho hij hlen hne
    rw [← hj'] at hjl
    have ho : F () (tput w (((strL s).drop i').take (j' - i'))) = some o := ho
    have hts := C.2.2.2.2.1
    obtain ⟨s1, s2, s3⟩ := strL_ok s hs9
    obtain ⟨c0, iS0, hKn0⟩ := u_known (C := RJ0) (T := TJ0) (N := 4) (n := 4) hts inJ0 (hts _ tB_inst)
    obtain ⟨GE, hGE⟩ : ∃ GE : xG, GE = ((fun _ => c0, fun _ => iS0), G.2.1, G.2.2) := ⟨_, rfl⟩
    have hKE : va_K GE.1 lE.1 (xtys G.2.1) (xs X) := by
      rw [hGE]
      refine ⟨fun c q hq => ?_, C.2.2.2.2.2.1.2⟩
      match c, hq with
      | 0, hq => cases hq; exact hKn0
      | c + 1, hq => cases hq
    have hsub : ∀ q, va_A [] H.size q → A q := fun q hq => by
      rcases hq with ⟨k, e, hh⟩ | hh
      · cases k <;> cases hh
      · exact C.2.2.2.2.2.2.1 q (Nat.le_trans P.2.2.1.1 hh)
    have hst : stStr G A (xs X) (xs X).heap := lC_str G A _ _ C.2.2.2.2.2.2.2.1
    have hO := (hst.1 s hs9).1
    have hrecv : ∃ cell : Cell, H[G.2.2 (1000 + s)]? = some cell ∧ cell.vm.isStatics = false ∧ (xs X).vm.findClass "java/lang/String" = some cell.cls := by
      obtain ⟨cell, h1, h2, h3, -⟩ := hO.kept P.2.2.1.2.1
      exact ⟨cell, h1, h2, h3⟩
    have hMet := c_sub (l := X.2.1) C.2.2.2.2.2.2.2.2.1 GE w s i' j' H.size hs9 hij hjl hlen hne
    have eG : GE.2.2 (1000 + s) = G.2.2 (1000 + s) := by rw [hGE]
    rw [eG] at hMet
    show xWc _ X H locs cells slots Q (xF X pc ls (.int j :: .int i :: .ref (G.2.2 (1000 + s)) :: .ref (G.2.2 30) :: st.map (xv G)))
    rw [← ei, ← ej]
    refine va_callr (va_runV (As := [.int (nI i'), .int (nI j')]) (rest := .ref (G.2.2 30) :: st.map (xv G)) (n := 2) (C := "java/lang/String") (own := M.1.cls) (Ts := gtbl) (bytes := cB_sub) (maxL := 5) (index := idx) ⟨C.1, C.2.1, C.2.2.1, C.2.2.2.1, hts⟩ hMet ⟨callB_of 2 hts (xgood hts tB_c_sub) rfl rfl rfl (hts _ tB_i_J0) (hts _ hlink) ⟨by decide, by decide, by decide +kernel⟩ ⟨Nat.le_of_ble_eq_true g1, Nat.le_of_ble_eq_true g2⟩, hts _ tB_n_sub, hts _ tB_e_sub⟩ ⟨xPc_blind lE_ok, hrecv, fun U hU hW => ⟨rfl, by rw [hU], fun k q hk => (by cases k <;> cases hk), by rw [hGE]; exact va_K.moved hW.alike (by rw [hGE] at hKE; exact hKE), ⟨fun i j p q h => (by cases i <;> cases h), fun k q h => (by cases k <;> cases h)⟩, rfl, by
      rw [hU, hGE]
      exact stStr_ok G A _ (xs X) U (xs X).heap H hW (fun q h1 h2 => P.2.2.1.2.1 q h1 h2) (fun q _ hh => hsub q hh) hst⟩⟩ rfl rfl hl.1 rfl (by
      have e1 : (((Value.ref (G.2.2 30)) :: st.map (xv G)).map fun v => v.category).sum = 1 + (st.map fun v => v.category).sum := by rw [List.map_cons, List.sum_cons, xcat_sum]; rfl
      show 2 * 0 + _ ≤ 8
      rw [e1]; omega) hd ⟨by omega, by omega⟩) P.2.2.1 (fun q _ h => hsub q h) hsub (fun u ra t H1 locs1 ht hvm hw hB hz1 hk1 hS => ?_)
    obtain ⟨rb, hB1, hB2⟩ := hB
    rw [ht] at hB1
    have hPl : ∀ (k : Nat) (q : Nat × va_E), (xws lC G w ++ ex)[k]? = some q → q.1 < H.size := fun k q hq => (P.1 k q hq).lt
    have P1 : xPic lC G w ex A (xs X).heap H1 locs1 := ⟨fun k q hq => (P.1 k q hq).kept (hk1 q.1 (hPl k q hq) (fun hh => by
      rcases hh with ⟨k2, e, hh⟩ | hh
      · cases k2 <;> cases hh
      · have := hPl k q hq; omega)), P.2.1, hS, P.2.2.2⟩
    have hra : H.size ≤ ra := by
      rcases hB2.2 1 _ rfl with ⟨k, e, hh⟩ | hh
      · cases k <;> cases hh
      · exact hh
    have hrb : H.size ≤ rb := by
      rcases hB2.2 0 _ rfl with ⟨k, e, hh⟩ | hh
      · cases k <;> cases hh
      · exact hh
    have hra1 : ra < H1.size := (hB1 1 _ rfl).lt
    have hrb1 : rb < H1.size := (hB1 0 _ rfl).lt
    have hex : ∀ (k : Nat) (q : Nat × va_E), ex[k]? = some q → q.1 < H.size := fun k q hq => hPl ((xws lC G w).length + k) q (by rw [List.getElem?_append_right (by omega), Nat.add_sub_cancel_left]; exact hq)
    have out : ∀ y, H.size ≤ y → y < H1.size → ¬ va_A ex H1.size y := fun y h1 h2 hh => by
      rcases hh with ⟨k, e, hh⟩ | hh
      · have := hex k _ hh
        simp only at this
        omega
      · omega
    have eG2 : GE.2.1 = G.2.1 := by rw [hGE]
    have hst2 : ∀ bb, stB (j' - i') (va_cpy (strCh s) (fun _ => 0) i' 0 (j' - i')) (gS G bb ra rb) (va_A ex H1.size) (xs X) H1 := fun bb => by
      have hq := stB_of C P1 (s := 0) (by decide) bb
      refine ⟨⟨fun k hk => ?_, hq.1.2⟩, ?_, stA_new (D := GE.1) (cA := G.2.1) (G := G) (A := A) (by rw [← eG2]; exact hB1) hKE hst (out ra hra hra1) (out rb hrb hrb1) rfl rfl⟩
      · have e : ∀ k, 7 ≤ k → (gS G bb ra rb).2.2 k = (gS G bb (G.2.2 (1000 + 0)) (G.2.2 (1500 + 0))).2.2 k := fun k hk => by
          show (if k = 0 then _ else if k = 1 then bb else if k = 5 then ra else if k = 6 then rb else G.2.2 k) = (if k = 0 then G.2.2 30 else if k = 1 then bb else if k = 5 then _ else if k = 6 then _ else G.2.2 k)
          rw [if_neg (by omega), if_neg (by omega), if_neg (by omega), if_neg (by omega), if_neg (by omega), if_neg (by omega), if_neg (by omega), if_neg (by omega)]
        rw [e (1000 + k) (by omega), e (1500 + k) (by omega)]
        exact hq.1.1 k hk
      · exact hq.2.1
    have hll : (((strL s).drop i').take (j' - i')).length = j' - i' := by
      rw [List.length_take, List.length_drop, s1]; omega
    refine xc_call (As := [.ref ra]) (rest := st.map (xv G)) (v := some (.ref (G.2.2 30))) (l := ((strL s).drop i').take (j' - i')) (nn := id) (w2 := tput w (((strL s).drop i').take (j' - i'))) C P1 hst2 rfl mkB_Baps hlink2 f1 f2 rfl rfl rfl hl.1 (by rw [xcat_sum]; exact Nat.ble_eq_true_of_le (by omega)) hd2 ⟨by omega, by omega⟩ (fun n => Nat.le_refl n) (fun bb m n' wS e1 e2 e3 e4 e5 e6 => ?_) (getD_256 (fun c hc => s3 c (List.mem_of_mem_drop (List.mem_of_mem_take hc)))) (fun n' e1 e2 => tput_hw (by rw [hll]; omega) n' e1 e2) (fun ex2 H2 locs2 P2 => kk _ o ho X G A ex2 H2 locs2 ls (cells + 2 + 1) (slots + 80 + 402) Q C P2 hl (by omega) (by omega) (fun H1 locs1 ls1 pc1 ex1 cells1 slots1 g1 g2 g3 g4 g5 => hend H1 locs1 ls1 pc1 ex1 cells1 slots1 g1 (by omega) (by omega) g4 g5))
    refine c_Baps C.2.2.2.2.2.2.2.2.1 (gS G bb ra rb) wS m (j' - i') (va_cpy (strCh s) (fun _ => 0) i' 0 (j' - i')) n' (((strL s).drop i').take (j' - i')) H1.size e1 e2 e3 e4 (by have := xin_ltn hcnt e5 (by omega); omega) (by omega) e6 (sb_fitC (strCh_fit hs9) sb_fit0) hll (fun k hk => ?_)
    rw [pk_cpy_in (by omega) (by omega), getD_dt hk, ← s2 (i' + k) (by omega)]
    congr 1
  · cases ho
end TX4
