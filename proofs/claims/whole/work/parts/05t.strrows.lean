/-! String.length and String.charAt of the String constants, over any layout that knows them -/
def xStrL (L : xLay) : Prop := ∀ (G : xG) (A : Nat → Prop) (U : State) (H : Heap), L.2.2.2.2 G A U H → stStr G A U H
section XT
variable {ρ : Type} {ι : ρ → xO × xW} {M : xMd} {L : xLay} {b : Nat × Nat} {pc : Nat} {lv : List (Nat × Value)} {st : List Value} {w : xW} {r : Option ρ}
theorem xj_i2c {x : Int32} (hd : decode M.2.1 pc = .ok (.i2c, 1)) (k : xJ ι M L b (pc + 1) lv (.int (x.toUInt32 % 65536).toInt32 :: st) w r) : xJ ι M L b pc lv (.int x :: st) w r :=
  xj_go (fun _ _ _ _ _ _ _ _ _ C _ => lv_i2c C.1 C.2.1 hd rfl) k
/-- a static field of a value known from the tables -/
theorem xj_gsv {C n d : String} {v : Value} {idx : Nat} (hd : decode M.2.1 pc = .ok (.getstatic idx, 3)) (hlink : Cond.fieldLink M.1.cls idx C n d ∈ gtbl) (hZ : ∀ (G : xG) (A : Nat → Prop) (U : State) (H : Heap), L.2.2.2.2 G A U H → va_Z C n d (xv G v) A U H)
    (k : xJ ι M L b (pc + 3) lv (v :: st) w r) : xJ ι M L b pc lv st w r := by
  intro o ho X G A ex H locs ls cells slots Q Cx P hl hc hs hend
  exact va_gets Cx.1 Cx.2.1 (hZ G A _ _ Cx.2.2.2.2.2.2.2.1) P.2.2.1 Cx.2.2.2.1 (Cx.2.2.2.2.1 _ hlink) (fun _ h => h) hd (k o ho X G A ex H locs ls cells slots Q Cx P hl hc hs hend)
/-- a static field that holds one of two values -/
theorem xj_gs2 {C n d : String} {v1 v2 : Value} {idx : Nat} (hd : decode M.2.1 pc = .ok (.getstatic idx, 3)) (hlink : Cond.fieldLink M.1.cls idx C n d ∈ gtbl) (hZ : ∀ (G : xG) (A : Nat → Prop) (U : State) (H : Heap), L.2.2.2.2 G A U H → va_Z C n d (xv G v1) A U H ∨ va_Z C n d (xv G v2) A U H)
    (k1 : xJ ι M L b (pc + 3) lv (v1 :: st) w r) (k2 : xJ ι M L b (pc + 3) lv (v2 :: st) w r) : xJ ι M L b pc lv st w r := by
  intro o ho X G A ex H locs ls cells slots Q Cx P hl hc hs hend
  rcases hZ G A _ _ Cx.2.2.2.2.2.2.2.1 with h | h
  · exact va_gets Cx.1 Cx.2.1 h P.2.2.1 Cx.2.2.2.1 (Cx.2.2.2.2.1 _ hlink) (fun _ h => h) hd (k1 o ho X G A ex H locs ls cells slots Q Cx P hl hc hs hend)
  · exact va_gets Cx.1 Cx.2.1 h P.2.2.1 Cx.2.2.2.1 (Cx.2.2.2.2.1 _ hlink) (fun _ h => h) hd (k2 o ho X G A ex H locs ls cells slots Q Cx P hl hc hs hend)
/-- a field of an object that the tables know -/
theorem xj_gfs {C n d : String} {v : Value} {a idx : Nat} (hd : decode M.2.1 pc = .ok (.getfield idx, 3)) (hlink : Cond.fieldLink M.1.cls idx C n d ∈ gtbl) (hF : ∀ (G : xG) (A : Nat → Prop) (U : State) (H : Heap), L.2.2.2.2 G A U H → va_OF C n d (xv G v) (G.2.2 a) A U H)
    (k : xJ ι M L b (pc + 3) lv (v :: st) w r) : xJ ι M L b pc lv (.ref a :: st) w r := by
  intro o ho X G A ex H locs ls cells slots Q Cx P hl hc hs hend
  exact vk_getf Cx.1 Cx.2.1 (hF G A _ _ Cx.2.2.2.2.2.2.2.1) P.2.2.1 Cx.2.2.2.1 (Cx.2.2.2.2.1 _ hlink) (fun _ h => h) hd (k o ho X G A ex H locs ls cells slots Q Cx P hl hc hs hend)
/-- an array that the tables know: its length, its bytes, its ints -/
theorem xj_alens {ty : FieldType} {a N : Nat} {f : xG → Nat → Value} (hd : decode M.2.1 pc = .ok (.arraylength, 1)) (hT : ∀ (G : xG) (A : Nat → Prop) (U : State) (H : Heap), L.2.2.2.2 G A U H → va_T ty (G.2.2 a) N (f G) A U H)
    (k : xJ ι M L b (pc + 1) lv (.int (nI N) :: st) w r) : xJ ι M L b pc lv (.ref a :: st) w r := by
  intro o ho X G A ex H locs ls cells slots Q Cx P hl hc hs hend
  exact va_tlen Cx.1 Cx.2.1 (hT G A _ _ Cx.2.2.2.2.2.2.2.1) P.2.2.1 rfl hd (k o ho X G A ex H locs ls cells slots Q Cx P hl hc hs hend)
theorem xj_balds {a N : Nat} {f : Nat → Int32} {i : Int32} (hd : decode M.2.1 pc = .ok (.baload, 1)) (hin : xin i N) (hT : ∀ (G : xG) (A : Nat → Prop) (U : State) (H : Heap), L.2.2.2.2 G A U H → va_T .byte (G.2.2 a) N (fun j => .int (f j)) A U H)
    (k : xJ ι M L b (pc + 1) lv (.int (f i.toNatClampNeg) :: st) w r) : xJ ι M L b pc lv (.int i :: .ref a :: st) w r := by
  intro o ho X G A ex H locs ls cells slots Q Cx P hl hc hs hend
  exact va_tb Cx.1 Cx.2.1 (hT G A _ _ Cx.2.2.2.2.2.2.2.1) P.2.2.1 (xin_vp hin) rfl hd (k o ho X G A ex H locs ls cells slots Q Cx P hl hc hs hend)
theorem xj_ialds {a N : Nat} {f : Nat → Int32} {i : Int32} (hd : decode M.2.1 pc = .ok (.iaload, 1)) (hin : xin i N) (hT : ∀ (G : xG) (A : Nat → Prop) (U : State) (H : Heap), L.2.2.2.2 G A U H → va_T .int (G.2.2 a) N (fun j => .int (f j)) A U H)
    (k : xJ ι M L b (pc + 1) lv (.int (f i.toNatClampNeg) :: st) w r) : xJ ι M L b pc lv (.int i :: .ref a :: st) w r := by
  intro o ho X G A ex H locs ls cells slots Q Cx P hl hc hs hend
  exact va_ti Cx.1 Cx.2.1 (hT G A _ _ Cx.2.2.2.2.2.2.2.1) P.2.2.1 (xin_vp hin) rfl hd (k o ho X G A ex H locs ls cells slots Q Cx P hl hc hs hend)
theorem xj_aaldq {C : String} {a N : Nat} {f : Nat → Nat} {i : Int32} (hd : decode M.2.1 pc = .ok (.aaload, 1)) (hin : xin i N) (hT : ∀ (G : xG) (A : Nat → Prop) (U : State) (H : Heap), L.2.2.2.2 G A U H → va_T (.object C) (G.2.2 a) N (fun j => .ref (G.2.2 (f j))) A U H)
    (k : xJ ι M L b (pc + 1) lv (.ref (f i.toNatClampNeg) :: st) w r) : xJ ι M L b pc lv (.int i :: .ref a :: st) w r := by
  intro o ho X G A ex H locs ls cells slots Q Cx P hl hc hs hend
  exact vb_tq Cx.1 Cx.2.1 (hT G A _ _ Cx.2.2.2.2.2.2.2.1) P.2.2.1 (xin_vp hin) rfl hd (k o ho X G A ex H locs ls cells slots Q Cx P hl hc hs hend)
/-- a call of a method of an object that the tables know -/
theorem xj_callT {α : Type} {jc : α → Option Value} {M2 : xMd} {n idx a : Nat} {b2 b3 : Nat × Nat} {argv rest : List Value} {rc : Option (α × xW)} {F : α → xW → Option ρ} (pu : α → List Value) (hpu : ∀ (G : xG) (x : α), ((jc x).map (xv G)).toList = (pu x).map (xv G)) (hb1 : b2.1 + b3.1 ≤ b.1) (hb2 : b2.2 + b3.2 ≤ b.2)
    (hd : decode M.2.1 pc = .ok (.invokevirtual idx, 3)) (hM : xMet jc M2 L b2 (.ref a :: argv) w rc) (hmk : xMkV M2 n) (hlink : Cond.methodLink M.1.cls idx M2.1 ∈ gtbl) (hfit : xFitR M M2 b2) (hO : ∀ (G : xG) (A : Nat → Prop) (U : State) (H : Heap), L.2.2.2.2 G A U H → va_O M2.1.cls (G.2.2 a) A U H) (hn : argv.length = n) (hst : st = argv.reverse ++ .ref a :: rest) (hsum : (rest.map fun v => v.category).sum ≤ 8)
    (kk : ∀ (x : α) (w1 : xW), rc = some (x, w1) → xJ ι M L b3 (pc + 3) lv (pu x ++ rest) w1 (F x w1)) : xJ ι M L b pc lv st w (xbd rc F) := by
  refine xj_call pu hpu hb1 hb2 ?_ kk
  intro q hq X G A ex H locs ls cells slots Cx P hl hc1 hs1
  obtain ⟨⟨m1, m2, m3, m4⟩, m5, m6⟩ := hmk
  obtain ⟨f1, f2, f3, f4⟩ := hfit
  have hts := Cx.2.2.2.2.1
  have hrecv : ∃ cell : Cell, H[G.2.2 a]? = some cell ∧ cell.vm.isStatics = false ∧ (xs X).vm.findClass M2.1.cls = some cell.cls := by
    obtain ⟨cell, h1, h2, h3, -⟩ := (hO G A _ _ Cx.2.2.2.2.2.2.2.1).kept P.2.2.1.2.1
    exact ⟨cell, h1, h2, h3⟩
  refine ⟨_, va_runV (As := argv.map (xv G)) (rest := rest.map (xv G)) (n := n) (C := M2.1.cls) (own := M.1.cls) (Ts := gtbl) (bytes := M2.2.1) (maxL := M2.2.2.1) (ret := M2.2.2.2.1) (index := idx) (b := G.2.2 a) ⟨Cx.1, Cx.2.1, Cx.2.2.1, Cx.2.2.2.1, hts⟩ (hM q hq X.2.1 Cx.2.2.2.2.2.2.2.2.1 G ex H.size) ⟨callB_of n hts (xgood hts m1) rfl f3 f4 (hts _ m2) (hts _ hlink) ⟨m3.1, m3.2, m4⟩ ⟨f1, f2⟩, hts _ m5, hts _ m6⟩ ⟨xPc_blind Cx.2.2.2.2.2.2.2.2.2, hrecv, fun U hU hW => ⟨rfl, xPre_of Cx P U hU hW⟩⟩ rfl (by rw [List.length_map]; exact hn) hl.1 ?_ ?_ hd ⟨hc1, hs1⟩⟩
  · show st.map (xv G) = _
    rw [hst, List.map_append, List.map_reverse]; rfl
  · show 2 * 0 + _ ≤ 8
    rw [xcat_sum]; omega
theorem xj_cTi {M2 : xMd} {n idx a : Nat} {argv rest : List Value} {rc : Option (Int32 × xW)} {F : Int32 → xW → Option ρ} (hd : decode M.2.1 pc = .ok (.invokevirtual idx, 3)) (hM : xMet jI M2 L (0, 0) (.ref a :: argv) w rc) (hmk : xMkV M2 n) (hlink : Cond.methodLink M.1.cls idx M2.1 ∈ gtbl) (hf : xfit0 M M2 = true) (hO : ∀ (G : xG) (A : Nat → Prop) (U : State) (H : Heap), L.2.2.2.2 G A U H → va_O M2.1.cls (G.2.2 a) A U H) (hn : argv.length = n) (hst : st = argv.reverse ++ .ref a :: rest) (hsum : Nat.ble (rest.map fun v => v.category).sum 8 = true)
    (kk : ∀ (x : Int32) (w1 : xW), rc = some (x, w1) → xJ ι M L b (pc + 3) lv (.int x :: rest) w1 (F x w1)) : xJ ι M L b pc lv st w (xbd rc F) :=
  xj_callT (b2 := (0, 0)) (b3 := b) (fun x => [.int x]) (fun _ _ => rfl) (by show 0 + b.1 ≤ b.1; omega) (by show 0 + b.2 ≤ b.2; omega) hd hM hmk hlink (xfit0_ok hf) hO hn hst (Nat.le_of_ble_eq_true hsum) kk
theorem xj_cSv {M2 : xMd} {n idx : Nat} {argv rest : List Value} {rc : Option (Unit × xW)} {F : Unit → xW → Option ρ} (hd : decode M.2.1 pc = .ok (.invokestatic idx, 3)) (hM : xMet jV M2 L (0, 0) argv w rc) (hmk : xMkS M2 n) (hlink : Cond.methodLink M.1.cls idx M2.1 ∈ gtbl) (hf : xfit0 M M2 = true) (hn : argv.length = n) (hst : st = argv.reverse ++ rest) (hsum : Nat.ble (rest.map fun v => v.category).sum 8 = true)
    (kk : ∀ (x : Unit) (w1 : xW), xJ ι M L b (pc + 3) lv rest w1 (F x w1)) : xJ ι M L b pc lv st w (xbd rc F) :=
  xj_callS (b2 := (0, 0)) (b3 := b) (fun _ => []) (fun _ _ => rfl) (by show 0 + b.1 ≤ b.1; omega) (by show 0 + b.2 ≤ b.2; omega) hd hM hmk hlink (xfit0_ok hf) hn hst (Nat.le_of_ble_eq_true hsum) (fun x w1 _ => kk x w1)
end XT
abbrev mStr_coder : xMd := (⟨"java/lang/String", "coder", "()B"⟩, cStr_coder, 1, (some .byte), { frames := 0, cells := 0, slots := 0, locals := 0 })
abbrev mStr_isLatin1 : xMd := (⟨"java/lang/String", "isLatin1", "()Z"⟩, cStr_isLatin1, 1, (some .boolean), { frames := 0, cells := 0, slots := 0, locals := 0 })
abbrev mStr_length : xMd := (⟨"java/lang/String", "length", "()I"⟩, cStr_length, 1, (some .int), { frames := 1, cells := 0, slots := 0, locals := 20 })
abbrev mStr_check3 : xMd := (⟨"jdk/internal/util/Preconditions", "checkIndex", "(IILjava/util/function/BiFunction;)I"⟩, cStr_check3, 3, (some .int), { frames := 0, cells := 0, slots := 0, locals := 0 })
abbrev mStr_check2 : xMd := (⟨"java/lang/String", "checkIndex", "(II)V"⟩, cStr_check2, 2, none, { frames := 1, cells := 0, slots := 0, locals := 22 })
abbrev mStr_latCharAt : xMd := (⟨"java/lang/StringLatin1", "charAt", "([BI)C"⟩, cStr_latCharAt, 2, (some .char), { frames := 2, cells := 0, slots := 0, locals := 43 })
abbrev mStr_charAt : xMd := (⟨"java/lang/String", "charAt", "(I)C"⟩, cStr_charAt, 2, (some .char), { frames := 3, cells := 0, slots := 0, locals := 64 })
theorem twStr_ccoder : Cond.code ⟨"java/lang/String", "coder", "()B"⟩ cStr_coder 1 (some .byte) ∈ gtbl := gtt_4 189 rfl rfl
theorem twStr_icoder : Cond.initialized "java/lang/String" ∈ gtbl := gtt_1 11 rfl rfl
theorem twStr_ncoder : Cond.instanceMethod ⟨"java/lang/String", "coder", "()B"⟩ ∈ gtbl := gtt_4 187 rfl rfl
theorem twStr_ecoder : Cond.selects "java/lang/String" ⟨"java/lang/String", "coder", "()B"⟩ ⟨"java/lang/String", "coder", "()B"⟩ ∈ gtbl := gtt_4 188 rfl rfl
theorem mkStr_coder : xMkV mStr_coder 0 := ⟨⟨twStr_ccoder, twStr_icoder, ⟨by decide, by decide⟩, by decide +kernel⟩, twStr_ncoder, twStr_ecoder⟩
theorem twStr_cisLatin1 : Cond.code ⟨"java/lang/String", "isLatin1", "()Z"⟩ cStr_isLatin1 1 (some .boolean) ∈ gtbl := gtt_5 210 rfl rfl
theorem twStr_iisLatin1 : Cond.initialized "java/lang/String" ∈ gtbl := gtt_1 11 rfl rfl
theorem twStr_nisLatin1 : Cond.instanceMethod ⟨"java/lang/String", "isLatin1", "()Z"⟩ ∈ gtbl := gtt_5 208 rfl rfl
theorem twStr_eisLatin1 : Cond.selects "java/lang/String" ⟨"java/lang/String", "isLatin1", "()Z"⟩ ⟨"java/lang/String", "isLatin1", "()Z"⟩ ∈ gtbl := gtt_5 209 rfl rfl
theorem mkStr_isLatin1 : xMkV mStr_isLatin1 0 := ⟨⟨twStr_cisLatin1, twStr_iisLatin1, ⟨by decide, by decide⟩, by decide +kernel⟩, twStr_nisLatin1, twStr_eisLatin1⟩
theorem twStr_clength : Cond.code ⟨"java/lang/String", "length", "()I"⟩ cStr_length 1 (some .int) ∈ gtbl := gtt_4 185 rfl rfl
theorem twStr_ilength : Cond.initialized "java/lang/String" ∈ gtbl := gtt_1 11 rfl rfl
theorem twStr_nlength : Cond.instanceMethod ⟨"java/lang/String", "length", "()I"⟩ ∈ gtbl := gtt_4 183 rfl rfl
theorem twStr_elength : Cond.selects "java/lang/String" ⟨"java/lang/String", "length", "()I"⟩ ⟨"java/lang/String", "length", "()I"⟩ ∈ gtbl := gtt_4 184 rfl rfl
theorem mkStr_length : xMkV mStr_length 0 := ⟨⟨twStr_clength, twStr_ilength, ⟨by decide, by decide⟩, by decide +kernel⟩, twStr_nlength, twStr_elength⟩
theorem twStr_ccheck3 : Cond.code ⟨"jdk/internal/util/Preconditions", "checkIndex", "(IILjava/util/function/BiFunction;)I"⟩ cStr_check3 3 (some .int) ∈ gtbl := gtt_5 219 rfl rfl
theorem twStr_icheck3 : Cond.initialized "jdk/internal/util/Preconditions" ∈ gtbl := gtt_1 28 rfl rfl
theorem twStr_scheck3 : Cond.static ⟨"jdk/internal/util/Preconditions", "checkIndex", "(IILjava/util/function/BiFunction;)I"⟩ ∈ gtbl := gtt_5 218 rfl rfl
theorem mkStr_check3 : xMkS mStr_check3 3 := ⟨⟨twStr_ccheck3, twStr_icheck3, ⟨by decide, by decide⟩, by decide +kernel⟩, twStr_scheck3⟩
theorem twStr_ccheck2 : Cond.code ⟨"java/lang/String", "checkIndex", "(II)V"⟩ cStr_check2 2 none ∈ gtbl := gtt_5 216 rfl rfl
theorem twStr_icheck2 : Cond.initialized "java/lang/String" ∈ gtbl := gtt_1 11 rfl rfl
theorem twStr_scheck2 : Cond.static ⟨"java/lang/String", "checkIndex", "(II)V"⟩ ∈ gtbl := gtt_5 215 rfl rfl
theorem mkStr_check2 : xMkS mStr_check2 2 := ⟨⟨twStr_ccheck2, twStr_icheck2, ⟨by decide, by decide⟩, by decide +kernel⟩, twStr_scheck2⟩
theorem twStr_clatCharAt : Cond.code ⟨"java/lang/StringLatin1", "charAt", "([BI)C"⟩ cStr_latCharAt 2 (some .char) ∈ gtbl := gtt_5 213 rfl rfl
theorem twStr_ilatCharAt : Cond.initialized "java/lang/StringLatin1" ∈ gtbl := gtt_1 29 rfl rfl
theorem twStr_slatCharAt : Cond.static ⟨"java/lang/StringLatin1", "charAt", "([BI)C"⟩ ∈ gtbl := gtt_5 212 rfl rfl
theorem mkStr_latCharAt : xMkS mStr_latCharAt 2 := ⟨⟨twStr_clatCharAt, twStr_ilatCharAt, ⟨by decide, by decide⟩, by decide +kernel⟩, twStr_slatCharAt⟩
theorem twStr_ccharAt : Cond.code ⟨"java/lang/String", "charAt", "(I)C"⟩ cStr_charAt 2 (some .char) ∈ gtbl := gtt_5 206 rfl rfl
theorem twStr_icharAt : Cond.initialized "java/lang/String" ∈ gtbl := gtt_1 11 rfl rfl
theorem twStr_ncharAt : Cond.instanceMethod ⟨"java/lang/String", "charAt", "(I)C"⟩ ∈ gtbl := gtt_5 204 rfl rfl
theorem twStr_echarAt : Cond.selects "java/lang/String" ⟨"java/lang/String", "charAt", "(I)C"⟩ ⟨"java/lang/String", "charAt", "(I)C"⟩ ∈ gtbl := gtt_5 205 rfl rfl
theorem mkStr_charAt : xMkV mStr_charAt 1 := ⟨⟨twStr_ccharAt, twStr_icharAt, ⟨by decide, by decide⟩, by decide +kernel⟩, twStr_ncharAt, twStr_echarAt⟩
theorem twStr_compact : Cond.fieldLink "java/lang/String" 38 "java/lang/String" "COMPACT_STRINGS" "Z" ∈ gtbl := gtt_4 190 rfl rfl
theorem twStr_coderf : Cond.fieldLink "java/lang/String" 15 "java/lang/String" "coder" "B" ∈ gtbl := gtt_5 134 rfl rfl
theorem twStr_value : Cond.fieldLink "java/lang/String" 9 "java/lang/String" "value" "[B" ∈ gtbl := gtt_5 133 rfl rfl
theorem twStr_fmt : Cond.fieldLink "java/lang/String" 1053 "jdk/internal/util/Preconditions" "SIOOBE_FORMATTER" "Ljava/util/function/BiFunction;" ∈ gtbl := gtt_4 168 rfl rfl
theorem twStr_lcoder : Cond.methodLink "java/lang/String" 335 ⟨"java/lang/String", "coder", "()B"⟩ ∈ gtbl := gtt_4 186 rfl rfl
theorem twStr_lisLatin1 : Cond.methodLink "java/lang/String" 492 ⟨"java/lang/String", "isLatin1", "()Z"⟩ ∈ gtbl := gtt_5 207 rfl rfl
theorem twStr_llatCharAt : Cond.methodLink "java/lang/String" 495 ⟨"java/lang/StringLatin1", "charAt", "([BI)C"⟩ ∈ gtbl := gtt_5 211 rfl rfl
theorem twStr_lcheck3 : Cond.methodLink "java/lang/String" 1059 ⟨"jdk/internal/util/Preconditions", "checkIndex", "(IILjava/util/function/BiFunction;)I"⟩ ∈ gtbl := gtt_5 217 rfl rfl
theorem twStr_lcheck2 : Cond.methodLink "java/lang/StringLatin1" 9 ⟨"java/lang/String", "checkIndex", "(II)V"⟩ ∈ gtbl := gtt_5 214 rfl rfl
section XS
variable {L : xLay}
theorem tStr_coder (hS : xStrL L) {s : Nat} (hs : s < strN) (w : xW) : xJ ιI mStr_coder L (0, 0) 0 [(0, .ref (1000 + s))] [] w (some (0, w)) := by
  refine xj_gsv (v := .int 1) dStr_coder_0 twStr_compact (fun G A U H h => (hS G A U H h).2.1) ?_
  refine xj_eq (r2 := if (1 : Int32) = 0 then none else some (0, w)) rfl ?_
  refine xj_ifeq (tgt := 13) dStr_coder_3 rfl xj_none ?_
  refine xj_aloadn 0 dStr_coder_6 rfl rfl ?_
  refine xj_gfs (v := .int 0) dStr_coder_7 twStr_coderf (fun G A U H h => ((hS G A U H h).1 s hs).2.1) ?_
  refine xj_goto (tgt := 14) dStr_coder_10 rfl ?_
  exact xj_end rfl ⟨dStr_coder_14, .byte, rfl, rfl⟩ (fun _ => rfl)
theorem kStr_coder (hL : xLok L) (hS : xStrL L) {s : Nat} (hs : s < strN) (w : xW) : xMet jI mStr_coder L (0, 0) [.ref (1000 + s)] w (some (0, w)) := xj_met hL (by decide) (Nat.le_of_ble_eq_true rfl) (Nat.zero_le _) (Nat.zero_le _) (tStr_coder hS hs w)
theorem tStr_isLatin1 (hS : xStrL L) {s : Nat} (hs : s < strN) (w : xW) : xJ ιI mStr_isLatin1 L (0, 0) 0 [(0, .ref (1000 + s))] [] w (some (1, w)) := by
  refine xj_gsv (v := .int 1) dStr_isLatin1_0 twStr_compact (fun G A U H h => (hS G A U H h).2.1) ?_
  refine xj_eq (r2 := if (1 : Int32) = 0 then none else some (1, w)) rfl ?_
  refine xj_ifeq (tgt := 17) dStr_isLatin1_3 rfl xj_none ?_
  refine xj_aloadn 0 dStr_isLatin1_6 rfl rfl ?_
  refine xj_gfs (v := .int 0) dStr_isLatin1_7 twStr_coderf (fun G A U H h => ((hS G A U H h).1 s hs).2.1) ?_
  refine xj_eq (r2 := if (0 : Int32) = 0 then some (1, w) else none) rfl ?_
  refine xj_ifne (tgt := 17) dStr_isLatin1_10 rfl ?_ xj_none
  refine xj_iconst (v := 1) dStr_isLatin1_13 (by decide) ?_
  refine xj_goto (tgt := 18) dStr_isLatin1_14 rfl ?_
  exact xj_rz dStr_isLatin1_18 rfl (Or.inr rfl)
theorem kStr_isLatin1 (hL : xLok L) (hS : xStrL L) {s : Nat} (hs : s < strN) (w : xW) : xMet jI mStr_isLatin1 L (0, 0) [.ref (1000 + s)] w (some (1, w)) := xj_met hL (by decide) (Nat.le_of_ble_eq_true rfl) (Nat.zero_le _) (Nat.zero_le _) (tStr_isLatin1 hS hs w)
theorem tStr_length (hL : xLok L) (hS : xStrL L) {s : Nat} (hs : s < strN) (w : xW) : xJ ιI mStr_length L (0, 0) 0 [(0, .ref (1000 + s))] [] w (some (strLen s, w)) := by
  refine xj_aloadn 0 dStr_length_0 rfl rfl ?_
  refine xj_gfs (v := .ref (1500 + s)) dStr_length_1 twStr_value (fun G A U H h => ((hS G A U H h).1 s hs).2.2.1) ?_
  refine xj_alens (f := fun _ j => .int (strCh s j)) dStr_length_4 (fun G A U H h => ((hS G A U H h).1 s hs).2.2.2) ?_
  refine xj_aloadn 0 dStr_length_5 rfl rfl ?_
  refine xj_eq (r2 := xbd (some ((0 : Int32), w)) (fun x w1 => some (nI (strLenN s) >>> (x &&& 31), w1))) (by show some _ = some _; rw [sb_shr0]; rfl) ?_
  refine xj_cTi (argv := []) (rest := [.int (nI (strLenN s))]) dStr_length_6 (kStr_coder hL hS hs w) mkStr_coder twStr_lcoder rfl (fun G A U H h => ((hS G A U H h).1 s hs).1) rfl rfl rfl (fun x w1 _ => ?_)
  refine xj_ishr dStr_length_9 ?_
  exact xj_ri dStr_length_10 rfl
theorem kStr_length (hL : xLok L) (hS : xStrL L) {s : Nat} (hs : s < strN) (w : xW) : xMet jI mStr_length L (0, 0) [.ref (1000 + s)] w (some (strLen s, w)) := xj_met hL (by decide) (Nat.le_of_ble_eq_true rfl) (Nat.zero_le _) (Nat.zero_le _) (tStr_length hL hS hs w)
theorem tStr_check3 {i n : Int32} (hi : ¬ i < 0) (hn : i < n) (z : Value) (w : xW) : xJ ιI mStr_check3 L (0, 0) 0 [(0, .int i), (1, .int n), (2, z)] [] w (some (i, w)) := by
  refine xj_iloadn 0 dStr_check3_0 rfl rfl ?_
  refine xj_eq (r2 := if i < 0 then none else some (i, w)) (by rw [if_neg hi]) ?_
  refine xj_iflt (tgt := 9) dStr_check3_1 rfl xj_none ?_
  refine xj_iloadn 0 dStr_check3_4 rfl rfl ?_
  refine xj_iloadn 1 dStr_check3_5 rfl rfl ?_
  refine xj_eq (r2 := if i < n then some (i, w) else none) (by rw [if_pos hn]) ?_
  refine xj_ilt (tgt := 16) dStr_check3_6 rfl ?_ xj_none
  refine xj_iloadn 0 dStr_check3_16 rfl rfl ?_
  exact xj_ri dStr_check3_17 rfl
theorem tStr_check2 (hL : xLok L) (hS : xStrL L) {i n : Int32} (hi : ¬ i < 0) (hn : i < n) (w : xW) : xJ ιV mStr_check2 L (0, 0) 0 [(0, .int i), (1, .int n)] [] w (some ((), w)) := by
  have go : ∀ z : Value, z.category = 1 → lv_args 0 [.int i, .int n, z] = [(0, .int i), (1, .int n), (2, z)] → (lg_sl [.int i, .int n, z]).length ≤ 3 → xJ ιV mStr_check2 L (0, 0) 5 [(0, .int i), (1, .int n)] [z, .int n, .int i] w (some ((), w)) := fun z hz h1 h2 => by
    have hk : xMet jI mStr_check3 L (0, 0) [.int i, .int n, z] w (some (i, w)) := xj_met hL (by decide) h2 (Nat.zero_le _) (Nat.zero_le _) (by rw [h1]; exact tStr_check3 hi hn z w)
    refine xj_eq (r2 := xbd (some (i, w)) (fun _ w1 => some ((), w1))) rfl ?_
    refine xj_cSi (argv := [.int i, .int n, z]) (rest := []) dStr_check2_5 hk mkStr_check3 twStr_lcheck3 rfl rfl rfl rfl (fun x w1 => ?_)
    refine xj_pop dStr_check2_8 rfl ?_
    exact xj_rv dStr_check2_9 rfl
  refine xj_iloadn 0 dStr_check2_0 rfl rfl ?_
  refine xj_iloadn 1 dStr_check2_1 rfl rfl ?_
  exact xj_gs2 (v1 := .null) (v2 := .ref 3010) dStr_check2_2 twStr_fmt (fun G A U H h => (hS G A U H h).2.2) (go .null rfl rfl (Nat.le_of_ble_eq_true rfl)) (go (.ref 3010) rfl rfl (Nat.le_of_ble_eq_true rfl))
theorem kStr_check2 (hL : xLok L) (hS : xStrL L) {i n : Int32} (hi : ¬ i < 0) (hn : i < n) (w : xW) : xMet jV mStr_check2 L (0, 0) [.int i, .int n] w (some ((), w)) := xj_met hL (by decide) (Nat.le_of_ble_eq_true rfl) (Nat.zero_le _) (Nat.zero_le _) (tStr_check2 hL hS hi hn w)
theorem xin_of_nI {i : Int32} {n : Nat} (hn : n < 2 ^ 31) (h : xin i n) : i < nI n := by
  rw [Int32.lt_iff_toInt_lt, nI_toInt hn]
  have h1 := h.1
  have h2 := h.2
  rw [Int32.lt_iff_toInt_lt, Int32.toInt_zero] at h1
  have e : i.toNatClampNeg = i.toInt.toNat := rfl
  rw [e] at h2
  omega
theorem tStr_latCharAt (hL : xLok L) (hS : xStrL L) {s : Nat} (hs : s < strN) {i : Int32} (hi : xin i (strLenN s)) (w : xW) : xJ ιI mStr_latCharAt L (0, 0) 0 [(0, .ref (1500 + s)), (1, .int i)] [] w (some (strAt s i, w)) := by
  have hok := strOk s hs
  refine xj_iloadn 1 dStr_latCharAt_0 rfl rfl ?_
  refine xj_aloadn 0 dStr_latCharAt_1 rfl rfl ?_
  refine xj_alens (f := fun _ j => .int (strCh s j)) dStr_latCharAt_2 (fun G A U H h => ((hS G A U H h).1 s hs).2.2.2) ?_
  refine xj_eq (r2 := xbd (some ((), w)) (fun _ w1 => some (strAt s i, w1))) rfl ?_
  refine xj_cSv (argv := [.int i, .int (nI (strLenN s))]) (rest := []) dStr_latCharAt_3 (kStr_check2 hL hS hi.1 (xin_of_nI (by omega) hi) w) mkStr_check2 twStr_lcheck2 rfl rfl rfl rfl (fun _ w1 => ?_)
  refine xj_aloadn 0 dStr_latCharAt_6 rfl rfl ?_
  refine xj_iloadn 1 dStr_latCharAt_7 rfl rfl ?_
  refine xj_balds (f := fun j => strCh s j) dStr_latCharAt_8 hi (fun G A U H h => ((hS G A U H h).1 s hs).2.2.2) ?_
  refine xj_sipush (v := 255) dStr_latCharAt_9 (by decide) ?_
  refine xj_iand dStr_latCharAt_12 ?_
  refine xj_i2c dStr_latCharAt_13 ?_
  have e1 := (hok.2 i.toNatClampNeg hi.2).2.1
  have e2 := (hok.2 i.toNatClampNeg hi.2).2.2
  show xJ ιI _ L (0, 0) 14 _ [.int (((strCh s i.toNatClampNeg) &&& 255).toUInt32 % 65536).toInt32] w1 _
  rw [e1, e2]
  exact xj_end rfl ⟨dStr_latCharAt_14, .char, rfl, by show narrow .char (.int (strCh s i.toNatClampNeg)) = .int (strCh s i.toNatClampNeg); rw [← e2]; exact pk_nc _⟩ (fun _ => rfl)
theorem kStr_latCharAt (hL : xLok L) (hS : xStrL L) {s : Nat} (hs : s < strN) {i : Int32} (hi : xin i (strLenN s)) (w : xW) : xMet jI mStr_latCharAt L (0, 0) [.ref (1500 + s), .int i] w (some (strAt s i, w)) := xj_met hL (by decide) (Nat.le_of_ble_eq_true rfl) (Nat.zero_le _) (Nat.zero_le _) (tStr_latCharAt hL hS hs hi w)
theorem tStr_charAt (hL : xLok L) (hS : xStrL L) {s : Nat} (hs : s < strN) {i : Int32} (hi : xin i (strLenN s)) (w : xW) : xJ ιI mStr_charAt L (0, 0) 0 [(0, .ref (1000 + s)), (1, .int i)] [] w (some (strAt s i, w)) := by
  have hok := strOk s hs
  refine xj_aloadn 0 dStr_charAt_0 rfl rfl ?_
  refine xj_eq (r2 := xbd (some ((1 : Int32), w)) (fun x w1 => if x = 0 then none else some (strAt s i, w1))) rfl ?_
  refine xj_cTi (argv := []) (rest := []) dStr_charAt_1 (kStr_isLatin1 hL hS hs w) mkStr_isLatin1 twStr_lisLatin1 rfl (fun G A U H h => ((hS G A U H h).1 s hs).1) rfl rfl rfl (fun x w1 _ => ?_)
  refine xj_ifeq (tgt := 16) dStr_charAt_4 rfl xj_none ?_
  refine xj_aloadn 0 dStr_charAt_7 rfl rfl ?_
  refine xj_gfs (v := .ref (1500 + s)) dStr_charAt_8 twStr_value (fun G A U H h => ((hS G A U H h).1 s hs).2.2.1) ?_
  refine xj_iloadn 1 dStr_charAt_11 rfl rfl ?_
  refine xj_eq (r2 := xbd (some (strAt s i, w1)) (fun y w2 => if vp_nar .char y = y then some (y, w2) else none)) ?_ ?_
  · have e2 := (hok.2 i.toNatClampNeg hi.2).2.2
    show some (strAt s i, w1) = if vp_nar .char (strAt s i) = strAt s i then some (strAt s i, w1) else none
    rw [if_pos]
    show vp_nar .char (strCh s i.toNatClampNeg) = strCh s i.toNatClampNeg
    rw [← e2]; exact pk_vc _
  refine xj_cSi (argv := [.ref (1500 + s), .int i]) (rest := []) dStr_charAt_12 (kStr_latCharAt hL hS hs hi w1) mkStr_latCharAt twStr_llatCharAt rfl rfl rfl rfl (fun y w2 => ?_)
  refine xj_guard (fun hy => ?_)
  have hn : narrow .char (.int y) = .int y := by
    have h0 : ∃ z, narrow .char (.int y) = .int z := ⟨_, rfl⟩
    obtain ⟨z, hz⟩ := h0
    unfold vp_nar at hy
    rw [hz] at hy
    rw [hz, ← hy]
  exact xj_end rfl ⟨dStr_charAt_15, .char, rfl, hn⟩ (fun _ => rfl)
theorem kStr_charAt (hL : xLok L) (hS : xStrL L) {s : Nat} (hs : s < strN) {i : Int32} (hi : xin i (strLenN s)) (w : xW) : xMet jI mStr_charAt L (0, 0) [.ref (1000 + s), .int i] w (some (strAt s i, w)) := xj_met hL (by decide) (Nat.le_of_ble_eq_true rfl) (Nat.zero_le _) (Nat.zero_le _) (tStr_charAt hL hS hs hi w)
end XS
section XS2
variable {ρ : Type} {ι : ρ → xO × xW} {M : xMd} {L : xLay} {b : Nat × Nat} {pc : Nat} {lv : List (Nat × Value)} {st : List Value} {w : xW} {r : Option ρ}
theorem xj_slen {s idx : Nat} {rest : List Value} (hL : xLok L) (hS : xStrL L) (hd : decode M.2.1 pc = .ok (.invokevirtual idx, 3)) (hlink : Cond.methodLink M.1.cls idx mStr_length.1 ∈ gtbl) (hf : xfit0 M mStr_length = true) (hsum : Nat.ble (rest.map fun v => v.category).sum 8 = true)
    (kk : xJ ι M L b (pc + 3) lv (.int (strLen s) :: rest) w r) : xJ ι M L b pc lv (.ref (1000 + s) :: rest) w (if s < strN then r else none) := by
  refine xj_guard (fun hs => ?_)
  refine xj_eq (r2 := xbd (some (strLen s, w)) (fun _ _ => r)) rfl ?_
  refine xj_cTi (argv := []) (rest := rest) hd (kStr_length hL hS hs w) mkStr_length hlink hf (fun G A U H h => ((hS G A U H h).1 s hs).1) rfl rfl hsum (fun x w1 hx => ?_)
  cases hx
  exact kk
theorem xj_schar {s idx : Nat} {i : Int32} {rest : List Value} (hL : xLok L) (hS : xStrL L) (hd : decode M.2.1 pc = .ok (.invokevirtual idx, 3)) (hlink : Cond.methodLink M.1.cls idx mStr_charAt.1 ∈ gtbl) (hf : xfit0 M mStr_charAt = true) (hsum : Nat.ble (rest.map fun v => v.category).sum 8 = true)
    (kk : xJ ι M L b (pc + 3) lv (.int (strAt s i) :: rest) w r) : xJ ι M L b pc lv (.int i :: .ref (1000 + s) :: rest) w (if s < strN ∧ xin i (strLenN s) then r else none) := by
  refine xj_guard (fun hs => ?_)
  refine xj_eq (r2 := xbd (some (strAt s i, w)) (fun _ _ => r)) rfl ?_
  refine xj_cTi (argv := [.int i]) (rest := rest) hd (kStr_charAt hL hS hs.1 hs.2 w) mkStr_charAt hlink hf (fun G A U H h => ((hS G A U H h).1 s hs.1).1) rfl rfl hsum (fun x w1 hx => ?_)
  cases hx
  exact kk
theorem xj_lds {own tx : String} {idx s : Nat} (hd : decode M.2.1 pc = .ok (.ldc idx, 2)) (hM : M.1.cls = own) (hR : ∀ (G : xG) (A : Nat → Prop) (U : State) (H : Heap), L.2.2.2.2 G A U H → vk_R own idx tx (G.2.2 (1000 + s)) U) (kk : xJ ι M L b (pc + 2) lv (.ref (1000 + s) :: st) w r) : xJ ι M L b pc lv st w r := by
  intro o ho X G A ex H locs ls cells slots Q Cx P hl hc hs hend
  exact va_ldcS Cx.1 Cx.2.1 (by rw [← hM]; exact Cx.2.2.2.1) (hR G A _ _ Cx.2.2.2.2.2.2.2.1) hd (kk o ho X G A ex H locs ls cells slots Q Cx P hl hc hs hend)
theorem xj_ldsw {own tx : String} {idx s : Nat} (hd : decode M.2.1 pc = .ok (.ldc_w idx, 3)) (hM : M.1.cls = own) (hR : ∀ (G : xG) (A : Nat → Prop) (U : State) (H : Heap), L.2.2.2.2 G A U H → vk_R own idx tx (G.2.2 (1000 + s)) U) (kk : xJ ι M L b (pc + 3) lv (.ref (1000 + s) :: st) w r) : xJ ι M L b pc lv st w r := by
  intro o ho X G A ex H locs ls cells slots Q Cx P hl hc hs hend
  have hZ := hR G A _ _ Cx.2.2.2.2.2.2.2.1
  intro T hT XX
  obtain ⟨t, a1, b1⟩ := (kk o ho X G A ex H locs ls cells slots Q Cx P hl hc hs hend) T hT XX
  exact ⟨t, XX.ldcStringW Cx.1 (own := own) (text := tx) (index := idx) (a := G.2.2 (1000 + s)) (by rw [← hM]; exact Cx.2.2.2.1) hZ.1 hZ.2 (g := xF X pc ls (st.map (xv G))) rfl (by rw [Cx.2.1]; exact hd) t a1, b1⟩
end XS2
