/-! the worlds at the start -/
def w00 : xW := (fun k i => match k with
  | 20 => upd (fun _ => 0) (4 : Int32).toNatClampNeg 131072 i
  | 8 => if i = 11 then 4096 else 0
  | 4 => if i = 11 then -1 else 0
  | 7 => if i = 6 then 65536 else 0
  | 2 => if i = 0 then 50 else 0
  | _ => 0, fun _ _ => 0)
def gC0 (dC : Nat → ClassId) (dI : Nat → Nat → Nat) (cA : Nat → ClassId) (ad : Nat → Nat) (h0 q1 q2 q3 q4 q5 q6 q7 q8 q9 q10 q11 q12 q14 q15 q16 q17 q18 q19 q20 q21 q22 q23 q24 : Nat) : xG := ((dC, dI), cA, fun k => match k with
  | 0 => h0
  | 1 => q1
  | 2 => q3
  | 3 => q4
  | 4 => q5
  | 5 => q11
  | 6 => q14
  | 7 => q16
  | 8 => q19
  | 9 => q20
  | 10 => q2
  | 11 => q24
  | 12 => q6
  | 13 => q7
  | 14 => q8
  | 15 => q9
  | 16 => q10
  | 17 => q15
  | 18 => q17
  | 19 => q18
  | 20 => q21
  | 21 => q22
  | 22 => q23
  | 30 => q12
  | k => ad k)
set_option maxRecDepth 20000 in
theorem start_c {dC : Nat → ClassId} {dI : Nat → Nat → Nat} {A : Nat → Prop} {h0 : Nat} {cA : Nat → ClassId} {ad : Nat → Nat} {t : State} (hKA : ∀ a, (va_RA t a .int → a = cA 0) ∧ (va_RA t a .byte → a = cA 1) ∧ (va_RA t a .boolean → a = cA 2)) (h : atX11_init dC dI A h0 (ad 2050) t) :
    ∃ (Gc : xG) (ex : va_W), Gc.1 = (dC, dI) ∧ Gc.2.1 = cA ∧ Gc.2.2 0 = h0 ∧ (∀ k, 1000 ≤ k → Gc.2.2 k = ad k) ∧ va_P Gc.1 (xcl lC) (xws lC Gc w00 ++ ex) t.heap ∧ va_D A (xws lC Gc w00 ++ ex) ∧ eC w00 Gc ex := by
  obtain ⟨q1, q2, q3, q4, q5, q6, q7, q8, q9, q10, q11, q12, q13, q14, q15, q16, q17, q18, q19, q20, q21, q22, q23, q24, a1, a2, a3, a4, a5, a6, a7, a8, a9, a10, a11, a12, a13, a14, hP, hK, hD⟩ := h
  have i0 : ∀ {k : Nat} {a : ClassId}, [(a1, FieldType.byte), (a2, .int), (a3, .int), (a4, .int), (a5, .int), (a6, .int), (a7, .byte), (a8, .byte), (a9, .byte), (a10, .byte), (a11, .int), (a12, .int), (a13, .int), (a14, .boolean)][k]? = some (a, .int) → a = cA 0 := fun hk => (hKA _).1 (hK.2 _ _ hk).2
  have i1 : ∀ {k : Nat} {a : ClassId}, [(a1, FieldType.byte), (a2, .int), (a3, .int), (a4, .int), (a5, .int), (a6, .int), (a7, .byte), (a8, .byte), (a9, .byte), (a10, .byte), (a11, .int), (a12, .int), (a13, .int), (a14, .boolean)][k]? = some (a, .byte) → a = cA 1 := fun hk => (hKA _).2.1 (hK.2 _ _ hk).2
  have i2 : ∀ {k : Nat} {a : ClassId}, [(a1, FieldType.byte), (a2, .int), (a3, .int), (a4, .int), (a5, .int), (a6, .int), (a7, .byte), (a8, .byte), (a9, .byte), (a10, .byte), (a11, .int), (a12, .int), (a13, .int), (a14, .boolean)][k]? = some (a, .boolean) → a = cA 2 := fun hk => (hKA _).2.2 (hK.2 _ _ hk).2
  cases i1 (k := 0) rfl
  cases i0 (k := 1) rfl
  cases i0 (k := 2) rfl
  cases i0 (k := 3) rfl
  cases i0 (k := 4) rfl
  cases i0 (k := 5) rfl
  cases i1 (k := 6) rfl
  cases i1 (k := 7) rfl
  cases i1 (k := 8) rfl
  cases i1 (k := 9) rfl
  cases i0 (k := 10) rfl
  cases i0 (k := 11) rfl
  cases i0 (k := 12) rfl
  cases i2 (k := 13) rfl
  refine ⟨gC0 dC dI cA ad h0 q1 q2 q3 q4 q5 q6 q7 q8 q9 q10 q11 q12 q14 q15 q16 q17 q18 q19 q20 q21 q22 q23 q24, [(q12, .inr (10, [.ref q13, .int 0, .int 0, .int 0])), (q13, .inl (cA 1, 16, .inl fun _ => 0))], rfl, rfl, rfl, fun k hk => ?_, ?_, ?_, q13, 0, 16, fun _ => 0, 0, rfl, by decide, by decide, rfl, ?_, fun j hj => absurd hj (Nat.not_lt_zero j)⟩
  · obtain ⟨j, rfl⟩ : ∃ j, k = j + 1000 := ⟨k - 1000, by omega⟩
    rfl
  · exact hP.sub [0, 1, 3, 4, 5, 11, 14, 16, 19, 20, 2, 24, 6, 7, 8, 9, 10, 15, 17, 18, 21, 22, 23, 12, 13] rfl
  · exact hD.sub [0, 1, 3, 4, 5, 11, 14, 16, 19, 20, 2, 24, 6, 7, 8, 9, 10, 15, 17, 18, 21, 22, 23, 12, 13] (by decide) rfl
  · exact fun _ => (show fits .byte (.int 0) = true from by decide)
/-! the reference's world at the start -/
def m00 : xW := (fun k i => match k with
  | 0 => if i = 11 then -1 else if i = 34 then 4096 else if i = 42 then 65536 else 0
  | 9 => upd (upd (upd (upd (upd (upd (upd (upd (fun _ => 0) (0 : Int32).toNatClampNeg 0) (1 : Int32).toNatClampNeg 0) (2 : Int32).toNatClampNeg 0) (3 : Int32).toNatClampNeg 0) (4 : Int32).toNatClampNeg 131072) (5 : Int32).toNatClampNeg 0) (6 : Int32).toNatClampNeg 0) (7 : Int32).toNatClampNeg 0 i
  | _ => 0, fun _ _ => 0)
def gM0 (dC : Nat → ClassId) (dI : Nat → Nat → Nat) (cA : Nat → ClassId) (ad : Nat → Nat) (h0 q1 q2 q3 q4 q5 q6 q7 q8 q9 q10 : Nat) : xG := ((dC, dI), cA, fun k => match k with
  | 0 => h0
  | 1 => q1
  | 2 => q2
  | 3 => q3
  | 4 => q4
  | 5 => q5
  | 6 => q6
  | 7 => q7
  | 8 => q8
  | 9 => q9
  | 10 => q10
  | k => ad k)
set_option maxRecDepth 20000 in
theorem start_m {dC : Nat → ClassId} {dI : Nat → Nat → Nat} {A : Nat → Prop} {h0 : Nat} {cA : Nat → ClassId} {ad : Nat → Nat} {t : State} (hKA : ∀ a, (va_RA t a .int → a = cA 0) ∧ (va_RA t a .byte → a = cA 1) ∧ (va_RA t a .boolean → a = cA 2)) (h : atX12 dC dI A h0 t) :
    ∃ Gm : xG, Gm.1 = (dC, dI) ∧ Gm.2.1 = cA ∧ Gm.2.2 0 = h0 ∧ (∀ k, 1000 ≤ k → Gm.2.2 k = ad k) ∧ va_P Gm.1 (xcl lM) (xws lM Gm m00 ++ []) t.heap ∧ va_D A (xws lM Gm m00 ++ []) := by
  obtain ⟨q1, q2, q3, q4, q5, q6, q7, q8, q9, q10, a1, a2, a3, a4, a5, a6, a7, a8, a9, a10, hP, hK, hD⟩ := h
  have i0 : ∀ {k : Nat} {a : ClassId}, [(a1, FieldType.int), (a2, .int), (a3, .int), (a4, .int), (a5, .int), (a6, .int), (a7, .boolean), (a8, .int), (a9, .int), (a10, .int)][k]? = some (a, .int) → a = cA 0 := fun hk => (hKA _).1 (hK.2 _ _ hk).2
  have i2 : ∀ {k : Nat} {a : ClassId}, [(a1, FieldType.int), (a2, .int), (a3, .int), (a4, .int), (a5, .int), (a6, .int), (a7, .boolean), (a8, .int), (a9, .int), (a10, .int)][k]? = some (a, .boolean) → a = cA 2 := fun hk => (hKA _).2.2 (hK.2 _ _ hk).2
  cases i0 (k := 0) rfl
  cases i0 (k := 1) rfl
  cases i0 (k := 2) rfl
  cases i0 (k := 3) rfl
  cases i0 (k := 4) rfl
  cases i0 (k := 5) rfl
  cases i2 (k := 6) rfl
  cases i0 (k := 7) rfl
  cases i0 (k := 8) rfl
  cases i0 (k := 9) rfl
  refine ⟨gM0 dC dI cA ad h0 q1 q2 q3 q4 q5 q6 q7 q8 q9 q10, rfl, rfl, rfl, fun k hk => ?_, ?_, ?_⟩
  · obtain ⟨j, rfl⟩ : ∃ j, k = j + 1000 := ⟨k - 1000, by omega⟩
    rfl
  · exact hP.sub [0, 1, 2, 3, 4, 5, 6, 7, 8, 9, 10] rfl
  · exact hD.sub [0, 1, 2, 3, 4, 5, 6, 7, 8, 9, 10] (by decide) rfl
theorem start_KR : KR (fun _ => 0) 0 w00 m00 := by
  refine ⟨⟨rfl, by decide, fun i hi => absurd hi (Nat.not_lt_zero i), fun _ _ => rfl⟩, ⟨rfl, by decide, fun i hi => absurd hi (Nat.not_lt_zero i), fun _ _ => rfl⟩, fun i _ => (show (0 : Int32) &&& 255 = 0 from by decide), ⟨fun i => ?_, fun i => rfl, fun i => rfl, fun i => Or.inl rfl⟩, ⟨false, false, false, false, false, rfl, rfl, rfl, rfl, rfl, rfl⟩, ⟨rfl, rfl, rfl, rfl⟩, ⟨0, 0, 0, by decide, by decide, by decide, ⟨rfl, rfl⟩, ⟨rfl, rfl⟩, ⟨rfl, rfl⟩, ⟨rfl, rfl⟩, fun i _ => (show (0 : Int32) &&& 255 = 0 from by decide), fun i hi => absurd hi (Nat.not_lt_zero i)⟩, ⟨Or.inl rfl, rfl, rfl, ⟨0, by decide, rfl⟩, rfl, fun h => absurd h (by decide)⟩, ⟨0, by decide, rfl, rfl, fun j hj => absurd hj (Nat.not_lt_zero j)⟩⟩
  show upd (fun _ => 0) (4 : Int32).toNatClampNeg 131072 i = upd (upd (upd (upd (upd (upd (upd (upd (fun _ => 0) (0 : Int32).toNatClampNeg 0) (1 : Int32).toNatClampNeg 0) (2 : Int32).toNatClampNeg 0) (3 : Int32).toNatClampNeg 0) (4 : Int32).toNatClampNeg 131072) (5 : Int32).toNatClampNeg 0) (6 : Int32).toNatClampNeg 0) (7 : Int32).toNatClampNeg 0 i
  rw [show (4 : Int32).toNatClampNeg = 4 from by decide, show (0 : Int32).toNatClampNeg = 0 from by decide, show (1 : Int32).toNatClampNeg = 1 from by decide, show (2 : Int32).toNatClampNeg = 2 from by decide, show (3 : Int32).toNatClampNeg = 3 from by decide, show (5 : Int32).toNatClampNeg = 5 from by decide, show (6 : Int32).toNatClampNeg = 6 from by decide, show (7 : Int32).toNatClampNeg = 7 from by decide]
  unfold upd
  by_cases h : i = 4
  · subst h; decide
  · simp only [if_neg h]
    repeat' split
    all_goals rfl
