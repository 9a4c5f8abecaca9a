/-! more of the abstract machine: names for values, ends by the return type, calls that make nothing -/
def xlet {α β : Type} (e : α) (F : α → β) : β := F e
def xble (a c : Nat) : Bool := Nat.ble a c
def xfit0 (M M2 : xMd) : Bool := Nat.ble (M2.2.2.2.2.frames + 1) M.2.2.2.2.frames && (Nat.ble (8 + (M2.2.2.1 + 11) + M2.2.2.2.2.locals) M.2.2.2.2.locals && (Nat.beq M2.2.2.2.2.cells 0 && Nat.beq M2.2.2.2.2.slots 0))
theorem xfit0_ok {M M2 : xMd} (h : xfit0 M M2 = true) : xFitR M M2 (0, 0) := by
  unfold xfit0 at h
  rw [Bool.and_eq_true, Bool.and_eq_true, Bool.and_eq_true] at h
  exact ⟨Nat.le_of_ble_eq_true h.1, Nat.le_of_ble_eq_true h.2.1, Nat.eq_of_beq_eq_true h.2.2.1, Nat.eq_of_beq_eq_true h.2.2.2⟩
section XM
variable {ρ : Type} {ι : ρ → xO × xW} {M : xMd} {L : xLay} {b : Nat × Nat} {pc : Nat} {lv : List (Nat × Value)} {st : List Value} {w : xW} {r : Option ρ}
theorem xj_leti {e : Int32} {F : Int32 → Option ρ} (h : ∀ x : Int32, xJ ι M L b pc lv (.int x :: st) w (F x)) : xJ ι M L b pc lv (.int e :: st) w (xlet e F) := h e
theorem xj_letl {e : Int64} {F : Int64 → Option ρ} (h : ∀ x : Int64, xJ ι M L b pc lv (.long x :: st) w (F x)) : xJ ι M L b pc lv (.long e :: st) w (xlet e F) := h e
theorem xj_ri {v : Int32} (hd : decode M.2.1 pc = .ok (.ireturn, 1)) (hr : M.2.2.2.1 = some .int) : xJ ιI M L b pc lv [.int v] w (some (v, w)) := xj_end rfl ⟨hd, .int, hr, rfl⟩ (fun _ => rfl)
theorem xj_rz {v : Int32} (hd : decode M.2.1 pc = .ok (.ireturn, 1)) (hr : M.2.2.2.1 = some .boolean) (hz : xz v) : xJ ιI M L b pc lv [.int v] w (some (v, w)) := xj_end rfl ⟨hd, .boolean, hr, (xz_nar hz).1⟩ (fun _ => rfl)
theorem xj_rl {v : Int64} (hd : decode M.2.1 pc = .ok (.lreturn, 1)) (hr : M.2.2.2.1 = some .long) : xJ ιL M L b pc lv [.long v] w (some (v, w)) := xj_end rfl ⟨hd, hr⟩ (fun _ => rfl)
theorem xj_rv (hd : decode M.2.1 pc = .ok (.return_, 1)) (hr : M.2.2.2.1 = none) : xJ ιV M L b pc lv [] w (some ((), w)) := xj_end rfl ⟨hd, hr⟩ (fun _ => rfl)
variable {M2 : xMd} {n idx k ci N : Nat} {T : u_T} {argv rest : List Value}
theorem xj_cVi {rc : Option (Int32 × xW)} {F : Int32 → xW → Option ρ} (hd : decode M.2.1 pc = .ok (.invokevirtual idx, 3)) (hM : xMet jI M2 L (0, 0) (.ref k :: argv) w rc) (hmk : xMkV M2 n) (hlink : Cond.methodLink M.1.cls idx M2.1 ∈ gtbl) (hf : xfit0 M M2 = true) (hk : L.2.1[k]? = some (.inl ci)) (hc : L.1[ci]? = some (M2.1.cls, T, N)) (hn : argv.length = n) (hst : st = argv.reverse ++ .ref k :: rest) (hsum : Nat.ble (rest.map fun v => v.category).sum 8 = true)
    (kk : ∀ (x : Int32) (w1 : xW), xJ ι M L b (pc + 3) lv (.int x :: rest) w1 (F x w1)) : xJ ι M L b pc lv st w (xbd rc F) :=
  xj_callV (b2 := (0, 0)) (b3 := b) (fun x => [.int x]) (fun _ _ => rfl) (by show 0 + b.1 ≤ b.1; omega) (by show 0 + b.2 ≤ b.2; omega) hd hM hmk hlink (xfit0_ok hf) hk hc hn hst (Nat.le_of_ble_eq_true hsum) (fun x w1 _ => kk x w1)
theorem xj_cVl {rc : Option (Int64 × xW)} {F : Int64 → xW → Option ρ} (hd : decode M.2.1 pc = .ok (.invokevirtual idx, 3)) (hM : xMet jL M2 L (0, 0) (.ref k :: argv) w rc) (hmk : xMkV M2 n) (hlink : Cond.methodLink M.1.cls idx M2.1 ∈ gtbl) (hf : xfit0 M M2 = true) (hk : L.2.1[k]? = some (.inl ci)) (hc : L.1[ci]? = some (M2.1.cls, T, N)) (hn : argv.length = n) (hst : st = argv.reverse ++ .ref k :: rest) (hsum : Nat.ble (rest.map fun v => v.category).sum 8 = true)
    (kk : ∀ (x : Int64) (w1 : xW), xJ ι M L b (pc + 3) lv (.long x :: rest) w1 (F x w1)) : xJ ι M L b pc lv st w (xbd rc F) :=
  xj_callV (b2 := (0, 0)) (b3 := b) (fun x => [.long x]) (fun _ _ => rfl) (by show 0 + b.1 ≤ b.1; omega) (by show 0 + b.2 ≤ b.2; omega) hd hM hmk hlink (xfit0_ok hf) hk hc hn hst (Nat.le_of_ble_eq_true hsum) (fun x w1 _ => kk x w1)
theorem xj_cVv {rc : Option (Unit × xW)} {F : Unit → xW → Option ρ} (hd : decode M.2.1 pc = .ok (.invokevirtual idx, 3)) (hM : xMet jV M2 L (0, 0) (.ref k :: argv) w rc) (hmk : xMkV M2 n) (hlink : Cond.methodLink M.1.cls idx M2.1 ∈ gtbl) (hf : xfit0 M M2 = true) (hk : L.2.1[k]? = some (.inl ci)) (hc : L.1[ci]? = some (M2.1.cls, T, N)) (hn : argv.length = n) (hst : st = argv.reverse ++ .ref k :: rest) (hsum : Nat.ble (rest.map fun v => v.category).sum 8 = true)
    (kk : ∀ (x : Unit) (w1 : xW), xJ ι M L b (pc + 3) lv rest w1 (F x w1)) : xJ ι M L b pc lv st w (xbd rc F) :=
  xj_callV (b2 := (0, 0)) (b3 := b) (fun _ => []) (fun _ _ => rfl) (by show 0 + b.1 ≤ b.1; omega) (by show 0 + b.2 ≤ b.2; omega) hd hM hmk hlink (xfit0_ok hf) hk hc hn hst (Nat.le_of_ble_eq_true hsum) (fun x w1 _ => kk x w1)
theorem xj_cSi {rc : Option (Int32 × xW)} {F : Int32 → xW → Option ρ} (hd : decode M.2.1 pc = .ok (.invokestatic idx, 3)) (hM : xMet jI M2 L (0, 0) argv w rc) (hmk : xMkS M2 n) (hlink : Cond.methodLink M.1.cls idx M2.1 ∈ gtbl) (hf : xfit0 M M2 = true) (hn : argv.length = n) (hst : st = argv.reverse ++ rest) (hsum : Nat.ble (rest.map fun v => v.category).sum 8 = true)
    (kk : ∀ (x : Int32) (w1 : xW), xJ ι M L b (pc + 3) lv (.int x :: rest) w1 (F x w1)) : xJ ι M L b pc lv st w (xbd rc F) :=
  xj_callS (b2 := (0, 0)) (b3 := b) (fun x => [.int x]) (fun _ _ => rfl) (by show 0 + b.1 ≤ b.1; omega) (by show 0 + b.2 ≤ b.2; omega) hd hM hmk hlink (xfit0_ok hf) hn hst (Nat.le_of_ble_eq_true hsum) (fun x w1 _ => kk x w1)
theorem xj_cSl {rc : Option (Int64 × xW)} {F : Int64 → xW → Option ρ} (hd : decode M.2.1 pc = .ok (.invokestatic idx, 3)) (hM : xMet jL M2 L (0, 0) argv w rc) (hmk : xMkS M2 n) (hlink : Cond.methodLink M.1.cls idx M2.1 ∈ gtbl) (hf : xfit0 M M2 = true) (hn : argv.length = n) (hst : st = argv.reverse ++ rest) (hsum : Nat.ble (rest.map fun v => v.category).sum 8 = true)
    (kk : ∀ (x : Int64) (w1 : xW), xJ ι M L b (pc + 3) lv (.long x :: rest) w1 (F x w1)) : xJ ι M L b pc lv st w (xbd rc F) :=
  xj_callS (b2 := (0, 0)) (b3 := b) (fun x => [.long x]) (fun _ _ => rfl) (by show 0 + b.1 ≤ b.1; omega) (by show 0 + b.2 ≤ b.2; omega) hd hM hmk hlink (xfit0_ok hf) hn hst (Nat.le_of_ble_eq_true hsum) (fun x w1 _ => kk x w1)
end XM
