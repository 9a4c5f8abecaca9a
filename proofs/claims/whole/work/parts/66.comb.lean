/-! any instruction but hlt: both come to the same -/
theorem exec_p {w m : xW} {B : Nat → Int32} {N L : Nat} {rg : Nat → Int32} {c p z s o : Bool} {wh fo ef : Int32} (hw : imgC w B N) (hm : imgM m B N) (hd : dataP w m) (h : IR L w m) (hh : ¬ w.1 2 0 = 49)
    (hwh : wh = adV rg (w.1 2 9) (w.1 2 10) (w.1 2 11) (w.1 2 12)) (hfo : m.1 0 34 + m.1 0 30 = fo) : EX w m (sX7_execute (sW rg (fb c p z s o) 0 wh fo w)) (sX12_doOne (tW rg (bI c) (bI p) (bI z) (bI s) (bI o) 0 ef m)) := by
  have ht := h.1
  simp only [opTab, List.mem_cons, List.not_mem_nil, or_false, Prod.mk.injEq] at ht
  rcases ht with ⟨h0, f1, g0, f2⟩ | ⟨h0, f1, g0, f2⟩ | ⟨h0, f1, g0, f2⟩ | ⟨h0, f1, g0, f2⟩ | ⟨h0, f1, g0, f2⟩ | ⟨h0, f1, g0, f2⟩ | ⟨h0, f1, g0, f2⟩ | ⟨h0, f1, g0, f2⟩ | ⟨h0, f1, g0, f2⟩ | ⟨h0, f1, g0, f2⟩ | ⟨h0, f1, g0, f2⟩ | ⟨h0, f1, g0, f2⟩ | ⟨h0, f1, g0, f2⟩ | ⟨h0, f1, g0, f2⟩ | ⟨h0, f1, g0, f2⟩ | ⟨h0, f1, g0, f2⟩ | ⟨h0, f1, g0, f2⟩ | ⟨h0, f1, g0, f2⟩ | ⟨h0, f1, g0, f2⟩ | ⟨h0, f1, g0, f2⟩ | ⟨h0, f1, g0, f2⟩ | ⟨h0, f1, g0, f2⟩ | ⟨h0, f1, g0, f2⟩ | ⟨h0, f1, g0, f2⟩ | ⟨h0, f1, g0, f2⟩ | ⟨h0, f1, g0, f2⟩ | ⟨h0, f1, g0, f2⟩ | ⟨h0, f1, g0, f2⟩ | ⟨h0, f1, g0, f2⟩ | ⟨h0, f1, g0, f2⟩ | ⟨h0, f1, g0, f2⟩ | ⟨h0, f1, g0, f2⟩ | ⟨h0, f1, g0, f2⟩ | ⟨h0, f1, g0, f2⟩ | ⟨h0, f1, g0, f2⟩ | ⟨h0, f1, g0, f2⟩ | ⟨h0, f1, g0, f2⟩ | ⟨h0, f1, g0, f2⟩ | ⟨h0, f1, g0, f2⟩ | ⟨h0, f1, g0, f2⟩ | ⟨h0, f1, g0, f2⟩ | ⟨h0, f1, g0, f2⟩ | ⟨h0, f1, g0, f2⟩ | ⟨h0, f1, g0, f2⟩ | ⟨h0, f1, g0, f2⟩ | ⟨h0, f1, g0, f2⟩ | ⟨h0, f1, g0, f2⟩ | ⟨h0, f1, g0, f2⟩ | ⟨h0, f1, g0, f2⟩ | ⟨h0, f1, g0, f2⟩ | ⟨h0, f1, g0, f2⟩ | ⟨h0, f1, g0, f2⟩ | ⟨h0, f1, g0, f2⟩ | ⟨h0, f1, g0, f2⟩ | ⟨h0, f1, g0, f2⟩ | ⟨h0, f1, g0, f2⟩ | ⟨h0, f1, g0, f2⟩ | ⟨h0, f1, g0, f2⟩ | ⟨h0, f1, g0, f2⟩ | ⟨h0, f1, g0, f2⟩ | ⟨h0, f1, g0, f2⟩ | ⟨h0, f1, g0, f2⟩ | ⟨h0, f1, g0, f2⟩ | ⟨h0, f1, g0, f2⟩ | ⟨h0, f1, g0, f2⟩ | ⟨h0, f1, g0, f2⟩ | ⟨h0, f1, g0, f2⟩ | ⟨h0, f1, g0, f2⟩ | ⟨h0, f1, g0, f2⟩ | ⟨h0, f1, g0, f2⟩ | ⟨h0, f1, g0, f2⟩ | ⟨h0, f1, g0, f2⟩ | ⟨h0, f1, g0, f2⟩ | ⟨h0, f1, g0, f2⟩ | ⟨h0, f1, g0, f2⟩ | ⟨h0, f1, g0, f2⟩ | ⟨h0, f1, g0, f2⟩ | ⟨h0, f1, g0, f2⟩ | ⟨h0, f1, g0, f2⟩ | ⟨h0, f1, g0, f2⟩ | ⟨h0, f1, g0, f2⟩ | ⟨h0, f1, g0, f2⟩ | ⟨h0, f1, g0, f2⟩ | ⟨h0, f1, g0, f2⟩ | ⟨h0, f1, g0, f2⟩ | ⟨h0, f1, g0, f2⟩ | ⟨h0, f1, g0, f2⟩ | ⟨h0, f1, g0, f2⟩ | ⟨h0, f1, g0, f2⟩ | ⟨h0, f1, g0, f2⟩ | ⟨h0, f1, g0, f2⟩ | ⟨h0, f1, g0, f2⟩ | ⟨h0, f1, g0, f2⟩ | ⟨h0, f1, g0, f2⟩ | ⟨h0, f1, g0, f2⟩ | ⟨h0, f1, g0, f2⟩ | ⟨h0, f1, g0, f2⟩ | ⟨h0, f1, g0, f2⟩ | ⟨h0, f1, g0, f2⟩ | ⟨h0, f1, g0, f2⟩ | ⟨h0, f1, g0, f2⟩ | ⟨h0, f1, g0, f2⟩ | ⟨h0, f1, g0, f2⟩ | ⟨h0, f1, g0, f2⟩ | ⟨h0, f1, g0, f2⟩ | ⟨h0, f1, g0, f2⟩
  · exact x_ar hw hm hd h (cop := 0) (what := 0) (List.mem_of_getElem? (i := 0) rfl) h0 (by rw [g0]; rfl) (Or.inl ⟨f1, f2⟩) (fun q => absurd q (by decide)) hwh hfo
  · exact x_ar hw hm hd h (cop := 0) (what := 0) (List.mem_of_getElem? (i := 0) rfl) h0 (by rw [g0]; rfl) (Or.inr (Or.inl ⟨f1, f2⟩)) (fun q => absurd q (by decide)) hwh hfo
  · exact x_ar hw hm hd h (cop := 0) (what := 0) (List.mem_of_getElem? (i := 0) rfl) h0 (by rw [g0]; rfl) (Or.inr (Or.inr (Or.inl ⟨f1, f2⟩))) (fun q => absurd q (by decide)) hwh hfo
  · exact x_ar hw hm hd h (cop := 0) (what := 0) (List.mem_of_getElem? (i := 0) rfl) h0 (by rw [g0]; rfl) (Or.inr (Or.inr (Or.inr (⟨f1, f2⟩)))) (fun q => absurd q (by decide)) hwh hfo
  · exact x_ar hw hm hd h (cop := 1) (what := 1) (List.mem_of_getElem? (i := 1) rfl) h0 (by rw [g0]; rfl) (Or.inl ⟨f1, f2⟩) (fun q => absurd q (by decide)) hwh hfo
  · exact x_ar hw hm hd h (cop := 1) (what := 1) (List.mem_of_getElem? (i := 1) rfl) h0 (by rw [g0]; rfl) (Or.inr (Or.inl ⟨f1, f2⟩)) (fun q => absurd q (by decide)) hwh hfo
  · exact x_ar hw hm hd h (cop := 1) (what := 1) (List.mem_of_getElem? (i := 1) rfl) h0 (by rw [g0]; rfl) (Or.inr (Or.inr (Or.inl ⟨f1, f2⟩))) (fun q => absurd q (by decide)) hwh hfo
  · exact x_ar hw hm hd h (cop := 1) (what := 1) (List.mem_of_getElem? (i := 1) rfl) h0 (by rw [g0]; rfl) (Or.inr (Or.inr (Or.inr (⟨f1, f2⟩)))) (fun q => absurd q (by decide)) hwh hfo
  · exact x_ar hw hm hd h (cop := 2) (what := 2) (List.mem_of_getElem? (i := 2) rfl) h0 (by rw [g0]; rfl) (Or.inl ⟨f1, f2⟩) (fun q => absurd q (by decide)) hwh hfo
  · exact x_ar hw hm hd h (cop := 2) (what := 2) (List.mem_of_getElem? (i := 2) rfl) h0 (by rw [g0]; rfl) (Or.inr (Or.inl ⟨f1, f2⟩)) (fun q => absurd q (by decide)) hwh hfo
  · exact x_ar hw hm hd h (cop := 2) (what := 2) (List.mem_of_getElem? (i := 2) rfl) h0 (by rw [g0]; rfl) (Or.inr (Or.inr (Or.inl ⟨f1, f2⟩))) (fun q => absurd q (by decide)) hwh hfo
  · exact x_ar hw hm hd h (cop := 2) (what := 2) (List.mem_of_getElem? (i := 2) rfl) h0 (by rw [g0]; rfl) (Or.inr (Or.inr (Or.inr (⟨f1, f2⟩)))) (fun q => absurd q (by decide)) hwh hfo
  · exact x_ar hw hm hd h (cop := 3) (what := 3) (List.mem_of_getElem? (i := 3) rfl) h0 (by rw [g0]; rfl) (Or.inl ⟨f1, f2⟩) (fun q => absurd q (by decide)) hwh hfo
  · exact x_ar hw hm hd h (cop := 3) (what := 3) (List.mem_of_getElem? (i := 3) rfl) h0 (by rw [g0]; rfl) (Or.inr (Or.inl ⟨f1, f2⟩)) (fun q => absurd q (by decide)) hwh hfo
  · exact x_ar hw hm hd h (cop := 3) (what := 3) (List.mem_of_getElem? (i := 3) rfl) h0 (by rw [g0]; rfl) (Or.inr (Or.inr (Or.inl ⟨f1, f2⟩))) (fun q => absurd q (by decide)) hwh hfo
  · exact x_ar hw hm hd h (cop := 3) (what := 3) (List.mem_of_getElem? (i := 3) rfl) h0 (by rw [g0]; rfl) (Or.inr (Or.inr (Or.inr (⟨f1, f2⟩)))) (fun q => absurd q (by decide)) hwh hfo
  · exact x_ar hw hm hd h (cop := 4) (what := 4) (List.mem_of_getElem? (i := 4) rfl) h0 (by rw [g0]; rfl) (Or.inl ⟨f1, f2⟩) (fun q => absurd q (by decide)) hwh hfo
  · exact x_ar hw hm hd h (cop := 4) (what := 4) (List.mem_of_getElem? (i := 4) rfl) h0 (by rw [g0]; rfl) (Or.inr (Or.inl ⟨f1, f2⟩)) (fun q => absurd q (by decide)) hwh hfo
  · exact x_ar hw hm hd h (cop := 4) (what := 4) (List.mem_of_getElem? (i := 4) rfl) h0 (by rw [g0]; rfl) (Or.inr (Or.inr (Or.inl ⟨f1, f2⟩))) (fun q => absurd q (by decide)) hwh hfo
  · exact x_ar hw hm hd h (cop := 4) (what := 4) (List.mem_of_getElem? (i := 4) rfl) h0 (by rw [g0]; rfl) (Or.inr (Or.inr (Or.inr (⟨f1, f2⟩)))) (fun q => absurd q (by decide)) hwh hfo
  · exact x_ar hw hm hd h (cop := 5) (what := 5) (List.mem_of_getElem? (i := 5) rfl) h0 (by rw [g0]; rfl) (Or.inl ⟨f1, f2⟩) (fun q => absurd q (by decide)) hwh hfo
  · exact x_ar hw hm hd h (cop := 5) (what := 5) (List.mem_of_getElem? (i := 5) rfl) h0 (by rw [g0]; rfl) (Or.inr (Or.inl ⟨f1, f2⟩)) (fun q => absurd q (by decide)) hwh hfo
  · exact x_ar hw hm hd h (cop := 5) (what := 5) (List.mem_of_getElem? (i := 5) rfl) h0 (by rw [g0]; rfl) (Or.inr (Or.inr (Or.inl ⟨f1, f2⟩))) (fun q => absurd q (by decide)) hwh hfo
  · exact x_ar hw hm hd h (cop := 5) (what := 5) (List.mem_of_getElem? (i := 5) rfl) h0 (by rw [g0]; rfl) (Or.inr (Or.inr (Or.inr (⟨f1, f2⟩)))) (fun q => absurd q (by decide)) hwh hfo
  · exact x_ar hw hm hd h (cop := 6) (what := 6) (List.mem_of_getElem? (i := 6) rfl) h0 (by rw [g0]; rfl) (Or.inl ⟨f1, f2⟩) (fun q => absurd q (by decide)) hwh hfo
  · exact x_ar hw hm hd h (cop := 6) (what := 6) (List.mem_of_getElem? (i := 6) rfl) h0 (by rw [g0]; rfl) (Or.inr (Or.inl ⟨f1, f2⟩)) (fun q => absurd q (by decide)) hwh hfo
  · exact x_ar hw hm hd h (cop := 6) (what := 6) (List.mem_of_getElem? (i := 6) rfl) h0 (by rw [g0]; rfl) (Or.inr (Or.inr (Or.inl ⟨f1, f2⟩))) (fun q => absurd q (by decide)) hwh hfo
  · exact x_ar hw hm hd h (cop := 6) (what := 6) (List.mem_of_getElem? (i := 6) rfl) h0 (by rw [g0]; rfl) (Or.inr (Or.inr (Or.inr (⟨f1, f2⟩)))) (fun q => absurd q (by decide)) hwh hfo
  · exact x_ar hw hm hd h (cop := 7) (what := 7) (List.mem_of_getElem? (i := 7) rfl) h0 (by rw [g0]; rfl) (Or.inl ⟨f1, f2⟩) (fun q => absurd q (by decide)) hwh hfo
  · exact x_ar hw hm hd h (cop := 7) (what := 7) (List.mem_of_getElem? (i := 7) rfl) h0 (by rw [g0]; rfl) (Or.inr (Or.inl ⟨f1, f2⟩)) (fun q => absurd q (by decide)) hwh hfo
  · exact x_ar hw hm hd h (cop := 7) (what := 7) (List.mem_of_getElem? (i := 7) rfl) h0 (by rw [g0]; rfl) (Or.inr (Or.inr (Or.inl ⟨f1, f2⟩))) (fun q => absurd q (by decide)) hwh hfo
  · exact x_ar hw hm hd h (cop := 7) (what := 7) (List.mem_of_getElem? (i := 7) rfl) h0 (by rw [g0]; rfl) (Or.inr (Or.inr (Or.inr (⟨f1, f2⟩)))) (fun q => absurd q (by decide)) hwh hfo
  · exact x_shift hw hm hd h (cop := 8) (op := 21) (List.mem_of_getElem? (i := 0) rfl) h0 g0 (Or.inl ⟨f1, f2⟩) hwh hfo
  · exact x_shift hw hm hd h (cop := 8) (op := 21) (List.mem_of_getElem? (i := 0) rfl) h0 g0 (Or.inr (Or.inl ⟨f1, f2⟩)) hwh hfo
  · exact x_shift hw hm hd h (cop := 8) (op := 21) (List.mem_of_getElem? (i := 0) rfl) h0 g0 (Or.inr (Or.inr (⟨f1, f2⟩))) hwh hfo
  · exact x_shift hw hm hd h (cop := 9) (op := 22) (List.mem_of_getElem? (i := 1) rfl) h0 g0 (Or.inl ⟨f1, f2⟩) hwh hfo
  · exact x_shift hw hm hd h (cop := 9) (op := 22) (List.mem_of_getElem? (i := 1) rfl) h0 g0 (Or.inr (Or.inl ⟨f1, f2⟩)) hwh hfo
  · exact x_shift hw hm hd h (cop := 9) (op := 22) (List.mem_of_getElem? (i := 1) rfl) h0 g0 (Or.inr (Or.inr (⟨f1, f2⟩))) hwh hfo
  · exact x_shift hw hm hd h (cop := 10) (op := 23) (List.mem_of_getElem? (i := 2) rfl) h0 g0 (Or.inl ⟨f1, f2⟩) hwh hfo
  · exact x_shift hw hm hd h (cop := 10) (op := 23) (List.mem_of_getElem? (i := 2) rfl) h0 g0 (Or.inr (Or.inl ⟨f1, f2⟩)) hwh hfo
  · exact x_shift hw hm hd h (cop := 10) (op := 23) (List.mem_of_getElem? (i := 2) rfl) h0 g0 (Or.inr (Or.inr (⟨f1, f2⟩))) hwh hfo
  · exact x_shift hw hm hd h (cop := 11) (op := 24) (List.mem_of_getElem? (i := 3) rfl) h0 g0 (Or.inl ⟨f1, f2⟩) hwh hfo
  · exact x_shift hw hm hd h (cop := 11) (op := 24) (List.mem_of_getElem? (i := 3) rfl) h0 g0 (Or.inr (Or.inl ⟨f1, f2⟩)) hwh hfo
  · exact x_shift hw hm hd h (cop := 11) (op := 24) (List.mem_of_getElem? (i := 3) rfl) h0 g0 (Or.inr (Or.inr (⟨f1, f2⟩))) hwh hfo
  · exact x_shift hw hm hd h (cop := 12) (op := 25) (List.mem_of_getElem? (i := 4) rfl) h0 g0 (Or.inl ⟨f1, f2⟩) hwh hfo
  · exact x_shift hw hm hd h (cop := 12) (op := 25) (List.mem_of_getElem? (i := 4) rfl) h0 g0 (Or.inr (Or.inl ⟨f1, f2⟩)) hwh hfo
  · exact x_shift hw hm hd h (cop := 12) (op := 25) (List.mem_of_getElem? (i := 4) rfl) h0 g0 (Or.inr (Or.inr (⟨f1, f2⟩))) hwh hfo
  · exact x_shift hw hm hd h (cop := 13) (op := 26) (List.mem_of_getElem? (i := 5) rfl) h0 g0 (Or.inl ⟨f1, f2⟩) hwh hfo
  · exact x_shift hw hm hd h (cop := 13) (op := 26) (List.mem_of_getElem? (i := 5) rfl) h0 g0 (Or.inr (Or.inl ⟨f1, f2⟩)) hwh hfo
  · exact x_shift hw hm hd h (cop := 13) (op := 26) (List.mem_of_getElem? (i := 5) rfl) h0 g0 (Or.inr (Or.inr (⟨f1, f2⟩))) hwh hfo
  · exact x_shift hw hm hd h (cop := 15) (op := 27) (List.mem_of_getElem? (i := 6) rfl) h0 g0 (Or.inl ⟨f1, f2⟩) hwh hfo
  · exact x_shift hw hm hd h (cop := 15) (op := 27) (List.mem_of_getElem? (i := 6) rfl) h0 g0 (Or.inr (Or.inl ⟨f1, f2⟩)) hwh hfo
  · exact x_shift hw hm hd h (cop := 15) (op := 27) (List.mem_of_getElem? (i := 6) rfl) h0 g0 (Or.inr (Or.inr (⟨f1, f2⟩))) hwh hfo
  · exact x_ar hw hm hd h (cop := 16) (what := 4) (List.mem_of_getElem? (i := 8) rfl) h0 (by rw [g0]; rfl) (Or.inl ⟨f1, f2⟩) (fun _ => by rw [f2]; decide) hwh hfo
  · exact x_ar hw hm hd h (cop := 16) (what := 4) (List.mem_of_getElem? (i := 8) rfl) h0 (by rw [g0]; rfl) (Or.inr (Or.inr (Or.inl ⟨f1, f2⟩))) (fun _ => by rw [f2]; decide) hwh hfo
  · exact x_ar hw hm hd h (cop := 16) (what := 4) (List.mem_of_getElem? (i := 8) rfl) h0 (by rw [g0]; rfl) (Or.inr (Or.inr (Or.inr (⟨f1, f2⟩)))) (fun _ => by rw [f2]; decide) hwh hfo
  · exact x_incdec hw hm hd h (Or.inl ⟨h0, g0⟩) (Or.inr f2) hwh hfo
  · exact x_incdec hw hm hd h (Or.inl ⟨h0, g0⟩) (Or.inl f2) hwh hfo
  · exact x_incdec hw hm hd h (Or.inr (⟨h0, g0⟩)) (Or.inr f2) hwh hfo
  · exact x_incdec hw hm hd h (Or.inr (⟨h0, g0⟩)) (Or.inl f2) hwh hfo
  · exact x_neg hw hm hd h h0 g0 f2 hwh hfo
  · exact x_not hw hm hd h h0 g0 f2 hwh hfo
  · exact x_dbl hw hm hd h (cop := 21) (op := 46) (Or.inl ⟨rfl, rfl, rfl⟩) h0 g0 f1 f2 hwh hfo
  · exact x_dbl hw hm hd h (cop := 22) (op := 47) (Or.inr (⟨rfl, rfl, rfl⟩)) h0 g0 f1 f2 hwh hfo
  · exact x_mul hw hm hd h (cop := 23) (op := 38) (Or.inl ⟨rfl, rfl⟩) h0 g0 f2 hwh hfo
  · exact x_mul hw hm hd h (cop := 24) (op := 39) (Or.inr (⟨rfl, rfl⟩)) h0 g0 f2 hwh hfo
  · exact x_imul hw hm hd h h0 g0 (Or.inl ⟨f1, f2⟩) hwh hfo
  · exact x_imul hw hm hd h h0 g0 (Or.inr (⟨f1, f2⟩)) hwh hfo
  · exact x_div hw hm hd h (cop := 26) (op := 40) (Or.inl ⟨rfl, rfl⟩) h0 g0 f2 hwh hfo
  · exact x_div hw hm hd h (cop := 27) (op := 41) (Or.inr (⟨rfl, rfl⟩)) h0 g0 f2 hwh hfo
  · exact x_mov hw hm hd h h0 g0 (Or.inl ⟨f1, f2⟩) hwh hfo
  · exact x_mov hw hm hd h h0 g0 (Or.inr (Or.inl ⟨f1, f2⟩)) hwh hfo
  · exact x_mov hw hm hd h h0 g0 (Or.inr (Or.inr (Or.inl ⟨f1, f2⟩))) hwh hfo
  · exact x_mov hw hm hd h h0 g0 (Or.inr (Or.inr (Or.inr (⟨f1, f2⟩)))) hwh hfo
  · exact x_movx hw hm hd h (Or.inl ⟨h0, g0⟩) f2 hwh hfo
  · exact x_movx hw hm hd h (Or.inr (⟨h0, g0⟩)) f2 hwh hfo
  · exact x_lea h hd h0 g0 f2 hwh hfo
  · exact x_cmov hw hm hd h h0 g0 f2 hwh hfo
  · exact x_set hd h h0 g0 f2 hwh hfo
  · exact x_scan hw hm hd h (Or.inl ⟨h0, g0⟩) f2 hwh hfo
  · exact x_scan hw hm hd h (Or.inr (⟨h0, g0⟩)) f2 hwh hfo
  · exact x_bswap hd h h0 g0 f2 hfo
  · exact x_cwde hd h0 g0 hfo
  · exact x_cdq hd h0 g0 hfo
  · exact x_xchg hw hm hd h h0 g0 f2 hwh hfo
  · exact x_xchgA hd h h0 g0 f2 hfo
  · exact x_xadd hw hm hd h h0 g0 f2 hwh hfo
  · exact x_cmpx hw hm hd h h0 g0 f2 hwh hfo
  · exact x_push hw hm hd h h0 g0 (Or.inl ⟨f1, Or.inr f2⟩) hwh hfo
  · exact x_push hw hm hd h h0 g0 (Or.inr ⟨f1, f2⟩) hwh hfo
  · exact x_push hw hm hd h h0 g0 (Or.inl ⟨f1, Or.inl f2⟩) hwh hfo
  · exact x_pop hw hm hd h h0 g0 (Or.inr f2) hfo
  · exact x_pop hw hm hd h h0 g0 (Or.inl f2) hfo
  · exact x_call hd h h0 (Or.inl ⟨g0, f1, f2⟩) hfo
  · exact x_call hd h h0 (Or.inr (⟨g0, f1, f2⟩)) hfo
  · exact x_jmp hd h h0 (Or.inl ⟨g0, f1, f2⟩) hfo
  · exact x_jmp hd h h0 (Or.inr (⟨g0, f1, f2⟩)) hfo
  · exact x_jcc hd h h0 g0 f1 f2 hfo
  · exact x_loop hd h h0 g0 f1 f2 hfo
  · exact x_jecxz hd h h0 g0 f1 f2 hfo
  · exact absurd h0 hh
  · exact x_nop hd h0 g0 hfo
  · exact x_nop hd h0 g0 hfo
  · exact x_cmc hd h0 g0 hfo
  · exact x_clc hd h0 g0 hfo
  · exact x_stc hd h0 g0 hfo
