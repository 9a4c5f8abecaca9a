/-! the step: overlays -/
def ru (rg : Nat → Int32) (j : Nat) (v : Int32) : Nat → Int32 := fun i => if i = j then v else rg i
theorem ru_s {rg : Nat → Int32} {j : Nat} {v : Int32} : ru rg j v j = v := if_pos rfl
theorem ru_o {rg : Nat → Int32} {j i : Nat} {v : Int32} (h : ¬ i = j) : ru rg j v i = rg i := if_neg h
def sW (rg : Nat → Int32) (fl tr wh fo : Int32) (w : xW) : xW := (fun k i => if k = 20 then rg i else if k = 9 ∧ i = 0 then fl else if k = 6 ∧ i = 2 then tr else if k = 8 ∧ i = 14 then wh else if k = 8 ∧ i = 15 then fo else w.1 k i, w.2)
section sWS
variable {rg : Nat → Int32} {fl tr wh fo : Int32} {w : xW}
theorem sW_r {i : Nat} : (sW rg fl tr wh fo w).1 20 i = rg i := rfl
theorem sW_2 : (sW rg fl tr wh fo w).2 = w.2 := rfl
theorem sW_fl : (sW rg fl tr wh fo w).1 9 0 = fl := rfl
theorem sW_tr : (sW rg fl tr wh fo w).1 6 2 = tr := rfl
theorem sW_wh : (sW rg fl tr wh fo w).1 8 14 = wh := rfl
theorem sW_fo : (sW rg fl tr wh fo w).1 8 15 = fo := rfl
theorem sW_x {k i : Nat} (h : ¬ k = 20 ∧ ¬ (k = 9 ∧ i = 0) ∧ ¬ (k = 6 ∧ i = 2) ∧ ¬ (k = 8 ∧ i = 14) ∧ ¬ (k = 8 ∧ i = 15)) : (sW rg fl tr wh fo w).1 k i = w.1 k i := by
  show (if k = 20 then rg i else if k = 9 ∧ i = 0 then fl else if k = 6 ∧ i = 2 then tr else if k = 8 ∧ i = 14 then wh else if k = 8 ∧ i = 15 then fo else w.1 k i) = _
  rw [if_neg h.1, if_neg h.2.1, if_neg h.2.2.1, if_neg h.2.2.2.1, if_neg h.2.2.2.2]
theorem sW_wr {j : Nat} {v : Int32} : xwi (sW rg fl tr wh fo w) 20 j v = sW (ru rg j v) fl tr wh fo w := by
  refine Prod.ext ?_ rfl
  funext k i
  show (if k = 20 ∧ i = j then v else (if k = 20 then rg i else if k = 9 ∧ i = 0 then fl else if k = 6 ∧ i = 2 then tr else if k = 8 ∧ i = 14 then wh else if k = 8 ∧ i = 15 then fo else w.1 k i)) = (if k = 20 then (ru rg j v) i else if k = 9 ∧ i = 0 then fl else if k = 6 ∧ i = 2 then tr else if k = 8 ∧ i = 14 then wh else if k = 8 ∧ i = 15 then fo else w.1 k i)
  by_cases h : k = 20
  · subst h
    by_cases hi : i = j
    · subst hi
      rw [if_pos ⟨rfl, rfl⟩, if_pos rfl]
      exact (if_pos rfl).symm
    · rw [if_neg (fun q => hi q.2), if_pos rfl, if_pos rfl]
      exact (if_neg hi).symm
  · rw [if_neg (fun q => h q.1), if_neg h, if_neg h]
theorem sW_wfl {v : Int32} : xwi (sW rg fl tr wh fo w) 9 0 v = sW rg v tr wh fo w := by
  refine Prod.ext ?_ rfl
  funext k i
  show (if k = 9 ∧ i = 0 then v else (if k = 20 then rg i else if k = 9 ∧ i = 0 then fl else if k = 6 ∧ i = 2 then tr else if k = 8 ∧ i = 14 then wh else if k = 8 ∧ i = 15 then fo else w.1 k i)) = (if k = 20 then rg i else if k = 9 ∧ i = 0 then v else if k = 6 ∧ i = 2 then tr else if k = 8 ∧ i = 14 then wh else if k = 8 ∧ i = 15 then fo else w.1 k i)
  by_cases h : k = 9 ∧ i = 0
  · obtain ⟨rfl, rfl⟩ := h
    rfl
  · rw [if_neg h]
    simp only [h, if_false]
theorem sW_wtr {v : Int32} : xwi (sW rg fl tr wh fo w) 6 2 v = sW rg fl v wh fo w := by
  refine Prod.ext ?_ rfl
  funext k i
  show (if k = 6 ∧ i = 2 then v else (if k = 20 then rg i else if k = 9 ∧ i = 0 then fl else if k = 6 ∧ i = 2 then tr else if k = 8 ∧ i = 14 then wh else if k = 8 ∧ i = 15 then fo else w.1 k i)) = (if k = 20 then rg i else if k = 9 ∧ i = 0 then fl else if k = 6 ∧ i = 2 then v else if k = 8 ∧ i = 14 then wh else if k = 8 ∧ i = 15 then fo else w.1 k i)
  by_cases h : k = 6 ∧ i = 2
  · obtain ⟨rfl, rfl⟩ := h
    rfl
  · rw [if_neg h]
    simp only [h, if_false]
theorem sW_wwh {v : Int32} : xwi (sW rg fl tr wh fo w) 8 14 v = sW rg fl tr v fo w := by
  refine Prod.ext ?_ rfl
  funext k i
  show (if k = 8 ∧ i = 14 then v else (if k = 20 then rg i else if k = 9 ∧ i = 0 then fl else if k = 6 ∧ i = 2 then tr else if k = 8 ∧ i = 14 then wh else if k = 8 ∧ i = 15 then fo else w.1 k i)) = (if k = 20 then rg i else if k = 9 ∧ i = 0 then fl else if k = 6 ∧ i = 2 then tr else if k = 8 ∧ i = 14 then v else if k = 8 ∧ i = 15 then fo else w.1 k i)
  by_cases h : k = 8 ∧ i = 14
  · obtain ⟨rfl, rfl⟩ := h
    rfl
  · rw [if_neg h]
    simp only [h, if_false]
theorem sW_wfo {v : Int32} : xwi (sW rg fl tr wh fo w) 8 15 v = sW rg fl tr wh v w := by
  refine Prod.ext ?_ rfl
  funext k i
  show (if k = 8 ∧ i = 15 then v else (if k = 20 then rg i else if k = 9 ∧ i = 0 then fl else if k = 6 ∧ i = 2 then tr else if k = 8 ∧ i = 14 then wh else if k = 8 ∧ i = 15 then fo else w.1 k i)) = (if k = 20 then rg i else if k = 9 ∧ i = 0 then fl else if k = 6 ∧ i = 2 then tr else if k = 8 ∧ i = 14 then wh else if k = 8 ∧ i = 15 then v else w.1 k i)
  by_cases h : k = 8 ∧ i = 15
  · obtain ⟨rfl, rfl⟩ := h
    rfl
  · rw [if_neg h]
    simp only [h, if_false]
theorem sW_wx {k j : Nat} {v : Int32} (h : ¬ k = 20 ∧ ¬ (k = 9 ∧ j = 0) ∧ ¬ (k = 6 ∧ j = 2) ∧ ¬ (k = 8 ∧ j = 14) ∧ ¬ (k = 8 ∧ j = 15)) : xwi (sW rg fl tr wh fo w) k j v = sW rg fl tr wh fo (xwi w k j v) := by
  refine Prod.ext ?_ rfl
  funext a b
  show (if a = k ∧ b = j then v else (if a = 20 then rg b else if a = 9 ∧ b = 0 then fl else if a = 6 ∧ b = 2 then tr else if a = 8 ∧ b = 14 then wh else if a = 8 ∧ b = 15 then fo else w.1 a b)) = (if a = 20 then rg b else if a = 9 ∧ b = 0 then fl else if a = 6 ∧ b = 2 then tr else if a = 8 ∧ b = 14 then wh else if a = 8 ∧ b = 15 then fo else (xwi w k j v).1 a b)
  by_cases q : a = k ∧ b = j
  · obtain ⟨rfl, rfl⟩ := q
    rw [if_pos ⟨rfl, rfl⟩, if_neg h.1, if_neg h.2.1, if_neg h.2.2.1, if_neg h.2.2.2.1, if_neg h.2.2.2.2]
    exact (if_pos ⟨rfl, rfl⟩).symm
  · rw [if_neg q]
    have e : (xwi w k j v).1 a b = w.1 a b := if_neg q
    rw [e]
theorem sW_wl {k j : Nat} {v : Int64} : xwl (sW rg fl tr wh fo w) k j v = sW rg fl tr wh fo (xwl w k j v) := rfl
end sWS
def tW (rg : Nat → Int32) (c p z s o kp ef : Int32) (m : xW) : xW := (fun k i => if k = 9 then rg i else if k = 0 ∧ i = 36 then c else if k = 0 ∧ i = 37 then p else if k = 0 ∧ i = 38 then z else if k = 0 ∧ i = 39 then s else if k = 0 ∧ i = 40 then o else if k = 0 ∧ i = 45 then kp else if k = 0 ∧ i = 46 then ef else m.1 k i, m.2)
section tWS
variable {rg : Nat → Int32} {c p z s o kp ef : Int32} {m : xW}
theorem tW_r {i : Nat} : (tW rg c p z s o kp ef m).1 9 i = rg i := rfl
theorem tW_2 : (tW rg c p z s o kp ef m).2 = m.2 := rfl
theorem tW_c : (tW rg c p z s o kp ef m).1 0 36 = c := rfl
theorem tW_p : (tW rg c p z s o kp ef m).1 0 37 = p := rfl
theorem tW_z : (tW rg c p z s o kp ef m).1 0 38 = z := rfl
theorem tW_s : (tW rg c p z s o kp ef m).1 0 39 = s := rfl
theorem tW_o : (tW rg c p z s o kp ef m).1 0 40 = o := rfl
theorem tW_kp : (tW rg c p z s o kp ef m).1 0 45 = kp := rfl
theorem tW_ef : (tW rg c p z s o kp ef m).1 0 46 = ef := rfl
theorem tW_x {k i : Nat} (h : ¬ k = 9 ∧ ¬ (k = 0 ∧ i = 36) ∧ ¬ (k = 0 ∧ i = 37) ∧ ¬ (k = 0 ∧ i = 38) ∧ ¬ (k = 0 ∧ i = 39) ∧ ¬ (k = 0 ∧ i = 40) ∧ ¬ (k = 0 ∧ i = 45) ∧ ¬ (k = 0 ∧ i = 46)) : (tW rg c p z s o kp ef m).1 k i = m.1 k i := by
  show (if k = 9 then rg i else if k = 0 ∧ i = 36 then c else if k = 0 ∧ i = 37 then p else if k = 0 ∧ i = 38 then z else if k = 0 ∧ i = 39 then s else if k = 0 ∧ i = 40 then o else if k = 0 ∧ i = 45 then kp else if k = 0 ∧ i = 46 then ef else m.1 k i) = _
  rw [if_neg h.1, if_neg h.2.1, if_neg h.2.2.1, if_neg h.2.2.2.1, if_neg h.2.2.2.2.1, if_neg h.2.2.2.2.2.1, if_neg h.2.2.2.2.2.2.1, if_neg h.2.2.2.2.2.2.2]
theorem tW_wr {j : Nat} {v : Int32} : xwi (tW rg c p z s o kp ef m) 9 j v = tW (ru rg j v) c p z s o kp ef m := by
  refine Prod.ext ?_ rfl
  funext k i
  show (if k = 9 ∧ i = j then v else (if k = 9 then rg i else if k = 0 ∧ i = 36 then c else if k = 0 ∧ i = 37 then p else if k = 0 ∧ i = 38 then z else if k = 0 ∧ i = 39 then s else if k = 0 ∧ i = 40 then o else if k = 0 ∧ i = 45 then kp else if k = 0 ∧ i = 46 then ef else m.1 k i)) = (if k = 9 then (ru rg j v) i else if k = 0 ∧ i = 36 then c else if k = 0 ∧ i = 37 then p else if k = 0 ∧ i = 38 then z else if k = 0 ∧ i = 39 then s else if k = 0 ∧ i = 40 then o else if k = 0 ∧ i = 45 then kp else if k = 0 ∧ i = 46 then ef else m.1 k i)
  by_cases h : k = 9
  · subst h
    by_cases hi : i = j
    · subst hi
      rw [if_pos ⟨rfl, rfl⟩, if_pos rfl]
      exact (if_pos rfl).symm
    · rw [if_neg (fun q => hi q.2), if_pos rfl, if_pos rfl]
      exact (if_neg hi).symm
  · rw [if_neg (fun q => h q.1), if_neg h, if_neg h]
theorem tW_wc {v : Int32} : xwi (tW rg c p z s o kp ef m) 0 36 v = tW rg v p z s o kp ef m := by
  refine Prod.ext ?_ rfl
  funext k i
  show (if k = 0 ∧ i = 36 then v else (if k = 9 then rg i else if k = 0 ∧ i = 36 then c else if k = 0 ∧ i = 37 then p else if k = 0 ∧ i = 38 then z else if k = 0 ∧ i = 39 then s else if k = 0 ∧ i = 40 then o else if k = 0 ∧ i = 45 then kp else if k = 0 ∧ i = 46 then ef else m.1 k i)) = (if k = 9 then rg i else if k = 0 ∧ i = 36 then v else if k = 0 ∧ i = 37 then p else if k = 0 ∧ i = 38 then z else if k = 0 ∧ i = 39 then s else if k = 0 ∧ i = 40 then o else if k = 0 ∧ i = 45 then kp else if k = 0 ∧ i = 46 then ef else m.1 k i)
  by_cases h : k = 0 ∧ i = 36
  · obtain ⟨rfl, rfl⟩ := h
    rfl
  · rw [if_neg h]
    simp only [h, if_false]
theorem tW_wp {v : Int32} : xwi (tW rg c p z s o kp ef m) 0 37 v = tW rg c v z s o kp ef m := by
  refine Prod.ext ?_ rfl
  funext k i
  show (if k = 0 ∧ i = 37 then v else (if k = 9 then rg i else if k = 0 ∧ i = 36 then c else if k = 0 ∧ i = 37 then p else if k = 0 ∧ i = 38 then z else if k = 0 ∧ i = 39 then s else if k = 0 ∧ i = 40 then o else if k = 0 ∧ i = 45 then kp else if k = 0 ∧ i = 46 then ef else m.1 k i)) = (if k = 9 then rg i else if k = 0 ∧ i = 36 then c else if k = 0 ∧ i = 37 then v else if k = 0 ∧ i = 38 then z else if k = 0 ∧ i = 39 then s else if k = 0 ∧ i = 40 then o else if k = 0 ∧ i = 45 then kp else if k = 0 ∧ i = 46 then ef else m.1 k i)
  by_cases h : k = 0 ∧ i = 37
  · obtain ⟨rfl, rfl⟩ := h
    rfl
  · rw [if_neg h]
    simp only [h, if_false]
theorem tW_wz {v : Int32} : xwi (tW rg c p z s o kp ef m) 0 38 v = tW rg c p v s o kp ef m := by
  refine Prod.ext ?_ rfl
  funext k i
  show (if k = 0 ∧ i = 38 then v else (if k = 9 then rg i else if k = 0 ∧ i = 36 then c else if k = 0 ∧ i = 37 then p else if k = 0 ∧ i = 38 then z else if k = 0 ∧ i = 39 then s else if k = 0 ∧ i = 40 then o else if k = 0 ∧ i = 45 then kp else if k = 0 ∧ i = 46 then ef else m.1 k i)) = (if k = 9 then rg i else if k = 0 ∧ i = 36 then c else if k = 0 ∧ i = 37 then p else if k = 0 ∧ i = 38 then v else if k = 0 ∧ i = 39 then s else if k = 0 ∧ i = 40 then o else if k = 0 ∧ i = 45 then kp else if k = 0 ∧ i = 46 then ef else m.1 k i)
  by_cases h : k = 0 ∧ i = 38
  · obtain ⟨rfl, rfl⟩ := h
    rfl
  · rw [if_neg h]
    simp only [h, if_false]
theorem tW_ws {v : Int32} : xwi (tW rg c p z s o kp ef m) 0 39 v = tW rg c p z v o kp ef m := by
  refine Prod.ext ?_ rfl
  funext k i
  show (if k = 0 ∧ i = 39 then v else (if k = 9 then rg i else if k = 0 ∧ i = 36 then c else if k = 0 ∧ i = 37 then p else if k = 0 ∧ i = 38 then z else if k = 0 ∧ i = 39 then s else if k = 0 ∧ i = 40 then o else if k = 0 ∧ i = 45 then kp else if k = 0 ∧ i = 46 then ef else m.1 k i)) = (if k = 9 then rg i else if k = 0 ∧ i = 36 then c else if k = 0 ∧ i = 37 then p else if k = 0 ∧ i = 38 then z else if k = 0 ∧ i = 39 then v else if k = 0 ∧ i = 40 then o else if k = 0 ∧ i = 45 then kp else if k = 0 ∧ i = 46 then ef else m.1 k i)
  by_cases h : k = 0 ∧ i = 39
  · obtain ⟨rfl, rfl⟩ := h
    rfl
  · rw [if_neg h]
    simp only [h, if_false]
theorem tW_wo {v : Int32} : xwi (tW rg c p z s o kp ef m) 0 40 v = tW rg c p z s v kp ef m := by
  refine Prod.ext ?_ rfl
  funext k i
  show (if k = 0 ∧ i = 40 then v else (if k = 9 then rg i else if k = 0 ∧ i = 36 then c else if k = 0 ∧ i = 37 then p else if k = 0 ∧ i = 38 then z else if k = 0 ∧ i = 39 then s else if k = 0 ∧ i = 40 then o else if k = 0 ∧ i = 45 then kp else if k = 0 ∧ i = 46 then ef else m.1 k i)) = (if k = 9 then rg i else if k = 0 ∧ i = 36 then c else if k = 0 ∧ i = 37 then p else if k = 0 ∧ i = 38 then z else if k = 0 ∧ i = 39 then s else if k = 0 ∧ i = 40 then v else if k = 0 ∧ i = 45 then kp else if k = 0 ∧ i = 46 then ef else m.1 k i)
  by_cases h : k = 0 ∧ i = 40
  · obtain ⟨rfl, rfl⟩ := h
    rfl
  · rw [if_neg h]
    simp only [h, if_false]
theorem tW_wkp {v : Int32} : xwi (tW rg c p z s o kp ef m) 0 45 v = tW rg c p z s o v ef m := by
  refine Prod.ext ?_ rfl
  funext k i
  show (if k = 0 ∧ i = 45 then v else (if k = 9 then rg i else if k = 0 ∧ i = 36 then c else if k = 0 ∧ i = 37 then p else if k = 0 ∧ i = 38 then z else if k = 0 ∧ i = 39 then s else if k = 0 ∧ i = 40 then o else if k = 0 ∧ i = 45 then kp else if k = 0 ∧ i = 46 then ef else m.1 k i)) = (if k = 9 then rg i else if k = 0 ∧ i = 36 then c else if k = 0 ∧ i = 37 then p else if k = 0 ∧ i = 38 then z else if k = 0 ∧ i = 39 then s else if k = 0 ∧ i = 40 then o else if k = 0 ∧ i = 45 then v else if k = 0 ∧ i = 46 then ef else m.1 k i)
  by_cases h : k = 0 ∧ i = 45
  · obtain ⟨rfl, rfl⟩ := h
    rfl
  · rw [if_neg h]
    simp only [h, if_false]
theorem tW_wef {v : Int32} : xwi (tW rg c p z s o kp ef m) 0 46 v = tW rg c p z s o kp v m := by
  refine Prod.ext ?_ rfl
  funext k i
  show (if k = 0 ∧ i = 46 then v else (if k = 9 then rg i else if k = 0 ∧ i = 36 then c else if k = 0 ∧ i = 37 then p else if k = 0 ∧ i = 38 then z else if k = 0 ∧ i = 39 then s else if k = 0 ∧ i = 40 then o else if k = 0 ∧ i = 45 then kp else if k = 0 ∧ i = 46 then ef else m.1 k i)) = (if k = 9 then rg i else if k = 0 ∧ i = 36 then c else if k = 0 ∧ i = 37 then p else if k = 0 ∧ i = 38 then z else if k = 0 ∧ i = 39 then s else if k = 0 ∧ i = 40 then o else if k = 0 ∧ i = 45 then kp else if k = 0 ∧ i = 46 then v else m.1 k i)
  by_cases h : k = 0 ∧ i = 46
  · obtain ⟨rfl, rfl⟩ := h
    rfl
  · rw [if_neg h]
    simp only [h, if_false]
theorem tW_wx {k j : Nat} {v : Int32} (h : ¬ k = 9 ∧ ¬ (k = 0 ∧ j = 36) ∧ ¬ (k = 0 ∧ j = 37) ∧ ¬ (k = 0 ∧ j = 38) ∧ ¬ (k = 0 ∧ j = 39) ∧ ¬ (k = 0 ∧ j = 40) ∧ ¬ (k = 0 ∧ j = 45) ∧ ¬ (k = 0 ∧ j = 46)) : xwi (tW rg c p z s o kp ef m) k j v = tW rg c p z s o kp ef (xwi m k j v) := by
  refine Prod.ext ?_ rfl
  funext a b
  show (if a = k ∧ b = j then v else (if a = 9 then rg b else if a = 0 ∧ b = 36 then c else if a = 0 ∧ b = 37 then p else if a = 0 ∧ b = 38 then z else if a = 0 ∧ b = 39 then s else if a = 0 ∧ b = 40 then o else if a = 0 ∧ b = 45 then kp else if a = 0 ∧ b = 46 then ef else m.1 a b)) = (if a = 9 then rg b else if a = 0 ∧ b = 36 then c else if a = 0 ∧ b = 37 then p else if a = 0 ∧ b = 38 then z else if a = 0 ∧ b = 39 then s else if a = 0 ∧ b = 40 then o else if a = 0 ∧ b = 45 then kp else if a = 0 ∧ b = 46 then ef else (xwi m k j v).1 a b)
  by_cases q : a = k ∧ b = j
  · obtain ⟨rfl, rfl⟩ := q
    rw [if_pos ⟨rfl, rfl⟩, if_neg h.1, if_neg h.2.1, if_neg h.2.2.1, if_neg h.2.2.2.1, if_neg h.2.2.2.2.1, if_neg h.2.2.2.2.2.1, if_neg h.2.2.2.2.2.2.1, if_neg h.2.2.2.2.2.2.2]
    exact (if_pos ⟨rfl, rfl⟩).symm
  · rw [if_neg q]
    have e : (xwi m k j v).1 a b = m.1 a b := if_neg q
    rw [e]
theorem tW_wl {k j : Nat} {v : Int64} : xwl (tW rg c p z s o kp ef m) k j v = tW rg c p z s o kp ef (xwl m k j v) := rfl
end tWS
/-! flags -/
def bI (b : Bool) : Int32 := if b then 1 else 0
def fb (c p z s o : Bool) : Int32 := (if c then 1 else 0) ||| (if p then 4 else 0) ||| (if z then 64 else 0) ||| (if s then 128 else 0) ||| (if o then 2048 else 0)
theorem bI_xz (b : Bool) : xz (bI b) := by cases b <;> decide
theorem bI_0 (b : Bool) : (bI b = 0) = (b = false) := by cases b <;> decide
theorem bI_e (a b : Bool) : (bI a = bI b) = (a = b) := by cases a <;> cases b <;> decide
theorem fb_c (c p z s o : Bool) : (fb c p z s o &&& 1 = 0) = (c = false) := by cases c <;> cases p <;> cases z <;> cases s <;> cases o <;> decide
theorem fb_p (c p z s o : Bool) : (fb c p z s o &&& 4 = 0) = (p = false) := by cases c <;> cases p <;> cases z <;> cases s <;> cases o <;> decide
theorem fb_z (c p z s o : Bool) : (fb c p z s o &&& 64 = 0) = (z = false) := by cases c <;> cases p <;> cases z <;> cases s <;> cases o <;> decide
theorem fb_s (c p z s o : Bool) : (fb c p z s o &&& 128 = 0) = (s = false) := by cases c <;> cases p <;> cases z <;> cases s <;> cases o <;> decide
theorem fb_o (c p z s o : Bool) : (fb c p z s o &&& 2048 = 0) = (o = false) := by cases c <;> cases p <;> cases z <;> cases s <;> cases o <;> decide
theorem fb_res : ∀ c p z s o p' z' s' : Bool, (fb c p z s o &&& (-197)) ||| (((if z' then (64 : Int32) else 0) ||| (if s' then (128 : Int32) else 0)) ||| (if p' then (4 : Int32) else 0)) = fb c p' z' s' o := by decide +kernel
theorem fb_cy : ∀ c p z s o c' o' : Bool, ((fb c p z s o &&& (-2050)) ||| (if c' then (1 : Int32) else 0)) ||| (if o' then (2048 : Int32) else 0) = fb c' p z s o' := by decide +kernel
theorem fb_c1 : ∀ c p z s o : Bool, fb c p z s o ||| 1 = fb true p z s o := by decide +kernel
theorem fb_c0 : ∀ c p z s o : Bool, fb c p z s o &&& ((1 : Int32) ^^^ (-1)) = fb false p z s o := by decide +kernel
theorem fb_z1 : ∀ c p z s o : Bool, fb c p z s o ||| 64 = fb c p true s o := by decide +kernel
theorem fb_z0 : ∀ c p z s o : Bool, fb c p z s o &&& ((64 : Int32) ^^^ (-1)) = fb c p false s o := by decide +kernel
theorem fb_sum : ∀ c p z s o : Bool, (((((if c then (1 : Int32) else 0) + (if p then (4 : Int32) else 0)) + (if z then (64 : Int32) else 0)) + (if s then (128 : Int32) else 0)) + (if o then (2048 : Int32) else 0)) = fb c p z s o := by decide +kernel
