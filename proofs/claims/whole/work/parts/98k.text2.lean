/-! texts: operands -/
def SP (w m : xW) (k : Nat) (F G : xW → Option (Unit × xW)) : Prop := ∃ T, okL k T ∧ ∀ (w' m' : xW) (n : Nat), w'.1 41 0 = nI n → m'.1 0 16 = nI n → n + k ≤ 80 → (∀ i, w'.1 2 i = w.1 2 i) → (∀ i, i ≠ 16 → m'.1 0 i = m.1 0 i) → F w' = some ((), tput w' T) ∧ G m' = some ((), mput m' T)
section SPS
variable {w m : xW} {L : Nat}
theorem SP.bind {a b : Nat} {F G F' G' : xW → Option (Unit × xW)} (h1 : SP w m a F G) (h2 : SP w m b F' G') : SP w m (a + b) (fun w => xbd (F w) (fun _ w1 => F' w1)) (fun m => xbd (G m) (fun _ w1 => G' w1)) := by
  obtain ⟨T, hT, f⟩ := h1
  obtain ⟨U, hU, g⟩ := h2
  have hl := hT.1
  refine ⟨T ++ U, okL_app hT hU, fun w' m' n hn hm hk e1 e2 => ?_⟩
  obtain ⟨x1, x2⟩ := f w' m' n hn hm (by omega) e1 e2
  obtain ⟨y1, y2⟩ := g (tput w' T) (mput m' T) (n + T.length) (tput_cnt hn (by omega)) (mput_cnt hm (by omega)) (by omega) (fun i => (tput_f hn (by omega) (by decide)).trans (e1 i)) (fun i hi => (mput_f hm (by omega) hi).trans (e2 i hi))
  constructor
  · show xbd (F w') _ = _
    rw [x1, tput_app]; exact y1
  · show xbd (G m') _ = _
    rw [x2, mput_app]; exact y2
theorem SP.nil : SP w m 0 (fun w => some ((), w)) (fun m => some ((), m)) := ⟨[], okL_nil, fun _ _ _ _ _ _ _ _ => ⟨rfl, rfl⟩⟩
theorem SP.mono {a b : Nat} {F G : xW → Option (Unit × xW)} (h1 : SP w m a F G) (h : a ≤ b) : SP w m b F G := by
  obtain ⟨T, hT, f⟩ := h1
  exact ⟨T, okL_le hT h, fun w' m' n hn hm hk e1 e2 => f w' m' n hn hm (by omega) e1 e2⟩
theorem SP.eq {a : Nat} {F G F' G' : xW → Option (Unit × xW)} (h1 : SP w m a F G) (hF : ∀ w' : xW, (∀ i, w'.1 2 i = w.1 2 i) → F' w' = F w') (hG : ∀ m' : xW, (∀ i, i ≠ 16 → m'.1 0 i = m.1 0 i) → G' m' = G m') : SP w m a F' G' := by
  obtain ⟨T, hT, f⟩ := h1
  exact ⟨T, hT, fun w' m' n hn hm hk e1 e2 => by rw [hF w' e1, hG m' e2]; exact f w' m' n hn hm hk e1 e2⟩
theorem SP.c {c : Nat} (hc : c < 256) : SP w m 1 (fun w => sbC (nI c) w) (fun m => sX12_say (nI c) m) :=
  ⟨[c], okL_c hc, fun _ _ _ hn hm hk _ _ => ⟨sbC_v hn (by omega) hc, say_v hm (by omega)⟩⟩
theorem xbd_e {r : Option (Unit × xW)} : xbd r (fun _ w1 => some ((), w1)) = r := by
  cases r with
  | none => rfl
  | some q => rfl
theorem SP.reg {i j : Nat} {x : Int32} {k l : Nat} {s : Int32} (hx : in8 x) (hs : wid s) (h1 : w.1 2 i = x) (h2 : m.1 0 j = x) (hj : j ≠ 16) (h3 : w.1 2 k = s) (h4 : m.1 0 l = s) (hl : l ≠ 16) : SP w m 3 (fun w => sX10_addRegister (w.1 2 i) (w.1 2 k) w) (fun m => sX12_sayRegister (m.1 0 j) (m.1 0 l) m) := by
  obtain ⟨r8, er⟩ := in8_r hx
  refine ⟨_, okL_reg r8 hs, fun w' m' n hn hm hk e1 e2 => ⟨?_, ?_⟩⟩
  · show sX10_addRegister (w'.1 2 i) (w'.1 2 k) w' = _
    rw [e1, e1, h1, h3, er, nI_clamp (by omega)]
    exact addReg_v hn (by omega) r8 hs
  · show sX12_sayRegister (m'.1 0 j) (m'.1 0 l) m' = _
    rw [e2 j hj, e2 l hl, h2, h4, er, nI_clamp (by omega)]
    exact sayReg_v hm (by omega) r8 hs
theorem SP.reg0 {i : Nat} {k l : Nat} {s : Int32} (hs : wid s) (h1 : w.1 2 i = 0) (h3 : w.1 2 k = s) (h4 : m.1 0 l = s) (hl : l ≠ 16) : SP w m 3 (fun w => sX10_addRegister (w.1 2 i) (w.1 2 k) w) (fun m => sX12_sayRegister (0 : Int32) (m.1 0 l) m) := by
  refine ⟨_, okL_reg (r := 0) (by decide) hs, fun w' m' n hn hm hk e1 e2 => ⟨?_, ?_⟩⟩
  · show sX10_addRegister (w'.1 2 i) (w'.1 2 k) w' = _
    rw [e1, e1, h1, h3]
    exact addReg_v hn (by omega) (by decide) hs
  · show sX12_sayRegister (0 : Int32) (m'.1 0 l) m' = _
    rw [e2 l hl, h4]
    exact sayReg_v hm (by omega) (by decide) hs
theorem SP.G (h : IR L w m) (he : eform (m.1 0 18) = true) : SP w m 3 (fun w => sX10_addRegister (w.1 2 8) (w.1 2 4) w) (fun m => sX12_sayRegister (m.1 0 23) (m.1 0 20) m) := by
  obtain ⟨e1, e2, e3, e4, -⟩ := h.E he
  obtain ⟨f1, f2, f3, f4, -⟩ := h.wd
  exact SP.reg e2 f3 rfl e4.symm (by decide) rfl f1.symm (by decide)
theorem SP.E (h : IR L w m) (he : eform (m.1 0 18) = true) : SP w m 24 (fun w => sX10_addE w) (fun m => sX12_sayE m) := by
  obtain ⟨e1, e2, e3, e4, e5⟩ := h.E he
  obtain ⟨f1, f2, f3, f4, -⟩ := h.wd
  rcases e5 with ⟨g1, g2⟩ | ⟨g1, g2, g3, g4, g5, g6, g7, s, hs, g8, g9⟩
  · refine ((SP.reg (i := 7) (j := 24) (k := 5) (l := 21) e1 f4 rfl e3.symm (by decide) rfl f2.symm (by decide)).mono (b := 24) (by decide)).eq (fun w' a => ?_) (fun m' a => ?_)
    · unfold sX10_addE
      rw [a 6, if_pos g2, xbd_e]
    · unfold sX12_sayE
      rw [a 22 (by decide), if_pos g1, xbd_e]
  · have key : ∀ c : Nat, c < 256 → SP w m 24 (fun w => sX10_addE_j67 (nI c) w) (fun m => sX12_sayE_j50 (nI c) m) := fun c hc => by
      have hb : w.1 2 9 = -1 ∨ in8 (w.1 2 9) := by rw [g3]; exact g6
      have hx : w.1 2 10 = -1 ∨ in8 (w.1 2 10) := by rw [g4]; exact g7
      have hoa := okL_a (d := w.1 2 12) hb hx hs
      have hol := hoa.1
      refine ⟨[c, 91] ++ (aL (w.1 2 9) (w.1 2 10) s (w.1 2 12) ++ [93]), okL_app (a := 2) (b := 22) (okL_app (a := 1) (b := 1) (okL_c hc) (okL_c (by decide))) (okL_app (a := 21) (b := 1) hoa (okL_c (by decide))), fun w' m' n hn hm hk q1 q2 => ⟨?_, ?_⟩⟩
      · show sX10_addE_j67 (nI c) w' = _
        have c1 := tput_cnt (l := [c]) hn (by show n + 1 ≤ 80; omega)
        have c2 := tput_cnt (l := [91]) c1 (by show n + 1 + 1 ≤ 80; omega)
        have f : ∀ i, (tput (tput w' [c]) [91]).1 2 i = w.1 2 i := fun i => by
          rw [tput_f c1 (by show n + 1 + 1 ≤ 80; omega) (by decide), tput_f hn (by show n + 1 ≤ 80; omega) (by decide), q1]
        have c3 := tput_cnt (l := aL (w.1 2 9) (w.1 2 10) s (w.1 2 12)) c2 (by show n + 1 + 1 + _ ≤ 80; omega)
        have hA := addr_v (s := s) c2 (by show n + 1 + 1 + 21 ≤ 80; omega) (by rw [f]; exact hb) (by rw [f]; exact hx) hs (by rw [f]; exact g8)
        rw [f, f, f] at hA
        unfold sX10_addE_j67
        rw [sbC_v hn (by omega) hc, bset, show (91 : Int32) = nI 91 from rfl, sbC_v c1 (by show n + 1 < 90; omega) (by decide), bset, hA, bset, show (93 : Int32) = nI 93 from rfl, sbC_v c3 (by show n + 1 + 1 + _ < 90; omega) (by decide), xbd_e, show [c, 91] = [c] ++ [91] from rfl, tput_app w' ([c] ++ [91]) _, tput_app w' [c] _, tput_app (tput (tput w' [c]) [91]) _ [93]]
      · show sX12_sayE_j50 (nI c) m' = _
        have hM := md_50 (s := s) hc hm hk (by rw [q2 25 (by decide)]; exact g6) (by rw [q2 26 (by decide)]; exact g7) hs (by rw [q2 27 (by decide)]; exact g9)
        rw [q2 25 (by decide), q2 26 (by decide), q2 28 (by decide), ← g3, ← g4, ← g5] at hM
        exact hM
    rcases f4 with f4 | f4 | f4
    · refine (key 98 (by decide)).eq (fun w' a => ?_) (fun m' a => ?_)
      · unfold sX10_addE
        rw [a 6, a 5, g2, f4, if_neg n10, if_pos rfl]; rfl
      · unfold sX12_sayE
        rw [a 22 (by decide), a 21 (by decide), if_neg g1, ← f2, f4, if_pos rfl]; rfl
    · refine (key 119 (by decide)).eq (fun w' a => ?_) (fun m' a => ?_)
      · unfold sX10_addE
        rw [a 6, a 5, g2, f4, if_neg n10, if_neg (by decide), if_pos rfl]; rfl
      · unfold sX12_sayE
        rw [a 22 (by decide), a 21 (by decide), if_neg g1, ← f2, f4, if_neg (by decide), if_pos rfl]; rfl
    · refine (key 100 (by decide)).eq (fun w' a => ?_) (fun m' a => ?_)
      · unfold sX10_addE
        rw [a 6, a 5, g2, f4, if_neg n10, if_neg (by decide), if_neg (by decide)]; rfl
      · unfold sX12_sayE
        rw [a 22 (by decide), a 21 (by decide), if_neg g1, ← f2, f4, if_neg (by decide), if_neg (by decide)]; rfl
/-- the class's E of a register where the reference says a register -/
theorem SP.Er {x s : Int32} {j l : Nat} (h6 : w.1 2 6 = 0) (hx : in8 x) (hs : wid s) (h1 : w.1 2 7 = x) (h2 : m.1 0 j = x) (hj : j ≠ 16) (h3 : w.1 2 5 = s) (h4 : m.1 0 l = s) (hl : l ≠ 16) : SP w m 3 (fun w => sX10_addE w) (fun m => sX12_sayRegister (m.1 0 j) (m.1 0 l) m) := by
  refine (SP.reg (i := 7) (j := j) (k := 5) (l := l) hx hs h1 h2 hj h3 h4 hl).eq (fun w' a => ?_) (fun m' a => rfl)
  unfold sX10_addE
  rw [a 6, if_pos h6, xbd_e]
theorem SP.E0 {s : Int32} {l : Nat} (h6 : w.1 2 6 = 0) (hs : wid s) (h1 : w.1 2 7 = 0) (h3 : w.1 2 5 = s) (h4 : m.1 0 l = s) (hl : l ≠ 16) : SP w m 3 (fun w => sX10_addE w) (fun m => sX12_sayRegister (0 : Int32) (m.1 0 l) m) := by
  refine (SP.reg0 (i := 7) (k := 5) (l := l) hs h1 h3 h4 hl).eq (fun w' a => ?_) (fun m' a => rfl)
  unfold sX10_addE
  rw [a 6, if_pos h6, xbd_e]
theorem SP.n (h : w.1 2 13 = m.1 0 29) : SP w m 11 (fun w => sbI (w.1 2 13) w) (fun m => sX12_sayOperands_j323 m) := by
  have ho := okL_num (m.1 0 29)
  refine ⟨_, ho, fun w' m' n hn hm hk e1 e2 => ⟨?_, ?_⟩⟩
  · show sbI (w'.1 2 13) w' = _
    rw [e1, h]; exact sbI_v _ hn (by omega)
  · show sX12_sayOperands_j323 m' = _
    unfold sX12_sayOperands_j323
    have hl := ho.1
    rw [xbd_e]
    have := sayInt_v (x := m'.1 0 29) hm (by rw [e2 29 (by decide)]; omega)
    rw [e2 29 (by decide)] at this
    rw [e2 29 (by decide)]
    exact this
theorem SP.u (h : w.1 2 13 = m.1 0 29) : SP w m 10 (fun w => sX10_addUnsigned (w.1 2 13) w) (fun m => sX12_sayNumber ((m.1 0 29).toInt64 &&& (4294967295 : Int64)) m) := by
  have ho := okL_dec (U := un (m.1 0 29)) (un_lt _)
  have hl := ho.1
  refine ⟨_, ho, fun w' m' n hn hm hk e1 e2 => ⟨?_, ?_⟩⟩
  · show sX10_addUnsigned (w'.1 2 13) w' = _
    rw [e1, h]; exact addUns_v _ hn (by omega)
  · show sX12_sayNumber ((m'.1 0 29).toInt64 &&& (4294967295 : Int64)) m' = _
    rw [e2 29 (by decide)]
    exact sayUns_v hm (by omega)
/-- the comma and the last number -/
theorem SP.ln (h : w.1 2 13 = m.1 0 29) (ha : m.1 0 18 = 3 ∨ m.1 0 18 = 4 ∨ m.1 0 18 = 9 ∨ m.1 0 18 = 12 ∨ m.1 0 18 = 13) : SP w m 12 (fun w => sX10_addLastNumber w) (fun m => sX12_sayOperands_j204 m) := by
  refine ((SP.c (w := w) (m := m) (c := 44) (by decide)).bind (SP.n h)).eq (fun w' a => ?_) (fun m' a => ?_)
  · unfold sX10_addLastNumber
    simp only [xbd_e]
    rfl
  · unfold sX12_sayOperands_j204 sX12_sayOperands_j265
    have e18 := a 18 (by decide)
    have hq : ∀ q : xW, q.1 0 18 = m.1 0 18 → sX12_sayOperands_j271 q = sX12_sayOperands_j323 q := fun q e => by
      unfold sX12_sayOperands_j271
      rw [e]
      rcases ha with ha | ha | ha | ha | ha <;> rw [ha] <;> rfl
    have hx : xbd (sX12_say (44 : Int32) m') (fun _ w1 => sX12_sayOperands_j271 w1) = xbd (sX12_say (nI 44) m') (fun _ w1 => sX12_sayOperands_j323 w1) := by
      show xbd (sX12_say (nI 44) m') _ = _
      unfold sX12_say
      split
      · show sX12_sayOperands_j271 _ = sX12_sayOperands_j323 _
        refine hq _ ?_
        rw [xwi_o (fun q => absurd q.2 (by decide)), xwi_o (fun q => absurd q.1 (by decide))]
        exact e18
      · rfl
    rw [e18]
    rcases ha with ha | ha | ha | ha | ha <;> rw [ha] <;> exact hx
theorem SP.one (h : w.1 2 13 = 1) (ha : m.1 0 18 = 10) : SP w m 12 (fun w => sX10_addLastNumber w) (fun m => sX12_sayOperands_j204 m) := by
  have hN : SP w m 11 (fun w => sbI (w.1 2 13) w) (fun m => sX12_sayOperands_j271 m) := by
    refine ⟨[49], okL_le (okL_c (by decide)) (by decide), fun w' m' n hn hm hk e1 e2 => ⟨?_, ?_⟩⟩
    · show sbI (w'.1 2 13) w' = _
      rw [e1, h, sbI_v _ hn (by omega)]
      rfl
    · show sX12_sayOperands_j271 m' = _
      unfold sX12_sayOperands_j271
      rw [e2 18 (by decide), ha, if_neg (by decide), if_neg (by decide), if_neg (by decide), if_neg (by decide), if_neg (by decide), if_neg (by decide), if_pos rfl]
      show xbd (sX12_say (nI 49) m') _ = _
      rw [say_v hm (by omega)]
      rfl
  refine ((SP.c (w := w) (m := m) (c := 44) (by decide)).bind hN).eq (fun w' a => ?_) (fun m' a => ?_)
  · unfold sX10_addLastNumber
    simp only [xbd_e]
    rfl
  · unfold sX12_sayOperands_j204 sX12_sayOperands_j265
    rw [a 18 (by decide), ha]
    rfl
theorem cl_l : strL 6 = 44 :: wordF 1 0 (strBy.getD 2 []) ∧ (strL 6).length = 3 ∧ 6 < strN ∧ strLenN 6 < 100 := by decide +kernel
theorem SP.cl (ha : m.1 0 18 = 11) : SP w m 3 (fun w => sbS 6 w) (fun m => sX12_sayOperands_j204 m) := by
  refine ⟨strL 6, ⟨Nat.le_of_eq cl_l.2.1, (strL_ok 6 (by decide)).2.2⟩, fun w' m' n hn hm hk e1 e2 => ⟨sbS_v hn (by omega) cl_l.2.2.1 cl_l.2.2.2, ?_⟩⟩
  show sX12_sayOperands_j204 m' = _
  have h1 : (tput w' [44]).1 41 0 = nI (n + 1) := tput_cnt hn (by show n + 1 ≤ 80; omega)
  have h2 : (mput m' [44]).1 0 16 = nI (n + 1) := mput_cnt hm (by show n + 1 ≤ 80; omega)
  have h18 : (mput m' [44]).1 0 18 = 11 := (mput_f hm (by show n + 1 ≤ 80; omega) (by decide)).trans ((e2 18 (by decide)).trans ha)
  unfold sX12_sayOperands_j204 sX12_sayOperands_j265
  rw [e2 18 (by decide), ha, if_neg (by decide), if_neg (by decide), if_neg (by decide), if_neg (by decide), if_neg (by decide), if_neg (by decide), if_pos rfl]
  show xbd (sX12_say (nI 44) m') _ = _
  rw [say_v hm (by omega), msay]
  unfold sX12_sayOperands_j271
  rw [h18, if_neg (by decide), if_neg (by decide), if_neg (by decide), if_neg (by decide), if_neg (by decide), if_neg (by decide), if_neg (by decide), if_pos rfl]
  show xbd (sX12_sayWord 2 (nI 1) (mput m' [44])) _ = _
  have hlen := cl_l.2.1
  rw [cl_l.1, List.length_cons] at hlen
  rw [xbd_e, sayWord_v (by decide) (by decide) h2 (by omega), cl_l.1]
  rfl
theorem SP.no (ha : ¬ (m.1 0 18 = 3 ∨ m.1 0 18 = 4 ∨ m.1 0 18 = 9 ∨ m.1 0 18 = 12 ∨ m.1 0 18 = 13 ∨ m.1 0 18 = 7 ∨ m.1 0 18 = 10 ∨ m.1 0 18 = 11)) : SP w m 0 (fun w => some ((), w)) (fun m => sX12_sayOperands_j204 m) := by
  refine SP.nil.eq (fun w' a => rfl) (fun m' a => ?_)
  unfold sX12_sayOperands_j204 sX12_sayOperands_j271
  have e := a 18 (by decide)
  simp only [not_or] at ha
  rw [e, if_neg ha.1, if_neg ha.2.1, if_neg ha.2.2.1, if_neg ha.2.2.2.1, if_neg ha.2.2.2.2.1, if_neg ha.2.2.2.2.2.2.1, if_neg ha.2.2.2.2.2.2.2, if_neg ha.1, if_neg ha.2.1, if_neg ha.2.2.1, if_neg ha.2.2.2.1, if_neg ha.2.2.2.2.1, if_neg ha.2.2.2.2.2.1, if_neg ha.2.2.2.2.2.2.1, if_neg ha.2.2.2.2.2.2.2]
theorem SP.seven (h : w.1 2 13 = m.1 0 29) (ha : m.1 0 18 = 7) : SP w m 11 (fun w => sbI (w.1 2 13) w) (fun m => sX12_sayOperands_j204 m) := by
  refine (SP.n h).eq (fun w' a => rfl) (fun m' a => ?_)
  unfold sX12_sayOperands_j204
  rw [a 18 (by decide), ha]
  show sX12_sayOperands_j271 m' = _
  unfold sX12_sayOperands_j271
  rw [a 18 (by decide), ha]
  rfl
def opPairs : List (Int32 × Int32) := [(0, 0), (1, 1), (1, 14), (2, 2), (3, 3), (3, 4), (3, 10), (3, 13), (4, 11), (5, 5), (5, 6), (6, 7), (7, 9), (8, 12), (9, 8)]
theorem opTab_ok : ∀ q ∈ opTab, (q.2.1, q.2.2.2) ∈ opPairs ∧ ((q.2.2.2 = 3 ∨ q.2.2.2 = 13 ∨ q.2.2.2 = 14 ∨ q.2.2.2 = 6) → ¬ q.2.2.1 = 49 ∧ ¬ q.2.2.1 = 52) := by decide +kernel
end SPS
