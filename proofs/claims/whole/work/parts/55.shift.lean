/-! shifts and rotations, by one, and so often -/
def shlV (n v : Int32) (b : Bool) : Int32 := ((v <<< ((1 : Int32) &&& 31)) ||| bI b) &&& mkV n
def shrV (n v : Int32) (b : Bool) : Int32 := xushr v 1 ||| (if b then tpV n else 0)
def isL (op : Int32) : Bool := op == 8 || op == 10 || op == 12
def inV (op : Int32) (c hi lo : Bool) : Bool := if op = 8 then hi else if op = 10 then c else if op = 9 then lo else if op = 11 then c else if op = 15 then hi else false
def shV (op n v : Int32) (c : Bool) : Int32 := if isL op then shlV n v (inV op c (tb v (bp n)) (tb v 0)) else shrV n v (inV op c (tb v (bp n)) (tb v 0))
def shC (op n v : Int32) : Bool := if isL op then tb v (bp n) else tb v 0
def shO (op n v : Int32) (c : Bool) : Bool := if isL op then Bool.xor (tb (shV op n v c) (bp n)) (tb v (bp n)) else if op = 13 then tb v (bp n) else if op = 15 then false else Bool.xor (inV op c (tb v (bp n)) (tb v 0)) (tb v (bp n))
def shTab : List (Int32 × Int32) := [(8, 21), (9, 22), (10, 23), (11, 24), (12, 25), (13, 26), (15, 27)]
theorem tb_1 (i : Nat) (b : Bool) : tb (bI b) i = (decide (i = 0) && b) := by
  cases b
  · show tb 0 i = _
    rw [tb_0, Bool.and_false]
  · show tb 1 i = _
    by_cases h : i < 32
    · rw [tb_lit1 i h, Bool.and_true]
    · rw [tb_ge 1 (by omega), decide_eq_false (by omega)]; rfl
theorem tb_shl1 (v : Int32) (i : Nat) : tb (v <<< ((1 : Int32) &&& 31)) i = (decide (i < 32) && !decide (i < 1) && tb v (i - 1)) := tb_shl v 1 i (by decide)
theorem tb_ushr1 (v : Int32) (i : Nat) : tb (xushr v 1) i = tb v (1 + i) := tb_ushr v 1 i (by decide)
theorem tb_if (b : Bool) (t : Int32) (i : Nat) : tb (if b then t else 0) i = (b && tb t i) := by
  cases b
  · exact tb_0 i
  · exact (Bool.true_and _).symm
section SHF
variable {n v : Int32}
theorem tb_of_mk (h : wid n) (hv : v &&& mkV n = v) {i : Nat} (hi : i < 32) (hb : bp n < i) : tb v i = false := by
  rw [← hv, tb_and, tb_mk h hi, decide_eq_false (by omega), Bool.and_false]
theorem shlV_mk (h : wid n) (b : Bool) : shlV n v b &&& mkV n = shlV n v b := mk_idem h _
theorem shrV_mk (h : wid n) (hv : v &&& mkV n = v) (b : Bool) : shrV n v b &&& mkV n = shrV n v b := mk_eq h (fun i hi hb => by
  unfold shrV
  rw [tb_or, tb_ushr1, tb_if, tb_tp h hi, decide_eq_false (by omega), Bool.and_false, Bool.or_false]
  by_cases q : 1 + i < 32
  · exact tb_of_mk h hv q (by omega)
  · exact tb_ge v (by omega))
theorem shV_mk (h : wid n) (hv : v &&& mkV n = v) (op : Int32) (c : Bool) : shV op n v c &&& mkV n = shV op n v c := by
  unfold shV
  split
  · exact shlV_mk h _
  · exact shrV_mk h hv _
theorem bp_pos (n : Int32) : 7 ≤ bp n := by unfold bp; split <;> (try split) <;> omega
theorem shrV_top (h : wid n) (hv : v &&& mkV n = v) (b : Bool) : tb (shrV n v b) (bp n) = b := by
  unfold shrV
  rw [tb_or, tb_ushr1, tb_if, tb_tp h (bp_lt n), decide_eq_true rfl, Bool.and_true]
  have : tb v (1 + bp n) = false := by
    by_cases q : 1 + bp n < 32
    · exact tb_of_mk h hv q (by omega)
    · exact tb_ge v (by omega)
  rw [this, Bool.false_or]
theorem shrV_top2 (h : wid n) (b : Bool) : tb (shrV n v b <<< ((1 : Int32) &&& 31)) (bp n) = tb v (bp n) := by
  have h1 := bp_lt n
  have h2 := bp_pos n
  rw [tb_shl1, decide_eq_true h1, decide_eq_false (by omega : ¬ bp n < 1)]
  show (true && true && tb (shrV n v b) (bp n - 1)) = _
  rw [Bool.and_true, Bool.true_and]
  unfold shrV
  rw [tb_or, tb_ushr1, tb_if, tb_tp h (by omega), decide_eq_false (by omega), Bool.and_false, Bool.or_false, show 1 + (bp n - 1) = bp n from by omega]
theorem if_bb {α : Type} (a b : Bool) (x y : α) : (if bI a = bI b then x else y) = (if Bool.xor a b then y else x) := by cases a <;> cases b <;> rfl
theorem if_b0 {α : Type} (b : Bool) (x y : α) : (if bI b = 0 then x else y) = (if b then y else x) := by cases b <;> rfl
variable {rg : Nat → Int32} {tr wh fo kp ef : Int32} {w m : xW} {c p z s o : Bool}
theorem tellCarry_w (a b : Bool) {x y : Int32} (hx : x = bI a) (hy : y = bI b) : sX2_tellCarry x y (sW rg (fb c p z s o) tr wh fo w) = some ((), sW rg (fb a p z s b) tr wh fo w) := by
  rw [hx, hy]; exact tellCarry_v a b
theorem sl91 (hi t : Bool) (r : Int32) : sX2_shiftLeft_j91 (bI hi) r (bI t) (bI hi) (sW rg (fb c p z s o) tr wh fo w) = some (r, sW rg (fb hi p z s (Bool.xor t hi)) tr wh fo w) := by
  unfold sX2_shiftLeft_j91
  rw [if_bb, tellCarry_w hi false (y := 0) rfl rfl, tellCarry_w hi true (y := 1) rfl rfl, xbd_some, xbd_some]
  cases t <;> cases hi <;> rfl
theorem sl67 (h : wid n) (hi b : Bool) : sX2_shiftLeft_j67 n (tpV n) (bI hi) (bI b) (v <<< ((1 : Int32) &&& 31)) (sW rg (fb c p z s o) tr wh fo w) = some (shlV n v b, sW rg (fb hi p z s (Bool.xor (tb (shlV n v b) (bp n)) hi)) tr wh fo w) := by
  unfold sX2_shiftLeft_j67
  rw [maskOf_v h, xbd_some]
  show (if shlV n v b &&& tpV n = 0 then sX2_shiftLeft_j91 (bI hi) (shlV n v b) 0 (bI hi) _ else sX2_shiftLeft_j91 (bI hi) (shlV n v b) 1 (bI hi) _) = _
  rw [if_tb (and_tp h (shlV n v b))]
  have e0 := sl91 (rg := rg) (tr := tr) (wh := wh) (fo := fo) (w := w) (c := c) (p := p) (z := z) (s := s) (o := o) hi false (shlV n v b)
  have e1 := sl91 (rg := rg) (tr := tr) (wh := wh) (fo := fo) (w := w) (c := c) (p := p) (z := z) (s := s) (o := o) hi true (shlV n v b)
  cases tb (shlV n v b) (bp n)
  · exact e0
  · exact e1
theorem sl52 (h : wid n) (hi b : Bool) : sX2_shiftLeft_j52 v n (tpV n) (bI hi) (bI b) (sW rg (fb c p z s o) tr wh fo w) = some (shlV n v b, sW rg (fb hi p z s (Bool.xor (tb (shlV n v b) (bp n)) hi)) tr wh fo w) := by
  unfold sX2_shiftLeft_j52
  rw [if_b0]
  cases b
  · exact sl67 h hi false
  · exact sl67 h hi true
theorem sl18 (h : wid n) (hi : Bool) {op : Int32} (hop : op = 8 ∨ op = 10 ∨ op = 12) : sX2_shiftLeft_j18 op v n (tpV n) (bI hi) (sW rg (fb c p z s o) tr wh fo w) = sX2_shiftLeft_j52 v n (tpV n) (bI hi) (bI (inV op c hi (tb v 0))) (sW rg (fb c p z s o) tr wh fo w) := by
  unfold sX2_shiftLeft_j18
  rcases hop with rfl | rfl | rfl
  · rfl
  · rw [if_pos (by decide), if_neg (by decide), if_pos (by decide), if_pos rfl, has_c, xbd_some, if_b0]
    show _ = sX2_shiftLeft_j52 v n (tpV n) (bI hi) (bI c) _
    cases c <;> rfl
  · rfl
theorem sl_c (h : wid n) {op : Int32} (hop : op = 8 ∨ op = 10 ∨ op = 12) : sX2_shiftLeft op v n (sW rg (fb c p z s o) tr wh fo w) = some (shV op n v c, sW rg (fb (shC op n v) p z s (shO op n v c)) tr wh fo w) := by
  unfold sX2_shiftLeft
  rw [topOf_v h, xbd_some, if_tb (and_tp h v)]
  have e : ∀ W, (if tb v (bp n) then sX2_shiftLeft_j18 op v n (tpV n) 1 W else sX2_shiftLeft_j18 op v n (tpV n) 0 W) = sX2_shiftLeft_j18 op v n (tpV n) (bI (tb v (bp n))) W := fun W => by cases tb v (bp n) <;> rfl
  rw [e, sl18 h _ hop, sl52 h]
  have hl : isL op = true := by rcases hop with rfl | rfl | rfl <;> decide
  unfold shO shC shV
  rw [hl]
  rfl
theorem sr130 (lo ov : Bool) (r : Int32) : sX2_shiftRight_j130 (bI lo) (bI ov) r (sW rg (fb c p z s o) tr wh fo w) = some (r, sW rg (fb lo p z s ov) tr wh fo w) := by
  unfold sX2_shiftRight_j130
  rw [tellCarry_v, xbd_some]
theorem sr92 {op : Int32} (hop : op = 9 ∨ op = 11 ∨ op = 13 ∨ op = 15) (hi lo b : Bool) (b0 b1 : Int32) : sX2_shiftRight_j92 op (bI hi) (bI lo) (bI b) b0 b1 (sW rg (fb c p z s o) tr wh fo w) = some (b1 ||| b0, sW rg (fb lo p z s (if op = 13 then hi else if op = 15 then false else Bool.xor b hi)) tr wh fo w) := by
  unfold sX2_shiftRight_j92 sX2_shiftRight_j127 sX2_shiftRight_j128
  have e0 := sr130 (rg := rg) (tr := tr) (wh := wh) (fo := fo) (w := w) (c := c) (p := p) (z := z) (s := s) (o := o) lo false (b1 ||| b0)
  have e1 := sr130 (rg := rg) (tr := tr) (wh := wh) (fo := fo) (w := w) (c := c) (p := p) (z := z) (s := s) (o := o) lo true (b1 ||| b0)
  rw [if_bb, sr130]
  rcases hop with rfl | rfl | rfl | rfl
  · show (if Bool.xor b hi then sX2_shiftRight_j130 (bI lo) 1 (b1 ||| b0) _ else sX2_shiftRight_j130 (bI lo) 0 (b1 ||| b0) _) = some (b1 ||| b0, sW rg (fb lo p z s (Bool.xor b hi)) tr wh fo w)
    cases Bool.xor b hi
    · exact e0
    · exact e1
  · show (if Bool.xor b hi then sX2_shiftRight_j130 (bI lo) 1 (b1 ||| b0) _ else sX2_shiftRight_j130 (bI lo) 0 (b1 ||| b0) _) = some (b1 ||| b0, sW rg (fb lo p z s (Bool.xor b hi)) tr wh fo w)
    cases Bool.xor b hi
    · exact e0
    · exact e1
  · rfl
  · exact e0
theorem sr78 {op : Int32} (hop : op = 9 ∨ op = 11 ∨ op = 13 ∨ op = 15) (hi lo b : Bool) : sX2_shiftRight_j78 op v (tpV n) (bI hi) (bI lo) (bI b) (sW rg (fb c p z s o) tr wh fo w) = some (shrV n v b, sW rg (fb lo p z s (if op = 13 then hi else if op = 15 then false else Bool.xor b hi)) tr wh fo w) := by
  unfold sX2_shiftRight_j78
  rw [if_b0, sr92 hop, sr92 hop]
  cases b <;> rfl
theorem sr31 {op : Int32} (hop : op = 9 ∨ op = 11 ∨ op = 13 ∨ op = 15) (hi lo : Bool) : sX2_shiftRight_j31 op v (tpV n) (bI hi) (bI lo) (sW rg (fb c p z s o) tr wh fo w) = some (shrV n v (inV op c hi lo), sW rg (fb lo p z s (if op = 13 then hi else if op = 15 then false else Bool.xor (inV op c hi lo) hi)) tr wh fo w) := by
  rw [← sr78 (v := v) (n := n) hop hi lo (inV op c hi lo)]
  unfold sX2_shiftRight_j31
  rcases hop with rfl | rfl | rfl | rfl
  · rfl
  · rw [if_pos (by decide), if_neg (by decide), if_pos (by decide), if_pos rfl, has_c, xbd_some]
    rfl
  · rfl
  · rfl
theorem sr_c (h : wid n) {op : Int32} (hop : op = 9 ∨ op = 11 ∨ op = 13 ∨ op = 15) : sX2_shiftRight op v n (sW rg (fb c p z s o) tr wh fo w) = some (shV op n v c, sW rg (fb (shC op n v) p z s (shO op n v c)) tr wh fo w) := by
  unfold sX2_shiftRight sX2_shiftRight_j18
  rw [topOf_v h, xbd_some, if_tb (and_tp h v)]
  simp only [if_tb (and_1 v)]
  have e : ∀ W, (if tb v (bp n) then (if tb v 0 then sX2_shiftRight_j31 op v (tpV n) 1 1 W else sX2_shiftRight_j31 op v (tpV n) 1 0 W) else (if tb v 0 then sX2_shiftRight_j31 op v (tpV n) 0 1 W else sX2_shiftRight_j31 op v (tpV n) 0 0 W)) = sX2_shiftRight_j31 op v (tpV n) (bI (tb v (bp n))) (bI (tb v 0)) W := fun W => by cases tb v (bp n) <;> cases tb v 0 <;> rfl
  rw [e, sr31 hop]
  have hl : isL op = false := by rcases hop with rfl | rfl | rfl | rfl <;> decide
  unfold shO shC shV
  rw [hl]
  rfl
/-- the reference, once -/
theorem rf301 (h : wid n) {K : Int32 → Int32 → Int32 → Int32 → xW → Option (Int32 × xW)} {a2 a5 c1 p1 z1 s1 o1 : Int32} {hi : Bool} (v' : Int32) {op : Int32} (hm : m.1 0 17 = op) : 
    sX12_shifted_j301 K a2 n v' a5 (bI hi) 0 (tW rg c1 p1 z1 s1 o1 kp ef m) = K a2 n v' (a5 + 1) (tW rg c1 p1 z1 s1 (bI (if op = 26 then hi else if op = 27 then false else Bool.xor (tb v' (bp n)) (tb (v' <<< ((1 : Int32) &&& 31)) (bp n)))) kp ef m) := by
  unfold sX12_shifted_j301
  rw [if_pos rfl, tW_lo (by decide), hm, if_pos (bI_xz _), tW_wo, tW_wo, top_v h, xbd_some, top_v h, xbd_some, if_bb, tW_wo, tW_wo]
  by_cases q1 : op = 26
  · rw [if_pos q1, if_pos q1]
  · rw [if_neg q1, if_neg q1]
    by_cases q2 : op = 27
    · rw [if_pos q2, if_pos q2]; rfl
    · rw [if_neg q2, if_neg q2]
      cases Bool.xor (tb v' (bp n)) (tb (v' <<< ((1 : Int32) &&& 31)) (bp n)) <;> rfl
theorem rf296 (h : wid n) {K : Int32 → Int32 → Int32 → Int32 → xW → Option (Int32 × xW)} {a2 a5 a6 p1 z1 s1 o1 : Int32} {hi : Bool} (v' : Int32) :
    sX12_shifted_j296 K a2 n v' a5 a6 (tW rg (bI hi) p1 z1 s1 o1 kp ef m) = K a2 n v' (a5 + 1) (tW rg (bI hi) p1 z1 s1 (bI (Bool.xor (tb v' (bp n)) hi)) kp ef m) := by
  unfold sX12_shifted_j296 sX12_shifted_j301
  rw [if_neg (by decide), top_v h, xbd_some, tW_c, if_bb, tW_wo, tW_wo]
  cases Bool.xor (tb v' (bp n)) hi <;> rfl
theorem rf260 (h : wid n) {K : Int32 → Int32 → Int32 → Int32 → xW → Option (Int32 × xW)} {a2 a4 a5 p1 z1 s1 o1 : Int32} {hi cy : Bool} {op : Int32} (hm : m.1 0 17 = op) :
    sX12_shifted_j260 K a2 n a4 a5 (bI hi) (tW rg (bI cy) p1 z1 s1 o1 kp ef m) = K a2 n (a4 &&& mkV n) (a5 + 1) (tW rg (bI cy) p1 z1 s1 (bI (if op = 21 ∨ op = 23 ∨ op = 25 then Bool.xor (tb (a4 &&& mkV n) (bp n)) cy else if op = 26 then hi else if op = 27 then false else Bool.xor (tb (a4 &&& mkV n) (bp n)) (tb ((a4 &&& mkV n) <<< ((1 : Int32) &&& 31)) (bp n)))) kp ef m) := by
  unfold sX12_shifted_j260
  rw [mask_v h, xbd_some, tW_lo (by decide), hm, rf296 h, rf301 h _ hm]
  by_cases q1 : op = 21
  · rw [if_pos q1, if_pos (Or.inl q1)]
  · rw [if_neg q1]
    by_cases q2 : op = 23
    · rw [if_pos q2, if_pos (Or.inr (Or.inl q2))]
    · rw [if_neg q2]
      by_cases q3 : op = 25
      · rw [if_pos q3, if_pos (Or.inr (Or.inr q3))]
      · rw [if_neg q3, if_neg (show ¬ (op = 21 ∨ op = 23 ∨ op = 25) from fun q => q.elim q1 (fun q => q.elim q2 q3))]
theorem top_n (h : wid n) : (1 : Int32) <<< ((((8 : Int32) * n) - (1 : Int32)) &&& 31) = tpV n := by
  rcases h with rfl | rfl | rfl <;> decide
theorem or_z (x : Int32) : x ||| 0 = x := i32_ext (fun i _ => by rw [tb_or, tb_0, Bool.or_false])
theorem shlV_b (b : Bool) (y : Int32) (hy : y = bI b) : ((v <<< ((1 : Int32) &&& 31)) ||| y) &&& mkV n = shlV n v b := by rw [hy]; rfl
theorem rf_m (h : wid n) (hv : v &&& mkV n = v) {K : Int32 → Int32 → Int32 → Int32 → xW → Option (Int32 × xW)} {a2 a5 p1 z1 s1 o1 : Int32} {cop op : Int32} (ht : (cop, op) ∈ shTab) (hm : m.1 0 17 = op) :
    sX12_shifted_j42 K a2 n v a5 (bI (tb v (bp n))) (bI (tb v 0)) (tW rg (bI c) p1 z1 s1 o1 kp ef m) = K a2 n (shV cop n v c) (a5 + 1) (tW rg (bI (shC cop n v)) p1 z1 s1 (bI (shO cop n v c)) kp ef m) := by
  unfold sX12_shifted_j42
  dsimp only [xlet]
  rw [top_n h, tW_lo (by decide), hm]
  simp only [shTab, List.mem_cons, List.not_mem_nil, or_false, Prod.mk.injEq] at ht
  rcases ht with ⟨rfl, rfl⟩ | ⟨rfl, rfl⟩ | ⟨rfl, rfl⟩ | ⟨rfl, rfl⟩ | ⟨rfl, rfl⟩ | ⟨rfl, rfl⟩ | ⟨rfl, rfl⟩
  · show (if bI (tb v (bp n)) = 0 then sX12_shifted_j110 K a2 n a5 (bI (tb v (bp n))) 0 (v <<< ((1 : Int32) &&& 31)) _ else sX12_shifted_j110 K a2 n a5 (bI (tb v (bp n))) 1 (v <<< ((1 : Int32) &&& 31)) _) = _
    rw [if_b0]
    unfold sX12_shifted_j110
    rw [if_pos (bI_xz _), if_pos (bI_xz _), tW_wc, rf260 h hm, rf260 h hm, if_pos (Or.inl rfl), if_pos (Or.inl rfl), shlV_b true 1 rfl, shlV_b false 0 rfl]
    show _ = K a2 n (shlV n v (tb v (bp n))) (a5 + 1) (tW rg (bI (tb v (bp n))) p1 z1 s1 (bI (Bool.xor (tb (shlV n v (tb v (bp n))) (bp n)) (tb v (bp n)))) kp ef m)
    cases tb v (bp n) <;> rfl
  · show (if bI (tb v 0) = 0 then sX12_shifted_j137 K a2 n a5 (bI (tb v (bp n))) (bI (tb v 0)) 0 (xushr v 1) _ else sX12_shifted_j137 K a2 n a5 (bI (tb v (bp n))) (bI (tb v 0)) (tpV n) (xushr v 1) _) = _
    rw [if_b0]
    have e : ∀ W, (if tb v 0 then sX12_shifted_j137 K a2 n a5 (bI (tb v (bp n))) (bI (tb v 0)) (tpV n) (xushr v 1) W else sX12_shifted_j137 K a2 n a5 (bI (tb v (bp n))) (bI (tb v 0)) 0 (xushr v 1) W) = sX12_shifted_j137 K a2 n a5 (bI (tb v (bp n))) (bI (tb v 0)) (if tb v 0 then tpV n else 0) (xushr v 1) W := fun W => by cases tb v 0 <;> rfl
    rw [e]
    unfold sX12_shifted_j137
    rw [if_pos (bI_xz _), tW_wc, rf260 h hm]
    show K a2 n (shrV n v (tb v 0) &&& mkV n) (a5 + 1) (tW rg (bI (tb v 0)) p1 z1 s1 (bI (Bool.xor (tb (shrV n v (tb v 0) &&& mkV n) (bp n)) (tb ((shrV n v (tb v 0) &&& mkV n) <<< ((1 : Int32) &&& 31)) (bp n)))) kp ef m) = K a2 n (shrV n v (tb v 0)) (a5 + 1) (tW rg (bI (tb v 0)) p1 z1 s1 (bI (Bool.xor (tb v 0) (tb v (bp n)))) kp ef m)
    rw [shrV_mk h hv, shrV_top h hv, shrV_top2 h]
  · show (if (tW rg (bI c) p1 z1 s1 o1 kp ef m).1 0 36 = 0 then sX12_shifted_j165 K a2 n a5 (bI (tb v (bp n))) 0 (v <<< ((1 : Int32) &&& 31)) _ else sX12_shifted_j165 K a2 n a5 (bI (tb v (bp n))) 1 (v <<< ((1 : Int32) &&& 31)) _) = _
    rw [tW_c, if_b0]
    unfold sX12_shifted_j165
    rw [if_pos (bI_xz _), if_pos (bI_xz _), tW_wc, rf260 h hm, rf260 h hm, if_pos (Or.inr (Or.inl rfl)), if_pos (Or.inr (Or.inl rfl)), shlV_b true 1 rfl, shlV_b false 0 rfl]
    show _ = K a2 n (shlV n v c) (a5 + 1) (tW rg (bI (tb v (bp n))) p1 z1 s1 (bI (Bool.xor (tb (shlV n v c) (bp n)) (tb v (bp n)))) kp ef m)
    cases c <;> rfl
  · show (if (tW rg (bI c) p1 z1 s1 o1 kp ef m).1 0 36 = 0 then sX12_shifted_j194 K a2 n a5 (bI (tb v (bp n))) (bI (tb v 0)) 0 (xushr v 1) _ else sX12_shifted_j194 K a2 n a5 (bI (tb v (bp n))) (bI (tb v 0)) (tpV n) (xushr v 1) _) = _
    rw [tW_c, if_b0]
    have e : ∀ W, (if c then sX12_shifted_j194 K a2 n a5 (bI (tb v (bp n))) (bI (tb v 0)) (tpV n) (xushr v 1) W else sX12_shifted_j194 K a2 n a5 (bI (tb v (bp n))) (bI (tb v 0)) 0 (xushr v 1) W) = sX12_shifted_j194 K a2 n a5 (bI (tb v (bp n))) (bI (tb v 0)) (if c then tpV n else 0) (xushr v 1) W := fun W => by cases c <;> rfl
    rw [e]
    unfold sX12_shifted_j194
    rw [if_pos (bI_xz _), tW_wc, rf260 h hm]
    show K a2 n (shrV n v c &&& mkV n) (a5 + 1) (tW rg (bI (tb v 0)) p1 z1 s1 (bI (Bool.xor (tb (shrV n v c &&& mkV n) (bp n)) (tb ((shrV n v c &&& mkV n) <<< ((1 : Int32) &&& 31)) (bp n)))) kp ef m) = K a2 n (shrV n v c) (a5 + 1) (tW rg (bI (tb v 0)) p1 z1 s1 (bI (Bool.xor c (tb v (bp n)))) kp ef m)
    rw [shrV_mk h hv, shrV_top h hv, shrV_top2 h]
  · show (if xz (bI (tb v (bp n))) then sX12_shifted_j260 K a2 n (v <<< ((1 : Int32) &&& 31)) a5 (bI (tb v (bp n))) (xwi (tW rg (bI c) p1 z1 s1 o1 kp ef m) 0 36 (bI (tb v (bp n)))) else none) = _
    rw [if_pos (bI_xz _), tW_wc, rf260 h hm, if_pos (Or.inr (Or.inr rfl))]
    show K a2 n ((v <<< ((1 : Int32) &&& 31)) &&& mkV n) (a5 + 1) (tW rg (bI (tb v (bp n))) p1 z1 s1 (bI (Bool.xor (tb ((v <<< ((1 : Int32) &&& 31)) &&& mkV n) (bp n)) (tb v (bp n)))) kp ef m) = K a2 n (shlV n v false) (a5 + 1) (tW rg (bI (tb v (bp n))) p1 z1 s1 (bI (Bool.xor (tb (shlV n v false) (bp n)) (tb v (bp n)))) kp ef m)
    rw [← shlV_b (n := n) (v := v) false 0 rfl, or_z]
  · show (if xz (bI (tb v 0)) then sX12_shifted_j260 K a2 n (xushr v 1) a5 (bI (tb v (bp n))) (xwi (tW rg (bI c) p1 z1 s1 o1 kp ef m) 0 36 (bI (tb v 0))) else none) = _
    rw [if_pos (bI_xz _), tW_wc, rf260 h hm]
    have e : xushr v 1 = shrV n v false := (or_z _).symm
    rw [e, shrV_mk h hv]
    rfl
  · show (if bI (tb v (bp n)) = 0 then sX12_shifted_j251 K a2 n a5 (bI (tb v (bp n))) (bI (tb v 0)) 0 (xushr v 1) _ else sX12_shifted_j251 K a2 n a5 (bI (tb v (bp n))) (bI (tb v 0)) (tpV n) (xushr v 1) _) = _
    rw [if_b0]
    have e : ∀ W, (if tb v (bp n) then sX12_shifted_j251 K a2 n a5 (bI (tb v (bp n))) (bI (tb v 0)) (tpV n) (xushr v 1) W else sX12_shifted_j251 K a2 n a5 (bI (tb v (bp n))) (bI (tb v 0)) 0 (xushr v 1) W) = sX12_shifted_j251 K a2 n a5 (bI (tb v (bp n))) (bI (tb v 0)) (if tb v (bp n) then tpV n else 0) (xushr v 1) W := fun W => by cases tb v (bp n) <;> rfl
    rw [e]
    unfold sX12_shifted_j251
    rw [if_pos (bI_xz _), tW_wc, rf260 h hm]
    show K a2 n (shrV n v (tb v (bp n)) &&& mkV n) (a5 + 1) (tW rg (bI (tb v 0)) p1 z1 s1 (bI false) kp ef m) = K a2 n (shrV n v (tb v (bp n))) (a5 + 1) (tW rg (bI (tb v 0)) p1 z1 s1 (bI false) kp ef m)
    rw [shrV_mk h hv]
theorem sh_loop (h : wid n) {cop op : Int32} (ht : (cop, op) ∈ shTab) (hm : m.1 0 17 = op) {k : Nat} (hk : k < 32) : ∀ (j i : Nat) (v : Int32) (c o : Bool), i + j = k → v &&& mkV n = v → ∃ (v' : Int32) (c' o' : Bool), v' &&& mkV n = v' ∧
    (∀ (fuel : Nat) (rg : Nat → Int32) (p z s : Bool) (tr wh fo : Int32) (w : xW), j < fuel → sX2_shift_l6 fuel cop (nI k) n v (nI i) (sW rg (fb c p z s o) tr wh fo w) = sX2_shift_j69 cop n v' (sW rg (fb c' p z s o') tr wh fo w)) ∧
    (∀ (fuel : Nat) (rg : Nat → Int32) (p z s kp ef : Int32), j < fuel → sX12_shifted_l16 fuel (nI k) n v (nI i) (tW rg (bI c) p z s (bI o) kp ef m) = (if op < 25 then some (v', tW rg (bI c') p z s (bI o') kp ef m) else xbd (sX12_byResult v' n (tW rg (bI c') p z s (bI o') kp ef m)) (fun _ w1 => some (v', w1)))) := by
  intro j
  induction j with
  | zero =>
    intro i v c o hij hv
    refine ⟨v, c, o, hv, ?_, ?_⟩
    · intro fuel rg p z s tr wh fo w hf
      cases fuel with
      | zero => omega
      | succ f => rw [sX2_shift_l6, if_neg (nI_nltI (by omega) (by omega) (by omega))]
    · intro fuel rg p z s kp ef hf
      cases fuel with
      | zero => omega
      | succ f => rw [sX12_shifted_l16, if_neg (nI_nltI (by omega) (by omega) (by omega)), tW_lo (by decide), hm]
  | succ j ih =>
    intro i v c o hij hv
    obtain ⟨v', c', o', hv', hC, hM⟩ := ih (i + 1) (shV cop n v c) (shC cop n v) (shO cop n v c) (by omega) (shV_mk h hv cop c)
    refine ⟨v', c', o', hv', ?_, ?_⟩
    · intro fuel rg p z s tr wh fo w hf
      cases fuel with
      | zero => omega
      | succ f =>
        rw [← hC f rg p z s tr wh fo w (by omega), sX2_shift_l6, if_pos ((nI_ltI2 (by omega) (by omega)).mpr (by omega)), if_pos (show nI i < (32 : Int32) from (nI_ltI2 (a := i) (b := 32) (by omega) (by decide)).mpr (by omega)), ← nI_1]
        simp only [shTab, List.mem_cons, List.not_mem_nil, or_false, Prod.mk.injEq] at ht
        rcases ht with ⟨rfl, -⟩ | ⟨rfl, -⟩ | ⟨rfl, -⟩ | ⟨rfl, -⟩ | ⟨rfl, -⟩ | ⟨rfl, -⟩ | ⟨rfl, -⟩
        · rw [if_pos (by decide), if_pos rfl]
          unfold sX2_shift_j40
          rw [sl_c h (Or.inl rfl), xbd_some]
        · rw [if_pos (by decide), if_neg (by decide), if_pos (by decide), if_neg (by decide), if_pos (by decide), if_neg (by decide), sr_c h (Or.inl rfl), xbd_some]
        · rw [if_pos (by decide), if_neg (by decide), if_pos (by decide), if_pos rfl]
          unfold sX2_shift_j40
          rw [sl_c h (Or.inr (Or.inl rfl)), xbd_some]
        · rw [if_pos (by decide), if_neg (by decide), if_pos (by decide), if_neg (by decide), if_pos (by decide), if_neg (by decide), sr_c h (Or.inr (Or.inl rfl)), xbd_some]
        · rw [if_pos (by decide), if_neg (by decide), if_pos (by decide), if_neg (by decide), if_pos (by decide), if_pos rfl]
          unfold sX2_shift_j40
          rw [sl_c h (Or.inr (Or.inr rfl)), xbd_some]
        · rw [if_pos (by decide), if_neg (by decide), if_pos (by decide), if_neg (by decide), if_pos (by decide), if_neg (by decide), sr_c h (Or.inr (Or.inr (Or.inl rfl))), xbd_some]
        · rw [if_pos (by decide), if_neg (by decide), if_pos (by decide), if_neg (by decide), if_pos (by decide), if_neg (by decide), sr_c h (Or.inr (Or.inr (Or.inr rfl))), xbd_some]
    · intro fuel rg p z s kp ef hf
      cases fuel with
      | zero => omega
      | succ f =>
        rw [← hM f rg p z s kp ef (by omega), sX12_shifted_l16, if_pos ((nI_ltI2 (by omega) (by omega)).mpr (by omega)), top_v h, xbd_some, if_tb (and_1 v)]
        have e : ∀ W, (if tb v 0 then sX12_shifted_j42 (sX12_shifted_l16 f) (nI k) n v (nI i) (bI (tb v (bp n))) 1 W else sX12_shifted_j42 (sX12_shifted_l16 f) (nI k) n v (nI i) (bI (tb v (bp n))) 0 W) = sX12_shifted_j42 (sX12_shifted_l16 f) (nI k) n v (nI i) (bI (tb v (bp n))) (bI (tb v 0)) W := fun W => by cases tb v 0 <;> rfl
        rw [e, rf_m h hv ht hm, nI_1]
theorem shift_p (h : wid n) {cop op : Int32} (ht : (cop, op) ∈ shTab) (hm : m.1 0 17 = op) (hn : m.1 0 20 = n) {k : Nat} (hk : k < 32) (hv : v &&& mkV n = v) (c p z s o : Bool) : ∃ (r : Int32) (c1 p1 z1 s1 o1 : Bool), r &&& mkV n = r ∧
    (∀ (rg : Nat → Int32) (tr wh fo : Int32) (w : xW), sX2_shift cop v (nI k) n (sW rg (fb c p z s o) tr wh fo w) = some (r, sW rg (fb c1 p1 z1 s1 o1) tr wh fo w)) ∧
    (∀ (rg : Nat → Int32) (kp ef : Int32), sX12_shifted v (nI k) (tW rg (bI c) (bI p) (bI z) (bI s) (bI o) kp ef m) = some (r, tW rg (bI c1) (bI p1) (bI z1) (bI s1) (bI o1) kp ef m)) := by
  obtain ⟨r, c', o', hr, hC, hM⟩ := sh_loop h ht hm hk k 0 v c o (by omega) hv
  have hS : ∀ (rg : Nat → Int32) (kp ef : Int32), sX12_shifted v (nI k) (tW rg (bI c) (bI p) (bI z) (bI s) (bI o) kp ef m) = (if op < 25 then some (r, tW rg (bI c') (bI p) (bI z) (bI s) (bI o') kp ef m) else xbd (sX12_byResult r n (tW rg (bI c') (bI p) (bI z) (bI s) (bI o') kp ef m)) (fun _ w1 => some (r, w1))) := by
    intro rg kp ef
    unfold sX12_shifted
    rw [tW_lo (by decide), hn, mask_v h, xbd_some, hv]
    exact hM 70000 rg _ _ _ kp ef (by omega)
  have hSc : ∀ (rg : Nat → Int32) (tr wh fo : Int32) (w : xW), sX2_shift cop v (nI k) n (sW rg (fb c p z s o) tr wh fo w) = sX2_shift_j69 cop n r (sW rg (fb c' p z s o') tr wh fo w) := fun rg tr wh fo w => hC 70000 rg p z s tr wh fo w (by omega)
  have h90 : ∀ (rg : Nat → Int32) (tr wh fo : Int32) (w : xW), sX2_shift_j90 n r (sW rg (fb c' p z s o') tr wh fo w) = some (r, sW rg (fb c' (par8 r) (rz n r) (tb r (bp n)) o') tr wh fo w) := by
    intro rg tr wh fo w
    unfold sX2_shift_j90
    have := tellResult_v (rg := rg) (tr := tr) (wh := wh) (fo := fo) (w := w) (c := c') (p := p) (z := z) (s := s) (o := o') h r
    rw [hr] at this
    rw [this, xbd_some]
  simp only [shTab, List.mem_cons, List.not_mem_nil, or_false, Prod.mk.injEq] at ht
  rcases ht with ⟨rfl, rfl⟩ | ⟨rfl, rfl⟩ | ⟨rfl, rfl⟩ | ⟨rfl, rfl⟩ | ⟨rfl, rfl⟩ | ⟨rfl, rfl⟩ | ⟨rfl, rfl⟩
  · exact ⟨r, c', p, z, s, o', hr, fun rg tr wh fo w => (hSc rg tr wh fo w).trans rfl, fun rg kp ef => (hS rg kp ef).trans rfl⟩
  · exact ⟨r, c', p, z, s, o', hr, fun rg tr wh fo w => (hSc rg tr wh fo w).trans rfl, fun rg kp ef => (hS rg kp ef).trans rfl⟩
  · exact ⟨r, c', p, z, s, o', hr, fun rg tr wh fo w => (hSc rg tr wh fo w).trans rfl, fun rg kp ef => (hS rg kp ef).trans rfl⟩
  · exact ⟨r, c', p, z, s, o', hr, fun rg tr wh fo w => (hSc rg tr wh fo w).trans rfl, fun rg kp ef => (hS rg kp ef).trans rfl⟩
  · exact ⟨r, c', _, _, _, o', hr, fun rg tr wh fo w => (hSc rg tr wh fo w).trans (h90 rg tr wh fo w), fun rg kp ef => by rw [hS, if_neg (by decide), byResult_v h, xbd_some]⟩
  · exact ⟨r, c', _, _, _, o', hr, fun rg tr wh fo w => (hSc rg tr wh fo w).trans (h90 rg tr wh fo w), fun rg kp ef => by rw [hS, if_neg (by decide), byResult_v h, xbd_some]⟩
  · exact ⟨r, c', _, _, _, o', hr, fun rg tr wh fo w => (hSc rg tr wh fo w).trans (h90 rg tr wh fo w), fun rg kp ef => by rw [hS, if_neg (by decide), byResult_v h, xbd_some]⟩
end SHF
