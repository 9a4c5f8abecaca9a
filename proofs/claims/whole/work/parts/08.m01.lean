/-! the reference, method by method: 1 -/
set_option maxRecDepth 20000 in
def sX12_thrown (w : xW) : Option (Int32 × xW) :=
  some ((w.1 0 0), w)
set_option maxRecDepth 20000 in
theorem tX12_thrown (w : xW) : xJ ιI mX12_thrown lM (0, 0) 0 [(0, .ref 0)] [] w (sX12_thrown w) := by
  unfold sX12_thrown
  refine xj_aloadn 0 dX12_thrown_0 rfl rfl ?_
  refine gfX12_53 (v := (w.1 0 0)) dX12_thrown_1 rfl rfl ?_
  exact xj_ri dX12_thrown_4 rfl
theorem kX12_thrown (w : xW) : xMet jI mX12_thrown lM (0, 0) [.ref 0] w (sX12_thrown w) := xj_met lM_ok (by decide) (Nat.le_of_ble_eq_true rfl) (Nat.zero_le _) (Nat.zero_le _) (tX12_thrown w)
set_option maxRecDepth 20000 in
def sX12_isIn (p0 : Int64) (p2 : Int64) (p4 : Int64) (w : xW) : Option (Int32 × xW) :=
  (if p0 < p2 then some ((0 : Int32), w) else (if p4 < p0 then some ((0 : Int32), w) else some ((1 : Int32), w)))
set_option maxRecDepth 20000 in
theorem tX12_isIn (p0 : Int64) (p2 : Int64) (p4 : Int64) (w : xW) : xJ ιI mX12_isIn lM (0, 0) 0 [(0, .long p0), (2, .long p2), (4, .long p4)] [] w (sX12_isIn p0 p2 p4 w) := by
  unfold sX12_isIn
  refine xj_lloadn 0 dX12_isIn_0 rfl rfl ?_
  refine xj_lloadn 1 dX12_isIn_1 rfl rfl ?_
  refine xj_llt (tgt := 17) dX12_isIn_2 dX12_isIn_3 rfl ?_ ?_
  · refine xj_iconst (v := 0) dX12_isIn_17 ci_0 ?_
    exact xj_rz dX12_isIn_18 rfl (Or.inl rfl)
  · refine xj_lloadn 0 dX12_isIn_6 rfl rfl ?_
    refine xj_lload 2 dX12_isIn_7 rfl ?_
    refine xj_lgt (tgt := 17) dX12_isIn_9 dX12_isIn_10 rfl ?_ ?_
    · refine xj_iconst (v := 0) dX12_isIn_17 ci_0 ?_
      exact xj_rz dX12_isIn_18 rfl (Or.inl rfl)
    · refine xj_iconst (v := 1) dX12_isIn_13 ci_1 ?_
      refine xj_goto (tgt := 18) dX12_isIn_14 rfl ?_
      exact xj_rz dX12_isIn_18 rfl (Or.inr rfl)
theorem kX12_isIn (p0 : Int64) (p2 : Int64) (p4 : Int64) (w : xW) : xMet jI mX12_isIn lM (0, 0) [.long p0, .long p2, .long p4] w (sX12_isIn p0 p2 p4 w) := xj_met lM_ok (by decide) (Nat.le_of_ble_eq_true rfl) (Nat.zero_le _) (Nat.zero_le _) (tX12_isIn p0 p2 p4 w)
set_option maxRecDepth 20000 in
def sX12_next (w : xW) : Option (Int32 × xW) :=
  (if (w.1 0 31) < (w.1 0 2) then (if xin (((w.1 0 31) + (1 : Int32)) - (1 : Int32)) 2048 then some ((w.1 1 ((((w.1 0 31) + (1 : Int32)) - (1 : Int32)).toNatClampNeg)), (xwi w 0 31 ((w.1 0 31) + (1 : Int32)))) else none) else some ((0 : Int32), (xwi w 0 32 (0 : Int32))))
set_option maxRecDepth 20000 in
theorem tX12_next (w : xW) : xJ ιI mX12_next lM (0, 0) 0 [(0, .ref 0)] [] w (sX12_next w) := by
  unfold sX12_next
  refine xj_aloadn 0 dX12_next_0 rfl rfl ?_
  refine gfX12_56 (v := (w.1 0 31)) dX12_next_1 rfl rfl ?_
  refine xj_aloadn 0 dX12_next_4 rfl rfl ?_
  refine gfX12_59 (v := (w.1 0 2)) dX12_next_5 rfl rfl ?_
  refine xj_ilt (tgt := 18) dX12_next_8 rfl ?_ ?_
  · refine xj_aloadn 0 dX12_next_18 rfl rfl ?_
    refine xj_dup dX12_next_19 rfl ?_
    refine gfX12_56 (v := (w.1 0 31)) dX12_next_20 rfl rfl ?_
    refine xj_iconst (v := 1) dX12_next_23 ci_1 ?_
    refine xj_iadd dX12_next_24 ?_
    refine pfX12_56 dX12_next_25 rfl ?_
    refine xj_aloadn 0 dX12_next_28 rfl rfl ?_
    refine gfX12_7 dX12_next_29 rfl ?_
    refine xj_aloadn 0 dX12_next_32 rfl rfl ?_
    refine gfX12_56 (v := ((w.1 0 31) + (1 : Int32))) dX12_next_33 rfl rfl ?_
    refine xj_iconst (v := 1) dX12_next_36 ci_1 ?_
    refine xj_isub dX12_next_37 ?_
    refine xj_iald (k := 1) dX12_next_38 rfl ?_
    exact xj_ri dX12_next_39 rfl
  · refine xj_aloadn 0 dX12_next_11 rfl rfl ?_
    refine xj_iconst (v := 0) dX12_next_12 ci_0 ?_
    refine pfX12_62 dX12_next_13 rfl (Or.inl rfl) ?_
    refine xj_iconst (v := 0) dX12_next_16 ci_0 ?_
    exact xj_ri dX12_next_17 rfl
theorem kX12_next (w : xW) : xMet jI mX12_next lM (0, 0) [.ref 0] w (sX12_next w) := xj_met lM_ok (by decide) (Nat.le_of_ble_eq_true rfl) (Nat.zero_le _) (Nat.zero_le _) (tX12_next w)
set_option maxRecDepth 20000 in
def sX12_signedByte (w : xW) : Option (Int32 × xW) :=
  xbd (sX12_next w) (fun x1 w2 => some (x1.toInt8.toInt32, w2))
set_option maxRecDepth 20000 in
theorem tX12_signedByte (w : xW) : xJ ιI mX12_signedByte lM (0, 0) 0 [(0, .ref 0)] [] w (sX12_signedByte w) := by
  unfold sX12_signedByte
  refine xj_aloadn 0 dX12_signedByte_0 rfl rfl ?_
  refine xj_cVi (argv := []) (rest := []) dX12_signedByte_1 (kX12_next w) mkX12_next tw2063 rfl rfl rfl rfl rfl rfl (fun x1 w2 => ?_)
  refine xj_i2b dX12_signedByte_4 ?_
  exact xj_ri dX12_signedByte_5 rfl
theorem kX12_signedByte (w : xW) : xMet jI mX12_signedByte lM (0, 0) [.ref 0] w (sX12_signedByte w) := xj_met lM_ok (by decide) (Nat.le_of_ble_eq_true rfl) (Nat.zero_le _) (Nat.zero_le _) (tX12_signedByte w)
set_option maxRecDepth 20000 in
def sX12_nextLong (w : xW) : Option (Int32 × xW) :=
  xbd (sX12_next w) (fun x1 w2 => xbd (sX12_next w2) (fun x3 w4 => xlet (x1 ||| (x3 <<< ((8 : Int32) &&& 31))) (fun x5 => xbd (sX12_next w4) (fun x6 w7 => xlet (x5 ||| (x6 <<< ((16 : Int32) &&& 31))) (fun x8 => xbd (sX12_next w7) (fun x9 w10 => some ((x8 ||| (x9 <<< ((24 : Int32) &&& 31))), w10)))))))
set_option maxRecDepth 20000 in
theorem tX12_nextLong (w : xW) : xJ ιI mX12_nextLong lM (0, 0) 0 [(0, .ref 0)] [] w (sX12_nextLong w) := by
  unfold sX12_nextLong
  refine xj_aloadn 0 dX12_nextLong_0 rfl rfl ?_
  refine xj_cVi (argv := []) (rest := []) dX12_nextLong_1 (kX12_next w) mkX12_next tw2063 rfl rfl rfl rfl rfl rfl (fun x1 w2 => ?_)
  refine xj_istoren (lv2 := [(1, .int x1), (0, .ref 0)]) dX12_nextLong_4 rfl (Nat.le_of_ble_eq_true rfl) rfl ?_
  refine xj_iloadn 0 dX12_nextLong_5 rfl rfl ?_
  refine xj_aloadn 1 dX12_nextLong_6 rfl rfl ?_
  refine xj_cVi (argv := []) (rest := [.int x1]) dX12_nextLong_7 (kX12_next w2) mkX12_next tw2063 rfl rfl rfl rfl rfl rfl (fun x3 w4 => ?_)
  refine xj_bipush (v := 8) dX12_nextLong_10 cb_8 ?_
  refine xj_ishl dX12_nextLong_12 ?_
  refine xj_ior dX12_nextLong_13 ?_
  refine xj_leti (fun x5 => ?_)
  refine xj_istoren (lv2 := [(1, .int x5), (0, .ref 0)]) dX12_nextLong_14 rfl (Nat.le_of_ble_eq_true rfl) rfl ?_
  refine xj_iloadn 0 dX12_nextLong_15 rfl rfl ?_
  refine xj_aloadn 1 dX12_nextLong_16 rfl rfl ?_
  refine xj_cVi (argv := []) (rest := [.int x5]) dX12_nextLong_17 (kX12_next w4) mkX12_next tw2063 rfl rfl rfl rfl rfl rfl (fun x6 w7 => ?_)
  refine xj_bipush (v := 16) dX12_nextLong_20 cb_16 ?_
  refine xj_ishl dX12_nextLong_22 ?_
  refine xj_ior dX12_nextLong_23 ?_
  refine xj_leti (fun x8 => ?_)
  refine xj_istoren (lv2 := [(1, .int x8), (0, .ref 0)]) dX12_nextLong_24 rfl (Nat.le_of_ble_eq_true rfl) rfl ?_
  refine xj_iloadn 0 dX12_nextLong_25 rfl rfl ?_
  refine xj_aloadn 1 dX12_nextLong_26 rfl rfl ?_
  refine xj_cVi (argv := []) (rest := [.int x8]) dX12_nextLong_27 (kX12_next w7) mkX12_next tw2063 rfl rfl rfl rfl rfl rfl (fun x9 w10 => ?_)
  refine xj_bipush (v := 24) dX12_nextLong_30 cb_24 ?_
  refine xj_ishl dX12_nextLong_32 ?_
  refine xj_ior dX12_nextLong_33 ?_
  exact xj_ri dX12_nextLong_34 rfl
theorem kX12_nextLong (w : xW) : xMet jI mX12_nextLong lM (0, 0) [.ref 0] w (sX12_nextLong w) := xj_met lM_ok (by decide) (Nat.le_of_ble_eq_true rfl) (Nat.zero_le _) (Nat.zero_le _) (tX12_nextLong w)
set_option maxRecDepth 20000 in
def sX12_is (p1 : Int32) (p2 : Int32) (p3 : Int32) (w : xW) : Option (Unit × xW) :=
  some ((), (xwi (xwi (xwi (xwi w 0 17 p1) 0 18 p2) 0 20 p3) 0 21 p3))
set_option maxRecDepth 20000 in
theorem tX12_is (p1 : Int32) (p2 : Int32) (p3 : Int32) (w : xW) : xJ ιV mX12_is lM (0, 0) 0 [(0, .ref 0), (1, .int p1), (2, .int p2), (3, .int p3)] [] w (sX12_is p1 p2 p3 w) := by
  unfold sX12_is
  refine xj_aloadn 0 dX12_is_0 rfl rfl ?_
  refine xj_iloadn 1 dX12_is_1 rfl rfl ?_
  refine pfX12_70 dX12_is_2 rfl ?_
  refine xj_aloadn 0 dX12_is_5 rfl rfl ?_
  refine xj_iloadn 2 dX12_is_6 rfl rfl ?_
  refine pfX12_73 dX12_is_7 rfl ?_
  refine xj_aloadn 0 dX12_is_10 rfl rfl ?_
  refine xj_iloadn 3 dX12_is_11 rfl rfl ?_
  refine pfX12_76 dX12_is_12 rfl ?_
  refine xj_aloadn 0 dX12_is_15 rfl rfl ?_
  refine xj_iloadn 3 dX12_is_16 rfl rfl ?_
  refine pfX12_79 dX12_is_17 rfl ?_
  exact xj_rv dX12_is_20 rfl
theorem kX12_is (p1 : Int32) (p2 : Int32) (p3 : Int32) (w : xW) : xMet jV mX12_is lM (0, 0) [.ref 0, .int p1, .int p2, .int p3] w (sX12_is p1 p2 p3 w) := xj_met lM_ok (by decide) (Nat.le_of_ble_eq_true rfl) (Nat.zero_le _) (Nat.zero_le _) (tX12_is p1 p2 p3 w)
set_option maxRecDepth 20000 in
def sX12_operand_j154 (w : xW) : Option (Unit × xW) :=
  (if (w.1 0 22) = (1 : Int32) then xbd (sX12_signedByte w) (fun x3 w4 => some ((), (xwi w4 0 28 x3))) else (if (w.1 0 22) = (2 : Int32) then xbd (sX12_nextLong w) (fun x1 w2 => some ((), (xwi w2 0 28 x1))) else some ((), w)))
set_option maxRecDepth 20000 in
theorem tX12_operand_j154 (w : xW) : xJ ιV mX12_operand lM (0, 0) 154 [(0, .ref 0)] [] w (sX12_operand_j154 w) := by
  unfold sX12_operand_j154
  refine xj_aloadn 0 dX12_operand_154 rfl rfl ?_
  refine gfX12_82 (v := (w.1 0 22)) dX12_operand_155 rfl rfl ?_
  refine xj_iconst (v := 1) dX12_operand_158 ci_1 ?_
  refine xj_ine (tgt := 173) dX12_operand_159 rfl ?_ ?_
  · refine xj_aloadn 0 dX12_operand_162 rfl rfl ?_
    refine xj_aloadn 0 dX12_operand_163 rfl rfl ?_
    refine xj_cVi (argv := []) (rest := [.ref 0]) dX12_operand_164 (kX12_signedByte w) mkX12_signedByte tw2075 rfl rfl rfl rfl rfl rfl (fun x3 w4 => ?_)
    refine pfX12_100 dX12_operand_167 rfl ?_
    refine xj_goto (tgt := 189) dX12_operand_170 rfl ?_
    exact xj_rv dX12_operand_189 rfl
  · refine xj_aloadn 0 dX12_operand_173 rfl rfl ?_
    refine gfX12_82 (v := (w.1 0 22)) dX12_operand_174 rfl rfl ?_
    refine xj_iconst (v := 2) dX12_operand_177 ci_2 ?_
    refine xj_ine (tgt := 189) dX12_operand_178 rfl ?_ ?_
    · refine xj_aloadn 0 dX12_operand_181 rfl rfl ?_
      refine xj_aloadn 0 dX12_operand_182 rfl rfl ?_
      refine xj_cVi (argv := []) (rest := [.ref 0]) dX12_operand_183 (kX12_nextLong w) mkX12_nextLong tw2079 rfl rfl rfl rfl rfl rfl (fun x1 w2 => ?_)
      refine pfX12_100 dX12_operand_186 rfl ?_
      exact xj_rv dX12_operand_189 rfl
    · exact xj_rv dX12_operand_189 rfl
set_option maxRecDepth 20000 in
def sX12_operand_j123 (w : xW) : Option (Unit × xW) :=
  (if (w.1 0 22) = 0 then (if (w.1 0 25) = (5 : Int32) then xbd (sX12_nextLong (xwi w 0 25 (-1 : Int32))) (fun x1 w2 => some ((), (xwi w2 0 28 x1))) else sX12_operand_j154 w) else sX12_operand_j154 w)
set_option maxRecDepth 20000 in
theorem tX12_operand_j123 (w : xW) : xJ ιV mX12_operand lM (0, 0) 123 [(0, .ref 0)] [] w (sX12_operand_j123 w) := by
  unfold sX12_operand_j123
  refine xj_aloadn 0 dX12_operand_123 rfl rfl ?_
  refine gfX12_82 (v := (w.1 0 22)) dX12_operand_124 rfl rfl ?_
  refine xj_ifne (tgt := 154) dX12_operand_127 rfl ?_ ?_
  · refine xj_aloadn 0 dX12_operand_130 rfl rfl ?_
    refine gfX12_91 (v := (w.1 0 25)) dX12_operand_131 rfl rfl ?_
    refine xj_iconst (v := 5) dX12_operand_134 ci_5 ?_
    refine xj_ine (tgt := 154) dX12_operand_135 rfl ?_ ?_
    · refine xj_aloadn 0 dX12_operand_138 rfl rfl ?_
      refine xj_iconst (v := -1) dX12_operand_139 ci_m1 ?_
      refine pfX12_91 dX12_operand_140 rfl ?_
      refine xj_aloadn 0 dX12_operand_143 rfl rfl ?_
      refine xj_aloadn 0 dX12_operand_144 rfl rfl ?_
      refine xj_cVi (argv := []) (rest := [.ref 0]) dX12_operand_145 (kX12_nextLong (xwi w 0 25 (-1 : Int32))) mkX12_nextLong tw2079 rfl rfl rfl rfl rfl rfl (fun x1 w2 => ?_)
      refine pfX12_100 dX12_operand_148 rfl ?_
      refine xj_goto (tgt := 189) dX12_operand_151 rfl ?_
      exact xj_rv dX12_operand_189 rfl
    · exact tX12_operand_j154 _
  · exact tX12_operand_j154 _
set_option maxRecDepth 20000 in
def sX12_operand_j102 (a2 : Int32) (b0 : Int32) (w : xW) : Option (Unit × xW) :=
  sX12_operand_j123 (xwi (xwi (xwi w 0 26 b0) 0 27 ((1 : Int32) <<< ((a2 >>> ((6 : Int32) &&& 31)) &&& 31))) 0 25 (a2 &&& (7 : Int32)))
set_option maxRecDepth 20000 in
theorem tX12_operand_j102 (a2 : Int32) (b0 : Int32) (w : xW) : xJ ιV mX12_operand lM (0, 0) 102 [(0, .ref 0), (2, .int a2)] [.int b0, .ref 0] w (sX12_operand_j102 a2 b0 w) := by
  unfold sX12_operand_j102
  refine pfX12_94 dX12_operand_102 rfl ?_
  refine xj_aloadn 0 dX12_operand_105 rfl rfl ?_
  refine xj_iconst (v := 1) dX12_operand_106 ci_1 ?_
  refine xj_iloadn 1 dX12_operand_107 rfl rfl ?_
  refine xj_bipush (v := 6) dX12_operand_108 cb_6 ?_
  refine xj_ishr dX12_operand_110 ?_
  refine xj_ishl dX12_operand_111 ?_
  refine pfX12_97 dX12_operand_112 rfl ?_
  refine xj_aloadn 0 dX12_operand_115 rfl rfl ?_
  refine xj_iloadn 1 dX12_operand_116 rfl rfl ?_
  refine xj_bipush (v := 7) dX12_operand_117 cb_7 ?_
  refine xj_iand dX12_operand_119 ?_
  refine pfX12_91 dX12_operand_120 rfl ?_
  refine xj_sub (lv2 := [(0, .ref 0)]) [0] rfl ?_
  exact tX12_operand_j123 _
set_option maxRecDepth 20000 in
def sX12_operand (w : xW) : Option (Unit × xW) :=
  xbd (sX12_next w) (fun x1 w2 => (if (x1 >>> ((6 : Int32) &&& 31)) = (3 : Int32) then some ((), (xwi (xwi (xwi (xwi (xwi (xwi (xwi w2 0 22 (x1 >>> ((6 : Int32) &&& 31))) 0 23 ((x1 >>> ((3 : Int32) &&& 31)) &&& (7 : Int32))) 0 24 (x1 &&& (7 : Int32))) 0 25 (-1 : Int32)) 0 26 (-1 : Int32)) 0 27 (1 : Int32)) 0 28 (0 : Int32))) else (if (x1 &&& (7 : Int32)) = (4 : Int32) then xbd (sX12_next (xwi (xwi (xwi (xwi (xwi (xwi (xwi (xwi w2 0 22 (x1 >>> ((6 : Int32) &&& 31))) 0 23 ((x1 >>> ((3 : Int32) &&& 31)) &&& (7 : Int32))) 0 24 (x1 &&& (7 : Int32))) 0 25 (-1 : Int32)) 0 26 (-1 : Int32)) 0 27 (1 : Int32)) 0 28 (0 : Int32)) 0 25 (x1 &&& (7 : Int32)))) (fun x3 w4 => (if ((x3 >>> ((3 : Int32) &&& 31)) &&& (7 : Int32)) = (4 : Int32) then sX12_operand_j102 x3 (-1 : Int32) w4 else sX12_operand_j102 x3 ((x3 >>> ((3 : Int32) &&& 31)) &&& (7 : Int32)) w4)) else sX12_operand_j123 (xwi (xwi (xwi (xwi (xwi (xwi (xwi (xwi w2 0 22 (x1 >>> ((6 : Int32) &&& 31))) 0 23 ((x1 >>> ((3 : Int32) &&& 31)) &&& (7 : Int32))) 0 24 (x1 &&& (7 : Int32))) 0 25 (-1 : Int32)) 0 26 (-1 : Int32)) 0 27 (1 : Int32)) 0 28 (0 : Int32)) 0 25 (x1 &&& (7 : Int32))))))
set_option maxRecDepth 20000 in
theorem tX12_operand (w : xW) : xJ ιV mX12_operand lM (0, 0) 0 [(0, .ref 0)] [] w (sX12_operand w) := by
  unfold sX12_operand
  refine xj_aloadn 0 dX12_operand_0 rfl rfl ?_
  refine xj_cVi (argv := []) (rest := []) dX12_operand_1 (kX12_next w) mkX12_next tw2063 rfl rfl rfl rfl rfl rfl (fun x1 w2 => ?_)
  refine xj_istoren (lv2 := [(1, .int x1), (0, .ref 0)]) dX12_operand_4 rfl (Nat.le_of_ble_eq_true rfl) rfl ?_
  refine xj_aloadn 1 dX12_operand_5 rfl rfl ?_
  refine xj_iloadn 0 dX12_operand_6 rfl rfl ?_
  refine xj_bipush (v := 6) dX12_operand_7 cb_6 ?_
  refine xj_ishr dX12_operand_9 ?_
  refine pfX12_82 dX12_operand_10 rfl ?_
  refine xj_aloadn 1 dX12_operand_13 rfl rfl ?_
  refine xj_iloadn 0 dX12_operand_14 rfl rfl ?_
  refine xj_iconst (v := 3) dX12_operand_15 ci_3 ?_
  refine xj_ishr dX12_operand_16 ?_
  refine xj_bipush (v := 7) dX12_operand_17 cb_7 ?_
  refine xj_iand dX12_operand_19 ?_
  refine pfX12_85 dX12_operand_20 rfl ?_
  refine xj_aloadn 1 dX12_operand_23 rfl rfl ?_
  refine xj_iloadn 0 dX12_operand_24 rfl rfl ?_
  refine xj_bipush (v := 7) dX12_operand_25 cb_7 ?_
  refine xj_iand dX12_operand_27 ?_
  refine pfX12_88 dX12_operand_28 rfl ?_
  refine xj_aloadn 1 dX12_operand_31 rfl rfl ?_
  refine xj_iconst (v := -1) dX12_operand_32 ci_m1 ?_
  refine pfX12_91 dX12_operand_33 rfl ?_
  refine xj_aloadn 1 dX12_operand_36 rfl rfl ?_
  refine xj_iconst (v := -1) dX12_operand_37 ci_m1 ?_
  refine pfX12_94 dX12_operand_38 rfl ?_
  refine xj_aloadn 1 dX12_operand_41 rfl rfl ?_
  refine xj_iconst (v := 1) dX12_operand_42 ci_1 ?_
  refine pfX12_97 dX12_operand_43 rfl ?_
  refine xj_aloadn 1 dX12_operand_46 rfl rfl ?_
  refine xj_iconst (v := 0) dX12_operand_47 ci_0 ?_
  refine pfX12_100 dX12_operand_48 rfl ?_
  refine xj_aloadn 1 dX12_operand_51 rfl rfl ?_
  refine gfX12_82 (v := (x1 >>> ((6 : Int32) &&& 31))) dX12_operand_52 rfl rfl ?_
  refine xj_iconst (v := 3) dX12_operand_55 ci_3 ?_
  refine xj_ine (tgt := 60) dX12_operand_56 rfl ?_ ?_
  · exact xj_rv dX12_operand_59 rfl
  · refine xj_aloadn 1 dX12_operand_60 rfl rfl ?_
    refine xj_aloadn 1 dX12_operand_61 rfl rfl ?_
    refine gfX12_88 (v := (x1 &&& (7 : Int32))) dX12_operand_62 rfl rfl ?_
    refine pfX12_91 dX12_operand_65 rfl ?_
    refine xj_aloadn 1 dX12_operand_68 rfl rfl ?_
    refine gfX12_88 (v := (x1 &&& (7 : Int32))) dX12_operand_69 rfl rfl ?_
    refine xj_iconst (v := 4) dX12_operand_72 ci_4 ?_
    refine xj_ine (tgt := 123) dX12_operand_73 rfl ?_ ?_
    · refine xj_aloadn 1 dX12_operand_76 rfl rfl ?_
      refine xj_cVi (argv := []) (rest := []) dX12_operand_77 (kX12_next (xwi (xwi (xwi (xwi (xwi (xwi (xwi (xwi w2 0 22 (x1 >>> ((6 : Int32) &&& 31))) 0 23 ((x1 >>> ((3 : Int32) &&& 31)) &&& (7 : Int32))) 0 24 (x1 &&& (7 : Int32))) 0 25 (-1 : Int32)) 0 26 (-1 : Int32)) 0 27 (1 : Int32)) 0 28 (0 : Int32)) 0 25 (x1 &&& (7 : Int32)))) mkX12_next tw2063 rfl rfl rfl rfl rfl rfl (fun x3 w4 => ?_)
      refine xj_istoren (lv2 := [(2, .int x3), (1, .int x1), (0, .ref 0)]) dX12_operand_80 rfl (Nat.le_of_ble_eq_true rfl) rfl ?_
      refine xj_aloadn 2 dX12_operand_81 rfl rfl ?_
      refine xj_iloadn 0 dX12_operand_82 rfl rfl ?_
      refine xj_iconst (v := 3) dX12_operand_83 ci_3 ?_
      refine xj_ishr dX12_operand_84 ?_
      refine xj_bipush (v := 7) dX12_operand_85 cb_7 ?_
      refine xj_iand dX12_operand_87 ?_
      refine xj_iconst (v := 4) dX12_operand_88 ci_4 ?_
      refine xj_ine (tgt := 96) dX12_operand_89 rfl ?_ ?_
      · refine xj_iconst (v := -1) dX12_operand_92 ci_m1 ?_
        refine xj_goto (tgt := 102) dX12_operand_93 rfl ?_
        refine xj_sub (lv2 := [(0, .ref 0), (2, .int x3)]) [2, 0] rfl ?_
        exact tX12_operand_j102 _ _ _
      · refine xj_iloadn 0 dX12_operand_96 rfl rfl ?_
        refine xj_iconst (v := 3) dX12_operand_97 ci_3 ?_
        refine xj_ishr dX12_operand_98 ?_
        refine xj_bipush (v := 7) dX12_operand_99 cb_7 ?_
        refine xj_iand dX12_operand_101 ?_
        refine xj_sub (lv2 := [(0, .ref 0), (2, .int x3)]) [2, 0] rfl ?_
        exact tX12_operand_j102 _ _ _
    · refine xj_sub (lv2 := [(0, .ref 0)]) [1] rfl ?_
      exact tX12_operand_j123 _
theorem kX12_operand (w : xW) : xMet jV mX12_operand lM (0, 0) [.ref 0] w (sX12_operand w) := xj_met lM_ok (by decide) (Nat.le_of_ble_eq_true rfl) (Nat.zero_le _) (Nat.zero_le _) (tX12_operand w)
set_option maxRecDepth 20000 in
def sX12_number (p1 : Int32) (w : xW) : Option (Unit × xW) :=
  (if p1 = (1 : Int32) then xbd (sX12_signedByte w) (fun x3 w4 => some ((), (xwi w4 0 29 x3))) else xbd (sX12_nextLong w) (fun x1 w2 => some ((), (xwi w2 0 29 x1))))
set_option maxRecDepth 20000 in
theorem tX12_number (p1 : Int32) (w : xW) : xJ ιV mX12_number lM (0, 0) 0 [(0, .ref 0), (1, .int p1)] [] w (sX12_number p1 w) := by
  unfold sX12_number
  refine xj_iloadn 1 dX12_number_0 rfl rfl ?_
  refine xj_iconst (v := 1) dX12_number_1 ci_1 ?_
  refine xj_ine (tgt := 16) dX12_number_2 rfl ?_ ?_
  · refine xj_aloadn 0 dX12_number_5 rfl rfl ?_
    refine xj_aloadn 0 dX12_number_6 rfl rfl ?_
    refine xj_cVi (argv := []) (rest := [.ref 0]) dX12_number_7 (kX12_signedByte w) mkX12_signedByte tw2075 rfl rfl rfl rfl rfl rfl (fun x3 w4 => ?_)
    refine pfX12_109 dX12_number_10 rfl ?_
    refine xj_goto (tgt := 24) dX12_number_13 rfl ?_
    exact xj_rv dX12_number_24 rfl
  · refine xj_aloadn 0 dX12_number_16 rfl rfl ?_
    refine xj_aloadn 0 dX12_number_17 rfl rfl ?_
    refine xj_cVi (argv := []) (rest := [.ref 0]) dX12_number_18 (kX12_nextLong w) mkX12_nextLong tw2079 rfl rfl rfl rfl rfl rfl (fun x1 w2 => ?_)
    refine pfX12_109 dX12_number_21 rfl ?_
    exact xj_rv dX12_number_24 rfl
theorem kX12_number (p1 : Int32) (w : xW) : xMet jV mX12_number lM (0, 0) [.ref 0, .int p1] w (sX12_number p1 w) := xj_met lM_ok (by decide) (Nat.le_of_ble_eq_true rfl) (Nat.zero_le _) (Nat.zero_le _) (tX12_number p1 w)
set_option maxRecDepth 20000 in
def sX12_place (p1 : Int32) (w : xW) : Option (Unit × xW) :=
  xbd (sX12_number p1 w) (fun _ w1 => some ((), (xwi w1 0 29 ((w1.1 0 29) + ((4096 : Int32) + (w1.1 0 31))))))
set_option maxRecDepth 20000 in
theorem tX12_place (p1 : Int32) (w : xW) : xJ ιV mX12_place lM (0, 0) 0 [(0, .ref 0), (1, .int p1)] [] w (sX12_place p1 w) := by
  unfold sX12_place
  refine xj_aloadn 0 dX12_place_0 rfl rfl ?_
  refine xj_iloadn 1 dX12_place_1 rfl rfl ?_
  refine xj_cVv (argv := [.int p1]) (rest := []) dX12_place_2 (kX12_number p1 w) mkX12_number tw2071 rfl rfl rfl rfl rfl rfl (fun _ w1 => ?_)
  refine xj_aloadn 0 dX12_place_5 rfl rfl ?_
  refine xj_dup dX12_place_6 rfl ?_
  refine gfX12_109 (v := (w1.1 0 29)) dX12_place_7 rfl rfl ?_
  refine xj_sipush (v := 4096) dX12_place_10 cs_4096 ?_
  refine xj_aloadn 0 dX12_place_13 rfl rfl ?_
  refine gfX12_56 (v := (w1.1 0 31)) dX12_place_14 rfl rfl ?_
  refine xj_iadd dX12_place_17 ?_
  refine xj_iadd dX12_place_18 ?_
  refine pfX12_109 dX12_place_19 rfl ?_
  exact xj_rv dX12_place_22 rfl
theorem kX12_place (p1 : Int32) (w : xW) : xMet jV mX12_place lM (0, 0) [.ref 0, .int p1] w (sX12_place p1 w) := xj_met lM_ok (by decide) (Nat.le_of_ble_eq_true rfl) (Nat.zero_le _) (Nat.zero_le _) (tX12_place p1 w)
set_option maxRecDepth 20000 in
def sX12_digits (p1 : Int32) (w : xW) : Option (Unit × xW) :=
  (if (w.1 0 32) = 0 then some ((), (xwi w 0 32 (0 : Int32))) else (if p1 = 0 then some ((), (xwi w 0 32 (0 : Int32))) else some ((), (xwi w 0 32 (1 : Int32)))))
set_option maxRecDepth 20000 in
theorem tX12_digits (p1 : Int32) (w : xW) : xJ ιV mX12_digits lM (0, 0) 0 [(0, .ref 0), (1, .int p1)] [] w (sX12_digits p1 w) := by
  unfold sX12_digits
  refine xj_aloadn 0 dX12_digits_0 rfl rfl ?_
  refine xj_aloadn 0 dX12_digits_1 rfl rfl ?_
  refine gfX12_62 (v := (w.1 0 32)) dX12_digits_2 rfl rfl ?_
  refine xj_ifeq (tgt := 16) dX12_digits_5 rfl ?_ ?_
  · refine xj_iconst (v := 0) dX12_digits_16 ci_0 ?_
    refine pfX12_62 dX12_digits_17 rfl (Or.inl rfl) ?_
    exact xj_rv dX12_digits_20 rfl
  · refine xj_iloadn 1 dX12_digits_8 rfl rfl ?_
    refine xj_ifeq (tgt := 16) dX12_digits_9 rfl ?_ ?_
    · refine xj_iconst (v := 0) dX12_digits_16 ci_0 ?_
      refine pfX12_62 dX12_digits_17 rfl (Or.inl rfl) ?_
      exact xj_rv dX12_digits_20 rfl
    · refine xj_iconst (v := 1) dX12_digits_12 ci_1 ?_
      refine xj_goto (tgt := 17) dX12_digits_13 rfl ?_
      refine pfX12_62 dX12_digits_17 rfl (Or.inr rfl) ?_
      exact xj_rv dX12_digits_20 rfl
theorem kX12_digits (p1 : Int32) (w : xW) : xMet jV mX12_digits lM (0, 0) [.ref 0, .int p1] w (sX12_digits p1 w) := xj_met lM_ok (by decide) (Nat.le_of_ble_eq_true rfl) (Nat.zero_le _) (Nat.zero_le _) (tX12_digits p1 w)
set_option maxRecDepth 20000 in
def sX12_takeSecond_j149 (b0 : Int32) (w : xW) : Option (Unit × xW) :=
  xbd (sX12_is b0 (12 : Int32) (4 : Int32) w) (fun _ w1 => xbd (sX12_operand w1) (fun _ w2 => xbd (sX12_number (1 : Int32) w2) (fun _ w3 => some ((), w3))))
set_option maxRecDepth 20000 in
theorem tX12_takeSecond_j149 (b0 : Int32) (w : xW) : xJ ιV mX12_takeSecond lM (0, 0) 149 [(0, .ref 0)] [.int b0, .ref 0] w (sX12_takeSecond_j149 b0 w) := by
  unfold sX12_takeSecond_j149
  refine xj_bipush (v := 12) dX12_takeSecond_149 cb_12 ?_
  refine xj_iconst (v := 4) dX12_takeSecond_151 ci_4 ?_
  refine xj_cVv (argv := [.int b0, .int (12 : Int32), .int (4 : Int32)]) (rest := []) dX12_takeSecond_152 (kX12_is b0 (12 : Int32) (4 : Int32) w) mkX12_is tw2067 rfl rfl rfl rfl rfl rfl (fun _ w1 => ?_)
  refine xj_aloadn 0 dX12_takeSecond_155 rfl rfl ?_
  refine xj_cVv (argv := []) (rest := []) dX12_takeSecond_156 (kX12_operand w1) mkX12_operand tw2083 rfl rfl rfl rfl rfl rfl (fun _ w2 => ?_)
  refine xj_aloadn 0 dX12_takeSecond_159 rfl rfl ?_
  refine xj_iconst (v := 1) dX12_takeSecond_160 ci_1 ?_
  refine xj_cVv (argv := [.int (1 : Int32)]) (rest := []) dX12_takeSecond_161 (kX12_number (1 : Int32) w2) mkX12_number tw2071 rfl rfl rfl rfl rfl rfl (fun _ w3 => ?_)
  refine xj_goto (tgt := 383) dX12_takeSecond_164 rfl ?_
  exact xj_rv dX12_takeSecond_383 rfl
set_option maxRecDepth 20000 in
def sX12_takeSecond_j134 (a1 : Int32) (w : xW) : Option (Unit × xW) :=
  (if a1 = (164 : Int32) then sX12_takeSecond_j149 (46 : Int32) w else sX12_takeSecond_j149 (47 : Int32) w)
set_option maxRecDepth 20000 in
theorem tX12_takeSecond_j134 (a1 : Int32) (w : xW) : xJ ιV mX12_takeSecond lM (0, 0) 134 [(0, .ref 0), (1, .int a1)] [] w (sX12_takeSecond_j134 a1 w) := by
  unfold sX12_takeSecond_j134
  refine xj_aloadn 0 dX12_takeSecond_134 rfl rfl ?_
  refine xj_iloadn 1 dX12_takeSecond_135 rfl rfl ?_
  refine xj_sipush (v := 164) dX12_takeSecond_136 cs_164 ?_
  refine xj_ine (tgt := 147) dX12_takeSecond_139 rfl ?_ ?_
  · refine xj_bipush (v := 46) dX12_takeSecond_142 cb_46 ?_
    refine xj_goto (tgt := 149) dX12_takeSecond_144 rfl ?_
    refine xj_sub (lv2 := [(0, .ref 0)]) [0] rfl ?_
    exact tX12_takeSecond_j149 _ _
  · refine xj_bipush (v := 47) dX12_takeSecond_147 cb_47 ?_
    refine xj_sub (lv2 := [(0, .ref 0)]) [0] rfl ?_
    exact tX12_takeSecond_j149 _ _
set_option maxRecDepth 20000 in
def sX12_takeSecond_j353 (w : xW) : Option (Unit × xW) :=
  xbd (sX12_operand (xwi w 0 21 (1 : Int32))) (fun _ w1 => some ((), w1))
set_option maxRecDepth 20000 in
theorem tX12_takeSecond_j353 (w : xW) : xJ ιV mX12_takeSecond lM (0, 0) 353 [(0, .ref 0)] [.ref 0] w (sX12_takeSecond_j353 w) := by
  unfold sX12_takeSecond_j353
  refine xj_iconst (v := 1) dX12_takeSecond_353 ci_1 ?_
  refine xj_goto (tgt := 376) dX12_takeSecond_354 rfl ?_
  refine pfX12_79 dX12_takeSecond_376 rfl ?_
  refine xj_aloadn 0 dX12_takeSecond_379 rfl rfl ?_
  refine xj_cVv (argv := []) (rest := []) dX12_takeSecond_380 (kX12_operand (xwi w 0 21 (1 : Int32))) mkX12_operand tw2083 rfl rfl rfl rfl rfl rfl (fun _ w1 => ?_)
  exact xj_rv dX12_takeSecond_383 rfl
set_option maxRecDepth 20000 in
def sX12_takeSecond_j371 (w : xW) : Option (Unit × xW) :=
  xbd (sX12_operand (xwi w 0 21 (2 : Int32))) (fun _ w1 => some ((), w1))
set_option maxRecDepth 20000 in
theorem tX12_takeSecond_j371 (w : xW) : xJ ιV mX12_takeSecond lM (0, 0) 371 [(0, .ref 0)] [.ref 0] w (sX12_takeSecond_j371 w) := by
  unfold sX12_takeSecond_j371
  refine xj_iconst (v := 2) dX12_takeSecond_371 ci_2 ?_
  refine xj_goto (tgt := 376) dX12_takeSecond_372 rfl ?_
  refine pfX12_79 dX12_takeSecond_376 rfl ?_
  refine xj_aloadn 0 dX12_takeSecond_379 rfl rfl ?_
  refine xj_cVv (argv := []) (rest := []) dX12_takeSecond_380 (kX12_operand (xwi w 0 21 (2 : Int32))) mkX12_operand tw2083 rfl rfl rfl rfl rfl rfl (fun _ w1 => ?_)
  exact xj_rv dX12_takeSecond_383 rfl
set_option maxRecDepth 20000 in
def sX12_takeSecond_j334 (a1 : Int32) (b0 : Int32) (b1 : Int32) (w : xW) : Option (Unit × xW) :=
  xbd (sX12_is b1 b0 (4 : Int32) w) (fun _ w1 => (if a1 = (182 : Int32) then sX12_takeSecond_j353 w1 else (if a1 = (190 : Int32) then sX12_takeSecond_j353 w1 else (if a1 = (183 : Int32) then sX12_takeSecond_j371 w1 else (if a1 = (191 : Int32) then sX12_takeSecond_j371 w1 else xbd (sX12_operand (xwi w1 0 21 (4 : Int32))) (fun _ w2 => some ((), w2)))))))
set_option maxRecDepth 20000 in
theorem tX12_takeSecond_j334 (a1 : Int32) (b0 : Int32) (b1 : Int32) (w : xW) : xJ ιV mX12_takeSecond lM (0, 0) 334 [(0, .ref 0), (1, .int a1)] [.int b0, .int b1, .ref 0] w (sX12_takeSecond_j334 a1 b0 b1 w) := by
  unfold sX12_takeSecond_j334
  refine xj_iconst (v := 4) dX12_takeSecond_334 ci_4 ?_
  refine xj_cVv (argv := [.int b1, .int b0, .int (4 : Int32)]) (rest := []) dX12_takeSecond_335 (kX12_is b1 b0 (4 : Int32) w) mkX12_is tw2067 rfl rfl rfl rfl rfl rfl (fun _ w1 => ?_)
  refine xj_aloadn 0 dX12_takeSecond_338 rfl rfl ?_
  refine xj_iloadn 1 dX12_takeSecond_339 rfl rfl ?_
  refine xj_sipush (v := 182) dX12_takeSecond_340 cs_182 ?_
  refine xj_ieq (tgt := 353) dX12_takeSecond_343 rfl ?_ ?_
  · refine xj_sub (lv2 := [(0, .ref 0)]) [0] rfl ?_
    exact tX12_takeSecond_j353 _
  · refine xj_iloadn 1 dX12_takeSecond_346 rfl rfl ?_
    refine xj_sipush (v := 190) dX12_takeSecond_347 cs_190 ?_
    refine xj_ine (tgt := 357) dX12_takeSecond_350 rfl ?_ ?_
    · refine xj_sub (lv2 := [(0, .ref 0)]) [0] rfl ?_
      exact tX12_takeSecond_j353 _
    · refine xj_iloadn 1 dX12_takeSecond_357 rfl rfl ?_
      refine xj_sipush (v := 183) dX12_takeSecond_358 cs_183 ?_
      refine xj_ieq (tgt := 371) dX12_takeSecond_361 rfl ?_ ?_
      · refine xj_sub (lv2 := [(0, .ref 0)]) [0] rfl ?_
        exact tX12_takeSecond_j371 _
      · refine xj_iloadn 1 dX12_takeSecond_364 rfl rfl ?_
        refine xj_sipush (v := 191) dX12_takeSecond_365 cs_191 ?_
        refine xj_ine (tgt := 375) dX12_takeSecond_368 rfl ?_ ?_
        · refine xj_sub (lv2 := [(0, .ref 0)]) [0] rfl ?_
          exact tX12_takeSecond_j371 _
        · refine xj_iconst (v := 4) dX12_takeSecond_375 ci_4 ?_
          refine pfX12_79 dX12_takeSecond_376 rfl ?_
          refine xj_aloadn 0 dX12_takeSecond_379 rfl rfl ?_
          refine xj_cVv (argv := []) (rest := []) dX12_takeSecond_380 (kX12_operand (xwi w1 0 21 (4 : Int32))) mkX12_operand tw2083 rfl rfl rfl rfl rfl rfl (fun _ w2 => ?_)
          exact xj_rv dX12_takeSecond_383 rfl
set_option maxRecDepth 20000 in
def sX12_takeSecond_j329 (a1 : Int32) (b0 : Int32) (w : xW) : Option (Unit × xW) :=
  sX12_takeSecond_j334 a1 (1 : Int32) b0 w
set_option maxRecDepth 20000 in
theorem tX12_takeSecond_j329 (a1 : Int32) (b0 : Int32) (w : xW) : xJ ιV mX12_takeSecond lM (0, 0) 329 [(0, .ref 0), (1, .int a1)] [.int b0, .ref 0] w (sX12_takeSecond_j329 a1 b0 w) := by
  unfold sX12_takeSecond_j329
  refine xj_iconst (v := 1) dX12_takeSecond_329 ci_1 ?_
  refine xj_goto (tgt := 334) dX12_takeSecond_330 rfl ?_
  exact tX12_takeSecond_j334 _ _ _ _
set_option maxRecDepth 20000 in
def sX12_takeSecond_j312 (a1 : Int32) (a2 : Int32) (b0 : Int32) (w : xW) : Option (Unit × xW) :=
  xbd (sX12_digits b0 w) (fun _ w1 => (if a2 = (48 : Int32) then sX12_takeSecond_j329 a1 a2 w1 else (if a2 = (53 : Int32) then sX12_takeSecond_j329 a1 a2 w1 else sX12_takeSecond_j334 a1 (2 : Int32) a2 w1)))
set_option maxRecDepth 20000 in
theorem tX12_takeSecond_j312 (a1 : Int32) (a2 : Int32) (b0 : Int32) (w : xW) : xJ ιV mX12_takeSecond lM (0, 0) 312 [(0, .ref 0), (1, .int a1), (2, .int a2)] [.int b0, .ref 0] w (sX12_takeSecond_j312 a1 a2 b0 w) := by
  unfold sX12_takeSecond_j312
  refine xj_cVv (argv := [.int b0]) (rest := []) dX12_takeSecond_312 (kX12_digits b0 w) mkX12_digits tw2095 rfl rfl rfl rfl rfl rfl (fun _ w1 => ?_)
  refine xj_aloadn 0 dX12_takeSecond_315 rfl rfl ?_
  refine xj_iloadn 2 dX12_takeSecond_316 rfl rfl ?_
  refine xj_iloadn 2 dX12_takeSecond_317 rfl rfl ?_
  refine xj_bipush (v := 48) dX12_takeSecond_318 cb_48 ?_
  refine xj_ieq (tgt := 329) dX12_takeSecond_320 rfl ?_ ?_
  · refine xj_sub (lv2 := [(0, .ref 0), (1, .int a1)]) [0, 1] rfl ?_
    exact tX12_takeSecond_j329 _ _ _
  · refine xj_iloadn 2 dX12_takeSecond_323 rfl rfl ?_
    refine xj_bipush (v := 53) dX12_takeSecond_324 cb_53 ?_
    refine xj_ine (tgt := 333) dX12_takeSecond_326 rfl ?_ ?_
    · refine xj_sub (lv2 := [(0, .ref 0), (1, .int a1)]) [0, 1] rfl ?_
      exact tX12_takeSecond_j329 _ _ _
    · refine xj_iconst (v := 2) dX12_takeSecond_333 ci_2 ?_
      refine xj_sub (lv2 := [(0, .ref 0), (1, .int a1)]) [0, 1] rfl ?_
      exact tX12_takeSecond_j334 _ _ _ _
set_option maxRecDepth 20000 in
def sX12_takeSecond_j300 (a1 : Int32) (b0 : Int32) (w : xW) : Option (Unit × xW) :=
  (if b0 = (-1 : Int32) then sX12_takeSecond_j312 a1 b0 (0 : Int32) w else sX12_takeSecond_j312 a1 b0 (1 : Int32) w)
set_option maxRecDepth 20000 in
theorem tX12_takeSecond_j300 (a1 : Int32) (b0 : Int32) (w : xW) : xJ ιV mX12_takeSecond lM (0, 0) 300 [(0, .ref 0), (1, .int a1)] [.int b0] w (sX12_takeSecond_j300 a1 b0 w) := by
  unfold sX12_takeSecond_j300
  refine xj_istoren (lv2 := [(2, .int b0), (0, .ref 0), (1, .int a1)]) dX12_takeSecond_300 rfl (Nat.le_of_ble_eq_true rfl) rfl ?_
  refine xj_aloadn 1 dX12_takeSecond_301 rfl rfl ?_
  refine xj_iloadn 0 dX12_takeSecond_302 rfl rfl ?_
  refine xj_iconst (v := -1) dX12_takeSecond_303 ci_m1 ?_
  refine xj_ieq (tgt := 311) dX12_takeSecond_304 rfl ?_ ?_
  · refine xj_iconst (v := 0) dX12_takeSecond_311 ci_0 ?_
    refine xj_sub (lv2 := [(0, .ref 0), (1, .int a1), (2, .int b0)]) [1, 2, 0] rfl ?_
    exact tX12_takeSecond_j312 _ _ _ _
  · refine xj_iconst (v := 1) dX12_takeSecond_307 ci_1 ?_
    refine xj_goto (tgt := 312) dX12_takeSecond_308 rfl ?_
    refine xj_sub (lv2 := [(0, .ref 0), (1, .int a1), (2, .int b0)]) [1, 2, 0] rfl ?_
    exact tX12_takeSecond_j312 _ _ _ _
set_option maxRecDepth 20000 in
def sX12_takeSecond_j239 (a1 : Int32) (w : xW) : Option (Unit × xW) :=
  sX12_takeSecond_j300 a1 (49 : Int32) w
set_option maxRecDepth 20000 in
theorem tX12_takeSecond_j239 (a1 : Int32) (w : xW) : xJ ιV mX12_takeSecond lM (0, 0) 239 [(0, .ref 0), (1, .int a1)] [] w (sX12_takeSecond_j239 a1 w) := by
  unfold sX12_takeSecond_j239
  refine xj_bipush (v := 49) dX12_takeSecond_239 cb_49 ?_
  refine xj_goto (tgt := 300) dX12_takeSecond_241 rfl ?_
  exact tX12_takeSecond_j300 _ _ _
set_option maxRecDepth 20000 in
def sX12_takeSecond_j282 (a1 : Int32) (w : xW) : Option (Unit × xW) :=
  sX12_takeSecond_j300 a1 (52 : Int32) w
set_option maxRecDepth 20000 in
theorem tX12_takeSecond_j282 (a1 : Int32) (w : xW) : xJ ιV mX12_takeSecond lM (0, 0) 282 [(0, .ref 0), (1, .int a1)] [] w (sX12_takeSecond_j282 a1 w) := by
  unfold sX12_takeSecond_j282
  refine xj_bipush (v := 52) dX12_takeSecond_282 cb_52 ?_
  refine xj_goto (tgt := 300) dX12_takeSecond_284 rfl ?_
  exact tX12_takeSecond_j300 _ _ _
set_option maxRecDepth 20000 in
def sX12_takeSecond_j201 (a1 : Int32) (w : xW) : Option (Unit × xW) :=
  (if a1 = (175 : Int32) then sX12_takeSecond_j300 a1 (12 : Int32) w else (if a1 = (177 : Int32) then sX12_takeSecond_j300 a1 (48 : Int32) w else (if a1 = (182 : Int32) then sX12_takeSecond_j239 a1 w else (if a1 = (183 : Int32) then sX12_takeSecond_j239 a1 w else (if a1 = (188 : Int32) then sX12_takeSecond_j300 a1 (50 : Int32) w else (if a1 = (189 : Int32) then sX12_takeSecond_j300 a1 (51 : Int32) w else (if a1 = (190 : Int32) then sX12_takeSecond_j282 a1 w else (if a1 = (191 : Int32) then sX12_takeSecond_j282 a1 w else (if a1 = (193 : Int32) then sX12_takeSecond_j300 a1 (53 : Int32) w else sX12_takeSecond_j300 a1 (-1 : Int32) w)))))))))
set_option maxRecDepth 20000 in
theorem tX12_takeSecond_j201 (a1 : Int32) (w : xW) : xJ ιV mX12_takeSecond lM (0, 0) 201 [(0, .ref 0), (1, .int a1)] [] w (sX12_takeSecond_j201 a1 w) := by
  unfold sX12_takeSecond_j201
  refine xj_iloadn 1 dX12_takeSecond_201 rfl rfl ?_
  refine xj_sipush (v := 175) dX12_takeSecond_202 cs_175 ?_
  refine xj_ine (tgt := 213) dX12_takeSecond_205 rfl ?_ ?_
  · refine xj_bipush (v := 12) dX12_takeSecond_208 cb_12 ?_
    refine xj_goto (tgt := 300) dX12_takeSecond_210 rfl ?_
    exact tX12_takeSecond_j300 _ _ _
  · refine xj_iloadn 1 dX12_takeSecond_213 rfl rfl ?_
    refine xj_sipush (v := 177) dX12_takeSecond_214 cs_177 ?_
    refine xj_ine (tgt := 225) dX12_takeSecond_217 rfl ?_ ?_
    · refine xj_bipush (v := 48) dX12_takeSecond_220 cb_48 ?_
      refine xj_goto (tgt := 300) dX12_takeSecond_222 rfl ?_
      exact tX12_takeSecond_j300 _ _ _
    · refine xj_iloadn 1 dX12_takeSecond_225 rfl rfl ?_
      refine xj_sipush (v := 182) dX12_takeSecond_226 cs_182 ?_
      refine xj_ieq (tgt := 239) dX12_takeSecond_229 rfl ?_ ?_
      · exact tX12_takeSecond_j239 _ _
      · refine xj_iloadn 1 dX12_takeSecond_232 rfl rfl ?_
        refine xj_sipush (v := 183) dX12_takeSecond_233 cs_183 ?_
        refine xj_ine (tgt := 244) dX12_takeSecond_236 rfl ?_ ?_
        · exact tX12_takeSecond_j239 _ _
        · refine xj_iloadn 1 dX12_takeSecond_244 rfl rfl ?_
          refine xj_sipush (v := 188) dX12_takeSecond_245 cs_188 ?_
          refine xj_ine (tgt := 256) dX12_takeSecond_248 rfl ?_ ?_
          · refine xj_bipush (v := 50) dX12_takeSecond_251 cb_50 ?_
            refine xj_goto (tgt := 300) dX12_takeSecond_253 rfl ?_
            exact tX12_takeSecond_j300 _ _ _
          · refine xj_iloadn 1 dX12_takeSecond_256 rfl rfl ?_
            refine xj_sipush (v := 189) dX12_takeSecond_257 cs_189 ?_
            refine xj_ine (tgt := 268) dX12_takeSecond_260 rfl ?_ ?_
            · refine xj_bipush (v := 51) dX12_takeSecond_263 cb_51 ?_
              refine xj_goto (tgt := 300) dX12_takeSecond_265 rfl ?_
              exact tX12_takeSecond_j300 _ _ _
            · refine xj_iloadn 1 dX12_takeSecond_268 rfl rfl ?_
              refine xj_sipush (v := 190) dX12_takeSecond_269 cs_190 ?_
              refine xj_ieq (tgt := 282) dX12_takeSecond_272 rfl ?_ ?_
              · exact tX12_takeSecond_j282 _ _
              · refine xj_iloadn 1 dX12_takeSecond_275 rfl rfl ?_
                refine xj_sipush (v := 191) dX12_takeSecond_276 cs_191 ?_
                refine xj_ine (tgt := 287) dX12_takeSecond_279 rfl ?_ ?_
                · exact tX12_takeSecond_j282 _ _
                · refine xj_iloadn 1 dX12_takeSecond_287 rfl rfl ?_
                  refine xj_sipush (v := 193) dX12_takeSecond_288 cs_193 ?_
                  refine xj_ine (tgt := 299) dX12_takeSecond_291 rfl ?_ ?_
                  · refine xj_bipush (v := 53) dX12_takeSecond_294 cb_53 ?_
                    refine xj_goto (tgt := 300) dX12_takeSecond_296 rfl ?_
                    exact tX12_takeSecond_j300 _ _ _
                  · refine xj_iconst (v := -1) dX12_takeSecond_299 ci_m1 ?_
                    exact tX12_takeSecond_j300 _ _ _
set_option maxRecDepth 20000 in
def sX12_takeSecond (w : xW) : Option (Unit × xW) :=
  xbd (sX12_next w) (fun x1 w2 => xbd (sX12_is (18 : Int32) (5 : Int32) (4 : Int32) w2) (fun _ w3 => (if x1 = (31 : Int32) then xbd (sX12_operand (xwi w3 0 19 (x1 &&& (15 : Int32)))) (fun _ w11 => (if (w11.1 0 23) = 0 then xbd (sX12_digits (1 : Int32) w11) (fun _ w13 => some ((), w13)) else xbd (sX12_digits (0 : Int32) w11) (fun _ w12 => some ((), w12)))) else (if (x1 >>> ((4 : Int32) &&& 31)) = (4 : Int32) then xbd (sX12_is (44 : Int32) (2 : Int32) (4 : Int32) (xwi w3 0 19 (x1 &&& (15 : Int32)))) (fun _ w9 => xbd (sX12_operand w9) (fun _ w10 => some ((), w10))) else (if (x1 >>> ((4 : Int32) &&& 31)) = (8 : Int32) then xbd (sX12_is (13 : Int32) (8 : Int32) (4 : Int32) (xwi w3 0 19 (x1 &&& (15 : Int32)))) (fun _ w7 => xbd (sX12_place (4 : Int32) w7) (fun _ w8 => some ((), w8))) else (if (x1 >>> ((4 : Int32) &&& 31)) = (9 : Int32) then xbd (sX12_is (45 : Int32) (5 : Int32) (1 : Int32) (xwi w3 0 19 (x1 &&& (15 : Int32)))) (fun _ w5 => xbd (sX12_operand w5) (fun _ w6 => some ((), w6))) else (if x1 = (164 : Int32) then sX12_takeSecond_j134 x1 (xwi w3 0 19 (x1 &&& (15 : Int32))) else (if x1 = (172 : Int32) then sX12_takeSecond_j134 x1 (xwi w3 0 19 (x1 &&& (15 : Int32))) else (if x1 < (200 : Int32) then sX12_takeSecond_j201 x1 (xwi w3 0 19 (x1 &&& (15 : Int32))) else (if x1 < (208 : Int32) then xbd (sX12_is (54 : Int32) (6 : Int32) (4 : Int32) (xwi w3 0 19 (x1 &&& (15 : Int32)))) (fun _ w4 => some ((), (xwi w4 0 24 (x1 &&& (7 : Int32))))) else sX12_takeSecond_j201 x1 (xwi w3 0 19 (x1 &&& (15 : Int32)))))))))))))
set_option maxRecDepth 20000 in
theorem tX12_takeSecond (w : xW) : xJ ιV mX12_takeSecond lM (0, 0) 0 [(0, .ref 0)] [] w (sX12_takeSecond w) := by
  unfold sX12_takeSecond
  refine xj_aloadn 0 dX12_takeSecond_0 rfl rfl ?_
  refine xj_cVi (argv := []) (rest := []) dX12_takeSecond_1 (kX12_next w) mkX12_next tw2063 rfl rfl rfl rfl rfl rfl (fun x1 w2 => ?_)
  refine xj_istoren (lv2 := [(1, .int x1), (0, .ref 0)]) dX12_takeSecond_4 rfl (Nat.le_of_ble_eq_true rfl) rfl ?_
  refine xj_aloadn 1 dX12_takeSecond_5 rfl rfl ?_
  refine xj_bipush (v := 18) dX12_takeSecond_6 cb_18 ?_
  refine xj_iconst (v := 5) dX12_takeSecond_8 ci_5 ?_
  refine xj_iconst (v := 4) dX12_takeSecond_9 ci_4 ?_
  refine xj_cVv (argv := [.int (18 : Int32), .int (5 : Int32), .int (4 : Int32)]) (rest := []) dX12_takeSecond_10 (kX12_is (18 : Int32) (5 : Int32) (4 : Int32) w2) mkX12_is tw2067 rfl rfl rfl rfl rfl rfl (fun _ w3 => ?_)
  refine xj_aloadn 1 dX12_takeSecond_13 rfl rfl ?_
  refine xj_iloadn 0 dX12_takeSecond_14 rfl rfl ?_
  refine xj_bipush (v := 15) dX12_takeSecond_15 cb_15 ?_
  refine xj_iand dX12_takeSecond_17 ?_
  refine pfX12_115 dX12_takeSecond_18 rfl ?_
  refine xj_iloadn 0 dX12_takeSecond_21 rfl rfl ?_
  refine xj_bipush (v := 31) dX12_takeSecond_22 cb_31 ?_
  refine xj_ine (tgt := 50) dX12_takeSecond_24 rfl ?_ ?_
  · refine xj_aloadn 1 dX12_takeSecond_27 rfl rfl ?_
    refine xj_cVv (argv := []) (rest := []) dX12_takeSecond_28 (kX12_operand (xwi w3 0 19 (x1 &&& (15 : Int32)))) mkX12_operand tw2083 rfl rfl rfl rfl rfl rfl (fun _ w11 => ?_)
    refine xj_aloadn 1 dX12_takeSecond_31 rfl rfl ?_
    refine xj_aloadn 1 dX12_takeSecond_32 rfl rfl ?_
    refine gfX12_85 (v := (w11.1 0 23)) dX12_takeSecond_33 rfl rfl ?_
    refine xj_ifne (tgt := 43) dX12_takeSecond_36 rfl ?_ ?_
    · refine xj_iconst (v := 1) dX12_takeSecond_39 ci_1 ?_
      refine xj_goto (tgt := 44) dX12_takeSecond_40 rfl ?_
      refine xj_cVv (argv := [.int (1 : Int32)]) (rest := []) dX12_takeSecond_44 (kX12_digits (1 : Int32) w11) mkX12_digits tw2095 rfl rfl rfl rfl rfl rfl (fun _ w13 => ?_)
      refine xj_goto (tgt := 383) dX12_takeSecond_47 rfl ?_
      exact xj_rv dX12_takeSecond_383 rfl
    · refine xj_iconst (v := 0) dX12_takeSecond_43 ci_0 ?_
      refine xj_cVv (argv := [.int (0 : Int32)]) (rest := []) dX12_takeSecond_44 (kX12_digits (0 : Int32) w11) mkX12_digits tw2095 rfl rfl rfl rfl rfl rfl (fun _ w12 => ?_)
      refine xj_goto (tgt := 383) dX12_takeSecond_47 rfl ?_
      exact xj_rv dX12_takeSecond_383 rfl
  · refine xj_iloadn 0 dX12_takeSecond_50 rfl rfl ?_
    refine xj_iconst (v := 4) dX12_takeSecond_51 ci_4 ?_
    refine xj_ishr dX12_takeSecond_52 ?_
    refine xj_iconst (v := 4) dX12_takeSecond_53 ci_4 ?_
    refine xj_ine (tgt := 72) dX12_takeSecond_54 rfl ?_ ?_
    · refine xj_aloadn 1 dX12_takeSecond_57 rfl rfl ?_
      refine xj_bipush (v := 44) dX12_takeSecond_58 cb_44 ?_
      refine xj_iconst (v := 2) dX12_takeSecond_60 ci_2 ?_
      refine xj_iconst (v := 4) dX12_takeSecond_61 ci_4 ?_
      refine xj_cVv (argv := [.int (44 : Int32), .int (2 : Int32), .int (4 : Int32)]) (rest := []) dX12_takeSecond_62 (kX12_is (44 : Int32) (2 : Int32) (4 : Int32) (xwi w3 0 19 (x1 &&& (15 : Int32)))) mkX12_is tw2067 rfl rfl rfl rfl rfl rfl (fun _ w9 => ?_)
      refine xj_aloadn 1 dX12_takeSecond_65 rfl rfl ?_
      refine xj_cVv (argv := []) (rest := []) dX12_takeSecond_66 (kX12_operand w9) mkX12_operand tw2083 rfl rfl rfl rfl rfl rfl (fun _ w10 => ?_)
      refine xj_goto (tgt := 383) dX12_takeSecond_69 rfl ?_
      exact xj_rv dX12_takeSecond_383 rfl
    · refine xj_iloadn 0 dX12_takeSecond_72 rfl rfl ?_
      refine xj_iconst (v := 4) dX12_takeSecond_73 ci_4 ?_
      refine xj_ishr dX12_takeSecond_74 ?_
      refine xj_bipush (v := 8) dX12_takeSecond_75 cb_8 ?_
      refine xj_ine (tgt := 97) dX12_takeSecond_77 rfl ?_ ?_
      · refine xj_aloadn 1 dX12_takeSecond_80 rfl rfl ?_
        refine xj_bipush (v := 13) dX12_takeSecond_81 cb_13 ?_
        refine xj_bipush (v := 8) dX12_takeSecond_83 cb_8 ?_
        refine xj_iconst (v := 4) dX12_takeSecond_85 ci_4 ?_
        refine xj_cVv (argv := [.int (13 : Int32), .int (8 : Int32), .int (4 : Int32)]) (rest := []) dX12_takeSecond_86 (kX12_is (13 : Int32) (8 : Int32) (4 : Int32) (xwi w3 0 19 (x1 &&& (15 : Int32)))) mkX12_is tw2067 rfl rfl rfl rfl rfl rfl (fun _ w7 => ?_)
        refine xj_aloadn 1 dX12_takeSecond_89 rfl rfl ?_
        refine xj_iconst (v := 4) dX12_takeSecond_90 ci_4 ?_
        refine xj_cVv (argv := [.int (4 : Int32)]) (rest := []) dX12_takeSecond_91 (kX12_place (4 : Int32) w7) mkX12_place tw2087 rfl rfl rfl rfl rfl rfl (fun _ w8 => ?_)
        refine xj_goto (tgt := 383) dX12_takeSecond_94 rfl ?_
        exact xj_rv dX12_takeSecond_383 rfl
      · refine xj_iloadn 0 dX12_takeSecond_97 rfl rfl ?_
        refine xj_iconst (v := 4) dX12_takeSecond_98 ci_4 ?_
        refine xj_ishr dX12_takeSecond_99 ?_
        refine xj_bipush (v := 9) dX12_takeSecond_100 cb_9 ?_
        refine xj_ine (tgt := 120) dX12_takeSecond_102 rfl ?_ ?_
        · refine xj_aloadn 1 dX12_takeSecond_105 rfl rfl ?_
          refine xj_bipush (v := 45) dX12_takeSecond_106 cb_45 ?_
          refine xj_iconst (v := 5) dX12_takeSecond_108 ci_5 ?_
          refine xj_iconst (v := 1) dX12_takeSecond_109 ci_1 ?_
          refine xj_cVv (argv := [.int (45 : Int32), .int (5 : Int32), .int (1 : Int32)]) (rest := []) dX12_takeSecond_110 (kX12_is (45 : Int32) (5 : Int32) (1 : Int32) (xwi w3 0 19 (x1 &&& (15 : Int32)))) mkX12_is tw2067 rfl rfl rfl rfl rfl rfl (fun _ w5 => ?_)
          refine xj_aloadn 1 dX12_takeSecond_113 rfl rfl ?_
          refine xj_cVv (argv := []) (rest := []) dX12_takeSecond_114 (kX12_operand w5) mkX12_operand tw2083 rfl rfl rfl rfl rfl rfl (fun _ w6 => ?_)
          refine xj_goto (tgt := 383) dX12_takeSecond_117 rfl ?_
          exact xj_rv dX12_takeSecond_383 rfl
        · refine xj_iloadn 0 dX12_takeSecond_120 rfl rfl ?_
          refine xj_sipush (v := 164) dX12_takeSecond_121 cs_164 ?_
          refine xj_ieq (tgt := 134) dX12_takeSecond_124 rfl ?_ ?_
          · refine xj_sub (lv2 := [(0, .ref 0), (1, .int x1)]) [1, 0] rfl ?_
            exact tX12_takeSecond_j134 _ _
          · refine xj_iloadn 0 dX12_takeSecond_127 rfl rfl ?_
            refine xj_sipush (v := 172) dX12_takeSecond_128 cs_172 ?_
            refine xj_ine (tgt := 167) dX12_takeSecond_131 rfl ?_ ?_
            · refine xj_sub (lv2 := [(0, .ref 0), (1, .int x1)]) [1, 0] rfl ?_
              exact tX12_takeSecond_j134 _ _
            · refine xj_iloadn 0 dX12_takeSecond_167 rfl rfl ?_
              refine xj_sipush (v := 200) dX12_takeSecond_168 cs_200 ?_
              refine xj_ilt (tgt := 201) dX12_takeSecond_171 rfl ?_ ?_
              · refine xj_sub (lv2 := [(0, .ref 0), (1, .int x1)]) [1, 0] rfl ?_
                exact tX12_takeSecond_j201 _ _
              · refine xj_iloadn 0 dX12_takeSecond_174 rfl rfl ?_
                refine xj_sipush (v := 208) dX12_takeSecond_175 cs_208 ?_
                refine xj_ige (tgt := 201) dX12_takeSecond_178 rfl ?_ ?_
                · refine xj_aloadn 1 dX12_takeSecond_181 rfl rfl ?_
                  refine xj_bipush (v := 54) dX12_takeSecond_182 cb_54 ?_
                  refine xj_bipush (v := 6) dX12_takeSecond_184 cb_6 ?_
                  refine xj_iconst (v := 4) dX12_takeSecond_186 ci_4 ?_
                  refine xj_cVv (argv := [.int (54 : Int32), .int (6 : Int32), .int (4 : Int32)]) (rest := []) dX12_takeSecond_187 (kX12_is (54 : Int32) (6 : Int32) (4 : Int32) (xwi w3 0 19 (x1 &&& (15 : Int32)))) mkX12_is tw2067 rfl rfl rfl rfl rfl rfl (fun _ w4 => ?_)
                  refine xj_aloadn 1 dX12_takeSecond_190 rfl rfl ?_
                  refine xj_iloadn 0 dX12_takeSecond_191 rfl rfl ?_
                  refine xj_bipush (v := 7) dX12_takeSecond_192 cb_7 ?_
                  refine xj_iand dX12_takeSecond_194 ?_
                  refine pfX12_88 dX12_takeSecond_195 rfl ?_
                  refine xj_goto (tgt := 383) dX12_takeSecond_198 rfl ?_
                  exact xj_rv dX12_takeSecond_383 rfl
                · refine xj_sub (lv2 := [(0, .ref 0), (1, .int x1)]) [1, 0] rfl ?_
                  exact tX12_takeSecond_j201 _ _
theorem kX12_takeSecond (w : xW) : xMet jV mX12_takeSecond lM (0, 0) [.ref 0] w (sX12_takeSecond w) := xj_met lM_ok (by decide) (Nat.le_of_ble_eq_true rfl) (Nat.zero_le _) (Nat.zero_le _) (tX12_takeSecond w)
set_option maxRecDepth 20000 in
def sX12_takeWord_j61 (b0 : Int32) (b1 : Int32) (w : xW) : Option (Unit × xW) :=
  xbd (sX12_is b1 b0 (2 : Int32) w) (fun _ w1 => xbd (sX12_operand w1) (fun _ w2 => some ((), w2)))
set_option maxRecDepth 20000 in
theorem tX12_takeWord_j61 (b0 : Int32) (b1 : Int32) (w : xW) : xJ ιV mX12_takeWord lM (0, 0) 61 [(0, .ref 0)] [.int b0, .int b1, .ref 0] w (sX12_takeWord_j61 b0 b1 w) := by
  unfold sX12_takeWord_j61
  refine xj_iconst (v := 2) dX12_takeWord_61 ci_2 ?_
  refine xj_cVv (argv := [.int b1, .int b0, .int (2 : Int32)]) (rest := []) dX12_takeWord_62 (kX12_is b1 b0 (2 : Int32) w) mkX12_is tw2067 rfl rfl rfl rfl rfl rfl (fun _ w1 => ?_)
  refine xj_aloadn 0 dX12_takeWord_65 rfl rfl ?_
  refine xj_cVv (argv := []) (rest := []) dX12_takeWord_66 (kX12_operand w1) mkX12_operand tw2083 rfl rfl rfl rfl rfl rfl (fun _ w2 => ?_)
  exact xj_rv dX12_takeWord_69 rfl
set_option maxRecDepth 20000 in
def sX12_takeWord_j43 (a1 : Int32) (b0 : Int32) (w : xW) : Option (Unit × xW) :=
  xbd (sX12_digits b0 w) (fun _ w1 => (if a1 = (137 : Int32) then sX12_takeWord_j61 (1 : Int32) (16 : Int32) w1 else sX12_takeWord_j61 (2 : Int32) (16 : Int32) w1))
set_option maxRecDepth 20000 in
theorem tX12_takeWord_j43 (a1 : Int32) (b0 : Int32) (w : xW) : xJ ιV mX12_takeWord lM (0, 0) 43 [(0, .ref 0), (1, .int a1)] [.int b0, .ref 0] w (sX12_takeWord_j43 a1 b0 w) := by
  unfold sX12_takeWord_j43
  refine xj_cVv (argv := [.int b0]) (rest := []) dX12_takeWord_43 (kX12_digits b0 w) mkX12_digits tw2095 rfl rfl rfl rfl rfl rfl (fun _ w1 => ?_)
  refine xj_aloadn 0 dX12_takeWord_46 rfl rfl ?_
  refine xj_bipush (v := 16) dX12_takeWord_47 cb_16 ?_
  refine xj_iloadn 1 dX12_takeWord_49 rfl rfl ?_
  refine xj_sipush (v := 137) dX12_takeWord_50 cs_137 ?_
  refine xj_ine (tgt := 60) dX12_takeWord_53 rfl ?_ ?_
  · refine xj_iconst (v := 1) dX12_takeWord_56 ci_1 ?_
    refine xj_goto (tgt := 61) dX12_takeWord_57 rfl ?_
    refine xj_sub (lv2 := [(0, .ref 0)]) [0] rfl ?_
    exact tX12_takeWord_j61 _ _ _
  · refine xj_iconst (v := 2) dX12_takeWord_60 ci_2 ?_
    refine xj_sub (lv2 := [(0, .ref 0)]) [0] rfl ?_
    exact tX12_takeWord_j61 _ _ _
set_option maxRecDepth 20000 in
def sX12_takeWord_j38 (a1 : Int32) (w : xW) : Option (Unit × xW) :=
  sX12_takeWord_j43 a1 (1 : Int32) w
set_option maxRecDepth 20000 in
theorem tX12_takeWord_j38 (a1 : Int32) (w : xW) : xJ ιV mX12_takeWord lM (0, 0) 38 [(0, .ref 0), (1, .int a1)] [.ref 0] w (sX12_takeWord_j38 a1 w) := by
  unfold sX12_takeWord_j38
  refine xj_iconst (v := 1) dX12_takeWord_38 ci_1 ?_
  refine xj_goto (tgt := 43) dX12_takeWord_39 rfl ?_
  exact tX12_takeWord_j43 _ _ _
set_option maxRecDepth 20000 in
def sX12_takeWord (w : xW) : Option (Unit × xW) :=
  xbd (sX12_next w) (fun x1 w2 => (if x1 = (144 : Int32) then xbd (sX12_is (18 : Int32) (0 : Int32) (4 : Int32) w2) (fun _ w3 => some ((), w3)) else (if x1 = (137 : Int32) then sX12_takeWord_j38 x1 w2 else (if x1 = (139 : Int32) then sX12_takeWord_j38 x1 w2 else sX12_takeWord_j43 x1 (0 : Int32) w2))))
set_option maxRecDepth 20000 in
theorem tX12_takeWord (w : xW) : xJ ιV mX12_takeWord lM (0, 0) 0 [(0, .ref 0)] [] w (sX12_takeWord w) := by
  unfold sX12_takeWord
  refine xj_aloadn 0 dX12_takeWord_0 rfl rfl ?_
  refine xj_cVi (argv := []) (rest := []) dX12_takeWord_1 (kX12_next w) mkX12_next tw2063 rfl rfl rfl rfl rfl rfl (fun x1 w2 => ?_)
  refine xj_istoren (lv2 := [(1, .int x1), (0, .ref 0)]) dX12_takeWord_4 rfl (Nat.le_of_ble_eq_true rfl) rfl ?_
  refine xj_iloadn 0 dX12_takeWord_5 rfl rfl ?_
  refine xj_sipush (v := 144) dX12_takeWord_6 cs_144 ?_
  refine xj_ine (tgt := 23) dX12_takeWord_9 rfl ?_ ?_
  · refine xj_aloadn 1 dX12_takeWord_12 rfl rfl ?_
    refine xj_bipush (v := 18) dX12_takeWord_13 cb_18 ?_
    refine xj_iconst (v := 0) dX12_takeWord_15 ci_0 ?_
    refine xj_iconst (v := 4) dX12_takeWord_16 ci_4 ?_
    refine xj_cVv (argv := [.int (18 : Int32), .int (0 : Int32), .int (4 : Int32)]) (rest := []) dX12_takeWord_17 (kX12_is (18 : Int32) (0 : Int32) (4 : Int32) w2) mkX12_is tw2067 rfl rfl rfl rfl rfl rfl (fun _ w3 => ?_)
    refine xj_goto (tgt := 69) dX12_takeWord_20 rfl ?_
    exact xj_rv dX12_takeWord_69 rfl
  · refine xj_aloadn 1 dX12_takeWord_23 rfl rfl ?_
    refine xj_iloadn 0 dX12_takeWord_24 rfl rfl ?_
    refine xj_sipush (v := 137) dX12_takeWord_25 cs_137 ?_
    refine xj_ieq (tgt := 38) dX12_takeWord_28 rfl ?_ ?_
    · refine xj_sub (lv2 := [(0, .ref 0), (1, .int x1)]) [1, 0] rfl ?_
      exact tX12_takeWord_j38 _ _
    · refine xj_iloadn 0 dX12_takeWord_31 rfl rfl ?_
      refine xj_sipush (v := 139) dX12_takeWord_32 cs_139 ?_
      refine xj_ine (tgt := 42) dX12_takeWord_35 rfl ?_ ?_
      · refine xj_sub (lv2 := [(0, .ref 0), (1, .int x1)]) [1, 0] rfl ?_
        exact tX12_takeWord_j38 _ _
      · refine xj_iconst (v := 0) dX12_takeWord_42 ci_0 ?_
        refine xj_sub (lv2 := [(0, .ref 0), (1, .int x1)]) [1, 0] rfl ?_
        exact tX12_takeWord_j43 _ _ _
theorem kX12_takeWord (w : xW) : xMet jV mX12_takeWord lM (0, 0) [.ref 0] w (sX12_takeWord w) := xj_met lM_ok (by decide) (Nat.le_of_ble_eq_true rfl) (Nat.zero_le _) (Nat.zero_le _) (tX12_takeWord w)
set_option maxRecDepth 20000 in
def sX12_takeOther_j1339 (w : xW) : Option (Unit × xW) :=
  xbd (sX12_is (18 : Int32) (0 : Int32) (4 : Int32) w) (fun _ w1 => some ((), (xwi w1 0 32 (0 : Int32))))
set_option maxRecDepth 20000 in
theorem tX12_takeOther_j1339 (w : xW) : xJ ιV mX12_takeOther lM (0, 0) 1339 [(0, .ref 0)] [] w (sX12_takeOther_j1339 w) := by
  unfold sX12_takeOther_j1339
  refine xj_aloadn 0 dX12_takeOther_1339 rfl rfl ?_
  refine xj_bipush (v := 18) dX12_takeOther_1340 cb_18 ?_
  refine xj_iconst (v := 0) dX12_takeOther_1342 ci_0 ?_
  refine xj_iconst (v := 4) dX12_takeOther_1343 ci_4 ?_
  refine xj_cVv (argv := [.int (18 : Int32), .int (0 : Int32), .int (4 : Int32)]) (rest := []) dX12_takeOther_1344 (kX12_is (18 : Int32) (0 : Int32) (4 : Int32) w) mkX12_is tw2067 rfl rfl rfl rfl rfl rfl (fun _ w1 => ?_)
  refine xj_aloadn 0 dX12_takeOther_1347 rfl rfl ?_
  refine xj_iconst (v := 0) dX12_takeOther_1348 ci_0 ?_
  refine pfX12_62 dX12_takeOther_1349 rfl (Or.inl rfl) ?_
  exact xj_rv dX12_takeOther_1352 rfl
set_option maxRecDepth 20000 in
def sX12_takeOther_j624 (a1 : Int32) (w : xW) : Option (Unit × xW) :=
  xbd (sX12_is (10 : Int32) (7 : Int32) (4 : Int32) w) (fun _ w1 => (if a1 = (104 : Int32) then xbd (sX12_number (4 : Int32) w1) (fun _ w3 => some ((), w3)) else xbd (sX12_number (1 : Int32) w1) (fun _ w2 => some ((), w2))))
set_option maxRecDepth 20000 in
theorem tX12_takeOther_j624 (a1 : Int32) (w : xW) : xJ ιV mX12_takeOther lM (0, 0) 624 [(0, .ref 0), (1, .int a1)] [] w (sX12_takeOther_j624 a1 w) := by
  unfold sX12_takeOther_j624
  refine xj_aloadn 0 dX12_takeOther_624 rfl rfl ?_
  refine xj_bipush (v := 10) dX12_takeOther_625 cb_10 ?_
  refine xj_bipush (v := 7) dX12_takeOther_627 cb_7 ?_
  refine xj_iconst (v := 4) dX12_takeOther_629 ci_4 ?_
  refine xj_cVv (argv := [.int (10 : Int32), .int (7 : Int32), .int (4 : Int32)]) (rest := []) dX12_takeOther_630 (kX12_is (10 : Int32) (7 : Int32) (4 : Int32) w) mkX12_is tw2067 rfl rfl rfl rfl rfl rfl (fun _ w1 => ?_)
  refine xj_aloadn 0 dX12_takeOther_633 rfl rfl ?_
  refine xj_iloadn 1 dX12_takeOther_634 rfl rfl ?_
  refine xj_bipush (v := 104) dX12_takeOther_635 cb_104 ?_
  refine xj_ine (tgt := 644) dX12_takeOther_637 rfl ?_ ?_
  · refine xj_iconst (v := 4) dX12_takeOther_640 ci_4 ?_
    refine xj_goto (tgt := 645) dX12_takeOther_641 rfl ?_
    refine xj_cVv (argv := [.int (4 : Int32)]) (rest := []) dX12_takeOther_645 (kX12_number (4 : Int32) w1) mkX12_number tw2071 rfl rfl rfl rfl rfl rfl (fun _ w3 => ?_)
    refine xj_goto (tgt := 1352) dX12_takeOther_648 rfl ?_
    exact xj_rv dX12_takeOther_1352 rfl
  · refine xj_iconst (v := 1) dX12_takeOther_644 ci_1 ?_
    refine xj_cVv (argv := [.int (1 : Int32)]) (rest := []) dX12_takeOther_645 (kX12_number (1 : Int32) w1) mkX12_number tw2071 rfl rfl rfl rfl rfl rfl (fun _ w2 => ?_)
    refine xj_goto (tgt := 1352) dX12_takeOther_648 rfl ?_
    exact xj_rv dX12_takeOther_1352 rfl
set_option maxRecDepth 20000 in
def sX12_takeOther_j651 (a1 : Int32) (w : xW) : Option (Unit × xW) :=
  xbd (sX12_is (12 : Int32) (9 : Int32) (4 : Int32) w) (fun _ w1 => xbd (sX12_operand w1) (fun _ w2 => (if a1 = (105 : Int32) then xbd (sX12_number (4 : Int32) w2) (fun _ w4 => some ((), w4)) else xbd (sX12_number (1 : Int32) w2) (fun _ w3 => some ((), w3)))))
set_option maxRecDepth 20000 in
theorem tX12_takeOther_j651 (a1 : Int32) (w : xW) : xJ ιV mX12_takeOther lM (0, 0) 651 [(0, .ref 0), (1, .int a1)] [] w (sX12_takeOther_j651 a1 w) := by
  unfold sX12_takeOther_j651
  refine xj_aloadn 0 dX12_takeOther_651 rfl rfl ?_
  refine xj_bipush (v := 12) dX12_takeOther_652 cb_12 ?_
  refine xj_bipush (v := 9) dX12_takeOther_654 cb_9 ?_
  refine xj_iconst (v := 4) dX12_takeOther_656 ci_4 ?_
  refine xj_cVv (argv := [.int (12 : Int32), .int (9 : Int32), .int (4 : Int32)]) (rest := []) dX12_takeOther_657 (kX12_is (12 : Int32) (9 : Int32) (4 : Int32) w) mkX12_is tw2067 rfl rfl rfl rfl rfl rfl (fun _ w1 => ?_)
  refine xj_aloadn 0 dX12_takeOther_660 rfl rfl ?_
  refine xj_cVv (argv := []) (rest := []) dX12_takeOther_661 (kX12_operand w1) mkX12_operand tw2083 rfl rfl rfl rfl rfl rfl (fun _ w2 => ?_)
  refine xj_aloadn 0 dX12_takeOther_664 rfl rfl ?_
  refine xj_iloadn 1 dX12_takeOther_665 rfl rfl ?_
  refine xj_bipush (v := 105) dX12_takeOther_666 cb_105 ?_
  refine xj_ine (tgt := 675) dX12_takeOther_668 rfl ?_ ?_
  · refine xj_iconst (v := 4) dX12_takeOther_671 ci_4 ?_
    refine xj_goto (tgt := 676) dX12_takeOther_672 rfl ?_
    refine xj_cVv (argv := [.int (4 : Int32)]) (rest := []) dX12_takeOther_676 (kX12_number (4 : Int32) w2) mkX12_number tw2071 rfl rfl rfl rfl rfl rfl (fun _ w4 => ?_)
    refine xj_goto (tgt := 1352) dX12_takeOther_679 rfl ?_
    exact xj_rv dX12_takeOther_1352 rfl
  · refine xj_iconst (v := 1) dX12_takeOther_675 ci_1 ?_
    refine xj_cVv (argv := [.int (1 : Int32)]) (rest := []) dX12_takeOther_676 (kX12_number (1 : Int32) w2) mkX12_number tw2071 rfl rfl rfl rfl rfl rfl (fun _ w3 => ?_)
    refine xj_goto (tgt := 1352) dX12_takeOther_679 rfl ?_
    exact xj_rv dX12_takeOther_1352 rfl
set_option maxRecDepth 20000 in
def sX12_takeOther_j682 (a1 : Int32) (a2 : Int32) (w : xW) : Option (Unit × xW) :=
  xbd (sX12_is (0 : Int32) (4 : Int32) a2 w) (fun _ w1 => xbd (sX12_operand w1) (fun _ w2 => (if a1 = (129 : Int32) then xbd (sX12_number (4 : Int32) (xwi w2 0 17 (w2.1 0 23))) (fun _ w4 => some ((), w4)) else xbd (sX12_number (1 : Int32) (xwi w2 0 17 (w2.1 0 23))) (fun _ w3 => some ((), w3)))))
set_option maxRecDepth 20000 in
theorem tX12_takeOther_j682 (a1 : Int32) (a2 : Int32) (w : xW) : xJ ιV mX12_takeOther lM (0, 0) 682 [(0, .ref 0), (1, .int a1), (2, .int a2)] [] w (sX12_takeOther_j682 a1 a2 w) := by
  unfold sX12_takeOther_j682
  refine xj_aloadn 0 dX12_takeOther_682 rfl rfl ?_
  refine xj_iconst (v := 0) dX12_takeOther_683 ci_0 ?_
  refine xj_iconst (v := 4) dX12_takeOther_684 ci_4 ?_
  refine xj_iloadn 2 dX12_takeOther_685 rfl rfl ?_
  refine xj_cVv (argv := [.int (0 : Int32), .int (4 : Int32), .int a2]) (rest := []) dX12_takeOther_686 (kX12_is (0 : Int32) (4 : Int32) a2 w) mkX12_is tw2067 rfl rfl rfl rfl rfl rfl (fun _ w1 => ?_)
  refine xj_aloadn 0 dX12_takeOther_689 rfl rfl ?_
  refine xj_cVv (argv := []) (rest := []) dX12_takeOther_690 (kX12_operand w1) mkX12_operand tw2083 rfl rfl rfl rfl rfl rfl (fun _ w2 => ?_)
  refine xj_aloadn 0 dX12_takeOther_693 rfl rfl ?_
  refine xj_aloadn 0 dX12_takeOther_694 rfl rfl ?_
  refine gfX12_85 (v := (w2.1 0 23)) dX12_takeOther_695 rfl rfl ?_
  refine pfX12_70 dX12_takeOther_698 rfl ?_
  refine xj_aloadn 0 dX12_takeOther_701 rfl rfl ?_
  refine xj_iloadn 1 dX12_takeOther_702 rfl rfl ?_
  refine xj_sipush (v := 129) dX12_takeOther_703 cs_129 ?_
  refine xj_ine (tgt := 713) dX12_takeOther_706 rfl ?_ ?_
  · refine xj_iconst (v := 4) dX12_takeOther_709 ci_4 ?_
    refine xj_goto (tgt := 714) dX12_takeOther_710 rfl ?_
    refine xj_cVv (argv := [.int (4 : Int32)]) (rest := []) dX12_takeOther_714 (kX12_number (4 : Int32) (xwi w2 0 17 (w2.1 0 23))) mkX12_number tw2071 rfl rfl rfl rfl rfl rfl (fun _ w4 => ?_)
    refine xj_goto (tgt := 1352) dX12_takeOther_717 rfl ?_
    exact xj_rv dX12_takeOther_1352 rfl
  · refine xj_iconst (v := 1) dX12_takeOther_713 ci_1 ?_
    refine xj_cVv (argv := [.int (1 : Int32)]) (rest := []) dX12_takeOther_714 (kX12_number (1 : Int32) (xwi w2 0 17 (w2.1 0 23))) mkX12_number tw2071 rfl rfl rfl rfl rfl rfl (fun _ w3 => ?_)
    refine xj_goto (tgt := 1352) dX12_takeOther_717 rfl ?_
    exact xj_rv dX12_takeOther_1352 rfl
set_option maxRecDepth 20000 in
def sX12_takeOther_j720 (a2 : Int32) (w : xW) : Option (Unit × xW) :=
  xbd (sX12_is (14 : Int32) (1 : Int32) a2 w) (fun _ w1 => xbd (sX12_operand w1) (fun _ w2 => some ((), w2)))
set_option maxRecDepth 20000 in
theorem tX12_takeOther_j720 (a2 : Int32) (w : xW) : xJ ιV mX12_takeOther lM (0, 0) 720 [(0, .ref 0), (2, .int a2)] [] w (sX12_takeOther_j720 a2 w) := by
  unfold sX12_takeOther_j720
  refine xj_aloadn 0 dX12_takeOther_720 rfl rfl ?_
  refine xj_bipush (v := 14) dX12_takeOther_721 cb_14 ?_
  refine xj_iconst (v := 1) dX12_takeOther_723 ci_1 ?_
  refine xj_iloadn 1 dX12_takeOther_724 rfl rfl ?_
  refine xj_cVv (argv := [.int (14 : Int32), .int (1 : Int32), .int a2]) (rest := []) dX12_takeOther_725 (kX12_is (14 : Int32) (1 : Int32) a2 w) mkX12_is tw2067 rfl rfl rfl rfl rfl rfl (fun _ w1 => ?_)
  refine xj_aloadn 0 dX12_takeOther_728 rfl rfl ?_
  refine xj_cVv (argv := []) (rest := []) dX12_takeOther_729 (kX12_operand w1) mkX12_operand tw2083 rfl rfl rfl rfl rfl rfl (fun _ w2 => ?_)
  refine xj_goto (tgt := 1352) dX12_takeOther_732 rfl ?_
  exact xj_rv dX12_takeOther_1352 rfl
set_option maxRecDepth 20000 in
def sX12_takeOther_j735 (a2 : Int32) (w : xW) : Option (Unit × xW) :=
  xbd (sX12_is (15 : Int32) (1 : Int32) a2 w) (fun _ w1 => xbd (sX12_operand w1) (fun _ w2 => some ((), w2)))
set_option maxRecDepth 20000 in
theorem tX12_takeOther_j735 (a2 : Int32) (w : xW) : xJ ιV mX12_takeOther lM (0, 0) 735 [(0, .ref 0), (2, .int a2)] [] w (sX12_takeOther_j735 a2 w) := by
  unfold sX12_takeOther_j735
  refine xj_aloadn 0 dX12_takeOther_735 rfl rfl ?_
  refine xj_bipush (v := 15) dX12_takeOther_736 cb_15 ?_
  refine xj_iconst (v := 1) dX12_takeOther_738 ci_1 ?_
  refine xj_iloadn 1 dX12_takeOther_739 rfl rfl ?_
  refine xj_cVv (argv := [.int (15 : Int32), .int (1 : Int32), .int a2]) (rest := []) dX12_takeOther_740 (kX12_is (15 : Int32) (1 : Int32) a2 w) mkX12_is tw2067 rfl rfl rfl rfl rfl rfl (fun _ w1 => ?_)
  refine xj_aloadn 0 dX12_takeOther_743 rfl rfl ?_
  refine xj_cVv (argv := []) (rest := []) dX12_takeOther_744 (kX12_operand w1) mkX12_operand tw2083 rfl rfl rfl rfl rfl rfl (fun _ w2 => ?_)
  refine xj_goto (tgt := 1352) dX12_takeOther_747 rfl ?_
  exact xj_rv dX12_takeOther_1352 rfl
set_option maxRecDepth 20000 in
def sX12_takeOther_j750 (a2 : Int32) (w : xW) : Option (Unit × xW) :=
  xbd (sX12_is (16 : Int32) (1 : Int32) a2 w) (fun _ w1 => xbd (sX12_operand w1) (fun _ w2 => some ((), w2)))
set_option maxRecDepth 20000 in
theorem tX12_takeOther_j750 (a2 : Int32) (w : xW) : xJ ιV mX12_takeOther lM (0, 0) 750 [(0, .ref 0), (2, .int a2)] [] w (sX12_takeOther_j750 a2 w) := by
  unfold sX12_takeOther_j750
  refine xj_aloadn 0 dX12_takeOther_750 rfl rfl ?_
  refine xj_bipush (v := 16) dX12_takeOther_751 cb_16 ?_
  refine xj_iconst (v := 1) dX12_takeOther_753 ci_1 ?_
  refine xj_iloadn 1 dX12_takeOther_754 rfl rfl ?_
  refine xj_cVv (argv := [.int (16 : Int32), .int (1 : Int32), .int a2]) (rest := []) dX12_takeOther_755 (kX12_is (16 : Int32) (1 : Int32) a2 w) mkX12_is tw2067 rfl rfl rfl rfl rfl rfl (fun _ w1 => ?_)
  refine xj_aloadn 0 dX12_takeOther_758 rfl rfl ?_
  refine xj_cVv (argv := []) (rest := []) dX12_takeOther_759 (kX12_operand w1) mkX12_operand tw2083 rfl rfl rfl rfl rfl rfl (fun _ w2 => ?_)
  refine xj_goto (tgt := 1352) dX12_takeOther_762 rfl ?_
  exact xj_rv dX12_takeOther_1352 rfl
set_option maxRecDepth 20000 in
def sX12_takeOther_j765 (a2 : Int32) (w : xW) : Option (Unit × xW) :=
  xbd (sX12_is (16 : Int32) (2 : Int32) a2 w) (fun _ w1 => xbd (sX12_operand w1) (fun _ w2 => some ((), w2)))
set_option maxRecDepth 20000 in
theorem tX12_takeOther_j765 (a2 : Int32) (w : xW) : xJ ιV mX12_takeOther lM (0, 0) 765 [(0, .ref 0), (2, .int a2)] [] w (sX12_takeOther_j765 a2 w) := by
  unfold sX12_takeOther_j765
  refine xj_aloadn 0 dX12_takeOther_765 rfl rfl ?_
  refine xj_bipush (v := 16) dX12_takeOther_766 cb_16 ?_
  refine xj_iconst (v := 2) dX12_takeOther_768 ci_2 ?_
  refine xj_iloadn 1 dX12_takeOther_769 rfl rfl ?_
  refine xj_cVv (argv := [.int (16 : Int32), .int (2 : Int32), .int a2]) (rest := []) dX12_takeOther_770 (kX12_is (16 : Int32) (2 : Int32) a2 w) mkX12_is tw2067 rfl rfl rfl rfl rfl rfl (fun _ w1 => ?_)
  refine xj_aloadn 0 dX12_takeOther_773 rfl rfl ?_
  refine xj_cVv (argv := []) (rest := []) dX12_takeOther_774 (kX12_operand w1) mkX12_operand tw2083 rfl rfl rfl rfl rfl rfl (fun _ w2 => ?_)
  refine xj_goto (tgt := 1352) dX12_takeOther_777 rfl ?_
  exact xj_rv dX12_takeOther_1352 rfl
set_option maxRecDepth 20000 in
def sX12_takeOther_j869 (b0 : Int32) (w : xW) : Option (Unit × xW) :=
  xbd (sX12_is b0 (0 : Int32) (4 : Int32) w) (fun _ w1 => some ((), w1))
set_option maxRecDepth 20000 in
theorem tX12_takeOther_j869 (b0 : Int32) (w : xW) : xJ ιV mX12_takeOther lM (0, 0) 869 [] [.int b0, .ref 0] w (sX12_takeOther_j869 b0 w) := by
  unfold sX12_takeOther_j869
  refine xj_iconst (v := 0) dX12_takeOther_869 ci_0 ?_
  refine xj_iconst (v := 4) dX12_takeOther_870 ci_4 ?_
  refine xj_cVv (argv := [.int b0, .int (0 : Int32), .int (4 : Int32)]) (rest := []) dX12_takeOther_871 (kX12_is b0 (0 : Int32) (4 : Int32) w) mkX12_is tw2067 rfl rfl rfl rfl rfl rfl (fun _ w1 => ?_)
  refine xj_goto (tgt := 1352) dX12_takeOther_874 rfl ?_
  exact xj_rv dX12_takeOther_1352 rfl
set_option maxRecDepth 20000 in
def sX12_takeOther_j854 (a1 : Int32) (w : xW) : Option (Unit × xW) :=
  (if a1 = (152 : Int32) then sX12_takeOther_j869 (19 : Int32) w else sX12_takeOther_j869 (20 : Int32) w)
set_option maxRecDepth 20000 in
theorem tX12_takeOther_j854 (a1 : Int32) (w : xW) : xJ ιV mX12_takeOther lM (0, 0) 854 [(0, .ref 0), (1, .int a1)] [] w (sX12_takeOther_j854 a1 w) := by
  unfold sX12_takeOther_j854
  refine xj_aloadn 0 dX12_takeOther_854 rfl rfl ?_
  refine xj_iloadn 1 dX12_takeOther_855 rfl rfl ?_
  refine xj_sipush (v := 152) dX12_takeOther_856 cs_152 ?_
  refine xj_ine (tgt := 867) dX12_takeOther_859 rfl ?_ ?_
  · refine xj_bipush (v := 19) dX12_takeOther_862 cb_19 ?_
    refine xj_goto (tgt := 869) dX12_takeOther_864 rfl ?_
    refine xj_sub (lv2 := []) [] rfl ?_
    exact tX12_takeOther_j869 _ _
  · refine xj_bipush (v := 20) dX12_takeOther_867 cb_20 ?_
    refine xj_sub (lv2 := []) [] rfl ?_
    exact tX12_takeOther_j869 _ _
set_option maxRecDepth 20000 in
def sX12_takeOther_j877 (a2 : Int32) (w : xW) : Option (Unit × xW) :=
  xbd (sX12_is (14 : Int32) (3 : Int32) a2 w) (fun _ w1 => xbd (sX12_number a2 w1) (fun _ w2 => some ((), w2)))
set_option maxRecDepth 20000 in
theorem tX12_takeOther_j877 (a2 : Int32) (w : xW) : xJ ιV mX12_takeOther lM (0, 0) 877 [(0, .ref 0), (2, .int a2)] [] w (sX12_takeOther_j877 a2 w) := by
  unfold sX12_takeOther_j877
  refine xj_aloadn 0 dX12_takeOther_877 rfl rfl ?_
  refine xj_bipush (v := 14) dX12_takeOther_878 cb_14 ?_
  refine xj_iconst (v := 3) dX12_takeOther_880 ci_3 ?_
  refine xj_iloadn 1 dX12_takeOther_881 rfl rfl ?_
  refine xj_cVv (argv := [.int (14 : Int32), .int (3 : Int32), .int a2]) (rest := []) dX12_takeOther_882 (kX12_is (14 : Int32) (3 : Int32) a2 w) mkX12_is tw2067 rfl rfl rfl rfl rfl rfl (fun _ w1 => ?_)
  refine xj_aloadn 0 dX12_takeOther_885 rfl rfl ?_
  refine xj_iloadn 1 dX12_takeOther_886 rfl rfl ?_
  refine xj_cVv (argv := [.int a2]) (rest := []) dX12_takeOther_887 (kX12_number a2 w1) mkX12_number tw2071 rfl rfl rfl rfl rfl rfl (fun _ w2 => ?_)
  refine xj_goto (tgt := 1352) dX12_takeOther_890 rfl ?_
  exact xj_rv dX12_takeOther_1352 rfl
set_option maxRecDepth 20000 in
def sX12_takeOther_j968 (a1 : Int32) (b0 : Int32) (w : xW) : Option (Unit × xW) :=
  (if a1 < (194 : Int32) then xbd (sX12_number (1 : Int32) (xwi w 0 17 b0)) (fun _ w1 => some ((), w1)) else some ((), (xwi w 0 17 b0)))
set_option maxRecDepth 20000 in
theorem tX12_takeOther_j968 (a1 : Int32) (b0 : Int32) (w : xW) : xJ ιV mX12_takeOther lM (0, 0) 968 [(0, .ref 0), (1, .int a1)] [.int b0, .ref 0] w (sX12_takeOther_j968 a1 b0 w) := by
  unfold sX12_takeOther_j968
  refine pfX12_70 dX12_takeOther_968 rfl ?_
  refine xj_iloadn 1 dX12_takeOther_971 rfl rfl ?_
  refine xj_sipush (v := 194) dX12_takeOther_972 cs_194 ?_
  refine xj_ige (tgt := 1352) dX12_takeOther_975 rfl ?_ ?_
  · refine xj_aloadn 0 dX12_takeOther_978 rfl rfl ?_
    refine xj_iconst (v := 1) dX12_takeOther_979 ci_1 ?_
    refine xj_cVv (argv := [.int (1 : Int32)]) (rest := []) dX12_takeOther_980 (kX12_number (1 : Int32) (xwi w 0 17 b0)) mkX12_number tw2071 rfl rfl rfl rfl rfl rfl (fun _ w1 => ?_)
    refine xj_goto (tgt := 1352) dX12_takeOther_983 rfl ?_
    exact xj_rv dX12_takeOther_1352 rfl
  · exact xj_rv dX12_takeOther_1352 rfl
set_option maxRecDepth 20000 in
def sX12_takeOther_j943 (a1 : Int32) (b0 : Int32) (w : xW) : Option (Unit × xW) :=
  xbd (sX12_digits b0 w) (fun _ w1 => (if (w1.1 0 23) = (7 : Int32) then sX12_takeOther_j968 a1 (27 : Int32) w1 else sX12_takeOther_j968 a1 ((21 : Int32) + (w1.1 0 23)) w1))
set_option maxRecDepth 20000 in
theorem tX12_takeOther_j943 (a1 : Int32) (b0 : Int32) (w : xW) : xJ ιV mX12_takeOther lM (0, 0) 943 [(0, .ref 0), (1, .int a1)] [.int b0, .ref 0] w (sX12_takeOther_j943 a1 b0 w) := by
  unfold sX12_takeOther_j943
  refine xj_cVv (argv := [.int b0]) (rest := []) dX12_takeOther_943 (kX12_digits b0 w) mkX12_digits tw2095 rfl rfl rfl rfl rfl rfl (fun _ w1 => ?_)
  refine xj_aloadn 0 dX12_takeOther_946 rfl rfl ?_
  refine xj_aloadn 0 dX12_takeOther_947 rfl rfl ?_
  refine gfX12_85 (v := (w1.1 0 23)) dX12_takeOther_948 rfl rfl ?_
  refine xj_bipush (v := 7) dX12_takeOther_951 cb_7 ?_
  refine xj_ine (tgt := 961) dX12_takeOther_953 rfl ?_ ?_
  · refine xj_bipush (v := 27) dX12_takeOther_956 cb_27 ?_
    refine xj_goto (tgt := 968) dX12_takeOther_958 rfl ?_
    exact tX12_takeOther_j968 _ _ _
  · refine xj_bipush (v := 21) dX12_takeOther_961 cb_21 ?_
    refine xj_aloadn 0 dX12_takeOther_963 rfl rfl ?_
    refine gfX12_85 (v := (w1.1 0 23)) dX12_takeOther_964 rfl rfl ?_
    refine xj_iadd dX12_takeOther_967 ?_
    exact tX12_takeOther_j968 _ _ _
set_option maxRecDepth 20000 in
def sX12_takeOther_j920 (a1 : Int32) (a2 : Int32) (b0 : Int32) (b1 : Int32) (w : xW) : Option (Unit × xW) :=
  xbd (sX12_is b1 b0 a2 w) (fun _ w1 => xbd (sX12_operand w1) (fun _ w2 => (if (w2.1 0 23) = (6 : Int32) then sX12_takeOther_j943 a1 (0 : Int32) w2 else sX12_takeOther_j943 a1 (1 : Int32) w2)))
set_option maxRecDepth 20000 in
theorem tX12_takeOther_j920 (a1 : Int32) (a2 : Int32) (b0 : Int32) (b1 : Int32) (w : xW) : xJ ιV mX12_takeOther lM (0, 0) 920 [(0, .ref 0), (1, .int a1), (2, .int a2)] [.int b0, .int b1, .ref 0] w (sX12_takeOther_j920 a1 a2 b0 b1 w) := by
  unfold sX12_takeOther_j920
  refine xj_iloadn 2 dX12_takeOther_920 rfl rfl ?_
  refine xj_cVv (argv := [.int b1, .int b0, .int a2]) (rest := []) dX12_takeOther_921 (kX12_is b1 b0 a2 w) mkX12_is tw2067 rfl rfl rfl rfl rfl rfl (fun _ w1 => ?_)
  refine xj_aloadn 0 dX12_takeOther_924 rfl rfl ?_
  refine xj_cVv (argv := []) (rest := []) dX12_takeOther_925 (kX12_operand w1) mkX12_operand tw2083 rfl rfl rfl rfl rfl rfl (fun _ w2 => ?_)
  refine xj_aloadn 0 dX12_takeOther_928 rfl rfl ?_
  refine xj_aloadn 0 dX12_takeOther_929 rfl rfl ?_
  refine gfX12_85 (v := (w2.1 0 23)) dX12_takeOther_930 rfl rfl ?_
  refine xj_bipush (v := 6) dX12_takeOther_933 cb_6 ?_
  refine xj_ieq (tgt := 942) dX12_takeOther_935 rfl ?_ ?_
  · refine xj_iconst (v := 0) dX12_takeOther_942 ci_0 ?_
    refine xj_sub (lv2 := [(0, .ref 0), (1, .int a1)]) [0, 1] rfl ?_
    exact tX12_takeOther_j943 _ _ _
  · refine xj_iconst (v := 1) dX12_takeOther_938 ci_1 ?_
    refine xj_goto (tgt := 943) dX12_takeOther_939 rfl ?_
    refine xj_sub (lv2 := [(0, .ref 0), (1, .int a1)]) [0, 1] rfl ?_
    exact tX12_takeOther_j943 _ _ _
set_option maxRecDepth 20000 in
def sX12_takeOther_j893 (a1 : Int32) (a2 : Int32) (w : xW) : Option (Unit × xW) :=
  (if a1 < (194 : Int32) then sX12_takeOther_j920 a1 a2 (4 : Int32) (0 : Int32) w else (if a1 < (210 : Int32) then sX12_takeOther_j920 a1 a2 (10 : Int32) (0 : Int32) w else sX12_takeOther_j920 a1 a2 (11 : Int32) (0 : Int32) w))
set_option maxRecDepth 20000 in
theorem tX12_takeOther_j893 (a1 : Int32) (a2 : Int32) (w : xW) : xJ ιV mX12_takeOther lM (0, 0) 893 [(0, .ref 0), (1, .int a1), (2, .int a2)] [] w (sX12_takeOther_j893 a1 a2 w) := by
  unfold sX12_takeOther_j893
  refine xj_aloadn 0 dX12_takeOther_893 rfl rfl ?_
  refine xj_iconst (v := 0) dX12_takeOther_894 ci_0 ?_
  refine xj_iloadn 1 dX12_takeOther_895 rfl rfl ?_
  refine xj_sipush (v := 194) dX12_takeOther_896 cs_194 ?_
  refine xj_ige (tgt := 906) dX12_takeOther_899 rfl ?_ ?_
  · refine xj_iconst (v := 4) dX12_takeOther_902 ci_4 ?_
    refine xj_goto (tgt := 920) dX12_takeOther_903 rfl ?_
    exact tX12_takeOther_j920 _ _ _ _ _
  · refine xj_iloadn 1 dX12_takeOther_906 rfl rfl ?_
    refine xj_sipush (v := 210) dX12_takeOther_907 cs_210 ?_
    refine xj_ige (tgt := 918) dX12_takeOther_910 rfl ?_ ?_
    · refine xj_bipush (v := 10) dX12_takeOther_913 cb_10 ?_
      refine xj_goto (tgt := 920) dX12_takeOther_915 rfl ?_
      exact tX12_takeOther_j920 _ _ _ _ _
    · refine xj_bipush (v := 11) dX12_takeOther_918 cb_11 ?_
      exact tX12_takeOther_j920 _ _ _ _ _
set_option maxRecDepth 20000 in
def sX12_takeOther_j1011 (a2 : Int32) (b0 : Int32) (w : xW) : Option (Unit × xW) :=
  xbd (sX12_digits b0 w) (fun _ w1 => xbd (sX12_number a2 w1) (fun _ w2 => some ((), w2)))
set_option maxRecDepth 20000 in
theorem tX12_takeOther_j1011 (a2 : Int32) (b0 : Int32) (w : xW) : xJ ιV mX12_takeOther lM (0, 0) 1011 [(0, .ref 0), (2, .int a2)] [.int b0, .ref 0] w (sX12_takeOther_j1011 a2 b0 w) := by
  unfold sX12_takeOther_j1011
  refine xj_cVv (argv := [.int b0]) (rest := []) dX12_takeOther_1011 (kX12_digits b0 w) mkX12_digits tw2095 rfl rfl rfl rfl rfl rfl (fun _ w1 => ?_)
  refine xj_aloadn 0 dX12_takeOther_1014 rfl rfl ?_
  refine xj_iloadn 1 dX12_takeOther_1015 rfl rfl ?_
  refine xj_cVv (argv := [.int a2]) (rest := []) dX12_takeOther_1016 (kX12_number a2 w1) mkX12_number tw2071 rfl rfl rfl rfl rfl rfl (fun _ w2 => ?_)
  refine xj_goto (tgt := 1352) dX12_takeOther_1019 rfl ?_
  exact xj_rv dX12_takeOther_1352 rfl
set_option maxRecDepth 20000 in
def sX12_takeOther_j986 (a2 : Int32) (w : xW) : Option (Unit × xW) :=
  xbd (sX12_is (16 : Int32) (4 : Int32) a2 w) (fun _ w1 => xbd (sX12_operand w1) (fun _ w2 => (if (w2.1 0 23) = 0 then sX12_takeOther_j1011 a2 (1 : Int32) w2 else sX12_takeOther_j1011 a2 (0 : Int32) w2)))
set_option maxRecDepth 20000 in
theorem tX12_takeOther_j986 (a2 : Int32) (w : xW) : xJ ιV mX12_takeOther lM (0, 0) 986 [(0, .ref 0), (2, .int a2)] [] w (sX12_takeOther_j986 a2 w) := by
  unfold sX12_takeOther_j986
  refine xj_aloadn 0 dX12_takeOther_986 rfl rfl ?_
  refine xj_bipush (v := 16) dX12_takeOther_987 cb_16 ?_
  refine xj_iconst (v := 4) dX12_takeOther_989 ci_4 ?_
  refine xj_iloadn 1 dX12_takeOther_990 rfl rfl ?_
  refine xj_cVv (argv := [.int (16 : Int32), .int (4 : Int32), .int a2]) (rest := []) dX12_takeOther_991 (kX12_is (16 : Int32) (4 : Int32) a2 w) mkX12_is tw2067 rfl rfl rfl rfl rfl rfl (fun _ w1 => ?_)
  refine xj_aloadn 0 dX12_takeOther_994 rfl rfl ?_
  refine xj_cVv (argv := []) (rest := []) dX12_takeOther_995 (kX12_operand w1) mkX12_operand tw2083 rfl rfl rfl rfl rfl rfl (fun _ w2 => ?_)
  refine xj_aloadn 0 dX12_takeOther_998 rfl rfl ?_
  refine xj_aloadn 0 dX12_takeOther_999 rfl rfl ?_
  refine gfX12_85 (v := (w2.1 0 23)) dX12_takeOther_1000 rfl rfl ?_
  refine xj_ifne (tgt := 1010) dX12_takeOther_1003 rfl ?_ ?_
  · refine xj_iconst (v := 1) dX12_takeOther_1006 ci_1 ?_
    refine xj_goto (tgt := 1011) dX12_takeOther_1007 rfl ?_
    exact tX12_takeOther_j1011 _ _ _
  · refine xj_iconst (v := 0) dX12_takeOther_1010 ci_0 ?_
    exact tX12_takeOther_j1011 _ _ _
set_option maxRecDepth 20000 in
def sX12_takeOther_j1049 (b0 : Int32) (w : xW) : Option (Unit × xW) :=
  xbd (sX12_is b0 (8 : Int32) (4 : Int32) w) (fun _ w1 => xbd (sX12_place (1 : Int32) w1) (fun _ w2 => some ((), w2)))
set_option maxRecDepth 20000 in
theorem tX12_takeOther_j1049 (b0 : Int32) (w : xW) : xJ ιV mX12_takeOther lM (0, 0) 1049 [(0, .ref 0)] [.int b0, .ref 0] w (sX12_takeOther_j1049 b0 w) := by
  unfold sX12_takeOther_j1049
  refine xj_bipush (v := 8) dX12_takeOther_1049 cb_8 ?_
  refine xj_iconst (v := 4) dX12_takeOther_1051 ci_4 ?_
  refine xj_cVv (argv := [.int b0, .int (8 : Int32), .int (4 : Int32)]) (rest := []) dX12_takeOther_1052 (kX12_is b0 (8 : Int32) (4 : Int32) w) mkX12_is tw2067 rfl rfl rfl rfl rfl rfl (fun _ w1 => ?_)
  refine xj_aloadn 0 dX12_takeOther_1055 rfl rfl ?_
  refine xj_iconst (v := 1) dX12_takeOther_1056 ci_1 ?_
  refine xj_cVv (argv := [.int (1 : Int32)]) (rest := []) dX12_takeOther_1057 (kX12_place (1 : Int32) w1) mkX12_place tw2087 rfl rfl rfl rfl rfl rfl (fun _ w2 => ?_)
  refine xj_goto (tgt := 1352) dX12_takeOther_1060 rfl ?_
  exact xj_rv dX12_takeOther_1352 rfl
set_option maxRecDepth 20000 in
def sX12_takeOther_j1022 (a1 : Int32) (w : xW) : Option (Unit × xW) :=
  (if a1 = (226 : Int32) then sX12_takeOther_j1049 (28 : Int32) w else (if a1 = (227 : Int32) then sX12_takeOther_j1049 (29 : Int32) w else sX12_takeOther_j1049 (31 : Int32) w))
set_option maxRecDepth 20000 in
theorem tX12_takeOther_j1022 (a1 : Int32) (w : xW) : xJ ιV mX12_takeOther lM (0, 0) 1022 [(0, .ref 0), (1, .int a1)] [] w (sX12_takeOther_j1022 a1 w) := by
  unfold sX12_takeOther_j1022
  refine xj_aloadn 0 dX12_takeOther_1022 rfl rfl ?_
  refine xj_iloadn 1 dX12_takeOther_1023 rfl rfl ?_
  refine xj_sipush (v := 226) dX12_takeOther_1024 cs_226 ?_
  refine xj_ine (tgt := 1035) dX12_takeOther_1027 rfl ?_ ?_
  · refine xj_bipush (v := 28) dX12_takeOther_1030 cb_28 ?_
    refine xj_goto (tgt := 1049) dX12_takeOther_1032 rfl ?_
    refine xj_sub (lv2 := [(0, .ref 0)]) [0] rfl ?_
    exact tX12_takeOther_j1049 _ _
  · refine xj_iloadn 1 dX12_takeOther_1035 rfl rfl ?_
    refine xj_sipush (v := 227) dX12_takeOther_1036 cs_227 ?_
    refine xj_ine (tgt := 1047) dX12_takeOther_1039 rfl ?_ ?_
    · refine xj_bipush (v := 29) dX12_takeOther_1042 cb_29 ?_
      refine xj_goto (tgt := 1049) dX12_takeOther_1044 rfl ?_
      refine xj_sub (lv2 := [(0, .ref 0)]) [0] rfl ?_
      exact tX12_takeOther_j1049 _ _
    · refine xj_bipush (v := 31) dX12_takeOther_1047 cb_31 ?_
      refine xj_sub (lv2 := [(0, .ref 0)]) [0] rfl ?_
      exact tX12_takeOther_j1049 _ _
set_option maxRecDepth 20000 in
def sX12_takeOther_j1078 (b0 : Int32) (w : xW) : Option (Unit × xW) :=
  xbd (sX12_is b0 (8 : Int32) (4 : Int32) w) (fun _ w1 => xbd (sX12_place (4 : Int32) w1) (fun _ w2 => some ((), w2)))
set_option maxRecDepth 20000 in
theorem tX12_takeOther_j1078 (b0 : Int32) (w : xW) : xJ ιV mX12_takeOther lM (0, 0) 1078 [(0, .ref 0)] [.int b0, .ref 0] w (sX12_takeOther_j1078 b0 w) := by
  unfold sX12_takeOther_j1078
  refine xj_bipush (v := 8) dX12_takeOther_1078 cb_8 ?_
  refine xj_iconst (v := 4) dX12_takeOther_1080 ci_4 ?_
  refine xj_cVv (argv := [.int b0, .int (8 : Int32), .int (4 : Int32)]) (rest := []) dX12_takeOther_1081 (kX12_is b0 (8 : Int32) (4 : Int32) w) mkX12_is tw2067 rfl rfl rfl rfl rfl rfl (fun _ w1 => ?_)
  refine xj_aloadn 0 dX12_takeOther_1084 rfl rfl ?_
  refine xj_iconst (v := 4) dX12_takeOther_1085 ci_4 ?_
  refine xj_cVv (argv := [.int (4 : Int32)]) (rest := []) dX12_takeOther_1086 (kX12_place (4 : Int32) w1) mkX12_place tw2087 rfl rfl rfl rfl rfl rfl (fun _ w2 => ?_)
  refine xj_goto (tgt := 1352) dX12_takeOther_1089 rfl ?_
  exact xj_rv dX12_takeOther_1352 rfl
set_option maxRecDepth 20000 in
def sX12_takeOther_j1063 (a1 : Int32) (w : xW) : Option (Unit × xW) :=
  (if a1 = (232 : Int32) then sX12_takeOther_j1078 (30 : Int32) w else sX12_takeOther_j1078 (31 : Int32) w)
set_option maxRecDepth 20000 in
theorem tX12_takeOther_j1063 (a1 : Int32) (w : xW) : xJ ιV mX12_takeOther lM (0, 0) 1063 [(0, .ref 0), (1, .int a1)] [] w (sX12_takeOther_j1063 a1 w) := by
  unfold sX12_takeOther_j1063
  refine xj_aloadn 0 dX12_takeOther_1063 rfl rfl ?_
  refine xj_iloadn 1 dX12_takeOther_1064 rfl rfl ?_
  refine xj_sipush (v := 232) dX12_takeOther_1065 cs_232 ?_
  refine xj_ine (tgt := 1076) dX12_takeOther_1068 rfl ?_ ?_
  · refine xj_bipush (v := 30) dX12_takeOther_1071 cb_30 ?_
    refine xj_goto (tgt := 1078) dX12_takeOther_1073 rfl ?_
    refine xj_sub (lv2 := [(0, .ref 0)]) [0] rfl ?_
    exact tX12_takeOther_j1078 _ _
  · refine xj_bipush (v := 31) dX12_takeOther_1076 cb_31 ?_
    refine xj_sub (lv2 := [(0, .ref 0)]) [0] rfl ?_
    exact tX12_takeOther_j1078 _ _
set_option maxRecDepth 20000 in
def sX12_takeOther_j1107 (b0 : Int32) (w : xW) : Option (Unit × xW) :=
  xbd (sX12_is b0 (0 : Int32) (4 : Int32) w) (fun _ w1 => some ((), w1))
set_option maxRecDepth 20000 in
theorem tX12_takeOther_j1107 (b0 : Int32) (w : xW) : xJ ιV mX12_takeOther lM (0, 0) 1107 [] [.int b0, .ref 0] w (sX12_takeOther_j1107 b0 w) := by
  unfold sX12_takeOther_j1107
  refine xj_iconst (v := 0) dX12_takeOther_1107 ci_0 ?_
  refine xj_iconst (v := 4) dX12_takeOther_1108 ci_4 ?_
  refine xj_cVv (argv := [.int b0, .int (0 : Int32), .int (4 : Int32)]) (rest := []) dX12_takeOther_1109 (kX12_is b0 (0 : Int32) (4 : Int32) w) mkX12_is tw2067 rfl rfl rfl rfl rfl rfl (fun _ w1 => ?_)
  refine xj_goto (tgt := 1352) dX12_takeOther_1112 rfl ?_
  exact xj_rv dX12_takeOther_1352 rfl
set_option maxRecDepth 20000 in
def sX12_takeOther_j1092 (a1 : Int32) (w : xW) : Option (Unit × xW) :=
  (if a1 = (244 : Int32) then sX12_takeOther_j1107 (32 : Int32) w else sX12_takeOther_j1107 (33 : Int32) w)
set_option maxRecDepth 20000 in
theorem tX12_takeOther_j1092 (a1 : Int32) (w : xW) : xJ ιV mX12_takeOther lM (0, 0) 1092 [(0, .ref 0), (1, .int a1)] [] w (sX12_takeOther_j1092 a1 w) := by
  unfold sX12_takeOther_j1092
  refine xj_aloadn 0 dX12_takeOther_1092 rfl rfl ?_
  refine xj_iloadn 1 dX12_takeOther_1093 rfl rfl ?_
  refine xj_sipush (v := 244) dX12_takeOther_1094 cs_244 ?_
  refine xj_ine (tgt := 1105) dX12_takeOther_1097 rfl ?_ ?_
  · refine xj_bipush (v := 32) dX12_takeOther_1100 cb_32 ?_
    refine xj_goto (tgt := 1107) dX12_takeOther_1102 rfl ?_
    refine xj_sub (lv2 := []) [] rfl ?_
    exact tX12_takeOther_j1107 _ _
  · refine xj_bipush (v := 33) dX12_takeOther_1105 cb_33 ?_
    refine xj_sub (lv2 := []) [] rfl ?_
    exact tX12_takeOther_j1107 _ _
set_option maxRecDepth 20000 in
def sX12_takeOther_j1188 (a2 : Int32) (b0 : Int32) (w : xW) : Option (Unit × xW) :=
  (if (w.1 0 23) = 0 then xbd (sX12_number a2 (xwi (xwi w 0 17 b0) 0 18 (4 : Int32))) (fun _ w1 => some ((), w1)) else some ((), (xwi w 0 17 b0)))
set_option maxRecDepth 20000 in
theorem tX12_takeOther_j1188 (a2 : Int32) (b0 : Int32) (w : xW) : xJ ιV mX12_takeOther lM (0, 0) 1188 [(0, .ref 0), (2, .int a2)] [.int b0, .ref 0] w (sX12_takeOther_j1188 a2 b0 w) := by
  unfold sX12_takeOther_j1188
  refine pfX12_70 dX12_takeOther_1188 rfl ?_
  refine xj_aloadn 0 dX12_takeOther_1191 rfl rfl ?_
  refine gfX12_85 (v := (w.1 0 23)) dX12_takeOther_1192 rfl rfl ?_
  refine xj_ifne (tgt := 1352) dX12_takeOther_1195 rfl ?_ ?_
  · refine xj_aloadn 0 dX12_takeOther_1198 rfl rfl ?_
    refine xj_iconst (v := 4) dX12_takeOther_1199 ci_4 ?_
    refine pfX12_73 dX12_takeOther_1200 rfl ?_
    refine xj_aloadn 0 dX12_takeOther_1203 rfl rfl ?_
    refine xj_iloadn 1 dX12_takeOther_1204 rfl rfl ?_
    refine xj_cVv (argv := [.int a2]) (rest := []) dX12_takeOther_1205 (kX12_number a2 (xwi (xwi w 0 17 b0) 0 18 (4 : Int32))) mkX12_number tw2071 rfl rfl rfl rfl rfl rfl (fun _ w1 => ?_)
    refine xj_goto (tgt := 1352) dX12_takeOther_1208 rfl ?_
    exact xj_rv dX12_takeOther_1352 rfl
  · exact xj_rv dX12_takeOther_1352 rfl
set_option maxRecDepth 20000 in
def sX12_takeOther_j1163 (a2 : Int32) (b0 : Int32) (w : xW) : Option (Unit × xW) :=
  xbd (sX12_digits b0 w) (fun _ w1 => (if (w1.1 0 23) = 0 then sX12_takeOther_j1188 a2 (14 : Int32) w1 else sX12_takeOther_j1188 a2 (((36 : Int32) + (w1.1 0 23)) - (2 : Int32)) w1))
set_option maxRecDepth 20000 in
theorem tX12_takeOther_j1163 (a2 : Int32) (b0 : Int32) (w : xW) : xJ ιV mX12_takeOther lM (0, 0) 1163 [(0, .ref 0), (2, .int a2)] [.int b0, .ref 0] w (sX12_takeOther_j1163 a2 b0 w) := by
  unfold sX12_takeOther_j1163
  refine xj_cVv (argv := [.int b0]) (rest := []) dX12_takeOther_1163 (kX12_digits b0 w) mkX12_digits tw2095 rfl rfl rfl rfl rfl rfl (fun _ w1 => ?_)
  refine xj_aloadn 0 dX12_takeOther_1166 rfl rfl ?_
  refine xj_aloadn 0 dX12_takeOther_1167 rfl rfl ?_
  refine gfX12_85 (v := (w1.1 0 23)) dX12_takeOther_1168 rfl rfl ?_
  refine xj_ifne (tgt := 1179) dX12_takeOther_1171 rfl ?_ ?_
  · refine xj_bipush (v := 14) dX12_takeOther_1174 cb_14 ?_
    refine xj_goto (tgt := 1188) dX12_takeOther_1176 rfl ?_
    exact tX12_takeOther_j1188 _ _ _
  · refine xj_bipush (v := 36) dX12_takeOther_1179 cb_36 ?_
    refine xj_aloadn 0 dX12_takeOther_1181 rfl rfl ?_
    refine gfX12_85 (v := (w1.1 0 23)) dX12_takeOther_1182 rfl rfl ?_
    refine xj_iadd dX12_takeOther_1185 ?_
    refine xj_iconst (v := 2) dX12_takeOther_1186 ci_2 ?_
    refine xj_isub dX12_takeOther_1187 ?_
    exact tX12_takeOther_j1188 _ _ _
set_option maxRecDepth 20000 in
def sX12_takeOther_j1138 (a2 : Int32) (w : xW) : Option (Unit × xW) :=
  xbd (sX12_is (0 : Int32) (5 : Int32) a2 w) (fun _ w1 => xbd (sX12_operand w1) (fun _ w2 => (if (w2.1 0 23) = (1 : Int32) then sX12_takeOther_j1163 a2 (0 : Int32) w2 else sX12_takeOther_j1163 a2 (1 : Int32) w2)))
set_option maxRecDepth 20000 in
theorem tX12_takeOther_j1138 (a2 : Int32) (w : xW) : xJ ιV mX12_takeOther lM (0, 0) 1138 [(0, .ref 0), (2, .int a2)] [] w (sX12_takeOther_j1138 a2 w) := by
  unfold sX12_takeOther_j1138
  refine xj_aloadn 0 dX12_takeOther_1138 rfl rfl ?_
  refine xj_iconst (v := 0) dX12_takeOther_1139 ci_0 ?_
  refine xj_iconst (v := 5) dX12_takeOther_1140 ci_5 ?_
  refine xj_iloadn 1 dX12_takeOther_1141 rfl rfl ?_
  refine xj_cVv (argv := [.int (0 : Int32), .int (5 : Int32), .int a2]) (rest := []) dX12_takeOther_1142 (kX12_is (0 : Int32) (5 : Int32) a2 w) mkX12_is tw2067 rfl rfl rfl rfl rfl rfl (fun _ w1 => ?_)
  refine xj_aloadn 0 dX12_takeOther_1145 rfl rfl ?_
  refine xj_cVv (argv := []) (rest := []) dX12_takeOther_1146 (kX12_operand w1) mkX12_operand tw2083 rfl rfl rfl rfl rfl rfl (fun _ w2 => ?_)
  refine xj_aloadn 0 dX12_takeOther_1149 rfl rfl ?_
  refine xj_aloadn 0 dX12_takeOther_1150 rfl rfl ?_
  refine gfX12_85 (v := (w2.1 0 23)) dX12_takeOther_1151 rfl rfl ?_
  refine xj_iconst (v := 1) dX12_takeOther_1154 ci_1 ?_
  refine xj_ieq (tgt := 1162) dX12_takeOther_1155 rfl ?_ ?_
  · refine xj_iconst (v := 0) dX12_takeOther_1162 ci_0 ?_
    exact tX12_takeOther_j1163 _ _ _
  · refine xj_iconst (v := 1) dX12_takeOther_1158 ci_1 ?_
    refine xj_goto (tgt := 1163) dX12_takeOther_1159 rfl ?_
    exact tX12_takeOther_j1163 _ _ _
set_option maxRecDepth 20000 in
def sX12_takeOther_j1130 (b0 : Int32) (w : xW) : Option (Unit × xW) :=
  xbd (sX12_is b0 (0 : Int32) (4 : Int32) w) (fun _ w1 => some ((), w1))
set_option maxRecDepth 20000 in
theorem tX12_takeOther_j1130 (b0 : Int32) (w : xW) : xJ ιV mX12_takeOther lM (0, 0) 1130 [] [.int b0, .ref 0] w (sX12_takeOther_j1130 b0 w) := by
  unfold sX12_takeOther_j1130
  refine xj_iconst (v := 0) dX12_takeOther_1130 ci_0 ?_
  refine xj_iconst (v := 4) dX12_takeOther_1131 ci_4 ?_
  refine xj_cVv (argv := [.int b0, .int (0 : Int32), .int (4 : Int32)]) (rest := []) dX12_takeOther_1132 (kX12_is b0 (0 : Int32) (4 : Int32) w) mkX12_is tw2067 rfl rfl rfl rfl rfl rfl (fun _ w1 => ?_)
  refine xj_goto (tgt := 1352) dX12_takeOther_1135 rfl ?_
  exact xj_rv dX12_takeOther_1352 rfl
set_option maxRecDepth 20000 in
def sX12_takeOther_j1115 (a1 : Int32) (w : xW) : Option (Unit × xW) :=
  (if a1 = (248 : Int32) then sX12_takeOther_j1130 (34 : Int32) w else sX12_takeOther_j1130 (35 : Int32) w)
set_option maxRecDepth 20000 in
theorem tX12_takeOther_j1115 (a1 : Int32) (w : xW) : xJ ιV mX12_takeOther lM (0, 0) 1115 [(0, .ref 0), (1, .int a1)] [] w (sX12_takeOther_j1115 a1 w) := by
  unfold sX12_takeOther_j1115
  refine xj_aloadn 0 dX12_takeOther_1115 rfl rfl ?_
  refine xj_iloadn 1 dX12_takeOther_1116 rfl rfl ?_
  refine xj_sipush (v := 248) dX12_takeOther_1117 cs_248 ?_
  refine xj_ine (tgt := 1128) dX12_takeOther_1120 rfl ?_ ?_
  · refine xj_bipush (v := 34) dX12_takeOther_1123 cb_34 ?_
    refine xj_goto (tgt := 1130) dX12_takeOther_1125 rfl ?_
    refine xj_sub (lv2 := []) [] rfl ?_
    exact tX12_takeOther_j1130 _ _
  · refine xj_bipush (v := 35) dX12_takeOther_1128 cb_35 ?_
    refine xj_sub (lv2 := []) [] rfl ?_
    exact tX12_takeOther_j1130 _ _
set_option maxRecDepth 20000 in
def sX12_takeOther_j1328 (w : xW) : Option (Unit × xW) :=
  xbd (sX12_digits (1 : Int32) w) (fun _ w1 => some ((), w1))
set_option maxRecDepth 20000 in
theorem tX12_takeOther_j1328 (w : xW) : xJ ιV mX12_takeOther lM (0, 0) 1328 [] [.ref 0] w (sX12_takeOther_j1328 w) := by
  unfold sX12_takeOther_j1328
  refine xj_iconst (v := 1) dX12_takeOther_1328 ci_1 ?_
  refine xj_goto (tgt := 1333) dX12_takeOther_1329 rfl ?_
  refine xj_cVv (argv := [.int (1 : Int32)]) (rest := []) dX12_takeOther_1333 (kX12_digits (1 : Int32) w) mkX12_digits tw2095 rfl rfl rfl rfl rfl rfl (fun _ w1 => ?_)
  refine xj_goto (tgt := 1352) dX12_takeOther_1336 rfl ?_
  exact xj_rv dX12_takeOther_1352 rfl
set_option maxRecDepth 20000 in
def sX12_takeOther_j1320 (w : xW) : Option (Unit × xW) :=
  (if (w.1 0 22) = (3 : Int32) then sX12_takeOther_j1328 w else xbd (sX12_digits (0 : Int32) w) (fun _ w1 => some ((), w1)))
set_option maxRecDepth 20000 in
theorem tX12_takeOther_j1320 (w : xW) : xJ ιV mX12_takeOther lM (0, 0) 1320 [(0, .ref 0)] [.ref 0] w (sX12_takeOther_j1320 w) := by
  unfold sX12_takeOther_j1320
  refine xj_aloadn 0 dX12_takeOther_1320 rfl rfl ?_
  refine gfX12_82 (v := (w.1 0 22)) dX12_takeOther_1321 rfl rfl ?_
  refine xj_iconst (v := 3) dX12_takeOther_1324 ci_3 ?_
  refine xj_ine (tgt := 1332) dX12_takeOther_1325 rfl ?_ ?_
  · refine xj_sub (lv2 := []) [] rfl ?_
    exact tX12_takeOther_j1328 _
  · refine xj_iconst (v := 0) dX12_takeOther_1332 ci_0 ?_
    refine xj_cVv (argv := [.int (0 : Int32)]) (rest := []) dX12_takeOther_1333 (kX12_digits (0 : Int32) w) mkX12_digits tw2095 rfl rfl rfl rfl rfl rfl (fun _ w1 => ?_)
    refine xj_goto (tgt := 1352) dX12_takeOther_1336 rfl ?_
    exact xj_rv dX12_takeOther_1352 rfl
set_option maxRecDepth 20000 in
def sX12_takeOther_j1276 (a1 : Int32) (b0 : Int32) (w : xW) : Option (Unit × xW) :=
  (if (w.1 0 23) < (2 : Int32) then sX12_takeOther_j1328 (xwi w 0 17 b0) else (if a1 = (255 : Int32) then (if (w.1 0 23) = (6 : Int32) then sX12_takeOther_j1328 (xwi w 0 17 b0) else (if (w.1 0 23) = (2 : Int32) then sX12_takeOther_j1320 (xwi w 0 17 b0) else (if (w.1 0 23) = (4 : Int32) then sX12_takeOther_j1320 (xwi w 0 17 b0) else xbd (sX12_digits (0 : Int32) (xwi w 0 17 b0)) (fun _ w2 => some ((), w2))))) else xbd (sX12_digits (0 : Int32) (xwi w 0 17 b0)) (fun _ w1 => some ((), w1))))
set_option maxRecDepth 20000 in
theorem tX12_takeOther_j1276 (a1 : Int32) (b0 : Int32) (w : xW) : xJ ιV mX12_takeOther lM (0, 0) 1276 [(0, .ref 0), (1, .int a1)] [.int b0, .ref 0] w (sX12_takeOther_j1276 a1 b0 w) := by
  unfold sX12_takeOther_j1276
  refine pfX12_70 dX12_takeOther_1276 rfl ?_
  refine xj_aloadn 0 dX12_takeOther_1279 rfl rfl ?_
  refine xj_aloadn 0 dX12_takeOther_1280 rfl rfl ?_
  refine gfX12_85 (v := (w.1 0 23)) dX12_takeOther_1281 rfl rfl ?_
  refine xj_iconst (v := 2) dX12_takeOther_1284 ci_2 ?_
  refine xj_ilt (tgt := 1328) dX12_takeOther_1285 rfl ?_ ?_
  · refine xj_sub (lv2 := []) [] rfl ?_
    exact tX12_takeOther_j1328 _
  · refine xj_iloadn 1 dX12_takeOther_1288 rfl rfl ?_
    refine xj_sipush (v := 255) dX12_takeOther_1289 cs_255 ?_
    refine xj_ine (tgt := 1332) dX12_takeOther_1292 rfl ?_ ?_
    · refine xj_aloadn 0 dX12_takeOther_1295 rfl rfl ?_
      refine gfX12_85 (v := (w.1 0 23)) dX12_takeOther_1296 rfl rfl ?_
      refine xj_bipush (v := 6) dX12_takeOther_1299 cb_6 ?_
      refine xj_ieq (tgt := 1328) dX12_takeOther_1301 rfl ?_ ?_
      · refine xj_sub (lv2 := []) [] rfl ?_
        exact tX12_takeOther_j1328 _
      · refine xj_aloadn 0 dX12_takeOther_1304 rfl rfl ?_
        refine gfX12_85 (v := (w.1 0 23)) dX12_takeOther_1305 rfl rfl ?_
        refine xj_iconst (v := 2) dX12_takeOther_1308 ci_2 ?_
        refine xj_ieq (tgt := 1320) dX12_takeOther_1309 rfl ?_ ?_
        · refine xj_sub (lv2 := [(0, .ref 0)]) [0] rfl ?_
          exact tX12_takeOther_j1320 _
        · refine xj_aloadn 0 dX12_takeOther_1312 rfl rfl ?_
          refine gfX12_85 (v := (w.1 0 23)) dX12_takeOther_1313 rfl rfl ?_
          refine xj_iconst (v := 4) dX12_takeOther_1316 ci_4 ?_
          refine xj_ine (tgt := 1332) dX12_takeOther_1317 rfl ?_ ?_
          · refine xj_sub (lv2 := [(0, .ref 0)]) [0] rfl ?_
            exact tX12_takeOther_j1320 _
          · refine xj_iconst (v := 0) dX12_takeOther_1332 ci_0 ?_
            refine xj_cVv (argv := [.int (0 : Int32)]) (rest := []) dX12_takeOther_1333 (kX12_digits (0 : Int32) (xwi w 0 17 b0)) mkX12_digits tw2095 rfl rfl rfl rfl rfl rfl (fun _ w2 => ?_)
            refine xj_goto (tgt := 1352) dX12_takeOther_1336 rfl ?_
            exact xj_rv dX12_takeOther_1352 rfl
    · refine xj_iconst (v := 0) dX12_takeOther_1332 ci_0 ?_
      refine xj_cVv (argv := [.int (0 : Int32)]) (rest := []) dX12_takeOther_1333 (kX12_digits (0 : Int32) (xwi w 0 17 b0)) mkX12_digits tw2095 rfl rfl rfl rfl rfl rfl (fun _ w1 => ?_)
      refine xj_goto (tgt := 1352) dX12_takeOther_1336 rfl ?_
      exact xj_rv dX12_takeOther_1352 rfl
set_option maxRecDepth 20000 in
def sX12_takeOther_j1211 (a1 : Int32) (a2 : Int32) (w : xW) : Option (Unit × xW) :=
  xbd (sX12_is (0 : Int32) (5 : Int32) a2 w) (fun _ w1 => xbd (sX12_operand w1) (fun _ w2 => (if (w2.1 0 23) = 0 then sX12_takeOther_j1276 a1 (8 : Int32) w2 else (if (w2.1 0 23) = (1 : Int32) then sX12_takeOther_j1276 a1 (9 : Int32) w2 else (if (w2.1 0 23) = (2 : Int32) then sX12_takeOther_j1276 a1 (42 : Int32) w2 else (if (w2.1 0 23) = (4 : Int32) then sX12_takeOther_j1276 a1 (43 : Int32) w2 else sX12_takeOther_j1276 a1 (10 : Int32) w2))))))
set_option maxRecDepth 20000 in
theorem tX12_takeOther_j1211 (a1 : Int32) (a2 : Int32) (w : xW) : xJ ιV mX12_takeOther lM (0, 0) 1211 [(0, .ref 0), (1, .int a1), (2, .int a2)] [] w (sX12_takeOther_j1211 a1 a2 w) := by
  unfold sX12_takeOther_j1211
  refine xj_aloadn 0 dX12_takeOther_1211 rfl rfl ?_
  refine xj_iconst (v := 0) dX12_takeOther_1212 ci_0 ?_
  refine xj_iconst (v := 5) dX12_takeOther_1213 ci_5 ?_
  refine xj_iloadn 2 dX12_takeOther_1214 rfl rfl ?_
  refine xj_cVv (argv := [.int (0 : Int32), .int (5 : Int32), .int a2]) (rest := []) dX12_takeOther_1215 (kX12_is (0 : Int32) (5 : Int32) a2 w) mkX12_is tw2067 rfl rfl rfl rfl rfl rfl (fun _ w1 => ?_)
  refine xj_aloadn 0 dX12_takeOther_1218 rfl rfl ?_
  refine xj_cVv (argv := []) (rest := []) dX12_takeOther_1219 (kX12_operand w1) mkX12_operand tw2083 rfl rfl rfl rfl rfl rfl (fun _ w2 => ?_)
  refine xj_aloadn 0 dX12_takeOther_1222 rfl rfl ?_
  refine xj_aloadn 0 dX12_takeOther_1223 rfl rfl ?_
  refine gfX12_85 (v := (w2.1 0 23)) dX12_takeOther_1224 rfl rfl ?_
  refine xj_ifne (tgt := 1235) dX12_takeOther_1227 rfl ?_ ?_
  · refine xj_bipush (v := 8) dX12_takeOther_1230 cb_8 ?_
    refine xj_goto (tgt := 1276) dX12_takeOther_1232 rfl ?_
    refine xj_sub (lv2 := [(0, .ref 0), (1, .int a1)]) [0, 1] rfl ?_
    exact tX12_takeOther_j1276 _ _ _
  · refine xj_aloadn 0 dX12_takeOther_1235 rfl rfl ?_
    refine gfX12_85 (v := (w2.1 0 23)) dX12_takeOther_1236 rfl rfl ?_
    refine xj_iconst (v := 1) dX12_takeOther_1239 ci_1 ?_
    refine xj_ine (tgt := 1248) dX12_takeOther_1240 rfl ?_ ?_
    · refine xj_bipush (v := 9) dX12_takeOther_1243 cb_9 ?_
      refine xj_goto (tgt := 1276) dX12_takeOther_1245 rfl ?_
      refine xj_sub (lv2 := [(0, .ref 0), (1, .int a1)]) [0, 1] rfl ?_
      exact tX12_takeOther_j1276 _ _ _
    · refine xj_aloadn 0 dX12_takeOther_1248 rfl rfl ?_
      refine gfX12_85 (v := (w2.1 0 23)) dX12_takeOther_1249 rfl rfl ?_
      refine xj_iconst (v := 2) dX12_takeOther_1252 ci_2 ?_
      refine xj_ine (tgt := 1261) dX12_takeOther_1253 rfl ?_ ?_
      · refine xj_bipush (v := 42) dX12_takeOther_1256 cb_42 ?_
        refine xj_goto (tgt := 1276) dX12_takeOther_1258 rfl ?_
        refine xj_sub (lv2 := [(0, .ref 0), (1, .int a1)]) [0, 1] rfl ?_
        exact tX12_takeOther_j1276 _ _ _
      · refine xj_aloadn 0 dX12_takeOther_1261 rfl rfl ?_
        refine gfX12_85 (v := (w2.1 0 23)) dX12_takeOther_1262 rfl rfl ?_
        refine xj_iconst (v := 4) dX12_takeOther_1265 ci_4 ?_
        refine xj_ine (tgt := 1274) dX12_takeOther_1266 rfl ?_ ?_
        · refine xj_bipush (v := 43) dX12_takeOther_1269 cb_43 ?_
          refine xj_goto (tgt := 1276) dX12_takeOther_1271 rfl ?_
          refine xj_sub (lv2 := [(0, .ref 0), (1, .int a1)]) [0, 1] rfl ?_
          exact tX12_takeOther_j1276 _ _ _
        · refine xj_bipush (v := 10) dX12_takeOther_1274 cb_10 ?_
          refine xj_sub (lv2 := [(0, .ref 0), (1, .int a1)]) [0, 1] rfl ?_
          exact tX12_takeOther_j1276 _ _ _
set_option maxRecDepth 20000 in
def sX12_takeOther (p1 : Int32) (p2 : Int32) (w : xW) : Option (Unit × xW) :=
  xsw p1 (104) [sX12_takeOther_j624 p1 w, sX12_takeOther_j651 p1 w, sX12_takeOther_j624 p1 w, sX12_takeOther_j651 p1 w, sX12_takeOther_j1339 w, sX12_takeOther_j1339 w, sX12_takeOther_j1339 w, sX12_takeOther_j1339 w, sX12_takeOther_j1339 w, sX12_takeOther_j1339 w, sX12_takeOther_j1339 w, sX12_takeOther_j1339 w, sX12_takeOther_j1339 w, sX12_takeOther_j1339 w, sX12_takeOther_j1339 w, sX12_takeOther_j1339 w, sX12_takeOther_j1339 w, sX12_takeOther_j1339 w, sX12_takeOther_j1339 w, sX12_takeOther_j1339 w, sX12_takeOther_j1339 w, sX12_takeOther_j1339 w, sX12_takeOther_j1339 w, sX12_takeOther_j1339 w, sX12_takeOther_j682 p1 p2 w, sX12_takeOther_j682 p1 p2 w, sX12_takeOther_j1339 w, sX12_takeOther_j682 p1 p2 w, sX12_takeOther_j720 p2 w, sX12_takeOther_j720 p2 w, sX12_takeOther_j735 p2 w, sX12_takeOther_j735 p2 w, sX12_takeOther_j750 p2 w, sX12_takeOther_j750 p2 w, sX12_takeOther_j765 p2 w, sX12_takeOther_j765 p2 w, sX12_takeOther_j1339 w, xbd (sX12_is (17 : Int32) (2 : Int32) (4 : Int32) w) (fun _ w1 => xbd (sX12_operand w1) (fun _ w2 => (if (w2.1 0 22) = (3 : Int32) then xbd (sX12_digits (0 : Int32) w2) (fun _ w3 => some ((), w3)) else xbd (sX12_digits (1 : Int32) w2) (fun _ w4 => some ((), w4))))), sX12_takeOther_j1339 w, xbd (sX12_is (11 : Int32) (5 : Int32) (4 : Int32) w) (fun _ w5 => xbd (sX12_operand w5) (fun _ w6 => (if (w6.1 0 23) = 0 then xbd (sX12_digits (1 : Int32) w6) (fun _ w8 => some ((), w8)) else xbd (sX12_digits (0 : Int32) w6) (fun _ w7 => some ((), w7))))), xbd (sX12_is (18 : Int32) (0 : Int32) (4 : Int32) w) (fun _ w9 => some ((), w9)), sX12_takeOther_j1339 w, sX12_takeOther_j1339 w, sX12_takeOther_j1339 w, sX12_takeOther_j1339 w, sX12_takeOther_j1339 w, sX12_takeOther_j1339 w, sX12_takeOther_j1339 w, sX12_takeOther_j854 p1 w, sX12_takeOther_j854 p1 w, sX12_takeOther_j1339 w, sX12_takeOther_j1339 w, sX12_takeOther_j1339 w, sX12_takeOther_j1339 w, sX12_takeOther_j1339 w, sX12_takeOther_j1339 w, sX12_takeOther_j1339 w, sX12_takeOther_j1339 w, sX12_takeOther_j1339 w, sX12_takeOther_j1339 w, sX12_takeOther_j1339 w, sX12_takeOther_j1339 w, sX12_takeOther_j1339 w, sX12_takeOther_j1339 w, sX12_takeOther_j877 p2 w, sX12_takeOther_j877 p2 w, sX12_takeOther_j1339 w, sX12_takeOther_j1339 w, sX12_takeOther_j1339 w, sX12_takeOther_j1339 w, sX12_takeOther_j1339 w, sX12_takeOther_j1339 w, sX12_takeOther_j1339 w, sX12_takeOther_j1339 w, sX12_takeOther_j1339 w, sX12_takeOther_j1339 w, sX12_takeOther_j1339 w, sX12_takeOther_j1339 w, sX12_takeOther_j1339 w, sX12_takeOther_j1339 w, sX12_takeOther_j1339 w, sX12_takeOther_j1339 w, sX12_takeOther_j1339 w, sX12_takeOther_j1339 w, sX12_takeOther_j1339 w, sX12_takeOther_j1339 w, sX12_takeOther_j1339 w, sX12_takeOther_j1339 w, sX12_takeOther_j893 p1 p2 w, sX12_takeOther_j893 p1 p2 w, sX12_takeOther_j1339 w, sX12_takeOther_j1339 w, sX12_takeOther_j1339 w, sX12_takeOther_j1339 w, sX12_takeOther_j986 p2 w, sX12_takeOther_j986 p2 w, sX12_takeOther_j1339 w, sX12_takeOther_j1339 w, sX12_takeOther_j1339 w, sX12_takeOther_j1339 w, sX12_takeOther_j1339 w, sX12_takeOther_j1339 w, sX12_takeOther_j1339 w, sX12_takeOther_j1339 w, sX12_takeOther_j893 p1 p2 w, sX12_takeOther_j893 p1 p2 w, sX12_takeOther_j893 p1 p2 w, sX12_takeOther_j893 p1 p2 w, sX12_takeOther_j1339 w, sX12_takeOther_j1339 w, sX12_takeOther_j1339 w, sX12_takeOther_j1339 w, sX12_takeOther_j1339 w, sX12_takeOther_j1339 w, sX12_takeOther_j1339 w, sX12_takeOther_j1339 w, sX12_takeOther_j1339 w, sX12_takeOther_j1339 w, sX12_takeOther_j1339 w, sX12_takeOther_j1339 w, sX12_takeOther_j1339 w, sX12_takeOther_j1339 w, sX12_takeOther_j1022 p1 w, sX12_takeOther_j1022 p1 w, sX12_takeOther_j1339 w, sX12_takeOther_j1339 w, sX12_takeOther_j1339 w, sX12_takeOther_j1339 w, sX12_takeOther_j1063 p1 w, sX12_takeOther_j1063 p1 w, sX12_takeOther_j1339 w, sX12_takeOther_j1022 p1 w, sX12_takeOther_j1339 w, sX12_takeOther_j1339 w, sX12_takeOther_j1339 w, sX12_takeOther_j1339 w, sX12_takeOther_j1339 w, sX12_takeOther_j1339 w, sX12_takeOther_j1339 w, sX12_takeOther_j1339 w, sX12_takeOther_j1092 p1 w, sX12_takeOther_j1092 p1 w, sX12_takeOther_j1138 p2 w, sX12_takeOther_j1138 p2 w, sX12_takeOther_j1115 p1 w, sX12_takeOther_j1115 p1 w, sX12_takeOther_j1339 w, sX12_takeOther_j1339 w, sX12_takeOther_j1339 w, sX12_takeOther_j1339 w, sX12_takeOther_j1211 p1 p2 w, sX12_takeOther_j1211 p1 p2 w] (sX12_takeOther_j1339 w)
set_option maxRecDepth 20000 in
theorem tX12_takeOther (p1 : Int32) (p2 : Int32) (w : xW) : xJ ιV mX12_takeOther lM (0, 0) 0 [(0, .ref 0), (1, .int p1), (2, .int p2)] [] w (sX12_takeOther p1 p2 w) := by
  unfold sX12_takeOther
  refine xj_iloadn 1 dX12_takeOther_0 rfl rfl ?_
  refine xj_tsw (tgtd := 1339) [624, 651, 624, 651, 1339, 1339, 1339, 1339, 1339, 1339, 1339, 1339, 1339, 1339, 1339, 1339, 1339, 1339, 1339, 1339, 1339, 1339, 1339, 1339, 682, 682, 1339, 682, 720, 720, 735, 735, 750, 750, 765, 765, 1339, 780, 1339, 812, 843, 1339, 1339, 1339, 1339, 1339, 1339, 1339, 854, 854, 1339, 1339, 1339, 1339, 1339, 1339, 1339, 1339, 1339, 1339, 1339, 1339, 1339, 1339, 877, 877, 1339, 1339, 1339, 1339, 1339, 1339, 1339, 1339, 1339, 1339, 1339, 1339, 1339, 1339, 1339, 1339, 1339, 1339, 1339, 1339, 1339, 1339, 893, 893, 1339, 1339, 1339, 1339, 986, 986, 1339, 1339, 1339, 1339, 1339, 1339, 1339, 1339, 893, 893, 893, 893, 1339, 1339, 1339, 1339, 1339, 1339, 1339, 1339, 1339, 1339, 1339, 1339, 1339, 1339, 1022, 1022, 1339, 1339, 1339, 1339, 1063, 1063, 1339, 1022, 1339, 1339, 1339, 1339, 1339, 1339, 1339, 1339, 1092, 1092, 1138, 1138, 1115, 1115, 1339, 1339, 1339, 1339, 1211, 1211] dX12_takeOther_1 rfl rfl rfl rfl ?_ ⟨?_, ?_, ?_, ?_, ?_, ?_, ?_, ?_, ?_, ?_, ?_, ?_, ?_, ?_, ?_, ?_, ?_, ?_, ?_, ?_, ?_, ?_, ?_, ?_, ?_, ?_, ?_, ?_, ?_, ?_, ?_, ?_, ?_, ?_, ?_, ?_, ?_, ?_, ?_, ?_, ?_, ?_, ?_, ?_, ?_, ?_, ?_, ?_, ?_, ?_, ?_, ?_, ?_, ?_, ?_, ?_, ?_, ?_, ?_, ?_, ?_, ?_, ?_, ?_, ?_, ?_, ?_, ?_, ?_, ?_, ?_, ?_, ?_, ?_, ?_, ?_, ?_, ?_, ?_, ?_, ?_, ?_, ?_, ?_, ?_, ?_, ?_, ?_, ?_, ?_, ?_, ?_, ?_, ?_, ?_, ?_, ?_, ?_, ?_, ?_, ?_, ?_, ?_, ?_, ?_, ?_, ?_, ?_, ?_, ?_, ?_, ?_, ?_, ?_, ?_, ?_, ?_, ?_, ?_, ?_, ?_, ?_, ?_, ?_, ?_, ?_, ?_, ?_, ?_, ?_, ?_, ?_, ?_, ?_, ?_, ?_, ?_, ?_, ?_, ?_, ?_, ?_, ?_, ?_, ?_, ?_, ?_, ?_, ?_, ?_, ?_, ?_, trivial⟩
  · refine xj_sub (lv2 := [(0, .ref 0)]) [0] rfl ?_
    exact tX12_takeOther_j1339 _
  · refine xj_sub (lv2 := [(0, .ref 0), (1, .int p1)]) [0, 1] rfl ?_
    exact tX12_takeOther_j624 _ _
  · refine xj_sub (lv2 := [(0, .ref 0), (1, .int p1)]) [0, 1] rfl ?_
    exact tX12_takeOther_j651 _ _
  · refine xj_sub (lv2 := [(0, .ref 0), (1, .int p1)]) [0, 1] rfl ?_
    exact tX12_takeOther_j624 _ _
  · refine xj_sub (lv2 := [(0, .ref 0), (1, .int p1)]) [0, 1] rfl ?_
    exact tX12_takeOther_j651 _ _
  · refine xj_sub (lv2 := [(0, .ref 0)]) [0] rfl ?_
    exact tX12_takeOther_j1339 _
  · refine xj_sub (lv2 := [(0, .ref 0)]) [0] rfl ?_
    exact tX12_takeOther_j1339 _
  · refine xj_sub (lv2 := [(0, .ref 0)]) [0] rfl ?_
    exact tX12_takeOther_j1339 _
  · refine xj_sub (lv2 := [(0, .ref 0)]) [0] rfl ?_
    exact tX12_takeOther_j1339 _
  · refine xj_sub (lv2 := [(0, .ref 0)]) [0] rfl ?_
    exact tX12_takeOther_j1339 _
  · refine xj_sub (lv2 := [(0, .ref 0)]) [0] rfl ?_
    exact tX12_takeOther_j1339 _
  · refine xj_sub (lv2 := [(0, .ref 0)]) [0] rfl ?_
    exact tX12_takeOther_j1339 _
  · refine xj_sub (lv2 := [(0, .ref 0)]) [0] rfl ?_
    exact tX12_takeOther_j1339 _
  · refine xj_sub (lv2 := [(0, .ref 0)]) [0] rfl ?_
    exact tX12_takeOther_j1339 _
  · refine xj_sub (lv2 := [(0, .ref 0)]) [0] rfl ?_
    exact tX12_takeOther_j1339 _
  · refine xj_sub (lv2 := [(0, .ref 0)]) [0] rfl ?_
    exact tX12_takeOther_j1339 _
  · refine xj_sub (lv2 := [(0, .ref 0)]) [0] rfl ?_
    exact tX12_takeOther_j1339 _
  · refine xj_sub (lv2 := [(0, .ref 0)]) [0] rfl ?_
    exact tX12_takeOther_j1339 _
  · refine xj_sub (lv2 := [(0, .ref 0)]) [0] rfl ?_
    exact tX12_takeOther_j1339 _
  · refine xj_sub (lv2 := [(0, .ref 0)]) [0] rfl ?_
    exact tX12_takeOther_j1339 _
  · refine xj_sub (lv2 := [(0, .ref 0)]) [0] rfl ?_
    exact tX12_takeOther_j1339 _
  · refine xj_sub (lv2 := [(0, .ref 0)]) [0] rfl ?_
    exact tX12_takeOther_j1339 _
  · refine xj_sub (lv2 := [(0, .ref 0)]) [0] rfl ?_
    exact tX12_takeOther_j1339 _
  · refine xj_sub (lv2 := [(0, .ref 0)]) [0] rfl ?_
    exact tX12_takeOther_j1339 _
  · refine xj_sub (lv2 := [(0, .ref 0)]) [0] rfl ?_
    exact tX12_takeOther_j1339 _
  · exact tX12_takeOther_j682 _ _ _
  · exact tX12_takeOther_j682 _ _ _
  · refine xj_sub (lv2 := [(0, .ref 0)]) [0] rfl ?_
    exact tX12_takeOther_j1339 _
  · exact tX12_takeOther_j682 _ _ _
  · refine xj_sub (lv2 := [(0, .ref 0), (2, .int p2)]) [0, 2] rfl ?_
    exact tX12_takeOther_j720 _ _
  · refine xj_sub (lv2 := [(0, .ref 0), (2, .int p2)]) [0, 2] rfl ?_
    exact tX12_takeOther_j720 _ _
  · refine xj_sub (lv2 := [(0, .ref 0), (2, .int p2)]) [0, 2] rfl ?_
    exact tX12_takeOther_j735 _ _
  · refine xj_sub (lv2 := [(0, .ref 0), (2, .int p2)]) [0, 2] rfl ?_
    exact tX12_takeOther_j735 _ _
  · refine xj_sub (lv2 := [(0, .ref 0), (2, .int p2)]) [0, 2] rfl ?_
    exact tX12_takeOther_j750 _ _
  · refine xj_sub (lv2 := [(0, .ref 0), (2, .int p2)]) [0, 2] rfl ?_
    exact tX12_takeOther_j750 _ _
  · refine xj_sub (lv2 := [(0, .ref 0), (2, .int p2)]) [0, 2] rfl ?_
    exact tX12_takeOther_j765 _ _
  · refine xj_sub (lv2 := [(0, .ref 0), (2, .int p2)]) [0, 2] rfl ?_
    exact tX12_takeOther_j765 _ _
  · refine xj_sub (lv2 := [(0, .ref 0)]) [0] rfl ?_
    exact tX12_takeOther_j1339 _
  · refine xj_aloadn 0 dX12_takeOther_780 rfl rfl ?_
    refine xj_bipush (v := 17) dX12_takeOther_781 cb_17 ?_
    refine xj_iconst (v := 2) dX12_takeOther_783 ci_2 ?_
    refine xj_iconst (v := 4) dX12_takeOther_784 ci_4 ?_
    refine xj_cVv (argv := [.int (17 : Int32), .int (2 : Int32), .int (4 : Int32)]) (rest := []) dX12_takeOther_785 (kX12_is (17 : Int32) (2 : Int32) (4 : Int32) w) mkX12_is tw2067 rfl rfl rfl rfl rfl rfl (fun _ w1 => ?_)
    refine xj_aloadn 0 dX12_takeOther_788 rfl rfl ?_
    refine xj_cVv (argv := []) (rest := []) dX12_takeOther_789 (kX12_operand w1) mkX12_operand tw2083 rfl rfl rfl rfl rfl rfl (fun _ w2 => ?_)
    refine xj_aloadn 0 dX12_takeOther_792 rfl rfl ?_
    refine xj_aloadn 0 dX12_takeOther_793 rfl rfl ?_
    refine gfX12_82 (v := (w2.1 0 22)) dX12_takeOther_794 rfl rfl ?_
    refine xj_iconst (v := 3) dX12_takeOther_797 ci_3 ?_
    refine xj_ieq (tgt := 805) dX12_takeOther_798 rfl ?_ ?_
    · refine xj_iconst (v := 0) dX12_takeOther_805 ci_0 ?_
      refine xj_cVv (argv := [.int (0 : Int32)]) (rest := []) dX12_takeOther_806 (kX12_digits (0 : Int32) w2) mkX12_digits tw2095 rfl rfl rfl rfl rfl rfl (fun _ w3 => ?_)
      refine xj_goto (tgt := 1352) dX12_takeOther_809 rfl ?_
      exact xj_rv dX12_takeOther_1352 rfl
    · refine xj_iconst (v := 1) dX12_takeOther_801 ci_1 ?_
      refine xj_goto (tgt := 806) dX12_takeOther_802 rfl ?_
      refine xj_cVv (argv := [.int (1 : Int32)]) (rest := []) dX12_takeOther_806 (kX12_digits (1 : Int32) w2) mkX12_digits tw2095 rfl rfl rfl rfl rfl rfl (fun _ w4 => ?_)
      refine xj_goto (tgt := 1352) dX12_takeOther_809 rfl ?_
      exact xj_rv dX12_takeOther_1352 rfl
  · refine xj_sub (lv2 := [(0, .ref 0)]) [0] rfl ?_
    exact tX12_takeOther_j1339 _
  · refine xj_aloadn 0 dX12_takeOther_812 rfl rfl ?_
    refine xj_bipush (v := 11) dX12_takeOther_813 cb_11 ?_
    refine xj_iconst (v := 5) dX12_takeOther_815 ci_5 ?_
    refine xj_iconst (v := 4) dX12_takeOther_816 ci_4 ?_
    refine xj_cVv (argv := [.int (11 : Int32), .int (5 : Int32), .int (4 : Int32)]) (rest := []) dX12_takeOther_817 (kX12_is (11 : Int32) (5 : Int32) (4 : Int32) w) mkX12_is tw2067 rfl rfl rfl rfl rfl rfl (fun _ w5 => ?_)
    refine xj_aloadn 0 dX12_takeOther_820 rfl rfl ?_
    refine xj_cVv (argv := []) (rest := []) dX12_takeOther_821 (kX12_operand w5) mkX12_operand tw2083 rfl rfl rfl rfl rfl rfl (fun _ w6 => ?_)
    refine xj_aloadn 0 dX12_takeOther_824 rfl rfl ?_
    refine xj_aloadn 0 dX12_takeOther_825 rfl rfl ?_
    refine gfX12_85 (v := (w6.1 0 23)) dX12_takeOther_826 rfl rfl ?_
    refine xj_ifne (tgt := 836) dX12_takeOther_829 rfl ?_ ?_
    · refine xj_iconst (v := 1) dX12_takeOther_832 ci_1 ?_
      refine xj_goto (tgt := 837) dX12_takeOther_833 rfl ?_
      refine xj_cVv (argv := [.int (1 : Int32)]) (rest := []) dX12_takeOther_837 (kX12_digits (1 : Int32) w6) mkX12_digits tw2095 rfl rfl rfl rfl rfl rfl (fun _ w8 => ?_)
      refine xj_goto (tgt := 1352) dX12_takeOther_840 rfl ?_
      exact xj_rv dX12_takeOther_1352 rfl
    · refine xj_iconst (v := 0) dX12_takeOther_836 ci_0 ?_
      refine xj_cVv (argv := [.int (0 : Int32)]) (rest := []) dX12_takeOther_837 (kX12_digits (0 : Int32) w6) mkX12_digits tw2095 rfl rfl rfl rfl rfl rfl (fun _ w7 => ?_)
      refine xj_goto (tgt := 1352) dX12_takeOther_840 rfl ?_
      exact xj_rv dX12_takeOther_1352 rfl
  · refine xj_aloadn 0 dX12_takeOther_843 rfl rfl ?_
    refine xj_bipush (v := 18) dX12_takeOther_844 cb_18 ?_
    refine xj_iconst (v := 0) dX12_takeOther_846 ci_0 ?_
    refine xj_iconst (v := 4) dX12_takeOther_847 ci_4 ?_
    refine xj_cVv (argv := [.int (18 : Int32), .int (0 : Int32), .int (4 : Int32)]) (rest := []) dX12_takeOther_848 (kX12_is (18 : Int32) (0 : Int32) (4 : Int32) w) mkX12_is tw2067 rfl rfl rfl rfl rfl rfl (fun _ w9 => ?_)
    refine xj_goto (tgt := 1352) dX12_takeOther_851 rfl ?_
    exact xj_rv dX12_takeOther_1352 rfl
  · refine xj_sub (lv2 := [(0, .ref 0)]) [0] rfl ?_
    exact tX12_takeOther_j1339 _
  · refine xj_sub (lv2 := [(0, .ref 0)]) [0] rfl ?_
    exact tX12_takeOther_j1339 _
  · refine xj_sub (lv2 := [(0, .ref 0)]) [0] rfl ?_
    exact tX12_takeOther_j1339 _
  · refine xj_sub (lv2 := [(0, .ref 0)]) [0] rfl ?_
    exact tX12_takeOther_j1339 _
  · refine xj_sub (lv2 := [(0, .ref 0)]) [0] rfl ?_
    exact tX12_takeOther_j1339 _
  · refine xj_sub (lv2 := [(0, .ref 0)]) [0] rfl ?_
    exact tX12_takeOther_j1339 _
  · refine xj_sub (lv2 := [(0, .ref 0)]) [0] rfl ?_
    exact tX12_takeOther_j1339 _
  · refine xj_sub (lv2 := [(0, .ref 0), (1, .int p1)]) [0, 1] rfl ?_
    exact tX12_takeOther_j854 _ _
  · refine xj_sub (lv2 := [(0, .ref 0), (1, .int p1)]) [0, 1] rfl ?_
    exact tX12_takeOther_j854 _ _
  · refine xj_sub (lv2 := [(0, .ref 0)]) [0] rfl ?_
    exact tX12_takeOther_j1339 _
  · refine xj_sub (lv2 := [(0, .ref 0)]) [0] rfl ?_
    exact tX12_takeOther_j1339 _
  · refine xj_sub (lv2 := [(0, .ref 0)]) [0] rfl ?_
    exact tX12_takeOther_j1339 _
  · refine xj_sub (lv2 := [(0, .ref 0)]) [0] rfl ?_
    exact tX12_takeOther_j1339 _
  · refine xj_sub (lv2 := [(0, .ref 0)]) [0] rfl ?_
    exact tX12_takeOther_j1339 _
  · refine xj_sub (lv2 := [(0, .ref 0)]) [0] rfl ?_
    exact tX12_takeOther_j1339 _
  · refine xj_sub (lv2 := [(0, .ref 0)]) [0] rfl ?_
    exact tX12_takeOther_j1339 _
  · refine xj_sub (lv2 := [(0, .ref 0)]) [0] rfl ?_
    exact tX12_takeOther_j1339 _
  · refine xj_sub (lv2 := [(0, .ref 0)]) [0] rfl ?_
    exact tX12_takeOther_j1339 _
  · refine xj_sub (lv2 := [(0, .ref 0)]) [0] rfl ?_
    exact tX12_takeOther_j1339 _
  · refine xj_sub (lv2 := [(0, .ref 0)]) [0] rfl ?_
    exact tX12_takeOther_j1339 _
  · refine xj_sub (lv2 := [(0, .ref 0)]) [0] rfl ?_
    exact tX12_takeOther_j1339 _
  · refine xj_sub (lv2 := [(0, .ref 0)]) [0] rfl ?_
    exact tX12_takeOther_j1339 _
  · refine xj_sub (lv2 := [(0, .ref 0)]) [0] rfl ?_
    exact tX12_takeOther_j1339 _
  · refine xj_sub (lv2 := [(0, .ref 0), (2, .int p2)]) [0, 2] rfl ?_
    exact tX12_takeOther_j877 _ _
  · refine xj_sub (lv2 := [(0, .ref 0), (2, .int p2)]) [0, 2] rfl ?_
    exact tX12_takeOther_j877 _ _
  · refine xj_sub (lv2 := [(0, .ref 0)]) [0] rfl ?_
    exact tX12_takeOther_j1339 _
  · refine xj_sub (lv2 := [(0, .ref 0)]) [0] rfl ?_
    exact tX12_takeOther_j1339 _
  · refine xj_sub (lv2 := [(0, .ref 0)]) [0] rfl ?_
    exact tX12_takeOther_j1339 _
  · refine xj_sub (lv2 := [(0, .ref 0)]) [0] rfl ?_
    exact tX12_takeOther_j1339 _
  · refine xj_sub (lv2 := [(0, .ref 0)]) [0] rfl ?_
    exact tX12_takeOther_j1339 _
  · refine xj_sub (lv2 := [(0, .ref 0)]) [0] rfl ?_
    exact tX12_takeOther_j1339 _
  · refine xj_sub (lv2 := [(0, .ref 0)]) [0] rfl ?_
    exact tX12_takeOther_j1339 _
  · refine xj_sub (lv2 := [(0, .ref 0)]) [0] rfl ?_
    exact tX12_takeOther_j1339 _
  · refine xj_sub (lv2 := [(0, .ref 0)]) [0] rfl ?_
    exact tX12_takeOther_j1339 _
  · refine xj_sub (lv2 := [(0, .ref 0)]) [0] rfl ?_
    exact tX12_takeOther_j1339 _
  · refine xj_sub (lv2 := [(0, .ref 0)]) [0] rfl ?_
    exact tX12_takeOther_j1339 _
  · refine xj_sub (lv2 := [(0, .ref 0)]) [0] rfl ?_
    exact tX12_takeOther_j1339 _
  · refine xj_sub (lv2 := [(0, .ref 0)]) [0] rfl ?_
    exact tX12_takeOther_j1339 _
  · refine xj_sub (lv2 := [(0, .ref 0)]) [0] rfl ?_
    exact tX12_takeOther_j1339 _
  · refine xj_sub (lv2 := [(0, .ref 0)]) [0] rfl ?_
    exact tX12_takeOther_j1339 _
  · refine xj_sub (lv2 := [(0, .ref 0)]) [0] rfl ?_
    exact tX12_takeOther_j1339 _
  · refine xj_sub (lv2 := [(0, .ref 0)]) [0] rfl ?_
    exact tX12_takeOther_j1339 _
  · refine xj_sub (lv2 := [(0, .ref 0)]) [0] rfl ?_
    exact tX12_takeOther_j1339 _
  · refine xj_sub (lv2 := [(0, .ref 0)]) [0] rfl ?_
    exact tX12_takeOther_j1339 _
  · refine xj_sub (lv2 := [(0, .ref 0)]) [0] rfl ?_
    exact tX12_takeOther_j1339 _
  · refine xj_sub (lv2 := [(0, .ref 0)]) [0] rfl ?_
    exact tX12_takeOther_j1339 _
  · refine xj_sub (lv2 := [(0, .ref 0)]) [0] rfl ?_
    exact tX12_takeOther_j1339 _
  · exact tX12_takeOther_j893 _ _ _
  · exact tX12_takeOther_j893 _ _ _
  · refine xj_sub (lv2 := [(0, .ref 0)]) [0] rfl ?_
    exact tX12_takeOther_j1339 _
  · refine xj_sub (lv2 := [(0, .ref 0)]) [0] rfl ?_
    exact tX12_takeOther_j1339 _
  · refine xj_sub (lv2 := [(0, .ref 0)]) [0] rfl ?_
    exact tX12_takeOther_j1339 _
  · refine xj_sub (lv2 := [(0, .ref 0)]) [0] rfl ?_
    exact tX12_takeOther_j1339 _
  · refine xj_sub (lv2 := [(0, .ref 0), (2, .int p2)]) [0, 2] rfl ?_
    exact tX12_takeOther_j986 _ _
  · refine xj_sub (lv2 := [(0, .ref 0), (2, .int p2)]) [0, 2] rfl ?_
    exact tX12_takeOther_j986 _ _
  · refine xj_sub (lv2 := [(0, .ref 0)]) [0] rfl ?_
    exact tX12_takeOther_j1339 _
  · refine xj_sub (lv2 := [(0, .ref 0)]) [0] rfl ?_
    exact tX12_takeOther_j1339 _
  · refine xj_sub (lv2 := [(0, .ref 0)]) [0] rfl ?_
    exact tX12_takeOther_j1339 _
  · refine xj_sub (lv2 := [(0, .ref 0)]) [0] rfl ?_
    exact tX12_takeOther_j1339 _
  · refine xj_sub (lv2 := [(0, .ref 0)]) [0] rfl ?_
    exact tX12_takeOther_j1339 _
  · refine xj_sub (lv2 := [(0, .ref 0)]) [0] rfl ?_
    exact tX12_takeOther_j1339 _
  · refine xj_sub (lv2 := [(0, .ref 0)]) [0] rfl ?_
    exact tX12_takeOther_j1339 _
  · refine xj_sub (lv2 := [(0, .ref 0)]) [0] rfl ?_
    exact tX12_takeOther_j1339 _
  · exact tX12_takeOther_j893 _ _ _
  · exact tX12_takeOther_j893 _ _ _
  · exact tX12_takeOther_j893 _ _ _
  · exact tX12_takeOther_j893 _ _ _
  · refine xj_sub (lv2 := [(0, .ref 0)]) [0] rfl ?_
    exact tX12_takeOther_j1339 _
  · refine xj_sub (lv2 := [(0, .ref 0)]) [0] rfl ?_
    exact tX12_takeOther_j1339 _
  · refine xj_sub (lv2 := [(0, .ref 0)]) [0] rfl ?_
    exact tX12_takeOther_j1339 _
  · refine xj_sub (lv2 := [(0, .ref 0)]) [0] rfl ?_
    exact tX12_takeOther_j1339 _
  · refine xj_sub (lv2 := [(0, .ref 0)]) [0] rfl ?_
    exact tX12_takeOther_j1339 _
  · refine xj_sub (lv2 := [(0, .ref 0)]) [0] rfl ?_
    exact tX12_takeOther_j1339 _
  · refine xj_sub (lv2 := [(0, .ref 0)]) [0] rfl ?_
    exact tX12_takeOther_j1339 _
  · refine xj_sub (lv2 := [(0, .ref 0)]) [0] rfl ?_
    exact tX12_takeOther_j1339 _
  · refine xj_sub (lv2 := [(0, .ref 0)]) [0] rfl ?_
    exact tX12_takeOther_j1339 _
  · refine xj_sub (lv2 := [(0, .ref 0)]) [0] rfl ?_
    exact tX12_takeOther_j1339 _
  · refine xj_sub (lv2 := [(0, .ref 0)]) [0] rfl ?_
    exact tX12_takeOther_j1339 _
  · refine xj_sub (lv2 := [(0, .ref 0)]) [0] rfl ?_
    exact tX12_takeOther_j1339 _
  · refine xj_sub (lv2 := [(0, .ref 0)]) [0] rfl ?_
    exact tX12_takeOther_j1339 _
  · refine xj_sub (lv2 := [(0, .ref 0)]) [0] rfl ?_
    exact tX12_takeOther_j1339 _
  · refine xj_sub (lv2 := [(0, .ref 0), (1, .int p1)]) [0, 1] rfl ?_
    exact tX12_takeOther_j1022 _ _
  · refine xj_sub (lv2 := [(0, .ref 0), (1, .int p1)]) [0, 1] rfl ?_
    exact tX12_takeOther_j1022 _ _
  · refine xj_sub (lv2 := [(0, .ref 0)]) [0] rfl ?_
    exact tX12_takeOther_j1339 _
  · refine xj_sub (lv2 := [(0, .ref 0)]) [0] rfl ?_
    exact tX12_takeOther_j1339 _
  · refine xj_sub (lv2 := [(0, .ref 0)]) [0] rfl ?_
    exact tX12_takeOther_j1339 _
  · refine xj_sub (lv2 := [(0, .ref 0)]) [0] rfl ?_
    exact tX12_takeOther_j1339 _
  · refine xj_sub (lv2 := [(0, .ref 0), (1, .int p1)]) [0, 1] rfl ?_
    exact tX12_takeOther_j1063 _ _
  · refine xj_sub (lv2 := [(0, .ref 0), (1, .int p1)]) [0, 1] rfl ?_
    exact tX12_takeOther_j1063 _ _
  · refine xj_sub (lv2 := [(0, .ref 0)]) [0] rfl ?_
    exact tX12_takeOther_j1339 _
  · refine xj_sub (lv2 := [(0, .ref 0), (1, .int p1)]) [0, 1] rfl ?_
    exact tX12_takeOther_j1022 _ _
  · refine xj_sub (lv2 := [(0, .ref 0)]) [0] rfl ?_
    exact tX12_takeOther_j1339 _
  · refine xj_sub (lv2 := [(0, .ref 0)]) [0] rfl ?_
    exact tX12_takeOther_j1339 _
  · refine xj_sub (lv2 := [(0, .ref 0)]) [0] rfl ?_
    exact tX12_takeOther_j1339 _
  · refine xj_sub (lv2 := [(0, .ref 0)]) [0] rfl ?_
    exact tX12_takeOther_j1339 _
  · refine xj_sub (lv2 := [(0, .ref 0)]) [0] rfl ?_
    exact tX12_takeOther_j1339 _
  · refine xj_sub (lv2 := [(0, .ref 0)]) [0] rfl ?_
    exact tX12_takeOther_j1339 _
  · refine xj_sub (lv2 := [(0, .ref 0)]) [0] rfl ?_
    exact tX12_takeOther_j1339 _
  · refine xj_sub (lv2 := [(0, .ref 0)]) [0] rfl ?_
    exact tX12_takeOther_j1339 _
  · refine xj_sub (lv2 := [(0, .ref 0), (1, .int p1)]) [0, 1] rfl ?_
    exact tX12_takeOther_j1092 _ _
  · refine xj_sub (lv2 := [(0, .ref 0), (1, .int p1)]) [0, 1] rfl ?_
    exact tX12_takeOther_j1092 _ _
  · refine xj_sub (lv2 := [(0, .ref 0), (2, .int p2)]) [0, 2] rfl ?_
    exact tX12_takeOther_j1138 _ _
  · refine xj_sub (lv2 := [(0, .ref 0), (2, .int p2)]) [0, 2] rfl ?_
    exact tX12_takeOther_j1138 _ _
  · refine xj_sub (lv2 := [(0, .ref 0), (1, .int p1)]) [0, 1] rfl ?_
    exact tX12_takeOther_j1115 _ _
  · refine xj_sub (lv2 := [(0, .ref 0), (1, .int p1)]) [0, 1] rfl ?_
    exact tX12_takeOther_j1115 _ _
  · refine xj_sub (lv2 := [(0, .ref 0)]) [0] rfl ?_
    exact tX12_takeOther_j1339 _
  · refine xj_sub (lv2 := [(0, .ref 0)]) [0] rfl ?_
    exact tX12_takeOther_j1339 _
  · refine xj_sub (lv2 := [(0, .ref 0)]) [0] rfl ?_
    exact tX12_takeOther_j1339 _
  · refine xj_sub (lv2 := [(0, .ref 0)]) [0] rfl ?_
    exact tX12_takeOther_j1339 _
  · exact tX12_takeOther_j1211 _ _ _
  · exact tX12_takeOther_j1211 _ _ _
theorem kX12_takeOther (p1 : Int32) (p2 : Int32) (w : xW) : xMet jV mX12_takeOther lM (0, 0) [.ref 0, .int p1, .int p2] w (sX12_takeOther p1 p2 w) := xj_met lM_ok (by decide) (Nat.le_of_ble_eq_true rfl) (Nat.zero_le _) (Nat.zero_le _) (tX12_takeOther p1 p2 w)
