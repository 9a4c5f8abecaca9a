/-! bits -/
def tb (x : Int32) (i : Nat) : Bool := x.toBitVec.getLsbD i
theorem i32_ext {x y : Int32} (h : ∀ i, i < 32 → tb x i = tb y i) : x = y := Int32.toBitVec_inj.mp (BitVec.eq_of_getLsbD_eq (fun i hi => h i hi))
theorem tb_and (x y : Int32) (i : Nat) : tb (x &&& y) i = (tb x i && tb y i) := by unfold tb; rw [Int32.toBitVec_and, BitVec.getLsbD_and]
theorem tb_or (x y : Int32) (i : Nat) : tb (x ||| y) i = (tb x i || tb y i) := by unfold tb; rw [Int32.toBitVec_or, BitVec.getLsbD_or]
theorem tb_xor (x y : Int32) (i : Nat) : tb (x ^^^ y) i = Bool.xor (tb x i) (tb y i) := by unfold tb; rw [Int32.toBitVec_xor, BitVec.getLsbD_xor]
theorem tb_ge (x : Int32) {i : Nat} (h : 32 ≤ i) : tb x i = false := by unfold tb; exact BitVec.getLsbD_of_ge _ _ h
theorem tb_0 (i : Nat) : tb 0 i = false := by unfold tb; show (0#32).getLsbD i = false; exact BitVec.getLsbD_zero
theorem tb_ushr (x : Int32) (k i : Nat) (hk : k < 32) : tb (xushr x (nI k)) i = tb x (k + i) := by
  unfold tb xushr
  have e : ((nI k).toUInt32 &&& Int32.toUInt32 31) = UInt32.ofNat k := by
    have : ∀ j, j < 32 → ((nI j).toUInt32 &&& Int32.toUInt32 31) = UInt32.ofNat j := by decide +kernel
    exact this k hk
  rw [e]
  show ((x.toUInt32 >>> UInt32.ofNat k).toBitVec).getLsbD i = _
  rw [UInt32.toBitVec_shiftRight]
  have e2 : ((UInt32.ofNat k).toBitVec % 32).toNat = k := by
    have : ∀ j, j < 32 → ((UInt32.ofNat j).toBitVec % 32).toNat = j := by decide +kernel
    exact this k hk
  rw [BitVec.ushiftRight_eq', e2, BitVec.getLsbD_ushiftRight]
  rfl
theorem tb_shl (x : Int32) (k i : Nat) (hk : k < 32) : tb (x <<< (nI k &&& 31)) i = (decide (i < 32) && !decide (i < k) && tb x (i - k)) := by
  have e : nI k &&& 31 = nI k := by
    have : ∀ j, j < 32 → nI j &&& 31 = nI j := by decide +kernel
    exact this k hk
  rw [e]
  unfold tb
  rw [Int32.toBitVec_shiftLeft]
  have e2 : ((nI k).toBitVec.smod 32).toNat = k := by
    have : ∀ j, j < 32 → ((nI j).toBitVec.smod 32).toNat = j := by decide +kernel
    exact this k hk
  rw [BitVec.shiftLeft_eq', e2, BitVec.getLsbD_shiftLeft]
theorem tb_shr (x : Int32) (k i : Nat) (hk : k < 32) : tb (x >>> (nI k &&& 31)) i = (!decide (32 ≤ i) && if k + i < 32 then tb x (k + i) else tb x 31) := by
  have e : nI k &&& 31 = nI k := by
    have : ∀ j, j < 32 → nI j &&& 31 = nI j := by decide +kernel
    exact this k hk
  rw [e]
  unfold tb
  rw [Int32.toBitVec_shiftRight]
  have e2 : ((nI k).toBitVec.smod 32).toNat = k := by
    have : ∀ j, j < 32 → ((nI j).toBitVec.smod 32).toNat = j := by decide +kernel
    exact this k hk
  rw [BitVec.sshiftRight_eq', e2, BitVec.getLsbD_sshiftRight, BitVec.msb_eq_getLsbD_last]
