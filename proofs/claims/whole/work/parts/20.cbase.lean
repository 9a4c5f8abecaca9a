/-! the class: names, the enum, the layout, what its statics hold -/
def RX11 : String := "BundleFence"
def TX11 : u_T := fun k => match k with
  | 0 => ("BundleFence", "image", "LBundleFence$Image;", true)
  | 1 => ("BundleFence", "instruction", "LBundleFence$Instruction;", true)
  | 2 => ("BundleFence", "decoder", "LBundleFence$Decoder;", true)
  | 3 => ("BundleFence", "inspector", "LBundleFence$Inspector;", true)
  | 4 => ("BundleFence", "teller", "LBundleFence$Teller;", true)
  | 5 => ("BundleFence", "memory", "LBundleFence$Memory;", true)
  | 6 => ("BundleFence", "host", "LBundleFence$Host;", true)
  | 7 => ("BundleFence", "machine", "LBundleFence$Machine;", true)
  | _ => ("BundleFence", "breakpoints", "[Z", true)
def tyX11 : Nat → FieldType := fun k => match k with
  | 0 => .object "BundleFence$Image"
  | 1 => .object "BundleFence$Instruction"
  | 2 => .object "BundleFence$Decoder"
  | 3 => .object "BundleFence$Inspector"
  | 4 => .object "BundleFence$Teller"
  | 5 => .object "BundleFence$Memory"
  | 6 => .object "BundleFence$Host"
  | 7 => .object "BundleFence$Machine"
  | _ => .array .boolean
theorem tyX11_ok : ∀ k, k < 9 → parseFieldDescriptor (TX11 k).2.2.1 = some (tyX11 k) := by decide +kernel
theorem nmX11 : ∀ a, a < 9 → ∀ b, b < 9 → a ≠ b → (TX11 a).2.1 ≠ (TX11 b).2.1 := by decide +kernel
set_option maxRecDepth 100000 in
theorem inX11 : ∀ q ∈ u_ws RX11 TX11 9, q ∈ gtbl := by decide +kernel
theorem xkX11 : xCl RX11 TX11 9 := ⟨inX11, ⟨tyX11, tyX11_ok⟩, nmX11⟩
def RX4 : String := "BundleFence$Image"
def TX4 : u_T := fun k => match k with
  | 0 => ("BundleFence$Image", "row", "[B", true)
  | _ => ("BundleFence$Image", "count", "I", false)
def tyX4 : Nat → FieldType := fun k => match k with
  | 0 => .array .byte
  | _ => .int
theorem tyX4_ok : ∀ k, k < 2 → parseFieldDescriptor (TX4 k).2.2.1 = some (tyX4 k) := by decide +kernel
theorem nmX4 : ∀ a, a < 2 → ∀ b, b < 2 → a ≠ b → (TX4 a).2.1 ≠ (TX4 b).2.1 := by decide +kernel
set_option maxRecDepth 100000 in
theorem inX4 : ∀ q ∈ u_ws RX4 TX4 2, q ∈ gtbl := by decide +kernel
theorem xkX4 : xCl RX4 TX4 2 := ⟨inX4, ⟨tyX4, tyX4_ok⟩, nmX4⟩
def RX6 : String := "BundleFence$Instruction"
def TX6 : u_T := fun k => match k with
  | 0 => ("BundleFence$Instruction", "op", "LBundleFence$Op;", false)
  | 1 => ("BundleFence$Instruction", "form", "I", false)
  | 2 => ("BundleFence$Instruction", "opcode", "I", false)
  | 3 => ("BundleFence$Instruction", "condition", "I", false)
  | 4 => ("BundleFence$Instruction", "width", "I", false)
  | 5 => ("BundleFence$Instruction", "widthOfE", "I", false)
  | 6 => ("BundleFence$Instruction", "inMemory", "Z", false)
  | 7 => ("BundleFence$Instruction", "rm", "I", false)
  | 8 => ("BundleFence$Instruction", "reg", "I", false)
  | 9 => ("BundleFence$Instruction", "base", "I", false)
  | 10 => ("BundleFence$Instruction", "index", "I", false)
  | 11 => ("BundleFence$Instruction", "scale", "I", false)
  | 12 => ("BundleFence$Instruction", "displacement", "I", false)
  | 13 => ("BundleFence$Instruction", "number", "I", false)
  | _ => ("BundleFence$Instruction", "length", "I", false)
def tyX6 : Nat → FieldType := fun k => match k with
  | 0 => .object "BundleFence$Op"
  | 1 => .int
  | 2 => .int
  | 3 => .int
  | 4 => .int
  | 5 => .int
  | 6 => .boolean
  | 7 => .int
  | 8 => .int
  | 9 => .int
  | 10 => .int
  | 11 => .int
  | 12 => .int
  | 13 => .int
  | _ => .int
theorem tyX6_ok : ∀ k, k < 15 → parseFieldDescriptor (TX6 k).2.2.1 = some (tyX6 k) := by decide +kernel
theorem nmX6 : ∀ a, a < 15 → ∀ b, b < 15 → a ≠ b → (TX6 a).2.1 ≠ (TX6 b).2.1 := by decide +kernel
set_option maxRecDepth 100000 in
theorem inX6 : ∀ q ∈ u_ws RX6 TX6 15, q ∈ gtbl := by decide +kernel
theorem xkX6 : xCl RX6 TX6 15 := ⟨inX6, ⟨tyX6, tyX6_ok⟩, nmX6⟩
def RX1 : String := "BundleFence$Decoder"
def TX1 : u_T := fun k => match k with
  | 0 => ("BundleFence$Decoder", "image", "LBundleFence$Image;", true)
  | 1 => ("BundleFence$Decoder", "it", "LBundleFence$Instruction;", true)
  | 2 => ("BundleFence$Decoder", "next", "I", false)
  | 3 => ("BundleFence$Decoder", "cut", "Z", false)
  | 4 => ("BundleFence$Decoder", "found", "Z", false)
  | 5 => ("BundleFence$Decoder", "hasE", "Z", false)
  | 6 => ("BundleFence$Decoder", "digits", "I", false)
  | _ => ("BundleFence$Decoder", "numberBytes", "I", false)
def tyX1 : Nat → FieldType := fun k => match k with
  | 0 => .object "BundleFence$Image"
  | 1 => .object "BundleFence$Instruction"
  | 2 => .int
  | 3 => .boolean
  | 4 => .boolean
  | 5 => .boolean
  | 6 => .int
  | _ => .int
theorem tyX1_ok : ∀ k, k < 8 → parseFieldDescriptor (TX1 k).2.2.1 = some (tyX1 k) := by decide +kernel
theorem nmX1 : ∀ a, a < 8 → ∀ b, b < 8 → a ≠ b → (TX1 a).2.1 ≠ (TX1 b).2.1 := by decide +kernel
set_option maxRecDepth 100000 in
theorem inX1 : ∀ q ∈ u_ws RX1 TX1 8, q ∈ gtbl := by decide +kernel
theorem xkX1 : xCl RX1 TX1 8 := ⟨inX1, ⟨tyX1, tyX1_ok⟩, nmX1⟩
def RX5 : String := "BundleFence$Inspector"
def TX5 : u_T := fun k => match k with
  | 0 => ("BundleFence$Inspector", "image", "LBundleFence$Image;", true)
  | 1 => ("BundleFence$Inspector", "decoder", "LBundleFence$Decoder;", true)
  | 2 => ("BundleFence$Inspector", "it", "LBundleFence$Instruction;", true)
  | 3 => ("BundleFence$Inspector", "lengths", "[I", true)
  | 4 => ("BundleFence$Inspector", "traits", "[I", true)
  | 5 => ("BundleFence$Inspector", "registers", "[I", true)
  | 6 => ("BundleFence$Inspector", "targets", "[I", true)
  | 7 => ("BundleFence$Inspector", "marks", "[I", true)
  | 8 => ("BundleFence$Inspector", "instructions", "I", false)
  | 9 => ("BundleFence$Inspector", "valid", "Z", false)
  | 10 => ("BundleFence$Inspector", "met", "I", false)
  | _ => ("BundleFence$Inspector", "metAt", "I", false)
def tyX5 : Nat → FieldType := fun k => match k with
  | 0 => .object "BundleFence$Image"
  | 1 => .object "BundleFence$Decoder"
  | 2 => .object "BundleFence$Instruction"
  | 3 => .array .int
  | 4 => .array .int
  | 5 => .array .int
  | 6 => .array .int
  | 7 => .array .int
  | 8 => .int
  | 9 => .boolean
  | 10 => .int
  | _ => .int
theorem tyX5_ok : ∀ k, k < 12 → parseFieldDescriptor (TX5 k).2.2.1 = some (tyX5 k) := by decide +kernel
theorem nmX5 : ∀ a, a < 12 → ∀ b, b < 12 → a ≠ b → (TX5 a).2.1 ≠ (TX5 b).2.1 := by decide +kernel
set_option maxRecDepth 100000 in
theorem inX5 : ∀ q ∈ u_ws RX5 TX5 12, q ∈ gtbl := by decide +kernel
theorem xkX5 : xCl RX5 TX5 12 := ⟨inX5, ⟨tyX5, tyX5_ok⟩, nmX5⟩
def RX10 : String := "BundleFence$Teller"
def TX10 : u_T := fun k => match k with
  | 0 => ("BundleFence$Teller", "it", "LBundleFence$Instruction;", true)
  | _ => ("BundleFence$Teller", "made", "Ljava/lang/StringBuilder;", true)
def tyX10 : Nat → FieldType := fun k => match k with
  | 0 => .object "BundleFence$Instruction"
  | _ => .object "java/lang/StringBuilder"
theorem tyX10_ok : ∀ k, k < 2 → parseFieldDescriptor (TX10 k).2.2.1 = some (tyX10 k) := by decide +kernel
theorem nmX10 : ∀ a, a < 2 → ∀ b, b < 2 → a ≠ b → (TX10 a).2.1 ≠ (TX10 b).2.1 := by decide +kernel
set_option maxRecDepth 100000 in
theorem inX10 : ∀ q ∈ u_ws RX10 TX10 2, q ∈ gtbl := by decide +kernel
theorem xkX10 : xCl RX10 TX10 2 := ⟨inX10, ⟨tyX10, tyX10_ok⟩, nmX10⟩
def RX8 : String := "BundleFence$Memory"
def TX8 : u_T := fun k => match k with
  | 0 => ("BundleFence$Memory", "image", "LBundleFence$Image;", true)
  | 1 => ("BundleFence$Memory", "data", "[B", true)
  | _ => ("BundleFence$Memory", "trouble", "I", false)
def tyX8 : Nat → FieldType := fun k => match k with
  | 0 => .object "BundleFence$Image"
  | 1 => .array .byte
  | _ => .int
theorem tyX8_ok : ∀ k, k < 3 → parseFieldDescriptor (TX8 k).2.2.1 = some (tyX8 k) := by decide +kernel
theorem nmX8 : ∀ a, a < 3 → ∀ b, b < 3 → a ≠ b → (TX8 a).2.1 ≠ (TX8 b).2.1 := by decide +kernel
set_option maxRecDepth 100000 in
theorem inX8 : ∀ q ∈ u_ws RX8 TX8 3, q ∈ gtbl := by decide +kernel
theorem xkX8 : xCl RX8 TX8 3 := ⟨inX8, ⟨tyX8, tyX8_ok⟩, nmX8⟩
def RX3 : String := "BundleFence$Host"
def TX3 : u_T := fun k => match k with
  | 0 => ("BundleFence$Host", "memory", "LBundleFence$Memory;", true)
  | 1 => ("BundleFence$Host", "output", "[B", true)
  | 2 => ("BundleFence$Host", "input", "[B", true)
  | 3 => ("BundleFence$Host", "head", "I", false)
  | 4 => ("BundleFence$Host", "written", "I", false)
  | 5 => ("BundleFence$Host", "waiting", "I", false)
  | 6 => ("BundleFence$Host", "dataBreak", "I", false)
  | _ => ("BundleFence$Host", "seed", "I", false)
def tyX3 : Nat → FieldType := fun k => match k with
  | 0 => .object "BundleFence$Memory"
  | 1 => .array .byte
  | 2 => .array .byte
  | 3 => .int
  | 4 => .int
  | 5 => .int
  | 6 => .int
  | _ => .int
theorem tyX3_ok : ∀ k, k < 8 → parseFieldDescriptor (TX3 k).2.2.1 = some (tyX3 k) := by decide +kernel
theorem nmX3 : ∀ a, a < 8 → ∀ b, b < 8 → a ≠ b → (TX3 a).2.1 ≠ (TX3 b).2.1 := by decide +kernel
set_option maxRecDepth 100000 in
theorem inX3 : ∀ q ∈ u_ws RX3 TX3 8, q ∈ gtbl := by decide +kernel
theorem xkX3 : xCl RX3 TX3 8 := ⟨inX3, ⟨tyX3, tyX3_ok⟩, nmX3⟩
def RX7 : String := "BundleFence$Machine"
def TX7 : u_T := fun k => match k with
  | 0 => ("BundleFence$Machine", "inspector", "LBundleFence$Inspector;", true)
  | 1 => ("BundleFence$Machine", "decoder", "LBundleFence$Decoder;", true)
  | 2 => ("BundleFence$Machine", "it", "LBundleFence$Instruction;", true)
  | 3 => ("BundleFence$Machine", "memory", "LBundleFence$Memory;", true)
  | 4 => ("BundleFence$Machine", "host", "LBundleFence$Host;", true)
  | 5 => ("BundleFence$Machine", "flags", "LBundleFence$Flags;", true)
  | 6 => ("BundleFence$Machine", "registers", "[I", true)
  | 7 => ("BundleFence$Machine", "passes", "[I", true)
  | 8 => ("BundleFence$Machine", "kept", "[I", true)
  | 9 => ("BundleFence$Machine", "keptFlags", "I", false)
  | 10 => ("BundleFence$Machine", "state", "I", false)
  | 11 => ("BundleFence$Machine", "eip", "I", false)
  | 12 => ("BundleFence$Machine", "leftWith", "I", false)
  | 13 => ("BundleFence$Machine", "done", "J", false)
  | 14 => ("BundleFence$Machine", "where", "I", false)
  | _ => ("BundleFence$Machine", "follower", "I", false)
def tyX7 : Nat → FieldType := fun k => match k with
  | 0 => .object "BundleFence$Inspector"
  | 1 => .object "BundleFence$Decoder"
  | 2 => .object "BundleFence$Instruction"
  | 3 => .object "BundleFence$Memory"
  | 4 => .object "BundleFence$Host"
  | 5 => .object "BundleFence$Flags"
  | 6 => .array .int
  | 7 => .array .int
  | 8 => .array .int
  | 9 => .int
  | 10 => .int
  | 11 => .int
  | 12 => .int
  | 13 => .long
  | 14 => .int
  | _ => .int
theorem tyX7_ok : ∀ k, k < 16 → parseFieldDescriptor (TX7 k).2.2.1 = some (tyX7 k) := by decide +kernel
theorem nmX7 : ∀ a, a < 16 → ∀ b, b < 16 → a ≠ b → (TX7 a).2.1 ≠ (TX7 b).2.1 := by decide +kernel
set_option maxRecDepth 100000 in
theorem inX7 : ∀ q ∈ u_ws RX7 TX7 16, q ∈ gtbl := by decide +kernel
theorem xkX7 : xCl RX7 TX7 16 := ⟨inX7, ⟨tyX7, tyX7_ok⟩, nmX7⟩
def RX2 : String := "BundleFence$Flags"
def TX2 : u_T := fun k => match k with
  | _ => ("BundleFence$Flags", "bits", "I", false)
def tyX2 : Nat → FieldType := fun k => match k with
  | _ => .int
theorem tyX2_ok : ∀ k, k < 1 → parseFieldDescriptor (TX2 k).2.2.1 = some (tyX2 k) := by decide +kernel
theorem nmX2 : ∀ a, a < 1 → ∀ b, b < 1 → a ≠ b → (TX2 a).2.1 ≠ (TX2 b).2.1 := by decide +kernel
set_option maxRecDepth 100000 in
theorem inX2 : ∀ q ∈ u_ws RX2 TX2 1, q ∈ gtbl := by decide +kernel
theorem xkX2 : xCl RX2 TX2 1 := ⟨inX2, ⟨tyX2, tyX2_ok⟩, nmX2⟩
def RJ4 : String := "java/lang/StringBuilder"
def TJ4 : u_T := fun k => match k with
  | 0 => ("java/lang/AbstractStringBuilder", "value", "[B", false)
  | 1 => ("java/lang/AbstractStringBuilder", "coder", "B", false)
  | 2 => ("java/lang/AbstractStringBuilder", "maybeLatin1", "Z", false)
  | _ => ("java/lang/AbstractStringBuilder", "count", "I", false)
def tyJ4 : Nat → FieldType := fun k => match k with
  | 0 => .array .byte
  | 1 => .byte
  | 2 => .boolean
  | _ => .int
theorem tyJ4_ok : ∀ k, k < 4 → parseFieldDescriptor (TJ4 k).2.2.1 = some (tyJ4 k) := by decide +kernel
theorem nmJ4 : ∀ a, a < 4 → ∀ b, b < 4 → a ≠ b → (TJ4 a).2.1 ≠ (TJ4 b).2.1 := by decide +kernel
set_option maxRecDepth 100000 in
theorem inJ4 : ∀ q ∈ u_ws RJ4 TJ4 4, q ∈ gtbl := by decide +kernel
theorem xkJ4 : xCl RJ4 TJ4 4 := ⟨inJ4, ⟨tyJ4, tyJ4_ok⟩, nmJ4⟩
def opNm : List String := ["ADD", "OR", "ADC", "SBB", "AND", "SUB", "XOR", "CMP", "ROL", "ROR", "RCL", "RCR", "SHL", "SHR", "NO_SHIFT", "SAR", "TEST", "INC", "DEC", "NEG", "NOT", "SHLD", "SHRD", "MUL", "IMUL_WIDE", "IMUL", "DIV", "IDIV", "MOV", "MOVZX", "MOVSX", "LEA", "CMOV", "SET", "BSF", "BSR", "BSWAP", "CWDE", "CDQ", "XCHG", "XADD", "CMPXCHG", "PUSH", "POP", "CALL", "JMP", "J", "LOOP", "JECXZ", "HLT", "NOP", "CMC", "CLC", "STC"]
def opOrL : List Int32 := [0, 1, 2, 3, 4, 5, 6, 7, 8, 9, 10, 11, 12, 13, 14, 15, 16, 17, 18, 19, 20, 21, 22, 23, 24, 25, 26, 27, 28, 29, 30, 31, 32, 33, 34, 35, 36, 37, 38, 39, 40, 41, 42, 43, 44, 45, 46, 47, 48, 49, 50, 51, 52, 53]
def opKdL : List Int32 := [0, 0, 0, 0, 0, 0, 0, 0, 2, 2, 2, 2, 2, 2, 11, 2, 0, 1, 1, 1, 1, 3, 3, 4, 4, 4, 5, 5, 6, 6, 6, 6, 6, 6, 7, 7, 7, 7, 7, 8, 8, 8, 9, 9, 9, 10, 10, 10, 10, 11, 11, 11, 11, 11]
def opWrL : List Int32 := [1, 1, 1, 1, 1, 1, 1, 0, 1, 1, 1, 1, 1, 1, 0, 1, 0, 1, 1, 1, 1, 1, 1, 0, 0, 1, 0, 0, 1, 1, 1, 1, 1, 1, 1, 1, 1, 0, 0, 2, 2, 1, 0, 1, 0, 0, 0, 0, 0, 0, 0, 0, 0, 0]
def opWdL : List Nat := [10, 11, 12, 13, 14, 15, 16, 17, 18, 19, 20, 21, 22, 23, 24, 25, 26, 27, 28, 29, 30, 31, 32, 33, 34, 34, 35, 36, 37, 38, 39, 40, 41, 42, 43, 44, 45, 46, 47, 48, 49, 50, 51, 52, 53, 54, 55, 56, 57, 58, 59, 60, 61, 62]
def opSwL : List Int32 := [1, 6, 2, 5, 0, 3, 7, 4, 0, 0, 0, 0, 0, 0, 0, 0, 0, 8, 9, 10, 0, 0, 0, 0, 0, 0, 0, 0, 11, 12, 13, 14, 15, 0, 16, 17, 18, 19, 0, 20, 21, 0, 22, 23, 0, 0, 0, 0, 0, 24, 0, 25, 26, 27]
def opKd (n : Int32) : Int32 := opKdL.getD n.toNatClampNeg 0
def opWr (n : Int32) : Int32 := opWrL.getD n.toNatClampNeg 0
def opWd (n : Int32) : Nat := opWdL.getD n.toNatClampNeg 0
def opSw (n : Int32) : Int32 := opSwL.getD n.toNatClampNeg 0
def nestL : List (String × Nat × MethodName × String) := [("BundleFence$Inspector", 190, ⟨"BundleFence", "gateAt", "(I)I"⟩, "BundleFence"), ("BundleFence$Teller", 107, ⟨"BundleFence", "unsigned", "(I)J"⟩, "BundleFence"), ("BundleFence$Machine", 76, ⟨"BundleFence", "gateAt", "(I)I"⟩, "BundleFence"), ("BundleFence$Host", 50, ⟨"BundleFence", "unsigned", "(I)J"⟩, "BundleFence"), ("BundleFence$Machine", 240, ⟨"BundleFence", "maskOf", "(I)I"⟩, "BundleFence"), ("BundleFence$Flags", 51, ⟨"BundleFence", "maskOf", "(I)I"⟩, "BundleFence"), ("BundleFence$Flags", 54, ⟨"BundleFence", "unsigned", "(I)J"⟩, "BundleFence"), ("BundleFence$Flags", 17, ⟨"BundleFence", "topOf", "(I)I"⟩, "BundleFence"), ("BundleFence$Machine", 291, ⟨"BundleFence", "unsigned", "(I)J"⟩, "BundleFence"), ("BundleFence$Machine", 319, ⟨"BundleFence", "withSign", "(II)I"⟩, "BundleFence")]
def digOnes (j : Nat) : Int32 := nI (48 + j % 10)
def digTens (j : Nat) : Int32 := nI (48 + j / 10)
/-- the digits of Integer's class -/
def stDig (G : xG) (A : Nat → Prop) (U : State) (H : Heap) : Prop :=
  (va_Z "java/lang/Integer" "DigitOnes" "[B" (.ref (G.2.2 3020)) A U H ∧ va_T .byte (G.2.2 3020) 100 (fun j => .int (digOnes j)) A U H) ∧ va_Z "java/lang/Integer" "DigitTens" "[B" (.ref (G.2.2 3021)) A U H ∧ va_T .byte (G.2.2 3021) 100 (fun j => .int (digTens j)) A U H
def stC : xG → (Nat → Prop) → State → Heap → Prop := fun G A U H =>
  va_En "BundleFence$Op" "LBundleFence$Op;" opNm [("java/lang/Enum", "ordinal", "I", opOrL), ("BundleFence$Op", "kind", "I", opKdL), ("BundleFence$Op", "writes", "I", opWrL)] (fun i => G.2.2 (2000 + i)) A U H ∧
  (va_Z "BundleFence$1" "$SwitchMap$BundleFence$Op" "[I" (.ref (G.2.2 3000)) A U H ∧ va_T .int (G.2.2 3000) 54 (fun j => .int (opSwL.getD j 0)) A U H) ∧
  (va_Z "BundleFence$Decoder" "OPS" "[LBundleFence$Op;" (.ref (G.2.2 3001)) A U H ∧ va_T (.object "BundleFence$Op") (G.2.2 3001) 54 (fun j => .ref (G.2.2 (2000 + j))) A U H) ∧
  (∀ q ∈ nestL, va_Nw (.methodLinkNest q.1 q.2.1 q.2.2.1 q.2.2.2) U) ∧
  (∀ i, i < 54 → va_OF "BundleFence$Op" "word" "Ljava/lang/String;" (.ref (G.2.2 (1000 + opWdL.getD i 0))) (G.2.2 (2000 + i)) A U H) ∧ stStr G A U H ∧ stSites G U ∧ stDig G A U H
def fkC : Nat → Nat → Nat × Nat := fun k j => match k with
  | 0 => (match j with | 0 => (2, 1) | 1 => (2, 2) | 2 => (2, 3) | 3 => (2, 4) | 4 => (2, 5) | 5 => (2, 6) | 6 => (2, 7) | 7 => (2, 8) | _ => (2, 11))
  | 1 => (match j with | 0 => (2, 10) | _ => (0, 0))
  | 2 => (match j with | 0 => (3, 2000) | 1 => (0, 0) | 2 => (0, 0) | 3 => (0, 0) | 4 => (0, 0) | 5 => (0, 0) | 6 => (0, 0) | 7 => (0, 0) | 8 => (0, 0) | 9 => (0, 0) | 10 => (0, 0) | 11 => (0, 0) | 12 => (0, 0) | 13 => (0, 0) | _ => (0, 0))
  | 3 => (match j with | 0 => (2, 1) | 1 => (2, 2) | 2 => (0, 0) | 3 => (0, 0) | 4 => (0, 0) | 5 => (0, 0) | 6 => (0, 0) | _ => (0, 0))
  | 4 => (match j with | 0 => (2, 1) | 1 => (2, 3) | 2 => (2, 2) | 3 => (2, 12) | 4 => (2, 13) | 5 => (2, 14) | 6 => (2, 15) | 7 => (2, 16) | 8 => (0, 0) | 9 => (0, 0) | 10 => (0, 0) | _ => (0, 0))
  | 5 => (match j with | 0 => (2, 2) | _ => (2, 30))
  | 6 => (match j with | 0 => (2, 1) | 1 => (2, 17) | _ => (0, 0))
  | 7 => (match j with | 0 => (2, 6) | 1 => (2, 18) | 2 => (2, 19) | 3 => (0, 0) | 4 => (0, 0) | 5 => (0, 0) | 6 => (0, 0) | _ => (0, 0))
  | 8 => (match j with | 0 => (2, 4) | 1 => (2, 3) | 2 => (2, 2) | 3 => (2, 6) | 4 => (2, 7) | 5 => (2, 9) | 6 => (2, 20) | 7 => (2, 21) | 8 => (2, 22) | 9 => (0, 0) | 10 => (0, 0) | 11 => (0, 0) | 12 => (0, 0) | 13 => (1, 0) | 14 => (0, 0) | _ => (0, 0))
  | 9 => (match j with | _ => (0, 0))
  | _ => (0, 0)
/-- the text that the StringBuilder at 30 holds: w's cells 40 (characters) and 41 (how many) -/
def eC : xW → xG → va_W → Prop := fun w G ex => ∃ (b n m : Nat) (arr : Nat → Int32) (ml : Int32), ex = [(G.2.2 30, .inr (10, [.ref b, .int 0, .int ml, .int (nI n)])), (b, .inl (G.2.1 1, m, .inl arr))] ∧ n ≤ m ∧ m ≤ 65536 ∧ w.1 41 0 = nI n ∧ sb_Fit arr ∧ ∀ j, j < n → ∃ c : Nat, c < 256 ∧ w.1 40 j = nI c ∧ arr j = sb_b c
def lC : xLay := ([(RX11, TX11, 9), (RX4, TX4, 2), (RX6, TX6, 15), (RX1, TX1, 8), (RX5, TX5, 12), (RX10, TX10, 2), (RX8, TX8, 3), (RX3, TX3, 8), (RX7, TX7, 16), (RX2, TX2, 1), (RJ4, TJ4, 4)], [.inl 0, .inl 1, .inl 2, .inl 3, .inl 4, .inl 5, .inl 6, .inl 7, .inl 8, .inl 9, .inr (1, 2048), .inr (2, 2048), .inr (0, 2048), .inr (0, 2048), .inr (0, 2048), .inr (0, 2048), .inr (0, 2048), .inr (1, 65536), .inr (1, 1024), .inr (1, 256), .inr (0, 8), .inr (0, 2048), .inr (0, 8)], fkC, eC, stC)
theorem lC_ok : xLok lC := by
  refine ⟨fun w w2 G ex h hE => ?_, fun G A A2 s U H H2 hW hk hA h => ?_⟩
  · obtain ⟨b, n, m, arr, ml, h1, h2, h3, h4, h5, h6⟩ := hE
    have e0 : w2.1 41 0 = w.1 41 0 := h 41 0 (by decide)
    refine ⟨b, n, m, arr, ml, h1, h2, h3, by rw [e0]; exact h4, h5, fun j hj => ?_⟩
    obtain ⟨c, c1, c2, c3⟩ := h6 j hj
    have e1 : w2.1 40 j = w.1 40 j := h 40 j (by decide)
    exact ⟨c, c1, by rw [e1]; exact c2, c3⟩
  · obtain ⟨h1, ⟨h2, h3⟩, ⟨h4, h5⟩, h6, h7, h8, h9, ⟨h10, h11⟩, h12, h13⟩ := h
    have nT : ∀ {ty : FieldType} {t N : Nat} {f : Nat → Value}, va_T ty t N f A s H → va_T ty t N f A2 U H2 := fun hT => by
      obtain ⟨cell, h1, h2, h3, h4, h5, h6, h7⟩ := va_T.moved hW.alike hT
      have hlt := (Array.getElem?_eq_some_iff.mp h1).1
      exact ⟨cell, by rw [hk _ hlt h7]; exact h1, h2, h3, h4, h5, h6, fun z => h7 (hA _ hlt z)⟩
    have nO : ∀ {E : String} {t : Nat}, va_O E t A s H → va_O E t A2 U H2 := fun hO => by
      obtain ⟨cell, h1, h2, h3, h4⟩ := va_O.moved hW.alike hO
      have hlt := (Array.getElem?_eq_some_iff.mp h1).1
      exact ⟨cell, by rw [hk _ hlt h4]; exact h1, h2, h3, fun z => h4 (hA _ hlt z)⟩
    have nF : ∀ {o n d : String} {v : Value} {t : Nat}, va_OF o n d v t A s H → va_OF o n d v t A2 U H2 := fun hO => by
      obtain ⟨cf, k, i, f, cell, h1, h2, h3, h4, h5, h6⟩ := va_OF.moved hW.alike hO
      have hlt := (Array.getElem?_eq_some_iff.mp h3).1
      exact ⟨cf, k, i, f, cell, h1, h2, by rw [hk _ hlt h6]; exact h3, h4, h5, fun z => h6 (hA _ hlt z)⟩
    have nZ : ∀ {C n d : String} {v : Value}, va_Z C n d v A s H → va_Z C n d v A2 U H2 := fun hZ => by
      obtain ⟨cf, kf, fi, f, a, cell, h1, h2, h3, h4, h5, h6, h7, h8⟩ := va_Z.moved hW.alike hZ
      have hlt := (Array.getElem?_eq_some_iff.mp h5).1
      exact ⟨cf, kf, fi, f, a, cell, h1, h2, h3, h4, by rw [hk _ hlt h8]; exact h5, h6, h7, fun z => h8 (hA _ hlt z)⟩
    exact ⟨⟨fun i hi => ⟨nZ (h1.1 i hi).1, nO (h1.1 i hi).2.1, fun q hq => nF ((h1.1 i hi).2.2 q hq)⟩, h1.2⟩, ⟨nZ h2, nT h3⟩, ⟨nZ h4, nT h5⟩, fun q hq => va_Nw.warmM hW (h6 q hq), fun i hi => nF (h7 i hi), stStr_ok G A A2 s U H H2 hW hk hA h8, stSites_ok G s U hW h9, ⟨nZ h10, nT h11⟩, nZ h12, nT h13⟩
theorem lC_str : xStrL lC := fun _ _ _ _ h => h.2.2.2.2.2.1
abbrev mOrd : xMd := (⟨"java/lang/Enum", "ordinal", "()I"⟩, cOrd, 1, some .int, { frames := 0, cells := 0, slots := 0, locals := 0 })
theorem twOrd_f : Cond.fieldLink "java/lang/Enum" 7 "java/lang/Enum" "ordinal" "I" ∈ gtbl := gtt_10 137 rfl rfl
theorem twOrd_code : Cond.code ⟨"java/lang/Enum", "ordinal", "()I"⟩ cOrd 1 (some .int) ∈ gtbl := gtt_7 52 rfl rfl
theorem twOrd_same : Cond.sameMethod "BundleFence$Op" "java/lang/Enum" "ordinal" "()I" ∈ gtbl := gtt_7 48 rfl rfl
theorem twOrd_sel : Cond.selects "BundleFence$Op" ⟨"BundleFence$Op", "ordinal", "()I"⟩ ⟨"java/lang/Enum", "ordinal", "()I"⟩ ∈ gtbl := gtt_7 50 rfl rfl
theorem twOrd_inst : Cond.instanceMethod ⟨"java/lang/Enum", "ordinal", "()I"⟩ ∈ gtbl := gtt_7 51 rfl rfl
theorem twOrd_init : Cond.initialized "java/lang/Enum" ∈ gtbl := gtt_1 4 rfl rfl
theorem twCpy_nat : Cond.native arraycopyName ∈ gtbl := gtt_4 150 rfl rfl
theorem twCpy_st : Cond.static arraycopyName ∈ gtbl := gtt_4 149 rfl rfl
theorem twCpy_in : Cond.initialized "java/lang/System" ∈ gtbl := gtt_1 27 rfl rfl
theorem twMth_in : Cond.initialized "java/lang/Math" ∈ gtbl := gtt_1 22 rfl rfl
theorem twMin_st : Cond.static Lib.Math.min.name ∈ gtbl := gtt_4 146 rfl rfl
theorem twMin_co : Cond.code Lib.Math.min.name Lib.Math.min.code 2 (some .int) ∈ gtbl := gtt_4 147 rfl rfl
theorem twMax_st : Cond.static Lib.Math.max.name ∈ gtbl := gtt_4 44 rfl rfl
theorem twMax_co : Cond.code Lib.Math.max.name Lib.Math.max.code 2 (some .int) ∈ gtbl := gtt_4 45 rfl rfl

/-! rows of the class: the enum, switches over it, copies, calls of the outer class's static methods, ends that throw -/
def xcp8 (w : xW) (k0 k1 : Nat) : xW := (fun a i => if a = k1 ∧ i < 8 then w.1 k0 i else w.1 a i, w.2)
abbrev ιTI : (Int32 ⊕ Nat) × xW → xO × xW := fun q => (match q.1 with | .inl x => .inl (jI x) | .inr n => .inr n, q.2)
abbrev ιTV : (Unit ⊕ Nat) × xW → xO × xW := fun q => (match q.1 with | .inl x => .inl (jV x) | .inr n => .inr n, q.2)
theorem tn_inj {a c : Int32} (ha : ¬ a < 0) (hc : ¬ c < 0) (h : a.toNatClampNeg = c.toNatClampNeg) : a = c := by
  rw [Int32.lt_iff_toInt_lt, Int32.toInt_zero] at ha hc
  have e1 : a.toNatClampNeg = a.toInt.toNat := rfl
  have e2 : c.toNatClampNeg = c.toInt.toNat := rfl
  apply Int32.toInt_inj.mp
  omega
theorem tn_nI {a : Int32} (ha : ¬ a < 0) : nI a.toNatClampNeg = a := by
  have hb : a.toNatClampNeg < 2 ^ 31 := by
    have e1 : a.toNatClampNeg = a.toInt.toNat := rfl
    have := a.toInt_lt
    omega
  exact tn_inj (nI_pos hb) ha (nI_clamp hb)
def xmin (x y : Int32) : Int32 := if y < x then y else x
def xmax (x y : Int32) : Int32 := if x < y then y else x
theorem opOr_ok : ∀ i, i < 54 → opOrL.getD i 0 = nI i := by decide +kernel
section XCR
variable {ρ : Type} {ι : ρ → xO × xW} {M : xMd} {L : xLay} {b : Nat × Nat} {pc : Nat} {lv : List (Nat × Value)} {st : List Value} {w : xW} {r ra rb : Option ρ}
theorem xj_gse {n : Int32} {idx : Nat} (i : Nat) (hd : decode M.2.1 pc = .ok (.getstatic idx, 3)) (hi : i < 54) (hn : n.toNatClampNeg = i) (hlink : Cond.fieldLink M.1.cls idx "BundleFence$Op" (opNm.getD i "") "LBundleFence$Op;" ∈ gtbl)
    (k : xJ ι M lC b (pc + 3) lv (.ref (2000 + n.toNatClampNeg) :: st) w r) : xJ ι M lC b pc lv st w r :=
  xj_gsv (v := .ref (2000 + n.toNatClampNeg)) hd hlink (fun G A U H h => by rw [hn]; exact (h.1.1 i hi).1) k
theorem xj_opkind {n : Int32} {idx : Nat} (hd : decode M.2.1 pc = .ok (.getfield idx, 3)) (hlink : Cond.fieldLink M.1.cls idx "BundleFence$Op" "kind" "I" ∈ gtbl) (k : xJ ι M lC b (pc + 3) lv (.int (opKd n) :: st) w r) : xJ ι M lC b pc lv (.ref (2000 + n.toNatClampNeg) :: st) w (if xin n 54 then r else none) :=
  xj_guard fun hi => xj_gfs (v := .int (opKd n)) hd hlink (fun G A U H h => (h.1.1 n.toNatClampNeg hi.2).2.2 _ (List.mem_cons_of_mem _ List.mem_cons_self)) k
theorem xj_opwrites {n : Int32} {idx : Nat} (hd : decode M.2.1 pc = .ok (.getfield idx, 3)) (hlink : Cond.fieldLink M.1.cls idx "BundleFence$Op" "writes" "I" ∈ gtbl) (k : xJ ι M lC b (pc + 3) lv (.int (opWr n) :: st) w r) : xJ ι M lC b pc lv (.ref (2000 + n.toNatClampNeg) :: st) w (if xin n 54 then r else none) :=
  xj_guard fun hi => xj_gfs (v := .int (opWr n)) hd hlink (fun G A U H h => (h.1.1 n.toNatClampNeg hi.2).2.2 _ (List.mem_cons_of_mem _ (List.mem_cons_of_mem _ List.mem_cons_self))) k
theorem xj_opword {n : Int32} {idx : Nat} (hd : decode M.2.1 pc = .ok (.getfield idx, 3)) (hlink : Cond.fieldLink M.1.cls idx "BundleFence$Op" "word" "Ljava/lang/String;" ∈ gtbl) (k : xJ ι M lC b (pc + 3) lv (.ref (1000 + opWd n) :: st) w r) : xJ ι M lC b pc lv (.ref (2000 + n.toNatClampNeg) :: st) w (if xin n 54 then r else none) :=
  xj_guard fun hi => xj_gfs (v := .ref (1000 + opWd n)) hd hlink (fun G A U H h => h.2.2.2.2.1 n.toNatClampNeg hi.2) k
/-- a call of a method that changes nothing, of an object that the tables know: its contract in the kit's own words -/
theorem xj_ordC {l : Launch} {a : Addr} {v : Int32} : Met l mOrd.1 (xwords mOrd) mOrd.2.2.2.2 (va_Pc [.ref a] (fun U => ∃ A : Nat → Prop, va_OF "java/lang/Enum" "ordinal" "I" (.int v) a A U U.heap)) (QcRead v) 0 0 (fun _ => False) := by
  refine Met.ofW (cc := mOrd.2.1) (maxL := mOrd.2.2.1) (ret := mOrd.2.2.2.1) (by decide) rfl ?_
  intro p e s m args below meth c s₁ B hml hv
  obtain ⟨rfl, A, hF⟩ := hv
  have hts := atoms_spec (ws := xwords mOrd) B.pre
  have hown : s.vm.findClass "java/lang/Enum" = some m.cls := findClass_of_methodNamed B.named
  have hlocks := B.notSynchronized
  have hr := B.returns
  have hl := lv_entry ([.ref a]) (n := 1) (Nat.le_of_ble_eq_true rfl)
  rw [lg_entry_eq]
  generalize (lg_sl ([.ref a]) ++ List.replicate (1 - (lg_sl ([.ref a])).length) Slot.unset).toArray = ls at hl ⊢
  have hl : lv_has ls 1 [(0, .ref a)] := hl
  refine lv_aload_n B.exec B.bytes dOrd_0 rfl (lv_at hl 0 rfl) ?_
  refine vk_getf (A := A) B.exec B.bytes hF (va_S.rf (A := A)) hown (hts _ (List.mem_cons_of_mem _ twOrd_f)) (fun _ h => h) dOrd_1 ?_
  exact W.iret (v := v) B.exec B.bytes hr (fun t ht hW => ⟨rfl, ht⟩) (fun _ h => by cases h) dOrd_4
theorem xj_ord {n : Int32} {idx : Nat} {rest : List Value} (hd : decode M.2.1 pc = .ok (.invokevirtual idx, 3)) (hlink : Cond.methodLink M.1.cls idx ⟨"BundleFence$Op", "ordinal", "()I"⟩ ∈ gtbl) (hf : xfit0 M mOrd = true) (hsum : Nat.ble (rest.map fun v => v.category).sum 8 = true)
    (kk : xJ ι M lC b (pc + 3) lv (.int n :: rest) w r) : xJ ι M lC b pc lv (.ref (2000 + n.toNatClampNeg) :: rest) w (if xin n 54 then r else none) := by
  refine xj_guard fun hi => ?_
  intro o ho X G A ex H locs ls cells slots Q Cx P hl hc hs hend
  obtain ⟨f1, f2, f3, f4⟩ := xfit0_ok hf
  have hts := Cx.2.2.2.2.1
  have hE := Cx.2.2.2.2.2.2.2.1.1
  have hF := (hE.1 n.toNatClampNeg hi.2).2.2 _ List.mem_cons_self
  have hF2 : va_OF "java/lang/Enum" "ordinal" "I" (.int n) (G.2.2 (2000 + n.toNatClampNeg)) A (xs X) H := by
    have e1 : (opOrL.getD n.toNatClampNeg 0) = n := by rw [opOr_ok _ hi.2, tn_nI hi.1]
    have h9 := hF.kept P.2.2.1.2.1
    dsimp only at h9
    rw [e1] at h9
    exact h9
  have hrecv : ∃ cell : Cell, H[G.2.2 (2000 + n.toNatClampNeg)]? = some cell ∧ cell.vm.isStatics = false ∧ (xs X).vm.findClass "BundleFence$Op" = some cell.cls := by
    obtain ⟨cell, h1, h2, h3, -⟩ := ((hE.1 n.toNatClampNeg hi.2).2.1).kept P.2.2.1.2.1
    exact ⟨cell, h1, h2, h3⟩
  have hGood : GoodIn gtbl (va_wsU M.1.cls idx "BundleFence$Op" "java/lang/Enum" ⟨"BundleFence$Op", "ordinal", "()I"⟩ mOrd.1 (xwords mOrd)) := fun z hz => by
    rcases List.mem_append.mp hz with h | h
    · rcases List.mem_cons.mp h with rfl | h
      · exact gt_good _ hlink
      rcases List.mem_cons.mp h with rfl | h
      · exact gt_good _ twOrd_same
      rcases List.mem_cons.mp h with rfl | h
      · exact gt_good _ twOrd_sel
      rcases List.mem_cons.mp h with rfl | h
      · exact gt_good _ twOrd_inst
      rcases List.mem_cons.mp h with rfl | h
      · exact gt_good _ twOrd_init
      · cases h
    · exact xgood (args := X.2.2.2.2.2.1) hts twOrd_code z h
  refine W.callR (r := n) (va_Run.run (va_runU (As := []) (rest := rest.map (xv G)) (n := 0) (own := M.1.cls) (Ts := gtbl) (index := idx) (b := G.2.2 (2000 + n.toNatClampNeg)) (C := "BundleFence$Op") (owner := "java/lang/Enum") (x := ⟨"BundleFence$Op", "ordinal", "()I"⟩) (mc := 0) (ms := 0) ⟨Cx.1, Cx.2.1, Cx.2.2.1, Cx.2.2.2.1, hts⟩ (xj_ordC (v := n) (a := G.2.2 (2000 + n.toNatClampNeg))) (va_cwU 0 hts hGood rfl f3 f4 rfl ⟨by decide, by decide, by decide +kernel⟩ ⟨f1, f2⟩) ⟨fun a U g mk q => ?_, hrecv, fun U hU hW => ⟨rfl, A, by rw [hU]; exact va_OF.moved hW.alike hF2⟩⟩ rfl rfl hl.1 rfl ?_ hd ⟨by omega, by omega⟩)) (kk o ho X G A ex H locs ls cells slots Q Cx P hl hc hs hend)
  · obtain ⟨q0, A9, q1⟩ := q
    exact ⟨q0, A9, va_OF.moved (u := U) (U := U.calling g mk a) (Vm.Alike.refl U.vm) q1⟩
  · show 2 * 0 + _ ≤ 8
    rw [xcat_sum]
    have := Nat.le_of_ble_eq_true hsum
    omega
theorem xj_acmp {n m : Int32} (hn : xin n 54) (hm : xin m 54) {G : xG} {A : Nat → Prop} {U : State} {H : Heap} (h : stC G A U H) : (some (G.2.2 (2000 + n.toNatClampNeg)) = some (G.2.2 (2000 + m.toNatClampNeg))) ↔ n = m :=
  ⟨fun e => tn_inj hn.1 hm.1 (h.1.2 _ _ hn.2 hm.2 (Option.some.inj e)), fun e => by rw [e]⟩
theorem xj_brC {P : Prop} [Decidable P] {p1 p2 : Nat} {st2 : List Value} (h : ∀ (X : xC) (G : xG) (A : Nat → Prop) (H : Heap) (locs : List Loc) (ls : Array Slot) (cells slots : Nat) (Q : State → Prop), xCtx M L X G A → lv_has ls M.2.2.1 (xlv G lv) →
    (P → xWc M.2.2.2.2 X H locs cells slots Q (xF X p1 ls (st2.map (xv G)))) → (¬ P → xWc M.2.2.2.2 X H locs cells slots Q (xF X p2 ls (st2.map (xv G)))) → xWc M.2.2.2.2 X H locs cells slots Q (xF X pc ls (st.map (xv G))))
    (k1 : xJ ι M L b p1 lv st2 w ra) (k2 : xJ ι M L b p2 lv st2 w rb) : xJ ι M L b pc lv st w (if P then ra else rb) := xj_br h k1 k2
theorem xj_aeq {n m : Int32} {off : Int} {tgt : Nat} (hn : xin n 54) (hm : xin m 54) (hd : decode M.2.1 pc = .ok (.if_acmp .eq off, 3)) (ht : (pc : Int) + off = (tgt : Int)) (k1 : xJ ι M lC b tgt lv st w ra) (k2 : xJ ι M lC b (pc + 3) lv st w rb) : xJ ι M lC b pc lv (.ref (2000 + m.toNatClampNeg) :: .ref (2000 + n.toNatClampNeg) :: st) w (if n = m then ra else rb) :=
  xj_br (fun X G A H locs ls cells slots Q C _ h1 h2 => lv_acmp_eq (rx := some (G.2.2 (2000 + n.toNatClampNeg))) (ry := some (G.2.2 (2000 + m.toNatClampNeg))) C.1 C.2.1 hd ht (fun h => h1 ((xj_acmp hn hm C.2.2.2.2.2.2.2.1).mp h)) (fun h => h2 (fun z => h ((xj_acmp hn hm C.2.2.2.2.2.2.2.1).mpr z)))) k1 k2
theorem xj_ane {n m : Int32} {off : Int} {tgt : Nat} (hn : xin n 54) (hm : xin m 54) (hd : decode M.2.1 pc = .ok (.if_acmp .ne off, 3)) (ht : (pc : Int) + off = (tgt : Int)) (k1 : xJ ι M lC b (pc + 3) lv st w ra) (k2 : xJ ι M lC b tgt lv st w rb) : xJ ι M lC b pc lv (.ref (2000 + m.toNatClampNeg) :: .ref (2000 + n.toNatClampNeg) :: st) w (if n = m then ra else rb) :=
  xj_br (fun X G A H locs ls cells slots Q C _ h1 h2 => lv_acmp_ne (rx := some (G.2.2 (2000 + n.toNatClampNeg))) (ry := some (G.2.2 (2000 + m.toNatClampNeg))) C.1 C.2.1 hd ht (fun h => h2 (fun z => h ((xj_acmp hn hm C.2.2.2.2.2.2.2.1).mpr z))) (fun h => h1 ((xj_acmp hn hm C.2.2.2.2.2.2.2.1).mp h))) k1 k2
theorem xj_copy8 {k0 k1 n0 n1 idx : Nat} {rest : List Value} (hd : decode M.2.1 pc = .ok (.invokestatic idx, 3)) (hlink : Cond.methodLink M.1.cls idx arraycopyName ∈ gtbl) (h0 : L.2.1[k0]? = some (.inr (0, n0))) (h1 : L.2.1[k1]? = some (.inr (0, n1))) (hn : (Nat.ble 8 n0 && Nat.ble 8 n1 && Nat.ble ((rest.map fun v => v.category).sum + (nativeFrameWords "java/lang/System" "arraycopy" 5 + 11)) M.2.2.2.2.locals && Nat.ble 1 M.2.2.2.2.frames) = true) (hne : Nat.beq k0 k1 = false)
    (kk : xJ ι M L b (pc + 3) lv rest (xcp8 w k0 k1) r) : xJ ι M L b pc lv (.int 8 :: .int 0 :: .ref k1 :: .int 0 :: .ref k0 :: rest) w r := by
  intro o ho X G A ex H locs ls cells slots Q Cx P hl hc hs hend
  rw [Bool.and_eq_true, Bool.and_eq_true, Bool.and_eq_true] at hn
  obtain ⟨⟨⟨a1, a2⟩, a3⟩, a4⟩ := hn
  have a1 := Nat.le_of_ble_eq_true a1
  have a2 := Nat.le_of_ble_eq_true a2
  have a3 := Nat.le_of_ble_eq_true a3
  have a4 := Nat.le_of_ble_eq_true a4
  have e0 : (0 : Int32).toNatClampNeg = 0 := rfl
  have e8 : (8 : Int32).toNatClampNeg = 8 := rfl
  have hset : (xws L G w ++ ex).set k1 (G.2.2 k1, .inl (G.2.1 0, n1, .inl (va_cpy (w.1 k0) (w.1 k1) 0 0 8))) = xws L G (xcp8 w k0 k1) ++ ex := by
    refine xws_set (xlen h1) ?_ (fun j hj _ => ?_)
    · unfold xcell
      rw [h1]
      show Sum.inl (G.2.1 0, n1, Sum.inl ((xcp8 w k0 k1).1 k1)) = _
      congr 4
      funext i
      show (if k1 = k1 ∧ i < 8 then w.1 k0 i else w.1 k1 i) = va_cpy (w.1 k0) (w.1 k1) 0 0 8 i
      unfold va_cpy
      by_cases h : i < 8
      · rw [if_pos ⟨rfl, h⟩, if_pos ⟨Nat.zero_le _, by omega⟩, Nat.zero_add, Nat.sub_zero]
      · rw [if_neg (fun q => h q.2), if_neg (fun q => h (by omega))]
    · have e : (xcp8 w k0 k1).1 j = w.1 j := funext fun i => if_neg (fun q => hj q.1)
      have e3 : xfv L G (xcp8 w k0 k1) j = xfv L G w j := by funext i; unfold xfv; rw [e]; rfl
      unfold xcell
      rw [e, e3]
  refine va_copyi Cx.1 Cx.2.1 (Cx.2.2.1.trans hl.1.symm) Cx.2.2.2.1 (Cx.2.2.2.2.1 _ hlink) (Cx.2.2.2.2.1 _ twCpy_nat) (Cx.2.2.2.2.1 _ twCpy_st) (Cx.2.2.2.2.1 _ twCpy_in) Cx.2.2.2.2.2.1 P.1 P.2.1 P.2.2.1 k0 k1 0 0 (xws_arr h0) (xws_arr h1) rfl rfl rfl (by decide) (by decide) (by decide) (by rw [e0, e8]; omega) (by rw [e0, e8]; omega) (fun i _ => rfl) a4 (by rw [xcat_sum]; exact a3) hd (fun H1 locs1 hP1 hD1 hS1 => ?_)
  rw [e0, e8, hset] at hP1 hD1
  exact kk o ho X G A ex H1 locs1 ls cells slots Q Cx ⟨hP1, hD1, hS1, Cx.2.2.2.2.2.2.2.2.2.1 _ _ G ex (fun a c ha => if_neg (fun h => by have := xlen h1; omega)) P.2.2.2⟩ hl hc hs hend
theorem xj_callSN {α : Type} {jc : α → Option Value} {M2 : xMd} {n idx : Nat} {host : String} {b2 b3 : Nat × Nat} {argv rest : List Value} {rc : Option (α × xW)} {F : α → xW → Option ρ} (pu : α → List Value) (hpu : ∀ (G : xG) (x : α), ((jc x).map (xv G)).toList = (pu x).map (xv G)) (hb1 : b2.1 + b3.1 ≤ b.1) (hb2 : b2.2 + b3.2 ≤ b.2)
    (hd : decode M.2.1 pc = .ok (.invokestatic idx, 3)) (hM : xMet jc M2 lC b2 argv w rc) (hmk : xMkS M2 n) (hlink : (M.1.cls, idx, M2.1, host) ∈ nestL) (hfit : xFitR M M2 b2) (hn : argv.length = n) (hst : st = argv.reverse ++ rest) (hsum : (rest.map fun v => v.category).sum ≤ 8)
    (kk : ∀ (x : α) (w1 : xW), rc = some (x, w1) → xJ ι M lC b3 (pc + 3) lv (pu x ++ rest) w1 (F x w1)) : xJ ι M lC b pc lv st w (xbd rc F) := by
  refine xj_call pu hpu hb1 hb2 ?_ kk
  intro q hq X G A ex H locs ls cells slots Cx P hl hc1 hs1
  obtain ⟨⟨m1, m2, m3, m4⟩, m5⟩ := hmk
  obtain ⟨f1, f2, f3, f4⟩ := hfit
  have hts := Cx.2.2.2.2.1
  have hN : va_Nw (.methodLinkNest M.1.cls idx M2.1 host) (xs X) := Cx.2.2.2.2.2.2.2.1.2.2.2.1 _ hlink
  refine ⟨_, va_runSN (As := argv.map (xv G)) (rest := rest.map (xv G)) (n := n) (own := M.1.cls) (host := host) (Ts := gtbl) (bytes := M2.2.1) (maxL := M2.2.2.1) (ret := M2.2.2.2.1) (index := idx) ⟨Cx.1, Cx.2.1, Cx.2.2.1, Cx.2.2.2.1, hts⟩ (hM q hq X.2.1 Cx.2.2.2.2.2.2.2.2.1 G ex H.size) ⟨va_cnB n hts (xgood hts m1) rfl f3 f4 hN (hts _ m2) ⟨m3.1, m3.2, m4⟩ ⟨f1, f2⟩, hts _ m5, trivial⟩ ⟨xPc_blind Cx.2.2.2.2.2.2.2.2.2, fun U hU hW => ⟨rfl, xPre_of Cx P U hU hW⟩⟩ rfl (by rw [List.length_map]; exact hn) hl.1 ?_ ?_ hd ⟨hc1, hs1⟩⟩
  · show st.map (xv G) = _
    rw [hst, List.map_append, List.map_reverse]
  · show 2 * 0 + _ ≤ 8
    rw [xcat_sum]; omega
theorem xj_cSNi {M2 : xMd} {n idx : Nat} {host : String} {argv rest : List Value} {rc : Option (Int32 × xW)} {F : Int32 → xW → Option ρ} (hd : decode M.2.1 pc = .ok (.invokestatic idx, 3)) (hM : xMet jI M2 lC (0, 0) argv w rc) (hmk : xMkS M2 n) (hlink : (M.1.cls, idx, M2.1, host) ∈ nestL) (hf : xfit0 M M2 = true) (hn : argv.length = n) (hst : st = argv.reverse ++ rest) (hsum : Nat.ble (rest.map fun v => v.category).sum 8 = true)
    (kk : ∀ (x : Int32) (w1 : xW), xJ ι M lC b (pc + 3) lv (.int x :: rest) w1 (F x w1)) : xJ ι M lC b pc lv st w (xbd rc F) :=
  xj_callSN (b2 := (0, 0)) (b3 := b) (fun x => [.int x]) (fun _ _ => rfl) (by show 0 + b.1 ≤ b.1; omega) (by show 0 + b.2 ≤ b.2; omega) hd hM hmk hlink (xfit0_ok hf) hn hst (Nat.le_of_ble_eq_true hsum) (fun x w1 _ => kk x w1)
theorem xj_cSNl {M2 : xMd} {n idx : Nat} {host : String} {argv rest : List Value} {rc : Option (Int64 × xW)} {F : Int64 → xW → Option ρ} (hd : decode M.2.1 pc = .ok (.invokestatic idx, 3)) (hM : xMet jL M2 lC (0, 0) argv w rc) (hmk : xMkS M2 n) (hlink : (M.1.cls, idx, M2.1, host) ∈ nestL) (hf : xfit0 M M2 = true) (hn : argv.length = n) (hst : st = argv.reverse ++ rest) (hsum : Nat.ble (rest.map fun v => v.category).sum 8 = true)
    (kk : ∀ (x : Int64) (w1 : xW), xJ ι M lC b (pc + 3) lv (.long x :: rest) w1 (F x w1)) : xJ ι M lC b pc lv st w (xbd rc F) :=
  xj_callSN (b2 := (0, 0)) (b3 := b) (fun x => [.long x]) (fun _ _ => rfl) (by show 0 + b.1 ≤ b.1; omega) (by show 0 + b.2 ≤ b.2; omega) hd hM hmk hlink (xfit0_ok hf) hn hst (Nat.le_of_ble_eq_true hsum) (fun x w1 _ => kk x w1)
theorem xj_mmin {x y : Int32} {idx : Nat} {rest : List Value} (hd : decode M.2.1 pc = .ok (.invokestatic idx, 3)) (hlink : Cond.methodLink M.1.cls idx Lib.Math.min.name ∈ gtbl) (hf : Nat.ble 1 M.2.2.2.2.frames = true) (hl0 : Nat.ble ((rest.map fun v => v.category).sum + 13) M.2.2.2.2.locals = true)
    (kk : xJ ι M L b (pc + 3) lv (.int (xmin x y) :: rest) w r) : xJ ι M L b pc lv (.int y :: .int x :: rest) w r := by
  intro o ho X G A ex H locs ls cells slots Q Cx P hl hc hs hend
  exact va_mmin Cx.1 Cx.2.1 (Cx.2.2.1.trans hl.1.symm) Cx.2.2.2.1 (Cx.2.2.2.2.1 _ hlink) (Cx.2.2.2.2.1 _ twMin_st) (Cx.2.2.2.2.1 _ twMth_in) (Cx.2.2.2.2.1 _ twMin_co) (Nat.le_of_ble_eq_true hf) (by rw [xcat_sum]; exact Nat.le_of_ble_eq_true hl0) (by omega) (by omega) hd (kk o ho X G A ex H locs ls cells slots Q Cx P hl hc hs hend)
theorem xj_mmax {x y : Int32} {idx : Nat} {rest : List Value} (hd : decode M.2.1 pc = .ok (.invokestatic idx, 3)) (hlink : Cond.methodLink M.1.cls idx Lib.Math.max.name ∈ gtbl) (hf : Nat.ble 1 M.2.2.2.2.frames = true) (hl0 : Nat.ble ((rest.map fun v => v.category).sum + 13) M.2.2.2.2.locals = true)
    (kk : xJ ι M L b (pc + 3) lv (.int (xmax x y) :: rest) w r) : xJ ι M L b pc lv (.int y :: .int x :: rest) w r := by
  intro o ho X G A ex H locs ls cells slots Q Cx P hl hc hs hend
  exact va_mmax Cx.1 Cx.2.1 (Cx.2.2.1.trans hl.1.symm) Cx.2.2.2.1 (Cx.2.2.2.2.1 _ hlink) (Cx.2.2.2.2.1 _ twMax_st) (Cx.2.2.2.2.1 _ twMth_in) (Cx.2.2.2.2.1 _ twMax_co) (Nat.le_of_ble_eq_true hf) (by rw [xcat_sum]; exact Nat.le_of_ble_eq_true hl0) (by omega) (by omega) hd (kk o ho X G A ex H locs ls cells slots Q Cx P hl hc hs hend)
theorem xj_alen {k t n : Nat} {v : Int32} (hd : decode M.2.1 pc = .ok (.arraylength, 1)) (hk : L.2.1[k]? = some (.inr (t, n))) (ht : Int32.ofNat n = v ∧ t < 4) (kk : xJ ι M L b (pc + 1) lv (.int v :: st) w r) : xJ ι M L b pc lv (.ref k :: st) w r := by
  intro o ho X G A ex H locs ls cells slots Q Cx P hl hc hs hend
  have hty : ∃ ty, (xtys G.2.1)[t]? = some (G.2.1 t, ty) := by
    obtain ⟨-, h4⟩ := ht
    rcases (by omega : t = 0 ∨ t = 1 ∨ t = 2 ∨ t = 3) with rfl | rfl | rfl | rfl <;> exact ⟨_, rfl⟩
  obtain ⟨ty, hty⟩ := hty
  exact va_alen Cx.1 Cx.2.1 Cx.2.2.2.2.2.1 P.1 k t (xws_arr hk) hty ht.1 hd (kk o ho X G A ex H locs ls cells slots Q Cx P hl hc hs hend)
theorem xj_lsw2 {dflt o1 o2 a1 a2 : Int} {len t1 t2 tgtd : Nat} {x k1 k2 : Int32} {rc : Option ρ} (hd : decode M.2.1 pc = .ok (.lookupswitch dflt #[(a1, o1), (a2, o2)], len)) (h1 : (pc : Int) + o1 = (t1 : Int)) (h2 : (pc : Int) + o2 = (t2 : Int)) (h3 : (pc : Int) + dflt = (tgtd : Int)) (e1 : k1.toInt = a1) (e2 : k2.toInt = a2) (hlt : decide (a1 < a2) = true)
    (ka : xJ ι M L b t1 lv st w ra) (kb : xJ ι M L b t2 lv st w rb) (kc : xJ ι M L b tgtd lv st w rc) : xJ ι M L b pc lv (.int x :: st) w (if x = k1 then ra else (if x = k2 then rb else rc)) := by
  have hp : (#[(a1, o1), (a2, o2)].toList.zip (#[(a1, o1), (a2, o2)].toList.drop 1)).all (fun (a, next) => a.1 < next.1) = true := by
    simp; exact of_decide_eq_true hlt
  have hx : ∀ k : Int32, x = k ↔ x.toInt = k.toInt := fun k => ⟨fun h => by rw [h], fun h => Int32.toInt_inj.mp h⟩
  intro o ho X G A ex H locs ls cells slots Q C Pp hl hc hs hend
  by_cases c1 : x = k1
  · rw [if_pos c1] at ho
    refine lv_lookup C.1 C.2.1 hd hp (off := o1) ?_ h1 (ka o ho X G A ex H locs ls cells slots Q C Pp hl hc hs hend)
    have := (hx k1).mp c1
    simp [Op.lookupswitch.offset, List.find?, this, e1]
  · rw [if_neg c1] at ho
    have n1 : ¬ x.toInt = a1 := fun h => c1 ((hx k1).mpr (h.trans e1.symm))
    by_cases c2 : x = k2
    · rw [if_pos c2] at ho
      refine lv_lookup C.1 C.2.1 hd hp (off := o2) ?_ h2 (kb o ho X G A ex H locs ls cells slots Q C Pp hl hc hs hend)
      have h9 := (hx k2).mp c2
      rw [e2] at h9
      have n2 : ¬ a1 = x.toInt := fun h => n1 h.symm
      have n3 : (a1 == x.toInt) = false := by simpa using n2
      have n4 : (a2 == x.toInt) = true := by simp [h9]
      show Op.lookupswitch.offset [(a1, o1), (a2, o2)] dflt x.toInt = o2
      rw [Op.lookupswitch.offset_cons, Op.lookupswitch.offset_cons, if_neg n2, if_pos h9.symm]
    · rw [if_neg c2] at ho
      refine lv_lookup C.1 C.2.1 hd hp (off := dflt) ?_ h3 (kc o ho X G A ex H locs ls cells slots Q C Pp hl hc hs hend)
      have m1 : ¬ a1 = x.toInt := fun h => n1 h.symm
      have m2 : ¬ a2 = x.toInt := fun h => c2 ((hx k2).mpr (h.symm.trans e2.symm))
      have n3 : (a1 == x.toInt) = false := by simpa using m1
      have n4 : (a2 == x.toInt) = false := by simpa using m2
      show Op.lookupswitch.offset [(a1, o1), (a2, o2)] dflt x.toInt = dflt
      rw [Op.lookupswitch.offset_cons, Op.lookupswitch.offset_cons, if_neg m1, if_neg m2]; rfl
theorem xj_stop {ρ' : Type} {ι' : ρ' → xO × xW} {q : ρ'} (h1 : (ι' q).1 = .inr pc := by rfl) (h2 : (ι' q).2 = w := by rfl) : xJ ι' M L b pc lv [] w (some q) := xj_end h2 (by rw [h1]; rfl) (fun G => by rw [h1]; rfl)
theorem xj_ti {v : Int32} (hd : decode M.2.1 pc = .ok (.ireturn, 1)) (hr : M.2.2.2.1 = some .int) : xJ ιTI M L b pc lv [.int v] w (some (.inl v, w)) := xj_end rfl ⟨hd, .int, hr, rfl⟩ (fun _ => rfl)
theorem xj_tz {v : Int32} (hd : decode M.2.1 pc = .ok (.ireturn, 1)) (hr : M.2.2.2.1 = some .boolean) (hz : xz v) : xJ ιTI M L b pc lv [.int v] w (some (.inl v, w)) := xj_end rfl ⟨hd, .boolean, hr, (xz_nar hz).1⟩ (fun _ => rfl)
theorem xj_tv (hd : decode M.2.1 pc = .ok (.return_, 1)) (hr : M.2.2.2.1 = none) : xJ ιTV M L b pc lv [] w (some (.inl (), w)) := xj_end rfl ⟨hd, hr⟩ (fun _ => rfl)
end XCR

