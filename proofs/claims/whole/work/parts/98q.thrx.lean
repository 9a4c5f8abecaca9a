/-! a method that may throw: by its text's end at the place where it makes the exception -/
abbrev IAEx : String := "java/lang/IllegalArgumentException"
abbrev ISEx : String := "java/lang/IllegalStateException"
abbrev IOBx : String := "java/lang/IndexOutOfBoundsException"
abbrev upx : List String := ["java/lang/RuntimeException", "java/lang/Exception"]
theorem thx1 : ∀ w ∈ vx_atS RX11 85 IAEx upx, w ∈ lw_tbl := by decide +kernel
theorem thx2 : ∀ w ∈ vx_atS RX11 166 ISEx upx, w ∈ lw_tbl := by decide +kernel
theorem thx3 : ∀ w ∈ vx_atS RX11 223 IOBx upx, w ∈ lw_tbl := by decide +kernel
