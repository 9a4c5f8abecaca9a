/-! decode and take are a pair -/
theorem oW_self {c s n : Nat} {l : List Int32} {w : xW} (h : ∀ i, i < n → l.getD i 0 = w.1 c (s + i)) : oW c s n l w = w := by
  refine Prod.ext ?_ rfl
  funext k i
  show (if k = c ∧ s ≤ i ∧ i < s + n then l.getD (i - s) 0 else w.1 k i) = w.1 k i
  by_cases hk : k = c ∧ s ≤ i ∧ i < s + n
  · rw [if_pos hk, h (i - s) (by omega), hk.1, show s + (i - s) = i from by omega]
  · rw [if_neg hk]
theorem dW_self (w : xW) : dW [w.1 2 0, w.1 2 1, w.1 2 2, w.1 2 3, w.1 2 4, w.1 2 5, w.1 2 6, w.1 2 7, w.1 2 8, w.1 2 9, w.1 2 10, w.1 2 11, w.1 2 12, w.1 2 13, w.1 2 14] [w.1 3 2, w.1 3 3, w.1 3 4, w.1 3 5, w.1 3 6, w.1 3 7] w = w := by
  show oW 2 0 15 _ (oW 3 2 6 _ w) = w
  have e : oW 3 2 6 [w.1 3 2, w.1 3 3, w.1 3 4, w.1 3 5, w.1 3 6, w.1 3 7] w = w := oW_self (fun i hi => by
    have : i = 0 ∨ i = 1 ∨ i = 2 ∨ i = 3 ∨ i = 4 ∨ i = 5 := by omega
    rcases this with rfl | rfl | rfl | rfl | rfl | rfl <;> rfl)
  rw [e]
  exact oW_self (fun i hi => by
    have : i = 0 ∨ i = 1 ∨ i = 2 ∨ i = 3 ∨ i = 4 ∨ i = 5 ∨ i = 6 ∨ i = 7 ∨ i = 8 ∨ i = 9 ∨ i = 10 ∨ i = 11 ∨ i = 12 ∨ i = 13 ∨ i = 14 := by omega
    rcases this with rfl | rfl | rfl | rfl | rfl | rfl | rfl | rfl | rfl | rfl | rfl | rfl | rfl | rfl | rfl <;> rfl)
theorem mW_self (m : xW) : mW [m.1 0 17, m.1 0 18, m.1 0 19, m.1 0 20, m.1 0 21, m.1 0 22, m.1 0 23, m.1 0 24, m.1 0 25, m.1 0 26, m.1 0 27, m.1 0 28, m.1 0 29, m.1 0 30, m.1 0 31, m.1 0 32] m = m := oW_self (fun i hi => by
    have : i = 0 ∨ i = 1 ∨ i = 2 ∨ i = 3 ∨ i = 4 ∨ i = 5 ∨ i = 6 ∨ i = 7 ∨ i = 8 ∨ i = 9 ∨ i = 10 ∨ i = 11 ∨ i = 12 ∨ i = 13 ∨ i = 14 ∨ i = 15 := by omega
    rcases this with rfl | rfl | rfl | rfl | rfl | rfl | rfl | rfl | rfl | rfl | rfl | rfl | rfl | rfl | rfl | rfl <;> rfl)

theorem upto {P : Nat → Prop} {k : Nat} (h : ∀ j, j < k → P j) (hk : P k) : ∀ j, j < k + 1 → P j := fun j hj => by
  rcases Nat.lt_or_eq_of_le (Nat.le_of_lt_succ hj) with h1 | h1
  · exact h j h1
  · rw [h1]; exact hk
section DA
variable {w m : xW} {B : Nat → Int32} {n p : Nat} {x0 x1 x3 x4 x10 x11 x13 : Int32}
def SB (n p : Nat) (w m : xW) (x0 x1 x3 x4 x10 x11 x13 x : Int32) : Prop := DP n p w m (xbd (sX1_chooseLong x (dW [50, 0, 15, 0, 4, 4, 0, 0, 0, -1, -1, 0, 0, 0, 0] [nxn n (p + 2), ctn n (p + 2), 1, 0, 0, 0] w)) (fun _ w1 => sX1_decode_j128 (nI p) w1)) (xbd (tkS x (mW [x0, x1, 0, x3, x4, 3, 0, 0, -1, -1, x10, x11, 0, x13, nxn n (p + 2), thr n (p + 2) 1] m)) (fun _ w1 => sX12_take_j380 (nI p) w1))
theorem sb_0 (_ : imgC w B n) (_ : imgM m B n) : ∀ j, j < 0 → SB n p w m x0 x1 x3 x4 x10 x11 x13 (nI j) := fun _ h => absurd h (Nat.not_lt_zero _)

theorem sb_16 (hw : imgC w B n) (hm : imgM m B n) : ∀ j, j < 16 → SB n p w m x0 x1 x3 x4 x10 x11 x13 (nI j) := (upto (upto (upto (upto (upto (upto (upto (upto (upto (upto (upto (upto (upto (upto (upto (upto (sb_0 hw hm) (ds_0 hw hm)) (ds_1 hw hm)) (ds_2 hw hm)) (ds_3 hw hm)) (ds_4 hw hm)) (ds_5 hw hm)) (ds_6 hw hm)) (ds_7 hw hm)) (ds_8 hw hm)) (ds_9 hw hm)) (ds_10 hw hm)) (ds_11 hw hm)) (ds_12 hw hm)) (ds_13 hw hm)) (ds_14 hw hm)) (ds_15 hw hm))
theorem sb_32 (hw : imgC w B n) (hm : imgM m B n) : ∀ j, j < 32 → SB n p w m x0 x1 x3 x4 x10 x11 x13 (nI j) := (upto (upto (upto (upto (upto (upto (upto (upto (upto (upto (upto (upto (upto (upto (upto (upto (sb_16 hw hm) (ds_16 hw hm)) (ds_17 hw hm)) (ds_18 hw hm)) (ds_19 hw hm)) (ds_20 hw hm)) (ds_21 hw hm)) (ds_22 hw hm)) (ds_23 hw hm)) (ds_24 hw hm)) (ds_25 hw hm)) (ds_26 hw hm)) (ds_27 hw hm)) (ds_28 hw hm)) (ds_29 hw hm)) (ds_30 hw hm)) (ds_31 hw hm))
theorem sb_48 (hw : imgC w B n) (hm : imgM m B n) : ∀ j, j < 48 → SB n p w m x0 x1 x3 x4 x10 x11 x13 (nI j) := (upto (upto (upto (upto (upto (upto (upto (upto (upto (upto (upto (upto (upto (upto (upto (upto (sb_32 hw hm) (ds_32 hw hm)) (ds_33 hw hm)) (ds_34 hw hm)) (ds_35 hw hm)) (ds_36 hw hm)) (ds_37 hw hm)) (ds_38 hw hm)) (ds_39 hw hm)) (ds_40 hw hm)) (ds_41 hw hm)) (ds_42 hw hm)) (ds_43 hw hm)) (ds_44 hw hm)) (ds_45 hw hm)) (ds_46 hw hm)) (ds_47 hw hm))
theorem sb_64 (hw : imgC w B n) (hm : imgM m B n) : ∀ j, j < 64 → SB n p w m x0 x1 x3 x4 x10 x11 x13 (nI j) := (upto (upto (upto (upto (upto (upto (upto (upto (upto (upto (upto (upto (upto (upto (upto (upto (sb_48 hw hm) (ds_48 hw hm)) (ds_49 hw hm)) (ds_50 hw hm)) (ds_51 hw hm)) (ds_52 hw hm)) (ds_53 hw hm)) (ds_54 hw hm)) (ds_55 hw hm)) (ds_56 hw hm)) (ds_57 hw hm)) (ds_58 hw hm)) (ds_59 hw hm)) (ds_60 hw hm)) (ds_61 hw hm)) (ds_62 hw hm)) (ds_63 hw hm))
theorem sb_80 (hw : imgC w B n) (hm : imgM m B n) : ∀ j, j < 80 → SB n p w m x0 x1 x3 x4 x10 x11 x13 (nI j) := (upto (upto (upto (upto (upto (upto (upto (upto (upto (upto (upto (upto (upto (upto (upto (upto (sb_64 hw hm) (ds_64 hw hm)) (ds_65 hw hm)) (ds_66 hw hm)) (ds_67 hw hm)) (ds_68 hw hm)) (ds_69 hw hm)) (ds_70 hw hm)) (ds_71 hw hm)) (ds_72 hw hm)) (ds_73 hw hm)) (ds_74 hw hm)) (ds_75 hw hm)) (ds_76 hw hm)) (ds_77 hw hm)) (ds_78 hw hm)) (ds_79 hw hm))
theorem sb_96 (hw : imgC w B n) (hm : imgM m B n) : ∀ j, j < 96 → SB n p w m x0 x1 x3 x4 x10 x11 x13 (nI j) := (upto (upto (upto (upto (upto (upto (upto (upto (upto (upto (upto (upto (upto (upto (upto (upto (sb_80 hw hm) (ds_80 hw hm)) (ds_81 hw hm)) (ds_82 hw hm)) (ds_83 hw hm)) (ds_84 hw hm)) (ds_85 hw hm)) (ds_86 hw hm)) (ds_87 hw hm)) (ds_88 hw hm)) (ds_89 hw hm)) (ds_90 hw hm)) (ds_91 hw hm)) (ds_92 hw hm)) (ds_93 hw hm)) (ds_94 hw hm)) (ds_95 hw hm))
theorem sb_112 (hw : imgC w B n) (hm : imgM m B n) : ∀ j, j < 112 → SB n p w m x0 x1 x3 x4 x10 x11 x13 (nI j) := (upto (upto (upto (upto (upto (upto (upto (upto (upto (upto (upto (upto (upto (upto (upto (upto (sb_96 hw hm) (ds_96 hw hm)) (ds_97 hw hm)) (ds_98 hw hm)) (ds_99 hw hm)) (ds_100 hw hm)) (ds_101 hw hm)) (ds_102 hw hm)) (ds_103 hw hm)) (ds_104 hw hm)) (ds_105 hw hm)) (ds_106 hw hm)) (ds_107 hw hm)) (ds_108 hw hm)) (ds_109 hw hm)) (ds_110 hw hm)) (ds_111 hw hm))
theorem sb_128 (hw : imgC w B n) (hm : imgM m B n) : ∀ j, j < 128 → SB n p w m x0 x1 x3 x4 x10 x11 x13 (nI j) := (upto (upto (upto (upto (upto (upto (upto (upto (upto (upto (upto (upto (upto (upto (upto (upto (sb_112 hw hm) (ds_112 hw hm)) (ds_113 hw hm)) (ds_114 hw hm)) (ds_115 hw hm)) (ds_116 hw hm)) (ds_117 hw hm)) (ds_118 hw hm)) (ds_119 hw hm)) (ds_120 hw hm)) (ds_121 hw hm)) (ds_122 hw hm)) (ds_123 hw hm)) (ds_124 hw hm)) (ds_125 hw hm)) (ds_126 hw hm)) (ds_127 hw hm))
theorem sb_144 (hw : imgC w B n) (hm : imgM m B n) : ∀ j, j < 144 → SB n p w m x0 x1 x3 x4 x10 x11 x13 (nI j) := (upto (upto (upto (upto (upto (upto (upto (upto (upto (upto (upto (upto (upto (upto (upto (upto (sb_128 hw hm) (ds_128 hw hm)) (ds_129 hw hm)) (ds_130 hw hm)) (ds_131 hw hm)) (ds_132 hw hm)) (ds_133 hw hm)) (ds_134 hw hm)) (ds_135 hw hm)) (ds_136 hw hm)) (ds_137 hw hm)) (ds_138 hw hm)) (ds_139 hw hm)) (ds_140 hw hm)) (ds_141 hw hm)) (ds_142 hw hm)) (ds_143 hw hm))
theorem sb_160 (hw : imgC w B n) (hm : imgM m B n) : ∀ j, j < 160 → SB n p w m x0 x1 x3 x4 x10 x11 x13 (nI j) := (upto (upto (upto (upto (upto (upto (upto (upto (upto (upto (upto (upto (upto (upto (upto (upto (sb_144 hw hm) (ds_144 hw hm)) (ds_145 hw hm)) (ds_146 hw hm)) (ds_147 hw hm)) (ds_148 hw hm)) (ds_149 hw hm)) (ds_150 hw hm)) (ds_151 hw hm)) (ds_152 hw hm)) (ds_153 hw hm)) (ds_154 hw hm)) (ds_155 hw hm)) (ds_156 hw hm)) (ds_157 hw hm)) (ds_158 hw hm)) (ds_159 hw hm))
theorem sb_176 (hw : imgC w B n) (hm : imgM m B n) : ∀ j, j < 176 → SB n p w m x0 x1 x3 x4 x10 x11 x13 (nI j) := (upto (upto (upto (upto (upto (upto (upto (upto (upto (upto (upto (upto (upto (upto (upto (upto (sb_160 hw hm) (ds_160 hw hm)) (ds_161 hw hm)) (ds_162 hw hm)) (ds_163 hw hm)) (ds_164 hw hm)) (ds_165 hw hm)) (ds_166 hw hm)) (ds_167 hw hm)) (ds_168 hw hm)) (ds_169 hw hm)) (ds_170 hw hm)) (ds_171 hw hm)) (ds_172 hw hm)) (ds_173 hw hm)) (ds_174 hw hm)) (ds_175 hw hm))
theorem sb_192 (hw : imgC w B n) (hm : imgM m B n) : ∀ j, j < 192 → SB n p w m x0 x1 x3 x4 x10 x11 x13 (nI j) := (upto (upto (upto (upto (upto (upto (upto (upto (upto (upto (upto (upto (upto (upto (upto (upto (sb_176 hw hm) (ds_176 hw hm)) (ds_177 hw hm)) (ds_178 hw hm)) (ds_179 hw hm)) (ds_180 hw hm)) (ds_181 hw hm)) (ds_182 hw hm)) (ds_183 hw hm)) (ds_184 hw hm)) (ds_185 hw hm)) (ds_186 hw hm)) (ds_187 hw hm)) (ds_188 hw hm)) (ds_189 hw hm)) (ds_190 hw hm)) (ds_191 hw hm))
theorem sb_208 (hw : imgC w B n) (hm : imgM m B n) : ∀ j, j < 208 → SB n p w m x0 x1 x3 x4 x10 x11 x13 (nI j) := (upto (upto (upto (upto (upto (upto (upto (upto (upto (upto (upto (upto (upto (upto (upto (upto (sb_192 hw hm) (ds_192 hw hm)) (ds_193 hw hm)) (ds_194 hw hm)) (ds_195 hw hm)) (ds_196 hw hm)) (ds_197 hw hm)) (ds_198 hw hm)) (ds_199 hw hm)) (ds_200 hw hm)) (ds_201 hw hm)) (ds_202 hw hm)) (ds_203 hw hm)) (ds_204 hw hm)) (ds_205 hw hm)) (ds_206 hw hm)) (ds_207 hw hm))
theorem sb_224 (hw : imgC w B n) (hm : imgM m B n) : ∀ j, j < 224 → SB n p w m x0 x1 x3 x4 x10 x11 x13 (nI j) := (upto (upto (upto (upto (upto (upto (upto (upto (upto (upto (upto (upto (upto (upto (upto (upto (sb_208 hw hm) (ds_208 hw hm)) (ds_209 hw hm)) (ds_210 hw hm)) (ds_211 hw hm)) (ds_212 hw hm)) (ds_213 hw hm)) (ds_214 hw hm)) (ds_215 hw hm)) (ds_216 hw hm)) (ds_217 hw hm)) (ds_218 hw hm)) (ds_219 hw hm)) (ds_220 hw hm)) (ds_221 hw hm)) (ds_222 hw hm)) (ds_223 hw hm))
theorem sb_240 (hw : imgC w B n) (hm : imgM m B n) : ∀ j, j < 240 → SB n p w m x0 x1 x3 x4 x10 x11 x13 (nI j) := (upto (upto (upto (upto (upto (upto (upto (upto (upto (upto (upto (upto (upto (upto (upto (upto (sb_224 hw hm) (ds_224 hw hm)) (ds_225 hw hm)) (ds_226 hw hm)) (ds_227 hw hm)) (ds_228 hw hm)) (ds_229 hw hm)) (ds_230 hw hm)) (ds_231 hw hm)) (ds_232 hw hm)) (ds_233 hw hm)) (ds_234 hw hm)) (ds_235 hw hm)) (ds_236 hw hm)) (ds_237 hw hm)) (ds_238 hw hm)) (ds_239 hw hm))
theorem sb_256 (hw : imgC w B n) (hm : imgM m B n) : ∀ j, j < 256 → SB n p w m x0 x1 x3 x4 x10 x11 x13 (nI j) := (upto (upto (upto (upto (upto (upto (upto (upto (upto (upto (upto (upto (upto (upto (upto (upto (sb_240 hw hm) (ds_240 hw hm)) (ds_241 hw hm)) (ds_242 hw hm)) (ds_243 hw hm)) (ds_244 hw hm)) (ds_245 hw hm)) (ds_246 hw hm)) (ds_247 hw hm)) (ds_248 hw hm)) (ds_249 hw hm)) (ds_250 hw hm)) (ds_251 hw hm)) (ds_252 hw hm)) (ds_253 hw hm)) (ds_254 hw hm)) (ds_255 hw hm))
def FB (n p : Nat) (w m : xW) (x0 x1 x3 x4 x10 x11 x13 x : Int32) : Prop := DP n p w m (if x = (15 : Int32) then xbd (sX1_nextByte (xwi (dW [50, 0, 0, 0, 4, 4, 0, 0, 0, -1, -1, 0, 0, 0, 0] [nxn n (p + 1), ctn n (p + 1), 1, 0, 0, 0] w) 2 2 x)) (fun x10 w11 => xbd (sX1_chooseLong x10 w11) (fun _ w12 => sX1_decode_j128 (nI p) w12)) else (if x = (102 : Int32) then xbd (sX1_nextByte (xwi (dW [50, 0, 0, 0, 4, 4, 0, 0, 0, -1, -1, 0, 0, 0, 0] [nxn n (p + 1), ctn n (p + 1), 1, 0, 0, 0] w) 2 2 x)) (fun x7 w8 => xbd (sX1_chooseWord x7 w8) (fun _ w9 => sX1_decode_j128 (nI p) w9)) else (if x < (128 : Int32) then xbd (sX1_chooseLow x (xwi (dW [50, 0, 0, 0, 4, 4, 0, 0, 0, -1, -1, 0, 0, 0, 0] [nxn n (p + 1), ctn n (p + 1), 1, 0, 0, 0] w) 2 2 x)) (fun _ w6 => sX1_decode_j128 (nI p) w6) else (if (x &&& (1 : Int32)) = 0 then sX1_decode_j125 (nI p) (1 : Int32) x (xwi (dW [50, 0, 0, 0, 4, 4, 0, 0, 0, -1, -1, 0, 0, 0, 0] [nxn n (p + 1), ctn n (p + 1), 1, 0, 0, 0] w) 2 2 x) else sX1_decode_j125 (nI p) (4 : Int32) x (xwi (dW [50, 0, 0, 0, 4, 4, 0, 0, 0, -1, -1, 0, 0, 0, 0] [nxn n (p + 1), ctn n (p + 1), 1, 0, 0, 0] w) 2 2 x))))) (if (x &&& (1 : Int32)) = 0 then sX12_take_j86 (nI p) x (1 : Int32) (mW [x0, x1, 0, x3, x4, 3, 0, 0, -1, -1, x10, x11, 0, x13, nxn n (p + 1), thr n (p + 1) 1] m) else sX12_take_j86 (nI p) x (4 : Int32) (mW [x0, x1, 0, x3, x4, 3, 0, 0, -1, -1, x10, x11, 0, x13, nxn n (p + 1), thr n (p + 1) 1] m))
theorem fb_0 (_ : imgC w B n) (_ : imgM m B n) : ∀ j, j < 0 → FB n p w m x0 x1 x3 x4 x10 x11 x13 (nI j) := fun _ h => absurd h (Nat.not_lt_zero _)
theorem fx_15 (hw : imgC w B n) (hm : imgM m B n) : FB n p w m x0 x1 x3 x4 x10 x11 x13 15 := by
  unfold FB
  obtain ⟨j, hj, e⟩ := hw.byte (p + 1)
  rw [if_pos rfl, if_neg (by decide), xwi_d2 rfl (by decide)]
  simp only [List.set]
  rw [nextByte_d hw, xbd_some, (show ∀ M, sX12_take_j86 (nI p) 15 4 M = xbd (sX12_takeSecond M) (fun _ w1 => sX12_take_j380 (nI p) w1) from fun _ => rfl), takeSecond_t, next_m hm, xbd_some, e]
  exact sb_256 hw hm j hj
theorem fx_102 (hw : imgC w B n) (hm : imgM m B n) : FB n p w m x0 x1 x3 x4 x10 x11 x13 102 := by
  unfold FB
  rw [if_neg (by decide), if_pos rfl, if_pos (by decide), xwi_d2 rfl (by decide)]
  simp only [List.set]
  rw [nextByte_d hw, xbd_some, (show ∀ M, sX12_take_j86 (nI p) 102 1 M = xbd (sX12_takeWord M) (fun _ w1 => sX12_take_j380 (nI p) w1) from fun _ => rfl), takeWord_t, next_m hm, xbd_some]
  by_cases h1 : B (p + 1) = 137
  · rw [h1]; exact dw_137 hw hm
  · by_cases h2 : B (p + 1) = 139
    · rw [h2]; exact dw_139 hw hm
    · by_cases h3 : B (p + 1) = 144
      · rw [h3]; exact dw_144 hw hm
      · exact dw_no hw hm h1 h2 h3

theorem fx_0 (hw : imgC w B n) (hm : imgM m B n) : FB n p w m x0 x1 x3 x4 x10 x11 x13 0 := by
  unfold FB
  rw [if_neg (by decide), if_neg (by decide), if_pos (by decide), if_pos (by decide), xwi_d2 rfl (by decide)]
  exact db_0 hw hm
theorem fx_1 (hw : imgC w B n) (hm : imgM m B n) : FB n p w m x0 x1 x3 x4 x10 x11 x13 1 := by
  unfold FB
  rw [if_neg (by decide), if_neg (by decide), if_pos (by decide), if_neg (by decide), xwi_d2 rfl (by decide)]
  exact db_1 hw hm
theorem fx_2 (hw : imgC w B n) (hm : imgM m B n) : FB n p w m x0 x1 x3 x4 x10 x11 x13 2 := by
  unfold FB
  rw [if_neg (by decide), if_neg (by decide), if_pos (by decide), if_pos (by decide), xwi_d2 rfl (by decide)]
  exact db_2 hw hm
theorem fx_3 (hw : imgC w B n) (hm : imgM m B n) : FB n p w m x0 x1 x3 x4 x10 x11 x13 3 := by
  unfold FB
  rw [if_neg (by decide), if_neg (by decide), if_pos (by decide), if_neg (by decide), xwi_d2 rfl (by decide)]
  exact db_3 hw hm
theorem fx_4 (hw : imgC w B n) (hm : imgM m B n) : FB n p w m x0 x1 x3 x4 x10 x11 x13 4 := by
  unfold FB
  rw [if_neg (by decide), if_neg (by decide), if_pos (by decide), if_pos (by decide), xwi_d2 rfl (by decide)]
  exact db_4 hw hm
theorem fx_5 (hw : imgC w B n) (hm : imgM m B n) : FB n p w m x0 x1 x3 x4 x10 x11 x13 5 := by
  unfold FB
  rw [if_neg (by decide), if_neg (by decide), if_pos (by decide), if_neg (by decide), xwi_d2 rfl (by decide)]
  exact db_5 hw hm
theorem fx_6 (hw : imgC w B n) (hm : imgM m B n) : FB n p w m x0 x1 x3 x4 x10 x11 x13 6 := by
  unfold FB
  rw [if_neg (by decide), if_neg (by decide), if_pos (by decide), if_pos (by decide), xwi_d2 rfl (by decide)]
  exact db_6 hw hm
theorem fx_7 (hw : imgC w B n) (hm : imgM m B n) : FB n p w m x0 x1 x3 x4 x10 x11 x13 7 := by
  unfold FB
  rw [if_neg (by decide), if_neg (by decide), if_pos (by decide), if_neg (by decide), xwi_d2 rfl (by decide)]
  exact db_7 hw hm
theorem fx_8 (hw : imgC w B n) (hm : imgM m B n) : FB n p w m x0 x1 x3 x4 x10 x11 x13 8 := by
  unfold FB
  rw [if_neg (by decide), if_neg (by decide), if_pos (by decide), if_pos (by decide), xwi_d2 rfl (by decide)]
  exact db_8 hw hm
theorem fx_9 (hw : imgC w B n) (hm : imgM m B n) : FB n p w m x0 x1 x3 x4 x10 x11 x13 9 := by
  unfold FB
  rw [if_neg (by decide), if_neg (by decide), if_pos (by decide), if_neg (by decide), xwi_d2 rfl (by decide)]
  exact db_9 hw hm
theorem fx_10 (hw : imgC w B n) (hm : imgM m B n) : FB n p w m x0 x1 x3 x4 x10 x11 x13 10 := by
  unfold FB
  rw [if_neg (by decide), if_neg (by decide), if_pos (by decide), if_pos (by decide), xwi_d2 rfl (by decide)]
  exact db_10 hw hm
theorem fx_11 (hw : imgC w B n) (hm : imgM m B n) : FB n p w m x0 x1 x3 x4 x10 x11 x13 11 := by
  unfold FB
  rw [if_neg (by decide), if_neg (by decide), if_pos (by decide), if_neg (by decide), xwi_d2 rfl (by decide)]
  exact db_11 hw hm
theorem fx_12 (hw : imgC w B n) (hm : imgM m B n) : FB n p w m x0 x1 x3 x4 x10 x11 x13 12 := by
  unfold FB
  rw [if_neg (by decide), if_neg (by decide), if_pos (by decide), if_pos (by decide), xwi_d2 rfl (by decide)]
  exact db_12 hw hm
theorem fx_13 (hw : imgC w B n) (hm : imgM m B n) : FB n p w m x0 x1 x3 x4 x10 x11 x13 13 := by
  unfold FB
  rw [if_neg (by decide), if_neg (by decide), if_pos (by decide), if_neg (by decide), xwi_d2 rfl (by decide)]
  exact db_13 hw hm
theorem fx_14 (hw : imgC w B n) (hm : imgM m B n) : FB n p w m x0 x1 x3 x4 x10 x11 x13 14 := by
  unfold FB
  rw [if_neg (by decide), if_neg (by decide), if_pos (by decide), if_pos (by decide), xwi_d2 rfl (by decide)]
  exact db_14 hw hm
theorem fx_16 (hw : imgC w B n) (hm : imgM m B n) : FB n p w m x0 x1 x3 x4 x10 x11 x13 16 := by
  unfold FB
  rw [if_neg (by decide), if_neg (by decide), if_pos (by decide), if_pos (by decide), xwi_d2 rfl (by decide)]
  exact db_16 hw hm
theorem fx_17 (hw : imgC w B n) (hm : imgM m B n) : FB n p w m x0 x1 x3 x4 x10 x11 x13 17 := by
  unfold FB
  rw [if_neg (by decide), if_neg (by decide), if_pos (by decide), if_neg (by decide), xwi_d2 rfl (by decide)]
  exact db_17 hw hm
theorem fx_18 (hw : imgC w B n) (hm : imgM m B n) : FB n p w m x0 x1 x3 x4 x10 x11 x13 18 := by
  unfold FB
  rw [if_neg (by decide), if_neg (by decide), if_pos (by decide), if_pos (by decide), xwi_d2 rfl (by decide)]
  exact db_18 hw hm
theorem fx_19 (hw : imgC w B n) (hm : imgM m B n) : FB n p w m x0 x1 x3 x4 x10 x11 x13 19 := by
  unfold FB
  rw [if_neg (by decide), if_neg (by decide), if_pos (by decide), if_neg (by decide), xwi_d2 rfl (by decide)]
  exact db_19 hw hm
theorem fx_20 (hw : imgC w B n) (hm : imgM m B n) : FB n p w m x0 x1 x3 x4 x10 x11 x13 20 := by
  unfold FB
  rw [if_neg (by decide), if_neg (by decide), if_pos (by decide), if_pos (by decide), xwi_d2 rfl (by decide)]
  exact db_20 hw hm
theorem fx_21 (hw : imgC w B n) (hm : imgM m B n) : FB n p w m x0 x1 x3 x4 x10 x11 x13 21 := by
  unfold FB
  rw [if_neg (by decide), if_neg (by decide), if_pos (by decide), if_neg (by decide), xwi_d2 rfl (by decide)]
  exact db_21 hw hm
theorem fx_22 (hw : imgC w B n) (hm : imgM m B n) : FB n p w m x0 x1 x3 x4 x10 x11 x13 22 := by
  unfold FB
  rw [if_neg (by decide), if_neg (by decide), if_pos (by decide), if_pos (by decide), xwi_d2 rfl (by decide)]
  exact db_22 hw hm
theorem fx_23 (hw : imgC w B n) (hm : imgM m B n) : FB n p w m x0 x1 x3 x4 x10 x11 x13 23 := by
  unfold FB
  rw [if_neg (by decide), if_neg (by decide), if_pos (by decide), if_neg (by decide), xwi_d2 rfl (by decide)]
  exact db_23 hw hm
theorem fx_24 (hw : imgC w B n) (hm : imgM m B n) : FB n p w m x0 x1 x3 x4 x10 x11 x13 24 := by
  unfold FB
  rw [if_neg (by decide), if_neg (by decide), if_pos (by decide), if_pos (by decide), xwi_d2 rfl (by decide)]
  exact db_24 hw hm
theorem fx_25 (hw : imgC w B n) (hm : imgM m B n) : FB n p w m x0 x1 x3 x4 x10 x11 x13 25 := by
  unfold FB
  rw [if_neg (by decide), if_neg (by decide), if_pos (by decide), if_neg (by decide), xwi_d2 rfl (by decide)]
  exact db_25 hw hm
theorem fx_26 (hw : imgC w B n) (hm : imgM m B n) : FB n p w m x0 x1 x3 x4 x10 x11 x13 26 := by
  unfold FB
  rw [if_neg (by decide), if_neg (by decide), if_pos (by decide), if_pos (by decide), xwi_d2 rfl (by decide)]
  exact db_26 hw hm
theorem fx_27 (hw : imgC w B n) (hm : imgM m B n) : FB n p w m x0 x1 x3 x4 x10 x11 x13 27 := by
  unfold FB
  rw [if_neg (by decide), if_neg (by decide), if_pos (by decide), if_neg (by decide), xwi_d2 rfl (by decide)]
  exact db_27 hw hm
theorem fx_28 (hw : imgC w B n) (hm : imgM m B n) : FB n p w m x0 x1 x3 x4 x10 x11 x13 28 := by
  unfold FB
  rw [if_neg (by decide), if_neg (by decide), if_pos (by decide), if_pos (by decide), xwi_d2 rfl (by decide)]
  exact db_28 hw hm
theorem fx_29 (hw : imgC w B n) (hm : imgM m B n) : FB n p w m x0 x1 x3 x4 x10 x11 x13 29 := by
  unfold FB
  rw [if_neg (by decide), if_neg (by decide), if_pos (by decide), if_neg (by decide), xwi_d2 rfl (by decide)]
  exact db_29 hw hm
theorem fx_30 (hw : imgC w B n) (hm : imgM m B n) : FB n p w m x0 x1 x3 x4 x10 x11 x13 30 := by
  unfold FB
  rw [if_neg (by decide), if_neg (by decide), if_pos (by decide), if_pos (by decide), xwi_d2 rfl (by decide)]
  exact db_30 hw hm
theorem fx_31 (hw : imgC w B n) (hm : imgM m B n) : FB n p w m x0 x1 x3 x4 x10 x11 x13 31 := by
  unfold FB
  rw [if_neg (by decide), if_neg (by decide), if_pos (by decide), if_neg (by decide), xwi_d2 rfl (by decide)]
  exact db_31 hw hm
theorem fx_32 (hw : imgC w B n) (hm : imgM m B n) : FB n p w m x0 x1 x3 x4 x10 x11 x13 32 := by
  unfold FB
  rw [if_neg (by decide), if_neg (by decide), if_pos (by decide), if_pos (by decide), xwi_d2 rfl (by decide)]
  exact db_32 hw hm
theorem fx_33 (hw : imgC w B n) (hm : imgM m B n) : FB n p w m x0 x1 x3 x4 x10 x11 x13 33 := by
  unfold FB
  rw [if_neg (by decide), if_neg (by decide), if_pos (by decide), if_neg (by decide), xwi_d2 rfl (by decide)]
  exact db_33 hw hm
theorem fx_34 (hw : imgC w B n) (hm : imgM m B n) : FB n p w m x0 x1 x3 x4 x10 x11 x13 34 := by
  unfold FB
  rw [if_neg (by decide), if_neg (by decide), if_pos (by decide), if_pos (by decide), xwi_d2 rfl (by decide)]
  exact db_34 hw hm
theorem fx_35 (hw : imgC w B n) (hm : imgM m B n) : FB n p w m x0 x1 x3 x4 x10 x11 x13 35 := by
  unfold FB
  rw [if_neg (by decide), if_neg (by decide), if_pos (by decide), if_neg (by decide), xwi_d2 rfl (by decide)]
  exact db_35 hw hm
theorem fx_36 (hw : imgC w B n) (hm : imgM m B n) : FB n p w m x0 x1 x3 x4 x10 x11 x13 36 := by
  unfold FB
  rw [if_neg (by decide), if_neg (by decide), if_pos (by decide), if_pos (by decide), xwi_d2 rfl (by decide)]
  exact db_36 hw hm
theorem fx_37 (hw : imgC w B n) (hm : imgM m B n) : FB n p w m x0 x1 x3 x4 x10 x11 x13 37 := by
  unfold FB
  rw [if_neg (by decide), if_neg (by decide), if_pos (by decide), if_neg (by decide), xwi_d2 rfl (by decide)]
  exact db_37 hw hm
theorem fx_38 (hw : imgC w B n) (hm : imgM m B n) : FB n p w m x0 x1 x3 x4 x10 x11 x13 38 := by
  unfold FB
  rw [if_neg (by decide), if_neg (by decide), if_pos (by decide), if_pos (by decide), xwi_d2 rfl (by decide)]
  exact db_38 hw hm
theorem fx_39 (hw : imgC w B n) (hm : imgM m B n) : FB n p w m x0 x1 x3 x4 x10 x11 x13 39 := by
  unfold FB
  rw [if_neg (by decide), if_neg (by decide), if_pos (by decide), if_neg (by decide), xwi_d2 rfl (by decide)]
  exact db_39 hw hm
theorem fx_40 (hw : imgC w B n) (hm : imgM m B n) : FB n p w m x0 x1 x3 x4 x10 x11 x13 40 := by
  unfold FB
  rw [if_neg (by decide), if_neg (by decide), if_pos (by decide), if_pos (by decide), xwi_d2 rfl (by decide)]
  exact db_40 hw hm
theorem fx_41 (hw : imgC w B n) (hm : imgM m B n) : FB n p w m x0 x1 x3 x4 x10 x11 x13 41 := by
  unfold FB
  rw [if_neg (by decide), if_neg (by decide), if_pos (by decide), if_neg (by decide), xwi_d2 rfl (by decide)]
  exact db_41 hw hm
theorem fx_42 (hw : imgC w B n) (hm : imgM m B n) : FB n p w m x0 x1 x3 x4 x10 x11 x13 42 := by
  unfold FB
  rw [if_neg (by decide), if_neg (by decide), if_pos (by decide), if_pos (by decide), xwi_d2 rfl (by decide)]
  exact db_42 hw hm
theorem fx_43 (hw : imgC w B n) (hm : imgM m B n) : FB n p w m x0 x1 x3 x4 x10 x11 x13 43 := by
  unfold FB
  rw [if_neg (by decide), if_neg (by decide), if_pos (by decide), if_neg (by decide), xwi_d2 rfl (by decide)]
  exact db_43 hw hm
theorem fx_44 (hw : imgC w B n) (hm : imgM m B n) : FB n p w m x0 x1 x3 x4 x10 x11 x13 44 := by
  unfold FB
  rw [if_neg (by decide), if_neg (by decide), if_pos (by decide), if_pos (by decide), xwi_d2 rfl (by decide)]
  exact db_44 hw hm
theorem fx_45 (hw : imgC w B n) (hm : imgM m B n) : FB n p w m x0 x1 x3 x4 x10 x11 x13 45 := by
  unfold FB
  rw [if_neg (by decide), if_neg (by decide), if_pos (by decide), if_neg (by decide), xwi_d2 rfl (by decide)]
  exact db_45 hw hm
theorem fx_46 (hw : imgC w B n) (hm : imgM m B n) : FB n p w m x0 x1 x3 x4 x10 x11 x13 46 := by
  unfold FB
  rw [if_neg (by decide), if_neg (by decide), if_pos (by decide), if_pos (by decide), xwi_d2 rfl (by decide)]
  exact db_46 hw hm
theorem fx_47 (hw : imgC w B n) (hm : imgM m B n) : FB n p w m x0 x1 x3 x4 x10 x11 x13 47 := by
  unfold FB
  rw [if_neg (by decide), if_neg (by decide), if_pos (by decide), if_neg (by decide), xwi_d2 rfl (by decide)]
  exact db_47 hw hm
theorem fx_48 (hw : imgC w B n) (hm : imgM m B n) : FB n p w m x0 x1 x3 x4 x10 x11 x13 48 := by
  unfold FB
  rw [if_neg (by decide), if_neg (by decide), if_pos (by decide), if_pos (by decide), xwi_d2 rfl (by decide)]
  exact db_48 hw hm
theorem fx_49 (hw : imgC w B n) (hm : imgM m B n) : FB n p w m x0 x1 x3 x4 x10 x11 x13 49 := by
  unfold FB
  rw [if_neg (by decide), if_neg (by decide), if_pos (by decide), if_neg (by decide), xwi_d2 rfl (by decide)]
  exact db_49 hw hm
theorem fx_50 (hw : imgC w B n) (hm : imgM m B n) : FB n p w m x0 x1 x3 x4 x10 x11 x13 50 := by
  unfold FB
  rw [if_neg (by decide), if_neg (by decide), if_pos (by decide), if_pos (by decide), xwi_d2 rfl (by decide)]
  exact db_50 hw hm
theorem fx_51 (hw : imgC w B n) (hm : imgM m B n) : FB n p w m x0 x1 x3 x4 x10 x11 x13 51 := by
  unfold FB
  rw [if_neg (by decide), if_neg (by decide), if_pos (by decide), if_neg (by decide), xwi_d2 rfl (by decide)]
  exact db_51 hw hm
theorem fx_52 (hw : imgC w B n) (hm : imgM m B n) : FB n p w m x0 x1 x3 x4 x10 x11 x13 52 := by
  unfold FB
  rw [if_neg (by decide), if_neg (by decide), if_pos (by decide), if_pos (by decide), xwi_d2 rfl (by decide)]
  exact db_52 hw hm
theorem fx_53 (hw : imgC w B n) (hm : imgM m B n) : FB n p w m x0 x1 x3 x4 x10 x11 x13 53 := by
  unfold FB
  rw [if_neg (by decide), if_neg (by decide), if_pos (by decide), if_neg (by decide), xwi_d2 rfl (by decide)]
  exact db_53 hw hm
theorem fx_54 (hw : imgC w B n) (hm : imgM m B n) : FB n p w m x0 x1 x3 x4 x10 x11 x13 54 := by
  unfold FB
  rw [if_neg (by decide), if_neg (by decide), if_pos (by decide), if_pos (by decide), xwi_d2 rfl (by decide)]
  exact db_54 hw hm
theorem fx_55 (hw : imgC w B n) (hm : imgM m B n) : FB n p w m x0 x1 x3 x4 x10 x11 x13 55 := by
  unfold FB
  rw [if_neg (by decide), if_neg (by decide), if_pos (by decide), if_neg (by decide), xwi_d2 rfl (by decide)]
  exact db_55 hw hm
theorem fx_56 (hw : imgC w B n) (hm : imgM m B n) : FB n p w m x0 x1 x3 x4 x10 x11 x13 56 := by
  unfold FB
  rw [if_neg (by decide), if_neg (by decide), if_pos (by decide), if_pos (by decide), xwi_d2 rfl (by decide)]
  exact db_56 hw hm
theorem fx_57 (hw : imgC w B n) (hm : imgM m B n) : FB n p w m x0 x1 x3 x4 x10 x11 x13 57 := by
  unfold FB
  rw [if_neg (by decide), if_neg (by decide), if_pos (by decide), if_neg (by decide), xwi_d2 rfl (by decide)]
  exact db_57 hw hm
theorem fx_58 (hw : imgC w B n) (hm : imgM m B n) : FB n p w m x0 x1 x3 x4 x10 x11 x13 58 := by
  unfold FB
  rw [if_neg (by decide), if_neg (by decide), if_pos (by decide), if_pos (by decide), xwi_d2 rfl (by decide)]
  exact db_58 hw hm
theorem fx_59 (hw : imgC w B n) (hm : imgM m B n) : FB n p w m x0 x1 x3 x4 x10 x11 x13 59 := by
  unfold FB
  rw [if_neg (by decide), if_neg (by decide), if_pos (by decide), if_neg (by decide), xwi_d2 rfl (by decide)]
  exact db_59 hw hm
theorem fx_60 (hw : imgC w B n) (hm : imgM m B n) : FB n p w m x0 x1 x3 x4 x10 x11 x13 60 := by
  unfold FB
  rw [if_neg (by decide), if_neg (by decide), if_pos (by decide), if_pos (by decide), xwi_d2 rfl (by decide)]
  exact db_60 hw hm
theorem fx_61 (hw : imgC w B n) (hm : imgM m B n) : FB n p w m x0 x1 x3 x4 x10 x11 x13 61 := by
  unfold FB
  rw [if_neg (by decide), if_neg (by decide), if_pos (by decide), if_neg (by decide), xwi_d2 rfl (by decide)]
  exact db_61 hw hm
theorem fx_62 (hw : imgC w B n) (hm : imgM m B n) : FB n p w m x0 x1 x3 x4 x10 x11 x13 62 := by
  unfold FB
  rw [if_neg (by decide), if_neg (by decide), if_pos (by decide), if_pos (by decide), xwi_d2 rfl (by decide)]
  exact db_62 hw hm
theorem fx_63 (hw : imgC w B n) (hm : imgM m B n) : FB n p w m x0 x1 x3 x4 x10 x11 x13 63 := by
  unfold FB
  rw [if_neg (by decide), if_neg (by decide), if_pos (by decide), if_neg (by decide), xwi_d2 rfl (by decide)]
  exact db_63 hw hm
theorem fx_64 (hw : imgC w B n) (hm : imgM m B n) : FB n p w m x0 x1 x3 x4 x10 x11 x13 64 := by
  unfold FB
  rw [if_neg (by decide), if_neg (by decide), if_pos (by decide), if_pos (by decide), xwi_d2 rfl (by decide)]
  exact db_64 hw hm
theorem fx_65 (hw : imgC w B n) (hm : imgM m B n) : FB n p w m x0 x1 x3 x4 x10 x11 x13 65 := by
  unfold FB
  rw [if_neg (by decide), if_neg (by decide), if_pos (by decide), if_neg (by decide), xwi_d2 rfl (by decide)]
  exact db_65 hw hm
theorem fx_66 (hw : imgC w B n) (hm : imgM m B n) : FB n p w m x0 x1 x3 x4 x10 x11 x13 66 := by
  unfold FB
  rw [if_neg (by decide), if_neg (by decide), if_pos (by decide), if_pos (by decide), xwi_d2 rfl (by decide)]
  exact db_66 hw hm
theorem fx_67 (hw : imgC w B n) (hm : imgM m B n) : FB n p w m x0 x1 x3 x4 x10 x11 x13 67 := by
  unfold FB
  rw [if_neg (by decide), if_neg (by decide), if_pos (by decide), if_neg (by decide), xwi_d2 rfl (by decide)]
  exact db_67 hw hm
theorem fx_68 (hw : imgC w B n) (hm : imgM m B n) : FB n p w m x0 x1 x3 x4 x10 x11 x13 68 := by
  unfold FB
  rw [if_neg (by decide), if_neg (by decide), if_pos (by decide), if_pos (by decide), xwi_d2 rfl (by decide)]
  exact db_68 hw hm
theorem fx_69 (hw : imgC w B n) (hm : imgM m B n) : FB n p w m x0 x1 x3 x4 x10 x11 x13 69 := by
  unfold FB
  rw [if_neg (by decide), if_neg (by decide), if_pos (by decide), if_neg (by decide), xwi_d2 rfl (by decide)]
  exact db_69 hw hm
theorem fx_70 (hw : imgC w B n) (hm : imgM m B n) : FB n p w m x0 x1 x3 x4 x10 x11 x13 70 := by
  unfold FB
  rw [if_neg (by decide), if_neg (by decide), if_pos (by decide), if_pos (by decide), xwi_d2 rfl (by decide)]
  exact db_70 hw hm
theorem fx_71 (hw : imgC w B n) (hm : imgM m B n) : FB n p w m x0 x1 x3 x4 x10 x11 x13 71 := by
  unfold FB
  rw [if_neg (by decide), if_neg (by decide), if_pos (by decide), if_neg (by decide), xwi_d2 rfl (by decide)]
  exact db_71 hw hm
theorem fx_72 (hw : imgC w B n) (hm : imgM m B n) : FB n p w m x0 x1 x3 x4 x10 x11 x13 72 := by
  unfold FB
  rw [if_neg (by decide), if_neg (by decide), if_pos (by decide), if_pos (by decide), xwi_d2 rfl (by decide)]
  exact db_72 hw hm
theorem fx_73 (hw : imgC w B n) (hm : imgM m B n) : FB n p w m x0 x1 x3 x4 x10 x11 x13 73 := by
  unfold FB
  rw [if_neg (by decide), if_neg (by decide), if_pos (by decide), if_neg (by decide), xwi_d2 rfl (by decide)]
  exact db_73 hw hm
theorem fx_74 (hw : imgC w B n) (hm : imgM m B n) : FB n p w m x0 x1 x3 x4 x10 x11 x13 74 := by
  unfold FB
  rw [if_neg (by decide), if_neg (by decide), if_pos (by decide), if_pos (by decide), xwi_d2 rfl (by decide)]
  exact db_74 hw hm
theorem fx_75 (hw : imgC w B n) (hm : imgM m B n) : FB n p w m x0 x1 x3 x4 x10 x11 x13 75 := by
  unfold FB
  rw [if_neg (by decide), if_neg (by decide), if_pos (by decide), if_neg (by decide), xwi_d2 rfl (by decide)]
  exact db_75 hw hm
theorem fx_76 (hw : imgC w B n) (hm : imgM m B n) : FB n p w m x0 x1 x3 x4 x10 x11 x13 76 := by
  unfold FB
  rw [if_neg (by decide), if_neg (by decide), if_pos (by decide), if_pos (by decide), xwi_d2 rfl (by decide)]
  exact db_76 hw hm
theorem fx_77 (hw : imgC w B n) (hm : imgM m B n) : FB n p w m x0 x1 x3 x4 x10 x11 x13 77 := by
  unfold FB
  rw [if_neg (by decide), if_neg (by decide), if_pos (by decide), if_neg (by decide), xwi_d2 rfl (by decide)]
  exact db_77 hw hm
theorem fx_78 (hw : imgC w B n) (hm : imgM m B n) : FB n p w m x0 x1 x3 x4 x10 x11 x13 78 := by
  unfold FB
  rw [if_neg (by decide), if_neg (by decide), if_pos (by decide), if_pos (by decide), xwi_d2 rfl (by decide)]
  exact db_78 hw hm
theorem fx_79 (hw : imgC w B n) (hm : imgM m B n) : FB n p w m x0 x1 x3 x4 x10 x11 x13 79 := by
  unfold FB
  rw [if_neg (by decide), if_neg (by decide), if_pos (by decide), if_neg (by decide), xwi_d2 rfl (by decide)]
  exact db_79 hw hm
theorem fx_80 (hw : imgC w B n) (hm : imgM m B n) : FB n p w m x0 x1 x3 x4 x10 x11 x13 80 := by
  unfold FB
  rw [if_neg (by decide), if_neg (by decide), if_pos (by decide), if_pos (by decide), xwi_d2 rfl (by decide)]
  exact db_80 hw hm
theorem fx_81 (hw : imgC w B n) (hm : imgM m B n) : FB n p w m x0 x1 x3 x4 x10 x11 x13 81 := by
  unfold FB
  rw [if_neg (by decide), if_neg (by decide), if_pos (by decide), if_neg (by decide), xwi_d2 rfl (by decide)]
  exact db_81 hw hm
theorem fx_82 (hw : imgC w B n) (hm : imgM m B n) : FB n p w m x0 x1 x3 x4 x10 x11 x13 82 := by
  unfold FB
  rw [if_neg (by decide), if_neg (by decide), if_pos (by decide), if_pos (by decide), xwi_d2 rfl (by decide)]
  exact db_82 hw hm
theorem fx_83 (hw : imgC w B n) (hm : imgM m B n) : FB n p w m x0 x1 x3 x4 x10 x11 x13 83 := by
  unfold FB
  rw [if_neg (by decide), if_neg (by decide), if_pos (by decide), if_neg (by decide), xwi_d2 rfl (by decide)]
  exact db_83 hw hm
theorem fx_84 (hw : imgC w B n) (hm : imgM m B n) : FB n p w m x0 x1 x3 x4 x10 x11 x13 84 := by
  unfold FB
  rw [if_neg (by decide), if_neg (by decide), if_pos (by decide), if_pos (by decide), xwi_d2 rfl (by decide)]
  exact db_84 hw hm
theorem fx_85 (hw : imgC w B n) (hm : imgM m B n) : FB n p w m x0 x1 x3 x4 x10 x11 x13 85 := by
  unfold FB
  rw [if_neg (by decide), if_neg (by decide), if_pos (by decide), if_neg (by decide), xwi_d2 rfl (by decide)]
  exact db_85 hw hm
theorem fx_86 (hw : imgC w B n) (hm : imgM m B n) : FB n p w m x0 x1 x3 x4 x10 x11 x13 86 := by
  unfold FB
  rw [if_neg (by decide), if_neg (by decide), if_pos (by decide), if_pos (by decide), xwi_d2 rfl (by decide)]
  exact db_86 hw hm
theorem fx_87 (hw : imgC w B n) (hm : imgM m B n) : FB n p w m x0 x1 x3 x4 x10 x11 x13 87 := by
  unfold FB
  rw [if_neg (by decide), if_neg (by decide), if_pos (by decide), if_neg (by decide), xwi_d2 rfl (by decide)]
  exact db_87 hw hm
theorem fx_88 (hw : imgC w B n) (hm : imgM m B n) : FB n p w m x0 x1 x3 x4 x10 x11 x13 88 := by
  unfold FB
  rw [if_neg (by decide), if_neg (by decide), if_pos (by decide), if_pos (by decide), xwi_d2 rfl (by decide)]
  exact db_88 hw hm
theorem fx_89 (hw : imgC w B n) (hm : imgM m B n) : FB n p w m x0 x1 x3 x4 x10 x11 x13 89 := by
  unfold FB
  rw [if_neg (by decide), if_neg (by decide), if_pos (by decide), if_neg (by decide), xwi_d2 rfl (by decide)]
  exact db_89 hw hm
theorem fx_90 (hw : imgC w B n) (hm : imgM m B n) : FB n p w m x0 x1 x3 x4 x10 x11 x13 90 := by
  unfold FB
  rw [if_neg (by decide), if_neg (by decide), if_pos (by decide), if_pos (by decide), xwi_d2 rfl (by decide)]
  exact db_90 hw hm
theorem fx_91 (hw : imgC w B n) (hm : imgM m B n) : FB n p w m x0 x1 x3 x4 x10 x11 x13 91 := by
  unfold FB
  rw [if_neg (by decide), if_neg (by decide), if_pos (by decide), if_neg (by decide), xwi_d2 rfl (by decide)]
  exact db_91 hw hm
theorem fx_92 (hw : imgC w B n) (hm : imgM m B n) : FB n p w m x0 x1 x3 x4 x10 x11 x13 92 := by
  unfold FB
  rw [if_neg (by decide), if_neg (by decide), if_pos (by decide), if_pos (by decide), xwi_d2 rfl (by decide)]
  exact db_92 hw hm
theorem fx_93 (hw : imgC w B n) (hm : imgM m B n) : FB n p w m x0 x1 x3 x4 x10 x11 x13 93 := by
  unfold FB
  rw [if_neg (by decide), if_neg (by decide), if_pos (by decide), if_neg (by decide), xwi_d2 rfl (by decide)]
  exact db_93 hw hm
theorem fx_94 (hw : imgC w B n) (hm : imgM m B n) : FB n p w m x0 x1 x3 x4 x10 x11 x13 94 := by
  unfold FB
  rw [if_neg (by decide), if_neg (by decide), if_pos (by decide), if_pos (by decide), xwi_d2 rfl (by decide)]
  exact db_94 hw hm
theorem fx_95 (hw : imgC w B n) (hm : imgM m B n) : FB n p w m x0 x1 x3 x4 x10 x11 x13 95 := by
  unfold FB
  rw [if_neg (by decide), if_neg (by decide), if_pos (by decide), if_neg (by decide), xwi_d2 rfl (by decide)]
  exact db_95 hw hm
theorem fx_96 (hw : imgC w B n) (hm : imgM m B n) : FB n p w m x0 x1 x3 x4 x10 x11 x13 96 := by
  unfold FB
  rw [if_neg (by decide), if_neg (by decide), if_pos (by decide), if_pos (by decide), xwi_d2 rfl (by decide)]
  exact db_96 hw hm
theorem fx_97 (hw : imgC w B n) (hm : imgM m B n) : FB n p w m x0 x1 x3 x4 x10 x11 x13 97 := by
  unfold FB
  rw [if_neg (by decide), if_neg (by decide), if_pos (by decide), if_neg (by decide), xwi_d2 rfl (by decide)]
  exact db_97 hw hm
theorem fx_98 (hw : imgC w B n) (hm : imgM m B n) : FB n p w m x0 x1 x3 x4 x10 x11 x13 98 := by
  unfold FB
  rw [if_neg (by decide), if_neg (by decide), if_pos (by decide), if_pos (by decide), xwi_d2 rfl (by decide)]
  exact db_98 hw hm
theorem fx_99 (hw : imgC w B n) (hm : imgM m B n) : FB n p w m x0 x1 x3 x4 x10 x11 x13 99 := by
  unfold FB
  rw [if_neg (by decide), if_neg (by decide), if_pos (by decide), if_neg (by decide), xwi_d2 rfl (by decide)]
  exact db_99 hw hm
theorem fx_100 (hw : imgC w B n) (hm : imgM m B n) : FB n p w m x0 x1 x3 x4 x10 x11 x13 100 := by
  unfold FB
  rw [if_neg (by decide), if_neg (by decide), if_pos (by decide), if_pos (by decide), xwi_d2 rfl (by decide)]
  exact db_100 hw hm
theorem fx_101 (hw : imgC w B n) (hm : imgM m B n) : FB n p w m x0 x1 x3 x4 x10 x11 x13 101 := by
  unfold FB
  rw [if_neg (by decide), if_neg (by decide), if_pos (by decide), if_neg (by decide), xwi_d2 rfl (by decide)]
  exact db_101 hw hm
theorem fx_103 (hw : imgC w B n) (hm : imgM m B n) : FB n p w m x0 x1 x3 x4 x10 x11 x13 103 := by
  unfold FB
  rw [if_neg (by decide), if_neg (by decide), if_pos (by decide), if_neg (by decide), xwi_d2 rfl (by decide)]
  exact db_103 hw hm
theorem fx_104 (hw : imgC w B n) (hm : imgM m B n) : FB n p w m x0 x1 x3 x4 x10 x11 x13 104 := by
  unfold FB
  rw [if_neg (by decide), if_neg (by decide), if_pos (by decide), if_pos (by decide), xwi_d2 rfl (by decide)]
  exact db_104 hw hm
theorem fx_105 (hw : imgC w B n) (hm : imgM m B n) : FB n p w m x0 x1 x3 x4 x10 x11 x13 105 := by
  unfold FB
  rw [if_neg (by decide), if_neg (by decide), if_pos (by decide), if_neg (by decide), xwi_d2 rfl (by decide)]
  exact db_105 hw hm
theorem fx_106 (hw : imgC w B n) (hm : imgM m B n) : FB n p w m x0 x1 x3 x4 x10 x11 x13 106 := by
  unfold FB
  rw [if_neg (by decide), if_neg (by decide), if_pos (by decide), if_pos (by decide), xwi_d2 rfl (by decide)]
  exact db_106 hw hm
theorem fx_107 (hw : imgC w B n) (hm : imgM m B n) : FB n p w m x0 x1 x3 x4 x10 x11 x13 107 := by
  unfold FB
  rw [if_neg (by decide), if_neg (by decide), if_pos (by decide), if_neg (by decide), xwi_d2 rfl (by decide)]
  exact db_107 hw hm
theorem fx_108 (hw : imgC w B n) (hm : imgM m B n) : FB n p w m x0 x1 x3 x4 x10 x11 x13 108 := by
  unfold FB
  rw [if_neg (by decide), if_neg (by decide), if_pos (by decide), if_pos (by decide), xwi_d2 rfl (by decide)]
  exact db_108 hw hm
theorem fx_109 (hw : imgC w B n) (hm : imgM m B n) : FB n p w m x0 x1 x3 x4 x10 x11 x13 109 := by
  unfold FB
  rw [if_neg (by decide), if_neg (by decide), if_pos (by decide), if_neg (by decide), xwi_d2 rfl (by decide)]
  exact db_109 hw hm
theorem fx_110 (hw : imgC w B n) (hm : imgM m B n) : FB n p w m x0 x1 x3 x4 x10 x11 x13 110 := by
  unfold FB
  rw [if_neg (by decide), if_neg (by decide), if_pos (by decide), if_pos (by decide), xwi_d2 rfl (by decide)]
  exact db_110 hw hm
theorem fx_111 (hw : imgC w B n) (hm : imgM m B n) : FB n p w m x0 x1 x3 x4 x10 x11 x13 111 := by
  unfold FB
  rw [if_neg (by decide), if_neg (by decide), if_pos (by decide), if_neg (by decide), xwi_d2 rfl (by decide)]
  exact db_111 hw hm
theorem fx_112 (hw : imgC w B n) (hm : imgM m B n) : FB n p w m x0 x1 x3 x4 x10 x11 x13 112 := by
  unfold FB
  rw [if_neg (by decide), if_neg (by decide), if_pos (by decide), if_pos (by decide), xwi_d2 rfl (by decide)]
  exact db_112 hw hm
theorem fx_113 (hw : imgC w B n) (hm : imgM m B n) : FB n p w m x0 x1 x3 x4 x10 x11 x13 113 := by
  unfold FB
  rw [if_neg (by decide), if_neg (by decide), if_pos (by decide), if_neg (by decide), xwi_d2 rfl (by decide)]
  exact db_113 hw hm
theorem fx_114 (hw : imgC w B n) (hm : imgM m B n) : FB n p w m x0 x1 x3 x4 x10 x11 x13 114 := by
  unfold FB
  rw [if_neg (by decide), if_neg (by decide), if_pos (by decide), if_pos (by decide), xwi_d2 rfl (by decide)]
  exact db_114 hw hm
theorem fx_115 (hw : imgC w B n) (hm : imgM m B n) : FB n p w m x0 x1 x3 x4 x10 x11 x13 115 := by
  unfold FB
  rw [if_neg (by decide), if_neg (by decide), if_pos (by decide), if_neg (by decide), xwi_d2 rfl (by decide)]
  exact db_115 hw hm
theorem fx_116 (hw : imgC w B n) (hm : imgM m B n) : FB n p w m x0 x1 x3 x4 x10 x11 x13 116 := by
  unfold FB
  rw [if_neg (by decide), if_neg (by decide), if_pos (by decide), if_pos (by decide), xwi_d2 rfl (by decide)]
  exact db_116 hw hm
theorem fx_117 (hw : imgC w B n) (hm : imgM m B n) : FB n p w m x0 x1 x3 x4 x10 x11 x13 117 := by
  unfold FB
  rw [if_neg (by decide), if_neg (by decide), if_pos (by decide), if_neg (by decide), xwi_d2 rfl (by decide)]
  exact db_117 hw hm
theorem fx_118 (hw : imgC w B n) (hm : imgM m B n) : FB n p w m x0 x1 x3 x4 x10 x11 x13 118 := by
  unfold FB
  rw [if_neg (by decide), if_neg (by decide), if_pos (by decide), if_pos (by decide), xwi_d2 rfl (by decide)]
  exact db_118 hw hm
theorem fx_119 (hw : imgC w B n) (hm : imgM m B n) : FB n p w m x0 x1 x3 x4 x10 x11 x13 119 := by
  unfold FB
  rw [if_neg (by decide), if_neg (by decide), if_pos (by decide), if_neg (by decide), xwi_d2 rfl (by decide)]
  exact db_119 hw hm
theorem fx_120 (hw : imgC w B n) (hm : imgM m B n) : FB n p w m x0 x1 x3 x4 x10 x11 x13 120 := by
  unfold FB
  rw [if_neg (by decide), if_neg (by decide), if_pos (by decide), if_pos (by decide), xwi_d2 rfl (by decide)]
  exact db_120 hw hm
theorem fx_121 (hw : imgC w B n) (hm : imgM m B n) : FB n p w m x0 x1 x3 x4 x10 x11 x13 121 := by
  unfold FB
  rw [if_neg (by decide), if_neg (by decide), if_pos (by decide), if_neg (by decide), xwi_d2 rfl (by decide)]
  exact db_121 hw hm
theorem fx_122 (hw : imgC w B n) (hm : imgM m B n) : FB n p w m x0 x1 x3 x4 x10 x11 x13 122 := by
  unfold FB
  rw [if_neg (by decide), if_neg (by decide), if_pos (by decide), if_pos (by decide), xwi_d2 rfl (by decide)]
  exact db_122 hw hm
theorem fx_123 (hw : imgC w B n) (hm : imgM m B n) : FB n p w m x0 x1 x3 x4 x10 x11 x13 123 := by
  unfold FB
  rw [if_neg (by decide), if_neg (by decide), if_pos (by decide), if_neg (by decide), xwi_d2 rfl (by decide)]
  exact db_123 hw hm
theorem fx_124 (hw : imgC w B n) (hm : imgM m B n) : FB n p w m x0 x1 x3 x4 x10 x11 x13 124 := by
  unfold FB
  rw [if_neg (by decide), if_neg (by decide), if_pos (by decide), if_pos (by decide), xwi_d2 rfl (by decide)]
  exact db_124 hw hm
theorem fx_125 (hw : imgC w B n) (hm : imgM m B n) : FB n p w m x0 x1 x3 x4 x10 x11 x13 125 := by
  unfold FB
  rw [if_neg (by decide), if_neg (by decide), if_pos (by decide), if_neg (by decide), xwi_d2 rfl (by decide)]
  exact db_125 hw hm
theorem fx_126 (hw : imgC w B n) (hm : imgM m B n) : FB n p w m x0 x1 x3 x4 x10 x11 x13 126 := by
  unfold FB
  rw [if_neg (by decide), if_neg (by decide), if_pos (by decide), if_pos (by decide), xwi_d2 rfl (by decide)]
  exact db_126 hw hm
theorem fx_127 (hw : imgC w B n) (hm : imgM m B n) : FB n p w m x0 x1 x3 x4 x10 x11 x13 127 := by
  unfold FB
  rw [if_neg (by decide), if_neg (by decide), if_pos (by decide), if_neg (by decide), xwi_d2 rfl (by decide)]
  exact db_127 hw hm
theorem fx_128 (hw : imgC w B n) (hm : imgM m B n) : FB n p w m x0 x1 x3 x4 x10 x11 x13 128 := by
  unfold FB
  rw [if_neg (by decide), if_neg (by decide), if_neg (by decide), if_pos (by decide), if_pos (by decide), xwi_d2 rfl (by decide)]
  exact db_128 hw hm
theorem fx_129 (hw : imgC w B n) (hm : imgM m B n) : FB n p w m x0 x1 x3 x4 x10 x11 x13 129 := by
  unfold FB
  rw [if_neg (by decide), if_neg (by decide), if_neg (by decide), if_neg (by decide), if_neg (by decide), xwi_d2 rfl (by decide)]
  exact db_129 hw hm
theorem fx_130 (hw : imgC w B n) (hm : imgM m B n) : FB n p w m x0 x1 x3 x4 x10 x11 x13 130 := by
  unfold FB
  rw [if_neg (by decide), if_neg (by decide), if_neg (by decide), if_pos (by decide), if_pos (by decide), xwi_d2 rfl (by decide)]
  exact db_130 hw hm
theorem fx_131 (hw : imgC w B n) (hm : imgM m B n) : FB n p w m x0 x1 x3 x4 x10 x11 x13 131 := by
  unfold FB
  rw [if_neg (by decide), if_neg (by decide), if_neg (by decide), if_neg (by decide), if_neg (by decide), xwi_d2 rfl (by decide)]
  exact db_131 hw hm
theorem fx_132 (hw : imgC w B n) (hm : imgM m B n) : FB n p w m x0 x1 x3 x4 x10 x11 x13 132 := by
  unfold FB
  rw [if_neg (by decide), if_neg (by decide), if_neg (by decide), if_pos (by decide), if_pos (by decide), xwi_d2 rfl (by decide)]
  exact db_132 hw hm
theorem fx_133 (hw : imgC w B n) (hm : imgM m B n) : FB n p w m x0 x1 x3 x4 x10 x11 x13 133 := by
  unfold FB
  rw [if_neg (by decide), if_neg (by decide), if_neg (by decide), if_neg (by decide), if_neg (by decide), xwi_d2 rfl (by decide)]
  exact db_133 hw hm
theorem fx_134 (hw : imgC w B n) (hm : imgM m B n) : FB n p w m x0 x1 x3 x4 x10 x11 x13 134 := by
  unfold FB
  rw [if_neg (by decide), if_neg (by decide), if_neg (by decide), if_pos (by decide), if_pos (by decide), xwi_d2 rfl (by decide)]
  exact db_134 hw hm
theorem fx_135 (hw : imgC w B n) (hm : imgM m B n) : FB n p w m x0 x1 x3 x4 x10 x11 x13 135 := by
  unfold FB
  rw [if_neg (by decide), if_neg (by decide), if_neg (by decide), if_neg (by decide), if_neg (by decide), xwi_d2 rfl (by decide)]
  exact db_135 hw hm
theorem fx_136 (hw : imgC w B n) (hm : imgM m B n) : FB n p w m x0 x1 x3 x4 x10 x11 x13 136 := by
  unfold FB
  rw [if_neg (by decide), if_neg (by decide), if_neg (by decide), if_pos (by decide), if_pos (by decide), xwi_d2 rfl (by decide)]
  exact db_136 hw hm
theorem fx_137 (hw : imgC w B n) (hm : imgM m B n) : FB n p w m x0 x1 x3 x4 x10 x11 x13 137 := by
  unfold FB
  rw [if_neg (by decide), if_neg (by decide), if_neg (by decide), if_neg (by decide), if_neg (by decide), xwi_d2 rfl (by decide)]
  exact db_137 hw hm
theorem fx_138 (hw : imgC w B n) (hm : imgM m B n) : FB n p w m x0 x1 x3 x4 x10 x11 x13 138 := by
  unfold FB
  rw [if_neg (by decide), if_neg (by decide), if_neg (by decide), if_pos (by decide), if_pos (by decide), xwi_d2 rfl (by decide)]
  exact db_138 hw hm
theorem fx_139 (hw : imgC w B n) (hm : imgM m B n) : FB n p w m x0 x1 x3 x4 x10 x11 x13 139 := by
  unfold FB
  rw [if_neg (by decide), if_neg (by decide), if_neg (by decide), if_neg (by decide), if_neg (by decide), xwi_d2 rfl (by decide)]
  exact db_139 hw hm
theorem fx_140 (hw : imgC w B n) (hm : imgM m B n) : FB n p w m x0 x1 x3 x4 x10 x11 x13 140 := by
  unfold FB
  rw [if_neg (by decide), if_neg (by decide), if_neg (by decide), if_pos (by decide), if_pos (by decide), xwi_d2 rfl (by decide)]
  exact db_140 hw hm
theorem fx_141 (hw : imgC w B n) (hm : imgM m B n) : FB n p w m x0 x1 x3 x4 x10 x11 x13 141 := by
  unfold FB
  rw [if_neg (by decide), if_neg (by decide), if_neg (by decide), if_neg (by decide), if_neg (by decide), xwi_d2 rfl (by decide)]
  exact db_141 hw hm
theorem fx_142 (hw : imgC w B n) (hm : imgM m B n) : FB n p w m x0 x1 x3 x4 x10 x11 x13 142 := by
  unfold FB
  rw [if_neg (by decide), if_neg (by decide), if_neg (by decide), if_pos (by decide), if_pos (by decide), xwi_d2 rfl (by decide)]
  exact db_142 hw hm
theorem fx_143 (hw : imgC w B n) (hm : imgM m B n) : FB n p w m x0 x1 x3 x4 x10 x11 x13 143 := by
  unfold FB
  rw [if_neg (by decide), if_neg (by decide), if_neg (by decide), if_neg (by decide), if_neg (by decide), xwi_d2 rfl (by decide)]
  exact db_143 hw hm
theorem fx_144 (hw : imgC w B n) (hm : imgM m B n) : FB n p w m x0 x1 x3 x4 x10 x11 x13 144 := by
  unfold FB
  rw [if_neg (by decide), if_neg (by decide), if_neg (by decide), if_pos (by decide), if_pos (by decide), xwi_d2 rfl (by decide)]
  exact db_144 hw hm
theorem fx_145 (hw : imgC w B n) (hm : imgM m B n) : FB n p w m x0 x1 x3 x4 x10 x11 x13 145 := by
  unfold FB
  rw [if_neg (by decide), if_neg (by decide), if_neg (by decide), if_neg (by decide), if_neg (by decide), xwi_d2 rfl (by decide)]
  exact db_145 hw hm
theorem fx_146 (hw : imgC w B n) (hm : imgM m B n) : FB n p w m x0 x1 x3 x4 x10 x11 x13 146 := by
  unfold FB
  rw [if_neg (by decide), if_neg (by decide), if_neg (by decide), if_pos (by decide), if_pos (by decide), xwi_d2 rfl (by decide)]
  exact db_146 hw hm
theorem fx_147 (hw : imgC w B n) (hm : imgM m B n) : FB n p w m x0 x1 x3 x4 x10 x11 x13 147 := by
  unfold FB
  rw [if_neg (by decide), if_neg (by decide), if_neg (by decide), if_neg (by decide), if_neg (by decide), xwi_d2 rfl (by decide)]
  exact db_147 hw hm
theorem fx_148 (hw : imgC w B n) (hm : imgM m B n) : FB n p w m x0 x1 x3 x4 x10 x11 x13 148 := by
  unfold FB
  rw [if_neg (by decide), if_neg (by decide), if_neg (by decide), if_pos (by decide), if_pos (by decide), xwi_d2 rfl (by decide)]
  exact db_148 hw hm
theorem fx_149 (hw : imgC w B n) (hm : imgM m B n) : FB n p w m x0 x1 x3 x4 x10 x11 x13 149 := by
  unfold FB
  rw [if_neg (by decide), if_neg (by decide), if_neg (by decide), if_neg (by decide), if_neg (by decide), xwi_d2 rfl (by decide)]
  exact db_149 hw hm
theorem fx_150 (hw : imgC w B n) (hm : imgM m B n) : FB n p w m x0 x1 x3 x4 x10 x11 x13 150 := by
  unfold FB
  rw [if_neg (by decide), if_neg (by decide), if_neg (by decide), if_pos (by decide), if_pos (by decide), xwi_d2 rfl (by decide)]
  exact db_150 hw hm
theorem fx_151 (hw : imgC w B n) (hm : imgM m B n) : FB n p w m x0 x1 x3 x4 x10 x11 x13 151 := by
  unfold FB
  rw [if_neg (by decide), if_neg (by decide), if_neg (by decide), if_neg (by decide), if_neg (by decide), xwi_d2 rfl (by decide)]
  exact db_151 hw hm
theorem fx_152 (hw : imgC w B n) (hm : imgM m B n) : FB n p w m x0 x1 x3 x4 x10 x11 x13 152 := by
  unfold FB
  rw [if_neg (by decide), if_neg (by decide), if_neg (by decide), if_pos (by decide), if_pos (by decide), xwi_d2 rfl (by decide)]
  exact db_152 hw hm
theorem fx_153 (hw : imgC w B n) (hm : imgM m B n) : FB n p w m x0 x1 x3 x4 x10 x11 x13 153 := by
  unfold FB
  rw [if_neg (by decide), if_neg (by decide), if_neg (by decide), if_neg (by decide), if_neg (by decide), xwi_d2 rfl (by decide)]
  exact db_153 hw hm
theorem fx_154 (hw : imgC w B n) (hm : imgM m B n) : FB n p w m x0 x1 x3 x4 x10 x11 x13 154 := by
  unfold FB
  rw [if_neg (by decide), if_neg (by decide), if_neg (by decide), if_pos (by decide), if_pos (by decide), xwi_d2 rfl (by decide)]
  exact db_154 hw hm
theorem fx_155 (hw : imgC w B n) (hm : imgM m B n) : FB n p w m x0 x1 x3 x4 x10 x11 x13 155 := by
  unfold FB
  rw [if_neg (by decide), if_neg (by decide), if_neg (by decide), if_neg (by decide), if_neg (by decide), xwi_d2 rfl (by decide)]
  exact db_155 hw hm
theorem fx_156 (hw : imgC w B n) (hm : imgM m B n) : FB n p w m x0 x1 x3 x4 x10 x11 x13 156 := by
  unfold FB
  rw [if_neg (by decide), if_neg (by decide), if_neg (by decide), if_pos (by decide), if_pos (by decide), xwi_d2 rfl (by decide)]
  exact db_156 hw hm
theorem fx_157 (hw : imgC w B n) (hm : imgM m B n) : FB n p w m x0 x1 x3 x4 x10 x11 x13 157 := by
  unfold FB
  rw [if_neg (by decide), if_neg (by decide), if_neg (by decide), if_neg (by decide), if_neg (by decide), xwi_d2 rfl (by decide)]
  exact db_157 hw hm
theorem fx_158 (hw : imgC w B n) (hm : imgM m B n) : FB n p w m x0 x1 x3 x4 x10 x11 x13 158 := by
  unfold FB
  rw [if_neg (by decide), if_neg (by decide), if_neg (by decide), if_pos (by decide), if_pos (by decide), xwi_d2 rfl (by decide)]
  exact db_158 hw hm
theorem fx_159 (hw : imgC w B n) (hm : imgM m B n) : FB n p w m x0 x1 x3 x4 x10 x11 x13 159 := by
  unfold FB
  rw [if_neg (by decide), if_neg (by decide), if_neg (by decide), if_neg (by decide), if_neg (by decide), xwi_d2 rfl (by decide)]
  exact db_159 hw hm
theorem fx_160 (hw : imgC w B n) (hm : imgM m B n) : FB n p w m x0 x1 x3 x4 x10 x11 x13 160 := by
  unfold FB
  rw [if_neg (by decide), if_neg (by decide), if_neg (by decide), if_pos (by decide), if_pos (by decide), xwi_d2 rfl (by decide)]
  exact db_160 hw hm
theorem fx_161 (hw : imgC w B n) (hm : imgM m B n) : FB n p w m x0 x1 x3 x4 x10 x11 x13 161 := by
  unfold FB
  rw [if_neg (by decide), if_neg (by decide), if_neg (by decide), if_neg (by decide), if_neg (by decide), xwi_d2 rfl (by decide)]
  exact db_161 hw hm
theorem fx_162 (hw : imgC w B n) (hm : imgM m B n) : FB n p w m x0 x1 x3 x4 x10 x11 x13 162 := by
  unfold FB
  rw [if_neg (by decide), if_neg (by decide), if_neg (by decide), if_pos (by decide), if_pos (by decide), xwi_d2 rfl (by decide)]
  exact db_162 hw hm
theorem fx_163 (hw : imgC w B n) (hm : imgM m B n) : FB n p w m x0 x1 x3 x4 x10 x11 x13 163 := by
  unfold FB
  rw [if_neg (by decide), if_neg (by decide), if_neg (by decide), if_neg (by decide), if_neg (by decide), xwi_d2 rfl (by decide)]
  exact db_163 hw hm
theorem fx_164 (hw : imgC w B n) (hm : imgM m B n) : FB n p w m x0 x1 x3 x4 x10 x11 x13 164 := by
  unfold FB
  rw [if_neg (by decide), if_neg (by decide), if_neg (by decide), if_pos (by decide), if_pos (by decide), xwi_d2 rfl (by decide)]
  exact db_164 hw hm
theorem fx_165 (hw : imgC w B n) (hm : imgM m B n) : FB n p w m x0 x1 x3 x4 x10 x11 x13 165 := by
  unfold FB
  rw [if_neg (by decide), if_neg (by decide), if_neg (by decide), if_neg (by decide), if_neg (by decide), xwi_d2 rfl (by decide)]
  exact db_165 hw hm
theorem fx_166 (hw : imgC w B n) (hm : imgM m B n) : FB n p w m x0 x1 x3 x4 x10 x11 x13 166 := by
  unfold FB
  rw [if_neg (by decide), if_neg (by decide), if_neg (by decide), if_pos (by decide), if_pos (by decide), xwi_d2 rfl (by decide)]
  exact db_166 hw hm
theorem fx_167 (hw : imgC w B n) (hm : imgM m B n) : FB n p w m x0 x1 x3 x4 x10 x11 x13 167 := by
  unfold FB
  rw [if_neg (by decide), if_neg (by decide), if_neg (by decide), if_neg (by decide), if_neg (by decide), xwi_d2 rfl (by decide)]
  exact db_167 hw hm
theorem fx_168 (hw : imgC w B n) (hm : imgM m B n) : FB n p w m x0 x1 x3 x4 x10 x11 x13 168 := by
  unfold FB
  rw [if_neg (by decide), if_neg (by decide), if_neg (by decide), if_pos (by decide), if_pos (by decide), xwi_d2 rfl (by decide)]
  exact db_168 hw hm
theorem fx_169 (hw : imgC w B n) (hm : imgM m B n) : FB n p w m x0 x1 x3 x4 x10 x11 x13 169 := by
  unfold FB
  rw [if_neg (by decide), if_neg (by decide), if_neg (by decide), if_neg (by decide), if_neg (by decide), xwi_d2 rfl (by decide)]
  exact db_169 hw hm
theorem fx_170 (hw : imgC w B n) (hm : imgM m B n) : FB n p w m x0 x1 x3 x4 x10 x11 x13 170 := by
  unfold FB
  rw [if_neg (by decide), if_neg (by decide), if_neg (by decide), if_pos (by decide), if_pos (by decide), xwi_d2 rfl (by decide)]
  exact db_170 hw hm
theorem fx_171 (hw : imgC w B n) (hm : imgM m B n) : FB n p w m x0 x1 x3 x4 x10 x11 x13 171 := by
  unfold FB
  rw [if_neg (by decide), if_neg (by decide), if_neg (by decide), if_neg (by decide), if_neg (by decide), xwi_d2 rfl (by decide)]
  exact db_171 hw hm
theorem fx_172 (hw : imgC w B n) (hm : imgM m B n) : FB n p w m x0 x1 x3 x4 x10 x11 x13 172 := by
  unfold FB
  rw [if_neg (by decide), if_neg (by decide), if_neg (by decide), if_pos (by decide), if_pos (by decide), xwi_d2 rfl (by decide)]
  exact db_172 hw hm
theorem fx_173 (hw : imgC w B n) (hm : imgM m B n) : FB n p w m x0 x1 x3 x4 x10 x11 x13 173 := by
  unfold FB
  rw [if_neg (by decide), if_neg (by decide), if_neg (by decide), if_neg (by decide), if_neg (by decide), xwi_d2 rfl (by decide)]
  exact db_173 hw hm
theorem fx_174 (hw : imgC w B n) (hm : imgM m B n) : FB n p w m x0 x1 x3 x4 x10 x11 x13 174 := by
  unfold FB
  rw [if_neg (by decide), if_neg (by decide), if_neg (by decide), if_pos (by decide), if_pos (by decide), xwi_d2 rfl (by decide)]
  exact db_174 hw hm
theorem fx_175 (hw : imgC w B n) (hm : imgM m B n) : FB n p w m x0 x1 x3 x4 x10 x11 x13 175 := by
  unfold FB
  rw [if_neg (by decide), if_neg (by decide), if_neg (by decide), if_neg (by decide), if_neg (by decide), xwi_d2 rfl (by decide)]
  exact db_175 hw hm
theorem fx_176 (hw : imgC w B n) (hm : imgM m B n) : FB n p w m x0 x1 x3 x4 x10 x11 x13 176 := by
  unfold FB
  rw [if_neg (by decide), if_neg (by decide), if_neg (by decide), if_pos (by decide), if_pos (by decide), xwi_d2 rfl (by decide)]
  exact db_176 hw hm
theorem fx_177 (hw : imgC w B n) (hm : imgM m B n) : FB n p w m x0 x1 x3 x4 x10 x11 x13 177 := by
  unfold FB
  rw [if_neg (by decide), if_neg (by decide), if_neg (by decide), if_neg (by decide), if_neg (by decide), xwi_d2 rfl (by decide)]
  exact db_177 hw hm
theorem fx_178 (hw : imgC w B n) (hm : imgM m B n) : FB n p w m x0 x1 x3 x4 x10 x11 x13 178 := by
  unfold FB
  rw [if_neg (by decide), if_neg (by decide), if_neg (by decide), if_pos (by decide), if_pos (by decide), xwi_d2 rfl (by decide)]
  exact db_178 hw hm
theorem fx_179 (hw : imgC w B n) (hm : imgM m B n) : FB n p w m x0 x1 x3 x4 x10 x11 x13 179 := by
  unfold FB
  rw [if_neg (by decide), if_neg (by decide), if_neg (by decide), if_neg (by decide), if_neg (by decide), xwi_d2 rfl (by decide)]
  exact db_179 hw hm
theorem fx_180 (hw : imgC w B n) (hm : imgM m B n) : FB n p w m x0 x1 x3 x4 x10 x11 x13 180 := by
  unfold FB
  rw [if_neg (by decide), if_neg (by decide), if_neg (by decide), if_pos (by decide), if_pos (by decide), xwi_d2 rfl (by decide)]
  exact db_180 hw hm
theorem fx_181 (hw : imgC w B n) (hm : imgM m B n) : FB n p w m x0 x1 x3 x4 x10 x11 x13 181 := by
  unfold FB
  rw [if_neg (by decide), if_neg (by decide), if_neg (by decide), if_neg (by decide), if_neg (by decide), xwi_d2 rfl (by decide)]
  exact db_181 hw hm
theorem fx_182 (hw : imgC w B n) (hm : imgM m B n) : FB n p w m x0 x1 x3 x4 x10 x11 x13 182 := by
  unfold FB
  rw [if_neg (by decide), if_neg (by decide), if_neg (by decide), if_pos (by decide), if_pos (by decide), xwi_d2 rfl (by decide)]
  exact db_182 hw hm
theorem fx_183 (hw : imgC w B n) (hm : imgM m B n) : FB n p w m x0 x1 x3 x4 x10 x11 x13 183 := by
  unfold FB
  rw [if_neg (by decide), if_neg (by decide), if_neg (by decide), if_neg (by decide), if_neg (by decide), xwi_d2 rfl (by decide)]
  exact db_183 hw hm
theorem fx_184 (hw : imgC w B n) (hm : imgM m B n) : FB n p w m x0 x1 x3 x4 x10 x11 x13 184 := by
  unfold FB
  rw [if_neg (by decide), if_neg (by decide), if_neg (by decide), if_pos (by decide), if_pos (by decide), xwi_d2 rfl (by decide)]
  exact db_184 hw hm
theorem fx_185 (hw : imgC w B n) (hm : imgM m B n) : FB n p w m x0 x1 x3 x4 x10 x11 x13 185 := by
  unfold FB
  rw [if_neg (by decide), if_neg (by decide), if_neg (by decide), if_neg (by decide), if_neg (by decide), xwi_d2 rfl (by decide)]
  exact db_185 hw hm
theorem fx_186 (hw : imgC w B n) (hm : imgM m B n) : FB n p w m x0 x1 x3 x4 x10 x11 x13 186 := by
  unfold FB
  rw [if_neg (by decide), if_neg (by decide), if_neg (by decide), if_pos (by decide), if_pos (by decide), xwi_d2 rfl (by decide)]
  exact db_186 hw hm
theorem fx_187 (hw : imgC w B n) (hm : imgM m B n) : FB n p w m x0 x1 x3 x4 x10 x11 x13 187 := by
  unfold FB
  rw [if_neg (by decide), if_neg (by decide), if_neg (by decide), if_neg (by decide), if_neg (by decide), xwi_d2 rfl (by decide)]
  exact db_187 hw hm
theorem fx_188 (hw : imgC w B n) (hm : imgM m B n) : FB n p w m x0 x1 x3 x4 x10 x11 x13 188 := by
  unfold FB
  rw [if_neg (by decide), if_neg (by decide), if_neg (by decide), if_pos (by decide), if_pos (by decide), xwi_d2 rfl (by decide)]
  exact db_188 hw hm
theorem fx_189 (hw : imgC w B n) (hm : imgM m B n) : FB n p w m x0 x1 x3 x4 x10 x11 x13 189 := by
  unfold FB
  rw [if_neg (by decide), if_neg (by decide), if_neg (by decide), if_neg (by decide), if_neg (by decide), xwi_d2 rfl (by decide)]
  exact db_189 hw hm
theorem fx_190 (hw : imgC w B n) (hm : imgM m B n) : FB n p w m x0 x1 x3 x4 x10 x11 x13 190 := by
  unfold FB
  rw [if_neg (by decide), if_neg (by decide), if_neg (by decide), if_pos (by decide), if_pos (by decide), xwi_d2 rfl (by decide)]
  exact db_190 hw hm
theorem fx_191 (hw : imgC w B n) (hm : imgM m B n) : FB n p w m x0 x1 x3 x4 x10 x11 x13 191 := by
  unfold FB
  rw [if_neg (by decide), if_neg (by decide), if_neg (by decide), if_neg (by decide), if_neg (by decide), xwi_d2 rfl (by decide)]
  exact db_191 hw hm
theorem fx_192 (hw : imgC w B n) (hm : imgM m B n) : FB n p w m x0 x1 x3 x4 x10 x11 x13 192 := by
  unfold FB
  rw [if_neg (by decide), if_neg (by decide), if_neg (by decide), if_pos (by decide), if_pos (by decide), xwi_d2 rfl (by decide)]
  exact db_192 hw hm
theorem fx_193 (hw : imgC w B n) (hm : imgM m B n) : FB n p w m x0 x1 x3 x4 x10 x11 x13 193 := by
  unfold FB
  rw [if_neg (by decide), if_neg (by decide), if_neg (by decide), if_neg (by decide), if_neg (by decide), xwi_d2 rfl (by decide)]
  exact db_193 hw hm
theorem fx_194 (hw : imgC w B n) (hm : imgM m B n) : FB n p w m x0 x1 x3 x4 x10 x11 x13 194 := by
  unfold FB
  rw [if_neg (by decide), if_neg (by decide), if_neg (by decide), if_pos (by decide), if_pos (by decide), xwi_d2 rfl (by decide)]
  exact db_194 hw hm
theorem fx_195 (hw : imgC w B n) (hm : imgM m B n) : FB n p w m x0 x1 x3 x4 x10 x11 x13 195 := by
  unfold FB
  rw [if_neg (by decide), if_neg (by decide), if_neg (by decide), if_neg (by decide), if_neg (by decide), xwi_d2 rfl (by decide)]
  exact db_195 hw hm
theorem fx_196 (hw : imgC w B n) (hm : imgM m B n) : FB n p w m x0 x1 x3 x4 x10 x11 x13 196 := by
  unfold FB
  rw [if_neg (by decide), if_neg (by decide), if_neg (by decide), if_pos (by decide), if_pos (by decide), xwi_d2 rfl (by decide)]
  exact db_196 hw hm
theorem fx_197 (hw : imgC w B n) (hm : imgM m B n) : FB n p w m x0 x1 x3 x4 x10 x11 x13 197 := by
  unfold FB
  rw [if_neg (by decide), if_neg (by decide), if_neg (by decide), if_neg (by decide), if_neg (by decide), xwi_d2 rfl (by decide)]
  exact db_197 hw hm
theorem fx_198 (hw : imgC w B n) (hm : imgM m B n) : FB n p w m x0 x1 x3 x4 x10 x11 x13 198 := by
  unfold FB
  rw [if_neg (by decide), if_neg (by decide), if_neg (by decide), if_pos (by decide), if_pos (by decide), xwi_d2 rfl (by decide)]
  exact db_198 hw hm
theorem fx_199 (hw : imgC w B n) (hm : imgM m B n) : FB n p w m x0 x1 x3 x4 x10 x11 x13 199 := by
  unfold FB
  rw [if_neg (by decide), if_neg (by decide), if_neg (by decide), if_neg (by decide), if_neg (by decide), xwi_d2 rfl (by decide)]
  exact db_199 hw hm
theorem fx_200 (hw : imgC w B n) (hm : imgM m B n) : FB n p w m x0 x1 x3 x4 x10 x11 x13 200 := by
  unfold FB
  rw [if_neg (by decide), if_neg (by decide), if_neg (by decide), if_pos (by decide), if_pos (by decide), xwi_d2 rfl (by decide)]
  exact db_200 hw hm
theorem fx_201 (hw : imgC w B n) (hm : imgM m B n) : FB n p w m x0 x1 x3 x4 x10 x11 x13 201 := by
  unfold FB
  rw [if_neg (by decide), if_neg (by decide), if_neg (by decide), if_neg (by decide), if_neg (by decide), xwi_d2 rfl (by decide)]
  exact db_201 hw hm
theorem fx_202 (hw : imgC w B n) (hm : imgM m B n) : FB n p w m x0 x1 x3 x4 x10 x11 x13 202 := by
  unfold FB
  rw [if_neg (by decide), if_neg (by decide), if_neg (by decide), if_pos (by decide), if_pos (by decide), xwi_d2 rfl (by decide)]
  exact db_202 hw hm
theorem fx_203 (hw : imgC w B n) (hm : imgM m B n) : FB n p w m x0 x1 x3 x4 x10 x11 x13 203 := by
  unfold FB
  rw [if_neg (by decide), if_neg (by decide), if_neg (by decide), if_neg (by decide), if_neg (by decide), xwi_d2 rfl (by decide)]
  exact db_203 hw hm
theorem fx_204 (hw : imgC w B n) (hm : imgM m B n) : FB n p w m x0 x1 x3 x4 x10 x11 x13 204 := by
  unfold FB
  rw [if_neg (by decide), if_neg (by decide), if_neg (by decide), if_pos (by decide), if_pos (by decide), xwi_d2 rfl (by decide)]
  exact db_204 hw hm
theorem fx_205 (hw : imgC w B n) (hm : imgM m B n) : FB n p w m x0 x1 x3 x4 x10 x11 x13 205 := by
  unfold FB
  rw [if_neg (by decide), if_neg (by decide), if_neg (by decide), if_neg (by decide), if_neg (by decide), xwi_d2 rfl (by decide)]
  exact db_205 hw hm
theorem fx_206 (hw : imgC w B n) (hm : imgM m B n) : FB n p w m x0 x1 x3 x4 x10 x11 x13 206 := by
  unfold FB
  rw [if_neg (by decide), if_neg (by decide), if_neg (by decide), if_pos (by decide), if_pos (by decide), xwi_d2 rfl (by decide)]
  exact db_206 hw hm
theorem fx_207 (hw : imgC w B n) (hm : imgM m B n) : FB n p w m x0 x1 x3 x4 x10 x11 x13 207 := by
  unfold FB
  rw [if_neg (by decide), if_neg (by decide), if_neg (by decide), if_neg (by decide), if_neg (by decide), xwi_d2 rfl (by decide)]
  exact db_207 hw hm
theorem fx_208 (hw : imgC w B n) (hm : imgM m B n) : FB n p w m x0 x1 x3 x4 x10 x11 x13 208 := by
  unfold FB
  rw [if_neg (by decide), if_neg (by decide), if_neg (by decide), if_pos (by decide), if_pos (by decide), xwi_d2 rfl (by decide)]
  exact db_208 hw hm
theorem fx_209 (hw : imgC w B n) (hm : imgM m B n) : FB n p w m x0 x1 x3 x4 x10 x11 x13 209 := by
  unfold FB
  rw [if_neg (by decide), if_neg (by decide), if_neg (by decide), if_neg (by decide), if_neg (by decide), xwi_d2 rfl (by decide)]
  exact db_209 hw hm
theorem fx_210 (hw : imgC w B n) (hm : imgM m B n) : FB n p w m x0 x1 x3 x4 x10 x11 x13 210 := by
  unfold FB
  rw [if_neg (by decide), if_neg (by decide), if_neg (by decide), if_pos (by decide), if_pos (by decide), xwi_d2 rfl (by decide)]
  exact db_210 hw hm
theorem fx_211 (hw : imgC w B n) (hm : imgM m B n) : FB n p w m x0 x1 x3 x4 x10 x11 x13 211 := by
  unfold FB
  rw [if_neg (by decide), if_neg (by decide), if_neg (by decide), if_neg (by decide), if_neg (by decide), xwi_d2 rfl (by decide)]
  exact db_211 hw hm
theorem fx_212 (hw : imgC w B n) (hm : imgM m B n) : FB n p w m x0 x1 x3 x4 x10 x11 x13 212 := by
  unfold FB
  rw [if_neg (by decide), if_neg (by decide), if_neg (by decide), if_pos (by decide), if_pos (by decide), xwi_d2 rfl (by decide)]
  exact db_212 hw hm
theorem fx_213 (hw : imgC w B n) (hm : imgM m B n) : FB n p w m x0 x1 x3 x4 x10 x11 x13 213 := by
  unfold FB
  rw [if_neg (by decide), if_neg (by decide), if_neg (by decide), if_neg (by decide), if_neg (by decide), xwi_d2 rfl (by decide)]
  exact db_213 hw hm
theorem fx_214 (hw : imgC w B n) (hm : imgM m B n) : FB n p w m x0 x1 x3 x4 x10 x11 x13 214 := by
  unfold FB
  rw [if_neg (by decide), if_neg (by decide), if_neg (by decide), if_pos (by decide), if_pos (by decide), xwi_d2 rfl (by decide)]
  exact db_214 hw hm
theorem fx_215 (hw : imgC w B n) (hm : imgM m B n) : FB n p w m x0 x1 x3 x4 x10 x11 x13 215 := by
  unfold FB
  rw [if_neg (by decide), if_neg (by decide), if_neg (by decide), if_neg (by decide), if_neg (by decide), xwi_d2 rfl (by decide)]
  exact db_215 hw hm
theorem fx_216 (hw : imgC w B n) (hm : imgM m B n) : FB n p w m x0 x1 x3 x4 x10 x11 x13 216 := by
  unfold FB
  rw [if_neg (by decide), if_neg (by decide), if_neg (by decide), if_pos (by decide), if_pos (by decide), xwi_d2 rfl (by decide)]
  exact db_216 hw hm
theorem fx_217 (hw : imgC w B n) (hm : imgM m B n) : FB n p w m x0 x1 x3 x4 x10 x11 x13 217 := by
  unfold FB
  rw [if_neg (by decide), if_neg (by decide), if_neg (by decide), if_neg (by decide), if_neg (by decide), xwi_d2 rfl (by decide)]
  exact db_217 hw hm
theorem fx_218 (hw : imgC w B n) (hm : imgM m B n) : FB n p w m x0 x1 x3 x4 x10 x11 x13 218 := by
  unfold FB
  rw [if_neg (by decide), if_neg (by decide), if_neg (by decide), if_pos (by decide), if_pos (by decide), xwi_d2 rfl (by decide)]
  exact db_218 hw hm
theorem fx_219 (hw : imgC w B n) (hm : imgM m B n) : FB n p w m x0 x1 x3 x4 x10 x11 x13 219 := by
  unfold FB
  rw [if_neg (by decide), if_neg (by decide), if_neg (by decide), if_neg (by decide), if_neg (by decide), xwi_d2 rfl (by decide)]
  exact db_219 hw hm
theorem fx_220 (hw : imgC w B n) (hm : imgM m B n) : FB n p w m x0 x1 x3 x4 x10 x11 x13 220 := by
  unfold FB
  rw [if_neg (by decide), if_neg (by decide), if_neg (by decide), if_pos (by decide), if_pos (by decide), xwi_d2 rfl (by decide)]
  exact db_220 hw hm
theorem fx_221 (hw : imgC w B n) (hm : imgM m B n) : FB n p w m x0 x1 x3 x4 x10 x11 x13 221 := by
  unfold FB
  rw [if_neg (by decide), if_neg (by decide), if_neg (by decide), if_neg (by decide), if_neg (by decide), xwi_d2 rfl (by decide)]
  exact db_221 hw hm
theorem fx_222 (hw : imgC w B n) (hm : imgM m B n) : FB n p w m x0 x1 x3 x4 x10 x11 x13 222 := by
  unfold FB
  rw [if_neg (by decide), if_neg (by decide), if_neg (by decide), if_pos (by decide), if_pos (by decide), xwi_d2 rfl (by decide)]
  exact db_222 hw hm
theorem fx_223 (hw : imgC w B n) (hm : imgM m B n) : FB n p w m x0 x1 x3 x4 x10 x11 x13 223 := by
  unfold FB
  rw [if_neg (by decide), if_neg (by decide), if_neg (by decide), if_neg (by decide), if_neg (by decide), xwi_d2 rfl (by decide)]
  exact db_223 hw hm
theorem fx_224 (hw : imgC w B n) (hm : imgM m B n) : FB n p w m x0 x1 x3 x4 x10 x11 x13 224 := by
  unfold FB
  rw [if_neg (by decide), if_neg (by decide), if_neg (by decide), if_pos (by decide), if_pos (by decide), xwi_d2 rfl (by decide)]
  exact db_224 hw hm
theorem fx_225 (hw : imgC w B n) (hm : imgM m B n) : FB n p w m x0 x1 x3 x4 x10 x11 x13 225 := by
  unfold FB
  rw [if_neg (by decide), if_neg (by decide), if_neg (by decide), if_neg (by decide), if_neg (by decide), xwi_d2 rfl (by decide)]
  exact db_225 hw hm
theorem fx_226 (hw : imgC w B n) (hm : imgM m B n) : FB n p w m x0 x1 x3 x4 x10 x11 x13 226 := by
  unfold FB
  rw [if_neg (by decide), if_neg (by decide), if_neg (by decide), if_pos (by decide), if_pos (by decide), xwi_d2 rfl (by decide)]
  exact db_226 hw hm
theorem fx_227 (hw : imgC w B n) (hm : imgM m B n) : FB n p w m x0 x1 x3 x4 x10 x11 x13 227 := by
  unfold FB
  rw [if_neg (by decide), if_neg (by decide), if_neg (by decide), if_neg (by decide), if_neg (by decide), xwi_d2 rfl (by decide)]
  exact db_227 hw hm
theorem fx_228 (hw : imgC w B n) (hm : imgM m B n) : FB n p w m x0 x1 x3 x4 x10 x11 x13 228 := by
  unfold FB
  rw [if_neg (by decide), if_neg (by decide), if_neg (by decide), if_pos (by decide), if_pos (by decide), xwi_d2 rfl (by decide)]
  exact db_228 hw hm
theorem fx_229 (hw : imgC w B n) (hm : imgM m B n) : FB n p w m x0 x1 x3 x4 x10 x11 x13 229 := by
  unfold FB
  rw [if_neg (by decide), if_neg (by decide), if_neg (by decide), if_neg (by decide), if_neg (by decide), xwi_d2 rfl (by decide)]
  exact db_229 hw hm
theorem fx_230 (hw : imgC w B n) (hm : imgM m B n) : FB n p w m x0 x1 x3 x4 x10 x11 x13 230 := by
  unfold FB
  rw [if_neg (by decide), if_neg (by decide), if_neg (by decide), if_pos (by decide), if_pos (by decide), xwi_d2 rfl (by decide)]
  exact db_230 hw hm
theorem fx_231 (hw : imgC w B n) (hm : imgM m B n) : FB n p w m x0 x1 x3 x4 x10 x11 x13 231 := by
  unfold FB
  rw [if_neg (by decide), if_neg (by decide), if_neg (by decide), if_neg (by decide), if_neg (by decide), xwi_d2 rfl (by decide)]
  exact db_231 hw hm
theorem fx_232 (hw : imgC w B n) (hm : imgM m B n) : FB n p w m x0 x1 x3 x4 x10 x11 x13 232 := by
  unfold FB
  rw [if_neg (by decide), if_neg (by decide), if_neg (by decide), if_pos (by decide), if_pos (by decide), xwi_d2 rfl (by decide)]
  exact db_232 hw hm
theorem fx_233 (hw : imgC w B n) (hm : imgM m B n) : FB n p w m x0 x1 x3 x4 x10 x11 x13 233 := by
  unfold FB
  rw [if_neg (by decide), if_neg (by decide), if_neg (by decide), if_neg (by decide), if_neg (by decide), xwi_d2 rfl (by decide)]
  exact db_233 hw hm
theorem fx_234 (hw : imgC w B n) (hm : imgM m B n) : FB n p w m x0 x1 x3 x4 x10 x11 x13 234 := by
  unfold FB
  rw [if_neg (by decide), if_neg (by decide), if_neg (by decide), if_pos (by decide), if_pos (by decide), xwi_d2 rfl (by decide)]
  exact db_234 hw hm
theorem fx_235 (hw : imgC w B n) (hm : imgM m B n) : FB n p w m x0 x1 x3 x4 x10 x11 x13 235 := by
  unfold FB
  rw [if_neg (by decide), if_neg (by decide), if_neg (by decide), if_neg (by decide), if_neg (by decide), xwi_d2 rfl (by decide)]
  exact db_235 hw hm
theorem fx_236 (hw : imgC w B n) (hm : imgM m B n) : FB n p w m x0 x1 x3 x4 x10 x11 x13 236 := by
  unfold FB
  rw [if_neg (by decide), if_neg (by decide), if_neg (by decide), if_pos (by decide), if_pos (by decide), xwi_d2 rfl (by decide)]
  exact db_236 hw hm
theorem fx_237 (hw : imgC w B n) (hm : imgM m B n) : FB n p w m x0 x1 x3 x4 x10 x11 x13 237 := by
  unfold FB
  rw [if_neg (by decide), if_neg (by decide), if_neg (by decide), if_neg (by decide), if_neg (by decide), xwi_d2 rfl (by decide)]
  exact db_237 hw hm
theorem fx_238 (hw : imgC w B n) (hm : imgM m B n) : FB n p w m x0 x1 x3 x4 x10 x11 x13 238 := by
  unfold FB
  rw [if_neg (by decide), if_neg (by decide), if_neg (by decide), if_pos (by decide), if_pos (by decide), xwi_d2 rfl (by decide)]
  exact db_238 hw hm
theorem fx_239 (hw : imgC w B n) (hm : imgM m B n) : FB n p w m x0 x1 x3 x4 x10 x11 x13 239 := by
  unfold FB
  rw [if_neg (by decide), if_neg (by decide), if_neg (by decide), if_neg (by decide), if_neg (by decide), xwi_d2 rfl (by decide)]
  exact db_239 hw hm
theorem fx_240 (hw : imgC w B n) (hm : imgM m B n) : FB n p w m x0 x1 x3 x4 x10 x11 x13 240 := by
  unfold FB
  rw [if_neg (by decide), if_neg (by decide), if_neg (by decide), if_pos (by decide), if_pos (by decide), xwi_d2 rfl (by decide)]
  exact db_240 hw hm
theorem fx_241 (hw : imgC w B n) (hm : imgM m B n) : FB n p w m x0 x1 x3 x4 x10 x11 x13 241 := by
  unfold FB
  rw [if_neg (by decide), if_neg (by decide), if_neg (by decide), if_neg (by decide), if_neg (by decide), xwi_d2 rfl (by decide)]
  exact db_241 hw hm
theorem fx_242 (hw : imgC w B n) (hm : imgM m B n) : FB n p w m x0 x1 x3 x4 x10 x11 x13 242 := by
  unfold FB
  rw [if_neg (by decide), if_neg (by decide), if_neg (by decide), if_pos (by decide), if_pos (by decide), xwi_d2 rfl (by decide)]
  exact db_242 hw hm
theorem fx_243 (hw : imgC w B n) (hm : imgM m B n) : FB n p w m x0 x1 x3 x4 x10 x11 x13 243 := by
  unfold FB
  rw [if_neg (by decide), if_neg (by decide), if_neg (by decide), if_neg (by decide), if_neg (by decide), xwi_d2 rfl (by decide)]
  exact db_243 hw hm
theorem fx_244 (hw : imgC w B n) (hm : imgM m B n) : FB n p w m x0 x1 x3 x4 x10 x11 x13 244 := by
  unfold FB
  rw [if_neg (by decide), if_neg (by decide), if_neg (by decide), if_pos (by decide), if_pos (by decide), xwi_d2 rfl (by decide)]
  exact db_244 hw hm
theorem fx_245 (hw : imgC w B n) (hm : imgM m B n) : FB n p w m x0 x1 x3 x4 x10 x11 x13 245 := by
  unfold FB
  rw [if_neg (by decide), if_neg (by decide), if_neg (by decide), if_neg (by decide), if_neg (by decide), xwi_d2 rfl (by decide)]
  exact db_245 hw hm
theorem fx_246 (hw : imgC w B n) (hm : imgM m B n) : FB n p w m x0 x1 x3 x4 x10 x11 x13 246 := by
  unfold FB
  rw [if_neg (by decide), if_neg (by decide), if_neg (by decide), if_pos (by decide), if_pos (by decide), xwi_d2 rfl (by decide)]
  exact db_246 hw hm
theorem fx_247 (hw : imgC w B n) (hm : imgM m B n) : FB n p w m x0 x1 x3 x4 x10 x11 x13 247 := by
  unfold FB
  rw [if_neg (by decide), if_neg (by decide), if_neg (by decide), if_neg (by decide), if_neg (by decide), xwi_d2 rfl (by decide)]
  exact db_247 hw hm
theorem fx_248 (hw : imgC w B n) (hm : imgM m B n) : FB n p w m x0 x1 x3 x4 x10 x11 x13 248 := by
  unfold FB
  rw [if_neg (by decide), if_neg (by decide), if_neg (by decide), if_pos (by decide), if_pos (by decide), xwi_d2 rfl (by decide)]
  exact db_248 hw hm
theorem fx_249 (hw : imgC w B n) (hm : imgM m B n) : FB n p w m x0 x1 x3 x4 x10 x11 x13 249 := by
  unfold FB
  rw [if_neg (by decide), if_neg (by decide), if_neg (by decide), if_neg (by decide), if_neg (by decide), xwi_d2 rfl (by decide)]
  exact db_249 hw hm
theorem fx_250 (hw : imgC w B n) (hm : imgM m B n) : FB n p w m x0 x1 x3 x4 x10 x11 x13 250 := by
  unfold FB
  rw [if_neg (by decide), if_neg (by decide), if_neg (by decide), if_pos (by decide), if_pos (by decide), xwi_d2 rfl (by decide)]
  exact db_250 hw hm
theorem fx_251 (hw : imgC w B n) (hm : imgM m B n) : FB n p w m x0 x1 x3 x4 x10 x11 x13 251 := by
  unfold FB
  rw [if_neg (by decide), if_neg (by decide), if_neg (by decide), if_neg (by decide), if_neg (by decide), xwi_d2 rfl (by decide)]
  exact db_251 hw hm
theorem fx_252 (hw : imgC w B n) (hm : imgM m B n) : FB n p w m x0 x1 x3 x4 x10 x11 x13 252 := by
  unfold FB
  rw [if_neg (by decide), if_neg (by decide), if_neg (by decide), if_pos (by decide), if_pos (by decide), xwi_d2 rfl (by decide)]
  exact db_252 hw hm
theorem fx_253 (hw : imgC w B n) (hm : imgM m B n) : FB n p w m x0 x1 x3 x4 x10 x11 x13 253 := by
  unfold FB
  rw [if_neg (by decide), if_neg (by decide), if_neg (by decide), if_neg (by decide), if_neg (by decide), xwi_d2 rfl (by decide)]
  exact db_253 hw hm
theorem fx_254 (hw : imgC w B n) (hm : imgM m B n) : FB n p w m x0 x1 x3 x4 x10 x11 x13 254 := by
  unfold FB
  rw [if_neg (by decide), if_neg (by decide), if_neg (by decide), if_pos (by decide), if_pos (by decide), xwi_d2 rfl (by decide)]
  exact db_254 hw hm
theorem fx_255 (hw : imgC w B n) (hm : imgM m B n) : FB n p w m x0 x1 x3 x4 x10 x11 x13 255 := by
  unfold FB
  rw [if_neg (by decide), if_neg (by decide), if_neg (by decide), if_neg (by decide), if_neg (by decide), xwi_d2 rfl (by decide)]
  exact db_255 hw hm
theorem fb_16 (hw : imgC w B n) (hm : imgM m B n) : ∀ j, j < 16 → FB n p w m x0 x1 x3 x4 x10 x11 x13 (nI j) := (upto (upto (upto (upto (upto (upto (upto (upto (upto (upto (upto (upto (upto (upto (upto (upto (fb_0 hw hm) (fx_0 hw hm)) (fx_1 hw hm)) (fx_2 hw hm)) (fx_3 hw hm)) (fx_4 hw hm)) (fx_5 hw hm)) (fx_6 hw hm)) (fx_7 hw hm)) (fx_8 hw hm)) (fx_9 hw hm)) (fx_10 hw hm)) (fx_11 hw hm)) (fx_12 hw hm)) (fx_13 hw hm)) (fx_14 hw hm)) (fx_15 hw hm))
theorem fb_32 (hw : imgC w B n) (hm : imgM m B n) : ∀ j, j < 32 → FB n p w m x0 x1 x3 x4 x10 x11 x13 (nI j) := (upto (upto (upto (upto (upto (upto (upto (upto (upto (upto (upto (upto (upto (upto (upto (upto (fb_16 hw hm) (fx_16 hw hm)) (fx_17 hw hm)) (fx_18 hw hm)) (fx_19 hw hm)) (fx_20 hw hm)) (fx_21 hw hm)) (fx_22 hw hm)) (fx_23 hw hm)) (fx_24 hw hm)) (fx_25 hw hm)) (fx_26 hw hm)) (fx_27 hw hm)) (fx_28 hw hm)) (fx_29 hw hm)) (fx_30 hw hm)) (fx_31 hw hm))
theorem fb_48 (hw : imgC w B n) (hm : imgM m B n) : ∀ j, j < 48 → FB n p w m x0 x1 x3 x4 x10 x11 x13 (nI j) := (upto (upto (upto (upto (upto (upto (upto (upto (upto (upto (upto (upto (upto (upto (upto (upto (fb_32 hw hm) (fx_32 hw hm)) (fx_33 hw hm)) (fx_34 hw hm)) (fx_35 hw hm)) (fx_36 hw hm)) (fx_37 hw hm)) (fx_38 hw hm)) (fx_39 hw hm)) (fx_40 hw hm)) (fx_41 hw hm)) (fx_42 hw hm)) (fx_43 hw hm)) (fx_44 hw hm)) (fx_45 hw hm)) (fx_46 hw hm)) (fx_47 hw hm))
theorem fb_64 (hw : imgC w B n) (hm : imgM m B n) : ∀ j, j < 64 → FB n p w m x0 x1 x3 x4 x10 x11 x13 (nI j) := (upto (upto (upto (upto (upto (upto (upto (upto (upto (upto (upto (upto (upto (upto (upto (upto (fb_48 hw hm) (fx_48 hw hm)) (fx_49 hw hm)) (fx_50 hw hm)) (fx_51 hw hm)) (fx_52 hw hm)) (fx_53 hw hm)) (fx_54 hw hm)) (fx_55 hw hm)) (fx_56 hw hm)) (fx_57 hw hm)) (fx_58 hw hm)) (fx_59 hw hm)) (fx_60 hw hm)) (fx_61 hw hm)) (fx_62 hw hm)) (fx_63 hw hm))
theorem fb_80 (hw : imgC w B n) (hm : imgM m B n) : ∀ j, j < 80 → FB n p w m x0 x1 x3 x4 x10 x11 x13 (nI j) := (upto (upto (upto (upto (upto (upto (upto (upto (upto (upto (upto (upto (upto (upto (upto (upto (fb_64 hw hm) (fx_64 hw hm)) (fx_65 hw hm)) (fx_66 hw hm)) (fx_67 hw hm)) (fx_68 hw hm)) (fx_69 hw hm)) (fx_70 hw hm)) (fx_71 hw hm)) (fx_72 hw hm)) (fx_73 hw hm)) (fx_74 hw hm)) (fx_75 hw hm)) (fx_76 hw hm)) (fx_77 hw hm)) (fx_78 hw hm)) (fx_79 hw hm))
theorem fb_96 (hw : imgC w B n) (hm : imgM m B n) : ∀ j, j < 96 → FB n p w m x0 x1 x3 x4 x10 x11 x13 (nI j) := (upto (upto (upto (upto (upto (upto (upto (upto (upto (upto (upto (upto (upto (upto (upto (upto (fb_80 hw hm) (fx_80 hw hm)) (fx_81 hw hm)) (fx_82 hw hm)) (fx_83 hw hm)) (fx_84 hw hm)) (fx_85 hw hm)) (fx_86 hw hm)) (fx_87 hw hm)) (fx_88 hw hm)) (fx_89 hw hm)) (fx_90 hw hm)) (fx_91 hw hm)) (fx_92 hw hm)) (fx_93 hw hm)) (fx_94 hw hm)) (fx_95 hw hm))
theorem fb_112 (hw : imgC w B n) (hm : imgM m B n) : ∀ j, j < 112 → FB n p w m x0 x1 x3 x4 x10 x11 x13 (nI j) := (upto (upto (upto (upto (upto (upto (upto (upto (upto (upto (upto (upto (upto (upto (upto (upto (fb_96 hw hm) (fx_96 hw hm)) (fx_97 hw hm)) (fx_98 hw hm)) (fx_99 hw hm)) (fx_100 hw hm)) (fx_101 hw hm)) (fx_102 hw hm)) (fx_103 hw hm)) (fx_104 hw hm)) (fx_105 hw hm)) (fx_106 hw hm)) (fx_107 hw hm)) (fx_108 hw hm)) (fx_109 hw hm)) (fx_110 hw hm)) (fx_111 hw hm))
theorem fb_128 (hw : imgC w B n) (hm : imgM m B n) : ∀ j, j < 128 → FB n p w m x0 x1 x3 x4 x10 x11 x13 (nI j) := (upto (upto (upto (upto (upto (upto (upto (upto (upto (upto (upto (upto (upto (upto (upto (upto (fb_112 hw hm) (fx_112 hw hm)) (fx_113 hw hm)) (fx_114 hw hm)) (fx_115 hw hm)) (fx_116 hw hm)) (fx_117 hw hm)) (fx_118 hw hm)) (fx_119 hw hm)) (fx_120 hw hm)) (fx_121 hw hm)) (fx_122 hw hm)) (fx_123 hw hm)) (fx_124 hw hm)) (fx_125 hw hm)) (fx_126 hw hm)) (fx_127 hw hm))
theorem fb_144 (hw : imgC w B n) (hm : imgM m B n) : ∀ j, j < 144 → FB n p w m x0 x1 x3 x4 x10 x11 x13 (nI j) := (upto (upto (upto (upto (upto (upto (upto (upto (upto (upto (upto (upto (upto (upto (upto (upto (fb_128 hw hm) (fx_128 hw hm)) (fx_129 hw hm)) (fx_130 hw hm)) (fx_131 hw hm)) (fx_132 hw hm)) (fx_133 hw hm)) (fx_134 hw hm)) (fx_135 hw hm)) (fx_136 hw hm)) (fx_137 hw hm)) (fx_138 hw hm)) (fx_139 hw hm)) (fx_140 hw hm)) (fx_141 hw hm)) (fx_142 hw hm)) (fx_143 hw hm))
theorem fb_160 (hw : imgC w B n) (hm : imgM m B n) : ∀ j, j < 160 → FB n p w m x0 x1 x3 x4 x10 x11 x13 (nI j) := (upto (upto (upto (upto (upto (upto (upto (upto (upto (upto (upto (upto (upto (upto (upto (upto (fb_144 hw hm) (fx_144 hw hm)) (fx_145 hw hm)) (fx_146 hw hm)) (fx_147 hw hm)) (fx_148 hw hm)) (fx_149 hw hm)) (fx_150 hw hm)) (fx_151 hw hm)) (fx_152 hw hm)) (fx_153 hw hm)) (fx_154 hw hm)) (fx_155 hw hm)) (fx_156 hw hm)) (fx_157 hw hm)) (fx_158 hw hm)) (fx_159 hw hm))
theorem fb_176 (hw : imgC w B n) (hm : imgM m B n) : ∀ j, j < 176 → FB n p w m x0 x1 x3 x4 x10 x11 x13 (nI j) := (upto (upto (upto (upto (upto (upto (upto (upto (upto (upto (upto (upto (upto (upto (upto (upto (fb_160 hw hm) (fx_160 hw hm)) (fx_161 hw hm)) (fx_162 hw hm)) (fx_163 hw hm)) (fx_164 hw hm)) (fx_165 hw hm)) (fx_166 hw hm)) (fx_167 hw hm)) (fx_168 hw hm)) (fx_169 hw hm)) (fx_170 hw hm)) (fx_171 hw hm)) (fx_172 hw hm)) (fx_173 hw hm)) (fx_174 hw hm)) (fx_175 hw hm))
theorem fb_192 (hw : imgC w B n) (hm : imgM m B n) : ∀ j, j < 192 → FB n p w m x0 x1 x3 x4 x10 x11 x13 (nI j) := (upto (upto (upto (upto (upto (upto (upto (upto (upto (upto (upto (upto (upto (upto (upto (upto (fb_176 hw hm) (fx_176 hw hm)) (fx_177 hw hm)) (fx_178 hw hm)) (fx_179 hw hm)) (fx_180 hw hm)) (fx_181 hw hm)) (fx_182 hw hm)) (fx_183 hw hm)) (fx_184 hw hm)) (fx_185 hw hm)) (fx_186 hw hm)) (fx_187 hw hm)) (fx_188 hw hm)) (fx_189 hw hm)) (fx_190 hw hm)) (fx_191 hw hm))
theorem fb_208 (hw : imgC w B n) (hm : imgM m B n) : ∀ j, j < 208 → FB n p w m x0 x1 x3 x4 x10 x11 x13 (nI j) := (upto (upto (upto (upto (upto (upto (upto (upto (upto (upto (upto (upto (upto (upto (upto (upto (fb_192 hw hm) (fx_192 hw hm)) (fx_193 hw hm)) (fx_194 hw hm)) (fx_195 hw hm)) (fx_196 hw hm)) (fx_197 hw hm)) (fx_198 hw hm)) (fx_199 hw hm)) (fx_200 hw hm)) (fx_201 hw hm)) (fx_202 hw hm)) (fx_203 hw hm)) (fx_204 hw hm)) (fx_205 hw hm)) (fx_206 hw hm)) (fx_207 hw hm))
theorem fb_224 (hw : imgC w B n) (hm : imgM m B n) : ∀ j, j < 224 → FB n p w m x0 x1 x3 x4 x10 x11 x13 (nI j) := (upto (upto (upto (upto (upto (upto (upto (upto (upto (upto (upto (upto (upto (upto (upto (upto (fb_208 hw hm) (fx_208 hw hm)) (fx_209 hw hm)) (fx_210 hw hm)) (fx_211 hw hm)) (fx_212 hw hm)) (fx_213 hw hm)) (fx_214 hw hm)) (fx_215 hw hm)) (fx_216 hw hm)) (fx_217 hw hm)) (fx_218 hw hm)) (fx_219 hw hm)) (fx_220 hw hm)) (fx_221 hw hm)) (fx_222 hw hm)) (fx_223 hw hm))
theorem fb_240 (hw : imgC w B n) (hm : imgM m B n) : ∀ j, j < 240 → FB n p w m x0 x1 x3 x4 x10 x11 x13 (nI j) := (upto (upto (upto (upto (upto (upto (upto (upto (upto (upto (upto (upto (upto (upto (upto (upto (fb_224 hw hm) (fx_224 hw hm)) (fx_225 hw hm)) (fx_226 hw hm)) (fx_227 hw hm)) (fx_228 hw hm)) (fx_229 hw hm)) (fx_230 hw hm)) (fx_231 hw hm)) (fx_232 hw hm)) (fx_233 hw hm)) (fx_234 hw hm)) (fx_235 hw hm)) (fx_236 hw hm)) (fx_237 hw hm)) (fx_238 hw hm)) (fx_239 hw hm))
theorem fb_256 (hw : imgC w B n) (hm : imgM m B n) : ∀ j, j < 256 → FB n p w m x0 x1 x3 x4 x10 x11 x13 (nI j) := (upto (upto (upto (upto (upto (upto (upto (upto (upto (upto (upto (upto (upto (upto (upto (upto (fb_240 hw hm) (fx_240 hw hm)) (fx_241 hw hm)) (fx_242 hw hm)) (fx_243 hw hm)) (fx_244 hw hm)) (fx_245 hw hm)) (fx_246 hw hm)) (fx_247 hw hm)) (fx_248 hw hm)) (fx_249 hw hm)) (fx_250 hw hm)) (fx_251 hw hm)) (fx_252 hw hm)) (fx_253 hw hm)) (fx_254 hw hm)) (fx_255 hw hm))
theorem clear_d (w : xW) : sX6_clear w = some ((), dW [50, 0, 0, 0, 4, 4, 0, 0, 0, -1, -1, 0, 0, 0, 0] [w.1 3 2, w.1 3 3, w.1 3 4, w.1 3 5, w.1 3 6, w.1 3 7] w) := by
  have h := dW_self w
  unfold sX6_clear
  rw [show xwi w 2 0 50 = xwi (dW [w.1 2 0, w.1 2 1, w.1 2 2, w.1 2 3, w.1 2 4, w.1 2 5, w.1 2 6, w.1 2 7, w.1 2 8, w.1 2 9, w.1 2 10, w.1 2 11, w.1 2 12, w.1 2 13, w.1 2 14] [w.1 3 2, w.1 3 3, w.1 3 4, w.1 3 5, w.1 3 6, w.1 3 7] w) 2 0 50 from by rw [h]]
  simp (decide := true) only [xwi_d2, List.set, List.length]

theorem take_in (hm : imgM m B n) (hn : n ≤ 2048) (hp : p < n) : sX12_take (nI p) m = (if ((B p) &&& (1 : Int32)) = 0 then sX12_take_j86 (nI p) (B p) (1 : Int32) (mW [m.1 0 17, m.1 0 18, 0, m.1 0 20, m.1 0 21, 3, 0, 0, -1, -1, m.1 0 27, m.1 0 28, 0, m.1 0 30, nxn n (p + 1), thr n (p + 1) 1] m) else sX12_take_j86 (nI p) (B p) (4 : Int32) (mW [m.1 0 17, m.1 0 18, 0, m.1 0 20, m.1 0 21, 3, 0, 0, -1, -1, m.1 0 27, m.1 0 28, 0, m.1 0 30, nxn n (p + 1), thr n (p + 1) 1] m)) := by
  have h := mW_self m
  have e3 : nxn n p = nI p := by unfold nxn; congr 1; omega
  have e4 : thr n p 1 = 1 := by unfold thr; rw [if_neg (by omega)]
  have nm : ∀ a0 a1 a2 a3 a4 a5 a6 a7 a8 a9 a10 a11 a12 a13 : Int32, sX12_next (mW [a0, a1, a2, a3, a4, a5, a6, a7, a8, a9, a10, a11, a12, a13, nI p, 1] m) = some (B p, mW [a0, a1, a2, a3, a4, a5, a6, a7, a8, a9, a10, a11, a12, a13, nxn n (p + 1), thr n (p + 1) 1] m) := by
    intro a0 a1 a2 a3 a4 a5 a6 a7 a8 a9 a10 a11 a12 a13
    have q := next_m hm (a0 := a0) (a1 := a1) (a2 := a2) (a3 := a3) (a4 := a4) (a5 := a5) (a6 := a6) (a7 := a7) (a8 := a8) (a9 := a9) (a10 := a10) (a11 := a11) (a12 := a12) (a13 := a13) (d := 1) p
    rw [e3, e4] at q
    exact q
  unfold sX12_take
  rw [if_neg (nI_pos (by omega)), hm.1, if_pos ((nI_ltI2 (by omega) (by omega)).mpr hp)]
  rw [show xwi m 0 31 (nI p) = xwi (mW [m.1 0 17, m.1 0 18, m.1 0 19, m.1 0 20, m.1 0 21, m.1 0 22, m.1 0 23, m.1 0 24, m.1 0 25, m.1 0 26, m.1 0 27, m.1 0 28, m.1 0 29, m.1 0 30, m.1 0 31, m.1 0 32] m) 0 31 (nI p) from by rw [h]]
  unfold sX12_take_j23
  rw [if_pos (Or.inr rfl), if_neg (by decide)]
  simp (decide := true) only [xwi_m, List.set, List.length, Nat.reduceSub]
  rw [nm, xbd_some]
theorem decode_in (hw : imgC w B n) (hp : p < n) : sX1_decode (nI p) w = (if (B p) = (15 : Int32) then xbd (sX1_nextByte (xwi (dW [50, 0, 0, 0, 4, 4, 0, 0, 0, -1, -1, 0, 0, 0, 0] [nxn n (p + 1), ctn n (p + 1), 1, 0, 0, 0] w) 2 2 (B p))) (fun x10 w11 => xbd (sX1_chooseLong x10 w11) (fun _ w12 => sX1_decode_j128 (nI p) w12)) else (if (B p) = (102 : Int32) then xbd (sX1_nextByte (xwi (dW [50, 0, 0, 0, 4, 4, 0, 0, 0, -1, -1, 0, 0, 0, 0] [nxn n (p + 1), ctn n (p + 1), 1, 0, 0, 0] w) 2 2 (B p))) (fun x7 w8 => xbd (sX1_chooseWord x7 w8) (fun _ w9 => sX1_decode_j128 (nI p) w9)) else (if (B p) < (128 : Int32) then xbd (sX1_chooseLow (B p) (xwi (dW [50, 0, 0, 0, 4, 4, 0, 0, 0, -1, -1, 0, 0, 0, 0] [nxn n (p + 1), ctn n (p + 1), 1, 0, 0, 0] w) 2 2 (B p))) (fun _ w6 => sX1_decode_j128 (nI p) w6) else (if ((B p) &&& (1 : Int32)) = 0 then sX1_decode_j125 (nI p) (1 : Int32) (B p) (xwi (dW [50, 0, 0, 0, 4, 4, 0, 0, 0, -1, -1, 0, 0, 0, 0] [nxn n (p + 1), ctn n (p + 1), 1, 0, 0, 0] w) 2 2 (B p)) else sX1_decode_j125 (nI p) (4 : Int32) (B p) (xwi (dW [50, 0, 0, 0, 4, 4, 0, 0, 0, -1, -1, 0, 0, 0, 0] [nxn n (p + 1), ctn n (p + 1), 1, 0, 0, 0] w) 2 2 (B p)))))) := by
  have hn := hw.2.1
  have e3 : nxn n p = nI p := by unfold nxn; congr 1; omega
  have e4 : ctn n p = 0 := by unfold ctn; rw [if_neg (by omega)]
  have nb : ∀ l2 : List Int32, sX1_nextByte (dW l2 [nI p, 0, 1, 0, 0, 0] w) = some (B p, dW l2 [nxn n (p + 1), ctn n (p + 1), 1, 0, 0, 0] w) := by
    intro l2
    have q := nextByte_d hw (l2 := l2) (f := 1) (hE := 0) (dg := 0) (nb := 0) p
    rw [e3, e4] at q
    exact q
  unfold sX1_decode
  rw [clear_d, xbd_some]
  unfold sX4_has
  rw [if_neg (nI_pos (by omega)), dW_o (by decide) (by decide), hw.1, if_pos ((nI_ltI2 (by omega) (by omega)).mpr hp), if_pos (show nI p < (2048 : Int32) from (nI_ltI2 (a := p) (b := 2048) (by omega) (by decide)).mpr (by omega)), xbd_some, if_neg (by decide)]
  simp (decide := true) only [xwi_d3, List.set, List.length, Nat.reduceSub]
  rw [nb, xbd_some]
theorem decode_pair (hw : imgC w B n) (hm : imgM m B n) (hp : p < n) : DP n p w m (sX1_decode (nI p) w) (sX12_take (nI p) m) := by
  obtain ⟨j, hj, e⟩ := hw.byte p
  rw [decode_in hw hp, take_in hm hw.2.1 hp, e]
  exact fb_256 hw hm j hj
theorem decode_out {a : Int32} (h1 : w.1 1 1 = nI n) (h : a < 0 ∨ ¬ a < nI n) : sX1_decode a w = some (0, dW [50, 0, 0, 0, 4, 4, 0, 0, 0, -1, -1, 0, 0, 0, 0] [w.1 3 2, w.1 3 3, w.1 3 4, w.1 3 5, w.1 3 6, w.1 3 7] w) := by
  unfold sX1_decode
  rw [clear_d, xbd_some]
  unfold sX4_has
  rw [dW_o (by decide) (by decide), h1]
  by_cases h0 : a < 0
  · rw [if_pos h0, xbd_some, if_pos rfl]
  · rw [if_neg h0, if_neg (h.resolve_left h0), xbd_some, if_pos rfl]
theorem take_out {a : Int32} (h1 : m.1 0 2 = nI n) (h : a < 0 ∨ ¬ a < nI n) : ∃ l, sX12_take a m = some (0, mW l m) := by
  have h2 : sX12_take a m = sX12_take_j22 a (xwi m 0 31 a) := by
    unfold sX12_take
    rw [h1]
    by_cases h0 : a < 0
    · rw [if_pos h0]
    · rw [if_neg h0, if_neg (h.resolve_left h0)]
  have h := mW_self m
  rw [h2]
  rw [show xwi m 0 31 a = xwi (mW [m.1 0 17, m.1 0 18, m.1 0 19, m.1 0 20, m.1 0 21, m.1 0 22, m.1 0 23, m.1 0 24, m.1 0 25, m.1 0 26, m.1 0 27, m.1 0 28, m.1 0 29, m.1 0 30, m.1 0 31, m.1 0 32] m) 0 31 a from by rw [h]]
  unfold sX12_take_j22 sX12_take_j23
  rw [if_pos (Or.inl rfl), if_pos rfl]
  simp (decide := true) only [xwi_m, List.set, List.length, Nat.reduceSub]
  exact ⟨_, rfl⟩
end DA

