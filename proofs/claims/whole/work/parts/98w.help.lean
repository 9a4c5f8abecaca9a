/-! the law's helpers: each returns or catches (printed by wip/whole/gen/help.py) -/
def RL : String := "BundleFenceLaw"
abbrev cL_feed : ByteArray := method_3_code
abbrev yL_feed : MethodName := ⟨RL, "feed", "(LBundleFence;IJ[J)I"⟩
abbrev cL_poke : ByteArray := method_4_code
abbrev yL_poke : MethodName := ⟨RL, "poke", "(LBundleFence;II[J)I"⟩
abbrev cL_give : ByteArray := method_5_code
abbrev yL_give : MethodName := ⟨RL, "give", "(LBundleFence;IJ[J)I"⟩
abbrev cL_begin : ByteArray := method_6_code
abbrev yL_begin : MethodName := ⟨RL, "begin", "(LBundleFence;Z)I"⟩
abbrev cL_run : ByteArray := method_7_code
abbrev yL_run : MethodName := ⟨RL, "run", "(LBundleFence;I[J)I"⟩
abbrev cL_stop : ByteArray := method_8_code
abbrev yL_stop : MethodName := ⟨RL, "stop", "(LBundleFence;IZ[J)I"⟩
abbrev cL_told : ByteArray := method_9_code
abbrev yL_told : MethodName := ⟨RL, "told", "(LBundleFence;I[J)I"⟩
abbrev cL_register : ByteArray := method_10_code
abbrev yL_register : MethodName := ⟨RL, "register", "(LBundleFence;I[J)I"⟩
abbrev cL_put : ByteArray := method_11_code
abbrev yL_put : MethodName := ⟨RL, "put", "(LBundleFence;II[J)I"⟩
abbrev cL_passed : ByteArray := method_12_code
abbrev yL_passed : MethodName := ⟨RL, "passed", "(LBundleFence;I[J)I"⟩
theorem tw173 : Cond.initialized IAEx ∈ gtbl := gtt_1 21 rfl rfl
theorem tw175 : Cond.initialized IOBx ∈ gtbl := gtt_1 23 rfl rfl
theorem tw184 : Cond.initialized ISEx ∈ gtbl := gtt_1 32 rfl rfl
theorem tw1454 : Cond.classLink RL 13 IAEx ∈ gtbl := gtt_6 102 rfl rfl
theorem tw1455 : Cond.methodLink RL 7 yX11_feed ∈ gtbl := gtt_6 103 rfl rfl
theorem tw1456 : Cond.instanceMethod yX11_feed ∈ gtbl := gtt_6 104 rfl rfl
theorem tw1457 : Cond.selects "BundleFence" yX11_feed yX11_feed ∈ gtbl := gtt_6 105 rfl rfl
theorem tw1458 : Cond.code yX11_feed cX11_feed 4 (some .int) ∈ gtbl := gtt_6 106 rfl rfl
theorem tw1459 : Cond.classLink RX11 81 IAEx ∈ gtbl := gtt_6 107 rfl rfl
theorem tw1469 : Cond.methodLink RL 15 yX11_poke ∈ gtbl := gtt_6 117 rfl rfl
theorem tw1470 : Cond.instanceMethod yX11_poke ∈ gtbl := gtt_6 118 rfl rfl
theorem tw1471 : Cond.selects "BundleFence" yX11_poke yX11_poke ∈ gtbl := gtt_6 119 rfl rfl
theorem tw1472 : Cond.code yX11_poke cX11_poke 4 (some .int) ∈ gtbl := gtt_6 120 rfl rfl
theorem tw1482 : Cond.methodLink RL 19 yX11_give ∈ gtbl := gtt_6 130 rfl rfl
theorem tw1483 : Cond.instanceMethod yX11_give ∈ gtbl := gtt_6 131 rfl rfl
theorem tw1484 : Cond.selects "BundleFence" yX11_give yX11_give ∈ gtbl := gtt_6 132 rfl rfl
theorem tw1485 : Cond.code yX11_give cX11_give 4 (some .int) ∈ gtbl := gtt_6 133 rfl rfl
theorem tw1493 : Cond.classLink RL 26 ISEx ∈ gtbl := gtt_6 141 rfl rfl
theorem tw1494 : Cond.methodLink RL 22 yX11_begin ∈ gtbl := gtt_6 142 rfl rfl
theorem tw1495 : Cond.instanceMethod yX11_begin ∈ gtbl := gtt_6 143 rfl rfl
theorem tw1496 : Cond.selects "BundleFence" yX11_begin yX11_begin ∈ gtbl := gtt_6 144 rfl rfl
theorem tw1497 : Cond.code yX11_begin cX11_begin 2 none ∈ gtbl := gtt_6 145 rfl rfl
theorem tw1498 : Cond.classLink RX11 162 ISEx ∈ gtbl := gtt_6 146 rfl rfl
theorem tw1523 : Cond.methodLink RL 28 yX11_run ∈ gtbl := gtt_6 171 rfl rfl
theorem tw1524 : Cond.instanceMethod yX11_run ∈ gtbl := gtt_6 172 rfl rfl
theorem tw1525 : Cond.selects "BundleFence" yX11_run yX11_run ∈ gtbl := gtt_6 173 rfl rfl
theorem tw1526 : Cond.code yX11_run cX11_run 4 (some .int) ∈ gtbl := gtt_6 174 rfl rfl
theorem tw1846 : Cond.methodLink RL 32 yX11_stop ∈ gtbl := gtt_8 14 rfl rfl
theorem tw1847 : Cond.instanceMethod yX11_stop ∈ gtbl := gtt_8 15 rfl rfl
theorem tw1848 : Cond.selects "BundleFence" yX11_stop yX11_stop ∈ gtbl := gtt_8 16 rfl rfl
theorem tw1849 : Cond.code yX11_stop cX11_stop 4 (some .boolean) ∈ gtbl := gtt_8 17 rfl rfl
theorem tw1854 : Cond.methodLink RL 36 yX11_told ∈ gtbl := gtt_8 22 rfl rfl
theorem tw1855 : Cond.instanceMethod yX11_told ∈ gtbl := gtt_8 23 rfl rfl
theorem tw1856 : Cond.selects "BundleFence" yX11_told yX11_told ∈ gtbl := gtt_8 24 rfl rfl
theorem tw1857 : Cond.code yX11_told cX11_told 2 (some .int) ∈ gtbl := gtt_8 25 rfl rfl
theorem tw1862 : Cond.classLink RL 42 IOBx ∈ gtbl := gtt_8 30 rfl rfl
theorem tw1863 : Cond.methodLink RL 39 yX11_register ∈ gtbl := gtt_8 31 rfl rfl
theorem tw1864 : Cond.instanceMethod yX11_register ∈ gtbl := gtt_8 32 rfl rfl
theorem tw1865 : Cond.selects "BundleFence" yX11_register yX11_register ∈ gtbl := gtt_8 33 rfl rfl
theorem tw1866 : Cond.code yX11_register cX11_register 2 (some .int) ∈ gtbl := gtt_8 34 rfl rfl
theorem tw1867 : Cond.classLink RX11 219 IOBx ∈ gtbl := gtt_8 35 rfl rfl
theorem tw1883 : Cond.methodLink RL 44 yX11_put ∈ gtbl := gtt_8 51 rfl rfl
theorem tw1884 : Cond.instanceMethod yX11_put ∈ gtbl := gtt_8 52 rfl rfl
theorem tw1885 : Cond.selects "BundleFence" yX11_put yX11_put ∈ gtbl := gtt_8 53 rfl rfl
theorem tw1886 : Cond.code yX11_put cX11_put 4 (some .int) ∈ gtbl := gtt_8 54 rfl rfl
theorem tw1890 : Cond.methodLink RL 47 yX11_passed ∈ gtbl := gtt_8 58 rfl rfl
theorem tw1891 : Cond.instanceMethod yX11_passed ∈ gtbl := gtt_8 59 rfl rfl
theorem tw1892 : Cond.selects "BundleFence" yX11_passed yX11_passed ∈ gtbl := gtt_8 60 rfl rfl
theorem tw1893 : Cond.code yX11_passed cX11_passed 2 (some .int) ∈ gtbl := gtt_8 61 rfl rfl
theorem dL_feed_0 : decode cL_feed 0 = .ok (.aload 4, 2) := by decide +kernel
theorem dL_feed_2 : decode cL_feed 2 = .ok (.iconst 0, 1) := by decide +kernel
theorem dL_feed_3 : decode cL_feed 3 = .ok (.aload_n 0, 1) := by decide +kernel
theorem dL_feed_4 : decode cL_feed 4 = .ok (.iload_n 1, 1) := by decide +kernel
theorem dL_feed_5 : decode cL_feed 5 = .ok (.lload_n 2, 1) := by decide +kernel
theorem dL_feed_6 : decode cL_feed 6 = .ok (.invokevirtual 7, 3) := by decide +kernel
theorem dL_feed_9 : decode cL_feed 9 = .ok (.i2l, 1) := by decide +kernel
theorem dL_feed_10 : decode cL_feed 10 = .ok (.lastore, 1) := by decide +kernel
theorem dL_feed_11 : decode cL_feed 11 = .ok (.goto 7, 3) := by decide +kernel
theorem dL_feed_14 : decode cL_feed 14 = .ok (.astore 5, 2) := by decide +kernel
theorem dL_feed_16 : decode cL_feed 16 = .ok (.iconst 1, 1) := by decide +kernel
theorem dL_feed_17 : decode cL_feed 17 = .ok (.ireturn, 1) := by decide +kernel
theorem dL_feed_18 : decode cL_feed 18 = .ok (.iconst 0, 1) := by decide +kernel
theorem dL_feed_19 : decode cL_feed 19 = .ok (.ireturn, 1) := by decide +kernel
theorem dL_poke_0 : decode cL_poke 0 = .ok (.aload_n 3, 1) := by decide +kernel
theorem dL_poke_1 : decode cL_poke 1 = .ok (.iconst 0, 1) := by decide +kernel
theorem dL_poke_2 : decode cL_poke 2 = .ok (.aload_n 0, 1) := by decide +kernel
theorem dL_poke_3 : decode cL_poke 3 = .ok (.iload_n 1, 1) := by decide +kernel
theorem dL_poke_4 : decode cL_poke 4 = .ok (.iload_n 2, 1) := by decide +kernel
theorem dL_poke_5 : decode cL_poke 5 = .ok (.invokevirtual 15, 3) := by decide +kernel
theorem dL_poke_8 : decode cL_poke 8 = .ok (.i2l, 1) := by decide +kernel
theorem dL_poke_9 : decode cL_poke 9 = .ok (.lastore, 1) := by decide +kernel
theorem dL_poke_10 : decode cL_poke 10 = .ok (.goto 7, 3) := by decide +kernel
theorem dL_poke_13 : decode cL_poke 13 = .ok (.astore 4, 2) := by decide +kernel
theorem dL_poke_15 : decode cL_poke 15 = .ok (.iconst 1, 1) := by decide +kernel
theorem dL_poke_16 : decode cL_poke 16 = .ok (.ireturn, 1) := by decide +kernel
theorem dL_poke_17 : decode cL_poke 17 = .ok (.iconst 0, 1) := by decide +kernel
theorem dL_poke_18 : decode cL_poke 18 = .ok (.ireturn, 1) := by decide +kernel
theorem dL_give_0 : decode cL_give 0 = .ok (.aload 4, 2) := by decide +kernel
theorem dL_give_2 : decode cL_give 2 = .ok (.iconst 0, 1) := by decide +kernel
theorem dL_give_3 : decode cL_give 3 = .ok (.aload_n 0, 1) := by decide +kernel
theorem dL_give_4 : decode cL_give 4 = .ok (.iload_n 1, 1) := by decide +kernel
theorem dL_give_5 : decode cL_give 5 = .ok (.lload_n 2, 1) := by decide +kernel
theorem dL_give_6 : decode cL_give 6 = .ok (.invokevirtual 19, 3) := by decide +kernel
theorem dL_give_9 : decode cL_give 9 = .ok (.i2l, 1) := by decide +kernel
theorem dL_give_10 : decode cL_give 10 = .ok (.lastore, 1) := by decide +kernel
theorem dL_give_11 : decode cL_give 11 = .ok (.goto 7, 3) := by decide +kernel
theorem dL_give_14 : decode cL_give 14 = .ok (.astore 5, 2) := by decide +kernel
theorem dL_give_16 : decode cL_give 16 = .ok (.iconst 1, 1) := by decide +kernel
theorem dL_give_17 : decode cL_give 17 = .ok (.ireturn, 1) := by decide +kernel
theorem dL_give_18 : decode cL_give 18 = .ok (.iconst 0, 1) := by decide +kernel
theorem dL_give_19 : decode cL_give 19 = .ok (.ireturn, 1) := by decide +kernel
theorem dL_begin_0 : decode cL_begin 0 = .ok (.aload_n 0, 1) := by decide +kernel
theorem dL_begin_1 : decode cL_begin 1 = .ok (.iload_n 1, 1) := by decide +kernel
theorem dL_begin_2 : decode cL_begin 2 = .ok (.invokevirtual 22, 3) := by decide +kernel
theorem dL_begin_5 : decode cL_begin 5 = .ok (.goto 6, 3) := by decide +kernel
theorem dL_begin_8 : decode cL_begin 8 = .ok (.astore_n 2, 1) := by decide +kernel
theorem dL_begin_9 : decode cL_begin 9 = .ok (.iconst 1, 1) := by decide +kernel
theorem dL_begin_10 : decode cL_begin 10 = .ok (.ireturn, 1) := by decide +kernel
theorem dL_begin_11 : decode cL_begin 11 = .ok (.iconst 0, 1) := by decide +kernel
theorem dL_begin_12 : decode cL_begin 12 = .ok (.ireturn, 1) := by decide +kernel
theorem dL_run_0 : decode cL_run 0 = .ok (.aload_n 2, 1) := by decide +kernel
theorem dL_run_1 : decode cL_run 1 = .ok (.iconst 0, 1) := by decide +kernel
theorem dL_run_2 : decode cL_run 2 = .ok (.aload_n 0, 1) := by decide +kernel
theorem dL_run_3 : decode cL_run 3 = .ok (.iload_n 1, 1) := by decide +kernel
theorem dL_run_4 : decode cL_run 4 = .ok (.invokevirtual 28, 3) := by decide +kernel
theorem dL_run_7 : decode cL_run 7 = .ok (.i2l, 1) := by decide +kernel
theorem dL_run_8 : decode cL_run 8 = .ok (.lastore, 1) := by decide +kernel
theorem dL_run_9 : decode cL_run 9 = .ok (.goto 9, 3) := by decide +kernel
theorem dL_run_12 : decode cL_run 12 = .ok (.astore_n 3, 1) := by decide +kernel
theorem dL_run_13 : decode cL_run 13 = .ok (.iconst 1, 1) := by decide +kernel
theorem dL_run_14 : decode cL_run 14 = .ok (.ireturn, 1) := by decide +kernel
theorem dL_run_15 : decode cL_run 15 = .ok (.astore_n 3, 1) := by decide +kernel
theorem dL_run_16 : decode cL_run 16 = .ok (.iconst 2, 1) := by decide +kernel
theorem dL_run_17 : decode cL_run 17 = .ok (.ireturn, 1) := by decide +kernel
theorem dL_run_18 : decode cL_run 18 = .ok (.iconst 0, 1) := by decide +kernel
theorem dL_run_19 : decode cL_run 19 = .ok (.ireturn, 1) := by decide +kernel
theorem dL_stop_0 : decode cL_stop 0 = .ok (.aload_n 3, 1) := by decide +kernel
theorem dL_stop_1 : decode cL_stop 1 = .ok (.iconst 0, 1) := by decide +kernel
theorem dL_stop_2 : decode cL_stop 2 = .ok (.aload_n 0, 1) := by decide +kernel
theorem dL_stop_3 : decode cL_stop 3 = .ok (.iload_n 1, 1) := by decide +kernel
theorem dL_stop_4 : decode cL_stop 4 = .ok (.iload_n 2, 1) := by decide +kernel
theorem dL_stop_5 : decode cL_stop 5 = .ok (.invokevirtual 32, 3) := by decide +kernel
theorem dL_stop_8 : decode cL_stop 8 = .ok (.ifCond .eq 7, 3) := by decide +kernel
theorem dL_stop_11 : decode cL_stop 11 = .ok (.lconst 1, 1) := by decide +kernel
theorem dL_stop_12 : decode cL_stop 12 = .ok (.goto 4, 3) := by decide +kernel
theorem dL_stop_15 : decode cL_stop 15 = .ok (.lconst 0, 1) := by decide +kernel
theorem dL_stop_16 : decode cL_stop 16 = .ok (.lastore, 1) := by decide +kernel
theorem dL_stop_17 : decode cL_stop 17 = .ok (.goto 7, 3) := by decide +kernel
theorem dL_stop_20 : decode cL_stop 20 = .ok (.astore 4, 2) := by decide +kernel
theorem dL_stop_22 : decode cL_stop 22 = .ok (.iconst 1, 1) := by decide +kernel
theorem dL_stop_23 : decode cL_stop 23 = .ok (.ireturn, 1) := by decide +kernel
theorem dL_stop_24 : decode cL_stop 24 = .ok (.iconst 0, 1) := by decide +kernel
theorem dL_stop_25 : decode cL_stop 25 = .ok (.ireturn, 1) := by decide +kernel
theorem dL_told_0 : decode cL_told 0 = .ok (.aload_n 2, 1) := by decide +kernel
theorem dL_told_1 : decode cL_told 1 = .ok (.iconst 0, 1) := by decide +kernel
theorem dL_told_2 : decode cL_told 2 = .ok (.aload_n 0, 1) := by decide +kernel
theorem dL_told_3 : decode cL_told 3 = .ok (.iload_n 1, 1) := by decide +kernel
theorem dL_told_4 : decode cL_told 4 = .ok (.invokevirtual 36, 3) := by decide +kernel
theorem dL_told_7 : decode cL_told 7 = .ok (.i2l, 1) := by decide +kernel
theorem dL_told_8 : decode cL_told 8 = .ok (.lastore, 1) := by decide +kernel
theorem dL_told_9 : decode cL_told 9 = .ok (.goto 6, 3) := by decide +kernel
theorem dL_told_12 : decode cL_told 12 = .ok (.astore_n 3, 1) := by decide +kernel
theorem dL_told_13 : decode cL_told 13 = .ok (.iconst 1, 1) := by decide +kernel
theorem dL_told_14 : decode cL_told 14 = .ok (.ireturn, 1) := by decide +kernel
theorem dL_told_15 : decode cL_told 15 = .ok (.iconst 0, 1) := by decide +kernel
theorem dL_told_16 : decode cL_told 16 = .ok (.ireturn, 1) := by decide +kernel
theorem dL_register_0 : decode cL_register 0 = .ok (.aload_n 2, 1) := by decide +kernel
theorem dL_register_1 : decode cL_register 1 = .ok (.iconst 0, 1) := by decide +kernel
theorem dL_register_2 : decode cL_register 2 = .ok (.aload_n 0, 1) := by decide +kernel
theorem dL_register_3 : decode cL_register 3 = .ok (.iload_n 1, 1) := by decide +kernel
theorem dL_register_4 : decode cL_register 4 = .ok (.invokevirtual 39, 3) := by decide +kernel
theorem dL_register_7 : decode cL_register 7 = .ok (.i2l, 1) := by decide +kernel
theorem dL_register_8 : decode cL_register 8 = .ok (.lastore, 1) := by decide +kernel
theorem dL_register_9 : decode cL_register 9 = .ok (.goto 6, 3) := by decide +kernel
theorem dL_register_12 : decode cL_register 12 = .ok (.astore_n 3, 1) := by decide +kernel
theorem dL_register_13 : decode cL_register 13 = .ok (.iconst 1, 1) := by decide +kernel
theorem dL_register_14 : decode cL_register 14 = .ok (.ireturn, 1) := by decide +kernel
theorem dL_register_15 : decode cL_register 15 = .ok (.iconst 0, 1) := by decide +kernel
theorem dL_register_16 : decode cL_register 16 = .ok (.ireturn, 1) := by decide +kernel
theorem dL_put_0 : decode cL_put 0 = .ok (.aload_n 3, 1) := by decide +kernel
theorem dL_put_1 : decode cL_put 1 = .ok (.iconst 0, 1) := by decide +kernel
theorem dL_put_2 : decode cL_put 2 = .ok (.aload_n 0, 1) := by decide +kernel
theorem dL_put_3 : decode cL_put 3 = .ok (.iload_n 1, 1) := by decide +kernel
theorem dL_put_4 : decode cL_put 4 = .ok (.iload_n 2, 1) := by decide +kernel
theorem dL_put_5 : decode cL_put 5 = .ok (.invokevirtual 44, 3) := by decide +kernel
theorem dL_put_8 : decode cL_put 8 = .ok (.i2l, 1) := by decide +kernel
theorem dL_put_9 : decode cL_put 9 = .ok (.lastore, 1) := by decide +kernel
theorem dL_put_10 : decode cL_put 10 = .ok (.goto 11, 3) := by decide +kernel
theorem dL_put_13 : decode cL_put 13 = .ok (.astore 4, 2) := by decide +kernel
theorem dL_put_15 : decode cL_put 15 = .ok (.iconst 1, 1) := by decide +kernel
theorem dL_put_16 : decode cL_put 16 = .ok (.ireturn, 1) := by decide +kernel
theorem dL_put_17 : decode cL_put 17 = .ok (.astore 4, 2) := by decide +kernel
theorem dL_put_19 : decode cL_put 19 = .ok (.iconst 2, 1) := by decide +kernel
theorem dL_put_20 : decode cL_put 20 = .ok (.ireturn, 1) := by decide +kernel
theorem dL_put_21 : decode cL_put 21 = .ok (.iconst 0, 1) := by decide +kernel
theorem dL_put_22 : decode cL_put 22 = .ok (.ireturn, 1) := by decide +kernel
theorem dL_passed_0 : decode cL_passed 0 = .ok (.aload_n 2, 1) := by decide +kernel
theorem dL_passed_1 : decode cL_passed 1 = .ok (.iconst 0, 1) := by decide +kernel
theorem dL_passed_2 : decode cL_passed 2 = .ok (.aload_n 0, 1) := by decide +kernel
theorem dL_passed_3 : decode cL_passed 3 = .ok (.iload_n 1, 1) := by decide +kernel
theorem dL_passed_4 : decode cL_passed 4 = .ok (.invokevirtual 47, 3) := by decide +kernel
theorem dL_passed_7 : decode cL_passed 7 = .ok (.i2l, 1) := by decide +kernel
theorem dL_passed_8 : decode cL_passed 8 = .ok (.lastore, 1) := by decide +kernel
theorem dL_passed_9 : decode cL_passed 9 = .ok (.goto 6, 3) := by decide +kernel
theorem dL_passed_12 : decode cL_passed 12 = .ok (.astore_n 3, 1) := by decide +kernel
theorem dL_passed_13 : decode cL_passed 13 = .ok (.iconst 1, 1) := by decide +kernel
theorem dL_passed_14 : decode cL_passed 14 = .ok (.ireturn, 1) := by decide +kernel
theorem dL_passed_15 : decode cL_passed 15 = .ok (.iconst 0, 1) := by decide +kernel
theorem dL_passed_16 : decode cL_passed 16 = .ok (.ireturn, 1) := by decide +kernel
theorem xj_ret {α : Type} {jc : α → Option Value} {M : xMd} {L : xLay} {b : Nat × Nat} {pc : Nat} {lv : List (Nat × Value)} {st : List Value} {w w1 : xW} {v : α} {r : Option ((α ⊕ Nat) × xW)} {ι : (α ⊕ Nat) × xW → xO × xW} (h : xJ ι M L b pc lv st w r) (hr : r = some (.inl v, w1)) (hι : ι (.inl v, w1) = (.inl (jc v), w1)) : xJ (fun q : α × xW => (.inl (jc q.1), q.2)) M L b pc lv st w (some (v, w1)) := by
  intro q hq
  cases hq
  have h1 := h _ hr
  rw [hι] at h1
  exact h1
theorem mkX11_feed : xMkV mX11_feed 2 := ⟨⟨tw1458, tw153, ⟨by decide, by decide⟩, by decide +kernel⟩, tw1456, tw1457⟩
set_option maxHeartbeats 1000000 in
theorem hL_feed_r {p0 : Int32} {p1 : Int64} {w w1 : xW} {v : Int32} (hr0 : sX11_feed p0 p1 w = some (.inl v, w1)) : hC yL_feed cL_feed 6 [(0, 11, 14, 13)] (fun G o => [.ref (G.2.2 0), .int p0, .long p1, .ref o]) w w1  0 (fun f => f 0 = v.toInt64) := by
  refine hC_of (by decide) (fun G o => Nat.le_of_ble_eq_true rfl) ?_
  intro l p e s m args below meth c G ex o f ls A hAe hfl S hr hnl htab hK hST hX hA P hO hl
  have hx := S.1
  have hb := S.2.1
  have hl : lv_has ls 6 [(0, .ref (G.2.2 0)), (1, .int p0), (2, .long p1), (4, .ref o)] := hl
  refine lv_aload hx hb dL_feed_0 (lv_at hl 3 rfl) ?_
  refine lv_iconst (v := 0) hx hb dL_feed_2 (by decide) ?_
  refine lv_aload_n hx hb dL_feed_3 rfl (lv_at hl 0 rfl) ?_
  refine lv_iload_n hx hb dL_feed_4 rfl (lv_at hl 1 rfl) ?_
  refine lv_lload_n hx hb dL_feed_5 rfl (lv_at hl 2 rfl) ?_
  refine core_V (jc := jI) (v := v) (M2 := mX11_feed) (n := 2) (nL := 6) (idx := 7) (k := 0) (ci := 0) (N := 9) (T := TX11) (own := RL) (cc := cL_feed) (b2 := (0, 0)) (argv := [.int p0, .long p1]) (rest := [.int 0, .ref o]) S hfl lC_ok hK hST hA P dL_feed_6 (xj_met lC_ok (by decide) (Nat.le_of_ble_eq_true rfl) (Nat.zero_le _) (Nat.zero_le _) (xj_ret (tX11_feed p0 p1 w) hr0 rfl)) mkX11_feed tw1455 ⟨Nat.le_of_ble_eq_true rfl, Nat.le_of_ble_eq_true rfl, rfl, rfl⟩ rfl rfl rfl hl.1 rfl (Nat.le_of_ble_eq_true rfl) (Nat.le_of_ble_eq_true rfl) (Nat.le_of_ble_eq_true rfl) (fun H1 locs1 ex1 P1 hk1 => ?_)
  have hO1 := hO_keep hO hk1
  subst hAe
  show W p l e hRoom s m args below meth c H1 locs1 (0 + 0) (0 + 0) _ (F0 m 9 ls [.int v, .int 0, .ref o])
  refine lv_i2l hx hb dL_feed_9 rfl ?_
  refine h_store (x := v.toInt64) hx hb hK P1 hO1 dL_feed_10 (fun H2 locs2 f2 hf2 P2 hO2 => ?_)
  refine lv_goto (tgt := 18) hx hb dL_feed_11 (by decide) ?_
  refine lv_iconst (v := 0) hx hb dL_feed_18 (by decide) ?_
  exact h_end hx hb hr hnl P2 hO2 hf2 (Nat.zero_le _) (Nat.zero_le _) dL_feed_19
set_option maxHeartbeats 1000000 in
theorem hL_feed_t11 {p0 : Int32} {p1 : Int64} {w w1 : xW} (hr0 : sX11_feed p0 p1 w = some (.inr 11, w1)) : hC yL_feed cL_feed 6 [(0, 11, 14, 13)] (fun G o => [.ref (G.2.2 0), .int p0, .long p1, .ref o]) w w1  1 (fun _ => True) := by
  refine hC_of (by decide) (fun G o => Nat.le_of_ble_eq_true rfl) ?_
  intro l p e s m args below meth c G ex o f ls A hAe hfl S hr hnl htab hK hST hX hA P hO hl
  have hx := S.1
  have hb := S.2.1
  have hl : lv_has ls 6 [(0, .ref (G.2.2 0)), (1, .int p0), (2, .long p1), (4, .ref o)] := hl
  refine lv_aload hx hb dL_feed_0 (lv_at hl 3 rfl) ?_
  refine lv_iconst (v := 0) hx hb dL_feed_2 (by decide) ?_
  refine lv_aload_n hx hb dL_feed_3 rfl (lv_at hl 0 rfl) ?_
  refine lv_iload_n hx hb dL_feed_4 rfl (lv_at hl 1 rfl) ?_
  refine lv_lload_n hx hb dL_feed_5 rfl (lv_at hl 2 rfl) ?_
  refine h_thr (M2 := nX11_feed) (n := 2) (nL := 6) (idx := 7) (own := RL) (cls := IAEx) (argv := [.int p0, .long p1]) (rest := [.int 0, .ref o]) (w2 := w1) S hfl hK hST hX hA P hO dL_feed_6 (xj_thr (argv := .ref 0 :: [.int p0, .long p1]) (pc := 11) (ik := 81) (is := 83) (ic := 85) (text := "n is not 1 to 8") (uX11_feed p0 p1 w) hr0 rfl rfl (by decide) (Nat.le_of_ble_eq_true rfl) ⟨Nat.le_of_ble_eq_true rfl, Nat.le_of_ble_eq_true rfl, Nat.le_of_ble_eq_true rfl, Nat.le_of_ble_eq_true rfl⟩ (by decide +kernel) tw1459 tw173 (List.mem_of_getElem? (i := 0) rfl) thx1 thy1 thW_1 (by decide +kernel) (by decide +kernel) (by decide +kernel) (by decide +kernel) (by decide +kernel)) mkX11_feed tw1455 rfl ⟨Nat.le_of_ble_eq_true rfl, Nat.le_of_ble_eq_true rfl, rfl, rfl⟩ rfl hl.1 rfl (Nat.le_of_ble_eq_true rfl) (Nat.le_of_ble_eq_true rfl) (Nat.le_of_ble_eq_true rfl) (fun H1 locs1 ex1 q9 ce P1 hO1 hce hv9 hcl9 => ?_)
  subst hAe
  refine vx_catch (own := RL) (name := IAEx) (E := IAEx) S.2.2.2.1 [] ⟨0, 11, 14, 13⟩ [] (by rw [htab]; rfl) (fun z hz => absurd hz List.not_mem_nil) (by decide) (by decide) (S.2.2.2.2 _ tw1454) (va_tabs rfl rfl (hX.2.1 (.castable IAEx IAEx) (thW_1 _ (by decide +kernel) rfl))) hce hv9 hcl9 ?_
  refine lv_astore hx hb dL_feed_14 hl (by decide) rfl (fun ls2 hl2 => ?_)
  refine lv_iconst (v := 1) hx hb dL_feed_16 (by decide) ?_
  exact h_end hx hb hr hnl P1 hO1 trivial (Nat.le_refl _) (Nat.le_refl _) dL_feed_17
theorem mkX11_poke : xMkV mX11_poke 2 := ⟨⟨tw1472, tw153, ⟨by decide, by decide⟩, by decide +kernel⟩, tw1470, tw1471⟩
set_option maxHeartbeats 1000000 in
theorem hL_poke_r {p0 : Int32} {p1 : Int32} {w w1 : xW} {v : Int32} (hr0 : sX11_poke p0 p1 w = some (.inl v, w1)) : hC yL_poke cL_poke 5 [(0, 10, 13, 13)] (fun G o => [.ref (G.2.2 0), .int p0, .int p1, .ref o]) w w1  0 (fun f => f 0 = v.toInt64) := by
  refine hC_of (by decide) (fun G o => Nat.le_of_ble_eq_true rfl) ?_
  intro l p e s m args below meth c G ex o f ls A hAe hfl S hr hnl htab hK hST hX hA P hO hl
  have hx := S.1
  have hb := S.2.1
  have hl : lv_has ls 5 [(0, .ref (G.2.2 0)), (1, .int p0), (2, .int p1), (3, .ref o)] := hl
  refine lv_aload_n hx hb dL_poke_0 rfl (lv_at hl 3 rfl) ?_
  refine lv_iconst (v := 0) hx hb dL_poke_1 (by decide) ?_
  refine lv_aload_n hx hb dL_poke_2 rfl (lv_at hl 0 rfl) ?_
  refine lv_iload_n hx hb dL_poke_3 rfl (lv_at hl 1 rfl) ?_
  refine lv_iload_n hx hb dL_poke_4 rfl (lv_at hl 2 rfl) ?_
  refine core_V (jc := jI) (v := v) (M2 := mX11_poke) (n := 2) (nL := 5) (idx := 15) (k := 0) (ci := 0) (N := 9) (T := TX11) (own := RL) (cc := cL_poke) (b2 := (0, 0)) (argv := [.int p0, .int p1]) (rest := [.int 0, .ref o]) S hfl lC_ok hK hST hA P dL_poke_5 (xj_met lC_ok (by decide) (Nat.le_of_ble_eq_true rfl) (Nat.zero_le _) (Nat.zero_le _) (xj_ret (tX11_poke p0 p1 w) hr0 rfl)) mkX11_poke tw1469 ⟨Nat.le_of_ble_eq_true rfl, Nat.le_of_ble_eq_true rfl, rfl, rfl⟩ rfl rfl rfl hl.1 rfl (Nat.le_of_ble_eq_true rfl) (Nat.le_of_ble_eq_true rfl) (Nat.le_of_ble_eq_true rfl) (fun H1 locs1 ex1 P1 hk1 => ?_)
  have hO1 := hO_keep hO hk1
  subst hAe
  show W p l e hRoom s m args below meth c H1 locs1 (0 + 0) (0 + 0) _ (F0 m 8 ls [.int v, .int 0, .ref o])
  refine lv_i2l hx hb dL_poke_8 rfl ?_
  refine h_store (x := v.toInt64) hx hb hK P1 hO1 dL_poke_9 (fun H2 locs2 f2 hf2 P2 hO2 => ?_)
  refine lv_goto (tgt := 17) hx hb dL_poke_10 (by decide) ?_
  refine lv_iconst (v := 0) hx hb dL_poke_17 (by decide) ?_
  exact h_end hx hb hr hnl P2 hO2 hf2 (Nat.zero_le _) (Nat.zero_le _) dL_poke_18
set_option maxHeartbeats 1000000 in
theorem hL_poke_t8 {p0 : Int32} {p1 : Int32} {w w1 : xW} (hr0 : sX11_poke p0 p1 w = some (.inr 8, w1)) : hC yL_poke cL_poke 5 [(0, 10, 13, 13)] (fun G o => [.ref (G.2.2 0), .int p0, .int p1, .ref o]) w w1  1 (fun _ => True) := by
  refine hC_of (by decide) (fun G o => Nat.le_of_ble_eq_true rfl) ?_
  intro l p e s m args below meth c G ex o f ls A hAe hfl S hr hnl htab hK hST hX hA P hO hl
  have hx := S.1
  have hb := S.2.1
  have hl : lv_has ls 5 [(0, .ref (G.2.2 0)), (1, .int p0), (2, .int p1), (3, .ref o)] := hl
  refine lv_aload_n hx hb dL_poke_0 rfl (lv_at hl 3 rfl) ?_
  refine lv_iconst (v := 0) hx hb dL_poke_1 (by decide) ?_
  refine lv_aload_n hx hb dL_poke_2 rfl (lv_at hl 0 rfl) ?_
  refine lv_iload_n hx hb dL_poke_3 rfl (lv_at hl 1 rfl) ?_
  refine lv_iload_n hx hb dL_poke_4 rfl (lv_at hl 2 rfl) ?_
  refine h_thr (M2 := nX11_poke) (n := 2) (nL := 5) (idx := 15) (own := RL) (cls := IAEx) (argv := [.int p0, .int p1]) (rest := [.int 0, .ref o]) (w2 := w1) S hfl hK hST hX hA P hO dL_poke_5 (xj_thr (argv := .ref 0 :: [.int p0, .int p1]) (pc := 8) (ik := 81) (is := 141) (ic := 85) (text := "the address is not in DATA") (uX11_poke p0 p1 w) hr0 rfl rfl (by decide) (Nat.le_of_ble_eq_true rfl) ⟨Nat.le_of_ble_eq_true rfl, Nat.le_of_ble_eq_true rfl, Nat.le_of_ble_eq_true rfl, Nat.le_of_ble_eq_true rfl⟩ (by decide +kernel) tw1459 tw173 (List.mem_of_getElem? (i := 1) rfl) thx1 thy1 thW_1 (by decide +kernel) (by decide +kernel) (by decide +kernel) (by decide +kernel) (by decide +kernel)) mkX11_poke tw1469 rfl ⟨Nat.le_of_ble_eq_true rfl, Nat.le_of_ble_eq_true rfl, rfl, rfl⟩ rfl hl.1 rfl (Nat.le_of_ble_eq_true rfl) (Nat.le_of_ble_eq_true rfl) (Nat.le_of_ble_eq_true rfl) (fun H1 locs1 ex1 q9 ce P1 hO1 hce hv9 hcl9 => ?_)
  subst hAe
  refine vx_catch (own := RL) (name := IAEx) (E := IAEx) S.2.2.2.1 [] ⟨0, 10, 13, 13⟩ [] (by rw [htab]; rfl) (fun z hz => absurd hz List.not_mem_nil) (by decide) (by decide) (S.2.2.2.2 _ tw1454) (va_tabs rfl rfl (hX.2.1 (.castable IAEx IAEx) (thW_1 _ (by decide +kernel) rfl))) hce hv9 hcl9 ?_
  refine lv_astore hx hb dL_poke_13 hl (by decide) rfl (fun ls2 hl2 => ?_)
  refine lv_iconst (v := 1) hx hb dL_poke_15 (by decide) ?_
  exact h_end hx hb hr hnl P1 hO1 trivial (Nat.le_refl _) (Nat.le_refl _) dL_poke_16
set_option maxHeartbeats 1000000 in
theorem hL_poke_t29 {p0 : Int32} {p1 : Int32} {w w1 : xW} (hr0 : sX11_poke p0 p1 w = some (.inr 29, w1)) : hC yL_poke cL_poke 5 [(0, 10, 13, 13)] (fun G o => [.ref (G.2.2 0), .int p0, .int p1, .ref o]) w w1  1 (fun _ => True) := by
  refine hC_of (by decide) (fun G o => Nat.le_of_ble_eq_true rfl) ?_
  intro l p e s m args below meth c G ex o f ls A hAe hfl S hr hnl htab hK hST hX hA P hO hl
  have hx := S.1
  have hb := S.2.1
  have hl : lv_has ls 5 [(0, .ref (G.2.2 0)), (1, .int p0), (2, .int p1), (3, .ref o)] := hl
  refine lv_aload_n hx hb dL_poke_0 rfl (lv_at hl 3 rfl) ?_
  refine lv_iconst (v := 0) hx hb dL_poke_1 (by decide) ?_
  refine lv_aload_n hx hb dL_poke_2 rfl (lv_at hl 0 rfl) ?_
  refine lv_iload_n hx hb dL_poke_3 rfl (lv_at hl 1 rfl) ?_
  refine lv_iload_n hx hb dL_poke_4 rfl (lv_at hl 2 rfl) ?_
  refine h_thr (M2 := nX11_poke) (n := 2) (nL := 5) (idx := 15) (own := RL) (cls := IAEx) (argv := [.int p0, .int p1]) (rest := [.int 0, .ref o]) (w2 := w1) S hfl hK hST hX hA P hO dL_poke_5 (xj_thr (argv := .ref 0 :: [.int p0, .int p1]) (pc := 29) (ik := 81) (is := 143) (ic := 85) (text := "v is not 0 to 255") (uX11_poke p0 p1 w) hr0 rfl rfl (by decide) (Nat.le_of_ble_eq_true rfl) ⟨Nat.le_of_ble_eq_true rfl, Nat.le_of_ble_eq_true rfl, Nat.le_of_ble_eq_true rfl, Nat.le_of_ble_eq_true rfl⟩ (by decide +kernel) tw1459 tw173 (List.mem_of_getElem? (i := 2) rfl) thx1 thy1 thW_1 (by decide +kernel) (by decide +kernel) (by decide +kernel) (by decide +kernel) (by decide +kernel)) mkX11_poke tw1469 rfl ⟨Nat.le_of_ble_eq_true rfl, Nat.le_of_ble_eq_true rfl, rfl, rfl⟩ rfl hl.1 rfl (Nat.le_of_ble_eq_true rfl) (Nat.le_of_ble_eq_true rfl) (Nat.le_of_ble_eq_true rfl) (fun H1 locs1 ex1 q9 ce P1 hO1 hce hv9 hcl9 => ?_)
  subst hAe
  refine vx_catch (own := RL) (name := IAEx) (E := IAEx) S.2.2.2.1 [] ⟨0, 10, 13, 13⟩ [] (by rw [htab]; rfl) (fun z hz => absurd hz List.not_mem_nil) (by decide) (by decide) (S.2.2.2.2 _ tw1454) (va_tabs rfl rfl (hX.2.1 (.castable IAEx IAEx) (thW_1 _ (by decide +kernel) rfl))) hce hv9 hcl9 ?_
  refine lv_astore hx hb dL_poke_13 hl (by decide) rfl (fun ls2 hl2 => ?_)
  refine lv_iconst (v := 1) hx hb dL_poke_15 (by decide) ?_
  exact h_end hx hb hr hnl P1 hO1 trivial (Nat.le_refl _) (Nat.le_refl _) dL_poke_16
theorem mkX11_give : xMkV mX11_give 2 := ⟨⟨tw1485, tw153, ⟨by decide, by decide⟩, by decide +kernel⟩, tw1483, tw1484⟩
set_option maxHeartbeats 1000000 in
theorem hL_give_r {p0 : Int32} {p1 : Int64} {w w1 : xW} {v : Int32} (hr0 : sX11_give p0 p1 w = some (.inl v, w1)) : hC yL_give cL_give 6 [(0, 11, 14, 13)] (fun G o => [.ref (G.2.2 0), .int p0, .long p1, .ref o]) w w1  0 (fun f => f 0 = v.toInt64) := by
  refine hC_of (by decide) (fun G o => Nat.le_of_ble_eq_true rfl) ?_
  intro l p e s m args below meth c G ex o f ls A hAe hfl S hr hnl htab hK hST hX hA P hO hl
  have hx := S.1
  have hb := S.2.1
  have hl : lv_has ls 6 [(0, .ref (G.2.2 0)), (1, .int p0), (2, .long p1), (4, .ref o)] := hl
  refine lv_aload hx hb dL_give_0 (lv_at hl 3 rfl) ?_
  refine lv_iconst (v := 0) hx hb dL_give_2 (by decide) ?_
  refine lv_aload_n hx hb dL_give_3 rfl (lv_at hl 0 rfl) ?_
  refine lv_iload_n hx hb dL_give_4 rfl (lv_at hl 1 rfl) ?_
  refine lv_lload_n hx hb dL_give_5 rfl (lv_at hl 2 rfl) ?_
  refine core_V (jc := jI) (v := v) (M2 := mX11_give) (n := 2) (nL := 6) (idx := 19) (k := 0) (ci := 0) (N := 9) (T := TX11) (own := RL) (cc := cL_give) (b2 := (0, 0)) (argv := [.int p0, .long p1]) (rest := [.int 0, .ref o]) S hfl lC_ok hK hST hA P dL_give_6 (xj_met lC_ok (by decide) (Nat.le_of_ble_eq_true rfl) (Nat.zero_le _) (Nat.zero_le _) (xj_ret (tX11_give p0 p1 w) hr0 rfl)) mkX11_give tw1482 ⟨Nat.le_of_ble_eq_true rfl, Nat.le_of_ble_eq_true rfl, rfl, rfl⟩ rfl rfl rfl hl.1 rfl (Nat.le_of_ble_eq_true rfl) (Nat.le_of_ble_eq_true rfl) (Nat.le_of_ble_eq_true rfl) (fun H1 locs1 ex1 P1 hk1 => ?_)
  have hO1 := hO_keep hO hk1
  subst hAe
  show W p l e hRoom s m args below meth c H1 locs1 (0 + 0) (0 + 0) _ (F0 m 9 ls [.int v, .int 0, .ref o])
  refine lv_i2l hx hb dL_give_9 rfl ?_
  refine h_store (x := v.toInt64) hx hb hK P1 hO1 dL_give_10 (fun H2 locs2 f2 hf2 P2 hO2 => ?_)
  refine lv_goto (tgt := 18) hx hb dL_give_11 (by decide) ?_
  refine lv_iconst (v := 0) hx hb dL_give_18 (by decide) ?_
  exact h_end hx hb hr hnl P2 hO2 hf2 (Nat.zero_le _) (Nat.zero_le _) dL_give_19
set_option maxHeartbeats 1000000 in
theorem hL_give_t11 {p0 : Int32} {p1 : Int64} {w w1 : xW} (hr0 : sX11_give p0 p1 w = some (.inr 11, w1)) : hC yL_give cL_give 6 [(0, 11, 14, 13)] (fun G o => [.ref (G.2.2 0), .int p0, .long p1, .ref o]) w w1  1 (fun _ => True) := by
  refine hC_of (by decide) (fun G o => Nat.le_of_ble_eq_true rfl) ?_
  intro l p e s m args below meth c G ex o f ls A hAe hfl S hr hnl htab hK hST hX hA P hO hl
  have hx := S.1
  have hb := S.2.1
  have hl : lv_has ls 6 [(0, .ref (G.2.2 0)), (1, .int p0), (2, .long p1), (4, .ref o)] := hl
  refine lv_aload hx hb dL_give_0 (lv_at hl 3 rfl) ?_
  refine lv_iconst (v := 0) hx hb dL_give_2 (by decide) ?_
  refine lv_aload_n hx hb dL_give_3 rfl (lv_at hl 0 rfl) ?_
  refine lv_iload_n hx hb dL_give_4 rfl (lv_at hl 1 rfl) ?_
  refine lv_lload_n hx hb dL_give_5 rfl (lv_at hl 2 rfl) ?_
  refine h_thr (M2 := nX11_give) (n := 2) (nL := 6) (idx := 19) (own := RL) (cls := IAEx) (argv := [.int p0, .long p1]) (rest := [.int 0, .ref o]) (w2 := w1) S hfl hK hST hX hA P hO dL_give_6 (xj_thr (argv := .ref 0 :: [.int p0, .long p1]) (pc := 11) (ik := 81) (is := 83) (ic := 85) (text := "n is not 1 to 8") (uX11_give p0 p1 w) hr0 rfl rfl (by decide) (Nat.le_of_ble_eq_true rfl) ⟨Nat.le_of_ble_eq_true rfl, Nat.le_of_ble_eq_true rfl, Nat.le_of_ble_eq_true rfl, Nat.le_of_ble_eq_true rfl⟩ (by decide +kernel) tw1459 tw173 (List.mem_of_getElem? (i := 0) rfl) thx1 thy1 thW_1 (by decide +kernel) (by decide +kernel) (by decide +kernel) (by decide +kernel) (by decide +kernel)) mkX11_give tw1482 rfl ⟨Nat.le_of_ble_eq_true rfl, Nat.le_of_ble_eq_true rfl, rfl, rfl⟩ rfl hl.1 rfl (Nat.le_of_ble_eq_true rfl) (Nat.le_of_ble_eq_true rfl) (Nat.le_of_ble_eq_true rfl) (fun H1 locs1 ex1 q9 ce P1 hO1 hce hv9 hcl9 => ?_)
  subst hAe
  refine vx_catch (own := RL) (name := IAEx) (E := IAEx) S.2.2.2.1 [] ⟨0, 11, 14, 13⟩ [] (by rw [htab]; rfl) (fun z hz => absurd hz List.not_mem_nil) (by decide) (by decide) (S.2.2.2.2 _ tw1454) (va_tabs rfl rfl (hX.2.1 (.castable IAEx IAEx) (thW_1 _ (by decide +kernel) rfl))) hce hv9 hcl9 ?_
  refine lv_astore hx hb dL_give_14 hl (by decide) rfl (fun ls2 hl2 => ?_)
  refine lv_iconst (v := 1) hx hb dL_give_16 (by decide) ?_
  exact h_end hx hb hr hnl P1 hO1 trivial (Nat.le_refl _) (Nat.le_refl _) dL_give_17
theorem mkX11_begin : xMkV mX11_begin 1 := ⟨⟨tw1497, tw153, ⟨by decide, by decide⟩, by decide +kernel⟩, tw1495, tw1496⟩
set_option maxHeartbeats 1000000 in
theorem hL_begin_r {p0 : Int32} {w w1 : xW} {v : Unit} (hr0 : sX11_begin p0 w = some (.inl v, w1)) : hC yL_begin cL_begin 3 [(0, 5, 8, 26)] (fun G o => [.ref (G.2.2 0), .int p0]) w w1  0 (fun _ => True) := by
  refine hC_of (by decide) (fun G o => Nat.le_of_ble_eq_true rfl) ?_
  intro l p e s m args below meth c G ex o f ls A hAe hfl S hr hnl htab hK hST hX hA P hO hl
  have hx := S.1
  have hb := S.2.1
  have hl : lv_has ls 3 [(0, .ref (G.2.2 0)), (1, .int p0)] := hl
  refine lv_aload_n hx hb dL_begin_0 rfl (lv_at hl 0 rfl) ?_
  refine lv_iload_n hx hb dL_begin_1 rfl (lv_at hl 1 rfl) ?_
  refine core_V (jc := jV) (v := v) (M2 := mX11_begin) (n := 1) (nL := 3) (idx := 22) (k := 0) (ci := 0) (N := 9) (T := TX11) (own := RL) (cc := cL_begin) (b2 := (0, 0)) (argv := [.int p0]) (rest := []) S hfl lC_ok hK hST hA P dL_begin_2 (xj_met lC_ok (by decide) (Nat.le_of_ble_eq_true rfl) (Nat.zero_le _) (Nat.zero_le _) (xj_ret (tX11_begin p0 w) hr0 rfl)) mkX11_begin tw1494 ⟨Nat.le_of_ble_eq_true rfl, Nat.le_of_ble_eq_true rfl, rfl, rfl⟩ rfl rfl rfl hl.1 rfl (Nat.le_of_ble_eq_true rfl) (Nat.le_of_ble_eq_true rfl) (Nat.le_of_ble_eq_true rfl) (fun H1 locs1 ex1 P1 hk1 => ?_)
  have hO1 := hO_keep hO hk1
  subst hAe
  show W p l e hRoom s m args below meth c H1 locs1 (0 + 0) (0 + 0) _ (F0 m 5 ls [])
  refine lv_goto (tgt := 11) hx hb dL_begin_5 (by decide) ?_
  refine lv_iconst (v := 0) hx hb dL_begin_11 (by decide) ?_
  exact h_end hx hb hr hnl P1 hO1 trivial (Nat.zero_le _) (Nat.zero_le _) dL_begin_12
set_option maxHeartbeats 1000000 in
theorem hL_begin_t14 {p0 : Int32} {w w1 : xW} (hr0 : sX11_begin p0 w = some (.inr 14, w1)) : hC yL_begin cL_begin 3 [(0, 5, 8, 26)] (fun G o => [.ref (G.2.2 0), .int p0]) w w1  1 (fun _ => True) := by
  refine hC_of (by decide) (fun G o => Nat.le_of_ble_eq_true rfl) ?_
  intro l p e s m args below meth c G ex o f ls A hAe hfl S hr hnl htab hK hST hX hA P hO hl
  have hx := S.1
  have hb := S.2.1
  have hl : lv_has ls 3 [(0, .ref (G.2.2 0)), (1, .int p0)] := hl
  refine lv_aload_n hx hb dL_begin_0 rfl (lv_at hl 0 rfl) ?_
  refine lv_iload_n hx hb dL_begin_1 rfl (lv_at hl 1 rfl) ?_
  refine h_thr (M2 := nX11_begin) (n := 1) (nL := 3) (idx := 22) (own := RL) (cls := ISEx) (argv := [.int p0]) (rest := []) (w2 := w1) S hfl hK hST hX hA P hO dL_begin_2 (xj_thr (argv := .ref 0 :: [.int p0]) (pc := 14) (ik := 162) (is := 164) (ic := 166) (text := "the image is not looked through and VALID") (uX11_begin p0 w) hr0 rfl rfl (by decide) (Nat.le_of_ble_eq_true rfl) ⟨Nat.le_of_ble_eq_true rfl, Nat.le_of_ble_eq_true rfl, Nat.le_of_ble_eq_true rfl, Nat.le_of_ble_eq_true rfl⟩ (by decide +kernel) tw1498 tw184 (List.mem_of_getElem? (i := 3) rfl) thx2 thy2 thW_2 (by decide +kernel) (by decide +kernel) (by decide +kernel) (by decide +kernel) (by decide +kernel)) mkX11_begin tw1494 rfl ⟨Nat.le_of_ble_eq_true rfl, Nat.le_of_ble_eq_true rfl, rfl, rfl⟩ rfl hl.1 rfl (Nat.le_of_ble_eq_true rfl) (Nat.le_of_ble_eq_true rfl) (Nat.le_of_ble_eq_true rfl) (fun H1 locs1 ex1 q9 ce P1 hO1 hce hv9 hcl9 => ?_)
  subst hAe
  refine vx_catch (own := RL) (name := ISEx) (E := ISEx) S.2.2.2.1 [] ⟨0, 5, 8, 26⟩ [] (by rw [htab]; rfl) (fun z hz => absurd hz List.not_mem_nil) (by decide) (by decide) (S.2.2.2.2 _ tw1493) (va_tabs rfl rfl (hX.2.1 (.castable ISEx ISEx) (thW_2 _ (by decide +kernel) rfl))) hce hv9 hcl9 ?_
  refine lv_astore_n hx hb dL_begin_8 rfl hl (by decide) rfl (fun ls2 hl2 => ?_)
  refine lv_iconst (v := 1) hx hb dL_begin_9 (by decide) ?_
  exact h_end hx hb hr hnl P1 hO1 trivial (Nat.le_refl _) (Nat.le_refl _) dL_begin_10
set_option maxHeartbeats 1000000 in
theorem hL_begin_t34 {p0 : Int32} {w w1 : xW} (hr0 : sX11_begin p0 w = some (.inr 34, w1)) : hC yL_begin cL_begin 3 [(0, 5, 8, 26)] (fun G o => [.ref (G.2.2 0), .int p0]) w w1  1 (fun _ => True) := by
  refine hC_of (by decide) (fun G o => Nat.le_of_ble_eq_true rfl) ?_
  intro l p e s m args below meth c G ex o f ls A hAe hfl S hr hnl htab hK hST hX hA P hO hl
  have hx := S.1
  have hb := S.2.1
  have hl : lv_has ls 3 [(0, .ref (G.2.2 0)), (1, .int p0)] := hl
  refine lv_aload_n hx hb dL_begin_0 rfl (lv_at hl 0 rfl) ?_
  refine lv_iload_n hx hb dL_begin_1 rfl (lv_at hl 1 rfl) ?_
  refine h_thr (M2 := nX11_begin) (n := 1) (nL := 3) (idx := 22) (own := RL) (cls := ISEx) (argv := [.int p0]) (rest := []) (w2 := w1) S hfl hK hST hX hA P hO dL_begin_2 (xj_thr (argv := .ref 0 :: [.int p0]) (pc := 34) (ik := 162) (is := 167) (ic := 166) (text := "the image is empty") (uX11_begin p0 w) hr0 rfl rfl (by decide) (Nat.le_of_ble_eq_true rfl) ⟨Nat.le_of_ble_eq_true rfl, Nat.le_of_ble_eq_true rfl, Nat.le_of_ble_eq_true rfl, Nat.le_of_ble_eq_true rfl⟩ (by decide +kernel) tw1498 tw184 (List.mem_of_getElem? (i := 4) rfl) thx2 thy2 thW_2 (by decide +kernel) (by decide +kernel) (by decide +kernel) (by decide +kernel) (by decide +kernel)) mkX11_begin tw1494 rfl ⟨Nat.le_of_ble_eq_true rfl, Nat.le_of_ble_eq_true rfl, rfl, rfl⟩ rfl hl.1 rfl (Nat.le_of_ble_eq_true rfl) (Nat.le_of_ble_eq_true rfl) (Nat.le_of_ble_eq_true rfl) (fun H1 locs1 ex1 q9 ce P1 hO1 hce hv9 hcl9 => ?_)
  subst hAe
  refine vx_catch (own := RL) (name := ISEx) (E := ISEx) S.2.2.2.1 [] ⟨0, 5, 8, 26⟩ [] (by rw [htab]; rfl) (fun z hz => absurd hz List.not_mem_nil) (by decide) (by decide) (S.2.2.2.2 _ tw1493) (va_tabs rfl rfl (hX.2.1 (.castable ISEx ISEx) (thW_2 _ (by decide +kernel) rfl))) hce hv9 hcl9 ?_
  refine lv_astore_n hx hb dL_begin_8 rfl hl (by decide) rfl (fun ls2 hl2 => ?_)
  refine lv_iconst (v := 1) hx hb dL_begin_9 (by decide) ?_
  exact h_end hx hb hr hnl P1 hO1 trivial (Nat.le_refl _) (Nat.le_refl _) dL_begin_10
theorem mkX11_run : xMkV mX11_run 1 := ⟨⟨tw1526, tw153, ⟨by decide, by decide⟩, by decide +kernel⟩, tw1524, tw1525⟩
set_option maxHeartbeats 1000000 in
theorem hL_run_r {p0 : Int32} {w w1 : xW} {v : Int32} (hr0 : sX11_run p0 w = some (.inl v, w1)) : hC yL_run cL_run 4 [(0, 9, 12, 13), (0, 9, 15, 26)] (fun G o => [.ref (G.2.2 0), .int p0, .ref o]) w w1  0 (fun f => f 0 = v.toInt64) := by
  refine hC_of (by decide) (fun G o => Nat.le_of_ble_eq_true rfl) ?_
  intro l p e s m args below meth c G ex o f ls A hAe hfl S hr hnl htab hK hST hX hA P hO hl
  have hx := S.1
  have hb := S.2.1
  have hl : lv_has ls 4 [(0, .ref (G.2.2 0)), (1, .int p0), (2, .ref o)] := hl
  refine lv_aload_n hx hb dL_run_0 rfl (lv_at hl 2 rfl) ?_
  refine lv_iconst (v := 0) hx hb dL_run_1 (by decide) ?_
  refine lv_aload_n hx hb dL_run_2 rfl (lv_at hl 0 rfl) ?_
  refine lv_iload_n hx hb dL_run_3 rfl (lv_at hl 1 rfl) ?_
  refine core_V (jc := jI) (v := v) (M2 := mX11_run) (n := 1) (nL := 4) (idx := 28) (k := 0) (ci := 0) (N := 9) (T := TX11) (own := RL) (cc := cL_run) (b2 := (0, 0)) (argv := [.int p0]) (rest := [.int 0, .ref o]) S hfl lC_ok hK hST hA P dL_run_4 (xj_met lC_ok (by decide) (Nat.le_of_ble_eq_true rfl) (Nat.zero_le _) (Nat.zero_le _) (xj_ret (tX11_run p0 w) hr0 rfl)) mkX11_run tw1523 ⟨Nat.le_of_ble_eq_true rfl, Nat.le_of_ble_eq_true rfl, rfl, rfl⟩ rfl rfl rfl hl.1 rfl (Nat.le_of_ble_eq_true rfl) (Nat.le_of_ble_eq_true rfl) (Nat.le_of_ble_eq_true rfl) (fun H1 locs1 ex1 P1 hk1 => ?_)
  have hO1 := hO_keep hO hk1
  subst hAe
  show W p l e hRoom s m args below meth c H1 locs1 (0 + 0) (0 + 0) _ (F0 m 7 ls [.int v, .int 0, .ref o])
  refine lv_i2l hx hb dL_run_7 rfl ?_
  refine h_store (x := v.toInt64) hx hb hK P1 hO1 dL_run_8 (fun H2 locs2 f2 hf2 P2 hO2 => ?_)
  refine lv_goto (tgt := 18) hx hb dL_run_9 (by decide) ?_
  refine lv_iconst (v := 0) hx hb dL_run_18 (by decide) ?_
  exact h_end hx hb hr hnl P2 hO2 hf2 (Nat.zero_le _) (Nat.zero_le _) dL_run_19
set_option maxHeartbeats 1000000 in
theorem hL_run_t11 {p0 : Int32} {w w1 : xW} (hr0 : sX11_run p0 w = some (.inr 11, w1)) : hC yL_run cL_run 4 [(0, 9, 12, 13), (0, 9, 15, 26)] (fun G o => [.ref (G.2.2 0), .int p0, .ref o]) w w1  1 (fun _ => True) := by
  refine hC_of (by decide) (fun G o => Nat.le_of_ble_eq_true rfl) ?_
  intro l p e s m args below meth c G ex o f ls A hAe hfl S hr hnl htab hK hST hX hA P hO hl
  have hx := S.1
  have hb := S.2.1
  have hl : lv_has ls 4 [(0, .ref (G.2.2 0)), (1, .int p0), (2, .ref o)] := hl
  refine lv_aload_n hx hb dL_run_0 rfl (lv_at hl 2 rfl) ?_
  refine lv_iconst (v := 0) hx hb dL_run_1 (by decide) ?_
  refine lv_aload_n hx hb dL_run_2 rfl (lv_at hl 0 rfl) ?_
  refine lv_iload_n hx hb dL_run_3 rfl (lv_at hl 1 rfl) ?_
  refine h_thr (M2 := nX11_run) (n := 1) (nL := 4) (idx := 28) (own := RL) (cls := IAEx) (argv := [.int p0]) (rest := [.int 0, .ref o]) (w2 := w1) S hfl hK hST hX hA P hO dL_run_4 (xj_thr (argv := .ref 0 :: [.int p0]) (pc := 11) (ik := 81) (is := 173) (ic := 85) (text := "n is not 0 to 10000") (uX11_run p0 w) hr0 rfl rfl (by decide) (Nat.le_of_ble_eq_true rfl) ⟨Nat.le_of_ble_eq_true rfl, Nat.le_of_ble_eq_true rfl, Nat.le_of_ble_eq_true rfl, Nat.le_of_ble_eq_true rfl⟩ (by decide +kernel) tw1459 tw173 (List.mem_of_getElem? (i := 5) rfl) thx1 thy1 thW_1 (by decide +kernel) (by decide +kernel) (by decide +kernel) (by decide +kernel) (by decide +kernel)) mkX11_run tw1523 rfl ⟨Nat.le_of_ble_eq_true rfl, Nat.le_of_ble_eq_true rfl, rfl, rfl⟩ rfl hl.1 rfl (Nat.le_of_ble_eq_true rfl) (Nat.le_of_ble_eq_true rfl) (Nat.le_of_ble_eq_true rfl) (fun H1 locs1 ex1 q9 ce P1 hO1 hce hv9 hcl9 => ?_)
  subst hAe
  refine vx_catch (own := RL) (name := IAEx) (E := IAEx) S.2.2.2.1 [] ⟨0, 9, 12, 13⟩ [⟨0, 9, 15, 26⟩] (by rw [htab]; rfl) (fun z hz => absurd hz List.not_mem_nil) (by decide) (by decide) (S.2.2.2.2 _ tw1454) (va_tabs rfl rfl (hX.2.1 (.castable IAEx IAEx) (thW_1 _ (by decide +kernel) rfl))) hce hv9 hcl9 ?_
  refine lv_astore_n hx hb dL_run_12 rfl hl (by decide) rfl (fun ls2 hl2 => ?_)
  refine lv_iconst (v := 1) hx hb dL_run_13 (by decide) ?_
  exact h_end hx hb hr hnl P1 hO1 trivial (Nat.le_refl _) (Nat.le_refl _) dL_run_14
set_option maxHeartbeats 1000000 in
theorem hL_run_t31 {p0 : Int32} {w w1 : xW} (hr0 : sX11_run p0 w = some (.inr 31, w1)) : hC yL_run cL_run 4 [(0, 9, 12, 13), (0, 9, 15, 26)] (fun G o => [.ref (G.2.2 0), .int p0, .ref o]) w w1  2 (fun _ => True) := by
  refine hC_of (by decide) (fun G o => Nat.le_of_ble_eq_true rfl) ?_
  intro l p e s m args below meth c G ex o f ls A hAe hfl S hr hnl htab hK hST hX hA P hO hl
  have hx := S.1
  have hb := S.2.1
  have hl : lv_has ls 4 [(0, .ref (G.2.2 0)), (1, .int p0), (2, .ref o)] := hl
  refine lv_aload_n hx hb dL_run_0 rfl (lv_at hl 2 rfl) ?_
  refine lv_iconst (v := 0) hx hb dL_run_1 (by decide) ?_
  refine lv_aload_n hx hb dL_run_2 rfl (lv_at hl 0 rfl) ?_
  refine lv_iload_n hx hb dL_run_3 rfl (lv_at hl 1 rfl) ?_
  refine h_thr (M2 := nX11_run) (n := 1) (nL := 4) (idx := 28) (own := RL) (cls := ISEx) (argv := [.int p0]) (rest := [.int 0, .ref o]) (w2 := w1) S hfl hK hST hX hA P hO dL_run_4 (xj_thr (argv := .ref 0 :: [.int p0]) (pc := 31) (ik := 162) (is := 175) (ic := 166) (text := "no run was begun") (uX11_run p0 w) hr0 rfl rfl (by decide) (Nat.le_of_ble_eq_true rfl) ⟨Nat.le_of_ble_eq_true rfl, Nat.le_of_ble_eq_true rfl, Nat.le_of_ble_eq_true rfl, Nat.le_of_ble_eq_true rfl⟩ (by decide +kernel) tw1498 tw184 (List.mem_of_getElem? (i := 6) rfl) thx2 thy2 thW_2 (by decide +kernel) (by decide +kernel) (by decide +kernel) (by decide +kernel) (by decide +kernel)) mkX11_run tw1523 rfl ⟨Nat.le_of_ble_eq_true rfl, Nat.le_of_ble_eq_true rfl, rfl, rfl⟩ rfl hl.1 rfl (Nat.le_of_ble_eq_true rfl) (Nat.le_of_ble_eq_true rfl) (Nat.le_of_ble_eq_true rfl) (fun H1 locs1 ex1 q9 ce P1 hO1 hce hv9 hcl9 => ?_)
  subst hAe
  refine vx_catch (own := RL) (name := ISEx) (E := ISEx) S.2.2.2.1 [⟨0, 9, 12, 13⟩] ⟨0, 9, 15, 26⟩ [] (by rw [htab]; rfl) (fun z hz => by rw [List.mem_singleton.mp hz]; exact Or.inr ⟨by decide, IAEx, S.2.2.2.2 _ tw1454, hX.2.2.2.1⟩) (by decide) (by decide) (S.2.2.2.2 _ tw1493) (va_tabs rfl rfl (hX.2.1 (.castable ISEx ISEx) (thW_2 _ (by decide +kernel) rfl))) hce hv9 hcl9 ?_
  refine lv_astore_n hx hb dL_run_15 rfl hl (by decide) rfl (fun ls2 hl2 => ?_)
  refine lv_iconst (v := 2) hx hb dL_run_16 (by decide) ?_
  exact h_end hx hb hr hnl P1 hO1 trivial (Nat.le_refl _) (Nat.le_refl _) dL_run_17
theorem mkX11_stop : xMkV mX11_stop 2 := ⟨⟨tw1849, tw153, ⟨by decide, by decide⟩, by decide +kernel⟩, tw1847, tw1848⟩
set_option maxHeartbeats 1000000 in
theorem hL_stop_r {p0 : Int32} {p1 : Int32} {w w1 : xW} {v : Int32} (hr0 : sX11_stop p0 p1 w = some (.inl v, w1)) : hC yL_stop cL_stop 5 [(0, 17, 20, 13)] (fun G o => [.ref (G.2.2 0), .int p0, .int p1, .ref o]) w w1  0 (fun f => f 0 = (if v = 0 then 0 else 1)) := by
  refine hC_of (by decide) (fun G o => Nat.le_of_ble_eq_true rfl) ?_
  intro l p e s m args below meth c G ex o f ls A hAe hfl S hr hnl htab hK hST hX hA P hO hl
  have hx := S.1
  have hb := S.2.1
  have hl : lv_has ls 5 [(0, .ref (G.2.2 0)), (1, .int p0), (2, .int p1), (3, .ref o)] := hl
  refine lv_aload_n hx hb dL_stop_0 rfl (lv_at hl 3 rfl) ?_
  refine lv_iconst (v := 0) hx hb dL_stop_1 (by decide) ?_
  refine lv_aload_n hx hb dL_stop_2 rfl (lv_at hl 0 rfl) ?_
  refine lv_iload_n hx hb dL_stop_3 rfl (lv_at hl 1 rfl) ?_
  refine lv_iload_n hx hb dL_stop_4 rfl (lv_at hl 2 rfl) ?_
  refine core_V (jc := jI) (v := v) (M2 := mX11_stop) (n := 2) (nL := 5) (idx := 32) (k := 0) (ci := 0) (N := 9) (T := TX11) (own := RL) (cc := cL_stop) (b2 := (0, 0)) (argv := [.int p0, .int p1]) (rest := [.int 0, .ref o]) S hfl lC_ok hK hST hA P dL_stop_5 (xj_met lC_ok (by decide) (Nat.le_of_ble_eq_true rfl) (Nat.zero_le _) (Nat.zero_le _) (xj_ret (tX11_stop p0 p1 w) hr0 rfl)) mkX11_stop tw1846 ⟨Nat.le_of_ble_eq_true rfl, Nat.le_of_ble_eq_true rfl, rfl, rfl⟩ rfl rfl rfl hl.1 rfl (Nat.le_of_ble_eq_true rfl) (Nat.le_of_ble_eq_true rfl) (Nat.le_of_ble_eq_true rfl) (fun H1 locs1 ex1 P1 hk1 => ?_)
  have hO1 := hO_keep hO hk1
  subst hAe
  show W p l e hRoom s m args below meth c H1 locs1 (0 + 0) (0 + 0) _ (F0 m 8 ls [.int v, .int 0, .ref o])
  refine lv_if_eq (tgt := 15) hx hb dL_stop_8 (by decide) (fun q => ?_) (fun q => ?_)
  · refine lv_lconst (v := 0) hx hb dL_stop_15 (by decide) ?_
    refine h_store (x := 0) hx hb hK P1 hO1 dL_stop_16 (fun H2 locs2 f2 hf2 P2 hO2 => ?_)
    refine lv_goto (tgt := 24) hx hb dL_stop_17 (by decide) ?_
    refine lv_iconst (v := 0) hx hb dL_stop_24 (by decide) ?_
    exact h_end hx hb hr hnl P2 hO2 (hf2.trans (if_pos q).symm) (Nat.zero_le _) (Nat.zero_le _) dL_stop_25
  · refine lv_lconst (v := 1) hx hb dL_stop_11 (by decide) ?_
    refine lv_goto (tgt := 16) hx hb dL_stop_12 (by decide) ?_
    refine h_store (x := 1) hx hb hK P1 hO1 dL_stop_16 (fun H2 locs2 f2 hf2 P2 hO2 => ?_)
    refine lv_goto (tgt := 24) hx hb dL_stop_17 (by decide) ?_
    refine lv_iconst (v := 0) hx hb dL_stop_24 (by decide) ?_
    exact h_end hx hb hr hnl P2 hO2 (hf2.trans (if_neg q).symm) (Nat.zero_le _) (Nat.zero_le _) dL_stop_25
set_option maxHeartbeats 1000000 in
theorem hL_stop_t11 {p0 : Int32} {p1 : Int32} {w w1 : xW} (hr0 : sX11_stop p0 p1 w = some (.inr 11, w1)) : hC yL_stop cL_stop 5 [(0, 17, 20, 13)] (fun G o => [.ref (G.2.2 0), .int p0, .int p1, .ref o]) w w1  1 (fun _ => True) := by
  refine hC_of (by decide) (fun G o => Nat.le_of_ble_eq_true rfl) ?_
  intro l p e s m args below meth c G ex o f ls A hAe hfl S hr hnl htab hK hST hX hA P hO hl
  have hx := S.1
  have hb := S.2.1
  have hl : lv_has ls 5 [(0, .ref (G.2.2 0)), (1, .int p0), (2, .int p1), (3, .ref o)] := hl
  refine lv_aload_n hx hb dL_stop_0 rfl (lv_at hl 3 rfl) ?_
  refine lv_iconst (v := 0) hx hb dL_stop_1 (by decide) ?_
  refine lv_aload_n hx hb dL_stop_2 rfl (lv_at hl 0 rfl) ?_
  refine lv_iload_n hx hb dL_stop_3 rfl (lv_at hl 1 rfl) ?_
  refine lv_iload_n hx hb dL_stop_4 rfl (lv_at hl 2 rfl) ?_
  refine h_thr (M2 := nX11_stop) (n := 2) (nL := 5) (idx := 32) (own := RL) (cls := IAEx) (argv := [.int p0, .int p1]) (rest := [.int 0, .ref o]) (w2 := w1) S hfl hK hST hX hA P hO dL_stop_5 (xj_thr (argv := .ref 0 :: [.int p0, .int p1]) (pc := 11) (ik := 81) (is := 190) (ic := 85) (text := "place is not 0 to 2047") (uX11_stop p0 p1 w) hr0 rfl rfl (by decide) (Nat.le_of_ble_eq_true rfl) ⟨Nat.le_of_ble_eq_true rfl, Nat.le_of_ble_eq_true rfl, Nat.le_of_ble_eq_true rfl, Nat.le_of_ble_eq_true rfl⟩ (by decide +kernel) tw1459 tw173 (List.mem_of_getElem? (i := 7) rfl) thx1 thy1 thW_1 (by decide +kernel) (by decide +kernel) (by decide +kernel) (by decide +kernel) (by decide +kernel)) mkX11_stop tw1846 rfl ⟨Nat.le_of_ble_eq_true rfl, Nat.le_of_ble_eq_true rfl, rfl, rfl⟩ rfl hl.1 rfl (Nat.le_of_ble_eq_true rfl) (Nat.le_of_ble_eq_true rfl) (Nat.le_of_ble_eq_true rfl) (fun H1 locs1 ex1 q9 ce P1 hO1 hce hv9 hcl9 => ?_)
  subst hAe
  refine vx_catch (own := RL) (name := IAEx) (E := IAEx) S.2.2.2.1 [] ⟨0, 17, 20, 13⟩ [] (by rw [htab]; rfl) (fun z hz => absurd hz List.not_mem_nil) (by decide) (by decide) (S.2.2.2.2 _ tw1454) (va_tabs rfl rfl (hX.2.1 (.castable IAEx IAEx) (thW_1 _ (by decide +kernel) rfl))) hce hv9 hcl9 ?_
  refine lv_astore hx hb dL_stop_20 hl (by decide) rfl (fun ls2 hl2 => ?_)
  refine lv_iconst (v := 1) hx hb dL_stop_22 (by decide) ?_
  exact h_end hx hb hr hnl P1 hO1 trivial (Nat.le_refl _) (Nat.le_refl _) dL_stop_23
theorem mkX11_told : xMkV mX11_told 1 := ⟨⟨tw1857, tw153, ⟨by decide, by decide⟩, by decide +kernel⟩, tw1855, tw1856⟩
set_option maxHeartbeats 1000000 in
theorem hL_told_r {p0 : Int32} {w w1 : xW} {v : Int32} (hr0 : sX11_told p0 w = some (.inl v, w1)) : hC yL_told cL_told 4 [(0, 9, 12, 13)] (fun G o => [.ref (G.2.2 0), .int p0, .ref o]) w w1  0 (fun f => f 0 = v.toInt64) := by
  refine hC_of (by decide) (fun G o => Nat.le_of_ble_eq_true rfl) ?_
  intro l p e s m args below meth c G ex o f ls A hAe hfl S hr hnl htab hK hST hX hA P hO hl
  have hx := S.1
  have hb := S.2.1
  have hl : lv_has ls 4 [(0, .ref (G.2.2 0)), (1, .int p0), (2, .ref o)] := hl
  refine lv_aload_n hx hb dL_told_0 rfl (lv_at hl 2 rfl) ?_
  refine lv_iconst (v := 0) hx hb dL_told_1 (by decide) ?_
  refine lv_aload_n hx hb dL_told_2 rfl (lv_at hl 0 rfl) ?_
  refine lv_iload_n hx hb dL_told_3 rfl (lv_at hl 1 rfl) ?_
  refine core_V (jc := jI) (v := v) (M2 := mX11_told) (n := 1) (nL := 4) (idx := 36) (k := 0) (ci := 0) (N := 9) (T := TX11) (own := RL) (cc := cL_told) (b2 := (0, 0)) (argv := [.int p0]) (rest := [.int 0, .ref o]) S hfl lC_ok hK hST hA P dL_told_4 (xj_met lC_ok (by decide) (Nat.le_of_ble_eq_true rfl) (Nat.zero_le _) (Nat.zero_le _) (xj_ret (tX11_told p0 w) hr0 rfl)) mkX11_told tw1854 ⟨Nat.le_of_ble_eq_true rfl, Nat.le_of_ble_eq_true rfl, rfl, rfl⟩ rfl rfl rfl hl.1 rfl (Nat.le_of_ble_eq_true rfl) (Nat.le_of_ble_eq_true rfl) (Nat.le_of_ble_eq_true rfl) (fun H1 locs1 ex1 P1 hk1 => ?_)
  have hO1 := hO_keep hO hk1
  subst hAe
  show W p l e hRoom s m args below meth c H1 locs1 (0 + 0) (0 + 0) _ (F0 m 7 ls [.int v, .int 0, .ref o])
  refine lv_i2l hx hb dL_told_7 rfl ?_
  refine h_store (x := v.toInt64) hx hb hK P1 hO1 dL_told_8 (fun H2 locs2 f2 hf2 P2 hO2 => ?_)
  refine lv_goto (tgt := 15) hx hb dL_told_9 (by decide) ?_
  refine lv_iconst (v := 0) hx hb dL_told_15 (by decide) ?_
  exact h_end hx hb hr hnl P2 hO2 hf2 (Nat.zero_le _) (Nat.zero_le _) dL_told_16
set_option maxHeartbeats 1000000 in
theorem hL_told_t115 {p0 : Int32} {w w1 : xW} (hr0 : sX11_told p0 w = some (.inr 115, w1)) : hC yL_told cL_told 4 [(0, 9, 12, 13)] (fun G o => [.ref (G.2.2 0), .int p0, .ref o]) w w1  1 (fun _ => True) := by
  refine hC_of (by decide) (fun G o => Nat.le_of_ble_eq_true rfl) ?_
  intro l p e s m args below meth c G ex o f ls A hAe hfl S hr hnl htab hK hST hX hA P hO hl
  have hx := S.1
  have hb := S.2.1
  have hl : lv_has ls 4 [(0, .ref (G.2.2 0)), (1, .int p0), (2, .ref o)] := hl
  refine lv_aload_n hx hb dL_told_0 rfl (lv_at hl 2 rfl) ?_
  refine lv_iconst (v := 0) hx hb dL_told_1 (by decide) ?_
  refine lv_aload_n hx hb dL_told_2 rfl (lv_at hl 0 rfl) ?_
  refine lv_iload_n hx hb dL_told_3 rfl (lv_at hl 1 rfl) ?_
  refine h_thr (M2 := nX11_told) (n := 1) (nL := 4) (idx := 36) (own := RL) (cls := IAEx) (argv := [.int p0]) (rest := [.int 0, .ref o]) (w2 := w1) S hfl hK hST hX hA P hO dL_told_4 (xj_thr (argv := .ref 0 :: [.int p0]) (pc := 115) (ik := 81) (is := 213) (ic := 85) (text := "what is not 0 to 7") (uX11_told p0 w) hr0 rfl rfl (by decide) (Nat.le_of_ble_eq_true rfl) ⟨Nat.le_of_ble_eq_true rfl, Nat.le_of_ble_eq_true rfl, Nat.le_of_ble_eq_true rfl, Nat.le_of_ble_eq_true rfl⟩ (by decide +kernel) tw1459 tw173 (List.mem_of_getElem? (i := 8) rfl) thx1 thy1 thW_1 (by decide +kernel) (by decide +kernel) (by decide +kernel) (by decide +kernel) (by decide +kernel)) mkX11_told tw1854 rfl ⟨Nat.le_of_ble_eq_true rfl, Nat.le_of_ble_eq_true rfl, rfl, rfl⟩ rfl hl.1 rfl (Nat.le_of_ble_eq_true rfl) (Nat.le_of_ble_eq_true rfl) (Nat.le_of_ble_eq_true rfl) (fun H1 locs1 ex1 q9 ce P1 hO1 hce hv9 hcl9 => ?_)
  subst hAe
  refine vx_catch (own := RL) (name := IAEx) (E := IAEx) S.2.2.2.1 [] ⟨0, 9, 12, 13⟩ [] (by rw [htab]; rfl) (fun z hz => absurd hz List.not_mem_nil) (by decide) (by decide) (S.2.2.2.2 _ tw1454) (va_tabs rfl rfl (hX.2.1 (.castable IAEx IAEx) (thW_1 _ (by decide +kernel) rfl))) hce hv9 hcl9 ?_
  refine lv_astore_n hx hb dL_told_12 rfl hl (by decide) rfl (fun ls2 hl2 => ?_)
  refine lv_iconst (v := 1) hx hb dL_told_13 (by decide) ?_
  exact h_end hx hb hr hnl P1 hO1 trivial (Nat.le_refl _) (Nat.le_refl _) dL_told_14
theorem mkX11_register : xMkV mX11_register 1 := ⟨⟨tw1866, tw153, ⟨by decide, by decide⟩, by decide +kernel⟩, tw1864, tw1865⟩
set_option maxHeartbeats 1000000 in
theorem hL_register_r {p0 : Int32} {w w1 : xW} {v : Int32} (hr0 : sX11_register p0 w = some (.inl v, w1)) : hC yL_register cL_register 4 [(0, 9, 12, 42)] (fun G o => [.ref (G.2.2 0), .int p0, .ref o]) w w1  0 (fun f => f 0 = v.toInt64) := by
  refine hC_of (by decide) (fun G o => Nat.le_of_ble_eq_true rfl) ?_
  intro l p e s m args below meth c G ex o f ls A hAe hfl S hr hnl htab hK hST hX hA P hO hl
  have hx := S.1
  have hb := S.2.1
  have hl : lv_has ls 4 [(0, .ref (G.2.2 0)), (1, .int p0), (2, .ref o)] := hl
  refine lv_aload_n hx hb dL_register_0 rfl (lv_at hl 2 rfl) ?_
  refine lv_iconst (v := 0) hx hb dL_register_1 (by decide) ?_
  refine lv_aload_n hx hb dL_register_2 rfl (lv_at hl 0 rfl) ?_
  refine lv_iload_n hx hb dL_register_3 rfl (lv_at hl 1 rfl) ?_
  refine core_V (jc := jI) (v := v) (M2 := mX11_register) (n := 1) (nL := 4) (idx := 39) (k := 0) (ci := 0) (N := 9) (T := TX11) (own := RL) (cc := cL_register) (b2 := (0, 0)) (argv := [.int p0]) (rest := [.int 0, .ref o]) S hfl lC_ok hK hST hA P dL_register_4 (xj_met lC_ok (by decide) (Nat.le_of_ble_eq_true rfl) (Nat.zero_le _) (Nat.zero_le _) (xj_ret (tX11_register p0 w) hr0 rfl)) mkX11_register tw1863 ⟨Nat.le_of_ble_eq_true rfl, Nat.le_of_ble_eq_true rfl, rfl, rfl⟩ rfl rfl rfl hl.1 rfl (Nat.le_of_ble_eq_true rfl) (Nat.le_of_ble_eq_true rfl) (Nat.le_of_ble_eq_true rfl) (fun H1 locs1 ex1 P1 hk1 => ?_)
  have hO1 := hO_keep hO hk1
  subst hAe
  show W p l e hRoom s m args below meth c H1 locs1 (0 + 0) (0 + 0) _ (F0 m 7 ls [.int v, .int 0, .ref o])
  refine lv_i2l hx hb dL_register_7 rfl ?_
  refine h_store (x := v.toInt64) hx hb hK P1 hO1 dL_register_8 (fun H2 locs2 f2 hf2 P2 hO2 => ?_)
  refine lv_goto (tgt := 15) hx hb dL_register_9 (by decide) ?_
  refine lv_iconst (v := 0) hx hb dL_register_15 (by decide) ?_
  exact h_end hx hb hr hnl P2 hO2 hf2 (Nat.zero_le _) (Nat.zero_le _) dL_register_16
set_option maxHeartbeats 1000000 in
theorem hL_register_t10 {p0 : Int32} {w w1 : xW} (hr0 : sX11_register p0 w = some (.inr 10, w1)) : hC yL_register cL_register 4 [(0, 9, 12, 42)] (fun G o => [.ref (G.2.2 0), .int p0, .ref o]) w w1  1 (fun _ => True) := by
  refine hC_of (by decide) (fun G o => Nat.le_of_ble_eq_true rfl) ?_
  intro l p e s m args below meth c G ex o f ls A hAe hfl S hr hnl htab hK hST hX hA P hO hl
  have hx := S.1
  have hb := S.2.1
  have hl : lv_has ls 4 [(0, .ref (G.2.2 0)), (1, .int p0), (2, .ref o)] := hl
  refine lv_aload_n hx hb dL_register_0 rfl (lv_at hl 2 rfl) ?_
  refine lv_iconst (v := 0) hx hb dL_register_1 (by decide) ?_
  refine lv_aload_n hx hb dL_register_2 rfl (lv_at hl 0 rfl) ?_
  refine lv_iload_n hx hb dL_register_3 rfl (lv_at hl 1 rfl) ?_
  refine h_thr (M2 := nX11_register) (n := 1) (nL := 4) (idx := 39) (own := RL) (cls := IOBx) (argv := [.int p0]) (rest := [.int 0, .ref o]) (w2 := w1) S hfl hK hST hX hA P hO dL_register_4 (xj_thr (argv := .ref 0 :: [.int p0]) (pc := 10) (ik := 219) (is := 221) (ic := 223) (text := "there is no such register") (uX11_register p0 w) hr0 rfl rfl (by decide) (Nat.le_of_ble_eq_true rfl) ⟨Nat.le_of_ble_eq_true rfl, Nat.le_of_ble_eq_true rfl, Nat.le_of_ble_eq_true rfl, Nat.le_of_ble_eq_true rfl⟩ (by decide +kernel) tw1867 tw175 (List.mem_of_getElem? (i := 9) rfl) thx3 thy3 thW_3 (by decide +kernel) (by decide +kernel) (by decide +kernel) (by decide +kernel) (by decide +kernel)) mkX11_register tw1863 rfl ⟨Nat.le_of_ble_eq_true rfl, Nat.le_of_ble_eq_true rfl, rfl, rfl⟩ rfl hl.1 rfl (Nat.le_of_ble_eq_true rfl) (Nat.le_of_ble_eq_true rfl) (Nat.le_of_ble_eq_true rfl) (fun H1 locs1 ex1 q9 ce P1 hO1 hce hv9 hcl9 => ?_)
  subst hAe
  refine vx_catch (own := RL) (name := IOBx) (E := IOBx) S.2.2.2.1 [] ⟨0, 9, 12, 42⟩ [] (by rw [htab]; rfl) (fun z hz => absurd hz List.not_mem_nil) (by decide) (by decide) (S.2.2.2.2 _ tw1862) (va_tabs rfl rfl (hX.2.1 (.castable IOBx IOBx) (thW_3 _ (by decide +kernel) rfl))) hce hv9 hcl9 ?_
  refine lv_astore_n hx hb dL_register_12 rfl hl (by decide) rfl (fun ls2 hl2 => ?_)
  refine lv_iconst (v := 1) hx hb dL_register_13 (by decide) ?_
  exact h_end hx hb hr hnl P1 hO1 trivial (Nat.le_refl _) (Nat.le_refl _) dL_register_14
theorem mkX11_put : xMkV mX11_put 2 := ⟨⟨tw1886, tw153, ⟨by decide, by decide⟩, by decide +kernel⟩, tw1884, tw1885⟩
set_option maxHeartbeats 1000000 in
theorem hL_put_r {p0 : Int32} {p1 : Int32} {w w1 : xW} {v : Int32} (hr0 : sX11_put p0 p1 w = some (.inl v, w1)) : hC yL_put cL_put 5 [(0, 10, 13, 42), (0, 10, 17, 26)] (fun G o => [.ref (G.2.2 0), .int p0, .int p1, .ref o]) w w1  0 (fun f => f 0 = v.toInt64) := by
  refine hC_of (by decide) (fun G o => Nat.le_of_ble_eq_true rfl) ?_
  intro l p e s m args below meth c G ex o f ls A hAe hfl S hr hnl htab hK hST hX hA P hO hl
  have hx := S.1
  have hb := S.2.1
  have hl : lv_has ls 5 [(0, .ref (G.2.2 0)), (1, .int p0), (2, .int p1), (3, .ref o)] := hl
  refine lv_aload_n hx hb dL_put_0 rfl (lv_at hl 3 rfl) ?_
  refine lv_iconst (v := 0) hx hb dL_put_1 (by decide) ?_
  refine lv_aload_n hx hb dL_put_2 rfl (lv_at hl 0 rfl) ?_
  refine lv_iload_n hx hb dL_put_3 rfl (lv_at hl 1 rfl) ?_
  refine lv_iload_n hx hb dL_put_4 rfl (lv_at hl 2 rfl) ?_
  refine core_V (jc := jI) (v := v) (M2 := mX11_put) (n := 2) (nL := 5) (idx := 44) (k := 0) (ci := 0) (N := 9) (T := TX11) (own := RL) (cc := cL_put) (b2 := (0, 0)) (argv := [.int p0, .int p1]) (rest := [.int 0, .ref o]) S hfl lC_ok hK hST hA P dL_put_5 (xj_met lC_ok (by decide) (Nat.le_of_ble_eq_true rfl) (Nat.zero_le _) (Nat.zero_le _) (xj_ret (tX11_put p0 p1 w) hr0 rfl)) mkX11_put tw1883 ⟨Nat.le_of_ble_eq_true rfl, Nat.le_of_ble_eq_true rfl, rfl, rfl⟩ rfl rfl rfl hl.1 rfl (Nat.le_of_ble_eq_true rfl) (Nat.le_of_ble_eq_true rfl) (Nat.le_of_ble_eq_true rfl) (fun H1 locs1 ex1 P1 hk1 => ?_)
  have hO1 := hO_keep hO hk1
  subst hAe
  show W p l e hRoom s m args below meth c H1 locs1 (0 + 0) (0 + 0) _ (F0 m 8 ls [.int v, .int 0, .ref o])
  refine lv_i2l hx hb dL_put_8 rfl ?_
  refine h_store (x := v.toInt64) hx hb hK P1 hO1 dL_put_9 (fun H2 locs2 f2 hf2 P2 hO2 => ?_)
  refine lv_goto (tgt := 21) hx hb dL_put_10 (by decide) ?_
  refine lv_iconst (v := 0) hx hb dL_put_21 (by decide) ?_
  exact h_end hx hb hr hnl P2 hO2 hf2 (Nat.zero_le _) (Nat.zero_le _) dL_put_22
set_option maxHeartbeats 1000000 in
theorem hL_put_t10 {p0 : Int32} {p1 : Int32} {w w1 : xW} (hr0 : sX11_put p0 p1 w = some (.inr 10, w1)) : hC yL_put cL_put 5 [(0, 10, 13, 42), (0, 10, 17, 26)] (fun G o => [.ref (G.2.2 0), .int p0, .int p1, .ref o]) w w1  1 (fun _ => True) := by
  refine hC_of (by decide) (fun G o => Nat.le_of_ble_eq_true rfl) ?_
  intro l p e s m args below meth c G ex o f ls A hAe hfl S hr hnl htab hK hST hX hA P hO hl
  have hx := S.1
  have hb := S.2.1
  have hl : lv_has ls 5 [(0, .ref (G.2.2 0)), (1, .int p0), (2, .int p1), (3, .ref o)] := hl
  refine lv_aload_n hx hb dL_put_0 rfl (lv_at hl 3 rfl) ?_
  refine lv_iconst (v := 0) hx hb dL_put_1 (by decide) ?_
  refine lv_aload_n hx hb dL_put_2 rfl (lv_at hl 0 rfl) ?_
  refine lv_iload_n hx hb dL_put_3 rfl (lv_at hl 1 rfl) ?_
  refine lv_iload_n hx hb dL_put_4 rfl (lv_at hl 2 rfl) ?_
  refine h_thr (M2 := nX11_put) (n := 2) (nL := 5) (idx := 44) (own := RL) (cls := IOBx) (argv := [.int p0, .int p1]) (rest := [.int 0, .ref o]) (w2 := w1) S hfl hK hST hX hA P hO dL_put_5 (xj_thr (argv := .ref 0 :: [.int p0, .int p1]) (pc := 10) (ik := 219) (is := 221) (ic := 223) (text := "there is no such register") (uX11_put p0 p1 w) hr0 rfl rfl (by decide) (Nat.le_of_ble_eq_true rfl) ⟨Nat.le_of_ble_eq_true rfl, Nat.le_of_ble_eq_true rfl, Nat.le_of_ble_eq_true rfl, Nat.le_of_ble_eq_true rfl⟩ (by decide +kernel) tw1867 tw175 (List.mem_of_getElem? (i := 9) rfl) thx3 thy3 thW_3 (by decide +kernel) (by decide +kernel) (by decide +kernel) (by decide +kernel) (by decide +kernel)) mkX11_put tw1883 rfl ⟨Nat.le_of_ble_eq_true rfl, Nat.le_of_ble_eq_true rfl, rfl, rfl⟩ rfl hl.1 rfl (Nat.le_of_ble_eq_true rfl) (Nat.le_of_ble_eq_true rfl) (Nat.le_of_ble_eq_true rfl) (fun H1 locs1 ex1 q9 ce P1 hO1 hce hv9 hcl9 => ?_)
  subst hAe
  refine vx_catch (own := RL) (name := IOBx) (E := IOBx) S.2.2.2.1 [] ⟨0, 10, 13, 42⟩ [⟨0, 10, 17, 26⟩] (by rw [htab]; rfl) (fun z hz => absurd hz List.not_mem_nil) (by decide) (by decide) (S.2.2.2.2 _ tw1862) (va_tabs rfl rfl (hX.2.1 (.castable IOBx IOBx) (thW_3 _ (by decide +kernel) rfl))) hce hv9 hcl9 ?_
  refine lv_astore hx hb dL_put_13 hl (by decide) rfl (fun ls2 hl2 => ?_)
  refine lv_iconst (v := 1) hx hb dL_put_15 (by decide) ?_
  exact h_end hx hb hr hnl P1 hO1 trivial (Nat.le_refl _) (Nat.le_refl _) dL_put_16
set_option maxHeartbeats 1000000 in
theorem hL_put_t30 {p0 : Int32} {p1 : Int32} {w w1 : xW} (hr0 : sX11_put p0 p1 w = some (.inr 30, w1)) : hC yL_put cL_put 5 [(0, 10, 13, 42), (0, 10, 17, 26)] (fun G o => [.ref (G.2.2 0), .int p0, .int p1, .ref o]) w w1  2 (fun _ => True) := by
  refine hC_of (by decide) (fun G o => Nat.le_of_ble_eq_true rfl) ?_
  intro l p e s m args below meth c G ex o f ls A hAe hfl S hr hnl htab hK hST hX hA P hO hl
  have hx := S.1
  have hb := S.2.1
  have hl : lv_has ls 5 [(0, .ref (G.2.2 0)), (1, .int p0), (2, .int p1), (3, .ref o)] := hl
  refine lv_aload_n hx hb dL_put_0 rfl (lv_at hl 3 rfl) ?_
  refine lv_iconst (v := 0) hx hb dL_put_1 (by decide) ?_
  refine lv_aload_n hx hb dL_put_2 rfl (lv_at hl 0 rfl) ?_
  refine lv_iload_n hx hb dL_put_3 rfl (lv_at hl 1 rfl) ?_
  refine lv_iload_n hx hb dL_put_4 rfl (lv_at hl 2 rfl) ?_
  refine h_thr (M2 := nX11_put) (n := 2) (nL := 5) (idx := 44) (own := RL) (cls := ISEx) (argv := [.int p0, .int p1]) (rest := [.int 0, .ref o]) (w2 := w1) S hfl hK hST hX hA P hO dL_put_5 (xj_thr (argv := .ref 0 :: [.int p0, .int p1]) (pc := 30) (ik := 162) (is := 175) (ic := 166) (text := "no run was begun") (uX11_put p0 p1 w) hr0 rfl rfl (by decide) (Nat.le_of_ble_eq_true rfl) ⟨Nat.le_of_ble_eq_true rfl, Nat.le_of_ble_eq_true rfl, Nat.le_of_ble_eq_true rfl, Nat.le_of_ble_eq_true rfl⟩ (by decide +kernel) tw1498 tw184 (List.mem_of_getElem? (i := 6) rfl) thx2 thy2 thW_2 (by decide +kernel) (by decide +kernel) (by decide +kernel) (by decide +kernel) (by decide +kernel)) mkX11_put tw1883 rfl ⟨Nat.le_of_ble_eq_true rfl, Nat.le_of_ble_eq_true rfl, rfl, rfl⟩ rfl hl.1 rfl (Nat.le_of_ble_eq_true rfl) (Nat.le_of_ble_eq_true rfl) (Nat.le_of_ble_eq_true rfl) (fun H1 locs1 ex1 q9 ce P1 hO1 hce hv9 hcl9 => ?_)
  subst hAe
  refine vx_catch (own := RL) (name := ISEx) (E := ISEx) S.2.2.2.1 [⟨0, 10, 13, 42⟩] ⟨0, 10, 17, 26⟩ [] (by rw [htab]; rfl) (fun z hz => by rw [List.mem_singleton.mp hz]; exact Or.inr ⟨by decide, IOBx, S.2.2.2.2 _ tw1862, hX.2.2.2.2⟩) (by decide) (by decide) (S.2.2.2.2 _ tw1493) (va_tabs rfl rfl (hX.2.1 (.castable ISEx ISEx) (thW_2 _ (by decide +kernel) rfl))) hce hv9 hcl9 ?_
  refine lv_astore hx hb dL_put_17 hl (by decide) rfl (fun ls2 hl2 => ?_)
  refine lv_iconst (v := 2) hx hb dL_put_19 (by decide) ?_
  exact h_end hx hb hr hnl P1 hO1 trivial (Nat.le_refl _) (Nat.le_refl _) dL_put_20
theorem mkX11_passed : xMkV mX11_passed 1 := ⟨⟨tw1893, tw153, ⟨by decide, by decide⟩, by decide +kernel⟩, tw1891, tw1892⟩
set_option maxHeartbeats 1000000 in
theorem hL_passed_r {p0 : Int32} {w w1 : xW} {v : Int32} (hr0 : sX11_passed p0 w = some (.inl v, w1)) : hC yL_passed cL_passed 4 [(0, 9, 12, 13)] (fun G o => [.ref (G.2.2 0), .int p0, .ref o]) w w1  0 (fun f => f 0 = v.toInt64) := by
  refine hC_of (by decide) (fun G o => Nat.le_of_ble_eq_true rfl) ?_
  intro l p e s m args below meth c G ex o f ls A hAe hfl S hr hnl htab hK hST hX hA P hO hl
  have hx := S.1
  have hb := S.2.1
  have hl : lv_has ls 4 [(0, .ref (G.2.2 0)), (1, .int p0), (2, .ref o)] := hl
  refine lv_aload_n hx hb dL_passed_0 rfl (lv_at hl 2 rfl) ?_
  refine lv_iconst (v := 0) hx hb dL_passed_1 (by decide) ?_
  refine lv_aload_n hx hb dL_passed_2 rfl (lv_at hl 0 rfl) ?_
  refine lv_iload_n hx hb dL_passed_3 rfl (lv_at hl 1 rfl) ?_
  refine core_V (jc := jI) (v := v) (M2 := mX11_passed) (n := 1) (nL := 4) (idx := 47) (k := 0) (ci := 0) (N := 9) (T := TX11) (own := RL) (cc := cL_passed) (b2 := (0, 0)) (argv := [.int p0]) (rest := [.int 0, .ref o]) S hfl lC_ok hK hST hA P dL_passed_4 (xj_met lC_ok (by decide) (Nat.le_of_ble_eq_true rfl) (Nat.zero_le _) (Nat.zero_le _) (xj_ret (tX11_passed p0 w) hr0 rfl)) mkX11_passed tw1890 ⟨Nat.le_of_ble_eq_true rfl, Nat.le_of_ble_eq_true rfl, rfl, rfl⟩ rfl rfl rfl hl.1 rfl (Nat.le_of_ble_eq_true rfl) (Nat.le_of_ble_eq_true rfl) (Nat.le_of_ble_eq_true rfl) (fun H1 locs1 ex1 P1 hk1 => ?_)
  have hO1 := hO_keep hO hk1
  subst hAe
  show W p l e hRoom s m args below meth c H1 locs1 (0 + 0) (0 + 0) _ (F0 m 7 ls [.int v, .int 0, .ref o])
  refine lv_i2l hx hb dL_passed_7 rfl ?_
  refine h_store (x := v.toInt64) hx hb hK P1 hO1 dL_passed_8 (fun H2 locs2 f2 hf2 P2 hO2 => ?_)
  refine lv_goto (tgt := 15) hx hb dL_passed_9 (by decide) ?_
  refine lv_iconst (v := 0) hx hb dL_passed_15 (by decide) ?_
  exact h_end hx hb hr hnl P2 hO2 hf2 (Nat.zero_le _) (Nat.zero_le _) dL_passed_16
set_option maxHeartbeats 1000000 in
theorem hL_passed_t11 {p0 : Int32} {w w1 : xW} (hr0 : sX11_passed p0 w = some (.inr 11, w1)) : hC yL_passed cL_passed 4 [(0, 9, 12, 13)] (fun G o => [.ref (G.2.2 0), .int p0, .ref o]) w w1  1 (fun _ => True) := by
  refine hC_of (by decide) (fun G o => Nat.le_of_ble_eq_true rfl) ?_
  intro l p e s m args below meth c G ex o f ls A hAe hfl S hr hnl htab hK hST hX hA P hO hl
  have hx := S.1
  have hb := S.2.1
  have hl : lv_has ls 4 [(0, .ref (G.2.2 0)), (1, .int p0), (2, .ref o)] := hl
  refine lv_aload_n hx hb dL_passed_0 rfl (lv_at hl 2 rfl) ?_
  refine lv_iconst (v := 0) hx hb dL_passed_1 (by decide) ?_
  refine lv_aload_n hx hb dL_passed_2 rfl (lv_at hl 0 rfl) ?_
  refine lv_iload_n hx hb dL_passed_3 rfl (lv_at hl 1 rfl) ?_
  refine h_thr (M2 := nX11_passed) (n := 1) (nL := 4) (idx := 47) (own := RL) (cls := IAEx) (argv := [.int p0]) (rest := [.int 0, .ref o]) (w2 := w1) S hfl hK hST hX hA P hO dL_passed_4 (xj_thr (argv := .ref 0 :: [.int p0]) (pc := 11) (ik := 81) (is := 190) (ic := 85) (text := "place is not 0 to 2047") (uX11_passed p0 w) hr0 rfl rfl (by decide) (Nat.le_of_ble_eq_true rfl) ⟨Nat.le_of_ble_eq_true rfl, Nat.le_of_ble_eq_true rfl, Nat.le_of_ble_eq_true rfl, Nat.le_of_ble_eq_true rfl⟩ (by decide +kernel) tw1459 tw173 (List.mem_of_getElem? (i := 7) rfl) thx1 thy1 thW_1 (by decide +kernel) (by decide +kernel) (by decide +kernel) (by decide +kernel) (by decide +kernel)) mkX11_passed tw1890 rfl ⟨Nat.le_of_ble_eq_true rfl, Nat.le_of_ble_eq_true rfl, rfl, rfl⟩ rfl hl.1 rfl (Nat.le_of_ble_eq_true rfl) (Nat.le_of_ble_eq_true rfl) (Nat.le_of_ble_eq_true rfl) (fun H1 locs1 ex1 q9 ce P1 hO1 hce hv9 hcl9 => ?_)
  subst hAe
  refine vx_catch (own := RL) (name := IAEx) (E := IAEx) S.2.2.2.1 [] ⟨0, 9, 12, 13⟩ [] (by rw [htab]; rfl) (fun z hz => absurd hz List.not_mem_nil) (by decide) (by decide) (S.2.2.2.2 _ tw1454) (va_tabs rfl rfl (hX.2.1 (.castable IAEx IAEx) (thW_1 _ (by decide +kernel) rfl))) hce hv9 hcl9 ?_
  refine lv_astore_n hx hb dL_passed_12 rfl hl (by decide) rfl (fun ls2 hl2 => ?_)
  refine lv_iconst (v := 1) hx hb dL_passed_13 (by decide) ?_
  exact h_end hx hb hr hnl P1 hO1 trivial (Nat.le_refl _) (Nat.le_refl _) dL_passed_14
