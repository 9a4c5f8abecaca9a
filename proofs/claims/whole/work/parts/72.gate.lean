/-! the services one by one; the step at a gate -/
section SVK
variable {W M : xW}
theorem l157_0 {fuel : Nat} (hf : 0 < fuel) (v x : Int32) (a b : Int64) : sX12_serve_l157 fuel v a b 0 x M = sX12_serve_j463 v x M := by
  cases fuel with
  | zero => omega
  | succ f => rw [sX12_serve_l157, if_pos rfl]
theorem l232_0 {fuel : Nat} (hf : 0 < fuel) (v x : Int32) (a b : Int64) : sX12_serve_l232 fuel v a b 0 x M = sX12_serve_j463 v x M := by
  cases fuel with
  | zero => omega
  | succ f => rw [sX12_serve_l232, if_pos rfl]
theorem l405_0 {fuel : Nat} (hf : 0 < fuel) (v x : Int32) (a b c : Int64) : sX12_serve_l405 fuel v a b 0 x c M = sX12_serve_j463 v x M := by
  cases fuel with
  | zero => omega
  | succ f =>
    rw [sX12_serve_l405, if_pos rfl]
    rfl
theorem l157_z {fuel : Nat} (hf : 0 < fuel) (v : Int32) (a : Int64) : sX12_serve_l157 fuel v a (lN 0) 1 0 M = sX12_serve_j463 v 0 M := by
  cases fuel with
  | zero => omega
  | succ f => rw [sX12_serve_l157, if_neg (by decide), if_neg (by decide)]
theorem l232_z {fuel : Nat} (hf : 0 < fuel) (v : Int32) (a : Int64) : sX12_serve_l232 fuel v a (lN 0) 1 0 M = sX12_serve_j463 v 0 M := by
  cases fuel with
  | zero => omega
  | succ f => rw [sX12_serve_l232, if_neg (by decide), if_neg (by decide)]
theorem l405_z {fuel : Nat} (hf : 0 < fuel) (v : Int32) (a : Int64) : sX12_serve_l405 fuel v a (lN 0) 1 0 0 M = sX12_serve_j463 v 0 M := by
  cases fuel with
  | zero => omega
  | succ f =>
    rw [sX12_serve_l405, if_neg (by decide), if_neg (by decide)]
    rfl
theorem xsw_1 {ρ : Type} (a b c d e f g z : Option ρ) : xsw (nI 1) 1 [a, b, c, d, e, f, g] z = a := rfl
theorem xsw_2 {ρ : Type} (a b c d e f g z : Option ρ) : xsw (nI 2) 1 [a, b, c, d, e, f, g] z = b := rfl
theorem xsw_3 {ρ : Type} (a b c d e f g z : Option ρ) : xsw (nI 3) 1 [a, b, c, d, e, f, g] z = c := rfl
theorem xsw_4 {ρ : Type} (a b c d e f g z : Option ρ) : xsw (nI 4) 1 [a, b, c, d, e, f, g] z = d := rfl
theorem xsw_5 {ρ : Type} (a b c d e f g z : Option ρ) : xsw (nI 5) 1 [a, b, c, d, e, f, g] z = e := rfl
theorem xsw_6 {ρ : Type} (a b c d e f g z : Option ρ) : xsw (nI 6) 1 [a, b, c, d, e, f, g] z = f := rfl
theorem xsw_7 {ρ : Type} (a b c d e f g z : Option ρ) : xsw (nI 7) 1 [a, b, c, d, e, f, g] z = g := rfl
theorem xsw_o {ρ : Type} {k : Nat} (hk : k = 8 ∨ k = 9 ∨ k = 10 ∨ k = 11 ∨ k = 12 ∨ k = 13 ∨ k = 14 ∨ k = 15) (a b c d e f g z : Option ρ) : xsw (nI k) 1 [a, b, c, d, e, f, g] z = z := by
  rcases hk with rfl | rfl | rfl | rfl | rfl | rfl | rfl | rfl <;> rfl
theorem j96_1 (v : Int32) (a b : Int64) (x : Int32) : sX12_serve_j96 (nI 1) v a b x M = (if x = 0 then sX12_serve_l157 70000 v a b x (-14) M else sX12_serve_l157 70000 v a b x 0 M) := by
  unfold sX12_serve_j96
  rw [xsw_1]
theorem j96_2 (v : Int32) (a b : Int64) (x : Int32) : sX12_serve_j96 (nI 2) v a b x M = (if x = 0 then sX12_serve_l232 70000 v a b x (-14) M else sX12_serve_l232 70000 v a b x 0 M) := by
  unfold sX12_serve_j96
  rw [xsw_2]
theorem j96_6 (v : Int32) (a b : Int64) (x : Int32) : sX12_serve_j96 (nI 6) v a b x M = (if x = 0 then sX12_serve_l405 70000 v a b x (-14) 0 M else sX12_serve_l405 70000 v a b x 0 0 M) := by
  unfold sX12_serve_j96
  rw [xsw_6]
theorem un_0 {c : Int32} (h : un c = 0) : c = 0 := by rw [un_of c, h]; rfl
theorem SV.same {rc : Option (Int32 × xW)} {rm : Int32 → Option (Unit × xW)} {ans : Int32} (hd : dataP W M) (hh : KH W M) (h1 : rc = some (ans, W)) (h2 : ∀ v, rm v = sX12_serve_j463 v ans M) : SV W M rc rm false :=
  ⟨ans, W, M, h1, h2, frC.r _ _, frC.r _ _, rfl, rfl, hd, hh, rfl⟩
/-- the three that want bytes -/
theorem sv_b {k : Nat} (hk : k = 1 ∨ k = 2 ∨ k = 6) (hd : dataP W M) (hh : KH W M) (b c : Int32) (d : Int64) : SV W M (sX3_serve (nI k) b c d W) (fun v => sX12_serve_j96 (nI k) v (lN (un b)) (lN (un c)) (bI (decide (un c = 0 ∨ (65536 ≤ un b ∧ un b + un c ≤ 131072)))) M) false := by
  have hub := un_lt b
  have huc := un_lt c
  have hu : ∀ (x : Int32) (V : xW), sX11_unsigned x V = some (lN (un x), V) := fun x V => by unfold sX11_unsigned; rw [un_l]
  have eC : sX3_serve (nI k) b c d W = sX3_serveBytes (nI k) b c W := by
    have : sX3_serve (nI k) b c d W = sX3_serve_j44 (nI k) b c W := by
      unfold sX3_serve
      rcases hk with rfl | rfl | rfl
      · rw [xsw_1]
      · rw [xsw_2]
      · rw [xsw_6]
    rw [this]
    unfold sX3_serve_j44
    rw [xbd_id]
  rw [eC]
  unfold sX3_serveBytes
  by_cases hall : un c = 0 ∨ (65536 ≤ un b ∧ un b + un c ≤ 131072)
  · rw [decide_eq_true hall, show bI true = 1 from rfl]
    by_cases hc0 : un c = 0
    · -- nothing to do
      rw [if_pos (un_0 hc0), hc0]
      refine SV.same hd hh rfl (fun v => ?_)
      rcases hk with rfl | rfl | rfl
      · (try dsimp only)
        rw [j96_1, if_neg (by decide), l157_z (by decide)]
      · (try dsimp only)
        rw [j96_2, if_neg (by decide), l232_z (by decide)]
      · (try dsimp only)
        rw [j96_6, if_neg (by decide), l405_z (by decide)]
    · have hin := hall.resolve_left hc0
      rw [if_neg (fun q => hc0 (by rw [q]; rfl)), hu, xbd_some, inD_c b (by omega), decide_eq_true hin, xbd_some, show bI true = 1 from rfl, if_neg (by decide), xbd_id, xbd_id, xbd_id]
      obtain ⟨s, hs⟩ : ∃ s, un b = 65536 + s := ⟨un b - 65536, by omega⟩
      have hn : un c ≤ 65536 := by omega
      have ec : c = nI (un c) := un_of c
      have eb : b = nI (65536 + s) := by rw [← hs]; exact un_of b
      generalize un c = n at *
      subst ec eb
      rw [hs]
      obtain ⟨h, t, r, kh1, kh2, kh3, ⟨kh4, kh5⟩, ⟨kh6, kh7⟩, ⟨kh8, kh9⟩, ⟨kh10, kh11⟩, kh12, kh13⟩ := hh
      rcases hk with rfl | rfl | rfl
      · rw [if_pos (show nI 1 = (1 : Int32) from rfl)]
        have ex : sX3_writeOut (nI (65536 + s)) (nI n) W = sX3_writeOut_l16 70000 (nI (65536 + s)) (nI (min n (1024 - r))) (nI 0) W := by
          unfold sX3_writeOut
          dsimp only [xlet]
          rw [kh8, show (1024 : Int32) - nI r = nI (1024 - r) from pk_sub (a := 1024) kh3, xmin_n (by omega) (by omega)]
          rfl
        obtain ⟨W', M', hC, hM, f1, f2, f3, f4, f5, f6, f7⟩ := write_l (s := s) (n := n) (r := r) (by omega) kh3 (min n (1024 - r)) 0 W M (by omega) hd kh8 kh9 (fun t ht => kh13 t ht)
        refine ⟨nI (min n (1024 - r)), W', M', by rw [ex]; exact hC 70000 (by omega), fun v => by (try dsimp only); rw [j96_1, if_neg (by decide)]; exact hM 70000 v (by omega), ?_, ?_, f3, f4, ?_, ?_, f2 0 33 (by decide) (by decide)⟩
        · intro k i q
          have q7 : ¬ k = 7 := fun z => by rw [z] at q; exact absurd q (by simp [svC])
          have q18 : ¬ k = 18 := fun z => by rw [z] at q; exact absurd q (by simp [svC])
          exact f1 k i q18 (fun z => q7 z.1)
        · intro k i q
          have q4 : ¬ k = 4 := fun z => by rw [z] at q; exact absurd q (by simp [svM])
          have q0 : ¬ (k = 0 ∧ i = 8) := fun z => by rw [z.1, z.2] at q; exact absurd q (by decide)
          exact f2 k i q4 q0
        · exact hd.fr (fun i => f1 17 i (by decide) (by omega)) (fun i => f2 2 i (by decide) (by omega))
        · refine ⟨h, t, r + min n (1024 - r), kh1, kh2, by omega, ⟨?_, ?_⟩, ⟨?_, ?_⟩, ⟨f5, f6⟩, ⟨?_, ?_⟩, fun i hi => ?_, f7⟩
          · rw [f1 7 3 (by decide) (by decide)]; exact kh4
          · rw [f2 0 5 (by decide) (by decide)]; exact kh5
          · rw [f1 7 5 (by decide) (by decide)]; exact kh6
          · rw [f2 0 6 (by decide) (by decide)]; exact kh7
          · rw [f1 7 6 (by decide) (by decide), f2 0 42 (by decide) (by decide)]; exact kh10
          · rw [f1 7 7 (by decide) (by decide), f2 0 43 (by decide) (by decide)]; exact kh11
          · rw [f1 19 i (by decide) (by omega), f2 3 i (by decide) (by omega)]; exact kh12 i hi
      · rw [if_neg (by decide), if_pos (show nI 2 = (2 : Int32) from rfl)]
        have ex : sX3_readIn (nI (65536 + s)) (nI n) W = sX3_readIn_l12 70000 (nI (65536 + s)) (nI (min n t)) (nI 0) W := by
          unfold sX3_readIn
          rw [kh6, xmin_n (by omega) (by omega)]
          rfl
        obtain ⟨W', M', hC, hM, f1, f2, f3, f4, f5, f6, f7, f8, f9⟩ := read_l (s := s) (n := n) (h := h) (t := t) (by omega) kh1 kh2 (min n t) 0 W M (by omega) hd (by rw [kh4]; congr 1; omega) (by rw [kh5]; congr 1; omega) kh6 kh7 kh12
        refine ⟨nI (min n t), W', M', by rw [ex]; exact hC 70000 (by omega), fun v => by (try dsimp only); rw [j96_2, if_neg (by decide)]; exact hM 70000 v (by omega), ?_, ?_, f3, f4, f5, ?_, f2 0 33 (by decide) (by decide)⟩
        · intro k i q
          have q7 : ¬ k = 7 := fun z => by rw [z] at q; exact absurd q (by simp [svC])
          have q17 : ¬ k = 17 := fun z => by rw [z] at q; exact absurd q (by simp [svC])
          exact f1 k i q17 (fun z => q7 z.1)
        · intro k i q
          have q2 : ¬ k = 2 := fun z => by rw [z] at q; exact absurd q (by simp [svM])
          have q0 : ¬ (k = 0 ∧ (i = 5 ∨ i = 6)) := fun z => by
            rcases z with ⟨rfl, rfl | rfl⟩ <;> exact absurd q (by decide)
          exact f2 k i q2 q0
        · refine ⟨(h + min n t) % 256, t - min n t, r, Nat.mod_lt _ (by decide), by omega, kh3, ⟨f6, f7⟩, ⟨f8, f9⟩, ⟨?_, ?_⟩, ⟨?_, ?_⟩, fun i hi => ?_, fun i hi => ?_⟩
          · rw [f1 7 4 (by decide) (by decide)]; exact kh8
          · rw [f2 0 8 (by decide) (by decide)]; exact kh9
          · rw [f1 7 6 (by decide) (by decide), f2 0 42 (by decide) (by decide)]; exact kh10
          · rw [f1 7 7 (by decide) (by decide), f2 0 43 (by decide) (by decide)]; exact kh11
          · rw [f1 19 i (by decide) (by omega), f2 3 i (by decide) (by omega)]; exact kh12 i hi
          · rw [f1 18 i (by decide) (by omega), f2 4 i (by decide) (by omega)]; exact kh13 i hi
      · rw [if_neg (by decide), if_neg (by decide)]
        obtain ⟨y, hC, hM⟩ := sum_l (s := s) (n := n) (by omega) hd n 0 0 (by omega)
        refine SV.same hd ⟨h, t, r, kh1, kh2, kh3, ⟨kh4, kh5⟩, ⟨kh6, kh7⟩, ⟨kh8, kh9⟩, ⟨kh10, kh11⟩, kh12, kh13⟩ (ans := y) (by unfold sX3_sum; exact hC 70000 (by omega)) (fun v => by (try dsimp only); rw [j96_6, if_neg (by decide)]; exact hM 70000 v (by omega))
  · have hc0 : ¬ un c = 0 := fun q => hall (Or.inl q)
    have hin : ¬ (65536 ≤ un b ∧ un b + un c ≤ 131072) := fun q => hall (Or.inr q)
    rw [decide_eq_false hall, show bI false = 0 from rfl, if_neg (fun q => hc0 (by rw [q]; rfl)), hu, xbd_some, inD_c b (by omega), decide_eq_false hin, xbd_some, show bI false = 0 from rfl, if_pos rfl]
    refine SV.same hd hh rfl (fun v => ?_)
    rcases hk with rfl | rfl | rfl
    · (try dsimp only)
      rw [j96_1, if_pos rfl, l157_0 (by decide)]
    · (try dsimp only)
      rw [j96_2, if_pos rfl, l232_0 (by decide)]
    · (try dsimp only)
      rw [j96_6, if_pos rfl, l405_0 (by decide)]
theorem sv_3 (hd : dataP W M) (hh : KH W M) (b c : Int32) (hb : M.1 9 3 = b) (hs : W.2 8 13 = M.2 0 44) : SV W M (sX3_serve (nI 3) b c (W.2 8 13) W) (fun v => sX12_serve_j96 (nI 3) v (lN (un b)) (lN (un c)) (bI (decide (un c = 0 ∨ (65536 ≤ un b ∧ un b + un c ≤ 131072)))) M) false := by
  have hub := un_lt b
  exact SV.same hd hh (ans := (W.2 8 13).toInt32) (by unfold sX3_serve; rw [xsw_3]) (fun v => by (try dsimp only); unfold sX12_serve_j96; rw [xsw_3, hs])
theorem sv_4 (hd : dataP W M) (hh : KH W M) (b c : Int32) (hb : M.1 9 3 = b) (hs : W.2 8 13 = M.2 0 44) : SV W M (sX3_serve (nI 4) b c (W.2 8 13) W) (fun v => sX12_serve_j96 (nI 4) v (lN (un b)) (lN (un c)) (bI (decide (un c = 0 ∨ (65536 ≤ un b ∧ un b + un c ≤ 131072)))) M) false := by
  have hub := un_lt b
  obtain ⟨h, t, r, kh1, kh2, kh3, kh4, kh6, kh8, ⟨kh10, kh11⟩, kh12, kh13⟩ := hh
  have eC : sX3_serve (nI 4) b c (W.2 8 13) W = xbd (sX8_inData b (lN 1) W) (fun x1 w2 => (if x1 = 0 then some ((w2.1 7 6), w2) else some (b, (xwi w2 7 6 b)))) := by
    unfold sX3_serve
    rw [xsw_4]
    rfl
  rw [eC, inD_c b (by decide), xbd_some]
  have eM : ∀ v, sX12_serve_j96 (nI 4) v (lN (un b)) (lN (un c)) (bI (decide (un c = 0 ∨ (65536 ≤ un b ∧ un b + un c ≤ 131072)))) M = (if lN (un b) < (65536 : Int64) then sX12_serve_j341 v M else (if lN (un b) < (131072 : Int64) then (if xin (3 : Int32) 8 then sX12_serve_j345 v (M.1 9 ((3 : Int32).toNatClampNeg)) M else none) else sX12_serve_j341 v M)) := fun v => by
    unfold sX12_serve_j96
    rw [xsw_4]
  by_cases hin : 65536 ≤ un b ∧ un b + 1 ≤ 131072
  · rw [decide_eq_true hin, show bI true = 1 from rfl, if_neg (by decide)]
    refine ⟨b, xwi W 7 6 b, xwi M 0 42 b, rfl, fun v => ?_, (frC.r _ _).wi rfl, (frC.r _ _).wi rfl, rfl, rfl, hd.fr (fun _ => rfl) (fun _ => rfl), ⟨h, t, r, kh1, kh2, kh3, kh4, kh6, kh8, ⟨rfl, kh11⟩, kh12, kh13⟩, rfl⟩
    show sX12_serve_j96 (nI 4) v _ _ _ M = _
    rw [eM, if_neg (show ¬ lN (un b) < (65536 : Int64) from lN_nge (b := 65536) (by omega) (by decide) (by omega)), if_pos (show lN (un b) < (131072 : Int64) from lN_nlt (b := 131072) (by omega) (by decide) (by omega)), if_pos (by decide), show (3 : Int32).toNatClampNeg = 3 from rfl, hb]
    rfl
  · rw [decide_eq_false hin, show bI false = 0 from rfl, if_pos rfl]
    refine ⟨W.1 7 6, W, xwi M 0 42 (M.1 0 42), rfl, fun v => ?_, frC.r _ _, (frC.r _ _).wi rfl, rfl, rfl, hd.fr (fun _ => rfl) (fun _ => rfl), ⟨h, t, r, kh1, kh2, kh3, kh4, kh6, kh8, ⟨kh10, kh11⟩, kh12, kh13⟩, rfl⟩
    show sX12_serve_j96 (nI 4) v _ _ _ M = _
    rw [eM, kh10]
    by_cases hlo : un b < 65536
    · rw [if_pos (show lN (un b) < (65536 : Int64) from lN_nlt (b := 65536) (by omega) (by decide) hlo)]; rfl
    · rw [if_neg (show ¬ lN (un b) < (65536 : Int64) from lN_nge (b := 65536) (by omega) (by decide) (by omega)), if_neg (show ¬ lN (un b) < (131072 : Int64) from lN_nge (b := 131072) (by omega) (by decide) (by omega))]; rfl
def lcg (x : Int32) : Int32 := x * (1103515245 : Int32) + (12345 : Int32)
def lcgA (x : Int32) : Int32 := (xushr (lcg x) (16 : Int32)) &&& (32767 : Int32)
theorem sv_5c (b c : Int32) (d : Int64) : sX3_serve (nI 5) b c d W = some (lcgA (W.1 7 7), xwi W 7 7 (lcg (W.1 7 7))) := by
  unfold sX3_serve
  rw [xsw_5]
  unfold lcgA lcg
  exact rfl
theorem sv_5m (v : Int32) (a b : Int64) (x : Int32) : sX12_serve_j96 (nI 5) v a b x M = sX12_serve_j463 v (lcgA (M.1 0 43)) (xwi M 0 43 (lcg (M.1 0 43))) := by
  unfold sX12_serve_j96
  rw [xsw_5]
  unfold lcgA lcg
  dsimp only [xlet]
theorem sv5_kh (x : Int32) (hh : KH W M) : KH (xwi W 7 7 x) (xwi M 0 43 x) := by
  obtain ⟨h, t, r, kh1, kh2, kh3, kh4, kh6, kh8, ⟨kh10, kh11⟩, kh12, kh13⟩ := hh
  exact ⟨h, t, r, kh1, kh2, kh3, kh4, kh6, kh8, ⟨kh10, by rw [xwi_s, xwi_s]⟩, kh12, kh13⟩
theorem sv5_sv {rc : Option (Int32 × xW)} {rm : Int32 → Option (Unit × xW)} (y x : Int32) (hd : dataP W M) (hh : KH W M) (e1 : rc = some (y, xwi W 7 7 x)) (e2 : ∀ v, rm v = sX12_serve_j463 v y (xwi M 0 43 x)) : SV W M rc rm false :=
  ⟨y, xwi W 7 7 x, xwi M 0 43 x, e1, e2, (frC.r _ _).wi rfl, (frC.r _ _).wi rfl, rfl, rfl, hd.fr (fun _ => rfl) (fun _ => rfl), sv5_kh x hh, rfl⟩
theorem sv_5 (hd : dataP W M) (hh : KH W M) (b c : Int32) : SV W M (sX3_serve (nI 5) b c (W.2 8 13) W) (fun v => sX12_serve_j96 (nI 5) v (lN (un b)) (lN (un c)) (bI (decide (un c = 0 ∨ (65536 ≤ un b ∧ un b + un c ≤ 131072)))) M) false := by
  have h7 : W.1 7 7 = M.1 0 43 := hh.choose_spec.choose_spec.choose_spec.2.2.2.2.2.2.1.2
  refine sv5_sv (lcgA (W.1 7 7)) (lcg (W.1 7 7)) hd hh (sv_5c b c _) (fun v => ?_)
  rw [h7]
  exact sv_5m v _ _ _
theorem sv_7 (hd : dataP W M) (hh : KH W M) (b c : Int32) (hb : M.1 9 3 = b) (hs : W.2 8 13 = M.2 0 44) : SV W M (sX3_serve (nI 7) b c (W.2 8 13) W) (fun v => sX12_serve_j96 (nI 7) v (lN (un b)) (lN (un c)) (bI (decide (un c = 0 ∨ (65536 ≤ un b ∧ un b + un c ≤ 131072)))) M) true := by
  have hub := un_lt b
  exact ⟨0, W, xwi M 0 33 7, by unfold sX3_serve; rw [xsw_7], fun v => by (try dsimp only); unfold sX12_serve_j96; rw [xsw_7], frC.r _ _, (frC.r _ _).wi rfl, rfl, rfl, hd.fr (fun _ => rfl) (fun _ => rfl), hh.fr (fun _ => rfl) (fun _ => rfl) (fun _ => rfl) rfl rfl rfl rfl rfl (fun _ => rfl) (fun _ => rfl), rfl⟩
theorem sv_o {k : Nat} (hk8 : k = 8 ∨ k = 9 ∨ k = 10 ∨ k = 11 ∨ k = 12 ∨ k = 13 ∨ k = 14 ∨ k = 15) (hd : dataP W M) (hh : KH W M) (b c : Int32) : SV W M (sX3_serve (nI k) b c (W.2 8 13) W) (fun v => sX12_serve_j96 (nI k) v (lN (un b)) (lN (un c)) (bI (decide (un c = 0 ∨ (65536 ≤ un b ∧ un b + un c ≤ 131072)))) M) false := by
  exact SV.same hd hh (ans := -38) (by unfold sX3_serve; rw [xsw_o hk8]) (fun v => by (try dsimp only); unfold sX12_serve_j96; rw [xsw_o hk8])
theorem sv_k {k : Nat} (h1 : 1 ≤ k) (h16 : k < 16) (hd : dataP W M) (hh : KH W M) (b c : Int32) (hb : M.1 9 3 = b) (hs : W.2 8 13 = M.2 0 44) : SV W M (sX3_serve (nI k) b c (W.2 8 13) W) (fun v => sX12_serve_j96 (nI k) v (lN (un b)) (lN (un c)) (bI (decide (un c = 0 ∨ (65536 ≤ un b ∧ un b + un c ≤ 131072)))) M) (k == 7) := by
  rcases (show (k = 1 ∨ k = 2 ∨ k = 6) ∨ k = 3 ∨ k = 4 ∨ k = 5 ∨ k = 7 ∨ 8 ≤ k from by omega) with hk | rfl | rfl | rfl | rfl | hk
  · have : (k == 7) = false := by rcases hk with rfl | rfl | rfl <;> rfl
    rw [this]
    exact sv_b hk hd hh b c _
  · exact sv_3 hd hh b c hb hs
  · exact sv_4 hd hh b c hb hs
  · exact sv_5 hd hh b c
  · exact sv_7 hd hh b c hb hs
  · have : (k == 7) = false := by rw [beq_eq_false_iff_ne]; omega
    rw [this]
    exact sv_o (by omega) hd hh b c
end SVK
