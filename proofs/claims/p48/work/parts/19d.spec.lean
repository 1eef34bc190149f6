section ZJD
variable {t0 base : Nat} {ow : zz_H} {μ μ' : zzM} {ν ν' : zzN} {H : Int} {nK : Nat} {h : zz_H} {n : Nat}
theorem em_change_v (q : PQ μ ν H nK) {x y : Nat} {a f : Int32} (hx : x < nC μ 0) (hy : y < nR μ 0) (hr3 : ¬ a < 20 ∧ ¬ (99 : Int32) < a) (hr4 : ¬ f < 1 ∧ ¬ (9 : Int32) < f) (hl : tLast μ 0 = 115) (hs : tSg μ 0 = 0) : g_X10_change 0 (Int32.ofNat (10 * x + y)) a f μ ν = some (μ (17 + 7 * 0 + x) y, zset (zset μ (17 + 7 * 0 + x) y a) (46 + 7 * 0 + x) y f, ν) := by
  obtain ⟨z0, h30, h32, hB, ⟨t, b, c, hV, hz⟩, hO, hVb, hH⟩ := q
  have hc6 := hB.2.1.2.2
  have hr6 := hB.2.2.1.2.2
  have hd := ten_d (x := x) (y := y) (by omega) (by omega)
  have hm := ten_r (x := x) (y := y) (by omega) (by omega)
  have hs4 := z1_4
  show g_X10_change (Int32.ofNat 0) _ a f μ ν = _
  unfold g_X10_change g_X10_change_29 g_X10_change_52 g_X10_change_59 g_X10_isSpring g_X10_isSpring_25 g_X10_isSpring_26
  rw [em_noCell0 h30 (by omega) (by omega) hB hx hy (on_nn _ (by omega)) hd hm, zb_s, em_th0, zg1_s, if_pos rfl, zset_z z0]
  simp only [hd, hm]
  rw [em_ra0 hr3, zb_s, if_neg (by decide), em_ra0 hr4, zb_s, if_neg (by decide), zgz1, zb_s, if_neg (by decide), em_thz _ z0, zg1_s, if_pos rfl, open_t hB (Lv_ch hV) hl hs, zb_s, if_neg (by decide), em_thz _ z0, zg1_s, if_pos rfl, gq15 hs4, zdv10, gQ15 hs4 (by omega), zdv10, gi15 hs4 (by omega) (by omega), gq15 hs4, zdv10, gQ15 hs4 (by omega), zdv10, gs15 hs4 (by omega) (by omega), gq44 hs4, zdv10, gQ44 hs4 (by omega), zdv10, gs44 hs4 (by omega) (by omega)]
theorem em_change_n (q : PQ μ ν H nK) {a f : Int32} (hr3 : ¬ a < 20 ∧ ¬ (99 : Int32) < a) (hr4 : ¬ f < 1 ∧ ¬ (9 : Int32) < f) (hl : ¬ (tLast μ 0 = 115 ∧ tSg μ 0 = 0)) : g_X10_change 0 0 a f μ ν = some (0, zset μ 0 33 3, ν) := by
  obtain ⟨z0, h30, h32, hB, ⟨t, b, c, hV, hz⟩, hO, hVb, hH⟩ := q
  have hc1 := hB.2.1.2.1
  have hr1 := hB.2.2.1.2.1
  show g_X10_change (Int32.ofNat 0) (Int32.ofNat (10 * 0 + 0)) a f μ ν = _
  unfold g_X10_change g_X10_change_29 g_X10_change_52 g_X10_change_59 g_X10_isSpring g_X10_isSpring_25 g_X10_isSpring_26
  rw [em_noCell0 (a := 0) (b := 0) h30 (by omega) (by omega) hB (by omega) (by omega) (on_nn _ (by omega)) (ten_d (by omega) (by omega)) (ten_r (by omega) (by omega)), zb_s, em_th0, zg1_s, if_pos rfl, zset_z z0, em_ra0 hr3, zb_s, if_neg (by decide), em_ra0 hr4, zb_s, if_neg (by decide), zgz1, zb_s, if_neg (by decide), em_thz _ z0, zg1_s, if_pos rfl, open_f hB (Lv_ch hV) hl, zb_s, if_pos rfl, em_th1, zg1_s, if_neg (by decide)]
theorem em_pull_c (q : PQ μ ν H nK) {x : Int32} {k : Nat} {a : Int32} (g0 : ¬ x = 0) (hk : k < nC μ 0) (hr4 : ¬ a < 10 ∧ ¬ (99 : Int32) < a) (hl : tLast μ 0 = 116) (hs : tSg μ 0 = 0) : g_X10_pull 0 x (Int32.ofNat k) a μ ν = some (zz_abs (tSum μ 0 (tH μ 0) - tSum (zset μ (74 + 0) k a) 0 (tH (zset μ (74 + 0) k a) 0)), zset μ (74 + 0) k a, ν) := by
  obtain ⟨z0, h30, h32, hB, ⟨t, b, c, hV, hz⟩, hO, hVb, hH⟩ := q
  have hc6 := hB.2.1.2.2
  have hs4 := z1_4
  show g_X10_pull (Int32.ofNat 0) x _ a μ ν = _
  unfold g_X10_pull g_X10_pull_30 g_X10_pull_38 g_X10_pull_43 g_X10_pull_68 g_X10_pull_75 g_X10_pull_93
  rw [em_noSeat0 h30 (by omega) (by omega), zb_s, if_pos rfl, if_neg g0, gi1 hs4, hB.2.1.1, em_ix1 (by omega) hk, zb_s, if_neg (by decide), em_th0, zg1_s, if_pos rfl, zset_z z0, em_ra0 hr4, zb_s, if_neg (by decide), em_thz _ z0, zg1_s, if_pos rfl, open_t hB (Lv_ch hV) hl hs, zb_s, if_neg (show ¬ (1 : Int32) = 0 by decide), em_thz _ z0, zg1_s, if_pos rfl, em_standing hB, zb_s, if_neg g0, gq73 hs4, gs73 hs4 (by omega)]
  unfold g_X10_pull_136
  have hB' : Bd (zset μ (74 + 0) k a) 0 := hB
  rw [em_standing hB', zb_s]
theorem em_pull_r (q : PQ μ ν H nK) {k : Nat} {a : Int32} (hk : k < nR μ 0) (hr4 : ¬ a < 10 ∧ ¬ (99 : Int32) < a) (hl : tLast μ 0 = 116) (hs : tSg μ 0 = 0) : g_X10_pull 0 0 (Int32.ofNat k) a μ ν = some (zz_abs (tSum μ 0 (tH μ 0) - tSum (zset μ (79 + 0) k a) 0 (tH (zset μ (79 + 0) k a) 0)), zset μ (79 + 0) k a, ν) := by
  obtain ⟨z0, h30, h32, hB, ⟨t, b, c, hV, hz⟩, hO, hVb, hH⟩ := q
  have hc6 := hB.2.2.1.2.2
  have hs4 := z1_4
  show g_X10_pull (Int32.ofNat 0) 0 _ a μ ν = _
  unfold g_X10_pull g_X10_pull_30 g_X10_pull_38 g_X10_pull_43 g_X10_pull_68 g_X10_pull_75 g_X10_pull_93
  rw [em_noSeat0 h30 (by omega) (by omega), zb_s, if_pos rfl, if_pos rfl, gi2 hs4, hB.2.2.1.1, em_ix1 (by omega) hk, zb_s, if_neg (by decide), em_th0, zg1_s, if_pos rfl, zset_z z0, em_ra0 hr4, zb_s, if_neg (by decide), em_thz _ z0, zg1_s, if_pos rfl, open_t hB (Lv_ch hV) hl hs, zb_s, if_neg (show ¬ (1 : Int32) = 0 by decide), em_thz _ z0, zg1_s, if_pos rfl, em_standing hB, zb_s, if_pos rfl, gq78 hs4, gs78 hs4 (by omega)]
  unfold g_X10_pull_136
  have hB' : Bd (zset μ (79 + 0) k a) 0 := hB
  rw [em_standing hB', zb_s]
theorem em_pull_i (q : PQ μ ν H nK) {a : Int32} : g_X10_pull 0 1 (Int32.ofNat (nC μ 0)) a μ ν = some (0, zset μ 0 33 1, ν) := by
  obtain ⟨z0, h30, h32, hB, ⟨t, b, c, hV, hz⟩, hO, hVb, hH⟩ := q
  have hc6 := hB.2.1.2.2
  have hs4 := z1_4
  show g_X10_pull (Int32.ofNat 0) 1 _ a μ ν = _
  unfold g_X10_pull g_X10_pull_30 g_X10_pull_38 g_X10_pull_43 g_X10_pull_68 g_X10_pull_75 g_X10_pull_93
  rw [em_noSeat0 h30 (by omega) (by omega), zb_s, if_pos rfl, if_neg (by decide), gi1 hs4, hB.2.1.1, em_ix0 (by omega) (Or.inr ⟨on_nn _ (by omega), nlt (by omega)⟩), zb_s, if_pos rfl, em_th1, zg1_s, if_neg (by decide)]
theorem em_pull_n (q : PQ μ ν H nK) {a : Int32} (hr4 : ¬ a < 10 ∧ ¬ (99 : Int32) < a) (hl : ¬ (tLast μ 0 = 116 ∧ tSg μ 0 = 0)) : g_X10_pull 0 1 0 a μ ν = some (0, zset μ 0 33 3, ν) := by
  obtain ⟨z0, h30, h32, hB, ⟨t, b, c, hV, hz⟩, hO, hVb, hH⟩ := q
  have hc6 := hB.2.1.2
  have hs4 := z1_4
  show g_X10_pull (Int32.ofNat 0) 1 (Int32.ofNat 0) a μ ν = _
  unfold g_X10_pull g_X10_pull_30 g_X10_pull_38 g_X10_pull_43 g_X10_pull_68 g_X10_pull_75 g_X10_pull_93
  rw [em_noSeat0 h30 (by omega) (by omega), zb_s, if_pos rfl, if_neg (by decide), gi1 hs4, hB.2.1.1, em_ix1 (by omega) (by omega), zb_s, if_neg (by decide), em_th0, zg1_s, if_pos rfl, zset_z z0, em_ra0 hr4, zb_s, if_neg (by decide), em_thz _ z0, zg1_s, if_pos rfl, open_f hB (Lv_ch hV) hl, zb_s, if_pos rfl, em_th1, zg1_s, if_neg (by decide)]
theorem em_draw_v (q : PQ μ ν H nK) {x y : Nat} {a : Int32} (hx : x < nC μ 0) (hy : y < nR μ 0) (hr3 : ¬ a < 1 ∧ ¬ (30 : Int32) < a) (hl : tLast μ 0 = 98) (hs : tSg μ 0 = 0) (h12 : ¬ tDr μ 0 = 12) : g_X10_draw 0 (Int32.ofNat (10 * x + y)) a μ ν = some (tDr (zset μ (111 + 7 * 0 + x) y a) 0, zset μ (111 + 7 * 0 + x) y a, ν) := by
  obtain ⟨z0, h30, h32, hB, ⟨t, b, c, hV, hz⟩, hO, hVb, hH⟩ := q
  have hc6 := hB.2.1.2.2
  have hr6 := hB.2.2.1.2.2
  have hd := ten_d (x := x) (y := y) (by omega) (by omega)
  have hm := ten_r (x := x) (y := y) (by omega) (by omega)
  have hs4 := z1_4
  show g_X10_draw (Int32.ofNat 0) _ a μ ν = _
  unfold g_X10_draw g_X10_draw_30 g_X10_draw_53 g_X10_draw_60 g_X10_draw_96 g_X10_draw_97
  rw [em_noCell0 h30 (by omega) (by omega) hB hx hy (on_nn _ (by omega)) hd hm, zb_s, em_th0, zg1_s, if_pos rfl, zset_z z0]
  simp only [hd, hm]
  rw [em_ra0 hr3, zb_s, if_neg (by decide), em_thz _ z0, zg1_s, if_pos rfl, open_t hB (Lv_ch hV) hl hs, zb_s, if_neg (by decide), em_thz _ z0, zg1_s, if_pos rfl, em_drawn hs4, zb_s, if_neg h12, em_thz _ z0, zg1_s, if_pos rfl, gq109 hs4, zdv10, gQ109 hs4 (by omega), zdv10, gs109 hs4 (by omega) (by omega), em_drawn hs4, zb_s]
theorem em_folds_v (q : PQ μ ν H nK) (x : Int32) : g_X10_folds 0 x μ ν = some (zfd (fun a b => zfd (fun c d => d + tFo μ 0 a c true x) b 6) 0 5 + zfd (fun a b => zfd (fun c d => d + tFo μ 0 a c false x) b 6) 0 5, μ, ν) := by
  obtain ⟨z0, h30, h32, hB, ⟨t, b, c, hV, hz⟩, hO, hVb, hH⟩ := q
  have hs4 := z1_4
  have e1 := em_foldsBy (μ := μ) (ν := ν) hs4 true x
  have e2 := em_foldsBy (μ := μ) (ν := ν) hs4 false x
  show g_X10_folds (Int32.ofNat 0) x μ ν = _
  unfold g_X10_folds g_X10_folds_32
  rw [em_noSeat0 h30 (by omega) (by omega), zb_s, em_th0, zg1_s, if_pos rfl, zset_z z0]
  rw [if_pos rfl] at e1
  rw [if_neg (by decide)] at e2
  rw [e1, zb_s, e2, zb_s]
theorem em_quote_v (q : PQ μ ν H nK) : g_X10_quote 0 μ ν = some (tQu μ 0 (if μ 3 0 ≤ 1 then 0 else 5 * μ 1 0 * μ 2 0), μ, ν) := by
  obtain ⟨z0, h30, h32, hB, ⟨t, b, c, hV, hz⟩, hO, hVb, hH⟩ := q
  have hs4 := z1_4
  have hk : ∀ l, l < nL μ 0 → μ (85 + 0) l = 104 ∨ μ (85 + 0) l = 102 ∨ μ (85 + 0) l = 100 := fun l hl => (hVb.2.2.2.2 l hl).1
  show g_X10_quote (Int32.ofNat 0) μ ν = _
  unfold g_X10_quote
  rw [em_noSeat0 h30 (by omega) (by omega), zb_s, em_th0, zg1_s, if_pos rfl, zset_z z0, em_hasSprings hs4, zb_s]
  by_cases g : μ 3 0 ≤ 1
  · rw [if_pos g, if_pos rfl, em_quote42 hB (Lv_ch hV) hk, if_pos g]
  · rw [if_neg g, if_neg (by decide), gi1 hs4, gi2 hs4, em_quote42 hB (Lv_ch hV) hk, if_neg g]
theorem em_use_n (q : PQ μ ν H nK) {x : Int32} (hr : ¬ x < 1 ∧ ¬ (9999 : Int32) < x) (hl : ¬ tLast μ 0 = 99) : g_X10_use 0 x μ ν = some (0, zset μ 0 33 3, ν) := by
  obtain ⟨z0, h30, h32, hB, ⟨t, b, c, hV, hz⟩, hO, hVb, hH⟩ := q
  show g_X10_use (Int32.ofNat 0) x μ ν = _
  unfold g_X10_use g_X10_use_30 g_X10_use_61 g_X10_use_66 g_X10_use_73
  rw [em_noSeat0 h30 (by omega) (by omega), zb_s, em_th0, zg1_s, if_pos rfl, zset_z z0, em_ra0 hr, zb_s, if_neg (by decide), em_thz _ z0, zg1_s, if_pos rfl, em_last hB (Lv_ch hV), zb_s, if_neg hl, em_th1, zg1_s, if_neg (by decide)]
theorem us_v (J : JJ t0 base ow μ ν 1 nK H h n) (hH9 : H + 20000 ≤ 100000000) {d : Int32} (hd : 0 ≤ d.toInt ∧ d.toInt ≤ 9999) (hl : tLast μ 0 = 99) : g_X10_uses (Int32.ofNat 0) d μ ν = some (tSum μ 0 (tTop μ ν 0) - tSum (zset μ 144 0 (μ 144 0 + d)) 0 (tTop (zset μ 144 0 (μ 144 0 + d)) (nUse ν 0 d.toInt64 (nL μ 0)) 0), zset μ 144 0 (μ 144 0 + d), nUse ν 0 d.toInt64 (nL μ 0)) := by
  obtain ⟨z0, ad, iv, lv, κ, νc, S, R, V⟩ := J
  obtain ⟨v, K, N, e1, e2, e3⟩ := wear_ok (s := 0) (by omega) hd hH9 R hl
  obtain ⟨A, hB, -, -, -, -, -, -, -, -, -, -, -, hVb, -⟩ := R.2.2.1 0 (by omega)
  obtain ⟨-, hB2, -, -, -, -, -, -, -, -, -, -, -, hVb2, -⟩ := e3.2.2.1 0 (by omega)
  exact em_uses hB (Vb_Dn hVb R.1.2.2.2.2.1) hB2 (Vb_Dn hVb2 hH9)
theorem em_use_v (J : JJ t0 base ow μ ν 1 nK H h n) (hH9 : H + 20000 ≤ 100000000) {x : Int32} (hr : ¬ x < 1 ∧ ¬ (9999 : Int32) < x) (hl : tLast μ 0 = 99) (hx : μ 144 0 + x ≤ 100000) : g_X10_use 0 x μ ν = some (tSum μ 0 (tTop μ ν 0) - tSum (zset μ 144 0 (μ 144 0 + x)) 0 (tTop (zset μ 144 0 (μ 144 0 + x)) (nUse ν 0 x.toInt64 (nL μ 0)) 0), zset μ 144 0 (μ 144 0 + x), nUse ν 0 x.toInt64 (nL μ 0)) := by
  have hI := ra_I hr
  have i1 : (1 : Int32).toInt = 1 := rfl
  have ihi : (9999 : Int32).toInt = 9999 := rfl
  have u := us_v J hH9 (d := x) (by omega) hl
  obtain ⟨z0, h30, h32, hB, ⟨t, b, c, hV, hz⟩, hO, hVb, hH⟩ := JJ_q J
  have hs4 := z1_4
  show g_X10_use (Int32.ofNat 0) x μ ν = _
  unfold g_X10_use g_X10_use_30 g_X10_use_61 g_X10_use_66 g_X10_use_73
  rw [em_noSeat0 h30 (by omega) (by omega), zb_s, em_th0, zg1_s, if_pos rfl, zset_z z0, em_ra0 hr, zb_s, if_neg (by decide), em_thz _ z0, zg1_s, if_pos rfl, em_last hB (Lv_ch hV), zb_s, if_pos hl, gi144 hs4, if_pos hx, em_thz _ z0, zg1_s, if_pos rfl, u, zg1_s]
theorem em_pound_v (J : JJ t0 base ow μ ν 1 nK H h n) (hH9 : H + 20000 ≤ 100000000) {x : Int32} (hr : ¬ x < 1 ∧ ¬ (3000 : Int32) < x) (hl : tLast μ 0 = 99) (hx : μ 144 0 + 3 * x ≤ 100000) : g_X10_pound 0 x μ ν = some (tSum μ 0 (tTop μ ν 0) - tSum (zset μ 144 0 (μ 144 0 + 3 * x)) 0 (tTop (zset μ 144 0 (μ 144 0 + 3 * x)) (nUse ν 0 (3 * x).toInt64 (nL μ 0)) 0), zset μ 144 0 (μ 144 0 + 3 * x), nUse ν 0 (3 * x).toInt64 (nL μ 0)) := by
  have hI := ra_I hr
  have i1 : (1 : Int32).toInt = 1 := rfl
  have i3 : (3 : Int32).toInt = 3 := rfl
  have ihi : (3000 : Int32).toInt = 3000 := rfl
  have e3 : (3 * x).toInt = 3 * x.toInt := by
    rw [mul_I _ _ (by rw [i3]; omega) (by rw [i3]; omega), i3]
  have u := us_v J hH9 (d := 3 * x) (by omega) hl
  obtain ⟨z0, h30, h32, hB, ⟨t, b, c, hV, hz⟩, hO, hVb, hH⟩ := JJ_q J
  have hs4 := z1_4
  show g_X10_pound (Int32.ofNat 0) x μ ν = _
  unfold g_X10_pound g_X10_pound_30 g_X10_pound_63 g_X10_pound_68 g_X10_pound_75
  rw [em_noSeat0 h30 (by omega) (by omega), zb_s, em_th0, zg1_s, if_pos rfl, zset_z z0, em_ra0 hr, zb_s, if_neg (by decide), em_thz _ z0, zg1_s, if_pos rfl, em_last hB (Lv_ch hV), zb_s, if_pos hl, gi144 hs4, if_pos hx, em_thz _ z0, zg1_s, if_pos rfl, u, zg1_s]
theorem em_cover_r (q : PQ μ ν H 0) {x : Int32} : g_X10_cover 0 0 x μ ν = some (0, zset μ 0 33 1, ν) := by
  obtain ⟨z0, h30, h32, hB, ⟨t, b, c, hV, hz⟩, hO, hVb, hH⟩ := q
  show g_X10_cover (Int32.ofNat 0) 0 x μ ν = _
  unfold g_X10_cover g_X10_cover_23 g_X10_cover_28 g_X10_cover_57 g_X10_cover_80 g_X10_cover_87
  rw [em_noSeat0 h30 (by omega) (by omega), zb_s, if_pos rfl, h32, em_isIn, zb_s, show (if (0 : Int32) < 0 then (0 : Int32) else if Int32.ofNat 0 - 1 < 0 then 0 else 1) = 0 from by decide, if_pos rfl, em_th1, zg1_s, if_neg (by decide)]
/-- the other calls that the law makes by itself -/
theorem cv_meanTop (J : JJ t0 base ow μ ν 1 nK H h n) : f_X9_meanTop base 0 h = some (.inl (FP.ddiv (FP.i2d (tSum μ 0 (tTop μ ν 0))) (FP.i2d (μ 1 0 * μ 2 0)))) := by
  obtain ⟨z0, h30, h32, hB, ⟨t, b, c, hV, hz⟩, hO, hVb, hH⟩ := JJ_q J
  obtain ⟨-, ad, iv, lv, κ, νc, S, R, V⟩ := J
  have e1 := sc_X9_meanTop S.1 S.2.1 (h := h) (t0 := t0) (a0 := 0) (x1 := 0) (κ := κ) (ν := νc)
  rw [S0_hc S, S.2.2.2.2.2.2.2.2.1] at e1
  have hs4 := z1_4
  have hw : μ 1 0 * μ 2 0 ≠ 0 := by
    have h6 : nC μ 0 * nR μ 0 ≤ 36 := cr6 hB.2.1.2.2 hB.2.2.1.2.2
    have h1 : 0 < nC μ 0 * nR μ 0 := Nat.mul_pos hB.2.1.2.1 hB.2.2.1.2.1
    rw [hB.2.1.1, hB.2.2.1.1, on_m]
    exact onnz (by omega)
  have em : g_X10_meanTop (Int32.ofNat 0) μ ν = some (FP.ddiv (FP.i2d (tSum μ 0 (tTop μ ν 0))) (FP.i2d (μ 1 0 * μ 2 0)), μ, ν) := by
    unfold g_X10_meanTop
    rw [em_noSeat0 h30 (by omega) (by omega), zb_s, em_th0, zg1_s, if_pos rfl, zset_z z0, em_tops hB (Vb_Dn hVb hH), zb_s, gi1 hs4, gi2 hs4, nd_ok hw]
    rfl
  rcases op_meanTop R (Int32.ofNat 0) with ⟨-, e2⟩ | ⟨v, -, e2, e3⟩
  · rw [em] at e2
    have e4 := congrArg (fun o => Option.map (fun r : UInt64 × zzM × zzN => r.2.1 0 33) o) e2
    simp only [Option.map_some, Option.some.injEq] at e4
    rw [z0, zset_h] at e4
    exact absurd e4 (by decide)
  · rw [em, zset_z z0] at e3
    cases e3
    exact e1 _ e2
end ZJD
