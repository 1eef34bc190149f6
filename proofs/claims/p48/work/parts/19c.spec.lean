section ZJC
/-! the reference's calls on its seat 0, worked out -/
variable {t0 base : Nat} {ow : zz_H} {μ μ' : zzM} {ν ν' : zzN} {H : Int} {nK : Nat} {h : zz_H} {n : Nat}
def PQ (μ : zzM) (ν : zzN) (H : Int) (nK : Nat) : Prop := μ 0 33 = 0 ∧ μ 0 30 = Int32.ofNat 1 ∧ μ 0 32 = Int32.ofNat nK ∧ Bd μ 0 ∧ (∃ t b c, Lv μ 0 t b c ∧ Lz μ 0 t) ∧ RO μ 0 ∧ Vb μ ν H 0 ∧ H ≤ 100000000
theorem JJ_q (J : JJ t0 base ow μ ν 1 nK H h n) : PQ μ ν H nK := by
  obtain ⟨z0, ad, iv, lv, κ, νc, S, R, V⟩ := J
  obtain ⟨A, hB, hF, hN, hG, hV, hX, hO, hM, hT, hD, hA, hL, hVb, hC, hP⟩ := R.2.2.1 0 (by omega)
  exact ⟨z0, R.1.2.2.2.2.2.1, R.1.2.2.2.2.2.2.2, hB, hV, hO, hVb, R.1.2.2.2.2.1⟩
theorem open_t (hB : Bd μ 0) (hc : CH (tLast μ 0)) {a : Int32} (hl : tLast μ 0 = a) (hs : tSg μ 0 = 0) : g_X10_isLastOpen (Int32.ofNat 0) a μ ν = some 1 := by
  rw [em_lastOpen hB hc, if_pos ⟨hl, hs⟩]
theorem open_f (hB : Bd μ 0) (hc : CH (tLast μ 0)) {a : Int32} (hl : ¬ (tLast μ 0 = a ∧ tSg μ 0 = 0)) : g_X10_isLastOpen (Int32.ofNat 0) a μ ν = some 0 := by
  rw [em_lastOpen hB hc, if_neg hl]
theorem z1_4 : (0 : Nat) < 4 := by decide
theorem em_web_v (q : PQ μ ν H nK) {x : Int32} (hr : ¬ x < 1 ∧ ¬ (9 : Int32) < x) (hsg : tSg μ 0 = 1) (can : tCan (tLast μ 0) (nL μ 0) 119 = true) (h9 : nD μ 0 < 9) : g_X10_web 0 x μ ν = some (Int32.ofNat (nD μ 0), mDone (zset μ 14 0 x) 0 119, ν) := by
  obtain ⟨z0, h30, h32, hB, ⟨t, b, c, hV, hz⟩, hO, hVb, hH⟩ := q
  show g_X10_web (Int32.ofNat 0) x μ ν = _
  unfold g_X10_web g_X10_web_29 g_X10_web_52 g_X10_web_59
  rw [em_noSeat0 h30 (by omega) (by omega), zb_s, em_th0, zg1_s, if_pos rfl, zset_z z0, em_ra0 hr, zb_s, if_neg (by decide), em_thz _ z0, zg1_s, if_pos rfl, may_t hB (Lv_ch hV) (by decide) hsg can, zb_s, if_neg (by decide), em_thz _ z0, zg1_s, if_pos rfl, gs14 z1_4, em_done (s := 0) (μ := zset μ 14 0 x) hB h9 (by decide), zg1_s]
  rfl
theorem em_web_r (q : PQ μ ν H nK) {x : Int32} (hr : x < 1 ∨ (¬ x < 1 ∧ (9 : Int32) < x)) : g_X10_web 0 x μ ν = some (0, zset μ 0 33 2, ν) := by
  obtain ⟨z0, h30, h32, hB, ⟨t, b, c, hV, hz⟩, hO, hVb, hH⟩ := q
  show g_X10_web (Int32.ofNat 0) x μ ν = _
  unfold g_X10_web g_X10_web_29 g_X10_web_52 g_X10_web_59
  rw [em_noSeat0 h30 (by omega) (by omega), zb_s, em_th0, zg1_s, if_pos rfl, zset_z z0, em_ra1 hr, zb_s, if_pos rfl, em_th1, zg1_s, if_neg (by decide)]
theorem em_spring_r (q : PQ μ ν H nK) {x y : Int32} (hr : x < 20 ∨ (¬ x < 20 ∧ (99 : Int32) < x)) : g_X10_spring 0 x y μ ν = some (0, zset μ 0 33 2, ν) := by
  obtain ⟨z0, h30, h32, hB, ⟨t, b, c, hV, hz⟩, hO, hVb, hH⟩ := q
  show g_X10_spring (Int32.ofNat 0) x y μ ν = _
  unfold g_X10_spring g_X10_spring_27 g_X10_spring_50 g_X10_spring_57 g_X10_isSpring g_X10_isSpring_25 g_X10_isSpring_26
  rw [em_noSeat0 h30 (by omega) (by omega), zb_s, em_th0, zg1_s, if_pos rfl, zset_z z0, em_ra1 hr, zb_s, if_pos rfl, zgz0, zb_s, if_pos rfl, em_th1, zg1_s, if_neg (by decide)]
theorem em_spring_n (q : PQ μ ν H nK) {x y : Int32} (hr3 : ¬ x < 20 ∧ ¬ (99 : Int32) < x) (hr4 : ¬ y < 1 ∧ ¬ (9 : Int32) < y) (can : tSg μ 0 = 0 ∨ tCan (tLast μ 0) (nL μ 0) 115 = false) : g_X10_spring 0 x y μ ν = some (0, zset μ 0 33 3, ν) := by
  obtain ⟨z0, h30, h32, hB, ⟨t, b, c, hV, hz⟩, hO, hVb, hH⟩ := q
  show g_X10_spring (Int32.ofNat 0) x y μ ν = _
  unfold g_X10_spring g_X10_spring_27 g_X10_spring_50 g_X10_spring_57 g_X10_isSpring g_X10_isSpring_25 g_X10_isSpring_26
  rw [em_noSeat0 h30 (by omega) (by omega), zb_s, em_th0, zg1_s, if_pos rfl, zset_z z0, em_ra0 hr3, zb_s, if_neg (by decide), em_ra0 hr4, zb_s, if_neg (by decide), zgz1, zb_s, if_neg (by decide), em_thz _ z0, zg1_s, if_pos rfl, may_f hB (Lv_ch hV) (by decide) can, zb_s, if_pos rfl, em_th1, zg1_s, if_neg (by decide)]
theorem em_spring_v (q : PQ μ ν H nK) {x y : Int32} (hr3 : ¬ x < 20 ∧ ¬ (99 : Int32) < x) (hr4 : ¬ y < 1 ∧ ¬ (9 : Int32) < y) (hsg : tSg μ 0 = 1) (can : tCan (tLast μ 0) (nL μ 0) 115 = true) (h9 : nD μ 0 < 9) : g_X10_spring 0 x y μ ν = some (Int32.ofNat (nD μ 0), mDone (mLoos (mSpr μ 0 x y 36) 0 6) 0 115, ν) := by
  obtain ⟨z0, h30, h32, hB, ⟨t, b, c, hV, hz⟩, hO, hVb, hH⟩ := q
  show g_X10_spring (Int32.ofNat 0) x y μ ν = _
  have hB' : Bd (mLoos (mSpr μ 0 x y 36) 0 6) 0 := (Bd_of (by rw [mLoos_o (by omega) (by omega), mSpr_o (by omega) (by omega)]) (by rw [mLoos_o (by omega) (by omega), mSpr_o (by omega) (by omega)]) (by rw [mLoos_o (by omega) (by omega), mSpr_o (by omega) (by omega)]) (by rw [mLoos_o (by omega) (by omega), mSpr_o (by omega) (by omega)]) hB).1
  have ed : nD (mLoos (mSpr μ 0 x y 36) 0 6) 0 = nD μ 0 := by
    unfold nD
    rw [mLoos_o (by omega) (by omega), mSpr_o (by omega) (by omega)]
  unfold g_X10_spring g_X10_spring_27 g_X10_spring_50 g_X10_spring_57 g_X10_isSpring g_X10_isSpring_25 g_X10_isSpring_26
  rw [em_noSeat0 h30 (by omega) (by omega), zb_s, em_th0, zg1_s, if_pos rfl, zset_z z0, em_ra0 hr3, zb_s, if_neg (by decide), em_ra0 hr4, zb_s, if_neg (by decide), zgz1, zb_s, if_neg (by decide), em_thz _ z0, zg1_s, if_pos rfl, may_t hB (Lv_ch hV) (by decide) hsg can, zb_s, if_neg (by decide), em_thz _ z0, zg1_s, if_pos rfl]
  exact em_spring62 z1_4 (by rw [em_loosen z1_4, zg1_s, em_done hB' (by omega) (by decide), zg1_s, ed])
theorem em_stands_v (q : PQ μ ν H nK) {x y : Nat} (hx : x < nC μ 0) (hy : y < nR μ 0) : g_X10_stands 0 (Int32.ofNat (10 * x + y)) μ ν = some (tH μ 0 x y, μ, ν) := by
  obtain ⟨z0, h30, h32, hB, ⟨t, b, c, hV, hz⟩, hO, hVb, hH⟩ := q
  have hc6 := hB.2.1.2.2
  have hr6 := hB.2.2.1.2.2
  have hd := ten_d (x := x) (y := y) (by omega) (by omega)
  have hm := ten_r (x := x) (y := y) (by omega) (by omega)
  show g_X10_stands (Int32.ofNat 0) _ μ ν = _
  unfold g_X10_stands g_X10_stands_31
  rw [em_noCell0 h30 (by omega) (by omega) hB hx hy (on_nn _ (by omega)) hd hm, zb_s, em_th0, zg1_s, if_pos rfl, zset_z z0, zdv10, zdv10, hd, hm, em_standsAt z1_4 (by omega) (by omega), zb_s]
theorem em_stands_r (q : PQ μ ν H nK) {x : Nat} (hx : nC μ 0 ≤ x) (hx6 : x < 100) : g_X10_stands 0 (Int32.ofNat (10 * x)) μ ν = some (0, zset μ 0 33 1, ν) := by
  obtain ⟨z0, h30, h32, hB, ⟨t, b, c, hV, hz⟩, hO, hVb, hH⟩ := q
  have hd : Int32.ofNat (10 * x) / 10 = Int32.ofNat x := by
    rw [nlt10, on_d _ _ (by omega) (by omega)]
    congr 1
    omega
  show g_X10_stands (Int32.ofNat 0) _ μ ν = _
  unfold g_X10_stands g_X10_stands_31
  rw [em_noCell1 h30 (by omega) (by omega) hB (Or.inr ⟨on_nn _ (by omega), Or.inl (by rw [hd]; exact ple (by omega))⟩), zb_s, em_th1, zg1_s, if_neg (by decide)]
theorem em_top_v (q : PQ μ ν H nK) {x y : Nat} (hx : x < nC μ 0) (hy : y < nR μ 0) : g_X10_top 0 (Int32.ofNat (10 * x + y)) μ ν = some (tTop μ ν 0 x y, μ, ν) := by
  obtain ⟨z0, h30, h32, hB, ⟨t, b, c, hV, hz⟩, hO, hVb, hH⟩ := q
  have hc6 := hB.2.1.2.2
  have hr6 := hB.2.2.1.2.2
  have hd := ten_d (x := x) (y := y) (by omega) (by omega)
  have hm := ten_r (x := x) (y := y) (by omega) (by omega)
  show g_X10_top (Int32.ofNat 0) _ μ ν = _
  unfold g_X10_top g_X10_top_31
  rw [em_noCell0 h30 (by omega) (by omega) hB hx hy (on_nn _ (by omega)) hd hm, zb_s, em_th0, zg1_s, if_pos rfl, zset_z z0, zdv10, zdv10, hd, hm, em_topAt hB (Vb_Dn hVb hH) (by omega) (by omega), zb_s]
theorem em_thick_v (q : PQ μ ν H nK) {l : Nat} (hl : l < nL μ 0) : g_X10_thick 0 (Int32.ofNat l) μ ν = some (tTh μ ν 0 l, μ, ν) := by
  obtain ⟨z0, h30, h32, hB, ⟨t, b, c, hV, hz⟩, hO, hVb, hH⟩ := q
  have hl4 := hB.2.2.2.2.2
  show g_X10_thick (Int32.ofNat 0) _ μ ν = _
  unfold g_X10_thick g_X10_thick_19
  rw [em_noLayer0 h30 (by omega) (by omega) hB hl, zg1_s, if_pos rfl, zset_z z0, em_thickNow z1_4 (by omega) (Vb_Dn hVb hH l hl), zb_s]
theorem em_thick_r (q : PQ μ ν H nK) {l : Nat} (hl : nL μ 0 ≤ l) (hl9 : l < 100) : g_X10_thick 0 (Int32.ofNat l) μ ν = some (0, zset μ 0 33 2, ν) := by
  obtain ⟨z0, h30, h32, hB, ⟨t, b, c, hV, hz⟩, hO, hVb, hH⟩ := q
  show g_X10_thick (Int32.ofNat 0) _ μ ν = _
  unfold g_X10_thick g_X10_thick_19
  rw [em_noLayer1 h30 (by omega) (by omega) hB (Or.inr ⟨on_nn _ (by omega), nlt (by omega)⟩), zg1_s, if_neg (by decide)]
theorem em_sign_v (q : PQ μ ν H nK) (hsg : tSg μ 0 = 0) : g_X10_sign 0 μ ν = some (Int32.ofNat (nD μ 0), zset μ (10 + 0) (nD μ 0 - 1) 1, ν) := by
  obtain ⟨z0, h30, h32, hB, ⟨t, b, c, hV, hz⟩, hO, hVb, hH⟩ := q
  have hd := hB.2.2.2.1
  have h0 : nD μ 0 ≠ 0 := fun g => by
    unfold tSg at hsg
    rw [if_pos g] at hsg
    cases hsg
  show g_X10_sign (Int32.ofNat 0) μ ν = _
  unfold g_X10_sign g_X10_sign_26
  rw [em_noSeat0 h30 (by omega) (by omega), zb_s, em_th0, zg1_s, if_pos rfl, zset_z z0, em_lastSigned hB, zb_s, hsg, em_thz _ z0, zg1_s, if_pos rfl, gq9 z1_4, gi3 z1_4, hd.1, on_p _ (by omega), gs9 z1_4 (by omega), gi3 z1_4, zset_e (by omega), hd.1]
  rfl
theorem em_sign_r (q : PQ μ ν H nK) (hsg : tSg μ 0 = 1) : g_X10_sign 0 μ ν = some (0, zset μ 0 33 2, ν) := by
  obtain ⟨z0, h30, h32, hB, ⟨t, b, c, hV, hz⟩, hO, hVb, hH⟩ := q
  show g_X10_sign (Int32.ofNat 0) μ ν = _
  unfold g_X10_sign g_X10_sign_26
  rw [em_noSeat0 h30 (by omega) (by omega), zb_s, em_th0, zg1_s, if_pos rfl, zset_z z0, em_lastSigned hB, zb_s, hsg, em_th1, zg1_s, if_neg (by decide)]
theorem em_tie_v (q : PQ μ ν H nK) (hsg : tSg μ 0 = 1) (can : tCan (tLast μ 0) (nL μ 0) 116 = true) (h9 : nD μ 0 < 9) : g_X10_tie 0 μ ν = some (Int32.ofNat (nD μ 0), mDone (mLoos μ 0 6) 0 116, ν) := by
  obtain ⟨z0, h30, h32, hB, ⟨t, b, c, hV, hz⟩, hO, hVb, hH⟩ := q
  show g_X10_tie (Int32.ofNat 0) μ ν = _
  have hB' : Bd (mLoos μ 0 6) 0 := (Bd_of (by rw [mLoos_o (by omega) (by omega)]) (by rw [mLoos_o (by omega) (by omega)]) (by rw [mLoos_o (by omega) (by omega)]) (by rw [mLoos_o (by omega) (by omega)]) hB).1
  have ed : nD (mLoos μ 0 6) 0 = nD μ 0 := by
    unfold nD
    rw [mLoos_o (by omega) (by omega)]
  unfold g_X10_tie g_X10_tie_29 g_X10_tie_36
  rw [em_noSeat0 h30 (by omega) (by omega), zb_s, em_th0, zg1_s, if_pos rfl, zset_z z0, may_t hB (Lv_ch hV) (by decide) hsg can, zb_s, if_neg (by decide), em_thz _ z0, zg1_s, if_pos rfl, em_loosen z1_4, zg1_s, em_done hB' (by omega) (by decide), zg1_s, ed]
theorem em_buttons_v (q : PQ μ ν H nK) (hsg : tSg μ 0 = 1) (can : tCan (tLast μ 0) (nL μ 0) 98 = true) (h9 : nD μ 0 < 9) : g_X10_buttons 0 μ ν = some (Int32.ofNat (nD μ 0), mDone μ 0 98, ν) := by
  obtain ⟨z0, h30, h32, hB, ⟨t, b, c, hV, hz⟩, hO, hVb, hH⟩ := q
  show g_X10_buttons (Int32.ofNat 0) μ ν = _
  unfold g_X10_buttons g_X10_buttons_29 g_X10_buttons_36 g_X10_buttons_47
  rw [em_noSeat0 h30 (by omega) (by omega), zb_s, em_th0, zg1_s, if_pos rfl, zset_z z0, may_t hB (Lv_ch hV) (by decide) hsg can, zb_s, if_neg (by decide), em_thz _ z0, zg1_s, if_pos rfl, em_done hB (by omega) (by decide), zg1_s]
theorem em_buttons_n (q : PQ μ ν H nK) (can : tSg μ 0 = 0 ∨ tCan (tLast μ 0) (nL μ 0) 98 = false) : g_X10_buttons 0 μ ν = some (0, zset μ 0 33 2, ν) := by
  obtain ⟨z0, h30, h32, hB, ⟨t, b, c, hV, hz⟩, hO, hVb, hH⟩ := q
  show g_X10_buttons (Int32.ofNat 0) μ ν = _
  unfold g_X10_buttons g_X10_buttons_29 g_X10_buttons_36 g_X10_buttons_47
  rw [em_noSeat0 h30 (by omega) (by omega), zb_s, em_th0, zg1_s, if_pos rfl, zset_z z0, may_f hB (Lv_ch hV) (by decide) can, zb_s, if_pos rfl, em_th1, zg1_s, if_neg (by decide)]
theorem em_promise_v (q : PQ μ ν H nK) {x : Int32} (hr : ¬ x < 0 ∧ ¬ (100 : Int32) < x) : g_X10_promise 0 x μ ν = some (μ 146 0, zset μ 146 0 x, ν) := by
  obtain ⟨z0, h30, h32, hB, ⟨t, b, c, hV, hz⟩, hO, hVb, hH⟩ := q
  show g_X10_promise (Int32.ofNat 0) x μ ν = _
  unfold g_X10_promise g_X10_promise_29 g_X10_promise_36
  rw [em_noSeat0 h30 (by omega) (by omega), zb_s, em_th0, zg1_s, if_pos rfl, zset_z z0, em_ra0 hr, zb_s, if_neg (by decide), em_thz _ z0, zg1_s, if_pos rfl, gi146 z1_4, gs146 z1_4]
theorem em_hours_v (q : PQ μ ν H nK) (hl : tLast μ 0 = 99) : g_X10_hours 0 μ ν = some (μ 144 0, μ, ν) := by
  obtain ⟨z0, h30, h32, hB, ⟨t, b, c, hV, hz⟩, hO, hVb, hH⟩ := q
  show g_X10_hours (Int32.ofNat 0) μ ν = _
  unfold g_X10_hours g_X10_hours_29 g_X10_hours_36 g_X10_hours_46
  rw [em_noSeat0 h30 (by omega) (by omega), zb_s, em_th0, zg1_s, if_pos rfl, zset_z z0, em_last hB (Lv_ch hV), zb_s, if_pos hl, em_thz _ z0, zg1_s, if_pos rfl, gi144 z1_4]
theorem em_hours_n (q : PQ μ ν H nK) (hl : ¬ tLast μ 0 = 99) : g_X10_hours 0 μ ν = some (0, zset μ 0 33 2, ν) := by
  obtain ⟨z0, h30, h32, hB, ⟨t, b, c, hV, hz⟩, hO, hVb, hH⟩ := q
  show g_X10_hours (Int32.ofNat 0) μ ν = _
  unfold g_X10_hours g_X10_hours_29 g_X10_hours_36 g_X10_hours_46
  rw [em_noSeat0 h30 (by omega) (by omega), zb_s, em_th0, zg1_s, if_pos rfl, zset_z z0, em_last hB (Lv_ch hV), zb_s, if_neg hl, em_th1, zg1_s, if_neg (by decide)]
theorem em_closed_v (q : PQ μ ν H nK) (hl : tLast μ 0 = 99) : g_X10_isClosed 0 μ ν = some (1, μ, ν) := by
  obtain ⟨z0, h30, h32, hB, ⟨t, b, c, hV, hz⟩, hO, hVb, hH⟩ := q
  show g_X10_isClosed (Int32.ofNat 0) μ ν = _
  unfold g_X10_isClosed g_X10_isClosed_27 g_X10_isClosed_28
  rw [em_noSeat0 h30 (by omega) (by omega), zb_s, em_th0, zg1_s, if_pos rfl, zset_z z0, em_last hB (Lv_ch hV), zb_s, if_pos hl, zgz1]
theorem em_holds_v (q : PQ μ ν H nK) (hl : tLast μ 0 = 99) : ∃ v, g_X10_holds 0 μ ν = some (v, μ, ν) ∧ v = if μ 145 0 * μ 146 0 / 100 < μ 145 0 - tSum μ 0 (tTop μ ν 0) then 0 else 1 := by
  obtain ⟨z0, h30, h32, hB, ⟨t, b, c, hV, hz⟩, hO, hVb, hH⟩ := q
  show ∃ v, g_X10_holds (Int32.ofNat 0) μ ν = _ ∧ _
  unfold g_X10_holds g_X10_holds_29 g_X10_holds_36 g_X10_holds_74
  rw [em_noSeat0 h30 (by omega) (by omega), zb_s, em_th0, zg1_s, if_pos rfl, zset_z z0, em_last hB (Lv_ch hV), zb_s, if_pos hl, em_thz _ z0, zg1_s, if_pos rfl, gi145 z1_4, em_tops hB (Vb_Dn hVb hH), zb_s, gi145 z1_4, gi146 z1_4, zdv100]
  by_cases w : μ 145 0 * μ 146 0 / 100 < μ 145 0 - tSum μ 0 (tTop μ ν 0)
  · exact ⟨0, by rw [if_pos w, zgz0], by rw [if_pos w]⟩
  · exact ⟨1, by rw [if_neg w, zgz1], by rw [if_neg w]⟩
end ZJC
