section ZWD
/-! operations on one seat, more -/
variable {lv : Nat → Bool} {κ κ' : zzM} {νc νc' : zzN} {μ μ' : zzM} {ν ν' : zzN} {H H' : Int} {nS nB nK : Nat}
theorem nC_z {s o i : Nat} {v : Int32} (h : o ≠ 1) : nC (zset μ o i v) s = nC μ s := by
  unfold nC
  rw [zset_o (Ne.symm h)]
theorem nR_z {s o i : Nat} {v : Int32} (h : o ≠ 2) : nR (zset μ o i v) s = nR μ s := by
  unfold nR
  rw [zset_o (Ne.symm h)]
theorem nL_z {s o i : Nat} {v : Int32} (h : o ≠ 83) : nL (zset μ o i v) s = nL μ s := by
  unfold nL
  rw [zset_o (Ne.symm h)]
theorem nD_z {s o i : Nat} {v : Int32} (h : o ≠ 3) : nD (zset μ o i v) s = nD μ s := by
  unfold nD
  rw [zset_o (Ne.symm h)]
theorem op_tack (R : RR lv κ νc μ ν H nS nB nK) (x1 x2 x3 : Int32) : Op1 lv H nS nB nK cd_tack (g_X9_tack lv 0 x1 x2 x3 κ νc) (g_X10_tack x1 x2 x3 μ ν) := by
  have r0 := R.1.1
  have h30 := R.1.2.2.2.2.2.1
  have h4 := R.1.2.1
  have hHH := R.1.2.2.2.2.1
  unfold g_X9_tack g_X10_tack g_X10_tack_28 g_X10_tack_35
  rcases ix_cases x1 nS (by omega) with h | ⟨s, hs, rfl⟩
  · exact Op1_e R (by rw [cg r0, ec_seatOf1 R h, zth_r]) (by rw [em_noLayerS h30 h4 h, zg1_s, if_neg (by decide)]) rfl (by decide)
  rw [cg r0, ec_seatOf0 R hs, zth_l]
  obtain ⟨A, hB, -, -, -, -, -, -, -, -, -, hA, -⟩ := R.2.2.1 s hs
  rcases ly_cases (νc := νc) x2 A hB hA with ⟨h, h2⟩ | ⟨l, hl, rfl, h⟩
  · exact Op1_e R (by rw [h, zth_r]) (by rw [em_noLayer1 h30 h4 hs hB h2, zg1_s, if_neg (by decide)]) rfl (by decide)
  rw [h, zth_l, em_noLayer0 h30 h4 hs hB hl, zg1_s, if_pos rfl]
  have eL : nL (zset μ 0 33 0) s = nL μ s := rfl
  rw [← eL] at hl
  have R1 := RR_t 0 R
  have z1 : zset μ 0 33 0 0 33 = 0 := zset_h
  clear R h30 A hB hA h eL
  generalize zset μ 0 33 0 = m1 at R1 z1 hl ⊢
  have hs4 : s < 4 := by omega
  rcases ra_cases x3 1700 2100 with h | hrx3
  · exact Op1_e R1 (by rw [ec_ra1 h, zth_r]) (by rw [em_ra1 h, zb_s, if_pos rfl, em_th1, zg1_s, if_neg (by decide)]) rfl (by decide)
  rw [ec_ra0 hrx3, zth_l, em_ra0 hrx3, zb_s, if_neg (by decide), em_thz _ z1, zg1_s, if_pos rfl]
  have Q1 := R1.2.2.1 s hs
  obtain ⟨A, hB, hF, hN, ⟨sg, hG⟩, ⟨t, b, c, hV, hz⟩, hX, hO, hM, hT, hD, hA, hL, hVb, hC, hP⟩ := id Q1
  have hl4 := hB.2.2.2.2.2
  have q7 := hA.1 l hl
  rw [cg q7, cg q7, gq104 hs4, gi104 hs4 (by omega), gq104 hs4, gs104 hs4 (by omega), (hL l hl).2.2.2.2.2]
  have hI := ra_I hrx3
  have i17 : (1700 : Int32).toInt = 1700 := rfl
  refine Op1_v (RR_seat2 hs (fun o ho => by rw [zset_o (by unfold FK at ho; omega)]) (fun o ho => rfl) (fun o i ho => by rw [zset_e (by unfold FP at ho; omega)]) (fun o ho => rfl) (Int.le_refl _) hHH R1 (RS_core (zset_e (by omega)) (zset_e (by omega)) (zset_e (by omega)) (zset_e (by omega)) Q1 (fun k hk => zset_e (by omega)) (fun k hk => zset_e (by omega)) ?_ ?_ ?_ ?_ ?_ ?_ ?_ (fun t b c _ h => ?_) ?_ ?_ (zset_e (by omega)) (zset_e (by omega)) (zset_o (by omega)) (zset_o (by omega)) (zset_e (by omega)) (zset_e (by omega))) (Or.inr ⟨tLast_z (by omega), by rw [zset_o (by omega)], by rw [zset_o (by omega)], zset_e (by omega), fun k => zset_e (by omega), zset_e (by omega)⟩)) (by rw [zset_e (by omega)]; exact z1) rfl rfl
  · exact RX_c hB (nC_z (by omega)) (nR_z (by omega)) (zset_e (by omega)) (zset_o (by omega)) (zset_o (by omega)) (zset_o (by omega)) (fun o i h => zset_e (by omega)) hX
  · exact RO_c (μ := m1) (nC_z (by omega)) (nR_z (by omega)) (zset_e (by omega)) (fun o i h => zset_e (by omega)) hO
  · exact RM_c hB (nC_z (by omega)) (nR_z (by omega)) (zset_e (by omega)) (zset_o (by omega)) (fun o i h => zset_e (by omega)) hM
  · exact RT_c (μ := m1) (zset_e (by omega)) (zset_e (by omega)) (zset_e (by omega)) hT
  · exact RD_c (zset_o (by omega)) (fun o i h => zset_e (by omega)) hD
  · unfold RLa
    rw [nL_z (by omega)]
    intro k hk
    have e : tTh (zset m1 (105 + s) l x3) ν s k = tTh m1 ν s k := by
      unfold tTh tDen
      rw [zset_e (by omega), zset_e (by omega), zset_e (by omega)]
    obtain ⟨w1, w2, w3, w4, w5, w6⟩ := hL k hk
    rw [e, zset_e (by omega), zset_e (by omega), zset_e (by omega), zset_e (by omega), zset_e (by omega), zset_e (by omega), zset_e (by omega)]
    refine ⟨w1, w2, w3, w4, w5, ?_⟩
    by_cases g : k = l
    · rw [g, zset_h, zset_h]
    · rw [zset_e (by omega), zset_e (by omega)]
      exact w6
  · obtain ⟨v1, v2, v3, v4, v5⟩ := hVb
    unfold Vb
    rw [nL_z (by omega), zset_e (show ¬ (3 = 105 + s ∧ s = l) by omega), zset_e (show ¬ (14 = 105 + s ∧ s = l) by omega)]
    refine ⟨fun g x y hx hy => ?_, fun g k hk => ?_, v3, fun x y hx hy => ?_, fun k hk => ?_⟩
    · rw [zset_e (by omega), zset_e (by omega)]; exact v1 g x y hx hy
    · rw [zset_e (by omega), zset_e (by omega)]; exact v2 g k hk
    · rw [zset_e (by omega)]; exact v4 x y hx hy
    · obtain ⟨w1, w2, w3, w4, w5⟩ := v5 k hk
      rw [zset_e (by omega), zset_e (by omega), zset_e (by omega)]
      refine ⟨w1, w2, w3, w4, ?_⟩
      by_cases g : k = l
      · rw [g, zset_h]; omega
      · rw [zset_e (by omega)]; exact w5
  · exact Lz_c (μ := m1) (zset_e (by omega)) (fun o i h => zset_e (by omega)) h
  · exact RC_c (tLast_z (by omega)) (zset_o (by omega)) (zset_o (by omega)) (zset_e (by omega)) (zset_e (by omega)) (zset_e (by omega)) (zset_e (by omega)) (fun i => zset_e (by omega)) hC
  · rw [zset_e (by omega), zset_e (by omega)]
    exact hP
theorem op_change (R : RR lv κ νc μ ν H nS nB nK) (x1 x2 x3 x4 : Int32) : Op1 lv H nS nB nK cd_change (g_X9_change lv 0 x1 x2 x3 x4 κ νc) (g_X10_change x1 x2 x3 x4 μ ν) := by
  have r0 := R.1.1
  have h30 := R.1.2.2.2.2.2.1
  have h4 := R.1.2.1
  have hHH := R.1.2.2.2.2.1
  unfold g_X9_change g_X10_change g_X10_change_29 g_X10_change_52 g_X10_change_59 g_X10_isSpring g_X10_isSpring_25 g_X10_isSpring_26
  rcases ix_cases x1 nS (by omega) with h | ⟨s, hs, rfl⟩
  · exact Op1_e R (by rw [cg r0, ec_seatOf1 R h, zth_r]) (by rw [em_noCellS h30 h4 h, zb_s, em_th1, zg1_s, if_neg (by decide)]) rfl (by decide)
  rw [cg r0, ec_seatOf0 R hs, zth_l]
  rcases cell_c (x := x2) R hs with ⟨h, h2⟩ | ⟨x, y, hx, hy, rfl, hd, hm, hx0, h⟩
  · exact Op1_e R (by rw [h, zth_r]) (by rw [em_cell1 R hs h2, zb_s, em_th1, zg1_s, if_neg (by decide)]) rfl (by decide)
  rw [h, zth_l, em_cell0 R hs hx hy hd hm hx0, zb_s, em_th0, zg1_s, if_pos rfl]
  simp only [hd, hm]
  have eC : nC (zset μ 0 33 0) s = nC μ s := rfl
  have eR : nR (zset μ 0 33 0) s = nR μ s := rfl
  rw [← eC] at hx
  rw [← eR] at hy
  have R1 := RR_t 0 R
  have z1 : zset μ 0 33 0 0 33 = 0 := zset_h
  clear R h30 h eC eR
  generalize zset μ 0 33 0 = m1 at R1 z1 hx hy ⊢
  have hs4 : s < 4 := by omega
  rcases ra_cases x3 20 99 with h | hr3
  · exact Op1_e R1 (by rw [ec_ra1 h, zth_r]) (by rw [em_ra1 h, zb_s, if_pos rfl, zgz0, zb_s, if_pos rfl, em_th1, zg1_s, if_neg (by decide)]) rfl (by decide)
  rw [ec_ra0 hr3, zth_l, em_ra0 hr3, zb_s, if_neg (by decide)]
  rcases ra_cases x4 1 9 with h | hr4
  · exact Op1_e R1 (by rw [ec_ra1 h, zth_r]) (by rw [em_ra1 h, zb_s, if_pos rfl, zgz0, zb_s, if_pos rfl, em_th1, zg1_s, if_neg (by decide)]) rfl (by decide)
  rw [ec_ra0 hr4, zth_l, em_ra0 hr4, zb_s, if_neg (by decide), zgz1, zb_s, if_neg (by decide), em_thz _ z1, zg1_s, if_pos rfl]
  have Q1 := R1.2.2.1 s hs
  obtain ⟨A, hB, hF, hN, ⟨sg, hG⟩, ⟨t, b, c, hV, hz⟩, hX, hO, hM, hT, hD, hA, hL, hVb, hC, hP⟩ := id Q1
  rcases wk_cases (νc := νc) (ν := ν) A hB hN hV hG (a := 115) (by decide) with ⟨e1, e2⟩ | ⟨e1, e2, e3, e4⟩
  · exact Op1_e R1 (by rw [e1, zth_r]) (by rw [e2, zb_s, if_pos rfl, em_th1, zg1_s, if_neg (by decide)]) rfl (by decide)
  rw [e1, zth_l, e2, zb_s, if_neg (by decide), em_thz _ z1, zg1_s, if_pos rfl]
  have hc6 := hB.2.1.2.2
  have hr6 := hB.2.2.1.2.2
  have hn : nD m1 s = 2 := by
    rcases shape hV hB (n := 115) e3 (by decide) (by decide) with ⟨h, -⟩ | ⟨-, h, -⟩ | ⟨h, -⟩ | ⟨h, -⟩ | ⟨h, -⟩ | ⟨h, -⟩
    · omega
    · exact h
    · omega
    · omega
    · omega
    · omega
  have f1 : ¬ m1 3 s ≤ 1 := by rw [n_le1 hB]; omega
  obtain ⟨a8, a4, ah, af, a9, a3, a0, ad, a2, bh, bf, bc, br, b9, bd, b2, hS⟩ := id A
  unfold g_X3_putSpring
  rw [cg a8, cg a4, cg ah, ec_at ah bh, zb_s, cg a8, cg a4, cg a4, cg ah, ec_put ah bh (by omega), zg1_s, cg a4, cg af, ec_put af bf (by omega), zg1_s, zg1_s, gAt_i (by omega), hX.1 x y hx hy, if_neg f1, gq15 hs4, zdv10, gQ15 hs4 (by omega), zdv10, gi15 hs4 (by omega) (by omega), gq15 hs4, zdv10, gQ15 hs4 (by omega), zdv10, gs15 hs4 (by omega) (by omega), gq44 hs4, zdv10, gQ44 hs4 (by omega), zdv10, gs44 hs4 (by omega) (by omega)]
  have h3I := ra_I hr3
  have h4I := ra_I hr4
  have i20 : (20 : Int32).toInt = 20 := rfl
  have i99 : (99 : Int32).toInt = 99 := rfl
  have i1 : (1 : Int32).toInt = 1 := rfl
  have i9 : (9 : Int32).toInt = 9 := rfl
  obtain ⟨K, hK⟩ : ∃ K, K = zset (zset κ (100 * (s + 1) + 1 + 1 + 1000) (10 * x + y) x3) (100 * (s + 1) + 1 + 2 + 1000) (10 * x + y) x4 := ⟨_, rfl⟩
  obtain ⟨M, hM'⟩ : ∃ M, M = zset (zset m1 (17 + 7 * s + x) y x3) (46 + 7 * s + x) y x4 := ⟨_, rfl⟩
  have kk : ∀ o, o ≠ 100 * (s + 1) + 1 + 1 + 1000 → o ≠ 100 * (s + 1) + 1 + 2 + 1000 → K o = κ o := fun o h1 h2 => by rw [hK, zset_o h2, zset_o h1]
  have mm : ∀ o i, ¬ (o = 17 + 7 * s + x ∧ i = y) → ¬ (o = 46 + 7 * s + x ∧ i = y) → M o i = m1 o i := fun o i h1 h2 => by rw [hM', zset_e h2, zset_e h1]
  have kh : ∀ i, K (100 * (s + 1) + 1 + 1 + 1000) i = if i = 10 * x + y then x3 else κ (100 * (s + 1) + 1 + 1 + 1000) i := fun i => by
    rw [hK, zset_e (by omega)]
    by_cases g : i = 10 * x + y
    · rw [g, zset_h, if_pos rfl]
    · rw [zset_e (by omega), if_neg g]
  have kf : ∀ i, K (100 * (s + 1) + 1 + 2 + 1000) i = if i = 10 * x + y then x4 else κ (100 * (s + 1) + 1 + 2 + 1000) i := fun i => by
    rw [hK]
    by_cases g : i = 10 * x + y
    · rw [g, zset_h, if_pos rfl]
    · rw [zset_e (by omega), zset_e (by omega), if_neg g]
  have mh : M (17 + 7 * s + x) y = x3 := by rw [hM', zset_e (by omega), zset_h]
  have mf : M (46 + 7 * s + x) y = x4 := by rw [hM', zset_h]
  rw [← hK, ← hM']
  clear hK hM'
  obtain ⟨hB', c1, c2, c3, c4⟩ := Bd_of (μ' := M) (mm 1 s (by omega) (by omega)) (mm 2 s (by omega) (by omega)) (mm 3 s (by omega) (by omega)) (mm 83 s (by omega) (by omega)) hB
  refine Op1_v (RR_seat2 hs (fun o ho => kk o (by unfold FK at ho; omega) (by unfold FK at ho; omega)) (fun o ho => rfl) (fun o i ho => mm o i (by unfold FP at ho; omega) (by unfold FP at ho; omega)) (fun o ho => rfl) (Int.le_refl _) hHH R1 (RS_core (mm _ _ (by omega) (by omega)) (mm _ _ (by omega) (by omega)) (mm _ _ (by omega) (by omega)) (mm _ _ (by omega) (by omega)) Q1 (fun k hk => mm _ _ (by omega) (by omega)) (fun k hk => mm _ _ (by omega) (by omega)) ?_ ?_ ?_ ?_ ?_ ?_ ?_ (fun t b c _ h => ?_) ?_ ?_ (by rw [kk _ (by omega) (by omega)]) (by rw [kk _ (by omega) (by omega)]) (kk _ (by omega) (by omega)) (kk _ (by omega) (by omega)) (by rw [kk _ (by omega) (by omega)]) (by rw [kk _ (by omega) (by omega)])) (Or.inl ?_)) (by rw [mm _ _ (by omega) (by omega)]; exact z1) rfl rfl
  · unfold RX
    rw [c1, c2, mm 3 s (by omega) (by omega), kk (100 * (s + 1) + 1 + 1000) (by omega) (by omega), kk (100 * (s + 1) + 1 + 2000) (by omega) (by omega)]
    simp only [if_neg f1]
    refine ⟨fun x' y' hx' hy' => ?_, fun k hk => ?_⟩
    · rw [kh]
      by_cases g : x' = x ∧ y' = y
      · rw [g.1, g.2, if_pos rfl, mh]
      · rw [if_neg (by omega), mm _ _ (by omega) (by omega)]
        have := hX.1 x' y' hx' hy'
        rwa [if_neg f1] at this
    · rw [mm _ _ (by omega) (by omega), mm _ _ (by omega) (by omega)]
      have := hX.2 k hk
      rwa [if_neg f1, if_neg f1] at this
  · exact RO_c (μ := m1) c1 c2 (mm _ _ (by omega) (by omega)) (fun o i h => mm _ _ (by omega) (by omega)) hO
  · unfold RM
    rw [c1, c2, mm 3 s (by omega) (by omega)]
    simp only [if_neg f1]
    intro x' y' hx' hy'
    rw [kf]
    by_cases g : x' = x ∧ y' = y
    · rw [g.1, g.2, if_pos rfl, mf]
    · rw [if_neg (by omega), mm _ _ (by omega) (by omega)]
      have := hM x' y' hx' hy'
      rwa [if_neg f1] at this
  · exact RT_c (μ := m1) (mm _ _ (by omega) (by omega)) (by rw [kk _ (by omega) (by omega)]) (mm _ _ (by omega) (by omega)) hT
  · exact RD_c (kk _ (by omega) (by omega)) (fun o i h => mm _ _ (by omega) (by omega)) hD
  · exact RLa_c hB c4 (fun o h1 h2 => ⟨kk _ (by omega) (by omega), rfl⟩) (fun o i h => mm _ _ (by omega) (by omega)) (fun i => rfl) hL
  · obtain ⟨v1, v2, v3, v4, v5⟩ := hVb
    unfold Vb
    rw [c4, mm 3 s (by omega) (by omega), mm 14 s (by omega) (by omega)]
    refine ⟨fun g x' y' hx' hy' => ?_, fun g k hk => ?_, v3, fun x' y' hx' hy' => ?_, fun k hk => ?_⟩
    · by_cases w : x' = x ∧ y' = y
      · rw [w.1, w.2, mh, mf]
        omega
      · rw [mm _ _ (by omega) (by omega), mm _ _ (by omega) (by omega)]; exact v1 g x' y' hx' hy'
    · rw [mm _ _ (by omega) (by omega), mm _ _ (by omega) (by omega)]; exact v2 g k hk
    · rw [mm _ _ (by omega) (by omega)]; exact v4 x' y' hx' hy'
    · rw [mm _ _ (by omega) (by omega), mm _ _ (by omega) (by omega), mm _ _ (by omega) (by omega), mm _ _ (by omega) (by omega)]; exact v5 k hk
  · exact Lz_c (μ := m1) (mm _ _ (by omega) (by omega)) (fun o i h => mm _ _ (by omega) (by omega)) h
  · exact RC_c (tLast_c (μ := m1) (mm _ _ (by omega) (by omega)) (fun i => mm _ _ (by omega) (by omega))) (kk _ (by omega) (by omega)) (kk _ (by omega) (by omega)) (mm _ _ (by omega) (by omega)) (mm _ _ (by omega) (by omega)) (mm _ _ (by omega) (by omega)) (mm _ _ (by omega) (by omega)) (fun i => mm _ _ (by omega) (by omega)) hC
  · rw [kk _ (by omega) (by omega), mm _ _ (by omega) (by omega)]
    exact hP
  · rw [tLast_c (μ := m1) (mm _ _ (by omega) (by omega)) (fun i => mm _ _ (by omega) (by omega)), e3]
    decide
end ZWD
