section ZRE
/-! operations that only read -/
variable {lv : Nat → Bool} {κ κ' : zzM} {νc νc' : zzN} {μ μ' : zzM} {ν ν' : zzN} {H H' : Int} {nS nB nK : Nat}
theorem em_thz (w : Int32) (h : μ 0 33 = 0) : g_X10_isThrown 0 w μ ν = some (0, μ, ν) := by
  rw [em_th0]
  have : zset μ 0 33 0 = μ := by
    funext o i
    unfold zset
    by_cases q : o = 0 ∧ i = 33
    · rw [if_pos q, q.1, q.2, h]
    · rw [if_neg q]
  rw [this]
theorem Op0_e {cd : Nat → Option Int32} {g : Option (Int32 ⊕ Nat)} {gm : Option (Int32 × zzM × zzN)} {e : Nat} {t v : Int32} (R : RR lv κ νc μ ν H nS nB nK) (h1 : g = some (.inr e)) (h2 : gm = some (v, zset μ 0 33 t, ν)) (h3 : cd e = some t) (h4 : ¬ t = 0) : Op1 lv H nS nB nK cd (up κ νc g) gm := Op1_e R (by rw [h1]; rfl) h2 h3 h4
theorem Op0_v {cd : Nat → Option Int32} {g : Option (Int32 ⊕ Nat)} {gm : Option (Int32 × zzM × zzN)} {v : Int32} (R : RR lv κ νc μ ν H nS nB nK) (z : μ 0 33 = 0) (h1 : g = some (.inl v)) (h2 : gm = some (v, μ, ν)) : Op1 lv H nS nB nK cd (up κ νc g) gm := Op1_v R z (by rw [h1]; rfl) h2
theorem op_steps (R : RR lv κ νc μ ν H nS nB nK) (x1 : Int32) : Op1 lv H nS nB nK cd_steps (up κ νc (g_X9_steps lv 0 x1 κ νc)) (g_X10_steps x1 μ ν) := by
  have r0 := R.1.1
  have h30 := R.1.2.2.2.2.2.1
  have h4 := R.1.2.1
  unfold g_X9_steps g_X10_steps g_X10_steps_23
  rcases ix_cases x1 nS (by omega) with h | ⟨s, hs, rfl⟩
  · exact Op0_e R (by rw [cg r0, ec_seatOf1 R h, zth_r]) (by rw [em_noSeat1 h30 (by omega) h, zb_s, em_th1, zg1_s, if_neg (by decide)]) rfl (by decide)
  rw [cg r0, ec_seatOf0 R hs, zth_l, em_noSeat0 h30 (by omega) hs, zb_s, em_th0, zg1_s, if_pos rfl]
  have R1 := RR_t 0 R
  have z1 : zset μ 0 33 0 0 33 = 0 := zset_h
  generalize zset μ 0 33 0 = m1 at R1 z1 ⊢
  obtain ⟨A, hB, hF, hN, ⟨sg, hG⟩, ⟨t, b, c, hV, hz⟩, hX, hO, hM, hT, hD, hA, hL, hVb, hC, hP⟩ := R1.2.2.1 s hs
  have hs4 : s < 4 := by omega
  exact Op0_v R1 z1 (by rw [cg A.1, cg A.2.2.2.2.1, hN.1]) (by rw [gi3 hs4])
theorem op_step (R : RR lv κ νc μ ν H nS nB nK) (x1 x2 : Int32) : Op1 lv H nS nB nK cd_step (up κ νc (g_X9_step lv 0 x1 x2 κ νc)) (g_X10_step x1 x2 μ ν) := by
  have r0 := R.1.1
  have h30 := R.1.2.2.2.2.2.1
  have h4 := R.1.2.1
  unfold g_X9_step g_X10_step g_X10_step_22
  rcases ix_cases x1 nS (by omega) with h | ⟨s, hs, rfl⟩
  · exact Op0_e R (by rw [cg r0, ec_seatOf1 R h, zth_r]) (by rw [em_noStepS h30 (by omega) h, zg1_s, if_neg (by decide), zgc_p CH32]) rfl (by decide)
  rw [cg r0, ec_seatOf0 R hs, zth_l]
  obtain ⟨A, hB, hF, hN, ⟨sg, hG⟩, ⟨t, b, c, hV, hz⟩, -⟩ := R.2.2.1 s hs
  have hs4 : s < 4 := by omega
  have hd := hB.2.2.2.1
  rw [cg A.1, cg A.2.2.2.2.1, hN.1, hd.1]
  rcases ix_cases x2 (nD μ s) (by omega) with h | ⟨k, hk, rfl⟩
  · exact Op0_e R (by rw [ec_el1 h, zth_r]) (by rw [em_noStep1 h30 h4 hs hB h, zg1_s, if_neg (by decide), zgc_p CH32]) rfl (by decide)
  have hch : CH (μ (5 + s) k) := by
    rw [hV.2.2.2.2.2.2 k hk]
    exact CH_n (Lt_le _ _ _ _)
  refine Op0_v (v := μ (5 + s) k) (RR_t 0 R) zset_h ?_ ?_
  · rw [ec_el0 hk (by omega), zth_l, cg A.1, cg A.2.2.2.2.1, ec_letterAt A hB hN hV hk, zb_s, zgc_p hch]
  · rw [em_noStep0 h30 h4 hs hB hk, zg1_s, if_pos rfl, gq4 hs4, gi4 hs4 (by omega), zset_e (by omega), zgc_p hch]
theorem op_isSigned (R : RR lv κ νc μ ν H nS nB nK) (x1 x2 : Int32) : Op1 lv H nS nB nK cd_isSigned (up κ νc (g_X9_isSigned lv 0 x1 x2 κ νc)) (g_X10_isSigned x1 x2 μ ν) := by
  have r0 := R.1.1
  have h30 := R.1.2.2.2.2.2.1
  have h4 := R.1.2.1
  unfold g_X9_isSigned g_X10_isSigned g_X9_isSigned_33 g_X10_isSigned_24 g_X10_isSigned_25
  rcases ix_cases x1 nS (by omega) with h | ⟨s, hs, rfl⟩
  · exact Op0_e R (by rw [cg r0, ec_seatOf1 R h, zth_r]) (by rw [em_noStepS h30 (by omega) h, zg1_s, if_neg (by decide), zgz0]) rfl (by decide)
  rw [cg r0, ec_seatOf0 R hs, zth_l]
  obtain ⟨A, hB, hF, hN, ⟨sg, hG⟩, ⟨t, b, c, hV, hz⟩, -⟩ := R.2.2.1 s hs
  have hs4 : s < 4 := by omega
  have hd := hB.2.2.2.1
  rw [cg A.1, cg A.2.2.2.2.1, hN.1, hd.1]
  rcases ix_cases x2 (nD μ s) (by omega) with h | ⟨k, hk, rfl⟩
  · exact Op0_e R (by rw [ec_el1 h, zth_r]) (by rw [em_noStep1 h30 h4 hs hB h, zg1_s, if_neg (by decide), zgz0]) rfl (by decide)
  obtain ⟨g1, g2, g3⟩ := hG
  by_cases g : k < sg
  · refine Op0_v (v := 1) (RR_t 0 R) zset_h ?_ ?_
    · rw [ec_el0 hk (by omega), zth_l, cg A.1, cg A.2.2.2.2.1, g2, if_neg (nle (by omega)), zgz1]
    · rw [em_noStep0 h30 h4 hs hB hk, zg1_s, if_pos rfl, gq9 hs4, gi9 hs4 (by omega), zset_e (by omega), g3 k hk, if_pos g, if_neg (by decide), zgz1]
  · refine Op0_v (v := 0) (RR_t 0 R) zset_h ?_ ?_
    · rw [ec_el0 hk (by omega), zth_l, cg A.1, cg A.2.2.2.2.1, g2, if_pos (ple (by omega)), zgz0]
    · rw [em_noStep0 h30 h4 hs hB hk, zg1_s, if_pos rfl, gq9 hs4, gi9 hs4 (by omega), zset_e (by omega), g3 k hk, if_neg g, if_pos rfl, zgz0]
theorem op_isClosed (R : RR lv κ νc μ ν H nS nB nK) (x1 : Int32) : Op1 lv H nS nB nK cd_isClosed (up κ νc (g_X9_isClosed lv 0 x1 κ νc)) (g_X10_isClosed x1 μ ν) := by
  have r0 := R.1.1
  have h30 := R.1.2.2.2.2.2.1
  have h4 := R.1.2.1
  unfold g_X9_isClosed g_X10_isClosed g_X10_isClosed_27 g_X10_isClosed_28
  rcases ix_cases x1 nS (by omega) with h | ⟨s, hs, rfl⟩
  · exact Op0_e R (by rw [cg r0, ec_seatOf1 R h, zth_r]) (by rw [em_noSeat1 h30 (by omega) h, zb_s, em_th1, zg1_s, if_neg (by decide), zgz0]) rfl (by decide)
  rw [cg r0, ec_seatOf0 R hs, zth_l, em_noSeat0 h30 (by omega) hs, zb_s, em_th0, zg1_s, if_pos rfl]
  have R1 := RR_t 0 R
  have z1 : zset μ 0 33 0 0 33 = 0 := zset_h
  generalize zset μ 0 33 0 = m1 at R1 z1 ⊢
  obtain ⟨A, hB, hF, hN, ⟨sg, hG⟩, ⟨t, b, c, hV, hz⟩, hX, hO, hM, hT, hD, hA, hL, hVb, hC, hP⟩ := R1.2.2.1 s hs
  rw [cg A.1, ec_hasCover A hB hN hV, zb_s, em_last hB (Lv_ch hV), zb_s]
  by_cases g : tLast m1 s = 99
  · exact Op0_v (v := 1) R1 z1 (by rw [if_pos g, zgz1]) (by rw [if_pos g, zgz1])
  · exact Op0_v (v := 0) R1 z1 (by rw [if_neg g, zgz0]) (by rw [if_neg g, zgz0])
theorem op_stands (R : RR lv κ νc μ ν H nS nB nK) (x1 x2 : Int32) : Op1 lv H nS nB nK cd_stands (up κ νc (g_X9_stands lv 0 x1 x2 κ νc)) (g_X10_stands x1 x2 μ ν) := by
  have r0 := R.1.1
  have h30 := R.1.2.2.2.2.2.1
  have h4 := R.1.2.1
  unfold g_X9_stands g_X10_stands g_X10_stands_31
  rcases ix_cases x1 nS (by omega) with h | ⟨s, hs, rfl⟩
  · exact Op0_e R (by rw [cg r0, ec_seatOf1 R h, zth_r]) (by rw [em_noCellS h30 h4 h, zb_s, em_th1, zg1_s, if_neg (by decide)]) rfl (by decide)
  rw [cg r0, ec_seatOf0 R hs, zth_l]
  rcases cell_c (x := x2) R hs with ⟨h, h2⟩ | ⟨a, b', ha, hb, rfl, hd, hm, hx, h⟩
  · exact Op0_e R (by rw [h, zth_r]) (by rw [em_cell1 R hs h2, zb_s, em_th1, zg1_s, if_neg (by decide)]) rfl (by decide)
  rw [h, zth_l, em_cell0 R hs ha hb hd hm hx, zb_s, em_th0, zg1_s, if_pos rfl, zdv10, zdv10, hd, hm]
  have eC : nC (zset μ 0 33 0) s = nC μ s := rfl
  have eR : nR (zset μ 0 33 0) s = nR μ s := rfl
  rw [← eC] at ha
  rw [← eR] at hb
  have R1 := RR_t 0 R
  have z1 : zset μ 0 33 0 0 33 = 0 := zset_h
  generalize zset μ 0 33 0 = m1 at R1 z1 ha hb ⊢
  obtain ⟨A, hB, hF, hN, ⟨sg, hG⟩, ⟨t, b, c, hV, hz⟩, hX, hO, hM, hT, hD, hA, hL, hVb, hC, hP⟩ := R1.2.2.1 s hs
  have hs4 : s < 4 := by omega
  have hc6 := hB.2.1.2.2
  have hr6 := hB.2.2.1.2.2
  exact Op0_v R1 z1 (by rw [cg A.1, cg A.2.1, ec_heightAt A hB (RX_RH hB hX) ha hb, zb_s]) (by rw [em_standsAt hs4 (by omega) (by omega), zb_s])
theorem op_top (R : RR lv κ νc μ ν H nS nB nK) (x1 x2 : Int32) : Op1 lv H nS nB nK cd_top (up κ νc (g_X9_top lv 0 x1 x2 κ νc)) (g_X10_top x1 x2 μ ν) := by
  have r0 := R.1.1
  have h30 := R.1.2.2.2.2.2.1
  have h4 := R.1.2.1
  unfold g_X9_top g_X10_top g_X10_top_31
  rcases ix_cases x1 nS (by omega) with h | ⟨s, hs, rfl⟩
  · exact Op0_e R (by rw [cg r0, ec_seatOf1 R h, zth_r]) (by rw [em_noCellS h30 h4 h, zb_s, em_th1, zg1_s, if_neg (by decide)]) rfl (by decide)
  rw [cg r0, ec_seatOf0 R hs, zth_l]
  rcases cell_c (x := x2) R hs with ⟨h, h2⟩ | ⟨a, b', ha, hb, rfl, hd, hm, hx, h⟩
  · exact Op0_e R (by rw [h, zth_r]) (by rw [em_cell1 R hs h2, zb_s, em_th1, zg1_s, if_neg (by decide)]) rfl (by decide)
  rw [h, zth_l, em_cell0 R hs ha hb hd hm hx, zb_s, em_th0, zg1_s, if_pos rfl, zdv10, zdv10, hd, hm]
  have eC : nC (zset μ 0 33 0) s = nC μ s := rfl
  have eR : nR (zset μ 0 33 0) s = nR μ s := rfl
  rw [← eC] at ha
  rw [← eR] at hb
  have R1 := RR_t 0 R
  have hH := R.1.2.2.2.2.1
  have z1 : zset μ 0 33 0 0 33 = 0 := zset_h
  generalize zset μ 0 33 0 = m1 at R1 z1 ha hb ⊢
  obtain ⟨A, hB, hF, hN, ⟨sg, hG⟩, ⟨t, b, c, hV, hz⟩, hX, hO, hM, hT, hD, hA, hL, hVb, hC, hP⟩ := R1.2.2.1 s hs
  have hs4 : s < 4 := by omega
  have hc6 := hB.2.1.2.2
  have hr6 := hB.2.2.1.2.2
  exact Op0_v R1 z1 (by rw [cg A.1, ec_topOf A hB (RX_RH hB hX) hA hL hD ha hb, zb_s]) (by rw [em_topAt hB (Vb_Dn hVb hH) (by omega) (by omega), zb_s])
theorem op_thick (R : RR lv κ νc μ ν H nS nB nK) (x1 x2 : Int32) : Op1 lv H nS nB nK cd_thick (up κ νc (g_X9_thick lv 0 x1 x2 κ νc)) (g_X10_thick x1 x2 μ ν) := by
  have r0 := R.1.1
  have h30 := R.1.2.2.2.2.2.1
  have h4 := R.1.2.1
  have hH := R.1.2.2.2.2.1
  unfold g_X9_thick g_X10_thick g_X10_thick_19
  rcases ix_cases x1 nS (by omega) with h | ⟨s, hs, rfl⟩
  · exact Op0_e R (by rw [cg r0, ec_seatOf1 R h, zth_r]) (by rw [em_noLayerS h30 h4 h, zg1_s, if_neg (by decide)]) rfl (by decide)
  rw [cg r0, ec_seatOf0 R hs, zth_l]
  obtain ⟨A, hB, hF, hN, ⟨sg, hG⟩, ⟨t, b, c, hV, hz⟩, hX, hO, hM, hT, hD, hA, hL, hVb, hC, hP⟩ := R.2.2.1 s hs
  have hs4 : s < 4 := by omega
  have hl4 := hB.2.2.2.2.2
  rcases ly_cases (νc := νc) x2 A hB hA with ⟨h, h2⟩ | ⟨l, hl, rfl, h⟩
  · exact Op0_e R (by rw [h, zth_r]) (by rw [em_noLayer1 h30 h4 hs hB h2, zg1_s, if_neg (by decide)]) rfl (by decide)
  rw [h, zth_l, em_noLayer0 h30 h4 hs hB hl, zg1_s, if_pos rfl]
  have eL : nL (zset μ 0 33 0) s = nL μ s := rfl
  rw [← eL] at hl
  have R1 := RR_t 0 R
  have z1 : zset μ 0 33 0 0 33 = 0 := zset_h
  clear hA hL hVb
  generalize zset μ 0 33 0 = m1 at R1 z1 hl ⊢
  obtain ⟨-, hB1, -, -, -, -, -, -, -, -, -, hA, hL, hVb, -⟩ := R1.2.2.1 s hs
  have hl4 := hB1.2.2.2.2.2
  exact Op0_v R1 z1 (by rw [cg (hA.1 l hl), (hL l hl).2.2.2.1]) (by rw [em_thickNow hs4 (by omega) (Vb_Dn hVb hH l hl), zb_s])
theorem op_buttonAt (R : RR lv κ νc μ ν H nS nB nK) (x1 x2 : Int32) : Op1 lv H nS nB nK cd_buttonAt (up κ νc (g_X9_buttonAt lv 0 x1 x2 κ νc)) (g_X10_buttonAt x1 x2 μ ν) := by
  have r0 := R.1.1
  have h30 := R.1.2.2.2.2.2.1
  have h4 := R.1.2.1
  unfold g_X9_buttonAt g_X10_buttonAt g_X10_buttonAt_43 g_X10_buttonAt_55
  rcases ix_cases x1 nS (by omega) with h | ⟨s, hs, rfl⟩
  · exact Op0_e R (by rw [cg r0, ec_seatOf1 R h, zth_r]) (by rw [em_noCellS h30 h4 h, zb_s, em_th1, zg1_s, if_neg (by decide)]) rfl (by decide)
  rw [cg r0, ec_seatOf0 R hs, zth_l]
  rcases cell_c (x := x2) R hs with ⟨h, h2⟩ | ⟨a, b', ha, hb, rfl, hd, hm, hx, h⟩
  · exact Op0_e R (by rw [h, zth_r]) (by rw [em_cell1 R hs h2, zb_s, em_th1, zg1_s, if_neg (by decide)]) rfl (by decide)
  rw [h, zth_l, em_cell0 R hs ha hb hd hm hx, zb_s, em_th0, zg1_s, if_pos rfl, hd, hm]
  have eC : nC (zset μ 0 33 0) s = nC μ s := rfl
  have eR : nR (zset μ 0 33 0) s = nR μ s := rfl
  rw [← eC] at ha
  rw [← eR] at hb
  have R1 := RR_t 0 R
  have z1 : zset μ 0 33 0 0 33 = 0 := zset_h
  generalize zset μ 0 33 0 = m1 at R1 z1 ha hb ⊢
  obtain ⟨A, hB, hF, hN, ⟨sg, hG⟩, ⟨t, b, c, hV, hz⟩, hX, hO, hM, hT, hD, hA, hL, hVb, hC, hP⟩ := R1.2.2.1 s hs
  have hs4 : s < 4 := by omega
  have hc6 := hB.2.1.2.2
  have hr6 := hB.2.2.1.2.2
  obtain ⟨a8, a4, ah, af, a9, a3, a0, ad, a2, bh, bf, bc, br, b9, bd, b2, hS⟩ := A
  rw [cg a8, cg ad, ec_at ad bd, zb_s, gAt_i (by omega), RD_at hD (by omega) (by omega), gq109 hs4, zdv10, gQ109 hs4 (by omega), zdv10, gi109 hs4 (by omega) (by omega)]
  by_cases g : m1 (111 + 7 * s + a) b' = 0
  · exact Op0_e R1 (by rw [if_pos g]) (by rw [if_pos g, em_th1, zg1_s, if_neg (by decide)]) rfl (by decide)
  · exact Op0_v R1 z1 (by rw [if_neg g]) (by rw [if_neg g, em_thz _ z1, zg1_s, if_pos rfl])
theorem op_left (R : RR lv κ νc μ ν H nS nB nK) (x1 : Int32) : Op1 lv H nS nB nK cd_left (up κ νc (g_X9_left lv 0 x1 κ νc)) (g_X10_left x1 μ ν) := by
  have r0 := R.1.1
  have h32 := R.1.2.2.2.2.2.2.2
  have h4 := R.1.2.2.2.1
  unfold g_X9_left g_X10_left g_X10_left_20 g_X10_left_44
  rw [h32]
  rcases ix_cases x1 nK (by omega) with h | ⟨j, hj, rfl⟩
  · exact Op0_e R (by rw [cg r0, ec_clothOf1 R h, zth_r]) (by rw [em_ix0 (by omega) h, zb_s, if_pos rfl, em_th1, zg1_s, if_neg (by decide)]) rfl (by decide)
  obtain ⟨k1, k2, k3, k4, k5, -⟩ := R.2.2.2.2.2.2.1 j hj
  have hj4 : j < 4 := by omega
  refine Op0_v (v := μ 169 j - μ 171 j) (RR_t 0 R) zset_h ?_ ?_
  · rw [cg r0, ec_clothOf0 R hj, zth_l, cg k1.1, cg k1.1, k2.1, k5.1]
  · rw [em_ix1 (by omega) hj, zb_s, if_neg (by decide), em_th0, zg1_s, if_pos rfl, gi169 hj4, gi171 hj4]
    rfl
theorem op_hours (R : RR lv κ νc μ ν H nS nB nK) (x1 : Int32) : Op1 lv H nS nB nK cd_hours (up κ νc (g_X9_hours lv 0 x1 κ νc)) (g_X10_hours x1 μ ν) := by
  have r0 := R.1.1
  have h30 := R.1.2.2.2.2.2.1
  have h4 := R.1.2.1
  unfold g_X9_hours g_X10_hours g_X10_hours_29 g_X10_hours_36 g_X10_hours_46
  rcases ix_cases x1 nS (by omega) with h | ⟨s, hs, rfl⟩
  · exact Op0_e R (by rw [cg r0, ec_seatOf1 R h, zth_r]) (by rw [em_noSeat1 h30 (by omega) h, zb_s, em_th1, zg1_s, if_neg (by decide)]) rfl (by decide)
  rw [cg r0, ec_seatOf0 R hs, zth_l, em_noSeat0 h30 (by omega) hs, zb_s, em_th0, zg1_s, if_pos rfl]
  have R1 := RR_t 0 R
  have z1 : zset μ 0 33 0 0 33 = 0 := zset_h
  generalize zset μ 0 33 0 = m1 at R1 z1 ⊢
  obtain ⟨A, hB, hF, hN, ⟨sg, hG⟩, ⟨t, b, c, hV, hz⟩, hX, hO, hM, hT, hD, hA, hL, hVb, hC, hP⟩ := R1.2.2.1 s hs
  have hs4 : s < 4 := by omega
  rw [ec_closed A hB hN hV, em_last hB (Lv_ch hV), zb_s]
  by_cases g : tLast m1 s = 99
  · exact Op0_v R1 z1 (by rw [if_pos g, zth_l, cg A.1, cg A.2.2.2.2.2.2.2.2.1, hC.2.2.2.1]) (by rw [if_pos g, em_thz _ z1, zg1_s, if_pos rfl, gi144 hs4])
  · exact Op0_e R1 (by rw [if_neg g, zth_r]) (by rw [if_neg g, em_th1, zg1_s, if_neg (by decide)]) rfl (by decide)
theorem op_panel (R : RR lv κ νc μ ν H nS nB nK) (x1 x2 : Int32) : Op1 lv H nS nB nK cd_panel (up κ νc (g_X9_panel lv 0 x1 x2 κ νc)) (g_X10_panel x1 x2 μ ν) := by
  have r0 := R.1.1
  have h30 := R.1.2.2.2.2.2.1
  have h4 := R.1.2.1
  unfold g_X9_panel g_X10_panel g_X10_panel_40 g_X10_panel_45 g_X10_panel_52
  rcases ix_cases x1 nS (by omega) with h | ⟨s, hs, rfl⟩
  · exact Op0_e R (by rw [cg r0, ec_seatOf1 R h, zth_r]) (by rw [em_noSeat1 h30 (by omega) h, zb_s, em_th1, zg1_s, if_neg (by decide)]) rfl (by decide)
  rw [cg r0, ec_seatOf0 R hs, zth_l, em_noSeat0 h30 (by omega) hs, zb_s, em_th0, zg1_s, if_pos rfl]
  have R1 := RR_t 0 R
  have z1 : zset μ 0 33 0 0 33 = 0 := zset_h
  generalize zset μ 0 33 0 = m1 at R1 z1 ⊢
  obtain ⟨A, hB, hF, hN, ⟨sg, hG⟩, ⟨t, b, c, hV, hz⟩, hX, hO, hM, hT, hD, hA, hL, hVb, hC, hP⟩ := R1.2.2.1 s hs
  have hs4 : s < 4 := by omega
  have hc := hB.2.1
  obtain ⟨a8, a4, ah, af, a9, a3, a0, ad, a2, bh, bf, bc, br, b9, bd, b2, hS⟩ := A
  rw [cg a8, cg a2, hC.2.2.2.2.1, em_last hB (Lv_ch hV), zb_s]
  by_cases g : tLast m1 s = 99
  · rw [if_pos g, if_pos g, gi1 hs4, hc.1]
    rcases ix_cases x2 (nC m1 s) (by omega) with h | ⟨k, hk, rfl⟩
    · exact Op0_e R1 (by rw [ec_el1 h, zth_r]) (by rw [em_ix0 (by omega) h, zb_s, if_pos rfl, em_th1, zg1_s, if_neg (by decide)]) rfl (by decide)
    · refine Op0_v R1 z1 (v := m1 (139 + s) k) ?_ ?_
      · unfold g_X1_placeAt g_X1_placeAt_22 g_X1_placeAt_23
        rw [ec_el0 hk (by omega), zth_l, cg a2, if_neg (on_nn k (by omega)), cg a2, cl b2, if_neg (nle (by omega)), cg a2, ca b2 (by omega), zb_s, hC.1 k (by omega)]
      · rw [em_ix1 (by omega) hk, zb_s, if_neg (by decide), em_thz _ z1, zg1_s, if_pos rfl, gq138 hs4, gi138 hs4 (by omega)]
  · rw [if_neg g, if_neg g]
    have h : x2 < 0 ∨ (¬ x2 < 0 ∧ ¬ x2 < Int32.ofNat 0) := by
      by_cases q : x2 < 0
      · exact Or.inl q
      · exact Or.inr ⟨q, q⟩
    exact Op0_e R1 (by rw [nlt0, ec_el1 h, zth_r]) (by rw [em_th1, zg1_s, if_neg (by decide)]) rfl (by decide)
theorem op_holds (R : RR lv κ νc μ ν H nS nB nK) (x1 : Int32) : Op1 lv H nS nB nK cd_holds (up κ νc (g_X9_holds lv 0 x1 κ νc)) (g_X10_holds x1 μ ν) := by
  have r0 := R.1.1
  have h30 := R.1.2.2.2.2.2.1
  have h4 := R.1.2.1
  have hH := R.1.2.2.2.2.1
  unfold g_X9_holds g_X10_holds g_X9_holds_47 g_X10_holds_29 g_X10_holds_36 g_X10_holds_74
  rcases ix_cases x1 nS (by omega) with h | ⟨s, hs, rfl⟩
  · exact Op0_e R (by rw [cg r0, ec_seatOf1 R h, zth_r]) (by rw [em_noSeat1 h30 (by omega) h, zb_s, em_th1, zg1_s, if_neg (by decide)]) rfl (by decide)
  rw [cg r0, ec_seatOf0 R hs, zth_l, em_noSeat0 h30 (by omega) hs, zb_s, em_th0, zg1_s, if_pos rfl]
  have R1 := RR_t 0 R
  have z1 : zset μ 0 33 0 0 33 = 0 := zset_h
  generalize zset μ 0 33 0 = m1 at R1 z1 ⊢
  obtain ⟨A, hB, hF, hN, ⟨sg, hG⟩, ⟨t, b, c, hV, hz⟩, hX, hO, hM, hT, hD, hA, hL, hVb, hC, hP⟩ := R1.2.2.1 s hs
  have hs4 : s < 4 := by omega
  rw [ec_closed A hB hN hV, em_last hB (Lv_ch hV), zb_s]
  by_cases g : tLast m1 s = 99
  · rw [if_pos g, if_pos g, zth_l, cg A.1, cg A.2.2.2.2.2.2.2.2.1, cg A.1, ec_topsInAll A hB hF (RX_RH hB hX) hA hL hD, zb_s, cg A.1, cg A.2.2.2.2.2.2.2.2.1, cg A.1, zdv100, hC.2.2.1, hP, em_thz _ z1, zg1_s, if_pos rfl, gi145 hs4, em_tops hB (Vb_Dn hVb hH), zb_s, gi145 hs4, gi146 hs4, zdv100]
    by_cases w : (m1 145 s * m1 146 s) / 100 < m1 145 s - tSum m1 s (tTop m1 ν s)
    · exact Op0_v (v := 0) R1 z1 (by rw [if_pos w, zgz0]) (by rw [if_pos w, zgz0])
    · exact Op0_v (v := 1) R1 z1 (by rw [if_neg w, zgz1]) (by rw [if_neg w, zgz1])
  · exact Op0_e R1 (by rw [if_neg g, zth_r]) (by rw [if_neg g, em_th1, zg1_s, if_neg (by decide)]) rfl (by decide)
end ZRE
