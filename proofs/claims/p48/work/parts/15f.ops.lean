section ZWF
/-! pulling, drawing, springs -/
variable {lv : Nat → Bool} {κ κ' : zzM} {νc νc' : zzN} {μ μ' : zzM} {ν ν' : zzN} {H H' : Int} {nS nB nK : Nat}
theorem sm_u {f g : Nat → Int32} {j : Nat} : ∀ {n : Nat}, j < n → (∀ i, i < n → i ≠ j → g i = f i) → sm g n = sm f n + (g j - f j)
  | 0, h, _ => absurd h (by omega)
  | n + 1, h, e => by
    rw [sm_s, sm_s]
    by_cases q : j = n
    · subst q
      rw [sm_e (f := g) (g := f) (fun i hi => e i (by omega) (by omega))]
      generalize sm f j = a
      grind
    · rw [sm_u (j := j) (n := n) (by omega) (fun i hi hne => e i (by omega) hne), e n (by omega) (fun q2 => q q2.symm)]
      generalize sm f n = a
      grind
theorem tDr_s (μ : zzM) (s : Nat) : tDr μ s = sm (fun x => sm (fun y => if μ (111 + 7 * s + x) y ≤ 0 then 0 else 1) 6) 6 := by
  unfold tDr
  rw [sm2]
theorem tDr_u {s x y : Nat} {d : Int32} (hx : x < 6) (hy : y < 6) : tDr (zset μ (111 + 7 * s + x) y d) s = tDr μ s + ((if d ≤ 0 then 0 else 1) - (if μ (111 + 7 * s + x) y ≤ 0 then 0 else 1)) := by
  rw [tDr_s, tDr_s]
  rw [sm_u (j := x) (f := fun x => sm (fun y => if μ (111 + 7 * s + x) y ≤ 0 then 0 else 1) 6) hx (fun i hi hne => sm_e (fun k hk => by rw [zset_e (by omega)]))]
  congr 1
  rw [sm_u (j := y) (f := fun y => if μ (111 + 7 * s + x) y ≤ 0 then 0 else 1) hy (fun i hi hne => by rw [zset_e (by omega)])]
  rw [zset_h]
  generalize sm (fun y => if μ (111 + 7 * s + x) y ≤ 0 then (0 : Int32) else 1) 6 = a
  generalize (if d ≤ 0 then (0 : Int32) else 1) = b
  generalize (if μ (111 + 7 * s + x) y ≤ 0 then (0 : Int32) else 1) = c
  grind
theorem op_pull (R : RR lv κ νc μ ν H nS nB nK) (x1 x2 x3 x4 : Int32) : Op1 lv H nS nB nK cd_pull (g_X9_pull lv 0 x1 x2 x3 x4 κ νc) (g_X10_pull x1 x2 x3 x4 μ ν) := by
  have r0 := R.1.1
  have h30 := R.1.2.2.2.2.2.1
  have h4 := R.1.2.1
  have hHH := R.1.2.2.2.2.1
  unfold g_X9_pull g_X9_pull_31 g_X10_pull g_X10_pull_30 g_X10_pull_38 g_X10_pull_43 g_X10_pull_68 g_X10_pull_75 g_X10_pull_93
  rcases ix_cases x1 nS (by omega) with h | ⟨s, hs, rfl⟩
  · exact Op1_e R (by rw [cg r0, ec_seatOf1 R h, zth_r]) (by rw [em_noSeat1 h30 (by omega) h, zb_s, if_neg (by decide), em_th1, zg1_s, if_neg (by decide)]) rfl (by decide)
  rw [cg r0, ec_seatOf0 R hs, zth_l, em_noSeat0 h30 (by omega) hs, zb_s, if_pos rfl]
  obtain ⟨A0, hB0, hF0, -⟩ := R.2.2.1 s hs
  have hs4 : s < 4 := by omega
  by_cases g0 : x2 = 0
  · skip
    have hcnt := hB0.2.2.1
    rw [if_pos g0, cg A0.1, cg A0.2.1, hF0.2, if_pos g0, gi2 hs4, hcnt.1]
    have hcm : 1 ≤ nR μ s ∧ nR μ s ≤ 6 := hcnt.2
    rcases ix_cases x3 (nR μ s) (by omega) with h | ⟨k, hk, rfl⟩
    · exact Op1_e R (by rw [ec_ix1 h, zth_r]) (by rw [em_ix0 (by omega) h, zb_s, if_pos rfl, em_th1, zg1_s, if_neg (by decide)]) rfl (by decide)
    rw [ec_ix0 hk (by omega), zth_l, em_ix1 (by omega) hk, zb_s, if_neg (by decide), em_th0, zg1_s, if_pos rfl]
    have eN : nR (zset μ 0 33 0) s = nR μ s := rfl
    rw [← eN] at hk
    have R1 := RR_t 0 R
    have z1 : zset μ 0 33 0 0 33 = 0 := zset_h
    clear R h30 A0 hB0 hF0 hcnt hcm eN
    generalize zset μ 0 33 0 = m1 at R1 z1 hk ⊢
    have Q1 := R1.2.2.1 s hs
    obtain ⟨A, hB, hF, hN, ⟨sg, hG⟩, ⟨t, b, c, hV, hz⟩, hX, hO, hM, hT, hD, hA, hL, hVb, hC, hP⟩ := id Q1
    rcases ra_cases x4 10 99 with h | hr4
    · exact Op1_e R1 (by rw [ec_ra1 h, zth_r]) (by rw [em_ra1 h, zb_s, if_pos rfl, em_th1, zg1_s, if_neg (by decide)]) rfl (by decide)
    rw [ec_ra0 hr4, zth_l, em_ra0 hr4, zb_s, if_neg (by decide), em_thz _ z1, zg1_s, if_pos rfl]
    rcases wk_cases (νc := νc) (ν := ν) A hB hN hV hG (a := 116) (by decide) with ⟨e1, e2⟩ | ⟨e1, e2, e3, e4⟩
    · exact Op1_e R1 (by rw [e1, zth_r]) (by rw [e2, zb_s, if_pos rfl, em_th1, zg1_s, if_neg (by decide)]) rfl (by decide)
    have hsh : nD m1 s = 3 ∧ t = 1 ∧ nL m1 s = 0 ∧ b = 0 ∧ c = 0 := by
      rcases shape hV hB (n := 116) e3 (by decide) (by decide) with ⟨h, -⟩ | ⟨h, -⟩ | ⟨-, h⟩ | ⟨h, -⟩ | ⟨h, -⟩ | ⟨h, -⟩
      · omega
      · omega
      · exact h
      · omega
      · omega
      · omega
    have f1 : ¬ m1 3 s ≤ 1 := by rw [n_le1 hB]; omega
    have hc6 := hB.2.1.2.2
    have hr6 := hB.2.2.1.2.2
    obtain ⟨a8, a4, ah, af, a9, a3, a0, ad, a2, bh, bf, bc, br, b9, bd, b2, hS⟩ := id A
    have hI := ra_I hr4
    have i10 : (10 : Int32).toInt = 10 := rfl
    have i99 : (99 : Int32).toInt = 99 := rfl
    obtain ⟨K, hK⟩ : ∃ K, K = zset κ (100 * (s + 1) + 1 + 2000) k x4 := ⟨_, rfl⟩
    obtain ⟨M, hM'⟩ : ∃ M, M = zset m1 (79 + s) k x4 := ⟨_, rfl⟩
    have kk : ∀ o, o ≠ 100 * (s + 1) + 1 + 2000 → K o = κ o := fun o h1 => by rw [hK, zset_o h1]
    have mm : ∀ o i, ¬ (o = 79 + s ∧ i = k) → M o i = m1 o i := fun o i h1 => by rw [hM', zset_e h1]
    have kt : ∀ i, K (100 * (s + 1) + 1 + 2000) i = if i = k then x4 else κ (100 * (s + 1) + 1 + 2000) i := fun i => by
      rw [hK]
      by_cases g : i = k
      · rw [g, zset_h, if_pos rfl]
      · rw [zset_e (by omega), if_neg g]
    have mt : ∀ i, M (79 + s) i = if i = k then x4 else m1 (79 + s) i := fun i => by
      rw [hM']
      by_cases g : i = k
      · rw [g, zset_h, if_pos rfl]
      · rw [zset_e (by omega), if_neg g]
    obtain ⟨hB', c1, c2, c3, c4⟩ := Bd_of (μ' := M) (mm 1 s (by omega)) (mm 2 s (by omega)) (mm 3 s (by omega)) (mm 83 s (by omega)) hB
    have hX' : RX K M (100 * (s + 1)) s := by
      unfold RX
      rw [c1, c2, mm 3 s (by omega), kk (100 * (s + 1) + 1 + 1 + 1000) (by omega)]
      simp only [if_neg f1]
      refine ⟨fun x y hx hy => ?_, fun i hi => ?_⟩
      · rw [mm _ _ (by omega)]
        have := hX.1 x y hx hy
        rwa [if_neg f1] at this
      · have w := hX.2 i hi
        rw [if_neg f1, if_neg f1] at w
        rw [kt, mt, kk _ (by omega), mm (74 + s) _ (by omega)]
        refine ⟨w.1, ?_⟩
        by_cases g : i = k
        · rw [if_pos g, if_pos g]
        · rw [if_neg g, if_neg g]; exact w.2
    have hF' : RF K M (100 * (s + 1)) s := by
      unfold RF
      rw [kk _ (by omega), mm _ _ (by omega), mm _ _ (by omega)]
      exact hF
    have eh := ec_heightInAll (νc := νc) A hB hF (RX_RH hB hX)
    have eh2 := ec_heightInAll (νc := νc) A hB' hF' (RX_RH hB' hX')
    have es := em_standing (ν := ν) hB
    have es2 := em_standing (ν := ν) hB'
    unfold g_X3_setTie g_X3_setTie_15 g_X3_setTie_33
    rw [e1, zth_l, e2, zb_s, if_neg (show ¬ (1 : Int32) = 0 by decide), em_thz _ z1, zg1_s, if_pos rfl, cg a8, cg a4, eh, zb_s, cg a8, cg a4, if_pos g0, cg a4, if_neg (on_nn k (by omega)), cl br, if_neg (nle (by omega)), cs br (by omega), zg1_s, ← hK, cg a8, cg a4, eh2, zb_s, es, zb_s, if_pos g0, gq78 hs4, gs78 hs4 (by omega), ← hM']
    unfold g_X10_pull_136
    rw [es2, zb_s]
    clear hK hM'
    refine Op1_v (RR_seat2 hs (fun o ho => kk o (by unfold FK at ho; omega)) (fun o ho => rfl) (fun o i ho => mm o i (by unfold FP at ho; omega)) (fun o ho => rfl) (Int.le_refl _) hHH R1 (RS_core (mm _ _ (by omega)) (mm _ _ (by omega)) (mm _ _ (by omega)) (mm _ _ (by omega)) Q1 (fun k hk => mm _ _ (by omega)) (fun k hk => mm _ _ (by omega)) hX' ?_ ?_ ?_ ?_ ?_ ?_ (fun t b c hv h => ?_) ?_ ?_ (by rw [kk _ (by omega)]) (by rw [kk _ (by omega)]) (kk _ (by omega)) (kk _ (by omega)) (by rw [kk _ (by omega)]) (by rw [kk _ (by omega)])) (Or.inl ?_)) (by rw [mm _ _ (by omega)]; exact z1) rfl rfl
    · unfold RO
      rw [c1, c2, mm 3 s (by omega), tDr_c (μ := m1) (fun x y hx hy => mm _ _ (by omega))]
      refine ⟨fun g i hi => ?_, fun x y hx hy => ?_, hO.2.2⟩
      · have w := hO.1 g i hi
        rw [mt, mm (74 + s) _ (by omega)]
        refine ⟨w.1, fun q => ?_⟩
        rw [if_neg (by omega)]
        exact w.2 q
      · rw [mm _ _ (by omega)]; exact hO.2.1 x y hx hy
    · exact RM_c hB c1 c2 (mm _ _ (by omega)) (kk _ (by omega)) (fun o i h => mm _ _ (by omega)) hM
    · exact RT_c (μ := m1) (mm _ _ (by omega)) (by rw [kk _ (by omega)]) (mm _ _ (by omega)) hT
    · exact RD_c (kk _ (by omega)) (fun o i h => mm _ _ (by omega)) hD
    · exact RLa_c hB c4 (fun o h1 h2 => ⟨kk _ (by omega), rfl⟩) (fun o i h => mm _ _ (by omega)) (fun i => rfl) hL
    · obtain ⟨v1, v2, v3, v4, v5⟩ := hVb
      unfold Vb
      rw [c4, mm 3 s (by omega), mm 14 s (by omega)]
      refine ⟨fun g x y hx hy => ?_, fun g i hi => ?_, v3, fun x y hx hy => ?_, fun l hl => ?_⟩
      · rw [mm _ _ (by omega), mm _ _ (by omega)]; exact v1 g x y hx hy
      · have w := v2 g i hi
        rw [mt, mm (74 + s) _ (by omega)]
        refine ⟨w.1, ?_⟩
        by_cases g : i = k
        · rw [if_pos g]; omega
        · rw [if_neg g]; exact w.2
      · rw [mm _ _ (by omega)]; exact v4 x y hx hy
      · rw [mm _ _ (by omega), mm _ _ (by omega), mm _ _ (by omega), mm _ _ (by omega)]; exact v5 l hl
    · intro h0
      rcases shape hv hB (n := 116) e3 (by decide) (by decide) with ⟨h, -⟩ | ⟨h, -⟩ | ⟨-, -, h, -⟩ | ⟨h, -⟩ | ⟨h, -⟩ | ⟨h, -⟩
      · omega
      · omega
      · omega
      · omega
      · omega
      · omega
    · exact RC_c (tLast_c (μ := m1) (mm _ _ (by omega)) (fun i => mm _ _ (by omega))) (kk _ (by omega)) (kk _ (by omega)) (mm _ _ (by omega)) (mm _ _ (by omega)) (mm _ _ (by omega)) (mm _ _ (by omega)) (fun i => mm _ _ (by omega)) hC
    · rw [kk _ (by omega), mm _ _ (by omega)]
      exact hP
    · rw [tLast_c (μ := m1) (mm _ _ (by omega)) (fun i => mm _ _ (by omega)), e3]
      decide
  · skip
    have hcnt := hB0.2.1
    rw [if_neg g0, cg A0.1, cg A0.2.1, hF0.1, if_neg g0, gi1 hs4, hcnt.1]
    have hcm : 1 ≤ nC μ s ∧ nC μ s ≤ 6 := hcnt.2
    rcases ix_cases x3 (nC μ s) (by omega) with h | ⟨k, hk, rfl⟩
    · exact Op1_e R (by rw [ec_ix1 h, zth_r]) (by rw [em_ix0 (by omega) h, zb_s, if_pos rfl, em_th1, zg1_s, if_neg (by decide)]) rfl (by decide)
    rw [ec_ix0 hk (by omega), zth_l, em_ix1 (by omega) hk, zb_s, if_neg (by decide), em_th0, zg1_s, if_pos rfl]
    have eN : nC (zset μ 0 33 0) s = nC μ s := rfl
    rw [← eN] at hk
    have R1 := RR_t 0 R
    have z1 : zset μ 0 33 0 0 33 = 0 := zset_h
    clear R h30 A0 hB0 hF0 hcnt hcm eN
    generalize zset μ 0 33 0 = m1 at R1 z1 hk ⊢
    have Q1 := R1.2.2.1 s hs
    obtain ⟨A, hB, hF, hN, ⟨sg, hG⟩, ⟨t, b, c, hV, hz⟩, hX, hO, hM, hT, hD, hA, hL, hVb, hC, hP⟩ := id Q1
    rcases ra_cases x4 10 99 with h | hr4
    · exact Op1_e R1 (by rw [ec_ra1 h, zth_r]) (by rw [em_ra1 h, zb_s, if_pos rfl, em_th1, zg1_s, if_neg (by decide)]) rfl (by decide)
    rw [ec_ra0 hr4, zth_l, em_ra0 hr4, zb_s, if_neg (by decide), em_thz _ z1, zg1_s, if_pos rfl]
    rcases wk_cases (νc := νc) (ν := ν) A hB hN hV hG (a := 116) (by decide) with ⟨e1, e2⟩ | ⟨e1, e2, e3, e4⟩
    · exact Op1_e R1 (by rw [e1, zth_r]) (by rw [e2, zb_s, if_pos rfl, em_th1, zg1_s, if_neg (by decide)]) rfl (by decide)
    have hsh : nD m1 s = 3 ∧ t = 1 ∧ nL m1 s = 0 ∧ b = 0 ∧ c = 0 := by
      rcases shape hV hB (n := 116) e3 (by decide) (by decide) with ⟨h, -⟩ | ⟨h, -⟩ | ⟨-, h⟩ | ⟨h, -⟩ | ⟨h, -⟩ | ⟨h, -⟩
      · omega
      · omega
      · exact h
      · omega
      · omega
      · omega
    have f1 : ¬ m1 3 s ≤ 1 := by rw [n_le1 hB]; omega
    have hc6 := hB.2.1.2.2
    have hr6 := hB.2.2.1.2.2
    obtain ⟨a8, a4, ah, af, a9, a3, a0, ad, a2, bh, bf, bc, br, b9, bd, b2, hS⟩ := id A
    have hI := ra_I hr4
    have i10 : (10 : Int32).toInt = 10 := rfl
    have i99 : (99 : Int32).toInt = 99 := rfl
    obtain ⟨K, hK⟩ : ∃ K, K = zset κ (100 * (s + 1) + 1 + 1000) k x4 := ⟨_, rfl⟩
    obtain ⟨M, hM'⟩ : ∃ M, M = zset m1 (74 + s) k x4 := ⟨_, rfl⟩
    have kk : ∀ o, o ≠ 100 * (s + 1) + 1 + 1000 → K o = κ o := fun o h1 => by rw [hK, zset_o h1]
    have mm : ∀ o i, ¬ (o = 74 + s ∧ i = k) → M o i = m1 o i := fun o i h1 => by rw [hM', zset_e h1]
    have kt : ∀ i, K (100 * (s + 1) + 1 + 1000) i = if i = k then x4 else κ (100 * (s + 1) + 1 + 1000) i := fun i => by
      rw [hK]
      by_cases g : i = k
      · rw [g, zset_h, if_pos rfl]
      · rw [zset_e (by omega), if_neg g]
    have mt : ∀ i, M (74 + s) i = if i = k then x4 else m1 (74 + s) i := fun i => by
      rw [hM']
      by_cases g : i = k
      · rw [g, zset_h, if_pos rfl]
      · rw [zset_e (by omega), if_neg g]
    obtain ⟨hB', c1, c2, c3, c4⟩ := Bd_of (μ' := M) (mm 1 s (by omega)) (mm 2 s (by omega)) (mm 3 s (by omega)) (mm 83 s (by omega)) hB
    have hX' : RX K M (100 * (s + 1)) s := by
      unfold RX
      rw [c1, c2, mm 3 s (by omega), kk (100 * (s + 1) + 1 + 1 + 1000) (by omega)]
      simp only [if_neg f1]
      refine ⟨fun x y hx hy => ?_, fun i hi => ?_⟩
      · rw [mm _ _ (by omega)]
        have := hX.1 x y hx hy
        rwa [if_neg f1] at this
      · have w := hX.2 i hi
        rw [if_neg f1, if_neg f1] at w
        rw [kt, mt, kk _ (by omega), mm (79 + s) _ (by omega)]
        refine ⟨?_, w.2⟩
        by_cases g : i = k
        · rw [if_pos g, if_pos g]
        · rw [if_neg g, if_neg g]; exact w.1
    have hF' : RF K M (100 * (s + 1)) s := by
      unfold RF
      rw [kk _ (by omega), mm _ _ (by omega), mm _ _ (by omega)]
      exact hF
    have eh := ec_heightInAll (νc := νc) A hB hF (RX_RH hB hX)
    have eh2 := ec_heightInAll (νc := νc) A hB' hF' (RX_RH hB' hX')
    have es := em_standing (ν := ν) hB
    have es2 := em_standing (ν := ν) hB'
    unfold g_X3_setTie g_X3_setTie_15 g_X3_setTie_33
    rw [e1, zth_l, e2, zb_s, if_neg (show ¬ (1 : Int32) = 0 by decide), em_thz _ z1, zg1_s, if_pos rfl, cg a8, cg a4, eh, zb_s, cg a8, cg a4, if_neg g0, cg a4, if_neg (on_nn k (by omega)), cl bc, if_neg (nle (by omega)), cs bc (by omega), zg1_s, ← hK, cg a8, cg a4, eh2, zb_s, es, zb_s, if_neg g0, gq73 hs4, gs73 hs4 (by omega), ← hM']
    unfold g_X10_pull_136
    rw [es2, zb_s]
    clear hK hM'
    refine Op1_v (RR_seat2 hs (fun o ho => kk o (by unfold FK at ho; omega)) (fun o ho => rfl) (fun o i ho => mm o i (by unfold FP at ho; omega)) (fun o ho => rfl) (Int.le_refl _) hHH R1 (RS_core (mm _ _ (by omega)) (mm _ _ (by omega)) (mm _ _ (by omega)) (mm _ _ (by omega)) Q1 (fun k hk => mm _ _ (by omega)) (fun k hk => mm _ _ (by omega)) hX' ?_ ?_ ?_ ?_ ?_ ?_ (fun t b c hv h => ?_) ?_ ?_ (by rw [kk _ (by omega)]) (by rw [kk _ (by omega)]) (kk _ (by omega)) (kk _ (by omega)) (by rw [kk _ (by omega)]) (by rw [kk _ (by omega)])) (Or.inl ?_)) (by rw [mm _ _ (by omega)]; exact z1) rfl rfl
    · unfold RO
      rw [c1, c2, mm 3 s (by omega), tDr_c (μ := m1) (fun x y hx hy => mm _ _ (by omega))]
      refine ⟨fun g i hi => ?_, fun x y hx hy => ?_, hO.2.2⟩
      · have w := hO.1 g i hi
        rw [mt, mm (79 + s) _ (by omega)]
        refine ⟨fun q => ?_, w.2⟩
        rw [if_neg (by omega)]
        exact w.1 q
      · rw [mm _ _ (by omega)]; exact hO.2.1 x y hx hy
    · exact RM_c hB c1 c2 (mm _ _ (by omega)) (kk _ (by omega)) (fun o i h => mm _ _ (by omega)) hM
    · exact RT_c (μ := m1) (mm _ _ (by omega)) (by rw [kk _ (by omega)]) (mm _ _ (by omega)) hT
    · exact RD_c (kk _ (by omega)) (fun o i h => mm _ _ (by omega)) hD
    · exact RLa_c hB c4 (fun o h1 h2 => ⟨kk _ (by omega), rfl⟩) (fun o i h => mm _ _ (by omega)) (fun i => rfl) hL
    · obtain ⟨v1, v2, v3, v4, v5⟩ := hVb
      unfold Vb
      rw [c4, mm 3 s (by omega), mm 14 s (by omega)]
      refine ⟨fun g x y hx hy => ?_, fun g i hi => ?_, v3, fun x y hx hy => ?_, fun l hl => ?_⟩
      · rw [mm _ _ (by omega), mm _ _ (by omega)]; exact v1 g x y hx hy
      · have w := v2 g i hi
        rw [mt, mm (79 + s) _ (by omega)]
        refine ⟨?_, w.2⟩
        by_cases g : i = k
        · rw [if_pos g]; omega
        · rw [if_neg g]; exact w.1
      · rw [mm _ _ (by omega)]; exact v4 x y hx hy
      · rw [mm _ _ (by omega), mm _ _ (by omega), mm _ _ (by omega), mm _ _ (by omega)]; exact v5 l hl
    · intro h0
      rcases shape hv hB (n := 116) e3 (by decide) (by decide) with ⟨h, -⟩ | ⟨h, -⟩ | ⟨-, -, h, -⟩ | ⟨h, -⟩ | ⟨h, -⟩ | ⟨h, -⟩
      · omega
      · omega
      · omega
      · omega
      · omega
      · omega
    · exact RC_c (tLast_c (μ := m1) (mm _ _ (by omega)) (fun i => mm _ _ (by omega))) (kk _ (by omega)) (kk _ (by omega)) (mm _ _ (by omega)) (mm _ _ (by omega)) (mm _ _ (by omega)) (mm _ _ (by omega)) (fun i => mm _ _ (by omega)) hC
    · rw [kk _ (by omega), mm _ _ (by omega)]
      exact hP
    · rw [tLast_c (μ := m1) (mm _ _ (by omega)) (fun i => mm _ _ (by omega)), e3]
      decide
theorem op_draw (R : RR lv κ νc μ ν H nS nB nK) (x1 x2 x3 : Int32) : Op1 lv H nS nB nK cd_draw (g_X9_draw lv 0 x1 x2 x3 κ νc) (g_X10_draw x1 x2 x3 μ ν) := by
  have r0 := R.1.1
  have h30 := R.1.2.2.2.2.2.1
  have h4 := R.1.2.1
  have hHH := R.1.2.2.2.2.1
  unfold g_X9_draw g_X9_draw_49 g_X10_draw g_X10_draw_30 g_X10_draw_53 g_X10_draw_60 g_X10_draw_96 g_X10_draw_97
  rcases ix_cases x1 nS (by omega) with h | ⟨s, hs, rfl⟩
  · exact Op1_e R (by rw [cg r0, ec_seatOf1 R h, zth_r]) (by rw [em_noCellS h30 h4 h, zb_s, em_th1, zg1_s, if_neg (by decide)]) rfl (by decide)
  rw [cg r0, ec_seatOf0 R hs, zth_l]
  rcases cell_c (x := x2) R hs with ⟨h, h2⟩ | ⟨x, y, hx, hy, rfl, hd, hm, hx0, h⟩
  · exact Op1_e R (by rw [h, zth_r]) (by rw [em_cell1 R hs h2, zb_s, em_th1, zg1_s, if_neg (by decide)]) rfl (by decide)
  rw [h, zth_l, em_cell0 R hs hx hy hd hm hx0, zb_s, em_th0, zg1_s, if_pos rfl]
  simp only [hd, hm]
  have eC : nC (zset μ 0 33 0) s = nC μ s := rfl
  have eR : nR (zset μ 0 33 0) s = nR μ s := rfl
  rw [← eC] at hx
  rw [← eR] at hy
  have R1 := RR_t 0 R
  have z1 : zset μ 0 33 0 0 33 = 0 := zset_h
  clear R h30 h eC eR
  generalize zset μ 0 33 0 = m1 at R1 z1 hx hy ⊢
  have hs4 : s < 4 := by omega
  rcases ra_cases x3 1 30 with h | hrx3
  · exact Op1_e R1 (by rw [ec_ra1 h, zth_r]) (by rw [em_ra1 h, zb_s, if_pos rfl, em_th1, zg1_s, if_neg (by decide)]) rfl (by decide)
  rw [ec_ra0 hrx3, zth_l, em_ra0 hrx3, zb_s, if_neg (by decide), em_thz _ z1, zg1_s, if_pos rfl]
  have Q1 := R1.2.2.1 s hs
  obtain ⟨A, hB, hF, hN, ⟨sg, hG⟩, ⟨t, b, c, hV, hz⟩, hX, hO, hM, hT, hD, hA, hL, hVb, hC, hP⟩ := id Q1
  rcases wk_cases (νc := νc) (ν := ν) A hB hN hV hG (a := 98) (by decide) with ⟨e1, e2⟩ | ⟨e1, e2, e3, e4⟩
  · exact Op1_e R1 (by rw [e1, zth_r]) (by rw [e2, zb_s, if_pos rfl, em_th1, zg1_s, if_neg (by decide)]) rfl (by decide)
  rw [e1, zth_l, e2, zb_s, if_neg (by decide), em_thz _ z1, zg1_s, if_pos rfl]
  have hc6 := hB.2.1.2.2
  have hr6 := hB.2.2.1.2.2
  obtain ⟨a8, a4, ah, af, a9, a3, a0, ad, a2, bh, bf, bc, br, b9, bd, b2, hS⟩ := id A
  have hI := ra_I hrx3
  have i1 : (1 : Int32).toInt = 1 := rfl
  have i30 : (30 : Int32).toInt = 30 := rfl
  have i12 : (12 : Int32).toInt = 12 := rfl
  have hd0 := hVb.2.2.2.1 x y (by omega) (by omega)
  rw [cg a8, cg ad, ec_at ad bd, zb_s, gAt_i (by omega), RD_at hD (by omega) (by omega), cg a8, ec_buttons A hB hF hD hO, zb_s, em_drawn hs4, zb_s, gq109 hs4, zdv10, gQ109 hs4 (by omega), zdv10, gi109 hs4 (by omega) (by omega)]
  have hle := hO.2.2
  unfold g_X9_needRoom
  by_cases gd : m1 (111 + 7 * s + x) y = 0 ∧ tDr m1 s = 12
  · exact Op1_e R1 (by rw [if_pos gd.1, if_neg (by rw [gd.2]; decide), zth_r]) (by rw [if_pos gd.2, if_pos gd.1, em_th1, zg1_s, if_neg (by decide)]) rfl (by decide)
  obtain ⟨K, hK⟩ : ∃ K, K = zset κ (100 * (s + 1) + 7 + 1000) (10 * x + y) x3 := ⟨_, rfl⟩
  obtain ⟨M, hM'⟩ : ∃ M, M = zset m1 (111 + 7 * s + x) y x3 := ⟨_, rfl⟩
  have kk : ∀ o, o ≠ 100 * (s + 1) + 7 + 1000 → K o = κ o := fun o h1 => by rw [hK, zset_o h1]
  have mm : ∀ o i, ¬ (o = 111 + 7 * s + x ∧ i = y) → M o i = m1 o i := fun o i h1 => by rw [hM', zset_e h1]
  have md : M (111 + 7 * s + x) y = x3 := by rw [hM', zset_h]
  have kd : ∀ i, K (100 * (s + 1) + 7 + 1000) i = if i = 10 * x + y then x3 else κ (100 * (s + 1) + 7 + 1000) i := fun i => by
    rw [hK]
    by_cases g : i = 10 * x + y
    · rw [g, zset_h, if_pos rfl]
    · rw [zset_e (by omega), if_neg g]
  have x3p : ¬ x3 ≤ 0 := by rw [Int32.le_iff_toInt_le, i0]; omega
  have eD : tDr M s = tDr m1 s + (1 - (if m1 (111 + 7 * s + x) y ≤ 0 then 0 else 1)) := by
    rw [hM', tDr_u (by omega) (by omega), if_neg x3p]
  have hleM : (tDr M s).toInt ≤ 12 := by
    rw [eD]
    by_cases g0 : m1 (111 + 7 * s + x) y ≤ 0
    · have g1 : m1 (111 + 7 * s + x) y = 0 := by
        rw [Int32.le_iff_toInt_le, i0] at g0
        exact Int32.toInt.inj (by rw [i0]; omega)
      have g2 : (tDr m1 s).toInt ≠ 12 := fun q => gd ⟨g1, Int32.toInt.inj (by rw [q, i12])⟩
      rw [if_pos g0]
      have e : (1 : Int32) - 0 = 1 := by decide
      have hlo := Int32.le_toInt (tDr m1 s)
      rw [e, add_I] <;> rw [i1] <;> omega
    · rw [if_neg g0]
      have e : (1 : Int32) - 1 = 0 := by decide
      rw [e, Int32.add_zero]
      exact hle
  have e12 : ¬ m1 (111 + 7 * s + x) y = 0 ∨ tDr m1 s < 12 := by
    by_cases g1 : m1 (111 + 7 * s + x) y = 0
    · refine Or.inr ?_
      rw [Int32.lt_iff_toInt_lt, i12]
      have : (tDr m1 s).toInt ≠ 12 := fun q => gd ⟨g1, Int32.toInt.inj (by rw [q, i12])⟩
      omega
    · exact Or.inl g1
  obtain ⟨hB', c1, c2, c3, c4⟩ := Bd_of (μ' := M) (mm 1 s (by omega)) (mm 2 s (by omega)) (mm 3 s (by omega)) (mm 83 s (by omega)) hB
  have hO' : RO M s := by
    unfold RO
    rw [c1, c2, mm 3 s (by omega)]
    refine ⟨fun g i hi => ?_, fun x' y' hx' hy' g => ?_, hleM⟩
    · rw [mm _ _ (by omega), mm _ _ (by omega)]; exact hO.1 g i hi
    · rw [mm _ _ (by intro q; apply g; omega)]; exact hO.2.1 x' y' hx' hy' g
  have hD' : RD K M (100 * (s + 1)) s := fun i hi => by
    rw [kd]
    by_cases g : i = 10 * x + y
    · rw [if_pos g, if_pos (by omega), show i / 10 = x by omega, show i % 10 = y by omega, md]
    · rw [if_neg g, mm _ _ (by omega)]
      exact hD i hi
  have hF' : RF K M (100 * (s + 1)) s := by
    unfold RF
    rw [kk _ (by omega), mm _ _ (by omega), mm _ _ (by omega)]
    exact hF
  have last : Op1 lv H nS nB nK cd_draw (some (.inl (tDr M s), K, νc)) (some (tDr M s, M, ν)) := by
    refine Op1_v (RR_seat2 hs (fun o ho => kk o (by unfold FK at ho; omega)) (fun o ho => rfl) (fun o i ho => mm o i (by unfold FP at ho; omega)) (fun o ho => rfl) (Int.le_refl _) hHH R1 (RS_core (mm _ _ (by omega)) (mm _ _ (by omega)) (mm _ _ (by omega)) (mm _ _ (by omega)) Q1 (fun k hk => mm _ _ (by omega)) (fun k hk => mm _ _ (by omega)) ?_ hO' ?_ ?_ hD' ?_ ?_ (fun t b c hv h => ?_) ?_ ?_ (by rw [kk _ (by omega)]) (by rw [kk _ (by omega)]) (kk _ (by omega)) (kk _ (by omega)) (by rw [kk _ (by omega)]) (by rw [kk _ (by omega)])) (Or.inl ?_)) (by rw [mm _ _ (by omega)]; exact z1) rfl rfl
    · exact RX_c hB c1 c2 (mm _ _ (by omega)) (kk _ (by omega)) (kk _ (by omega)) (kk _ (by omega)) (fun o i h => mm _ _ (by omega)) hX
    · exact RM_c hB c1 c2 (mm _ _ (by omega)) (kk _ (by omega)) (fun o i h => mm _ _ (by omega)) hM
    · exact RT_c (μ := m1) (mm _ _ (by omega)) (by rw [kk _ (by omega)]) (mm _ _ (by omega)) hT
    · exact RLa_c hB c4 (fun o h1 h2 => ⟨kk _ (by omega), rfl⟩) (fun o i h => mm _ _ (by omega)) (fun i => rfl) hL
    · obtain ⟨v1, v2, v3, v4, v5⟩ := hVb
      unfold Vb
      rw [c4, mm 3 s (by omega), mm 14 s (by omega)]
      refine ⟨fun g x' y' hx' hy' => ?_, fun g i hi => ?_, v3, fun x' y' hx' hy' => ?_, fun l hl => ?_⟩
      · rw [mm _ _ (by omega), mm _ _ (by omega)]; exact v1 g x' y' hx' hy'
      · rw [mm _ _ (by omega), mm _ _ (by omega)]; exact v2 g i hi
      · by_cases g : x' = x ∧ y' = y
        · rw [g.1, g.2, md]; omega
        · rw [mm _ _ (by omega)]; exact v4 x' y' hx' hy'
      · rw [mm _ _ (by omega), mm _ _ (by omega), mm _ _ (by omega), mm _ _ (by omega)]; exact v5 l hl
    · exact Lz_c (μ := m1) (mm _ _ (by omega)) (fun o i h => mm _ _ (by omega)) h
    · exact RC_c (tLast_c (μ := m1) (mm _ _ (by omega)) (fun i => mm _ _ (by omega))) (kk _ (by omega)) (kk _ (by omega)) (mm _ _ (by omega)) (mm _ _ (by omega)) (mm _ _ (by omega)) (mm _ _ (by omega)) (fun i => mm _ _ (by omega)) hC
    · rw [kk _ (by omega), mm _ _ (by omega)]
      exact hP
    · rw [tLast_c (μ := m1) (mm _ _ (by omega)) (fun i => mm _ _ (by omega)), e3]
      decide
  have p1 : g_X4_put lv (100 * (s + 1) + 7) (Int32.ofNat (10 * x + y)) x3 κ νc = some ((), K, νc) := by rw [ec_put ad bd (by omega), hK]
  have p2 := ec_buttons (νc := νc) A hB' hF' hD' hO'
  have p3 : ∀ {α : Type} (F : zzM → Option α), gsi 0 m1 (111 + 7 * s + x) (Int32.ofNat y) x3 F = F M := fun F => by rw [gs109 hs4 (by omega) (by omega), hM']
  clear hK hM'
  have fin : (zz_g1 (g_X10_isThrown 0 4 m1 ν) fun v98 m98 q98 => if v98 = 0 then gaq 7 109 (Int32.ofNat s) fun o111 => zz_dv 10 (gaq 6 o111 (Int32.ofNat x) fun o116 => zz_dv 10 (gsi 0 m98 o116 (Int32.ofNat y) x3 fun m122 => zz_b (g_X10_drawn (Int32.ofNat s) m122 q98) fun v125 => some (v125, m122, q98))) else some (0, m98, q98)) = some (tDr M s, M, ν) := by
    rw [em_thz _ z1, zg1_s, if_pos rfl, gq109 hs4, zdv10, gQ109 hs4 (by omega), zdv10, p3, em_drawn hs4, zb_s]
  rw [fin]
  simp only [cg a8, cg ad, p1, zg1_s, p2, zb_s]
  have nn : ¬ m1 (111 + 7 * s + x) y = 0 → Op1 lv H nS nB nK cd_draw (some (.inl (tDr M s), K, νc)) (if tDr m1 s = 12 then (if m1 (111 + 7 * s + x) y = 0 then (zz_g1 (g_X10_isThrown 1 4 m1 ν) fun v98 m98 q98 => if v98 = 0 then gaq 7 109 (Int32.ofNat s) fun o111 => zz_dv 10 (gaq 6 o111 (Int32.ofNat x) fun o116 => zz_dv 10 (gsi 0 m98 o116 (Int32.ofNat y) x3 fun m122 => zz_b (g_X10_drawn (Int32.ofNat s) m122 q98) fun v125 => some (v125, m122, q98))) else some (0, m98, q98)) else some (tDr M s, M, ν)) else some (tDr M s, M, ν)) := by
    intro g1
    by_cases g12 : tDr m1 s = 12
    · rw [if_pos g12, if_neg g1]; exact last
    · rw [if_neg g12]; exact last
  by_cases g0 : m1 (111 + 7 * s + x) y = 0
  · have g1 := e12.resolve_left (fun q => q g0)
    rw [if_pos g0, if_pos g1, zth_l, if_neg (fun q => gd ⟨g0, q⟩)]
    exact last
  · rw [if_neg g0]
    exact nn g0
end ZWF
