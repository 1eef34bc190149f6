section ZWJ
/-! use and pounding -/
variable {lv : Nat → Bool} {κ κ' : zzM} {νc νc' : zzN} {μ μ' : zzM} {ν ν' : zzN} {H H' : Int} {nS nB nK : Nat}
theorem RR_up (h : H ≤ H') (hH : H' ≤ 100000000) (R : RR lv κ νc μ ν H nS nB nK) : RR lv κ νc μ ν H' nS nB nK := by
  obtain ⟨⟨q1, q2, q3, q4, q5, q6⟩, r2, r3, r4⟩ := R
  exact ⟨⟨q1, q2, q3, q4, hH, q6⟩, r2, fun s hs => RS_km ⟨fun _ _ _ => rfl, fun _ => rfl⟩ ⟨fun _ _ => rfl, fun _ _ _ => rfl⟩ h (r3 s hs), r4⟩
theorem lq {x0 x2 : Int64} (h : x2 ≠ 0) : g_X9_quotient lv x0 x2 κ νc = some ((x0 / x2).toInt32) := by
  unfold g_X9_quotient g_X9_quotient_14
  rw [if_neg (fun q => h ((lg_cmp_eq _ _).mp q)), zdl_p h]
/-- one layer settles -/
theorem ec_settle1 {o : Nat} {d : Int32} (a7 : lv o = true ∧ co o = 7) (hk : κ o 0 = 104 ∨ κ o 0 = 102 ∨ κ o 0 = 100) (hn : (2 : Int64) * ((νc o 4 + d.toInt64) + tBy (κ o 0) * (κ o 2).toInt64) ≠ 0) : g_X6_settle lv o d κ νc = some ((), zset κ o 3 (κ o 1 - (((κ o 1).toInt64 * (νc o 4 + d.toInt64)) / ((2 : Int64) * ((νc o 4 + d.toInt64) + tBy (κ o 0) * (κ o 2).toInt64))).toInt32), zsetN νc o 4 (νc o 4 + d.toInt64)) := by
  have w1 : (1000 : Int32).toInt64 = 1000 := rfl
  have w2 : (400 : Int32).toInt64 = 400 := rfl
  have w3 : (100 : Int32).toInt64 = 100 := rfl
  unfold g_X6_settle g_X6_settle_48
  rw [cg a7, cg a7, cg a7, cg a7]
  unfold tBy at hn ⊢
  rcases hk with h | h | h
  · rw [h, if_pos rfl] at hn
    rw [h, if_pos rfl, if_pos rfl, cg a7, cg a7, cg a7, cg a7, zsetN_h, w1, Int64.mul_comm ((κ o 2).toInt64), lq hn, zb_s, cg a7]
  · rw [h, if_neg (by decide), if_pos rfl] at hn
    rw [h, if_neg (by decide), cg a7, if_pos rfl, if_neg (by decide), if_pos rfl, cg a7, cg a7, cg a7, cg a7, zsetN_h, w2, Int64.mul_comm ((κ o 2).toInt64), lq hn, zb_s, cg a7]
  · rw [h, if_neg (by decide), if_neg (by decide)] at hn
    rw [h, if_neg (by decide), cg a7, if_neg (by decide), if_neg (by decide), if_neg (by decide), cg a7, cg a7, cg a7, cg a7, zsetN_h, w3, Int64.mul_comm ((κ o 2).toInt64), lq hn, zb_s, cg a7]
theorem wear_ok {s : Nat} {d : Int32} (hs : s < nS) (hd : 0 ≤ d.toInt ∧ d.toInt ≤ 9999) (hH9 : H + 20000 ≤ 100000000) (R : RR lv κ νc μ ν H nS nB nK) (hcl : tLast μ s = 99) : ∃ v K N, g_X7_wear lv (100 * (s + 1)) d κ νc = some (v, K, N) ∧ g_X10_uses (Int32.ofNat s) d μ ν = some (v, zset μ 144 s (μ 144 s + d), nUse ν s d.toInt64 (nL μ s)) ∧ RR lv K N (zset μ 144 s (μ 144 s + d)) (nUse ν s d.toInt64 (nL μ s)) (H + 20000) nS nB nK := by
  have h4 := R.1.2.1
  have hH := R.1.2.2.2.2.1
  have hs4 : s < 4 := by omega
  have Q1 := R.2.2.1 s hs
  obtain ⟨A, hB, hF, hN, ⟨sg, hG⟩, ⟨t, b, c, hV, hz⟩, hX, hO, hM, hT, hD, hA, hL, hVb, hC, hP⟩ := id Q1
  have hl := hB.2.2.2.2
  have hl4 := hl.2
  obtain ⟨M, hM'⟩ : ∃ M, M = zset μ 144 s (μ 144 s + d) := ⟨_, rfl⟩
  have mm : ∀ o i, ¬ (o = 144 ∧ i = s) → M o i = μ o i := fun o i h1 => by rw [hM', zset_e h1]
  have m144 : M 144 s = μ 144 s + d := by rw [hM', zset_h]
  obtain ⟨hB', c1, c2, c3, c4⟩ := Bd_of (μ' := M) (mm 1 s (by omega)) (mm 2 s (by omega)) (mm 3 s (by omega)) (mm 83 s (by omega)) hB
  have dI : d.toInt64.toInt = d.toInt := Int32.toInt_toInt64 d
  have nu : ∀ l, l < nL μ s → nUse ν s d.toInt64 (nL μ s) (100 + s) l = ν (100 + s) l + d.toInt64 := fun l hl2 => if_pos ⟨rfl, hl2⟩
  have nI : ∀ l, l < nL μ s → (ν (100 + s) l + d.toInt64).toInt = (ν (100 + s) l).toInt + d.toInt := fun l hl2 => by
    obtain ⟨-, -, -, h5, -⟩ := hVb.2.2.2.2 l hl2
    rw [add64] <;> rw [dI] <;> omega
  have hVM : Vb M (nUse ν s d.toInt64 (nL μ s)) (H + 20000) s := by
    obtain ⟨v1, v2, v3, v4, v5⟩ := hVb
    unfold Vb
    rw [c4, mm 3 s (by omega), mm 14 s (by omega)]
    refine ⟨fun g x y hx hy => ?_, fun g i hi => ?_, v3, fun x y hx hy => ?_, fun l hl2 => ?_⟩
    · rw [mm _ _ (by omega), mm _ _ (by omega)]; exact v1 g x y hx hy
    · rw [mm _ _ (by omega), mm _ _ (by omega)]; exact v2 g i hi
    · rw [mm _ _ (by omega)]; exact v4 x y hx hy
    · obtain ⟨w1, w2, w3, w4, w5⟩ := v5 l hl2
      rw [mm _ _ (by omega), mm _ _ (by omega), mm _ _ (by omega), mm _ _ (by omega), nu l hl2, nI l hl2]
      exact ⟨w1, w2, w3, by omega, w5⟩
  have hDn := Vb_Dn hVb hH
  have hDM := Vb_Dn hVM hH9
  -- the class's layers settle one by one
  have main := zit_I (b := fun s1 : (Int32 × zzM × zzN) => g_X2_settle_2 lv (100 * (s + 1) + 5) d s1.1 s1.2.1 s1.2.2) (s := ((0 : Int32), zset κ (100 * (s + 1) + 8) 6 (κ (100 * (s + 1) + 8) 6 + d), νc))
    (fun k st => ∃ K N, st = (Int32.ofNat k, K, N) ∧ (∀ o i, ¬ (o = 100 * (s + 1) + 8 ∧ i = 6) → ¬ (100 * (s + 1) + 20 ≤ o ∧ o < 100 * (s + 1) + 24 ∧ i = 3) → K o i = κ o i) ∧ K (100 * (s + 1) + 8) 6 = κ (100 * (s + 1) + 8) 6 + d ∧ (∀ o, ¬ (100 * (s + 1) + 20 ≤ o ∧ o < 100 * (s + 1) + 24) → N o = νc o) ∧ ∀ l, l < nL μ s → K (100 * (s + 1) + 20 + l) 3 = (if l < k then tTh M (nUse ν s d.toInt64 (nL μ s)) s l else tTh μ ν s l) ∧ N (100 * (s + 1) + 20 + l) 4 = if l < k then ν (100 + s) l + d.toInt64 else ν (100 + s) l)
    (fun r : Unit × zzM × zzN => ∃ K N, r = ((), K, N) ∧ (∀ o i, ¬ (o = 100 * (s + 1) + 8 ∧ i = 6) → ¬ (100 * (s + 1) + 20 ≤ o ∧ o < 100 * (s + 1) + 24 ∧ i = 3) → K o i = κ o i) ∧ K (100 * (s + 1) + 8) 6 = κ (100 * (s + 1) + 8) 6 + d ∧ (∀ o, ¬ (100 * (s + 1) + 20 ≤ o ∧ o < 100 * (s + 1) + 24) → N o = νc o) ∧ ∀ l, l < nL μ s → K (100 * (s + 1) + 20 + l) 3 = tTh M (nUse ν s d.toInt64 (nL μ s)) s l ∧ N (100 * (s + 1) + 20 + l) 4 = ν (100 + s) l + d.toInt64)
    (nL μ s) (by omega) ⟨_, _, rfl, fun o i h1 h2 => zset_e h1, zset_h, fun o h => rfl, fun l hl2 => by
      obtain ⟨w1, w2, w3, w4, w5, w6⟩ := hL l hl2
      rw [if_neg (by omega), if_neg (by omega), zset_e (by omega)]
      exact ⟨w4, w5⟩⟩ ?_ ?_
  · obtain ⟨r, e, K, N, rfl, k1, k2, k3, k4⟩ := main
    have hAK : Al lv K M (100 * (s + 1)) s := by
      unfold Al at hA ⊢
      rw [c4, k1 _ _ (by omega) (by omega), k1 _ _ (by omega) (by omega), mm _ _ (by omega)]
      exact hA
    have hLK : RLa K N M (nUse ν s d.toInt64 (nL μ s)) (100 * (s + 1)) s := by
      unfold RLa
      rw [c4]
      intro l hl2
      obtain ⟨w1, w2, w3, w4, w5, w6⟩ := hL l hl2
      obtain ⟨q1, q2⟩ := k4 l hl2
      rw [q1, q2, k1 _ _ (by omega) (by omega), k1 _ _ (by omega) (by omega), k1 _ _ (by omega) (by omega), k1 _ _ (by omega) (by omega), mm _ _ (by omega), mm _ _ (by omega), mm _ _ (by omega), mm _ _ (by omega), nu l hl2]
      exact ⟨w1, w2, w3, rfl, rfl, w6⟩
    have ko : ∀ o, o ≠ 100 * (s + 1) + 8 → ¬ (100 * (s + 1) + 20 ≤ o ∧ o < 100 * (s + 1) + 24) → K o = κ o := fun o h1 h2 => funext fun i => k1 o i (by omega) (by omega)
    have hXK : RX K M (100 * (s + 1)) s := RX_c hB c1 c2 (mm _ _ (by omega)) (ko _ (by omega) (by omega)) (ko _ (by omega) (by omega)) (ko _ (by omega) (by omega)) (fun o i h => mm _ _ (by omega)) hX
    have hDK : RD K M (100 * (s + 1)) s := RD_c (ko _ (by omega) (by omega)) (fun o i h => mm _ _ (by omega)) hD
    have hFK : RF K M (100 * (s + 1)) s := by
      unfold RF
      rw [ko _ (by omega) (by omega), mm _ _ (by omega), mm _ _ (by omega)]
      exact hF
    have t1 := ec_topsInAll A hB hF (RX_RH hB hX) hA hL hD
    have t2 := ec_topsInAll A hB' hFK (RX_RH hB' hXK) hAK hLK hDK
    refine ⟨tSum μ s (tTop μ ν s) - tSum M s (tTop M (nUse ν s d.toInt64 (nL μ s)) s), K, N, ?_, ?_, ?_⟩
    · have e' : g_X2_settle lv (100 * (s + 1) + 5) d (zset κ (100 * (s + 1) + 8) 6 (κ (100 * (s + 1) + 8) 6 + d)) νc = some ((), K, N) := e
      unfold g_X7_wear
      rw [cg A.1, t1, zb_s, cg A.1, cg A.2.2.2.2.2.2.2.2.1, cg A.2.2.2.2.2.2.2.2.1, cg A.1, cg A.2.2.2.2.2.1, e', zg1_s, cg A.1, t2, zb_s]
    · rw [hM'] at hB' hDM ⊢
      exact em_uses hB hDn hB' hDM
    · rw [← hM']
      refine RR_seat2 hs (fun o ho => ko o (by unfold FK at ho; omega) (by unfold FK at ho; omega)) (fun o ho => k3 o (by omega)) (fun o i ho => mm o i (by unfold FP at ho; omega)) (fun o ho => by funext i; exact if_neg (fun q => ho q.1)) (by omega) hH9 R (RS_core (mm _ _ (by omega)) (mm _ _ (by omega)) (mm _ _ (by omega)) (mm _ _ (by omega)) Q1 (fun k hk => mm _ _ (by omega)) (fun k hk => mm _ _ (by omega)) hXK ?_ ?_ ?_ hDK hLK hVM (fun t b c hv h => ?_) ?_ ?_ (by rw [ko _ (by omega) (by omega)]) (by rw [ko _ (by omega) (by omega)]) (ko _ (by omega) (by omega)) (ko _ (by omega) (by omega)) (by rw [ko _ (by omega) (by omega)]) (by rw [ko _ (by omega) (by omega)])) (Or.inr ⟨?_, k1 _ _ (by omega) (by omega), k1 _ _ (by omega) (by omega), mm _ _ (by omega), fun k => mm _ _ (by omega), mm _ _ (by omega)⟩)
      · exact RO_c (μ := μ) c1 c2 (mm _ _ (by omega)) (fun o i h => mm _ _ (by omega)) hO
      · exact RM_c hB c1 c2 (mm _ _ (by omega)) (ko _ (by omega) (by omega)) (fun o i h => mm _ _ (by omega)) hM
      · exact RT_c (μ := μ) (mm _ _ (by omega)) (by rw [ko _ (by omega) (by omega)]) (mm _ _ (by omega)) hT
      · exact Lz_c (μ := μ) (mm _ _ (by omega)) (fun o i h => mm _ _ (by omega)) h
      · obtain ⟨q1, q2, q3, q4, q5, q6⟩ := hC
        unfold RC
        rw [tLast_c (μ := μ) (mm _ _ (by omega)) (fun i => mm _ _ (by omega)), ko (100 * (s + 1) + 8 + 1000) (by omega) (by omega), k1 _ 2 (by omega) (by omega), k1 _ 5 (by omega) (by omega), k1 _ 1 (by omega) (by omega), k1 _ 3 (by omega) (by omega), k2, m144, mm 143 s (by omega), mm 145 s (by omega), mm 1 s (by omega), q4]
        exact ⟨fun k hk => by rw [mm _ _ (by omega)]; exact q1 k hk, q2, q3, rfl, q5, q6⟩
      · rw [ko _ (by omega) (by omega), mm _ _ (by omega)]
        exact hP
      · exact tLast_c (μ := μ) (mm _ _ (by omega)) (fun i => mm _ _ (by omega))
  · rintro k hk st ⟨K, N, rfl, k1, k2, k3, k4⟩
    have hAK : Al lv K μ (100 * (s + 1)) s := by
      unfold Al at hA ⊢
      rw [k1 _ _ (by omega) (by omega), k1 _ _ (by omega) (by omega)]
      exact hA
    obtain ⟨w1, w2, w3, w4, w5, w6⟩ := hL k hk
    obtain ⟨q1, q2⟩ := k4 k hk
    rw [if_neg (by omega)] at q2
    obtain ⟨a8, a4, ah, af, a9, a3, a0, ad, a2, bh, bf, bc, br, b9, bd, b2, hS⟩ := id A
    have h2 : K (100 * (s + 1) + 5 + 1) 2 = Int32.ofNat (nL μ s) := hAK.2.2.1.trans hl.1
    have y0 : K (100 * (s + 1) + 20 + k) 0 = μ (85 + s) k := by rw [k1 _ _ (by omega) (by omega)]; exact w1
    have y1 : K (100 * (s + 1) + 20 + k) 1 = μ (90 + s) k := by rw [k1 _ _ (by omega) (by omega)]; exact w2
    have y2 : K (100 * (s + 1) + 20 + k) 2 = μ (95 + s) k := by rw [k1 _ _ (by omega) (by omega)]; exact w3
    have hdm := hDM k (by rw [c4]; exact hk)
    have eden : tDen M (nUse ν s d.toInt64 (nL μ s)) s k = (2 : Int64) * ((ν (100 + s) k + d.toInt64) + tBy (μ (85 + s) k) * (μ (95 + s) k).toInt64) := by
      unfold tDen
      rw [nu k hk, mm _ _ (by omega), mm _ _ (by omega)]
    rw [eden] at hdm
    have es := ec_settle1 (κ := K) (νc := N) (d := d) (hAK.1 k hk) (by rw [y0]; exact (hVb.2.2.2.2 k hk).1) (by rw [y0, y2, q2]; exact hdm)
    rw [y0, y1, y2, q2] at es
    have eth : tTh M (nUse ν s d.toInt64 (nL μ s)) s k = μ (90 + s) k - (((μ (90 + s) k).toInt64 * (ν (100 + s) k + d.toInt64)) / ((2 : Int64) * ((ν (100 + s) k + d.toInt64) + tBy (μ (85 + s) k) * (μ (95 + s) k).toInt64))).toInt32 := by
      unfold tTh
      rw [eden, nu k hk, mm _ _ (by omega)]
    rw [← eth] at es
    refine ⟨(Int32.ofNat (k + 1), zset K (100 * (s + 1) + 20 + k) 3 (tTh M (nUse ν s d.toInt64 (nL μ s)) s k), zsetN N (100 * (s + 1) + 20 + k) 4 (ν (100 + s) k + d.toInt64)), ?_, _, _, rfl, fun o i h1 h3 => ?_, ?_, fun o h => ?_, fun l hl2 => ?_⟩
    · show g_X2_settle_2 lv (100 * (s + 1) + 5) d (Int32.ofNat k) K N = _
      unfold g_X2_settle_2
      rw [cg a3, cg a0, cg a0, h2, if_neg (nle (by omega)), cg a3, cg a0, cg_ly A hB hAK hk, cg (hAK.1 k hk), cg (hAK.1 k hk), es, zg1_s, on_s]
    · rw [zset_e (by omega)]
      exact k1 o i h1 h3
    · rw [zset_e (by omega)]
      exact k2
    · rw [zsetN_o (by omega)]
      exact k3 o h
    · by_cases g : l = k
      · rw [g, zset_h, zsetN_h, if_pos (by omega), if_pos (by omega)]
        exact ⟨rfl, rfl⟩
      · obtain ⟨p1, p2⟩ := k4 l hl2
        rw [zset_e (by omega), zsetN_e (by omega), p1, p2]
        by_cases g2 : l < k
        · rw [if_pos g2, if_pos g2, if_pos (by omega), if_pos (by omega)]
          exact ⟨rfl, rfl⟩
        · rw [if_neg g2, if_neg g2, if_neg (by omega), if_neg (by omega)]
          exact ⟨rfl, rfl⟩
  · rintro st ⟨K, N, rfl, k1, k2, k3, k4⟩
    have h2 : K (100 * (s + 1) + 5 + 1) 2 = Int32.ofNat (nL μ s) := by
      rw [k1 _ _ (by omega) (by omega)]
      exact hA.2.2.1.trans hl.1
    obtain ⟨a8, a4, ah, af, a9, a3, a0, -⟩ := id A
    refine ⟨((), K, N), ?_, K, N, rfl, k1, k2, k3, fun l hl2 => ?_⟩
    · show g_X2_settle_2 lv (100 * (s + 1) + 5) d (Int32.ofNat (nL μ s)) K N = _
      unfold g_X2_settle_2
      rw [cg a3, cg a0, cg a0, h2, if_pos (ple (by omega))]
    · obtain ⟨p1, p2⟩ := k4 l hl2
      rw [p1, p2, if_pos hl2, if_pos hl2]
      exact ⟨rfl, rfl⟩
theorem op_use (R : RR lv κ νc μ ν H nS nB nK) (hH9 : H + 20000 ≤ 100000000) (x1 x2 : Int32) : Op1 lv (H + 20000) nS nB nK cd_use (g_X9_use lv 0 x1 x2 κ νc) (g_X10_use x1 x2 μ ν) := by
  have r0 := R.1.1
  have h30 := R.1.2.2.2.2.2.1
  have h4 := R.1.2.1
  have hHH := R.1.2.2.2.2.1
  have RU := RR_up (H' := H + 20000) (by omega) hH9 R
  unfold g_X9_use g_X10_use g_X10_use_30 g_X10_use_61 g_X10_use_66 g_X10_use_73
  rcases ix_cases x1 nS (by omega) with h | ⟨s, hs, rfl⟩
  · exact Op1_e RU (by rw [cg r0, ec_seatOf1 R h, zth_r]) (by rw [em_noSeat1 h30 (by omega) h, zb_s, em_th1, zg1_s, if_neg (by decide)]) rfl (by decide)
  rw [cg r0, ec_seatOf0 R hs, zth_l, em_noSeat0 h30 (by omega) hs, zb_s, em_th0, zg1_s, if_pos rfl]
  have R1 := RR_t 0 R
  have z1 : zset μ 0 33 0 0 33 = 0 := zset_h
  clear R RU h30
  generalize zset μ 0 33 0 = m1 at R1 z1 ⊢
  have hs4 : s < 4 := by omega
  have RU := RR_up (H' := H + 20000) (by omega) hH9 R1
  rcases ra_cases x2 1 9999 with h | hrx2
  · exact Op1_e RU (by rw [ec_ra1 h, zth_r]) (by rw [em_ra1 h, zb_s, if_pos rfl, em_th1, zg1_s, if_neg (by decide)]) rfl (by decide)
  rw [ec_ra0 hrx2, zth_l, em_ra0 hrx2, zb_s, if_neg (by decide), em_thz _ z1, zg1_s, if_pos rfl]
  have Q1 := R1.2.2.1 s hs
  obtain ⟨A, hB, hF, hN, ⟨sg, hG⟩, ⟨t, b, c, hV, hz⟩, hX, hO, hM, hT, hD, hA, hL, hVb, hC, hP⟩ := id Q1
  have hI := ra_I hrx2
  have i1 : (1 : Int32).toInt = 1 := rfl
  have ihi : (9999 : Int32).toInt = 9999 := rfl
  have ed : x2 = x2 := rfl
  have hdI : 0 ≤ (x2 : Int32).toInt ∧ (x2 : Int32).toInt ≤ 9999 := by omega
  rw [ed]
  unfold g_X9_needHoursLeft
  rw [ec_closed A hB hN hV, em_last hB (Lv_ch hV), zb_s]
  by_cases g : tLast m1 s = 99
  · rw [if_pos g, if_pos g, zth_l, cg A.1, cg A.2.2.2.2.2.2.2.2.1, hC.2.2.2.1, gi144 hs4]
    by_cases gh : m1 144 s + x2 ≤ 100000
    · rw [if_pos gh, if_pos gh, zth_l, em_thz _ z1, zg1_s, if_pos rfl, cg A.1]
      obtain ⟨v, K, N, e1, e2, e3⟩ := wear_ok hs (d := x2) hdI hH9 R1 g
      rw [e1, zg1_s, e2, zg1_s]
      exact Op1_v e3 (by rw [zset_e (by omega)]; exact z1) rfl rfl
    · exact Op1_e RU (by rw [if_neg gh, zth_r]) (by rw [if_neg gh, em_th1, zg1_s, if_neg (by decide)]) rfl (by decide)
  · exact Op1_e RU (by rw [if_neg g, zth_r, zth_r]) (by rw [if_neg g, em_th1, zg1_s, if_neg (by decide)]) rfl (by decide)
theorem op_pound (R : RR lv κ νc μ ν H nS nB nK) (hH9 : H + 20000 ≤ 100000000) (x1 x2 : Int32) : Op1 lv (H + 20000) nS nB nK cd_pound (g_X9_pound lv 0 x1 x2 κ νc) (g_X10_pound x1 x2 μ ν) := by
  have r0 := R.1.1
  have h30 := R.1.2.2.2.2.2.1
  have h4 := R.1.2.1
  have hHH := R.1.2.2.2.2.1
  have RU := RR_up (H' := H + 20000) (by omega) hH9 R
  unfold g_X9_pound g_X10_pound g_X10_pound_30 g_X10_pound_63 g_X10_pound_68 g_X10_pound_75
  rcases ix_cases x1 nS (by omega) with h | ⟨s, hs, rfl⟩
  · exact Op1_e RU (by rw [cg r0, ec_seatOf1 R h, zth_r]) (by rw [em_noSeat1 h30 (by omega) h, zb_s, em_th1, zg1_s, if_neg (by decide)]) rfl (by decide)
  rw [cg r0, ec_seatOf0 R hs, zth_l, em_noSeat0 h30 (by omega) hs, zb_s, em_th0, zg1_s, if_pos rfl]
  have R1 := RR_t 0 R
  have z1 : zset μ 0 33 0 0 33 = 0 := zset_h
  clear R RU h30
  generalize zset μ 0 33 0 = m1 at R1 z1 ⊢
  have hs4 : s < 4 := by omega
  have RU := RR_up (H' := H + 20000) (by omega) hH9 R1
  rcases ra_cases x2 1 3000 with h | hrx2
  · exact Op1_e RU (by rw [ec_ra1 h, zth_r]) (by rw [em_ra1 h, zb_s, if_pos rfl, em_th1, zg1_s, if_neg (by decide)]) rfl (by decide)
  rw [ec_ra0 hrx2, zth_l, em_ra0 hrx2, zb_s, if_neg (by decide), em_thz _ z1, zg1_s, if_pos rfl]
  have Q1 := R1.2.2.1 s hs
  obtain ⟨A, hB, hF, hN, ⟨sg, hG⟩, ⟨t, b, c, hV, hz⟩, hX, hO, hM, hT, hD, hA, hL, hVb, hC, hP⟩ := id Q1
  have hI := ra_I hrx2
  have i1 : (1 : Int32).toInt = 1 := rfl
  have ihi : (3000 : Int32).toInt = 3000 := rfl
  have ed : 3 * x2 = (x2 * 3) := Int32.mul_comm 3 x2
  have hdI : 0 ≤ ((x2 * 3) : Int32).toInt ∧ ((x2 * 3) : Int32).toInt ≤ 9999 := by
    have i3 : (3 : Int32).toInt = 3 := rfl
    rw [mul_I] <;> rw [i3] <;> omega
  rw [ed]
  unfold g_X9_needHoursLeft
  rw [ec_closed A hB hN hV, em_last hB (Lv_ch hV), zb_s]
  by_cases g : tLast m1 s = 99
  · rw [if_pos g, if_pos g, zth_l, cg A.1, cg A.2.2.2.2.2.2.2.2.1, hC.2.2.2.1, gi144 hs4]
    by_cases gh : m1 144 s + (x2 * 3) ≤ 100000
    · rw [if_pos gh, if_pos gh, zth_l, em_thz _ z1, zg1_s, if_pos rfl, cg A.1]
      obtain ⟨v, K, N, e1, e2, e3⟩ := wear_ok hs (d := (x2 * 3)) hdI hH9 R1 g
      rw [e1, zg1_s, e2, zg1_s]
      exact Op1_v e3 (by rw [zset_e (by omega)]; exact z1) rfl rfl
    · exact Op1_e RU (by rw [if_neg gh, zth_r]) (by rw [if_neg gh, em_th1, zg1_s, if_neg (by decide)]) rfl (by decide)
  · exact Op1_e RU (by rw [if_neg g, zth_r, zth_r]) (by rw [if_neg g, em_th1, zg1_s, if_neg (by decide)]) rfl (by decide)
end ZWJ
