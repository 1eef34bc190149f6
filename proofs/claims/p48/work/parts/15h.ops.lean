section ZWH2
/-! bodies, cloths, lands -/
variable {lv : Nat → Bool} {κ κ' : zzM} {νc νc' : zzN} {μ μ' : zzM} {ν ν' : zzN} {H H' : Int} {nS nB nK : Nat}
theorem RR_out (kk : ∀ o, (o < 600 ∨ (900 ≤ o ∧ o < 1600) ∨ 1900 ≤ o) → κ' o = κ o) (mm : ∀ o i, o < 147 → μ' o i = μ o i) (R : RR lv κ νc μ ν H nS nB nK) (hB : ∀ b, b < nB → RB κ' μ' (600 + b) b) (hB0 : ∀ b, nB ≤ b → b < 3 → ∀ x y, x < 6 → y < 6 → μ' (149 + 7 * b + x) y = 0) (hK : ∀ j, j < nK → RK lv κ' μ' (700 + j) j) (hK0 : ∀ j, nK ≤ j → j < 4 → μ' 171 j = 0 ∧ μ' 172 j = 0) (hL : ∀ j, j < 4 → RLn lv κ' μ' j) (hc : ∀ j, j < nK → cR μ' j = cR μ j ∧ cU μ' j = cU μ j ∧ ∀ i, i < cF μ' j → (i < cF μ j ∧ fL μ' j i = fL μ j i) ∨ cU μ j ≤ fL μ' j i) : RR lv κ' νc μ' ν H nS nB nK := by
  obtain ⟨r1, ⟨g1, g2, g3, g4, g5, g6⟩, r3, r4, r5, r6, r7, r8, r9, r10, r11⟩ := R
  have n4 := r1.2.1
  have sm : ∀ s, s < 4 → SM μ μ' ν ν s := fun s hs => ⟨fun o i h => mm o i (by unfold FP at h; omega), fun i => rfl⟩
  have sk : ∀ s, s < 4 → SK κ κ' νc νc (100 * (s + 1)) := fun s hs => ⟨fun o h => kk o (by unfold FK at h; omega), fun _ _ _ => rfl⟩
  have hl : ∀ s, s < 4 → tLast μ' s = tLast μ s := fun s hs => tLast_m (sm s hs)
  refine ⟨?_, ⟨?_, ?_, ?_, ?_, g5, g6⟩, fun s hs => RS_km (sm s (by omega)) (sk s (by omega)) (Int.le_refl _) (r3 s hs), fun s h1 h2 => ?_, fun b hb => ⟨(r5 b hb).1, hB b hb⟩, hB0, hK, hK0, hL, fun s hs => ?_, fun s1 s2 h1 h2 => ?_⟩
  · rw [mm _ _ (by omega), mm _ _ (by omega), mm _ _ (by omega)]
    exact r1
  · unfold Gr; rw [kk 1 (by omega)]; exact g1
  · unfold Gr; rw [kk 2 (by omega)]; exact g2
  · unfold Gr; rw [kk 3 (by omega)]; exact g3
  · unfold Gr; rw [kk 4 (by omega)]; exact g4
  · obtain ⟨z1, z2, z3, z4, z5, z6, z7⟩ := r4 s h1 h2
    refine ⟨?_, ?_, ?_, ?_, ?_, fun x y hx hy => ?_, fun k hk => ?_⟩
    · rw [mm _ _ (by omega)]; exact z1
    · rw [mm _ _ (by omega)]; exact z2
    · rw [mm _ _ (by omega)]; exact z3
    · rw [mm _ _ (by omega)]; exact z4
    · rw [mm _ _ (by omega)]; exact z5
    · rw [mm _ _ (by omega)]; exact z6 x y hx hy
    · rw [mm _ _ (by omega)]; exact z7 k hk
  · have hs4 : s < 4 := by omega
    unfold RP pL pN nC
    rw [hl s hs4, kk _ (by omega), mm 143 s (by omega), mm 1 s (by omega)]
    intro g
    obtain ⟨j, mt, hj, w1, w2, w3, w4, w5, w6⟩ := r10 s hs g
    obtain ⟨d1, d2, d3⟩ := hc j hj
    refine ⟨j, mt, hj, w1, w2, by rw [d1]; exact w3, w4, w5, fun k hk => ?_⟩
    obtain ⟨y1, y2, y3, y4, y5⟩ := w6 k hk
    rw [d1, d2, mm _ _ (by omega)]
    refine ⟨y1, y2, y3, fun i hi => ?_, fun k' hk' => by rw [mm _ _ (by omega)]; exact y5 k' hk'⟩
    rcases d3 i hi with ⟨q1, q2⟩ | q
    · rw [q2]; exact y4 i q1
    · intro z
      have z2 : fL μ' j i < pN μ s k + pL μ s := z.2
      omega
  · have hs4 : s1 < 4 := by omega
    have hs5 : s2 < 4 := by omega
    unfold RQ pL pN nC
    rw [hl s1 hs4, hl s2 hs5, kk _ (by omega), kk _ (by omega), mm 143 s1 (by omega), mm 143 s2 (by omega), mm 1 s1 (by omega), mm 1 s2 (by omega)]
    intro a1 a2 a3 a4 k1 k2 h3 h4
    rw [mm _ _ (by omega), mm _ _ (by omega)]
    exact r11 s1 s2 h1 h2 a1 a2 a3 a4 k1 k2 h3 h4
theorem RB_c {B b : Nat} (k : κ' (B + 1000) = κ (B + 1000)) (m : ∀ x y, x < 6 → μ' (149 + 7 * b + x) y = μ (149 + 7 * b + x) y) (h : RB κ μ B b) : RB κ' μ' B b := by
  refine ⟨fun i hi => ?_, fun x y hx hy => ?_⟩
  · rw [k, m _ _ (by omega)]; exact h.1 i hi
  · rw [m _ _ hx]; exact h.2 x y hx hy
theorem RK_c {o j : Nat} (k1 : κ' o = κ o) (k2 : κ' (o + 1000) = κ (o + 1000)) (m1 : μ' 169 j = μ 169 j) (m2 : μ' 170 j = μ 170 j) (m3 : μ' 171 j = μ 171 j) (m4 : μ' 172 j = μ 172 j) (m5 : ∀ i, μ' (174 + j) i = μ (174 + j) i) (h : RK lv κ μ o j) : RK lv κ' μ' o j := by
  obtain ⟨w1, w2, w3, w4, w5, w6⟩ := h
  unfold RK cL cR cF cU fL
  rw [k1, k2, m1, m2, m3, m4]
  exact ⟨w1, w2, w3, w4, w5, fun k hk => by rw [m5]; exact w6 k hk⟩
theorem hc_c {j : Nat} (m2 : μ' 170 j = μ 170 j) (m3 : μ' 171 j = μ 171 j) (m4 : μ' 172 j = μ 172 j) (m5 : ∀ i, μ' (174 + j) i = μ (174 + j) i) : cR μ' j = cR μ j ∧ cU μ' j = cU μ j ∧ ∀ i, i < cF μ' j → (i < cF μ j ∧ fL μ' j i = fL μ j i) ∨ cU μ j ≤ fL μ' j i := by
  unfold cR cU cF fL
  rw [m2, m3, m4]
  exact ⟨rfl, rfl, fun i hi => Or.inl ⟨hi, by rw [m5]⟩⟩
theorem op_mass (R : RR lv κ νc μ ν H nS nB nK) (x1 x2 x3 : Int32) : Op1 lv H nS nB nK cd_mass (g_X9_mass lv 0 x1 x2 x3 κ νc) (g_X10_mass x1 x2 x3 μ ν) := by
  have r0 := R.1.1
  have h31 := R.1.2.2.2.2.2.2.1
  have b3 := R.1.2.2.1
  unfold g_X9_mass g_X10_mass g_X10_mass_26 g_X10_mass_27 g_X10_mass_43 g_X10_mass_48 g_X10_mass_71 g_X10_mass_78
  simp only [zdv10]
  rcases ix_cases x1 nB (by omega) with h | ⟨b, hb, rfl⟩
  · have e1 := em_noBody1 (ν := ν) h31 (by omega) h
    have et := em_th1 (μ := μ) (ν := ν) 1
    refine Op1_e (t := 1) (v := 0) R (by rw [cg r0, ec_bodyOf1 R h, zth_r]) ?_ rfl (by decide)
    simp only [e1, zb_s, et, zg1_s, n10, if_false, ite_self]
  rw [cg r0, ec_bodyOf0 R hb, zth_l]
  have e1 := em_noBody0 (ν := ν) h31 (by omega) hb
  rcases cellIn_cases (lv := lv) (κ := κ) (νc := νc) x2 6 6 (by omega) (by omega) with ⟨h, h2⟩ | ⟨x, y, hx, hy, rfl, hd, hm, hx0, h⟩
  · have et := em_th1 (μ := μ) (ν := ν) 1
    refine Op1_e (t := 1) (v := 0) R (by rw [nlt6, h, zth_r]) ?_ rfl (by decide)
    simp only [e1, zb_s, et, zg1_s, n10, if_false, if_true]
    rcases h2 with h2 | ⟨h2, h3 | ⟨h3, h5⟩⟩
    · rw [if_pos h2]
    · rw [if_neg h2, if_pos (show (6 : Int32) ≤ x2 / 10 from h3)]
    · rw [if_neg h2, if_neg (show ¬ (6 : Int32) ≤ x2 / 10 from h3), if_pos (show (6 : Int32) ≤ zz_rem x2 10 from Int32.not_lt.mp h5)]
  have h' : g_X9_needCellIn lv (Int32.ofNat (10 * x + y)) 6 6 κ νc = some (.inl ()) := h
  rw [h', zth_l, if_neg hx0, hd, if_neg (show ¬ (6 : Int32) ≤ Int32.ofNat x from nle (a := 6) (by omega)), hm, if_neg (show ¬ (6 : Int32) ≤ Int32.ofNat y from nle (a := 6) (by omega)), e1, zb_s, if_pos rfl, if_neg (by decide), em_th0, zg1_s, if_pos rfl]
  have R1 := RR_t 0 R
  have z1 : zset μ 0 33 0 0 33 = 0 := zset_h
  clear R h31 h h' e1
  generalize zset μ 0 33 0 = m1 at R1 z1 ⊢
  rcases ra_cases x3 0 99 with h | hrx3
  · exact Op1_e R1 (by rw [ec_ra1 h, zth_r]) (by rw [em_ra1 h, zb_s, if_pos rfl, em_th1, zg1_s, if_neg (by decide)]) rfl (by decide)
  rw [ec_ra0 hrx3, zth_l, em_ra0 hrx3, zb_s, if_neg (by decide), em_thz _ z1, zg1_s, if_pos rfl]
  have hI := ra_I hrx3
  rw [i0] at hI
  have i99 : (99 : Int32).toInt = 99 := rfl
  obtain ⟨Ab1, hRB⟩ := R1.2.2.2.2.1 b hb
  rw [cg Ab1.1, ec_at Ab1.1 Ab1.2, zb_s, gAt_i (by omega), RB_at hRB hx hy, cg Ab1.1, ec_put Ab1.1 Ab1.2 (by omega), zg1_s, gq147 (show b < 3 by omega), gQ147 (show b < 3 by omega) hx, gi147 (show b < 3 by omega) hx hy, gq147 (show b < 3 by omega), gQ147 (show b < 3 by omega) hx, gs147 (show b < 3 by omega) hx hy]
  have k4 := R1.1.2.2.2.1
  refine Op1_v (RR_out (κ' := zset κ (600 + b + 1000) (10 * x + y) x3) (μ' := zset m1 (149 + 7 * b + x) y x3) (fun o ho => zset_o (by omega)) (fun o i ho => zset_e (by omega)) R1 (fun d hd2 => ?_) (fun d h1 h2 x' y' hx' hy' => ?_) (fun j hj => ?_) (fun j h1 h2 => ?_) (fun j hj => ?_) (fun j hj => ?_)) (by rw [zset_e (by omega)]; exact z1) rfl rfl
  · have w := (R1.2.2.2.2.1 d hd2).2
    by_cases g : d = b
    · subst g
      refine ⟨fun i hi => ?_, fun x' y' hx' hy' => ?_⟩
      · by_cases q : i = 10 * x + y
        · rw [q, zset_h, if_pos (by omega), show (10 * x + y) / 10 = x by omega, show (10 * x + y) % 10 = y by omega, zset_h]
        · rw [zset_e (by omega), zset_e (by omega)]
          exact w.1 i hi
      · by_cases q : x' = x ∧ y' = y
        · rw [q.1, q.2, zset_h]
          omega
        · rw [zset_e (by omega)]
          exact w.2 x' y' hx' hy'
    · exact RB_c (zset_o (by omega)) (fun x' y' hx' => zset_e (by omega)) w
  · rw [zset_e (by omega)]
    exact R1.2.2.2.2.2.1 d h1 h2 x' y' hx' hy'
  · exact RK_c (zset_o (by omega)) (zset_o (by omega)) (zset_e (by omega)) (zset_e (by omega)) (zset_e (by omega)) (zset_e (by omega)) (fun i => zset_e (by omega)) (R1.2.2.2.2.2.2.1 j hj)
  · rw [zset_e (by omega), zset_e (by omega)]
    exact R1.2.2.2.2.2.2.2.1 j h1 h2
  · unfold RLn
    rw [zset_o (by omega), zset_e (by omega), zset_e (by omega)]
    exact R1.2.2.2.2.2.2.2.2.1 j hj
  · exact hc_c (zset_e (by omega)) (zset_e (by omega)) (zset_e (by omega)) (fun i => zset_e (by omega))
theorem kd_cases (x : Int32) : (x = 104 ∨ x = 102 ∨ x = 100) ∨ (¬ x = 104 ∧ ¬ x = 102 ∧ ¬ x = 100) := by
  by_cases h1 : x = 104
  · exact Or.inl (Or.inl h1)
  · by_cases h2 : x = 102
    · exact Or.inl (Or.inr (Or.inl h2))
    · by_cases h3 : x = 100
      · exact Or.inl (Or.inr (Or.inr h3))
      · exact Or.inr ⟨h1, h2, h3⟩
theorem ec_kind1 {x : Int32} (h : ¬ x = 104 ∧ ¬ x = 102 ∧ ¬ x = 100) : g_X9_needKind lv x κ νc = some (.inr 0) := by
  unfold g_X9_needKind g_X9_needKind_29
  rw [if_neg h.1, if_neg h.2.1, if_neg h.2.2]
theorem ec_kind0 {x : Int32} (h : x = 104 ∨ x = 102 ∨ x = 100) : g_X9_needKind lv x κ νc = some (.inl ()) := by
  unfold g_X9_needKind g_X9_needKind_29
  rcases h with rfl | rfl | rfl
  · rw [if_pos rfl]
  · rw [if_neg (by decide), if_pos rfl]
  · rw [if_neg (by decide), if_neg (by decide), if_pos rfl]
theorem em_kind1 {x : Int32} (h : ¬ x = 104 ∧ ¬ x = 102 ∧ ¬ x = 100) : g_X10_isKind x μ ν = some 0 := by
  unfold g_X10_isKind g_X10_isKind_18 g_X10_isKind_23
  rw [if_neg h.1, if_neg h.2.1, if_neg h.2.2, zgz0]
theorem em_kind0 {x : Int32} (h : x = 104 ∨ x = 102 ∨ x = 100) : g_X10_isKind x μ ν = some 1 := by
  unfold g_X10_isKind g_X10_isKind_18 g_X10_isKind_23
  rcases h with rfl | rfl | rfl
  · rw [if_pos rfl, zgz1]
  · rw [if_neg (by decide), if_pos rfl, zgz1]
  · rw [if_neg (by decide), if_neg (by decide), if_pos rfl, zgz1]
theorem op_land (R : RR lv κ νc μ ν H nS nB nK) (x1 x2 x3 : Int32) : Op1 lv H nS nB nK cd_land (g_X9_land lv 0 x1 x2 x3 κ νc) (g_X10_land x1 x2 x3 μ ν) := by
  have r0 := R.1.1
  unfold g_X9_land g_X9_land_17 g_X10_land g_X10_land_15 g_X10_land_36 g_X10_land_45 g_X10_land_50 g_X10_land_57
  rcases ix_cases x1 4 (by omega) with h | ⟨j, hj, rfl⟩
  · exact Op1_e R (by rw [cg r0, ec_landOf1 R h, zth_r]) (by rw [show (3 : Int32) = Int32.ofNat 4 - 1 from rfl, em_ix0 (by omega) h, zb_s, if_pos rfl, em_th1, zg1_s, if_neg (by decide)]) rfl (by decide)
  rw [cg r0, ec_landOf0 R hj, zth_l, show (3 : Int32) = Int32.ofNat 4 - 1 from rfl, em_ix1 (by omega) hj, zb_s, if_neg (show ¬ (1 : Int32) = 0 by decide), em_th0, zg1_s, if_pos rfl]
  have R1 := RR_t 0 R
  have z1 : zset μ 0 33 0 0 33 = 0 := zset_h
  clear R
  generalize zset μ 0 33 0 = m1 at R1 z1 ⊢
  obtain ⟨n6, n1, n2⟩ := R1.2.2.2.2.2.2.2.2.1 j hj
  have k4 := R1.1.2.2.2.1
  have main : (x2 = 45 ∨ x2 = 104 ∨ x2 = 102 ∨ x2 = 100) → Op1 lv H nS nB nK cd_land (zz_th (g_X9_needRange lv x3 0 4 κ νc) (fun _ => cgd lv 6 (800 + j) (zz_gc x2 (cgd lv 6 (800 + j) (cgd lv 6 (800 + j) (some ((.inl (κ (800 + j) 1)), (zset (zset κ (800 + j) 0 x2) (800 + j) 1 x3), νc)))))) (fun e => some ((.inr e), κ, νc))) (zz_b (g_X10_isIn x3 0 4 m1 ν) fun v39 => if v39 = 0 then (zz_g1 (g_X10_isThrown 1 2 m1 ν) fun v51 m51 q51 => if v51 = 0 then gai 0 m51 179 (Int32.ofNat j) fun v64 => gsi 1 m51 178 (Int32.ofNat j) (vp_nar .char x2) fun m73 => gsi 0 m73 179 (Int32.ofNat j) x3 fun m80 => some (v64, m80, q51) else some (0, m51, q51)) else (zz_g1 (g_X10_isThrown 0 2 m1 ν) fun v51 m51 q51 => if v51 = 0 then gai 0 m51 179 (Int32.ofNat j) fun v64 => gsi 1 m51 178 (Int32.ofNat j) (vp_nar .char x2) fun m73 => gsi 0 m73 179 (Int32.ofNat j) x3 fun m80 => some (v64, m80, q51) else some (0, m51, q51))) := by
    intro hk
    have hch : CH x2 := by
      rcases hk with rfl | h
      · exact CH45
      · exact kind_CH h
    have hnar : vp_nar .char x2 = x2 := by
      rcases hk with rfl | rfl | rfl | rfl <;> decide
    rcases ra_cases x3 0 4 with h | hr3
    · exact Op1_e R1 (by rw [ec_ra1 h, zth_r]) (by rw [em_ra1 h, zb_s, if_pos rfl, em_th1, zg1_s, if_neg (by decide)]) rfl (by decide)
    rw [ec_ra0 hr3, zth_l, em_ra0 hr3, zb_s, if_neg (by decide), em_thz _ z1, zg1_s, if_pos rfl, cg n6, zgc_p hch, cg n6, cg n6, gi179 hj, gs178 hj, gs179 hj, hnar, n2]
    refine Op1_v (RR_out (κ' := zset (zset κ (800 + j) 0 x2) (800 + j) 1 x3) (μ' := zset (zset m1 178 j x2) 179 j x3) (fun o ho => by rw [zset_o (by omega), zset_o (by omega)]) (fun o i ho => by rw [zset_e (by omega), zset_e (by omega)]) R1 (fun d hd2 => ?_) (fun d h1 h2 x' y' hx' hy' => ?_) (fun i hi => ?_) (fun i h1 h2 => ?_) (fun i hi => ?_) (fun i hi => ?_)) (by rw [zset_e (by omega), zset_e (by omega)]; exact z1) rfl rfl
    · have b3 := R1.1.2.2.1
      exact RB_c (by rw [zset_o (by omega), zset_o (by omega)]) (fun x' y' hx' => by rw [zset_e (by omega), zset_e (by omega)]) (R1.2.2.2.2.1 d hd2).2
    · rw [zset_e (by omega), zset_e (by omega)]
      exact R1.2.2.2.2.2.1 d h1 h2 x' y' hx' hy'
    · exact RK_c (by rw [zset_o (by omega), zset_o (by omega)]) (by rw [zset_o (by omega), zset_o (by omega)]) (by rw [zset_e (by omega), zset_e (by omega)]) (by rw [zset_e (by omega), zset_e (by omega)]) (by rw [zset_e (by omega), zset_e (by omega)]) (by rw [zset_e (by omega), zset_e (by omega)]) (fun k => by rw [zset_e (by omega), zset_e (by omega)]) (R1.2.2.2.2.2.2.1 i hi)
    · rw [zset_e (by omega), zset_e (by omega), zset_e (by omega), zset_e (by omega)]
      exact R1.2.2.2.2.2.2.2.1 i h1 h2
    · obtain ⟨q6, q1, q2⟩ := R1.2.2.2.2.2.2.2.2.1 i hi
      by_cases g : i = j
      · subst g
        refine ⟨q6, ?_, ?_⟩
        · rw [zset_e (by omega), zset_h, zset_e (by omega), zset_h]
        · rw [zset_h, zset_h]
      · refine ⟨q6, ?_, ?_⟩
        · rw [zset_e (by omega), zset_e (by omega), zset_e (by omega), zset_e (by omega)]; exact q1
        · rw [zset_e (by omega), zset_e (by omega), zset_e (by omega), zset_e (by omega)]; exact q2
    · exact hc_c (by rw [zset_e (by omega), zset_e (by omega)]) (by rw [zset_e (by omega), zset_e (by omega)]) (by rw [zset_e (by omega), zset_e (by omega)]) (fun k => by rw [zset_e (by omega), zset_e (by omega)])
  by_cases g45 : x2 = 45
  · rw [if_pos g45, em_kind1 (by rw [g45]; decide), zb_s, if_pos rfl, if_pos g45]
    exact main (Or.inl g45)
  · rcases kd_cases x2 with hk | hk
    · rw [if_neg g45, ec_kind0 hk, zth_l, em_kind0 hk, zb_s, if_neg (show ¬ (1 : Int32) = 0 by decide)]
      exact main (Or.inr hk)
    · exact Op1_e R1 (by rw [if_neg g45, ec_kind1 hk, zth_r]) (by rw [em_kind1 hk, zb_s, if_pos rfl, if_neg g45, em_th1, zg1_s, if_neg (by decide)]) rfl (by decide)
end ZWH2
