section ZWG
/-! springs; bodies, flaws, lands -/
variable {lv : Nat → Bool} {κ κ' : zzM} {νc νc' : zzN} {μ μ' : zzM} {ν ν' : zzN} {H H' : Int} {nS nB nK : Nat}
theorem ec_putSprings {S s : Nat} {hh f : Int32} (A : As lv S) (hB : Bd μ s) (hF : RF κ μ S s) : ∃ K, g_X3_putSprings lv (S + 1) hh f κ νc = some ((), K, νc) ∧ (∀ o, o ≠ S + 1 + 1 + 1000 → o ≠ S + 1 + 2 + 1000 → K o = κ o) ∧ ∀ x y, x < nC μ s → y < nR μ s → K (S + 1 + 1 + 1000) (10 * x + y) = hh ∧ K (S + 1 + 2 + 1000) (10 * x + y) = f := by
  have A' := A
  have hB' := hB
  obtain ⟨a8, a4, ah, af, a9, a3, a0, ad, a2, bh, bf, bc, br, b9, bd, b2, hS⟩ := A
  obtain ⟨hs, ⟨hc, hc1, hc6⟩, ⟨hr, hr1, hr6⟩, -⟩ := hB
  have h36 := cr6 hc6 hr6
  have main := zit_I (b := fun s1 : (Int32 × zzM × zzN) => g_X3_putSprings_2 lv (S + 1) hh f s1.1 s1.2.1 s1.2.2) (s := ((0 : Int32), κ, νc))
    (fun p st => ∃ K : zzM, st = (Int32.ofNat p, K, νc) ∧ (∀ o, o ≠ S + 1 + 1 + 1000 → o ≠ S + 1 + 2 + 1000 → K o = κ o) ∧ ∀ x y, x < nC μ s → y < nR μ s → ahd (nR μ s) p x y → K (S + 1 + 1 + 1000) (10 * x + y) = hh ∧ K (S + 1 + 2 + 1000) (10 * x + y) = f)
    (fun r : Unit × zzM × zzN => ∃ K : zzM, r = ((), K, νc) ∧ (∀ o, o ≠ S + 1 + 1 + 1000 → o ≠ S + 1 + 2 + 1000 → K o = κ o) ∧ ∀ x y, x < nC μ s → y < nR μ s → K (S + 1 + 1 + 1000) (10 * x + y) = hh ∧ K (S + 1 + 2 + 1000) (10 * x + y) = f)
    (nC μ s * nR μ s) (by omega) ⟨κ, rfl, fun _ _ _ => rfl, fun x y hx hy h => absurd h (ahd_0 (by omega))⟩ ?_ ?_
  · obtain ⟨r, e, K, rfl, h1, h2⟩ := main
    exact ⟨K, e, h1, h2⟩
  · rintro p hp st ⟨K, rfl, k1, k2⟩
    have hF2 : RF K μ S s := by
      unfold RF
      rw [k1 _ (by omega) (by omega)]
      exact hF
    have hX : p / nR μ s < nC μ s := by rw [Nat.div_lt_iff_lt_mul (by omega)]; exact hp
    have hY : p % nR μ s < nR μ s := Nat.mod_lt _ (by omega)
    refine ⟨(Int32.ofNat (p + 1), zset (zset K (S + 1 + 1 + 1000) (10 * (p / nR μ s) + p % nR μ s) hh) (S + 1 + 2 + 1000) (10 * (p / nR μ s) + p % nR μ s) f, νc), ?_, _, rfl, fun o h1 h2 => by rw [zset_o h2, zset_o h1]; exact k1 o h1 h2, fun x y hx hy h => ?_⟩
    · show g_X3_putSprings_2 lv (S + 1) hh f (Int32.ofNat p) K νc = _
      unfold g_X3_putSprings_2 g_X3_putSpring
      rw [cg a4, ec_cellCount A' hB' hF2, zb_s, if_neg (nle (by omega)), cg a4, ec_cellAt A' hB' hF2 (by omega), zb_s, cg a4, cg a4, cg ah, ec_put ah bh (by omega), zg1_s, cg a4, cg af, ec_put af bf (by omega), zg1_s, zg1_s, on_s]
    · rcases (ahd_s (by omega) hy).mp h with h1 | ⟨rfl, rfl⟩
      · obtain ⟨w1, w2⟩ := k2 x y hx hy h1
        refine ⟨?_, ?_⟩
        · rw [zset_e (by omega)]
          by_cases g : 10 * x + y = 10 * (p / nR μ s) + p % nR μ s
          · rw [g, zset_h]
          · rw [zset_e (by omega)]; exact w1
        · by_cases g : 10 * x + y = 10 * (p / nR μ s) + p % nR μ s
          · rw [g, zset_h]
          · rw [zset_e (by omega), zset_e (by omega)]; exact w2
      · exact ⟨by rw [zset_e (by omega), zset_h], zset_h⟩
  · rintro st ⟨K, rfl, k1, k2⟩
    have hF2 : RF K μ S s := by
      unfold RF
      rw [k1 _ (by omega) (by omega)]
      exact hF
    refine ⟨((), K, νc), ?_, K, rfl, k1, fun x y hx hy => k2 x y hx hy (ahd_N (by omega) hx)⟩
    show g_X3_putSprings_2 lv (S + 1) hh f (Int32.ofNat (nC μ s * nR μ s)) K νc = _
    unfold g_X3_putSprings_2
    rw [cg a4, ec_cellCount A' hB' hF2, zb_s, if_pos (ple (by omega))]
theorem can115' {la : Int32} {l : Nat} (h : tCan la l 115 = true) : la = 119 := by simpa [tCan] using h
theorem op_spring (R : RR lv κ νc μ ν H nS nB nK) (x1 x2 x3 : Int32) : Op1 lv H nS nB nK cd_spring (g_X9_spring lv 0 x1 x2 x3 κ νc) (g_X10_spring x1 x2 x3 μ ν) := by
  have r0 := R.1.1
  have h30 := R.1.2.2.2.2.2.1
  have h4 := R.1.2.1
  have hHH := R.1.2.2.2.2.1
  unfold g_X9_spring g_X10_spring g_X10_spring_27 g_X10_spring_50 g_X10_spring_57 g_X10_isSpring g_X10_isSpring_25 g_X10_isSpring_26
  rcases ix_cases x1 nS (by omega) with h | ⟨s, hs, rfl⟩
  · exact Op1_e R (by rw [cg r0, ec_seatOf1 R h, zth_r]) (by rw [em_noSeat1 h30 (by omega) h, zb_s, em_th1, zg1_s, if_neg (by decide)]) rfl (by decide)
  rw [cg r0, ec_seatOf0 R hs, zth_l, em_noSeat0 h30 (by omega) hs, zb_s, em_th0, zg1_s, if_pos rfl]
  have R1 := RR_t 0 R
  have z1 : zset μ 0 33 0 0 33 = 0 := zset_h
  clear R h30
  generalize zset μ 0 33 0 = m1 at R1 z1 ⊢
  have hs4 : s < 4 := by omega
  rcases ra_cases x2 20 99 with h | hr3
  · exact Op1_e R1 (by rw [ec_ra1 h, zth_r]) (by rw [em_ra1 h, zb_s, if_pos rfl, zgz0, zb_s, if_pos rfl, em_th1, zg1_s, if_neg (by decide)]) rfl (by decide)
  rw [ec_ra0 hr3, zth_l, em_ra0 hr3, zb_s, if_neg (by decide)]
  rcases ra_cases x3 1 9 with h | hr4
  · exact Op1_e R1 (by rw [ec_ra1 h, zth_r]) (by rw [em_ra1 h, zb_s, if_pos rfl, zgz0, zb_s, if_pos rfl, em_th1, zg1_s, if_neg (by decide)]) rfl (by decide)
  rw [ec_ra0 hr4, zth_l, em_ra0 hr4, zb_s, if_neg (by decide), zgz1, zb_s, if_neg (by decide), em_thz _ z1, zg1_s, if_pos rfl]
  have Q1 := R1.2.2.1 s hs
  obtain ⟨A, hB, hF, hN, ⟨sg, hG⟩, ⟨t, b, c, hV, hz⟩, hX, hO, hM, hT, hD, hA, hL, hVb, hC, hP⟩ := id Q1
  rcases nx_cases (νc := νc) (ν := ν) A hB hN hV hG (a := 115) (by decide) with ⟨e1, e2⟩ | ⟨e1, e2, e3, rfl⟩
  · exact Op1_e R1 (by rw [e1, zth_r]) (by rw [e2, zb_s, if_pos rfl, em_th1, zg1_s, if_neg (by decide)]) rfl (by decide)
  rw [e1, zth_l, e2, zb_s, if_neg (by decide), em_thz _ z1, zg1_s, if_pos rfl]
  have hn : nD m1 s = 1 := by
    rcases shape hV hB (n := 119) (can115' e3) (by decide) (by decide) with ⟨-, h⟩ | ⟨h, -⟩ | ⟨h, -⟩ | ⟨h, -⟩ | ⟨h, -⟩ | ⟨h, -⟩
    · exact h
    · omega
    · omega
    · omega
    · omega
    · omega
  obtain ⟨-, -, hc0, hl0⟩ := hV.2.2.2.1 (by omega)
  have h3I := ra_I hr3
  have h4I := ra_I hr4
  have i20 : (20 : Int32).toInt = 20 := rfl
  have i99 : (99 : Int32).toInt = 99 := rfl
  have i1 : (1 : Int32).toInt = 1 := rfl
  have i9 : (9 : Int32).toInt = 9 := rfl
  have hc6 := hB.2.1.2.2
  have hr6 := hB.2.2.1.2.2
  obtain ⟨K, eK, kk, kv⟩ := ec_putSprings (νc := νc) (hh := x2) (f := x3) A hB hF
  obtain ⟨M, hM'⟩ : ∃ M, M = mLoos (mSpr m1 s x2 x3 36) s 6 := ⟨_, rfl⟩
  have mm : ∀ o i, ¬ (17 + 7 * s ≤ o ∧ o < 23 + 7 * s) → ¬ (46 + 7 * s ≤ o ∧ o < 52 + 7 * s) → o ≠ 74 + s → o ≠ 79 + s → M o i = m1 o i := fun o i h1 h2 h3 h5 => by rw [hM', mLoos_o h3 h5, mSpr_o h1 h2]
  have mh : ∀ x y, x < 6 → y < 6 → M (17 + 7 * s + x) y = x2 := fun x y hx hy => by
    rw [hM', mLoos_o (by omega) (by omega)]
    exact if_pos (by omega)
  have mf : ∀ x y, x < 6 → y < 6 → M (46 + 7 * s + x) y = x3 := fun x y hx hy => by
    rw [hM', mLoos_o (by omega) (by omega)]
    unfold mSpr
    rw [if_neg (by omega), if_pos (by omega)]
  have mt : ∀ k, k < 6 → M (74 + s) k = 99 ∧ M (79 + s) k = 99 := fun k hk => by
    rw [hM']
    exact ⟨if_pos ⟨Or.inl rfl, hk⟩, if_pos ⟨Or.inr rfl, hk⟩⟩
  have em := em_loosen (μ := mSpr m1 s x2 x3 36) (ν := ν) hs4
  rw [← hM'] at em
  clear hM'
  obtain ⟨hB', c1, c2, c3, c4⟩ := Bd_of (μ' := M) (mm 1 s (by omega) (by omega) (by omega) (by omega)) (mm 2 s (by omega) (by omega) (by omega) (by omega)) (mm 3 s (by omega) (by omega) (by omega) (by omega)) (mm 83 s (by omega) (by omega) (by omega) (by omega)) hB
  have h9 : nD M s < 9 := by omega
  have hNM : RN K M (100 * (s + 1)) s := by
    unfold RN
    rw [c3, mm 3 s (by omega) (by omega) (by omega) (by omega), kk _ (by omega) (by omega), kk _ (by omega) (by omega)]
    exact ⟨hN.1, fun k hk => by rw [mm _ _ (by omega) (by omega) (by omega) (by omega)]; exact hN.2 k hk⟩
  have ed := em_done (ν := ν) hB' h9 (a := 115) (by decide)
  rw [cg A.1, cg A.2.1, eK, zg1_s, cg A.1, cg A.2.2.2.2.1, ec_add A hB' hNM.1 h9 (by decide), zg1_s, em_spring62 hs4 (r := (Int32.ofNat (nD M s), mDone M s 115, ν)) (by rw [em, zg1_s, ed, zg1_s])]
  obtain ⟨d3, dD, dC, dR, dL⟩ := mDone_f (μ := M) (s := s) (a := 115) h9
  have me : ∀ o i, o ≠ 3 → ¬ (5 ≤ o ∧ o < 14) → mDone M s 115 o i = M o i := fun o i h1 h2 => mDone_e (by omega) (by omega) (by omega)
  have f1 : (mDone M s 115 3 s ≤ 1) = False := eq_false (by rw [d3]; exact nle (b := 1) (by omega))
  have f2 : (m1 3 s ≤ 1) = True := by rw [n_le1 hB]; exact eq_true (by omega)
  have f3 : (mDone M s 115 3 s ≤ 0) = False := eq_false (by rw [d3]; exact nle (b := 0) (by omega))
  have f4 : (m1 3 s ≤ 0) = False := by rw [n_le0 hB]; exact eq_false (by omega)
  refine Op1_v (RR_seat2 hs (fun o ho => by rw [kAdd_o (by unfold FK at ho; omega) (by unfold FK at ho; omega), kk _ (by unfold FK at ho; omega) (by unfold FK at ho; omega)]) (fun o ho => rfl) (fun o i ho => by rw [mDone_e (by unfold FP at ho; omega) (by unfold FP at ho; omega) (by unfold FP at ho; omega), mm _ _ (by unfold FP at ho; omega) (by unfold FP at ho; omega) (by unfold FP at ho; omega) (by unfold FP at ho; omega)]) (fun o ho => rfl) (Int.le_refl _) hHH R1 (RS_done (t := 0) (b := 0) (c := 0) A hB' h9 ?_ hNM ?_ ?_ ?_ ?_ ?_ ?_ ?_ ?_ ?_ ?_ ?_ ?_ ?_) (Or.inl ?_)) (by rw [mDone_e (by omega) (by omega) (by omega), mm _ _ (by omega) (by omega) (by omega) (by omega)]; exact z1) rfl rfl
  · unfold RF
    rw [kk _ (by omega) (by omega), mm _ _ (by omega) (by omega) (by omega) (by omega), mm _ _ (by omega) (by omega) (by omega) (by omega)]
    exact hF
  · unfold RG at hG ⊢
    rw [c3, kk _ (by omega) (by omega)]
    exact ⟨hG.1, hG.2.1, fun k hk => by rw [mm _ _ (by omega) (by omega) (by omega) (by omega)]; exact hG.2.2 k hk⟩
  · exact Lv_done (t := 0) (b := 0) (c := 0) (a := 115) hs4 hB' h9 (fun k hk => by
      rw [mm _ _ (by omega) (by omega) (by omega) (by omega), hV.2.2.2.2.2.2 k (by omega)]
      have : k = 0 := by omega
      subst this
      rfl) (by rw [c4, hl0]) (by omega) (by omega) (by omega) (by omega) (by omega) (fun q => by omega) (by rw [c3, hn]; rfl)
  · intro _ _ k hk
    rw [me _ _ (by omega) (by omega), me _ _ (by omega) (by omega)]
    exact mt k hk
  · unfold RX
    simp only [f1, if_false]
    rw [dC, dR, c1, c2, kk (100 * (s + 1) + 1 + 1000) (by omega) (by omega), kk (100 * (s + 1) + 1 + 2000) (by omega) (by omega)]
    refine ⟨fun x y hx hy => ?_, fun k hk => ?_⟩
    · rw [me _ _ (by omega) (by omega), mh x y (by omega) (by omega)]
      exact (kv x y hx hy).1
    · have w := hX.2 k hk
      simp only [f2, if_true] at w
      rw [me _ _ (by omega) (by omega), me _ _ (by omega) (by omega), (mt k hk).1, (mt k hk).2]
      exact w
  · refine ⟨fun _ k hk => ?_, fun x y hx hy => ?_, ?_⟩
    · rw [me _ _ (by omega) (by omega), me _ _ (by omega) (by omega), (mt k hk).1, (mt k hk).2]
      exact ⟨fun _ => rfl, fun _ => rfl⟩
    · rw [dC, dR, c1, c2, me _ _ (by omega) (by omega), mm _ _ (by omega) (by omega) (by omega) (by omega)]
      exact hO.2.1 x y hx hy
    · rw [tDr_c (μ := m1) (fun x y hx hy => by rw [me _ _ (by omega) (by omega), mm _ _ (by omega) (by omega) (by omega) (by omega)])]
      exact hO.2.2
  · unfold RM
    simp only [f1, if_false]
    rw [dC, dR, c1, c2]
    intro x y hx hy
    rw [me _ _ (by omega) (by omega), mf x y (by omega) (by omega)]
    exact (kv x y hx hy).2
  · unfold RT at hT ⊢
    simp only [f3, f4, if_false] at hT ⊢
    rw [kk _ (by omega) (by omega), me _ _ (by omega) (by omega), mm _ _ (by omega) (by omega) (by omega) (by omega)]
    exact hT
  · exact RD_c (kk _ (by omega) (by omega)) (fun o i h => mm _ _ (by omega) (by omega) (by omega) (by omega)) hD
  · unfold Al at hA ⊢
    rw [c4, kk _ (by omega) (by omega), mm 83 s (by omega) (by omega) (by omega) (by omega)]
    exact hA
  · intro l hl
    rw [c4, hl0] at hl
    omega
  · refine ⟨fun _ x y hx hy => ?_, fun _ k hk => ?_, fun _ => ?_, fun x y hx hy => ?_, fun l hl => ?_⟩
    · rw [me _ _ (by omega) (by omega), me _ _ (by omega) (by omega), mh x y hx hy, mf x y hx hy]
      omega
    · rw [me _ _ (by omega) (by omega), me _ _ (by omega) (by omega), (mt k hk).1, (mt k hk).2, i99]
      omega
    · rw [me _ _ (by omega) (by omega), mm _ _ (by omega) (by omega) (by omega) (by omega)]
      exact hVb.2.2.1 (by rw [f4]; exact not_false)
    · rw [me _ _ (by omega) (by omega), mm _ _ (by omega) (by omega) (by omega) (by omega)]
      exact hVb.2.2.2.1 x y hx hy
    · rw [dL, c4, hl0] at hl
      omega
  · have tl : tLast M s = tLast m1 s := tLast_c (mm _ _ (by omega) (by omega) (by omega) (by omega)) (fun i => mm _ _ (by omega) (by omega) (by omega) (by omega))
    refine RC_done hs4 h9 ?_ (by decide) (RC_c (μ := m1) tl (kk _ (by omega) (by omega)) (kk _ (by omega) (by omega)) (mm _ _ (by omega) (by omega) (by omega) (by omega)) (mm _ _ (by omega) (by omega) (by omega) (by omega)) (mm _ _ (by omega) (by omega) (by omega) (by omega)) (mm _ _ (by omega) (by omega) (by omega) (by omega)) (fun i => mm _ _ (by omega) (by omega) (by omega) (by omega)) hC)
    rw [tl]
    exact not99 hV hB hc0
  · rw [kk _ (by omega) (by omega), mm _ _ (by omega) (by omega) (by omega) (by omega)]
    exact hP
  · rw [tLast_done h9]
    decide
end ZWG
