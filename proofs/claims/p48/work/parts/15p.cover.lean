section ZWP2
/-! cover -/
variable {lv : Nat → Bool} {κ κ' : zzM} {νc νc' : zzN} {μ μ' : zzM} {ν ν' : zzN} {H H' : Int} {nS nB nK : Nat}
theorem can99 {la : Int32} {l : Nat} (h : tCan la l 99 = true) : la = 108 ∨ la = 98 := by simpa [tCan] using h
/-- the class closes, given how the cutting ends -/
theorem ec_close0 {S s j mt n sg t b c : Nat} {r : Int32 × zzM × zzN} (h : CT lv κ νc μ ν H S s sg t b c) (hj : lv (700 + j) = true ∧ co (700 + j) = 1) (hn : 10 * Int32.ofNat (nR μ s) + tMax μ ν s = Int32.ofNat n) (hr : zz_it (fun s1 : (Int32 × Int32 × zzM × zzN) => g_X1_cut_9 lv (S + 8) (700 + j) (Int32.ofNat mt) (Int32.ofNat (nC μ s)) (Int32.ofNat n) s1.1 s1.2.1 s1.2.2.1 s1.2.2.2) zz_F (κ (700 + j) 4, (0 : Int32), κ, νc) = some r) (h0 : r.1 = 0) : g_X7_close lv S (700 + j) (Int32.ofNat mt) κ νc = some (0, r.2.1, r.2.2) := by
  obtain ⟨A, hB, hF, hN, hG, hV, hz, hX, hO, hM, hT, hD, hA, hL, hVb, hP⟩ := h
  obtain ⟨v, k, q⟩ := r
  dsimp only at h0
  subst h0
  unfold g_X7_close g_X1_cut
  rw [cg A.1, cg A.2.1, cg A.1, ec_greatestTop A hB hF (RX_RH hB hX) hA hL hD, zb_s, cg A.1, cg A.1, cg A.2.1, cg A.2.2.2.2.2.2.2.2.1, hF.1, hF.2, hB.2.1.1, hB.2.2.1.1, hn, cg hj, hr, zg1_s, if_pos rfl]
theorem ec_close1 {S s j mt n sg t b c : Nat} {r : Int32 × zzM × zzN} {m : zzM} (h : CT lv κ νc μ ν H S s sg t b c) (hj : lv (700 + j) = true ∧ co (700 + j) = 1) (hn : 10 * Int32.ofNat (nR μ s) + tMax μ ν s = Int32.ofNat n) (hr : zz_it (fun s1 : (Int32 × Int32 × zzM × zzN) => g_X1_cut_9 lv (S + 8) (700 + j) (Int32.ofNat mt) (Int32.ofNat (nC μ s)) (Int32.ofNat n) s1.1 s1.2.1 s1.2.2.1 s1.2.2.2) zz_F (κ (700 + j) 4, (0 : Int32), κ, νc) = some r) (h1 : r.1 = 1) (hc : r.2.2 = νc) (h2 : CT lv r.2.1 νc m ν H S s sg t b c) (h3 : CT lv (zset (zset r.2.1 (S + 8) 5 (tSum m s (tTop m ν s))) (S + 8) 6 0) νc μ' ν H S s sg t b c) (h9 : nD μ' s < 9) : g_X7_close lv S (700 + j) (Int32.ofNat mt) κ νc = some (1, kAdd (zset (zset r.2.1 (S + 8) 5 (tSum m s (tTop m ν s))) (S + 8) 6 0) S (nD μ' s) 99, νc) := by
  obtain ⟨A, hB, hF, hN, hG, hV, hz, hX, hO, hM, hT, hD, hA, hL, hVb, hP⟩ := h
  obtain ⟨-, hB2, hF2, -, -, -, -, hX2, -, -, -, hD2, hA2, hL2, -⟩ := h2
  obtain ⟨-, hB3, -, hN3, -⟩ := h3
  obtain ⟨v, k, q⟩ := r
  dsimp only at h1 hc hF2 hX2 hD2 hA2 hL2 hN3 ⊢
  subst h1 hc
  have a2 := A.2.2.2.2.2.2.2.2.1
  unfold g_X7_close g_X1_cut
  rw [cg A.1, cg A.2.1, cg A.1, ec_greatestTop A hB hF (RX_RH hB hX) hA hL hD, zb_s, cg A.1, cg A.1, cg A.2.1, cg a2, hF.1, hF.2, hB.2.1.1, hB.2.2.1.1, hn, cg hj, hr, zg1_s, if_neg (by decide), cg A.1, cg A.1, ec_topsInAll A hB2 hF2 (RX_RH hB2 hX2) hA2 hL2 hD2, zb_s, cg a2, cg A.1, cg a2, cg A.1, cg A.2.2.2.2.1, ec_add A hB3 hN3.1 h9 (by decide), zg1_s]
theorem em_close {s j mt n : Nat} {r : Int32 × zzM × zzN} (hB : Bd μ s) (hVb : Vb μ ν H s) (hH : H ≤ 100000000) (hj : j < 4) (hn : tMax μ ν s + 10 * Int32.ofNat (nR μ s) = Int32.ofNat n) (hr : zz_it (fun s1 : (Int32 × Int32 × zzM × zzN) => g_X10_cover_173 (Int32.ofNat s) (Int32.ofNat j) (Int32.ofNat mt) (Int32.ofNat n) s1.1 s1.2.1 s1.2.2.1 s1.2.2.2) zz_F (μ 171 j, (0 : Int32), μ, ν) = some r) : zz_it (fun s1 : (Int32 × Int32) => g_X10_cover_95 (Int32.ofNat s) (Int32.ofNat j) (Int32.ofNat mt) s1.1 s1.2 μ ν) zz_F ((0 : Int32), (0 : Int32)) = some r := by
  have hs := hB.1
  have hc6 := hB.2.1.2.2
  refine em_greatest hB (Vb_Dn hVb hH) ?_
  unfold g_X10_cover_95
  rw [gi1 hs, hB.2.1.1, if_pos (ple (by omega)), gi2 hs, hB.2.2.1.1, gi171 hj, hn, hr]
  rfl
theorem op_cover (R : RR lv κ νc μ ν H nS nB nK) (x1 x2 x3 : Int32) : Op1 lv H nS nB nK cd_cover (g_X9_cover lv 0 x1 x2 x3 κ νc) (g_X10_cover x1 x2 x3 μ ν) := by
  have r0 := R.1.1
  have h30 := R.1.2.2.2.2.2.1
  have h32 := R.1.2.2.2.2.2.2.2
  have h4 := R.1.2.1
  have k4 := R.1.2.2.2.1
  have hHH := R.1.2.2.2.2.1
  unfold g_X9_cover g_X10_cover g_X10_cover_23 g_X10_cover_28 g_X10_cover_57 g_X10_cover_80 g_X10_cover_87
  rcases ix_cases x1 nS (by omega) with h | ⟨s, hs, rfl⟩
  · exact Op1_e R (by rw [cg r0, ec_seatOf1 R h, zth_r]) (by rw [em_noSeat1 h30 (by omega) h, zb_s, if_neg (by decide), em_th1, zg1_s, if_neg (by decide)]) rfl (by decide)
  rw [cg r0, ec_seatOf0 R hs, zth_l, em_noSeat0 h30 (by omega) hs, zb_s, if_pos rfl, h32, em_isIn, zb_s]
  rcases ix_cases x2 nK (by omega) with h | ⟨j, hj, rfl⟩
  · refine Op1_e R (by rw [cg r0, ec_clothOf1 R h, zth_r]) (v := 0) (t := 1) ?_ rfl (by decide)
    rcases h with h | ⟨q1, q2⟩
    · rw [if_pos h, if_pos rfl, em_th1, zg1_s, if_neg (by decide)]
    · rw [if_neg q1, if_pos (show Int32.ofNat nK - 1 < x2 by rw [on_pl _ _ (by omega)]; exact q2), if_pos rfl, em_th1, zg1_s, if_neg (by decide)]
  have n1 : ¬ Int32.ofNat j < 0 := nlt (b := 0) (by omega)
  have n2 : ¬ Int32.ofNat nK - 1 < Int32.ofNat j := by
    rw [on_pl _ _ (by omega)]
    exact fun q => q (plt (by omega))
  rw [cg r0, ec_clothOf0 R hj, zth_l, if_neg n1, if_neg n2, if_neg (by decide), em_th0, zg1_s, if_pos rfl]
  have R1 := RR_t 0 R
  have z1 : zset μ 0 33 0 0 33 = 0 := zset_h
  clear R h30 h32
  generalize zset μ 0 33 0 = m1 at R1 z1 ⊢
  have hs4 : s < 4 := by omega
  have hj4 : j < 4 := by omega
  have Q1 := R1.2.2.1 s hs
  have hK := R1.2.2.2.2.2.2.1 j hj
  obtain ⟨A, hB, hF, hN, ⟨sg, hG⟩, ⟨t, b, c, hV, hz⟩, hX, hO, hM, hT, hD, hA, hL, hVb, hC, hP⟩ := id Q1
  obtain ⟨w1, ⟨w2, w2', w3⟩, ⟨w4, w4', w5, w6⟩, ⟨w7, w7', w8⟩, ⟨w9, w9', w10⟩, w11⟩ := id hK
  rw [cg w1.1, w4, w4', gi170 hj4, w4', em_isIn, zb_s]
  rcases ix_cases x3 (cR m1 j) (by omega) with h | ⟨mt, hmt, rfl⟩
  · have h' : x3 < 0 ∨ (¬ x3 < 0 ∧ Int32.ofNat (cR m1 j) - 1 < x3) := by
      rw [on_pl _ _ (by omega)]
      exact h
    refine Op1_e R1 (by rw [ec_ra1 h', zth_r]) (v := 0) (t := 2) ?_ rfl (by decide)
    rcases h with h | ⟨q1, q2⟩
    · rw [if_pos h, if_pos rfl, em_th1, zg1_s, if_neg (by decide)]
    · rw [if_neg q1, if_pos (show Int32.ofNat (cR m1 j) - 1 < x3 by rw [on_pl _ _ (by omega)]; exact q2), if_pos rfl, em_th1, zg1_s, if_neg (by decide)]
  have n3 : ¬ Int32.ofNat mt < 0 := nlt (b := 0) (by omega)
  have n4 : ¬ Int32.ofNat (cR m1 j) - 1 < Int32.ofNat mt := by
    rw [on_pl _ _ (by omega)]
    exact fun q => q (plt (by omega))
  rw [ec_ra0 ⟨n3, n4⟩, zth_l, if_neg n3, if_neg n4, if_neg (by decide), em_thz _ z1, zg1_s, if_pos rfl]
  rcases nx_cases (νc := νc) (ν := ν) A hB hN hV hG (a := 99) (by decide) with ⟨e1, e2⟩ | ⟨e1, e2, e3, rfl⟩
  · exact Op1_e R1 (by rw [e1, zth_r]) (by rw [e2, zb_s, if_pos rfl, em_th1, zg1_s, if_neg (by decide)]) rfl (by decide)
  rw [e1, zth_l, e2, zb_s, if_neg (by decide), em_thz _ z1, zg1_s, if_pos rfl, cg A.1]
  have hsh : nD m1 s = 2 + t + nL m1 s + b ∧ 1 ≤ nL m1 s ∧ c = 0 := by
    rcases can99 e3 with h | h
    · rcases shape hV hB (n := 108) h (by decide) (by decide) with ⟨h, -⟩ | ⟨h, -⟩ | ⟨h, -⟩ | ⟨-, h⟩ | ⟨h, -⟩ | ⟨h, -⟩ <;> omega
    · rcases shape hV hB (n := 98) h (by decide) (by decide) with ⟨h, -⟩ | ⟨h, -⟩ | ⟨h, -⟩ | ⟨h, -⟩ | ⟨-, h⟩ | ⟨h, -⟩ <;> omega
  obtain ⟨hn, hl1, rfl⟩ := hsh
  have hl4 := hB.2.2.2.2.2
  have vt := hV.1
  have vb := hV.2.1
  have h9 : nD m1 s < 9 := by omega
  have n99 : ¬ tLast m1 s = 99 := not99 hV hB rfl
  have hCT : CT lv κ νc m1 ν H (100 * (s + 1)) s (nD m1 s) t b 0 := ⟨A, hB, hF, hN, hG, hV, hz, hX, hO, hM, hT, hD, hA, hL, hVb, hP⟩
  obtain ⟨n, hn1, hn2, hn3⟩ := len_e hB hVb hHH
  obtain ⟨r, r', l1, l2, p1, p2, p3⟩ := cutting (lv := lv) (κ := κ) (νc := νc) (μ := m1) (ν := ν) (mt := mt) (n := n) (by omega) hj4 hCT hHH hK hmt hn1 hC.1 z1 h9
  rw [em_close hB hVb hHH hj4 hn3 l2]
  rcases p3 with ⟨f1, f2, i, f, m, f3, f4⟩ | ⟨f1, f, k, m, f3, f4, f5, f6⟩
  · rw [ec_close0 hCT w1.1 hn2 l1 f1, zg1_s, if_pos rfl, p1]
    obtain ⟨v', μ', ν'⟩ := r'
    obtain ⟨v, κ', q⟩ := r
    dsimp only at p1 p2 f1 f2 f3 f4 ⊢
    subst p1 p2 f1 f2 f4
    obtain ⟨b1, b2, b3, b4, b5, b6⟩ := f3
    obtain ⟨⟨A2, hB2, hF2, hN2, hG2, hV2, hz2, hX2, hO2, hM2, hT2, hD2, hA2, hL2, hVb2, hP2⟩, -⟩ := cov_tr (κ' := κ') (μ' := m) (by omega) hj4 (fun o _ h _ => b1 o h) (fun o i h1 _ _ _ _ => by rw [b2 o h1]) hCT
    have et : tLast m s = tLast m1 s := tLast_c (by rw [b2 _ (by omega)]) (fun i => by rw [b2 _ (by omega)])
    have RRm : RR lv κ' q m ν' H nS nB nK := by
      refine RR_seat2 hs (fun o ho => b1 o (by unfold FK at ho; omega)) (fun o ho => rfl) (fun o i ho => by rw [b2 o (by unfold FP at ho; omega)]) (fun o ho => rfl) (Int.le_refl _) hHH R1 ⟨A2, hB2, hF2, hN2, ⟨_, hG2⟩, ⟨t, b, 0, hV2, hz2⟩, hX2, hO2, hM2, hT2, hD2, hA2, hL2, hVb2, ?_, hP2⟩ (Or.inl (by rw [et]; exact n99))
      unfold RC at hC ⊢
      rw [et, b1 (100 * (s + 1) + 8) (by omega), b2 143 (by omega), b2 145 (by omega), b2 144 (by omega), b2 1 (by omega)]
      exact ⟨b3, hC.2⟩
    exact ⟨_, _, _, _, _, _, rfl, rfl, RR_t 4 RRm, Or.inr ⟨4, rfl, by rw [zset_h]; rfl, by rw [zset_h]; decide⟩⟩
  · obtain ⟨v', μ', ν'⟩ := r'
    obtain ⟨v, κr, q⟩ := r
    dsimp only at p1 p2 f1 f4 f5 f6 ⊢
    subst p1 p2 f1 f5
    obtain ⟨b1, b2, b3, b4, b5, b6⟩ := id f3
    have kc : ∀ o, o ≠ 100 * (s + 1) + 8 → o ≠ 700 + j → kCut k (100 * (s + 1)) j mt (nC m1 s) n f o = k o := fun o h1 h2 => by
      unfold kCut
      rw [zset_o h1, zset_o h1, zset_o h1, zset_o h1, zset_o h2]
    have h2 : CT lv κr q (mCu3 m s j n f) ν' H (100 * (s + 1)) s (nD m1 s) t b 0 := (cov_tr (κ' := κr) (μ' := mCu3 m s j n f) (j := j) (by omega) hj4 (fun o h1 h2 h3 => by rw [f4, kc o h1 h3, b1 o h2]) (fun o i h1 h2 h3 h4 h5 => mCu3_o b2 h1 h2 h3 h4) hCT).1
    obtain ⟨T, hT0⟩ : ∃ T, T = tSum (mCu3 m s j n f) s (tTop (mCu3 m s j n f) ν' s) := ⟨_, rfl⟩
    have mc : ∀ o i, o ≠ 145 → mCut m ν' s j n f o i = mCu3 m s j n f o i := fun o i h => by
      unfold mCut
      rw [zset_e (by omega)]
    have m145 : mCut m ν' s j n f 145 s = T := by unfold mCut; rw [zset_h, hT0]
    obtain ⟨KB, hKB⟩ : ∃ KB, KB = zset (zset κr (100 * (s + 1) + 8) 5 T) (100 * (s + 1) + 8) 6 0 := ⟨_, rfl⟩
    have kb : ∀ o, o ≠ 100 * (s + 1) + 8 → o ≠ 700 + j → KB o = k o := fun o h1 h2 => by
      rw [hKB, zset_o h1, zset_o h1, f4, kc o h1 h2]
    have kj : KB (700 + j) = zset κ (700 + j) 4 (Int32.ofNat f) (700 + j) := by
      rw [hKB, zset_o (by omega), zset_o (by omega), f4]
      unfold kCut
      rw [zset_o (by omega), zset_o (by omega), zset_o (by omega), zset_o (by omega)]
      funext i
      by_cases g : i = 4
      · rw [g, zset_h, zset_h]
      · rw [zset_e (by omega), zset_e (by omega), b1 _ (by omega)]
    have k8 : KB (100 * (s + 1) + 8) 1 = Int32.ofNat (nC m1 s) ∧ KB (100 * (s + 1) + 8) 2 = Int32.ofNat n ∧ KB (100 * (s + 1) + 8) 3 = Int32.ofNat (j + 1) ∧ KB (100 * (s + 1) + 8) 4 = Int32.ofNat mt ∧ KB (100 * (s + 1) + 8) 5 = T ∧ KB (100 * (s + 1) + 8) 6 = 0 := by
      rw [hKB, f4]
      unfold kCut
      refine ⟨?_, ?_, ?_, ?_, ?_, ?_⟩
      · rw [zset_e (by omega), zset_e (by omega), zset_e (by omega), zset_h]
      · rw [zset_e (by omega), zset_e (by omega), zset_h]
      · rw [zset_e (by omega), zset_e (by omega), zset_e (by omega), zset_e (by omega), zset_e (by omega), zset_h]
      · rw [zset_e (by omega), zset_e (by omega), zset_e (by omega), zset_e (by omega), zset_h]
      · rw [zset_e (by omega), zset_h]
      · rw [zset_h]
    obtain ⟨hCT3, c1, c2, c3, c4⟩ := cov_tr (κ' := KB) (νc := q) (ν := ν') (μ' := mCut m ν' s j n f) (j := j) (by omega) hj4 (fun o h1 h2 h3 => by rw [kb o h1 h3, b1 o h2]) (fun o i h1 h2 h3 h4 h5 => by rw [mc o i h5]; exact mCu3_o b2 h1 h2 h3 h4) hCT
    have h9' : nD (mCut m ν' s j n f) s < 9 := by omega
    have ecl := ec_close1 (r := (1, κr, q)) (m := mCu3 m s j n f) (μ' := mCut m ν' s j n f) hCT w1.1 hn2 l1 rfl rfl h2 (by rw [← hT0, ← hKB]; exact hCT3) h9'
    dsimp only at ecl
    rw [← hT0, ← hKB] at ecl
    rw [ecl, zg1_s, if_neg (by decide), cg w1.1, f6]
    obtain ⟨M, hM0⟩ : ∃ M, M = mCut m ν' s j n f := ⟨_, rfl⟩
    have mm : ∀ o i, o ≠ 139 + s → o ≠ 171 → o ≠ 143 → o ≠ 144 → o ≠ 145 → M o i = m1 o i := fun o i h1 h2 h3 h4 h5 => by
      rw [hM0, mc o i h5]
      exact mCu3_o b2 h1 h2 h3 h4
    have m139 : ∀ i, M (139 + s) i = m (139 + s) i := fun i => by
      rw [hM0, mc _ _ (by omega)]
      unfold mCu3
      rw [zset_e (by omega), zset_e (by omega), zset_e (by omega)]
    have m171 : M 171 j = Int32.ofNat f := by
      rw [hM0, mc _ _ (by omega)]
      unfold mCu3
      rw [zset_e (by omega), zset_e (by omega), zset_h]
    have m143 : M 143 s = Int32.ofNat n := by
      rw [hM0, mc _ _ (by omega)]
      unfold mCu3
      rw [zset_e (by omega), zset_h]
    have m144 : M 144 s = 0 := by
      rw [hM0, mc _ _ (by omega)]
      unfold mCu3
      rw [zset_h]
    have mo : ∀ o i, ¬ FP s o i → M o i = zset m1 171 j (Int32.ofNat f) o i := fun o i ho => by
      unfold FP at ho
      by_cases g : o = 171 ∧ i = j
      · rw [g.1, g.2, m171, zset_h]
      · rw [zset_e g, hM0]
        unfold mCut mCu3
        rw [zset_e (by omega), zset_e (by omega), zset_e (by omega), zset_e g, b2 _ (by omega)]
    rw [← hM0] at m145 hCT3 c1 c2 c3 c4 h9' ⊢
    obtain ⟨A3, hB3, hF3, hN3, hG3, hV3, hz3, hX3, hO3, hM3, hT3, hD3, hA3, hL3, hVb3, hP3⟩ := hCT3
    have me : ∀ o i, o ≠ 3 → ¬ (5 ≤ o ∧ o < 14) → mDone M s 99 o i = M o i := fun o i h1 h2 => mDone_e (by omega) (by omega) (by omega)
    have tl : tLast (mDone M s 99) s = 99 := tLast_done h9'
    obtain ⟨-, -, eC', -, -⟩ := mDone_f (μ := M) (s := s) (a := 99) h9'
    have RRc := RR_cut (f := f) hj b4 b5 R1
    have hLt : 99 = Lt t (nL m1 s) b (nD M s) := by
      have := Lt_cases t (nL m1 s) b (nD M s)
      omega
    have Qf : RS lv (kAdd KB (100 * (s + 1)) (nD M s) 99) q (mDone M s 99) ν' H (100 * (s + 1)) s := by
      refine RS_done2 (t := t) (b := b) (c := 1) A3 hB3 h9' (by omega) hF3 hN3 (by rw [c3]; exact hG3) ?_ ?_ hX3 hO3 hM3 hT3 hD3 hA3 hL3 hVb3 ?_ hP3
      · exact Lv_done (t := 0) (b := 0) (c := 0) (t' := t) (l' := nL m1 s) (b' := b) (c' := 1) (a := 99) hs4 hB3 h9' (fun k hk => by
          have := hV3.2.2.2.2.2.2 k hk
          rw [c4] at this
          exact this) c4 vt vb (by omega) (by omega) (by omega) (fun _ => hl1) hLt
      · intro h0 g k hk
        rw [me _ _ (by omega) (by omega), me _ _ (by omega) (by omega)]
        exact hz3 h0 (by rw [n_le1 hB3]; omega) k hk
      · refine ⟨fun k hk => ?_, ?_, ?_, ?_, ?_, fun h => absurd tl h⟩
        · rw [kb _ (by omega) (by omega), me _ _ (by omega) (by omega), m139]
          exact b3 k hk
        · rw [me _ _ (by omega) (by omega), m143]
          exact k8.2.1
        · rw [me _ _ (by omega) (by omega), m145]
          exact k8.2.2.2.2.1
        · rw [me _ _ (by omega) (by omega), m144]
          exact k8.2.2.2.2.2
        · rw [if_pos tl, me _ _ (by omega) (by omega), mm _ _ (by omega) (by omega) (by omega) (by omega) (by omega), hB.2.1.1]
          exact k8.1
    have eR : cR (mDone M s 99) j = cR m1 j := by
      unfold cR
      rw [me _ _ (by omega) (by omega), mm _ _ (by omega) (by omega) (by omega) (by omega) (by omega)]
    have eU : cU (mDone M s 99) j = f := by
      unfold cU
      rw [me _ _ (by omega) (by omega), m171, on_n _ (by omega)]
    have eF : cF (mDone M s 99) j = cF m1 j := by
      unfold cF
      rw [me _ _ (by omega) (by omega), mm _ _ (by omega) (by omega) (by omega) (by omega) (by omega)]
    have eFl : ∀ i, fL (mDone M s 99) j i = fL m1 j i := fun i => by
      unfold fL
      rw [me _ _ (by omega) (by omega), mm _ _ (by omega) (by omega) (by omega) (by omega) (by omega)]
    have ePL : pL (mDone M s 99) s = n := by
      unfold pL
      rw [me _ _ (by omega) (by omega), m143, on_n _ (by omega)]
    have ePN : ∀ k, pN (mDone M s 99) s k = pN m s k := fun k => by
      unfold pN
      rw [me _ _ (by omega) (by omega), m139]
    have eCC : nC (mDone M s 99) s = nC m1 s := eC'.trans c1
    have kf : ∀ o, ¬ FK (100 * (s + 1)) o → kAdd KB (100 * (s + 1)) (nD M s) 99 o = zset κ (700 + j) 4 (Int32.ofNat f) o := fun o ho => by
      unfold FK at ho
      rw [kAdd_o (by omega) (by omega)]
      by_cases g : o = 700 + j
      · rw [g]
        exact kj
      · rw [kb o (by omega) g, b1 o (by omega), zset_o g]
    have k8f : kAdd KB (100 * (s + 1)) (nD M s) 99 (100 * (s + 1) + 8) = KB (100 * (s + 1) + 8) := kAdd_o (by omega) (by omega)
    have RRf : RR lv (kAdd KB (100 * (s + 1)) (nD M s) 99) q (mDone M s 99) ν' H nS nB nK := by
      refine RR_seat hs kf (fun o _ => rfl) (fun o i ho => ?_) (fun o _ => rfl) (Int.le_refl _) hHH RRc Qf ?_ (fun u hu hne => ?_)
      · rw [mDone_e (by unfold FP at ho; omega) (by unfold FP at ho; omega) (by unfold FP at ho; omega)]
        exact mo o i ho
      · intro _
        refine ⟨j, mt, hj, by rw [k8f]; exact k8.2.2.1, by rw [k8f]; exact k8.2.2.2.1, by rw [eR]; exact hmt, by rw [ePL, me _ _ (by omega) (by omega)]; exact m143, by rw [ePL]; exact hn1, fun k hk => ?_⟩
        rw [eCC] at hk
        obtain ⟨g1, g2, g3, g4, g5, g6⟩ := b6 k hk
        rw [eR, eU, ePL, ePN k, me _ _ (by omega) (by omega), m139]
        refine ⟨g1, g2, g4, fun i hi => by rw [eFl]; exact g5 i (by rw [eF] at hi; exact hi), fun k' hk' => by rw [ePN]; exact g6 k' hk'⟩
      · have mu : ∀ o i, FP u o i → mDone M s 99 o i = m1 o i := fun o i hf => by
          rw [mDone_e (by unfold FP at hf; omega) (by unfold FP at hf; omega) (by unfold FP at hf; omega), mo _ _ (by unfold FP at hf ⊢; omega), zset_e (by unfold FP at hf; omega)]
        have lu : tLast (mDone M s 99) u = tLast m1 u := tLast_m (ν := ν') (ν' := ν') ⟨mu, fun _ => rfl⟩
        have ku : kAdd KB (100 * (s + 1)) (nD M s) 99 (100 * (u + 1) + 8) = κ (100 * (u + 1) + 8) := by
          rw [kf _ (by unfold FK; omega), zset_o (by omega)]
        have pu : ∀ k, pN (mDone M s 99) u k = pN m1 u k := fun k => by
          unfold pN
          rw [mu _ _ (by unfold FP; omega)]
        have pl : pL (mDone M s 99) u = pL m1 u := by
          unfold pL
          rw [mu _ _ (by unfold FP; omega)]
        have cu : nC (mDone M s 99) u = nC m1 u := by
          unfold nC
          rw [mu _ _ (by unfold FP; omega)]
        have key : tLast m1 u = 99 → κ (100 * (u + 1) + 8) 3 = Int32.ofNat (j + 1) → ∀ k1 k2, k1 < nC m1 s → k2 < nC m1 u → pN m1 u k2 + pL m1 u ≤ pN m s k1 := fun hu9 h3 k1 k2 hk1 hk2 => by
          obtain ⟨j2, mt2, hj2, y1, y2, y3, y4, y5, y6⟩ := R1.2.2.2.2.2.2.2.2.2.1 u hu hu9
          rw [y1] at h3
          have e := congrArg Int32.toNatClampNeg h3
          rw [on_n _ (by omega), on_n _ (by omega)] at e
          have e2 : j2 = j := by omega
          subst e2
          have g1 := (y6 k2 hk2).2.2.1
          have g2 := (b6 k1 hk1).2.2.1
          omega
        constructor
        · intro _ _ a3 a4 k1 k2 h1 h2
          rw [k8f, ku, k8.2.2.1] at a4
          rw [eCC] at h1
          rw [cu] at h2
          rw [lu] at a3
          rw [ePN, ePL, pu, pl]
          exact Or.inr (key a3 a4.symm k1 k2 h1 h2)
        · intro _ a3 _ a4 k1 k2 h1 h2
          rw [k8f, ku, k8.2.2.1] at a4
          rw [eCC] at h2
          rw [cu] at h1
          rw [lu] at a3
          rw [ePN, ePL, pu, pl]
          exact Or.inl (key a3 a4 k2 k1 h2 h1)
    refine Op1_v RRf ?_ ?_ rfl
    · rw [me _ _ (by omega) (by omega), mm _ _ (by omega) (by omega) (by omega) (by omega) (by omega)]
      exact z1
    · rw [kAdd_o (by omega) (by omega), kj, zset_h]
end ZWP2
