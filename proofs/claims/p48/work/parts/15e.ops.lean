section ZWE
/-! ties, buttons, springs, pulling and drawing -/
variable {lv : Nat → Bool} {κ κ' : zzM} {νc νc' : zzN} {μ μ' : zzM} {ν ν' : zzN} {H H' : Int} {nS nB nK : Nat}
theorem Lv_done {s t b c t' l' b' c' : Nat} {a : Nat} (hs : s < 4) (hB : Bd μ s) (h9 : nD μ s < 9) (hV : ∀ k, k < nD μ s → μ (5 + s) k = Int32.ofNat (Lt t' l' b' k)) (hl : nL μ s = l') (ht : t' ≤ 1) (hb : b' ≤ 1) (hc : c' ≤ 1) (h2 : 2 ≤ nD μ s + 1) (hn : nD μ s + 1 = 2 + t' + l' + b' + c') (h1 : 1 ≤ b' + c' → 1 ≤ l') (ha : a = Lt t' l' b' (nD μ s)) : Lv (mDone μ s (Int32.ofNat a)) s t' b' c' := by
  obtain ⟨e3, eD, eC, eR, eL⟩ := mDone_f (μ := μ) (s := s) (a := Int32.ofNat a) h9
  refine ⟨ht, hb, hc, fun q => ?_, fun q => ?_, fun q => ?_, fun k hk => ?_⟩
  · rw [eD] at q; omega
  · rw [eD, eL, hl]; exact hn
  · rw [eL, hl]; exact h1 q
  · rw [eD] at hk
    rw [eL, hl]
    by_cases g : k = nD μ s
    · rw [g]
      unfold mDone
      rw [zset_e (by omega), zset_e (by omega), zset_h, ha]
    · rw [mDone_e (by omega) (by omega) (by omega)]
      exact hV k (by omega)
theorem Lt_b {t l b b' k : Nat} (h : k < 2 + t + l) : Lt t l b k = Lt t l b' k := by
  unfold Lt
  by_cases h0 : k = 0
  · rw [if_pos h0, if_pos h0]
  · rw [if_neg h0, if_neg h0]
    by_cases h1 : k = 1
    · rw [if_pos h1, if_pos h1]
    · rw [if_neg h1, if_neg h1]
      by_cases h2 : k < 2 + t
      · rw [if_pos h2, if_pos h2]
      · rw [if_neg h2, if_neg h2, if_pos h, if_pos h]
theorem can98 {la : Int32} {l : Nat} (h : tCan la l 98 = true) : la = 108 := by simpa [tCan] using h
theorem can116 {la : Int32} {l : Nat} (h : tCan la l 116 = true) : la = 115 := by simpa [tCan] using h
theorem can115 {la : Int32} {l : Nat} (h : tCan la l 115 = true) : la = 119 := by simpa [tCan] using h
theorem op_buttons (R : RR lv κ νc μ ν H nS nB nK) (x1 : Int32) : Op1 lv H nS nB nK cd_buttons (g_X9_buttons lv 0 x1 κ νc) (g_X10_buttons x1 μ ν) := by
  have r0 := R.1.1
  have h30 := R.1.2.2.2.2.2.1
  have h4 := R.1.2.1
  have hHH := R.1.2.2.2.2.1
  unfold g_X9_buttons g_X10_buttons g_X10_buttons_29 g_X10_buttons_36 g_X10_buttons_47
  rcases ix_cases x1 nS (by omega) with h | ⟨s, hs, rfl⟩
  · exact Op1_e R (by rw [cg r0, ec_seatOf1 R h, zth_r]) (by rw [em_noSeat1 h30 (by omega) h, zb_s, em_th1, zg1_s, if_neg (by decide)]) rfl (by decide)
  rw [cg r0, ec_seatOf0 R hs, zth_l, em_noSeat0 h30 (by omega) hs, zb_s, em_th0, zg1_s, if_pos rfl]
  have R1 := RR_t 0 R
  have z1 : zset μ 0 33 0 0 33 = 0 := zset_h
  clear R h30
  generalize zset μ 0 33 0 = m1 at R1 z1 ⊢
  have hs4 : s < 4 := by omega
  have Q1 := R1.2.2.1 s hs
  obtain ⟨A, hB, hF, hN, ⟨sg, hG⟩, ⟨t, b, c, hV, hz⟩, hX, hO, hM, hT, hD, hA, hL, hVb, hC, hP⟩ := id Q1
  rcases nx_cases (νc := νc) (ν := ν) A hB hN hV hG (a := 98) (by decide) with ⟨e1, e2⟩ | ⟨e1, e2, e3, rfl⟩
  · exact Op1_e R1 (by rw [e1, zth_r]) (by rw [e2, zb_s, if_pos rfl, em_th1, zg1_s, if_neg (by decide)]) rfl (by decide)
  rw [e1, zth_l, e2, zb_s, if_neg (by decide), em_thz _ z1, zg1_s, if_pos rfl]
  have hsh : nD m1 s = 2 + t + nL m1 s ∧ 1 ≤ nL m1 s ∧ b = 0 ∧ c = 0 := by
    rcases shape hV hB (n := 108) (can98 e3) (by decide) (by decide) with ⟨h, -⟩ | ⟨h, -⟩ | ⟨h, -⟩ | ⟨-, h⟩ | ⟨h, -⟩ | ⟨h, -⟩
    · omega
    · omega
    · omega
    · exact h
    · omega
    · omega
  obtain ⟨hn, hl1, rfl, rfl⟩ := hsh
  have hl4 := hB.2.2.2.2.2
  have ht1 := hV.1
  have h9 : nD m1 s < 9 := by omega
  rw [em_done hB h9 (by decide), zg1_s, cg A.1, cg A.2.2.2.2.1, ec_add A hB hN.1 h9 (by decide), zg1_s]
  have hLt : 98 = Lt t (nL m1 s) 1 (nD m1 s) := by
    rcases Lt_cases t (nL m1 s) 1 (nD m1 s) with h | h | h | h | h | h <;> omega
  refine Op1_v (RR_seat2 hs (fun o ho => kAdd_o (by unfold FK at ho; omega) (by unfold FK at ho; omega)) (fun o ho => rfl) (fun o i ho => mDone_e (by unfold FP at ho; omega) (by unfold FP at ho; omega) (by unfold FP at ho; omega)) (fun o ho => rfl) (Int.le_refl _) hHH R1 (RS_done2 (t := t) (b := 1) (c := 0) A hB h9 (by omega) hF hN hG ?_ ?_ hX hO hM hT hD hA hL hVb ?_ hP) (Or.inl ?_)) (by rw [mDone_e (by omega) (by omega) (by omega)]; exact z1) rfl rfl
  · exact Lv_done (t := t) (b := 0) (c := 0) (a := 98) hs4 hB h9 (fun k hk => by rw [hV.2.2.2.2.2.2 k hk, Lt_b (b' := 1) (by omega)]) rfl ht1 (by omega) (by omega) (by omega) (by omega) (fun _ => hl1) hLt
  · intro h0 g k hk
    have g2 : ¬ m1 3 s ≤ 1 := by rw [n_le1 hB]; omega
    rw [mDone_e (by omega) (by omega) (by omega), mDone_e (by omega) (by omega) (by omega)]
    exact hz h0 g2 k hk
  · exact RC_done hs4 h9 (not99 hV hB rfl) (by decide) hC
  · rw [tLast_done h9]
    decide
theorem op_tie (R : RR lv κ νc μ ν H nS nB nK) (x1 : Int32) : Op1 lv H nS nB nK cd_tie (g_X9_tie lv 0 x1 κ νc) (g_X10_tie x1 μ ν) := by
  have r0 := R.1.1
  have h30 := R.1.2.2.2.2.2.1
  have h4 := R.1.2.1
  have hHH := R.1.2.2.2.2.1
  unfold g_X9_tie g_X10_tie g_X10_tie_29 g_X10_tie_36
  rcases ix_cases x1 nS (by omega) with h | ⟨s, hs, rfl⟩
  · exact Op1_e R (by rw [cg r0, ec_seatOf1 R h, zth_r]) (by rw [em_noSeat1 h30 (by omega) h, zb_s, em_th1, zg1_s, if_neg (by decide)]) rfl (by decide)
  rw [cg r0, ec_seatOf0 R hs, zth_l, em_noSeat0 h30 (by omega) hs, zb_s, em_th0, zg1_s, if_pos rfl]
  have R1 := RR_t 0 R
  have z1 : zset μ 0 33 0 0 33 = 0 := zset_h
  clear R h30
  generalize zset μ 0 33 0 = m1 at R1 z1 ⊢
  have hs4 : s < 4 := by omega
  have Q1 := R1.2.2.1 s hs
  obtain ⟨A, hB, hF, hN, ⟨sg, hG⟩, ⟨t, b, c, hV, hz⟩, hX, hO, hM, hT, hD, hA, hL, hVb, hC, hP⟩ := id Q1
  rcases nx_cases (νc := νc) (ν := ν) A hB hN hV hG (a := 116) (by decide) with ⟨e1, e2⟩ | ⟨e1, e2, e3, rfl⟩
  · exact Op1_e R1 (by rw [e1, zth_r]) (by rw [e2, zb_s, if_pos rfl, em_th1, zg1_s, if_neg (by decide)]) rfl (by decide)
  rw [e1, zth_l, e2, zb_s, if_neg (by decide), em_thz _ z1, zg1_s, if_pos rfl]
  have hsh : nD m1 s = 2 ∧ t = 0 ∧ nL m1 s = 0 ∧ b = 0 ∧ c = 0 := by
    rcases shape hV hB (n := 115) (can116 e3) (by decide) (by decide) with ⟨h, -⟩ | ⟨-, h⟩ | ⟨h, -⟩ | ⟨h, -⟩ | ⟨h, -⟩ | ⟨h, -⟩
    · omega
    · exact h
    · omega
    · omega
    · omega
    · omega
  obtain ⟨hn, rfl, hl0, rfl, rfl⟩ := hsh
  rw [em_loosen hs4, zg1_s]
  have f1 : ¬ m1 3 s ≤ 1 := by rw [n_le1 hB]; omega
  -- the ties were loose already
  have hM0 : mLoos m1 s 6 = fun o i => if (o = 74 + s ∨ o = 79 + s) ∧ i < 6 then 99 else m1 o i := rfl
  obtain ⟨M, hM'⟩ : ∃ M, M = mLoos m1 s 6 := ⟨_, rfl⟩
  have mm : ∀ o i, o ≠ 74 + s → o ≠ 79 + s → M o i = m1 o i := fun o i h1 h2 => by rw [hM', mLoos_o h1 h2]
  have mt : ∀ o i, i < 6 → M o i = m1 o i := fun o i hi => by
    by_cases g : o = 74 + s
    · rw [hM', g]
      show (if (74 + s = 74 + s ∨ 74 + s = 79 + s) ∧ i < 6 then 99 else m1 (74 + s) i) = _
      rw [if_pos ⟨Or.inl rfl, hi⟩, (hz rfl f1 i hi).1]
    · by_cases g2 : o = 79 + s
      · rw [hM', g2]
        show (if (79 + s = 74 + s ∨ 79 + s = 79 + s) ∧ i < 6 then 99 else m1 (79 + s) i) = _
        rw [if_pos ⟨Or.inr rfl, hi⟩, (hz rfl f1 i hi).2]
      · exact mm o i g g2
  rw [← hM']
  clear hM' hM0
  obtain ⟨hB', c1, c2, c3, c4⟩ := Bd_of (μ' := M) (mm 1 s (by omega) (by omega)) (mm 2 s (by omega) (by omega)) (mm 3 s (by omega) (by omega)) (mm 83 s (by omega) (by omega)) hB
  have h9 : nD M s < 9 := by omega
  have hNM : RN κ M (100 * (s + 1)) s := by
    unfold RN
    rw [c3, mm 3 s (by omega) (by omega)]
    exact ⟨hN.1, fun k hk => by rw [mm _ _ (by omega) (by omega)]; exact hN.2 k hk⟩
  rw [em_done hB' h9 (by decide), zg1_s, cg A.1, cg A.2.2.2.2.1, ec_add A hB' hNM.1 h9 (by decide), zg1_s]
  have hLt : 116 = Lt 1 0 0 (nD M s) := by rw [c3, hn]; rfl
  refine Op1_v (RR_seat2 hs (fun o ho => kAdd_o (by unfold FK at ho; omega) (by unfold FK at ho; omega)) (fun o ho => rfl) (fun o i ho => by rw [mDone_e (by unfold FP at ho; omega) (by unfold FP at ho; omega) (by unfold FP at ho; omega), mm _ _ (by unfold FP at ho; omega) (by unfold FP at ho; omega)]) (fun o ho => rfl) (Int.le_refl _) hHH R1 (RS_done2 (t := 1) (b := 0) (c := 0) A hB' h9 (by omega) ?_ hNM ?_ ?_ ?_ ?_ ?_ ?_ ?_ ?_ ?_ ?_ ?_ ?_ ?_) (Or.inl ?_)) (by rw [mDone_e (by omega) (by omega) (by omega), mm _ _ (by omega) (by omega)]; exact z1) rfl rfl
  · unfold RF
    rw [mm _ _ (by omega) (by omega), mm _ _ (by omega) (by omega)]
    exact hF
  · unfold RG at hG ⊢
    rw [c3]
    exact ⟨hG.1, hG.2.1, fun k hk => by rw [mm _ _ (by omega) (by omega)]; exact hG.2.2 k hk⟩
  · exact Lv_done (t := 0) (b := 0) (c := 0) (a := 116) hs4 hB' h9 (fun k hk => by
      rw [mm _ _ (by omega) (by omega), hV.2.2.2.2.2.2 k (by omega), hl0]
      rw [c3, hn] at hk
      have : k = 0 ∨ k = 1 := by omega
      rcases this with rfl | rfl <;> rfl) (by rw [c4, hl0]) (by omega) (by omega) (by omega) (by omega) (by omega) (fun q => by omega) hLt
  · intro h0
    omega
  · have hc6 := hB.2.1.2.2
    have hr6 := hB.2.2.1.2.2
    unfold RX
    rw [c1, c2, mm 3 s (by omega) (by omega)]
    refine ⟨fun x y hx hy => ?_, fun k hk => ?_⟩
    · rw [mm _ _ (by omega) (by omega)]; exact hX.1 x y hx hy
    · rw [mt _ _ hk, mt _ _ hk]; exact hX.2 k hk
  · unfold RO
    rw [c1, c2, mm 3 s (by omega) (by omega), tDr_c (μ := m1) (fun x y hx hy => mt _ _ hy)]
    refine ⟨fun g k hk => ?_, fun x y hx hy => ?_, hO.2.2⟩
    · rw [mt _ _ hk, mt _ _ hk]; exact hO.1 g k hk
    · rw [mt _ _ hy]; exact hO.2.1 x y hx hy
  · exact RM_c hB c1 c2 (mm _ _ (by omega) (by omega)) rfl (fun o i h => mm _ _ (by omega) (by omega)) hM
  · exact RT_c (μ := m1) (mm _ _ (by omega) (by omega)) rfl (mm _ _ (by omega) (by omega)) hT
  · exact RD_c rfl (fun o i h => mm _ _ (by omega) (by omega)) hD
  · unfold Al at hA ⊢
    rw [c4, mm 83 s (by omega) (by omega)]
    exact hA
  · exact RLa_c hB c4 (fun o h1 h2 => ⟨rfl, rfl⟩) (fun o i h => mm _ _ (by omega) (by omega)) (fun i => rfl) hL
  · obtain ⟨v1, v2, v3, v4, v5⟩ := hVb
    unfold Vb
    rw [c4, mm 3 s (by omega) (by omega), mm 14 s (by omega) (by omega)]
    refine ⟨fun g x y hx hy => ?_, fun g k hk => ?_, v3, fun x y hx hy => ?_, fun l hl => ?_⟩
    · rw [mm _ _ (by omega) (by omega), mm _ _ (by omega) (by omega)]; exact v1 g x y hx hy
    · rw [mt _ _ hk, mt _ _ hk]; exact v2 g k hk
    · rw [mm _ _ (by omega) (by omega)]; exact v4 x y hx hy
    · rw [mm _ _ (by omega) (by omega), mm _ _ (by omega) (by omega), mm _ _ (by omega) (by omega), mm _ _ (by omega) (by omega)]; exact v5 l hl
  · refine RC_done hs4 h9 ?_ (by decide) (RC_c (μ := m1) (tLast_c (mm _ _ (by omega) (by omega)) (fun i => mm _ _ (by omega) (by omega))) rfl rfl (mm _ _ (by omega) (by omega)) (mm _ _ (by omega) (by omega)) (mm _ _ (by omega) (by omega)) (mm _ _ (by omega) (by omega)) (fun i => mm _ _ (by omega) (by omega)) hC)
    rw [tLast_c (μ := m1) (mm _ _ (by omega) (by omega)) (fun i => mm _ _ (by omega) (by omega))]
    exact not99 hV hB rfl
  · rw [mm _ _ (by omega) (by omega)]
    exact hP
  · rw [tLast_done h9]
    decide
end ZWE
