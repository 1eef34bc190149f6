section ZWB
/-! webs, springs, ties, buttons: steps more -/
variable {lv : Nat → Bool} {κ κ' : zzM} {νc νc' : zzN} {μ μ' : zzM} {ν ν' : zzN} {H H' : Int} {nS nB nK : Nat}
theorem Lt_cases (t l b k : Nat) : (k = 0 ∧ Lt t l b k = 119) ∨ (k = 1 ∧ Lt t l b k = 115) ∨ (2 ≤ k ∧ k < 2 + t ∧ Lt t l b k = 116) ∨ (2 ≤ k ∧ 2 + t ≤ k ∧ k < 2 + t + l ∧ Lt t l b k = 108) ∨ (2 ≤ k ∧ 2 + t + l ≤ k ∧ k < 2 + t + l + b ∧ Lt t l b k = 98) ∨ (2 ≤ k ∧ 2 + t + l + b ≤ k ∧ Lt t l b k = 99) := by
  unfold Lt
  by_cases h0 : k = 0
  · exact Or.inl ⟨h0, if_pos h0⟩
  · rw [if_neg h0]
    by_cases h1 : k = 1
    · exact Or.inr (Or.inl ⟨h1, if_pos h1⟩)
    · rw [if_neg h1]
      by_cases h2 : k < 2 + t
      · exact Or.inr (Or.inr (Or.inl ⟨by omega, h2, if_pos h2⟩))
      · rw [if_neg h2]
        by_cases h3 : k < 2 + t + l
        · exact Or.inr (Or.inr (Or.inr (Or.inl ⟨by omega, by omega, h3, if_pos h3⟩)))
        · rw [if_neg h3]
          by_cases h4 : k < 2 + t + l + b
          · exact Or.inr (Or.inr (Or.inr (Or.inr (Or.inl ⟨by omega, by omega, h4, if_pos h4⟩))))
          · exact Or.inr (Or.inr (Or.inr (Or.inr (Or.inr ⟨by omega, by omega, if_neg h4⟩))))
/-- the shape, by the last letter -/
theorem shape {s t b c n : Nat} (hV : Lv μ s t b c) (hB : Bd μ s) (h : tLast μ s = Int32.ofNat n) (hn : n ≤ 119) (h45 : n ≠ 45) : (n = 119 ∧ nD μ s = 1) ∨ (n = 115 ∧ nD μ s = 2 ∧ t = 0 ∧ nL μ s = 0 ∧ b = 0 ∧ c = 0) ∨ (n = 116 ∧ nD μ s = 3 ∧ t = 1 ∧ nL μ s = 0 ∧ b = 0 ∧ c = 0) ∨ (n = 108 ∧ nD μ s = 2 + t + nL μ s ∧ 1 ≤ nL μ s ∧ b = 0 ∧ c = 0) ∨ (n = 98 ∧ nD μ s = 3 + t + nL μ s ∧ 1 ≤ nL μ s ∧ b = 1 ∧ c = 0) ∨ (n = 99 ∧ nD μ s = 3 + t + nL μ s + b ∧ 1 ≤ nL μ s ∧ c = 1) := by
  obtain ⟨h1, h2⟩ := Lv_last hV hB hn h h45
  obtain ⟨v1, v2, v3, v4, v5, v6, v7⟩ := hV
  have n2 : 2 ≤ nD μ s - 1 → nD μ s = 2 + t + nL μ s + b + c := fun q => v5 (by omega)
  rcases Lt_cases t (nL μ s) b (nD μ s - 1) with ⟨a1, a2⟩ | ⟨a1, a2⟩ | ⟨a1, a3, a2⟩ | ⟨a1, a3, a4, a2⟩ | ⟨a1, a3, a4, a2⟩ | ⟨a1, a3, a2⟩
  · exact Or.inl ⟨by omega, by omega⟩
  · have := v5 (by omega)
    exact Or.inr (Or.inl ⟨by omega, by omega, by omega, by omega, by omega, by omega⟩)
  · have := n2 a1
    have hb : b + c = 0 := by
      refine Nat.eq_zero_of_not_pos fun q => ?_
      have := v6 q
      omega
    exact Or.inr (Or.inr (Or.inl ⟨by omega, by omega, by omega, by omega, by omega, by omega⟩))
  · have := n2 a1
    exact Or.inr (Or.inr (Or.inr (Or.inl ⟨by omega, by omega, by omega, by omega, by omega⟩)))
  · have := n2 a1
    have hv := v6 (by omega)
    exact Or.inr (Or.inr (Or.inr (Or.inr (Or.inl ⟨by omega, by omega, by omega, by omega, by omega⟩))))
  · have := n2 a1
    have hv := v6 (by omega)
    exact Or.inr (Or.inr (Or.inr (Or.inr (Or.inr ⟨by omega, by omega, by omega, by omega⟩))))
theorem last45 {s t b c : Nat} (hV : Lv μ s t b c) (h : tLast μ s = 45) : nD μ s = 0 := by
  refine Nat.eq_zero_of_not_pos fun g => ?_
  unfold tLast at h
  rw [if_neg (by omega), hV.2.2.2.2.2.2 _ (by omega)] at h
  have h2 : Lt t (nL μ s) b (nD μ s - 1) = 45 := Eq.mp (on_eq _ 45 (by have := Lt_le t (nL μ s) b (nD μ s - 1); omega) (by decide)) h
  rcases Lt_cases t (nL μ s) b (nD μ s - 1) with ⟨a1, a2⟩ | ⟨a1, a2⟩ | ⟨a1, a3, a2⟩ | ⟨a1, a3, a4, a2⟩ | ⟨a1, a3, a4, a2⟩ | ⟨a1, a3, a2⟩ <;> omega
theorem not99 {s t b c : Nat} (hV : Lv μ s t b c) (hB : Bd μ s) (h : c = 0) : ¬ tLast μ s = 99 := by
  intro q
  rcases shape hV hB (n := 99) q (by decide) (by decide) with ⟨h, -⟩ | ⟨h, -⟩ | ⟨h, -⟩ | ⟨h, -⟩ | ⟨h, -⟩ | ⟨-, -, -, h2⟩ <;> omega
theorem tLast_z {s o i : Nat} {v : Int32} (ho : o ≠ 3 ∧ o ≠ 5 + s) : tLast (zset μ o i v) s = tLast μ s := by
  unfold tLast nD
  rw [zset_o (show 3 ≠ o by omega), zset_o (show 5 + s ≠ o by omega)]
theorem Lv_t {s t b c : Nat} (hs : s < 4) (h : Lv μ s t b c) {o i : Nat} {v : Int32} (ho : o ≠ 3 ∧ o ≠ 83 ∧ o ≠ 5 + s) : Lv (zset μ o i v) s t b c := by
  have e3 : nD (zset μ o i v) s = nD μ s := by unfold nD; rw [zset_o (by omega)]
  have e83 : nL (zset μ o i v) s = nL μ s := by unfold nL; rw [zset_o (by omega)]
  unfold Lv
  rw [e3, e83, zset_o (by omega)]
  exact h
theorem op_web (R : RR lv κ νc μ ν H nS nB nK) (x1 x2 : Int32) : Op1 lv H nS nB nK cd_web (g_X9_web lv 0 x1 x2 κ νc) (g_X10_web x1 x2 μ ν) := by
  have r0 := R.1.1
  have h30 := R.1.2.2.2.2.2.1
  have h4 := R.1.2.1
  have hHH := R.1.2.2.2.2.1
  unfold g_X9_web g_X10_web g_X10_web_29 g_X10_web_52 g_X10_web_59
  rcases ix_cases x1 nS (by omega) with h | ⟨s, hs, rfl⟩
  · exact Op1_e R (by rw [cg r0, ec_seatOf1 R h, zth_r]) (by rw [em_noSeat1 h30 (by omega) h, zb_s, em_th1, zg1_s, if_neg (by decide)]) rfl (by decide)
  rw [cg r0, ec_seatOf0 R hs, zth_l, em_noSeat0 h30 (by omega) hs, zb_s, em_th0, zg1_s, if_pos rfl]
  have R1 := RR_t 0 R
  have z1 : zset μ 0 33 0 0 33 = 0 := zset_h
  clear R h30
  generalize zset μ 0 33 0 = m1 at R1 z1 ⊢
  have hs4 : s < 4 := by omega
  rcases ra_cases x2 1 9 with h | hr
  · exact Op1_e R1 (by rw [ec_ra1 h, zth_r]) (by rw [em_ra1 h, zb_s, if_pos rfl, em_th1, zg1_s, if_neg (by decide)]) rfl (by decide)
  rw [ec_ra0 hr, zth_l, em_ra0 hr, zb_s, if_neg (by decide), em_thz _ z1, zg1_s, if_pos rfl]
  obtain ⟨A, hB, hF, hN, ⟨sg, hG⟩, ⟨t, b, c, hV, hz⟩, hX, hO, hM, hT, hD, hA, hL, hVb, hC, hP⟩ := R1.2.2.1 s hs
  rcases nx_cases (νc := νc) (ν := ν) A hB hN hV hG (a := 119) (by decide) with ⟨e1, e2⟩ | ⟨e1, e2, e3, rfl⟩
  · exact Op1_e R1 (by rw [e1, zth_r]) (by rw [e2, zb_s, if_pos rfl, em_th1, zg1_s, if_neg (by decide)]) rfl (by decide)
  rw [e1, zth_l, e2, zb_s, if_neg (by decide), em_thz _ z1, zg1_s, if_pos rfl, gs14 hs4]
  have hn : nD m1 s = 0 := last45 hV (by simpa [tCan] using e3)
  have hnl := (hV.2.2.2.1 (by omega)).2.2.2
  have hB2 : Bd (zset m1 14 s x2) s := hB
  have hd2 : nD (zset m1 14 s x2) s = nD m1 s := rfl
  have hl2 : nL (zset m1 14 s x2) s = nL m1 s := rfl
  have hN2 : RN (zset κ (100 * (s + 1) + 1) 2 x2) (zset m1 14 s x2) (100 * (s + 1)) s := by
    unfold RN at hN ⊢
    simp (disch := omega) only [zset_o]
    exact ⟨hN.1, fun k hk => by rw [hd2] at hk; omega⟩
  have h9 : nD (zset m1 14 s x2) s < 9 := by omega
  rw [em_done hB2 h9 (by decide), zg1_s, cg A.1, cg A.2.1, cg A.1, cg A.2.2.2.2.1, ec_add A hB2 hN2.1 h9 (by decide), zg1_s]
  obtain ⟨d3, dD, dC, dR, dL⟩ := mDone_f (μ := zset m1 14 s x2) (s := s) (a := 119) h9
  have me : ∀ o i, o ≠ 3 → o ≠ 14 → ¬ (5 ≤ o ∧ o < 14) → mDone (zset m1 14 s x2) s 119 o i = m1 o i := fun o i h1 h2 h3 => by rw [mDone_e (by omega) (by omega) (by omega), zset_e (by omega)]
  have f1 : (mDone (zset m1 14 s x2) s 119 3 s ≤ 1) = True := eq_true (by rw [d3]; exact ple (b := 1) (by omega))
  have f2 : (m1 3 s ≤ 1) = True := by rw [n_le1 hB]; exact eq_true (by omega)
  have f3 : (mDone (zset m1 14 s x2) s 119 3 s ≤ 0) = False := eq_false (by rw [d3]; exact nle (b := 0) (by omega))
  have m14 : mDone (zset m1 14 s x2) s 119 14 s = x2 := by rw [mDone_e (by omega) (by omega) (by omega), zset_h]
  have hxI := ra_I hr
  refine Op1_v (RR_seat2 hs (fun o ho => ?_) (fun o ho => rfl) (fun o i ho => ?_) (fun o ho => rfl) (Int.le_refl _) hHH R1 (RS_done (t := 0) (b := 0) (c := 0) A hB2 h9 ?_ hN2 ?_ ?_ ?_ ?_ ?_ ?_ ?_ ?_ ?_ ?_ ?_ ?_ ?_) (Or.inl ?_)) ?_ rfl rfl
  · rw [kAdd_o (by unfold FK at ho; omega) (by unfold FK at ho; omega), zset_o (by unfold FK at ho; omega)]
  · rw [mDone_e (by unfold FP at ho; omega) (by unfold FP at ho; omega) (by unfold FP at ho; omega), zset_e (by unfold FP at ho; omega)]
  · unfold RF at hF ⊢
    rw [zset_e (by omega), zset_e (by omega), zset_e (by omega), zset_e (by omega)]
    exact hF
  · unfold RG at hG ⊢
    rw [zset_o (by omega), hd2]
    exact ⟨Or.inl rfl, hG.2.1, fun k hk => by omega⟩
  · refine ⟨by omega, by omega, by omega, fun _ => ⟨rfl, rfl, rfl, by rw [dL]; exact hnl⟩, fun q => by rw [dD] at q; omega, fun q => by omega, fun k hk => ?_⟩
    rw [dD, hd2, hn] at hk
    have : k = 0 := by omega
    subst this
    unfold mDone
    rw [zset_e (by omega), zset_e (by omega), hd2, hn, zset_h]
    rfl
  · intro _ q
    rw [f1] at q
    exact absurd trivial q
  · unfold RX at hX ⊢
    simp only [f1, f2, if_true, dC, dR] at hX ⊢
    rw [zset_o (by omega), zset_o (by omega), zset_o (by omega)]
    exact hX
  · refine ⟨fun q => ?_, fun x y hx hy => ?_, by rw [tDr_c (μ := m1) (fun x y hx hy => me (111 + 7 * s + x) y (by omega) (by omega) (by omega))]; exact hO.2.2⟩
    · rw [f1] at q
      exact absurd trivial q
    · rw [dC, dR, me _ _ (by omega) (by omega) (by omega)]
      exact hO.2.1 x y hx hy
  · unfold RM at hM ⊢
    simp only [f1, f2, if_true, dC, dR] at hM ⊢
    rw [zset_o (by omega)]
    exact hM
  · unfold RT
    simp only [f3, if_false]
    rw [zset_h, m14]
  · intro i hi
    rw [zset_o (by omega), zset_e (by omega)]
    exact hD i hi
  · unfold Al at hA ⊢
    rw [zset_o (by omega), zset_e (by omega)]
    exact hA
  · intro l hl
    rw [hl2] at hl
    omega
  · refine ⟨fun q => ?_, fun q => ?_, fun _ => ?_, fun x y hx hy => ?_, fun l hl => ?_⟩
    · rw [f1] at q
      exact absurd trivial q
    · rw [f1] at q
      exact absurd trivial q
    · rw [m14]
      exact hxI
    · rw [me _ _ (by omega) (by omega) (by omega)]
      exact hVb.2.2.2.1 x y hx hy
    · rw [dL, hl2] at hl
      omega
  · refine RC_done hs4 h9 ?_ (by decide) ?_
    · intro q
      rw [tLast_z (by omega)] at q
      exact not99 hV hB (hV.2.2.2.1 (by omega)).2.2.1 q
    · unfold RC at hC ⊢
      simp (disch := omega) only [zset_o, tLast_z]
      exact hC
  · rw [zset_e (by omega), zset_e (by omega)]
    exact hP
  · rw [tLast_done h9]
    decide
  · rw [mDone_e (by omega) (by omega) (by omega), zset_e (by omega)]
    exact z1
end ZWB
