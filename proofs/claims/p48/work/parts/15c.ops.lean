section ZWC
/-! operations on one seat -/
variable {lv : Nat → Bool} {κ κ' : zzM} {νc νc' : zzN} {μ μ' : zzM} {ν ν' : zzN} {H H' : Int} {nS nB nK : Nat}
theorem Bd_of {s : Nat} (e1 : μ' 1 s = μ 1 s) (e2 : μ' 2 s = μ 2 s) (e3 : μ' 3 s = μ 3 s) (e83 : μ' 83 s = μ 83 s) (h : Bd μ s) : Bd μ' s ∧ nC μ' s = nC μ s ∧ nR μ' s = nR μ s ∧ nD μ' s = nD μ s ∧ nL μ' s = nL μ s := by
  have c1 : nC μ' s = nC μ s := by unfold nC; rw [e1]
  have c2 : nR μ' s = nR μ s := by unfold nR; rw [e2]
  have c3 : nD μ' s = nD μ s := by unfold nD; rw [e3]
  have c4 : nL μ' s = nL μ s := by unfold nL; rw [e83]
  refine ⟨?_, c1, c2, c3, c4⟩
  unfold Bd
  rw [c1, c2, c3, c4, e1, e2, e3, e83]
  exact h
/-- what stays of a seat when places outside these change -/
theorem RS_core {S s : Nat} (e1 : μ' 1 s = μ 1 s) (e2 : μ' 2 s = μ 2 s) (e3 : μ' 3 s = μ 3 s) (e83 : μ' 83 s = μ 83 s) (R : RS lv κ νc μ ν H S s) (el : ∀ k, k < nD μ s → μ' (5 + s) k = μ (5 + s) k) (eg : ∀ k, k < nD μ s → μ' (10 + s) k = μ (10 + s) k) (hX : RX κ' μ' S s) (hO : RO μ' s) (hM : RM κ' μ' S s) (hT : RT κ' μ' S s) (hD : RD κ' μ' S s) (hL : RLa κ' νc' μ' ν' S s) (hV : Vb μ' ν' H' s) (hz : ∀ t b c, Lv μ s t b c → Lz μ s t → Lz μ' s t) (hC : RC κ' μ' S s) (hP : κ' S 5 = μ' 146 s) (k1 : κ' (S + 1) 0 = κ (S + 1) 0) (k2 : κ' (S + 1) 1 = κ (S + 1) 1) (k4 : κ' (S + 4) = κ (S + 4)) (k5 : κ' (S + 4 + 1000) = κ (S + 4 + 1000)) (k6 : κ' (S + 5 + 1) 2 = κ (S + 5 + 1) 2) (k7 : κ' (S + 5 + 1) 3 = κ (S + 5 + 1) 3) : RS lv κ' νc' μ' ν' H' S s := by
  obtain ⟨A, hB, hF, hN, ⟨sg, hG⟩, ⟨t, b, c, hv, hzz⟩, -, -, -, -, -, hA, -⟩ := R
  obtain ⟨hB', c1, c2, c3, c4⟩ := Bd_of e1 e2 e3 e83 hB
  refine ⟨A, hB', ?_, ?_, ⟨sg, ?_⟩, ⟨t, b, c, ?_, hz t b c hv hzz⟩, hX, hO, hM, hT, hD, ?_, hL, hV, hC, hP⟩
  · unfold RF
    rw [k1, k2, e1, e2]
    exact hF
  · unfold RN
    rw [k4, k5, e3, c3]
    exact ⟨hN.1, fun k hk => by rw [el k hk]; exact hN.2 k hk⟩
  · unfold RG
    rw [k4, c3]
    exact ⟨hG.1, hG.2.1, fun k hk => by rw [eg k hk]; exact hG.2.2 k hk⟩
  · obtain ⟨v1, v2, v3, v4, v5, v6, v7⟩ := hv
    unfold Lv
    rw [c3, c4]
    exact ⟨v1, v2, v3, v4, v5, v6, fun k hk => by rw [el k hk]; exact v7 k hk⟩
  · unfold Al
    rw [c4, k6, k7, e83]
    exact hA
/-- what stays, piece by piece -/
theorem RX_c {S s : Nat} (hB : Bd μ s) (c1 : nC μ' s = nC μ s) (c2 : nR μ' s = nR μ s) (e3 : μ' 3 s = μ 3 s) (k1 : κ' (S + 1 + 1 + 1000) = κ (S + 1 + 1 + 1000)) (k2 : κ' (S + 1 + 1000) = κ (S + 1 + 1000)) (k3 : κ' (S + 1 + 2000) = κ (S + 1 + 2000)) (a : ∀ o i, ((17 + 7 * s ≤ o ∧ o < 23 + 7 * s) ∨ o = 74 + s ∨ o = 79 + s) → μ' o i = μ o i) (h : RX κ μ S s) : RX κ' μ' S s := by
  have hc6 := hB.2.1.2.2
  unfold RX
  rw [c1, c2, e3, k1, k2, k3]
  refine ⟨fun x y hx hy => ?_, fun k hk => ?_⟩
  · rw [a _ _ (by omega)]; exact h.1 x y hx hy
  · rw [a _ _ (by omega), a _ _ (by omega)]; exact h.2 k hk
theorem RO_c {s : Nat} (c1 : nC μ' s = nC μ s) (c2 : nR μ' s = nR μ s) (e3 : μ' 3 s = μ 3 s) (a : ∀ o i, (o = 74 + s ∨ o = 79 + s ∨ (111 + 7 * s ≤ o ∧ o < 117 + 7 * s)) → μ' o i = μ o i) (h : RO μ s) : RO μ' s := by
  unfold RO
  rw [c1, c2, e3]
  refine ⟨fun g k hk => ?_, fun x y hx hy => ?_, by rw [tDr_c (μ := μ) (fun x y hx hy => a (111 + 7 * s + x) y (by omega))]; exact h.2.2⟩
  · rw [a _ _ (by omega), a _ _ (by omega)]; exact h.1 g k hk
  · rw [a _ _ (by omega)]; exact h.2.1 x y hx hy
theorem RM_c {S s : Nat} (hB : Bd μ s) (c1 : nC μ' s = nC μ s) (c2 : nR μ' s = nR μ s) (e3 : μ' 3 s = μ 3 s) (k1 : κ' (S + 1 + 2 + 1000) = κ (S + 1 + 2 + 1000)) (a : ∀ o i, (46 + 7 * s ≤ o ∧ o < 52 + 7 * s) → μ' o i = μ o i) (h : RM κ μ S s) : RM κ' μ' S s := by
  have hc6 := hB.2.1.2.2
  unfold RM
  rw [c1, c2, e3, k1]
  intro x y hx hy
  rw [a _ _ (by omega)]; exact h x y hx hy
theorem RT_c {S s : Nat} (e3 : μ' 3 s = μ 3 s) (k1 : κ' (S + 1) 2 = κ (S + 1) 2) (a : μ' 14 s = μ 14 s) (h : RT κ μ S s) : RT κ' μ' S s := by
  unfold RT
  rw [e3, k1, a]; exact h
theorem RD_c {S s : Nat} (k1 : κ' (S + 7 + 1000) = κ (S + 7 + 1000)) (a : ∀ o i, (111 + 7 * s ≤ o ∧ o < 117 + 7 * s) → μ' o i = μ o i) (h : RD κ μ S s) : RD κ' μ' S s := fun i hi => by
  rw [k1, a _ _ (by omega)]; exact h i hi
theorem RLa_c {S s : Nat} (hB : Bd μ s) (c4 : nL μ' s = nL μ s) (k : ∀ o, S + 20 ≤ o → o < S + 24 → κ' o = κ o ∧ νc' o = νc o) (a : ∀ o i, (o = 85 + s ∨ o = 90 + s ∨ o = 95 + s ∨ o = 105 + s) → μ' o i = μ o i) (n : ∀ i, ν' (100 + s) i = ν (100 + s) i) (h : RLa κ νc μ ν S s) : RLa κ' νc' μ' ν' S s := by
  have hl4 := hB.2.2.2.2.2
  unfold RLa
  rw [c4]
  intro l hl
  obtain ⟨k1, k2⟩ := k (S + 20 + l) (by omega) (by omega)
  have e : tTh μ' ν' s l = tTh μ ν s l := by
    unfold tTh tDen
    rw [a _ _ (by omega), a _ _ (by omega), a _ _ (by omega), n]
  rw [k1, k2, e, a _ _ (by omega), a _ _ (by omega), a _ _ (by omega), a _ _ (by omega), n]
  exact h l hl
theorem Vb_c {s : Nat} (c4 : nL μ' s = nL μ s) (e3 : μ' 3 s = μ 3 s) (e14 : μ' 14 s = μ 14 s) (a : ∀ o i, ((17 + 7 * s ≤ o ∧ o < 23 + 7 * s) ∨ (46 + 7 * s ≤ o ∧ o < 52 + 7 * s) ∨ o = 74 + s ∨ o = 79 + s ∨ (111 + 7 * s ≤ o ∧ o < 117 + 7 * s) ∨ o = 85 + s ∨ o = 90 + s ∨ o = 95 + s ∨ o = 105 + s) → μ' o i = μ o i) (n : ∀ i, ν' (100 + s) i = ν (100 + s) i) (h : Vb μ ν H s) : Vb μ' ν' H s := by
  obtain ⟨v1, v2, v3, v4, v5⟩ := h
  unfold Vb
  rw [c4, e3, e14]
  refine ⟨fun g x y hx hy => ?_, fun g k hk => ?_, v3, fun x y hx hy => ?_, fun l hl => ?_⟩
  · rw [a _ _ (by omega), a _ _ (by omega)]; exact v1 g x y hx hy
  · rw [a _ _ (by omega), a _ _ (by omega)]; exact v2 g k hk
  · rw [a _ _ (by omega)]; exact v4 x y hx hy
  · rw [a _ _ (by omega), a _ _ (by omega), a _ _ (by omega), a _ _ (by omega), n]; exact v5 l hl
theorem RC_c {S s : Nat} (et : tLast μ' s = tLast μ s) (k1 : κ' (S + 8) = κ (S + 8)) (k2 : κ' (S + 8 + 1000) = κ (S + 8 + 1000)) (e1 : μ' 1 s = μ 1 s) (e143 : μ' 143 s = μ 143 s) (e144 : μ' 144 s = μ 144 s) (e145 : μ' 145 s = μ 145 s) (a : ∀ i, μ' (139 + s) i = μ (139 + s) i) (h : RC κ μ S s) : RC κ' μ' S s := by
  unfold RC
  rw [et, k1, k2, e1, e143, e144, e145]
  exact ⟨fun k hk => by rw [a]; exact h.1 k hk, h.2⟩
theorem Lz_c {s t : Nat} (e3 : μ' 3 s = μ 3 s) (a : ∀ o i, (o = 74 + s ∨ o = 79 + s) → μ' o i = μ o i) (h : Lz μ s t) : Lz μ' s t := by
  unfold Lz
  rw [e3]
  intro h0 g k hk
  rw [a _ _ (by omega), a _ _ (by omega)]
  exact h h0 g k hk
theorem tLast_c {s : Nat} (e3 : μ' 3 s = μ 3 s) (a : ∀ i, μ' (5 + s) i = μ (5 + s) i) : tLast μ' s = tLast μ s := by
  unfold tLast nD
  rw [e3, a]
theorem op_promise (R : RR lv κ νc μ ν H nS nB nK) (x1 x2 : Int32) : Op1 lv H nS nB nK cd_promise (g_X9_promise lv 0 x1 x2 κ νc) (g_X10_promise x1 x2 μ ν) := by
  have r0 := R.1.1
  have h30 := R.1.2.2.2.2.2.1
  have h4 := R.1.2.1
  have hHH := R.1.2.2.2.2.1
  unfold g_X9_promise g_X10_promise g_X10_promise_29 g_X10_promise_36
  rcases ix_cases x1 nS (by omega) with h | ⟨s, hs, rfl⟩
  · exact Op1_e R (by rw [cg r0, ec_seatOf1 R h, zth_r]) (by rw [em_noSeat1 h30 (by omega) h, zb_s, em_th1, zg1_s, if_neg (by decide)]) rfl (by decide)
  rw [cg r0, ec_seatOf0 R hs, zth_l, em_noSeat0 h30 (by omega) hs, zb_s, em_th0, zg1_s, if_pos rfl]
  have R1 := RR_t 0 R
  have z1 : zset μ 0 33 0 0 33 = 0 := zset_h
  clear R h30
  generalize zset μ 0 33 0 = m1 at R1 z1 ⊢
  have hs4 : s < 4 := by omega
  rcases ra_cases x2 0 100 with h | hrx2
  · exact Op1_e R1 (by rw [ec_ra1 h, zth_r]) (by rw [em_ra1 h, zb_s, if_pos rfl, em_th1, zg1_s, if_neg (by decide)]) rfl (by decide)
  rw [ec_ra0 hrx2, zth_l, em_ra0 hrx2, zb_s, if_neg (by decide), em_thz _ z1, zg1_s, if_pos rfl]
  have Q1 := R1.2.2.1 s hs
  obtain ⟨A, hB, hF, hN, ⟨sg, hG⟩, ⟨t, b, c, hV, hz⟩, hX, hO, hM, hT, hD, hA, hL, hVb, hC, hP⟩ := id Q1
  rw [cg A.1, cg A.1, gi146 hs4, gs146 hs4, ← hP]
  refine Op1_v (RR_seat2 hs (fun o ho => by rw [zset_o (by unfold FK at ho; omega)]) (fun o ho => rfl) (fun o i ho => by rw [zset_e (by unfold FP at ho; omega)]) (fun o ho => rfl) (Int.le_refl _) hHH R1 (RS_core (zset_e (by omega)) (zset_e (by omega)) (zset_e (by omega)) (zset_e (by omega)) Q1 (fun k hk => zset_e (by omega)) (fun k hk => zset_e (by omega)) ?_ ?_ ?_ ?_ ?_ ?_ ?_ (fun t b c _ h => ?_) ?_ ?_ (zset_e (by omega)) (zset_e (by omega)) (zset_o (by omega)) (zset_o (by omega)) (zset_e (by omega)) (zset_e (by omega))) (Or.inr ⟨tLast_z (by omega), by rw [zset_o (by omega)], by rw [zset_o (by omega)], zset_e (by omega), fun k => zset_e (by omega), zset_e (by omega)⟩)) (by rw [zset_e (by omega)]; exact z1) rfl rfl
  · exact RX_c hB rfl rfl rfl (zset_o (by omega)) (zset_o (by omega)) (zset_o (by omega)) (fun o i h => zset_e (by omega)) hX
  · exact RO_c (μ := m1) rfl rfl rfl (fun o i h => zset_e (by omega)) hO
  · exact RM_c hB rfl rfl rfl (zset_o (by omega)) (fun o i h => zset_e (by omega)) hM
  · exact RT_c rfl (zset_e (by omega)) rfl hT
  · exact RD_c (zset_o (by omega)) (fun o i h => zset_e (by omega)) hD
  · exact RLa_c hB rfl (fun o h1 h2 => ⟨zset_o (by omega), rfl⟩) (fun o i h => zset_e (by omega)) (fun i => rfl) hL
  · exact Vb_c (μ := m1) rfl rfl rfl (fun o i h => zset_e (by omega)) (fun i => rfl) hVb
  · exact Lz_c (μ := m1) rfl (fun o i h => zset_e (by omega)) h
  · exact RC_c (tLast_z (by omega)) (zset_o (by omega)) (zset_o (by omega)) rfl rfl rfl rfl (fun i => zset_e (by omega)) hC
  · rw [zset_h, zset_h]
theorem op_sign (R : RR lv κ νc μ ν H nS nB nK) (x1 : Int32) : Op1 lv H nS nB nK cd_sign (g_X9_sign lv 0 x1 κ νc) (g_X10_sign x1 μ ν) := by
  have r0 := R.1.1
  have h30 := R.1.2.2.2.2.2.1
  have h4 := R.1.2.1
  have hHH := R.1.2.2.2.2.1
  unfold g_X9_sign g_X10_sign g_X10_sign_26
  rcases ix_cases x1 nS (by omega) with h | ⟨s, hs, rfl⟩
  · exact Op1_e R (by rw [cg r0, ec_seatOf1 R h, zth_r]) (by rw [em_noSeat1 h30 (by omega) h, zb_s, em_th1, zg1_s, if_neg (by decide)]) rfl (by decide)
  rw [cg r0, ec_seatOf0 R hs, zth_l, em_noSeat0 h30 (by omega) hs, zb_s, em_th0, zg1_s, if_pos rfl]
  have R1 := RR_t 0 R
  have z1 : zset μ 0 33 0 0 33 = 0 := zset_h
  clear R h30
  generalize zset μ 0 33 0 = m1 at R1 z1 ⊢
  have hs4 : s < 4 := by omega
  have Q1 := R1.2.2.1 s hs
  obtain ⟨A, hB, hF, hN, ⟨sg, hG⟩, ⟨t, b, c, hV, hz⟩, hX, hO, hM, hT, hD, hA, hL, hVb, hC, hP⟩ := id Q1
  have hd := hB.2.2.2.1
  rw [cg A.1, cg A.2.2.2.2.1, ec_allSigned A hB hN hG, zb_s, em_lastSigned hB, zb_s, sg_iff hG]
  obtain ⟨g1, g2, g3⟩ := hG
  by_cases g : sg = nD m1 s
  · exact Op1_e R1 (by rw [if_pos g, if_neg (by decide)]) (by rw [if_pos g, em_th1, zg1_s, if_neg (by decide)]) rfl (by decide)
  have hsg : sg + 1 = nD m1 s := g1.resolve_left g
  rw [if_neg g, if_pos rfl, em_thz _ z1, zg1_s, if_pos rfl, gq9 hs4, gi3 hs4, hd.1, on_p _ (by omega), gs9 hs4 (by omega), gi3 hs4, zset_e (by omega), hd.1]
  unfold g_X8_signLast
  rw [cg A.1, cg A.2.2.2.2.1, cg A.2.2.2.2.1, cg A.2.2.2.2.1, cg A.2.2.2.2.1, zg1_s, zset_h, hN.1, hd.1]
  have w1 : vp_nar .boolean (1 : Int32) = 1 := by decide
  rw [w1]
  have e1 := Bd_of (μ' := zset m1 (10 + s) (nD m1 s - 1) 1) (s := s) (zset_e (by omega)) (zset_e (by omega)) (zset_e (by omega)) (zset_e (by omega)) hB
  obtain ⟨hB', c1, c2, c3, c4⟩ := e1
  refine Op1_v (RR_seat2 hs (fun o ho => by rw [zset_o (by unfold FK at ho; omega)]) (fun o ho => rfl) (fun o i ho => by rw [zset_e (by unfold FP at ho; omega)]) (fun o ho => rfl) (Int.le_refl _) hHH R1 ⟨A, hB', ?_, ?_, ⟨nD m1 s, ?_⟩, ⟨t, b, c, ?_, ?_⟩, ?_, ?_, ?_, ?_, ?_, ?_, ?_, ?_, ?_, ?_⟩ (Or.inr ⟨tLast_z (by omega), by rw [zset_o (by omega)], by rw [zset_o (by omega)], zset_e (by omega), fun k => zset_e (by omega), zset_e (by omega)⟩)) (by rw [zset_e (by omega)]; exact z1) rfl rfl
  · unfold RF at hF ⊢
    simp (disch := omega) only [zset_o]
    exact hF
  · unfold RN at hN ⊢
    rw [c3, zset_e (by omega), zset_o (by omega), zset_o (by omega), zset_o (by omega)]
    exact hN
  · refine ⟨Or.inl c3.symm, zset_h, fun k hk => ?_⟩
    rw [c3] at hk
    rw [if_pos hk]
    by_cases w : k = nD m1 s - 1
    · rw [w, zset_h]
    · rw [zset_e (by omega), g3 k hk, if_pos (by omega)]
  · exact Lv_t hs4 hV (by omega)
  · exact Lz_c (zset_e (by omega)) (fun o i h => zset_e (by omega)) hz
  · exact RX_c hB c1 c2 (zset_e (by omega)) (zset_o (by omega)) (zset_o (by omega)) (zset_o (by omega)) (fun o i h => zset_e (by omega)) hX
  · exact RO_c c1 c2 (zset_e (by omega)) (fun o i h => zset_e (by omega)) hO
  · exact RM_c hB c1 c2 (zset_e (by omega)) (zset_o (by omega)) (fun o i h => zset_e (by omega)) hM
  · exact RT_c (zset_e (by omega)) (zset_e (by omega)) (zset_e (by omega)) hT
  · exact RD_c (zset_o (by omega)) (fun o i h => zset_e (by omega)) hD
  · unfold Al at hA ⊢
    rw [c4, zset_o (by omega), zset_e (by omega)]
    exact hA
  · exact RLa_c hB c4 (fun o h1 h2 => ⟨zset_o (by omega), rfl⟩) (fun o i h => zset_e (by omega)) (fun i => rfl) hL
  · exact Vb_c c4 (zset_e (by omega)) (zset_e (by omega)) (fun o i h => zset_e (by omega)) (fun i => rfl) hVb
  · exact RC_c (tLast_z (by omega)) (zset_o (by omega)) (zset_o (by omega)) (zset_e (by omega)) (zset_e (by omega)) (zset_e (by omega)) (zset_e (by omega)) (fun i => zset_e (by omega)) hC
  · rw [zset_o (by omega), zset_o (by omega)]
    exact hP
end ZWC
