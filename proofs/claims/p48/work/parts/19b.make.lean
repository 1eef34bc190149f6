section ZJB
/-! seat, cloth, layer: those that make cells -/
variable {ad : Nat → Nat} {iv : Nat → Option Nat} {lv : Nat → Bool} {t0 base : Nat} {ow : zz_H} {κ κ' : zzM} {νc νc' : zzN} {μ μ' : zzM} {ν ν' : zzN} {H H' : Int} {nS nK : Nat} {h : zz_H} {n n' : Nat}
theorem ra_n {a b c : Nat} (h : a ≤ b ∧ b ≤ c ∧ c < 100000) : ¬ Int32.ofNat b < Int32.ofNat a ∧ ¬ Int32.ofNat c < Int32.ofNat b := ⟨nlt (by omega), nlt (by omega)⟩
theorem ce_seat (J : JJ t0 base ow μ ν nS nK H h n) {x1 x2 : Int32} (g : x1 < 1 ∨ (¬ x1 < 1 ∧ (6 : Int32) < x1)) : ∃ h' n', f_L_seat t0 base x1 x2 h n = some (-900001, h', n') ∧ JJ t0 base ow μ ν nS nK H h' n' := by
  have J0 := J
  obtain ⟨z0, ad, iv, lv, κ, νc, S, R, V⟩ := J
  refine ⟨h, n, ?_, J0⟩
  unfold f_L_seat f_X9_seat
  rw [(S0_ax S R.1.1).2, f_rng S (ec_ra1 g), zth_r]
  rfl
theorem cv_seat (J : JJ t0 base ow μ ν nS nK H h n) (hb : nS < 4) {c r : Nat} (hc : 1 ≤ c ∧ c ≤ 6) (hr : 1 ≤ r ∧ r ≤ 6) : ∃ h' n', f_L_seat t0 base (Int32.ofNat c) (Int32.ofNat r) h n = some (Int32.ofNat nS, h', n') ∧ JJ t0 base ow (zset (zset (zset (zset μ 1 nS (Int32.ofNat c)) 2 nS (Int32.ofNat r)) 146 nS 20) 0 30 (Int32.ofNat (nS + 1))) ν (nS + 1) nK H h' n' := by
  obtain ⟨z0, ad, iv, lv, κ, νc, S, R, V⟩ := J
  have h30 := R.1.2.2.2.2.2.1
  have g1 : ¬ Int32.ofNat c < 1 ∧ ¬ (6 : Int32) < Int32.ofNat c := ra_n (a := 1) (c := 6) (by omega)
  have g2 : ¬ Int32.ofNat r < 1 ∧ ¬ (6 : Int32) < Int32.ofNat r := ra_n (a := 1) (c := 6) (by omega)
  have c1 := f_rng S (ec_ra0 (κ := κ) (νc := νc) (lv := lv) g1)
  have c2 := f_rng S (ec_ra0 (κ := κ) (νc := νc) (lv := lv) g2)
  have g3 := R.2.1.1
  obtain ⟨h2, f1, S1⟩ := S0_seat S R V hb c1 c2
  have gr : ¬ κ 1 3 = 0 → lv 1001 = true := fun g => (g3.2.2.1 (by
    rcases Nat.eq_zero_or_pos nS with q | q
    · exact absurd (g3.2.2.2 q) g
    · exact q)).1
  obtain ⟨q1, q2, q3⟩ := kLi_h (κ := κ) (L := 1) (c := nS)
  have lt : ∀ x, nwS κ nS x = true → lvN (nwS κ nS) lv x = true := fun x hx => by
    unfold lvN
    rw [hx]
    exact Bool.or_true _
  have kno : ∀ o, ¬ FK (100 * (nS + 1)) o → kS κ (Int32.ofNat c) (Int32.ofNat r) nS o = kLi κ 1 nS o := fun o ho => by
    unfold kS
    rw [if_neg (fun q => ho (soff_FK q.1 q.2))]
  obtain ⟨M, hM⟩ : ∃ M, M = zset (zset (zset (zset (zset μ 0 33 0) 1 nS (Int32.ofNat c)) 2 nS (Int32.ofNat r)) 146 nS 20) 0 30 (Int32.ofNat (nS + 1)) := ⟨_, rfl⟩
  have mm : ∀ o i, ¬ (o = 0 ∧ i = 33) → ¬ (o = 0 ∧ i = 30) → ¬ (o = 1 ∧ i = nS) → ¬ (o = 2 ∧ i = nS) → ¬ (o = 146 ∧ i = nS) → M o i = μ o i := fun o i a0 a1 a2 a3 a4 => by rw [hM, zset_e a1, zset_e a4, zset_e a3, zset_e a2, zset_e a0]
  have z33 : M 0 33 = 0 := by rw [hM, zset_e (by omega), zset_e (by omega), zset_e (by omega), zset_e (by omega), zset_h]
  have Z : Zs M nS := by
    obtain ⟨z1, z2, z3, z4, z5, z6, z7⟩ := R.2.2.2.1 nS (Nat.le_refl _) hb
    unfold Zs
    rw [mm _ _ (by omega) (by omega) (by omega) (by omega) (by omega), mm _ _ (by omega) (by omega) (by omega) (by omega) (by omega), mm _ _ (by omega) (by omega) (by omega) (by omega) (by omega), mm _ _ (by omega) (by omega) (by omega) (by omega) (by omega), mm _ _ (by omega) (by omega) (by omega) (by omega) (by omega)]
    exact ⟨z1, z2, z3, z4, z5, fun x y hx hy => by rw [mm _ _ (by omega) (by omega) (by omega) (by omega) (by omega)]; exact z6 x y hx hy, fun k hk => by rw [mm _ _ (by omega) (by omega) (by omega) (by omega) (by omega)]; exact z7 k hk⟩
  have N := RS_new (lv := lvN (nwS κ nS) lv) (κ := kS κ (Int32.ofNat c) (Int32.ofNat r) nS) (νc := νc) (μ := M) (ν := ν) (H := H) (S := 100 * (nS + 1)) (s := nS) (c := c) (r := r) (As_ids hb (fun x hx h => lt x (nwS_t (Or.inl (ids_in hb hx h))))) hb hc hr (by rw [hM, zset_e (by omega), zset_e (by omega), zset_e (by omega), zset_h]) (by rw [hM, zset_e (by omega), zset_e (by omega), zset_h]) (by rw [hM, zset_e (by omega), zset_h]) Z (by rw [kS_d (d := 1) rfl (by decide)]; rfl) (by rw [kS_d (d := 1) rfl (by decide)]; rfl) (by rw [kS_d (d := 1) rfl (by decide)]; rfl) (fun k hk => by rw [kS_d (d := 1001) rfl (by decide)]; exact if_pos hk) (fun k hk => by rw [kS_d (d := 2001) rfl (by decide)]; exact if_pos hk) (fun i => by rw [kS_d (d := 1002) rfl (by decide)]; rfl) (fun i => by rw [kS_d (d := 1003) rfl (by decide)]; rfl) (by rw [kS_d (d := 4) rfl (by decide)]; rfl) (by rw [kS_d (d := 4) rfl (by decide)]; rfl) (by rw [kS_d (d := 6) rfl (by decide)]; rfl) (by rw [kS_d (d := 6) rfl (by decide)]; rfl) (fun i => by rw [kS_d (d := 1007) rfl (by decide)]; rfl) (fun i => by rw [kS_d (d := 1008) rfl (by decide)]; rfl) (by rw [kS_d (d := 8) rfl (by decide)]; rfl) (by rw [kS_d (d := 8) rfl (by decide)]; rfl) (by rw [kS_d (d := 8) rfl (by decide)]; rfl) (by rw [kS_d (d := 8) rfl (by decide)]; rfl) (by rw [kS_d (d := 8) rfl (by decide)]; rfl) (by rw [kS_d (o := 100 * (nS + 1)) (d := 0) rfl (by decide)]; rfl)
  have k1 : kS κ (Int32.ofNat c) (Int32.ofNat r) nS 1 = kLi κ 1 nS 1 := kno 1 (by unfold FK; omega)
  have RS := RR_seatN (c := c) (r := r) (lv' := lvN (nwS κ nS) lv) (κ' := kS κ (Int32.ofNat c) (Int32.ofNat r) nS) (νc' := νc) (μ' := M) (fun o ho => by unfold lvN; rw [ho]; rfl) hb (by
    by_cases g : κ 1 3 = 0
    · exact lt _ (nwS_t (Or.inr ⟨rfl, g⟩))
    · unfold lvN
      rw [gr g]
      rfl) (fun o h1 h2 => by rw [kno o h2, kLi_o h1]) (fun o _ => rfl) (by rw [k1, q2]) (by rw [k1, q3]; decide) (fun o i a1 a2 a3 a4 => by
      rw [hM, zset_e a1, zset_e a4, zset_e a3, zset_e a2]) (by rw [hM, zset_h]) N (RR_t 0 R)
  rw [zset_z z0] at hM
  rw [← hM]
  refine ⟨h2, _, ?_, z33, _, _, _, _, _, S1, RS, fun s h1 h2 o ho => ?_⟩
  · unfold f_L_seat
    rw [(S0_ax S R.1.1).2, f1]
    rfl
  · unfold lvN
    rw [V s (by omega) h2 o ho, nwS_n (by unfold FK at ho ⊢; omega) (by unfold FK at ho; omega)]
    rfl
theorem cv_cloth (J : JJ t0 base ow μ ν nS nK H h n) (hb : nK < 4) {L r : Nat} (hL5 : 50 ≤ L) (hL : L ≤ 2000) (hr : 1 ≤ r ∧ r ≤ 60) : ∃ h' n', f_L_cloth t0 base (Int32.ofNat L) (Int32.ofNat r) h n = some (Int32.ofNat nK, h', n') ∧ JJ t0 base ow (zset (zset (zset μ 169 nK (Int32.ofNat L)) 170 nK (Int32.ofNat r)) 0 32 (Int32.ofNat (nK + 1))) ν nS (nK + 1) H h' n' := by
  obtain ⟨z0, ad, iv, lv, κ, νc, S, R, V⟩ := J
  have h32 := R.1.2.2.2.2.2.2.2
  have g1 : ¬ Int32.ofNat L < 50 ∧ ¬ (2000 : Int32) < Int32.ofNat L := ra_n (a := 50) (c := 2000) (by omega)
  have g2 : ¬ Int32.ofNat r < 1 ∧ ¬ (60 : Int32) < Int32.ofNat r := ra_n (a := 1) (c := 60) (by omega)
  have c1 := f_rng S (ec_ra0 (κ := κ) (νc := νc) (lv := lv) g1)
  have c2 := f_rng S (ec_ra0 (κ := κ) (νc := νc) (lv := lv) g2)
  have g3 := R.2.1.2.2.1
  obtain ⟨h2, f1, S1⟩ := S0_cloth S R V hb c1 c2
  have gr : ¬ κ 3 3 = 0 → lv 1003 = true := fun g => (g3.2.2.1 (by
    rcases Nat.eq_zero_or_pos nK with q | q
    · exact absurd (g3.2.2.2 q) g
    · exact q)).1
  obtain ⟨q1, q2, q3⟩ := kLi_h (κ := κ) (L := 3) (c := nK)
  have kb2 : kC κ L r nK 3 = kLi κ 3 nK 3 := by
    unfold kC
    rw [if_neg (by omega), if_neg (by omega)]
  have kz : kC κ L r nK (700 + nK) = fun i => if i = 0 then Int32.ofNat L else if i = 1 then Int32.ofNat r else 0 := by
    unfold kC
    rw [if_neg (by omega), if_pos rfl]
  have lt : ∀ x, nwC κ nK x = true → lvN (nwC κ nK) lv x = true := fun x hx => by
    unfold lvN
    rw [hx]
    exact Bool.or_true _
  have RC := RR_cloth (lv' := lvN (nwC κ nK) lv) (κ' := kC κ L r nK) (fun o ho => by unfold lvN; rw [ho]; rfl) hb hL hr (lt _ (nwC_t (Or.inl rfl))) (lt _ (nwC_t (Or.inr (Or.inl rfl)))) (by
    by_cases g : κ 3 3 = 0
    · exact lt _ (nwC_t (Or.inr (Or.inr ⟨rfl, g⟩)))
    · unfold lvN
      rw [gr g]
      rfl) (fun o h1 h2 h3 => by
      unfold kC
      rw [if_neg h3, if_neg h2, kLi_o h1]) (by rw [kb2, q2]) (by rw [kb2, q3]; decide) (by rw [kz]; rfl) (by rw [kz]; rfl) (by rw [kz]; rfl) (by rw [kz]; rfl) R
  refine ⟨h2, _, ?_, ?_, _, _, _, _, _, S1, RC, fun s h1 h2 o ho => ?_⟩
  · unfold f_L_cloth
    rw [(S0_ax S R.1.1).2, f1]
    rfl
  · rw [zset_e (by omega), zset_e (by omega), zset_e (by omega)]
    exact z0
  · unfold lvN
    rw [V s h1 h2 o ho, nwC_f (by unfold FK at ho; omega)]
    rfl
theorem may_t {s : Nat} (hB : Bd μ s) (hc : CH (tLast μ s)) {a : Int32} (ha : a = 119 ∨ a = 115 ∨ a = 116 ∨ a = 108 ∨ a = 98 ∨ a = 99) (hsg : tSg μ s = 1) (can : tCan (tLast μ s) (nL μ s) a = true) : g_X10_mayCome (Int32.ofNat s) a μ ν = some 1 := by
  rw [em_mayCome hB hc ha, if_pos can, hsg]
theorem may_f {s : Nat} (hB : Bd μ s) (hc : CH (tLast μ s)) {a : Int32} (ha : a = 119 ∨ a = 115 ∨ a = 116 ∨ a = 108 ∨ a = 98 ∨ a = 99) (can : tSg μ s = 0 ∨ tCan (tLast μ s) (nL μ s) a = false) : g_X10_mayCome (Int32.ofNat s) a μ ν = some 0 := by
  rw [em_mayCome hB hc ha]
  rcases can with h | h
  · rw [h, ite_self]
  · rw [h]
    rfl
theorem cv_layer (J : JJ t0 base ow μ ν nS nK H h n) (hH0 : 0 ≤ H) {s : Nat} (hs : s < nS) {kd t f : Int32} (gk : kd = 104 ∨ kd = 102 ∨ kd = 100) (gt : ¬ t < 5 ∧ ¬ (60 : Int32) < t) (gf : ¬ f < 1 ∧ ¬ (9 : Int32) < f) (can : tCan (tLast μ s) (nL μ s) 108 = true) (hsg : tSg μ s = 1) : ∃ h' n', f_L_layer t0 base (Int32.ofNat s) kd t f h n = some (Int32.ofNat (nD μ s), h', n') ∧ JJ t0 base ow (mDone (mY μ kd t f s (nL μ s)) s 108) (zsetN ν (100 + s) (nL μ s) 0) nS nK H h' n' := by
  obtain ⟨z0, ad, iv, lv, κ, νc, S, R, V⟩ := J
  have h30 := R.1.2.2.2.2.2.1
  have h4 := R.1.2.1
  have hHH := R.1.2.2.2.2.1
  have c1 : f_X9_seatOf base (Int32.ofNat s) h = some (.inl (some (ad (100 * (s + 1))))) := f_seatOf S (ec_seatOf0 R hs)
  have n0 : g_X10_isNoSeat (Int32.ofNat s) μ ν = some 0 := em_noSeat0 h30 (by omega) hs
  have c2 := f_kind S (ec_kind0 (lv := lv) (κ := κ) (νc := νc) gk)
  have c3 := f_rng S (ec_ra0 (κ := κ) (νc := νc) (lv := lv) gt)
  have c4 := f_rng S (ec_ra0 (κ := κ) (νc := νc) (lv := lv) gf)
  have hm : zset μ 0 33 0 = μ := zset_z z0
  have R1 := R
  have z1 := z0
  have hs4 : s < 4 := by omega
  have Q1 := R1.2.2.1 s hs
  obtain ⟨A, hB, hF, hN, ⟨sg, hG⟩, ⟨t', b, c, hV, hz⟩, hX, hO, hM, hT, hD, hA, hL, hVb, hC, hP⟩ := id Q1
  rcases nx_cases (νc := νc) (ν := ν) A hB hN hV hG (a := 108) (by decide) with ⟨e1, e2⟩ | ⟨e1, e2, e3, rfl⟩
  · rw [may_t hB (Lv_ch hV) (by decide) hsg can] at e2
    cases e2
  · have hk : CH kd := by
      rcases gk with rfl | rfl | rfl <;> (unfold CH; decide)
    have hl4 := (sh108 hV hB e3).2.2.2
    obtain ⟨h2, f1, S1⟩ := S0_layer S R1 V hs hl4 hk c1 c2 c3 c4 (f_next S e1)
    have lt : ∀ x, nwY κ s (nL μ s) x = true → lvN (nwY κ s (nL μ s)) lv x = true := fun x hx => by
      unfold lvN
      rw [hx]
      exact Bool.or_true _
    have m : ∀ o, lv o = true → lvN (nwY κ s (nL μ s)) lv o = true := fun o ho => by
      unfold lvN
      rw [ho]
      rfl
    have l1 := lt _ (nwY_t (κ := κ) (s := s) (l := nL μ s) (Or.inl rfl))
    have l2 : lvN (nwY κ s (nL μ s)) lv (100 * (s + 1) + 5 + 1 + 1000) = true := by
      by_cases g : κ (100 * (s + 1) + 5 + 1) 3 = 0
      · exact lt _ (nwY_t (Or.inr ⟨rfl, g⟩))
      · exact m _ (hA.2.2.2 g)
    have tI := ra_I gt
    have fI := ra_I gf
    have i5 : (5 : Int32).toInt = 5 := rfl
    have i60 : (60 : Int32).toInt = 60 := rfl
    have i1 : (1 : Int32).toInt = 1 := rfl
    have i9 : (9 : Int32).toInt = 9 := rfl
    obtain ⟨⟨h9, -, n99, hB2, d3⟩, QN⟩ := RS_layer (k := kd) (t := t) (f := f) hs4 m l1 l2 gk (by omega) (by omega) hH0 e3 hG Q1
    have e4 : adN (nwY κ s (nL μ s)) (adY n s (nL μ s)) ad (100 * (s + 1) + 4) = ad (100 * (s + 1) + 4) := adN_f (nwY_n (by omega) (by omega))
    have ea := sc_X8_add S1.1 S1.2.1 (h := h2) (t0 := t0) (a0 := 100 * (s + 1) + 4) (x1 := 108) (κ := kY κ kd t f s (nL μ s)) (ν := zsetN νc (100 * (s + 1) + 20 + nL μ s) 4 0)
    rw [S0_hc S1, e4] at ea
    have ea2 := ea _ (ec_add (As_m m A) hB (by rw [kY_o (by omega) (by omega)]; exact hN.1) h9 (by decide))
    dsimp only at ea2
    rw [ea2, zb1_s] at f1
    have S2 := S0_c S1 (kAdd (kY κ kd t f s (nL μ s)) (100 * (s + 1)) (nD μ s) 108) (zsetN νc (100 * (s + 1) + 20 + nL μ s) 4 0)
    have tl : tLast (mDone (mY μ kd t f s (nL μ s)) s 108) s = 108 := tLast_done (by omega)
    have R2 := RR_seat2 hs (fun o ho => by rw [kAdd_o (by unfold FK at ho; omega) (by unfold FK at ho; omega), kY_o (by unfold FK at ho; omega) (by unfold FK at ho; omega)]) (fun o ho => zsetN_o (by omega)) (fun o i ho => by rw [mDone_e (by unfold FP at ho; omega) (by unfold FP at ho; omega) (by unfold FP at ho; omega), mY_o (by unfold FP at ho; omega) (by unfold FP at ho; omega)]) (fun o ho => zsetN_o ho) (Int.le_refl _) hHH (RR_lv m R1) QN (Or.inl (by rw [tl]; decide))
    refine ⟨_, _, ?_, ?_, _, _, _, _, _, S2, R2, fun s' h1 h2 o ho => ?_⟩
    · unfold f_L_layer
      rw [(S0_ax S R.1.1).2, f1]
      rfl
    · rw [mDone_e (by omega) (by omega) (by omega), mY_o (by omega) (by omega)]
      exact z1
    · unfold lvN
      rw [V s' h1 h2 o ho, nwY_n (by unfold FK at ho; omega) (by unfold FK at ho; omega)]
      rfl
theorem ce_layer (J : JJ t0 base ow μ ν nS nK H h n) {s : Nat} (hs : s < nS) {kd t f : Int32} (gk : kd = 104 ∨ kd = 102 ∨ kd = 100) (gt : ¬ t < 5 ∧ ¬ (60 : Int32) < t) (gf : ¬ f < 1 ∧ ¬ (9 : Int32) < f) (can : tSg μ s = 0 ∨ tCan (tLast μ s) (nL μ s) 108 = false) : ∃ h' n', f_L_layer t0 base (Int32.ofNat s) kd t f h n = some (-900003, h', n') ∧ JJ t0 base ow μ ν nS nK H h' n' := by
  have J0 := J
  obtain ⟨z0, ad, iv, lv, κ, νc, S, R, V⟩ := J
  have c1 : f_X9_seatOf base (Int32.ofNat s) h = some (.inl (some (ad (100 * (s + 1))))) := f_seatOf S (ec_seatOf0 R hs)
  have c2 := f_kind S (ec_kind0 (lv := lv) (κ := κ) (νc := νc) gk)
  have c3 := f_rng S (ec_ra0 (κ := κ) (νc := νc) (lv := lv) gt)
  have c4 := f_rng S (ec_ra0 (κ := κ) (νc := νc) (lv := lv) gf)
  obtain ⟨A, hB, hF, hN, ⟨sg, hG⟩, ⟨t', b, c, hV, hz⟩, -⟩ := R.2.2.1 s hs
  refine ⟨h, n, ?_, J0⟩
  rcases nx_cases (νc := νc) (ν := ν) A hB hN hV hG (a := 108) (by decide) with ⟨e1, e2⟩ | ⟨e1, e2, e3, -⟩
  · unfold f_L_layer f_X9_layer
    rw [(S0_ax S R.1.1).2, c1, zth_l, c2, zth_l, c3, zth_l, c4, zth_l, f_next S e1, zth_r, (S0_ax S R.1.1).2]
    rfl
  · rw [may_f hB (Lv_ch hV) (by decide) can] at e2
    cases e2
end ZJB
