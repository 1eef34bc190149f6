section ZXU
/-! seat: its case -/
variable {ad : Nat → Nat} {iv : Nat → Option Nat} {lv : Nat → Bool} {t0 base am ao an : Nat} {κ : zzM} {νc : zzN} {μ : zzM} {ν : zzN} {H : Int} {nS nB nK : Nat} {h : zz_H} {n : Nat}
theorem ids_in {b x : Nat} (hb : b < 4) (hx : FK (100 * (b + 1)) x) (h : co x ≠ 99 ∧ x % 100 < 9 ∨ cIs x ≠ none) : 100 * (b + 1) ≤ x ∧ soff (x - 100 * (b + 1)) < 16 := by
  have k0 : ∀ b, b < 4 → ∀ d, d < 100 → (co (100 * (b + 1) + d) ≠ 99 ∧ (100 * (b + 1) + d) % 100 < 9 ∨ cIs (100 * (b + 1) + d) ≠ none) → soff d < 16 := by decide +kernel
  have k1 : ∀ b, b < 4 → ∀ d, d < 100 → (co (100 * (b + 1) + (d + 1000)) ≠ 99 ∧ (100 * (b + 1) + (d + 1000)) % 100 < 9 ∨ cIs (100 * (b + 1) + (d + 1000)) ≠ none) → soff (d + 1000) < 16 := by decide +kernel
  have k2 : ∀ b, b < 4 → ∀ d, d < 100 → (co (100 * (b + 1) + (d + 2000)) ≠ 99 ∧ (100 * (b + 1) + (d + 2000)) % 100 < 9 ∨ cIs (100 * (b + 1) + (d + 2000)) ≠ none) → soff (d + 2000) < 16 := by decide +kernel
  unfold FK at hx
  refine ⟨by omega, ?_⟩
  rcases hx with q | q | q
  · have e : x = 100 * (b + 1) + (x - 100 * (b + 1)) := by omega
    rw [e] at h
    exact k0 b hb _ (by omega) h
  · have e : x = 100 * (b + 1) + ((x - 100 * (b + 1) - 1000) + 1000) := by omega
    have e2 : x - 100 * (b + 1) = (x - 100 * (b + 1) - 1000) + 1000 := by omega
    rw [e] at h
    rw [e2]
    exact k1 b hb (x - 100 * (b + 1) - 1000) (by omega) h
  · have e : x = 100 * (b + 1) + ((x - 100 * (b + 1) - 2000) + 2000) := by omega
    have e2 : x - 100 * (b + 1) = (x - 100 * (b + 1) - 2000) + 2000 := by omega
    rw [e] at h
    rw [e2]
    exact k2 b hb (x - 100 * (b + 1) - 2000) (by omega) h
theorem cw_0 (S : S0 ad iv lv t0 base am ao an κ νc μ ν h n) (R : RR lv κ νc μ ν H nS nB nK) (V : LV lv nS) (hH9 : H + 20000 ≤ 100000000) (x1 x2 x3 x4 : Int32) : w_0 t0 base am ao an x1 x2 x3 x4 h n (Jx t0 base am ao an (H + 20000)) := by
  have R' := RR_up (H' := H + 20000) (by omega) hH9 R
  have s4 := R.1.2.1
  have h30 := R.1.2.2.2.2.2.1
  have em : ∀ {v : Int32} {μ' : zzM}, g_X10_seat x1 x2 μ ν = some (v, μ', ν) → ∀ h', zk h' am μ ν = h' → f_X10_seat am x1 x2 h' = some (v, zk h' am μ' ν) := fun e h' hk => by
    have e2 := sm_X10_seat (h := h') (am := am) (x1 := x1) (x2 := x2) (μ := μ) (ν := ν)
    rw [hk] at e2
    exact e2 _ e
  have err : ∀ {e : Nat} {t : Int32}, f_X9_seat t0 base x1 x2 h n = some (.inr e, h, n) → ((e = 0 ∧ t = 1) ∨ (e = 1 ∧ t = 2)) → g_X10_seat x1 x2 μ ν = some (0, zset μ 0 33 t, ν) → w_0 t0 base am ao an x1 x2 x3 x4 h n (Jx t0 base am ao an (H + 20000)) := fun {e t} f0 he e2 => by
    refine wrap2_e (e := e) (t := t) (v := 0) (fx := f_X9_seat t0 base x1 x2 h n) (X := fun k h3 n3 => if k = 0 then some ((1 : Int32), h3, n3) else (if k = 1 then some ((2 : Int32), h3, n3) else none)) (fm := fun h' => f_X10_seat am x1 x2 h') S R' V f0 ?_ ?_ (em e2)
    · rcases he with ⟨rfl, rfl⟩ | ⟨rfl, rfl⟩ <;> rfl
    · rcases he with ⟨rfl, rfl⟩ | ⟨rfl, rfl⟩ <;> decide
  rcases ra_cases x1 1 6 with g1 | g1
  · refine err (e := 0) (t := 1) ?_ (Or.inl ⟨rfl, rfl⟩) (em_seat0 (Or.inl (em_ra1 g1)))
    unfold f_X9_seat
    rw [f_rng S (ec_ra1 g1), zth_r]
  have c1 := f_rng S (ec_ra0 (κ := κ) (νc := νc) (lv := lv) g1)
  rcases ra_cases x2 1 6 with g2 | g2
  · refine err (e := 0) (t := 1) ?_ (Or.inl ⟨rfl, rfl⟩) (em_seat0 (Or.inr ⟨em_ra0 g1, em_ra1 g2⟩))
    unfold f_X9_seat
    rw [c1, zth_l, f_rng S (ec_ra1 g2), zth_r]
  have c2 := f_rng S (ec_ra0 (κ := κ) (νc := νc) (lv := lv) g2)
  have g3 := R.2.1.1
  by_cases hb : nS < 4
  · have rng : ∀ x : Int32, (¬ x < 1 ∧ ¬ (6 : Int32) < x) → ∃ c, (1 ≤ c ∧ c ≤ 6) ∧ x = Int32.ofNat c := fun x g => by
      have q := ra_I g
      have i1 : (1 : Int32).toInt = 1 := rfl
      have i2 : (6 : Int32).toInt = 6 := rfl
      exact ⟨x.toNatClampNeg, by show 1 ≤ x.toInt.toNat ∧ x.toInt.toNat ≤ 6; omega, (Int32.ofNat_toNatClampNeg _ (Int32.le_iff_toInt_le.mpr (by show (0 : Int) ≤ _; omega))).symm⟩
    obtain ⟨c, hc, rfl⟩ := rng x1 g1
    obtain ⟨r, hr, rfl⟩ := rng x2 g2
    obtain ⟨h2, f1, S1⟩ := S0_seat S R' V hb c1 c2
    have gr : ¬ κ 1 3 = 0 → lv 1001 = true := fun g => (g3.2.2.1 (by
      rcases Nat.eq_zero_or_pos nS with q | q
      · exact absurd (g3.2.2.2 q) g
      · exact q)).1
    obtain ⟨q1, q2, q3⟩ := kLi_h (κ := κ) (L := 1) (c := nS)
    have lt : ∀ x, nwS κ nS x = true → lvN (nwS κ nS) lv x = true := fun x hx => by
      unfold lvN
      rw [hx]
      exact Bool.or_true _
    have kno : ∀ o, ¬ FK (100 * (nS + 1)) o → kS κ (Int32.ofNat c) (Int32.ofNat r) nS o = kLi κ 1 nS o := fun o ho => by
      unfold kS
      rw [if_neg (fun q => ho (soff_FK q.1 q.2))]
    obtain ⟨M, hM⟩ : ∃ M, M = zset (zset (zset (zset (zset μ 0 33 0) 1 nS (Int32.ofNat c)) 2 nS (Int32.ofNat r)) 146 nS 20) 0 30 (Int32.ofNat (nS + 1)) := ⟨_, rfl⟩
    have mm : ∀ o i, ¬ (o = 0 ∧ i = 33) → ¬ (o = 0 ∧ i = 30) → ¬ (o = 1 ∧ i = nS) → ¬ (o = 2 ∧ i = nS) → ¬ (o = 146 ∧ i = nS) → M o i = μ o i := fun o i a0 a1 a2 a3 a4 => by rw [hM, zset_e a1, zset_e a4, zset_e a3, zset_e a2, zset_e a0]
    have z33 : M 0 33 = 0 := by rw [hM, zset_e (by omega), zset_e (by omega), zset_e (by omega), zset_e (by omega), zset_h]
    have Z : Zs M nS := by
      obtain ⟨z1, z2, z3, z4, z5, z6, z7⟩ := R.2.2.2.1 nS (Nat.le_refl _) hb
      unfold Zs
      rw [mm _ _ (by omega) (by omega) (by omega) (by omega) (by omega), mm _ _ (by omega) (by omega) (by omega) (by omega) (by omega), mm _ _ (by omega) (by omega) (by omega) (by omega) (by omega), mm _ _ (by omega) (by omega) (by omega) (by omega) (by omega), mm _ _ (by omega) (by omega) (by omega) (by omega) (by omega)]
      exact ⟨z1, z2, z3, z4, z5, fun x y hx hy => by rw [mm _ _ (by omega) (by omega) (by omega) (by omega) (by omega)]; exact z6 x y hx hy, fun k hk => by rw [mm _ _ (by omega) (by omega) (by omega) (by omega) (by omega)]; exact z7 k hk⟩
    have N := RS_new (lv := lvN (nwS κ nS) lv) (κ := kS κ (Int32.ofNat c) (Int32.ofNat r) nS) (νc := νc) (μ := M) (ν := ν) (H := H + 20000) (S := 100 * (nS + 1)) (s := nS) (c := c) (r := r) (As_ids hb (fun x hx h => lt x (nwS_t (Or.inl (ids_in hb hx h))))) hb hc hr (by rw [hM, zset_e (by omega), zset_e (by omega), zset_e (by omega), zset_h]) (by rw [hM, zset_e (by omega), zset_e (by omega), zset_h]) (by rw [hM, zset_e (by omega), zset_h]) Z (by rw [kS_d (d := 1) rfl (by decide)]; rfl) (by rw [kS_d (d := 1) rfl (by decide)]; rfl) (by rw [kS_d (d := 1) rfl (by decide)]; rfl) (fun k hk => by rw [kS_d (d := 1001) rfl (by decide)]; exact if_pos hk) (fun k hk => by rw [kS_d (d := 2001) rfl (by decide)]; exact if_pos hk) (fun i => by rw [kS_d (d := 1002) rfl (by decide)]; rfl) (fun i => by rw [kS_d (d := 1003) rfl (by decide)]; rfl) (by rw [kS_d (d := 4) rfl (by decide)]; rfl) (by rw [kS_d (d := 4) rfl (by decide)]; rfl) (by rw [kS_d (d := 6) rfl (by decide)]; rfl) (by rw [kS_d (d := 6) rfl (by decide)]; rfl) (fun i => by rw [kS_d (d := 1007) rfl (by decide)]; rfl) (fun i => by rw [kS_d (d := 1008) rfl (by decide)]; rfl) (by rw [kS_d (d := 8) rfl (by decide)]; rfl) (by rw [kS_d (d := 8) rfl (by decide)]; rfl) (by rw [kS_d (d := 8) rfl (by decide)]; rfl) (by rw [kS_d (d := 8) rfl (by decide)]; rfl) (by rw [kS_d (d := 8) rfl (by decide)]; rfl) (by rw [kS_d (o := 100 * (nS + 1)) (d := 0) rfl (by decide)]; rfl)
    have k1 : kS κ (Int32.ofNat c) (Int32.ofNat r) nS 1 = kLi κ 1 nS 1 := kno 1 (by unfold FK; omega)
    have RS := RR_seatN (c := c) (r := r) (lv' := lvN (nwS κ nS) lv) (κ' := kS κ (Int32.ofNat c) (Int32.ofNat r) nS) (νc' := νc) (μ' := M) (fun o ho => by unfold lvN; rw [ho]; rfl) hb (by
      by_cases g : κ 1 3 = 0
      · exact lt _ (nwS_t (Or.inr ⟨rfl, g⟩))
      · unfold lvN
        rw [gr g]
        rfl) (fun o h1 h2 => by rw [kno o h2, kLi_o h1]) (fun o _ => rfl) (by rw [k1, q2]) (by rw [k1, q3]; decide) (fun o i a1 a2 a3 a4 => by
        rw [hM, zset_e a1, zset_e a4, zset_e a3, zset_e a2]) (by rw [hM, zset_h]) N (RR_t 0 R')
    refine wrap2_v (fx := f_X9_seat t0 base (Int32.ofNat c) (Int32.ofNat r) h n) (X := fun k h3 n3 => if k = 0 then some ((1 : Int32), h3, n3) else (if k = 1 then some ((2 : Int32), h3, n3) else none)) (fm := fun h' => f_X10_seat am (Int32.ofNat c) (Int32.ofNat r) h') S R.1.1 f1 S1 ⟨RS, fun s h1 h2 o ho => ?_⟩ z33 (em (by rw [hM]; exact em_seat1 hb h30 (em_ra0 g1) (em_ra0 g2)))
    unfold lvN
    rw [V s (by omega) h2 o ho, nwS_n (by unfold FK at ho ⊢; omega) (by unfold FK at ho; omega)]
    rfl
  · have n4 : nS = 4 := by omega
    refine err (e := 1) (t := 2) ?_ (Or.inr ⟨rfl, rfl⟩) (em_seat4 (by rw [h30, n4]; rfl) (em_ra0 g1) (em_ra0 g2))
    have e2 := S0_cell S g3.1.1
    rw [li_cell g3.1.2, g3.2.1] at e2
    have hr : f_X9_needRoom (Int32.ofNat nS) 4 h = some (.inr 1) := by
      unfold f_X9_needRoom
      rw [if_neg (show ¬ Int32.ofNat nS < 4 from nlt (b := 4) (by omega))]
    unfold f_X9_seat f_Jx4a65c_size_8abf5
    rw [c1, zth_l, c2, zth_l, zgq_r (S0_root S R.1.1) rfl, zob_r e2, zgi_r e2 rfl, zb_s, hr, zth_r]
end ZXU
