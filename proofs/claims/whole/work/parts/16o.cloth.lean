section ZXO
/-! cloth: its case -/
variable {ad : Nat → Nat} {iv : Nat → Option Nat} {lv : Nat → Bool} {t0 base am ao an : Nat} {κ : zzM} {νc : zzN} {μ : zzM} {ν : zzN} {H : Int} {nS nB nK : Nat} {h : zz_H} {n : Nat}
theorem em_cloth1 {L r : Nat} (hb : nK < 4) (e : μ 0 32 = Int32.ofNat nK) (h1 : g_X10_isIn (Int32.ofNat L) 50 2000 μ ν = some 1) (h2 : g_X10_isIn (Int32.ofNat r) 1 60 μ ν = some 1) : g_X10_cloth (Int32.ofNat L) (Int32.ofNat r) μ ν = some (Int32.ofNat nK, zset (zset (zset (zset μ 0 33 0) 169 nK (Int32.ofNat L)) 170 nK (Int32.ofNat r)) 0 32 (Int32.ofNat (nK + 1)), ν) := by
  have e0 : zset μ 0 33 0 0 32 = Int32.ofNat nK := by rw [zset_e (by omega)]; exact e
  have z0 : zset μ 0 33 0 0 33 = 0 := zset_h
  unfold g_X10_cloth g_X10_cloth_28 g_X10_cloth_49
  rw [h1, zb_s, if_neg (by decide), h2, zb_s, if_neg (by decide), em_th0, zg1_s, if_pos rfl]
  generalize zset μ 0 33 0 = m at e0 z0 ⊢
  have a1 : zset m 169 nK (Int32.ofNat L) 0 32 = Int32.ofNat nK := by rw [zset_e (by omega)]; exact e0
  have a2 : zset (zset m 169 nK (Int32.ofNat L)) 170 nK (Int32.ofNat r) 0 32 = Int32.ofNat nK := by rw [zset_e (by omega)]; exact a1
  rw [e0, if_neg (show ¬ Int32.ofNat nK = 4 from pne (b := 4) (by omega)), em_thz _ z0, zg1_s, if_pos rfl, e0, gs169 hb, a1, gs170 hb, zset_h, a2, on_s, on_p _ (by omega), Nat.add_sub_cancel]
theorem em_cloth0 {x1 x2 : Int32} (h : g_X10_isIn x1 50 2000 μ ν = some 0 ∨ (g_X10_isIn x1 50 2000 μ ν = some 1 ∧ g_X10_isIn x2 1 60 μ ν = some 0)) : g_X10_cloth x1 x2 μ ν = some (0, zset μ 0 33 1, ν) := by
  unfold g_X10_cloth g_X10_cloth_23 g_X10_cloth_28 g_X10_cloth_56
  rcases h with h | ⟨h, h2⟩
  · rw [h, zb_s, if_pos rfl, em_th1, zg1_s, if_neg (by decide)]
  · rw [h, zb_s, if_neg (by decide), h2, zb_s, if_pos rfl, em_th1, zg1_s, if_neg (by decide)]
theorem zset_tt {o i : Nat} {x y : Int32} : zset (zset μ o i x) o i y = zset μ o i y := by
  funext o' i'
  unfold zset
  by_cases g : o' = o ∧ i' = i
  · rw [if_pos g, if_pos g]
  · rw [if_neg g, if_neg g, if_neg g]
theorem em_cloth4 {x1 x2 : Int32} (e : μ 0 32 = 4) (h1 : g_X10_isIn x1 50 2000 μ ν = some 1) (h2 : g_X10_isIn x2 1 60 μ ν = some 1) : g_X10_cloth x1 x2 μ ν = some (0, zset μ 0 33 2, ν) := by
  have e0 : zset μ 0 33 0 0 32 = 4 := by rw [zset_e (by omega)]; exact e
  unfold g_X10_cloth g_X10_cloth_28 g_X10_cloth_49 g_X10_cloth_56
  rw [h1, zb_s, if_neg (by decide), h2, zb_s, if_neg (by decide), em_th0, zg1_s, if_pos rfl, e0, if_pos rfl, em_th1, zg1_s, if_neg (by decide), zset_tt]
theorem f_rng (S : S0 ad iv lv t0 base am ao an κ νc μ ν h n) {x a b : Int32} {r : Unit ⊕ Nat} (e : g_X9_needRange lv x a b κ νc = some r) : f_X9_needRange x a b h = some r := by
  have q := sc_X9_needRange S.1 S.2.1 (h := h) (t0 := t0) (x0 := x) (x1 := a) (x2 := b) (κ := κ) (ν := νc)
  rw [S0_hc S] at q
  exact q _ e
theorem cw_27 (S : S0 ad iv lv t0 base am ao an κ νc μ ν h n) (R : RR lv κ νc μ ν H nS nB nK) (V : LV lv nS) (hH9 : H + 20000 ≤ 100000000) (x1 x2 x3 x4 : Int32) : w_27 t0 base am ao an x1 x2 x3 x4 h n (Jx t0 base am ao an (H + 20000)) := by
  have R' := RR_up (H' := H + 20000) (by omega) hH9 R
  have k4 := R.1.2.2.2.1
  have h32 := R.1.2.2.2.2.2.2.2
  have em : ∀ {v : Int32} {μ' : zzM}, g_X10_cloth x1 x2 μ ν = some (v, μ', ν) → ∀ h', zk h' am μ ν = h' → f_X10_cloth am x1 x2 h' = some (v, zk h' am μ' ν) := fun e h' hk => by
    have e2 := sm_X10_cloth (h := h') (am := am) (x1 := x1) (x2 := x2) (μ := μ) (ν := ν)
    rw [hk] at e2
    exact e2 _ e
  have err : ∀ {e : Nat} {t : Int32}, f_X9_cloth t0 base x1 x2 h n = some (.inr e, h, n) → ((e = 0 ∧ t = 1) ∨ (e = 1 ∧ t = 2)) → g_X10_cloth x1 x2 μ ν = some (0, zset μ 0 33 t, ν) → w_27 t0 base am ao an x1 x2 x3 x4 h n (Jx t0 base am ao an (H + 20000)) := fun {e t} f0 he e2 => by
    refine wrap2_e (e := e) (t := t) (v := 0) (fx := f_X9_cloth t0 base x1 x2 h n) (X := fun k h3 n3 => if k = 0 then some ((1 : Int32), h3, n3) else (if k = 1 then some ((2 : Int32), h3, n3) else none)) (fm := fun h' => f_X10_cloth am x1 x2 h') S R' V f0 ?_ ?_ (em e2)
    · rcases he with ⟨rfl, rfl⟩ | ⟨rfl, rfl⟩ <;> rfl
    · rcases he with ⟨rfl, rfl⟩ | ⟨rfl, rfl⟩ <;> decide
  rcases ra_cases x1 50 2000 with g1 | g1
  · refine err (e := 0) (t := 1) ?_ (Or.inl ⟨rfl, rfl⟩) (em_cloth0 (Or.inl (em_ra1 g1)))
    unfold f_X9_cloth
    rw [f_rng S (ec_ra1 g1), zth_r]
  have c1 := f_rng S (ec_ra0 (κ := κ) (νc := νc) (lv := lv) g1)
  rcases ra_cases x2 1 60 with g2 | g2
  · refine err (e := 0) (t := 1) ?_ (Or.inl ⟨rfl, rfl⟩) (em_cloth0 (Or.inr ⟨em_ra0 g1, em_ra1 g2⟩))
    unfold f_X9_cloth
    rw [c1, zth_l, f_rng S (ec_ra1 g2), zth_r]
  have c2 := f_rng S (ec_ra0 (κ := κ) (νc := νc) (lv := lv) g2)
  have g3 := R.2.1.2.2.1
  by_cases hb : nK < 4
  · obtain ⟨L, hL, rfl⟩ : ∃ L, L ≤ 2000 ∧ x1 = Int32.ofNat L := by
      have q := ra_I g1
      have i1 : (50 : Int32).toInt = 50 := rfl
      have i2 : (2000 : Int32).toInt = 2000 := rfl
      exact ⟨x1.toNatClampNeg, by show x1.toInt.toNat ≤ 2000; omega, (Int32.ofNat_toNatClampNeg _ (Int32.le_iff_toInt_le.mpr (by show (0 : Int) ≤ _; omega))).symm⟩
    obtain ⟨r, hr, rfl⟩ : ∃ r, (1 ≤ r ∧ r ≤ 60) ∧ x2 = Int32.ofNat r := by
      have q := ra_I g2
      have i1 : (1 : Int32).toInt = 1 := rfl
      have i2 : (60 : Int32).toInt = 60 := rfl
      exact ⟨x2.toNatClampNeg, by show 1 ≤ x2.toInt.toNat ∧ x2.toInt.toNat ≤ 60; omega, (Int32.ofNat_toNatClampNeg _ (Int32.le_iff_toInt_le.mpr (by show (0 : Int) ≤ _; omega))).symm⟩
    obtain ⟨h2, f1, S1⟩ := S0_cloth S R' V hb c1 c2
    have gr : ¬ κ 3 3 = 0 → lv 1003 = true := fun g => (g3.2.2.1 (by
      rcases Nat.eq_zero_or_pos nK with q | q
      · exact absurd (g3.2.2.2 q) g
      · exact q)).1
    obtain ⟨q1, q2, q3⟩ := kLi_h (κ := κ) (L := 3) (c := nK)
    have kb2 : kC κ L r nK 3 = kLi κ 3 nK 3 := by
      unfold kC
      rw [if_neg (by omega), if_neg (by omega)]
    have kz : kC κ L r nK (700 + nK) = fun i => if i = 0 then Int32.ofNat L else if i = 1 then Int32.ofNat r else 0 := by
      unfold kC
      rw [if_neg (by omega), if_pos rfl]
    have lt : ∀ x, nwC κ nK x = true → lvN (nwC κ nK) lv x = true := fun x hx => by
      unfold lvN
      rw [hx]
      exact Bool.or_true _
    have RC := RR_cloth (lv' := lvN (nwC κ nK) lv) (κ' := kC κ L r nK) (fun o ho => by unfold lvN; rw [ho]; rfl) hb hL hr (lt _ (nwC_t (Or.inl rfl))) (lt _ (nwC_t (Or.inr (Or.inl rfl)))) (by
      by_cases g : κ 3 3 = 0
      · exact lt _ (nwC_t (Or.inr (Or.inr ⟨rfl, g⟩)))
      · unfold lvN
        rw [gr g]
        rfl) (fun o h1 h2 h3 => by
        unfold kC
        rw [if_neg h3, if_neg h2, kLi_o h1]) (by rw [kb2, q2]) (by rw [kb2, q3]; decide) (by rw [kz]; rfl) (by rw [kz]; rfl) (by rw [kz]; rfl) (by rw [kz]; rfl) (RR_t 0 R')
    refine wrap2_v (fx := f_X9_cloth t0 base (Int32.ofNat L) (Int32.ofNat r) h n) (X := fun k h3 n3 => if k = 0 then some ((1 : Int32), h3, n3) else (if k = 1 then some ((2 : Int32), h3, n3) else none)) (fm := fun h' => f_X10_cloth am (Int32.ofNat L) (Int32.ofNat r) h') S R.1.1 f1 S1 ⟨RC, fun s h1 h2 o ho => ?_⟩ ?_ (em (em_cloth1 hb h32 (em_ra0 g1) (em_ra0 g2)))
    · unfold lvN
      rw [V s h1 h2 o ho, nwC_f (by unfold FK at ho; omega)]
      rfl
    · rw [zset_e (by omega), zset_e (by omega), zset_e (by omega), zset_h]
  · have n4 : nK = 4 := by omega
    refine err (e := 1) (t := 2) ?_ (Or.inr ⟨rfl, rfl⟩) (em_cloth4 (by rw [h32, n4]; rfl) (em_ra0 g1) (em_ra0 g2))
    have e2 := S0_cell S g3.1.1
    rw [li_cell g3.1.2, g3.2.1] at e2
    have hr : f_X9_needRoom (Int32.ofNat nK) 4 h = some (.inr 1) := by
      unfold f_X9_needRoom
      rw [if_neg (show ¬ Int32.ofNat nK < 4 from nlt (b := 4) (by omega))]
    unfold f_X9_cloth f_Jx4a65c_size_8abf5
    rw [c1, zth_l, c2, zth_l, zgq_r (S0_root S R.1.1) rfl, zob_r e2, zgi_r e2 rfl, zb_s, hr, zth_r]
end ZXO
