section ZWI
/-! flaws; use and pounding -/
variable {lv : Nat → Bool} {κ κ' : zzM} {νc νc' : zzN} {μ μ' : zzM} {ν ν' : zzN} {H H' : Int} {nS nB nK : Nat}
def wF (fl : Nat → Nat) (p : Nat) (q : Bool) : Nat → Bool
  | 0 => q
  | k + 1 => wF fl p q k || decide (fl k = p)
theorem wF_t {fl : Nat → Nat} {p : Nat} : ∀ n, wF fl p true n = true
  | 0 => rfl
  | n + 1 => by show (wF fl p true n || _) = true; rw [wF_t n, Bool.true_or]
theorem wF_e {fl : Nat → Nat} {p i : Nat} {q : Bool} (h : fl i = p) : ∀ n, i < n → wF fl p q n = true
  | 0, hi => absurd hi (by omega)
  | n + 1, hi => by
    show (wF fl p q n || decide (fl n = p)) = true
    by_cases g : i = n
    · rw [← g, decide_eq_true h, Bool.or_true]
    · rw [wF_e h n (by omega), Bool.true_or]
theorem wF_n {fl : Nat → Nat} {p : Nat} : ∀ n, (∀ i, i < n → fl i ≠ p) → wF fl p false n = false
  | 0, _ => rfl
  | n + 1, h => by
    show (wF fl p false n || decide (fl n = p)) = false
    rw [wF_n n (fun i hi => h i (by omega)), decide_eq_false (h n (by omega)), Bool.false_or]
theorem op_flaw (R : RR lv κ νc μ ν H nS nB nK) (x1 x2 : Int32) : Op1 lv H nS nB nK cd_flaw (g_X9_flaw lv 0 x1 x2 κ νc) (g_X10_flaw x1 x2 μ ν) := by
  have r0 := R.1.1
  have h32 := R.1.2.2.2.2.2.2.2
  have k4 := R.1.2.2.2.1
  unfold g_X9_flaw g_X9_flaw_33 g_X10_flaw g_X10_flaw_31 g_X10_flaw_36 g_X10_flaw_60
  rw [h32]
  rcases ix_cases x1 nK (by omega) with h | ⟨j, hj, rfl⟩
  · exact Op1_e R (by rw [cg r0, ec_clothOf1 R h, zth_r]) (by rw [em_ix0 (by omega) h, zb_s, if_pos rfl, em_th1, zg1_s, if_neg (by decide)]) rfl (by decide)
  have hj4 : j < 4 := by omega
  obtain ⟨ck0, u0, -⟩ := R.2.2.2.2.2.2.1 j hj
  rw [cg r0, ec_clothOf0 R hj, zth_l, em_ix1 (by omega) hj, zb_s, if_neg (show ¬ (1 : Int32) = 0 by decide), cg ck0.1, u0.1, gi169 hj4, u0.2.1]
  rcases ix_cases x2 (cL μ j) (by omega) with h | ⟨p, hp, rfl⟩
  · exact Op1_e R (by rw [ec_ix1 h, zth_r]) (by rw [em_ix0 (by omega) h, zb_s, if_pos rfl, em_th1, zg1_s, if_neg (by decide)]) rfl (by decide)
  rw [ec_ix0 hp (by omega), zth_l, em_ix1 (by omega) hp, zb_s, if_neg (show ¬ (1 : Int32) = 0 by decide), em_th0, zg1_s, if_pos rfl]
  have eL : cL (zset μ 0 33 0) j = cL μ j := rfl
  rw [← eL] at hp
  have R1 := RR_t 0 R
  have z1 : zset μ 0 33 0 0 33 = 0 := zset_h
  clear R h32 ck0 u0 eL
  generalize zset μ 0 33 0 = m1 at R1 z1 hp ⊢
  obtain ⟨ck, k0, k1, k3, k5, k6⟩ := R1.2.2.2.2.2.2.1 j hj
  obtain ⟨v, ev, hv⟩ := ec_lastFlaw (κ := κ) (νc := νc) (a := p) (e := p + 1) ck (k3.1.trans k3.2.1) k3.2.2 (fun i hi => ⟨(k6 i hi).1.trans (k6 i hi).2.1, by have := (k6 i hi).2.2; omega⟩) (by omega) (by omega)
  have lp : ∀ (q : Bool) (r : Int32 × zzM × zzN), (if wF (fL m1 j) p q (cF m1 j) = true then some (0, zset m1 0 33 2, ν) else (if cF m1 j = 10 then g_X10_flaw_128 (Int32.ofNat j) (Int32.ofNat p) 1 m1 ν else g_X10_flaw_128 (Int32.ofNat j) (Int32.ofNat p) 0 m1 ν)) = some r → zz_it (fun s : (Int32 × Int32) => g_X10_flaw_64 (Int32.ofNat j) (Int32.ofNat p) s.1 s.2 m1 ν) zz_F ((if q = true then 1 else 0), (0 : Int32)) = some r := by
    intro q r hr
    refine zfor (cF m1 j) (fun k => ((if wF (fL m1 j) p q k = true then (1 : Int32) else 0), Int32.ofNat k)) (fun k hk => ?_) ?_ (by omega)
    · show g_X10_flaw_64 (Int32.ofNat j) (Int32.ofNat p) (if wF (fL m1 j) p q k = true then (1 : Int32) else 0) (Int32.ofNat k) m1 ν = some (.inl ((if wF (fL m1 j) p q (k + 1) = true then (1 : Int32) else 0), Int32.ofNat (k + 1)))
      unfold g_X10_flaw_64 g_X10_flaw_94
      obtain ⟨w1, w2, w3⟩ := k6 k hk
      rw [gi172 hj4, k3.2.1, if_neg (nle (by omega)), gq173 hj4, gi173 hj4 (by omega), w2, on_s]
      have e2 : wF (fL m1 j) p q (k + 1) = (wF (fL m1 j) p q k || decide (fL m1 j k = p)) := rfl
      rw [e2]
      by_cases g : fL m1 j k = p
      · rw [decide_eq_true g, Bool.or_true, if_pos (show Int32.ofNat (fL m1 j k) = Int32.ofNat p by rw [g])]
        cases wF (fL m1 j) p q k <;> rfl
      · rw [decide_eq_false g, Bool.or_false, if_neg (pne (by omega))]
        cases wF (fL m1 j) p q k <;> rfl
    · show g_X10_flaw_64 (Int32.ofNat j) (Int32.ofNat p) (if wF (fL m1 j) p q (cF m1 j) = true then (1 : Int32) else 0) (Int32.ofNat (cF m1 j)) m1 ν = _
      unfold g_X10_flaw_64
      rw [gi172 hj4, k3.2.1, if_pos (ple (by omega))]
      cases hw : wF (fL m1 j) p q (cF m1 j) with
      | true =>
        rw [hw, if_pos rfl] at hr
        rw [if_pos rfl, em_th1, zg1_s, if_neg (by decide)]
        unfold g_X10_flaw_135
        cases hr
        rfl
      | false =>
        rw [hw, if_neg (by decide)] at hr
        rw [if_neg (show ¬ false = true by decide), em_thz _ z1, zg1_s, if_pos rfl, gi172 hj4, k3.2.1]
        by_cases g10 : cF m1 j = 10
        · rw [if_pos g10] at hr
          rw [if_pos (show Int32.ofNat (cF m1 j) = 10 by rw [g10]; rfl), hr]
          rfl
        · rw [if_neg g10] at hr
          rw [if_neg (show ¬ Int32.ofNat (cF m1 j) = 10 from pne (b := 10) (by omega)), hr]
          rfl
  have hcu : κ (700 + j) 4 = Int32.ofNat (cU m1 j) := k5.1.trans k5.2.1
  rw [cg ck.1, hcu, gi171 hj4, k5.2.1]
  by_cases gc : p < cU m1 j
  · exact Op1_e R1 (v := 0) (by rw [if_pos (plt (by omega))]) (by rw [if_neg (nle (by omega))]; exact lp true _ (by rw [wF_t, if_pos rfl])) rfl (by decide)
  rw [if_neg (nlt (by omega)), if_pos (ple (by omega)), cg ck.1]
  have ehf : g_X0_hasFlaw lv (700 + j) (Int32.ofNat p) (Int32.ofNat p + 1) κ νc = some (if v < 0 then 0 else 1) := by
    unfold g_X0_hasFlaw g_X0_hasFlaw_14
    rw [cg ck.1, on_s, ev, zb_s]
    by_cases g : v < 0
    · rw [if_pos g, if_pos g, zgz0]
    · rw [if_neg g, if_neg g, zgz1]
  rw [ehf, zb_s]
  rcases hv with ⟨rfl, hv⟩ | ⟨i, hi, rfl, hv1, hv2⟩
  · have hno : wF (fL m1 j) p false (cF m1 j) = false := wF_n _ (fun i hi q => hv i hi (by omega))
    rw [if_pos (show (-1 : Int32) < 0 by decide), if_pos rfl, cg ck.1, k3.1, k3.2.1]
    unfold g_X9_needRoom
    by_cases g10 : cF m1 j = 10
    · exact Op1_e R1 (v := 0) (by rw [if_neg (show ¬ Int32.ofNat (cF m1 j) < 10 from nlt (b := 10) (by omega)), zth_r]) (lp false _ (by rw [hno, if_neg (by decide), if_pos g10]; unfold g_X10_flaw_128 g_X10_flaw_135; rw [em_th1, zg1_s, if_neg (by decide)])) rfl (by decide)
    have h9 : cF m1 j < 10 := by have := k3.2.2; omega
    unfold g_X0_addFlaw g_X0_addFlaw_32
    obtain ⟨K, hK⟩ : ∃ K, K = zset (zset κ (700 + j + 1000) (cF m1 j) (Int32.ofNat p)) (700 + j) 3 (Int32.ofNat (cF m1 j + 1)) := ⟨_, rfl⟩
    obtain ⟨M, hM⟩ : ∃ M, M = zset (zset m1 (174 + j) (cF m1 j) (Int32.ofNat p)) 172 j (Int32.ofNat (cF m1 j + 1)) := ⟨_, rfl⟩
    refine Op1_v (κ' := K) (νc' := νc) (μ' := M) (ν' := ν) (v := Int32.ofNat (cF m1 j + 1)) ?_ ?_ ?_ ?_
    rotate_left
    · rw [hM, zset_e (by omega), zset_e (by omega)]; exact z1
    · have h3 : κ (700 + j) 3 = Int32.ofNat (cF m1 j) := k3.1.trans k3.2.1
      rw [if_pos (show Int32.ofNat (cF m1 j) < 10 from plt (b := 10) (by omega)), zth_l, cg ck.1, cg ck.1, cg ck.1, cl ck.2, h3, if_neg (nle (by omega)), cg ck.1, cg ck.1, cs ck.2 h9, cg ck.1, cg ck.1, cg ck.1, zset_h, zset_e (by omega), h3, on_s, zg1_s, hK]
    · refine lp false _ ?_
      rw [hno, if_neg (by decide), if_neg g10]
      unfold g_X10_flaw_128
      rw [em_thz _ z1, zg1_s, if_pos rfl, gq173 hj4, gi172 hj4, k3.2.1, gs173 hj4 h9, gi172 hj4, zset_e (by omega), k3.2.1, gs172 hj4, gi172 hj4, zset_h, on_s, hM]
    · have kk : ∀ o i, ¬ (o = 700 + j + 1000 ∧ i = cF m1 j) → ¬ (o = 700 + j ∧ i = 3) → K o i = κ o i := fun o i h1 h2 => by rw [hK, zset_e h2, zset_e h1]
      have ko : ∀ o, o ≠ 700 + j + 1000 → o ≠ 700 + j → K o = κ o := fun o h1 h2 => by rw [hK, zset_o h2, zset_o h1]
      have mm : ∀ o i, ¬ (o = 174 + j ∧ i = cF m1 j) → ¬ (o = 172 ∧ i = j) → M o i = m1 o i := fun o i h1 h2 => by rw [hM, zset_e h2, zset_e h1]
      have mc : M 172 j = Int32.ofNat (cF m1 j + 1) := by rw [hM, zset_h]
      have kc : K (700 + j) 3 = Int32.ofNat (cF m1 j + 1) := by rw [hK, zset_h]
      have mf : M (174 + j) (cF m1 j) = Int32.ofNat p := by rw [hM, zset_e (by omega), zset_h]
      have kf : K (700 + j + 1000) (cF m1 j) = Int32.ofNat p := by rw [hK, zset_e (by omega), zset_h]
      have ec : cF M j = cF m1 j + 1 := by
        show (M 172 j).toNatClampNeg = cF m1 j + 1
        rw [mc, on_n _ (by omega)]
      clear hK hM
      have b3 := R1.1.2.2.1
      have k4' := R1.1.2.2.2.1
      refine RR_out (fun o ho => ko o (by omega) (by omega)) (fun o i ho => mm o i (by omega) (by omega)) R1 (fun d hd2 => ?_) (fun d h1 h2 x' y' hx' hy' => ?_) (fun i hi => ?_) (fun i h1 h2 => ?_) (fun i hi => ?_) (fun i hi => ?_)
      · exact RB_c (ko _ (by omega) (by omega)) (fun x' y' hx' => mm _ _ (by omega) (by omega)) (R1.2.2.2.2.1 d hd2).2
      · rw [mm _ _ (by omega) (by omega)]
        exact R1.2.2.2.2.2.1 d h1 h2 x' y' hx' hy'
      · by_cases g : i = j
        · subst g
          have el : cL M i = cL m1 i := by unfold cL; rw [mm _ _ (by omega) (by omega)]
          have er : cR M i = cR m1 i := by unfold cR; rw [mm _ _ (by omega) (by omega)]
          have eu : cU M i = cU m1 i := by unfold cU; rw [mm _ _ (by omega) (by omega)]
          refine ⟨ck, ?_, ?_, ?_, ?_, fun k hk => ?_⟩
          · rw [kk _ _ (by omega) (by omega), mm _ _ (by omega) (by omega), el]; exact k0
          · rw [kk _ _ (by omega) (by omega), mm _ _ (by omega) (by omega), er]; exact k1
          · rw [kc, mc, ec]; exact ⟨rfl, rfl, by omega⟩
          · rw [kk _ _ (by omega) (by omega), mm _ _ (by omega) (by omega), eu, el]; exact k5
          · rw [ec] at hk
            rw [el]
            by_cases g2 : k = cF m1 i
            · rw [g2]
              have e : fL M i (cF m1 i) = p := by unfold fL; rw [mf, on_n _ (by omega)]
              rw [kf, mf, e]
              exact ⟨rfl, rfl, hp⟩
            · have e : fL M i k = fL m1 i k := by unfold fL; rw [mm _ _ (by omega) (by omega)]
              rw [kk _ _ (by omega) (by omega), mm _ _ (by omega) (by omega), e]
              exact k6 k (by omega)
        · exact RK_c (ko _ (by omega) (by omega)) (ko _ (by omega) (by omega)) (mm _ _ (by omega) (by omega)) (mm _ _ (by omega) (by omega)) (mm _ _ (by omega) (by omega)) (mm _ _ (by omega) (by omega)) (fun k => mm _ _ (by omega) (by omega)) (R1.2.2.2.2.2.2.1 i hi)
      · rw [mm _ _ (by omega) (by omega), mm _ _ (by omega) (by omega)]
        exact R1.2.2.2.2.2.2.2.1 i h1 h2
      · unfold RLn
        rw [ko _ (by omega) (by omega), mm _ _ (by omega) (by omega), mm _ _ (by omega) (by omega)]
        exact R1.2.2.2.2.2.2.2.2.1 i hi
      · by_cases g : i = j
        · subst g
          refine ⟨by unfold cR; rw [mm _ _ (by omega) (by omega)], by unfold cU; rw [mm _ _ (by omega) (by omega)], fun k hk => ?_⟩
          rw [ec] at hk
          by_cases g2 : k = cF m1 i
          · right
            have e : fL M i k = p := by unfold fL; rw [g2, mf, on_n _ (by omega)]
            omega
          · left
            refine ⟨by omega, ?_⟩
            unfold fL
            rw [mm _ _ (by omega) (by omega)]
        · exact hc_c (mm _ _ (by omega) (by omega)) (mm _ _ (by omega) (by omega)) (mm _ _ (by omega) (by omega)) (fun k => mm _ _ (by omega) (by omega))
  · have hfl := (k6 i hi).2.2
    rw [if_neg (on_nn _ (by omega)), if_neg (show ¬ (1 : Int32) = 0 by decide)]
    exact Op1_e R1 (v := 0) rfl (lp false _ (by rw [wF_e (i := i) (by omega) _ hi, if_pos rfl])) rfl (by decide)
end ZWI
