section ZRC
variable {lv : Nat → Bool} {κ κ' : zzM} {νc νc' : zzN} {μ μ' : zzM} {ν ν' : zzN} {H H' : Int} {nS nB nK : Nat}
theorem nx_cases {S s t b c sg : Nat} (A : As lv S) (hB : Bd μ s) (hN : RN κ μ S s) (hV : Lv μ s t b c) (hG : RG κ μ S s sg) {a : Int32} (ha : a = 119 ∨ a = 115 ∨ a = 116 ∨ a = 108 ∨ a = 98 ∨ a = 99) : (g_X9_needNext lv S a κ νc = some (.inr 3) ∧ g_X10_mayCome (Int32.ofNat s) a μ ν = some 0) ∨ (g_X9_needNext lv S a κ νc = some (.inl ()) ∧ g_X10_mayCome (Int32.ofNat s) a μ ν = some 1 ∧ tCan (tLast μ s) (nL μ s) a = true ∧ sg = nD μ s) := by
  rw [ec_needNext A hB hN hV hG ha, em_mayCome hB (Lv_ch hV) ha]
  have hs := sg_iff hG
  cases hc : tCan (tLast μ s) (nL μ s) a with
  | false => exact Or.inl ⟨rfl, rfl⟩
  | true =>
    rw [if_pos rfl]
    by_cases h : sg = nD μ s
    · rw [if_pos h] at hs
      rw [hs]
      exact Or.inr ⟨rfl, rfl, rfl, h⟩
    · rw [if_neg h] at hs
      rw [hs]
      exact Or.inl ⟨rfl, rfl⟩
theorem wk_cases {S s t b c sg : Nat} (A : As lv S) (hB : Bd μ s) (hN : RN κ μ S s) (hV : Lv μ s t b c) (hG : RG κ μ S s sg) {a : Int32} (ha : a ≠ 32 ∧ a ≠ 45) : (g_X9_needInWork lv S a κ νc = some (.inr 3) ∧ g_X10_isLastOpen (Int32.ofNat s) a μ ν = some 0) ∨ (g_X9_needInWork lv S a κ νc = some (.inl ()) ∧ g_X10_isLastOpen (Int32.ofNat s) a μ ν = some 1 ∧ tLast μ s = a ∧ sg + 1 = nD μ s) := by
  rw [ec_needInWork A hB hN hV hG ha, em_lastOpen hB (Lv_ch hV)]
  have hs := sg_iff hG
  by_cases h : tLast μ s = a ∧ tSg μ s = 0
  · rw [if_pos h, if_pos h]
    refine Or.inr ⟨rfl, rfl, h.1, ?_⟩
    rw [h.2] at hs
    by_cases g : sg = nD μ s
    · rw [if_pos g] at hs; exact absurd hs (by decide)
    · exact hG.1.resolve_left g
  · rw [if_neg h, if_neg h]
    exact Or.inl ⟨rfl, rfl⟩
theorem em_cell1 {x : Int32} {s : Nat} (R : RR lv κ νc μ ν H nS nB nK) (hs : s < nS) (h : x < 0 ∨ (¬ x < 0 ∧ (Int32.ofNat (nC μ s) ≤ x / 10 ∨ (¬ Int32.ofNat (nC μ s) ≤ x / 10 ∧ ¬ zz_rem x 10 < Int32.ofNat (nR μ s))))) : g_X10_isNoCell (Int32.ofNat s) x μ ν = some 1 :=
  em_noCell1 R.1.2.2.2.2.2.1 R.1.2.1 hs (R.2.2.1 s hs).2.1 h
theorem cellIn_cases (x : Int32) (c r : Nat) (hc : c ≤ 6) (hr : r ≤ 6) : (g_X9_needCellIn lv x (Int32.ofNat c) (Int32.ofNat r) κ νc = some (.inr 2) ∧ (x < 0 ∨ (¬ x < 0 ∧ (Int32.ofNat c ≤ x / 10 ∨ (¬ Int32.ofNat c ≤ x / 10 ∧ ¬ zz_rem x 10 < Int32.ofNat r))))) ∨ ∃ a b, a < c ∧ b < r ∧ x = Int32.ofNat (10 * a + b) ∧ x / 10 = Int32.ofNat a ∧ zz_rem x 10 = Int32.ofNat b ∧ ¬ x < 0 ∧ g_X9_needCellIn lv x (Int32.ofNat c) (Int32.ofNat r) κ νc = some (.inl ()) := by
  unfold g_X9_needCellIn
  rw [zdv10, zdv10]
  rcases cell_cases x c r hc hr with ⟨a, b, ha, hb, e, e1, e2, e3⟩ | ⟨h, h2⟩
  · refine Or.inr ⟨a, b, ha, hb, e, e1, e2, e3, ?_⟩
    rw [e1, e2, ec_ix0 ha (by omega), zth_l, ec_ix0 hb (by omega), zth_l]
  · refine Or.inl ⟨?_, h2⟩
    rcases h with h | ⟨⟨h1, h3⟩, h⟩
    · rw [ec_ix1 h, zth_r]
    · have e : g_X9_needIndex lv (x / 10) (Int32.ofNat c) κ νc = some (.inl ()) := by
        unfold g_X9_needIndex g_X9_needIndex_9
        rw [if_neg h1, if_pos h3]
      rw [e, zth_l, ec_ix1 h, zth_r]
theorem cell_c {x : Int32} {s : Nat} (R : RR lv κ νc μ ν H nS nB nK) (hs : s < nS) : (g_X9_needCell lv (100 * (s + 1)) x κ νc = some (.inr 2) ∧ (x < 0 ∨ (¬ x < 0 ∧ (Int32.ofNat (nC μ s) ≤ x / 10 ∨ (¬ Int32.ofNat (nC μ s) ≤ x / 10 ∧ ¬ zz_rem x 10 < Int32.ofNat (nR μ s)))))) ∨ ∃ a b, a < nC μ s ∧ b < nR μ s ∧ x = Int32.ofNat (10 * a + b) ∧ x / 10 = Int32.ofNat a ∧ zz_rem x 10 = Int32.ofNat b ∧ ¬ x < 0 ∧ g_X9_needCell lv (100 * (s + 1)) x κ νc = some (.inl ()) := by
  obtain ⟨A, hB, hF, -⟩ := R.2.2.1 s hs
  obtain ⟨a8, a4, -⟩ := A
  obtain ⟨-, ⟨hc, hc1, hc6⟩, ⟨hr, hr1, hr6⟩, -⟩ := hB
  unfold g_X9_needCell
  rw [cg a8, cg a4, cg a8, cg a4, hF.1, hF.2]
  have hc' : μ 1 s = Int32.ofNat (nC μ s) := hc
  have hr' : μ 2 s = Int32.ofNat (nR μ s) := hr
  rw [hc', hr']
  rcases cellIn_cases (lv := lv) (κ := κ) (νc := νc) x (nC μ s) (nR μ s) hc6 hr6 with ⟨h1, h2⟩ | ⟨a, b, ha, hb, e, e1, e2, e3, h⟩
  · exact Or.inl ⟨by rw [h1, zth_r], h2⟩
  · exact Or.inr ⟨a, b, ha, hb, e, e1, e2, e3, by rw [h, zth_l]⟩
theorem em_cell0 {x : Int32} {s a b : Nat} (R : RR lv κ νc μ ν H nS nB nK) (hs : s < nS) (ha : a < nC μ s) (hb : b < nR μ s) (hd : x / 10 = Int32.ofNat a) (hm : zz_rem x 10 = Int32.ofNat b) (hx : ¬ x < 0) : g_X10_isNoCell (Int32.ofNat s) x μ ν = some 0 :=
  em_noCell0 R.1.2.2.2.2.2.1 R.1.2.1 hs (R.2.2.1 s hs).2.1 ha hb hx hd hm
theorem ec_closed {S s t b c : Nat} (A : As lv S) (hB : Bd μ s) (hN : RN κ μ S s) (hV : Lv μ s t b c) : g_X9_needClosed lv S κ νc = some (if tLast μ s = 99 then .inl () else .inr 3) := by
  have h := ec_hasCover (νc := νc) A hB hN hV
  unfold g_X9_needClosed
  rw [cg A.1, h, zb_s]
  by_cases g : tLast μ s = 99
  · rw [if_pos g, if_pos g, if_neg (by decide)]
  · rw [if_neg g, if_neg g, if_pos rfl]
theorem ec_needSp {S s : Nat} (A : As lv S) (hN : RN κ μ S s) : g_X9_needSprings lv S κ νc = some (if μ 3 s ≤ 1 then .inr 3 else .inl ()) := by
  unfold g_X9_needSprings
  rw [cg A.1, ec_hasSprings A hN, zb_s]
  by_cases g : μ 3 s ≤ 1
  · rw [if_pos g, if_pos g, if_pos rfl]
  · rw [if_neg g, if_neg g, if_neg (by decide)]
theorem ec_count {S s : Nat} (A : As lv S) (hA : Al lv κ μ S s) : g_X2_count lv (S + 5) κ νc = some (μ 83 s) := by
  obtain ⟨a8, a4, ah, af, a9, a3, a0, -⟩ := A
  unfold g_X2_count
  rw [cg a3, cg a0, cg a0, hA.2.2.1]
theorem ly_cases {S s : Nat} (x : Int32) (A : As lv S) (hB : Bd μ s) (hA : Al lv κ μ S s) : (g_X9_layerOf lv S x κ νc = some (.inr 4) ∧ (x < 0 ∨ (¬ x < 0 ∧ ¬ x < Int32.ofNat (nL μ s)))) ∨ ∃ l, l < nL μ s ∧ x = Int32.ofNat l ∧ g_X9_layerOf lv S x κ νc = some (.inl (S + 20 + l)) := by
  have A' := A
  have hB' := hB
  obtain ⟨a8, a4, ah, af, a9, a3, a0, -⟩ := A
  obtain ⟨hs, -, -, -, hl, hl4⟩ := hB
  unfold g_X9_layerOf
  rw [cg a8, cg a3, ec_count A' hA, zb_s, hl]
  rcases ix_cases x (nL μ s) (by omega) with h | ⟨l, hl2, rfl⟩
  · exact Or.inl ⟨by rw [ec_el1 h, zth_r], h⟩
  · refine Or.inr ⟨l, hl2, rfl, ?_⟩
    rw [ec_el0 hl2 (by omega), zth_l, cg a8, cg a3, cg a0, cg_ly A' hB' hA hl2, cg (hA.1 l hl2)]
theorem em_noLayerS {n : Nat} {x y : Int32} (h30 : μ 0 30 = Int32.ofNat n) (hn : n ≤ 4) (h : x < 0 ∨ (¬ x < 0 ∧ ¬ x < Int32.ofNat n)) : g_X10_isNoLayer x y μ ν = some (1, zset μ 0 33 1, ν) := by
  unfold g_X10_isNoLayer g_X10_isNoLayer_42 g_X10_isNoLayer_47
  rw [em_noSeat1 h30 (by omega) h, zb_s, em_th1, zg1_s, if_neg (by decide), zgz1]
theorem em_noLayer1 {n s : Nat} {y : Int32} (h30 : μ 0 30 = Int32.ofNat n) (hn : n ≤ 4) (hs : s < n) (hB : Bd μ s) (h : y < 0 ∨ (¬ y < 0 ∧ ¬ y < Int32.ofNat (nL μ s))) : g_X10_isNoLayer (Int32.ofNat s) y μ ν = some (1, zset μ 0 33 2, ν) := by
  obtain ⟨hs4, -, -, -, hl, hl4⟩ := hB
  unfold g_X10_isNoLayer g_X10_isNoLayer_42 g_X10_isNoLayer_47 g_X10_isNoLayer_35
  rw [em_noSeat0 h30 (by omega) hs, zb_s, em_th0, zg1_s, if_pos rfl, gi83 hs4, zset_e (by omega), hl, em_ix0 (by omega) h, zb_s, if_pos rfl, em_th1, zset_2, zg1_s, if_neg (by decide)]
  exact zgz1
theorem em_noLayer0 {n s l : Nat} (h30 : μ 0 30 = Int32.ofNat n) (hn : n ≤ 4) (hs : s < n) (hB : Bd μ s) (h : l < nL μ s) : g_X10_isNoLayer (Int32.ofNat s) (Int32.ofNat l) μ ν = some (0, zset μ 0 33 0, ν) := by
  obtain ⟨hs4, -, -, -, hl, hl4⟩ := hB
  unfold g_X10_isNoLayer g_X10_isNoLayer_35 g_X10_isNoLayer_47
  rw [em_noSeat0 h30 (by omega) hs, zb_s, em_th0, zg1_s, if_pos rfl, gi83 hs4, zset_e (by omega), hl, em_ix1 (by omega) h, zb_s, if_neg (by decide), em_th0, zset_2, zg1_s, if_pos rfl]
  exact zgz0
theorem em_noStepS {n : Nat} {x y : Int32} (h30 : μ 0 30 = Int32.ofNat n) (hn : n ≤ 4) (h : x < 0 ∨ (¬ x < 0 ∧ ¬ x < Int32.ofNat n)) : g_X10_isNoStep x y μ ν = some (1, zset μ 0 33 1, ν) := by
  unfold g_X10_isNoStep g_X10_isNoStep_42 g_X10_isNoStep_47
  rw [em_noSeat1 h30 (by omega) h, zb_s, em_th1, zg1_s, if_neg (by decide), zgz1]
theorem em_noStep1 {n s : Nat} {y : Int32} (h30 : μ 0 30 = Int32.ofNat n) (hn : n ≤ 4) (hs : s < n) (hB : Bd μ s) (h : y < 0 ∨ (¬ y < 0 ∧ ¬ y < Int32.ofNat (nD μ s))) : g_X10_isNoStep (Int32.ofNat s) y μ ν = some (1, zset μ 0 33 2, ν) := by
  obtain ⟨hs4, -, -, ⟨hd, hd9⟩, -⟩ := hB
  unfold g_X10_isNoStep g_X10_isNoStep_42 g_X10_isNoStep_47 g_X10_isNoStep_35
  rw [em_noSeat0 h30 (by omega) hs, zb_s, em_th0, zg1_s, if_pos rfl, gi3 hs4, zset_e (by omega), hd, em_ix0 (by omega) h, zb_s, if_pos rfl, em_th1, zset_2, zg1_s, if_neg (by decide)]
  exact zgz1
theorem em_noStep0 {n s l : Nat} (h30 : μ 0 30 = Int32.ofNat n) (hn : n ≤ 4) (hs : s < n) (hB : Bd μ s) (h : l < nD μ s) : g_X10_isNoStep (Int32.ofNat s) (Int32.ofNat l) μ ν = some (0, zset μ 0 33 0, ν) := by
  obtain ⟨hs4, -, -, ⟨hd, hd9⟩, -⟩ := hB
  unfold g_X10_isNoStep g_X10_isNoStep_35 g_X10_isNoStep_47
  rw [em_noSeat0 h30 (by omega) hs, zb_s, em_th0, zg1_s, if_pos rfl, gi3 hs4, zset_e (by omega), hd, em_ix1 (by omega) h, zb_s, if_neg (by decide), em_th0, zset_2, zg1_s, if_pos rfl]
  exact zgz0
theorem Bd_t {s : Nat} {t : Int32} (h : Bd μ s) : Bd (zset μ 0 33 t) s := (Bd_m (ν := fun _ _ => 0) (ν' := fun _ _ => 0) ⟨fun o i hf => zset_e (by unfold FP at hf; omega), fun _ => rfl⟩ h).1
end ZRC
