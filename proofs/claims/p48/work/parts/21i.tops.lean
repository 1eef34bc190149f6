section ZLI
variable {t0 base b L : Nat} {xs : Nat → Int32} {ow ow' : zz_H} {μ μ' : zzM} {ν ν' : zzN} {H : Int} {nK : Nat} {h h' : zz_H} {n n' : Nat} {c r d l lc hs : Nat} {la sg : Int32}
theorem dn_e {f b3 : Int32} {b6 : Int64} (h1 : hs ≤ 100000) (hf : 1 ≤ f.toInt ∧ f.toInt ≤ 9) (hb : b3.toInt = b6.toInt) (hb2 : 0 ≤ b3.toInt ∧ b3.toInt ≤ 1000) : (Int32.ofNat hs + b3 * f).toInt64 = (Int32.ofNat hs).toInt64 + b6 * f.toInt64 := by
  apply Int64.toInt_inj.mp
  have m1 : 0 ≤ b3.toInt * f.toInt := Int.mul_nonneg hb2.1 (by omega)
  have m2 : b3.toInt * f.toInt ≤ 1000 * 9 := Int.mul_le_mul hb2.2 hf.2 (by omega) (by omega)
  have e0 : (Int32.ofNat hs).toInt = (hs : Int) := Int32.toInt_ofNat_of_lt (by omega)
  have e1 : (b3 * f).toInt = b3.toInt * f.toInt := mul_I _ _ (by omega) (by omega)
  have e2 : (b6 * f.toInt64).toInt = b3.toInt * f.toInt := by
    rw [mul64 _ _ (by rw [Int32.toInt_toInt64, ← hb]; omega) (by rw [Int32.toInt_toInt64, ← hb]; omega), Int32.toInt_toInt64, ← hb]
  rw [Int32.toInt_toInt64, add_I _ _ (by rw [e0, e1]; omega) (by rw [e0, e1]; omega), add64 _ _ (by rw [Int32.toInt_toInt64, e0, e2]; omega) (by rw [Int32.toInt_toInt64, e0, e2]; omega), Int32.toInt_toInt64, e1, e2]
theorem th_e (q : PQ μ ν H nK) (h1 : hs ≤ 100000) {i : Nat} (hi : i < nL μ 0) (hν : ν (100 + 0) i = (Int32.ofNat hs).toInt64) : f_L_thickOf (μ (85 + 0) i) (μ (90 + 0) i) (μ (95 + 0) i) (Int32.ofNat hs) h = some (tTh μ ν 0 i) := by
  obtain ⟨z0, h30, h32, hB, -, hO, hVb, hH⟩ := q
  have hD := Vb_Dn hVb hH i hi
  obtain ⟨hk, -, hf, -⟩ := hVb.2.2.2.2 i hi
  unfold tTh
  unfold tDen tBy at hD ⊢
  rw [hν] at hD ⊢
  unfold f_L_thickOf f_L_thickOf_26
  rcases hk with hk | hk | hk
  · rw [if_pos hk] at hD ⊢
    rw [if_pos hk, dn_e (b6 := 1000) h1 hf (by decide) (by decide), zdl_p hD]
  · have n1 : ¬ μ (85 + 0) i = 104 := by rw [hk]; decide
    rw [if_neg n1, if_pos hk] at hD ⊢
    rw [if_neg n1, if_pos hk, dn_e (b6 := 400) h1 hf (by decide) (by decide), zdl_p hD]
  · have n1 : ¬ μ (85 + 0) i = 104 := by rw [hk]; decide
    have n2 : ¬ μ (85 + 0) i = 102 := by rw [hk]; decide
    rw [if_neg n1, if_neg n2] at hD ⊢
    rw [if_neg n1, if_neg n2, dn_e (b6 := 100) h1 hf (by decide) (by decide), zdl_p hD]
theorem mx_e (v : Int32) : (if 0 ≤ v then v else 0) = zz_max 0 v := by
  have i0 : (0 : Int32).toInt = 0 := rfl
  apply Int32.toInt_inj.mp
  rw [max_I, i0]
  by_cases g : 0 ≤ v
  · rw [if_pos g]
    rw [Int32.le_iff_toInt_le, i0] at g
    omega
  · rw [if_neg g]
    rw [Int32.le_iff_toInt_le, i0] at g
    omega
theorem mx_f (a v : Int32) : (if v ≤ a then a else v) = zz_max a v := by
  apply Int32.toInt_inj.mp
  rw [max_I]
  by_cases g : v ≤ a
  · rw [if_pos g]
    rw [Int32.le_iff_toInt_le] at g
    omega
  · rw [if_neg g]
    rw [Int32.le_iff_toInt_le] at g
    omega
theorem mn_e (a o e : Int32) : zz_min (zz_min a o) e = zz_min o (zz_min a e) := by
  apply Int32.toInt_inj.mp
  rw [min_I, min_I, min_I, min_I]
  omega
/-- a cell's height and top, as the law works them out -/
theorem r_1627 (J : JJ t0 base ow μ ν 1 nK H h n) {x6 x7 x8 x13 x14 x15 x16 : Nat} (A : AR ow μ x6 x7 x8 c r) (LL : LA ow μ x13 x14 x15 lc lc) (DD : A2 ow x16 c r (fun x y => μ (111 + 7 * 0 + x) y)) (hc : c ≤ 4) (hr : r ≤ 4) (hl : nL μ 0 = lc) (hl4 : lc ≤ 4) (hn : ¬ μ 3 0 ≤ 1) (h1 : hs ≤ 100000) (hν : ∀ i, i < lc → ν (100 + 0) i = (Int32.ofNat hs).toInt64) {x0 x1 : Nat} {x2 x3 x9 x21 x22 x23 x24 x25 : Int32} {X Y : Nat} (hX : X < c) (hY : Y < r) : f_L_law_1627 x0 x1 x2 x3 x6 x7 x8 x9 (Int32.ofNat lc) x13 x14 x15 x16 (Int32.ofNat hs) x21 x22 x23 x24 x25 (Int32.ofNat X) (Int32.ofNat Y) h = some (.inl (tH μ 0 X Y, tTop μ ν 0 X Y)) := by
  have q := JJ_q J
  obtain ⟨g1, g2, g3, a1, a2, a3, hg, -⟩ := LL
  have e1681 : ∀ z, z = tH μ 0 X Y → f_L_law_1681 x0 x1 x2 x3 x6 x7 x8 x9 (Int32.ofNat lc) x13 x14 x15 x16 (Int32.ofNat hs) x21 x22 x23 x24 x25 (Int32.ofNat X) (Int32.ofNat Y) z h = some (.inl (tH μ 0 X Y, tTop μ ν 0 X Y)) := by
    intro z hz
    unfold f_L_law_1681
    rw [J_aq J DD hX, J_ai J (DD.2 X hX) hY]
    dsimp only
    refine zfor2 lc (fun l a => a + tTh μ ν 0 l) (z - μ (111 + 7 * 0 + X) Y) (fun i hi v => ?_) ?_
    · show f_L_law_1699 _ _ _ _ _ _ _ _ _ _ _ _ _ _ _ _ _ _ _ _ _ _ _ _ _ = _
      unfold f_L_law_1699
      rw [if_neg (nle (by omega)), J_ai J a1 hi, J_ai J a2 hi, J_ai J a3 hi, (hg i hi).1, (hg i hi).2.1, (hg i hi).2.2, th_e q h1 (by omega) (hν i hi), zb_s]
    · show f_L_law_1699 _ _ _ _ _ _ _ _ _ _ _ _ _ _ _ _ _ _ _ _ _ _ _ _ _ = _
      unfold f_L_law_1699 f_L_law_1748
      rw [if_pos (ple (by omega))]
      have et : tTop μ ν 0 X Y = if 0 ≤ zfd (fun l a => a + tTh μ ν 0 l) (z - μ (111 + 7 * 0 + X) Y) lc then zfd (fun l a => a + tTh μ ν 0 l) (z - μ (111 + 7 * 0 + X) Y) lc else 0 := by
        rw [mx_e, hz]
        unfold tTop
        rw [hl]
      rw [et, ← hz]
      by_cases g : 0 ≤ zfd (fun l a => a + tTh μ ν 0 l) (z - μ (111 + 7 * 0 + X) Y) lc
      · rw [if_pos g, if_pos g]
        rfl
      · rw [if_neg g, if_neg g]
        rfl
  have e1659 : ∀ z, z = zz_min (μ (74 + 0) X) (μ (17 + 7 * 0 + X) Y) → f_L_law_1659 x0 x1 x2 x3 x6 x7 x8 x9 (Int32.ofNat lc) x13 x14 x15 x16 (Int32.ofNat hs) x21 x22 x23 x24 x25 (Int32.ofNat X) (Int32.ofNat Y) z h = some (.inl (tH μ 0 X Y, tTop μ ν 0 X Y)) := by
    intro z hz
    have et : tH μ 0 X Y = if z ≤ μ (79 + 0) Y then z else μ (79 + 0) Y := by
      rw [lm_e, hz, mn_e]
      unfold tH
      rw [if_neg hn]
    unfold f_L_law_1659
    rw [J_ai J A.2.2.1 hY]
    by_cases g : z ≤ μ (79 + 0) Y
    · rw [if_pos g] at et ⊢
      exact e1681 _ et.symm
    · rw [if_neg g] at et ⊢
      rw [J_ai J A.2.2.1 hY]
      exact e1681 _ et.symm
  unfold f_L_law_1627
  rw [J_aq J A.1 hX, J_ai J (A.1.2 X hX) hY, J_ai J A.2.1 hX]
  dsimp only
  by_cases g : μ (74 + 0) X ≤ μ (17 + 7 * 0 + X) Y
  · rw [if_pos g, J_ai J A.2.1 hX]
    exact e1659 _ (by rw [← lm_e, if_pos g])
  · rw [if_neg g, J_aq J A.1 hX, J_ai J (A.1.2 X hX) hY]
    exact e1659 _ (by rw [← lm_e, if_neg g])
/-- the same, as the law sums the tops after a use -/
theorem r_2075 (J : JJ t0 base ow μ ν 1 nK H h n) {x6 x7 x8 x13 x14 x15 x16 : Nat} (A : AR ow μ x6 x7 x8 c r) (LL : LA ow μ x13 x14 x15 lc lc) (DD : A2 ow x16 c r (fun x y => μ (111 + 7 * 0 + x) y)) (hc : c ≤ 4) (hr : r ≤ 4) (hl : nL μ 0 = lc) (hl4 : lc ≤ 4) (hn : ¬ μ 3 0 ≤ 1) (h1 : hs ≤ 100000) (hV : PQ μ' ν' H nK) (hm : ∀ o i, (o = 3 ∨ o = 83 ∨ o = 85 ∨ o = 90 ∨ o = 95 ∨ o = 74 ∨ o = 79 ∨ (17 ≤ o ∧ o < 23) ∨ (111 ≤ o ∧ o < 117)) → μ' o i = μ o i) (hν : ∀ i, i < lc → ν' (100 + 0) i = (Int32.ofNat hs).toInt64) {x0 x1 : Nat} {x2 x9 x21 x22 x23 x26 x27 x28 v : Int32} {X Y : Nat} (hX : X < c) (hY : Y < r) : f_L_law_2075 x0 x1 x2 (Int32.ofNat r) x6 x7 x8 x9 (Int32.ofNat lc) x13 x14 x15 x16 (Int32.ofNat hs) x21 x22 x23 x26 x27 x28 v (Int32.ofNat X) (Int32.ofNat Y) h = some (.inl (v + tTop μ' ν' 0 X Y, Int32.ofNat Y + 1)) := by
  obtain ⟨g1, g2, g3, a1, a2, a3, hg, -⟩ := LL
  have hl' : nL μ' 0 = lc := by
    unfold nL at hl ⊢
    rw [hm 83 0 (by omega)]
    exact hl
  have eH : tH μ' 0 X Y = tH μ 0 X Y := by
    unfold tH
    rw [hm _ _ (by omega), hm _ _ (by omega), hm _ _ (by omega), hm _ _ (by omega)]
  have e2135 : ∀ z, z = tH μ 0 X Y → f_L_law_2135 x0 x1 x2 (Int32.ofNat r) x6 x7 x8 x9 (Int32.ofNat lc) x13 x14 x15 x16 (Int32.ofNat hs) x21 x22 x23 x26 x27 x28 v (Int32.ofNat X) (Int32.ofNat Y) z h = some (.inl (v + tTop μ' ν' 0 X Y, Int32.ofNat Y + 1)) := by
    intro z hz
    unfold f_L_law_2135
    rw [J_aq J DD hX, J_ai J (DD.2 X hX) hY]
    dsimp only
    refine zfor2 lc (fun l a => a + tTh μ' ν' 0 l) (z - μ (111 + 7 * 0 + X) Y) (fun i hi v => ?_) ?_
    · show f_L_law_2153 _ _ _ _ _ _ _ _ _ _ _ _ _ _ _ _ _ _ _ _ _ _ _ _ _ _ = _
      unfold f_L_law_2153
      rw [if_neg (nle (by omega)), J_ai J a1 hi, J_ai J a2 hi, J_ai J a3 hi, (hg i hi).1, (hg i hi).2.1, (hg i hi).2.2, ← hm 85 i (by omega), ← hm 90 i (by omega), ← hm 95 i (by omega)]
      rw [show f_L_thickOf (μ' 85 i) (μ' 90 i) (μ' 95 i) (Int32.ofNat hs) h = _ from th_e hV h1 (by omega) (hν i hi), zb_s]
    · show f_L_law_2153 _ _ _ _ _ _ _ _ _ _ _ _ _ _ _ _ _ _ _ _ _ _ _ _ _ _ = _
      unfold f_L_law_2153 f_L_law_2204
      rw [if_pos (ple (by omega))]
      have et : tTop μ' ν' 0 X Y = if 0 ≤ zfd (fun l a => a + tTh μ' ν' 0 l) (z - μ (111 + 7 * 0 + X) Y) lc then zfd (fun l a => a + tTh μ' ν' 0 l) (z - μ (111 + 7 * 0 + X) Y) lc else 0 := by
        rw [mx_e, hz, ← eH, ← hm (111 + 7 * 0 + X) Y (by omega)]
        unfold tTop
        rw [hl']
      rw [et]
      by_cases g : 0 ≤ zfd (fun l a => a + tTh μ' ν' 0 l) (z - μ (111 + 7 * 0 + X) Y) lc
      · rw [if_pos g, if_pos g]
        rfl
      · rw [if_neg g, if_neg g]
        rfl
  have e2113 : ∀ z, z = zz_min (μ (74 + 0) X) (μ (17 + 7 * 0 + X) Y) → f_L_law_2113 x0 x1 x2 (Int32.ofNat r) x6 x7 x8 x9 (Int32.ofNat lc) x13 x14 x15 x16 (Int32.ofNat hs) x21 x22 x23 x26 x27 x28 v (Int32.ofNat X) (Int32.ofNat Y) z h = some (.inl (v + tTop μ' ν' 0 X Y, Int32.ofNat Y + 1)) := by
    intro z hz
    have et : tH μ 0 X Y = if z ≤ μ (79 + 0) Y then z else μ (79 + 0) Y := by
      rw [lm_e, hz, mn_e]
      unfold tH
      rw [if_neg hn]
    unfold f_L_law_2113
    rw [J_ai J A.2.2.1 hY]
    by_cases g : z ≤ μ (79 + 0) Y
    · rw [if_pos g] at et ⊢
      exact e2135 _ et.symm
    · rw [if_neg g] at et ⊢
      rw [J_ai J A.2.2.1 hY]
      exact e2135 _ et.symm
  unfold f_L_law_2075
  rw [if_neg (nle (by omega)), J_aq J A.1 hX, J_ai J (A.1.2 X hX) hY, J_ai J A.2.1 hX]
  dsimp only
  by_cases g : μ (74 + 0) X ≤ μ (17 + 7 * 0 + X) Y
  · rw [if_pos g, J_ai J A.2.1 hX]
    exact e2113 _ (by rw [← lm_e, if_pos g])
  · rw [if_neg g, J_aq J A.1 hX, J_ai J (A.1.2 X hX) hY]
    exact e2113 _ (by rw [← lm_e, if_neg g])
end ZLI
