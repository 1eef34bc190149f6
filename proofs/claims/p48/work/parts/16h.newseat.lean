section ZXH
/-! a new cloth, a new seat, in the relation -/
variable {lv lv' : Nat → Bool} {κ κ' : zzM} {νc νc' : zzN} {μ μ' : zzM} {ν ν' : zzN} {H : Int} {nS nB nK : Nat}
theorem RP_w {S s : Nat} (h : RP κ μ nK S s) : RP κ μ (nK + 1) S s := fun g => by
  obtain ⟨j, mt, hj, w⟩ := h g
  exact ⟨j, mt, by omega, w⟩
theorem RR_cloth {L r : Nat} (m : ∀ o, lv o = true → lv' o = true) (hk : nK < 4) (hL : L ≤ 2000) (hr : 1 ≤ r ∧ r ≤ 60) (l1 : lv' (700 + nK) = true) (l2 : lv' (700 + nK + 1000) = true) (l3 : lv' 1003 = true) (kk : ∀ o, o ≠ 3 → o ≠ 700 + nK → o ≠ 700 + nK + 1000 → κ' o = κ o) (k1 : κ' 3 2 = Int32.ofNat (nK + 1)) (k2 : ¬ κ' 3 3 = 0) (q0 : κ' (700 + nK) 0 = Int32.ofNat L) (q1 : κ' (700 + nK) 1 = Int32.ofNat r) (q3 : κ' (700 + nK) 3 = 0) (q4 : κ' (700 + nK) 4 = 0) (R : RR lv κ νc μ ν H nS nB nK) : RR lv' κ' νc (zset (zset (zset μ 169 nK (Int32.ofNat L)) 170 nK (Int32.ofNat r)) 0 32 (Int32.ofNat (nK + 1))) ν H nS nB (nK + 1) := by
  obtain ⟨M, hM⟩ : ∃ M, M = zset (zset (zset μ 169 nK (Int32.ofNat L)) 170 nK (Int32.ofNat r)) 0 32 (Int32.ofNat (nK + 1)) := ⟨_, rfl⟩
  have mm : ∀ o i, ¬ (o = 0 ∧ i = 32) → ¬ (o = 169 ∧ i = nK) → ¬ (o = 170 ∧ i = nK) → M o i = μ o i := fun o i h1 h2 h3 => by rw [hM, zset_e h1, zset_e h3, zset_e h2]
  have m32 : M 0 32 = Int32.ofNat (nK + 1) := by rw [hM, zset_h]
  have m169 : M 169 nK = Int32.ofNat L := by rw [hM, zset_e (by omega), zset_e (by omega), zset_h]
  have m170 : M 170 nK = Int32.ofNat r := by rw [hM, zset_e (by omega), zset_h]
  rw [← hM]
  have n4 := R.1.2.1
  have b3 := R.1.2.2.1
  obtain ⟨e3, e5, e7, e9, e10, e11⟩ := RR_ext (lv' := lv') (κ' := κ') (νc' := νc) (μ' := M) (ν' := ν) m (fun s hs => ⟨fun o ho => kk o (by unfold FK at ho; omega) (by unfold FK at ho; omega) (by unfold FK at ho; omega), fun _ _ _ => rfl⟩) (fun s hs => ⟨fun o i ho => mm o i (by unfold FP at ho; omega) (by unfold FP at ho; omega) (by unfold FP at ho; omega), fun _ => rfl⟩) (fun j hj => ⟨kk _ (by omega) (by omega) (by omega), kk _ (by omega) (by omega) (by omega)⟩) (fun j hj => ⟨mm _ _ (by omega) (by omega) (by omega), mm _ _ (by omega) (by omega) (by omega), mm _ _ (by omega) (by omega) (by omega), mm _ _ (by omega) (by omega) (by omega), fun i => mm _ _ (by omega) (by omega) (by omega)⟩) (fun j hj => kk _ (by omega) (by omega) (by omega)) (fun j => ⟨mm _ _ (by omega) (by omega) (by omega), mm _ _ (by omega) (by omega) (by omega)⟩) (fun b hb => kk _ (by omega) (by omega) (by omega)) (fun b x y _ _ => mm _ _ (by omega) (by omega) (by omega)) R
  obtain ⟨⟨a1, a2, a3, a4, a5, a6, a7, a8⟩, ⟨g1, g2, g3, g4, g5, g6⟩, r3, r4, r5, r6, r7, r8, r9, r10, r11⟩ := R
  refine ⟨⟨⟨m _ a1.1, a1.2⟩, a2, a3, by omega, a5, ?_, ?_, m32⟩, ⟨Gr_m m (kk _ (by omega) (by omega) (by omega)) g1, Gr_m m (kk _ (by omega) (by omega) (by omega)) g2, ⟨⟨m _ g3.1.1, g3.1.2⟩, k1, fun _ => ⟨l3, k2⟩, fun q => absurd q (by omega)⟩, Gr_m m (kk _ (by omega) (by omega) (by omega)) g4, Ab_m m g5, Ab_m m g6⟩, e3, fun s h1 h2 => ?_, e5, fun b h1 h2 x y hx hy => ?_, fun j hj => ?_, fun j h1 h2 => ?_, e9, fun s hs => RP_w (e10 s hs), e11⟩
  · rw [mm _ _ (by omega) (by omega) (by omega)]; exact a6
  · rw [mm _ _ (by omega) (by omega) (by omega)]; exact a7
  · unfold Zs
    rw [mm 3 s (by omega) (by omega) (by omega), mm 83 s (by omega) (by omega) (by omega), mm 143 s (by omega) (by omega) (by omega), mm 144 s (by omega) (by omega) (by omega), mm 145 s (by omega) (by omega) (by omega)]
    obtain ⟨z1, z2, z3, z4, z5, z6, z7⟩ := r4 s h1 h2
    exact ⟨z1, z2, z3, z4, z5, fun x y hx hy => by rw [mm _ _ (by omega) (by omega) (by omega)]; exact z6 x y hx hy, fun k hk => by rw [mm _ _ (by omega) (by omega) (by omega)]; exact z7 k hk⟩
  · rw [mm _ _ (by omega) (by omega) (by omega)]
    exact r6 b h1 h2 x y hx hy
  · by_cases g : j = nK
    · subst g
      obtain ⟨z1, z2⟩ := r8 j (Nat.le_refl _) hk
      have m171 : M 171 j = 0 := by rw [mm _ _ (by omega) (by omega) (by omega)]; exact z1
      have m172 : M 172 j = 0 := by rw [mm _ _ (by omega) (by omega) (by omega)]; exact z2
      have cl : cL M j = L := by unfold cL; rw [m169, on_n _ (by omega)]
      have cr : cR M j = r := by unfold cR; rw [m170, on_n _ (by omega)]
      have cu : cU M j = 0 := by unfold cU; rw [m171]; rfl
      have cf : cF M j = 0 := by unfold cF; rw [m172]; rfl
      have ck : Ck lv' (700 + j) := by
        rcases (show j = 0 ∨ j = 1 ∨ j = 2 ∨ j = 3 by omega) with rfl | rfl | rfl | rfl
        · exact ⟨⟨l1, by decide⟩, l2, by decide⟩
        · exact ⟨⟨l1, by decide⟩, l2, by decide⟩
        · exact ⟨⟨l1, by decide⟩, l2, by decide⟩
        · exact ⟨⟨l1, by decide⟩, l2, by decide⟩
      unfold RK
      rw [cl, cr, cu, cf, m169, m170, m171, m172, q0, q1, q3, q4]
      exact ⟨ck, ⟨rfl, rfl, hL⟩, ⟨rfl, rfl, hr⟩, ⟨rfl, rfl, by omega⟩, ⟨rfl, rfl, by omega⟩, fun k hk => absurd hk (Nat.not_lt_zero k)⟩
    · exact e7 j (by omega)
  · rw [mm _ _ (by omega) (by omega) (by omega), mm _ _ (by omega) (by omega) (by omega)]
    exact r8 j (by omega) h2
theorem RS_new {S s c r : Nat} (A : As lv S) (hs : s < 4) (hc : 1 ≤ c ∧ c ≤ 6) (hr : 1 ≤ r ∧ r ≤ 6) (m1 : μ 1 s = Int32.ofNat c) (m2 : μ 2 s = Int32.ofNat r) (m146 : μ 146 s = 20) (Z : Zs μ s) (f0 : κ (S + 1) 0 = Int32.ofNat c) (f1 : κ (S + 1) 1 = Int32.ofNat r) (f2 : κ (S + 1) 2 = 0) (t1 : ∀ k, k < 6 → κ (S + 1 + 1000) k = 99) (t2 : ∀ k, k < 6 → κ (S + 1 + 2000) k = 99) (h1 : ∀ i, κ (S + 1 + 1 + 1000) i = 0) (h2 : ∀ i, κ (S + 1 + 2 + 1000) i = 0) (s1 : κ (S + 4) 1 = 0) (s2 : κ (S + 4) 2 = 0) (l2 : κ (S + 5 + 1) 2 = 0) (l3 : κ (S + 5 + 1) 3 = 0) (d : ∀ i, κ (S + 7 + 1000) i = 0) (p : ∀ i, κ (S + 8 + 1000) i = 0) (c1 : κ (S + 8) 1 = 0) (c2 : κ (S + 8) 2 = 0) (c3 : κ (S + 8) 3 = 0) (c5 : κ (S + 8) 5 = 0) (c6 : κ (S + 8) 6 = 0) (k5 : κ S 5 = 20) : RS lv κ νc μ ν H S s ∧ tLast μ s = 45 := by
  obtain ⟨z3, z83, z143, z144, z145, zd, zp⟩ := Z
  have eC : nC μ s = c := by unfold nC; rw [m1, on_n _ (by omega)]
  have eR : nR μ s = r := by unfold nR; rw [m2, on_n _ (by omega)]
  have eD : nD μ s = 0 := by unfold nD; rw [z3]; rfl
  have eL : nL μ s = 0 := by unfold nL; rw [z83]; rfl
  have hB : Bd μ s := by
    unfold Bd
    rw [eC, eR, eD, eL, m1, m2, z3, z83]
    exact ⟨hs, ⟨rfl, hc⟩, ⟨rfl, hr⟩, ⟨rfl, by omega⟩, ⟨rfl, by omega⟩⟩
  have g1 : μ 3 s ≤ 1 := by rw [z3]; decide
  have g0 : μ 3 s ≤ 0 := by rw [z3]; decide
  have tl : tLast μ s = 45 := by
    unfold tLast
    rw [if_pos eD]
  refine ⟨⟨A, hB, ⟨by rw [f0, m1], by rw [f1, m2]⟩, ⟨by rw [s1, z3], fun k hk => ?_⟩, ⟨0, Or.inl eD.symm, s2, fun k hk => ?_⟩, ⟨0, 0, 0, ⟨by omega, by omega, by omega, fun _ => ⟨rfl, rfl, rfl, eL⟩, fun q => ?_, fun q => ?_, fun k hk => ?_⟩, fun _ q => absurd g1 q⟩, ⟨fun x y hx hy => ?_, fun k hk => ?_⟩, ⟨fun q => absurd g1 q, fun x y hx hy _ => zd x y hx hy, ?_⟩, fun x y hx hy => ?_, ?_, fun i hi => ?_, ⟨fun l hl => ?_, fun q => ?_, by rw [l2, z83], fun q => absurd l3 q⟩, fun l hl => ?_, ⟨fun q => absurd g1 q, fun q => absurd g1 q, fun q => absurd g0 q, fun x y hx hy => ?_, fun l hl => ?_⟩, ⟨fun k hk => ?_, by rw [c2, z143], by rw [c5, z145], by rw [c6, z144], ?_, fun _ => c3⟩, by rw [k5, m146]⟩, tl⟩
  · rw [eD] at hk; omega
  · rw [eD] at hk; omega
  · rw [eD] at q; omega
  · omega
  · rw [eD] at hk; omega
  · rw [if_pos g1]; exact h1 _
  · rw [if_pos g1, if_pos g1]; exact ⟨t1 k hk, t2 k hk⟩
  · have : tDr μ s = zfd (fun x a => zfd (fun y b => b + (if (0 : Int32) ≤ 0 then 0 else 1)) a 6) 0 6 := zfd_ext (fun x hx v => zfd_ext (fun y hy w => by rw [zd x y hx hy]))
    rw [this]
    decide
  · rw [if_pos g1]; exact h2 _
  · unfold RT
    rw [if_pos g0]
    exact f2
  · rw [d]
    by_cases g : i % 10 < 6
    · rw [if_pos g, zd _ _ (by omega) g]
    · rw [if_neg g]
  · rw [eL] at hl; omega
  · rw [eL] at q; omega
  · rw [eL] at hl; omega
  · rw [zd x y hx hy]; decide
  · rw [eL] at hl; omega
  · rw [p, zp k hk]
  · rw [tl, if_neg (by decide)]
    exact c1
theorem As_ids {nS : Nat} (hs : nS < 4) (l : ∀ x, FK (100 * (nS + 1)) x → co x ≠ 99 ∧ x % 100 < 9 ∨ cIs x ≠ none → lv x = true) : As lv (100 * (nS + 1)) := by
  rcases (show nS = 0 ∨ nS = 1 ∨ nS = 2 ∨ nS = 3 by omega) with rfl | rfl | rfl | rfl
  · exact ⟨⟨l _ (by unfold FK; omega) (Or.inl (by decide)), by decide⟩, ⟨l _ (by unfold FK; omega) (Or.inl (by decide)), by decide⟩, ⟨l _ (by unfold FK; omega) (Or.inl (by decide)), by decide⟩, ⟨l _ (by unfold FK; omega) (Or.inl (by decide)), by decide⟩, ⟨l _ (by unfold FK; omega) (Or.inl (by decide)), by decide⟩, ⟨l _ (by unfold FK; omega) (Or.inl (by decide)), by decide⟩, ⟨l _ (by unfold FK; omega) (Or.inl (by decide)), by decide⟩, ⟨l _ (by unfold FK; omega) (Or.inl (by decide)), by decide⟩, ⟨l _ (by unfold FK; omega) (Or.inl (by decide)), by decide⟩, ⟨l _ (by unfold FK; omega) (Or.inr (by decide)), by decide⟩, ⟨l _ (by unfold FK; omega) (Or.inr (by decide)), by decide⟩, ⟨l _ (by unfold FK; omega) (Or.inr (by decide)), by decide⟩, ⟨l _ (by unfold FK; omega) (Or.inr (by decide)), by decide⟩, ⟨l _ (by unfold FK; omega) (Or.inr (by decide)), by decide⟩, ⟨l _ (by unfold FK; omega) (Or.inr (by decide)), by decide⟩, ⟨l _ (by unfold FK; omega) (Or.inr (by decide)), by decide⟩, by decide⟩
  · exact ⟨⟨l _ (by unfold FK; omega) (Or.inl (by decide)), by decide⟩, ⟨l _ (by unfold FK; omega) (Or.inl (by decide)), by decide⟩, ⟨l _ (by unfold FK; omega) (Or.inl (by decide)), by decide⟩, ⟨l _ (by unfold FK; omega) (Or.inl (by decide)), by decide⟩, ⟨l _ (by unfold FK; omega) (Or.inl (by decide)), by decide⟩, ⟨l _ (by unfold FK; omega) (Or.inl (by decide)), by decide⟩, ⟨l _ (by unfold FK; omega) (Or.inl (by decide)), by decide⟩, ⟨l _ (by unfold FK; omega) (Or.inl (by decide)), by decide⟩, ⟨l _ (by unfold FK; omega) (Or.inl (by decide)), by decide⟩, ⟨l _ (by unfold FK; omega) (Or.inr (by decide)), by decide⟩, ⟨l _ (by unfold FK; omega) (Or.inr (by decide)), by decide⟩, ⟨l _ (by unfold FK; omega) (Or.inr (by decide)), by decide⟩, ⟨l _ (by unfold FK; omega) (Or.inr (by decide)), by decide⟩, ⟨l _ (by unfold FK; omega) (Or.inr (by decide)), by decide⟩, ⟨l _ (by unfold FK; omega) (Or.inr (by decide)), by decide⟩, ⟨l _ (by unfold FK; omega) (Or.inr (by decide)), by decide⟩, by decide⟩
  · exact ⟨⟨l _ (by unfold FK; omega) (Or.inl (by decide)), by decide⟩, ⟨l _ (by unfold FK; omega) (Or.inl (by decide)), by decide⟩, ⟨l _ (by unfold FK; omega) (Or.inl (by decide)), by decide⟩, ⟨l _ (by unfold FK; omega) (Or.inl (by decide)), by decide⟩, ⟨l _ (by unfold FK; omega) (Or.inl (by decide)), by decide⟩, ⟨l _ (by unfold FK; omega) (Or.inl (by decide)), by decide⟩, ⟨l _ (by unfold FK; omega) (Or.inl (by decide)), by decide⟩, ⟨l _ (by unfold FK; omega) (Or.inl (by decide)), by decide⟩, ⟨l _ (by unfold FK; omega) (Or.inl (by decide)), by decide⟩, ⟨l _ (by unfold FK; omega) (Or.inr (by decide)), by decide⟩, ⟨l _ (by unfold FK; omega) (Or.inr (by decide)), by decide⟩, ⟨l _ (by unfold FK; omega) (Or.inr (by decide)), by decide⟩, ⟨l _ (by unfold FK; omega) (Or.inr (by decide)), by decide⟩, ⟨l _ (by unfold FK; omega) (Or.inr (by decide)), by decide⟩, ⟨l _ (by unfold FK; omega) (Or.inr (by decide)), by decide⟩, ⟨l _ (by unfold FK; omega) (Or.inr (by decide)), by decide⟩, by decide⟩
  · exact ⟨⟨l _ (by unfold FK; omega) (Or.inl (by decide)), by decide⟩, ⟨l _ (by unfold FK; omega) (Or.inl (by decide)), by decide⟩, ⟨l _ (by unfold FK; omega) (Or.inl (by decide)), by decide⟩, ⟨l _ (by unfold FK; omega) (Or.inl (by decide)), by decide⟩, ⟨l _ (by unfold FK; omega) (Or.inl (by decide)), by decide⟩, ⟨l _ (by unfold FK; omega) (Or.inl (by decide)), by decide⟩, ⟨l _ (by unfold FK; omega) (Or.inl (by decide)), by decide⟩, ⟨l _ (by unfold FK; omega) (Or.inl (by decide)), by decide⟩, ⟨l _ (by unfold FK; omega) (Or.inl (by decide)), by decide⟩, ⟨l _ (by unfold FK; omega) (Or.inr (by decide)), by decide⟩, ⟨l _ (by unfold FK; omega) (Or.inr (by decide)), by decide⟩, ⟨l _ (by unfold FK; omega) (Or.inr (by decide)), by decide⟩, ⟨l _ (by unfold FK; omega) (Or.inr (by decide)), by decide⟩, ⟨l _ (by unfold FK; omega) (Or.inr (by decide)), by decide⟩, ⟨l _ (by unfold FK; omega) (Or.inr (by decide)), by decide⟩, ⟨l _ (by unfold FK; omega) (Or.inr (by decide)), by decide⟩, by decide⟩
end ZXH
