section ZXG
/-! what stays of the relation when objects are made -/
variable {lv lv' : Nat → Bool} {κ κ' : zzM} {νc νc' : zzN} {μ μ' : zzM} {ν ν' : zzN} {H : Int} {nS nB nK : Nat}
theorem As_m (m : ∀ o, lv o = true → lv' o = true) {S : Nat} (A : As lv S) : As lv' S := ⟨⟨m _ A.1.1, A.1.2⟩, ⟨m _ A.2.1.1, A.2.1.2⟩, ⟨m _ A.2.2.1.1, A.2.2.1.2⟩, ⟨m _ A.2.2.2.1.1, A.2.2.2.1.2⟩, ⟨m _ A.2.2.2.2.1.1, A.2.2.2.2.1.2⟩, ⟨m _ A.2.2.2.2.2.1.1, A.2.2.2.2.2.1.2⟩, ⟨m _ A.2.2.2.2.2.2.1.1, A.2.2.2.2.2.2.1.2⟩, ⟨m _ A.2.2.2.2.2.2.2.1.1, A.2.2.2.2.2.2.2.1.2⟩, ⟨m _ A.2.2.2.2.2.2.2.2.1.1, A.2.2.2.2.2.2.2.2.1.2⟩, ⟨m _ A.2.2.2.2.2.2.2.2.2.1.1, A.2.2.2.2.2.2.2.2.2.1.2⟩, ⟨m _ A.2.2.2.2.2.2.2.2.2.2.1.1, A.2.2.2.2.2.2.2.2.2.2.1.2⟩, ⟨m _ A.2.2.2.2.2.2.2.2.2.2.2.1.1, A.2.2.2.2.2.2.2.2.2.2.2.1.2⟩, ⟨m _ A.2.2.2.2.2.2.2.2.2.2.2.2.1.1, A.2.2.2.2.2.2.2.2.2.2.2.2.1.2⟩, ⟨m _ A.2.2.2.2.2.2.2.2.2.2.2.2.2.1.1, A.2.2.2.2.2.2.2.2.2.2.2.2.2.1.2⟩, ⟨m _ A.2.2.2.2.2.2.2.2.2.2.2.2.2.2.1.1, A.2.2.2.2.2.2.2.2.2.2.2.2.2.2.1.2⟩, ⟨m _ A.2.2.2.2.2.2.2.2.2.2.2.2.2.2.2.1.1, A.2.2.2.2.2.2.2.2.2.2.2.2.2.2.2.1.2⟩, A.2.2.2.2.2.2.2.2.2.2.2.2.2.2.2.2⟩
theorem RS_m (m : ∀ o, lv o = true → lv' o = true) {S s : Nat} (R : RS lv κ νc μ ν H S s) : RS lv' κ νc μ ν H S s := by
  obtain ⟨A, hB, hF, hN, hG, hV, hX, hO, hM, hT, hD, hA, hL, hVb, hC, hP⟩ := R
  exact ⟨As_m m A, hB, hF, hN, hG, hV, hX, hO, hM, hT, hD, ⟨fun l hl => ⟨m _ (hA.1 l hl).1, (hA.1 l hl).2⟩, fun h => ⟨m _ (hA.2.1 h).1, (hA.2.1 h).2⟩, hA.2.2.1, fun h => m _ (hA.2.2.2 h)⟩, hL, hVb, hC, hP⟩
theorem RR_ext (m : ∀ o, lv o = true → lv' o = true) (kS : ∀ s, s < nS → SK κ κ' νc νc' (100 * (s + 1))) (mS : ∀ s, s < nS → SM μ μ' ν ν' s) (kK : ∀ j, j < nK → κ' (700 + j) = κ (700 + j) ∧ κ' (700 + j + 1000) = κ (700 + j + 1000)) (mK : ∀ j, j < nK → μ' 169 j = μ 169 j ∧ μ' 170 j = μ 170 j ∧ μ' 171 j = μ 171 j ∧ μ' 172 j = μ 172 j ∧ ∀ i, μ' (174 + j) i = μ (174 + j) i) (kL : ∀ j, j < 4 → κ' (800 + j) = κ (800 + j)) (mL : ∀ j, μ' 178 j = μ 178 j ∧ μ' 179 j = μ 179 j) (kB : ∀ b, b < nB → κ' (600 + b + 1000) = κ (600 + b + 1000)) (mB : ∀ b x y, x < 6 → b < 3 → μ' (149 + 7 * b + x) y = μ (149 + 7 * b + x) y) (R : RR lv κ νc μ ν H nS nB nK) : (∀ s, s < nS → RS lv' κ' νc' μ' ν' H (100 * (s + 1)) s) ∧ (∀ b, b < nB → Ab lv' (600 + b) ∧ RB κ' μ' (600 + b) b) ∧ (∀ j, j < nK → RK lv' κ' μ' (700 + j) j) ∧ (∀ j, j < 4 → RLn lv' κ' μ' j) ∧ (∀ s, s < nS → RP κ' μ' nK (100 * (s + 1)) s) ∧ (∀ s1 s2, s1 < nS → s2 < nS → RQ κ' μ' s1 s2) := by
  obtain ⟨r1, -, r3, r4, r5, r6, r7, r8, r9, r10, r11⟩ := R
  have b3 := r1.2.2.1
  have hl : ∀ s, s < nS → tLast μ' s = tLast μ s := fun s hs => tLast_m (mS s hs)
  refine ⟨fun s hs => RS_m m (RS_km (mS s hs) (kS s hs) (Int.le_refl _) (r3 s hs)), fun b hb => ⟨?_, RB_c (kB b hb) (fun x y hx => mB b x y hx (by omega)) (r5 b hb).2⟩, fun j hj => ?_, fun j hj => ?_, fun s hs => ?_, fun s1 s2 h1 h2 => ?_⟩
  · have a := (r5 b hb).1
    exact ⟨⟨m _ a.1.1, a.1.2⟩, m _ a.2.1, a.2.2⟩
  · obtain ⟨m1, m2, m3, m4, m5⟩ := mK j hj
    obtain ⟨c, w⟩ := RK_c (kK j hj).1 (kK j hj).2 m1 m2 m3 m4 m5 (r7 j hj)
    exact ⟨⟨⟨m _ c.1.1, c.1.2⟩, m _ c.2.1, c.2.2⟩, w⟩
  · obtain ⟨c, w1, w2⟩ := r9 j hj
    unfold RLn
    rw [kL j hj, (mL j).1, (mL j).2]
    exact ⟨⟨m _ c.1, c.2⟩, w1, w2⟩
  · unfold RP
    rw [hl s hs, (kS s hs).1 _ (by unfold FK; omega)]
    intro g
    obtain ⟨j, mt, hj, w1, w2, w3, w4, w5, w6⟩ := r10 s hs g
    obtain ⟨m1, m2, m3, m4, m5⟩ := mK j hj
    unfold pL pN nC cR cU cF fL
    refine ⟨j, mt, hj, w1, w2, ?_, ?_, ?_, fun k hk => ?_⟩
    · rw [m2]; exact w3
    · rw [(mS s hs).1 143 s (by unfold FP; omega)]; exact w4
    · rw [(mS s hs).1 143 s (by unfold FP; omega)]; exact w5
    · rw [(mS s hs).1 1 s (by unfold FP; omega)] at hk
      obtain ⟨y1, y2, y3, y4, y5⟩ := w6 k hk
      rw [m2, m3, m4, (mS s hs).1 143 s (by unfold FP; omega), (mS s hs).1 (139 + s) k (by unfold FP; omega)]
      exact ⟨y1, y2, y3, fun i hi => by rw [m5]; exact y4 i hi, fun k' hk' => by rw [(mS s hs).1 (139 + s) k' (by unfold FP; omega)]; exact y5 k' hk'⟩
  · unfold RQ pL pN nC
    rw [hl s1 h1, hl s2 h2, (kS s1 h1).1 (100 * (s1 + 1) + 8) (by unfold FK; omega), (kS s2 h2).1 (100 * (s2 + 1) + 8) (by unfold FK; omega), (mS s1 h1).1 143 s1 (by unfold FP; omega), (mS s2 h2).1 143 s2 (by unfold FP; omega), (mS s1 h1).1 1 s1 (by unfold FP; omega), (mS s2 h2).1 1 s2 (by unfold FP; omega)]
    intro a1 a2 a3 a4 k1 k2 h3 h4
    rw [(mS s1 h1).1 (139 + s1) k1 (by unfold FP; omega), (mS s2 h2).1 (139 + s2) k2 (by unfold FP; omega)]
    exact r11 s1 s2 h1 h2 a1 a2 a3 a4 k1 k2 h3 h4
theorem Gr_m (m : ∀ o, lv o = true → lv' o = true) {o n : Nat} (k : κ' o = κ o) (h : Gr lv κ o n) : Gr lv' κ' o n := by
  unfold Gr
  rw [k]
  exact ⟨⟨m _ h.1.1, h.1.2⟩, h.2.1, fun q => ⟨m _ (h.2.2.1 q).1, (h.2.2.1 q).2⟩, h.2.2.2⟩
theorem Ab_m (m : ∀ o, lv o = true → lv' o = true) {o : Nat} (a : Ab lv o) : Ab lv' o := ⟨⟨m _ a.1.1, a.1.2⟩, m _ a.2.1, a.2.2⟩
theorem RR_body (m : ∀ o, lv o = true → lv' o = true) (hb : nB < 3) (l1 : lv' (600 + nB) = true) (l2 : lv' (600 + nB + 1000) = true) (l3 : lv' 1002 = true) (kk : ∀ o, o ≠ 2 → o ≠ 600 + nB + 1000 → κ' o = κ o) (k1 : κ' 2 2 = Int32.ofNat (nB + 1)) (k2 : ¬ κ' 2 3 = 0) (k3 : ∀ i, κ' (600 + nB + 1000) i = 0) (R : RR lv κ νc μ ν H nS nB nK) : RR lv' κ' νc (zset μ 0 31 (Int32.ofNat (nB + 1))) ν H nS (nB + 1) nK := by
  have mm : ∀ o i, o ≠ 0 → zset μ 0 31 (Int32.ofNat (nB + 1)) o i = μ o i := fun o i h => zset_e (by omega)
  have n4 := R.1.2.1
  have k4 := R.1.2.2.2.1
  obtain ⟨e3, e5, e7, e9, e10, e11⟩ := RR_ext (lv' := lv') (κ' := κ') (νc' := νc) (μ' := zset μ 0 31 (Int32.ofNat (nB + 1))) (ν' := ν) m (fun s hs => ⟨fun o ho => kk o (by unfold FK at ho; omega) (by unfold FK at ho; omega), fun _ _ _ => rfl⟩) (fun s hs => ⟨fun o i ho => mm o i (by unfold FP at ho; omega), fun _ => rfl⟩) (fun j hj => ⟨kk _ (by omega) (by omega), kk _ (by omega) (by omega)⟩) (fun j hj => ⟨mm _ _ (by omega), mm _ _ (by omega), mm _ _ (by omega), mm _ _ (by omega), fun i => mm _ _ (by omega)⟩) (fun j hj => kk _ (by omega) (by omega)) (fun j => ⟨mm _ _ (by omega), mm _ _ (by omega)⟩) (fun b hb => kk _ (by omega) (by omega)) (fun b x y _ _ => mm _ _ (by omega)) R
  obtain ⟨⟨a1, a2, a3, a4, a5, a6, a7, a8⟩, ⟨g1, g2, g3, g4, g5, g6⟩, r3, r4, r5, r6, r7, r8, r9, r10, r11⟩ := R
  refine ⟨⟨⟨m _ a1.1, a1.2⟩, a2, by omega, a4, a5, ?_, zset_h, ?_⟩, ⟨Gr_m m (kk _ (by omega) (by omega)) g1, ⟨⟨m _ g2.1.1, g2.1.2⟩, k1, fun _ => ⟨l3, k2⟩, fun q => absurd q (by omega)⟩, Gr_m m (kk _ (by omega) (by omega)) g3, Gr_m m (kk _ (by omega) (by omega)) g4, Ab_m m g5, Ab_m m g6⟩, e3, fun s h1 h2 => ?_, fun b hb2 => ?_, fun b h1 h2 x y hx hy => ?_, e7, fun j h1 h2 => ?_, e9, e10, e11⟩
  · rw [zset_e (by omega)]; exact a6
  · rw [zset_e (by omega)]; exact a8
  · unfold Zs
    rw [mm 3 s (by omega), mm 83 s (by omega), mm 143 s (by omega), mm 144 s (by omega), mm 145 s (by omega)]
    obtain ⟨z1, z2, z3, z4, z5, z6, z7⟩ := r4 s h1 h2
    exact ⟨z1, z2, z3, z4, z5, fun x y hx hy => by rw [mm _ _ (by omega)]; exact z6 x y hx hy, fun k hk => by rw [mm _ _ (by omega)]; exact z7 k hk⟩
  · by_cases g : b = nB
    · subst g
      refine ⟨?_, fun i hi => ?_, fun x y hx hy => ?_⟩
      · rcases (show b = 0 ∨ b = 1 ∨ b = 2 by omega) with rfl | rfl | rfl
        · exact ⟨⟨l1, by decide⟩, l2, by decide⟩
        · exact ⟨⟨l1, by decide⟩, l2, by decide⟩
        · exact ⟨⟨l1, by decide⟩, l2, by decide⟩
      · rw [k3]
        by_cases g2 : i % 10 < 6
        · rw [if_pos g2, mm _ _ (by omega), r6 b (Nat.le_refl _) hb _ _ (by omega) g2]
        · rw [if_neg g2]
      · rw [mm _ _ (by omega), r6 b (Nat.le_refl _) hb _ _ hx hy]
        decide
    · exact e5 b (by omega)
  · rw [mm _ _ (by omega)]
    exact r6 b (by omega) h2 x y hx hy
  · rw [mm _ _ (by omega), mm _ _ (by omega)]
    exact r8 j h1 h2
end ZXG
