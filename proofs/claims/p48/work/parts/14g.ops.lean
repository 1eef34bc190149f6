section ZRG
variable {lv : Nat → Bool} {κ κ' : zzM} {νc νc' : zzN} {μ μ' : zzM} {ν ν' : zzN} {H H' : Int} {nS nB nK : Nat}
theorem nd_ok {v w : Int32} (hw : w ≠ 0) {α : Type} {K : Option α} : zz_nd (FP.ddiv (FP.i2d v) (FP.i2d w)) K = K := by
  have hn : FP.Core.dIsNaN (FP.i2d v) = false := by
    rw [Bool.eq_false_iff]
    intro q
    exact FP.Core.DFin.ne_nan (FP.Core.i2d_fin v) ((FP.Core.dIsNaN_iff _).mp q)
  have h := FP.Core.ddiv_out (a := FP.i2d v) (b := FP.i2d w) hn (FP.Core.i2d_fin w) (fun z => FP.Core.i2d_ne_zero hw ((FP.Core.zero_bits2 _).mp z))
  refine if_pos ?_
  show FP.Core.ddiv (FP.i2d v) (FP.i2d w) &&& 0x7fffffffffffffff ≤ 0x7ff0000000000000
  generalize FP.Core.ddiv (FP.i2d v) (FP.i2d w) = r at h ⊢
  have h2 : ¬ 9218868437227405312 < r.toNat % 2 ^ 63 := fun q => by
    rw [(FP.Core.isNaN_bits r).mpr q] at h
    cases h
  rw [UInt64.le_iff_toNat_le, UInt64.toNat_and]
  have h3 : (0x7fffffffffffffff : UInt64).toNat = 2 ^ 63 - 1 := rfl
  have h4 : (0x7ff0000000000000 : UInt64).toNat = 9218868437227405312 := rfl
  rw [h3, h4, Nat.and_two_pow_sub_one_eq_mod]
  omega
theorem nf_no {v w : Int32} (hw : w ≠ 0) : FP.Core.fIsNaN (FP.fdiv (FP.i2f v) (FP.i2f w)) = false := by
  have hn : FP.Core.fIsNaN (FP.i2f v) = false := by
    rw [Bool.eq_false_iff]
    intro q
    exact FP.Core.FFin.ne_nan (FP.Core.i2f_fin v) ((FP.Core.fIsNaN_iff _).mp q)
  exact FP.Core.fdiv_out (a := FP.i2f v) (b := FP.i2f w) hn (FP.Core.i2f_fin w) (fun z => FP.Core.i2f_ne_zero hw ((FP.Core.zero_bits232 _).mp z))
theorem nf_of {r : UInt32} (h : FP.Core.fIsNaN r = false) {α : Type} {K : Option α} : zz_nf r K = K := by
  refine if_pos ?_
  have h2 : ¬ 2139095040 < r.toNat % 2 ^ 31 := fun q => by
    rw [(FP.Core.isNaN_bits32 r).mpr q] at h
    cases h
  rw [UInt32.le_iff_toNat_le, UInt32.toNat_and]
  have h3 : (0x7fffffff : UInt32).toNat = 2 ^ 31 - 1 := rfl
  have h4 : (0x7f800000 : UInt32).toNat = 2139095040 := rfl
  rw [h3, h4, Nat.and_two_pow_sub_one_eq_mod]
  omega
theorem nd_of {r : UInt64} (h : FP.Core.dIsNaN r = false) {α : Type} {K : Option α} : zz_nd r K = K := by
  refine if_pos ?_
  have h2 : ¬ 9218868437227405312 < r.toNat % 2 ^ 63 := fun q => by
    rw [(FP.Core.isNaN_bits r).mpr q] at h
    cases h
  rw [UInt64.le_iff_toNat_le, UInt64.toNat_and]
  have h3 : (0x7fffffffffffffff : UInt64).toNat = 2 ^ 63 - 1 := rfl
  have h4 : (0x7ff0000000000000 : UInt64).toNat = 9218868437227405312 := rfl
  rw [h3, h4, Nat.and_two_pow_sub_one_eq_mod]
  omega
/-- fire -/
theorem kind_CH {k : Int32} (h : k = 104 ∨ k = 102 ∨ k = 100) : CH k := by
  rcases h with rfl | rfl | rfl <;> (unfold CH; decide)
theorem ec_topKind {S s : Nat} (A : As lv S) (hB : Bd μ s) (hA : Al lv κ μ S s) (hL : RLa κ νc μ ν S s) (hV : Vb μ ν H s) (h0 : 0 < nL μ s) : g_X2_topmostKind lv (S + 5) κ νc = some (μ (85 + s) (nL μ s - 1)) := by
  have A' := A
  have hB' := hB
  obtain ⟨a8, a4, ah, af, a9, a3, a0, ad, a2, bh, bf, bc, br, b9, bd, b2, hS⟩ := A
  obtain ⟨hs, -, -, -, hl2, hl4⟩ := hB
  have h2 : κ (S + 5 + 1) 2 = Int32.ofNat (nL μ s) := hA.2.2.1.trans hl2
  unfold g_X2_topmostKind g_X2_topmostKind_37 cemp
  rw [cg a3, cg a0, cg a0, h2, if_neg (onnz (by omega)), if_pos rfl, cg a3, cg a3, cg a0, cg a0, cg a0, on_p _ (by omega), cg_ly A' hB' hA (by omega), cg (hA.1 _ (by omega)), cg (hA.1 _ (by omega)), (hL _ (by omega)).1, zgc_p (kind_CH (hV.2.2.2.2 _ (by omega)).1)]
def tFm (μ : zzM) (s l : Nat) : Int32 := if μ (85 + s) l = 102 then 1 else 0
theorem ec_foam {S s : Nat} (A : As lv S) (hB : Bd μ s) (hA : Al lv κ μ S s) (hL : RLa κ νc μ ν S s) : g_X2_foamCount lv (S + 5) κ νc = some (sm (tFm μ s) (nL μ s)) := by
  have A' := A
  have hB' := hB
  obtain ⟨a8, a4, ah, af, a9, a3, a0, ad, a2, bh, bf, bc, br, b9, bd, b2, hS⟩ := A
  obtain ⟨hs, -, -, -, hl2, hl4⟩ := hB
  have h2 : κ (S + 5 + 1) 2 = Int32.ofNat (nL μ s) := hA.2.2.1.trans hl2
  unfold g_X2_foamCount
  refine zfor2 (nL μ s) (fun l a => a + tFm μ s l) 0 (fun l hl v => ?_) ?_
  · show g_X2_foamCount_4 _ _ _ _ _ _ = _
    unfold g_X2_foamCount_4 g_X2_foamCount_37 tFm
    dsimp only
    have a7 := hA.1 l hl
    rw [cg a3, cg a0, cg a0, h2, if_neg (nle (by omega)), cg a3, cg a0, cg_ly A' hB' hA hl, cg a7, cg a7, (hL l hl).1]
    by_cases h : μ (85 + s) l = 102
    · rw [if_pos h, if_pos h]
    · rw [if_neg h, if_neg h, Int32.add_zero]
  · show g_X2_foamCount_4 _ _ _ _ _ _ = _
    unfold g_X2_foamCount_4
    dsimp only
    rw [cg a3, cg a0, cg a0, h2, if_pos (ple (by omega))]
    rfl
theorem op_burns (R : RR lv κ νc μ ν H nS nB nK) (x1 x2 : Int32) : Op1 lv H nS nB nK cd_burns (up κ νc (g_X9_burns lv 0 x1 x2 κ νc)) (g_X10_burns x1 x2 μ ν) := by
  have r0 := R.1.1
  have h30 := R.1.2.2.2.2.2.1
  have h4 := R.1.2.1
  unfold g_X9_burns g_X10_burns g_X10_burns_18 g_X10_burns_23 g_X10_burns_39 g_X9_burns_51 g_X9_burns_47 g_X9_burns_52
  rcases ix_cases x1 nS (by omega) with h | ⟨s, hs, rfl⟩
  · exact Op0_e R (by rw [cg r0, ec_seatOf1 R h, zth_r]) (by rw [em_noSeat1 h30 (by omega) h, zb_s, if_neg (by decide), em_th1, zg1_s, if_neg (by decide)]) rfl (by decide)
  obtain ⟨A, hB, hF, hN, ⟨sg, hG⟩, ⟨t, b, c, hV, hz⟩, hX, hO, hM, hT, hD, hA, hL, hVb, hC, hP⟩ := R.2.2.1 s hs
  rw [cg r0, ec_seatOf0 R hs, zth_l, cg A.1, cg r0, em_noSeat0 h30 (by omega) hs, zb_s, if_pos rfl]
  rcases ix_cases x2 4 (by omega) with h | ⟨j, hj, rfl⟩
  · exact Op0_e R (by rw [ec_landOf1 R h, zth_r]) (by rw [show (3 : Int32) = Int32.ofNat 4 - 1 from rfl, em_ix0 (by omega) h, zb_s, if_pos rfl, em_th1, zg1_s, if_neg (by decide)]) rfl (by decide)
  rw [ec_landOf0 R hj, zth_l, show (3 : Int32) = Int32.ofNat 4 - 1 from rfl, em_ix1 (by omega) hj, zb_s, if_neg (by decide), em_th0, zg1_s, if_pos rfl]
  have R1 := RR_t 0 R
  have z1 : zset μ 0 33 0 0 33 = 0 := zset_h
  clear hB hF hN hG hV hz hX hO hM hT hD hA hL hVb hC hP
  generalize zset μ 0 33 0 = m1 at R1 z1 ⊢
  obtain ⟨-, hB, hF, hN, -, -, hX, hO, hM, hT, hD, hA, hL, hVb, hC, hP⟩ := R1.2.2.1 s hs
  have hs4 : s < 4 := by omega
  have hl := hB.2.2.2.2
  obtain ⟨n6, n1, n2⟩ := R1.2.2.2.2.2.2.2.2.1 j hj
  rw [cg A.2.2.2.2.2.1, ec_count A hA, zb_s, gi83 hs4, hl.1]
  by_cases g : nL m1 s = 0
  · rw [g]
    exact Op0_v (v := 0) R1 z1 (by rw [if_pos (by decide), zgz0]) (by rw [if_pos (by decide)])
  · have lp : zz_it (fun s_1 : (Int32 × Int32) => g_X10_burns_46 (Int32.ofNat s) (Int32.ofNat j) s_1.1 s_1.2 m1 ν) zz_F ((0 : Int32), (0 : Int32)) = some ((if m1 (85 + s) (nL m1 s - 1) = m1 178 j then 1 else if sm (tFm m1 s) (nL m1 s) ≤ m1 179 j then 0 else 1), m1, ν) := by
      refine zfor2 (nL m1 s) (fun l a => a + tFm m1 s l) 0 (fun l hl2 v => ?_) ?_
      · show g_X10_burns_46 _ _ _ _ _ _ = _
        unfold g_X10_burns_46 g_X10_burns_77 tFm
        dsimp only
        rw [gi83 hs4, hl.1, if_neg (nle (by omega)), gq84 hs4, gi84 hs4 (by omega)]
        by_cases w : m1 (85 + s) l = 102
        · rw [if_pos w, if_pos w]
        · rw [if_neg w, if_neg w]
      · show g_X10_burns_46 _ _ _ _ _ _ = _
        unfold g_X10_burns_46 g_X10_burns_119 g_X10_burns_124
        dsimp only
        rw [gi83 hs4, hl.1, if_pos (ple (by omega)), gq84 hs4, gi83 hs4, hl.1, on_p _ (by omega), gi84 hs4 (by omega), gi178 hj]
        by_cases w : m1 (85 + s) (nL m1 s - 1) = m1 178 j
        · rw [if_pos w, if_pos w, zgz1]
          rfl
        · rw [if_neg w, if_neg w, gi179 hj]
          by_cases w2 : sm (tFm m1 s) (nL m1 s) ≤ m1 179 j
          · rw [if_pos (show zfd (fun l a => a + tFm m1 s l) 0 (nL m1 s) ≤ m1 179 j from w2), if_pos w2, zgz0]
            rfl
          · rw [if_neg (show ¬ zfd (fun l a => a + tFm m1 s l) 0 (nL m1 s) ≤ m1 179 j from w2), if_neg w2, zgz1]
            rfl
    rw [if_neg (show ¬ Int32.ofNat (nL m1 s) ≤ 0 from nle (b := 0) (by omega)), if_neg (onnz (by omega)), lp, cg A.2.2.2.2.2.1, ec_topKind A hB hA hL hVb (by omega), zb_s, cg n6, n1]
    by_cases w : m1 (85 + s) (nL m1 s - 1) = m1 178 j
    · exact Op0_v (v := 1) R1 z1 (by rw [if_pos w, zgz1]) (by rw [if_pos w])
    · rw [if_neg w, if_neg w, cg A.2.2.2.2.2.1, ec_foam A hB hA hL, zb_s, cg n6, n2]
      by_cases w2 : sm (tFm m1 s) (nL m1 s) ≤ m1 179 j
      · exact Op0_v (v := 0) R1 z1 (by rw [if_pos w2, zgz0]) (by rw [if_pos w2])
      · exact Op0_v (v := 1) R1 z1 (by rw [if_neg w2, zgz1]) (by rw [if_neg w2])
/-- quarrels -/
def tQ1 (μ : zzM) (s u l : Nat) : Int32 := if μ (105 + s) u ≤ 0 then 0 else if μ (105 + s) l ≤ μ (105 + s) u then 0 else 1
theorem op_quarrels (R : RR lv κ νc μ ν H nS nB nK) (x1 : Int32) : Op1 lv H nS nB nK cd_quarrels (up κ νc (g_X9_quarrels lv 0 x1 κ νc)) (g_X10_quarrels x1 μ ν) := by
  have r0 := R.1.1
  have h30 := R.1.2.2.2.2.2.1
  have h4 := R.1.2.1
  unfold g_X9_quarrels g_X10_quarrels
  rcases ix_cases x1 nS (by omega) with h | ⟨s, hs, rfl⟩
  · exact Op0_e R (by rw [cg r0, ec_seatOf1 R h, zth_r]) (by rw [em_noSeat1 h30 (by omega) h, zb_s, em_th1, zg1_s, if_neg (by decide)]) rfl (by decide)
  rw [cg r0, ec_seatOf0 R hs, zth_l, em_noSeat0 h30 (by omega) hs, zb_s, em_th0, zg1_s, if_pos rfl]
  have R1 := RR_t 0 R
  have z1 : zset μ 0 33 0 0 33 = 0 := zset_h
  generalize zset μ 0 33 0 = m1 at R1 z1 ⊢
  obtain ⟨A, hB, hF, hN, ⟨sg, hG⟩, ⟨t, b, c, hV, hz⟩, hX, hO, hM, hT, hD, hA, hL, hVb, hC, hP⟩ := R1.2.2.1 s hs
  have hs4 : s < 4 := by omega
  have A' := A
  have hB' := hB
  obtain ⟨a8, a4, ah, af, a9, a3, a0, ad, a2, bh, bf, bc, br, b9, bd, b2, hS⟩ := A
  obtain ⟨-, -, -, -, hl, hl4⟩ := hB
  have h2 : κ (100 * (s + 1) + 5 + 1) 2 = Int32.ofNat (nL m1 s) := hA.2.2.1.trans hl
  have e1 : zz_it (fun s_1 : (Int32 × Int32) => g_X10_quarrels_19 (Int32.ofNat s) s_1.1 s_1.2 m1 ν) zz_F ((0 : Int32), (0 : Int32)) = some (sm (fun u => sm (tQ1 m1 s u) u) (nL m1 s), m1, ν) := by
    refine zfor2 (nL m1 s) (fun u a => a + sm (tQ1 m1 s u) u) 0 (fun u hu v => ?_) ?_
    · show g_X10_quarrels_19 _ _ _ _ _ = _
      unfold g_X10_quarrels_19
      dsimp only
      rw [gi83 hs4, hl, if_neg (nle (by omega))]
      refine zfor2 u (fun l a => a + tQ1 m1 s u l) v (fun l hl2 w => ?_) ?_
      · show g_X10_quarrels_32 _ _ _ _ _ _ = _
        unfold g_X10_quarrels_32 g_X10_quarrels_74 g_X10_quarrels_75 tQ1
        dsimp only
        rw [if_neg (nle (by omega)), gq104 hs4, gi104 hs4 (by omega)]
        by_cases w1 : m1 (105 + s) u ≤ 0
        · rw [if_pos w1, if_pos w1]
        · rw [if_neg w1, if_neg w1, gq104 hs4, gi104 hs4 (by omega), gq104 hs4, gi104 hs4 (by omega)]
          by_cases w2 : m1 (105 + s) l ≤ m1 (105 + s) u
          · rw [if_pos w2, if_pos w2]
          · rw [if_neg w2, if_neg w2]
      · show g_X10_quarrels_32 _ _ _ _ _ _ = _
        unfold g_X10_quarrels_32
        dsimp only
        rw [if_pos (ple (by omega)), smB]
    · show g_X10_quarrels_19 _ _ _ _ _ = _
      unfold g_X10_quarrels_19
      dsimp only
      rw [gi83 hs4, hl, if_pos (ple (by omega))]
      rfl
  have e2 : g_X2_quarrelCount lv (100 * (s + 1) + 5) κ νc = some (sm (fun u => sm (tQ1 m1 s u) u) (nL m1 s)) := by
    have e3 : sm (fun u => sm (tQ1 m1 s u) u) (nL m1 s) = sm (fun u => sm (tQ1 m1 s u) u) (nL m1 s - 1 + 1) := by
      by_cases w : nL m1 s = 0
      · rw [w]; rfl
      · rw [Nat.sub_add_cancel (by omega)]
    unfold g_X2_quarrelCount
    refine zfor (nL m1 s - 1) (fun i => (sm (fun u => sm (tQ1 m1 s u) u) (i + 1), Int32.ofNat (i + 1))) (fun i hi => ?_) ?_ (by omega)
    · show g_X2_quarrelCount_4 _ _ _ _ _ _ = _
      unfold g_X2_quarrelCount_4
      dsimp only
      rw [cg a3, cg a0, cg a0, h2, if_neg (nle (by omega)), sm_s _ (i + 1)]
      refine zfor2 (i + 1) (fun l a => a + tQ1 m1 s (i + 1) l) _ (fun l hl2 w => ?_) ?_
      · show g_X2_quarrelCount_17 _ _ _ _ _ _ _ = _
        unfold g_X2_quarrelCount_17 g_X2_quarrelCount_53
        dsimp only
        have q7 := hA.1 (i + 1) (by omega)
        have p7 := hA.1 l (by omega)
        have e4 : g_X6_quarrelsWith lv (100 * (s + 1) + 20 + (i + 1)) (100 * (s + 1) + 20 + l) κ νc = some (tQ1 m1 s (i + 1) l) := by
          unfold g_X6_quarrelsWith g_X6_quarrelsWith_22 g_X6_quarrelsWith_23 tQ1
          have y0 := (hVb.2.2.2.2 (i + 1) (by omega)).2.2.2.2
          rw [cg q7, (hL (i + 1) (by omega)).2.2.2.2.2, cg q7, cg p7, (hL l (by omega)).2.2.2.2.2]
          by_cases w1 : m1 (105 + s) (i + 1) = 0
          · rw [if_pos w1, w1, zgz0, if_pos (by decide)]
          · have w3 : ¬ m1 (105 + s) (i + 1) ≤ 0 := fun q => w1 (by
              rw [Int32.le_iff_toInt_le, i0] at q
              exact Int32.toInt.inj (by rw [i0]; omega))
            rw [if_neg w1, if_neg w3]
            by_cases w2 : m1 (105 + s) l ≤ m1 (105 + s) (i + 1)
            · rw [if_pos w2, if_pos w2, zgz0]
            · rw [if_neg w2, if_neg w2, zgz1]
        rw [if_neg (nle (by omega)), cg a3, cg a0, cg_ly A' hB' hA (by omega), cg q7, cg a3, cg a0, cg_ly A' hB' hA (by omega), cg p7, cg q7, e4, zb_s]
        by_cases w1 : tQ1 m1 s (i + 1) l = 0
        · rw [if_pos w1, w1, Int32.add_zero]
        · have w2 : tQ1 m1 s (i + 1) l = 1 := by
            unfold tQ1 at w1 ⊢
            split at w1
            · exact absurd rfl w1
            · next h5 =>
              rw [if_neg h5]
              split at w1
              · exact absurd rfl w1
              · next h6 => rw [if_neg h6]
          rw [if_neg w1, w2]
      · show g_X2_quarrelCount_17 _ _ _ _ _ _ _ = _
        unfold g_X2_quarrelCount_17
        dsimp only
        rw [if_pos (ple (by omega)), smB, on_s]
    · show g_X2_quarrelCount_4 _ _ _ _ _ _ = _
      unfold g_X2_quarrelCount_4
      dsimp only
      rw [cg a3, cg a0, cg a0, h2, if_pos (ple (by omega)), e3]
  exact Op0_v R1 z1 (by rw [cg a8, cg a3, e2, zb_s]) e1
/-- figures -/
theorem zforG {β γ : Type} {b : β × Int32 → Option ((β × Int32) ⊕ γ)} {r : γ} (N : Nat) (f : Nat → β → β) (a : β) (h1 : ∀ i, i < N → ∀ v, b (v, Int32.ofNat i) = some (.inl (f i v, Int32.ofNat i + 1))) (h2 : b (zfd f a N, Int32.ofNat N) = some (.inr r)) (hN : N < 100000 := by omega) : zz_it b zz_F (a, (0 : Int32)) = some r :=
  zfor N (fun i => (zfd f a i, Int32.ofNat i)) (fun i hi => by
    show b (zfd f a i, Int32.ofNat i) = _
    rw [h1 i hi, on_s]
    rfl) h2 hN
def tCk (μ : zzM) (ν : zzN) (s : Nat) (a : Int64) : Int64 := zfd (fun x c => zfd (fun y e => 31 * e + (tTop μ ν s x y).toInt64) c (nR μ s)) (31 * a + (μ 3 s).toInt64) (nC μ s)
theorem op_checksum (R : RR lv κ νc μ ν H nS nB nK) : ∃ v, g_X9_checksum lv 0 κ νc = some v ∧ g_X10_checksum μ ν = some (v, zset μ 0 33 0, ν) := by
  have r0 := R.1.1
  have h4 := R.1.2.1
  have hH := R.1.2.2.2.2.1
  have R1 := RR_t 0 R
  unfold g_X10_checksum
  clear R
  generalize zset μ 0 33 0 = m1 at R1 ⊢
  have g1 := R1.2.1.1
  have h30 := R1.1.2.2.2.2.2.1
  have h1 : lv (0 + 1) = true ∧ co (0 + 1) = 0 := g1.1
  have h2 : κ (0 + 1) 2 = Int32.ofNat nS := g1.2.1
  refine ⟨zfd (fun s a => tCk m1 ν s a) 7 nS, ?_, ?_⟩
  · unfold g_X9_checksum
    refine zforG nS (fun s a => tCk m1 ν s a) 7 (fun s hs v => ?_) ?_
    · show g_X9_checksum_6 _ _ _ _ _ _ = _
      unfold g_X9_checksum_6
      dsimp only
      have h3 : lv (0 + 1 + 1000) = true ∧ ¬ κ (0 + 1) 3 = 0 := g1.2.2.1 (by omega)
      obtain ⟨A, hB, hF, hN, ⟨sg, hG⟩, ⟨t, b, c, hV, hz⟩, hX, hO, hM, hT, hD, hA, hL, hVb, hC, hP⟩ := R1.2.2.1 s hs
      have hc6 := hB.2.1.2.2
      have hr6 := hB.2.2.1.2.2
      have h36 := cr6 hc6 hr6
      rw [cg r0, cg h1, cg h1, h2, if_neg (nle (by omega)), cg r0, cg h1, cgt h1 h3 h2 (by omega) hs, show child (0 + 1) s = 100 * (s + 1) from rfl, cg A.1, cg A.1, cg A.2.2.2.2.1, hN.1]
      refine cells A hB hF (g := fun x y e => 31 * e + (tTop m1 ν s x y).toInt64) (a := 31 * v + (m1 3 s).toInt64) (fun v p => (v, Int32.ofNat p)) (fun p hp x y hx hy hxy w => ?_) ?_
      · show g_X9_checksum_49 _ _ _ _ _ _ _ _ = _
        unfold g_X9_checksum_49
        dsimp only
        rw [cg A.1, cg A.2.1, ec_cellCount A hB hF, zb_s, if_neg (nle (by omega)), cg A.1, cg A.2.1, ec_cellAt A hB hF (by omega), zb_s, cg A.1, hxy, ec_topOf A hB (RX_RH hB hX) hA hL hD hx hy, zb_s, on_s]
      · show g_X9_checksum_49 _ _ _ _ _ _ _ _ = _
        unfold g_X9_checksum_49
        dsimp only
        rw [cg A.1, cg A.2.1, ec_cellCount A hB hF, zb_s, if_pos (ple (by omega))]
        rfl
    · show g_X9_checksum_6 _ _ _ _ _ _ = _
      unfold g_X9_checksum_6
      dsimp only
      rw [cg r0, cg h1, cg h1, h2, if_pos (ple (by omega))]
  · refine zforG nS (fun s a => tCk m1 ν s a) 7 (fun s hs v => ?_) ?_
    · show g_X10_checksum_11 _ _ _ _ = _
      unfold g_X10_checksum_11
      dsimp only
      obtain ⟨A, hB, hF, hN, ⟨sg, hG⟩, ⟨t, b, c, hV, hz⟩, hX, hO, hM, hT, hD, hA, hL, hVb, hC, hP⟩ := R1.2.2.1 s hs
      have hs4 : s < 4 := by omega
      obtain ⟨-, ⟨hc, hc1, hc6⟩, ⟨hr, hr1, hr6⟩, -⟩ := id hB
      rw [h30, if_neg (nle (by omega)), gi3 hs4]
      refine zforG (nC m1 s) (fun x c => zfd (fun y e => 31 * e + (tTop m1 ν s x y).toInt64) c (nR m1 s)) (31 * v + (m1 3 s).toInt64) (fun x hx w => ?_) ?_
      · show g_X10_checksum_36 _ _ _ _ _ = _
        unfold g_X10_checksum_36
        dsimp only
        rw [gi1 hs4, hc, if_neg (nle (by omega))]
        refine zforG (nR m1 s) (fun y e => 31 * e + (tTop m1 ν s x y).toInt64) w (fun y hy u => ?_) ?_
        · show g_X10_checksum_50 _ _ _ _ _ _ = _
          unfold g_X10_checksum_50
          dsimp only
          rw [gi2 hs4, hr, if_neg (nle (by omega)), em_topAt hB (Vb_Dn hVb hH) (by omega) (by omega), zb_s]
        · show g_X10_checksum_50 _ _ _ _ _ _ = _
          unfold g_X10_checksum_50
          dsimp only
          rw [gi2 hs4, hr, if_pos (ple (by omega))]
      · show g_X10_checksum_36 _ _ _ _ _ = _
        unfold g_X10_checksum_36
        dsimp only
        rw [gi1 hs4, hc, if_pos (ple (by omega))]
        rfl
    · show g_X10_checksum_11 _ _ _ _ = _
      unfold g_X10_checksum_11
      dsimp only
      rw [h30, if_pos (ple (by omega))]
theorem op_meanTop (R : RR lv κ νc μ ν H nS nB nK) (x1 : Int32) : (g_X9_meanTop lv 0 x1 κ νc = some (.inr 2) ∧ g_X10_meanTop x1 μ ν = some (0, zset μ 0 33 1, ν)) ∨ ∃ v, FP.Core.dIsNaN v = false ∧ g_X9_meanTop lv 0 x1 κ νc = some (.inl v) ∧ g_X10_meanTop x1 μ ν = some (v, zset μ 0 33 0, ν) := by
  have r0 := R.1.1
  have h30 := R.1.2.2.2.2.2.1
  have h4 := R.1.2.1
  have hH := R.1.2.2.2.2.1
  unfold g_X9_meanTop g_X10_meanTop g_X10_meanTop_38
  rcases ix_cases x1 nS (by omega) with h | ⟨s, hs, rfl⟩
  · exact Or.inl ⟨by rw [cg r0, ec_seatOf1 R h, zth_r], by rw [em_noSeat1 h30 (by omega) h, zb_s, em_th1, zg1_s, if_neg (by decide)]⟩
  rw [cg r0, ec_seatOf0 R hs, zth_l, em_noSeat0 h30 (by omega) hs, zb_s, em_th0, zg1_s, if_pos rfl]
  have R1 := RR_t 0 R
  generalize zset μ 0 33 0 = m1 at R1 ⊢
  obtain ⟨A, hB, hF, hN, ⟨sg, hG⟩, ⟨t, b, c, hV, hz⟩, hX, hO, hM, hT, hD, hA, hL, hVb, hC, hP⟩ := R1.2.2.1 s hs
  have hs4 : s < 4 := by omega
  obtain ⟨-, ⟨hc, hc1, hc6⟩, ⟨hr, hr1, hr6⟩, -⟩ := id hB
  have h36 := cr6 hc6 hr6
  have h1 : 1 * 1 ≤ nC m1 s * nR m1 s := Nat.mul_le_mul hc1 hr1
  have hw : Int32.ofNat (nC m1 s * nR m1 s) ≠ 0 := onnz (by omega)
  refine Or.inr ⟨FP.ddiv (FP.i2d (tSum m1 s (tTop m1 ν s))) (FP.i2d (Int32.ofNat (nC m1 s * nR m1 s))), ?_, ?_, ?_⟩
  · have hn : FP.Core.dIsNaN (FP.i2d (tSum m1 s (tTop m1 ν s))) = false := by
      rw [Bool.eq_false_iff]
      intro q
      exact FP.Core.DFin.ne_nan (FP.Core.i2d_fin _) ((FP.Core.dIsNaN_iff _).mp q)
    exact FP.Core.ddiv_out hn (FP.Core.i2d_fin _) (fun z => FP.Core.i2d_ne_zero hw ((FP.Core.zero_bits2 _).mp z))
  · rw [cg A.1, ec_topsInAll A hB hF (RX_RH hB hX) hA hL hD, zb_s, cg A.1, cg A.2.1, ec_cellCount A hB hF, zb_s, nd_ok hw]
  · rw [em_tops hB (Vb_Dn hVb hH), zb_s, gi1 hs4, gi2 hs4, hc, hr, on_m]
    exact nd_ok hw
def tCl (μ : zzM) (s : Nat) : Int32 := if tLast μ s = 99 then 1 else 0
theorem op_closedShare (R : RR lv κ νc μ ν H nS nB nK) : (g_X9_closedShare lv 0 κ νc = some (.inr 4) ∧ g_X10_closedShare μ ν = some (0, zset μ 0 33 1, ν)) ∨ ∃ v, FP.Core.fIsNaN v = false ∧ g_X9_closedShare lv 0 κ νc = some (.inl v) ∧ g_X10_closedShare μ ν = some (v, zset μ 0 33 0, ν) := by
  have r0 := R.1.1
  have h30 := R.1.2.2.2.2.2.1
  have h4 := R.1.2.1
  have g1 := R.2.1.1
  have h1 : lv (0 + 1) = true ∧ co (0 + 1) = 0 := g1.1
  have h2 : κ (0 + 1) 2 = Int32.ofNat nS := g1.2.1
  unfold g_X9_closedShare g_X10_closedShare g_X10_closedShare_13 cemp
  rw [cg r0, cg h1, cg h1, h2, h30]
  by_cases g : nS = 0
  · rw [g]
    exact Or.inl ⟨by rw [if_pos (show Int32.ofNat 0 = 0 from rfl), if_neg (by decide)], by rw [if_pos (show Int32.ofNat 0 = 0 from rfl), em_th1, zg1_s, if_neg (by decide)]⟩
  have hw : Int32.ofNat nS ≠ 0 := onnz (by omega)
  rw [if_neg hw, if_pos rfl, if_neg hw, em_th0, zg1_s, if_pos rfl]
  have R1 := RR_t 0 R
  clear g1 h30 h1 h2
  generalize zset μ 0 33 0 = m1 at R1 ⊢
  have g1 := R1.2.1.1
  have h30 := R1.1.2.2.2.2.2.1
  have h1 : lv (0 + 1) = true ∧ co (0 + 1) = 0 := g1.1
  have h2 : κ (0 + 1) 2 = Int32.ofNat nS := g1.2.1
  have h3 : lv (0 + 1 + 1000) = true ∧ ¬ κ (0 + 1) 3 = 0 := g1.2.2.1 (by omega)
  refine Or.inr ⟨FP.fdiv (FP.i2f (sm (tCl m1) nS)) (FP.i2f (Int32.ofNat nS)), nf_no hw, ?_, ?_⟩
  · refine zfor2 nS (fun s a => a + tCl m1 s) 0 (fun s hs v => ?_) ?_
    · show g_X9_closedShare_25 _ _ _ _ _ _ = _
      unfold g_X9_closedShare_25 g_X9_closedShare_56 tCl
      dsimp only
      obtain ⟨A, hB, hF, hN, ⟨sg, hG⟩, ⟨t, b, c, hV, hz⟩, hX, hO, hM, hT, hD, hA, hL, hVb, hC, hP⟩ := R1.2.2.1 s hs
      rw [cg r0, cg h1, cg h1, h2, if_neg (nle (by omega)), cg r0, cg h1, cgt h1 h3 h2 (by omega) hs, show child (0 + 1) s = 100 * (s + 1) from rfl, cg A.1, cg A.1, ec_hasCover A hB hN hV, zb_s]
      by_cases w : tLast m1 s = 99
      · rw [if_pos w, if_neg (by decide)]
      · rw [if_neg w, if_pos rfl, Int32.add_zero]
    · show g_X9_closedShare_25 _ _ _ _ _ _ = _
      unfold g_X9_closedShare_25
      dsimp only
      rw [cg r0, cg h1, cg h1, h2, if_pos (ple (by omega)), cg r0, cg h1, cg h1]
      exact nf_of (nf_no hw)
  · refine zfor2 nS (fun s a => a + tCl m1 s) 0 (fun s hs v => ?_) ?_
    · show g_X10_closedShare_26 _ _ _ _ = _
      unfold g_X10_closedShare_26 g_X10_closedShare_50 tCl
      dsimp only
      obtain ⟨A, hB, hF, hN, ⟨sg, hG⟩, ⟨t, b, c, hV, hz⟩, hX, hO, hM, hT, hD, hA, hL, hVb, hC, hP⟩ := R1.2.2.1 s hs
      rw [h30, if_neg (nle (by omega)), em_last hB (Lv_ch hV), zb_s]
      by_cases w : tLast m1 s = 99
      · rw [if_pos w, if_pos w]
      · rw [if_neg w, if_neg w]
    · show g_X10_closedShare_26 _ _ _ _ = _
      unfold g_X10_closedShare_26
      dsimp only
      rw [h30, if_pos (ple (by omega))]
      exact nf_of (nf_no hw)
end ZRG
