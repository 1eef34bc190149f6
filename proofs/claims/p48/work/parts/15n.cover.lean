section ZWN
/-! covering: the highest top, the cloth's cut -/
variable {lv : Nat → Bool} {κ κ' : zzM} {νc νc' : zzN} {μ μ' : zzM} {ν ν' : zzN} {H H' : Int} {nS nB nK : Nat}
def tMax (μ : zzM) (ν : zzN) (s : Nat) : Int32 := zfd (fun x a => zfd (fun y b => zz_max b (tTop μ ν s x y)) a (nR μ s)) 0 (nC μ s)
theorem ec_greatestTop {S s : Nat} (A : As lv S) (hB : Bd μ s) (hF : RF κ μ S s) (hH : RH κ μ S s) (hA : Al lv κ μ S s) (hL : RLa κ νc μ ν S s) (hD : RD κ μ S s) : g_X7_greatestTop lv S κ νc = some (tMax μ ν s) := by
  have A' := A
  have hB' := hB
  obtain ⟨a8, a4, -⟩ := A
  obtain ⟨hs, ⟨hc, hc1, hc6⟩, ⟨hr, hr1, hr6⟩, -⟩ := hB
  have h36 := cr6 hc6 hr6
  unfold g_X7_greatestTop
  refine cells A' hB' hF (g := fun x y b => zz_max b (tTop μ ν s x y)) (a := (0 : Int32)) (fun v p => (v, Int32.ofNat p)) (fun p hp x y hx hy hxy v => ?_) ?_
  · show g_X7_greatestTop_4 _ _ _ _ _ _ = _
    unfold g_X7_greatestTop_4
    rw [cg a8, cg a4, ec_cellCount A' hB' hF, zb_s, if_neg (nle (by omega)), cg a8, cg a4, ec_cellAt A' hB' hF (by omega), zb_s, cg a8, hxy, ec_topOf A' hB' hH hA hL hD hx hy, zb_s, on_s]
  · show g_X7_greatestTop_4 _ _ _ _ _ _ = _
    unfold g_X7_greatestTop_4
    rw [cg a8, cg a4, ec_cellCount A' hB' hF, zb_s, if_pos (ple (by omega))]
    rfl
theorem em_greatest {s : Nat} {x2 x3 : Int32} {r : Int32 × zzM × zzN} (hB : Bd μ s) (hD : Dn μ ν s) (h : g_X10_cover_95 (Int32.ofNat s) x2 x3 (tMax μ ν s) (Int32.ofNat (nC μ s)) μ ν = some (.inr r)) : zz_it (fun s1 : (Int32 × Int32) => g_X10_cover_95 (Int32.ofNat s) x2 x3 s1.1 s1.2 μ ν) zz_F ((0 : Int32), (0 : Int32)) = some r := by
  have hB' := hB
  obtain ⟨hs, ⟨hc, hc1, hc6⟩, ⟨hr, hr1, hr6⟩, -⟩ := hB
  refine zfor2 (nC μ s) (fun x a => zfd (fun y b => zz_max b (tTop μ ν s x y)) a (nR μ s)) 0 (fun x hx v => ?_) h
  show g_X10_cover_95 _ _ _ _ _ _ _ = _
  unfold g_X10_cover_95
  rw [gi1 hs, hc, if_neg (nle (by omega))]
  refine zfor2 (nR μ s) (fun y b => zz_max b (tTop μ ν s x y)) v (fun y hy w => ?_) ?_
  · show g_X10_cover_109 _ _ _ _ _ _ _ _ = _
    unfold g_X10_cover_109
    rw [gi2 hs, hr, if_neg (nle (by omega)), em_topAt hB' hD (by omega) (by omega), zb_s]
  · show g_X10_cover_109 _ _ _ _ _ _ _ _ = _
    unfold g_X10_cover_109
    rw [gi2 hs, hr, if_pos (ple (by omega))]
theorem zfd_P {β : Type} {f : Nat → β → β} {a : β} (P : β → Prop) (h0 : P a) : ∀ n : Nat, (∀ i, i < n → ∀ v, P v → P (f i v)) → P (zfd f a n)
  | 0, _ => h0
  | n + 1, h => h n (by omega) _ (zfd_P P h0 n (fun i hi v hv => h i (by omega) v hv))
theorem tTop_I {s x y : Nat} (h : Vb μ ν H s) (hH : H ≤ 100000000) (hl4 : nL μ s ≤ 4) (hx : x < 6) (hy : y < 6) : 0 ≤ (tTop μ ν s x y).toInt ∧ (tTop μ ν s x y).toInt ≤ 400 := by
  have i0 : (0 : Int32).toInt = 0 := rfl
  have t1 := tH_I h hx hy
  have t2 := h.2.2.2.1 x y hx hy
  have s1 := sub_I (tH μ s x y) (μ (111 + 7 * s + x) y) (by omega) (by omega)
  have key : ∀ n : Nat, n ≤ nL μ s → -30 ≤ (zfd (fun l a => a + tTh μ ν s l) (tH μ s x y - μ (111 + 7 * s + x) y) n).toInt ∧ (zfd (fun l a => a + tTh μ ν s l) (tH μ s x y - μ (111 + 7 * s + x) y) n).toInt ≤ 99 + 60 * (n : Int) := by
    intro n
    induction n with
    | zero =>
      intro _
      show -30 ≤ (tH μ s x y - μ (111 + 7 * s + x) y).toInt ∧ (tH μ s x y - μ (111 + 7 * s + x) y).toInt ≤ _
      omega
    | succ n ih =>
      intro hn
      have h1 := ih (by omega)
      have h2 := tTh_I h hH (l := n) (by omega)
      have e : zfd (fun l a => a + tTh μ ν s l) (tH μ s x y - μ (111 + 7 * s + x) y) (n + 1) = zfd (fun l a => a + tTh μ ν s l) (tH μ s x y - μ (111 + 7 * s + x) y) n + tTh μ ν s n := rfl
      rw [e, add_I] <;> omega
  have k := key (nL μ s) (Nat.le_refl _)
  unfold tTop
  rw [max_I, i0]
  omega
theorem tMax_I {s : Nat} (hB : Bd μ s) (h : Vb μ ν H s) (hH : H ≤ 100000000) : 0 ≤ (tMax μ ν s).toInt ∧ (tMax μ ν s).toInt ≤ 400 := by
  have hc6 := hB.2.1.2.2
  have hr6 := hB.2.2.1.2.2
  unfold tMax
  refine zfd_P (fun v : Int32 => 0 ≤ v.toInt ∧ v.toInt ≤ 400) (by decide) _ (fun x hx v hv => ?_)
  refine zfd_P (fun v : Int32 => 0 ≤ v.toInt ∧ v.toInt ≤ 400) hv _ (fun y hy w hw => ?_)
  have := tTop_I h hH hB.2.2.2.2.2 (x := x) (y := y) (by omega) (by omega)
  show 0 ≤ (zz_max w (tTop μ ν s x y)).toInt ∧ (zz_max w (tTop μ ν s x y)).toInt ≤ 400
  rw [max_I]
  omega
/-- the length of a panel -/
theorem len_e {s : Nat} (hB : Bd μ s) (h : Vb μ ν H s) (hH : H ≤ 100000000) : ∃ n, n ≤ 1000 ∧ 10 * Int32.ofNat (nR μ s) + tMax μ ν s = Int32.ofNat n ∧ tMax μ ν s + 10 * Int32.ofNat (nR μ s) = Int32.ofNat n := by
  have hr6 := hB.2.2.1.2.2
  obtain ⟨h1, h2⟩ := tMax_I hB h hH
  have e : tMax μ ν s = Int32.ofNat (tMax μ ν s).toNatClampNeg := (Int32.ofNat_toNatClampNeg _ (Int32.le_iff_toInt_le.mpr h1)).symm
  have e2 : (tMax μ ν s).toNatClampNeg ≤ 400 := by
    show (tMax μ ν s).toInt.toNat ≤ 400
    omega
  have e3 : (10 : Int32) * Int32.ofNat (nR μ s) = Int32.ofNat (10 * nR μ s) := (Int32.ofNat_mul 10 _).symm
  refine ⟨10 * nR μ s + (tMax μ ν s).toNatClampNeg, by omega, ?_, ?_⟩
  · rw [e, e3, on_n _ (by omega), ← Int32.ofNat_add]
  · rw [e, e3, on_n _ (by omega), ← Int32.ofNat_add, Nat.add_comm]
theorem cgc_s {α : Type} {x : Option α} {j : Nat} (h : j < 4) : cloth1 (some (700 + j)) = Int32.ofNat (j + 1) ∧ cgc (some (700 + j)) x = x := by
  have e : cloth1 (some (700 + j)) = Int32.ofNat (j + 1) := by
    show Int32.ofNat (700 + j - 699) = _
    rw [show 700 + j - 699 = j + 1 by omega]
  refine ⟨e, ?_⟩
  unfold cgc
  rw [e, if_pos]
  unfold clothv
  rw [if_neg (show ¬ Int32.ofNat (j + 1) = 0 from pne (b := 0) (by omega)), on_n _ (by omega), show 699 + (j + 1) = 700 + j by omega]
/-- a cloth's cut goes on -/
theorem RR_cut {j f : Nat} (hj : j < nK) (h1 : cU μ j ≤ f) (h2 : f ≤ cL μ j) (R : RR lv κ νc μ ν H nS nB nK) : RR lv (zset κ (700 + j) 4 (Int32.ofNat f)) νc (zset μ 171 j (Int32.ofNat f)) ν H nS nB nK := by
  obtain ⟨r1, ⟨g1, g2, g3, g4, g5, g6⟩, r3, r4, r5, r6, r7, r8, r9, r10, r11⟩ := R
  have n4 := r1.2.1
  have k4 := r1.2.2.2.1
  have kk : ∀ o, o ≠ 700 + j → zset κ (700 + j) 4 (Int32.ofNat f) o = κ o := fun o h => zset_o h
  have mm : ∀ o i, ¬ (o = 171 ∧ i = j) → zset μ 171 j (Int32.ofNat f) o i = μ o i := fun o i h => zset_e h
  have hL : cL μ j ≤ 2000 := (r7 j hj).2.1.2.2
  have eU : cU (zset μ 171 j (Int32.ofNat f)) j = f := by
    show (zset μ 171 j (Int32.ofNat f) 171 j).toNatClampNeg = f
    rw [zset_h, on_n _ (by omega)]
  have eU2 : ∀ j', cU μ j' ≤ cU (zset μ 171 j (Int32.ofNat f)) j' := fun j' => by
    by_cases g : j' = j
    · rw [g, eU]; exact h1
    · unfold cU; rw [mm _ _ (by omega)]; exact Nat.le_refl _
  have k4' : zset κ (700 + j) 4 (Int32.ofNat f) (700 + j) 4 = Int32.ofNat f := zset_h
  have kx : ∀ i, i ≠ 4 → zset κ (700 + j) 4 (Int32.ofNat f) (700 + j) i = κ (700 + j) i := fun i h => zset_e (by omega)
  have m4' : zset μ 171 j (Int32.ofNat f) 171 j = Int32.ofNat f := zset_h
  generalize zset κ (700 + j) 4 (Int32.ofNat f) = κ' at kk k4' kx ⊢
  generalize zset μ 171 j (Int32.ofNat f) = μ' at mm eU eU2 m4' ⊢
  have sm : ∀ s, s < 4 → SM μ μ' ν ν s := fun s hs => ⟨fun o i h => mm o i (by unfold FP at h; omega), fun i => rfl⟩
  have sk : ∀ s, s < 4 → SK κ κ' νc νc (100 * (s + 1)) := fun s hs => ⟨fun o h => kk o (by unfold FK at h; omega), fun _ _ _ => rfl⟩
  have hl : ∀ s, s < 4 → tLast μ' s = tLast μ s := fun s hs => tLast_m (sm s hs)
  refine ⟨?_, ⟨?_, ?_, ?_, ?_, g5, g6⟩, fun s hs => RS_km (sm s (by omega)) (sk s (by omega)) (Int.le_refl _) (r3 s hs), fun s h1 h2 => ?_, fun b hb => ⟨(r5 b hb).1, RB_c (kk _ (by omega)) (fun x y hx => mm _ _ (by omega)) (r5 b hb).2⟩, fun b h1 h2 x y hx hy => by rw [mm _ _ (by omega)]; exact r6 b h1 h2 x y hx hy, fun i hi => ?_, fun i h1 h2 => by rw [mm _ _ (by omega), mm _ _ (by omega)]; exact r8 i h1 h2, fun i hi => ?_, fun s hs => ?_, fun s1 s2 h1 h2 => ?_⟩
  · rw [mm _ _ (by omega), mm _ _ (by omega), mm _ _ (by omega)]
    exact r1
  · unfold Gr; rw [kk 1 (by omega)]; exact g1
  · unfold Gr; rw [kk 2 (by omega)]; exact g2
  · unfold Gr; rw [kk 3 (by omega)]; exact g3
  · unfold Gr; rw [kk 4 (by omega)]; exact g4
  · obtain ⟨z1, z2, z3, z4, z5, z6, z7⟩ := r4 s h1 h2
    refine ⟨?_, ?_, ?_, ?_, ?_, fun x y hx hy => ?_, fun k hk => ?_⟩
    · rw [mm _ _ (by omega)]; exact z1
    · rw [mm _ _ (by omega)]; exact z2
    · rw [mm _ _ (by omega)]; exact z3
    · rw [mm _ _ (by omega)]; exact z4
    · rw [mm _ _ (by omega)]; exact z5
    · rw [mm _ _ (by omega)]; exact z6 x y hx hy
    · rw [mm _ _ (by omega)]; exact z7 k hk
  · by_cases g : i = j
    · subst g
      obtain ⟨w1, w2, w3, w4, w5, w6⟩ := r7 i hi
      unfold RK
      rw [eU]
      unfold cL cR cF fL
      rw [kx 0 (by decide), kx 1 (by decide), kx 3 (by decide), k4', m4', kk _ (by omega), mm 169 i (by omega), mm 170 i (by omega), mm 172 i (by omega)]
      exact ⟨w1, w2, w3, w4, ⟨rfl, rfl, h2⟩, fun k hk => by rw [mm _ _ (by omega)]; exact w6 k hk⟩
    · exact RK_c (kk _ (by omega)) (kk _ (by omega)) (mm _ _ (by omega)) (mm _ _ (by omega)) (mm _ _ (by omega)) (mm _ _ (by omega)) (fun q => mm _ _ (by omega)) (r7 i hi)
  · unfold RLn
    rw [kk _ (by omega), mm _ _ (by omega), mm _ _ (by omega)]
    exact r9 i hi
  · have hs4 : s < 4 := by omega
    unfold RP pL pN nC cR cF fL
    rw [hl s hs4, kk _ (by omega), mm 143 s (by omega), mm 1 s (by omega)]
    intro g
    obtain ⟨j', mt, hj', w1, w2, w3, w4, w5, w6⟩ := r10 s hs g
    refine ⟨j', mt, hj', w1, w2, by rw [mm _ _ (by omega)]; exact w3, w4, w5, fun k hk => ?_⟩
    obtain ⟨y1, y2, y3, y4, y5⟩ := w6 k hk
    rw [mm 170 j' (by omega), mm 172 j' (by omega), mm _ _ (by omega)]
    refine ⟨y1, y2, Nat.le_trans y3 (eU2 j'), fun i hi => by rw [mm _ _ (by omega)]; exact y4 i hi, fun k' hk' => by rw [mm _ _ (by omega)]; exact y5 k' hk'⟩
  · have hs4 : s1 < 4 := by omega
    have hs5 : s2 < 4 := by omega
    unfold RQ pL pN nC
    rw [hl s1 hs4, hl s2 hs5, kk _ (by omega), kk _ (by omega), mm 143 s1 (by omega), mm 143 s2 (by omega), mm 1 s1 (by omega), mm 1 s2 (by omega)]
    intro a1 a2 a3 a4 k1 k2 h3 h4
    rw [mm _ _ (by omega), mm _ _ (by omega)]
    exact r11 s1 s2 h1 h2 a1 a2 a3 a4 k1 k2 h3 h4
/-- two loops in step that may end early -/
theorem zit_2X {σ τ γ δ : Type} {b : σ → Option (σ ⊕ γ)} {b' : τ → Option (τ ⊕ δ)} (I : Nat → σ → τ → Prop) (Q : γ → δ → Prop) (N : Nat) (hN : N < 100000) {s : σ} {t : τ} (h0 : I 0 s t) (h1 : ∀ i, i ≤ N → ∀ s t, I i s t → (∃ s' t', i < N ∧ b s = some (.inl s') ∧ b' t = some (.inl t') ∧ I (i + 1) s' t') ∨ ∃ r r', b s = some (.inr r) ∧ b' t = some (.inr r') ∧ Q r r') : ∃ r r', zz_it b zz_F s = some r ∧ zz_it b' zz_F t = some r' ∧ Q r r' := by
  have main : ∀ d i s t, i + d = N → I i s t → ∃ n, n ≤ d ∧ ∃ (S : Nat → σ) (T : Nat → τ), S 0 = s ∧ T 0 = t ∧ (∀ k, k < n → b (S k) = some (.inl (S (k + 1))) ∧ b' (T k) = some (.inl (T (k + 1)))) ∧ ∃ r r', b (S n) = some (.inr r) ∧ b' (T n) = some (.inr r') ∧ Q r r' := by
    intro d
    induction d with
    | zero =>
      intro i s t hi hI
      rcases h1 i (by omega) s t hI with ⟨s', t', q, -⟩ | ⟨r, r', q1, q2, q3⟩
      · omega
      · exact ⟨0, Nat.le_refl _, fun _ => s, fun _ => t, rfl, rfl, fun k hk => absurd hk (Nat.not_lt_zero k), r, r', q1, q2, q3⟩
    | succ d ih =>
      intro i s t hi hI
      rcases h1 i (by omega) s t hI with ⟨s', t', q, p1, p2, p3⟩ | ⟨r, r', q1, q2, q3⟩
      · obtain ⟨n, hn, S, T, e1, e2, e3, r, r', e4, e5, e6⟩ := ih (i + 1) s' t' (by omega) p3
        refine ⟨n + 1, by omega, fun k => match k with | 0 => s | k + 1 => S k, fun k => match k with | 0 => t | k + 1 => T k, rfl, rfl, fun k hk => ?_, r, r', e4, e5, e6⟩
        match k with
        | 0 => exact ⟨by show b s = some (.inl (S 0)); rw [e1]; exact p1, by show b' t = some (.inl (T 0)); rw [e2]; exact p2⟩
        | k + 1 => exact e3 k (by omega)
      · exact ⟨0, by omega, fun _ => s, fun _ => t, rfl, rfl, fun k hk => absurd hk (Nat.not_lt_zero k), r, r', q1, q2, q3⟩
  obtain ⟨n, hn, S, T, e1, e2, e3, r, r', e4, e5, e6⟩ := main N 0 s t (by omega) h0
  refine ⟨r, r', ?_, ?_, e6⟩
  · rw [← e1]
    exact zfor n S (fun i hi => (e3 i hi).1) e4 (by omega)
  · rw [← e2]
    exact zfor n T (fun i hi => (e3 i hi).2) e5 (by omega)
end ZWN
