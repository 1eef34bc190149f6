section ZRI
/-! soundness -/
variable {lv : Nat → Bool} {κ κ' : zzM} {νc νc' : zzN} {μ μ' : zzM} {ν ν' : zzN} {H H' : Int} {nS nB nK : Nat}
def ordB (t l b c k : Nat) : Bool := decide (2 + t + l + b + c ≤ k) || decide (1 ≤ b + c ∧ l = 0) || mfo (if k = 0 then 32 else Int32.ofNat (Lt t l b (k - 1))) k (min (k - (2 + t)) l) (Int32.ofNat (Lt t l b k))
theorem ord_all : ∀ t, t < 2 → ∀ l, l < 5 → ∀ b, b < 2 → ∀ c, c < 2 → ∀ k, k < 9 → ordB t l b c k = true := by decide +kernel
theorem Lv_ord {s t b c k : Nat} (hB : Bd μ s) (hV : Lv μ s t b c) (hk : k < nD μ s) : mfo (cAh μ s k) k (min (k - (2 + t)) (nL μ s)) (μ (5 + s) k) = true := by
  obtain ⟨v1, v2, v3, v4, v5, v6, v7⟩ := hV
  obtain ⟨-, -, -, ⟨-, hd9⟩, -, hl4⟩ := hB
  have h := ord_all t (by omega) (nL μ s) (by omega) b (by omega) c (by omega) k (by omega)
  have hk2 : ¬ 2 + t + nL μ s + b + c ≤ k := by
    by_cases h2 : nD μ s < 2
    · have := v4 h2; omega
    · have := v5 (by omega); omega
  have hk3 : ¬ (1 ≤ b + c ∧ nL μ s = 0) := fun q => by have := v6 q.1; omega
  unfold ordB at h
  rw [decide_eq_false hk2, decide_eq_false hk3, Bool.false_or, Bool.false_or] at h
  have e : cAh μ s k = if k = 0 then 32 else Int32.ofNat (Lt t (nL μ s) b (k - 1)) := by
    unfold cAh
    by_cases h0 : k = 0
    · rw [if_pos h0, if_pos h0]
    · rw [if_neg h0, if_neg h0, v7 (k - 1) (by omega)]
  rw [e, v7 k hk]
  exact h
theorem ec_order {S s t b c sg : Nat} (A : As lv S) (hB : Bd μ s) (hN : RN κ μ S s) (hV : Lv μ s t b c) (hG : RG κ μ S s sg) : g_X8_areInOrder lv (S + 4) κ νc = some 1 := by
  have A' := A
  have hB' := hB
  obtain ⟨a8, a4, ah, af, a9, -⟩ := A
  obtain ⟨hs, -, -, ⟨hd, hd9⟩, -⟩ := hB
  unfold g_X8_areInOrder
  refine zfor (nD μ s) (fun k => Int32.ofNat k) (fun k hk => ?_) ?_ (by omega)
  · show g_X8_areInOrder_2 _ _ _ _ _ = _
    unfold g_X8_areInOrder_2
    rw [cg a9, hN.1, hd, if_neg (nle (by omega)), cg a9, ec_letterAt A' hB' hN hV hk, zb_s, cg a9, ec_mayFollow A' hB' hN hV (by omega), zb_s, Lv_ord hB' hV hk, if_pos rfl, if_neg (by decide), on_s]
  · show g_X8_areInOrder_2 _ _ _ _ _ = _
    unfold g_X8_areInOrder_2 g_X8_areInOrder_55 g_X8_areInOrder_60
    rw [cg a9, hN.1, hd, if_pos (ple (by omega)), cg a9, cg a9, hG.2.1]
    rcases hG.1 with h | h
    · rw [h, if_pos rfl, zgz1]
      rfl
    · by_cases g : sg = nD μ s
      · rw [g, if_pos rfl, zgz1]
        rfl
      · rw [if_neg (pne (by omega)), cg a9, cg a9, on_p _ (by omega), if_pos (by congr 1; omega), zgz1]
        rfl
theorem max_nn (a : Int32) : (0 : Int32) ≤ zz_max 0 a := by
  rw [Int32.le_iff_toInt_le, max_I, i0]
  omega
theorem ec_soundTops {S s : Nat} (A : As lv S) (hB : Bd μ s) (hF : RF κ μ S s) (hH : RH κ μ S s) (hA : Al lv κ μ S s) (hL : RLa κ νc μ ν S s) (hD : RD κ μ S s) : g_X7_hasSoundTops lv S κ νc = some 1 := by
  have A' := A
  have hB' := hB
  obtain ⟨a8, a4, -⟩ := A
  obtain ⟨hs, ⟨hc, hc1, hc6⟩, ⟨hr, hr1, hr6⟩, -⟩ := hB
  have h36 := cr6 hc6 hr6
  unfold g_X7_hasSoundTops
  refine cells A' hB' hF (g := fun x y b => b) (a := ()) (fun v p => Int32.ofNat p) (fun p hp x y hx hy hxy v => ?_) ?_
  · show g_X7_hasSoundTops_2 _ _ _ _ _ = _
    unfold g_X7_hasSoundTops_2
    rw [cg a8, cg a4, ec_cellCount A' hB' hF, zb_s, if_neg (nle (by omega)), cg a8, cg a4, ec_cellAt A' hB' hF (by omega), zb_s, cg a8, hxy, ec_topOf A' hB' hH hA hL hD hx hy, zb_s, if_pos (show (0 : Int32) ≤ tTop μ ν s x y from max_nn _), on_s]
  · show g_X7_hasSoundTops_2 _ _ _ _ _ = _
    unfold g_X7_hasSoundTops_2
    rw [cg a8, cg a4, ec_cellCount A' hB' hF, zb_s, if_pos (ple (by omega))]
theorem cloth_j {S j : Nat} (hj : j < 100) (h : κ (S + 8) 3 = Int32.ofNat (j + 1)) : cloth κ (S + 8) = some (700 + j) := by
  unfold cloth clothv
  rw [h, if_neg (onnz (by omega)), on_n _ (by omega)]
  congr 1
  omega
theorem cloth_0 {S : Nat} (h : κ (S + 8) 3 = 0) : cloth κ (S + 8) = none := by
  unfold cloth clothv
  rw [h, if_pos rfl]
theorem ec_placeAt {S k : Nat} (A : As lv S) (hk : k < 6) : g_X1_placeAt lv (S + 8) (Int32.ofNat k) κ νc = some (κ (S + 8 + 1000) k) := by
  obtain ⟨a8, a4, ah, af, a9, a3, a0, ad, a2, bh, bf, bc, br, b9, bd, b2, hS⟩ := A
  unfold g_X1_placeAt g_X1_placeAt_22 g_X1_placeAt_23
  rw [if_neg (on_nn k (by omega)), cg a2, cl b2, if_neg (nle (by omega)), cg a2, ca b2 (by omega)]
theorem ec_fits {s : Nat} (R : RR lv κ νc μ ν H nS nB nK) (hs : s < nS) : g_X1_fitsItsCloth lv (100 * (s + 1) + 8) κ νc = some 1 := by
  have k4 := R.1.2.2.2.1
  obtain ⟨A, hB, hF, hN, -, -, hX, hO, hM, hT, hD, hA, hL, hVb, hC, hP⟩ := R.2.2.1 s hs
  have hRP := R.2.2.2.2.2.2.2.2.2.1 s hs
  have A' := A
  obtain ⟨a8, a4, ah, af, a9, a3, a0, ad, a2, bh, bf, bc, br, b9, bd, b2, hS⟩ := A
  obtain ⟨-, ⟨hc, hc1, hc6⟩, -⟩ := hB
  unfold g_X1_fitsItsCloth g_X1_fitsItsCloth_19
  by_cases g : tLast μ s = 99
  · obtain ⟨j, mt, hj, j3, j4, jm, jp, jp2, jk⟩ := hRP g
    rw [cg a2, cloth_j (by omega) j3, if_neg (by simp)]
    obtain ⟨ck, k0, k1, k3, k5, k6⟩ := R.2.2.2.2.2.2.1 j hj
    have h1 : κ (100 * (s + 1) + 8) 1 = Int32.ofNat (nC μ s) := by
      rw [hC.2.2.2.2.1, if_pos g, hc]
    refine zfor (nC μ s) (fun k => Int32.ofNat k) (fun k hk => ?_) ?_ (by omega)
    · show g_X1_fitsItsCloth_22 _ _ _ _ _ = _
      unfold g_X1_fitsItsCloth_22
      obtain ⟨q1, q2, q3, q4, q5⟩ := jk k hk
      obtain ⟨p', e, u1, u2, u3, u4⟩ := ec_nextMatch (κ := κ) (νc := νc) (f := pN μ s k) ck.1 k1.2.2.1 (by omega) (k1.1.trans k1.2.1) jm (by omega)
      have hp : p' = pN μ s k := by
        refine Nat.le_antisymm (Nat.not_lt.mp fun w => u4 _ (Nat.le_refl _) w q2) u1
      obtain ⟨v, ev, hv⟩ := ec_lastFlaw (κ := κ) (νc := νc) (a := pN μ s k) (e := pN μ s k + pL μ s) ck (k3.1.trans k3.2.1) k3.2.2 (fun i hi => ⟨(k6 i hi).1.trans (k6 i hi).2.1, by have := (k6 i hi).2.2; omega⟩) (by omega) (by omega)
      have hv1 : v = -1 := by
        rcases hv with h | ⟨i, hi, h⟩
        · exact h.1
        · exact absurd h.2 (q4 i hi)
      have eh : g_X0_hasFlaw lv (700 + j) (Int32.ofNat (pN μ s k)) (Int32.ofNat (pN μ s k + pL μ s)) κ νc = some 0 := by
        unfold g_X0_hasFlaw g_X0_hasFlaw_14
        rw [cg ck.1, ev, zb_s, hv1, if_pos (by decide), zgz0]
      rw [cg a2, h1, if_neg (nle (by omega)), cg a2, ec_placeAt A' (by omega), zb_s, hC.1 k (by omega), q1, cg a2, cg a2, cloth_j (by omega) j3, j4]
      unfold cgn
      dsimp only
      rw [cg ck.1, e, zb_s, hp, if_pos rfl, cg a2, cg a2, cg ck.1, hC.2.1, jp, on_a, eh, zb_s, if_pos rfl, on_s]
    · show g_X1_fitsItsCloth_22 _ _ _ _ _ = _
      unfold g_X1_fitsItsCloth_22
      rw [cg a2, h1, if_pos (ple (by omega))]
  · rw [cg a2, cloth_0 (hC.2.2.2.2.2 g), if_pos rfl, cg a2, hC.2.2.2.2.1, if_neg g, if_pos rfl, zgz1]
theorem ec_overlaps {s u : Nat} (R : RR lv κ νc μ ν H nS nB nK) (hs : s < nS) (hu : u < nS) : g_X1_overlaps lv (100 * (s + 1) + 8) (100 * (u + 1) + 8) κ νc = some 0 := by
  have k4 := R.1.2.2.2.1
  have h4 := R.1.2.1
  obtain ⟨A, hB, hF, hN, -, -, hX, hO, hM, hT, hD, hA, hL, hVb, hC, hP⟩ := R.2.2.1 s hs
  obtain ⟨A2, hB2, -, -, -, -, -, -, -, -, -, -, -, -, hC2, -⟩ := R.2.2.1 u hu
  have hRP := R.2.2.2.2.2.2.2.2.2.1 s hs
  have hRP2 := R.2.2.2.2.2.2.2.2.2.1 u hu
  have hRQ := R.2.2.2.2.2.2.2.2.2.2 s u hs hu
  have a2 := A.2.2.2.2.2.2.2.2.1
  have b2 := A2.2.2.2.2.2.2.2.2.1
  obtain ⟨-, ⟨hc, hc1, hc6⟩, -⟩ := hB
  obtain ⟨-, ⟨hd, hd1, hd6⟩, -⟩ := hB2
  unfold g_X1_overlaps g_X1_overlaps_18
  by_cases g : tLast μ s = 99
  · obtain ⟨j, mt, hj, j3, j4, jm, jp, jp2, jk⟩ := hRP g
    obtain ⟨ck, k0, k1, k3, k5, k6⟩ := R.2.2.2.2.2.2.1 j hj
    rw [cg a2, cloth_j (by omega) j3, if_neg (by simp), cg a2, cg b2]
    by_cases g2 : tLast μ u = 99
    · obtain ⟨i, mu, hi, i3, i4, im, ip, ip2, ik⟩ := hRP2 g2
      obtain ⟨ci, -⟩ := R.2.2.2.2.2.2.1 i hi
      rw [cloth_j (by omega) i3]
      unfold ceq
      rw [if_pos ⟨fun o ho => by cases ho; exact ck.1.1, fun o ho => by cases ho; exact ci.1.1⟩]
      by_cases gj : j = i
      · subst gj
        rw [if_pos rfl]
        have h1 : κ (100 * (s + 1) + 8) 1 = Int32.ofNat (nC μ s) := by
          rw [hC.2.2.2.2.1, if_pos g, hc]
        have h2 : κ (100 * (u + 1) + 8) 1 = Int32.ofNat (nC μ u) := by
          rw [hC2.2.2.2.2.1, if_pos g2, hd]
        have dis : ∀ x y, x < nC μ s → y < nC μ u → ¬ (s = u ∧ x = y) → pN μ s x + pL μ s ≤ pN μ u y ∨ pN μ u y + pL μ u ≤ pN μ s x := by
          intro x y hx hy hne
          by_cases hsu : s = u
          · subst hsu
            by_cases w : x < y
            · exact Or.inl ((jk y hy).2.2.2.2 x w)
            · exact Or.inr ((jk x hx).2.2.2.2 y (by omega))
          · exact hRQ hsu g g2 (j3.trans i3.symm) x y hx hy
        refine zfor (nC μ s) (fun k => Int32.ofNat k) (fun x hx => ?_) ?_ (by omega)
        · show g_X1_overlaps_22 _ _ _ _ _ _ = _
          unfold g_X1_overlaps_22
          rw [cg a2, h1, if_neg (nle (by omega))]
          refine zfor (nC μ u) (fun k => Int32.ofNat k) (fun y hy => ?_) ?_ (by omega)
          · show g_X1_overlaps_32 _ _ _ _ _ _ _ = _
            unfold g_X1_overlaps_32 g_X1_overlaps_54 ceq
            rw [cg b2, h2, if_neg (nle (by omega)), if_pos ⟨fun o ho => by cases ho; exact a2.1, fun o ho => by cases ho; exact b2.1⟩]
            have core : ¬ (s = u ∧ x = y) → g_X1_overlaps_55 lv (100 * (s + 1) + 8) (100 * (u + 1) + 8) (Int32.ofNat x) (Int32.ofNat y) 0 κ νc = some (.inl (Int32.ofNat (y + 1))) := by
              intro hne
              have hd := dis x y hx hy hne
              obtain ⟨q1, q2, q3, q4, q5⟩ := jk x hx
              obtain ⟨p1, p2, p3, p4, p5⟩ := ik y hy
              unfold g_X1_overlaps_55 g_X1_overlaps_100
              rw [if_pos rfl, cg a2, ec_placeAt A (by omega), zb_s, cg b2, ec_placeAt A2 (by omega), zb_s, cg b2, hC.1 x (by omega), hC2.1 y (by omega), q1, p1, hC2.2.1, ip, on_a, on_s]
              by_cases w : pN μ u y + pL μ u ≤ pN μ s x
              · rw [if_pos (ple (by omega))]
              · rw [if_neg (nle (by omega)), cg b2, zb_s, cg a2, zb_s, cg a2, hC.2.1, jp, on_a, if_pos (ple (by omega))]
            by_cases w1 : s = u
            · subst w1
              rw [if_pos rfl]
              by_cases w2 : x = y
              · subst w2
                rw [if_pos rfl]
                unfold g_X1_overlaps_55 g_X1_overlaps_100
                rw [if_neg (by decide), on_s]
              · rw [if_neg (pne (by omega)), core (fun q => w2 q.2)]
            · rw [if_neg (fun q => w1 (by have := Option.some.inj q; omega)), core (fun q => w1 q.1)]
          · show g_X1_overlaps_32 _ _ _ _ _ _ _ = _
            unfold g_X1_overlaps_32
            rw [cg b2, h2, if_pos (ple (by omega)), on_s]
        · show g_X1_overlaps_22 _ _ _ _ _ _ = _
          unfold g_X1_overlaps_22
          rw [cg a2, h1, if_pos (ple (by omega))]
      · rw [if_neg (fun q => gj (by have := Option.some.inj q; omega))]
    · rw [cloth_0 (hC2.2.2.2.2.2 g2)]
      unfold ceq
      rw [if_pos ⟨fun o ho => by cases ho; exact ck.1.1, fun o ho => by cases ho⟩, if_neg (by simp)]
  · rw [cg a2, cloth_0 (hC.2.2.2.2.2 g), if_pos rfl]
theorem ec_apart {s : Nat} (R : RR lv κ νc μ ν H nS nB nK) (hs : s < nS) : g_X9_liesApart lv 0 (100 * (s + 1) + 8) κ νc = some 1 := by
  have r0 := R.1.1
  have h4 := R.1.2.1
  have g1 := R.2.1.1
  have h1 : lv (0 + 1) = true ∧ co (0 + 1) = 0 := g1.1
  have h2 : κ (0 + 1) 2 = Int32.ofNat nS := g1.2.1
  have h3 : lv (0 + 1 + 1000) = true ∧ ¬ κ (0 + 1) 3 = 0 := g1.2.2.1 (by omega)
  have a2 := (R.2.2.1 s hs).1.2.2.2.2.2.2.2.2.1
  unfold g_X9_liesApart
  refine zfor nS (fun k => Int32.ofNat k) (fun u hu => ?_) ?_ (by omega)
  · show g_X9_liesApart_2 _ _ _ _ _ _ = _
    unfold g_X9_liesApart_2
    have b8 := (R.2.2.1 u hu).1.1
    rw [cg r0, cg h1, cg h1, h2, if_neg (nle (by omega)), cg r0, cg h1, cgt h1 h3 h2 (by omega) hu, show child (0 + 1) u = 100 * (u + 1) from rfl, cg b8, cg b8, cg a2, ec_overlaps R hs hu, zb_s, if_pos rfl, on_s]
  · show g_X9_liesApart_2 _ _ _ _ _ _ = _
    unfold g_X9_liesApart_2
    rw [cg r0, cg h1, cg h1, h2, if_pos (ple (by omega))]
theorem abs8 {v w : Int32} (h1 : v.toInt - 8 ≤ w.toInt) (h2 : w.toInt - 8 ≤ v.toInt) (hv : 0 ≤ v.toInt ∧ v.toInt ≤ 1000) : zz_abs (v - w) ≤ 8 := by
  have e : (v - w).toInt = v.toInt - w.toInt := sub_I _ _ (by omega) (by omega)
  rw [Int32.le_iff_toInt_le, i8]
  show (if 0 ≤ v - w then v - w else 0 - (v - w)).toInt ≤ 8
  by_cases g : 0 ≤ v - w
  · rw [if_pos g, e]; omega
  · rw [if_neg g, sub_I] <;> rw [i0, e] <;> omega
theorem zM_b {own : Nat → Nat → Int} {c r x y : Nat} (h : ∀ a b, a < c → b < r → own a b ≤ 400) : zM own c r x y ≤ 400 := zM_ub (by omega) (fun a b ha hb => by
  have h1 := h a b ha hb
  have h2 : 0 ≤ dst a x := by unfold dst; split <;> omega
  have h3 : 0 ≤ dst b y := by unfold dst; split <;> omega
  omega)
theorem ec_slopes {s : Nat} {ow : Nat → Nat → Int} (R : RR lv κ νc μ ν H nS nB nK) (hs : s < nS) (how : ∀ a b, a < nC μ s → b < nR μ s → ow a b ≤ 400) (hv : ∀ x y, x < nC μ s → y < nR μ s → (κ (5 + 1000) (10 * x + y)).toInt = zM ow (nC μ s) (nR μ s) x y) : g_X7_slopesGently lv (100 * (s + 1)) 5 κ νc = some 1 := by
  obtain ⟨A, hB, hF, -⟩ := R.2.2.1 s hs
  have A5 := R.2.1.2.2.2.2.1
  obtain ⟨-, ⟨hc, hc1, hc6⟩, ⟨hr, hr1, hr6⟩, -⟩ := id hB
  have h36 := cr6 hc6 hr6
  unfold g_X7_slopesGently
  refine cells A hB hF (g := fun x y b => b) (a := ()) (fun v p => Int32.ofNat p) (fun p hp x y hx hy hxy v => ?_) ?_
  · show g_X7_slopesGently_2 _ _ _ _ _ _ = _
    unfold g_X7_slopesGently_2
    have bnd : ∀ x y, 0 ≤ zM ow (nC μ s) (nR μ s) x y ∧ zM ow (nC μ s) (nR μ s) x y ≤ 400 := fun x y => ⟨zM_0, zM_b how⟩
    have e56 : g_X7_slopesGently_56 lv (100 * (s + 1)) 5 (Int32.ofNat p) (Int32.ofNat (10 * x + y)) κ νc = some (.inl (Int32.ofNat (p + 1))) := by
      unfold g_X7_slopesGently_56 g_X7_slopesGently_86
      rw [on_s]
      by_cases g : 10 * x + y < 10
      · rw [nlt10, if_pos (plt (by omega))]
      · obtain ⟨x', rfl⟩ : ∃ x', x = x' + 1 := ⟨x - 1, by omega⟩
        have l1 := zM_lip (own := ow) (c := nC μ s) (r := nR μ s) (x := x' + 1) (y := y) (x' := x') (y' := y) (by unfold dst; rw [if_pos (Nat.le_refl _), if_neg (by omega)]; omega)
        have l2 := zM_lip (own := ow) (c := nC μ s) (r := nR μ s) (x := x') (y := y) (x' := x' + 1) (y' := y) (by unfold dst; rw [if_pos (Nat.le_refl _), if_pos (by omega)]; omega)
        have b1 := bnd (x' + 1) y
        have v1 := hv (x' + 1) y hx hy
        have v2 := hv x' y (by omega) hy
        have e10 : gAt κ 5 (Int32.ofNat (10 * (x' + 1) + y) - Int32.ofNat 10) = κ (5 + 1000) (10 * x' + y) := by
          rw [gAt_m (by omega) (by omega), if_pos (by omega), show 10 * (x' + 1) + y - 10 = 10 * x' + y by omega]
        rw [nlt10, if_neg (nlt (by omega)), cg A5.1, ec_at A5.1 A5.2, zb_s, cg A5.1, ec_at A5.1 A5.2, zb_s, gAt_i (by omega), e10, if_pos (abs8 (by rw [v1, v2]; omega) (by rw [v1, v2]; omega) (by rw [v1]; omega))]
    rw [cg A.1, cg A.2.1, ec_cellCount A hB hF, zb_s, if_neg (nle (by omega)), cg A.1, cg A.2.1, ec_cellAt A hB hF (by omega), zb_s, hxy, zdv10, ten_r (by omega) (by omega), e56]
    by_cases g : y = 0
    · rw [if_pos (by rw [g]; decide)]
    · obtain ⟨y', rfl⟩ : ∃ y', y = y' + 1 := ⟨y - 1, by omega⟩
      have l1 := zM_lip (own := ow) (c := nC μ s) (r := nR μ s) (x := x) (y := y' + 1) (x' := x) (y' := y') (by unfold dst; rw [if_pos (Nat.le_refl _), if_neg (by omega)]; omega)
      have l2 := zM_lip (own := ow) (c := nC μ s) (r := nR μ s) (x := x) (y := y') (x' := x) (y' := y' + 1) (by unfold dst; rw [if_pos (Nat.le_refl _), if_pos (by omega)]; omega)
      have b1 := bnd x (y' + 1)
      have v1 := hv x (y' + 1) hx hy
      have v2 := hv x y' hx (by omega)
      have e1 : gAt κ 5 (Int32.ofNat (10 * x + (y' + 1)) - 1) = κ (5 + 1000) (10 * x + y') := by
        rw [nlt1, gAt_m (by omega) (by omega), if_pos (by omega), show 10 * x + (y' + 1) - 1 = 10 * x + y' by omega]
      rw [if_neg (show ¬ Int32.ofNat (y' + 1) ≤ 0 from nle (b := 0) (by omega)), cg A5.1, ec_at A5.1 A5.2, zb_s, cg A5.1, ec_at A5.1 A5.2, zb_s, gAt_i (by omega), e1, if_pos (abs8 (by rw [v1, v2]; omega) (by rw [v1, v2]; omega) (by rw [v1]; omega))]
  · show g_X7_slopesGently_2 _ _ _ _ _ _ = _
    unfold g_X7_slopesGently_2
    rw [cg A.1, cg A.2.1, ec_cellCount A hB hF, zb_s, if_pos (ple (by omega))]
theorem ec_soundSink {s : Nat} (R : RR lv κ νc μ ν H nS nB nK) (hs : s < nS) : ∃ κ', g_X9_sinksSoundly lv 0 (100 * (s + 1)) κ νc = some (1, κ', νc) ∧ ∀ o, o ≠ 5 + 1000 → κ' o = κ o := by
  have r0 := R.1.1
  have b3 := R.1.2.2.1
  have g1 := R.2.1.2.1
  have h1 : lv (0 + 2) = true ∧ co (0 + 2) = 0 := g1.1
  unfold g_X9_sinksSoundly
  have main := zit_I (b := fun s1 : (Int32 × zzM × zzN) => g_X9_sinksSoundly_2 lv 0 (100 * (s + 1)) s1.1 s1.2.1 s1.2.2) (s := ((0 : Int32), κ, νc))
    (fun i st => ∃ κ' : zzM, st = (Int32.ofNat i, κ', νc) ∧ ∀ o, o ≠ 5 + 1000 → κ' o = κ o)
    (fun r : Int32 × zzM × zzN => ∃ κ' : zzM, r = (1, κ', νc) ∧ ∀ o, o ≠ 5 + 1000 → κ' o = κ o) nB (by omega) ⟨κ, rfl, fun _ _ => rfl⟩ ?_ ?_
  · obtain ⟨r, e, κ', rfl, h⟩ := main
    exact ⟨κ', e, h⟩
  · rintro b hb st ⟨κ', rfl, hk⟩
    have R2 := RR_g (κ' := κ') (fun o h5 _ => hk o h5) R
    have g2 := R2.2.1.2.1
    have h2 : κ' (0 + 2) 2 = Int32.ofNat nB := g2.2.1
    have h3 : lv (0 + 2 + 1000) = true ∧ ¬ κ' (0 + 2) 3 = 0 := g2.2.2.1 (by omega)
    obtain ⟨κ2, e, hk2, hv⟩ := tell (G := 5) R2 hs hb (Or.inl rfl)
    have R3 := RR_g (fun o h5 _ => hk2 o h5) R2
    have A8 := (R.2.2.1 s hs).1.1
    obtain ⟨Ab1, hRB⟩ := R2.2.2.2.2.1 b hb
    obtain ⟨A, hB, hF, hN, -, -, hX, hO, hM, hT, hD, hA, hL, hVb, hC, hP⟩ := R.2.2.1 s hs
    obtain ⟨-, ⟨hc, hc1, hc6⟩, ⟨hr, hr1, hr6⟩, -⟩ := id hB
    have e5 := ec_slopes (νc := νc) R3 hs (fun x y hx hy => by
      unfold owI
      by_cases g : μ 3 s ≤ 1
      · rw [if_pos g]; omega
      · rw [if_neg g]
        exact (tOwn_I hB hVb R.1.2.2.2.2.1 (hRB.2 x y (by omega) (by omega)) (by omega) (by omega) g).2) hv
    have e' : g_X7_tellSinking lv (100 * (s + 1)) (600 + b) (0 + 5) κ' νc = some ((), κ2, νc) := e
    have e5' : g_X7_slopesGently lv (100 * (s + 1)) (0 + 5) κ2 νc = some 1 := e5
    refine ⟨(Int32.ofNat (b + 1), κ2, νc), ?_, κ2, rfl, fun o h => (hk2 o h).trans (hk o h)⟩
    show g_X9_sinksSoundly_2 lv 0 (100 * (s + 1)) (Int32.ofNat b) κ' νc = _
    unfold g_X9_sinksSoundly_2
    rw [cg r0, cg h1, cg h1, h2, if_neg (nle (by omega)), cg r0, cg h1, cgt h1 h3 h2 (by omega) hb, show child (0 + 2) b = 600 + b from rfl, cg Ab1.1, cg r0, cg A8, e', zg1_s, cg r0, cg A8, e5', zb_s, if_neg (by decide), on_s]
  · rintro st ⟨κ', rfl, hk⟩
    have h2 : κ' (0 + 2) 2 = Int32.ofNat nB := by
      rw [hk (0 + 2) (by omega)]
      exact g1.2.1
    refine ⟨(1, κ', νc), ?_, κ', rfl, hk⟩
    show g_X9_sinksSoundly_2 lv 0 (100 * (s + 1)) (Int32.ofNat nB) κ' νc = _
    unfold g_X9_sinksSoundly_2
    rw [cg r0, cg h1, cg h1, h2, if_pos (ple (by omega))]
theorem op_isSound (R : RR lv κ νc μ ν H nS nB nK) : ∃ κ', g_X9_isSound lv 0 κ νc = some (1, κ', νc) ∧ RR lv κ' νc μ ν H nS nB nK := by
  have r0 := R.1.1
  have h4 := R.1.2.1
  have g1 := R.2.1.1
  have h1 : lv (0 + 1) = true ∧ co (0 + 1) = 0 := g1.1
  unfold g_X9_isSound
  have main := zit_I (b := fun s1 : (Int32 × zzM × zzN) => g_X9_isSound_2 lv 0 s1.1 s1.2.1 s1.2.2) (s := ((0 : Int32), κ, νc))
    (fun i st => ∃ κ' : zzM, st = (Int32.ofNat i, κ', νc) ∧ ∀ o, o ≠ 5 + 1000 → κ' o = κ o)
    (fun r : Int32 × zzM × zzN => ∃ κ' : zzM, r = (1, κ', νc) ∧ ∀ o, o ≠ 5 + 1000 → κ' o = κ o) nS (by omega) ⟨κ, rfl, fun _ _ => rfl⟩ ?_ ?_
  · obtain ⟨r, e, κ', rfl, h⟩ := main
    exact ⟨κ', e, RR_g (fun o h5 _ => h o h5) R⟩
  · rintro s hs st ⟨κ', rfl, hk⟩
    have R2 := RR_g (κ' := κ') (fun o h5 _ => hk o h5) R
    have g2 := R2.2.1.1
    have h2 : κ' (0 + 1) 2 = Int32.ofNat nS := g2.2.1
    have h3 : lv (0 + 1 + 1000) = true ∧ ¬ κ' (0 + 1) 3 = 0 := g2.2.2.1 (by omega)
    obtain ⟨A, hB, hF, hN, ⟨sg, hG⟩, ⟨t, b, c, hV, hz⟩, hX, hO, hM, hT, hD, hA, hL, hVb, hC, hP⟩ := R2.2.2.1 s hs
    obtain ⟨κ2, e, hk2⟩ := ec_soundSink R2 hs
    refine ⟨(Int32.ofNat (s + 1), κ2, νc), ?_, κ2, rfl, fun o h => (hk2 o h).trans (hk o h)⟩
    show g_X9_isSound_2 lv 0 (Int32.ofNat s) κ' νc = _
    unfold g_X9_isSound_2
    rw [cg r0, cg h1, cg h1, h2, if_neg (nle (by omega)), cg r0, cg h1, cgt h1 h3 h2 (by omega) hs, show child (0 + 1) s = 100 * (s + 1) from rfl, cg A.1, cg A.1, cg A.2.2.2.2.1, ec_order A hB hN hV hG, zb_s, if_neg (by decide), cg A.1, ec_soundTops A hB hF (RX_RH hB hX) hA hL hD, zb_s, if_neg (by decide), cg A.1, cg A.2.2.2.2.2.2.2.2.1, ec_fits R2 hs, zb_s, if_neg (by decide), cg A.1, cg r0, ec_apart R2 hs, zb_s, if_neg (by decide), cg r0, e, zg1_s, if_neg (by decide), on_s]
  · rintro st ⟨κ', rfl, hk⟩
    have h2 : κ' (0 + 1) 2 = Int32.ofNat nS := by
      rw [hk (0 + 1) (by omega)]
      exact g1.2.1
    refine ⟨(1, κ', νc), ?_, κ', rfl, hk⟩
    show g_X9_isSound_2 lv 0 (Int32.ofNat nS) κ' νc = _
    unfold g_X9_isSound_2
    rw [cg r0, cg h1, cg h1, h2, if_pos (ple (by omega))]
end ZRI
