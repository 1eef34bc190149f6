section ZRF
/-! sums; quotes, folds, fire, quarrels -/
variable {lv : Nat → Bool} {κ κ' : zzM} {νc νc' : zzN} {μ μ' : zzM} {ν ν' : zzN} {H H' : Int} {nS nB nK : Nat}
def sm (f : Nat → Int32) (n : Nat) : Int32 := zfd (fun l b => b + f l) 0 n
theorem sm_s (f : Nat → Int32) (n : Nat) : sm f (n + 1) = sm f n + f n := rfl
theorem sm_0 (f : Nat → Int32) : sm f 0 = 0 := rfl
theorem smB (f : Nat → Int32) (a : Int32) (n : Nat) : zfd (fun l b => b + f l) a n = a + sm f n := zfd_base n
theorem sm_e {f g : Nat → Int32} : ∀ {n : Nat}, (∀ i, i < n → f i = g i) → sm f n = sm g n
  | 0, _ => rfl
  | n + 1, h => by rw [sm_s, sm_s, sm_e (n := n) (fun i hi => h i (by omega)), h n (by omega)]
theorem sm_a {f g : Nat → Int32} : ∀ n : Nat, sm (fun i => f i + g i) n = sm f n + sm g n
  | 0 => rfl
  | n + 1 => by
    rw [sm_s, sm_s, sm_s, sm_a n]
    generalize sm f n = a
    generalize sm g n = b
    grind
theorem sm_m {f : Nat → Int32} {c : Int32} : ∀ n : Nat, sm (fun i => c * f i) n = c * sm f n
  | 0 => (Int32.mul_zero (a := c)).symm
  | n + 1 => by
    rw [sm_s, sm_s, sm_m n]
    generalize sm f n = a
    grind
theorem sm_x {f : Nat → Int32} {n : Nat} : ∀ k : Nat, (∀ i, n ≤ i → i < n + k → f i = 0) → sm f (n + k) = sm f n
  | 0, _ => rfl
  | k + 1, h => by
    rw [← Nat.add_assoc, sm_s, sm_x k (fun i h1 h2 => h i h1 (by omega)), h (n + k) (by omega) (by omega), Int32.add_zero]
theorem sm_w {f : Nat → Int32} {n N : Nat} (hn : n ≤ N) (h : ∀ i, n ≤ i → i < N → f i = 0) : sm f N = sm f n := by
  have := sm_x (f := f) (n := n) (N - n) (fun i h1 h2 => h i h1 (by omega))
  rwa [Nat.add_sub_cancel' hn] at this
theorem sm_z {f : Nat → Int32} {n : Nat} (h : ∀ i, i < n → f i = 0) : sm f n = 0 := by
  rw [sm_w (Nat.zero_le n) (fun i _ hi => h i hi)]
  rfl
theorem sm2 (f : Nat → Nat → Int32) (c r : Nat) : zfd (fun x a => zfd (fun y b => b + f x y) a r) 0 c = sm (fun x => sm (f x) r) c := by
  show _ = zfd (fun x a => a + sm (f x) r) 0 c
  exact zfd_ext (fun x hx a => smB (f x) a r)
theorem sm2_w {f : Nat → Nat → Int32} {c r C Q : Nat} (hc : c ≤ C) (hr : r ≤ Q) (h : ∀ x y, x < C → y < Q → ¬ (x < c ∧ y < r) → f x y = 0) : sm (fun x => sm (f x) Q) C = sm (fun x => sm (f x) r) c := by
  rw [sm_w hc (fun x h1 h2 => sm_z (fun y hy => h x y h2 hy (by omega)))]
  exact sm_e (fun x hx => sm_w hr (fun y h1 h2 => h x y (by omega) h2 (by omega)))
/-- buttons -/
theorem ec_buttons {S s : Nat} (A : As lv S) (hB : Bd μ s) (hF : RF κ μ S s) (hD : RD κ μ S s) (hO : RO μ s) : g_X7_buttonCount lv S κ νc = some (tDr μ s) := by
  have A' := A
  have hB' := hB
  obtain ⟨a8, a4, ah, af, a9, a3, a0, ad, a2, bh, bf, bc, br, b9, bd, b2, hS⟩ := A
  obtain ⟨hs, ⟨hc, hc1, hc6⟩, ⟨hr, hr1, hr6⟩, -⟩ := hB
  have h36 := cr6 hc6 hr6
  have e : tDr μ s = sm (fun x => sm (fun y => if μ (111 + 7 * s + x) y ≤ 0 then 0 else 1) (nR μ s)) (nC μ s) := by
    unfold tDr
    rw [sm2]
    exact sm2_w hc6 hr6 (fun x y hx hy h => by rw [hO.2.1 x y hx hy h]; rfl)
  rw [e, ← sm2]
  unfold g_X7_buttonCount
  refine cells A' hB' hF (g := fun x y b => b + if μ (111 + 7 * s + x) y ≤ 0 then 0 else 1) (a := (0 : Int32)) (fun v p => (v, Int32.ofNat p)) (fun p hp x y hx hy hxy v => ?_) ?_
  · show g_X7_buttonCount_4 _ _ _ _ _ _ = _
    unfold g_X7_buttonCount_4 g_X7_buttonCount_36
    rw [cg a8, cg a4, ec_cellCount A' hB' hF, zb_s, if_neg (nle (by omega)), cg a8, cg a8, cg a4, ec_cellAt A' hB' hF (by omega), zb_s, cg ad, hxy, ec_at ad bd, zb_s, gAt_i (by omega), RD_at hD (by omega) (by omega), on_s]
    by_cases h : μ (111 + 7 * s + x) y ≤ 0
    · rw [if_pos h, if_pos h, Int32.add_zero]
    · rw [if_neg h, if_neg h]
  · show g_X7_buttonCount_4 _ _ _ _ _ _ = _
    unfold g_X7_buttonCount_4
    rw [cg a8, cg a4, ec_cellCount A' hB' hF, zb_s, if_pos (ple (by omega))]
/-- folds -/
def fo1 (one two x3 : Int32) : Int32 := if one ≤ 0 then 0 else if two ≤ 0 then 0 else if x3 = 0 then 1 else if 3 < zz_abs (one - two) then 0 else 1
theorem ec_fold {S : Nat} {x1 x2 x3 : Int32} (A : As lv S) : g_X7_foldBetween lv S x1 x2 x3 κ νc = some (fo1 (gAt κ (S + 7) x1) (gAt κ (S + 7) x2) x3) := by
  obtain ⟨a8, a4, ah, af, a9, a3, a0, ad, a2, bh, bf, bc, br, b9, bd, b2, hS⟩ := A
  unfold g_X7_foldBetween g_X7_foldBetween_34 g_X7_foldBetween_35 g_X7_foldBetween_62 g_X7_foldBetween_58 g_X7_foldBetween_63 fo1
  rw [cg a8, cg ad, ec_at ad bd, zb_s, cg a8, cg ad, ec_at ad bd, zb_s]
  generalize gAt κ (S + 7) x1 = u
  generalize gAt κ (S + 7) x2 = w
  by_cases h1 : u ≤ 0
  · rw [if_pos h1, if_pos h1, if_pos rfl]
  · rw [if_neg h1, if_neg h1]
    by_cases h2 : w ≤ 0
    · rw [if_pos h2, if_pos h2, if_pos rfl]
    · rw [if_neg h2, if_neg h2, if_neg (by decide)]
      by_cases h3 : x3 = 0
      · rw [if_pos h3, if_pos h3]
      · rw [if_neg h3, if_neg h3]
        by_cases h4 : 3 < zz_abs (u - w)
        · rw [if_pos h4, if_pos h4]
        · rw [if_neg h4, if_neg h4]
theorem tFo_e (s x y : Nat) (up : Bool) (x3 : Int32) : tFo μ s x y up x3 = fo1 (μ (111 + 7 * s + x) y) (if up then (if y < 5 then μ (111 + 7 * s + (x + 1)) (y + 1) else 0) else (if 0 < y then μ (111 + 7 * s + (x + 1)) (y - 1) else 0)) x3 := rfl
theorem fo1_z {two x3 : Int32} : fo1 0 two x3 = 0 := if_pos (by decide)
theorem fo1_z2 {one x3 : Int32} : fo1 one 0 x3 = 0 := by
  unfold fo1
  by_cases h : one ≤ 0
  · rw [if_pos h]
  · rw [if_neg h, if_pos (by decide)]
theorem ec_folds {S s : Nat} {x3 : Int32} (A : As lv S) (hB : Bd μ s) (hF : RF κ μ S s) (hD : RD κ μ S s) (hO : RO μ s) : g_X7_foldCount lv S x3 κ νc = some (zfd (fun x a => zfd (fun y b => b + tFo μ s x y true x3) a 6) 0 5 + zfd (fun x a => zfd (fun y b => b + tFo μ s x y false x3) a 6) 0 5) := by
  have A' := A
  have hB' := hB
  obtain ⟨a8, a4, ah, af, a9, a3, a0, ad, a2, bh, bf, bc, br, b9, bd, b2, hS⟩ := A
  obtain ⟨hs, ⟨hc, hc1, hc6⟩, ⟨hr, hr1, hr6⟩, -⟩ := hB
  have h36 := cr6 hc6 hr6
  have key : ∀ up, zfd (fun x a => zfd (fun y b => b + tFo μ s x y up x3) a 6) 0 5 = sm (fun x => sm (fun y => if x < 5 then tFo μ s x y up x3 else 0) (nR μ s)) (nC μ s) := by
    intro up
    rw [sm2]
    have e1 : sm (fun x => sm (tFo μ s x · up x3) 6) 5 = sm (fun x => sm (fun y => if x < 5 then tFo μ s x y up x3 else 0) 6) 5 := sm_e (fun x hx => sm_e (fun y hy => (if_pos hx).symm))
    have e2 : sm (fun x => sm (fun y => if x < 5 then tFo μ s x y up x3 else 0) 6) 6 = sm (fun x => sm (fun y => if x < 5 then tFo μ s x y up x3 else 0) 6) 5 := sm_w (by decide) (fun x h1 h2 => sm_z (fun y hy => if_neg (by omega)))
    show sm (fun x => sm (tFo μ s x · up x3) 6) 5 = _
    rw [e1, ← e2]
    refine sm2_w hc6 hr6 (fun x y hx hy h => ?_)
    by_cases g : x < 5
    · rw [if_pos g, tFo_e, hO.2.1 x y hx hy h, fo1_z]
    · rw [if_neg g]
  rw [key true, key false, ← sm_a]
  have e3 : sm (fun x => sm (fun y => if x < 5 then tFo μ s x y true x3 else 0) (nR μ s) + sm (fun y => if x < 5 then tFo μ s x y false x3 else 0) (nR μ s)) (nC μ s) = sm (fun x => sm (fun y => (if x < 5 then tFo μ s x y true x3 else 0) + (if x < 5 then tFo μ s x y false x3 else 0)) (nR μ s)) (nC μ s) := sm_e (fun x hx => (sm_a _).symm)
  rw [e3, ← sm2]
  have e4 : ∀ x y, x < nC μ s → y < nR μ s → gAt κ (S + 7) ((Int32.ofNat (10 * x + y) + 10) - 1) = if x < 5 then (if 0 < y then μ (111 + 7 * s + (x + 1)) (y - 1) else 0) else 0 := by
    intro x y hx hy
    rw [nlt10, on_a, on_p _ (by omega), gAt_o (by omega)]
    by_cases g : x < 5
    · rw [if_pos g, if_pos (by omega)]
      by_cases g2 : 0 < y
      · rw [if_pos g2, show 10 * x + y + 10 - 1 = 10 * (x + 1) + (y - 1) by omega, RD_at hD (by omega) (by omega)]
      · rw [if_neg g2, hD _ (by omega), if_neg (by omega)]
    · rw [if_neg g]
      by_cases g2 : 10 * x + y + 10 - 1 < 56
      · omega
      · rw [if_neg g2]
  have e5 : ∀ x y, x < nC μ s → y < nR μ s → gAt κ (S + 7) ((Int32.ofNat (10 * x + y) + 10) + 1) = if x < 5 then (if y < 5 then μ (111 + 7 * s + (x + 1)) (y + 1) else 0) else 0 := by
    intro x y hx hy
    rw [nlt10, on_a, on_s, gAt_o (by omega)]
    by_cases g : x < 5
    · rw [if_pos g]
      by_cases g2 : y < 5
      · rw [if_pos (by omega), if_pos g2, show 10 * x + y + 10 + 1 = 10 * (x + 1) + (y + 1) by omega, RD_at hD (by omega) (by omega)]
      · rw [if_neg g2]
        by_cases g3 : 10 * x + y + 10 + 1 < 56
        · rw [if_pos g3, hD _ g3, if_neg (by omega)]
        · rw [if_neg g3]
    · rw [if_neg g, if_neg (by omega)]
  have e6 : ∀ x y v, (v + fo1 (μ (111 + 7 * s + x) y) (if x < 5 then (if 0 < y then μ (111 + 7 * s + (x + 1)) (y - 1) else 0) else 0) x3) + fo1 (μ (111 + 7 * s + x) y) (if x < 5 then (if y < 5 then μ (111 + 7 * s + (x + 1)) (y + 1) else 0) else 0) x3 = v + ((if x < 5 then tFo μ s x y true x3 else 0) + (if x < 5 then tFo μ s x y false x3 else 0)) := by
    intro x y v
    by_cases g : x < 5
    · rw [if_pos g, if_pos g, if_pos g, if_pos g, tFo_e, tFo_e, if_pos rfl, if_neg (show ¬ false = true by decide), Int32.add_assoc, Int32.add_comm (fo1 _ _ _)]
    · rw [if_neg g, if_neg g, if_neg g, if_neg g, fo1_z2, Int32.add_assoc]
  unfold g_X7_foldCount
  refine cells A' hB' hF (g := fun x y b => b + ((if x < 5 then tFo μ s x y true x3 else 0) + (if x < 5 then tFo μ s x y false x3 else 0))) (a := (0 : Int32)) (fun v p => (v, Int32.ofNat p)) (fun p hp x y hx hy hxy v => ?_) ?_
  · show g_X7_foldCount_4 _ _ _ _ _ _ _ = _
    unfold g_X7_foldCount_4
    dsimp only
    rw [cg a8, cg a4, ec_cellCount A' hB' hF, zb_s, if_neg (nle (by omega)), cg a8, cg a4, ec_cellAt A' hB' hF (by omega), zb_s, cg a8, ec_fold A', zb_s, cg a8, ec_fold A', zb_s, hxy, gAt_i (by omega), RD_at hD (by omega) (by omega), e4 x y hx hy, e5 x y hx hy, e6, on_s]
  · show g_X7_foldCount_4 _ _ _ _ _ _ _ = _
    unfold g_X7_foldCount_4
    rw [cg a8, cg a4, ec_cellCount A' hB' hF, zb_s, if_pos (ple (by omega))]
theorem op_folds (R : RR lv κ νc μ ν H nS nB nK) (x1 x2 : Int32) : Op1 lv H nS nB nK cd_folds (up κ νc (g_X9_folds lv 0 x1 x2 κ νc)) (g_X10_folds x1 x2 μ ν) := by
  have r0 := R.1.1
  have h30 := R.1.2.2.2.2.2.1
  have h4 := R.1.2.1
  unfold g_X9_folds g_X10_folds g_X10_folds_32
  rcases ix_cases x1 nS (by omega) with h | ⟨s, hs, rfl⟩
  · exact Op0_e R (by rw [cg r0, ec_seatOf1 R h, zth_r]) (by rw [em_noSeat1 h30 (by omega) h, zb_s, em_th1, zg1_s, if_neg (by decide)]) rfl (by decide)
  rw [cg r0, ec_seatOf0 R hs, zth_l, em_noSeat0 h30 (by omega) hs, zb_s, em_th0, zg1_s, if_pos rfl]
  have R1 := RR_t 0 R
  have z1 : zset μ 0 33 0 0 33 = 0 := zset_h
  generalize zset μ 0 33 0 = m1 at R1 z1 ⊢
  obtain ⟨A, hB, hF, hN, ⟨sg, hG⟩, ⟨t, b, c, hV, hz⟩, hX, hO, hM, hT, hD, hA, hL, hVb, hC, hP⟩ := R1.2.2.1 s hs
  have hs4 : s < 4 := by omega
  have e1 := em_foldsBy (μ := m1) (ν := ν) hs4 true x2
  have e2 := em_foldsBy (μ := m1) (ν := ν) hs4 false x2
  rw [if_pos rfl] at e1
  rw [if_neg (by decide)] at e2
  exact Op0_v R1 z1 (by rw [cg A.1, ec_folds A hB hF hD hO, zb_s]) (by rw [e1, zb_s, e2, zb_s])
/-- what a seat costs -/
def tPr (μ : zzM) (s l : Nat) : Int32 := μ (90 + s) l * (if μ (85 + s) l = 104 then 3 else if μ (85 + s) l = 102 then 2 else 1)
def tQu (μ : zzM) (s : Nat) (s0 : Int32) : Int32 := s0 + (if μ 3 s ≤ 1 then 0 else sm (fun k => if 99 ≤ μ (74 + s) k then 0 else 2) (nC μ s) + sm (fun k => if 99 ≤ μ (79 + s) k then 0 else 2) (nR μ s)) + sm (tPr μ s) (nL μ s) + 4 * tDr μ s + (if tLast μ s = 99 then μ 1 s * μ 143 s else 0)
theorem em_quote137 {s : Nat} (hB : Bd μ s) (hch : CH (tLast μ s)) (hk : ∀ l, l < nL μ s → μ (85 + s) l = 104 ∨ μ (85 + s) l = 102 ∨ μ (85 + s) l = 100) (s0 : Int32) : g_X10_quote_137 (Int32.ofNat s) s0 μ ν = some (s0 + sm (tPr μ s) (nL μ s) + 4 * tDr μ s + (if tLast μ s = 99 then μ 1 s * μ 143 s else 0), μ, ν) := by
  have hB' := hB
  obtain ⟨hs, -, -, -, hl, hl4⟩ := hB
  unfold g_X10_quote_137
  refine zfor2 (nL μ s) (fun l a => a + tPr μ s l) s0 (fun l hl2 v => ?_) ?_
  · show g_X10_quote_139 _ _ _ _ _ = _
    unfold g_X10_quote_139 g_X10_quote_193 tPr
    dsimp only
    rw [gi83 hs, hl, if_neg (nle (by omega)), gq89 hs, gi89 hs (by omega), gq84 hs, gi84 hs (by omega), gq84 hs, gi84 hs (by omega)]
    rcases hk l hl2 with h | h | h
    · rw [h, if_neg (by decide), if_neg (by decide), if_pos rfl]
    · rw [h, if_neg (by decide), if_pos rfl, if_neg (by decide), if_pos rfl]
    · rw [h, if_pos rfl, if_neg (by decide), if_neg (by decide)]
  · show g_X10_quote_139 _ _ _ _ _ = _
    unfold g_X10_quote_139 g_X10_quote_240
    dsimp only
    rw [gi83 hs, hl, if_pos (ple (by omega)), em_drawn hs, zb_s, em_last hB' hch, zb_s, smB]
    by_cases h : tLast μ s = 99
    · rw [if_pos h, if_pos h, gi1 hs, gi143 hs]
      rfl
    · rw [if_neg h, if_neg h]
      rfl
theorem em_quote90 {s : Nat} (hB : Bd μ s) (hch : CH (tLast μ s)) (hk : ∀ l, l < nL μ s → μ (85 + s) l = 104 ∨ μ (85 + s) l = 102 ∨ μ (85 + s) l = 100) (s0 : Int32) : g_X10_quote_90 (Int32.ofNat s) s0 μ ν = some (s0 + (if μ 3 s ≤ 1 then 0 else sm (fun k => if 99 ≤ μ (79 + s) k then 0 else 2) (nR μ s)) + sm (tPr μ s) (nL μ s) + 4 * tDr μ s + (if tLast μ s = 99 then μ 1 s * μ 143 s else 0), μ, ν) := by
  have hB' := hB
  obtain ⟨hs, -, ⟨hr, hr1, hr6⟩, -, hl, hl4⟩ := hB
  unfold g_X10_quote_90
  by_cases g : μ 3 s ≤ 1
  · refine zfor2 0 (fun _ a => a) s0 (fun l hl2 v => absurd hl2 (by omega)) ?_
    show g_X10_quote_92 _ _ _ _ _ = _
    unfold g_X10_quote_92
    dsimp only
    rw [gi2 hs, hr, if_neg (nle (by omega)), em_hasSprings hs, zb_s, if_pos (if_pos g), em_quote137 hB' hch hk, if_pos g, Int32.add_zero]
    rfl
  · refine zfor2 (nR μ s) (fun k a => a + if 99 ≤ μ (79 + s) k then 0 else 2) s0 (fun k hk2 v => ?_) ?_
    · show g_X10_quote_92 _ _ _ _ _ = _
      unfold g_X10_quote_92 g_X10_quote_129
      dsimp only
      rw [gi2 hs, hr, if_neg (nle (by omega)), em_hasSprings hs, zb_s, if_neg g, if_neg (by decide), gq78 hs, gi78 hs (by omega)]
      by_cases h : 99 ≤ μ (79 + s) k
      · rw [if_pos h, if_pos h]
      · rw [if_neg h, if_neg h]
    · show g_X10_quote_92 _ _ _ _ _ = _
      unfold g_X10_quote_92
      dsimp only
      rw [gi2 hs, hr, if_pos (ple (by omega)), em_quote137 hB' hch hk, if_neg g, smB]
      rfl
theorem em_quote42 {s : Nat} (hB : Bd μ s) (hch : CH (tLast μ s)) (hk : ∀ l, l < nL μ s → μ (85 + s) l = 104 ∨ μ (85 + s) l = 102 ∨ μ (85 + s) l = 100) (s0 : Int32) : g_X10_quote_42 (Int32.ofNat s) s0 μ ν = some (tQu μ s s0, μ, ν) := by
  have hB' := hB
  obtain ⟨hs, ⟨hr, hr1, hr6⟩, -, -, hl, hl4⟩ := hB
  unfold g_X10_quote_42 tQu
  by_cases g : μ 3 s ≤ 1
  · refine zfor2 0 (fun _ a => a) s0 (fun l hl2 v => absurd hl2 (by omega)) ?_
    show g_X10_quote_45 _ _ _ _ _ = _
    unfold g_X10_quote_45
    dsimp only
    rw [gi1 hs, hr, if_neg (nle (by omega)), em_hasSprings hs, zb_s, if_pos (if_pos g), em_quote90 hB' hch hk, if_pos g, if_pos g, Int32.add_zero, Int32.add_zero, ← hr]
    rfl
  · refine zfor2 (nC μ s) (fun k a => a + if 99 ≤ μ (74 + s) k then 0 else 2) s0 (fun k hk2 v => ?_) ?_
    · show g_X10_quote_45 _ _ _ _ _ = _
      unfold g_X10_quote_45 g_X10_quote_82
      dsimp only
      rw [gi1 hs, hr, if_neg (nle (by omega)), em_hasSprings hs, zb_s, if_neg g, if_neg (by decide), gq73 hs, gi73 hs (by omega)]
      by_cases h : 99 ≤ μ (74 + s) k
      · rw [if_pos h, if_pos h]
      · rw [if_neg h, if_neg h]
    · show g_X10_quote_45 _ _ _ _ _ = _
      unfold g_X10_quote_45
      dsimp only
      rw [gi1 hs, hr, if_pos (ple (by omega)), em_quote90 hB' hch hk, if_neg g, if_neg g, smB, Int32.add_assoc s0, ← hr]
      rfl
theorem ec_pulled {o : Nat} (hb : lv o = true ∧ cIs o = some (0, 6)) : g_X3_pulledIn lv o κ νc = some (sm (fun k => if 99 ≤ κ o k then 0 else 1) 6) := by
  unfold g_X3_pulledIn
  refine zfor2 6 (fun k a => a + if 99 ≤ κ o k then 0 else 1) 0 (fun k hk v => ?_) ?_
  · show g_X3_pulledIn_4 _ _ _ _ _ _ = _
    unfold g_X3_pulledIn_4 g_X3_pulledIn_21
    dsimp only
    rw [cl hb, if_neg (nle (by omega)), ca hb hk]
    by_cases h : 99 ≤ κ o k
    · rw [if_pos h, if_pos h, Int32.add_zero]
    · rw [if_neg h, if_neg h]
  · show g_X3_pulledIn_4 _ _ _ _ _ _ = _
    unfold g_X3_pulledIn_4
    dsimp only
    rw [cl hb, if_pos (ple (by omega))]
    rfl
theorem ec_price {S s : Nat} (A : As lv S) (hB : Bd μ s) (hA : Al lv κ μ S s) (hL : RLa κ νc μ ν S s) : g_X2_price lv (S + 5) κ νc = some (sm (tPr μ s) (nL μ s)) := by
  have A' := A
  have hB' := hB
  obtain ⟨a8, a4, ah, af, a9, a3, a0, ad, a2, bh, bf, bc, br, b9, bd, b2, hS⟩ := A
  obtain ⟨hs, -, -, -, hl2, hl4⟩ := hB
  have h2 : κ (S + 5 + 1) 2 = Int32.ofNat (nL μ s) := hA.2.2.1.trans hl2
  unfold g_X2_price
  refine zfor2 (nL μ s) (fun l a => a + tPr μ s l) 0 (fun l hl v => ?_) ?_
  · show g_X2_price_4 _ _ _ _ _ _ = _
    unfold g_X2_price_4
    dsimp only
    have a7 := hA.1 l hl
    have e : g_X6_price lv (S + 20 + l) κ νc = some (tPr μ s l) := by
      unfold g_X6_price g_X6_price_31 tPr
      rw [cg a7, cg a7, (hL l hl).1, (hL l hl).2.1, cg a7]
      by_cases h1 : μ (85 + s) l = 104
      · rw [if_pos h1, if_pos h1]
      · rw [if_neg h1, if_neg h1]
        by_cases h2 : μ (85 + s) l = 102
        · rw [if_pos h2, if_pos h2]
        · rw [if_neg h2, if_neg h2]
    rw [cg a3, cg a0, cg a0, h2, if_neg (nle (by omega)), cg a3, cg a0, cg_ly A' hB' hA hl, cg a7, cg a7, e, zb_s]
  · show g_X2_price_4 _ _ _ _ _ _ = _
    unfold g_X2_price_4
    dsimp only
    rw [cg a3, cg a0, cg a0, h2, if_pos (ple (by omega))]
    rfl
theorem op_quote (R : RR lv κ νc μ ν H nS nB nK) (x1 : Int32) : Op1 lv H nS nB nK cd_quote (up κ νc (g_X9_quote lv 0 x1 κ νc)) (g_X10_quote x1 μ ν) := by
  have r0 := R.1.1
  have h30 := R.1.2.2.2.2.2.1
  have h4 := R.1.2.1
  unfold g_X9_quote g_X10_quote
  rcases ix_cases x1 nS (by omega) with h | ⟨s, hs, rfl⟩
  · exact Op0_e R (by rw [cg r0, ec_seatOf1 R h, zth_r]) (by rw [em_noSeat1 h30 (by omega) h, zb_s, em_th1, zg1_s, if_neg (by decide)]) rfl (by decide)
  rw [cg r0, ec_seatOf0 R hs, zth_l, em_noSeat0 h30 (by omega) hs, zb_s, em_th0, zg1_s, if_pos rfl]
  have R1 := RR_t 0 R
  have z1 : zset μ 0 33 0 0 33 = 0 := zset_h
  generalize zset μ 0 33 0 = m1 at R1 z1 ⊢
  obtain ⟨A, hB, hF, hN, ⟨sg, hG⟩, ⟨t, b, c, hV, hz⟩, hX, hO, hM, hT, hD, hA, hL, hVb, hC, hP⟩ := R1.2.2.1 s hs
  have hs4 : s < 4 := by omega
  have A' := A
  obtain ⟨a8, a4, ah, af, a9, a3, a0, ad, a2, bh, bf, bc, br, b9, bd, b2, hS⟩ := A
  have hk : ∀ l, l < nL m1 s → m1 (85 + s) l = 104 ∨ m1 (85 + s) l = 102 ∨ m1 (85 + s) l = 100 := fun l hl => (hVb.2.2.2.2 l hl).1
  have hc6 := hB.2.1.2.2
  have hr6 := hB.2.2.1.2.2
  have e18 : ∀ s0, g_X7_price_18 lv (100 * (s + 1)) s0 κ νc = some (((((5 * s0) + (2 * (sm (fun k => if 99 ≤ κ (100 * (s + 1) + 1 + 1000) k then 0 else 1) 6 + sm (fun k => if 99 ≤ κ (100 * (s + 1) + 1 + 2000) k then 0 else 1) 6))) + sm (tPr m1 s) (nL m1 s)) + (4 * tDr m1 s)) + (if tLast m1 s = 99 then m1 1 s else 0) * m1 143 s) := by
    intro s0
    unfold g_X7_price_18 g_X3_pulledTies g_X1_lengthInAll
    rw [cg a8, cg a4, cg a4, ec_pulled bc, zb_s, cg a4, ec_pulled br, zb_s, zb_s, cg a8, cg a3, ec_price A' hB hA hL, zb_s, cg a8, ec_buttons A' hB hF hD hO, zb_s, cg a8, cg a2, cg a2, cg a2, zb_s, hC.2.2.2.2.1, hC.2.1]
  have ec6 : 2 * sm (fun k => if 99 ≤ κ (100 * (s + 1) + 1 + 1000) k then 0 else 1) 6 = if m1 3 s ≤ 1 then 0 else sm (fun k => if 99 ≤ m1 (74 + s) k then 0 else 2) (nC m1 s) := by
    by_cases g : m1 3 s ≤ 1
    · rw [if_pos g, sm_z (fun k hk => by rw [(hX.2 k hk).1, if_pos g]; rfl)]
      rfl
    · rw [if_neg g, ← sm_m]
      have e : sm (fun k => 2 * if 99 ≤ κ (100 * (s + 1) + 1 + 1000) k then (0 : Int32) else 1) 6 = sm (fun k => if 99 ≤ m1 (74 + s) k then 0 else 2) 6 := sm_e (fun k hk => by
        rw [(hX.2 k hk).1, if_neg g]
        by_cases w : 99 ≤ m1 (74 + s) k
        · rw [if_pos w, if_pos w]; rfl
        · rw [if_neg w, if_neg w]; rfl)
      rw [e]
      exact sm_w hc6 (fun k h1 h2 => by rw [(hO.1 g k h2).1 h1]; rfl)
  have er6 : 2 * sm (fun k => if 99 ≤ κ (100 * (s + 1) + 1 + 2000) k then 0 else 1) 6 = if m1 3 s ≤ 1 then 0 else sm (fun k => if 99 ≤ m1 (79 + s) k then 0 else 2) (nR m1 s) := by
    by_cases g : m1 3 s ≤ 1
    · rw [if_pos g, sm_z (fun k hk => by rw [(hX.2 k hk).2, if_pos g]; rfl)]
      rfl
    · rw [if_neg g, ← sm_m]
      have e : sm (fun k => 2 * if 99 ≤ κ (100 * (s + 1) + 1 + 2000) k then (0 : Int32) else 1) 6 = sm (fun k => if 99 ≤ m1 (79 + s) k then 0 else 2) 6 := sm_e (fun k hk => by
        rw [(hX.2 k hk).2, if_neg g]
        by_cases w : 99 ≤ m1 (79 + s) k
        · rw [if_pos w, if_pos w]; rfl
        · rw [if_neg w, if_neg w]; rfl)
      rw [e]
      exact sm_w hr6 (fun k h1 h2 => by rw [(hO.1 g k h2).2 h1]; rfl)
  have fin : ∀ s0 s1 : Int32, 5 * s0 = s1 → ((((5 * s0) + (2 * (sm (fun k => if 99 ≤ κ (100 * (s + 1) + 1 + 1000) k then 0 else 1) 6 + sm (fun k => if 99 ≤ κ (100 * (s + 1) + 1 + 2000) k then 0 else 1) 6))) + sm (tPr m1 s) (nL m1 s)) + (4 * tDr m1 s)) + (if tLast m1 s = 99 then m1 1 s else 0) * m1 143 s = tQu m1 s s1 := by
    intro s0 s1 h01
    unfold tQu
    rw [Int32.mul_add, ec6, er6, h01]
    have w : (if tLast m1 s = 99 then m1 1 s else 0) * m1 143 s = if tLast m1 s = 99 then m1 1 s * m1 143 s else 0 := by
      by_cases g : tLast m1 s = 99
      · rw [if_pos g, if_pos g]
      · rw [if_neg g, if_neg g, Int32.zero_mul]
    rw [w]
    by_cases g : m1 3 s ≤ 1
    · rw [if_pos g, if_pos g, if_pos g]
      rfl
    · rw [if_neg g, if_neg g, if_neg g]
  refine Op0_v (v := tQu m1 s (if m1 3 s ≤ 1 then 0 else 5 * m1 1 s * m1 2 s)) R1 z1 ?_ ?_
  · unfold g_X7_price
    rw [cg a8, cg a8, ec_hasSprings A' hN, zb_s]
    by_cases g : m1 3 s ≤ 1
    · rw [if_pos g, if_pos rfl, e18, zb_s, fin 0 0 (by decide), if_pos g]
    · rw [if_neg g, if_neg (by decide), cg a8, cg a4, ec_cellCount A' hB hF, zb_s, e18, zb_s, fin _ _ rfl, if_neg g, ← on_m, ← hB.2.1.1, ← hB.2.2.1.1, Int32.mul_assoc]
  · rw [em_hasSprings hs4, zb_s]
    by_cases g : m1 3 s ≤ 1
    · rw [if_pos g, if_pos rfl, em_quote42 hB (Lv_ch hV) hk, if_pos g]
    · rw [if_neg g, if_neg (by decide), gi1 hs4, gi2 hs4, em_quote42 hB (Lv_ch hV) hk, if_neg g]
end ZRF
