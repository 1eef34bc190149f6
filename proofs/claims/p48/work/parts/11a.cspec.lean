section ZCS
/-! the class's own reckonings, at live ids -/
variable {α : Type} {lv : Nat → Bool} {κ : zzM} {νc : zzN} {μ : zzM} {ν : zzN}
theorem cg {ci o : Nat} {x : Option α} (h : lv o = true ∧ co o = ci) : cgd lv ci o x = x := if_pos h
theorem cl {o t n : Nat} {K : Int32 → Option α} (h : lv o = true ∧ cIs o = some (t, n)) (ht : t < 12 := by decide) : clen lv o K = K (Int32.ofNat n) := by
  unfold clen
  rw [h.2]
  exact if_pos ⟨h.1, ht⟩
theorem ca {o t n i : Nat} {K : Int32 → Option α} (h : lv o = true ∧ cIs o = some (t, n)) (hi : i < n) (hn : n < 100 := by decide) : cai lv t κ o (Int32.ofNat i) K = K (κ o i) := by
  unfold cai
  rw [h.2]
  simp only [on_n i (by omega)]
  rw [if_pos ⟨h.1, trivial, by
    rintro (q | q)
    · exact on_nn i (by omega) q
    · omega⟩]
theorem cs {o t n i : Nat} {x : Int32} {K : zzM → Option α} (h : lv o = true ∧ cIs o = some (t, n)) (hi : i < n) (hn : n < 100 := by decide) : csi lv t κ o (Int32.ofNat i) x K = K (zset κ o i x) := by
  unfold csi
  rw [h.2]
  simp only [on_n i (by omega)]
  rw [if_pos ⟨h.1, trivial, by
    rintro (q | q)
    · exact on_nn i (by omega) q
    · omega⟩]
def kFil (κ : zzM) (o n : Nat) (x : Int32) : zzM := fun o' i' => if o' = o ∧ i' < n then x else κ o' i'
theorem kFil_o {o n : Nat} {x : Int32} {o' : Nat} (h : o' ≠ o) : kFil κ o n x o' = κ o' := by
  funext i'
  unfold kFil
  rw [if_neg (fun q => h q.1)]
theorem kFil_h {o n i : Nat} {x : Int32} (h : i < n) : kFil κ o n x o i = x := if_pos ⟨rfl, h⟩
theorem cf {o n : Nat} {x : Int32} {K : zzM → Option α} (h : lv o = true ∧ cIs o = some (0, n)) : cfil lv κ o x K = K (kFil κ o n x) := by
  unfold cfil
  rw [h.2]
  exact if_pos ⟨h.1, rfl⟩
theorem cgt {o i n : Nat} {K : Nat → Option α} (h0 : lv o = true ∧ co o = 0) (h1 : lv (o + 1000) = true ∧ ¬ κ o 3 = 0) (h2 : κ o 2 = Int32.ofNat n) (hn : n ≤ 10) (hi : i < n) : cget lv κ o (Int32.ofNat i) K = K (child o i) := by
  unfold cget
  rw [h2, on_n n (by omega), on_n i (by omega)]
  rw [if_pos ⟨h0.1, h0.2, h1.1, h1.2, on_nn i (by omega), plt (by omega), hn⟩]
/-- a grid's number -/
def gAt (κ : zzM) (o : Nat) (x : Int32) : Int32 := if x < 0 then 0 else if Int32.ofNat 56 ≤ x then 0 else κ (o + 1000) x.toNatClampNeg
theorem gAt_i {o i : Nat} (hi : i < 56) : gAt κ o (Int32.ofNat i) = κ (o + 1000) i := by
  unfold gAt
  rw [if_neg (on_nn i (by omega)), if_neg (nle (by omega)), on_n i (by omega)]
theorem ec_at {o : Nat} {x : Int32} (h5 : lv o = true ∧ co o = 5) (hb : lv (o + 1000) = true ∧ cIs (o + 1000) = some (0, 56)) : g_X4_at lv o x κ νc = some (gAt κ o x) := by
  unfold g_X4_at g_X4_at_22 g_X4_at_23 gAt
  by_cases h : x < 0
  · rw [if_pos h, if_pos h]
  · rw [if_neg h, if_neg h, cg h5, cl hb]
    by_cases h2 : Int32.ofNat 56 ≤ x
    · rw [if_pos h2, if_pos h2]
    · rw [if_neg h2, if_neg h2, cg h5]
      have h3 := Int32.ofNat_toNatClampNeg x (Int32.not_lt.mp h)
      rw [← h3] at h2 ⊢
      have h4 : x.toNatClampNeg < 2 ^ 31 := by
        have := Int32.toInt_lt x
        show x.toInt.toNat < 2 ^ 31
        omega
      rw [on_le _ _ (by decide) h4] at h2
      rw [on_n _ h4, ca hb (by omega)]
theorem ec_put {o i : Nat} {v : Int32} (h5 : lv o = true ∧ co o = 5) (hb : lv (o + 1000) = true ∧ cIs (o + 1000) = some (0, 56)) (hi : i < 56) : g_X4_put lv o (Int32.ofNat i) v κ νc = some ((), zset κ (o + 1000) i v, νc) := by
  unfold g_X4_put g_X4_put_20
  rw [if_neg (on_nn i (by omega)), cg h5, cl hb, if_neg (nle (by omega)), cg h5, cs hb hi]
theorem ec_clear {o : Nat} (h5 : lv o = true ∧ co o = 5) (hb : lv (o + 1000) = true ∧ cIs (o + 1000) = some (0, 56)) : g_X4_clear lv o κ νc = some ((), kFil κ (o + 1000) 56 0, νc) := by
  unfold g_X4_clear
  rw [cg h5, cf hb]
def As (lv : Nat → Bool) (S : Nat) : Prop := (lv S = true ∧ co S = 8) ∧ (lv (S + 1) = true ∧ co (S + 1) = 4) ∧ (lv (S + 1 + 1) = true ∧ co (S + 1 + 1) = 5) ∧ (lv (S + 1 + 2) = true ∧ co (S + 1 + 2) = 5) ∧ (lv (S + 4) = true ∧ co (S + 4) = 9) ∧ (lv (S + 5) = true ∧ co (S + 5) = 3) ∧ (lv (S + 5 + 1) = true ∧ co (S + 5 + 1) = 0) ∧ (lv (S + 7) = true ∧ co (S + 7) = 5) ∧ (lv (S + 8) = true ∧ co (S + 8) = 2) ∧ (lv (S + 1 + 1 + 1000) = true ∧ cIs (S + 1 + 1 + 1000) = some (0, 56)) ∧ (lv (S + 1 + 2 + 1000) = true ∧ cIs (S + 1 + 2 + 1000) = some (0, 56)) ∧ (lv (S + 1 + 1000) = true ∧ cIs (S + 1 + 1000) = some (0, 6)) ∧ (lv (S + 1 + 2000) = true ∧ cIs (S + 1 + 2000) = some (0, 6)) ∧ (lv (S + 4 + 1000) = true ∧ cIs (S + 4 + 1000) = some (1, 9)) ∧ (lv (S + 7 + 1000) = true ∧ cIs (S + 7 + 1000) = some (0, 56)) ∧ (lv (S + 8 + 1000) = true ∧ cIs (S + 8 + 1000) = some (0, 6)) ∧ 100 ≤ S
/-- frame -/
def RF (κ μ : zzM) (S s : Nat) : Prop := κ (S + 1) 0 = μ 1 s ∧ κ (S + 1) 1 = μ 2 s
theorem ec_cellCount {S s : Nat} (A : As lv S) (hB : Bd μ s) (hF : RF κ μ S s) : g_X3_cellCount lv (S + 1) κ νc = some (Int32.ofNat (nC μ s * nR μ s)) := by
  obtain ⟨a8, a4, ah, af, a9, a3, a0, ad, a2, bh, bf, bc, br, b9, bd, b2, hS⟩ := A
  obtain ⟨hs, ⟨hc, hc1, hc6⟩, ⟨hr, hr1, hr6⟩, -⟩ := hB
  unfold g_X3_cellCount
  rw [cg a4, cg a4, hF.1, hF.2, hc, hr, on_m]
theorem cr6 {c r : Nat} (hc : c ≤ 6) (hr : r ≤ 6) : c * r ≤ 36 := Nat.mul_le_mul hc hr
theorem ec_cellAt {S s p : Nat} (A : As lv S) (hB : Bd μ s) (hF : RF κ μ S s) (hp : p < 1000) : g_X3_cellAt lv (S + 1) (Int32.ofNat p) κ νc = some (Int32.ofNat (10 * (p / nR μ s) + p % nR μ s)) := by
  obtain ⟨a8, a4, -⟩ := A
  obtain ⟨hs, ⟨hc, hc1, hc6⟩, ⟨hr, hr1, hr6⟩, -⟩ := hB
  have h1 : κ (S + 1) 1 = Int32.ofNat (nR μ s) := hF.2.trans hr
  have h2 : Int32.ofNat (nR μ s) ≠ 0 := by
    rw [nlt0, Ne, on_eq _ _ (by omega) (by decide)]
    omega
  unfold g_X3_cellAt g_X3_cellAt_28
  rw [cg a4, h1, nlt1, if_pos (ple (by omega)), cg a4, zdv_p h2, cg a4, zdv_p h2, on_r _ _ (by omega) (by omega), on_d _ _ (by omega) (by omega), nlt10, on_m, on_a, Nat.mul_comm (p / nR μ s) 10]
/-- heights -/
def RH (κ μ : zzM) (S s : Nat) : Prop := ∀ x y, x < nC μ s → y < nR μ s → zz_min (κ (S + 1 + 1 + 1000) (10 * x + y)) (zz_min (κ (S + 1 + 1000) x) (κ (S + 1 + 2000) y)) = tH μ s x y
theorem ec_tieAt {o i : Nat} (hb : lv o = true ∧ cIs o = some (0, 6)) (hi : i < 6) : g_X3_tieAt lv o (Int32.ofNat i) κ νc = some (κ o i) := by
  unfold g_X3_tieAt g_X3_tieAt_16 g_X3_tieAt_18
  rw [if_neg (on_nn i (by omega)), cl hb, if_neg (nle (by omega)), ca hb hi]
theorem ten_d {x y : Nat} (hx : x < 6) (hy : y < 6) : (Int32.ofNat (10 * x + y)) / 10 = Int32.ofNat x := by
  rw [nlt10, on_d _ _ (by omega) (by decide)]
  congr 1
  omega
theorem ten_r {x y : Nat} (hx : x < 6) (hy : y < 6) : zz_rem (Int32.ofNat (10 * x + y)) 10 = Int32.ofNat y := by
  rw [nlt10, on_r _ _ (by omega) (by decide)]
  congr 1
  omega
theorem ec_heightAt {S s x y : Nat} (A : As lv S) (hB : Bd μ s) (hH : RH κ μ S s) (hx : x < nC μ s) (hy : y < nR μ s) : g_X3_heightAt lv (S + 1) (Int32.ofNat (10 * x + y)) κ νc = some (tH μ s x y) := by
  obtain ⟨a8, a4, ah, af, a9, a3, a0, ad, a2, bh, bf, bc, br, b9, bd, b2, hS⟩ := A
  obtain ⟨hs, ⟨hc, hc1, hc6⟩, ⟨hr, hr1, hr6⟩, -⟩ := hB
  unfold g_X3_heightAt
  rw [cg a4, zdv10, ten_d (by omega) (by omega), ec_tieAt bc (by omega), zb_s, cg a4, zdv10, ten_r (by omega) (by omega), ec_tieAt br (by omega), zb_s, cg a4, cg ah, ec_at ah bh, zb_s, gAt_i (by omega), hH x y hx hy]
/-- depths -/
def RD (κ μ : zzM) (S s : Nat) : Prop := ∀ i, i < 56 → κ (S + 7 + 1000) i = if i % 10 < 6 then μ (111 + 7 * s + i / 10) (i % 10) else 0
theorem RD_at {S s x y : Nat} (h : RD κ μ S s) (hx : x < 6) (hy : y < 6) : κ (S + 7 + 1000) (10 * x + y) = μ (111 + 7 * s + x) y := by
  have h1 := h (10 * x + y) (by omega)
  rw [if_pos (by omega)] at h1
  rw [h1]
  congr 1
  · congr 1
    omega
  · omega
/-- layers -/
def Al (lv : Nat → Bool) (κ μ : zzM) (S s : Nat) : Prop := (∀ l, l < nL μ s → lv (S + 20 + l) = true ∧ co (S + 20 + l) = 7) ∧ (0 < nL μ s → lv (S + 5 + 1 + 1000) = true ∧ ¬ κ (S + 5 + 1) 3 = 0) ∧ κ (S + 5 + 1) 2 = μ 83 s ∧ (¬ κ (S + 5 + 1) 3 = 0 → lv (S + 5 + 1 + 1000) = true)
def RLa (κ : zzM) (νc : zzN) (μ : zzM) (ν : zzN) (S s : Nat) : Prop := ∀ l, l < nL μ s → κ (S + 20 + l) 0 = μ (85 + s) l ∧ κ (S + 20 + l) 1 = μ (90 + s) l ∧ κ (S + 20 + l) 2 = μ (95 + s) l ∧ κ (S + 20 + l) 3 = tTh μ ν s l ∧ νc (S + 20 + l) 4 = ν (100 + s) l ∧ κ (S + 20 + l) 5 = μ (105 + s) l
theorem child_ly {S l : Nat} (h : 100 ≤ S) : child (S + 5 + 1) l = S + 20 + l := by
  unfold child
  rw [if_neg (by omega), if_neg (by omega), if_neg (by omega), if_neg (by omega)]
theorem cg_ly {S s l : Nat} {K : Nat → Option α} (A : As lv S) (hB : Bd μ s) (hA : Al lv κ μ S s) (hl : l < nL μ s) : cget lv κ (S + 5 + 1) (Int32.ofNat l) K = K (S + 20 + l) := by
  obtain ⟨a8, a4, ah, af, a9, a3, a0, ad, a2, bh, bf, bc, br, b9, bd, b2, hS⟩ := A
  obtain ⟨hs, -, -, -, hl2, hl4⟩ := hB
  rw [cgt (n := nL μ s) a0 (hA.2.1 (by omega)) (hA.2.2.1.trans hl2) (by omega) hl, child_ly hS]
theorem ec_thickAll {S s : Nat} (A : As lv S) (hB : Bd μ s) (hA : Al lv κ μ S s) (hL : RLa κ νc μ ν S s) : g_X2_thicknessInAll lv (S + 5) κ νc = some (zfd (fun l a => a + tTh μ ν s l) 0 (nL μ s)) := by
  have A' := A
  have hB' := hB
  obtain ⟨a8, a4, ah, af, a9, a3, a0, ad, a2, bh, bf, bc, br, b9, bd, b2, hS⟩ := A
  obtain ⟨hs, -, -, -, hl2, hl4⟩ := hB
  have h2 : κ (S + 5 + 1) 2 = Int32.ofNat (nL μ s) := hA.2.2.1.trans hl2
  unfold g_X2_thicknessInAll
  refine zfor2 (nL μ s) (fun l a => a + tTh μ ν s l) 0 (fun l hl v => ?_) ?_
  · show g_X2_thicknessInAll_4 _ _ _ _ _ _ = _
    unfold g_X2_thicknessInAll_4
    rw [cg a3, cg a0, cg a0, h2, if_neg (nle (by omega)), cg a3, cg a0, cg_ly A' hB' hA hl, cg (hA.1 l hl), cg (hA.1 l hl), (hL l hl).2.2.2.1]
  · show g_X2_thicknessInAll_4 _ _ _ _ _ _ = _
    unfold g_X2_thicknessInAll_4
    rw [cg a3, cg a0, cg a0, h2, if_pos (ple (by omega))]
theorem zfd_base {f : Nat → Int32} {a : Int32} : ∀ n : Nat, zfd (fun l b => b + f l) a n = a + zfd (fun l b => b + f l) 0 n
  | 0 => (Int32.add_zero a).symm
  | n + 1 => by
    show zfd (fun l b => b + f l) a n + f n = a + (zfd (fun l b => b + f l) 0 n + f n)
    rw [zfd_base n, Int32.add_assoc]
theorem ec_topOf {S s x y : Nat} (A : As lv S) (hB : Bd μ s) (hH : RH κ μ S s) (hA : Al lv κ μ S s) (hL : RLa κ νc μ ν S s) (hD : RD κ μ S s) (hx : x < nC μ s) (hy : y < nR μ s) : g_X7_topOf lv S (Int32.ofNat (10 * x + y)) κ νc = some (tTop μ ν s x y) := by
  have A' := A
  have hB' := hB
  obtain ⟨a8, a4, ah, af, a9, a3, a0, ad, a2, bh, bf, bc, br, b9, bd, b2, hS⟩ := A
  obtain ⟨hs, ⟨hc, hc1, hc6⟩, ⟨hr, hr1, hr6⟩, -⟩ := hB
  unfold g_X7_topOf tTop
  rw [cg a8, cg a4, ec_heightAt A' hB' hH hx hy, zb_s, cg a8, cg a3, ec_thickAll A' hB' hA hL, zb_s, cg a8, cg ad, ec_at ad bd, zb_s, gAt_i (by omega), RD_at hD (by omega) (by omega), zfd_base (nL μ s) (a := tH μ s x y - _)]
  congr 1
  congr 1
  rw [Int32.sub_eq_add_neg, Int32.sub_eq_add_neg, Int32.add_assoc, Int32.add_assoc, Int32.add_comm _ (-_)]
/-- a loop over the cells of a seat -/
theorem cells {S s : Nat} (A : As lv S) (hB : Bd μ s) (hF : RF κ μ S s) {σ γ : Type} {b : σ → Option (σ ⊕ γ)} {β : Type} {g : Nat → Nat → β → β} {a : β} {r : γ} (mk : β → Nat → σ) (h1 : ∀ p, p < nC μ s * nR μ s → ∀ x y, x < nC μ s → y < nR μ s → 10 * (p / nR μ s) + p % nR μ s = 10 * x + y → ∀ v, b (mk v p) = some (.inl (mk (g x y v) (p + 1)))) (h2 : b (mk (zfd (fun x b => zfd (fun y => g x y) b (nR μ s)) a (nC μ s)) (nC μ s * nR μ s)) = some (.inr r)) : zz_it b zz_F (mk a 0) = some r := by
  obtain ⟨hs, ⟨hc, hc1, hc6⟩, ⟨hr, hr1, hr6⟩, -⟩ := hB
  have h36 := cr6 hc6 hr6
  rw [← zfd_nest (by omega)] at h2
  refine zfor (nC μ s * nR μ s) (fun p => mk (zfd (fun p => g (p / nR μ s) (p % nR μ s)) a p) p) (fun p hp => ?_) h2 (by omega)
  exact h1 p hp (p / nR μ s) (p % nR μ s) (by rw [Nat.div_lt_iff_lt_mul (by omega)]; exact hp) (Nat.mod_lt _ (by omega)) rfl _
theorem ec_topsInAll {S s : Nat} (A : As lv S) (hB : Bd μ s) (hF : RF κ μ S s) (hH : RH κ μ S s) (hA : Al lv κ μ S s) (hL : RLa κ νc μ ν S s) (hD : RD κ μ S s) : g_X7_topsInAll lv S κ νc = some (tSum μ s (tTop μ ν s)) := by
  have A' := A
  have hB' := hB
  obtain ⟨a8, a4, -⟩ := A
  obtain ⟨hs, ⟨hc, hc1, hc6⟩, ⟨hr, hr1, hr6⟩, -⟩ := hB
  have h36 := cr6 hc6 hr6
  unfold g_X7_topsInAll
  refine cells A' hB' hF (g := fun x y b => b + tTop μ ν s x y) (a := (0 : Int32)) (fun v p => (v, Int32.ofNat p)) (fun p hp x y hx hy hxy v => ?_) ?_
  · show g_X7_topsInAll_4 _ _ _ _ _ _ = _
    unfold g_X7_topsInAll_4
    rw [cg a8, cg a4, ec_cellCount A' hB' hF, zb_s, if_neg (nle (by omega)), cg a8, cg a4, ec_cellAt A' hB' hF (by omega), zb_s, cg a8, hxy, ec_topOf A' hB' hH hA hL hD hx hy, zb_s, on_s]
  · show g_X7_topsInAll_4 _ _ _ _ _ _ = _
    unfold g_X7_topsInAll_4
    rw [cg a8, cg a4, ec_cellCount A' hB' hF, zb_s, if_pos (ple (by omega))]
    rfl
theorem ec_heightInAll {S s : Nat} (A : As lv S) (hB : Bd μ s) (hF : RF κ μ S s) (hH : RH κ μ S s) : g_X3_heightInAll lv (S + 1) κ νc = some (tSum μ s (tH μ s)) := by
  have A' := A
  have hB' := hB
  obtain ⟨a8, a4, -⟩ := A
  obtain ⟨hs, ⟨hc, hc1, hc6⟩, ⟨hr, hr1, hr6⟩, -⟩ := hB
  have h36 := cr6 hc6 hr6
  unfold g_X3_heightInAll
  refine cells A' hB' hF (g := fun x y b => b + tH μ s x y) (a := (0 : Int32)) (fun v p => (v, Int32.ofNat p)) (fun p hp x y hx hy hxy v => ?_) ?_
  · show g_X3_heightInAll_4 _ _ _ _ _ _ = _
    unfold g_X3_heightInAll_4
    rw [cg a4, ec_cellCount A' hB' hF, zb_s, if_neg (nle (by omega)), cg a4, ec_cellAt A' hB' hF (by omega), zb_s, cg a4, hxy, ec_heightAt A' hB' hH hx hy, zb_s, on_s]
  · show g_X3_heightInAll_4 _ _ _ _ _ _ = _
    unfold g_X3_heightInAll_4
    rw [cg a4, ec_cellCount A' hB' hF, zb_s, if_pos (ple (by omega))]
    rfl
end ZCS
