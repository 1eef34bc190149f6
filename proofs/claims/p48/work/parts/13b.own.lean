section ZVB
variable {lv : Nat → Bool} {κ : zzM} {νc : zzN} {μ : zzM} {ν : zzN}
/-- firmnesses of springs; tension -/
def RM (κ μ : zzM) (S s : Nat) : Prop := ∀ x y, x < nC μ s → y < nR μ s → κ (S + 1 + 2 + 1000) (10 * x + y) = if μ 3 s ≤ 1 then 0 else μ (46 + 7 * s + x) y
def RT (κ μ : zzM) (S s : Nat) : Prop := κ (S + 1) 2 = if μ 3 s ≤ 0 then 0 else μ 14 s
theorem quo {a b : Int32} (h1 : b ≠ -1) : g_X9_quotient lv a.toInt64 b.toInt64 κ νc = some (if b = 0 then 0 else a / b) := by
  unfold g_X9_quotient g_X9_quotient_14
  have e : b.toInt64 = 0 ↔ b = 0 := by
    constructor
    · intro q
      have := congrArg Int64.toInt q
      rw [Int32.toInt_toInt64] at this
      exact Int32.toInt.inj this
    · rintro rfl; rfl
  by_cases h : b = 0
  · rw [if_pos ((lg_cmp_eq _ _).mpr (e.mpr h)), if_pos h]
  · rw [if_neg (fun q => h (e.mp ((lg_cmp_eq _ _).mp q))), if_neg h, zdl_p (fun q => h (e.mp q)), ← Int32.toInt64_div_of_ne_right a b h1, Int32.toInt32_toInt64]
theorem ec_sinkF {H : Int} {S s x y : Nat} {m : Int32} (A : As lv S) (hB : Bd μ s) (hH : RH κ μ S s) (hM : RM κ μ S s) (hT : RT κ μ S s) (hV : Vb μ ν H s) (hm : 0 ≤ m.toInt ∧ m.toInt ≤ 99) (hx : x < nC μ s) (hy : y < nR μ s) : g_X3_sinkingUnder lv (S + 1) m (Int32.ofNat (10 * x + y)) κ νc = some (if μ 3 s ≤ 1 then 0 else zz_min (tH μ s x y) ((10 * m) / (μ (46 + 7 * s + x) y + μ 14 s))) := by
  have A' := A
  have hB' := hB
  obtain ⟨a8, a4, ah, af, a9, a3, a0, ad, a2, bh, bf, bc, br, b9, bd, b2, hS⟩ := A
  obtain ⟨hs, ⟨hc, hc1, hc6⟩, ⟨hr, hr1, hr6⟩, -⟩ := hB
  unfold g_X3_sinkingUnder
  rw [cg a4, ec_heightAt A' hB' hH hx hy, zb_s, cg a4, cg af, ec_at af bf, zb_s, gAt_i (by omega), hM x y hx hy, cg a4, hT]
  by_cases g : μ 3 s ≤ 1
  · rw [if_pos g, if_pos g]
    have hb : ∃ w : Int32, (0 + (if μ 3 s ≤ 0 then 0 else μ 14 s) : Int32) = w ∧ 0 ≤ w.toInt ∧ w.toInt ≤ 9 := by
      refine ⟨_, rfl, ?_⟩
      by_cases g2 : μ 3 s ≤ 0
      · rw [if_pos g2]; decide
      · rw [if_neg g2, Int32.zero_add]
        have := hV.2.2.1 g2
        omega
    obtain ⟨w, ew, w1, w2⟩ := hb
    rw [ew, quo (fun q => by rw [q] at w1; exact absurd w1 (by decide)), zb_s]
    have e0 : tH μ s x y = 0 := if_pos g
    rw [e0]
    congr 1
    have hq : 0 ≤ (if w = 0 then (0 : Int32) else 10 * m / w).toInt := by
      by_cases g3 : w = 0
      · rw [if_pos g3]; decide
      · rw [if_neg g3]
        have i10 : (10 : Int32).toInt = 10 := rfl
        have e1 : (10 * m : Int32).toInt = 10 * m.toInt := by
          rw [mul_I] <;> rw [i10] <;> omega
        have hw : 0 < w.toInt := by
          have : w.toInt ≠ 0 := fun q => g3 (Int32.toInt.inj q)
          omega
        rw [div_I _ _ (by rw [e1]; omega) hw]
        exact Int.ediv_nonneg (by rw [e1]; omega) (by omega)
    show (if _ < (0 : Int32) then _ else (0 : Int32)) = 0
    rw [if_neg]
    rw [Int32.lt_iff_toInt_lt, i0]
    omega
  · have g2 : ¬ μ 3 s ≤ 0 := fun q => g (Int32.le_trans q (by decide))
    rw [if_neg g, if_neg g2, if_neg g]
    have hne := Vb_Fm hB' hV g x hx y hy
    have t2 := (hV.1 g x y (by omega) (by omega)).2
    have t3 := hV.2.2.1 g2
    have e2 : (μ (46 + 7 * s + x) y + μ 14 s).toInt = (μ (46 + 7 * s + x) y).toInt + (μ 14 s).toInt := by
      rw [add_I] <;> omega
    rw [quo (fun q => by
      rw [q] at e2
      have h3 : (-1 : Int32).toInt = -1 := rfl
      omega), zb_s, if_neg hne]
theorem ec_sinkL {H : Int} {S s : Nat} {m : Int32} (A : As lv S) (hB : Bd μ s) (hA : Al lv κ μ S s) (hL : RLa κ νc μ ν S s) (hV : Vb μ ν H s) : g_X2_sinkingUnder lv (S + 5) m κ νc = some (zfd (fun l a => a + zz_min (tTh μ ν s l) ((m * tTh μ ν s l) / (20 * μ (95 + s) l))) 0 (nL μ s)) := by
  have A' := A
  have hB' := hB
  obtain ⟨a8, a4, ah, af, a9, a3, a0, ad, a2, bh, bf, bc, br, b9, bd, b2, hS⟩ := A
  obtain ⟨hs, -, -, -, hl2, hl4⟩ := hB
  have h2 : κ (S + 5 + 1) 2 = Int32.ofNat (nL μ s) := hA.2.2.1.trans hl2
  unfold g_X2_sinkingUnder
  refine zfor2 (nL μ s) (fun l a => a + zz_min (tTh μ ν s l) ((m * tTh μ ν s l) / (20 * μ (95 + s) l))) 0 (fun l hl v => ?_) ?_
  · show g_X2_sinkingUnder_4 _ _ _ _ _ _ _ = _
    unfold g_X2_sinkingUnder_4
    have hne := Vb_Fn hV l hl
    obtain ⟨-, -, g3, -⟩ := hV.2.2.2.2 l hl
    have i20 : (20 : Int32).toInt = 20 := rfl
    have f2 : (20 * μ (95 + s) l : Int32).toInt = 20 * (μ (95 + s) l).toInt := by
      rw [mul_I] <;> rw [i20] <;> omega
    have a7 := hA.1 l hl
    have e : g_X6_sinkingUnder lv (S + 20 + l) m κ νc = some (zz_min (tTh μ ν s l) ((m * tTh μ ν s l) / (20 * μ (95 + s) l))) := by
      unfold g_X6_sinkingUnder
      rw [cg a7, cg a7, cg a7, (hL l hl).2.2.2.1, (hL l hl).2.2.1, quo (fun q => by
        rw [q] at f2
        have h3 : (-1 : Int32).toInt = -1 := rfl
        omega), zb_s, if_neg hne]
    rw [cg a3, cg a0, cg a0, h2, if_neg (nle (by omega)), cg a3, cg a0, cg_ly A' hB' hA hl, cg a7, cg a7, e, zb_s]
  · show g_X2_sinkingUnder_4 _ _ _ _ _ _ _ = _
    unfold g_X2_sinkingUnder_4
    rw [cg a3, cg a0, cg a0, h2, if_pos (ple (by omega))]
/-- a body's grid -/
def Ab (lv : Nat → Bool) (B : Nat) : Prop := (lv B = true ∧ co B = 5) ∧ (lv (B + 1000) = true ∧ cIs (B + 1000) = some (0, 56))
def RB (κ μ : zzM) (B b : Nat) : Prop := (∀ i, i < 56 → κ (B + 1000) i = if i % 10 < 6 then μ (149 + 7 * b + i / 10) (i % 10) else 0) ∧ ∀ x y, x < 6 → y < 6 → 0 ≤ (μ (149 + 7 * b + x) y).toInt ∧ (μ (149 + 7 * b + x) y).toInt ≤ 99
theorem RB_at {B b x y : Nat} (h : RB κ μ B b) (hx : x < 6) (hy : y < 6) : κ (B + 1000) (10 * x + y) = μ (149 + 7 * b + x) y := by
  have h1 := h.1 (10 * x + y) (by omega)
  rw [if_pos (by omega)] at h1
  rw [h1]
  congr 1
  · congr 1
    omega
  · omega
/-- own sinkings, as whole numbers -/
def owI (μ : zzM) (ν : zzN) (b s x y : Nat) : Int := if μ 3 s ≤ 1 then 0 else (tOwn μ ν b s x y).toInt
/-- the class tells what the reference reckons -/
theorem ec_sinking {H : Int} {S s B b G : Nat} (A : As lv S) (hS6 : S < 600) (hG : G = 5 ∨ G = 6) (hGr : Ab lv G) (hBr : Ab lv B) (hB0 : 600 ≤ B ∧ B < 700) (hB : Bd μ s) (hF : RF κ μ S s) (hH : RH κ μ S s) (hM : RM κ μ S s) (hT : RT κ μ S s) (hA : Al lv κ μ S s) (hL : RLa κ νc μ ν S s) (hV : Vb μ ν H s) (hHb : H ≤ 100000000) (hLz : μ 3 s ≤ 1 → nL μ s = 0) (hRB : RB κ μ B b) : ∃ κ', g_X7_tellSinking lv S B G κ νc = some ((), κ', νc) ∧ (∀ o, o ≠ G + 1000 → κ' o = κ o) ∧ ∀ x y, x < nC μ s → y < nR μ s → (κ' (G + 1000) (10 * x + y)).toInt = zM (owI μ ν b s) (nC μ s) (nR μ s) x y := by
  have hB' := hB
  obtain ⟨hs, ⟨hc, hc1, hc6⟩, ⟨hr, hr1, hr6⟩, -, hl, hl4⟩ := hB
  have hS1 : 100 ≤ S := A.2.2.2.2.2.2.2.2.2.2.2.2.2.2.2.2
  refine ec_tell A hS6 hG hGr hBr (by omega) hB' hF (fun x y hx hy => ?_) (fun κ' hk x y hx hy => ?_)
  · unfold owI
    by_cases g : μ 3 s ≤ 1
    · rw [if_pos g]; omega
    · rw [if_neg g]
      exact tOwn_I hB' hV hHb (hRB.2 x y (by omega) (by omega)) (by omega) (by omega) g
  · have hm := hRB.2 x y (by omega) (by omega)
    rw [RB_at hRB (by omega) (by omega)]
    have kH : RH κ' μ S s := fun x y hx hy => by
      rw [hk (S + 1 + 1 + 1000) (by omega), hk (S + 1 + 1000) (by omega), hk (S + 1 + 2000) (by omega)]
      exact hH x y hx hy
    have kM : RM κ' μ S s := fun x y hx hy => by
      rw [hk (S + 1 + 2 + 1000) (by omega)]
      exact hM x y hx hy
    have kT : RT κ' μ S s := by
      unfold RT
      rw [hk (S + 1) (by omega)]
      exact hT
    have kA : Al lv κ' μ S s := by
      unfold Al
      rw [hk (S + 5 + 1) (by omega)]
      exact hA
    have kL : RLa κ' νc μ ν S s := fun l hl => by
      rw [hk (S + 20 + l) (by omega)]
      exact hL l hl
    refine ⟨_, _, ec_sinkF A hB' kH kM kT hV hm hx hy, ec_sinkL A hB' kA kL hV, ?_⟩
    unfold owI
    by_cases g : μ 3 s ≤ 1
    · rw [if_pos g, if_pos g, hLz g]
      rfl
    · rw [if_neg g, if_neg g]
      unfold tOwn
      rw [zfd_base (nL μ s) (a := zz_min (tH μ s x y) _)]
theorem owI_b {H : Int} {s b x y : Nat} (hB : Bd μ s) (hV : Vb μ ν H s) (hHb : H ≤ 100000000) (hRB : RB κ μ 600 b ∨ ∀ x y, x < 6 → y < 6 → 0 ≤ (μ (149 + 7 * b + x) y).toInt ∧ (μ (149 + 7 * b + x) y).toInt ≤ 99) (hx : x < 6) (hy : y < 6) (hn : ¬ μ 3 s ≤ 1) : 0 ≤ (tOwn μ ν b s x y).toInt ∧ (tOwn μ ν b s x y).toInt ≤ 400 :=
  tOwn_I hB hV hHb (hRB.elim (fun h => h.2 x y hx hy) (fun h => h x y hx hy)) hx hy hn
/-- with springs: the very number -/
theorem sink_eq {H : Int} {s b x y : Nat} {v : Int32} (hB : Bd μ s) (hV : Vb μ ν H s) (hHb : H ≤ 100000000) (hm : ∀ x y, x < 6 → y < 6 → 0 ≤ (μ (149 + 7 * b + x) y).toInt ∧ (μ (149 + 7 * b + x) y).toInt ≤ 99) (hn : ¬ μ 3 s ≤ 1) (hx : x < nC μ s) (hy : y < nR μ s) (hv : v.toInt = zM (owI μ ν b s) (nC μ s) (nR μ s) x y) : v = tSink μ ν b s x y ∧ 0 ≤ v.toInt ∧ v.toInt ≤ 400 := by
  have hB' := hB
  obtain ⟨hs, ⟨hc, hc1, hc6⟩, ⟨hr, hr1, hr6⟩, -, hl, hl4⟩ := hB
  have how : ∀ x y, x < nC μ s → y < nR μ s → 0 ≤ (tOwn μ ν b s x y).toInt ∧ (tOwn μ ν b s x y).toInt ≤ 400 := fun x y hx hy => tOwn_I hB' hV hHb (hm x y (by omega) (by omega)) (by omega) (by omega) hn
  have e : owI μ ν b s = fun x y => (tOwn μ ν b s x y).toInt := by
    funext x y
    unfold owI
    rw [if_neg hn]
  rw [e] at hv
  refine ⟨Int32.toInt.inj (by rw [hv, tSink_I hB' how (by omega) (by omega)]), by rw [hv]; exact zM_0, ?_⟩
  rw [hv]
  refine zM_ub (by omega) (fun a c ha hc => ?_)
  have h1 := how a c ha hc
  have d1 := dst_b (a := a) (x := x) (by omega) (by omega)
  have d2 := dst_b (a := c) (x := y) (by omega) (by omega)
  show (tOwn μ ν b s a c).toInt - _ ≤ _
  omega
end ZVB
