section ZSB
/-! the class's two passes -/
variable {lv : Nat → Bool} {κ : zzM} {νc : zzN} {μ : zzM} {ν : zzN}
theorem max_I (a b : Int32) : (zz_max a b).toInt = max a.toInt b.toInt := by
  show (if a < b then b else a).toInt = _
  by_cases h : a < b
  · rw [if_pos h]
    rw [Int32.lt_iff_toInt_lt] at h
    omega
  · rw [if_neg h]
    rw [Int32.lt_iff_toInt_lt] at h
    omega
theorem min_I (a b : Int32) : (zz_min a b).toInt = min a.toInt b.toInt := by
  show (if b < a then b else a).toInt = _
  by_cases h : b < a
  · rw [if_pos h]
    rw [Int32.lt_iff_toInt_lt] at h
    omega
  · rw [if_neg h]
    rw [Int32.lt_iff_toInt_lt] at h
    omega
theorem sub_I (a b : Int32) (h1 : -2 ^ 31 ≤ a.toInt - b.toInt) (h2 : a.toInt - b.toInt < 2 ^ 31) : (a - b).toInt = a.toInt - b.toInt := by
  rw [Int32.toInt_sub, Int.bmod_eq_of_le_mul_two] <;> omega
theorem add_I (a b : Int32) (h1 : -2 ^ 31 ≤ a.toInt + b.toInt) (h2 : a.toInt + b.toInt < 2 ^ 31) : (a + b).toInt = a.toInt + b.toInt := by
  rw [Int32.toInt_add, Int.bmod_eq_of_le_mul_two] <;> omega
theorem mul_I (a b : Int32) (h1 : -2 ^ 31 ≤ a.toInt * b.toInt) (h2 : a.toInt * b.toInt < 2 ^ 31) : (a * b).toInt = a.toInt * b.toInt := by
  rw [Int32.toInt_mul, Int.bmod_eq_of_le_mul_two] <;> omega
theorem i8 : (8 : Int32).toInt = 8 := rfl
theorem i0 : (0 : Int32).toInt = 0 := rfl
theorem gAt_o {G i : Nat} (hi : i < 10000) : gAt κ G (Int32.ofNat i) = if i < 56 then κ (G + 1000) i else 0 := by
  by_cases h : i < 56
  · rw [gAt_i h, if_pos h]
  · unfold gAt
    rw [if_neg (on_nn i (by omega)), if_pos (ple (by omega)), if_neg h]
theorem gAt_m {G i d : Nat} (hi : i < 10000) (hd : d < 10000) : gAt κ G (Int32.ofNat i - Int32.ofNat d) = if d ≤ i ∧ i - d < 56 then κ (G + 1000) (i - d) else 0 := by
  by_cases h : d ≤ i
  · rw [← Int32.ofNat_sub _ _ h, gAt_o (by omega)]
    by_cases h2 : i - d < 56
    · rw [if_pos h2, if_pos ⟨h, h2⟩]
    · rw [if_neg h2, if_neg (fun q => h2 q.2)]
  · rw [if_neg (fun q => h q.1)]
    unfold gAt
    rw [if_pos]
    rw [Int32.lt_iff_toInt_lt, sub_I, on_i _ (by omega), on_i _ (by omega), i0]
    · omega
    · rw [on_i _ (by omega), on_i _ (by omega)]; omega
    · rw [on_i _ (by omega), on_i _ (by omega)]; omega
/-- cells ahead of place p -/
def ahd (r p x y : Nat) : Prop := x < p / r ∨ (x = p / r ∧ y < p % r)
theorem ahd_s {r p x y : Nat} (hr : 0 < r) (hy : y < r) : ahd r (p + 1) x y ↔ ahd r p x y ∨ (x = p / r ∧ y = p % r) := by
  unfold ahd
  rcases dm_step p r hr with ⟨h1, h2, h3⟩ | ⟨h1, h2, h3⟩
  · rw [h2, h3]; omega
  · rw [h2, h3]; omega
theorem ahd_0 {r x y : Nat} (hr : 0 < r) : ¬ ahd r 0 x y := by
  unfold ahd
  rw [Nat.zero_div, Nat.zero_mod]
  omega
theorem ahd_N {c r x y : Nat} (hr : 0 < r) (hx : x < c) : ahd r (c * r) x y := by
  unfold ahd
  rw [Nat.mul_div_cancel _ hr]
  exact Or.inl hx
theorem ec_tell {S s B G : Nat} {ow : Nat → Nat → Int} (A : As lv S) (hS : S < 600) (hG : G = 5 ∨ G = 6) (hGr : (lv G = true ∧ co G = 5) ∧ (lv (G + 1000) = true ∧ cIs (G + 1000) = some (0, 56))) (hBr : (lv B = true ∧ co B = 5) ∧ (lv (B + 1000) = true ∧ cIs (B + 1000) = some (0, 56))) (hBG : B ≠ G) (hB : Bd μ s) (hF : RF κ μ S s) (how : ∀ x y, x < nC μ s → y < nR μ s → 0 ≤ ow x y ∧ ow x y ≤ 400) (H : ∀ κ' : zzM, (∀ o, o ≠ G + 1000 → κ' o = κ o) → ∀ x y, x < nC μ s → y < nR μ s → ∃ a b, g_X3_sinkingUnder lv (S + 1) (κ (B + 1000) (10 * x + y)) (Int32.ofNat (10 * x + y)) κ' νc = some a ∧ g_X2_sinkingUnder lv (S + 5) (κ (B + 1000) (10 * x + y)) κ' νc = some b ∧ (a + b).toInt = ow x y) : ∃ κ', g_X7_tellSinking lv S B G κ νc = some ((), κ', νc) ∧ (∀ o, o ≠ G + 1000 → κ' o = κ o) ∧ ∀ x y, x < nC μ s → y < nR μ s → (κ' (G + 1000) (10 * x + y)).toInt = zM ow (nC μ s) (nR μ s) x y := by
  have A' := A
  have hB' := hB
  obtain ⟨a8, a4, ah, af, a9, a3, a0, ad, a2, bh, bf, bc, br, b9, bd, b2, hS1⟩ := A
  obtain ⟨hs, ⟨hc, hc1, hc6⟩, ⟨hr, hr1, hr6⟩, -⟩ := hB
  obtain ⟨gG, gG2⟩ := hGr
  obtain ⟨gB, gB2⟩ := hBr
  have h36 := cr6 hc6 hr6
  have hMu : ∀ x y, x < nC μ s → y < nR μ s → zM ow (nC μ s) (nR μ s) x y ≤ 400 := fun x y hx hy => zM_ub (by omega) (fun a b ha hb => by
    have h1 := (how a b ha hb).2
    have h2 : 0 ≤ dst a x := by unfold dst; split <;> omega
    have h3 : 0 ≤ dst b y := by unfold dst; split <;> omega
    omega)
  have hRF : ∀ κ' : zzM, (∀ o, o ≠ G + 1000 → κ' o = κ o) → RF κ' μ S s := fun κ' h => by
    unfold RF
    rw [h (S + 1) (by omega)]
    exact hF
  unfold g_X7_tellSinking
  rw [cg gG, ec_clear gG gG2, zg1_s, cg a8, cg a4]
  have hk1 : ∀ o, o ≠ G + 1000 → kFil κ (G + 1000) 56 0 o = κ o := fun o h => kFil_o h
  rw [ec_cellCount A' hB' (hRF _ hk1), zb_s]
  have main := zit_I (b := fun s1 : (Int32 × zzM × zzN) => g_X7_tellSinking_15 lv S B G (Int32.ofNat (nC μ s * nR μ s)) s1.1 s1.2.1 s1.2.2) (s := ((0 : Int32), kFil κ (G + 1000) 56 0, νc))
    (fun p st => ∃ κ' : zzM, st = (Int32.ofNat p, κ', νc) ∧ (∀ o, o ≠ G + 1000 → κ' o = κ o) ∧ (∀ i, i < 56 → ¬ (i / 10 < nC μ s ∧ i % 10 < nR μ s ∧ ahd (nR μ s) p (i / 10) (i % 10)) → κ' (G + 1000) i = 0) ∧ (∀ x y, x < nC μ s → y < nR μ s → ahd (nR μ s) p x y → ow x y ≤ (κ' (G + 1000) (10 * x + y)).toInt ∧ (κ' (G + 1000) (10 * x + y)).toInt ≤ zM ow (nC μ s) (nR μ s) x y ∧ (∀ x', x = x' + 1 → (κ' (G + 1000) (10 * x' + y)).toInt - 8 ≤ (κ' (G + 1000) (10 * x + y)).toInt) ∧ (∀ y', y = y' + 1 → (κ' (G + 1000) (10 * x + y')).toInt - 8 ≤ (κ' (G + 1000) (10 * x + y)).toInt)))
    (fun r : Unit × zzM × zzN => ∃ κ' : zzM, r = ((), κ', νc) ∧ (∀ o, o ≠ G + 1000 → κ' o = κ o) ∧ ∀ x y, x < nC μ s → y < nR μ s → (κ' (G + 1000) (10 * x + y)).toInt = zM ow (nC μ s) (nR μ s) x y)
    (nC μ s * nR μ s) (by omega) ?_ ?_ ?_
  · obtain ⟨r, e, κ', rfl, h1, h2⟩ := main
    exact ⟨κ', e, h1, h2⟩
  · exact ⟨_, rfl, hk1, fun i hi _ => kFil_h hi, fun x y hx hy h => absurd h (ahd_0 (by omega))⟩
  · rintro p hp st ⟨κ', rfl, k1, k2, k3⟩
    show ∃ s', g_X7_tellSinking_15 _ _ _ _ _ _ _ _ = _ ∧ _
    unfold g_X7_tellSinking_15
    dsimp only
    have hX : p / nR μ s < nC μ s := by rw [Nat.div_lt_iff_lt_mul (by omega)]; exact hp
    have hY : p % nR μ s < nR μ s := Nat.mod_lt _ (by omega)
    rw [if_neg (nle (by omega)), cg a8, cg a4, ec_cellAt A' hB' (hRF _ k1) (by omega), zb_s]
    have hn : ¬ ahd (nR μ s) p (p / nR μ s) (p % nR μ s) := by unfold ahd; omega
    have hs1 : ∀ x y, y < nR μ s → (ahd (nR μ s) (p + 1) x y ↔ ahd (nR μ s) p x y ∨ (x = p / nR μ s ∧ y = p % nR μ s)) := fun x y hy => ahd_s (by omega) hy
    have hax : ∀ x, p / nR μ s = x + 1 → ahd (nR μ s) p x (p % nR μ s) := fun x h => by unfold ahd; omega
    have hay : ∀ y, p % nR μ s = y + 1 → ahd (nR μ s) p (p / nR μ s) y := fun y h => by unfold ahd; omega
    have hal : ∀ x y, ahd (nR μ s) p x y → ¬ (x = p / nR μ s ∧ y = p % nR μ s) ∧ (x < p / nR μ s ∨ (x = p / nR μ s ∧ y < p % nR μ s)) := fun x y h => by unfold ahd at h; omega
    generalize p / nR μ s = X at *
    generalize p % nR μ s = Y at *
    rw [cg gB, ec_at gB gB2, zb_s, gAt_i (by omega), k1 (B + 1000) (by omega), cg a8, cg a4]
    obtain ⟨va, vb, ea, eb, eab⟩ := H κ' k1 X Y hX hY
    rw [ea, zb_s, cg a8, cg a3, eb, zb_s, cg gG, ec_at gG gG2, zb_s, cg gG, ec_at gG gG2, zb_s, cg gG, ec_put gG gG2 (by omega), zg1_s, on_s]
    have w1 : ∃ w : Int32, gAt κ' G (Int32.ofNat (10 * X + Y) - 10) = w ∧ 0 ≤ w.toInt ∧ w.toInt - 8 ≤ zM ow (nC μ s) (nR μ s) X Y ∧ ∀ x', X = x' + 1 → κ' (G + 1000) (10 * x' + Y) = w := by
      refine ⟨_, rfl, ?_⟩
      rw [nlt10, gAt_m (by omega) (by omega)]
      have m0 := zM_0 (own := ow) (c := nC μ s) (r := nR μ s) (x := X) (y := Y)
      by_cases g : X = 0
      · rw [if_neg (by omega)]
        exact ⟨by rw [i0]; omega, by rw [i0]; omega, fun x' h => by omega⟩
      · obtain ⟨x', hx'⟩ : ∃ x', X = x' + 1 := ⟨X - 1, by omega⟩
        obtain ⟨t1, t2, -, -⟩ := k3 x' Y (by omega) hY (hax x' hx')
        rw [if_pos (by omega), show 10 * X + Y - 10 = 10 * x' + Y by omega]
        have t3 := (how x' Y (by omega) hY).1
        have t4 := zM_lip (own := ow) (c := nC μ s) (r := nR μ s) (x := X) (y := Y) (x' := x') (y' := Y) (by unfold dst; rw [if_pos (Nat.le_refl _), if_neg (by omega)]; omega)
        refine ⟨by omega, by omega, fun x'' h => ?_⟩
        rw [show x'' = x' by omega]
    have w2 : ∃ w : Int32, gAt κ' G (Int32.ofNat (10 * X + Y) - 1) = w ∧ 0 ≤ w.toInt ∧ w.toInt - 8 ≤ zM ow (nC μ s) (nR μ s) X Y ∧ ∀ y', Y = y' + 1 → κ' (G + 1000) (10 * X + y') = w := by
      refine ⟨_, rfl, ?_⟩
      rw [nlt1, gAt_m (by omega) (by omega)]
      have m0 := zM_0 (own := ow) (c := nC μ s) (r := nR μ s) (x := X) (y := Y)
      by_cases g : Y = 0
      · have z : (if 1 ≤ 10 * X + Y ∧ 10 * X + Y - 1 < 56 then κ' (G + 1000) (10 * X + Y - 1) else 0) = 0 := by
          by_cases g2 : X = 0
          · rw [if_neg (by omega)]
          · rw [if_pos (by omega)]
            exact k2 _ (by omega) (by omega)
        rw [z]
        exact ⟨by rw [i0]; omega, by rw [i0]; omega, fun x' h => by omega⟩
      · obtain ⟨y', hy'⟩ : ∃ y', Y = y' + 1 := ⟨Y - 1, by omega⟩
        obtain ⟨t1, t2, -, -⟩ := k3 X y' hX (by omega) (hay y' hy')
        rw [if_pos (by omega), show 10 * X + Y - 1 = 10 * X + y' by omega]
        have t3 := (how X y' hX (by omega)).1
        have t4 := zM_lip (own := ow) (c := nC μ s) (r := nR μ s) (x := X) (y := Y) (x' := X) (y' := y') (by unfold dst; rw [if_pos (Nat.le_refl _), if_neg (by omega)]; omega)
        refine ⟨by omega, by omega, fun y'' h => ?_⟩
        rw [show y'' = y' by omega]
    obtain ⟨wa, e1, p1, p2, p3⟩ := w1
    obtain ⟨wb, e2, q1, q2, q3⟩ := w2
    rw [e1, e2]
    have hw := how X Y hX hY
    have hmo := zM_own (own := ow) hX hY
    have hMu1 := hMu X Y hX hY
    have hv : (zz_max (va + vb) (zz_max wa wb - 8)).toInt = max (ow X Y) (max wa.toInt wb.toInt - 8) := by
      have b1 : (zz_max wa wb).toInt = max wa.toInt wb.toInt := max_I _ _
      rw [max_I, eab, sub_I _ _ (by rw [b1, i8]; omega) (by rw [b1, i8]; omega), b1, i8]
    generalize zz_max (va + vb) (zz_max wa wb - 8) = nv at hv ⊢
    refine ⟨_, rfl, _, rfl, fun o ho => by rw [zset_o ho]; exact k1 o ho, fun i hi hni => ?_, fun x y hx hy h => ?_⟩
    · rw [zset_e (fun q => hni (by
        rw [q.2, show (10 * X + Y) / 10 = X by omega, show (10 * X + Y) % 10 = Y by omega]
        exact ⟨hX, hY, (hs1 X Y hY).mpr (Or.inr ⟨rfl, rfl⟩)⟩))]
      refine k2 i hi (fun q => hni ⟨q.1, q.2.1, (hs1 _ _ q.2.1).mpr (Or.inl q.2.2)⟩)
    · rcases (hs1 x y hy).mp h with h1 | ⟨rfl, rfl⟩
      · have hl := hal x y h1
        obtain ⟨t1, t2, t3, t4⟩ := k3 x y hx hy h1
        rw [zset_e (by omega)]
        refine ⟨t1, t2, fun x' hx' => ?_, fun y' hy' => ?_⟩
        · rw [zset_e (by omega)]; exact t3 x' hx'
        · rw [zset_e (by omega)]; exact t4 y' hy'
      · rw [zset_h, hv]
        refine ⟨by omega, by omega, fun x' hx' => ?_, fun y' hy' => ?_⟩
        · rw [zset_e (by omega), p3 x' hx']; omega
        · rw [zset_e (by omega), q3 y' hy']; omega
  · rintro st ⟨κ1, rfl, k1, k2, k3⟩
    show ∃ r, g_X7_tellSinking_15 _ _ _ _ _ _ _ _ = _ ∧ _
    unfold g_X7_tellSinking_15
    dsimp only
    rw [if_pos (ple (by omega))]
    have k4 : ∀ x y, x < nC μ s → y < nR μ s → ow x y ≤ (κ1 (G + 1000) (10 * x + y)).toInt ∧ (κ1 (G + 1000) (10 * x + y)).toInt ≤ zM ow (nC μ s) (nR μ s) x y ∧ (∀ x', x = x' + 1 → (κ1 (G + 1000) (10 * x' + y)).toInt - 8 ≤ (κ1 (G + 1000) (10 * x + y)).toInt) ∧ (∀ y', y = y' + 1 → (κ1 (G + 1000) (10 * x + y')).toInt - 8 ≤ (κ1 (G + 1000) (10 * x + y)).toInt) := fun x y hx hy => k3 x y hx hy (ahd_N (by omega) hx)
    have k5 : ∀ i, i < 56 → ¬ (i / 10 < nC μ s ∧ i % 10 < nR μ s) → κ1 (G + 1000) i = 0 := fun i hi h => k2 i hi (fun q => h ⟨q.1, q.2.1⟩)
    clear k2 k3
    have second := zit_I (b := fun s1 : (Int32 × zzM × zzN) => g_X7_tellSinking_112 lv S G s1.1 s1.2.1 s1.2.2) (s := (Int32.ofNat (nC μ s * nR μ s) - 1, κ1, νc))
      (fun i st => ∃ κ' : zzM, st = (Int32.ofNat (nC μ s * nR μ s - i) - 1, κ', νc) ∧ (∀ o, o ≠ G + 1000 → κ' o = κ o) ∧ (∀ i, i < 56 → ¬ (i / 10 < nC μ s ∧ i % 10 < nR μ s) → κ' (G + 1000) i = 0) ∧ (∀ x y, x < nC μ s → y < nR μ s → ahd (nR μ s) (nC μ s * nR μ s - i) x y → κ' (G + 1000) (10 * x + y) = κ1 (G + 1000) (10 * x + y)) ∧ (∀ x y, x < nC μ s → y < nR μ s → ¬ ahd (nR μ s) (nC μ s * nR μ s - i) x y → (κ1 (G + 1000) (10 * x + y)).toInt ≤ (κ' (G + 1000) (10 * x + y)).toInt ∧ (κ' (G + 1000) (10 * x + y)).toInt ≤ zM ow (nC μ s) (nR μ s) x y ∧ (x + 1 < nC μ s → (κ' (G + 1000) (10 * (x + 1) + y)).toInt - 8 ≤ (κ' (G + 1000) (10 * x + y)).toInt) ∧ (y + 1 < nR μ s → (κ' (G + 1000) (10 * x + (y + 1))).toInt - 8 ≤ (κ' (G + 1000) (10 * x + y)).toInt)))
      (fun r : Unit × zzM × zzN => ∃ κ' : zzM, r = ((), κ', νc) ∧ (∀ o, o ≠ G + 1000 → κ' o = κ o) ∧ ∀ x y, x < nC μ s → y < nR μ s → (κ' (G + 1000) (10 * x + y)).toInt = zM ow (nC μ s) (nR μ s) x y)
      (nC μ s * nR μ s) (by omega) ?_ ?_ ?_
    · obtain ⟨r, e, hr⟩ := second
      exact ⟨r, by rw [e]; rfl, hr⟩
    · exact ⟨κ1, rfl, k1, k5, fun _ _ _ _ _ => rfl, fun x y hx hy h => absurd (ahd_N (by omega) hx) h⟩
    · rintro i hi st ⟨κ', rfl, j1, j2, j3, j4⟩
      show ∃ s', g_X7_tellSinking_112 _ _ _ _ _ _ = _ ∧ _
      unfold g_X7_tellSinking_112
      dsimp only
      obtain ⟨p, hp⟩ : ∃ p, nC μ s * nR μ s - i = p + 1 := ⟨nC μ s * nR μ s - i - 1, by omega⟩
      have hp2 : nC μ s * nR μ s - (i + 1) = p := by omega
      rw [hp] at j3 j4
      have hpl : p < nC μ s * nR μ s := by omega
      have hX : p / nR μ s < nC μ s := by rw [Nat.div_lt_iff_lt_mul (by omega)]; exact hpl
      have hY : p % nR μ s < nR μ s := Nat.mod_lt _ (by omega)
      rw [hp, on_p _ (by omega), Nat.add_sub_cancel, if_neg (on_nn p (by omega)), cg a8, cg a4, ec_cellAt A' hB' (hRF _ j1) (by omega), zb_s]
      have hn : ¬ ahd (nR μ s) p (p / nR μ s) (p % nR μ s) := by unfold ahd; omega
      have hs1 : ∀ x y, y < nR μ s → (ahd (nR μ s) (p + 1) x y ↔ ahd (nR μ s) p x y ∨ (x = p / nR μ s ∧ y = p % nR μ s)) := fun x y hy => ahd_s (by omega) hy
      have hal : ∀ x y, ahd (nR μ s) p x y ↔ (x < p / nR μ s ∨ (x = p / nR μ s ∧ y < p % nR μ s)) := fun x y => Iff.rfl
      rw [hp2]
      generalize p / nR μ s = X at *
      generalize p % nR μ s = Y at *
      rw [cg gG, ec_at gG gG2, zb_s, cg gG, ec_at gG gG2, zb_s, cg gG, ec_at gG gG2, zb_s, cg gG, ec_put gG gG2 (by omega), zg1_s]
      have own0 := j3 X Y hX hY ((hs1 X Y hY).mpr (Or.inr ⟨rfl, rfl⟩))
      obtain ⟨f1, f2, -, -⟩ := k4 X Y hX hY
      have hw := how X Y hX hY
      have m0 := zM_0 (own := ow) (c := nC μ s) (r := nR μ s) (x := X) (y := Y)
      have hMu1 := hMu X Y hX hY
      have w1 : ∃ w : Int32, gAt κ' G (Int32.ofNat (10 * X + Y) + 10) = w ∧ 0 ≤ w.toInt ∧ w.toInt - 8 ≤ zM ow (nC μ s) (nR μ s) X Y ∧ (X + 1 < nC μ s → κ' (G + 1000) (10 * (X + 1) + Y) = w) := by
        refine ⟨_, rfl, ?_⟩
        rw [nlt10, on_a, gAt_o (by omega)]
        by_cases g : X + 1 < nC μ s
        · obtain ⟨t1, t2, -, -⟩ := j4 (X + 1) Y g hY (fun q => by rw [hs1 _ _ hY, hal] at q; omega)
          obtain ⟨u1, -, -, -⟩ := k4 (X + 1) Y g hY
          have t3 := (how (X + 1) Y g hY).1
          have t4 := zM_lip (own := ow) (c := nC μ s) (r := nR μ s) (x := X) (y := Y) (x' := X + 1) (y' := Y) (by unfold dst; rw [if_pos (Nat.le_refl _), if_pos (by omega)]; omega)
          rw [if_pos (by omega), show 10 * X + Y + 10 = 10 * (X + 1) + Y by omega]
          exact ⟨by omega, by omega, fun _ => rfl⟩
        · have z : (if 10 * X + Y + 10 < 56 then κ' (G + 1000) (10 * X + Y + 10) else 0) = 0 := by
            by_cases g2 : 10 * X + Y + 10 < 56
            · rw [if_pos g2]
              exact j2 _ g2 (by omega)
            · rw [if_neg g2]
          rw [z]
          exact ⟨by rw [i0]; omega, by rw [i0]; omega, fun q => absurd q g⟩
      have w2 : ∃ w : Int32, gAt κ' G (Int32.ofNat (10 * X + Y) + 1) = w ∧ 0 ≤ w.toInt ∧ w.toInt - 8 ≤ zM ow (nC μ s) (nR μ s) X Y ∧ (Y + 1 < nR μ s → κ' (G + 1000) (10 * X + (Y + 1)) = w) := by
        refine ⟨_, rfl, ?_⟩
        rw [on_s, gAt_o (by omega)]
        by_cases g : Y + 1 < nR μ s
        · obtain ⟨t1, t2, -, -⟩ := j4 X (Y + 1) hX g (fun q => by rw [hs1 _ _ g, hal] at q; omega)
          obtain ⟨u1, -, -, -⟩ := k4 X (Y + 1) hX g
          have t3 := (how X (Y + 1) hX g).1
          have t4 := zM_lip (own := ow) (c := nC μ s) (r := nR μ s) (x := X) (y := Y) (x' := X) (y' := Y + 1) (by unfold dst; rw [if_pos (Nat.le_refl _), if_pos (by omega)]; omega)
          rw [if_pos (by omega)]
          exact ⟨by show 0 ≤ (κ' (G + 1000) (10 * X + (Y + 1))).toInt; omega, by show (κ' (G + 1000) (10 * X + (Y + 1))).toInt - 8 ≤ _; omega, fun _ => rfl⟩
        · have z : (if 10 * X + Y + 1 < 56 then κ' (G + 1000) (10 * X + Y + 1) else 0) = 0 := by
            by_cases g2 : 10 * X + Y + 1 < 56
            · rw [if_pos g2]
              exact j2 _ g2 (by omega)
            · rw [if_neg g2]
          rw [z]
          exact ⟨by rw [i0]; omega, by rw [i0]; omega, fun q => absurd q g⟩
      obtain ⟨wa, e1, p1, p2, p3⟩ := w1
      obtain ⟨wb, e2, q1, q2, q3⟩ := w2
      rw [e1, e2, gAt_i (by omega), own0]
      have hv : (zz_max (κ1 (G + 1000) (10 * X + Y)) (zz_max wa wb - 8)).toInt = max (κ1 (G + 1000) (10 * X + Y)).toInt (max wa.toInt wb.toInt - 8) := by
        have b1 : (zz_max wa wb).toInt = max wa.toInt wb.toInt := max_I _ _
        rw [max_I, sub_I _ _ (by rw [b1, i8]; omega) (by rw [b1, i8]; omega), b1, i8]
      generalize zz_max (κ1 (G + 1000) (10 * X + Y)) (zz_max wa wb - 8) = nv at hv ⊢
      have hst : Int32.ofNat p + -1 = Int32.ofNat p - 1 := (Int32.sub_eq_add_neg _ _).symm
      refine ⟨_, rfl, _, by rw [hst], fun o ho => by rw [zset_o ho]; exact j1 o ho, fun i hi hni => ?_, fun x y hx hy h => ?_, fun x y hx hy h => ?_⟩
      · rw [zset_e (fun q => hni (by rw [q.2]; omega))]
        exact j2 i hi hni
      · rw [zset_e (by rw [hal] at h; omega)]
        exact j3 x y hx hy ((hs1 x y hy).mpr (Or.inl h))
      · by_cases g : x = X ∧ y = Y
        · obtain ⟨rfl, rfl⟩ := g
          rw [zset_h, hv]
          refine ⟨by omega, by omega, fun hx1 => ?_, fun hy1 => ?_⟩
          · rw [zset_e (by omega), p3 hx1]; omega
          · rw [zset_e (by omega), q3 hy1]; omega
        · have h2 : ¬ ahd (nR μ s) (p + 1) x y := fun q => ((hs1 x y hy).mp q).elim h g
          obtain ⟨t1, t2, t3, t4⟩ := j4 x y hx hy h2
          rw [hal] at h
          rw [zset_e (by omega)]
          refine ⟨t1, t2, fun hx1 => ?_, fun hy1 => ?_⟩
          · rw [zset_e (by omega)]; exact t3 hx1
          · rw [zset_e (by omega)]; exact t4 hy1
    · rintro st ⟨κ', rfl, j1, j2, j3, j4⟩
      show ∃ r, g_X7_tellSinking_112 _ _ _ _ _ _ = _ ∧ _
      unfold g_X7_tellSinking_112
      dsimp only
      rw [Nat.sub_self] at j4 ⊢
      rw [if_pos (by decide)]
      refine ⟨_, rfl, κ', rfl, j1, fun x y hx hy => ?_⟩
      have j5 := fun x y hx hy => j4 x y hx hy (ahd_0 (by omega))
      exact twice (own := ow) (F := fun x y => (κ1 (G + 1000) (10 * x + y)).toInt) (B := fun x y => (κ' (G + 1000) (10 * x + y)).toInt) (c := nC μ s) (r := nR μ s) (fun x y hx hy => (k4 x y hx hy).1) (fun x y hx hy => (k4 (x + 1) y hx hy).2.2.1 x rfl) (fun x y hx hy => (k4 x (y + 1) hx hy).2.2.2 y rfl) (fun x y hx hy => (j5 x y hx hy).1) (fun x y hx hy => (j5 x y (by omega) hy).2.2.1 hx) (fun x y hx hy => (j5 x y hx (by omega)).2.2.2 hy) (fun x y hx hy => by have h1 := (j5 x y hx hy).1; have h2 := (k4 x y hx hy).1; have h3 := (how x y hx hy).1; show 0 ≤ (κ' (G + 1000) (10 * x + y)).toInt; omega) (fun x y hx hy => (j5 x y hx hy).2.1) hx hy
end ZSB
