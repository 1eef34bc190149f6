section ZXK
/-! bounds of what a cell names -/
variable {ad : Nat → Nat} {iv : Nat → Option Nat} {lv : Nat → Bool} {t0 base : Nat} {ow : zz_H} {κ κ' : zzM} {νc νc' : zzN} {μ μ' : zzM} {ν ν' : zzN} {H : Int} {nS nB nK : Nat} {h h1 : zz_H} {n n1 : Nat}
theorem LV_s (V : LV lv nS) {s o : Nat} (hs : s < 4) (ho : FK (100 * (s + 1)) o) (hl : lv o = true) : s < nS := by
  refine Nat.not_le.mp fun q => ?_
  rw [V s q hs o ho] at hl
  cases hl
theorem cnt4 (R : RR lv κ νc μ ν H nS nB nK) (V : LV lv nS) {L : Nat} (hL : co L = 0) (hl : lv (L + 1000) = true) : (κ L 2).toNatClampNeg ≤ 4 := by
  have b4 := R.1.2.1
  have b3 := R.1.2.2.1
  have k4 := R.1.2.2.2.1
  obtain ⟨g1, g2, g3, g4, -⟩ := R.2.1
  rcases (co_loc (o := L)).2.2.2.2.2.2.2.2 hL with q | q
  · rcases (show L = 1 ∨ L = 2 ∨ L = 3 ∨ L = 4 by omega) with rfl | rfl | rfl | rfl
    · rw [g1.2.1, on_n _ (by omega)]; exact b4
    · rw [g2.2.1, on_n _ (by omega)]; omega
    · rw [g3.2.1, on_n _ (by omega)]; exact k4
    · rw [g4.2.1, on_n _ (by omega)]; decide
  · obtain ⟨s, hs, rfl⟩ : ∃ s, s < 4 ∧ L = 100 * (s + 1) + 5 + 1 := ⟨L / 100 - 1, by omega, by omega⟩
    have hn := LV_s V hs (o := 100 * (s + 1) + 5 + 1 + 1000) (by unfold FK; omega) hl
    obtain ⟨A, hB, -, -, -, -, -, -, -, -, -, hA, -⟩ := R.2.2.1 s hn
    rw [hA.2.2.1, hB.2.2.2.2.1, on_n _ (by have := hB.2.2.2.2.2; omega)]
    exact hB.2.2.2.2.2
theorem cl4 (R : RR lv κ νc μ ν H nS nB nK) (V : LV lv nS) {o x : Nat} (ho : co o = 2) (hl : lv o = true) (h : clothv (κ o 3) = some x) : 700 ≤ x ∧ x < 700 + nK := by
  have k4 := R.1.2.2.2.1
  have q := (co_loc (o := o)).2.2.2.2.2.2.1 ho
  obtain ⟨s, hs, rfl⟩ : ∃ s, s < 4 ∧ o = 100 * (s + 1) + 8 := ⟨o / 100 - 1, by omega, by omega⟩
  have hn := LV_s V hs (o := 100 * (s + 1) + 8) (by unfold FK; omega) hl
  obtain ⟨A, hB, -, -, -, -, -, -, -, -, -, -, -, -, hC, -⟩ := R.2.2.1 s hn
  by_cases g : tLast μ s = 99
  · obtain ⟨j, mt, hj, w1, -⟩ := R.2.2.2.2.2.2.2.2.2.1 s hn g
    rw [w1] at h
    unfold clothv at h
    rw [if_neg (show ¬ Int32.ofNat (j + 1) = 0 from pne (b := 0) (by omega)), on_n _ (by omega)] at h
    cases h
    omega
  · rw [hC.2.2.2.2.2 g] at h
    cases h
theorem gr_cell {o : Nat} (ho : co o = 5) : cCell ad t0 κ νc o = some (.inr (5, [.ref (ad (o + 1000))])) := by
  have := co_lt (o := o) (by rw [ho]; decide)
  unfold cCell
  rw [if_pos (by omega), ho, if_neg (by decide)]
  rfl
theorem ar_cell {o t m : Nat} (h0 : 1000 ≤ o) (ho : cIs o = some (t, m)) : cCell ad t0 κ νc o = some (zz_I t m (κ o)) := by
  unfold cCell
  rw [if_neg (by omega), ho]
/-- an old cell that isn't the list's, nor its array's -/
theorem old_c {nw : Nat → Bool} {ad2 : Nat → Nat} {o : Nat} (R : RR lv κ νc μ ν H nS nB nK) (V : LV lv nS) (hl : lv o = true) (k1 : κ' o = κ o) (k2 : νc' o = νc o) (kL : ∀ L, L + 1000 = o → co L = 0 → κ' L 2 = κ L 2) (c : ∀ L i, L + 1000 = o → co L = 0 → i < 4 → nw (child L i) = false) (k4 : o < 1000 → ∀ x, subs κ o x → (co o = 2 → x ≠ o + 1000 → 700 ≤ x ∧ x < 700 + nK) → nw x = false) : cCell (adN nw ad2 ad) t0 κ' νc' o = cCell ad t0 κ νc o := by
  refine cCell_c k1 k2 (fun a1 a2 a3 => ?_) (fun a1 x hx => ?_)
  · have e : o - 1000 + 1000 = o := by omega
    refine ⟨kL _ e a3, fun i hi => ?_⟩
    have := cnt4 R V a3 (by rw [e]; exact hl)
    unfold adN
    rw [if_neg (by rw [c _ i e a3 (by omega)]; decide)]
  · unfold adN
    rw [if_neg (by
      rw [k4 a1 x hx (fun g2 hx2 => ?_)]
      · decide
      · unfold subs at hx
        rcases hx with q | q | q | q | q | q | q
        · rw [g2] at q; exact absurd q.1 (by decide)
        · rw [g2] at q; exact absurd q.1 (by decide)
        · rw [g2] at q; exact absurd q.1 (by decide)
        · exact absurd q.2 hx2
        · rw [g2] at q; exact absurd q.1 (by decide)
        · exact cl4 R V g2 hl q.2
        · rw [g2] at q; exact absurd q.1 (by decide))]
end ZXK
