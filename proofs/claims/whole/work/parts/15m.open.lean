section ZWM
/-! open -/
variable {lv : Nat → Bool} {κ κ' : zzM} {νc νc' : zzN} {μ μ' : zzM} {ν ν' : zzN} {H H' : Int} {nS nB nK : Nat}
/-- two loops of the same length -/
theorem zit_2 {σ τ γ δ : Type} {b : σ → Option (σ ⊕ γ)} {b' : τ → Option (τ ⊕ δ)} (I : Nat → σ → τ → Prop) (Q : γ → δ → Prop) (N : Nat) (hN : N < 100000) {s : σ} {t : τ} (h0 : I 0 s t) (h1 : ∀ i, i < N → ∀ s t, I i s t → ∃ s' t', b s = some (.inl s') ∧ b' t = some (.inl t') ∧ I (i + 1) s' t') (h2 : ∀ s t, I N s t → ∃ r r', b s = some (.inr r) ∧ b' t = some (.inr r') ∧ Q r r') : ∃ r r', zz_it b zz_F s = some r ∧ zz_it b' zz_F t = some r' ∧ Q r r' := by
  have main : ∀ n, n ≤ N → ∃ (S : Nat → σ) (T : Nat → τ), S 0 = s ∧ T 0 = t ∧ (∀ i, i < n → b (S i) = some (.inl (S (i + 1))) ∧ b' (T i) = some (.inl (T (i + 1)))) ∧ I n (S n) (T n) := by
    intro n
    induction n with
    | zero => exact fun _ => ⟨fun _ => s, fun _ => t, rfl, rfl, fun i hi => absurd hi (Nat.not_lt_zero i), h0⟩
    | succ n ih =>
      intro hn
      obtain ⟨S, T, e1, e2, e3, e4⟩ := ih (by omega)
      obtain ⟨s', t', q1, q2, q3⟩ := h1 n (by omega) _ _ e4
      refine ⟨fun i => if i ≤ n then S i else s', fun i => if i ≤ n then T i else t', ?_, ?_, fun i hi => ?_, ?_⟩
      · show (if 0 ≤ n then S 0 else s') = s
        rw [if_pos (by omega), e1]
      · show (if 0 ≤ n then T 0 else t') = t
        rw [if_pos (by omega), e2]
      · show b (if i ≤ n then S i else s') = some (.inl (if i + 1 ≤ n then S (i + 1) else s')) ∧ b' (if i ≤ n then T i else t') = some (.inl (if i + 1 ≤ n then T (i + 1) else t'))
        rw [if_pos (show i ≤ n by omega), if_pos (show i ≤ n by omega)]
        by_cases g : i + 1 ≤ n
        · rw [if_pos g, if_pos g]
          exact e3 i (by omega)
        · rw [if_neg g, if_neg g]
          have : i = n := by omega
          subst this
          exact ⟨q1, q2⟩
      · show I (n + 1) (if n + 1 ≤ n then S (n + 1) else s') (if n + 1 ≤ n then T (n + 1) else t')
        rw [if_neg (by omega), if_neg (by omega)]
        exact q3
  obtain ⟨S, T, e1, e2, e3, e4⟩ := main N (Nat.le_refl _)
  obtain ⟨r, r', q1, q2, q3⟩ := h2 _ _ e4
  refine ⟨r, r', ?_, ?_, q3⟩
  · rw [← e1]
    exact zfor N S (fun i hi => (e3 i hi).1) q1 hN
  · rw [← e2]
    exact zfor N T (fun i hi => (e3 i hi).2) q2 hN
theorem op_open (R : RR lv κ νc μ ν H nS nB nK) (x1 x2 : Int32) : Op1 lv H nS nB nK cd_open (g_X9_open lv 0 x1 x2 κ νc) (g_X10_open x1 x2 μ ν) := by
  have r0 := R.1.1
  have h30 := R.1.2.2.2.2.2.1
  have h4 := R.1.2.1
  have hHH := R.1.2.2.2.2.1
  unfold g_X9_open g_X10_open g_X10_open_33 g_X10_open_40
  rcases ix_cases x1 nS (by omega) with h | ⟨s, hs, rfl⟩
  · exact Op1_e R (by rw [cg r0, ec_seatOf1 R h, zth_r]) (by rw [em_noSeat1 h30 (by omega) h, zb_s, em_th1, zg1_s, if_neg (by decide)]) rfl (by decide)
  rw [cg r0, ec_seatOf0 R hs, zth_l, em_noSeat0 h30 (by omega) hs, zb_s, em_th0, zg1_s, if_pos rfl]
  have R1 := RR_t 0 R
  have z1 : zset μ 0 33 0 0 33 = 0 := zset_h
  clear R h30
  generalize zset μ 0 33 0 = m1 at R1 z1 ⊢
  have hs4 : s < 4 := by omega
  have Q1 := R1.2.2.1 s hs
  obtain ⟨A, hB, hF, hN, ⟨sg, hG⟩, ⟨t, b, c, hV, hz⟩, -⟩ := id Q1
  have hd := hB.2.2.2.1
  rw [cg A.1, cg A.2.2.2.2.1, hN.1, gi3 hs4, hd.1]
  rcases ix_cases x2 (nD m1 s + 1) (by omega) with h | ⟨d, hd1, rfl⟩
  · have h' : x2 < 0 ∨ (¬ x2 < 0 ∧ Int32.ofNat (nD m1 s) < x2) := by
      rcases h with h | ⟨h1, h2⟩
      · exact Or.inl h
      · refine Or.inr ⟨h1, ?_⟩
        have q := on_pl x2 (nD m1 s + 1) (by omega)
        rw [on_p _ (by omega), Nat.add_sub_cancel] at q
        rw [q]
        exact h2
    refine Op1_e R1 (by rw [ec_ra1 h', zth_r]) (v := 0) (t := 2) ?_ rfl (by decide)
    rw [em_isIn, zb_s]
    rcases h' with h | ⟨h1, h2⟩
    · rw [if_pos h, if_pos rfl, em_th1, zg1_s, if_neg (by decide)]
    · rw [if_neg h1, if_pos h2, if_pos rfl, em_th1, zg1_s, if_neg (by decide)]
  have n1 : ¬ Int32.ofNat d < 0 := nlt (b := 0) (by omega)
  have n2 : ¬ Int32.ofNat (nD m1 s) < Int32.ofNat d := nlt (by omega)
  rw [ec_ra0 ⟨n1, n2⟩, zth_l, em_isIn, if_neg n1, if_neg n2, zb_s, if_neg (by decide), em_thz _ z1, zg1_s, if_pos rfl, gi3 hs4, hd.1, cg A.1]
  unfold g_X7_openTo
  rw [cg A.1, cg A.2.2.2.2.1, hN.1, hd.1, show Int32.ofNat (nD m1 s) - Int32.ofNat d = Int32.ofNat (nD m1 s - d) from (Int32.ofNat_sub _ _ (by omega)).symm]
  obtain ⟨N0, hN0⟩ : ∃ N0, N0 = nD m1 s := ⟨_, rfl⟩
  rw [← hN0]
  have main := zit_2 (b := fun s1 : (Int32 × zzM × zzN) => g_X7_openTo_12 lv (100 * (s + 1)) (Int32.ofNat (N0 - d)) s1.1 s1.2.1 s1.2.2) (b' := fun s1 : (zzM × zzN) => g_X10_open_51 (Int32.ofNat s) (Int32.ofNat d) (Int32.ofNat (N0 - d)) s1.1 s1.2) (s := ((0 : Int32), κ, νc)) (t := (m1, ν))
    (fun i a e => a.1 = Int32.ofNat i ∧ a.2.2 = νc ∧ e.2 = ν ∧ RS lv a.2.1 νc e.1 ν H (100 * (s + 1)) s ∧ nD e.1 s = N0 - i ∧ (∀ o, ¬ FK (100 * (s + 1)) o → a.2.1 o = κ o) ∧ (∀ o k, ¬ FP s o k → e.1 o k = m1 o k) ∧ (0 < i → ¬ tLast e.1 s = 99) ∧ (i = 0 → a.2.1 = κ ∧ e.1 = m1))
    (fun r r' => r.1 = Int32.ofNat (N0 - d) ∧ r.2.2 = νc ∧ r'.1 = Int32.ofNat (N0 - d) ∧ r'.2.2 = ν ∧ RS lv r.2.1 νc r'.2.1 ν H (100 * (s + 1)) s ∧ (∀ o, ¬ FK (100 * (s + 1)) o → r.2.1 o = κ o) ∧ (∀ o k, ¬ FP s o k → r'.2.1 o k = m1 o k) ∧ (¬ tLast r'.2.1 s = 99 ∨ (r.2.1 = κ ∧ r'.2.1 = m1)))
    (N0 - d) (by omega) ⟨rfl, rfl, rfl, Q1, hN0.symm, fun _ _ => rfl, fun _ _ _ => rfl, fun h => absurd h (by decide), fun _ => ⟨rfl, rfl⟩⟩ ?_ ?_
  · obtain ⟨⟨a1, a2, a3⟩, ⟨e1, e2, e3⟩, l1, l2, q1, q2, q3, q4, q5, q6, q7, q8⟩ := main
    dsimp only at q1 q2 q3 q4 q5 q6 q7 q8
    subst q1 q2 q3 q4
    have z2 : e2 0 33 = 0 := by rw [q7 _ _ (by unfold FP; omega)]; exact z1
    refine Op1_v (κ' := a2) (μ' := e2) ?_ z2 (by rw [l1, zg1_s]) (by rw [l2])
    rcases q8 with q8 | ⟨q8, q9⟩
    · exact RR_seat2 hs q6 (fun o _ => rfl) q7 (fun o _ => rfl) (Int.le_refl _) hHH R1 q5 (Or.inl q8)
    · subst q8 q9
      exact R1
  · rintro i hi ⟨a1, a2, a3⟩ ⟨e1, e2⟩ ⟨q1, q2, q3, q4, q5, q6, q7, q8, q9⟩
    dsimp only at q1 q2 q3 q4 q5 q6 q7 q8 q9
    subst q1 q2 q3
    have hB1 := q4.2.1
    have hx : ¬ e1 3 s ≤ Int32.ofNat d := by
      rw [hB1.2.2.2.1.1, q5]
      exact nle (by omega)
    obtain ⟨a, κ1, κ2, μ2, p1, p2, p3, p4, p5, p6, p7, p8⟩ := pop (Int32.ofNat d) (Int32.ofNat (N0 - d)) q4 hx (by omega)
    refine ⟨(Int32.ofNat (i + 1), κ2, a3), (μ2, e2), ?_, p3, rfl, rfl, rfl, p4, by dsimp only; omega, fun o ho => ?_, fun o k ho => ?_, fun _ => p6, fun h => absurd h (by omega)⟩
    · show g_X7_openTo_12 lv (100 * (s + 1)) (Int32.ofNat (N0 - d)) (Int32.ofNat i) a2 a3 = _
      unfold g_X7_openTo_12
      rw [if_neg (nle (by omega)), cg A.1, cg A.2.2.2.2.1, p1, zg1_s, cg A.1, p2, zg1_s, on_s]
    · show κ2 o = κ o
      rw [p7 o ho, q6 o ho]
    · show μ2 o k = m1 o k
      rw [p8 o k ho, q7 o k ho]
  · rintro ⟨a1, a2, a3⟩ ⟨e1, e2⟩ ⟨q1, q2, q3, q4, q5, q6, q7, q8, q9⟩
    dsimp only at q1 q2 q3 q4 q5 q6 q7 q8 q9
    subst q1 q2 q3
    have hB1 := q4.2.1
    refine ⟨(Int32.ofNat (N0 - d), a2, a3), (Int32.ofNat (N0 - d), e1, e2), ?_, ?_, rfl, rfl, rfl, rfl, q4, q6, q7, ?_⟩
    · show g_X7_openTo_12 lv (100 * (s + 1)) (Int32.ofNat (N0 - d)) (Int32.ofNat (N0 - d)) a2 a3 = _
      unfold g_X7_openTo_12
      rw [if_pos (ple (by omega))]
    · show g_X10_open_51 (Int32.ofNat s) (Int32.ofNat d) (Int32.ofNat (N0 - d)) e1 e2 = _
      unfold g_X10_open_51
      rw [gi3 hs4, hB1.2.2.2.1.1, q5, if_pos (ple (by omega))]
    · by_cases g : N0 - d = 0
      · exact Or.inr (q9 g)
      · exact Or.inl (q8 (by omega))
end ZWM
