section ZYD
/-! the pure part: the start, and every call -/
theorem pure_at {t0 base am ao an : Nat} {j : Nat} (hj : j < 512) {h : zz_H} {n : Nat} (J : Jx t0 base am ao an (20000 * (j : Int)) h n) (k : Nat) (x1 x2 x3 x4 : Int32) : w_at k t0 base am ao an x1 x2 x3 x4 h n (Jx t0 base am ao an (20000 * ((j + 1 : Nat) : Int))) := by
  obtain ⟨ad, iv, lv, κ, νc, μ, ν, nS, nB, nK, S, R, V⟩ := J
  have e : (20000 * ((j + 1 : Nat) : Int)) = 20000 * (j : Int) + 20000 := by omega
  rw [e]
  have hH0 : (0 : Int) ≤ 20000 * (j : Int) := by omega
  have hH9 : 20000 * (j : Int) + 20000 ≤ 100000000 := by omega
  generalize (20000 * (j : Int)) = H at R hH0 hH9 ⊢
  unfold w_at
  split
  · exact cw_0 S R V hH9 x1 x2 x3 x4
  · exact cw_1 S R V hH9 x1 x2 x3 x4
  · exact cw_2 S R V hH9 x1 x2 x3 x4
  · exact cw_3 S R V hH9 x1 x2 x3 x4
  · exact cw_4 S R V hH9 x1 x2 x3 x4
  · exact cw_5 S R V hH9 x1 x2 x3 x4
  · exact cw_6 S R V hH0 hH9 x1 x2 x3 x4
  · exact cw_7 S R V hH9 x1 x2 x3 x4
  · exact cw_8 S R V hH9 x1 x2 x3 x4
  · exact cw_9 S R V hH9 x1 x2 x3 x4
  · exact cw_10 S R V hH9 x1 x2 x3 x4
  · exact cw_11 S R V hH9 x1 x2 x3 x4
  · exact cw_12 S R V hH9 x1 x2 x3 x4
  · exact cw_13 S R V hH9 x1 x2 x3 x4
  · exact cw_14 S R V hH9 x1 x2 x3 x4
  · exact cw_15 S R V hH9 x1 x2 x3 x4
  · exact cw_16 S R V hH9 x1 x2 x3 x4
  · exact cw_17 S R V hH9 x1 x2 x3 x4
  · exact cw_18 S R V hH9 x1 x2 x3 x4
  · exact cw_19 S R V hH9 x1 x2 x3 x4
  · exact cw_20 S R V hH9 x1 x2 x3 x4
  · exact cw_21 S R V hH9 x1 x2 x3 x4
  · exact cw_22 S R V hH9 x1 x2 x3 x4
  · exact cw_23 S R V hH9 x1 x2 x3 x4
  · exact cw_24 S R V hH9 x1 x2 x3 x4
  · exact cw_25 S R V hH9 x1 x2 x3 x4
  · exact cw_26 S R V hH9 x1 x2 x3 x4
  · exact cw_27 S R V hH9 x1 x2 x3 x4
  · exact cw_28 S R V hH9 x1 x2 x3 x4
  · exact cw_29 S R V hH9 x1 x2 x3 x4
  · exact cw_30 S R V hH9 x1 x2 x3 x4
  · exact cw_31 S R V hH9 x1 x2 x3 x4
  · exact cw_32 S R V hH9 x1 x2 x3 x4
  · exact cw_33 S R V hH9 x1 x2 x3 x4
  · exact cw_34 S R V hH9 x1 x2 x3 x4
  · exact cw_35 S R V hH9 x1 x2 x3 x4
  · exact cw_36 S R V hH9 x1 x2 x3 x4
  · exact cw_37 S R V hH9 x1 x2 x3 x4
  · exact cw_38 S R V hH9 x1 x2 x3 x4
  · exact cw_39 S R V hH9 x1 x2 x3 x4
  · exact cw_40 S R V hH9 x1 x2 x3 x4
  · exact cw_41 S R V hH9 x1 x2 x3 x4
  · exact cw_42 S R V hH9 x1 x2 x3 x4
  · exact cw_43 S R V hH9 x1 x2 x3 x4
  · exact cw_44 S R V hH9 x1 x2 x3 x4
  · exact ⟨ad, iv, lv, κ, νc, μ, ν, nS, nB, nK, S, RR_up (by omega) hH9 R, V⟩
theorem lw_pure_ok : lw_pure := fun t0 base ht => by
  obtain ⟨l, e1, X⟩ := x9 ht
  obtain ⟨h2, n2, e2, hn, Y⟩ := x10 (t0 := t0) (am := base + 14) (h := zz_u (AL t0 base l) (base + 14) (.inr (11, fsX (base + 14) 0))) zz_us
  subst hn
  refine ⟨AL t0 base l, h2, base + 14, base + 14 + 180, e1, e2, fun j => Jx t0 base (base + 14) (base + 14 + 180) (base + 14 + 180 + 1) (20000 * (j : Int)), ?_, fun j hj h n J k x1 x2 x3 x4 => pure_at hj J k x1 x2 x3 x4⟩
  have e : (20000 : Int) * ((0 : Nat) : Int) = 0 := by omega
  show Jx t0 base (base + 14) (base + 14 + 180) (base + 14 + 180 + 1) ((20000 : Int) * ((0 : Nat) : Int)) _ _
  rw [e]
  exact ⟨adI base, ivI base, lvI, ka0, nu0, mu0, nu0, 0, 0, 0, S0_0 ht X Y, RR_0, LV_0⟩
end ZYD
