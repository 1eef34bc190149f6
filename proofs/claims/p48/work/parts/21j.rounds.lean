section ZLJ
variable {t0 base b L : Nat} {xs : Nat → Int32} {ow ow' : zz_H} {μ μ' : zzM} {ν ν' : zzN} {H : Int} {nK : Nat} {h h' : zz_H} {n n' : Nat} {c r d l lc hs : Nat} {la sg : Int32}
def sT (μ : zzM) (ν : zzN) (r X : Nat) : Int32 := zfd (fun x a => zfd (fun y b => b + tTop μ ν 0 x y) a r) 0 X
def mX (μ : zzM) (ν : zzN) (r X : Nat) : Int32 := zfd (fun x a => zfd (fun y b => zz_max b (tTop μ ν 0 x y)) a r) 0 X
def A_1612 (t0 base b L : Nat) (xs : Nat → Int32) (B : Nat) (x0 x1 : Nat) (x2 x3 : Int32) (x6 x7 x8 : Nat) (x9 x12 : Int32) (x13 x14 x15 x16 : Nat) (x20 x21 x22 x23 x24 x25 x26 : Int32) (h : zz_H) (n : Nat) : Prop :=
  ∃ μ ν c r lc k hs tol d la sg X, Rnd t0 base b L xs μ ν c r lc k hs tol d la sg x0 x1 x2 x3 x6 x7 x8 x9 x12 x13 x14 x15 x16 x20 x22 x23 h n ∧ Clo μ k d la sg x20 x21 x22 ∧ k < 4 ∧ x26 = Int32.ofNat X ∧ X ≤ c ∧ x24 = sT μ ν r X ∧ x25 = mX μ ν r X ∧ 6 * (4 - X) + 3 + (30 * (4 - (k + 1)) + 2) ≤ B
def A_1621 (t0 base b L : Nat) (xs : Nat → Int32) (B : Nat) (x0 x1 : Nat) (x2 x3 : Int32) (x6 x7 x8 : Nat) (x9 x12 : Int32) (x13 x14 x15 x16 : Nat) (x20 x21 x22 x23 x24 x25 x26 x27 : Int32) (h : zz_H) (n : Nat) : Prop :=
  ∃ μ ν c r lc k hs tol d la sg X Y, Rnd t0 base b L xs μ ν c r lc k hs tol d la sg x0 x1 x2 x3 x6 x7 x8 x9 x12 x13 x14 x15 x16 x20 x22 x23 h n ∧ Clo μ k d la sg x20 x21 x22 ∧ k < 4 ∧ x26 = Int32.ofNat X ∧ X < c ∧ x27 = Int32.ofNat Y ∧ Y ≤ r ∧ x24 = zfd (fun y b => b + tTop μ ν 0 X y) (sT μ ν r X) Y ∧ x25 = zfd (fun y b => zz_max b (tTop μ ν 0 X y)) (mX μ ν r X) Y ∧ (4 - Y) + 1 + (6 * (4 - (X + 1)) + 3 + (30 * (4 - (k + 1)) + 2)) ≤ B
def A_1831 (t0 base b L : Nat) (xs : Nat → Int32) (B : Nat) (x0 x1 : Nat) (x2 x3 : Int32) (x6 x7 x8 : Nat) (x9 x12 : Int32) (x13 x14 x15 x16 : Nat) (x20 x21 x22 x23 x24 x25 : Int32) (h : zz_H) (n : Nat) : Prop :=
  ∃ μ ν c r lc k hs tol d la sg, Rnd t0 base b L xs μ ν c r lc k hs tol d la sg x0 x1 x2 x3 x6 x7 x8 x9 x12 x13 x14 x15 x16 x20 x22 x23 h n ∧ Clo μ k d la sg x20 x21 x22 ∧ k < 4 ∧ x24 = tSum μ 0 (tTop μ ν 0) ∧ x25 = tMax μ ν 0 ∧ 2 + (30 * (4 - (k + 1)) + 2) ≤ B
def A_1935 (t0 base b L : Nat) (xs : Nat → Int32) (B : Nat) (x0 x1 : Nat) (x2 x3 : Int32) (x6 x7 x8 : Nat) (x9 x12 : Int32) (x13 x14 x15 x16 : Nat) (x20 x21 x22 x23 x24 : Int32) (h : zz_H) (n : Nat) : Prop :=
  ∃ μ ν c r lc k hs tol d sg, Rnd t0 base b L xs μ ν c r lc k hs tol d 99 sg x0 x1 x2 x3 x6 x7 x8 x9 x12 x13 x14 x15 x16 x20 x22 x23 h n ∧ k < 4 ∧ x20 = μ 144 0 ∧ x21 = μ 145 0 ∧ x22 = μ 146 0 ∧ x24 = tSum μ 0 (tTop μ ν 0) ∧ 1 + (30 * (4 - (k + 1)) + 2) ≤ B
def A_2277 (t0 base : Nat) (B : Nat) (x1 : Nat) (h : zz_H) (n : Nat) : Prop := ∃ ow μ ν H, x1 = base ∧ JJ t0 base ow μ ν 1 1 H h n ∧ tLast μ 0 = 99 ∧ 1 ≤ B
theorem z_1612 (x0 x1 : Nat) (x2 x3 : Int32) (x6 x7 x8 : Nat) (x9 x12 : Int32) (x13 x14 x15 x16 : Nat) (x20 x21 x22 x23 x24 x25 x26 : Int32) (h : zz_H) (n : Nat) : ¬ A_1612 t0 base b L xs 0 x0 x1 x2 x3 x6 x7 x8 x9 x12 x13 x14 x15 x16 x20 x21 x22 x23 x24 x25 x26 h n := by
  rintro ⟨μ, ν, c, r, lc, k, hs, tol, d, la, sg, X, -, -, -, -, -, -, -, hB⟩
  omega
theorem z_1621 (x0 x1 : Nat) (x2 x3 : Int32) (x6 x7 x8 : Nat) (x9 x12 : Int32) (x13 x14 x15 x16 : Nat) (x20 x21 x22 x23 x24 x25 x26 x27 : Int32) (h : zz_H) (n : Nat) : ¬ A_1621 t0 base b L xs 0 x0 x1 x2 x3 x6 x7 x8 x9 x12 x13 x14 x15 x16 x20 x21 x22 x23 x24 x25 x26 x27 h n := by
  rintro ⟨μ, ν, c, r, lc, k, hs, tol, d, la, sg, X, Y, -, -, -, -, -, -, -, -, -, hB⟩
  omega
theorem z_1831 (x0 x1 : Nat) (x2 x3 : Int32) (x6 x7 x8 : Nat) (x9 x12 : Int32) (x13 x14 x15 x16 : Nat) (x20 x21 x22 x23 x24 x25 : Int32) (h : zz_H) (n : Nat) : ¬ A_1831 t0 base b L xs 0 x0 x1 x2 x3 x6 x7 x8 x9 x12 x13 x14 x15 x16 x20 x21 x22 x23 x24 x25 h n := by
  rintro ⟨μ, ν, c, r, lc, k, hs, tol, d, la, sg, -, -, -, -, -, hB⟩
  omega
theorem z_1935 (x0 x1 : Nat) (x2 x3 : Int32) (x6 x7 x8 : Nat) (x9 x12 : Int32) (x13 x14 x15 x16 : Nat) (x20 x21 x22 x23 x24 : Int32) (h : zz_H) (n : Nat) : ¬ A_1935 t0 base b L xs 0 x0 x1 x2 x3 x6 x7 x8 x9 x12 x13 x14 x15 x16 x20 x21 x22 x23 x24 h n := by
  rintro ⟨μ, ν, c, r, lc, k, hs, tol, d, sg, -, -, -, -, -, -, hB⟩
  omega
theorem z_2277 (x1 : Nat) (h : zz_H) (n : Nat) : ¬ A_2277 t0 base 0 x1 h n := by
  rintro ⟨ow, μ, ν, H, -, -, -, hB⟩
  omega
theorem b_1597 (B : Nat) (x0 x1 : Nat) (x2 x3 : Int32) (x6 x7 x8 : Nat) (x9 x12 : Int32) (x13 x14 x15 x16 : Nat) (x20 x21 x22 x23 : Int32) (h : zz_H) (n : Nat) (A : A_1597 t0 base b L xs (B + 1) x0 x1 x2 x3 x6 x7 x8 x9 x12 x13 x14 x15 x16 x20 x21 x22 x23 h n) : w_1597 t0 x0 x1 x2 x3 x6 x7 x8 x9 x12 x13 x14 x15 x16 x20 x21 x22 x23 h n (A_1612 t0 base b L xs B) (A_2277 t0 base B) := by
  obtain ⟨μ, ν, c, r, lc, k, hs, tol, d, la, sg, R, C, hB⟩ := A
  have R0 := R
  obtain ⟨e0, e1, e2, e3, e9, e12, e20, e22, e23, hlc, hd, hk, F, ⟨ow, ⟨J, eb, hL⟩, AA, LL, DD⟩, hν, o3, o8, o15⟩ := R
  unfold w_1597
  rw [e23, show (4 : Int32) = Int32.ofNat 4 from rfl, on_le _ _ (by omega) (by omega)]
  refine ⟨fun g => ?_, fun g => ?_⟩
  · rcases C with C | C
    · omega
    exact ⟨ow, μ, ν, _, e1, J, (Fa_la F).trans C.2.1, by omega⟩
  · exact ⟨μ, ν, c, r, lc, k, hs, tol, d, la, sg, 0, e23 ▸ R0, C, by omega, rfl, by omega, rfl, rfl, by omega⟩
theorem b_1612 (B : Nat) (x0 x1 : Nat) (x2 x3 : Int32) (x6 x7 x8 : Nat) (x9 x12 : Int32) (x13 x14 x15 x16 : Nat) (x20 x21 x22 x23 x24 x25 x26 : Int32) (h : zz_H) (n : Nat) (A : A_1612 t0 base b L xs (B + 1) x0 x1 x2 x3 x6 x7 x8 x9 x12 x13 x14 x15 x16 x20 x21 x22 x23 x24 x25 x26 h n) : w_1612 t0 x0 x1 x2 x3 x6 x7 x8 x9 x12 x13 x14 x15 x16 x20 x21 x22 x23 x24 x25 x26 h n (A_1621 t0 base b L xs B) (A_1831 t0 base b L xs B) := by
  obtain ⟨μ, ν, c, r, lc, k, hs, tol, d, la, sg, X, R, C, hk, rfl, hX, rfl, rfl, hB⟩ := A
  have F : Fa μ c r d lc la sg := R.2.2.2.2.2.2.2.2.2.2.2.2.1
  have e2 : x2 = Int32.ofNat c := R.2.2.1
  have hc4 := F.2.2.1
  have hr4 := F.2.2.2.1
  unfold w_1612
  rw [show (x2 ≤ Int32.ofNat X) = (c ≤ X) by rw [e2, on_le _ _ (by omega) (by omega)]]
  refine ⟨fun g => ?_, fun g => ?_⟩
  · have g : X = c := by omega
    subst g
    refine ⟨μ, ν, X, r, lc, k, hs, tol, d, la, sg, R, C, hk, ?_, ?_, by omega⟩
    · unfold tSum sT
      rw [Fa_C F, Fa_R F]
    · unfold tMax mX
      rw [Fa_C F, Fa_R F]
  · exact ⟨μ, ν, c, r, lc, k, hs, tol, d, la, sg, X, 0, R, C, hk, rfl, by omega, rfl, by omega, rfl, rfl, by omega⟩
theorem b_1621 (B : Nat) (x0 x1 : Nat) (x2 x3 : Int32) (x6 x7 x8 : Nat) (x9 x12 : Int32) (x13 x14 x15 x16 : Nat) (x20 x21 x22 x23 x24 x25 x26 x27 : Int32) (h : zz_H) (n : Nat) (A : A_1621 t0 base b L xs (B + 1) x0 x1 x2 x3 x6 x7 x8 x9 x12 x13 x14 x15 x16 x20 x21 x22 x23 x24 x25 x26 x27 h n) : w_1621 t0 x0 x1 x2 x3 x6 x7 x8 x9 x12 x13 x14 x15 x16 x20 x21 x22 x23 x24 x25 x26 x27 h n (A_1612 t0 base b L xs B) (A_1621 t0 base b L xs B) := by
  obtain ⟨μ, ν, c, r, lc, k, hs, tol, d, la, sg, X, Y, R, C, hk, rfl, hX, rfl, hY, rfl, rfl, hB⟩ := A
  have R0 := R
  obtain ⟨rfl, rfl, rfl, rfl, e9, rfl, rfl, e22, e23, hlc, hd, hk4, F, ⟨ow, ⟨J, eb, hL⟩, AA, LL, DD⟩, hν, o3, o8, o15⟩ := R
  have hc4 := F.2.2.1
  have hr4 := F.2.2.2.1
  unfold w_1621
  rw [on_le _ _ (by omega) (by omega)]
  refine ⟨fun g => ?_, fun g => ?_⟩
  · have g : Y = r := by omega
    subst g
    rw [on_s]
    exact ⟨μ, ν, c, Y, lc, k, hs, tol, d, la, sg, X + 1, R0, C, hk, rfl, by omega, rfl, rfl, by omega⟩
  · have hn := hn3 J F hd.1
    rw [show (10 : Int32) * Int32.ofNat X + Int32.ofNat Y = Int32.ofNat (10 * X + Y) by rw [nlt10, on_m, on_a]]
    refine ⟨_, _, r_1627 J AA LL DD (by omega) (by omega) (Fa_L F) (by omega) hn (by omega) hν hX (by omega), ?_⟩
    refine zlw JJ_n (cv_stands J (em_stands_v (JJ_q J) (x := X) (y := Y) (by rw [Fa_C F]; omega) (by rw [Fa_R F]; omega)) J.1) (fun h1 n1 J1 => ⟨rfl, ?_⟩)
    refine zlw JJ_n (cv_top J1 (em_top_v (JJ_q J1) (x := X) (y := Y) (by rw [Fa_C F]; omega) (by rw [Fa_R F]; omega)) J1.1) (fun h2 n2 J2 => ⟨rfl, ?_⟩)
    rw [on_s]
    have fin : A_1621 t0 x1 x0 L xs B x0 x1 (Int32.ofNat c) (Int32.ofNat r) x6 x7 x8 x9 (Int32.ofNat lc) x13 x14 x15 x16 (Int32.ofNat hs) x21 x22 x23 (zfd (fun y b => b + tTop μ ν 0 X y) (sT μ ν r X) Y + tTop μ ν 0 X Y) (zz_max (zfd (fun y b => zz_max b (tTop μ ν 0 X y)) (mX μ ν r X) Y) (tTop μ ν 0 X Y)) (Int32.ofNat X) (Int32.ofNat (Y + 1)) h2 n2 :=
      ⟨μ, ν, c, r, lc, k, hs, tol, d, la, sg, X, Y + 1, ⟨rfl, rfl, rfl, rfl, e9, rfl, rfl, e22, e23, hlc, hd, hk4, F, ⟨ow, ⟨J2, eb, hL⟩, AA, LL, DD⟩, hν, o3, o8, o15⟩, C, hk, rfl, hX, rfl, by omega, rfl, rfl, by omega⟩
    unfold f_L_law_1796 f_L_law_1817
    rw [← mx_f] at fin
    by_cases g2 : tTop μ ν 0 X Y ≤ zfd (fun y b => zz_max b (tTop μ ν 0 X y)) (mX μ ν r X) Y
    · rw [if_pos g2] at fin ⊢
      exact ⟨_, _, rfl, fin⟩
    · rw [if_neg g2] at fin ⊢
      exact ⟨_, _, rfl, fin⟩
theorem b_2277 (B : Nat) (x1 : Nat) (h : zz_H) (n : Nat) (A : A_2277 t0 base (B + 1) x1 h n) : w_2277 t0 x1 h n (fun _ _ => True) := by
  obtain ⟨ow, μ, ν, H, rfl, J, hl, -⟩ := A
  obtain ⟨h', e1, J1⟩ := cv_sound J
  exact ⟨by decide, JJ_base J, _, cv_share J hl, share_1, JJ_base J, _, _, e1, by decide, trivial⟩
end ZLJ
