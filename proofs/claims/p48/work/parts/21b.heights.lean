section ZLB
variable {t0 base b L : Nat} {xs : Nat → Int32} {ow ow' : zz_H} {μ μ' : zzM} {ν ν' : zzN} {H : Int} {nK : Nat} {h h' : zz_H} {n n' : Nat} {c r d l : Nat} {la sg : Int32}
theorem A2_w {a c r X : Nat} {g : Nat → Nat → Int32} {g' : Nat → Int32} (A : A2 ow a c r g) (hX : X < c) (A' : A1 ow' (a + 1 + X) 0 r g') (o : ∀ q, q ≠ a + 1 + X → ow' q = ow q) : A2 ow' a c r (fun x y => if x = X then g' y else g x y) := by
  refine ⟨(o a (by omega)).trans A.1, fun x hx => ?_⟩
  by_cases e : x = X
  · subst e
    exact A1_c A' (fun i hi => (if_pos rfl).symm)
  · exact A1_c (A1_f (A.2 x hx) (o _ (by omega))) (fun i hi => (if_neg e).symm)
def A_360 (t0 base b L : Nat) (xs : Nat → Int32) (B : Nat) (x0 x1 : Nat) (x2 x3 : Int32) (x6 x7 x8 : Nat) (h : zz_H) (n : Nat) : Prop :=
  ∃ c r ow μ ν, x0 = b ∧ x1 = base ∧ x2 = Int32.ofNat c ∧ x3 = Int32.ofNat r ∧ 144 ≤ B ∧ CX t0 base b L xs ow μ ν 0 0 h n ∧ Fa μ c r 2 0 115 0 ∧ Pb μ ∧ (∀ k, k < 6 → μ (74 + 0) k = 99 ∧ μ (79 + 0) k = 99) ∧ AR ow μ x6 x7 x8 c r ∧ b < x6
theorem b_210 (B : Nat) (x0 x1 : Nat) (x2 x3 x5 : Int32) (x6 x7 x8 : Nat) (x9 : Int32) (h : zz_H) (n : Nat) (A : A_210 t0 base b L xs (B + 1) x0 x1 x2 x3 x5 x6 x7 x8 x9 h n) : w_210 t0 x0 x1 x2 x3 x5 x6 x7 x8 x9 h n (A_226 t0 base b L xs B) (A_360 t0 base b L xs B) := by
  obtain ⟨c, r, X, ow, μ, ν, rfl, rfl, rfl, rfl, rfl, hX, h5, hB, ⟨J, eb, hL⟩, F, X0, P, a6, a7, a8, o1, o2, o3⟩ := A
  have hc4 := F.2.2.1
  have hr4 := F.2.2.2.1
  unfold w_210
  refine ⟨fun g => ?_, fun g => ?_⟩
  · have g : c ≤ X := by
      rw [on_le _ _ (by omega) (by omega)] at g
      exact g
    refine ⟨c, r, ow, μ, ν, rfl, rfl, rfl, rfl, by omega, ⟨J, eb, hL⟩, F, P, X0.2, ⟨A2_c a6 (fun x y hx hy => if_pos (by omega)), A1_c a7 (fun i hi => ?_), A1_c a8 (fun i hi => ?_), o1, o2⟩, o3⟩
    · rw [if_pos (by omega), (X0.2 i (by omega)).1]
    · rw [if_pos (by omega), (X0.2 i (by omega)).2]
  · have g : X < c := by
      rw [on_le _ _ (by omega) (by omega)] at g
      omega
    obtain ⟨ow1, h1, e1, J1, b1, w1⟩ := J_si J a7 (v := 99) g (by omega)
    refine zp_i e1 ?_
    refine ⟨c, r, X, 0, ow1, μ, ν, rfl, rfl, rfl, rfl, rfl, rfl, g, by omega, h5, by omega, ⟨J1, by rw [w1 _ (by omega)]; exact eb, hL⟩, F, X0, P, ?_, ?_, ?_, o1, o2, o3⟩
    · exact A2_c (A2_f a6 (fun q q1 q2 => w1 _ (by omega))) (fun x y hx hy => by
        by_cases k : x < X
        · rw [if_pos k, if_pos (Or.inl k)]
        · rw [if_neg k, if_neg (by omega)])
    · exact A1_c b1 (fun i hi => by
        by_cases k : i = X
        · rw [if_pos k, if_pos (by omega)]
        · rw [if_neg k]
          by_cases k2 : i < X
          · rw [if_pos k2, if_pos (by omega)]
          · rw [if_neg k2, if_neg (by omega)])
    · exact A1_c (A1_f a8 (w1 _ (by omega))) (fun i hi => by
        by_cases k : 0 < X
        · rw [if_pos k, if_pos (Or.inl k)]
        · rw [if_neg k, if_neg (by omega)])
theorem ix_e (a X Y : Nat) : Int32.ofNat a + 4 * Int32.ofNat X + Int32.ofNat Y = Int32.ofNat (a + 4 * X + Y) := by
  rw [nlt4, on_m, on_a, on_a]
theorem b_226 (B : Nat) (x0 x1 : Nat) (x2 x3 x5 : Int32) (x6 x7 x8 : Nat) (x9 x10 : Int32) (h : zz_H) (n : Nat) (A : A_226 t0 base b L xs (B + 1) x0 x1 x2 x3 x5 x6 x7 x8 x9 x10 h n) : w_226 t0 x0 x1 x2 x3 x5 x6 x7 x8 x9 x10 h n (A_210 t0 base b L xs B) (A_226 t0 base b L xs B) := by
  obtain ⟨c, r, X, Y, ow, μ, ν, rfl, rfl, rfl, rfl, rfl, rfl, hX, hY, h5, hB, ⟨J, eb, hL⟩, F, X0, P, a6, a7, a8, o1, o2, o3⟩ := A
  have hc4 := F.2.2.1
  have hr4 := F.2.2.2.1
  unfold w_226
  refine ⟨fun g => ?_, fun g => ?_⟩
  · have g : r ≤ Y := by
      rw [on_le _ _ (by omega) (by omega)] at g
      exact g
    rw [on_s]
    refine ⟨c, r, X + 1, ow, μ, ν, rfl, rfl, rfl, rfl, rfl, by omega, h5, by omega, ⟨J, eb, hL⟩, F, ⟨fun x y hx hy k => X0.1 x y hx hy (by omega), X0.2⟩, P, A2_c a6 (fun x y hx hy => ?_), A1_c a7 (fun i hi => ?_), A1_c a8 (fun i hi => ?_), o1, o2, o3⟩
    · by_cases k : x < X + 1
      · rw [if_pos k, if_pos (by omega)]
      · rw [if_neg k, if_neg (by omega)]
    · by_cases k : i < X + 1
      · rw [if_pos k, if_pos (by omega)]
      · rw [if_neg k, if_neg (by omega)]
    · rw [if_pos (by omega), if_pos (by omega)]
  · have g : Y < r := by
      rw [on_le _ _ (by omega) (by omega)] at g
      omega
    obtain ⟨ow1, h1, e1, J1, b8, w1⟩ := J_si J a8 (v := 99) g (by omega)
    refine zp_i e1 ?_
    have a6' := A2_f a6 (ow' := ow1) (fun q q1 q2 => w1 _ (by omega))
    refine zp_i (J_aq J1 a6' hX) ?_
    obtain ⟨ow2, h2, e2, J2, b6, w2⟩ := J_si J1 (a6'.2 X hX) (v := x5) g (by omega)
    refine zp_i e2 ?_
    have a6'' := A2_w a6' hX b6 w2
    have eb2 : ow2 x0 = some (zz_I 12 L xs) := by rw [w2 _ (by omega), w1 _ (by omega)]; exact eb
    have b7 := A1_f (A1_f a7 (w1 _ (by omega))) (w2 _ (by omega))
    have b8' := A1_f b8 (w2 _ (by omega))
    have i1 := ix_e 10 X Y
    have i2 := ix_e 30 X Y
    have i3 := ix_e 50 X Y
    rw [show (10 : Int32) + 4 * Int32.ofNat X + Int32.ofNat Y = Int32.ofNat (10 + 4 * X + Y) from i1, show (30 : Int32) + 4 * Int32.ofNat X + Int32.ofNat Y = Int32.ofNat (30 + 4 * X + Y) from i2, show (50 : Int32) + 4 * Int32.ofNat X + Int32.ofNat Y = Int32.ofNat (50 + 4 * X + Y) from i3, on_s]
    refine zp_i (J_in J2 eb2 hL (m := 2) (by omega) (by omega)) ?_
    have n8 : ∀ i, i < r → (if i = Y then (99 : Int32) else if 0 < X ∨ i < Y then 99 else 0) = if 0 < X ∨ i < Y + 1 then 99 else 0 := fun i hi => by
      by_cases k : i = Y
      · rw [if_pos k, if_pos (by omega)]
      · rw [if_neg k]
        by_cases k2 : 0 < X ∨ i < Y
        · rw [if_pos k2, if_pos (by omega)]
        · rw [if_neg k2, if_neg (by omega)]
    refine ⟨fun _ => ?_, fun _ => ?_⟩
    · refine zp_i (J_aq J2 a6'' hX) ?_
      refine zp_i (J_in J2 eb2 hL (m := 80) (by omega) (by omega)) ?_
      have hz := zin_lt (L := L) (xs := xs) (k := 30 + 4 * X + Y) (m := 80) (by omega)
      obtain ⟨v, hv⟩ : ∃ v, v = 20 + zin L xs (30 + 4 * X + Y) 80 := ⟨_, rfl⟩
      have ev : (20 : Int32) + Int32.ofNat (zin L xs (30 + 4 * X + Y) 80) = Int32.ofNat v := by rw [hv]; exact on_a 20 _
      rw [ev]
      have hv9 : ¬ Int32.ofNat v < 20 ∧ ¬ (99 : Int32) < Int32.ofNat v := ra_n (a := 20) (c := 99) (by omega)
      clear ev hv hz
      obtain ⟨ow3, h3, e3, J3, c6, w3⟩ := J_si J2 (a6''.2 X hX) (v := Int32.ofNat v) g (by omega)
      refine zp_i e3 ?_
      have a63 := A2_w a6'' hX c6 w3
      have eb3 : ow3 x0 = some (zz_I 12 L xs) := by rw [w3 _ (by omega)]; exact eb2
      refine zp_i (J_aq J3 a63 hX) ?_
      have e313 : ∀ {α : Type} {K : Int32 → Option α}, zz_ai 0 h3 (some (x6 + 1 + X)) (Int32.ofNat Y) K = K (Int32.ofNat v) := by
        intro α K
        rw [J_ai J3 (a63.2 X hX) g (by omega)]
        exact congrArg K (by show (if X = X then (if Y = Y then _ else _) else _) = _; rw [if_pos rfl, if_pos rfl])
      refine zp_i e313 ?_
      refine zp_i (J_in J3 eb3 hL (m := 9) (by omega) (by omega)) ?_
      have hf := zin_lt (L := L) (xs := xs) (k := 50 + 4 * X + Y) (m := 9) (by omega)
      have ef : (1 : Int32) + Int32.ofNat (zin L xs (50 + 4 * X + Y) 9) = Int32.ofNat (1 + zin L xs (50 + 4 * X + Y) 9) := on_a 1 _
      have ec : (10 : Int32) * Int32.ofNat X + Int32.ofNat Y = Int32.ofNat (10 * X + Y) := by rw [nlt10, on_m, on_a]
      rw [ef, ec]
      have ev := em_change_v (JJ_q J3) (x := X) (y := Y) (by rw [Fa_C F]; exact hX) (by rw [Fa_R F]; exact g) hv9 (ra_n (a := 1) (b := 1 + zin L xs (50 + 4 * X + Y) 9) (c := 9) (by omega)) (Fa_la F) (Fa_sg F)
      rw [X0.1 X Y hX g (by omega)] at ev
      obtain ⟨μ', hμ'⟩ : ∃ μ', μ' = zset (zset μ (17 + 7 * 0 + X) Y (Int32.ofNat v)) (46 + 7 * 0 + X) Y (Int32.ofNat (1 + zin L xs (50 + 4 * X + Y) 9)) := ⟨_, rfl⟩
      rw [← hμ'] at ev
      have mo : ∀ o i, ¬ (o = 17 + X ∧ i = Y) → ¬ (46 ≤ o ∧ o < 52) → μ' o i = μ o i := fun o i k1 k2 => by rw [hμ', zset_e (by omega), zset_e (by omega)]
      have mv : μ' (17 + 7 * 0 + X) Y = Int32.ofNat v := by rw [hμ', zset_e (by omega), zset_h]
      clear hμ'
      refine zlw JJ_n (cv_change J3 ev (by rw [mo _ _ (by omega) (by omega)]; exact J.1)) (fun h4 n4 J4 => ⟨rfl, ?_⟩)
      refine ⟨c, r, X, Y + 1, ow3, μ', ν, rfl, rfl, rfl, rfl, rfl, rfl, hX, g, h5, by omega, ⟨J4, eb3, hL⟩, Fa_m (fun o i hi => mo o i (by omega) (by omega)) F, ⟨fun x y hx hy k => by rw [mo _ _ (by omega) (by omega)]; exact X0.1 x y hx hy (by omega), fun k hk => by rw [mo _ _ (by omega) (by omega), mo _ _ (by omega) (by omega)]; exact X0.2 k hk⟩, Pb_m (fun o i hi => mo o i (by omega) (by omega)) P, A2_c a63 (fun x y hx hy => ?_), A1_f b7 (w3 _ (by omega)), A1_c (A1_f b8' (w3 _ (by omega))) n8, o1, o2, o3⟩
      by_cases k : x = X
      · rw [if_pos k, k]
        by_cases k2 : y = Y
        · rw [if_pos k2, if_pos (by omega), k2, mv]
        · rw [if_neg k2]
          dsimp only
          rw [if_pos rfl, if_neg k2]
          by_cases k3 : y < Y
          · rw [if_pos (by omega), if_pos (by omega), mo _ _ (by omega) (by omega)]
          · rw [if_neg (by omega), if_neg (by omega)]
      · rw [if_neg k, if_neg k]
        by_cases k3 : x < X
        · rw [if_pos (by omega), if_pos (by omega), mo _ _ (by omega) (by omega)]
        · rw [if_neg (by omega), if_neg (by omega)]
    · refine ⟨c, r, X, Y + 1, ow2, μ, ν, rfl, rfl, rfl, rfl, rfl, rfl, hX, g, h5, by omega, ⟨J2, eb2, hL⟩, F, ⟨fun x y hx hy k => X0.1 x y hx hy (by omega), X0.2⟩, P, A2_c a6'' (fun x y hx hy => ?_), b7, A1_c b8' n8, o1, o2, o3⟩
      by_cases k : x = X
      · rw [if_pos k, k]
        by_cases k2 : y = Y
        · rw [if_pos k2, if_pos (by omega), k2, X0.1 X Y hX g (by omega)]
        · rw [if_neg k2]
          dsimp only
          by_cases k3 : y < Y
          · rw [if_pos (by omega), if_pos (by omega)]
          · rw [if_neg (by omega), if_neg (by omega)]
      · rw [if_neg k]
        by_cases k3 : x < X
        · rw [if_pos (by omega), if_pos (by omega)]
        · rw [if_neg (by omega), if_neg (by omega)]
theorem z_210 (x0 x1 : Nat) (x2 x3 x5 : Int32) (x6 x7 x8 : Nat) (x9 : Int32) (h : zz_H) (n : Nat) : ¬ A_210 t0 base b L xs 0 x0 x1 x2 x3 x5 x6 x7 x8 x9 h n := by
  rintro ⟨c, r, X, ow, μ, ν, -, -, -, -, -, -, -, hB, -⟩
  omega
theorem z_226 (x0 x1 : Nat) (x2 x3 x5 : Int32) (x6 x7 x8 : Nat) (x9 x10 : Int32) (h : zz_H) (n : Nat) : ¬ A_226 t0 base b L xs 0 x0 x1 x2 x3 x5 x6 x7 x8 x9 x10 h n := by
  rintro ⟨c, r, X, Y, ow, μ, ν, -, -, -, -, -, -, -, -, -, hB, -⟩
  omega
theorem z_360 (x0 x1 : Nat) (x2 x3 : Int32) (x6 x7 x8 : Nat) (h : zz_H) (n : Nat) : ¬ A_360 t0 base b L xs 0 x0 x1 x2 x3 x6 x7 x8 h n := by
  rintro ⟨c, r, ow, μ, ν, -, -, -, -, hB, -⟩
  omega
end ZLB
