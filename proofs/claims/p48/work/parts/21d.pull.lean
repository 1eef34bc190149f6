section ZLD
variable {t0 base b L : Nat} {xs : Nat → Int32} {ow ow' : zz_H} {μ μ' : zzM} {ν ν' : zzN} {H : Int} {nK : Nat} {h h' : zz_H} {n n' : Nat} {c r d l : Nat} {la sg : Int32}
def A_446 (t0 base b L : Nat) (xs : Nat → Int32) (B : Nat) (x0 x1 : Nat) (x2 x3 : Int32) (x6 x7 x8 : Nat) (x9 x12 : Int32) (h : zz_H) (n : Nat) : Prop :=
  ∃ c r k ow μ ν, x0 = b ∧ x1 = base ∧ x2 = Int32.ofNat c ∧ x3 = Int32.ofNat r ∧ x12 = Int32.ofNat k ∧ x9 = 5 * Int32.ofNat c * Int32.ofNat r ∧ k ≤ 4 ∧ 139 + (4 - k) ≤ B ∧ CX t0 base b L xs ow μ ν 0 0 h n ∧ Fa μ c r 3 0 116 0 ∧ Pb μ ∧ AR ow μ x6 x7 x8 c r ∧ b < x6
def A_786 (t0 base b L : Nat) (xs : Nat → Int32) (B : Nat) (x0 x1 : Nat) (x2 x3 : Int32) (x6 x7 x8 : Nat) (x9 : Int32) (h : zz_H) (n : Nat) : Prop :=
  ∃ c r ow μ ν, x0 = b ∧ x1 = base ∧ x2 = Int32.ofNat c ∧ x3 = Int32.ofNat r ∧ x9 = 5 * Int32.ofNat c * Int32.ofNat r ∧ 138 ≤ B ∧ CX t0 base b L xs ow μ ν 0 0 h n ∧ Fa μ c r 3 0 116 0 ∧ Pb μ ∧ AR ow μ x6 x7 x8 c r ∧ b < x6
def A_836 (t0 base b L : Nat) (xs : Nat → Int32) (B : Nat) (x0 x1 : Nat) (x2 x3 : Int32) (x6 x7 x8 : Nat) (x9 x10 : Int32) (h : zz_H) (n : Nat) : Prop :=
  ∃ c r d la ow μ ν, x0 = b ∧ x1 = base ∧ x2 = Int32.ofNat c ∧ x3 = Int32.ofNat r ∧ x9 = 5 * Int32.ofNat c * Int32.ofNat r ∧ x10 = Int32.ofNat d ∧ ((d = 2 ∧ la = 115) ∨ (d = 3 ∧ la = 116)) ∧ 137 ≤ B ∧ CX t0 base b L xs ow μ ν 0 0 h n ∧ Fa μ c r d 0 la 1 ∧ Pb μ ∧ AR ow μ x6 x7 x8 c r ∧ b < x6
theorem z_446 (x0 x1 : Nat) (x2 x3 : Int32) (x6 x7 x8 : Nat) (x9 x12 : Int32) (h : zz_H) (n : Nat) : ¬ A_446 t0 base b L xs 0 x0 x1 x2 x3 x6 x7 x8 x9 x12 h n := by
  rintro ⟨c, r, k, ow, μ, ν, -, -, -, -, -, -, -, hB, -⟩
  omega
theorem z_786 (x0 x1 : Nat) (x2 x3 : Int32) (x6 x7 x8 : Nat) (x9 : Int32) (h : zz_H) (n : Nat) : ¬ A_786 t0 base b L xs 0 x0 x1 x2 x3 x6 x7 x8 x9 h n := by
  rintro ⟨c, r, ow, μ, ν, -, -, -, -, -, hB, -⟩
  omega
theorem z_836 (x0 x1 : Nat) (x2 x3 : Int32) (x6 x7 x8 : Nat) (x9 x10 : Int32) (h : zz_H) (n : Nat) : ¬ A_836 t0 base b L xs 0 x0 x1 x2 x3 x6 x7 x8 x9 x10 h n := by
  rintro ⟨c, r, d, la, ow, μ, ν, -, -, -, -, -, -, -, hB, -⟩
  omega
theorem no_115 {la : Int32} {s : Int32} (h : tLast μ 0 = la) (h1 : tSg μ 0 = 1) : ¬ (tLast μ 0 = s ∧ tSg μ 0 = 0) := fun q => by
  rw [h1] at q
  exact absurd q.2 (by decide)
theorem b_360 (B : Nat) (x0 x1 : Nat) (x2 x3 : Int32) (x6 x7 x8 : Nat) (h : zz_H) (n : Nat) (A : A_360 t0 base b L xs (B + 1) x0 x1 x2 x3 x6 x7 x8 h n) : w_360 t0 x0 x1 x2 x3 x6 x7 x8 h n (A_446 t0 base b L xs B) (A_836 t0 base b L xs B) := by
  obtain ⟨c, r, ow, μ, ν, rfl, rfl, rfl, rfl, hB, ⟨J, eb, hL⟩, F, P, L9, AA, o3⟩ := A
  unfold w_360
  have ev := em_sign_v (JJ_q J) (Fa_sg F)
  rw [Fa_D F] at ev
  refine zlw JJ_n (cv_sign J ev (by rw [zset_e (by omega)]; exact J.1)) (fun h1 n1 J => ⟨rfl, ?_⟩)
  have F1 : Fa (zset μ (10 + 0) 1 1) c r 2 0 115 1 := Fa_sign F
  have P1 : Pb (zset μ (10 + 0) 1 1) := Pb_m (fun o i hi => zset_e (by omega)) P
  have A1' : AR ow (zset μ (10 + 0) 1 1) x6 x7 x8 c r := AR_m (by have := F.2.2.1; omega) (fun o i hi => zset_e (by omega)) AA
  have L1 : ∀ k, k < 6 → (zset μ (10 + 0) 1 1) (74 + 0) k = 99 ∧ (zset μ (10 + 0) 1 1) (79 + 0) k = 99 := fun k hk => ⟨by rw [zset_e (by omega)]; exact (L9 k hk).1, by rw [zset_e (by omega)]; exact (L9 k hk).2⟩
  clear ev F P AA L9
  have J : JJ t0 x1 ow (zset μ (10 + 0) 1 1) ν 1 0 0 h1 n1 := J
  generalize zset μ (10 + 0) 1 1 = μ at J F1 P1 A1' L1
  refine zlw JJ_n (ce_change J (em_change_n (JJ_q J) ⟨by decide, by decide⟩ ⟨by decide, by decide⟩ (no_115 (Fa_la F1) (Fa_sg F1))) (by decide)) (fun h2 n2 J => ⟨rfl, ?_⟩)
  unfold f_L_law_403 f_L_law_417
  rw [show f_L_in x0 4 2 h2 = _ from J_in J eb hL (k := 4) (m := 2) (by omega) (by omega), zb_s]
  have hz := zin_lt (L := L) (xs := xs) (k := 4) (m := 2) (by omega)
  by_cases g : zin L xs 4 2 = 0
  · refine ⟨1, by rw [g, if_pos (by rfl)], fun q => absurd q (by decide), fun _ => ?_⟩
    have ev := em_tie_v (JJ_q J) (Fa_sg F1) (Fa_can F1 (by decide)) (by rw [Fa_D F1]; omega)
    rw [Fa_D F1] at ev
    have F2 : Fa (mLoos μ 0 6) c r 2 0 115 1 := Fa_m (fun o i hi => by rw [mLoos_o (by omega) (by omega)]) F1
    have F3 := Fa_done (a := 116) F2 (by omega)
    have P3 : Pb (mDone (mLoos μ 0 6) 0 116) := Pb_m (fun o i hi => by rw [mDone_e (by omega) (by omega) (by omega), mLoos_o (by omega) (by omega)]) P1
    have m3 : ∀ k, k < 6 → mDone (mLoos μ 0 6) 0 116 (74 + 0) k = 99 ∧ mDone (mLoos μ 0 6) 0 116 (79 + 0) k = 99 := fun k hk => by
      constructor
      · rw [mDone_e (by omega) (by omega) (by omega)]
        unfold mLoos
        exact if_pos (by omega)
      · rw [mDone_e (by omega) (by omega) (by omega)]
        unfold mLoos
        exact if_pos (by omega)
    have hc4 := F1.2.2.1
    have hr4 := F1.2.2.2.1
    have A3 : AR ow (mDone (mLoos μ 0 6) 0 116) x6 x7 x8 c r := ⟨A2_c A1'.1 (fun x y hx hy => by rw [mDone_e (by omega) (by omega) (by omega), mLoos_o (by omega) (by omega)]), A1_c A1'.2.1 (fun i hi => by rw [(m3 i (by omega)).1, (L1 i (by omega)).1]), A1_c A1'.2.2.1 (fun i hi => by rw [(m3 i (by omega)).2, (L1 i (by omega)).2]), A1'.2.2.2⟩
    refine zlw JJ_n (cv_tie J ev (by rw [mDone_e (by omega) (by omega) (by omega), mLoos_o (by omega) (by omega)]; exact J.1)) (fun h4 n4 J => ⟨rfl, ?_⟩)
    exact ⟨c, r, 0, ow, _, ν, rfl, rfl, rfl, rfl, rfl, rfl, by omega, by omega, ⟨J, eb, hL⟩, F3, P3, A3, o3⟩
  · have g1 : zin L xs 4 2 = 1 := by omega
    refine ⟨0, by rw [g1, if_neg (by decide)], fun _ => ?_, fun q => absurd rfl q⟩
    exact ⟨c, r, 2, 115, ow, μ, ν, rfl, rfl, rfl, rfl, rfl, rfl, Or.inl ⟨rfl, rfl⟩, by omega, ⟨J, eb, hL⟩, F1, P1, A1', o3⟩
theorem b_786 (B : Nat) (x0 x1 : Nat) (x2 x3 : Int32) (x6 x7 x8 : Nat) (x9 : Int32) (h : zz_H) (n : Nat) (A : A_786 t0 base b L xs (B + 1) x0 x1 x2 x3 x6 x7 x8 x9 h n) : w_786 t0 x0 x1 x2 x3 x6 x7 x8 x9 h n (A_836 t0 base b L xs B) := by
  obtain ⟨c, r, ow, μ, ν, rfl, rfl, rfl, rfl, rfl, hB, ⟨J, eb, hL⟩, F, P, AA, o3⟩ := A
  unfold w_786
  have e1 := em_pull_i (JJ_q J) (a := 50)
  rw [Fa_C F] at e1
  refine zlw JJ_n (ce_pull J e1 (by decide)) (fun h1 n1 J => ⟨rfl, ?_⟩)
  have ev := em_sign_v (JJ_q J) (Fa_sg F)
  rw [Fa_D F] at ev
  refine zlw JJ_n (cv_sign J ev (by rw [zset_e (by omega)]; exact J.1)) (fun h2 n2 J => ⟨rfl, ?_⟩)
  have F1 : Fa (zset μ (10 + 0) 2 1) c r 3 0 116 1 := Fa_sign F
  have P1 : Pb (zset μ (10 + 0) 2 1) := Pb_m (fun o i hi => zset_e (by omega)) P
  have A1' : AR ow (zset μ (10 + 0) 2 1) x6 x7 x8 c r := AR_m (by have := F.2.2.1; omega) (fun o i hi => zset_e (by omega)) AA
  refine zlw JJ_n (ce_pull J (em_pull_n (JJ_q J) ⟨by decide, by decide⟩ (no_115 (Fa_la F1) (Fa_sg F1))) (by decide)) (fun h3 n3 J => ⟨rfl, ?_⟩)
  exact ⟨c, r, 3, 116, ow, _, ν, rfl, rfl, rfl, rfl, rfl, rfl, Or.inr ⟨rfl, rfl⟩, by omega, ⟨J, eb, hL⟩, F1, P1, A1', o3⟩
theorem b_446 (B : Nat) (x0 x1 : Nat) (x2 x3 : Int32) (x6 x7 x8 : Nat) (x9 x12 : Int32) (h : zz_H) (n : Nat) (A : A_446 t0 base b L xs (B + 1) x0 x1 x2 x3 x6 x7 x8 x9 x12 h n) : w_446 t0 x0 x1 x2 x3 x6 x7 x8 x9 x12 h n (A_446 t0 base b L xs B) (A_786 t0 base b L xs B) := by
  obtain ⟨c, r, k, ow, μ, ν, rfl, rfl, rfl, rfl, rfl, rfl, hk, hB, ⟨J, eb, hL⟩, F, P, AA, o3⟩ := A
  have hc4 := F.2.2.1
  have hr4 := F.2.2.2.1
  have hn : ¬ μ 3 0 ≤ 1 := by
    have hD := (JJ_q J).2.2.2.1.2.2.2.1.1
    rw [Fa_D F] at hD
    rw [hD]
    decide
  unfold w_446
  refine ⟨fun g => ?_, fun g => ?_⟩
  · have g : k = 4 := by
      rw [show (4 : Int32) = Int32.ofNat 4 from rfl, on_le _ _ (by omega) (by omega)] at g
      omega
    exact ⟨c, r, ow, μ, ν, rfl, rfl, rfl, rfl, rfl, by omega, ⟨J, eb, hL⟩, F, P, AA, o3⟩
  · have g : k < 4 := by
      rw [show (4 : Int32) = Int32.ofNat 4 from rfl, on_le _ _ (by omega) (by omega)] at g
      omega
    unfold f_L_law_452
    rw [show (70 : Int32) + Int32.ofNat k = Int32.ofNat (70 + k) from on_a 70 k, show f_L_in x0 (Int32.ofNat (70 + k)) 2 h = _ from J_in J eb hL (m := 2) (by omega) (by omega), zb_s]
    have hz := zin_lt (L := L) (xs := xs) (k := 70 + k) (m := 2) (by omega)
    have ht := zin_lt (L := L) (xs := xs) (k := 78 + k) (m := 90) (by omega)
    have ht9 : ¬ Int32.ofNat (10 + zin L xs (78 + k) 90) < 10 ∧ ¬ (99 : Int32) < Int32.ofNat (10 + zin L xs (78 + k) 90) := ra_n (a := 10) (c := 99) (by omega)
    by_cases g1 : zin L xs (70 + k) 2 = 0
    · rw [g1, if_pos (by rfl)]
      unfold f_L_law_470
      rw [if_neg (by decide), r_488 J AA (by omega) (by omega) eb hL g (by omega)]
      have hq := zin_lt (L := L) (xs := xs) (k := 74 + k) (m := c) (by omega)
      generalize zin L xs (74 + k) c = q at hq ⊢
      generalize Int32.ofNat (10 + zin L xs (78 + k) 90) = t at ht9 ⊢
      refine ⟨_, _, _, _, rfl, fun w1 hw1 => ?_⟩
      rw [if_neg (by decide)] at hw1
      subst w1
      have e7 : ∀ {α : Type} {K : Int32 → Option α}, zz_ai 0 h (some x7) 0 K = K (μ (74 + 0) 0) := by
        intro α K
        exact J_ai J AA.2.1 (i := 0) (by omega)
      refine zp_i e7 (fun w2 hw2 => ?_)
      rw [if_neg (by decide)] at hw2
      subst w2
      obtain ⟨ow1, h1, e1, J1, b7, w1⟩ := J_si J AA.2.1 (v := t) hq (by omega)
      refine zp_i e1 (fun w3 hw3 => ?_)
      rw [if_neg (by decide)] at hw3
      subst w3
      have a8 := A1_f AA.2.2.1 (w1 _ (by have := AA.2.2.2; omega))
      have e8 : ∀ {α : Type} {K : Int32 → Option α}, zz_ai 0 h1 (some x8) 0 K = K (μ (79 + 0) 0) := by
        intro α K
        exact J_ai J1 a8 (i := 0) (by omega)
      refine zp_i e8 (fun w4 hw4 => ?_)
      rw [if_neg (by decide)] at hw4
      subst w4
      obtain ⟨ow2, h2, e2, J2, b8, w2⟩ := J_si J1 a8 (i := 0) (v := μ (79 + 0) 0) (by omega) (by omega)
      refine zp_i e2 ?_
      have ev := em_pull_c (JJ_q J2) (x := 1) (k := q) (a := t) (by decide) (by rw [Fa_C F]; exact hq) ht9 (Fa_la F) (Fa_sg F)
      rw [moved_c hn (by omega) (Fa_C F) (Fa_R F)] at ev
      refine zlw JJ_n (cv_pull J2 ev (by rw [zset_e (by omega)]; exact J2.1)) (fun h3 n3 J3 w5 hw5 => ⟨hw5.symm, ?_⟩)
      have o7 := AA.2.2.2
      refine ⟨c, r, k + 1, ow2, _, ν, rfl, rfl, rfl, rfl, on_s k, rfl, by omega, by omega, ⟨J3, by rw [w2 _ (by omega), w1 _ (by omega)]; exact eb, hL⟩, Fa_z (by omega) F, Pb_m (fun o i hi => zset_e (by omega)) P, ⟨A2_c (A2_f AA.1 (fun p p1 p2 => by rw [w2 _ (by omega), w1 _ (by omega)])) (fun x y hx hy => (zset_e (by omega)).symm), A1_c (A1_f b7 (w2 _ (by omega))) (fun i hi => ?_), A1_c b8 (fun i hi => ?_), o7⟩, o3⟩
      · by_cases k2 : i = q
        · rw [if_pos k2, k2, zset_h]
        · rw [if_neg k2, zset_e (by omega)]
      · rw [zset_e (by omega)]
        by_cases k2 : i = 0
        · rw [if_pos k2, k2]
        · rw [if_neg k2]
    · have g1 : zin L xs (70 + k) 2 = 1 := by omega
      rw [g1, if_neg (by decide)]
      unfold f_L_law_470
      rw [if_pos rfl, r_488 J AA (by omega) (by omega) eb hL g (by omega)]
      have hq := zin_lt (L := L) (xs := xs) (k := 74 + k) (m := r) (by omega)
      generalize zin L xs (74 + k) r = q at hq ⊢
      generalize Int32.ofNat (10 + zin L xs (78 + k) 90) = t at ht9 ⊢
      refine ⟨_, _, _, _, rfl, fun w1 hw1 => ?_⟩
      rw [if_pos rfl] at hw1
      subst w1
      have e7 : ∀ {α : Type} {K : Int32 → Option α}, zz_ai 0 h (some x7) 0 K = K (μ (74 + 0) 0) := by
        intro α K
        exact J_ai J AA.2.1 (i := 0) (by omega)
      refine zp_i e7 (fun w2 hw2 => ?_)
      rw [if_pos rfl] at hw2
      subst w2
      obtain ⟨ow1, h1, e1, J1, b7, w1⟩ := J_si J AA.2.1 (i := 0) (v := μ (74 + 0) 0) (by omega) (by omega)
      refine zp_i e1 (fun w3 hw3 => ?_)
      rw [if_pos rfl] at hw3
      subst w3
      have a8 := A1_f AA.2.2.1 (w1 _ (by have := AA.2.2.2; omega))
      have e8 : ∀ {α : Type} {K : Int32 → Option α}, zz_ai 0 h1 (some x8) 0 K = K (μ (79 + 0) 0) := by
        intro α K
        exact J_ai J1 a8 (i := 0) (by omega)
      refine zp_i e8 (fun w4 hw4 => ?_)
      rw [if_pos rfl] at hw4
      subst w4
      obtain ⟨ow2, h2, e2, J2, b8, w2⟩ := J_si J1 a8 (v := t) hq (by omega)
      refine zp_i e2 ?_
      have ev := em_pull_r (JJ_q J2) (k := q) (a := t) (by rw [Fa_R F]; exact hq) ht9 (Fa_la F) (Fa_sg F)
      rw [moved_r hn (by omega) (Fa_C F) (Fa_R F)] at ev
      refine zlw JJ_n (cv_pull J2 ev (by rw [zset_e (by omega)]; exact J2.1)) (fun h3 n3 J3 w5 hw5 => ⟨hw5.symm, ?_⟩)
      have o7 := AA.2.2.2
      refine ⟨c, r, k + 1, ow2, _, ν, rfl, rfl, rfl, rfl, on_s k, rfl, by omega, by omega, ⟨J3, by rw [w2 _ (by omega), w1 _ (by omega)]; exact eb, hL⟩, Fa_z (by omega) F, Pb_m (fun o i hi => zset_e (by omega)) P, ⟨A2_c (A2_f AA.1 (fun p p1 p2 => by rw [w2 _ (by omega), w1 _ (by omega)])) (fun x y hx hy => (zset_e (by omega)).symm), A1_c (A1_f b7 (w2 _ (by omega))) (fun i hi => ?_), A1_c b8 (fun i hi => ?_), o7⟩, o3⟩
      · rw [zset_e (by omega)]
        by_cases k2 : i = 0
        · rw [if_pos k2, k2]
        · rw [if_neg k2]
      · by_cases k2 : i = q
        · rw [if_pos k2, k2, zset_h]
        · rw [if_neg k2, zset_e (by omega)]
end ZLD
