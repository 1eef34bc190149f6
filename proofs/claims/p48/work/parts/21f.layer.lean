section ZLF
variable {t0 base b L : Nat} {xs : Nat → Int32} {ow ow' : zz_H} {μ μ' : zzM} {ν ν' : zzN} {H : Int} {nK : Nat} {h h' : zz_H} {n n' : Nat} {c r d l : Nat} {la sg : Int32}
def A_1196 (t0 base b L : Nat) (xs : Nat → Int32) (B : Nat) (x0 x1 : Nat) (x2 x3 : Int32) (x6 x7 x8 : Nat) (x9 x10 x12 : Int32) (x13 x14 x15 x16 : Nat) (x17 x18 : Int32) (h : zz_H) (n : Nat) : Prop :=
  ∃ c r d lc k m ow μ ν, x0 = b ∧ x1 = base ∧ x2 = Int32.ofNat c ∧ x3 = Int32.ofNat r ∧ x9 = Qt μ ∧ x10 = Int32.ofNat d ∧ x12 = Int32.ofNat lc ∧ x17 = Int32.ofNat m ∧ x18 = Int32.ofNat k ∧ (1 ≤ lc ∧ lc ≤ 4) ∧ (2 ≤ d ∧ d ≤ 7) ∧ (m ≤ k ∧ k ≤ 6) ∧ tDr μ 0 = Int32.ofNat m ∧ 124 + (6 - k) ≤ B ∧ CX t0 base b L xs ow μ ν 0 0 h n ∧ Fa μ c r (d + 1) lc 98 0 ∧ μ 146 0 = 20 ∧ AR ow μ x6 x7 x8 c r ∧ LA ow μ x13 x14 x15 lc lc ∧ A2 ow x16 c r (fun x y => μ (111 + 7 * 0 + x) y) ∧ (∀ i, i < lc → ν (100 + 0) i = 0) ∧ b < x6 ∧ x8 < x13 ∧ x15 < x16
theorem z_1196 (x0 x1 : Nat) (x2 x3 : Int32) (x6 x7 x8 : Nat) (x9 x10 x12 : Int32) (x13 x14 x15 x16 : Nat) (x17 x18 : Int32) (h : zz_H) (n : Nat) : ¬ A_1196 t0 base b L xs 0 x0 x1 x2 x3 x6 x7 x8 x9 x10 x12 x13 x14 x15 x16 x17 x18 h n := by
  rintro ⟨c, r, d, lc, k, m, ow, μ, ν, -, -, -, -, -, -, -, -, -, -, -, -, -, hB, -⟩
  omega
theorem LA_o {a e f N k : Nat} (o : ∀ q, q ≤ f → ow' q = ow q) (A : LA ow μ a e f N k) : LA ow' μ a e f N k := by
  obtain ⟨g1, g2, g3, a1, a2, a3, hg, h1, h2⟩ := A
  exact ⟨g1, g2, g3, A1_f a1 (o _ (by omega)), A1_f a2 (o _ (by omega)), A1_f a3 (o _ (by omega)), hg, h1, h2⟩
theorem LA_m {a e f N k : Nat} (m : ∀ o i, (o = 85 ∨ o = 90 ∨ o = 95) → μ' o i = μ o i) (A : LA ow μ a e f N k) : LA ow μ' a e f N k := by
  obtain ⟨g1, g2, g3, a1, a2, a3, hg, h1, h2⟩ := A
  exact ⟨g1, g2, g3, a1, a2, a3, fun i hi => by rw [m _ _ (by omega), m _ _ (by omega), m _ _ (by omega)]; exact hg i hi, h1, h2⟩
theorem Qt_m (m : ∀ o i, ((o = 1 ∨ o = 2 ∨ o = 83) ∧ i = 0) ∨ o = 74 ∨ o = 79 ∨ o = 85 ∨ o = 90 → μ' o i = μ o i) : Qt μ' = Qt μ := by
  have eC : nC μ' 0 = nC μ 0 := by unfold nC; rw [m _ _ (by omega)]
  have eR : nR μ' 0 = nR μ 0 := by unfold nR; rw [m _ _ (by omega)]
  have eL : nL μ' 0 = nL μ 0 := by unfold nL; rw [m _ _ (by omega)]
  unfold Qt
  rw [eC, eR, eL, m 1 0 (by omega), m 2 0 (by omega)]
  congr 1
  · congr 1
    congr 1
    · exact sm_e (fun i hi => by rw [m _ _ (by omega)])
    · exact sm_e (fun i hi => by rw [m _ _ (by omega)])
  · exact sm_e (fun i hi => by unfold tPr; rw [m _ _ (by omega), m _ _ (by omega)])
theorem b_1130 (B : Nat) (x0 x1 : Nat) (x2 x3 : Int32) (x6 x7 x8 : Nat) (x9 x10 x12 : Int32) (x13 x14 x15 : Nat) (h : zz_H) (n : Nat) (A : A_1130 t0 base b L xs (B + 1) x0 x1 x2 x3 x6 x7 x8 x9 x10 x12 x13 x14 x15 h n) : w_1130 t0 x0 x1 x2 x3 x6 x7 x8 x9 x10 x12 x13 x14 x15 h n (A_1196 t0 base b L xs B) := by
  obtain ⟨c, r, d, lc, ow, μ, ν, rfl, rfl, rfl, rfl, rfl, rfl, rfl, hlc, hd, hB, ⟨J, eb, hL⟩, F, P, AA, LL, hν, o3, o8⟩ := A
  have hc4 := F.2.2.1
  have hr4 := F.2.2.2.1
  have tail : ∀ h n, JJ t0 x1 ow μ ν 1 0 0 h n → zl_w (f_L_buttons t0 x1 0 h n) fun v1166 h1166 n1166 => v1166 = Int32.ofNat d ∧ (znw (Int32.ofNat c) fun N1184 => znw (Int32.ofNat r) fun M1184 => A_1196 t0 x1 x0 L xs B x0 x1 (Int32.ofNat c) (Int32.ofNat r) x6 x7 x8 (Qt μ) (Int32.ofNat d) (Int32.ofNat lc) x13 x14 x15 n1166 (0 : Int32) (0 : Int32) (zz_M2 h1166 n1166 6 N1184 0 (M1184, .inl (fun _ => 0))) (n1166 + 1 + N1184)) := by
    intro h n J
    have ev := em_buttons_v (JJ_q J) (Fa_sg F) (Fa_can F (by simp [tCan])) (by rw [Fa_D F]; omega)
    rw [Fa_D F] at ev
    refine zlw JJ_n (cv_buttons J ev (by rw [mDone_e (by omega) (by omega) (by omega)]; exact J.1)) (fun h1 n1 J1 => ⟨rfl, znw_r hc4.2 (znw_r hr4.2 ?_)⟩)
    obtain ⟨J2, a2, o2⟩ := J_new2 J1 (c := c) (r := r)
    have mo : ∀ o i, o ≠ 3 → o ≠ 5 → o ≠ 10 → mDone μ 0 98 o i = μ o i := fun o i h1 h2 h3 => mDone_e (by omega) (by omega) (by omega)
    have P1 : Pb (mDone μ 0 98) := Pb_m (fun o i hi => mo o i (by omega) (by omega) (by omega)) P
    obtain ⟨g1, g2, g3, b1, b2, b3, hg, q1, q2⟩ := LL
    have l3 := J_lt J1 b3
    have hbn := (JJ_ow J1 eb).2
    refine ⟨c, r, d, lc, 0, 0, _, _, ν, rfl, rfl, rfl, rfl, (Qt_m (fun o i hi => mo o i (by omega) (by omega) (by omega))).symm, rfl, rfl, rfl, rfl, hlc, hd, by omega, tDr_0 P1, by omega, ⟨J2, by rw [o2 _ (by omega)]; exact eb, hL⟩, Fa_done F (by omega), P1.2, AR_m (by omega) (fun o i hi => mo o i (by omega) (by omega) (by omega)) (AR_o (fun q hq => o2 _ (by omega)) AA), LA_m (fun o i hi => mo o i (by omega) (by omega) (by omega)) (LA_o (fun q hq => o2 _ (by omega)) ⟨g1, g2, g3, b1, b2, b3, hg, q1, q2⟩), A2_c a2 (fun x y hx hy => ?_), hν, o3, o8, l3⟩
    exact (P1.1 x y (by omega) (by omega)).symm
  unfold w_1130
  refine zlw JJ_n (ce_thick J (em_thick_r (JJ_q J) (l := lc) (by rw [Fa_L F]; omega) (by omega)) (by decide)) (fun h1 n1 J1 => ⟨rfl, fun _ => tail h1 n1 J1, fun g => ?_⟩)
  have g4 : lc = 4 := by
    rw [show (4 : Int32) = Int32.ofNat 4 from rfl, on_lt _ _ (by omega) (by omega)] at g
    omega
  subst g4
  refine zlw JJ_n (ce_layer J1 (s := 0) (by omega) (kd := 104) (t := 5) (f := 1) (Or.inl rfl) ⟨by decide, by decide⟩ ⟨by decide, by decide⟩ (Or.inr (Fa_can F (by decide)))) (fun h2 n2 J2 => ⟨rfl, tail h2 n2 J2⟩)
theorem b_969 (B : Nat) (x0 x1 : Nat) (x2 x3 : Int32) (x6 x7 x8 : Nat) (x9 x10 x12 : Int32) (x13 x14 x15 : Nat) (x16 : Int32) (h : zz_H) (n : Nat) (A : A_969 t0 base b L xs (B + 1) x0 x1 x2 x3 x6 x7 x8 x9 x10 x12 x13 x14 x15 x16 h n) : w_969 t0 x0 x1 x2 x3 x6 x7 x8 x9 x10 x12 x13 x14 x15 x16 h n (A_969 t0 base b L xs B) (A_1130 t0 base b L xs B) := by
  obtain ⟨c, r, d, la, lc, k, ow, μ, ν, rfl, rfl, rfl, rfl, rfl, rfl, rfl, rfl, hlc, hd, hla, hB, ⟨J, eb, hL⟩, F, P, AA, ⟨g1, g2, g3, a1, a2, a3, hg, q1, q2⟩, hν, o3, o8⟩ := A
  have hc4 := F.2.2.1
  have hr4 := F.2.2.2.1
  unfold w_969
  refine ⟨fun g => ?_, fun g => ?_⟩
  · have g : lc = k := by
      rw [on_le _ _ (by omega) (by omega)] at g
      omega
    subst g
    rcases hla with ⟨h0, -⟩ | ⟨-, rfl⟩
    · omega
    exact ⟨c, r, d, lc, ow, μ, ν, rfl, rfl, rfl, rfl, rfl, rfl, rfl, ⟨hlc.1, hlc.2.1⟩, by omega, by omega, ⟨J, eb, hL⟩, F, P, AA, ⟨g1, g2, g3, a1, a2, a3, hg, q1, q2⟩, hν, o3, o8⟩
  · have g : k < lc := by
      rw [on_le _ _ (by omega) (by omega)] at g
      omega
    rw [show (90 : Int32) + Int32.ofNat k = Int32.ofNat (90 + k) from on_a 90 k, show (94 : Int32) + Int32.ofNat k = Int32.ofNat (94 + k) from on_a 94 k, show (98 : Int32) + Int32.ofNat k = Int32.ofNat (98 + k) from on_a 98 k]
    refine zp_i (J_in J eb hL (m := 3) (by omega) (by omega)) (fun w hw => ?_)
    obtain ⟨kd, k1, k2, k3, k4⟩ := kd_e (zin_lt (L := L) (xs := xs) (k := 90 + k) (m := 3) (by omega))
    rw [k1] at hw
    subst w
    rw [k3, k4]
    obtain ⟨ow1, h1, e1, J1, b1, w1⟩ := J_si J a1 (v := kd) g (by omega)
    refine zp_i e1 ?_
    have eb1 : ow1 x0 = some (zz_I 12 L xs) := by rw [w1 _ (by have := AA.2.2.2; omega)]; exact eb
    refine zp_i (J_in J1 eb1 hL (m := 56) (by omega) (by omega)) ?_
    have ht := zin_lt (L := L) (xs := xs) (k := 94 + k) (m := 56) (by omega)
    obtain ⟨t, et⟩ : ∃ t, t = 5 + zin L xs (94 + k) 56 := ⟨_, rfl⟩
    rw [show (5 : Int32) + Int32.ofNat (zin L xs (94 + k) 56) = Int32.ofNat t by rw [et]; exact on_a 5 _]
    obtain ⟨ow2, h2, e2, J2, b2, w2⟩ := J_si J1 (A1_f a2 (w1 _ (by omega))) (v := Int32.ofNat t) g (by omega)
    refine zp_i e2 ?_
    have eb2 : ow2 x0 = some (zz_I 12 L xs) := by rw [w2 _ (by have := AA.2.2.2; omega)]; exact eb1
    refine zp_i (J_in J2 eb2 hL (m := 9) (by omega) (by omega)) ?_
    have hf := zin_lt (L := L) (xs := xs) (k := 98 + k) (m := 9) (by omega)
    obtain ⟨f, ef⟩ : ∃ f, f = 1 + zin L xs (98 + k) 9 := ⟨_, rfl⟩
    rw [show (1 : Int32) + Int32.ofNat (zin L xs (98 + k) 9) = Int32.ofNat f by rw [ef]; exact on_a 1 _]
    obtain ⟨ow3, h3, e3, J3, b3, w3⟩ := J_si J2 (A1_f (A1_f a3 (w1 _ (by omega))) (w2 _ (by omega))) (v := Int32.ofNat f) g (by omega)
    refine zp_i e3 ?_
    have eb3 : ow3 x0 = some (zz_I 12 L xs) := by rw [w3 _ (by have := AA.2.2.2; omega)]; exact eb2
    have c1 := A1_f (A1_f b1 (w2 _ (by omega))) (w3 _ (by omega))
    have c2 := A1_f b2 (w3 _ (by omega))
    have r1 : ∀ {α : Type} {K : Int32 → Option α}, zz_ai 1 h3 (some x13) (Int32.ofNat k) K = K kd := by
      intro α K
      rw [J_ai J3 c1 g]
      exact congrArg K (if_pos rfl)
    have r2 : ∀ {μ' : zzM} {ν' : zzN} {h : zz_H} {n : Nat} (J : JJ t0 x1 ow3 μ' ν' 1 0 0 h n) {α : Type} {K : Int32 → Option α}, zz_ai 0 h (some x14) (Int32.ofNat k) K = K (Int32.ofNat t) := by
      intro μ' ν' h n J α K
      rw [J_ai J c2 g]
      exact congrArg K (if_pos rfl)
    have r3 : ∀ {α : Type} {K : Int32 → Option α}, zz_ai 0 h3 (some x15) (Int32.ofNat k) K = K (Int32.ofNat f) := by
      intro α K
      rw [J_ai J3 b3 g]
      exact congrArg K (if_pos rfl)
    have r2' : ∀ {α : Type} {K : Int32 → Option α}, zz_ai 0 h3 (some x14) (Int32.ofNat k) K = K (Int32.ofNat t) := by
      intro α K
      rw [J_ai J3 c2 g]
      exact congrArg K (if_pos rfl)
    refine zp_i r2' (zp_i r1 (zp_i r2' (zp_i r3 ?_)))
    have ht9 : ¬ Int32.ofNat t < 5 ∧ ¬ (60 : Int32) < Int32.ofNat t := ra_n (a := 5) (c := 60) (by omega)
    have hf9 : ¬ Int32.ofNat f < 1 ∧ ¬ (9 : Int32) < Int32.ofNat f := ra_n (a := 1) (c := 9) (by omega)
    have hcan : tCan la k 108 = true := by
      rcases hla with ⟨-, rfl | rfl⟩ | ⟨-, rfl⟩
      · rfl
      · rfl
      · unfold tCan
        rw [if_neg (by decide), if_neg (by decide), if_neg (by decide), if_pos rfl]
        exact decide_eq_true (Or.inr (Or.inr ⟨rfl, by omega⟩))
    have ev := cv_layer J3 (by omega) (s := 0) (by omega) k2 ht9 hf9 (Fa_can F hcan) (Fa_sg F)
    rw [Fa_D F, Fa_L F] at ev
    refine zlw JJ_n ev (fun h4 n4 J4 => ?_)
    clear ev
    have F1 := Fa_done (a := 108) (Fa_Y (kd := kd) (t := Int32.ofNat t) (f := Int32.ofNat f) F (by omega)) (by omega)
    refine zlw JJ_n (cv_done J4 F1 (by omega)) (fun h5 n5 J5 => ⟨by decide, ?_⟩)
    have F2 := Fa_sign F1
    have mo : ∀ o i, o ≠ 3 → o ≠ 5 → o ≠ 10 → o ≠ 83 → ¬ ((o = 85 ∨ o = 90 ∨ o = 95 ∨ o = 105) ∧ i = k) → zset (mDone (mY μ kd (Int32.ofNat t) (Int32.ofNat f) 0 k) 0 108) (10 + 0) d 1 o i = μ o i := fun o i h1 h2 h3 h4 h5 => by
      rw [zset_e (by omega), mDone_e (by omega) (by omega) (by omega), mY_o (by omega) (by omega)]
    have mk : ∀ o, o ≠ 3 → o ≠ 5 → o ≠ 10 → zset (mDone (mY μ kd (Int32.ofNat t) (Int32.ofNat f) 0 k) 0 108) (10 + 0) d 1 o k = mY μ kd (Int32.ofNat t) (Int32.ofNat f) 0 k o k := fun o h1 h2 h3 => by
      rw [zset_e (by omega), mDone_e (by omega) (by omega) (by omega)]
    obtain ⟨y1, y2, y3, -, -⟩ := mY_h (μ := μ) (k := kd) (t := Int32.ofNat t) (f := Int32.ofNat f) (s := 0) (l := k) (by omega)
    have m85 := (mk (85 + 0) (by omega) (by omega) (by omega)).trans y1
    have m90 := (mk (90 + 0) (by omega) (by omega) (by omega)).trans y2
    have m95 := (mk (95 + 0) (by omega) (by omega) (by omega)).trans y3
    clear mk y1 y2 y3 F1
    generalize zset (mDone (mY μ kd (Int32.ofNat t) (Int32.ofNat f) 0 k) 0 108) (10 + 0) d 1 = μ2 at J5 F2 mo m85 m90 m95
    have eth := em_thick_v (JJ_q J5) (l := k) (by rw [Fa_L F2]; omega)
    have ν2 : zsetN ν (100 + 0) k 0 (100 + 0) k = 0 := if_pos ⟨rfl, rfl⟩
    rw [tTh_0 ν2, m90] at eth
    refine zlw JJ_n (cv_thick J5 eth J5.1) (fun h6 n6 J6 => zp_i (r2 J6) ⟨rfl, ?_⟩)
    have hq : Qt μ2 = Qt μ + Int32.ofNat t * (if kd = 104 then 3 else if kd = 102 then 2 else 1) := by
      unfold Qt
      rw [Fa_C F, Fa_R F, Fa_L F, Fa_C F2, Fa_R F2, Fa_L F2, F.1, F.2.1, F2.1, F2.2.1, sm_s, ← Int32.add_assoc]
      congr 1
      · congr 1
        · congr 1
          congr 1
          · exact sm_e (fun i hi => by rw [mo _ _ (by omega) (by omega) (by omega) (by omega) (by omega)])
          · exact sm_e (fun i hi => by rw [mo _ _ (by omega) (by omega) (by omega) (by omega) (by omega)])
        · exact sm_e (fun i hi => by unfold tPr; rw [mo _ _ (by omega) (by omega) (by omega) (by omega) (by omega), mo _ _ (by omega) (by omega) (by omega) (by omega) (by omega)])
      · unfold tPr
        rw [m90, m85]
    rw [on_s, on_s, ← hq]
    refine ⟨c, r, d + 1, 108, lc, k + 1, ow3, μ2, _, rfl, rfl, rfl, rfl, rfl, rfl, rfl, rfl, by omega, by omega, Or.inr ⟨by omega, rfl⟩, by omega, ⟨J6, eb3, hL⟩, F2, Pb_m (fun o i hi => mo _ _ (by omega) (by omega) (by omega) (by omega) (by omega)) P, AR_m (by omega) (fun o i hi => mo _ _ (by omega) (by omega) (by omega) (by omega) (by omega)) (AR_o (fun q hq => by rw [w3 _ (by omega), w2 _ (by omega), w1 _ (by omega)]) AA), ⟨_, _, _, c1, c2, b3, fun i hi => ?_, q1, q2⟩, fun i hi => ?_, o3, o8⟩
    · by_cases e : i = k
      · rw [if_pos e, if_pos e, if_pos e, e]
        exact ⟨m85.symm, m90.symm, m95.symm⟩
      · rw [if_neg e, if_neg e, if_neg e, mo _ _ (by omega) (by omega) (by omega) (by omega) (by omega), mo _ _ (by omega) (by omega) (by omega) (by omega) (by omega), mo _ _ (by omega) (by omega) (by omega) (by omega) (by omega)]
        exact hg i (by omega)
    · by_cases e : i = k
      · rw [e]
        exact ν2
      · rw [show zsetN ν (100 + 0) k 0 (100 + 0) i = ν (100 + 0) i from if_neg (by omega)]
        exact hν i (by omega)
end ZLF
