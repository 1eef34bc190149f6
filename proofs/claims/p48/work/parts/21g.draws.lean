section ZLG
variable {t0 base b L : Nat} {xs : Nat → Int32} {ow ow' : zz_H} {μ μ' : zzM} {ν ν' : zzN} {H : Int} {nK : Nat} {h h' : zz_H} {n n' : Nat} {c r d l : Nat} {la sg : Int32}
def A_1311 (t0 base b L : Nat) (xs : Nat → Int32) (B : Nat) (x0 x1 : Nat) (x2 x3 : Int32) (x6 x7 x8 : Nat) (x9 x10 x12 : Int32) (x13 x14 x15 x16 : Nat) (x17 : Int32) (h : zz_H) (n : Nat) : Prop :=
  ∃ c r d lc ow μ ν, x0 = b ∧ x1 = base ∧ x2 = Int32.ofNat c ∧ x3 = Int32.ofNat r ∧ x9 = Qt μ ∧ x10 = Int32.ofNat d ∧ x12 = Int32.ofNat lc ∧ x17 = tDr μ 0 ∧ (1 ≤ lc ∧ lc ≤ 4) ∧ (2 ≤ d ∧ d ≤ 7) ∧ 123 ≤ B ∧ CX t0 base b L xs ow μ ν 0 0 h n ∧ Fa μ c r (d + 1) lc 98 0 ∧ μ 146 0 = 20 ∧ AR ow μ x6 x7 x8 c r ∧ LA ow μ x13 x14 x15 lc lc ∧ A2 ow x16 c r (fun x y => μ (111 + 7 * 0 + x) y) ∧ (∀ i, i < lc → ν (100 + 0) i = 0) ∧ b < x6 ∧ x8 < x13 ∧ x15 < x16
theorem z_1311 (x0 x1 : Nat) (x2 x3 : Int32) (x6 x7 x8 : Nat) (x9 x10 x12 : Int32) (x13 x14 x15 x16 : Nat) (x17 : Int32) (h : zz_H) (n : Nat) : ¬ A_1311 t0 base b L xs 0 x0 x1 x2 x3 x6 x7 x8 x9 x10 x12 x13 x14 x15 x16 x17 h n := by
  rintro ⟨c, r, d, lc, ow, μ, ν, -, -, -, -, -, -, -, -, -, -, hB, -⟩
  omega
theorem b_1196 (B : Nat) (x0 x1 : Nat) (x2 x3 : Int32) (x6 x7 x8 : Nat) (x9 x10 x12 : Int32) (x13 x14 x15 x16 : Nat) (x17 x18 : Int32) (h : zz_H) (n : Nat) (A : A_1196 t0 base b L xs (B + 1) x0 x1 x2 x3 x6 x7 x8 x9 x10 x12 x13 x14 x15 x16 x17 x18 h n) : w_1196 t0 x0 x1 x2 x3 x6 x7 x8 x9 x10 x12 x13 x14 x15 x16 x17 x18 h n (A_1196 t0 base b L xs B) (A_1311 t0 base b L xs B) := by
  obtain ⟨c, r, d, lc, k, m, ow, μ, ν, rfl, rfl, rfl, rfl, rfl, rfl, rfl, rfl, rfl, hlc, hd, hk, hm, hB, ⟨J, eb, hL⟩, F, p146, AA, LL, DD, hν, o3, o8, o15⟩ := A
  have hc4 := F.2.2.1
  have hr4 := F.2.2.2.1
  unfold w_1196
  refine ⟨fun g => ?_, fun g => ?_⟩
  · exact ⟨c, r, d, lc, ow, μ, ν, rfl, rfl, rfl, rfl, rfl, rfl, rfl, hm.symm, hlc, hd, by omega, ⟨J, eb, hL⟩, F, p146, AA, LL, DD, hν, o3, o8, o15⟩
  · have g : k < 6 := by
      rw [show (6 : Int32) = Int32.ofNat 6 from rfl, on_le _ _ (by omega) (by omega)] at g
      omega
    rw [show (102 : Int32) + Int32.ofNat k = Int32.ofNat (102 + k) from on_a 102 k, show (108 : Int32) + Int32.ofNat k = Int32.ofNat (108 + k) from on_a 108 k, show (114 : Int32) + Int32.ofNat k = Int32.ofNat (114 + k) from on_a 114 k]
    refine zp_i (J_in J eb hL (by omega) (by omega)) (zp_i (J_in J eb hL (by omega) (by omega)) ?_)
    have hX := zin_lt (L := L) (xs := xs) (k := 102 + k) (m := c) (by omega)
    have hY := zin_lt (L := L) (xs := xs) (k := 108 + k) (m := r) (by omega)
    generalize zin L xs (102 + k) c = X at hX ⊢
    generalize zin L xs (108 + k) r = Y at hY ⊢
    refine zp_i (J_aq J DD hX) (zp_i (J_ai J (DD.2 X hX) hY) (fun w hw => ?_))
    refine zp_i (J_aq J DD hX) (zp_i (J_in J eb hL (m := 30) (by omega) (by omega)) ?_)
    have ht := zin_lt (L := L) (xs := xs) (k := 114 + k) (m := 30) (by omega)
    obtain ⟨t, et⟩ : ∃ t, t = 1 + zin L xs (114 + k) 30 := ⟨_, rfl⟩
    rw [show (1 : Int32) + Int32.ofNat (zin L xs (114 + k) 30) = Int32.ofNat t by rw [et]; exact on_a 1 _]
    obtain ⟨ow1, h1, e1, J1, b1, w1⟩ := J_si J (DD.2 X hX) (v := Int32.ofNat t) hY (by omega)
    refine zp_i e1 ?_
    have D1 := A2_w DD hX b1 w1
    have rr : ∀ {α : Type} {K : Int32 → Option α}, zz_ai 0 h1 (some (x16 + 1 + X)) (Int32.ofNat Y) K = K (Int32.ofNat t) := by
      intro α K
      rw [J_ai J1 b1 hY]
      exact congrArg K (if_pos rfl)
    refine zp_i (J_aq J1 D1 hX) (zp_i rr ?_)
    have ht9 : ¬ Int32.ofNat t < 1 ∧ ¬ (30 : Int32) < Int32.ofNat t := ra_n (a := 1) (c := 30) (by omega)
    rw [show (10 : Int32) * Int32.ofNat X + Int32.ofNat Y = Int32.ofNat (10 * X + Y) by rw [nlt10, on_m, on_a]]
    have ev := em_draw_v (JJ_q J1) (x := X) (y := Y) (by rw [Fa_C F]; exact hX) (by rw [Fa_R F]; exact hY) ht9 (Fa_la F) (Fa_sg F) (by rw [hm]; exact pne (b := 12) (by omega))
    have hV := (JJ_q J).2.2.2.2.2.2.1.2.2.2.1 X Y (by omega) (by omega)
    have i0 : (0 : Int32).toInt = 0 := rfl
    have em : tDr (zset μ (111 + 7 * 0 + X) Y (Int32.ofNat t)) 0 = Int32.ofNat m + w := by
      rw [tDr_u (by omega) (by omega), hm, hw]
      congr 1
      rw [if_neg (show ¬ Int32.ofNat t ≤ 0 from nle (b := 0) (by omega))]
      by_cases g0 : μ (111 + 7 * 0 + X) Y = 0
      · rw [if_pos g0, if_pos (by rw [g0]; decide)]
        rfl
      · have : ¬ μ (111 + 7 * 0 + X) Y ≤ 0 := fun q => g0 (by
          apply Int32.toInt_inj.mp
          rw [Int32.le_iff_toInt_le, i0] at q
          omega)
        rw [if_neg g0, if_neg this]
        rfl
    obtain ⟨m', hm', ew⟩ : ∃ m', (m' = m ∨ m' = m + 1) ∧ Int32.ofNat m + w = Int32.ofNat m' := by
      rw [hw]
      by_cases g0 : μ (111 + 7 * 0 + X) Y = 0
      · exact ⟨m + 1, Or.inr rfl, by rw [if_pos g0]; exact on_s m⟩
      · exact ⟨m, Or.inl rfl, by rw [if_neg g0]; exact Int32.add_zero _⟩
    refine zlw JJ_n (cv_draw J1 ev (by rw [zset_e (by omega)]; exact J1.1)) (fun h2 n2 J2 => ⟨em, ?_⟩)
    rw [on_s, ew]
    rw [ew] at em
    have mo : ∀ o i, (o < 111 ∨ 117 ≤ o) → zset μ (111 + 7 * 0 + X) Y (Int32.ofNat t) o i = μ o i := fun o i k1 => zset_e (by omega)
    have a13 := LL
    obtain ⟨g1, g2, g3, -, -, -, -, q1, q2⟩ := a13
    refine ⟨c, r, d, lc, k + 1, m', ow1, _, ν, rfl, rfl, rfl, rfl, (Qt_m (fun o i hi => mo o i (by omega))).symm, rfl, rfl, rfl, rfl, hlc, hd, by omega, em, by omega, ⟨J2, by rw [w1 _ (by have := AA.2.2.2; omega)]; exact eb, hL⟩, Fa_z (by omega) F, (mo _ _ (by omega)).trans p146, AR_m (by omega) (fun o i hi => mo o i (by omega)) (AR_o (fun q hq => w1 _ (by omega)) AA), LA_m (fun o i hi => mo o i (by omega)) (LA_o (fun q hq => w1 _ (by omega)) LL), A2_c D1 (fun x y hx hy => ?_), hν, o3, o8, o15⟩
    by_cases e : x = X
    · rw [if_pos e, e]
      by_cases e2 : y = Y
      · rw [if_pos e2, e2, zset_h]
      · rw [if_neg e2, zset_e (by omega)]
    · rw [if_neg e, zset_e (by omega)]
/-- folds, as the law counts them -/
def fo (e one two : Int32) : Int32 := if one ≤ 0 then 0 else if two ≤ 0 then 0 else if e = 0 then 1 else if 3 < zz_abs (one - two) then 0 else 1
theorem tFo_t {X Y : Nat} {e : Int32} : tFo μ 0 X Y true e = fo e (μ (111 + 7 * 0 + X) Y) (if Y < 5 then μ (111 + 7 * 0 + (X + 1)) (Y + 1) else 0) := rfl
theorem tFo_f {X Y : Nat} {e : Int32} : tFo μ 0 X Y false e = fo e (μ (111 + 7 * 0 + X) Y) (if 0 < Y then μ (111 + 7 * 0 + (X + 1)) (Y - 1) else 0) := rfl
theorem ab_3 {a b : Int32} (ha : 0 ≤ a.toInt ∧ a.toInt ≤ 30) (hb : 0 ≤ b.toInt ∧ b.toInt ≤ 30) : (3 < zz_abs (a - b)) ↔ (3 < b - a ∨ 3 < a - b) := by
  have i0 : (0 : Int32).toInt = 0 := rfl
  have i3 : (3 : Int32).toInt = 3 := rfl
  have e1 := sub_I a b (by omega) (by omega)
  have e2 := sub_I b a (by omega) (by omega)
  have e3 : (0 - (a - b)).toInt = b.toInt - a.toInt := by
    rw [sub_I _ _ (by omega) (by omega), e1, i0]
    omega
  show 3 < (if 0 ≤ a - b then a - b else 0 - (a - b)) ↔ _
  rw [Int32.lt_iff_toInt_lt, Int32.lt_iff_toInt_lt, Int32.lt_iff_toInt_lt, i3, e1, e2]
  by_cases g : 0 ≤ a - b
  · rw [if_pos g, e1]
    rw [Int32.le_iff_toInt_le, i0, e1] at g
    omega
  · rw [if_neg g, e3]
    rw [Int32.le_iff_toInt_le, i0, e1] at g
    omega
theorem zfor3 {γ : Type} {bd : Int32 × Int32 × Int32 → Option ((Int32 × Int32 × Int32) ⊕ γ)} {q : γ} (N : Nat) (f g : Nat → Int32) (a a' : Int32) (h1 : ∀ i, i < N → ∀ v w, bd (v, w, Int32.ofNat i) = some (.inl (v + f i, w + g i, Int32.ofNat i + 1))) (h2 : bd (a + sm f N, a' + sm g N, Int32.ofNat N) = some (.inr q)) (hN : N < 100000 := by omega) : zz_it bd zz_F (a, a', (0 : Int32)) = some q := by
  have e := zfor (b := bd) (r := q) N (fun i => (a + sm f i, a' + sm g i, Int32.ofNat i)) (fun i hi => by
    show bd (a + sm f i, a' + sm g i, Int32.ofNat i) = _
    rw [h1 i hi, on_s, Int32.add_assoc, Int32.add_assoc]
    rfl) h2 hN
  have e0 : ((a + sm f 0, a' + sm g 0, Int32.ofNat 0) : Int32 × Int32 × Int32) = (a, a', (0 : Int32)) := by
    rw [sm_0, sm_0, Int32.add_zero, Int32.add_zero]
    rfl
  rw [← e0]
  exact e
theorem r_1389 (J : JJ t0 base ow μ ν 1 nK H h n) {x16 : Nat} (A : A2 ow x16 c r (fun x y => μ (111 + 7 * 0 + x) y)) (hc : c ≤ 4) (hr : r ≤ 4) {x0 x1 x6 x7 x8 x13 x14 x15 : Nat} {x2 x3 x9 x10 x12 p q u two : Int32} {X Y : Nat} (hX : X < c) (hY : Y < r) (h2 : 0 ≤ two.toInt ∧ two.toInt ≤ 30) : f_L_law_1389 x0 x1 x2 x3 x6 x7 x8 x9 x10 x12 x13 x14 x15 x16 p q (Int32.ofNat X) (Int32.ofNat Y) u two h = some (.inl (p + fo 0 (μ (111 + 7 * 0 + X) Y) two, q + fo 1 (μ (111 + 7 * 0 + X) Y) two, u + 2)) := by
  have hV := (JJ_q J).2.2.2.2.2.2.1.2.2.2.1 X Y (by omega) (by omega)
  have no : ∀ e, (two ≤ 0 ∨ μ (111 + 7 * 0 + X) Y ≤ 0) → fo e (μ (111 + 7 * 0 + X) Y) two = 0 := by
    intro e hh
    unfold fo
    by_cases g1 : μ (111 + 7 * 0 + X) Y ≤ 0
    · rw [if_pos g1]
    · rw [if_neg g1, if_pos (hh.resolve_right g1)]
  have z : f_L_law_1411 x0 x1 x2 x3 x6 x7 x8 x9 x10 x12 x13 x14 x15 x16 p q (Int32.ofNat X) (Int32.ofNat Y) u two h = some (.inl (p + 0, q + 0, u + 2)) := by
    unfold f_L_law_1411 f_L_law_1412 f_L_law_1426 f_L_law_1470 f_L_law_1471
    rw [if_pos rfl, if_pos rfl]
  unfold f_L_law_1389
  by_cases g1 : two ≤ 0
  · rw [if_pos g1, z, no 0 (Or.inl g1), no 1 (Or.inl g1)]
  · rw [if_neg g1, J_aq J A hX, J_ai J (A.2 X hX) hY]
    dsimp only
    by_cases g2 : μ (111 + 7 * 0 + X) Y ≤ 0
    · rw [if_pos g2, z, no 0 (Or.inr g2), no 1 (Or.inr g2)]
    · rw [if_neg g2]
      have f0 : fo 0 (μ (111 + 7 * 0 + X) Y) two = 1 := by
        unfold fo
        rw [if_neg g2, if_neg g1, if_pos rfl]
      have f1 : fo 1 (μ (111 + 7 * 0 + X) Y) two = if 3 < zz_abs (μ (111 + 7 * 0 + X) Y - two) then 0 else 1 := by
        unfold fo
        rw [if_neg g2, if_neg g1, if_neg (by decide)]
      unfold f_L_law_1412 f_L_law_1426 f_L_law_1470 f_L_law_1471
      rw [if_neg (by decide), if_neg (by decide), J_aq J A hX, J_ai J (A.2 X hX) hY, f0, f1]
      dsimp only
      by_cases g3 : 3 < two - μ (111 + 7 * 0 + X) Y
      · rw [if_pos g3, if_pos ((ab_3 hV h2).mpr (Or.inl g3))]
      · rw [if_neg g3, J_aq J A hX, J_ai J (A.2 X hX) hY]
        dsimp only
        by_cases g4 : 3 < μ (111 + 7 * 0 + X) Y - two
        · rw [if_pos g4, if_pos ((ab_3 hV h2).mpr (Or.inr g4))]
        · rw [if_neg g4, if_neg (fun q => ((ab_3 hV h2).mp q).elim g3 g4)]
theorem r_1340 (J : JJ t0 base ow μ ν 1 nK H h n) {x16 : Nat} (A : A2 ow x16 c r (fun x y => μ (111 + 7 * 0 + x) y)) (hc : c ≤ 4) (hr : r ≤ 4) (hC : nC μ 0 = c) (hR : nR μ 0 = r) {x0 x1 x6 x7 x8 x13 x14 x15 : Nat} {x2 x9 x10 x12 p q : Int32} {X Y : Nat} (hX : X + 1 < c) (hY : Y < r) : f_L_law_1340 x0 x1 x2 (Int32.ofNat r) x6 x7 x8 x9 x10 x12 x13 x14 x15 x16 p q (Int32.ofNat X) (Int32.ofNat Y) h = some (.inl (p + (tFo μ 0 X Y false 0 + tFo μ 0 X Y true 0), q + (tFo μ 0 X Y false 1 + tFo μ 0 X Y true 1), Int32.ofNat Y + 1)) := by
  have hV := (JJ_q J).2.2.2.2.2.2.1.2.2.2.1
  have hO := (JJ_q J).2.2.2.2.2.1.2.1
  unfold f_L_law_1340
  rw [if_neg (nle (by omega))]
  have e := zfor (b := fun s : (Int32 × Int32 × Int32) => f_L_law_1349 x0 x1 x2 (Int32.ofNat r) x6 x7 x8 x9 x10 x12 x13 x14 x15 x16 s.1 s.2.1 (Int32.ofNat X) (Int32.ofNat Y) s.2.2 h) (r := .inl (p + (tFo μ 0 X Y false 0 + tFo μ 0 X Y true 0), q + (tFo μ 0 X Y false 1 + tFo μ 0 X Y true 1), Int32.ofNat Y + 1)) 2 (fun i => match i with
    | 0 => (p, q, (-1 : Int32))
    | 1 => (p + tFo μ 0 X Y false 0, q + tFo μ 0 X Y false 1, (1 : Int32))
    | _ => (p + tFo μ 0 X Y false 0 + tFo μ 0 X Y true 0, q + tFo μ 0 X Y false 1 + tFo μ 0 X Y true 1, (3 : Int32))) (fun i hi => by
      match i, hi with
      | 0, _ =>
        show f_L_law_1349 x0 x1 x2 (Int32.ofNat r) x6 x7 x8 x9 x10 x12 x13 x14 x15 x16 p q (Int32.ofNat X) (Int32.ofNat Y) (-1) h = some (.inl (p + tFo μ 0 X Y false 0, q + tFo μ 0 X Y false 1, (1 : Int32)))
        unfold f_L_law_1349
        rw [if_neg (by decide), tFo_f, tFo_f]
        by_cases g : 0 < Y
        · rw [show Int32.ofNat Y + -1 = Int32.ofNat (Y - 1) by rw [← Int32.sub_eq_add_neg]; exact on_p Y g, if_neg (on_nn _ (by omega)), if_neg (nle (by omega)), on_s, J_aq J A hX, J_ai J (A.2 _ hX) (i := Y - 1) (by omega), if_pos g]
          dsimp only
          rw [r_1389 J A hc hr (by omega) hY (hV _ _ (by omega) (by omega))]
          rfl
        · rw [show Y = 0 by omega, if_pos (by decide), if_neg (by omega)]
          unfold f_L_law_1388
          rw [show (0 : Int32) = Int32.ofNat 0 from rfl, r_1389 J A hc hr (by omega) (by omega) (by decide)]
          rfl
      | 1, _ =>
        show f_L_law_1349 x0 x1 x2 (Int32.ofNat r) x6 x7 x8 x9 x10 x12 x13 x14 x15 x16 (p + tFo μ 0 X Y false 0) (q + tFo μ 0 X Y false 1) (Int32.ofNat X) (Int32.ofNat Y) 1 h = some (.inl (p + tFo μ 0 X Y false 0 + tFo μ 0 X Y true 0, q + tFo μ 0 X Y false 1 + tFo μ 0 X Y true 1, (3 : Int32)))
        unfold f_L_law_1349
        rw [if_neg (by decide), on_s, if_neg (on_nn _ (by omega)), tFo_t (e := 0), tFo_t (e := 1), if_pos (show Y < 5 by omega)]
        by_cases g : r ≤ Y + 1
        · rw [if_pos (ple (by omega)), hO (X + 1) (Y + 1) (by omega) (by omega) (by omega)]
          unfold f_L_law_1388
          rw [r_1389 J A hc hr (by omega) hY (by decide)]
          rfl
        · rw [if_neg (nle (by omega)), on_s, J_aq J A hX, J_ai J (A.2 _ hX) (i := Y + 1) (by omega)]
          dsimp only
          rw [r_1389 J A hc hr (by omega) hY (hV _ _ (by omega) (by omega))]
          rfl) (by
      show f_L_law_1349 x0 x1 x2 (Int32.ofNat r) x6 x7 x8 x9 x10 x12 x13 x14 x15 x16 (p + tFo μ 0 X Y false 0 + tFo μ 0 X Y true 0) (q + tFo μ 0 X Y false 1 + tFo μ 0 X Y true 1) (Int32.ofNat X) (Int32.ofNat Y) 3 h = _
      unfold f_L_law_1349
      rw [if_pos (by decide), on_s, Int32.add_assoc, Int32.add_assoc]) (by omega)
  exact e
end ZLG
