section ZLA
/-! what holds at the law's cuts: the loop that puts the heights -/
variable {t0 base b L : Nat} {xs : Nat → Int32} {ow ow' : zz_H} {μ μ' : zzM} {ν ν' : zzN} {H : Int} {nK : Nat} {h h' : zz_H} {n n' : Nat} {c r d l : Nat} {la sg : Int32}
theorem zp_i {α : Type} {x : Option α} {v : α} {K : α → Prop} (e : x = some v) (k : K v) : zp x K := ⟨v, e, k⟩
def CX (t0 base b L : Nat) (xs : Nat → Int32) (ow : zz_H) (μ : zzM) (ν : zzN) (nK : Nat) (H : Int) (h : zz_H) (n : Nat) : Prop := JJ t0 base ow μ ν 1 nK H h n ∧ ow b = some (zz_I 12 L xs) ∧ L ≤ 260
theorem tH_0 (h : μ 3 0 ≤ 1) {x y : Nat} : tH μ 0 x y = 0 := if_pos h
/-- heights not yet changed; all ties loose -/
def Hx (μ : zzM) (c r X Y : Nat) (v : Int32) : Prop := (∀ x y, x < c → y < r → (X < x ∨ (X = x ∧ Y ≤ y)) → μ (17 + 7 * 0 + x) y = v) ∧ ∀ k, k < 6 → μ (74 + 0) k = 99 ∧ μ (79 + 0) k = 99
def A_226 (t0 base b L : Nat) (xs : Nat → Int32) (B : Nat) (x0 x1 : Nat) (x2 x3 x5 : Int32) (x6 x7 x8 : Nat) (x9 x10 : Int32) (h : zz_H) (n : Nat) : Prop :=
  ∃ c r X Y ow μ ν, x0 = b ∧ x1 = base ∧ x2 = Int32.ofNat c ∧ x3 = Int32.ofNat r ∧ x9 = Int32.ofNat X ∧ x10 = Int32.ofNat Y ∧ X < c ∧ Y ≤ r ∧ (¬ x5 < 20 ∧ ¬ (99 : Int32) < x5) ∧ (4 - Y) + 1 + 6 * (4 - (X + 1)) + 145 ≤ B ∧
  CX t0 base b L xs ow μ ν 0 0 h n ∧ Fa μ c r 2 0 115 0 ∧ Hx μ c r X Y x5 ∧ Pb μ ∧
  A2 ow x6 c r (fun x y => if x < X ∨ (x = X ∧ y < Y) then μ (17 + 7 * 0 + x) y else 0) ∧ A1 ow x7 0 c (fun i => if i ≤ X then 99 else 0) ∧ A1 ow x8 0 r (fun i => if 0 < X ∨ i < Y then 99 else 0) ∧ x6 + c < x7 ∧ x7 < x8 ∧ b < x6
def A_210 (t0 base b L : Nat) (xs : Nat → Int32) (B : Nat) (x0 x1 : Nat) (x2 x3 x5 : Int32) (x6 x7 x8 : Nat) (x9 : Int32) (h : zz_H) (n : Nat) : Prop :=
  ∃ c r X ow μ ν, x0 = b ∧ x1 = base ∧ x2 = Int32.ofNat c ∧ x3 = Int32.ofNat r ∧ x9 = Int32.ofNat X ∧ X ≤ c ∧ (¬ x5 < 20 ∧ ¬ (99 : Int32) < x5) ∧ 6 * (4 - X) + 145 ≤ B ∧
  CX t0 base b L xs ow μ ν 0 0 h n ∧ Fa μ c r 2 0 115 0 ∧ Hx μ c r X 0 x5 ∧ Pb μ ∧
  A2 ow x6 c r (fun x y => if x < X then μ (17 + 7 * 0 + x) y else 0) ∧ A1 ow x7 0 c (fun i => if i < X then 99 else 0) ∧ A1 ow x8 0 r (fun i => if 0 < X then 99 else 0) ∧ x6 + c < x7 ∧ x7 < x8 ∧ b < x6
theorem b_0 (ht : t0 < base) (hb : b < base) (hbt : t0 ≠ b) (hL : L ≤ 260) : w_0 t0 b (zs_h t0 b L xs) base (A_210 t0 base b L xs 2899) := by
  obtain ⟨l, e0, lx⟩ := x9 ht hb (L := L) (xs := xs)
  have z : ∀ o i, o < 178 → mu0 o i = 0 := fun o i h => mu0_z (by omega) (by omega)
  have J : JJ t0 base (zs_o b L xs) mu0 nu0 0 0 0 (AL (zs_o b L xs) t0 base l) (base + 14) := ⟨z _ _ (by omega), _, _, _, _, _, S0_0 ht hb hbt lx, RR_0, LV_0⟩
  have eb : zs_o b L xs b = some (zz_I 12 L xs) := if_pos rfl
  unfold w_0
  refine ⟨_, _, e0, ?_⟩
  generalize AL (zs_o b L xs) t0 base l = h4 at J ⊢
  generalize zs_o b L xs = ow at J eb ⊢
  generalize base + 14 = n4 at J ⊢
  refine zp_i (J_in J eb hL (k := 0) (m := 4) (by omega) (by omega)) (zp_i (J_in J eb hL (k := 1) (m := 4) (by omega) (by omega)) ?_)
  obtain ⟨c, hc⟩ : ∃ c, c = 1 + zin L xs 0 4 := ⟨_, rfl⟩
  obtain ⟨r, hr⟩ : ∃ r, r = 1 + zin L xs 1 4 := ⟨_, rfl⟩
  have hc4 : 1 ≤ c ∧ c ≤ 4 := by have := zin_lt (L := L) (xs := xs) (k := 0) (m := 4) (by omega); omega
  have hr4 : 1 ≤ r ∧ r ≤ 4 := by have := zin_lt (L := L) (xs := xs) (k := 1) (m := 4) (by omega); omega
  have ec : (1 : Int32) + Int32.ofNat (zin L xs 0 4) = Int32.ofNat c := by rw [hc]; exact on_a 1 _
  have er : (1 : Int32) + Int32.ofNat (zin L xs 1 4) = Int32.ofNat r := by rw [hr]; exact on_a 1 _
  rw [ec, er]
  clear ec er hc hr
  -- a seat of seven columns
  refine zlw JJ_n (ce_seat J (Or.inr ⟨by decide, by decide⟩)) (fun h30 n30 J => ⟨rfl, ?_⟩)
  refine zlw JJ_n (cv_seat J (by omega) (by omega) (by omega)) (fun h41 n41 J => ⟨rfl, ?_⟩)
  obtain ⟨μ, hμ⟩ : ∃ μ, μ = zset (zset (zset (zset mu0 1 0 (Int32.ofNat c)) 2 0 (Int32.ofNat r)) 146 0 20) 0 30 (Int32.ofNat (0 + 1)) := ⟨_, rfl⟩
  rw [← hμ] at J
  have J : JJ t0 base ow μ nu0 1 0 0 h41 n41 := J
  have mz : ∀ o i, ¬ (o = 1 ∧ i = 0) → ¬ (o = 2 ∧ i = 0) → ¬ (o = 146 ∧ i = 0) → ¬ (o = 0 ∧ i = 30) → o < 178 → μ o i = 0 := fun o i a1 a2 a3 a4 a5 => by rw [hμ, zset_e a4, zset_e a3, zset_e a2, zset_e a1, z _ _ a5]
  have F : Fa μ c r 0 0 45 1 := by
    have e3 : nD μ 0 = 0 := by
      unfold nD
      rw [mz 3 0 (by omega) (by omega) (by omega) (by omega) (by omega)]
      rfl
    refine ⟨by rw [hμ, zset_e (by omega), zset_e (by omega), zset_e (by omega), zset_h], by rw [hμ, zset_e (by omega), zset_e (by omega), zset_h], hc4, hr4, e3, ?_, ?_, ?_⟩
    · unfold nL
      rw [mz 83 0 (by omega) (by omega) (by omega) (by omega) (by omega)]
      rfl
    · unfold tLast
      rw [if_pos e3]
    · unfold tSg
      rw [if_pos e3]
  have P : Pb μ := ⟨fun x y hx hy => mz _ _ (by omega) (by omega) (by omega) (by omega) (by omega), by rw [hμ, zset_e (by omega), zset_h]⟩
  have m30 : μ 3 0 = 0 := mz _ _ (by omega) (by omega) (by omega) (by omega) (by omega)
  clear hμ mz
  generalize nu0 = ν at J
  have h3 : μ 3 0 ≤ 1 := by rw [m30]; decide
  have e10 : Int32.ofNat c * 10 = Int32.ofNat (10 * c) := by rw [nlt10, on_m, Nat.mul_comm]
  refine zlw JJ_n (cv_stands J (em_stands_v (JJ_q J) (x := 0) (y := 0) (by rw [Fa_C F]; omega) (by rw [Fa_R F]; omega)) J.1) (fun h50 n50 J => ⟨tH_0 h3, ?_⟩)
  rw [e10]
  refine zlw JJ_n (ce_stands J (em_stands_r (JJ_q J) (by rw [Fa_C F]; omega) (by omega)) (by decide)) (fun h62 n62 J => ⟨rfl, ?_⟩)
  refine zlw JJ_n (ce_sign J (em_sign_r (JJ_q J) (Fa_sg F)) (by decide)) (fun h72 n72 J => ⟨rfl, ?_⟩)
  refine zlw JJ_n (ce_spring J (em_spring_n (JJ_q J) ⟨by decide, by decide⟩ ⟨by decide, by decide⟩ (Or.inr (Fa_can F (by decide)))) (by decide)) (fun h85 n85 J => ⟨rfl, ?_⟩)
  have eq : tQu μ 0 (if μ 3 0 ≤ 1 then 0 else 5 * μ 1 0 * μ 2 0) = 0 := by
    unfold tQu
    rw [if_pos h3, if_pos h3, Fa_L F, tDr_0 P, Fa_la F, if_neg (by decide)]
    rfl
  refine zlw JJ_n (cv_quote J (em_quote_v (JJ_q J)) J.1) (fun h95 n95 J => ⟨eq, ?_⟩)
  refine zp_i (J_in J eb hL (k := 2) (m := 80) (by omega) (by omega)) ?_
  have hh := zin_lt (L := L) (xs := xs) (k := 2) (m := 80) (by omega)
  obtain ⟨g, hg⟩ : ∃ g, g = 20 + zin L xs 2 80 := ⟨_, rfl⟩
  have eg : (20 : Int32) + Int32.ofNat (zin L xs 2 80) = Int32.ofNat g := by rw [hg]; exact on_a 20 _
  rw [eg]
  have hg9 : ¬ Int32.ofNat g < 20 ∧ ¬ (99 : Int32) < Int32.ofNat g := ra_n (a := 20) (c := 99) (by omega)
  clear eg hg hh
  refine zlw JJ_n (ce_web J (em_web_r (JJ_q J) (Or.inr ⟨by decide, by decide⟩)) (by decide)) (fun h126 n126 J => ⟨rfl, ?_⟩)
  refine zp_i (J_in J eb hL (k := 3) (m := 9) (by omega) (by omega)) ?_
  have hw := zin_lt (L := L) (xs := xs) (k := 3) (m := 9) (by omega)
  have ew : (1 : Int32) + Int32.ofNat (zin L xs 3 9) = Int32.ofNat (1 + zin L xs 3 9) := on_a 1 _
  rw [ew]
  have ev := em_web_v (JJ_q J) (ra_n (a := 1) (b := 1 + zin L xs 3 9) (c := 9) (by omega)) (Fa_sg F) (Fa_can F (by decide)) (by rw [Fa_D F]; omega)
  rw [Fa_D F] at ev
  refine zlw JJ_n (cv_web J ev (by rw [mDone_e (by omega) (by omega) (by omega), zset_e (by omega)]; exact J.1)) (fun h146 n146 J => ?_)
  have F1 := Fa_done (a := 119) (Fa_z (o := 14) (i := 0) (v := Int32.ofNat (1 + zin L xs 3 9)) (by omega) F) (by omega)
  have P1 : Pb (mDone (zset μ 14 0 (Int32.ofNat (1 + zin L xs 3 9))) 0 119) := Pb_m (fun o i hi => by rw [mDone_e (by omega) (by omega) (by omega), zset_e (by omega)]) P
  clear ev F P m30 h3 eq
  generalize mDone (zset μ 14 0 (Int32.ofNat (1 + zin L xs 3 9))) 0 119 = μ at J F1 P1
  refine zlw JJ_n (cv_done J F1 (by omega)) (fun h150 n150 J => ⟨by decide, ?_⟩)
  have F2 := Fa_sign F1
  have P2 : Pb (zset μ (10 + 0) 0 1) := Pb_m (fun o i hi => zset_e (by omega)) P1
  clear F1 P1
  generalize zset μ (10 + 0) 0 1 = μ at J F2 P2
  refine zlw JJ_n (ce_spring J (em_spring_r (JJ_q J) (Or.inl (by decide))) (by decide)) (fun h161 n161 J => ⟨rfl, ?_⟩)
  have ev := em_spring_v (JJ_q J) (y := 5) hg9 ⟨by decide, by decide⟩ (Fa_sg F2) (Fa_can F2 (by decide)) (by rw [Fa_D F2]; omega)
  rw [Fa_D F2] at ev
  have mo : ∀ o i, ¬ (17 ≤ o ∧ o < 23) → ¬ (46 ≤ o ∧ o < 52) → o ≠ 74 → o ≠ 79 → mLoos (mSpr μ 0 (Int32.ofNat g) 5 36) 0 6 o i = μ o i := fun o i a1 a2 a3 a4 => by rw [mLoos_o (by omega) (by omega), mSpr_o (by omega) (by omega)]
  have F3 : Fa (mLoos (mSpr μ 0 (Int32.ofNat g) 5 36) 0 6) c r 1 0 119 1 := Fa_m (fun o i hi => mo o i (by omega) (by omega) (by omega) (by omega)) F2
  refine zlw JJ_n (cv_spring J ev (by rw [mDone_e (by omega) (by omega) (by omega), mo _ _ (by omega) (by omega) (by omega) (by omega)]; exact J.1)) (fun h174 n174 J => ⟨rfl, ?_⟩)
  have F4 := Fa_done (a := 115) F3 (by omega)
  have P4 : Pb (mDone (mLoos (mSpr μ 0 (Int32.ofNat g) 5 36) 0 6) 0 115) := Pb_m (fun o i hi => by rw [mDone_e (by omega) (by omega) (by omega), mo _ _ (by omega) (by omega) (by omega) (by omega)]) P2
  have X4 : Hx (mDone (mLoos (mSpr μ 0 (Int32.ofNat g) 5 36) 0 6) 0 115) c r 0 0 (Int32.ofNat g) := by
    refine ⟨fun x y hx hy _ => ?_, fun k hk => ⟨?_, ?_⟩⟩
    · rw [mDone_e (by omega) (by omega) (by omega), mLoos_o (by omega) (by omega)]
      unfold mSpr
      exact if_pos (by omega)
    · rw [mDone_e (by omega) (by omega) (by omega)]
      unfold mLoos
      exact if_pos (by omega)
    · rw [mDone_e (by omega) (by omega) (by omega)]
      unfold mLoos
      exact if_pos (by omega)
  clear ev mo F2 F3 P2
  generalize mDone (mLoos (mSpr μ 0 (Int32.ofNat g) 5 36) 0 6) 0 115 = μ at J F4 P4 X4
  refine znw_r hc4.2 (znw_r hr4.2 (znw_r hc4.2 (znw_r hr4.2 ?_)))
  obtain ⟨J1, a1, o1⟩ := J_new2 J (c := c) (r := r)
  obtain ⟨J2, a2, o2⟩ := J_new J1 (t := 0) (N := c)
  obtain ⟨J3, a3, o3⟩ := J_new J2 (t := 0) (N := r)
  have hbn := (JJ_ow J eb).2
  refine ⟨c, r, 0, _, μ, ν, rfl, rfl, rfl, rfl, rfl, by omega, hg9, by omega, ⟨J3, ?_, hL⟩, F4, X4, P4, ?_, ?_, ?_, by omega, by omega, by omega⟩
  · rw [o3 _ (by omega), o2 _ (by omega), o1 _ (by omega)]
    exact eb
  · refine A2_c (A2_f a1 (fun q q1 q2 => ?_)) (fun x y hx hy => ?_)
    · rw [o3 _ (by omega), o2 _ (by omega)]
    · exact (if_neg (by omega)).symm
  · exact A1_c (A1_f a2 (o3 _ (by omega))) (fun i hi => (if_neg (by omega)).symm)
  · exact A1_c a3 (fun i hi => (if_neg (by omega)).symm)
end ZLA
