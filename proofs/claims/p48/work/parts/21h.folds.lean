section ZLH
variable {t0 base b L : Nat} {xs : Nat → Int32} {ow ow' : zz_H} {μ μ' : zzM} {ν ν' : zzN} {H : Int} {nK : Nat} {h h' : zz_H} {n n' : Nat} {c r d l : Nat} {la sg : Int32}
def fS (μ : zzM) (e : Int32) (c r : Nat) : Int32 := sm (fun x => sm (fun y => tFo μ 0 x y false e + tFo μ 0 x y true e) r) (c - 1)
theorem r_1320 (J : JJ t0 base ow μ ν 1 nK H h n) {x16 : Nat} (A : A2 ow x16 c r (fun x y => μ (111 + 7 * 0 + x) y)) (hc : 1 ≤ c ∧ c ≤ 4) (hr : 1 ≤ r ∧ r ≤ 4) (hC : nC μ 0 = c) (hR : nR μ 0 = r) {x0 x1 x6 x7 x8 x13 x14 x15 : Nat} {x9 x10 x12 : Int32} : f_L_law_1320 x0 x1 (Int32.ofNat c) (Int32.ofNat r) x6 x7 x8 x9 x10 x12 x13 x14 x15 x16 h = some (.inl (fS μ 0 c r, fS μ 1 c r)) := by
  unfold f_L_law_1320
  refine zfor3 (c - 1) (fun X => sm (fun Y => tFo μ 0 X Y false 0 + tFo μ 0 X Y true 0) r) (fun X => sm (fun Y => tFo μ 0 X Y false 1 + tFo μ 0 X Y true 1) r) 0 0 (fun X hX v w => ?_) ?_
  · show f_L_law_1329 _ _ _ _ _ _ _ _ _ _ _ _ _ _ _ _ _ _ = _
    unfold f_L_law_1329
    rw [on_s, if_neg (nle (by omega))]
    refine zfor3 r (fun Y => tFo μ 0 X Y false 0 + tFo μ 0 X Y true 0) (fun Y => tFo μ 0 X Y false 1 + tFo μ 0 X Y true 1) v w (fun Y hY p q => ?_) ?_
    · exact r_1340 J A hc.2 hr.2 hC hR (by omega) hY
    · show f_L_law_1340 _ _ _ _ _ _ _ _ _ _ _ _ _ _ _ _ _ _ _ = _
      unfold f_L_law_1340
      rw [if_pos (ple (by omega)), on_s]
  · show f_L_law_1329 _ _ _ _ _ _ _ _ _ _ _ _ _ _ _ _ _ _ = _
    unfold f_L_law_1329
    rw [on_s, if_pos (ple (by omega)), Int32.zero_add, Int32.zero_add]
    rfl
theorem fo_1 {e one two : Int32} (h : one = 0) : fo e one two = 0 := by
  unfold fo
  rw [h]
  exact if_pos (by decide)
theorem fo_2 {e one two : Int32} (h : two = 0) : fo e one two = 0 := by
  unfold fo
  rw [h]
  by_cases g : one ≤ 0
  · rw [if_pos g]
  · rw [if_neg g, if_pos (by decide)]
theorem folds_e (J : JJ t0 base ow μ ν 1 nK H h n) (hc : 1 ≤ c ∧ c ≤ 4) (hr : 1 ≤ r ∧ r ≤ 4) (hC : nC μ 0 = c) (hR : nR μ 0 = r) (e : Int32) : zfd (fun a b => zfd (fun c d => d + tFo μ 0 a c true e) b 6) 0 5 + zfd (fun a b => zfd (fun c d => d + tFo μ 0 a c false e) b 6) 0 5 = fS μ e c r := by
  have hO := (JJ_q J).2.2.2.2.2.1.2.1
  have z : ∀ up x y, x < 5 → y < 6 → ¬ (x < c - 1 ∧ y < r) → tFo μ 0 x y up e = 0 := by
    intro up x y hx hy hn
    by_cases g : x < c ∧ y < r
    · cases up
      · rw [tFo_f]
        refine fo_2 ?_
        by_cases g2 : 0 < y
        · rw [if_pos g2]
          exact hO (x + 1) (y - 1) (by omega) (by omega) (by omega)
        · exact if_neg g2
      · rw [tFo_t]
        refine fo_2 ?_
        by_cases g2 : y < 5
        · rw [if_pos g2]
          exact hO (x + 1) (y + 1) (by omega) (by omega) (by omega)
        · exact if_neg g2
    · have := hO x y (by omega) (by omega) (by omega)
      cases up
      · rw [tFo_f]
        exact fo_1 this
      · rw [tFo_t]
        exact fo_1 this
  rw [sm2 (fun a c => tFo μ 0 a c true e), sm2 (fun a c => tFo μ 0 a c false e), sm2_w (c := c - 1) (r := r) (by omega) (by omega) (z true), sm2_w (c := c - 1) (r := r) (by omega) (by omega) (z false), Int32.add_comm, ← sm_a]
  unfold fS
  refine sm_e (fun x hx => ?_)
  exact (sm_a r).symm
theorem tQu_e (hn : ¬ μ 3 0 ≤ 1) : tQu μ 0 (if μ 3 0 ≤ 1 then 0 else 5 * μ 1 0 * μ 2 0) = Qt μ + 4 * tDr μ 0 + (if tLast μ 0 = 99 then μ 1 0 * μ 143 0 else 0) := by
  unfold tQu Qt
  rw [if_neg hn, if_neg hn]
/-- what holds in the rounds -/
def Rnd (t0 base b L : Nat) (xs : Nat → Int32) (μ : zzM) (ν : zzN) (c r lc k hs tol d : Nat) (la sg : Int32) (x0 x1 : Nat) (x2 x3 : Int32) (x6 x7 x8 : Nat) (x9 x12 : Int32) (x13 x14 x15 x16 : Nat) (x20 x22 x23 : Int32) (h : zz_H) (n : Nat) : Prop :=
  x0 = b ∧ x1 = base ∧ x2 = Int32.ofNat c ∧ x3 = Int32.ofNat r ∧ x9 = Qt μ + 4 * tDr μ 0 ∧ x12 = Int32.ofNat lc ∧ x20 = Int32.ofNat hs ∧ x22 = Int32.ofNat tol ∧ x23 = Int32.ofNat k ∧ (1 ≤ lc ∧ lc ≤ 4) ∧ (2 ≤ d ∧ d ≤ 9) ∧ (k ≤ 4 ∧ hs ≤ 9999 * k ∧ tol < 30) ∧ Fa μ c r d lc la sg ∧ (∃ ow, (JJ t0 base ow μ ν 1 1 (20000 * ((k + 1 : Nat) : Int)) h n ∧ ow b = some (zz_I 12 L xs) ∧ L ≤ 260) ∧ AR ow μ x6 x7 x8 c r ∧ LA ow μ x13 x14 x15 lc lc ∧ A2 ow x16 c r (fun x y => μ (111 + 7 * 0 + x) y)) ∧ (∀ i, i < lc → ν (100 + 0) i = (Int32.ofNat hs).toInt64) ∧ b < x6 ∧ x8 < x13 ∧ x15 < x16
def Clo (μ : zzM) (k d : Nat) (la sg : Int32) (x20 x21 x22 : Int32) : Prop := (k = 0 ∧ la = 98 ∧ sg = 1 ∧ d ≤ 8 ∧ μ 146 0 = 20 ∧ μ 169 0 = 2000 ∧ μ 170 0 = 1 ∧ μ 171 0 = 0 ∧ μ 172 0 = 0) ∨ (0 < k ∧ la = 99 ∧ x20 = μ 144 0 ∧ x21 = μ 145 0 ∧ x22 = μ 146 0)
def A_1597 (t0 base b L : Nat) (xs : Nat → Int32) (B : Nat) (x0 x1 : Nat) (x2 x3 : Int32) (x6 x7 x8 : Nat) (x9 x12 : Int32) (x13 x14 x15 x16 : Nat) (x20 x21 x22 x23 : Int32) (h : zz_H) (n : Nat) : Prop :=
  ∃ μ ν c r lc k hs tol d la sg, Rnd t0 base b L xs μ ν c r lc k hs tol d la sg x0 x1 x2 x3 x6 x7 x8 x9 x12 x13 x14 x15 x16 x20 x22 x23 h n ∧ Clo μ k d la sg x20 x21 x22 ∧ 30 * (4 - k) + 2 ≤ B
theorem z_1597 (x0 x1 : Nat) (x2 x3 : Int32) (x6 x7 x8 : Nat) (x9 x12 : Int32) (x13 x14 x15 x16 : Nat) (x20 x21 x22 x23 : Int32) (h : zz_H) (n : Nat) : ¬ A_1597 t0 base b L xs 0 x0 x1 x2 x3 x6 x7 x8 x9 x12 x13 x14 x15 x16 x20 x21 x22 x23 h n := by
  rintro ⟨μ, ν, c, r, lc, k, hs, tol, d, la, sg, -, -, hB⟩
  omega
theorem b_1311 (B : Nat) (x0 x1 : Nat) (x2 x3 : Int32) (x6 x7 x8 : Nat) (x9 x10 x12 : Int32) (x13 x14 x15 x16 : Nat) (x17 : Int32) (h : zz_H) (n : Nat) (A : A_1311 t0 base b L xs (B + 1) x0 x1 x2 x3 x6 x7 x8 x9 x10 x12 x13 x14 x15 x16 x17 h n) : w_1311 t0 x0 x1 x2 x3 x6 x7 x8 x9 x10 x12 x13 x14 x15 x16 x17 h n (A_1597 t0 base b L xs B) := by
  obtain ⟨c, r, d, lc, ow, μ, ν, rfl, rfl, rfl, rfl, rfl, rfl, rfl, rfl, hlc, hd, hB, ⟨J, eb, hL⟩, F, p146, AA, LL, DD, hν, o3, o8, o15⟩ := A
  have hc4 := F.2.2.1
  have hr4 := F.2.2.2.1
  unfold w_1311
  refine ⟨_, _, r_1320 J DD hc4 hr4 (Fa_C F) (Fa_R F), JJ_base J, _, cv_folds J (em_folds_v (JJ_q J) 0) J.1, folds_e J hc4 hr4 (Fa_C F) (Fa_R F) 0, JJ_base J, _, cv_folds J (em_folds_v (JJ_q J) 1) J.1, folds_e J hc4 hr4 (Fa_C F) (Fa_R F) 1, ?_⟩
  have ev := em_sign_v (JJ_q J) (Fa_sg F)
  rw [Fa_D F] at ev
  refine zlw JJ_n (cv_sign J ev (by rw [zset_e (by omega)]; exact J.1)) (fun h1 n1 J1 => ⟨(on_s d).symm, ?_⟩)
  have F1 : Fa (zset μ (10 + 0) d 1) c r (d + 1) lc 98 1 := Fa_sign F
  have J1 : JJ t0 x1 ow (zset μ (10 + 0) d 1) ν 1 0 0 h1 n1 := J1
  have q1 : Qt (zset μ (10 + 0) d 1) = Qt μ := Qt_m (fun o i hi => zset_e (by omega))
  have q2 : tDr (zset μ (10 + 0) d 1) 0 = tDr μ 0 := tDr_c (fun x y hx hy => zset_e (by omega))
  have mo : ∀ o i, o ≠ 10 → zset μ (10 + 0) d 1 o i = μ o i := fun o i hi => zset_e (by omega)
  clear ev
  generalize zset μ (10 + 0) d 1 = μ1 at J1 F1 q1 q2 mo
  have eq := em_quote_v (JJ_q J1)
  rw [tQu_e (hn3 J1 F1 (by omega)), Fa_la F1, if_neg (by decide), Int32.add_zero, q1, q2] at eq
  refine zlw JJ_n (cv_quote J1 eq J1.1) (fun h2 n2 J2 => ⟨rfl, ?_⟩)
  have hl : ¬ tLast μ1 0 = 99 := by rw [Fa_la F1]; decide
  refine zlw JJ_n (ce_use J2 (by decide) (em_use_n (JJ_q J2) ⟨by decide, by decide⟩ hl) (by decide)) (fun h3 n3 J3 => ⟨rfl, ?_⟩)
  refine zlw JJ_n (ce_hours J3 (em_hours_n (JJ_q J3) hl) (by decide)) (fun h4 n4 J4 => ⟨rfl, ?_⟩)
  have hk := JJ_k0 J4
  refine zlw JJ_n (cv_cloth J4 (by omega) (L := 2000) (r := 1) (by omega) (by omega) (by omega)) (fun h5 n5 J5 => ⟨rfl, ?_⟩)
  refine zp_i (J_in J5 eb hL (k := 6) (m := 30) (by omega) (by omega)) ?_
  have hz := zin_lt (L := L) (xs := xs) (k := 6) (m := 30) (by omega)
  have mp : ∀ o i, o ≠ 10 → o ≠ 169 → o ≠ 170 → o ≠ 0 → zset (zset (zset μ1 169 0 (Int32.ofNat 2000)) 170 0 (Int32.ofNat 1)) 0 32 (Int32.ofNat (0 + 1)) o i = μ o i := fun o i h1 h2 h3 h4 => by
    rw [zset_e (by omega), zset_e (by omega), zset_e (by omega), mo _ _ h1]
  have F5 : Fa (zset (zset (zset μ1 169 0 (Int32.ofNat 2000)) 170 0 (Int32.ofNat 1)) 0 32 (Int32.ofNat (0 + 1))) c r (d + 1) lc 98 1 := Fa_z (by omega) (Fa_z (by omega) (Fa_z (by omega) F1))
  have m169 : zset (zset (zset μ1 169 0 (Int32.ofNat 2000)) 170 0 (Int32.ofNat 1)) 0 32 (Int32.ofNat (0 + 1)) 169 0 = 2000 := by rw [zset_e (by omega), zset_e (by omega), zset_h]; rfl
  have m170 : zset (zset (zset μ1 169 0 (Int32.ofNat 2000)) 170 0 (Int32.ofNat 1)) 0 32 (Int32.ofNat (0 + 1)) 170 0 = 1 := by rw [zset_e (by omega), zset_h]; rfl
  have m171 : zset (zset (zset μ1 169 0 (Int32.ofNat 2000)) 170 0 (Int32.ofNat 1)) 0 32 (Int32.ofNat (0 + 1)) 171 0 = 0 := by rw [zset_e (by omega), zset_e (by omega), zset_e (by omega)]; exact hk.1
  have m172 : zset (zset (zset μ1 169 0 (Int32.ofNat 2000)) 170 0 (Int32.ofNat 1)) 0 32 (Int32.ofNat (0 + 1)) 172 0 = 0 := by rw [zset_e (by omega), zset_e (by omega), zset_e (by omega)]; exact hk.2
  have J5 : JJ t0 x1 ow (zset (zset (zset μ1 169 0 (Int32.ofNat 2000)) 170 0 (Int32.ofNat 1)) 0 32 (Int32.ofNat (0 + 1))) ν 1 1 20000 h5 n5 := J5
  generalize zset (zset (zset μ1 169 0 (Int32.ofNat 2000)) 170 0 (Int32.ofNat 1)) 0 32 (Int32.ofNat (0 + 1)) = μ5 at J5 F5 mp m169 m170 m171 m172
  refine ⟨μ5, ν, c, r, lc, 0, 0, zin L xs 6 30, d + 1, 98, 1, ⟨rfl, rfl, rfl, rfl, ?_, rfl, rfl, rfl, rfl, hlc, by omega, by omega, F5, ⟨ow, ⟨J5, eb, hL⟩, AR_m (by omega) (fun o i hi => mp _ _ (by omega) (by omega) (by omega) (by omega)) AA, LA_m (fun o i hi => mp _ _ (by omega) (by omega) (by omega) (by omega)) LL, A2_c DD (fun x y hx hy => (mp _ _ (by omega) (by omega) (by omega) (by omega)).symm)⟩, fun i hi => by rw [hν i hi]; rfl, o3, o8, o15⟩, Or.inl ⟨rfl, rfl, rfl, by omega, ?_, m169, m170, m171, m172⟩, by omega⟩
  · rw [Qt_m (fun o i hi => mp o i (by omega) (by omega) (by omega) (by omega)), tDr_c (μ := μ) (fun x y hx hy => mp _ _ (by omega) (by omega) (by omega) (by omega))]
  · rw [mp _ _ (by omega) (by omega) (by omega) (by omega)]
    exact p146
end ZLH
