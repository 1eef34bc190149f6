section ZLE
variable {t0 base b L : Nat} {xs : Nat → Int32} {ow ow' : zz_H} {μ μ' : zzM} {ν ν' : zzN} {H : Int} {nK : Nat} {h h' : zz_H} {n n' : Nat} {c r d l : Nat} {la sg : Int32}
/-- the quote without drawn buttons and cloth -/
def Qt (μ : zzM) : Int32 := 5 * μ 1 0 * μ 2 0 + (sm (fun k => if 99 ≤ μ (74 + 0) k then 0 else 2) (nC μ 0) + sm (fun k => if 99 ≤ μ (79 + 0) k then 0 else 2) (nR μ 0)) + sm (tPr μ 0) (nL μ 0)
/-- the law's arrays of layers -/
def LA (ow : zz_H) (μ : zzM) (a e f N k : Nat) : Prop := ∃ g1 g2 g3, A1 ow a 1 N g1 ∧ A1 ow e 0 N g2 ∧ A1 ow f 0 N g3 ∧ (∀ i, i < k → g1 i = μ (85 + 0) i ∧ g2 i = μ (90 + 0) i ∧ g3 i = μ (95 + 0) i) ∧ a < e ∧ e < f
def A_969 (t0 base b L : Nat) (xs : Nat → Int32) (B : Nat) (x0 x1 : Nat) (x2 x3 : Int32) (x6 x7 x8 : Nat) (x9 x10 x12 : Int32) (x13 x14 x15 : Nat) (x16 : Int32) (h : zz_H) (n : Nat) : Prop :=
  ∃ c r d la lc k ow μ ν, x0 = b ∧ x1 = base ∧ x2 = Int32.ofNat c ∧ x3 = Int32.ofNat r ∧ x9 = Qt μ ∧ x10 = Int32.ofNat d ∧ x12 = Int32.ofNat lc ∧ x16 = Int32.ofNat k ∧ (1 ≤ lc ∧ lc ≤ 4 ∧ k ≤ lc) ∧ (2 ≤ d ∧ d ≤ 3 + k) ∧ ((k = 0 ∧ (la = 115 ∨ la = 116)) ∨ (0 < k ∧ la = 108)) ∧ 132 + (4 - k) ≤ B ∧ CX t0 base b L xs ow μ ν 0 0 h n ∧ Fa μ c r d k la 1 ∧ Pb μ ∧ AR ow μ x6 x7 x8 c r ∧ LA ow μ x13 x14 x15 lc k ∧ (∀ i, i < k → ν (100 + 0) i = 0) ∧ b < x6 ∧ x8 < x13
def A_1130 (t0 base b L : Nat) (xs : Nat → Int32) (B : Nat) (x0 x1 : Nat) (x2 x3 : Int32) (x6 x7 x8 : Nat) (x9 x10 x12 : Int32) (x13 x14 x15 : Nat) (h : zz_H) (n : Nat) : Prop :=
  ∃ c r d lc ow μ ν, x0 = b ∧ x1 = base ∧ x2 = Int32.ofNat c ∧ x3 = Int32.ofNat r ∧ x9 = Qt μ ∧ x10 = Int32.ofNat d ∧ x12 = Int32.ofNat lc ∧ (1 ≤ lc ∧ lc ≤ 4) ∧ (2 ≤ d ∧ d ≤ 7) ∧ 131 ≤ B ∧ CX t0 base b L xs ow μ ν 0 0 h n ∧ Fa μ c r d lc 108 1 ∧ Pb μ ∧ AR ow μ x6 x7 x8 c r ∧ LA ow μ x13 x14 x15 lc lc ∧ (∀ i, i < lc → ν (100 + 0) i = 0) ∧ b < x6 ∧ x8 < x13
theorem z_969 (x0 x1 : Nat) (x2 x3 : Int32) (x6 x7 x8 : Nat) (x9 x10 x12 : Int32) (x13 x14 x15 : Nat) (x16 : Int32) (h : zz_H) (n : Nat) : ¬ A_969 t0 base b L xs 0 x0 x1 x2 x3 x6 x7 x8 x9 x10 x12 x13 x14 x15 x16 h n := by
  rintro ⟨c, r, d, la, lc, k, ow, μ, ν, -, -, -, -, -, -, -, -, -, -, -, hB, -⟩
  omega
theorem z_1130 (x0 x1 : Nat) (x2 x3 : Int32) (x6 x7 x8 : Nat) (x9 x10 x12 : Int32) (x13 x14 x15 : Nat) (h : zz_H) (n : Nat) : ¬ A_1130 t0 base b L xs 0 x0 x1 x2 x3 x6 x7 x8 x9 x10 x12 x13 x14 x15 h n := by
  rintro ⟨c, r, d, lc, ow, μ, ν, -, -, -, -, -, -, -, -, -, hB, -⟩
  omega
theorem hn3 (J : JJ t0 base ow μ ν 1 nK H h n) (F : Fa μ c r d l la sg) (hd : 2 ≤ d) : ¬ μ 3 0 ≤ 1 := by
  have hD := (JJ_q J).2.2.2.1.2.2.2.1
  have h1 := hD.1
  have h2 := hD.2
  rw [Fa_D F] at h1 h2
  rw [h1]
  exact nle (b := 1) (by omega)
theorem Fa_Y {kd t f : Int32} (F : Fa μ c r d l la sg) (hl : l < 4) : Fa (mY μ kd t f 0 l) c r d (l + 1) la sg := by
  have e3 : nD (mY μ kd t f 0 l) 0 = nD μ 0 := by
    unfold nD
    rw [mY_o (by omega) (by omega)]
  refine ⟨?_, ?_, F.2.2.1, F.2.2.2.1, ?_, ?_, ?_, ?_⟩
  · rw [mY_o (by omega) (by omega)]
    exact F.1
  · rw [mY_o (by omega) (by omega)]
    exact F.2.1
  · rw [e3]
    exact Fa_D F
  · unfold nL
    rw [(mY_h (by omega)).2.2.2.2, on_n _ (by omega)]
  · have := Fa_la F
    unfold tLast at this ⊢
    rw [e3, mY_o (o := 5 + 0) (by omega) (by omega)]
    exact this
  · have := Fa_sg F
    unfold tSg at this ⊢
    rw [e3, mY_o (o := 10 + 0) (by omega) (by omega)]
    exact this
theorem kd_e {v : Nat} (hv : v < 3) : ∃ kd : Int32, (if Int32.ofNat v = (0 : Int32) then (104 : Int32) else if Int32.ofNat v = (1 : Int32) then (102 : Int32) else (100 : Int32)) = kd ∧ (kd = 104 ∨ kd = 102 ∨ kd = 100) ∧ vp_nar .char kd = kd ∧ (3 : Int32) - Int32.ofNat v = (if kd = 104 then 3 else if kd = 102 then 2 else 1) := by
  match v, hv with
  | 0, _ => exact ⟨104, by decide, Or.inl rfl, by decide, by decide⟩
  | 1, _ => exact ⟨102, by decide, Or.inr (Or.inl rfl), by decide, by decide⟩
  | 2, _ => exact ⟨100, by decide, Or.inr (Or.inr rfl), by decide, by decide⟩
theorem r_836 (J : JJ t0 base ow μ ν 1 nK H h n) {x6 x7 x8 : Nat} (A : AR ow μ x6 x7 x8 c r) (hc : c ≤ 4) (hr : r ≤ 4) {x0 x1 : Nat} {x9 x10 : Int32} : f_L_law_836 x0 x1 (Int32.ofNat c) (Int32.ofNat r) x6 x7 x8 x9 x10 h = some (.inl (x9 + (sm (fun k => if 99 ≤ μ (74 + 0) k then 0 else 2) c + sm (fun k => if 99 ≤ μ (79 + 0) k then 0 else 2) r))) := by
  unfold f_L_law_836
  refine zfor2 c (fun i v => v + (if 99 ≤ μ (74 + 0) i then 0 else 2)) x9 (fun i hi v => ?_) ?_
  · show f_L_law_839 _ _ _ _ _ _ _ _ _ _ _ = _
    unfold f_L_law_839 f_L_law_862
    rw [if_neg (nle (by omega)), J_ai J A.2.1 hi]
    dsimp only
    by_cases g : 99 ≤ μ (74 + 0) i
    · rw [if_pos g, if_pos g]
    · rw [if_neg g, if_neg g]
  · show f_L_law_839 _ _ _ _ _ _ _ _ _ _ _ = _
    unfold f_L_law_839
    rw [if_pos (ple (by omega))]
    have e := zfor2 (b := fun s : (Int32 × Int32) => f_L_law_874 x0 x1 (Int32.ofNat c) (Int32.ofNat r) x6 x7 x8 s.1 x10 s.2 h) (γ := Int32 ⊕ Int32) (r := .inl (x9 + (sm (fun k => if 99 ≤ μ (74 + 0) k then 0 else 2) c + sm (fun k => if 99 ≤ μ (79 + 0) k then 0 else 2) r))) r (fun i v => v + (if 99 ≤ μ (79 + 0) i then 0 else 2)) (zfd (fun i v => v + (if 99 ≤ μ (74 + 0) i then 0 else 2)) x9 c) (fun i hi v => by
      show f_L_law_874 _ _ _ _ _ _ _ _ _ _ _ = _
      unfold f_L_law_874 f_L_law_897
      rw [if_neg (nle (by omega)), J_ai J A.2.2.1 hi]
      dsimp only
      by_cases g : 99 ≤ μ (79 + 0) i
      · rw [if_pos g, if_pos g]
      · rw [if_neg g, if_neg g]) (by
      show f_L_law_874 _ _ _ _ _ _ _ _ _ _ _ = _
      unfold f_L_law_874
      rw [if_pos (ple (by omega)), smB, smB, Int32.add_assoc])
    rw [e]
    rfl
theorem b_836 (B : Nat) (x0 x1 : Nat) (x2 x3 : Int32) (x6 x7 x8 : Nat) (x9 x10 : Int32) (h : zz_H) (n : Nat) (A : A_836 t0 base b L xs (B + 1) x0 x1 x2 x3 x6 x7 x8 x9 x10 h n) : w_836 t0 x0 x1 x2 x3 x6 x7 x8 x9 x10 h n (A_969 t0 base b L xs B) := by
  obtain ⟨c, r, d, la, ow, μ, ν, rfl, rfl, rfl, rfl, rfl, rfl, hd, hB, ⟨J, eb, hL⟩, F, P, AA, o3⟩ := A
  have hc4 := F.2.2.1
  have hr4 := F.2.2.2.1
  unfold w_836
  refine ⟨_, r_836 J AA (by omega) (by omega), ?_⟩
  have eq : 5 * Int32.ofNat c * Int32.ofNat r + (sm (fun k => if 99 ≤ μ (74 + 0) k then 0 else 2) c + sm (fun k => if 99 ≤ μ (79 + 0) k then 0 else 2) r) = Qt μ := by
    unfold Qt
    rw [F.1, F.2.1, Fa_C F, Fa_R F, Fa_L F]
    exact (Int32.add_zero _).symm
  rw [eq]
  refine zp_i (J_in J eb hL (k := 5) (m := 4) (by omega) (by omega)) ?_
  have hz := zin_lt (L := L) (xs := xs) (k := 5) (m := 4) (by omega)
  obtain ⟨lc, hlc⟩ : ∃ lc, lc = 1 + zin L xs 5 4 := ⟨_, rfl⟩
  have e1 : (1 : Int32) + Int32.ofNat (zin L xs 5 4) = Int32.ofNat lc := by rw [hlc]; exact on_a 1 _
  rw [e1]
  have hlc4 : 1 ≤ lc ∧ lc ≤ 4 := by omega
  clear e1 hlc hz
  refine znw_r hlc4.2 (znw_r hlc4.2 (znw_r hlc4.2 ?_))
  obtain ⟨J1, a1, o1⟩ := J_new J (t := 1) (N := lc)
  obtain ⟨J2, a2, o2⟩ := J_new J1 (t := 0) (N := lc)
  obtain ⟨J3, a3, o4⟩ := J_new J2 (t := 0) (N := lc)
  have h8 := J_lt J AA.2.2.1
  have hbn := (JJ_ow J eb).2
  refine zlw JJ_n (ce_cover J3 (em_cover_r (JJ_q J3)) (by decide)) (fun h4 n4 J4 => ⟨rfl, ?_⟩)
  have hcan : tCan la 0 98 = false := by
    rcases hd with ⟨-, rfl⟩ | ⟨-, rfl⟩ <;> decide
  refine zlw JJ_n (ce_buttons J4 (em_buttons_n (JJ_q J4) (Or.inr (Fa_can F hcan))) (by decide)) (fun h5 n5 J5 => ⟨rfl, ?_⟩)
  refine ⟨c, r, d, la, lc, 0, _, μ, ν, rfl, rfl, rfl, rfl, rfl, rfl, rfl, rfl, by omega, by omega, Or.inl ⟨rfl, by rcases hd with ⟨-, k⟩ | ⟨-, k⟩ <;> simp only [k, true_or, or_true]⟩, by omega, ⟨J5, ?_, hL⟩, F, P, ?_, ⟨_, _, _, A1_f (A1_f a1 (o2 _ (by omega))) (o4 _ (by omega)), A1_f a2 (o4 _ (by omega)), a3, fun i hi => absurd hi (by omega), by omega, by omega⟩, fun i hi => absurd hi (by omega), o3, h8⟩
  · rw [o4 _ (by omega), o2 _ (by omega), o1 _ (by omega)]
    exact eb
  · exact AR_o (fun q hq => o4 _ (by omega)) (AR_o (fun q hq => o2 _ (by omega)) (AR_o (fun q hq => o1 _ (by omega)) AA))
end ZLE
