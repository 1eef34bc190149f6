section ZPA
/-! where panels begin -/
variable {lv : Nat → Bool} {κ : zzM} {νc : zzN} {μ : zzM} {ν : zzN}
theorem xor_nn (x y : Int32) (hy : 0 ≤ y.toInt) : ((0 : Int32) ≤ x ^^^ y) = (0 ≤ x.toInt) := by
  have h : decide ((x ^^^ y).toInt < 0) = decide (x.toInt < 0) := by
    rw [← Int32.toInt_toBitVec, ← BitVec.msb_eq_toInt, Int32.toBitVec_xor, BitVec.msb_xor, BitVec.msb_eq_toInt, BitVec.msb_eq_toInt, Int32.toInt_toBitVec, Int32.toInt_toBitVec, decide_eq_false (show ¬ y.toInt < 0 by omega), Bool.xor_false]
  have h2 := decide_eq_decide.mp h
  have hz : (0 : Int32).toInt = 0 := rfl
  rw [Int32.le_iff_toInt_le, hz]
  exact propext (by omega)
theorem floorMod_I {x : Int32} {r : Nat} (h1 : 1 ≤ r) (hr : r < 1000) (hx : -100000 ≤ x.toInt ∧ x.toInt ≤ 100000) : g_J9_floorMod_7cf53 lv x (Int32.ofNat r) κ νc = some (Int32.ofInt (x.toInt % (r : Int))) := by
  have hri := on_i r (by omega)
  have hne : Int32.ofNat r ≠ 0 := by
    rw [nlt0, Ne, on_eq _ _ (by omega) (by decide)]; omega
  have hm1 : Int32.ofNat r ≠ -1 := by
    intro q
    have := congrArg Int32.toInt q
    rw [hri] at this
    have h3 : (-1 : Int32).toInt = -1 := rfl
    omega
  have e1 : Int.tmod x.toInt r = x.toInt % (r : Int) - ((if 0 ≤ x.toInt ∨ (r : Int) ∣ x.toInt then 0 else (r : Int).natAbs : Nat) : Int) := Int.tmod_eq_emod
  have b1 := Int.emod_nonneg x.toInt (show (r : Int) ≠ 0 by omega)
  have b2 := Int.emod_lt_of_pos x.toInt (show (0 : Int) < r by omega)
  have e2 : (r : Int) ∣ x.toInt ↔ x.toInt % (r : Int) = 0 := Int.dvd_iff_emod_eq_zero
  unfold g_J9_floorMod_7cf53 g_J9_floorMod_7cf53_18
  have hx' := xor_nn x (Int32.ofNat r) (by omega)
  rw [zdv_p hne, rem_I _ _ hm1, hri]
  have hr2 : (r : Int).natAbs = r := by omega
  rw [hr2] at e1
  by_cases h0 : 0 ≤ x.toInt
  · rw [if_pos (hx'.mpr h0)]
    rw [if_pos (Or.inl h0)] at e1
    rw [e1]
    congr 2
    omega
  · rw [if_neg (fun q => h0 (hx'.mp q))]
    by_cases h5 : x.toInt % (r : Int) = 0
    · rw [if_pos (Or.inr (e2.mpr h5))] at e1
      rw [if_pos (by rw [e1, h5]; rfl), e1]
      congr 2
      omega
    · rw [if_neg (by rw [e2]; omega)] at e1
      rw [if_neg, e1]
      · congr 1
        apply Int32.toInt.inj
        rw [toInt_I _ (by omega) (by omega), Int32.toInt_add, toInt_I _ (by omega) (by omega), hri, Int.bmod_eq_of_le_mul_two] <;> omega
      · intro q
        have := congrArg Int32.toInt q
        rw [toInt_I _ (by omega) (by omega)] at this
        have hz : (0 : Int32).toInt = 0 := rfl
        omega
/-- the next place that matches -/
theorem ec_nextMatch {o f m r : Nat} (ho : lv o = true ∧ co o = 1) (h1 : 1 ≤ r) (hr : r < 1000) (hrp : κ o 1 = Int32.ofNat r) (hm : m < r) (hf : f < 50000) : ∃ p, g_X0_nextMatch lv o (Int32.ofNat f) (Int32.ofNat m) κ νc = some (Int32.ofNat p) ∧ f ≤ p ∧ p < f + r ∧ p % r = m ∧ ∀ q, f ≤ q → q < p → q % r ≠ m := by
  have hd : (Int32.ofNat m - Int32.ofNat f).toInt = (m : Int) - f := by
    rw [Int32.toInt_sub, on_i _ (by omega), on_i _ (by omega), Int.bmod_eq_of_le_mul_two] <;> omega
  have b1 := Int.emod_nonneg ((m : Int) - f) (show (r : Int) ≠ 0 by omega)
  have b2 := Int.emod_lt_of_pos ((m : Int) - f) (show (0 : Int) < r by omega)
  obtain ⟨e, he⟩ := Int.eq_ofNat_of_zero_le b1
  have hmod : (f + e) % r = m := by
    have h3 : (((f + e : Nat) : Int)) % (r : Int) = m := by
      rw [Int.natCast_add, ← he, Int.add_emod_emod, show (f : Int) + ((m : Int) - f) = m by omega, Int.emod_eq_of_lt (by omega) (by omega)]
    rw [← Int.natCast_emod] at h3
    exact Int.ofNat.inj h3
  refine ⟨f + e, ?_, by omega, by omega, hmod, fun q hq hqp hc => ?_⟩
  · unfold g_X0_nextMatch g_X0_nextMatch_24
    rw [cg ho, hrp, nlt1, if_pos (ple (by omega)), cg ho, floorMod_I h1 hr (by rw [hd]; omega), zb_s, hd, he]
    congr 1
    show Int32.ofNat f + Int32.ofInt ((e : Nat) : Int) = _
    rw [Int32.ofInt_eq_ofNat, on_a]
  · have h4 := Nat.sub_mod_eq_zero_of_mod_eq (m := f + e) (n := q) (k := r) (by rw [hmod, hc])
    rw [Nat.mod_eq_of_lt (by omega)] at h4
    omega
theorem zit_x {σ γ : Type} {b : σ → Option (σ ⊕ γ)} (I : Nat → σ → Prop) (Q : γ → Prop) (N : Nat) (h1 : ∀ i, i ≤ N → ∀ s, I i s → (∃ s', i < N ∧ b s = some (.inl s') ∧ I (i + 1) s') ∨ ∃ r, b s = some (.inr r) ∧ Q r) : ∀ (k i : Nat) (s : σ), I i s → i ≤ N → N - i < k → ∃ r, zz_it b k s = some r ∧ Q r
  | 0, i, s, _, _, hk => absurd hk (by omega)
  | k + 1, i, s, hI, hi, hk => by
    unfold zz_it
    rcases h1 i hi s hI with ⟨s', hl, e, hI'⟩ | ⟨r, e, hr⟩
    · rw [e]
      exact zit_x I Q N h1 k (i + 1) s' hI' (by omega) (by omega)
    · rw [e]
      exact ⟨r, rfl, hr⟩
theorem zit_X {σ γ : Type} {b : σ → Option (σ ⊕ γ)} (I : Nat → σ → Prop) (Q : γ → Prop) (N : Nat) (hN : N < 100000) {s : σ} (h0 : I 0 s) (h1 : ∀ i, i ≤ N → ∀ s, I i s → (∃ s', i < N ∧ b s = some (.inl s') ∧ I (i + 1) s') ∨ ∃ r, b s = some (.inr r) ∧ Q r) : ∃ r, zz_it b zz_F s = some r ∧ Q r :=
  zit_x I Q N h1 zz_F 0 s h0 (by omega) (by unfold zz_F; omega)
/-- a cloth of the class: length, repeat, flaws -/
def Ck (lv : Nat → Bool) (o : Nat) : Prop := (lv o = true ∧ co o = 1) ∧ (lv (o + 1000) = true ∧ cIs (o + 1000) = some (0, 10))
/-- the last flaw in a range -/
theorem ec_lastFlaw {o a e cnt : Nat} {fl : Nat → Nat} (A : Ck lv o) (h3 : κ o 3 = Int32.ofNat cnt) (hc : cnt ≤ 10) (hfl : ∀ k, k < cnt → κ (o + 1000) k = Int32.ofNat (fl k) ∧ fl k < 50000) (ha : a < 50000) (he : e < 50000) : ∃ v, g_X0_lastFlaw lv o (Int32.ofNat a) (Int32.ofNat e) κ νc = some v ∧ ((v = -1 ∧ ∀ k, k < cnt → ¬ (a ≤ fl k ∧ fl k < e)) ∨ ∃ k, k < cnt ∧ v = Int32.ofNat (fl k) ∧ a ≤ fl k ∧ fl k < e) := by
  obtain ⟨a1, b1⟩ := A
  unfold g_X0_lastFlaw
  refine zit_X (fun i s => s.2 = Int32.ofNat i ∧ ((s.1 = -1 ∧ ∀ k, k < i → ¬ (a ≤ fl k ∧ fl k < e)) ∨ ∃ k, k < i ∧ k < cnt ∧ s.1 = Int32.ofNat (fl k) ∧ a ≤ fl k ∧ fl k < e)) _ cnt (by omega) ⟨rfl, Or.inl ⟨rfl, fun k hk => absurd hk (by omega)⟩⟩ (fun i hi s hI => ?_)
  obtain ⟨s1, s2⟩ := s
  obtain ⟨hs2, hI⟩ := hI
  simp only at hs2 hI
  subst hs2
  show (∃ s', i < cnt ∧ g_X0_lastFlaw_5 lv o _ _ s1 (Int32.ofNat i) κ νc = _ ∧ _) ∨ ∃ r, g_X0_lastFlaw_5 lv o _ _ s1 (Int32.ofNat i) κ νc = _ ∧ _
  unfold g_X0_lastFlaw_5 g_X0_lastFlaw_64 g_X0_lastFlaw_58
  rw [cg a1, h3]
  by_cases hq : cnt ≤ i
  · rw [if_pos (ple (by omega))]
    refine Or.inr ⟨s1, rfl, ?_⟩
    have : i = cnt := by omega
    subst this
    rcases hI with h | ⟨k, _, h1, h⟩
    · exact Or.inl h
    · exact Or.inr ⟨k, h1, h⟩
  · rw [if_neg (nle (by omega))]
    obtain ⟨f1, f2⟩ := hfl i (by omega)
    simp only [cg a1]
    rw [cl b1, if_neg (nle (by omega))]
    simp only [ca b1 (show i < 10 by omega), f1]
    rw [on_s]
    by_cases g1 : fl i < a
    · rw [if_pos (plt (by omega))]
      refine Or.inl ⟨_, by omega, rfl, rfl, ?_⟩
      rcases hI with ⟨h, h2⟩ | ⟨k, h0, h1, h⟩
      · refine Or.inl ⟨h, fun k hk => ?_⟩
        by_cases hk2 : k = i
        · subst hk2; omega
        · exact h2 k (by omega)
      · exact Or.inr ⟨k, by omega, h1, h⟩
    · rw [if_neg (nlt (by omega))]
      by_cases g2 : e ≤ fl i
      · rw [if_pos (ple (by omega))]
        refine Or.inl ⟨_, by omega, rfl, rfl, ?_⟩
        rcases hI with ⟨h, h2⟩ | ⟨k, h0, h1, h⟩
        · refine Or.inl ⟨h, fun k hk => ?_⟩
          by_cases hk2 : k = i
          · subst hk2; omega
          · exact h2 k (by omega)
        · exact Or.inr ⟨k, by omega, h1, h⟩
      · rw [if_neg (nle (by omega))]
        refine Or.inl ⟨_, by omega, rfl, rfl, Or.inr ?_⟩
        by_cases g3 : s1 < Int32.ofNat (fl i)
        · exact ⟨i, by omega, by omega, if_pos g3, by omega, by omega⟩
        · rcases hI with ⟨h, h2⟩ | ⟨k, h0, h1, h, h4⟩
          · rw [h] at g3
            exact absurd (by
              rw [Int32.lt_iff_toInt_lt, on_i _ (by omega)]
              have h5 : (-1 : Int32).toInt = -1 := rfl
              omega) g3
          · refine ⟨k, by omega, h1, ?_, h4⟩
            show zz_max s1 _ = _
            rw [show zz_max s1 (Int32.ofNat (fl i)) = s1 from if_neg g3, h]
end ZPA
