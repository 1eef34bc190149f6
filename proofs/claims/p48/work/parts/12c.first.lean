section ZPB
/-! the first place for a panel: both find the same -/
variable {lv : Nat → Bool} {κ : zzM} {νc : zzN} {μ : zzM} {ν : zzN}
def okP (r m n cnt : Nat) (fl : Nat → Nat) (p : Nat) : Prop := p % r = m ∧ ∀ k, k < cnt → ¬ (p ≤ fl k ∧ fl k < p + n)
def PF (L r m n cnt : Nat) (fl : Nat → Nat) (f : Nat) (v : Int32) : Prop := (∃ p, v = Int32.ofNat p ∧ f ≤ p ∧ p + n ≤ L ∧ okP r m n cnt fl p ∧ ∀ q, f ≤ q → q < p → ¬ okP r m n cnt fl q) ∨ (v = -1 ∧ ∀ q, f ≤ q → q + n ≤ L → ¬ okP r m n cnt fl q)
theorem PF_one {L r m n cnt : Nat} {fl : Nat → Nat} {f : Nat} {v w : Int32} (h1 : PF L r m n cnt fl f v) (h2 : PF L r m n cnt fl f w) : v = w := by
  rcases h1 with ⟨p, rfl, a1, a2, a3, a4⟩ | ⟨rfl, a1⟩
  · rcases h2 with ⟨q, rfl, b1, b2, b3, b4⟩ | ⟨rfl, b1⟩
    · by_cases h : p < q
      · exact absurd a3 (b4 p a1 h)
      · by_cases h3 : q < p
        · exact absurd b3 (a4 q b1 h3)
        · rw [show p = q by omega]
    · exact absurd a3 (b1 p a1 a2)
  · rcases h2 with ⟨q, rfl, b1, b2, b3, b4⟩ | ⟨rfl, b1⟩
    · exact absurd b3 (a1 q b1 b2)
    · rfl
def cntF (fl : Nat → Nat) (p : Nat) : Nat → Nat
  | 0 => 0
  | k + 1 => cntF fl p k + if p ≤ fl k then 1 else 0
theorem cntF_le (fl : Nat → Nat) (p : Nat) : ∀ n, cntF fl p n ≤ n
  | 0 => Nat.le_refl _
  | k + 1 => by
    have := cntF_le fl p k
    unfold cntF
    split <;> omega
theorem cntF_mono (fl : Nat → Nat) {p q : Nat} (h : p ≤ q) : ∀ n, cntF fl q n ≤ cntF fl p n
  | 0 => Nat.le_refl _
  | k + 1 => by
    have := cntF_mono fl h k
    unfold cntF
    split <;> split <;> omega
theorem cntF_lt (fl : Nat → Nat) {p q k : Nat} (h : p ≤ q) (h1 : p ≤ fl k) (h2 : fl k < q) : ∀ n, k < n → cntF fl q n + 1 ≤ cntF fl p n
  | 0, hk => absurd hk (by omega)
  | n + 1, hk => by
    by_cases hq : k = n
    · subst hq
      have := cntF_mono fl h k
      unfold cntF
      rw [if_pos h1, if_neg (by omega)]
      omega
    · have := cntF_lt fl h h1 h2 n (by omega)
      unfold cntF
      split <;> split <;> omega
theorem ec_firstPlace {o L r m n cnt f : Nat} {fl : Nat → Nat} (A : Ck lv o) (h0 : κ o 0 = Int32.ofNat L) (hL : L ≤ 2000) (hr1 : 1 ≤ r) (hr : r ≤ 60) (h1 : κ o 1 = Int32.ofNat r) (hm : m < r) (h3 : κ o 3 = Int32.ofNat cnt) (hc : cnt ≤ 10) (hfl : ∀ k, k < cnt → κ (o + 1000) k = Int32.ofNat (fl k) ∧ fl k ≤ 2000) (hf : f ≤ 10000) (hn : n ≤ 1000) : ∃ v, g_X0_firstPlace lv o (Int32.ofNat f) (Int32.ofNat n) (Int32.ofNat m) κ νc = some v ∧ PF L r m n cnt fl f v := by
  have A' := A
  obtain ⟨a1, b1⟩ := A
  obtain ⟨p0, e0, c1, c2, c3, c4⟩ := ec_nextMatch (κ := κ) (νc := νc) a1 hr1 (by omega) h1 hm (show f < 50000 by omega)
  unfold g_X0_firstPlace
  rw [cg a1, e0, zb_s]
  refine zit_X (fun i s => s.2 = Int32.ofNat i ∧ ∃ p, s.1 = Int32.ofNat p ∧ f ≤ p ∧ p ≤ 12000 ∧ p % r = m ∧ (∀ q, f ≤ q → q < p → ¬ okP r m n cnt fl q) ∧ cntF fl p cnt + i ≤ cnt) _ cnt (by omega) ⟨rfl, p0, rfl, c1, by omega, c3, fun q hq hq2 hok => c4 q hq hq2 hok.1, by have := cntF_le fl p0 cnt; omega⟩ (fun i hi s hI => ?_)
  obtain ⟨s1, s2⟩ := s
  obtain ⟨hs2, p, hs1, d1, d2, d3, d4, d5⟩ := hI
  dsimp only at hs1 hs2
  subst hs1
  subst hs2
  show (∃ s', i < cnt ∧ g_X0_firstPlace_11 lv o _ _ (Int32.ofNat p) (Int32.ofNat i) κ νc = _ ∧ _) ∨ ∃ r, g_X0_firstPlace_11 lv o _ _ (Int32.ofNat p) (Int32.ofNat i) κ νc = _ ∧ _
  unfold g_X0_firstPlace_11 g_X0_firstPlace_57 g_X0_firstPlace_74
  obtain ⟨v, ev, hv⟩ := ec_lastFlaw (νc := νc) A' h3 hc (fun k hk => ⟨(hfl k hk).1, by have := (hfl k hk).2; omega⟩) (show p < 50000 by omega) (show p + n < 50000 by omega)
  rw [cg a1, h3, if_neg (nlt (by omega)), cg a1, on_a, ev, zb_s]
  rcases hv with ⟨rfl, hv⟩ | ⟨k, hk, rfl, k1, k2⟩
  · rw [if_neg (by decide), cg a1, h0]
    refine Or.inr ?_
    by_cases g : L < p + n
    · rw [if_pos (plt (by omega))]
      exact ⟨_, rfl, Or.inr ⟨rfl, fun q q1 q2 => d4 q q1 (by omega)⟩⟩
    · rw [if_neg (nlt (by omega))]
      exact ⟨_, rfl, Or.inl ⟨p, rfl, d1, by omega, ⟨d3, hv⟩, d4⟩⟩
  · have hk2 := (hfl k hk).2
    obtain ⟨p1, e1, u1, u2, u3, u4⟩ := ec_nextMatch (κ := κ) (νc := νc) a1 hr1 (by omega) h1 hm (show fl k + 1 < 50000 by omega)
    rw [nlt0, if_pos (ple (by omega)), cg a1, on_s, e1, zb_s, on_s]
    have hcl := cntF_lt fl (show p ≤ p1 by omega) k1 (show fl k < p1 by omega) cnt hk
    refine Or.inl ⟨_, by omega, rfl, rfl, p1, rfl, by omega, by omega, u3, fun q q1 q2 hok => ?_, by omega⟩
    by_cases w1 : q < p
    · exact d4 q q1 w1 hok
    · by_cases w2 : q ≤ fl k
      · exact hok.2 k hk ⟨w2, by omega⟩
      · exact u4 q (by omega) q2 hok.1
theorem em_pf92 {x1 x3 x4 x5 x6 : Int32} : g_X10_placeFor_92 x1 x3 x4 x5 x6 μ ν = some (if x6 = 0 then .inl (x5 + 1) else .inr x5) := by
  unfold g_X10_placeFor_92
  by_cases h : x6 = 0
  · rw [if_pos h, if_pos h]
  · rw [if_neg h, if_neg h]
theorem em_pf0 {j p n cnt : Nat} {x4 : Int32} (hj : j < 4) (h3 : μ 172 j = Int32.ofNat cnt) : g_X10_placeFor_35 (Int32.ofNat j) (Int32.ofNat n) x4 (Int32.ofNat p) 0 μ ν = some (.inl (Int32.ofNat (p + 1))) := by
  unfold g_X10_placeFor_35
  refine zfor (r := (.inl (Int32.ofNat (p + 1)) : Int32 ⊕ Int32)) 0 (fun _ => ((0 : Int32), (0 : Int32))) (fun i hi => absurd hi (by omega)) ?_ (by omega)
  show g_X10_placeFor_40 _ _ _ _ 0 0 _ _ = _
  unfold g_X10_placeFor_40
  rw [gi172 hj, h3, em_pf92, zom, if_pos rfl, on_s, if_pos rfl]
  split <;> rfl
theorem em_pf1 {j p n cnt : Nat} {fl : Nat → Nat} {x4 : Int32} (hj : j < 4) (h3 : μ 172 j = Int32.ofNat cnt) (hc : cnt ≤ 10) (hfl : ∀ k, k < cnt → μ (174 + j) k = Int32.ofNat (fl k) ∧ fl k ≤ 2000) (hp : p ≤ 12000) (hn : n ≤ 1000) : ∃ w : Int32 ⊕ Int32, g_X10_placeFor_35 (Int32.ofNat j) (Int32.ofNat n) x4 (Int32.ofNat p) 1 μ ν = some w ∧ ((w = .inr (Int32.ofNat p) ∧ ∀ k, k < cnt → ¬ (p ≤ fl k ∧ fl k < p + n)) ∨ (w = .inl (Int32.ofNat (p + 1)) ∧ ∃ k, k < cnt ∧ p ≤ fl k ∧ fl k < p + n)) := by
  unfold g_X10_placeFor_35
  refine zit_X (fun i s => s.2 = Int32.ofNat i ∧ ((s.1 = 1 ∧ ∀ k, k < i → ¬ (p ≤ fl k ∧ fl k < p + n)) ∨ (s.1 = 0 ∧ ∃ k, k < i ∧ k < cnt ∧ p ≤ fl k ∧ fl k < p + n))) _ cnt (by omega) ⟨rfl, Or.inl ⟨rfl, fun k hk => absurd hk (by omega)⟩⟩ (fun i hi s hI => ?_)
  obtain ⟨s1, s2⟩ := s
  obtain ⟨hs2, hI⟩ := hI
  dsimp only at hs2 hI
  subst hs2
  show (∃ s' : Int32 × Int32, i < cnt ∧ g_X10_placeFor_40 _ _ _ _ s1 (Int32.ofNat i) _ _ = some (.inl s') ∧ _) ∨ ∃ r : Int32 ⊕ Int32, g_X10_placeFor_40 _ _ _ _ s1 (Int32.ofNat i) _ _ = some (.inr r) ∧ _
  unfold g_X10_placeFor_40 g_X10_placeFor_84
  rw [gi172 hj, h3, em_pf92, zom]
  by_cases hq : cnt ≤ i
  · rw [if_pos (ple (by omega))]
    have : i = cnt := by omega
    subst this
    refine Or.inr ⟨_, rfl, ?_⟩
    rcases hI with ⟨rfl, h⟩ | ⟨rfl, k, h, h'⟩
    · rw [if_neg (by decide)]
      exact Or.inl ⟨rfl, h⟩
    · rw [if_pos rfl, on_s]
      exact Or.inr ⟨rfl, k, h, h'.2⟩
  · rw [if_neg (nle (by omega))]
    rcases hI with ⟨rfl, h⟩ | ⟨rfl, k, h, h'⟩
    · rw [if_neg (by decide)]
      obtain ⟨f1, f2⟩ := hfl i (by omega)
      refine Or.inl ?_
      rw [gq173 hj, gi173 hj (by omega), f1, on_a, em_isIn, zb_s, on_s]
      by_cases g1 : fl i < p
      · rw [if_pos (plt (by omega)), if_pos rfl]
        refine ⟨_, by omega, rfl, rfl, Or.inl ⟨rfl, fun k hk => ?_⟩⟩
        by_cases hk2 : k = i
        · subst hk2; omega
        · exact h k (by omega)
      · rw [if_neg (nlt (by omega))]
        have e1 := on_pl (Int32.ofNat (fl i)) (p + n) (by omega)
        by_cases g2 : fl i < p + n
        · rw [if_neg (fun q => (e1.mp q) (plt (by omega))), if_neg (by decide)]
          exact ⟨_, by omega, rfl, rfl, Or.inr ⟨rfl, i, by omega, by omega, by omega, g2⟩⟩
        · rw [if_pos (e1.mpr (nlt (by omega))), if_pos rfl]
          refine ⟨_, by omega, rfl, rfl, Or.inl ⟨rfl, fun k hk => ?_⟩⟩
          by_cases hk2 : k = i
          · subst hk2; omega
          · exact h k (by omega)
    · rw [if_pos rfl]
      refine Or.inr ⟨_, rfl, Or.inr ⟨?_, k, h'.1, h'.2⟩⟩
      rw [if_pos rfl, on_s]
theorem em_placeFor {j L r m n cnt f : Nat} {fl : Nat → Nat} (hj : j < 4) (h0 : μ 169 j = Int32.ofNat L) (hL : L ≤ 2000) (hr1 : 1 ≤ r) (hr : r ≤ 60) (h1 : μ 170 j = Int32.ofNat r) (hm : m < r) (h3 : μ 172 j = Int32.ofNat cnt) (hc : cnt ≤ 10) (hfl : ∀ k, k < cnt → μ (174 + j) k = Int32.ofNat (fl k) ∧ fl k ≤ 2000) (hf : f ≤ 10000) (hn : n ≤ 1000) : ∃ v, g_X10_placeFor (Int32.ofNat j) (Int32.ofNat f) (Int32.ofNat n) (Int32.ofNat m) μ ν = some v ∧ PF L r m n cnt fl f v := by
  unfold g_X10_placeFor
  refine zit_X (fun i s => s = Int32.ofNat (f + i) ∧ ∀ q, f ≤ q → q < f + i → ¬ okP r m n cnt fl q) _ (L + 1) (by omega) ⟨rfl, fun q h h2 => absurd h2 (by omega)⟩ (fun i hi s hI => ?_)
  obtain ⟨rfl, hI⟩ := hI
  unfold g_X10_placeFor_3
  rw [gi169 hj, h0, on_a]
  by_cases g : L < f + i + n
  · rw [if_pos (plt (by omega))]
    exact Or.inr ⟨_, rfl, Or.inr ⟨rfl, fun q q1 q2 => hI q q1 (by omega)⟩⟩
  · rw [if_neg (nlt (by omega)), gi170 hj, h1, zdv_p (onnz (by omega)), on_r _ _ (by omega) (by omega)]
    have hlt := Nat.mod_lt (f + i) (show 0 < r by omega)
    by_cases g2 : (f + i) % r = m
    · rw [if_pos (by rw [g2])]
      obtain ⟨w, ew, hw⟩ := em_pf1 (ν := ν) (x4 := Int32.ofNat m) hj h3 hc hfl (show f + i ≤ 12000 by omega) hn
      rw [ew]
      rcases hw with ⟨rfl, hw⟩ | ⟨rfl, k, hk, hw⟩
      · exact Or.inr ⟨_, rfl, Or.inl ⟨f + i, rfl, by omega, by omega, ⟨g2, hw⟩, hI⟩⟩
      · refine Or.inl ⟨_, by omega, rfl, rfl, fun q q1 q2 hok => ?_⟩
        by_cases w : q = f + i
        · subst w; exact hok.2 k hk hw
        · exact hI q q1 (by omega) hok
    · rw [if_neg (pne (by omega)), em_pf0 hj h3]
      refine Or.inl ⟨_, by omega, rfl, rfl, fun q q1 q2 hok => ?_⟩
      by_cases w : q = f + i
      · subst w; exact g2 hok.1
      · exact hI q q1 (by omega) hok
end ZPB
