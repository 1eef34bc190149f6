section ZCT
/-! letters and signs, on the class's side -/
variable {lv : Nat → Bool} {κ : zzM} {νc : zzN} {μ : zzM} {ν : zzN}
def Lt (t l b k : Nat) : Nat := if k = 0 then 119 else if k = 1 then 115 else if k < 2 + t then 116 else if k < 2 + t + l then 108 else if k < 2 + t + l + b then 98 else 99
theorem Lt_le (t l b k : Nat) : Lt t l b k ≤ 119 := by
  unfold Lt
  split
  · decide
  · split
    · decide
    · split
      · decide
      · split
        · decide
        · split <;> decide
/-- the letters of a seat: webs, springs, t ties, layers, b buttons, c cover -/
def Lv (μ : zzM) (s t b c : Nat) : Prop := t ≤ 1 ∧ b ≤ 1 ∧ c ≤ 1 ∧ (nD μ s < 2 → t = 0 ∧ b = 0 ∧ c = 0 ∧ nL μ s = 0) ∧ (2 ≤ nD μ s → nD μ s = 2 + t + nL μ s + b + c) ∧ (1 ≤ b + c → 1 ≤ nL μ s) ∧ ∀ k, k < nD μ s → μ (5 + s) k = Int32.ofNat (Lt t (nL μ s) b k)
/-- how many are done; the letters; the signs -/
def RN (κ μ : zzM) (S s : Nat) : Prop := κ (S + 4) 1 = μ 3 s ∧ ∀ k, k < nD μ s → κ (S + 4 + 1000) k = μ (5 + s) k
def RG (κ μ : zzM) (S s sg : Nat) : Prop := (sg = nD μ s ∨ sg + 1 = nD μ s) ∧ κ (S + 4) 2 = Int32.ofNat sg ∧ ∀ k, k < nD μ s → μ (10 + s) k = if k < sg then 1 else 0
theorem CH_n {n : Nat} (h : n ≤ 119) : CH (Int32.ofNat n) := by
  have h1 : ∀ n, n < 120 → CH (Int32.ofNat n) := by
    unfold CH
    decide +kernel
  exact h1 n (by omega)
def cLast (μ : zzM) (s : Nat) : Int32 := if nD μ s = 0 then 32 else μ (5 + s) (nD μ s - 1)
theorem Lv_ch {s t b c : Nat} (h : Lv μ s t b c) : CH (tLast μ s) := by
  unfold tLast
  by_cases h0 : nD μ s = 0
  · rw [if_pos h0]; first | exact CH45 | exact CH32
  · rw [if_neg h0, h.2.2.2.2.2.2 _ (by omega)]
    exact CH_n (Lt_le _ _ _ _)
theorem Lv_chc {s t b c : Nat} (h : Lv μ s t b c) : CH (cLast μ s) := by
  unfold cLast
  by_cases h0 : nD μ s = 0
  · rw [if_pos h0]; first | exact CH45 | exact CH32
  · rw [if_neg h0, h.2.2.2.2.2.2 _ (by omega)]
    exact CH_n (Lt_le _ _ _ _)
theorem ec_letterAt {S s t b c k : Nat} (A : As lv S) (hB : Bd μ s) (hN : RN κ μ S s) (hV : Lv μ s t b c) (hk : k < nD μ s) : g_X8_letterAt lv (S + 4) (Int32.ofNat k) κ νc = some (μ (5 + s) k) := by
  obtain ⟨a8, a4, ah, af, a9, a3, a0, ad, a2, bh, bf, bc, br, b9, bd, b2, hS⟩ := A
  obtain ⟨hs, -, -, ⟨hd, hd9⟩, -⟩ := hB
  have hch : CH (μ (5 + s) k) := by
    rw [hV.2.2.2.2.2.2 k hk]
    exact CH_n (Lt_le _ _ _ _)
  unfold g_X8_letterAt g_X8_letterAt_30 g_X8_letterAt_32
  rw [if_neg (on_nn k (by omega)), cg a9, hN.1, hd, if_neg (nle (by omega)), cg a9, cl b9, if_neg (nle (by omega)), cg a9, ca b9 (by omega), hN.2 k hk, zgc_p hch]
theorem ec_letterAtN {S s : Nat} {x : Int32} (hx : x < 0) : g_X8_letterAt lv (S + 4) x κ νc = some 32 := by
  unfold g_X8_letterAt g_X8_letterAt_30 g_X8_letterAt_32
  rw [if_pos hx, zgc_p CH32]
/-- the letter ahead of a place -/
def cAh (μ : zzM) (s k : Nat) : Int32 := if k = 0 then 32 else μ (5 + s) (k - 1)
theorem ec_ahead {S s t b c k : Nat} (A : As lv S) (hB : Bd μ s) (hN : RN κ μ S s) (hV : Lv μ s t b c) (hk : k ≤ nD μ s) : g_X8_letterAt lv (S + 4) (Int32.ofNat k - 1) κ νc = some (cAh μ s k) := by
  unfold cAh
  by_cases h : k = 0
  · subst h
    rw [if_pos rfl]
    exact ec_letterAtN (s := s) (by decide)
  · rw [if_neg h, on_p k (by omega)]
    exact ec_letterAt A hB hN hV (by omega)
theorem ec_last {S s t b c : Nat} (A : As lv S) (hB : Bd μ s) (hN : RN κ μ S s) (hV : Lv μ s t b c) : g_X8_last lv (S + 4) κ νc = some (cLast μ s) := by
  have h := ec_ahead (νc := νc) A hB hN hV (Nat.le_refl _)
  obtain ⟨a8, a4, ah, af, a9, -⟩ := A
  obtain ⟨hs, -, -, ⟨hd, hd9⟩, -⟩ := hB
  unfold g_X8_last
  rw [cg a9, cg a9, hN.1, hd, h, zb_s]
  exact zgc_p (Lv_chc hV)
theorem sg_iff {S s sg : Nat} (hG : RG κ μ S s sg) : tSg μ s = if sg = nD μ s then 1 else 0 := by
  obtain ⟨h1, h2, h3⟩ := hG
  unfold tSg
  by_cases h0 : nD μ s = 0
  · rw [if_pos h0, if_pos (by omega)]
  · rw [if_neg h0, h3 _ (by omega)]
    by_cases h4 : sg = nD μ s
    · rw [if_pos (show nD μ s - 1 < sg by omega), if_pos h4, if_neg (by decide)]
    · rw [if_neg (show ¬ nD μ s - 1 < sg by omega), if_neg h4, if_pos rfl]
theorem ec_allSigned {S s sg : Nat} (A : As lv S) (hB : Bd μ s) (hN : RN κ μ S s) (hG : RG κ μ S s sg) : g_X8_allSigned lv (S + 4) κ νc = some (tSg μ s) := by
  rw [sg_iff hG]
  obtain ⟨a8, a4, ah, af, a9, -⟩ := A
  obtain ⟨hs, -, -, ⟨hd, hd9⟩, -⟩ := hB
  obtain ⟨h1, h2, h3⟩ := hG
  unfold g_X8_allSigned g_X8_allSigned_16
  rw [cg a9, cg a9, hN.1, h2, hd]
  by_cases h4 : sg = nD μ s
  · rw [if_pos (by rw [h4]), if_pos h4, zgz1]
  · rw [if_neg (pne (by omega)), if_neg h4, zgz0]
theorem Lt108 {t l b k : Nat} (h : k < 2 + t + l + b + 1) : (Lt t l b k = 108) = (2 + t ≤ k ∧ k < 2 + t + l) := by
  unfold Lt
  apply propext
  by_cases h0 : k = 0
  · rw [if_pos h0]; omega
  · rw [if_neg h0]
    by_cases h1 : k = 1
    · rw [if_pos h1]; omega
    · rw [if_neg h1]
      by_cases h2 : k < 2 + t
      · rw [if_pos h2]; omega
      · rw [if_neg h2]
        by_cases h3 : k < 2 + t + l
        · rw [if_pos h3]; omega
        · rw [if_neg h3]
          by_cases h4 : k < 2 + t + l + b
          · rw [if_pos h4]; omega
          · rw [if_neg h4]; omega
theorem ec_layersAhead {S s t b c k : Nat} (A : As lv S) (hB : Bd μ s) (hN : RN κ μ S s) (hV : Lv μ s t b c) (hk : k ≤ nD μ s) : g_X8_layersAhead lv (S + 4) (Int32.ofNat k) κ νc = some (Int32.ofNat (min (k - (2 + t)) (nL μ s))) := by
  have A' := A
  have hB' := hB
  obtain ⟨a8, a4, ah, af, a9, -⟩ := A
  obtain ⟨hs, -, -, ⟨hd, hd9⟩, -, hl4⟩ := hB
  unfold g_X8_layersAhead
  have h := zfor (b := fun s1 : (Int32 × Int32) => g_X8_layersAhead_4 lv (S + 4) (Int32.ofNat k) s1.1 s1.2 κ νc) (r := Int32.ofNat (min (k - (2 + t)) (nL μ s))) k (fun i => (Int32.ofNat (min (i - (2 + t)) (nL μ s)), Int32.ofNat i)) (fun i hi => ?_) ?_ (by omega)
  · have e : min (0 - (2 + t)) (nL μ s) = 0 := by omega
    simp only [e] at h
    exact h
  · show g_X8_layersAhead_4 _ _ _ _ _ _ _ = _
    unfold g_X8_layersAhead_4 g_X8_layersAhead_22
    rw [if_neg (nle (by omega)), cg a9, ec_letterAt A' hB' hN hV (by omega), zb_s, hV.2.2.2.2.2.2 i (by omega)]
    have e1 : (Int32.ofNat (Lt t (nL μ s) b i) = 108) = (2 + t ≤ i ∧ i < 2 + t + nL μ s) := by
      rw [show (108 : Int32) = Int32.ofNat 108 from rfl, on_eq _ _ (by have := Lt_le t (nL μ s) b i; omega) (by decide)]
      by_cases h2 : nD μ s < 2
      · obtain ⟨rfl, rfl, rfl, h3⟩ := hV.2.2.2.1 h2
        exact Lt108 (by omega)
      · have h3 := hV.2.2.2.2.1 (by omega)
        have h4 := hV.2.2.1
        exact Lt108 (by omega)
    dsimp only
    by_cases h2 : 2 + t ≤ i ∧ i < 2 + t + nL μ s
    · rw [if_pos (e1.mpr h2), on_s, on_s]
      have : min (i - (2 + t)) (nL μ s) + 1 = min (i + 1 - (2 + t)) (nL μ s) := by omega
      rw [this]
    · rw [if_neg (fun q => h2 (e1.mp q)), on_s]
      have : min (i - (2 + t)) (nL μ s) = min (i + 1 - (2 + t)) (nL μ s) := by omega
      rw [this]
  · show g_X8_layersAhead_4 _ _ _ _ _ _ _ = _
    unfold g_X8_layersAhead_4
    rw [if_pos (ple (by omega))]
/-- may a letter follow the first k ones -/
def mfo (la : Int32) (k q : Nat) (a : Int32) : Bool := if a = 119 then k = 0 else if a = 115 then la = 119 else if a = 116 then la = 115 else if a = 108 then ((la = 115 ∨ la = 116 ∨ la = 108) ∧ q < 4) else if a = 98 then la = 108 else if a = 99 then (la = 108 ∨ la = 98) else false
theorem ec_mayFollow {S s t b c k : Nat} (A : As lv S) (hB : Bd μ s) (hN : RN κ μ S s) (hV : Lv μ s t b c) (hk : k ≤ nD μ s) (a : Int32) : g_X8_mayFollow lv (S + 4) (Int32.ofNat k) a κ νc = some (if mfo (cAh μ s k) k (min (k - (2 + t)) (nL μ s)) a then 1 else 0) := by
  have e1 := ec_ahead (νc := νc) A hB hN hV hk
  have e2 := ec_layersAhead (νc := νc) A hB hN hV hk
  obtain ⟨a8, a4, ah, af, a9, -⟩ := A
  obtain ⟨hs, -, -, ⟨hd, hd9⟩, -, hl4⟩ := hB
  unfold g_X8_mayFollow g_X8_mayFollow_23 g_X8_mayFollow_41 g_X8_mayFollow_59 g_X8_mayFollow_84 g_X8_mayFollow_97 g_X8_mayFollow_98 g_X8_mayFollow_116 g_X8_mayFollow_135 g_X8_mayFollow_139 g_X8_mayFollow_140
  rw [cg a9, e1, zb_s]
  simp only [cg a9, e2, zb_s, zgz0, zgz1]
  unfold mfo
  generalize cAh μ s k = la
  have e3 : ((4 : Int32) ≤ Int32.ofNat (min (k - (2 + t)) (nL μ s))) = (4 ≤ min (k - (2 + t)) (nL μ s)) := on_le 4 _ (by decide) (by omega)
  simp only [e3]
  generalize min (k - (2 + t)) (nL μ s) = q
  have e4 : (Int32.ofNat k = 0) = (k = 0) := on_eq k 0 (by omega) (by decide)
  simp only [e4]
  by_cases h1 : a = 119
  · rw [if_pos h1, if_pos h1]
    by_cases h : k = 0
    · rw [if_pos h]; simp [h]
    · rw [if_neg h]; simp [h]
  · rw [if_neg h1, if_neg h1]
    by_cases h2 : a = 115
    · rw [if_pos h2, if_pos h2]
      by_cases h : la = 119
      · rw [if_pos h]; simp [h]
      · rw [if_neg h]; simp [h]
    · rw [if_neg h2, if_neg h2]
      by_cases h3 : a = 116
      · rw [if_pos h3, if_pos h3]
        by_cases h : la = 115
        · rw [if_pos h]; simp [h]
        · rw [if_neg h]; simp [h]
      · rw [if_neg h3, if_neg h3]
        by_cases h4 : a = 108
        · rw [if_pos h4, if_pos h4]
          by_cases h5 : la = 115
          · rw [if_pos h5]
            by_cases h6 : 4 ≤ q
            · rw [if_pos h6]; have h7 : ¬ q < 4 := by omega
              simp [h7]
            · rw [if_neg h6]; have h7 : q < 4 := by omega
              simp [h5, h7]
          · rw [if_neg h5]
            by_cases h55 : la = 116
            · rw [if_pos h55]
              by_cases h6 : 4 ≤ q
              · rw [if_pos h6]; have h7 : ¬ q < 4 := by omega
                simp [h7]
              · rw [if_neg h6]; have h7 : q < 4 := by omega
                simp [h55, h7]
            · rw [if_neg h55]
              by_cases h56 : la = 108
              · rw [if_pos h56]
                by_cases h6 : 4 ≤ q
                · rw [if_pos h6]; have h7 : ¬ q < 4 := by omega
                  simp [h7]
                · rw [if_neg h6]; have h7 : q < 4 := by omega
                  simp [h56, h7]
              · rw [if_neg h56]; simp [h5, h55, h56]
        · rw [if_neg h4, if_neg h4]
          by_cases h5 : a = 98
          · rw [if_pos h5, if_pos h5]
            by_cases h : la = 108
            · rw [if_pos h]; simp [h]
            · rw [if_neg h]; simp [h]
          · rw [if_neg h5, if_neg h5]
            by_cases h6 : a = 99
            · rw [if_pos h6, if_pos h6]
              by_cases h : la = 108
              · rw [if_pos h]; simp [h]
              · rw [if_neg h]
                by_cases h7 : la = 98
                · rw [if_pos h7]; simp [h7]
                · rw [if_neg h7]; simp [h, h7]
            · rw [if_neg h6, if_neg h6]; simp
theorem can_eq {s t b c : Nat} (hV : Lv μ s t b c) {a : Int32} (ha : a = 119 ∨ a = 115 ∨ a = 116 ∨ a = 108 ∨ a = 98 ∨ a = 99) : mfo (cAh μ s (nD μ s)) (nD μ s) (min (nD μ s - (2 + t)) (nL μ s)) a = tCan (tLast μ s) (nL μ s) a := by
  obtain ⟨v1, v2, v3, v4, v5, v6, v7⟩ := hV
  unfold mfo tCan cAh tLast
  by_cases h0 : nD μ s = 0
  · rw [if_pos h0, if_pos h0]
    rcases ha with rfl | rfl | rfl | rfl | rfl | rfl <;> simp [h0]
  · rw [if_neg h0, if_neg h0]
    have e := v7 (nD μ s - 1) (by omega)
    have h45 : μ (5 + s) (nD μ s - 1) ≠ 45 := by
      rw [e, show (45 : Int32) = Int32.ofNat 45 from rfl, Ne, on_eq _ _ (by have := Lt_le t (nL μ s) b (nD μ s - 1); omega) (by decide)]
      unfold Lt
      split
      · decide
      · split
        · decide
        · split
          · decide
          · split
            · decide
            · split <;> decide
    have e3 : ∀ n, n ≤ 119 → (μ (5 + s) (nD μ s - 1) = Int32.ofNat n) = (Lt t (nL μ s) b (nD μ s - 1) = n) := fun n hn => by
      rw [e, on_eq _ _ (by have := Lt_le t (nL μ s) b (nD μ s - 1); omega) (by omega)]
    rcases ha with rfl | rfl | rfl | rfl | rfl | rfl
    · simp [h0, h45]
    · simp
    · simp
    · by_cases h8 : μ (5 + s) (nD μ s - 1) = 108
      · have e4 := (e3 108 (by decide)).mp h8
        have h2 : 2 ≤ nD μ s := by
          refine Nat.not_lt.mp fun q => ?_
          have : nD μ s - 1 = 0 := by omega
          rw [this] at e4
          cases e4
        have h3 := v5 h2
        rw [Lt108 (by omega)] at e4
        have h6 : min (nD μ s - (2 + t)) (nL μ s) = nL μ s := by omega
        rw [h6]
        simp [h8]
      · have h9 : (μ (5 + s) (nD μ s - 1) = 115 ∨ μ (5 + s) (nD μ s - 1) = 116) → min (nD μ s - (2 + t)) (nL μ s) < 4 := by
          intro q
          have h7 : min (nD μ s - (2 + t)) (nL μ s) = 0 := by
            by_cases h2 : nD μ s < 2
            · have := v4 h2
              omega
            · have h3 := v5 (by omega)
              rcases q with q | q
              · have e4 := (e3 115 (by decide)).mp q
                unfold Lt at e4
                split at e4
                · cases e4
                · split at e4
                  · omega
                  · split at e4
                    · cases e4
                    · split at e4
                      · cases e4
                      · split at e4 <;> cases e4
              · have e4 := (e3 116 (by decide)).mp q
                unfold Lt at e4
                split at e4
                · cases e4
                · split at e4
                  · cases e4
                  · split at e4
                    · omega
                    · split at e4
                      · cases e4
                      · split at e4 <;> cases e4
          omega
        by_cases h5 : μ (5 + s) (nD μ s - 1) = 115
        · simp [h5, h9 (Or.inl h5)]
        · by_cases h6 : μ (5 + s) (nD μ s - 1) = 116
          · simp [h6, h9 (Or.inr h6)]
          · simp [h5, h6, h8]
    · simp
    · simp
theorem ec_mayCome {S s t b c sg : Nat} (A : As lv S) (hB : Bd μ s) (hN : RN κ μ S s) (hV : Lv μ s t b c) (hG : RG κ μ S s sg) {a : Int32} (ha : a = 119 ∨ a = 115 ∨ a = 116 ∨ a = 108 ∨ a = 98 ∨ a = 99) : g_X8_mayCome lv (S + 4) a κ νc = some (if tCan (tLast μ s) (nL μ s) a then tSg μ s else 0) := by
  have e1 := ec_allSigned (νc := νc) A hB hN hG
  have e2 := ec_mayFollow (νc := νc) A hB hN hV (Nat.le_refl _) a
  rw [can_eq hV ha] at e2
  obtain ⟨a8, a4, ah, af, a9, -⟩ := A
  obtain ⟨hs, -, -, ⟨hd, hd9⟩, -, hl4⟩ := hB
  unfold g_X8_mayCome g_X8_mayCome_23 g_X8_mayCome_24
  rw [cg a9, e1, zb_s, cg a9, cg a9, hN.1, hd, e2, zb_s]
  rcases tSg_01 (μ := μ) s with h | h
  · rw [h, if_pos rfl, zgz0]
    split <;> rfl
  · rw [h, if_neg (by decide)]
    cases tCan (tLast μ s) (nL μ s) a with
    | true => simp only [if_true, n10, if_false, zgz1]
    | false => simp only [Bool.false_eq_true, if_false, if_true, zgz0]
theorem ec_needNext {S s t b c sg : Nat} (A : As lv S) (hB : Bd μ s) (hN : RN κ μ S s) (hV : Lv μ s t b c) (hG : RG κ μ S s sg) {a : Int32} (ha : a = 119 ∨ a = 115 ∨ a = 116 ∨ a = 108 ∨ a = 98 ∨ a = 99) : g_X9_needNext lv S a κ νc = some (if (if tCan (tLast μ s) (nL μ s) a then tSg μ s else 0) = 0 then .inr 3 else .inl ()) := by
  have e1 := ec_mayCome (νc := νc) A hB hN hV hG ha
  obtain ⟨a8, a4, ah, af, a9, -⟩ := A
  unfold g_X9_needNext
  rw [cg a8, cg a9, e1, zb_s]
  generalize (if tCan (tLast μ s) (nL μ s) a = true then tSg μ s else 0) = w
  by_cases h : w = 0
  · rw [if_pos h, if_pos h]
  · rw [if_neg h, if_neg h]
theorem ec_needInWork {S s t b c sg : Nat} (A : As lv S) (hB : Bd μ s) (hN : RN κ μ S s) (hV : Lv μ s t b c) (hG : RG κ μ S s sg) {a : Int32} (ha : a ≠ 32 ∧ a ≠ 45) : g_X9_needInWork lv S a κ νc = some (if tLast μ s = a ∧ tSg μ s = 0 then .inl () else .inr 3) := by
  have e1 := ec_last (νc := νc) A hB hN hV
  have e2 := ec_allSigned (νc := νc) A hB hN hG
  have e3 : (cLast μ s = a) = (tLast μ s = a) := by
    unfold cLast tLast
    by_cases h : nD μ s = 0
    · rw [if_pos h, if_pos h]
      exact propext ⟨fun q => absurd q.symm ha.1, fun q => absurd q.symm ha.2⟩
    · rw [if_neg h, if_neg h]
  obtain ⟨a8, a4, ah, af, a9, -⟩ := A
  unfold g_X9_needInWork g_X9_needInWork_21
  rw [cg a8, cg a9, e1, zb_s]
  by_cases h : tLast μ s = a
  · rw [if_pos (e3.mpr h), cg a8, cg a9, e2, zb_s]
    by_cases h2 : tSg μ s = 0
    · rw [if_pos h2, if_pos ⟨h, h2⟩]
    · rw [if_neg h2, if_neg (fun q => h2 q.2)]
  · rw [if_neg (fun q => h (e3.mp q)), if_neg (fun q => h q.1)]
theorem ec_hasCover {S s t b c : Nat} (A : As lv S) (hB : Bd μ s) (hN : RN κ μ S s) (hV : Lv μ s t b c) : g_X7_hasCover lv S κ νc = some (if tLast μ s = 99 then 1 else 0) := by
  have e1 := ec_last (νc := νc) A hB hN hV
  have e3 : (cLast μ s = 99) = (tLast μ s = 99) := by
    unfold cLast tLast
    by_cases h : nD μ s = 0
    · rw [if_pos h, if_pos h]
      rw [eq_false (show ¬ (32 : Int32) = 99 by decide), eq_false (show ¬ (45 : Int32) = 99 by decide)]
    · rw [if_neg h, if_neg h]
  obtain ⟨a8, a4, ah, af, a9, -⟩ := A
  unfold g_X7_hasCover g_X7_hasCover_17
  rw [cg a8, cg a9, e1, zb_s]
  by_cases h : tLast μ s = 99
  · rw [if_pos (e3.mpr h), if_pos h, zgz1]
  · rw [if_neg (fun q => h (e3.mp q)), if_neg h, zgz0]
theorem ec_hasSprings {S s : Nat} (A : As lv S) (hN : RN κ μ S s) : g_X7_hasSprings lv S κ νc = some (if μ 3 s ≤ 1 then 0 else 1) := by
  obtain ⟨a8, a4, ah, af, a9, -⟩ := A
  unfold g_X7_hasSprings g_X7_hasSprings_16
  rw [cg a8, cg a9, hN.1]
  by_cases h : μ 3 s ≤ 1
  · rw [if_pos h, if_pos h, zgz0]
  · rw [if_neg h, if_neg h, zgz1]
def kAdd (κ : zzM) (S n : Nat) (a : Int32) : zzM := zset (zset κ (S + 4 + 1000) n a) (S + 4) 1 (Int32.ofNat (n + 1))
theorem ec_add {S s : Nat} (A : As lv S) (hB : Bd μ s) (hN : κ (S + 4) 1 = μ 3 s) (h9 : nD μ s < 9) {a : Int32} (ha : vp_nar .char a = a) : g_X8_add lv (S + 4) a κ νc = some (Int32.ofNat (nD μ s), kAdd κ S (nD μ s) a, νc) := by
  obtain ⟨a8, a4, ah, af, a9, a3, a0, ad, a2, bh, bf, bc, br, b9, bd, b2, hS⟩ := A
  obtain ⟨hs, -, -, ⟨hd, hd9⟩, -, hl4⟩ := hB
  unfold g_X8_add g_X8_add_32 kAdd
  rw [cg a9, cg a9, cl b9, hN, hd, if_neg (nle (by omega)), cg a9, cg a9, cs b9 h9, cg a9, cg a9, cg a9, ha, zset_h, zset_e (by omega), hN, hd, on_s, on_p _ (by omega)]
  rfl
end ZCT
