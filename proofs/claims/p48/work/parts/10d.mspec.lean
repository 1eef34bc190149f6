section ZNE
variable {μ : zzM} {ν : zzN}
def tDr (μ : zzM) (s : Nat) : Int32 := zfd (fun x a => zfd (fun y b => b + (if μ (111 + 7 * s + x) y ≤ 0 then 0 else 1)) a 6) 0 6
theorem em_drawn {s : Nat} (hs : s < 4) : g_X10_drawn (Int32.ofNat s) μ ν = some (tDr μ s) := by
  unfold g_X10_drawn
  rw [gq109 hs, gn109 hs]
  refine zfor2 6 (fun x a => zfd (fun y b => b + (if μ (111 + 7 * s + x) y ≤ 0 then 0 else 1)) a 6) 0 (fun x hx v => ?_) ?_
  · show g_X10_drawn_16 _ _ _ _ _ _ = _
    unfold g_X10_drawn_16
    rw [if_neg (nle (by omega)), gQ109 hs hx, gm109 hs hx]
    refine zfor2 6 (fun y b => b + (if μ (111 + 7 * s + x) y ≤ 0 then 0 else 1)) v (fun y hy w => ?_) ?_
    · show g_X10_drawn_41 _ _ _ _ _ _ _ _ _ = _
      unfold g_X10_drawn_41 g_X10_drawn_66
      rw [if_neg (nle (by omega)), gi109 hs hx hy]
      by_cases h : μ (111 + 7 * s + x) y ≤ 0
      · rw [if_pos h, if_pos h]
      · rw [if_neg h, if_neg h]
    · show g_X10_drawn_41 _ _ _ _ _ _ _ _ _ = _
      unfold g_X10_drawn_41
      rw [if_pos (ple (by omega))]
  · show g_X10_drawn_16 _ _ _ _ _ _ = _
    unfold g_X10_drawn_16
    rw [if_pos (ple (by omega))]
    rfl
/-- what a body's cell sinks by itself -/
def tOwn (μ : zzM) (ν : zzN) (b s x y : Nat) : Int32 := zfd (fun l a => a + zz_min (tTh μ ν s l) ((μ (149 + 7 * b + x) y * tTh μ ν s l) / (20 * μ (95 + s) l))) (zz_min (tH μ s x y) ((10 * μ (149 + 7 * b + x) y) / (μ (46 + 7 * s + x) y + μ 14 s))) (nL μ s)
def Fn (μ : zzM) (s : Nat) : Prop := ∀ l, l < nL μ s → (20 : Int32) * μ (95 + s) l ≠ 0
def Fm (μ : zzM) (s : Nat) : Prop := ∀ x, x < nC μ s → ∀ y, y < nR μ s → μ (46 + 7 * s + x) y + μ 14 s ≠ 0
theorem em_own {b s x y : Nat} (hb : b < 3) (hB : Bd μ s) (hD : Dn μ ν s) (hF : Fn μ s) (hM : Fm μ s) (hx : x < nC μ s) (hy : y < nR μ s) : g_X10_own (Int32.ofNat b) (Int32.ofNat s) (Int32.ofNat x) (Int32.ofNat y) μ ν = some (tOwn μ ν b s x y) := by
  obtain ⟨hs, ⟨hc, hc1, hc6⟩, ⟨hr, hr1, hr6⟩, -, hl, hl4⟩ := hB
  unfold g_X10_own
  rw [gq147 hb, gQ147 hb (by omega), gi147 hb (by omega) (by omega), em_standsAt hs (by omega) (by omega), zb_s, gq44 hs, gQ44 hs (by omega), gi44 hs (by omega) (by omega), gi14 hs, zdv_p (hM x hx y hy)]
  refine zfor2 (nL μ s) (fun l a => a + zz_min (tTh μ ν s l) ((μ (149 + 7 * b + x) y * tTh μ ν s l) / (20 * μ (95 + s) l))) _ (fun l hl2 v => ?_) ?_
  · show g_X10_own_53 _ _ _ _ _ _ = _
    unfold g_X10_own_53
    rw [gi83 hs, hl, if_neg (nle (by omega)), em_thickNow hs (by omega) (hD l hl2), zb_s, gq94 hs, gi94 hs (by omega), zdv_p (hF l hl2)]
  · show g_X10_own_53 _ _ _ _ _ _ = _
    unfold g_X10_own_53
    rw [gi83 hs, hl, if_pos (ple (by omega))]
    rfl
def tSink (μ : zzM) (ν : zzN) (b s x y : Nat) : Int32 := zfd (fun c a => zfd (fun d e => zz_max e (tOwn μ ν b s c d - 8 * (zz_abs (Int32.ofNat c - Int32.ofNat x) + zz_abs (Int32.ofNat d - Int32.ofNat y)))) a (nR μ s)) 0 (nC μ s)
theorem em_sinking {b s x y : Nat} (hb : b < 3) (hB : Bd μ s) (hD : Dn μ ν s) (hF : Fn μ s) (hM : Fm μ s) : g_X10_sinking (Int32.ofNat b) (Int32.ofNat s) (Int32.ofNat x) (Int32.ofNat y) μ ν = some (tSink μ ν b s x y) := by
  have hB' := hB
  obtain ⟨hs, ⟨hc, hc1, hc6⟩, ⟨hr, hr1, hr6⟩, -⟩ := hB
  unfold g_X10_sinking
  refine zfor2 (nC μ s) (fun c a => zfd (fun d e => zz_max e (tOwn μ ν b s c d - 8 * (zz_abs (Int32.ofNat c - Int32.ofNat x) + zz_abs (Int32.ofNat d - Int32.ofNat y)))) a (nR μ s)) 0 (fun c hx v => ?_) ?_
  · show g_X10_sinking_6 _ _ _ _ _ _ _ _ = _
    unfold g_X10_sinking_6
    rw [gi1 hs, hc, if_neg (nle (by omega))]
    refine zfor2 (nR μ s) (fun d e => zz_max e (tOwn μ ν b s c d - 8 * (zz_abs (Int32.ofNat c - Int32.ofNat x) + zz_abs (Int32.ofNat d - Int32.ofNat y)))) v (fun d hy w => ?_) ?_
    · show g_X10_sinking_20 _ _ _ _ _ _ _ _ _ = _
      unfold g_X10_sinking_20
      rw [gi2 hs, hr, if_neg (nle (by omega)), em_own hb hB' hD hF hM hx hy, zb_s]
    · show g_X10_sinking_20 _ _ _ _ _ _ _ _ _ = _
      unfold g_X10_sinking_20
      rw [gi2 hs, hr, if_pos (ple (by omega))]
  · show g_X10_sinking_6 _ _ _ _ _ _ _ _ = _
    unfold g_X10_sinking_6
    rw [gi1 hs, hc, if_pos (ple (by omega))]
    rfl
theorem em_pressing {b s x y : Nat} (hb : b < 3) (hB : Bd μ s) (hD : Dn μ ν s) (hF : Fn μ s) (hM : Fm μ s) (hx : x < nC μ s) (hy : y < nR μ s) (hn : (10 : Int32) + tSink μ ν b s x y ≠ 0) : g_X10_pressing (Int32.ofNat b) (Int32.ofNat s) (Int32.ofNat x) (Int32.ofNat y) μ ν = some ((100 * μ (149 + 7 * b + x) y) / (10 + tSink μ ν b s x y)) := by
  have hB' := hB
  obtain ⟨hs, ⟨hc, hc1, hc6⟩, ⟨hr, hr1, hr6⟩, -⟩ := hB
  unfold g_X10_pressing
  rw [gq147 hb, gQ147 hb (by omega), gi147 hb (by omega) (by omega), em_sinking hb hB' hD hF hM, zb_s, zdv_p hn]
/-- letters and signs -/
def CH (v : Int32) : Prop := (v.toUInt32 % 65536).toInt32 = v
theorem CH45 : CH 45 := by unfold CH; decide
theorem CH32 : CH 32 := by unfold CH; decide
theorem zgc_p {v : Int32} (h : CH v) {α : Type} {K : Option α} : zz_gc v K = K := if_pos h
def tLast (μ : zzM) (s : Nat) : Int32 := if nD μ s = 0 then 45 else μ (5 + s) (nD μ s - 1)
def tSg (μ : zzM) (s : Nat) : Int32 := if nD μ s = 0 then 1 else if μ (10 + s) (nD μ s - 1) = 0 then 0 else 1
theorem em_last {s : Nat} (hB : Bd μ s) (hc : CH (tLast μ s)) : g_X10_last (Int32.ofNat s) μ ν = some (tLast μ s) := by
  obtain ⟨hs, -, -, ⟨hd, hd9⟩, -⟩ := hB
  unfold g_X10_last g_X10_last_29
  rw [gi3 hs, hd]
  unfold tLast at hc ⊢
  by_cases h : nD μ s = 0
  · rw [if_pos (onz h), if_pos h, zgc_p CH45]
  · rw [if_neg h] at hc
    rw [if_neg (onnz (by omega)), gq4 hs, gi3 hs, hd, on_p _ (by omega), gi4 hs (by omega), if_neg h, zgc_p hc]
theorem em_lastSigned {s : Nat} (hB : Bd μ s) : g_X10_isLastSigned (Int32.ofNat s) μ ν = some (tSg μ s) := by
  obtain ⟨hs, -, -, ⟨hd, hd9⟩, -⟩ := hB
  unfold g_X10_isLastSigned g_X10_isLastSigned_27 g_X10_isLastSigned_32 tSg
  rw [gi3 hs, hd]
  by_cases h : nD μ s = 0
  · rw [if_pos (onz h), if_pos h, zgz1]
  · rw [if_neg (onnz (by omega)), gq9 hs, gi3 hs, hd, on_p _ (by omega), gi9 hs (by omega), if_neg h]
    by_cases h2 : μ (10 + s) (nD μ s - 1) = 0
    · rw [if_pos h2, if_pos h2, zgz0]
    · rw [if_neg h2, if_neg h2, zgz1]
theorem tSg_01 (s : Nat) : tSg μ s = 0 ∨ tSg μ s = 1 := by
  unfold tSg
  split
  · exact Or.inr rfl
  · split
    · exact Or.inl rfl
    · exact Or.inr rfl
theorem em_lastOpen {s : Nat} (hB : Bd μ s) (hc : CH (tLast μ s)) (a : Int32) : g_X10_isLastOpen (Int32.ofNat s) a μ ν = some (if tLast μ s = a ∧ tSg μ s = 0 then 1 else 0) := by
  unfold g_X10_isLastOpen g_X10_isLastOpen_21 g_X10_isLastOpen_22
  rw [em_last hB hc, zb_s]
  by_cases h : tLast μ s = a
  · rw [if_pos h, em_lastSigned hB, zb_s]
    by_cases h2 : tSg μ s = 0
    · rw [if_pos h2, if_pos ⟨h, h2⟩, zgz1]
    · rw [if_neg h2, if_neg (fun q => h2 q.2), zgz0]
  · rw [if_neg h, if_neg (fun q => h q.1), zgz0]
theorem em_may177 {s : Nat} (hB : Bd μ s) (c : Bool) : g_X10_mayCome_177 (Int32.ofNat s) (if c then 1 else 0) μ ν = some (if c then tSg μ s else 0) := by
  unfold g_X10_mayCome_177 g_X10_mayCome_194 g_X10_mayCome_195
  cases c with
  | false =>
    rw [if_pos (show (if false = true then (1 : Int32) else 0) = 0 from rfl), zgz0]
    rfl
  | true =>
    rw [if_pos rfl, if_neg (by decide), em_lastSigned hB, zb_s, if_pos rfl]
    rcases tSg_01 (μ := μ) s with h | h
    · rw [h, if_pos rfl, zgz0]
    · rw [h, if_neg (by decide), zgz1]
theorem em_may1 {s : Nat} (hB : Bd μ s) : g_X10_mayCome_177 (Int32.ofNat s) 1 μ ν = some (tSg μ s) := em_may177 hB true
theorem em_may0 {s : Nat} (hB : Bd μ s) : g_X10_mayCome_177 (Int32.ofNat s) 0 μ ν = some 0 := em_may177 hB false
/-- may a step come, by the last one -/
def tCan (la : Int32) (l : Nat) (a : Int32) : Bool := if a = 119 then la = 45 else if a = 115 then la = 119 else if a = 116 then la = 115 else if a = 108 then (la = 115 ∨ la = 116 ∨ (la = 108 ∧ l < 4)) else if a = 98 then la = 108 else (la = 108 ∨ la = 98)
theorem em_mayCome {s : Nat} (hB : Bd μ s) (hc : CH (tLast μ s)) {a : Int32} (ha : a = 119 ∨ a = 115 ∨ a = 116 ∨ a = 108 ∨ a = 98 ∨ a = 99) : g_X10_mayCome (Int32.ofNat s) a μ ν = some (if tCan (tLast μ s) (nL μ s) a then tSg μ s else 0) := by
  have e1 := em_may1 (ν := ν) hB
  have e0 := em_may0 (ν := ν) hB
  unfold g_X10_mayCome
  rw [em_last hB hc, zb_s]
  simp only [g_X10_mayCome_67, g_X10_mayCome_83, g_X10_mayCome_99, g_X10_mayCome_132, g_X10_mayCome_136, g_X10_mayCome_137, g_X10_mayCome_153, g_X10_mayCome_170, g_X10_mayCome_175, e1, e0]
  unfold tCan
  generalize tLast μ s = la
  obtain ⟨hs, -, -, -, hl, hl4⟩ := hB
  rcases ha with rfl | rfl | rfl | rfl | rfl | rfl
  · rw [if_neg (by decide), if_neg (by decide), if_neg (by decide), if_neg (by decide), if_pos rfl]
    by_cases h : la = 45
    · simp [h]
    · simp [h]
  · rw [if_neg (by decide), if_neg (by decide), if_pos rfl]
    by_cases h : la = 119
    · simp [h]
    · simp [h]
  · rw [if_neg (by decide), if_neg (by decide), if_neg (by decide), if_pos rfl]
    by_cases h : la = 115
    · simp [h]
    · simp [h]
  · rw [if_neg (by decide), if_pos rfl]
    by_cases h : la = 115
    · simp [h]
    · by_cases h2 : la = 116
      · simp [h2]
      · by_cases h3 : la = 108
        · rw [if_neg h, if_neg h2, if_pos h3, gi83 hs, hl, nlt4]
          by_cases h4 : 4 ≤ nL μ s
          · rw [if_pos (ple (by omega))]
            have h5 : ¬ nL μ s < 4 := by omega
            simp [h3, h5]
          · rw [if_neg (nle (by omega))]
            have h5 : nL μ s < 4 := by omega
            simp [h3, h5]
        · simp [h, h2, h3]
  · rw [if_pos rfl]
    by_cases h : la = 108
    · simp [h]
    · simp [h]
  · rw [if_neg (by decide), if_neg (by decide), if_neg (by decide), if_neg (by decide), if_neg (by decide)]
    by_cases h : la = 108
    · simp [h]
    · by_cases h2 : la = 98
      · simp [h2]
      · simp [h, h2]
end ZNE
