section ZND
/-! what the reference's own reckonings come to -/
variable {μ : zzM} {ν : zzN}
theorem n10 : ((1 : Int32) = 0) = False := eq_false (by decide)
def nC (μ : zzM) (s : Nat) : Nat := (μ 1 s).toNatClampNeg
def nR (μ : zzM) (s : Nat) : Nat := (μ 2 s).toNatClampNeg
def nD (μ : zzM) (s : Nat) : Nat := (μ 3 s).toNatClampNeg
def nL (μ : zzM) (s : Nat) : Nat := (μ 83 s).toNatClampNeg
def Bd (μ : zzM) (s : Nat) : Prop := s < 4 ∧ (μ 1 s = Int32.ofNat (nC μ s) ∧ 1 ≤ nC μ s ∧ nC μ s ≤ 6) ∧ (μ 2 s = Int32.ofNat (nR μ s) ∧ 1 ≤ nR μ s ∧ nR μ s ≤ 6) ∧ (μ 3 s = Int32.ofNat (nD μ s) ∧ nD μ s ≤ 9) ∧ (μ 83 s = Int32.ofNat (nL μ s) ∧ nL μ s ≤ 4)
theorem em_isIn (a b c : Int32) : g_X10_isIn a b c μ ν = some (if a < b then 0 else if c < a then 0 else 1) := by
  unfold g_X10_isIn g_X10_isIn_14 g_X10_isIn_15
  by_cases h : a < b
  · rw [if_pos h, if_pos h, zgz0]
  · rw [if_neg h, if_neg h]
    by_cases h2 : c < a
    · rw [if_pos h2, if_pos h2, zgz0]
    · rw [if_neg h2, if_neg h2, zgz1]
theorem em_th0 (w : Int32) : g_X10_isThrown 0 w μ ν = some (0, zset μ 0 33 0, ν) := by
  unfold g_X10_isThrown g_X10_isThrown_10
  rw [if_pos rfl, zgz0]
theorem em_th1 (w : Int32) : g_X10_isThrown 1 w μ ν = some (1, zset μ 0 33 w, ν) := by
  unfold g_X10_isThrown g_X10_isThrown_10
  rw [if_neg (by decide), zgz1]
theorem zset_2 {o i : Nat} {a b : Int32} : zset (zset μ o i a) o i b = zset μ o i b := by
  funext o' i'
  unfold zset
  by_cases h : o' = o ∧ i' = i
  · rw [if_pos h, if_pos h]
  · rw [if_neg h, if_neg h, if_neg h]
theorem on_pl (x : Int32) (n : Nat) (hn : n < 2 ^ 31) : (Int32.ofNat n - 1 < x) = ¬ x < Int32.ofNat n := by
  have h1 : (Int32.ofNat n - 1).toInt = (n : Int) - 1 := by
    rw [Int32.toInt_sub, on_i n hn]
    have h2 : (1 : Int32).toInt = 1 := rfl
    rw [h2, Int.bmod_eq_of_le_mul_two] <;> omega
  rw [Int32.lt_iff_toInt_lt, Int32.lt_iff_toInt_lt, h1, on_i n hn]
  exact propext (by omega)
theorem em_ix0 {x : Int32} {n : Nat} (hn : n < 2 ^ 31) (h : x < 0 ∨ (¬ x < 0 ∧ ¬ x < Int32.ofNat n)) : g_X10_isIn x 0 (Int32.ofNat n - 1) μ ν = some 0 := by
  rw [em_isIn]
  rcases h with h | ⟨h1, h2⟩
  · rw [if_pos h]
  · rw [if_neg h1, if_pos ((on_pl x n hn).mpr h2)]
theorem em_ix1 {i n : Nat} (hn : n < 2 ^ 31) (h : i < n) : g_X10_isIn (Int32.ofNat i) 0 (Int32.ofNat n - 1) μ ν = some 1 := by
  rw [em_isIn, if_neg (on_nn i (by omega)), if_neg (fun q => (on_pl _ n hn).mp q (plt (by omega)))]
theorem em_noSeat1 {x : Int32} {n : Nat} (h30 : μ 0 30 = Int32.ofNat n) (hn : n < 2 ^ 31) (h : x < 0 ∨ (¬ x < 0 ∧ ¬ x < Int32.ofNat n)) : g_X10_isNoSeat x μ ν = some 1 := by
  unfold g_X10_isNoSeat g_X10_isNoSeat_19
  rw [h30, em_ix0 hn h, zb_s, if_pos rfl, zgz1]
theorem em_noSeat0 {i n : Nat} (h30 : μ 0 30 = Int32.ofNat n) (hn : n < 2 ^ 31) (h : i < n) : g_X10_isNoSeat (Int32.ofNat i) μ ν = some 0 := by
  unfold g_X10_isNoSeat g_X10_isNoSeat_19
  rw [h30, em_ix1 hn h, zb_s, if_neg (by decide), zgz0]
theorem em_noBody1 {x : Int32} {n : Nat} (h30 : μ 0 31 = Int32.ofNat n) (hn : n < 2 ^ 31) (h : x < 0 ∨ (¬ x < 0 ∧ ¬ x < Int32.ofNat n)) : g_X10_isNoBody x μ ν = some 1 := by
  unfold g_X10_isNoBody g_X10_isNoBody_19
  rw [h30, em_ix0 hn h, zb_s, if_pos rfl, zgz1]
theorem em_noBody0 {i n : Nat} (h30 : μ 0 31 = Int32.ofNat n) (hn : n < 2 ^ 31) (h : i < n) : g_X10_isNoBody (Int32.ofNat i) μ ν = some 0 := by
  unfold g_X10_isNoBody g_X10_isNoBody_19
  rw [h30, em_ix1 hn h, zb_s, if_neg (by decide), zgz0]
theorem em_hasSprings {s : Nat} (hs : s < 4) : g_X10_hasSprings (Int32.ofNat s) μ ν = some (if μ 3 s ≤ 1 then 0 else 1) := by
  unfold g_X10_hasSprings g_X10_hasSprings_15
  rw [gi3 hs]
  by_cases h : μ 3 s ≤ 1
  · rw [if_pos h, if_pos h, zgz0]
  · rw [if_neg h, if_neg h, zgz1]
def tH (μ : zzM) (s x y : Nat) : Int32 := if μ 3 s ≤ 1 then 0 else zz_min (μ (17 + 7 * s + x) y) (zz_min (μ (74 + s) x) (μ (79 + s) y))
theorem em_standsAt {s x y : Nat} (hs : s < 4) (hx : x < 6) (hy : y < 6) : g_X10_standsAt (Int32.ofNat s) (Int32.ofNat x) (Int32.ofNat y) μ ν = some (tH μ s x y) := by
  unfold g_X10_standsAt g_X10_standsAt_44 tH
  rw [em_hasSprings hs, zb_s]
  by_cases h : μ 3 s ≤ 1
  · rw [if_pos h, if_pos h, if_pos rfl]
  · rw [if_neg h, if_neg h, if_neg (by decide), gq15 hs, gQ15 hs hx, gi15 hs hx hy, gq73 hs, gi73 hs hx, gq78 hs, gi78 hs hy]
def tSum (μ : zzM) (s : Nat) (f : Nat → Nat → Int32) : Int32 := zfd (fun x a => zfd (fun y b => b + f x y) a (nR μ s)) 0 (nC μ s)
theorem em_standing {s : Nat} (hB : Bd μ s) : g_X10_standing (Int32.ofNat s) μ ν = some (tSum μ s (tH μ s)) := by
  obtain ⟨hs, ⟨hc, hc1, hc6⟩, ⟨hr, hr1, hr6⟩, -⟩ := hB
  unfold g_X10_standing
  refine zfor2 (nC μ s) (fun x a => zfd (fun y b => b + tH μ s x y) a (nR μ s)) 0 (fun x hx v => ?_) ?_
  · show g_X10_standing_4 _ _ _ _ _ = _
    unfold g_X10_standing_4
    rw [gi1 hs, hc, if_neg (nle (by omega))]
    refine zfor2 (nR μ s) (fun y b => b + tH μ s x y) v (fun y hy w => ?_) ?_
    · show g_X10_standing_17 _ _ _ _ _ _ = _
      unfold g_X10_standing_17
      rw [gi2 hs, hr, if_neg (nle (by omega)), em_standsAt hs (by omega) (by omega), zb_s]
    · show g_X10_standing_17 _ _ _ _ _ _ = _
      unfold g_X10_standing_17
      rw [gi2 hs, hr, if_pos (ple (by omega))]
  · show g_X10_standing_4 _ _ _ _ _ = _
    unfold g_X10_standing_4
    rw [gi1 hs, hc, if_pos (ple (by omega))]
    rfl
def tBy (k : Int32) : Int64 := if k = 104 then 1000 else if k = 102 then 400 else 100
def tDen (μ : zzM) (ν : zzN) (s l : Nat) : Int64 := (2 : Int64) * (ν (100 + s) l + tBy (μ (85 + s) l) * (μ (95 + s) l).toInt64)
def tTh (μ : zzM) (ν : zzN) (s l : Nat) : Int32 := μ (90 + s) l - (((μ (90 + s) l).toInt64 * ν (100 + s) l) / tDen μ ν s l).toInt32
theorem em_thickNow {s l : Nat} (hs : s < 4) (hl : l < 4) (hd : tDen μ ν s l ≠ 0) : g_X10_thickNow (Int32.ofNat s) (Int32.ofNat l) μ ν = some (tTh μ ν s l) := by
  unfold tDen tBy at hd
  unfold g_X10_thickNow g_X10_thickNow_50 tTh tDen tBy
  rw [gq99 hs, gl99 hs hl, gq84 hs, gi84 hs hl]
  by_cases h : μ (85 + s) l = 104
  · rw [if_pos h] at hd
    rw [if_pos h, gq89 hs, gi89 hs hl, gq94 hs, gi94 hs hl, zdl_p hd, gq89 hs, gi89 hs hl, if_pos h]
  · rw [if_neg h] at hd
    rw [if_neg h, gq84 hs, gi84 hs hl, if_neg h]
    by_cases h2 : μ (85 + s) l = 102
    · rw [if_pos h2] at hd
      rw [if_pos h2, gq89 hs, gi89 hs hl, gq94 hs, gi94 hs hl, zdl_p hd, gq89 hs, gi89 hs hl, if_pos h2]
    · rw [if_neg h2] at hd
      rw [if_neg h2, gq89 hs, gi89 hs hl, gq94 hs, gi94 hs hl, zdl_p hd, gq89 hs, gi89 hs hl, if_neg h2]
def Dn (μ : zzM) (ν : zzN) (s : Nat) : Prop := ∀ l, l < nL μ s → tDen μ ν s l ≠ 0
def tTop (μ : zzM) (ν : zzN) (s x y : Nat) : Int32 := zz_max 0 (zfd (fun l a => a + tTh μ ν s l) (tH μ s x y - μ (111 + 7 * s + x) y) (nL μ s))
theorem em_topAt {s x y : Nat} (hB : Bd μ s) (hD : Dn μ ν s) (hx : x < 6) (hy : y < 6) : g_X10_topAt (Int32.ofNat s) (Int32.ofNat x) (Int32.ofNat y) μ ν = some (tTop μ ν s x y) := by
  obtain ⟨hs, -, -, -, hl, hl4⟩ := hB
  unfold g_X10_topAt
  rw [em_standsAt hs hx hy, zb_s, gq109 hs, gQ109 hs hx, gi109 hs hx hy]
  refine zfor2 (nL μ s) (fun l a => a + tTh μ ν s l) _ (fun l hl2 v => ?_) ?_
  · show g_X10_topAt_23 _ _ _ _ _ = _
    unfold g_X10_topAt_23
    rw [gi83 hs, hl, if_neg (nle (by omega)), em_thickNow hs (by omega) (hD l hl2), zb_s]
  · show g_X10_topAt_23 _ _ _ _ _ = _
    unfold g_X10_topAt_23
    rw [gi83 hs, hl, if_pos (ple (by omega))]
    rfl
theorem em_tops {s : Nat} (hB : Bd μ s) (hD : Dn μ ν s) : g_X10_tops (Int32.ofNat s) μ ν = some (tSum μ s (tTop μ ν s)) := by
  have hB' := hB
  obtain ⟨hs, ⟨hc, hc1, hc6⟩, ⟨hr, hr1, hr6⟩, -⟩ := hB
  unfold g_X10_tops
  refine zfor2 (nC μ s) (fun x a => zfd (fun y b => b + tTop μ ν s x y) a (nR μ s)) 0 (fun x hx v => ?_) ?_
  · show g_X10_tops_4 _ _ _ _ _ = _
    unfold g_X10_tops_4
    rw [gi1 hs, hc, if_neg (nle (by omega))]
    refine zfor2 (nR μ s) (fun y b => b + tTop μ ν s x y) v (fun y hy w => ?_) ?_
    · show g_X10_tops_17 _ _ _ _ _ _ = _
      unfold g_X10_tops_17
      rw [gi2 hs, hr, if_neg (nle (by omega)), em_topAt hB' hD (by omega) (by omega), zb_s]
    · show g_X10_tops_17 _ _ _ _ _ _ = _
      unfold g_X10_tops_17
      rw [gi2 hs, hr, if_pos (ple (by omega))]
  · show g_X10_tops_4 _ _ _ _ _ = _
    unfold g_X10_tops_4
    rw [gi1 hs, hc, if_pos (ple (by omega))]
    rfl
end ZND
