section ZNF
variable {μ : zzM} {ν : zzN}
/-- a step more -/
def mDone (μ : zzM) (s : Nat) (a : Int32) : zzM := zset (zset (zset μ (5 + s) (nD μ s) a) (10 + s) (nD μ s) 0) 3 s (Int32.ofNat (nD μ s + 1))
theorem em_done {s : Nat} (hB : Bd μ s) (h9 : nD μ s < 9) {a : Int32} (ha : vp_nar .char a = a) : g_X10_done (Int32.ofNat s) a μ ν = some (Int32.ofNat (nD μ s), mDone μ s a, ν) := by
  obtain ⟨hs, -, -, ⟨hd, hd9⟩, -⟩ := hB
  unfold g_X10_done mDone
  rw [gq4 hs, gi3 hs, hd, gs4 hs h9, ha, gq9 hs, gi3 hs, zset_e (by omega), hd, gs9 hs h9, gi3 hs, zset_e (by omega), zset_e (by omega), hd, gs3 hs, gi3 hs, zset_h, on_s, on_p _ (by omega)]
  rfl
def mLoos (μ : zzM) (s : Nat) (k : Nat) : zzM := fun o i => if (o = 74 + s ∨ o = 79 + s) ∧ i < k then 99 else μ o i
theorem mLoos_o {s k o : Nat} (h : o ≠ 74 + s) (h2 : o ≠ 79 + s) : mLoos μ s k o = μ o := by
  funext i
  unfold mLoos
  rw [if_neg (fun q => q.1.elim h h2)]
theorem mLoos_0 {s : Nat} : mLoos μ s 0 = μ := by
  funext o i
  unfold mLoos
  rw [if_neg (by omega)]
theorem mLoos_s {s k : Nat} : zset (zset (mLoos μ s k) (74 + s) k 99) (79 + s) k 99 = mLoos μ s (k + 1) := by
  funext o i
  unfold zset mLoos
  by_cases h : (o = 74 + s ∨ o = 79 + s) ∧ i < k + 1
  · rw [if_pos h]
    by_cases h2 : o = 79 + s ∧ i = k
    · rw [if_pos h2]
    · rw [if_neg h2]
      by_cases h3 : o = 74 + s ∧ i = k
      · rw [if_pos h3]
      · rw [if_neg h3, if_pos (by omega)]
  · rw [if_neg h, if_neg (by omega), if_neg (by omega), if_neg (by omega)]
theorem em_loosen {s : Nat} (hs : s < 4) : g_X10_loosen (Int32.ofNat s) μ ν = some ((), mLoos μ s 6, ν) := by
  unfold g_X10_loosen
  have h := zfor (b := fun s1 : (Int32 × zzM × zzN) => g_X10_loosen_2 (Int32.ofNat s) s1.1 s1.2.1 s1.2.2) (r := ((), mLoos μ s 6, ν)) 6 (fun i => (Int32.ofNat i, mLoos μ s i, ν)) (fun i hi => ?_) ?_ (by omega)
  · rw [mLoos_0] at h
    exact h
  · show g_X10_loosen_2 _ _ _ _ = _
    unfold g_X10_loosen_2
    rw [nlt6, if_neg (nle (by omega)), gq73 hs, gs73 hs hi, gq78 hs, gs78 hs hi, mLoos_s, on_s]
  · show g_X10_loosen_2 _ _ _ _ = _
    unfold g_X10_loosen_2
    rw [nlt6, if_pos (ple (by omega))]
/-- springs all over -/
def mSpr (μ : zzM) (s : Nat) (hh f : Int32) (k : Nat) : zzM := fun o i => if 17 + 7 * s ≤ o ∧ o < 23 + 7 * s ∧ i < 6 ∧ 6 * (o - (17 + 7 * s)) + i < k then hh else if 46 + 7 * s ≤ o ∧ o < 52 + 7 * s ∧ i < 6 ∧ 6 * (o - (46 + 7 * s)) + i < k then f else μ o i
theorem mSpr_o {s k o : Nat} {hh f : Int32} (h : ¬ (17 + 7 * s ≤ o ∧ o < 23 + 7 * s)) (h2 : ¬ (46 + 7 * s ≤ o ∧ o < 52 + 7 * s)) : mSpr μ s hh f k o = μ o := by
  funext i
  unfold mSpr
  rw [if_neg (by omega), if_neg (by omega)]
theorem mSpr_0 {s : Nat} {hh f : Int32} : mSpr μ s hh f 0 = μ := by
  funext o i
  unfold mSpr
  rw [if_neg (by omega), if_neg (by omega)]
theorem mSpr_s {s x y : Nat} {hh f : Int32} (hs : s < 4) (hx : x < 6) (hy : y < 6) : zset (zset (mSpr μ s hh f (6 * x + y)) (17 + 7 * s + x) y hh) (46 + 7 * s + x) y f = mSpr μ s hh f (6 * x + y + 1) := by
  funext o i
  unfold zset mSpr
  by_cases h2 : o = 46 + 7 * s + x ∧ i = y
  · rw [if_pos h2, if_neg (by omega), if_pos (by omega)]
  · rw [if_neg h2]
    by_cases h3 : o = 17 + 7 * s + x ∧ i = y
    · rw [if_pos h3, if_pos (by omega)]
    · rw [if_neg h3]
      by_cases h4 : 17 + 7 * s ≤ o ∧ o < 23 + 7 * s ∧ i < 6 ∧ 6 * (o - (17 + 7 * s)) + i < 6 * x + y
      · rw [if_pos h4, if_pos (by omega)]
      · rw [if_neg h4]
        by_cases h5 : 46 + 7 * s ≤ o ∧ o < 52 + 7 * s ∧ i < 6 ∧ 6 * (o - (46 + 7 * s)) + i < 6 * x + y
        · rw [if_pos h5, if_neg (by omega), if_pos (by omega)]
        · rw [if_neg h5, if_neg (by omega), if_neg (by omega)]
theorem em_spring62 {s : Nat} (hs : s < 4) {hh f : Int32} {r : Int32 × zzM × zzN} (hr : zz_g1 (g_X10_loosen (Int32.ofNat s) (mSpr μ s hh f 36) ν) (fun _ m119 q119 => zz_g1 (g_X10_done (Int32.ofNat s) (115 : Int32) m119 q119) fun v126 m126 q126 => (some (v126, m126, q126) : Option (Int32 × zzM × zzN))) = some r) : zz_it (fun s1 : (Int32 × zzM × zzN) => g_X10_spring_62 (Int32.ofNat s) hh f s1.1 s1.2.1 s1.2.2) zz_F ((0 : Int32), μ, ν) = some r := by
  have h := zfor (b := fun s1 : (Int32 × zzM × zzN) => g_X10_spring_62 (Int32.ofNat s) hh f s1.1 s1.2.1 s1.2.2) (r := r) 6 (fun x => (Int32.ofNat x, mSpr μ s hh f (6 * x), ν)) (fun x hx => ?_) ?_ (by omega)
  · rw [Nat.mul_zero, mSpr_0] at h
    exact h
  · show g_X10_spring_62 _ _ _ _ _ _ = _
    unfold g_X10_spring_62
    rw [nlt6, if_neg (nle (by omega))]
    have h2 := zfor (b := fun s1 : (Int32 × zzM × zzN) => g_X10_spring_72 (Int32.ofNat s) hh f (Int32.ofNat x) s1.1 s1.2.1 s1.2.2) (r := (.inl (Int32.ofNat (x + 1), mSpr μ s hh f (6 * (x + 1)), ν) : (Int32 × zzM × zzN) ⊕ (Int32 × zzM × zzN))) 6 (fun y => (Int32.ofNat y, mSpr μ s hh f (6 * x + y), ν)) (fun y hy => ?_) ?_ (by omega)
    · exact h2
    · show g_X10_spring_72 _ _ _ _ _ _ _ = _
      unfold g_X10_spring_72
      rw [nlt6, if_neg (nle (by omega)), gq15 hs, gQ15 hs hx, gs15 hs hx hy, gq44 hs, gQ44 hs hx, gs44 hs hx hy, mSpr_s hs hx hy, on_s]
      rfl
    · show g_X10_spring_72 _ _ _ _ _ _ _ = _
      unfold g_X10_spring_72
      rw [nlt6, if_pos (ple (by omega)), on_s]
      rfl
  · show g_X10_spring_62 _ _ _ _ _ _ = _
    unfold g_X10_spring_62
    rw [nlt6, if_pos (ple (by omega))]
    show zz_g1 (g_X10_loosen (Int32.ofNat s) (mSpr μ s hh f 36) ν) _ = _
    generalize g_X10_loosen (Int32.ofNat s) (mSpr μ s hh f 36) ν = w at hr ⊢
    unfold zz_g1 at hr ⊢
    split at hr
    · next v m n =>
      show zz_g1 (g_X10_done (Int32.ofNat s) 115 m n) _ = _
      change zz_g1 (g_X10_done (Int32.ofNat s) 115 m n) _ = _ at hr
      generalize g_X10_done (Int32.ofNat s) 115 m n = w2 at hr ⊢
      unfold zz_g1 at hr ⊢
      split at hr
      · cases hr; rfl
      · cases hr
    · cases hr
/-- a body's or a seat's cell -/
theorem cell_cases (x : Int32) (c r : Nat) (hc : c ≤ 6) (hr : r ≤ 6) : (∃ a b, a < c ∧ b < r ∧ x = Int32.ofNat (10 * a + b) ∧ x / 10 = Int32.ofNat a ∧ zz_rem x 10 = Int32.ofNat b ∧ ¬ x < 0) ∨ (((x / 10 < 0 ∨ (¬ x / 10 < 0 ∧ ¬ x / 10 < Int32.ofNat c)) ∨ ((¬ x / 10 < 0 ∧ x / 10 < Int32.ofNat c) ∧ (zz_rem x 10 < 0 ∨ (¬ zz_rem x 10 < 0 ∧ ¬ zz_rem x 10 < Int32.ofNat r)))) ∧ (x < 0 ∨ (¬ x < 0 ∧ (Int32.ofNat c ≤ x / 10 ∨ (¬ Int32.ofNat c ≤ x / 10 ∧ ¬ zz_rem x 10 < Int32.ofNat r))))) := by
  have hd : (x / 10).toInt = x.toInt.tdiv 10 := by
    rw [Int32.toInt_div_of_ne_right x 10 (by decide)]
    rfl
  have hdl := Int32.le_toInt x
  have hdu := Int32.toInt_lt x
  have t1 : x.toInt.tdiv 10 = x.toInt / 10 + if 0 ≤ x.toInt ∨ (10 : Int) ∣ x.toInt then 0 else (10 : Int).sign := Int.tdiv_eq_ediv
  have t2 : x.toInt.tmod 10 = x.toInt % 10 - ((if 0 ≤ x.toInt ∨ (10 : Int) ∣ x.toInt then 0 else (10 : Int).natAbs : Nat) : Int) := Int.tmod_eq_emod
  have s1 : (10 : Int).sign = 1 := rfl
  have s2 : (10 : Int).natAbs = 10 := rfl
  rw [s1] at t1
  rw [s2] at t2
  have hm : (zz_rem x 10).toInt = x.toInt.tmod 10 := by
    rw [rem_I x 10 (by decide)]
    have h10 : (10 : Int32).toInt = 10 := rfl
    rw [h10, toInt_I]
    · split at t2 <;> omega
    · split at t2 <;> omega
  have hz : (0 : Int32).toInt = 0 := rfl
  simp only [Int32.lt_iff_toInt_lt, Int32.le_iff_toInt_le, hd, hm, hz, on_i c (by omega), on_i r (by omega)]
  by_cases h0 : x.toInt < 0
  · refine Or.inr ⟨?_, Or.inl h0⟩
    split at t1 <;> (split at t2 <;> omega)
  · rw [if_pos (Or.inl (by omega))] at t1 t2
    by_cases h1 : x.toInt.tdiv 10 < (c : Int)
    · by_cases h2 : x.toInt.tmod 10 < (r : Int)
      · refine Or.inl ⟨(x.toInt.tdiv 10).toNat, (x.toInt.tmod 10).toNat, by omega, by omega, ?_, ?_, ?_, h0⟩
        · apply Int32.toInt.inj
          rw [on_i _ (by omega)]
          omega
        · apply Int32.toInt.inj
          rw [hd, on_i _ (by omega)]
          omega
        · apply Int32.toInt.inj
          rw [hm, on_i _ (by omega)]
          omega
      · refine Or.inr ⟨?_, ?_⟩ <;> omega
    · refine Or.inr ⟨?_, ?_⟩ <;> omega
theorem em_noCell0 {s n a b : Nat} {x : Int32} (h30 : μ 0 30 = Int32.ofNat n) (hn : n ≤ 4) (h : s < n) (hB : Bd μ s) (ha : a < nC μ s) (hb : b < nR μ s) (hx : ¬ x < 0) (hd : x / 10 = Int32.ofNat a) (hm : zz_rem x 10 = Int32.ofNat b) : g_X10_isNoCell (Int32.ofNat s) x μ ν = some 0 := by
  obtain ⟨hs, ⟨hc, hc1, hc6⟩, ⟨hr, hr1, hr6⟩, -⟩ := hB
  unfold g_X10_isNoCell g_X10_isNoCell_43
  rw [em_noSeat0 h30 (by omega) h, zb_s, if_pos rfl, if_neg hx, zdv10, gi1 hs, hc, hd, if_neg (nle (by omega)), zdv10, gi2 hs, hr, hm, if_pos (plt (by omega)), zgz0]
theorem em_noCell1 {s n : Nat} {x : Int32} (h30 : μ 0 30 = Int32.ofNat n) (hn : n ≤ 4) (h : s < n) (hB : Bd μ s) (hx : x < 0 ∨ (¬ x < 0 ∧ (Int32.ofNat (nC μ s) ≤ x / 10 ∨ (¬ Int32.ofNat (nC μ s) ≤ x / 10 ∧ ¬ zz_rem x 10 < Int32.ofNat (nR μ s))))) : g_X10_isNoCell (Int32.ofNat s) x μ ν = some 1 := by
  obtain ⟨hs, ⟨hc, hc1, hc6⟩, ⟨hr, hr1, hr6⟩, -⟩ := hB
  unfold g_X10_isNoCell g_X10_isNoCell_38 g_X10_isNoCell_43
  rw [em_noSeat0 h30 (by omega) h, zb_s, if_pos rfl]
  rcases hx with hx | ⟨hx, hx2⟩
  · rw [if_pos hx, zgz1]
  · rw [if_neg hx, zdv10, gi1 hs, hc]
    rcases hx2 with hx2 | ⟨hx2, hx3⟩
    · rw [if_pos hx2, zgz1]
    · rw [if_neg hx2, zdv10, gi2 hs, hr, if_neg hx3, zgz1]
theorem em_noCellS {n : Nat} {x y : Int32} (h30 : μ 0 30 = Int32.ofNat n) (hn : n ≤ 4) (h : x < 0 ∨ (¬ x < 0 ∧ ¬ x < Int32.ofNat n)) : g_X10_isNoCell x y μ ν = some 1 := by
  unfold g_X10_isNoCell g_X10_isNoCell_38 g_X10_isNoCell_43
  rw [em_noSeat1 h30 (by omega) h, zb_s, if_neg (by decide), zgz1]
/-- the slanting pairs of buttons -/
def tFo (μ : zzM) (s x y : Nat) (up : Bool) (x3 : Int32) : Int32 :=
  let one := μ (111 + 7 * s + x) y
  let two := if up then (if y < 5 then μ (111 + 7 * s + (x + 1)) (y + 1) else 0) else (if 0 < y then μ (111 + 7 * s + (x + 1)) (y - 1) else 0)
  if one ≤ 0 then 0 else if two ≤ 0 then 0 else if x3 = 0 then 1 else if 3 < zz_abs (one - two) then 0 else 1
theorem em_folds71 {x1 x2 x3 x4 x5 x6 x7 s0 : Int32} : g_X10_foldsBy_71 x1 x2 x3 x4 x5 x6 x7 s0 μ ν = some (.inl (x4 + (if x7 ≤ 0 then 0 else if s0 ≤ 0 then 0 else if x3 = 0 then 1 else if 3 < zz_abs (x7 - s0) then 0 else 1), x6 + 1)) := by
  unfold g_X10_foldsBy_71 g_X10_foldsBy_105 g_X10_foldsBy_101 g_X10_foldsBy_106
  by_cases h1 : x7 ≤ 0
  · rw [if_pos h1, if_pos h1]
  · rw [if_neg h1, if_neg h1]
    by_cases h2 : s0 ≤ 0
    · rw [if_pos h2, if_pos h2]
    · rw [if_neg h2, if_neg h2]
      by_cases h3 : x3 = 0
      · rw [if_pos h3, if_pos h3]
      · rw [if_neg h3, if_neg h3]
        by_cases h4 : 3 < zz_abs (x7 - s0)
        · rw [if_pos h4, if_pos h4]
        · rw [if_neg h4, if_neg h4]
theorem em_foldsBy {s : Nat} (hs : s < 4) (up : Bool) (x3 : Int32) : g_X10_foldsBy (Int32.ofNat s) (if up then 1 else -1) x3 μ ν = some (zfd (fun x a => zfd (fun y b => b + tFo μ s x y up x3) a 6) 0 5) := by
  unfold g_X10_foldsBy
  refine zfor2 5 (fun x a => zfd (fun y b => b + tFo μ s x y up x3) a 6) 0 (fun x hx v => ?_) ?_
  · show g_X10_foldsBy_6 _ _ _ _ _ _ _ = _
    unfold g_X10_foldsBy_6
    dsimp only
    rw [on_s, nlt6, if_neg (nle (by omega))]
    refine zfor2 6 (fun y b => b + tFo μ s x y up x3) v (fun y hy w => ?_) ?_
    · show g_X10_foldsBy_18 _ _ _ _ _ _ _ _ = _
      unfold g_X10_foldsBy_18 tFo
      dsimp only
      rw [nlt6, if_neg (nle (by omega)), gq109 hs, gQ109 hs (by omega), gi109 hs (by omega) hy]
      cases up with
      | true =>
        rw [if_pos rfl, on_s, show (5 : Int32) = Int32.ofNat 6 - 1 from rfl]
        by_cases h : y < 5
        · rw [em_ix1 (by omega) (show y + 1 < 6 by omega), zb_s, if_neg (by decide), gq109 hs, on_s x, gQ109 hs (by omega), gi109 hs (by omega) (by omega), em_folds71, on_s]
          simp only [if_true, if_pos h]
        · rw [em_ix0 (by omega) (Or.inr ⟨on_nn _ (by omega), nlt (by omega)⟩), zb_s, if_pos rfl, em_folds71, on_s]
          simp only [if_true, if_neg h]
      | false =>
        have hm : Int32.ofNat y + (if false = true then 1 else -1) = if 0 < y then Int32.ofNat (y - 1) else -1 := by
          have : y = 0 ∨ y = 1 ∨ y = 2 ∨ y = 3 ∨ y = 4 ∨ y = 5 := by omega
          rcases this with rfl | rfl | rfl | rfl | rfl | rfl <;> rfl
        rw [hm, show (5 : Int32) = Int32.ofNat 6 - 1 from rfl, on_s]
        by_cases h : 0 < y
        · rw [if_pos h, em_ix1 (by omega) (show y - 1 < 6 by omega), zb_s, if_neg (by decide), gq109 hs, gQ109 hs (by omega), gi109 hs (by omega) (by omega), em_folds71, on_s]
          simp only [if_pos h, Bool.false_eq_true, if_false]
        · rw [if_neg h, em_ix0 (by omega) (Or.inl (by decide)), zb_s, if_pos rfl, em_folds71, on_s]
          simp only [if_neg h, Bool.false_eq_true, if_false]
    · show g_X10_foldsBy_18 _ _ _ _ _ _ _ _ = _
      unfold g_X10_foldsBy_18
      dsimp only
      rw [nlt6, if_pos (ple (by omega)), on_s]
  · show g_X10_foldsBy_6 _ _ _ _ _ _ _ = _
    unfold g_X10_foldsBy_6
    dsimp only
    rw [on_s, nlt6, if_pos (ple (by omega))]
/-- hours more -/
def nUse (ν : zzN) (s : Nat) (d : Int64) (k : Nat) : zzN := fun o i => if o = 100 + s ∧ i < k then ν o i + d else ν o i
theorem nUse_0 {s : Nat} {d : Int64} : nUse ν s d 0 = ν := by
  funext o i
  unfold nUse
  rw [if_neg (by omega)]
theorem nUse_s {s k : Nat} {d : Int64} : zsetN (nUse ν s d k) (100 + s) k (ν (100 + s) k + d) = nUse ν s d (k + 1) := by
  funext o i
  unfold zsetN nUse
  by_cases h : o = 100 + s ∧ i = k
  · rw [if_pos h, if_pos (by omega), h.1, h.2]
  · rw [if_neg h]
    by_cases h2 : o = 100 + s ∧ i < k
    · rw [if_pos h2, if_pos (by omega)]
    · rw [if_neg h2, if_neg (by omega)]
theorem em_uses {s : Nat} {d : Int32} (hB : Bd μ s) (hD : Dn μ ν s) (hB2 : Bd (zset μ 144 s (μ 144 s + d)) s) (hD2 : Dn (zset μ 144 s (μ 144 s + d)) (nUse ν s d.toInt64 (nL μ s)) s) : g_X10_uses (Int32.ofNat s) d μ ν = some (tSum μ s (tTop μ ν s) - tSum (zset μ 144 s (μ 144 s + d)) s (tTop (zset μ 144 s (μ 144 s + d)) (nUse ν s d.toInt64 (nL μ s)) s), zset μ 144 s (μ 144 s + d), nUse ν s d.toInt64 (nL μ s)) := by
  unfold g_X10_uses
  rw [em_tops hB hD, zb_s]
  obtain ⟨hs, -, -, -, hl, hl4⟩ := hB
  rw [gi144 hs, gs144 hs]
  have hl2 : zset μ 144 s (μ 144 s + d) 83 s = Int32.ofNat (nL μ s) := by rw [zset_e (by omega), ← hl]
  have h := zfor (b := fun s1 : (Int32 × zzM × zzN) => g_X10_uses_19 (Int32.ofNat s) d (tSum μ s (tTop μ ν s)) s1.1 s1.2.1 s1.2.2) (r := (tSum μ s (tTop μ ν s) - tSum (zset μ 144 s (μ 144 s + d)) s (tTop (zset μ 144 s (μ 144 s + d)) (nUse ν s d.toInt64 (nL μ s)) s), zset μ 144 s (μ 144 s + d), nUse ν s d.toInt64 (nL μ s))) (nL μ s) (fun k => (Int32.ofNat k, zset μ 144 s (μ 144 s + d), nUse ν s d.toInt64 k)) (fun k hk => ?_) ?_ (by omega)
  · rw [nUse_0] at h
    exact h
  · show g_X10_uses_19 _ _ _ _ _ _ = _
    unfold g_X10_uses_19
    dsimp only
    have h3 : nUse ν s d.toInt64 k (100 + s) k = ν (100 + s) k := by
      unfold nUse
      rw [if_neg (by omega)]
    rw [gi83 hs, hl2, if_neg (nle (by omega)), gq99 hs, gl99 hs (by omega), gsl99 hs (by omega), h3, nUse_s, on_s]
  · show g_X10_uses_19 _ _ _ _ _ _ = _
    unfold g_X10_uses_19
    dsimp only
    rw [gi83 hs, hl2, if_pos (ple (by omega)), em_tops hB2 hD2, zb_s]
end ZNF
