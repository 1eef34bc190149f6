section ZXO
/-! cloth: its case -/
variable {ad : Nat → Nat} {iv : Nat → Option Nat} {lv : Nat → Bool} {t0 base : Nat} {ow : zz_H} {κ : zzM} {νc : zzN} {μ : zzM} {ν : zzN} {H : Int} {nS nB nK : Nat} {h : zz_H} {n : Nat}
theorem em_cloth1 {L r : Nat} (hb : nK < 4) (e : μ 0 32 = Int32.ofNat nK) (h1 : g_X10_isIn (Int32.ofNat L) 50 2000 μ ν = some 1) (h2 : g_X10_isIn (Int32.ofNat r) 1 60 μ ν = some 1) : g_X10_cloth (Int32.ofNat L) (Int32.ofNat r) μ ν = some (Int32.ofNat nK, zset (zset (zset (zset μ 0 33 0) 169 nK (Int32.ofNat L)) 170 nK (Int32.ofNat r)) 0 32 (Int32.ofNat (nK + 1)), ν) := by
  have e0 : zset μ 0 33 0 0 32 = Int32.ofNat nK := by rw [zset_e (by omega)]; exact e
  have z0 : zset μ 0 33 0 0 33 = 0 := zset_h
  unfold g_X10_cloth g_X10_cloth_28 g_X10_cloth_49
  rw [h1, zb_s, if_neg (by decide), h2, zb_s, if_neg (by decide), em_th0, zg1_s, if_pos rfl]
  generalize zset μ 0 33 0 = m at e0 z0 ⊢
  have a1 : zset m 169 nK (Int32.ofNat L) 0 32 = Int32.ofNat nK := by rw [zset_e (by omega)]; exact e0
  have a2 : zset (zset m 169 nK (Int32.ofNat L)) 170 nK (Int32.ofNat r) 0 32 = Int32.ofNat nK := by rw [zset_e (by omega)]; exact a1
  rw [e0, if_neg (show ¬ Int32.ofNat nK = 4 from pne (b := 4) (by omega)), em_thz _ z0, zg1_s, if_pos rfl, e0, gs169 hb, a1, gs170 hb, zset_h, a2, on_s, on_p _ (by omega), Nat.add_sub_cancel]
theorem em_cloth0 {x1 x2 : Int32} (h : g_X10_isIn x1 50 2000 μ ν = some 0 ∨ (g_X10_isIn x1 50 2000 μ ν = some 1 ∧ g_X10_isIn x2 1 60 μ ν = some 0)) : g_X10_cloth x1 x2 μ ν = some (0, zset μ 0 33 1, ν) := by
  unfold g_X10_cloth g_X10_cloth_23 g_X10_cloth_28 g_X10_cloth_56
  rcases h with h | ⟨h, h2⟩
  · rw [h, zb_s, if_pos rfl, em_th1, zg1_s, if_neg (by decide)]
  · rw [h, zb_s, if_neg (by decide), h2, zb_s, if_pos rfl, em_th1, zg1_s, if_neg (by decide)]
theorem zset_tt {o i : Nat} {x y : Int32} : zset (zset μ o i x) o i y = zset μ o i y := by
  funext o' i'
  unfold zset
  by_cases g : o' = o ∧ i' = i
  · rw [if_pos g, if_pos g]
  · rw [if_neg g, if_neg g, if_neg g]
theorem em_cloth4 {x1 x2 : Int32} (e : μ 0 32 = 4) (h1 : g_X10_isIn x1 50 2000 μ ν = some 1) (h2 : g_X10_isIn x2 1 60 μ ν = some 1) : g_X10_cloth x1 x2 μ ν = some (0, zset μ 0 33 2, ν) := by
  have e0 : zset μ 0 33 0 0 32 = 4 := by rw [zset_e (by omega)]; exact e
  unfold g_X10_cloth g_X10_cloth_28 g_X10_cloth_49 g_X10_cloth_56
  rw [h1, zb_s, if_neg (by decide), h2, zb_s, if_neg (by decide), em_th0, zg1_s, if_pos rfl, e0, if_pos rfl, em_th1, zg1_s, if_neg (by decide), zset_tt]
theorem f_rng (S : S0 ad iv lv t0 base ow κ νc h n) {x a b : Int32} {r : Unit ⊕ Nat} (e : g_X9_needRange lv x a b κ νc = some r) : f_X9_needRange x a b h = some r := by
  have q := sc_X9_needRange S.1 S.2.1 (h := h) (t0 := t0) (x0 := x) (x1 := a) (x2 := b) (κ := κ) (ν := νc)
  rw [S0_hc S] at q
  exact q _ e
end ZXO
