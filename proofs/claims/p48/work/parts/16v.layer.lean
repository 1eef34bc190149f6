section ZXV
/-! layer: the state behind it -/
variable {lv lv' : Nat → Bool} {κ κ' : zzM} {νc νc' : zzN} {μ μ' : zzM} {ν ν' : zzN} {H : Int} {nS nB nK : Nat}
theorem RR_lv (m : ∀ o, lv o = true → lv' o = true) (R : RR lv κ νc μ ν H nS nB nK) : RR lv' κ νc μ ν H nS nB nK := by
  obtain ⟨e3, e5, e7, e9, e10, e11⟩ := RR_ext (lv' := lv') (κ' := κ) (νc' := νc) (μ' := μ) (ν' := ν) m (fun s hs => ⟨fun _ _ => rfl, fun _ _ _ => rfl⟩) (fun s hs => ⟨fun _ _ _ => rfl, fun _ => rfl⟩) (fun j hj => ⟨rfl, rfl⟩) (fun j hj => ⟨rfl, rfl, rfl, rfl, fun _ => rfl⟩) (fun j hj => rfl) (fun j => ⟨rfl, rfl⟩) (fun b hb => rfl) (fun b x y _ _ => rfl) R
  obtain ⟨⟨a1, ar⟩, ⟨g1, g2, g3, g4, g5, g6⟩, r3, r4, r5, r6, r7, r8, r9, r10, r11⟩ := R
  exact ⟨⟨⟨m _ a1.1, a1.2⟩, ar⟩, ⟨Gr_m m rfl g1, Gr_m m rfl g2, Gr_m m rfl g3, Gr_m m rfl g4, Ab_m m g5, Ab_m m g6⟩, e3, r4, e5, r6, e7, r8, e9, e10, e11⟩
def lval (k t f : Int32) (i : Nat) : Int32 := if i = 0 then k else if i = 1 then t else if i = 2 then f else if i = 3 then t else 0
def kY (κ : zzM) (k t f : Int32) (s l : Nat) : zzM := fun o => if o = 100 * (s + 1) + 20 + l then lval k t f else kLi κ (100 * (s + 1) + 5 + 1) l o
theorem kY_h {k t f : Int32} {s l : Nat} : kY κ k t f s l (100 * (s + 1) + 20 + l) = lval k t f := if_pos rfl
theorem kY_o {k t f : Int32} {s l o : Nat} (h1 : o ≠ 100 * (s + 1) + 20 + l) (h2 : o ≠ 100 * (s + 1) + 5 + 1) : kY κ k t f s l o = κ o := by
  unfold kY
  rw [if_neg h1, kLi_o h2]
theorem kY_l {k t f : Int32} {s l : Nat} : kY κ k t f s l (100 * (s + 1) + 5 + 1) = kLi κ (100 * (s + 1) + 5 + 1) l (100 * (s + 1) + 5 + 1) := if_neg (by omega)
def mY (μ : zzM) (k t f : Int32) (s l : Nat) : zzM := zset (zset (zset (zset (zset μ (85 + s) l k) (90 + s) l t) (95 + s) l f) (105 + s) l 0) 83 s (Int32.ofNat (l + 1))
theorem mY_o {k t f : Int32} {s l o i : Nat} (h : ¬ ((o = 85 + s ∨ o = 90 + s ∨ o = 95 + s ∨ o = 105 + s) ∧ i = l)) (h2 : ¬ (o = 83 ∧ i = s)) : mY μ k t f s l o i = μ o i := by
  unfold mY
  rw [zset_e h2, zset_e (by omega), zset_e (by omega), zset_e (by omega), zset_e (by omega)]
theorem mY_h {k t f : Int32} {s l : Nat} (hs : s < 4) : mY μ k t f s l (85 + s) l = k ∧ mY μ k t f s l (90 + s) l = t ∧ mY μ k t f s l (95 + s) l = f ∧ mY μ k t f s l (105 + s) l = 0 ∧ mY μ k t f s l 83 s = Int32.ofNat (l + 1) := by
  unfold mY
  refine ⟨?_, ?_, ?_, ?_, ?_⟩
  · rw [zset_e (by omega), zset_e (by omega), zset_e (by omega), zset_e (by omega), zset_h]
  · rw [zset_e (by omega), zset_e (by omega), zset_e (by omega), zset_h]
  · rw [zset_e (by omega), zset_e (by omega), zset_h]
  · rw [zset_e (by omega), zset_h]
  · rw [zset_h]
theorem can108 {la : Int32} {l : Nat} (h : tCan la l 108 = true) : la = 115 ∨ la = 116 ∨ (la = 108 ∧ l < 4) := by simpa [tCan] using h
theorem Lt_l {t l k : Nat} (h : k < 2 + t + l) : Lt t l 0 k = Lt t (l + 1) 0 k := by
  rcases Lt_cases t l 0 k with q | q | q | q | q | q <;> rcases Lt_cases t (l + 1) 0 k with r | r | r | r | r | r <;> omega
/-- a layer may come: how many there are -/
theorem sh108 {s t b c : Nat} (hV : Lv μ s t b c) (hB : Bd μ s) (h : tCan (tLast μ s) (nL μ s) 108 = true) : nD μ s = 2 + t + nL μ s ∧ b = 0 ∧ c = 0 ∧ nL μ s < 4 := by
  rcases can108 h with e | e | ⟨e, hl⟩
  · rcases shape hV hB (n := 115) e (by decide) (by decide) with ⟨h, -⟩ | ⟨-, h⟩ | ⟨h, -⟩ | ⟨h, -⟩ | ⟨h, -⟩ | ⟨h, -⟩ <;> omega
  · rcases shape hV hB (n := 116) e (by decide) (by decide) with ⟨h, -⟩ | ⟨h, -⟩ | ⟨-, h⟩ | ⟨h, -⟩ | ⟨h, -⟩ | ⟨h, -⟩ <;> omega
  · rcases shape hV hB (n := 108) e (by decide) (by decide) with ⟨h, -⟩ | ⟨h, -⟩ | ⟨h, -⟩ | ⟨-, h⟩ | ⟨h, -⟩ | ⟨h, -⟩ <;> omega
theorem tTh_0 {s l : Nat} (h : ν (100 + s) l = 0) : tTh μ ν s l = μ (90 + s) l := by
  unfold tTh
  rw [h, Int64.mul_zero, Int64.zero_div]
  show μ (90 + s) l - 0 = _
  rw [Int32.sub_zero]
theorem RS_layer {k t f : Int32} {s : Nat} (hs : s < 4) (m : ∀ o, lv o = true → lv' o = true) (l1 : lv' (100 * (s + 1) + 20 + nL μ s) = true) (l2 : lv' (100 * (s + 1) + 5 + 1 + 1000) = true) (hk : k = 104 ∨ k = 102 ∨ k = 100) (ht : 0 ≤ t.toInt ∧ t.toInt ≤ 60) (hf : 1 ≤ f.toInt ∧ f.toInt ≤ 9) (hH : 0 ≤ H) (hcan : tCan (tLast μ s) (nL μ s) 108 = true) (hG : RG κ μ (100 * (s + 1)) s (nD μ s)) (Q : RS lv κ νc μ ν H (100 * (s + 1)) s) : (nD μ s < 9 ∧ nL μ s < 4 ∧ ¬ tLast μ s = 99 ∧ Bd (mY μ k t f s (nL μ s)) s ∧ nD (mY μ k t f s (nL μ s)) s = nD μ s) ∧ RS lv' (kAdd (kY κ k t f s (nL μ s)) (100 * (s + 1)) (nD μ s) 108) (zsetN νc (100 * (s + 1) + 20 + nL μ s) 4 0) (mDone (mY μ k t f s (nL μ s)) s 108) (zsetN ν (100 + s) (nL μ s) 0) H (100 * (s + 1)) s := by
  obtain ⟨A, hB, hF, hN, -, ⟨t', b, c, hV, hz⟩, hX, hO, hM, hT, hD, hA, hL, hVb, hC, hP⟩ := Q
  obtain ⟨hn, rfl, rfl, hl4⟩ := sh108 hV hB hcan
  have ht1 := hV.1
  have hc6 := hB.2.1.2.2
  have hr6 := hB.2.2.1.2.2
  obtain ⟨l, hl⟩ : ∃ l, l = nL μ s := ⟨_, rfl⟩
  rw [← hl] at hn hl4 l1 ⊢
  obtain ⟨M, hMe⟩ : ∃ M, M = mY μ k t f s l := ⟨_, rfl⟩
  obtain ⟨K, hKe⟩ : ∃ K, K = kY κ k t f s l := ⟨_, rfl⟩
  have mm : ∀ o i, ¬ ((o = 85 + s ∨ o = 90 + s ∨ o = 95 + s ∨ o = 105 + s) ∧ i = l) → ¬ (o = 83 ∧ i = s) → M o i = μ o i := fun o i h1 h2 => by rw [hMe, mY_o h1 h2]
  have kk : ∀ o, o ≠ 100 * (s + 1) + 20 + l → o ≠ 100 * (s + 1) + 5 + 1 → K o = κ o := fun o h1 h2 => by rw [hKe, kY_o h1 h2]
  obtain ⟨v1, v2, v3, v4, v5⟩ := mY_h (μ := μ) (k := k) (t := t) (f := f) (s := s) (l := l) hs
  rw [← hMe] at v1 v2 v3 v4 v5
  have kh : K (100 * (s + 1) + 20 + l) = lval k t f := by rw [hKe, kY_h]
  have kl : K (100 * (s + 1) + 5 + 1) = kLi κ (100 * (s + 1) + 5 + 1) l (100 * (s + 1) + 5 + 1) := by rw [hKe, kY_l]
  obtain ⟨q1, q2, q3⟩ := kLi_h (κ := κ) (L := 100 * (s + 1) + 5 + 1) (c := l)
  rw [← hMe, ← hKe]
  have c1 : nC M s = nC μ s := by unfold nC; rw [mm _ _ (by omega) (by omega)]
  have c2 : nR M s = nR μ s := by unfold nR; rw [mm _ _ (by omega) (by omega)]
  have c3 : nD M s = nD μ s := by unfold nD; rw [mm _ _ (by omega) (by omega)]
  have c4 : nL M s = l + 1 := by unfold nL; rw [v5, on_n _ (by omega)]
  have e3 : M 3 s = μ 3 s := mm _ _ (by omega) (by omega)
  have hB' : Bd M s := by
    unfold Bd
    rw [c1, c2, c3, c4, e3, v5, mm 1 s (by omega) (by omega), mm 2 s (by omega) (by omega)]
    exact ⟨hB.1, hB.2.1, hB.2.2.1, hB.2.2.2.1, rfl, by omega⟩
  have h9 : nD M s < 9 := by omega
  have hlast : tLast M s = tLast μ s := tLast_c (μ := μ) e3 (fun i => mm _ _ (by omega) (by omega))
  have n99 : ¬ tLast μ s = 99 := not99 hV hB rfl
  have hNM : RN K M (100 * (s + 1)) s := by
    unfold RN
    rw [c3, e3, kk _ (by omega) (by omega), kk _ (by omega) (by omega)]
    exact ⟨hN.1, fun j hj => by rw [mm _ _ (by omega) (by omega)]; exact hN.2 j hj⟩
  have hLt : 108 = Lt t' (l + 1) 0 (nD M s) := by
    rw [c3, hn]
    rcases Lt_cases t' (l + 1) 0 (2 + t' + l) with h | h | h | h | h | h <;> omega
  refine ⟨⟨by omega, hl4, n99, hB', c3⟩, ?_⟩
  rw [← c3]
  refine RS_done2 (t := t') (b := 0) (c := 0) (As_m m A) hB' h9 (by omega) ?_ hNM ?_ ?_ ?_ ?_ ?_ ?_ ?_ ?_ ?_ ?_ ?_ ?_ ?_
  · unfold RF
    rw [kk _ (by omega) (by omega), mm _ _ (by omega) (by omega), mm _ _ (by omega) (by omega)]
    exact hF
  · unfold RG at hG ⊢
    rw [c3, kk _ (by omega) (by omega)]
    exact ⟨hG.1, hG.2.1, fun j hj => by rw [mm _ _ (by omega) (by omega)]; exact hG.2.2 j hj⟩
  · exact Lv_done (t := 0) (b := 0) (c := 0) (t' := t') (l' := l + 1) (b' := 0) (c' := 0) (a := 108) hs hB' h9 (fun j hj => by
      rw [mm _ _ (by omega) (by omega), hV.2.2.2.2.2.2 j (by omega), ← hl, Lt_l (by omega)]) c4 ht1 (by omega) (by omega) (by omega) (by omega) (fun q => by omega) hLt
  · intro h0 g j hj
    have g2 : ¬ μ 3 s ≤ 1 := by rw [n_le1 hB]; omega
    rw [mDone_e (by omega) (by omega) (by omega), mDone_e (by omega) (by omega) (by omega), mm _ _ (by omega) (by omega), mm _ _ (by omega) (by omega)]
    exact hz h0 g2 j hj
  · exact RX_c hB c1 c2 e3 (kk _ (by omega) (by omega)) (kk _ (by omega) (by omega)) (kk _ (by omega) (by omega)) (fun o i h => mm _ _ (by omega) (by omega)) hX
  · exact RO_c (μ := μ) c1 c2 e3 (fun o i h => mm _ _ (by omega) (by omega)) hO
  · exact RM_c hB c1 c2 e3 (kk _ (by omega) (by omega)) (fun o i h => mm _ _ (by omega) (by omega)) hM
  · exact RT_c (μ := μ) e3 (by rw [kk _ (by omega) (by omega)]) (mm _ _ (by omega) (by omega)) hT
  · exact RD_c (kk _ (by omega) (by omega)) (fun o i h => mm _ _ (by omega) (by omega)) hD
  · refine ⟨fun j hj => ?_, fun _ => ⟨l2, by rw [kl, q3]; decide⟩, by rw [kl, q2, v5], fun _ => l2⟩
    rw [c4] at hj
    by_cases g : j = l
    · rw [g]
      refine ⟨l1, ?_⟩
      exact (by decide +kernel : ∀ s, s < 4 → ∀ l, l < 4 → co (100 * (s + 1) + 20 + l) = 7) s hs l hl4
    · have := hA.1 j (by omega)
      exact ⟨m _ this.1, this.2⟩
  · intro j hj
    rw [c4] at hj
    by_cases g : j = l
    · rw [g, kh, v1, v2, v3, v4, tTh_0 zsetN_h, v2, zsetN_h, zsetN_h]
      exact ⟨rfl, rfl, rfl, rfl, rfl, rfl⟩
    · have e : tTh M (zsetN ν (100 + s) l 0) s j = tTh μ ν s j := by
        unfold tTh tDen
        rw [mm _ _ (by omega) (by omega), mm _ _ (by omega) (by omega), mm _ _ (by omega) (by omega), zsetN_e (by omega)]
      rw [e, kk _ (by omega) (by omega), zsetN_e (by omega), zsetN_e (by omega), mm _ _ (by omega) (by omega), mm _ _ (by omega) (by omega), mm _ _ (by omega) (by omega), mm _ _ (by omega) (by omega)]
      exact hL j (by omega)
  · obtain ⟨w1, w2, w3, w4, w5⟩ := hVb
    unfold Vb
    rw [e3, c4, mm 14 s (by omega) (by omega)]
    refine ⟨fun g x y hx hy => ?_, fun g j hj => ?_, w3, fun x y hx hy => ?_, fun j hj => ?_⟩
    · rw [mm _ _ (by omega) (by omega), mm _ _ (by omega) (by omega)]; exact w1 g x y hx hy
    · rw [mm _ _ (by omega) (by omega), mm _ _ (by omega) (by omega)]; exact w2 g j hj
    · rw [mm _ _ (by omega) (by omega)]; exact w4 x y hx hy
    · by_cases g : j = l
      · rw [g, v1, v2, v3, v4, zsetN_h]
        exact ⟨hk, ht, hf, ⟨Int.le_refl _, hH⟩, Int.le_refl _⟩
      · rw [zsetN_e (by omega), mm _ _ (by omega) (by omega), mm _ _ (by omega) (by omega), mm _ _ (by omega) (by omega), mm _ _ (by omega) (by omega)]
        exact w5 j (by omega)
  · refine RC_done hs h9 (by rw [hlast]; exact n99) (by decide) ?_
    exact RC_c hlast (kk _ (by omega) (by omega)) (kk _ (by omega) (by omega)) (mm _ _ (by omega) (by omega)) (mm _ _ (by omega) (by omega)) (mm _ _ (by omega) (by omega)) (mm _ _ (by omega) (by omega)) (fun i => mm _ _ (by omega) (by omega)) hC
  · rw [kk _ (by omega) (by omega), mm _ _ (by omega) (by omega)]
    exact hP
/-- the reference's side -/
theorem em_layi {x1 k t f : Int32} (h : g_X10_isKind k μ ν = some 0 ∨ (g_X10_isKind k μ ν = some 1 ∧ (g_X10_isIn t 5 60 μ ν = some 0 ∨ (g_X10_isIn t 5 60 μ ν = some 1 ∧ g_X10_isIn f 1 9 μ ν = some 0)))) : g_X10_layer x1 k t f μ ν = g_X10_layer_33 x1 k t f 0 μ ν := by
  unfold g_X10_layer g_X10_layer_32
  rcases h with h | ⟨h, h2 | ⟨h2, h3⟩⟩
  · rw [h, zb_s, if_pos rfl]
  · rw [h, zb_s, if_neg (by decide), h2, zb_s, if_pos rfl]
  · rw [h, zb_s, if_neg (by decide), h2, zb_s, if_neg (by decide), h3, zb_s, if_pos rfl]
theorem em_layv {x1 k t f : Int32} (h : g_X10_isKind k μ ν = some 1) (h2 : g_X10_isIn t 5 60 μ ν = some 1) (h3 : g_X10_isIn f 1 9 μ ν = some 1) : g_X10_layer x1 k t f μ ν = g_X10_layer_33 x1 k t f 1 μ ν := by
  unfold g_X10_layer
  rw [h, zb_s, if_neg (by decide), h2, zb_s, if_neg (by decide), h3, zb_s, if_neg (by decide)]
theorem em_layS {x1 k t f z : Int32} (h : g_X10_isNoSeat x1 μ ν = some 1) : g_X10_layer_33 x1 k t f z μ ν = some (0, zset μ 0 33 1, ν) := by
  unfold g_X10_layer_33 g_X10_layer_89
  rw [h, zb_s, em_th1, zg1_s, if_neg (by decide)]
theorem em_lay2 {x1 k t f : Int32} (h : g_X10_isNoSeat x1 μ ν = some 0) : g_X10_layer_33 x1 k t f 0 μ ν = some (0, zset μ 0 33 2, ν) := by
  unfold g_X10_layer_33 g_X10_layer_59 g_X10_layer_89
  rw [h, zb_s, em_th0, zg1_s, if_pos rfl, if_pos rfl, em_th1, zg1_s, if_neg (by decide), zset_tt]
theorem em_lay3 {x1 k t f : Int32} (h : g_X10_isNoSeat x1 μ ν = some 0) (h2 : g_X10_mayCome x1 108 (zset μ 0 33 0) ν = some 0) : g_X10_layer_33 x1 k t f 1 μ ν = some (0, zset μ 0 33 3, ν) := by
  unfold g_X10_layer_33 g_X10_layer_59 g_X10_layer_82 g_X10_layer_89
  rw [h, zb_s, em_th0, zg1_s, if_pos rfl, if_neg (by decide), em_thz _ zset_h, zg1_s, if_pos rfl, h2, zb_s, if_pos rfl, em_th1, zg1_s, if_neg (by decide), zset_tt]
theorem em_lay0 {m1 : zzM} {s : Nat} {k t f : Int32} (hm : zset μ 0 33 0 = m1) (hs : s < 4) (hk : k = 104 ∨ k = 102 ∨ k = 100) (h : g_X10_isNoSeat (Int32.ofNat s) μ ν = some 0) (h2 : g_X10_mayCome (Int32.ofNat s) 108 m1 ν = some 1) (hB : Bd m1 s) (hl : nL m1 s < 4) (hB2 : Bd (mY m1 k t f s (nL m1 s)) s) (h9 : nD (mY m1 k t f s (nL m1 s)) s < 9) : g_X10_layer_33 (Int32.ofNat s) k t f 1 μ ν = some (Int32.ofNat (nD (mY m1 k t f s (nL m1 s)) s), mDone (mY m1 k t f s (nL m1 s)) s 108, zsetN ν (100 + s) (nL m1 s) 0) := by
  unfold g_X10_layer_33 g_X10_layer_59 g_X10_layer_82
  have z1 : m1 0 33 = 0 := by rw [← hm]; exact zset_h
  have e83 := hB.2.2.2.2.1
  generalize nL m1 s = l at e83 hl hB2 h9 ⊢
  have ck : vp_nar .char k = k := by rcases hk with rfl | rfl | rfl <;> decide
  rw [h, zb_s, em_th0, hm, zg1_s, if_pos rfl, if_neg (by decide), em_thz _ z1, zg1_s, if_pos rfl, h2, zb_s, if_neg (by decide), em_thz _ z1, zg1_s, if_pos rfl, gi83 hs, e83, gq84 hs, gs84 hs hl, gq89 hs, gs89 hs hl, gq94 hs, gs94 hs hl, gq99 hs, gsl99 hs hl, gq104 hs, gs104 hs hl, gi83 hs, gs83 hs, ck, zset_e (by omega), zset_e (by omega), zset_e (by omega), zset_e (by omega), e83, on_s]
  show zz_g1 (g_X10_done (Int32.ofNat s) 108 (mY m1 k t f s l) _) _ = _
  rw [em_done hB2 h9 (by decide), zg1_s]
theorem em_layz (x1 k t f : Int32) : ∃ z, g_X10_layer x1 k t f μ ν = g_X10_layer_33 x1 k t f z μ ν := by
  rcases kd_cases k with h | h
  · rcases ra_cases t 5 60 with h2 | h2
    · exact ⟨0, em_layi (Or.inr ⟨em_kind0 h, Or.inl (em_ra1 h2)⟩)⟩
    · rcases ra_cases f 1 9 with h3 | h3
      · exact ⟨0, em_layi (Or.inr ⟨em_kind0 h, Or.inr ⟨em_ra0 h2, em_ra1 h3⟩⟩)⟩
      · exact ⟨1, em_layv (em_kind0 h) (em_ra0 h2) (em_ra0 h3)⟩
  · exact ⟨0, em_layi (Or.inl (em_kind1 h))⟩
end ZXV
