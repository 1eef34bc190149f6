section ZWA
/-! what stays when one seat changes -/
variable {lv : Nat → Bool} {κ κ' : zzM} {νc νc' : zzN} {μ μ' : zzM} {ν ν' : zzN} {H H' : Int} {nS nB nK : Nat}
theorem RR_seat {s : Nat} (hs : s < nS) (hκ : ∀ o, ¬ FK (100 * (s + 1)) o → κ' o = κ o) (hνc : ∀ o, ¬ (100 * (s + 1) ≤ o ∧ o < 100 * (s + 1) + 100) → νc' o = νc o) (hμ : ∀ o i, ¬ FP s o i → μ' o i = μ o i) (hν : ∀ o, o ≠ 100 + s → ν' o = ν o) (hH : H ≤ H') (hH' : H' ≤ 100000000) (R : RR lv κ νc μ ν H nS nB nK) (Q : RS lv κ' νc' μ' ν' H' (100 * (s + 1)) s) (P : RP κ' μ' nK (100 * (s + 1)) s) (W : ∀ u, u < nS → u ≠ s → RQ κ' μ' s u ∧ RQ κ' μ' u s) : RR lv κ' νc' μ' ν' H' nS nB nK := by
  obtain ⟨⟨q1, n4, q3, q4, q5, q6⟩, ⟨g1, g2, g3, g4, g5, g6⟩, r3, r4, r5, r6, r7, r8, r9, r10, r11⟩ := R
  have hs4 : s < 4 := by omega
  have km : ∀ o i, ¬ FP s o i → μ' o i = μ o i := hμ
  have ko : ∀ o, (¬ FK (100 * (s + 1)) o) → κ' o = κ o := hκ
  have sm : ∀ u, u < 4 → u ≠ s → SM μ μ' ν ν' u := fun u hu hne => ⟨fun o i hf => hμ o i (by unfold FP at hf ⊢; omega), fun i => by rw [hν (100 + u) (by omega)]⟩
  have sk : ∀ u, u < 4 → u ≠ s → SK κ κ' νc νc' (100 * (u + 1)) := fun u hu hne => ⟨fun o ho => hκ o (by unfold FK at ho ⊢; omega), fun o h1 h2 => hνc o (by omega)⟩
  refine ⟨?_, ⟨?_, ?_, ?_, ?_, g5, g6⟩, fun u hu => ?_, fun u h1 h2 => ?_, fun b hb => ⟨(r5 b hb).1, ?_⟩, fun b h1 h2 x y hx hy => ?_, fun j hj => ?_, fun j h1 h2 => ?_, fun j hj => ?_, fun u hu => ?_, fun u w hu hw => ?_⟩
  · rw [hμ 0 30 (by unfold FP; omega), hμ 0 31 (by unfold FP; omega), hμ 0 32 (by unfold FP; omega)]
    exact ⟨q1, n4, q3, q4, hH', q6⟩
  · unfold Gr; rw [hκ 1 (by unfold FK; omega)]; exact g1
  · unfold Gr; rw [hκ 2 (by unfold FK; omega)]; exact g2
  · unfold Gr; rw [hκ 3 (by unfold FK; omega)]; exact g3
  · unfold Gr; rw [hκ 4 (by unfold FK; omega)]; exact g4
  · by_cases g : u = s
    · subst g; exact Q
    · exact RS_km (sm u (by omega) g) (sk u (by omega) g) hH (r3 u hu)
  · have hne : u ≠ s := by omega
    obtain ⟨z1, z2, z3, z4, z5, z6, z7⟩ := r4 u h1 h2
    refine ⟨?_, ?_, ?_, ?_, ?_, fun x y hx hy => ?_, fun k hk => ?_⟩
    · rw [hμ 3 u (by unfold FP; omega)]; exact z1
    · rw [hμ 83 u (by unfold FP; omega)]; exact z2
    · rw [hμ 143 u (by unfold FP; omega)]; exact z3
    · rw [hμ 144 u (by unfold FP; omega)]; exact z4
    · rw [hμ 145 u (by unfold FP; omega)]; exact z5
    · rw [hμ (111 + 7 * u + x) y (by unfold FP; omega)]; exact z6 x y hx hy
    · rw [hμ (139 + u) k (by unfold FP; omega)]; exact z7 k hk
  · obtain ⟨-, w1, w2⟩ := r5 b hb
    refine ⟨fun i hi => ?_, fun x y hx hy => ?_⟩
    · rw [hκ (600 + b + 1000) (by unfold FK; omega), hμ (149 + 7 * b + i / 10) (i % 10) (by unfold FP; omega)]
      exact w1 i hi
    · rw [hμ (149 + 7 * b + x) y (by unfold FP; omega)]
      exact w2 x y hx hy
  · rw [hμ (149 + 7 * b + x) y (by unfold FP; omega)]
    exact r6 b h1 h2 x y hx hy
  · obtain ⟨w1, w2, w3, w4, w5, w6⟩ := r7 j hj
    unfold RK cL cR cF cU fL
    rw [hκ (700 + j) (by unfold FK; omega), hκ (700 + j + 1000) (by unfold FK; omega), hμ 169 j (by unfold FP; omega), hμ 170 j (by unfold FP; omega), hμ 171 j (by unfold FP; omega), hμ 172 j (by unfold FP; omega)]
    refine ⟨w1, w2, w3, w4, w5, fun k hk => ?_⟩
    rw [hμ (174 + j) k (by unfold FP; omega)]
    exact w6 k hk
  · rw [hμ 171 j (by unfold FP; omega), hμ 172 j (by unfold FP; omega)]
    exact r8 j h1 h2
  · unfold RLn
    rw [hκ (800 + j) (by unfold FK; omega), hμ 178 j (by unfold FP; omega), hμ 179 j (by unfold FP; omega)]
    exact r9 j hj
  · by_cases g : u = s
    · subst g; exact P
    · have hl := tLast_m (sm u (by omega) g)
      unfold RP cR cU cF fL pL pN nC
      rw [hl, hκ (100 * (u + 1) + 8) (by unfold FK; omega), hμ 143 u (by unfold FP; omega), hμ 1 u (by unfold FP; omega)]
      intro g2
      obtain ⟨j, mt, hj, w1, w2, w3, w4, w5, w6⟩ := r10 u hu g2
      have hj4 : j < 4 := by omega
      rw [show (170 : Nat) = 170 from rfl]
      refine ⟨j, mt, hj, w1, w2, ?_, w4, w5, fun k hk => ?_⟩
      · rw [hμ 170 j (by unfold FP; omega)]; exact w3
      · obtain ⟨y1, y2, y3, y4, y5⟩ := w6 k hk
        have e : ∀ k, μ' (139 + u) k = μ (139 + u) k := fun k => hμ (139 + u) k (by unfold FP; omega)
        rw [hμ 170 j (by unfold FP; omega), hμ 171 j (by unfold FP; omega), hμ 172 j (by unfold FP; omega), e k]
        refine ⟨y1, y2, y3, fun i hi => ?_, fun k' hk' => ?_⟩
        · rw [hμ (174 + j) i (by unfold FP; omega)]; exact y4 i hi
        · rw [e k']; exact y5 k' hk'
  · by_cases g : u = s
    · subst g
      by_cases g2 : w = u
      · subst g2
        intro hne
        exact absurd rfl hne
      · exact (W w hw g2).1
    · by_cases g2 : w = s
      · subst g2
        exact (W u hu g).2
      · have hl := tLast_m (sm u (by omega) g)
        have hl2 := tLast_m (sm w (by omega) g2)
        unfold RQ pL pN nC
        rw [hl, hl2, hκ (100 * (u + 1) + 8) (by unfold FK; omega), hκ (100 * (w + 1) + 8) (by unfold FK; omega), hμ 143 u (by unfold FP; omega), hμ 143 w (by unfold FP; omega), hμ 1 u (by unfold FP; omega), hμ 1 w (by unfold FP; omega)]
        intro a1 a2 a3 a4 k1 k2 h1 h2
        rw [hμ (139 + u) k1 (by unfold FP; omega), hμ (139 + w) k2 (by unfold FP; omega)]
        exact r11 u w hu hw a1 a2 a3 a4 k1 k2 h1 h2
/-- .. when the seat isn't closed behind it, or its cover stays as it is -/
theorem RR_seat2 {s : Nat} (hs : s < nS) (hκ : ∀ o, ¬ FK (100 * (s + 1)) o → κ' o = κ o) (hνc : ∀ o, ¬ (100 * (s + 1) ≤ o ∧ o < 100 * (s + 1) + 100) → νc' o = νc o) (hμ : ∀ o i, ¬ FP s o i → μ' o i = μ o i) (hν : ∀ o, o ≠ 100 + s → ν' o = ν o) (hH : H ≤ H') (hH' : H' ≤ 100000000) (R : RR lv κ νc μ ν H nS nB nK) (Q : RS lv κ' νc' μ' ν' H' (100 * (s + 1)) s) (C : ¬ tLast μ' s = 99 ∨ (tLast μ' s = tLast μ s ∧ κ' (100 * (s + 1) + 8) 3 = κ (100 * (s + 1) + 8) 3 ∧ κ' (100 * (s + 1) + 8) 4 = κ (100 * (s + 1) + 8) 4 ∧ μ' 143 s = μ 143 s ∧ (∀ k, μ' (139 + s) k = μ (139 + s) k) ∧ μ' 1 s = μ 1 s)) : RR lv κ' νc' μ' ν' H' nS nB nK := by
  have h4 := R.1.2.1
  have k4 := R.1.2.2.2.1
  rcases C with C | ⟨c1, c2, c3, c4, c5, c6⟩
  · exact RR_seat hs hκ hνc hμ hν hH hH' R Q (fun q => absurd q C) (fun u hu hne => ⟨fun _ q _ => absurd q C, fun _ _ q => absurd q C⟩)
  · have r10 := R.2.2.2.2.2.2.2.2.2.1 s hs
    have r11 := R.2.2.2.2.2.2.2.2.2.2
    refine RR_seat hs hκ hνc hμ hν hH hH' R Q ?_ (fun u hu hne => ?_)
    · unfold RP cR cU cF fL pL pN nC
      rw [c1, c2, c3, c4, c6]
      intro g2
      obtain ⟨j, mt, hj, w1, w2, w3, w4, w5, w6⟩ := r10 g2
      have hj4 : j < 4 := by omega
      refine ⟨j, mt, hj, w1, w2, ?_, w4, w5, fun k hk => ?_⟩
      · rw [hμ 170 j (by unfold FP; omega)]; exact w3
      · obtain ⟨y1, y2, y3, y4, y5⟩ := w6 k hk
        rw [hμ 170 j (by unfold FP; omega), hμ 171 j (by unfold FP; omega), hμ 172 j (by unfold FP; omega), c5 k]
        refine ⟨y1, y2, y3, fun i hi => ?_, fun k' hk' => ?_⟩
        · rw [hμ (174 + j) i (by unfold FP; omega)]; exact y4 i hi
        · rw [c5 k']; exact y5 k' hk'
    · have hl := tLast_m (s := u) (μ := μ) (μ' := μ') (ν := ν) (ν' := ν') ⟨fun o i hf => hμ o i (by unfold FP at hf ⊢; omega), fun i => by rw [hν (100 + u) (by omega)]⟩
      constructor
      · unfold RQ pL pN nC
        rw [hl, c1, c2, hκ (100 * (u + 1) + 8) (by unfold FK; omega), c4, hμ 143 u (by unfold FP; omega), c6, hμ 1 u (by unfold FP; omega)]
        intro a1 a2 a3 a4 k1 k2 h1 h2
        rw [c5 k1, hμ (139 + u) k2 (by unfold FP; omega)]
        exact r11 s u hs hu a1 a2 a3 a4 k1 k2 h1 h2
      · unfold RQ pL pN nC
        rw [hl, c1, c2, hκ (100 * (u + 1) + 8) (by unfold FK; omega), c4, hμ 143 u (by unfold FP; omega), c6, hμ 1 u (by unfold FP; omega)]
        intro a1 a2 a3 a4 k1 k2 h1 h2
        rw [c5 k2, hμ (139 + u) k1 (by unfold FP; omega)]
        exact r11 u s hu hs a1 a2 a3 a4 k1 k2 h1 h2
/-- a step more: what it changes -/
theorem kAdd_o {S n o : Nat} {a : Int32} (h1 : o ≠ S + 4) (h2 : o ≠ S + 4 + 1000) : kAdd κ S n a o = κ o := by
  unfold kAdd
  rw [zset_o h1, zset_o h2]
theorem mDone_e {s o i : Nat} {a : Int32} (h1 : ¬ (o = 5 + s ∧ i = nD μ s)) (h2 : ¬ (o = 10 + s ∧ i = nD μ s)) (h3 : ¬ (o = 3 ∧ i = s)) : mDone μ s a o i = μ o i := by
  unfold mDone
  rw [zset_e h3, zset_e h2, zset_e h1]
theorem mDone_f {s : Nat} {a : Int32} (h9 : nD μ s < 9) : mDone μ s a 3 s = Int32.ofNat (nD μ s + 1) ∧ nD (mDone μ s a) s = nD μ s + 1 ∧ nC (mDone μ s a) s = nC μ s ∧ nR (mDone μ s a) s = nR μ s ∧ nL (mDone μ s a) s = nL μ s := by
  have e3 : mDone μ s a 3 s = Int32.ofNat (nD μ s + 1) := by
    unfold mDone
    rw [zset_h]
  refine ⟨e3, ?_, ?_, ?_, ?_⟩
  · show (mDone μ s a 3 s).toNatClampNeg = _
    rw [e3, on_n _ (by omega)]
  · unfold nC
    rw [mDone_e (by omega) (by omega) (by omega)]
  · unfold nR
    rw [mDone_e (by omega) (by omega) (by omega)]
  · unfold nL
    rw [mDone_e (by omega) (by omega) (by omega)]
theorem RS_done {S s t b c : Nat} {a : Int32} (A : As lv S) (hB : Bd μ s) (h9 : nD μ s < 9) (hF : RF κ μ S s) (hN : RN κ μ S s) (hG : RG κ μ S s (nD μ s)) (hV : Lv (mDone μ s a) s t b c) (hz : Lz (mDone μ s a) s t) (hX : RX κ (mDone μ s a) S s) (hO : RO (mDone μ s a) s) (hM : RM κ (mDone μ s a) S s) (hT : RT κ (mDone μ s a) S s) (hD : RD κ μ S s) (hA : Al lv κ μ S s) (hL : RLa κ νc μ ν S s) (hVb : Vb (mDone μ s a) ν H s) (hC : RC κ (mDone μ s a) S s) (hP : κ S 5 = μ 146 s) : RS lv (kAdd κ S (nD μ s) a) νc (mDone μ s a) ν H S s := by
  obtain ⟨hs, hc, hr, hd, hl⟩ := hB
  have hS := A.2.2.2.2.2.2.2.2.2.2.2.2.2.2.2.2
  obtain ⟨e3, eD, eC, eR, eL⟩ := mDone_f (μ := μ) (s := s) (a := a) h9
  have k4 : kAdd κ S (nD μ s) a (S + 4) 1 = Int32.ofNat (nD μ s + 1) := by unfold kAdd; rw [zset_h]
  have k42 : kAdd κ S (nD μ s) a (S + 4) 2 = κ (S + 4) 2 := by unfold kAdd; rw [zset_e (by omega), zset_e (by omega)]
  have kl : ∀ k, kAdd κ S (nD μ s) a (S + 4 + 1000) k = if k = nD μ s then a else κ (S + 4 + 1000) k := by
    intro k
    unfold kAdd
    rw [zset_e (by omega)]
    by_cases g : k = nD μ s
    · rw [g, zset_h, if_pos rfl]
    · rw [zset_e (by omega), if_neg g]
  have ml : mDone μ s a (5 + s) (nD μ s) = a := by
    unfold mDone
    rw [zset_e (by omega), zset_e (by omega), zset_h]
  have mg : mDone μ s a (10 + s) (nD μ s) = 0 := by
    unfold mDone
    rw [zset_e (by omega), zset_h]
  refine ⟨A, ?_, ?_, ?_, ⟨nD μ s, ?_⟩, ⟨t, b, c, hV, hz⟩, ?_, hO, ?_, ?_, ?_, ?_, ?_, hVb, ?_, ?_⟩
  · unfold Bd
    rw [eD, eC, eR, eL, e3, mDone_e (by omega) (by omega) (by omega), mDone_e (by omega) (by omega) (by omega), mDone_e (by omega) (by omega) (by omega)]
    exact ⟨hs, hc, hr, ⟨rfl, by omega⟩, hl⟩
  · unfold RF
    rw [kAdd_o (by omega) (by omega), mDone_e (by omega) (by omega) (by omega), mDone_e (by omega) (by omega) (by omega)]
    exact hF
  · unfold RN
    rw [eD, e3, k4]
    refine ⟨rfl, fun k hk => ?_⟩
    rw [kl]
    by_cases g : k = nD μ s
    · rw [if_pos g, g, ml]
    · rw [if_neg g, mDone_e (by omega) (by omega) (by omega)]
      exact hN.2 k (by omega)
  · unfold RG
    rw [eD, k42]
    refine ⟨Or.inr rfl, hG.2.1, fun k hk => ?_⟩
    by_cases g : k = nD μ s
    · rw [g, mg, if_neg (by omega)]
    · rw [mDone_e (by omega) (by omega) (by omega)]
      exact hG.2.2 k (by omega)
  · unfold RX
    rw [kAdd_o (by omega) (by omega), kAdd_o (by omega) (by omega), kAdd_o (by omega) (by omega)]
    exact hX
  · unfold RM
    rw [kAdd_o (by omega) (by omega)]
    exact hM
  · unfold RT
    rw [kAdd_o (by omega) (by omega)]
    exact hT
  · intro i hi
    rw [kAdd_o (by omega) (by omega), mDone_e (by omega) (by omega) (by omega)]
    exact hD i hi
  · unfold Al
    rw [eL, kAdd_o (by omega) (by omega), mDone_e (by omega) (by omega) (by omega)]
    exact hA
  · unfold RLa
    rw [eL]
    intro l hl2
    rw [kAdd_o (by omega) (by omega), mDone_e (by omega) (by omega) (by omega), mDone_e (by omega) (by omega) (by omega), mDone_e (by omega) (by omega) (by omega), mDone_e (by omega) (by omega) (by omega)]
    have e : tTh (mDone μ s a) ν s l = tTh μ ν s l := by
      unfold tTh tDen
      rw [mDone_e (by omega) (by omega) (by omega), mDone_e (by omega) (by omega) (by omega), mDone_e (by omega) (by omega) (by omega)]
    rw [e]
    exact hL l hl2
  · unfold RC
    rw [kAdd_o (by omega) (by omega), kAdd_o (by omega) (by omega)]
    exact hC
  · rw [kAdd_o (by omega) (by omega), mDone_e (by omega) (by omega) (by omega)]
    exact hP
theorem tLast_done {s : Nat} {a : Int32} (h9 : nD μ s < 9) : tLast (mDone μ s a) s = a := by
  obtain ⟨-, eD, -⟩ := mDone_f (μ := μ) (s := s) (a := a) h9
  unfold tLast
  rw [eD, if_neg (by omega), Nat.add_sub_cancel]
  unfold mDone
  rw [zset_e (by omega), zset_e (by omega), zset_h]
/-- with two steps and more, numbers that ask for springs ask no more -/
theorem done_2 {S s : Nat} {a : Int32} (hB : Bd μ s) (h9 : nD μ s < 9) (h2 : 2 ≤ nD μ s) : ((mDone μ s a 3 s ≤ 1) = False ∧ (μ 3 s ≤ 1) = False) ∧ (mDone μ s a 3 s ≤ 0) = False ∧ (μ 3 s ≤ 0) = False := by
  obtain ⟨e3, -⟩ := mDone_f (μ := μ) (s := s) (a := a) h9
  rw [e3, n_le1 hB, n_le0 hB]
  refine ⟨⟨?_, ?_⟩, ?_, ?_⟩
  · exact eq_false (nle (b := 1) (by omega))
  · exact eq_false (by omega)
  · exact eq_false (nle (b := 0) (by omega))
  · exact eq_false (by omega)
theorem RS_done2 {S s t b c : Nat} {a : Int32} (A : As lv S) (hB : Bd μ s) (h9 : nD μ s < 9) (h2 : 2 ≤ nD μ s) (hF : RF κ μ S s) (hN : RN κ μ S s) (hG : RG κ μ S s (nD μ s)) (hV : Lv (mDone μ s a) s t b c) (hz : Lz (mDone μ s a) s t) (hX : RX κ μ S s) (hO : RO μ s) (hM : RM κ μ S s) (hT : RT κ μ S s) (hD : RD κ μ S s) (hA : Al lv κ μ S s) (hL : RLa κ νc μ ν S s) (hVb : Vb μ ν H s) (hC : RC κ (mDone μ s a) S s) (hP : κ S 5 = μ 146 s) : RS lv (kAdd κ S (nD μ s) a) νc (mDone μ s a) ν H S s := by
  have hs := hB.1
  have hl4 := hB.2.2.2.2.2
  have hc6 := hB.2.1.2.2
  have hr6 := hB.2.2.1.2.2
  obtain ⟨e3, eD, eC, eR, eL⟩ := mDone_f (μ := μ) (s := s) (a := a) h9
  obtain ⟨⟨f1, f2⟩, f3, f4⟩ := done_2 (S := S) (a := a) hB h9 h2
  have me : ∀ o i, o ≠ 3 → ¬ (5 ≤ o ∧ o < 14) → mDone μ s a o i = μ o i := fun o i h1 h2 => mDone_e (by omega) (by omega) (by omega)
  refine RS_done A hB h9 hF hN hG hV hz ?_ ?_ ?_ ?_ hD hA hL ?_ hC hP
  · unfold RX at hX ⊢
    simp only [f1, f2, if_false, eC, eR] at hX ⊢
    refine ⟨fun x y hx hy => ?_, fun k hk => ?_⟩
    · rw [me _ _ (by omega) (by omega)]; exact hX.1 x y hx hy
    · rw [me _ _ (by omega) (by omega), me _ _ (by omega) (by omega)]; exact hX.2 k hk
  · unfold RO at hO ⊢
    simp only [f1, f2, eC, eR] at hO ⊢
    refine ⟨fun g k hk => ?_, fun x y hx hy => ?_, by rw [tDr_c (μ := μ) (fun x y hx hy => me (111 + 7 * s + x) y (by omega) (by omega))]; exact hO.2.2⟩
    · rw [me _ _ (by omega) (by omega), me _ _ (by omega) (by omega)]; exact hO.1 g k hk
    · rw [me _ _ (by omega) (by omega)]; exact hO.2.1 x y hx hy
  · unfold RM at hM ⊢
    simp only [f1, f2, if_false, eC, eR] at hM ⊢
    intro x y hx hy
    rw [me _ _ (by omega) (by omega)]; exact hM x y hx hy
  · unfold RT at hT ⊢
    simp only [f3, f4, if_false] at hT ⊢
    rw [me _ _ (by omega) (by omega)]; exact hT
  · obtain ⟨v1, v2, v3, v4, v5⟩ := hVb
    refine ⟨fun g x y hx hy => ?_, fun g k hk => ?_, fun g => ?_, fun x y hx hy => ?_, fun l hl => ?_⟩
    · rw [me _ _ (by omega) (by omega), me _ _ (by omega) (by omega)]; exact v1 (by rw [f2]; exact not_false) x y hx hy
    · rw [me _ _ (by omega) (by omega), me _ _ (by omega) (by omega)]; exact v2 (by rw [f2]; exact not_false) k hk
    · rw [me _ _ (by omega) (by omega)]; exact v3 (by rw [f4]; exact not_false)
    · rw [me _ _ (by omega) (by omega)]; exact v4 x y hx hy
    · rw [eL] at hl
      rw [me _ _ (by omega) (by omega), me _ _ (by omega) (by omega), me _ _ (by omega) (by omega), me _ _ (by omega) (by omega)]; exact v5 l hl
/-- a cover that isn't there stays away -/
theorem RC_done {S s : Nat} {a : Int32} (hs : s < 4) (h9 : nD μ s < 9) (h1 : ¬ tLast μ s = 99) (h2 : ¬ a = 99) (hC : RC κ μ S s) : RC κ (mDone μ s a) S s := by
  obtain ⟨c1, c2, c3, c4, c5, c6⟩ := hC
  have me : ∀ o i, o ≠ 3 → ¬ (5 ≤ o ∧ o < 14) → mDone μ s a o i = μ o i := fun o i h1 h2 => mDone_e (by omega) (by omega) (by omega)
  unfold RC
  rw [tLast_done h9, if_neg h2, me _ _ (by omega) (by omega), me _ _ (by omega) (by omega), me _ _ (by omega) (by omega)]
  rw [if_neg h1] at c5
  exact ⟨fun k hk => by rw [me _ _ (by omega) (by omega)]; exact c1 k hk, c2, c3, c4, c5, fun _ => c6 h1⟩
/-- what the last letter says of the shape -/
theorem Lv_last {s t b c n : Nat} (hV : Lv μ s t b c) (hB : Bd μ s) (hn : n ≤ 119) (h : tLast μ s = Int32.ofNat n) (h45 : n ≠ 45) : 1 ≤ nD μ s ∧ Lt t (nL μ s) b (nD μ s - 1) = n := by
  unfold tLast at h
  by_cases g : nD μ s = 0
  · rw [if_pos g] at h
    exact absurd h.symm (pne (b := 45) ⟨h45, by omega, by decide⟩)
  · rw [if_neg g, hV.2.2.2.2.2.2 _ (by omega)] at h
    refine ⟨by omega, ?_⟩
    have := Lt_le t (nL μ s) b (nD μ s - 1)
    exact Eq.mp (on_eq _ _ (by omega) (by omega)) h
end ZWA
