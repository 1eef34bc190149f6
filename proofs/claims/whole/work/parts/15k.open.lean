section ZWK
/-! opening: a step less -/
variable {lv : Nat → Bool} {κ κ' : zzM} {νc νc' : zzN} {μ μ' : zzM} {ν ν' : zzN} {H H' : Int} {nS nB nK : Nat}
theorem RX_d {S s : Nat} (hB : Bd μ s) (c1 : nC μ' s = nC μ s) (c2 : nR μ' s = nR μ s) (st : (μ' 3 s ≤ 1) = (μ 3 s ≤ 1)) (k1 : κ' (S + 1 + 1 + 1000) = κ (S + 1 + 1 + 1000)) (k2 : κ' (S + 1 + 1000) = κ (S + 1 + 1000)) (k3 : κ' (S + 1 + 2000) = κ (S + 1 + 2000)) (a : ∀ o i, ((17 + 7 * s ≤ o ∧ o < 23 + 7 * s) ∨ o = 74 + s ∨ o = 79 + s) → μ' o i = μ o i) (h : RX κ μ S s) : RX κ' μ' S s := by
  have hc6 := hB.2.1.2.2
  unfold RX
  simp only [st]
  rw [c1, c2, k1, k2, k3]
  refine ⟨fun x y hx hy => ?_, fun k hk => ?_⟩
  · rw [a _ _ (by omega)]; exact h.1 x y hx hy
  · rw [a _ _ (by omega), a _ _ (by omega)]; exact h.2 k hk
theorem RO_d {s : Nat} (c1 : nC μ' s = nC μ s) (c2 : nR μ' s = nR μ s) (st : ¬ μ' 3 s ≤ 1 → ¬ μ 3 s ≤ 1) (a : ∀ o i, (o = 74 + s ∨ o = 79 + s ∨ (111 + 7 * s ≤ o ∧ o < 117 + 7 * s)) → μ' o i = μ o i) (h : RO μ s) : RO μ' s := by
  unfold RO
  rw [c1, c2]
  refine ⟨fun g k hk => ?_, fun x y hx hy => ?_, by rw [tDr_c (μ := μ) (fun x y hx hy => a (111 + 7 * s + x) y (by omega))]; exact h.2.2⟩
  · rw [a _ _ (by omega), a _ _ (by omega)]; exact h.1 (st g) k hk
  · rw [a _ _ (by omega)]; exact h.2.1 x y hx hy
theorem RM_d {S s : Nat} (hB : Bd μ s) (c1 : nC μ' s = nC μ s) (c2 : nR μ' s = nR μ s) (st : (μ' 3 s ≤ 1) = (μ 3 s ≤ 1)) (k1 : κ' (S + 1 + 2 + 1000) = κ (S + 1 + 2 + 1000)) (a : ∀ o i, (46 + 7 * s ≤ o ∧ o < 52 + 7 * s) → μ' o i = μ o i) (h : RM κ μ S s) : RM κ' μ' S s := by
  have hc6 := hB.2.1.2.2
  unfold RM
  simp only [st]
  rw [c1, c2, k1]
  intro x y hx hy
  rw [a _ _ (by omega)]; exact h x y hx hy
theorem RT_d {S s : Nat} (st : (μ' 3 s ≤ 0) = (μ 3 s ≤ 0)) (k1 : κ' (S + 1) 2 = κ (S + 1) 2) (a : μ' 14 s = μ 14 s) (h : RT κ μ S s) : RT κ' μ' S s := by
  unfold RT
  simp only [st]
  rw [k1, a]; exact h
theorem Vb_d {s : Nat} (c4 : nL μ' s ≤ nL μ s) (st1 : ¬ μ' 3 s ≤ 1 → ¬ μ 3 s ≤ 1) (st0 : ¬ μ' 3 s ≤ 0 → ¬ μ 3 s ≤ 0) (e14 : μ' 14 s = μ 14 s) (a : ∀ o i, ((17 + 7 * s ≤ o ∧ o < 23 + 7 * s) ∨ (46 + 7 * s ≤ o ∧ o < 52 + 7 * s) ∨ o = 85 + s ∨ o = 90 + s ∨ o = 95 + s ∨ o = 105 + s) → μ' o i = μ o i) (tt : ¬ μ' 3 s ≤ 1 → ∀ k, k < 6 → (0 ≤ (μ' (74 + s) k).toInt ∧ (μ' (74 + s) k).toInt ≤ 99) ∧ (0 ≤ (μ' (79 + s) k).toInt ∧ (μ' (79 + s) k).toInt ≤ 99)) (dd : ∀ x y, x < 6 → y < 6 → 0 ≤ (μ' (111 + 7 * s + x) y).toInt ∧ (μ' (111 + 7 * s + x) y).toInt ≤ 30) (n : ∀ i, ν' (100 + s) i = ν (100 + s) i) (h : Vb μ ν H s) : Vb μ' ν' H s := by
  obtain ⟨v1, v2, v3, v4, v5⟩ := h
  refine ⟨fun g x y hx hy => ?_, tt, fun g => ?_, dd, fun l hl => ?_⟩
  · rw [a _ _ (by omega), a _ _ (by omega)]; exact v1 (st1 g) x y hx hy
  · rw [e14]; exact v3 (st0 g)
  · rw [a _ _ (by omega), a _ _ (by omega), a _ _ (by omega), a _ _ (by omega), n]; exact v5 l (by omega)
theorem RLa_d {S s : Nat} (hB : Bd μ s) (c4 : nL μ' s ≤ nL μ s) (k : ∀ o, S + 20 ≤ o → o < S + 24 → κ' o = κ o ∧ νc' o = νc o) (a : ∀ o i, (o = 85 + s ∨ o = 90 + s ∨ o = 95 + s ∨ o = 105 + s) → μ' o i = μ o i) (n : ∀ i, ν' (100 + s) i = ν (100 + s) i) (h : RLa κ νc μ ν S s) : RLa κ' νc' μ' ν' S s := by
  have hl4 := hB.2.2.2.2.2
  intro l hl
  obtain ⟨k1, k2⟩ := k (S + 20 + l) (by omega) (by omega)
  have e : tTh μ' ν' s l = tTh μ ν s l := by
    unfold tTh tDen
    rw [a _ _ (by omega), a _ _ (by omega), a _ _ (by omega), n]
  rw [k1, k2, e, a _ _ (by omega), a _ _ (by omega), a _ _ (by omega), a _ _ (by omega), n]
  exact h l (by omega)
theorem RS_pop {S s t' b' l' : Nat} (R : RS lv κ νc μ ν H S s) (h1 : 1 ≤ nD μ s) (e1 : μ' 1 s = μ 1 s) (e2 : μ' 2 s = μ 2 s) (e3 : μ' 3 s = Int32.ofNat (nD μ s - 1)) (e83 : μ' 83 s = Int32.ofNat l') (hl' : l' ≤ 4) (el : ∀ k, k < nD μ s - 1 → μ' (5 + s) k = μ (5 + s) k) (eg : ∀ k, k < nD μ s - 1 → μ' (10 + s) k = μ (10 + s) k) (k1 : κ' (S + 1) 0 = κ (S + 1) 0) (k2 : κ' (S + 1) 1 = κ (S + 1) 1) (k4 : κ' (S + 4) 1 = Int32.ofNat (nD μ s - 1)) (k42 : κ' (S + 4) 2 = Int32.ofNat (nD μ s - 1)) (k5 : κ' (S + 4 + 1000) = κ (S + 4 + 1000)) (hV : Lv μ' s t' b' 0) (hz : Lz μ' s t') (hX : RX κ' μ' S s) (hO : RO μ' s) (hM : RM κ' μ' S s) (hT : RT κ' μ' S s) (hD : RD κ' μ' S s) (hA : Al lv κ' μ' S s) (hL : RLa κ' νc' μ' ν' S s) (hVb : Vb μ' ν' H s) (c1 : ∀ k, k < 6 → κ' (S + 8 + 1000) k = μ' (139 + s) k) (c2 : κ' (S + 8) 2 = μ' 143 s) (c3 : κ' (S + 8) 5 = μ' 145 s) (c4 : κ' (S + 8) 6 = μ' 144 s) (c5 : κ' (S + 8) 1 = 0) (c6 : κ' (S + 8) 3 = 0) (hP : κ' S 5 = μ' 146 s) : RS lv κ' νc' μ' ν' H S s := by
  obtain ⟨A, hB, hF, hN, ⟨sg, hG⟩, -⟩ := R
  obtain ⟨hs, hc, hr, hd, hl⟩ := id hB
  have eC : nC μ' s = nC μ s := by unfold nC; rw [e1]
  have eR : nR μ' s = nR μ s := by unfold nR; rw [e2]
  have eD : nD μ' s = nD μ s - 1 := by
    show (μ' 3 s).toNatClampNeg = _
    rw [e3, on_n _ (by omega)]
  have eL : nL μ' s = l' := by
    show (μ' 83 s).toNatClampNeg = _
    rw [e83, on_n _ (by omega)]
  have hB' : Bd μ' s := by
    unfold Bd
    rw [eC, eR, eD, eL, e1, e2, e3, e83]
    exact ⟨hs, hc, hr, ⟨rfl, by omega⟩, ⟨rfl, hl'⟩⟩
  have n99 := not99 hV hB' rfl
  refine ⟨A, hB', ?_, ?_, ⟨nD μ s - 1, ?_⟩, ⟨t', b', 0, hV, hz⟩, hX, hO, hM, hT, hD, hA, hL, hVb, ?_, hP⟩
  · unfold RF
    rw [k1, k2, e1, e2]
    exact hF
  · unfold RN
    rw [k4, k5, e3, eD]
    exact ⟨rfl, fun k hk => by rw [el k hk]; exact hN.2 k (by omega)⟩
  · refine ⟨Or.inl eD.symm, k42, fun k hk => ?_⟩
    rw [eD] at hk
    rw [eg k hk, hG.2.2 k (by omega), if_pos hk]
    have := hG.1
    rw [if_pos (by omega)]
  · unfold RC
    rw [if_neg n99]
    exact ⟨c1, c2, c3, c4, c5, fun _ => c6⟩
/-- a class's step goes -/
def kTake (κ : zzM) (S n : Nat) : zzM := zset (zset κ (S + 4) 1 (Int32.ofNat (n - 1))) (S + 4) 2 (Int32.ofNat (n - 1))
theorem kTake_o {S n o : Nat} (h : o ≠ S + 4) : kTake κ S n o = κ o := by
  unfold kTake
  rw [zset_o h, zset_o h]
theorem ec_takeLast {S s t b c sg : Nat} (A : As lv S) (hB : Bd μ s) (hN : RN κ μ S s) (hV : Lv μ s t b c) (hG : RG κ μ S s sg) (h1 : 1 ≤ nD μ s) : g_X8_takeLast lv (S + 4) κ νc = some (tLast μ s, kTake κ S (nD μ s), νc) := by
  have el := ec_last (νc := νc) A hB hN hV
  have e : cLast μ s = tLast μ s := by
    unfold cLast tLast
    rw [if_neg (by omega), if_neg (by omega)]
  rw [e] at el
  obtain ⟨a8, a4, ah, af, a9, -⟩ := A
  have hd := hB.2.2.2.1
  unfold g_X8_takeLast kTake
  rw [cg a9, el, zb_s, cg a9, cg a9, cg a9, cg a9, cg a9, zgc_p (Lv_ch hV), hN.1, hd.1, on_p _ h1]
  have m1 : zz_max 0 (Int32.ofNat (nD μ s - 1)) = Int32.ofNat (nD μ s - 1) := by
    show (if (0 : Int32) < _ then _ else (0 : Int32)) = _
    by_cases g : nD μ s - 1 = 0
    · rw [g]; rfl
    · exact if_pos (show (0 : Int32) < Int32.ofNat (nD μ s - 1) from plt (a := 0) (by omega))
  rw [m1, zset_e (by omega), hG.2.1, zset_h]
  have m2 : zz_min (Int32.ofNat sg) (Int32.ofNat (nD μ s - 1)) = Int32.ofNat (nD μ s - 1) := by
    show (if Int32.ofNat (nD μ s - 1) < Int32.ofNat sg then _ else _) = _
    rcases hG.1 with h | h
    · rw [if_pos (plt (by omega))]
    · rw [if_neg (nlt (by omega))]
      congr 1
      omega
  rw [m2]
/-- the reference's step goes -/
def mPop (μ : zzM) (s : Nat) (a : Nat) : zzM :=
  zset (if a = 98 then (fun o i => if 111 + 7 * s ≤ o ∧ o < 117 + 7 * s ∧ i < 6 then 0 else zset μ 83 s (Int32.ofNat (nL μ s)) o i) else if a = 116 then mLoos (zset μ 83 s (Int32.ofNat (nL μ s))) s 6 else if a = 108 then zset μ 83 s (Int32.ofNat (nL μ s - 1)) else zset μ 83 s (Int32.ofNat (nL μ s))) 3 s (Int32.ofNat (nD μ s - 1))
theorem em_clr {s x2 x3 : Int32} {i : Nat} (hi : i < 4) {x1 : Int32} (hx1 : x1 = Int32.ofNat i) : g_X10_open_101 x1 s x2 98 μ ν = some (.inl (zset (fun o k => if 111 + 7 * i ≤ o ∧ o < 117 + 7 * i ∧ k < 6 then 0 else μ o k) 3 i (μ 3 i - 1), ν)) := by
  subst hx1
  unfold g_X10_open_101
  have h := zfor (b := fun s1 : (Int32 × zzM × zzN) => g_X10_open_104 (Int32.ofNat i) s x2 98 s1.1 s1.2.1 s1.2.2) (r := (.inl (zset (fun o k => if 111 + 7 * i ≤ o ∧ o < 117 + 7 * i ∧ k < 6 then 0 else μ o k) 3 i (μ 3 i - 1), ν) : (zzM × zzN) ⊕ (Int32 × zzM × zzN))) 6 (fun x => (Int32.ofNat x, (fun o k => if 111 + 7 * i ≤ o ∧ o < 111 + 7 * i + x ∧ k < 6 then 0 else μ o k : zzM), ν)) (fun x hx => ?_) ?_ (by omega)
  · have e0 : (fun o k => if 111 + 7 * i ≤ o ∧ o < 111 + 7 * i + 0 ∧ k < 6 then 0 else μ o k : zzM) = μ := by
      funext o k
      rw [if_neg (by omega)]
    rw [e0] at h
    exact h
  · show g_X10_open_104 (Int32.ofNat i) s x2 98 (Int32.ofNat x) (fun o k => if 111 + 7 * i ≤ o ∧ o < 111 + 7 * i + x ∧ k < 6 then 0 else μ o k) ν = _
    unfold g_X10_open_104
    rw [nlt6, if_neg (nle (by omega)), if_pos rfl]
    have h2 := zfor (b := fun s1 : (Int32 × zzM × zzN) => g_X10_open_121 (Int32.ofNat i) s x2 98 (Int32.ofNat x) s1.1 s1.2.1 s1.2.2) (r := (.inl (Int32.ofNat (x + 1), (fun o k => if 111 + 7 * i ≤ o ∧ o < 111 + 7 * i + (x + 1) ∧ k < 6 then 0 else μ o k : zzM), ν) : (Int32 × zzM × zzN) ⊕ ((zzM × zzN) ⊕ (Int32 × zzM × zzN)))) 6 (fun y => (Int32.ofNat y, (fun o k => if (111 + 7 * i ≤ o ∧ o < 111 + 7 * i + x ∧ k < 6) ∨ (o = 111 + 7 * i + x ∧ k < y) then 0 else μ o k : zzM), ν)) (fun y hy => ?_) ?_ (by omega)
    · have e0 : (fun o k => if (111 + 7 * i ≤ o ∧ o < 111 + 7 * i + x ∧ k < 6) ∨ (o = 111 + 7 * i + x ∧ k < 0) then 0 else μ o k : zzM) = (fun o k => if 111 + 7 * i ≤ o ∧ o < 111 + 7 * i + x ∧ k < 6 then 0 else μ o k : zzM) := by
        funext o k
        by_cases g : 111 + 7 * i ≤ o ∧ o < 111 + 7 * i + x ∧ k < 6
        · rw [if_pos (Or.inl g), if_pos g]
        · rw [if_neg (by omega), if_neg g]
      rw [e0] at h2
      exact h2
    · show g_X10_open_121 (Int32.ofNat i) s x2 98 (Int32.ofNat x) (Int32.ofNat y) (fun o k => if (111 + 7 * i ≤ o ∧ o < 111 + 7 * i + x ∧ k < 6) ∨ (o = 111 + 7 * i + x ∧ k < y) then 0 else μ o k) ν = _
      unfold g_X10_open_121
      rw [nlt6, if_neg (nle (by omega)), gq109 hi, gQ109 hi hx, gs109 hi hx hy, on_s]
      have e1 : zset (fun o k => if (111 + 7 * i ≤ o ∧ o < 111 + 7 * i + x ∧ k < 6) ∨ (o = 111 + 7 * i + x ∧ k < y) then 0 else μ o k) (111 + 7 * i + x) y 0 = (fun o k => if (111 + 7 * i ≤ o ∧ o < 111 + 7 * i + x ∧ k < 6) ∨ (o = 111 + 7 * i + x ∧ k < y + 1) then 0 else μ o k) := by
        funext o k
        by_cases g : o = 111 + 7 * i + x ∧ k = y
        · rw [g.1, g.2, zset_h, if_pos (by omega)]
        · rw [zset_e g]
          by_cases g2 : (111 + 7 * i ≤ o ∧ o < 111 + 7 * i + x ∧ k < 6) ∨ (o = 111 + 7 * i + x ∧ k < y)
          · rw [if_pos g2, if_pos (by omega)]
          · rw [if_neg g2, if_neg (by omega)]
      rw [e1]
    · show g_X10_open_121 (Int32.ofNat i) s x2 98 (Int32.ofNat x) (Int32.ofNat 6) (fun o k => if (111 + 7 * i ≤ o ∧ o < 111 + 7 * i + x ∧ k < 6) ∨ (o = 111 + 7 * i + x ∧ k < 6) then 0 else μ o k) ν = _
      unfold g_X10_open_121
      rw [nlt6, if_pos (ple (by omega)), on_s]
      have e2 : (fun o k => if (111 + 7 * i ≤ o ∧ o < 111 + 7 * i + x ∧ k < 6) ∨ (o = 111 + 7 * i + x ∧ k < 6) then 0 else μ o k : zzM) = (fun o k => if 111 + 7 * i ≤ o ∧ o < 111 + 7 * i + (x + 1) ∧ k < 6 then 0 else μ o k : zzM) := by
        funext o k
        by_cases g2 : (111 + 7 * i ≤ o ∧ o < 111 + 7 * i + x ∧ k < 6) ∨ (o = 111 + 7 * i + x ∧ k < 6)
        · rw [if_pos g2, if_pos (by omega)]
        · rw [if_neg g2, if_neg (by omega)]
      rw [e2]
  · show g_X10_open_104 (Int32.ofNat i) s x2 98 (Int32.ofNat 6) (fun o k => if 111 + 7 * i ≤ o ∧ o < 111 + 7 * i + 6 ∧ k < 6 then 0 else μ o k) ν = _
    unfold g_X10_open_104 g_X10_open_153
    rw [nlt6, if_pos (ple (by omega)), gi3 hi, gs3 hi]
    have e3 : (fun o k => if 111 + 7 * i ≤ o ∧ o < 111 + 7 * i + 6 ∧ k < 6 then 0 else μ o k : zzM) = (fun o k => if 111 + 7 * i ≤ o ∧ o < 117 + 7 * i ∧ k < 6 then 0 else μ o k : zzM) := by
      funext o k
      by_cases g2 : 111 + 7 * i ≤ o ∧ o < 111 + 7 * i + 6 ∧ k < 6
      · rw [if_pos g2, if_pos (by omega)]
      · rw [if_neg g2, if_neg (by omega)]
    rw [if_neg (show ¬ (111 + 7 * i ≤ 3 ∧ 3 < 111 + 7 * i + 6 ∧ i < 6) by omega), e3]
    rfl
theorem em_ncl {s x2 : Int32} {i : Nat} {a : Int32} (hi : i < 4) (ha : ¬ a = 98) : g_X10_open_101 (Int32.ofNat i) s x2 a μ ν = some (.inl (zset μ 3 i (μ 3 i - 1), ν)) := by
  unfold g_X10_open_101
  refine zfor 0 (fun _ => ((0 : Int32), μ, ν)) (fun x hx => absurd hx (by omega)) ?_ (by omega)
  show g_X10_open_104 (Int32.ofNat i) s x2 a 0 μ ν = _
  unfold g_X10_open_104 g_X10_open_153
  rw [if_neg (by decide), if_neg ha, gi3 hi, gs3 hi]
  rfl
theorem em_pop {s a : Nat} {x2 x3 : Int32} {t b c : Nat} (hB : Bd μ s) (hV : Lv μ s t b c) (h1 : 1 ≤ nD μ s) (hx : ¬ μ 3 s ≤ x2) (ha : tLast μ s = Int32.ofNat a) (ha2 : a ≤ 119) (h108 : a = 108 → 1 ≤ nL μ s) : g_X10_open_51 (Int32.ofNat s) x2 x3 μ ν = some (.inl (mPop μ s a, ν)) := by
  obtain ⟨hs, hc, hr, hd, hl⟩ := id hB
  have z83 : ∀ v, zset μ 83 s v 3 s = μ 3 s := fun v => zset_e (by omega)
  unfold g_X10_open_51 g_X10_open_87 mPop
  rw [gi3 hs, if_neg hx, em_last hB (Lv_ch hV), zb_s, gi83 hs, ha]
  by_cases g108 : a = 108
  · rw [if_pos (show Int32.ofNat a = 108 by rw [g108]; rfl), gs83 hs, hl.1, on_p _ (h108 g108), if_neg (show ¬ Int32.ofNat a = 116 from pne (b := 116) (by omega)), em_ncl hs (show ¬ Int32.ofNat a = 98 from pne (b := 98) (by omega)), z83, hd.1, on_p _ h1, if_neg (by omega), if_neg (by omega), if_pos g108]
  · rw [if_neg (show ¬ Int32.ofNat a = 108 from pne (b := 108) (by omega)), gs83 hs, hl.1, Int32.sub_zero]
    by_cases g116 : a = 116
    · rw [if_pos (show Int32.ofNat a = 116 by rw [g116]; rfl), em_loosen hs, zg1_s, em_ncl hs (show ¬ Int32.ofNat a = 98 from pne (b := 98) (by omega)), mLoos_o (by omega) (by omega), z83, hd.1, on_p _ h1, if_neg (by omega), if_pos g116]
    · rw [if_neg (show ¬ Int32.ofNat a = 116 from pne (b := 116) (by omega))]
      by_cases g98 : a = 98
      · rw [show Int32.ofNat a = 98 by rw [g98]; rfl, em_clr (x3 := 0) hs rfl, z83, hd.1, on_p _ h1, if_pos g98]
      · rw [em_ncl hs (show ¬ Int32.ofNat a = 98 from pne (b := 98) (by omega)), z83, hd.1, on_p _ h1, if_neg g98, if_neg g116, if_neg g108]
end ZWK
