section ZRA
/-! what the class's state and the reference's have to do with each other -/
variable {lv : Nat → Bool} {κ κ' : zzM} {νc νc' : zzN} {μ μ' : zzM} {ν ν' : zzN} {H H' : Int}
/-- heights on the seat's own cells; ties; no depth beyond the seat -/
def RX (κ μ : zzM) (S s : Nat) : Prop := (∀ x y, x < nC μ s → y < nR μ s → κ (S + 1 + 1 + 1000) (10 * x + y) = if μ 3 s ≤ 1 then 0 else μ (17 + 7 * s + x) y) ∧ (∀ k, k < 6 → κ (S + 1 + 1000) k = (if μ 3 s ≤ 1 then 99 else μ (74 + s) k) ∧ κ (S + 1 + 2000) k = if μ 3 s ≤ 1 then 99 else μ (79 + s) k)
/-- ties beyond the seat's lines are loose, depths beyond its cells 0 -/
def RO (μ : zzM) (s : Nat) : Prop := (¬ μ 3 s ≤ 1 → ∀ k, k < 6 → (nC μ s ≤ k → μ (74 + s) k = 99) ∧ (nR μ s ≤ k → μ (79 + s) k = 99)) ∧ (∀ x y, x < 6 → y < 6 → ¬ (x < nC μ s ∧ y < nR μ s) → μ (111 + 7 * s + x) y = 0) ∧ (tDr μ s).toInt ≤ 12
theorem tDr_c {s : Nat} (a : ∀ x y, x < 6 → y < 6 → μ' (111 + 7 * s + x) y = μ (111 + 7 * s + x) y) : tDr μ' s = tDr μ s := zfd_ext (fun x hx v => zfd_ext (fun y hy w => by rw [a x y hx hy]))
def Lz (μ : zzM) (s t : Nat) : Prop := t = 0 → ¬ μ 3 s ≤ 1 → ∀ k, k < 6 → μ (74 + s) k = 99 ∧ μ (79 + s) k = 99
/-- the cover -/
def RC (κ μ : zzM) (S s : Nat) : Prop := (∀ k, k < 6 → κ (S + 8 + 1000) k = μ (139 + s) k) ∧ κ (S + 8) 2 = μ 143 s ∧ κ (S + 8) 5 = μ 145 s ∧ κ (S + 8) 6 = μ 144 s ∧ κ (S + 8) 1 = (if tLast μ s = 99 then μ 1 s else 0) ∧ (tLast μ s ≠ 99 → κ (S + 8) 3 = 0)
def RS (lv : Nat → Bool) (κ : zzM) (νc : zzN) (μ : zzM) (ν : zzN) (H : Int) (S s : Nat) : Prop := As lv S ∧ Bd μ s ∧ RF κ μ S s ∧ RN κ μ S s ∧ (∃ sg, RG κ μ S s sg) ∧ (∃ t b c, Lv μ s t b c ∧ Lz μ s t) ∧ RX κ μ S s ∧ RO μ s ∧ RM κ μ S s ∧ RT κ μ S s ∧ RD κ μ S s ∧ Al lv κ μ S s ∧ RLa κ νc μ ν S s ∧ Vb μ ν H s ∧ RC κ μ S s ∧ κ S 5 = μ 146 s
theorem RX_RH {S s : Nat} (hB : Bd μ s) (h : RX κ μ S s) : RH κ μ S s := fun x y hx hy => by
  obtain ⟨hs, ⟨hc, hc1, hc6⟩, ⟨hr, hr1, hr6⟩, -⟩ := hB
  rw [h.1 x y hx hy, (h.2 x (by omega)).1, (h.2 y (by omega)).2]
  unfold tH
  by_cases g : μ 3 s ≤ 1
  · rw [if_pos g, if_pos g, if_pos g, if_pos g]
    decide
  · rw [if_neg g, if_neg g, if_neg g, if_neg g]
/-- a seat's own places in the reference's state, in the class's -/
def FP (s o i : Nat) : Prop := (i = s ∧ (o = 1 ∨ o = 2 ∨ o = 3 ∨ o = 14 ∨ o = 83 ∨ o = 143 ∨ o = 144 ∨ o = 145 ∨ o = 146)) ∨ o = 5 + s ∨ o = 10 + s ∨ (17 + 7 * s ≤ o ∧ o < 23 + 7 * s) ∨ (46 + 7 * s ≤ o ∧ o < 52 + 7 * s) ∨ o = 74 + s ∨ o = 79 + s ∨ o = 85 + s ∨ o = 90 + s ∨ o = 95 + s ∨ o = 105 + s ∨ (111 + 7 * s ≤ o ∧ o < 117 + 7 * s) ∨ o = 139 + s
def FK (S o : Nat) : Prop := (S ≤ o ∧ o < S + 100) ∨ (S + 1000 ≤ o ∧ o < S + 1100) ∨ (S + 2000 ≤ o ∧ o < S + 2100)
def SM (μ μ' : zzM) (ν ν' : zzN) (s : Nat) : Prop := (∀ o i, FP s o i → μ' o i = μ o i) ∧ ∀ i, ν' (100 + s) i = ν (100 + s) i
def SK (κ κ' : zzM) (νc νc' : zzN) (S : Nat) : Prop := (∀ o, FK S o → κ' o = κ o) ∧ ∀ o, S ≤ o → o < S + 100 → νc' o = νc o
theorem Bd_m {s : Nat} (h : SM μ μ' ν ν' s) (hB : Bd μ s) : Bd μ' s ∧ nC μ' s = nC μ s ∧ nR μ' s = nR μ s ∧ nD μ' s = nD μ s ∧ nL μ' s = nL μ s ∧ μ' 3 s = μ 3 s := by
  have e1 := h.1 1 s (by unfold FP; omega)
  have e2 := h.1 2 s (by unfold FP; omega)
  have e3 := h.1 3 s (by unfold FP; omega)
  have e83 := h.1 83 s (by unfold FP; omega)
  have c1 : nC μ' s = nC μ s := by unfold nC; rw [e1]
  have c2 : nR μ' s = nR μ s := by unfold nR; rw [e2]
  have c3 : nD μ' s = nD μ s := by unfold nD; rw [e3]
  have c4 : nL μ' s = nL μ s := by unfold nL; rw [e83]
  refine ⟨?_, c1, c2, c3, c4, e3⟩
  unfold Bd
  rw [c1, c2, c3, c4, e1, e2, e3, e83]
  exact hB
theorem tTh_m {s l : Nat} (h : SM μ μ' ν ν' s) : tTh μ' ν' s l = tTh μ ν s l := by
  unfold tTh tDen
  rw [h.1 (90 + s) l (by unfold FP; omega), h.1 (85 + s) l (by unfold FP; omega), h.1 (95 + s) l (by unfold FP; omega), h.2 l]
theorem tLast_m {s : Nat} (h : SM μ μ' ν ν' s) : tLast μ' s = tLast μ s := by
  unfold tLast nD
  rw [h.1 3 s (by unfold FP; omega), h.1 (5 + s) _ (by unfold FP; omega)]
theorem Vb_m {s : Nat} (h : SM μ μ' ν ν' s) (hB : Bd μ s) (hH : H ≤ H') (hV : Vb μ ν H s) : Vb μ' ν' H' s := by
  obtain ⟨-, c1, c2, c3, c4, e3⟩ := Bd_m h hB
  obtain ⟨v1, v2, v3, v4, v5⟩ := hV
  unfold Vb
  rw [c4, e3, h.1 14 s (by unfold FP; omega)]
  refine ⟨fun g x y hx hy => ?_, fun g k hk => ?_, v3, fun x y hx hy => ?_, fun l hl => ?_⟩
  · rw [h.1 (17 + 7 * s + x) y (by unfold FP; omega), h.1 (46 + 7 * s + x) y (by unfold FP; omega)]
    exact v1 g x y hx hy
  · rw [h.1 (74 + s) k (by unfold FP; omega), h.1 (79 + s) k (by unfold FP; omega)]
    exact v2 g k hk
  · rw [h.1 (111 + 7 * s + x) y (by unfold FP; omega)]
    exact v4 x y hx hy
  · rw [h.1 (85 + s) l (by unfold FP; omega), h.1 (90 + s) l (by unfold FP; omega), h.1 (95 + s) l (by unfold FP; omega), h.1 (105 + s) l (by unfold FP; omega), h.2 l]
    obtain ⟨w1, w2, w3, w4, w5⟩ := v5 l hl
    exact ⟨w1, w2, w3, ⟨w4.1, by omega⟩, w5⟩
theorem RS_km {S s : Nat} (h : SM μ μ' ν ν' s) (k : SK κ κ' νc νc' S) (hH : H ≤ H') (R : RS lv κ νc μ ν H S s) : RS lv κ' νc' μ' ν' H' S s := by
  obtain ⟨A, hB, hF, hN, ⟨sg, hG⟩, ⟨t, b, c, hV, hz⟩, hX, hO, hM, hT, hD, hA, hL, hVb, hC, hP⟩ := R
  obtain ⟨hB', c1, c2, c3, c4, e3⟩ := Bd_m h hB
  have hs := hB.1
  have hc6 := hB.2.1.2.2
  have hr6 := hB.2.2.1.2.2
  have hd9 := hB.2.2.2.1.2
  have hl4 := hB.2.2.2.2.2
  refine ⟨A, hB', ?_, ?_, ⟨sg, ?_⟩, ⟨t, b, c, ?_, ?_⟩, ?_, ?_, ?_, ?_, ?_, ?_, ?_, Vb_m h hB hH hVb, ?_, ?_⟩
  · unfold RF
    rw [k.1 (S + 1) (by unfold FK; omega), h.1 1 s (by unfold FP; omega), h.1 2 s (by unfold FP; omega)]
    exact hF
  · unfold RN
    rw [k.1 (S + 4) (by unfold FK; omega), e3, c3, k.1 (S + 4 + 1000) (by unfold FK; omega)]
    refine ⟨hN.1, fun i hi => ?_⟩
    rw [h.1 (5 + s) i (by unfold FP; omega)]
    exact hN.2 i hi
  · unfold RG
    rw [k.1 (S + 4) (by unfold FK; omega), c3]
    refine ⟨hG.1, hG.2.1, fun i hi => ?_⟩
    rw [h.1 (10 + s) i (by unfold FP; omega)]
    exact hG.2.2 i hi
  · obtain ⟨v1, v2, v3, v4, v5, v6, v7⟩ := hV
    unfold Lv
    rw [c3, c4]
    refine ⟨v1, v2, v3, v4, v5, v6, fun i hi => ?_⟩
    rw [h.1 (5 + s) i (by unfold FP; omega)]
    exact v7 i hi
  · intro ht g i hi
    rw [e3] at g
    rw [h.1 (74 + s) i (by unfold FP; omega), h.1 (79 + s) i (by unfold FP; omega)]
    exact hz ht g i hi
  · unfold RX
    rw [c1, c2, e3, k.1 (S + 1 + 1 + 1000) (by unfold FK; omega), k.1 (S + 1 + 1000) (by unfold FK; omega), k.1 (S + 1 + 2000) (by unfold FK; omega)]
    refine ⟨fun x y hx hy => ?_, fun i hi => ?_⟩
    · rw [h.1 (17 + 7 * s + x) y (by unfold FP; omega)]
      exact hX.1 x y hx hy
    · rw [h.1 (74 + s) i (by unfold FP; omega), h.1 (79 + s) i (by unfold FP; omega)]
      exact hX.2 i hi
  · unfold RO
    rw [c1, c2, e3]
    refine ⟨fun g i hi => ?_, fun x y hx hy g => ?_, by rw [tDr_c (μ := μ) (fun x y hx hy => h.1 (111 + 7 * s + x) y (by unfold FP; omega))]; exact hO.2.2⟩
    · rw [h.1 (74 + s) i (by unfold FP; omega), h.1 (79 + s) i (by unfold FP; omega)]
      exact hO.1 g i hi
    · rw [h.1 (111 + 7 * s + x) y (by unfold FP; omega)]
      exact hO.2.1 x y hx hy g
  · unfold RM
    rw [c1, c2, e3, k.1 (S + 1 + 2 + 1000) (by unfold FK; omega)]
    intro x y hx hy
    rw [h.1 (46 + 7 * s + x) y (by unfold FP; omega)]
    exact hM x y hx hy
  · unfold RT
    rw [e3, k.1 (S + 1) (by unfold FK; omega), h.1 14 s (by unfold FP; omega)]
    exact hT
  · intro i hi
    rw [k.1 (S + 7 + 1000) (by unfold FK; omega), h.1 (111 + 7 * s + i / 10) (i % 10) (by unfold FP; omega)]
    exact hD i hi
  · unfold Al
    rw [c4, k.1 (S + 5 + 1) (by unfold FK; omega), h.1 83 s (by unfold FP; omega)]
    exact hA
  · unfold RLa
    rw [c4]
    intro l hl
    rw [k.1 (S + 20 + l) (by unfold FK; omega), k.2 (S + 20 + l) (by omega) (by omega), tTh_m h, h.1 (85 + s) l (by unfold FP; omega), h.1 (90 + s) l (by unfold FP; omega), h.1 (95 + s) l (by unfold FP; omega), h.1 (105 + s) l (by unfold FP; omega), h.2 l]
    exact hL l hl
  · unfold RC
    rw [tLast_m h, k.1 (S + 8) (by unfold FK; omega), k.1 (S + 8 + 1000) (by unfold FK; omega), h.1 143 s (by unfold FP; omega), h.1 144 s (by unfold FP; omega), h.1 145 s (by unfold FP; omega), h.1 1 s (by unfold FP; omega)]
    refine ⟨fun i hi => ?_, hC.2⟩
    rw [h.1 (139 + s) i (by unfold FP; omega)]
    exact hC.1 i hi
  · rw [k.1 S (by unfold FK; omega), h.1 146 s (by unfold FP; omega)]
    exact hP
/-- cloths -/
def cL (μ : zzM) (j : Nat) : Nat := (μ 169 j).toNatClampNeg
def cR (μ : zzM) (j : Nat) : Nat := (μ 170 j).toNatClampNeg
def cU (μ : zzM) (j : Nat) : Nat := (μ 171 j).toNatClampNeg
def cF (μ : zzM) (j : Nat) : Nat := (μ 172 j).toNatClampNeg
def fL (μ : zzM) (j k : Nat) : Nat := (μ (174 + j) k).toNatClampNeg
def RK (lv : Nat → Bool) (κ μ : zzM) (o j : Nat) : Prop := Ck lv o ∧ (κ o 0 = μ 169 j ∧ μ 169 j = Int32.ofNat (cL μ j) ∧ cL μ j ≤ 2000) ∧ (κ o 1 = μ 170 j ∧ μ 170 j = Int32.ofNat (cR μ j) ∧ 1 ≤ cR μ j ∧ cR μ j ≤ 60) ∧ (κ o 3 = μ 172 j ∧ μ 172 j = Int32.ofNat (cF μ j) ∧ cF μ j ≤ 10) ∧ (κ o 4 = μ 171 j ∧ μ 171 j = Int32.ofNat (cU μ j) ∧ cU μ j ≤ cL μ j) ∧ ∀ k, k < cF μ j → κ (o + 1000) k = μ (174 + j) k ∧ μ (174 + j) k = Int32.ofNat (fL μ j k) ∧ fL μ j k < cL μ j
/-- a closed seat's panels -/
def pL (μ : zzM) (s : Nat) : Nat := (μ 143 s).toNatClampNeg
def pN (μ : zzM) (s k : Nat) : Nat := (μ (139 + s) k).toNatClampNeg
def RP (κ μ : zzM) (nK S s : Nat) : Prop := tLast μ s = 99 → ∃ j mt, j < nK ∧ κ (S + 8) 3 = Int32.ofNat (j + 1) ∧ κ (S + 8) 4 = Int32.ofNat mt ∧ mt < cR μ j ∧ μ 143 s = Int32.ofNat (pL μ s) ∧ pL μ s ≤ 1000 ∧ ∀ k, k < nC μ s → μ (139 + s) k = Int32.ofNat (pN μ s k) ∧ pN μ s k % cR μ j = mt ∧ pN μ s k + pL μ s ≤ cU μ j ∧ (∀ i, i < cF μ j → ¬ (pN μ s k ≤ fL μ j i ∧ fL μ j i < pN μ s k + pL μ s)) ∧ ∀ k', k' < k → pN μ s k' + pL μ s ≤ pN μ s k
def RQ (κ μ : zzM) (s1 s2 : Nat) : Prop := s1 ≠ s2 → tLast μ s1 = 99 → tLast μ s2 = 99 → κ (100 * (s1 + 1) + 8) 3 = κ (100 * (s2 + 1) + 8) 3 → ∀ k1 k2, k1 < nC μ s1 → k2 < nC μ s2 → pN μ s1 k1 + pL μ s1 ≤ pN μ s2 k2 ∨ pN μ s2 k2 + pL μ s2 ≤ pN μ s1 k1
/-- a seat that isn't there yet -/
def Zs (μ : zzM) (s : Nat) : Prop := μ 3 s = 0 ∧ μ 83 s = 0 ∧ μ 143 s = 0 ∧ μ 144 s = 0 ∧ μ 145 s = 0 ∧ (∀ x y, x < 6 → y < 6 → μ (111 + 7 * s + x) y = 0) ∧ ∀ k, k < 6 → μ (139 + s) k = 0
def RLn (lv : Nat → Bool) (κ μ : zzM) (j : Nat) : Prop := (lv (800 + j) = true ∧ co (800 + j) = 6) ∧ κ (800 + j) 0 = μ 178 j ∧ κ (800 + j) 1 = μ 179 j
def Gr (lv : Nat → Bool) (κ : zzM) (o n : Nat) : Prop := (lv o = true ∧ co o = 0) ∧ κ o 2 = Int32.ofNat n ∧ (0 < n → lv (o + 1000) = true ∧ ¬ κ o 3 = 0) ∧ (n = 0 → κ o 3 = 0)
def RR (lv : Nat → Bool) (κ : zzM) (νc : zzN) (μ : zzM) (ν : zzN) (H : Int) (nS nB nK : Nat) : Prop :=
  ((lv 0 = true ∧ co 0 = 10) ∧ nS ≤ 4 ∧ nB ≤ 3 ∧ nK ≤ 4 ∧ H ≤ 100000000 ∧ μ 0 30 = Int32.ofNat nS ∧ μ 0 31 = Int32.ofNat nB ∧ μ 0 32 = Int32.ofNat nK) ∧
  (Gr lv κ 1 nS ∧ Gr lv κ 2 nB ∧ Gr lv κ 3 nK ∧ Gr lv κ 4 4 ∧ Ab lv 5 ∧ Ab lv 6) ∧
  (∀ s, s < nS → RS lv κ νc μ ν H (100 * (s + 1)) s) ∧ (∀ s, nS ≤ s → s < 4 → Zs μ s) ∧
  (∀ b, b < nB → Ab lv (600 + b) ∧ RB κ μ (600 + b) b) ∧ (∀ b, nB ≤ b → b < 3 → ∀ x y, x < 6 → y < 6 → μ (149 + 7 * b + x) y = 0) ∧
  (∀ j, j < nK → RK lv κ μ (700 + j) j) ∧ (∀ j, nK ≤ j → j < 4 → μ 171 j = 0 ∧ μ 172 j = 0) ∧
  (∀ j, j < 4 → RLn lv κ μ j) ∧
  (∀ s, s < nS → RP κ μ nK (100 * (s + 1)) s) ∧ (∀ s1 s2, s1 < nS → s2 < nS → RQ κ μ s1 s2)
end ZRA
