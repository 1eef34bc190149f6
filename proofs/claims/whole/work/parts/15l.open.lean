section ZWL
/-! opening: each step's own undoing -/
variable {lv : Nat → Bool} {κ κ' : zzM} {νc νc' : zzN} {μ μ' : zzM} {ν ν' : zzN} {H H' : Int} {nS nB nK : Nat}
def kUndo (κ : zzM) (S n a : Nat) : zzM := if a = 99 then zset (zset κ (S + 8) 1 0) (S + 8) 3 0 else if a = 98 then kFil κ (S + 7 + 1000) 56 0 else if a = 108 then zset (zset κ (S + 5 + 1) 2 (Int32.ofNat (n - 1))) (S + 5 + 1) 0 (κ (S + 5 + 1) 0 + 1) else if a = 116 then kFil (kFil κ (S + 1 + 1000) 6 99) (S + 1 + 2000) 6 99 else if a = 115 then kFil (kFil κ (S + 1 + 1 + 1000) 56 0) (S + 1 + 2 + 1000) 56 0 else zset κ (S + 1) 2 0
theorem kUndo_o {S n a o : Nat} (h : ¬ ((a = 99 ∧ o = S + 8) ∨ (a = 98 ∧ o = S + 7 + 1000) ∨ (a = 108 ∧ o = S + 5 + 1) ∨ (a = 116 ∧ (o = S + 1 + 1000 ∨ o = S + 1 + 2000)) ∨ (a = 115 ∧ (o = S + 1 + 1 + 1000 ∨ o = S + 1 + 2 + 1000)) ∨ (a = 119 ∧ o = S + 1))) (ha : a = 99 ∨ a = 98 ∨ a = 108 ∨ a = 116 ∨ a = 115 ∨ a = 119) : kUndo κ S n a o = κ o := by
  unfold kUndo
  by_cases g1 : a = 99
  · rw [if_pos g1, zset_o (by omega), zset_o (by omega)]
  rw [if_neg g1]
  by_cases g2 : a = 98
  · rw [if_pos g2, kFil_o (by omega)]
  rw [if_neg g2]
  by_cases g3 : a = 108
  · rw [if_pos g3, zset_o (by omega), zset_o (by omega)]
  rw [if_neg g3]
  by_cases g4 : a = 116
  · rw [if_pos g4, kFil_o (by omega), kFil_o (by omega)]
  rw [if_neg g4]
  by_cases g5 : a = 115
  · rw [if_pos g5, kFil_o (by omega), kFil_o (by omega)]
  rw [if_neg g5, zset_o (by omega)]
theorem le_of {n m : Nat} (hn : n < 100) (hm : m < 100) : (Int32.ofNat n ≤ Int32.ofNat m) = (n ≤ m) := propext (Int32.ofNat_le_iff_le (by omega) (by omega))
theorem cgc_n {α : Type} {x : Option α} : cgc none x = x := if_pos rfl
theorem ec_undo99 {S n : Nat} (A : As lv S) : g_X7_undo lv S 99 κ νc = some ((), kUndo κ S n 99, νc) := by
  have e : cloth1 none = 0 := rfl
  unfold g_X7_undo g_X1_takeAway g_X7_undo_88 kUndo
  rw [if_pos rfl, cg A.1, cg A.2.2.2.2.2.2.2.2.1, cg A.2.2.2.2.2.2.2.2.1, cgc_n, cg A.2.2.2.2.2.2.2.2.1, zg1_s, e, if_pos rfl]
theorem ec_undo98 {S n : Nat} (A : As lv S) : g_X7_undo lv S 98 κ νc = some ((), kUndo κ S n 98, νc) := by
  have hb := A.2.2.2.2.2.2.2.2.2.2.2.2.2.2.1
  unfold g_X7_undo g_X7_undo_88 kUndo
  rw [if_neg (by decide), if_pos rfl, cg A.1, cg A.2.2.2.2.2.2.2.1, ec_clear A.2.2.2.2.2.2.2.1 hb, zg1_s, if_neg (by decide), if_pos rfl]
theorem ec_undo108 {S n : Nat} (A : As lv S) (h2 : κ (S + 5 + 1) 2 = Int32.ofNat n) (h1 : 1 ≤ n) (h4 : n ≤ 4) (hv : lv (S + 5 + 1 + 1000) = true ∧ ¬ κ (S + 5 + 1) 3 = 0) : g_X7_undo lv S 108 κ νc = some ((), kUndo κ S n 108, νc) := by
  have e : cemp κ (S + 5 + 1) = 0 := by
    unfold cemp
    rw [h2, if_neg (show ¬ Int32.ofNat n = 0 from pne (b := 0) (by omega))]
  have g : lv (S + 5 + 1) = true ∧ co (S + 5 + 1) = 0 ∧ lv (S + 5 + 1 + 1000) = true ∧ ¬ κ (S + 5 + 1) 3 = 0 ∧ ¬ Int32.ofNat (n - 1) < 0 ∧ Int32.ofNat (n - 1) < κ (S + 5 + 1) 2 ∧ Int32.ofNat (n - 1) + 1 = κ (S + 5 + 1) 2 ∧ (κ (S + 5 + 1) 2).toNatClampNeg ≤ 10 := by
    rw [h2, on_s, on_n _ (by omega), show n - 1 + 1 = n by omega]
    exact ⟨A.2.2.2.2.2.2.1.1, A.2.2.2.2.2.2.1.2, hv.1, hv.2, nlt (b := 0) (by omega), plt (by omega), rfl, by omega⟩
  unfold g_X7_undo g_X7_undo_88 kUndo g_X2_takeTopmost g_X2_takeTopmost_27 crem
  rw [if_neg (by decide), if_neg (by decide), if_pos rfl, cg A.1, cg A.2.2.2.2.2.1, cg A.2.2.2.2.2.1, cg A.2.2.2.2.2.2.1, cg A.2.2.2.2.2.2.1, e, if_pos rfl, cg A.2.2.2.2.2.1, cg A.2.2.2.2.2.1, cg A.2.2.2.2.2.2.1, cg A.2.2.2.2.2.2.1, cg A.2.2.2.2.2.2.1, show κ (S + 5 + 1) 2 - 1 = Int32.ofNat (n - 1) by rw [h2, on_p _ h1], if_pos g, zg1_s, if_neg (by decide), if_neg (by decide), if_pos rfl]
theorem ec_undo116 {S n : Nat} (A : As lv S) : g_X7_undo lv S 116 κ νc = some ((), kUndo κ S n 116, νc) := by
  have h1 := A.2.2.2.2.2.2.2.2.2.2.2.1
  have h2 := A.2.2.2.2.2.2.2.2.2.2.2.2.1
  unfold g_X7_undo g_X7_undo_88 kUndo g_X3_loosenTies
  rw [if_neg (by decide), if_neg (by decide), if_neg (by decide), if_pos rfl, cg A.1, cg A.2.1, cg A.2.1, cf h1, cg A.2.1, cf h2, zg1_s, if_neg (by decide), if_neg (by decide), if_neg (by decide), if_pos rfl]
theorem ec_undo115 {S n : Nat} (A : As lv S) : g_X7_undo lv S 115 κ νc = some ((), kUndo κ S n 115, νc) := by
  have h1 := A.2.2.2.2.2.2.2.2.2.1
  have h2 := A.2.2.2.2.2.2.2.2.2.2.1
  unfold g_X7_undo g_X7_undo_88 kUndo g_X3_takeSprings
  rw [if_neg (by decide), if_neg (by decide), if_neg (by decide), if_neg (by decide), if_pos rfl, cg A.1, cg A.2.1, cg A.2.1, cg A.2.2.1, ec_clear A.2.2.1 h1, zg1_s, cg A.2.1, cg A.2.2.2.1, ec_clear A.2.2.2.1 h2, zg1_s, zg1_s, if_neg (by decide), if_neg (by decide), if_neg (by decide), if_neg (by decide), if_pos rfl]
theorem ec_undo119 {S n : Nat} (A : As lv S) : g_X7_undo lv S 119 κ νc = some ((), kUndo κ S n 119, νc) := by
  unfold g_X7_undo g_X7_undo_88 kUndo
  rw [if_neg (by decide), if_neg (by decide), if_neg (by decide), if_neg (by decide), if_neg (by decide), cg A.1, cg A.2.1, if_neg (by decide), if_neg (by decide), if_neg (by decide), if_neg (by decide), if_neg (by decide)]
theorem mPop_m {s a o i : Nat} (hs : s < 4) (h : ¬ ((o = 3 ∧ i = s) ∨ (o = 83 ∧ i = s) ∨ (111 + 7 * s ≤ o ∧ o < 117 + 7 * s ∧ a = 98) ∨ ((o = 74 + s ∨ o = 79 + s) ∧ a = 116))) : mPop μ s a o i = μ o i := by
  unfold mPop
  rw [zset_e (by omega)]
  by_cases g1 : a = 98
  · rw [if_pos g1, if_neg (by omega), zset_e (by omega)]
  rw [if_neg g1]
  by_cases g2 : a = 116
  · rw [if_pos g2, mLoos_o (by omega) (by omega), zset_e (by omega)]
  rw [if_neg g2]
  by_cases g3 : a = 108
  · rw [if_pos g3, zset_e (by omega)]
  · rw [if_neg g3, zset_e (by omega)]
theorem mPop_83 {s a : Nat} (hs : s < 4) : mPop μ s a 83 s = Int32.ofNat (if a = 108 then nL μ s - 1 else nL μ s) := by
  unfold mPop
  rw [zset_e (by omega)]
  by_cases g1 : a = 98
  · rw [if_pos g1, if_neg (by omega), zset_h, if_neg (by omega)]
  rw [if_neg g1]
  by_cases g2 : a = 116
  · rw [if_pos g2, mLoos_o (by omega) (by omega), zset_h, if_neg (by omega)]
  rw [if_neg g2]
  by_cases g3 : a = 108
  · rw [if_pos g3, zset_h, if_pos g3]
  · rw [if_neg g3, zset_h, if_neg g3]
theorem mPop_98 {s o i : Nat} (hs : s < 4) (h : 111 + 7 * s ≤ o ∧ o < 117 + 7 * s) (hi : i < 6) : mPop μ s 98 o i = 0 := by
  unfold mPop
  rw [zset_e (by omega), if_pos rfl, if_pos (by omega)]
theorem mPop_116 {s o i : Nat} (hs : s < 4) (h : o = 74 + s ∨ o = 79 + s) (hi : i < 6) : mPop μ s 116 o i = 99 := by
  unfold mPop
  rw [zset_e (by omega), if_neg (by decide), if_pos rfl]
  exact if_pos ⟨h, hi⟩
theorem Lt_98 {t l k : Nat} (h : k < 2 + t + l) : Lt t l 1 k = Lt t l 0 k := by
  unfold Lt
  repeat' (split <;> try omega)
theorem Lt_108 {t l k : Nat} (h : k < 2 + t + (l - 1)) : Lt t l 0 k = Lt t (l - 1) 0 k := by
  unfold Lt
  repeat' (split <;> try omega)
theorem Lt_116 {k : Nat} (h : k < 2) : Lt 1 0 0 k = Lt 0 0 0 k := by
  unfold Lt
  repeat' (split <;> try omega)
theorem tL_Lt {s t b c : Nat} (hV : Lv μ s t b c) (h1 : 1 ≤ nD μ s) : ∃ a, tLast μ s = Int32.ofNat a ∧ a ≤ 119 ∧ a ≠ 45 := by
  refine ⟨Lt t (nL μ s) b (nD μ s - 1), ?_, ?_⟩
  · unfold tLast
    rw [if_neg (by omega), hV.2.2.2.2.2.2 _ (by omega)]
  · rcases Lt_cases t (nL μ s) b (nD μ s - 1) with h | h | h | h | h | h <;> omega
def PopS (lv : Nat → Bool) (κ : zzM) (νc : zzN) (μ : zzM) (ν : zzN) (H : Int) (S s : Nat) (x2 x3 : Int32) : Prop := ∃ a κ1 κ2 μ2, g_X8_takeLast lv (S + 4) κ νc = some (a, κ1, νc) ∧ g_X7_undo lv S a κ1 νc = some ((), κ2, νc) ∧ g_X10_open_51 (Int32.ofNat s) x2 x3 μ ν = some (.inl (μ2, ν)) ∧ RS lv κ2 νc μ2 ν H S s ∧ nD μ2 s = nD μ s - 1 ∧ ¬ tLast μ2 s = 99 ∧ (∀ o, ¬ FK S o → κ2 o = κ o) ∧ (∀ o i, ¬ FP s o i → μ2 o i = μ o i)
theorem pop99 {S s : Nat} (x2 x3 : Int32) (R : RS lv κ νc μ ν H S s) (hx : ¬ μ 3 s ≤ x2) (h1 : 1 ≤ nD μ s) (ha : tLast μ s = 99) : PopS lv κ νc μ ν H S s x2 x3 := by
  obtain ⟨A, hB, hF, hN, ⟨sg, hG⟩, ⟨t, b, c, hV, hz⟩, hX, hO, hM, hT, hD, hA, hL, hVb, hC, hP⟩ := id R
  have hs := hB.1
  have hd9 := hB.2.2.2.1.2
  have vt := hV.1
  have vb := hV.2.1
  have hl4 := hB.2.2.2.2.2
  have ha : tLast μ s = Int32.ofNat 99 := ha
  have hsh := shape hV hB (n := 99) ha (by decide) (by decide)
  have hsh2 : 2 ≤ nD μ s - 1 ∧ c = 1 ∧ nD μ s = 2 + t + nL μ s + b + 1 ∧ 1 ≤ nL μ s := by
    rcases hsh with h | h | h | h | h | h <;> omega
  obtain ⟨hs2, hs3, hs4, hs5⟩ := hsh2
  have e51 := em_pop (ν := ν) (x3 := x3) (a := 99) hB hV h1 hx ha (by decide) (by first | decide | (intro _; omega))
  have etk := ec_takeLast (νc := νc) A hB hN hV hG h1
  rw [ha] at etk
  have hm : ∀ o i, _ → mPop μ s 99 o i = μ o i := fun o i => mPop_m (a := 99) hs
  have e3 : mPop μ s 99 3 s = Int32.ofNat (nD μ s - 1) := by unfold mPop; exact zset_h
  have e83 := mPop_83 (μ := μ) (a := 99) hs
  skip
  obtain ⟨M, hMM⟩ : ∃ M, M = mPop μ s 99 := ⟨_, rfl⟩
  rw [← hMM] at e51 e3 e83 
  simp only [← hMM] at hm
  have kt : ∀ o, o ≠ S + 4 → kTake κ S (nD μ s) o = κ o := fun o h => kTake_o h
  have kt1 : kTake κ S (nD μ s) (S + 4) 1 = Int32.ofNat (nD μ s - 1) := by unfold kTake; rw [zset_e (by omega), zset_h]
  have kt2 : kTake κ S (nD μ s) (S + 4) 2 = Int32.ofNat (nD μ s - 1) := by unfold kTake; rw [zset_h]
  obtain ⟨K1, hK1⟩ : ∃ K, K = kTake κ S (nD μ s) := ⟨_, rfl⟩
  rw [← hK1] at etk kt1 kt2
  simp only [← hK1] at kt
  have eun := ec_undo99 (κ := K1) (νc := νc) (n := nL μ s) A
  have ku : ∀ o, _ → kUndo K1 S (nL μ s) 99 o = K1 o := fun o h => kUndo_o (a := 99) h (by decide)
  have k8 : ∀ i, i ≠ 1 → i ≠ 3 → kUndo K1 S (nL μ s) 99 (S + 8) i = K1 (S + 8) i := fun i h h' => by unfold kUndo; rw [if_pos rfl, zset_e (by omega), zset_e (by omega)]
  have k81 : kUndo K1 S (nL μ s) 99 (S + 8) 1 = 0 := by unfold kUndo; rw [if_pos rfl, zset_e (by omega), zset_h]
  have k83 : kUndo K1 S (nL μ s) 99 (S + 8) 3 = 0 := by unfold kUndo; rw [if_pos rfl, zset_h]
  obtain ⟨K2, hK2⟩ : ∃ K, K = kUndo K1 S (nL μ s) 99 := ⟨_, rfl⟩
  rw [← hK2] at eun k81 k83
  simp only [← hK2] at ku k8
  have eC : nC M s = nC μ s := by unfold nC; rw [hm 1 s (by omega)]
  have eR : nR M s = nR μ s := by unfold nR; rw [hm 2 s (by omega)]
  have eD : nD M s = nD μ s - 1 := by
    show (M 3 s).toNatClampNeg = _
    rw [e3, on_n _ (by omega)]
  have eL : nL M s = nL μ s := by
    show (M 83 s).toNatClampNeg = _
    rw [e83, on_n _ (by first | omega | (rw [if_pos rfl]; omega) | (rw [if_neg (by decide)]; omega))]
    first | exact if_pos rfl | exact if_neg (by decide)
  have e83' : M 83 s = Int32.ofNat (nL μ s) := by
    rw [e83]
    first | rw [if_pos rfl] | rw [if_neg (by decide)]
  have f1 : (M 3 s ≤ 1) = (nD μ s - 1 ≤ 1) := by
    rw [e3]
    exact le_of (m := 1) (by omega) (by decide)
  have f0 : (M 3 s ≤ 0) = (nD μ s - 1 ≤ 0) := by
    rw [e3]
    exact le_of (m := 0) (by omega) (by decide)
  have g1 := n_le1 hB
  have g0 := n_le0 hB
  have i1 : ¬ M 3 s ≤ 1 → ¬ μ 3 s ≤ 1 := by rw [f1, g1]; omega
  have i0 : ¬ M 3 s ≤ 0 → ¬ μ 3 s ≤ 0 := by rw [f0, g0]; omega
  have hV' : Lv M s t b 0 := by
    have v7 := hV.2.2.2.2.2.2
    unfold Lv
    rw [eD, eL]
    refine ⟨by omega, by omega, by omega, by omega, by omega, by omega, fun k hk => ?_⟩
    rw [hm (5 + s) k (by omega), v7 k (by omega)]
    skip
  have Q : RS lv K2 νc M ν H S s := by
    refine RS_pop (t' := t) (b' := b) (l' := nL μ s) R h1 (hm _ _ (by omega)) (hm _ _ (by omega)) e3 e83' (by omega) (fun k hk => hm _ _ (by omega)) (fun k hk => hm _ _ (by omega)) (by rw [ku _ (by omega), kt _ (by omega)]) (by rw [ku _ (by omega), kt _ (by omega)]) (by rw [ku _ (by omega)]; exact kt1) (by rw [ku _ (by omega)]; exact kt2) (by rw [ku _ (by omega)]; exact kt _ (by omega)) hV' ?_ ?_ ?_ ?_ ?_ ?_ ?_ ?_ ?_ ?_ ?_ ?_ ?_ ?_ ?_ ?_
    · exact fun h g k hk => by rw [hm _ _ (by omega), hm _ _ (by omega)]; exact hz (by omega) (i1 g) k hk
    · exact RX_d hB eC eR (by rw [f1, g1]; exact propext (by omega)) (by rw [ku _ (by omega)]; exact kt _ (by omega)) (by rw [ku _ (by omega)]; exact kt _ (by omega)) (by rw [ku _ (by omega)]; exact kt _ (by omega)) (fun o i h => hm _ _ (by omega)) hX
    · exact RO_d eC eR i1 (fun o i h => hm _ _ (by omega)) hO
    · exact RM_d hB eC eR (by rw [f1, g1]; exact propext (by omega)) (by rw [ku _ (by omega)]; exact kt _ (by omega)) (fun o i h => hm _ _ (by omega)) hM
    · exact RT_d (by rw [f0, g0]; exact propext (by omega)) (by rw [ku _ (by omega), kt _ (by omega)]) (hm _ _ (by omega)) hT
    · exact RD_c (by rw [ku _ (by omega)]; exact kt _ (by omega)) (fun o i h => hm _ _ (by omega)) hD
    · unfold Al
      rw [eL, ku _ (by omega), kt _ (by omega), e83']
      exact ⟨fun l hl => hA.1 l (by omega), fun h => hA.2.1 (by omega), by rw [hA.2.2.1]; exact hB.2.2.2.2.1, hA.2.2.2⟩
    · exact RLa_d hB (by omega) (fun o h1 h2 => ⟨by rw [ku _ (by omega)]; exact kt _ (by omega), rfl⟩) (fun o i h => hm _ _ (by omega)) (fun _ => rfl) hL
    · exact Vb_d (by omega) i1 i0 (hm _ _ (by omega)) (fun o i h => hm _ _ (by omega)) (fun g k hk => by rw [hm _ _ (by omega), hm _ _ (by omega)]; exact hVb.2.1 (i1 g) k hk) (fun x y hx hy => by rw [hm _ _ (by omega)]; exact hVb.2.2.2.1 x y hx hy) (fun _ => rfl) hVb
    · exact fun k hk => by rw [ku _ (by omega), kt _ (by omega), hm _ _ (by omega)]; exact hC.1 k hk
    · rw [k8 _ (by decide) (by decide), kt _ (by omega), hm _ _ (by omega)]; exact hC.2.1
    · rw [k8 _ (by decide) (by decide), kt _ (by omega), hm _ _ (by omega)]; exact hC.2.2.1
    · rw [k8 _ (by decide) (by decide), kt _ (by omega), hm _ _ (by omega)]; exact hC.2.2.2.1
    · exact k81
    · exact k83
    · rw [ku _ (by omega), kt _ (by omega), hm _ _ (by omega)]
      exact hP
  exact ⟨_, _, _, _, etk, eun, e51, Q, eD, not99 hV' Q.2.1 rfl, fun o ho => by rw [ku _ (by unfold FK at ho; omega)]; exact kt _ (by unfold FK at ho; omega), fun o i ho => hm o i (by unfold FP at ho; omega)⟩
theorem pop98 {S s : Nat} (x2 x3 : Int32) (R : RS lv κ νc μ ν H S s) (hx : ¬ μ 3 s ≤ x2) (h1 : 1 ≤ nD μ s) (ha : tLast μ s = 98) : PopS lv κ νc μ ν H S s x2 x3 := by
  obtain ⟨A, hB, hF, hN, ⟨sg, hG⟩, ⟨t, b, c, hV, hz⟩, hX, hO, hM, hT, hD, hA, hL, hVb, hC, hP⟩ := id R
  have hs := hB.1
  have hd9 := hB.2.2.2.1.2
  have vt := hV.1
  have vb := hV.2.1
  have hl4 := hB.2.2.2.2.2
  have h99 : ¬ tLast μ s = 99 := by rw [ha]; decide
  have ha : tLast μ s = Int32.ofNat 98 := ha
  have hsh := shape hV hB (n := 98) ha (by decide) (by decide)
  have hsh2 : 2 ≤ nD μ s - 1 ∧ c = 0 ∧ nD μ s = 2 + t + nL μ s + 1 ∧ 1 ≤ nL μ s ∧ b = 1 := by
    rcases hsh with h | h | h | h | h | h <;> omega
  obtain ⟨hs2, hs6, hs4, hs5, hs3⟩ := hsh2
  have e51 := em_pop (ν := ν) (x3 := x3) (a := 98) hB hV h1 hx ha (by decide) (by first | decide | (intro _; omega))
  have etk := ec_takeLast (νc := νc) A hB hN hV hG h1
  rw [ha] at etk
  have hm : ∀ o i, _ → mPop μ s 98 o i = μ o i := fun o i => mPop_m (a := 98) hs
  have e3 : mPop μ s 98 3 s = Int32.ofNat (nD μ s - 1) := by unfold mPop; exact zset_h
  have e83 := mPop_83 (μ := μ) (a := 98) hs
  have m98 : ∀ o i, _ → _ → mPop μ s 98 o i = 0 := fun o i => mPop_98 (μ := μ) (o := o) (i := i) hs
  obtain ⟨M, hMM⟩ : ∃ M, M = mPop μ s 98 := ⟨_, rfl⟩
  rw [← hMM] at e51 e3 e83 
  simp only [← hMM] at hm m98
  have kt : ∀ o, o ≠ S + 4 → kTake κ S (nD μ s) o = κ o := fun o h => kTake_o h
  have kt1 : kTake κ S (nD μ s) (S + 4) 1 = Int32.ofNat (nD μ s - 1) := by unfold kTake; rw [zset_e (by omega), zset_h]
  have kt2 : kTake κ S (nD μ s) (S + 4) 2 = Int32.ofNat (nD μ s - 1) := by unfold kTake; rw [zset_h]
  obtain ⟨K1, hK1⟩ : ∃ K, K = kTake κ S (nD μ s) := ⟨_, rfl⟩
  rw [← hK1] at etk kt1 kt2
  simp only [← hK1] at kt
  have eun := ec_undo98 (κ := K1) (νc := νc) (n := nL μ s) A
  have ku : ∀ o, _ → kUndo K1 S (nL μ s) 98 o = K1 o := fun o h => kUndo_o (a := 98) h (by decide)
  have k98 : ∀ i, i < 56 → kUndo K1 S (nL μ s) 98 (S + 7 + 1000) i = 0 := fun i h => by unfold kUndo; rw [if_neg (by decide), if_pos rfl, kFil_h h]
  obtain ⟨K2, hK2⟩ : ∃ K, K = kUndo K1 S (nL μ s) 98 := ⟨_, rfl⟩
  rw [← hK2] at eun 
  simp only [← hK2] at ku k98
  have eC : nC M s = nC μ s := by unfold nC; rw [hm 1 s (by omega)]
  have eR : nR M s = nR μ s := by unfold nR; rw [hm 2 s (by omega)]
  have eD : nD M s = nD μ s - 1 := by
    show (M 3 s).toNatClampNeg = _
    rw [e3, on_n _ (by omega)]
  have eL : nL M s = nL μ s := by
    show (M 83 s).toNatClampNeg = _
    rw [e83, on_n _ (by first | omega | (rw [if_pos rfl]; omega) | (rw [if_neg (by decide)]; omega))]
    first | exact if_pos rfl | exact if_neg (by decide)
  have e83' : M 83 s = Int32.ofNat (nL μ s) := by
    rw [e83]
    first | rw [if_pos rfl] | rw [if_neg (by decide)]
  have f1 : (M 3 s ≤ 1) = (nD μ s - 1 ≤ 1) := by
    rw [e3]
    exact le_of (m := 1) (by omega) (by decide)
  have f0 : (M 3 s ≤ 0) = (nD μ s - 1 ≤ 0) := by
    rw [e3]
    exact le_of (m := 0) (by omega) (by decide)
  have g1 := n_le1 hB
  have g0 := n_le0 hB
  have i1 : ¬ M 3 s ≤ 1 → ¬ μ 3 s ≤ 1 := by rw [f1, g1]; omega
  have i0 : ¬ M 3 s ≤ 0 → ¬ μ 3 s ≤ 0 := by rw [f0, g0]; omega
  have hV' : Lv M s t 0 0 := by
    have v7 := hV.2.2.2.2.2.2
    unfold Lv
    rw [eD, eL]
    refine ⟨by omega, by omega, by omega, by omega, by omega, by omega, fun k hk => ?_⟩
    rw [hm (5 + s) k (by omega), v7 k (by omega)]
    rw [hs3, Lt_98 (by omega)]
  have Q : RS lv K2 νc M ν H S s := by
    refine RS_pop (t' := t) (b' := 0) (l' := nL μ s) R h1 (hm _ _ (by omega)) (hm _ _ (by omega)) e3 e83' (by omega) (fun k hk => hm _ _ (by omega)) (fun k hk => hm _ _ (by omega)) (by rw [ku _ (by omega), kt _ (by omega)]) (by rw [ku _ (by omega), kt _ (by omega)]) (by rw [ku _ (by omega)]; exact kt1) (by rw [ku _ (by omega)]; exact kt2) (by rw [ku _ (by omega)]; exact kt _ (by omega)) hV' ?_ ?_ ?_ ?_ ?_ ?_ ?_ ?_ ?_ ?_ ?_ ?_ ?_ ?_ ?_ ?_
    · exact fun h g k hk => by rw [hm _ _ (by omega), hm _ _ (by omega)]; exact hz (by omega) (i1 g) k hk
    · exact RX_d hB eC eR (by rw [f1, g1]; exact propext (by omega)) (by rw [ku _ (by omega)]; exact kt _ (by omega)) (by rw [ku _ (by omega)]; exact kt _ (by omega)) (by rw [ku _ (by omega)]; exact kt _ (by omega)) (fun o i h => hm _ _ (by omega)) hX
    · refine ⟨fun g k hk => ?_, fun x y hx hy _ => m98 _ _ (by omega) hy, ?_⟩
      · rw [eC, eR, hm _ _ (by omega), hm _ _ (by omega)]
        exact hO.1 (i1 g) k hk
      · have : tDr M s = zfd (fun x a => zfd (fun y b => b + (if (0 : Int32) ≤ 0 then 0 else 1)) a 6) 0 6 := zfd_ext (fun x hx v => zfd_ext (fun y hy w => by rw [m98 _ _ (by omega) hy]))
        rw [this]
        decide
    · exact RM_d hB eC eR (by rw [f1, g1]; exact propext (by omega)) (by rw [ku _ (by omega)]; exact kt _ (by omega)) (fun o i h => hm _ _ (by omega)) hM
    · exact RT_d (by rw [f0, g0]; exact propext (by omega)) (by rw [ku _ (by omega), kt _ (by omega)]) (hm _ _ (by omega)) hT
    · intro i hi
      rw [k98 i hi]
      by_cases g : i % 10 < 6
      · rw [if_pos g, m98 _ _ (by omega) g]
      · rw [if_neg g]
    · unfold Al
      rw [eL, ku _ (by omega), kt _ (by omega), e83']
      exact ⟨fun l hl => hA.1 l (by omega), fun h => hA.2.1 (by omega), by rw [hA.2.2.1]; exact hB.2.2.2.2.1, hA.2.2.2⟩
    · exact RLa_d hB (by omega) (fun o h1 h2 => ⟨by rw [ku _ (by omega)]; exact kt _ (by omega), rfl⟩) (fun o i h => hm _ _ (by omega)) (fun _ => rfl) hL
    · exact Vb_d (by omega) i1 i0 (hm _ _ (by omega)) (fun o i h => hm _ _ (by omega)) (fun g k hk => by rw [hm _ _ (by omega), hm _ _ (by omega)]; exact hVb.2.1 (i1 g) k hk) (fun x y hx hy => by rw [m98 _ _ (by omega) hy]; decide) (fun _ => rfl) hVb
    · exact fun k hk => by rw [ku _ (by omega), kt _ (by omega), hm _ _ (by omega)]; exact hC.1 k hk
    · rw [ku _ (by omega), kt _ (by omega), hm _ _ (by omega)]; exact hC.2.1
    · rw [ku _ (by omega), kt _ (by omega), hm _ _ (by omega)]; exact hC.2.2.1
    · rw [ku _ (by omega), kt _ (by omega), hm _ _ (by omega)]; exact hC.2.2.2.1
    · rw [ku _ (by omega), kt _ (by omega), hC.2.2.2.2.1, if_neg h99]
    · rw [ku _ (by omega), kt _ (by omega)]; exact hC.2.2.2.2.2 h99
    · rw [ku _ (by omega), kt _ (by omega), hm _ _ (by omega)]
      exact hP
  exact ⟨_, _, _, _, etk, eun, e51, Q, eD, not99 hV' Q.2.1 rfl, fun o ho => by rw [ku _ (by unfold FK at ho; omega)]; exact kt _ (by unfold FK at ho; omega), fun o i ho => hm o i (by unfold FP at ho; omega)⟩
theorem pop108 {S s : Nat} (x2 x3 : Int32) (R : RS lv κ νc μ ν H S s) (hx : ¬ μ 3 s ≤ x2) (h1 : 1 ≤ nD μ s) (ha : tLast μ s = 108) : PopS lv κ νc μ ν H S s x2 x3 := by
  obtain ⟨A, hB, hF, hN, ⟨sg, hG⟩, ⟨t, b, c, hV, hz⟩, hX, hO, hM, hT, hD, hA, hL, hVb, hC, hP⟩ := id R
  have hs := hB.1
  have hd9 := hB.2.2.2.1.2
  have vt := hV.1
  have vb := hV.2.1
  have hl4 := hB.2.2.2.2.2
  have h99 : ¬ tLast μ s = 99 := by rw [ha]; decide
  have ha : tLast μ s = Int32.ofNat 108 := ha
  have hsh := shape hV hB (n := 108) ha (by decide) (by decide)
  have hsh2 : 2 ≤ nD μ s - 1 ∧ c = 0 ∧ nD μ s = 2 + t + nL μ s ∧ 1 ≤ nL μ s ∧ b = 0 := by
    rcases hsh with h | h | h | h | h | h <;> omega
  obtain ⟨hs2, hs6, hs4, hs5, hs3⟩ := hsh2
  have e51 := em_pop (ν := ν) (x3 := x3) (a := 108) hB hV h1 hx ha (by decide) (by first | decide | (intro _; omega))
  have etk := ec_takeLast (νc := νc) A hB hN hV hG h1
  rw [ha] at etk
  have hm : ∀ o i, _ → mPop μ s 108 o i = μ o i := fun o i => mPop_m (a := 108) hs
  have e3 : mPop μ s 108 3 s = Int32.ofNat (nD μ s - 1) := by unfold mPop; exact zset_h
  have e83 := mPop_83 (μ := μ) (a := 108) hs
  skip
  obtain ⟨M, hMM⟩ : ∃ M, M = mPop μ s 108 := ⟨_, rfl⟩
  rw [← hMM] at e51 e3 e83 
  simp only [← hMM] at hm
  have kt : ∀ o, o ≠ S + 4 → kTake κ S (nD μ s) o = κ o := fun o h => kTake_o h
  have kt1 : kTake κ S (nD μ s) (S + 4) 1 = Int32.ofNat (nD μ s - 1) := by unfold kTake; rw [zset_e (by omega), zset_h]
  have kt2 : kTake κ S (nD μ s) (S + 4) 2 = Int32.ofNat (nD μ s - 1) := by unfold kTake; rw [zset_h]
  obtain ⟨K1, hK1⟩ : ∃ K, K = kTake κ S (nD μ s) := ⟨_, rfl⟩
  rw [← hK1] at etk kt1 kt2
  simp only [← hK1] at kt
  have eun := ec_undo108 (κ := K1) (νc := νc) (n := nL μ s) A (by rw [kt _ (by omega), hA.2.2.1]; exact hB.2.2.2.2.1) hs5 hl4 (by rw [kt _ (by omega)]; exact hA.2.1 (by omega))
  have ku : ∀ o, _ → kUndo K1 S (nL μ s) 108 o = K1 o := fun o h => kUndo_o (a := 108) h (by decide)
  have k2 : kUndo K1 S (nL μ s) 108 (S + 5 + 1) 2 = Int32.ofNat (nL μ s - 1) := by unfold kUndo; rw [if_neg (by decide), if_neg (by decide), if_pos rfl, zset_e (by omega), zset_h]
  have k3 : kUndo K1 S (nL μ s) 108 (S + 5 + 1) 3 = K1 (S + 5 + 1) 3 := by unfold kUndo; rw [if_neg (by decide), if_neg (by decide), if_pos rfl, zset_e (by omega), zset_e (by omega)]
  obtain ⟨K2, hK2⟩ : ∃ K, K = kUndo K1 S (nL μ s) 108 := ⟨_, rfl⟩
  rw [← hK2] at eun k2 k3
  simp only [← hK2] at ku
  have eC : nC M s = nC μ s := by unfold nC; rw [hm 1 s (by omega)]
  have eR : nR M s = nR μ s := by unfold nR; rw [hm 2 s (by omega)]
  have eD : nD M s = nD μ s - 1 := by
    show (M 3 s).toNatClampNeg = _
    rw [e3, on_n _ (by omega)]
  have eL : nL M s = nL μ s - 1 := by
    show (M 83 s).toNatClampNeg = _
    rw [e83, on_n _ (by first | omega | (rw [if_pos rfl]; omega) | (rw [if_neg (by decide)]; omega))]
    first | exact if_pos rfl | exact if_neg (by decide)
  have e83' : M 83 s = Int32.ofNat (nL μ s - 1) := by
    rw [e83]
    first | rw [if_pos rfl] | rw [if_neg (by decide)]
  have f1 : (M 3 s ≤ 1) = (nD μ s - 1 ≤ 1) := by
    rw [e3]
    exact le_of (m := 1) (by omega) (by decide)
  have f0 : (M 3 s ≤ 0) = (nD μ s - 1 ≤ 0) := by
    rw [e3]
    exact le_of (m := 0) (by omega) (by decide)
  have g1 := n_le1 hB
  have g0 := n_le0 hB
  have i1 : ¬ M 3 s ≤ 1 → ¬ μ 3 s ≤ 1 := by rw [f1, g1]; omega
  have i0 : ¬ M 3 s ≤ 0 → ¬ μ 3 s ≤ 0 := by rw [f0, g0]; omega
  have hV' : Lv M s t 0 0 := by
    have v7 := hV.2.2.2.2.2.2
    unfold Lv
    rw [eD, eL]
    refine ⟨by omega, by omega, by omega, by omega, by omega, by omega, fun k hk => ?_⟩
    rw [hm (5 + s) k (by omega), v7 k (by omega)]
    rw [hs3, Lt_108 (by omega)]
  have Q : RS lv K2 νc M ν H S s := by
    refine RS_pop (t' := t) (b' := 0) (l' := nL μ s - 1) R h1 (hm _ _ (by omega)) (hm _ _ (by omega)) e3 e83' (by omega) (fun k hk => hm _ _ (by omega)) (fun k hk => hm _ _ (by omega)) (by rw [ku _ (by omega), kt _ (by omega)]) (by rw [ku _ (by omega), kt _ (by omega)]) (by rw [ku _ (by omega)]; exact kt1) (by rw [ku _ (by omega)]; exact kt2) (by rw [ku _ (by omega)]; exact kt _ (by omega)) hV' ?_ ?_ ?_ ?_ ?_ ?_ ?_ ?_ ?_ ?_ ?_ ?_ ?_ ?_ ?_ ?_
    · exact fun h g k hk => by rw [hm _ _ (by omega), hm _ _ (by omega)]; exact hz (by omega) (i1 g) k hk
    · exact RX_d hB eC eR (by rw [f1, g1]; exact propext (by omega)) (by rw [ku _ (by omega)]; exact kt _ (by omega)) (by rw [ku _ (by omega)]; exact kt _ (by omega)) (by rw [ku _ (by omega)]; exact kt _ (by omega)) (fun o i h => hm _ _ (by omega)) hX
    · exact RO_d eC eR i1 (fun o i h => hm _ _ (by omega)) hO
    · exact RM_d hB eC eR (by rw [f1, g1]; exact propext (by omega)) (by rw [ku _ (by omega)]; exact kt _ (by omega)) (fun o i h => hm _ _ (by omega)) hM
    · exact RT_d (by rw [f0, g0]; exact propext (by omega)) (by rw [ku _ (by omega), kt _ (by omega)]) (hm _ _ (by omega)) hT
    · exact RD_c (by rw [ku _ (by omega)]; exact kt _ (by omega)) (fun o i h => hm _ _ (by omega)) hD
    · unfold Al
      rw [eL, k2, k3, kt _ (by omega), e83']
      exact ⟨fun l hl => hA.1 l (by omega), fun h => hA.2.1 (by omega), rfl, hA.2.2.2⟩
    · exact RLa_d hB (by omega) (fun o h1 h2 => ⟨by rw [ku _ (by omega)]; exact kt _ (by omega), rfl⟩) (fun o i h => hm _ _ (by omega)) (fun _ => rfl) hL
    · exact Vb_d (by omega) i1 i0 (hm _ _ (by omega)) (fun o i h => hm _ _ (by omega)) (fun g k hk => by rw [hm _ _ (by omega), hm _ _ (by omega)]; exact hVb.2.1 (i1 g) k hk) (fun x y hx hy => by rw [hm _ _ (by omega)]; exact hVb.2.2.2.1 x y hx hy) (fun _ => rfl) hVb
    · exact fun k hk => by rw [ku _ (by omega), kt _ (by omega), hm _ _ (by omega)]; exact hC.1 k hk
    · rw [ku _ (by omega), kt _ (by omega), hm _ _ (by omega)]; exact hC.2.1
    · rw [ku _ (by omega), kt _ (by omega), hm _ _ (by omega)]; exact hC.2.2.1
    · rw [ku _ (by omega), kt _ (by omega), hm _ _ (by omega)]; exact hC.2.2.2.1
    · rw [ku _ (by omega), kt _ (by omega), hC.2.2.2.2.1, if_neg h99]
    · rw [ku _ (by omega), kt _ (by omega)]; exact hC.2.2.2.2.2 h99
    · rw [ku _ (by omega), kt _ (by omega), hm _ _ (by omega)]
      exact hP
  exact ⟨_, _, _, _, etk, eun, e51, Q, eD, not99 hV' Q.2.1 rfl, fun o ho => by rw [ku _ (by unfold FK at ho; omega)]; exact kt _ (by unfold FK at ho; omega), fun o i ho => hm o i (by unfold FP at ho; omega)⟩
theorem pop116 {S s : Nat} (x2 x3 : Int32) (R : RS lv κ νc μ ν H S s) (hx : ¬ μ 3 s ≤ x2) (h1 : 1 ≤ nD μ s) (ha : tLast μ s = 116) : PopS lv κ νc μ ν H S s x2 x3 := by
  obtain ⟨A, hB, hF, hN, ⟨sg, hG⟩, ⟨t, b, c, hV, hz⟩, hX, hO, hM, hT, hD, hA, hL, hVb, hC, hP⟩ := id R
  have hs := hB.1
  have hd9 := hB.2.2.2.1.2
  have vt := hV.1
  have vb := hV.2.1
  have hl4 := hB.2.2.2.2.2
  have h99 : ¬ tLast μ s = 99 := by rw [ha]; decide
  have ha : tLast μ s = Int32.ofNat 116 := ha
  have hsh := shape hV hB (n := 116) ha (by decide) (by decide)
  have hsh2 : 2 = nD μ s - 1 ∧ c = 0 ∧ nL μ s = 0 ∧ b = 0 ∧ t = 1 := by
    rcases hsh with h | h | h | h | h | h <;> omega
  obtain ⟨hs2, hs4, hs5, hs3, hs6⟩ := hsh2
  have e51 := em_pop (ν := ν) (x3 := x3) (a := 116) hB hV h1 hx ha (by decide) (by first | decide | (intro _; omega))
  have etk := ec_takeLast (νc := νc) A hB hN hV hG h1
  rw [ha] at etk
  have hm : ∀ o i, _ → mPop μ s 116 o i = μ o i := fun o i => mPop_m (a := 116) hs
  have e3 : mPop μ s 116 3 s = Int32.ofNat (nD μ s - 1) := by unfold mPop; exact zset_h
  have e83 := mPop_83 (μ := μ) (a := 116) hs
  have m116 : ∀ o i, _ → _ → mPop μ s 116 o i = 99 := fun o i => mPop_116 (μ := μ) (o := o) (i := i) hs
  obtain ⟨M, hMM⟩ : ∃ M, M = mPop μ s 116 := ⟨_, rfl⟩
  rw [← hMM] at e51 e3 e83 
  simp only [← hMM] at hm m116
  have kt : ∀ o, o ≠ S + 4 → kTake κ S (nD μ s) o = κ o := fun o h => kTake_o h
  have kt1 : kTake κ S (nD μ s) (S + 4) 1 = Int32.ofNat (nD μ s - 1) := by unfold kTake; rw [zset_e (by omega), zset_h]
  have kt2 : kTake κ S (nD μ s) (S + 4) 2 = Int32.ofNat (nD μ s - 1) := by unfold kTake; rw [zset_h]
  obtain ⟨K1, hK1⟩ : ∃ K, K = kTake κ S (nD μ s) := ⟨_, rfl⟩
  rw [← hK1] at etk kt1 kt2
  simp only [← hK1] at kt
  have eun := ec_undo116 (κ := K1) (νc := νc) (n := nL μ s) A
  have ku : ∀ o, _ → kUndo K1 S (nL μ s) 116 o = K1 o := fun o h => kUndo_o (a := 116) h (by decide)
  have kc : ∀ i, i < 6 → kUndo K1 S (nL μ s) 116 (S + 1 + 1000) i = 99 := fun i h => by unfold kUndo; rw [if_neg (by decide), if_neg (by decide), if_neg (by decide), if_pos rfl, kFil_o (by omega), kFil_h h]
  have kr : ∀ i, i < 6 → kUndo K1 S (nL μ s) 116 (S + 1 + 2000) i = 99 := fun i h => by unfold kUndo; rw [if_neg (by decide), if_neg (by decide), if_neg (by decide), if_pos rfl, kFil_h h]
  obtain ⟨K2, hK2⟩ : ∃ K, K = kUndo K1 S (nL μ s) 116 := ⟨_, rfl⟩
  rw [← hK2] at eun 
  simp only [← hK2] at ku kc kr
  have eC : nC M s = nC μ s := by unfold nC; rw [hm 1 s (by omega)]
  have eR : nR M s = nR μ s := by unfold nR; rw [hm 2 s (by omega)]
  have eD : nD M s = nD μ s - 1 := by
    show (M 3 s).toNatClampNeg = _
    rw [e3, on_n _ (by omega)]
  have eL : nL M s = nL μ s := by
    show (M 83 s).toNatClampNeg = _
    rw [e83, on_n _ (by first | omega | (rw [if_pos rfl]; omega) | (rw [if_neg (by decide)]; omega))]
    first | exact if_pos rfl | exact if_neg (by decide)
  have e83' : M 83 s = Int32.ofNat (nL μ s) := by
    rw [e83]
    first | rw [if_pos rfl] | rw [if_neg (by decide)]
  have f1 : (M 3 s ≤ 1) = (nD μ s - 1 ≤ 1) := by
    rw [e3]
    exact le_of (m := 1) (by omega) (by decide)
  have f0 : (M 3 s ≤ 0) = (nD μ s - 1 ≤ 0) := by
    rw [e3]
    exact le_of (m := 0) (by omega) (by decide)
  have g1 := n_le1 hB
  have g0 := n_le0 hB
  have i1 : ¬ M 3 s ≤ 1 → ¬ μ 3 s ≤ 1 := by rw [f1, g1]; omega
  have i0 : ¬ M 3 s ≤ 0 → ¬ μ 3 s ≤ 0 := by rw [f0, g0]; omega
  have hV' : Lv M s 0 0 0 := by
    have v7 := hV.2.2.2.2.2.2
    unfold Lv
    rw [eD, eL]
    refine ⟨by omega, by omega, by omega, by omega, by omega, by omega, fun k hk => ?_⟩
    rw [hm (5 + s) k (by omega), v7 k (by omega)]
    rw [hs5, hs3, hs6, Lt_116 (by omega)]
  have Q : RS lv K2 νc M ν H S s := by
    refine RS_pop (t' := 0) (b' := 0) (l' := nL μ s) R h1 (hm _ _ (by omega)) (hm _ _ (by omega)) e3 e83' (by omega) (fun k hk => hm _ _ (by omega)) (fun k hk => hm _ _ (by omega)) (by rw [ku _ (by omega), kt _ (by omega)]) (by rw [ku _ (by omega), kt _ (by omega)]) (by rw [ku _ (by omega)]; exact kt1) (by rw [ku _ (by omega)]; exact kt2) (by rw [ku _ (by omega)]; exact kt _ (by omega)) hV' ?_ ?_ ?_ ?_ ?_ ?_ ?_ ?_ ?_ ?_ ?_ ?_ ?_ ?_ ?_ ?_
    · exact fun h g k hk => ⟨m116 _ _ (Or.inl rfl) hk, m116 _ _ (Or.inr rfl) hk⟩
    · have n1 : ¬ M 3 s ≤ 1 := by rw [f1]; omega
      have n2 : ¬ μ 3 s ≤ 1 := i1 n1
      have hc6 := hB.2.1.2.2
      refine ⟨fun x y hx hy => ?_, fun k hk => ?_⟩
      · rw [eC] at hx
        rw [eR] at hy
        rw [if_neg n1, ku _ (by omega), kt _ (by omega), hm _ _ (by omega), hX.1 x y hx hy, if_neg n2]
      · rw [if_neg n1, if_neg n1, kc k hk, kr k hk, m116 _ _ (Or.inl rfl) hk, m116 _ _ (Or.inr rfl) hk]
        exact ⟨rfl, rfl⟩
    · refine ⟨fun g k hk => ⟨fun _ => m116 _ _ (Or.inl rfl) hk, fun _ => m116 _ _ (Or.inr rfl) hk⟩, fun x y hx hy g => ?_, ?_⟩
      · rw [eC, eR] at g
        rw [hm _ _ (by omega)]
        exact hO.2.1 x y hx hy g
      · rw [tDr_c (μ := μ) (fun x y hx hy => hm _ _ (by omega))]
        exact hO.2.2
    · exact RM_d hB eC eR (by rw [f1, g1]; exact propext (by omega)) (by rw [ku _ (by omega)]; exact kt _ (by omega)) (fun o i h => hm _ _ (by omega)) hM
    · exact RT_d (by rw [f0, g0]; exact propext (by omega)) (by rw [ku _ (by omega), kt _ (by omega)]) (hm _ _ (by omega)) hT
    · exact RD_c (by rw [ku _ (by omega)]; exact kt _ (by omega)) (fun o i h => hm _ _ (by omega)) hD
    · unfold Al
      rw [eL, ku _ (by omega), kt _ (by omega), e83']
      exact ⟨fun l hl => hA.1 l (by omega), fun h => hA.2.1 (by omega), by rw [hA.2.2.1]; exact hB.2.2.2.2.1, hA.2.2.2⟩
    · exact RLa_d hB (by omega) (fun o h1 h2 => ⟨by rw [ku _ (by omega)]; exact kt _ (by omega), rfl⟩) (fun o i h => hm _ _ (by omega)) (fun _ => rfl) hL
    · exact Vb_d (by omega) i1 i0 (hm _ _ (by omega)) (fun o i h => hm _ _ (by omega)) (fun g k hk => by rw [m116 _ _ (Or.inl rfl) hk, m116 _ _ (Or.inr rfl) hk]; decide) (fun x y hx hy => by rw [hm _ _ (by omega)]; exact hVb.2.2.2.1 x y hx hy) (fun _ => rfl) hVb
    · exact fun k hk => by rw [ku _ (by omega), kt _ (by omega), hm _ _ (by omega)]; exact hC.1 k hk
    · rw [ku _ (by omega), kt _ (by omega), hm _ _ (by omega)]; exact hC.2.1
    · rw [ku _ (by omega), kt _ (by omega), hm _ _ (by omega)]; exact hC.2.2.1
    · rw [ku _ (by omega), kt _ (by omega), hm _ _ (by omega)]; exact hC.2.2.2.1
    · rw [ku _ (by omega), kt _ (by omega), hC.2.2.2.2.1, if_neg h99]
    · rw [ku _ (by omega), kt _ (by omega)]; exact hC.2.2.2.2.2 h99
    · rw [ku _ (by omega), kt _ (by omega), hm _ _ (by omega)]
      exact hP
  exact ⟨_, _, _, _, etk, eun, e51, Q, eD, not99 hV' Q.2.1 rfl, fun o ho => by rw [ku _ (by unfold FK at ho; omega)]; exact kt _ (by unfold FK at ho; omega), fun o i ho => hm o i (by unfold FP at ho; omega)⟩
theorem pop115 {S s : Nat} (x2 x3 : Int32) (R : RS lv κ νc μ ν H S s) (hx : ¬ μ 3 s ≤ x2) (h1 : 1 ≤ nD μ s) (ha : tLast μ s = 115) : PopS lv κ νc μ ν H S s x2 x3 := by
  obtain ⟨A, hB, hF, hN, ⟨sg, hG⟩, ⟨t, b, c, hV, hz⟩, hX, hO, hM, hT, hD, hA, hL, hVb, hC, hP⟩ := id R
  have hs := hB.1
  have hd9 := hB.2.2.2.1.2
  have vt := hV.1
  have vb := hV.2.1
  have hl4 := hB.2.2.2.2.2
  have h99 : ¬ tLast μ s = 99 := by rw [ha]; decide
  have ha : tLast μ s = Int32.ofNat 115 := ha
  have hsh := shape hV hB (n := 115) ha (by decide) (by decide)
  have hsh2 : 1 = nD μ s - 1 ∧ c = 0 ∧ nL μ s = 0 ∧ b = 0 ∧ t = 0 := by
    rcases hsh with h | h | h | h | h | h <;> omega
  obtain ⟨hs2, hs4, hs5, hs3, hs6⟩ := hsh2
  have e51 := em_pop (ν := ν) (x3 := x3) (a := 115) hB hV h1 hx ha (by decide) (by first | decide | (intro _; omega))
  have etk := ec_takeLast (νc := νc) A hB hN hV hG h1
  rw [ha] at etk
  have hm : ∀ o i, _ → mPop μ s 115 o i = μ o i := fun o i => mPop_m (a := 115) hs
  have e3 : mPop μ s 115 3 s = Int32.ofNat (nD μ s - 1) := by unfold mPop; exact zset_h
  have e83 := mPop_83 (μ := μ) (a := 115) hs
  skip
  obtain ⟨M, hMM⟩ : ∃ M, M = mPop μ s 115 := ⟨_, rfl⟩
  rw [← hMM] at e51 e3 e83 
  simp only [← hMM] at hm
  have kt : ∀ o, o ≠ S + 4 → kTake κ S (nD μ s) o = κ o := fun o h => kTake_o h
  have kt1 : kTake κ S (nD μ s) (S + 4) 1 = Int32.ofNat (nD μ s - 1) := by unfold kTake; rw [zset_e (by omega), zset_h]
  have kt2 : kTake κ S (nD μ s) (S + 4) 2 = Int32.ofNat (nD μ s - 1) := by unfold kTake; rw [zset_h]
  obtain ⟨K1, hK1⟩ : ∃ K, K = kTake κ S (nD μ s) := ⟨_, rfl⟩
  rw [← hK1] at etk kt1 kt2
  simp only [← hK1] at kt
  have eun := ec_undo115 (κ := K1) (νc := νc) (n := nL μ s) A
  have ku : ∀ o, _ → kUndo K1 S (nL μ s) 115 o = K1 o := fun o h => kUndo_o (a := 115) h (by decide)
  have kc : ∀ i, i < 56 → kUndo K1 S (nL μ s) 115 (S + 1 + 1 + 1000) i = 0 := fun i h => by unfold kUndo; rw [if_neg (by decide), if_neg (by decide), if_neg (by decide), if_neg (by decide), if_pos rfl, kFil_o (by omega), kFil_h h]
  have kr : ∀ i, i < 56 → kUndo K1 S (nL μ s) 115 (S + 1 + 2 + 1000) i = 0 := fun i h => by unfold kUndo; rw [if_neg (by decide), if_neg (by decide), if_neg (by decide), if_neg (by decide), if_pos rfl, kFil_h h]
  obtain ⟨K2, hK2⟩ : ∃ K, K = kUndo K1 S (nL μ s) 115 := ⟨_, rfl⟩
  rw [← hK2] at eun 
  simp only [← hK2] at ku kc kr
  have eC : nC M s = nC μ s := by unfold nC; rw [hm 1 s (by omega)]
  have eR : nR M s = nR μ s := by unfold nR; rw [hm 2 s (by omega)]
  have eD : nD M s = nD μ s - 1 := by
    show (M 3 s).toNatClampNeg = _
    rw [e3, on_n _ (by omega)]
  have eL : nL M s = nL μ s := by
    show (M 83 s).toNatClampNeg = _
    rw [e83, on_n _ (by first | omega | (rw [if_pos rfl]; omega) | (rw [if_neg (by decide)]; omega))]
    first | exact if_pos rfl | exact if_neg (by decide)
  have e83' : M 83 s = Int32.ofNat (nL μ s) := by
    rw [e83]
    first | rw [if_pos rfl] | rw [if_neg (by decide)]
  have f1 : (M 3 s ≤ 1) = (nD μ s - 1 ≤ 1) := by
    rw [e3]
    exact le_of (m := 1) (by omega) (by decide)
  have f0 : (M 3 s ≤ 0) = (nD μ s - 1 ≤ 0) := by
    rw [e3]
    exact le_of (m := 0) (by omega) (by decide)
  have g1 := n_le1 hB
  have g0 := n_le0 hB
  have i1 : ¬ M 3 s ≤ 1 → ¬ μ 3 s ≤ 1 := by rw [f1, g1]; omega
  have i0 : ¬ M 3 s ≤ 0 → ¬ μ 3 s ≤ 0 := by rw [f0, g0]; omega
  have hV' : Lv M s 0 0 0 := by
    have v7 := hV.2.2.2.2.2.2
    unfold Lv
    rw [eD, eL]
    refine ⟨by omega, by omega, by omega, by omega, by omega, by omega, fun k hk => ?_⟩
    rw [hm (5 + s) k (by omega), v7 k (by omega)]
    rw [hs5, hs3, hs6]
  have Q : RS lv K2 νc M ν H S s := by
    refine RS_pop (t' := 0) (b' := 0) (l' := nL μ s) R h1 (hm _ _ (by omega)) (hm _ _ (by omega)) e3 e83' (by omega) (fun k hk => hm _ _ (by omega)) (fun k hk => hm _ _ (by omega)) (by rw [ku _ (by omega), kt _ (by omega)]) (by rw [ku _ (by omega), kt _ (by omega)]) (by rw [ku _ (by omega)]; exact kt1) (by rw [ku _ (by omega)]; exact kt2) (by rw [ku _ (by omega)]; exact kt _ (by omega)) hV' ?_ ?_ ?_ ?_ ?_ ?_ ?_ ?_ ?_ ?_ ?_ ?_ ?_ ?_ ?_ ?_
    · exact fun h g k hk => by rw [hm _ _ (by omega), hm _ _ (by omega)]; exact hz (by omega) (i1 g) k hk
    · have n1 : M 3 s ≤ 1 := by rw [f1]; omega
      have n2 : ¬ μ 3 s ≤ 1 := by rw [g1]; omega
      have hc6 := hB.2.1.2.2
      have hr6 := hB.2.2.1.2.2
      refine ⟨fun x y hx hy => ?_, fun k hk => ?_⟩
      · rw [eC] at hx
        rw [eR] at hy
        rw [if_pos n1, kc _ (by omega)]
      · have q := hz hs6 n2 k hk
        have q2 := hX.2 k hk
        rw [if_neg n2, if_neg n2] at q2
        rw [if_pos n1, if_pos n1, ku _ (by omega), kt _ (by omega), ku _ (by omega), kt _ (by omega), q2.1, q2.2]
        exact q
    · exact RO_d eC eR i1 (fun o i h => hm _ _ (by omega)) hO
    · have n1 : M 3 s ≤ 1 := by rw [f1]; omega
      have hc6 := hB.2.1.2.2
      have hr6 := hB.2.2.1.2.2
      intro x y hx hy
      rw [eC] at hx
      rw [eR] at hy
      rw [if_pos n1, kr _ (by omega)]
    · exact RT_d (by rw [f0, g0]; exact propext (by omega)) (by rw [ku _ (by omega), kt _ (by omega)]) (hm _ _ (by omega)) hT
    · exact RD_c (by rw [ku _ (by omega)]; exact kt _ (by omega)) (fun o i h => hm _ _ (by omega)) hD
    · unfold Al
      rw [eL, ku _ (by omega), kt _ (by omega), e83']
      exact ⟨fun l hl => hA.1 l (by omega), fun h => hA.2.1 (by omega), by rw [hA.2.2.1]; exact hB.2.2.2.2.1, hA.2.2.2⟩
    · exact RLa_d hB (by omega) (fun o h1 h2 => ⟨by rw [ku _ (by omega)]; exact kt _ (by omega), rfl⟩) (fun o i h => hm _ _ (by omega)) (fun _ => rfl) hL
    · exact Vb_d (by omega) i1 i0 (hm _ _ (by omega)) (fun o i h => hm _ _ (by omega)) (fun g k hk => by rw [hm _ _ (by omega), hm _ _ (by omega)]; exact hVb.2.1 (i1 g) k hk) (fun x y hx hy => by rw [hm _ _ (by omega)]; exact hVb.2.2.2.1 x y hx hy) (fun _ => rfl) hVb
    · exact fun k hk => by rw [ku _ (by omega), kt _ (by omega), hm _ _ (by omega)]; exact hC.1 k hk
    · rw [ku _ (by omega), kt _ (by omega), hm _ _ (by omega)]; exact hC.2.1
    · rw [ku _ (by omega), kt _ (by omega), hm _ _ (by omega)]; exact hC.2.2.1
    · rw [ku _ (by omega), kt _ (by omega), hm _ _ (by omega)]; exact hC.2.2.2.1
    · rw [ku _ (by omega), kt _ (by omega), hC.2.2.2.2.1, if_neg h99]
    · rw [ku _ (by omega), kt _ (by omega)]; exact hC.2.2.2.2.2 h99
    · rw [ku _ (by omega), kt _ (by omega), hm _ _ (by omega)]
      exact hP
  exact ⟨_, _, _, _, etk, eun, e51, Q, eD, not99 hV' Q.2.1 rfl, fun o ho => by rw [ku _ (by unfold FK at ho; omega)]; exact kt _ (by unfold FK at ho; omega), fun o i ho => hm o i (by unfold FP at ho; omega)⟩
theorem pop119 {S s : Nat} (x2 x3 : Int32) (R : RS lv κ νc μ ν H S s) (hx : ¬ μ 3 s ≤ x2) (h1 : 1 ≤ nD μ s) (ha : tLast μ s = 119) : PopS lv κ νc μ ν H S s x2 x3 := by
  obtain ⟨A, hB, hF, hN, ⟨sg, hG⟩, ⟨t, b, c, hV, hz⟩, hX, hO, hM, hT, hD, hA, hL, hVb, hC, hP⟩ := id R
  have hs := hB.1
  have hd9 := hB.2.2.2.1.2
  have vt := hV.1
  have vb := hV.2.1
  have hl4 := hB.2.2.2.2.2
  have h99 : ¬ tLast μ s = 99 := by rw [ha]; decide
  have ha : tLast μ s = Int32.ofNat 119 := ha
  have hsh := shape hV hB (n := 119) ha (by decide) (by decide)
  have hsh2 : 0 = nD μ s - 1 ∧ c = 0 ∧ nL μ s = 0 ∧ b = 0 ∧ t = 0 := by
    have := hV.2.2.2.1
    rcases hsh with h | h | h | h | h | h <;> omega
  obtain ⟨hs2, hs4, hs5, hs3, hs6⟩ := hsh2
  have e51 := em_pop (ν := ν) (x3 := x3) (a := 119) hB hV h1 hx ha (by decide) (by first | decide | (intro _; omega))
  have etk := ec_takeLast (νc := νc) A hB hN hV hG h1
  rw [ha] at etk
  have hm : ∀ o i, _ → mPop μ s 119 o i = μ o i := fun o i => mPop_m (a := 119) hs
  have e3 : mPop μ s 119 3 s = Int32.ofNat (nD μ s - 1) := by unfold mPop; exact zset_h
  have e83 := mPop_83 (μ := μ) (a := 119) hs
  skip
  obtain ⟨M, hMM⟩ : ∃ M, M = mPop μ s 119 := ⟨_, rfl⟩
  rw [← hMM] at e51 e3 e83 
  simp only [← hMM] at hm
  have kt : ∀ o, o ≠ S + 4 → kTake κ S (nD μ s) o = κ o := fun o h => kTake_o h
  have kt1 : kTake κ S (nD μ s) (S + 4) 1 = Int32.ofNat (nD μ s - 1) := by unfold kTake; rw [zset_e (by omega), zset_h]
  have kt2 : kTake κ S (nD μ s) (S + 4) 2 = Int32.ofNat (nD μ s - 1) := by unfold kTake; rw [zset_h]
  obtain ⟨K1, hK1⟩ : ∃ K, K = kTake κ S (nD μ s) := ⟨_, rfl⟩
  rw [← hK1] at etk kt1 kt2
  simp only [← hK1] at kt
  have eun := ec_undo119 (κ := K1) (νc := νc) (n := nL μ s) A
  have ku : ∀ o, _ → kUndo K1 S (nL μ s) 119 o = K1 o := fun o h => kUndo_o (a := 119) h (by decide)
  have k1 : ∀ i, i ≠ 2 → kUndo K1 S (nL μ s) 119 (S + 1) i = K1 (S + 1) i := fun i h => by unfold kUndo; rw [if_neg (by decide), if_neg (by decide), if_neg (by decide), if_neg (by decide), if_neg (by decide), zset_e (by omega)]
  have k12 : kUndo K1 S (nL μ s) 119 (S + 1) 2 = 0 := by unfold kUndo; rw [if_neg (by decide), if_neg (by decide), if_neg (by decide), if_neg (by decide), if_neg (by decide), zset_h]
  obtain ⟨K2, hK2⟩ : ∃ K, K = kUndo K1 S (nL μ s) 119 := ⟨_, rfl⟩
  rw [← hK2] at eun k12
  simp only [← hK2] at ku k1
  have eC : nC M s = nC μ s := by unfold nC; rw [hm 1 s (by omega)]
  have eR : nR M s = nR μ s := by unfold nR; rw [hm 2 s (by omega)]
  have eD : nD M s = nD μ s - 1 := by
    show (M 3 s).toNatClampNeg = _
    rw [e3, on_n _ (by omega)]
  have eL : nL M s = nL μ s := by
    show (M 83 s).toNatClampNeg = _
    rw [e83, on_n _ (by first | omega | (rw [if_pos rfl]; omega) | (rw [if_neg (by decide)]; omega))]
    first | exact if_pos rfl | exact if_neg (by decide)
  have e83' : M 83 s = Int32.ofNat (nL μ s) := by
    rw [e83]
    first | rw [if_pos rfl] | rw [if_neg (by decide)]
  have f1 : (M 3 s ≤ 1) = (nD μ s - 1 ≤ 1) := by
    rw [e3]
    exact le_of (m := 1) (by omega) (by decide)
  have f0 : (M 3 s ≤ 0) = (nD μ s - 1 ≤ 0) := by
    rw [e3]
    exact le_of (m := 0) (by omega) (by decide)
  have g1 := n_le1 hB
  have g0 := n_le0 hB
  have i1 : ¬ M 3 s ≤ 1 → ¬ μ 3 s ≤ 1 := by rw [f1, g1]; omega
  have i0 : ¬ M 3 s ≤ 0 → ¬ μ 3 s ≤ 0 := by rw [f0, g0]; omega
  have hV' : Lv M s 0 0 0 := by
    have v7 := hV.2.2.2.2.2.2
    unfold Lv
    rw [eD, eL]
    refine ⟨by omega, by omega, by omega, by omega, by omega, by omega, fun k hk => ?_⟩
    rw [hm (5 + s) k (by omega), v7 k (by omega)]
    omega
  have Q : RS lv K2 νc M ν H S s := by
    refine RS_pop (t' := 0) (b' := 0) (l' := nL μ s) R h1 (hm _ _ (by omega)) (hm _ _ (by omega)) e3 e83' (by omega) (fun k hk => hm _ _ (by omega)) (fun k hk => hm _ _ (by omega)) (by rw [k1 _ (by decide), kt _ (by omega)]) (by rw [k1 _ (by decide), kt _ (by omega)]) (by rw [ku _ (by omega)]; exact kt1) (by rw [ku _ (by omega)]; exact kt2) (by rw [ku _ (by omega)]; exact kt _ (by omega)) hV' ?_ ?_ ?_ ?_ ?_ ?_ ?_ ?_ ?_ ?_ ?_ ?_ ?_ ?_ ?_ ?_
    · exact fun h g k hk => by rw [hm _ _ (by omega), hm _ _ (by omega)]; exact hz (by omega) (i1 g) k hk
    · exact RX_d hB eC eR (by rw [f1, g1]; exact propext (by omega)) (by rw [ku _ (by omega)]; exact kt _ (by omega)) (by rw [ku _ (by omega)]; exact kt _ (by omega)) (by rw [ku _ (by omega)]; exact kt _ (by omega)) (fun o i h => hm _ _ (by omega)) hX
    · exact RO_d eC eR i1 (fun o i h => hm _ _ (by omega)) hO
    · exact RM_d hB eC eR (by rw [f1, g1]; exact propext (by omega)) (by rw [ku _ (by omega)]; exact kt _ (by omega)) (fun o i h => hm _ _ (by omega)) hM
    · unfold RT
      rw [k12, if_pos (by rw [f0]; omega)]
    · exact RD_c (by rw [ku _ (by omega)]; exact kt _ (by omega)) (fun o i h => hm _ _ (by omega)) hD
    · unfold Al
      rw [eL, ku _ (by omega), kt _ (by omega), e83']
      exact ⟨fun l hl => hA.1 l (by omega), fun h => hA.2.1 (by omega), by rw [hA.2.2.1]; exact hB.2.2.2.2.1, hA.2.2.2⟩
    · exact RLa_d hB (by omega) (fun o h1 h2 => ⟨by rw [ku _ (by omega)]; exact kt _ (by omega), rfl⟩) (fun o i h => hm _ _ (by omega)) (fun _ => rfl) hL
    · exact Vb_d (by omega) i1 i0 (hm _ _ (by omega)) (fun o i h => hm _ _ (by omega)) (fun g k hk => by rw [hm _ _ (by omega), hm _ _ (by omega)]; exact hVb.2.1 (i1 g) k hk) (fun x y hx hy => by rw [hm _ _ (by omega)]; exact hVb.2.2.2.1 x y hx hy) (fun _ => rfl) hVb
    · exact fun k hk => by rw [ku _ (by omega), kt _ (by omega), hm _ _ (by omega)]; exact hC.1 k hk
    · rw [ku _ (by omega), kt _ (by omega), hm _ _ (by omega)]; exact hC.2.1
    · rw [ku _ (by omega), kt _ (by omega), hm _ _ (by omega)]; exact hC.2.2.1
    · rw [ku _ (by omega), kt _ (by omega), hm _ _ (by omega)]; exact hC.2.2.2.1
    · rw [ku _ (by omega), kt _ (by omega), hC.2.2.2.2.1, if_neg h99]
    · rw [ku _ (by omega), kt _ (by omega)]; exact hC.2.2.2.2.2 h99
    · rw [ku _ (by omega), kt _ (by omega), hm _ _ (by omega)]
      exact hP
  exact ⟨_, _, _, _, etk, eun, e51, Q, eD, not99 hV' Q.2.1 rfl, fun o ho => by rw [ku _ (by unfold FK at ho; omega)]; exact kt _ (by unfold FK at ho; omega), fun o i ho => hm o i (by unfold FP at ho; omega)⟩
theorem pop {S s : Nat} (x2 x3 : Int32) (R : RS lv κ νc μ ν H S s) (hx : ¬ μ 3 s ≤ x2) (h1 : 1 ≤ nD μ s) : PopS lv κ νc μ ν H S s x2 x3 := by
  obtain ⟨A, hB, hF, hN, ⟨sg, hG⟩, ⟨t, b, c, hV, hz⟩, -⟩ := id R
  obtain ⟨a, ha, h119, h45⟩ := tL_Lt hV h1
  rcases shape hV hB ha h119 h45 with ⟨rfl, -⟩ | ⟨rfl, -⟩ | ⟨rfl, -⟩ | ⟨rfl, -⟩ | ⟨rfl, -⟩ | ⟨rfl, -⟩
  · exact pop119 x2 x3 R hx h1 ha
  · exact pop115 x2 x3 R hx h1 ha
  · exact pop116 x2 x3 R hx h1 ha
  · exact pop108 x2 x3 R hx h1 ha
  · exact pop98 x2 x3 R hx h1 ha
  · exact pop99 x2 x3 R hx h1 ha
end ZWL
