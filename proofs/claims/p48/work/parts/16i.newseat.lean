section ZXI
/-! a new seat in the relation; what a list's cell is after an add -/
variable {lv lv' : Nat → Bool} {κ κ' : zzM} {νc νc' : zzN} {μ μ' : zzM} {ν ν' : zzN} {H : Int} {nS nB nK : Nat}
theorem RR_seatN {c r : Nat} (m : ∀ o, lv o = true → lv' o = true) (hs : nS < 4) (l3 : lv' 1001 = true) (kk : ∀ o, o ≠ 1 → ¬ FK (100 * (nS + 1)) o → κ' o = κ o) (kn : ∀ o, ¬ (100 * (nS + 1) ≤ o ∧ o < 100 * (nS + 1) + 100) → νc' o = νc o) (k1 : κ' 1 2 = Int32.ofNat (nS + 1)) (k2 : ¬ κ' 1 3 = 0) (mm : ∀ o i, ¬ (o = 0 ∧ i = 30) → ¬ (o = 1 ∧ i = nS) → ¬ (o = 2 ∧ i = nS) → ¬ (o = 146 ∧ i = nS) → μ' o i = μ o i) (m30 : μ' 0 30 = Int32.ofNat (nS + 1)) (N : RS lv' κ' νc' μ' ν H (100 * (nS + 1)) nS ∧ tLast μ' nS = 45) (R : RR lv κ νc μ ν H nS nB nK) : RR lv' κ' νc' μ' ν H (nS + 1) nB nK := by
  have b3 := R.1.2.2.1
  have n4 := R.1.2.2.2.1
  have mo : ∀ o i, 3 ≤ o → o ≠ 146 → μ' o i = μ o i := fun o i h1 h2 => mm o i (by omega) (by omega) (by omega) (by omega)
  obtain ⟨e3, e5, e7, e9, e10, e11⟩ := RR_ext (lv' := lv') (κ' := κ') (νc' := νc') (μ' := μ') (ν' := ν) m (fun s hs => ⟨fun o ho => kk o (by unfold FK at ho; omega) (by unfold FK at ho ⊢; omega), fun o h1 h2 => kn o (by omega)⟩) (fun s hs => ⟨fun o i ho => mm o i (by unfold FP at ho; omega) (by unfold FP at ho; omega) (by unfold FP at ho; omega) (by unfold FP at ho; omega), fun _ => rfl⟩) (fun j hj => ⟨kk _ (by omega) (by unfold FK; omega), kk _ (by omega) (by unfold FK; omega)⟩) (fun j hj => ⟨mo _ _ (by omega) (by omega), mo _ _ (by omega) (by omega), mo _ _ (by omega) (by omega), mo _ _ (by omega) (by omega), fun i => mo _ _ (by omega) (by omega)⟩) (fun j hj => kk _ (by omega) (by unfold FK; omega)) (fun j => ⟨mo _ _ (by omega) (by omega), mo _ _ (by omega) (by omega)⟩) (fun b hb => kk _ (by omega) (by unfold FK; omega)) (fun b x y _ _ => mo _ _ (by omega) (by omega)) R
  obtain ⟨⟨a1, a2, a3, a4, a5, a6, a7, a8⟩, ⟨g1, g2, g3, g4, g5, g6⟩, r3, r4, r5, r6, r7, r8, r9, r10, r11⟩ := R
  have n99 : ¬ tLast μ' nS = 99 := by rw [N.2]; decide
  refine ⟨⟨⟨m _ a1.1, a1.2⟩, by omega, a3, a4, a5, m30, ?_, ?_⟩, ⟨⟨⟨m _ g1.1.1, g1.1.2⟩, k1, fun _ => ⟨l3, k2⟩, fun q => absurd q (by omega)⟩, Gr_m m (kk _ (by omega) (by unfold FK; omega)) g2, Gr_m m (kk _ (by omega) (by unfold FK; omega)) g3, Gr_m m (kk _ (by omega) (by unfold FK; omega)) g4, Ab_m m g5, Ab_m m g6⟩, fun s h1 => ?_, fun s h1 h2 => ?_, e5, fun b h1 h2 x y hx hy => ?_, e7, fun j h1 h2 => ?_, e9, fun s h1 => ?_, fun s1 s2 h1 h2 => ?_⟩
  · rw [mm _ _ (by omega) (by omega) (by omega) (by omega)]; exact a7
  · rw [mm _ _ (by omega) (by omega) (by omega) (by omega)]; exact a8
  · by_cases g : s = nS
    · rw [g]; exact N.1
    · exact e3 s (by omega)
  · unfold Zs
    rw [mo 3 s (by omega) (by omega), mo 83 s (by omega) (by omega), mo 143 s (by omega) (by omega), mo 144 s (by omega) (by omega), mo 145 s (by omega) (by omega)]
    obtain ⟨z1, z2, z3, z4, z5, z6, z7⟩ := r4 s (by omega) h2
    exact ⟨z1, z2, z3, z4, z5, fun x y hx hy => by rw [mo _ _ (by omega) (by omega)]; exact z6 x y hx hy, fun k hk => by rw [mo _ _ (by omega) (by omega)]; exact z7 k hk⟩
  · rw [mo _ _ (by omega) (by omega)]
    exact r6 b h1 h2 x y hx hy
  · rw [mo _ _ (by omega) (by omega), mo _ _ (by omega) (by omega)]
    exact r8 j h1 h2
  · by_cases g : s = nS
    · rw [g]; exact fun q => absurd q n99
    · exact e10 s (by omega)
  · by_cases g : s1 = nS
    · rw [g]; exact fun _ q => absurd q n99
    · by_cases g2 : s2 = nS
      · rw [g2]; exact fun _ _ q => absurd q n99
      · exact e11 s1 s2 (by omega) (by omega)
/-- a list's own cell, its array's -/
theorem li_cell {ad : Nat → Nat} {t0 L : Nat} (hL : co L = 0) : cCell ad t0 κ νc L = some (.inr (0, [.int (κ L 0), .ref (if κ L 3 = 0 then t0 else ad (L + 1000)), .int (κ L 2)])) := by
  have := (co_loc (o := L)).2.2.2.2.2.2.2.2 hL
  unfold cCell
  rw [if_pos (by omega), hL, if_neg (by decide)]
  rfl
theorem la_cell {ad : Nat → Nat} {t0 L : Nat} (hL : co L = 0) : cCell ad t0 κ νc (L + 1000) = some (zz_Q 5 10 (fun i => if i < (κ L 2).toNatClampNeg then some (ad (child L i)) else none)) := by
  have h0 := (co_loc (o := L)).2.2.2.2.2.2.2.2 hL
  have e : cIs (L + 1000) = none := by
    unfold cIs
    rw [if_neg (by omega), if_pos (by omega), Nat.add_sub_cancel, hL]
    rfl
  unfold cCell
  rw [if_neg (by omega), e]
  dsimp only
  rw [Nat.add_sub_cancel, if_pos ⟨by omega, hL⟩]
/-- a list's fields after an add -/
def kLi (κ : zzM) (L c : Nat) : zzM := zset (zset (zset κ L 0 (κ L 0 + 1)) L 2 (Int32.ofNat (c + 1))) L 3 1
theorem kLi_o {L c o : Nat} (h : o ≠ L) : kLi κ L c o = κ o := by
  unfold kLi
  rw [zset_o h, zset_o h, zset_o h]
theorem kLi_h {L c : Nat} : kLi κ L c L 0 = κ L 0 + 1 ∧ kLi κ L c L 2 = Int32.ofNat (c + 1) ∧ kLi κ L c L 3 = 1 := by
  unfold kLi
  exact ⟨by rw [zset_e (by omega), zset_e (by omega), zset_h], by rw [zset_e (by omega), zset_h], zset_h⟩
/-- what an add leaves, in the words of the state: L's cell, its array's cell; v: the new child's address; w: where the array is -/
theorem li_add {ad : Nat → Nat} {t0 L c v n : Nat} {ci : Nat} {fs : List Value} {h : zz_H} (hL : co L = 0) (hc : κ L 2 = Int32.ofNat c) (c9 : c < 10) (e1 : h (ad L) = cCell ad t0 κ νc L) (e2 : ¬ κ L 3 = 0 → h (ad (L + 1000)) = cCell ad t0 κ νc (L + 1000)) (e0 : κ L 3 = 0 → c = 0 ∧ h t0 = some (zz_Q 11 0 (fun _ => none)) ∧ n ≠ ad L ∧ n ≠ v ∧ n ≠ t0) (ev : h v = some (.inr (ci, fs))) (hci : 0 < ci ∧ ci < 9) : ∃ h' w, f_Jx4a65c_add_9ea2d t0 (ad L) (some v) h n = some (1, h', if κ L 3 = 0 then n + 1 else n) ∧ w = (if κ L 3 = 0 then n else ad (L + 1000)) ∧ (∀ q, q ≠ ad L → q ≠ w → h' q = h q) ∧ h' (ad L) = some (.inr (0, [.int (κ L 0 + 1), .ref w, .int (Int32.ofNat (c + 1))])) ∧ h' w = some (zz_Q 5 10 (fun i => if i < c then some (ad (child L i)) else if i = c then some v else none)) := by
  rw [li_cell hL, hc] at e1
  by_cases g : κ L 3 = 0
  · obtain ⟨c0, et, x1, x2, x3⟩ := e0 g
    subst c0
    rw [if_pos g] at e1
    obtain ⟨h', f1, f2, f3, f4⟩ := add_0 (t0 := t0) (n := n) e1 et ev hci x1 x2 x3
    refine ⟨h', n, by rw [if_pos g]; exact f1, by rw [if_pos g], f2, f3, ?_⟩
    rw [f4]
    have e : va_up (fun _ => (none : Option Nat)) 0 (some v) = (fun i => if i < 0 then some (ad (child L i)) else if i = 0 then some v else none) := by
      funext i
      unfold va_up
      rw [if_neg (Nat.not_lt_zero i)]
    rw [e]
  · rw [if_neg g] at e1
    have e3 := e2 g
    rw [la_cell hL, hc, on_n c (by omega)] at e3
    obtain ⟨h', f1, f2, f3, f4⟩ := add_g (t0 := t0) (n := n) e1 e3 c9 ev hci
    refine ⟨h', ad (L + 1000), by rw [if_neg g]; exact f1, by rw [if_neg g], f2, f3, ?_⟩
    rw [f4]
    have e : va_up (fun i => if i < c then some (ad (child L i)) else none) c (some v) = (fun i => if i < c then some (ad (child L i)) else if i = c then some v else none) := by
      funext i
      unfold va_up
      by_cases q : i = c
      · rw [if_pos q, if_neg (by omega), if_pos q]
      · rw [if_neg q, if_neg q]
    rw [e]
end ZXI
