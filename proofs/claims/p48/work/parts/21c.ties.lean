section ZLC
variable {t0 base b L : Nat} {xs : Nat → Int32} {ow ow' : zz_H} {μ μ' : zzM} {ν ν' : zzN} {H : Int} {nK : Nat} {h h' : zz_H} {n n' : Nat} {c r d l : Nat} {la sg : Int32}
theorem lm_e (a b : Int32) : (if a ≤ b then a else b) = zz_min a b := by
  by_cases g : a ≤ b
  · rw [if_pos g]
    unfold zz_min
    rw [if_neg (by rw [Int32.lt_iff_toInt_lt]; rw [Int32.le_iff_toInt_le] at g; omega)]
  · rw [if_neg g]
    unfold zz_min
    rw [if_pos (by rw [Int32.lt_iff_toInt_lt]; rw [Int32.le_iff_toInt_le] at g; omega)]
theorem min_3 (a b e : Int32) : zz_min a (zz_min b e) = zz_min e (zz_min a b) := by
  apply Int32.toInt_inj.mp
  rw [min_I, min_I, min_I, min_I]
  omega
theorem min_3' (a b e : Int32) : zz_min a (zz_min b e) = zz_min e (zz_min b a) := by
  apply Int32.toInt_inj.mp
  rw [min_I, min_I, min_I, min_I]
  omega
theorem abs_n (m : Int32) : zz_abs (-m) = if 0 ≤ m then m else -m := by
  have h1 := m.le_toInt
  have h2 := m.toInt_lt
  have i0 : (0 : Int32).toInt = 0 := rfl
  have en : m.toInt ≠ -2 ^ 31 → (-m).toInt = -m.toInt := fun g => by
    rw [Int32.toInt_neg]
    exact Int.bmod_eq_of_le (by omega) (by omega)
  have em : m.toInt = -2 ^ 31 → -m = m := fun g => by
    have e : m = Int32.minValue := Int32.toInt_inj.mp (by rw [g]; rfl)
    rw [e]
    rfl
  by_cases g : m.toInt = -2 ^ 31
  · have e := em g
    have g1 : ¬ (0 : Int32) ≤ m := by rw [Int32.le_iff_toInt_le, i0]; omega
    show (if 0 ≤ -m then -m else 0 - -m) = _
    rw [if_neg g1, e, if_neg g1, Int32.zero_sub, e]
  · have e := en g
    show (if 0 ≤ -m then -m else 0 - -m) = _
    by_cases g1 : (0 : Int32) ≤ m
    · rw [if_pos g1]
      by_cases g2 : (0 : Int32) ≤ -m
      · rw [if_pos g2]
        rw [Int32.le_iff_toInt_le, i0] at g1 g2
        apply Int32.toInt_inj.mp
        omega
      · rw [if_neg g2, Int32.zero_sub, Int32.neg_neg]
    · rw [if_neg g1, if_pos (by rw [Int32.le_iff_toInt_le, i0] at g1 ⊢; omega)]
/-- by how much a spring's height changes: the tie's, the other's, the spring's own -/
def mT (on : Bool) (t w o g : Int32) : Int32 := if on then zz_min t (zz_min o g) - zz_min w (zz_min o g) else 0
theorem r_672 {x0 x1 : Nat} {x2 x3 : Int32} {x6 x7 x8 : Nat} {x9 x12 p q t a : Int32} {X Y o w g : Int32} : f_L_law_630 x0 x1 x2 x3 x6 x7 x8 x9 x12 p q t a X Y w (zz_min o g) 1 h = some (.inl (a + mT true t w o g, Y + 1)) ∧ f_L_law_630 x0 x1 x2 x3 x6 x7 x8 x9 x12 p q t a X Y w (zz_min o g) 0 h = some (.inl (a + 0, Y + 1)) := by
  unfold f_L_law_630
  refine ⟨?_, by rw [if_pos rfl]; rfl⟩
  rw [if_neg (by decide)]
  unfold f_L_law_653 f_L_law_667 f_L_law_672 mT
  rw [if_pos rfl, ← lm_e t, ← lm_e w]
  by_cases g1 : t ≤ zz_min o g
  · rw [if_pos g1, if_pos g1]
    by_cases g2 : w ≤ zz_min o g
    · rw [if_pos g2, if_pos g2]
    · rw [if_neg g2, if_neg g2]
  · rw [if_neg g1, if_neg g1]
    by_cases g2 : w ≤ zz_min o g
    · rw [if_pos g2, if_pos g2]
    · rw [if_neg g2, if_neg g2]
/-- one cell, as a column's or a row's tie is set -/
theorem r_524 (J : JJ t0 base ow μ ν 1 nK H h n) {x6 x7 x8 : Nat} (A : AR ow μ x6 x7 x8 c r) (hc : c ≤ 4) (hr : r ≤ 4) {x0 x1 : Nat} {x9 x12 p t a : Int32} {q X Y : Nat} (hq : q < 100) (hX : X < c) (hY : Y < r) : f_L_law_524 x0 x1 (Int32.ofNat c) (Int32.ofNat r) x6 x7 x8 x9 x12 p (Int32.ofNat q) t a (Int32.ofNat X) (Int32.ofNat Y) h = some (.inl (a + (if p = 0 then mT (decide (Y = q)) t (μ (79 + 0) Y) (μ (74 + 0) X) (μ (17 + 7 * 0 + X) Y) else mT (decide (X = q)) t (μ (74 + 0) X) (μ (79 + 0) Y) (μ (17 + 7 * 0 + X) Y)), Int32.ofNat Y + 1)) := by
  have fin : ∀ (w o : Int32), f_L_law_568 x0 x1 (Int32.ofNat c) (Int32.ofNat r) x6 x7 x8 x9 x12 p (Int32.ofNat q) t a (Int32.ofNat X) (Int32.ofNat Y) o w h = some (.inl (a + mT (if p = 0 then decide (Y = q) else decide (X = q)) t w o (μ (17 + 7 * 0 + X) Y), Int32.ofNat Y + 1)) := by
    intro w o
    have e596 : ∀ z, z = zz_min o (μ (17 + 7 * 0 + X) Y) → f_L_law_596 x0 x1 (Int32.ofNat c) (Int32.ofNat r) x6 x7 x8 x9 x12 p (Int32.ofNat q) t a (Int32.ofNat X) (Int32.ofNat Y) w z h = some (.inl (a + mT (if p = 0 then decide (Y = q) else decide (X = q)) t w o (μ (17 + 7 * 0 + X) Y), Int32.ofNat Y + 1)) := by
      intro z hz
      subst hz
      unfold f_L_law_596
      by_cases g : p = 0
      · rw [if_pos g, if_pos g]
        by_cases g2 : Y = q
        · rw [if_pos (congrArg Int32.ofNat g2), r_672.1, decide_eq_true g2]
        · rw [if_neg (pne ⟨g2, by omega, by omega⟩), r_672.2, decide_eq_false g2]
          rfl
      · rw [if_neg g, if_neg g]
        by_cases g2 : X = q
        · rw [if_pos (congrArg Int32.ofNat g2), r_672.1, decide_eq_true g2]
        · rw [if_neg (pne ⟨g2, by omega, by omega⟩), r_672.2, decide_eq_false g2]
          rfl
    unfold f_L_law_568
    rw [J_aq J A.1 hX, J_ai J (A.1.2 X hX) hY, J_aq J A.1 hX, J_ai J (A.1.2 X hX) hY]
    by_cases g : o ≤ μ (17 + 7 * 0 + X) Y
    · rw [if_pos g]
      exact e596 _ (by rw [← lm_e, if_pos g])
    · rw [if_neg g]
      exact e596 _ (by rw [← lm_e, if_neg g])
  unfold f_L_law_524
  rw [if_neg (nle (by omega))]
  by_cases g : p = 0
  · rw [if_pos g, J_ai J A.2.1 hX, if_pos g]
    unfold f_L_law_548
    rw [if_pos g, J_ai J A.2.2.1 hY, fin, if_pos g]
  · rw [if_neg g, J_ai J A.2.2.1 hY, if_neg g]
    unfold f_L_law_548
    rw [if_neg g, J_ai J A.2.1 hX, fin, if_neg g]
def mTi (μ : zzM) (p t : Int32) (q X Y : Nat) : Int32 := if p = 0 then mT (decide (Y = q)) t (μ (79 + 0) Y) (μ (74 + 0) X) (μ (17 + 7 * 0 + X) Y) else mT (decide (X = q)) t (μ (74 + 0) X) (μ (79 + 0) Y) (μ (17 + 7 * 0 + X) Y)
theorem r_488 (J : JJ t0 base ow μ ν 1 nK H h n) {x6 x7 x8 : Nat} (A : AR ow μ x6 x7 x8 c r) (hc : c ≤ 4) (hr : r ≤ 4) {x0 x1 : Nat} (eb : ow x0 = some (zz_I 12 L xs)) (hL : L ≤ 260) {x9 p : Int32} {k m : Nat} (hk : k < 4) (hm : 1 ≤ m ∧ m < 100) : f_L_law_488 x0 x1 (Int32.ofNat c) (Int32.ofNat r) x6 x7 x8 x9 (Int32.ofNat k) p (Int32.ofNat m) (74 + Int32.ofNat k) x0 h = some (.inl (p, Int32.ofNat (zin L xs (74 + k) m), Int32.ofNat (10 + zin L xs (78 + k) 90), zfd (fun x a => zfd (fun y e => e + mTi μ p (Int32.ofNat (10 + zin L xs (78 + k) 90)) (zin L xs (74 + k) m) x y) a r) 0 c)) := by
  have hz := zin_lt (L := L) (xs := xs) (k := 74 + k) (m := m) hm.1
  unfold f_L_law_488
  rw [show (74 : Int32) + Int32.ofNat k = Int32.ofNat (74 + k) from on_a 74 k, show (78 : Int32) + Int32.ofNat k = Int32.ofNat (78 + k) from on_a 78 k, J_in J eb hL (by omega) (by omega), zb_s, show f_L_in x0 (Int32.ofNat (78 + k)) 90 h = _ from J_in J eb hL (m := 90) (by omega) (by omega), zb_s, show (10 : Int32) + Int32.ofNat (zin L xs (78 + k) 90) = Int32.ofNat (10 + zin L xs (78 + k) 90) from on_a 10 _]
  refine zfor2 c (fun x a => zfd (fun y e => e + mTi μ p (Int32.ofNat (10 + zin L xs (78 + k) 90)) (zin L xs (74 + k) m) x y) a r) 0 (fun x hx v => ?_) ?_
  · show f_L_law_515 _ _ _ _ _ _ _ _ _ _ _ _ _ _ _ = _
    unfold f_L_law_515
    rw [if_neg (nle (by omega))]
    refine zfor2 r (fun y e => e + mTi μ p (Int32.ofNat (10 + zin L xs (78 + k) 90)) (zin L xs (74 + k) m) x y) v (fun y hy w => ?_) ?_
    · show f_L_law_524 _ _ _ _ _ _ _ _ _ _ _ _ _ _ _ _ = _
      exact r_524 J A hc hr (by omega) hx hy
    · show f_L_law_524 _ _ _ _ _ _ _ _ _ _ _ _ _ _ _ _ = _
      unfold f_L_law_524
      rw [if_pos (ple (by omega))]
  · show f_L_law_515 _ _ _ _ _ _ _ _ _ _ _ _ _ _ _ = _
    unfold f_L_law_515
    rw [if_pos (ple (by omega))]
/-- what is moved in all -/
theorem moved_c {k : Nat} {t : Int32} (hn : ¬ μ 3 0 ≤ 1) (hc4 : c ≤ 4) (hC : nC μ 0 = c) (hR : nR μ 0 = r) : zz_abs (tSum μ 0 (tH μ 0) - tSum (zset μ (74 + 0) k t) 0 (tH (zset μ (74 + 0) k t) 0)) = if 0 ≤ zfd (fun x a => zfd (fun y e => e + mTi μ 1 t k x y) a r) 0 c then zfd (fun x a => zfd (fun y e => e + mTi μ 1 t k x y) a r) 0 c else -zfd (fun x a => zfd (fun y e => e + mTi μ 1 t k x y) a r) 0 c := by
  have hC' : nC (zset μ (74 + 0) k t) 0 = c := by rw [nC_z (by omega)]; exact hC
  have hR' : nR (zset μ (74 + 0) k t) 0 = r := by rw [nR_z (by omega)]; exact hR
  unfold tSum
  rw [hC', hR', hC, hR, ← abs_n]
  congr 1
  rw [sm2, sm2, sm2]
  have e : sm (fun x => sm (fun y => tH (zset μ (74 + 0) k t) 0 x y) r) c = sm (fun x => sm (fun y => mTi μ 1 t k x y) r) c + sm (fun x => sm (fun y => tH μ 0 x y) r) c := by
    rw [← sm_a]
    refine sm_e (fun x hx => ?_)
    rw [← sm_a]
    refine sm_e (fun y hy => ?_)
    unfold tH mTi mT
    rw [zset_e (o := 74 + 0) (o' := 3) (by omega), zset_e (o := 74 + 0) (o' := 17 + 7 * 0 + x) (by omega), zset_e (o := 74 + 0) (o' := 79 + 0) (by omega), if_neg hn, if_neg hn, if_neg (show ¬ (1 : Int32) = 0 by decide)]
    by_cases g : x = k
    · rw [g, zset_h, decide_eq_true rfl, if_pos rfl, min_3 t, min_3 (μ (74 + 0) k), Int32.sub_add_cancel]
    · rw [zset_e (by omega), decide_eq_false g, if_neg (by decide), Int32.zero_add]
  have e' : sm (fun x => sm (tH (zset μ (74 + 0) k t) 0 x) r) c = sm (fun x => sm (mTi μ 1 t k x) r) c + sm (fun x => sm (tH μ 0 x) r) c := e
  rw [e', Int32.sub_eq_add_neg, Int32.neg_add, Int32.add_comm, Int32.sub_add_cancel]
theorem moved_r {k : Nat} {t : Int32} (hn : ¬ μ 3 0 ≤ 1) (hc4 : c ≤ 4) (hC : nC μ 0 = c) (hR : nR μ 0 = r) : zz_abs (tSum μ 0 (tH μ 0) - tSum (zset μ (79 + 0) k t) 0 (tH (zset μ (79 + 0) k t) 0)) = if 0 ≤ zfd (fun x a => zfd (fun y e => e + mTi μ 0 t k x y) a r) 0 c then zfd (fun x a => zfd (fun y e => e + mTi μ 0 t k x y) a r) 0 c else -zfd (fun x a => zfd (fun y e => e + mTi μ 0 t k x y) a r) 0 c := by
  have hC' : nC (zset μ (79 + 0) k t) 0 = c := by rw [nC_z (by omega)]; exact hC
  have hR' : nR (zset μ (79 + 0) k t) 0 = r := by rw [nR_z (by omega)]; exact hR
  unfold tSum
  rw [hC', hR', hC, hR, ← abs_n]
  congr 1
  rw [sm2, sm2, sm2]
  have e : sm (fun x => sm (fun y => tH (zset μ (79 + 0) k t) 0 x y) r) c = sm (fun x => sm (fun y => mTi μ 0 t k x y) r) c + sm (fun x => sm (fun y => tH μ 0 x y) r) c := by
    rw [← sm_a]
    refine sm_e (fun x hx => ?_)
    rw [← sm_a]
    refine sm_e (fun y hy => ?_)
    unfold tH mTi mT
    rw [zset_e (o := 79 + 0) (o' := 3) (by omega), zset_e (o := 79 + 0) (o' := 17 + 7 * 0 + x) (by omega), zset_e (o := 79 + 0) (o' := 74 + 0) (by omega), if_neg hn, if_neg hn, if_pos rfl]
    by_cases g : y = k
    · rw [g, zset_h, decide_eq_true rfl, if_pos rfl, min_3' t, min_3' (μ (79 + 0) k), Int32.sub_add_cancel]
    · rw [zset_e (by omega), decide_eq_false g, if_neg (by decide), Int32.zero_add]
  have e' : sm (fun x => sm (tH (zset μ (79 + 0) k t) 0 x) r) c = sm (fun x => sm (mTi μ 0 t k x) r) c + sm (fun x => sm (tH μ 0 x) r) c := e
  rw [e', Int32.sub_eq_add_neg, Int32.neg_add, Int32.add_comm, Int32.sub_add_cancel]
end ZLC
