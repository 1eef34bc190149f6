section ZVA
/-! bounds; what cells sink by themselves, on both sides -/
variable {lv : Nat → Bool} {κ : zzM} {νc : zzN} {μ : zzM} {ν : zzN}
theorem add64 (a b : Int64) (h1 : -2 ^ 63 ≤ a.toInt + b.toInt) (h2 : a.toInt + b.toInt < 2 ^ 63) : (a + b).toInt = a.toInt + b.toInt := by
  rw [Int64.toInt_add, Int.bmod_eq_of_le_mul_two] <;> omega
theorem mul64 (a b : Int64) (h1 : -2 ^ 63 ≤ a.toInt * b.toInt) (h2 : a.toInt * b.toInt < 2 ^ 63) : (a * b).toInt = a.toInt * b.toInt := by
  rw [Int64.toInt_mul, Int.bmod_eq_of_le_mul_two] <;> omega
theorem div64 (a b : Int64) (ha : 0 ≤ a.toInt) (hb : 0 < b.toInt) : (a / b).toInt = a.toInt / b.toInt := by
  rw [Int64.toInt_div_of_ne_right a b (fun q => by
    rw [q] at hb
    have h3 : (-1 : Int64).toInt = -1 := rfl
    omega), Int.tdiv_eq_ediv_of_nonneg ha]
theorem div_I (a b : Int32) (ha : 0 ≤ a.toInt) (hb : 0 < b.toInt) : (a / b).toInt = a.toInt / b.toInt := by
  rw [Int32.toInt_div_of_ne_right a b (fun q => by
    rw [q] at hb
    have h3 : (-1 : Int32).toInt = -1 := rfl
    omega), Int.tdiv_eq_ediv_of_nonneg ha]
/-- the numbers of a seat -/
def Vb (μ : zzM) (ν : zzN) (H : Int) (s : Nat) : Prop :=
  (¬ μ 3 s ≤ 1 → ∀ x y, x < 6 → y < 6 → (0 ≤ (μ (17 + 7 * s + x) y).toInt ∧ (μ (17 + 7 * s + x) y).toInt ≤ 99) ∧ (1 ≤ (μ (46 + 7 * s + x) y).toInt ∧ (μ (46 + 7 * s + x) y).toInt ≤ 9)) ∧
  (¬ μ 3 s ≤ 1 → ∀ k, k < 6 → (0 ≤ (μ (74 + s) k).toInt ∧ (μ (74 + s) k).toInt ≤ 99) ∧ (0 ≤ (μ (79 + s) k).toInt ∧ (μ (79 + s) k).toInt ≤ 99)) ∧
  (¬ μ 3 s ≤ 0 → 1 ≤ (μ 14 s).toInt ∧ (μ 14 s).toInt ≤ 9) ∧
  (∀ x y, x < 6 → y < 6 → 0 ≤ (μ (111 + 7 * s + x) y).toInt ∧ (μ (111 + 7 * s + x) y).toInt ≤ 30) ∧
  (∀ l, l < nL μ s → (μ (85 + s) l = 104 ∨ μ (85 + s) l = 102 ∨ μ (85 + s) l = 100) ∧ (0 ≤ (μ (90 + s) l).toInt ∧ (μ (90 + s) l).toInt ≤ 60) ∧ (1 ≤ (μ (95 + s) l).toInt ∧ (μ (95 + s) l).toInt ≤ 9) ∧ (0 ≤ (ν (100 + s) l).toInt ∧ (ν (100 + s) l).toInt ≤ H) ∧ 0 ≤ (μ (105 + s) l).toInt)
theorem tBy_I (k : Int32) : 100 ≤ (tBy k).toInt ∧ (tBy k).toInt ≤ 1000 := by
  unfold tBy
  split
  · decide
  · split <;> decide
theorem tDen_I {s l : Nat} (hf : 1 ≤ (μ (95 + s) l).toInt ∧ (μ (95 + s) l).toInt ≤ 9) (hh : 0 ≤ (ν (100 + s) l).toInt ∧ (ν (100 + s) l).toInt ≤ 100000000) : (tDen μ ν s l).toInt = 2 * ((ν (100 + s) l).toInt + (tBy (μ (85 + s) l)).toInt * (μ (95 + s) l).toInt) ∧ 2 * (ν (100 + s) l).toInt + 200 ≤ (tDen μ ν s l).toInt := by
  have hb := tBy_I (μ (85 + s) l)
  have h1 : (tBy (μ (85 + s) l)).toInt * (μ (95 + s) l).toInt ≤ 1000 * 9 := Int.mul_le_mul hb.2 hf.2 (by omega) (by omega)
  have h2 : 100 * 1 ≤ (tBy (μ (85 + s) l)).toInt * (μ (95 + s) l).toInt := Int.mul_le_mul hb.1 hf.1 (by omega) (by omega)
  have e1 : (tBy (μ (85 + s) l) * (μ (95 + s) l).toInt64).toInt = (tBy (μ (85 + s) l)).toInt * (μ (95 + s) l).toInt := by
    rw [mul64] <;> rw [Int32.toInt_toInt64] <;> omega
  have e2 : (ν (100 + s) l + tBy (μ (85 + s) l) * (μ (95 + s) l).toInt64).toInt = (ν (100 + s) l).toInt + (tBy (μ (85 + s) l)).toInt * (μ (95 + s) l).toInt := by
    rw [add64] <;> rw [e1] <;> omega
  have e3 : (2 : Int64).toInt = 2 := rfl
  have e4 : (tDen μ ν s l).toInt = 2 * ((ν (100 + s) l).toInt + (tBy (μ (85 + s) l)).toInt * (μ (95 + s) l).toInt) := by
    unfold tDen
    rw [mul64] <;> rw [e2, e3] <;> omega
  exact ⟨e4, by omega⟩
theorem Vb_Dn {H : Int} {s : Nat} (h : Vb μ ν H s) (hH : H ≤ 100000000) : Dn μ ν s := fun l hl q => by
  obtain ⟨-, -, h3, h4, -⟩ := h.2.2.2.2 l hl
  have := (tDen_I (μ := μ) (ν := ν) (s := s) (l := l) h3 ⟨h4.1, by omega⟩).2
  rw [q] at this
  have h0 : (0 : Int64).toInt = 0 := rfl
  omega
theorem tTh_I {H : Int} {s l : Nat} (h : Vb μ ν H s) (hH : H ≤ 100000000) (hl : l < nL μ s) : 0 ≤ (tTh μ ν s l).toInt ∧ (tTh μ ν s l).toInt ≤ 60 := by
  obtain ⟨-, h2, h3, h4, -⟩ := h.2.2.2.2 l hl
  obtain ⟨-, d2⟩ := tDen_I (μ := μ) (ν := ν) (s := s) (l := l) h3 ⟨h4.1, by omega⟩
  have m1 : 0 * 0 ≤ (μ (90 + s) l).toInt * (ν (100 + s) l).toInt := Int.mul_le_mul h2.1 h4.1 (by omega) (by omega)
  have m2 : (μ (90 + s) l).toInt * (ν (100 + s) l).toInt ≤ 60 * 100000000 := Int.mul_le_mul h2.2 (by omega) (by omega) (by omega)
  have e1 : ((μ (90 + s) l).toInt64 * ν (100 + s) l).toInt = (μ (90 + s) l).toInt * (ν (100 + s) l).toInt := by
    rw [mul64] <;> rw [Int32.toInt_toInt64] <;> omega
  have e2 := div64 ((μ (90 + s) l).toInt64 * ν (100 + s) l) (tDen μ ν s l) (by rw [e1]; omega) (by omega)
  rw [e1] at e2
  have q1 : 0 ≤ (μ (90 + s) l).toInt * (ν (100 + s) l).toInt / (tDen μ ν s l).toInt := Int.ediv_nonneg (by omega) (by omega)
  have q2 : (μ (90 + s) l).toInt * (ν (100 + s) l).toInt / (tDen μ ν s l).toInt ≤ (μ (90 + s) l).toInt := by
    refine Int.ediv_le_of_le_mul (by omega) ?_
    exact Int.mul_le_mul_of_nonneg_left (by omega) h2.1
  have e3 : (((μ (90 + s) l).toInt64 * ν (100 + s) l) / tDen μ ν s l).toInt32.toInt = (μ (90 + s) l).toInt * (ν (100 + s) l).toInt / (tDen μ ν s l).toInt := by
    rw [Int64.toInt_toInt32, e2, Int.bmod_eq_of_le_mul_two] <;> omega
  unfold tTh
  rw [sub_I] <;> rw [e3] <;> omega
theorem tH_I {H : Int} {s x y : Nat} (h : Vb μ ν H s) (hx : x < 6) (hy : y < 6) : 0 ≤ (tH μ s x y).toInt ∧ (tH μ s x y).toInt ≤ 99 := by
  unfold tH
  by_cases g : μ 3 s ≤ 1
  · rw [if_pos g]; decide
  · rw [if_neg g, min_I, min_I]
    have h1 := (h.1 g x y hx hy).1
    have h2 := (h.2.1 g x hx).1
    have h3 := (h.2.1 g y hy).2
    omega
/-- a sum of small numbers -/
theorem sum_I {f : Nat → Int32} {a : Int32} {M : Int} (hM : 0 ≤ M ∧ M ≤ 1000) (ha : 0 ≤ a.toInt ∧ a.toInt ≤ 1000) : ∀ n : Nat, n ≤ 100 → (∀ l, l < n → 0 ≤ (f l).toInt ∧ (f l).toInt ≤ M) → 0 ≤ (zfd (fun l b => b + f l) a n).toInt ∧ (zfd (fun l b => b + f l) a n).toInt ≤ a.toInt + M * n
  | 0, _, _ => by
    show 0 ≤ a.toInt ∧ a.toInt ≤ _
    omega
  | n + 1, hn, hf => by
    have h1 := sum_I hM ha n (by omega) (fun l hl => hf l (by omega))
    have h2 := hf n (by omega)
    have e : zfd (fun l b => b + f l) a (n + 1) = zfd (fun l b => b + f l) a n + f n := rfl
    have h3 : M * n ≤ 1000 * 100 := Int.mul_le_mul hM.2 (by omega) (by omega) (by omega)
    have h4 : M * ((n + 1 : Nat) : Int) = M * n + M := by rw [Int.natCast_add, Int.mul_add]; omega
    rw [e, h4, add_I] <;> omega
theorem tOwn_I {H : Int} {b s x y : Nat} (hB : Bd μ s) (h : Vb μ ν H s) (hH : H ≤ 100000000) (hm : 0 ≤ (μ (149 + 7 * b + x) y).toInt ∧ (μ (149 + 7 * b + x) y).toInt ≤ 99) (hx : x < 6) (hy : y < 6) (hn : ¬ μ 3 s ≤ 1) : 0 ≤ (tOwn μ ν b s x y).toInt ∧ (tOwn μ ν b s x y).toInt ≤ 400 := by
  obtain ⟨hs, -, -, -, hl, hl4⟩ := hB
  have t1 := tH_I h hx hy
  have t2 := (h.1 hn x y hx hy).2
  have t3 := h.2.2.1 (fun q => hn (Int32.le_trans q (by decide)))
  have i10 : (10 : Int32).toInt = 10 := rfl
  have e1 : (10 * μ (149 + 7 * b + x) y : Int32).toInt = 10 * (μ (149 + 7 * b + x) y).toInt := by
    rw [mul_I] <;> rw [i10] <;> omega
  have e2 : (μ (46 + 7 * s + x) y + μ 14 s).toInt = (μ (46 + 7 * s + x) y).toInt + (μ 14 s).toInt := by
    rw [add_I] <;> omega
  have e3 := div_I (10 * μ (149 + 7 * b + x) y) (μ (46 + 7 * s + x) y + μ 14 s) (by rw [e1]; omega) (by rw [e2]; omega)
  have e4 : 0 ≤ (10 * μ (149 + 7 * b + x) y / (μ (46 + 7 * s + x) y + μ 14 s)).toInt := by
    rw [e3]
    exact Int.ediv_nonneg (by rw [e1]; omega) (by rw [e2]; omega)
  have hb : 0 ≤ (zz_min (tH μ s x y) ((10 * μ (149 + 7 * b + x) y) / (μ (46 + 7 * s + x) y + μ 14 s))).toInt ∧ (zz_min (tH μ s x y) ((10 * μ (149 + 7 * b + x) y) / (μ (46 + 7 * s + x) y + μ 14 s))).toInt ≤ 99 := by
    rw [min_I]
    omega
  unfold tOwn
  have := sum_I (f := fun l => zz_min (tTh μ ν s l) ((μ (149 + 7 * b + x) y * tTh μ ν s l) / (20 * μ (95 + s) l))) (a := zz_min (tH μ s x y) ((10 * μ (149 + 7 * b + x) y) / (μ (46 + 7 * s + x) y + μ 14 s))) (M := 60) (by omega) (by omega) (nL μ s) (by omega) (fun l hl2 => by
    have g1 := tTh_I h hH hl2
    obtain ⟨-, -, g3, -⟩ := h.2.2.2.2 l hl2
    have i20 : (20 : Int32).toInt = 20 := rfl
    have m1 : 0 * 0 ≤ (μ (149 + 7 * b + x) y).toInt * (tTh μ ν s l).toInt := Int.mul_le_mul hm.1 g1.1 (by omega) (by omega)
    have m2 : (μ (149 + 7 * b + x) y).toInt * (tTh μ ν s l).toInt ≤ 99 * 60 := Int.mul_le_mul hm.2 g1.2 (by omega) (by omega)
    have f1 : (μ (149 + 7 * b + x) y * tTh μ ν s l).toInt = (μ (149 + 7 * b + x) y).toInt * (tTh μ ν s l).toInt := by
      rw [mul_I] <;> omega
    have f2 : (20 * μ (95 + s) l : Int32).toInt = 20 * (μ (95 + s) l).toInt := by
      rw [mul_I] <;> rw [i20] <;> omega
    have f3 := div_I (μ (149 + 7 * b + x) y * tTh μ ν s l) (20 * μ (95 + s) l) (by rw [f1]; omega) (by rw [f2]; omega)
    have f4 : 0 ≤ ((μ (149 + 7 * b + x) y * tTh μ ν s l) / (20 * μ (95 + s) l)).toInt := by
      rw [f3]
      exact Int.ediv_nonneg (by rw [f1]; omega) (by rw [f2]; omega)
    show 0 ≤ (zz_min _ _).toInt ∧ (zz_min _ _).toInt ≤ 60
    rw [min_I]
    omega)
  omega
theorem Vb_Fn {H : Int} {s : Nat} (h : Vb μ ν H s) : Fn μ s := fun l hl q => by
  obtain ⟨-, -, h3, -⟩ := h.2.2.2.2 l hl
  have i20 : (20 : Int32).toInt = 20 := rfl
  have f2 : (20 * μ (95 + s) l : Int32).toInt = 20 * (μ (95 + s) l).toInt := by
    rw [mul_I] <;> rw [i20] <;> omega
  rw [q, i0] at f2
  omega
theorem Vb_Fm {H : Int} {s : Nat} (hB : Bd μ s) (h : Vb μ ν H s) (hn : ¬ μ 3 s ≤ 1) : Fm μ s := fun x hx y hy q => by
  obtain ⟨hs, ⟨hc, hc1, hc6⟩, ⟨hr, hr1, hr6⟩, -⟩ := hB
  have t2 := (h.1 hn x y (by omega) (by omega)).2
  have t3 := h.2.2.1 (fun q => hn (Int32.le_trans q (by decide)))
  have e2 : (μ (46 + 7 * s + x) y + μ 14 s).toInt = (μ (46 + 7 * s + x) y).toInt + (μ 14 s).toInt := by
    rw [add_I] <;> omega
  rw [q, i0] at e2
  omega
theorem zfd_I {f : Nat → Int32 → Int32} {F : Nat → Int → Int} {a : Int32} : ∀ n : Nat, (∀ i, i < n → ∀ v, (f i v).toInt = F i v.toInt) → (zfd f a n).toInt = zfd F a.toInt n
  | 0, _ => rfl
  | n + 1, h => by
    show (f n (zfd f a n)).toInt = F n (zfd F a.toInt n)
    rw [h n (by omega), zfd_I n (fun i hi => h i (by omega))]
theorem abs_I (a x : Nat) (ha : a < 1000) (hx : x < 1000) : (zz_abs (Int32.ofNat a - Int32.ofNat x)).toInt = dst a x := by
  have h1 : (Int32.ofNat a - Int32.ofNat x).toInt = (a : Int) - x := by
    rw [sub_I] <;> rw [on_i _ (by omega), on_i _ (by omega)] <;> omega
  unfold dst
  show (if 0 ≤ Int32.ofNat a - Int32.ofNat x then Int32.ofNat a - Int32.ofNat x else 0 - (Int32.ofNat a - Int32.ofNat x)).toInt = _
  by_cases g : (0 : Int32) ≤ Int32.ofNat a - Int32.ofNat x
  · rw [if_pos g, h1]
    rw [Int32.le_iff_toInt_le, h1, i0] at g
    split <;> omega
  · rw [if_neg g, sub_I] <;> rw [h1, i0]
    · rw [Int32.le_iff_toInt_le, h1, i0] at g
      split <;> omega
    · omega
    · omega
theorem dst_b {a x : Nat} (ha : a < 6) (hx : x < 6) : 0 ≤ dst a x ∧ dst a x ≤ 5 := by
  unfold dst
  split <;> omega
theorem tSink_I {b s x y : Nat} (hB : Bd μ s) (how : ∀ x y, x < nC μ s → y < nR μ s → 0 ≤ (tOwn μ ν b s x y).toInt ∧ (tOwn μ ν b s x y).toInt ≤ 400) (hx : x < 6) (hy : y < 6) : (tSink μ ν b s x y).toInt = zM (fun a b' => (tOwn μ ν b s a b').toInt) (nC μ s) (nR μ s) x y := by
  obtain ⟨hs, ⟨hc, hc1, hc6⟩, ⟨hr, hr1, hr6⟩, -⟩ := hB
  unfold tSink zM zmx
  refine zfd_I (a := 0) _ (fun a ha v => ?_)
  refine zfd_I (a := v) _ (fun d hd w => ?_)
  rw [max_I]
  have ho := how a d ha hd
  have d1 := dst_b (a := a) (x := x) (by omega) hx
  have d2 := dst_b (a := d) (x := y) (by omega) hy
  have a1 := abs_I a x (by omega) (by omega)
  have a2 := abs_I d y (by omega) (by omega)
  have e1 : (zz_abs (Int32.ofNat a - Int32.ofNat x) + zz_abs (Int32.ofNat d - Int32.ofNat y)).toInt = dst a x + dst d y := by
    rw [add_I] <;> rw [a1, a2] <;> omega
  have e2 : (8 * (zz_abs (Int32.ofNat a - Int32.ofNat x) + zz_abs (Int32.ofNat d - Int32.ofNat y))).toInt = 8 * (dst a x + dst d y) := by
    rw [mul_I] <;> rw [e1, i8] <;> omega
  have e3 : (tOwn μ ν b s a d - 8 * (zz_abs (Int32.ofNat a - Int32.ofNat x) + zz_abs (Int32.ofNat d - Int32.ofNat y))).toInt = (tOwn μ ν b s a d).toInt - 8 * (dst a x + dst d y) := by
    rw [sub_I] <;> rw [e2] <;> omega
  rw [e3]
end ZVA
