section ZXR
/-! seat: the cells by class -/
variable {ad : Nat → Nat} {iv : Nat → Option Nat} {lv : Nat → Bool} {t0 base : Nat} {ow : zz_H} {κ : zzM} {νc : zzN} {μ : zzM} {ν : zzN} {H : Int} {nS nB nK : Nat} {h : zz_H} {n : Nat}
theorem s8_cell {o : Nat} (ho : co o = 8) : cCell ad t0 κ νc o = some (.inr (8, [.ref (ad (o + 1)), .ref (ad (o + 4)), .ref (ad (o + 5)), .ref (ad (o + 7)), .ref (ad (o + 8)), .int (κ o 5)])) := by
  have := co_lt (o := o) (by rw [ho]; decide)
  unfold cCell
  rw [if_pos (by omega), ho, if_neg (by decide)]
  rfl
theorem s9_cell {o : Nat} (ho : co o = 9) : cCell ad t0 κ νc o = some (.inr (9, [.ref (ad (o + 1000)), .int (κ o 1), .int (κ o 2)])) := by
  have := co_lt (o := o) (by rw [ho]; decide)
  unfold cCell
  rw [if_pos (by omega), ho, if_neg (by decide)]
  rfl
theorem s3_cell {o : Nat} (ho : co o = 3) : cCell ad t0 κ νc o = some (.inr (3, [.ref (ad (o + 1))])) := by
  have := co_lt (o := o) (by rw [ho]; decide)
  unfold cCell
  rw [if_pos (by omega), ho, if_neg (by decide)]
  rfl
theorem s2_cell {o : Nat} (ho : co o = 2) : cCell ad t0 κ νc o = some (.inr (2, [.ref (ad (o + 1000)), .int (κ o 1), .int (κ o 2), va_rf (Option.map ad (clothv (κ o 3))), .int (κ o 4), .int (κ o 5), .int (κ o 6)])) := by
  have := co_lt (o := o) (by rw [ho]; decide)
  unfold cCell
  rw [if_pos (by omega), ho, if_neg (by decide)]
  rfl
theorem s4_cell {o : Nat} (ho : co o = 4) : cCell ad t0 κ νc o = some (.inr (4, [.int (κ o 0), .int (κ o 1), .int (κ o 2), .ref (ad (o + 1)), .ref (ad (o + 2)), .ref (ad (o + 1000)), .ref (ad (o + 2000))])) := by
  have := co_lt (o := o) (by rw [ho]; decide)
  unfold cCell
  rw [if_pos (by omega), ho, if_neg (by decide)]
  rfl
theorem s7_cell {o : Nat} (ho : co o = 7) : cCell ad t0 κ νc o = some (.inr (7, [.int (κ o 0), .int (κ o 1), .int (κ o 2), .int (κ o 3), .long (νc o 4), .int (κ o 5)])) := by
  have := co_lt (o := o) (by rw [ho]; decide)
  unfold cCell
  rw [if_pos (by omega), ho, if_neg (by decide)]
  rfl
theorem s6_cell {o : Nat} (ho : co o = 6) : cCell ad t0 κ νc o = some (.inr (6, [.int (κ o 0), .int (κ o 1)])) := by
  have := co_lt (o := o) (by rw [ho]; decide)
  unfold cCell
  rw [if_pos (by omega), ho, if_neg (by decide)]
  rfl
def nwS (κ : zzM) (b x : Nat) : Bool := decide ((100 * (b + 1) ≤ x ∧ soff (x - 100 * (b + 1)) < 16) ∨ (x = 1001 ∧ κ 1 3 = 0))
def adS (n b x : Nat) : Nat := if x = 1001 then n + 16 else n + soff (x - 100 * (b + 1))
def ivS (κ : zzM) (n b q : Nat) : Option Nat := if n ≤ q ∧ q < n + 16 then some (100 * (b + 1) + sid (q - n)) else if q = n + 16 ∧ κ 1 3 = 0 then some 1001 else none
def sval (c r : Int32) (d i : Nat) : Int32 := if d = 1 then (if i = 0 then c else if i = 1 then r else 0) else if d = 0 then (if i = 5 then 20 else 0) else if d = 1001 ∨ d = 2001 then tie99 i else 0
def kS (κ : zzM) (c r : Int32) (b : Nat) : zzM := fun o => if 100 * (b + 1) ≤ o ∧ soff (o - 100 * (b + 1)) < 16 then sval c r (o - 100 * (b + 1)) else kLi κ 1 b o
theorem kS_d {c r : Int32} {b o d : Nat} (ho : o = 100 * (b + 1) + d) (hd : soff d < 16) : kS κ c r b o = sval c r d := by
  subst ho
  unfold kS
  rw [Nat.add_sub_cancel_left, if_pos ⟨Nat.le_add_right _ _, hd⟩]
theorem adS_d {b o d : Nat} {ad : Nat → Nat} (hb : b < 4) (ho : o = 100 * (b + 1) + d) (hd : soff d < 16) : adN (nwS κ b) (adS n b) ad o = n + soff d := by
  have h1 : o ≠ 1001 := fun q => by
    have e : d = 901 - 100 * b := by omega
    rcases (show b = 0 ∨ b = 1 ∨ b = 2 ∨ b = 3 by omega) with rfl | rfl | rfl | rfl <;> (subst e; exact absurd hd (by decide))
  subst ho
  rw [adN_t (decide_eq_true (Or.inl ⟨Nat.le_add_right _ _, by rw [Nat.add_sub_cancel_left]; exact hd⟩))]
  unfold adS
  rw [if_neg h1, Nat.add_sub_cancel_left]
end ZXR
