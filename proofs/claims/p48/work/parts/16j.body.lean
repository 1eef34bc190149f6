section ZXJ
/-! body: a call that makes an object -/
variable {ad : Nat → Nat} {iv : Nat → Option Nat} {lv : Nat → Bool} {t0 base : Nat} {ow : zz_H} {κ κ' : zzM} {νc νc' : zzN} {μ μ' : zzM} {ν ν' : zzN} {H : Int} {nS nB nK : Nat} {h h1 : zz_H} {n n1 : Nat}
theorem S0_root (S : S0 ad iv lv t0 base ow κ νc h n) (r0 : lv 0 = true ∧ co 0 = 10) : h base = some (.inr (10, [.ref (ad 1), .ref (ad 2), .ref (ad 3), .ref (ad 4), .ref (ad 5), .ref (ad 6)])) := by
  have e := S.2.2.1 (ad 0) 0 (S.1 0 r0.1)
  rw [S.2.2.2.2.2.2.2.2.1] at e
  exact e
theorem S0_cell (S : S0 ad iv lv t0 base ow κ νc h n) {o : Nat} (hl : lv o = true) : h (ad o) = cCell ad t0 κ νc o := S.2.2.1 _ _ (S.1 o hl)
theorem S0_lt (S : S0 ad iv lv t0 base ow κ νc h n) {o : Nat} (hl : lv o = true) : ad o < n ∧ ad o ≠ t0 := by
  have := S.2.2.2.2.2.2.1 _ _ (S.1 o hl)
  exact ⟨this.2.2, this.2.1⟩
theorem S0_ne (S : S0 ad iv lv t0 base ow κ νc h n) {o p : Nat} (hl : lv o = true) (hp : lv p = true) (hne : o ≠ p) : ad o ≠ ad p := fun q => by
  have e1 := S.1 o hl
  have e2 := S.1 p hp
  rw [q, e2] at e1
  cases e1
  exact hne rfl
end ZXJ
