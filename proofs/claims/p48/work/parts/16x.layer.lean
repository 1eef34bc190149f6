section ZXX
/-! layer: its case -/
variable {ad : Nat → Nat} {iv : Nat → Option Nat} {lv : Nat → Bool} {t0 base : Nat} {ow : zz_H} {κ : zzM} {νc : zzN} {μ : zzM} {ν : zzN} {H : Int} {nS nB nK : Nat} {h : zz_H} {n : Nat}
theorem f_seatOf (S : S0 ad iv lv t0 base ow κ νc h n) {x : Int32} {r : Nat ⊕ Nat} (e : g_X9_seatOf lv 0 x κ νc = some r) : f_X9_seatOf base x h = some (Sum.map (fun o : Nat => some (ad o)) id r) := by
  have q := sc_X9_seatOf S.1 S.2.1 (h := h) (t0 := t0) (a0 := 0) (x1 := x) (κ := κ) (ν := νc)
  rw [S0_hc S, S.2.2.2.2.2.2.2.2.1] at q
  exact q _ e
theorem f_kind (S : S0 ad iv lv t0 base ow κ νc h n) {x : Int32} {r : Unit ⊕ Nat} (e : g_X9_needKind lv x κ νc = some r) : f_X9_needKind x h = some r := by
  have q := sc_X9_needKind S.1 S.2.1 (h := h) (t0 := t0) (x0 := x) (κ := κ) (ν := νc)
  rw [S0_hc S] at q
  exact q _ e
theorem f_next (S : S0 ad iv lv t0 base ow κ νc h n) {o : Nat} {x : Int32} {r : Unit ⊕ Nat} (e : g_X9_needNext lv o x κ νc = some r) : f_X9_needNext (some (ad o)) x h = some r := by
  have q := sc_X9_needNext S.1 S.2.1 (h := h) (t0 := t0) (x0 := o) (x1 := x) (κ := κ) (ν := νc)
  rw [S0_hc S] at q
  exact q _ e
end ZXX
