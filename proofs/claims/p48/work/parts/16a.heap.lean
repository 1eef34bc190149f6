section ZXA
/-! the heap that holds the class's cells and the law's own: what stays from call to call -/
variable {ad : Nat → Nat} {iv : Nat → Option Nat} {lv : Nat → Bool} {t0 base : Nat} {ow : zz_H} {κ κ' : zzM} {νc νc' : zzN} {μ μ' : zzM} {ν ν' : zzN} {H H' : Int} {nS nB nK : Nat} {h : zz_H} {n n' : Nat}
def S0 (ad : Nat → Nat) (iv : Nat → Option Nat) (lv : Nat → Bool) (t0 base : Nat) (ow : zz_H) (κ : zzM) (νc : zzN) (h : zz_H) (n : Nat) : Prop :=
  (∀ o, lv o = true → iv (ad o) = some o) ∧ (∀ q o, iv q = some o → ad o = q) ∧ (∀ q o, iv q = some o → h q = cCell ad t0 κ νc o) ∧ (∀ q x, ow q = some x → h q = some x) ∧ (∀ q x, ow q = some x → q ≠ t0 ∧ q < n) ∧ True ∧ (∀ q o, iv q = some o → ow q = none ∧ q ≠ t0 ∧ q < n) ∧ (t0 < base ∧ base < n) ∧ ad 0 = base ∧ h t0 = some (zz_Q 11 0 (fun _ => none)) ∧ ∀ q o, iv q = some o → lv o = true
theorem S0_hc (S : S0 ad iv lv t0 base ow κ νc h n) : zc h ad iv t0 κ νc = h := by
  funext q
  unfold zc
  cases e : iv q with
  | none => rfl
  | some o => exact (S.2.2.1 q o e).symm
theorem S0_c (S : S0 ad iv lv t0 base ow κ νc h n) (κ' : zzM) (νc' : zzN) : S0 ad iv lv t0 base ow κ' νc' (zc h ad iv t0 κ' νc') n := by
  obtain ⟨s1, s2, s3, s4, s5, s6, s7, s8, s9, s10⟩ := S
  have out : ∀ q, (∀ o, iv q ≠ some o) → zc h ad iv t0 κ' νc' q = h q := fun q hq => by
    unfold zc
    cases e : iv q with
    | none => rfl
    | some o => exact absurd e (hq o)
  refine ⟨s1, s2, fun q o e => ?_, fun q x e => ?_, s5, s6, s7, s8, s9, ?_⟩
  · unfold zc
    rw [e]
  · rw [out _ (fun o' e' => by rw [(s7 _ _ e').1] at e; cases e)]
    exact s4 q x e
  · rw [out _ (fun o' e => (s7 _ _ e).2.1 rfl)]
    exact s10
theorem S0_n (S : S0 ad iv lv t0 base ow κ νc h n) (hn : n ≤ n') : S0 ad iv lv t0 base ow κ νc h n' := by
  obtain ⟨s1, s2, s3, s4, s5, s6, s7, s8, s9, s10⟩ := S
  exact ⟨s1, s2, s3, s4, fun q x e => ⟨(s5 q x e).1, Nat.lt_of_lt_of_le (s5 q x e).2 hn⟩, s6, fun q o e => ⟨(s7 q o e).1, (s7 q o e).2.1, Nat.lt_of_lt_of_le (s7 q o e).2.2 hn⟩, ⟨s8.1, Nat.lt_of_lt_of_le s8.2 hn⟩, s9, s10⟩
theorem S0_ax (S : S0 ad iv lv t0 base ow κ νc h n) (r0 : lv 0 = true ∧ co 0 = 10) {α : Type} {K : Nat → Option α} : (∃ fs, h base = some (.inr (10, fs))) ∧ zz_ob h (some base) 10 K = K base := by
  have e := S.2.2.1 (ad 0) 0 (S.1 0 r0.1)
  rw [S.2.2.2.2.2.2.2.2.1] at e
  unfold cCell at e
  rw [if_pos (by decide), if_neg (by decide)] at e
  refine ⟨⟨_, e⟩, ?_⟩
  unfold zz_ob
  simp only [e]
  exact if_pos rfl
/-- the law writes into a cell of its own -/
theorem S0_wr (S : S0 ad iv lv t0 base ow κ νc h n) {a : Nat} {x y : zz_C} (ha : ow a = some x) : S0 ad iv lv t0 base (zz_u ow a y) κ νc (zz_u h a y) n := by
  obtain ⟨s1, s2, s3, s4, s5, s6, s7, s8, s9, s10, s11⟩ := S
  have hiv : ∀ q o, iv q = some o → q ≠ a := fun q o e h => by rw [h] at e; rw [(s7 _ _ e).1] at ha; cases ha
  refine ⟨s1, s2, fun q o e => ?_, fun q z e => ?_, fun q z e => ?_, s6, fun q o e => ⟨?_, (s7 q o e).2⟩, s8, s9, ?_, s11⟩
  · rw [zz_un (hiv q o e)]
    exact s3 q o e
  · by_cases g : q = a
    · subst g
      rw [zz_us] at e ⊢
      exact e
    · rw [zz_un g] at e ⊢
      exact s4 q z e
  · by_cases g : q = a
    · subst g
      exact s5 _ _ ha
    · rw [zz_un g] at e
      exact s5 q z e
  · rw [zz_un (hiv q o e)]
    exact (s7 q o e).1
  · rw [zz_un (fun g => (s5 _ _ ha).1 g.symm)]
    exact s10
/-- .. makes new ones -/
theorem S0_mk (S : S0 ad iv lv t0 base ow κ νc h n) {n' : Nat} (hn : n ≤ n') {ow' h' : zz_H} (e1 : ∀ q, q < n → ow' q = ow q ∧ h' q = h q) (e2 : ∀ q x, ow' q = some x → n ≤ q → q < n' ∧ h' q = some x) : S0 ad iv lv t0 base ow' κ νc h' n' := by
  obtain ⟨s1, s2, s3, s4, s5, s6, s7, s8, s9, s10, s11⟩ := S
  refine ⟨s1, s2, fun q o e => ?_, fun q x e => ?_, fun q x e => ?_, s6, fun q o e => ?_, ⟨s8.1, by omega⟩, s9, ?_, s11⟩
  · rw [(e1 q (s7 q o e).2.2).2]
    exact s3 q o e
  · by_cases g : q < n
    · rw [(e1 q g).1] at e
      rw [(e1 q g).2]
      exact s4 q x e
    · exact (e2 q x e (by omega)).2
  · by_cases g : q < n
    · rw [(e1 q g).1] at e
      exact ⟨(s5 q x e).1, by omega⟩
    · exact ⟨by omega, (e2 q x e (by omega)).1⟩
  · refine ⟨?_, (s7 q o e).2.1, Nat.lt_of_lt_of_le (s7 q o e).2.2 hn⟩
    rw [(e1 q (s7 q o e).2.2).1]
    exact (s7 q o e).1
  · rw [(e1 t0 (by omega)).2]
    exact s10
/-- a seat's ids are live only when the seat is there -/
def LV (lv : Nat → Bool) (nS : Nat) : Prop := ∀ s, nS ≤ s → s < 4 → ∀ o, FK (100 * (s + 1)) o → lv o = false
theorem up_s {g : Option (Int32 ⊕ Nat)} {o : Int32 ⊕ Nat} {κ1 : zzM} {ν1 : zzN} (e : up κ νc g = some (o, κ1, ν1)) : g = some o ∧ κ1 = κ ∧ ν1 = νc := by
  unfold up at e
  cases g with
  | none => cases e
  | some a =>
    cases e
    exact ⟨rfl, rfl, rfl⟩
end ZXA
