section ZXF
/-! new objects: how the addresses grow -/
variable {ad ad' : Nat → Nat} {iv : Nat → Option Nat} {lv lv' : Nat → Bool} {t0 base : Nat} {ow : zz_H} {κ κ' : zzM} {νc νc' : zzN} {μ : zzM} {ν : zzN} {H : Int} {nS nB nK : Nat} {h h' : zz_H} {n n' : Nat}
def adN (nw : Nat → Bool) (ad2 ad : Nat → Nat) : Nat → Nat := fun o => if nw o = true then ad2 o else ad o
def ivN (n : Nat) (nw : Nat → Bool) (iv2 iv : Nat → Option Nat) : Nat → Option Nat := fun q => if n ≤ q then iv2 q else match iv q with
  | some o => if nw o = true then none else some o
  | none => none
def lvN (nw lv : Nat → Bool) : Nat → Bool := fun o => lv o || nw o
theorem S0_new {nw : Nat → Bool} {ad2 : Nat → Nat} {iv2 : Nat → Option Nat} (S : S0 ad iv lv t0 base ow κ νc h n) (hn : n ≤ n') (h1 : ∀ o, nw o = true → iv2 (ad2 o) = some o ∧ n ≤ ad2 o) (h2 : ∀ q o, iv2 q = some o → n ≤ q → nw o = true ∧ ad2 o = q ∧ q < n') (out : ∀ q, q < n → (∀ o, iv q ≠ some o) → h' q = h q) (new : ∀ o, nw o = true → h' (ad2 o) = cCell (adN nw ad2 ad) t0 κ' νc' o) (old : ∀ o, iv (ad o) = some o → nw o = false → h' (ad o) = cCell (adN nw ad2 ad) t0 κ' νc' o) (h0 : nw 0 = false) : S0 (adN nw ad2 ad) (ivN n nw iv2 iv) (lvN nw lv) t0 base ow κ' νc' h' n' := by
  obtain ⟨s1, s2, s3, s4, s5, s6, s7, s8, s9, s10⟩ := S
  have iv_c : ∀ q o, ivN n nw iv2 iv q = some o → (n ≤ q ∧ iv2 q = some o) ∨ (q < n ∧ iv q = some o ∧ nw o = false) := fun q o e => by
    unfold ivN at e
    by_cases g1 : n ≤ q
    · rw [if_pos g1] at e
      exact Or.inl ⟨g1, e⟩
    · rw [if_neg g1] at e
      cases e2 : iv q with
      | none => rw [e2] at e; cases e
      | some o2 =>
        rw [e2] at e
        dsimp only at e
        by_cases g2 : nw o2 = true
        · rw [if_pos g2] at e; cases e
        · rw [if_neg g2] at e
          cases e
          exact Or.inr ⟨by omega, rfl, by simpa using g2⟩
  refine ⟨fun o e => ?_, fun q o e => ?_, fun q o e => ?_, fun q x e => ?_, fun q x e => ⟨(s5 q x e).1, Nat.lt_of_lt_of_le (s5 q x e).2 hn⟩, trivial, fun q o e => ?_, ⟨s8.1, by omega⟩, ?_, ?_⟩
  · unfold adN ivN
    by_cases g1 : nw o = true
    · obtain ⟨a1, a2⟩ := h1 o g1
      rw [if_pos g1, if_pos a2]
      exact a1
    · have hlv : lv o = true := by
        unfold lvN at e
        simpa [g1] using e
      have e2 := s1 o hlv
      have := s7 _ _ e2
      rw [if_neg g1, if_neg (by omega), e2]
      exact if_neg g1
  · unfold adN
    rcases iv_c q o e with ⟨a1, a2⟩ | ⟨a1, a2, a3⟩
    · obtain ⟨b1, b2, -⟩ := h2 q o a2 a1
      rw [if_pos b1]
      exact b2
    · rw [if_neg (by rw [a3]; decide)]
      exact s2 q o a2
  · rcases iv_c q o e with ⟨a1, a2⟩ | ⟨a1, a2, a3⟩
    · obtain ⟨b1, b2, -⟩ := h2 q o a2 a1
      rw [← b2]
      exact new o b1
    · have e2 := s2 q o a2
      have := old o (by rw [e2]; exact a2) a3
      rw [e2] at this
      exact this
  · rw [out _ (s5 q x e).2 (fun o' e' => by rw [(s7 _ _ e').1] at e; cases e)]
    exact s4 q x e
  · rcases iv_c q o e with ⟨a1, a2⟩ | ⟨a1, a2, a3⟩
    · obtain ⟨b1, b2, b3⟩ := h2 q o a2 a1
      refine ⟨?_, by omega, b3⟩
      cases g : ow q with
      | none => rfl
      | some x => have := s5 q x g; omega
    · have := s7 q o a2
      exact ⟨this.1, this.2.1, by omega⟩
  · unfold adN
    rw [if_neg (by rw [h0]; decide)]
    exact s9
  · rw [out _ (by omega) (fun o' e => (s7 _ _ e).2.1 rfl)]
    refine ⟨s10.1, fun q o e => ?_⟩
    unfold lvN
    rcases iv_c q o e with ⟨a1, a2⟩ | ⟨a1, a2, a3⟩
    · rw [(h2 q o a2 a1).1]
      exact Bool.or_true _
    · rw [s10.2 q o a2]
      rfl
/-- which ids a cell names -/
def subs (κ : zzM) (o x : Nat) : Prop := (co o = 10 ∧ o + 1 ≤ x ∧ x ≤ o + 6) ∨ (co o = 8 ∧ (x = o + 1 ∨ x = o + 4 ∨ x = o + 5 ∨ x = o + 7 ∨ x = o + 8)) ∨ (co o = 4 ∧ (x = o + 1 ∨ x = o + 2 ∨ x = o + 1000 ∨ x = o + 2000)) ∨ ((co o = 9 ∨ co o = 5 ∨ co o = 2 ∨ co o = 1) ∧ x = o + 1000) ∨ (co o = 3 ∧ x = o + 1) ∨ (co o = 2 ∧ clothv (κ o 3) = some x) ∨ (co o = 0 ∧ ¬ κ o 3 = 0 ∧ x = o + 1000)
theorem cFs_c {f : Nat → Int32} {g : Nat → Int64} {o ci : Nat} (hf : f = κ o) (hci : co o = ci) (k : ∀ x, subs κ o x → ad' x = ad x) : cFs ad' t0 f g ci o = cFs ad t0 f g ci o := by
  subst hf
  unfold cFs
  split
  · rw [k (o + 1) (Or.inl ⟨hci, by omega⟩), k (o + 2) (Or.inl ⟨hci, by omega⟩), k (o + 3) (Or.inl ⟨hci, by omega⟩), k (o + 4) (Or.inl ⟨hci, by omega⟩), k (o + 5) (Or.inl ⟨hci, by omega⟩), k (o + 6) (Or.inl ⟨hci, by omega⟩)]
  · rw [k (o + 1) (Or.inr (Or.inl ⟨hci, by omega⟩)), k (o + 4) (Or.inr (Or.inl ⟨hci, by omega⟩)), k (o + 5) (Or.inr (Or.inl ⟨hci, by omega⟩)), k (o + 7) (Or.inr (Or.inl ⟨hci, by omega⟩)), k (o + 8) (Or.inr (Or.inl ⟨hci, by omega⟩))]
  · rw [k (o + 1) (Or.inr (Or.inr (Or.inl ⟨hci, by omega⟩))), k (o + 2) (Or.inr (Or.inr (Or.inl ⟨hci, by omega⟩))), k (o + 1000) (Or.inr (Or.inr (Or.inl ⟨hci, by omega⟩))), k (o + 2000) (Or.inr (Or.inr (Or.inl ⟨hci, by omega⟩)))]
  · rw [k (o + 1000) (Or.inr (Or.inr (Or.inr (Or.inl ⟨Or.inl hci, rfl⟩))))]
  · rw [k (o + 1) (Or.inr (Or.inr (Or.inr (Or.inr (Or.inl ⟨hci, rfl⟩)))))]
  · rw [k (o + 1000) (Or.inr (Or.inr (Or.inr (Or.inl ⟨Or.inr (Or.inl hci), rfl⟩))))]
  · have e : Option.map ad' (clothv (κ o 3)) = Option.map ad (clothv (κ o 3)) := by
      cases e2 : clothv (κ o 3) with
      | none => rfl
      | some x =>
        show some (ad' x) = some (ad x)
        rw [k x (Or.inr (Or.inr (Or.inr (Or.inr (Or.inr (Or.inl ⟨hci, e2⟩))))))]
    rw [k (o + 1000) (Or.inr (Or.inr (Or.inr (Or.inl ⟨Or.inr (Or.inr (Or.inl hci)), rfl⟩)))), e]
  · rw [k (o + 1000) (Or.inr (Or.inr (Or.inr (Or.inl ⟨Or.inr (Or.inr (Or.inr hci)), rfl⟩))))]
  · rfl
  · rfl
  · by_cases g3 : κ o 3 = 0
    · rw [if_pos g3, if_pos g3]
    · rw [if_neg g3, if_neg g3, k (o + 1000) (Or.inr (Or.inr (Or.inr (Or.inr (Or.inr (Or.inr ⟨hci, g3, rfl⟩))))))]
  · rfl
theorem cCell_c {o : Nat} (k1 : κ' o = κ o) (k2 : νc' o = νc o) (k3 : 1000 ≤ o → o < 2000 → co (o - 1000) = 0 → κ' (o - 1000) 2 = κ (o - 1000) 2 ∧ ∀ i, i < (κ (o - 1000) 2).toNatClampNeg → ad' (child (o - 1000) i) = ad (child (o - 1000) i)) (k4 : o < 1000 → ∀ x, subs κ o x → ad' x = ad x) : cCell ad' t0 κ' νc' o = cCell ad t0 κ νc o := by
  unfold cCell
  by_cases g : o < 1000
  · rw [if_pos g, if_pos g]
    by_cases g2 : co o = 99
    · rw [if_pos g2, if_pos g2]
    · rw [if_neg g2, if_neg g2, k1, k2, cFs_c (f := κ o) rfl rfl (k4 g)]
  · rw [if_neg g, if_neg g]
    cases cIs o with
    | some tn =>
      obtain ⟨t, m⟩ := tn
      dsimp only
      rw [k1]
    | none =>
      dsimp only
      by_cases g3 : o < 2000 ∧ co (o - 1000) = 0
      · rw [if_pos g3, if_pos g3]
        obtain ⟨a1, a2⟩ := k3 (by omega) g3.1 g3.2
        rw [a1]
        have e : (fun i => if i < (κ (o - 1000) 2).toNatClampNeg then some (ad' (child (o - 1000) i)) else none) = (fun i => if i < (κ (o - 1000) 2).toNatClampNeg then some (ad (child (o - 1000) i)) else none) := by
          funext i
          by_cases g4 : i < (κ (o - 1000) 2).toNatClampNeg
          · rw [if_pos g4, if_pos g4, a2 i g4]
          · rw [if_neg g4, if_neg g4]
        rw [e]
      · rw [if_neg g3, if_neg g3]
theorem co_loc {o : Nat} : (co o = 10 → o = 0) ∧ (co o = 8 → o % 100 = 0 ∧ 100 ≤ o ∧ o < 500) ∧ (co o = 4 → o % 100 = 1 ∧ 100 ≤ o ∧ o < 500) ∧ (co o = 9 → o % 100 = 4 ∧ 100 ≤ o ∧ o < 500) ∧ (co o = 3 → o % 100 = 5 ∧ 100 ≤ o ∧ o < 500) ∧ (co o = 5 → o = 5 ∨ o = 6 ∨ (100 ≤ o ∧ o < 500 ∧ (o % 100 = 2 ∨ o % 100 = 3 ∨ o % 100 = 7)) ∨ (600 ≤ o ∧ o < 700)) ∧ (co o = 2 → o % 100 = 8 ∧ 100 ≤ o ∧ o < 500) ∧ (co o = 1 → 700 ≤ o ∧ o < 800) ∧ (co o = 0 → (1 ≤ o ∧ o < 5) ∨ (o % 100 = 6 ∧ 100 ≤ o ∧ o < 500)) := by
  by_cases g : o < 900
  · have k10 : ∀ o, o < 900 → co o = 10 → o = 0 := by decide +kernel
    have k8 : ∀ o, o < 900 → co o = 8 → o % 100 = 0 ∧ 100 ≤ o ∧ o < 500 := by decide +kernel
    have k4 : ∀ o, o < 900 → co o = 4 → o % 100 = 1 ∧ 100 ≤ o ∧ o < 500 := by decide +kernel
    have k9 : ∀ o, o < 900 → co o = 9 → o % 100 = 4 ∧ 100 ≤ o ∧ o < 500 := by decide +kernel
    have k3 : ∀ o, o < 900 → co o = 3 → o % 100 = 5 ∧ 100 ≤ o ∧ o < 500 := by decide +kernel
    have k5 : ∀ o, o < 900 → co o = 5 → o = 5 ∨ o = 6 ∨ (100 ≤ o ∧ o < 500 ∧ (o % 100 = 2 ∨ o % 100 = 3 ∨ o % 100 = 7)) ∨ (600 ≤ o ∧ o < 700) := by decide +kernel
    have k2 : ∀ o, o < 900 → co o = 2 → o % 100 = 8 ∧ 100 ≤ o ∧ o < 500 := by decide +kernel
    have k1 : ∀ o, o < 900 → co o = 1 → 700 ≤ o ∧ o < 800 := by decide +kernel
    have k0 : ∀ o, o < 900 → co o = 0 → (1 ≤ o ∧ o < 5) ∨ (o % 100 = 6 ∧ 100 ≤ o ∧ o < 500) := by decide +kernel
    exact ⟨k10 o g, k8 o g, k4 o g, k9 o g, k3 o g, k5 o g, k2 o g, k1 o g, k0 o g⟩
  · have e : co o = 99 := Decidable.byContradiction (fun q => g (co_lt q))
    rw [e]
    refine ⟨?_, ?_, ?_, ?_, ?_, ?_, ?_, ?_, ?_⟩ <;> (intro q; exact absurd q (by decide))
end ZXF
