section ZZW2
def zpl {α : Type} (x : Option (α ⊕ Nat)) (K : α → Prop) : Prop := ∃ v, x = some (.inl v) ∧ K v
def znw (x : Int32) (K : Nat → Prop) : Prop := ∃ N, ¬ x < 0 ∧ x.toNatClampNeg = N ∧ N ≤ 4 ∧ K N
def zp {α : Type} (x : Option α) (K : α → Prop) : Prop := ∃ v, x = some v ∧ K v
def zp1 {α : Type} (x : Option (α × zz_H)) (K : α → zz_H → Prop) : Prop := ∃ v h, x = some (v, h) ∧ K v h
def zo (h : zz_H) (a ci : Nat) (K : Prop) : Prop := (∃ fs, h a = some (.inr (ci, fs))) ∧ K
def zl_w (x : Option (Int32 × zz_H × Nat)) (K : Int32 → zz_H → Nat → Prop) : Prop := ∃ r h n, x = some (r, h, n) ∧ ∀ n1, n ≤ n1 → K r h n1
end ZZW2
