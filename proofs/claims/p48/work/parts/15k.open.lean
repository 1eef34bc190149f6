section ZWK
/-! opening: a step less -/
variable {lv : Nat → Bool} {κ κ' : zzM} {νc νc' : zzN} {μ μ' : zzM} {ν ν' : zzN} {H H' : Int} {nS nB nK : Nat}
theorem RO_d {s : Nat} (c1 : nC μ' s = nC μ s) (c2 : nR μ' s = nR μ s) (st : ¬ μ' 3 s ≤ 1 → ¬ μ 3 s ≤ 1) (a : ∀ o i, (o = 74 + s ∨ o = 79 + s ∨ (111 + 7 * s ≤ o ∧ o < 117 + 7 * s)) → μ' o i = μ o i) (h : RO μ s) : RO μ' s := by
  unfold RO
  rw [c1, c2]
  refine ⟨fun g k hk => ?_, fun x y hx hy => ?_, by rw [tDr_c (μ := μ) (fun x y hx hy => a (111 + 7 * s + x) y (by omega))]; exact h.2.2⟩
  · rw [a _ _ (by omega), a _ _ (by omega)]; exact h.1 (st g) k hk
  · rw [a _ _ (by omega)]; exact h.2.1 x y hx hy
end ZWK
