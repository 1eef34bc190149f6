section ZXU
/-! seat: its case -/
variable {ad : Nat → Nat} {iv : Nat → Option Nat} {lv : Nat → Bool} {t0 base : Nat} {κ : zzM} {νc : zzN} {μ : zzM} {ν : zzN} {H : Int} {nS nB nK : Nat} {h : zz_H} {n : Nat}
theorem ids_in {b x : Nat} (hb : b < 4) (hx : FK (100 * (b + 1)) x) (h : co x ≠ 99 ∧ x % 100 < 9 ∨ cIs x ≠ none) : 100 * (b + 1) ≤ x ∧ soff (x - 100 * (b + 1)) < 16 := by
  have k0 : ∀ b, b < 4 → ∀ d, d < 100 → (co (100 * (b + 1) + d) ≠ 99 ∧ (100 * (b + 1) + d) % 100 < 9 ∨ cIs (100 * (b + 1) + d) ≠ none) → soff d < 16 := by decide +kernel
  have k1 : ∀ b, b < 4 → ∀ d, d < 100 → (co (100 * (b + 1) + (d + 1000)) ≠ 99 ∧ (100 * (b + 1) + (d + 1000)) % 100 < 9 ∨ cIs (100 * (b + 1) + (d + 1000)) ≠ none) → soff (d + 1000) < 16 := by decide +kernel
  have k2 : ∀ b, b < 4 → ∀ d, d < 100 → (co (100 * (b + 1) + (d + 2000)) ≠ 99 ∧ (100 * (b + 1) + (d + 2000)) % 100 < 9 ∨ cIs (100 * (b + 1) + (d + 2000)) ≠ none) → soff (d + 2000) < 16 := by decide +kernel
  unfold FK at hx
  refine ⟨by omega, ?_⟩
  rcases hx with q | q | q
  · have e : x = 100 * (b + 1) + (x - 100 * (b + 1)) := by omega
    rw [e] at h
    exact k0 b hb _ (by omega) h
  · have e : x = 100 * (b + 1) + ((x - 100 * (b + 1) - 1000) + 1000) := by omega
    have e2 : x - 100 * (b + 1) = (x - 100 * (b + 1) - 1000) + 1000 := by omega
    rw [e] at h
    rw [e2]
    exact k1 b hb (x - 100 * (b + 1) - 1000) (by omega) h
  · have e : x = 100 * (b + 1) + ((x - 100 * (b + 1) - 2000) + 2000) := by omega
    have e2 : x - 100 * (b + 1) = (x - 100 * (b + 1) - 2000) + 2000 := by omega
    rw [e] at h
    rw [e2]
    exact k2 b hb (x - 100 * (b + 1) - 2000) (by omega) h
end ZXU
