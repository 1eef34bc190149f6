section ZYC
/-! the start: the heap that holds both, the relation -/
variable {t0 base : Nat}
def mu0 : zzM := fun o i => if o = 178 then (if i < 4 then 45 else 0) else if o = 179 then (if i < 4 then 4 else 0) else 0
def nu0 : zzN := fun _ _ => 0
theorem mu0_z {o i : Nat} (h1 : o ≠ 178) (h2 : o ≠ 179) : mu0 o i = 0 := by
  unfold mu0
  rw [if_neg h1, if_neg h2]
def idl : List Nat := [0, 1, 2, 3, 4, 5, 1005, 6, 1006, 800, 1004, 801, 802, 803]
def offI (o : Nat) : Nat := if o = 1005 then 6 else if o = 6 then 7 else if o = 1006 then 8 else if o = 800 then 9 else if o = 1004 then 10 else if o = 801 then 11 else if o = 802 then 12 else if o = 803 then 13 else o
def adI (base o : Nat) : Nat := base + offI o
def ivI (base q : Nat) : Option Nat := if base ≤ q ∧ q < base + 14 then some (idl.getD (q - base) 0) else none
def lvI (o : Nat) : Bool := decide (o ∈ idl)
def ka0 : zzM := fun o i => if o = 4 then (if i = 0 then 0 + 1 + 1 + 1 + 1 else if i = 2 then 4 else if i = 3 then 1 else 0) else if 800 ≤ o ∧ o < 804 then (if i = 0 then 45 else if i = 1 then 4 else 0) else 0
theorem idl_k {k : Nat} (hk : k < 14) : offI (idl.getD k 0) = k ∧ idl.getD k 0 ∈ idl := (by decide +kernel : ∀ k, k < 14 → offI (idl.getD k 0) = k ∧ idl.getD k 0 ∈ idl) k hk
theorem idl_o {o : Nat} (ho : o ∈ idl) : offI o < 14 ∧ idl.getD (offI o) 0 = o := (by decide +kernel : ∀ o ∈ idl, offI o < 14 ∧ idl.getD (offI o) 0 = o) o ho
theorem lvI_m {o : Nat} (h : lvI o = true) : o ∈ idl := of_decide_eq_true h
theorem ivI_m {q o : Nat} (h : ivI base q = some o) : ∃ k, k < 14 ∧ q = base + k ∧ o = idl.getD k 0 := by
  unfold ivI at h
  by_cases g : base ≤ q ∧ q < base + 14
  · rw [if_pos g] at h
    cases h
    exact ⟨q - base, by omega, by omega, rfl⟩
  · rw [if_neg g] at h
    cases h
theorem lX_c {l : Nat → Option zz_C} (X : lX t0 base l) {k : Nat} (hk : k < 14) : l k = cCell (adI base) t0 ka0 nu0 (idl.getD k 0) := by
  obtain ⟨e0, e1, e2, e3, e4, e5, e6, e7, e8, e9, e10, e11, e12, e13⟩ := X
  rcases (show k = 0 ∨ k = 1 ∨ k = 2 ∨ k = 3 ∨ k = 4 ∨ k = 5 ∨ k = 6 ∨ k = 7 ∨ k = 8 ∨ k = 9 ∨ k = 10 ∨ k = 11 ∨ k = 12 ∨ k = 13 by omega) with rfl | rfl | rfl | rfl | rfl | rfl | rfl | rfl | rfl | rfl | rfl | rfl | rfl | rfl
  · rw [e0]; rfl
  · rw [e1]
    show _ = cCell (adI base) t0 ka0 nu0 1
    rw [li_cell (by decide)]
    rfl
  · rw [e2]
    show _ = cCell (adI base) t0 ka0 nu0 2
    rw [li_cell (by decide)]
    rfl
  · rw [e3]
    show _ = cCell (adI base) t0 ka0 nu0 3
    rw [li_cell (by decide)]
    rfl
  · rw [e4]
    show _ = cCell (adI base) t0 ka0 nu0 4
    rw [li_cell (by decide)]
    rfl
  · rw [e5]
    show _ = cCell (adI base) t0 ka0 nu0 5
    rw [gr_cell (by decide)]
    rfl
  · rw [e6]
    show _ = cCell (adI base) t0 ka0 nu0 1005
    rw [ar_cell (by decide) (show cIs 1005 = some (0, 56) by decide)]
    rfl
  · rw [e7]
    show _ = cCell (adI base) t0 ka0 nu0 6
    rw [gr_cell (by decide)]
    rfl
  · rw [e8]
    show _ = cCell (adI base) t0 ka0 nu0 1006
    rw [ar_cell (by decide) (show cIs 1006 = some (0, 56) by decide)]
    rfl
  · rw [e9]
    show _ = cCell (adI base) t0 ka0 nu0 800
    rw [s6_cell (by decide)]
    rfl
  · rw [e10]
    show _ = cCell (adI base) t0 ka0 nu0 (4 + 1000)
    rw [la_cell (by decide)]
    have e : va_up (va_up (va_up (va_up (fun _ => (none : Option Nat)) 0 (some (base + 9))) 1 (some (base + 11))) 2 (some (base + 12))) 3 (some (base + 13)) = (fun i => if i < (ka0 4 2).toNatClampNeg then some (adI base (child 4 i)) else none) := by
      have h4 : (ka0 4 2).toNatClampNeg = 4 := by decide
      funext i
      rw [h4]
      unfold va_up
      by_cases g3 : i = 3
      · rw [if_pos g3, g3]
        rfl
      · rw [if_neg g3]
        by_cases g2 : i = 2
        · rw [if_pos g2, g2]
          rfl
        · rw [if_neg g2]
          by_cases g1 : i = 1
          · rw [if_pos g1, g1]
            rfl
          · rw [if_neg g1]
            by_cases g0 : i = 0
            · rw [if_pos g0, g0]
              rfl
            · rw [if_neg g0, if_neg (by omega)]
    rw [e]
  · rw [e11]
    show _ = cCell (adI base) t0 ka0 nu0 801
    rw [s6_cell (by decide)]
    rfl
  · rw [e12]
    show _ = cCell (adI base) t0 ka0 nu0 802
    rw [s6_cell (by decide)]
    rfl
  · rw [e13]
    show _ = cCell (adI base) t0 ka0 nu0 803
    rw [s6_cell (by decide)]
    rfl
theorem S0_0 (ht : t0 < base) {b L : Nat} {xs : Nat → Int32} (hb : b < base) (hbt : t0 ≠ b) {l : Nat → Option zz_C} (X : lX t0 base l) : S0 (adI base) (ivI base) lvI t0 base (zs_o b L xs) ka0 nu0 (AL (zs_o b L xs) t0 base l) (base + 14) := by
  have ho : ∀ q x, zs_o b L xs q = some x → q = b := fun q x e => by
    unfold zs_o at e
    by_cases g : q = b
    · exact g
    · rw [if_neg g] at e; cases e
  refine ⟨fun o ho => ?_, fun q o e => ?_, fun q o e => ?_, fun q x e => ?_, fun q x e => ?_, trivial, fun q o e => ?_, ⟨ht, by omega⟩, rfl, ?_, fun q o e => ?_⟩
  · obtain ⟨a1, a2⟩ := idl_o (lvI_m ho)
    unfold ivI adI
    rw [if_pos (by omega), Nat.add_sub_cancel_left, a2]
  · obtain ⟨k, hk, rfl, rfl⟩ := ivI_m e
    unfold adI
    rw [(idl_k hk).1]
  · obtain ⟨k, hk, rfl, rfl⟩ := ivI_m e
    rw [AL_at ht rfl]
    exact lX_c X hk
  · have e1 := ho q x e
    unfold AL
    rw [if_neg (by omega), if_neg (by omega)]
    exact e
  · have e1 := ho q x e
    omega
  · obtain ⟨k, hk, rfl, rfl⟩ := ivI_m e
    refine ⟨?_, by omega, by omega⟩
    cases g : zs_o b L xs (base + k) with
    | none => rfl
    | some x => have := ho _ _ g; omega
  · exact AL_t
  · obtain ⟨k, hk, rfl, rfl⟩ := ivI_m e
    exact decide_eq_true (idl_k hk).2
theorem lvI_0 {o : Nat} (h : 7 ≤ o ∧ o < 800 ∨ 804 ≤ o ∧ o < 1004 ∨ 1007 ≤ o) : lvI o = false := decide_eq_false (fun q => by
  have : o = 0 ∨ o = 1 ∨ o = 2 ∨ o = 3 ∨ o = 4 ∨ o = 5 ∨ o = 1005 ∨ o = 6 ∨ o = 1006 ∨ o = 800 ∨ o = 1004 ∨ o = 801 ∨ o = 802 ∨ o = 803 := by simpa [idl] using q
  omega)
theorem LV_0 : LV lvI 0 := fun s _ hs o ho => lvI_0 (by unfold FK at ho; omega)
theorem RR_0 : RR lvI ka0 nu0 mu0 nu0 0 0 0 0 := by
  have z : ∀ o i, o < 178 → mu0 o i = 0 := fun o i h => mu0_z (by omega) (by omega)
  refine ⟨⟨⟨by decide, by decide⟩, by decide, by decide, by decide, by decide, rfl, rfl, rfl⟩, ⟨⟨⟨by decide, by decide⟩, rfl, fun q => absurd q (by decide), fun _ => rfl⟩, ⟨⟨by decide, by decide⟩, rfl, fun q => absurd q (by decide), fun _ => rfl⟩, ⟨⟨by decide, by decide⟩, rfl, fun q => absurd q (by decide), fun _ => rfl⟩, ⟨⟨by decide, by decide⟩, rfl, fun _ => ⟨by decide, by decide⟩, fun q => absurd q (by decide)⟩, ⟨⟨by decide, by decide⟩, by decide, by decide⟩, ⟨⟨by decide, by decide⟩, by decide, by decide⟩⟩, fun s hs => absurd hs (Nat.not_lt_zero _), fun s _ hs => ?_, fun b hb => absurd hb (Nat.not_lt_zero _), fun b _ hb x y hx hy => z _ _ (by omega), fun j hj => absurd hj (Nat.not_lt_zero _), fun j _ hj => ⟨z _ _ (by omega), z _ _ (by omega)⟩, fun j hj => ?_, fun s hs => absurd hs (Nat.not_lt_zero _), fun s1 s2 h1 _ => absurd h1 (Nat.not_lt_zero _)⟩
  · exact ⟨z _ _ (by omega), z _ _ (by omega), z _ _ (by omega), z _ _ (by omega), z _ _ (by omega), fun x y hx hy => z _ _ (by omega), fun k hk => z _ _ (by omega)⟩
  · rcases (show j = 0 ∨ j = 1 ∨ j = 2 ∨ j = 3 by omega) with rfl | rfl | rfl | rfl <;> exact ⟨⟨by decide, by decide⟩, by decide, by decide⟩
end ZYC
