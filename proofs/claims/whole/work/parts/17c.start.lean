section ZYC
/-! the start: the heap that holds both, the relation -/
variable {t0 base : Nat}
def idl : List Nat := [0, 1, 2, 3, 4, 5, 1005, 6, 1006, 800, 1004, 801, 802, 803]
def offI (o : Nat) : Nat := if o = 1005 then 6 else if o = 6 then 7 else if o = 1006 then 8 else if o = 800 then 9 else if o = 1004 then 10 else if o = 801 then 11 else if o = 802 then 12 else if o = 803 then 13 else o
def adI (base o : Nat) : Nat := base + offI o
def ivI (base q : Nat) : Option Nat := if base ≤ q ∧ q < base + 14 then some (idl.getD (q - base) 0) else none
def lvI (o : Nat) : Bool := decide (o ∈ idl)
def ka0 : zzM := fun o i => if o = 4 then (if i = 0 then 0 + 1 + 1 + 1 + 1 else if i = 2 then 4 else if i = 3 then 1 else 0) else if 800 ≤ o ∧ o < 804 then (if i = 0 then 45 else if i = 1 then 4 else 0) else 0
theorem idl_k {k : Nat} (hk : k < 14) : offI (idl.getD k 0) = k ∧ idl.getD k 0 ∈ idl := (by decide +kernel : ∀ k, k < 14 → offI (idl.getD k 0) = k ∧ idl.getD k 0 ∈ idl) k hk
theorem idl_o {o : Nat} (ho : o ∈ idl) : offI o < 14 ∧ idl.getD (offI o) 0 = o := (by decide +kernel : ∀ o ∈ idl, offI o < 14 ∧ idl.getD (offI o) 0 = o) o ho
theorem lvI_m {o : Nat} (h : lvI o = true) : o ∈ idl := of_decide_eq_true h
theorem ivI_m {q o : Nat} (h : ivI base q = some o) : ∃ k, k < 14 ∧ q = base + k ∧ o = idl.getD k 0 := by
  unfold ivI at h
  by_cases g : base ≤ q ∧ q < base + 14
  · rw [if_pos g] at h
    cases h
    exact ⟨q - base, by omega, by omega, rfl⟩
  · rw [if_neg g] at h
    cases h
theorem lX_c {l : Nat → Option zz_C} (X : lX t0 base l) {k : Nat} (hk : k < 14) : l k = cCell (adI base) t0 ka0 nu0 (idl.getD k 0) := by
  obtain ⟨e0, e1, e2, e3, e4, e5, e6, e7, e8, e9, e10, e11, e12, e13⟩ := X
  rcases (show k = 0 ∨ k = 1 ∨ k = 2 ∨ k = 3 ∨ k = 4 ∨ k = 5 ∨ k = 6 ∨ k = 7 ∨ k = 8 ∨ k = 9 ∨ k = 10 ∨ k = 11 ∨ k = 12 ∨ k = 13 by omega) with rfl | rfl | rfl | rfl | rfl | rfl | rfl | rfl | rfl | rfl | rfl | rfl | rfl | rfl
  · rw [e0]; rfl
  · rw [e1]
    show _ = cCell (adI base) t0 ka0 nu0 1
    rw [li_cell (by decide)]
    rfl
  · rw [e2]
    show _ = cCell (adI base) t0 ka0 nu0 2
    rw [li_cell (by decide)]
    rfl
  · rw [e3]
    show _ = cCell (adI base) t0 ka0 nu0 3
    rw [li_cell (by decide)]
    rfl
  · rw [e4]
    show _ = cCell (adI base) t0 ka0 nu0 4
    rw [li_cell (by decide)]
    rfl
  · rw [e5]
    show _ = cCell (adI base) t0 ka0 nu0 5
    rw [gr_cell (by decide)]
    rfl
  · rw [e6]
    show _ = cCell (adI base) t0 ka0 nu0 1005
    rw [ar_cell (by decide) (show cIs 1005 = some (0, 56) by decide)]
    rfl
  · rw [e7]
    show _ = cCell (adI base) t0 ka0 nu0 6
    rw [gr_cell (by decide)]
    rfl
  · rw [e8]
    show _ = cCell (adI base) t0 ka0 nu0 1006
    rw [ar_cell (by decide) (show cIs 1006 = some (0, 56) by decide)]
    rfl
  · rw [e9]
    show _ = cCell (adI base) t0 ka0 nu0 800
    rw [s6_cell (by decide)]
    rfl
  · rw [e10]
    show _ = cCell (adI base) t0 ka0 nu0 (4 + 1000)
    rw [la_cell (by decide)]
    have e : va_up (va_up (va_up (va_up (fun _ => (none : Option Nat)) 0 (some (base + 9))) 1 (some (base + 11))) 2 (some (base + 12))) 3 (some (base + 13)) = (fun i => if i < (ka0 4 2).toNatClampNeg then some (adI base (child 4 i)) else none) := by
      have h4 : (ka0 4 2).toNatClampNeg = 4 := by decide
      funext i
      rw [h4]
      unfold va_up
      by_cases g3 : i = 3
      · rw [if_pos g3, g3]
        rfl
      · rw [if_neg g3]
        by_cases g2 : i = 2
        · rw [if_pos g2, g2]
          rfl
        · rw [if_neg g2]
          by_cases g1 : i = 1
          · rw [if_pos g1, g1]
            rfl
          · rw [if_neg g1]
            by_cases g0 : i = 0
            · rw [if_pos g0, g0]
              rfl
            · rw [if_neg g0, if_neg (by omega)]
    rw [e]
  · rw [e11]
    show _ = cCell (adI base) t0 ka0 nu0 801
    rw [s6_cell (by decide)]
    rfl
  · rw [e12]
    show _ = cCell (adI base) t0 ka0 nu0 802
    rw [s6_cell (by decide)]
    rfl
  · rw [e13]
    show _ = cCell (adI base) t0 ka0 nu0 803
    rw [s6_cell (by decide)]
    rfl
theorem fsX_0 (am : Nat) : fsX am 0 = [.null, .null, .null, .null, .null, .null, .null, .null, .null, .null, .null, .null, .null, .null, .null, .null, .null, .null, .null, .null, .null, .null, .null, .null, .null, .null, .null, .null, .null, .null, .int 0, .int 0, .int 0, .int 0] := rfl
theorem fsX_1 (am : Nat) : fsX am 1 = [.ref (am + 1), .null, .null, .null, .null, .null, .null, .null, .null, .null, .null, .null, .null, .null, .null, .null, .null, .null, .null, .null, .null, .null, .null, .null, .null, .null, .null, .null, .null, .null, .int 0, .int 0, .int 0, .int 0] := by
  show (fsX am 0).set 0 (.ref (am + 1)) = _
  rw [fsX_0]
  rfl
theorem fsX_2 (am : Nat) : fsX am 2 = [.ref (am + 1), .ref (am + 2), .null, .null, .null, .null, .null, .null, .null, .null, .null, .null, .null, .null, .null, .null, .null, .null, .null, .null, .null, .null, .null, .null, .null, .null, .null, .null, .null, .null, .int 0, .int 0, .int 0, .int 0] := by
  show (fsX am 1).set 1 (.ref (am + 2)) = _
  rw [fsX_1]
  rfl
theorem fsX_3 (am : Nat) : fsX am 3 = [.ref (am + 1), .ref (am + 2), .ref (am + 3), .null, .null, .null, .null, .null, .null, .null, .null, .null, .null, .null, .null, .null, .null, .null, .null, .null, .null, .null, .null, .null, .null, .null, .null, .null, .null, .null, .int 0, .int 0, .int 0, .int 0] := by
  show (fsX am 2).set 2 (.ref (am + 3)) = _
  rw [fsX_2]
  rfl
theorem fsX_4 (am : Nat) : fsX am 4 = [.ref (am + 1), .ref (am + 2), .ref (am + 3), .ref (am + 4), .null, .null, .null, .null, .null, .null, .null, .null, .null, .null, .null, .null, .null, .null, .null, .null, .null, .null, .null, .null, .null, .null, .null, .null, .null, .null, .int 0, .int 0, .int 0, .int 0] := by
  show (fsX am 3).set 3 (.ref (am + 4)) = _
  rw [fsX_3]
  rfl
theorem fsX_5 (am : Nat) : fsX am 5 = [.ref (am + 1), .ref (am + 2), .ref (am + 3), .ref (am + 4), .ref (am + 9), .null, .null, .null, .null, .null, .null, .null, .null, .null, .null, .null, .null, .null, .null, .null, .null, .null, .null, .null, .null, .null, .null, .null, .null, .null, .int 0, .int 0, .int 0, .int 0] := by
  show (fsX am 4).set 4 (.ref (am + 9)) = _
  rw [fsX_4]
  rfl
theorem fsX_6 (am : Nat) : fsX am 6 = [.ref (am + 1), .ref (am + 2), .ref (am + 3), .ref (am + 4), .ref (am + 9), .ref (am + 14), .null, .null, .null, .null, .null, .null, .null, .null, .null, .null, .null, .null, .null, .null, .null, .null, .null, .null, .null, .null, .null, .null, .null, .null, .int 0, .int 0, .int 0, .int 0] := by
  show (fsX am 5).set 5 (.ref (am + 14)) = _
  rw [fsX_5]
  rfl
theorem fsX_7 (am : Nat) : fsX am 7 = [.ref (am + 1), .ref (am + 2), .ref (am + 3), .ref (am + 4), .ref (am + 9), .ref (am + 14), .ref (am + 15), .null, .null, .null, .null, .null, .null, .null, .null, .null, .null, .null, .null, .null, .null, .null, .null, .null, .null, .null, .null, .null, .null, .null, .int 0, .int 0, .int 0, .int 0] := by
  show (fsX am 6).set 6 (.ref (am + 15)) = _
  rw [fsX_6]
  rfl
theorem fsX_8 (am : Nat) : fsX am 8 = [.ref (am + 1), .ref (am + 2), .ref (am + 3), .ref (am + 4), .ref (am + 9), .ref (am + 14), .ref (am + 15), .ref (am + 44), .null, .null, .null, .null, .null, .null, .null, .null, .null, .null, .null, .null, .null, .null, .null, .null, .null, .null, .null, .null, .null, .null, .int 0, .int 0, .int 0, .int 0] := by
  show (fsX am 7).set 7 (.ref (am + 44)) = _
  rw [fsX_7]
  rfl
theorem fsX_9 (am : Nat) : fsX am 9 = [.ref (am + 1), .ref (am + 2), .ref (am + 3), .ref (am + 4), .ref (am + 9), .ref (am + 14), .ref (am + 15), .ref (am + 44), .ref (am + 73), .null, .null, .null, .null, .null, .null, .null, .null, .null, .null, .null, .null, .null, .null, .null, .null, .null, .null, .null, .null, .null, .int 0, .int 0, .int 0, .int 0] := by
  show (fsX am 8).set 8 (.ref (am + 73)) = _
  rw [fsX_8]
  rfl
theorem fsX_10 (am : Nat) : fsX am 10 = [.ref (am + 1), .ref (am + 2), .ref (am + 3), .ref (am + 4), .ref (am + 9), .ref (am + 14), .ref (am + 15), .ref (am + 44), .ref (am + 73), .ref (am + 78), .null, .null, .null, .null, .null, .null, .null, .null, .null, .null, .null, .null, .null, .null, .null, .null, .null, .null, .null, .null, .int 0, .int 0, .int 0, .int 0] := by
  show (fsX am 9).set 9 (.ref (am + 78)) = _
  rw [fsX_9]
  rfl
theorem fsX_11 (am : Nat) : fsX am 11 = [.ref (am + 1), .ref (am + 2), .ref (am + 3), .ref (am + 4), .ref (am + 9), .ref (am + 14), .ref (am + 15), .ref (am + 44), .ref (am + 73), .ref (am + 78), .ref (am + 83), .null, .null, .null, .null, .null, .null, .null, .null, .null, .null, .null, .null, .null, .null, .null, .null, .null, .null, .null, .int 0, .int 0, .int 0, .int 0] := by
  show (fsX am 10).set 10 (.ref (am + 83)) = _
  rw [fsX_10]
  rfl
theorem fsX_12 (am : Nat) : fsX am 12 = [.ref (am + 1), .ref (am + 2), .ref (am + 3), .ref (am + 4), .ref (am + 9), .ref (am + 14), .ref (am + 15), .ref (am + 44), .ref (am + 73), .ref (am + 78), .ref (am + 83), .ref (am + 84), .null, .null, .null, .null, .null, .null, .null, .null, .null, .null, .null, .null, .null, .null, .null, .null, .null, .null, .int 0, .int 0, .int 0, .int 0] := by
  show (fsX am 11).set 11 (.ref (am + 84)) = _
  rw [fsX_11]
  rfl
theorem fsX_13 (am : Nat) : fsX am 13 = [.ref (am + 1), .ref (am + 2), .ref (am + 3), .ref (am + 4), .ref (am + 9), .ref (am + 14), .ref (am + 15), .ref (am + 44), .ref (am + 73), .ref (am + 78), .ref (am + 83), .ref (am + 84), .ref (am + 89), .null, .null, .null, .null, .null, .null, .null, .null, .null, .null, .null, .null, .null, .null, .null, .null, .null, .int 0, .int 0, .int 0, .int 0] := by
  show (fsX am 12).set 12 (.ref (am + 89)) = _
  rw [fsX_12]
  rfl
theorem fsX_14 (am : Nat) : fsX am 14 = [.ref (am + 1), .ref (am + 2), .ref (am + 3), .ref (am + 4), .ref (am + 9), .ref (am + 14), .ref (am + 15), .ref (am + 44), .ref (am + 73), .ref (am + 78), .ref (am + 83), .ref (am + 84), .ref (am + 89), .ref (am + 94), .null, .null, .null, .null, .null, .null, .null, .null, .null, .null, .null, .null, .null, .null, .null, .null, .int 0, .int 0, .int 0, .int 0] := by
  show (fsX am 13).set 13 (.ref (am + 94)) = _
  rw [fsX_13]
  rfl
theorem fsX_15 (am : Nat) : fsX am 15 = [.ref (am + 1), .ref (am + 2), .ref (am + 3), .ref (am + 4), .ref (am + 9), .ref (am + 14), .ref (am + 15), .ref (am + 44), .ref (am + 73), .ref (am + 78), .ref (am + 83), .ref (am + 84), .ref (am + 89), .ref (am + 94), .ref (am + 99), .null, .null, .null, .null, .null, .null, .null, .null, .null, .null, .null, .null, .null, .null, .null, .int 0, .int 0, .int 0, .int 0] := by
  show (fsX am 14).set 14 (.ref (am + 99)) = _
  rw [fsX_14]
  rfl
theorem fsX_16 (am : Nat) : fsX am 16 = [.ref (am + 1), .ref (am + 2), .ref (am + 3), .ref (am + 4), .ref (am + 9), .ref (am + 14), .ref (am + 15), .ref (am + 44), .ref (am + 73), .ref (am + 78), .ref (am + 83), .ref (am + 84), .ref (am + 89), .ref (am + 94), .ref (am + 99), .ref (am + 104), .null, .null, .null, .null, .null, .null, .null, .null, .null, .null, .null, .null, .null, .null, .int 0, .int 0, .int 0, .int 0] := by
  show (fsX am 15).set 15 (.ref (am + 104)) = _
  rw [fsX_15]
  rfl
theorem fsX_17 (am : Nat) : fsX am 17 = [.ref (am + 1), .ref (am + 2), .ref (am + 3), .ref (am + 4), .ref (am + 9), .ref (am + 14), .ref (am + 15), .ref (am + 44), .ref (am + 73), .ref (am + 78), .ref (am + 83), .ref (am + 84), .ref (am + 89), .ref (am + 94), .ref (am + 99), .ref (am + 104), .ref (am + 109), .null, .null, .null, .null, .null, .null, .null, .null, .null, .null, .null, .null, .null, .int 0, .int 0, .int 0, .int 0] := by
  show (fsX am 16).set 16 (.ref (am + 109)) = _
  rw [fsX_16]
  rfl
theorem fsX_18 (am : Nat) : fsX am 18 = [.ref (am + 1), .ref (am + 2), .ref (am + 3), .ref (am + 4), .ref (am + 9), .ref (am + 14), .ref (am + 15), .ref (am + 44), .ref (am + 73), .ref (am + 78), .ref (am + 83), .ref (am + 84), .ref (am + 89), .ref (am + 94), .ref (am + 99), .ref (am + 104), .ref (am + 109), .ref (am + 138), .null, .null, .null, .null, .null, .null, .null, .null, .null, .null, .null, .null, .int 0, .int 0, .int 0, .int 0] := by
  show (fsX am 17).set 17 (.ref (am + 138)) = _
  rw [fsX_17]
  rfl
theorem fsX_19 (am : Nat) : fsX am 19 = [.ref (am + 1), .ref (am + 2), .ref (am + 3), .ref (am + 4), .ref (am + 9), .ref (am + 14), .ref (am + 15), .ref (am + 44), .ref (am + 73), .ref (am + 78), .ref (am + 83), .ref (am + 84), .ref (am + 89), .ref (am + 94), .ref (am + 99), .ref (am + 104), .ref (am + 109), .ref (am + 138), .ref (am + 143), .null, .null, .null, .null, .null, .null, .null, .null, .null, .null, .null, .int 0, .int 0, .int 0, .int 0] := by
  show (fsX am 18).set 18 (.ref (am + 143)) = _
  rw [fsX_18]
  rfl
theorem fsX_20 (am : Nat) : fsX am 20 = [.ref (am + 1), .ref (am + 2), .ref (am + 3), .ref (am + 4), .ref (am + 9), .ref (am + 14), .ref (am + 15), .ref (am + 44), .ref (am + 73), .ref (am + 78), .ref (am + 83), .ref (am + 84), .ref (am + 89), .ref (am + 94), .ref (am + 99), .ref (am + 104), .ref (am + 109), .ref (am + 138), .ref (am + 143), .ref (am + 144), .null, .null, .null, .null, .null, .null, .null, .null, .null, .null, .int 0, .int 0, .int 0, .int 0] := by
  show (fsX am 19).set 19 (.ref (am + 144)) = _
  rw [fsX_19]
  rfl
theorem fsX_21 (am : Nat) : fsX am 21 = [.ref (am + 1), .ref (am + 2), .ref (am + 3), .ref (am + 4), .ref (am + 9), .ref (am + 14), .ref (am + 15), .ref (am + 44), .ref (am + 73), .ref (am + 78), .ref (am + 83), .ref (am + 84), .ref (am + 89), .ref (am + 94), .ref (am + 99), .ref (am + 104), .ref (am + 109), .ref (am + 138), .ref (am + 143), .ref (am + 144), .ref (am + 145), .null, .null, .null, .null, .null, .null, .null, .null, .null, .int 0, .int 0, .int 0, .int 0] := by
  show (fsX am 20).set 20 (.ref (am + 145)) = _
  rw [fsX_20]
  rfl
theorem fsX_22 (am : Nat) : fsX am 22 = [.ref (am + 1), .ref (am + 2), .ref (am + 3), .ref (am + 4), .ref (am + 9), .ref (am + 14), .ref (am + 15), .ref (am + 44), .ref (am + 73), .ref (am + 78), .ref (am + 83), .ref (am + 84), .ref (am + 89), .ref (am + 94), .ref (am + 99), .ref (am + 104), .ref (am + 109), .ref (am + 138), .ref (am + 143), .ref (am + 144), .ref (am + 145), .ref (am + 146), .null, .null, .null, .null, .null, .null, .null, .null, .int 0, .int 0, .int 0, .int 0] := by
  show (fsX am 21).set 21 (.ref (am + 146)) = _
  rw [fsX_21]
  rfl
theorem fsX_23 (am : Nat) : fsX am 23 = [.ref (am + 1), .ref (am + 2), .ref (am + 3), .ref (am + 4), .ref (am + 9), .ref (am + 14), .ref (am + 15), .ref (am + 44), .ref (am + 73), .ref (am + 78), .ref (am + 83), .ref (am + 84), .ref (am + 89), .ref (am + 94), .ref (am + 99), .ref (am + 104), .ref (am + 109), .ref (am + 138), .ref (am + 143), .ref (am + 144), .ref (am + 145), .ref (am + 146), .ref (am + 147), .null, .null, .null, .null, .null, .null, .null, .int 0, .int 0, .int 0, .int 0] := by
  show (fsX am 22).set 22 (.ref (am + 147)) = _
  rw [fsX_22]
  rfl
theorem fsX_24 (am : Nat) : fsX am 24 = [.ref (am + 1), .ref (am + 2), .ref (am + 3), .ref (am + 4), .ref (am + 9), .ref (am + 14), .ref (am + 15), .ref (am + 44), .ref (am + 73), .ref (am + 78), .ref (am + 83), .ref (am + 84), .ref (am + 89), .ref (am + 94), .ref (am + 99), .ref (am + 104), .ref (am + 109), .ref (am + 138), .ref (am + 143), .ref (am + 144), .ref (am + 145), .ref (am + 146), .ref (am + 147), .ref (am + 169), .null, .null, .null, .null, .null, .null, .int 0, .int 0, .int 0, .int 0] := by
  show (fsX am 23).set 23 (.ref (am + 169)) = _
  rw [fsX_23]
  rfl
theorem fsX_25 (am : Nat) : fsX am 25 = [.ref (am + 1), .ref (am + 2), .ref (am + 3), .ref (am + 4), .ref (am + 9), .ref (am + 14), .ref (am + 15), .ref (am + 44), .ref (am + 73), .ref (am + 78), .ref (am + 83), .ref (am + 84), .ref (am + 89), .ref (am + 94), .ref (am + 99), .ref (am + 104), .ref (am + 109), .ref (am + 138), .ref (am + 143), .ref (am + 144), .ref (am + 145), .ref (am + 146), .ref (am + 147), .ref (am + 169), .ref (am + 170), .null, .null, .null, .null, .null, .int 0, .int 0, .int 0, .int 0] := by
  show (fsX am 24).set 24 (.ref (am + 170)) = _
  rw [fsX_24]
  rfl
theorem fsX_26 (am : Nat) : fsX am 26 = [.ref (am + 1), .ref (am + 2), .ref (am + 3), .ref (am + 4), .ref (am + 9), .ref (am + 14), .ref (am + 15), .ref (am + 44), .ref (am + 73), .ref (am + 78), .ref (am + 83), .ref (am + 84), .ref (am + 89), .ref (am + 94), .ref (am + 99), .ref (am + 104), .ref (am + 109), .ref (am + 138), .ref (am + 143), .ref (am + 144), .ref (am + 145), .ref (am + 146), .ref (am + 147), .ref (am + 169), .ref (am + 170), .ref (am + 171), .null, .null, .null, .null, .int 0, .int 0, .int 0, .int 0] := by
  show (fsX am 25).set 25 (.ref (am + 171)) = _
  rw [fsX_25]
  rfl
theorem fsX_27 (am : Nat) : fsX am 27 = [.ref (am + 1), .ref (am + 2), .ref (am + 3), .ref (am + 4), .ref (am + 9), .ref (am + 14), .ref (am + 15), .ref (am + 44), .ref (am + 73), .ref (am + 78), .ref (am + 83), .ref (am + 84), .ref (am + 89), .ref (am + 94), .ref (am + 99), .ref (am + 104), .ref (am + 109), .ref (am + 138), .ref (am + 143), .ref (am + 144), .ref (am + 145), .ref (am + 146), .ref (am + 147), .ref (am + 169), .ref (am + 170), .ref (am + 171), .ref (am + 172), .null, .null, .null, .int 0, .int 0, .int 0, .int 0] := by
  show (fsX am 26).set 26 (.ref (am + 172)) = _
  rw [fsX_26]
  rfl
theorem fsX_28 (am : Nat) : fsX am 28 = [.ref (am + 1), .ref (am + 2), .ref (am + 3), .ref (am + 4), .ref (am + 9), .ref (am + 14), .ref (am + 15), .ref (am + 44), .ref (am + 73), .ref (am + 78), .ref (am + 83), .ref (am + 84), .ref (am + 89), .ref (am + 94), .ref (am + 99), .ref (am + 104), .ref (am + 109), .ref (am + 138), .ref (am + 143), .ref (am + 144), .ref (am + 145), .ref (am + 146), .ref (am + 147), .ref (am + 169), .ref (am + 170), .ref (am + 171), .ref (am + 172), .ref (am + 173), .null, .null, .int 0, .int 0, .int 0, .int 0] := by
  show (fsX am 27).set 27 (.ref (am + 173)) = _
  rw [fsX_27]
  rfl
theorem fsX_29 (am : Nat) : fsX am 29 = [.ref (am + 1), .ref (am + 2), .ref (am + 3), .ref (am + 4), .ref (am + 9), .ref (am + 14), .ref (am + 15), .ref (am + 44), .ref (am + 73), .ref (am + 78), .ref (am + 83), .ref (am + 84), .ref (am + 89), .ref (am + 94), .ref (am + 99), .ref (am + 104), .ref (am + 109), .ref (am + 138), .ref (am + 143), .ref (am + 144), .ref (am + 145), .ref (am + 146), .ref (am + 147), .ref (am + 169), .ref (am + 170), .ref (am + 171), .ref (am + 172), .ref (am + 173), .ref (am + 178), .null, .int 0, .int 0, .int 0, .int 0] := by
  show (fsX am 28).set 28 (.ref (am + 178)) = _
  rw [fsX_28]
  rfl
theorem fsX_30 (am : Nat) : fsX am 30 = [.ref (am + 1), .ref (am + 2), .ref (am + 3), .ref (am + 4), .ref (am + 9), .ref (am + 14), .ref (am + 15), .ref (am + 44), .ref (am + 73), .ref (am + 78), .ref (am + 83), .ref (am + 84), .ref (am + 89), .ref (am + 94), .ref (am + 99), .ref (am + 104), .ref (am + 109), .ref (am + 138), .ref (am + 143), .ref (am + 144), .ref (am + 145), .ref (am + 146), .ref (am + 147), .ref (am + 169), .ref (am + 170), .ref (am + 171), .ref (am + 172), .ref (am + 173), .ref (am + 178), .ref (am + 179), .int 0, .int 0, .int 0, .int 0] := by
  show (fsX am 29).set 29 (.ref (am + 179)) = _
  rw [fsX_29]
  rfl
theorem mC_0 (am : Nat) : mCell am mu0 nu0 0 = some (.inr (11, fsX am 30)) := by
  have e : mObj am mu0 = fsX am 30 := by
    rw [fsX_30]
    rfl
  unfold mCell
  rw [if_pos rfl, e]
theorem S0_0 (ht : t0 < base) {l : Nat → Option zz_C} (X : lX t0 base l) {h2 : zz_H} {x : zz_C} (Y : XI (zz_u (AL t0 base l) (base + 14) x) (base + 14) h2 180 30) : S0 (adI base) (ivI base) lvI t0 base (base + 14) (base + 14 + 180) (base + 14 + 180 + 1) ka0 nu0 mu0 nu0 (zz_u (zz_u h2 (base + 14 + 180) (.inl (3, (1, .inr (.inl (fun _ => 0)))))) (base + 14 + 180 + 1) (.inl (4, (1, .inr (.inr (.inr (.inl (fun _ => 0)))))))) (base + 14 + 180 + 1 + 1) := by
  obtain ⟨y1, y2, y3⟩ := Y
  have low : ∀ q, q < base + 14 → (zz_u (zz_u h2 (base + 14 + 180) (.inl (3, (1, .inr (.inl (fun _ => 0)))))) (base + 14 + 180 + 1) (.inl (4, (1, .inr (.inr (.inr (.inl (fun _ => 0)))))))) q = AL t0 base l q := fun q hq => by
    rw [zz_un (by omega), zz_un (by omega), y2 q (by omega) (by omega), zz_un (by omega)]
  refine ⟨fun o ho => ?_, fun q o e => ?_, fun q o e => ?_, fun o ho => ?_, ⟨_, by rw [zz_un (by omega)]; exact zz_us⟩, ⟨_, zz_us⟩, fun q o e => ?_, by omega, rfl, ?_, fun q o e => ?_⟩
  · obtain ⟨a1, a2⟩ := idl_o (lvI_m ho)
    unfold ivI adI
    rw [if_pos (by omega), Nat.add_sub_cancel_left, a2]
  · obtain ⟨k, hk, rfl, rfl⟩ := ivI_m e
    unfold adI
    rw [(idl_k hk).1]
  · obtain ⟨k, hk, rfl, rfl⟩ := ivI_m e
    rw [low _ (by omega), AL_at ht rfl]
    exact lX_c X hk
  · by_cases g : o = 0
    · rw [g, Nat.add_zero, zz_un (by omega), zz_un (by omega), y1, mC_0]
    · rw [zz_un (by omega), zz_un (by omega)]
      exact y3 o (by omega) ho
  · obtain ⟨k, hk, rfl, rfl⟩ := ivI_m e
    omega
  · rw [low _ (by omega)]
    exact AL_t
  · obtain ⟨k, hk, rfl, rfl⟩ := ivI_m e
    exact decide_eq_true (idl_k hk).2
theorem lvI_0 {o : Nat} (h : 7 ≤ o ∧ o < 800 ∨ 804 ≤ o ∧ o < 1004 ∨ 1007 ≤ o) : lvI o = false := decide_eq_false (fun q => by
  have : o = 0 ∨ o = 1 ∨ o = 2 ∨ o = 3 ∨ o = 4 ∨ o = 5 ∨ o = 1005 ∨ o = 6 ∨ o = 1006 ∨ o = 800 ∨ o = 1004 ∨ o = 801 ∨ o = 802 ∨ o = 803 := by simpa [idl] using q
  omega)
theorem LV_0 : LV lvI 0 := fun s _ hs o ho => lvI_0 (by unfold FK at ho; omega)
theorem RR_0 : RR lvI ka0 nu0 mu0 nu0 0 0 0 0 := by
  have z : ∀ o i, o < 178 → mu0 o i = 0 := fun o i h => mu0_z (by omega) (by omega)
  refine ⟨⟨⟨by decide, by decide⟩, by decide, by decide, by decide, by decide, rfl, rfl, rfl⟩, ⟨⟨⟨by decide, by decide⟩, rfl, fun q => absurd q (by decide), fun _ => rfl⟩, ⟨⟨by decide, by decide⟩, rfl, fun q => absurd q (by decide), fun _ => rfl⟩, ⟨⟨by decide, by decide⟩, rfl, fun q => absurd q (by decide), fun _ => rfl⟩, ⟨⟨by decide, by decide⟩, rfl, fun _ => ⟨by decide, by decide⟩, fun q => absurd q (by decide)⟩, ⟨⟨by decide, by decide⟩, by decide, by decide⟩, ⟨⟨by decide, by decide⟩, by decide, by decide⟩⟩, fun s hs => absurd hs (Nat.not_lt_zero _), fun s _ hs => ?_, fun b hb => absurd hb (Nat.not_lt_zero _), fun b _ hb x y hx hy => z _ _ (by omega), fun j hj => absurd hj (Nat.not_lt_zero _), fun j _ hj => ⟨z _ _ (by omega), z _ _ (by omega)⟩, fun j hj => ?_, fun s hs => absurd hs (Nat.not_lt_zero _), fun s1 s2 h1 _ => absurd h1 (Nat.not_lt_zero _)⟩
  · exact ⟨z _ _ (by omega), z _ _ (by omega), z _ _ (by omega), z _ _ (by omega), z _ _ (by omega), fun x y hx hy => z _ _ (by omega), fun k hk => z _ _ (by omega)⟩
  · rcases (show j = 0 ∨ j = 1 ∨ j = 2 ∨ j = 3 by omega) with rfl | rfl | rfl | rfl <;> exact ⟨⟨by decide, by decide⟩, by decide, by decide⟩
end ZYC
