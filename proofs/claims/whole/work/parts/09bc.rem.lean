section ZCG
variable {α β : Type} {cv : α → β} {h : zz_H} {ad : Nat → Nat} {iv : Nat → Option Nat} {t0 : Nat} {lv : Nat → Bool} {κ : zzM} {ν : zzN}
/-- a list's last element goes -/
theorem zc_rem (hl : ∀ o, lv o = true → iv (ad o) = some o) (hI : ∀ q o, iv q = some o → ad o = q) {o : Nat} {i : Int32} (g1 : lv o = true) (g2 : co o = 0) (g3 : lv (o + 1000) = true) (hi : (κ o 2).toNatClampNeg = i.toNatClampNeg + 1) {x : zz_C} (hx : x = .inr (0, cFs ad t0 (zset (zset κ o 2 i) o 0 (κ o 0 + 1) o) (ν o) 0 o)) {y z : zz_C} :
    zz_u (zz_u (zz_u (zc h ad iv t0 κ ν) (ad o) y) (ad o) x) (ad (o + 1000)) (zz_Q 5 10 (va_up (fun j => if j < (κ o 2).toNatClampNeg then some (ad (child o j)) else none) i.toNatClampNeg none)) = zc h ad iv t0 (zset (zset κ o 2 i) o 0 (κ o 0 + 1)) ν := by
  have hne : ad (o + 1000) ≠ ad o := by
    intro q
    have h1 := hl _ g3
    rw [q, hl _ g1] at h1
    have := Option.some.inj h1
    omega
  have hk : ∀ o', o' ≠ o → zset (zset κ o 2 i) o 0 (κ o 0 + 1) o' = κ o' := fun o' h => by rw [zset_o h, zset_o h]
  have hs : zset (zset κ o 2 i) o 0 (κ o 0 + 1) o 2 = i := by
    unfold zset
    rw [if_neg (fun q => by cases q.2), if_pos ⟨rfl, rfl⟩]
  funext q
  by_cases hq : q = ad (o + 1000)
  · subst hq
    rw [zz_us, zc_li hl g3 g2]
    congr 3
    have hf : va_up (fun j => if j < (κ o 2).toNatClampNeg then some (ad (child o j)) else none) i.toNatClampNeg none = (fun j => if j < (zset (zset κ o 2 i) o 0 (κ o 0 + 1) o 2).toNatClampNeg then some (ad (child o j)) else none) := by
      funext j
      rw [hs, hi]
      unfold va_up
      by_cases h1 : j = i.toNatClampNeg
      · rw [if_pos h1, if_neg (by omega)]
      · rw [if_neg h1]
        show (if j < i.toNatClampNeg + 1 then _ else _) = _
        by_cases h2 : j < i.toNatClampNeg
        · rw [if_pos (by omega), if_pos h2]
        · rw [if_neg (by omega), if_neg h2]
    rw [hf]
  · rw [zz_un hq]
    by_cases hq2 : q = ad o
    · subst hq2
      rw [zz_us, zc_ob hl ⟨g1, g2⟩ (by decide), hx]
    · rw [zz_un hq2, zz_un hq2]
      unfold zc
      cases hv : iv q with
      | none => rfl
      | some o' =>
        have hn : o' ≠ o := by
          rintro rfl
          exact hq2 (hI q o' hv).symm
        have hn2 : o' ≠ o + 1000 := by
          rintro rfl
          exact hq (hI q _ hv).symm
        show cCell ad t0 κ ν o' = cCell ad t0 _ ν o'
        unfold cCell
        rw [hk o' hn]
        by_cases hoo : o' - 1000 = o
        · have hc : o' < 1000 := by omega
          rw [if_pos hc, if_pos hc]
        · rw [hk _ hoo]
end ZCG
