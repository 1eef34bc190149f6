section ZCG
variable {α β : Type} {cv : α → β} {h : zz_H} {ad : Nat → Nat} {iv : Nat → Option Nat} {t0 : Nat} {lv : Nat → Bool} {κ : zzM} {ν : zzN}
/-- a list's last element goes -/
theorem zc_rem (hl : ∀ o, lv o = true → iv (ad o) = some o) (hI : ∀ q o, iv q = some o → ad o = q) {o : Nat} {i : Int32} (g1 : lv o = true) (g2 : co o = 0) (g3 : lv (o + 1000) = true) (hi : (κ o 2).toNatClampNeg = i.toNatClampNeg + 1) {x : zz_C} (hx : x = .inr (0, cFs ad t0 (zset (zset κ o 2 i) o 0 (κ o 0 + 1) o) (ν o) 0 o)) {y z : zz_C} :
    zz_u (zz_u (zz_u (zc h ad iv t0 κ ν) (ad o) y) (ad o) x) (ad (o + 1000)) (zz_Q 5 10 (va_up (fun j => if j < (κ o 2).toNatClampNeg then some (ad (child o j)) else none) i.toNatClampNeg none)) = zc h ad iv t0 (zset (zset κ o 2 i) o 0 (κ o 0 + 1)) ν := by
  have hne : ad (o + 1000) ≠ ad o := by
    intro q
    have h1 := hl _ g3
    rw [q, hl _ g1] at h1
    have := Option.some.inj h1
    omega
  have hk : ∀ o', o' ≠ o → zset (zset κ o 2 i) o 0 (κ o 0 + 1) o' = κ o' := fun o' h => by rw [zset_o h, zset_o h]
  have hs : zset (zset κ o 2 i) o 0 (κ o 0 + 1) o 2 = i := by
    unfold zset
    rw [if_neg (fun q => by cases q.2), if_pos ⟨rfl, rfl⟩]
  funext q
  by_cases hq : q = ad (o + 1000)
  · subst hq
    rw [zz_us, zc_li hl g3 g2]
    congr 3
    have hf : va_up (fun j => if j < (κ o 2).toNatClampNeg then some (ad (child o j)) else none) i.toNatClampNeg none = (fun j => if j < (zset (zset κ o 2 i) o 0 (κ o 0 + 1) o 2).toNatClampNeg then some (ad (child o j)) else none) := by
      funext j
      rw [hs, hi]
      unfold va_up
      by_cases h1 : j = i.toNatClampNeg
      · rw [if_pos h1, if_neg (by omega)]
      · rw [if_neg h1]
        show (if j < i.toNatClampNeg + 1 then _ else _) = _
        by_cases h2 : j < i.toNatClampNeg
        · rw [if_pos (by omega), if_pos h2]
        · rw [if_neg (by omega), if_neg h2]
    rw [hf]
  · rw [zz_un hq]
    by_cases hq2 : q = ad o
    · subst hq2
      rw [zz_us, zc_ob hl ⟨g1, g2⟩ (by decide), hx]
    · rw [zz_un hq2, zz_un hq2]
      unfold zc
      cases hv : iv q with
      | none => rfl
      | some o' =>
        have hn : o' ≠ o := by
          rintro rfl
          exact hq2 (hI q o' hv).symm
        have hn2 : o' ≠ o + 1000 := by
          rintro rfl
          exact hq (hI q _ hv).symm
        show cCell ad t0 κ ν o' = cCell ad t0 _ ν o'
        unfold cCell
        rw [hk o' hn]
        by_cases hoo : o' - 1000 = o
        · have hc : o' < 1000 := by omega
          rw [if_pos hc, if_pos hc]
        · rw [hk _ hoo]
theorem sc_rem (hl : ∀ o, lv o = true → iv (ad o) = some o) (hI : ∀ q o, iv q = some o → ad o = q) {o : Nat} {i : Int32} {K' : Nat → zzM → Option α} {K : Option Nat → zz_H → Option β} (kk : ∀ v κ', zLe cv (K' v κ') (K (some (ad v)) (zc h ad iv t0 κ' ν))) : zLe cv (crem lv κ o i K') (zz_b1 (f_Jx4a65c_remove_915e3 (ad o) i (zc h ad iv t0 κ ν)) K) := by
  intro r e
  unfold crem at e
  split at e
  · next hg =>
    obtain ⟨g1, g2, g3, g4, g5, g6, g8, g7⟩ := hg
    have hc := zi_clt g5 g6
    have hsub : κ o 2 - 1 = i := by rw [← g8, Int32.add_sub_cancel]
    have hi : (κ o 2).toNatClampNeg = i.toNatClampNeg + 1 := by
      rw [Int32.lt_iff_toInt_lt] at g5 g6
      have hz : (0 : Int32).toInt = 0 := rfl
      have h1 : (i + 1).toInt = i.toInt + 1 := by
        have h2 := Int32.toInt_lt (κ o 2)
        rw [Int32.toInt_add, Int32.toInt_one, Int.bmod_eq_of_le_mul_two] <;> omega
      have h3 : (κ o 2).toInt = i.toInt + 1 := by rw [← g8, h1]
      show (κ o 2).toInt.toNat = i.toInt.toNat + 1
      omega
    have hob := zc_ob (h := h) (t0 := t0) (κ := κ) (ν := ν) hl ⟨g1, g2⟩ (show 0 ≠ 99 by decide)
    have e0 : (cFs ad t0 (κ o) (ν o) 0 o)[0]? = some (.int (κ o 0)) := rfl
    have e2 : (cFs ad t0 (κ o) (ν o) 0 o)[2]? = some (.int (κ o 2)) := rfl
    have e1 : (cFs ad t0 (κ o) (ν o) 0 o)[1]? = some (.ref (ad (o + 1000))) := by
      show some (Value.ref (if κ o 3 = 0 then t0 else ad (o + 1000))) = _
      rw [if_neg g4]
    have hck : f_J15_checkIndex_7cf53 i (κ o 2) (zc h ad iv t0 κ ν) = some i := by
      unfold f_J15_checkIndex_7cf53 f_J3_checkIndex_8e157
      rw [if_neg g5, if_pos g6]
      rfl
    have hne : ad (o + 1000) ≠ ad o := by
      intro q
      have h1 := hl _ g3
      rw [q, hl _ g1] at h1
      have := Option.some.inj h1
      omega
    have hx : zz_u (zz_u (zz_u (zc h ad iv t0 κ ν) (ad o) (.inr (0, (cFs ad t0 (κ o) (ν o) 0 o).set 0 (.int (κ o 0 + 1))))) (ad o) (.inr (0, ((cFs ad t0 (κ o) (ν o) 0 o).set 0 (.int (κ o 0 + 1))).set 2 (.int i)))) (ad (o + 1000)) (zz_Q 5 10 (va_up (fun j => if j < (κ o 2).toNatClampNeg then some (ad (child o j)) else none) i.toNatClampNeg none)) = zc h ad iv t0 (zset (zset κ o 2 i) o 0 (κ o 0 + 1)) ν := zc_rem hl hI g1 g2 g3 hi (x := .inr (0, ((cFs ad t0 (κ o) (ν o) 0 o).set 0 (.int (κ o 0 + 1))).set 2 (.int i))) (y := .inr (0, (cFs ad t0 (κ o) (ν o) 0 o).set 0 (.int (κ o 0 + 1)))) (by
      have k0 : zset (zset κ o 2 i) o 0 (κ o 0 + 1) o 0 = κ o 0 + 1 := by unfold zset; rw [if_pos ⟨rfl, rfl⟩]
      have k2 : zset (zset κ o 2 i) o 0 (κ o 0 + 1) o 2 = i := by
        unfold zset
        rw [if_neg (fun q => by cases q.2), if_pos ⟨rfl, rfl⟩]
      have k3 : zset (zset κ o 2 i) o 0 (κ o 0 + 1) o 3 = κ o 3 := by
        unfold zset
        rw [if_neg (fun q => by cases q.2), if_neg (fun q => by cases q.2)]
      show _ = Sum.inr (0, [Value.int (zset (zset κ o 2 i) o 0 (κ o 0 + 1) o 0), Value.ref (if zset (zset κ o 2 i) o 0 (κ o 0 + 1) o 3 = 0 then t0 else ad (o + 1000)), Value.int (zset (zset κ o 2 i) o 0 (κ o 0 + 1) o 2)])
      rw [k0, k2, k3]
      rfl) (z := .inl (0, 0, .inl (fun _ => 0)))
    have hf : f_Jx4a65c_fastRemove_b59b0 (ad o) (some (ad (o + 1000))) i (zc h ad iv t0 κ ν) = some ((), zc h ad iv t0 (zset (zset κ o 2 i) o 0 (κ o 0 + 1)) ν) := by
      unfold f_Jx4a65c_fastRemove_b59b0 zz_gi
      simp only [hob, if_true, e0]
      unfold zz_p
      simp only [hob, true_and, zz_us]
      rw [if_pos (show 0 < (cFs ad t0 (κ o) (ν o) 0 o).length from (by decide : 0 < 3))]
      have e3 : ((cFs ad t0 (κ o) (ν o) 0 o).set 0 (.int (κ o 0 + 1)))[2]? = some (.int (κ o 2)) := rfl
      simp only [if_true, e3, hsub]
      rw [if_pos (Int32.le_refl _), if_pos (show 2 < ((cFs ad t0 (κ o) (ν o) 0 o).set 0 (.int (κ o 0 + 1))).length from (by decide : 2 < 3))]
      unfold zz_sq
      simp only [zz_un hne, zc_li hl g3 g2]
      rw [if_pos ⟨trivial, by rintro (q | q); exact g5 q; omega⟩]
      rw [hx]
    have h1 : f_Jx4a65c_remove_915e3 (ad o) i (zc h ad iv t0 κ ν) = some (some (ad (child o i.toNatClampNeg)), zc h ad iv t0 (zset (zset κ o 2 i) o 0 (κ o 0 + 1)) ν) := by
      unfold f_Jx4a65c_remove_915e3 zz_gi zz_gq
      simp only [hob, if_true, e2, hck, zz_b, e1]
      unfold zz_aq
      simp only [zc_li hl g3 g2]
      rw [if_pos ⟨trivial, by rintro (q | q); exact g5 q; omega⟩, if_pos hc]
      unfold zz_ob
      simp only [hob, if_true, hf]
      rfl
    unfold zz_b1
    rw [h1]
    exact kk _ _ r e
  · cases e
end ZCG
