section ZCF
variable {α β : Type} {cv : α → β} {h : zz_H} {ad : Nat → Nat} {iv : Nat → Option Nat} {t0 : Nat} {lv : Nat → Bool} {κ : zzM} {ν : zzN}
/-- a loop by the sequence of its states -/
theorem zz_it_run {σ γ : Type} {b : σ → Option (σ ⊕ γ)} {r : γ} : ∀ (N k : Nat) (st : Nat → σ), (∀ i, i < N → b (st i) = some (.inl (st (i + 1)))) → b (st N) = some (.inr r) → N < k → zz_it b k (st 0) = some r
  | 0, 0, _, _, _, hk => absurd hk (by decide)
  | 0, k + 1, st, _, he, _ => by
    unfold zz_it
    rw [he]
  | N + 1, 0, _, _, _, hk => absurd hk (by omega)
  | N + 1, k + 1, st, hs, he, hk => by
    unfold zz_it
    rw [hs 0 (by omega)]
    exact zz_it_run N k (fun i => st (i + 1)) (fun i hi => hs (i + 1) (by omega)) he (by omega)
theorem cIs_n {o t n : Nat} (e : cIs o = some (t, n)) : n ≤ 56 := by
  unfold cIs at e
  split at e
  · cases e
  · split at e
    · split at e <;> first | (cases e; decide) | cases e
    · split at e
      · cases e; decide
      · cases e
theorem sc_fil (hl : ∀ o, lv o = true → iv (ad o) = some o) (hI : ∀ q o, iv q = some o → ad o = q) {o : Nat} {x : Int32} {K' : zzM → Option α} {K : Unit → zz_H → Option β} (kk : ∀ κ', zLe cv (K' κ') (K () (zc h ad iv t0 κ' ν))) : zLe cv (cfil lv κ o x K') (zz_b1 (f_J7_fill_53178 (some (ad o)) x (zc h ad iv t0 κ ν)) K) := by
  intro r e
  unfold cfil at e
  split at e
  · next t n hc =>
    split at e
    · next hg =>
      obtain ⟨g1, rfl⟩ := hg
      have hn := cIs_n hc
      have hlen : f_J7_fill_53178 (some (ad o)) x (zc h ad iv t0 κ ν) = zz_it (fun s : (Int32 × zz_H) => f_J7_fill_53178_5 (some (ad o)) x s.1 (Int32.ofNat n) s.2) zz_F ((0 : Int32), zc h ad iv t0 κ ν) := by
        unfold f_J7_fill_53178 zz_len
        simp only [zc_ar hl g1 hc]
        rfl
      have hrun := zz_it_run (b := fun s : (Int32 × zz_H) => f_J7_fill_53178_5 (some (ad o)) x s.1 (Int32.ofNat n) s.2) (r := ((), zc h ad iv t0 (fun o' i' => if o' = o ∧ i' < n then x else κ o' i') ν)) n zz_F (fun i => (Int32.ofNat i, zc h ad iv t0 (fun o' i' => if o' = o ∧ i' < i then x else κ o' i') ν)) (fun i hi => ?_) ?_ (by unfold zz_F; omega)
      · have h0 : (fun o' i' => if o' = o ∧ i' < 0 then x else κ o' i') = κ := by
          funext o' i'
          rw [if_neg (by omega)]
        rw [h0] at hrun
        unfold zz_b1
        rw [hlen]
        have h1 : Int32.ofNat 0 = 0 := rfl
        rw [h1] at hrun
        rw [hrun]
        exact kk _ r e
      · show f_J7_fill_53178_5 _ _ _ _ _ = _
        unfold f_J7_fill_53178_5
        have hlt : ¬ Int32.ofNat n ≤ Int32.ofNat i := by
          rw [Int32.ofNat_le_ofNat (by omega) (by omega)]
          omega
        rw [if_neg hlt]
        unfold zz_si
        simp only [zc_ar hl g1 hc]
        have hnn : (Int32.ofNat i).toNatClampNeg = i := Int32.toNatClampNeg_ofNat_of_lt (by omega)
        rw [if_pos ⟨trivial, by
          rintro (q | q)
          · rw [Int32.lt_iff_toInt_lt, Int32.toInt_ofNat_of_lt (by omega)] at q
            have hz : (0 : Int32).toInt = 0 := rfl
            omega
          · rw [hnn] at q; omega⟩, hnn]
        have h2 := zc_set (h := h) (t0 := t0) (ν := ν) (κ := fun o' i' => if o' = o ∧ i' < i then x else κ o' i') hl hI (κ' := fun o' i' => if o' = o ∧ i' < i + 1 then x else κ o' i') g1 hc (fun o' h => by
          funext i'
          rw [if_neg (fun q => h q.1), if_neg (fun q => h q.1)])
        have h3 : upd (fun i' => if True ∧ i' < i then x else κ o i') i x = (fun i' => if o = o ∧ i' < i + 1 then x else κ o i') := by
          funext i'
          unfold upd
          by_cases h5 : i' = i
          · rw [if_pos h5, if_pos ⟨rfl, by omega⟩]
          · rw [if_neg h5]
            show (if True ∧ i' < i then x else κ o i') = (if o = o ∧ i' < i + 1 then x else κ o i')
            by_cases h6 : i' < i
            · rw [if_pos (show True ∧ i' < i from ⟨trivial, h6⟩), if_pos (show o = o ∧ i' < i + 1 from ⟨rfl, by omega⟩)]
            · rw [if_neg (show ¬ (True ∧ i' < i) from fun q => h6 q.2), if_neg (show ¬ (o = o ∧ i' < i + 1) from fun q => by omega)]
        refine congrArg some (congrArg Sum.inl (Prod.ext ?_ ?_))
        · show Int32.ofNat i + 1 = Int32.ofNat (i + 1)
          rw [Int32.ofNat_add]
          rfl
        · exact (congrArg (fun f => zz_u (zc h ad iv t0 (fun o' i' => if o' = o ∧ i' < i then x else κ o' i') ν) (ad o) (zz_I 0 n f)) h3).trans h2
      · show f_J7_fill_53178_5 _ _ _ _ _ = _
        unfold f_J7_fill_53178_5
        rw [if_pos ((Int32.ofNat_le_ofNat (by omega) (by omega)).mpr (Nat.le_refl _))]
    · cases e
  · cases e
theorem sc_th0 {γ : Type} {x y : Option (γ ⊕ Nat)} {K' : γ → Option α} {K : γ → Option β} {E' : Nat → Option α} {E : Nat → Option β} (hx : zLe id x y) (kk : ∀ v, zLe cv (K' v) (K v)) (ke : ∀ e, zLe cv (E' e) (E e)) : zLe cv (zz_th x K' E') (zz_th y K E) := by
  intro r e
  rcases zz_th_i e with ⟨v, h1, h2⟩ | ⟨k, h1, h2⟩
  · rw [hx _ h1]
    exact kk v r h2
  · rw [hx _ h1]
    exact ke k r h2
end ZCF
