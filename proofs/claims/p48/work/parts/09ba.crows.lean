section ZCR
/-! rows: f_ over the class's heap follows g_ -/
variable {α β : Type} {cv : α → β} {h : zz_H} {ad : Nat → Nat} {iv : Nat → Option Nat} {t0 : Nat} {lv : Nat → Bool} {κ : zzM} {ν : zzN}
theorem zc_at (hl : ∀ o, lv o = true → iv (ad o) = some o) {o : Nat} (ho : lv o = true) : zc h ad iv t0 κ ν (ad o) = cCell ad t0 κ ν o := by
  unfold zc
  rw [hl o ho]
theorem zc_ob (hl : ∀ o, lv o = true → iv (ad o) = some o) {o ci : Nat} (hg : lv o = true ∧ co o = ci) (h99 : ci ≠ 99) : zc h ad iv t0 κ ν (ad o) = some (.inr (ci, cFs ad t0 (κ o) (ν o) ci o)) := by
  have h1 : co o ≠ 99 := by rw [hg.2]; exact h99
  have h2 := co_lt h1
  rw [zc_at hl hg.1]
  unfold cCell
  rw [if_pos (by omega), if_neg h1, hg.2]
theorem c99 {k : Nat} {v : Value} {ci : Nat} {ad : Nat → Nat} {t0 : Nat} {f : Nat → Int32} {g : Nat → Int64} {o : Nat} (hk : (cFs ad t0 f g ci o)[k]? = some v) : ci ≠ 99 := by
  intro q
  subst q
  simp [cFs] at hk
theorem sc_gi (hl : ∀ o, lv o = true → iv (ad o) = some o) (hI : ∀ q o, iv q = some o → ad o = q) {ci o k : Nat} {x : Option α} {K : Int32 → Option β} (hk : ∀ (ad : Nat → Nat) (t0 : Nat) (f : Nat → Int32) (g : Nat → Int64) (o : Nat), (cFs ad t0 f g ci o)[k]? = some (.int (f k))) (kk : zLe cv x (K (κ o k))) : zLe cv (cgd lv ci o x) (zz_gi (zc h ad iv t0 κ ν) (some (ad o)) ci k K) := by
  intro r e
  unfold cgd at e
  split at e
  · next hg =>
    unfold zz_gi
    simp only [zc_ob hl hg (c99 (hk ad t0 (κ o) (ν o) o)), if_true, hk]
    exact kk r e
  · cases e
theorem sc_gl (hl : ∀ o, lv o = true → iv (ad o) = some o) (hI : ∀ q o, iv q = some o → ad o = q) {ci o k : Nat} {x : Option α} {K : Int64 → Option β} (hk : ∀ (ad : Nat → Nat) (t0 : Nat) (f : Nat → Int32) (g : Nat → Int64) (o : Nat), (cFs ad t0 f g ci o)[k]? = some (.long (g k))) (kk : zLe cv x (K (ν o k))) : zLe cv (cgd lv ci o x) (zz_gl (zc h ad iv t0 κ ν) (some (ad o)) ci k K) := by
  intro r e
  unfold cgd at e
  split at e
  · next hg =>
    unfold zz_gl
    simp only [zc_ob hl hg (c99 (hk ad t0 (κ o) (ν o) o)), if_true, hk]
    exact kk r e
  · cases e
theorem sc_gq (hl : ∀ o, lv o = true → iv (ad o) = some o) (hI : ∀ q o, iv q = some o → ad o = q) {ci o k δ : Nat} {x : Option α} {K : Option Nat → Option β} (hk : ∀ (ad : Nat → Nat) (t0 : Nat) (f : Nat → Int32) (g : Nat → Int64) (o : Nat), (cFs ad t0 f g ci o)[k]? = some (.ref (ad (o + δ)))) (kk : zLe cv x (K (some (ad (o + δ))))) : zLe cv (cgd lv ci o x) (zz_gq (zc h ad iv t0 κ ν) (some (ad o)) ci k K) := by
  intro r e
  unfold cgd at e
  split at e
  · next hg =>
    unfold zz_gq
    simp only [zc_ob hl hg (c99 (hk ad t0 (κ o) (ν o) o)), if_true, hk]
    exact kk r e
  · cases e
theorem sc_gn (hl : ∀ o, lv o = true → iv (ad o) = some o) (hI : ∀ q o, iv q = some o → ad o = q) {o : Nat} {x : Option α} {K : Option Nat → Option β} (kk : zLe cv x (K (Option.map ad (cloth κ o)))) : zLe cv (cgd lv 2 o x) (zz_gq (zc h ad iv t0 κ ν) (some (ad o)) 2 3 K) := by
  intro r e
  unfold cgd at e
  split at e
  · next hg =>
    have h1 : (cFs ad t0 (κ o) (ν o) 2 o)[3]? = some (va_rf (Option.map ad (cloth κ o))) := rfl
    unfold zz_gq
    simp only [zc_ob hl hg (by decide), if_true, h1]
    have h2 := kk r e
    cases hv : Option.map ad (cloth κ o) with
    | none => rw [hv] at h2; exact h2
    | some a => rw [hv] at h2; exact h2
  · cases e
theorem sc_ob (hl : ∀ o, lv o = true → iv (ad o) = some o) (hI : ∀ q o, iv q = some o → ad o = q) {ci o : Nat} {x : Option α} {K : Nat → Option β} (kk : zLe cv x (K (ad o))) (h99 : ci ≠ 99 := by decide) : zLe cv (cgd lv ci o x) (zz_ob (zc h ad iv t0 κ ν) (some (ad o)) ci K) := by
  intro r e
  unfold cgd at e
  split at e
  · next hg =>
    unfold zz_ob
    simp only [zc_ob hl hg h99, if_true]
    exact kk r e
  · cases e
theorem sc_cc (hl : ∀ o, lv o = true → iv (ad o) = some o) (hI : ∀ q o, iv q = some o → ad o = q) {ci o : Nat} {x : Option α} {y : Option β} (kk : zLe cv x y) (h99 : ci ≠ 99 := by decide) : zLe cv (cgd lv ci o x) (zz_cc (zc h ad iv t0 κ ν) (some (ad o)) ci y) := by
  intro r e
  unfold cgd at e
  split at e
  · next hg =>
    unfold zz_cc
    simp only [zc_ob hl hg h99, if_true]
    exact kk r e
  · cases e
theorem sc_obn (hl : ∀ o, lv o = true → iv (ad o) = some o) (hI : ∀ q o, iv q = some o → ad o = q) {ci : Nat} {v : Option Nat} {K' : Nat → Option α} {K : Nat → Option β} (kk : ∀ o, zLe cv (K' o) (K (ad o))) (h99 : ci ≠ 99 := by decide) : zLe cv (cgn lv ci v K') (zz_ob (zc h ad iv t0 κ ν) (Option.map ad v) ci K) := by
  cases v with
  | none => exact sm_none
  | some o => exact sc_ob hl hI (kk o) h99
theorem sc_null {v : Option Nat} {x x' : Option α} {y y' : Option β} (h1 : v = none → zLe cv x y) (h2 : ¬ v = none → zLe cv x' y') : zLe cv (if v = none then x else x') (if Option.map ad v = none then y else y') := by
  cases v with
  | none => rw [if_pos rfl, if_pos (show Option.map ad none = none from rfl)]; exact h1 rfl
  | some o => rw [if_neg (by simp), if_neg (by simp)]; exact h2 (by simp)
theorem sc_acmp (hl : ∀ o, lv o = true → iv (ad o) = some o) (hI : ∀ q o, iv q = some o → ad o = q) {v w : Option Nat} {x x' : Option α} {y y' : Option β} (h1 : v = w → zLe cv x y) (h2 : ¬ v = w → zLe cv x' y') : zLe cv (ceq lv v w x x') (if Option.map ad v = Option.map ad w then y else y') := by
  intro r e
  unfold ceq at e
  split at e
  · next hg =>
    by_cases hvw : v = w
    · rw [if_pos hvw] at e
      rw [if_pos (by rw [hvw])]
      exact h1 hvw r e
    · rw [if_neg hvw] at e
      rw [if_neg ?_]
      · exact h2 hvw r e
      · intro q
        apply hvw
        cases v with
        | none => cases w with
          | none => rfl
          | some b => cases q
        | some a => cases w with
          | none => cases q
          | some b =>
            have q1 : ad a = ad b := Option.some.inj q
            have q2 := hl a (hg.1 a rfl)
            rw [q1, hl b (hg.2 b rfl)] at q2
            exact q2.symm
  · cases e
theorem sc_th {γ γ' : Type} {c : γ → γ'} {x : Option (γ ⊕ Nat)} {y : Option (γ' ⊕ Nat)} {K' : γ → Option α} {K : γ' → Option β} {E' : Nat → Option α} {E : Nat → Option β} (hx : zLe (Sum.map c id) x y) (kk : ∀ v, zLe cv (K' v) (K (c v))) (ke : ∀ e, zLe cv (E' e) (E e)) : zLe cv (zz_th x K' E') (zz_th y K E) := by
  intro r e
  rcases zz_th_i e with ⟨v, h1, h2⟩ | ⟨k, h1, h2⟩
  · rw [hx _ h1]
    exact kk v r h2
  · rw [hx _ h1]
    exact ke k r h2
theorem sc_b {γ γ' : Type} {c : γ → γ'} {x : Option γ} {y : Option γ'} {K' : γ → Option α} {K : γ' → Option β} (hx : zLe c x y) (kk : ∀ v, zLe cv (K' v) (K (c v))) : zLe cv (zz_b x K') (zz_b y K) := by
  intro r e
  obtain ⟨v, h1, h2⟩ := zz_b_i e
  rw [hx v h1]
  exact kk v r h2
theorem sc_b1 {γ : Type} {x : Option (γ × zzM × zzN)} {y : Option (γ × zz_H)} {K' : γ → zzM → zzN → Option α} {K : γ → zz_H → Option β} (hx : zLe (fun r : γ × zzM × zzN => (r.1, zc h ad iv t0 r.2.1 r.2.2)) x y) (kk : ∀ v κ' ν', zLe cv (K' v κ' ν') (K v (zc h ad iv t0 κ' ν'))) : zLe cv (zz_g1 x K') (zz_b1 y K) := by
  intro r e
  unfold zz_g1 at e
  split at e
  · rw [hx _ rfl]
    exact kk _ _ _ r e
  · cases e
theorem zc_put (hl : ∀ o, lv o = true → iv (ad o) = some o) (hI : ∀ q o, iv q = some o → ad o = q) {o ci k : Nat} {val : Value} {κ' : zzM} {ν' : zzN} (hg : lv o = true ∧ co o = ci) (h0 : ci ≠ 0) (h99 : ci ≠ 99) (hs : (cFs ad t0 (κ o) (ν o) ci o).set k val = cFs ad t0 (κ' o) (ν' o) ci o) (ho : ∀ o', o' ≠ o → κ' o' = κ o' ∧ ν' o' = ν o') : zz_u (zc h ad iv t0 κ ν) (ad o) (.inr (ci, (cFs ad t0 (κ o) (ν o) ci o).set k val)) = zc h ad iv t0 κ' ν' := by
  funext q
  by_cases hq : q = ad o
  · subst hq
    rw [zz_us, zc_ob hl hg h99, hs]
  · rw [zz_un hq]
    unfold zc
    cases hv : iv q with
    | none => rfl
    | some o' =>
      have hne : o' ≠ o := by
        rintro rfl
        exact hq (hI q o' hv).symm
      show cCell ad t0 κ ν o' = cCell ad t0 κ' ν' o'
      unfold cCell
      rw [(ho o' hne).1, (ho o' hne).2]
      by_cases hoo : o' - 1000 = o
      · have hc : ¬ (o' < 2000 ∧ co (o' - 1000) = 0) := fun z => h0 (by rw [← hg.2, ← hoo]; exact z.2)
        simp only [if_neg hc]
      · rw [(ho _ hoo).1]
theorem sc_p (hl : ∀ o, lv o = true → iv (ad o) = some o) (hI : ∀ q o, iv q = some o → ad o = q) {ci o k : Nat} {v : Int32} {x : Option α} {K : zz_H → Option β} (hk : ∀ (ad : Nat → Nat) (t0 : Nat) (f : Nat → Int32) (g : Nat → Int64) (o : Nat) (v : Int32), (cFs ad t0 f g ci o).set k (.int v) = cFs ad t0 (upd f k v) g ci o ∧ k < (cFs ad t0 f g ci o).length) (kk : zLe cv x (K (zc h ad iv t0 (zset κ o k v) ν))) (h0 : ci ≠ 0 := by decide) (h99 : ci ≠ 99 := by decide) : zLe cv (cgd lv ci o x) (zz_p (zc h ad iv t0 κ ν) (some (ad o)) ci k (.int v) K) := by
  intro r e
  unfold cgd at e
  split at e
  · next hg =>
    obtain ⟨h1, h2⟩ := hk ad t0 (κ o) (ν o) o v
    unfold zz_p
    simp only [zc_ob hl hg h99, true_and, if_pos h2]
    rw [zc_put hl hI (κ' := zset κ o k v) (ν' := ν) hg h0 h99 (by rw [h1, zset_s]) (fun o' h => ⟨zset_o h, rfl⟩)]
    exact kk r e
  · cases e
theorem sc_pl (hl : ∀ o, lv o = true → iv (ad o) = some o) (hI : ∀ q o, iv q = some o → ad o = q) {ci o k : Nat} {v : Int64} {x : Option α} {K : zz_H → Option β} (hk : ∀ (ad : Nat → Nat) (t0 : Nat) (f : Nat → Int32) (g : Nat → Int64) (o : Nat) (v : Int64), (cFs ad t0 f g ci o).set k (.long v) = cFs ad t0 f (vp_updL g k v) ci o ∧ k < (cFs ad t0 f g ci o).length) (kk : zLe cv x (K (zc h ad iv t0 κ (zsetN ν o k v)))) (h0 : ci ≠ 0 := by decide) (h99 : ci ≠ 99 := by decide) : zLe cv (cgd lv ci o x) (zz_p (zc h ad iv t0 κ ν) (some (ad o)) ci k (.long v) K) := by
  intro r e
  unfold cgd at e
  split at e
  · next hg =>
    obtain ⟨h1, h2⟩ := hk ad t0 (κ o) (ν o) o v
    unfold zz_p
    simp only [zc_ob hl hg h99, true_and, if_pos h2]
    rw [zc_put hl hI (κ' := κ) (ν' := zsetN ν o k v) hg h0 h99 (by rw [h1, zsetN_s]) (fun o' h => ⟨rfl, zsetN_o h⟩)]
    exact kk r e
  · cases e
theorem sc_pn (hl : ∀ o, lv o = true → iv (ad o) = some o) (hI : ∀ q o, iv q = some o → ad o = q) {o : Nat} {v : Option Nat} {x : Option α} {K : zz_H → Option β} (kk : zLe cv x (K (zc h ad iv t0 (zset κ o 3 (cloth1 v)) ν))) : zLe cv (cgc v (cgd lv 2 o x)) (zz_p (zc h ad iv t0 κ ν) (some (ad o)) 2 3 (va_rf (Option.map ad v)) K) := by
  intro r e
  unfold cgc at e
  split at e
  · next hv =>
    unfold cgd at e
    split at e
    · next hg =>
      have h1 : (cFs ad t0 (κ o) (ν o) 2 o).set 3 (va_rf (Option.map ad v)) = cFs ad t0 (upd (κ o) 3 (cloth1 v)) (ν o) 2 o := by
        show _ = [_, _, _, va_rf (Option.map ad (clothv (cloth1 v))), _, _, _]
        rw [hv]
        rfl
      unfold zz_p
      simp only [zc_ob hl hg (show 2 ≠ 99 by decide), true_and, if_pos (show 3 < (cFs ad t0 (κ o) (ν o) 2 o).length from (by decide : 3 < 7))]
      rw [zc_put hl hI (κ' := zset κ o 3 (cloth1 v)) (ν' := ν) hg (by decide) (by decide) (by rw [h1, zset_s]) (fun o' h => ⟨zset_o h, rfl⟩)]
      exact kk r e
    · cases e
  · cases e
theorem cIs_i {o : Nat} {r : Nat × Nat} (e : cIs o = some r) : 1000 ≤ o := by
  refine Nat.not_lt.mp fun q => ?_
  unfold cIs at e
  rw [if_pos q] at e
  cases e
theorem zc_ar (hl : ∀ o, lv o = true → iv (ad o) = some o) {o t n : Nat} (ho : lv o = true) (e : cIs o = some (t, n)) : zc h ad iv t0 κ ν (ad o) = some (zz_I t n (κ o)) := by
  have h1 := cIs_i e
  rw [zc_at hl ho]
  unfold cCell
  rw [if_neg (by omega), e]
theorem sc_ai (hl : ∀ o, lv o = true → iv (ad o) = some o) (hI : ∀ q o, iv q = some o → ad o = q) {t o : Nat} {i : Int32} {K' : Int32 → Option α} {K : Int32 → Option β} (kk : ∀ v, zLe cv (K' v) (K v)) : zLe cv (cai lv t κ o i K') (zz_ai t (zc h ad iv t0 κ ν) (some (ad o)) i K) := by
  intro r e
  unfold cai at e
  split at e
  · next t' n hc =>
    split at e
    · next hg =>
      unfold zz_ai
      simp only [zc_ar hl hg.1 hc]
      rw [if_pos hg.2]
      exact kk _ r e
    · cases e
  · cases e
theorem sc_len (hl : ∀ o, lv o = true → iv (ad o) = some o) (hI : ∀ q o, iv q = some o → ad o = q) {o : Nat} {K' : Int32 → Option α} {K : Int32 → Option β} (kk : ∀ v, zLe cv (K' v) (K v)) : zLe cv (clen lv o K') (zz_len (zc h ad iv t0 κ ν) (some (ad o)) K) := by
  intro r e
  unfold clen at e
  split at e
  · next t n hc =>
    split at e
    · next hg =>
      unfold zz_len
      simp only [zc_ar hl hg.1 hc]
      rw [if_pos (Nat.lt_succ_of_lt hg.2)]
      exact kk _ r e
    · cases e
  · cases e
theorem zc_set (hl : ∀ o, lv o = true → iv (ad o) = some o) (hI : ∀ q o, iv q = some o → ad o = q) {o t n : Nat} {κ' : zzM} (ho : lv o = true) (e : cIs o = some (t, n)) (hne : ∀ o', o' ≠ o → κ' o' = κ o') : zz_u (zc h ad iv t0 κ ν) (ad o) (zz_I t n (κ' o)) = zc h ad iv t0 κ' ν := by
  have h1 := cIs_i e
  funext q
  by_cases hq : q = ad o
  · subst hq
    rw [zz_us, zc_ar hl ho e]
  · rw [zz_un hq]
    unfold zc
    cases hv : iv q with
    | none => rfl
    | some o' =>
      have hn : o' ≠ o := by
        rintro rfl
        exact hq (hI q o' hv).symm
      show cCell ad t0 κ ν o' = cCell ad t0 κ' ν o'
      unfold cCell
      rw [hne o' hn]
      by_cases hoo : o' - 1000 = o
      · have hc : ¬ (o' < 2000 ∧ co (o' - 1000) = 0) := fun z => by omega
        simp only [if_neg hc]
      · rw [hne _ hoo]
theorem sc_si (hl : ∀ o, lv o = true → iv (ad o) = some o) (hI : ∀ q o, iv q = some o → ad o = q) {t o : Nat} {i x : Int32} {K' : zzM → Option α} {K : zz_H → Option β} (kk : ∀ κ', zLe cv (K' κ') (K (zc h ad iv t0 κ' ν))) : zLe cv (csi lv t κ o i x K') (zz_si t (zc h ad iv t0 κ ν) (some (ad o)) i x K) := by
  intro r e
  unfold csi at e
  split at e
  · next t' n hc =>
    split at e
    · next hg =>
      obtain ⟨g1, g2⟩ := hg
      unfold zz_si
      simp only [zc_ar hl g1 hc]
      rw [if_pos g2]
      obtain ⟨rfl, -⟩ := g2
      have h2 := zc_set (h := h) (t0 := t0) (ν := ν) hl hI (κ' := zset κ o i.toNatClampNeg x) g1 hc (fun o' h => zset_o h)
      rw [zset_s] at h2
      rw [h2]
      exact kk _ r e
    · cases e
  · cases e
theorem sc_size (hl : ∀ o, lv o = true → iv (ad o) = some o) (hI : ∀ q o, iv q = some o → ad o = q) {o : Nat} {x : Option α} {K : Int32 → Option β} (kk : zLe cv x (K (κ o 2))) : zLe cv (cgd lv 0 o x) (zz_b (f_Jx4a65c_size_8abf5 (ad o) (zc h ad iv t0 κ ν)) K) := by
  intro r e
  unfold cgd at e
  split at e
  · next hg =>
    have h1 : f_Jx4a65c_size_8abf5 (ad o) (zc h ad iv t0 κ ν) = some (κ o 2) := by
      unfold f_Jx4a65c_size_8abf5 zz_gi
      simp only [zc_ob hl hg (show 0 ≠ 99 by decide), if_true]
      rfl
    unfold zz_b
    rw [h1]
    exact kk r e
  · cases e
theorem sc_empty (hl : ∀ o, lv o = true → iv (ad o) = some o) (hI : ∀ q o, iv q = some o → ad o = q) {o : Nat} {x : Option α} {K : Int32 → Option β} (kk : zLe cv x (K (cemp κ o))) : zLe cv (cgd lv 0 o x) (zz_b (f_Jx4a65c_isEmpty_aae02 (ad o) (zc h ad iv t0 κ ν)) K) := by
  intro r e
  unfold cgd at e
  split at e
  · next hg =>
    have h2 : (cFs ad t0 (κ o) (ν o) 0 o)[2]? = some (.int (κ o 2)) := rfl
    have h1 : f_Jx4a65c_isEmpty_aae02 (ad o) (zc h ad iv t0 κ ν) = some (cemp κ o) := by
      unfold f_Jx4a65c_isEmpty_aae02 zz_gi f_Jx4a65c_isEmpty_aae02_12 cemp
      simp only [zc_ob hl hg (show 0 ≠ 99 by decide), if_true, h2]
      split <;> rfl
    unfold zz_b
    rw [h1]
    exact kk r e
  · cases e
theorem zc_li (hl : ∀ o, lv o = true → iv (ad o) = some o) {o : Nat} (ho : lv (o + 1000) = true) (hc : co o = 0) : zc h ad iv t0 κ ν (ad (o + 1000)) = some (zz_Q 5 10 (fun i => if i < (κ o 2).toNatClampNeg then some (ad (child o i)) else none)) := by
  have h1 : co o ≠ 99 := by rw [hc]; decide
  have h2 := co_lt h1
  rw [zc_at hl ho]
  unfold cCell
  have h3 : cIs (o + 1000) = none := by
    unfold cIs
    rw [if_neg (by omega), if_pos (by omega), Nat.add_sub_cancel, hc]
    rfl
  rw [if_neg (by omega), h3]
  simp only [Nat.add_sub_cancel, hc]
  rw [if_pos ⟨by omega, trivial⟩]
theorem zi_clt {i n : Int32} (h0 : ¬ i < 0) (h1 : i < n) : i.toNatClampNeg < n.toNatClampNeg := by
  rw [Int32.lt_iff_toInt_lt] at h0 h1
  have hz : (0 : Int32).toInt = 0 := rfl
  show i.toInt.toNat < n.toInt.toNat
  omega
theorem sc_get (hl : ∀ o, lv o = true → iv (ad o) = some o) (hI : ∀ q o, iv q = some o → ad o = q) {o : Nat} {i : Int32} {K' : Nat → Option α} {K : Option Nat → Option β} (kk : ∀ v, zLe cv (K' v) (K (some (ad v)))) : zLe cv (cget lv κ o i K') (zz_b (f_Jx4a65c_get_915e3 (ad o) i (zc h ad iv t0 κ ν)) K) := by
  intro r e
  unfold cget at e
  split at e
  · next hg =>
    obtain ⟨g1, g2, g3, g4, g5, g6, g7⟩ := hg
    have hc := zi_clt g5 g6
    have hob := zc_ob (h := h) (t0 := t0) (κ := κ) (ν := ν) hl ⟨g1, g2⟩ (show 0 ≠ 99 by decide)
    have e2 : (cFs ad t0 (κ o) (ν o) 0 o)[2]? = some (.int (κ o 2)) := rfl
    have e1 : (cFs ad t0 (κ o) (ν o) 0 o)[1]? = some (.ref (ad (o + 1000))) := by
      show some (Value.ref (if κ o 3 = 0 then t0 else ad (o + 1000))) = _
      rw [if_neg g4]
    have hck : f_J15_checkIndex_7cf53 i (κ o 2) (zc h ad iv t0 κ ν) = some i := by
      unfold f_J15_checkIndex_7cf53 f_J3_checkIndex_8e157
      rw [if_neg g5, if_pos g6]
      rfl
    have hel : f_Jx4a65c_elementData_915e3 (ad o) i (zc h ad iv t0 κ ν) = some (some (ad (child o i.toNatClampNeg))) := by
      unfold f_Jx4a65c_elementData_915e3 zz_gq
      simp only [hob, if_true, e1]
      unfold zz_aq
      simp only [zc_li hl g3 g2]
      rw [if_pos ⟨trivial, by rintro (q | q); exact g5 q; omega⟩, if_pos hc]
    have h1 : f_Jx4a65c_get_915e3 (ad o) i (zc h ad iv t0 κ ν) = some (some (ad (child o i.toNatClampNeg))) := by
      unfold f_Jx4a65c_get_915e3 zz_gi
      simp only [hob, if_true, e2, hck, zz_b]
      unfold zz_ob
      simp only [hob, if_true, hel]
    unfold zz_b
    rw [h1]
    exact kk _ r e
  · cases e
end ZCR
