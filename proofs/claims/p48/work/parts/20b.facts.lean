section ZKB
/-! what is known of the reference's seat 0 on the law's way -/
variable {t0 base : Nat} {ow ow' : zz_H} {μ μ' : zzM} {ν ν' : zzN} {H : Int} {nS nK : Nat} {h h' : zz_H} {n n' : Nat} {c r d l : Nat} {la sg : Int32}
def Fa (μ : zzM) (c r d l : Nat) (la sg : Int32) : Prop := μ 1 0 = Int32.ofNat c ∧ μ 2 0 = Int32.ofNat r ∧ (1 ≤ c ∧ c ≤ 4) ∧ (1 ≤ r ∧ r ≤ 4) ∧ nD μ 0 = d ∧ nL μ 0 = l ∧ tLast μ 0 = la ∧ tSg μ 0 = sg
theorem Fa_C (F : Fa μ c r d l la sg) : nC μ 0 = c := by
  unfold nC
  rw [F.1, on_n _ (by have := F.2.2.1; omega)]
theorem Fa_R (F : Fa μ c r d l la sg) : nR μ 0 = r := by
  unfold nR
  rw [F.2.1, on_n _ (by have := F.2.2.2.1; omega)]
theorem Fa_D (F : Fa μ c r d l la sg) : nD μ 0 = d := F.2.2.2.2.1
theorem Fa_L (F : Fa μ c r d l la sg) : nL μ 0 = l := F.2.2.2.2.2.1
theorem Fa_la (F : Fa μ c r d l la sg) : tLast μ 0 = la := F.2.2.2.2.2.2.1
theorem Fa_sg (F : Fa μ c r d l la sg) : tSg μ 0 = sg := F.2.2.2.2.2.2.2
theorem Fa_can (F : Fa μ c r d l la sg) {a : Int32} {x : Bool} (e : tCan la l a = x) : tCan (tLast μ 0) (nL μ 0) a = x := by
  rw [Fa_la F, Fa_L F]
  exact e
theorem Fa_done {a : Int32} (F : Fa μ c r d l la sg) (h9 : d < 9) : Fa (mDone μ 0 a) c r (d + 1) l a 0 := by
  have h9' : nD μ 0 < 9 := by rw [Fa_D F]; exact h9
  obtain ⟨d3, dD, dC, dR, dL⟩ := mDone_f (μ := μ) (s := 0) (a := a) h9'
  refine ⟨?_, ?_, F.2.2.1, F.2.2.2.1, by rw [dD, Fa_D F], by rw [dL, Fa_L F], tLast_done h9', ?_⟩
  · rw [mDone_e (by omega) (by omega) (by omega)]
    exact F.1
  · rw [mDone_e (by omega) (by omega) (by omega)]
    exact F.2.1
  · unfold tSg
    rw [dD, if_neg (by omega), Nat.add_sub_cancel]
    have : mDone μ 0 a (10 + 0) (nD μ 0) = 0 := by
      unfold mDone
      rw [zset_e (by omega), zset_h]
    rw [this, if_pos rfl]
theorem Fa_sign (F : Fa μ c r (d + 1) l la sg) : Fa (zset μ (10 + 0) d 1) c r (d + 1) l la 1 := by
  refine ⟨?_, ?_, F.2.2.1, F.2.2.2.1, ?_, ?_, ?_, ?_⟩
  · rw [zset_e (by omega)]; exact F.1
  · rw [zset_e (by omega)]; exact F.2.1
  · rw [nD_z (by omega)]; exact Fa_D F
  · rw [nL_z (by omega)]; exact Fa_L F
  · rw [tLast_z (by omega)]; exact Fa_la F
  · unfold tSg
    rw [nD_z (by omega), Fa_D F, if_neg (by omega), Nat.add_sub_cancel, zset_h, if_neg (by decide)]
theorem Fa_m (m : ∀ o i, ((o = 1 ∨ o = 2 ∨ o = 3 ∨ o = 83) ∧ i = 0) ∨ o = 5 ∨ o = 10 → μ' o i = μ o i) (F : Fa μ c r d l la sg) : Fa μ' c r d l la sg := by
  have e3 : nD μ' 0 = nD μ 0 := by
    unfold nD
    rw [m 3 0 (by omega)]
  refine ⟨?_, ?_, F.2.2.1, F.2.2.2.1, ?_, ?_, ?_, ?_⟩
  · rw [m 1 0 (by omega)]; exact F.1
  · rw [m 2 0 (by omega)]; exact F.2.1
  · rw [e3]; exact Fa_D F
  · have := Fa_L F
    unfold nL at this ⊢
    rw [m 83 0 (by omega)]; exact this
  · have := Fa_la F
    unfold tLast at this ⊢
    rw [e3, m (5 + 0) _ (by omega)]
    exact this
  · have := Fa_sg F
    unfold tSg at this ⊢
    rw [e3, m (10 + 0) _ (by omega)]
    exact this
theorem Fa_z {o i : Nat} {v : Int32} (ho : o ≠ 1 ∧ o ≠ 2 ∧ o ≠ 3 ∧ o ≠ 83 ∧ o ≠ 5 ∧ o ≠ 10) (F : Fa μ c r d l la sg) : Fa (zset μ o i v) c r d l la sg := Fa_m (fun o' i' h => zset_e (by omega)) F
/-- no buttons, the first promise -/
def Pb (μ : zzM) : Prop := (∀ x y, x < 6 → y < 6 → μ (111 + 7 * 0 + x) y = 0) ∧ μ 146 0 = 20
theorem Pb_m (m : ∀ o i, (111 ≤ o ∧ o < 117) ∨ (o = 146 ∧ i = 0) → μ' o i = μ o i) (P : Pb μ) : Pb μ' :=
  ⟨fun x y hx hy => by rw [m _ _ (by omega)]; exact P.1 x y hx hy, by rw [m _ _ (by omega)]; exact P.2⟩
theorem tDr_0 (P : Pb μ) : tDr μ 0 = 0 := by
  rw [tDr_s]
  refine sm_z (fun x hx => sm_z (fun y hy => ?_))
  rw [P.1 x y hx hy, if_pos (by decide)]
/-- heights and ties beside the law's arrays -/
def AR (ow : zz_H) (μ : zzM) (a7 a8 a9 c r : Nat) : Prop := A2 ow a7 c r (fun x y => μ (17 + 7 * 0 + x) y) ∧ A1 ow a8 0 c (fun i => μ (74 + 0) i) ∧ A1 ow a9 0 r (fun i => μ (79 + 0) i) ∧ a7 + c < a8 ∧ a8 < a9
theorem AR_m {a b e : Nat} (hc : c ≤ 6) (m : ∀ o i, (17 ≤ o ∧ o < 23) ∨ o = 74 ∨ o = 79 → μ' o i = μ o i) (A : AR ow μ a b e c r) : AR ow μ' a b e c r :=
  ⟨A2_c A.1 (fun x y hx hy => (m _ _ (by omega)).symm), A1_c A.2.1 (fun i hi => (m _ _ (by omega)).symm), A1_c A.2.2.1 (fun i hi => (m _ _ (by omega)).symm), A.2.2.2⟩
theorem AR_o {a b e : Nat} (o : ∀ q, q ≤ e → ow' q = ow q) (A : AR ow μ a b e c r) : AR ow' μ a b e c r :=
  ⟨A2_f A.1 (fun q h1 h2 => o q (by have := A.2.2.2; omega)), A1_f A.2.1 (o _ (by have := A.2.2.2; omega)), A1_f A.2.2.1 (o _ (Nat.le_refl _)), A.2.2.2⟩
theorem cv_done (J : JJ t0 base ow μ ν 1 nK H h n) (F : Fa μ c r (d + 1) l la 0) (hd : d < 100) : ∃ h' n', f_L_isDone t0 base (Int32.ofNat d) (Int32.ofNat d) h n = some (1, h', n') ∧ JJ t0 base ow (zset μ (10 + 0) d 1) ν 1 nK H h' n' := by
  have e := em_sign_v (JJ_q J) (Fa_sg F)
  rw [Fa_D F, Nat.add_sub_cancel] at e
  obtain ⟨h', n', e1, J1⟩ := cv_sign J e (by rw [zset_e (by omega)]; exact J.1)
  refine ⟨h', n', ?_, J1⟩
  unfold f_L_isDone
  rw [if_pos rfl, e1]
  show (if Int32.ofNat (d + 1) = Int32.ofNat d + 1 then _ else _) = _
  rw [if_pos (on_s d).symm]
theorem JJ_k0 (J : JJ t0 base ow μ ν nS 0 H h n) : μ 171 0 = 0 ∧ μ 172 0 = 0 := by
  obtain ⟨z0, ad, iv, lv, κ, νc, S, R, V⟩ := J
  exact R.2.2.2.2.2.2.2.1 0 (by omega) (by omega)
end ZKB
