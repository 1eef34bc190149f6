section ZXM
/-! body: its case -/
variable {ad : Nat → Nat} {iv : Nat → Option Nat} {lv : Nat → Bool} {t0 base am ao an : Nat} {κ : zzM} {νc : zzN} {μ : zzM} {ν : zzN} {H : Int} {nS nB nK : Nat} {h : zz_H} {n : Nat}
theorem em_body1 (hb : nB < 3) (e : μ 0 31 = Int32.ofNat nB) : g_X10_body μ ν = some (Int32.ofNat nB, zset (zset μ 0 33 0) 0 31 (Int32.ofNat (nB + 1)), ν) := by
  unfold g_X10_body g_X10_body_14
  rw [e, if_neg (show ¬ Int32.ofNat nB = 3 from pne (b := 3) (by omega)), em_th0, zg1_s, if_pos rfl, zset_h, zset_e (by omega), e, on_s, on_p _ (by omega), Nat.add_sub_cancel]
theorem em_body0 (e : μ 0 31 = 3) : g_X10_body μ ν = some (0, zset μ 0 33 1, ν) := by
  unfold g_X10_body g_X10_body_14
  rw [e, if_pos rfl, em_th1, zg1_s, if_neg (by decide)]
theorem cw_21 (S : S0 ad iv lv t0 base am ao an κ νc μ ν h n) (R : RR lv κ νc μ ν H nS nB nK) (V : LV lv nS) (hH9 : H + 20000 ≤ 100000000) (x1 x2 x3 x4 : Int32) : w_21 t0 base am ao an x1 x2 x3 x4 h n (Jx t0 base am ao an (H + 20000)) := by
  have R' := RR_up (H' := H + 20000) (by omega) hH9 R
  have b3 := R.1.2.2.1
  have h31 := R.1.2.2.2.2.2.2.1
  by_cases hb : nB < 3
  · obtain ⟨h2, f1, S1⟩ := S0_body S R' V hb
    have g2 := R.2.1.2.1
    have gr : ¬ κ 2 3 = 0 → lv 1002 = true := fun g => (g2.2.2.1 (by
      rcases Nat.eq_zero_or_pos nB with q | q
      · exact absurd (g2.2.2.2 q) g
      · exact q)).1
    obtain ⟨q1, q2, q3⟩ := kLi_h (κ := κ) (L := 2) (c := nB)
    have kb2 : kB κ nB 2 = kLi κ 2 nB 2 := if_neg (by omega)
    have lt : ∀ x, nwB κ nB x = true → lvN (nwB κ nB) lv x = true := fun x hx => by
      unfold lvN
      rw [hx]
      exact Bool.or_true _
    have RB := RR_body (lv' := lvN (nwB κ nB) lv) (κ' := kB κ nB) (fun o ho => by unfold lvN; rw [ho]; rfl) hb (lt _ (nwB_t (Or.inl rfl))) (lt _ (nwB_t (Or.inr (Or.inl rfl)))) (by
      by_cases g : κ 2 3 = 0
      · exact lt _ (nwB_t (Or.inr (Or.inr ⟨rfl, g⟩)))
      · unfold lvN
        rw [gr g]
        rfl) (fun o h1 h2 => by
        show (if o = 600 + nB + 1000 then (fun _ => 0) else kLi κ 2 nB o) = κ o
        rw [if_neg h2, kLi_o h1]) (by rw [kb2, q2]) (by rw [kb2, q3]; decide) (fun i => by
        have kz : kB κ nB (600 + nB + 1000) = fun _ => 0 := if_pos rfl
        rw [kz]) (RR_t 0 R')
    refine wrap2_v (fx := f_X9_body t0 base h n) (X := fun k3 h3 n3 => if k3 = 1 then some ((1 : Int32), h3, n3) else none) (fm := fun h' => f_X10_body am h') S R.1.1 f1 S1 ⟨RB, fun s h1 h2 o ho => ?_⟩ ?_ (fun h' hk => ?_)
    · unfold lvN
      rw [V s h1 h2 o ho, nwB_f (by unfold FK at ho; omega)]
      rfl
    · rw [zset_e (by omega), zset_h]
    · have e2 := sm_X10_body (h := h') (am := am) (μ := μ) (ν := ν)
      rw [hk] at e2
      exact e2 _ (em_body1 hb h31)
  · have f0 := f_body0 S R' hb
    refine wrap2_e (e := 1) (t := 1) (v := 0) (fx := f_X9_body t0 base h n) (X := fun k3 h3 n3 => if k3 = 1 then some ((1 : Int32), h3, n3) else none) (fm := fun h' => f_X10_body am h') S R' V f0 rfl (by decide) (fun h' hk => ?_)
    have e2 := sm_X10_body (h := h') (am := am) (μ := μ) (ν := ν)
    rw [hk] at e2
    have n3 : nB = 3 := by omega
    exact e2 _ (em_body0 (by rw [h31, n3]; rfl))
end ZXM
