section ZXC
/-! the four calls of another shape -/
variable {ad : Nat → Nat} {iv : Nat → Option Nat} {lv : Nat → Bool} {t0 base am ao an : Nat} {κ : zzM} {νc : zzN} {μ : zzM} {ν : zzN} {H : Int} {nS nB nK : Nat} {h : zz_H} {n : Nat}
theorem dcmp_e {v : UInt64} (h : FP.Core.dIsNaN v = false) : Op.cmpValue (FP.dcmp v v) CmpOp.l = 0 := by
  have e : FP.dcmp v v = some .eq := FP.Core.dcmp_self (fun q => by
    rw [(FP.Core.dIsNaN_iff v).mpr q] at h
    cases h)
  rw [e]
  rfl
theorem sd_w (S : S0 ad iv lv t0 base am ao an κ νc μ ν h n) {v : UInt64} {α : Type} {K : zz_H → Option α} : ∃ f, zz_sd 4 h (some an) (0 : Int32) v K = K (zz_u h an (zz_D 4 1 (va_up f (0 : Int32).toNatClampNeg v))) := by
  obtain ⟨f, e⟩ := S.2.2.2.2.2.1
  refine ⟨f, ?_⟩
  unfold zz_sd
  simp only [e]
  exact if_pos ⟨trivial, by decide⟩
theorem ad_w {f : Nat → UInt64} {v : UInt64} {h : zz_H} (e : h an = some (zz_D 4 1 (va_up f (0 : Int32).toNatClampNeg v))) : zz_ad 4 h (some an) (0 : Int32) some = some v := by
  unfold zz_ad
  simp only [e]
  rw [if_pos ⟨trivial, by decide⟩]
  unfold va_up
  rw [if_pos rfl]
theorem cw_41 (S : S0 ad iv lv t0 base am ao an κ νc μ ν h n) (R : RR lv κ νc μ ν H nS nB nK) (V : LV lv nS) (hH9 : H + 20000 ≤ 100000000) (x1 x2 x3 x4 : Int32) : w_41 t0 base am ao an x1 x2 x3 x4 h n (Jx t0 base am ao an (H + 20000)) := by
  have R' := RR_up (H' := H + 20000) (by omega) hH9 R
  obtain ⟨v, e1, e2⟩ := op_checksum R'
  have e := sc_X9_checksum S.1 S.2.1 (h := h) (t0 := t0) (a0 := 0) (κ := κ) (ν := νc)
  rw [S0_hc S, S.2.2.2.2.2.2.2.2.1] at e
  have q := sm_X10_checksum (h := h) (am := am) (μ := μ) (ν := ν)
  rw [S0_hm S] at q
  exact ⟨(S0_ax (α := Nat) (K := fun _ => none) S R.1.1).1, _, e _ e1, S0_zo S ⟨_, _, q _ e2, fun _ => ⟨_, _, _, _, _, _, _, _, _, _, S0_m S _ _, RR_t 0 R', V⟩, fun q => q (lgc _)⟩⟩
theorem cw_44 (S : S0 ad iv lv t0 base am ao an κ νc μ ν h n) (R : RR lv κ νc μ ν H nS nB nK) (V : LV lv nS) (hH9 : H + 20000 ≤ 100000000) (x1 x2 x3 x4 : Int32) : w_44 t0 base am ao an x1 x2 x3 x4 h n (Jx t0 base am ao an (H + 20000)) := by
  have R' := RR_up (H' := H + 20000) (by omega) hH9 R
  obtain ⟨κ', e1, R2⟩ := op_isSound R'
  have e := sc_X9_isSound S.1 S.2.1 (h := h) (t0 := t0) (a0 := 0) (κ := κ) (ν := νc)
  rw [S0_hc S, S.2.2.2.2.2.2.2.2.1] at e
  have S1 := S0_c S κ' νc
  have q := sm_X10_isSound (h := zc h ad iv t0 κ' νc) (am := am) (μ := μ) (ν := ν)
  rw [S0_hm S1] at q
  have e2 : g_X10_isSound μ ν = some (1, zset μ 0 33 0, ν) := rfl
  exact ⟨(S0_ax (α := Nat) (K := fun _ => none) S R.1.1).1, _, _, e _ e1, S0_zo S1 ⟨_, _, q _ e2, fun _ => ⟨_, _, _, _, _, _, _, _, _, _, S0_m S1 _ _, RR_t 0 R2, V⟩, fun q => q rfl⟩⟩
theorem cw_43 (S : S0 ad iv lv t0 base am ao an κ νc μ ν h n) (R : RR lv κ νc μ ν H nS nB nK) (V : LV lv nS) (hH9 : H + 20000 ≤ 100000000) (x1 x2 x3 x4 : Int32) : w_43 t0 base am ao an x1 x2 x3 x4 h n (Jx t0 base am ao an (H + 20000)) := by
  have R' := RR_up (H' := H + 20000) (by omega) hH9 R
  have e := sc_X9_meanTop S.1 S.2.1 (h := h) (t0 := t0) (a0 := 0) (x1 := x1) (κ := κ) (ν := νc)
  rw [S0_hc S, S.2.2.2.2.2.2.2.2.1] at e
  have ax := fun {α : Type} {K : Nat → Option α} => (S0_ax (K := K) S R.1.1).2
  rcases op_meanTop R' x1 with ⟨e1, e2⟩ | ⟨v, hv, e1, e2⟩
  · refine ⟨1, h, n, ?_, fun n1 hn => ?_⟩
    · unfold f_L_meanTop
      rw [ax, e _ e1]
      rfl
    · have S2 := S0_n S hn
      have q := sm_X10_meanTop (h := h) (am := am) (x1 := x1) (μ := μ) (ν := ν)
      rw [S0_hm S2] at q
      have S3 := S0_m S2 (zset μ 0 33 1) ν
      exact S0_zo S2 ⟨_, _, q _ e2, S0_zo S3 ⟨_, S0_t S3, fun _ => ⟨fun q => absurd q (by decide), fun _ => ⟨_, _, _, _, _, _, _, _, _, _, S3, RR_t 1 R', V⟩⟩, fun q => q zset_h⟩⟩
  · obtain ⟨f, ef⟩ := sd_w S (v := v) (K := fun h9 => some ((0 : Int32), h9, n))
    have S1 := S0_d S (va_up f (0 : Int32).toNatClampNeg v)
    refine ⟨0, zz_u h an (zz_D 4 1 (va_up f (0 : Int32).toNatClampNeg v)), n, ?_, fun n1 hn => ?_⟩
    · unfold f_L_meanTop
      rw [ax, e _ e1]
      exact ef
    · have S2 := S0_n S1 hn
      have q := sm_X10_meanTop (h := zz_u h an (zz_D 4 1 (va_up f (0 : Int32).toNatClampNeg v))) (am := am) (x1 := x1) (μ := μ) (ν := ν)
      rw [S0_hm S2] at q
      have S3 := S0_m S2 (zset μ 0 33 0) ν
      have ea : zk (zz_u h an (zz_D 4 1 (va_up f (0 : Int32).toNatClampNeg v))) am (zset μ 0 33 0) ν an = some (zz_D 4 1 (va_up f (0 : Int32).toNatClampNeg v)) := by
        have := S.2.2.2.2.2.2.2.1
        unfold zk
        rw [if_neg (by omega), zz_us]
      exact S0_zo S2 ⟨_, _, q _ e2, S0_zo S3 ⟨_, S0_t S3, fun _ => ⟨fun _ => ⟨_, ad_w ea, fun _ => ⟨_, _, _, _, _, _, _, _, _, _, S3, RR_t 0 R', V⟩, fun q => absurd (dcmp_e hv) q⟩, fun q => absurd rfl q⟩, fun q => q zset_h⟩⟩
theorem n64_of {r : UInt64} (h : FP.Core.dIsNaN r = false) : vf_n64 r := by
  have e := nd_of (α := Nat) (K := some 0) h
  unfold zz_nd at e
  unfold vf_n64
  by_cases g : r &&& 0x7fffffffffffffff ≤ 0x7ff0000000000000
  · exact g
  · rw [if_neg g] at e
    cases e
theorem cw_42 (S : S0 ad iv lv t0 base am ao an κ νc μ ν h n) (R : RR lv κ νc μ ν H nS nB nK) (V : LV lv nS) (hH9 : H + 20000 ≤ 100000000) (x1 x2 x3 x4 : Int32) : w_42 t0 base am ao an x1 x2 x3 x4 h n (Jx t0 base am ao an (H + 20000)) := by
  have R' := RR_up (H' := H + 20000) (by omega) hH9 R
  have e := sc_X9_closedShare S.1 S.2.1 (h := h) (t0 := t0) (a0 := 0) (κ := κ) (ν := νc)
  rw [S0_hc S, S.2.2.2.2.2.2.2.2.1] at e
  have ax := fun {α : Type} {K : Nat → Option α} => (S0_ax (K := K) S R.1.1).2
  rcases op_closedShare R' with ⟨e1, e2⟩ | ⟨v0, hv0, e1, e2⟩
  · refine ⟨1, h, n, ?_, fun n1 hn => ?_⟩
    · unfold f_L_closedShare
      rw [ax, e _ e1]
      rfl
    · have S2 := S0_n S hn
      have q := sm_X10_closedShare (h := h) (am := am) (μ := μ) (ν := ν)
      rw [S0_hm S2] at q
      have S3 := S0_m S2 (zset μ 0 33 1) ν
      exact S0_zo S2 ⟨_, _, q _ e2, S0_zo S3 ⟨_, S0_t S3, fun _ => ⟨fun q => absurd q (by decide), fun _ => ⟨_, _, _, _, _, _, _, _, _, _, S3, RR_t 1 R', V⟩⟩, fun q => q zset_h⟩⟩
  · have hv : FP.Core.dIsNaN (FP.f2d v0) = false := (FP.f2d_nan v0).trans hv0
    obtain ⟨f, ef⟩ := sd_w S (v := FP.f2d v0) (K := fun h9 => some ((0 : Int32), h9, n))
    have S1 := S0_d S (va_up f (0 : Int32).toNatClampNeg (FP.f2d v0))
    refine ⟨0, zz_u h an (zz_D 4 1 (va_up f (0 : Int32).toNatClampNeg (FP.f2d v0))), n, ?_, fun n1 hn => ?_⟩
    · unfold f_L_closedShare
      rw [ax, e _ e1]
      exact (nd_of hv).trans ef
    · have S2 := S0_n S1 hn
      have q := sm_X10_closedShare (h := zz_u h an (zz_D 4 1 (va_up f (0 : Int32).toNatClampNeg (FP.f2d v0)))) (am := am) (μ := μ) (ν := ν)
      rw [S0_hm S2] at q
      have S3 := S0_m S2 (zset μ 0 33 0) ν
      have ea : zk (zz_u h an (zz_D 4 1 (va_up f (0 : Int32).toNatClampNeg (FP.f2d v0)))) am (zset μ 0 33 0) ν an = some (zz_D 4 1 (va_up f (0 : Int32).toNatClampNeg (FP.f2d v0))) := by
        have := S.2.2.2.2.2.2.2.1
        unfold zk
        rw [if_neg (by omega), zz_us]
      exact S0_zo S2 ⟨_, _, q _ e2, S0_zo S3 ⟨_, S0_t S3, fun _ => ⟨fun _ => ⟨_, ad_w ea, n64_of hv, fun _ => ⟨_, _, _, _, _, _, _, _, _, _, S3, RR_t 0 R', V⟩, fun q => absurd (dcmp_e hv) q⟩, fun q => absurd rfl q⟩, fun q => q zset_h⟩⟩
end ZXC
