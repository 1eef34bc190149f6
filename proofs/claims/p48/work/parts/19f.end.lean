section ZJF
variable {t0 base : Nat} {ow : zz_H} {μ μ' : zzM} {ν ν' : zzN} {H : Int} {nK : Nat} {h : zz_H} {n : Nat}
theorem em_share (q : PQ μ ν H nK) (hl : tLast μ 0 = 99) : g_X10_closedShare μ ν = some (FP.fdiv (FP.i2f (sm (tCl μ) 1)) (FP.i2f (Int32.ofNat 1)), μ, ν) := by
  obtain ⟨z0, h30, h32, hB, ⟨t, b, c, hV, hz⟩, hO, hVb, hH⟩ := q
  have hw : Int32.ofNat 1 ≠ 0 := by decide
  unfold g_X10_closedShare g_X10_closedShare_13
  rw [h30, if_neg hw, em_th0, zg1_s, if_pos rfl, zset_z z0]
  refine zfor2 1 (fun s a => a + tCl μ s) 0 (fun s hs v => ?_) ?_
  · show g_X10_closedShare_26 _ _ _ _ = _
    have s0 : s = 0 := by omega
    subst s0
    unfold g_X10_closedShare_26 g_X10_closedShare_50 tCl
    dsimp only
    rw [h30, if_neg (nle (by omega)), em_last hB (Lv_ch hV), zb_s, if_pos hl, if_pos hl]
  · show g_X10_closedShare_26 _ _ _ _ = _
    unfold g_X10_closedShare_26
    dsimp only
    rw [h30, if_pos (ple (by omega))]
    exact nf_of (nf_no hw)
theorem share_1 : Op.cmpValue (FP.fcmp (FP.fdiv (FP.i2f 1) (FP.i2f 1)) (0x3f800000 : UInt32)) CmpOp.l = 0 := by decide +kernel
theorem cv_share (J : JJ t0 base ow μ ν 1 nK H h n) (hl : tLast μ 0 = 99) : f_X9_closedShare base h = some (.inl (FP.fdiv (FP.i2f 1) (FP.i2f 1))) := by
  have em := em_share (JJ_q J) hl
  have ec : sm (tCl μ) 1 = 1 := by
    show 0 + tCl μ 0 = 1
    unfold tCl
    rw [if_pos hl]
    rfl
  rw [ec, show Int32.ofNat 1 = 1 from rfl] at em
  obtain ⟨z0, ad, iv, lv, κ, νc, S, R, V⟩ := J
  have e1 := sc_X9_closedShare S.1 S.2.1 (h := h) (t0 := t0) (a0 := 0) (κ := κ) (ν := νc)
  rw [S0_hc S, S.2.2.2.2.2.2.2.2.1] at e1
  rcases op_closedShare R with ⟨-, e2⟩ | ⟨v, -, e2, e3⟩
  · rw [em] at e2
    have e4 := congrArg (fun o => Option.map (fun r : UInt32 × zzM × zzN => r.2.1 0 33) o) e2
    simp only [Option.map_some, Option.some.injEq] at e4
    rw [z0, zset_h] at e4
    exact absurd e4 (by decide)
  · rw [em, zset_z z0] at e3
    cases e3
    exact e1 _ e2
theorem cv_sound (J : JJ t0 base ow μ ν 1 nK H h n) : ∃ h', f_X9_isSound base h = some (1, h') ∧ JJ t0 base ow μ ν 1 nK H h' n := by
  obtain ⟨z0, ad, iv, lv, κ, νc, S, R, V⟩ := J
  obtain ⟨κ', e2, R2⟩ := op_isSound R
  have e1 := sc_X9_isSound S.1 S.2.1 (h := h) (t0 := t0) (a0 := 0) (κ := κ) (ν := νc)
  rw [S0_hc S, S.2.2.2.2.2.2.2.2.1] at e1
  exact ⟨_, e1 _ e2, z0, ad, iv, lv, κ', νc, S0_c S κ' νc, R2, V⟩
end ZJF
