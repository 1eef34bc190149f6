section ZLK
variable {t0 base b L : Nat} {xs : Nat → Int32} {ow ow' : zz_H} {μ μ' : zzM} {ν ν' : zzN} {H : Int} {nK : Nat} {h h' : zz_H} {n n' : Nat} {c r d l lc hs : Nat} {la sg : Int32}
theorem dcmp_e {v : UInt64} (h : FP.Core.dIsNaN v = false) : Op.cmpValue (FP.dcmp v v) CmpOp.l = 0 := by
  have e : FP.dcmp v v = some .eq := FP.Core.dcmp_self (fun q => by
    rw [(FP.Core.dIsNaN_iff v).mpr q] at h
    cases h)
  rw [e]
  rfl
theorem dd_no {v w : Int32} (hw : w ≠ 0) : FP.Core.dIsNaN (FP.ddiv (FP.i2d v) (FP.i2d w)) = false := by
  have hn : FP.Core.dIsNaN (FP.i2d v) = false := by
    rw [Bool.eq_false_iff]
    intro q
    exact FP.Core.DFin.ne_nan (FP.Core.i2d_fin v) ((FP.Core.dIsNaN_iff _).mp q)
  exact FP.Core.ddiv_out (a := FP.i2d v) (b := FP.i2d w) hn (FP.Core.i2d_fin w) (fun z => FP.Core.i2d_ne_zero hw ((FP.Core.zero_bits2 _).mp z))
theorem n64_of {r : UInt64} (h : FP.Core.dIsNaN r = false) : vf_n64 r := by
  have e := nd_of (α := Nat) (K := some 0) h
  unfold zz_nd at e
  unfold vf_n64
  by_cases g : r &&& 0x7fffffffffffffff ≤ 0x7ff0000000000000
  · exact g
  · rw [if_neg g] at e
    cases e
theorem len_4 (q : PQ μ ν H nK) (F : Fa μ c r d l la sg) : ∃ n, n ≤ 440 ∧ 10 * Int32.ofNat r + tMax μ ν 0 = Int32.ofNat n ∧ tMax μ ν 0 + 10 * Int32.ofNat (nR μ 0) = Int32.ofNat n := by
  have hr4 := F.2.2.2.1
  obtain ⟨z0, h30, h32, hB, -, hO, hVb, hH⟩ := q
  obtain ⟨h1, h2⟩ := tMax_I hB hVb hH
  have e : tMax μ ν 0 = Int32.ofNat (tMax μ ν 0).toNatClampNeg := (Int32.ofNat_toNatClampNeg _ (Int32.le_iff_toInt_le.mpr h1)).symm
  have e2 : (tMax μ ν 0).toNatClampNeg ≤ 400 := by
    show (tMax μ ν 0).toInt.toNat ≤ 400
    omega
  have e3 : (10 : Int32) * Int32.ofNat r = Int32.ofNat (10 * r) := (Int32.ofNat_mul 10 _).symm
  rw [Fa_R F]
  refine ⟨10 * r + (tMax μ ν 0).toNatClampNeg, by omega, ?_, ?_⟩
  · rw [e, e3, on_n _ (by omega), ← Int32.ofNat_add]
  · rw [e, e3, on_n _ (by omega), ← Int32.ofNat_add, Nat.add_comm]
theorem tSum_c (hn : ¬ μ 3 0 ≤ 1) (hn' : ¬ μ' 3 0 ≤ 1) (m : ∀ o i, ((o = 1 ∨ o = 2 ∨ o = 83) ∧ i = 0) ∨ o = 74 ∨ o = 79 ∨ o = 85 ∨ o = 90 ∨ o = 95 ∨ (17 ≤ o ∧ o < 23) ∨ (111 ≤ o ∧ o < 117) → μ' o i = μ o i) (hC : nC μ 0 ≤ 4) : tSum μ' 0 (tTop μ' ν 0) = tSum μ 0 (tTop μ ν 0) := by
  have eC : nC μ' 0 = nC μ 0 := by unfold nC; rw [m _ _ (by omega)]
  have eR : nR μ' 0 = nR μ 0 := by unfold nR; rw [m _ _ (by omega)]
  have eL : nL μ' 0 = nL μ 0 := by unfold nL; rw [m _ _ (by omega)]
  unfold tSum
  rw [eC, eR]
  refine zfd_ext (fun x hx v => zfd_ext (fun y hy w => ?_))
  congr 1
  unfold tTop tH
  rw [eL, if_neg hn, if_neg hn', m (17 + 7 * 0 + x) _ (by omega), m (74 + 0) _ (by omega), m (79 + 0) _ (by omega), m (111 + 7 * 0 + x) _ (by omega)]
  congr 1
  refine zfd_ext (fun i hi v => ?_)
  unfold tTh tDen
  rw [m (90 + 0) _ (by omega), m (85 + 0) _ (by omega), m (95 + 0) _ (by omega)]
theorem mC_o {k o i : Nat} (h1 : o ≠ 139) (h2 : o ≠ 171) (h3 : o ≠ 143) (h4 : o ≠ 144) (h5 : o ≠ 145) : mCut (mPan μ k (nC μ 0)) ν 0 0 k (nC μ 0 * k) o i = μ o i := by
  unfold mCut
  rw [zset_e (by omega)]
  exact mCu3_f (fun o i g => mPan_o g) h1 h2 h3 h4
theorem b_1831 (B : Nat) (x0 x1 : Nat) (x2 x3 : Int32) (x6 x7 x8 : Nat) (x9 x12 : Int32) (x13 x14 x15 x16 : Nat) (x20 x21 x22 x23 x24 x25 : Int32) (h : zz_H) (n : Nat) (A : A_1831 t0 base b L xs (B + 1) x0 x1 x2 x3 x6 x7 x8 x9 x12 x13 x14 x15 x16 x20 x21 x22 x23 x24 x25 h n) : w_1831 t0 x0 x1 x2 x3 x6 x7 x8 x9 x12 x13 x14 x15 x16 x20 x21 x22 x23 x24 x25 h n (A_1935 t0 base b L xs B) := by
  obtain ⟨μ, ν, c, r, lc, k, hs, tol, d, la, sg, R, C, hk, rfl, rfl, hB⟩ := A
  obtain ⟨rfl, rfl, rfl, rfl, rfl, rfl, rfl, rfl, rfl, hlc, hd, hk4, F, ⟨ow, ⟨J, eb, hL⟩, AA, LL, DD⟩, hν, o3, o8, o15⟩ := R
  have hc4 := F.2.2.1
  have hr4 := F.2.2.2.1
  have hn := hn3 J F hd.1
  have hw : μ 1 0 * μ 2 0 ≠ 0 := by
    have h1 : 0 < c * r := Nat.mul_pos hc4.1 hr4.1
    have h2 : c * r ≤ 4 * 4 := Nat.mul_le_mul hc4.2 hr4.2
    rw [F.1, F.2.1, on_m]
    exact onnz (by omega)
  unfold w_1831
  rw [← F.1, ← F.2.1]
  refine ⟨JJ_base J, _, cv_meanTop J, n64_of (dd_no hw), dcmp_e (dd_no hw), fun g => ?_, fun g => ?_⟩
  · have k0 : k = 0 := by
      rcases Nat.eq_zero_or_pos k with q | q
      · exact q
      · exact absurd g (onnz (by omega))
    subst k0
    have hs0 : hs = 0 := by omega
    subst hs0
    rcases C with ⟨-, rfl, rfl, hd8, p146, p169, p170, p171, p172⟩ | ⟨q, -⟩
    case inr => omega
    obtain ⟨m, hm, el, el2⟩ := len_4 (JJ_q J) F
    rw [F.1, F.2.1, el, on_m]
    have hcm : c * m ≤ 4 * 440 := Nat.mul_le_mul hc4.2 hm
    have ev := em_cover_v (JJ_q J) el2 (by omega) (by rw [Fa_C F]; omega) p169 p170 p171 p172 (by rw [Fa_D F]; omega) (Fa_sg F) (Fa_can F (by simp [tCan]))
    rw [Fa_C F] at ev
    have mo : ∀ o i, o ≠ 139 → o ≠ 171 → o ≠ 143 → o ≠ 144 → o ≠ 145 → o ≠ 3 → o ≠ 5 → o ≠ 10 → mCov μ ν m o i = μ o i := fun o i h1 h2 h3 h4 h5 h6 h7 h8 => by
      unfold mCov
      rw [mDone_e (by omega) (by omega) (by omega), mC_o h1 h2 h3 h4 h5]
    have m143 : mCov μ ν m 143 0 = Int32.ofNat m := by
      unfold mCov
      rw [mDone_e (by omega) (by omega) (by omega)]
      unfold mCut
      rw [zset_e (by omega)]
      unfold mCu3
      rw [zset_e (by omega), zset_h]
    have m144 : mCov μ ν m 144 0 = 0 := by
      unfold mCov
      rw [mDone_e (by omega) (by omega) (by omega)]
      unfold mCut
      rw [zset_e (by omega)]
      unfold mCu3
      rw [zset_h]
    have m145 : mCov μ ν m 145 0 = tSum μ 0 (tTop μ ν 0) := by
      unfold mCov
      rw [mDone_e (by omega) (by omega) (by omega)]
      unfold mCut
      rw [zset_h, cu3_t (JJ_q J)]
    have Fc : Fa (mCov μ ν m) c r (d + 1) lc 99 0 := Fa_done (Fa_m (fun o i hi => mC_o (by omega) (by omega) (by omega) (by omega) (by omega)) F) (by omega)
    refine zlw JJ_n (cv_cover J ev (by rw [mo _ _ (by omega) (by omega) (by omega) (by omega) (by omega) (by omega) (by omega) (by omega)]; exact J.1)) (fun h1 n1 J1 => ⟨rfl, ?_⟩)
    clear ev
    generalize mCov μ ν m = μc at J1 Fc mo m143 m144 m145
    have ht : ¬ Int32.ofNat tol < 0 ∧ ¬ (100 : Int32) < Int32.ofNat tol := ra_n (a := 0) (c := 100) (by omega)
    have ev := em_promise_v (JJ_q J1) ht
    rw [mo _ _ (by omega) (by omega) (by omega) (by omega) (by omega) (by omega) (by omega) (by omega), p146] at ev
    refine zlw JJ_n (cv_promise J1 ev (by rw [zset_e (by omega)]; exact J1.1)) (fun h2 n2 J2 => ⟨rfl, ?_⟩)
    clear ev
    have Fp : Fa (zset μc 146 0 (Int32.ofNat tol)) c r (d + 1) lc 99 0 := Fa_z (by omega) Fc
    have mp : ∀ o i, o ≠ 139 → o ≠ 171 → o ≠ 143 → o ≠ 144 → o ≠ 145 → o ≠ 146 → o ≠ 3 → o ≠ 5 → o ≠ 10 → zset μc 146 0 (Int32.ofNat tol) o i = μ o i := fun o i h1 h2 h3 h4 h5 h0 h6 h7 h8 => by
      rw [zset_e (by omega), mo _ _ h1 h2 h3 h4 h5 h6 h7 h8]
    have p143 : zset μc 146 0 (Int32.ofNat tol) 143 0 = Int32.ofNat m := by rw [zset_e (by omega)]; exact m143
    have p144 : zset μc 146 0 (Int32.ofNat tol) 144 0 = 0 := by rw [zset_e (by omega)]; exact m144
    have p145 : zset μc 146 0 (Int32.ofNat tol) 145 0 = tSum μ 0 (tTop μ ν 0) := by rw [zset_e (by omega)]; exact m145
    have q146 : zset μc 146 0 (Int32.ofNat tol) 146 0 = Int32.ofNat tol := zset_h
    clear mo m143 m144 m145 Fc J1
    generalize zset μc 146 0 (Int32.ofNat tol) = μp at J2 Fp mp p143 p144 p145 q146
    have hnp := hn3 J2 Fp (by omega)
    have mq : ∀ o i, ((o = 1 ∨ o = 2 ∨ o = 83) ∧ i = 0) ∨ o = 74 ∨ o = 79 ∨ o = 85 ∨ o = 90 ∨ o = 95 ∨ (17 ≤ o ∧ o < 23) ∨ (111 ≤ o ∧ o < 117) → μp o i = μ o i := fun o i hi => mp _ _ (by omega) (by omega) (by omega) (by omega) (by omega) (by omega) (by omega) (by omega) (by omega)
    have eQ : Qt μp = Qt μ := Qt_m (fun o i hi => mq o i (by omega))
    have eD : tDr μp 0 = tDr μ 0 := tDr_c (fun x y hx hy => mq _ _ (by omega))
    have eq := em_quote_v (JJ_q J2)
    rw [tQu_e hnp, Fa_la Fp, if_pos rfl, eQ, eD, Fp.1, p143, on_m] at eq
    refine zlw JJ_n (cv_quote J2 eq J2.1) (fun h3 n3 J3 => ⟨rfl, ?_⟩)
    clear eq
    refine ⟨JJ_base J3, _, cv_isClosed J3 (em_closed_v (JJ_q J3) (Fa_la Fp)) J3.1, by decide, ?_⟩
    refine ⟨μp, ν, c, r, lc, 0, 0, tol, d + 1, 0, ⟨rfl, rfl, rfl, rfl, by rw [eQ, eD], rfl, rfl, rfl, rfl, hlc, by omega, hk4, Fp, ⟨ow, ⟨J3, eb, hL⟩, AR_m (by omega) (fun o i hi => mq o i (by omega)) AA, LA_m (fun o i hi => mq o i (by omega)) LL, A2_c DD (fun x y hx hy => (mq _ _ (by omega)).symm)⟩, hν, o3, o8, o15⟩, by omega, p144.symm, p145.symm, q146.symm, (tSum_c hn hnp mq (by rw [Fa_C F]; omega)).symm, by omega⟩
  · rcases C with ⟨q, -⟩ | ⟨-, rfl, c20, c21, c22⟩
    · exact absurd (by rw [q]; rfl) g
    rw [F.1, F.2.1]
    exact ⟨μ, ν, c, r, lc, k, hs, tol, d, sg, ⟨rfl, rfl, rfl, rfl, rfl, rfl, rfl, rfl, rfl, hlc, hd, hk4, F, ⟨ow, ⟨J, eb, hL⟩, AA, LL, DD⟩, hν, o3, o8, o15⟩, hk, c20, c21, c22, rfl, by omega⟩
end ZLK
