section ZYB
/-! the reference's constructor -/
variable {h0 h h1 : zz_H} {am off off' k A : Nat} {α : Type} {P : Option α → Prop} {K : zz_H → Option α}
def mu0 : zzM := fun o i => if o = 178 then (if i < 4 then 45 else 0) else if o = 179 then (if i < 4 then 4 else 0) else 0
def nu0 : zzN := fun _ _ => 0
theorem mu0_z {o i : Nat} (h1 : o ≠ 178) (h2 : o ≠ 179) : mu0 o i = 0 := by
  unfold mu0
  rw [if_neg h1, if_neg h2]
theorem mu0_f {o : Nat} (h1 : o ≠ 178) (h2 : o ≠ 179) : mu0 o = fun _ => 0 := funext fun _ => mu0_z h1 h2
def fsX (am : Nat) : Nat → List Value
  | 0 => [.null, .null, .null, .null, .null, .null, .null, .null, .null, .null, .null, .null, .null, .null, .null, .null, .null, .null, .null, .null, .null, .null, .null, .null, .null, .null, .null, .null, .null, .null, .int 0, .int 0, .int 0, .int 0]
  | k + 1 => (fsX am k).set k (.ref (am + mOff.getD k 0))
theorem fsX_len (am : Nat) : ∀ k, (fsX am k).length = 34
  | 0 => rfl
  | k + 1 => by
    show ((fsX am k).set k _).length = 34
    rw [List.length_set, fsX_len am k]
def XI (h0 : zz_H) (am : Nat) (h : zz_H) (off k : Nat) : Prop := h am = some (.inr (11, fsX am k)) ∧ (∀ q, q ≠ am → (q < am ∨ am + off ≤ q) → h q = h0 q) ∧ ∀ o, 1 ≤ o → o < off → h (am + o) = mCell am mu0 nu0 o
theorem mC_I {μ : zzM} {ν : zzN} {o t n : Nat} (e : mIs o = some (t, n)) : mCell am μ ν o = some (zz_I t n (μ o)) := by
  obtain ⟨h1, h2, h3⟩ := mIs_i e
  unfold mCell
  rw [if_neg h2, h3]
  simp only [e]
theorem mC_R {μ : zzM} {ν : zzN} {o t n s : Nat} (e : mRs o = some (t, n, s)) : mCell am μ ν o = some (zz_Q t n (fun i => some (am + (o + 1 + i * s)))) := by
  obtain ⟨h1, h2⟩ := mRs_i e
  unfold mCell
  rw [if_neg h2, e]
theorem mC_J {μ : zzM} {ν : zzN} {o n : Nat} (e : mJs o = some n) : mCell am μ ν o = some (zz_L 3 n (ν o)) := by
  obtain ⟨h1, h2, h3, h4⟩ := mJs_i e
  unfold mCell
  rw [if_neg h2, h3]
  simp only [h4, e]
theorem xs_g (X : XI h0 am h off k) (hA : A = am + off) (ho : 1 ≤ off) (hk : k < 30 ∧ mOff.getD k 0 = off) (e1 : ∀ q, (q < am + off ∨ am + off' ≤ q) → h1 q = h q) (e2 : ∀ o, off ≤ o → o < off' → h1 (am + o) = mCell am mu0 nu0 o) (hf : off ≤ off') (kk : ∀ h', XI h0 am h' off' (k + 1) → P (K h')) : P (zz_p h1 (some am) 11 k (.ref A) K) := by
  have e : zz_p h1 (some am) 11 k (.ref A) K = K (zz_u h1 am (.inr (11, fsX am (k + 1)))) := zp_r (fs := fsX am k) (by rw [e1 _ (Or.inl (by omega))]; exact X.1) (by rw [fsX_len]; omega) (by rw [hA, ← hk.2]; rfl)
  rw [e]
  refine kk _ ⟨zz_us, fun q g1 g2 => ?_, fun o g1 g2 => ?_⟩
  · rw [zz_un g1, e1 q (by omega), X.2.1 q g1 (by omega)]
  · rw [zz_un (by omega)]
    by_cases g : o < off
    · rw [e1 _ (Or.inl (by omega))]
      exact X.2.2 o g1 g
    · exact e2 o (by omega) g2
theorem xs_I {N : Nat} (X : XI h0 am h off k) (hA : A = am + off) (ho : 1 ≤ off) (hk : k < 30 ∧ mOff.getD k 0 = off) (hm : mIs off = some (0, N)) (h8 : off < 178) (kk : ∀ h', XI h0 am h' (off + 1) (k + 1) → P (K h')) : P (zz_p (zz_u h A (.inl (0, (N, .inl (fun _ => 0))))) (some am) 11 k (.ref A) K) := by
  refine xs_g (off' := off + 1) X hA ho hk (fun q hq => zz_un (by omega)) (fun o g1 g2 => ?_) (by omega) kk
  have : o = off := by omega
  rw [this, mC_I hm, mu0_f (by omega) (by omega), ← hA, zz_us]
theorem xs_2 {t1 t2 N M : Nat} (X : XI h0 am h off k) (hA : A = am + off) (ho : 1 ≤ off) (hk : k < 30 ∧ mOff.getD k 0 = off) (hm : mRs off = some (t1, N, 1)) (hn : ∀ o, o < off + 1 + N → off < o → mIs o = some (t2, M)) (h8 : off + 1 + N ≤ 178) (kk : ∀ h', XI h0 am h' (off + 1 + N) (k + 1) → P (K h')) : P (zz_p (zz_M2 h A t1 N t2 (M, .inl (fun _ => 0))) (some am) 11 k (.ref A) K) := by
  refine xs_g (off' := off + 1 + N) X hA ho hk (fun q hq => ?_) (fun o g1 g2 => ?_) (by omega) kk
  · unfold zz_M2
    rw [if_neg (by omega), if_neg (by omega)]
  · unfold zz_M2
    by_cases g : o = off
    · rw [g, if_pos hA.symm, mC_R hm]
      have e : (fun i => some (A + 1 + i)) = (fun i => some (am + (off + 1 + i * 1))) := by
        funext i
        congr 1
        omega
      rw [e]
    · rw [if_neg (by omega), if_pos (by omega), mC_I (hn o g2 (by omega)), mu0_f (by omega) (by omega)]
theorem xs_J {N M : Nat} (X : XI h0 am h off k) (hA : A = am + off) (ho : 1 ≤ off) (hk : k < 30 ∧ mOff.getD k 0 = off) (hm : mRs off = some (10, N, 1)) (hn : ∀ o, o < off + 1 + N → off < o → mJs o = some M) (kk : ∀ h', XI h0 am h' (off + 1 + N) (k + 1) → P (K h')) : P (zz_p (zz_M2 h A 10 N 3 (M, .inr (.inl (fun _ => 0)))) (some am) 11 k (.ref A) K) := by
  refine xs_g (off' := off + 1 + N) X hA ho hk (fun q hq => ?_) (fun o g1 g2 => ?_) (by omega) kk
  · unfold zz_M2
    rw [if_neg (by omega), if_neg (by omega)]
  · unfold zz_M2
    by_cases g : o = off
    · rw [g, if_pos hA.symm, mC_R hm]
      have e : (fun i => some (A + 1 + i)) = (fun i => some (am + (off + 1 + i * 1))) := by
        funext i
        congr 1
        omega
      rw [e]
    · rw [if_neg (by omega), if_pos (by omega), mC_J (hn o g2 (by omega))]
      rfl
theorem xs_3 {N : Nat} (X : XI h0 am h off k) (hA : A = am + off) (ho : 1 ≤ off) (hk : k < 30 ∧ mOff.getD k 0 = off) (hm : mRs off = some (7, N, 7)) (hr : ∀ o, o < off + 1 + N * 7 → (off < o ∧ (o - off - 1) % 7 = 0) → mRs o = some (6, 6, 1)) (hn : ∀ o, o < off + 1 + N * 7 → (off < o ∧ ¬ (o - off - 1) % 7 = 0) → mIs o = some (0, 6)) (h8 : off + 1 + N * 7 ≤ 178) (kk : ∀ h', XI h0 am h' (off + 1 + N * 7) (k + 1) → P (K h')) : P (zz_p (zz_M3 h A N 6 (6, .inl (fun _ => 0))) (some am) 11 k (.ref A) K) := by
  refine xs_g (off' := off + 1 + N * 7) X hA ho hk (fun q hq => ?_) (fun o g1 g2 => ?_) (by omega) kk
  · unfold zz_M3
    rw [if_neg (by omega), if_neg (by omega)]
  · unfold zz_M3
    by_cases g : o = off
    · rw [g, if_pos hA.symm, mC_R hm]
      have e : (fun i => some (A + 1 + i * (6 + 1))) = (fun i => some (am + (off + 1 + i * 7))) := by
        funext i
        congr 1
        omega
      rw [e]
    · have e0 : am + o - A - 1 = o - off - 1 := by omega
      rw [if_neg (by omega), if_pos (by omega), e0]
      by_cases g3 : (o - off - 1) % 7 = 0
      · rw [if_pos g3, mC_R (hr o g2 ⟨by omega, g3⟩)]
        have e : (fun i => some (am + o + 1 + i)) = (fun i => some (am + (o + 1 + i * 1))) := by
          funext i
          congr 1
          omega
        rw [e]
      · rw [if_neg g3, mC_I (hn o g2 ⟨by omega, g3⟩), mu0_f (by omega) (by omega)]
theorem zsi_q {a t m i : Nat} {j x : Int32} {f : Nat → Int32} {β : Type} {K : zz_H → Option β} (hj : j = Int32.ofNat i) (e : h a = some (zz_I t m f)) (hi : i < m) (hm : m < 1000) : zz_si t h (some a) j x K = K (zz_u h a (zz_I t m (upd f i x))) := by
  subst hj
  exact zsi_r e hi hm
def f4 (x : Int32) : Nat → Int32 := upd (upd (upd (upd (fun _ => 0) 0 x) 1 x) 2 x) 3 x
theorem f4_i (x : Int32) (i : Nat) : f4 x i = if i < 4 then x else 0 := by
  unfold f4 upd
  by_cases h3 : i = 3
  · rw [if_pos h3, if_pos (by omega)]
  · rw [if_neg h3]
    by_cases h2 : i = 2
    · rw [if_pos h2, if_pos (by omega)]
    · rw [if_neg h2]
      by_cases h1 : i = 1
      · rw [if_pos h1, if_pos (by omega)]
      · rw [if_neg h1]
        by_cases h0 : i = 0
        · rw [if_pos h0, if_pos (by omega)]
        · rw [if_neg h0, if_neg (by omega)]
theorem xs_4 {t : Nat} {x : Int32} (X : XI h0 am h off k) (hA : A = am + off) (ho : 1 ≤ off) (hk : k < 30 ∧ mOff.getD k 0 = off) (hm : mIs off = some (t, 4)) (hx : mu0 off = f4 x) (kk : ∀ h', XI h0 am h' (off + 1) (k + 1) → P (K h')) : P (zz_si t (zz_u h A (.inl (t, (4, .inl (fun _ => 0))))) (some A) (0 : Int32) x fun g1 => zz_si t g1 (some A) (1 : Int32) x fun g2 => zz_si t g2 (some A) (2 : Int32) x fun g3 => zz_si t g3 (some A) (3 : Int32) x fun g4 => zz_p g4 (some am) 11 k (.ref A) K) := by
  rw [zsi_q (j := 0) (i := 0) (m := 4) (f := fun _ => 0) rfl zz_us (by decide) (by decide), zsi_q (j := 1) (i := 1) (m := 4) (f := upd (fun _ => 0) 0 x) rfl zz_us (by decide) (by decide), zsi_q (j := 2) (i := 2) (m := 4) (f := upd (upd (fun _ => 0) 0 x) 1 x) rfl zz_us (by decide) (by decide), zsi_q (j := 3) (i := 3) (m := 4) (f := upd (upd (upd (fun _ => 0) 0 x) 1 x) 2 x) rfl zz_us (by decide) (by decide)]
  refine xs_g (off' := off + 1) X hA ho hk (fun q hq => ?_) (fun o g1 g2 => ?_) (by omega) kk
  · have : q ≠ A := by omega
    rw [zz_un this, zz_un this, zz_un this, zz_un this, zz_un this]
  · have : o = off := by omega
    rw [this, mC_I hm, hx, ← hA, zz_us]
    rfl
set_option maxRecDepth 100000 in
set_option maxHeartbeats 4000000 in
theorem x10 {t0 : Nat} (e0 : h am = some (.inr (11, fsX am 0))) : ∃ h2 n2, f_X10_init t0 am h (am + 1) = some ((), h2, n2) ∧ n2 = am + 180 ∧ XI h am h2 180 30 := by
  have X0 : XI h am h 1 0 := ⟨e0, fun _ _ _ => rfl, fun o g1 g2 => by omega⟩
  unfold f_X10_init
  refine xs_I (P := fun x => ∃ h2 n2, x = some ((), h2, n2) ∧ n2 = am + 180 ∧ XI h am h2 180 30) (off := 1) (N := 4) X0 (by omega) (by decide) (by decide) (by decide +kernel) (by decide) (fun g1 X1 => ?_)
  refine xs_I (P := fun x => ∃ h2 n2, x = some ((), h2, n2) ∧ n2 = am + 180 ∧ XI h am h2 180 30) (off := 2) (N := 4) X1 (by omega) (by decide) (by decide) (by decide +kernel) (by decide) (fun g2 X2 => ?_)
  refine xs_I (P := fun x => ∃ h2 n2, x = some ((), h2, n2) ∧ n2 = am + 180 ∧ XI h am h2 180 30) (off := 3) (N := 4) X2 (by omega) (by decide) (by decide) (by decide +kernel) (by decide) (fun g3 X3 => ?_)
  refine xs_2 (P := fun x => ∃ h2 n2, x = some ((), h2, n2) ∧ n2 = am + 180 ∧ XI h am h2 180 30) (off := 4) (t1 := 8) (N := 4) (t2 := 1) (M := 9) X3 (by omega) (by decide) (by decide) (by decide +kernel) (by decide +kernel) (by decide) (fun g4 X4 => ?_)
  refine xs_2 (P := fun x => ∃ h2 n2, x = some ((), h2, n2) ∧ n2 = am + 180 ∧ XI h am h2 180 30) (off := 9) (t1 := 9) (N := 4) (t2 := 2) (M := 9) X4 (by omega) (by decide) (by decide) (by decide +kernel) (by decide +kernel) (by decide) (fun g5 X5 => ?_)
  refine xs_I (P := fun x => ∃ h2 n2, x = some ((), h2, n2) ∧ n2 = am + 180 ∧ XI h am h2 180 30) (off := 14) (N := 4) X5 (by omega) (by decide) (by decide) (by decide +kernel) (by decide) (fun g6 X6 => ?_)
  refine xs_3 (P := fun x => ∃ h2 n2, x = some ((), h2, n2) ∧ n2 = am + 180 ∧ XI h am h2 180 30) (off := 15) (N := 4) X6 (by omega) (by decide) (by decide) (by decide +kernel) (by decide +kernel) (by decide +kernel) (by decide) (fun g7 X7 => ?_)
  refine xs_3 (P := fun x => ∃ h2 n2, x = some ((), h2, n2) ∧ n2 = am + 180 ∧ XI h am h2 180 30) (off := 44) (N := 4) X7 (by omega) (by decide) (by decide) (by decide +kernel) (by decide +kernel) (by decide +kernel) (by decide) (fun g8 X8 => ?_)
  refine xs_2 (P := fun x => ∃ h2 n2, x = some ((), h2, n2) ∧ n2 = am + 180 ∧ XI h am h2 180 30) (off := 73) (t1 := 6) (N := 4) (t2 := 0) (M := 6) X8 (by omega) (by decide) (by decide) (by decide +kernel) (by decide +kernel) (by decide) (fun g9 X9 => ?_)
  refine xs_2 (P := fun x => ∃ h2 n2, x = some ((), h2, n2) ∧ n2 = am + 180 ∧ XI h am h2 180 30) (off := 78) (t1 := 6) (N := 4) (t2 := 0) (M := 6) X9 (by omega) (by decide) (by decide) (by decide +kernel) (by decide +kernel) (by decide) (fun g10 X10 => ?_)
  refine xs_I (P := fun x => ∃ h2 n2, x = some ((), h2, n2) ∧ n2 = am + 180 ∧ XI h am h2 180 30) (off := 83) (N := 4) X10 (by omega) (by decide) (by decide) (by decide +kernel) (by decide) (fun g11 X11 => ?_)
  refine xs_2 (P := fun x => ∃ h2 n2, x = some ((), h2, n2) ∧ n2 = am + 180 ∧ XI h am h2 180 30) (off := 84) (t1 := 8) (N := 4) (t2 := 1) (M := 4) X11 (by omega) (by decide) (by decide) (by decide +kernel) (by decide +kernel) (by decide) (fun g12 X12 => ?_)
  refine xs_2 (P := fun x => ∃ h2 n2, x = some ((), h2, n2) ∧ n2 = am + 180 ∧ XI h am h2 180 30) (off := 89) (t1 := 6) (N := 4) (t2 := 0) (M := 4) X12 (by omega) (by decide) (by decide) (by decide +kernel) (by decide +kernel) (by decide) (fun g13 X13 => ?_)
  refine xs_2 (P := fun x => ∃ h2 n2, x = some ((), h2, n2) ∧ n2 = am + 180 ∧ XI h am h2 180 30) (off := 94) (t1 := 6) (N := 4) (t2 := 0) (M := 4) X13 (by omega) (by decide) (by decide) (by decide +kernel) (by decide +kernel) (by decide) (fun g14 X14 => ?_)
  refine xs_J (P := fun x => ∃ h2 n2, x = some ((), h2, n2) ∧ n2 = am + 180 ∧ XI h am h2 180 30) (off := 99) (N := 4) (M := 4) X14 (by omega) (by decide) (by decide) (by decide +kernel) (by decide +kernel) (fun g15 X15 => ?_)
  refine xs_2 (P := fun x => ∃ h2 n2, x = some ((), h2, n2) ∧ n2 = am + 180 ∧ XI h am h2 180 30) (off := 104) (t1 := 6) (N := 4) (t2 := 0) (M := 4) X15 (by omega) (by decide) (by decide) (by decide +kernel) (by decide +kernel) (by decide) (fun g16 X16 => ?_)
  refine xs_3 (P := fun x => ∃ h2 n2, x = some ((), h2, n2) ∧ n2 = am + 180 ∧ XI h am h2 180 30) (off := 109) (N := 4) X16 (by omega) (by decide) (by decide) (by decide +kernel) (by decide +kernel) (by decide +kernel) (by decide) (fun g17 X17 => ?_)
  refine xs_2 (P := fun x => ∃ h2 n2, x = some ((), h2, n2) ∧ n2 = am + 180 ∧ XI h am h2 180 30) (off := 138) (t1 := 6) (N := 4) (t2 := 0) (M := 6) X17 (by omega) (by decide) (by decide) (by decide +kernel) (by decide +kernel) (by decide) (fun g18 X18 => ?_)
  refine xs_I (P := fun x => ∃ h2 n2, x = some ((), h2, n2) ∧ n2 = am + 180 ∧ XI h am h2 180 30) (off := 143) (N := 4) X18 (by omega) (by decide) (by decide) (by decide +kernel) (by decide) (fun g19 X19 => ?_)
  refine xs_I (P := fun x => ∃ h2 n2, x = some ((), h2, n2) ∧ n2 = am + 180 ∧ XI h am h2 180 30) (off := 144) (N := 4) X19 (by omega) (by decide) (by decide) (by decide +kernel) (by decide) (fun g20 X20 => ?_)
  refine xs_I (P := fun x => ∃ h2 n2, x = some ((), h2, n2) ∧ n2 = am + 180 ∧ XI h am h2 180 30) (off := 145) (N := 4) X20 (by omega) (by decide) (by decide) (by decide +kernel) (by decide) (fun g21 X21 => ?_)
  refine xs_I (P := fun x => ∃ h2 n2, x = some ((), h2, n2) ∧ n2 = am + 180 ∧ XI h am h2 180 30) (off := 146) (N := 4) X21 (by omega) (by decide) (by decide) (by decide +kernel) (by decide) (fun g22 X22 => ?_)
  refine xs_3 (P := fun x => ∃ h2 n2, x = some ((), h2, n2) ∧ n2 = am + 180 ∧ XI h am h2 180 30) (off := 147) (N := 3) X22 (by omega) (by decide) (by decide) (by decide +kernel) (by decide +kernel) (by decide +kernel) (by decide) (fun g23 X23 => ?_)
  refine xs_I (P := fun x => ∃ h2 n2, x = some ((), h2, n2) ∧ n2 = am + 180 ∧ XI h am h2 180 30) (off := 169) (N := 4) X23 (by omega) (by decide) (by decide) (by decide +kernel) (by decide) (fun g24 X24 => ?_)
  refine xs_I (P := fun x => ∃ h2 n2, x = some ((), h2, n2) ∧ n2 = am + 180 ∧ XI h am h2 180 30) (off := 170) (N := 4) X24 (by omega) (by decide) (by decide) (by decide +kernel) (by decide) (fun g25 X25 => ?_)
  refine xs_I (P := fun x => ∃ h2 n2, x = some ((), h2, n2) ∧ n2 = am + 180 ∧ XI h am h2 180 30) (off := 171) (N := 4) X25 (by omega) (by decide) (by decide) (by decide +kernel) (by decide) (fun g26 X26 => ?_)
  refine xs_I (P := fun x => ∃ h2 n2, x = some ((), h2, n2) ∧ n2 = am + 180 ∧ XI h am h2 180 30) (off := 172) (N := 4) X26 (by omega) (by decide) (by decide) (by decide +kernel) (by decide) (fun g27 X27 => ?_)
  refine xs_2 (P := fun x => ∃ h2 n2, x = some ((), h2, n2) ∧ n2 = am + 180 ∧ XI h am h2 180 30) (off := 173) (t1 := 6) (N := 4) (t2 := 0) (M := 10) X27 (by omega) (by decide) (by decide) (by decide +kernel) (by decide +kernel) (by decide) (fun g28 X28 => ?_)
  have q178 : mu0 178 = f4 (vp_nar .char 45) := by
    have c : (vp_nar .char 45 : Int32) = 45 := by decide
    rw [c]
    funext i
    rw [f4_i]
    rfl
  refine xs_4 (P := fun x => ∃ h2 n2, x = some ((), h2, n2) ∧ n2 = am + 180 ∧ XI h am h2 180 30) (off := 178) (t := 1) (x := vp_nar .char 45) X28 (by omega) (by decide) (by decide) (by decide +kernel) q178 (fun g29 X29 => ?_)
  have q179 : mu0 179 = f4 (4) := by
    funext i
    rw [f4_i]
    rfl
  refine xs_4 (P := fun x => ∃ h2 n2, x = some ((), h2, n2) ∧ n2 = am + 180 ∧ XI h am h2 180 30) (off := 179) (t := 0) (x := 4) X29 (by omega) (by decide) (by decide) (by decide +kernel) q179 (fun g30 X30 => ?_)
  exact ⟨_, _, rfl, by omega, X30⟩
end ZYB
