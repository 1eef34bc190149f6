section ZJA
/-! the class behind the law's calls: what a call answers, by the reference's own state -/
variable {ad : Nat → Nat} {iv : Nat → Option Nat} {lv : Nat → Bool} {t0 base : Nat} {ow : zz_H} {κ κ' : zzM} {νc νc' : zzN} {μ μ' M : zzM} {ν ν' N : zzN} {H H' : Int} {nS nK : Nat} {h : zz_H} {n n' : Nat}
def JJ (t0 base : Nat) (ow : zz_H) (μ : zzM) (ν : zzN) (nS nK : Nat) (H : Int) (h : zz_H) (n : Nat) : Prop := μ 0 33 = 0 ∧ ∃ ad iv lv κ νc, S0 ad iv lv t0 base ow κ νc h n ∧ RR lv κ νc μ ν H nS 0 nK ∧ LV lv nS
theorem JJ_n : ∀ (h : zz_H) (n n1 : Nat), n ≤ n1 → JJ t0 base ow μ ν nS nK H h n → JJ t0 base ow μ ν nS nK H h n1 := fun h n n1 hn ⟨z, ad, iv, lv, κ, νc, S, R, V⟩ => ⟨z, ad, iv, lv, κ, νc, S0_n S hn, R, V⟩
theorem JJ_ow (J : JJ t0 base ow μ ν nS nK H h n) {q : Nat} {x : zz_C} (e : ow q = some x) : h q = some x ∧ q < n := by
  obtain ⟨z, ad, iv, lv, κ, νc, S, R, V⟩ := J
  exact ⟨S.2.2.2.1 q x e, (S.2.2.2.2.1 q x e).2⟩
theorem JJ_wr (J : JJ t0 base ow μ ν nS nK H h n) {a : Nat} {x y : zz_C} (ha : ow a = some x) : JJ t0 base (zz_u ow a y) μ ν nS nK H (zz_u h a y) n := by
  obtain ⟨z, ad, iv, lv, κ, νc, S, R, V⟩ := J
  exact ⟨z, ad, iv, lv, κ, νc, S0_wr S ha, R, V⟩
theorem JJ_mk (J : JJ t0 base ow μ ν nS nK H h n) {n' : Nat} (hn : n ≤ n') {ow' h' : zz_H} (e1 : ∀ q, q < n → ow' q = ow q ∧ h' q = h q) (e2 : ∀ q x, ow' q = some x → n ≤ q → q < n' ∧ h' q = some x) : JJ t0 base ow' μ ν nS nK H h' n' := by
  obtain ⟨z, ad, iv, lv, κ, νc, S, R, V⟩ := J
  exact ⟨z, ad, iv, lv, κ, νc, S0_mk S hn e1 e2, R, V⟩
theorem JJ_H (J : JJ t0 base ow μ ν nS nK H h n) (hh : H ≤ H') (hH : H' ≤ 100000000) : JJ t0 base ow μ ν nS nK H' h n := by
  obtain ⟨z, ad, iv, lv, κ, νc, S, R, V⟩ := J
  exact ⟨z, ad, iv, lv, κ, νc, S, RR_up hh hH R, V⟩
theorem JJ_base (J : JJ t0 base ow μ ν nS nK H h n) : ∃ fs, h base = some (.inr (10, fs)) := by
  obtain ⟨z, ad, iv, lv, κ, νc, S, R, V⟩ := J
  exact (S0_ax (α := Nat) (K := fun _ => none) S R.1.1).1
theorem zset_b {o i : Nat} {t : Int32} (z : μ o i = 0) : zset (zset μ o i t) o i 0 = μ := by
  funext a b
  unfold zset
  by_cases g : a = o ∧ b = i
  · rw [if_pos g, g.1, g.2, z]
  · rw [if_neg g, if_neg g]
theorem zset_z {o i : Nat} (z : μ o i = 0) : zset μ o i 0 = μ := by
  funext a b
  unfold zset
  by_cases g : a = o ∧ b = i
  · rw [if_pos g, g.1, g.2, z]
  · rw [if_neg g]
def LW1 (h : zz_H) (base n : Nat) (fx : Option ((Int32 ⊕ Nat) × zz_H)) (X : Nat → zz_H → Option (Int32 × zz_H × Nat)) : Option (Int32 × zz_H × Nat) := zz_ob h (some base) 10 fun _ => zz_th1 fx (fun v h' => some (v, h', n)) X
def LW0 (h : zz_H) (base n : Nat) (fx : Option (Int32 ⊕ Nat)) (X : Nat → Option (Int32 × zz_H × Nat)) : Option (Int32 × zz_H × Nat) := zz_ob h (some base) 10 fun _ => zz_th fx (fun v => some (v, h, n)) X
def LW2 (h : zz_H) (base : Nat) (fx : Option ((Int32 ⊕ Nat) × zz_H × Nat)) (X : Nat → zz_H → Nat → Option (Int32 × zz_H × Nat)) : Option (Int32 × zz_H × Nat) := zz_ob h (some base) 10 fun _ => zz_th2 fx (fun v h' n' => some (v, h', n')) X
theorem Op1_get {cd : Nat → Option Int32} {gx : Option ((Int32 ⊕ Nat) × zzM × zzN)} {gm : Option (Int32 × zzM × zzN)} {nB : Nat} {v : Int32} (O : Op1 lv H nS nB nK cd gx gm) (e : gm = some (v, M, N)) (z : M 0 33 = 0) : ∃ κ' νc', gx = some (.inl v, κ', νc') ∧ RR lv κ' νc' M N H nS nB nK := by
  obtain ⟨out, κ', νc', v', μ', ν', e1, e2, R, hO⟩ := O
  cases e.symm.trans e2
  rcases hO with ⟨w, rfl, -, rfl⟩ | ⟨e, rfl, hc, g⟩
  · exact ⟨κ', νc', e1, R⟩
  · exact absurd z g
theorem Op1_err {cd : Nat → Option Int32} {gx : Option ((Int32 ⊕ Nat) × zzM × zzN)} {gm : Option (Int32 × zzM × zzN)} {nB : Nat} {v t : Int32} (O : Op1 lv H nS nB nK cd gx gm) (z : μ 0 33 = 0) (e : gm = some (v, zset μ 0 33 t, ν)) (ht : t ≠ 0) : ∃ y κ' νc', gx = some (.inr y, κ', νc') ∧ cd y = some t ∧ RR lv κ' νc' μ ν H nS nB nK := by
  obtain ⟨out, κ', νc', v', μ', ν', e1, e2, R, hO⟩ := O
  cases e.symm.trans e2
  rcases hO with ⟨w, rfl, g, rfl⟩ | ⟨y, rfl, hc, g⟩
  · rw [zset_h] at g
    exact absurd g ht
  · rw [zset_h] at hc
    have R2 := RR_t 0 R
    rw [zset_b z] at R2
    exact ⟨y, κ', νc', e1, hc, R2⟩
theorem w1_v {cd : Nat → Option Int32} {gx : Option ((Int32 ⊕ Nat) × zzM × zzN)} {gm : Option (Int32 × zzM × zzN)} {fx : Option ((Int32 ⊕ Nat) × zz_H)} {X : Nat → zz_H → Option (Int32 × zz_H × Nat)} {v : Int32} (S : S0 ad iv lv t0 base ow κ νc h n) (r0 : lv 0 = true ∧ co 0 = 10) (V : LV lv nS) (O : Op1 lv H nS 0 nK cd gx gm) (hx : zLe (fun r : ((Int32 ⊕ Nat) × zzM × zzN) => (r.1, zc h ad iv t0 r.2.1 r.2.2)) gx fx) (e : gm = some (v, M, N)) (z : M 0 33 = 0) : ∃ h' n', LW1 h base n fx X = some (v, h', n') ∧ JJ t0 base ow M N nS nK H h' n' := by
  obtain ⟨κ', νc', e1, R⟩ := Op1_get O e z
  have ex := hx _ e1
  dsimp only at ex
  refine ⟨_, n, ?_, z, ad, iv, lv, κ', νc', S0_c S κ' νc', R, V⟩
  unfold LW1
  rw [(S0_ax S r0).2, ex]
  rfl
theorem w1_e {cd : Nat → Option Int32} {gx : Option ((Int32 ⊕ Nat) × zzM × zzN)} {gm : Option (Int32 × zzM × zzN)} {fx : Option ((Int32 ⊕ Nat) × zz_H)} {X : Nat → zz_H → Option (Int32 × zz_H × Nat)} {v t : Int32} (S : S0 ad iv lv t0 base ow κ νc h n) (r0 : lv 0 = true ∧ co 0 = 10) (V : LV lv nS) (O : Op1 lv H nS 0 nK cd gx gm) (hx : zLe (fun r : ((Int32 ⊕ Nat) × zzM × zzN) => (r.1, zc h ad iv t0 r.2.1 r.2.2)) gx fx) (z : μ 0 33 = 0) (e : gm = some (v, zset μ 0 33 t, ν)) (ht : t ≠ 0) (hX : ∀ y t h', cd y = some t → X y h' = some (-900000 - t, h', n)) : ∃ h' n', LW1 h base n fx X = some (-900000 - t, h', n') ∧ JJ t0 base ow μ ν nS nK H h' n' := by
  obtain ⟨y, κ', νc', e1, hc, R⟩ := Op1_err O z e ht
  have ex := hx _ e1
  dsimp only at ex
  refine ⟨_, n, ?_, z, ad, iv, lv, κ', νc', S0_c S κ' νc', R, V⟩
  unfold LW1
  rw [(S0_ax S r0).2, ex]
  exact hX y t _ hc
theorem w0_v {cd : Nat → Option Int32} {gx : Option (Int32 ⊕ Nat)} {gm : Option (Int32 × zzM × zzN)} {fx : Option (Int32 ⊕ Nat)} {X : Nat → Option (Int32 × zz_H × Nat)} {v : Int32} (S : S0 ad iv lv t0 base ow κ νc h n) (r0 : lv 0 = true ∧ co 0 = 10) (V : LV lv nS) (O : Op1 lv H nS 0 nK cd (up κ νc gx) gm) (hx : zLe id gx fx) (e : gm = some (v, M, N)) (z : M 0 33 = 0) : ∃ h' n', LW0 h base n fx X = some (v, h', n') ∧ JJ t0 base ow M N nS nK H h' n' := by
  obtain ⟨κ', νc', e1, R⟩ := Op1_get O e z
  obtain ⟨e1', rfl, rfl⟩ := up_s e1
  have ex := hx _ e1'
  refine ⟨h, n, ?_, z, ad, iv, lv, _, _, S, R, V⟩
  unfold LW0
  rw [(S0_ax S r0).2, ex]
  rfl
theorem w0_e {cd : Nat → Option Int32} {gx : Option (Int32 ⊕ Nat)} {gm : Option (Int32 × zzM × zzN)} {fx : Option (Int32 ⊕ Nat)} {X : Nat → Option (Int32 × zz_H × Nat)} {v t : Int32} (S : S0 ad iv lv t0 base ow κ νc h n) (r0 : lv 0 = true ∧ co 0 = 10) (V : LV lv nS) (O : Op1 lv H nS 0 nK cd (up κ νc gx) gm) (hx : zLe id gx fx) (z : μ 0 33 = 0) (e : gm = some (v, zset μ 0 33 t, ν)) (ht : t ≠ 0) (hX : ∀ y t, cd y = some t → X y = some (-900000 - t, h, n)) : ∃ h' n', LW0 h base n fx X = some (-900000 - t, h', n') ∧ JJ t0 base ow μ ν nS nK H h' n' := by
  obtain ⟨y, κ', νc', e1, hc, R⟩ := Op1_err O z e ht
  obtain ⟨e1', rfl, rfl⟩ := up_s e1
  have ex := hx _ e1'
  refine ⟨h, n, ?_, z, ad, iv, lv, _, _, S, R, V⟩
  unfold LW0
  rw [(S0_ax S r0).2, ex]
  exact hX y t hc
/-- a call that only reads, without a handler -/
theorem w00_v {cd : Nat → Option Int32} {gx : Option (Int32 ⊕ Nat)} {gm : Option (Int32 × zzM × zzN)} {fx : Option (Int32 ⊕ Nat)} {v : Int32} (O : Op1 lv H nS 0 nK cd (up κ νc gx) gm) (hx : zLe id gx fx) (e : gm = some (v, M, N)) (z : M 0 33 = 0) : fx = some (.inl v) := by
  obtain ⟨κ', νc', e1, R⟩ := Op1_get O e z
  obtain ⟨e1', rfl, rfl⟩ := up_s e1
  exact hx _ e1'
/-- .. and the law goes on -/
theorem zlw {x : Option (Int32 × zz_H × Nat)} {v : Int32} {P : zz_H → Nat → Prop} {K : Int32 → zz_H → Nat → Prop} (hm : ∀ h n n1, n ≤ n1 → P h n → P h n1) (hx : ∃ h' n', x = some (v, h', n') ∧ P h' n') (hK : ∀ h' n1, P h' n1 → K v h' n1) : zl_w x K := by
  obtain ⟨h', n', e, hp⟩ := hx
  exact ⟨v, h', n', e, fun n1 hn => hK h' n1 (hm h' n' n1 hn hp)⟩
theorem cv_web (J : JJ t0 base ow μ ν nS nK H h n) {x1 x2 v : Int32} (e : g_X10_web x1 x2 μ ν = some (v, M, N)) (z : M 0 33 = 0) : ∃ h' n', f_L_web t0 base x1 x2 h n = some (v, h', n') ∧ JJ t0 base ow M N nS nK H h' n' := by
  obtain ⟨z0, ad, iv, lv, κ, νc, S, R, V⟩ := J
  have e1 := sc_X9_web S.1 S.2.1 (h := h) (t0 := t0) (a0 := 0) (x1 := x1) (x2 := x2) (κ := κ) (ν := νc)
  rw [S0_hc S, S.2.2.2.2.2.2.2.2.1] at e1
  exact w1_v (fx := (f_X9_web base x1 x2 h)) (X := (fun k h' => if k = 2 then some ((-900001 : Int32), h', n) else (if k = 0 then some ((-900002 : Int32), h', n) else (if k = 3 then some ((-900003 : Int32), h', n) else none)))) S R.1.1 V (op_web R x1 x2) e1 e z
theorem ce_web (J : JJ t0 base ow μ ν nS nK H h n) {x1 x2 v t : Int32} (e : g_X10_web x1 x2 μ ν = some (v, zset μ 0 33 t, ν)) (ht : t ≠ 0) : ∃ h' n', f_L_web t0 base x1 x2 h n = some (-900000 - t, h', n') ∧ JJ t0 base ow μ ν nS nK H h' n' := by
  obtain ⟨z0, ad, iv, lv, κ, νc, S, R, V⟩ := J
  have e1 := sc_X9_web S.1 S.2.1 (h := h) (t0 := t0) (a0 := 0) (x1 := x1) (x2 := x2) (κ := κ) (ν := νc)
  rw [S0_hc S, S.2.2.2.2.2.2.2.2.1] at e1
  refine w1_e (fx := (f_X9_web base x1 x2 h)) (X := (fun k h' => if k = 2 then some ((-900001 : Int32), h', n) else (if k = 0 then some ((-900002 : Int32), h', n) else (if k = 3 then some ((-900003 : Int32), h', n) else none)))) S R.1.1 V (op_web R x1 x2) e1 z0 e ht (fun y t h' hc => ?_)
  by_cases g0 : y = 2
  · subst g0
    have hc2 : some (1 : Int32) = some t := hc
    cases hc2
    rfl
  by_cases g1 : y = 0
  · subst g1
    have hc2 : some (2 : Int32) = some t := hc
    cases hc2
    rfl
  by_cases g2 : y = 3
  · subst g2
    have hc2 : some (3 : Int32) = some t := hc
    cases hc2
    rfl
  unfold cd_web at hc
  rw [if_neg g0, if_neg g1, if_neg g2] at hc
  cases hc
theorem cv_spring (J : JJ t0 base ow μ ν nS nK H h n) {x1 x2 x3 v : Int32} (e : g_X10_spring x1 x2 x3 μ ν = some (v, M, N)) (z : M 0 33 = 0) : ∃ h' n', f_L_spring t0 base x1 x2 x3 h n = some (v, h', n') ∧ JJ t0 base ow M N nS nK H h' n' := by
  obtain ⟨z0, ad, iv, lv, κ, νc, S, R, V⟩ := J
  have e1 := sc_X9_spring S.1 S.2.1 (h := h) (t0 := t0) (a0 := 0) (x1 := x1) (x2 := x2) (x3 := x3) (κ := κ) (ν := νc)
  rw [S0_hc S, S.2.2.2.2.2.2.2.2.1] at e1
  exact w1_v (fx := (f_X9_spring base x1 x2 x3 h)) (X := (fun k h' => if k = 2 then some ((-900001 : Int32), h', n) else (if k = 0 then some ((-900002 : Int32), h', n) else (if k = 3 then some ((-900003 : Int32), h', n) else none)))) S R.1.1 V (op_spring R x1 x2 x3) e1 e z
theorem ce_spring (J : JJ t0 base ow μ ν nS nK H h n) {x1 x2 x3 v t : Int32} (e : g_X10_spring x1 x2 x3 μ ν = some (v, zset μ 0 33 t, ν)) (ht : t ≠ 0) : ∃ h' n', f_L_spring t0 base x1 x2 x3 h n = some (-900000 - t, h', n') ∧ JJ t0 base ow μ ν nS nK H h' n' := by
  obtain ⟨z0, ad, iv, lv, κ, νc, S, R, V⟩ := J
  have e1 := sc_X9_spring S.1 S.2.1 (h := h) (t0 := t0) (a0 := 0) (x1 := x1) (x2 := x2) (x3 := x3) (κ := κ) (ν := νc)
  rw [S0_hc S, S.2.2.2.2.2.2.2.2.1] at e1
  refine w1_e (fx := (f_X9_spring base x1 x2 x3 h)) (X := (fun k h' => if k = 2 then some ((-900001 : Int32), h', n) else (if k = 0 then some ((-900002 : Int32), h', n) else (if k = 3 then some ((-900003 : Int32), h', n) else none)))) S R.1.1 V (op_spring R x1 x2 x3) e1 z0 e ht (fun y t h' hc => ?_)
  by_cases g0 : y = 2
  · subst g0
    have hc2 : some (1 : Int32) = some t := hc
    cases hc2
    rfl
  by_cases g1 : y = 0
  · subst g1
    have hc2 : some (2 : Int32) = some t := hc
    cases hc2
    rfl
  by_cases g2 : y = 3
  · subst g2
    have hc2 : some (3 : Int32) = some t := hc
    cases hc2
    rfl
  unfold cd_spring at hc
  rw [if_neg g0, if_neg g1, if_neg g2] at hc
  cases hc
theorem cv_change (J : JJ t0 base ow μ ν nS nK H h n) {x1 x2 x3 x4 v : Int32} (e : g_X10_change x1 x2 x3 x4 μ ν = some (v, M, N)) (z : M 0 33 = 0) : ∃ h' n', f_L_change t0 base x1 x2 x3 x4 h n = some (v, h', n') ∧ JJ t0 base ow M N nS nK H h' n' := by
  obtain ⟨z0, ad, iv, lv, κ, νc, S, R, V⟩ := J
  have e1 := sc_X9_change S.1 S.2.1 (h := h) (t0 := t0) (a0 := 0) (x1 := x1) (x2 := x2) (x3 := x3) (x4 := x4) (κ := κ) (ν := νc)
  rw [S0_hc S, S.2.2.2.2.2.2.2.2.1] at e1
  exact w1_v (fx := (f_X9_change base x1 x2 x3 x4 h)) (X := (fun k h' => if k = 2 then some ((-900001 : Int32), h', n) else (if k = 0 then some ((-900002 : Int32), h', n) else (if k = 3 then some ((-900003 : Int32), h', n) else none)))) S R.1.1 V (op_change R x1 x2 x3 x4) e1 e z
theorem ce_change (J : JJ t0 base ow μ ν nS nK H h n) {x1 x2 x3 x4 v t : Int32} (e : g_X10_change x1 x2 x3 x4 μ ν = some (v, zset μ 0 33 t, ν)) (ht : t ≠ 0) : ∃ h' n', f_L_change t0 base x1 x2 x3 x4 h n = some (-900000 - t, h', n') ∧ JJ t0 base ow μ ν nS nK H h' n' := by
  obtain ⟨z0, ad, iv, lv, κ, νc, S, R, V⟩ := J
  have e1 := sc_X9_change S.1 S.2.1 (h := h) (t0 := t0) (a0 := 0) (x1 := x1) (x2 := x2) (x3 := x3) (x4 := x4) (κ := κ) (ν := νc)
  rw [S0_hc S, S.2.2.2.2.2.2.2.2.1] at e1
  refine w1_e (fx := (f_X9_change base x1 x2 x3 x4 h)) (X := (fun k h' => if k = 2 then some ((-900001 : Int32), h', n) else (if k = 0 then some ((-900002 : Int32), h', n) else (if k = 3 then some ((-900003 : Int32), h', n) else none)))) S R.1.1 V (op_change R x1 x2 x3 x4) e1 z0 e ht (fun y t h' hc => ?_)
  by_cases g0 : y = 2
  · subst g0
    have hc2 : some (1 : Int32) = some t := hc
    cases hc2
    rfl
  by_cases g1 : y = 0
  · subst g1
    have hc2 : some (2 : Int32) = some t := hc
    cases hc2
    rfl
  by_cases g2 : y = 3
  · subst g2
    have hc2 : some (3 : Int32) = some t := hc
    cases hc2
    rfl
  unfold cd_change at hc
  rw [if_neg g0, if_neg g1, if_neg g2] at hc
  cases hc
theorem cv_tie (J : JJ t0 base ow μ ν nS nK H h n) {x1 v : Int32} (e : g_X10_tie x1 μ ν = some (v, M, N)) (z : M 0 33 = 0) : ∃ h' n', f_L_tie t0 base x1 h n = some (v, h', n') ∧ JJ t0 base ow M N nS nK H h' n' := by
  obtain ⟨z0, ad, iv, lv, κ, νc, S, R, V⟩ := J
  have e1 := sc_X9_tie S.1 S.2.1 (h := h) (t0 := t0) (a0 := 0) (x1 := x1) (κ := κ) (ν := νc)
  rw [S0_hc S, S.2.2.2.2.2.2.2.2.1] at e1
  exact w1_v (fx := (f_X9_tie base x1 h)) (X := (fun k h' => if k = 2 then some ((-900001 : Int32), h', n) else (if k = 3 then some ((-900002 : Int32), h', n) else none))) S R.1.1 V (op_tie R x1) e1 e z
theorem ce_tie (J : JJ t0 base ow μ ν nS nK H h n) {x1 v t : Int32} (e : g_X10_tie x1 μ ν = some (v, zset μ 0 33 t, ν)) (ht : t ≠ 0) : ∃ h' n', f_L_tie t0 base x1 h n = some (-900000 - t, h', n') ∧ JJ t0 base ow μ ν nS nK H h' n' := by
  obtain ⟨z0, ad, iv, lv, κ, νc, S, R, V⟩ := J
  have e1 := sc_X9_tie S.1 S.2.1 (h := h) (t0 := t0) (a0 := 0) (x1 := x1) (κ := κ) (ν := νc)
  rw [S0_hc S, S.2.2.2.2.2.2.2.2.1] at e1
  refine w1_e (fx := (f_X9_tie base x1 h)) (X := (fun k h' => if k = 2 then some ((-900001 : Int32), h', n) else (if k = 3 then some ((-900002 : Int32), h', n) else none))) S R.1.1 V (op_tie R x1) e1 z0 e ht (fun y t h' hc => ?_)
  by_cases g0 : y = 2
  · subst g0
    have hc2 : some (1 : Int32) = some t := hc
    cases hc2
    rfl
  by_cases g1 : y = 3
  · subst g1
    have hc2 : some (2 : Int32) = some t := hc
    cases hc2
    rfl
  unfold cd_tie at hc
  rw [if_neg g0, if_neg g1] at hc
  cases hc
theorem cv_pull (J : JJ t0 base ow μ ν nS nK H h n) {x1 x2 x3 x4 v : Int32} (e : g_X10_pull x1 x2 x3 x4 μ ν = some (v, M, N)) (z : M 0 33 = 0) : ∃ h' n', f_L_pull t0 base x1 x2 x3 x4 h n = some (v, h', n') ∧ JJ t0 base ow M N nS nK H h' n' := by
  obtain ⟨z0, ad, iv, lv, κ, νc, S, R, V⟩ := J
  have e1 := sc_X9_pull S.1 S.2.1 (h := h) (t0 := t0) (a0 := 0) (x1 := x1) (x2 := x2) (x3 := x3) (x4 := x4) (κ := κ) (ν := νc)
  rw [S0_hc S, S.2.2.2.2.2.2.2.2.1] at e1
  exact w1_v (fx := (f_X9_pull base x1 x2 x3 x4 h)) (X := (fun k h' => if k = 2 then some ((-900001 : Int32), h', n) else (if k = 0 then some ((-900002 : Int32), h', n) else (if k = 3 then some ((-900003 : Int32), h', n) else none)))) S R.1.1 V (op_pull R x1 x2 x3 x4) e1 e z
theorem ce_pull (J : JJ t0 base ow μ ν nS nK H h n) {x1 x2 x3 x4 v t : Int32} (e : g_X10_pull x1 x2 x3 x4 μ ν = some (v, zset μ 0 33 t, ν)) (ht : t ≠ 0) : ∃ h' n', f_L_pull t0 base x1 x2 x3 x4 h n = some (-900000 - t, h', n') ∧ JJ t0 base ow μ ν nS nK H h' n' := by
  obtain ⟨z0, ad, iv, lv, κ, νc, S, R, V⟩ := J
  have e1 := sc_X9_pull S.1 S.2.1 (h := h) (t0 := t0) (a0 := 0) (x1 := x1) (x2 := x2) (x3 := x3) (x4 := x4) (κ := κ) (ν := νc)
  rw [S0_hc S, S.2.2.2.2.2.2.2.2.1] at e1
  refine w1_e (fx := (f_X9_pull base x1 x2 x3 x4 h)) (X := (fun k h' => if k = 2 then some ((-900001 : Int32), h', n) else (if k = 0 then some ((-900002 : Int32), h', n) else (if k = 3 then some ((-900003 : Int32), h', n) else none)))) S R.1.1 V (op_pull R x1 x2 x3 x4) e1 z0 e ht (fun y t h' hc => ?_)
  by_cases g0 : y = 2
  · subst g0
    have hc2 : some (1 : Int32) = some t := hc
    cases hc2
    rfl
  by_cases g1 : y = 0
  · subst g1
    have hc2 : some (2 : Int32) = some t := hc
    cases hc2
    rfl
  by_cases g2 : y = 3
  · subst g2
    have hc2 : some (3 : Int32) = some t := hc
    cases hc2
    rfl
  unfold cd_pull at hc
  rw [if_neg g0, if_neg g1, if_neg g2] at hc
  cases hc
theorem cv_buttons (J : JJ t0 base ow μ ν nS nK H h n) {x1 v : Int32} (e : g_X10_buttons x1 μ ν = some (v, M, N)) (z : M 0 33 = 0) : ∃ h' n', f_L_buttons t0 base x1 h n = some (v, h', n') ∧ JJ t0 base ow M N nS nK H h' n' := by
  obtain ⟨z0, ad, iv, lv, κ, νc, S, R, V⟩ := J
  have e1 := sc_X9_buttons S.1 S.2.1 (h := h) (t0 := t0) (a0 := 0) (x1 := x1) (κ := κ) (ν := νc)
  rw [S0_hc S, S.2.2.2.2.2.2.2.2.1] at e1
  exact w1_v (fx := (f_X9_buttons base x1 h)) (X := (fun k h' => if k = 2 then some ((-900001 : Int32), h', n) else (if k = 3 then some ((-900002 : Int32), h', n) else none))) S R.1.1 V (op_buttons R x1) e1 e z
theorem ce_buttons (J : JJ t0 base ow μ ν nS nK H h n) {x1 v t : Int32} (e : g_X10_buttons x1 μ ν = some (v, zset μ 0 33 t, ν)) (ht : t ≠ 0) : ∃ h' n', f_L_buttons t0 base x1 h n = some (-900000 - t, h', n') ∧ JJ t0 base ow μ ν nS nK H h' n' := by
  obtain ⟨z0, ad, iv, lv, κ, νc, S, R, V⟩ := J
  have e1 := sc_X9_buttons S.1 S.2.1 (h := h) (t0 := t0) (a0 := 0) (x1 := x1) (κ := κ) (ν := νc)
  rw [S0_hc S, S.2.2.2.2.2.2.2.2.1] at e1
  refine w1_e (fx := (f_X9_buttons base x1 h)) (X := (fun k h' => if k = 2 then some ((-900001 : Int32), h', n) else (if k = 3 then some ((-900002 : Int32), h', n) else none))) S R.1.1 V (op_buttons R x1) e1 z0 e ht (fun y t h' hc => ?_)
  by_cases g0 : y = 2
  · subst g0
    have hc2 : some (1 : Int32) = some t := hc
    cases hc2
    rfl
  by_cases g1 : y = 3
  · subst g1
    have hc2 : some (2 : Int32) = some t := hc
    cases hc2
    rfl
  unfold cd_buttons at hc
  rw [if_neg g0, if_neg g1] at hc
  cases hc
theorem cv_draw (J : JJ t0 base ow μ ν nS nK H h n) {x1 x2 x3 v : Int32} (e : g_X10_draw x1 x2 x3 μ ν = some (v, M, N)) (z : M 0 33 = 0) : ∃ h' n', f_L_draw t0 base x1 x2 x3 h n = some (v, h', n') ∧ JJ t0 base ow M N nS nK H h' n' := by
  obtain ⟨z0, ad, iv, lv, κ, νc, S, R, V⟩ := J
  have e1 := sc_X9_draw S.1 S.2.1 (h := h) (t0 := t0) (a0 := 0) (x1 := x1) (x2 := x2) (x3 := x3) (κ := κ) (ν := νc)
  rw [S0_hc S, S.2.2.2.2.2.2.2.2.1] at e1
  exact w1_v (fx := (f_X9_draw base x1 x2 x3 h)) (X := (fun k h' => if k = 2 then some ((-900001 : Int32), h', n) else (if k = 0 then some ((-900002 : Int32), h', n) else (if k = 3 then some ((-900003 : Int32), h', n) else (if k = 1 then some ((-900004 : Int32), h', n) else none))))) S R.1.1 V (op_draw R x1 x2 x3) e1 e z
theorem ce_draw (J : JJ t0 base ow μ ν nS nK H h n) {x1 x2 x3 v t : Int32} (e : g_X10_draw x1 x2 x3 μ ν = some (v, zset μ 0 33 t, ν)) (ht : t ≠ 0) : ∃ h' n', f_L_draw t0 base x1 x2 x3 h n = some (-900000 - t, h', n') ∧ JJ t0 base ow μ ν nS nK H h' n' := by
  obtain ⟨z0, ad, iv, lv, κ, νc, S, R, V⟩ := J
  have e1 := sc_X9_draw S.1 S.2.1 (h := h) (t0 := t0) (a0 := 0) (x1 := x1) (x2 := x2) (x3 := x3) (κ := κ) (ν := νc)
  rw [S0_hc S, S.2.2.2.2.2.2.2.2.1] at e1
  refine w1_e (fx := (f_X9_draw base x1 x2 x3 h)) (X := (fun k h' => if k = 2 then some ((-900001 : Int32), h', n) else (if k = 0 then some ((-900002 : Int32), h', n) else (if k = 3 then some ((-900003 : Int32), h', n) else (if k = 1 then some ((-900004 : Int32), h', n) else none))))) S R.1.1 V (op_draw R x1 x2 x3) e1 z0 e ht (fun y t h' hc => ?_)
  by_cases g0 : y = 2
  · subst g0
    have hc2 : some (1 : Int32) = some t := hc
    cases hc2
    rfl
  by_cases g1 : y = 0
  · subst g1
    have hc2 : some (2 : Int32) = some t := hc
    cases hc2
    rfl
  by_cases g2 : y = 3
  · subst g2
    have hc2 : some (3 : Int32) = some t := hc
    cases hc2
    rfl
  by_cases g3 : y = 1
  · subst g3
    have hc2 : some (4 : Int32) = some t := hc
    cases hc2
    rfl
  unfold cd_draw at hc
  rw [if_neg g0, if_neg g1, if_neg g2, if_neg g3] at hc
  cases hc
theorem cv_cover (J : JJ t0 base ow μ ν nS nK H h n) {x1 x2 x3 v : Int32} (e : g_X10_cover x1 x2 x3 μ ν = some (v, M, N)) (z : M 0 33 = 0) : ∃ h' n', f_L_cover t0 base x1 x2 x3 h n = some (v, h', n') ∧ JJ t0 base ow M N nS nK H h' n' := by
  obtain ⟨z0, ad, iv, lv, κ, νc, S, R, V⟩ := J
  have e1 := sc_X9_cover S.1 S.2.1 (h := h) (t0 := t0) (a0 := 0) (x1 := x1) (x2 := x2) (x3 := x3) (κ := κ) (ν := νc)
  rw [S0_hc S, S.2.2.2.2.2.2.2.2.1] at e1
  exact w1_v (fx := (f_X9_cover base x1 x2 x3 h)) (X := (fun k h' => if k = 2 then some ((-900001 : Int32), h', n) else (if k = 0 then some ((-900002 : Int32), h', n) else (if k = 3 then some ((-900003 : Int32), h', n) else (if k = 4 then some ((-900004 : Int32), h', n) else none))))) S R.1.1 V (op_cover R x1 x2 x3) e1 e z
theorem ce_cover (J : JJ t0 base ow μ ν nS nK H h n) {x1 x2 x3 v t : Int32} (e : g_X10_cover x1 x2 x3 μ ν = some (v, zset μ 0 33 t, ν)) (ht : t ≠ 0) : ∃ h' n', f_L_cover t0 base x1 x2 x3 h n = some (-900000 - t, h', n') ∧ JJ t0 base ow μ ν nS nK H h' n' := by
  obtain ⟨z0, ad, iv, lv, κ, νc, S, R, V⟩ := J
  have e1 := sc_X9_cover S.1 S.2.1 (h := h) (t0 := t0) (a0 := 0) (x1 := x1) (x2 := x2) (x3 := x3) (κ := κ) (ν := νc)
  rw [S0_hc S, S.2.2.2.2.2.2.2.2.1] at e1
  refine w1_e (fx := (f_X9_cover base x1 x2 x3 h)) (X := (fun k h' => if k = 2 then some ((-900001 : Int32), h', n) else (if k = 0 then some ((-900002 : Int32), h', n) else (if k = 3 then some ((-900003 : Int32), h', n) else (if k = 4 then some ((-900004 : Int32), h', n) else none))))) S R.1.1 V (op_cover R x1 x2 x3) e1 z0 e ht (fun y t h' hc => ?_)
  by_cases g0 : y = 2
  · subst g0
    have hc2 : some (1 : Int32) = some t := hc
    cases hc2
    rfl
  by_cases g1 : y = 0
  · subst g1
    have hc2 : some (2 : Int32) = some t := hc
    cases hc2
    rfl
  by_cases g2 : y = 3
  · subst g2
    have hc2 : some (3 : Int32) = some t := hc
    cases hc2
    rfl
  by_cases g3 : y = 4
  · subst g3
    have hc2 : some (4 : Int32) = some t := hc
    cases hc2
    rfl
  unfold cd_cover at hc
  rw [if_neg g0, if_neg g1, if_neg g2, if_neg g3] at hc
  cases hc
theorem cv_sign (J : JJ t0 base ow μ ν nS nK H h n) {x1 v : Int32} (e : g_X10_sign x1 μ ν = some (v, M, N)) (z : M 0 33 = 0) : ∃ h' n', f_L_sign t0 base x1 h n = some (v, h', n') ∧ JJ t0 base ow M N nS nK H h' n' := by
  obtain ⟨z0, ad, iv, lv, κ, νc, S, R, V⟩ := J
  have e1 := sc_X9_sign S.1 S.2.1 (h := h) (t0 := t0) (a0 := 0) (x1 := x1) (κ := κ) (ν := νc)
  rw [S0_hc S, S.2.2.2.2.2.2.2.2.1] at e1
  exact w1_v (fx := (f_X9_sign base x1 h)) (X := (fun k h' => if k = 2 then some ((-900001 : Int32), h', n) else (if k = 3 then some ((-900002 : Int32), h', n) else none))) S R.1.1 V (op_sign R x1) e1 e z
theorem ce_sign (J : JJ t0 base ow μ ν nS nK H h n) {x1 v t : Int32} (e : g_X10_sign x1 μ ν = some (v, zset μ 0 33 t, ν)) (ht : t ≠ 0) : ∃ h' n', f_L_sign t0 base x1 h n = some (-900000 - t, h', n') ∧ JJ t0 base ow μ ν nS nK H h' n' := by
  obtain ⟨z0, ad, iv, lv, κ, νc, S, R, V⟩ := J
  have e1 := sc_X9_sign S.1 S.2.1 (h := h) (t0 := t0) (a0 := 0) (x1 := x1) (κ := κ) (ν := νc)
  rw [S0_hc S, S.2.2.2.2.2.2.2.2.1] at e1
  refine w1_e (fx := (f_X9_sign base x1 h)) (X := (fun k h' => if k = 2 then some ((-900001 : Int32), h', n) else (if k = 3 then some ((-900002 : Int32), h', n) else none))) S R.1.1 V (op_sign R x1) e1 z0 e ht (fun y t h' hc => ?_)
  by_cases g0 : y = 2
  · subst g0
    have hc2 : some (1 : Int32) = some t := hc
    cases hc2
    rfl
  by_cases g1 : y = 3
  · subst g1
    have hc2 : some (2 : Int32) = some t := hc
    cases hc2
    rfl
  unfold cd_sign at hc
  rw [if_neg g0, if_neg g1] at hc
  cases hc
theorem cv_promise (J : JJ t0 base ow μ ν nS nK H h n) {x1 x2 v : Int32} (e : g_X10_promise x1 x2 μ ν = some (v, M, N)) (z : M 0 33 = 0) : ∃ h' n', f_L_promise t0 base x1 x2 h n = some (v, h', n') ∧ JJ t0 base ow M N nS nK H h' n' := by
  obtain ⟨z0, ad, iv, lv, κ, νc, S, R, V⟩ := J
  have e1 := sc_X9_promise S.1 S.2.1 (h := h) (t0 := t0) (a0 := 0) (x1 := x1) (x2 := x2) (κ := κ) (ν := νc)
  rw [S0_hc S, S.2.2.2.2.2.2.2.2.1] at e1
  exact w1_v (fx := (f_X9_promise base x1 x2 h)) (X := (fun k h' => if k = 2 then some ((-900001 : Int32), h', n) else (if k = 0 then some ((-900002 : Int32), h', n) else none))) S R.1.1 V (op_promise R x1 x2) e1 e z
theorem ce_promise (J : JJ t0 base ow μ ν nS nK H h n) {x1 x2 v t : Int32} (e : g_X10_promise x1 x2 μ ν = some (v, zset μ 0 33 t, ν)) (ht : t ≠ 0) : ∃ h' n', f_L_promise t0 base x1 x2 h n = some (-900000 - t, h', n') ∧ JJ t0 base ow μ ν nS nK H h' n' := by
  obtain ⟨z0, ad, iv, lv, κ, νc, S, R, V⟩ := J
  have e1 := sc_X9_promise S.1 S.2.1 (h := h) (t0 := t0) (a0 := 0) (x1 := x1) (x2 := x2) (κ := κ) (ν := νc)
  rw [S0_hc S, S.2.2.2.2.2.2.2.2.1] at e1
  refine w1_e (fx := (f_X9_promise base x1 x2 h)) (X := (fun k h' => if k = 2 then some ((-900001 : Int32), h', n) else (if k = 0 then some ((-900002 : Int32), h', n) else none))) S R.1.1 V (op_promise R x1 x2) e1 z0 e ht (fun y t h' hc => ?_)
  by_cases g0 : y = 2
  · subst g0
    have hc2 : some (1 : Int32) = some t := hc
    cases hc2
    rfl
  by_cases g1 : y = 0
  · subst g1
    have hc2 : some (2 : Int32) = some t := hc
    cases hc2
    rfl
  unfold cd_promise at hc
  rw [if_neg g0, if_neg g1] at hc
  cases hc
theorem cv_use (J : JJ t0 base ow μ ν nS nK H h n) (hH9 : H + 20000 ≤ 100000000) {x1 x2 v : Int32} (e : g_X10_use x1 x2 μ ν = some (v, M, N)) (z : M 0 33 = 0) : ∃ h' n', f_L_use t0 base x1 x2 h n = some (v, h', n') ∧ JJ t0 base ow M N nS nK (H + 20000) h' n' := by
  obtain ⟨z0, ad, iv, lv, κ, νc, S, R, V⟩ := J
  have e1 := sc_X9_use S.1 S.2.1 (h := h) (t0 := t0) (a0 := 0) (x1 := x1) (x2 := x2) (κ := κ) (ν := νc)
  rw [S0_hc S, S.2.2.2.2.2.2.2.2.1] at e1
  exact w1_v (fx := (f_X9_use base x1 x2 h)) (X := (fun k h' => if k = 2 then some ((-900001 : Int32), h', n) else (if k = 0 then some ((-900002 : Int32), h', n) else (if k = 3 then some ((-900003 : Int32), h', n) else none)))) S R.1.1 V (op_use R hH9 x1 x2) e1 e z
theorem ce_use (J : JJ t0 base ow μ ν nS nK H h n) (hH9 : H + 20000 ≤ 100000000) {x1 x2 v t : Int32} (e : g_X10_use x1 x2 μ ν = some (v, zset μ 0 33 t, ν)) (ht : t ≠ 0) : ∃ h' n', f_L_use t0 base x1 x2 h n = some (-900000 - t, h', n') ∧ JJ t0 base ow μ ν nS nK (H + 20000) h' n' := by
  obtain ⟨z0, ad, iv, lv, κ, νc, S, R, V⟩ := J
  have e1 := sc_X9_use S.1 S.2.1 (h := h) (t0 := t0) (a0 := 0) (x1 := x1) (x2 := x2) (κ := κ) (ν := νc)
  rw [S0_hc S, S.2.2.2.2.2.2.2.2.1] at e1
  refine w1_e (fx := (f_X9_use base x1 x2 h)) (X := (fun k h' => if k = 2 then some ((-900001 : Int32), h', n) else (if k = 0 then some ((-900002 : Int32), h', n) else (if k = 3 then some ((-900003 : Int32), h', n) else none)))) S R.1.1 V (op_use R hH9 x1 x2) e1 z0 e ht (fun y t h' hc => ?_)
  by_cases g0 : y = 2
  · subst g0
    have hc2 : some (1 : Int32) = some t := hc
    cases hc2
    rfl
  by_cases g1 : y = 0
  · subst g1
    have hc2 : some (2 : Int32) = some t := hc
    cases hc2
    rfl
  by_cases g2 : y = 3
  · subst g2
    have hc2 : some (3 : Int32) = some t := hc
    cases hc2
    rfl
  unfold cd_use at hc
  rw [if_neg g0, if_neg g1, if_neg g2] at hc
  cases hc
theorem cv_pound (J : JJ t0 base ow μ ν nS nK H h n) (hH9 : H + 20000 ≤ 100000000) {x1 x2 v : Int32} (e : g_X10_pound x1 x2 μ ν = some (v, M, N)) (z : M 0 33 = 0) : ∃ h' n', f_L_pound t0 base x1 x2 h n = some (v, h', n') ∧ JJ t0 base ow M N nS nK (H + 20000) h' n' := by
  obtain ⟨z0, ad, iv, lv, κ, νc, S, R, V⟩ := J
  have e1 := sc_X9_pound S.1 S.2.1 (h := h) (t0 := t0) (a0 := 0) (x1 := x1) (x2 := x2) (κ := κ) (ν := νc)
  rw [S0_hc S, S.2.2.2.2.2.2.2.2.1] at e1
  exact w1_v (fx := (f_X9_pound base x1 x2 h)) (X := (fun k h' => if k = 2 then some ((-900001 : Int32), h', n) else (if k = 0 then some ((-900002 : Int32), h', n) else (if k = 3 then some ((-900003 : Int32), h', n) else none)))) S R.1.1 V (op_pound R hH9 x1 x2) e1 e z
theorem ce_pound (J : JJ t0 base ow μ ν nS nK H h n) (hH9 : H + 20000 ≤ 100000000) {x1 x2 v t : Int32} (e : g_X10_pound x1 x2 μ ν = some (v, zset μ 0 33 t, ν)) (ht : t ≠ 0) : ∃ h' n', f_L_pound t0 base x1 x2 h n = some (-900000 - t, h', n') ∧ JJ t0 base ow μ ν nS nK (H + 20000) h' n' := by
  obtain ⟨z0, ad, iv, lv, κ, νc, S, R, V⟩ := J
  have e1 := sc_X9_pound S.1 S.2.1 (h := h) (t0 := t0) (a0 := 0) (x1 := x1) (x2 := x2) (κ := κ) (ν := νc)
  rw [S0_hc S, S.2.2.2.2.2.2.2.2.1] at e1
  refine w1_e (fx := (f_X9_pound base x1 x2 h)) (X := (fun k h' => if k = 2 then some ((-900001 : Int32), h', n) else (if k = 0 then some ((-900002 : Int32), h', n) else (if k = 3 then some ((-900003 : Int32), h', n) else none)))) S R.1.1 V (op_pound R hH9 x1 x2) e1 z0 e ht (fun y t h' hc => ?_)
  by_cases g0 : y = 2
  · subst g0
    have hc2 : some (1 : Int32) = some t := hc
    cases hc2
    rfl
  by_cases g1 : y = 0
  · subst g1
    have hc2 : some (2 : Int32) = some t := hc
    cases hc2
    rfl
  by_cases g2 : y = 3
  · subst g2
    have hc2 : some (3 : Int32) = some t := hc
    cases hc2
    rfl
  unfold cd_pound at hc
  rw [if_neg g0, if_neg g1, if_neg g2] at hc
  cases hc
theorem cv_stands (J : JJ t0 base ow μ ν nS nK H h n) {x1 x2 v : Int32} (e : g_X10_stands x1 x2 μ ν = some (v, M, N)) (z : M 0 33 = 0) : ∃ h' n', f_L_stands t0 base x1 x2 h n = some (v, h', n') ∧ JJ t0 base ow M N nS nK H h' n' := by
  obtain ⟨z0, ad, iv, lv, κ, νc, S, R, V⟩ := J
  have e1 := sc_X9_stands S.1 S.2.1 (h := h) (t0 := t0) (a0 := 0) (x1 := x1) (x2 := x2) (κ := κ) (ν := νc)
  rw [S0_hc S, S.2.2.2.2.2.2.2.2.1] at e1
  exact w0_v (fx := (f_X9_stands base x1 x2 h)) (X := (fun k => if k = 2 then some ((-900001 : Int32), h, n) else none)) S R.1.1 V (op_stands R x1 x2) e1 e z
theorem ce_stands (J : JJ t0 base ow μ ν nS nK H h n) {x1 x2 v t : Int32} (e : g_X10_stands x1 x2 μ ν = some (v, zset μ 0 33 t, ν)) (ht : t ≠ 0) : ∃ h' n', f_L_stands t0 base x1 x2 h n = some (-900000 - t, h', n') ∧ JJ t0 base ow μ ν nS nK H h' n' := by
  obtain ⟨z0, ad, iv, lv, κ, νc, S, R, V⟩ := J
  have e1 := sc_X9_stands S.1 S.2.1 (h := h) (t0 := t0) (a0 := 0) (x1 := x1) (x2 := x2) (κ := κ) (ν := νc)
  rw [S0_hc S, S.2.2.2.2.2.2.2.2.1] at e1
  refine w0_e (fx := (f_X9_stands base x1 x2 h)) (X := (fun k => if k = 2 then some ((-900001 : Int32), h, n) else none)) S R.1.1 V (op_stands R x1 x2) e1 z0 e ht (fun y t hc => ?_)
  by_cases g0 : y = 2
  · subst g0
    have hc2 : some (1 : Int32) = some t := hc
    cases hc2
    rfl
  unfold cd_stands at hc
  rw [if_neg g0] at hc
  cases hc
theorem cv_top (J : JJ t0 base ow μ ν nS nK H h n) {x1 x2 v : Int32} (e : g_X10_top x1 x2 μ ν = some (v, M, N)) (z : M 0 33 = 0) : ∃ h' n', f_L_top t0 base x1 x2 h n = some (v, h', n') ∧ JJ t0 base ow M N nS nK H h' n' := by
  obtain ⟨z0, ad, iv, lv, κ, νc, S, R, V⟩ := J
  have e1 := sc_X9_top S.1 S.2.1 (h := h) (t0 := t0) (a0 := 0) (x1 := x1) (x2 := x2) (κ := κ) (ν := νc)
  rw [S0_hc S, S.2.2.2.2.2.2.2.2.1] at e1
  exact w0_v (fx := (f_X9_top base x1 x2 h)) (X := (fun k => if k = 2 then some ((-900001 : Int32), h, n) else none)) S R.1.1 V (op_top R x1 x2) e1 e z
theorem ce_top (J : JJ t0 base ow μ ν nS nK H h n) {x1 x2 v t : Int32} (e : g_X10_top x1 x2 μ ν = some (v, zset μ 0 33 t, ν)) (ht : t ≠ 0) : ∃ h' n', f_L_top t0 base x1 x2 h n = some (-900000 - t, h', n') ∧ JJ t0 base ow μ ν nS nK H h' n' := by
  obtain ⟨z0, ad, iv, lv, κ, νc, S, R, V⟩ := J
  have e1 := sc_X9_top S.1 S.2.1 (h := h) (t0 := t0) (a0 := 0) (x1 := x1) (x2 := x2) (κ := κ) (ν := νc)
  rw [S0_hc S, S.2.2.2.2.2.2.2.2.1] at e1
  refine w0_e (fx := (f_X9_top base x1 x2 h)) (X := (fun k => if k = 2 then some ((-900001 : Int32), h, n) else none)) S R.1.1 V (op_top R x1 x2) e1 z0 e ht (fun y t hc => ?_)
  by_cases g0 : y = 2
  · subst g0
    have hc2 : some (1 : Int32) = some t := hc
    cases hc2
    rfl
  unfold cd_top at hc
  rw [if_neg g0] at hc
  cases hc
theorem cv_thick (J : JJ t0 base ow μ ν nS nK H h n) {x1 x2 v : Int32} (e : g_X10_thick x1 x2 μ ν = some (v, M, N)) (z : M 0 33 = 0) : ∃ h' n', f_L_thick t0 base x1 x2 h n = some (v, h', n') ∧ JJ t0 base ow M N nS nK H h' n' := by
  obtain ⟨z0, ad, iv, lv, κ, νc, S, R, V⟩ := J
  have e1 := sc_X9_thick S.1 S.2.1 (h := h) (t0 := t0) (a0 := 0) (x1 := x1) (x2 := x2) (κ := κ) (ν := νc)
  rw [S0_hc S, S.2.2.2.2.2.2.2.2.1] at e1
  exact w0_v (fx := (f_X9_thick base x1 x2 h)) (X := (fun k => if k = 2 then some ((-900001 : Int32), h, n) else (if k = 4 then some ((-900002 : Int32), h, n) else none))) S R.1.1 V (op_thick R x1 x2) e1 e z
theorem ce_thick (J : JJ t0 base ow μ ν nS nK H h n) {x1 x2 v t : Int32} (e : g_X10_thick x1 x2 μ ν = some (v, zset μ 0 33 t, ν)) (ht : t ≠ 0) : ∃ h' n', f_L_thick t0 base x1 x2 h n = some (-900000 - t, h', n') ∧ JJ t0 base ow μ ν nS nK H h' n' := by
  obtain ⟨z0, ad, iv, lv, κ, νc, S, R, V⟩ := J
  have e1 := sc_X9_thick S.1 S.2.1 (h := h) (t0 := t0) (a0 := 0) (x1 := x1) (x2 := x2) (κ := κ) (ν := νc)
  rw [S0_hc S, S.2.2.2.2.2.2.2.2.1] at e1
  refine w0_e (fx := (f_X9_thick base x1 x2 h)) (X := (fun k => if k = 2 then some ((-900001 : Int32), h, n) else (if k = 4 then some ((-900002 : Int32), h, n) else none))) S R.1.1 V (op_thick R x1 x2) e1 z0 e ht (fun y t hc => ?_)
  by_cases g0 : y = 2
  · subst g0
    have hc2 : some (1 : Int32) = some t := hc
    cases hc2
    rfl
  by_cases g1 : y = 4
  · subst g1
    have hc2 : some (2 : Int32) = some t := hc
    cases hc2
    rfl
  unfold cd_thick at hc
  rw [if_neg g0, if_neg g1] at hc
  cases hc
theorem cv_hours (J : JJ t0 base ow μ ν nS nK H h n) {x1 v : Int32} (e : g_X10_hours x1 μ ν = some (v, M, N)) (z : M 0 33 = 0) : ∃ h' n', f_L_hours t0 base x1 h n = some (v, h', n') ∧ JJ t0 base ow M N nS nK H h' n' := by
  obtain ⟨z0, ad, iv, lv, κ, νc, S, R, V⟩ := J
  have e1 := sc_X9_hours S.1 S.2.1 (h := h) (t0 := t0) (a0 := 0) (x1 := x1) (κ := κ) (ν := νc)
  rw [S0_hc S, S.2.2.2.2.2.2.2.2.1] at e1
  exact w0_v (fx := (f_X9_hours base x1 h)) (X := (fun k => if k = 2 then some ((-900001 : Int32), h, n) else (if k = 3 then some ((-900002 : Int32), h, n) else none))) S R.1.1 V (op_hours R x1) e1 e z
theorem ce_hours (J : JJ t0 base ow μ ν nS nK H h n) {x1 v t : Int32} (e : g_X10_hours x1 μ ν = some (v, zset μ 0 33 t, ν)) (ht : t ≠ 0) : ∃ h' n', f_L_hours t0 base x1 h n = some (-900000 - t, h', n') ∧ JJ t0 base ow μ ν nS nK H h' n' := by
  obtain ⟨z0, ad, iv, lv, κ, νc, S, R, V⟩ := J
  have e1 := sc_X9_hours S.1 S.2.1 (h := h) (t0 := t0) (a0 := 0) (x1 := x1) (κ := κ) (ν := νc)
  rw [S0_hc S, S.2.2.2.2.2.2.2.2.1] at e1
  refine w0_e (fx := (f_X9_hours base x1 h)) (X := (fun k => if k = 2 then some ((-900001 : Int32), h, n) else (if k = 3 then some ((-900002 : Int32), h, n) else none))) S R.1.1 V (op_hours R x1) e1 z0 e ht (fun y t hc => ?_)
  by_cases g0 : y = 2
  · subst g0
    have hc2 : some (1 : Int32) = some t := hc
    cases hc2
    rfl
  by_cases g1 : y = 3
  · subst g1
    have hc2 : some (2 : Int32) = some t := hc
    cases hc2
    rfl
  unfold cd_hours at hc
  rw [if_neg g0, if_neg g1] at hc
  cases hc
theorem cv_quote (J : JJ t0 base ow μ ν nS nK H h n) {x1 v : Int32} (e : g_X10_quote x1 μ ν = some (v, M, N)) (z : M 0 33 = 0) : ∃ h' n', f_L_quote t0 base x1 h n = some (v, h', n') ∧ JJ t0 base ow M N nS nK H h' n' := by
  obtain ⟨z0, ad, iv, lv, κ, νc, S, R, V⟩ := J
  have e1 := sc_X9_quote S.1 S.2.1 (h := h) (t0 := t0) (a0 := 0) (x1 := x1) (κ := κ) (ν := νc)
  rw [S0_hc S, S.2.2.2.2.2.2.2.2.1] at e1
  exact w0_v (fx := (f_X9_quote base x1 h)) (X := (fun k => if k = 2 then some ((-900001 : Int32), h, n) else none)) S R.1.1 V (op_quote R x1) e1 e z
theorem ce_quote (J : JJ t0 base ow μ ν nS nK H h n) {x1 v t : Int32} (e : g_X10_quote x1 μ ν = some (v, zset μ 0 33 t, ν)) (ht : t ≠ 0) : ∃ h' n', f_L_quote t0 base x1 h n = some (-900000 - t, h', n') ∧ JJ t0 base ow μ ν nS nK H h' n' := by
  obtain ⟨z0, ad, iv, lv, κ, νc, S, R, V⟩ := J
  have e1 := sc_X9_quote S.1 S.2.1 (h := h) (t0 := t0) (a0 := 0) (x1 := x1) (κ := κ) (ν := νc)
  rw [S0_hc S, S.2.2.2.2.2.2.2.2.1] at e1
  refine w0_e (fx := (f_X9_quote base x1 h)) (X := (fun k => if k = 2 then some ((-900001 : Int32), h, n) else none)) S R.1.1 V (op_quote R x1) e1 z0 e ht (fun y t hc => ?_)
  by_cases g0 : y = 2
  · subst g0
    have hc2 : some (1 : Int32) = some t := hc
    cases hc2
    rfl
  unfold cd_quote at hc
  rw [if_neg g0] at hc
  cases hc
theorem cv_folds (J : JJ t0 base ow μ ν nS nK H h n) {x1 x2 v : Int32} (e : g_X10_folds x1 x2 μ ν = some (v, M, N)) (z : M 0 33 = 0) : f_X9_folds base x1 x2 h = some (.inl v) := by
  obtain ⟨z0, ad, iv, lv, κ, νc, S, R, V⟩ := J
  have e1 := sc_X9_folds S.1 S.2.1 (h := h) (t0 := t0) (a0 := 0) (x1 := x1) (x2 := x2) (κ := κ) (ν := νc)
  rw [S0_hc S, S.2.2.2.2.2.2.2.2.1] at e1
  exact w00_v (op_folds R x1 x2) e1 e z
theorem cv_holds (J : JJ t0 base ow μ ν nS nK H h n) {x1 v : Int32} (e : g_X10_holds x1 μ ν = some (v, M, N)) (z : M 0 33 = 0) : f_X9_holds base x1 h = some (.inl v) := by
  obtain ⟨z0, ad, iv, lv, κ, νc, S, R, V⟩ := J
  have e1 := sc_X9_holds S.1 S.2.1 (h := h) (t0 := t0) (a0 := 0) (x1 := x1) (κ := κ) (ν := νc)
  rw [S0_hc S, S.2.2.2.2.2.2.2.2.1] at e1
  exact w00_v (op_holds R x1) e1 e z
theorem cv_isClosed (J : JJ t0 base ow μ ν nS nK H h n) {x1 v : Int32} (e : g_X10_isClosed x1 μ ν = some (v, M, N)) (z : M 0 33 = 0) : f_X9_isClosed base x1 h = some (.inl v) := by
  obtain ⟨z0, ad, iv, lv, κ, νc, S, R, V⟩ := J
  have e1 := sc_X9_isClosed S.1 S.2.1 (h := h) (t0 := t0) (a0 := 0) (x1 := x1) (κ := κ) (ν := νc)
  rw [S0_hc S, S.2.2.2.2.2.2.2.2.1] at e1
  exact w00_v (op_isClosed R x1) e1 e z
end ZJA
