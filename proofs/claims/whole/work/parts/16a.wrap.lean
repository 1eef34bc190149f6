section ZXA
/-! the heap that holds both: what stays from call to call -/
variable {ad : Nat → Nat} {iv : Nat → Option Nat} {lv : Nat → Bool} {t0 base am ao an : Nat} {κ κ' : zzM} {νc νc' : zzN} {μ μ' : zzM} {ν ν' : zzN} {H H' : Int} {nS nB nK : Nat} {h : zz_H} {n n' : Nat}
def S0 (ad : Nat → Nat) (iv : Nat → Option Nat) (lv : Nat → Bool) (t0 base am ao an : Nat) (κ : zzM) (νc : zzN) (μ : zzM) (ν : zzN) (h : zz_H) (n : Nat) : Prop :=
  (∀ o, lv o = true → iv (ad o) = some o) ∧ (∀ q o, iv q = some o → ad o = q) ∧ (∀ q o, iv q = some o → h q = cCell ad t0 κ νc o) ∧ (∀ o, o < 180 → h (am + o) = mCell am μ ν o) ∧ (∃ f, h ao = some (zz_L 3 1 f)) ∧ (∃ f, h an = some (zz_D 4 1 f)) ∧ (∀ q o, iv q = some o → (q < am ∨ am + 180 ≤ q) ∧ q ≠ ao ∧ q ≠ an ∧ q ≠ t0 ∧ q < n) ∧ (am + 180 ≤ ao ∧ ao < an ∧ an < n ∧ t0 < base ∧ base < am) ∧ ad 0 = base ∧ h t0 = some (zz_Q 11 0 (fun _ => none)) ∧ ∀ q o, iv q = some o → lv o = true
theorem S0_hc (S : S0 ad iv lv t0 base am ao an κ νc μ ν h n) : zc h ad iv t0 κ νc = h := by
  funext q
  unfold zc
  cases e : iv q with
  | none => rfl
  | some o => exact (S.2.2.1 q o e).symm
theorem S0_hm (S : S0 ad iv lv t0 base am ao an κ νc μ ν h n) : zk h am μ ν = h := by
  funext q
  unfold zk
  by_cases g : am ≤ q ∧ q < am + 180
  · rw [if_pos g]
    have := S.2.2.2.1 (q - am) (by omega)
    rw [show am + (q - am) = q by omega] at this
    exact this.symm
  · rw [if_neg g]
theorem S0_c (S : S0 ad iv lv t0 base am ao an κ νc μ ν h n) (κ' : zzM) (νc' : zzN) : S0 ad iv lv t0 base am ao an κ' νc' μ ν (zc h ad iv t0 κ' νc') n := by
  obtain ⟨s1, s2, s3, s4, ⟨f, s5⟩, ⟨g, s6⟩, s7, s8, s9, s10⟩ := S
  have out : ∀ q, (∀ o, iv q ≠ some o) → zc h ad iv t0 κ' νc' q = h q := fun q hq => by
    unfold zc
    cases e : iv q with
    | none => rfl
    | some o => exact absurd e (hq o)
  refine ⟨s1, s2, fun q o e => ?_, fun o ho => ?_, ⟨f, ?_⟩, ⟨g, ?_⟩, s7, s8, s9, ?_⟩
  · unfold zc
    rw [e]
  · rw [out _ (fun o' e => by have := s7 _ _ e; omega)]
    exact s4 o ho
  · rw [out _ (fun o' e => by have := s7 _ _ e; omega)]
    exact s5
  · rw [out _ (fun o' e => by have := s7 _ _ e; omega)]
    exact s6
  · rw [out _ (fun o' e => by have := s7 _ _ e; omega)]
    exact s10
theorem S0_m (S : S0 ad iv lv t0 base am ao an κ νc μ ν h n) (μ' : zzM) (ν' : zzN) : S0 ad iv lv t0 base am ao an κ νc μ' ν' (zk h am μ' ν') n := by
  obtain ⟨s1, s2, s3, s4, ⟨f, s5⟩, ⟨g, s6⟩, s7, s8, s9, s10⟩ := S
  have out : ∀ q, ¬ (am ≤ q ∧ q < am + 180) → zk h am μ' ν' q = h q := fun q hq => if_neg hq
  refine ⟨s1, s2, fun q o e => ?_, fun o ho => zk_at ho, ⟨f, ?_⟩, ⟨g, ?_⟩, s7, s8, s9, ?_⟩
  · rw [out q (by have := s7 _ _ e; omega)]
    exact s3 q o e
  · rw [out _ (by omega)]
    exact s5
  · rw [out _ (by omega)]
    exact s6
  · rw [out _ (by omega)]
    exact s10
theorem S0_o (S : S0 ad iv lv t0 base am ao an κ νc μ ν h n) (f : Nat → Int64) : S0 ad iv lv t0 base am ao an κ νc μ ν (zz_u h ao (zz_L 3 1 f)) n := by
  obtain ⟨s1, s2, s3, s4, s5, ⟨g, s6⟩, s7, s8, s9, s10⟩ := S
  refine ⟨s1, s2, fun q o e => ?_, fun o ho => ?_, ⟨f, zz_us⟩, ⟨g, ?_⟩, s7, s8, s9, ?_⟩
  · rw [zz_un (s7 q o e).2.1]
    exact s3 q o e
  · rw [zz_un (by omega)]
    exact s4 o ho
  · rw [zz_un (by omega)]
    exact s6
  · rw [zz_un (by omega)]
    exact s10
theorem S0_d (S : S0 ad iv lv t0 base am ao an κ νc μ ν h n) (f : Nat → UInt64) : S0 ad iv lv t0 base am ao an κ νc μ ν (zz_u h an (zz_D 4 1 f)) n := by
  obtain ⟨s1, s2, s3, s4, ⟨g, s5⟩, s6, s7, s8, s9, s10⟩ := S
  refine ⟨s1, s2, fun q o e => ?_, fun o ho => ?_, ⟨g, ?_⟩, ⟨f, zz_us⟩, s7, s8, s9, ?_⟩
  · rw [zz_un (s7 q o e).2.2.1]
    exact s3 q o e
  · rw [zz_un (by omega)]
    exact s4 o ho
  · rw [zz_un (by omega)]
    exact s5
  · rw [zz_un (by omega)]
    exact s10
theorem S0_n (S : S0 ad iv lv t0 base am ao an κ νc μ ν h n) (hn : n ≤ n') : S0 ad iv lv t0 base am ao an κ νc μ ν h n' := by
  obtain ⟨s1, s2, s3, s4, s5, s6, s7, s8, s9, s10⟩ := S
  exact ⟨s1, s2, s3, s4, s5, s6, fun q o e => by have := s7 q o e; omega, by omega, s9, s10⟩
theorem S0_am (S : S0 ad iv lv t0 base am ao an κ νc μ ν h n) : h am = some (.inr (11, mObj am μ)) := by
  have := S.2.2.2.1 0 (by decide)
  rw [Nat.add_zero] at this
  rw [this]
  unfold mCell
  rw [if_pos rfl]
theorem S0_zo (S : S0 ad iv lv t0 base am ao an κ νc μ ν h n) {K : Prop} (k : K) : zo h am 11 K := ⟨⟨_, S0_am S⟩, k⟩
theorem S0_t (S : S0 ad iv lv t0 base am ao an κ νc μ ν h n) : f_X10_thrown am h = some (μ 0 33) := by
  unfold f_X10_thrown zz_gi
  simp only [S0_am S]
  rfl
theorem S0_ax (S : S0 ad iv lv t0 base am ao an κ νc μ ν h n) (r0 : lv 0 = true ∧ co 0 = 10) {α : Type} {K : Nat → Option α} : (∃ fs, h base = some (.inr (10, fs))) ∧ zz_ob h (some base) 10 K = K base := by
  have e := S.2.2.1 (ad 0) 0 (S.1 0 r0.1)
  rw [S.2.2.2.2.2.2.2.2.1] at e
  unfold cCell at e
  rw [if_pos (by decide), if_neg (by decide)] at e
  refine ⟨⟨_, e⟩, ?_⟩
  unfold zz_ob
  simp only [e]
  exact if_pos rfl
/-- a seat's ids are live only when the seat is there -/
def LV (lv : Nat → Bool) (nS : Nat) : Prop := ∀ s, nS ≤ s → s < 4 → ∀ o, FK (100 * (s + 1)) o → lv o = false
def Jx (t0 base am ao an : Nat) (H : Int) (h : zz_H) (n : Nat) : Prop := ∃ ad iv lv κ νc μ ν nS nB nK, S0 ad iv lv t0 base am ao an κ νc μ ν h n ∧ RR lv κ νc μ ν H nS nB nK ∧ LV lv nS
def Lw (h : zz_H) (base ao n : Nat) (fx : Option ((Int32 ⊕ Nat) × zz_H)) (X : Nat → zz_H → Option (Int32 × zz_H × Nat)) : Option (Int32 × zz_H × Nat) := zz_ob h (some base) 10 fun _ => zz_th1 fx (fun v h' => zz_sl 3 h' (some ao) (0 : Int32) v.toInt64 fun h9 => some ((0 : Int32), h9, n)) X
def L0 (h : zz_H) (base ao n : Nat) (fx : Option (Int32 ⊕ Nat)) (X : Nat → Option (Int32 × zz_H × Nat)) : Option (Int32 × zz_H × Nat) := zz_ob h (some base) 10 fun _ => zz_th fx (fun v => zz_sl 3 h (some ao) (0 : Int32) v.toInt64 fun h9 => some ((0 : Int32), h9, n)) X
def Lb (h : zz_H) (base ao n : Nat) (fx : Option (Int32 ⊕ Nat)) (X : Nat → Option (Int32 × zz_H × Nat)) : Option (Int32 × zz_H × Nat) := zz_ob h (some base) 10 fun _ => zz_th fx (fun v => if v = (0 : Int32) then zz_sl 3 h (some ao) (0 : Int32) (0 : Int64) (fun h9 => some ((0 : Int32), h9, n)) else zz_sl 3 h (some ao) (0 : Int32) (1 : Int64) (fun h9 => some ((0 : Int32), h9, n))) X
def Ww (x : Option (Int32 × zz_H × Nat)) (fm : zz_H → Option (Int32 × zz_H)) (am ao : Nat) (K : zz_H → Nat → Prop) : Prop := zl_w x fun v1 h1 n1 => zo h1 am 11 (zp1 (fm h1) fun v2 h2 => zo h2 am 11 (zp (f_X10_thrown am h2) fun v3 => (v3 = v1 → ((v1 = (0 : Int32) → (zp (zz_al 3 h2 (some ao) (0 : Int32) some) fun v4 => ((lg_cmp v4 v2.toInt64) = (0 : Int32) → (K h2 n1)) ∧ (¬ (lg_cmp v4 v2.toInt64) = (0 : Int32) → False))) ∧ (¬ v1 = (0 : Int32) → (K h2 n1)))) ∧ (¬ v3 = v1 → False)))
def Wb (x : Option (Int32 × zz_H × Nat)) (fm : zz_H → Option (Int32 × zz_H)) (am ao : Nat) (K : zz_H → Nat → Prop) : Prop := zl_w x fun v1 h1 n1 => zo h1 am 11 (zp1 (fm h1) fun v2 h2 => zo h2 am 11 (zp (f_X10_thrown am h2) fun v3 => (v3 = v1 → ((v1 = (0 : Int32) → (zp (zz_al 3 h2 (some ao) (0 : Int32) some) fun v4 => (v2 = (0 : Int32) → (((lg_cmp v4 (0 : Int64)) = (0 : Int32) → (K h2 n1)) ∧ (¬ (lg_cmp v4 (0 : Int64)) = (0 : Int32) → False))) ∧ (¬ v2 = (0 : Int32) → (((lg_cmp v4 (1 : Int64)) = (0 : Int32) → (K h2 n1)) ∧ (¬ (lg_cmp v4 (1 : Int64)) = (0 : Int32) → False))))) ∧ (¬ v1 = (0 : Int32) → (K h2 n1)))) ∧ (¬ v3 = v1 → False)))
theorem lgc (x : Int64) : lg_cmp x x = 0 := (lg_cmp_eq x x).mpr rfl
theorem al_w {f : Nat → Int64} {v : Int64} {h : zz_H} (e : h ao = some (zz_L 3 1 (vp_updL f (0 : Int32).toNatClampNeg v))) : zz_al 3 h (some ao) (0 : Int32) some = some v := by
  unfold zz_al
  simp only [e]
  rw [if_pos ⟨trivial, by decide⟩]
  unfold vp_updL
  rw [if_pos rfl]
theorem sl_w (S : S0 ad iv lv t0 base am ao an κ νc μ ν h n) {v : Int64} {α : Type} {K : zz_H → Option α} : ∃ f, zz_sl 3 h (some ao) (0 : Int32) v K = K (zz_u h ao (zz_L 3 1 (vp_updL f (0 : Int32).toNatClampNeg v))) := by
  obtain ⟨f, e⟩ := S.2.2.2.2.1
  refine ⟨f, ?_⟩
  unfold zz_sl
  simp only [e]
  exact if_pos ⟨trivial, by decide⟩
/-- the end of a call that both answer alike -/
theorem wrap_v {w : Int32} {fm : zz_H → Option (Int32 × zz_H)} {x : Option (Int32 × zz_H × Nat)} {f : Nat → Int64} (S : S0 ad iv lv t0 base am ao an κ νc μ ν h n) (R : RR lv κ νc μ' ν' H nS nB nK ∧ LV lv nS) (z : μ' 0 33 = 0) (hx : x = some (0, zz_u h ao (zz_L 3 1 (vp_updL f (0 : Int32).toNatClampNeg w.toInt64)), n)) (hm : ∀ h', zk h' am μ ν = h' → fm h' = some (w, zk h' am μ' ν')) : Ww x fm am ao (Jx t0 base am ao an H) := by
  have S1 := S0_o S (vp_updL f (0 : Int32).toNatClampNeg w.toInt64)
  refine ⟨_, _, _, hx, fun n1 hn => ?_⟩
  have S2 := S0_n S1 hn
  refine S0_zo S2 ⟨_, _, hm _ (S0_hm S2), ?_⟩
  have S3 := S0_m S2 μ' ν'
  refine S0_zo S3 ⟨_, S0_t S3, fun _ => ⟨fun _ => ?_, fun q => absurd rfl q⟩, fun q => absurd z q⟩
  have e : zk (zz_u h ao (zz_L 3 1 (vp_updL f (0 : Int32).toNatClampNeg w.toInt64))) am μ' ν' ao = some (zz_L 3 1 (vp_updL f (0 : Int32).toNatClampNeg w.toInt64)) := by
    have := S.2.2.2.2.2.2.2.1
    unfold zk
    rw [if_neg (by omega), zz_us]
  exact ⟨_, al_w e, fun _ => ⟨_, _, _, _, _, _, _, _, _, _, S3, R⟩, fun q => q (lgc _)⟩
theorem wrap_b {w : Int32} {v0 : Int64} {fm : zz_H → Option (Int32 × zz_H)} {x : Option (Int32 × zz_H × Nat)} {f : Nat → Int64} (S : S0 ad iv lv t0 base am ao an κ νc μ ν h n) (R : RR lv κ νc μ' ν' H nS nB nK ∧ LV lv nS) (z : μ' 0 33 = 0) (hv : v0 = if w = 0 then 0 else 1) (hx : x = some (0, zz_u h ao (zz_L 3 1 (vp_updL f (0 : Int32).toNatClampNeg v0)), n)) (hm : ∀ h', zk h' am μ ν = h' → fm h' = some (w, zk h' am μ' ν')) : Wb x fm am ao (Jx t0 base am ao an H) := by
  have S1 := S0_o S (vp_updL f (0 : Int32).toNatClampNeg v0)
  refine ⟨_, _, _, hx, fun n1 hn => ?_⟩
  have S2 := S0_n S1 hn
  refine S0_zo S2 ⟨_, _, hm _ (S0_hm S2), ?_⟩
  have S3 := S0_m S2 μ' ν'
  refine S0_zo S3 ⟨_, S0_t S3, fun _ => ⟨fun _ => ?_, fun q => absurd rfl q⟩, fun q => absurd z q⟩
  have e : zk (zz_u h ao (zz_L 3 1 (vp_updL f (0 : Int32).toNatClampNeg v0))) am μ' ν' ao = some (zz_L 3 1 (vp_updL f (0 : Int32).toNatClampNeg v0)) := by
    have := S.2.2.2.2.2.2.2.1
    unfold zk
    rw [if_neg (by omega), zz_us]
  refine ⟨_, al_w e, fun q => ?_, fun q => ?_⟩
  · have e0 : v0 = 0 := by rw [hv, if_pos q]
    exact ⟨fun _ => ⟨_, _, _, _, _, _, _, _, _, _, S3, R⟩, fun q => q (by rw [e0]; exact lgc _)⟩
  · have e0 : v0 = 1 := by rw [hv, if_neg q]
    exact ⟨fun _ => ⟨_, _, _, _, _, _, _, _, _, _, S3, R⟩, fun q => q (by rw [e0]; exact lgc _)⟩
theorem wrap_e {w t : Int32} {fm : zz_H → Option (Int32 × zz_H)} {x : Option (Int32 × zz_H × Nat)} (S : S0 ad iv lv t0 base am ao an κ νc μ ν h n) (R : RR lv κ νc μ' ν' H nS nB nK ∧ LV lv nS) (z : ¬ μ' 0 33 = 0) (hx : x = some (μ' 0 33, h, n)) (hm : ∀ h', zk h' am μ ν = h' → fm h' = some (w, zk h' am μ' ν')) : Ww x fm am ao (Jx t0 base am ao an H) ∧ Wb x fm am ao (Jx t0 base am ao an H) := by
  constructor
  · refine ⟨_, _, _, hx, fun n1 hn => ?_⟩
    have S2 := S0_n S hn
    refine S0_zo S2 ⟨_, _, hm _ (S0_hm S2), ?_⟩
    have S3 := S0_m S2 μ' ν'
    exact S0_zo S3 ⟨_, S0_t S3, fun _ => ⟨fun q => absurd q z, fun _ => ⟨_, _, _, _, _, _, _, _, _, _, S3, R⟩⟩, fun q => q rfl⟩
  · refine ⟨_, _, _, hx, fun n1 hn => ?_⟩
    have S2 := S0_n S hn
    refine S0_zo S2 ⟨_, _, hm _ (S0_hm S2), ?_⟩
    have S3 := S0_m S2 μ' ν'
    exact S0_zo S3 ⟨_, S0_t S3, fun _ => ⟨fun q => absurd q z, fun _ => ⟨_, _, _, _, _, _, _, _, _, _, S3, R⟩⟩, fun q => q rfl⟩
theorem wrap1 {cd : Nat → Option Int32} {gx : Option ((Int32 ⊕ Nat) × zzM × zzN)} {gm : Option (Int32 × zzM × zzN)} {fx : Option ((Int32 ⊕ Nat) × zz_H)} {fm : zz_H → Option (Int32 × zz_H)} {X : Nat → zz_H → Option (Int32 × zz_H × Nat)} (S : S0 ad iv lv t0 base am ao an κ νc μ ν h n) (r0 : lv 0 = true ∧ co 0 = 10) (V : LV lv nS) (O : Op1 lv H nS nB nK cd gx gm) (hx : zLe (fun r : ((Int32 ⊕ Nat) × zzM × zzN) => (r.1, zc h ad iv t0 r.2.1 r.2.2)) gx fx) (hm : ∀ h', zk h' am μ ν = h' → zLe (fun r : (Int32 × zzM × zzN) => (r.1, zk h' am r.2.1 r.2.2)) gm (fm h')) (hX : ∀ e t h', cd e = some t → X e h' = some (t, h', n)) : Ww (Lw h base ao n fx X) fm am ao (Jx t0 base am ao an H) := by
  obtain ⟨out, κ', νc', v, μ', ν', e1, e2, R, hO⟩ := O
  have S1 := S0_c S κ' νc'
  have ex := hx _ e1
  dsimp only at ex
  rcases hO with ⟨w, rfl, z, rfl⟩ | ⟨e, rfl, hc, z⟩
  · obtain ⟨f, ef⟩ := sl_w S1 (v := v.toInt64) (K := fun h9 => some ((0 : Int32), h9, n))
    refine wrap_v (f := f) S1 ⟨R, V⟩ z ?_ (fun h' hk => hm h' hk _ e2)
    unfold Lw
    rw [(S0_ax S r0).2, ex]
    exact ef
  · refine (wrap_e (t := 0) S1 ⟨R, V⟩ z ?_ (fun h' hk => hm h' hk _ e2)).1
    unfold Lw
    rw [(S0_ax S r0).2, ex]
    exact hX e _ _ hc
theorem up_s {g : Option (Int32 ⊕ Nat)} {o : Int32 ⊕ Nat} {κ1 : zzM} {ν1 : zzN} (e : up κ νc g = some (o, κ1, ν1)) : g = some o ∧ κ1 = κ ∧ ν1 = νc := by
  unfold up at e
  cases g with
  | none => cases e
  | some a =>
    cases e
    exact ⟨rfl, rfl, rfl⟩
theorem wrap0 {cd : Nat → Option Int32} {gx : Option (Int32 ⊕ Nat)} {gm : Option (Int32 × zzM × zzN)} {fx : Option (Int32 ⊕ Nat)} {fm : zz_H → Option (Int32 × zz_H)} {X : Nat → Option (Int32 × zz_H × Nat)} (S : S0 ad iv lv t0 base am ao an κ νc μ ν h n) (r0 : lv 0 = true ∧ co 0 = 10) (V : LV lv nS) (O : Op1 lv H nS nB nK cd (up κ νc gx) gm) (hx : zLe id gx fx) (hm : ∀ h', zk h' am μ ν = h' → zLe (fun r : (Int32 × zzM × zzN) => (r.1, zk h' am r.2.1 r.2.2)) gm (fm h')) (hX : ∀ e t, cd e = some t → X e = some (t, h, n)) : Ww (L0 h base ao n fx X) fm am ao (Jx t0 base am ao an H) := by
  obtain ⟨out, κ', νc', v, μ', ν', e1, e2, R, hO⟩ := O
  obtain ⟨e1', rfl, rfl⟩ := up_s e1
  have ex := hx _ e1'
  rcases hO with ⟨w, rfl, z, rfl⟩ | ⟨e, rfl, hc, z⟩
  · obtain ⟨f, ef⟩ := sl_w S (v := v.toInt64) (K := fun h9 => some ((0 : Int32), h9, n))
    refine wrap_v (f := f) S ⟨R, V⟩ z ?_ (fun h' hk => hm h' hk _ e2)
    unfold L0
    rw [(S0_ax S r0).2, ex]
    exact ef
  · refine (wrap_e (t := 0) S ⟨R, V⟩ z ?_ (fun h' hk => hm h' hk _ e2)).1
    unfold L0
    rw [(S0_ax S r0).2, ex]
    exact hX e _ hc
theorem wrapb {cd : Nat → Option Int32} {gx : Option (Int32 ⊕ Nat)} {gm : Option (Int32 × zzM × zzN)} {fx : Option (Int32 ⊕ Nat)} {fm : zz_H → Option (Int32 × zz_H)} {X : Nat → Option (Int32 × zz_H × Nat)} (S : S0 ad iv lv t0 base am ao an κ νc μ ν h n) (r0 : lv 0 = true ∧ co 0 = 10) (V : LV lv nS) (O : Op1 lv H nS nB nK cd (up κ νc gx) gm) (hx : zLe id gx fx) (hm : ∀ h', zk h' am μ ν = h' → zLe (fun r : (Int32 × zzM × zzN) => (r.1, zk h' am r.2.1 r.2.2)) gm (fm h')) (hX : ∀ e t, cd e = some t → X e = some (t, h, n)) : Wb (Lb h base ao n fx X) fm am ao (Jx t0 base am ao an H) := by
  obtain ⟨out, κ', νc', v, μ', ν', e1, e2, R, hO⟩ := O
  obtain ⟨e1', rfl, rfl⟩ := up_s e1
  have ex := hx _ e1'
  rcases hO with ⟨w, rfl, z, rfl⟩ | ⟨e, rfl, hc, z⟩
  · obtain ⟨v0, hv⟩ : ∃ v0 : Int64, v0 = if v = 0 then 0 else 1 := ⟨_, rfl⟩
    obtain ⟨f, ef⟩ := sl_w S (v := v0) (K := fun h9 => some ((0 : Int32), h9, n))
    refine wrap_b (f := f) S ⟨R, V⟩ z hv ?_ (fun h' hk => hm h' hk _ e2)
    unfold Lb
    rw [(S0_ax S r0).2, ex]
    show (if v = 0 then _ else _) = _
    by_cases g : v = 0
    · rw [if_pos g] at hv ⊢
      rw [hv] at ef ⊢
      exact ef
    · rw [if_neg g] at hv ⊢
      rw [hv] at ef ⊢
      exact ef
  · refine (wrap_e (t := 0) S ⟨R, V⟩ z ?_ (fun h' hk => hm h' hk _ e2)).2
    unfold Lb
    rw [(S0_ax S r0).2, ex]
    exact hX e _ hc
end ZXA
