section ZXX
/-! layer: its case -/
variable {ad : Nat → Nat} {iv : Nat → Option Nat} {lv : Nat → Bool} {t0 base am ao an : Nat} {κ : zzM} {νc : zzN} {μ : zzM} {ν : zzN} {H : Int} {nS nB nK : Nat} {h : zz_H} {n : Nat}
theorem f_seatOf (S : S0 ad iv lv t0 base am ao an κ νc μ ν h n) {x : Int32} {r : Nat ⊕ Nat} (e : g_X9_seatOf lv 0 x κ νc = some r) : f_X9_seatOf base x h = some (Sum.map (fun o : Nat => some (ad o)) id r) := by
  have q := sc_X9_seatOf S.1 S.2.1 (h := h) (t0 := t0) (a0 := 0) (x1 := x) (κ := κ) (ν := νc)
  rw [S0_hc S, S.2.2.2.2.2.2.2.2.1] at q
  exact q _ e
theorem f_kind (S : S0 ad iv lv t0 base am ao an κ νc μ ν h n) {x : Int32} {r : Unit ⊕ Nat} (e : g_X9_needKind lv x κ νc = some r) : f_X9_needKind x h = some r := by
  have q := sc_X9_needKind S.1 S.2.1 (h := h) (t0 := t0) (x0 := x) (κ := κ) (ν := νc)
  rw [S0_hc S] at q
  exact q _ e
theorem f_next (S : S0 ad iv lv t0 base am ao an κ νc μ ν h n) {o : Nat} {x : Int32} {r : Unit ⊕ Nat} (e : g_X9_needNext lv o x κ νc = some r) : f_X9_needNext (some (ad o)) x h = some r := by
  have q := sc_X9_needNext S.1 S.2.1 (h := h) (t0 := t0) (x0 := o) (x1 := x) (κ := κ) (ν := νc)
  rw [S0_hc S] at q
  exact q _ e
def XLy (k : Nat) (h3 : zz_H) (n3 : Nat) : Option (Int32 × zz_H × Nat) := if k = 2 then some ((1 : Int32), h3, n3) else (if k = 0 then some ((2 : Int32), h3, n3) else (if k = 3 then some ((3 : Int32), h3, n3) else none))
theorem lay_core (S : S0 ad iv lv t0 base am ao an κ νc μ ν h n) (R : RR lv κ νc μ ν H nS nB nK) (V : LV lv nS) (hH0 : 0 ≤ H) (x1 kd t f : Int32) : Ww (L2 h base ao (f_X9_layer t0 base x1 kd t f h n) XLy) (fun h' => f_X10_layer am x1 kd t f h') am ao (Jx t0 base am ao an H) := by
  have s4 := R.1.2.1
  have h30 := R.1.2.2.2.2.2.1
  have hHH := R.1.2.2.2.2.1
  have em : ∀ {v : Int32} {μ' : zzM} {ν' : zzN}, g_X10_layer x1 kd t f μ ν = some (v, μ', ν') → ∀ h', zk h' am μ ν = h' → f_X10_layer am x1 kd t f h' = some (v, zk h' am μ' ν') := fun e h' hk => by
    have e2 := sm_X10_layer (h := h') (am := am) (x1 := x1) (x2 := kd) (x3 := t) (x4 := f) (μ := μ) (ν := ν)
    rw [hk] at e2
    exact e2 _ e
  have err : ∀ {e : Nat} {w : Int32}, f_X9_layer t0 base x1 kd t f h n = some (.inr e, h, n) → XLy e h n = some (w, h, n) → ¬ w = 0 → g_X10_layer x1 kd t f μ ν = some (0, zset μ 0 33 w, ν) → Ww (L2 h base ao (f_X9_layer t0 base x1 kd t f h n) XLy) (fun h' => f_X10_layer am x1 kd t f h') am ao (Jx t0 base am ao an H) := fun f0 hx hw e2 => wrap2_e S R V f0 hx hw (em e2)
  rcases ix_cases x1 nS (by omega) with g | ⟨s, hs, rfl⟩
  · refine err (e := 2) (w := 1) ?_ rfl (by decide) ?_
    · unfold f_X9_layer
      rw [(S0_ax S R.1.1).2, f_seatOf S (ec_seatOf1 R g)]
      rfl
    · obtain ⟨z, e⟩ := em_layz (μ := μ) (ν := ν) x1 kd t f
      rw [e, em_layS (em_noSeat1 h30 (by omega) g)]
  have c1 : f_X9_seatOf base (Int32.ofNat s) h = some (.inl (some (ad (100 * (s + 1))))) := f_seatOf S (ec_seatOf0 R hs)
  have n0 : g_X10_isNoSeat (Int32.ofNat s) μ ν = some 0 := em_noSeat0 h30 (by omega) hs
  rcases kd_cases kd with gk | gk
  · have c2 := f_kind S (ec_kind0 (lv := lv) (κ := κ) (νc := νc) gk)
    rcases ra_cases t 5 60 with gt | gt
    · refine err (e := 0) (w := 2) ?_ rfl (by decide) ?_
      · unfold f_X9_layer
        rw [(S0_ax S R.1.1).2, c1, zth_l, c2, zth_l, f_rng S (ec_ra1 gt), zth_r]
      · rw [em_layi (Or.inr ⟨em_kind0 gk, Or.inl (em_ra1 gt)⟩), em_lay2 n0]
    have c3 := f_rng S (ec_ra0 (κ := κ) (νc := νc) (lv := lv) gt)
    rcases ra_cases f 1 9 with gf | gf
    · refine err (e := 0) (w := 2) ?_ rfl (by decide) ?_
      · unfold f_X9_layer
        rw [(S0_ax S R.1.1).2, c1, zth_l, c2, zth_l, c3, zth_l, f_rng S (ec_ra1 gf), zth_r]
      · rw [em_layi (Or.inr ⟨em_kind0 gk, Or.inr ⟨em_ra0 gt, em_ra1 gf⟩⟩), em_lay2 n0]
    have c4 := f_rng S (ec_ra0 (κ := κ) (νc := νc) (lv := lv) gf)
    obtain ⟨m1, hm⟩ : ∃ m1, zset μ 0 33 0 = m1 := ⟨_, rfl⟩
    have R1 := RR_t 0 R
    rw [hm] at R1
    have z1 : m1 0 33 = 0 := by rw [← hm]; exact zset_h
    have hs4 : s < 4 := by omega
    have Q1 := R1.2.2.1 s hs
    obtain ⟨A, hB, hF, hN, ⟨sg, hG⟩, ⟨t', b, c, hV, hz⟩, hX, hO, hM, hT, hD, hA, hL, hVb, hC, hP⟩ := id Q1
    have hv : g_X10_layer (Int32.ofNat s) kd t f μ ν = g_X10_layer_33 (Int32.ofNat s) kd t f 1 μ ν := em_layv (em_kind0 gk) (em_ra0 gt) (em_ra0 gf)
    rcases nx_cases (νc := νc) (ν := ν) A hB hN hV hG (a := 108) (by decide) with ⟨e1, e2⟩ | ⟨e1, e2, e3, rfl⟩
    · refine err (e := 3) (w := 3) ?_ rfl (by decide) ?_
      · unfold f_X9_layer
        rw [(S0_ax S R.1.1).2, c1, zth_l, c2, zth_l, c3, zth_l, c4, zth_l, f_next S e1, zth_r]
      · rw [hv, em_lay3 n0 (by rw [hm]; exact e2)]
    have hk : CH kd := by
      rcases gk with rfl | rfl | rfl <;> (unfold CH; decide)
    have hl4 := (sh108 hV hB e3).2.2.2
    obtain ⟨h2, f1, S1⟩ := S0_layer S R1 V hs hl4 hk c1 c2 c3 c4 (f_next S e1)
    have lt : ∀ x, nwY κ s (nL m1 s) x = true → lvN (nwY κ s (nL m1 s)) lv x = true := fun x hx => by
      unfold lvN
      rw [hx]
      exact Bool.or_true _
    have m : ∀ o, lv o = true → lvN (nwY κ s (nL m1 s)) lv o = true := fun o ho => by
      unfold lvN
      rw [ho]
      rfl
    have l1 := lt _ (nwY_t (κ := κ) (s := s) (l := nL m1 s) (Or.inl rfl))
    have l2 : lvN (nwY κ s (nL m1 s)) lv (100 * (s + 1) + 5 + 1 + 1000) = true := by
      by_cases g : κ (100 * (s + 1) + 5 + 1) 3 = 0
      · exact lt _ (nwY_t (Or.inr ⟨rfl, g⟩))
      · exact m _ (hA.2.2.2 g)
    have tI := ra_I gt
    have fI := ra_I gf
    have i5 : (5 : Int32).toInt = 5 := rfl
    have i60 : (60 : Int32).toInt = 60 := rfl
    have i1 : (1 : Int32).toInt = 1 := rfl
    have i9 : (9 : Int32).toInt = 9 := rfl
    obtain ⟨⟨h9, -, n99, hB2, d3⟩, QN⟩ := RS_layer (k := kd) (t := t) (f := f) hs4 m l1 l2 gk (by omega) (by omega) hH0 e3 hG Q1
    have e4 : adN (nwY κ s (nL m1 s)) (adY n s (nL m1 s)) ad (100 * (s + 1) + 4) = ad (100 * (s + 1) + 4) := adN_f (nwY_n (by omega) (by omega))
    have ea := sc_X8_add S1.1 S1.2.1 (h := h2) (t0 := t0) (a0 := 100 * (s + 1) + 4) (x1 := 108) (κ := kY κ kd t f s (nL m1 s)) (ν := zsetN νc (100 * (s + 1) + 20 + nL m1 s) 4 0)
    rw [S0_hc S1, e4] at ea
    have ea2 := ea _ (ec_add (As_m m A) hB (by rw [kY_o (by omega) (by omega)]; exact hN.1) h9 (by decide))
    dsimp only at ea2
    rw [ea2, zb1_s] at f1
    have S2 := S0_c S1 (kAdd (kY κ kd t f s (nL m1 s)) (100 * (s + 1)) (nD m1 s) 108) (zsetN νc (100 * (s + 1) + 20 + nL m1 s) 4 0)
    have tl : tLast (mDone (mY m1 kd t f s (nL m1 s)) s 108) s = 108 := tLast_done (by omega)
    have R2 := RR_seat2 hs (fun o ho => by rw [kAdd_o (by unfold FK at ho; omega) (by unfold FK at ho; omega), kY_o (by unfold FK at ho; omega) (by unfold FK at ho; omega)]) (fun o ho => zsetN_o (by omega)) (fun o i ho => by rw [mDone_e (by unfold FP at ho; omega) (by unfold FP at ho; omega) (by unfold FP at ho; omega), mY_o (by unfold FP at ho; omega) (by unfold FP at ho; omega)]) (fun o ho => zsetN_o ho) (Int.le_refl _) hHH (RR_lv m R1) QN (Or.inl (by rw [tl]; decide))
    refine wrap2_v S R.1.1 f1 S2 ⟨R2, fun s' h1 h2 o ho => ?_⟩ ?_ (em ?_)
    · unfold lvN
      rw [V s' h1 h2 o ho, nwY_n (by unfold FK at ho; omega) (by unfold FK at ho; omega)]
      rfl
    · rw [mDone_e (by omega) (by omega) (by omega), mY_o (by omega) (by omega)]
      exact z1
    · rw [hv, em_lay0 hm hs4 gk n0 e2 hB hl4 hB2 (by omega), d3]
  · refine err (e := 0) (w := 2) ?_ rfl (by decide) ?_
    · unfold f_X9_layer
      rw [(S0_ax S R.1.1).2, c1, zth_l, f_kind S (ec_kind1 gk), zth_r]
    · rw [em_layi (Or.inl (em_kind1 gk)), em_lay2 n0]
theorem cw_6 (S : S0 ad iv lv t0 base am ao an κ νc μ ν h n) (R : RR lv κ νc μ ν H nS nB nK) (V : LV lv nS) (hH0 : 0 ≤ H) (hH9 : H + 20000 ≤ 100000000) (x1 x2 x3 x4 : Int32) : w_6 t0 base am ao an x1 x2 x3 x4 h n (Jx t0 base am ao an (H + 20000)) := lay_core S (RR_up (H' := H + 20000) (by omega) hH9 R) V (by omega) x1 (((x2).toUInt32 % 65536).toInt32) x3 x4
end ZXX
