section ZXB
/-! each call's case, those that make no objects -/
variable {ad : Nat → Nat} {iv : Nat → Option Nat} {lv : Nat → Bool} {t0 base am ao an : Nat} {κ : zzM} {νc : zzN} {μ : zzM} {ν : zzN} {H : Int} {nS nB nK : Nat} {h : zz_H} {n : Nat}
theorem ct_1 (S : S0 ad iv lv t0 base am ao an κ νc μ ν h n) (R : RR lv κ νc μ ν H nS nB nK) (V : LV lv nS) (hH9 : H + 20000 ≤ 100000000) (x1 x2 x3 x4 : Int32) : Ww (Lw h base ao n (f_X9_web base x1 x2 h) (fun k h' => (if k = 2 then some ((1 : Int32), h', n) else (if k = 0 then some ((2 : Int32), h', n) else (if k = 3 then some ((3 : Int32), h', n) else none))))) (fun h' => f_X10_web am x1 x2 h') am ao (Jx t0 base am ao an (H + 20000)) := by
  have e := sc_X9_web S.1 S.2.1 (h := h) (t0 := t0) (a0 := 0) (x1 := x1) (x2 := x2) (κ := κ) (ν := νc)
  rw [S0_hc S, S.2.2.2.2.2.2.2.2.1] at e
  refine wrap1 S R.1.1 V (op_web (RR_up (H' := H + 20000) (by omega) hH9 R) x1 x2) e (fun h' hk => ?_) (fun e t h' hc => ?_)
  · have e2 := sm_X10_web (h := h') (am := am) (x1 := x1) (x2 := x2) (μ := μ) (ν := ν)
    rw [hk] at e2
    exact e2
  · by_cases g0 : e = 2
    · subst g0
      have hc2 : some (1 : Int32) = some t := hc
      cases hc2
      rfl
    by_cases g1 : e = 0
    · subst g1
      have hc2 : some (2 : Int32) = some t := hc
      cases hc2
      rfl
    by_cases g2 : e = 3
    · subst g2
      have hc2 : some (3 : Int32) = some t := hc
      cases hc2
      rfl
    unfold cd_web at hc
    rw [if_neg g0, if_neg g1, if_neg g2] at hc
    cases hc
theorem cw_1 (S : S0 ad iv lv t0 base am ao an κ νc μ ν h n) (R : RR lv κ νc μ ν H nS nB nK) (V : LV lv nS) (hH9 : H + 20000 ≤ 100000000) (x1 x2 x3 x4 : Int32) : w_1 t0 base am ao an x1 x2 x3 x4 h n (Jx t0 base am ao an (H + 20000)) := ct_1 S R V hH9 x1 x2 x3 x4
theorem ct_2 (S : S0 ad iv lv t0 base am ao an κ νc μ ν h n) (R : RR lv κ νc μ ν H nS nB nK) (V : LV lv nS) (hH9 : H + 20000 ≤ 100000000) (x1 x2 x3 x4 : Int32) : Ww (Lw h base ao n (f_X9_spring base x1 x2 x3 h) (fun k h' => (if k = 2 then some ((1 : Int32), h', n) else (if k = 0 then some ((2 : Int32), h', n) else (if k = 3 then some ((3 : Int32), h', n) else none))))) (fun h' => f_X10_spring am x1 x2 x3 h') am ao (Jx t0 base am ao an (H + 20000)) := by
  have e := sc_X9_spring S.1 S.2.1 (h := h) (t0 := t0) (a0 := 0) (x1 := x1) (x2 := x2) (x3 := x3) (κ := κ) (ν := νc)
  rw [S0_hc S, S.2.2.2.2.2.2.2.2.1] at e
  refine wrap1 S R.1.1 V (op_spring (RR_up (H' := H + 20000) (by omega) hH9 R) x1 x2 x3) e (fun h' hk => ?_) (fun e t h' hc => ?_)
  · have e2 := sm_X10_spring (h := h') (am := am) (x1 := x1) (x2 := x2) (x3 := x3) (μ := μ) (ν := ν)
    rw [hk] at e2
    exact e2
  · by_cases g0 : e = 2
    · subst g0
      have hc2 : some (1 : Int32) = some t := hc
      cases hc2
      rfl
    by_cases g1 : e = 0
    · subst g1
      have hc2 : some (2 : Int32) = some t := hc
      cases hc2
      rfl
    by_cases g2 : e = 3
    · subst g2
      have hc2 : some (3 : Int32) = some t := hc
      cases hc2
      rfl
    unfold cd_spring at hc
    rw [if_neg g0, if_neg g1, if_neg g2] at hc
    cases hc
theorem cw_2 (S : S0 ad iv lv t0 base am ao an κ νc μ ν h n) (R : RR lv κ νc μ ν H nS nB nK) (V : LV lv nS) (hH9 : H + 20000 ≤ 100000000) (x1 x2 x3 x4 : Int32) : w_2 t0 base am ao an x1 x2 x3 x4 h n (Jx t0 base am ao an (H + 20000)) := ct_2 S R V hH9 x1 x2 x3 x4
theorem ct_3 (S : S0 ad iv lv t0 base am ao an κ νc μ ν h n) (R : RR lv κ νc μ ν H nS nB nK) (V : LV lv nS) (hH9 : H + 20000 ≤ 100000000) (x1 x2 x3 x4 : Int32) : Ww (Lw h base ao n (f_X9_change base x1 x2 x3 x4 h) (fun k h' => (if k = 2 then some ((1 : Int32), h', n) else (if k = 0 then some ((2 : Int32), h', n) else (if k = 3 then some ((3 : Int32), h', n) else none))))) (fun h' => f_X10_change am x1 x2 x3 x4 h') am ao (Jx t0 base am ao an (H + 20000)) := by
  have e := sc_X9_change S.1 S.2.1 (h := h) (t0 := t0) (a0 := 0) (x1 := x1) (x2 := x2) (x3 := x3) (x4 := x4) (κ := κ) (ν := νc)
  rw [S0_hc S, S.2.2.2.2.2.2.2.2.1] at e
  refine wrap1 S R.1.1 V (op_change (RR_up (H' := H + 20000) (by omega) hH9 R) x1 x2 x3 x4) e (fun h' hk => ?_) (fun e t h' hc => ?_)
  · have e2 := sm_X10_change (h := h') (am := am) (x1 := x1) (x2 := x2) (x3 := x3) (x4 := x4) (μ := μ) (ν := ν)
    rw [hk] at e2
    exact e2
  · by_cases g0 : e = 2
    · subst g0
      have hc2 : some (1 : Int32) = some t := hc
      cases hc2
      rfl
    by_cases g1 : e = 0
    · subst g1
      have hc2 : some (2 : Int32) = some t := hc
      cases hc2
      rfl
    by_cases g2 : e = 3
    · subst g2
      have hc2 : some (3 : Int32) = some t := hc
      cases hc2
      rfl
    unfold cd_change at hc
    rw [if_neg g0, if_neg g1, if_neg g2] at hc
    cases hc
theorem cw_3 (S : S0 ad iv lv t0 base am ao an κ νc μ ν h n) (R : RR lv κ νc μ ν H nS nB nK) (V : LV lv nS) (hH9 : H + 20000 ≤ 100000000) (x1 x2 x3 x4 : Int32) : w_3 t0 base am ao an x1 x2 x3 x4 h n (Jx t0 base am ao an (H + 20000)) := ct_3 S R V hH9 x1 x2 x3 x4
theorem ct_4 (S : S0 ad iv lv t0 base am ao an κ νc μ ν h n) (R : RR lv κ νc μ ν H nS nB nK) (V : LV lv nS) (hH9 : H + 20000 ≤ 100000000) (x1 x2 x3 x4 : Int32) : Ww (Lw h base ao n (f_X9_tie base x1 h) (fun k h' => (if k = 2 then some ((1 : Int32), h', n) else (if k = 3 then some ((2 : Int32), h', n) else none)))) (fun h' => f_X10_tie am x1 h') am ao (Jx t0 base am ao an (H + 20000)) := by
  have e := sc_X9_tie S.1 S.2.1 (h := h) (t0 := t0) (a0 := 0) (x1 := x1) (κ := κ) (ν := νc)
  rw [S0_hc S, S.2.2.2.2.2.2.2.2.1] at e
  refine wrap1 S R.1.1 V (op_tie (RR_up (H' := H + 20000) (by omega) hH9 R) x1) e (fun h' hk => ?_) (fun e t h' hc => ?_)
  · have e2 := sm_X10_tie (h := h') (am := am) (x1 := x1) (μ := μ) (ν := ν)
    rw [hk] at e2
    exact e2
  · by_cases g0 : e = 2
    · subst g0
      have hc2 : some (1 : Int32) = some t := hc
      cases hc2
      rfl
    by_cases g1 : e = 3
    · subst g1
      have hc2 : some (2 : Int32) = some t := hc
      cases hc2
      rfl
    unfold cd_tie at hc
    rw [if_neg g0, if_neg g1] at hc
    cases hc
theorem cw_4 (S : S0 ad iv lv t0 base am ao an κ νc μ ν h n) (R : RR lv κ νc μ ν H nS nB nK) (V : LV lv nS) (hH9 : H + 20000 ≤ 100000000) (x1 x2 x3 x4 : Int32) : w_4 t0 base am ao an x1 x2 x3 x4 h n (Jx t0 base am ao an (H + 20000)) := ct_4 S R V hH9 x1 x2 x3 x4
theorem ct_5a (S : S0 ad iv lv t0 base am ao an κ νc μ ν h n) (R : RR lv κ νc μ ν H nS nB nK) (V : LV lv nS) (hH9 : H + 20000 ≤ 100000000) (x1 x2 x3 x4 : Int32) : Ww (Lw h base ao n (f_X9_pull base x1 (0 : Int32) x3 x4 h) (fun k h' => (if k = 2 then some ((1 : Int32), h', n) else (if k = 0 then some ((2 : Int32), h', n) else (if k = 3 then some ((3 : Int32), h', n) else none))))) (fun h' => f_X10_pull am x1 (0 : Int32) x3 x4 h') am ao (Jx t0 base am ao an (H + 20000)) := by
  have e := sc_X9_pull S.1 S.2.1 (h := h) (t0 := t0) (a0 := 0) (x1 := x1) (x2 := (0 : Int32)) (x3 := x3) (x4 := x4) (κ := κ) (ν := νc)
  rw [S0_hc S, S.2.2.2.2.2.2.2.2.1] at e
  refine wrap1 S R.1.1 V (op_pull (RR_up (H' := H + 20000) (by omega) hH9 R) x1 (0 : Int32) x3 x4) e (fun h' hk => ?_) (fun e t h' hc => ?_)
  · have e2 := sm_X10_pull (h := h') (am := am) (x1 := x1) (x2 := (0 : Int32)) (x3 := x3) (x4 := x4) (μ := μ) (ν := ν)
    rw [hk] at e2
    exact e2
  · by_cases g0 : e = 2
    · subst g0
      have hc2 : some (1 : Int32) = some t := hc
      cases hc2
      rfl
    by_cases g1 : e = 0
    · subst g1
      have hc2 : some (2 : Int32) = some t := hc
      cases hc2
      rfl
    by_cases g2 : e = 3
    · subst g2
      have hc2 : some (3 : Int32) = some t := hc
      cases hc2
      rfl
    unfold cd_pull at hc
    rw [if_neg g0, if_neg g1, if_neg g2] at hc
    cases hc
theorem ct_5b (S : S0 ad iv lv t0 base am ao an κ νc μ ν h n) (R : RR lv κ νc μ ν H nS nB nK) (V : LV lv nS) (hH9 : H + 20000 ≤ 100000000) (x1 x2 x3 x4 : Int32) : Ww (Lw h base ao n (f_X9_pull base x1 (1 : Int32) x3 x4 h) (fun k h' => (if k = 2 then some ((1 : Int32), h', n) else (if k = 0 then some ((2 : Int32), h', n) else (if k = 3 then some ((3 : Int32), h', n) else none))))) (fun h' => f_X10_pull am x1 (1 : Int32) x3 x4 h') am ao (Jx t0 base am ao an (H + 20000)) := by
  have e := sc_X9_pull S.1 S.2.1 (h := h) (t0 := t0) (a0 := 0) (x1 := x1) (x2 := (1 : Int32)) (x3 := x3) (x4 := x4) (κ := κ) (ν := νc)
  rw [S0_hc S, S.2.2.2.2.2.2.2.2.1] at e
  refine wrap1 S R.1.1 V (op_pull (RR_up (H' := H + 20000) (by omega) hH9 R) x1 (1 : Int32) x3 x4) e (fun h' hk => ?_) (fun e t h' hc => ?_)
  · have e2 := sm_X10_pull (h := h') (am := am) (x1 := x1) (x2 := (1 : Int32)) (x3 := x3) (x4 := x4) (μ := μ) (ν := ν)
    rw [hk] at e2
    exact e2
  · by_cases g0 : e = 2
    · subst g0
      have hc2 : some (1 : Int32) = some t := hc
      cases hc2
      rfl
    by_cases g1 : e = 0
    · subst g1
      have hc2 : some (2 : Int32) = some t := hc
      cases hc2
      rfl
    by_cases g2 : e = 3
    · subst g2
      have hc2 : some (3 : Int32) = some t := hc
      cases hc2
      rfl
    unfold cd_pull at hc
    rw [if_neg g0, if_neg g1, if_neg g2] at hc
    cases hc
theorem cw_5 (S : S0 ad iv lv t0 base am ao an κ νc μ ν h n) (R : RR lv κ νc μ ν H nS nB nK) (V : LV lv nS) (hH9 : H + 20000 ≤ 100000000) (x1 x2 x3 x4 : Int32) : w_5 t0 base am ao an x1 x2 x3 x4 h n (Jx t0 base am ao an (H + 20000)) := by
  refine ⟨fun q => ?_, fun q => ?_⟩
  · obtain ⟨r, h1, n1, e, f⟩ := ct_5a S R V hH9 x1 x2 x3 x4
    exact ⟨r, h1, n1, e, fun n2 hn => ⟨fun _ => f n2 hn, fun q2 => absurd q q2⟩⟩
  · obtain ⟨r, h1, n1, e, f⟩ := ct_5b S R V hH9 x1 x2 x3 x4
    exact ⟨r, h1, n1, e, fun n2 hn => ⟨fun q2 => absurd q2 q, fun _ => f n2 hn⟩⟩
theorem ct_7 (S : S0 ad iv lv t0 base am ao an κ νc μ ν h n) (R : RR lv κ νc μ ν H nS nB nK) (V : LV lv nS) (hH9 : H + 20000 ≤ 100000000) (x1 x2 x3 x4 : Int32) : Ww (Lw h base ao n (f_X9_buttons base x1 h) (fun k h' => (if k = 2 then some ((1 : Int32), h', n) else (if k = 3 then some ((2 : Int32), h', n) else none)))) (fun h' => f_X10_buttons am x1 h') am ao (Jx t0 base am ao an (H + 20000)) := by
  have e := sc_X9_buttons S.1 S.2.1 (h := h) (t0 := t0) (a0 := 0) (x1 := x1) (κ := κ) (ν := νc)
  rw [S0_hc S, S.2.2.2.2.2.2.2.2.1] at e
  refine wrap1 S R.1.1 V (op_buttons (RR_up (H' := H + 20000) (by omega) hH9 R) x1) e (fun h' hk => ?_) (fun e t h' hc => ?_)
  · have e2 := sm_X10_buttons (h := h') (am := am) (x1 := x1) (μ := μ) (ν := ν)
    rw [hk] at e2
    exact e2
  · by_cases g0 : e = 2
    · subst g0
      have hc2 : some (1 : Int32) = some t := hc
      cases hc2
      rfl
    by_cases g1 : e = 3
    · subst g1
      have hc2 : some (2 : Int32) = some t := hc
      cases hc2
      rfl
    unfold cd_buttons at hc
    rw [if_neg g0, if_neg g1] at hc
    cases hc
theorem cw_7 (S : S0 ad iv lv t0 base am ao an κ νc μ ν h n) (R : RR lv κ νc μ ν H nS nB nK) (V : LV lv nS) (hH9 : H + 20000 ≤ 100000000) (x1 x2 x3 x4 : Int32) : w_7 t0 base am ao an x1 x2 x3 x4 h n (Jx t0 base am ao an (H + 20000)) := ct_7 S R V hH9 x1 x2 x3 x4
theorem ct_8 (S : S0 ad iv lv t0 base am ao an κ νc μ ν h n) (R : RR lv κ νc μ ν H nS nB nK) (V : LV lv nS) (hH9 : H + 20000 ≤ 100000000) (x1 x2 x3 x4 : Int32) : Ww (Lw h base ao n (f_X9_draw base x1 x2 x3 h) (fun k h' => (if k = 2 then some ((1 : Int32), h', n) else (if k = 0 then some ((2 : Int32), h', n) else (if k = 3 then some ((3 : Int32), h', n) else (if k = 1 then some ((4 : Int32), h', n) else none)))))) (fun h' => f_X10_draw am x1 x2 x3 h') am ao (Jx t0 base am ao an (H + 20000)) := by
  have e := sc_X9_draw S.1 S.2.1 (h := h) (t0 := t0) (a0 := 0) (x1 := x1) (x2 := x2) (x3 := x3) (κ := κ) (ν := νc)
  rw [S0_hc S, S.2.2.2.2.2.2.2.2.1] at e
  refine wrap1 S R.1.1 V (op_draw (RR_up (H' := H + 20000) (by omega) hH9 R) x1 x2 x3) e (fun h' hk => ?_) (fun e t h' hc => ?_)
  · have e2 := sm_X10_draw (h := h') (am := am) (x1 := x1) (x2 := x2) (x3 := x3) (μ := μ) (ν := ν)
    rw [hk] at e2
    exact e2
  · by_cases g0 : e = 2
    · subst g0
      have hc2 : some (1 : Int32) = some t := hc
      cases hc2
      rfl
    by_cases g1 : e = 0
    · subst g1
      have hc2 : some (2 : Int32) = some t := hc
      cases hc2
      rfl
    by_cases g2 : e = 3
    · subst g2
      have hc2 : some (3 : Int32) = some t := hc
      cases hc2
      rfl
    by_cases g3 : e = 1
    · subst g3
      have hc2 : some (4 : Int32) = some t := hc
      cases hc2
      rfl
    unfold cd_draw at hc
    rw [if_neg g0, if_neg g1, if_neg g2, if_neg g3] at hc
    cases hc
theorem cw_8 (S : S0 ad iv lv t0 base am ao an κ νc μ ν h n) (R : RR lv κ νc μ ν H nS nB nK) (V : LV lv nS) (hH9 : H + 20000 ≤ 100000000) (x1 x2 x3 x4 : Int32) : w_8 t0 base am ao an x1 x2 x3 x4 h n (Jx t0 base am ao an (H + 20000)) := ct_8 S R V hH9 x1 x2 x3 x4
theorem ct_9 (S : S0 ad iv lv t0 base am ao an κ νc μ ν h n) (R : RR lv κ νc μ ν H nS nB nK) (V : LV lv nS) (hH9 : H + 20000 ≤ 100000000) (x1 x2 x3 x4 : Int32) : Ww (Lw h base ao n (f_X9_cover base x1 x2 x3 h) (fun k h' => (if k = 2 then some ((1 : Int32), h', n) else (if k = 0 then some ((2 : Int32), h', n) else (if k = 3 then some ((3 : Int32), h', n) else (if k = 4 then some ((4 : Int32), h', n) else none)))))) (fun h' => f_X10_cover am x1 x2 x3 h') am ao (Jx t0 base am ao an (H + 20000)) := by
  have e := sc_X9_cover S.1 S.2.1 (h := h) (t0 := t0) (a0 := 0) (x1 := x1) (x2 := x2) (x3 := x3) (κ := κ) (ν := νc)
  rw [S0_hc S, S.2.2.2.2.2.2.2.2.1] at e
  refine wrap1 S R.1.1 V (op_cover (RR_up (H' := H + 20000) (by omega) hH9 R) x1 x2 x3) e (fun h' hk => ?_) (fun e t h' hc => ?_)
  · have e2 := sm_X10_cover (h := h') (am := am) (x1 := x1) (x2 := x2) (x3 := x3) (μ := μ) (ν := ν)
    rw [hk] at e2
    exact e2
  · by_cases g0 : e = 2
    · subst g0
      have hc2 : some (1 : Int32) = some t := hc
      cases hc2
      rfl
    by_cases g1 : e = 0
    · subst g1
      have hc2 : some (2 : Int32) = some t := hc
      cases hc2
      rfl
    by_cases g2 : e = 3
    · subst g2
      have hc2 : some (3 : Int32) = some t := hc
      cases hc2
      rfl
    by_cases g3 : e = 4
    · subst g3
      have hc2 : some (4 : Int32) = some t := hc
      cases hc2
      rfl
    unfold cd_cover at hc
    rw [if_neg g0, if_neg g1, if_neg g2, if_neg g3] at hc
    cases hc
theorem cw_9 (S : S0 ad iv lv t0 base am ao an κ νc μ ν h n) (R : RR lv κ νc μ ν H nS nB nK) (V : LV lv nS) (hH9 : H + 20000 ≤ 100000000) (x1 x2 x3 x4 : Int32) : w_9 t0 base am ao an x1 x2 x3 x4 h n (Jx t0 base am ao an (H + 20000)) := ct_9 S R V hH9 x1 x2 x3 x4
theorem ct_10 (S : S0 ad iv lv t0 base am ao an κ νc μ ν h n) (R : RR lv κ νc μ ν H nS nB nK) (V : LV lv nS) (hH9 : H + 20000 ≤ 100000000) (x1 x2 x3 x4 : Int32) : Ww (Lw h base ao n (f_X9_sign base x1 h) (fun k h' => (if k = 2 then some ((1 : Int32), h', n) else (if k = 3 then some ((2 : Int32), h', n) else none)))) (fun h' => f_X10_sign am x1 h') am ao (Jx t0 base am ao an (H + 20000)) := by
  have e := sc_X9_sign S.1 S.2.1 (h := h) (t0 := t0) (a0 := 0) (x1 := x1) (κ := κ) (ν := νc)
  rw [S0_hc S, S.2.2.2.2.2.2.2.2.1] at e
  refine wrap1 S R.1.1 V (op_sign (RR_up (H' := H + 20000) (by omega) hH9 R) x1) e (fun h' hk => ?_) (fun e t h' hc => ?_)
  · have e2 := sm_X10_sign (h := h') (am := am) (x1 := x1) (μ := μ) (ν := ν)
    rw [hk] at e2
    exact e2
  · by_cases g0 : e = 2
    · subst g0
      have hc2 : some (1 : Int32) = some t := hc
      cases hc2
      rfl
    by_cases g1 : e = 3
    · subst g1
      have hc2 : some (2 : Int32) = some t := hc
      cases hc2
      rfl
    unfold cd_sign at hc
    rw [if_neg g0, if_neg g1] at hc
    cases hc
theorem cw_10 (S : S0 ad iv lv t0 base am ao an κ νc μ ν h n) (R : RR lv κ νc μ ν H nS nB nK) (V : LV lv nS) (hH9 : H + 20000 ≤ 100000000) (x1 x2 x3 x4 : Int32) : w_10 t0 base am ao an x1 x2 x3 x4 h n (Jx t0 base am ao an (H + 20000)) := ct_10 S R V hH9 x1 x2 x3 x4
theorem ct_11 (S : S0 ad iv lv t0 base am ao an κ νc μ ν h n) (R : RR lv κ νc μ ν H nS nB nK) (V : LV lv nS) (hH9 : H + 20000 ≤ 100000000) (x1 x2 x3 x4 : Int32) : Ww (Lw h base ao n (f_X9_open base x1 x2 h) (fun k h' => (if k = 2 then some ((1 : Int32), h', n) else (if k = 0 then some ((2 : Int32), h', n) else none)))) (fun h' => f_X10_open am x1 x2 h') am ao (Jx t0 base am ao an (H + 20000)) := by
  have e := sc_X9_open S.1 S.2.1 (h := h) (t0 := t0) (a0 := 0) (x1 := x1) (x2 := x2) (κ := κ) (ν := νc)
  rw [S0_hc S, S.2.2.2.2.2.2.2.2.1] at e
  refine wrap1 S R.1.1 V (op_open (RR_up (H' := H + 20000) (by omega) hH9 R) x1 x2) e (fun h' hk => ?_) (fun e t h' hc => ?_)
  · have e2 := sm_X10_open (h := h') (am := am) (x1 := x1) (x2 := x2) (μ := μ) (ν := ν)
    rw [hk] at e2
    exact e2
  · by_cases g0 : e = 2
    · subst g0
      have hc2 : some (1 : Int32) = some t := hc
      cases hc2
      rfl
    by_cases g1 : e = 0
    · subst g1
      have hc2 : some (2 : Int32) = some t := hc
      cases hc2
      rfl
    unfold cd_open at hc
    rw [if_neg g0, if_neg g1] at hc
    cases hc
theorem cw_11 (S : S0 ad iv lv t0 base am ao an κ νc μ ν h n) (R : RR lv κ νc μ ν H nS nB nK) (V : LV lv nS) (hH9 : H + 20000 ≤ 100000000) (x1 x2 x3 x4 : Int32) : w_11 t0 base am ao an x1 x2 x3 x4 h n (Jx t0 base am ao an (H + 20000)) := ct_11 S R V hH9 x1 x2 x3 x4
theorem ct_12 (S : S0 ad iv lv t0 base am ao an κ νc μ ν h n) (R : RR lv κ νc μ ν H nS nB nK) (V : LV lv nS) (hH9 : H + 20000 ≤ 100000000) (x1 x2 x3 x4 : Int32) : Ww (L0 h base ao n (f_X9_steps base x1 h) (fun k => (if k = 2 then some ((1 : Int32), h, n) else none))) (fun h' => f_X10_steps am x1 h') am ao (Jx t0 base am ao an (H + 20000)) := by
  have e := sc_X9_steps S.1 S.2.1 (h := h) (t0 := t0) (a0 := 0) (x1 := x1) (κ := κ) (ν := νc)
  rw [S0_hc S, S.2.2.2.2.2.2.2.2.1] at e
  refine wrap0 S R.1.1 V (op_steps (RR_up (H' := H + 20000) (by omega) hH9 R) x1) e (fun h' hk => ?_) (fun e t hc => ?_)
  · have e2 := sm_X10_steps (h := h') (am := am) (x1 := x1) (μ := μ) (ν := ν)
    rw [hk] at e2
    exact e2
  · by_cases g0 : e = 2
    · subst g0
      have hc2 : some (1 : Int32) = some t := hc
      cases hc2
      rfl
    unfold cd_steps at hc
    rw [if_neg g0] at hc
    cases hc
theorem cw_12 (S : S0 ad iv lv t0 base am ao an κ νc μ ν h n) (R : RR lv κ νc μ ν H nS nB nK) (V : LV lv nS) (hH9 : H + 20000 ≤ 100000000) (x1 x2 x3 x4 : Int32) : w_12 t0 base am ao an x1 x2 x3 x4 h n (Jx t0 base am ao an (H + 20000)) := ct_12 S R V hH9 x1 x2 x3 x4
theorem ct_13 (S : S0 ad iv lv t0 base am ao an κ νc μ ν h n) (R : RR lv κ νc μ ν H nS nB nK) (V : LV lv nS) (hH9 : H + 20000 ≤ 100000000) (x1 x2 x3 x4 : Int32) : Ww (L0 h base ao n (f_X9_step base x1 x2 h) (fun k => (if k = 2 then some ((1 : Int32), h, n) else (if k = 4 then some ((2 : Int32), h, n) else none)))) (fun h' => f_X10_step am x1 x2 h') am ao (Jx t0 base am ao an (H + 20000)) := by
  have e := sc_X9_step S.1 S.2.1 (h := h) (t0 := t0) (a0 := 0) (x1 := x1) (x2 := x2) (κ := κ) (ν := νc)
  rw [S0_hc S, S.2.2.2.2.2.2.2.2.1] at e
  refine wrap0 S R.1.1 V (op_step (RR_up (H' := H + 20000) (by omega) hH9 R) x1 x2) e (fun h' hk => ?_) (fun e t hc => ?_)
  · have e2 := sm_X10_step (h := h') (am := am) (x1 := x1) (x2 := x2) (μ := μ) (ν := ν)
    rw [hk] at e2
    exact e2
  · by_cases g0 : e = 2
    · subst g0
      have hc2 : some (1 : Int32) = some t := hc
      cases hc2
      rfl
    by_cases g1 : e = 4
    · subst g1
      have hc2 : some (2 : Int32) = some t := hc
      cases hc2
      rfl
    unfold cd_step at hc
    rw [if_neg g0, if_neg g1] at hc
    cases hc
theorem cw_13 (S : S0 ad iv lv t0 base am ao an κ νc μ ν h n) (R : RR lv κ νc μ ν H nS nB nK) (V : LV lv nS) (hH9 : H + 20000 ≤ 100000000) (x1 x2 x3 x4 : Int32) : w_13 t0 base am ao an x1 x2 x3 x4 h n (Jx t0 base am ao an (H + 20000)) := ct_13 S R V hH9 x1 x2 x3 x4
theorem ct_14 (S : S0 ad iv lv t0 base am ao an κ νc μ ν h n) (R : RR lv κ νc μ ν H nS nB nK) (V : LV lv nS) (hH9 : H + 20000 ≤ 100000000) (x1 x2 x3 x4 : Int32) : Wb (Lb h base ao n (f_X9_isSigned base x1 x2 h) (fun k => (if k = 2 then some ((1 : Int32), h, n) else (if k = 4 then some ((2 : Int32), h, n) else none)))) (fun h' => f_X10_isSigned am x1 x2 h') am ao (Jx t0 base am ao an (H + 20000)) := by
  have e := sc_X9_isSigned S.1 S.2.1 (h := h) (t0 := t0) (a0 := 0) (x1 := x1) (x2 := x2) (κ := κ) (ν := νc)
  rw [S0_hc S, S.2.2.2.2.2.2.2.2.1] at e
  refine wrapb S R.1.1 V (op_isSigned (RR_up (H' := H + 20000) (by omega) hH9 R) x1 x2) e (fun h' hk => ?_) (fun e t hc => ?_)
  · have e2 := sm_X10_isSigned (h := h') (am := am) (x1 := x1) (x2 := x2) (μ := μ) (ν := ν)
    rw [hk] at e2
    exact e2
  · by_cases g0 : e = 2
    · subst g0
      have hc2 : some (1 : Int32) = some t := hc
      cases hc2
      rfl
    by_cases g1 : e = 4
    · subst g1
      have hc2 : some (2 : Int32) = some t := hc
      cases hc2
      rfl
    unfold cd_isSigned at hc
    rw [if_neg g0, if_neg g1] at hc
    cases hc
theorem cw_14 (S : S0 ad iv lv t0 base am ao an κ νc μ ν h n) (R : RR lv κ νc μ ν H nS nB nK) (V : LV lv nS) (hH9 : H + 20000 ≤ 100000000) (x1 x2 x3 x4 : Int32) : w_14 t0 base am ao an x1 x2 x3 x4 h n (Jx t0 base am ao an (H + 20000)) := ct_14 S R V hH9 x1 x2 x3 x4
theorem ct_15 (S : S0 ad iv lv t0 base am ao an κ νc μ ν h n) (R : RR lv κ νc μ ν H nS nB nK) (V : LV lv nS) (hH9 : H + 20000 ≤ 100000000) (x1 x2 x3 x4 : Int32) : Wb (Lb h base ao n (f_X9_isClosed base x1 h) (fun k => (if k = 2 then some ((1 : Int32), h, n) else none))) (fun h' => f_X10_isClosed am x1 h') am ao (Jx t0 base am ao an (H + 20000)) := by
  have e := sc_X9_isClosed S.1 S.2.1 (h := h) (t0 := t0) (a0 := 0) (x1 := x1) (κ := κ) (ν := νc)
  rw [S0_hc S, S.2.2.2.2.2.2.2.2.1] at e
  refine wrapb S R.1.1 V (op_isClosed (RR_up (H' := H + 20000) (by omega) hH9 R) x1) e (fun h' hk => ?_) (fun e t hc => ?_)
  · have e2 := sm_X10_isClosed (h := h') (am := am) (x1 := x1) (μ := μ) (ν := ν)
    rw [hk] at e2
    exact e2
  · by_cases g0 : e = 2
    · subst g0
      have hc2 : some (1 : Int32) = some t := hc
      cases hc2
      rfl
    unfold cd_isClosed at hc
    rw [if_neg g0] at hc
    cases hc
theorem cw_15 (S : S0 ad iv lv t0 base am ao an κ νc μ ν h n) (R : RR lv κ νc μ ν H nS nB nK) (V : LV lv nS) (hH9 : H + 20000 ≤ 100000000) (x1 x2 x3 x4 : Int32) : w_15 t0 base am ao an x1 x2 x3 x4 h n (Jx t0 base am ao an (H + 20000)) := ct_15 S R V hH9 x1 x2 x3 x4
theorem ct_16 (S : S0 ad iv lv t0 base am ao an κ νc μ ν h n) (R : RR lv κ νc μ ν H nS nB nK) (V : LV lv nS) (hH9 : H + 20000 ≤ 100000000) (x1 x2 x3 x4 : Int32) : Ww (L0 h base ao n (f_X9_stands base x1 x2 h) (fun k => (if k = 2 then some ((1 : Int32), h, n) else none))) (fun h' => f_X10_stands am x1 x2 h') am ao (Jx t0 base am ao an (H + 20000)) := by
  have e := sc_X9_stands S.1 S.2.1 (h := h) (t0 := t0) (a0 := 0) (x1 := x1) (x2 := x2) (κ := κ) (ν := νc)
  rw [S0_hc S, S.2.2.2.2.2.2.2.2.1] at e
  refine wrap0 S R.1.1 V (op_stands (RR_up (H' := H + 20000) (by omega) hH9 R) x1 x2) e (fun h' hk => ?_) (fun e t hc => ?_)
  · have e2 := sm_X10_stands (h := h') (am := am) (x1 := x1) (x2 := x2) (μ := μ) (ν := ν)
    rw [hk] at e2
    exact e2
  · by_cases g0 : e = 2
    · subst g0
      have hc2 : some (1 : Int32) = some t := hc
      cases hc2
      rfl
    unfold cd_stands at hc
    rw [if_neg g0] at hc
    cases hc
theorem cw_16 (S : S0 ad iv lv t0 base am ao an κ νc μ ν h n) (R : RR lv κ νc μ ν H nS nB nK) (V : LV lv nS) (hH9 : H + 20000 ≤ 100000000) (x1 x2 x3 x4 : Int32) : w_16 t0 base am ao an x1 x2 x3 x4 h n (Jx t0 base am ao an (H + 20000)) := ct_16 S R V hH9 x1 x2 x3 x4
theorem ct_17 (S : S0 ad iv lv t0 base am ao an κ νc μ ν h n) (R : RR lv κ νc μ ν H nS nB nK) (V : LV lv nS) (hH9 : H + 20000 ≤ 100000000) (x1 x2 x3 x4 : Int32) : Ww (L0 h base ao n (f_X9_thick base x1 x2 h) (fun k => (if k = 2 then some ((1 : Int32), h, n) else (if k = 4 then some ((2 : Int32), h, n) else none)))) (fun h' => f_X10_thick am x1 x2 h') am ao (Jx t0 base am ao an (H + 20000)) := by
  have e := sc_X9_thick S.1 S.2.1 (h := h) (t0 := t0) (a0 := 0) (x1 := x1) (x2 := x2) (κ := κ) (ν := νc)
  rw [S0_hc S, S.2.2.2.2.2.2.2.2.1] at e
  refine wrap0 S R.1.1 V (op_thick (RR_up (H' := H + 20000) (by omega) hH9 R) x1 x2) e (fun h' hk => ?_) (fun e t hc => ?_)
  · have e2 := sm_X10_thick (h := h') (am := am) (x1 := x1) (x2 := x2) (μ := μ) (ν := ν)
    rw [hk] at e2
    exact e2
  · by_cases g0 : e = 2
    · subst g0
      have hc2 : some (1 : Int32) = some t := hc
      cases hc2
      rfl
    by_cases g1 : e = 4
    · subst g1
      have hc2 : some (2 : Int32) = some t := hc
      cases hc2
      rfl
    unfold cd_thick at hc
    rw [if_neg g0, if_neg g1] at hc
    cases hc
theorem cw_17 (S : S0 ad iv lv t0 base am ao an κ νc μ ν h n) (R : RR lv κ νc μ ν H nS nB nK) (V : LV lv nS) (hH9 : H + 20000 ≤ 100000000) (x1 x2 x3 x4 : Int32) : w_17 t0 base am ao an x1 x2 x3 x4 h n (Jx t0 base am ao an (H + 20000)) := ct_17 S R V hH9 x1 x2 x3 x4
theorem ct_18 (S : S0 ad iv lv t0 base am ao an κ νc μ ν h n) (R : RR lv κ νc μ ν H nS nB nK) (V : LV lv nS) (hH9 : H + 20000 ≤ 100000000) (x1 x2 x3 x4 : Int32) : Ww (L0 h base ao n (f_X9_top base x1 x2 h) (fun k => (if k = 2 then some ((1 : Int32), h, n) else none))) (fun h' => f_X10_top am x1 x2 h') am ao (Jx t0 base am ao an (H + 20000)) := by
  have e := sc_X9_top S.1 S.2.1 (h := h) (t0 := t0) (a0 := 0) (x1 := x1) (x2 := x2) (κ := κ) (ν := νc)
  rw [S0_hc S, S.2.2.2.2.2.2.2.2.1] at e
  refine wrap0 S R.1.1 V (op_top (RR_up (H' := H + 20000) (by omega) hH9 R) x1 x2) e (fun h' hk => ?_) (fun e t hc => ?_)
  · have e2 := sm_X10_top (h := h') (am := am) (x1 := x1) (x2 := x2) (μ := μ) (ν := ν)
    rw [hk] at e2
    exact e2
  · by_cases g0 : e = 2
    · subst g0
      have hc2 : some (1 : Int32) = some t := hc
      cases hc2
      rfl
    unfold cd_top at hc
    rw [if_neg g0] at hc
    cases hc
theorem cw_18 (S : S0 ad iv lv t0 base am ao an κ νc μ ν h n) (R : RR lv κ νc μ ν H nS nB nK) (V : LV lv nS) (hH9 : H + 20000 ≤ 100000000) (x1 x2 x3 x4 : Int32) : w_18 t0 base am ao an x1 x2 x3 x4 h n (Jx t0 base am ao an (H + 20000)) := ct_18 S R V hH9 x1 x2 x3 x4
theorem ct_19a (S : S0 ad iv lv t0 base am ao an κ νc μ ν h n) (R : RR lv κ νc μ ν H nS nB nK) (V : LV lv nS) (hH9 : H + 20000 ≤ 100000000) (x1 x2 x3 x4 : Int32) : Ww (L0 h base ao n (f_X9_folds base x1 (0 : Int32) h) (fun k => (if k = 2 then some ((1 : Int32), h, n) else none))) (fun h' => f_X10_folds am x1 (0 : Int32) h') am ao (Jx t0 base am ao an (H + 20000)) := by
  have e := sc_X9_folds S.1 S.2.1 (h := h) (t0 := t0) (a0 := 0) (x1 := x1) (x2 := (0 : Int32)) (κ := κ) (ν := νc)
  rw [S0_hc S, S.2.2.2.2.2.2.2.2.1] at e
  refine wrap0 S R.1.1 V (op_folds (RR_up (H' := H + 20000) (by omega) hH9 R) x1 (0 : Int32)) e (fun h' hk => ?_) (fun e t hc => ?_)
  · have e2 := sm_X10_folds (h := h') (am := am) (x1 := x1) (x2 := (0 : Int32)) (μ := μ) (ν := ν)
    rw [hk] at e2
    exact e2
  · by_cases g0 : e = 2
    · subst g0
      have hc2 : some (1 : Int32) = some t := hc
      cases hc2
      rfl
    unfold cd_folds at hc
    rw [if_neg g0] at hc
    cases hc
theorem ct_19b (S : S0 ad iv lv t0 base am ao an κ νc μ ν h n) (R : RR lv κ νc μ ν H nS nB nK) (V : LV lv nS) (hH9 : H + 20000 ≤ 100000000) (x1 x2 x3 x4 : Int32) : Ww (L0 h base ao n (f_X9_folds base x1 (1 : Int32) h) (fun k => (if k = 2 then some ((1 : Int32), h, n) else none))) (fun h' => f_X10_folds am x1 (1 : Int32) h') am ao (Jx t0 base am ao an (H + 20000)) := by
  have e := sc_X9_folds S.1 S.2.1 (h := h) (t0 := t0) (a0 := 0) (x1 := x1) (x2 := (1 : Int32)) (κ := κ) (ν := νc)
  rw [S0_hc S, S.2.2.2.2.2.2.2.2.1] at e
  refine wrap0 S R.1.1 V (op_folds (RR_up (H' := H + 20000) (by omega) hH9 R) x1 (1 : Int32)) e (fun h' hk => ?_) (fun e t hc => ?_)
  · have e2 := sm_X10_folds (h := h') (am := am) (x1 := x1) (x2 := (1 : Int32)) (μ := μ) (ν := ν)
    rw [hk] at e2
    exact e2
  · by_cases g0 : e = 2
    · subst g0
      have hc2 : some (1 : Int32) = some t := hc
      cases hc2
      rfl
    unfold cd_folds at hc
    rw [if_neg g0] at hc
    cases hc
theorem cw_19 (S : S0 ad iv lv t0 base am ao an κ νc μ ν h n) (R : RR lv κ νc μ ν H nS nB nK) (V : LV lv nS) (hH9 : H + 20000 ≤ 100000000) (x1 x2 x3 x4 : Int32) : w_19 t0 base am ao an x1 x2 x3 x4 h n (Jx t0 base am ao an (H + 20000)) := by
  refine ⟨fun q => ?_, fun q => ?_⟩
  · obtain ⟨r, h1, n1, e, f⟩ := ct_19a S R V hH9 x1 x2 x3 x4
    exact ⟨r, h1, n1, e, fun n2 hn => ⟨fun _ => f n2 hn, fun q2 => absurd q q2⟩⟩
  · obtain ⟨r, h1, n1, e, f⟩ := ct_19b S R V hH9 x1 x2 x3 x4
    exact ⟨r, h1, n1, e, fun n2 hn => ⟨fun q2 => absurd q2 q, fun _ => f n2 hn⟩⟩
theorem ct_20 (S : S0 ad iv lv t0 base am ao an κ νc μ ν h n) (R : RR lv κ νc μ ν H nS nB nK) (V : LV lv nS) (hH9 : H + 20000 ≤ 100000000) (x1 x2 x3 x4 : Int32) : Ww (L0 h base ao n (f_X9_buttonAt base x1 x2 h) (fun k => (if k = 2 then some ((1 : Int32), h, n) else (if k = 4 then some ((2 : Int32), h, n) else none)))) (fun h' => f_X10_buttonAt am x1 x2 h') am ao (Jx t0 base am ao an (H + 20000)) := by
  have e := sc_X9_buttonAt S.1 S.2.1 (h := h) (t0 := t0) (a0 := 0) (x1 := x1) (x2 := x2) (κ := κ) (ν := νc)
  rw [S0_hc S, S.2.2.2.2.2.2.2.2.1] at e
  refine wrap0 S R.1.1 V (op_buttonAt (RR_up (H' := H + 20000) (by omega) hH9 R) x1 x2) e (fun h' hk => ?_) (fun e t hc => ?_)
  · have e2 := sm_X10_buttonAt (h := h') (am := am) (x1 := x1) (x2 := x2) (μ := μ) (ν := ν)
    rw [hk] at e2
    exact e2
  · by_cases g0 : e = 2
    · subst g0
      have hc2 : some (1 : Int32) = some t := hc
      cases hc2
      rfl
    by_cases g1 : e = 4
    · subst g1
      have hc2 : some (2 : Int32) = some t := hc
      cases hc2
      rfl
    unfold cd_buttonAt at hc
    rw [if_neg g0, if_neg g1] at hc
    cases hc
theorem cw_20 (S : S0 ad iv lv t0 base am ao an κ νc μ ν h n) (R : RR lv κ νc μ ν H nS nB nK) (V : LV lv nS) (hH9 : H + 20000 ≤ 100000000) (x1 x2 x3 x4 : Int32) : w_20 t0 base am ao an x1 x2 x3 x4 h n (Jx t0 base am ao an (H + 20000)) := ct_20 S R V hH9 x1 x2 x3 x4
theorem ct_22 (S : S0 ad iv lv t0 base am ao an κ νc μ ν h n) (R : RR lv κ νc μ ν H nS nB nK) (V : LV lv nS) (hH9 : H + 20000 ≤ 100000000) (x1 x2 x3 x4 : Int32) : Ww (Lw h base ao n (f_X9_mass base x1 x2 x3 h) (fun k h' => (if k = 2 then some ((1 : Int32), h', n) else (if k = 0 then some ((2 : Int32), h', n) else none)))) (fun h' => f_X10_mass am x1 x2 x3 h') am ao (Jx t0 base am ao an (H + 20000)) := by
  have e := sc_X9_mass S.1 S.2.1 (h := h) (t0 := t0) (a0 := 0) (x1 := x1) (x2 := x2) (x3 := x3) (κ := κ) (ν := νc)
  rw [S0_hc S, S.2.2.2.2.2.2.2.2.1] at e
  refine wrap1 S R.1.1 V (op_mass (RR_up (H' := H + 20000) (by omega) hH9 R) x1 x2 x3) e (fun h' hk => ?_) (fun e t h' hc => ?_)
  · have e2 := sm_X10_mass (h := h') (am := am) (x1 := x1) (x2 := x2) (x3 := x3) (μ := μ) (ν := ν)
    rw [hk] at e2
    exact e2
  · by_cases g0 : e = 2
    · subst g0
      have hc2 : some (1 : Int32) = some t := hc
      cases hc2
      rfl
    by_cases g1 : e = 0
    · subst g1
      have hc2 : some (2 : Int32) = some t := hc
      cases hc2
      rfl
    unfold cd_mass at hc
    rw [if_neg g0, if_neg g1] at hc
    cases hc
theorem cw_22 (S : S0 ad iv lv t0 base am ao an κ νc μ ν h n) (R : RR lv κ νc μ ν H nS nB nK) (V : LV lv nS) (hH9 : H + 20000 ≤ 100000000) (x1 x2 x3 x4 : Int32) : w_22 t0 base am ao an x1 x2 x3 x4 h n (Jx t0 base am ao an (H + 20000)) := ct_22 S R V hH9 x1 x2 x3 x4
theorem ct_23 (S : S0 ad iv lv t0 base am ao an κ νc μ ν h n) (R : RR lv κ νc μ ν H nS nB nK) (V : LV lv nS) (hH9 : H + 20000 ≤ 100000000) (x1 x2 x3 x4 : Int32) : Ww (Lw h base ao n (f_X9_sinks base x1 x2 x3 h) (fun k h' => (if k = 2 then some ((1 : Int32), h', n) else (if k = 3 then some ((2 : Int32), h', n) else none)))) (fun h' => f_X10_sinks am x1 x2 x3 h') am ao (Jx t0 base am ao an (H + 20000)) := by
  have e := sc_X9_sinks S.1 S.2.1 (h := h) (t0 := t0) (a0 := 0) (x1 := x1) (x2 := x2) (x3 := x3) (κ := κ) (ν := νc)
  rw [S0_hc S, S.2.2.2.2.2.2.2.2.1] at e
  refine wrap1 S R.1.1 V (op_sinks (RR_up (H' := H + 20000) (by omega) hH9 R) x1 x2 x3) e (fun h' hk => ?_) (fun e t h' hc => ?_)
  · have e2 := sm_X10_sinks (h := h') (am := am) (x1 := x1) (x2 := x2) (x3 := x3) (μ := μ) (ν := ν)
    rw [hk] at e2
    exact e2
  · by_cases g0 : e = 2
    · subst g0
      have hc2 : some (1 : Int32) = some t := hc
      cases hc2
      rfl
    by_cases g1 : e = 3
    · subst g1
      have hc2 : some (2 : Int32) = some t := hc
      cases hc2
      rfl
    unfold cd_sinks at hc
    rw [if_neg g0, if_neg g1] at hc
    cases hc
theorem cw_23 (S : S0 ad iv lv t0 base am ao an κ νc μ ν h n) (R : RR lv κ νc μ ν H nS nB nK) (V : LV lv nS) (hH9 : H + 20000 ≤ 100000000) (x1 x2 x3 x4 : Int32) : w_23 t0 base am ao an x1 x2 x3 x4 h n (Jx t0 base am ao an (H + 20000)) := ct_23 S R V hH9 x1 x2 x3 x4
theorem ct_24 (S : S0 ad iv lv t0 base am ao an κ νc μ ν h n) (R : RR lv κ νc μ ν H nS nB nK) (V : LV lv nS) (hH9 : H + 20000 ≤ 100000000) (x1 x2 x3 x4 : Int32) : Ww (Lw h base ao n (f_X9_pressure base x1 x2 x3 h) (fun k h' => (if k = 2 then some ((1 : Int32), h', n) else (if k = 3 then some ((2 : Int32), h', n) else none)))) (fun h' => f_X10_pressure am x1 x2 x3 h') am ao (Jx t0 base am ao an (H + 20000)) := by
  have e := sc_X9_pressure S.1 S.2.1 (h := h) (t0 := t0) (a0 := 0) (x1 := x1) (x2 := x2) (x3 := x3) (κ := κ) (ν := νc)
  rw [S0_hc S, S.2.2.2.2.2.2.2.2.1] at e
  refine wrap1 S R.1.1 V (op_pressure (RR_up (H' := H + 20000) (by omega) hH9 R) x1 x2 x3) e (fun h' hk => ?_) (fun e t h' hc => ?_)
  · have e2 := sm_X10_pressure (h := h') (am := am) (x1 := x1) (x2 := x2) (x3 := x3) (μ := μ) (ν := ν)
    rw [hk] at e2
    exact e2
  · by_cases g0 : e = 2
    · subst g0
      have hc2 : some (1 : Int32) = some t := hc
      cases hc2
      rfl
    by_cases g1 : e = 3
    · subst g1
      have hc2 : some (2 : Int32) = some t := hc
      cases hc2
      rfl
    unfold cd_pressure at hc
    rw [if_neg g0, if_neg g1] at hc
    cases hc
theorem cw_24 (S : S0 ad iv lv t0 base am ao an κ νc μ ν h n) (R : RR lv κ νc μ ν H nS nB nK) (V : LV lv nS) (hH9 : H + 20000 ≤ 100000000) (x1 x2 x3 x4 : Int32) : w_24 t0 base am ao an x1 x2 x3 x4 h n (Jx t0 base am ao an (H + 20000)) := ct_24 S R V hH9 x1 x2 x3 x4
theorem ct_25 (S : S0 ad iv lv t0 base am ao an κ νc μ ν h n) (R : RR lv κ νc μ ν H nS nB nK) (V : LV lv nS) (hH9 : H + 20000 ≤ 100000000) (x1 x2 x3 x4 : Int32) : Ww (Lw h base ao n (f_X9_comfort base x1 x2 h) (fun k h' => (if k = 2 then some ((1 : Int32), h', n) else (if k = 3 then some ((2 : Int32), h', n) else none)))) (fun h' => f_X10_comfort am x1 x2 h') am ao (Jx t0 base am ao an (H + 20000)) := by
  have e := sc_X9_comfort S.1 S.2.1 (h := h) (t0 := t0) (a0 := 0) (x1 := x1) (x2 := x2) (κ := κ) (ν := νc)
  rw [S0_hc S, S.2.2.2.2.2.2.2.2.1] at e
  refine wrap1 S R.1.1 V (op_comfort (RR_up (H' := H + 20000) (by omega) hH9 R) x1 x2) e (fun h' hk => ?_) (fun e t h' hc => ?_)
  · have e2 := sm_X10_comfort (h := h') (am := am) (x1 := x1) (x2 := x2) (μ := μ) (ν := ν)
    rw [hk] at e2
    exact e2
  · by_cases g0 : e = 2
    · subst g0
      have hc2 : some (1 : Int32) = some t := hc
      cases hc2
      rfl
    by_cases g1 : e = 3
    · subst g1
      have hc2 : some (2 : Int32) = some t := hc
      cases hc2
      rfl
    unfold cd_comfort at hc
    rw [if_neg g0, if_neg g1] at hc
    cases hc
theorem cw_25 (S : S0 ad iv lv t0 base am ao an κ νc μ ν h n) (R : RR lv κ νc μ ν H nS nB nK) (V : LV lv nS) (hH9 : H + 20000 ≤ 100000000) (x1 x2 x3 x4 : Int32) : w_25 t0 base am ao an x1 x2 x3 x4 h n (Jx t0 base am ao an (H + 20000)) := ct_25 S R V hH9 x1 x2 x3 x4
theorem ct_26 (S : S0 ad iv lv t0 base am ao an κ νc μ ν h n) (R : RR lv κ νc μ ν H nS nB nK) (V : LV lv nS) (hH9 : H + 20000 ≤ 100000000) (x1 x2 x3 x4 : Int32) : Ww (Lw h base ao n (f_X9_fit base x1 x2 x3 h) (fun k h' => (if k = 2 then some ((1 : Int32), h', n) else (if k = 3 then some ((2 : Int32), h', n) else none)))) (fun h' => f_X10_fit am x1 x2 x3 h') am ao (Jx t0 base am ao an (H + 20000)) := by
  have e := sc_X9_fit S.1 S.2.1 (h := h) (t0 := t0) (a0 := 0) (x1 := x1) (x2 := x2) (x3 := x3) (κ := κ) (ν := νc)
  rw [S0_hc S, S.2.2.2.2.2.2.2.2.1] at e
  refine wrap1 S R.1.1 V (op_fit (RR_up (H' := H + 20000) (by omega) hH9 R) x1 x2 x3) e (fun h' hk => ?_) (fun e t h' hc => ?_)
  · have e2 := sm_X10_fit (h := h') (am := am) (x1 := x1) (x2 := x2) (x3 := x3) (μ := μ) (ν := ν)
    rw [hk] at e2
    exact e2
  · by_cases g0 : e = 2
    · subst g0
      have hc2 : some (1 : Int32) = some t := hc
      cases hc2
      rfl
    by_cases g1 : e = 3
    · subst g1
      have hc2 : some (2 : Int32) = some t := hc
      cases hc2
      rfl
    unfold cd_fit at hc
    rw [if_neg g0, if_neg g1] at hc
    cases hc
theorem cw_26 (S : S0 ad iv lv t0 base am ao an κ νc μ ν h n) (R : RR lv κ νc μ ν H nS nB nK) (V : LV lv nS) (hH9 : H + 20000 ≤ 100000000) (x1 x2 x3 x4 : Int32) : w_26 t0 base am ao an x1 x2 x3 x4 h n (Jx t0 base am ao an (H + 20000)) := ct_26 S R V hH9 x1 x2 x3 x4
theorem ct_28 (S : S0 ad iv lv t0 base am ao an κ νc μ ν h n) (R : RR lv κ νc μ ν H nS nB nK) (V : LV lv nS) (hH9 : H + 20000 ≤ 100000000) (x1 x2 x3 x4 : Int32) : Ww (Lw h base ao n (f_X9_flaw base x1 x2 h) (fun k h' => (if k = 2 then some ((1 : Int32), h', n) else (if k = 3 then some ((2 : Int32), h', n) else (if k = 1 then some ((3 : Int32), h', n) else none))))) (fun h' => f_X10_flaw am x1 x2 h') am ao (Jx t0 base am ao an (H + 20000)) := by
  have e := sc_X9_flaw S.1 S.2.1 (h := h) (t0 := t0) (a0 := 0) (x1 := x1) (x2 := x2) (κ := κ) (ν := νc)
  rw [S0_hc S, S.2.2.2.2.2.2.2.2.1] at e
  refine wrap1 S R.1.1 V (op_flaw (RR_up (H' := H + 20000) (by omega) hH9 R) x1 x2) e (fun h' hk => ?_) (fun e t h' hc => ?_)
  · have e2 := sm_X10_flaw (h := h') (am := am) (x1 := x1) (x2 := x2) (μ := μ) (ν := ν)
    rw [hk] at e2
    exact e2
  · by_cases g0 : e = 2
    · subst g0
      have hc2 : some (1 : Int32) = some t := hc
      cases hc2
      rfl
    by_cases g1 : e = 3
    · subst g1
      have hc2 : some (2 : Int32) = some t := hc
      cases hc2
      rfl
    by_cases g2 : e = 1
    · subst g2
      have hc2 : some (3 : Int32) = some t := hc
      cases hc2
      rfl
    unfold cd_flaw at hc
    rw [if_neg g0, if_neg g1, if_neg g2] at hc
    cases hc
theorem cw_28 (S : S0 ad iv lv t0 base am ao an κ νc μ ν h n) (R : RR lv κ νc μ ν H nS nB nK) (V : LV lv nS) (hH9 : H + 20000 ≤ 100000000) (x1 x2 x3 x4 : Int32) : w_28 t0 base am ao an x1 x2 x3 x4 h n (Jx t0 base am ao an (H + 20000)) := ct_28 S R V hH9 x1 x2 x3 x4
theorem ct_29 (S : S0 ad iv lv t0 base am ao an κ νc μ ν h n) (R : RR lv κ νc μ ν H nS nB nK) (V : LV lv nS) (hH9 : H + 20000 ≤ 100000000) (x1 x2 x3 x4 : Int32) : Ww (L0 h base ao n (f_X9_left base x1 h) (fun k => (if k = 2 then some ((1 : Int32), h, n) else none))) (fun h' => f_X10_left am x1 h') am ao (Jx t0 base am ao an (H + 20000)) := by
  have e := sc_X9_left S.1 S.2.1 (h := h) (t0 := t0) (a0 := 0) (x1 := x1) (κ := κ) (ν := νc)
  rw [S0_hc S, S.2.2.2.2.2.2.2.2.1] at e
  refine wrap0 S R.1.1 V (op_left (RR_up (H' := H + 20000) (by omega) hH9 R) x1) e (fun h' hk => ?_) (fun e t hc => ?_)
  · have e2 := sm_X10_left (h := h') (am := am) (x1 := x1) (μ := μ) (ν := ν)
    rw [hk] at e2
    exact e2
  · by_cases g0 : e = 2
    · subst g0
      have hc2 : some (1 : Int32) = some t := hc
      cases hc2
      rfl
    unfold cd_left at hc
    rw [if_neg g0] at hc
    cases hc
theorem cw_29 (S : S0 ad iv lv t0 base am ao an κ νc μ ν h n) (R : RR lv κ νc μ ν H nS nB nK) (V : LV lv nS) (hH9 : H + 20000 ≤ 100000000) (x1 x2 x3 x4 : Int32) : w_29 t0 base am ao an x1 x2 x3 x4 h n (Jx t0 base am ao an (H + 20000)) := ct_29 S R V hH9 x1 x2 x3 x4
theorem ct_30 (S : S0 ad iv lv t0 base am ao an κ νc μ ν h n) (R : RR lv κ νc μ ν H nS nB nK) (V : LV lv nS) (hH9 : H + 20000 ≤ 100000000) (x1 x2 x3 x4 : Int32) : Ww (L0 h base ao n (f_X9_panel base x1 x2 h) (fun k => (if k = 2 then some ((1 : Int32), h, n) else (if k = 4 then some ((2 : Int32), h, n) else none)))) (fun h' => f_X10_panel am x1 x2 h') am ao (Jx t0 base am ao an (H + 20000)) := by
  have e := sc_X9_panel S.1 S.2.1 (h := h) (t0 := t0) (a0 := 0) (x1 := x1) (x2 := x2) (κ := κ) (ν := νc)
  rw [S0_hc S, S.2.2.2.2.2.2.2.2.1] at e
  refine wrap0 S R.1.1 V (op_panel (RR_up (H' := H + 20000) (by omega) hH9 R) x1 x2) e (fun h' hk => ?_) (fun e t hc => ?_)
  · have e2 := sm_X10_panel (h := h') (am := am) (x1 := x1) (x2 := x2) (μ := μ) (ν := ν)
    rw [hk] at e2
    exact e2
  · by_cases g0 : e = 2
    · subst g0
      have hc2 : some (1 : Int32) = some t := hc
      cases hc2
      rfl
    by_cases g1 : e = 4
    · subst g1
      have hc2 : some (2 : Int32) = some t := hc
      cases hc2
      rfl
    unfold cd_panel at hc
    rw [if_neg g0, if_neg g1] at hc
    cases hc
theorem cw_30 (S : S0 ad iv lv t0 base am ao an κ νc μ ν h n) (R : RR lv κ νc μ ν H nS nB nK) (V : LV lv nS) (hH9 : H + 20000 ≤ 100000000) (x1 x2 x3 x4 : Int32) : w_30 t0 base am ao an x1 x2 x3 x4 h n (Jx t0 base am ao an (H + 20000)) := ct_30 S R V hH9 x1 x2 x3 x4
theorem ct_31 (S : S0 ad iv lv t0 base am ao an κ νc μ ν h n) (R : RR lv κ νc μ ν H nS nB nK) (V : LV lv nS) (hH9 : H + 20000 ≤ 100000000) (x1 x2 x3 x4 : Int32) : Ww (Lw h base ao n (f_X9_use base x1 x2 h) (fun k h' => (if k = 2 then some ((1 : Int32), h', n) else (if k = 0 then some ((2 : Int32), h', n) else (if k = 3 then some ((3 : Int32), h', n) else none))))) (fun h' => f_X10_use am x1 x2 h') am ao (Jx t0 base am ao an (H + 20000)) := by
  have e := sc_X9_use S.1 S.2.1 (h := h) (t0 := t0) (a0 := 0) (x1 := x1) (x2 := x2) (κ := κ) (ν := νc)
  rw [S0_hc S, S.2.2.2.2.2.2.2.2.1] at e
  refine wrap1 S R.1.1 V (op_use R hH9 x1 x2) e (fun h' hk => ?_) (fun e t h' hc => ?_)
  · have e2 := sm_X10_use (h := h') (am := am) (x1 := x1) (x2 := x2) (μ := μ) (ν := ν)
    rw [hk] at e2
    exact e2
  · by_cases g0 : e = 2
    · subst g0
      have hc2 : some (1 : Int32) = some t := hc
      cases hc2
      rfl
    by_cases g1 : e = 0
    · subst g1
      have hc2 : some (2 : Int32) = some t := hc
      cases hc2
      rfl
    by_cases g2 : e = 3
    · subst g2
      have hc2 : some (3 : Int32) = some t := hc
      cases hc2
      rfl
    unfold cd_use at hc
    rw [if_neg g0, if_neg g1, if_neg g2] at hc
    cases hc
theorem cw_31 (S : S0 ad iv lv t0 base am ao an κ νc μ ν h n) (R : RR lv κ νc μ ν H nS nB nK) (V : LV lv nS) (hH9 : H + 20000 ≤ 100000000) (x1 x2 x3 x4 : Int32) : w_31 t0 base am ao an x1 x2 x3 x4 h n (Jx t0 base am ao an (H + 20000)) := ct_31 S R V hH9 x1 x2 x3 x4
theorem ct_32 (S : S0 ad iv lv t0 base am ao an κ νc μ ν h n) (R : RR lv κ νc μ ν H nS nB nK) (V : LV lv nS) (hH9 : H + 20000 ≤ 100000000) (x1 x2 x3 x4 : Int32) : Ww (Lw h base ao n (f_X9_pound base x1 x2 h) (fun k h' => (if k = 2 then some ((1 : Int32), h', n) else (if k = 0 then some ((2 : Int32), h', n) else (if k = 3 then some ((3 : Int32), h', n) else none))))) (fun h' => f_X10_pound am x1 x2 h') am ao (Jx t0 base am ao an (H + 20000)) := by
  have e := sc_X9_pound S.1 S.2.1 (h := h) (t0 := t0) (a0 := 0) (x1 := x1) (x2 := x2) (κ := κ) (ν := νc)
  rw [S0_hc S, S.2.2.2.2.2.2.2.2.1] at e
  refine wrap1 S R.1.1 V (op_pound R hH9 x1 x2) e (fun h' hk => ?_) (fun e t h' hc => ?_)
  · have e2 := sm_X10_pound (h := h') (am := am) (x1 := x1) (x2 := x2) (μ := μ) (ν := ν)
    rw [hk] at e2
    exact e2
  · by_cases g0 : e = 2
    · subst g0
      have hc2 : some (1 : Int32) = some t := hc
      cases hc2
      rfl
    by_cases g1 : e = 0
    · subst g1
      have hc2 : some (2 : Int32) = some t := hc
      cases hc2
      rfl
    by_cases g2 : e = 3
    · subst g2
      have hc2 : some (3 : Int32) = some t := hc
      cases hc2
      rfl
    unfold cd_pound at hc
    rw [if_neg g0, if_neg g1, if_neg g2] at hc
    cases hc
theorem cw_32 (S : S0 ad iv lv t0 base am ao an κ νc μ ν h n) (R : RR lv κ νc μ ν H nS nB nK) (V : LV lv nS) (hH9 : H + 20000 ≤ 100000000) (x1 x2 x3 x4 : Int32) : w_32 t0 base am ao an x1 x2 x3 x4 h n (Jx t0 base am ao an (H + 20000)) := ct_32 S R V hH9 x1 x2 x3 x4
theorem ct_33 (S : S0 ad iv lv t0 base am ao an κ νc μ ν h n) (R : RR lv κ νc μ ν H nS nB nK) (V : LV lv nS) (hH9 : H + 20000 ≤ 100000000) (x1 x2 x3 x4 : Int32) : Ww (L0 h base ao n (f_X9_hours base x1 h) (fun k => (if k = 2 then some ((1 : Int32), h, n) else (if k = 3 then some ((2 : Int32), h, n) else none)))) (fun h' => f_X10_hours am x1 h') am ao (Jx t0 base am ao an (H + 20000)) := by
  have e := sc_X9_hours S.1 S.2.1 (h := h) (t0 := t0) (a0 := 0) (x1 := x1) (κ := κ) (ν := νc)
  rw [S0_hc S, S.2.2.2.2.2.2.2.2.1] at e
  refine wrap0 S R.1.1 V (op_hours (RR_up (H' := H + 20000) (by omega) hH9 R) x1) e (fun h' hk => ?_) (fun e t hc => ?_)
  · have e2 := sm_X10_hours (h := h') (am := am) (x1 := x1) (μ := μ) (ν := ν)
    rw [hk] at e2
    exact e2
  · by_cases g0 : e = 2
    · subst g0
      have hc2 : some (1 : Int32) = some t := hc
      cases hc2
      rfl
    by_cases g1 : e = 3
    · subst g1
      have hc2 : some (2 : Int32) = some t := hc
      cases hc2
      rfl
    unfold cd_hours at hc
    rw [if_neg g0, if_neg g1] at hc
    cases hc
theorem cw_33 (S : S0 ad iv lv t0 base am ao an κ νc μ ν h n) (R : RR lv κ νc μ ν H nS nB nK) (V : LV lv nS) (hH9 : H + 20000 ≤ 100000000) (x1 x2 x3 x4 : Int32) : w_33 t0 base am ao an x1 x2 x3 x4 h n (Jx t0 base am ao an (H + 20000)) := ct_33 S R V hH9 x1 x2 x3 x4
theorem ct_34 (S : S0 ad iv lv t0 base am ao an κ νc μ ν h n) (R : RR lv κ νc μ ν H nS nB nK) (V : LV lv nS) (hH9 : H + 20000 ≤ 100000000) (x1 x2 x3 x4 : Int32) : Ww (Lw h base ao n (f_X9_land base x1 (((x2).toUInt32 % 65536).toInt32) x3 h) (fun k h' => (if k = 2 then some ((1 : Int32), h', n) else (if k = 0 then some ((2 : Int32), h', n) else none)))) (fun h' => f_X10_land am x1 (((x2).toUInt32 % 65536).toInt32) x3 h') am ao (Jx t0 base am ao an (H + 20000)) := by
  have e := sc_X9_land S.1 S.2.1 (h := h) (t0 := t0) (a0 := 0) (x1 := x1) (x2 := (((x2).toUInt32 % 65536).toInt32)) (x3 := x3) (κ := κ) (ν := νc)
  rw [S0_hc S, S.2.2.2.2.2.2.2.2.1] at e
  refine wrap1 S R.1.1 V (op_land (RR_up (H' := H + 20000) (by omega) hH9 R) x1 (((x2).toUInt32 % 65536).toInt32) x3) e (fun h' hk => ?_) (fun e t h' hc => ?_)
  · have e2 := sm_X10_land (h := h') (am := am) (x1 := x1) (x2 := (((x2).toUInt32 % 65536).toInt32)) (x3 := x3) (μ := μ) (ν := ν)
    rw [hk] at e2
    exact e2
  · by_cases g0 : e = 2
    · subst g0
      have hc2 : some (1 : Int32) = some t := hc
      cases hc2
      rfl
    by_cases g1 : e = 0
    · subst g1
      have hc2 : some (2 : Int32) = some t := hc
      cases hc2
      rfl
    unfold cd_land at hc
    rw [if_neg g0, if_neg g1] at hc
    cases hc
theorem cw_34 (S : S0 ad iv lv t0 base am ao an κ νc μ ν h n) (R : RR lv κ νc μ ν H nS nB nK) (V : LV lv nS) (hH9 : H + 20000 ≤ 100000000) (x1 x2 x3 x4 : Int32) : w_34 t0 base am ao an x1 x2 x3 x4 h n (Jx t0 base am ao an (H + 20000)) := ct_34 S R V hH9 x1 x2 x3 x4
theorem ct_35 (S : S0 ad iv lv t0 base am ao an κ νc μ ν h n) (R : RR lv κ νc μ ν H nS nB nK) (V : LV lv nS) (hH9 : H + 20000 ≤ 100000000) (x1 x2 x3 x4 : Int32) : Wb (Lb h base ao n (f_X9_burns base x1 x2 h) (fun k => (if k = 2 then some ((1 : Int32), h, n) else none))) (fun h' => f_X10_burns am x1 x2 h') am ao (Jx t0 base am ao an (H + 20000)) := by
  have e := sc_X9_burns S.1 S.2.1 (h := h) (t0 := t0) (a0 := 0) (x1 := x1) (x2 := x2) (κ := κ) (ν := νc)
  rw [S0_hc S, S.2.2.2.2.2.2.2.2.1] at e
  refine wrapb S R.1.1 V (op_burns (RR_up (H' := H + 20000) (by omega) hH9 R) x1 x2) e (fun h' hk => ?_) (fun e t hc => ?_)
  · have e2 := sm_X10_burns (h := h') (am := am) (x1 := x1) (x2 := x2) (μ := μ) (ν := ν)
    rw [hk] at e2
    exact e2
  · by_cases g0 : e = 2
    · subst g0
      have hc2 : some (1 : Int32) = some t := hc
      cases hc2
      rfl
    unfold cd_burns at hc
    rw [if_neg g0] at hc
    cases hc
theorem cw_35 (S : S0 ad iv lv t0 base am ao an κ νc μ ν h n) (R : RR lv κ νc μ ν H nS nB nK) (V : LV lv nS) (hH9 : H + 20000 ≤ 100000000) (x1 x2 x3 x4 : Int32) : w_35 t0 base am ao an x1 x2 x3 x4 h n (Jx t0 base am ao an (H + 20000)) := ct_35 S R V hH9 x1 x2 x3 x4
theorem ct_36 (S : S0 ad iv lv t0 base am ao an κ νc μ ν h n) (R : RR lv κ νc μ ν H nS nB nK) (V : LV lv nS) (hH9 : H + 20000 ≤ 100000000) (x1 x2 x3 x4 : Int32) : Ww (Lw h base ao n (f_X9_tack base x1 x2 x3 h) (fun k h' => (if k = 2 then some ((1 : Int32), h', n) else (if k = 4 then some ((2 : Int32), h', n) else (if k = 0 then some ((3 : Int32), h', n) else none))))) (fun h' => f_X10_tack am x1 x2 x3 h') am ao (Jx t0 base am ao an (H + 20000)) := by
  have e := sc_X9_tack S.1 S.2.1 (h := h) (t0 := t0) (a0 := 0) (x1 := x1) (x2 := x2) (x3 := x3) (κ := κ) (ν := νc)
  rw [S0_hc S, S.2.2.2.2.2.2.2.2.1] at e
  refine wrap1 S R.1.1 V (op_tack (RR_up (H' := H + 20000) (by omega) hH9 R) x1 x2 x3) e (fun h' hk => ?_) (fun e t h' hc => ?_)
  · have e2 := sm_X10_tack (h := h') (am := am) (x1 := x1) (x2 := x2) (x3 := x3) (μ := μ) (ν := ν)
    rw [hk] at e2
    exact e2
  · by_cases g0 : e = 2
    · subst g0
      have hc2 : some (1 : Int32) = some t := hc
      cases hc2
      rfl
    by_cases g1 : e = 4
    · subst g1
      have hc2 : some (2 : Int32) = some t := hc
      cases hc2
      rfl
    by_cases g2 : e = 0
    · subst g2
      have hc2 : some (3 : Int32) = some t := hc
      cases hc2
      rfl
    unfold cd_tack at hc
    rw [if_neg g0, if_neg g1, if_neg g2] at hc
    cases hc
theorem cw_36 (S : S0 ad iv lv t0 base am ao an κ νc μ ν h n) (R : RR lv κ νc μ ν H nS nB nK) (V : LV lv nS) (hH9 : H + 20000 ≤ 100000000) (x1 x2 x3 x4 : Int32) : w_36 t0 base am ao an x1 x2 x3 x4 h n (Jx t0 base am ao an (H + 20000)) := ct_36 S R V hH9 x1 x2 x3 x4
theorem ct_37 (S : S0 ad iv lv t0 base am ao an κ νc μ ν h n) (R : RR lv κ νc μ ν H nS nB nK) (V : LV lv nS) (hH9 : H + 20000 ≤ 100000000) (x1 x2 x3 x4 : Int32) : Ww (L0 h base ao n (f_X9_quarrels base x1 h) (fun k => (if k = 2 then some ((1 : Int32), h, n) else none))) (fun h' => f_X10_quarrels am x1 h') am ao (Jx t0 base am ao an (H + 20000)) := by
  have e := sc_X9_quarrels S.1 S.2.1 (h := h) (t0 := t0) (a0 := 0) (x1 := x1) (κ := κ) (ν := νc)
  rw [S0_hc S, S.2.2.2.2.2.2.2.2.1] at e
  refine wrap0 S R.1.1 V (op_quarrels (RR_up (H' := H + 20000) (by omega) hH9 R) x1) e (fun h' hk => ?_) (fun e t hc => ?_)
  · have e2 := sm_X10_quarrels (h := h') (am := am) (x1 := x1) (μ := μ) (ν := ν)
    rw [hk] at e2
    exact e2
  · by_cases g0 : e = 2
    · subst g0
      have hc2 : some (1 : Int32) = some t := hc
      cases hc2
      rfl
    unfold cd_quarrels at hc
    rw [if_neg g0] at hc
    cases hc
theorem cw_37 (S : S0 ad iv lv t0 base am ao an κ νc μ ν h n) (R : RR lv κ νc μ ν H nS nB nK) (V : LV lv nS) (hH9 : H + 20000 ≤ 100000000) (x1 x2 x3 x4 : Int32) : w_37 t0 base am ao an x1 x2 x3 x4 h n (Jx t0 base am ao an (H + 20000)) := ct_37 S R V hH9 x1 x2 x3 x4
theorem ct_38 (S : S0 ad iv lv t0 base am ao an κ νc μ ν h n) (R : RR lv κ νc μ ν H nS nB nK) (V : LV lv nS) (hH9 : H + 20000 ≤ 100000000) (x1 x2 x3 x4 : Int32) : Ww (Lw h base ao n (f_X9_promise base x1 x2 h) (fun k h' => (if k = 2 then some ((1 : Int32), h', n) else (if k = 0 then some ((2 : Int32), h', n) else none)))) (fun h' => f_X10_promise am x1 x2 h') am ao (Jx t0 base am ao an (H + 20000)) := by
  have e := sc_X9_promise S.1 S.2.1 (h := h) (t0 := t0) (a0 := 0) (x1 := x1) (x2 := x2) (κ := κ) (ν := νc)
  rw [S0_hc S, S.2.2.2.2.2.2.2.2.1] at e
  refine wrap1 S R.1.1 V (op_promise (RR_up (H' := H + 20000) (by omega) hH9 R) x1 x2) e (fun h' hk => ?_) (fun e t h' hc => ?_)
  · have e2 := sm_X10_promise (h := h') (am := am) (x1 := x1) (x2 := x2) (μ := μ) (ν := ν)
    rw [hk] at e2
    exact e2
  · by_cases g0 : e = 2
    · subst g0
      have hc2 : some (1 : Int32) = some t := hc
      cases hc2
      rfl
    by_cases g1 : e = 0
    · subst g1
      have hc2 : some (2 : Int32) = some t := hc
      cases hc2
      rfl
    unfold cd_promise at hc
    rw [if_neg g0, if_neg g1] at hc
    cases hc
theorem cw_38 (S : S0 ad iv lv t0 base am ao an κ νc μ ν h n) (R : RR lv κ νc μ ν H nS nB nK) (V : LV lv nS) (hH9 : H + 20000 ≤ 100000000) (x1 x2 x3 x4 : Int32) : w_38 t0 base am ao an x1 x2 x3 x4 h n (Jx t0 base am ao an (H + 20000)) := ct_38 S R V hH9 x1 x2 x3 x4
theorem ct_39 (S : S0 ad iv lv t0 base am ao an κ νc μ ν h n) (R : RR lv κ νc μ ν H nS nB nK) (V : LV lv nS) (hH9 : H + 20000 ≤ 100000000) (x1 x2 x3 x4 : Int32) : Wb (Lb h base ao n (f_X9_holds base x1 h) (fun k => (if k = 2 then some ((1 : Int32), h, n) else (if k = 3 then some ((2 : Int32), h, n) else none)))) (fun h' => f_X10_holds am x1 h') am ao (Jx t0 base am ao an (H + 20000)) := by
  have e := sc_X9_holds S.1 S.2.1 (h := h) (t0 := t0) (a0 := 0) (x1 := x1) (κ := κ) (ν := νc)
  rw [S0_hc S, S.2.2.2.2.2.2.2.2.1] at e
  refine wrapb S R.1.1 V (op_holds (RR_up (H' := H + 20000) (by omega) hH9 R) x1) e (fun h' hk => ?_) (fun e t hc => ?_)
  · have e2 := sm_X10_holds (h := h') (am := am) (x1 := x1) (μ := μ) (ν := ν)
    rw [hk] at e2
    exact e2
  · by_cases g0 : e = 2
    · subst g0
      have hc2 : some (1 : Int32) = some t := hc
      cases hc2
      rfl
    by_cases g1 : e = 3
    · subst g1
      have hc2 : some (2 : Int32) = some t := hc
      cases hc2
      rfl
    unfold cd_holds at hc
    rw [if_neg g0, if_neg g1] at hc
    cases hc
theorem cw_39 (S : S0 ad iv lv t0 base am ao an κ νc μ ν h n) (R : RR lv κ νc μ ν H nS nB nK) (V : LV lv nS) (hH9 : H + 20000 ≤ 100000000) (x1 x2 x3 x4 : Int32) : w_39 t0 base am ao an x1 x2 x3 x4 h n (Jx t0 base am ao an (H + 20000)) := ct_39 S R V hH9 x1 x2 x3 x4
theorem ct_40 (S : S0 ad iv lv t0 base am ao an κ νc μ ν h n) (R : RR lv κ νc μ ν H nS nB nK) (V : LV lv nS) (hH9 : H + 20000 ≤ 100000000) (x1 x2 x3 x4 : Int32) : Ww (L0 h base ao n (f_X9_quote base x1 h) (fun k => (if k = 2 then some ((1 : Int32), h, n) else none))) (fun h' => f_X10_quote am x1 h') am ao (Jx t0 base am ao an (H + 20000)) := by
  have e := sc_X9_quote S.1 S.2.1 (h := h) (t0 := t0) (a0 := 0) (x1 := x1) (κ := κ) (ν := νc)
  rw [S0_hc S, S.2.2.2.2.2.2.2.2.1] at e
  refine wrap0 S R.1.1 V (op_quote (RR_up (H' := H + 20000) (by omega) hH9 R) x1) e (fun h' hk => ?_) (fun e t hc => ?_)
  · have e2 := sm_X10_quote (h := h') (am := am) (x1 := x1) (μ := μ) (ν := ν)
    rw [hk] at e2
    exact e2
  · by_cases g0 : e = 2
    · subst g0
      have hc2 : some (1 : Int32) = some t := hc
      cases hc2
      rfl
    unfold cd_quote at hc
    rw [if_neg g0] at hc
    cases hc
theorem cw_40 (S : S0 ad iv lv t0 base am ao an κ νc μ ν h n) (R : RR lv κ νc μ ν H nS nB nK) (V : LV lv nS) (hH9 : H + 20000 ≤ 100000000) (x1 x2 x3 x4 : Int32) : w_40 t0 base am ao an x1 x2 x3 x4 h n (Jx t0 base am ao an (H + 20000)) := ct_40 S R V hH9 x1 x2 x3 x4
end ZXB
