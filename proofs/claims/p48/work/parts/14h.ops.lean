section ZRH
variable {lv : Nat → Bool} {κ κ' : zzM} {νc νc' : zzN} {μ μ' : zzM} {ν ν' : zzN} {H H' : Int} {nS nB nK : Nat}
theorem n_le1 {s : Nat} (hB : Bd μ s) : (μ 3 s ≤ 1) = (nD μ s ≤ 1) := by
  have h := hB.2.2.2.1
  rw [h.1]
  exact on_le (nD μ s) 1 (by omega) (by decide)
theorem n_le0 {s : Nat} (hB : Bd μ s) : (μ 3 s ≤ 0) = (nD μ s ≤ 0) := by
  have h := hB.2.2.2.1
  rw [h.1]
  exact on_le (nD μ s) 0 (by omega) (by decide)
theorem tell {s b G : Nat} (R : RR lv κ νc μ ν H nS nB nK) (hs : s < nS) (hb : b < nB) (hG : G = 5 ∨ G = 6) : ∃ κ', g_X7_tellSinking lv (100 * (s + 1)) (600 + b) G κ νc = some ((), κ', νc) ∧ (∀ o, o ≠ G + 1000 → κ' o = κ o) ∧ ∀ x y, x < nC μ s → y < nR μ s → (κ' (G + 1000) (10 * x + y)).toInt = zM (owI μ ν b s) (nC μ s) (nR μ s) x y := by
  have h4 := R.1.2.1
  have b3 := R.1.2.2.1
  have hH := R.1.2.2.2.2.1
  obtain ⟨A, hB, hF, hN, ⟨sg, hg⟩, ⟨t, b', c, hV, hz⟩, hX, hO, hM, hT, hD, hA, hL, hVb, hC, hP⟩ := R.2.2.1 s hs
  obtain ⟨Ab1, hRB⟩ := R.2.2.2.2.1 b hb
  have hGr : Ab lv G := by
    rcases hG with rfl | rfl
    · exact R.2.1.2.2.2.2.1
    · exact R.2.1.2.2.2.2.2
  exact ec_sinking A (by omega) hG hGr Ab1 (by omega) hB hF (RX_RH hB hX) hM hT hA hL hVb hH (fun q => (hV.2.2.2.1 (by rw [n_le1 hB] at q; omega)).2.2.2) hRB
theorem tell_v {s b G x y : Nat} (R : RR lv κ νc μ ν H nS nB nK) (hs : s < nS) (hb : b < nB) (hn : ¬ μ 3 s ≤ 1) (hx : x < nC μ s) (hy : y < nR μ s) {v : Int32} (hv : v.toInt = zM (owI μ ν b s) (nC μ s) (nR μ s) x y) : v = tSink μ ν b s x y ∧ 0 ≤ v.toInt ∧ v.toInt ≤ 400 := by
  obtain ⟨A, hB, hF, hN, -, -, hX, hO, hM, hT, hD, hA, hL, hVb, hC, hP⟩ := R.2.2.1 s hs
  exact sink_eq hB hVb R.1.2.2.2.2.1 (R.2.2.2.2.1 b hb).2.2 hn hx hy hv
theorem em_sink {s b x y : Nat} (R : RR lv κ νc μ ν H nS nB nK) (hs : s < nS) (hb : b < nB) (hn : ¬ μ 3 s ≤ 1) : g_X10_sinking (Int32.ofNat b) (Int32.ofNat s) (Int32.ofNat x) (Int32.ofNat y) μ ν = some (tSink μ ν b s x y) := by
  obtain ⟨A, hB, hF, hN, -, -, hX, hO, hM, hT, hD, hA, hL, hVb, hC, hP⟩ := R.2.2.1 s hs
  have b3 := R.1.2.2.1
  exact em_sinking (by omega) hB (Vb_Dn hVb R.1.2.2.2.2.1) (Vb_Fn hVb) (Vb_Fm hB hVb hn)
theorem ten_ne {v : Int32} (h : 0 ≤ v.toInt ∧ v.toInt ≤ 400) : (10 : Int32) + v ≠ 0 ∧ (10 : Int32) + v ≠ -1 := by
  have i10 : (10 : Int32).toInt = 10 := rfl
  have e : ((10 : Int32) + v).toInt = 10 + v.toInt := by
    rw [add_I] <;> rw [i10] <;> omega
  refine ⟨fun q => ?_, fun q => ?_⟩
  · rw [q, i0] at e; omega
  · rw [q] at e
    have h3 : (-1 : Int32).toInt = -1 := rfl
    omega
theorem em_press {s b x y : Nat} (R : RR lv κ νc μ ν H nS nB nK) (hs : s < nS) (hb : b < nB) (hn : ¬ μ 3 s ≤ 1) (hx : x < nC μ s) (hy : y < nR μ s) (h : 0 ≤ (tSink μ ν b s x y).toInt ∧ (tSink μ ν b s x y).toInt ≤ 400) : g_X10_pressing (Int32.ofNat b) (Int32.ofNat s) (Int32.ofNat x) (Int32.ofNat y) μ ν = some ((100 * μ (149 + 7 * b + x) y) / (10 + tSink μ ν b s x y)) := by
  obtain ⟨A, hB, hF, hN, -, -, hX, hO, hM, hT, hD, hA, hL, hVb, hC, hP⟩ := R.2.2.1 s hs
  have b3 := R.1.2.2.1
  exact em_pressing (by omega) hB (Vb_Dn hVb R.1.2.2.2.2.1) (Vb_Fn hVb) (Vb_Fm hB hVb hn) hx hy (ten_ne h).1
theorem ec_press {m v : Int32} (h : 0 ≤ v.toInt ∧ v.toInt ≤ 400) : g_X9_pressureOf lv m v κ νc = some ((100 * m) / (10 + v)) := by
  unfold g_X9_pressureOf
  rw [quo (ten_ne h).2, zb_s, if_neg (ten_ne h).1]
theorem op_sinks (R : RR lv κ νc μ ν H nS nB nK) (x1 x2 x3 : Int32) : Op1 lv H nS nB nK cd_sinks (g_X9_sinks lv 0 x1 x2 x3 κ νc) (g_X10_sinks x1 x2 x3 μ ν) := by
  have r0 := R.1.1
  have h30 := R.1.2.2.2.2.2.1
  have h31 := R.1.2.2.2.2.2.2.1
  have h4 := R.1.2.1
  have b3 := R.1.2.2.1
  unfold g_X9_sinks g_X10_sinks g_X10_sinks_18 g_X10_sinks_23 g_X10_sinks_44 g_X10_sinks_51 g_X10_sinks_69
  rcases ix_cases x1 nB (by omega) with h | ⟨b, hb, rfl⟩
  · exact Op1_e R (by rw [cg r0, ec_bodyOf1 R h, zth_r]) (by rw [em_noBody1 h31 (by omega) h, zb_s, if_neg (by decide), em_th1, zg1_s, if_neg (by decide)]) rfl (by decide)
  rw [cg r0, ec_bodyOf0 R hb, zth_l, cg r0, em_noBody0 h31 (by omega) hb, zb_s, if_pos rfl]
  rcases ix_cases x2 nS (by omega) with h | ⟨s, hs, rfl⟩
  · exact Op1_e R (by rw [ec_seatOf1 R h, zth_r]) (by rw [em_noCellS h30 h4 h, zb_s, if_neg (by decide), em_th1, zg1_s, if_neg (by decide)]) rfl (by decide)
  rw [ec_seatOf0 R hs, zth_l]
  rcases cell_c (x := x3) R hs with ⟨h, h2⟩ | ⟨x, y, hx, hy, rfl, hd, hm, hx0, h⟩
  · exact Op1_e R (by rw [h, zth_r]) (by rw [em_cell1 R hs h2, zb_s, if_neg (by decide), em_th1, zg1_s, if_neg (by decide)]) rfl (by decide)
  rw [h, zth_l, em_cell0 R hs hx hy hd hm hx0, zb_s, if_pos rfl, em_th0, zg1_s, if_pos rfl, hd, hm]
  have eC : nC (zset μ 0 33 0) s = nC μ s := rfl
  have eR : nR (zset μ 0 33 0) s = nR μ s := rfl
  rw [← eC] at hx
  rw [← eR] at hy
  have R1 := RR_t 0 R
  have z1 : zset μ 0 33 0 0 33 = 0 := zset_h
  generalize zset μ 0 33 0 = m1 at R1 z1 hx hy ⊢
  obtain ⟨A, hB, hF, hN, -⟩ := R1.2.2.1 s hs
  have hs4 : s < 4 := by omega
  have hc6 := hB.2.1.2.2
  have hr6 := hB.2.2.1.2.2
  rw [ec_needSp A hN, em_hasSprings hs4, zb_s]
  by_cases g : m1 3 s ≤ 1
  · exact Op1_e R1 (by rw [if_pos g, zth_r]) (by rw [if_pos g, if_pos rfl, em_th1, zg1_s, if_neg (by decide)]) rfl (by decide)
  obtain ⟨κ', e, hk, hv⟩ := tell (G := 5) R1 hs hb (Or.inl rfl)
  obtain ⟨e1, -, -⟩ := tell_v (G := 5) R1 hs hb g hx hy (hv x y hx hy)
  have A5 : Ab lv (0 + 5) := R1.2.1.2.2.2.2.1
  have e' : g_X7_tellSinking lv (100 * (s + 1)) (600 + b) (0 + 5) κ νc = some ((), κ', νc) := e
  refine Op1_v (RR_g (fun o h5 _ => hk o h5) R1) z1 (v := tSink m1 ν b s x y) ?_ ?_
  · rw [if_neg g, zth_l, cg r0, cg A.1, e', zg1_s, cg r0, cg A5.1, ec_at A5.1 A5.2, zb_s, gAt_i (by omega)]
    rw [← e1]
  · rw [if_neg g, if_neg (by decide), em_thz _ z1, zg1_s, if_pos rfl, zdv10, zdv10, em_sink R1 hs hb g, zb_s]
theorem op_pressure (R : RR lv κ νc μ ν H nS nB nK) (x1 x2 x3 : Int32) : Op1 lv H nS nB nK cd_pressure (g_X9_pressure lv 0 x1 x2 x3 κ νc) (g_X10_pressure x1 x2 x3 μ ν) := by
  have r0 := R.1.1
  have h30 := R.1.2.2.2.2.2.1
  have h31 := R.1.2.2.2.2.2.2.1
  have h4 := R.1.2.1
  have b3 := R.1.2.2.1
  unfold g_X9_pressure g_X10_pressure g_X10_pressure_18 g_X10_pressure_23 g_X10_pressure_44 g_X10_pressure_51 g_X10_pressure_69
  rcases ix_cases x1 nB (by omega) with h | ⟨b, hb, rfl⟩
  · exact Op1_e R (by rw [cg r0, ec_bodyOf1 R h, zth_r]) (by rw [em_noBody1 h31 (by omega) h, zb_s, if_neg (by decide), em_th1, zg1_s, if_neg (by decide)]) rfl (by decide)
  rw [cg r0, ec_bodyOf0 R hb, zth_l, cg r0, em_noBody0 h31 (by omega) hb, zb_s, if_pos rfl]
  rcases ix_cases x2 nS (by omega) with h | ⟨s, hs, rfl⟩
  · exact Op1_e R (by rw [ec_seatOf1 R h, zth_r]) (by rw [em_noCellS h30 h4 h, zb_s, if_neg (by decide), em_th1, zg1_s, if_neg (by decide)]) rfl (by decide)
  rw [ec_seatOf0 R hs, zth_l]
  rcases cell_c (x := x3) R hs with ⟨h, h2⟩ | ⟨x, y, hx, hy, rfl, hd, hm, hx0, h⟩
  · exact Op1_e R (by rw [h, zth_r]) (by rw [em_cell1 R hs h2, zb_s, if_neg (by decide), em_th1, zg1_s, if_neg (by decide)]) rfl (by decide)
  rw [h, zth_l, em_cell0 R hs hx hy hd hm hx0, zb_s, if_pos rfl, em_th0, zg1_s, if_pos rfl, hd, hm]
  have eC : nC (zset μ 0 33 0) s = nC μ s := rfl
  have eR : nR (zset μ 0 33 0) s = nR μ s := rfl
  rw [← eC] at hx
  rw [← eR] at hy
  have R1 := RR_t 0 R
  have z1 : zset μ 0 33 0 0 33 = 0 := zset_h
  generalize zset μ 0 33 0 = m1 at R1 z1 hx hy ⊢
  obtain ⟨A, hB, hF, hN, -⟩ := R1.2.2.1 s hs
  have hs4 : s < 4 := by omega
  have hc6 := hB.2.1.2.2
  have hr6 := hB.2.2.1.2.2
  rw [ec_needSp A hN, em_hasSprings hs4, zb_s]
  by_cases g : m1 3 s ≤ 1
  · exact Op1_e R1 (by rw [if_pos g, zth_r]) (by rw [if_pos g, if_pos rfl, em_th1, zg1_s, if_neg (by decide)]) rfl (by decide)
  obtain ⟨κ', e, hk, hv⟩ := tell (G := 5) R1 hs hb (Or.inl rfl)
  obtain ⟨e1, q1⟩ := tell_v (G := 5) R1 hs hb g hx hy (hv x y hx hy)
  have A5 : Ab lv (0 + 5) := R1.2.1.2.2.2.2.1
  have e' : g_X7_tellSinking lv (100 * (s + 1)) (600 + b) (0 + 5) κ νc = some ((), κ', νc) := e
  obtain ⟨Ab1, hRB⟩ := R1.2.2.2.2.1 b hb
  have hb3 : 600 + b + 1000 ≠ 5 + 1000 := by omega
  refine Op1_v (RR_g (fun o h5 _ => hk o h5) R1) z1 (v := (100 * m1 (149 + 7 * b + x) y) / (10 + tSink m1 ν b s x y)) ?_ ?_
  · rw [if_neg g, zth_l, cg r0, cg A.1, e', zg1_s, cg Ab1.1, ec_at Ab1.1 Ab1.2, zb_s, cg r0, cg A5.1, ec_at A5.1 A5.2, zb_s, gAt_i (by omega), gAt_i (by omega), hk _ hb3, RB_at hRB (by omega) (by omega)]
    have e2 : κ' (0 + 5 + 1000) (10 * x + y) = tSink m1 ν b s x y := e1
    rw [e2]
    rw [e1] at q1
    rw [ec_press q1, zb_s]
  · rw [e1] at q1
    rw [if_neg g, if_neg (by decide), em_thz _ z1, zg1_s, if_pos rfl, zdv10, zdv10, em_press R1 hs hb g hx hy q1, zb_s]
theorem op_comfort (R : RR lv κ νc μ ν H nS nB nK) (x1 x2 : Int32) : Op1 lv H nS nB nK cd_comfort (g_X9_comfort lv 0 x1 x2 κ νc) (g_X10_comfort x1 x2 μ ν) := by
  have r0 := R.1.1
  have h30 := R.1.2.2.2.2.2.1
  have h31 := R.1.2.2.2.2.2.2.1
  have h4 := R.1.2.1
  have b3 := R.1.2.2.1
  unfold g_X9_comfort g_X10_comfort g_X10_comfort_17 g_X10_comfort_22 g_X10_comfort_43 g_X10_comfort_50
  rcases ix_cases x1 nB (by omega) with h | ⟨b, hb, rfl⟩
  · exact Op1_e R (by rw [cg r0, ec_bodyOf1 R h, zth_r]) (by rw [em_noBody1 h31 (by omega) h, zb_s, if_neg (by decide), em_th1, zg1_s, if_neg (by decide)]) rfl (by decide)
  rw [cg r0, ec_bodyOf0 R hb, zth_l, cg r0, em_noBody0 h31 (by omega) hb, zb_s, if_pos rfl]
  rcases ix_cases x2 nS (by omega) with h | ⟨s, hs, rfl⟩
  · exact Op1_e R (by rw [ec_seatOf1 R h, zth_r]) (by rw [em_noSeat1 h30 (by omega) h, zb_s, if_neg (by decide), em_th1, zg1_s, if_neg (by decide)]) rfl (by decide)
  rw [ec_seatOf0 R hs, zth_l, em_noSeat0 h30 (by omega) hs, zb_s, if_pos rfl, em_th0, zg1_s, if_pos rfl]
  have R1 := RR_t 0 R
  have z1 : zset μ 0 33 0 0 33 = 0 := zset_h
  generalize zset μ 0 33 0 = m1 at R1 z1 ⊢
  obtain ⟨A, hB, hF, hN, -⟩ := R1.2.2.1 s hs
  have hs4 : s < 4 := by omega
  obtain ⟨-, ⟨hc, hc1, hc6⟩, ⟨hr, hr1, hr6⟩, -⟩ := id hB
  have h36 := cr6 hc6 hr6
  rw [ec_needSp A hN, em_hasSprings hs4, zb_s]
  by_cases g : m1 3 s ≤ 1
  · exact Op1_e R1 (by rw [if_pos g, zth_r]) (by rw [if_pos g, if_pos rfl, em_th1, zg1_s, if_neg (by decide)]) rfl (by decide)
  obtain ⟨κ', e, hk, hv⟩ := tell (G := 5) R1 hs hb (Or.inl rfl)
  have A5 : Ab lv (0 + 5) := R1.2.1.2.2.2.2.1
  have e' : g_X7_tellSinking lv (100 * (s + 1)) (600 + b) (0 + 5) κ νc = some ((), κ', νc) := e
  obtain ⟨Ab1, hRB⟩ := R1.2.2.2.2.1 b hb
  have hb3 : 600 + b + 1000 ≠ 5 + 1000 := by omega
  have R2 := RR_g (fun o h5 _ => hk o h5) R1
  obtain ⟨-, -, hF2, -⟩ := R2.2.2.1 s hs
  refine Op1_v R2 z1 (v := tSum m1 s (fun x y => if m1 (149 + 7 * b + x) y ≤ 0 then 0 else if 100 < (100 * m1 (149 + 7 * b + x) y) / (10 + tSink m1 ν b s x y) then 0 else 1)) ?_ ?_
  · rw [if_neg g, zth_l, cg r0, cg A.1, e', zg1_s]
    refine cells A hB hF2 (g := fun x y c => c + if m1 (149 + 7 * b + x) y ≤ 0 then 0 else if 100 < (100 * m1 (149 + 7 * b + x) y) / (10 + tSink m1 ν b s x y) then 0 else 1) (a := (0 : Int32)) (fun v p => (v, Int32.ofNat p)) (fun p hp x y hx hy hxy v => ?_) ?_
    · show g_X9_comfort_34 _ _ _ _ _ _ _ _ = _
      unfold g_X9_comfort_34 g_X9_comfort_94
      dsimp only
      obtain ⟨e1, q1⟩ := tell_v (G := 5) R1 hs hb g hx hy (hv x y hx hy)
      have e2 : κ' (0 + 5 + 1000) (10 * x + y) = tSink m1 ν b s x y := e1
      rw [e1] at q1
      rw [cg A.1, cg A.2.1, ec_cellCount A hB hF2, zb_s, if_neg (nle (by omega)), cg A.1, cg A.2.1, ec_cellAt A hB hF2 (by omega), zb_s, hxy, cg Ab1.1, ec_at Ab1.1 Ab1.2, zb_s, gAt_i (by omega), hk _ hb3, RB_at hRB (by omega) (by omega), on_s]
      by_cases w : m1 (149 + 7 * b + x) y ≤ 0
      · rw [if_pos w, if_pos w, Int32.add_zero]
      · rw [if_neg w, if_neg w, cg r0, cg A5.1, ec_at A5.1 A5.2, zb_s, gAt_i (by omega), e2, ec_press q1, zb_s]
        by_cases w2 : 100 < (100 * m1 (149 + 7 * b + x) y) / (10 + tSink m1 ν b s x y)
        · rw [if_pos w2, if_pos w2, Int32.add_zero]
        · rw [if_neg w2, if_neg w2]
    · show g_X9_comfort_34 _ _ _ _ _ _ _ _ = _
      unfold g_X9_comfort_34
      dsimp only
      rw [cg A.1, cg A.2.1, ec_cellCount A hB hF2, zb_s, if_pos (ple (by omega))]
      rfl
  · rw [if_neg g, if_neg (by decide), em_thz _ z1, zg1_s, if_pos rfl]
    refine zfor2 (nC m1 s) (fun x a => zfd (fun y c => c + if m1 (149 + 7 * b + x) y ≤ 0 then 0 else if 100 < (100 * m1 (149 + 7 * b + x) y) / (10 + tSink m1 ν b s x y) then 0 else 1) a (nR m1 s)) 0 (fun x hx v => ?_) ?_
    · show g_X10_comfort_57 _ _ _ _ _ _ = _
      unfold g_X10_comfort_57
      dsimp only
      rw [gi1 hs4, hc, if_neg (nle (by omega))]
      refine zfor2 (nR m1 s) (fun y c => c + if m1 (149 + 7 * b + x) y ≤ 0 then 0 else if 100 < (100 * m1 (149 + 7 * b + x) y) / (10 + tSink m1 ν b s x y) then 0 else 1) v (fun y hy w => ?_) ?_
      · show g_X10_comfort_71 _ _ _ _ _ _ _ = _
        unfold g_X10_comfort_71 g_X10_comfort_117 g_X10_comfort_118
        dsimp only
        obtain ⟨e1, q1⟩ := tell_v (G := 5) R1 hs hb g hx hy (hv x y hx hy)
        rw [e1] at q1
        rw [gi2 hs4, hr, if_neg (nle (by omega)), gq147 (show b < 3 by omega), gQ147 (show b < 3 by omega) (by omega), gi147 (show b < 3 by omega) (by omega) (by omega)]
        by_cases w : m1 (149 + 7 * b + x) y ≤ 0
        · rw [if_pos w, if_pos w]
        · rw [if_neg w, if_neg w, em_press R1 hs hb g hx hy q1, zb_s]
          by_cases w2 : 100 < (100 * m1 (149 + 7 * b + x) y) / (10 + tSink m1 ν b s x y)
          · rw [if_pos w2, if_pos w2]
          · rw [if_neg w2, if_neg w2]
      · show g_X10_comfort_71 _ _ _ _ _ _ _ = _
        unfold g_X10_comfort_71
        dsimp only
        rw [gi2 hs4, hr, if_pos (ple (by omega))]
    · show g_X10_comfort_57 _ _ _ _ _ _ = _
      unfold g_X10_comfort_57
      dsimp only
      rw [gi1 hs4, hc, if_pos (ple (by omega))]
      rfl
theorem op_fit (R : RR lv κ νc μ ν H nS nB nK) (x1 x2 x3 : Int32) : Op1 lv H nS nB nK cd_fit (g_X9_fit lv 0 x1 x2 x3 κ νc) (g_X10_fit x1 x2 x3 μ ν) := by
  have r0 := R.1.1
  have h30 := R.1.2.2.2.2.2.1
  have h31 := R.1.2.2.2.2.2.2.1
  have h4 := R.1.2.1
  have b3 := R.1.2.2.1
  unfold g_X9_fit g_X10_fit g_X10_fit_25 g_X10_fit_30 g_X10_fit_51 g_X10_fit_58
  rcases ix_cases x1 nB (by omega) with h | ⟨b, hb, rfl⟩
  · exact Op1_e R (by rw [cg r0, ec_bodyOf1 R h, zth_r]) (by rw [em_noBody1 h31 (by omega) h, zb_s, if_neg (by decide), em_th1, zg1_s, if_neg (by decide)]) rfl (by decide)
  rw [cg r0, ec_bodyOf0 R hb, zth_l, cg r0, em_noBody0 h31 (by omega) hb, zb_s, if_pos rfl]
  rcases ix_cases x2 nB (by omega) with h | ⟨d, hd, rfl⟩
  · exact Op1_e R (by rw [ec_bodyOf1 R h, zth_r]) (by rw [em_noBody1 h31 (by omega) h, zb_s, if_neg (by decide), em_th1, zg1_s, if_neg (by decide)]) rfl (by decide)
  rw [ec_bodyOf0 R hd, zth_l, cg r0, em_noBody0 h31 (by omega) hd, zb_s, if_pos rfl]
  rcases ix_cases x3 nS (by omega) with h | ⟨s, hs, rfl⟩
  · exact Op1_e R (by rw [ec_seatOf1 R h, zth_r]) (by rw [em_noSeat1 h30 (by omega) h, zb_s, if_neg (by decide), em_th1, zg1_s, if_neg (by decide)]) rfl (by decide)
  rw [ec_seatOf0 R hs, zth_l, em_noSeat0 h30 (by omega) hs, zb_s, if_pos rfl, em_th0, zg1_s, if_pos rfl]
  have R1 := RR_t 0 R
  have z1 : zset μ 0 33 0 0 33 = 0 := zset_h
  generalize zset μ 0 33 0 = m1 at R1 z1 ⊢
  obtain ⟨A, hB, hF, hN, -⟩ := R1.2.2.1 s hs
  have hs4 : s < 4 := by omega
  obtain ⟨-, ⟨hc, hc1, hc6⟩, ⟨hr, hr1, hr6⟩, -⟩ := id hB
  have h36 := cr6 hc6 hr6
  rw [ec_needSp A hN, em_hasSprings hs4, zb_s]
  by_cases g : m1 3 s ≤ 1
  · exact Op1_e R1 (by rw [if_pos g, zth_r]) (by rw [if_pos g, if_pos rfl, em_th1, zg1_s, if_neg (by decide)]) rfl (by decide)
  obtain ⟨κ2, e, hk, hv⟩ := tell (G := 5) R1 hs hb (Or.inl rfl)
  have R2 := RR_g (fun o h5 _ => hk o h5) R1
  obtain ⟨κ3, e3, hk3, hv3⟩ := tell (G := 6) R2 hs hd (Or.inr rfl)
  have R3 := RR_g (fun o _ h6 => hk3 o h6) R2
  have A5 : Ab lv (0 + 5) := R1.2.1.2.2.2.2.1
  have A6 : Ab lv (0 + 6) := R1.2.1.2.2.2.2.2
  have e' : g_X7_tellSinking lv (100 * (s + 1)) (600 + b) (0 + 5) κ νc = some ((), κ2, νc) := e
  have e3' : g_X7_tellSinking lv (100 * (s + 1)) (600 + d) (0 + 6) κ2 νc = some ((), κ3, νc) := e3
  obtain ⟨-, -, hF3, -⟩ := R3.2.2.1 s hs
  refine Op1_v R3 z1 (v := tSum m1 s (fun x y => zz_abs (tSink m1 ν b s x y - tSink m1 ν d s x y))) ?_ ?_
  · rw [if_neg g, zth_l, cg r0, cg A.1, e', zg1_s, cg r0, cg A.1, e3', zg1_s]
    refine cells A hB hF3 (g := fun x y c => c + zz_abs (tSink m1 ν b s x y - tSink m1 ν d s x y)) (a := (0 : Int32)) (fun v p => (v, Int32.ofNat p)) (fun p hp x y hx hy hxy v => ?_) ?_
    · show g_X9_fit_54 _ _ _ _ _ _ _ = _
      unfold g_X9_fit_54
      dsimp only
      obtain ⟨e1, -⟩ := tell_v (G := 5) R1 hs hb g hx hy (hv x y hx hy)
      obtain ⟨e2, -⟩ := tell_v (G := 6) R2 hs hd g hx hy (hv3 x y hx hy)
      have e4 : κ3 (0 + 5 + 1000) (10 * x + y) = tSink m1 ν b s x y := by
        rw [hk3 (0 + 5 + 1000) (by omega)]
        exact e1
      have e5 : κ3 (0 + 6 + 1000) (10 * x + y) = tSink m1 ν d s x y := e2
      rw [cg A.1, cg A.2.1, ec_cellCount A hB hF3, zb_s, if_neg (nle (by omega)), cg A.1, cg A.2.1, ec_cellAt A hB hF3 (by omega), zb_s, hxy, cg r0, cg A5.1, ec_at A5.1 A5.2, zb_s, cg r0, cg A6.1, ec_at A6.1 A6.2, zb_s, gAt_i (by omega), gAt_i (by omega), e4, e5, on_s]
    · show g_X9_fit_54 _ _ _ _ _ _ _ = _
      unfold g_X9_fit_54
      dsimp only
      rw [cg A.1, cg A.2.1, ec_cellCount A hB hF3, zb_s, if_pos (ple (by omega))]
      rfl
  · rw [if_neg g, if_neg (by decide), em_thz _ z1, zg1_s, if_pos rfl]
    refine zfor2 (nC m1 s) (fun x a => zfd (fun y c => c + zz_abs (tSink m1 ν b s x y - tSink m1 ν d s x y)) a (nR m1 s)) 0 (fun x hx v => ?_) ?_
    · show g_X10_fit_66 _ _ _ _ _ _ _ = _
      unfold g_X10_fit_66
      dsimp only
      rw [gi1 hs4, hc, if_neg (nle (by omega))]
      refine zfor2 (nR m1 s) (fun y c => c + zz_abs (tSink m1 ν b s x y - tSink m1 ν d s x y)) v (fun y hy w => ?_) ?_
      · show g_X10_fit_80 _ _ _ _ _ _ _ _ = _
        unfold g_X10_fit_80
        dsimp only
        rw [gi2 hs4, hr, if_neg (nle (by omega)), em_sink R1 hs hb g, zb_s, em_sink R1 hs hd g, zb_s]
      · show g_X10_fit_80 _ _ _ _ _ _ _ _ = _
        unfold g_X10_fit_80
        dsimp only
        rw [gi2 hs4, hr, if_pos (ple (by omega))]
    · show g_X10_fit_66 _ _ _ _ _ _ _ = _
      unfold g_X10_fit_66
      dsimp only
      rw [gi1 hs4, hc, if_pos (ple (by omega))]
      rfl
end ZRH
