section ZLL
variable {t0 base b L : Nat} {xs : Nat → Int32} {ow ow' : zz_H} {μ μ' : zzM} {ν ν' : zzN} {H : Int} {nK : Nat} {h h' : zz_H} {n n' : Nat} {c r d l lc hs : Nat} {la sg : Int32}
theorem r_2051 (J : JJ t0 base ow μ ν 1 nK H h n) {x6 x7 x8 x13 x14 x15 x16 : Nat} (A : AR ow μ x6 x7 x8 c r) (LL : LA ow μ x13 x14 x15 lc lc) (DD : A2 ow x16 c r (fun x y => μ (111 + 7 * 0 + x) y)) (hc : c ≤ 4) (hr : r ≤ 4) (hl : nL μ 0 = lc) (hl4 : lc ≤ 4) (hn : ¬ μ 3 0 ≤ 1) {mo : Nat} (h1 : hs + mo ≤ 100000) (hV : PQ μ' ν' H nK) (hm : ∀ o i, (o = 3 ∨ o = 83 ∨ o = 85 ∨ o = 90 ∨ o = 95 ∨ o = 74 ∨ o = 79 ∨ (17 ≤ o ∧ o < 23) ∨ (111 ≤ o ∧ o < 117)) → μ' o i = μ o i) (hν : ∀ i, i < lc → ν' (100 + 0) i = (Int32.ofNat (hs + mo)).toInt64) (hC : nC μ' 0 = c) (hR : nR μ' 0 = r) {x0 x1 : Nat} {x9 x21 x22 x23 x26 s0 : Int32} : f_L_law_2051 x0 x1 (Int32.ofNat c) (Int32.ofNat r) x6 x7 x8 x9 (Int32.ofNat lc) x13 x14 x15 x16 (Int32.ofNat hs) x21 x22 x23 x26 (Int32.ofNat mo) s0 h = some (.inl (Int32.ofNat (hs + mo), Int32.ofNat mo, s0, tSum μ' 0 (tTop μ' ν' 0))) := by
  unfold f_L_law_2051
  rw [on_a]
  refine zfor2 c (fun X a => zfd (fun Y b => b + tTop μ' ν' 0 X Y) a r) 0 (fun X hX v => ?_) ?_
  · show f_L_law_2066 _ _ _ _ _ _ _ _ _ _ _ _ _ _ _ _ _ _ _ _ _ _ _ = _
    unfold f_L_law_2066
    rw [if_neg (nle (by omega))]
    refine zfor2 r (fun Y b => b + tTop μ' ν' 0 X Y) v (fun Y hY w => ?_) ?_
    · exact r_2075 J A LL DD hc hr hl hl4 hn h1 hV hm hν hX hY
    · show f_L_law_2075 _ _ _ _ _ _ _ _ _ _ _ _ _ _ _ _ _ _ _ _ _ _ _ _ = _
      unfold f_L_law_2075
      rw [if_pos (ple (by omega))]
  · show f_L_law_2066 _ _ _ _ _ _ _ _ _ _ _ _ _ _ _ _ _ _ _ _ _ _ _ = _
    unfold f_L_law_2066
    rw [if_pos (ple (by omega))]
    unfold tSum
    rw [hC, hR]
theorem r_1978 (J : JJ t0 base ow μ ν 1 nK H h n) {x6 x7 x8 x13 x14 x15 x16 : Nat} (A : AR ow μ x6 x7 x8 c r) (LL : LA ow μ x13 x14 x15 lc lc) (DD : A2 ow x16 c r (fun x y => μ (111 + 7 * 0 + x) y)) (hc : c ≤ 4) (hr : r ≤ 4) (hl : nL μ 0 = lc) (hl4 : lc ≤ 4) (hn : ¬ μ 3 0 ≤ 1) (hs4 : hs ≤ 50000) {x0 x1 : Nat} (eb : ow x0 = some (zz_I 12 L xs)) (hL : L ≤ 260) {k : Nat} (hk : k < 4) {x9 x21 x22 x26 : Int32} : ∃ mo : Nat, ∃ fl : Int32, (1 ≤ mo ∧ mo ≤ 9999) ∧ (fl = 0 ∨ (fl = 1 ∧ ∃ m, mo = 3 * m ∧ 1 ≤ m ∧ m ≤ 3000)) ∧ ∀ (μ' : zzM) (ν' : zzN), PQ μ' ν' H nK → (∀ o i, (o = 3 ∨ o = 83 ∨ o = 85 ∨ o = 90 ∨ o = 95 ∨ o = 74 ∨ o = 79 ∨ (17 ≤ o ∧ o < 23) ∨ (111 ≤ o ∧ o < 117)) → μ' o i = μ o i) → (∀ i, i < lc → ν' (100 + 0) i = (Int32.ofNat (hs + mo)).toInt64) → nC μ' 0 = c → nR μ' 0 = r → f_L_law_1978 x0 x1 (Int32.ofNat c) (Int32.ofNat r) x6 x7 x8 x9 (Int32.ofNat lc) x13 x14 x15 x16 (Int32.ofNat hs) x21 x22 (Int32.ofNat k) x26 h = some (.inl (Int32.ofNat (hs + mo), Int32.ofNat mo, fl, tSum μ' 0 (tTop μ' ν' 0))) := by
  have i2 : f_L_in x0 (Int32.ofNat (120 + k)) 2 h = some (Int32.ofNat (zin L xs (120 + k) 2)) := J_in J eb hL (m := 2) (by omega) (by omega)
  have i9 : f_L_in x0 (Int32.ofNat (124 + k)) 9999 h = some (Int32.ofNat (zin L xs (124 + k) 9999)) := J_in J eb hL (m := 9999) (by omega) (by omega)
  have i3 : f_L_in x0 (Int32.ofNat (124 + k)) 3000 h = some (Int32.ofNat (zin L xs (124 + k) 3000)) := J_in J eb hL (m := 3000) (by omega) (by omega)
  have z2 := zin_lt (L := L) (xs := xs) (k := 120 + k) (m := 2) (by omega)
  have z9 := zin_lt (L := L) (xs := xs) (k := 124 + k) (m := 9999) (by omega)
  have z3 := zin_lt (L := L) (xs := xs) (k := 124 + k) (m := 3000) (by omega)
  unfold f_L_law_1978
  rw [show (120 : Int32) + Int32.ofNat k = Int32.ofNat (120 + k) from on_a 120 k, show (124 : Int32) + Int32.ofNat k = Int32.ofNat (124 + k) from on_a 124 k]
  rw [i2]
  by_cases g : zin L xs (120 + k) 2 = 0
  · refine ⟨1 + zin L xs (124 + k) 9999, 0, by omega, Or.inl rfl, fun μ' ν' hV hm hν hC hR => ?_⟩
    rw [zb_s, g, if_pos (by rfl), i9, zb_s, show (1 : Int32) + Int32.ofNat (zin L xs (124 + k) 9999) = Int32.ofNat (1 + zin L xs (124 + k) 9999) from on_a 1 _]
    have e := r_2051 J A LL DD hc hr hl hl4 hn (mo := 1 + zin L xs (124 + k) 9999) (by omega) hV hm hν hC hR (x0 := x0) (x1 := x1) (x9 := x9) (x21 := x21) (x22 := x22) (x23 := Int32.ofNat k) (x26 := x26) (s0 := 0)
    unfold f_L_law_2024
    rw [zdv_p (by decide)]
    by_cases g2 : zz_rem (Int32.ofNat (1 + zin L xs (124 + k) 9999)) 3 = 0
    · rw [if_pos g2, show (120 : Int32) + Int32.ofNat k = Int32.ofNat (120 + k) from on_a 120 k, i2, zb_s, g, if_pos (by rfl)]
      exact e
    · rw [if_neg g2]
      exact e
  · have g1 : zin L xs (120 + k) 2 = 1 := by omega
    refine ⟨3 * (1 + zin L xs (124 + k) 3000), 1, by omega, Or.inr ⟨rfl, _, rfl, by omega, by omega⟩, fun μ' ν' hV hm hν hC hR => ?_⟩
    rw [zb_s, g1, if_neg (by decide), i3, zb_s, show (3 : Int32) * ((1 : Int32) + Int32.ofNat (zin L xs (124 + k) 3000)) = Int32.ofNat (3 * (1 + zin L xs (124 + k) 3000)) by rw [nlt1, nlt3, on_a, on_m]]
    have e := r_2051 J A LL DD hc hr hl hl4 hn (mo := 3 * (1 + zin L xs (124 + k) 3000)) (by omega) hV hm hν hC hR (x0 := x0) (x1 := x1) (x9 := x9) (x21 := x21) (x22 := x22) (x23 := Int32.ofNat k) (x26 := x26) (s0 := 1)
    unfold f_L_law_2024
    rw [zdv_p (by decide)]
    have g2 : zz_rem (Int32.ofNat (3 * (1 + zin L xs (124 + k) 3000))) 3 = 0 := by
      rw [nlt3, on_r _ _ (by omega) (by omega)]
      exact onz (by omega)
    rw [if_pos g2, show (120 : Int32) + Int32.ofNat k = Int32.ofNat (120 + k) from on_a 120 k, i2, zb_s, g1, if_neg (by decide)]
    exact e
theorem t64_a {a b : Nat} (h : a + b ≤ 100000) : (Int32.ofNat a).toInt64 + (Int32.ofNat b).toInt64 = (Int32.ofNat (a + b)).toInt64 := by
  have ea : (Int32.ofNat a).toInt = (a : Int) := Int32.toInt_ofNat_of_lt (by omega)
  have eb : (Int32.ofNat b).toInt = (b : Int) := Int32.toInt_ofNat_of_lt (by omega)
  have ec : (Int32.ofNat (a + b)).toInt = ((a + b : Nat) : Int) := Int32.toInt_ofNat_of_lt (by omega)
  apply Int64.toInt_inj.mp
  rw [add64 _ _ (by rw [Int32.toInt_toInt64, Int32.toInt_toInt64, ea, eb]; omega) (by rw [Int32.toInt_toInt64, Int32.toInt_toInt64, ea, eb]; omega), Int32.toInt_toInt64, Int32.toInt_toInt64, Int32.toInt_toInt64, ea, eb, ec]
  omega
theorem b_1935 (B : Nat) (x0 x1 : Nat) (x2 x3 : Int32) (x6 x7 x8 : Nat) (x9 x12 : Int32) (x13 x14 x15 x16 : Nat) (x20 x21 x22 x23 x24 : Int32) (h : zz_H) (n : Nat) (A : A_1935 t0 base b L xs (B + 1) x0 x1 x2 x3 x6 x7 x8 x9 x12 x13 x14 x15 x16 x20 x21 x22 x23 x24 h n) : w_1935 t0 x0 x1 x2 x3 x6 x7 x8 x9 x12 x13 x14 x15 x16 x20 x21 x22 x23 x24 h n (A_1597 t0 base b L xs B) := by
  obtain ⟨μ, ν, c, r, lc, k, hs, tol, d, sg, R, hk, c20, rfl, c22, rfl, hB⟩ := A
  obtain ⟨rfl, rfl, rfl, rfl, rfl, rfl, rfl, rfl, rfl, hlc, hd, hk4, F, ⟨ow, ⟨J, eb, hL⟩, AA, LL, DD⟩, hν, o3, o8, o15⟩ := R
  have hc4 := F.2.2.1
  have hr4 := F.2.2.2.1
  have hn := hn3 J F hd.1
  have hl := Fa_la F
  have hH9 : 20000 * ((k + 1 : Nat) : Int) + 20000 ≤ 100000000 := by omega
  have hHe : 20000 * ((k + 1 : Nat) : Int) + 20000 = 20000 * ((k + 1 + 1 : Nat) : Int) := by omega
  have Jw := JJ_H J (H' := 20000 * ((k + 1 : Nat) : Int) + 20000) (by omega) hH9
  obtain ⟨v, ev, hv⟩ := em_holds_v (JJ_q J) hl
  unfold w_1935
  refine ⟨JJ_base J, v, cv_holds J ev J.1, fun w hw => ⟨?_, ?_⟩⟩
  · rw [c22] at hw
    exact hv.trans hw.symm
  obtain ⟨mo, fl, hmo, hfl, hr⟩ := r_1978 Jw AA LL DD (by omega) (by omega) (Fa_L F) (by omega) hn (hs := hs) (by omega) eb hL hk (x1 := x1) (x9 := Qt μ + 4 * tDr μ 0) (x21 := μ 145 0) (x22 := Int32.ofNat tol) (x26 := tSum μ 0 (tTop μ ν 0))
  have main : ∀ (h' : zz_H) (n' : Nat), JJ t0 x1 ow (zset μ 144 0 (Int32.ofNat (hs + mo))) (nUse ν 0 (Int32.ofNat mo).toInt64 lc) 1 1 (20000 * ((k + 1 : Nat) : Int) + 20000) h' n' → zl_w (f_L_hours t0 x1 0 h' n') fun v2255 h2255 n2255 => v2255 = Int32.ofNat (hs + mo) ∧ A_1597 t0 x1 x0 L xs B x0 x1 (Int32.ofNat c) (Int32.ofNat r) x6 x7 x8 (Qt μ + 4 * tDr μ 0) (Int32.ofNat lc) x13 x14 x15 x16 (Int32.ofNat (hs + mo)) (μ 145 0) (Int32.ofNat tol) (Int32.ofNat k + 1) h2255 n2255 := by
    intro h' n' J'
    have F' : Fa (zset μ 144 0 (Int32.ofNat (hs + mo))) c r d lc 99 sg := Fa_z (by omega) F
    have mq : ∀ o i, o ≠ 144 → zset μ 144 0 (Int32.ofNat (hs + mo)) o i = μ o i := fun o i hi => zset_e (by omega)
    refine zlw JJ_n (cv_hours J' (em_hours_v (JJ_q J') (Fa_la F')) J'.1) (fun h1 n1 J1 => ⟨zset_h, ?_⟩)
    rw [on_s]
    rw [hHe] at J1
    exact ⟨_, _, c, r, lc, k + 1, hs + mo, tol, d, 99, sg, ⟨rfl, rfl, rfl, rfl, by rw [Qt_m (μ := μ) (fun o i hi => mq o i (by omega)), tDr_c (μ := μ) (fun x y hx hy => mq _ _ (by omega))], rfl, rfl, rfl, rfl, hlc, hd, by omega, F', ⟨ow, ⟨J1, eb, hL⟩, AR_m (by omega) (fun o i hi => mq o i (by omega)) AA, LA_m (fun o i hi => mq o i (by omega)) LL, A2_c DD (fun x y hx hy => (mq _ _ (by omega)).symm)⟩, fun i hi => by
      show (if 100 + 0 = 100 + 0 ∧ i < lc then ν (100 + 0) i + (Int32.ofNat mo).toInt64 else _) = _
      rw [if_pos ⟨rfl, hi⟩, hν i hi]
      exact t64_a (by omega), o3, o8, o15⟩, Or.inr ⟨by omega, rfl, zset_h.symm, (mq _ _ (by omega)).symm, by rw [mq _ _ (by omega)]; exact c22⟩, by omega⟩
  have use : ∀ {h' : zz_H} {n' : Nat}, JJ t0 x1 ow (zset μ 144 0 (Int32.ofNat (hs + mo))) (nUse ν 0 (Int32.ofNat mo).toInt64 lc) 1 1 (20000 * ((k + 1 : Nat) : Int) + 20000) h' n' → f_L_law_1978 x0 x1 (Int32.ofNat c) (Int32.ofNat r) x6 x7 x8 (Qt μ + 4 * tDr μ 0) (Int32.ofNat lc) x13 x14 x15 x16 (Int32.ofNat hs) (μ 145 0) (Int32.ofNat tol) (Int32.ofNat k) (tSum μ 0 (tTop μ ν 0)) h = some (.inl (Int32.ofNat (hs + mo), Int32.ofNat mo, fl, tSum (zset μ 144 0 (Int32.ofNat (hs + mo))) 0 (tTop (zset μ 144 0 (Int32.ofNat (hs + mo))) (nUse ν 0 (Int32.ofNat mo).toInt64 lc) 0))) := fun J' => hr _ _ (JJ_q J') (fun o i hi => zset_e (by omega)) (fun i hi => by
      show (if 100 + 0 = 100 + 0 ∧ i < lc then ν (100 + 0) i + (Int32.ofNat mo).toInt64 else _) = _
      rw [if_pos ⟨rfl, hi⟩, hν i hi]
      exact t64_a (by omega)) (by rw [nC_z (by omega)]; exact Fa_C F) (by rw [nR_z (by omega)]; exact Fa_R F)
  have mo0 : ∀ o i (v : Int32), o ≠ 144 → zset μ 144 0 v o i = μ o i := fun o i v hi => zset_e (by omega)
  rcases hfl with rfl | ⟨rfl, m, rfl, hm1, hm3⟩
  · have eu := em_use_v J hH9 (x := Int32.ofNat mo) (ra_n (a := 1) (c := 9999) (by omega)) hl (by rw [← c20, on_a]; exact ple (b := 100000) (by omega))
    rw [← c20, on_a, Fa_L F] at eu
    obtain ⟨h', n', e1, J'⟩ := cv_use J hH9 eu (by rw [mo0 _ _ _ (by omega)]; exact J.1)
    refine ⟨_, _, _, _, use J', fun _ => ?_, fun q => absurd rfl q⟩
    exact zlw JJ_n ⟨h', n', e1, J'⟩ (fun h1 n1 J1 => ⟨rfl, main h1 n1 J1⟩)
  · have e3 : (3 : Int32) * Int32.ofNat m = Int32.ofNat (3 * m) := by rw [nlt3, on_m]
    have eu := em_pound_v J hH9 (x := Int32.ofNat m) (ra_n (a := 1) (c := 3000) (by omega)) hl (by rw [← c20, e3, on_a]; exact ple (b := 100000) (by omega))
    rw [← c20, e3, on_a, Fa_L F] at eu
    obtain ⟨h', n', e1, J'⟩ := cv_pound J hH9 eu (by rw [mo0 _ _ _ (by omega)]; exact J.1)
    refine ⟨_, _, _, _, use J', fun q => absurd q (by decide), fun _ => ?_⟩
    have e4 : Int32.ofNat (3 * m) / 3 = Int32.ofNat m := by
      rw [nlt3, on_d _ _ (by omega) (by omega)]
      congr 1
      omega
    rw [e4]
    exact zlw JJ_n ⟨h', n', e1, J'⟩ (fun h1 n1 J1 => ⟨rfl, main h1 n1 J1⟩)
end ZLL
