section ZWO
/-! covering: panel by panel -/
variable {lv : Nat → Bool} {κ κ' : zzM} {νc νc' : zzN} {μ μ' : zzM} {ν ν' : zzN} {H H' : Int} {nS nB nK : Nat}
/-- all of a seat but its cover -/
def CT (lv : Nat → Bool) (κ : zzM) (νc : zzN) (μ : zzM) (ν : zzN) (H : Int) (S s sg t b c : Nat) : Prop := As lv S ∧ Bd μ s ∧ RF κ μ S s ∧ RN κ μ S s ∧ RG κ μ S s sg ∧ Lv μ s t b c ∧ Lz μ s t ∧ RX κ μ S s ∧ RO μ s ∧ RM κ μ S s ∧ RT κ μ S s ∧ RD κ μ S s ∧ Al lv κ μ S s ∧ RLa κ νc μ ν S s ∧ Vb μ ν H s ∧ κ S 5 = μ 146 s
theorem cov_tr {S s j sg t b c : Nat} (hS : S ≤ 400) (hj : j < 4) (kk : ∀ o, o ≠ S + 8 → o ≠ S + 8 + 1000 → o ≠ 700 + j → κ' o = κ o) (mm : ∀ o i, o ≠ 139 + s → o ≠ 171 → o ≠ 143 → o ≠ 144 → o ≠ 145 → μ' o i = μ o i) (h : CT lv κ νc μ ν H S s sg t b c) : CT lv κ' νc μ' ν H S s sg t b c ∧ nC μ' s = nC μ s ∧ nR μ' s = nR μ s ∧ nD μ' s = nD μ s ∧ nL μ' s = nL μ s := by
  obtain ⟨A, hB, hF, hN, hG, hV, hz, hX, hO, hM, hT, hD, hA, hL, hVb, hP⟩ := h
  have hs := hB.1
  obtain ⟨hB', c1, c2, c3, c4⟩ := Bd_of (μ' := μ') (mm 1 s (by omega) (by omega) (by omega) (by omega) (by omega)) (mm 2 s (by omega) (by omega) (by omega) (by omega) (by omega)) (mm 3 s (by omega) (by omega) (by omega) (by omega) (by omega)) (mm 83 s (by omega) (by omega) (by omega) (by omega) (by omega)) hB
  have m3 := mm 3 s (by omega) (by omega) (by omega) (by omega) (by omega)
  have m2 : ∀ o i, (o < 139 ∨ 145 < o) → o ≠ 171 → μ' o i = μ o i := fun o i h1 h2 => mm o i (by omega) h2 (by omega) (by omega) (by omega)
  have k2 : ∀ o, o ≠ S + 8 → o ≠ S + 8 + 1000 → (o < 600 ∨ 1000 ≤ o) → κ' o = κ o := fun o h1 h2 h3 => kk o h1 h2 (by omega)
  refine ⟨⟨A, hB', ?_, ?_, ?_, ?_, ?_, ?_, ?_, ?_, ?_, ?_, ?_, ?_, ?_, ?_⟩, c1, c2, c3, c4⟩
  · unfold RF
    rw [kk _ (by omega) (by omega) (by omega), m2 _ _ (by omega) (by omega), m2 _ _ (by omega) (by omega)]
    exact hF
  · unfold RN
    rw [kk _ (by omega) (by omega) (by omega), kk _ (by omega) (by omega) (by omega), m3, c3]
    exact ⟨hN.1, fun k hk => by rw [m2 _ _ (by omega) (by omega)]; exact hN.2 k hk⟩
  · unfold RG
    rw [kk _ (by omega) (by omega) (by omega), c3]
    exact ⟨hG.1, hG.2.1, fun k hk => by rw [m2 _ _ (by omega) (by omega)]; exact hG.2.2 k hk⟩
  · obtain ⟨v1, v2, v3, v4, v5, v6, v7⟩ := hV
    unfold Lv
    rw [c3, c4]
    exact ⟨v1, v2, v3, v4, v5, v6, fun k hk => by rw [m2 _ _ (by omega) (by omega)]; exact v7 k hk⟩
  · exact Lz_c m3 (fun o i h => m2 _ _ (by omega) (by omega)) hz
  · exact RX_c hB c1 c2 m3 (kk _ (by omega) (by omega) (by omega)) (kk _ (by omega) (by omega) (by omega)) (kk _ (by omega) (by omega) (by omega)) (fun o i h => m2 _ _ (by omega) (by omega)) hX
  · exact RO_d c1 c2 (by rw [m3]; exact id) (fun o i h => m2 _ _ (by omega) (by omega)) hO
  · exact RM_c hB c1 c2 m3 (kk _ (by omega) (by omega) (by omega)) (fun o i h => m2 _ _ (by omega) (by omega)) hM
  · exact RT_c m3 (by rw [kk _ (by omega) (by omega) (by omega)]) (m2 _ _ (by omega) (by omega)) hT
  · exact RD_c (kk _ (by omega) (by omega) (by omega)) (fun o i h => m2 _ _ (by omega) (by omega)) hD
  · unfold Al
    rw [c4, kk _ (by omega) (by omega) (by omega), m2 _ _ (by omega) (by omega)]
    exact hA
  · exact RLa_c hB c4 (fun o h1 h2 => ⟨kk _ (by omega) (by omega) (by omega), rfl⟩) (fun o i h => m2 _ _ (by omega) (by omega)) (fun _ => rfl) hL
  · exact Vb_c c4 m3 (m2 _ _ (by omega) (by omega)) (fun o i h => m2 _ _ (by omega) (by omega)) (fun _ => rfl) hVb
  · rw [kk _ (by omega) (by omega) (by omega), m2 _ _ (by omega) (by omega)]
    exact hP
def Plc (m μ : zzM) (s j mt n i f : Nat) : Prop := ∀ q, q < i → m (139 + s) q = Int32.ofNat (pN m s q) ∧ pN m s q % cR μ j = mt ∧ cU μ j ≤ pN m s q ∧ pN m s q + n ≤ f ∧ (∀ k, k < cF μ j → ¬ (pN m s q ≤ fL μ j k ∧ fL μ j k < pN m s q + n)) ∧ ∀ q', q' < q → pN m s q' + n ≤ pN m s q
def CI (κ μ k m : zzM) (S s j mt n i f : Nat) : Prop := (∀ o, o ≠ S + 8 + 1000 → k o = κ o) ∧ (∀ o, o ≠ 139 + s → m o = μ o) ∧ (∀ q, q < 6 → k (S + 8 + 1000) q = m (139 + s) q) ∧ cU μ j ≤ f ∧ f ≤ cL μ j ∧ Plc m μ s j mt n i f
theorem CI_s {k m : zzM} {S s j mt n i f p : Nat} (hi : i < 6) (h : CI κ μ k m S s j mt n i f) (hL : cL μ j ≤ 2000) (h1 : f ≤ p) (h2 : p + n ≤ cL μ j) (h3 : okP (cR μ j) mt n (cF μ j) (fL μ j) p) : CI κ μ (zset k (S + 8 + 1000) i (Int32.ofNat p)) (zset m (139 + s) i (Int32.ofNat p)) S s j mt n (i + 1) (p + n) := by
  obtain ⟨a1, a2, a3, a4, a5, a6⟩ := h
  have ei : pN (zset m (139 + s) i (Int32.ofNat p)) s i = p := by
    show (zset m (139 + s) i (Int32.ofNat p) (139 + s) i).toNatClampNeg = p
    rw [zset_h, on_n _ (by omega)]
  have en : ∀ q, q < i → pN (zset m (139 + s) i (Int32.ofNat p)) s q = pN m s q := fun q hq => by
    unfold pN
    rw [zset_e (by omega)]
  refine ⟨fun o ho => by rw [zset_o ho]; exact a1 o ho, fun o ho => by rw [zset_o ho]; exact a2 o ho, fun q hq => ?_, by omega, h2, fun q hq => ?_⟩
  · by_cases g : q = i
    · rw [g, zset_h, zset_h]
    · rw [zset_e (by omega), zset_e (by omega)]
      exact a3 q hq
  · by_cases g : q = i
    · subst g
      rw [ei, zset_h]
      refine ⟨rfl, h3.1, by omega, Nat.le_refl _, h3.2, fun q' hq' => ?_⟩
      rw [en q' hq']
      have := (a6 q' hq').2.2.2.1
      omega
    · rw [en q (by omega), zset_e (by omega)]
      obtain ⟨b1, b2, b3, b4, b5, b6⟩ := a6 q (by omega)
      exact ⟨b1, b2, b3, by omega, b5, fun q' hq' => by rw [en q' (by omega)]; exact b6 q' hq'⟩
def kCut (k : zzM) (S j mt c n f : Nat) : zzM := zset (zset (zset (zset (zset k (700 + j) 4 (Int32.ofNat f)) (S + 8) 3 (Int32.ofNat (j + 1))) (S + 8) 4 (Int32.ofNat mt)) (S + 8) 1 (Int32.ofNat c)) (S + 8) 2 (Int32.ofNat n)
def mCu3 (m : zzM) (s j n f : Nat) : zzM := zset (zset (zset m 171 j (Int32.ofNat f)) 143 s (Int32.ofNat n)) 144 s 0
def mCut (m : zzM) (ν : zzN) (s j n f : Nat) : zzM := zset (mCu3 m s j n f) 145 s (tSum (mCu3 m s j n f) s (tTop (mCu3 m s j n f) ν s))
theorem mCu3_o {m : zzM} {s j n f o i : Nat} (hm : ∀ o, o ≠ 139 + s → m o = μ o) (h1 : o ≠ 139 + s) (h2 : o ≠ 171) (h3 : o ≠ 143) (h4 : o ≠ 144) : mCu3 m s j n f o i = μ o i := by
  unfold mCu3
  rw [zset_e (by omega), zset_e (by omega), zset_e (by omega), hm _ h1]
theorem cutting {S s j mt n sg t b c : Nat} (hS : S ≤ 400) (hj : j < 4) (h : CT lv κ νc μ ν H S s sg t b c) (hH : H ≤ 100000000) (hK : RK lv κ μ (700 + j) j) (hm : mt < cR μ j) (hn : n ≤ 1000) (hc : ∀ q, q < 6 → κ (S + 8 + 1000) q = μ (139 + s) q) (z : μ 0 33 = 0) (h9 : nD μ s < 9) : ∃ r r', zz_it (fun s1 : (Int32 × Int32 × zzM × zzN) => g_X1_cut_9 lv (S + 8) (700 + j) (Int32.ofNat mt) (Int32.ofNat (nC μ s)) (Int32.ofNat n) s1.1 s1.2.1 s1.2.2.1 s1.2.2.2) zz_F (κ (700 + j) 4, (0 : Int32), κ, νc) = some r ∧ zz_it (fun s1 : (Int32 × Int32 × zzM × zzN) => g_X10_cover_173 (Int32.ofNat s) (Int32.ofNat j) (Int32.ofNat mt) (Int32.ofNat n) s1.1 s1.2.1 s1.2.2.1 s1.2.2.2) zz_F (μ 171 j, (0 : Int32), μ, ν) = some r' ∧ r.2.2 = νc ∧ r'.2.2 = ν ∧ ((r.1 = 0 ∧ r'.1 = 0 ∧ ∃ i f m, CI κ μ r.2.1 m S s j mt n i f ∧ r'.2.1 = zset m 0 33 4) ∨ (r.1 = 1 ∧ ∃ f k m, CI κ μ k m S s j mt n (nC μ s) f ∧ r.2.1 = kCut k S j mt (nC μ s) n f ∧ r'.1 = Int32.ofNat f ∧ r'.2.1 = mDone (mCut m ν s j n f) s 99)) := by
  obtain ⟨A, hB, -⟩ := id h
  have hs := hB.1
  have hc6 := hB.2.1.2.2
  have hc0 := hB.2.1.1
  obtain ⟨w1, ⟨w2, w2', w3⟩, ⟨w4, w4', w5, w6⟩, ⟨w7, w7', w8⟩, ⟨w9, w9', w10⟩, w11⟩ := hK
  have a2 := A.2.2.2.2.2.2.2.2.1
  have aa := A.2.2.2.2.2.2.2.2.2.2.2.2.2.2.2.1
  refine zit_2X (fun i a e => ∃ f, a.1 = Int32.ofNat f ∧ e.1 = Int32.ofNat f ∧ a.2.1 = Int32.ofNat i ∧ e.2.1 = Int32.ofNat i ∧ a.2.2.2 = νc ∧ e.2.2.2 = ν ∧ CI κ μ a.2.2.1 e.2.2.1 S s j mt n i f) _ (nC μ s) (by omega) ⟨cU μ j, by show κ (700 + j) 4 = _; rw [w9, w9'], w9', rfl, rfl, rfl, rfl, fun _ _ => rfl, fun _ _ => rfl, hc, Nat.le_refl _, w10, fun q hq => absurd hq (Nat.not_lt_zero q)⟩ ?_
  rintro i hi ⟨x1, x2, k, x4⟩ ⟨y1, y2, m, y4⟩ ⟨f, q1, q2, q3, q4, q5, q6, q7⟩
  dsimp only at q1 q2 q3 q4 q5 q6 q7
  subst q1 q2 q3 q4 q5 q6
  obtain ⟨b1, b2, b3, b4, b5, b6⟩ := id q7
  have z2 : m 0 33 = 0 := by rw [b2 0 (by omega)]; exact z
  by_cases g : i = nC μ s
  · right
    subst g
    obtain ⟨hct, e1, e2, e3, e4⟩ := cov_tr (κ' := κ) (μ' := mCu3 m s j n f) (j := j) hS hj (fun o _ _ _ => rfl) (fun o i h1 h2 h3 h4 h5 => mCu3_o b2 h1 h2 h3 h4) h
    obtain ⟨A2, hB2, hF2, hN2, hG2, hV2, hz2, hX2, hO2, hM2, hT2, hD2, hA2, hL2, hVb2, hP2⟩ := hct
    obtain ⟨hB3, d1, d2, d3, d4⟩ := Bd_of (μ' := mCut m y4 s j n f) (by unfold mCut; rw [zset_e (by omega)]) (by unfold mCut; rw [zset_e (by omega)]) (by unfold mCut; rw [zset_e (by omega)]) (by unfold mCut; rw [zset_e (by omega)]) hB2
    have f1 : Int32.ofNat (nC μ s) ≤ Int32.ofNat (nC μ s) := ple (by omega)
    obtain ⟨c1, c2⟩ := cgc_s (α := Int32 × zzM × zzN) (x := cgd lv 2 (S + 8) (cgd lv 2 (S + 8) (cgd lv 2 (S + 8) (cgd lv 2 (S + 8) (some ((1 : Int32), (zset (zset (zset (zset (zset k (700 + j) 4 (Int32.ofNat f)) (S + 8) 3 (cloth1 (some (700 + j)))) (S + 8) 4 (Int32.ofNat mt)) (S + 8) 1 (Int32.ofNat (nC μ s))) (S + 8) 2 (Int32.ofNat n)), x4)))))) hj
    refine ⟨(1, kCut k S j mt (nC μ s) n f, x4), (Int32.ofNat f, mDone (mCut m y4 s j n f) s 99, y4), ?_, ?_, rfl, rfl, Or.inr ⟨rfl, f, k, m, q7, rfl, rfl, rfl⟩⟩
    · show g_X1_cut_9 lv (S + 8) (700 + j) (Int32.ofNat mt) (Int32.ofNat (nC μ s)) (Int32.ofNat n) (Int32.ofNat f) (Int32.ofNat (nC μ s)) k x4 = _
      unfold g_X1_cut_9 g_X1_cut_65 kCut
      rw [if_pos f1, cg w1.1, c2, cg a2, cg a2, cg a2, cg a2, c1]
      rfl
    · show g_X10_cover_173 (Int32.ofNat s) (Int32.ofNat j) (Int32.ofNat mt) (Int32.ofNat n) (Int32.ofNat f) (Int32.ofNat (nC μ s)) m y4 = _
      have et : g_X10_tops (Int32.ofNat s) (mCu3 m s j n f) y4 = some (tSum (mCu3 m s j n f) s (tTop (mCu3 m s j n f) y4 s)) := em_tops hB2 (Vb_Dn hVb2 hH)
      have ed := em_done (ν := y4) (a := 99) hB3 (by rw [d3, e3]; exact h9) (by decide)
      unfold mCu3 at et
      unfold g_X10_cover_173
      rw [gi1 hs, b2 1 (by omega), hc0, if_pos f1, gs171 hj, gs143 hs, gs144 hs, et, zb_s, gs145 hs]
      unfold mCut mCu3 at ed
      rw [ed, zg1_s]
      rfl
  · have hi2 : i < nC μ s := by omega
    have f1 : ¬ Int32.ofNat (nC μ s) ≤ Int32.ofNat i := nle (by omega)
    have f2 : ¬ Int32.ofNat 6 ≤ Int32.ofNat i := nle (by omega)
    obtain ⟨v, ev, pv⟩ := ec_firstPlace (κ := k) (νc := x4) (o := 700 + j) (L := cL μ j) (r := cR μ j) (m := mt) (n := n) (cnt := cF μ j) (f := f) (fl := fL μ j) w1 (by rw [b1 _ (by omega), w2, w2']) w3 w5 w6 (by rw [b1 _ (by omega), w4, w4']) hm (by rw [b1 _ (by omega), w7, w7']) w8 (fun q hq => by
      obtain ⟨p1, p2, p3⟩ := w11 q hq
      exact ⟨by rw [b1 _ (by omega), p1, p2], by omega⟩) (by omega) hn
    obtain ⟨v', ev', pv'⟩ := em_placeFor (μ := m) (ν := y4) (j := j) (L := cL μ j) (r := cR μ j) (m := mt) (n := n) (cnt := cF μ j) (f := f) (fl := fL μ j) hj (by rw [b2 _ (by omega), w2']) w3 w5 w6 (by rw [b2 _ (by omega), w4']) hm (by rw [b2 _ (by omega), w7']) w8 (fun q hq => by
      obtain ⟨p1, p2, p3⟩ := w11 q hq
      exact ⟨by rw [b2 _ (by omega), p2], by omega⟩) (by omega) hn
    have evv := PF_one pv pv'
    subst evv
    rcases pv with ⟨p, rfl, p1, p2, p3, -⟩ | ⟨rfl, -⟩
    · left
      have f3 : (0 : Int32) ≤ Int32.ofNat p := ple (a := 0) (by omega)
      refine ⟨(Int32.ofNat (p + n), Int32.ofNat (i + 1), zset k (S + 8 + 1000) i (Int32.ofNat p), x4), (Int32.ofNat (p + n), Int32.ofNat (i + 1), zset m (139 + s) i (Int32.ofNat p), y4), hi2, ?_, ?_, p + n, rfl, rfl, rfl, rfl, rfl, rfl, CI_s (by omega) q7 w3 p1 p2 p3⟩
      · show g_X1_cut_9 lv (S + 8) (700 + j) (Int32.ofNat mt) (Int32.ofNat (nC μ s)) (Int32.ofNat n) (Int32.ofNat f) (Int32.ofNat i) k x4 = _
        unfold g_X1_cut_9
        rw [if_neg f1, cg a2, cl aa, if_neg f2, cg w1.1, ev, zb_s, if_pos f3, cg a2, cs aa (by omega), on_a, on_s]
      · show g_X10_cover_173 (Int32.ofNat s) (Int32.ofNat j) (Int32.ofNat mt) (Int32.ofNat n) (Int32.ofNat f) (Int32.ofNat i) m y4 = _
        unfold g_X10_cover_173 g_X10_cover_207
        rw [gi1 hs, b2 1 (by omega), hc0, if_neg f1, ev', zb_s, if_pos f3, em_thz _ z2, zg1_s, if_pos rfl, gq138 hs, gs138 hs (by omega), on_a, on_s]
    · right
      have f3 : ¬ (0 : Int32) ≤ -1 := by decide
      refine ⟨(0, k, x4), (0, zset m 0 33 4, y4), ?_, ?_, rfl, rfl, Or.inl ⟨rfl, rfl, i, f, m, q7, rfl⟩⟩
      · show g_X1_cut_9 lv (S + 8) (700 + j) (Int32.ofNat mt) (Int32.ofNat (nC μ s)) (Int32.ofNat n) (Int32.ofNat f) (Int32.ofNat i) k x4 = _
        unfold g_X1_cut_9
        rw [if_neg f1, cg a2, cl aa, if_neg f2, cg w1.1, ev, zb_s, if_neg f3]
      · show g_X10_cover_173 (Int32.ofNat s) (Int32.ofNat j) (Int32.ofNat mt) (Int32.ofNat n) (Int32.ofNat f) (Int32.ofNat i) m y4 = _
        unfold g_X10_cover_173 g_X10_cover_207
        rw [gi1 hs, b2 1 (by omega), hc0, if_neg f1, ev', zb_s, if_neg f3, em_th1, zg1_s, if_neg (by decide)]
end ZWO
