section ZJE
variable {t0 base : Nat} {ow : zz_H} {μ μ' : zzM} {ν ν' : zzN} {H : Int} {nK : Nat} {h : zz_H} {n : Nat}
/-- panels cut one behind the other -/
def mPan (μ : zzM) (n k : Nat) : zzM := fun o i => if o = 138 + 1 + 0 ∧ i < k then Int32.ofNat (i * n) else μ o i
theorem mPan_o {k o i : Nat} (h : o ≠ 139) : mPan μ n k o i = μ o i := if_neg (fun q => h q.1)
theorem mPan_0 : mPan μ n 0 = μ := by
  funext o i
  exact if_neg (by omega)
theorem mPan_s {k : Nat} : zset (mPan μ n k) (138 + 1 + 0) k (Int32.ofNat (k * n)) = mPan μ n (k + 1) := by
  funext o i
  unfold zset mPan
  by_cases g : o = 138 + 1 + 0 ∧ i = k
  · rw [if_pos g, if_pos (by omega), g.2]
  · rw [if_neg g]
    by_cases g2 : o = 138 + 1 + 0 ∧ i < k
    · rw [if_pos g2, if_pos (by omega)]
    · rw [if_neg g2, if_neg (by omega)]
/-- the cover: what the state is behind it -/
def mCov (μ : zzM) (ν : zzN) (n : Nat) : zzM := mDone (mCut (mPan μ n (nC μ 0)) ν 0 0 n (nC μ 0 * n)) 0 99
theorem mCu3_f {m : zzM} {n f o i : Nat} (hm : ∀ o i, o ≠ 139 → m o i = μ o i) (h1 : o ≠ 139) (h2 : o ≠ 171) (h3 : o ≠ 143) (h4 : o ≠ 144) : mCu3 m 0 0 n f o i = μ o i := by
  unfold mCu3
  rw [zset_e (by omega), zset_e (by omega), zset_e (by omega), hm _ _ h1]
theorem cu3_q (q : PQ μ ν H nK) {n f k : Nat} : Bd (mCu3 (mPan μ n k) 0 0 n f) 0 ∧ nC (mCu3 (mPan μ n k) 0 0 n f) 0 = nC μ 0 ∧ nR (mCu3 (mPan μ n k) 0 0 n f) 0 = nR μ 0 ∧ nD (mCu3 (mPan μ n k) 0 0 n f) 0 = nD μ 0 ∧ nL (mCu3 (mPan μ n k) 0 0 n f) 0 = nL μ 0 ∧ Vb (mCu3 (mPan μ n k) 0 0 n f) ν H 0 := by
  obtain ⟨z0, h30, h32, hB, ⟨t, b, c, hV, hz⟩, hO, hVb, hH⟩ := q
  have a : ∀ o i, o ≠ 139 → o ≠ 171 → o ≠ 143 → o ≠ 144 → mCu3 (mPan μ n k) 0 0 n f o i = μ o i := fun o i h1 h2 h3 h4 => mCu3_f (fun o i g => mPan_o g) h1 h2 h3 h4
  obtain ⟨b1, b2, b3, b4, b5⟩ := Bd_of (μ' := mCu3 (mPan μ n k) 0 0 n f) (a _ _ (by omega) (by omega) (by omega) (by omega)) (a _ _ (by omega) (by omega) (by omega) (by omega)) (a _ _ (by omega) (by omega) (by omega) (by omega)) (a _ _ (by omega) (by omega) (by omega) (by omega)) hB
  exact ⟨b1, b2, b3, b4, b5, Vb_c b5 (a _ _ (by omega) (by omega) (by omega) (by omega)) (a _ _ (by omega) (by omega) (by omega) (by omega)) (fun o i ho => a _ _ (by omega) (by omega) (by omega) (by omega)) (fun i => rfl) hVb⟩
theorem cu3_t (q : PQ μ ν H nK) {n f k : Nat} : tSum (mCu3 (mPan μ n k) 0 0 n f) 0 (tTop (mCu3 (mPan μ n k) 0 0 n f) ν 0) = tSum μ 0 (tTop μ ν 0) := by
  obtain ⟨b1, b2, b3, b4, b5, -⟩ := cu3_q q (n := n) (f := f) (k := k)
  have a : ∀ o i, o ≠ 139 → o ≠ 171 → o ≠ 143 → o ≠ 144 → mCu3 (mPan μ n k) 0 0 n f o i = μ o i := fun o i h1 h2 h3 h4 => mCu3_f (fun o i g => mPan_o g) h1 h2 h3 h4
  have hB := q.2.2.2.1
  have hc6 := hB.2.1.2.2
  have hr6 := hB.2.2.1.2.2
  have hl4 := hB.2.2.2.2.2
  have e : ∀ x y, x < nC μ 0 → y < nR μ 0 → tTop (mCu3 (mPan μ n k) 0 0 n f) ν 0 x y = tTop μ ν 0 x y := fun x y hx hy => by
    unfold tTop tH
    rw [b5, a 3 _ (by omega) (by omega) (by omega) (by omega), a (17 + 7 * 0 + x) _ (by omega) (by omega) (by omega) (by omega), a (74 + 0) _ (by omega) (by omega) (by omega) (by omega), a (79 + 0) _ (by omega) (by omega) (by omega) (by omega), a (111 + 7 * 0 + x) _ (by omega) (by omega) (by omega) (by omega)]
    congr 1
  unfold tSum
  rw [b2, b3]
  exact zfd_ext (fun x hx v => zfd_ext (fun y hy w => by rw [e x y hx hy]))
theorem em_cutting (q : PQ μ ν H 1) {n : Nat} (hn : n ≤ 1000) (hcn : nC μ 0 * n ≤ 2000) (k0 : μ 169 0 = 2000) (k1 : μ 170 0 = 1) (k2 : μ 171 0 = 0) (k3 : μ 172 0 = 0) (h9 : nD μ 0 < 9) : zz_it (fun s1 : (Int32 × Int32 × zzM × zzN) => g_X10_cover_173 (Int32.ofNat 0) (Int32.ofNat 0) (Int32.ofNat 0) (Int32.ofNat n) s1.1 s1.2.1 s1.2.2.1 s1.2.2.2) zz_F (μ 171 0, (0 : Int32), μ, ν) = some (Int32.ofNat (nC μ 0 * n), mCov μ ν n, ν) := by
  have q0 := q
  obtain ⟨z0, h30, h32, hB, ⟨t, b, c, hV, hz⟩, hO, hVb, hH⟩ := q
  have hs4 := z1_4
  have hc6 := hB.2.1.2.2
  have main : ∃ r, zz_it (fun s1 : (Int32 × Int32 × zzM × zzN) => g_X10_cover_173 (Int32.ofNat 0) (Int32.ofNat 0) (Int32.ofNat 0) (Int32.ofNat n) s1.1 s1.2.1 s1.2.2.1 s1.2.2.2) zz_F (μ 171 0, (0 : Int32), μ, ν) = some r ∧ r = (Int32.ofNat (nC μ 0 * n), mCov μ ν n, ν) := by
    refine zit_I (fun i s => s = (Int32.ofNat (i * n), Int32.ofNat i, mPan μ n i, ν)) (fun r => r = (Int32.ofNat (nC μ 0 * n), mCov μ ν n, ν)) (nC μ 0) (by omega) (by rw [k2, mPan_0, Nat.zero_mul]; rfl) ?_ ?_
    · intro i hi s hs
      subst hs
      have hin : i * n + n ≤ 2000 := by
        have h1 : (i + 1) * n ≤ nC μ 0 * n := Nat.mul_le_mul_right n hi
        rw [Nat.succ_mul] at h1
        omega
      have m1 : ∀ o j, o ≠ 139 → mPan μ n i o j = μ o j := fun o j g => mPan_o g
      obtain ⟨v, ev, pv⟩ := em_placeFor (μ := mPan μ n i) (ν := ν) (j := 0) (L := 2000) (r := 1) (m := 0) (n := n) (cnt := 0) (f := i * n) (fl := fun _ => 0) hs4 (by rw [m1 _ _ (by omega)]; exact k0) (by omega) (by omega) (by omega) (by rw [m1 _ _ (by omega)]; exact k1) (by omega) (by rw [m1 _ _ (by omega)]; exact k3) (by omega) (fun k hk => absurd hk (by omega)) (by omega) hn
      have ok : okP 1 0 n 0 (fun _ => 0) (i * n) := ⟨Nat.mod_one _, fun k hk => absurd hk (by omega)⟩
      have ev2 : v = Int32.ofNat (i * n) := by
        rcases pv with ⟨p, rfl, p1, p2, p3, p4⟩ | ⟨-, p4⟩
        · rcases Nat.lt_or_ge (i * n) p with g | g
          · exact absurd ok (p4 _ (Nat.le_refl _) g)
          · rw [show p = i * n by omega]
        · exact absurd ok (p4 _ (Nat.le_refl _) (by omega))
      subst ev2
      refine ⟨_, ?_, rfl⟩
      show g_X10_cover_173 (Int32.ofNat 0) (Int32.ofNat 0) (Int32.ofNat 0) (Int32.ofNat n) (Int32.ofNat (i * n)) (Int32.ofNat i) (mPan μ n i) ν = _
      unfold g_X10_cover_173 g_X10_cover_207
      rw [gi1 hs4, m1 1 _ (by omega), hB.2.1.1, if_neg (nle (by omega)), ev, zb_s, if_pos (by rw [nlt0]; exact ple (by omega)), em_thz _ (by rw [m1 _ _ (by omega)]; exact z0), zg1_s, if_pos rfl, gq138 hs4, gs138 hs4 (by omega), on_a, on_s, Nat.succ_mul]
      rw [mPan_s]
    · intro s hs
      subst hs
      obtain ⟨b1, b2, b3, b4, b5, b6⟩ := cu3_q q0 (n := n) (f := nC μ 0 * n) (k := nC μ 0)
      have et := em_tops (ν := ν) b1 (Vb_Dn b6 hH)
      refine ⟨_, ?_, rfl⟩
      show g_X10_cover_173 (Int32.ofNat 0) (Int32.ofNat 0) (Int32.ofNat 0) (Int32.ofNat n) (Int32.ofNat (nC μ 0 * n)) (Int32.ofNat (nC μ 0)) (mPan μ n (nC μ 0)) ν = _
      have hBc : Bd (mCut (mPan μ n (nC μ 0)) ν 0 0 n (nC μ 0 * n)) 0 := b1
      have ed := em_done (ν := ν) (a := 99) hBc (by show nD (mCu3 (mPan μ n (nC μ 0)) 0 0 n (nC μ 0 * n)) 0 < 9; rw [b4]; exact h9) (by decide)
      unfold g_X10_cover_173
      rw [gi1 hs4, mPan_o (by omega), hB.2.1.1, if_pos (ple (by omega)), gs171 hs4, gs143 hs4, gs144 hs4]
      unfold mCu3 at et
      rw [et, zb_s, gs145 hs4]
      unfold mCut mCu3 at ed
      rw [ed, zg1_s]
      rfl
  obtain ⟨r, e1, e2⟩ := main
  rw [e1, e2]
theorem em_cover_v (q : PQ μ ν H 1) {n : Nat} (hln : tMax μ ν 0 + 10 * Int32.ofNat (nR μ 0) = Int32.ofNat n) (hn : n ≤ 1000) (hcn : nC μ 0 * n ≤ 2000) (k0 : μ 169 0 = 2000) (k1 : μ 170 0 = 1) (k2 : μ 171 0 = 0) (k3 : μ 172 0 = 0) (h9 : nD μ 0 < 9) (hsg : tSg μ 0 = 1) (can : tCan (tLast μ 0) (nL μ 0) 99 = true) : g_X10_cover 0 0 0 μ ν = some (Int32.ofNat (nC μ 0 * n), mCov μ ν n, ν) := by
  have hr := em_cutting q hn hcn k0 k1 k2 k3 h9
  obtain ⟨z0, h30, h32, hB, ⟨t, b, c, hV, hz⟩, hO, hVb, hH⟩ := q
  have hs4 := z1_4
  show g_X10_cover (Int32.ofNat 0) (Int32.ofNat 0) (Int32.ofNat 0) μ ν = _
  unfold g_X10_cover g_X10_cover_23 g_X10_cover_28 g_X10_cover_57 g_X10_cover_80 g_X10_cover_87
  rw [em_noSeat0 h30 (by omega) (by omega), zb_s, if_pos rfl, h32, em_isIn, zb_s, show (if (Int32.ofNat 0) < 0 then (0 : Int32) else if Int32.ofNat 1 - 1 < Int32.ofNat 0 then 0 else 1) = 1 from by decide, if_neg (by decide), em_th0, zg1_s, if_pos rfl, zset_z z0, gi170 hs4, k1, em_isIn, zb_s, show (if (Int32.ofNat 0) < 0 then (0 : Int32) else if (1 : Int32) - 1 < Int32.ofNat 0 then 0 else 1) = 1 from by decide, if_neg (by decide), em_thz _ z0, zg1_s, if_pos rfl, may_t hB (Lv_ch hV) (by decide) hsg can, zb_s, if_neg (by decide), em_thz _ z0, zg1_s, if_pos rfl]
  exact em_close hB hVb hH hs4 hln hr
end ZJE
