section ZRB
variable {lv : Nat → Bool} {κ κ' : zzM} {νc νc' : zzN} {μ μ' : zzM} {ν ν' : zzN} {H H' : Int} {nS nB nK : Nat}
theorem RR_t (t : Int32) (R : RR lv κ νc μ ν H nS nB nK) : RR lv κ νc (zset μ 0 33 t) ν H nS nB nK := by
  obtain ⟨r1, r2, r3, r4, r5, r6, r7, r8, r9, r10, r11⟩ := R
  have z : ∀ o, o ≠ 0 → zset μ 0 33 t o = μ o := fun o h => zset_o h
  have sm : ∀ s, SM μ (zset μ 0 33 t) ν ν s := fun s => ⟨fun o i h => by rw [z o (by unfold FP at h; omega)], fun i => rfl⟩
  have hl : ∀ s, tLast (zset μ 0 33 t) s = tLast μ s := fun s => tLast_m (sm s)
  refine ⟨?_, r2, fun s hs => RS_km (sm s) ⟨fun _ _ => rfl, fun _ _ _ => rfl⟩ (Int.le_refl _) (r3 s hs), fun s h1 h2 => ?_, fun b hb => ⟨(r5 b hb).1, ?_⟩, fun b h1 h2 x y hx hy => ?_, fun j hj => ?_, fun j h1 h2 => ?_, fun j hj => ?_, fun s hs => ?_, fun s1 s2 h1 h2 => ?_⟩
  · rw [zset_e (by omega), zset_e (by omega), zset_e (by omega)]
    exact r1
  · unfold Zs
    rw [z 3 (by omega), z 83 (by omega), z 143 (by omega), z 144 (by omega), z 145 (by omega), z (139 + s) (by omega)]
    obtain ⟨q1, q2, q3, q4, q5, q6, q7⟩ := r4 s h1 h2
    exact ⟨q1, q2, q3, q4, q5, fun x y hx hy => by rw [z _ (by omega)]; exact q6 x y hx hy, q7⟩
  · obtain ⟨-, q1, q2⟩ := r5 b hb
    refine ⟨fun i hi => ?_, fun x y hx hy => ?_⟩
    · rw [z _ (by omega)]; exact q1 i hi
    · rw [z _ (by omega)]; exact q2 x y hx hy
  · rw [z _ (by omega)]; exact r6 b h1 h2 x y hx hy
  · unfold RK cL cR cF cU fL
    rw [z 169 (by omega), z 170 (by omega), z 171 (by omega), z 172 (by omega), z (174 + j) (by omega)]
    exact r7 j hj
  · rw [z _ (by omega), z _ (by omega)]; exact r8 j h1 h2
  · unfold RLn
    rw [z _ (by omega), z _ (by omega)]; exact r9 j hj
  · unfold RP cR cU cF fL pL pN nC
    rw [hl, z 143 (by omega), z (139 + s) (by omega), z 1 (by omega)]
    intro g
    obtain ⟨j, mt, w⟩ := r10 s hs g
    refine ⟨j, mt, ?_⟩
    rw [z 170 (by omega), z 171 (by omega), z 172 (by omega), z (174 + j) (by omega)]
    exact w
  · unfold RQ pL pN nC
    rw [hl, hl, z 143 (by omega), z (139 + s1) (by omega), z (139 + s2) (by omega), z 1 (by omega)]
    exact r11 s1 s2 h1 h2
/-- the two grids for sinkings don't matter -/
theorem RR_g (h : ∀ o, o ≠ 1005 → o ≠ 1006 → κ' o = κ o) (R : RR lv κ νc μ ν H nS nB nK) : RR lv κ' νc μ ν H nS nB nK := by
  obtain ⟨r1, ⟨g1, g2, g3, g4, g5, g6⟩, r3, r4, r5, r6, r7, r8, r9, r10, r11⟩ := R
  have n4 := r1.2.1
  have b3 := r1.2.2.1
  have k4 := r1.2.2.2.1
  refine ⟨r1, ⟨?_, ?_, ?_, ?_, g5, g6⟩, fun s hs => RS_km ⟨fun _ _ _ => rfl, fun _ => rfl⟩ ⟨fun o ho => h o (by unfold FK at ho; omega) (by unfold FK at ho; omega), fun _ _ _ => rfl⟩ (Int.le_refl _) (r3 s hs), r4, fun b hb => ⟨(r5 b hb).1, ?_, (r5 b hb).2.2⟩, r6, fun j hj => ?_, r8, fun j hj => ?_, fun s hs => ?_, fun s1 s2 h1 h2 => ?_⟩
  · unfold Gr; rw [h 1 (by omega) (by omega)]; exact g1
  · unfold Gr; rw [h 2 (by omega) (by omega)]; exact g2
  · unfold Gr; rw [h 3 (by omega) (by omega)]; exact g3
  · unfold Gr; rw [h 4 (by omega) (by omega)]; exact g4
  · rw [h (600 + b + 1000) (by omega) (by omega)]; exact (r5 b hb).2.1
  · unfold RK; rw [h (700 + j) (by omega) (by omega), h (700 + j + 1000) (by omega) (by omega)]; exact r7 j hj
  · unfold RLn; rw [h (800 + j) (by omega) (by omega)]; exact r9 j hj
  · unfold RP; rw [h (100 * (s + 1) + 8) (by omega) (by omega)]; exact r10 s hs
  · unfold RQ; rw [h (100 * (s1 + 1) + 8) (by omega) (by omega), h (100 * (s2 + 1) + 8) (by omega) (by omega)]; exact r11 s1 s2 h1 h2
theorem ec_ix1 {x : Int32} {n : Nat} (h : x < 0 ∨ (¬ x < 0 ∧ ¬ x < Int32.ofNat n)) : g_X9_needIndex lv x (Int32.ofNat n) κ νc = some (.inr 2) := by
  unfold g_X9_needIndex g_X9_needIndex_9
  rcases h with h | ⟨h1, h2⟩
  · rw [if_pos h]
  · rw [if_neg h1, if_neg h2]
theorem ec_ix0 {i n : Nat} (h : i < n) (hn : n < 2 ^ 31) : g_X9_needIndex lv (Int32.ofNat i) (Int32.ofNat n) κ νc = some (.inl ()) := by
  unfold g_X9_needIndex g_X9_needIndex_9
  rw [if_neg (on_nn i (by omega)), if_pos (plt (by omega))]
theorem ec_el1 {x : Int32} {n : Nat} (h : x < 0 ∨ (¬ x < 0 ∧ ¬ x < Int32.ofNat n)) : g_X9_needElement lv x (Int32.ofNat n) κ νc = some (.inr 4) := by
  unfold g_X9_needElement g_X9_needElement_9
  rcases h with h | ⟨h1, h2⟩
  · rw [if_pos h]
  · rw [if_neg h1, if_neg h2]
theorem ec_el0 {i n : Nat} (h : i < n) (hn : n < 2 ^ 31) : g_X9_needElement lv (Int32.ofNat i) (Int32.ofNat n) κ νc = some (.inl ()) := by
  unfold g_X9_needElement g_X9_needElement_9
  rw [if_neg (on_nn i (by omega)), if_pos (plt (by omega))]
theorem ec_ra1 {x a b : Int32} (h : x < a ∨ (¬ x < a ∧ b < x)) : g_X9_needRange lv x a b κ νc = some (.inr 0) := by
  unfold g_X9_needRange g_X9_needRange_10
  rcases h with h | ⟨h1, h2⟩
  · rw [if_pos h]
  · rw [if_neg h1, if_neg (fun q => Int32.lt_irrefl (Int32.lt_of_lt_of_le h2 q))]
theorem ec_ra0 {x a b : Int32} (h : ¬ x < a ∧ ¬ b < x) : g_X9_needRange lv x a b κ νc = some (.inl ()) := by
  unfold g_X9_needRange g_X9_needRange_10
  rw [if_neg h.1, if_pos (Int32.not_lt.mp h.2)]
theorem em_ra1 {x a b : Int32} (h : x < a ∨ (¬ x < a ∧ b < x)) : g_X10_isIn x a b μ ν = some 0 := by
  rw [em_isIn]
  rcases h with h | ⟨h1, h2⟩
  · rw [if_pos h]
  · rw [if_neg h1, if_pos h2]
theorem em_ra0 {x a b : Int32} (h : ¬ x < a ∧ ¬ b < x) : g_X10_isIn x a b μ ν = some 1 := by
  rw [em_isIn, if_neg h.1, if_neg h.2]
theorem ra_cases (x a b : Int32) : (x < a ∨ (¬ x < a ∧ b < x)) ∨ (¬ x < a ∧ ¬ b < x) := by
  by_cases h1 : x < a
  · exact Or.inl (Or.inl h1)
  · by_cases h2 : b < x
    · exact Or.inl (Or.inr ⟨h1, h2⟩)
    · exact Or.inr ⟨h1, h2⟩
theorem ra_I {x a b : Int32} (h : ¬ x < a ∧ ¬ b < x) : a.toInt ≤ x.toInt ∧ x.toInt ≤ b.toInt := by
  rw [Int32.lt_iff_toInt_lt, Int32.lt_iff_toInt_lt] at h
  omega
theorem ec_of1 {x : Int32} {o n : Nat} (ho : o = 1 ∨ o = 2 ∨ o = 3 ∨ o = 4) (g : Gr lv κ o n) : True := trivial
theorem ec_seatOf1 {x : Int32} (R : RR lv κ νc μ ν H nS nB nK) (h : x < 0 ∨ (¬ x < 0 ∧ ¬ x < Int32.ofNat nS)) : g_X9_seatOf lv 0 x κ νc = some (.inr 2) := by
  obtain ⟨⟨r0, r1⟩, ⟨g1, -⟩, -⟩ := R
  have h1 : lv (0 + 1) = true ∧ co (0 + 1) = 0 := g1.1
  have h2 : κ (0 + 1) 2 = Int32.ofNat nS := g1.2.1
  unfold g_X9_seatOf
  rw [cg r0, cg h1, cg h1, h2, ec_ix1 h, zth_r]
theorem ec_seatOf0 {s : Nat} (R : RR lv κ νc μ ν H nS nB nK) (h : s < nS) : g_X9_seatOf lv 0 (Int32.ofNat s) κ νc = some (.inl (100 * (s + 1))) := by
  obtain ⟨⟨r0, r1⟩, ⟨g1, -⟩, r3, -⟩ := R
  have h1 : lv (0 + 1) = true ∧ co (0 + 1) = 0 := g1.1
  have h2 : κ (0 + 1) 2 = Int32.ofNat nS := g1.2.1
  have h3 : lv (0 + 1 + 1000) = true ∧ ¬ κ (0 + 1) 3 = 0 := g1.2.2.1 (by omega)
  have h8 := (r3 s h).1.1
  unfold g_X9_seatOf
  rw [cg r0, cg h1, cg h1, h2, ec_ix0 h (by omega), zth_l, cg r0, cg h1, cgt h1 h3 h2 (by omega) h]
  show cgd lv 8 (100 * (s + 1)) _ = _
  rw [cg h8]
  rfl
theorem ec_bodyOf1 {x : Int32} (R : RR lv κ νc μ ν H nS nB nK) (h : x < 0 ∨ (¬ x < 0 ∧ ¬ x < Int32.ofNat nB)) : g_X9_bodyOf lv 0 x κ νc = some (.inr 2) := by
  obtain ⟨⟨r0, r1⟩, ⟨-, g1, -⟩, -⟩ := R
  have h1 : lv (0 + 2) = true ∧ co (0 + 2) = 0 := g1.1
  have h2 : κ (0 + 2) 2 = Int32.ofNat nB := g1.2.1
  unfold g_X9_bodyOf
  rw [cg r0, cg h1, cg h1, h2, ec_ix1 h, zth_r]
theorem ec_bodyOf0 {s : Nat} (R : RR lv κ νc μ ν H nS nB nK) (h : s < nB) : g_X9_bodyOf lv 0 (Int32.ofNat s) κ νc = some (.inl (600 + s)) := by
  obtain ⟨⟨r0, r1⟩, ⟨-, g1, -⟩, r3, r4, r5, -⟩ := R
  have h1 : lv (0 + 2) = true ∧ co (0 + 2) = 0 := g1.1
  have h2 : κ (0 + 2) 2 = Int32.ofNat nB := g1.2.1
  have h3 : lv (0 + 2 + 1000) = true ∧ ¬ κ (0 + 2) 3 = 0 := g1.2.2.1 (by omega)
  have h8 := (r5 s h).1.1
  unfold g_X9_bodyOf
  rw [cg r0, cg h1, cg h1, h2, ec_ix0 h (by omega), zth_l, cg r0, cg h1, cgt h1 h3 h2 (by omega) h]
  show cgd lv 5 (600 + s) _ = _
  rw [cg h8]
  rfl
theorem ec_clothOf1 {x : Int32} (R : RR lv κ νc μ ν H nS nB nK) (h : x < 0 ∨ (¬ x < 0 ∧ ¬ x < Int32.ofNat nK)) : g_X9_clothOf lv 0 x κ νc = some (.inr 2) := by
  obtain ⟨⟨r0, r1⟩, ⟨-, -, g1, -⟩, -⟩ := R
  have h1 : lv (0 + 3) = true ∧ co (0 + 3) = 0 := g1.1
  have h2 : κ (0 + 3) 2 = Int32.ofNat nK := g1.2.1
  unfold g_X9_clothOf
  rw [cg r0, cg h1, cg h1, h2, ec_ix1 h, zth_r]
theorem ec_clothOf0 {s : Nat} (R : RR lv κ νc μ ν H nS nB nK) (h : s < nK) : g_X9_clothOf lv 0 (Int32.ofNat s) κ νc = some (.inl (700 + s)) := by
  obtain ⟨⟨r0, r1⟩, ⟨-, -, g1, -⟩, r3, r4, r5, r6, r7, -⟩ := R
  have h1 : lv (0 + 3) = true ∧ co (0 + 3) = 0 := g1.1
  have h2 : κ (0 + 3) 2 = Int32.ofNat nK := g1.2.1
  have h3 : lv (0 + 3 + 1000) = true ∧ ¬ κ (0 + 3) 3 = 0 := g1.2.2.1 (by omega)
  have h8 := (r7 s h).1.1
  unfold g_X9_clothOf
  rw [cg r0, cg h1, cg h1, h2, ec_ix0 h (by omega), zth_l, cg r0, cg h1, cgt h1 h3 h2 (by omega) h]
  show cgd lv 1 (700 + s) _ = _
  rw [cg h8]
  rfl
theorem ec_landOf1 {x : Int32} (R : RR lv κ νc μ ν H nS nB nK) (h : x < 0 ∨ (¬ x < 0 ∧ ¬ x < Int32.ofNat 4)) : g_X9_landOf lv 0 x κ νc = some (.inr 2) := by
  obtain ⟨⟨r0, r1⟩, ⟨-, -, -, g1, -⟩, -⟩ := R
  have h1 : lv (0 + 4) = true ∧ co (0 + 4) = 0 := g1.1
  have h2 : κ (0 + 4) 2 = Int32.ofNat 4 := g1.2.1
  unfold g_X9_landOf
  rw [cg r0, cg h1, cg h1, h2, ec_ix1 h, zth_r]
theorem ec_landOf0 {s : Nat} (R : RR lv κ νc μ ν H nS nB nK) (h : s < 4) : g_X9_landOf lv 0 (Int32.ofNat s) κ νc = some (.inl (800 + s)) := by
  obtain ⟨⟨r0, r1⟩, ⟨-, -, -, g1, -⟩, r3, r4, r5, r6, r7, r8, r9, -⟩ := R
  have h1 : lv (0 + 4) = true ∧ co (0 + 4) = 0 := g1.1
  have h2 : κ (0 + 4) 2 = Int32.ofNat 4 := g1.2.1
  have h3 : lv (0 + 4 + 1000) = true ∧ ¬ κ (0 + 4) 3 = 0 := g1.2.2.1 (by omega)
  have h8 := (r9 s h).1
  unfold g_X9_landOf
  rw [cg r0, cg h1, cg h1, h2, ec_ix0 h (by omega), zth_l, cg r0, cg h1, cgt h1 h3 h2 (by omega) h]
  show cgd lv 6 (800 + s) _ = _
  rw [cg h8]
  rfl
/-- what an operation owes -/
def Op1 (lv : Nat → Bool) (H : Int) (nS nB nK : Nat) (cd : Nat → Option Int32) (gx : Option ((Int32 ⊕ Nat) × zzM × zzN)) (gm : Option (Int32 × zzM × zzN)) : Prop := ∃ (out : Int32 ⊕ Nat) (κ' : zzM) (νc' : zzN) (v : Int32) (μ' : zzM) (ν' : zzN), gx = some (out, κ', νc') ∧ gm = some (v, μ', ν') ∧ RR lv κ' νc' μ' ν' H nS nB nK ∧ ((∃ w, out = .inl w ∧ μ' 0 33 = 0 ∧ v = w) ∨ ∃ e, out = .inr e ∧ cd e = some (μ' 0 33) ∧ ¬ μ' 0 33 = 0)
theorem Op1_e {cd : Nat → Option Int32} {gx : Option ((Int32 ⊕ Nat) × zzM × zzN)} {gm : Option (Int32 × zzM × zzN)} {e : Nat} {t v : Int32} (R : RR lv κ νc μ ν H nS nB nK) (h1 : gx = some (.inr e, κ, νc)) (h2 : gm = some (v, zset μ 0 33 t, ν)) (h3 : cd e = some t) (h4 : ¬ t = 0) : Op1 lv H nS nB nK cd gx gm := ⟨_, _, _, _, _, _, h1, h2, RR_t t R, Or.inr ⟨e, rfl, by rw [zset_h]; exact h3, by rw [zset_h]; exact h4⟩⟩
theorem Op1_v {cd : Nat → Option Int32} {gx : Option ((Int32 ⊕ Nat) × zzM × zzN)} {gm : Option (Int32 × zzM × zzN)} {v : Int32} (R : RR lv κ' νc' μ' ν' H nS nB nK) (h0 : μ' 0 33 = 0) (h1 : gx = some (.inl v, κ', νc')) (h2 : gm = some (v, μ', ν')) : Op1 lv H nS nB nK cd gx gm := ⟨_, _, _, _, _, _, h1, h2, R, Or.inl ⟨v, rfl, h0, rfl⟩⟩
/-- a class's method that only reads -/
def up (κ : zzM) (νc : zzN) (g : Option (Int32 ⊕ Nat)) : Option ((Int32 ⊕ Nat) × zzM × zzN) := Option.map (fun o => (o, κ, νc)) g
end ZRB
