section ZXE
/-! making a frame, a seat -/
variable {t0 : Nat} {h : zz_H} {n a b v : Nat} {α : Type}
theorem zsi_r {t m i : Nat} {x : Int32} {f : Nat → Int32} {K : zz_H → Option α} (e : h a = some (zz_I t m f)) (hi : i < m) (hm : m < 1000) : zz_si t h (some a) (Int32.ofNat i) x K = K (zz_u h a (zz_I t m (upd f i x))) := by
  unfold zz_si
  simp only [e]
  rw [if_pos ⟨trivial, by
    rintro (q | q)
    · exact on_nn i (by omega) q
    · rw [on_n i (by omega)] at q
      omega⟩, on_n i (by omega)]
theorem fil_r {m : Nat} {x : Int32} {f : Nat → Int32} (e : h a = some (zz_I 0 m f)) (hm : m < 1000) : ∃ h', f_J7_fill_53178 (some a) x h = some ((), h') ∧ (∀ q, q ≠ a → h' q = h q) ∧ h' a = some (zz_I 0 m (fun i => if i < m then x else f i)) := by
  have main := zit_I (b := fun s : (Int32 × zz_H) => f_J7_fill_53178_5 (some a) x s.1 (Int32.ofNat m) s.2) (s := ((0 : Int32), h)) (fun i s => s.1 = Int32.ofNat i ∧ (∀ q, q ≠ a → s.2 q = h q) ∧ s.2 a = some (zz_I 0 m (fun k => if k < i then x else f k))) (fun r => (∀ q, q ≠ a → r.2 q = h q) ∧ r.2 a = some (zz_I 0 m (fun k => if k < m then x else f k))) m (by omega) ⟨rfl, fun _ _ => rfl, e⟩ ?_ ?_
  · obtain ⟨r, l, r1, r2⟩ := main
    refine ⟨r.2, ?_, r1, r2⟩
    unfold f_J7_fill_53178
    rw [zlen_r e (by decide), l]
  · intro i hi s hs
    obtain ⟨s1, s2⟩ := s
    obtain ⟨q1, q2, q3⟩ := hs
    dsimp only at q1 q2 q3
    subst q1
    refine ⟨(Int32.ofNat (i + 1), zz_u s2 a (zz_I 0 m (upd (fun k => if k < i then x else f k) i x))), ?_, rfl, fun q hq => by show zz_u s2 a _ q = h q; rw [zz_un hq]; exact q2 q hq, ?_⟩
    · show f_J7_fill_53178_5 (some a) x (Int32.ofNat i) (Int32.ofNat m) s2 = _
      unfold f_J7_fill_53178_5
      rw [if_neg (nle (by omega)), zsi_r q3 hi hm, on_s]
    · show zz_u s2 a _ a = _
      rw [zz_us]
      have e2 : upd (fun k => if k < i then x else f k) i x = (fun k => if k < i + 1 then x else f k) := by
        funext k
        unfold upd
        by_cases g : k = i
        · rw [if_pos g, if_pos (by omega)]
        · rw [if_neg g]
          show (if k < i then x else f k) = _
          by_cases g2 : k < i
          · rw [if_pos g2, if_pos (by omega)]
          · rw [if_neg g2, if_neg (by omega)]
      rw [e2]
  · intro s hs
    obtain ⟨s1, s2⟩ := s
    obtain ⟨q1, q2, q3⟩ := hs
    dsimp only at q1 q2 q3
    subst q1
    refine ⟨((), s2), ?_, q2, q3⟩
    show f_J7_fill_53178_5 (some a) x (Int32.ofNat m) (Int32.ofNat m) s2 = _
    unfold f_J7_fill_53178_5
    rw [if_pos (ple (by omega))]
theorem loos_r {x0 x1 x2 x3 x4 : Value} {b c : Nat} {f g : Nat → Int32} (ea : h a = some (.inr (4, [x0, x1, x2, x3, x4, .ref b, .ref c]))) (eb : h b = some (zz_I 0 6 f)) (ec : h c = some (zz_I 0 6 g)) (hbc : b ≠ c) : ∃ h', f_X3_loosenTies a h = some ((), h') ∧ (∀ q, q ≠ b → q ≠ c → h' q = h q) ∧ h' b = some (zz_I 0 6 (fun i => if i < 6 then 99 else f i)) ∧ h' c = some (zz_I 0 6 (fun i => if i < 6 then 99 else g i)) := by
  have hab : a ≠ b := fun q => by
    rw [q, eb] at ea
    cases ea
  obtain ⟨g1, e1, o1, w1⟩ := fil_r (x := 99) eb (by decide)
  obtain ⟨g2, e2, o2, w2⟩ := fil_r (x := 99) (h := g1) (a := c) (by rw [o1 c hbc.symm]; exact ec) (by decide)
  refine ⟨g2, ?_, fun q h1 h2 => by rw [o2 q h2, o1 q h1], by rw [o2 b hbc]; exact w1, w2⟩
  unfold f_X3_loosenTies
  rw [zgq_r ea rfl, e1, zb1_s, zgq_r (fs := [x0, x1, x2, x3, x4, .ref b, .ref c]) (by rw [o1 a hab]; exact ea) rfl, e2, zb1_s]
def tie99 : Nat → Int32 := fun i => if i < 6 then 99 else 0
theorem mk3 {x0 x1 x2 x3 x4 x5 x6 : Value} {p q : Int32} (ea : h a = some (.inr (4, [x0, x1, x2, x3, x4, x5, x6]))) (na : a < n) : ∃ h', f_X3_init t0 a p q h n = some ((), h', n + 6) ∧ (∀ r, r ≠ a → (r < n ∨ n + 6 ≤ r) → h' r = h r) ∧ h' a = some (.inr (4, [.int p, .int q, x2, .ref n, .ref (n + 2), .ref (n + 4), .ref (n + 5)])) ∧ h' n = some (.inr (5, [.ref (n + 1)])) ∧ h' (n + 1) = some (zz_I 0 56 (fun _ => 0)) ∧ h' (n + 2) = some (.inr (5, [.ref (n + 3)])) ∧ h' (n + 3) = some (zz_I 0 56 (fun _ => 0)) ∧ h' (n + 4) = some (zz_I 0 6 tie99) ∧ h' (n + 5) = some (zz_I 0 6 tie99) := by
  obtain ⟨g1, e1, o1, w1, y1⟩ := mk4 (t0 := t0) (h := zz_u h n (.inr (5, [.null]))) (a := n) (n := n + 1) zz_us (by omega)
  have a1 : g1 a = some (.inr (4, [x0, x1, x2, x3, x4, x5, x6])) := by rw [o1 a (by omega) (by omega), zz_un (by omega)]; exact ea
  obtain ⟨g2, e2, o2, w2, y2⟩ := mk4 (t0 := t0) (h := zz_u (zz_u g1 a (.inr (4, [x0, x1, x2, .ref n, x4, x5, x6]))) (n + 2) (.inr (5, [.null]))) (a := n + 2) (n := n + 3) zz_us (by omega)
  have a2 : g2 a = some (.inr (4, [x0, x1, x2, .ref n, x4, x5, x6])) := by rw [o2 a (by omega) (by omega), zz_un (by omega)]; exact zz_us
  obtain ⟨g3, d3⟩ : ∃ g, g = zz_u (zz_u (zz_u (zz_u (zz_u (zz_u (zz_u g2 a (.inr (4, [x0, x1, x2, .ref n, .ref (n + 2), x5, x6]))) (n + 4) (zz_I 0 6 (fun _ => 0))) a (.inr (4, [x0, x1, x2, .ref n, .ref (n + 2), .ref (n + 4), x6]))) (n + 5) (zz_I 0 6 (fun _ => 0))) a (.inr (4, [x0, x1, x2, .ref n, .ref (n + 2), .ref (n + 4), .ref (n + 5)]))) a (.inr (4, [.int p, x1, x2, .ref n, .ref (n + 2), .ref (n + 4), .ref (n + 5)]))) a (.inr (4, [.int p, .int q, x2, .ref n, .ref (n + 2), .ref (n + 4), .ref (n + 5)])) := ⟨_, rfl⟩
  have a3 : g3 a = some (.inr (4, [.int p, .int q, x2, .ref n, .ref (n + 2), .ref (n + 4), .ref (n + 5)])) := by rw [d3]; exact zz_us
  have b3 : g3 (n + 4) = some (zz_I 0 6 (fun _ => 0)) := by rw [d3, zz_un (by omega), zz_un (by omega), zz_un (by omega), zz_un (by omega), zz_un (by omega)]; exact zz_us
  have c3 : g3 (n + 5) = some (zz_I 0 6 (fun _ => 0)) := by rw [d3, zz_un (by omega), zz_un (by omega), zz_un (by omega)]; exact zz_us
  have o3 : ∀ r, r ≠ a → r ≠ n + 4 → r ≠ n + 5 → g3 r = g2 r := fun r h1 h2 h3 => by rw [d3, zz_un h1, zz_un h1, zz_un h1, zz_un h3, zz_un h1, zz_un h2, zz_un h1]
  obtain ⟨g4, e4, o4, w4, y4⟩ := loos_r a3 b3 c3 (by omega)
  have on1 : ∀ r, r ≠ a → r ≠ n + 2 → r ≠ n + 3 → r ≠ n + 4 → r ≠ n + 5 → g4 r = g1 r := fun r h1 h2 h3 h4 h5 => by
    rw [o4 r h4 h5, o3 r h1 h4 h5, o2 r h2 h3, zz_un h2, zz_un h1]
  refine ⟨g4, ?_, fun r h1 h2 => ?_, ?_, ?_, ?_, ?_, ?_, w4, y4⟩
  · unfold f_X3_init
    rw [e1, zb2_s, zp_r (fs' := [x0, x1, x2, .ref n, x4, x5, x6]) a1 (by simp) rfl]
    rw [show n + 1 + 1 = n + 2 by omega, show n + 2 + 1 = n + 3 by omega, e2, zb2_s, show n + 3 + 1 = n + 4 by omega, show n + 4 + 1 = n + 5 by omega, zp_r (fs' := [x0, x1, x2, .ref n, .ref (n + 2), x5, x6]) a2 (by simp) rfl, zp_r (fs := [x0, x1, x2, .ref n, .ref (n + 2), x5, x6]) (fs' := [x0, x1, x2, .ref n, .ref (n + 2), .ref (n + 4), x6]) (by rw [zz_un (by omega)]; exact zz_us) (by simp) rfl, zp_r (fs := [x0, x1, x2, .ref n, .ref (n + 2), .ref (n + 4), x6]) (fs' := [x0, x1, x2, .ref n, .ref (n + 2), .ref (n + 4), .ref (n + 5)]) (by rw [zz_un (by omega)]; exact zz_us) (by simp) rfl, zp_r (fs := [x0, x1, x2, .ref n, .ref (n + 2), .ref (n + 4), .ref (n + 5)]) (fs' := [.int p, x1, x2, .ref n, .ref (n + 2), .ref (n + 4), .ref (n + 5)]) zz_us (by simp) rfl, zp_r (fs := [.int p, x1, x2, .ref n, .ref (n + 2), .ref (n + 4), .ref (n + 5)]) (fs' := [.int p, .int q, x2, .ref n, .ref (n + 2), .ref (n + 4), .ref (n + 5)]) zz_us (by simp) rfl, ← d3, zob_r a3, e4, zb1_s]
  · rw [on1 r h1 (by omega) (by omega) (by omega) (by omega), o1 r (by omega) (by omega), zz_un (by omega)]
  · rw [o4 a (by omega) (by omega)]
    exact a3
  · rw [on1 n (by omega) (by omega) (by omega) (by omega) (by omega)]
    exact w1
  · rw [on1 (n + 1) (by omega) (by omega) (by omega) (by omega) (by omega)]
    exact y1
  · rw [o4 _ (by omega) (by omega), o3 _ (by omega) (by omega) (by omega)]
    exact w2
  · rw [o4 _ (by omega) (by omega), o3 _ (by omega) (by omega) (by omega)]
    exact y2
/-- a seat's cells: steps, filling, depths, cover, frame -/
theorem mk7 {x0 x1 x2 x3 x4 x5 : Value} {p q : Int32} (ea : h a = some (.inr (8, [x0, x1, x2, x3, x4, x5]))) (na : a < n) : ∃ h', f_X7_init t0 a p q h n = some ((), h', n + 15) ∧ (∀ r, r ≠ a → (r < n ∨ n + 15 ≤ r) → h' r = h r) ∧ h' a = some (.inr (8, [.ref (n + 8), .ref n, .ref (n + 2), .ref (n + 4), .ref (n + 6), .int 20])) ∧ h' n = some (.inr (9, [.ref (n + 1), .int 0, .int 0])) ∧ h' (n + 1) = some (zz_I 1 9 (fun _ => 0)) ∧ h' (n + 2) = some (.inr (3, [.ref (n + 3)])) ∧ h' (n + 3) = some (.inr (0, [.int 0, .ref t0, .int 0])) ∧ h' (n + 4) = some (.inr (5, [.ref (n + 5)])) ∧ h' (n + 5) = some (zz_I 0 56 (fun _ => 0)) ∧ h' (n + 6) = some (.inr (2, [.ref (n + 7), .int 0, .int 0, .null, .int 0, .int 0, .int 0])) ∧ h' (n + 7) = some (zz_I 0 6 (fun _ => 0)) ∧ h' (n + 8) = some (.inr (4, [.int p, .int q, .int 0, .ref (n + 9), .ref (n + 11), .ref (n + 13), .ref (n + 14)])) ∧ h' (n + 9) = some (.inr (5, [.ref (n + 10)])) ∧ h' (n + 10) = some (zz_I 0 56 (fun _ => 0)) ∧ h' (n + 11) = some (.inr (5, [.ref (n + 12)])) ∧ h' (n + 12) = some (zz_I 0 56 (fun _ => 0)) ∧ h' (n + 13) = some (zz_I 0 6 tie99) ∧ h' (n + 14) = some (zz_I 0 6 tie99) := by
  obtain ⟨g1, e1, o1, w1, y1⟩ := mk8 (t0 := t0) (h := zz_u h n (.inr (9, [.null, .int 0, .int 0]))) (a := n) (n := n + 1) zz_us (by omega)
  obtain ⟨k1, d1⟩ : ∃ g, g = zz_u g1 a (.inr (8, [x0, .ref n, x2, x3, x4, x5])) := ⟨_, rfl⟩
  have a1 : g1 a = some (.inr (8, [x0, x1, x2, x3, x4, x5])) := by rw [o1 a (by omega) (by omega), zz_un (by omega)]; exact ea
  have b1 : k1 a = some (.inr (8, [x0, .ref n, x2, x3, x4, x5])) := by rw [d1]; exact zz_us
  obtain ⟨g2, e2, o2, w2, y2⟩ := mk2 (t0 := t0) (h := zz_u k1 (n + 2) (.inr (3, [.null]))) (a := n + 2) (n := n + 3) zz_us (by omega)
  obtain ⟨k2, d2⟩ : ∃ g, g = zz_u g2 a (.inr (8, [x0, .ref n, .ref (n + 2), x3, x4, x5])) := ⟨_, rfl⟩
  have a2 : g2 a = some (.inr (8, [x0, .ref n, x2, x3, x4, x5])) := by rw [o2 a (by omega) (by omega), zz_un (by omega)]; exact b1
  have b2 : k2 a = some (.inr (8, [x0, .ref n, .ref (n + 2), x3, x4, x5])) := by rw [d2]; exact zz_us
  obtain ⟨g3, e3, o3, w3, y3⟩ := mk4 (t0 := t0) (h := zz_u k2 (n + 4) (.inr (5, [.null]))) (a := n + 4) (n := n + 5) zz_us (by omega)
  obtain ⟨k3, d3⟩ : ∃ g, g = zz_u g3 a (.inr (8, [x0, .ref n, .ref (n + 2), .ref (n + 4), x4, x5])) := ⟨_, rfl⟩
  have a3 : g3 a = some (.inr (8, [x0, .ref n, .ref (n + 2), x3, x4, x5])) := by rw [o3 a (by omega) (by omega), zz_un (by omega)]; exact b2
  have b3 : k3 a = some (.inr (8, [x0, .ref n, .ref (n + 2), .ref (n + 4), x4, x5])) := by rw [d3]; exact zz_us
  obtain ⟨g4, e4, o4, w4, y4⟩ := mk1 (t0 := t0) (h := zz_u k3 (n + 6) (.inr (2, [.null, .int 0, .int 0, .null, .int 0, .int 0, .int 0]))) (a := n + 6) (n := n + 7) zz_us (by omega)
  obtain ⟨k4, d4⟩ : ∃ g, g = zz_u (zz_u g4 a (.inr (8, [x0, .ref n, .ref (n + 2), .ref (n + 4), .ref (n + 6), x5]))) a (.inr (8, [x0, .ref n, .ref (n + 2), .ref (n + 4), .ref (n + 6), .int 20])) := ⟨_, rfl⟩
  have a4 : g4 a = some (.inr (8, [x0, .ref n, .ref (n + 2), .ref (n + 4), x4, x5])) := by rw [o4 a (by omega) (by omega), zz_un (by omega)]; exact b3
  have b4 : k4 a = some (.inr (8, [x0, .ref n, .ref (n + 2), .ref (n + 4), .ref (n + 6), .int 20])) := by rw [d4]; exact zz_us
  obtain ⟨g5, e5, o5, w5, z1, z2, z3, z4, z5, z6⟩ := mk3 (t0 := t0) (p := p) (q := q) (h := zz_u k4 (n + 8) (.inr (4, [.int 0, .int 0, .int 0, .null, .null, .null, .null]))) (a := n + 8) (n := n + 9) zz_us (by omega)
  have a5 : g5 a = some (.inr (8, [x0, .ref n, .ref (n + 2), .ref (n + 4), .ref (n + 6), .int 20])) := by rw [o5 a (by omega) (by omega), zz_un (by omega)]; exact b4
  have p4 : ∀ r, r ≠ a → r < n + 8 → g5 r = g4 r := fun r h1 h2 => by rw [o5 r (by omega) (by omega), zz_un (by omega), d4, zz_un h1, zz_un h1]
  have p3 : ∀ r, r ≠ a → r < n + 6 → g5 r = g3 r := fun r h1 h2 => by rw [p4 r h1 (by omega), o4 r (by omega) (by omega), zz_un (by omega), d3, zz_un h1]
  have p2 : ∀ r, r ≠ a → r < n + 4 → g5 r = g2 r := fun r h1 h2 => by rw [p3 r h1 (by omega), o3 r (by omega) (by omega), zz_un (by omega), d2, zz_un h1]
  have p1 : ∀ r, r ≠ a → r < n + 2 → g5 r = g1 r := fun r h1 h2 => by rw [p2 r h1 (by omega), o2 r (by omega) (by omega), zz_un (by omega), d1, zz_un h1]
  have f5 : ∀ r, r ≠ a → r ≠ n + 8 → zz_u g5 a (.inr (8, [.ref (n + 8), .ref n, .ref (n + 2), .ref (n + 4), .ref (n + 6), .int 20])) r = g5 r := fun r h1 _ => zz_un h1
  refine ⟨zz_u g5 a (.inr (8, [.ref (n + 8), .ref n, .ref (n + 2), .ref (n + 4), .ref (n + 6), .int 20])), ?_, fun r h1 h2 => ?_, zz_us, ?_, ?_, ?_, ?_, ?_, ?_, ?_, ?_, ?_, ?_, ?_, ?_, ?_, ?_, ?_⟩
  · unfold f_X7_init
    rw [e1, zb2_s, zp_r (fs' := [x0, .ref n, x2, x3, x4, x5]) a1 (by simp) rfl, ← d1]
    rw [show n + 1 + 1 = n + 2 by omega, show n + 2 + 1 = n + 3 by omega, e2, zb2_s, zp_r (fs' := [x0, .ref n, .ref (n + 2), x3, x4, x5]) a2 (by simp) rfl, ← d2, show n + 3 + 1 = n + 4 by omega, show n + 4 + 1 = n + 5 by omega, e3, zb2_s, zp_r (fs' := [x0, .ref n, .ref (n + 2), .ref (n + 4), x4, x5]) a3 (by simp) rfl, ← d3, show n + 5 + 1 = n + 6 by omega, show n + 6 + 1 = n + 7 by omega, e4, zb2_s, zp_r (fs' := [x0, .ref n, .ref (n + 2), .ref (n + 4), .ref (n + 6), x5]) a4 (by simp) rfl, zp_r (fs := [x0, .ref n, .ref (n + 2), .ref (n + 4), .ref (n + 6), x5]) (fs' := [x0, .ref n, .ref (n + 2), .ref (n + 4), .ref (n + 6), .int 20]) zz_us (by simp) rfl, ← d4, show n + 7 + 1 = n + 8 by omega, show n + 8 + 1 = n + 9 by omega, e5, zb2_s, zp_r (fs' := [.ref (n + 8), .ref n, .ref (n + 2), .ref (n + 4), .ref (n + 6), .int 20]) a5 (by simp) rfl]
  · rw [zz_un h1]
    rcases h2 with h2 | h2
    · rw [p1 r h1 (by omega), o1 r (by omega) (by omega), zz_un (by omega)]
    · rw [o5 r (by omega) (by omega), zz_un (by omega), d4, zz_un h1, zz_un h1, o4 r (by omega) (by omega), zz_un (by omega), d3, zz_un h1, o3 r (by omega) (by omega), zz_un (by omega), d2, zz_un h1, o2 r (by omega) (by omega), zz_un (by omega), d1, zz_un h1, o1 r (by omega) (by omega), zz_un (by omega)]
  · rw [zz_un (by omega), p1 _ (by omega) (by omega)]; exact w1
  · rw [zz_un (by omega), p1 _ (by omega) (by omega)]; exact y1
  · rw [zz_un (by omega), p2 _ (by omega) (by omega)]; exact w2
  · rw [zz_un (by omega), p2 _ (by omega) (by omega)]; exact y2
  · rw [zz_un (by omega), p3 _ (by omega) (by omega)]; exact w3
  · rw [zz_un (by omega), p3 _ (by omega) (by omega)]; exact y3
  · rw [zz_un (by omega), p4 _ (by omega) (by omega)]; exact w4
  · rw [zz_un (by omega), p4 _ (by omega) (by omega)]; exact y4
  · rw [zz_un (by omega)]; exact w5
  · rw [zz_un (by omega)]; exact z1
  · rw [zz_un (by omega)]; exact z2
  · rw [zz_un (by omega)]; exact z3
  · rw [zz_un (by omega)]; exact z4
  · rw [zz_un (by omega)]; exact z5
  · rw [zz_un (by omega)]; exact z6
end ZXE
