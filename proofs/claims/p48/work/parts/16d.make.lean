section ZXD
/-! making objects: what the constructors and a list's add leave in the heap -/
variable {t0 : Nat} {h : zz_H} {n a b v : Nat} {α : Type}
theorem zp_r {ci k : Nat} {x : Value} {fs fs' : List Value} {K : zz_H → Option α} (e : h a = some (.inr (ci, fs))) (hk : k < fs.length) (hs : fs.set k x = fs') : zz_p h (some a) ci k x K = K (zz_u h a (.inr (ci, fs'))) := by
  subst hs
  unfold zz_p
  simp only [e]
  exact if_pos ⟨trivial, hk⟩
theorem zgi_r {ci k : Nat} {x : Int32} {fs : List Value} {K : Int32 → Option α} (e : h a = some (.inr (ci, fs))) (hk : fs[k]? = some (.int x)) : zz_gi h (some a) ci k K = K x := by
  unfold zz_gi
  simp only [e, hk]
  exact if_pos trivial
theorem zgq_r {ci k x : Nat} {fs : List Value} {K : Option Nat → Option α} (e : h a = some (.inr (ci, fs))) (hk : fs[k]? = some (.ref x)) : zz_gq h (some a) ci k K = K (some x) := by
  unfold zz_gq
  simp only [e, hk]
  exact if_pos trivial
theorem zob_r {ci : Nat} {fs : List Value} {K : Nat → Option α} (e : h a = some (.inr (ci, fs))) : zz_ob h (some a) ci K = K a := by
  unfold zz_ob
  simp only [e]
  exact if_pos trivial
theorem zlen_r {t m : Nat} {c : _} {K : Int32 → Option α} (e : h a = some (.inl (t, (m, c)))) (ht : t < 13) : zz_len h (some a) K = K (Int32.ofNat m) := by
  unfold zz_len
  simp only [e]
  exact if_pos ht
theorem zsq_r {t m i c : Nat} {f : Nat → Option Nat} {fs : List Value} {K : zz_H → Option α} (e : h a = some (zz_Q t m f)) (hi : i < m) (hm : m < 1000) (ev : h v = some (.inr (c, fs))) (hc : 0 < c ∧ c < 9) : zz_sq t h (some a) (Int32.ofNat i) (some v) K = K (zz_u h a (zz_Q t m (va_up f i (some v)))) := by
  unfold zz_sq
  simp only [e, ev]
  rw [if_pos ⟨trivial, by
    rintro (q | q)
    · exact on_nn i (by omega) q
    · rw [on_n i (by omega)] at q
      omega⟩, if_pos hc, on_n i (by omega)]
theorem zb2_s {α β : Type} {x : α} {h : zz_H} {m : Nat} {K : α → zz_H → Nat → Option β} : zz_b2 (some (x, h, m)) K = K x h m := rfl
theorem zb1_s {α β : Type} {x : α} {h : zz_H} {K : α → zz_H → Option β} : zz_b1 (some (x, h)) K = K x h := rfl
/-- adding to a list that has grown -/
theorem add_g {m : Int32} {i c : Nat} {f : Nat → Option Nat} {fs : List Value} (ea : h a = some (.inr (0, [.int m, .ref b, .int (Int32.ofNat i)]))) (eb : h b = some (zz_Q 5 10 f)) (hi : i < 10) (ev : h v = some (.inr (c, fs))) (hc : 0 < c ∧ c < 9) : ∃ h', f_Jx4a65c_add_9ea2d t0 a (some v) h n = some (1, h', n) ∧ (∀ q, q ≠ a → q ≠ b → h' q = h q) ∧ h' a = some (.inr (0, [.int (m + 1), .ref b, .int (Int32.ofNat (i + 1))])) ∧ h' b = some (zz_Q 5 10 (va_up f i (some v))) := by
  have hab : b ≠ a := fun q => by
    rw [q, ea] at eb
    cases eb
  have hva : v ≠ a := fun q => by
    rw [q, ea] at ev
    cases ev
    omega
  have hvb : v ≠ b := fun q => by
    rw [q, eb] at ev
    cases ev
  obtain ⟨g1, hg1⟩ : ∃ g, g = zz_u h a (.inr (0, [.int (m + 1), .ref b, .int (Int32.ofNat i)])) := ⟨_, rfl⟩
  have a1 : g1 a = some (.inr (0, [.int (m + 1), .ref b, .int (Int32.ofNat i)])) := by rw [hg1]; exact zz_us
  have b1 : g1 b = some (zz_Q 5 10 f) := by rw [hg1, zz_un hab]; exact eb
  have v1 : g1 v = some (.inr (c, fs)) := by rw [hg1, zz_un hva]; exact ev
  obtain ⟨g2, hg2⟩ : ∃ g, g = zz_u g1 b (zz_Q 5 10 (va_up f i (some v))) := ⟨_, rfl⟩
  have a2 : g2 a = some (.inr (0, [.int (m + 1), .ref b, .int (Int32.ofNat i)])) := by rw [hg2, zz_un hab.symm]; exact a1
  refine ⟨zz_u g2 a (.inr (0, [.int (m + 1), .ref b, .int (Int32.ofNat (i + 1))])), ?_, fun q h1 h2 => ?_, zz_us, ?_⟩
  · unfold f_Jx4a65c_add_9ea2d f_Jx4a65c_add_72be8 f_Jx4a65c_add_72be8_11
    rw [zgi_r ea rfl, zp_r (fs' := [.int (m + 1), .ref b, .int (Int32.ofNat i)]) ea (by simp) rfl, ← hg1, zgq_r a1 rfl, zgi_r a1 rfl, zob_r a1, zlen_r b1 (by decide), if_neg (show ¬ Int32.ofNat i = Int32.ofNat 10 from pne (by omega)), zsq_r b1 hi (by decide) v1 hc, ← hg2, zp_r (fs' := [.int (m + 1), .ref b, .int (Int32.ofNat (i + 1))]) a2 (by simp) (by rw [on_s]; rfl), zb2_s]
  · rw [zz_un h1, hg2, zz_un h2, hg1, zz_un h1]
  · rw [zz_un hab, hg2]
    exact zz_us
/-- adding to a list that has not grown yet -/
theorem add_0 {m : Int32} {c : Nat} {f : Nat → Option Nat} {fs : List Value} (ea : h a = some (.inr (0, [.int m, .ref t0, .int 0]))) (et : h t0 = some (zz_Q 11 0 f)) (ev : h v = some (.inr (c, fs))) (hc : 0 < c ∧ c < 9) (na : n ≠ a) (nv : n ≠ v) (nt : n ≠ t0) : ∃ h', f_Jx4a65c_add_9ea2d t0 a (some v) h n = some (1, h', n + 1) ∧ (∀ q, q ≠ a → q ≠ n → h' q = h q) ∧ h' a = some (.inr (0, [.int (m + 1), .ref n, .int 1])) ∧ h' n = some (zz_Q 5 10 (va_up (fun _ => none) 0 (some v))) := by
  have hta : t0 ≠ a := fun q => by
    rw [q, ea] at et
    cases et
  have hva : v ≠ a := fun q => by
    rw [q, ea] at ev
    cases ev
    omega
  obtain ⟨g1, hg1⟩ : ∃ g, g = zz_u h a (.inr (0, [.int (m + 1), .ref t0, .int 0])) := ⟨_, rfl⟩
  have a1 : g1 a = some (.inr (0, [.int (m + 1), .ref t0, .int 0])) := by rw [hg1]; exact zz_us
  have t1 : g1 t0 = some (zz_Q 11 0 f) := by rw [hg1, zz_un hta]; exact et
  have v1 : g1 v = some (.inr (c, fs)) := by rw [hg1, zz_un hva]; exact ev
  obtain ⟨g2, hg2⟩ : ∃ g, g = zz_u g1 n (zz_Q 5 10 (fun _ => none)) := ⟨_, rfl⟩
  have a2 : g2 a = some (.inr (0, [.int (m + 1), .ref t0, .int 0])) := by rw [hg2, zz_un na.symm]; exact a1
  obtain ⟨g3, hg3⟩ : ∃ g, g = zz_u g2 a (.inr (0, [.int (m + 1), .ref n, .int 0])) := ⟨_, rfl⟩
  have a3 : g3 a = some (.inr (0, [.int (m + 1), .ref n, .int 0])) := by rw [hg3]; exact zz_us
  have n3 : g3 n = some (zz_Q 5 10 (fun _ => none)) := by rw [hg3, zz_un na, hg2]; exact zz_us
  have v3 : g3 v = some (.inr (c, fs)) := by rw [hg3, zz_un hva, hg2, zz_un nv.symm]; exact v1
  obtain ⟨g4, hg4⟩ : ∃ g, g = zz_u g3 n (zz_Q 5 10 (va_up (fun _ => none) 0 (some v))) := ⟨_, rfl⟩
  have a4 : g4 a = some (.inr (0, [.int (m + 1), .ref n, .int 0])) := by rw [hg4, zz_un na.symm]; exact a3
  refine ⟨zz_u g4 a (.inr (0, [.int (m + 1), .ref n, .int 1])), ?_, fun q h1 h2 => ?_, zz_us, ?_⟩
  · unfold f_Jx4a65c_add_9ea2d f_Jx4a65c_add_72be8 f_Jx4a65c_grow_d5877 f_Jx4a65c_grow_92f84
    rw [zgi_r ea rfl, zp_r (fs' := [.int (m + 1), .ref t0, .int 0]) ea (by simp) rfl, ← hg1, zgq_r a1 rfl, zgi_r a1 rfl, zob_r a1, zlen_r t1 (by decide), if_pos (show (0 : Int32) = Int32.ofNat 0 from rfl), zob_r a1, zgi_r a1 rfl, zob_r a1, zgq_r a1 rfl, zlen_r t1 (by decide), if_neg (by decide), zgq_r a1 rfl, if_pos rfl, if_pos (by decide), ← hg2, zp_r (fs' := [.int (m + 1), .ref n, .int 0]) a2 (by simp) rfl, ← hg3, zb2_s, zb2_s]
    unfold f_Jx4a65c_add_72be8_11
    rw [ show (0 : Int32) = Int32.ofNat 0 from rfl, zsq_r n3 (by decide) (by decide) v3 hc, ← hg4, zp_r (fs' := [.int (m + 1), .ref n, .int 1]) a4 (by simp) rfl, zb2_s]
  · rw [zz_un h1, hg4, zz_un h2, hg3, zz_un h1, hg2, zz_un h2, hg1, zz_un h1]
  · rw [zz_un na, hg4]
    exact zz_us
theorem mk4 {x : Value} (ea : h a = some (.inr (5, [x]))) (na : n ≠ a) : ∃ h', f_X4_init t0 a h n = some ((), h', n + 1) ∧ (∀ q, q ≠ a → q ≠ n → h' q = h q) ∧ h' a = some (.inr (5, [.ref n])) ∧ h' n = some (zz_I 0 56 (fun _ => 0)) := by
  refine ⟨zz_u (zz_u h n (zz_I 0 56 (fun _ => 0))) a (.inr (5, [.ref n])), ?_, fun q h1 h2 => by rw [zz_un h1, zz_un h2], zz_us, by rw [zz_un na]; exact zz_us⟩
  unfold f_X4_init
  rw [zp_r (fs := [x]) (by rw [zz_un na.symm]; exact ea) (by simp) rfl]
  rfl
theorem mk8 {x y z : Value} (ea : h a = some (.inr (9, [x, y, z]))) (na : n ≠ a) : ∃ h', f_X8_init t0 a h n = some ((), h', n + 1) ∧ (∀ q, q ≠ a → q ≠ n → h' q = h q) ∧ h' a = some (.inr (9, [.ref n, y, z])) ∧ h' n = some (zz_I 1 9 (fun _ => 0)) := by
  refine ⟨zz_u (zz_u h n (zz_I 1 9 (fun _ => 0))) a (.inr (9, [.ref n, y, z])), ?_, fun q h1 h2 => by rw [zz_un h1, zz_un h2], zz_us, by rw [zz_un na]; exact zz_us⟩
  unfold f_X8_init
  rw [zp_r (fs := [x, y, z]) (by rw [zz_un na.symm]; exact ea) (by simp) rfl]
  rfl
theorem mk1 {x1 x2 x3 x4 x5 x6 x7 : Value} (ea : h a = some (.inr (2, [x1, x2, x3, x4, x5, x6, x7]))) (na : n ≠ a) : ∃ h', f_X1_init t0 a h n = some ((), h', n + 1) ∧ (∀ q, q ≠ a → q ≠ n → h' q = h q) ∧ h' a = some (.inr (2, [.ref n, x2, x3, x4, x5, x6, x7])) ∧ h' n = some (zz_I 0 6 (fun _ => 0)) := by
  refine ⟨zz_u (zz_u h n (zz_I 0 6 (fun _ => 0))) a (.inr (2, [.ref n, x2, x3, x4, x5, x6, x7])), ?_, fun q h1 h2 => by rw [zz_un h1, zz_un h2], zz_us, by rw [zz_un na]; exact zz_us⟩
  unfold f_X1_init
  rw [zp_r (fs := [x1, x2, x3, x4, x5, x6, x7]) (by rw [zz_un na.symm]; exact ea) (by simp) rfl]
  rfl
theorem mk0 {x1 x2 x3 x4 x5 : Value} {p q : Int32} (ea : h a = some (.inr (1, [x1, x2, x3, x4, x5]))) (na : n ≠ a) : ∃ h', f_X0_init t0 a p q h n = some ((), h', n + 1) ∧ (∀ r, r ≠ a → r ≠ n → h' r = h r) ∧ h' a = some (.inr (1, [.int p, .int q, .ref n, x4, x5])) ∧ h' n = some (zz_I 0 10 (fun _ => 0)) := by
  refine ⟨zz_u (zz_u (zz_u (zz_u h n (zz_I 0 10 (fun _ => 0))) a (.inr (1, [x1, x2, .ref n, x4, x5]))) a (.inr (1, [.int p, x2, .ref n, x4, x5]))) a (.inr (1, [.int p, .int q, .ref n, x4, x5])), ?_, fun q h1 h2 => by rw [zz_un h1, zz_un h1, zz_un h1, zz_un h2], zz_us, by rw [zz_un na, zz_un na, zz_un na]; exact zz_us⟩
  unfold f_X0_init
  rw [zp_r (fs := [x1, x2, x3, x4, x5]) (fs' := [x1, x2, .ref n, x4, x5]) (by rw [zz_un na.symm]; exact ea) (by simp) rfl, zp_r (fs := [x1, x2, .ref n, x4, x5]) (fs' := [.int p, x2, .ref n, x4, x5]) zz_us (by simp) rfl, zp_r (fs := [.int p, x2, .ref n, x4, x5]) (fs' := [.int p, .int q, .ref n, x4, x5]) zz_us (by simp) rfl]
theorem mkL {x1 x2 x3 : Value} (ea : h a = some (.inr (0, [x1, x2, x3]))) : ∃ h', f_Jx4a65c_init_da8c8 t0 a h n = some ((), h', n) ∧ (∀ q, q ≠ a → h' q = h q) ∧ h' a = some (.inr (0, [.int 0, .ref t0, x3])) := by
  refine ⟨zz_u (zz_u h a (.inr (0, [.int 0, x2, x3]))) a (.inr (0, [.int 0, .ref t0, x3])), ?_, fun q h1 => by rw [zz_un h1, zz_un h1], zz_us⟩
  have e0 : f_Jxc12de_init_da8c8 a h = some ((), zz_u h a (.inr (0, [.int 0, x2, x3]))) := by
    have e1 : zz_p h (some a) 0 0 (.int (0 : Int32)) (fun h6 => some ((), h6)) = some ((), zz_u h a (.inr (0, [.int 0, x2, x3]))) := zp_r (fs' := [.int 0, x2, x3]) ea (by simp) rfl
    exact e1
  unfold f_Jx4a65c_init_da8c8
  rw [e0, zb1_s, zp_r (fs := [.int 0, x2, x3]) (fs' := [.int 0, .ref t0, x3]) zz_us (by simp) rfl]
/-- the kinds' own list -/
theorem mk2 {x : Value} (ea : h a = some (.inr (3, [x]))) (na : n ≠ a) : ∃ h', f_X2_init t0 a h n = some ((), h', n + 1) ∧ (∀ q, q ≠ a → q ≠ n → h' q = h q) ∧ h' a = some (.inr (3, [.ref n])) ∧ h' n = some (.inr (0, [.int 0, .ref t0, .int 0])) := by
  obtain ⟨h1, e1, o1, l1⟩ := mkL (t0 := t0) (h := zz_u h n (.inr (0, [.int 0, .null, .int 0]))) (n := n + 1) (a := n) zz_us
  refine ⟨zz_u h1 a (.inr (3, [.ref n])), ?_, fun q h2 h3 => by rw [zz_un h2, o1 q h3, zz_un h3], zz_us, by rw [zz_un na]; exact l1⟩
  unfold f_X2_init
  rw [e1, zb2_s, zp_r (fs := [x]) (fs' := [.ref n]) (by rw [o1 a na.symm, zz_un na.symm]; exact ea) (by simp) rfl]
end ZXD
