section ZYA
/-! the class's constructor -/
variable {z : zz_H} {t0 base : Nat} {l : Nat → Option zz_C} {α : Type}
def AL (z : zz_H) (t0 base : Nat) (l : Nat → Option zz_C) : zz_H := fun q => if q = t0 then some (zz_Q 11 0 (fun _ => none)) else if base ≤ q then l (q - base) else z q
def sA (l : Nat → Option zz_C) (k : Nat) (x : zz_C) : Nat → Option zz_C := fun j => if j = k then some x else l j
theorem sA_h {k : Nat} {x : zz_C} : sA l k x k = some x := if_pos rfl
theorem sA_o {j k : Nat} {x : zz_C} (h : j ≠ k) : sA l k x j = l j := if_neg h
theorem sA_2 {k : Nat} {x y : zz_C} : sA (sA l k x) k y = sA l k y := by
  funext j
  unfold sA
  by_cases h : j = k
  · rw [if_pos h, if_pos h]
  · rw [if_neg h, if_neg h, if_neg h]
theorem AL_u (ht : t0 < base) {A k : Nat} (hA : A = base + k) {x : zz_C} : zz_u (AL z t0 base l) A x = AL z t0 base (sA l k x) := by
  subst hA
  funext q
  unfold zz_u AL sA
  by_cases h : q = base + k
  · rw [if_pos h, if_neg (by omega), if_pos (by omega), if_pos (by omega)]
  · rw [if_neg h]
    by_cases h2 : q = t0
    · rw [if_pos h2, if_pos h2]
    · rw [if_neg h2, if_neg h2]
      by_cases h3 : base ≤ q
      · rw [if_pos h3, if_pos h3, if_neg (by omega)]
      · rw [if_neg h3, if_neg h3]
theorem AL_at (ht : t0 < base) {A k : Nat} (hA : A = base + k) : AL z t0 base l A = l k := by
  subst hA
  unfold AL
  rw [if_neg (by omega), if_pos (by omega), Nat.add_sub_cancel_left]
theorem AL_t : AL z t0 base l t0 = some (zz_Q 11 0 (fun _ => none)) := if_pos rfl
/-- a heap that differs at one place, at two -/
theorem AL_1 (ht : t0 < base) {A a : Nat} (hA : A = base + a) {x : zz_C} {h' : zz_H} (o : ∀ q, q ≠ A → h' q = AL z t0 base l q) (ea : h' A = some x) : h' = AL z t0 base (sA l a x) := by
  funext q
  rw [← AL_u ht hA]
  by_cases ha : q = A
  · rw [ha, ea, zz_us]
  · rw [o q ha, zz_un ha]
theorem AL_2 (ht : t0 < base) {A B a b : Nat} (hA : A = base + a) (hB : B = base + b) (hab : a ≠ b) {x y : zz_C} {h' : zz_H} (o : ∀ q, q ≠ A → q ≠ B → h' q = AL z t0 base l q) (ea : h' A = some x) (eb : h' B = some y) : h' = AL z t0 base (sA (sA l a x) b y) := by
  funext q
  rw [← AL_u ht hB, ← AL_u ht hA]
  by_cases hb : q = B
  · rw [hb, eb, zz_us]
  · rw [zz_un hb]
    by_cases ha : q = A
    · rw [ha, ea, zz_us]
    · rw [o q ha hb, zz_un ha]
theorem a_L (ht : t0 < base) {A k m : Nat} {x1 x2 x3 : Value} (hA : A = base + k) (e : l k = some (.inr (0, [x1, x2, x3]))) : f_Jx4a65c_init_da8c8 t0 A (AL z t0 base l) m = some ((), AL z t0 base (sA l k (.inr (0, [.int 0, .ref t0, x3]))), m) := by
  obtain ⟨h', e1, o, w⟩ := mkL (t0 := t0) (n := m) (a := A) (h := AL z t0 base l) (by rw [AL_at ht hA]; exact e)
  rw [e1, AL_1 ht hA o w]
theorem a_4 (ht : t0 < base) {A B k m : Nat} {x : Value} (hA : A = base + k) (hB : B = base + m) (hkm : k ≠ m) (e : l k = some (.inr (5, [x]))) : f_X4_init t0 A (AL z t0 base l) B = some ((), AL z t0 base (sA (sA l k (.inr (5, [.ref B]))) m (zz_I 0 56 (fun _ => 0))), B + 1) := by
  obtain ⟨h', e1, o, w1, w2⟩ := mk4 (t0 := t0) (n := B) (a := A) (h := AL z t0 base l) (by rw [AL_at ht hA]; exact e) (by omega)
  rw [e1, AL_2 ht hA hB hkm o w1 w2]
theorem a_p (ht : t0 < base) {A k ci i : Nat} {v : Value} {fs fs' : List Value} {K : zz_H → Option α} (hA : A = base + k) (e : l k = some (.inr (ci, fs))) (hk : i < fs.length) (hs : fs.set i v = fs') : zz_p (AL z t0 base l) (some A) ci i v K = K (AL z t0 base (sA l k (.inr (ci, fs')))) := by
  rw [zp_r (by rw [AL_at ht hA]; exact e) hk hs, AL_u ht hA]
theorem a_q (ht : t0 < base) {A k ci i x : Nat} {fs : List Value} {K : Option Nat → Option α} (hA : A = base + k) (e : l k = some (.inr (ci, fs))) (hk : fs[i]? = some (.ref x)) : zz_gq (AL z t0 base l) (some A) ci i K = K (some x) := zgq_r (by rw [AL_at ht hA]; exact e) hk
theorem a_o (ht : t0 < base) {A k ci : Nat} {fs : List Value} {K : Nat → Option α} (hA : A = base + k) (e : l k = some (.inr (ci, fs))) : zz_ob (AL z t0 base l) (some A) ci K = K A := zob_r (by rw [AL_at ht hA]; exact e)
theorem a_5 (ht : t0 < base) {A k : Nat} {x y : Value} (hA : A = base + k) (e : l k = some (.inr (6, [x, y]))) : f_X5_init A (AL z t0 base l) = some ((), AL z t0 base (sA l k (.inr (6, [.int 45, .int 4])))) := by
  unfold f_X5_init
  rw [a_p ht (fs := [x, y]) (fs' := [.int 45, y]) hA e (by simp) rfl, a_p ht (fs := [.int 45, y]) (fs' := [.int 45, .int 4]) hA sA_h (by simp) rfl, sA_2]
theorem a_0 (ht : t0 < base) {A V N a v n c : Nat} {m : Int32} {fs : List Value} (hA : A = base + a) (hV : V = base + v) (hN : N = base + n) (hne : a ≠ n ∧ v ≠ n) (ea : l a = some (.inr (0, [.int m, .ref t0, .int 0]))) (ev : l v = some (.inr (c, fs))) (hc : 0 < c ∧ c < 9) : f_Jx4a65c_add_9ea2d t0 A (some V) (AL z t0 base l) N = some (1, AL z t0 base (sA (sA l a (.inr (0, [.int (m + 1), .ref N, .int 1]))) n (zz_Q 5 10 (va_up (fun _ => none) 0 (some V)))), N + 1) := by
  obtain ⟨h', e1, o, w1, w2⟩ := add_0 (t0 := t0) (n := N) (a := A) (v := V) (h := AL z t0 base l) (by rw [AL_at ht hA]; exact ea) AL_t (by rw [AL_at ht hV]; exact ev) hc (by omega) (by omega) (by omega)
  rw [e1, AL_2 ht hA hN hne.1 o w1 w2]
theorem a_g (ht : t0 < base) {A B V N a b v c i : Nat} {m : Int32} {f : Nat → Option Nat} {fs : List Value} (hA : A = base + a) (hB : B = base + b) (hV : V = base + v) (hab : a ≠ b) (hi : i < 10) (ea : l a = some (.inr (0, [.int m, .ref B, .int (Int32.ofNat i)]))) (eb : l b = some (zz_Q 5 10 f)) (ev : l v = some (.inr (c, fs))) (hc : 0 < c ∧ c < 9) : f_Jx4a65c_add_9ea2d t0 A (some V) (AL z t0 base l) N = some (1, AL z t0 base (sA (sA l a (.inr (0, [.int (m + 1), .ref B, .int (Int32.ofNat (i + 1))]))) b (zz_Q 5 10 (va_up f i (some V)))), N) := by
  obtain ⟨h', e1, o, w1, w2⟩ := add_g (t0 := t0) (n := N) (a := A) (b := B) (v := V) (h := AL z t0 base l) (by rw [AL_at ht hA]; exact ea) (by rw [AL_at ht hB]; exact eb) hi (by rw [AL_at ht hV]; exact ev) hc
  rw [e1, AL_2 ht hA hB hab o w1 w2]
/-- the law's script, alone -/
def zs_o (b L : Nat) (xs : Nat → Int32) : zz_H := fun q => if q = b then some (zz_I 12 L xs) else none
/-- .. and the empty array that every list begins with -/
def zs_h (t0 b L : Nat) (xs : Nat → Int32) : zz_H := fun q => if q = t0 then some (zz_Q 11 0 (fun _ => none)) else zs_o b L xs q
theorem AL_s (ht : t0 < base) {b L : Nat} {xs : Nat → Int32} (hb : b < base) {x : zz_C} : zz_u (zs_h t0 b L xs) base x = AL (zs_o b L xs) t0 base (fun j => if j = 0 then some x else none) := by
  funext q
  unfold zz_u zs_h AL
  by_cases h : q = base
  · rw [if_pos h, if_neg (by omega), if_pos (by omega)]
    exact (if_pos (by omega)).symm
  · rw [if_neg h]
    by_cases h2 : q = t0
    · rw [if_pos h2, if_pos h2]
    · rw [if_neg h2, if_neg h2]
      by_cases h3 : base ≤ q
      · rw [if_pos h3]
        unfold zs_o
        rw [if_neg (by omega)]
        exact (if_neg (by omega)).symm
      · rw [if_neg h3]
/-- the class's own cells behind its constructor -/
def lX (t0 base : Nat) (l : Nat → Option zz_C) : Prop := l 0 = some (.inr (10, [.ref (base + 1), .ref (base + 2), .ref (base + 3), .ref (base + 4), .ref (base + 5), .ref (base + 7)])) ∧ l 1 = some (.inr (0, [.int 0, .ref t0, .int 0])) ∧ l 2 = some (.inr (0, [.int 0, .ref t0, .int 0])) ∧ l 3 = some (.inr (0, [.int 0, .ref t0, .int 0])) ∧ l 4 = some (.inr (0, [.int (0 + 1 + 1 + 1 + 1), .ref (base + 10), .int 4])) ∧ l 5 = some (.inr (5, [.ref (base + 6)])) ∧ l 6 = some (zz_I 0 56 (fun _ => 0)) ∧ l 7 = some (.inr (5, [.ref (base + 8)])) ∧ l 8 = some (zz_I 0 56 (fun _ => 0)) ∧ l 9 = some (.inr (6, [.int 45, .int 4])) ∧ l 10 = some (zz_Q 5 10 (va_up (va_up (va_up (va_up (fun _ => none) 0 (some (base + 9))) 1 (some (base + 11))) 2 (some (base + 12))) 3 (some (base + 13)))) ∧ l 11 = some (.inr (6, [.int 45, .int 4])) ∧ l 12 = some (.inr (6, [.int 45, .int 4])) ∧ l 13 = some (.inr (6, [.int 45, .int 4]))
set_option maxRecDepth 100000 in
theorem x9 (ht : t0 < base) {b L : Nat} {xs : Nat → Int32} (hb : b < base) : ∃ l, f_X9_init t0 base (zz_u (zs_h t0 b L xs) base (.inr (10, [.null, .null, .null, .null, .null, .null]))) (base + 1) = some ((), AL (zs_o b L xs) t0 base l, base + 14) ∧ lX t0 base l := by
  unfold f_X9_init
  rw [AL_s ht hb,
    AL_u ht (k := 1) (by omega),
    a_L ht (k := 1) (x3 := .int 0) (by omega) (by rfl),
    zb2_s,
    a_p ht (k := 0) (fs := [.null, .null, .null, .null, .null, .null]) (fs' := [.ref (base + 1), .null, .null, .null, .null, .null]) (by omega) (by rfl) (by simp) (by rfl),
    AL_u ht (k := 2) (by omega),
    a_L ht (k := 2) (x3 := .int 0) (by omega) (by rfl),
    zb2_s,
    a_p ht (k := 0) (fs := [.ref (base + 1), .null, .null, .null, .null, .null]) (fs' := [.ref (base + 1), .ref (base + 2), .null, .null, .null, .null]) (by omega) (by rfl) (by simp) (by rfl),
    AL_u ht (k := 3) (by omega),
    a_L ht (k := 3) (x3 := .int 0) (by omega) (by rfl),
    zb2_s,
    a_p ht (k := 0) (fs := [.ref (base + 1), .ref (base + 2), .null, .null, .null, .null]) (fs' := [.ref (base + 1), .ref (base + 2), .ref (base + 3), .null, .null, .null]) (by omega) (by rfl) (by simp) (by rfl),
    AL_u ht (k := 4) (by omega),
    a_L ht (k := 4) (x3 := .int 0) (by omega) (by rfl),
    zb2_s,
    a_p ht (k := 0) (fs := [.ref (base + 1), .ref (base + 2), .ref (base + 3), .null, .null, .null]) (fs' := [.ref (base + 1), .ref (base + 2), .ref (base + 3), .ref (base + 4), .null, .null]) (by omega) (by rfl) (by simp) (by rfl),
    AL_u ht (k := 5) (by omega),
    a_4 ht (k := 5) (m := 6) (x := .null) (by omega) (by omega) (by decide) (by rfl),
    zb2_s,
    a_p ht (k := 0) (fs := [.ref (base + 1), .ref (base + 2), .ref (base + 3), .ref (base + 4), .null, .null]) (fs' := [.ref (base + 1), .ref (base + 2), .ref (base + 3), .ref (base + 4), .ref (base + 5), .null]) (by omega) (by rfl) (by simp) (by rfl),
    AL_u ht (k := 7) (by omega),
    a_4 ht (k := 7) (m := 8) (x := .null) (by omega) (by omega) (by decide) (by rfl),
    zb2_s,
    a_p ht (k := 0) (fs := [.ref (base + 1), .ref (base + 2), .ref (base + 3), .ref (base + 4), .ref (base + 5), .null]) (fs' := [.ref (base + 1), .ref (base + 2), .ref (base + 3), .ref (base + 4), .ref (base + 5), .ref (base + 7)]) (by omega) (by rfl) (by simp) (by rfl),
    if_neg (by decide),
    a_q ht (k := 0) (x := base + 4) (fs := [.ref (base + 1), .ref (base + 2), .ref (base + 3), .ref (base + 4), .ref (base + 5), .ref (base + 7)]) (by omega) (by rfl) (by rfl),
    AL_u ht (k := 9) (by omega),
    a_5 ht (k := 9) (x := .int 0) (y := .int 0) (by omega) (by rfl),
    zb1_s,
    a_o ht (k := 4) (fs := [.int 0, .ref t0, .int 0]) (by omega) (by rfl),
    a_0 ht (a := 4) (v := 9) (n := 10) (c := 6) (m := 0) (fs := [.int 45, .int 4]) (by omega) (by omega) (by omega) (by decide) (by rfl) (by rfl) (by decide),
    zb2_s,
    if_neg (by decide),
    a_q ht (k := 0) (x := base + 4) (fs := [.ref (base + 1), .ref (base + 2), .ref (base + 3), .ref (base + 4), .ref (base + 5), .ref (base + 7)]) (by omega) (by rfl) (by rfl),
    AL_u ht (k := 11) (by omega),
    a_5 ht (k := 11) (x := .int 0) (y := .int 0) (by omega) (by rfl),
    zb1_s,
    a_o ht (k := 4) (fs := [.int (0 + 1), .ref (base + 10), .int (Int32.ofNat 1)]) (by omega) (by rfl),
    a_g ht (a := 4) (b := 10) (B := base + 10) (v := 11) (c := 6) (i := 1) (m := 0 + 1) (f := va_up (fun _ => none) 0 (some (base + 9))) (fs := [.int 45, .int 4]) (by omega) (by omega) (by omega) (by decide) (by decide) (by rfl) (by rfl) (by rfl) (by decide),
    zb2_s,
    if_neg (by decide),
    a_q ht (k := 0) (x := base + 4) (fs := [.ref (base + 1), .ref (base + 2), .ref (base + 3), .ref (base + 4), .ref (base + 5), .ref (base + 7)]) (by omega) (by rfl) (by rfl),
    AL_u ht (k := 12) (by omega),
    a_5 ht (k := 12) (x := .int 0) (y := .int 0) (by omega) (by rfl),
    zb1_s,
    a_o ht (k := 4) (fs := [.int (0 + 1 + 1), .ref (base + 10), .int (Int32.ofNat 2)]) (by omega) (by rfl),
    a_g ht (a := 4) (b := 10) (B := base + 10) (v := 12) (c := 6) (i := 2) (m := 0 + 1 + 1) (f := va_up (va_up (fun _ => none) 0 (some (base + 9))) 1 (some (base + 11))) (fs := [.int 45, .int 4]) (by omega) (by omega) (by omega) (by decide) (by decide) (by rfl) (by rfl) (by rfl) (by decide),
    zb2_s,
    if_neg (by decide),
    a_q ht (k := 0) (x := base + 4) (fs := [.ref (base + 1), .ref (base + 2), .ref (base + 3), .ref (base + 4), .ref (base + 5), .ref (base + 7)]) (by omega) (by rfl) (by rfl),
    AL_u ht (k := 13) (by omega),
    a_5 ht (k := 13) (x := .int 0) (y := .int 0) (by omega) (by rfl),
    zb1_s,
    a_o ht (k := 4) (fs := [.int (0 + 1 + 1 + 1), .ref (base + 10), .int (Int32.ofNat 3)]) (by omega) (by rfl),
    a_g ht (a := 4) (b := 10) (B := base + 10) (v := 13) (c := 6) (i := 3) (m := 0 + 1 + 1 + 1) (f := va_up (va_up (va_up (fun _ => none) 0 (some (base + 9))) 1 (some (base + 11))) 2 (some (base + 12))) (fs := [.int 45, .int 4]) (by omega) (by omega) (by omega) (by decide) (by decide) (by rfl) (by rfl) (by rfl) (by decide),
    zb2_s,
    if_pos (by decide)]
  exact ⟨_, rfl, rfl, rfl, rfl, rfl, rfl, rfl, rfl, rfl, rfl, rfl, rfl, rfl, rfl, rfl⟩
end ZYA
