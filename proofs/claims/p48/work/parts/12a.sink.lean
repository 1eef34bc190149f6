section ZSA
/-! how far cells sink: once forth and once back is the greatest of all -/
theorem zm1 (f : Nat → Int) (a : Int) : ∀ n : Nat, a ≤ zfd (fun y b => max b (f y)) a n ∧ (∀ y, y < n → f y ≤ zfd (fun y b => max b (f y)) a n) ∧ ∀ v, a ≤ v → (∀ y, y < n → f y ≤ v) → zfd (fun y b => max b (f y)) a n ≤ v
  | 0 => ⟨Int.le_refl _, fun y hy => absurd hy (by omega), fun v hv _ => hv⟩
  | n + 1 => by
    obtain ⟨h1, h2, h3⟩ := zm1 f a n
    have e : zfd (fun y b => max b (f y)) a (n + 1) = max (zfd (fun y b => max b (f y)) a n) (f n) := rfl
    rw [e]
    generalize zfd (fun y b => max b (f y)) a n = w at h1 h2 h3
    refine ⟨by omega, fun y hy => ?_, fun v hv hf => ?_⟩
    · by_cases hq : y = n
      · subst hq; omega
      · have := h2 y (by omega); omega
    · have h4 := h3 v hv (fun y hy => hf y (by omega))
      have h5 := hf n (by omega)
      omega
def zmx (f : Nat → Nat → Int) (c r : Nat) : Int := zfd (fun x a => zfd (fun y b => max b (f x y)) a r) 0 c
theorem zm2 (f : Nat → Nat → Int) (r : Nat) : ∀ c : Nat, 0 ≤ zmx f c r ∧ (∀ x y, x < c → y < r → f x y ≤ zmx f c r) ∧ ∀ v, 0 ≤ v → (∀ x y, x < c → y < r → f x y ≤ v) → zmx f c r ≤ v
  | 0 => ⟨Int.le_refl _, fun x y hx => absurd hx (by omega), fun v hv _ => hv⟩
  | c + 1 => by
    obtain ⟨h1, h2, h3⟩ := zm2 f r c
    obtain ⟨g1, g2, g3⟩ := zm1 (f c) (zmx f c r) r
    have e : zmx f (c + 1) r = zfd (fun y b => max b (f c y)) (zmx f c r) r := rfl
    rw [e]
    generalize zfd (fun y b => max b (f c y)) (zmx f c r) r = w at g1 g2 g3
    refine ⟨by omega, fun x y hx hy => ?_, fun v hv hf => ?_⟩
    · by_cases hq : x = c
      · subst hq; exact g2 y hy
      · have := h2 x y (by omega) hy; omega
    · exact g3 v (h3 v hv (fun x y hx hy => hf x y (by omega) hy)) (fun y hy => hf c y (by omega) hy)
def dst (a x : Nat) : Int := if a ≤ x then (x : Int) - a else (a : Int) - x
/-- the greatest of what all cells give to one -/
def zM (own : Nat → Nat → Int) (c r x y : Nat) : Int := zmx (fun a b => own a b - 8 * (dst a x + dst b y)) c r
theorem zM_own {own : Nat → Nat → Int} {c r x y : Nat} (hx : x < c) (hy : y < r) : own x y ≤ zM own c r x y := by
  have h : own x y - 8 * (dst x x + dst y y) ≤ zM own c r x y := (zm2 (fun a b => own a b - 8 * (dst a x + dst b y)) r c).2.1 x y hx hy
  have d0 : ∀ x, dst x x = 0 := fun x => by
    unfold dst
    rw [if_pos (Nat.le_refl _)]
    omega
  rw [d0, d0] at h
  omega
theorem zM_0 {own : Nat → Nat → Int} {c r x y : Nat} : 0 ≤ zM own c r x y := (zm2 _ r c).1
theorem zM_lip {own : Nat → Nat → Int} {c r x y x' y' : Nat} (h : dst x x' + dst y y' ≤ 1) : zM own c r x' y' - 8 ≤ zM own c r x y := by
  obtain ⟨h1, h2, h3⟩ := zm2 (fun a b => own a b - 8 * (dst a x + dst b y)) r c
  obtain ⟨g1, g2, g3⟩ := zm2 (fun a b => own a b - 8 * (dst a x' + dst b y')) r c
  have := g3 (zM own c r x y + 8) (by have := zM_0 (own := own) (c := c) (r := r) (x := x) (y := y); omega) (fun a b ha hb => by
    have h4 := h2 a b ha hb
    have e : zM own c r x y = zmx (fun a b => own a b - 8 * (dst a x + dst b y)) c r := rfl
    rw [e]
    have t1 : dst a x ≤ dst a x' + dst x x' := by unfold dst; split <;> split <;> split <;> omega
    have t2 : dst b y ≤ dst b y' + dst y y' := by unfold dst; split <;> split <;> split <;> omega
    have h5 : own a b - 8 * (dst a x + dst b y) ≤ zmx (fun a b => own a b - 8 * (dst a x + dst b y)) c r := h4
    show own a b - 8 * (dst a x' + dst b y') ≤ _
    omega)
  show zmx _ c r - 8 ≤ _
  omega
theorem zM_ub {own : Nat → Nat → Int} {c r x y : Nat} {v : Int} (h0 : 0 ≤ v) (h : ∀ a b, a < c → b < r → own a b - 8 * (dst a x + dst b y) ≤ v) : zM own c r x y ≤ v := (zm2 _ r c).2.2 v h0 h
/-- forth: what each cell has at least, of those ahead of it -/
theorem forth {own F : Nat → Nat → Int} {c r : Nat} (h1 : ∀ x y, x < c → y < r → own x y ≤ F x y) (h2 : ∀ x y, x + 1 < c → y < r → F x y - 8 ≤ F (x + 1) y) (h3 : ∀ x y, x < c → y + 1 < r → F x y - 8 ≤ F x (y + 1)) {a b : Nat} : ∀ k m : Nat, a + k < c → b + m < r → own a b - 8 * ((k : Int) + m) ≤ F (a + k) (b + m)
  | 0, 0, hk, hm => by have := h1 a b hk hm; simp only [Nat.add_zero]; omega
  | 0, m + 1, hk, hm => by
    have h4 := forth (a := a) (b := b) h1 h2 h3 0 m hk (by omega)
    have h5 := h3 (a + 0) (b + m) hk (by omega)
    rw [← Nat.add_assoc b m 1]
    omega
  | k + 1, m, hk, hm => by
    have h4 := forth (a := a) (b := b) h1 h2 h3 k m (by omega) hm
    have h5 := h2 (a + k) (b + m) (by omega) hm
    rw [← Nat.add_assoc a k 1]
    omega
theorem back {F B : Nat → Nat → Int} {c r : Nat} (h1 : ∀ x y, x < c → y < r → F x y ≤ B x y) (h2 : ∀ x y, x + 1 < c → y < r → B (x + 1) y - 8 ≤ B x y) (h3 : ∀ x y, x < c → y + 1 < r → B x (y + 1) - 8 ≤ B x y) {x y : Nat} : ∀ k m : Nat, x + k < c → y + m < r → F (x + k) (y + m) - 8 * ((k : Int) + m) ≤ B x y
  | 0, 0, hk, hm => by have := h1 x y hk hm; simp only [Nat.add_zero]; omega
  | 0, m + 1, hk, hm => by
    have h4 := back (x := x) (y := y + 1) h1 h2 h3 0 m hk (by omega)
    have h5 := h3 x y (by omega) (by omega)
    rw [show y + (m + 1) = y + 1 + m by omega]
    omega
  | k + 1, m, hk, hm => by
    have h4 := back (x := x + 1) (y := y) h1 h2 h3 k m (by omega) hm
    have h5 := h2 x y (by omega) (by omega)
    rw [show x + (k + 1) = x + 1 + k by omega]
    omega
theorem twice {own F B : Nat → Nat → Int} {c r : Nat} (f1 : ∀ x y, x < c → y < r → own x y ≤ F x y) (f2 : ∀ x y, x + 1 < c → y < r → F x y - 8 ≤ F (x + 1) y) (f3 : ∀ x y, x < c → y + 1 < r → F x y - 8 ≤ F x (y + 1)) (b1 : ∀ x y, x < c → y < r → F x y ≤ B x y) (b2 : ∀ x y, x + 1 < c → y < r → B (x + 1) y - 8 ≤ B x y) (b3 : ∀ x y, x < c → y + 1 < r → B x (y + 1) - 8 ≤ B x y) (h0 : ∀ x y, x < c → y < r → 0 ≤ B x y) (hu : ∀ x y, x < c → y < r → B x y ≤ zM own c r x y) {x y : Nat} (hx : x < c) (hy : y < r) : B x y = zM own c r x y := by
  refine Int.le_antisymm (hu x y hx hy) (zM_ub (h0 x y hx hy) (fun a b ha hb => ?_))
  have key : ∀ x' y' : Nat, a ≤ x' → b ≤ y' → x ≤ x' → y ≤ y' → x' < c → y' < r → own a b - 8 * (((x' : Int) - a + ((y' : Int) - b)) + (((x' : Int) - x) + ((y' : Int) - y))) ≤ B x y := by
    intro x' y' p1 p2 p3 p4 p5 p6
    have g1 := forth (a := a) (b := b) f1 f2 f3 (x' - a) (y' - b) (by omega) (by omega)
    have g2 := back (x := x) (y := y) b1 b2 b3 (x' - x) (y' - y) (by omega) (by omega)
    rw [Nat.add_sub_cancel' p1, Nat.add_sub_cancel' p2] at g1
    rw [Nat.add_sub_cancel' p3, Nat.add_sub_cancel' p4] at g2
    omega
  by_cases q1 : a ≤ x
  · by_cases q2 : b ≤ y
    · have := key x y q1 q2 (Nat.le_refl _) (Nat.le_refl _) hx hy
      unfold dst; rw [if_pos q1, if_pos q2]; omega
    · have := key x b q1 (Nat.le_refl _) (Nat.le_refl _) (by omega) hx hb
      unfold dst; rw [if_pos q1, if_neg q2]; omega
  · by_cases q2 : b ≤ y
    · have := key a y (Nat.le_refl _) q2 (by omega) (Nat.le_refl _) ha hy
      unfold dst; rw [if_neg q1, if_pos q2]; omega
    · have := key a b (Nat.le_refl _) (Nat.le_refl _) (by omega) (by omega) ha hb
      unfold dst; rw [if_neg q1, if_neg q2]; omega
/-- a loop by what holds at each of its steps -/
theorem zit_inv {σ γ : Type} {b : σ → Option (σ ⊕ γ)} (I : Nat → σ → Prop) (Q : γ → Prop) (N : Nat) (h1 : ∀ i, i < N → ∀ s, I i s → ∃ s', b s = some (.inl s') ∧ I (i + 1) s') (h2 : ∀ s, I N s → ∃ r, b s = some (.inr r) ∧ Q r) : ∀ (k i : Nat) (s : σ), I i s → i ≤ N → N - i < k → ∃ r, zz_it b k s = some r ∧ Q r
  | 0, i, s, _, _, hk => absurd hk (by omega)
  | k + 1, i, s, hI, hi, hk => by
    unfold zz_it
    by_cases hq : i = N
    · subst hq
      obtain ⟨r, e, hr⟩ := h2 s hI
      rw [e]
      exact ⟨r, rfl, hr⟩
    · obtain ⟨s', e, hI'⟩ := h1 i (by omega) s hI
      rw [e]
      exact zit_inv I Q N h1 h2 k (i + 1) s' hI' (by omega) (by omega)
theorem zit_I {σ γ : Type} {b : σ → Option (σ ⊕ γ)} (I : Nat → σ → Prop) (Q : γ → Prop) (N : Nat) (hN : N < 100000) {s : σ} (h0 : I 0 s) (h1 : ∀ i, i < N → ∀ s, I i s → ∃ s', b s = some (.inl s') ∧ I (i + 1) s') (h2 : ∀ s, I N s → ∃ r, b s = some (.inr r) ∧ Q r) : ∃ r, zz_it b zz_F s = some r ∧ Q r :=
  zit_inv I Q N h1 h2 zz_F 0 s h0 (by omega) (by unfold zz_F; omega)
theorem dm_step (p r : Nat) (hr : 0 < r) : (p % r + 1 < r ∧ (p + 1) / r = p / r ∧ (p + 1) % r = p % r + 1) ∨ (p % r + 1 = r ∧ (p + 1) / r = p / r + 1 ∧ (p + 1) % r = 0) := by
  have h1 := Nat.mod_lt p hr
  have h2 := Nat.div_add_mod p r
  by_cases h : p % r + 1 < r
  · refine Or.inl ⟨h, ?_, ?_⟩
    · rw [Nat.div_eq_iff hr]
      have : p / r * r = r * (p / r) := Nat.mul_comm _ _
      omega
    · have e : p + 1 = r * (p / r) + (p % r + 1) := by omega
      rw [e, Nat.mul_add_mod, Nat.mod_eq_of_lt h]
  · refine Or.inr ⟨by omega, ?_, ?_⟩
    · rw [Nat.div_eq_iff hr]
      have : (p / r + 1) * r = r * (p / r) + r := by rw [Nat.add_mul, Nat.one_mul, Nat.mul_comm]
      omega
    · have e : p + 1 = r * (p / r + 1) + 0 := by rw [Nat.mul_add, Nat.mul_one]; omega
      rw [e, Nat.mul_add_mod, Nat.zero_mod]
end ZSA
