section ZKA
/-! the law's own cells: the script, its arrays -/
variable {t0 base : Nat} {ow ow' : zz_H} {μ μ' : zzM} {ν ν' : zzN} {H : Int} {nS nK : Nat} {h h' : zz_H} {n n' : Nat} {α : Type}
theorem ai_r {t N i a : Nat} {f : Nat → Int32} {K : Int32 → Option α} (e : h a = some (zz_I t N f)) (hi : i < N) (hN : N < 1000) : zz_ai t h (some a) (Int32.ofNat i) K = K (f i) := by
  unfold zz_ai
  simp only [e]
  rw [if_pos ⟨trivial, by rw [on_n _ (by omega)]; exact fun q => q.elim (fun q => on_nn _ (by omega) q) (fun q => by omega)⟩, on_n _ (by omega)]
theorem aq_r {t N i a : Nat} {f : Nat → Option Nat} {K : Option Nat → Option α} (e : h a = some (zz_Q t N f)) (hi : i < N) (hN : N < 1000) : zz_aq t h (some a) (Int32.ofNat i) K = K (f i) := by
  unfold zz_aq
  simp only [e]
  rw [if_pos ⟨trivial, by rw [on_n _ (by omega)]; exact fun q => q.elim (fun q => on_nn _ (by omega) q) (fun q => by omega)⟩, on_n _ (by omega)]
/-- a number out of the script -/
def zw (L : Nat) (xs : Nat → Int32) (k : Nat) : Int32 := (f_L_cell_15 (Int32.ofNat k) (if L ≤ k then 0 else xs k) (69069 : Int32) (fun _ => none)).getD 0
def zm (w : Int32) : Nat := (w &&& 2147483647).toNatClampNeg
def zin (L : Nat) (xs : Nat → Int32) (k n : Nat) : Nat := zm (zw L xs k) % n
theorem zm_ok (w : Int32) : w &&& 2147483647 = Int32.ofNat (zm w) ∧ zm w < 2 ^ 31 := by
  have h1 : (w &&& 2147483647).toBitVec.toNat < 2 ^ 31 := by
    have h2 : (w &&& 2147483647).toBitVec.toNat = w.toBitVec.toNat &&& 2147483647 := rfl
    rw [h2]
    exact Nat.lt_of_le_of_lt Nat.and_le_right (by decide)
  have h3 : (w &&& 2147483647).toInt = ((w &&& 2147483647).toBitVec.toNat : Int) := BitVec.toInt_eq_toNat_of_lt (by omega)
  have h4 : (0 : Int32) ≤ w &&& 2147483647 := Int32.le_iff_toInt_le.mpr (by rw [h3]; show (0 : Int) ≤ _; omega)
  refine ⟨(Int32.ofNat_toNatClampNeg _ h4).symm, ?_⟩
  show (w &&& 2147483647).toInt.toNat < 2 ^ 31
  rw [h3]
  exact h1
theorem in_r {b L : Nat} {xs : Nat → Int32} (e : h b = some (zz_I 12 L xs)) (hL : L ≤ 260) {k m : Nat} (hk : k < 1000) (hm : 1 ≤ m ∧ m < 100000) : f_L_in b (Int32.ofNat k) (Int32.ofNat m) h = some (Int32.ofNat (zin L xs k m)) := by
  have e1 : f_L_cell b (Int32.ofNat k) h = some (zw L xs k) := by
    unfold f_L_cell zz_len
    simp only [e]
    rw [if_pos (by decide)]
    by_cases g : L ≤ k
    · rw [if_pos (ple (by omega))]
      unfold zw
      rw [if_pos g]
      rfl
    · rw [if_neg (nle (by omega)), ai_r e (by omega) (by omega)]
      unfold zw
      rw [if_neg g]
      rfl
  obtain ⟨e2, e3⟩ := zm_ok (zw L xs k)
  unfold f_L_in
  rw [e1]
  show zz_dv _ _ = _
  unfold zz_dv
  rw [if_neg (onnz (by omega)), e2, on_r _ _ e3 (by omega)]
  rfl
theorem zin_lt {L : Nat} {xs : Nat → Int32} {k m : Nat} (hm : 1 ≤ m) : zin L xs k m < m := Nat.mod_lt _ hm
/-- an array of the law's own, one of arrays -/
def A1 (ow : zz_H) (a t N : Nat) (g : Nat → Int32) : Prop := ∃ f, ow a = some (zz_I t N f) ∧ ∀ i, i < N → f i = g i
def A2 (ow : zz_H) (a c r : Nat) (g : Nat → Nat → Int32) : Prop := ow a = some (zz_Q 6 c (fun i => some (a + 1 + i))) ∧ ∀ x, x < c → A1 ow (a + 1 + x) 0 r (g x)
theorem A1_c {a t N : Nat} {g g' : Nat → Int32} (A : A1 ow a t N g) (hg : ∀ i, i < N → g i = g' i) : A1 ow a t N g' := by
  obtain ⟨f, e, k⟩ := A
  exact ⟨f, e, fun i hi => (k i hi).trans (hg i hi)⟩
theorem A1_f {a t N : Nat} {g : Nat → Int32} (A : A1 ow a t N g) (hq : ow' a = ow a) : A1 ow' a t N g := by
  obtain ⟨f, e, k⟩ := A
  exact ⟨f, hq.trans e, k⟩
theorem A2_f {a c r : Nat} {g : Nat → Nat → Int32} (A : A2 ow a c r g) (hq : ∀ q, a ≤ q → q ≤ a + c → ow' q = ow q) : A2 ow' a c r g :=
  ⟨(hq a (Nat.le_refl _) (by omega)).trans A.1, fun x hx => A1_f (A.2 x hx) (hq _ (by omega) (by omega))⟩
theorem A2_c {a c r : Nat} {g g' : Nat → Nat → Int32} (A : A2 ow a c r g) (hg : ∀ x y, x < c → y < r → g x y = g' x y) : A2 ow a c r g' :=
  ⟨A.1, fun x hx => A1_c (A.2 x hx) (fun y hy => hg x y hx hy)⟩
theorem J_ai (J : JJ t0 base ow μ ν nS nK H h n) {a t N i : Nat} {g : Nat → Int32} {K : Int32 → Option α} (A : A1 ow a t N g) (hi : i < N) (hN : N < 1000 := by omega) : zz_ai t h (some a) (Int32.ofNat i) K = K (g i) := by
  obtain ⟨f, e, k⟩ := A
  rw [ai_r (JJ_ow J e).1 hi hN, k i hi]
theorem J_aq (J : JJ t0 base ow μ ν nS nK H h n) {a c r i : Nat} {g : Nat → Nat → Int32} {K : Option Nat → Option α} (A : A2 ow a c r g) (hi : i < c) (hN : c < 1000 := by omega) : zz_aq 6 h (some a) (Int32.ofNat i) K = K (some (a + 1 + i)) := aq_r (JJ_ow J A.1).1 hi hN
theorem J_lt (J : JJ t0 base ow μ ν nS nK H h n) {a t N : Nat} {g : Nat → Int32} (A : A1 ow a t N g) : a < n := by
  obtain ⟨f, e, k⟩ := A
  exact (JJ_ow J e).2
theorem J_in (J : JJ t0 base ow μ ν nS nK H h n) {b L : Nat} {xs : Nat → Int32} (e : ow b = some (zz_I 12 L xs)) (hL : L ≤ 260) {k m : Nat} (hk : k < 1000) (hm : 1 ≤ m ∧ m < 100000) : f_L_in b (Int32.ofNat k) (Int32.ofNat m) h = some (Int32.ofNat (zin L xs k m)) := in_r (JJ_ow J e).1 hL hk hm
/-- writing -/
theorem J_si (J : JJ t0 base ow μ ν nS nK H h n) {a t N i : Nat} {g : Nat → Int32} {v : Int32} (A : A1 ow a t N g) (hi : i < N) (hN : N < 1000) : ∃ ow' h', zz_si t h (some a) (Int32.ofNat i) v some = some h' ∧ JJ t0 base ow' μ ν nS nK H h' n ∧ A1 ow' a t N (fun j => if j = i then v else g j) ∧ ∀ q, q ≠ a → ow' q = ow q := by
  obtain ⟨f, e, k⟩ := A
  refine ⟨_, _, zsi_r (JJ_ow J e).1 hi hN, JJ_wr J e, ⟨upd f i v, zz_us, fun j hj => ?_⟩, fun q hq => zz_un hq⟩
  show (if j = i then v else f j) = (if j = i then v else g j)
  by_cases g1 : j = i
  · rw [if_pos g1, if_pos g1]
  · rw [if_neg g1, if_neg g1, k j hj]
/-- making -/
theorem J_new (J : JJ t0 base ow μ ν nS nK H h n) {t N : Nat} : JJ t0 base (zz_u ow n (zz_I t N (fun _ => 0))) μ ν nS nK H (zz_u h n (zz_I t N (fun _ => 0))) (n + 1) ∧ A1 (zz_u ow n (zz_I t N (fun _ => 0))) n t N (fun _ => 0) ∧ ∀ q, q < n → zz_u ow n (zz_I t N (fun _ => 0)) q = ow q := by
  refine ⟨JJ_mk J (Nat.le_succ n) (fun q hq => ⟨zz_un (by omega), zz_un (by omega)⟩) (fun q x e hq => ?_), ⟨_, zz_us, fun i hi => rfl⟩, fun q hq => zz_un (by omega)⟩
  by_cases g : q = n
  · subst g
    rw [zz_us] at e ⊢
    exact ⟨by omega, e⟩
  · rw [zz_un g] at e
    have := (JJ_ow J e).2
    omega
theorem J_new2 (J : JJ t0 base ow μ ν nS nK H h n) {c r : Nat} : JJ t0 base (zz_M2 ow n 6 c 0 (r, .inl (fun _ => 0))) μ ν nS nK H (zz_M2 h n 6 c 0 (r, .inl (fun _ => 0))) (n + 1 + c) ∧ A2 (zz_M2 ow n 6 c 0 (r, .inl (fun _ => 0))) n c r (fun _ _ => 0) ∧ ∀ q, q < n → zz_M2 ow n 6 c 0 (r, .inl (fun _ => 0)) q = ow q := by
  have low : ∀ (z : zz_H) q, q < n → zz_M2 z n 6 c 0 (r, .inl (fun _ => 0)) q = z q := fun z q hq => by
    unfold zz_M2
    rw [if_neg (by omega), if_neg (by omega)]
  have row : ∀ (z : zz_H) x, x < c → zz_M2 z n 6 c 0 (r, .inl (fun _ => 0)) (n + 1 + x) = some (zz_I 0 r (fun _ => 0)) := fun z x hx => by
    unfold zz_M2
    rw [if_neg (by omega), if_pos (by omega)]
  have top : ∀ z : zz_H, zz_M2 z n 6 c 0 (r, .inl (fun _ => 0)) n = some (zz_Q 6 c (fun i => some (n + 1 + i))) := fun z => if_pos rfl
  refine ⟨JJ_mk J (by omega) (fun q hq => ⟨low _ q hq, low _ q hq⟩) (fun q x e hq => ?_), ⟨top _, fun x hx => ⟨_, row _ x hx, fun i hi => rfl⟩⟩, fun q hq => low _ q hq⟩
  by_cases g : q = n
  · subst g
    rw [top] at e ⊢
    exact ⟨by omega, e⟩
  · by_cases g2 : q < n + 1 + c
    · obtain ⟨x, rfl⟩ : ∃ x, q = n + 1 + x := ⟨q - n - 1, by omega⟩
      rw [row _ x (by omega)] at e ⊢
      exact ⟨g2, e⟩
    · unfold zz_M2 at e
      rw [if_neg g, if_neg (by omega)] at e
      have := (JJ_ow J e).2
      omega
theorem znw_r {c : Nat} {K : Nat → Prop} (hc : c ≤ 4) (k : K c) : znw (Int32.ofNat c) K := ⟨c, on_nn _ (by omega), on_n _ (by omega), hc, k⟩
end ZKA
