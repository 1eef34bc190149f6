section ZNA
/-! whole numbers as Int32; loops by folds -/
theorem on_a (a b : Nat) : Int32.ofNat a + Int32.ofNat b = Int32.ofNat (a + b) := (Int32.ofNat_add a b).symm
theorem on_s (a : Nat) : Int32.ofNat a + 1 = Int32.ofNat (a + 1) := on_a a 1
theorem on_p (a : Nat) (h : 1 ≤ a) : Int32.ofNat a - 1 = Int32.ofNat (a - 1) := (Int32.ofNat_sub a 1 h).symm
theorem on_m (a b : Nat) : Int32.ofNat a * Int32.ofNat b = Int32.ofNat (a * b) := (Int32.ofNat_mul a b).symm
theorem on_d (a b : Nat) (ha : a < 2 ^ 31) (hb : b < 2 ^ 31) : Int32.ofNat a / Int32.ofNat b = Int32.ofNat (a / b) := (Int32.ofNat_div ha hb).symm
theorem on_r (a b : Nat) (ha : a < 2 ^ 31) (hb : b < 2 ^ 31) : zz_rem (Int32.ofNat a) (Int32.ofNat b) = Int32.ofNat (a % b) := by
  show Int32.ofNat a - Int32.ofNat a / Int32.ofNat b * Int32.ofNat b = _
  rw [on_d a b ha hb, on_m, ← Int32.ofNat_sub _ _ (Nat.div_mul_le_self a b)]
  congr 1
  have := Nat.div_add_mod a b
  rw [Nat.mul_comm] at this
  omega
theorem on_lt (a b : Nat) (ha : a < 2 ^ 31) (hb : b < 2 ^ 31) : (Int32.ofNat a < Int32.ofNat b) = (a < b) := propext (Int32.ofNat_lt_iff_lt ha hb)
theorem on_le (a b : Nat) (ha : a < 2 ^ 31) (hb : b < 2 ^ 31) : (Int32.ofNat a ≤ Int32.ofNat b) = (a ≤ b) := propext (Int32.ofNat_le_iff_le ha hb)
theorem on_eq (a b : Nat) (ha : a < 2 ^ 31) (hb : b < 2 ^ 31) : (Int32.ofNat a = Int32.ofNat b) = (a = b) := propext ⟨fun h => by
  have := congrArg Int32.toInt h
  rw [Int32.toInt_ofNat_of_lt ha, Int32.toInt_ofNat_of_lt hb] at this
  omega, fun h => by rw [h]⟩
theorem on_n (a : Nat) (ha : a < 2 ^ 31) : (Int32.ofNat a).toNatClampNeg = a := Int32.toNatClampNeg_ofNat_of_lt ha
theorem on_nn (a : Nat) (ha : a < 2 ^ 31) : ¬ Int32.ofNat a < 0 := by
  have h := on_lt a 0 ha (by decide)
  intro q
  have : a < 0 := h ▸ q
  omega
theorem on_i (a : Nat) (ha : a < 2 ^ 31) : (Int32.ofNat a).toInt = a := Int32.toInt_ofNat_of_lt ha
theorem nle {a b : Nat} (h : b < a ∧ a < 2 ^ 31) : ¬ Int32.ofNat a ≤ Int32.ofNat b := fun q => by
  have := (Int32.ofNat_le_iff_le (by omega) (by omega)).mp q
  omega
theorem ple {a b : Nat} (h : a ≤ b ∧ b < 2 ^ 31) : Int32.ofNat a ≤ Int32.ofNat b := (Int32.ofNat_le_iff_le (by omega) (by omega)).mpr h.1
theorem nlt {a b : Nat} (h : b ≤ a ∧ a < 2 ^ 31) : ¬ Int32.ofNat a < Int32.ofNat b := fun q => by
  have := (Int32.ofNat_lt_iff_lt (by omega) (by omega)).mp q
  omega
theorem plt {a b : Nat} (h : a < b ∧ b < 2 ^ 31) : Int32.ofNat a < Int32.ofNat b := (Int32.ofNat_lt_iff_lt (by omega) (by omega)).mpr h.1
theorem pne {a b : Nat} (h : a ≠ b ∧ a < 2 ^ 31 ∧ b < 2 ^ 31) : ¬ Int32.ofNat a = Int32.ofNat b := fun q => h.1 ((on_eq a b h.2.1 h.2.2) ▸ q)
theorem onz {a : Nat} (h : a = 0) : Int32.ofNat a = 0 := by rw [h]; rfl
theorem onnz {a : Nat} (h : a ≠ 0 ∧ a < 2 ^ 31) : ¬ Int32.ofNat a = 0 := pne (b := 0) ⟨h.1, h.2, by decide⟩
theorem nlt0 : (0 : Int32) = Int32.ofNat 0 := rfl
theorem nlt1 : (1 : Int32) = Int32.ofNat 1 := rfl
theorem nlt2 : (2 : Int32) = Int32.ofNat 2 := rfl
theorem nlt3 : (3 : Int32) = Int32.ofNat 3 := rfl
theorem nlt4 : (4 : Int32) = Int32.ofNat 4 := rfl
theorem nlt5 : (5 : Int32) = Int32.ofNat 5 := rfl
theorem nlt6 : (6 : Int32) = Int32.ofNat 6 := rfl
theorem nlt10 : (10 : Int32) = Int32.ofNat 10 := rfl
theorem rem_I (x y : Int32) (hy : y ≠ -1) : zz_rem x y = Int32.ofInt (x.toInt.tmod y.toInt) := by
  have h1 : x / y = Int32.ofInt (x.toInt.tdiv y.toInt) := by rw [← Int32.toInt_div_of_ne_right x y hy, Int32.ofInt_toInt]
  have h2 : x - x / y * y = Int32.ofInt x.toInt - Int32.ofInt (x.toInt.tdiv y.toInt) * Int32.ofInt y.toInt := by rw [Int32.ofInt_toInt, Int32.ofInt_toInt, ← h1]
  show x - x / y * y = _
  rw [h2, ← Int32.ofInt_mul, ← Int32.ofInt_sub, Int.tmod_def, Int.mul_comm y.toInt]
theorem toInt_I (n : Int) (h1 : -2 ^ 31 ≤ n) (h2 : n < 2 ^ 31) : (Int32.ofInt n).toInt = n := by
  rw [Int32.toInt_ofInt, Int.bmod_eq_of_le_mul_two] <;> (unfold Int32.size; omega)
/-- an index is in range or not -/
theorem ix_cases (x : Int32) (n : Nat) (hn : n < 2 ^ 31) : (x < 0 ∨ (¬ x < 0 ∧ ¬ x < Int32.ofNat n)) ∨ ∃ i, i < n ∧ x = Int32.ofNat i := by
  by_cases h0 : x < 0
  · exact Or.inl (Or.inl h0)
  · by_cases h1 : x < Int32.ofNat n
    · refine Or.inr ⟨x.toNatClampNeg, ?_, (Int32.ofNat_toNatClampNeg x (Int32.not_lt.mp h0)).symm⟩
      have := zi_clt h0 h1
      rwa [on_n n hn] at this
    · exact Or.inl (Or.inr ⟨h0, h1⟩)
def zfd {β : Type} (f : Nat → β → β) (a : β) : Nat → β
  | 0 => a
  | n + 1 => f n (zfd f a n)
theorem zfd_ext {β : Type} {f g : Nat → β → β} {a : β} : ∀ {n : Nat}, (∀ i, i < n → ∀ x, f i x = g i x) → zfd f a n = zfd g a n
  | 0, _ => rfl
  | n + 1, h => by
    show f n (zfd f a n) = g n (zfd g a n)
    rw [zfd_ext (n := n) (fun i hi => h i (by omega)), h n (by omega)]
theorem zfd_add {β : Type} {f : Nat → β → β} {a : β} (m : Nat) : ∀ n : Nat, zfd f a (m + n) = zfd (fun i => f (m + i)) (zfd f a m) n
  | 0 => rfl
  | n + 1 => by
    show f (m + n) (zfd f a (m + n)) = f (m + n) (zfd (fun i => f (m + i)) (zfd f a m) n)
    rw [zfd_add m n]
/-- place by place: column by column, row by row -/
theorem zfd_nest {β : Type} {g : Nat → Nat → β → β} {a : β} {r : Nat} (hr : 0 < r) : ∀ c : Nat, zfd (fun p => g (p / r) (p % r)) a (c * r) = zfd (fun x b => zfd (fun y => g x y) b r) a c
  | 0 => by rw [Nat.zero_mul]; rfl
  | c + 1 => by
    rw [Nat.succ_mul, zfd_add, zfd_nest hr c]
    show _ = zfd (fun y => g c y) (zfd (fun x b => zfd (fun y => g x y) b r) a c) r
    refine zfd_ext (fun i hi x => ?_)
    rw [Nat.mul_comm c r, Nat.mul_add_div hr, Nat.mul_add_mod, Nat.div_eq_of_lt hi, Nat.mod_eq_of_lt hi, Nat.add_zero]
theorem zfor {σ γ : Type} {b : σ → Option (σ ⊕ γ)} {r : γ} (N : Nat) (st : Nat → σ) (h1 : ∀ i, i < N → b (st i) = some (.inl (st (i + 1)))) (h2 : b (st N) = some (.inr r)) (hN : N < 100000) : zz_it b zz_F (st 0) = some r := zz_it_run N zz_F st h1 h2 (by unfold zz_F; omega)
/-- a loop that adds up -/
theorem zfor2 {γ : Type} {b : Int32 × Int32 → Option ((Int32 × Int32) ⊕ γ)} {r : γ} (N : Nat) (f : Nat → Int32 → Int32) (a : Int32) (h1 : ∀ i, i < N → ∀ v, b (v, Int32.ofNat i) = some (.inl (f i v, Int32.ofNat i + 1))) (h2 : b (zfd f a N, Int32.ofNat N) = some (.inr r)) (hN : N < 100000 := by omega) : zz_it b zz_F (a, (0 : Int32)) = some r :=
  zfor N (fun i => (zfd f a i, Int32.ofNat i)) (fun i hi => by
    show b (zfd f a i, Int32.ofNat i) = _
    rw [h1 i hi, on_s]
    rfl) h2 hN
theorem zb_s {α β : Type} {v : α} {K : α → Option β} : zz_b (some v) K = K v := rfl
theorem zg1_s {α β : Type} {v : α} {μ : zzM} {ν : zzN} {K : α → zzM → zzN → Option β} : zz_g1 (some (v, μ, ν)) K = K v μ ν := rfl
theorem zth_l {α β : Type} {v : α} {K : α → Option β} {X : Nat → Option β} : zz_th (some (.inl v)) K X = K v := rfl
theorem zth_r {α β : Type} {e : Nat} {K : α → Option β} {X : Nat → Option β} : zz_th (some (.inr e)) K X = X e := rfl
theorem zgz0 {α : Type} {K : Option α} : zz_gz 0 K = K := if_pos (Or.inl rfl)
theorem zgz1 {α : Type} {K : Option α} : zz_gz 1 K = K := if_pos (Or.inr rfl)
theorem zom {α β : Type} {v : β} : Option.map (fun z : β => (Sum.inr z : α ⊕ β)) (some v) = some (.inr v) := rfl
theorem zset_e {μ : zzM} {o i : Nat} {x : Int32} {o' i' : Nat} (h : ¬ (o' = o ∧ i' = i)) : zset μ o i x o' i' = μ o' i' := if_neg h
theorem zset_h {μ : zzM} {o i : Nat} {x : Int32} : zset μ o i x o i = x := if_pos ⟨rfl, rfl⟩
theorem zsetN_e {ν : zzN} {o i : Nat} {x : Int64} {o' i' : Nat} (h : ¬ (o' = o ∧ i' = i)) : zsetN ν o i x o' i' = ν o' i' := if_neg h
theorem zsetN_h {ν : zzN} {o i : Nat} {x : Int64} : zsetN ν o i x o i = x := if_pos ⟨rfl, rfl⟩
theorem zdv_p {y : Int32} (h : y ≠ 0) {α : Type} {K : Option α} : zz_dv y K = K := if_neg h
theorem zdl_p {y : Int64} (h : y ≠ 0) {α : Type} {K : Option α} : zz_dl y K = K := if_neg h
theorem zdv10 {α : Type} {K : Option α} : zz_dv 10 K = K := if_neg (by decide)
theorem zdv100 {α : Type} {K : Option α} : zz_dv 100 K = K := if_neg (by decide)
end ZNA
section ZNB
/-! the reference's reads and writes at indices that are in range -/
variable {α : Type} {μ : zzM} {ν : zzN}
theorem gai_p {t o n i : Nat} {K : Int32 → Option α} (h : mIs o = some (t, n)) (hi : i < n) (hn : n < 100 := by decide) : gai t μ o (Int32.ofNat i) K = K (μ o i) := by
  unfold gai
  rw [h]
  simp only [on_n i (by omega)]
  rw [if_pos ⟨trivial, by
    rintro (q | q)
    · exact on_nn i (by omega) q
    · omega⟩]
theorem gal_p {o n i : Nat} {K : Int64 → Option α} (h : mJs o = some n) (hi : i < n) (hn : n < 100 := by decide) : gal ν o (Int32.ofNat i) K = K (ν o i) := by
  unfold gal
  rw [h]
  simp only [on_n i (by omega)]
  rw [if_pos (by
    rintro (q | q)
    · exact on_nn i (by omega) q
    · omega)]
theorem gaq_p {t o n s i : Nat} {K : Nat → Option α} (h : mRs o = some (t, n, s)) (hi : i < n) (hn : n < 100 := by decide) : gaq t o (Int32.ofNat i) K = K (o + 1 + i * s) := by
  unfold gaq
  rw [h]
  simp only [on_n i (by omega)]
  rw [if_pos ⟨trivial, by
    rintro (q | q)
    · exact on_nn i (by omega) q
    · omega⟩]
theorem gsi_p {t o n i : Nat} {x : Int32} {K : zzM → Option α} (h : mIs o = some (t, n)) (hi : i < n) (hn : n < 100 := by decide) : gsi t μ o (Int32.ofNat i) x K = K (zset μ o i x) := by
  unfold gsi
  rw [h]
  simp only [on_n i (by omega)]
  rw [if_pos ⟨trivial, by
    rintro (q | q)
    · exact on_nn i (by omega) q
    · omega⟩]
theorem gsl_p {o n i : Nat} {x : Int64} {K : zzN → Option α} (h : mJs o = some n) (hi : i < n) (hn : n < 100 := by decide) : gsl ν o (Int32.ofNat i) x K = K (zsetN ν o i x) := by
  unfold gsl
  rw [h]
  simp only [on_n i (by omega)]
  rw [if_pos (by
    rintro (q | q)
    · exact on_nn i (by omega) q
    · omega)]
end ZNB
