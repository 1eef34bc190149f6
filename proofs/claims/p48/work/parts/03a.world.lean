section ZZA
/-! the abstract heap: an address holds an array (type number, length, contents), or an object (class number, fields) -/
abbrev zz_C : Type := (Nat × vp_A) ⊕ (Nat × List Value)
abbrev zz_H : Type := Nat → Option zz_C
def zz_u (h : zz_H) (a : Nat) (x : zz_C) : zz_H := fun q => if q = a then some x else h q
theorem zz_us {h : zz_H} {a : Nat} {x : zz_C} : zz_u h a x a = some x := if_pos rfl
theorem zz_un {h : zz_H} {a b : Nat} {x : zz_C} (e : b ≠ a) : zz_u h a x b = h b := if_neg e
abbrev zz_I (t n : Nat) (f : Nat → Int32) : zz_C := .inl (t, (n, .inl f))
abbrev zz_L (t n : Nat) (f : Nat → Int64) : zz_C := .inl (t, (n, .inr (.inl f)))
abbrev zz_D (t n : Nat) (f : Nat → UInt64) : zz_C := .inl (t, (n, .inr (.inr (.inr (.inl f)))))
abbrev zz_Q (t n : Nat) (f : Nat → Option Nat) : zz_C := .inl (t, (n, .inr (.inr (.inr (.inr f)))))
abbrev zz_O (c : Nat) (fs : List Value) : zz_C := .inr (c, fs)
/-- the types of the array numbers; 11: what is there ahead of the run, and only read -/
def zz_T : Nat → FieldType := fun k => match k with
  | 0 => .int
  | 1 => .char
  | 2 => .int
  | 3 => .int
  | 4 => .int
  | 5 => .object "java/lang/Object"
  | 6 => .array .int
  | 7 => .int
  | 8 => .int
  | 9 => .int
  | 10 => .int
  | 12 => .int
  | _ => .object "java/lang/Object"
/-- the operations: an answer of none is a way that isn't followed -/
def zz_gi (h : zz_H) (r : Option Nat) (ci k : Nat) {α : Type} (K : Int32 → Option α) : Option α := match r with
  | some a => (match h a with
    | some (.inr (c, fs)) => if c = ci then (match fs[k]? with | some (.int x) => K x | _ => none) else none
    | _ => none)
  | none => none
def zz_gl (h : zz_H) (r : Option Nat) (ci k : Nat) {α : Type} (K : Int64 → Option α) : Option α := match r with
  | some a => (match h a with
    | some (.inr (c, fs)) => if c = ci then (match fs[k]? with | some (.long x) => K x | _ => none) else none
    | _ => none)
  | none => none
def zz_gq (h : zz_H) (r : Option Nat) (ci k : Nat) {α : Type} (K : Option Nat → Option α) : Option α := match r with
  | some a => (match h a with
    | some (.inr (c, fs)) => if c = ci then (match fs[k]? with | some (.ref x) => K (some x) | some .null => K none | _ => none) else none
    | _ => none)
  | none => none
def zz_p (h : zz_H) (r : Option Nat) (ci k : Nat) (v : Value) {α : Type} (K : zz_H → Option α) : Option α := match r with
  | some a => (match h a with
    | some (.inr (c, fs)) => if c = ci ∧ k < fs.length then K (zz_u h a (.inr (ci, fs.set k v))) else none
    | _ => none)
  | none => none
def zz_ob (h : zz_H) (r : Option Nat) (ci : Nat) {α : Type} (K : Nat → Option α) : Option α := match r with
  | some a => (match h a with
    | some (.inr (c, _)) => if c = ci then K a else none
    | _ => none)
  | none => none
def zz_cc (h : zz_H) (r : Option Nat) (ci : Nat) {α : Type} (K : Option α) : Option α := match r with
  | some a => (match h a with
    | some (.inr (c, _)) => if c = ci then K else none
    | _ => none)
  | none => K
def zz_ai (t : Nat) (h : zz_H) (r : Option Nat) (i : Int32) {α : Type} (K : Int32 → Option α) : Option α := match r with
  | some a => (match h a with
    | some (.inl (t', (n, .inl f))) => if t' = t ∧ ¬ (i < 0 ∨ n ≤ i.toNatClampNeg) then K (f i.toNatClampNeg) else none
    | _ => none)
  | none => none
def zz_al (t : Nat) (h : zz_H) (r : Option Nat) (i : Int32) {α : Type} (K : Int64 → Option α) : Option α := match r with
  | some a => (match h a with
    | some (.inl (t', (n, .inr (.inl f)))) => if t' = t ∧ ¬ (i < 0 ∨ n ≤ i.toNatClampNeg) then K (f i.toNatClampNeg) else none
    | _ => none)
  | none => none
def zz_ad (t : Nat) (h : zz_H) (r : Option Nat) (i : Int32) {α : Type} (K : UInt64 → Option α) : Option α := match r with
  | some a => (match h a with
    | some (.inl (t', (n, .inr (.inr (.inr (.inl f)))))) => if t' = t ∧ ¬ (i < 0 ∨ n ≤ i.toNatClampNeg) then K (f i.toNatClampNeg) else none
    | _ => none)
  | none => none
def zz_aq (t : Nat) (h : zz_H) (r : Option Nat) (i : Int32) {α : Type} (K : Option Nat → Option α) : Option α := match r with
  | some a => (match h a with
    | some (.inl (t', (n, .inr (.inr (.inr (.inr f)))))) => if t' = t ∧ ¬ (i < 0 ∨ n ≤ i.toNatClampNeg) then K (f i.toNatClampNeg) else none
    | _ => none)
  | none => none
def zz_si (t : Nat) (h : zz_H) (r : Option Nat) (i x : Int32) {α : Type} (K : zz_H → Option α) : Option α := match r with
  | some a => (match h a with
    | some (.inl (t', (n, .inl f))) => if t' = t ∧ ¬ (i < 0 ∨ n ≤ i.toNatClampNeg) then K (zz_u h a (zz_I t n (upd f i.toNatClampNeg x))) else none
    | _ => none)
  | none => none
def zz_sl (t : Nat) (h : zz_H) (r : Option Nat) (i : Int32) (x : Int64) {α : Type} (K : zz_H → Option α) : Option α := match r with
  | some a => (match h a with
    | some (.inl (t', (n, .inr (.inl f)))) => if t' = t ∧ ¬ (i < 0 ∨ n ≤ i.toNatClampNeg) then K (zz_u h a (zz_L t n (vp_updL f i.toNatClampNeg x))) else none
    | _ => none)
  | none => none
def zz_sd (t : Nat) (h : zz_H) (r : Option Nat) (i : Int32) (x : UInt64) {α : Type} (K : zz_H → Option α) : Option α := match r with
  | some a => (match h a with
    | some (.inl (t', (n, .inr (.inr (.inr (.inl f)))))) => if t' = t ∧ ¬ (i < 0 ∨ n ≤ i.toNatClampNeg) then K (zz_u h a (zz_D t n (va_up f i.toNatClampNeg x))) else none
    | _ => none)
  | none => none
/-- a store into an array of references: of null, or of an object of one of the claim's own classes -/
def zz_sq (t : Nat) (h : zz_H) (r : Option Nat) (i : Int32) (x : Option Nat) {α : Type} (K : zz_H → Option α) : Option α := match r with
  | some a => (match h a with
    | some (.inl (t', (n, .inr (.inr (.inr (.inr f)))))) => if t' = t ∧ ¬ (i < 0 ∨ n ≤ i.toNatClampNeg) then
        (match x with
        | none => K (zz_u h a (zz_Q t n (va_up f i.toNatClampNeg none)))
        | some v => (match h v with
          | some (.inr (c, _)) => if 0 < c ∧ c < 9 then K (zz_u h a (zz_Q t n (va_up f i.toNatClampNeg (some v)))) else none
          | _ => none)) else none
    | _ => none)
  | none => none
def zz_len (h : zz_H) (r : Option Nat) {α : Type} (K : Int32 → Option α) : Option α := match r with
  | some a => (match h a with
    | some (.inl (t, (n, _))) => if t < 13 then K (Int32.ofNat n) else none
    | _ => none)
  | none => none
def zz_dv (y : Int32) {α : Type} (K : Option α) : Option α := if y = 0 then none else K
def zz_dl (y : Int64) {α : Type} (K : Option α) : Option α := if y = 0 then none else K
/-- a boolean, a char -/
def zz_gz (x : Int32) {α : Type} (K : Option α) : Option α := if x = 0 ∨ x = 1 then K else none
def zz_gc (x : Int32) {α : Type} (K : Option α) : Option α := if (x.toUInt32 % 65536).toInt32 = x then K else none
/-- a call of what may throw -/
def zz_th {α β : Type} (x : Option (α ⊕ Nat)) (K : α → Option β) (X : Nat → Option β) : Option β := match x with
  | some (.inl v) => K v
  | some (.inr e) => X e
  | none => none
def zz_th1 {α β : Type} (x : Option ((α ⊕ Nat) × zz_H)) (K : α → zz_H → Option β) (X : Nat → zz_H → Option β) : Option β := match x with
  | some (.inl v, h) => K v h
  | some (.inr e, h) => X e h
  | none => none
def zz_th2 {α β : Type} (x : Option ((α ⊕ Nat) × zz_H × Nat)) (K : α → zz_H → Nat → Option β) (X : Nat → zz_H → Nat → Option β) : Option β := match x with
  | some (.inl v, h, n) => K v h n
  | some (.inr e, h, n) => X e h n
  | none => none
/-- a loop -/
def zz_it {σ α : Type} (b : σ → Option (σ ⊕ α)) : Nat → σ → Option α
  | 0, _ => none
  | k + 1, s => match b s with
    | none => none
    | some (.inl s') => zz_it b k s'
    | some (.inr r) => some r
def zz_F : Nat := 1000000
theorem zz_it_s {σ α : Type} {b : σ → Option (σ ⊕ α)} {k : Nat} {s : σ} {o : α} (h : zz_it b (k + 1) s = some o) : (∃ s', b s = some (.inl s') ∧ zz_it b k s' = some o) ∨ b s = some (.inr o) := by
  unfold zz_it at h
  split at h
  · cases h
  · next s' e => exact Or.inl ⟨s', e, h⟩
  · next r e => cases h; exact Or.inr e
theorem zz_gi_i {h : zz_H} {r : Option Nat} {ci k : Nat} {α : Type} {K : Int32 → Option α} {o : α} (e : zz_gi h r ci k K = some o) : ∃ a fs x, r = some a ∧ h a = some (.inr (ci, fs)) ∧ fs[k]? = some (.int x) ∧ K x = some o := by
  unfold zz_gi at e
  split at e
  · split at e
    · split at e
      · split at e
        · next h1 h2 _ _ h3 => subst h2; exact ⟨_, _, _, rfl, h1, h3, e⟩
        · cases e
      · cases e
    · cases e
  · cases e
theorem zz_gl_i {h : zz_H} {r : Option Nat} {ci k : Nat} {α : Type} {K : Int64 → Option α} {o : α} (e : zz_gl h r ci k K = some o) : ∃ a fs x, r = some a ∧ h a = some (.inr (ci, fs)) ∧ fs[k]? = some (.long x) ∧ K x = some o := by
  unfold zz_gl at e
  split at e
  · split at e
    · split at e
      · split at e
        · next h1 h2 _ _ h3 => subst h2; exact ⟨_, _, _, rfl, h1, h3, e⟩
        · cases e
      · cases e
    · cases e
  · cases e
theorem zz_gq_i {h : zz_H} {r : Option Nat} {ci k : Nat} {α : Type} {K : Option Nat → Option α} {o : α} (e : zz_gq h r ci k K = some o) : ∃ a fs x, r = some a ∧ h a = some (.inr (ci, fs)) ∧ fs[k]? = some (va_rf x) ∧ K x = some o := by
  unfold zz_gq at e
  split at e
  · split at e
    · split at e
      · split at e
        · next h1 h2 _ _ h3 => subst h2; exact ⟨_, _, some _, rfl, h1, h3, e⟩
        · next h1 h2 _ h3 => subst h2; exact ⟨_, _, none, rfl, h1, h3, e⟩
        · cases e
      · cases e
    · cases e
  · cases e
theorem zz_p_i {h : zz_H} {r : Option Nat} {ci k : Nat} {v : Value} {α : Type} {K : zz_H → Option α} {o : α} (e : zz_p h r ci k v K = some o) : ∃ a fs, r = some a ∧ h a = some (.inr (ci, fs)) ∧ k < fs.length ∧ K (zz_u h a (.inr (ci, fs.set k v))) = some o := by
  unfold zz_p at e
  split at e
  · split at e
    · split at e
      · next h1 h2 => obtain ⟨rfl, h3⟩ := h2; exact ⟨_, _, rfl, h1, h3, e⟩
      · cases e
    · cases e
  · cases e
theorem zz_ob_i {h : zz_H} {r : Option Nat} {ci : Nat} {α : Type} {K : Nat → Option α} {o : α} (e : zz_ob h r ci K = some o) : ∃ a fs, r = some a ∧ h a = some (.inr (ci, fs)) ∧ K a = some o := by
  unfold zz_ob at e
  split at e
  · split at e
    · split at e
      · next h1 h2 => subst h2; exact ⟨_, _, rfl, h1, e⟩
      · cases e
    · cases e
  · cases e
theorem zz_cc_i {h : zz_H} {r : Option Nat} {ci : Nat} {α : Type} {K : Option α} {o : α} (e : zz_cc h r ci K = some o) : K = some o ∧ (r = none ∨ ∃ a fs, r = some a ∧ h a = some (.inr (ci, fs))) := by
  unfold zz_cc at e
  split at e
  · split at e
    · split at e
      · next h1 h2 => subst h2; exact ⟨e, Or.inr ⟨_, _, rfl, h1⟩⟩
      · cases e
    · cases e
  · exact ⟨e, Or.inl rfl⟩
theorem zz_ai_i {t : Nat} {h : zz_H} {r : Option Nat} {i : Int32} {α : Type} {K : Int32 → Option α} {o : α} (e : zz_ai t h r i K = some o) : ∃ a n f, r = some a ∧ h a = some (zz_I t n f) ∧ vp_in i n ∧ K (f i.toNatClampNeg) = some o := by
  unfold zz_ai at e
  split at e
  · split at e
    · split at e
      · next h1 h2 => obtain ⟨rfl, h3⟩ := h2; exact ⟨_, _, _, rfl, h1, h3, e⟩
      · cases e
    · cases e
  · cases e
theorem zz_al_i {t : Nat} {h : zz_H} {r : Option Nat} {i : Int32} {α : Type} {K : Int64 → Option α} {o : α} (e : zz_al t h r i K = some o) : ∃ a n f, r = some a ∧ h a = some (zz_L t n f) ∧ vp_in i n ∧ K (f i.toNatClampNeg) = some o := by
  unfold zz_al at e
  split at e
  · split at e
    · split at e
      · next h1 h2 => obtain ⟨rfl, h3⟩ := h2; exact ⟨_, _, _, rfl, h1, h3, e⟩
      · cases e
    · cases e
  · cases e
theorem zz_ad_i {t : Nat} {h : zz_H} {r : Option Nat} {i : Int32} {α : Type} {K : UInt64 → Option α} {o : α} (e : zz_ad t h r i K = some o) : ∃ a n f, r = some a ∧ h a = some (zz_D t n f) ∧ vp_in i n ∧ K (f i.toNatClampNeg) = some o := by
  unfold zz_ad at e
  split at e
  · split at e
    · split at e
      · next h1 h2 => obtain ⟨rfl, h3⟩ := h2; exact ⟨_, _, _, rfl, h1, h3, e⟩
      · cases e
    · cases e
  · cases e
theorem zz_aq_i {t : Nat} {h : zz_H} {r : Option Nat} {i : Int32} {α : Type} {K : Option Nat → Option α} {o : α} (e : zz_aq t h r i K = some o) : ∃ a n f, r = some a ∧ h a = some (zz_Q t n f) ∧ vp_in i n ∧ K (f i.toNatClampNeg) = some o := by
  unfold zz_aq at e
  split at e
  · split at e
    · split at e
      · next h1 h2 => obtain ⟨rfl, h3⟩ := h2; exact ⟨_, _, _, rfl, h1, h3, e⟩
      · cases e
    · cases e
  · cases e
theorem zz_si_i {t : Nat} {h : zz_H} {r : Option Nat} {i x : Int32} {α : Type} {K : zz_H → Option α} {o : α} (e : zz_si t h r i x K = some o) : ∃ a n f, r = some a ∧ h a = some (zz_I t n f) ∧ vp_in i n ∧ K (zz_u h a (zz_I t n (upd f i.toNatClampNeg x))) = some o := by
  unfold zz_si at e
  split at e
  · split at e
    · split at e
      · next h1 h2 => obtain ⟨rfl, h3⟩ := h2; exact ⟨_, _, _, rfl, h1, h3, e⟩
      · cases e
    · cases e
  · cases e
theorem zz_sl_i {t : Nat} {h : zz_H} {r : Option Nat} {i : Int32} {x : Int64} {α : Type} {K : zz_H → Option α} {o : α} (e : zz_sl t h r i x K = some o) : ∃ a n f, r = some a ∧ h a = some (zz_L t n f) ∧ vp_in i n ∧ K (zz_u h a (zz_L t n (vp_updL f i.toNatClampNeg x))) = some o := by
  unfold zz_sl at e
  split at e
  · split at e
    · split at e
      · next h1 h2 => obtain ⟨rfl, h3⟩ := h2; exact ⟨_, _, _, rfl, h1, h3, e⟩
      · cases e
    · cases e
  · cases e
theorem zz_sd_i {t : Nat} {h : zz_H} {r : Option Nat} {i : Int32} {x : UInt64} {α : Type} {K : zz_H → Option α} {o : α} (e : zz_sd t h r i x K = some o) : ∃ a n f, r = some a ∧ h a = some (zz_D t n f) ∧ vp_in i n ∧ K (zz_u h a (zz_D t n (va_up f i.toNatClampNeg x))) = some o := by
  unfold zz_sd at e
  split at e
  · split at e
    · split at e
      · next h1 h2 => obtain ⟨rfl, h3⟩ := h2; exact ⟨_, _, _, rfl, h1, h3, e⟩
      · cases e
    · cases e
  · cases e
theorem zz_sq_i {t : Nat} {h : zz_H} {r : Option Nat} {i : Int32} {x : Option Nat} {α : Type} {K : zz_H → Option α} {o : α} (e : zz_sq t h r i x K = some o) : ∃ a n f, r = some a ∧ h a = some (zz_Q t n f) ∧ vp_in i n ∧ (x = none ∨ ∃ v c fs, x = some v ∧ h v = some (.inr (c, fs)) ∧ 0 < c ∧ c < 9) ∧ K (zz_u h a (zz_Q t n (va_up f i.toNatClampNeg x))) = some o := by
  unfold zz_sq at e
  split at e
  · split at e
    · split at e
      · next h1 h2 =>
        obtain ⟨rfl, h3⟩ := h2
        split at e
        · exact ⟨_, _, _, rfl, h1, h3, Or.inl rfl, e⟩
        · split at e
          · split at e
            · next h4 h5 => exact ⟨_, _, _, rfl, h1, h3, Or.inr ⟨_, _, _, rfl, h4, h5.1, h5.2⟩, e⟩
            · cases e
          · cases e
      · cases e
    · cases e
  · cases e
theorem zz_len_i {h : zz_H} {r : Option Nat} {α : Type} {K : Int32 → Option α} {o : α} (e : zz_len h r K = some o) : ∃ a t n y, r = some a ∧ h a = some (.inl (t, (n, y))) ∧ t < 13 ∧ K (Int32.ofNat n) = some o := by
  unfold zz_len at e
  split at e
  · split at e
    · split at e
      · next h1 h2 => exact ⟨_, _, _, _, rfl, h1, h2, e⟩
      · cases e
    · cases e
  · cases e
theorem zz_dv_i {y : Int32} {α : Type} {K : Option α} {o : α} (e : zz_dv y K = some o) : ¬ y = 0 ∧ K = some o := by
  unfold zz_dv at e
  split at e
  · cases e
  · next h => exact ⟨h, e⟩
theorem zz_dl_i {y : Int64} {α : Type} {K : Option α} {o : α} (e : zz_dl y K = some o) : ¬ y = 0 ∧ K = some o := by
  unfold zz_dl at e
  split at e
  · cases e
  · next h => exact ⟨h, e⟩
theorem zz_gz_i {x : Int32} {α : Type} {K : Option α} {o : α} (e : zz_gz x K = some o) : (x = 0 ∨ x = 1) ∧ K = some o := by
  unfold zz_gz at e
  split at e
  · next h => exact ⟨h, e⟩
  · cases e
theorem zz_gc_i {x : Int32} {α : Type} {K : Option α} {o : α} (e : zz_gc x K = some o) : (x.toUInt32 % 65536).toInt32 = x ∧ K = some o := by
  unfold zz_gc at e
  split at e
  · next h => exact ⟨h, e⟩
  · cases e
theorem zz_nz {x : Int32} (h : x = 0 ∨ x = 1) : narrow .boolean (.int x) = .int x := by
  rcases h with rfl | rfl <;> rfl
theorem zz_nc {x : Int32} (h : (x.toUInt32 % 65536).toInt32 = x) : narrow .char (.int x) = .int x := by
  rw [← h]; exact pk_nc x
theorem zz_th_i {α β : Type} {x : Option (α ⊕ Nat)} {K : α → Option β} {X : Nat → Option β} {o : β} (e : zz_th x K X = some o) : (∃ v, x = some (.inl v) ∧ K v = some o) ∨ ∃ y, x = some (.inr y) ∧ X y = some o := by
  unfold zz_th at e
  split at e
  · exact Or.inl ⟨_, rfl, e⟩
  · exact Or.inr ⟨_, rfl, e⟩
  · cases e
theorem zz_th1_i {α β : Type} {x : Option ((α ⊕ Nat) × zz_H)} {K : α → zz_H → Option β} {X : Nat → zz_H → Option β} {o : β} (e : zz_th1 x K X = some o) : (∃ v h, x = some (.inl v, h) ∧ K v h = some o) ∨ ∃ y h, x = some (.inr y, h) ∧ X y h = some o := by
  unfold zz_th1 at e
  split at e
  · exact Or.inl ⟨_, _, rfl, e⟩
  · exact Or.inr ⟨_, _, rfl, e⟩
  · cases e
theorem zz_th2_i {α β : Type} {x : Option ((α ⊕ Nat) × zz_H × Nat)} {K : α → zz_H → Nat → Option β} {X : Nat → zz_H → Nat → Option β} {o : β} (e : zz_th2 x K X = some o) : (∃ v h n, x = some (.inl v, h, n) ∧ K v h n = some o) ∨ ∃ y h n, x = some (.inr y, h, n) ∧ X y h n = some o := by
  unfold zz_th2 at e
  split at e
  · exact Or.inl ⟨_, _, _, rfl, e⟩
  · exact Or.inr ⟨_, _, _, rfl, e⟩
  · cases e
theorem zz_cat (r : Option Nat) : (va_rf r).category = 1 := by cases r <;> rfl
theorem zz_room : ∀ {st : List Value}, st.length ≤ 4 → (st.map fun v => v.category).sum ≤ 8
  | [], _ => by decide
  | [a], _ => by rcases lv_cat a with h | h <;> simp [h]
  | [a, b], _ => by rcases lv_cat a with h | h <;> rcases lv_cat b with k | k <;> simp [h, k]
  | [a, b, c], _ => by rcases lv_cat a with h | h <;> rcases lv_cat b with k | k <;> rcases lv_cat c with j | j <;> simp [h, k, j]
  | [a, b, c, d], _ => by rcases lv_cat a with h | h <;> rcases lv_cat b with k | k <;> rcases lv_cat c with j | j <;> rcases lv_cat d with g | g <;> simp [h, k, j, g]
  | _ :: _ :: _ :: _ :: _ :: _, h => by simp at h
def zz_ush (x y : Int32) : Int32 := (x.toUInt32 >>> (y.toUInt32 &&& Int32.toUInt32 31)).toInt32
end ZZA
