section ZZG
/-! binds, guards, small arithmetic -/
def zz_b {α β : Type} (x : Option α) (K : α → Option β) : Option β := match x with
  | some v => K v
  | none => none
def zz_b1 {α β : Type} (x : Option (α × zz_H)) (K : α → zz_H → Option β) : Option β := match x with
  | some (v, h) => K v h
  | none => none
def zz_b2 {α β : Type} (x : Option (α × zz_H × Nat)) (K : α → zz_H → Nat → Option β) : Option β := match x with
  | some (v, h, n) => K v h n
  | none => none
theorem zz_b_i {α β : Type} {x : Option α} {K : α → Option β} {o : β} (e : zz_b x K = some o) : ∃ v, x = some v ∧ K v = some o := by
  unfold zz_b at e
  split at e
  · exact ⟨_, rfl, e⟩
  · cases e
theorem zz_b1_i {α β : Type} {x : Option (α × zz_H)} {K : α → zz_H → Option β} {o : β} (e : zz_b1 x K = some o) : ∃ v h, x = some (v, h) ∧ K v h = some o := by
  unfold zz_b1 at e
  split at e
  · exact ⟨_, _, rfl, e⟩
  · cases e
theorem zz_b2_i {α β : Type} {x : Option (α × zz_H × Nat)} {K : α → zz_H → Nat → Option β} {o : β} (e : zz_b2 x K = some o) : ∃ v h n, x = some (v, h, n) ∧ K v h n = some o := by
  unfold zz_b2 at e
  split at e
  · exact ⟨_, _, _, rfl, e⟩
  · cases e
abbrev zz_rem (x y : Int32) : Int32 := x - x / y * y
abbrev zz_max (x y : Int32) : Int32 := if x < y then y else x
abbrev zz_min (x y : Int32) : Int32 := if y < x then y else x
abbrev zz_abs (x : Int32) : Int32 := if 0 ≤ x then x else 0 - x
def zz_nf (r : UInt32) {α : Type} (K : Option α) : Option α := if r &&& 0x7fffffff ≤ 0x7f800000 then K else none
def zz_nd (r : UInt64) {α : Type} (K : Option α) : Option α := if r &&& 0x7fffffffffffffff ≤ 0x7ff0000000000000 then K else none
theorem zz_nf_i {r : UInt32} {α : Type} {K : Option α} {o : α} (e : zz_nf r K = some o) : vf_n32 r ∧ K = some o := by
  unfold zz_nf at e
  split at e
  · next h => exact ⟨h, e⟩
  · cases e
theorem zz_nd_i {r : UInt64} {α : Type} {K : Option α} {o : α} (e : zz_nd r K = some o) : vf_n64 r ∧ K = some o := by
  unfold zz_nd at e
  split at e
  · next h => exact ⟨h, e⟩
  · cases e
theorem zz_nr {t : FieldType} (ht : t.isReference = true) (r : Option Nat) : narrow t (va_rf r) = va_rf r ∧ fits t (va_rf r) = true := by
  cases r <;> cases t <;> first | exact ⟨rfl, rfl⟩ | cases ht
theorem zz_inws {ws : List Cond} (ix : List Nat) (h : ix.map (fun i => tables_1[i]?) = ws.map some ∧ ws.all zz_ok = true) : ∀ w ∈ ws, w ∈ zz_G := by
  intro w hw
  have h1 : some w ∈ ix.map (fun i => tables_1[i]?) := by rw [h.1]; exact List.mem_map.mpr ⟨w, hw, rfl⟩
  obtain ⟨i, -, hi⟩ := List.mem_map.mp h1
  exact zz_mem i hi (List.all_eq_true.mp h.2 w hw)
theorem zz_pos {c : Prop} [Decidable c] {α : Type} {x y : Option α} {o : α} (h : c) (e : (if c then x else y) = some o) : x = some o := by rwa [if_pos h] at e
theorem zz_neg {c : Prop} [Decidable c] {α : Type} {x y : Option α} {o : α} (h : ¬ c) (e : (if c then x else y) = some o) : y = some o := by rwa [if_neg h] at e
end ZZG
