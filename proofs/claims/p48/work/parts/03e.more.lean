section ZZG
/-! binds, guards, small arithmetic -/
def zz_b {α β : Type} (x : Option α) (K : α → Option β) : Option β := match x with
  | some v => K v
  | none => none
def zz_b1 {α β : Type} (x : Option (α × zz_H)) (K : α → zz_H → Option β) : Option β := match x with
  | some (v, h) => K v h
  | none => none
def zz_b2 {α β : Type} (x : Option (α × zz_H × Nat)) (K : α → zz_H → Nat → Option β) : Option β := match x with
  | some (v, h, n) => K v h n
  | none => none
theorem zz_b_i {α β : Type} {x : Option α} {K : α → Option β} {o : β} (e : zz_b x K = some o) : ∃ v, x = some v ∧ K v = some o := by
  unfold zz_b at e
  split at e
  · exact ⟨_, rfl, e⟩
  · cases e
theorem zz_b1_i {α β : Type} {x : Option (α × zz_H)} {K : α → zz_H → Option β} {o : β} (e : zz_b1 x K = some o) : ∃ v h, x = some (v, h) ∧ K v h = some o := by
  unfold zz_b1 at e
  split at e
  · exact ⟨_, _, rfl, e⟩
  · cases e
theorem zz_b2_i {α β : Type} {x : Option (α × zz_H × Nat)} {K : α → zz_H → Nat → Option β} {o : β} (e : zz_b2 x K = some o) : ∃ v h n, x = some (v, h, n) ∧ K v h n = some o := by
  unfold zz_b2 at e
  split at e
  · exact ⟨_, _, _, rfl, e⟩
  · cases e
abbrev zz_rem (x y : Int32) : Int32 := x - x / y * y
abbrev zz_max (x y : Int32) : Int32 := if x < y then y else x
abbrev zz_min (x y : Int32) : Int32 := if y < x then y else x
abbrev zz_abs (x : Int32) : Int32 := if 0 ≤ x then x else 0 - x
def zz_nf (r : UInt32) {α : Type} (K : Option α) : Option α := if r &&& 0x7fffffff ≤ 0x7f800000 then K else none
def zz_nd (r : UInt64) {α : Type} (K : Option α) : Option α := if r &&& 0x7fffffffffffffff ≤ 0x7ff0000000000000 then K else none
theorem zz_nf_i {r : UInt32} {α : Type} {K : Option α} {o : α} (e : zz_nf r K = some o) : vf_n32 r ∧ K = some o := by
  unfold zz_nf at e
  split at e
  · next h => exact ⟨h, e⟩
  · cases e
theorem zz_nd_i {r : UInt64} {α : Type} {K : Option α} {o : α} (e : zz_nd r K = some o) : vf_n64 r ∧ K = some o := by
  unfold zz_nd at e
  split at e
  · next h => exact ⟨h, e⟩
  · cases e
theorem zz_nr {t : FieldType} (ht : t.isReference = true) (r : Option Nat) : narrow t (va_rf r) = va_rf r ∧ fits t (va_rf r) = true := by
  cases r <;> cases t <;> first | exact ⟨rfl, rfl⟩ | cases ht
theorem zz_inws {ws : List Cond} (ix : List Nat) (h : ix.map (fun i => tables_1[i]?) = ws.map some ∧ ws.all zz_ok = true) : ∀ w ∈ ws, w ∈ zz_G := by
  intro w hw
  have h1 : some w ∈ ix.map (fun i => tables_1[i]?) := by rw [h.1]; exact List.mem_map.mpr ⟨w, hw, rfl⟩
  obtain ⟨i, -, hi⟩ := List.mem_map.mp h1
  exact zz_mem i hi (List.all_eq_true.mp h.2 w hw)
theorem zz_pos {c : Prop} [Decidable c] {α : Type} {x y : Option α} {o : α} (h : c) (e : (if c then x else y) = some o) : x = some o := by rwa [if_pos h] at e
theorem zz_neg {c : Prop} [Decidable c] {α : Type} {x y : Option α} {o : α} (h : ¬ c) (e : (if c then x else y) = some o) : y = some o := by rwa [if_neg h] at e
theorem zz_catI (x : Int32) : (Value.int x).category = 1 := rfl
theorem zz_catR (x : Nat) : (Value.ref x).category = 1 := rfl
theorem zz_catF (x : UInt32) : (Value.float x).category = 1 := rfl
theorem zz_catJ (x : Int64) : (Value.long x).category = 2 := rfl
theorem zz_catD (x : UInt64) : (Value.double x).category = 2 := rfl
theorem zz_obS_i {h : zz_H} {a ci : Nat} {α : Type} {K : Nat → Option α} {o : α} (e : zz_ob h (some a) ci K = some o) : ∃ fs, h a = some (.inr (ci, fs)) ∧ K a = some o := by
  obtain ⟨b, fs, h1, h2, h3⟩ := zz_ob_i e
  cases h1
  exact ⟨fs, h2, h3⟩
/-- a method of a class with overridden ones among the others -/
theorem zz_ofF {l : Launch} {y : MethodName} {ws ws' : List Cond} {rm : Room} {Pc : Array Value → State → Prop} {Qc : Array Value → State → Outcome → State → Prop} {mc ms : Nat} {free : Addr → Prop} {cc : ByteArray} {maxL : Nat} {ret : Option FieldType}
    (hy : plainFor y = true) (hw : ws = Cond.code y cc maxL ret :: ws')
    (body : ∀ p e s m args below meth c s₁, BodyLoose p l y (headSpec ws rm) cc maxL ret e s m args below meth c s₁ → c.maxLocals = maxL → Pc args s →
      W p l e (headSpec ws rm).room s m args below meth c s.heap [] 0 0 (MQ below Qc args s mc ms free) (entryFrame m args maxL)) : Met l y ws rm Pc Qc mc ms free := by
  refine MetFree.of_bodySF (code := cc) (maxLocals := maxL) (ret := ret) hy (fun args s m h hn => ?_) (fun p e s m args below meth c s₁ B hml hP _ => ?_)
  · obtain ⟨meth, c, h1, h2, h3, h4, h5, h6, -, -⟩ := Cond.code_spec hn (atoms_spec (ws := ws) h _ (by rw [hw]; exact List.mem_cons_self))
    exact ⟨meth, c, h1, h2, h3, h4, h5, h6⟩
  · have hh0 : s₁.heap = s.heap := by rw [B.state]; rfl
    obtain ⟨t, a1, o, b1, b2, b3⟩ := body p e s m args below meth c s₁ B hml hP s₁ hh0 (Stand.of_body B)
    exact ⟨t, o, a1, b1, b2, ⟨b3.1, b3.2⟩⟩
end ZZG
