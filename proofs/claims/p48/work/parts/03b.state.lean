section ZZB
/-! what the machine's heap holds of the abstract one; what a state knows -/
def zz_at (D : va_G) (dA : Nat → ClassId) (a : Nat) (x : zz_C) (H : Heap) : Prop := match x with
  | .inl y => (y.1 < 11 → H[a]? = some (vp_cell (dA y.1) y.2)) ∧ (¬ y.1 < 11 → ∃ cell : Cell, H[a]? = some cell ∧ cell.cls = dA y.1 ∧ (∀ k, cell.vm ≠ .statics k) ∧ Int32.ofNat cell.slots.size = Int32.ofNat y.2.1 ∧ (y.1 = 12 → cell.vm ≠ .unknown ∧ cell.slots.size = y.2.1 ∧ ∀ f, y.2.2 = .inl f → ∀ j, j < y.2.1 → cell.slots[j]? = some (.int (f j))))
  | .inr o => va_at D vwCl (a, .inr o) H
def zz_P (D : va_G) (dA : Nat → ClassId) (base : Nat) (h : zz_H) (n : Nat) (H : Heap) : Prop := H.size = n ∧ base ≤ n ∧ ∀ a x, h a = some x → zz_at D dA a x H ∧ (base ≤ a ∨ ∃ y, x = .inl y ∧ 11 ≤ y.1)
/-- .. at any size from n on -/
def zz_Pg (D : va_G) (dA : Nat → ClassId) (base : Nat) (h : zz_H) (n : Nat) (H : Heap) : Prop := ∃ n', n ≤ n' ∧ zz_P D dA base h n' H
theorem zz_at.kept {D : va_G} {dA : Nat → ClassId} {a : Nat} {x : zz_C} {H H1 : Heap} (h : zz_at D dA a x H) (hq : H1[a]? = H[a]?) : zz_at D dA a x H1 := by
  cases x with
  | inl y => exact ⟨fun q => hq.trans (h.1 q), fun q => by rw [hq]; exact h.2 q⟩
  | inr o => exact va_at.kept (q := (a, .inr o)) h hq
theorem zz_at.lt {D : va_G} {dA : Nat → ClassId} {a : Nat} {x : zz_C} {H : Heap} (h : zz_at D dA a x H) : a < H.size := by
  cases x with
  | inl y =>
    by_cases q : y.1 < 11
    · exact (Array.getElem?_eq_some_iff.mp (h.1 q)).1
    · obtain ⟨cell, h1, -⟩ := h.2 q
      exact (Array.getElem?_eq_some_iff.mp h1).1
  | inr o => exact va_at.lt (q := (a, .inr o)) h
theorem zz_P.lt {D : va_G} {dA : Nat → ClassId} {base : Nat} {h : zz_H} {n : Nat} {H : Heap} (hP : zz_P D dA base h n H) {a : Nat} {x : zz_C} (e : h a = some x) : a < n := by
  rw [← hP.1]; exact (hP.2.2 a x e).1.lt
theorem zz_P.upd {D : va_G} {dA : Nat → ClassId} {base : Nat} {h : zz_H} {n : Nat} {H H1 : Heap} (hP : zz_P D dA base h n H) {a : Nat} {x : zz_C} (hz : H1.size = H.size) (oq : ∀ q, q ≠ a → H1[q]? = H[q]?) (hx : zz_at D dA a x H1) (ha : base ≤ a) : zz_P D dA base (zz_u h a x) n H1 := by
  refine ⟨hz.trans hP.1, hP.2.1, fun b y e => ?_⟩
  by_cases hb : b = a
  · subst hb
    rw [zz_us] at e
    cases e
    exact ⟨hx, Or.inl ha⟩
  · rw [zz_un hb] at e
    exact ⟨(hP.2.2 b y e).1.kept (oq b hb), (hP.2.2 b y e).2⟩
theorem zz_P.new {D : va_G} {dA : Nat → ClassId} {base : Nat} {h : zz_H} {n : Nat} {H H1 : Heap} (hP : zz_P D dA base h n H) {x : zz_C} (hz : H1.size = n + 1) (oq : ∀ q, q < n → H1[q]? = H[q]?) (hx : zz_at D dA n x H1) : zz_P D dA base (zz_u h n x) (n + 1) H1 := by
  refine ⟨hz, Nat.le_succ_of_le hP.2.1, fun b y e => ?_⟩
  by_cases hb : b = n
  · subst hb
    rw [zz_us] at e
    cases e
    exact ⟨hx, Or.inl hP.2.1⟩
  · rw [zz_un hb] at e
    exact ⟨(hP.2.2 b y e).1.kept (oq b (hP.lt e)), (hP.2.2 b y e).2⟩
theorem zz_P.more {D : va_G} {dA : Nat → ClassId} {base : Nat} {h : zz_H} {n : Nat} {H H1 : Heap} (hP : zz_P D dA base h n H) (hz : H.size ≤ H1.size) (oq : ∀ q, q < H.size → H1[q]? = H[q]?) : zz_P D dA base h H1.size H1 :=
  ⟨rfl, Nat.le_trans hP.2.1 (by rw [← hP.1]; exact hz), fun b y e => ⟨(hP.2.2 b y e).1.kept (oq b (by rw [hP.1]; exact hP.lt e)), (hP.2.2 b y e).2⟩⟩
theorem zz_P.obj {D : va_G} {dA : Nat → ClassId} {base : Nat} {h : zz_H} {n : Nat} {H : Heap} (hP : zz_P D dA base h n H) {a c : Nat} {fs : List Value} (e : h a = some (.inr (c, fs))) : va_P D vwCl [(a, .inr (c, fs))] H ∧ base ≤ a := by
  obtain ⟨h1, h2⟩ := hP.2.2 a _ e
  refine ⟨fun k q hk => ?_, ?_⟩
  · have hz : k < 1 := (List.getElem?_eq_some_iff.mp hk).1
    rw [show k = 0 by omega] at hk
    cases hk
    exact h1
  · rcases h2 with h2 | ⟨y, h2, -⟩
    · exact h2
    · cases h2
theorem zz_P.arr {D : va_G} {dA : Nat → ClassId} {base : Nat} {h : zz_H} {n : Nat} {H : Heap} (hP : zz_P D dA base h n H) {a t : Nat} {y : vp_A} (e : h a = some (.inl (t, y))) (h11 : t < 11 := by decide) : va_P D vwCl [(a, .inl (dA t, y))] H ∧ (t < 11 → base ≤ a) := by
  obtain ⟨h1, h2⟩ := hP.2.2 a _ e
  refine ⟨fun k q hk => ?_, fun ht => ?_⟩
  · have hz : k < 1 := (List.getElem?_eq_some_iff.mp hk).1
    rw [show k = 0 by omega] at hk
    cases hk
    exact h1.1 h11
  · rcases h2 with h2 | ⟨y, h2, h3⟩
    · exact h2
    · cases h2; exact absurd h3 (Nat.not_le.mpr ht)
theorem zz_atA {D : va_G} {dA : Nat → ClassId} {a t : Nat} {y : vp_A} {H : Heap} (h : t < 11) (e : H[a]? = some (vp_cell (dA t) y)) : zz_at D dA a (.inl (t, y)) H := ⟨fun _ => e, fun q => absurd h q⟩
theorem zz_one {A : Nat → Prop} {a : Nat} {e : va_E} (h : A a) : va_D A [(a, e)] := by
  refine ⟨fun i j p q hi hj _ => ?_, fun k q hk => ?_⟩
  · have h1 : i < 1 := (List.getElem?_eq_some_iff.mp hi).1
    have h2 : j < 1 := (List.getElem?_eq_some_iff.mp hj).1
    omega
  · have hz : k < 1 := (List.getElem?_eq_some_iff.mp hk).1
    rw [show k = 0 by omega] at hk
    cases hk
    exact h
/-- the arrays over other arrays, and over objects, that the program makes -/
def zz_O6 : List FieldType := [.object "java/lang/Object", .array .int]
/-- the texts of the exceptions: class, entry, text -/
def zz_S : List (String × Nat × String) := [("Springseat", 376, "there is no such one"), ("Springseat", 409, "the seat is not closed"), ("Springseat", 341, "there are no seats"), ("Springseat", 383, "a number is out of range"), ("Springseat", 390, "there are as many as there may be"), ("Springseat", 397, "the step may not come next"), ("Springseat", 402, "the step is not the last one, or is signed"), ("Springseat", 386, "there is no such kind"), ("Springseat", 168, "the cloth does not do for all panels"), ("Springseat", 182, "there is no step to sign"), ("Springseat", 379, "there is none"), ("Springseat", 412, "there would be too many hours")]
def zz_K (D : va_G) (dA : Nat → ClassId) (base t0 : Nat) (U : State) : Prop :=
  va_K D vwCl [] U ∧ (∀ t, t < 12 → ArrOfT U (dA t) (zz_T t) ∧ va_RA U (dA t) (zz_T t)) ∧ (∀ w ∈ zz_G, va_Nw w U) ∧
  va_Z "java/util/ArrayList" "DEFAULTCAPACITY_EMPTY_ELEMENTDATA" "[Ljava/lang/Object;" (.ref t0) (fun q => base ≤ q) U U.heap ∧
  vx_Zq Bundle.tN "UNASSIGNED_STACK" Bundle.steD (fun q => base ≤ q) U U.heap ∧ vx_Zq Bundle.tN "SUPPRESSED_SENTINEL" Bundle.listD (fun q => base ≤ q) U U.heap ∧
  (∀ z ∈ zz_S, ∃ sa, vk_R z.1 z.2.1 z.2.2 sa U) ∧ (∀ ty ∈ zz_O6, (Cond.arrayOver ty).before #[] U = true) ∧ ArrOfT U (dA 12) .int
theorem zz_warm {w : Cond} (hk : zz_ok w = true) {s U : State} (hW : s.WarmedH U.vm) (h : va_Nw w s) : va_Nw w U := by
  cases hg : goodWord w with
  | true => exact word_at (args := #[]) (a' := #[]) hW (good_of_word hg) h
  | false =>
    unfold zz_ok at hk
    rw [hg, Bool.false_or] at hk
    split at hk
    · exact va_Nw.warmC hW h
    · exact va_Nw.warmF hW h
    · exact va_Nw.warmM hW h
    · exact va_Nw.warmD hW h
    · cases hk
theorem zz_G_ok {w : Cond} (h : w ∈ zz_G) : zz_ok w = true := (List.mem_filter.mp h).2
theorem zz_use {w : Cond} (hk : zz_ok w = true) {s : State} {args : Array Value} (h : va_Nw w s) : w.before args s = true := by
  cases hg : goodWord w with
  | true => exact word_at (args := #[]) (a' := args) (State.WarmedH.refl s) (good_of_word hg) h
  | false =>
    unfold zz_ok at hk
    rw [hg, Bool.false_or] at hk
    split at hk
    · exact va_Nw.use rfl h
    · exact va_Nw.use rfl h
    · exact va_Nw.use rfl h
    · exact va_Nw.use rfl h
    · cases hk
theorem zz_of {w : Cond} (hk : zz_ok w = true) {s : State} {args : Array Value} (h : w.before args s = true) : va_Nw w s := by
  cases hg : goodWord w with
  | true => exact word_at (args := args) (a' := #[]) (State.WarmedH.refl s) (good_of_word hg) h
  | false =>
    unfold zz_ok at hk
    rw [hg, Bool.false_or] at hk
    split at hk
    · exact va_Nw.of rfl h
    · exact va_Nw.of rfl h
    · exact va_Nw.of rfl h
    · exact va_Nw.of rfl h
    · cases hk
/-- what is known goes on along a run that changes nothing below base -/
theorem zz_K.go {D : va_G} {dA : Nat → ClassId} {base t0 : Nat} {s U : State} {locs : List Loc} (hW : s.WarmedH U.vm) (hS : va_S (fun q => base ≤ q) s.heap U.heap locs) (h : zz_K D dA base t0 s) : zz_K D dA base t0 U := by
  obtain ⟨h1, h2, h3, h4, h5, h6, h7, h8, h9⟩ := h
  refine ⟨h1.moved hW.alike, fun t ht => ⟨arrOfT_moved hW.alike (h2 t ht).1, (h2 t ht).2.moved hW.alike⟩, fun w hw => zz_warm (zz_G_ok hw) hW (h3 w hw), (h4.kept hS.2.1).moved hW.alike, (h5.kept hS.2.1).moved hW.alike, (h6.kept hS.2.1).moved hW.alike, fun z hz => ?_, fun ty hty => zz_over hW (h8 ty hty), arrOfT_moved hW.alike h9⟩
  obtain ⟨sa, h⟩ := h7 z hz
  exact ⟨sa, vk_R.warm hW h⟩
/-- a method's start -/
def zz_Pc (D : va_G) (dA : Nat → ClassId) (base t0 : Nat) (h : zz_H) (n : Nat) (av : List Value) : Array Value → State → Prop := va_Pc av (fun U => zz_P D dA base h n U.heap ∧ zz_K D dA base t0 U)
theorem zz_blind {D : va_G} {dA : Nat → ClassId} {base t0 : Nat} {h : zz_H} {n : Nat} {av : List Value} : FrameBlind (zz_Pc D dA base t0 h n av) := by
  intro a U g mk q
  obtain ⟨q1, q2, q3⟩ := q
  refine ⟨q1, q2, ?_⟩
  have hW : U.WarmedH (U.calling g mk a).vm := State.WarmedH.refl U
  exact zz_K.go (locs := []) hW va_S.rf q3
/-- a method's end: what it answers or throws, the abstract heap behind it -/
def zz_Qc (D : va_G) (dA : Nat → ClassId) (base : Nat) (ro : Option Value) (h : zz_H) (n : Nat) : Array Value → State → Outcome → State → Prop := fun _ st o t => o = .returned ro ∧ zz_P D dA base h n t.heap ∧ va_F (fun q => base ≤ q) st t
def zz_E : Nat → String := fun k => match k with
  | 0 => "java/lang/IllegalArgumentException"
  | 1 => "java/lang/IllegalStateException"
  | 2 => "java/lang/IndexOutOfBoundsException"
  | 3 => "java/lang/UnsupportedOperationException"
  | _ => "java/util/NoSuchElementException"
def zz_Qo (D : va_G) (dA : Nat → ClassId) (base : Nat) (out : Option Value ⊕ Nat) (h : zz_H) (n : Nat) : Array Value → State → Outcome → State → Prop := fun _ st o t => ∃ ro, out = .inl ro ∧ o = .returned ro ∧ zz_P D dA base h n t.heap ∧ va_F (fun q => base ≤ q) st t
def zz_Xo (D : va_G) (dA : Nat → ClassId) (base : Nat) (out : Option Value ⊕ Nat) (h : zz_H) (n : Nat) : String → State → State → Prop := fun E st t => ∃ e, out = .inr e ∧ E = zz_E e ∧ zz_Pg D dA base h n t.heap ∧ va_F (fun q => base ≤ q) st t
abbrev zz_A (base : Nat) : Nat → Prop := fun q => base ≤ q
/-- the contract of a method that doesn't throw; of one that may -/
def zz_M (D : va_G) (dA : Nat → ClassId) (base t0 : Nat) (l : Launch) (y : MethodName) (bytes : ByteArray) (maxL : Nat) (rt : Option FieldType) (rm : Room) (av : List Value) (h : zz_H) (n : Nat) (ro : Option Value) (h' : zz_H) (n' : Nat) : Prop :=
  Met l y [.code y bytes maxL rt] rm (zz_Pc D dA base t0 h n av) (zz_Qc D dA base ro h' n') rm.cells rm.slots (fun q => base ≤ q)
def zz_MX (D : va_G) (dA : Nat → ClassId) (base t0 : Nat) (l : Launch) (y : MethodName) (bytes : ByteArray) (maxL : Nat) (rt : Option FieldType) (rm : Room) (av : List Value) (h : zz_H) (n : Nat) (out : Option Value ⊕ Nat) (h' : zz_H) (n' : Nat) : Prop :=
  vx_Met l y [.code y bytes maxL rt] rm (zz_Pc D dA base t0 h n av) (zz_Qo D dA base out h' n') (zz_Xo D dA base out h' n') rm.cells rm.slots (fun q => base ≤ q)
/-- what stands still in a method -/
def zz_X (D : va_G) (dA : Nat → ClassId) (base t0 : Nat) (own : String) (cc : ByteArray) (nL : Nat) (rt : Option FieldType) (l : Launch) (p : Program) (s : State) (m : MethodId) (meth : Method) (c : Code) : Prop :=
  p.tables.exec = Jvm.exec ∧ c.code = cc ∧ c.maxLocals = nL ∧ meth.sig.returnType = rt ∧ s.vm.findClass own = some m.cls ∧ meth.locks = false ∧ l.stackTraces = false ∧ base ≤ s.heap.size ∧ zz_K D dA base t0 s
/-- what moves -/
def zz_R (D : va_G) (dA : Nat → ClassId) (base : Nat) (h : zz_H) (n : Nat) (s : State) (H : Heap) (locs : List Loc) : Prop := zz_P D dA base h n H ∧ va_S (fun q => base ≤ q) s.heap H locs
theorem zz_w {D : va_G} {dA : Nat → ClassId} {base t0 : Nat} {own : String} {cc : ByteArray} {nL : Nat} {rt : Option FieldType} {l : Launch} {p : Program} {s : State} {m : MethodId} {meth : Method} {c : Code} (X : zz_X D dA base t0 own cc nL rt l p s m meth c) {args : Array Value} {w : Cond} (h : w ∈ zz_G) : w.before args s = true :=
  zz_use (zz_G_ok h) (X.2.2.2.2.2.2.2.2.2.2.1 w h)
/-- a class of ours: its number, name, fields, how many, their types -/
def zz_Cl (ci : Nat) (C : String) (T : u_T) (N : Nat) (ty : Nat → FieldType) : Prop := vwCl[ci]? = some (C, T, N) ∧ (∀ w ∈ u_ws C T N, w ∈ zz_G) ∧ (∀ k, k < N → parseFieldDescriptor (T k).2.2.1 = some (ty k)) ∧ (∀ a, a < N → ∀ b, b < N → a ≠ b → (T a).2.1 ≠ (T b).2.1)
/-- a field as an entry of a class's pool links it; .. a nest mate's -/
def zz_Fl (own : String) (index ci k : Nat) (C : String) (T : u_T) (N : Nat) (ty : Nat → FieldType) (ref : String) : Prop := zz_Cl ci C T N ty ∧ k < N ∧ Cond.fieldLink own index ref (T k).2.1 (T k).2.2.1 ∈ zz_G ∧ ((T k).1 = ref ∨ Cond.sameField ref (T k).1 (T k).2.1 (T k).2.2.1 ∈ zz_G)
def zz_Fn (own : String) (index ci k : Nat) (C : String) (T : u_T) (N : Nat) (ty : Nat → FieldType) (host : String) : Prop := zz_Cl ci C T N ty ∧ k < N ∧ Cond.fieldLinkNest own index (T k).1 (T k).2.1 (T k).2.2.1 host ∈ zz_G
theorem zz_same {ref : String} {T : u_T} {k : Nat} {s : State} {args : Array Value} (hw : ∀ w ∈ zz_G, w.before args s = true) (h : (T k).1 = ref ∨ Cond.sameField ref (T k).1 (T k).2.1 (T k).2.2.1 ∈ zz_G) : ∀ x, s.fieldFound? (T k).1 (T k).2.1 (T k).2.2.1 = some x → s.fieldFound? ref (T k).2.1 (T k).2.2.1 = some x := by
  rcases h with h | h
  · intro x hx; rw [← h]; exact hx
  · intro x hx; exact u_same (hw _ h) x hx
end ZZB
