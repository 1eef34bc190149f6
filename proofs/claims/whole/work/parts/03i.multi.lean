section ZZR
/-! arrays of arrays of arrays -/
def zn_o (c : ClassId) (N h0 B : Nat) : Nat → Cell
  | 0 => { cls := c, slots := Array.replicate N .null, vm := .none }
  | i + 1 => (zn_o c N h0 B i).setSlot i (.ref (h0 + 1 + i * (B + 1)))
def zn_f (s : State) (c c1 c2 : ClassId) (N B M : Nat) (dv : Value) : Nat → State
  | 0 => s.pushCell (zn_o c N s.heap.size B 0)
  | i + 1 => (Jvm.Free.Multi.fill (zn_f s c c1 c2 N B M dv i) c1 c2 B M dv B).setCell s.heap.size (zn_o c N s.heap.size B (i + 1))
theorem zn_o_facts (c : ClassId) (N h0 B : Nat) : ∀ i, (zn_o c N h0 B i).cls = c ∧ (zn_o c N h0 B i).vm = .none ∧ (zn_o c N h0 B i).slots.size = N
  | 0 => ⟨rfl, rfl, by simp [zn_o]⟩
  | i + 1 => by
    obtain ⟨a, b, d⟩ := zn_o_facts c N h0 B i
    exact ⟨by simp [zn_o, Cell.setSlot, a], by simp [zn_o, Cell.setSlot, b], by simp [zn_o, Cell.setSlot, d]⟩
theorem zn_o_slot (c : ClassId) (N h0 B : Nat) : ∀ i j, j < N → (zn_o c N h0 B i).slots[j]? = some (if j < i then .ref (h0 + 1 + j * (B + 1)) else .null)
  | 0, j, h => by simp [zn_o, h]
  | i + 1, j, h => by
    have ih := zn_o_slot c N h0 B i j h
    have hs := (zn_o_facts c N h0 B i).2.2
    show ((zn_o c N h0 B i).setSlot i (.ref (h0 + 1 + i * (B + 1)))).slots[j]? = _
    simp only [Cell.setSlot, Array.getElem?_setIfInBounds]
    by_cases e : i = j
    · subst e; simp [hs, h]
    · rw [if_neg e, ih]
      by_cases hj : j < i
      · rw [if_pos hj, if_pos (by omega)]
      · rw [if_neg hj, if_neg (by omega)]
theorem zn_f_facts (s : State) (c c1 c2 : ClassId) (N B M : Nat) (dv : Value) : ∀ i, (zn_f s c c1 c2 N B M dv i).heap.size = s.heap.size + 1 + i * (B + 1) ∧ (zn_f s c c1 c2 N B M dv i).heap[s.heap.size]? = some (zn_o c N s.heap.size B i) ∧
    (zn_f s c c1 c2 N B M dv i).vm = s.vm ∧ (zn_f s c c1 c2 N B M dv i).slotsUsed = s.slotsUsed + N + i * (B + B * M)
  | 0 => ⟨by simp [zn_f], by simp [zn_f], rfl, by simp [zn_f, zn_o]⟩
  | i + 1 => by
    obtain ⟨a, b, d, u⟩ := zn_f_facts s c c1 c2 N B M dv i
    obtain ⟨a1, -, d1, u1⟩ := Jvm.Free.Multi.fill_facts (zn_f s c c1 c2 N B M dv i) c1 c2 B M dv B
    have hlt : s.heap.size < (zn_f s c c1 c2 N B M dv i).heap.size := by omega
    have hb' : (Jvm.Free.Multi.fill (zn_f s c c1 c2 N B M dv i) c1 c2 B M dv B).heap[s.heap.size]? = some (zn_o c N s.heap.size B i) := by rw [Jvm.Free.Multi.fill_old _ _ _ _ _ _ hlt]; exact b
    refine ⟨?_, State.heap_setCell_self hb', by simp [zn_f, d, d1], ?_⟩
    · simp only [zn_f, State.setCell, Array.size_setIfInBounds, a1, a, Nat.succ_mul]
      omega
    · have e1 : (zn_f s c c1 c2 N B M dv (i + 1)).slotsUsed = (Jvm.Free.Multi.fill (zn_f s c c1 c2 N B M dv i) c1 c2 B M dv B).slotsUsed := rfl
      rw [e1, u1, u, Nat.succ_mul]
      omega
theorem zn_f_setTop (s : State) (f : JFrame) (c c1 c2 : ClassId) (N B M : Nat) (dv : Value) : ∀ i, zn_f (s.setTop f) c c1 c2 N B M dv i = (zn_f s c c1 c2 N B M dv i).setTop f
  | 0 => rfl
  | i + 1 => by simp only [zn_f, zn_f_setTop s f c c1 c2 N B M dv i, Jvm.Free.Multi.fill_setTop, State.heap_setTop, State.setCell_setTop]
theorem zn_f_old (s : State) (c c1 c2 : ClassId) (N B M : Nat) (dv : Value) {a : Addr} (ha : a < s.heap.size) : ∀ i, (zn_f s c c1 c2 N B M dv i).heap[a]? = s.heap[a]?
  | 0 => State.heap_pushCell_of_lt _ _ ha
  | i + 1 => by
    have f1 := (zn_f_facts s c c1 c2 N B M dv i).1
    have hlt : a < (zn_f s c c1 c2 N B M dv i).heap.size := Nat.lt_of_lt_of_le ha (by rw [f1]; omega)
    show ((Jvm.Free.Multi.fill (zn_f s c c1 c2 N B M dv i) c1 c2 B M dv B).setCell s.heap.size _).heap[a]? = _
    rw [State.heap_setCell_other (Nat.ne_of_gt ha), Jvm.Free.Multi.fill_old _ _ _ _ _ _ hlt]
    exact zn_f_old s c c1 c2 N B M dv ha i
theorem zn_f_mid (s : State) (c c1 c2 : ClassId) (N B M : Nat) (dv : Value) : ∀ i j, j < i → (zn_f s c c1 c2 N B M dv i).heap[s.heap.size + 1 + j * (B + 1)]? = some (Jvm.Free.Multi.outerC c1 B (s.heap.size + 1 + j * (B + 1)) B) ∧ ∀ k, k < B → (zn_f s c c1 c2 N B M dv i).heap[s.heap.size + 1 + j * (B + 1) + 1 + k]? = some (Jvm.Free.Multi.innerC c2 M dv)
  | 0, _, h => absurd h (Nat.not_lt_zero _)
  | i + 1, j, h => by
    have f1 := (zn_f_facts s c c1 c2 N B M dv i).1
    obtain ⟨a1, b1, -, -⟩ := Jvm.Free.Multi.fill_facts (zn_f s c c1 c2 N B M dv i) c1 c2 B M dv B
    have key : ∀ q : Nat, q ≠ s.heap.size → (zn_f s c c1 c2 N B M dv (i + 1)).heap[q]? = (Jvm.Free.Multi.fill (zn_f s c c1 c2 N B M dv i) c1 c2 B M dv B).heap[q]? := fun q hq => State.heap_setCell_other (Ne.symm hq)
    have key2 : ∀ q : Nat, q ≠ s.heap.size → q < s.heap.size + 1 + i * (B + 1) → (zn_f s c c1 c2 N B M dv (i + 1)).heap[q]? = (zn_f s c c1 c2 N B M dv i).heap[q]? := fun q hq hl => (key q hq).trans (Jvm.Free.Multi.fill_old _ _ _ _ _ _ (by rw [f1]; exact hl) _)
    rcases Nat.lt_or_ge j i with hj | hj
    · obtain ⟨g1, g2⟩ := zn_f_mid s c c1 c2 N B M dv i j hj
      have hm : j * (B + 1) + (B + 1) ≤ i * (B + 1) := by
        have := Nat.mul_le_mul_right (B + 1) (show j + 1 ≤ i from hj)
        rw [Nat.succ_mul] at this; exact this
      refine ⟨?_, fun k hk => ?_⟩
      · rw [key2 _ (by omega) (by omega)]; exact g1
      · rw [key2 _ (by omega) (by omega)]; exact g2 k hk
    · have e : j = i := by omega
      subst e
      refine ⟨?_, fun k hk => ?_⟩
      · rw [key _ (by omega), ← f1]; exact b1
      · rw [key _ (by omega), ← f1]; exact Jvm.Free.Multi.fill_inner _ _ _ _ _ _ B k hk
section
variable {E : CtlPost} {e : Env} {d : Bool} {acts : List Action} {s : State}
theorem zn_make {c c1 c2 cc : ClassId} {k k1 k2 : Class} {t0 t1 type : FieldType} {n m r : Int32} (hk : s.vm.classes[c]? = some k) (hkind : k.kind = .array c1 t0) (href : t0.isReference = true)
    (hk1 : s.vm.classes[c1]? = some k1) (hkind1 : k1.kind = .array c2 t1) (href1 : t1.isReference = true) (hk2 : s.vm.classes[c2]? = some k2) (hkind2 : k2.kind = .array cc type) (hn : ¬ n < 0) (hm : ¬ m < 0) (hr : ¬ r < 0)
    (hl1 : ¬ n.toNatClampNeg > e.platform.arrayLengthLimit) (hh1 : ¬ n.toNatClampNeg * componentBytes t0 > e.platform.maxHeapBytes)
    (hl2 : ¬ m.toNatClampNeg > e.platform.arrayLengthLimit) (hh2 : ¬ m.toNatClampNeg * componentBytes t1 > e.platform.maxHeapBytes)
    (hl3 : ¬ r.toNatClampNeg > e.platform.arrayLengthLimit) (hh3 : ¬ r.toNatClampNeg * componentBytes type > e.platform.maxHeapBytes)
    (hdf : fits type (defaultValue type) = true) (hdd : (defaultValue type).isDefault = true)
    (hc : s.heap.size + 1 + n.toNatClampNeg * (m.toNatClampNeg + 1) ≤ e.platform.maxCells) (hs : s.slotsUsed + n.toNatClampNeg + n.toNatClampNeg * (m.toNatClampNeg + m.toNatClampNeg * r.toNatClampNeg) ≤ e.platform.maxSlots)
    {Q : Addr → Pre} (hq : ∀ d' acts', Q s.heap.size d' acts' (zn_f s c c1 c2 n.toNatClampNeg m.toNatClampNeg r.toNatClampNeg (defaultValue type) n.toNatClampNeg)) :
    wp (multianewarray.make c [n, m, r]) Q E e d acts s := by
  have hfind : ([m, r].find? (· < 0)) = none := by simp [hm, hr]
  rw [multianewarray.make]
  simp only [wp_bind', W.ite, hn, if_false, wp_pure', W.theClass, hk, hkind, Option.some.injEq, exists_eq_left']
  refine Jvm.Free.Multi.wp_newArray hk hkind hl1 hh1 (Jvm.Free.Multi.refFits href _ (Or.inl rfl)) rfl (by omega) (by have := Nat.zero_le (n.toNatClampNeg * (m.toNatClampNeg + m.toNatClampNeg * r.toNatClampNeg)); omega) ?_
  simp only [hfind]
  rw [ite_self, wp_bind', Std.Legacy.Range.forIn_eq_forIn_range']
  have hsz : ([:n.toNatClampNeg] : Std.Legacy.Range).size = n.toNatClampNeg := by simp [Std.Legacy.Range.size]
  rw [hsz]
  show wp (forIn (List.range' 0 n.toNatClampNeg 1) PUnit.unit _) _ E e d acts _
  refine wp_forIn_inv (fun rest s' => ∃ i, i ≤ n.toNatClampNeg ∧ rest = List.range' i (n.toNatClampNeg - i) ∧ s' = zn_f s c c1 c2 n.toNatClampNeg m.toNatClampNeg r.toNatClampNeg (defaultValue type) i) _ _ ⟨0, Nat.zero_le _, rfl, rfl⟩ ?_ ?_
  · rintro x rest s' d' acts' Q' ⟨i, hi, hl, rfl⟩ hnext
    have hlt : i < n.toNatClampNeg := by
      rcases Nat.lt_or_ge i n.toNatClampNeg with h | h
      · exact h
      · rw [show n.toNatClampNeg - i = 0 from by omega] at hl; simp at hl
    obtain ⟨rfl, hrest⟩ : x = i ∧ rest = List.range' (i + 1) (n.toNatClampNeg - (i + 1)) := by
      rw [show n.toNatClampNeg - i = (n.toNatClampNeg - (i + 1)) + 1 from by omega, List.range'_succ] at hl
      exact ⟨(List.cons.inj hl).1, (List.cons.inj hl).2⟩
    obtain ⟨f1, f2, f3, f4⟩ := zn_f_facts s c c1 c2 n.toNatClampNeg m.toNatClampNeg r.toNatClampNeg (defaultValue type) x
    obtain ⟨o1, o2, o3⟩ := zn_o_facts c n.toNatClampNeg s.heap.size m.toNatClampNeg x
    have hmul : x * (m.toNatClampNeg + 1) + (m.toNatClampNeg + 1) ≤ n.toNatClampNeg * (m.toNatClampNeg + 1) := by
      have := Nat.mul_le_mul_right (m.toNatClampNeg + 1) (show x + 1 ≤ n.toNatClampNeg from hlt)
      rw [Nat.succ_mul] at this; exact this
    have hmul2 : x * (m.toNatClampNeg + m.toNatClampNeg * r.toNatClampNeg) + (m.toNatClampNeg + m.toNatClampNeg * r.toNatClampNeg) ≤ n.toNatClampNeg * (m.toNatClampNeg + m.toNatClampNeg * r.toNatClampNeg) := by
      have := Nat.mul_le_mul_right (m.toNatClampNeg + m.toNatClampNeg * r.toNatClampNeg) (show x + 1 ≤ n.toNatClampNeg from hlt)
      rw [Nat.succ_mul] at this; exact this
    simp only [wp_bind']
    refine Jvm.Free.Multi.wp_make2 (by rw [f3]; exact hk1) hkind1 href1 (by rw [f3]; exact hk2) hkind2 hm hr hl2 hh2 hl3 hh3 hdf hdd (by rw [f1]; omega) (by rw [f4]; omega) (fun d2 acts2 => ?_)
    have hlt0 : s.heap.size < (zn_f s c c1 c2 n.toNatClampNeg m.toNatClampNeg r.toNatClampNeg (defaultValue type) x).heap.size := by rw [f1]; omega
    have f5 := (Jvm.Free.Multi.fill_facts (zn_f s c c1 c2 n.toNatClampNeg m.toNatClampNeg r.toNatClampNeg (defaultValue type) x) c1 c2 m.toNatClampNeg r.toNatClampNeg (defaultValue type) m.toNatClampNeg).2.2.1
    simp only [wp_bind', W.writeLoc, wp_pure']
    refine ⟨zn_o c n.toNatClampNeg s.heap.size m.toNatClampNeg x, by rw [Jvm.Free.Multi.fill_old _ _ _ _ _ _ hlt0]; exact f2, by rw [o2]; simp, by rw [o3]; exact hlt, ?_, hnext _ _ _ ⟨x + 1, hlt, hrest, ?_⟩⟩
    · rw [o1, o2]
      simp [State.fitsSlot, State.slotType?, f5, f3, hk, hkind, Jvm.Free.Multi.refFits href _ (Or.inr ⟨_, rfl⟩)]
    · rw [f1]; rfl
  · rintro s' d' acts' ⟨i, hi, hl, rfl⟩
    have hiN : i = n.toNatClampNeg := by
      rcases Nat.lt_or_ge i n.toNatClampNeg with h | h
      · rw [show n.toNatClampNeg - i = (n.toNatClampNeg - (i + 1)) + 1 from by omega, List.range'_succ] at hl; cases hl
      · omega
    subst hiN
    simp only [wp_pure']
    exact hq _ _
end
section
variable {p : Program} {l : Launch} {e : Env} {R : Room} {s : State} {m : MethodId} {args : Array Value} {below : List Frame} {meth : Method} {c : Code} {T : State} {locs : List Loc} {cells slots : Nat}
theorem zn_filled (X : Stand p l e R s m args below meth c T locs cells slots) (cA c1 c2 : ClassId) (N B M : Nat) (dv : Value) :
    ∀ i, Stand p l e R s m args below meth c (zn_f T cA c1 c2 N B M dv i) locs (cells + 1 + i * (B + 1)) (slots + N + i * (B + B * M))
  | 0 => by
    have h := X.pushed (zn_o cA N T.heap.size B 0)
    rw [(zn_o_facts cA N T.heap.size B 0).2.2] at h
    simpa [zn_f] using h
  | i + 1 => by
    have Xi := zn_filled X cA c1 c2 N B M dv i
    obtain ⟨f1, f2, f3, f4⟩ := zn_f_facts T cA c1 c2 N B M dv i
    have hlt0 : T.heap.size < (zn_f T cA c1 c2 N B M dv i).heap.size := by rw [f1]; omega
    have X2 := (Stand.filled Xi c1 c2 B M dv B).dropFresh (fun x hx => by
      obtain ⟨j, -, rfl⟩ := List.mem_map.mp hx
      exact Xi.heapGrown)
    have hcell : (Jvm.Free.Multi.fill (zn_f T cA c1 c2 N B M dv i) c1 c2 B M dv B).heap[T.heap.size]? = some (zn_o cA N T.heap.size B i) := by rw [Jvm.Free.Multi.fill_old _ _ _ _ _ _ hlt0]; exact f2
    have h := (X2.stored hcell i (.ref (T.heap.size + 1 + i * (B + 1)))).dropFresh (fun x hx => by
      rw [List.mem_singleton.mp hx]
      exact X.heapGrown)
    have e2 : cells + 1 + (i + 1) * (B + 1) = cells + 1 + i * (B + 1) + 1 + B := by rw [Nat.succ_mul]; omega
    have e3 : slots + N + (i + 1) * (B + B * M) = slots + N + i * (B + B * M) + B + B * M := by rw [Nat.succ_mul]; omega
    rw [e2, e3]
    exact h
theorem zn_multi (X : Stand p l e R s m args below meth c T locs cells slots) (hexec : p.tables.exec = Jvm.exec) {own : String} {index : Nat} {ty : FieldType}
    (hown : s.vm.findClass own = some m.cls) (hclink : (Cond.classLink own index ("[" ++ (FieldType.array (.array ty)).toString)).before args s = true)
    (hover : (Cond.arrayOver (.array (.array ty))).before args s = true) (hover1 : (Cond.arrayOver (.array ty)).before args s = true) (harr : (Cond.arrayClass ty).before args s = true)
    {g : JFrame} (hg : g.method = m) (hdg : decode c.code g.pc = .ok (.multianewarray index 3, 4)) {n k r : Int32} {rest : List Value} (hstack : g.stack = .int r :: .int k :: .int n :: rest)
    (hn : ¬ n < 0) (hk : ¬ k < 0) (hr : ¬ r < 0) (hb1 : n.toNatClampNeg * 4 ≤ 536870912) (hb2 : k.toNatClampNeg * 4 ≤ 536870912) (hb3 : r.toNatClampNeg * componentBytes ty ≤ 536870912) (hb4 : r.toNatClampNeg ≤ 536870912)
    (hdf : fits ty (defaultValue ty) = true) (hdd : (defaultValue ty).isDefault = true)
    (hcells : cells + (1 + n.toNatClampNeg * (k.toNatClampNeg + 1)) ≤ R.cells) (hslots : slots + (n.toNatClampNeg + n.toNatClampNeg * (k.toNatClampNeg + k.toNatClampNeg * r.toNatClampNeg)) ≤ R.slots) :
    ∃ (vm₁ : Vm) (cA c1 c2 : ClassId), s.WarmedH vm₁ ∧ s.vm.findClass ("[" ++ (FieldType.array (.array ty)).toString) = some cA ∧ s.vm.findClass (FieldType.array (.array ty)).toString = some c1 ∧ s.vm.findClass (FieldType.array ty).toString = some c2 ∧
      Stand p l e R s m args below meth c (zn_f (T.setVm vm₁) cA c1 c2 n.toNatClampNeg k.toNatClampNeg r.toNatClampNeg (defaultValue ty) n.toNatClampNeg) locs (cells + 1 + n.toNatClampNeg * (k.toNatClampNeg + 1)) (slots + n.toNatClampNeg + n.toNatClampNeg * (k.toNatClampNeg + k.toNatClampNeg * r.toNatClampNeg)) ∧
      ∀ target, Steps p.tables e below ((zn_f (T.setVm vm₁) cA c1 c2 n.toNatClampNeg k.toNatClampNeg r.toNatClampNeg (defaultValue ty) n.toNatClampNeg).setTop { g with pc := g.pc + 4, stack := .ref T.heap.size :: rest }) target →
        Steps p.tables e below (T.setTop g) target := by
  subst hg
  have hpl : e.platform.magicAccessors = ({} : Platform).magicAccessors := by rw [X.admits.platform]
  obtain ⟨c1, cA, kA, hc1, hkA, hkindA, hnameA⟩ := Cond.arrayOver_specA hover
  obtain ⟨c2, c1', kB, hc2, hkB, hkindB, hnameB⟩ := Cond.arrayOver_specA hover1
  obtain ⟨c2', kC, cc, hc2', hkC, hkindC⟩ := Cond.arrayClass_spec harr
  have ec2 : c2' = c2 := Option.some.inj (hc2'.symm.trans hc2)
  subst ec2
  have ec1 : c1' = c1 := Option.some.inj (hnameB.symm.trans hc1)
  subst ec1
  obtain ⟨c0, hfc0, hcl⟩ := Cond.classLink_spec hown hclink e.platform hpl
  cases hnameA.symm.trans hfc0
  obtain ⟨hg₁, hwarm₁, hready₁⟩ := State.classEntry (e := e) X.warmed hcl
  generalize T.vm.noted g.method.cls index (.cls cA) = vm₁ at hg₁ hwarm₁ hready₁
  have hal : s.vm.Alike vm₁ := hwarm₁.alike
  obtain ⟨kA₁, hkA₁, heA⟩ := hal.2.2 _ _ hkA
  obtain ⟨kB₁, hkB₁, heB⟩ := hal.2.2 _ _ hkB
  obtain ⟨kC₁, hkC₁, heC⟩ := hal.2.2 _ _ hkC
  have hkindA₁ : kA₁.kind = .array c1' (.array (.array ty)) := by rw [heA]; exact hkindA
  have hkindB₁ : kB₁.kind = .array c2' (.array ty) := by rw [heB]; exact hkindB
  have hkindC₁ : kC₁.kind = .array cc ty := by rw [heC]; exact hkindC
  have X₁ := X.noted hwarm₁
  obtain ⟨hr1, hr2⟩ := X.roomAbove hcells hslots
  refine ⟨vm₁, cA, c1', c2', hwarm₁, hnameA, hc1, hc2, zn_filled X₁ cA c1' c2' _ _ _ _ _, fun target hrest => ?_⟩
  have hl1 : ¬ n.toNatClampNeg > e.platform.arrayLengthLimit := by rw [Launch.admits_arrayLengthLimit X.admits]; omega
  have hh1 : ¬ n.toNatClampNeg * componentBytes (.array (.array ty)) > e.platform.maxHeapBytes := by
    rw [Launch.admits_maxHeapBytes X.admits]; show ¬ n.toNatClampNeg * 4 > 536870912; omega
  have hl2 : ¬ k.toNatClampNeg > e.platform.arrayLengthLimit := by rw [Launch.admits_arrayLengthLimit X.admits]; omega
  have hh2 : ¬ k.toNatClampNeg * componentBytes (.array ty) > e.platform.maxHeapBytes := by
    rw [Launch.admits_maxHeapBytes X.admits]; show ¬ k.toNatClampNeg * 4 > 536870912; omega
  have hl3 : ¬ r.toNatClampNeg > e.platform.arrayLengthLimit := by rw [Launch.admits_arrayLengthLimit X.admits]; omega
  have hh3 : ¬ r.toNatClampNeg * componentBytes ty > e.platform.maxHeapBytes := by rw [Launch.admits_maxHeapBytes X.admits]; omega
  jvm_step X.here [hexec, hdg]
  simp only [multianewarray.sem, wp_bind', W.resolveClassAt_links (State.method?_setTop g X.here.top) hg₁]
  rw [W.popN, if_neg (by decide)]
  refine ⟨g, State.topJava?_setTop' (s := T.setVm vm₁) g X.here.top, [.int n, .int k, .int r], rest, rfl, hstack, ?_⟩
  simp only [List.mapM_cons, List.mapM_nil, wp_bind', wp_pure']
  refine zn_make (k := kA₁) (k1 := kB₁) (k2 := kC₁) (c1 := c1') (c2 := c2') (cc := cc) (t0 := .array (.array ty)) (t1 := .array ty) (type := ty) hkA₁ hkindA₁ rfl hkB₁ hkindB₁ rfl hkC₁ hkindC₁ hn hk hr hl1 hh1 hl2 hh2 hl3 hh3 hdf hdd (by show T.heap.size + 1 + _ ≤ _; omega) (by show T.slotsUsed + _ + _ ≤ _; omega) (fun d' acts' => ?_)
  have XF := zn_filled X₁ cA c1' c2' n.toNatClampNeg k.toNatClampNeg r.toNatClampNeg (defaultValue ty) n.toNatClampNeg
  have eS : ((T.setTop g).setVm vm₁).setTop { g with stack := rest } = (T.setVm vm₁).setTop { g with stack := rest } := by
    show ((T.setVm vm₁).setTop g).setTop _ = _
    rw [State.setTop_setTop]
  rw [eS, zn_f_setTop]
  simp only [wp_bind', W.mark, W.pushRef, State.topJava?_setTop' _ XF.here.top, Option.some.injEq, exists_eq_left', State.setTop_setTop, State.heap_setTop]
  intro acts
  simp [jvm, XF.here.top]
  exact hrest
end
end ZZR
