section ZZS
/-! rows: arrays of arrays -/
variable {p : Program} {l : Launch} {e : Env} {R : Room} {s : State} {m : MethodId} {args : Array Value} {below : List Frame} {meth : Method} {c : Code} {H : Heap} {locs : List Loc} {cells slots : Nat} {Q : State → Prop}
variable {D : va_G} {dA : Nat → ClassId} {base t0 : Nat} {own : String} {cc : ByteArray} {nL : Nat} {rt : Option FieldType} {h : zz_H} {n pc : Nat} {ls : Array Slot} {rest : List Value}
def zz_M2 (h : zz_H) (n t1 N t0 : Nat) (a0 : vp_A) : zz_H := fun q => if q = n then some (zz_Q t1 N (fun i => some (n + 1 + i))) else if n < q ∧ q < n + 1 + N then some (.inl (t0, a0)) else h q
def zz_M3 (h : zz_H) (n N B : Nat) (a0 : vp_A) : zz_H := fun q => if q = n then some (zz_Q 7 N (fun i => some (n + 1 + i * (B + 1)))) else if n < q ∧ q < n + 1 + N * (B + 1) then (if (q - n - 1) % (B + 1) = 0 then some (zz_Q 6 B (fun i => some (q + 1 + i))) else some (.inl (0, a0))) else h q
theorem zn_outS (c : ClassId) (N h0 : Nat) : ∀ i, Jvm.Free.Multi.outerC c N h0 i = { cls := c, slots := (Jvm.Free.Multi.outerC c N h0 i).slots, vm := .none }
  | 0 => rfl
  | i + 1 => by
    show (Jvm.Free.Multi.outerC c N h0 i).setSlot i _ = { cls := c, slots := ((Jvm.Free.Multi.outerC c N h0 i).setSlot i _).slots, vm := .none }
    rw [zn_outS c N h0 i]
    rfl
theorem zn_out (c : ClassId) (N h0 : Nat) : Jvm.Free.Multi.outerC c N h0 N = arrV c N (fun j => .ref (h0 + 1 + j)) := by
  rw [zn_outS]
  have h1 : (Jvm.Free.Multi.outerC c N h0 N).slots = (arrV c N (fun j => .ref (h0 + 1 + j))).slots := by
    refine Array.ext_getElem? fun j => ?_
    rcases Nat.lt_or_ge j N with hj | hj
    · rw [Jvm.Free.Multi.outerC_slot c N h0 N j hj, if_pos hj, arrV_read _ _ hj]
    · rw [Array.getElem?_eq_none (by rw [(Jvm.Free.Multi.outerC_facts c N h0 N).2.2]; exact hj), Array.getElem?_eq_none (by rw [arrV_size]; exact hj)]
  rw [h1]
  rfl
theorem zn_in (c : ClassId) (N : Nat) (dv : Value) : Jvm.Free.Multi.innerC c N dv = arrV c N (fun _ => dv) := by
  unfold Jvm.Free.Multi.innerC
  rw [← arrV_new]
theorem zz_ra (X : zz_X D dA base t0 own cc nL rt l p s m meth c) {t : Nat} (ht : t < 12) {ty : FieldType} (e1 : zz_T t = ty) (hnm : ∀ cA, va_RA s cA ty → s.vm.findClass ("[" ++ ty.toString) = some cA) : s.vm.findClass ("[" ++ ty.toString) = some (dA t) := by
  have h := (X.2.2.2.2.2.2.2.2.2.1 t ht).2
  rw [e1] at h
  exact hnm _ h
theorem zz_ov6 (X : zz_X D dA base t0 own cc nL rt l p s m meth c) {ty : FieldType} (h : ty ∈ zz_O6) (hd : ∀ (a b : Array Value) (U : State), (Cond.arrayOver ty).before a U = (Cond.arrayOver ty).before b U) : (Cond.arrayOver ty).before args s = true := by
  rw [hd args #[] s]
  exact X.2.2.2.2.2.2.2.2.2.2.2.2.2.2.2.1 ty h
theorem zr_mna2 (X : zz_X D dA base t0 own cc nL rt l p s m meth c) (hR : zz_R D dA base h n s H locs) {index ta tb N M : Nat} {ty : FieldType} {a0 : vp_A} (ha : ta < 11) (hb : tb < 11) (ea : zz_T ta = ty) (eb : zz_T tb = .array ty)
    (hcl : Cond.classLink own index ("[" ++ (FieldType.array ty).toString) ∈ zz_G) (hov : FieldType.array ty ∈ zz_O6) (harr : Cond.arrayClass ty ∈ zz_G) (hnm : ∀ cA, va_RA s cA (.array ty) → s.vm.findClass ("[" ++ (FieldType.array ty).toString) = some cA) (hnm0 : ∀ cA, va_RA s cA ty → s.vm.findClass ("[" ++ ty.toString) = some cA) (htos : (FieldType.array ty).toString = "[" ++ ty.toString)
    {i k : Int32} (hi : ¬ i < 0) (hk : ¬ k < 0) (hN : i.toNatClampNeg = N) (hM : k.toNatClampNeg = M) (hb1 : N * 4 ≤ 536870912) (hb2 : M * componentBytes ty ≤ 536870912) (hb3 : M ≤ 536870912) (hdf : fits ty (defaultValue ty) = true) (hdd : (defaultValue ty).isDefault = true) (hcell : ∀ cA : ClassId, vp_cell cA a0 = arrV cA M (fun _ => defaultValue ty))
    (hcells : cells + (1 + N) ≤ R.cells) (hslots : slots + (N + N * M) ≤ R.slots) (hdg : decode cc pc = .ok (.multianewarray index 2, 4))
    (kk : ∀ (H1 : Heap), zz_R D dA base (zz_M2 h n tb N ta a0) (n + 1 + N) s H1 locs → W p l e R s m args below meth c H1 locs (cells + 1 + N) (slots + N + N * M) Q (F0 m (pc + 4) ls (.ref n :: rest))) : W p l e R s m args below meth c H locs cells slots Q (F0 m pc ls (.int k :: .int i :: rest)) := by
  subst hN; subst hM
  have kb := zz_ra X (by omega) eb hnm
  have ka := zz_ra X (by omega) ea hnm0
  have hcb := X.2.1
  subst hcb
  intro T hT XT
  obtain ⟨vm₁, cA, comp, hW, hfA, hfC, -, -, X1, st⟩ := XT.multianewarray2F X.1 X.2.2.2.2.1 (zz_w X hcl) (zz_ov6 X hov (fun a b U => rfl)) (zz_w X harr) (g := F0 m pc ls (.int k :: .int i :: rest)) rfl hdg rfl hi hk hb1 hb2 hb3 hdf hdd hcells hslots
  obtain ⟨⟨hz0, hz1, hz2⟩, hS⟩ := hR
  have hA : dA tb = cA := Option.some.inj (kb.symm.trans hfA)
  have hC : dA ta = comp := Option.some.inj (ka.symm.trans (htos ▸ hfC))
  obtain ⟨f1, f2, f3, f4⟩ := Jvm.Free.Multi.fill_facts (T.setVm vm₁) cA comp i.toNatClampNeg k.toNatClampNeg (defaultValue ty) i.toNatClampNeg
  have fin := fun j hj => Jvm.Free.Multi.fill_inner (T.setVm vm₁) cA comp i.toNatClampNeg k.toNatClampNeg (defaultValue ty) i.toNatClampNeg j hj
  have fold := fun (q : Nat) (hq : q < (T.setVm vm₁).heap.size) => Jvm.Free.Multi.fill_old (T.setVm vm₁) cA comp i.toNatClampNeg k.toNatClampNeg (defaultValue ty) hq i.toNatClampNeg
  have hh : (T.setVm vm₁).heap = H := hT
  have hhn : T.heap.size = n := by rw [hT]; exact hz0
  rw [hh] at f1 f2 fin fold
  rw [hz0] at f1 f2 fin fold
  generalize hF : Jvm.Free.Multi.fill (T.setVm vm₁) cA comp i.toNatClampNeg k.toNatClampNeg (defaultValue ty) i.toNatClampNeg = U at f1 f2 fin fold X1 st
  have hz : s.heap.size ≤ n := by rw [← hz0]; exact hS.1
  have hP : zz_P D dA base (zz_M2 h n tb i.toNatClampNeg ta a0) (n + 1 + i.toNatClampNeg) U.heap := by
    refine ⟨f1, by omega, fun q x hq => ?_⟩
    unfold zz_M2 at hq
    split at hq
    · next e1 =>
      subst e1
      cases hq
      refine ⟨?_, Or.inl hz1⟩
      refine zz_atA hb ?_
      rw [f2, hA, zn_out]
      rfl
    · next e1 =>
      split at hq
      · next e2 =>
        cases hq
        refine ⟨?_, Or.inl (by omega)⟩
        refine zz_atA ha ?_
        obtain ⟨j, hj, rfl⟩ : ∃ j, j < i.toNatClampNeg ∧ q = n + 1 + j := ⟨q - n - 1, by omega, by omega⟩
        rw [fin j hj, hC, zn_in, hcell]
      · next e2 =>
        obtain ⟨g1, g2⟩ := hz2 q x hq
        have hlt : q < n := by rw [← hz0]; exact g1.lt
        exact ⟨g1.kept (fold q hlt), g2⟩
  obtain ⟨t, a1, b1⟩ := kk U.heap ⟨hP, ⟨by rw [f1]; omega, fun q h1 h2 => (fold q (Nat.lt_of_lt_of_le h1 hz)).trans (hS.2.1 q h1 h2), hS.2.2⟩⟩ U rfl X1
  refine ⟨t, st t ?_, b1⟩
  rw [hhn]
  exact a1
end ZZS
