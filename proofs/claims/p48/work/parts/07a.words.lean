section ZZW2
def zpl {α : Type} (x : Option (α ⊕ Nat)) (K : α → Prop) : Prop := ∃ v, x = some (.inl v) ∧ K v
def znw (x : Int32) (K : Nat → Prop) : Prop := ∃ N, ¬ x < 0 ∧ x.toNatClampNeg = N ∧ N ≤ 4 ∧ K N
def zp {α : Type} (x : Option α) (K : α → Prop) : Prop := ∃ v, x = some v ∧ K v
def zp1 {α : Type} (x : Option (α × zz_H)) (K : α → zz_H → Prop) : Prop := ∃ v h, x = some (v, h) ∧ K v h
def zo (h : zz_H) (a ci : Nat) (K : Prop) : Prop := (∃ fs, h a = some (.inr (ci, fs))) ∧ K
def zl_w (x : Option (Int32 × zz_H × Nat)) (K : Int32 → zz_H → Nat → Prop) : Prop := ∃ r h n, x = some (r, h, n) ∧ ∀ n1, n ≤ n1 → K r h n1
end ZZW2
section ZSW
variable {p : Program} {l : Launch} {e : Env} {R : Room} {s : State} {m : MethodId} {args : Array Value} {below : List Frame} {meth : Method} {c : Code} {H : Heap} {locs : List Loc} {cells slots : Nat} {Q : State → Prop}
variable {D : va_G} {dA : Nat → ClassId} {base t0 : Nat} {own : String} {cc : ByteArray} {nL : Nat} {rt : Option FieldType} {h : zz_H} {n pc : Nat} {ls : Array Slot} {rest : List Value}
variable {y : MethodName} {bytes : ByteArray} {maxL index : Nat} {rt' : Option FieldType} {rm : Room} {As : List Value} {ro : Option Value} {h' : zz_H} {n' : Nat} {st : List Value}
theorem zr_cSw (X : zz_X D dA base t0 own cc nL rt l p s m meth c) (hR : zz_R D dA base h n s H locs) (hls : ls.size = nL) (hM : zz_M D dA base t0 l y bytes maxL rt' rm As h n ro h' n') (hf : zz_Mf y bytes maxL rt' As.length) (hlink : Cond.methodLink own index y ∈ zz_G) (hstat : Cond.static y ∈ zz_G) (hrm : rm.frames + 1 ≤ R.frames ∧ 8 + (maxL + 11) + rm.locals ≤ R.locals) (hmem : cells + rm.cells ≤ R.cells ∧ slots + rm.slots ≤ R.slots) (hst : st = As.reverse ++ rest) (hlen : (rest.map fun v => v.category).sum ≤ 8) (hdg : decode cc pc = .ok (.invokestatic index, 3))
    (kk : ∀ (H1 : Heap) (locs1 : List Loc), zz_R D dA base h' n' s H1 locs1 → W p l e R s m args below meth c H1 locs1 (cells + rm.cells) (slots + rm.slots) Q (F0 m (pc + 3) ls (ro.toList ++ rest))) : W p l e R s m args below meth c H locs cells slots Q (F0 m pc ls st) :=
  zz_after (va_runS (As := As) (rest := rest) (Ts := zz_G) ⟨X.1, X.2.1, X.2.2.1, X.2.2.2.2.1, fun w hw => zz_w X hw⟩ hM ⟨zz_cb X hf hlink hrm, zz_w X hstat⟩ (zz_pre X hR) rfl rfl hls hst (lv_room hlen) hdg hmem) hR kk
end ZSW
