section ZZC
/-! rows: an instruction of the machine beside an operation of the abstract heap -/
variable {p : Program} {l : Launch} {e : Env} {R : Room} {s : State} {m : MethodId} {args : Array Value} {below : List Frame} {meth : Method} {c : Code} {H : Heap} {locs : List Loc} {cells slots : Nat} {Q : State → Prop}
variable {D : va_G} {dA : Nat → ClassId} {base t0 : Nat} {own : String} {cc : ByteArray} {nL : Nat} {rt : Option FieldType} {h : zz_H} {n pc : Nat} {ls : Array Slot} {rest : List Value}
theorem zr_aload_n (hexec : p.tables.exec = Jvm.exec) (hb : c.code = cc) {k : Fin 4} {i : Nat} {r : Option Nat} (hdg : decode cc pc = .ok (.aload_n k, 1)) (hi : (k : Nat) = i) (hl : ls[i]? = some (.val (va_rf r))) (kk : W p l e R s m args below meth c H locs cells slots Q (F0 m (pc + 1) ls (va_rf r :: rest))) : W p l e R s m args below meth c H locs cells slots Q (F0 m pc ls rest) := by
  cases r with
  | none => exact lv_aload_nN hexec hb hdg hi hl kk
  | some a => exact lv_aload_n hexec hb hdg hi hl kk
theorem zr_aload (hexec : p.tables.exec = Jvm.exec) (hb : c.code = cc) {i : Nat} {r : Option Nat} (hdg : decode cc pc = .ok (.aload i, 2)) (hl : ls[i]? = some (.val (va_rf r))) (kk : W p l e R s m args below meth c H locs cells slots Q (F0 m (pc + 2) ls (va_rf r :: rest))) : W p l e R s m args below meth c H locs cells slots Q (F0 m pc ls rest) := by
  cases r with
  | none => exact lv_aloadN hexec hb hdg hl kk
  | some a => exact lv_aload hexec hb hdg hl kk
theorem zr_astore_n (hexec : p.tables.exec = Jvm.exec) (hb : c.code = cc) {k : Fin 4} {i nL : Nat} {r : Option Nat} {lv lv' : List (Nat × Value)} (hdg : decode cc pc = .ok (.astore_n k, 1)) (hi : (k : Nat) = i) (hh : lv_has ls nL lv) (hn : i < nL) (hl : (i, va_rf r) :: lv.filter (fun q => !(q.1 == i) && !(q.1 + 1 == i && q.2.category == 2)) = lv')
    (kk : ∀ ls' : Array Slot, lv_has ls' nL lv' → W p l e R s m args below meth c H locs cells slots Q (F0 m (pc + 1) ls' rest)) : W p l e R s m args below meth c H locs cells slots Q (F0 m pc ls (va_rf r :: rest)) := by
  cases r with
  | none => exact lv_astore_nN hexec hb hdg hi hh hn hl kk
  | some a => exact lv_astore_n hexec hb hdg hi hh hn hl kk
theorem zr_astore (hexec : p.tables.exec = Jvm.exec) (hb : c.code = cc) {i nL : Nat} {r : Option Nat} {lv lv' : List (Nat × Value)} (hdg : decode cc pc = .ok (.astore i, 2)) (hh : lv_has ls nL lv) (hn : i < nL) (hl : (i, va_rf r) :: lv.filter (fun q => !(q.1 == i) && !(q.1 + 1 == i && q.2.category == 2)) = lv')
    (kk : ∀ ls' : Array Slot, lv_has ls' nL lv' → W p l e R s m args below meth c H locs cells slots Q (F0 m (pc + 2) ls' rest)) : W p l e R s m args below meth c H locs cells slots Q (F0 m pc ls (va_rf r :: rest)) := by
  cases r with
  | none => exact lv_astoreN hexec hb hdg hh hn hl kk
  | some a => exact lv_astore hexec hb hdg hh hn hl kk
theorem zr_ifnull (hexec : p.tables.exec = Jvm.exec) (hb : c.code = cc) {r : Option Nat} {off : Int} {tgt : Nat} (hdg : decode cc pc = .ok (.ifnull off, 3)) (ht : (pc : Int) + off = (tgt : Int)) (kt : r = none → W p l e R s m args below meth c H locs cells slots Q (F0 m tgt ls rest)) (kf : ¬ r = none → W p l e R s m args below meth c H locs cells slots Q (F0 m (pc + 3) ls rest)) : W p l e R s m args below meth c H locs cells slots Q (F0 m pc ls (va_rf r :: rest)) := by
  cases r with
  | none => exact lv_ifnullN hexec hb hdg ht (kt rfl)
  | some a => exact lv_ifnull hexec hb hdg (kf (fun q => by cases q))
theorem zr_ifnonnull (hexec : p.tables.exec = Jvm.exec) (hb : c.code = cc) {r : Option Nat} {off : Int} {tgt : Nat} (hdg : decode cc pc = .ok (.ifnonnull off, 3)) (ht : (pc : Int) + off = (tgt : Int)) (kt : ¬ r = none → W p l e R s m args below meth c H locs cells slots Q (F0 m tgt ls rest)) (kf : r = none → W p l e R s m args below meth c H locs cells slots Q (F0 m (pc + 3) ls rest)) : W p l e R s m args below meth c H locs cells slots Q (F0 m pc ls (va_rf r :: rest)) := by
  cases r with
  | none => exact lv_ifnonnullN hexec hb hdg (kf rfl)
  | some a => exact lv_ifnonnull hexec hb hdg ht (kt (fun q => by cases q))
theorem zr_null (hexec : p.tables.exec = Jvm.exec) (hb : c.code = cc) (hdg : decode cc pc = .ok (.aconst_null, 1)) (kk : W p l e R s m args below meth c H locs cells slots Q (F0 m (pc + 1) ls (va_rf none :: rest))) : W p l e R s m args below meth c H locs cells slots Q (F0 m pc ls rest) := lv_null hexec hb hdg kk
/-! fields -/
theorem zr_gi (X : zz_X D dA base t0 own cc nL rt l p s m meth c) (hR : zz_R D dA base h n s H locs) {index ci k N : Nat} {C ref : String} {T : u_T} {ty : Nat → FieldType} (hF : zz_Fl own index ci k C T N ty ref) (hdg : decode cc pc = .ok (.getfield index, 3)) {r : Option Nat} {α : Type} {K : Int32 → Option α} {o : α} (hf : zz_gi h r ci k K = some o)
    (kk : ∀ x, K x = some o → W p l e R s m args below meth c H locs cells slots Q (F0 m (pc + 3) ls (.int x :: rest))) : W p l e R s m args below meth c H locs cells slots Q (F0 m pc ls (va_rf r :: rest)) := by
  obtain ⟨a, fs, x, rfl, ho, hx, hk⟩ := zz_gi_i hf
  obtain ⟨⟨f1, f2, f3, f4⟩, f5, f6, f7⟩ := hF
  exact va_get (D := D) (C := C) (T := T) (N := N) X.1 X.2.1 (fun w hw => zz_w X hw) f2 X.2.2.2.2.1 X.2.2.2.2.2.2.2.2.1 (hR.1.obj ho).1 0 rfl f1 k f5 (zz_w X f6) (zz_same (args := args) (fun w hw => zz_w X hw) f7) hx hdg (kk x hk)
theorem zr_gl (X : zz_X D dA base t0 own cc nL rt l p s m meth c) (hR : zz_R D dA base h n s H locs) {index ci k N : Nat} {C ref : String} {T : u_T} {ty : Nat → FieldType} (hF : zz_Fl own index ci k C T N ty ref) (hdg : decode cc pc = .ok (.getfield index, 3)) {r : Option Nat} {α : Type} {K : Int64 → Option α} {o : α} (hf : zz_gl h r ci k K = some o)
    (kk : ∀ x, K x = some o → W p l e R s m args below meth c H locs cells slots Q (F0 m (pc + 3) ls (.long x :: rest))) : W p l e R s m args below meth c H locs cells slots Q (F0 m pc ls (va_rf r :: rest)) := by
  obtain ⟨a, fs, x, rfl, ho, hx, hk⟩ := zz_gl_i hf
  obtain ⟨⟨f1, f2, f3, f4⟩, f5, f6, f7⟩ := hF
  exact va_get (D := D) (C := C) (T := T) (N := N) X.1 X.2.1 (fun w hw => zz_w X hw) f2 X.2.2.2.2.1 X.2.2.2.2.2.2.2.2.1 (hR.1.obj ho).1 0 rfl f1 k f5 (zz_w X f6) (zz_same (args := args) (fun w hw => zz_w X hw) f7) hx hdg (kk x hk)
theorem zr_gq (X : zz_X D dA base t0 own cc nL rt l p s m meth c) (hR : zz_R D dA base h n s H locs) {index ci k N : Nat} {C ref : String} {T : u_T} {ty : Nat → FieldType} (hF : zz_Fl own index ci k C T N ty ref) (hdg : decode cc pc = .ok (.getfield index, 3)) {r : Option Nat} {α : Type} {K : Option Nat → Option α} {o : α} (hf : zz_gq h r ci k K = some o)
    (kk : ∀ x, K x = some o → W p l e R s m args below meth c H locs cells slots Q (F0 m (pc + 3) ls (va_rf x :: rest))) : W p l e R s m args below meth c H locs cells slots Q (F0 m pc ls (va_rf r :: rest)) := by
  obtain ⟨a, fs, x, rfl, ho, hx, hk⟩ := zz_gq_i hf
  obtain ⟨⟨f1, f2, f3, f4⟩, f5, f6, f7⟩ := hF
  exact va_get (D := D) (C := C) (T := T) (N := N) X.1 X.2.1 (fun w hw => zz_w X hw) f2 X.2.2.2.2.1 X.2.2.2.2.2.2.2.2.1 (hR.1.obj ho).1 0 rfl f1 k f5 (zz_w X f6) (zz_same (args := args) (fun w hw => zz_w X hw) f7) hx hdg (kk x hk)
theorem zr_giN (X : zz_X D dA base t0 own cc nL rt l p s m meth c) (hR : zz_R D dA base h n s H locs) {index ci k N : Nat} {C host : String} {T : u_T} {ty : Nat → FieldType} (hF : zz_Fn own index ci k C T N ty host) (hdg : decode cc pc = .ok (.getfield index, 3)) {r : Option Nat} {α : Type} {K : Int32 → Option α} {o : α} (hf : zz_gi h r ci k K = some o)
    (kk : ∀ x, K x = some o → W p l e R s m args below meth c H locs cells slots Q (F0 m (pc + 3) ls (.int x :: rest))) : W p l e R s m args below meth c H locs cells slots Q (F0 m pc ls (va_rf r :: rest)) := by
  obtain ⟨a, fs, x, rfl, ho, hx, hk⟩ := zz_gi_i hf
  obtain ⟨⟨f1, f2, f3, f4⟩, f5, f6⟩ := hF
  exact va_getN (D := D) (C := C) (T := T) (N := N) X.1 X.2.1 (fun w hw => zz_w (args := args) X hw) f2 X.2.2.2.2.1 X.2.2.2.2.2.2.2.2.1 (hR.1.obj ho).1 0 rfl f1 k f5 (zz_w X f6) (fun _ z => z) hx hdg (kk x hk)
theorem zr_glN (X : zz_X D dA base t0 own cc nL rt l p s m meth c) (hR : zz_R D dA base h n s H locs) {index ci k N : Nat} {C host : String} {T : u_T} {ty : Nat → FieldType} (hF : zz_Fn own index ci k C T N ty host) (hdg : decode cc pc = .ok (.getfield index, 3)) {r : Option Nat} {α : Type} {K : Int64 → Option α} {o : α} (hf : zz_gl h r ci k K = some o)
    (kk : ∀ x, K x = some o → W p l e R s m args below meth c H locs cells slots Q (F0 m (pc + 3) ls (.long x :: rest))) : W p l e R s m args below meth c H locs cells slots Q (F0 m pc ls (va_rf r :: rest)) := by
  obtain ⟨a, fs, x, rfl, ho, hx, hk⟩ := zz_gl_i hf
  obtain ⟨⟨f1, f2, f3, f4⟩, f5, f6⟩ := hF
  exact va_getN (D := D) (C := C) (T := T) (N := N) X.1 X.2.1 (fun w hw => zz_w (args := args) X hw) f2 X.2.2.2.2.1 X.2.2.2.2.2.2.2.2.1 (hR.1.obj ho).1 0 rfl f1 k f5 (zz_w X f6) (fun _ z => z) hx hdg (kk x hk)
theorem zr_gqN (X : zz_X D dA base t0 own cc nL rt l p s m meth c) (hR : zz_R D dA base h n s H locs) {index ci k N : Nat} {C host : String} {T : u_T} {ty : Nat → FieldType} (hF : zz_Fn own index ci k C T N ty host) (hdg : decode cc pc = .ok (.getfield index, 3)) {r : Option Nat} {α : Type} {K : Option Nat → Option α} {o : α} (hf : zz_gq h r ci k K = some o)
    (kk : ∀ x, K x = some o → W p l e R s m args below meth c H locs cells slots Q (F0 m (pc + 3) ls (va_rf x :: rest))) : W p l e R s m args below meth c H locs cells slots Q (F0 m pc ls (va_rf r :: rest)) := by
  obtain ⟨a, fs, x, rfl, ho, hx, hk⟩ := zz_gq_i hf
  obtain ⟨⟨f1, f2, f3, f4⟩, f5, f6⟩ := hF
  exact va_getN (D := D) (C := C) (T := T) (N := N) X.1 X.2.1 (fun w hw => zz_w (args := args) X hw) f2 X.2.2.2.2.1 X.2.2.2.2.2.2.2.2.1 (hR.1.obj ho).1 0 rfl f1 k f5 (zz_w X f6) (fun _ z => z) hx hdg (kk x hk)
theorem zz_atset {a ci k N : Nat} {C : String} {T : u_T} {fs : List Value} {v : Value} {H1 : Heap} {cell : Cell} (hc : vwCl[ci]? = some (C, T, N)) (hl : k < fs.length) (hk : k < N) (hap : ∀ x y, x < N → y < N → x ≠ y → (D.2 ci) x ≠ (D.2 ci) y) (q2 : cell.cls = D.1 ci) (q3 : cell.vm = .none) (q4 : ∀ j, j < N → cell.slots[(D.2 ci) j]? = some (vp_V fs j)) (e1 : H1[a]? = some (cell.setSlot ((D.2 ci) k) v)) : zz_at D dA a (.inr (ci, fs.set k v)) H1 :=
  ⟨_, hc, t_OB.to (V := updV (vp_V fs) k v) ⟨_, e1, q2, q3, t_set q4 hap hk v⟩ (fun j _ => vp_updV_set hl v j)⟩
theorem zr_p (X : zz_X D dA base t0 own cc nL rt l p s m meth c) (hR : zz_R D dA base h n s H locs) {index ci k N : Nat} {C ref : String} {T : u_T} {ty : Nat → FieldType} (hF : zz_Fl own index ci k C T N ty ref) (hfin : (T k).2.2.2 = false) (hdg : decode cc pc = .ok (.putfield index, 3)) {r : Option Nat} {v : Value} (hn : narrow (ty k) v = v) (hfit : fits (ty k) v = true) {α : Type} {K : zz_H → Option α} {o : α} (hf : zz_p h r ci k v K = some o)
    (kk : ∀ (h1 : zz_H) (H1 : Heap) (locs1 : List Loc), K h1 = some o → zz_R D dA base h1 n s H1 locs1 → W p l e R s m args below meth c H1 locs1 cells slots Q (F0 m (pc + 3) ls rest)) : W p l e R s m args below meth c H locs cells slots Q (F0 m pc ls (v :: va_rf r :: rest)) := by
  obtain ⟨a, fs, rfl, ho, hl, hk⟩ := zz_p_i hf
  obtain ⟨⟨f1, f2, f3, f4⟩, f5, f6, f7⟩ := hF
  have hts : ∀ w ∈ zz_G, w.before args s = true := fun w hw => zz_w X hw
  have hK := X.2.2.2.2.2.2.2.2.1
  have hap := va_apart (own := own) hts f2 ty f3 f4 hK f1
  obtain ⟨r1, h1, cell, q1, q2, q3, q4⟩ := (hR.1.obj ho).1 0 _ rfl
  cases Option.some.inj (h1.symm.trans f1)
  obtain ⟨hS, hfc, kC, hkC, hkind⟩ := hK.1 ci _ f1
  obtain ⟨cf, kf, fi, f, hi, hsl⟩ := hS k f5
  have hlay := hts _ (f2 _ (u_in_lay f5))
  unfold u_lay at hlay
  rw [if_neg (by rw [hfin]; decide)] at hlay
  have hst := (u_facts hfc hkC (u_lays hts f2 f5) hi).1
  have h6 := u_store hfc hkC hkind hlay hi (f3 k f5) hn hfit
  refine W.putK X.1 X.2.1 (f := f) ⟨X.2.2.2.2.1, zz_w X f6, ⟨_, _, _, zz_same (args := args) hts f7 _ hi⟩, hst⟩ (by rw [q2]; exact h6) q1 q3 (by rw [hsl]; exact k2_hasslot (q4 k f5)) rfl rfl hdg fun H1 e1 e2 e3 => ?_
  rw [hsl] at e1 ⊢
  exact kk _ H1 _ hk ⟨hR.1.upd e2 e3 (zz_atset f1 hl f5 hap q2 q3 q4 e1) (hR.1.obj ho).2, hR.2.put e2 e3 (hR.1.obj ho).2⟩
theorem zr_pN (X : zz_X D dA base t0 own cc nL rt l p s m meth c) (hR : zz_R D dA base h n s H locs) {index ci k N : Nat} {C host : String} {T : u_T} {ty : Nat → FieldType} (hF : zz_Fn own index ci k C T N ty host) (hfin : (T k).2.2.2 = false) (hdg : decode cc pc = .ok (.putfield index, 3)) {r : Option Nat} {v : Value} (hn : narrow (ty k) v = v) (hfit : fits (ty k) v = true) {α : Type} {K : zz_H → Option α} {o : α} (hf : zz_p h r ci k v K = some o)
    (kk : ∀ (h1 : zz_H) (H1 : Heap) (locs1 : List Loc), K h1 = some o → zz_R D dA base h1 n s H1 locs1 → W p l e R s m args below meth c H1 locs1 cells slots Q (F0 m (pc + 3) ls rest)) : W p l e R s m args below meth c H locs cells slots Q (F0 m pc ls (v :: va_rf r :: rest)) := by
  obtain ⟨a, fs, rfl, ho, hl, hk⟩ := zz_p_i hf
  obtain ⟨⟨f1, f2, f3, f4⟩, f5, f6⟩ := hF
  have hts : ∀ w ∈ zz_G, w.before args s = true := fun w hw => zz_w X hw
  have hK := X.2.2.2.2.2.2.2.2.1
  have hap := va_apart (own := own) hts f2 ty f3 f4 hK f1
  obtain ⟨r1, h1, cell, q1, q2, q3, q4⟩ := (hR.1.obj ho).1 0 _ rfl
  cases Option.some.inj (h1.symm.trans f1)
  obtain ⟨hS, hfc, kC, hkC, hkind⟩ := hK.1 ci _ f1
  obtain ⟨cf, kf, fi, f, hi, hsl⟩ := hS k f5
  have hlay := hts _ (f2 _ (u_in_lay f5))
  unfold u_lay at hlay
  rw [if_neg (by rw [hfin]; decide)] at hlay
  have hst := (u_facts hfc hkC (u_lays hts f2 f5) hi).1
  have h6 := u_store hfc hkC hkind hlay hi (f3 k f5) hn hfit
  refine va_WputK X.1 X.2.1 (f := f) X.2.2.2.2.1 (zz_w X f6) hi hst (by rw [q2]; exact h6) q1 q3 (by rw [hsl]; exact k2_hasslot (q4 k f5)) rfl rfl hdg fun H1 e1 e2 e3 => ?_
  rw [hsl] at e1 ⊢
  exact kk _ H1 _ hk ⟨hR.1.upd e2 e3 (zz_atset f1 hl f5 hap q2 q3 q4 e1) (hR.1.obj ho).2, hR.2.put e2 e3 (hR.1.obj ho).2⟩
theorem zr_pF (X : zz_X D dA base t0 own cc nL rt l p s m meth c) (hR : zz_R D dA base h n s H locs) {index ci k N : Nat} {C ref : String} {T : u_T} {ty : Nat → FieldType} (hF : zz_Fl own index ci k C T N ty ref) (hfin : (T k).2.2.2 = true) (hin2 : meth.name = "<init>") (hdecl : (T k).1 = own) (hdg : decode cc pc = .ok (.putfield index, 3)) {r : Option Nat} {v : Value} (hn : narrow (ty k) v = v) (hfit : fits (ty k) v = true) {α : Type} {K : zz_H → Option α} {o : α} (hf : zz_p h r ci k v K = some o)
    (kk : ∀ (h1 : zz_H) (H1 : Heap) (locs1 : List Loc), K h1 = some o → zz_R D dA base h1 n s H1 locs1 → W p l e R s m args below meth c H1 locs1 cells slots Q (F0 m (pc + 3) ls rest)) : W p l e R s m args below meth c H locs cells slots Q (F0 m pc ls (v :: va_rf r :: rest)) := by
  obtain ⟨a, fs, rfl, ho, hl, hk⟩ := zz_p_i hf
  obtain ⟨⟨f1, f2, f3, f4⟩, f5, f6, f7⟩ := hF
  have hts : ∀ w ∈ zz_G, w.before args s = true := fun w hw => zz_w X hw
  have hK := X.2.2.2.2.2.2.2.2.1
  have hap := va_apart (own := own) hts f2 ty f3 f4 hK f1
  obtain ⟨r1, h1, cell, q1, q2, q3, q4⟩ := (hR.1.obj ho).1 0 _ rfl
  cases Option.some.inj (h1.symm.trans f1)
  obtain ⟨hS, hfc, kC, hkC, hkind⟩ := hK.1 ci _ f1
  obtain ⟨cf, kf, fi, f, hi, hsl⟩ := hS k f5
  have hlay := hts _ (f2 _ (u_in_lay f5))
  unfold u_lay at hlay
  rw [if_pos hfin] at hlay
  have hst := (u_facts hfc hkC (u_lays hts f2 f5) hi).1
  have hcf : m.cls = cf := by
    obtain ⟨_, _, c', _, _, _, -, -, hf', -, -, -, hown2, -⟩ := Cond.laysFinal_spec hlay
    have e1 : c' = cf := by have := hi.symm.trans hf'; simp at this; exact this.1.symm
    rw [hdecl] at hown2
    rw [← e1]; exact Option.some.inj (X.2.2.2.2.1.symm.trans hown2)
  have h6 := u_fits hfc hkC hkind (Or.inr hlay) hi (f3 k f5) hn hfit
  refine W.putFinK X.1 X.2.1 X.2.2.2.2.1 (zz_w X f6) (zz_same (args := args) hts f7 _ hi) hst hcf hin2 (by rw [q2]; exact h6) q1 q3 (by rw [hsl]; exact k2_hasslot (q4 k f5)) rfl rfl hdg fun H1 e1 e2 e3 => ?_
  rw [hsl] at e1 ⊢
  exact kk _ H1 _ hk ⟨hR.1.upd e2 e3 (zz_atset f1 hl f5 hap q2 q3 q4 e1) (hR.1.obj ho).2, hR.2.put e2 e3 (hR.1.obj ho).2⟩
/-! arrays -/
theorem zz_K1 (X : zz_X D dA base t0 own cc nL rt l p s m meth c) {t : Nat} (ht : t < 12) : va_K D vwCl [(dA t, zz_T t)] s := by
  refine ⟨X.2.2.2.2.2.2.2.2.1.1, fun k q hk => ?_⟩
  have hz : k < 1 := (List.getElem?_eq_some_iff.mp hk).1
  rw [show k = 0 by omega] at hk
  cases hk
  exact X.2.2.2.2.2.2.2.2.2.1 t ht
theorem zr_iald (X : zz_X D dA base t0 own cc nL rt l p s m meth c) (hR : zz_R D dA base h n s H locs) (hdg : decode cc pc = .ok (.iaload, 1)) {r : Option Nat} {i : Int32} {α : Type} {K : Int32 → Option α} {o : α} (hf : zz_ai 0 h r i K = some o)
    (kk : ∀ x, K x = some o → W p l e R s m args below meth c H locs cells slots Q (F0 m (pc + 1) ls (.int x :: rest))) : W p l e R s m args below meth c H locs cells slots Q (F0 m pc ls (.int i :: va_rf r :: rest)) := by
  obtain ⟨a, N, f, rfl, ho, hi, hk⟩ := zz_ai_i hf
  exact va_iald X.1 X.2.1 (zz_K1 (t := 0) X (by decide)) (hR.1.arr ho).1 0 0 rfl rfl hi hdg (kk _ hk)
theorem zr_cald (X : zz_X D dA base t0 own cc nL rt l p s m meth c) (hR : zz_R D dA base h n s H locs) (hdg : decode cc pc = .ok (.caload, 1)) {r : Option Nat} {i : Int32} {α : Type} {K : Int32 → Option α} {o : α} (hf : zz_ai 1 h r i K = some o)
    (kk : ∀ x, K x = some o → W p l e R s m args below meth c H locs cells slots Q (F0 m (pc + 1) ls (.int x :: rest))) : W p l e R s m args below meth c H locs cells slots Q (F0 m pc ls (.int i :: va_rf r :: rest)) := by
  obtain ⟨a, N, f, rfl, ho, hi, hk⟩ := zz_ai_i hf
  exact va_cald X.1 X.2.1 (zz_K1 (t := 1) X (by decide)) (hR.1.arr ho).1 0 0 rfl rfl hi hdg (kk _ hk)
theorem zr_aald (X : zz_X D dA base t0 own cc nL rt l p s m meth c) (hR : zz_R D dA base h n s H locs) {t : Nat} (ht : t < 11) (href : (zz_T t).isReference = true) (hdg : decode cc pc = .ok (.aaload, 1)) {r : Option Nat} {i : Int32} {α : Type} {K : Option Nat → Option α} {o : α} (hf : zz_aq t h r i K = some o)
    (kk : ∀ x, K x = some o → W p l e R s m args below meth c H locs cells slots Q (F0 m (pc + 1) ls (va_rf x :: rest))) : W p l e R s m args below meth c H locs cells slots Q (F0 m pc ls (.int i :: va_rf r :: rest)) := by
  obtain ⟨a, N, f, rfl, ho, hi, hk⟩ := zz_aq_i hf
  have hlt : i.toNatClampNeg < N := Nat.not_le.mp fun q => hi (Or.inr q)
  exact W.aald (v := va_rf (f i.toNatClampNeg)) (ty := zz_T t) X.1 X.2.1 ((hR.1.arr ho ht).1 0 _ rfl) ((X.2.2.2.2.2.2.2.2.2.1 t (by omega)).1 N (fun j => va_rf (f j))) href (fun q => by cases q) (by show ¬ (i < 0 ∨ (arrV _ _ _).slots.size ≤ _); rw [arrV_size]; exact hi) (by show (arrV _ _ _).slots[_]? = _; rw [arrV_read _ _ hlt]) rfl rfl hdg (kk _ hk)
theorem zr_iast (X : zz_X D dA base t0 own cc nL rt l p s m meth c) (hR : zz_R D dA base h n s H locs) (hdg : decode cc pc = .ok (.iastore, 1)) {r : Option Nat} {i x : Int32} {α : Type} {K : zz_H → Option α} {o : α} (hf : zz_si 0 h r i x K = some o)
    (kk : ∀ (h1 : zz_H) (H1 : Heap) (locs1 : List Loc), K h1 = some o → zz_R D dA base h1 n s H1 locs1 → W p l e R s m args below meth c H1 locs1 cells slots Q (F0 m (pc + 1) ls rest)) : W p l e R s m args below meth c H locs cells slots Q (F0 m pc ls (.int x :: .int i :: va_rf r :: rest)) := by
  obtain ⟨a, N, f, rfl, ho, hi, hk⟩ := zz_si_i hf
  refine W.iast X.1 X.2.1 ((hR.1.arr ho).1 0 _ rfl) ((X.2.2.2.2.2.2.2.2.2.1 0 (by decide)).1 N (fun j => .int (f j))) (fun q => by cases q) (by show ¬ (i < 0 ∨ (arrV _ _ _).slots.size ≤ _); rw [arrV_size]; exact hi) rfl rfl hdg fun H1 e z oq => ?_
  refine kk _ H1 _ hk ⟨hR.1.upd z oq ?_ ((hR.1.arr ho).2 (by decide)), hR.2.put z oq ((hR.1.arr ho).2 (by decide))⟩
  refine zz_atA (by decide) ?_
  rw [e, vp_cell_i, vp_cell_i, arrV_store]
  congr 2
  funext q
  by_cases hq : q = i.toNatClampNeg
  · subst hq; simp [updV, upd]
  · simp [updV, upd, hq]
theorem zr_cast (X : zz_X D dA base t0 own cc nL rt l p s m meth c) (hR : zz_R D dA base h n s H locs) (hdg : decode cc pc = .ok (.castore, 1)) {r : Option Nat} {i x : Int32} {α : Type} {K : zz_H → Option α} {o : α} (hf : zz_si 1 h r i (vp_nar .char x) K = some o)
    (kk : ∀ (h1 : zz_H) (H1 : Heap) (locs1 : List Loc), K h1 = some o → zz_R D dA base h1 n s H1 locs1 → W p l e R s m args below meth c H1 locs1 cells slots Q (F0 m (pc + 1) ls rest)) : W p l e R s m args below meth c H locs cells slots Q (F0 m pc ls (.int x :: .int i :: va_rf r :: rest)) := by
  obtain ⟨a, N, f, rfl, ho, hi, hk⟩ := zz_si_i hf
  refine W.cast X.1 X.2.1 ((hR.1.arr ho).1 0 _ rfl) ((X.2.2.2.2.2.2.2.2.2.1 1 (by decide)).1 N (fun j => .int (f j))) (fun q => by cases q) (by show ¬ (i < 0 ∨ (arrV _ _ _).slots.size ≤ _); rw [arrV_size]; exact hi) rfl rfl hdg fun H1 e z oq => ?_
  refine kk _ H1 _ hk ⟨hR.1.upd z oq ?_ ((hR.1.arr ho).2 (by decide)), hR.2.put z oq ((hR.1.arr ho).2 (by decide))⟩
  refine zz_atA (by decide) ?_
  rw [e, vp_cell_i, vp_cell_i, arrV_store]
  congr 2
  funext q
  by_cases hq : q = i.toNatClampNeg
  · subst hq
    simp [updV, upd, vp_nar]
    try rfl
  · simp [updV, upd, hq]
theorem zz_castable : ∀ ci, 0 < ci → ci < 9 → ∀ q, vwCl[ci]? = some q → Cond.castable q.1 "java/lang/Object" ∈ zz_G := by
  intro ci h1 h2 q hq
  match ci, h1, h2, hq with
  | 0, h1, _, _ => exact absurd h1 (by decide)
  | 1, _, _, hq => cases hq; exact q_1034
  | 2, _, _, hq => cases hq; exact q_1028
  | 3, _, _, hq => cases hq; exact q_1027
  | 4, _, _, hq => cases hq; exact q_1029
  | 5, _, _, hq => cases hq; exact q_1021
  | 6, _, _, hq => cases hq; exact q_1022
  | 7, _, _, hq => cases hq; exact q_1033
  | 8, _, _, hq => cases hq; exact q_1025
  | k + 9, _, h2, _ => exact absurd h2 (by omega)
theorem zr_aast (X : zz_X D dA base t0 own cc nL rt l p s m meth c) (hR : zz_R D dA base h n s H locs) (hdg : decode cc pc = .ok (.aastore, 1)) {r x : Option Nat} {i : Int32} {α : Type} {K : zz_H → Option α} {o : α} (hf : zz_sq 5 h r i x K = some o)
    (kk : ∀ (h1 : zz_H) (H1 : Heap) (locs1 : List Loc), K h1 = some o → zz_R D dA base h1 n s H1 locs1 → W p l e R s m args below meth c H1 locs1 cells slots Q (F0 m (pc + 1) ls rest)) : W p l e R s m args below meth c H locs cells slots Q (F0 m pc ls (va_rf x :: .int i :: va_rf r :: rest)) := by
  obtain ⟨a, N, f, rfl, ho, hi, hx, hk⟩ := zz_sq_i hf
  have hlt : i.toNatClampNeg < N := Nat.not_le.mp fun q => hi (Or.inr q)
  have h0 : ¬ i < 0 := fun q => hi (Or.inl q)
  have key : ∀ (H1 : Heap), H1[a]? = some ((vp_cell (dA 5) (N, .inr (.inr (.inr (.inr f))))).setSlot i.toNatClampNeg (va_rf x)) → H1.size = H.size → (∀ q, q ≠ a → H1[q]? = H[q]?) → zz_R D dA base (zz_u h a (zz_Q 5 N (va_up f i.toNatClampNeg x))) n s H1 (locs ++ [⟨a, i.toNatClampNeg⟩]) := by
    intro H1 e z oq
    refine ⟨hR.1.upd z oq ?_ ((hR.1.arr ho).2 (by decide)), hR.2.put z oq ((hR.1.arr ho).2 (by decide))⟩
    refine zz_atA (by decide) ?_
    rw [e, vp_cell_q, vp_cell_q, arrV_store]
    congr 2
    funext q
    by_cases hq : q = i.toNatClampNeg
    · subst hq; simp [updV, va_up]
    · simp [updV, va_up, hq]
  rcases hx with rfl | ⟨v, ci, fs, rfl, hv, c1, c2⟩
  · exact va_WaastN (C := "java/lang/Object") X.1 X.2.1 ((hR.1.arr ho).1 0 _ rfl) ((X.2.2.2.2.2.2.2.2.2.1 5 (by decide)).1 N (fun j => va_rf (f j))) (fun q => by cases q) (by show ¬ (i < 0 ∨ (arrV _ _ _).slots.size ≤ _); rw [arrV_size]; exact hi) rfl rfl hdg fun H1 e z oq => kk _ H1 _ hk (key H1 e z oq)
  · obtain ⟨r', hr', cellV, g1, g2, g3, -⟩ := (hR.1.obj hv).1 0 _ rfl
    have hcls := (X.2.2.2.2.2.2.2.2.1.1 ci r' hr').2
    obtain ⟨kA, comp, k1, k2, k3, -⟩ : ∃ (kA : Class) (comp : ClassId), s.vm.classes[dA 5]? = some kA ∧ kA.kind = .array comp (.object "java/lang/Object") ∧ s.vm.findClass "java/lang/Object" = some comp ∧ s.vm.findClass ("[" ++ (FieldType.object "java/lang/Object").toString) = some (dA 5) := (X.2.2.2.2.2.2.2.2.2.1 5 (by decide)).2
    obtain ⟨kE, hkE, -⟩ := Vm.findClass_spec k3
    obtain ⟨c0, t1, f1, f2, f3⟩ := Cond.castable_spec (zz_w (args := args) X (zz_castable ci c1 c2 r' hr'))
    cases hcls.1.symm.trans f1
    cases k3.symm.trans f2
    obtain ⟨kC, hkC, -⟩ := hcls.2
    exact W.aast X.1 X.2.1 ((hR.1.arr ho).1 0 _ rfl) (fun q z => by cases z) (fun z => by cases z) k1 k2 rfl hkE ⟨h0, by show _ < (arrV _ _ _).slots.size; rw [arrV_size]; exact hlt⟩ g1 (fun q z => by rw [g3] at z; cases z) (by rw [g2]; exact hkC) (by rw [g2]; exact f3) rfl rfl hdg fun H1 e z oq => kk _ H1 _ hk (key H1 e z oq)
theorem zz_A12 (X : zz_X D dA base t0 own cc nL rt l p s m meth c) : ArrOfT s (dA 12) .int := X.2.2.2.2.2.2.2.2.2.2.2.2.2.2.2.2
/-- a number of the script -/
theorem zr_iald12 (X : zz_X D dA base t0 own cc nL rt l p s m meth c) (hR : zz_R D dA base h n s H locs) (hdg : decode cc pc = .ok (.iaload, 1)) {r : Option Nat} {i : Int32} {α : Type} {K : Int32 → Option α} {o : α} (hf : zz_ai 12 h r i K = some o)
    (kk : ∀ x, K x = some o → W p l e R s m args below meth c H locs cells slots Q (F0 m (pc + 1) ls (.int x :: rest))) : W p l e R s m args below meth c H locs cells slots Q (F0 m pc ls (.int i :: va_rf r :: rest)) := by
  obtain ⟨a, N, f, rfl, ho, hi, hk⟩ := zz_ai_i hf
  obtain ⟨cell, g1, g2, g3, g4, g6⟩ := (hR.1.2.2 a _ ho).1.2 (by show ¬ (12 : Nat) < 11; decide)
  obtain ⟨g7, g8, g9⟩ := g6 rfl
  have g5 : s.isArrayOf cell .int := by
    obtain ⟨-, k, k1, k2⟩ := zz_A12 X 0 (fun _ => .null)
    exact ⟨g3, k, by rw [g2]; exact k1, k2⟩
  have hlt : i.toNatClampNeg < N := Nat.not_le.mp fun q => hi (Or.inr q)
  have g8 : cell.slots.size = N := g8
  exact W.iald (v := .int (f i.toNatClampNeg)) X.1 X.2.1 g1 g5 g7 (by rw [g8]; exact hi) (g9 f rfl _ hlt) rfl rfl hdg (kk _ hk)
theorem zr_alen (X : zz_X D dA base t0 own cc nL rt l p s m meth c) (hR : zz_R D dA base h n s H locs) (hdg : decode cc pc = .ok (.arraylength, 1)) {r : Option Nat} {α : Type} {K : Int32 → Option α} {o : α} (hf : zz_len h r K = some o)
    (kk : ∀ x, K x = some o → W p l e R s m args below meth c H locs cells slots Q (F0 m (pc + 1) ls (.int x :: rest))) : W p l e R s m args below meth c H locs cells slots Q (F0 m pc ls (va_rf r :: rest)) := by
  obtain ⟨a, t, N, y, rfl, ho, ht, hk⟩ := zz_len_i hf
  by_cases h11 : t < 11
  · exact va_alen X.1 X.2.1 (zz_K1 (t := t) X (by omega)) (hR.1.arr ho h11).1 0 0 rfl rfl rfl hdg (kk _ hk)
  · obtain ⟨cell, g1, g2, g3, g4, -⟩ := (hR.1.2.2 a _ ho).1.2 h11
    by_cases h12 : t = 12
    · subst h12
      have g5 : s.isArrayOf cell .int := by
        obtain ⟨-, k, k1, k2⟩ := zz_A12 X 0 (fun _ => .null)
        exact ⟨g3, k, by rw [g2]; exact k1, k2⟩
      exact W.alen X.1 X.2.1 g1 g5 g4 rfl rfl hdg (kk _ hk)
    · have e11 : t = 11 := by omega
      subst e11
      have g5 : s.isArrayOf cell (zz_T 11) := by
        obtain ⟨-, k, k1, k2⟩ := (X.2.2.2.2.2.2.2.2.2.1 11 (by decide)).1 0 (fun _ => .null)
        exact ⟨g3, k, by rw [g2]; exact k1, k2⟩
      exact W.alen X.1 X.2.1 g1 g5 g4 rfl rfl hdg (kk _ hk)
/-! new cells -/
theorem zr_new (X : zz_X D dA base t0 own cc nL rt l p s m meth c) (hR : zz_R D dA base h n s H locs) {ci N index : Nat} {C : String} {T : u_T} {ty : Nat → FieldType} (hC : zz_Cl ci C T N ty) (hcl : Cond.classLink own index C ∈ zz_G) (hinst : Cond.instantiable C N ∈ zz_G) (hini : Cond.initialized C ∈ zz_G) {fs : List Value} (hfs : ∀ j, j < N → defaultValue (ty j) = vp_V fs j) (hcells : cells + 1 ≤ R.cells) (hslots : slots + N ≤ R.slots) (hdg : decode cc pc = .ok (.new index, 3))
    (kk : ∀ (H1 : Heap), zz_R D dA base (zz_u h n (.inr (ci, fs))) (n + 1) s H1 locs → W p l e R s m args below meth c H1 locs (cells + 1) (slots + N) Q (F0 m (pc + 3) ls (.ref n :: rest))) : W p l e R s m args below meth c H locs cells slots Q (F0 m pc ls rest) := by
  obtain ⟨f1, f2, f3, f4⟩ := hC
  have hts : ∀ w ∈ zz_G, w.before args s = true := fun w hw => zz_w X hw
  have hKn := X.2.2.2.2.2.2.2.2.1.1 ci _ f1
  refine W.newcK X.1 X.2.1 X.2.2.2.2.1 (hts _ hcl) (hts _ hinst) (hts _ hini) rfl hdg hcells hslots hKn.2.1 hR.1.1 fun H1 kC hkC e1 z1 o1 => ?_
  refine kk H1 ⟨hR.1.new z1 o1 ⟨_, f1, (u_born ty hts f2 hKn hkC e1 f3).to hfs⟩, ?_⟩
  have hz : s.heap.size ≤ n := by rw [← hR.1.1]; exact hR.2.1
  exact ⟨by omega, fun x h1 h2 => (o1 x (Nat.lt_of_lt_of_le h1 hz)).trans (hR.2.2.1 x h1 h2), hR.2.2.2⟩
theorem zr_newa (X : zz_X D dA base t0 own cc nL rt l p s m meth c) (hR : zz_R D dA base h n s H locs) {atype : ArrayType} {t : Nat} (ht : t < 11) (hty : newarray.typeOf atype = zz_T t) (harr : Cond.arrayClass (zz_T t) ∈ zz_G) (hnm : ∀ cA, va_RA s cA (zz_T t) → s.vm.findClass ("[" ++ (zz_T t).toString) = some cA) {k : Int32} {N : Nat} {a0 : vp_A} (ha : ∀ cA : ClassId, vp_cell cA a0 = arrV cA N (fun _ => defaultValue (zz_T t))) (hn : ¬ k < 0) (hN : k.toNatClampNeg = N) (hbytes : N * componentBytes (zz_T t) ≤ 536870912) (hcells : cells + 1 ≤ R.cells) (hslots : slots + N ≤ R.slots) (hdg : decode cc pc = .ok (.newarray atype, 2))
    (kk : ∀ (H1 : Heap), zz_R D dA base (zz_u h n (.inl (t, a0))) (n + 1) s H1 locs → W p l e R s m args below meth c H1 locs (cells + 1) (slots + N) Q (F0 m (pc + 2) ls (.ref n :: rest))) : W p l e R s m args below meth c H locs cells slots Q (F0 m pc ls (.int k :: rest)) := by
  have hts : ∀ w ∈ zz_G, w.before args s = true := fun w hw => zz_w X hw
  refine va_newaK X.1 X.2.1 (by rw [hty]; exact hts _ harr) rfl hdg rfl hn hN (by rw [hty]; exact hbytes) hcells hslots hR.1.1 fun H1 cA e1 z1 o1 hAr hNm => ?_
  rw [hty] at e1 hNm
  have hcA : dA t = cA := Option.some.inj ((hnm _ (X.2.2.2.2.2.2.2.2.2.1 t (by omega)).2).symm.trans hNm)
  refine kk H1 ⟨hR.1.new z1 o1 ?_, ?_⟩
  · refine zz_atA ht ?_
    rw [hcA, ha]
    exact e1
  have hz : s.heap.size ≤ n := by rw [← hR.1.1]; exact hR.2.1
  exact ⟨by omega, fun x h1 h2 => (o1 x (Nat.lt_of_lt_of_le h1 hz)).trans (hR.2.2.1 x h1 h2), hR.2.2.2⟩
theorem zz_over1 (X : zz_X D dA base t0 own cc nL rt l p s m meth c) : (Cond.arrayOver (.object "java/lang/Object")).before args s = true := by
  obtain ⟨-, -, -, -, -, -, -, -, -, -, -, -, -, -, -, h, -⟩ := X
  have h1 : va_AO "java/lang/Object" s := h _ (List.mem_of_getElem? (i := 0) rfl)
  exact va_AO.use h1
theorem zz_ra5 (X : zz_X D dA base t0 own cc nL rt l p s m meth c) : s.vm.findClass ("[" ++ (FieldType.object "java/lang/Object").toString) = some (dA 5) := by
  have h : va_RA s (dA 5) (.object "java/lang/Object") := (X.2.2.2.2.2.2.2.2.2.1 5 (by decide)).2
  obtain ⟨kA, comp, k1, k2, k3, k4⟩ := h
  exact k4
theorem zr_anew (X : zz_X D dA base t0 own cc nL rt l p s m meth c) (hR : zz_R D dA base h n s H locs) {index : Nat} (hcl : Cond.classLink own index "java/lang/Object" ∈ zz_G) {k : Int32} {N : Nat} (hn : ¬ k < 0) (hN : k.toNatClampNeg = N) (hbytes : N * 4 ≤ 536870912) (hcells : cells + 1 ≤ R.cells) (hslots : slots + N ≤ R.slots) (hdg : decode cc pc = .ok (.anewarray index, 3))
    (kk : ∀ (H1 : Heap), zz_R D dA base (zz_u h n (zz_Q 5 N (fun _ => none))) (n + 1) s H1 locs → W p l e R s m args below meth c H1 locs (cells + 1) (slots + N) Q (F0 m (pc + 3) ls (.ref n :: rest))) : W p l e R s m args below meth c H locs cells slots Q (F0 m pc ls (.int k :: rest)) := by
  subst hN
  have hov := zz_over1 (args := args) X
  have k4 := zz_ra5 X
  obtain ⟨⟨hz0, hz1, hz2⟩, hS⟩ := hR
  refine W.anew X.1 X.2.1 X.2.2.2.2.1 (zz_w X hcl) hov rfl hdg rfl hn hbytes hcells hslots fun cA kA comp f1 f2 f3 f4 => ?_
  generalize hH1 : H.push ({ cls := cA, slots := Array.replicate k.toNatClampNeg .null, vm := .none } : Cell) = H1
  have z1 : H1.size = n + 1 := by rw [← hH1, Array.size_push, hz0]
  have e1 : H1[n]? = some (arrV cA k.toNatClampNeg (fun _ => .null)) := by rw [← hH1, ← hz0, Array.getElem?_push_size, ← arrV_new]
  have o1 : ∀ q : Nat, q < n → H1[q]? = H[q]? := fun q hq => by rw [← hH1, Array.getElem?_push, if_neg (by rw [hz0]; exact Nat.ne_of_lt hq)]
  have hcA : dA 5 = cA := Option.some.inj (k4.symm.trans f1)
  have hat : zz_at D dA n (zz_Q 5 k.toNatClampNeg (fun _ => none)) H1 := by
    refine zz_atA (by decide) ?_
    rw [hcA, vp_cell_q]
    exact e1
  have hz : s.heap.size ≤ n := by rw [← hz0]; exact hS.1
  have hfin := kk H1 ⟨zz_P.new ⟨hz0, hz1, hz2⟩ z1 o1 hat, ⟨by omega, fun x h1 h2 => (o1 x (Nat.lt_of_lt_of_le h1 hz)).trans (hS.2.1 x h1 h2), hS.2.2⟩⟩
  rw [← hz0] at hfin
  exact hfin
/-! statics, casts -/
theorem zr_gets (X : zz_X D dA base t0 own cc nL rt l p s m meth c) (hR : zz_R D dA base h n s H locs) {index : Nat} (hlink : Cond.fieldLink own index "java/util/ArrayList" "DEFAULTCAPACITY_EMPTY_ELEMENTDATA" "[Ljava/lang/Object;" ∈ zz_G) (hdg : decode cc pc = .ok (.getstatic index, 3))
    (kk : W p l e R s m args below meth c H locs cells slots Q (F0 m (pc + 3) ls (.ref t0 :: rest))) : W p l e R s m args below meth c H locs cells slots Q (F0 m pc ls rest) :=
  va_gets X.1 X.2.1 X.2.2.2.2.2.2.2.2.2.2.2.1 hR.2 X.2.2.2.2.1 (zz_w X hlink) (fun _ z => z) hdg kk
theorem zr_cc (X : zz_X D dA base t0 own cc nL rt l p s m meth c) (hR : zz_R D dA base h n s H locs) {index ci N : Nat} {C : String} {T : u_T} (hc : vwCl[ci]? = some (C, T, N)) (hlink : Cond.classLink own index C ∈ zz_G) (hself : Cond.castable C C ∈ zz_G ∨ True) (hdg : decode cc pc = .ok (.checkcast index, 3)) {r : Option Nat} {α : Type} {K : Option α} {o : α} (hf : zz_cc h r ci K = some o)
    (kk : K = some o → W p l e R s m args below meth c H locs cells slots Q (F0 m (pc + 3) ls (va_rf r :: rest))) : W p l e R s m args below meth c H locs cells slots Q (F0 m pc ls (va_rf r :: rest)) := by
  obtain ⟨hk, rfl | ⟨a, fs, rfl, ho⟩⟩ := zz_cc_i hf
  · exact lv_castN X.1 X.2.1 hdg (kk hk)
  · have hKn := X.2.2.2.2.2.2.2.2.1.1 ci _ hc
    obtain ⟨cell, g1, g2, g3⟩ := va_recv X.2.2.2.2.2.2.2.2.1 (hR.1.obj ho).1 hc (q0 := 0) rfl
    exact va_castS X.1 X.2.1 X.2.2.2.2.1 (zz_w X hlink) hKn.2 ⟨cell, g1, g2, g3⟩ hdg (kk hk)
end ZZC
