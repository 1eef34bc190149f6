section ZZP
/-! rows for the law's own methods: they catch what the class throws; how large the heap is behind a throw is not known -/
variable {p : Program} {l : Launch} {e : Env} {R : Room} {s : State} {m : MethodId} {args : Array Value} {below : List Frame} {meth : Method} {c : Code} {H : Heap} {locs : List Loc} {cells slots : Nat} {Q : State → Prop}
variable {D : va_G} {dA : Nat → ClassId} {base t0 : Nat} {own : String} {cc : ByteArray} {nL : Nat} {rt : Option FieldType} {h : zz_H} {n pc : Nat} {ls : Array Slot} {rest : List Value} {mc ms : Nat}
def zz_N (U : State) : Prop := ∀ i j : Nat, i < 5 → j < 5 → i ≠ j → va_Nc (zz_E i) (zz_E j) U
theorem zz_N.go {U : State} (hW : s.WarmedH U.vm) (h : zz_N s) : zz_N U := fun i j a b c => (h i j a b c).moved hW.alike
def zz_PL (D : va_G) (dA : Nat → ClassId) (base t0 : Nat) (h : zz_H) (n : Nat) (av : List Value) : Array Value → State → Prop := va_Pc av (fun U => zz_P D dA base h n U.heap ∧ zz_K D dA base t0 U ∧ zz_N U)
theorem zz_blindL {av : List Value} : FrameBlind (zz_PL D dA base t0 h n av) := by
  intro a U g mk q
  obtain ⟨q1, q2, q3, q4⟩ := q
  have hW : U.WarmedH (U.calling g mk a).vm := State.WarmedH.refl U
  exact ⟨q1, q2, zz_K.go (locs := []) hW va_S.rf q3, q4.go hW⟩
def zz_QL (D : va_G) (dA : Nat → ClassId) (base : Nat) (r : Int32) (h : zz_H) (n : Nat) : Array Value → State → Outcome → State → Prop := fun _ st o t => o = .returned (some (.int r)) ∧ zz_Pg D dA base h n t.heap ∧ va_F (fun q => base ≤ q) st t
def zz_ML (D : va_G) (dA : Nat → ClassId) (base t0 : Nat) (l : Launch) (y : MethodName) (bytes : ByteArray) (maxL : Nat) (hh : List (Nat × Nat × Nat × Nat)) (rm : Room) (av : List Value) (h : zz_H) (n : Nat) (r : Int32) (h' : zz_H) (n' : Nat) : Prop :=
  Met l y [.codeWith y bytes maxL (some .int) hh] rm (zz_PL D dA base t0 h n av) (zz_QL D dA base r h' n') rm.cells rm.slots (fun q => base ≤ q)
theorem zz_ofH {y : MethodName} {ws ws' : List Cond} {rm : Room} {Pc : Array Value → State → Prop} {Qc : Array Value → State → Outcome → State → Prop} {free : Addr → Prop} {maxL : Nat} {ret : Option FieldType} {hh : List (Nat × Nat × Nat × Nat)}
    (hy : plainName y.cls = true) (hw : ws = Cond.codeWith y cc maxL ret hh :: ws')
    (body : ∀ p e s m args below meth c s₁, BodyLoose p l y (headSpec ws rm) cc maxL ret e s m args below meth c s₁ → c.maxLocals = maxL → c.exceptionTable.toList = tableOf hh → Pc args s →
      W p l e (headSpec ws rm).room s m args below meth c s.heap [] 0 0 (MQ below Qc args s mc ms free) (entryFrame m args maxL)) : Met l y ws rm Pc Qc mc ms free := by
  refine MetFree.of_bodyS (code := cc) (maxLocals := maxL) (ret := ret) hy (fun args s m h hn => ?_) (fun p e s m args below meth c s₁ B hml hP _ => ?_)
  · obtain ⟨m9, meth, c, hn9, h1, h2, h3, h4, -, h5, h6, -⟩ := Cond.codeWith_spec (atoms_spec (ws := ws) h _ (by rw [hw]; exact List.mem_cons_self))
    cases hn.symm.trans hn9
    exact ⟨meth, c, h1, h2, h3, h4, h5, h6⟩
  · have hh0 : s₁.heap = s.heap := by rw [B.state]; rfl
    obtain ⟨t, a1, o, b1, b2, b3⟩ := body p e s m args below meth c s₁ B hml (vx_table (x := y) B (atoms_spec (ws := ws) B.pre _ (by rw [hw]; exact List.mem_cons_self))) hP s₁ hh0 (Stand.of_body B)
    exact ⟨t, o, a1, b1, b2, ⟨b3.1, b3.2⟩⟩
theorem zl_iret (X : zz_X D dA base t0 own cc nL (some .int) l p s m meth c) {n' : Nat} (hR : zz_R D dA base h n' s H locs) (hn : n ≤ n') {v : Int32} (hdg : decode cc pc = .ok (.ireturn, 1)) (hc : cells ≤ mc) (hs : slots ≤ ms) : W p l e R s m args below meth c H locs cells slots (MQ below (zz_QL D dA base v h n) args s mc ms (fun q => base ≤ q)) (F0 m pc ls [.int v]) :=
  W.widen hc hs (W.iret X.1 X.2.1 X.2.2.2.1 (fun t ht hW => ⟨rfl, ⟨n', hn, by rw [ht]; exact hR.1⟩, hR.2.F ht⟩) hR.2.2.2 hdg X.2.2.2.2.2.1)
section Callee
variable {y : MethodName} {bytes : ByteArray} {maxL index : Nat} {rt' : Option FieldType} {rm : Room} {As : List Value} {h' : zz_H} {n' : Nat} {st : List Value}
/-- a call that returns; one that throws -/
theorem zl_V (X : zz_X D dA base t0 own cc nL rt l p s m meth c) (hR : zz_R D dA base h n s H locs) (hls : ls.size = nL) {b ci N : Nat} {C : String} {T : u_T} {fs : List Value} {ro : Option Value} (hM : zz_MX D dA base t0 l y bytes maxL rt' rm (.ref b :: As) h n (.inl ro) h' n') (hc : vwCl[ci]? = some (C, T, N)) (ho : h b = some (.inr (ci, fs))) (hf : zz_Mf y bytes maxL rt' As.length) (hlink : Cond.methodLink own index y ∈ zz_G) (hin : Cond.instanceMethod y ∈ zz_G) (hsel : Cond.selects C y y ∈ zz_G) (hrm : rm.frames + 1 ≤ R.frames ∧ 8 + (maxL + 11) + rm.locals ≤ R.locals) (hmem : cells + rm.cells ≤ R.cells ∧ slots + rm.slots ≤ R.slots) (hst : st = As.reverse ++ .ref b :: rest) (hlen : rest.length ≤ 4) (hdg : decode cc pc = .ok (.invokevirtual index, 3))
    (kk : ∀ (H1 : Heap) (locs1 : List Loc), zz_R D dA base h' n' s H1 locs1 → W p l e R s m args below meth c H1 locs1 (cells + rm.cells) (slots + rm.slots) Q (F0 m (pc + 3) ls (ro.toList ++ rest))) : W p l e R s m args below meth c H locs cells slots Q (F0 m pc ls st) :=
  zx_after (vx_runV (As := As) (rest := rest) (Ts := zz_G) ⟨X.1, X.2.1, X.2.2.1, X.2.2.2.2.1, fun w hw => zz_w X hw⟩ hM ⟨zz_cb X hf hlink hrm, zz_w X hin, zz_w X hsel⟩ (zz_prev X hR hc ho) rfl rfl hls hst (lv_room (zz_room hlen)) hdg hmem) hR (fun ro' e => by cases e; exact kk) (fun k e => by cases e)
theorem zl_X (X : zz_X D dA base t0 own cc nL rt l p s m meth c) (hR : zz_R D dA base h n s H locs) (hls : ls.size = nL) {b ci N : Nat} {C : String} {T : u_T} {fs : List Value} {k : Nat} (hM : zz_MX D dA base t0 l y bytes maxL rt' rm (.ref b :: As) h n (.inr k) h' n') (hc : vwCl[ci]? = some (C, T, N)) (ho : h b = some (.inr (ci, fs))) (hf : zz_Mf y bytes maxL rt' As.length) (hlink : Cond.methodLink own index y ∈ zz_G) (hin : Cond.instanceMethod y ∈ zz_G) (hsel : Cond.selects C y y ∈ zz_G) (hrm : rm.frames + 1 ≤ R.frames ∧ 8 + (maxL + 11) + rm.locals ≤ R.locals) (hmem : cells + rm.cells ≤ R.cells ∧ slots + rm.slots ≤ R.slots) (hst : st = As.reverse ++ .ref b :: rest) (hlen : rest.length ≤ 4) (hdg : decode cc pc = .ok (.invokevirtual index, 3))
    (kx : ∀ (H1 : Heap) (locs1 : List Loc) (n1 : Nat) (ce : Cell) (q : Addr), n' ≤ n1 → zz_R D dA base h' n1 s H1 locs1 → H1[q]? = some ce → ce.vm = .none → s.vm.findClass (zz_E k) = some ce.cls → vx_W p l e R s m args below meth c H1 locs1 (cells + rm.cells) (slots + rm.slots) Q (F0 m pc ls rest) q) : W p l e R s m args below meth c H locs cells slots Q (F0 m pc ls st) :=
  zx_after (vx_runV (As := As) (rest := rest) (Ts := zz_G) ⟨X.1, X.2.1, X.2.2.1, X.2.2.2.2.1, fun w hw => zz_w X hw⟩ hM ⟨zz_cb X hf hlink hrm, zz_w X hin, zz_w X hsel⟩ (zz_prev X hR hc ho) rfl rfl hls hst (lv_room (zz_room hlen)) hdg hmem) hR (fun ro' e => by cases e) (fun k' e => by cases e; exact kx)
end Callee
/-- the handler that takes it -/
theorem zl_catch (X : zz_X D dA base t0 own cc nL rt l p s m meth c) (hN : zz_N s) {hh : List (Nat × Nat × Nat × Nat)} (hE : c.exceptionTable.toList = tableOf hh) {k : Nat} {ce : Cell} {q : Addr} (pre suf : List (Nat × Nat × Nat × Nat)) (x : Nat × Nat × Nat × Nat) (hsplit : hh = pre ++ x :: suf) (hk : k < 5)
    (hpre : ∀ z ∈ pre, z.2.2.2 ≠ 0 ∧ ∃ j, j < 5 ∧ k ≠ j ∧ Cond.classLink own z.2.2.2 (zz_E j) ∈ zz_G) (hx : covers ⟨x.1, x.2.1, x.2.2.1, x.2.2.2⟩ pc = true) (h0 : x.2.2.2 ≠ 0) (hlink : Cond.classLink own x.2.2.2 (zz_E k) ∈ zz_G) (hcast : Cond.castable (zz_E k) (zz_E k) ∈ zz_G)
    (hcell : H[q]? = some ce) (hv : ce.vm = .none) (hcl : s.vm.findClass (zz_E k) = some ce.cls) (kk : W p l e R s m args below meth c H locs cells slots Q (F0 m x.2.2.1 ls [.ref q])) : vx_W p l e R s m args below meth c H locs cells slots Q (F0 m pc ls rest) q := by
  refine vx_catch (E := zz_E k) (name := zz_E k) X.2.2.2.2.1 (tableOf pre) ⟨x.1, x.2.1, x.2.2.1, x.2.2.2⟩ (tableOf suf) (by rw [hE, hsplit]; simp [tableOf]) (fun z hz => ?_) hx h0 (zz_w X hlink) (zz_w X hcast) hcell hv hcl kk
  obtain ⟨z', hz', rfl⟩ := List.mem_map.mp hz
  obtain ⟨a1, j, hj, hkj, hl⟩ := hpre z' hz'
  exact Or.inr ⟨a1, zz_E j, zz_w X hl, hN k j hk hj hkj⟩
/-- a call of one of them -/
theorem zl_cS {y : MethodName} {bytes : ByteArray} {maxL index : Nat} {hh : List (Nat × Nat × Nat × Nat)} {rm : Room} {As : List Value} {h' : zz_H} {n' : Nat} {st : List Value} {r : Int32} (X : zz_X D dA base t0 own cc nL rt l p s m meth c) (hN : zz_N s) (hR : zz_R D dA base h n s H locs) (hls : ls.size = nL) (hM : zz_ML D dA base t0 l y bytes maxL hh rm As h n r h' n') (hcode : Cond.codeWith y bytes maxL (some .int) hh ∈ zz_G) (hini : Cond.initialized y.cls ∈ zz_G) (hd : y.cls ≠ "java/lang/invoke/MethodHandle" ∧ y.cls ≠ "java/lang/invoke/VarHandle" ∧ (parseMethodDescriptor y.desc).map (fun d => d.parameters.length) = some As.length)
    (hlink : Cond.methodLink own index y ∈ zz_G) (hstat : Cond.static y ∈ zz_G) (hrm : rm.frames + 1 ≤ R.frames ∧ 8 + (maxL + 11) + rm.locals ≤ R.locals) (hmem : cells + rm.cells ≤ R.cells ∧ slots + rm.slots ≤ R.slots) (hst : st = As.reverse ++ rest) (hlen : rest.length ≤ 4) (hdg : decode cc pc = .ok (.invokestatic index, 3))
    (kk : ∀ (n1 : Nat) (H1 : Heap) (locs1 : List Loc), n' ≤ n1 → zz_R D dA base h' n1 s H1 locs1 → W p l e R s m args below meth c H1 locs1 (cells + rm.cells) (slots + rm.slots) Q (F0 m (pc + 3) ls (.int r :: rest))) : W p l e R s m args below meth c H locs cells slots Q (F0 m pc ls st) := by
  have hr := vx_runSW (p := p) (s := s) (args := args) (R := R) (As := As) (rest := rest) (Ts := zz_G) (g := F0 m pc ls st) (H := H) (locs := locs) (cells := cells) (slots := slots) (e := e) (below := below) (meth := meth) ⟨X.1, X.2.1, X.2.2.1, X.2.2.2.2.1, fun w hw => zz_w X hw⟩ hM
    (vx_cwSW (R := R) (Ts := zz_G) (ws := [.codeWith y bytes maxL (some .int) hh]) As.length (fun w hw => zz_w X hw) (fun w hw => by
      simp only [va_wsS, List.mem_append, List.mem_cons, List.not_mem_nil, or_false, false_or] at hw
      rcases hw with hw | hw
      · rcases hw with rfl | rfl | rfl <;> first | exact ⟨hlink, good_of_word rfl⟩ | exact ⟨hstat, good_of_word rfl⟩ | exact ⟨hini, good_of_word rfl⟩
      · subst hw; exact ⟨hcode, good_of_word rfl⟩) rfl rfl rfl hd hrm)
    ⟨zz_blindL, fun U hU hW => ⟨rfl, by rw [hU]; exact hR.1, zz_K.go (locs := locs) hW (by rw [hU]; exact hR.2) X.2.2.2.2.2.2.2.2, hN.go hW⟩⟩ rfl rfl hls hst (lv_room (zz_room hlen)) hdg hmem
  intro T hT X'
  obtain ⟨v, st₀, t, T', L, h0, X'', hL, e1, e2, ⟨hv, ⟨n1, hn1, hp⟩, hF⟩, st⟩ := hr T hT X'
  have hv : v = some (.int r) := by cases hv; rfl
  subst hv
  obtain ⟨hz, hk⟩ := hF
  rw [h0] at hz hk
  rw [← e1] at hz hk hp
  obtain ⟨t2, a1, b1⟩ := kk n1 T'.heap (locs ++ L) hn1 ⟨hp, zz_trans hR.2 hz hk hL⟩ T' rfl X''
  exact ⟨t2, st t2 a1, b1⟩
end ZZP
