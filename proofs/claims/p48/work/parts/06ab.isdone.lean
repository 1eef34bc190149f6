section ZID
/-! isDone: it calls one of the law's own that catch -/
variable {p : Program} {l : Launch} {e : Env} {R : Room} {s : State} {m : MethodId} {args : Array Value} {below : List Frame} {meth : Method} {c : Code} {H : Heap} {locs : List Loc} {cells slots : Nat} {Q : State → Prop}
variable {D : va_G} {dA : Nat → ClassId} {base t0 : Nat} {own : String} {cc : ByteArray} {nL : Nat} {rt : Option FieldType} {h : zz_H} {n pc : Nat} {ls : Array Slot} {rest : List Value} {mc ms : Nat}
def zz_MD (D : va_G) (dA : Nat → ClassId) (base t0 : Nat) (l : Launch) (y : MethodName) (bytes : ByteArray) (maxL : Nat) (rt : Option FieldType) (rm : Room) (av : List Value) (h : zz_H) (n : Nat) (r : Int32) (h' : zz_H) (n' : Nat) : Prop :=
  Met l y [.code y bytes maxL rt] rm (zz_PL D dA base t0 h n av) (zz_QL D dA base r h' n') rm.cells rm.slots (fun q => base ≤ q)
theorem zl_zret {ty : FieldType} (X : zz_X D dA base t0 own cc nL (some ty) l p s m meth c) {n' : Nat} (hR : zz_R D dA base h n' s H locs) (hnn : n ≤ n') {v : Int32} (hn : narrow ty (.int v) = .int v) (hdg : decode cc pc = .ok (.ireturn, 1)) (hc : cells ≤ mc) (hs : slots ≤ ms) : W p l e R s m args below meth c H locs cells slots (MQ below (zz_QL D dA base v h n) args s mc ms (fun q => base ≤ q)) (F0 m pc ls [.int v]) :=
  W.widen hc hs (W.zret X.1 X.2.1 X.2.2.2.1 hn (fun t ht hW => ⟨rfl, ⟨n', hnn, by rw [ht]; exact hR.1⟩, hR.2.F ht⟩) hR.2.2.2 hdg X.2.2.2.2.2.1)
theorem zl_cD {y : MethodName} {bytes : ByteArray} {maxL index : Nat} {rt' : Option FieldType} {rm : Room} {As : List Value} {h' : zz_H} {n' : Nat} {st : List Value} {r : Int32} (X : zz_X D dA base t0 own cc nL rt l p s m meth c) (hN : zz_N s) (hR : zz_R D dA base h n s H locs) (hls : ls.size = nL) (hM : zz_MD D dA base t0 l y bytes maxL rt' rm As h n r h' n') (hcode : Cond.code y bytes maxL rt' ∈ zz_G) (hini : Cond.initialized y.cls ∈ zz_G) (hd : y.cls ≠ "java/lang/invoke/MethodHandle" ∧ y.cls ≠ "java/lang/invoke/VarHandle" ∧ (parseMethodDescriptor y.desc).map (fun d => d.parameters.length) = some As.length)
    (hlink : Cond.methodLink own index y ∈ zz_G) (hstat : Cond.static y ∈ zz_G) (hrm : rm.frames + 1 ≤ R.frames ∧ 8 + (maxL + 11) + rm.locals ≤ R.locals) (hmem : cells + rm.cells ≤ R.cells ∧ slots + rm.slots ≤ R.slots) (hst : st = As.reverse ++ rest) (hlen : rest.length ≤ 4) (hdg : decode cc pc = .ok (.invokestatic index, 3))
    (kk : ∀ (n1 : Nat) (H1 : Heap) (locs1 : List Loc), n' ≤ n1 → zz_R D dA base h' n1 s H1 locs1 → W p l e R s m args below meth c H1 locs1 (cells + rm.cells) (slots + rm.slots) Q (F0 m (pc + 3) ls (.int r :: rest))) : W p l e R s m args below meth c H locs cells slots Q (F0 m pc ls st) := by
  have hr := va_runS (p := p) (s := s) (args := args) (R := R) (As := As) (rest := rest) (Ts := zz_G) (g := F0 m pc ls st) (H := H) (locs := locs) (cells := cells) (slots := slots) (e := e) (below := below) (meth := meth) ⟨X.1, X.2.1, X.2.2.1, X.2.2.2.2.1, fun w hw => zz_w X hw⟩ hM ⟨zz_cb X ⟨hcode, hini, hd⟩ hlink hrm, zz_w X hstat⟩
    ⟨zz_blindL, fun U hU hW => ⟨rfl, by rw [hU]; exact hR.1, zz_K.go (locs := locs) hW (by rw [hU]; exact hR.2) X.2.2.2.2.2.2.2.2, hN.go hW⟩⟩ rfl rfl hls hst (lv_room (zz_room hlen)) hdg hmem
  intro T hT X'
  obtain ⟨v, st₀, t, T', L, h0, X'', hL, e1, e2, ⟨hv, ⟨n1, hn1, hp⟩, hF⟩, st⟩ := hr T hT X'
  have hv : v = some (.int r) := by cases hv; rfl
  subst hv
  obtain ⟨hz, hk⟩ := hF
  rw [h0] at hz hk
  rw [← e1] at hz hk hp
  obtain ⟨t2, a1, b1⟩ := kk n1 T'.heap (locs ++ L) hn1 ⟨hp, zz_trans hR.2 hz hk hL⟩ T' rfl X''
  exact ⟨t2, st t2 a1, b1⟩
def f_L_isDone (t0 x0 : Nat) (x1 x2 : Int32) (h : zz_H) (n : Nat) : Option (Int32 × zz_H × Nat) := if x1 = x2 then zz_b2 (f_L_sign t0 x0 (0 : Int32) h n) fun v h' n' => if v = x2 + (1 : Int32) then some ((1 : Int32), h', n') else some ((0 : Int32), h', n') else some ((0 : Int32), h, n)
def rm_L_isDone : Room := { frames := 10, cells := 2, slots := 12, locals := 180 }
theorem mf_L_isDone : Cond.code yL_isDone cL_isDone 3 (some .boolean) ∈ zz_G ∧ Cond.initialized yL_isDone.cls ∈ zz_G ∧ (yL_isDone.cls ≠ "java/lang/invoke/MethodHandle" ∧ yL_isDone.cls ≠ "java/lang/invoke/VarHandle" ∧ (parseMethodDescriptor yL_isDone.desc).map (fun d => d.parameters.length) = some 3) := ⟨q_1011, q_0, by decide +kernel, by decide +kernel, by decide +kernel⟩
set_option maxHeartbeats 4000000 in
set_option maxRecDepth 100000 in
theorem mt_L_isDone {D : va_G} {dA : Nat → ClassId} {base t0 : Nat} {l : Launch} (hT : l.stackTraces = false) (x0 : Nat) (x1 x2 : Int32) (h : zz_H) (n : Nat) {r0 : Int32} {hF : zz_H} {nF : Nat} (hf : f_L_isDone t0 x0 x1 x2 h n = some (r0, hF, nF)) : zz_MD D dA base t0 l yL_isDone cL_isDone 3 (some .boolean) rm_L_isDone [.ref x0, .int x1, .int x2] h n r0 hF nF := by
  refine Met.ofW (cc := cL_isDone) (maxL := 3) (ret := (some .boolean)) (by decide +kernel) rfl ?_
  intro p e s m args below meth c s₁ B hml hv
  obtain ⟨rfl, hP, hK, hN⟩ := hv
  have X : zz_X D dA base t0 "SpringseatLaw" cL_isDone 3 (some .boolean) l p s m meth c := ⟨B.exec, B.bytes, hml, B.returns, findClass_of_methodNamed B.named, B.notSynchronized, hT, by rw [hP.1]; exact hP.2.1, hK⟩
  have hx := X.1
  have hb := X.2.1
  have hown := X.2.2.2.2.1
  have hR : zz_R D dA base h n s s.heap [] := ⟨hP, va_S.rf⟩
  have hl := lv_entry ([.ref x0, .int x1, .int x2]) (n := 3) (by exact Nat.le_of_ble_eq_true rfl)
  rw [lg_entry_eq]
  generalize (lg_sl ([.ref x0, .int x1, .int x2]) ++ List.replicate (3 - (lg_sl ([.ref x0, .int x1, .int x2])).length) Slot.unset).toArray = ls at hl ⊢
  have hl : lv_has ls 3 [(0, .ref x0), (1, .int x1), (2, .int x2)] := hl
  unfold f_L_isDone at hf
  refine lv_iload_n hx hb dL_isDone_0 rfl (lv_at hl 1 rfl) ?_
  refine lv_iload_n hx hb dL_isDone_1 rfl (lv_at hl 2 rfl) ?_
  refine lv_icmp_ne (tgt := 20) hx hb dL_isDone_2 (by decide) (fun c2 => ?_) (fun c2 => ?_)
  · replace hf := zz_neg c2 hf
    refine lv_iconst (v := (0 : Int32)) hx hb dL_isDone_20 (by decide) ?_
    cases hf
    exact zl_zret X hR (Nat.le_refl _) (zz_nz (Or.inl rfl)) dL_isDone_21 (Nat.le_of_ble_eq_true rfl) (Nat.le_of_ble_eq_true rfl)
  · replace hf := zz_pos c2 hf
    obtain ⟨v, h', n', hv, hf⟩ := zz_b2_i hf
    refine lv_aload_n hx hb dL_isDone_5 rfl (lv_at hl 0 rfl) ?_
    refine lv_iconst (v := (0 : Int32)) hx hb dL_isDone_6 (by decide) ?_
    refine zl_cS X hN hR hl.1 (As := [.ref x0, .int (0 : Int32)]) (rest := []) (mt_L_sign hT x0 (0 : Int32) h n hv) mf_L_sign.1 mf_L_sign.2.1 mf_L_sign.2.2 q_844 q_845 ⟨Nat.le_of_ble_eq_true rfl, Nat.le_of_ble_eq_true rfl⟩ ⟨Nat.le_of_ble_eq_true rfl, Nat.le_of_ble_eq_true rfl⟩ rfl (Nat.le_of_ble_eq_true rfl) dL_isDone_7 (fun n1 H locs hn1 hR => ?_)
    refine W.eq (g2 := F0 m 10 ls [.int v]) rfl ?_
    refine lv_iload_n hx hb dL_isDone_10 rfl (lv_at hl 2 rfl) ?_
    refine lv_iconst (v := (1 : Int32)) hx hb dL_isDone_11 (by decide) ?_
    refine lv_iadd hx hb dL_isDone_12 ?_
    refine lv_icmp_ne (tgt := 20) hx hb dL_isDone_13 (by decide) (fun c3 => ?_) (fun c3 => ?_)
    · replace hf := zz_neg c3 hf
      refine lv_iconst (v := (0 : Int32)) hx hb dL_isDone_20 (by decide) ?_
      cases hf
      exact zl_zret X hR hn1 (zz_nz (Or.inl rfl)) dL_isDone_21 (Nat.le_of_ble_eq_true rfl) (Nat.le_of_ble_eq_true rfl)
    · replace hf := zz_pos c3 hf
      refine lv_iconst (v := (1 : Int32)) hx hb dL_isDone_16 (by decide) ?_
      refine lv_goto (tgt := 21) hx hb dL_isDone_17 (by decide) ?_
      cases hf
      exact zl_zret X hR hn1 (zz_nz (Or.inr rfl)) dL_isDone_21 (Nat.le_of_ble_eq_true rfl) (Nat.le_of_ble_eq_true rfl)
end ZID
