section ZZM
def rm_X8_allSigned : Room := { frames := 0, cells := 0, slots := 0, locals := 0 }
theorem mf_X8_allSigned : zz_Mf yX8_allSigned cX8_allSigned 1 (some .boolean) 0 := ⟨q_615, q_18, by decide +kernel, by decide +kernel, by decide +kernel⟩
set_option maxHeartbeats 4000000 in
set_option maxRecDepth 100000 in
theorem bk_X8_allSigned_16 {D : va_G} {dA : Nat → ClassId} {base t0 : Nat} {l : Launch} {p : Program} {e : Env} {s : State} {m : MethodId} {args : Array Value} {below : List Frame} {meth : Method} {c : Code} (X : zz_X D dA base t0 "Springseat$Steps" cX8_allSigned 1 (some .boolean) l p s m meth c) (hT : l.stackTraces = false) {s0 : Int32} {h : zz_H} {n : Nat} {H : Heap} {locs : List Loc} {ls : Array Slot} (hR : zz_R D dA base h n s H locs) (hl : lv_has ls 1 []) {r0 : Int32} (hf : f_X8_allSigned_16 s0 h = some r0) : W p l e rm_X8_allSigned s m args below meth c H locs 0 0 (MQ below (zz_Qc D dA base (some (.int r0)) h n) args s rm_X8_allSigned.cells rm_X8_allSigned.slots (fun q => base ≤ q)) (F0 m 16 ls [.int s0]) := by
  have hx := X.1
  have hb := X.2.1
  have hown := X.2.2.2.2.1
  unfold f_X8_allSigned_16 at hf
  obtain ⟨hz16, hf⟩ := zz_gz_i hf
  cases hf
  exact zr_zret X hR (zz_nz hz16) dX8_allSigned_16 (Nat.le_of_ble_eq_true rfl) (Nat.le_of_ble_eq_true rfl)
set_option maxHeartbeats 4000000 in
set_option maxRecDepth 100000 in
theorem mt_X8_allSigned {D : va_G} {dA : Nat → ClassId} {base t0 : Nat} {l : Launch} (hT : l.stackTraces = false) (a0 : Nat) (h : zz_H) (n : Nat) {r0 : Int32} (hf : f_X8_allSigned a0 h = some r0) : zz_M D dA base t0 l yX8_allSigned cX8_allSigned 1 (some .boolean) rm_X8_allSigned [.ref a0] h n (some (.int r0)) h n := by
  refine Met.ofW (cc := cX8_allSigned) (maxL := 1) (ret := (some .boolean)) (by decide +kernel) rfl ?_
  intro p e s m args below meth c s₁ B hml hv
  obtain ⟨rfl, hP, hK⟩ := hv
  have X : zz_X D dA base t0 "Springseat$Steps" cX8_allSigned 1 (some .boolean) l p s m meth c := ⟨B.exec, B.bytes, hml, B.returns, findClass_of_methodNamed B.named, B.notSynchronized, hT, by rw [hP.1]; exact hP.2.1, hK⟩
  have hx := X.1
  have hb := X.2.1
  have hown := X.2.2.2.2.1
  have hR : zz_R D dA base h n s s.heap [] := ⟨hP, va_S.rf⟩
  have hl := lv_entry ([.ref a0]) (n := 1) (by exact Nat.le_of_ble_eq_true rfl)
  rw [lg_entry_eq]
  generalize (lg_sl ([.ref a0]) ++ List.replicate (1 - (lg_sl ([.ref a0])).length) Slot.unset).toArray = ls at hl ⊢
  have hl : lv_has ls 1 [(0, .ref a0)] := hl
  unfold f_X8_allSigned at hf
  refine lv_aload_n hx hb dX8_allSigned_0 rfl (lv_at hl 0 rfl) ?_
  refine zr_gi X hR (r := (some a0)) fl_X8_23 dX8_allSigned_1 hf (fun v1 hf => ?_)
  refine lv_aload_n hx hb dX8_allSigned_4 rfl (lv_at hl 0 rfl) ?_
  refine zr_gi X hR (r := (some a0)) fl_X8_15 dX8_allSigned_5 hf (fun v5 hf => ?_)
  refine lv_icmp_ne (tgt := 15) hx hb dX8_allSigned_8 (by decide) (fun c8 => ?_) (fun c8 => ?_)
  · replace hf := zz_neg c8 hf
    refine lv_iconst (v := (0 : Int32)) hx hb dX8_allSigned_15 (by decide) ?_
    exact bk_X8_allSigned_16 X hT hR (lv_sub hl [] rfl) hf
  · replace hf := zz_pos c8 hf
    refine lv_iconst (v := (1 : Int32)) hx hb dX8_allSigned_11 (by decide) ?_
    refine lv_goto (tgt := 16) hx hb dX8_allSigned_12 (by decide) ?_
    exact bk_X8_allSigned_16 X hT hR (lv_sub hl [] rfl) hf
def rm_X8_layersAhead : Room := { frames := 1, cells := 0, slots := 0, locals := 21 }
theorem mf_X8_layersAhead : zz_Mf yX8_layersAhead cX8_layersAhead 4 (some .int) 1 := ⟨q_250, q_18, by decide +kernel, by decide +kernel, by decide +kernel⟩
set_option maxHeartbeats 4000000 in
set_option maxRecDepth 100000 in
theorem bk_X8_layersAhead_22 {D : va_G} {dA : Nat → ClassId} {base t0 : Nat} {l : Launch} {p : Program} {e : Env} {s : State} {m : MethodId} {args : Array Value} {below : List Frame} {meth : Method} {c : Code} (X : zz_X D dA base t0 "Springseat$Steps" cX8_layersAhead 4 (some .int) l p s m meth c) (hT : l.stackTraces = false) {a0 : Nat} {x1 : Int32} {x2 : Int32} {x3 : Int32} {h : zz_H} {n : Nat} {H : Heap} {locs : List Loc} {ls : Array Slot} (hR : zz_R D dA base h n s H locs) (hl : lv_has ls 4 [(0, .ref a0), (1, .int x1), (2, .int x2), (3, .int x3)]) {r0 : Int32} {o : ((Int32 × Int32) ⊕ Int32)} (hf : f_X8_layersAhead_22 a0 x1 x2 x3 h = some o) (k0 : ∀ (w2 : Int32) (w3 : Int32), o = (.inl (w2, w3)) → ∀ {H : Heap} {locs : List Loc} {ls : Array Slot}, zz_R D dA base h n s H locs → lv_has ls 4 [(0, .ref a0), (1, .int x1), (2, .int w2), (3, .int w3)] → W p l e rm_X8_layersAhead s m args below meth c H locs 0 0 (MQ below (zz_Qc D dA base (some (.int r0)) h n) args s rm_X8_layersAhead.cells rm_X8_layersAhead.slots (fun q => base ≤ q)) (F0 m 4 ls [])) (hret : ∀ r, o = (.inr r) → r = r0) : W p l e rm_X8_layersAhead s m args below meth c H locs 0 0 (MQ below (zz_Qc D dA base (some (.int r0)) h n) args s rm_X8_layersAhead.cells rm_X8_layersAhead.slots (fun q => base ≤ q)) (F0 m 22 ls []) := by
  have hx := X.1
  have hb := X.2.1
  have hown := X.2.2.2.2.1
  unfold f_X8_layersAhead_22 at hf
  refine lv_iinc (i := 3) (v := (x3 + (1 : Int32))) (lv' := [(3, .int (x3 + (1 : Int32))), (0, .ref a0), (1, .int x1), (2, .int x2)]) hx hb dX8_layersAhead_22 hl (k := 3) rfl rfl (by decide) rfl (fun ls hl => ?_)
  refine lv_goto (tgt := 4) hx hb dX8_layersAhead_25 (by decide) ?_
  cases hf
  exact k0 _ _ rfl hR (lv_sub hl [1, 2, 3, 0] rfl)
set_option maxHeartbeats 4000000 in
set_option maxRecDepth 100000 in
theorem bk_X8_layersAhead_4 {D : va_G} {dA : Nat → ClassId} {base t0 : Nat} {l : Launch} {p : Program} {e : Env} {s : State} {m : MethodId} {args : Array Value} {below : List Frame} {meth : Method} {c : Code} (X : zz_X D dA base t0 "Springseat$Steps" cX8_layersAhead 4 (some .int) l p s m meth c) (hT : l.stackTraces = false) {a0 : Nat} {x1 : Int32} {x2 : Int32} {x3 : Int32} {h : zz_H} {n : Nat} {H : Heap} {locs : List Loc} {ls : Array Slot} (hR : zz_R D dA base h n s H locs) (hl : lv_has ls 4 [(0, .ref a0), (1, .int x1), (2, .int x2), (3, .int x3)]) {r0 : Int32} {o : ((Int32 × Int32) ⊕ Int32)} (hf : f_X8_layersAhead_4 a0 x1 x2 x3 h = some o) (k0 : ∀ (w2 : Int32) (w3 : Int32), o = (.inl (w2, w3)) → ∀ {H : Heap} {locs : List Loc} {ls : Array Slot}, zz_R D dA base h n s H locs → lv_has ls 4 [(0, .ref a0), (1, .int x1), (2, .int w2), (3, .int w3)] → W p l e rm_X8_layersAhead s m args below meth c H locs 0 0 (MQ below (zz_Qc D dA base (some (.int r0)) h n) args s rm_X8_layersAhead.cells rm_X8_layersAhead.slots (fun q => base ≤ q)) (F0 m 4 ls [])) (hret : ∀ r, o = (.inr r) → r = r0) : W p l e rm_X8_layersAhead s m args below meth c H locs 0 0 (MQ below (zz_Qc D dA base (some (.int r0)) h n) args s rm_X8_layersAhead.cells rm_X8_layersAhead.slots (fun q => base ≤ q)) (F0 m 4 ls []) := by
  have hx := X.1
  have hb := X.2.1
  have hown := X.2.2.2.2.1
  unfold f_X8_layersAhead_4 at hf
  refine lv_iload_n hx hb dX8_layersAhead_4 rfl (lv_at hl 3 rfl) ?_
  refine lv_iload_n hx hb dX8_layersAhead_5 rfl (lv_at hl 1 rfl) ?_
  refine lv_icmp_ge (tgt := 28) hx hb dX8_layersAhead_6 (by decide) (fun c6 => ?_) (fun c6 => ?_)
  · replace hf := zz_pos c6 hf
    refine lv_iload_n hx hb dX8_layersAhead_28 rfl (lv_at hl 2 rfl) ?_
    cases hf
    cases hret _ rfl
    exact zr_iret X hR dX8_layersAhead_29 (Nat.le_of_ble_eq_true rfl) (Nat.le_of_ble_eq_true rfl)
  · replace hf := zz_neg c6 hf
    refine lv_aload_n hx hb dX8_layersAhead_9 rfl (lv_at hl 0 rfl) ?_
    refine lv_iload_n hx hb dX8_layersAhead_10 rfl (lv_at hl 3 rfl) ?_
    obtain ⟨fs11, ho11, hf⟩ := zz_obS_i hf
    obtain ⟨v11, hv11, hf⟩ := zz_b_i hf
    refine zr_cV X hR hl.1 (As := [.int x3]) (rest := []) (C := RX8) (T := TX8) (N := 3) (mt_X8_letterAt hT a0 x3 h n hv11) rfl ho11 mf_X8_letterAt q_238 q_239 q_240 ⟨Nat.le_of_ble_eq_true rfl, Nat.le_of_ble_eq_true rfl⟩ ⟨Nat.le_of_ble_eq_true rfl, Nat.le_of_ble_eq_true rfl⟩ rfl (Nat.le_of_ble_eq_true rfl) dX8_layersAhead_11 (fun H locs hR => ?_)
    refine W.eq (g2 := F0 m 14 ls [.int v11]) rfl ?_
    refine lv_bipush (v := (108 : Int32)) hx hb dX8_layersAhead_14 (by decide) ?_
    refine lv_icmp_ne (tgt := 22) hx hb dX8_layersAhead_16 (by decide) (fun c16 => ?_) (fun c16 => ?_)
    · replace hf := zz_neg c16 hf
      exact bk_X8_layersAhead_22 X hT hR (lv_sub hl [0, 1, 2, 3] rfl) hf k0 hret
    · replace hf := zz_pos c16 hf
      refine lv_iinc (i := 2) (v := (x2 + (1 : Int32))) (lv' := [(2, .int (x2 + (1 : Int32))), (0, .ref a0), (1, .int x1), (3, .int x3)]) hx hb dX8_layersAhead_19 hl (k := 2) rfl rfl (by decide) rfl (fun ls hl => ?_)
      exact bk_X8_layersAhead_22 X hT hR (lv_sub hl [1, 2, 0, 3] rfl) hf k0 hret
set_option maxHeartbeats 4000000 in
set_option maxRecDepth 100000 in
theorem lp_X8_layersAhead_4 {D : va_G} {dA : Nat → ClassId} {base t0 : Nat} {l : Launch} {p : Program} {e : Env} {s : State} {m : MethodId} {args : Array Value} {below : List Frame} {meth : Method} {c : Code} (X : zz_X D dA base t0 "Springseat$Steps" cX8_layersAhead 4 (some .int) l p s m meth c) (hT : l.stackTraces = false) (a0 : Nat) (x1 : Int32) {h : zz_H} {n : Nat} {r0 : Int32} : ∀ (k : Nat) (x2 : Int32) (x3 : Int32), zz_it (fun s : (Int32 × Int32) => f_X8_layersAhead_4 a0 x1 s.1 s.2 h) k (x2, x3) = some r0 → ∀ {H : Heap} {locs : List Loc} {ls : Array Slot}, zz_R D dA base h n s H locs → lv_has ls 4 [(0, .ref a0), (1, .int x1), (2, .int x2), (3, .int x3)] → W p l e rm_X8_layersAhead s m args below meth c H locs 0 0 (MQ below (zz_Qc D dA base (some (.int r0)) h n) args s rm_X8_layersAhead.cells rm_X8_layersAhead.slots (fun q => base ≤ q)) (F0 m 4 ls []) := by
  intro k
  induction k with
  | zero => intro x2 x3 hf; cases hf
  | succ k ih =>
    intro x2 x3 hf H locs ls hR hl
    rcases zz_it_s hf with ⟨⟨y0, y1⟩, h1, h2⟩ | h1
    · exact bk_X8_layersAhead_4 (r0 := r0) X hT hR hl h1  (fun z0 z1 e => by cases e; exact ih _ _ h2) (fun r e => by cases e)
    · exact bk_X8_layersAhead_4 (r0 := r0) X hT hR hl h1  (fun z0 z1 e => by cases e) (fun r e => (Sum.inr.inj e).symm)
set_option maxHeartbeats 4000000 in
set_option maxRecDepth 100000 in
theorem mt_X8_layersAhead {D : va_G} {dA : Nat → ClassId} {base t0 : Nat} {l : Launch} (hT : l.stackTraces = false) (a0 : Nat) (x1 : Int32) (h : zz_H) (n : Nat) {r0 : Int32} (hf : f_X8_layersAhead a0 x1 h = some r0) : zz_M D dA base t0 l yX8_layersAhead cX8_layersAhead 4 (some .int) rm_X8_layersAhead [.ref a0, .int x1] h n (some (.int r0)) h n := by
  refine Met.ofW (cc := cX8_layersAhead) (maxL := 4) (ret := (some .int)) (by decide +kernel) rfl ?_
  intro p e s m args below meth c s₁ B hml hv
  obtain ⟨rfl, hP, hK⟩ := hv
  have X : zz_X D dA base t0 "Springseat$Steps" cX8_layersAhead 4 (some .int) l p s m meth c := ⟨B.exec, B.bytes, hml, B.returns, findClass_of_methodNamed B.named, B.notSynchronized, hT, by rw [hP.1]; exact hP.2.1, hK⟩
  have hx := X.1
  have hb := X.2.1
  have hown := X.2.2.2.2.1
  have hR : zz_R D dA base h n s s.heap [] := ⟨hP, va_S.rf⟩
  have hl := lv_entry ([.ref a0, .int x1]) (n := 4) (by exact Nat.le_of_ble_eq_true rfl)
  rw [lg_entry_eq]
  generalize (lg_sl ([.ref a0, .int x1]) ++ List.replicate (4 - (lg_sl ([.ref a0, .int x1])).length) Slot.unset).toArray = ls at hl ⊢
  have hl : lv_has ls 4 [(0, .ref a0), (1, .int x1)] := hl
  unfold f_X8_layersAhead at hf
  refine lv_iconst (v := (0 : Int32)) hx hb dX8_layersAhead_0 (by decide) ?_
  refine lv_istore_n (i := 2) (lv' := [(2, .int (0 : Int32)), (0, .ref a0), (1, .int x1)]) hx hb dX8_layersAhead_1 rfl hl (by decide) rfl (fun ls hl => ?_)
  refine lv_iconst (v := (0 : Int32)) hx hb dX8_layersAhead_2 (by decide) ?_
  refine lv_istore_n (i := 3) (lv' := [(3, .int (0 : Int32)), (2, .int (0 : Int32)), (0, .ref a0), (1, .int x1)]) hx hb dX8_layersAhead_3 rfl hl (by decide) rfl (fun ls hl => ?_)
  exact lp_X8_layersAhead_4 X hT a0 x1 zz_F _ _ hf hR (lv_sub hl [2, 3, 1, 0] rfl)
def rm_X8_mayFollow : Room := { frames := 2, cells := 0, slots := 0, locals := 44 }
theorem mf_X8_mayFollow : zz_Mf yX8_mayFollow cX8_mayFollow 4 (some .boolean) 2 := ⟨q_246, q_18, by decide +kernel, by decide +kernel, by decide +kernel⟩
set_option maxHeartbeats 4000000 in
set_option maxRecDepth 100000 in
theorem bk_X8_mayFollow_140 {D : va_G} {dA : Nat → ClassId} {base t0 : Nat} {l : Launch} {p : Program} {e : Env} {s : State} {m : MethodId} {args : Array Value} {below : List Frame} {meth : Method} {c : Code} (X : zz_X D dA base t0 "Springseat$Steps" cX8_mayFollow 4 (some .boolean) l p s m meth c) (hT : l.stackTraces = false) {s0 : Int32} {h : zz_H} {n : Nat} {H : Heap} {locs : List Loc} {ls : Array Slot} (hR : zz_R D dA base h n s H locs) (hl : lv_has ls 4 []) {r0 : Int32} (hf : f_X8_mayFollow_140 s0 h = some r0) : W p l e rm_X8_mayFollow s m args below meth c H locs 0 0 (MQ below (zz_Qc D dA base (some (.int r0)) h n) args s rm_X8_mayFollow.cells rm_X8_mayFollow.slots (fun q => base ≤ q)) (F0 m 140 ls [.int s0]) := by
  have hx := X.1
  have hb := X.2.1
  have hown := X.2.2.2.2.1
  unfold f_X8_mayFollow_140 at hf
  obtain ⟨hz140, hf⟩ := zz_gz_i hf
  cases hf
  exact zr_zret X hR (zz_nz hz140) dX8_mayFollow_140 (Nat.le_of_ble_eq_true rfl) (Nat.le_of_ble_eq_true rfl)
set_option maxHeartbeats 4000000 in
set_option maxRecDepth 100000 in
theorem bk_X8_mayFollow_139 {D : va_G} {dA : Nat → ClassId} {base t0 : Nat} {l : Launch} {p : Program} {e : Env} {s : State} {m : MethodId} {args : Array Value} {below : List Frame} {meth : Method} {c : Code} (X : zz_X D dA base t0 "Springseat$Steps" cX8_mayFollow 4 (some .boolean) l p s m meth c) (hT : l.stackTraces = false) {h : zz_H} {n : Nat} {H : Heap} {locs : List Loc} {ls : Array Slot} (hR : zz_R D dA base h n s H locs) (hl : lv_has ls 4 []) {r0 : Int32} (hf : f_X8_mayFollow_139 h = some r0) : W p l e rm_X8_mayFollow s m args below meth c H locs 0 0 (MQ below (zz_Qc D dA base (some (.int r0)) h n) args s rm_X8_mayFollow.cells rm_X8_mayFollow.slots (fun q => base ≤ q)) (F0 m 139 ls []) := by
  have hx := X.1
  have hb := X.2.1
  have hown := X.2.2.2.2.1
  unfold f_X8_mayFollow_139 at hf
  refine lv_iconst (v := (0 : Int32)) hx hb dX8_mayFollow_139 (by decide) ?_
  exact bk_X8_mayFollow_140 X hT hR (lv_sub hl [] rfl) hf
set_option maxHeartbeats 4000000 in
set_option maxRecDepth 100000 in
theorem bk_X8_mayFollow_135 {D : va_G} {dA : Nat → ClassId} {base t0 : Nat} {l : Launch} {p : Program} {e : Env} {s : State} {m : MethodId} {args : Array Value} {below : List Frame} {meth : Method} {c : Code} (X : zz_X D dA base t0 "Springseat$Steps" cX8_mayFollow 4 (some .boolean) l p s m meth c) (hT : l.stackTraces = false) {h : zz_H} {n : Nat} {H : Heap} {locs : List Loc} {ls : Array Slot} (hR : zz_R D dA base h n s H locs) (hl : lv_has ls 4 []) {r0 : Int32} (hf : f_X8_mayFollow_135 h = some r0) : W p l e rm_X8_mayFollow s m args below meth c H locs 0 0 (MQ below (zz_Qc D dA base (some (.int r0)) h n) args s rm_X8_mayFollow.cells rm_X8_mayFollow.slots (fun q => base ≤ q)) (F0 m 135 ls []) := by
  have hx := X.1
  have hb := X.2.1
  have hown := X.2.2.2.2.1
  unfold f_X8_mayFollow_135 at hf
  refine lv_iconst (v := (1 : Int32)) hx hb dX8_mayFollow_135 (by decide) ?_
  refine lv_goto (tgt := 140) hx hb dX8_mayFollow_136 (by decide) ?_
  exact bk_X8_mayFollow_140 X hT hR (lv_sub hl [] rfl) hf
set_option maxHeartbeats 4000000 in
set_option maxRecDepth 100000 in
theorem bk_X8_mayFollow_116 {D : va_G} {dA : Nat → ClassId} {base t0 : Nat} {l : Launch} {p : Program} {e : Env} {s : State} {m : MethodId} {args : Array Value} {below : List Frame} {meth : Method} {c : Code} (X : zz_X D dA base t0 "Springseat$Steps" cX8_mayFollow 4 (some .boolean) l p s m meth c) (hT : l.stackTraces = false) {s0 : Int32} {h : zz_H} {n : Nat} {H : Heap} {locs : List Loc} {ls : Array Slot} (hR : zz_R D dA base h n s H locs) (hl : lv_has ls 4 []) {r0 : Int32} (hf : f_X8_mayFollow_116 s0 h = some r0) : W p l e rm_X8_mayFollow s m args below meth c H locs 0 0 (MQ below (zz_Qc D dA base (some (.int r0)) h n) args s rm_X8_mayFollow.cells rm_X8_mayFollow.slots (fun q => base ≤ q)) (F0 m 116 ls [.int s0]) := by
  have hx := X.1
  have hb := X.2.1
  have hown := X.2.2.2.2.1
  unfold f_X8_mayFollow_116 at hf
  obtain ⟨hz116, hf⟩ := zz_gz_i hf
  cases hf
  exact zr_zret X hR (zz_nz hz116) dX8_mayFollow_116 (Nat.le_of_ble_eq_true rfl) (Nat.le_of_ble_eq_true rfl)
set_option maxHeartbeats 4000000 in
set_option maxRecDepth 100000 in
theorem bk_X8_mayFollow_98 {D : va_G} {dA : Nat → ClassId} {base t0 : Nat} {l : Launch} {p : Program} {e : Env} {s : State} {m : MethodId} {args : Array Value} {below : List Frame} {meth : Method} {c : Code} (X : zz_X D dA base t0 "Springseat$Steps" cX8_mayFollow 4 (some .boolean) l p s m meth c) (hT : l.stackTraces = false) {s0 : Int32} {h : zz_H} {n : Nat} {H : Heap} {locs : List Loc} {ls : Array Slot} (hR : zz_R D dA base h n s H locs) (hl : lv_has ls 4 []) {r0 : Int32} (hf : f_X8_mayFollow_98 s0 h = some r0) : W p l e rm_X8_mayFollow s m args below meth c H locs 0 0 (MQ below (zz_Qc D dA base (some (.int r0)) h n) args s rm_X8_mayFollow.cells rm_X8_mayFollow.slots (fun q => base ≤ q)) (F0 m 98 ls [.int s0]) := by
  have hx := X.1
  have hb := X.2.1
  have hown := X.2.2.2.2.1
  unfold f_X8_mayFollow_98 at hf
  obtain ⟨hz98, hf⟩ := zz_gz_i hf
  cases hf
  exact zr_zret X hR (zz_nz hz98) dX8_mayFollow_98 (Nat.le_of_ble_eq_true rfl) (Nat.le_of_ble_eq_true rfl)
set_option maxHeartbeats 4000000 in
set_option maxRecDepth 100000 in
theorem bk_X8_mayFollow_97 {D : va_G} {dA : Nat → ClassId} {base t0 : Nat} {l : Launch} {p : Program} {e : Env} {s : State} {m : MethodId} {args : Array Value} {below : List Frame} {meth : Method} {c : Code} (X : zz_X D dA base t0 "Springseat$Steps" cX8_mayFollow 4 (some .boolean) l p s m meth c) (hT : l.stackTraces = false) {h : zz_H} {n : Nat} {H : Heap} {locs : List Loc} {ls : Array Slot} (hR : zz_R D dA base h n s H locs) (hl : lv_has ls 4 []) {r0 : Int32} (hf : f_X8_mayFollow_97 h = some r0) : W p l e rm_X8_mayFollow s m args below meth c H locs 0 0 (MQ below (zz_Qc D dA base (some (.int r0)) h n) args s rm_X8_mayFollow.cells rm_X8_mayFollow.slots (fun q => base ≤ q)) (F0 m 97 ls []) := by
  have hx := X.1
  have hb := X.2.1
  have hown := X.2.2.2.2.1
  unfold f_X8_mayFollow_97 at hf
  refine lv_iconst (v := (0 : Int32)) hx hb dX8_mayFollow_97 (by decide) ?_
  exact bk_X8_mayFollow_98 X hT hR (lv_sub hl [] rfl) hf
set_option maxHeartbeats 4000000 in
set_option maxRecDepth 100000 in
theorem bk_X8_mayFollow_84 {D : va_G} {dA : Nat → ClassId} {base t0 : Nat} {l : Launch} {p : Program} {e : Env} {s : State} {m : MethodId} {args : Array Value} {below : List Frame} {meth : Method} {c : Code} (X : zz_X D dA base t0 "Springseat$Steps" cX8_mayFollow 4 (some .boolean) l p s m meth c) (hT : l.stackTraces = false) {a0 : Nat} {x1 : Int32} {h : zz_H} {n : Nat} {H : Heap} {locs : List Loc} {ls : Array Slot} (hR : zz_R D dA base h n s H locs) (hl : lv_has ls 4 [(0, .ref a0), (1, .int x1)]) {r0 : Int32} (hf : f_X8_mayFollow_84 a0 x1 h = some r0) : W p l e rm_X8_mayFollow s m args below meth c H locs 0 0 (MQ below (zz_Qc D dA base (some (.int r0)) h n) args s rm_X8_mayFollow.cells rm_X8_mayFollow.slots (fun q => base ≤ q)) (F0 m 84 ls []) := by
  have hx := X.1
  have hb := X.2.1
  have hown := X.2.2.2.2.1
  unfold f_X8_mayFollow_84 at hf
  refine lv_aload_n hx hb dX8_mayFollow_84 rfl (lv_at hl 0 rfl) ?_
  refine lv_iload_n hx hb dX8_mayFollow_85 rfl (lv_at hl 1 rfl) ?_
  obtain ⟨fs86, ho86, hf⟩ := zz_obS_i hf
  obtain ⟨v86, hv86, hf⟩ := zz_b_i hf
  refine zr_cV X hR hl.1 (As := [.int x1]) (rest := []) (C := RX8) (T := TX8) (N := 3) (mt_X8_layersAhead hT a0 x1 h n hv86) rfl ho86 mf_X8_layersAhead q_247 q_249 qs_4 ⟨Nat.le_of_ble_eq_true rfl, Nat.le_of_ble_eq_true rfl⟩ ⟨Nat.le_of_ble_eq_true rfl, Nat.le_of_ble_eq_true rfl⟩ rfl (Nat.le_of_ble_eq_true rfl) dX8_mayFollow_86 (fun H locs hR => ?_)
  refine W.eq (g2 := F0 m 89 ls [.int v86]) rfl ?_
  refine lv_iconst (v := (4 : Int32)) hx hb dX8_mayFollow_89 (by decide) ?_
  refine lv_icmp_ge (tgt := 97) hx hb dX8_mayFollow_90 (by decide) (fun c90 => ?_) (fun c90 => ?_)
  · replace hf := zz_pos c90 hf
    exact bk_X8_mayFollow_97 X hT hR (lv_sub hl [] rfl) hf
  · replace hf := zz_neg c90 hf
    refine lv_iconst (v := (1 : Int32)) hx hb dX8_mayFollow_93 (by decide) ?_
    refine lv_goto (tgt := 98) hx hb dX8_mayFollow_94 (by decide) ?_
    exact bk_X8_mayFollow_98 X hT hR (lv_sub hl [] rfl) hf
set_option maxHeartbeats 4000000 in
set_option maxRecDepth 100000 in
theorem bk_X8_mayFollow_59 {D : va_G} {dA : Nat → ClassId} {base t0 : Nat} {l : Launch} {p : Program} {e : Env} {s : State} {m : MethodId} {args : Array Value} {below : List Frame} {meth : Method} {c : Code} (X : zz_X D dA base t0 "Springseat$Steps" cX8_mayFollow 4 (some .boolean) l p s m meth c) (hT : l.stackTraces = false) {s0 : Int32} {h : zz_H} {n : Nat} {H : Heap} {locs : List Loc} {ls : Array Slot} (hR : zz_R D dA base h n s H locs) (hl : lv_has ls 4 []) {r0 : Int32} (hf : f_X8_mayFollow_59 s0 h = some r0) : W p l e rm_X8_mayFollow s m args below meth c H locs 0 0 (MQ below (zz_Qc D dA base (some (.int r0)) h n) args s rm_X8_mayFollow.cells rm_X8_mayFollow.slots (fun q => base ≤ q)) (F0 m 59 ls [.int s0]) := by
  have hx := X.1
  have hb := X.2.1
  have hown := X.2.2.2.2.1
  unfold f_X8_mayFollow_59 at hf
  obtain ⟨hz59, hf⟩ := zz_gz_i hf
  cases hf
  exact zr_zret X hR (zz_nz hz59) dX8_mayFollow_59 (Nat.le_of_ble_eq_true rfl) (Nat.le_of_ble_eq_true rfl)
set_option maxHeartbeats 4000000 in
set_option maxRecDepth 100000 in
theorem bk_X8_mayFollow_41 {D : va_G} {dA : Nat → ClassId} {base t0 : Nat} {l : Launch} {p : Program} {e : Env} {s : State} {m : MethodId} {args : Array Value} {below : List Frame} {meth : Method} {c : Code} (X : zz_X D dA base t0 "Springseat$Steps" cX8_mayFollow 4 (some .boolean) l p s m meth c) (hT : l.stackTraces = false) {s0 : Int32} {h : zz_H} {n : Nat} {H : Heap} {locs : List Loc} {ls : Array Slot} (hR : zz_R D dA base h n s H locs) (hl : lv_has ls 4 []) {r0 : Int32} (hf : f_X8_mayFollow_41 s0 h = some r0) : W p l e rm_X8_mayFollow s m args below meth c H locs 0 0 (MQ below (zz_Qc D dA base (some (.int r0)) h n) args s rm_X8_mayFollow.cells rm_X8_mayFollow.slots (fun q => base ≤ q)) (F0 m 41 ls [.int s0]) := by
  have hx := X.1
  have hb := X.2.1
  have hown := X.2.2.2.2.1
  unfold f_X8_mayFollow_41 at hf
  obtain ⟨hz41, hf⟩ := zz_gz_i hf
  cases hf
  exact zr_zret X hR (zz_nz hz41) dX8_mayFollow_41 (Nat.le_of_ble_eq_true rfl) (Nat.le_of_ble_eq_true rfl)
set_option maxHeartbeats 4000000 in
set_option maxRecDepth 100000 in
theorem bk_X8_mayFollow_23 {D : va_G} {dA : Nat → ClassId} {base t0 : Nat} {l : Launch} {p : Program} {e : Env} {s : State} {m : MethodId} {args : Array Value} {below : List Frame} {meth : Method} {c : Code} (X : zz_X D dA base t0 "Springseat$Steps" cX8_mayFollow 4 (some .boolean) l p s m meth c) (hT : l.stackTraces = false) {s0 : Int32} {h : zz_H} {n : Nat} {H : Heap} {locs : List Loc} {ls : Array Slot} (hR : zz_R D dA base h n s H locs) (hl : lv_has ls 4 []) {r0 : Int32} (hf : f_X8_mayFollow_23 s0 h = some r0) : W p l e rm_X8_mayFollow s m args below meth c H locs 0 0 (MQ below (zz_Qc D dA base (some (.int r0)) h n) args s rm_X8_mayFollow.cells rm_X8_mayFollow.slots (fun q => base ≤ q)) (F0 m 23 ls [.int s0]) := by
  have hx := X.1
  have hb := X.2.1
  have hown := X.2.2.2.2.1
  unfold f_X8_mayFollow_23 at hf
  obtain ⟨hz23, hf⟩ := zz_gz_i hf
  cases hf
  exact zr_zret X hR (zz_nz hz23) dX8_mayFollow_23 (Nat.le_of_ble_eq_true rfl) (Nat.le_of_ble_eq_true rfl)
set_option maxHeartbeats 4000000 in
set_option maxRecDepth 100000 in
theorem mt_X8_mayFollow {D : va_G} {dA : Nat → ClassId} {base t0 : Nat} {l : Launch} (hT : l.stackTraces = false) (a0 : Nat) (x1 : Int32) (x2 : Int32) (h : zz_H) (n : Nat) {r0 : Int32} (hf : f_X8_mayFollow a0 x1 x2 h = some r0) : zz_M D dA base t0 l yX8_mayFollow cX8_mayFollow 4 (some .boolean) rm_X8_mayFollow [.ref a0, .int x1, .int x2] h n (some (.int r0)) h n := by
  refine Met.ofW (cc := cX8_mayFollow) (maxL := 4) (ret := (some .boolean)) (by decide +kernel) rfl ?_
  intro p e s m args below meth c s₁ B hml hv
  obtain ⟨rfl, hP, hK⟩ := hv
  have X : zz_X D dA base t0 "Springseat$Steps" cX8_mayFollow 4 (some .boolean) l p s m meth c := ⟨B.exec, B.bytes, hml, B.returns, findClass_of_methodNamed B.named, B.notSynchronized, hT, by rw [hP.1]; exact hP.2.1, hK⟩
  have hx := X.1
  have hb := X.2.1
  have hown := X.2.2.2.2.1
  have hR : zz_R D dA base h n s s.heap [] := ⟨hP, va_S.rf⟩
  have hl := lv_entry ([.ref a0, .int x1, .int x2]) (n := 4) (by exact Nat.le_of_ble_eq_true rfl)
  rw [lg_entry_eq]
  generalize (lg_sl ([.ref a0, .int x1, .int x2]) ++ List.replicate (4 - (lg_sl ([.ref a0, .int x1, .int x2])).length) Slot.unset).toArray = ls at hl ⊢
  have hl : lv_has ls 4 [(0, .ref a0), (1, .int x1), (2, .int x2)] := hl
  unfold f_X8_mayFollow at hf
  refine lv_aload_n hx hb dX8_mayFollow_0 rfl (lv_at hl 0 rfl) ?_
  refine lv_iload_n hx hb dX8_mayFollow_1 rfl (lv_at hl 1 rfl) ?_
  refine lv_iconst (v := (1 : Int32)) hx hb dX8_mayFollow_2 (by decide) ?_
  refine lv_isub hx hb dX8_mayFollow_3 ?_
  obtain ⟨fs4, ho4, hf⟩ := zz_obS_i hf
  obtain ⟨v4, hv4, hf⟩ := zz_b_i hf
  refine zr_cV X hR hl.1 (As := [.int (x1 - (1 : Int32))]) (rest := []) (C := RX8) (T := TX8) (N := 3) (mt_X8_letterAt hT a0 (x1 - (1 : Int32)) h n hv4) rfl ho4 mf_X8_letterAt q_238 q_239 q_240 ⟨Nat.le_of_ble_eq_true rfl, Nat.le_of_ble_eq_true rfl⟩ ⟨Nat.le_of_ble_eq_true rfl, Nat.le_of_ble_eq_true rfl⟩ rfl (Nat.le_of_ble_eq_true rfl) dX8_mayFollow_4 (fun H locs hR => ?_)
  refine W.eq (g2 := F0 m 7 ls [.int v4]) rfl ?_
  refine lv_istore_n (i := 3) (lv' := [(3, .int v4), (0, .ref a0), (1, .int x1), (2, .int x2)]) hx hb dX8_mayFollow_7 rfl hl (by decide) rfl (fun ls hl => ?_)
  refine lv_iload_n hx hb dX8_mayFollow_8 rfl (lv_at hl 3 rfl) ?_
  refine lv_bipush (v := (119 : Int32)) hx hb dX8_mayFollow_9 (by decide) ?_
  refine lv_icmp_ne (tgt := 24) hx hb dX8_mayFollow_11 (by decide) (fun c11 => ?_) (fun c11 => ?_)
  · replace hf := zz_neg c11 hf
    refine lv_iload_n hx hb dX8_mayFollow_24 rfl (lv_at hl 3 rfl) ?_
    refine lv_bipush (v := (115 : Int32)) hx hb dX8_mayFollow_25 (by decide) ?_
    refine lv_icmp_ne (tgt := 42) hx hb dX8_mayFollow_27 (by decide) (fun c27 => ?_) (fun c27 => ?_)
    · replace hf := zz_neg c27 hf
      refine lv_iload_n hx hb dX8_mayFollow_42 rfl (lv_at hl 3 rfl) ?_
      refine lv_bipush (v := (116 : Int32)) hx hb dX8_mayFollow_43 (by decide) ?_
      refine lv_icmp_ne (tgt := 60) hx hb dX8_mayFollow_45 (by decide) (fun c45 => ?_) (fun c45 => ?_)
      · replace hf := zz_neg c45 hf
        refine lv_iload_n hx hb dX8_mayFollow_60 rfl (lv_at hl 3 rfl) ?_
        refine lv_bipush (v := (108 : Int32)) hx hb dX8_mayFollow_61 (by decide) ?_
        refine lv_icmp_ne (tgt := 99) hx hb dX8_mayFollow_63 (by decide) (fun c63 => ?_) (fun c63 => ?_)
        · replace hf := zz_neg c63 hf
          refine lv_iload_n hx hb dX8_mayFollow_99 rfl (lv_at hl 3 rfl) ?_
          refine lv_bipush (v := (98 : Int32)) hx hb dX8_mayFollow_100 (by decide) ?_
          refine lv_icmp_ne (tgt := 117) hx hb dX8_mayFollow_102 (by decide) (fun c102 => ?_) (fun c102 => ?_)
          · replace hf := zz_neg c102 hf
            refine lv_iload_n hx hb dX8_mayFollow_117 rfl (lv_at hl 3 rfl) ?_
            refine lv_bipush (v := (99 : Int32)) hx hb dX8_mayFollow_118 (by decide) ?_
            refine lv_icmp_ne (tgt := 139) hx hb dX8_mayFollow_120 (by decide) (fun c120 => ?_) (fun c120 => ?_)
            · replace hf := zz_neg c120 hf
              exact bk_X8_mayFollow_139 X hT hR (lv_sub hl [] rfl) hf
            · replace hf := zz_pos c120 hf
              refine lv_iload_n hx hb dX8_mayFollow_123 rfl (lv_at hl 0 rfl) ?_
              refine lv_bipush (v := (108 : Int32)) hx hb dX8_mayFollow_124 (by decide) ?_
              refine lv_icmp_eq (tgt := 135) hx hb dX8_mayFollow_126 (by decide) (fun c126 => ?_) (fun c126 => ?_)
              · replace hf := zz_pos c126 hf
                exact bk_X8_mayFollow_135 X hT hR (lv_sub hl [] rfl) hf
              · replace hf := zz_neg c126 hf
                refine lv_iload_n hx hb dX8_mayFollow_129 rfl (lv_at hl 0 rfl) ?_
                refine lv_bipush (v := (98 : Int32)) hx hb dX8_mayFollow_130 (by decide) ?_
                refine lv_icmp_ne (tgt := 139) hx hb dX8_mayFollow_132 (by decide) (fun c132 => ?_) (fun c132 => ?_)
                · replace hf := zz_neg c132 hf
                  exact bk_X8_mayFollow_139 X hT hR (lv_sub hl [] rfl) hf
                · replace hf := zz_pos c132 hf
                  exact bk_X8_mayFollow_135 X hT hR (lv_sub hl [] rfl) hf
          · replace hf := zz_pos c102 hf
            refine lv_iload_n hx hb dX8_mayFollow_105 rfl (lv_at hl 0 rfl) ?_
            refine lv_bipush (v := (108 : Int32)) hx hb dX8_mayFollow_106 (by decide) ?_
            refine lv_icmp_ne (tgt := 115) hx hb dX8_mayFollow_108 (by decide) (fun c108 => ?_) (fun c108 => ?_)
            · replace hf := zz_neg c108 hf
              refine lv_iconst (v := (0 : Int32)) hx hb dX8_mayFollow_115 (by decide) ?_
              exact bk_X8_mayFollow_116 X hT hR (lv_sub hl [] rfl) hf
            · replace hf := zz_pos c108 hf
              refine lv_iconst (v := (1 : Int32)) hx hb dX8_mayFollow_111 (by decide) ?_
              refine lv_goto (tgt := 116) hx hb dX8_mayFollow_112 (by decide) ?_
              exact bk_X8_mayFollow_116 X hT hR (lv_sub hl [] rfl) hf
        · replace hf := zz_pos c63 hf
          refine lv_iload_n hx hb dX8_mayFollow_66 rfl (lv_at hl 0 rfl) ?_
          refine lv_bipush (v := (115 : Int32)) hx hb dX8_mayFollow_67 (by decide) ?_
          refine lv_icmp_eq (tgt := 84) hx hb dX8_mayFollow_69 (by decide) (fun c69 => ?_) (fun c69 => ?_)
          · replace hf := zz_pos c69 hf
            exact bk_X8_mayFollow_84 X hT hR (lv_sub hl [1, 2] rfl) hf
          · replace hf := zz_neg c69 hf
            refine lv_iload_n hx hb dX8_mayFollow_72 rfl (lv_at hl 0 rfl) ?_
            refine lv_bipush (v := (116 : Int32)) hx hb dX8_mayFollow_73 (by decide) ?_
            refine lv_icmp_eq (tgt := 84) hx hb dX8_mayFollow_75 (by decide) (fun c75 => ?_) (fun c75 => ?_)
            · replace hf := zz_pos c75 hf
              exact bk_X8_mayFollow_84 X hT hR (lv_sub hl [1, 2] rfl) hf
            · replace hf := zz_neg c75 hf
              refine lv_iload_n hx hb dX8_mayFollow_78 rfl (lv_at hl 0 rfl) ?_
              refine lv_bipush (v := (108 : Int32)) hx hb dX8_mayFollow_79 (by decide) ?_
              refine lv_icmp_ne (tgt := 97) hx hb dX8_mayFollow_81 (by decide) (fun c81 => ?_) (fun c81 => ?_)
              · replace hf := zz_neg c81 hf
                exact bk_X8_mayFollow_97 X hT hR (lv_sub hl [] rfl) hf
              · replace hf := zz_pos c81 hf
                exact bk_X8_mayFollow_84 X hT hR (lv_sub hl [1, 2] rfl) hf
      · replace hf := zz_pos c45 hf
        refine lv_iload_n hx hb dX8_mayFollow_48 rfl (lv_at hl 0 rfl) ?_
        refine lv_bipush (v := (115 : Int32)) hx hb dX8_mayFollow_49 (by decide) ?_
        refine lv_icmp_ne (tgt := 58) hx hb dX8_mayFollow_51 (by decide) (fun c51 => ?_) (fun c51 => ?_)
        · replace hf := zz_neg c51 hf
          refine lv_iconst (v := (0 : Int32)) hx hb dX8_mayFollow_58 (by decide) ?_
          exact bk_X8_mayFollow_59 X hT hR (lv_sub hl [] rfl) hf
        · replace hf := zz_pos c51 hf
          refine lv_iconst (v := (1 : Int32)) hx hb dX8_mayFollow_54 (by decide) ?_
          refine lv_goto (tgt := 59) hx hb dX8_mayFollow_55 (by decide) ?_
          exact bk_X8_mayFollow_59 X hT hR (lv_sub hl [] rfl) hf
    · replace hf := zz_pos c27 hf
      refine lv_iload_n hx hb dX8_mayFollow_30 rfl (lv_at hl 0 rfl) ?_
      refine lv_bipush (v := (119 : Int32)) hx hb dX8_mayFollow_31 (by decide) ?_
      refine lv_icmp_ne (tgt := 40) hx hb dX8_mayFollow_33 (by decide) (fun c33 => ?_) (fun c33 => ?_)
      · replace hf := zz_neg c33 hf
        refine lv_iconst (v := (0 : Int32)) hx hb dX8_mayFollow_40 (by decide) ?_
        exact bk_X8_mayFollow_41 X hT hR (lv_sub hl [] rfl) hf
      · replace hf := zz_pos c33 hf
        refine lv_iconst (v := (1 : Int32)) hx hb dX8_mayFollow_36 (by decide) ?_
        refine lv_goto (tgt := 41) hx hb dX8_mayFollow_37 (by decide) ?_
        exact bk_X8_mayFollow_41 X hT hR (lv_sub hl [] rfl) hf
  · replace hf := zz_pos c11 hf
    refine lv_iload_n hx hb dX8_mayFollow_14 rfl (lv_at hl 2 rfl) ?_
    refine lv_if_ne (tgt := 22) hx hb dX8_mayFollow_15 (by decide) (fun c15 => ?_) (fun c15 => ?_)
    · replace hf := zz_neg c15 hf
      refine lv_iconst (v := (0 : Int32)) hx hb dX8_mayFollow_22 (by decide) ?_
      exact bk_X8_mayFollow_23 X hT hR (lv_sub hl [] rfl) hf
    · replace hf := zz_pos c15 hf
      refine lv_iconst (v := (1 : Int32)) hx hb dX8_mayFollow_18 (by decide) ?_
      refine lv_goto (tgt := 23) hx hb dX8_mayFollow_19 (by decide) ?_
      exact bk_X8_mayFollow_23 X hT hR (lv_sub hl [] rfl) hf
def rm_X8_mayCome : Room := { frames := 3, cells := 0, slots := 0, locals := 67 }
theorem mf_X8_mayCome : zz_Mf yX8_mayCome cX8_mayCome 2 (some .boolean) 1 := ⟨q_611, q_18, by decide +kernel, by decide +kernel, by decide +kernel⟩
set_option maxHeartbeats 4000000 in
set_option maxRecDepth 100000 in
theorem bk_X8_mayCome_24 {D : va_G} {dA : Nat → ClassId} {base t0 : Nat} {l : Launch} {p : Program} {e : Env} {s : State} {m : MethodId} {args : Array Value} {below : List Frame} {meth : Method} {c : Code} (X : zz_X D dA base t0 "Springseat$Steps" cX8_mayCome 2 (some .boolean) l p s m meth c) (hT : l.stackTraces = false) {s0 : Int32} {h : zz_H} {n : Nat} {H : Heap} {locs : List Loc} {ls : Array Slot} (hR : zz_R D dA base h n s H locs) (hl : lv_has ls 2 []) {r0 : Int32} (hf : f_X8_mayCome_24 s0 h = some r0) : W p l e rm_X8_mayCome s m args below meth c H locs 0 0 (MQ below (zz_Qc D dA base (some (.int r0)) h n) args s rm_X8_mayCome.cells rm_X8_mayCome.slots (fun q => base ≤ q)) (F0 m 24 ls [.int s0]) := by
  have hx := X.1
  have hb := X.2.1
  have hown := X.2.2.2.2.1
  unfold f_X8_mayCome_24 at hf
  obtain ⟨hz24, hf⟩ := zz_gz_i hf
  cases hf
  exact zr_zret X hR (zz_nz hz24) dX8_mayCome_24 (Nat.le_of_ble_eq_true rfl) (Nat.le_of_ble_eq_true rfl)
set_option maxHeartbeats 4000000 in
set_option maxRecDepth 100000 in
theorem bk_X8_mayCome_23 {D : va_G} {dA : Nat → ClassId} {base t0 : Nat} {l : Launch} {p : Program} {e : Env} {s : State} {m : MethodId} {args : Array Value} {below : List Frame} {meth : Method} {c : Code} (X : zz_X D dA base t0 "Springseat$Steps" cX8_mayCome 2 (some .boolean) l p s m meth c) (hT : l.stackTraces = false) {h : zz_H} {n : Nat} {H : Heap} {locs : List Loc} {ls : Array Slot} (hR : zz_R D dA base h n s H locs) (hl : lv_has ls 2 []) {r0 : Int32} (hf : f_X8_mayCome_23 h = some r0) : W p l e rm_X8_mayCome s m args below meth c H locs 0 0 (MQ below (zz_Qc D dA base (some (.int r0)) h n) args s rm_X8_mayCome.cells rm_X8_mayCome.slots (fun q => base ≤ q)) (F0 m 23 ls []) := by
  have hx := X.1
  have hb := X.2.1
  have hown := X.2.2.2.2.1
  unfold f_X8_mayCome_23 at hf
  refine lv_iconst (v := (0 : Int32)) hx hb dX8_mayCome_23 (by decide) ?_
  exact bk_X8_mayCome_24 X hT hR (lv_sub hl [] rfl) hf
set_option maxHeartbeats 4000000 in
set_option maxRecDepth 100000 in
theorem mt_X8_mayCome {D : va_G} {dA : Nat → ClassId} {base t0 : Nat} {l : Launch} (hT : l.stackTraces = false) (a0 : Nat) (x1 : Int32) (h : zz_H) (n : Nat) {r0 : Int32} (hf : f_X8_mayCome a0 x1 h = some r0) : zz_M D dA base t0 l yX8_mayCome cX8_mayCome 2 (some .boolean) rm_X8_mayCome [.ref a0, .int x1] h n (some (.int r0)) h n := by
  refine Met.ofW (cc := cX8_mayCome) (maxL := 2) (ret := (some .boolean)) (by decide +kernel) rfl ?_
  intro p e s m args below meth c s₁ B hml hv
  obtain ⟨rfl, hP, hK⟩ := hv
  have X : zz_X D dA base t0 "Springseat$Steps" cX8_mayCome 2 (some .boolean) l p s m meth c := ⟨B.exec, B.bytes, hml, B.returns, findClass_of_methodNamed B.named, B.notSynchronized, hT, by rw [hP.1]; exact hP.2.1, hK⟩
  have hx := X.1
  have hb := X.2.1
  have hown := X.2.2.2.2.1
  have hR : zz_R D dA base h n s s.heap [] := ⟨hP, va_S.rf⟩
  have hl := lv_entry ([.ref a0, .int x1]) (n := 2) (by exact Nat.le_of_ble_eq_true rfl)
  rw [lg_entry_eq]
  generalize (lg_sl ([.ref a0, .int x1]) ++ List.replicate (2 - (lg_sl ([.ref a0, .int x1])).length) Slot.unset).toArray = ls at hl ⊢
  have hl : lv_has ls 2 [(0, .ref a0), (1, .int x1)] := hl
  unfold f_X8_mayCome at hf
  refine lv_aload_n hx hb dX8_mayCome_0 rfl (lv_at hl 0 rfl) ?_
  obtain ⟨fs1, ho1, hf⟩ := zz_obS_i hf
  obtain ⟨v1, hv1, hf⟩ := zz_b_i hf
  refine zr_cV X hR hl.1 (As := []) (rest := []) (C := RX8) (T := TX8) (N := 3) (mt_X8_allSigned hT a0 h n hv1) rfl ho1 mf_X8_allSigned q_612 q_613 q_614 ⟨Nat.le_of_ble_eq_true rfl, Nat.le_of_ble_eq_true rfl⟩ ⟨Nat.le_of_ble_eq_true rfl, Nat.le_of_ble_eq_true rfl⟩ rfl (Nat.le_of_ble_eq_true rfl) dX8_mayCome_1 (fun H locs hR => ?_)
  refine W.eq (g2 := F0 m 4 ls [.int v1]) rfl ?_
  refine lv_if_eq (tgt := 23) hx hb dX8_mayCome_4 (by decide) (fun c4 => ?_) (fun c4 => ?_)
  · replace hf := zz_pos c4 hf
    exact bk_X8_mayCome_23 X hT hR (lv_sub hl [] rfl) hf
  · replace hf := zz_neg c4 hf
    refine lv_aload_n hx hb dX8_mayCome_7 rfl (lv_at hl 0 rfl) ?_
    refine lv_aload_n hx hb dX8_mayCome_8 rfl (lv_at hl 0 rfl) ?_
    refine zr_gi X hR (r := (some a0)) fl_X8_15 dX8_mayCome_9 hf (fun v9 hf => ?_)
    refine lv_iload_n hx hb dX8_mayCome_12 rfl (lv_at hl 1 rfl) ?_
    obtain ⟨fs13, ho13, hf⟩ := zz_obS_i hf
    obtain ⟨v13, hv13, hf⟩ := zz_b_i hf
    refine zr_cV X hR hl.1 (As := [.int v9, .int x1]) (rest := []) (C := RX8) (T := TX8) (N := 3) (mt_X8_mayFollow hT a0 v9 x1 h n hv13) rfl ho13 mf_X8_mayFollow q_242 q_244 qs_3 ⟨Nat.le_of_ble_eq_true rfl, Nat.le_of_ble_eq_true rfl⟩ ⟨Nat.le_of_ble_eq_true rfl, Nat.le_of_ble_eq_true rfl⟩ rfl (Nat.le_of_ble_eq_true rfl) dX8_mayCome_13 (fun H locs hR => ?_)
    refine W.eq (g2 := F0 m 16 ls [.int v13]) rfl ?_
    refine lv_if_eq (tgt := 23) hx hb dX8_mayCome_16 (by decide) (fun c16 => ?_) (fun c16 => ?_)
    · replace hf := zz_pos c16 hf
      exact bk_X8_mayCome_23 X hT hR (lv_sub hl [] rfl) hf
    · replace hf := zz_neg c16 hf
      refine lv_iconst (v := (1 : Int32)) hx hb dX8_mayCome_19 (by decide) ?_
      refine lv_goto (tgt := 24) hx hb dX8_mayCome_20 (by decide) ?_
      exact bk_X8_mayCome_24 X hT hR (lv_sub hl [] rfl) hf
def rm_X8_signLast : Room := { frames := 0, cells := 0, slots := 0, locals := 0 }
theorem mf_X8_signLast : zz_Mf yX8_signLast cX8_signLast 1 (some .int) 0 := ⟨q_827, q_18, by decide +kernel, by decide +kernel, by decide +kernel⟩
set_option maxHeartbeats 4000000 in
set_option maxRecDepth 100000 in
theorem mt_X8_signLast {D : va_G} {dA : Nat → ClassId} {base t0 : Nat} {l : Launch} (hT : l.stackTraces = false) (a0 : Nat) (h : zz_H) (n : Nat) {r0 : Int32} {hF : zz_H} (hf : f_X8_signLast a0 h = some (r0, hF)) : zz_M D dA base t0 l yX8_signLast cX8_signLast 1 (some .int) rm_X8_signLast [.ref a0] h n (some (.int r0)) hF n := by
  refine Met.ofW (cc := cX8_signLast) (maxL := 1) (ret := (some .int)) (by decide +kernel) rfl ?_
  intro p e s m args below meth c s₁ B hml hv
  obtain ⟨rfl, hP, hK⟩ := hv
  have X : zz_X D dA base t0 "Springseat$Steps" cX8_signLast 1 (some .int) l p s m meth c := ⟨B.exec, B.bytes, hml, B.returns, findClass_of_methodNamed B.named, B.notSynchronized, hT, by rw [hP.1]; exact hP.2.1, hK⟩
  have hx := X.1
  have hb := X.2.1
  have hown := X.2.2.2.2.1
  have hR : zz_R D dA base h n s s.heap [] := ⟨hP, va_S.rf⟩
  have hl := lv_entry ([.ref a0]) (n := 1) (by exact Nat.le_of_ble_eq_true rfl)
  rw [lg_entry_eq]
  generalize (lg_sl ([.ref a0]) ++ List.replicate (1 - (lg_sl ([.ref a0])).length) Slot.unset).toArray = ls at hl ⊢
  have hl : lv_has ls 1 [(0, .ref a0)] := hl
  unfold f_X8_signLast at hf
  refine lv_aload_n hx hb dX8_signLast_0 rfl (lv_at hl 0 rfl) ?_
  refine lv_aload_n hx hb dX8_signLast_1 rfl (lv_at hl 0 rfl) ?_
  refine zr_gi X hR (r := (some a0)) fl_X8_15 dX8_signLast_2 hf (fun v2 hf => ?_)
  refine zr_p X hR (r := (some a0)) (v := .int v2) fl_X8_23 rfl dX8_signLast_5 rfl rfl hf (fun h5 H locs hf hR => ?_)
  refine lv_aload_n hx hb dX8_signLast_8 rfl (lv_at hl 0 rfl) ?_
  refine zr_gi X hR (r := (some a0)) fl_X8_23 dX8_signLast_9 hf (fun v9 hf => ?_)
  cases hf
  exact zr_iret X hR dX8_signLast_12 (Nat.le_of_ble_eq_true rfl) (Nat.le_of_ble_eq_true rfl)
def rm_X8_areInOrder : Room := { frames := 3, cells := 0, slots := 0, locals := 67 }
theorem mf_X8_areInOrder : zz_Mf yX8_areInOrder cX8_areInOrder 2 (some .boolean) 0 := ⟨q_237, q_18, by decide +kernel, by decide +kernel, by decide +kernel⟩
set_option maxHeartbeats 4000000 in
set_option maxRecDepth 100000 in
theorem bk_X8_areInOrder_60 {D : va_G} {dA : Nat → ClassId} {base t0 : Nat} {l : Launch} {p : Program} {e : Env} {s : State} {m : MethodId} {args : Array Value} {below : List Frame} {meth : Method} {c : Code} (X : zz_X D dA base t0 "Springseat$Steps" cX8_areInOrder 2 (some .boolean) l p s m meth c) (hT : l.stackTraces = false) {s0 : Int32} {h : zz_H} {n : Nat} {H : Heap} {locs : List Loc} {ls : Array Slot} (hR : zz_R D dA base h n s H locs) (hl : lv_has ls 2 []) {r0 : Int32} (hf : f_X8_areInOrder_60 s0 h = some r0) : W p l e rm_X8_areInOrder s m args below meth c H locs 0 0 (MQ below (zz_Qc D dA base (some (.int r0)) h n) args s rm_X8_areInOrder.cells rm_X8_areInOrder.slots (fun q => base ≤ q)) (F0 m 60 ls [.int s0]) := by
  have hx := X.1
  have hb := X.2.1
  have hown := X.2.2.2.2.1
  unfold f_X8_areInOrder_60 at hf
  obtain ⟨hz60, hf⟩ := zz_gz_i hf
  cases hf
  exact zr_zret X hR (zz_nz hz60) dX8_areInOrder_60 (Nat.le_of_ble_eq_true rfl) (Nat.le_of_ble_eq_true rfl)
set_option maxHeartbeats 4000000 in
set_option maxRecDepth 100000 in
theorem bk_X8_areInOrder_55 {D : va_G} {dA : Nat → ClassId} {base t0 : Nat} {l : Launch} {p : Program} {e : Env} {s : State} {m : MethodId} {args : Array Value} {below : List Frame} {meth : Method} {c : Code} (X : zz_X D dA base t0 "Springseat$Steps" cX8_areInOrder 2 (some .boolean) l p s m meth c) (hT : l.stackTraces = false) {h : zz_H} {n : Nat} {H : Heap} {locs : List Loc} {ls : Array Slot} (hR : zz_R D dA base h n s H locs) (hl : lv_has ls 2 []) {r0 : Int32} (hf : f_X8_areInOrder_55 h = some r0) : W p l e rm_X8_areInOrder s m args below meth c H locs 0 0 (MQ below (zz_Qc D dA base (some (.int r0)) h n) args s rm_X8_areInOrder.cells rm_X8_areInOrder.slots (fun q => base ≤ q)) (F0 m 55 ls []) := by
  have hx := X.1
  have hb := X.2.1
  have hown := X.2.2.2.2.1
  unfold f_X8_areInOrder_55 at hf
  refine lv_iconst (v := (1 : Int32)) hx hb dX8_areInOrder_55 (by decide) ?_
  refine lv_goto (tgt := 60) hx hb dX8_areInOrder_56 (by decide) ?_
  exact bk_X8_areInOrder_60 X hT hR (lv_sub hl [] rfl) hf
set_option maxHeartbeats 4000000 in
set_option maxRecDepth 100000 in
theorem bk_X8_areInOrder_2 {D : va_G} {dA : Nat → ClassId} {base t0 : Nat} {l : Launch} {p : Program} {e : Env} {s : State} {m : MethodId} {args : Array Value} {below : List Frame} {meth : Method} {c : Code} (X : zz_X D dA base t0 "Springseat$Steps" cX8_areInOrder 2 (some .boolean) l p s m meth c) (hT : l.stackTraces = false) {a0 : Nat} {x1 : Int32} {h : zz_H} {n : Nat} {H : Heap} {locs : List Loc} {ls : Array Slot} (hR : zz_R D dA base h n s H locs) (hl : lv_has ls 2 [(0, .ref a0), (1, .int x1)]) {r0 : Int32} {o : (Int32 ⊕ Int32)} (hf : f_X8_areInOrder_2 a0 x1 h = some o) (k0 : ∀ (w1 : Int32), o = (.inl w1) → ∀ {H : Heap} {locs : List Loc} {ls : Array Slot}, zz_R D dA base h n s H locs → lv_has ls 2 [(0, .ref a0), (1, .int w1)] → W p l e rm_X8_areInOrder s m args below meth c H locs 0 0 (MQ below (zz_Qc D dA base (some (.int r0)) h n) args s rm_X8_areInOrder.cells rm_X8_areInOrder.slots (fun q => base ≤ q)) (F0 m 2 ls [])) (hret : ∀ r, o = (.inr r) → r = r0) : W p l e rm_X8_areInOrder s m args below meth c H locs 0 0 (MQ below (zz_Qc D dA base (some (.int r0)) h n) args s rm_X8_areInOrder.cells rm_X8_areInOrder.slots (fun q => base ≤ q)) (F0 m 2 ls []) := by
  have hx := X.1
  have hb := X.2.1
  have hown := X.2.2.2.2.1
  unfold f_X8_areInOrder_2 at hf
  refine lv_iload_n hx hb dX8_areInOrder_2 rfl (lv_at hl 1 rfl) ?_
  refine lv_aload_n hx hb dX8_areInOrder_3 rfl (lv_at hl 0 rfl) ?_
  refine zr_gi X hR (r := (some a0)) fl_X8_15 dX8_areInOrder_4 hf (fun v4 hf => ?_)
  refine lv_icmp_ge (tgt := 31) hx hb dX8_areInOrder_7 (by decide) (fun c7 => ?_) (fun c7 => ?_)
  · replace hf := zz_pos c7 hf
    refine lv_aload_n hx hb dX8_areInOrder_31 rfl (lv_at hl 0 rfl) ?_
    refine zr_gi X hR (r := (some a0)) fl_X8_23 dX8_areInOrder_32 hf (fun v32 hf => ?_)
    refine lv_aload_n hx hb dX8_areInOrder_35 rfl (lv_at hl 0 rfl) ?_
    refine zr_gi X hR (r := (some a0)) fl_X8_15 dX8_areInOrder_36 hf (fun v36 hf => ?_)
    refine lv_icmp_eq (tgt := 55) hx hb dX8_areInOrder_39 (by decide) (fun c39 => ?_) (fun c39 => ?_)
    · replace hf := zz_pos c39 hf
      obtain ⟨o1, hf1, he⟩ := Option.map_eq_some_iff.mp hf
      cases he
      cases hret _ rfl
      exact bk_X8_areInOrder_55 X hT hR (lv_sub hl [] rfl) hf1
    · replace hf := zz_neg c39 hf
      refine lv_aload_n hx hb dX8_areInOrder_42 rfl (lv_at hl 0 rfl) ?_
      refine zr_gi X hR (r := (some a0)) fl_X8_23 dX8_areInOrder_43 hf (fun v43 hf => ?_)
      refine lv_aload_n hx hb dX8_areInOrder_46 rfl (lv_at hl 0 rfl) ?_
      refine zr_gi X hR (r := (some a0)) fl_X8_15 dX8_areInOrder_47 hf (fun v47 hf => ?_)
      refine lv_iconst (v := (1 : Int32)) hx hb dX8_areInOrder_50 (by decide) ?_
      refine lv_isub hx hb dX8_areInOrder_51 ?_
      refine lv_icmp_ne (tgt := 59) hx hb dX8_areInOrder_52 (by decide) (fun c52 => ?_) (fun c52 => ?_)
      · replace hf := zz_neg c52 hf
        refine lv_iconst (v := (0 : Int32)) hx hb dX8_areInOrder_59 (by decide) ?_
        obtain ⟨o1, hf1, he⟩ := Option.map_eq_some_iff.mp hf
        cases he
        cases hret _ rfl
        exact bk_X8_areInOrder_60 X hT hR (lv_sub hl [] rfl) hf1
      · replace hf := zz_pos c52 hf
        obtain ⟨o1, hf1, he⟩ := Option.map_eq_some_iff.mp hf
        cases he
        cases hret _ rfl
        exact bk_X8_areInOrder_55 X hT hR (lv_sub hl [] rfl) hf1
  · replace hf := zz_neg c7 hf
    refine lv_aload_n hx hb dX8_areInOrder_10 rfl (lv_at hl 0 rfl) ?_
    refine lv_iload_n hx hb dX8_areInOrder_11 rfl (lv_at hl 1 rfl) ?_
    refine lv_aload_n hx hb dX8_areInOrder_12 rfl (lv_at hl 0 rfl) ?_
    refine lv_iload_n hx hb dX8_areInOrder_13 rfl (lv_at hl 1 rfl) ?_
    obtain ⟨fs14, ho14, hf⟩ := zz_obS_i hf
    obtain ⟨v14, hv14, hf⟩ := zz_b_i hf
    refine zr_cV X hR hl.1 (As := [.int x1]) (rest := [.int x1, .ref a0]) (C := RX8) (T := TX8) (N := 3) (mt_X8_letterAt hT a0 x1 h n hv14) rfl ho14 mf_X8_letterAt q_238 q_239 q_240 ⟨Nat.le_of_ble_eq_true rfl, Nat.le_of_ble_eq_true rfl⟩ ⟨Nat.le_of_ble_eq_true rfl, Nat.le_of_ble_eq_true rfl⟩ rfl (Nat.le_of_ble_eq_true rfl) dX8_areInOrder_14 (fun H locs hR => ?_)
    refine W.eq (g2 := F0 m 17 ls [.int v14, .int x1, .ref a0]) rfl ?_
    obtain ⟨fs17, ho17, hf⟩ := zz_obS_i hf
    obtain ⟨v17, hv17, hf⟩ := zz_b_i hf
    refine zr_cV X hR hl.1 (As := [.int x1, .int v14]) (rest := []) (C := RX8) (T := TX8) (N := 3) (mt_X8_mayFollow hT a0 x1 v14 h n hv17) rfl ho17 mf_X8_mayFollow q_242 q_244 qs_3 ⟨Nat.le_of_ble_eq_true rfl, Nat.le_of_ble_eq_true rfl⟩ ⟨Nat.le_of_ble_eq_true rfl, Nat.le_of_ble_eq_true rfl⟩ rfl (Nat.le_of_ble_eq_true rfl) dX8_areInOrder_17 (fun H locs hR => ?_)
    refine W.eq (g2 := F0 m 20 ls [.int v17]) rfl ?_
    refine lv_if_ne (tgt := 25) hx hb dX8_areInOrder_20 (by decide) (fun c20 => ?_) (fun c20 => ?_)
    · replace hf := zz_neg c20 hf
      refine lv_iinc (i := 1) (v := (x1 + (1 : Int32))) (lv' := [(1, .int (x1 + (1 : Int32))), (0, .ref a0)]) hx hb dX8_areInOrder_25 hl (k := 1) rfl rfl (by decide) rfl (fun ls hl => ?_)
      refine lv_goto (tgt := 2) hx hb dX8_areInOrder_28 (by decide) ?_
      cases hf
      exact k0 _ rfl hR (lv_sub hl [1, 0] rfl)
    · replace hf := zz_pos c20 hf
      refine lv_iconst (v := (0 : Int32)) hx hb dX8_areInOrder_23 (by decide) ?_
      cases hf
      cases hret _ rfl
      exact zr_zret X hR (v := (0 : Int32)) rfl dX8_areInOrder_24 (Nat.le_of_ble_eq_true rfl) (Nat.le_of_ble_eq_true rfl)
set_option maxHeartbeats 4000000 in
set_option maxRecDepth 100000 in
theorem lp_X8_areInOrder_2 {D : va_G} {dA : Nat → ClassId} {base t0 : Nat} {l : Launch} {p : Program} {e : Env} {s : State} {m : MethodId} {args : Array Value} {below : List Frame} {meth : Method} {c : Code} (X : zz_X D dA base t0 "Springseat$Steps" cX8_areInOrder 2 (some .boolean) l p s m meth c) (hT : l.stackTraces = false) (a0 : Nat) {h : zz_H} {n : Nat} {r0 : Int32} : ∀ (k : Nat) (x1 : Int32), zz_it (fun s : Int32 => f_X8_areInOrder_2 a0 s h) k x1 = some r0 → ∀ {H : Heap} {locs : List Loc} {ls : Array Slot}, zz_R D dA base h n s H locs → lv_has ls 2 [(0, .ref a0), (1, .int x1)] → W p l e rm_X8_areInOrder s m args below meth c H locs 0 0 (MQ below (zz_Qc D dA base (some (.int r0)) h n) args s rm_X8_areInOrder.cells rm_X8_areInOrder.slots (fun q => base ≤ q)) (F0 m 2 ls []) := by
  intro k
  induction k with
  | zero => intro x1 hf; cases hf
  | succ k ih =>
    intro x1 hf H locs ls hR hl
    rcases zz_it_s hf with ⟨y0, h1, h2⟩ | h1
    · exact bk_X8_areInOrder_2 (r0 := r0) X hT hR hl h1  (fun z0 e => by cases e; exact ih _ h2) (fun r e => by cases e)
    · exact bk_X8_areInOrder_2 (r0 := r0) X hT hR hl h1  (fun z0 e => by cases e) (fun r e => (Sum.inr.inj e).symm)
set_option maxHeartbeats 4000000 in
set_option maxRecDepth 100000 in
theorem mt_X8_areInOrder {D : va_G} {dA : Nat → ClassId} {base t0 : Nat} {l : Launch} (hT : l.stackTraces = false) (a0 : Nat) (h : zz_H) (n : Nat) {r0 : Int32} (hf : f_X8_areInOrder a0 h = some r0) : zz_M D dA base t0 l yX8_areInOrder cX8_areInOrder 2 (some .boolean) rm_X8_areInOrder [.ref a0] h n (some (.int r0)) h n := by
  refine Met.ofW (cc := cX8_areInOrder) (maxL := 2) (ret := (some .boolean)) (by decide +kernel) rfl ?_
  intro p e s m args below meth c s₁ B hml hv
  obtain ⟨rfl, hP, hK⟩ := hv
  have X : zz_X D dA base t0 "Springseat$Steps" cX8_areInOrder 2 (some .boolean) l p s m meth c := ⟨B.exec, B.bytes, hml, B.returns, findClass_of_methodNamed B.named, B.notSynchronized, hT, by rw [hP.1]; exact hP.2.1, hK⟩
  have hx := X.1
  have hb := X.2.1
  have hown := X.2.2.2.2.1
  have hR : zz_R D dA base h n s s.heap [] := ⟨hP, va_S.rf⟩
  have hl := lv_entry ([.ref a0]) (n := 2) (by exact Nat.le_of_ble_eq_true rfl)
  rw [lg_entry_eq]
  generalize (lg_sl ([.ref a0]) ++ List.replicate (2 - (lg_sl ([.ref a0])).length) Slot.unset).toArray = ls at hl ⊢
  have hl : lv_has ls 2 [(0, .ref a0)] := hl
  unfold f_X8_areInOrder at hf
  refine lv_iconst (v := (0 : Int32)) hx hb dX8_areInOrder_0 (by decide) ?_
  refine lv_istore_n (i := 1) (lv' := [(1, .int (0 : Int32)), (0, .ref a0)]) hx hb dX8_areInOrder_1 rfl hl (by decide) rfl (fun ls hl => ?_)
  exact lp_X8_areInOrder_2 X hT a0 zz_F _ hf hR (lv_sub hl [1, 0] rfl)
def rm_X9_init : Room := { frames := 5, cells := 20, slots := 198, locals := 108 }
theorem mf_X9_init : zz_Mf yX9_init cX9_init 2 none 0 := ⟨q_33, q_1, by decide +kernel, by decide +kernel, by decide +kernel⟩
set_option maxHeartbeats 4000000 in
set_option maxRecDepth 100000 in
theorem mt_X9_init {D : va_G} {dA : Nat → ClassId} {base t0 : Nat} {l : Launch} (hT : l.stackTraces = false) (a0 : Nat) (h : zz_H) (n : Nat) {r0 : Unit} {hF : zz_H} {nF : Nat} (hf : f_X9_init t0 a0 h n = some (r0, hF, nF)) : zz_M D dA base t0 l yX9_init cX9_init 2 none rm_X9_init [.ref a0] h n none hF nF := by
  refine Met.ofW (cc := cX9_init) (maxL := 2) (ret := none) (by decide +kernel) rfl ?_
  intro p e s m args below meth c s₁ B hml hv
  obtain ⟨rfl, hP, hK⟩ := hv
  have X : zz_X D dA base t0 "Springseat" cX9_init 2 none l p s m meth c := ⟨B.exec, B.bytes, hml, B.returns, findClass_of_methodNamed B.named, B.notSynchronized, hT, by rw [hP.1]; exact hP.2.1, hK⟩
  have hx := X.1
  have hb := X.2.1
  have hown := X.2.2.2.2.1
  have hin : meth.name = "<init>" := (name_of_methodNamed B.named B.method).1
  have hR : zz_R D dA base h n s s.heap [] := ⟨hP, va_S.rf⟩
  have hl := lv_entry ([.ref a0]) (n := 2) (by exact Nat.le_of_ble_eq_true rfl)
  rw [lg_entry_eq]
  generalize (lg_sl ([.ref a0]) ++ List.replicate (2 - (lg_sl ([.ref a0])).length) Slot.unset).toArray = ls at hl ⊢
  have hl : lv_has ls 2 [(0, .ref a0)] := hl
  unfold f_X9_init at hf
  refine lv_aload_n hx hb dX9_init_0 rfl (lv_at hl 0 rfl) ?_
  refine zr_obj X hl.1 q_34 q_35 q_36 dX9_init_1 (Nat.le_of_ble_eq_true rfl) ⟨Nat.le_of_ble_eq_true rfl, Nat.le_of_ble_eq_true rfl⟩ ?_
  refine W.eq (g2 := F0 m 4 ls []) rfl ?_
  refine lv_aload_n hx hb dX9_init_4 rfl (lv_at hl 0 rfl) ?_
  refine zr_new X hR (fs := [.int 0, .null, .int 0]) zc0 q_37 q_38 q_4 (fun j hj => by rcases (show j = 0 ∨ j = 1 ∨ j = 2 by omega) with rfl | rfl | rfl <;> rfl) (Nat.le_of_ble_eq_true rfl) (Nat.le_of_ble_eq_true rfl) dX9_init_5 (fun H hR => ?_)
  refine W.widen (k := 1) (n := 3) (Nat.le_of_ble_eq_true rfl) (Nat.le_of_ble_eq_true rfl) ?_
  refine lv_dup hx hb dX9_init_8 rfl ?_
  obtain ⟨u9, h9, n9, hv9, hf⟩ := zz_b2_i hf
  refine zr_cI X hR hl.1 (As := []) (rest := [.ref n, .ref a0]) (mt_Jx4a65c_init_da8c8 hT n (zz_u h n (.inr (0, [.int 0, .null, .int 0]))) (n + 1) hv9) mf_Jx4a65c_init_da8c8 rfl q_39 q_40 ⟨Nat.le_of_ble_eq_true rfl, Nat.le_of_ble_eq_true rfl⟩ ⟨Nat.le_of_ble_eq_true rfl, Nat.le_of_ble_eq_true rfl⟩ rfl (Nat.le_of_ble_eq_true rfl) dX9_init_9 (fun H locs hR => ?_)
  refine W.eq (g2 := F0 m 12 ls [.ref n, .ref a0]) rfl ?_
  refine zr_pF X hR (r := (some a0)) (v := .ref n) fl_X9_10 rfl hin rfl dX9_init_12 (zz_nr rfl (some n)).1 (zz_nr rfl (some n)).2 hf (fun h12 H locs hf hR => ?_)
  refine lv_aload_n hx hb dX9_init_15 rfl (lv_at hl 0 rfl) ?_
  refine zr_new X hR (fs := [.int 0, .null, .int 0]) zc0 q_37 q_38 q_4 (fun j hj => by rcases (show j = 0 ∨ j = 1 ∨ j = 2 by omega) with rfl | rfl | rfl <;> rfl) (Nat.le_of_ble_eq_true rfl) (Nat.le_of_ble_eq_true rfl) dX9_init_16 (fun H hR => ?_)
  refine W.widen (k := 2) (n := 6) (Nat.le_of_ble_eq_true rfl) (Nat.le_of_ble_eq_true rfl) ?_
  refine lv_dup hx hb dX9_init_19 rfl ?_
  obtain ⟨u20, h20, n20, hv20, hf⟩ := zz_b2_i hf
  refine zr_cI X hR hl.1 (As := []) (rest := [.ref n9, .ref a0]) (mt_Jx4a65c_init_da8c8 hT n9 (zz_u h12 n9 (.inr (0, [.int 0, .null, .int 0]))) (n9 + 1) hv20) mf_Jx4a65c_init_da8c8 rfl q_39 q_40 ⟨Nat.le_of_ble_eq_true rfl, Nat.le_of_ble_eq_true rfl⟩ ⟨Nat.le_of_ble_eq_true rfl, Nat.le_of_ble_eq_true rfl⟩ rfl (Nat.le_of_ble_eq_true rfl) dX9_init_20 (fun H locs hR => ?_)
  refine W.eq (g2 := F0 m 23 ls [.ref n9, .ref a0]) rfl ?_
  refine zr_pF X hR (r := (some a0)) (v := .ref n9) fl_X9_16 rfl hin rfl dX9_init_23 (zz_nr rfl (some n9)).1 (zz_nr rfl (some n9)).2 hf (fun h23 H locs hf hR => ?_)
  refine lv_aload_n hx hb dX9_init_26 rfl (lv_at hl 0 rfl) ?_
  refine zr_new X hR (fs := [.int 0, .null, .int 0]) zc0 q_37 q_38 q_4 (fun j hj => by rcases (show j = 0 ∨ j = 1 ∨ j = 2 by omega) with rfl | rfl | rfl <;> rfl) (Nat.le_of_ble_eq_true rfl) (Nat.le_of_ble_eq_true rfl) dX9_init_27 (fun H hR => ?_)
  refine W.widen (k := 3) (n := 9) (Nat.le_of_ble_eq_true rfl) (Nat.le_of_ble_eq_true rfl) ?_
  refine lv_dup hx hb dX9_init_30 rfl ?_
  obtain ⟨u31, h31, n31, hv31, hf⟩ := zz_b2_i hf
  refine zr_cI X hR hl.1 (As := []) (rest := [.ref n20, .ref a0]) (mt_Jx4a65c_init_da8c8 hT n20 (zz_u h23 n20 (.inr (0, [.int 0, .null, .int 0]))) (n20 + 1) hv31) mf_Jx4a65c_init_da8c8 rfl q_39 q_40 ⟨Nat.le_of_ble_eq_true rfl, Nat.le_of_ble_eq_true rfl⟩ ⟨Nat.le_of_ble_eq_true rfl, Nat.le_of_ble_eq_true rfl⟩ rfl (Nat.le_of_ble_eq_true rfl) dX9_init_31 (fun H locs hR => ?_)
  refine W.eq (g2 := F0 m 34 ls [.ref n20, .ref a0]) rfl ?_
  refine zr_pF X hR (r := (some a0)) (v := .ref n20) fl_X9_19 rfl hin rfl dX9_init_34 (zz_nr rfl (some n20)).1 (zz_nr rfl (some n20)).2 hf (fun h34 H locs hf hR => ?_)
  refine lv_aload_n hx hb dX9_init_37 rfl (lv_at hl 0 rfl) ?_
  refine zr_new X hR (fs := [.int 0, .null, .int 0]) zc0 q_37 q_38 q_4 (fun j hj => by rcases (show j = 0 ∨ j = 1 ∨ j = 2 by omega) with rfl | rfl | rfl <;> rfl) (Nat.le_of_ble_eq_true rfl) (Nat.le_of_ble_eq_true rfl) dX9_init_38 (fun H hR => ?_)
  refine W.widen (k := 4) (n := 12) (Nat.le_of_ble_eq_true rfl) (Nat.le_of_ble_eq_true rfl) ?_
  refine lv_dup hx hb dX9_init_41 rfl ?_
  obtain ⟨u42, h42, n42, hv42, hf⟩ := zz_b2_i hf
  refine zr_cI X hR hl.1 (As := []) (rest := [.ref n31, .ref a0]) (mt_Jx4a65c_init_da8c8 hT n31 (zz_u h34 n31 (.inr (0, [.int 0, .null, .int 0]))) (n31 + 1) hv42) mf_Jx4a65c_init_da8c8 rfl q_39 q_40 ⟨Nat.le_of_ble_eq_true rfl, Nat.le_of_ble_eq_true rfl⟩ ⟨Nat.le_of_ble_eq_true rfl, Nat.le_of_ble_eq_true rfl⟩ rfl (Nat.le_of_ble_eq_true rfl) dX9_init_42 (fun H locs hR => ?_)
  refine W.eq (g2 := F0 m 45 ls [.ref n31, .ref a0]) rfl ?_
  refine zr_pF X hR (r := (some a0)) (v := .ref n31) fl_X9_22 rfl hin rfl dX9_init_45 (zz_nr rfl (some n31)).1 (zz_nr rfl (some n31)).2 hf (fun h45 H locs hf hR => ?_)
  refine lv_aload_n hx hb dX9_init_48 rfl (lv_at hl 0 rfl) ?_
  refine zr_new X hR (fs := [.null]) zc5 q_63 q_64 q_5 (fun j hj => by rcases (show j = 0 by omega) with rfl <;> rfl) (Nat.le_of_ble_eq_true rfl) (Nat.le_of_ble_eq_true rfl) dX9_init_49 (fun H hR => ?_)
  refine W.widen (k := 5) (n := 13) (Nat.le_of_ble_eq_true rfl) (Nat.le_of_ble_eq_true rfl) ?_
  refine lv_dup hx hb dX9_init_52 rfl ?_
  obtain ⟨u53, h53, n53, hv53, hf⟩ := zz_b2_i hf
  refine zr_cIN X hR hl.1 (As := []) (rest := [.ref n42, .ref a0]) (mt_X4_init hT n42 (zz_u h45 n42 (.inr (5, [.null]))) (n42 + 1) hv53) mf_X4_init rfl q_65 q_66 ⟨Nat.le_of_ble_eq_true rfl, Nat.le_of_ble_eq_true rfl⟩ ⟨Nat.le_of_ble_eq_true rfl, Nat.le_of_ble_eq_true rfl⟩ rfl (Nat.le_of_ble_eq_true rfl) dX9_init_53 (fun H locs hR => ?_)
  refine W.eq (g2 := F0 m 56 ls [.ref n42, .ref a0]) rfl ?_
  refine W.widen (k := 6) (n := 69) (Nat.le_of_ble_eq_true rfl) (Nat.le_of_ble_eq_true rfl) ?_
  refine zr_pF X hR (r := (some a0)) (v := .ref n42) fl_X9_28 rfl hin rfl dX9_init_56 (zz_nr rfl (some n42)).1 (zz_nr rfl (some n42)).2 hf (fun h56 H locs hf hR => ?_)
  refine lv_aload_n hx hb dX9_init_59 rfl (lv_at hl 0 rfl) ?_
  refine zr_new X hR (fs := [.null]) zc5 q_63 q_64 q_5 (fun j hj => by rcases (show j = 0 by omega) with rfl <;> rfl) (Nat.le_of_ble_eq_true rfl) (Nat.le_of_ble_eq_true rfl) dX9_init_60 (fun H hR => ?_)
  refine W.widen (k := 7) (n := 70) (Nat.le_of_ble_eq_true rfl) (Nat.le_of_ble_eq_true rfl) ?_
  refine lv_dup hx hb dX9_init_63 rfl ?_
  obtain ⟨u64, h64, n64, hv64, hf⟩ := zz_b2_i hf
  refine zr_cIN X hR hl.1 (As := []) (rest := [.ref n53, .ref a0]) (mt_X4_init hT n53 (zz_u h56 n53 (.inr (5, [.null]))) (n53 + 1) hv64) mf_X4_init rfl q_65 q_66 ⟨Nat.le_of_ble_eq_true rfl, Nat.le_of_ble_eq_true rfl⟩ ⟨Nat.le_of_ble_eq_true rfl, Nat.le_of_ble_eq_true rfl⟩ rfl (Nat.le_of_ble_eq_true rfl) dX9_init_64 (fun H locs hR => ?_)
  refine W.eq (g2 := F0 m 67 ls [.ref n53, .ref a0]) rfl ?_
  refine W.widen (k := 8) (n := 126) (Nat.le_of_ble_eq_true rfl) (Nat.le_of_ble_eq_true rfl) ?_
  refine zr_pF X hR (r := (some a0)) (v := .ref n53) fl_X9_32 rfl hin rfl dX9_init_67 (zz_nr rfl (some n53)).1 (zz_nr rfl (some n53)).2 hf (fun h67 H locs hf hR => ?_)
  refine lv_iconst (v := (0 : Int32)) hx hb dX9_init_70 (by decide) ?_
  refine lv_istore_n (i := 1) (lv' := [(1, .int (0 : Int32)), (0, .ref a0)]) hx hb dX9_init_71 rfl hl (by decide) rfl (fun ls hl => ?_)
  refine lv_iload_n hx hb dX9_init_72 rfl (lv_at hl 0 rfl) ?_
  refine lv_iconst (v := (4 : Int32)) hx hb dX9_init_73 (by decide) ?_
  refine lv_icmp_ge (tgt := 98) hx hb dX9_init_74 (by decide) (fun c74 => ?_) (fun c74 => ?_)
  · replace hf := zz_pos c74 hf
    cases hf
    exact zr_vret X hR dX9_init_98 (Nat.le_of_ble_eq_true rfl) (Nat.le_of_ble_eq_true rfl)
  · replace hf := zz_neg c74 hf
    refine lv_aload_n hx hb dX9_init_77 rfl (lv_at hl 1 rfl) ?_
    refine zr_gq X hR (r := (some a0)) fl_X9_22 dX9_init_78 hf (fun v78 hf => ?_)
    refine zr_new X hR (fs := [.int 0, .int 0]) zc6 q_74 q_75 q_6 (fun j hj => by rcases (show j = 0 ∨ j = 1 by omega) with rfl | rfl <;> rfl) (Nat.le_of_ble_eq_true rfl) (Nat.le_of_ble_eq_true rfl) dX9_init_81 (fun H hR => ?_)
    refine W.widen (k := 9) (n := 128) (Nat.le_of_ble_eq_true rfl) (Nat.le_of_ble_eq_true rfl) ?_
    refine lv_dup hx hb dX9_init_84 rfl ?_
    obtain ⟨u85, h85_1, hv85, hf⟩ := zz_b1_i hf
    refine zr_cIN X hR hl.1 (As := []) (rest := [.ref n64, va_rf v78]) (mt_X5_init hT n64 (zz_u h67 n64 (.inr (6, [.int 0, .int 0]))) (n64 + 1) hv85) mf_X5_init rfl q_76 q_77 ⟨Nat.le_of_ble_eq_true rfl, Nat.le_of_ble_eq_true rfl⟩ ⟨Nat.le_of_ble_eq_true rfl, Nat.le_of_ble_eq_true rfl⟩ rfl (Nat.le_of_ble_eq_true rfl) dX9_init_85 (fun H locs hR => ?_)
    refine W.eq (g2 := F0 m 88 ls [.ref n64, va_rf v78]) rfl ?_
    obtain ⟨b88, fs88, hr88, ho88, hf⟩ := zz_ob_i hf
    obtain ⟨v88_1, h88_1, n88_1, hv88, hf⟩ := zz_b2_i hf
    refine zr_cV X hR hl.1 (As := [.ref n64]) (rest := []) (C := RJx4a65c) (T := TJx4a65c) (N := 3) (mt_Jx4a65c_add_9ea2d hT b88 (some n64) h85_1 (n64 + 1) hv88) rfl ho88 mf_Jx4a65c_add_9ea2d q_89 q_90 q_91 ⟨Nat.le_of_ble_eq_true rfl, Nat.le_of_ble_eq_true rfl⟩ ⟨Nat.le_of_ble_eq_true rfl, Nat.le_of_ble_eq_true rfl⟩ (by rw [hr88]; rfl) (Nat.le_of_ble_eq_true rfl) dX9_init_88 (fun H locs hR => ?_)
    refine W.eq (g2 := F0 m 91 ls [.int v88_1]) rfl ?_
    refine W.widen (k := 10) (n := 138) (Nat.le_of_ble_eq_true rfl) (Nat.le_of_ble_eq_true rfl) ?_
    refine lv_pop hx hb dX9_init_91 rfl ?_
    refine lv_iinc (i := 1) (v := ((0 : Int32) + (1 : Int32))) (lv' := [(1, .int ((0 : Int32) + (1 : Int32))), (0, .ref a0)]) hx hb dX9_init_92 hl (k := 0) rfl rfl (by decide) rfl (fun ls hl => ?_)
    refine lv_goto (tgt := 72) hx hb dX9_init_95 (by decide) ?_
    refine lv_iload_n hx hb dX9_init_72 rfl (lv_at hl 0 rfl) ?_
    refine lv_iconst (v := (4 : Int32)) hx hb dX9_init_73 (by decide) ?_
    refine lv_icmp_ge (tgt := 98) hx hb dX9_init_74 (by decide) (fun c74 => ?_) (fun c74 => ?_)
    · replace hf := zz_pos c74 hf
      cases hf
      exact zr_vret X hR dX9_init_98 (Nat.le_of_ble_eq_true rfl) (Nat.le_of_ble_eq_true rfl)
    · replace hf := zz_neg c74 hf
      refine lv_aload_n hx hb dX9_init_77 rfl (lv_at hl 1 rfl) ?_
      refine zr_gq X hR (r := (some a0)) fl_X9_22 dX9_init_78 hf (fun v78 hf => ?_)
      refine zr_new X hR (fs := [.int 0, .int 0]) zc6 q_74 q_75 q_6 (fun j hj => by rcases (show j = 0 ∨ j = 1 by omega) with rfl | rfl <;> rfl) (Nat.le_of_ble_eq_true rfl) (Nat.le_of_ble_eq_true rfl) dX9_init_81 (fun H hR => ?_)
      refine W.widen (k := 11) (n := 140) (Nat.le_of_ble_eq_true rfl) (Nat.le_of_ble_eq_true rfl) ?_
      refine lv_dup hx hb dX9_init_84 rfl ?_
      obtain ⟨u85, h85_3, hv85, hf⟩ := zz_b1_i hf
      refine zr_cIN X hR hl.1 (As := []) (rest := [.ref n88_1, va_rf v78]) (mt_X5_init hT n88_1 (zz_u h88_1 n88_1 (.inr (6, [.int 0, .int 0]))) (n88_1 + 1) hv85) mf_X5_init rfl q_76 q_77 ⟨Nat.le_of_ble_eq_true rfl, Nat.le_of_ble_eq_true rfl⟩ ⟨Nat.le_of_ble_eq_true rfl, Nat.le_of_ble_eq_true rfl⟩ rfl (Nat.le_of_ble_eq_true rfl) dX9_init_85 (fun H locs hR => ?_)
      refine W.eq (g2 := F0 m 88 ls [.ref n88_1, va_rf v78]) rfl ?_
      obtain ⟨b88, fs88, hr88, ho88, hf⟩ := zz_ob_i hf
      obtain ⟨v88_3, h88_3, n88_3, hv88, hf⟩ := zz_b2_i hf
      refine zr_cV X hR hl.1 (As := [.ref n88_1]) (rest := []) (C := RJx4a65c) (T := TJx4a65c) (N := 3) (mt_Jx4a65c_add_9ea2d hT b88 (some n88_1) h85_3 (n88_1 + 1) hv88) rfl ho88 mf_Jx4a65c_add_9ea2d q_89 q_90 q_91 ⟨Nat.le_of_ble_eq_true rfl, Nat.le_of_ble_eq_true rfl⟩ ⟨Nat.le_of_ble_eq_true rfl, Nat.le_of_ble_eq_true rfl⟩ (by rw [hr88]; rfl) (Nat.le_of_ble_eq_true rfl) dX9_init_88 (fun H locs hR => ?_)
      refine W.eq (g2 := F0 m 91 ls [.int v88_3]) rfl ?_
      refine W.widen (k := 12) (n := 150) (Nat.le_of_ble_eq_true rfl) (Nat.le_of_ble_eq_true rfl) ?_
      refine lv_pop hx hb dX9_init_91 rfl ?_
      refine lv_iinc (i := 1) (v := (((0 : Int32) + (1 : Int32)) + (1 : Int32))) (lv' := [(1, .int (((0 : Int32) + (1 : Int32)) + (1 : Int32))), (0, .ref a0)]) hx hb dX9_init_92 hl (k := 0) rfl rfl (by decide) rfl (fun ls hl => ?_)
      refine lv_goto (tgt := 72) hx hb dX9_init_95 (by decide) ?_
      refine lv_iload_n hx hb dX9_init_72 rfl (lv_at hl 0 rfl) ?_
      refine lv_iconst (v := (4 : Int32)) hx hb dX9_init_73 (by decide) ?_
      refine lv_icmp_ge (tgt := 98) hx hb dX9_init_74 (by decide) (fun c74 => ?_) (fun c74 => ?_)
      · replace hf := zz_pos c74 hf
        cases hf
        exact zr_vret X hR dX9_init_98 (Nat.le_of_ble_eq_true rfl) (Nat.le_of_ble_eq_true rfl)
      · replace hf := zz_neg c74 hf
        refine lv_aload_n hx hb dX9_init_77 rfl (lv_at hl 1 rfl) ?_
        refine zr_gq X hR (r := (some a0)) fl_X9_22 dX9_init_78 hf (fun v78 hf => ?_)
        refine zr_new X hR (fs := [.int 0, .int 0]) zc6 q_74 q_75 q_6 (fun j hj => by rcases (show j = 0 ∨ j = 1 by omega) with rfl | rfl <;> rfl) (Nat.le_of_ble_eq_true rfl) (Nat.le_of_ble_eq_true rfl) dX9_init_81 (fun H hR => ?_)
        refine W.widen (k := 13) (n := 152) (Nat.le_of_ble_eq_true rfl) (Nat.le_of_ble_eq_true rfl) ?_
        refine lv_dup hx hb dX9_init_84 rfl ?_
        obtain ⟨u85, h85_5, hv85, hf⟩ := zz_b1_i hf
        refine zr_cIN X hR hl.1 (As := []) (rest := [.ref n88_3, va_rf v78]) (mt_X5_init hT n88_3 (zz_u h88_3 n88_3 (.inr (6, [.int 0, .int 0]))) (n88_3 + 1) hv85) mf_X5_init rfl q_76 q_77 ⟨Nat.le_of_ble_eq_true rfl, Nat.le_of_ble_eq_true rfl⟩ ⟨Nat.le_of_ble_eq_true rfl, Nat.le_of_ble_eq_true rfl⟩ rfl (Nat.le_of_ble_eq_true rfl) dX9_init_85 (fun H locs hR => ?_)
        refine W.eq (g2 := F0 m 88 ls [.ref n88_3, va_rf v78]) rfl ?_
        obtain ⟨b88, fs88, hr88, ho88, hf⟩ := zz_ob_i hf
        obtain ⟨v88_5, h88_5, n88_5, hv88, hf⟩ := zz_b2_i hf
        refine zr_cV X hR hl.1 (As := [.ref n88_3]) (rest := []) (C := RJx4a65c) (T := TJx4a65c) (N := 3) (mt_Jx4a65c_add_9ea2d hT b88 (some n88_3) h85_5 (n88_3 + 1) hv88) rfl ho88 mf_Jx4a65c_add_9ea2d q_89 q_90 q_91 ⟨Nat.le_of_ble_eq_true rfl, Nat.le_of_ble_eq_true rfl⟩ ⟨Nat.le_of_ble_eq_true rfl, Nat.le_of_ble_eq_true rfl⟩ (by rw [hr88]; rfl) (Nat.le_of_ble_eq_true rfl) dX9_init_88 (fun H locs hR => ?_)
        refine W.eq (g2 := F0 m 91 ls [.int v88_5]) rfl ?_
        refine W.widen (k := 14) (n := 162) (Nat.le_of_ble_eq_true rfl) (Nat.le_of_ble_eq_true rfl) ?_
        refine lv_pop hx hb dX9_init_91 rfl ?_
        refine lv_iinc (i := 1) (v := ((((0 : Int32) + (1 : Int32)) + (1 : Int32)) + (1 : Int32))) (lv' := [(1, .int ((((0 : Int32) + (1 : Int32)) + (1 : Int32)) + (1 : Int32))), (0, .ref a0)]) hx hb dX9_init_92 hl (k := 0) rfl rfl (by decide) rfl (fun ls hl => ?_)
        refine lv_goto (tgt := 72) hx hb dX9_init_95 (by decide) ?_
        refine lv_iload_n hx hb dX9_init_72 rfl (lv_at hl 0 rfl) ?_
        refine lv_iconst (v := (4 : Int32)) hx hb dX9_init_73 (by decide) ?_
        refine lv_icmp_ge (tgt := 98) hx hb dX9_init_74 (by decide) (fun c74 => ?_) (fun c74 => ?_)
        · replace hf := zz_pos c74 hf
          cases hf
          exact zr_vret X hR dX9_init_98 (Nat.le_of_ble_eq_true rfl) (Nat.le_of_ble_eq_true rfl)
        · replace hf := zz_neg c74 hf
          refine lv_aload_n hx hb dX9_init_77 rfl (lv_at hl 1 rfl) ?_
          refine zr_gq X hR (r := (some a0)) fl_X9_22 dX9_init_78 hf (fun v78 hf => ?_)
          refine zr_new X hR (fs := [.int 0, .int 0]) zc6 q_74 q_75 q_6 (fun j hj => by rcases (show j = 0 ∨ j = 1 by omega) with rfl | rfl <;> rfl) (Nat.le_of_ble_eq_true rfl) (Nat.le_of_ble_eq_true rfl) dX9_init_81 (fun H hR => ?_)
          refine W.widen (k := 15) (n := 164) (Nat.le_of_ble_eq_true rfl) (Nat.le_of_ble_eq_true rfl) ?_
          refine lv_dup hx hb dX9_init_84 rfl ?_
          obtain ⟨u85, h85_7, hv85, hf⟩ := zz_b1_i hf
          refine zr_cIN X hR hl.1 (As := []) (rest := [.ref n88_5, va_rf v78]) (mt_X5_init hT n88_5 (zz_u h88_5 n88_5 (.inr (6, [.int 0, .int 0]))) (n88_5 + 1) hv85) mf_X5_init rfl q_76 q_77 ⟨Nat.le_of_ble_eq_true rfl, Nat.le_of_ble_eq_true rfl⟩ ⟨Nat.le_of_ble_eq_true rfl, Nat.le_of_ble_eq_true rfl⟩ rfl (Nat.le_of_ble_eq_true rfl) dX9_init_85 (fun H locs hR => ?_)
          refine W.eq (g2 := F0 m 88 ls [.ref n88_5, va_rf v78]) rfl ?_
          obtain ⟨b88, fs88, hr88, ho88, hf⟩ := zz_ob_i hf
          obtain ⟨v88_7, h88_7, n88_7, hv88, hf⟩ := zz_b2_i hf
          refine zr_cV X hR hl.1 (As := [.ref n88_5]) (rest := []) (C := RJx4a65c) (T := TJx4a65c) (N := 3) (mt_Jx4a65c_add_9ea2d hT b88 (some n88_5) h85_7 (n88_5 + 1) hv88) rfl ho88 mf_Jx4a65c_add_9ea2d q_89 q_90 q_91 ⟨Nat.le_of_ble_eq_true rfl, Nat.le_of_ble_eq_true rfl⟩ ⟨Nat.le_of_ble_eq_true rfl, Nat.le_of_ble_eq_true rfl⟩ (by rw [hr88]; rfl) (Nat.le_of_ble_eq_true rfl) dX9_init_88 (fun H locs hR => ?_)
          refine W.eq (g2 := F0 m 91 ls [.int v88_7]) rfl ?_
          refine W.widen (k := 16) (n := 174) (Nat.le_of_ble_eq_true rfl) (Nat.le_of_ble_eq_true rfl) ?_
          refine lv_pop hx hb dX9_init_91 rfl ?_
          refine lv_iinc (i := 1) (v := (((((0 : Int32) + (1 : Int32)) + (1 : Int32)) + (1 : Int32)) + (1 : Int32))) (lv' := [(1, .int (((((0 : Int32) + (1 : Int32)) + (1 : Int32)) + (1 : Int32)) + (1 : Int32))), (0, .ref a0)]) hx hb dX9_init_92 hl (k := 0) rfl rfl (by decide) rfl (fun ls hl => ?_)
          refine lv_goto (tgt := 72) hx hb dX9_init_95 (by decide) ?_
          refine lv_iload_n hx hb dX9_init_72 rfl (lv_at hl 0 rfl) ?_
          refine lv_iconst (v := (4 : Int32)) hx hb dX9_init_73 (by decide) ?_
          refine lv_icmp_ge (tgt := 98) hx hb dX9_init_74 (by decide) (fun c74 => ?_) (fun c74 => ?_)
          · replace hf := zz_pos c74 hf
            cases hf
            exact zr_vret X hR dX9_init_98 (Nat.le_of_ble_eq_true rfl) (Nat.le_of_ble_eq_true rfl)
          · replace hf := zz_neg c74 hf
            refine lv_aload_n hx hb dX9_init_77 rfl (lv_at hl 1 rfl) ?_
            refine zr_gq X hR (r := (some a0)) fl_X9_22 dX9_init_78 hf (fun v78 hf => ?_)
            refine zr_new X hR (fs := [.int 0, .int 0]) zc6 q_74 q_75 q_6 (fun j hj => by rcases (show j = 0 ∨ j = 1 by omega) with rfl | rfl <;> rfl) (Nat.le_of_ble_eq_true rfl) (Nat.le_of_ble_eq_true rfl) dX9_init_81 (fun H hR => ?_)
            refine W.widen (k := 17) (n := 176) (Nat.le_of_ble_eq_true rfl) (Nat.le_of_ble_eq_true rfl) ?_
            refine lv_dup hx hb dX9_init_84 rfl ?_
            obtain ⟨u85, h85_9, hv85, hf⟩ := zz_b1_i hf
            refine zr_cIN X hR hl.1 (As := []) (rest := [.ref n88_7, va_rf v78]) (mt_X5_init hT n88_7 (zz_u h88_7 n88_7 (.inr (6, [.int 0, .int 0]))) (n88_7 + 1) hv85) mf_X5_init rfl q_76 q_77 ⟨Nat.le_of_ble_eq_true rfl, Nat.le_of_ble_eq_true rfl⟩ ⟨Nat.le_of_ble_eq_true rfl, Nat.le_of_ble_eq_true rfl⟩ rfl (Nat.le_of_ble_eq_true rfl) dX9_init_85 (fun H locs hR => ?_)
            refine W.eq (g2 := F0 m 88 ls [.ref n88_7, va_rf v78]) rfl ?_
            obtain ⟨b88, fs88, hr88, ho88, hf⟩ := zz_ob_i hf
            obtain ⟨v88_9, h88_9, n88_9, hv88, hf⟩ := zz_b2_i hf
            refine zr_cV X hR hl.1 (As := [.ref n88_7]) (rest := []) (C := RJx4a65c) (T := TJx4a65c) (N := 3) (mt_Jx4a65c_add_9ea2d hT b88 (some n88_7) h85_9 (n88_7 + 1) hv88) rfl ho88 mf_Jx4a65c_add_9ea2d q_89 q_90 q_91 ⟨Nat.le_of_ble_eq_true rfl, Nat.le_of_ble_eq_true rfl⟩ ⟨Nat.le_of_ble_eq_true rfl, Nat.le_of_ble_eq_true rfl⟩ (by rw [hr88]; rfl) (Nat.le_of_ble_eq_true rfl) dX9_init_88 (fun H locs hR => ?_)
            refine W.eq (g2 := F0 m 91 ls [.int v88_9]) rfl ?_
            refine W.widen (k := 18) (n := 186) (Nat.le_of_ble_eq_true rfl) (Nat.le_of_ble_eq_true rfl) ?_
            refine lv_pop hx hb dX9_init_91 rfl ?_
            refine lv_iinc (i := 1) (v := ((((((0 : Int32) + (1 : Int32)) + (1 : Int32)) + (1 : Int32)) + (1 : Int32)) + (1 : Int32))) (lv' := [(1, .int ((((((0 : Int32) + (1 : Int32)) + (1 : Int32)) + (1 : Int32)) + (1 : Int32)) + (1 : Int32))), (0, .ref a0)]) hx hb dX9_init_92 hl (k := 0) rfl rfl (by decide) rfl (fun ls hl => ?_)
            refine lv_goto (tgt := 72) hx hb dX9_init_95 (by decide) ?_
            refine lv_iload_n hx hb dX9_init_72 rfl (lv_at hl 0 rfl) ?_
            refine lv_iconst (v := (4 : Int32)) hx hb dX9_init_73 (by decide) ?_
            refine lv_icmp_ge (tgt := 98) hx hb dX9_init_74 (by decide) (fun c74 => ?_) (fun c74 => ?_)
            · replace hf := zz_pos c74 hf
              cases hf
              exact zr_vret X hR dX9_init_98 (Nat.le_of_ble_eq_true rfl) (Nat.le_of_ble_eq_true rfl)
            · replace hf := zz_neg c74 hf
              refine lv_aload_n hx hb dX9_init_77 rfl (lv_at hl 1 rfl) ?_
              refine zr_gq X hR (r := (some a0)) fl_X9_22 dX9_init_78 hf (fun v78 hf => ?_)
              refine zr_new X hR (fs := [.int 0, .int 0]) zc6 q_74 q_75 q_6 (fun j hj => by rcases (show j = 0 ∨ j = 1 by omega) with rfl | rfl <;> rfl) (Nat.le_of_ble_eq_true rfl) (Nat.le_of_ble_eq_true rfl) dX9_init_81 (fun H hR => ?_)
              refine W.widen (k := 19) (n := 188) (Nat.le_of_ble_eq_true rfl) (Nat.le_of_ble_eq_true rfl) ?_
              refine lv_dup hx hb dX9_init_84 rfl ?_
              obtain ⟨u85, h85_11, hv85, hf⟩ := zz_b1_i hf
              refine zr_cIN X hR hl.1 (As := []) (rest := [.ref n88_9, va_rf v78]) (mt_X5_init hT n88_9 (zz_u h88_9 n88_9 (.inr (6, [.int 0, .int 0]))) (n88_9 + 1) hv85) mf_X5_init rfl q_76 q_77 ⟨Nat.le_of_ble_eq_true rfl, Nat.le_of_ble_eq_true rfl⟩ ⟨Nat.le_of_ble_eq_true rfl, Nat.le_of_ble_eq_true rfl⟩ rfl (Nat.le_of_ble_eq_true rfl) dX9_init_85 (fun H locs hR => ?_)
              refine W.eq (g2 := F0 m 88 ls [.ref n88_9, va_rf v78]) rfl ?_
              obtain ⟨b88, fs88, hr88, ho88, hf⟩ := zz_ob_i hf
              obtain ⟨v88_11, h88_11, n88_11, hv88, hf⟩ := zz_b2_i hf
              refine zr_cV X hR hl.1 (As := [.ref n88_9]) (rest := []) (C := RJx4a65c) (T := TJx4a65c) (N := 3) (mt_Jx4a65c_add_9ea2d hT b88 (some n88_9) h85_11 (n88_9 + 1) hv88) rfl ho88 mf_Jx4a65c_add_9ea2d q_89 q_90 q_91 ⟨Nat.le_of_ble_eq_true rfl, Nat.le_of_ble_eq_true rfl⟩ ⟨Nat.le_of_ble_eq_true rfl, Nat.le_of_ble_eq_true rfl⟩ (by rw [hr88]; rfl) (Nat.le_of_ble_eq_true rfl) dX9_init_88 (fun H locs hR => ?_)
              refine W.eq (g2 := F0 m 91 ls [.int v88_11]) rfl ?_
              refine W.widen (k := 20) (n := 198) (Nat.le_of_ble_eq_true rfl) (Nat.le_of_ble_eq_true rfl) ?_
              refine lv_pop hx hb dX9_init_91 rfl ?_
              refine lv_iinc (i := 1) (v := (((((((0 : Int32) + (1 : Int32)) + (1 : Int32)) + (1 : Int32)) + (1 : Int32)) + (1 : Int32)) + (1 : Int32))) (lv' := [(1, .int (((((((0 : Int32) + (1 : Int32)) + (1 : Int32)) + (1 : Int32)) + (1 : Int32)) + (1 : Int32)) + (1 : Int32))), (0, .ref a0)]) hx hb dX9_init_92 hl (k := 0) rfl rfl (by decide) rfl (fun ls hl => ?_)
              refine lv_goto (tgt := 72) hx hb dX9_init_95 (by decide) ?_
              refine lv_iload_n hx hb dX9_init_72 rfl (lv_at hl 0 rfl) ?_
              refine lv_iconst (v := (4 : Int32)) hx hb dX9_init_73 (by decide) ?_
              refine lv_icmp_ge (tgt := 98) hx hb dX9_init_74 (by decide) (fun c74 => ?_) (fun c74 => ?_)
              · replace hf := zz_pos c74 hf
                cases hf
                exact zr_vret X hR dX9_init_98 (Nat.le_of_ble_eq_true rfl) (Nat.le_of_ble_eq_true rfl)
              · replace hf := zz_neg c74 hf
                cases hf
def rm_X9_needRange : Room := { frames := 6, cells := 1, slots := 6, locals := 90 }
theorem mf_X9_needRange : zz_Mf yX9_needRange cX9_needRange 3 none 3 := ⟨q_346, q_1, by decide +kernel, by decide +kernel, by decide +kernel⟩
set_option maxHeartbeats 4000000 in
set_option maxRecDepth 100000 in
theorem bk_X9_needRange_10 {D : va_G} {dA : Nat → ClassId} {base t0 : Nat} {l : Launch} {p : Program} {e : Env} {s : State} {m : MethodId} {args : Array Value} {below : List Frame} {meth : Method} {c : Code} (X : zz_X D dA base t0 "Springseat" cX9_needRange 3 none l p s m meth c) (hE : ∀ x ∈ c.exceptionTable.toList, False) (hT : l.stackTraces = false) {h : zz_H} {n : Nat} {H : Heap} {locs : List Loc} {ls : Array Slot} (hR : zz_R D dA base h n s H locs) (hl : lv_has ls 3 []) {r0 : (Unit ⊕ Nat)} (hf : f_X9_needRange_10 h = some r0) : W p l e rm_X9_needRange s m args below meth c H locs 0 0 (vx_MQ below (zz_Qo D dA base (zz_ov (fun _ : Unit => (none : Option Value)) r0) h n) (zz_Xo D dA base (zz_ov (fun _ : Unit => (none : Option Value)) r0) h n) args s rm_X9_needRange.cells rm_X9_needRange.slots (fun q => base ≤ q)) (F0 m 10 ls []) := by
  have hx := X.1
  have hb := X.2.1
  have hown := X.2.2.2.2.1
  unfold f_X9_needRange_10 at hf
  cases hf
  exact zx_throwW X hE hR hl.1 (k := 0) (names := ["java/lang/RuntimeException", "java/lang/Exception"]) tw_10_385.1 tw_10_385.2.1 rfl q_347 q_15 (List.mem_of_getElem? (i := 0) rfl) tw_10_385.2.2.1 tw_10_385.2.2.2 dX9_needRange_10 dX9_needRange_13 dX9_needRange_14 dX9_needRange_17 dX9_needRange_20 (Nat.le_of_ble_eq_true rfl) ⟨Nat.le_of_ble_eq_true rfl, Nat.le_of_ble_eq_true rfl⟩ ⟨Nat.le_of_ble_eq_true rfl, Nat.le_of_ble_eq_true rfl⟩ (Nat.le_of_ble_eq_true rfl) (Nat.le_of_ble_eq_true rfl) (Nat.le_refl _)
set_option maxHeartbeats 4000000 in
set_option maxRecDepth 100000 in
theorem mt_X9_needRange {D : va_G} {dA : Nat → ClassId} {base t0 : Nat} {l : Launch} (hT : l.stackTraces = false) (x0 : Int32) (x1 : Int32) (x2 : Int32) (h : zz_H) (n : Nat) {r0 : (Unit ⊕ Nat)} (hf : f_X9_needRange x0 x1 x2 h = some r0) : zz_MX D dA base t0 l yX9_needRange cX9_needRange 3 none rm_X9_needRange [.int x0, .int x1, .int x2] h n (zz_ov (fun _ : Unit => (none : Option Value)) r0) h n := by
  refine vx_ofW (cc := cX9_needRange) (maxL := 3) (ret := none) (by decide +kernel) rfl ?_
  intro p e s m args below meth c s₁ B hml hE hv
  obtain ⟨rfl, hP, hK⟩ := hv
  have X : zz_X D dA base t0 "Springseat" cX9_needRange 3 none l p s m meth c := ⟨B.exec, B.bytes, hml, B.returns, findClass_of_methodNamed B.named, B.notSynchronized, hT, by rw [hP.1]; exact hP.2.1, hK⟩
  have hx := X.1
  have hb := X.2.1
  have hown := X.2.2.2.2.1
  have hR : zz_R D dA base h n s s.heap [] := ⟨hP, va_S.rf⟩
  have hl := lv_entry ([.int x0, .int x1, .int x2]) (n := 3) (by exact Nat.le_of_ble_eq_true rfl)
  rw [lg_entry_eq]
  generalize (lg_sl ([.int x0, .int x1, .int x2]) ++ List.replicate (3 - (lg_sl ([.int x0, .int x1, .int x2])).length) Slot.unset).toArray = ls at hl ⊢
  have hl : lv_has ls 3 [(0, .int x0), (1, .int x1), (2, .int x2)] := hl
  unfold f_X9_needRange at hf
  refine lv_iload_n hx hb dX9_needRange_0 rfl (lv_at hl 0 rfl) ?_
  refine lv_iload_n hx hb dX9_needRange_1 rfl (lv_at hl 1 rfl) ?_
  refine lv_icmp_lt (tgt := 10) hx hb dX9_needRange_2 (by decide) (fun c2 => ?_) (fun c2 => ?_)
  · replace hf := zz_pos c2 hf
    exact bk_X9_needRange_10 X hE hT hR (lv_sub hl [] rfl) hf
  · replace hf := zz_neg c2 hf
    refine lv_iload_n hx hb dX9_needRange_5 rfl (lv_at hl 0 rfl) ?_
    refine lv_iload_n hx hb dX9_needRange_6 rfl (lv_at hl 2 rfl) ?_
    refine lv_icmp_le (tgt := 21) hx hb dX9_needRange_7 (by decide) (fun c7 => ?_) (fun c7 => ?_)
    · replace hf := zz_pos c7 hf
      cases hf
      exact zx_ret (zr_vret X hR dX9_needRange_21 (Nat.le_of_ble_eq_true rfl) (Nat.le_of_ble_eq_true rfl))
    · replace hf := zz_neg c7 hf
      exact bk_X9_needRange_10 X hE hT hR (lv_sub hl [] rfl) hf
def rm_X9_needRoom : Room := { frames := 6, cells := 1, slots := 6, locals := 90 }
theorem mf_X9_needRoom : zz_Mf yX9_needRoom cX9_needRoom 2 none 2 := ⟨q_419, q_1, by decide +kernel, by decide +kernel, by decide +kernel⟩
set_option maxHeartbeats 4000000 in
set_option maxRecDepth 100000 in
theorem mt_X9_needRoom {D : va_G} {dA : Nat → ClassId} {base t0 : Nat} {l : Launch} (hT : l.stackTraces = false) (x0 : Int32) (x1 : Int32) (h : zz_H) (n : Nat) {r0 : (Unit ⊕ Nat)} (hf : f_X9_needRoom x0 x1 h = some r0) : zz_MX D dA base t0 l yX9_needRoom cX9_needRoom 2 none rm_X9_needRoom [.int x0, .int x1] h n (zz_ov (fun _ : Unit => (none : Option Value)) r0) h n := by
  refine vx_ofW (cc := cX9_needRoom) (maxL := 2) (ret := none) (by decide +kernel) rfl ?_
  intro p e s m args below meth c s₁ B hml hE hv
  obtain ⟨rfl, hP, hK⟩ := hv
  have X : zz_X D dA base t0 "Springseat" cX9_needRoom 2 none l p s m meth c := ⟨B.exec, B.bytes, hml, B.returns, findClass_of_methodNamed B.named, B.notSynchronized, hT, by rw [hP.1]; exact hP.2.1, hK⟩
  have hx := X.1
  have hb := X.2.1
  have hown := X.2.2.2.2.1
  have hR : zz_R D dA base h n s s.heap [] := ⟨hP, va_S.rf⟩
  have hl := lv_entry ([.int x0, .int x1]) (n := 2) (by exact Nat.le_of_ble_eq_true rfl)
  rw [lg_entry_eq]
  generalize (lg_sl ([.int x0, .int x1]) ++ List.replicate (2 - (lg_sl ([.int x0, .int x1])).length) Slot.unset).toArray = ls at hl ⊢
  have hl : lv_has ls 2 [(0, .int x0), (1, .int x1)] := hl
  unfold f_X9_needRoom at hf
  refine lv_iload_n hx hb dX9_needRoom_0 rfl (lv_at hl 0 rfl) ?_
  refine lv_iload_n hx hb dX9_needRoom_1 rfl (lv_at hl 1 rfl) ?_
  refine lv_icmp_lt (tgt := 16) hx hb dX9_needRoom_2 (by decide) (fun c2 => ?_) (fun c2 => ?_)
  · replace hf := zz_pos c2 hf
    cases hf
    exact zx_ret (zr_vret X hR dX9_needRoom_16 (Nat.le_of_ble_eq_true rfl) (Nat.le_of_ble_eq_true rfl))
  · replace hf := zz_neg c2 hf
    cases hf
    exact zx_throwW X hE hR hl.1 (k := 1) (names := ["java/lang/RuntimeException", "java/lang/Exception"]) tw_10_392.1 tw_10_392.2.1 rfl q_420 q_16 (List.mem_of_getElem? (i := 1) rfl) tw_10_392.2.2.1 tw_10_392.2.2.2 dX9_needRoom_5 dX9_needRoom_8 dX9_needRoom_9 dX9_needRoom_12 dX9_needRoom_15 (Nat.le_of_ble_eq_true rfl) ⟨Nat.le_of_ble_eq_true rfl, Nat.le_of_ble_eq_true rfl⟩ ⟨Nat.le_of_ble_eq_true rfl, Nat.le_of_ble_eq_true rfl⟩ (Nat.le_of_ble_eq_true rfl) (Nat.le_of_ble_eq_true rfl) (Nat.le_refl _)
def rm_X9_seat : Room := { frames := 7, cells := 20, slots := 253, locals := 122 }
theorem mf_X9_seat : zz_Mf yX9_seat cX9_seat 3 (some .int) 2 := ⟨q_343, q_1, by decide +kernel, by decide +kernel, by decide +kernel⟩
set_option maxHeartbeats 4000000 in
set_option maxRecDepth 100000 in
theorem mt_X9_seat {D : va_G} {dA : Nat → ClassId} {base t0 : Nat} {l : Launch} (hT : l.stackTraces = false) (a0 : Nat) (x1 : Int32) (x2 : Int32) (h : zz_H) (n : Nat) {r0 : (Int32 ⊕ Nat)} {hF : zz_H} {nF : Nat} (hf : f_X9_seat t0 a0 x1 x2 h n = some (r0, hF, nF)) : zz_MX D dA base t0 l yX9_seat cX9_seat 3 (some .int) rm_X9_seat [.ref a0, .int x1, .int x2] h n (zz_ov (fun v : Int32 => some (Value.int v)) r0) hF nF := by
  refine vx_ofW (cc := cX9_seat) (maxL := 3) (ret := (some .int)) (by decide +kernel) rfl ?_
  intro p e s m args below meth c s₁ B hml hE hv
  obtain ⟨rfl, hP, hK⟩ := hv
  have X : zz_X D dA base t0 "Springseat" cX9_seat 3 (some .int) l p s m meth c := ⟨B.exec, B.bytes, hml, B.returns, findClass_of_methodNamed B.named, B.notSynchronized, hT, by rw [hP.1]; exact hP.2.1, hK⟩
  have hx := X.1
  have hb := X.2.1
  have hown := X.2.2.2.2.1
  have hR : zz_R D dA base h n s s.heap [] := ⟨hP, va_S.rf⟩
  have hl := lv_entry ([.ref a0, .int x1, .int x2]) (n := 3) (by exact Nat.le_of_ble_eq_true rfl)
  rw [lg_entry_eq]
  generalize (lg_sl ([.ref a0, .int x1, .int x2]) ++ List.replicate (3 - (lg_sl ([.ref a0, .int x1, .int x2])).length) Slot.unset).toArray = ls at hl ⊢
  have hl : lv_has ls 3 [(0, .ref a0), (1, .int x1), (2, .int x2)] := hl
  unfold f_X9_seat at hf
  refine lv_iload_n hx hb dX9_seat_0 rfl (lv_at hl 1 rfl) ?_
  refine lv_iconst (v := (1 : Int32)) hx hb dX9_seat_1 (by decide) ?_
  refine lv_bipush (v := (6 : Int32)) hx hb dX9_seat_2 (by decide) ?_
  refine zx_cS X hE hR hl.1 (As := [.int x1, .int (1 : Int32), .int (6 : Int32)]) (rest := []) (ov := (fun _ : Unit => (none : Option Value))) (fun r hr => mt_X9_needRange hT x1 (1 : Int32) (6 : Int32) h n hr) mf_X9_needRange q_344 q_345 ⟨Nat.le_of_ble_eq_true rfl, Nat.le_of_ble_eq_true rfl⟩ ⟨Nat.le_of_ble_eq_true rfl, Nat.le_of_ble_eq_true rfl⟩ rfl (Nat.le_of_ble_eq_true rfl) dX9_seat_4 hf (fun k e => by cases e; exact ⟨rfl, rfl, Nat.le_refl _⟩) (Nat.le_of_ble_eq_true rfl) (Nat.le_of_ble_eq_true rfl) (fun v4 hf H locs hR => ?_)
  refine W.eq (g2 := F0 m 7 ls []) rfl ?_
  refine W.widen (k := 1) (n := 6) (Nat.le_of_ble_eq_true rfl) (Nat.le_of_ble_eq_true rfl) ?_
  refine lv_iload_n hx hb dX9_seat_7 rfl (lv_at hl 2 rfl) ?_
  refine lv_iconst (v := (1 : Int32)) hx hb dX9_seat_8 (by decide) ?_
  refine lv_bipush (v := (6 : Int32)) hx hb dX9_seat_9 (by decide) ?_
  refine zx_cS X hE hR hl.1 (As := [.int x2, .int (1 : Int32), .int (6 : Int32)]) (rest := []) (ov := (fun _ : Unit => (none : Option Value))) (fun r hr => mt_X9_needRange hT x2 (1 : Int32) (6 : Int32) h n hr) mf_X9_needRange q_344 q_345 ⟨Nat.le_of_ble_eq_true rfl, Nat.le_of_ble_eq_true rfl⟩ ⟨Nat.le_of_ble_eq_true rfl, Nat.le_of_ble_eq_true rfl⟩ rfl (Nat.le_of_ble_eq_true rfl) dX9_seat_11 hf (fun k e => by cases e; exact ⟨rfl, rfl, Nat.le_refl _⟩) (Nat.le_of_ble_eq_true rfl) (Nat.le_of_ble_eq_true rfl) (fun v11 hf H locs hR => ?_)
  refine W.eq (g2 := F0 m 14 ls []) rfl ?_
  refine W.widen (k := 2) (n := 12) (Nat.le_of_ble_eq_true rfl) (Nat.le_of_ble_eq_true rfl) ?_
  refine lv_aload_n hx hb dX9_seat_14 rfl (lv_at hl 0 rfl) ?_
  refine zr_gq X hR (r := (some a0)) fl_X9_10 dX9_seat_15 hf (fun v15 hf => ?_)
  obtain ⟨b18, fs18, hr18, ho18, hf⟩ := zz_ob_i hf
  obtain ⟨v18, hv18, hf⟩ := zz_b_i hf
  refine zr_cV X hR hl.1 (As := []) (rest := []) (C := RJx4a65c) (T := TJx4a65c) (N := 3) (mt_Jx4a65c_size_8abf5 hT b18 h n hv18) rfl ho18 mf_Jx4a65c_size_8abf5 q_177 q_178 q_179 ⟨Nat.le_of_ble_eq_true rfl, Nat.le_of_ble_eq_true rfl⟩ ⟨Nat.le_of_ble_eq_true rfl, Nat.le_of_ble_eq_true rfl⟩ (by rw [hr18]; rfl) (Nat.le_of_ble_eq_true rfl) dX9_seat_18 (fun H locs hR => ?_)
  refine W.eq (g2 := F0 m 21 ls [.int v18]) rfl ?_
  refine lv_iconst (v := (4 : Int32)) hx hb dX9_seat_21 (by decide) ?_
  refine zx_cS X hE hR hl.1 (As := [.int v18, .int (4 : Int32)]) (rest := []) (ov := (fun _ : Unit => (none : Option Value))) (fun r hr => mt_X9_needRoom hT v18 (4 : Int32) h n hr) mf_X9_needRoom q_417 q_418 ⟨Nat.le_of_ble_eq_true rfl, Nat.le_of_ble_eq_true rfl⟩ ⟨Nat.le_of_ble_eq_true rfl, Nat.le_of_ble_eq_true rfl⟩ rfl (Nat.le_of_ble_eq_true rfl) dX9_seat_22 hf (fun k e => by cases e; exact ⟨rfl, rfl, Nat.le_refl _⟩) (Nat.le_of_ble_eq_true rfl) (Nat.le_of_ble_eq_true rfl) (fun v22 hf H locs hR => ?_)
  refine W.eq (g2 := F0 m 25 ls []) rfl ?_
  refine W.widen (k := 3) (n := 18) (Nat.le_of_ble_eq_true rfl) (Nat.le_of_ble_eq_true rfl) ?_
  refine lv_aload_n hx hb dX9_seat_25 rfl (lv_at hl 0 rfl) ?_
  refine zr_gq X hR (r := (some a0)) fl_X9_10 dX9_seat_26 hf (fun v26 hf => ?_)
  refine zr_new X hR (fs := [.null, .null, .null, .null, .null, .int 0]) zc8 q_195 q_436 q_17 (fun j hj => by rcases (show j = 0 ∨ j = 1 ∨ j = 2 ∨ j = 3 ∨ j = 4 ∨ j = 5 by omega) with rfl | rfl | rfl | rfl | rfl | rfl <;> rfl) (Nat.le_of_ble_eq_true rfl) (Nat.le_of_ble_eq_true rfl) dX9_seat_29 (fun H hR => ?_)
  refine W.widen (k := 4) (n := 24) (Nat.le_of_ble_eq_true rfl) (Nat.le_of_ble_eq_true rfl) ?_
  refine lv_dup hx hb dX9_seat_32 rfl ?_
  refine lv_iload_n hx hb dX9_seat_33 rfl (lv_at hl 1 rfl) ?_
  refine lv_iload_n hx hb dX9_seat_34 rfl (lv_at hl 2 rfl) ?_
  obtain ⟨u35, h35, n35, hv35, hf⟩ := zz_b2_i hf
  refine zr_cI X hR hl.1 (As := [.int x1, .int x2]) (rest := [.ref n, va_rf v26]) (mt_X7_init hT n x1 x2 (zz_u h n (.inr (8, [.null, .null, .null, .null, .null, .int 0]))) (n + 1) hv35) mf_X7_init rfl q_437 q_438 ⟨Nat.le_of_ble_eq_true rfl, Nat.le_of_ble_eq_true rfl⟩ ⟨Nat.le_of_ble_eq_true rfl, Nat.le_of_ble_eq_true rfl⟩ rfl (Nat.le_of_ble_eq_true rfl) dX9_seat_35 (fun H locs hR => ?_)
  refine W.eq (g2 := F0 m 38 ls [.ref n, va_rf v26]) rfl ?_
  refine W.widen (k := 19) (n := 243) (Nat.le_of_ble_eq_true rfl) (Nat.le_of_ble_eq_true rfl) ?_
  obtain ⟨b38, fs38, hr38, ho38, hf⟩ := zz_ob_i hf
  obtain ⟨v38, h38, n38, hv38, hf⟩ := zz_b2_i hf
  refine zr_cV X hR hl.1 (As := [.ref n]) (rest := []) (C := RJx4a65c) (T := TJx4a65c) (N := 3) (mt_Jx4a65c_add_9ea2d hT b38 (some n) h35 n35 hv38) rfl ho38 mf_Jx4a65c_add_9ea2d q_89 q_90 q_91 ⟨Nat.le_of_ble_eq_true rfl, Nat.le_of_ble_eq_true rfl⟩ ⟨Nat.le_of_ble_eq_true rfl, Nat.le_of_ble_eq_true rfl⟩ (by rw [hr38]; rfl) (Nat.le_of_ble_eq_true rfl) dX9_seat_38 (fun H locs hR => ?_)
  refine W.eq (g2 := F0 m 41 ls [.int v38]) rfl ?_
  refine W.widen (k := 20) (n := 253) (Nat.le_of_ble_eq_true rfl) (Nat.le_of_ble_eq_true rfl) ?_
  refine lv_pop hx hb dX9_seat_41 rfl ?_
  refine lv_aload_n hx hb dX9_seat_42 rfl (lv_at hl 0 rfl) ?_
  refine zr_gq X hR (r := (some a0)) fl_X9_10 dX9_seat_43 hf (fun v43 hf => ?_)
  obtain ⟨b46, fs46, hr46, ho46, hf⟩ := zz_ob_i hf
  obtain ⟨v46, hv46, hf⟩ := zz_b_i hf
  refine zr_cV X hR hl.1 (As := []) (rest := []) (C := RJx4a65c) (T := TJx4a65c) (N := 3) (mt_Jx4a65c_size_8abf5 hT b46 h38 n38 hv46) rfl ho46 mf_Jx4a65c_size_8abf5 q_177 q_178 q_179 ⟨Nat.le_of_ble_eq_true rfl, Nat.le_of_ble_eq_true rfl⟩ ⟨Nat.le_of_ble_eq_true rfl, Nat.le_of_ble_eq_true rfl⟩ (by rw [hr46]; rfl) (Nat.le_of_ble_eq_true rfl) dX9_seat_46 (fun H locs hR => ?_)
  refine W.eq (g2 := F0 m 49 ls [.int v46]) rfl ?_
  refine lv_iconst (v := (1 : Int32)) hx hb dX9_seat_49 (by decide) ?_
  refine lv_isub hx hb dX9_seat_50 ?_
  cases hf
  exact zx_ret (zr_iret X hR dX9_seat_51 (Nat.le_of_ble_eq_true rfl) (Nat.le_of_ble_eq_true rfl))
def rm_X9_needIndex : Room := { frames := 6, cells := 1, slots := 6, locals := 90 }
theorem mf_X9_needIndex : zz_Mf yX9_needIndex cX9_needIndex 2 none 2 := ⟨q_588, q_1, by decide +kernel, by decide +kernel, by decide +kernel⟩
set_option maxHeartbeats 4000000 in
set_option maxRecDepth 100000 in
theorem bk_X9_needIndex_9 {D : va_G} {dA : Nat → ClassId} {base t0 : Nat} {l : Launch} {p : Program} {e : Env} {s : State} {m : MethodId} {args : Array Value} {below : List Frame} {meth : Method} {c : Code} (X : zz_X D dA base t0 "Springseat" cX9_needIndex 2 none l p s m meth c) (hE : ∀ x ∈ c.exceptionTable.toList, False) (hT : l.stackTraces = false) {h : zz_H} {n : Nat} {H : Heap} {locs : List Loc} {ls : Array Slot} (hR : zz_R D dA base h n s H locs) (hl : lv_has ls 2 []) {r0 : (Unit ⊕ Nat)} (hf : f_X9_needIndex_9 h = some r0) : W p l e rm_X9_needIndex s m args below meth c H locs 0 0 (vx_MQ below (zz_Qo D dA base (zz_ov (fun _ : Unit => (none : Option Value)) r0) h n) (zz_Xo D dA base (zz_ov (fun _ : Unit => (none : Option Value)) r0) h n) args s rm_X9_needIndex.cells rm_X9_needIndex.slots (fun q => base ≤ q)) (F0 m 9 ls []) := by
  have hx := X.1
  have hb := X.2.1
  have hown := X.2.2.2.2.1
  unfold f_X9_needIndex_9 at hf
  cases hf
  exact zx_throwW X hE hR hl.1 (k := 2) (names := ["java/lang/RuntimeException", "java/lang/Exception"]) tw_10_378.1 tw_10_378.2.1 rfl q_589 q_22 (List.mem_of_getElem? (i := 2) rfl) tw_10_378.2.2.1 tw_10_378.2.2.2 dX9_needIndex_9 dX9_needIndex_12 dX9_needIndex_13 dX9_needIndex_16 dX9_needIndex_19 (Nat.le_of_ble_eq_true rfl) ⟨Nat.le_of_ble_eq_true rfl, Nat.le_of_ble_eq_true rfl⟩ ⟨Nat.le_of_ble_eq_true rfl, Nat.le_of_ble_eq_true rfl⟩ (Nat.le_of_ble_eq_true rfl) (Nat.le_of_ble_eq_true rfl) (Nat.le_refl _)
set_option maxHeartbeats 4000000 in
set_option maxRecDepth 100000 in
theorem mt_X9_needIndex {D : va_G} {dA : Nat → ClassId} {base t0 : Nat} {l : Launch} (hT : l.stackTraces = false) (x0 : Int32) (x1 : Int32) (h : zz_H) (n : Nat) {r0 : (Unit ⊕ Nat)} (hf : f_X9_needIndex x0 x1 h = some r0) : zz_MX D dA base t0 l yX9_needIndex cX9_needIndex 2 none rm_X9_needIndex [.int x0, .int x1] h n (zz_ov (fun _ : Unit => (none : Option Value)) r0) h n := by
  refine vx_ofW (cc := cX9_needIndex) (maxL := 2) (ret := none) (by decide +kernel) rfl ?_
  intro p e s m args below meth c s₁ B hml hE hv
  obtain ⟨rfl, hP, hK⟩ := hv
  have X : zz_X D dA base t0 "Springseat" cX9_needIndex 2 none l p s m meth c := ⟨B.exec, B.bytes, hml, B.returns, findClass_of_methodNamed B.named, B.notSynchronized, hT, by rw [hP.1]; exact hP.2.1, hK⟩
  have hx := X.1
  have hb := X.2.1
  have hown := X.2.2.2.2.1
  have hR : zz_R D dA base h n s s.heap [] := ⟨hP, va_S.rf⟩
  have hl := lv_entry ([.int x0, .int x1]) (n := 2) (by exact Nat.le_of_ble_eq_true rfl)
  rw [lg_entry_eq]
  generalize (lg_sl ([.int x0, .int x1]) ++ List.replicate (2 - (lg_sl ([.int x0, .int x1])).length) Slot.unset).toArray = ls at hl ⊢
  have hl : lv_has ls 2 [(0, .int x0), (1, .int x1)] := hl
  unfold f_X9_needIndex at hf
  refine lv_iload_n hx hb dX9_needIndex_0 rfl (lv_at hl 0 rfl) ?_
  refine lv_if_lt (tgt := 9) hx hb dX9_needIndex_1 (by decide) (fun c1 => ?_) (fun c1 => ?_)
  · replace hf := zz_pos c1 hf
    exact bk_X9_needIndex_9 X hE hT hR (lv_sub hl [] rfl) hf
  · replace hf := zz_neg c1 hf
    refine lv_iload_n hx hb dX9_needIndex_4 rfl (lv_at hl 0 rfl) ?_
    refine lv_iload_n hx hb dX9_needIndex_5 rfl (lv_at hl 1 rfl) ?_
    refine lv_icmp_lt (tgt := 20) hx hb dX9_needIndex_6 (by decide) (fun c6 => ?_) (fun c6 => ?_)
    · replace hf := zz_pos c6 hf
      cases hf
      exact zx_ret (zr_vret X hR dX9_needIndex_20 (Nat.le_of_ble_eq_true rfl) (Nat.le_of_ble_eq_true rfl))
    · replace hf := zz_neg c6 hf
      exact bk_X9_needIndex_9 X hE hT hR (lv_sub hl [] rfl) hf
def rm_X9_seatOf : Room := { frames := 7, cells := 1, slots := 6, locals := 111 }
theorem mf_X9_seatOf : zz_Mf yX9_seatOf cX9_seatOf 2 (some (.object "Springseat$Seat")) 1 := ⟨q_585, q_1, by decide +kernel, by decide +kernel, by decide +kernel⟩
set_option maxHeartbeats 4000000 in
set_option maxRecDepth 100000 in
theorem mt_X9_seatOf {D : va_G} {dA : Nat → ClassId} {base t0 : Nat} {l : Launch} (hT : l.stackTraces = false) (a0 : Nat) (x1 : Int32) (h : zz_H) (n : Nat) {r0 : ((Option Nat) ⊕ Nat)} (hf : f_X9_seatOf a0 x1 h = some r0) : zz_MX D dA base t0 l yX9_seatOf cX9_seatOf 2 (some (.object "Springseat$Seat")) rm_X9_seatOf [.ref a0, .int x1] h n (zz_ov (fun v : Option Nat => some (va_rf v)) r0) h n := by
  refine vx_ofW (cc := cX9_seatOf) (maxL := 2) (ret := (some (.object "Springseat$Seat"))) (by decide +kernel) rfl ?_
  intro p e s m args below meth c s₁ B hml hE hv
  obtain ⟨rfl, hP, hK⟩ := hv
  have X : zz_X D dA base t0 "Springseat" cX9_seatOf 2 (some (.object "Springseat$Seat")) l p s m meth c := ⟨B.exec, B.bytes, hml, B.returns, findClass_of_methodNamed B.named, B.notSynchronized, hT, by rw [hP.1]; exact hP.2.1, hK⟩
  have hx := X.1
  have hb := X.2.1
  have hown := X.2.2.2.2.1
  have hR : zz_R D dA base h n s s.heap [] := ⟨hP, va_S.rf⟩
  have hl := lv_entry ([.ref a0, .int x1]) (n := 2) (by exact Nat.le_of_ble_eq_true rfl)
  rw [lg_entry_eq]
  generalize (lg_sl ([.ref a0, .int x1]) ++ List.replicate (2 - (lg_sl ([.ref a0, .int x1])).length) Slot.unset).toArray = ls at hl ⊢
  have hl : lv_has ls 2 [(0, .ref a0), (1, .int x1)] := hl
  unfold f_X9_seatOf at hf
  refine lv_iload_n hx hb dX9_seatOf_0 rfl (lv_at hl 1 rfl) ?_
  refine lv_aload_n hx hb dX9_seatOf_1 rfl (lv_at hl 0 rfl) ?_
  refine zr_gq X hR (r := (some a0)) fl_X9_10 dX9_seatOf_2 hf (fun v2 hf => ?_)
  obtain ⟨b5, fs5, hr5, ho5, hf⟩ := zz_ob_i hf
  obtain ⟨v5, hv5, hf⟩ := zz_b_i hf
  refine zr_cV X hR hl.1 (As := []) (rest := [.int x1]) (C := RJx4a65c) (T := TJx4a65c) (N := 3) (mt_Jx4a65c_size_8abf5 hT b5 h n hv5) rfl ho5 mf_Jx4a65c_size_8abf5 q_177 q_178 q_179 ⟨Nat.le_of_ble_eq_true rfl, Nat.le_of_ble_eq_true rfl⟩ ⟨Nat.le_of_ble_eq_true rfl, Nat.le_of_ble_eq_true rfl⟩ (by rw [hr5]; rfl) (Nat.le_of_ble_eq_true rfl) dX9_seatOf_5 (fun H locs hR => ?_)
  refine W.eq (g2 := F0 m 8 ls [.int v5, .int x1]) rfl ?_
  refine zx_cS X hE hR hl.1 (As := [.int x1, .int v5]) (rest := []) (ov := (fun _ : Unit => (none : Option Value))) (fun r hr => mt_X9_needIndex hT x1 v5 h n hr) mf_X9_needIndex q_586 q_587 ⟨Nat.le_of_ble_eq_true rfl, Nat.le_of_ble_eq_true rfl⟩ ⟨Nat.le_of_ble_eq_true rfl, Nat.le_of_ble_eq_true rfl⟩ rfl (Nat.le_of_ble_eq_true rfl) dX9_seatOf_8 hf (fun k e => by cases e; exact ⟨rfl, rfl, Nat.le_refl _⟩) (Nat.le_of_ble_eq_true rfl) (Nat.le_of_ble_eq_true rfl) (fun v8 hf H locs hR => ?_)
  refine W.eq (g2 := F0 m 11 ls []) rfl ?_
  refine W.widen (k := 1) (n := 6) (Nat.le_of_ble_eq_true rfl) (Nat.le_of_ble_eq_true rfl) ?_
  refine lv_aload_n hx hb dX9_seatOf_11 rfl (lv_at hl 0 rfl) ?_
  refine zr_gq X hR (r := (some a0)) fl_X9_10 dX9_seatOf_12 hf (fun v12 hf => ?_)
  refine lv_iload_n hx hb dX9_seatOf_15 rfl (lv_at hl 1 rfl) ?_
  obtain ⟨b16, fs16, hr16, ho16, hf⟩ := zz_ob_i hf
  obtain ⟨v16, hv16, hf⟩ := zz_b_i hf
  refine zr_cV X hR hl.1 (As := [.int x1]) (rest := []) (C := RJx4a65c) (T := TJx4a65c) (N := 3) (mt_Jx4a65c_get_915e3 hT b16 x1 h n hv16) rfl ho16 mf_Jx4a65c_get_915e3 q_181 q_182 q_183 ⟨Nat.le_of_ble_eq_true rfl, Nat.le_of_ble_eq_true rfl⟩ ⟨Nat.le_of_ble_eq_true rfl, Nat.le_of_ble_eq_true rfl⟩ (by rw [hr16]; rfl) (Nat.le_of_ble_eq_true rfl) dX9_seatOf_16 (fun H locs hR => ?_)
  refine W.eq (g2 := F0 m 19 ls [va_rf v16]) rfl ?_
  refine zr_cc X hR (ci := 8) (C := RX7) (T := TX7) (N := 6) (r := v16) rfl q_195 (Or.inr trivial) dX9_seatOf_19 hf (fun hf => ?_)
  cases hf
  exact zx_ret (zr_aret (Or.inl ⟨_, rfl⟩) X hR (r := _) dX9_seatOf_22 (Nat.le_of_ble_eq_true rfl) (Nat.le_of_ble_eq_true rfl))
def rm_X9_needNext : Room := { frames := 6, cells := 1, slots := 6, locals := 90 }
theorem mf_X9_needNext : zz_Mf yX9_needNext cX9_needNext 2 none 2 := ⟨q_607, q_1, by decide +kernel, by decide +kernel, by decide +kernel⟩
set_option maxHeartbeats 4000000 in
set_option maxRecDepth 100000 in
theorem mt_X9_needNext {D : va_G} {dA : Nat → ClassId} {base t0 : Nat} {l : Launch} (hT : l.stackTraces = false) (x0 : (Option Nat)) (x1 : Int32) (h : zz_H) (n : Nat) {r0 : (Unit ⊕ Nat)} (hf : f_X9_needNext x0 x1 h = some r0) : zz_MX D dA base t0 l yX9_needNext cX9_needNext 2 none rm_X9_needNext [va_rf x0, .int x1] h n (zz_ov (fun _ : Unit => (none : Option Value)) r0) h n := by
  refine vx_ofW (cc := cX9_needNext) (maxL := 2) (ret := none) (by decide +kernel) rfl ?_
  intro p e s m args below meth c s₁ B hml hE hv
  obtain ⟨rfl, hP, hK⟩ := hv
  have X : zz_X D dA base t0 "Springseat" cX9_needNext 2 none l p s m meth c := ⟨B.exec, B.bytes, hml, B.returns, findClass_of_methodNamed B.named, B.notSynchronized, hT, by rw [hP.1]; exact hP.2.1, hK⟩
  have hx := X.1
  have hb := X.2.1
  have hown := X.2.2.2.2.1
  have hR : zz_R D dA base h n s s.heap [] := ⟨hP, va_S.rf⟩
  have hl := lv_entry ([va_rf x0, .int x1]) (n := 2) (by cases x0 <;> exact Nat.le_of_ble_eq_true rfl)
  rw [lg_entry_eq]
  generalize (lg_sl ([va_rf x0, .int x1]) ++ List.replicate (2 - (lg_sl ([va_rf x0, .int x1])).length) Slot.unset).toArray = ls at hl ⊢
  have hl : lv_has ls 2 [(0, va_rf x0), (1, .int x1)] := by rw [show ([(0, va_rf x0), (1, .int x1)] : List (Nat × Value)) = lv_args 0 [va_rf x0, .int x1] from by cases x0 <;> rfl]; exact hl
  unfold f_X9_needNext at hf
  refine zr_aload_n hx hb dX9_needNext_0 rfl (lv_at hl 0 rfl) ?_
  refine zr_gqN X hR (r := x0) fn_X9_76 dX9_needNext_1 hf (fun v1 hf => ?_)
  refine lv_iload_n hx hb dX9_needNext_4 rfl (lv_at hl 1 rfl) ?_
  obtain ⟨b5, fs5, hr5, ho5, hf⟩ := zz_ob_i hf
  obtain ⟨v5, hv5, hf⟩ := zz_b_i hf
  refine zr_cV X hR hl.1 (As := [.int x1]) (rest := []) (C := RX8) (T := TX8) (N := 3) (mt_X8_mayCome hT b5 x1 h n hv5) rfl ho5 mf_X8_mayCome q_608 q_609 q_610 ⟨Nat.le_of_ble_eq_true rfl, Nat.le_of_ble_eq_true rfl⟩ ⟨Nat.le_of_ble_eq_true rfl, Nat.le_of_ble_eq_true rfl⟩ (by rw [hr5]; rfl) (Nat.le_of_ble_eq_true rfl) dX9_needNext_5 (fun H locs hR => ?_)
  refine W.eq (g2 := F0 m 8 ls [.int v5]) rfl ?_
  refine lv_if_ne (tgt := 22) hx hb dX9_needNext_8 (by decide) (fun c8 => ?_) (fun c8 => ?_)
  · replace hf := zz_neg c8 hf
    cases hf
    exact zx_ret (zr_vret X hR dX9_needNext_22 (Nat.le_of_ble_eq_true rfl) (Nat.le_of_ble_eq_true rfl))
  · replace hf := zz_pos c8 hf
    cases hf
    exact zx_throwW X hE hR hl.1 (k := 3) (names := ["java/lang/RuntimeException", "java/lang/Exception"]) tw_10_184.1 tw_10_184.2.1 rfl q_616 q_25 (List.mem_of_getElem? (i := 3) rfl) tw_10_184.2.2.1 tw_10_184.2.2.2 dX9_needNext_11 dX9_needNext_14 dX9_needNext_15 dX9_needNext_18 dX9_needNext_21 (Nat.le_of_ble_eq_true rfl) ⟨Nat.le_of_ble_eq_true rfl, Nat.le_of_ble_eq_true rfl⟩ ⟨Nat.le_of_ble_eq_true rfl, Nat.le_of_ble_eq_true rfl⟩ (Nat.le_of_ble_eq_true rfl) (Nat.le_of_ble_eq_true rfl) (Nat.le_refl _)
def rm_X9_web : Room := { frames := 8, cells := 3, slots := 18, locals := 132 }
theorem mf_X9_web : zz_Mf yX9_web cX9_web 4 (some .int) 2 := ⟨q_581, q_1, by decide +kernel, by decide +kernel, by decide +kernel⟩
set_option maxHeartbeats 4000000 in
set_option maxRecDepth 100000 in
theorem mt_X9_web {D : va_G} {dA : Nat → ClassId} {base t0 : Nat} {l : Launch} (hT : l.stackTraces = false) (a0 : Nat) (x1 : Int32) (x2 : Int32) (h : zz_H) (n : Nat) {r0 : (Int32 ⊕ Nat)} {hF : zz_H} (hf : f_X9_web a0 x1 x2 h = some (r0, hF)) : zz_MX D dA base t0 l yX9_web cX9_web 4 (some .int) rm_X9_web [.ref a0, .int x1, .int x2] h n (zz_ov (fun v : Int32 => some (Value.int v)) r0) hF n := by
  refine vx_ofW (cc := cX9_web) (maxL := 4) (ret := (some .int)) (by decide +kernel) rfl ?_
  intro p e s m args below meth c s₁ B hml hE hv
  obtain ⟨rfl, hP, hK⟩ := hv
  have X : zz_X D dA base t0 "Springseat" cX9_web 4 (some .int) l p s m meth c := ⟨B.exec, B.bytes, hml, B.returns, findClass_of_methodNamed B.named, B.notSynchronized, hT, by rw [hP.1]; exact hP.2.1, hK⟩
  have hx := X.1
  have hb := X.2.1
  have hown := X.2.2.2.2.1
  have hR : zz_R D dA base h n s s.heap [] := ⟨hP, va_S.rf⟩
  have hl := lv_entry ([.ref a0, .int x1, .int x2]) (n := 4) (by exact Nat.le_of_ble_eq_true rfl)
  rw [lg_entry_eq]
  generalize (lg_sl ([.ref a0, .int x1, .int x2]) ++ List.replicate (4 - (lg_sl ([.ref a0, .int x1, .int x2])).length) Slot.unset).toArray = ls at hl ⊢
  have hl : lv_has ls 4 [(0, .ref a0), (1, .int x1), (2, .int x2)] := hl
  unfold f_X9_web at hf
  refine lv_aload_n hx hb dX9_web_0 rfl (lv_at hl 0 rfl) ?_
  refine lv_iload_n hx hb dX9_web_1 rfl (lv_at hl 1 rfl) ?_
  obtain ⟨fs2, ho2, hf⟩ := zz_obS_i hf
  refine zx_cV X hE hR hl.1 (As := [.int x1]) (rest := []) (C := RX9) (T := TX9) (N := 6) (ov := (fun v : Option Nat => some (va_rf v))) (fun r hr => mt_X9_seatOf hT a0 x1 h n hr) rfl ho2 mf_X9_seatOf q_582 q_584 qs_9 ⟨Nat.le_of_ble_eq_true rfl, Nat.le_of_ble_eq_true rfl⟩ ⟨Nat.le_of_ble_eq_true rfl, Nat.le_of_ble_eq_true rfl⟩ rfl (Nat.le_of_ble_eq_true rfl) dX9_web_2 hf (fun k e => by cases e; exact ⟨rfl, rfl, Nat.le_refl _⟩) (Nat.le_of_ble_eq_true rfl) (Nat.le_of_ble_eq_true rfl) (fun v2 hf H locs hR => ?_)
  refine W.eq (g2 := F0 m 5 ls [va_rf v2]) rfl ?_
  refine W.widen (k := 1) (n := 6) (Nat.le_of_ble_eq_true rfl) (Nat.le_of_ble_eq_true rfl) ?_
  refine zr_astore_n (i := 3) (lv' := [(3, va_rf v2), (0, .ref a0), (1, .int x1), (2, .int x2)]) hx hb dX9_web_5 rfl hl (by decide) rfl (fun ls hl => ?_)
  refine lv_iload_n hx hb dX9_web_6 rfl (lv_at hl 3 rfl) ?_
  refine lv_iconst (v := (1 : Int32)) hx hb dX9_web_7 (by decide) ?_
  refine lv_bipush (v := (9 : Int32)) hx hb dX9_web_8 (by decide) ?_
  refine zx_cS X hE hR hl.1 (As := [.int x2, .int (1 : Int32), .int (9 : Int32)]) (rest := []) (ov := (fun _ : Unit => (none : Option Value))) (fun r hr => mt_X9_needRange hT x2 (1 : Int32) (9 : Int32) h n hr) mf_X9_needRange q_344 q_345 ⟨Nat.le_of_ble_eq_true rfl, Nat.le_of_ble_eq_true rfl⟩ ⟨Nat.le_of_ble_eq_true rfl, Nat.le_of_ble_eq_true rfl⟩ rfl (Nat.le_of_ble_eq_true rfl) dX9_web_10 hf (fun k e => by cases e; exact ⟨rfl, rfl, Nat.le_refl _⟩) (Nat.le_of_ble_eq_true rfl) (Nat.le_of_ble_eq_true rfl) (fun v10 hf H locs hR => ?_)
  refine W.eq (g2 := F0 m 13 ls []) rfl ?_
  refine W.widen (k := 2) (n := 12) (Nat.le_of_ble_eq_true rfl) (Nat.le_of_ble_eq_true rfl) ?_
  refine zr_aload_n hx hb dX9_web_13 rfl (lv_at hl 0 rfl) ?_
  refine lv_bipush (v := (119 : Int32)) hx hb dX9_web_14 (by decide) ?_
  refine zx_cS X hE hR hl.1 (As := [va_rf v2, .int (119 : Int32)]) (rest := []) (ov := (fun _ : Unit => (none : Option Value))) (fun r hr => mt_X9_needNext hT v2 (119 : Int32) h n hr) mf_X9_needNext q_605 q_606 ⟨Nat.le_of_ble_eq_true rfl, Nat.le_of_ble_eq_true rfl⟩ ⟨Nat.le_of_ble_eq_true rfl, Nat.le_of_ble_eq_true rfl⟩ rfl (Nat.le_of_ble_eq_true rfl) dX9_web_16 hf (fun k e => by cases e; exact ⟨rfl, rfl, Nat.le_refl _⟩) (Nat.le_of_ble_eq_true rfl) (Nat.le_of_ble_eq_true rfl) (fun v16 hf H locs hR => ?_)
  refine W.eq (g2 := F0 m 19 ls []) rfl ?_
  refine W.widen (k := 3) (n := 18) (Nat.le_of_ble_eq_true rfl) (Nat.le_of_ble_eq_true rfl) ?_
  refine zr_aload_n hx hb dX9_web_19 rfl (lv_at hl 0 rfl) ?_
  refine zr_gqN X hR (r := v2) fn_X9_66 dX9_web_20 hf (fun v20 hf => ?_)
  refine lv_iload_n hx hb dX9_web_23 rfl (lv_at hl 3 rfl) ?_
  refine zr_pN X hR (r := v20) (v := .int x2) fn_X9_70 rfl dX9_web_24 rfl rfl hf (fun h24 H locs hf hR => ?_)
  refine zr_aload_n hx hb dX9_web_27 rfl (lv_at hl 0 rfl) ?_
  refine zr_gqN X hR (r := v2) fn_X9_76 dX9_web_28 hf (fun v28 hf => ?_)
  refine lv_bipush (v := (119 : Int32)) hx hb dX9_web_31 (by decide) ?_
  obtain ⟨b33, fs33, hr33, ho33, hf⟩ := zz_ob_i hf
  obtain ⟨v33, h33, hv33, hf⟩ := zz_b1_i hf
  refine zr_cV X hR hl.1 (As := [.int (119 : Int32)]) (rest := []) (C := RX8) (T := TX8) (N := 3) (mt_X8_add hT b33 (119 : Int32) h24 n hv33) rfl ho33 mf_X8_add q_632 q_633 q_634 ⟨Nat.le_of_ble_eq_true rfl, Nat.le_of_ble_eq_true rfl⟩ ⟨Nat.le_of_ble_eq_true rfl, Nat.le_of_ble_eq_true rfl⟩ (by rw [hr33]; rfl) (Nat.le_of_ble_eq_true rfl) dX9_web_33 (fun H locs hR => ?_)
  refine W.eq (g2 := F0 m 36 ls [.int v33]) rfl ?_
  cases hf
  exact zx_ret (zr_iret X hR dX9_web_36 (Nat.le_of_ble_eq_true rfl) (Nat.le_of_ble_eq_true rfl))
def rm_X9_spring : Room := { frames := 8, cells := 4, slots := 24, locals := 132 }
theorem mf_X9_spring : zz_Mf yX9_spring cX9_spring 5 (some .int) 3 := ⟨q_642, q_1, by decide +kernel, by decide +kernel, by decide +kernel⟩
set_option maxHeartbeats 4000000 in
set_option maxRecDepth 100000 in
theorem mt_X9_spring {D : va_G} {dA : Nat → ClassId} {base t0 : Nat} {l : Launch} (hT : l.stackTraces = false) (a0 : Nat) (x1 : Int32) (x2 : Int32) (x3 : Int32) (h : zz_H) (n : Nat) {r0 : (Int32 ⊕ Nat)} {hF : zz_H} (hf : f_X9_spring a0 x1 x2 x3 h = some (r0, hF)) : zz_MX D dA base t0 l yX9_spring cX9_spring 5 (some .int) rm_X9_spring [.ref a0, .int x1, .int x2, .int x3] h n (zz_ov (fun v : Int32 => some (Value.int v)) r0) hF n := by
  refine vx_ofW (cc := cX9_spring) (maxL := 5) (ret := (some .int)) (by decide +kernel) rfl ?_
  intro p e s m args below meth c s₁ B hml hE hv
  obtain ⟨rfl, hP, hK⟩ := hv
  have X : zz_X D dA base t0 "Springseat" cX9_spring 5 (some .int) l p s m meth c := ⟨B.exec, B.bytes, hml, B.returns, findClass_of_methodNamed B.named, B.notSynchronized, hT, by rw [hP.1]; exact hP.2.1, hK⟩
  have hx := X.1
  have hb := X.2.1
  have hown := X.2.2.2.2.1
  have hR : zz_R D dA base h n s s.heap [] := ⟨hP, va_S.rf⟩
  have hl := lv_entry ([.ref a0, .int x1, .int x2, .int x3]) (n := 5) (by exact Nat.le_of_ble_eq_true rfl)
  rw [lg_entry_eq]
  generalize (lg_sl ([.ref a0, .int x1, .int x2, .int x3]) ++ List.replicate (5 - (lg_sl ([.ref a0, .int x1, .int x2, .int x3])).length) Slot.unset).toArray = ls at hl ⊢
  have hl : lv_has ls 5 [(0, .ref a0), (1, .int x1), (2, .int x2), (3, .int x3)] := hl
  unfold f_X9_spring at hf
  refine lv_aload_n hx hb dX9_spring_0 rfl (lv_at hl 0 rfl) ?_
  refine lv_iload_n hx hb dX9_spring_1 rfl (lv_at hl 1 rfl) ?_
  obtain ⟨fs2, ho2, hf⟩ := zz_obS_i hf
  refine zx_cV X hE hR hl.1 (As := [.int x1]) (rest := []) (C := RX9) (T := TX9) (N := 6) (ov := (fun v : Option Nat => some (va_rf v))) (fun r hr => mt_X9_seatOf hT a0 x1 h n hr) rfl ho2 mf_X9_seatOf q_582 q_584 qs_9 ⟨Nat.le_of_ble_eq_true rfl, Nat.le_of_ble_eq_true rfl⟩ ⟨Nat.le_of_ble_eq_true rfl, Nat.le_of_ble_eq_true rfl⟩ rfl (Nat.le_of_ble_eq_true rfl) dX9_spring_2 hf (fun k e => by cases e; exact ⟨rfl, rfl, Nat.le_refl _⟩) (Nat.le_of_ble_eq_true rfl) (Nat.le_of_ble_eq_true rfl) (fun v2 hf H locs hR => ?_)
  refine W.eq (g2 := F0 m 5 ls [va_rf v2]) rfl ?_
  refine W.widen (k := 1) (n := 6) (Nat.le_of_ble_eq_true rfl) (Nat.le_of_ble_eq_true rfl) ?_
  refine zr_astore (i := 4) (lv' := [(4, va_rf v2), (0, .ref a0), (1, .int x1), (2, .int x2), (3, .int x3)]) hx hb dX9_spring_5 hl (by decide) rfl (fun ls hl => ?_)
  refine lv_iload_n hx hb dX9_spring_7 rfl (lv_at hl 3 rfl) ?_
  refine lv_bipush (v := (20 : Int32)) hx hb dX9_spring_8 (by decide) ?_
  refine lv_bipush (v := (99 : Int32)) hx hb dX9_spring_10 (by decide) ?_
  refine zx_cS X hE hR hl.1 (As := [.int x2, .int (20 : Int32), .int (99 : Int32)]) (rest := []) (ov := (fun _ : Unit => (none : Option Value))) (fun r hr => mt_X9_needRange hT x2 (20 : Int32) (99 : Int32) h n hr) mf_X9_needRange q_344 q_345 ⟨Nat.le_of_ble_eq_true rfl, Nat.le_of_ble_eq_true rfl⟩ ⟨Nat.le_of_ble_eq_true rfl, Nat.le_of_ble_eq_true rfl⟩ rfl (Nat.le_of_ble_eq_true rfl) dX9_spring_12 hf (fun k e => by cases e; exact ⟨rfl, rfl, Nat.le_refl _⟩) (Nat.le_of_ble_eq_true rfl) (Nat.le_of_ble_eq_true rfl) (fun v12 hf H locs hR => ?_)
  refine W.eq (g2 := F0 m 15 ls []) rfl ?_
  refine W.widen (k := 2) (n := 12) (Nat.le_of_ble_eq_true rfl) (Nat.le_of_ble_eq_true rfl) ?_
  refine lv_iload_n hx hb dX9_spring_15 rfl (lv_at hl 4 rfl) ?_
  refine lv_iconst (v := (1 : Int32)) hx hb dX9_spring_16 (by decide) ?_
  refine lv_bipush (v := (9 : Int32)) hx hb dX9_spring_17 (by decide) ?_
  refine zx_cS X hE hR hl.1 (As := [.int x3, .int (1 : Int32), .int (9 : Int32)]) (rest := []) (ov := (fun _ : Unit => (none : Option Value))) (fun r hr => mt_X9_needRange hT x3 (1 : Int32) (9 : Int32) h n hr) mf_X9_needRange q_344 q_345 ⟨Nat.le_of_ble_eq_true rfl, Nat.le_of_ble_eq_true rfl⟩ ⟨Nat.le_of_ble_eq_true rfl, Nat.le_of_ble_eq_true rfl⟩ rfl (Nat.le_of_ble_eq_true rfl) dX9_spring_19 hf (fun k e => by cases e; exact ⟨rfl, rfl, Nat.le_refl _⟩) (Nat.le_of_ble_eq_true rfl) (Nat.le_of_ble_eq_true rfl) (fun v19 hf H locs hR => ?_)
  refine W.eq (g2 := F0 m 22 ls []) rfl ?_
  refine W.widen (k := 3) (n := 18) (Nat.le_of_ble_eq_true rfl) (Nat.le_of_ble_eq_true rfl) ?_
  refine zr_aload hx hb dX9_spring_22 (lv_at hl 0 rfl) ?_
  refine lv_bipush (v := (115 : Int32)) hx hb dX9_spring_24 (by decide) ?_
  refine zx_cS X hE hR hl.1 (As := [va_rf v2, .int (115 : Int32)]) (rest := []) (ov := (fun _ : Unit => (none : Option Value))) (fun r hr => mt_X9_needNext hT v2 (115 : Int32) h n hr) mf_X9_needNext q_605 q_606 ⟨Nat.le_of_ble_eq_true rfl, Nat.le_of_ble_eq_true rfl⟩ ⟨Nat.le_of_ble_eq_true rfl, Nat.le_of_ble_eq_true rfl⟩ rfl (Nat.le_of_ble_eq_true rfl) dX9_spring_26 hf (fun k e => by cases e; exact ⟨rfl, rfl, Nat.le_refl _⟩) (Nat.le_of_ble_eq_true rfl) (Nat.le_of_ble_eq_true rfl) (fun v26 hf H locs hR => ?_)
  refine W.eq (g2 := F0 m 29 ls []) rfl ?_
  refine W.widen (k := 4) (n := 24) (Nat.le_of_ble_eq_true rfl) (Nat.le_of_ble_eq_true rfl) ?_
  refine zr_aload hx hb dX9_spring_29 (lv_at hl 0 rfl) ?_
  refine zr_gqN X hR (r := v2) fn_X9_66 dX9_spring_31 hf (fun v31 hf => ?_)
  refine lv_iload_n hx hb dX9_spring_34 rfl (lv_at hl 3 rfl) ?_
  refine lv_iload_n hx hb dX9_spring_35 rfl (lv_at hl 4 rfl) ?_
  obtain ⟨b36, fs36, hr36, ho36, hf⟩ := zz_ob_i hf
  obtain ⟨u36, h36, hv36, hf⟩ := zz_b1_i hf
  refine zr_cV X hR hl.1 (As := [.int x2, .int x3]) (rest := []) (C := RX3) (T := TX3) (N := 7) (mt_X3_putSprings hT b36 x2 x3 h n hv36) rfl ho36 mf_X3_putSprings q_643 q_644 q_645 ⟨Nat.le_of_ble_eq_true rfl, Nat.le_of_ble_eq_true rfl⟩ ⟨Nat.le_of_ble_eq_true rfl, Nat.le_of_ble_eq_true rfl⟩ (by rw [hr36]; rfl) (Nat.le_of_ble_eq_true rfl) dX9_spring_36 (fun H locs hR => ?_)
  refine W.eq (g2 := F0 m 39 ls []) rfl ?_
  refine zr_aload hx hb dX9_spring_39 (lv_at hl 0 rfl) ?_
  refine zr_gqN X hR (r := v2) fn_X9_76 dX9_spring_41 hf (fun v41 hf => ?_)
  refine lv_bipush (v := (115 : Int32)) hx hb dX9_spring_44 (by decide) ?_
  obtain ⟨b46, fs46, hr46, ho46, hf⟩ := zz_ob_i hf
  obtain ⟨v46, h46, hv46, hf⟩ := zz_b1_i hf
  refine zr_cV X hR hl.1 (As := [.int (115 : Int32)]) (rest := []) (C := RX8) (T := TX8) (N := 3) (mt_X8_add hT b46 (115 : Int32) h36 n hv46) rfl ho46 mf_X8_add q_632 q_633 q_634 ⟨Nat.le_of_ble_eq_true rfl, Nat.le_of_ble_eq_true rfl⟩ ⟨Nat.le_of_ble_eq_true rfl, Nat.le_of_ble_eq_true rfl⟩ (by rw [hr46]; rfl) (Nat.le_of_ble_eq_true rfl) dX9_spring_46 (fun H locs hR => ?_)
  refine W.eq (g2 := F0 m 49 ls [.int v46]) rfl ?_
  cases hf
  exact zx_ret (zr_iret X hR dX9_spring_49 (Nat.le_of_ble_eq_true rfl) (Nat.le_of_ble_eq_true rfl))
def rm_X9_needCellIn : Room := { frames := 7, cells := 2, slots := 12, locals := 111 }
theorem mf_X9_needCellIn : zz_Mf yX9_needCellIn cX9_needCellIn 3 none 3 := ⟨q_666, q_1, by decide +kernel, by decide +kernel, by decide +kernel⟩
set_option maxHeartbeats 4000000 in
set_option maxRecDepth 100000 in
theorem mt_X9_needCellIn {D : va_G} {dA : Nat → ClassId} {base t0 : Nat} {l : Launch} (hT : l.stackTraces = false) (x0 : Int32) (x1 : Int32) (x2 : Int32) (h : zz_H) (n : Nat) {r0 : (Unit ⊕ Nat)} (hf : f_X9_needCellIn x0 x1 x2 h = some r0) : zz_MX D dA base t0 l yX9_needCellIn cX9_needCellIn 3 none rm_X9_needCellIn [.int x0, .int x1, .int x2] h n (zz_ov (fun _ : Unit => (none : Option Value)) r0) h n := by
  refine vx_ofW (cc := cX9_needCellIn) (maxL := 3) (ret := none) (by decide +kernel) rfl ?_
  intro p e s m args below meth c s₁ B hml hE hv
  obtain ⟨rfl, hP, hK⟩ := hv
  have X : zz_X D dA base t0 "Springseat" cX9_needCellIn 3 none l p s m meth c := ⟨B.exec, B.bytes, hml, B.returns, findClass_of_methodNamed B.named, B.notSynchronized, hT, by rw [hP.1]; exact hP.2.1, hK⟩
  have hx := X.1
  have hb := X.2.1
  have hown := X.2.2.2.2.1
  have hR : zz_R D dA base h n s s.heap [] := ⟨hP, va_S.rf⟩
  have hl := lv_entry ([.int x0, .int x1, .int x2]) (n := 3) (by exact Nat.le_of_ble_eq_true rfl)
  rw [lg_entry_eq]
  generalize (lg_sl ([.int x0, .int x1, .int x2]) ++ List.replicate (3 - (lg_sl ([.int x0, .int x1, .int x2])).length) Slot.unset).toArray = ls at hl ⊢
  have hl : lv_has ls 3 [(0, .int x0), (1, .int x1), (2, .int x2)] := hl
  unfold f_X9_needCellIn at hf
  refine lv_iload_n hx hb dX9_needCellIn_0 rfl (lv_at hl 0 rfl) ?_
  refine lv_bipush (v := (10 : Int32)) hx hb dX9_needCellIn_1 (by decide) ?_
  obtain ⟨hne3, hf⟩ := zz_dv_i hf
  refine lv_idiv hx hb dX9_needCellIn_3 hne3 ?_
  refine lv_iload_n hx hb dX9_needCellIn_4 rfl (lv_at hl 1 rfl) ?_
  refine zx_cS X hE hR hl.1 (As := [.int (x0 / (10 : Int32)), .int x1]) (rest := []) (ov := (fun _ : Unit => (none : Option Value))) (fun r hr => mt_X9_needIndex hT (x0 / (10 : Int32)) x1 h n hr) mf_X9_needIndex q_586 q_587 ⟨Nat.le_of_ble_eq_true rfl, Nat.le_of_ble_eq_true rfl⟩ ⟨Nat.le_of_ble_eq_true rfl, Nat.le_of_ble_eq_true rfl⟩ rfl (Nat.le_of_ble_eq_true rfl) dX9_needCellIn_5 hf (fun k e => by cases e; exact ⟨rfl, rfl, Nat.le_refl _⟩) (Nat.le_of_ble_eq_true rfl) (Nat.le_of_ble_eq_true rfl) (fun v5 hf H locs hR => ?_)
  refine W.eq (g2 := F0 m 8 ls []) rfl ?_
  refine W.widen (k := 1) (n := 6) (Nat.le_of_ble_eq_true rfl) (Nat.le_of_ble_eq_true rfl) ?_
  refine lv_iload_n hx hb dX9_needCellIn_8 rfl (lv_at hl 0 rfl) ?_
  refine lv_bipush (v := (10 : Int32)) hx hb dX9_needCellIn_9 (by decide) ?_
  obtain ⟨hne11, hf⟩ := zz_dv_i hf
  refine lv_irem hx hb dX9_needCellIn_11 hne11 ?_
  refine lv_iload_n hx hb dX9_needCellIn_12 rfl (lv_at hl 2 rfl) ?_
  refine zx_cS X hE hR hl.1 (As := [.int (zz_rem x0 (10 : Int32)), .int x2]) (rest := []) (ov := (fun _ : Unit => (none : Option Value))) (fun r hr => mt_X9_needIndex hT (zz_rem x0 (10 : Int32)) x2 h n hr) mf_X9_needIndex q_586 q_587 ⟨Nat.le_of_ble_eq_true rfl, Nat.le_of_ble_eq_true rfl⟩ ⟨Nat.le_of_ble_eq_true rfl, Nat.le_of_ble_eq_true rfl⟩ rfl (Nat.le_of_ble_eq_true rfl) dX9_needCellIn_13 hf (fun k e => by cases e; exact ⟨rfl, rfl, Nat.le_refl _⟩) (Nat.le_of_ble_eq_true rfl) (Nat.le_of_ble_eq_true rfl) (fun v13 hf H locs hR => ?_)
  refine W.eq (g2 := F0 m 16 ls []) rfl ?_
  refine W.widen (k := 2) (n := 12) (Nat.le_of_ble_eq_true rfl) (Nat.le_of_ble_eq_true rfl) ?_
  cases hf
  exact zx_ret (zr_vret X hR dX9_needCellIn_16 (Nat.le_of_ble_eq_true rfl) (Nat.le_of_ble_eq_true rfl))
def rm_X9_needCell : Room := { frames := 8, cells := 2, slots := 12, locals := 133 }
theorem mf_X9_needCell : zz_Mf yX9_needCell cX9_needCell 2 none 2 := ⟨q_663, q_1, by decide +kernel, by decide +kernel, by decide +kernel⟩
set_option maxHeartbeats 4000000 in
set_option maxRecDepth 100000 in
theorem mt_X9_needCell {D : va_G} {dA : Nat → ClassId} {base t0 : Nat} {l : Launch} (hT : l.stackTraces = false) (x0 : (Option Nat)) (x1 : Int32) (h : zz_H) (n : Nat) {r0 : (Unit ⊕ Nat)} (hf : f_X9_needCell x0 x1 h = some r0) : zz_MX D dA base t0 l yX9_needCell cX9_needCell 2 none rm_X9_needCell [va_rf x0, .int x1] h n (zz_ov (fun _ : Unit => (none : Option Value)) r0) h n := by
  refine vx_ofW (cc := cX9_needCell) (maxL := 2) (ret := none) (by decide +kernel) rfl ?_
  intro p e s m args below meth c s₁ B hml hE hv
  obtain ⟨rfl, hP, hK⟩ := hv
  have X : zz_X D dA base t0 "Springseat" cX9_needCell 2 none l p s m meth c := ⟨B.exec, B.bytes, hml, B.returns, findClass_of_methodNamed B.named, B.notSynchronized, hT, by rw [hP.1]; exact hP.2.1, hK⟩
  have hx := X.1
  have hb := X.2.1
  have hown := X.2.2.2.2.1
  have hR : zz_R D dA base h n s s.heap [] := ⟨hP, va_S.rf⟩
  have hl := lv_entry ([va_rf x0, .int x1]) (n := 2) (by cases x0 <;> exact Nat.le_of_ble_eq_true rfl)
  rw [lg_entry_eq]
  generalize (lg_sl ([va_rf x0, .int x1]) ++ List.replicate (2 - (lg_sl ([va_rf x0, .int x1])).length) Slot.unset).toArray = ls at hl ⊢
  have hl : lv_has ls 2 [(0, va_rf x0), (1, .int x1)] := by rw [show ([(0, va_rf x0), (1, .int x1)] : List (Nat × Value)) = lv_args 0 [va_rf x0, .int x1] from by cases x0 <;> rfl]; exact hl
  unfold f_X9_needCell at hf
  refine lv_iload_n hx hb dX9_needCell_0 rfl (lv_at hl 1 rfl) ?_
  refine zr_aload_n hx hb dX9_needCell_1 rfl (lv_at hl 0 rfl) ?_
  refine zr_gqN X hR (r := x0) fn_X9_66 dX9_needCell_2 hf (fun v2 hf => ?_)
  refine zr_giN X hR (r := v2) fn_X9_105 dX9_needCell_5 hf (fun v5 hf => ?_)
  refine zr_aload_n hx hb dX9_needCell_8 rfl (lv_at hl 0 rfl) ?_
  refine zr_gqN X hR (r := x0) fn_X9_66 dX9_needCell_9 hf (fun v9 hf => ?_)
  refine zr_giN X hR (r := v9) fn_X9_108 dX9_needCell_12 hf (fun v12 hf => ?_)
  refine zx_cS X hE hR hl.1 (As := [.int x1, .int v5, .int v12]) (rest := []) (ov := (fun _ : Unit => (none : Option Value))) (fun r hr => mt_X9_needCellIn hT x1 v5 v12 h n hr) mf_X9_needCellIn q_664 q_665 ⟨Nat.le_of_ble_eq_true rfl, Nat.le_of_ble_eq_true rfl⟩ ⟨Nat.le_of_ble_eq_true rfl, Nat.le_of_ble_eq_true rfl⟩ rfl (Nat.le_of_ble_eq_true rfl) dX9_needCell_15 hf (fun k e => by cases e; exact ⟨rfl, rfl, Nat.le_refl _⟩) (Nat.le_of_ble_eq_true rfl) (Nat.le_of_ble_eq_true rfl) (fun v15 hf H locs hR => ?_)
  refine W.eq (g2 := F0 m 18 ls []) rfl ?_
  refine W.widen (k := 2) (n := 12) (Nat.le_of_ble_eq_true rfl) (Nat.le_of_ble_eq_true rfl) ?_
  cases hf
  exact zx_ret (zr_vret X hR dX9_needCell_18 (Nat.le_of_ble_eq_true rfl) (Nat.le_of_ble_eq_true rfl))
def rm_X9_needInWork : Room := { frames := 6, cells := 1, slots := 6, locals := 90 }
theorem mf_X9_needInWork : zz_Mf yX9_needInWork cX9_needInWork 2 none 2 := ⟨q_669, q_1, by decide +kernel, by decide +kernel, by decide +kernel⟩
set_option maxHeartbeats 4000000 in
set_option maxRecDepth 100000 in
theorem bk_X9_needInWork_21 {D : va_G} {dA : Nat → ClassId} {base t0 : Nat} {l : Launch} {p : Program} {e : Env} {s : State} {m : MethodId} {args : Array Value} {below : List Frame} {meth : Method} {c : Code} (X : zz_X D dA base t0 "Springseat" cX9_needInWork 2 none l p s m meth c) (hE : ∀ x ∈ c.exceptionTable.toList, False) (hT : l.stackTraces = false) {h : zz_H} {n : Nat} {H : Heap} {locs : List Loc} {ls : Array Slot} (hR : zz_R D dA base h n s H locs) (hl : lv_has ls 2 []) {r0 : (Unit ⊕ Nat)} (hf : f_X9_needInWork_21 h = some r0) : W p l e rm_X9_needInWork s m args below meth c H locs 0 0 (vx_MQ below (zz_Qo D dA base (zz_ov (fun _ : Unit => (none : Option Value)) r0) h n) (zz_Xo D dA base (zz_ov (fun _ : Unit => (none : Option Value)) r0) h n) args s rm_X9_needInWork.cells rm_X9_needInWork.slots (fun q => base ≤ q)) (F0 m 21 ls []) := by
  have hx := X.1
  have hb := X.2.1
  have hown := X.2.2.2.2.1
  unfold f_X9_needInWork_21 at hf
  cases hf
  exact zx_throwW X hE hR hl.1 (k := 3) (names := ["java/lang/RuntimeException", "java/lang/Exception"]) tw_10_184.1 tw_10_184.2.1 rfl q_616 q_25 (List.mem_of_getElem? (i := 4) rfl) tw_10_184.2.2.1 tw_10_184.2.2.2 dX9_needInWork_21 dX9_needInWork_24 dX9_needInWork_25 dX9_needInWork_28 dX9_needInWork_31 (Nat.le_of_ble_eq_true rfl) ⟨Nat.le_of_ble_eq_true rfl, Nat.le_of_ble_eq_true rfl⟩ ⟨Nat.le_of_ble_eq_true rfl, Nat.le_of_ble_eq_true rfl⟩ (Nat.le_of_ble_eq_true rfl) (Nat.le_of_ble_eq_true rfl) (Nat.le_refl _)
set_option maxHeartbeats 4000000 in
set_option maxRecDepth 100000 in
theorem mt_X9_needInWork {D : va_G} {dA : Nat → ClassId} {base t0 : Nat} {l : Launch} (hT : l.stackTraces = false) (x0 : (Option Nat)) (x1 : Int32) (h : zz_H) (n : Nat) {r0 : (Unit ⊕ Nat)} (hf : f_X9_needInWork x0 x1 h = some r0) : zz_MX D dA base t0 l yX9_needInWork cX9_needInWork 2 none rm_X9_needInWork [va_rf x0, .int x1] h n (zz_ov (fun _ : Unit => (none : Option Value)) r0) h n := by
  refine vx_ofW (cc := cX9_needInWork) (maxL := 2) (ret := none) (by decide +kernel) rfl ?_
  intro p e s m args below meth c s₁ B hml hE hv
  obtain ⟨rfl, hP, hK⟩ := hv
  have X : zz_X D dA base t0 "Springseat" cX9_needInWork 2 none l p s m meth c := ⟨B.exec, B.bytes, hml, B.returns, findClass_of_methodNamed B.named, B.notSynchronized, hT, by rw [hP.1]; exact hP.2.1, hK⟩
  have hx := X.1
  have hb := X.2.1
  have hown := X.2.2.2.2.1
  have hR : zz_R D dA base h n s s.heap [] := ⟨hP, va_S.rf⟩
  have hl := lv_entry ([va_rf x0, .int x1]) (n := 2) (by cases x0 <;> exact Nat.le_of_ble_eq_true rfl)
  rw [lg_entry_eq]
  generalize (lg_sl ([va_rf x0, .int x1]) ++ List.replicate (2 - (lg_sl ([va_rf x0, .int x1])).length) Slot.unset).toArray = ls at hl ⊢
  have hl : lv_has ls 2 [(0, va_rf x0), (1, .int x1)] := by rw [show ([(0, va_rf x0), (1, .int x1)] : List (Nat × Value)) = lv_args 0 [va_rf x0, .int x1] from by cases x0 <;> rfl]; exact hl
  unfold f_X9_needInWork at hf
  refine zr_aload_n hx hb dX9_needInWork_0 rfl (lv_at hl 0 rfl) ?_
  refine zr_gqN X hR (r := x0) fn_X9_76 dX9_needInWork_1 hf (fun v1 hf => ?_)
  obtain ⟨b4, fs4, hr4, ho4, hf⟩ := zz_ob_i hf
  obtain ⟨v4, hv4, hf⟩ := zz_b_i hf
  refine zr_cV X hR hl.1 (As := []) (rest := []) (C := RX8) (T := TX8) (N := 3) (mt_X8_last hT b4 h n hv4) rfl ho4 mf_X8_last q_670 q_671 q_672 ⟨Nat.le_of_ble_eq_true rfl, Nat.le_of_ble_eq_true rfl⟩ ⟨Nat.le_of_ble_eq_true rfl, Nat.le_of_ble_eq_true rfl⟩ (by rw [hr4]; rfl) (Nat.le_of_ble_eq_true rfl) dX9_needInWork_4 (fun H locs hR => ?_)
  refine W.eq (g2 := F0 m 7 ls [.int v4]) rfl ?_
  refine lv_iload_n hx hb dX9_needInWork_7 rfl (lv_at hl 1 rfl) ?_
  refine lv_icmp_ne (tgt := 21) hx hb dX9_needInWork_8 (by decide) (fun c8 => ?_) (fun c8 => ?_)
  · replace hf := zz_neg c8 hf
    exact bk_X9_needInWork_21 X hE hT hR (lv_sub hl [] rfl) hf
  · replace hf := zz_pos c8 hf
    refine zr_aload_n hx hb dX9_needInWork_11 rfl (lv_at hl 0 rfl) ?_
    refine zr_gqN X hR (r := x0) fn_X9_76 dX9_needInWork_12 hf (fun v12 hf => ?_)
    obtain ⟨b15, fs15, hr15, ho15, hf⟩ := zz_ob_i hf
    obtain ⟨v15, hv15, hf⟩ := zz_b_i hf
    refine zr_cV X hR hl.1 (As := []) (rest := []) (C := RX8) (T := TX8) (N := 3) (mt_X8_allSigned hT b15 h n hv15) rfl ho15 mf_X8_allSigned q_674 q_613 q_614 ⟨Nat.le_of_ble_eq_true rfl, Nat.le_of_ble_eq_true rfl⟩ ⟨Nat.le_of_ble_eq_true rfl, Nat.le_of_ble_eq_true rfl⟩ (by rw [hr15]; rfl) (Nat.le_of_ble_eq_true rfl) dX9_needInWork_15 (fun H locs hR => ?_)
    refine W.eq (g2 := F0 m 18 ls [.int v15]) rfl ?_
    refine lv_if_eq (tgt := 32) hx hb dX9_needInWork_18 (by decide) (fun c18 => ?_) (fun c18 => ?_)
    · replace hf := zz_pos c18 hf
      cases hf
      exact zx_ret (zr_vret X hR dX9_needInWork_32 (Nat.le_of_ble_eq_true rfl) (Nat.le_of_ble_eq_true rfl))
    · replace hf := zz_neg c18 hf
      exact bk_X9_needInWork_21 X hE hT hR (lv_sub hl [] rfl) hf
def rm_X9_change : Room := { frames := 9, cells := 6, slots := 36, locals := 154 }
theorem mf_X9_change : zz_Mf yX9_change cX9_change 7 (some .int) 4 := ⟨q_660, q_1, by decide +kernel, by decide +kernel, by decide +kernel⟩
set_option maxHeartbeats 4000000 in
set_option maxRecDepth 100000 in
theorem mt_X9_change {D : va_G} {dA : Nat → ClassId} {base t0 : Nat} {l : Launch} (hT : l.stackTraces = false) (a0 : Nat) (x1 : Int32) (x2 : Int32) (x3 : Int32) (x4 : Int32) (h : zz_H) (n : Nat) {r0 : (Int32 ⊕ Nat)} {hF : zz_H} (hf : f_X9_change a0 x1 x2 x3 x4 h = some (r0, hF)) : zz_MX D dA base t0 l yX9_change cX9_change 7 (some .int) rm_X9_change [.ref a0, .int x1, .int x2, .int x3, .int x4] h n (zz_ov (fun v : Int32 => some (Value.int v)) r0) hF n := by
  refine vx_ofW (cc := cX9_change) (maxL := 7) (ret := (some .int)) (by decide +kernel) rfl ?_
  intro p e s m args below meth c s₁ B hml hE hv
  obtain ⟨rfl, hP, hK⟩ := hv
  have X : zz_X D dA base t0 "Springseat" cX9_change 7 (some .int) l p s m meth c := ⟨B.exec, B.bytes, hml, B.returns, findClass_of_methodNamed B.named, B.notSynchronized, hT, by rw [hP.1]; exact hP.2.1, hK⟩
  have hx := X.1
  have hb := X.2.1
  have hown := X.2.2.2.2.1
  have hR : zz_R D dA base h n s s.heap [] := ⟨hP, va_S.rf⟩
  have hl := lv_entry ([.ref a0, .int x1, .int x2, .int x3, .int x4]) (n := 7) (by exact Nat.le_of_ble_eq_true rfl)
  rw [lg_entry_eq]
  generalize (lg_sl ([.ref a0, .int x1, .int x2, .int x3, .int x4]) ++ List.replicate (7 - (lg_sl ([.ref a0, .int x1, .int x2, .int x3, .int x4])).length) Slot.unset).toArray = ls at hl ⊢
  have hl : lv_has ls 7 [(0, .ref a0), (1, .int x1), (2, .int x2), (3, .int x3), (4, .int x4)] := hl
  unfold f_X9_change at hf
  refine lv_aload_n hx hb dX9_change_0 rfl (lv_at hl 0 rfl) ?_
  refine lv_iload_n hx hb dX9_change_1 rfl (lv_at hl 1 rfl) ?_
  obtain ⟨fs2, ho2, hf⟩ := zz_obS_i hf
  refine zx_cV X hE hR hl.1 (As := [.int x1]) (rest := []) (C := RX9) (T := TX9) (N := 6) (ov := (fun v : Option Nat => some (va_rf v))) (fun r hr => mt_X9_seatOf hT a0 x1 h n hr) rfl ho2 mf_X9_seatOf q_582 q_584 qs_9 ⟨Nat.le_of_ble_eq_true rfl, Nat.le_of_ble_eq_true rfl⟩ ⟨Nat.le_of_ble_eq_true rfl, Nat.le_of_ble_eq_true rfl⟩ rfl (Nat.le_of_ble_eq_true rfl) dX9_change_2 hf (fun k e => by cases e; exact ⟨rfl, rfl, Nat.le_refl _⟩) (Nat.le_of_ble_eq_true rfl) (Nat.le_of_ble_eq_true rfl) (fun v2 hf H locs hR => ?_)
  refine W.eq (g2 := F0 m 5 ls [va_rf v2]) rfl ?_
  refine W.widen (k := 1) (n := 6) (Nat.le_of_ble_eq_true rfl) (Nat.le_of_ble_eq_true rfl) ?_
  refine zr_astore (i := 5) (lv' := [(5, va_rf v2), (0, .ref a0), (1, .int x1), (2, .int x2), (3, .int x3), (4, .int x4)]) hx hb dX9_change_5 hl (by decide) rfl (fun ls hl => ?_)
  refine zr_aload hx hb dX9_change_7 (lv_at hl 0 rfl) ?_
  refine lv_iload_n hx hb dX9_change_9 rfl (lv_at hl 3 rfl) ?_
  refine zx_cS X hE hR hl.1 (As := [va_rf v2, .int x2]) (rest := []) (ov := (fun _ : Unit => (none : Option Value))) (fun r hr => mt_X9_needCell hT v2 x2 h n hr) mf_X9_needCell q_661 q_662 ⟨Nat.le_of_ble_eq_true rfl, Nat.le_of_ble_eq_true rfl⟩ ⟨Nat.le_of_ble_eq_true rfl, Nat.le_of_ble_eq_true rfl⟩ rfl (Nat.le_of_ble_eq_true rfl) dX9_change_10 hf (fun k e => by cases e; exact ⟨rfl, rfl, Nat.le_refl _⟩) (Nat.le_of_ble_eq_true rfl) (Nat.le_of_ble_eq_true rfl) (fun v10 hf H locs hR => ?_)
  refine W.eq (g2 := F0 m 13 ls []) rfl ?_
  refine W.widen (k := 3) (n := 18) (Nat.le_of_ble_eq_true rfl) (Nat.le_of_ble_eq_true rfl) ?_
  refine lv_iload_n hx hb dX9_change_13 rfl (lv_at hl 4 rfl) ?_
  refine lv_bipush (v := (20 : Int32)) hx hb dX9_change_14 (by decide) ?_
  refine lv_bipush (v := (99 : Int32)) hx hb dX9_change_16 (by decide) ?_
  refine zx_cS X hE hR hl.1 (As := [.int x3, .int (20 : Int32), .int (99 : Int32)]) (rest := []) (ov := (fun _ : Unit => (none : Option Value))) (fun r hr => mt_X9_needRange hT x3 (20 : Int32) (99 : Int32) h n hr) mf_X9_needRange q_344 q_345 ⟨Nat.le_of_ble_eq_true rfl, Nat.le_of_ble_eq_true rfl⟩ ⟨Nat.le_of_ble_eq_true rfl, Nat.le_of_ble_eq_true rfl⟩ rfl (Nat.le_of_ble_eq_true rfl) dX9_change_18 hf (fun k e => by cases e; exact ⟨rfl, rfl, Nat.le_refl _⟩) (Nat.le_of_ble_eq_true rfl) (Nat.le_of_ble_eq_true rfl) (fun v18 hf H locs hR => ?_)
  refine W.eq (g2 := F0 m 21 ls []) rfl ?_
  refine W.widen (k := 4) (n := 24) (Nat.le_of_ble_eq_true rfl) (Nat.le_of_ble_eq_true rfl) ?_
  refine lv_iload hx hb dX9_change_21 (lv_at hl 5 rfl) ?_
  refine lv_iconst (v := (1 : Int32)) hx hb dX9_change_23 (by decide) ?_
  refine lv_bipush (v := (9 : Int32)) hx hb dX9_change_24 (by decide) ?_
  refine zx_cS X hE hR hl.1 (As := [.int x4, .int (1 : Int32), .int (9 : Int32)]) (rest := []) (ov := (fun _ : Unit => (none : Option Value))) (fun r hr => mt_X9_needRange hT x4 (1 : Int32) (9 : Int32) h n hr) mf_X9_needRange q_344 q_345 ⟨Nat.le_of_ble_eq_true rfl, Nat.le_of_ble_eq_true rfl⟩ ⟨Nat.le_of_ble_eq_true rfl, Nat.le_of_ble_eq_true rfl⟩ rfl (Nat.le_of_ble_eq_true rfl) dX9_change_26 hf (fun k e => by cases e; exact ⟨rfl, rfl, Nat.le_refl _⟩) (Nat.le_of_ble_eq_true rfl) (Nat.le_of_ble_eq_true rfl) (fun v26 hf H locs hR => ?_)
  refine W.eq (g2 := F0 m 29 ls []) rfl ?_
  refine W.widen (k := 5) (n := 30) (Nat.le_of_ble_eq_true rfl) (Nat.le_of_ble_eq_true rfl) ?_
  refine zr_aload hx hb dX9_change_29 (lv_at hl 0 rfl) ?_
  refine lv_bipush (v := (115 : Int32)) hx hb dX9_change_31 (by decide) ?_
  refine zx_cS X hE hR hl.1 (As := [va_rf v2, .int (115 : Int32)]) (rest := []) (ov := (fun _ : Unit => (none : Option Value))) (fun r hr => mt_X9_needInWork hT v2 (115 : Int32) h n hr) mf_X9_needInWork q_667 q_668 ⟨Nat.le_of_ble_eq_true rfl, Nat.le_of_ble_eq_true rfl⟩ ⟨Nat.le_of_ble_eq_true rfl, Nat.le_of_ble_eq_true rfl⟩ rfl (Nat.le_of_ble_eq_true rfl) dX9_change_33 hf (fun k e => by cases e; exact ⟨rfl, rfl, Nat.le_refl _⟩) (Nat.le_of_ble_eq_true rfl) (Nat.le_of_ble_eq_true rfl) (fun v33 hf H locs hR => ?_)
  refine W.eq (g2 := F0 m 36 ls []) rfl ?_
  refine W.widen (k := 6) (n := 36) (Nat.le_of_ble_eq_true rfl) (Nat.le_of_ble_eq_true rfl) ?_
  refine zr_aload hx hb dX9_change_36 (lv_at hl 0 rfl) ?_
  refine zr_gqN X hR (r := v2) fn_X9_66 dX9_change_38 hf (fun v38 hf => ?_)
  refine zr_gqN X hR (r := v38) fn_X9_95 dX9_change_41 hf (fun v41 hf => ?_)
  refine lv_iload_n hx hb dX9_change_44 rfl (lv_at hl 3 rfl) ?_
  obtain ⟨b45, fs45, hr45, ho45, hf⟩ := zz_ob_i hf
  obtain ⟨v45, hv45, hf⟩ := zz_b_i hf
  refine zr_cV X hR hl.1 (As := [.int x2]) (rest := []) (C := RX4) (T := TX4) (N := 1) (mt_X4_at hT b45 x2 h n hv45) rfl ho45 mf_X4_at q_676 q_218 q_219 ⟨Nat.le_of_ble_eq_true rfl, Nat.le_of_ble_eq_true rfl⟩ ⟨Nat.le_of_ble_eq_true rfl, Nat.le_of_ble_eq_true rfl⟩ (by rw [hr45]; rfl) (Nat.le_of_ble_eq_true rfl) dX9_change_45 (fun H locs hR => ?_)
  refine W.eq (g2 := F0 m 48 ls [.int v45]) rfl ?_
  refine lv_istore (i := 6) (lv' := [(6, .int v45), (5, va_rf v2), (0, .ref a0), (1, .int x1), (2, .int x2), (3, .int x3), (4, .int x4)]) hx hb dX9_change_48 hl (by decide) (by simp [zz_cat, zz_catI, zz_catR, zz_catJ, zz_catF, zz_catD]) (fun ls hl => ?_)
  refine zr_aload hx hb dX9_change_50 (lv_at hl 1 rfl) ?_
  refine zr_gqN X hR (r := v2) fn_X9_66 dX9_change_52 hf (fun v52 hf => ?_)
  refine lv_iload_n hx hb dX9_change_55 rfl (lv_at hl 4 rfl) ?_
  refine lv_iload_n hx hb dX9_change_56 rfl (lv_at hl 5 rfl) ?_
  refine lv_iload hx hb dX9_change_57 (lv_at hl 6 rfl) ?_
  obtain ⟨b59, fs59, hr59, ho59, hf⟩ := zz_ob_i hf
  obtain ⟨u59, h59, hv59, hf⟩ := zz_b1_i hf
  refine zr_cV X hR hl.1 (As := [.int x2, .int x3, .int x4]) (rest := []) (C := RX3) (T := TX3) (N := 7) (mt_X3_putSpring hT b59 x2 x3 x4 h n hv59) rfl ho59 mf_X3_putSpring q_677 q_650 q_651 ⟨Nat.le_of_ble_eq_true rfl, Nat.le_of_ble_eq_true rfl⟩ ⟨Nat.le_of_ble_eq_true rfl, Nat.le_of_ble_eq_true rfl⟩ (by rw [hr59]; rfl) (Nat.le_of_ble_eq_true rfl) dX9_change_59 (fun H locs hR => ?_)
  refine W.eq (g2 := F0 m 62 ls []) rfl ?_
  refine lv_iload hx hb dX9_change_62 (lv_at hl 0 rfl) ?_
  cases hf
  exact zx_ret (zr_iret X hR dX9_change_64 (Nat.le_of_ble_eq_true rfl) (Nat.le_of_ble_eq_true rfl))
def rm_X9_tie : Room := { frames := 8, cells := 2, slots := 12, locals := 132 }
theorem mf_X9_tie : zz_Mf yX9_tie cX9_tie 3 (some .int) 1 := ⟨q_684, q_1, by decide +kernel, by decide +kernel, by decide +kernel⟩
set_option maxHeartbeats 4000000 in
set_option maxRecDepth 100000 in
theorem mt_X9_tie {D : va_G} {dA : Nat → ClassId} {base t0 : Nat} {l : Launch} (hT : l.stackTraces = false) (a0 : Nat) (x1 : Int32) (h : zz_H) (n : Nat) {r0 : (Int32 ⊕ Nat)} {hF : zz_H} (hf : f_X9_tie a0 x1 h = some (r0, hF)) : zz_MX D dA base t0 l yX9_tie cX9_tie 3 (some .int) rm_X9_tie [.ref a0, .int x1] h n (zz_ov (fun v : Int32 => some (Value.int v)) r0) hF n := by
  refine vx_ofW (cc := cX9_tie) (maxL := 3) (ret := (some .int)) (by decide +kernel) rfl ?_
  intro p e s m args below meth c s₁ B hml hE hv
  obtain ⟨rfl, hP, hK⟩ := hv
  have X : zz_X D dA base t0 "Springseat" cX9_tie 3 (some .int) l p s m meth c := ⟨B.exec, B.bytes, hml, B.returns, findClass_of_methodNamed B.named, B.notSynchronized, hT, by rw [hP.1]; exact hP.2.1, hK⟩
  have hx := X.1
  have hb := X.2.1
  have hown := X.2.2.2.2.1
  have hR : zz_R D dA base h n s s.heap [] := ⟨hP, va_S.rf⟩
  have hl := lv_entry ([.ref a0, .int x1]) (n := 3) (by exact Nat.le_of_ble_eq_true rfl)
  rw [lg_entry_eq]
  generalize (lg_sl ([.ref a0, .int x1]) ++ List.replicate (3 - (lg_sl ([.ref a0, .int x1])).length) Slot.unset).toArray = ls at hl ⊢
  have hl : lv_has ls 3 [(0, .ref a0), (1, .int x1)] := hl
  unfold f_X9_tie at hf
  refine lv_aload_n hx hb dX9_tie_0 rfl (lv_at hl 0 rfl) ?_
  refine lv_iload_n hx hb dX9_tie_1 rfl (lv_at hl 1 rfl) ?_
  obtain ⟨fs2, ho2, hf⟩ := zz_obS_i hf
  refine zx_cV X hE hR hl.1 (As := [.int x1]) (rest := []) (C := RX9) (T := TX9) (N := 6) (ov := (fun v : Option Nat => some (va_rf v))) (fun r hr => mt_X9_seatOf hT a0 x1 h n hr) rfl ho2 mf_X9_seatOf q_582 q_584 qs_9 ⟨Nat.le_of_ble_eq_true rfl, Nat.le_of_ble_eq_true rfl⟩ ⟨Nat.le_of_ble_eq_true rfl, Nat.le_of_ble_eq_true rfl⟩ rfl (Nat.le_of_ble_eq_true rfl) dX9_tie_2 hf (fun k e => by cases e; exact ⟨rfl, rfl, Nat.le_refl _⟩) (Nat.le_of_ble_eq_true rfl) (Nat.le_of_ble_eq_true rfl) (fun v2 hf H locs hR => ?_)
  refine W.eq (g2 := F0 m 5 ls [va_rf v2]) rfl ?_
  refine W.widen (k := 1) (n := 6) (Nat.le_of_ble_eq_true rfl) (Nat.le_of_ble_eq_true rfl) ?_
  refine zr_astore_n (i := 2) (lv' := [(2, va_rf v2), (0, .ref a0), (1, .int x1)]) hx hb dX9_tie_5 rfl hl (by decide) rfl (fun ls hl => ?_)
  refine zr_aload_n hx hb dX9_tie_6 rfl (lv_at hl 0 rfl) ?_
  refine lv_bipush (v := (116 : Int32)) hx hb dX9_tie_7 (by decide) ?_
  refine zx_cS X hE hR hl.1 (As := [va_rf v2, .int (116 : Int32)]) (rest := []) (ov := (fun _ : Unit => (none : Option Value))) (fun r hr => mt_X9_needNext hT v2 (116 : Int32) h n hr) mf_X9_needNext q_605 q_606 ⟨Nat.le_of_ble_eq_true rfl, Nat.le_of_ble_eq_true rfl⟩ ⟨Nat.le_of_ble_eq_true rfl, Nat.le_of_ble_eq_true rfl⟩ rfl (Nat.le_of_ble_eq_true rfl) dX9_tie_9 hf (fun k e => by cases e; exact ⟨rfl, rfl, Nat.le_refl _⟩) (Nat.le_of_ble_eq_true rfl) (Nat.le_of_ble_eq_true rfl) (fun v9 hf H locs hR => ?_)
  refine W.eq (g2 := F0 m 12 ls []) rfl ?_
  refine W.widen (k := 2) (n := 12) (Nat.le_of_ble_eq_true rfl) (Nat.le_of_ble_eq_true rfl) ?_
  refine zr_aload_n hx hb dX9_tie_12 rfl (lv_at hl 0 rfl) ?_
  refine zr_gqN X hR (r := v2) fn_X9_76 dX9_tie_13 hf (fun v13 hf => ?_)
  refine lv_bipush (v := (116 : Int32)) hx hb dX9_tie_16 (by decide) ?_
  obtain ⟨b18, fs18, hr18, ho18, hf⟩ := zz_ob_i hf
  obtain ⟨v18, h18, hv18, hf⟩ := zz_b1_i hf
  refine zr_cV X hR hl.1 (As := [.int (116 : Int32)]) (rest := []) (C := RX8) (T := TX8) (N := 3) (mt_X8_add hT b18 (116 : Int32) h n hv18) rfl ho18 mf_X8_add q_632 q_633 q_634 ⟨Nat.le_of_ble_eq_true rfl, Nat.le_of_ble_eq_true rfl⟩ ⟨Nat.le_of_ble_eq_true rfl, Nat.le_of_ble_eq_true rfl⟩ (by rw [hr18]; rfl) (Nat.le_of_ble_eq_true rfl) dX9_tie_18 (fun H locs hR => ?_)
  refine W.eq (g2 := F0 m 21 ls [.int v18]) rfl ?_
  cases hf
  exact zx_ret (zr_iret X hR dX9_tie_21 (Nat.le_of_ble_eq_true rfl) (Nat.le_of_ble_eq_true rfl))
def rm_X9_pull : Room := { frames := 8, cells := 4, slots := 24, locals := 132 }
theorem mf_X9_pull : zz_Mf yX9_pull cX9_pull 7 (some .int) 4 := ⟨q_691, q_1, by decide +kernel, by decide +kernel, by decide +kernel⟩
set_option maxHeartbeats 4000000 in
set_option maxRecDepth 100000 in
theorem bk_X9_pull_31 {D : va_G} {dA : Nat → ClassId} {base t0 : Nat} {l : Launch} {p : Program} {e : Env} {s : State} {m : MethodId} {args : Array Value} {below : List Frame} {meth : Method} {c : Code} (X : zz_X D dA base t0 "Springseat" cX9_pull 7 (some .int) l p s m meth c) (hE : ∀ x ∈ c.exceptionTable.toList, False) (hT : l.stackTraces = false) {x2 : Int32} {x3 : Int32} {x4 : Int32} {x5 : (Option Nat)} {s0 : Int32} {s1 : Int32} {h : zz_H} {n : Nat} {H : Heap} {locs : List Loc} {ls : Array Slot} (hR : zz_R D dA base h n s H locs) (hl : lv_has ls 7 [(2, .int x2), (3, .int x3), (4, .int x4), (5, va_rf x5)]) {r0 : (Int32 ⊕ Nat)} {hF : zz_H} (hf : f_X9_pull_31 x2 x3 x4 x5 s0 s1 h = some (r0, hF)) : W p l e rm_X9_pull s m args below meth c H locs 1 6 (vx_MQ below (zz_Qo D dA base (zz_ov (fun v : Int32 => some (Value.int v)) r0) hF n) (zz_Xo D dA base (zz_ov (fun v : Int32 => some (Value.int v)) r0) hF n) args s rm_X9_pull.cells rm_X9_pull.slots (fun q => base ≤ q)) (F0 m 31 ls [.int s0, .int s1]) := by
  have hx := X.1
  have hb := X.2.1
  have hown := X.2.2.2.2.1
  unfold f_X9_pull_31 at hf
  refine zx_cS X hE hR hl.1 (As := [.int s1, .int s0]) (rest := []) (ov := (fun _ : Unit => (none : Option Value))) (fun r hr => mt_X9_needIndex hT s1 s0 h n hr) mf_X9_needIndex q_586 q_587 ⟨Nat.le_of_ble_eq_true rfl, Nat.le_of_ble_eq_true rfl⟩ ⟨Nat.le_of_ble_eq_true rfl, Nat.le_of_ble_eq_true rfl⟩ rfl (Nat.le_of_ble_eq_true rfl) dX9_pull_31 hf (fun k e => by cases e; exact ⟨rfl, rfl, Nat.le_refl _⟩) (Nat.le_of_ble_eq_true rfl) (Nat.le_of_ble_eq_true rfl) (fun v31 hf H locs hR => ?_)
  refine W.eq (g2 := F0 m 34 ls []) rfl ?_
  refine W.widen (k := 2) (n := 12) (Nat.le_of_ble_eq_true rfl) (Nat.le_of_ble_eq_true rfl) ?_
  refine lv_iload hx hb dX9_pull_34 (lv_at hl 2 rfl) ?_
  refine lv_bipush (v := (10 : Int32)) hx hb dX9_pull_36 (by decide) ?_
  refine lv_bipush (v := (99 : Int32)) hx hb dX9_pull_38 (by decide) ?_
  refine zx_cS X hE hR hl.1 (As := [.int x4, .int (10 : Int32), .int (99 : Int32)]) (rest := []) (ov := (fun _ : Unit => (none : Option Value))) (fun r hr => mt_X9_needRange hT x4 (10 : Int32) (99 : Int32) h n hr) mf_X9_needRange q_344 q_345 ⟨Nat.le_of_ble_eq_true rfl, Nat.le_of_ble_eq_true rfl⟩ ⟨Nat.le_of_ble_eq_true rfl, Nat.le_of_ble_eq_true rfl⟩ rfl (Nat.le_of_ble_eq_true rfl) dX9_pull_40 hf (fun k e => by cases e; exact ⟨rfl, rfl, Nat.le_refl _⟩) (Nat.le_of_ble_eq_true rfl) (Nat.le_of_ble_eq_true rfl) (fun v40 hf H locs hR => ?_)
  refine W.eq (g2 := F0 m 43 ls []) rfl ?_
  refine W.widen (k := 3) (n := 18) (Nat.le_of_ble_eq_true rfl) (Nat.le_of_ble_eq_true rfl) ?_
  refine zr_aload hx hb dX9_pull_43 (lv_at hl 3 rfl) ?_
  refine lv_bipush (v := (116 : Int32)) hx hb dX9_pull_45 (by decide) ?_
  refine zx_cS X hE hR hl.1 (As := [va_rf x5, .int (116 : Int32)]) (rest := []) (ov := (fun _ : Unit => (none : Option Value))) (fun r hr => mt_X9_needInWork hT x5 (116 : Int32) h n hr) mf_X9_needInWork q_667 q_668 ⟨Nat.le_of_ble_eq_true rfl, Nat.le_of_ble_eq_true rfl⟩ ⟨Nat.le_of_ble_eq_true rfl, Nat.le_of_ble_eq_true rfl⟩ rfl (Nat.le_of_ble_eq_true rfl) dX9_pull_47 hf (fun k e => by cases e; exact ⟨rfl, rfl, Nat.le_refl _⟩) (Nat.le_of_ble_eq_true rfl) (Nat.le_of_ble_eq_true rfl) (fun v47 hf H locs hR => ?_)
  refine W.eq (g2 := F0 m 50 ls []) rfl ?_
  refine W.widen (k := 4) (n := 24) (Nat.le_of_ble_eq_true rfl) (Nat.le_of_ble_eq_true rfl) ?_
  refine zr_aload hx hb dX9_pull_50 (lv_at hl 3 rfl) ?_
  refine zr_gqN X hR (r := x5) fn_X9_66 dX9_pull_52 hf (fun v52 hf => ?_)
  obtain ⟨b55, fs55, hr55, ho55, hf⟩ := zz_ob_i hf
  obtain ⟨v55, hv55, hf⟩ := zz_b_i hf
  refine zr_cV X hR hl.1 (As := []) (rest := []) (C := RX3) (T := TX3) (N := 7) (mt_X3_heightInAll hT b55 h n hv55) rfl ho55 mf_X3_heightInAll q_692 q_693 q_694 ⟨Nat.le_of_ble_eq_true rfl, Nat.le_of_ble_eq_true rfl⟩ ⟨Nat.le_of_ble_eq_true rfl, Nat.le_of_ble_eq_true rfl⟩ (by rw [hr55]; rfl) (Nat.le_of_ble_eq_true rfl) dX9_pull_55 (fun H locs hR => ?_)
  refine W.eq (g2 := F0 m 58 ls [.int v55]) rfl ?_
  refine lv_istore (i := 6) (lv' := [(6, .int v55), (2, .int x2), (3, .int x3), (4, .int x4), (5, va_rf x5)]) hx hb dX9_pull_58 hl (by decide) (by simp [zz_cat, zz_catI, zz_catR, zz_catJ, zz_catF, zz_catD]) (fun ls hl => ?_)
  refine zr_aload hx hb dX9_pull_60 (lv_at hl 4 rfl) ?_
  refine zr_gqN X hR (r := x5) fn_X9_66 dX9_pull_62 hf (fun v62 hf => ?_)
  refine lv_iload_n hx hb dX9_pull_65 rfl (lv_at hl 1 rfl) ?_
  refine lv_iload_n hx hb dX9_pull_66 rfl (lv_at hl 2 rfl) ?_
  refine lv_iload hx hb dX9_pull_67 (lv_at hl 3 rfl) ?_
  obtain ⟨b69, fs69, hr69, ho69, hf⟩ := zz_ob_i hf
  obtain ⟨u69, h69, hv69, hf⟩ := zz_b1_i hf
  refine zr_cV X hR hl.1 (As := [.int x2, .int x3, .int x4]) (rest := []) (C := RX3) (T := TX3) (N := 7) (mt_X3_setTie hT b69 x2 x3 x4 h n hv69) rfl ho69 mf_X3_setTie q_696 q_697 q_698 ⟨Nat.le_of_ble_eq_true rfl, Nat.le_of_ble_eq_true rfl⟩ ⟨Nat.le_of_ble_eq_true rfl, Nat.le_of_ble_eq_true rfl⟩ (by rw [hr69]; rfl) (Nat.le_of_ble_eq_true rfl) dX9_pull_69 (fun H locs hR => ?_)
  refine W.eq (g2 := F0 m 72 ls []) rfl ?_
  refine lv_iload hx hb dX9_pull_72 (lv_at hl 0 rfl) ?_
  refine zr_aload hx hb dX9_pull_74 (lv_at hl 4 rfl) ?_
  refine zr_gqN X hR (r := x5) fn_X9_66 dX9_pull_76 hf (fun v76 hf => ?_)
  obtain ⟨b79, fs79, hr79, ho79, hf⟩ := zz_ob_i hf
  obtain ⟨v79, hv79, hf⟩ := zz_b_i hf
  refine zr_cV X hR hl.1 (As := []) (rest := [.int v55]) (C := RX3) (T := TX3) (N := 7) (mt_X3_heightInAll hT b79 h69 n hv79) rfl ho79 mf_X3_heightInAll q_692 q_693 q_694 ⟨Nat.le_of_ble_eq_true rfl, Nat.le_of_ble_eq_true rfl⟩ ⟨Nat.le_of_ble_eq_true rfl, Nat.le_of_ble_eq_true rfl⟩ (by rw [hr79]; rfl) (Nat.le_of_ble_eq_true rfl) dX9_pull_79 (fun H locs hR => ?_)
  refine W.eq (g2 := F0 m 82 ls [.int v79, .int v55]) rfl ?_
  refine lv_isub hx hb dX9_pull_82 ?_
  refine zr_abs X hl.1 q_700 q_333 q_8 q_334 (Nat.le_of_ble_eq_true rfl) ⟨Nat.le_of_ble_eq_true rfl, Nat.le_of_ble_eq_true rfl⟩ ⟨Nat.le_of_ble_eq_true rfl, Nat.le_of_ble_eq_true rfl⟩ dX9_pull_83 ?_
  refine W.eq (g2 := F0 m 86 ls [.int (zz_abs (v55 - v79))]) rfl ?_
  cases hf
  exact zx_ret (zr_iret X hR dX9_pull_86 (Nat.le_of_ble_eq_true rfl) (Nat.le_of_ble_eq_true rfl))
set_option maxHeartbeats 4000000 in
set_option maxRecDepth 100000 in
theorem mt_X9_pull {D : va_G} {dA : Nat → ClassId} {base t0 : Nat} {l : Launch} (hT : l.stackTraces = false) (a0 : Nat) (x1 : Int32) (x2 : Int32) (x3 : Int32) (x4 : Int32) (h : zz_H) (n : Nat) {r0 : (Int32 ⊕ Nat)} {hF : zz_H} (hf : f_X9_pull a0 x1 x2 x3 x4 h = some (r0, hF)) : zz_MX D dA base t0 l yX9_pull cX9_pull 7 (some .int) rm_X9_pull [.ref a0, .int x1, .int x2, .int x3, .int x4] h n (zz_ov (fun v : Int32 => some (Value.int v)) r0) hF n := by
  refine vx_ofW (cc := cX9_pull) (maxL := 7) (ret := (some .int)) (by decide +kernel) rfl ?_
  intro p e s m args below meth c s₁ B hml hE hv
  obtain ⟨rfl, hP, hK⟩ := hv
  have X : zz_X D dA base t0 "Springseat" cX9_pull 7 (some .int) l p s m meth c := ⟨B.exec, B.bytes, hml, B.returns, findClass_of_methodNamed B.named, B.notSynchronized, hT, by rw [hP.1]; exact hP.2.1, hK⟩
  have hx := X.1
  have hb := X.2.1
  have hown := X.2.2.2.2.1
  have hR : zz_R D dA base h n s s.heap [] := ⟨hP, va_S.rf⟩
  have hl := lv_entry ([.ref a0, .int x1, .int x2, .int x3, .int x4]) (n := 7) (by exact Nat.le_of_ble_eq_true rfl)
  rw [lg_entry_eq]
  generalize (lg_sl ([.ref a0, .int x1, .int x2, .int x3, .int x4]) ++ List.replicate (7 - (lg_sl ([.ref a0, .int x1, .int x2, .int x3, .int x4])).length) Slot.unset).toArray = ls at hl ⊢
  have hl : lv_has ls 7 [(0, .ref a0), (1, .int x1), (2, .int x2), (3, .int x3), (4, .int x4)] := hl
  unfold f_X9_pull at hf
  refine lv_aload_n hx hb dX9_pull_0 rfl (lv_at hl 0 rfl) ?_
  refine lv_iload_n hx hb dX9_pull_1 rfl (lv_at hl 1 rfl) ?_
  obtain ⟨fs2, ho2, hf⟩ := zz_obS_i hf
  refine zx_cV X hE hR hl.1 (As := [.int x1]) (rest := []) (C := RX9) (T := TX9) (N := 6) (ov := (fun v : Option Nat => some (va_rf v))) (fun r hr => mt_X9_seatOf hT a0 x1 h n hr) rfl ho2 mf_X9_seatOf q_582 q_584 qs_9 ⟨Nat.le_of_ble_eq_true rfl, Nat.le_of_ble_eq_true rfl⟩ ⟨Nat.le_of_ble_eq_true rfl, Nat.le_of_ble_eq_true rfl⟩ rfl (Nat.le_of_ble_eq_true rfl) dX9_pull_2 hf (fun k e => by cases e; exact ⟨rfl, rfl, Nat.le_refl _⟩) (Nat.le_of_ble_eq_true rfl) (Nat.le_of_ble_eq_true rfl) (fun v2 hf H locs hR => ?_)
  refine W.eq (g2 := F0 m 5 ls [va_rf v2]) rfl ?_
  refine W.widen (k := 1) (n := 6) (Nat.le_of_ble_eq_true rfl) (Nat.le_of_ble_eq_true rfl) ?_
  refine zr_astore (i := 5) (lv' := [(5, va_rf v2), (0, .ref a0), (1, .int x1), (2, .int x2), (3, .int x3), (4, .int x4)]) hx hb dX9_pull_5 hl (by decide) rfl (fun ls hl => ?_)
  refine lv_iload_n hx hb dX9_pull_7 rfl (lv_at hl 4 rfl) ?_
  refine lv_iload_n hx hb dX9_pull_8 rfl (lv_at hl 3 rfl) ?_
  refine lv_if_eq (tgt := 23) hx hb dX9_pull_9 (by decide) (fun c9 => ?_) (fun c9 => ?_)
  · replace hf := zz_pos c9 hf
    refine zr_aload hx hb dX9_pull_23 (lv_at hl 0 rfl) ?_
    refine zr_gqN X hR (r := v2) fn_X9_66 dX9_pull_25 hf (fun v25 hf => ?_)
    refine zr_giN X hR (r := v25) fn_X9_108 dX9_pull_28 hf (fun v28 hf => ?_)
    exact bk_X9_pull_31 X hE hT hR (lv_sub hl [3, 4, 5, 0] rfl) hf
  · replace hf := zz_neg c9 hf
    refine zr_aload hx hb dX9_pull_12 (lv_at hl 0 rfl) ?_
    refine zr_gqN X hR (r := v2) fn_X9_66 dX9_pull_14 hf (fun v14 hf => ?_)
    refine zr_giN X hR (r := v14) fn_X9_105 dX9_pull_17 hf (fun v17 hf => ?_)
    refine lv_goto (tgt := 31) hx hb dX9_pull_20 (by decide) ?_
    exact bk_X9_pull_31 X hE hT hR (lv_sub hl [3, 4, 5, 0] rfl) hf
def rm_X9_needKind : Room := { frames := 6, cells := 1, slots := 6, locals := 90 }
theorem mf_X9_needKind : zz_Mf yX9_needKind cX9_needKind 1 none 1 := ⟨q_710, q_1, by decide +kernel, by decide +kernel, by decide +kernel⟩
set_option maxHeartbeats 4000000 in
set_option maxRecDepth 100000 in
theorem bk_X9_needKind_29 {D : va_G} {dA : Nat → ClassId} {base t0 : Nat} {l : Launch} {p : Program} {e : Env} {s : State} {m : MethodId} {args : Array Value} {below : List Frame} {meth : Method} {c : Code} (X : zz_X D dA base t0 "Springseat" cX9_needKind 1 none l p s m meth c) (hE : ∀ x ∈ c.exceptionTable.toList, False) (hT : l.stackTraces = false) {h : zz_H} {n : Nat} {H : Heap} {locs : List Loc} {ls : Array Slot} (hR : zz_R D dA base h n s H locs) (hl : lv_has ls 1 []) {r0 : (Unit ⊕ Nat)} (hf : f_X9_needKind_29 h = some r0) : W p l e rm_X9_needKind s m args below meth c H locs 0 0 (vx_MQ below (zz_Qo D dA base (zz_ov (fun _ : Unit => (none : Option Value)) r0) h n) (zz_Xo D dA base (zz_ov (fun _ : Unit => (none : Option Value)) r0) h n) args s rm_X9_needKind.cells rm_X9_needKind.slots (fun q => base ≤ q)) (F0 m 29 ls []) := by
  have hx := X.1
  have hb := X.2.1
  have hown := X.2.2.2.2.1
  unfold f_X9_needKind_29 at hf
  cases hf
  exact zx_ret (zr_vret X hR dX9_needKind_29 (Nat.le_of_ble_eq_true rfl) (Nat.le_of_ble_eq_true rfl))
set_option maxHeartbeats 4000000 in
set_option maxRecDepth 100000 in
theorem mt_X9_needKind {D : va_G} {dA : Nat → ClassId} {base t0 : Nat} {l : Launch} (hT : l.stackTraces = false) (x0 : Int32) (h : zz_H) (n : Nat) {r0 : (Unit ⊕ Nat)} (hf : f_X9_needKind x0 h = some r0) : zz_MX D dA base t0 l yX9_needKind cX9_needKind 1 none rm_X9_needKind [.int x0] h n (zz_ov (fun _ : Unit => (none : Option Value)) r0) h n := by
  refine vx_ofW (cc := cX9_needKind) (maxL := 1) (ret := none) (by decide +kernel) rfl ?_
  intro p e s m args below meth c s₁ B hml hE hv
  obtain ⟨rfl, hP, hK⟩ := hv
  have X : zz_X D dA base t0 "Springseat" cX9_needKind 1 none l p s m meth c := ⟨B.exec, B.bytes, hml, B.returns, findClass_of_methodNamed B.named, B.notSynchronized, hT, by rw [hP.1]; exact hP.2.1, hK⟩
  have hx := X.1
  have hb := X.2.1
  have hown := X.2.2.2.2.1
  have hR : zz_R D dA base h n s s.heap [] := ⟨hP, va_S.rf⟩
  have hl := lv_entry ([.int x0]) (n := 1) (by exact Nat.le_of_ble_eq_true rfl)
  rw [lg_entry_eq]
  generalize (lg_sl ([.int x0]) ++ List.replicate (1 - (lg_sl ([.int x0])).length) Slot.unset).toArray = ls at hl ⊢
  have hl : lv_has ls 1 [(0, .int x0)] := hl
  unfold f_X9_needKind at hf
  refine lv_iload_n hx hb dX9_needKind_0 rfl (lv_at hl 0 rfl) ?_
  refine lv_bipush (v := (104 : Int32)) hx hb dX9_needKind_1 (by decide) ?_
  refine lv_icmp_eq (tgt := 29) hx hb dX9_needKind_3 (by decide) (fun c3 => ?_) (fun c3 => ?_)
  · replace hf := zz_pos c3 hf
    exact bk_X9_needKind_29 X hE hT hR (lv_sub hl [] rfl) hf
  · replace hf := zz_neg c3 hf
    refine lv_iload_n hx hb dX9_needKind_6 rfl (lv_at hl 0 rfl) ?_
    refine lv_bipush (v := (102 : Int32)) hx hb dX9_needKind_7 (by decide) ?_
    refine lv_icmp_eq (tgt := 29) hx hb dX9_needKind_9 (by decide) (fun c9 => ?_) (fun c9 => ?_)
    · replace hf := zz_pos c9 hf
      exact bk_X9_needKind_29 X hE hT hR (lv_sub hl [] rfl) hf
    · replace hf := zz_neg c9 hf
      refine lv_iload_n hx hb dX9_needKind_12 rfl (lv_at hl 0 rfl) ?_
      refine lv_bipush (v := (100 : Int32)) hx hb dX9_needKind_13 (by decide) ?_
      refine lv_icmp_eq (tgt := 29) hx hb dX9_needKind_15 (by decide) (fun c15 => ?_) (fun c15 => ?_)
      · replace hf := zz_pos c15 hf
        exact bk_X9_needKind_29 X hE hT hR (lv_sub hl [] rfl) hf
      · replace hf := zz_neg c15 hf
        cases hf
        exact zx_throwW X hE hR hl.1 (k := 0) (names := ["java/lang/RuntimeException", "java/lang/Exception"]) tw_10_385.1 tw_10_385.2.1 rfl q_347 q_15 (List.mem_of_getElem? (i := 5) rfl) tw_10_385.2.2.1 tw_10_385.2.2.2 dX9_needKind_18 dX9_needKind_21 dX9_needKind_22 dX9_needKind_25 dX9_needKind_28 (Nat.le_of_ble_eq_true rfl) ⟨Nat.le_of_ble_eq_true rfl, Nat.le_of_ble_eq_true rfl⟩ ⟨Nat.le_of_ble_eq_true rfl, Nat.le_of_ble_eq_true rfl⟩ (Nat.le_of_ble_eq_true rfl) (Nat.le_of_ble_eq_true rfl) (Nat.le_refl _)
def rm_X9_layer : Room := { frames := 8, cells := 7, slots := 46, locals := 132 }
theorem mf_X9_layer : zz_Mf yX9_layer cX9_layer 6 (some .int) 4 := ⟨q_707, q_1, by decide +kernel, by decide +kernel, by decide +kernel⟩
set_option maxHeartbeats 4000000 in
set_option maxRecDepth 100000 in
theorem mt_X9_layer {D : va_G} {dA : Nat → ClassId} {base t0 : Nat} {l : Launch} (hT : l.stackTraces = false) (a0 : Nat) (x1 : Int32) (x2 : Int32) (x3 : Int32) (x4 : Int32) (h : zz_H) (n : Nat) {r0 : (Int32 ⊕ Nat)} {hF : zz_H} {nF : Nat} (hf : f_X9_layer t0 a0 x1 x2 x3 x4 h n = some (r0, hF, nF)) : zz_MX D dA base t0 l yX9_layer cX9_layer 6 (some .int) rm_X9_layer [.ref a0, .int x1, .int x2, .int x3, .int x4] h n (zz_ov (fun v : Int32 => some (Value.int v)) r0) hF nF := by
  refine vx_ofW (cc := cX9_layer) (maxL := 6) (ret := (some .int)) (by decide +kernel) rfl ?_
  intro p e s m args below meth c s₁ B hml hE hv
  obtain ⟨rfl, hP, hK⟩ := hv
  have X : zz_X D dA base t0 "Springseat" cX9_layer 6 (some .int) l p s m meth c := ⟨B.exec, B.bytes, hml, B.returns, findClass_of_methodNamed B.named, B.notSynchronized, hT, by rw [hP.1]; exact hP.2.1, hK⟩
  have hx := X.1
  have hb := X.2.1
  have hown := X.2.2.2.2.1
  have hR : zz_R D dA base h n s s.heap [] := ⟨hP, va_S.rf⟩
  have hl := lv_entry ([.ref a0, .int x1, .int x2, .int x3, .int x4]) (n := 6) (by exact Nat.le_of_ble_eq_true rfl)
  rw [lg_entry_eq]
  generalize (lg_sl ([.ref a0, .int x1, .int x2, .int x3, .int x4]) ++ List.replicate (6 - (lg_sl ([.ref a0, .int x1, .int x2, .int x3, .int x4])).length) Slot.unset).toArray = ls at hl ⊢
  have hl : lv_has ls 6 [(0, .ref a0), (1, .int x1), (2, .int x2), (3, .int x3), (4, .int x4)] := hl
  unfold f_X9_layer at hf
  refine lv_aload_n hx hb dX9_layer_0 rfl (lv_at hl 0 rfl) ?_
  refine lv_iload_n hx hb dX9_layer_1 rfl (lv_at hl 1 rfl) ?_
  obtain ⟨fs2, ho2, hf⟩ := zz_obS_i hf
  refine zx_cV X hE hR hl.1 (As := [.int x1]) (rest := []) (C := RX9) (T := TX9) (N := 6) (ov := (fun v : Option Nat => some (va_rf v))) (fun r hr => mt_X9_seatOf hT a0 x1 h n hr) rfl ho2 mf_X9_seatOf q_582 q_584 qs_9 ⟨Nat.le_of_ble_eq_true rfl, Nat.le_of_ble_eq_true rfl⟩ ⟨Nat.le_of_ble_eq_true rfl, Nat.le_of_ble_eq_true rfl⟩ rfl (Nat.le_of_ble_eq_true rfl) dX9_layer_2 hf (fun k e => by cases e; exact ⟨rfl, rfl, Nat.le_refl _⟩) (Nat.le_of_ble_eq_true rfl) (Nat.le_of_ble_eq_true rfl) (fun v2 hf H locs hR => ?_)
  refine W.eq (g2 := F0 m 5 ls [va_rf v2]) rfl ?_
  refine W.widen (k := 1) (n := 6) (Nat.le_of_ble_eq_true rfl) (Nat.le_of_ble_eq_true rfl) ?_
  refine zr_astore (i := 5) (lv' := [(5, va_rf v2), (0, .ref a0), (1, .int x1), (2, .int x2), (3, .int x3), (4, .int x4)]) hx hb dX9_layer_5 hl (by decide) rfl (fun ls hl => ?_)
  refine lv_iload_n hx hb dX9_layer_7 rfl (lv_at hl 3 rfl) ?_
  refine zx_cS X hE hR hl.1 (As := [.int x2]) (rest := []) (ov := (fun _ : Unit => (none : Option Value))) (fun r hr => mt_X9_needKind hT x2 h n hr) mf_X9_needKind q_708 q_709 ⟨Nat.le_of_ble_eq_true rfl, Nat.le_of_ble_eq_true rfl⟩ ⟨Nat.le_of_ble_eq_true rfl, Nat.le_of_ble_eq_true rfl⟩ rfl (Nat.le_of_ble_eq_true rfl) dX9_layer_8 hf (fun k e => by cases e; exact ⟨rfl, rfl, Nat.le_refl _⟩) (Nat.le_of_ble_eq_true rfl) (Nat.le_of_ble_eq_true rfl) (fun v8 hf H locs hR => ?_)
  refine W.eq (g2 := F0 m 11 ls []) rfl ?_
  refine W.widen (k := 2) (n := 12) (Nat.le_of_ble_eq_true rfl) (Nat.le_of_ble_eq_true rfl) ?_
  refine lv_iload_n hx hb dX9_layer_11 rfl (lv_at hl 4 rfl) ?_
  refine lv_iconst (v := (5 : Int32)) hx hb dX9_layer_12 (by decide) ?_
  refine lv_bipush (v := (60 : Int32)) hx hb dX9_layer_13 (by decide) ?_
  refine zx_cS X hE hR hl.1 (As := [.int x3, .int (5 : Int32), .int (60 : Int32)]) (rest := []) (ov := (fun _ : Unit => (none : Option Value))) (fun r hr => mt_X9_needRange hT x3 (5 : Int32) (60 : Int32) h n hr) mf_X9_needRange q_344 q_345 ⟨Nat.le_of_ble_eq_true rfl, Nat.le_of_ble_eq_true rfl⟩ ⟨Nat.le_of_ble_eq_true rfl, Nat.le_of_ble_eq_true rfl⟩ rfl (Nat.le_of_ble_eq_true rfl) dX9_layer_15 hf (fun k e => by cases e; exact ⟨rfl, rfl, Nat.le_refl _⟩) (Nat.le_of_ble_eq_true rfl) (Nat.le_of_ble_eq_true rfl) (fun v15 hf H locs hR => ?_)
  refine W.eq (g2 := F0 m 18 ls []) rfl ?_
  refine W.widen (k := 3) (n := 18) (Nat.le_of_ble_eq_true rfl) (Nat.le_of_ble_eq_true rfl) ?_
  refine lv_iload hx hb dX9_layer_18 (lv_at hl 5 rfl) ?_
  refine lv_iconst (v := (1 : Int32)) hx hb dX9_layer_20 (by decide) ?_
  refine lv_bipush (v := (9 : Int32)) hx hb dX9_layer_21 (by decide) ?_
  refine zx_cS X hE hR hl.1 (As := [.int x4, .int (1 : Int32), .int (9 : Int32)]) (rest := []) (ov := (fun _ : Unit => (none : Option Value))) (fun r hr => mt_X9_needRange hT x4 (1 : Int32) (9 : Int32) h n hr) mf_X9_needRange q_344 q_345 ⟨Nat.le_of_ble_eq_true rfl, Nat.le_of_ble_eq_true rfl⟩ ⟨Nat.le_of_ble_eq_true rfl, Nat.le_of_ble_eq_true rfl⟩ rfl (Nat.le_of_ble_eq_true rfl) dX9_layer_23 hf (fun k e => by cases e; exact ⟨rfl, rfl, Nat.le_refl _⟩) (Nat.le_of_ble_eq_true rfl) (Nat.le_of_ble_eq_true rfl) (fun v23 hf H locs hR => ?_)
  refine W.eq (g2 := F0 m 26 ls []) rfl ?_
  refine W.widen (k := 4) (n := 24) (Nat.le_of_ble_eq_true rfl) (Nat.le_of_ble_eq_true rfl) ?_
  refine zr_aload hx hb dX9_layer_26 (lv_at hl 0 rfl) ?_
  refine lv_bipush (v := (108 : Int32)) hx hb dX9_layer_28 (by decide) ?_
  refine zx_cS X hE hR hl.1 (As := [va_rf v2, .int (108 : Int32)]) (rest := []) (ov := (fun _ : Unit => (none : Option Value))) (fun r hr => mt_X9_needNext hT v2 (108 : Int32) h n hr) mf_X9_needNext q_605 q_606 ⟨Nat.le_of_ble_eq_true rfl, Nat.le_of_ble_eq_true rfl⟩ ⟨Nat.le_of_ble_eq_true rfl, Nat.le_of_ble_eq_true rfl⟩ rfl (Nat.le_of_ble_eq_true rfl) dX9_layer_30 hf (fun k e => by cases e; exact ⟨rfl, rfl, Nat.le_refl _⟩) (Nat.le_of_ble_eq_true rfl) (Nat.le_of_ble_eq_true rfl) (fun v30 hf H locs hR => ?_)
  refine W.eq (g2 := F0 m 33 ls []) rfl ?_
  refine W.widen (k := 5) (n := 30) (Nat.le_of_ble_eq_true rfl) (Nat.le_of_ble_eq_true rfl) ?_
  refine zr_aload hx hb dX9_layer_33 (lv_at hl 0 rfl) ?_
  refine zr_gqN X hR (r := v2) fn_X9_130 dX9_layer_35 hf (fun v35 hf => ?_)
  refine zr_new X hR (fs := [.int 0, .int 0, .int 0, .int 0, .long 0, .int 0]) zc7 q_712 q_713 q_26 (fun j hj => by rcases (show j = 0 ∨ j = 1 ∨ j = 2 ∨ j = 3 ∨ j = 4 ∨ j = 5 by omega) with rfl | rfl | rfl | rfl | rfl | rfl <;> rfl) (Nat.le_of_ble_eq_true rfl) (Nat.le_of_ble_eq_true rfl) dX9_layer_38 (fun H hR => ?_)
  refine W.widen (k := 6) (n := 36) (Nat.le_of_ble_eq_true rfl) (Nat.le_of_ble_eq_true rfl) ?_
  refine lv_dup hx hb dX9_layer_41 rfl ?_
  refine lv_iload_n hx hb dX9_layer_42 rfl (lv_at hl 3 rfl) ?_
  refine lv_iload_n hx hb dX9_layer_43 rfl (lv_at hl 4 rfl) ?_
  refine lv_iload hx hb dX9_layer_44 (lv_at hl 5 rfl) ?_
  obtain ⟨u46, h46, hv46, hf⟩ := zz_b1_i hf
  refine zr_cI X hR hl.1 (As := [.int x2, .int x3, .int x4]) (rest := [.ref n, va_rf v35]) (mt_X6_init hT n x2 x3 x4 (zz_u h n (.inr (7, [.int 0, .int 0, .int 0, .int 0, .long 0, .int 0]))) (n + 1) hv46) mf_X6_init rfl q_714 q_715 ⟨Nat.le_of_ble_eq_true rfl, Nat.le_of_ble_eq_true rfl⟩ ⟨Nat.le_of_ble_eq_true rfl, Nat.le_of_ble_eq_true rfl⟩ rfl (Nat.le_of_ble_eq_true rfl) dX9_layer_46 (fun H locs hR => ?_)
  refine W.eq (g2 := F0 m 49 ls [.ref n, va_rf v35]) rfl ?_
  obtain ⟨b49, fs49, hr49, ho49, hf⟩ := zz_ob_i hf
  obtain ⟨u49, h49, n49, hv49, hf⟩ := zz_b2_i hf
  refine zr_cV X hR hl.1 (As := [.ref n]) (rest := []) (C := RX2) (T := TX2) (N := 1) (mt_X2_add hT b49 (some n) h46 (n + 1) hv49) rfl ho49 mf_X2_add q_741 q_742 q_743 ⟨Nat.le_of_ble_eq_true rfl, Nat.le_of_ble_eq_true rfl⟩ ⟨Nat.le_of_ble_eq_true rfl, Nat.le_of_ble_eq_true rfl⟩ (by rw [hr49]; rfl) (Nat.le_of_ble_eq_true rfl) dX9_layer_49 (fun H locs hR => ?_)
  refine W.eq (g2 := F0 m 52 ls []) rfl ?_
  refine W.widen (k := 7) (n := 46) (Nat.le_of_ble_eq_true rfl) (Nat.le_of_ble_eq_true rfl) ?_
  refine zr_aload hx hb dX9_layer_52 (lv_at hl 0 rfl) ?_
  refine zr_gqN X hR (r := v2) fn_X9_76 dX9_layer_54 hf (fun v54 hf => ?_)
  refine lv_bipush (v := (108 : Int32)) hx hb dX9_layer_57 (by decide) ?_
  obtain ⟨b59, fs59, hr59, ho59, hf⟩ := zz_ob_i hf
  obtain ⟨v59, h59, hv59, hf⟩ := zz_b1_i hf
  refine zr_cV X hR hl.1 (As := [.int (108 : Int32)]) (rest := []) (C := RX8) (T := TX8) (N := 3) (mt_X8_add hT b59 (108 : Int32) h49 n49 hv59) rfl ho59 mf_X8_add q_632 q_633 q_634 ⟨Nat.le_of_ble_eq_true rfl, Nat.le_of_ble_eq_true rfl⟩ ⟨Nat.le_of_ble_eq_true rfl, Nat.le_of_ble_eq_true rfl⟩ (by rw [hr59]; rfl) (Nat.le_of_ble_eq_true rfl) dX9_layer_59 (fun H locs hR => ?_)
  refine W.eq (g2 := F0 m 62 ls [.int v59]) rfl ?_
  cases hf
  exact zx_ret (zr_iret X hR dX9_layer_62 (Nat.le_of_ble_eq_true rfl) (Nat.le_of_ble_eq_true rfl))
def rm_X9_buttons : Room := { frames := 8, cells := 2, slots := 12, locals := 132 }
theorem mf_X9_buttons : zz_Mf yX9_buttons cX9_buttons 3 (some .int) 1 := ⟨q_752, q_1, by decide +kernel, by decide +kernel, by decide +kernel⟩
set_option maxHeartbeats 4000000 in
set_option maxRecDepth 100000 in
theorem mt_X9_buttons {D : va_G} {dA : Nat → ClassId} {base t0 : Nat} {l : Launch} (hT : l.stackTraces = false) (a0 : Nat) (x1 : Int32) (h : zz_H) (n : Nat) {r0 : (Int32 ⊕ Nat)} {hF : zz_H} (hf : f_X9_buttons a0 x1 h = some (r0, hF)) : zz_MX D dA base t0 l yX9_buttons cX9_buttons 3 (some .int) rm_X9_buttons [.ref a0, .int x1] h n (zz_ov (fun v : Int32 => some (Value.int v)) r0) hF n := by
  refine vx_ofW (cc := cX9_buttons) (maxL := 3) (ret := (some .int)) (by decide +kernel) rfl ?_
  intro p e s m args below meth c s₁ B hml hE hv
  obtain ⟨rfl, hP, hK⟩ := hv
  have X : zz_X D dA base t0 "Springseat" cX9_buttons 3 (some .int) l p s m meth c := ⟨B.exec, B.bytes, hml, B.returns, findClass_of_methodNamed B.named, B.notSynchronized, hT, by rw [hP.1]; exact hP.2.1, hK⟩
  have hx := X.1
  have hb := X.2.1
  have hown := X.2.2.2.2.1
  have hR : zz_R D dA base h n s s.heap [] := ⟨hP, va_S.rf⟩
  have hl := lv_entry ([.ref a0, .int x1]) (n := 3) (by exact Nat.le_of_ble_eq_true rfl)
  rw [lg_entry_eq]
  generalize (lg_sl ([.ref a0, .int x1]) ++ List.replicate (3 - (lg_sl ([.ref a0, .int x1])).length) Slot.unset).toArray = ls at hl ⊢
  have hl : lv_has ls 3 [(0, .ref a0), (1, .int x1)] := hl
  unfold f_X9_buttons at hf
  refine lv_aload_n hx hb dX9_buttons_0 rfl (lv_at hl 0 rfl) ?_
  refine lv_iload_n hx hb dX9_buttons_1 rfl (lv_at hl 1 rfl) ?_
  obtain ⟨fs2, ho2, hf⟩ := zz_obS_i hf
  refine zx_cV X hE hR hl.1 (As := [.int x1]) (rest := []) (C := RX9) (T := TX9) (N := 6) (ov := (fun v : Option Nat => some (va_rf v))) (fun r hr => mt_X9_seatOf hT a0 x1 h n hr) rfl ho2 mf_X9_seatOf q_582 q_584 qs_9 ⟨Nat.le_of_ble_eq_true rfl, Nat.le_of_ble_eq_true rfl⟩ ⟨Nat.le_of_ble_eq_true rfl, Nat.le_of_ble_eq_true rfl⟩ rfl (Nat.le_of_ble_eq_true rfl) dX9_buttons_2 hf (fun k e => by cases e; exact ⟨rfl, rfl, Nat.le_refl _⟩) (Nat.le_of_ble_eq_true rfl) (Nat.le_of_ble_eq_true rfl) (fun v2 hf H locs hR => ?_)
  refine W.eq (g2 := F0 m 5 ls [va_rf v2]) rfl ?_
  refine W.widen (k := 1) (n := 6) (Nat.le_of_ble_eq_true rfl) (Nat.le_of_ble_eq_true rfl) ?_
  refine zr_astore_n (i := 2) (lv' := [(2, va_rf v2), (0, .ref a0), (1, .int x1)]) hx hb dX9_buttons_5 rfl hl (by decide) rfl (fun ls hl => ?_)
  refine zr_aload_n hx hb dX9_buttons_6 rfl (lv_at hl 0 rfl) ?_
  refine lv_bipush (v := (98 : Int32)) hx hb dX9_buttons_7 (by decide) ?_
  refine zx_cS X hE hR hl.1 (As := [va_rf v2, .int (98 : Int32)]) (rest := []) (ov := (fun _ : Unit => (none : Option Value))) (fun r hr => mt_X9_needNext hT v2 (98 : Int32) h n hr) mf_X9_needNext q_605 q_606 ⟨Nat.le_of_ble_eq_true rfl, Nat.le_of_ble_eq_true rfl⟩ ⟨Nat.le_of_ble_eq_true rfl, Nat.le_of_ble_eq_true rfl⟩ rfl (Nat.le_of_ble_eq_true rfl) dX9_buttons_9 hf (fun k e => by cases e; exact ⟨rfl, rfl, Nat.le_refl _⟩) (Nat.le_of_ble_eq_true rfl) (Nat.le_of_ble_eq_true rfl) (fun v9 hf H locs hR => ?_)
  refine W.eq (g2 := F0 m 12 ls []) rfl ?_
  refine W.widen (k := 2) (n := 12) (Nat.le_of_ble_eq_true rfl) (Nat.le_of_ble_eq_true rfl) ?_
  refine zr_aload_n hx hb dX9_buttons_12 rfl (lv_at hl 0 rfl) ?_
  refine zr_gqN X hR (r := v2) fn_X9_76 dX9_buttons_13 hf (fun v13 hf => ?_)
  refine lv_bipush (v := (98 : Int32)) hx hb dX9_buttons_16 (by decide) ?_
  obtain ⟨b18, fs18, hr18, ho18, hf⟩ := zz_ob_i hf
  obtain ⟨v18, h18, hv18, hf⟩ := zz_b1_i hf
  refine zr_cV X hR hl.1 (As := [.int (98 : Int32)]) (rest := []) (C := RX8) (T := TX8) (N := 3) (mt_X8_add hT b18 (98 : Int32) h n hv18) rfl ho18 mf_X8_add q_632 q_633 q_634 ⟨Nat.le_of_ble_eq_true rfl, Nat.le_of_ble_eq_true rfl⟩ ⟨Nat.le_of_ble_eq_true rfl, Nat.le_of_ble_eq_true rfl⟩ (by rw [hr18]; rfl) (Nat.le_of_ble_eq_true rfl) dX9_buttons_18 (fun H locs hR => ?_)
  refine W.eq (g2 := F0 m 21 ls [.int v18]) rfl ?_
  cases hf
  exact zx_ret (zr_iret X hR dX9_buttons_21 (Nat.le_of_ble_eq_true rfl) (Nat.le_of_ble_eq_true rfl))
end ZZM
