section ZZM
def rm_X10_isLastSigned : Room := { frames := 0, cells := 0, slots := 0, locals := 0 }
theorem mf_X10_isLastSigned : zz_Mf yX10_isLastSigned cX10_isLastSigned 2 (some .boolean) 1 := ⟨q_1393, q_11, by decide +kernel, by decide +kernel, by decide +kernel⟩
set_option maxHeartbeats 4000000 in
set_option maxRecDepth 100000 in
theorem bk_X10_isLastSigned_32 {D : va_G} {dA : Nat → ClassId} {base t0 : Nat} {l : Launch} {p : Program} {e : Env} {s : State} {m : MethodId} {args : Array Value} {below : List Frame} {meth : Method} {c : Code} (X : zz_X D dA base t0 "SpringseatModel" cX10_isLastSigned 2 (some .boolean) l p s m meth c) (hT : l.stackTraces = false) {s0 : Int32} {h : zz_H} {n : Nat} {H : Heap} {locs : List Loc} {ls : Array Slot} (hR : zz_R D dA base h n s H locs) (hl : lv_has ls 2 []) {r0 : Int32} (hf : f_X10_isLastSigned_32 s0 h = some r0) : W p l e rm_X10_isLastSigned s m args below meth c H locs 0 0 (MQ below (zz_Qc D dA base (some (.int r0)) h n) args s rm_X10_isLastSigned.cells rm_X10_isLastSigned.slots (fun q => base ≤ q)) (F0 m 32 ls [.int s0]) := by
  have hx := X.1
  have hb := X.2.1
  have hown := X.2.2.2.2.1
  unfold f_X10_isLastSigned_32 at hf
  obtain ⟨hz32, hf⟩ := zz_gz_i hf
  cases hf
  exact zr_zret X hR (zz_nz hz32) dX10_isLastSigned_32 (Nat.le_of_ble_eq_true rfl) (Nat.le_of_ble_eq_true rfl)
set_option maxHeartbeats 4000000 in
set_option maxRecDepth 100000 in
theorem bk_X10_isLastSigned_27 {D : va_G} {dA : Nat → ClassId} {base t0 : Nat} {l : Launch} {p : Program} {e : Env} {s : State} {m : MethodId} {args : Array Value} {below : List Frame} {meth : Method} {c : Code} (X : zz_X D dA base t0 "SpringseatModel" cX10_isLastSigned 2 (some .boolean) l p s m meth c) (hT : l.stackTraces = false) {h : zz_H} {n : Nat} {H : Heap} {locs : List Loc} {ls : Array Slot} (hR : zz_R D dA base h n s H locs) (hl : lv_has ls 2 []) {r0 : Int32} (hf : f_X10_isLastSigned_27 h = some r0) : W p l e rm_X10_isLastSigned s m args below meth c H locs 0 0 (MQ below (zz_Qc D dA base (some (.int r0)) h n) args s rm_X10_isLastSigned.cells rm_X10_isLastSigned.slots (fun q => base ≤ q)) (F0 m 27 ls []) := by
  have hx := X.1
  have hb := X.2.1
  have hown := X.2.2.2.2.1
  unfold f_X10_isLastSigned_27 at hf
  refine lv_iconst (v := (1 : Int32)) hx hb dX10_isLastSigned_27 (by decide) ?_
  refine lv_goto (tgt := 32) hx hb dX10_isLastSigned_28 (by decide) ?_
  exact bk_X10_isLastSigned_32 X hT hR (lv_sub hl [] rfl) hf
set_option maxHeartbeats 4000000 in
set_option maxRecDepth 100000 in
theorem mt_X10_isLastSigned {D : va_G} {dA : Nat → ClassId} {base t0 : Nat} {l : Launch} (hT : l.stackTraces = false) (a0 : Nat) (x1 : Int32) (h : zz_H) (n : Nat) {r0 : Int32} (hf : f_X10_isLastSigned a0 x1 h = some r0) : zz_M D dA base t0 l yX10_isLastSigned cX10_isLastSigned 2 (some .boolean) rm_X10_isLastSigned [.ref a0, .int x1] h n (some (.int r0)) h n := by
  refine Met.ofW (cc := cX10_isLastSigned) (maxL := 2) (ret := (some .boolean)) (by decide +kernel) rfl ?_
  intro p e s m args below meth c s₁ B hml hv
  obtain ⟨rfl, hP, hK⟩ := hv
  have X : zz_X D dA base t0 "SpringseatModel" cX10_isLastSigned 2 (some .boolean) l p s m meth c := ⟨B.exec, B.bytes, hml, B.returns, findClass_of_methodNamed B.named, B.notSynchronized, hT, by rw [hP.1]; exact hP.2.1, hK⟩
  have hx := X.1
  have hb := X.2.1
  have hown := X.2.2.2.2.1
  have hR : zz_R D dA base h n s s.heap [] := ⟨hP, va_S.rf⟩
  have hl := lv_entry ([.ref a0, .int x1]) (n := 2) (by exact Nat.le_of_ble_eq_true rfl)
  rw [lg_entry_eq]
  generalize (lg_sl ([.ref a0, .int x1]) ++ List.replicate (2 - (lg_sl ([.ref a0, .int x1])).length) Slot.unset).toArray = ls at hl ⊢
  have hl : lv_has ls 2 [(0, .ref a0), (1, .int x1)] := hl
  unfold f_X10_isLastSigned at hf
  refine lv_aload_n hx hb dX10_isLastSigned_0 rfl (lv_at hl 0 rfl) ?_
  refine zr_gq X hR (r := (some a0)) fl_X10_16 dX10_isLastSigned_1 hf (fun v1 hf => ?_)
  refine lv_iload_n hx hb dX10_isLastSigned_4 rfl (lv_at hl 1 rfl) ?_
  refine zr_iald X hR (r := v1) dX10_isLastSigned_5 hf (fun v5 hf => ?_)
  refine lv_if_eq (tgt := 27) hx hb dX10_isLastSigned_6 (by decide) (fun c6 => ?_) (fun c6 => ?_)
  · replace hf := zz_pos c6 hf
    exact bk_X10_isLastSigned_27 X hT hR (lv_sub hl [] rfl) hf
  · replace hf := zz_neg c6 hf
    refine lv_aload_n hx hb dX10_isLastSigned_9 rfl (lv_at hl 0 rfl) ?_
    refine zr_gq X hR (r := (some a0)) fl_X10_26 dX10_isLastSigned_10 hf (fun v10 hf => ?_)
    refine lv_iload_n hx hb dX10_isLastSigned_13 rfl (lv_at hl 1 rfl) ?_
    refine zr_aald X hR (t := 9) (r := v10) (by decide) rfl dX10_isLastSigned_14 hf (fun v14 hf => ?_)
    refine lv_aload_n hx hb dX10_isLastSigned_15 rfl (lv_at hl 0 rfl) ?_
    refine zr_gq X hR (r := (some a0)) fl_X10_16 dX10_isLastSigned_16 hf (fun v16 hf => ?_)
    refine lv_iload_n hx hb dX10_isLastSigned_19 rfl (lv_at hl 1 rfl) ?_
    refine zr_iald X hR (r := v16) dX10_isLastSigned_20 hf (fun v20 hf => ?_)
    refine lv_iconst (v := (1 : Int32)) hx hb dX10_isLastSigned_21 (by decide) ?_
    refine lv_isub hx hb dX10_isLastSigned_22 ?_
    refine zr_zald X hR (r := v14) dX10_isLastSigned_23 hf (fun v23 hf => ?_)
    refine lv_if_eq (tgt := 31) hx hb dX10_isLastSigned_24 (by decide) (fun c24 => ?_) (fun c24 => ?_)
    · replace hf := zz_pos c24 hf
      refine lv_iconst (v := (0 : Int32)) hx hb dX10_isLastSigned_31 (by decide) ?_
      exact bk_X10_isLastSigned_32 X hT hR (lv_sub hl [] rfl) hf
    · replace hf := zz_neg c24 hf
      exact bk_X10_isLastSigned_27 X hT hR (lv_sub hl [] rfl) hf
def rm_X10_isLastOpen : Room := { frames := 1, cells := 0, slots := 0, locals := 21 }
theorem mf_X10_isLastOpen : zz_Mf yX10_isLastOpen cX10_isLastOpen 3 (some .boolean) 2 := ⟨q_1420, q_11, by decide +kernel, by decide +kernel, by decide +kernel⟩
set_option maxHeartbeats 4000000 in
set_option maxRecDepth 100000 in
theorem bk_X10_isLastOpen_22 {D : va_G} {dA : Nat → ClassId} {base t0 : Nat} {l : Launch} {p : Program} {e : Env} {s : State} {m : MethodId} {args : Array Value} {below : List Frame} {meth : Method} {c : Code} (X : zz_X D dA base t0 "SpringseatModel" cX10_isLastOpen 3 (some .boolean) l p s m meth c) (hT : l.stackTraces = false) {s0 : Int32} {h : zz_H} {n : Nat} {H : Heap} {locs : List Loc} {ls : Array Slot} (hR : zz_R D dA base h n s H locs) (hl : lv_has ls 3 []) {r0 : Int32} (hf : f_X10_isLastOpen_22 s0 h = some r0) : W p l e rm_X10_isLastOpen s m args below meth c H locs 0 0 (MQ below (zz_Qc D dA base (some (.int r0)) h n) args s rm_X10_isLastOpen.cells rm_X10_isLastOpen.slots (fun q => base ≤ q)) (F0 m 22 ls [.int s0]) := by
  have hx := X.1
  have hb := X.2.1
  have hown := X.2.2.2.2.1
  unfold f_X10_isLastOpen_22 at hf
  obtain ⟨hz22, hf⟩ := zz_gz_i hf
  cases hf
  exact zr_zret X hR (zz_nz hz22) dX10_isLastOpen_22 (Nat.le_of_ble_eq_true rfl) (Nat.le_of_ble_eq_true rfl)
set_option maxHeartbeats 4000000 in
set_option maxRecDepth 100000 in
theorem bk_X10_isLastOpen_21 {D : va_G} {dA : Nat → ClassId} {base t0 : Nat} {l : Launch} {p : Program} {e : Env} {s : State} {m : MethodId} {args : Array Value} {below : List Frame} {meth : Method} {c : Code} (X : zz_X D dA base t0 "SpringseatModel" cX10_isLastOpen 3 (some .boolean) l p s m meth c) (hT : l.stackTraces = false) {h : zz_H} {n : Nat} {H : Heap} {locs : List Loc} {ls : Array Slot} (hR : zz_R D dA base h n s H locs) (hl : lv_has ls 3 []) {r0 : Int32} (hf : f_X10_isLastOpen_21 h = some r0) : W p l e rm_X10_isLastOpen s m args below meth c H locs 0 0 (MQ below (zz_Qc D dA base (some (.int r0)) h n) args s rm_X10_isLastOpen.cells rm_X10_isLastOpen.slots (fun q => base ≤ q)) (F0 m 21 ls []) := by
  have hx := X.1
  have hb := X.2.1
  have hown := X.2.2.2.2.1
  unfold f_X10_isLastOpen_21 at hf
  refine lv_iconst (v := (0 : Int32)) hx hb dX10_isLastOpen_21 (by decide) ?_
  exact bk_X10_isLastOpen_22 X hT hR (lv_sub hl [] rfl) hf
set_option maxHeartbeats 4000000 in
set_option maxRecDepth 100000 in
theorem mt_X10_isLastOpen {D : va_G} {dA : Nat → ClassId} {base t0 : Nat} {l : Launch} (hT : l.stackTraces = false) (a0 : Nat) (x1 : Int32) (x2 : Int32) (h : zz_H) (n : Nat) {r0 : Int32} (hf : f_X10_isLastOpen a0 x1 x2 h = some r0) : zz_M D dA base t0 l yX10_isLastOpen cX10_isLastOpen 3 (some .boolean) rm_X10_isLastOpen [.ref a0, .int x1, .int x2] h n (some (.int r0)) h n := by
  refine Met.ofW (cc := cX10_isLastOpen) (maxL := 3) (ret := (some .boolean)) (by decide +kernel) rfl ?_
  intro p e s m args below meth c s₁ B hml hv
  obtain ⟨rfl, hP, hK⟩ := hv
  have X : zz_X D dA base t0 "SpringseatModel" cX10_isLastOpen 3 (some .boolean) l p s m meth c := ⟨B.exec, B.bytes, hml, B.returns, findClass_of_methodNamed B.named, B.notSynchronized, hT, by rw [hP.1]; exact hP.2.1, hK⟩
  have hx := X.1
  have hb := X.2.1
  have hown := X.2.2.2.2.1
  have hR : zz_R D dA base h n s s.heap [] := ⟨hP, va_S.rf⟩
  have hl := lv_entry ([.ref a0, .int x1, .int x2]) (n := 3) (by exact Nat.le_of_ble_eq_true rfl)
  rw [lg_entry_eq]
  generalize (lg_sl ([.ref a0, .int x1, .int x2]) ++ List.replicate (3 - (lg_sl ([.ref a0, .int x1, .int x2])).length) Slot.unset).toArray = ls at hl ⊢
  have hl : lv_has ls 3 [(0, .ref a0), (1, .int x1), (2, .int x2)] := hl
  unfold f_X10_isLastOpen at hf
  refine lv_aload_n hx hb dX10_isLastOpen_0 rfl (lv_at hl 0 rfl) ?_
  refine lv_iload_n hx hb dX10_isLastOpen_1 rfl (lv_at hl 1 rfl) ?_
  obtain ⟨fs2, ho2, hf⟩ := zz_obS_i hf
  obtain ⟨v2, hv2, hf⟩ := zz_b_i hf
  refine zr_cV X hR hl.1 (As := [.int x1]) (rest := []) (C := RX10) (T := TX10) (N := 34) (mt_X10_last hT a0 x1 h n hv2) rfl ho2 mf_X10_last q_1386 q_1388 qs_20 ⟨Nat.le_of_ble_eq_true rfl, Nat.le_of_ble_eq_true rfl⟩ ⟨Nat.le_of_ble_eq_true rfl, Nat.le_of_ble_eq_true rfl⟩ rfl (Nat.le_of_ble_eq_true rfl) dX10_isLastOpen_2 (fun H locs hR => ?_)
  refine W.eq (g2 := F0 m 5 ls [.int v2]) rfl ?_
  refine lv_iload_n hx hb dX10_isLastOpen_5 rfl (lv_at hl 2 rfl) ?_
  refine lv_icmp_ne (tgt := 21) hx hb dX10_isLastOpen_6 (by decide) (fun c6 => ?_) (fun c6 => ?_)
  · replace hf := zz_neg c6 hf
    exact bk_X10_isLastOpen_21 X hT hR (lv_sub hl [] rfl) hf
  · replace hf := zz_pos c6 hf
    refine lv_aload_n hx hb dX10_isLastOpen_9 rfl (lv_at hl 0 rfl) ?_
    refine lv_iload_n hx hb dX10_isLastOpen_10 rfl (lv_at hl 1 rfl) ?_
    obtain ⟨fs11, ho11, hf⟩ := zz_obS_i hf
    obtain ⟨v11, hv11, hf⟩ := zz_b_i hf
    refine zr_cV X hR hl.1 (As := [.int x1]) (rest := []) (C := RX10) (T := TX10) (N := 34) (mt_X10_isLastSigned hT a0 x1 h n hv11) rfl ho11 mf_X10_isLastSigned q_1390 q_1392 qs_21 ⟨Nat.le_of_ble_eq_true rfl, Nat.le_of_ble_eq_true rfl⟩ ⟨Nat.le_of_ble_eq_true rfl, Nat.le_of_ble_eq_true rfl⟩ rfl (Nat.le_of_ble_eq_true rfl) dX10_isLastOpen_11 (fun H locs hR => ?_)
    refine W.eq (g2 := F0 m 14 ls [.int v11]) rfl ?_
    refine lv_if_ne (tgt := 21) hx hb dX10_isLastOpen_14 (by decide) (fun c14 => ?_) (fun c14 => ?_)
    · replace hf := zz_neg c14 hf
      exact bk_X10_isLastOpen_21 X hT hR (lv_sub hl [] rfl) hf
    · replace hf := zz_pos c14 hf
      refine lv_iconst (v := (1 : Int32)) hx hb dX10_isLastOpen_17 (by decide) ?_
      refine lv_goto (tgt := 22) hx hb dX10_isLastOpen_18 (by decide) ?_
      exact bk_X10_isLastOpen_22 X hT hR (lv_sub hl [] rfl) hf
def rm_X10_mayCome : Room := { frames := 1, cells := 0, slots := 0, locals := 21 }
theorem mf_X10_mayCome : zz_Mf yX10_mayCome cX10_mayCome 5 (some .boolean) 2 := ⟨q_1385, q_11, by decide +kernel, by decide +kernel, by decide +kernel⟩
set_option maxHeartbeats 4000000 in
set_option maxRecDepth 100000 in
theorem bk_X10_mayCome_195 {D : va_G} {dA : Nat → ClassId} {base t0 : Nat} {l : Launch} {p : Program} {e : Env} {s : State} {m : MethodId} {args : Array Value} {below : List Frame} {meth : Method} {c : Code} (X : zz_X D dA base t0 "SpringseatModel" cX10_mayCome 5 (some .boolean) l p s m meth c) (hT : l.stackTraces = false) {s0 : Int32} {h : zz_H} {n : Nat} {H : Heap} {locs : List Loc} {ls : Array Slot} (hR : zz_R D dA base h n s H locs) (hl : lv_has ls 5 []) {r0 : Int32} (hf : f_X10_mayCome_195 s0 h = some r0) : W p l e rm_X10_mayCome s m args below meth c H locs 0 0 (MQ below (zz_Qc D dA base (some (.int r0)) h n) args s rm_X10_mayCome.cells rm_X10_mayCome.slots (fun q => base ≤ q)) (F0 m 195 ls [.int s0]) := by
  have hx := X.1
  have hb := X.2.1
  have hown := X.2.2.2.2.1
  unfold f_X10_mayCome_195 at hf
  obtain ⟨hz195, hf⟩ := zz_gz_i hf
  cases hf
  exact zr_zret X hR (zz_nz hz195) dX10_mayCome_195 (Nat.le_of_ble_eq_true rfl) (Nat.le_of_ble_eq_true rfl)
set_option maxHeartbeats 4000000 in
set_option maxRecDepth 100000 in
theorem bk_X10_mayCome_194 {D : va_G} {dA : Nat → ClassId} {base t0 : Nat} {l : Launch} {p : Program} {e : Env} {s : State} {m : MethodId} {args : Array Value} {below : List Frame} {meth : Method} {c : Code} (X : zz_X D dA base t0 "SpringseatModel" cX10_mayCome 5 (some .boolean) l p s m meth c) (hT : l.stackTraces = false) {h : zz_H} {n : Nat} {H : Heap} {locs : List Loc} {ls : Array Slot} (hR : zz_R D dA base h n s H locs) (hl : lv_has ls 5 []) {r0 : Int32} (hf : f_X10_mayCome_194 h = some r0) : W p l e rm_X10_mayCome s m args below meth c H locs 0 0 (MQ below (zz_Qc D dA base (some (.int r0)) h n) args s rm_X10_mayCome.cells rm_X10_mayCome.slots (fun q => base ≤ q)) (F0 m 194 ls []) := by
  have hx := X.1
  have hb := X.2.1
  have hown := X.2.2.2.2.1
  unfold f_X10_mayCome_194 at hf
  refine lv_iconst (v := (0 : Int32)) hx hb dX10_mayCome_194 (by decide) ?_
  exact bk_X10_mayCome_195 X hT hR (lv_sub hl [] rfl) hf
set_option maxHeartbeats 4000000 in
set_option maxRecDepth 100000 in
theorem bk_X10_mayCome_177 {D : va_G} {dA : Nat → ClassId} {base t0 : Nat} {l : Launch} {p : Program} {e : Env} {s : State} {m : MethodId} {args : Array Value} {below : List Frame} {meth : Method} {c : Code} (X : zz_X D dA base t0 "SpringseatModel" cX10_mayCome 5 (some .boolean) l p s m meth c) (hT : l.stackTraces = false) {a0 : Nat} {x1 : Int32} {x4 : Int32} {h : zz_H} {n : Nat} {H : Heap} {locs : List Loc} {ls : Array Slot} (hR : zz_R D dA base h n s H locs) (hl : lv_has ls 5 [(0, .ref a0), (1, .int x1), (4, .int x4)]) {r0 : Int32} (hf : f_X10_mayCome_177 a0 x1 x4 h = some r0) : W p l e rm_X10_mayCome s m args below meth c H locs 0 0 (MQ below (zz_Qc D dA base (some (.int r0)) h n) args s rm_X10_mayCome.cells rm_X10_mayCome.slots (fun q => base ≤ q)) (F0 m 177 ls []) := by
  have hx := X.1
  have hb := X.2.1
  have hown := X.2.2.2.2.1
  unfold f_X10_mayCome_177 at hf
  refine lv_iload hx hb dX10_mayCome_177 (lv_at hl 2 rfl) ?_
  refine lv_if_eq (tgt := 194) hx hb dX10_mayCome_179 (by decide) (fun c179 => ?_) (fun c179 => ?_)
  · replace hf := zz_pos c179 hf
    exact bk_X10_mayCome_194 X hT hR (lv_sub hl [] rfl) hf
  · replace hf := zz_neg c179 hf
    refine lv_aload_n hx hb dX10_mayCome_182 rfl (lv_at hl 0 rfl) ?_
    refine lv_iload_n hx hb dX10_mayCome_183 rfl (lv_at hl 1 rfl) ?_
    obtain ⟨fs184, ho184, hf⟩ := zz_obS_i hf
    obtain ⟨v184, hv184, hf⟩ := zz_b_i hf
    refine zr_cV X hR hl.1 (As := [.int x1]) (rest := []) (C := RX10) (T := TX10) (N := 34) (mt_X10_isLastSigned hT a0 x1 h n hv184) rfl ho184 mf_X10_isLastSigned q_1390 q_1392 qs_21 ⟨Nat.le_of_ble_eq_true rfl, Nat.le_of_ble_eq_true rfl⟩ ⟨Nat.le_of_ble_eq_true rfl, Nat.le_of_ble_eq_true rfl⟩ rfl (Nat.le_of_ble_eq_true rfl) dX10_mayCome_184 (fun H locs hR => ?_)
    refine W.eq (g2 := F0 m 187 ls [.int v184]) rfl ?_
    refine lv_if_eq (tgt := 194) hx hb dX10_mayCome_187 (by decide) (fun c187 => ?_) (fun c187 => ?_)
    · replace hf := zz_pos c187 hf
      exact bk_X10_mayCome_194 X hT hR (lv_sub hl [] rfl) hf
    · replace hf := zz_neg c187 hf
      refine lv_iconst (v := (1 : Int32)) hx hb dX10_mayCome_190 (by decide) ?_
      refine lv_goto (tgt := 195) hx hb dX10_mayCome_191 (by decide) ?_
      exact bk_X10_mayCome_195 X hT hR (lv_sub hl [] rfl) hf
set_option maxHeartbeats 4000000 in
set_option maxRecDepth 100000 in
theorem bk_X10_mayCome_175 {D : va_G} {dA : Nat → ClassId} {base t0 : Nat} {l : Launch} {p : Program} {e : Env} {s : State} {m : MethodId} {args : Array Value} {below : List Frame} {meth : Method} {c : Code} (X : zz_X D dA base t0 "SpringseatModel" cX10_mayCome 5 (some .boolean) l p s m meth c) (hT : l.stackTraces = false) {a0 : Nat} {x1 : Int32} {s0 : Int32} {h : zz_H} {n : Nat} {H : Heap} {locs : List Loc} {ls : Array Slot} (hR : zz_R D dA base h n s H locs) (hl : lv_has ls 5 [(0, .ref a0), (1, .int x1)]) {r0 : Int32} (hf : f_X10_mayCome_175 a0 x1 s0 h = some r0) : W p l e rm_X10_mayCome s m args below meth c H locs 0 0 (MQ below (zz_Qc D dA base (some (.int r0)) h n) args s rm_X10_mayCome.cells rm_X10_mayCome.slots (fun q => base ≤ q)) (F0 m 175 ls [.int s0]) := by
  have hx := X.1
  have hb := X.2.1
  have hown := X.2.2.2.2.1
  unfold f_X10_mayCome_175 at hf
  refine lv_istore (i := 4) (lv' := [(4, .int s0), (0, .ref a0), (1, .int x1)]) hx hb dX10_mayCome_175 hl (by decide) rfl (fun ls hl => ?_)
  exact bk_X10_mayCome_177 X hT hR (lv_sub hl [1, 2, 0] rfl) hf
set_option maxHeartbeats 4000000 in
set_option maxRecDepth 100000 in
theorem bk_X10_mayCome_170 {D : va_G} {dA : Nat → ClassId} {base t0 : Nat} {l : Launch} {p : Program} {e : Env} {s : State} {m : MethodId} {args : Array Value} {below : List Frame} {meth : Method} {c : Code} (X : zz_X D dA base t0 "SpringseatModel" cX10_mayCome 5 (some .boolean) l p s m meth c) (hT : l.stackTraces = false) {a0 : Nat} {x1 : Int32} {h : zz_H} {n : Nat} {H : Heap} {locs : List Loc} {ls : Array Slot} (hR : zz_R D dA base h n s H locs) (hl : lv_has ls 5 [(0, .ref a0), (1, .int x1)]) {r0 : Int32} (hf : f_X10_mayCome_170 a0 x1 h = some r0) : W p l e rm_X10_mayCome s m args below meth c H locs 0 0 (MQ below (zz_Qc D dA base (some (.int r0)) h n) args s rm_X10_mayCome.cells rm_X10_mayCome.slots (fun q => base ≤ q)) (F0 m 170 ls []) := by
  have hx := X.1
  have hb := X.2.1
  have hown := X.2.2.2.2.1
  unfold f_X10_mayCome_170 at hf
  refine lv_iconst (v := (1 : Int32)) hx hb dX10_mayCome_170 (by decide) ?_
  refine lv_goto (tgt := 175) hx hb dX10_mayCome_171 (by decide) ?_
  exact bk_X10_mayCome_175 X hT hR (lv_sub hl [0, 1] rfl) hf
set_option maxHeartbeats 4000000 in
set_option maxRecDepth 100000 in
theorem bk_X10_mayCome_153 {D : va_G} {dA : Nat → ClassId} {base t0 : Nat} {l : Launch} {p : Program} {e : Env} {s : State} {m : MethodId} {args : Array Value} {below : List Frame} {meth : Method} {c : Code} (X : zz_X D dA base t0 "SpringseatModel" cX10_mayCome 5 (some .boolean) l p s m meth c) (hT : l.stackTraces = false) {a0 : Nat} {x1 : Int32} {s0 : Int32} {h : zz_H} {n : Nat} {H : Heap} {locs : List Loc} {ls : Array Slot} (hR : zz_R D dA base h n s H locs) (hl : lv_has ls 5 [(0, .ref a0), (1, .int x1)]) {r0 : Int32} (hf : f_X10_mayCome_153 a0 x1 s0 h = some r0) : W p l e rm_X10_mayCome s m args below meth c H locs 0 0 (MQ below (zz_Qc D dA base (some (.int r0)) h n) args s rm_X10_mayCome.cells rm_X10_mayCome.slots (fun q => base ≤ q)) (F0 m 153 ls [.int s0]) := by
  have hx := X.1
  have hb := X.2.1
  have hown := X.2.2.2.2.1
  unfold f_X10_mayCome_153 at hf
  refine lv_istore (i := 4) (lv' := [(4, .int s0), (0, .ref a0), (1, .int x1)]) hx hb dX10_mayCome_153 hl (by decide) rfl (fun ls hl => ?_)
  refine lv_goto (tgt := 177) hx hb dX10_mayCome_155 (by decide) ?_
  exact bk_X10_mayCome_177 X hT hR (lv_sub hl [1, 2, 0] rfl) hf
set_option maxHeartbeats 4000000 in
set_option maxRecDepth 100000 in
theorem bk_X10_mayCome_137 {D : va_G} {dA : Nat → ClassId} {base t0 : Nat} {l : Launch} {p : Program} {e : Env} {s : State} {m : MethodId} {args : Array Value} {below : List Frame} {meth : Method} {c : Code} (X : zz_X D dA base t0 "SpringseatModel" cX10_mayCome 5 (some .boolean) l p s m meth c) (hT : l.stackTraces = false) {a0 : Nat} {x1 : Int32} {s0 : Int32} {h : zz_H} {n : Nat} {H : Heap} {locs : List Loc} {ls : Array Slot} (hR : zz_R D dA base h n s H locs) (hl : lv_has ls 5 [(0, .ref a0), (1, .int x1)]) {r0 : Int32} (hf : f_X10_mayCome_137 a0 x1 s0 h = some r0) : W p l e rm_X10_mayCome s m args below meth c H locs 0 0 (MQ below (zz_Qc D dA base (some (.int r0)) h n) args s rm_X10_mayCome.cells rm_X10_mayCome.slots (fun q => base ≤ q)) (F0 m 137 ls [.int s0]) := by
  have hx := X.1
  have hb := X.2.1
  have hown := X.2.2.2.2.1
  unfold f_X10_mayCome_137 at hf
  refine lv_istore (i := 4) (lv' := [(4, .int s0), (0, .ref a0), (1, .int x1)]) hx hb dX10_mayCome_137 hl (by decide) rfl (fun ls hl => ?_)
  refine lv_goto (tgt := 177) hx hb dX10_mayCome_139 (by decide) ?_
  exact bk_X10_mayCome_177 X hT hR (lv_sub hl [1, 2, 0] rfl) hf
set_option maxHeartbeats 4000000 in
set_option maxRecDepth 100000 in
theorem bk_X10_mayCome_136 {D : va_G} {dA : Nat → ClassId} {base t0 : Nat} {l : Launch} {p : Program} {e : Env} {s : State} {m : MethodId} {args : Array Value} {below : List Frame} {meth : Method} {c : Code} (X : zz_X D dA base t0 "SpringseatModel" cX10_mayCome 5 (some .boolean) l p s m meth c) (hT : l.stackTraces = false) {a0 : Nat} {x1 : Int32} {h : zz_H} {n : Nat} {H : Heap} {locs : List Loc} {ls : Array Slot} (hR : zz_R D dA base h n s H locs) (hl : lv_has ls 5 [(0, .ref a0), (1, .int x1)]) {r0 : Int32} (hf : f_X10_mayCome_136 a0 x1 h = some r0) : W p l e rm_X10_mayCome s m args below meth c H locs 0 0 (MQ below (zz_Qc D dA base (some (.int r0)) h n) args s rm_X10_mayCome.cells rm_X10_mayCome.slots (fun q => base ≤ q)) (F0 m 136 ls []) := by
  have hx := X.1
  have hb := X.2.1
  have hown := X.2.2.2.2.1
  unfold f_X10_mayCome_136 at hf
  refine lv_iconst (v := (0 : Int32)) hx hb dX10_mayCome_136 (by decide) ?_
  exact bk_X10_mayCome_137 X hT hR (lv_sub hl [0, 1] rfl) hf
set_option maxHeartbeats 4000000 in
set_option maxRecDepth 100000 in
theorem bk_X10_mayCome_132 {D : va_G} {dA : Nat → ClassId} {base t0 : Nat} {l : Launch} {p : Program} {e : Env} {s : State} {m : MethodId} {args : Array Value} {below : List Frame} {meth : Method} {c : Code} (X : zz_X D dA base t0 "SpringseatModel" cX10_mayCome 5 (some .boolean) l p s m meth c) (hT : l.stackTraces = false) {a0 : Nat} {x1 : Int32} {h : zz_H} {n : Nat} {H : Heap} {locs : List Loc} {ls : Array Slot} (hR : zz_R D dA base h n s H locs) (hl : lv_has ls 5 [(0, .ref a0), (1, .int x1)]) {r0 : Int32} (hf : f_X10_mayCome_132 a0 x1 h = some r0) : W p l e rm_X10_mayCome s m args below meth c H locs 0 0 (MQ below (zz_Qc D dA base (some (.int r0)) h n) args s rm_X10_mayCome.cells rm_X10_mayCome.slots (fun q => base ≤ q)) (F0 m 132 ls []) := by
  have hx := X.1
  have hb := X.2.1
  have hown := X.2.2.2.2.1
  unfold f_X10_mayCome_132 at hf
  refine lv_iconst (v := (1 : Int32)) hx hb dX10_mayCome_132 (by decide) ?_
  refine lv_goto (tgt := 137) hx hb dX10_mayCome_133 (by decide) ?_
  exact bk_X10_mayCome_137 X hT hR (lv_sub hl [0, 1] rfl) hf
set_option maxHeartbeats 4000000 in
set_option maxRecDepth 100000 in
theorem bk_X10_mayCome_99 {D : va_G} {dA : Nat → ClassId} {base t0 : Nat} {l : Launch} {p : Program} {e : Env} {s : State} {m : MethodId} {args : Array Value} {below : List Frame} {meth : Method} {c : Code} (X : zz_X D dA base t0 "SpringseatModel" cX10_mayCome 5 (some .boolean) l p s m meth c) (hT : l.stackTraces = false) {a0 : Nat} {x1 : Int32} {s0 : Int32} {h : zz_H} {n : Nat} {H : Heap} {locs : List Loc} {ls : Array Slot} (hR : zz_R D dA base h n s H locs) (hl : lv_has ls 5 [(0, .ref a0), (1, .int x1)]) {r0 : Int32} (hf : f_X10_mayCome_99 a0 x1 s0 h = some r0) : W p l e rm_X10_mayCome s m args below meth c H locs 0 0 (MQ below (zz_Qc D dA base (some (.int r0)) h n) args s rm_X10_mayCome.cells rm_X10_mayCome.slots (fun q => base ≤ q)) (F0 m 99 ls [.int s0]) := by
  have hx := X.1
  have hb := X.2.1
  have hown := X.2.2.2.2.1
  unfold f_X10_mayCome_99 at hf
  refine lv_istore (i := 4) (lv' := [(4, .int s0), (0, .ref a0), (1, .int x1)]) hx hb dX10_mayCome_99 hl (by decide) rfl (fun ls hl => ?_)
  refine lv_goto (tgt := 177) hx hb dX10_mayCome_101 (by decide) ?_
  exact bk_X10_mayCome_177 X hT hR (lv_sub hl [1, 2, 0] rfl) hf
set_option maxHeartbeats 4000000 in
set_option maxRecDepth 100000 in
theorem bk_X10_mayCome_83 {D : va_G} {dA : Nat → ClassId} {base t0 : Nat} {l : Launch} {p : Program} {e : Env} {s : State} {m : MethodId} {args : Array Value} {below : List Frame} {meth : Method} {c : Code} (X : zz_X D dA base t0 "SpringseatModel" cX10_mayCome 5 (some .boolean) l p s m meth c) (hT : l.stackTraces = false) {a0 : Nat} {x1 : Int32} {s0 : Int32} {h : zz_H} {n : Nat} {H : Heap} {locs : List Loc} {ls : Array Slot} (hR : zz_R D dA base h n s H locs) (hl : lv_has ls 5 [(0, .ref a0), (1, .int x1)]) {r0 : Int32} (hf : f_X10_mayCome_83 a0 x1 s0 h = some r0) : W p l e rm_X10_mayCome s m args below meth c H locs 0 0 (MQ below (zz_Qc D dA base (some (.int r0)) h n) args s rm_X10_mayCome.cells rm_X10_mayCome.slots (fun q => base ≤ q)) (F0 m 83 ls [.int s0]) := by
  have hx := X.1
  have hb := X.2.1
  have hown := X.2.2.2.2.1
  unfold f_X10_mayCome_83 at hf
  refine lv_istore (i := 4) (lv' := [(4, .int s0), (0, .ref a0), (1, .int x1)]) hx hb dX10_mayCome_83 hl (by decide) rfl (fun ls hl => ?_)
  refine lv_goto (tgt := 177) hx hb dX10_mayCome_85 (by decide) ?_
  exact bk_X10_mayCome_177 X hT hR (lv_sub hl [1, 2, 0] rfl) hf
set_option maxHeartbeats 4000000 in
set_option maxRecDepth 100000 in
theorem bk_X10_mayCome_67 {D : va_G} {dA : Nat → ClassId} {base t0 : Nat} {l : Launch} {p : Program} {e : Env} {s : State} {m : MethodId} {args : Array Value} {below : List Frame} {meth : Method} {c : Code} (X : zz_X D dA base t0 "SpringseatModel" cX10_mayCome 5 (some .boolean) l p s m meth c) (hT : l.stackTraces = false) {a0 : Nat} {x1 : Int32} {s0 : Int32} {h : zz_H} {n : Nat} {H : Heap} {locs : List Loc} {ls : Array Slot} (hR : zz_R D dA base h n s H locs) (hl : lv_has ls 5 [(0, .ref a0), (1, .int x1)]) {r0 : Int32} (hf : f_X10_mayCome_67 a0 x1 s0 h = some r0) : W p l e rm_X10_mayCome s m args below meth c H locs 0 0 (MQ below (zz_Qc D dA base (some (.int r0)) h n) args s rm_X10_mayCome.cells rm_X10_mayCome.slots (fun q => base ≤ q)) (F0 m 67 ls [.int s0]) := by
  have hx := X.1
  have hb := X.2.1
  have hown := X.2.2.2.2.1
  unfold f_X10_mayCome_67 at hf
  refine lv_istore (i := 4) (lv' := [(4, .int s0), (0, .ref a0), (1, .int x1)]) hx hb dX10_mayCome_67 hl (by decide) rfl (fun ls hl => ?_)
  refine lv_goto (tgt := 177) hx hb dX10_mayCome_69 (by decide) ?_
  exact bk_X10_mayCome_177 X hT hR (lv_sub hl [1, 2, 0] rfl) hf
set_option maxHeartbeats 4000000 in
set_option maxRecDepth 100000 in
theorem mt_X10_mayCome {D : va_G} {dA : Nat → ClassId} {base t0 : Nat} {l : Launch} (hT : l.stackTraces = false) (a0 : Nat) (x1 : Int32) (x2 : Int32) (h : zz_H) (n : Nat) {r0 : Int32} (hf : f_X10_mayCome a0 x1 x2 h = some r0) : zz_M D dA base t0 l yX10_mayCome cX10_mayCome 5 (some .boolean) rm_X10_mayCome [.ref a0, .int x1, .int x2] h n (some (.int r0)) h n := by
  refine Met.ofW (cc := cX10_mayCome) (maxL := 5) (ret := (some .boolean)) (by decide +kernel) rfl ?_
  intro p e s m args below meth c s₁ B hml hv
  obtain ⟨rfl, hP, hK⟩ := hv
  have X : zz_X D dA base t0 "SpringseatModel" cX10_mayCome 5 (some .boolean) l p s m meth c := ⟨B.exec, B.bytes, hml, B.returns, findClass_of_methodNamed B.named, B.notSynchronized, hT, by rw [hP.1]; exact hP.2.1, hK⟩
  have hx := X.1
  have hb := X.2.1
  have hown := X.2.2.2.2.1
  have hR : zz_R D dA base h n s s.heap [] := ⟨hP, va_S.rf⟩
  have hl := lv_entry ([.ref a0, .int x1, .int x2]) (n := 5) (by exact Nat.le_of_ble_eq_true rfl)
  rw [lg_entry_eq]
  generalize (lg_sl ([.ref a0, .int x1, .int x2]) ++ List.replicate (5 - (lg_sl ([.ref a0, .int x1, .int x2])).length) Slot.unset).toArray = ls at hl ⊢
  have hl : lv_has ls 5 [(0, .ref a0), (1, .int x1), (2, .int x2)] := hl
  unfold f_X10_mayCome at hf
  refine lv_aload_n hx hb dX10_mayCome_0 rfl (lv_at hl 0 rfl) ?_
  refine lv_iload_n hx hb dX10_mayCome_1 rfl (lv_at hl 1 rfl) ?_
  obtain ⟨fs2, ho2, hf⟩ := zz_obS_i hf
  obtain ⟨v2, hv2, hf⟩ := zz_b_i hf
  refine zr_cV X hR hl.1 (As := [.int x1]) (rest := []) (C := RX10) (T := TX10) (N := 34) (mt_X10_last hT a0 x1 h n hv2) rfl ho2 mf_X10_last q_1386 q_1388 qs_20 ⟨Nat.le_of_ble_eq_true rfl, Nat.le_of_ble_eq_true rfl⟩ ⟨Nat.le_of_ble_eq_true rfl, Nat.le_of_ble_eq_true rfl⟩ rfl (Nat.le_of_ble_eq_true rfl) dX10_mayCome_2 (fun H locs hR => ?_)
  refine W.eq (g2 := F0 m 5 ls [.int v2]) rfl ?_
  refine lv_istore_n (i := 3) (lv' := [(3, .int v2), (0, .ref a0), (1, .int x1), (2, .int x2)]) hx hb dX10_mayCome_5 rfl hl (by decide) rfl (fun ls hl => ?_)
  refine lv_iload_n hx hb dX10_mayCome_6 rfl (lv_at hl 3 rfl) ?_
  by_cases c7_98 : x2 = (98 : Int32)
  · replace hf := zz_pos c7_98 hf
    refine lv_lookup (off := 135) (tgt := 142) hx hb dX10_mayCome_7 (by decide) (by show Op.lookupswitch.offset [(98, 135), (108, 97), (115, 65), (116, 81), (119, 49)] 151 _ = _; rw [c7_98]; decide) (by decide) ?_
    refine lv_iload_n hx hb dX10_mayCome_142 rfl (lv_at hl 0 rfl) ?_
    refine lv_bipush (v := (108 : Int32)) hx hb dX10_mayCome_143 (by decide) ?_
    refine lv_icmp_ne (tgt := 152) hx hb dX10_mayCome_145 (by decide) (fun c145 => ?_) (fun c145 => ?_)
    · replace hf := zz_neg c145 hf
      refine lv_iconst (v := (0 : Int32)) hx hb dX10_mayCome_152 (by decide) ?_
      exact bk_X10_mayCome_153 X hT hR (lv_sub hl [1, 2] rfl) hf
    · replace hf := zz_pos c145 hf
      refine lv_iconst (v := (1 : Int32)) hx hb dX10_mayCome_148 (by decide) ?_
      refine lv_goto (tgt := 153) hx hb dX10_mayCome_149 (by decide) ?_
      exact bk_X10_mayCome_153 X hT hR (lv_sub hl [1, 2] rfl) hf
  replace hf := zz_neg c7_98 hf
  by_cases c7_108 : x2 = (108 : Int32)
  · replace hf := zz_pos c7_108 hf
    refine lv_lookup (off := 97) (tgt := 104) hx hb dX10_mayCome_7 (by decide) (by show Op.lookupswitch.offset [(98, 135), (108, 97), (115, 65), (116, 81), (119, 49)] 151 _ = _; rw [lv_osw c7_98 (by decide)]; rw [c7_108]; decide) (by decide) ?_
    refine lv_iload_n hx hb dX10_mayCome_104 rfl (lv_at hl 0 rfl) ?_
    refine lv_bipush (v := (115 : Int32)) hx hb dX10_mayCome_105 (by decide) ?_
    refine lv_icmp_eq (tgt := 132) hx hb dX10_mayCome_107 (by decide) (fun c107 => ?_) (fun c107 => ?_)
    · replace hf := zz_pos c107 hf
      exact bk_X10_mayCome_132 X hT hR (lv_sub hl [1, 2] rfl) hf
    · replace hf := zz_neg c107 hf
      refine lv_iload_n hx hb dX10_mayCome_110 rfl (lv_at hl 0 rfl) ?_
      refine lv_bipush (v := (116 : Int32)) hx hb dX10_mayCome_111 (by decide) ?_
      refine lv_icmp_eq (tgt := 132) hx hb dX10_mayCome_113 (by decide) (fun c113 => ?_) (fun c113 => ?_)
      · replace hf := zz_pos c113 hf
        exact bk_X10_mayCome_132 X hT hR (lv_sub hl [1, 2] rfl) hf
      · replace hf := zz_neg c113 hf
        refine lv_iload_n hx hb dX10_mayCome_116 rfl (lv_at hl 0 rfl) ?_
        refine lv_bipush (v := (108 : Int32)) hx hb dX10_mayCome_117 (by decide) ?_
        refine lv_icmp_ne (tgt := 136) hx hb dX10_mayCome_119 (by decide) (fun c119 => ?_) (fun c119 => ?_)
        · replace hf := zz_neg c119 hf
          exact bk_X10_mayCome_136 X hT hR (lv_sub hl [1, 2] rfl) hf
        · replace hf := zz_pos c119 hf
          refine lv_aload_n hx hb dX10_mayCome_122 rfl (lv_at hl 1 rfl) ?_
          refine zr_gq X hR (r := (some a0)) fl_X10_48 dX10_mayCome_123 hf (fun v123 hf => ?_)
          refine lv_iload_n hx hb dX10_mayCome_126 rfl (lv_at hl 2 rfl) ?_
          refine zr_iald X hR (r := v123) dX10_mayCome_127 hf (fun v127 hf => ?_)
          refine lv_iconst (v := (4 : Int32)) hx hb dX10_mayCome_128 (by decide) ?_
          refine lv_icmp_ge (tgt := 136) hx hb dX10_mayCome_129 (by decide) (fun c129 => ?_) (fun c129 => ?_)
          · replace hf := zz_pos c129 hf
            exact bk_X10_mayCome_136 X hT hR (lv_sub hl [1, 2] rfl) hf
          · replace hf := zz_neg c129 hf
            exact bk_X10_mayCome_132 X hT hR (lv_sub hl [1, 2] rfl) hf
  replace hf := zz_neg c7_108 hf
  by_cases c7_115 : x2 = (115 : Int32)
  · replace hf := zz_pos c7_115 hf
    refine lv_lookup (off := 65) (tgt := 72) hx hb dX10_mayCome_7 (by decide) (by show Op.lookupswitch.offset [(98, 135), (108, 97), (115, 65), (116, 81), (119, 49)] 151 _ = _; rw [lv_osw c7_98 (by decide)]; rw [lv_osw c7_108 (by decide)]; rw [c7_115]; decide) (by decide) ?_
    refine lv_iload_n hx hb dX10_mayCome_72 rfl (lv_at hl 0 rfl) ?_
    refine lv_bipush (v := (119 : Int32)) hx hb dX10_mayCome_73 (by decide) ?_
    refine lv_icmp_ne (tgt := 82) hx hb dX10_mayCome_75 (by decide) (fun c75 => ?_) (fun c75 => ?_)
    · replace hf := zz_neg c75 hf
      refine lv_iconst (v := (0 : Int32)) hx hb dX10_mayCome_82 (by decide) ?_
      exact bk_X10_mayCome_83 X hT hR (lv_sub hl [1, 2] rfl) hf
    · replace hf := zz_pos c75 hf
      refine lv_iconst (v := (1 : Int32)) hx hb dX10_mayCome_78 (by decide) ?_
      refine lv_goto (tgt := 83) hx hb dX10_mayCome_79 (by decide) ?_
      exact bk_X10_mayCome_83 X hT hR (lv_sub hl [1, 2] rfl) hf
  replace hf := zz_neg c7_115 hf
  by_cases c7_116 : x2 = (116 : Int32)
  · replace hf := zz_pos c7_116 hf
    refine lv_lookup (off := 81) (tgt := 88) hx hb dX10_mayCome_7 (by decide) (by show Op.lookupswitch.offset [(98, 135), (108, 97), (115, 65), (116, 81), (119, 49)] 151 _ = _; rw [lv_osw c7_98 (by decide)]; rw [lv_osw c7_108 (by decide)]; rw [lv_osw c7_115 (by decide)]; rw [c7_116]; decide) (by decide) ?_
    refine lv_iload_n hx hb dX10_mayCome_88 rfl (lv_at hl 0 rfl) ?_
    refine lv_bipush (v := (115 : Int32)) hx hb dX10_mayCome_89 (by decide) ?_
    refine lv_icmp_ne (tgt := 98) hx hb dX10_mayCome_91 (by decide) (fun c91 => ?_) (fun c91 => ?_)
    · replace hf := zz_neg c91 hf
      refine lv_iconst (v := (0 : Int32)) hx hb dX10_mayCome_98 (by decide) ?_
      exact bk_X10_mayCome_99 X hT hR (lv_sub hl [1, 2] rfl) hf
    · replace hf := zz_pos c91 hf
      refine lv_iconst (v := (1 : Int32)) hx hb dX10_mayCome_94 (by decide) ?_
      refine lv_goto (tgt := 99) hx hb dX10_mayCome_95 (by decide) ?_
      exact bk_X10_mayCome_99 X hT hR (lv_sub hl [1, 2] rfl) hf
  replace hf := zz_neg c7_116 hf
  by_cases c7_119 : x2 = (119 : Int32)
  · replace hf := zz_pos c7_119 hf
    refine lv_lookup (off := 49) (tgt := 56) hx hb dX10_mayCome_7 (by decide) (by show Op.lookupswitch.offset [(98, 135), (108, 97), (115, 65), (116, 81), (119, 49)] 151 _ = _; rw [lv_osw c7_98 (by decide)]; rw [lv_osw c7_108 (by decide)]; rw [lv_osw c7_115 (by decide)]; rw [lv_osw c7_116 (by decide)]; rw [c7_119]; decide) (by decide) ?_
    refine lv_iload_n hx hb dX10_mayCome_56 rfl (lv_at hl 0 rfl) ?_
    refine lv_bipush (v := (45 : Int32)) hx hb dX10_mayCome_57 (by decide) ?_
    refine lv_icmp_ne (tgt := 66) hx hb dX10_mayCome_59 (by decide) (fun c59 => ?_) (fun c59 => ?_)
    · replace hf := zz_neg c59 hf
      refine lv_iconst (v := (0 : Int32)) hx hb dX10_mayCome_66 (by decide) ?_
      exact bk_X10_mayCome_67 X hT hR (lv_sub hl [1, 2] rfl) hf
    · replace hf := zz_pos c59 hf
      refine lv_iconst (v := (1 : Int32)) hx hb dX10_mayCome_62 (by decide) ?_
      refine lv_goto (tgt := 67) hx hb dX10_mayCome_63 (by decide) ?_
      exact bk_X10_mayCome_67 X hT hR (lv_sub hl [1, 2] rfl) hf
  replace hf := zz_neg c7_119 hf
  refine lv_lookup (off := 151) (tgt := 158) hx hb dX10_mayCome_7 (by decide) (by show Op.lookupswitch.offset [(98, 135), (108, 97), (115, 65), (116, 81), (119, 49)] 151 _ = _; rw [lv_osw c7_98 (by decide)]; rw [lv_osw c7_108 (by decide)]; rw [lv_osw c7_115 (by decide)]; rw [lv_osw c7_116 (by decide)]; rw [lv_osw c7_119 (by decide)]; rfl) (by decide) ?_
  refine lv_iload_n hx hb dX10_mayCome_158 rfl (lv_at hl 0 rfl) ?_
  refine lv_bipush (v := (108 : Int32)) hx hb dX10_mayCome_159 (by decide) ?_
  refine lv_icmp_eq (tgt := 170) hx hb dX10_mayCome_161 (by decide) (fun c161 => ?_) (fun c161 => ?_)
  · replace hf := zz_pos c161 hf
    exact bk_X10_mayCome_170 X hT hR (lv_sub hl [1, 2] rfl) hf
  · replace hf := zz_neg c161 hf
    refine lv_iload_n hx hb dX10_mayCome_164 rfl (lv_at hl 0 rfl) ?_
    refine lv_bipush (v := (98 : Int32)) hx hb dX10_mayCome_165 (by decide) ?_
    refine lv_icmp_ne (tgt := 174) hx hb dX10_mayCome_167 (by decide) (fun c167 => ?_) (fun c167 => ?_)
    · replace hf := zz_neg c167 hf
      refine lv_iconst (v := (0 : Int32)) hx hb dX10_mayCome_174 (by decide) ?_
      exact bk_X10_mayCome_175 X hT hR (lv_sub hl [1, 2] rfl) hf
    · replace hf := zz_pos c167 hf
      exact bk_X10_mayCome_170 X hT hR (lv_sub hl [1, 2] rfl) hf
def rm_X10_done : Room := { frames := 0, cells := 0, slots := 0, locals := 0 }
theorem mf_X10_done : zz_Mf yX10_done cX10_done 3 (some .int) 2 := ⟨q_1397, q_11, by decide +kernel, by decide +kernel, by decide +kernel⟩
set_option maxHeartbeats 4000000 in
set_option maxRecDepth 100000 in
theorem mt_X10_done {D : va_G} {dA : Nat → ClassId} {base t0 : Nat} {l : Launch} (hT : l.stackTraces = false) (a0 : Nat) (x1 : Int32) (x2 : Int32) (h : zz_H) (n : Nat) {r0 : Int32} {hF : zz_H} (hf : f_X10_done a0 x1 x2 h = some (r0, hF)) : zz_M D dA base t0 l yX10_done cX10_done 3 (some .int) rm_X10_done [.ref a0, .int x1, .int x2] h n (some (.int r0)) hF n := by
  refine Met.ofW (cc := cX10_done) (maxL := 3) (ret := (some .int)) (by decide +kernel) rfl ?_
  intro p e s m args below meth c s₁ B hml hv
  obtain ⟨rfl, hP, hK⟩ := hv
  have X : zz_X D dA base t0 "SpringseatModel" cX10_done 3 (some .int) l p s m meth c := ⟨B.exec, B.bytes, hml, B.returns, findClass_of_methodNamed B.named, B.notSynchronized, hT, by rw [hP.1]; exact hP.2.1, hK⟩
  have hx := X.1
  have hb := X.2.1
  have hown := X.2.2.2.2.1
  have hR : zz_R D dA base h n s s.heap [] := ⟨hP, va_S.rf⟩
  have hl := lv_entry ([.ref a0, .int x1, .int x2]) (n := 3) (by exact Nat.le_of_ble_eq_true rfl)
  rw [lg_entry_eq]
  generalize (lg_sl ([.ref a0, .int x1, .int x2]) ++ List.replicate (3 - (lg_sl ([.ref a0, .int x1, .int x2])).length) Slot.unset).toArray = ls at hl ⊢
  have hl : lv_has ls 3 [(0, .ref a0), (1, .int x1), (2, .int x2)] := hl
  unfold f_X10_done at hf
  refine lv_aload_n hx hb dX10_done_0 rfl (lv_at hl 0 rfl) ?_
  refine zr_gq X hR (r := (some a0)) fl_X10_21 dX10_done_1 hf (fun v1 hf => ?_)
  refine lv_iload_n hx hb dX10_done_4 rfl (lv_at hl 1 rfl) ?_
  refine zr_aald X hR (t := 8) (r := v1) (by decide) rfl dX10_done_5 hf (fun v5 hf => ?_)
  refine lv_aload_n hx hb dX10_done_6 rfl (lv_at hl 0 rfl) ?_
  refine zr_gq X hR (r := (some a0)) fl_X10_16 dX10_done_7 hf (fun v7 hf => ?_)
  refine lv_iload_n hx hb dX10_done_10 rfl (lv_at hl 1 rfl) ?_
  refine zr_iald X hR (r := v7) dX10_done_11 hf (fun v11 hf => ?_)
  refine lv_iload_n hx hb dX10_done_12 rfl (lv_at hl 2 rfl) ?_
  refine zr_cast X hR (r := v5) dX10_done_13 hf (fun h13 H locs hf hR => ?_)
  refine lv_aload_n hx hb dX10_done_14 rfl (lv_at hl 0 rfl) ?_
  refine zr_gq X hR (r := (some a0)) fl_X10_26 dX10_done_15 hf (fun v15 hf => ?_)
  refine lv_iload_n hx hb dX10_done_18 rfl (lv_at hl 1 rfl) ?_
  refine zr_aald X hR (t := 9) (r := v15) (by decide) rfl dX10_done_19 hf (fun v19 hf => ?_)
  refine lv_aload_n hx hb dX10_done_20 rfl (lv_at hl 0 rfl) ?_
  refine zr_gq X hR (r := (some a0)) fl_X10_16 dX10_done_21 hf (fun v21 hf => ?_)
  refine lv_iload_n hx hb dX10_done_24 rfl (lv_at hl 1 rfl) ?_
  refine zr_iald X hR (r := v21) dX10_done_25 hf (fun v25 hf => ?_)
  refine lv_iconst (v := (0 : Int32)) hx hb dX10_done_26 (by decide) ?_
  refine zr_zast X hR (r := v19) dX10_done_27 hf (fun h27 H locs hf hR => ?_)
  refine lv_aload_n hx hb dX10_done_28 rfl (lv_at hl 0 rfl) ?_
  refine zr_gq X hR (r := (some a0)) fl_X10_16 dX10_done_29 hf (fun v29 hf => ?_)
  refine lv_iload_n hx hb dX10_done_32 rfl (lv_at hl 1 rfl) ?_
  refine lv_dup2_11 hx hb dX10_done_33 rfl (zz_cat _) ?_
  refine zr_iald X hR (r := v29) dX10_done_34 hf (fun v34 hf => ?_)
  refine lv_iconst (v := (1 : Int32)) hx hb dX10_done_35 (by decide) ?_
  refine lv_iadd hx hb dX10_done_36 ?_
  refine zr_iast X hR (r := v29) dX10_done_37 hf (fun h37 H locs hf hR => ?_)
  refine lv_aload_n hx hb dX10_done_38 rfl (lv_at hl 0 rfl) ?_
  refine zr_gq X hR (r := (some a0)) fl_X10_16 dX10_done_39 hf (fun v39 hf => ?_)
  refine lv_iload_n hx hb dX10_done_42 rfl (lv_at hl 1 rfl) ?_
  refine zr_iald X hR (r := v39) dX10_done_43 hf (fun v43 hf => ?_)
  refine lv_iconst (v := (1 : Int32)) hx hb dX10_done_44 (by decide) ?_
  refine lv_isub hx hb dX10_done_45 ?_
  cases hf
  exact zr_iret X hR dX10_done_46 (Nat.le_of_ble_eq_true rfl) (Nat.le_of_ble_eq_true rfl)
def rm_X10_web : Room := { frames := 2, cells := 0, slots := 0, locals := 45 }
theorem mf_X10_web : zz_Mf yX10_web cX10_web 3 (some .int) 2 := ⟨q_1377, q_11, by decide +kernel, by decide +kernel, by decide +kernel⟩
set_option maxHeartbeats 4000000 in
set_option maxRecDepth 100000 in
theorem bk_X10_web_59 {D : va_G} {dA : Nat → ClassId} {base t0 : Nat} {l : Launch} {p : Program} {e : Env} {s : State} {m : MethodId} {args : Array Value} {below : List Frame} {meth : Method} {c : Code} (X : zz_X D dA base t0 "SpringseatModel" cX10_web 3 (some .int) l p s m meth c) (hT : l.stackTraces = false) {h : zz_H} {n : Nat} {H : Heap} {locs : List Loc} {ls : Array Slot} (hR : zz_R D dA base h n s H locs) (hl : lv_has ls 3 []) {r0 : Int32} {hF : zz_H} (hf : f_X10_web_59 h = some (r0, hF)) : W p l e rm_X10_web s m args below meth c H locs 0 0 (MQ below (zz_Qc D dA base (some (.int r0)) hF n) args s rm_X10_web.cells rm_X10_web.slots (fun q => base ≤ q)) (F0 m 59 ls []) := by
  have hx := X.1
  have hb := X.2.1
  have hown := X.2.2.2.2.1
  unfold f_X10_web_59 at hf
  refine lv_iconst (v := (0 : Int32)) hx hb dX10_web_59 (by decide) ?_
  cases hf
  exact zr_iret X hR dX10_web_60 (Nat.le_of_ble_eq_true rfl) (Nat.le_of_ble_eq_true rfl)
set_option maxHeartbeats 4000000 in
set_option maxRecDepth 100000 in
theorem bk_X10_web_52 {D : va_G} {dA : Nat → ClassId} {base t0 : Nat} {l : Launch} {p : Program} {e : Env} {s : State} {m : MethodId} {args : Array Value} {below : List Frame} {meth : Method} {c : Code} (X : zz_X D dA base t0 "SpringseatModel" cX10_web 3 (some .int) l p s m meth c) (hT : l.stackTraces = false) {a0 : Nat} {x1 : Int32} {x2 : Int32} {s0 : Int32} {s1 : (Option Nat)} {h : zz_H} {n : Nat} {H : Heap} {locs : List Loc} {ls : Array Slot} (hR : zz_R D dA base h n s H locs) (hl : lv_has ls 3 [(0, .ref a0), (1, .int x1), (2, .int x2)]) {r0 : Int32} {hF : zz_H} (hf : f_X10_web_52 a0 x1 x2 s0 s1 h = some (r0, hF)) : W p l e rm_X10_web s m args below meth c H locs 0 0 (MQ below (zz_Qc D dA base (some (.int r0)) hF n) args s rm_X10_web.cells rm_X10_web.slots (fun q => base ≤ q)) (F0 m 52 ls [.int s0, va_rf s1]) := by
  have hx := X.1
  have hb := X.2.1
  have hown := X.2.2.2.2.1
  unfold f_X10_web_52 at hf
  refine lv_iconst (v := (3 : Int32)) hx hb dX10_web_52 (by decide) ?_
  obtain ⟨b53, fs53, hr53, ho53, hf⟩ := zz_ob_i hf
  obtain ⟨v53, h53, hv53, hf⟩ := zz_b1_i hf
  refine zr_cV X hR hl.1 (As := [.int s0, .int (3 : Int32)]) (rest := []) (C := RX10) (T := TX10) (N := 34) (mt_X10_isThrown hT b53 s0 (3 : Int32) h n hv53) rfl ho53 mf_X10_isThrown q_1370 q_1372 qs_17 ⟨Nat.le_of_ble_eq_true rfl, Nat.le_of_ble_eq_true rfl⟩ ⟨Nat.le_of_ble_eq_true rfl, Nat.le_of_ble_eq_true rfl⟩ (by rw [hr53]; rfl) (Nat.le_of_ble_eq_true rfl) dX10_web_53 (fun H locs hR => ?_)
  refine W.eq (g2 := F0 m 56 ls [.int v53]) rfl ?_
  refine lv_if_eq (tgt := 61) hx hb dX10_web_56 (by decide) (fun c56 => ?_) (fun c56 => ?_)
  · replace hf := zz_pos c56 hf
    refine lv_aload_n hx hb dX10_web_61 rfl (lv_at hl 0 rfl) ?_
    refine zr_gq X hR (r := (some a0)) fl_X10_29 dX10_web_62 hf (fun v62 hf => ?_)
    refine lv_iload_n hx hb dX10_web_65 rfl (lv_at hl 1 rfl) ?_
    refine lv_iload_n hx hb dX10_web_66 rfl (lv_at hl 2 rfl) ?_
    refine zr_iast X hR (r := v62) dX10_web_67 hf (fun h67 H locs hf hR => ?_)
    refine lv_aload_n hx hb dX10_web_68 rfl (lv_at hl 0 rfl) ?_
    refine lv_iload_n hx hb dX10_web_69 rfl (lv_at hl 1 rfl) ?_
    refine lv_bipush (v := (119 : Int32)) hx hb dX10_web_70 (by decide) ?_
    obtain ⟨fs72, ho72, hf⟩ := zz_obS_i hf
    obtain ⟨v72, h72, hv72, hf⟩ := zz_b1_i hf
    refine zr_cV X hR hl.1 (As := [.int x1, .int (119 : Int32)]) (rest := []) (C := RX10) (T := TX10) (N := 34) (mt_X10_done hT a0 x1 (119 : Int32) h67 n hv72) rfl ho72 mf_X10_done q_1394 q_1396 qs_22 ⟨Nat.le_of_ble_eq_true rfl, Nat.le_of_ble_eq_true rfl⟩ ⟨Nat.le_of_ble_eq_true rfl, Nat.le_of_ble_eq_true rfl⟩ rfl (Nat.le_of_ble_eq_true rfl) dX10_web_72 (fun H locs hR => ?_)
    refine W.eq (g2 := F0 m 75 ls [.int v72]) rfl ?_
    cases hf
    exact zr_iret X hR dX10_web_75 (Nat.le_of_ble_eq_true rfl) (Nat.le_of_ble_eq_true rfl)
  · replace hf := zz_neg c56 hf
    exact bk_X10_web_59 X hT hR (lv_sub hl [] rfl) hf
set_option maxHeartbeats 4000000 in
set_option maxRecDepth 100000 in
theorem bk_X10_web_29 {D : va_G} {dA : Nat → ClassId} {base t0 : Nat} {l : Launch} {p : Program} {e : Env} {s : State} {m : MethodId} {args : Array Value} {below : List Frame} {meth : Method} {c : Code} (X : zz_X D dA base t0 "SpringseatModel" cX10_web 3 (some .int) l p s m meth c) (hT : l.stackTraces = false) {a0 : Nat} {x1 : Int32} {x2 : Int32} {s0 : Int32} {s1 : (Option Nat)} {h : zz_H} {n : Nat} {H : Heap} {locs : List Loc} {ls : Array Slot} (hR : zz_R D dA base h n s H locs) (hl : lv_has ls 3 [(0, .ref a0), (1, .int x1), (2, .int x2)]) {r0 : Int32} {hF : zz_H} (hf : f_X10_web_29 a0 x1 x2 s0 s1 h = some (r0, hF)) : W p l e rm_X10_web s m args below meth c H locs 0 0 (MQ below (zz_Qc D dA base (some (.int r0)) hF n) args s rm_X10_web.cells rm_X10_web.slots (fun q => base ≤ q)) (F0 m 29 ls [.int s0, va_rf s1]) := by
  have hx := X.1
  have hb := X.2.1
  have hown := X.2.2.2.2.1
  unfold f_X10_web_29 at hf
  refine lv_iconst (v := (2 : Int32)) hx hb dX10_web_29 (by decide) ?_
  obtain ⟨b30, fs30, hr30, ho30, hf⟩ := zz_ob_i hf
  obtain ⟨v30, h30, hv30, hf⟩ := zz_b1_i hf
  refine zr_cV X hR hl.1 (As := [.int s0, .int (2 : Int32)]) (rest := []) (C := RX10) (T := TX10) (N := 34) (mt_X10_isThrown hT b30 s0 (2 : Int32) h n hv30) rfl ho30 mf_X10_isThrown q_1370 q_1372 qs_17 ⟨Nat.le_of_ble_eq_true rfl, Nat.le_of_ble_eq_true rfl⟩ ⟨Nat.le_of_ble_eq_true rfl, Nat.le_of_ble_eq_true rfl⟩ (by rw [hr30]; rfl) (Nat.le_of_ble_eq_true rfl) dX10_web_30 (fun H locs hR => ?_)
  refine W.eq (g2 := F0 m 33 ls [.int v30]) rfl ?_
  refine lv_if_ne (tgt := 59) hx hb dX10_web_33 (by decide) (fun c33 => ?_) (fun c33 => ?_)
  · replace hf := zz_neg c33 hf
    exact bk_X10_web_59 X hT hR (lv_sub hl [] rfl) hf
  · replace hf := zz_pos c33 hf
    refine lv_aload_n hx hb dX10_web_36 rfl (lv_at hl 0 rfl) ?_
    refine lv_aload_n hx hb dX10_web_37 rfl (lv_at hl 0 rfl) ?_
    refine lv_iload_n hx hb dX10_web_38 rfl (lv_at hl 1 rfl) ?_
    refine lv_bipush (v := (119 : Int32)) hx hb dX10_web_39 (by decide) ?_
    obtain ⟨fs41, ho41, hf⟩ := zz_obS_i hf
    obtain ⟨v41, hv41, hf⟩ := zz_b_i hf
    refine zr_cV X hR hl.1 (As := [.int x1, .int (119 : Int32)]) (rest := [.ref a0]) (C := RX10) (T := TX10) (N := 34) (mt_X10_mayCome hT a0 x1 (119 : Int32) h30 n hv41) rfl ho41 mf_X10_mayCome q_1382 q_1384 qs_19 ⟨Nat.le_of_ble_eq_true rfl, Nat.le_of_ble_eq_true rfl⟩ ⟨Nat.le_of_ble_eq_true rfl, Nat.le_of_ble_eq_true rfl⟩ rfl (Nat.le_of_ble_eq_true rfl) dX10_web_41 (fun H locs hR => ?_)
    refine W.eq (g2 := F0 m 44 ls [.int v41, .ref a0]) rfl ?_
    refine lv_if_ne (tgt := 51) hx hb dX10_web_44 (by decide) (fun c44 => ?_) (fun c44 => ?_)
    · replace hf := zz_neg c44 hf
      refine lv_iconst (v := (0 : Int32)) hx hb dX10_web_51 (by decide) ?_
      exact bk_X10_web_52 X hT hR (lv_sub hl [0, 1, 2] rfl) hf
    · replace hf := zz_pos c44 hf
      refine lv_iconst (v := (1 : Int32)) hx hb dX10_web_47 (by decide) ?_
      refine lv_goto (tgt := 52) hx hb dX10_web_48 (by decide) ?_
      exact bk_X10_web_52 X hT hR (lv_sub hl [0, 1, 2] rfl) hf
set_option maxHeartbeats 4000000 in
set_option maxRecDepth 100000 in
theorem mt_X10_web {D : va_G} {dA : Nat → ClassId} {base t0 : Nat} {l : Launch} (hT : l.stackTraces = false) (a0 : Nat) (x1 : Int32) (x2 : Int32) (h : zz_H) (n : Nat) {r0 : Int32} {hF : zz_H} (hf : f_X10_web a0 x1 x2 h = some (r0, hF)) : zz_M D dA base t0 l yX10_web cX10_web 3 (some .int) rm_X10_web [.ref a0, .int x1, .int x2] h n (some (.int r0)) hF n := by
  refine Met.ofW (cc := cX10_web) (maxL := 3) (ret := (some .int)) (by decide +kernel) rfl ?_
  intro p e s m args below meth c s₁ B hml hv
  obtain ⟨rfl, hP, hK⟩ := hv
  have X : zz_X D dA base t0 "SpringseatModel" cX10_web 3 (some .int) l p s m meth c := ⟨B.exec, B.bytes, hml, B.returns, findClass_of_methodNamed B.named, B.notSynchronized, hT, by rw [hP.1]; exact hP.2.1, hK⟩
  have hx := X.1
  have hb := X.2.1
  have hown := X.2.2.2.2.1
  have hR : zz_R D dA base h n s s.heap [] := ⟨hP, va_S.rf⟩
  have hl := lv_entry ([.ref a0, .int x1, .int x2]) (n := 3) (by exact Nat.le_of_ble_eq_true rfl)
  rw [lg_entry_eq]
  generalize (lg_sl ([.ref a0, .int x1, .int x2]) ++ List.replicate (3 - (lg_sl ([.ref a0, .int x1, .int x2])).length) Slot.unset).toArray = ls at hl ⊢
  have hl : lv_has ls 3 [(0, .ref a0), (1, .int x1), (2, .int x2)] := hl
  unfold f_X10_web at hf
  refine lv_aload_n hx hb dX10_web_0 rfl (lv_at hl 0 rfl) ?_
  refine lv_aload_n hx hb dX10_web_1 rfl (lv_at hl 0 rfl) ?_
  refine lv_iload_n hx hb dX10_web_2 rfl (lv_at hl 1 rfl) ?_
  obtain ⟨fs3, ho3, hf⟩ := zz_obS_i hf
  obtain ⟨v3, hv3, hf⟩ := zz_b_i hf
  refine zr_cV X hR hl.1 (As := [.int x1]) (rest := [.ref a0]) (C := RX10) (T := TX10) (N := 34) (mt_X10_isNoSeat hT a0 x1 h n hv3) rfl ho3 mf_X10_isNoSeat q_1378 q_1380 qs_18 ⟨Nat.le_of_ble_eq_true rfl, Nat.le_of_ble_eq_true rfl⟩ ⟨Nat.le_of_ble_eq_true rfl, Nat.le_of_ble_eq_true rfl⟩ rfl (Nat.le_of_ble_eq_true rfl) dX10_web_3 (fun H locs hR => ?_)
  refine W.eq (g2 := F0 m 6 ls [.int v3, .ref a0]) rfl ?_
  refine lv_iconst (v := (1 : Int32)) hx hb dX10_web_6 (by decide) ?_
  obtain ⟨fs7, ho7, hf⟩ := zz_obS_i hf
  obtain ⟨v7, h7, hv7, hf⟩ := zz_b1_i hf
  refine zr_cV X hR hl.1 (As := [.int v3, .int (1 : Int32)]) (rest := []) (C := RX10) (T := TX10) (N := 34) (mt_X10_isThrown hT a0 v3 (1 : Int32) h n hv7) rfl ho7 mf_X10_isThrown q_1370 q_1372 qs_17 ⟨Nat.le_of_ble_eq_true rfl, Nat.le_of_ble_eq_true rfl⟩ ⟨Nat.le_of_ble_eq_true rfl, Nat.le_of_ble_eq_true rfl⟩ rfl (Nat.le_of_ble_eq_true rfl) dX10_web_7 (fun H locs hR => ?_)
  refine W.eq (g2 := F0 m 10 ls [.int v7]) rfl ?_
  refine lv_if_ne (tgt := 59) hx hb dX10_web_10 (by decide) (fun c10 => ?_) (fun c10 => ?_)
  · replace hf := zz_neg c10 hf
    exact bk_X10_web_59 X hT hR (lv_sub hl [] rfl) hf
  · replace hf := zz_pos c10 hf
    refine lv_aload_n hx hb dX10_web_13 rfl (lv_at hl 0 rfl) ?_
    refine lv_iload_n hx hb dX10_web_14 rfl (lv_at hl 2 rfl) ?_
    refine lv_iconst (v := (1 : Int32)) hx hb dX10_web_15 (by decide) ?_
    refine lv_bipush (v := (9 : Int32)) hx hb dX10_web_16 (by decide) ?_
    obtain ⟨v18, hv18, hf⟩ := zz_b_i hf
    refine zr_cS X hR hl.1 (As := [.int x2, .int (1 : Int32), .int (9 : Int32)]) (rest := [.ref a0]) (mt_X10_isIn hT x2 (1 : Int32) (9 : Int32) h7 n hv18) mf_X10_isIn q_1367 q_1368 ⟨Nat.le_of_ble_eq_true rfl, Nat.le_of_ble_eq_true rfl⟩ ⟨Nat.le_of_ble_eq_true rfl, Nat.le_of_ble_eq_true rfl⟩ rfl (Nat.le_of_ble_eq_true rfl) dX10_web_18 (fun H locs hR => ?_)
    refine W.eq (g2 := F0 m 21 ls [.int v18, .ref a0]) rfl ?_
    refine lv_if_ne (tgt := 28) hx hb dX10_web_21 (by decide) (fun c21 => ?_) (fun c21 => ?_)
    · replace hf := zz_neg c21 hf
      refine lv_iconst (v := (0 : Int32)) hx hb dX10_web_28 (by decide) ?_
      exact bk_X10_web_29 X hT hR (lv_sub hl [0, 1, 2] rfl) hf
    · replace hf := zz_pos c21 hf
      refine lv_iconst (v := (1 : Int32)) hx hb dX10_web_24 (by decide) ?_
      refine lv_goto (tgt := 29) hx hb dX10_web_25 (by decide) ?_
      exact bk_X10_web_29 X hT hR (lv_sub hl [0, 1, 2] rfl) hf
def rm_X10_isSpring : Room := { frames := 1, cells := 0, slots := 0, locals := 22 }
theorem mf_X10_isSpring : zz_Mf yX10_isSpring cX10_isSpring 2 (some .boolean) 2 := ⟨q_1404, q_11, by decide +kernel, by decide +kernel, by decide +kernel⟩
set_option maxHeartbeats 4000000 in
set_option maxRecDepth 100000 in
theorem bk_X10_isSpring_26 {D : va_G} {dA : Nat → ClassId} {base t0 : Nat} {l : Launch} {p : Program} {e : Env} {s : State} {m : MethodId} {args : Array Value} {below : List Frame} {meth : Method} {c : Code} (X : zz_X D dA base t0 "SpringseatModel" cX10_isSpring 2 (some .boolean) l p s m meth c) (hT : l.stackTraces = false) {s0 : Int32} {h : zz_H} {n : Nat} {H : Heap} {locs : List Loc} {ls : Array Slot} (hR : zz_R D dA base h n s H locs) (hl : lv_has ls 2 []) {r0 : Int32} (hf : f_X10_isSpring_26 s0 h = some r0) : W p l e rm_X10_isSpring s m args below meth c H locs 0 0 (MQ below (zz_Qc D dA base (some (.int r0)) h n) args s rm_X10_isSpring.cells rm_X10_isSpring.slots (fun q => base ≤ q)) (F0 m 26 ls [.int s0]) := by
  have hx := X.1
  have hb := X.2.1
  have hown := X.2.2.2.2.1
  unfold f_X10_isSpring_26 at hf
  obtain ⟨hz26, hf⟩ := zz_gz_i hf
  cases hf
  exact zr_zret X hR (zz_nz hz26) dX10_isSpring_26 (Nat.le_of_ble_eq_true rfl) (Nat.le_of_ble_eq_true rfl)
set_option maxHeartbeats 4000000 in
set_option maxRecDepth 100000 in
theorem bk_X10_isSpring_25 {D : va_G} {dA : Nat → ClassId} {base t0 : Nat} {l : Launch} {p : Program} {e : Env} {s : State} {m : MethodId} {args : Array Value} {below : List Frame} {meth : Method} {c : Code} (X : zz_X D dA base t0 "SpringseatModel" cX10_isSpring 2 (some .boolean) l p s m meth c) (hT : l.stackTraces = false) {h : zz_H} {n : Nat} {H : Heap} {locs : List Loc} {ls : Array Slot} (hR : zz_R D dA base h n s H locs) (hl : lv_has ls 2 []) {r0 : Int32} (hf : f_X10_isSpring_25 h = some r0) : W p l e rm_X10_isSpring s m args below meth c H locs 0 0 (MQ below (zz_Qc D dA base (some (.int r0)) h n) args s rm_X10_isSpring.cells rm_X10_isSpring.slots (fun q => base ≤ q)) (F0 m 25 ls []) := by
  have hx := X.1
  have hb := X.2.1
  have hown := X.2.2.2.2.1
  unfold f_X10_isSpring_25 at hf
  refine lv_iconst (v := (0 : Int32)) hx hb dX10_isSpring_25 (by decide) ?_
  exact bk_X10_isSpring_26 X hT hR (lv_sub hl [] rfl) hf
set_option maxHeartbeats 4000000 in
set_option maxRecDepth 100000 in
theorem mt_X10_isSpring {D : va_G} {dA : Nat → ClassId} {base t0 : Nat} {l : Launch} (hT : l.stackTraces = false) (x0 : Int32) (x1 : Int32) (h : zz_H) (n : Nat) {r0 : Int32} (hf : f_X10_isSpring x0 x1 h = some r0) : zz_M D dA base t0 l yX10_isSpring cX10_isSpring 2 (some .boolean) rm_X10_isSpring [.int x0, .int x1] h n (some (.int r0)) h n := by
  refine Met.ofW (cc := cX10_isSpring) (maxL := 2) (ret := (some .boolean)) (by decide +kernel) rfl ?_
  intro p e s m args below meth c s₁ B hml hv
  obtain ⟨rfl, hP, hK⟩ := hv
  have X : zz_X D dA base t0 "SpringseatModel" cX10_isSpring 2 (some .boolean) l p s m meth c := ⟨B.exec, B.bytes, hml, B.returns, findClass_of_methodNamed B.named, B.notSynchronized, hT, by rw [hP.1]; exact hP.2.1, hK⟩
  have hx := X.1
  have hb := X.2.1
  have hown := X.2.2.2.2.1
  have hR : zz_R D dA base h n s s.heap [] := ⟨hP, va_S.rf⟩
  have hl := lv_entry ([.int x0, .int x1]) (n := 2) (by exact Nat.le_of_ble_eq_true rfl)
  rw [lg_entry_eq]
  generalize (lg_sl ([.int x0, .int x1]) ++ List.replicate (2 - (lg_sl ([.int x0, .int x1])).length) Slot.unset).toArray = ls at hl ⊢
  have hl : lv_has ls 2 [(0, .int x0), (1, .int x1)] := hl
  unfold f_X10_isSpring at hf
  refine lv_iload_n hx hb dX10_isSpring_0 rfl (lv_at hl 0 rfl) ?_
  refine lv_bipush (v := (20 : Int32)) hx hb dX10_isSpring_1 (by decide) ?_
  refine lv_bipush (v := (99 : Int32)) hx hb dX10_isSpring_3 (by decide) ?_
  obtain ⟨v5, hv5, hf⟩ := zz_b_i hf
  refine zr_cS X hR hl.1 (As := [.int x0, .int (20 : Int32), .int (99 : Int32)]) (rest := []) (mt_X10_isIn hT x0 (20 : Int32) (99 : Int32) h n hv5) mf_X10_isIn q_1367 q_1368 ⟨Nat.le_of_ble_eq_true rfl, Nat.le_of_ble_eq_true rfl⟩ ⟨Nat.le_of_ble_eq_true rfl, Nat.le_of_ble_eq_true rfl⟩ rfl (Nat.le_of_ble_eq_true rfl) dX10_isSpring_5 (fun H locs hR => ?_)
  refine W.eq (g2 := F0 m 8 ls [.int v5]) rfl ?_
  refine lv_if_eq (tgt := 25) hx hb dX10_isSpring_8 (by decide) (fun c8 => ?_) (fun c8 => ?_)
  · replace hf := zz_pos c8 hf
    exact bk_X10_isSpring_25 X hT hR (lv_sub hl [] rfl) hf
  · replace hf := zz_neg c8 hf
    refine lv_iload_n hx hb dX10_isSpring_11 rfl (lv_at hl 1 rfl) ?_
    refine lv_iconst (v := (1 : Int32)) hx hb dX10_isSpring_12 (by decide) ?_
    refine lv_bipush (v := (9 : Int32)) hx hb dX10_isSpring_13 (by decide) ?_
    obtain ⟨v15, hv15, hf⟩ := zz_b_i hf
    refine zr_cS X hR hl.1 (As := [.int x1, .int (1 : Int32), .int (9 : Int32)]) (rest := []) (mt_X10_isIn hT x1 (1 : Int32) (9 : Int32) h n hv15) mf_X10_isIn q_1367 q_1368 ⟨Nat.le_of_ble_eq_true rfl, Nat.le_of_ble_eq_true rfl⟩ ⟨Nat.le_of_ble_eq_true rfl, Nat.le_of_ble_eq_true rfl⟩ rfl (Nat.le_of_ble_eq_true rfl) dX10_isSpring_15 (fun H locs hR => ?_)
    refine W.eq (g2 := F0 m 18 ls [.int v15]) rfl ?_
    refine lv_if_eq (tgt := 25) hx hb dX10_isSpring_18 (by decide) (fun c18 => ?_) (fun c18 => ?_)
    · replace hf := zz_pos c18 hf
      exact bk_X10_isSpring_25 X hT hR (lv_sub hl [] rfl) hf
    · replace hf := zz_neg c18 hf
      refine lv_iconst (v := (1 : Int32)) hx hb dX10_isSpring_21 (by decide) ?_
      refine lv_goto (tgt := 26) hx hb dX10_isSpring_22 (by decide) ?_
      exact bk_X10_isSpring_26 X hT hR (lv_sub hl [] rfl) hf
def rm_X10_loosen : Room := { frames := 0, cells := 0, slots := 0, locals := 0 }
theorem mf_X10_loosen : zz_Mf yX10_loosen cX10_loosen 3 none 1 := ⟨q_1408, q_11, by decide +kernel, by decide +kernel, by decide +kernel⟩
set_option maxHeartbeats 4000000 in
set_option maxRecDepth 100000 in
theorem bk_X10_loosen_2 {D : va_G} {dA : Nat → ClassId} {base t0 : Nat} {l : Launch} {p : Program} {e : Env} {s : State} {m : MethodId} {args : Array Value} {below : List Frame} {meth : Method} {c : Code} (X : zz_X D dA base t0 "SpringseatModel" cX10_loosen 3 none l p s m meth c) (hT : l.stackTraces = false) {a0 : Nat} {x1 : Int32} {x2 : Int32} {h : zz_H} {n : Nat} {H : Heap} {locs : List Loc} {ls : Array Slot} (hR : zz_R D dA base h n s H locs) (hl : lv_has ls 3 [(0, .ref a0), (1, .int x1), (2, .int x2)]) {r0 : Unit} {hF : zz_H} {o : ((Int32 × zz_H) ⊕ (Unit × zz_H))} (hf : f_X10_loosen_2 a0 x1 x2 h = some o) (k0 : ∀ (w2 : Int32) (hw : zz_H), o = (.inl (w2, hw)) → ∀ {H : Heap} {locs : List Loc} {ls : Array Slot}, zz_R D dA base hw n s H locs → lv_has ls 3 [(0, .ref a0), (1, .int x1), (2, .int w2)] → W p l e rm_X10_loosen s m args below meth c H locs 0 0 (MQ below (zz_Qc D dA base none hF n) args s rm_X10_loosen.cells rm_X10_loosen.slots (fun q => base ≤ q)) (F0 m 2 ls [])) (hret : ∀ r, o = (.inr r) → r = (r0, hF)) : W p l e rm_X10_loosen s m args below meth c H locs 0 0 (MQ below (zz_Qc D dA base none hF n) args s rm_X10_loosen.cells rm_X10_loosen.slots (fun q => base ≤ q)) (F0 m 2 ls []) := by
  have hx := X.1
  have hb := X.2.1
  have hown := X.2.2.2.2.1
  unfold f_X10_loosen_2 at hf
  refine lv_iload_n hx hb dX10_loosen_2 rfl (lv_at hl 2 rfl) ?_
  refine lv_bipush (v := (6 : Int32)) hx hb dX10_loosen_3 (by decide) ?_
  refine lv_icmp_ge (tgt := 34) hx hb dX10_loosen_5 (by decide) (fun c5 => ?_) (fun c5 => ?_)
  · replace hf := zz_pos c5 hf
    cases hf
    cases hret _ rfl
    exact zr_vret X hR dX10_loosen_34 (Nat.le_of_ble_eq_true rfl) (Nat.le_of_ble_eq_true rfl)
  · replace hf := zz_neg c5 hf
    refine lv_aload_n hx hb dX10_loosen_8 rfl (lv_at hl 0 rfl) ?_
    refine zr_gq X hR (r := (some a0)) fl_X10_42 dX10_loosen_9 hf (fun v9 hf => ?_)
    refine lv_iload_n hx hb dX10_loosen_12 rfl (lv_at hl 1 rfl) ?_
    refine zr_aald X hR (t := 6) (r := v9) (by decide) rfl dX10_loosen_13 hf (fun v13 hf => ?_)
    refine lv_iload_n hx hb dX10_loosen_14 rfl (lv_at hl 2 rfl) ?_
    refine lv_bipush (v := (99 : Int32)) hx hb dX10_loosen_15 (by decide) ?_
    refine zr_iast X hR (r := v13) dX10_loosen_17 hf (fun h17 H locs hf hR => ?_)
    refine lv_aload_n hx hb dX10_loosen_18 rfl (lv_at hl 0 rfl) ?_
    refine zr_gq X hR (r := (some a0)) fl_X10_45 dX10_loosen_19 hf (fun v19 hf => ?_)
    refine lv_iload_n hx hb dX10_loosen_22 rfl (lv_at hl 1 rfl) ?_
    refine zr_aald X hR (t := 6) (r := v19) (by decide) rfl dX10_loosen_23 hf (fun v23 hf => ?_)
    refine lv_iload_n hx hb dX10_loosen_24 rfl (lv_at hl 2 rfl) ?_
    refine lv_bipush (v := (99 : Int32)) hx hb dX10_loosen_25 (by decide) ?_
    refine zr_iast X hR (r := v23) dX10_loosen_27 hf (fun h27 H locs hf hR => ?_)
    refine lv_iinc (i := 2) (v := (x2 + (1 : Int32))) (lv' := [(2, .int (x2 + (1 : Int32))), (0, .ref a0), (1, .int x1)]) hx hb dX10_loosen_28 hl (k := 2) rfl rfl (by decide) rfl (fun ls hl => ?_)
    refine lv_goto (tgt := 2) hx hb dX10_loosen_31 (by decide) ?_
    cases hf
    exact k0 _ _ rfl hR (lv_sub hl [1, 2, 0] rfl)
set_option maxHeartbeats 4000000 in
set_option maxRecDepth 100000 in
theorem lp_X10_loosen_2 {D : va_G} {dA : Nat → ClassId} {base t0 : Nat} {l : Launch} {p : Program} {e : Env} {s : State} {m : MethodId} {args : Array Value} {below : List Frame} {meth : Method} {c : Code} (X : zz_X D dA base t0 "SpringseatModel" cX10_loosen 3 none l p s m meth c) (hT : l.stackTraces = false) (a0 : Nat) (x1 : Int32) {n : Nat} {r0 : Unit} {hF : zz_H} : ∀ (k : Nat) (x2 : Int32) (h : zz_H), zz_it (fun s : (Int32 × zz_H) => f_X10_loosen_2 a0 x1 s.1 s.2) k (x2, h) = some (r0, hF) → ∀ {H : Heap} {locs : List Loc} {ls : Array Slot}, zz_R D dA base h n s H locs → lv_has ls 3 [(0, .ref a0), (1, .int x1), (2, .int x2)] → W p l e rm_X10_loosen s m args below meth c H locs 0 0 (MQ below (zz_Qc D dA base none hF n) args s rm_X10_loosen.cells rm_X10_loosen.slots (fun q => base ≤ q)) (F0 m 2 ls []) := by
  intro k
  induction k with
  | zero => intro x2 h hf; cases hf
  | succ k ih =>
    intro x2 h hf H locs ls hR hl
    rcases zz_it_s hf with ⟨⟨y0, y1⟩, h1, h2⟩ | h1
    · exact bk_X10_loosen_2 (r0 := r0) X hT hR hl h1  (fun z0 z1 e => by cases e; exact ih _ _ h2) (fun r e => by cases e)
    · exact bk_X10_loosen_2 (r0 := r0) X hT hR hl h1  (fun z0 z1 e => by cases e) (fun r e => (Sum.inr.inj e).symm)
set_option maxHeartbeats 4000000 in
set_option maxRecDepth 100000 in
theorem mt_X10_loosen {D : va_G} {dA : Nat → ClassId} {base t0 : Nat} {l : Launch} (hT : l.stackTraces = false) (a0 : Nat) (x1 : Int32) (h : zz_H) (n : Nat) {r0 : Unit} {hF : zz_H} (hf : f_X10_loosen a0 x1 h = some (r0, hF)) : zz_M D dA base t0 l yX10_loosen cX10_loosen 3 none rm_X10_loosen [.ref a0, .int x1] h n none hF n := by
  refine Met.ofW (cc := cX10_loosen) (maxL := 3) (ret := none) (by decide +kernel) rfl ?_
  intro p e s m args below meth c s₁ B hml hv
  obtain ⟨rfl, hP, hK⟩ := hv
  have X : zz_X D dA base t0 "SpringseatModel" cX10_loosen 3 none l p s m meth c := ⟨B.exec, B.bytes, hml, B.returns, findClass_of_methodNamed B.named, B.notSynchronized, hT, by rw [hP.1]; exact hP.2.1, hK⟩
  have hx := X.1
  have hb := X.2.1
  have hown := X.2.2.2.2.1
  have hR : zz_R D dA base h n s s.heap [] := ⟨hP, va_S.rf⟩
  have hl := lv_entry ([.ref a0, .int x1]) (n := 3) (by exact Nat.le_of_ble_eq_true rfl)
  rw [lg_entry_eq]
  generalize (lg_sl ([.ref a0, .int x1]) ++ List.replicate (3 - (lg_sl ([.ref a0, .int x1])).length) Slot.unset).toArray = ls at hl ⊢
  have hl : lv_has ls 3 [(0, .ref a0), (1, .int x1)] := hl
  unfold f_X10_loosen at hf
  refine lv_iconst (v := (0 : Int32)) hx hb dX10_loosen_0 (by decide) ?_
  refine lv_istore_n (i := 2) (lv' := [(2, .int (0 : Int32)), (0, .ref a0), (1, .int x1)]) hx hb dX10_loosen_1 rfl hl (by decide) rfl (fun ls hl => ?_)
  exact lp_X10_loosen_2 X hT a0 x1 zz_F _ _ hf hR (lv_sub hl [1, 2, 0] rfl)
def rm_X10_spring : Room := { frames := 2, cells := 0, slots := 0, locals := 45 }
theorem mf_X10_spring : zz_Mf yX10_spring cX10_spring 6 (some .int) 3 := ⟨q_1401, q_11, by decide +kernel, by decide +kernel, by decide +kernel⟩
set_option maxHeartbeats 4000000 in
set_option maxRecDepth 100000 in
theorem bk_X10_spring_72 {D : va_G} {dA : Nat → ClassId} {base t0 : Nat} {l : Launch} {p : Program} {e : Env} {s : State} {m : MethodId} {args : Array Value} {below : List Frame} {meth : Method} {c : Code} (X : zz_X D dA base t0 "SpringseatModel" cX10_spring 6 (some .int) l p s m meth c) (hT : l.stackTraces = false) {a0 : Nat} {x1 : Int32} {x2 : Int32} {x3 : Int32} {x4 : Int32} {x5 : Int32} {h : zz_H} {n : Nat} {H : Heap} {locs : List Loc} {ls : Array Slot} (hR : zz_R D dA base h n s H locs) (hl : lv_has ls 6 [(0, .ref a0), (1, .int x1), (2, .int x2), (3, .int x3), (4, .int x4), (5, .int x5)]) {r0 : Int32} {hF : zz_H} {o : ((Int32 × zz_H) ⊕ ((Int32 × zz_H) ⊕ (Int32 × zz_H)))} (hf : f_X10_spring_72 a0 x1 x2 x3 x4 x5 h = some o) (k0 : ∀ (w4 : Int32) (hw : zz_H), o = (.inr (.inl (w4, hw))) → ∀ {H : Heap} {locs : List Loc} {ls : Array Slot}, zz_R D dA base hw n s H locs → lv_has ls 6 [(0, .ref a0), (1, .int x1), (2, .int x2), (3, .int x3), (4, .int w4)] → W p l e rm_X10_spring s m args below meth c H locs 0 0 (MQ below (zz_Qc D dA base (some (.int r0)) hF n) args s rm_X10_spring.cells rm_X10_spring.slots (fun q => base ≤ q)) (F0 m 62 ls [])) (k1 : ∀ (w5 : Int32) (hw : zz_H), o = (.inl (w5, hw)) → ∀ {H : Heap} {locs : List Loc} {ls : Array Slot}, zz_R D dA base hw n s H locs → lv_has ls 6 [(0, .ref a0), (1, .int x1), (2, .int x2), (3, .int x3), (4, .int x4), (5, .int w5)] → W p l e rm_X10_spring s m args below meth c H locs 0 0 (MQ below (zz_Qc D dA base (some (.int r0)) hF n) args s rm_X10_spring.cells rm_X10_spring.slots (fun q => base ≤ q)) (F0 m 72 ls [])) (hret : ∀ r, o = (.inr (.inr r)) → r = (r0, hF)) : W p l e rm_X10_spring s m args below meth c H locs 0 0 (MQ below (zz_Qc D dA base (some (.int r0)) hF n) args s rm_X10_spring.cells rm_X10_spring.slots (fun q => base ≤ q)) (F0 m 72 ls []) := by
  have hx := X.1
  have hb := X.2.1
  have hown := X.2.2.2.2.1
  unfold f_X10_spring_72 at hf
  refine lv_iload hx hb dX10_spring_72 (lv_at hl 5 rfl) ?_
  refine lv_bipush (v := (6 : Int32)) hx hb dX10_spring_74 (by decide) ?_
  refine lv_icmp_ge (tgt := 111) hx hb dX10_spring_76 (by decide) (fun c76 => ?_) (fun c76 => ?_)
  · replace hf := zz_pos c76 hf
    refine lv_iinc (i := 4) (v := (x4 + (1 : Int32))) (lv' := [(4, .int (x4 + (1 : Int32))), (0, .ref a0), (1, .int x1), (2, .int x2), (3, .int x3), (5, .int x5)]) hx hb dX10_spring_111 hl (k := 4) rfl rfl (by decide) rfl (fun ls hl => ?_)
    refine lv_goto (tgt := 62) hx hb dX10_spring_114 (by decide) ?_
    cases hf
    exact k0 _ _ rfl hR (lv_sub hl [1, 2, 3, 4, 0] rfl)
  · replace hf := zz_neg c76 hf
    refine lv_aload_n hx hb dX10_spring_79 rfl (lv_at hl 0 rfl) ?_
    refine zr_gq X hR (r := (some a0)) fl_X10_34 dX10_spring_80 hf (fun v80 hf => ?_)
    refine lv_iload_n hx hb dX10_spring_83 rfl (lv_at hl 1 rfl) ?_
    refine zr_aald X hR (t := 7) (r := v80) (by decide) rfl dX10_spring_84 hf (fun v84 hf => ?_)
    refine lv_iload hx hb dX10_spring_85 (lv_at hl 4 rfl) ?_
    refine zr_aald X hR (t := 6) (r := v84) (by decide) rfl dX10_spring_87 hf (fun v87 hf => ?_)
    refine lv_iload hx hb dX10_spring_88 (lv_at hl 5 rfl) ?_
    refine lv_iload_n hx hb dX10_spring_90 rfl (lv_at hl 2 rfl) ?_
    refine zr_iast X hR (r := v87) dX10_spring_91 hf (fun h91 H locs hf hR => ?_)
    refine lv_aload_n hx hb dX10_spring_92 rfl (lv_at hl 0 rfl) ?_
    refine zr_gq X hR (r := (some a0)) fl_X10_37 dX10_spring_93 hf (fun v93 hf => ?_)
    refine lv_iload_n hx hb dX10_spring_96 rfl (lv_at hl 1 rfl) ?_
    refine zr_aald X hR (t := 7) (r := v93) (by decide) rfl dX10_spring_97 hf (fun v97 hf => ?_)
    refine lv_iload hx hb dX10_spring_98 (lv_at hl 4 rfl) ?_
    refine zr_aald X hR (t := 6) (r := v97) (by decide) rfl dX10_spring_100 hf (fun v100 hf => ?_)
    refine lv_iload hx hb dX10_spring_101 (lv_at hl 5 rfl) ?_
    refine lv_iload_n hx hb dX10_spring_103 rfl (lv_at hl 3 rfl) ?_
    refine zr_iast X hR (r := v100) dX10_spring_104 hf (fun h104 H locs hf hR => ?_)
    refine lv_iinc (i := 5) (v := (x5 + (1 : Int32))) (lv' := [(5, .int (x5 + (1 : Int32))), (0, .ref a0), (1, .int x1), (2, .int x2), (3, .int x3), (4, .int x4)]) hx hb dX10_spring_105 hl (k := 5) rfl rfl (by decide) rfl (fun ls hl => ?_)
    refine lv_goto (tgt := 72) hx hb dX10_spring_108 (by decide) ?_
    cases hf
    exact k1 _ _ rfl hR (lv_sub hl [1, 2, 3, 4, 5, 0] rfl)
set_option maxHeartbeats 4000000 in
set_option maxRecDepth 100000 in
theorem lp_X10_spring_72 {D : va_G} {dA : Nat → ClassId} {base t0 : Nat} {l : Launch} {p : Program} {e : Env} {s : State} {m : MethodId} {args : Array Value} {below : List Frame} {meth : Method} {c : Code} (X : zz_X D dA base t0 "SpringseatModel" cX10_spring 6 (some .int) l p s m meth c) (hT : l.stackTraces = false) (a0 : Nat) (x1 : Int32) (x2 : Int32) (x3 : Int32) (x4 : Int32) {n : Nat} {r0 : Int32} {hF : zz_H} : ∀ (k : Nat) (x5 : Int32) (h : zz_H) {o : ((Int32 × zz_H) ⊕ (Int32 × zz_H))}, zz_it (fun s : (Int32 × zz_H) => f_X10_spring_72 a0 x1 x2 x3 x4 s.1 s.2) k (x5, h) = some o → (∀ (w4 : Int32) (hw : zz_H), o = (.inl (w4, hw)) → ∀ {H : Heap} {locs : List Loc} {ls : Array Slot}, zz_R D dA base hw n s H locs → lv_has ls 6 [(0, .ref a0), (1, .int x1), (2, .int x2), (3, .int x3), (4, .int w4)] → W p l e rm_X10_spring s m args below meth c H locs 0 0 (MQ below (zz_Qc D dA base (some (.int r0)) hF n) args s rm_X10_spring.cells rm_X10_spring.slots (fun q => base ≤ q)) (F0 m 62 ls [])) → (∀ r, o = (.inr r) → r = (r0, hF)) → ∀ {H : Heap} {locs : List Loc} {ls : Array Slot}, zz_R D dA base h n s H locs → lv_has ls 6 [(0, .ref a0), (1, .int x1), (2, .int x2), (3, .int x3), (4, .int x4), (5, .int x5)] → W p l e rm_X10_spring s m args below meth c H locs 0 0 (MQ below (zz_Qc D dA base (some (.int r0)) hF n) args s rm_X10_spring.cells rm_X10_spring.slots (fun q => base ≤ q)) (F0 m 72 ls []) := by
  intro k
  induction k with
  | zero => intro x5 h o hf _ _; cases hf
  | succ k ih =>
    intro x5 h o hf k0 hret H locs ls hR hl
    rcases zz_it_s hf with ⟨⟨y0, y1⟩, h1, h2⟩ | h1
    · exact bk_X10_spring_72 (r0 := r0) X hT hR hl h1 (fun z0 z1 e => by cases e) (fun z0 z1 e => by cases e; exact ih _ _ h2 k0 hret) (fun r e => by cases e)
    · exact bk_X10_spring_72 (r0 := r0) X hT hR hl h1 (fun z0 z1 e => k0 z0 z1 (Sum.inr.inj e)) (fun z0 z1 e => by cases e) (fun r e => hret r (Sum.inr.inj e))
set_option maxHeartbeats 4000000 in
set_option maxRecDepth 100000 in
theorem bk_X10_spring_62 {D : va_G} {dA : Nat → ClassId} {base t0 : Nat} {l : Launch} {p : Program} {e : Env} {s : State} {m : MethodId} {args : Array Value} {below : List Frame} {meth : Method} {c : Code} (X : zz_X D dA base t0 "SpringseatModel" cX10_spring 6 (some .int) l p s m meth c) (hT : l.stackTraces = false) {a0 : Nat} {x1 : Int32} {x2 : Int32} {x3 : Int32} {x4 : Int32} {h : zz_H} {n : Nat} {H : Heap} {locs : List Loc} {ls : Array Slot} (hR : zz_R D dA base h n s H locs) (hl : lv_has ls 6 [(0, .ref a0), (1, .int x1), (2, .int x2), (3, .int x3), (4, .int x4)]) {r0 : Int32} {hF : zz_H} {o : ((Int32 × zz_H) ⊕ (Int32 × zz_H))} (hf : f_X10_spring_62 a0 x1 x2 x3 x4 h = some o) (k0 : ∀ (w4 : Int32) (hw : zz_H), o = (.inl (w4, hw)) → ∀ {H : Heap} {locs : List Loc} {ls : Array Slot}, zz_R D dA base hw n s H locs → lv_has ls 6 [(0, .ref a0), (1, .int x1), (2, .int x2), (3, .int x3), (4, .int w4)] → W p l e rm_X10_spring s m args below meth c H locs 0 0 (MQ below (zz_Qc D dA base (some (.int r0)) hF n) args s rm_X10_spring.cells rm_X10_spring.slots (fun q => base ≤ q)) (F0 m 62 ls [])) (hret : ∀ r, o = (.inr r) → r = (r0, hF)) : W p l e rm_X10_spring s m args below meth c H locs 0 0 (MQ below (zz_Qc D dA base (some (.int r0)) hF n) args s rm_X10_spring.cells rm_X10_spring.slots (fun q => base ≤ q)) (F0 m 62 ls []) := by
  have hx := X.1
  have hb := X.2.1
  have hown := X.2.2.2.2.1
  unfold f_X10_spring_62 at hf
  refine lv_iload hx hb dX10_spring_62 (lv_at hl 4 rfl) ?_
  refine lv_bipush (v := (6 : Int32)) hx hb dX10_spring_64 (by decide) ?_
  refine lv_icmp_ge (tgt := 117) hx hb dX10_spring_66 (by decide) (fun c66 => ?_) (fun c66 => ?_)
  · replace hf := zz_pos c66 hf
    refine lv_aload_n hx hb dX10_spring_117 rfl (lv_at hl 0 rfl) ?_
    refine lv_iload_n hx hb dX10_spring_118 rfl (lv_at hl 1 rfl) ?_
    obtain ⟨fs119, ho119, hf⟩ := zz_obS_i hf
    obtain ⟨u119, h119, hv119, hf⟩ := zz_b1_i hf
    refine zr_cV X hR hl.1 (As := [.int x1]) (rest := []) (C := RX10) (T := TX10) (N := 34) (mt_X10_loosen hT a0 x1 h n hv119) rfl ho119 mf_X10_loosen q_1405 q_1407 qs_23 ⟨Nat.le_of_ble_eq_true rfl, Nat.le_of_ble_eq_true rfl⟩ ⟨Nat.le_of_ble_eq_true rfl, Nat.le_of_ble_eq_true rfl⟩ rfl (Nat.le_of_ble_eq_true rfl) dX10_spring_119 (fun H locs hR => ?_)
    refine W.eq (g2 := F0 m 122 ls []) rfl ?_
    refine lv_aload_n hx hb dX10_spring_122 rfl (lv_at hl 0 rfl) ?_
    refine lv_iload_n hx hb dX10_spring_123 rfl (lv_at hl 1 rfl) ?_
    refine lv_bipush (v := (115 : Int32)) hx hb dX10_spring_124 (by decide) ?_
    obtain ⟨fs126, ho126, hf⟩ := zz_obS_i hf
    obtain ⟨v126, h126, hv126, hf⟩ := zz_b1_i hf
    refine zr_cV X hR hl.1 (As := [.int x1, .int (115 : Int32)]) (rest := []) (C := RX10) (T := TX10) (N := 34) (mt_X10_done hT a0 x1 (115 : Int32) h119 n hv126) rfl ho126 mf_X10_done q_1394 q_1396 qs_22 ⟨Nat.le_of_ble_eq_true rfl, Nat.le_of_ble_eq_true rfl⟩ ⟨Nat.le_of_ble_eq_true rfl, Nat.le_of_ble_eq_true rfl⟩ rfl (Nat.le_of_ble_eq_true rfl) dX10_spring_126 (fun H locs hR => ?_)
    refine W.eq (g2 := F0 m 129 ls [.int v126]) rfl ?_
    cases hf
    cases hret _ rfl
    exact zr_iret X hR dX10_spring_129 (Nat.le_of_ble_eq_true rfl) (Nat.le_of_ble_eq_true rfl)
  · replace hf := zz_neg c66 hf
    refine lv_iconst (v := (0 : Int32)) hx hb dX10_spring_69 (by decide) ?_
    refine lv_istore (i := 5) (lv' := [(5, .int (0 : Int32)), (0, .ref a0), (1, .int x1), (2, .int x2), (3, .int x3), (4, .int x4)]) hx hb dX10_spring_70 hl (by decide) rfl (fun ls hl => ?_)
    exact lp_X10_spring_72 X hT a0 x1 x2 x3 x4 zz_F _ _ hf k0 hret hR (lv_sub hl [1, 2, 3, 4, 5, 0] rfl)
set_option maxHeartbeats 4000000 in
set_option maxRecDepth 100000 in
theorem lp_X10_spring_62 {D : va_G} {dA : Nat → ClassId} {base t0 : Nat} {l : Launch} {p : Program} {e : Env} {s : State} {m : MethodId} {args : Array Value} {below : List Frame} {meth : Method} {c : Code} (X : zz_X D dA base t0 "SpringseatModel" cX10_spring 6 (some .int) l p s m meth c) (hT : l.stackTraces = false) (a0 : Nat) (x1 : Int32) (x2 : Int32) (x3 : Int32) {n : Nat} {r0 : Int32} {hF : zz_H} : ∀ (k : Nat) (x4 : Int32) (h : zz_H), zz_it (fun s : (Int32 × zz_H) => f_X10_spring_62 a0 x1 x2 x3 s.1 s.2) k (x4, h) = some (r0, hF) → ∀ {H : Heap} {locs : List Loc} {ls : Array Slot}, zz_R D dA base h n s H locs → lv_has ls 6 [(0, .ref a0), (1, .int x1), (2, .int x2), (3, .int x3), (4, .int x4)] → W p l e rm_X10_spring s m args below meth c H locs 0 0 (MQ below (zz_Qc D dA base (some (.int r0)) hF n) args s rm_X10_spring.cells rm_X10_spring.slots (fun q => base ≤ q)) (F0 m 62 ls []) := by
  intro k
  induction k with
  | zero => intro x4 h hf; cases hf
  | succ k ih =>
    intro x4 h hf H locs ls hR hl
    rcases zz_it_s hf with ⟨⟨y0, y1⟩, h1, h2⟩ | h1
    · exact bk_X10_spring_62 (r0 := r0) X hT hR hl h1  (fun z0 z1 e => by cases e; exact ih _ _ h2) (fun r e => by cases e)
    · exact bk_X10_spring_62 (r0 := r0) X hT hR hl h1  (fun z0 z1 e => by cases e) (fun r e => (Sum.inr.inj e).symm)
set_option maxHeartbeats 4000000 in
set_option maxRecDepth 100000 in
theorem bk_X10_spring_57 {D : va_G} {dA : Nat → ClassId} {base t0 : Nat} {l : Launch} {p : Program} {e : Env} {s : State} {m : MethodId} {args : Array Value} {below : List Frame} {meth : Method} {c : Code} (X : zz_X D dA base t0 "SpringseatModel" cX10_spring 6 (some .int) l p s m meth c) (hT : l.stackTraces = false) {h : zz_H} {n : Nat} {H : Heap} {locs : List Loc} {ls : Array Slot} (hR : zz_R D dA base h n s H locs) (hl : lv_has ls 6 []) {r0 : Int32} {hF : zz_H} (hf : f_X10_spring_57 h = some (r0, hF)) : W p l e rm_X10_spring s m args below meth c H locs 0 0 (MQ below (zz_Qc D dA base (some (.int r0)) hF n) args s rm_X10_spring.cells rm_X10_spring.slots (fun q => base ≤ q)) (F0 m 57 ls []) := by
  have hx := X.1
  have hb := X.2.1
  have hown := X.2.2.2.2.1
  unfold f_X10_spring_57 at hf
  refine lv_iconst (v := (0 : Int32)) hx hb dX10_spring_57 (by decide) ?_
  cases hf
  exact zr_iret X hR dX10_spring_58 (Nat.le_of_ble_eq_true rfl) (Nat.le_of_ble_eq_true rfl)
set_option maxHeartbeats 4000000 in
set_option maxRecDepth 100000 in
theorem bk_X10_spring_50 {D : va_G} {dA : Nat → ClassId} {base t0 : Nat} {l : Launch} {p : Program} {e : Env} {s : State} {m : MethodId} {args : Array Value} {below : List Frame} {meth : Method} {c : Code} (X : zz_X D dA base t0 "SpringseatModel" cX10_spring 6 (some .int) l p s m meth c) (hT : l.stackTraces = false) {a0 : Nat} {x1 : Int32} {x2 : Int32} {x3 : Int32} {s0 : Int32} {s1 : (Option Nat)} {h : zz_H} {n : Nat} {H : Heap} {locs : List Loc} {ls : Array Slot} (hR : zz_R D dA base h n s H locs) (hl : lv_has ls 6 [(0, .ref a0), (1, .int x1), (2, .int x2), (3, .int x3)]) {r0 : Int32} {hF : zz_H} (hf : f_X10_spring_50 a0 x1 x2 x3 s0 s1 h = some (r0, hF)) : W p l e rm_X10_spring s m args below meth c H locs 0 0 (MQ below (zz_Qc D dA base (some (.int r0)) hF n) args s rm_X10_spring.cells rm_X10_spring.slots (fun q => base ≤ q)) (F0 m 50 ls [.int s0, va_rf s1]) := by
  have hx := X.1
  have hb := X.2.1
  have hown := X.2.2.2.2.1
  unfold f_X10_spring_50 at hf
  refine lv_iconst (v := (3 : Int32)) hx hb dX10_spring_50 (by decide) ?_
  obtain ⟨b51, fs51, hr51, ho51, hf⟩ := zz_ob_i hf
  obtain ⟨v51, h51, hv51, hf⟩ := zz_b1_i hf
  refine zr_cV X hR hl.1 (As := [.int s0, .int (3 : Int32)]) (rest := []) (C := RX10) (T := TX10) (N := 34) (mt_X10_isThrown hT b51 s0 (3 : Int32) h n hv51) rfl ho51 mf_X10_isThrown q_1370 q_1372 qs_17 ⟨Nat.le_of_ble_eq_true rfl, Nat.le_of_ble_eq_true rfl⟩ ⟨Nat.le_of_ble_eq_true rfl, Nat.le_of_ble_eq_true rfl⟩ (by rw [hr51]; rfl) (Nat.le_of_ble_eq_true rfl) dX10_spring_51 (fun H locs hR => ?_)
  refine W.eq (g2 := F0 m 54 ls [.int v51]) rfl ?_
  refine lv_if_eq (tgt := 59) hx hb dX10_spring_54 (by decide) (fun c54 => ?_) (fun c54 => ?_)
  · replace hf := zz_pos c54 hf
    refine lv_iconst (v := (0 : Int32)) hx hb dX10_spring_59 (by decide) ?_
    refine lv_istore (i := 4) (lv' := [(4, .int (0 : Int32)), (0, .ref a0), (1, .int x1), (2, .int x2), (3, .int x3)]) hx hb dX10_spring_60 hl (by decide) rfl (fun ls hl => ?_)
    exact lp_X10_spring_62 X hT a0 x1 x2 x3 zz_F _ _ hf hR (lv_sub hl [1, 2, 3, 4, 0] rfl)
  · replace hf := zz_neg c54 hf
    exact bk_X10_spring_57 X hT hR (lv_sub hl [] rfl) hf
set_option maxHeartbeats 4000000 in
set_option maxRecDepth 100000 in
theorem bk_X10_spring_27 {D : va_G} {dA : Nat → ClassId} {base t0 : Nat} {l : Launch} {p : Program} {e : Env} {s : State} {m : MethodId} {args : Array Value} {below : List Frame} {meth : Method} {c : Code} (X : zz_X D dA base t0 "SpringseatModel" cX10_spring 6 (some .int) l p s m meth c) (hT : l.stackTraces = false) {a0 : Nat} {x1 : Int32} {x2 : Int32} {x3 : Int32} {s0 : Int32} {s1 : (Option Nat)} {h : zz_H} {n : Nat} {H : Heap} {locs : List Loc} {ls : Array Slot} (hR : zz_R D dA base h n s H locs) (hl : lv_has ls 6 [(0, .ref a0), (1, .int x1), (2, .int x2), (3, .int x3)]) {r0 : Int32} {hF : zz_H} (hf : f_X10_spring_27 a0 x1 x2 x3 s0 s1 h = some (r0, hF)) : W p l e rm_X10_spring s m args below meth c H locs 0 0 (MQ below (zz_Qc D dA base (some (.int r0)) hF n) args s rm_X10_spring.cells rm_X10_spring.slots (fun q => base ≤ q)) (F0 m 27 ls [.int s0, va_rf s1]) := by
  have hx := X.1
  have hb := X.2.1
  have hown := X.2.2.2.2.1
  unfold f_X10_spring_27 at hf
  refine lv_iconst (v := (2 : Int32)) hx hb dX10_spring_27 (by decide) ?_
  obtain ⟨b28, fs28, hr28, ho28, hf⟩ := zz_ob_i hf
  obtain ⟨v28, h28, hv28, hf⟩ := zz_b1_i hf
  refine zr_cV X hR hl.1 (As := [.int s0, .int (2 : Int32)]) (rest := []) (C := RX10) (T := TX10) (N := 34) (mt_X10_isThrown hT b28 s0 (2 : Int32) h n hv28) rfl ho28 mf_X10_isThrown q_1370 q_1372 qs_17 ⟨Nat.le_of_ble_eq_true rfl, Nat.le_of_ble_eq_true rfl⟩ ⟨Nat.le_of_ble_eq_true rfl, Nat.le_of_ble_eq_true rfl⟩ (by rw [hr28]; rfl) (Nat.le_of_ble_eq_true rfl) dX10_spring_28 (fun H locs hR => ?_)
  refine W.eq (g2 := F0 m 31 ls [.int v28]) rfl ?_
  refine lv_if_ne (tgt := 57) hx hb dX10_spring_31 (by decide) (fun c31 => ?_) (fun c31 => ?_)
  · replace hf := zz_neg c31 hf
    exact bk_X10_spring_57 X hT hR (lv_sub hl [] rfl) hf
  · replace hf := zz_pos c31 hf
    refine lv_aload_n hx hb dX10_spring_34 rfl (lv_at hl 0 rfl) ?_
    refine lv_aload_n hx hb dX10_spring_35 rfl (lv_at hl 0 rfl) ?_
    refine lv_iload_n hx hb dX10_spring_36 rfl (lv_at hl 1 rfl) ?_
    refine lv_bipush (v := (115 : Int32)) hx hb dX10_spring_37 (by decide) ?_
    obtain ⟨fs39, ho39, hf⟩ := zz_obS_i hf
    obtain ⟨v39, hv39, hf⟩ := zz_b_i hf
    refine zr_cV X hR hl.1 (As := [.int x1, .int (115 : Int32)]) (rest := [.ref a0]) (C := RX10) (T := TX10) (N := 34) (mt_X10_mayCome hT a0 x1 (115 : Int32) h28 n hv39) rfl ho39 mf_X10_mayCome q_1382 q_1384 qs_19 ⟨Nat.le_of_ble_eq_true rfl, Nat.le_of_ble_eq_true rfl⟩ ⟨Nat.le_of_ble_eq_true rfl, Nat.le_of_ble_eq_true rfl⟩ rfl (Nat.le_of_ble_eq_true rfl) dX10_spring_39 (fun H locs hR => ?_)
    refine W.eq (g2 := F0 m 42 ls [.int v39, .ref a0]) rfl ?_
    refine lv_if_ne (tgt := 49) hx hb dX10_spring_42 (by decide) (fun c42 => ?_) (fun c42 => ?_)
    · replace hf := zz_neg c42 hf
      refine lv_iconst (v := (0 : Int32)) hx hb dX10_spring_49 (by decide) ?_
      exact bk_X10_spring_50 X hT hR (lv_sub hl [0, 1, 2, 3] rfl) hf
    · replace hf := zz_pos c42 hf
      refine lv_iconst (v := (1 : Int32)) hx hb dX10_spring_45 (by decide) ?_
      refine lv_goto (tgt := 50) hx hb dX10_spring_46 (by decide) ?_
      exact bk_X10_spring_50 X hT hR (lv_sub hl [0, 1, 2, 3] rfl) hf
set_option maxHeartbeats 4000000 in
set_option maxRecDepth 100000 in
theorem mt_X10_spring {D : va_G} {dA : Nat → ClassId} {base t0 : Nat} {l : Launch} (hT : l.stackTraces = false) (a0 : Nat) (x1 : Int32) (x2 : Int32) (x3 : Int32) (h : zz_H) (n : Nat) {r0 : Int32} {hF : zz_H} (hf : f_X10_spring a0 x1 x2 x3 h = some (r0, hF)) : zz_M D dA base t0 l yX10_spring cX10_spring 6 (some .int) rm_X10_spring [.ref a0, .int x1, .int x2, .int x3] h n (some (.int r0)) hF n := by
  refine Met.ofW (cc := cX10_spring) (maxL := 6) (ret := (some .int)) (by decide +kernel) rfl ?_
  intro p e s m args below meth c s₁ B hml hv
  obtain ⟨rfl, hP, hK⟩ := hv
  have X : zz_X D dA base t0 "SpringseatModel" cX10_spring 6 (some .int) l p s m meth c := ⟨B.exec, B.bytes, hml, B.returns, findClass_of_methodNamed B.named, B.notSynchronized, hT, by rw [hP.1]; exact hP.2.1, hK⟩
  have hx := X.1
  have hb := X.2.1
  have hown := X.2.2.2.2.1
  have hR : zz_R D dA base h n s s.heap [] := ⟨hP, va_S.rf⟩
  have hl := lv_entry ([.ref a0, .int x1, .int x2, .int x3]) (n := 6) (by exact Nat.le_of_ble_eq_true rfl)
  rw [lg_entry_eq]
  generalize (lg_sl ([.ref a0, .int x1, .int x2, .int x3]) ++ List.replicate (6 - (lg_sl ([.ref a0, .int x1, .int x2, .int x3])).length) Slot.unset).toArray = ls at hl ⊢
  have hl : lv_has ls 6 [(0, .ref a0), (1, .int x1), (2, .int x2), (3, .int x3)] := hl
  unfold f_X10_spring at hf
  refine lv_aload_n hx hb dX10_spring_0 rfl (lv_at hl 0 rfl) ?_
  refine lv_aload_n hx hb dX10_spring_1 rfl (lv_at hl 0 rfl) ?_
  refine lv_iload_n hx hb dX10_spring_2 rfl (lv_at hl 1 rfl) ?_
  obtain ⟨fs3, ho3, hf⟩ := zz_obS_i hf
  obtain ⟨v3, hv3, hf⟩ := zz_b_i hf
  refine zr_cV X hR hl.1 (As := [.int x1]) (rest := [.ref a0]) (C := RX10) (T := TX10) (N := 34) (mt_X10_isNoSeat hT a0 x1 h n hv3) rfl ho3 mf_X10_isNoSeat q_1378 q_1380 qs_18 ⟨Nat.le_of_ble_eq_true rfl, Nat.le_of_ble_eq_true rfl⟩ ⟨Nat.le_of_ble_eq_true rfl, Nat.le_of_ble_eq_true rfl⟩ rfl (Nat.le_of_ble_eq_true rfl) dX10_spring_3 (fun H locs hR => ?_)
  refine W.eq (g2 := F0 m 6 ls [.int v3, .ref a0]) rfl ?_
  refine lv_iconst (v := (1 : Int32)) hx hb dX10_spring_6 (by decide) ?_
  obtain ⟨fs7, ho7, hf⟩ := zz_obS_i hf
  obtain ⟨v7, h7, hv7, hf⟩ := zz_b1_i hf
  refine zr_cV X hR hl.1 (As := [.int v3, .int (1 : Int32)]) (rest := []) (C := RX10) (T := TX10) (N := 34) (mt_X10_isThrown hT a0 v3 (1 : Int32) h n hv7) rfl ho7 mf_X10_isThrown q_1370 q_1372 qs_17 ⟨Nat.le_of_ble_eq_true rfl, Nat.le_of_ble_eq_true rfl⟩ ⟨Nat.le_of_ble_eq_true rfl, Nat.le_of_ble_eq_true rfl⟩ rfl (Nat.le_of_ble_eq_true rfl) dX10_spring_7 (fun H locs hR => ?_)
  refine W.eq (g2 := F0 m 10 ls [.int v7]) rfl ?_
  refine lv_if_ne (tgt := 57) hx hb dX10_spring_10 (by decide) (fun c10 => ?_) (fun c10 => ?_)
  · replace hf := zz_neg c10 hf
    exact bk_X10_spring_57 X hT hR (lv_sub hl [] rfl) hf
  · replace hf := zz_pos c10 hf
    refine lv_aload_n hx hb dX10_spring_13 rfl (lv_at hl 0 rfl) ?_
    refine lv_iload_n hx hb dX10_spring_14 rfl (lv_at hl 2 rfl) ?_
    refine lv_iload_n hx hb dX10_spring_15 rfl (lv_at hl 3 rfl) ?_
    obtain ⟨v16, hv16, hf⟩ := zz_b_i hf
    refine zr_cS X hR hl.1 (As := [.int x2, .int x3]) (rest := [.ref a0]) (mt_X10_isSpring hT x2 x3 h7 n hv16) mf_X10_isSpring q_1402 q_1403 ⟨Nat.le_of_ble_eq_true rfl, Nat.le_of_ble_eq_true rfl⟩ ⟨Nat.le_of_ble_eq_true rfl, Nat.le_of_ble_eq_true rfl⟩ rfl (Nat.le_of_ble_eq_true rfl) dX10_spring_16 (fun H locs hR => ?_)
    refine W.eq (g2 := F0 m 19 ls [.int v16, .ref a0]) rfl ?_
    refine lv_if_ne (tgt := 26) hx hb dX10_spring_19 (by decide) (fun c19 => ?_) (fun c19 => ?_)
    · replace hf := zz_neg c19 hf
      refine lv_iconst (v := (0 : Int32)) hx hb dX10_spring_26 (by decide) ?_
      exact bk_X10_spring_27 X hT hR (lv_sub hl [0, 1, 2, 3] rfl) hf
    · replace hf := zz_pos c19 hf
      refine lv_iconst (v := (1 : Int32)) hx hb dX10_spring_22 (by decide) ?_
      refine lv_goto (tgt := 27) hx hb dX10_spring_23 (by decide) ?_
      exact bk_X10_spring_27 X hT hR (lv_sub hl [0, 1, 2, 3] rfl) hf
def rm_X10_change : Room := { frames := 3, cells := 0, slots := 0, locals := 65 }
theorem mf_X10_change : zz_Mf yX10_change cX10_change 6 (some .int) 4 := ⟨q_1412, q_11, by decide +kernel, by decide +kernel, by decide +kernel⟩
set_option maxHeartbeats 4000000 in
set_option maxRecDepth 100000 in
theorem bk_X10_change_59 {D : va_G} {dA : Nat → ClassId} {base t0 : Nat} {l : Launch} {p : Program} {e : Env} {s : State} {m : MethodId} {args : Array Value} {below : List Frame} {meth : Method} {c : Code} (X : zz_X D dA base t0 "SpringseatModel" cX10_change 6 (some .int) l p s m meth c) (hT : l.stackTraces = false) {h : zz_H} {n : Nat} {H : Heap} {locs : List Loc} {ls : Array Slot} (hR : zz_R D dA base h n s H locs) (hl : lv_has ls 6 []) {r0 : Int32} {hF : zz_H} (hf : f_X10_change_59 h = some (r0, hF)) : W p l e rm_X10_change s m args below meth c H locs 0 0 (MQ below (zz_Qc D dA base (some (.int r0)) hF n) args s rm_X10_change.cells rm_X10_change.slots (fun q => base ≤ q)) (F0 m 59 ls []) := by
  have hx := X.1
  have hb := X.2.1
  have hown := X.2.2.2.2.1
  unfold f_X10_change_59 at hf
  refine lv_iconst (v := (0 : Int32)) hx hb dX10_change_59 (by decide) ?_
  cases hf
  exact zr_iret X hR dX10_change_60 (Nat.le_of_ble_eq_true rfl) (Nat.le_of_ble_eq_true rfl)
set_option maxHeartbeats 4000000 in
set_option maxRecDepth 100000 in
theorem bk_X10_change_52 {D : va_G} {dA : Nat → ClassId} {base t0 : Nat} {l : Launch} {p : Program} {e : Env} {s : State} {m : MethodId} {args : Array Value} {below : List Frame} {meth : Method} {c : Code} (X : zz_X D dA base t0 "SpringseatModel" cX10_change 6 (some .int) l p s m meth c) (hT : l.stackTraces = false) {a0 : Nat} {x1 : Int32} {x2 : Int32} {x3 : Int32} {x4 : Int32} {s0 : Int32} {s1 : (Option Nat)} {h : zz_H} {n : Nat} {H : Heap} {locs : List Loc} {ls : Array Slot} (hR : zz_R D dA base h n s H locs) (hl : lv_has ls 6 [(0, .ref a0), (1, .int x1), (2, .int x2), (3, .int x3), (4, .int x4)]) {r0 : Int32} {hF : zz_H} (hf : f_X10_change_52 a0 x1 x2 x3 x4 s0 s1 h = some (r0, hF)) : W p l e rm_X10_change s m args below meth c H locs 0 0 (MQ below (zz_Qc D dA base (some (.int r0)) hF n) args s rm_X10_change.cells rm_X10_change.slots (fun q => base ≤ q)) (F0 m 52 ls [.int s0, va_rf s1]) := by
  have hx := X.1
  have hb := X.2.1
  have hown := X.2.2.2.2.1
  unfold f_X10_change_52 at hf
  refine lv_iconst (v := (3 : Int32)) hx hb dX10_change_52 (by decide) ?_
  obtain ⟨b53, fs53, hr53, ho53, hf⟩ := zz_ob_i hf
  obtain ⟨v53, h53, hv53, hf⟩ := zz_b1_i hf
  refine zr_cV X hR hl.1 (As := [.int s0, .int (3 : Int32)]) (rest := []) (C := RX10) (T := TX10) (N := 34) (mt_X10_isThrown hT b53 s0 (3 : Int32) h n hv53) rfl ho53 mf_X10_isThrown q_1370 q_1372 qs_17 ⟨Nat.le_of_ble_eq_true rfl, Nat.le_of_ble_eq_true rfl⟩ ⟨Nat.le_of_ble_eq_true rfl, Nat.le_of_ble_eq_true rfl⟩ (by rw [hr53]; rfl) (Nat.le_of_ble_eq_true rfl) dX10_change_53 (fun H locs hR => ?_)
  refine W.eq (g2 := F0 m 56 ls [.int v53]) rfl ?_
  refine lv_if_eq (tgt := 61) hx hb dX10_change_56 (by decide) (fun c56 => ?_) (fun c56 => ?_)
  · replace hf := zz_pos c56 hf
    refine lv_aload_n hx hb dX10_change_61 rfl (lv_at hl 0 rfl) ?_
    refine zr_gq X hR (r := (some a0)) fl_X10_34 dX10_change_62 hf (fun v62 hf => ?_)
    refine lv_iload_n hx hb dX10_change_65 rfl (lv_at hl 1 rfl) ?_
    refine zr_aald X hR (t := 7) (r := v62) (by decide) rfl dX10_change_66 hf (fun v66 hf => ?_)
    refine lv_iload_n hx hb dX10_change_67 rfl (lv_at hl 2 rfl) ?_
    refine lv_bipush (v := (10 : Int32)) hx hb dX10_change_68 (by decide) ?_
    obtain ⟨hne70, hf⟩ := zz_dv_i hf
    refine lv_idiv hx hb dX10_change_70 hne70 ?_
    refine zr_aald X hR (t := 6) (r := v66) (by decide) rfl dX10_change_71 hf (fun v71 hf => ?_)
    refine lv_iload_n hx hb dX10_change_72 rfl (lv_at hl 2 rfl) ?_
    refine lv_bipush (v := (10 : Int32)) hx hb dX10_change_73 (by decide) ?_
    obtain ⟨hne75, hf⟩ := zz_dv_i hf
    refine lv_irem hx hb dX10_change_75 hne75 ?_
    refine zr_iald X hR (r := v71) dX10_change_76 hf (fun v76 hf => ?_)
    refine lv_istore (i := 5) (lv' := [(5, .int v76), (0, .ref a0), (1, .int x1), (2, .int x2), (3, .int x3), (4, .int x4)]) hx hb dX10_change_77 hl (by decide) rfl (fun ls hl => ?_)
    refine lv_aload_n hx hb dX10_change_79 rfl (lv_at hl 1 rfl) ?_
    refine zr_gq X hR (r := (some a0)) fl_X10_34 dX10_change_80 hf (fun v80 hf => ?_)
    refine lv_iload_n hx hb dX10_change_83 rfl (lv_at hl 2 rfl) ?_
    refine zr_aald X hR (t := 7) (r := v80) (by decide) rfl dX10_change_84 hf (fun v84 hf => ?_)
    refine lv_iload_n hx hb dX10_change_85 rfl (lv_at hl 3 rfl) ?_
    refine lv_bipush (v := (10 : Int32)) hx hb dX10_change_86 (by decide) ?_
    obtain ⟨hne88, hf⟩ := zz_dv_i hf
    refine lv_idiv hx hb dX10_change_88 hne88 ?_
    refine zr_aald X hR (t := 6) (r := v84) (by decide) rfl dX10_change_89 hf (fun v89 hf => ?_)
    refine lv_iload_n hx hb dX10_change_90 rfl (lv_at hl 3 rfl) ?_
    refine lv_bipush (v := (10 : Int32)) hx hb dX10_change_91 (by decide) ?_
    obtain ⟨hne93, hf⟩ := zz_dv_i hf
    refine lv_irem hx hb dX10_change_93 hne93 ?_
    refine lv_iload_n hx hb dX10_change_94 rfl (lv_at hl 4 rfl) ?_
    refine zr_iast X hR (r := v89) dX10_change_95 hf (fun h95 H locs hf hR => ?_)
    refine lv_aload_n hx hb dX10_change_96 rfl (lv_at hl 1 rfl) ?_
    refine zr_gq X hR (r := (some a0)) fl_X10_37 dX10_change_97 hf (fun v97 hf => ?_)
    refine lv_iload_n hx hb dX10_change_100 rfl (lv_at hl 2 rfl) ?_
    refine zr_aald X hR (t := 7) (r := v97) (by decide) rfl dX10_change_101 hf (fun v101 hf => ?_)
    refine lv_iload_n hx hb dX10_change_102 rfl (lv_at hl 3 rfl) ?_
    refine lv_bipush (v := (10 : Int32)) hx hb dX10_change_103 (by decide) ?_
    obtain ⟨hne105, hf⟩ := zz_dv_i hf
    refine lv_idiv hx hb dX10_change_105 hne105 ?_
    refine zr_aald X hR (t := 6) (r := v101) (by decide) rfl dX10_change_106 hf (fun v106 hf => ?_)
    refine lv_iload_n hx hb dX10_change_107 rfl (lv_at hl 3 rfl) ?_
    refine lv_bipush (v := (10 : Int32)) hx hb dX10_change_108 (by decide) ?_
    obtain ⟨hne110, hf⟩ := zz_dv_i hf
    refine lv_irem hx hb dX10_change_110 hne110 ?_
    refine lv_iload hx hb dX10_change_111 (lv_at hl 5 rfl) ?_
    refine zr_iast X hR (r := v106) dX10_change_113 hf (fun h113 H locs hf hR => ?_)
    refine lv_iload hx hb dX10_change_114 (lv_at hl 0 rfl) ?_
    cases hf
    exact zr_iret X hR dX10_change_116 (Nat.le_of_ble_eq_true rfl) (Nat.le_of_ble_eq_true rfl)
  · replace hf := zz_neg c56 hf
    exact bk_X10_change_59 X hT hR (lv_sub hl [] rfl) hf
set_option maxHeartbeats 4000000 in
set_option maxRecDepth 100000 in
theorem bk_X10_change_29 {D : va_G} {dA : Nat → ClassId} {base t0 : Nat} {l : Launch} {p : Program} {e : Env} {s : State} {m : MethodId} {args : Array Value} {below : List Frame} {meth : Method} {c : Code} (X : zz_X D dA base t0 "SpringseatModel" cX10_change 6 (some .int) l p s m meth c) (hT : l.stackTraces = false) {a0 : Nat} {x1 : Int32} {x2 : Int32} {x3 : Int32} {x4 : Int32} {s0 : Int32} {s1 : (Option Nat)} {h : zz_H} {n : Nat} {H : Heap} {locs : List Loc} {ls : Array Slot} (hR : zz_R D dA base h n s H locs) (hl : lv_has ls 6 [(0, .ref a0), (1, .int x1), (2, .int x2), (3, .int x3), (4, .int x4)]) {r0 : Int32} {hF : zz_H} (hf : f_X10_change_29 a0 x1 x2 x3 x4 s0 s1 h = some (r0, hF)) : W p l e rm_X10_change s m args below meth c H locs 0 0 (MQ below (zz_Qc D dA base (some (.int r0)) hF n) args s rm_X10_change.cells rm_X10_change.slots (fun q => base ≤ q)) (F0 m 29 ls [.int s0, va_rf s1]) := by
  have hx := X.1
  have hb := X.2.1
  have hown := X.2.2.2.2.1
  unfold f_X10_change_29 at hf
  refine lv_iconst (v := (2 : Int32)) hx hb dX10_change_29 (by decide) ?_
  obtain ⟨b30, fs30, hr30, ho30, hf⟩ := zz_ob_i hf
  obtain ⟨v30, h30, hv30, hf⟩ := zz_b1_i hf
  refine zr_cV X hR hl.1 (As := [.int s0, .int (2 : Int32)]) (rest := []) (C := RX10) (T := TX10) (N := 34) (mt_X10_isThrown hT b30 s0 (2 : Int32) h n hv30) rfl ho30 mf_X10_isThrown q_1370 q_1372 qs_17 ⟨Nat.le_of_ble_eq_true rfl, Nat.le_of_ble_eq_true rfl⟩ ⟨Nat.le_of_ble_eq_true rfl, Nat.le_of_ble_eq_true rfl⟩ (by rw [hr30]; rfl) (Nat.le_of_ble_eq_true rfl) dX10_change_30 (fun H locs hR => ?_)
  refine W.eq (g2 := F0 m 33 ls [.int v30]) rfl ?_
  refine lv_if_ne (tgt := 59) hx hb dX10_change_33 (by decide) (fun c33 => ?_) (fun c33 => ?_)
  · replace hf := zz_neg c33 hf
    exact bk_X10_change_59 X hT hR (lv_sub hl [] rfl) hf
  · replace hf := zz_pos c33 hf
    refine lv_aload_n hx hb dX10_change_36 rfl (lv_at hl 0 rfl) ?_
    refine lv_aload_n hx hb dX10_change_37 rfl (lv_at hl 0 rfl) ?_
    refine lv_iload_n hx hb dX10_change_38 rfl (lv_at hl 1 rfl) ?_
    refine lv_bipush (v := (115 : Int32)) hx hb dX10_change_39 (by decide) ?_
    obtain ⟨fs41, ho41, hf⟩ := zz_obS_i hf
    obtain ⟨v41, hv41, hf⟩ := zz_b_i hf
    refine zr_cV X hR hl.1 (As := [.int x1, .int (115 : Int32)]) (rest := [.ref a0]) (C := RX10) (T := TX10) (N := 34) (mt_X10_isLastOpen hT a0 x1 (115 : Int32) h30 n hv41) rfl ho41 mf_X10_isLastOpen q_1417 q_1419 qs_25 ⟨Nat.le_of_ble_eq_true rfl, Nat.le_of_ble_eq_true rfl⟩ ⟨Nat.le_of_ble_eq_true rfl, Nat.le_of_ble_eq_true rfl⟩ rfl (Nat.le_of_ble_eq_true rfl) dX10_change_41 (fun H locs hR => ?_)
    refine W.eq (g2 := F0 m 44 ls [.int v41, .ref a0]) rfl ?_
    refine lv_if_ne (tgt := 51) hx hb dX10_change_44 (by decide) (fun c44 => ?_) (fun c44 => ?_)
    · replace hf := zz_neg c44 hf
      refine lv_iconst (v := (0 : Int32)) hx hb dX10_change_51 (by decide) ?_
      exact bk_X10_change_52 X hT hR (lv_sub hl [0, 1, 2, 3, 4] rfl) hf
    · replace hf := zz_pos c44 hf
      refine lv_iconst (v := (1 : Int32)) hx hb dX10_change_47 (by decide) ?_
      refine lv_goto (tgt := 52) hx hb dX10_change_48 (by decide) ?_
      exact bk_X10_change_52 X hT hR (lv_sub hl [0, 1, 2, 3, 4] rfl) hf
set_option maxHeartbeats 4000000 in
set_option maxRecDepth 100000 in
theorem mt_X10_change {D : va_G} {dA : Nat → ClassId} {base t0 : Nat} {l : Launch} (hT : l.stackTraces = false) (a0 : Nat) (x1 : Int32) (x2 : Int32) (x3 : Int32) (x4 : Int32) (h : zz_H) (n : Nat) {r0 : Int32} {hF : zz_H} (hf : f_X10_change a0 x1 x2 x3 x4 h = some (r0, hF)) : zz_M D dA base t0 l yX10_change cX10_change 6 (some .int) rm_X10_change [.ref a0, .int x1, .int x2, .int x3, .int x4] h n (some (.int r0)) hF n := by
  refine Met.ofW (cc := cX10_change) (maxL := 6) (ret := (some .int)) (by decide +kernel) rfl ?_
  intro p e s m args below meth c s₁ B hml hv
  obtain ⟨rfl, hP, hK⟩ := hv
  have X : zz_X D dA base t0 "SpringseatModel" cX10_change 6 (some .int) l p s m meth c := ⟨B.exec, B.bytes, hml, B.returns, findClass_of_methodNamed B.named, B.notSynchronized, hT, by rw [hP.1]; exact hP.2.1, hK⟩
  have hx := X.1
  have hb := X.2.1
  have hown := X.2.2.2.2.1
  have hR : zz_R D dA base h n s s.heap [] := ⟨hP, va_S.rf⟩
  have hl := lv_entry ([.ref a0, .int x1, .int x2, .int x3, .int x4]) (n := 6) (by exact Nat.le_of_ble_eq_true rfl)
  rw [lg_entry_eq]
  generalize (lg_sl ([.ref a0, .int x1, .int x2, .int x3, .int x4]) ++ List.replicate (6 - (lg_sl ([.ref a0, .int x1, .int x2, .int x3, .int x4])).length) Slot.unset).toArray = ls at hl ⊢
  have hl : lv_has ls 6 [(0, .ref a0), (1, .int x1), (2, .int x2), (3, .int x3), (4, .int x4)] := hl
  unfold f_X10_change at hf
  refine lv_aload_n hx hb dX10_change_0 rfl (lv_at hl 0 rfl) ?_
  refine lv_aload_n hx hb dX10_change_1 rfl (lv_at hl 0 rfl) ?_
  refine lv_iload_n hx hb dX10_change_2 rfl (lv_at hl 1 rfl) ?_
  refine lv_iload_n hx hb dX10_change_3 rfl (lv_at hl 2 rfl) ?_
  obtain ⟨fs4, ho4, hf⟩ := zz_obS_i hf
  obtain ⟨v4, hv4, hf⟩ := zz_b_i hf
  refine zr_cV X hR hl.1 (As := [.int x1, .int x2]) (rest := [.ref a0]) (C := RX10) (T := TX10) (N := 34) (mt_X10_isNoCell hT a0 x1 x2 h n hv4) rfl ho4 mf_X10_isNoCell q_1413 q_1415 qs_24 ⟨Nat.le_of_ble_eq_true rfl, Nat.le_of_ble_eq_true rfl⟩ ⟨Nat.le_of_ble_eq_true rfl, Nat.le_of_ble_eq_true rfl⟩ rfl (Nat.le_of_ble_eq_true rfl) dX10_change_4 (fun H locs hR => ?_)
  refine W.eq (g2 := F0 m 7 ls [.int v4, .ref a0]) rfl ?_
  refine lv_iconst (v := (1 : Int32)) hx hb dX10_change_7 (by decide) ?_
  obtain ⟨fs8, ho8, hf⟩ := zz_obS_i hf
  obtain ⟨v8, h8, hv8, hf⟩ := zz_b1_i hf
  refine zr_cV X hR hl.1 (As := [.int v4, .int (1 : Int32)]) (rest := []) (C := RX10) (T := TX10) (N := 34) (mt_X10_isThrown hT a0 v4 (1 : Int32) h n hv8) rfl ho8 mf_X10_isThrown q_1370 q_1372 qs_17 ⟨Nat.le_of_ble_eq_true rfl, Nat.le_of_ble_eq_true rfl⟩ ⟨Nat.le_of_ble_eq_true rfl, Nat.le_of_ble_eq_true rfl⟩ rfl (Nat.le_of_ble_eq_true rfl) dX10_change_8 (fun H locs hR => ?_)
  refine W.eq (g2 := F0 m 11 ls [.int v8]) rfl ?_
  refine lv_if_ne (tgt := 59) hx hb dX10_change_11 (by decide) (fun c11 => ?_) (fun c11 => ?_)
  · replace hf := zz_neg c11 hf
    exact bk_X10_change_59 X hT hR (lv_sub hl [] rfl) hf
  · replace hf := zz_pos c11 hf
    refine lv_aload_n hx hb dX10_change_14 rfl (lv_at hl 0 rfl) ?_
    refine lv_iload_n hx hb dX10_change_15 rfl (lv_at hl 3 rfl) ?_
    refine lv_iload hx hb dX10_change_16 (lv_at hl 4 rfl) ?_
    obtain ⟨v18, hv18, hf⟩ := zz_b_i hf
    refine zr_cS X hR hl.1 (As := [.int x3, .int x4]) (rest := [.ref a0]) (mt_X10_isSpring hT x3 x4 h8 n hv18) mf_X10_isSpring q_1402 q_1403 ⟨Nat.le_of_ble_eq_true rfl, Nat.le_of_ble_eq_true rfl⟩ ⟨Nat.le_of_ble_eq_true rfl, Nat.le_of_ble_eq_true rfl⟩ rfl (Nat.le_of_ble_eq_true rfl) dX10_change_18 (fun H locs hR => ?_)
    refine W.eq (g2 := F0 m 21 ls [.int v18, .ref a0]) rfl ?_
    refine lv_if_ne (tgt := 28) hx hb dX10_change_21 (by decide) (fun c21 => ?_) (fun c21 => ?_)
    · replace hf := zz_neg c21 hf
      refine lv_iconst (v := (0 : Int32)) hx hb dX10_change_28 (by decide) ?_
      exact bk_X10_change_29 X hT hR (lv_sub hl [0, 1, 2, 3, 4] rfl) hf
    · replace hf := zz_pos c21 hf
      refine lv_iconst (v := (1 : Int32)) hx hb dX10_change_24 (by decide) ?_
      refine lv_goto (tgt := 29) hx hb dX10_change_25 (by decide) ?_
      exact bk_X10_change_29 X hT hR (lv_sub hl [0, 1, 2, 3, 4] rfl) hf
def rm_X10_tie : Room := { frames := 2, cells := 0, slots := 0, locals := 45 }
theorem mf_X10_tie : zz_Mf yX10_tie cX10_tie 2 (some .int) 1 := ⟨q_1424, q_11, by decide +kernel, by decide +kernel, by decide +kernel⟩
set_option maxHeartbeats 4000000 in
set_option maxRecDepth 100000 in
theorem bk_X10_tie_36 {D : va_G} {dA : Nat → ClassId} {base t0 : Nat} {l : Launch} {p : Program} {e : Env} {s : State} {m : MethodId} {args : Array Value} {below : List Frame} {meth : Method} {c : Code} (X : zz_X D dA base t0 "SpringseatModel" cX10_tie 2 (some .int) l p s m meth c) (hT : l.stackTraces = false) {h : zz_H} {n : Nat} {H : Heap} {locs : List Loc} {ls : Array Slot} (hR : zz_R D dA base h n s H locs) (hl : lv_has ls 2 []) {r0 : Int32} {hF : zz_H} (hf : f_X10_tie_36 h = some (r0, hF)) : W p l e rm_X10_tie s m args below meth c H locs 0 0 (MQ below (zz_Qc D dA base (some (.int r0)) hF n) args s rm_X10_tie.cells rm_X10_tie.slots (fun q => base ≤ q)) (F0 m 36 ls []) := by
  have hx := X.1
  have hb := X.2.1
  have hown := X.2.2.2.2.1
  unfold f_X10_tie_36 at hf
  refine lv_iconst (v := (0 : Int32)) hx hb dX10_tie_36 (by decide) ?_
  cases hf
  exact zr_iret X hR dX10_tie_37 (Nat.le_of_ble_eq_true rfl) (Nat.le_of_ble_eq_true rfl)
set_option maxHeartbeats 4000000 in
set_option maxRecDepth 100000 in
theorem bk_X10_tie_29 {D : va_G} {dA : Nat → ClassId} {base t0 : Nat} {l : Launch} {p : Program} {e : Env} {s : State} {m : MethodId} {args : Array Value} {below : List Frame} {meth : Method} {c : Code} (X : zz_X D dA base t0 "SpringseatModel" cX10_tie 2 (some .int) l p s m meth c) (hT : l.stackTraces = false) {a0 : Nat} {x1 : Int32} {s0 : Int32} {s1 : (Option Nat)} {h : zz_H} {n : Nat} {H : Heap} {locs : List Loc} {ls : Array Slot} (hR : zz_R D dA base h n s H locs) (hl : lv_has ls 2 [(0, .ref a0), (1, .int x1)]) {r0 : Int32} {hF : zz_H} (hf : f_X10_tie_29 a0 x1 s0 s1 h = some (r0, hF)) : W p l e rm_X10_tie s m args below meth c H locs 0 0 (MQ below (zz_Qc D dA base (some (.int r0)) hF n) args s rm_X10_tie.cells rm_X10_tie.slots (fun q => base ≤ q)) (F0 m 29 ls [.int s0, va_rf s1]) := by
  have hx := X.1
  have hb := X.2.1
  have hown := X.2.2.2.2.1
  unfold f_X10_tie_29 at hf
  refine lv_iconst (v := (2 : Int32)) hx hb dX10_tie_29 (by decide) ?_
  obtain ⟨b30, fs30, hr30, ho30, hf⟩ := zz_ob_i hf
  obtain ⟨v30, h30, hv30, hf⟩ := zz_b1_i hf
  refine zr_cV X hR hl.1 (As := [.int s0, .int (2 : Int32)]) (rest := []) (C := RX10) (T := TX10) (N := 34) (mt_X10_isThrown hT b30 s0 (2 : Int32) h n hv30) rfl ho30 mf_X10_isThrown q_1370 q_1372 qs_17 ⟨Nat.le_of_ble_eq_true rfl, Nat.le_of_ble_eq_true rfl⟩ ⟨Nat.le_of_ble_eq_true rfl, Nat.le_of_ble_eq_true rfl⟩ (by rw [hr30]; rfl) (Nat.le_of_ble_eq_true rfl) dX10_tie_30 (fun H locs hR => ?_)
  refine W.eq (g2 := F0 m 33 ls [.int v30]) rfl ?_
  refine lv_if_eq (tgt := 38) hx hb dX10_tie_33 (by decide) (fun c33 => ?_) (fun c33 => ?_)
  · replace hf := zz_pos c33 hf
    refine lv_aload_n hx hb dX10_tie_38 rfl (lv_at hl 0 rfl) ?_
    refine lv_iload_n hx hb dX10_tie_39 rfl (lv_at hl 1 rfl) ?_
    obtain ⟨fs40, ho40, hf⟩ := zz_obS_i hf
    obtain ⟨u40, h40, hv40, hf⟩ := zz_b1_i hf
    refine zr_cV X hR hl.1 (As := [.int x1]) (rest := []) (C := RX10) (T := TX10) (N := 34) (mt_X10_loosen hT a0 x1 h30 n hv40) rfl ho40 mf_X10_loosen q_1405 q_1407 qs_23 ⟨Nat.le_of_ble_eq_true rfl, Nat.le_of_ble_eq_true rfl⟩ ⟨Nat.le_of_ble_eq_true rfl, Nat.le_of_ble_eq_true rfl⟩ rfl (Nat.le_of_ble_eq_true rfl) dX10_tie_40 (fun H locs hR => ?_)
    refine W.eq (g2 := F0 m 43 ls []) rfl ?_
    refine lv_aload_n hx hb dX10_tie_43 rfl (lv_at hl 0 rfl) ?_
    refine lv_iload_n hx hb dX10_tie_44 rfl (lv_at hl 1 rfl) ?_
    refine lv_bipush (v := (116 : Int32)) hx hb dX10_tie_45 (by decide) ?_
    obtain ⟨fs47, ho47, hf⟩ := zz_obS_i hf
    obtain ⟨v47, h47, hv47, hf⟩ := zz_b1_i hf
    refine zr_cV X hR hl.1 (As := [.int x1, .int (116 : Int32)]) (rest := []) (C := RX10) (T := TX10) (N := 34) (mt_X10_done hT a0 x1 (116 : Int32) h40 n hv47) rfl ho47 mf_X10_done q_1394 q_1396 qs_22 ⟨Nat.le_of_ble_eq_true rfl, Nat.le_of_ble_eq_true rfl⟩ ⟨Nat.le_of_ble_eq_true rfl, Nat.le_of_ble_eq_true rfl⟩ rfl (Nat.le_of_ble_eq_true rfl) dX10_tie_47 (fun H locs hR => ?_)
    refine W.eq (g2 := F0 m 50 ls [.int v47]) rfl ?_
    cases hf
    exact zr_iret X hR dX10_tie_50 (Nat.le_of_ble_eq_true rfl) (Nat.le_of_ble_eq_true rfl)
  · replace hf := zz_neg c33 hf
    exact bk_X10_tie_36 X hT hR (lv_sub hl [] rfl) hf
set_option maxHeartbeats 4000000 in
set_option maxRecDepth 100000 in
theorem mt_X10_tie {D : va_G} {dA : Nat → ClassId} {base t0 : Nat} {l : Launch} (hT : l.stackTraces = false) (a0 : Nat) (x1 : Int32) (h : zz_H) (n : Nat) {r0 : Int32} {hF : zz_H} (hf : f_X10_tie a0 x1 h = some (r0, hF)) : zz_M D dA base t0 l yX10_tie cX10_tie 2 (some .int) rm_X10_tie [.ref a0, .int x1] h n (some (.int r0)) hF n := by
  refine Met.ofW (cc := cX10_tie) (maxL := 2) (ret := (some .int)) (by decide +kernel) rfl ?_
  intro p e s m args below meth c s₁ B hml hv
  obtain ⟨rfl, hP, hK⟩ := hv
  have X : zz_X D dA base t0 "SpringseatModel" cX10_tie 2 (some .int) l p s m meth c := ⟨B.exec, B.bytes, hml, B.returns, findClass_of_methodNamed B.named, B.notSynchronized, hT, by rw [hP.1]; exact hP.2.1, hK⟩
  have hx := X.1
  have hb := X.2.1
  have hown := X.2.2.2.2.1
  have hR : zz_R D dA base h n s s.heap [] := ⟨hP, va_S.rf⟩
  have hl := lv_entry ([.ref a0, .int x1]) (n := 2) (by exact Nat.le_of_ble_eq_true rfl)
  rw [lg_entry_eq]
  generalize (lg_sl ([.ref a0, .int x1]) ++ List.replicate (2 - (lg_sl ([.ref a0, .int x1])).length) Slot.unset).toArray = ls at hl ⊢
  have hl : lv_has ls 2 [(0, .ref a0), (1, .int x1)] := hl
  unfold f_X10_tie at hf
  refine lv_aload_n hx hb dX10_tie_0 rfl (lv_at hl 0 rfl) ?_
  refine lv_aload_n hx hb dX10_tie_1 rfl (lv_at hl 0 rfl) ?_
  refine lv_iload_n hx hb dX10_tie_2 rfl (lv_at hl 1 rfl) ?_
  obtain ⟨fs3, ho3, hf⟩ := zz_obS_i hf
  obtain ⟨v3, hv3, hf⟩ := zz_b_i hf
  refine zr_cV X hR hl.1 (As := [.int x1]) (rest := [.ref a0]) (C := RX10) (T := TX10) (N := 34) (mt_X10_isNoSeat hT a0 x1 h n hv3) rfl ho3 mf_X10_isNoSeat q_1378 q_1380 qs_18 ⟨Nat.le_of_ble_eq_true rfl, Nat.le_of_ble_eq_true rfl⟩ ⟨Nat.le_of_ble_eq_true rfl, Nat.le_of_ble_eq_true rfl⟩ rfl (Nat.le_of_ble_eq_true rfl) dX10_tie_3 (fun H locs hR => ?_)
  refine W.eq (g2 := F0 m 6 ls [.int v3, .ref a0]) rfl ?_
  refine lv_iconst (v := (1 : Int32)) hx hb dX10_tie_6 (by decide) ?_
  obtain ⟨fs7, ho7, hf⟩ := zz_obS_i hf
  obtain ⟨v7, h7, hv7, hf⟩ := zz_b1_i hf
  refine zr_cV X hR hl.1 (As := [.int v3, .int (1 : Int32)]) (rest := []) (C := RX10) (T := TX10) (N := 34) (mt_X10_isThrown hT a0 v3 (1 : Int32) h n hv7) rfl ho7 mf_X10_isThrown q_1370 q_1372 qs_17 ⟨Nat.le_of_ble_eq_true rfl, Nat.le_of_ble_eq_true rfl⟩ ⟨Nat.le_of_ble_eq_true rfl, Nat.le_of_ble_eq_true rfl⟩ rfl (Nat.le_of_ble_eq_true rfl) dX10_tie_7 (fun H locs hR => ?_)
  refine W.eq (g2 := F0 m 10 ls [.int v7]) rfl ?_
  refine lv_if_ne (tgt := 36) hx hb dX10_tie_10 (by decide) (fun c10 => ?_) (fun c10 => ?_)
  · replace hf := zz_neg c10 hf
    exact bk_X10_tie_36 X hT hR (lv_sub hl [] rfl) hf
  · replace hf := zz_pos c10 hf
    refine lv_aload_n hx hb dX10_tie_13 rfl (lv_at hl 0 rfl) ?_
    refine lv_aload_n hx hb dX10_tie_14 rfl (lv_at hl 0 rfl) ?_
    refine lv_iload_n hx hb dX10_tie_15 rfl (lv_at hl 1 rfl) ?_
    refine lv_bipush (v := (116 : Int32)) hx hb dX10_tie_16 (by decide) ?_
    obtain ⟨fs18, ho18, hf⟩ := zz_obS_i hf
    obtain ⟨v18, hv18, hf⟩ := zz_b_i hf
    refine zr_cV X hR hl.1 (As := [.int x1, .int (116 : Int32)]) (rest := [.ref a0]) (C := RX10) (T := TX10) (N := 34) (mt_X10_mayCome hT a0 x1 (116 : Int32) h7 n hv18) rfl ho18 mf_X10_mayCome q_1382 q_1384 qs_19 ⟨Nat.le_of_ble_eq_true rfl, Nat.le_of_ble_eq_true rfl⟩ ⟨Nat.le_of_ble_eq_true rfl, Nat.le_of_ble_eq_true rfl⟩ rfl (Nat.le_of_ble_eq_true rfl) dX10_tie_18 (fun H locs hR => ?_)
    refine W.eq (g2 := F0 m 21 ls [.int v18, .ref a0]) rfl ?_
    refine lv_if_ne (tgt := 28) hx hb dX10_tie_21 (by decide) (fun c21 => ?_) (fun c21 => ?_)
    · replace hf := zz_neg c21 hf
      refine lv_iconst (v := (0 : Int32)) hx hb dX10_tie_28 (by decide) ?_
      exact bk_X10_tie_29 X hT hR (lv_sub hl [0, 1] rfl) hf
    · replace hf := zz_pos c21 hf
      refine lv_iconst (v := (1 : Int32)) hx hb dX10_tie_24 (by decide) ?_
      refine lv_goto (tgt := 29) hx hb dX10_tie_25 (by decide) ?_
      exact bk_X10_tie_29 X hT hR (lv_sub hl [0, 1] rfl) hf
def rm_X10_hasSprings : Room := { frames := 0, cells := 0, slots := 0, locals := 0 }
theorem mf_X10_hasSprings : zz_Mf yX10_hasSprings cX10_hasSprings 2 (some .boolean) 1 := ⟨q_1440, q_11, by decide +kernel, by decide +kernel, by decide +kernel⟩
set_option maxHeartbeats 4000000 in
set_option maxRecDepth 100000 in
theorem bk_X10_hasSprings_15 {D : va_G} {dA : Nat → ClassId} {base t0 : Nat} {l : Launch} {p : Program} {e : Env} {s : State} {m : MethodId} {args : Array Value} {below : List Frame} {meth : Method} {c : Code} (X : zz_X D dA base t0 "SpringseatModel" cX10_hasSprings 2 (some .boolean) l p s m meth c) (hT : l.stackTraces = false) {s0 : Int32} {h : zz_H} {n : Nat} {H : Heap} {locs : List Loc} {ls : Array Slot} (hR : zz_R D dA base h n s H locs) (hl : lv_has ls 2 []) {r0 : Int32} (hf : f_X10_hasSprings_15 s0 h = some r0) : W p l e rm_X10_hasSprings s m args below meth c H locs 0 0 (MQ below (zz_Qc D dA base (some (.int r0)) h n) args s rm_X10_hasSprings.cells rm_X10_hasSprings.slots (fun q => base ≤ q)) (F0 m 15 ls [.int s0]) := by
  have hx := X.1
  have hb := X.2.1
  have hown := X.2.2.2.2.1
  unfold f_X10_hasSprings_15 at hf
  obtain ⟨hz15, hf⟩ := zz_gz_i hf
  cases hf
  exact zr_zret X hR (zz_nz hz15) dX10_hasSprings_15 (Nat.le_of_ble_eq_true rfl) (Nat.le_of_ble_eq_true rfl)
set_option maxHeartbeats 4000000 in
set_option maxRecDepth 100000 in
theorem mt_X10_hasSprings {D : va_G} {dA : Nat → ClassId} {base t0 : Nat} {l : Launch} (hT : l.stackTraces = false) (a0 : Nat) (x1 : Int32) (h : zz_H) (n : Nat) {r0 : Int32} (hf : f_X10_hasSprings a0 x1 h = some r0) : zz_M D dA base t0 l yX10_hasSprings cX10_hasSprings 2 (some .boolean) rm_X10_hasSprings [.ref a0, .int x1] h n (some (.int r0)) h n := by
  refine Met.ofW (cc := cX10_hasSprings) (maxL := 2) (ret := (some .boolean)) (by decide +kernel) rfl ?_
  intro p e s m args below meth c s₁ B hml hv
  obtain ⟨rfl, hP, hK⟩ := hv
  have X : zz_X D dA base t0 "SpringseatModel" cX10_hasSprings 2 (some .boolean) l p s m meth c := ⟨B.exec, B.bytes, hml, B.returns, findClass_of_methodNamed B.named, B.notSynchronized, hT, by rw [hP.1]; exact hP.2.1, hK⟩
  have hx := X.1
  have hb := X.2.1
  have hown := X.2.2.2.2.1
  have hR : zz_R D dA base h n s s.heap [] := ⟨hP, va_S.rf⟩
  have hl := lv_entry ([.ref a0, .int x1]) (n := 2) (by exact Nat.le_of_ble_eq_true rfl)
  rw [lg_entry_eq]
  generalize (lg_sl ([.ref a0, .int x1]) ++ List.replicate (2 - (lg_sl ([.ref a0, .int x1])).length) Slot.unset).toArray = ls at hl ⊢
  have hl : lv_has ls 2 [(0, .ref a0), (1, .int x1)] := hl
  unfold f_X10_hasSprings at hf
  refine lv_aload_n hx hb dX10_hasSprings_0 rfl (lv_at hl 0 rfl) ?_
  refine zr_gq X hR (r := (some a0)) fl_X10_16 dX10_hasSprings_1 hf (fun v1 hf => ?_)
  refine lv_iload_n hx hb dX10_hasSprings_4 rfl (lv_at hl 1 rfl) ?_
  refine zr_iald X hR (r := v1) dX10_hasSprings_5 hf (fun v5 hf => ?_)
  refine lv_iconst (v := (1 : Int32)) hx hb dX10_hasSprings_6 (by decide) ?_
  refine lv_icmp_le (tgt := 14) hx hb dX10_hasSprings_7 (by decide) (fun c7 => ?_) (fun c7 => ?_)
  · replace hf := zz_pos c7 hf
    refine lv_iconst (v := (0 : Int32)) hx hb dX10_hasSprings_14 (by decide) ?_
    exact bk_X10_hasSprings_15 X hT hR (lv_sub hl [] rfl) hf
  · replace hf := zz_neg c7 hf
    refine lv_iconst (v := (1 : Int32)) hx hb dX10_hasSprings_10 (by decide) ?_
    refine lv_goto (tgt := 15) hx hb dX10_hasSprings_11 (by decide) ?_
    exact bk_X10_hasSprings_15 X hT hR (lv_sub hl [] rfl) hf
def rm_X10_standsAt : Room := { frames := 1, cells := 0, slots := 0, locals := 21 }
theorem mf_X10_standsAt : zz_Mf yX10_standsAt cX10_standsAt 4 (some .int) 3 := ⟨q_1436, q_11, by decide +kernel, by decide +kernel, by decide +kernel⟩
set_option maxHeartbeats 4000000 in
set_option maxRecDepth 100000 in
theorem bk_X10_standsAt_44 {D : va_G} {dA : Nat → ClassId} {base t0 : Nat} {l : Launch} {p : Program} {e : Env} {s : State} {m : MethodId} {args : Array Value} {below : List Frame} {meth : Method} {c : Code} (X : zz_X D dA base t0 "SpringseatModel" cX10_standsAt 4 (some .int) l p s m meth c) (hT : l.stackTraces = false) {s0 : Int32} {h : zz_H} {n : Nat} {H : Heap} {locs : List Loc} {ls : Array Slot} (hR : zz_R D dA base h n s H locs) (hl : lv_has ls 4 []) {r0 : Int32} (hf : f_X10_standsAt_44 s0 h = some r0) : W p l e rm_X10_standsAt s m args below meth c H locs 0 0 (MQ below (zz_Qc D dA base (some (.int r0)) h n) args s rm_X10_standsAt.cells rm_X10_standsAt.slots (fun q => base ≤ q)) (F0 m 44 ls [.int s0]) := by
  have hx := X.1
  have hb := X.2.1
  have hown := X.2.2.2.2.1
  unfold f_X10_standsAt_44 at hf
  cases hf
  exact zr_iret X hR dX10_standsAt_44 (Nat.le_of_ble_eq_true rfl) (Nat.le_of_ble_eq_true rfl)
set_option maxHeartbeats 4000000 in
set_option maxRecDepth 100000 in
theorem mt_X10_standsAt {D : va_G} {dA : Nat → ClassId} {base t0 : Nat} {l : Launch} (hT : l.stackTraces = false) (a0 : Nat) (x1 : Int32) (x2 : Int32) (x3 : Int32) (h : zz_H) (n : Nat) {r0 : Int32} (hf : f_X10_standsAt a0 x1 x2 x3 h = some r0) : zz_M D dA base t0 l yX10_standsAt cX10_standsAt 4 (some .int) rm_X10_standsAt [.ref a0, .int x1, .int x2, .int x3] h n (some (.int r0)) h n := by
  refine Met.ofW (cc := cX10_standsAt) (maxL := 4) (ret := (some .int)) (by decide +kernel) rfl ?_
  intro p e s m args below meth c s₁ B hml hv
  obtain ⟨rfl, hP, hK⟩ := hv
  have X : zz_X D dA base t0 "SpringseatModel" cX10_standsAt 4 (some .int) l p s m meth c := ⟨B.exec, B.bytes, hml, B.returns, findClass_of_methodNamed B.named, B.notSynchronized, hT, by rw [hP.1]; exact hP.2.1, hK⟩
  have hx := X.1
  have hb := X.2.1
  have hown := X.2.2.2.2.1
  have hR : zz_R D dA base h n s s.heap [] := ⟨hP, va_S.rf⟩
  have hl := lv_entry ([.ref a0, .int x1, .int x2, .int x3]) (n := 4) (by exact Nat.le_of_ble_eq_true rfl)
  rw [lg_entry_eq]
  generalize (lg_sl ([.ref a0, .int x1, .int x2, .int x3]) ++ List.replicate (4 - (lg_sl ([.ref a0, .int x1, .int x2, .int x3])).length) Slot.unset).toArray = ls at hl ⊢
  have hl : lv_has ls 4 [(0, .ref a0), (1, .int x1), (2, .int x2), (3, .int x3)] := hl
  unfold f_X10_standsAt at hf
  refine lv_aload_n hx hb dX10_standsAt_0 rfl (lv_at hl 0 rfl) ?_
  refine lv_iload_n hx hb dX10_standsAt_1 rfl (lv_at hl 1 rfl) ?_
  obtain ⟨fs2, ho2, hf⟩ := zz_obS_i hf
  obtain ⟨v2, hv2, hf⟩ := zz_b_i hf
  refine zr_cV X hR hl.1 (As := [.int x1]) (rest := []) (C := RX10) (T := TX10) (N := 34) (mt_X10_hasSprings hT a0 x1 h n hv2) rfl ho2 mf_X10_hasSprings q_1437 q_1439 qs_28 ⟨Nat.le_of_ble_eq_true rfl, Nat.le_of_ble_eq_true rfl⟩ ⟨Nat.le_of_ble_eq_true rfl, Nat.le_of_ble_eq_true rfl⟩ rfl (Nat.le_of_ble_eq_true rfl) dX10_standsAt_2 (fun H locs hR => ?_)
  refine W.eq (g2 := F0 m 5 ls [.int v2]) rfl ?_
  refine lv_if_eq (tgt := 43) hx hb dX10_standsAt_5 (by decide) (fun c5 => ?_) (fun c5 => ?_)
  · replace hf := zz_pos c5 hf
    refine lv_iconst (v := (0 : Int32)) hx hb dX10_standsAt_43 (by decide) ?_
    exact bk_X10_standsAt_44 X hT hR (lv_sub hl [] rfl) hf
  · replace hf := zz_neg c5 hf
    refine lv_aload_n hx hb dX10_standsAt_8 rfl (lv_at hl 0 rfl) ?_
    refine zr_gq X hR (r := (some a0)) fl_X10_34 dX10_standsAt_9 hf (fun v9 hf => ?_)
    refine lv_iload_n hx hb dX10_standsAt_12 rfl (lv_at hl 1 rfl) ?_
    refine zr_aald X hR (t := 7) (r := v9) (by decide) rfl dX10_standsAt_13 hf (fun v13 hf => ?_)
    refine lv_iload_n hx hb dX10_standsAt_14 rfl (lv_at hl 2 rfl) ?_
    refine zr_aald X hR (t := 6) (r := v13) (by decide) rfl dX10_standsAt_15 hf (fun v15 hf => ?_)
    refine lv_iload_n hx hb dX10_standsAt_16 rfl (lv_at hl 3 rfl) ?_
    refine zr_iald X hR (r := v15) dX10_standsAt_17 hf (fun v17 hf => ?_)
    refine lv_aload_n hx hb dX10_standsAt_18 rfl (lv_at hl 0 rfl) ?_
    refine zr_gq X hR (r := (some a0)) fl_X10_42 dX10_standsAt_19 hf (fun v19 hf => ?_)
    refine lv_iload_n hx hb dX10_standsAt_22 rfl (lv_at hl 1 rfl) ?_
    refine zr_aald X hR (t := 6) (r := v19) (by decide) rfl dX10_standsAt_23 hf (fun v23 hf => ?_)
    refine lv_iload_n hx hb dX10_standsAt_24 rfl (lv_at hl 2 rfl) ?_
    refine zr_iald X hR (r := v23) dX10_standsAt_25 hf (fun v25 hf => ?_)
    refine lv_aload_n hx hb dX10_standsAt_26 rfl (lv_at hl 0 rfl) ?_
    refine zr_gq X hR (r := (some a0)) fl_X10_45 dX10_standsAt_27 hf (fun v27 hf => ?_)
    refine lv_iload_n hx hb dX10_standsAt_30 rfl (lv_at hl 1 rfl) ?_
    refine zr_aald X hR (t := 6) (r := v27) (by decide) rfl dX10_standsAt_31 hf (fun v31 hf => ?_)
    refine lv_iload_n hx hb dX10_standsAt_32 rfl (lv_at hl 3 rfl) ?_
    refine zr_iald X hR (r := v31) dX10_standsAt_33 hf (fun v33 hf => ?_)
    refine zr_min X hl.1 q_1441 q_146 q_8 q_147 (Nat.le_of_ble_eq_true rfl) ⟨Nat.le_of_ble_eq_true rfl, Nat.le_of_ble_eq_true rfl⟩ ⟨Nat.le_of_ble_eq_true rfl, Nat.le_of_ble_eq_true rfl⟩ dX10_standsAt_34 ?_
    refine W.eq (g2 := F0 m 37 ls [.int (zz_min v25 v33), .int v17]) rfl ?_
    refine zr_min X hl.1 q_1441 q_146 q_8 q_147 (Nat.le_of_ble_eq_true rfl) ⟨Nat.le_of_ble_eq_true rfl, Nat.le_of_ble_eq_true rfl⟩ ⟨Nat.le_of_ble_eq_true rfl, Nat.le_of_ble_eq_true rfl⟩ dX10_standsAt_37 ?_
    refine W.eq (g2 := F0 m 40 ls [.int (zz_min v17 (zz_min v25 v33))]) rfl ?_
    refine lv_goto (tgt := 44) hx hb dX10_standsAt_40 (by decide) ?_
    exact bk_X10_standsAt_44 X hT hR (lv_sub hl [] rfl) hf
def rm_X10_standing : Room := { frames := 2, cells := 0, slots := 0, locals := 44 }
theorem mf_X10_standing : zz_Mf yX10_standing cX10_standing 5 (some .int) 1 := ⟨q_1432, q_11, by decide +kernel, by decide +kernel, by decide +kernel⟩
set_option maxHeartbeats 4000000 in
set_option maxRecDepth 100000 in
theorem bk_X10_standing_17 {D : va_G} {dA : Nat → ClassId} {base t0 : Nat} {l : Launch} {p : Program} {e : Env} {s : State} {m : MethodId} {args : Array Value} {below : List Frame} {meth : Method} {c : Code} (X : zz_X D dA base t0 "SpringseatModel" cX10_standing 5 (some .int) l p s m meth c) (hT : l.stackTraces = false) {a0 : Nat} {x1 : Int32} {x2 : Int32} {x3 : Int32} {x4 : Int32} {h : zz_H} {n : Nat} {H : Heap} {locs : List Loc} {ls : Array Slot} (hR : zz_R D dA base h n s H locs) (hl : lv_has ls 5 [(0, .ref a0), (1, .int x1), (2, .int x2), (3, .int x3), (4, .int x4)]) {r0 : Int32} {o : ((Int32 × Int32) ⊕ ((Int32 × Int32) ⊕ Int32))} (hf : f_X10_standing_17 a0 x1 x2 x3 x4 h = some o) (k0 : ∀ (w2 : Int32) (w3 : Int32), o = (.inr (.inl (w2, w3))) → ∀ {H : Heap} {locs : List Loc} {ls : Array Slot}, zz_R D dA base h n s H locs → lv_has ls 5 [(0, .ref a0), (1, .int x1), (2, .int w2), (3, .int w3)] → W p l e rm_X10_standing s m args below meth c H locs 0 0 (MQ below (zz_Qc D dA base (some (.int r0)) h n) args s rm_X10_standing.cells rm_X10_standing.slots (fun q => base ≤ q)) (F0 m 4 ls [])) (k1 : ∀ (w2 : Int32) (w4 : Int32), o = (.inl (w2, w4)) → ∀ {H : Heap} {locs : List Loc} {ls : Array Slot}, zz_R D dA base h n s H locs → lv_has ls 5 [(0, .ref a0), (1, .int x1), (2, .int w2), (3, .int x3), (4, .int w4)] → W p l e rm_X10_standing s m args below meth c H locs 0 0 (MQ below (zz_Qc D dA base (some (.int r0)) h n) args s rm_X10_standing.cells rm_X10_standing.slots (fun q => base ≤ q)) (F0 m 17 ls [])) (hret : ∀ r, o = (.inr (.inr r)) → r = r0) : W p l e rm_X10_standing s m args below meth c H locs 0 0 (MQ below (zz_Qc D dA base (some (.int r0)) h n) args s rm_X10_standing.cells rm_X10_standing.slots (fun q => base ≤ q)) (F0 m 17 ls []) := by
  have hx := X.1
  have hb := X.2.1
  have hown := X.2.2.2.2.1
  unfold f_X10_standing_17 at hf
  refine lv_iload hx hb dX10_standing_17 (lv_at hl 4 rfl) ?_
  refine lv_aload_n hx hb dX10_standing_19 rfl (lv_at hl 0 rfl) ?_
  refine zr_gq X hR (r := (some a0)) fl_X10_13 dX10_standing_20 hf (fun v20 hf => ?_)
  refine lv_iload_n hx hb dX10_standing_23 rfl (lv_at hl 1 rfl) ?_
  refine zr_iald X hR (r := v20) dX10_standing_24 hf (fun v24 hf => ?_)
  refine lv_icmp_ge (tgt := 45) hx hb dX10_standing_25 (by decide) (fun c25 => ?_) (fun c25 => ?_)
  · replace hf := zz_pos c25 hf
    refine lv_iinc (i := 3) (v := (x3 + (1 : Int32))) (lv' := [(3, .int (x3 + (1 : Int32))), (0, .ref a0), (1, .int x1), (2, .int x2), (4, .int x4)]) hx hb dX10_standing_45 hl (k := 3) rfl rfl (by decide) rfl (fun ls hl => ?_)
    refine lv_goto (tgt := 4) hx hb dX10_standing_48 (by decide) ?_
    cases hf
    exact k0 _ _ rfl hR (lv_sub hl [1, 2, 3, 0] rfl)
  · replace hf := zz_neg c25 hf
    refine lv_iload_n hx hb dX10_standing_28 rfl (lv_at hl 2 rfl) ?_
    refine lv_aload_n hx hb dX10_standing_29 rfl (lv_at hl 0 rfl) ?_
    refine lv_iload_n hx hb dX10_standing_30 rfl (lv_at hl 1 rfl) ?_
    refine lv_iload_n hx hb dX10_standing_31 rfl (lv_at hl 3 rfl) ?_
    refine lv_iload hx hb dX10_standing_32 (lv_at hl 4 rfl) ?_
    obtain ⟨fs34, ho34, hf⟩ := zz_obS_i hf
    obtain ⟨v34, hv34, hf⟩ := zz_b_i hf
    refine zr_cV X hR hl.1 (As := [.int x1, .int x3, .int x4]) (rest := [.int x2]) (C := RX10) (T := TX10) (N := 34) (mt_X10_standsAt hT a0 x1 x3 x4 h n hv34) rfl ho34 mf_X10_standsAt q_1433 q_1435 qs_27 ⟨Nat.le_of_ble_eq_true rfl, Nat.le_of_ble_eq_true rfl⟩ ⟨Nat.le_of_ble_eq_true rfl, Nat.le_of_ble_eq_true rfl⟩ rfl (Nat.le_of_ble_eq_true rfl) dX10_standing_34 (fun H locs hR => ?_)
    refine W.eq (g2 := F0 m 37 ls [.int v34, .int x2]) rfl ?_
    refine lv_iadd hx hb dX10_standing_37 ?_
    refine lv_istore_n (i := 2) (lv' := [(2, .int (x2 + v34)), (0, .ref a0), (1, .int x1), (3, .int x3), (4, .int x4)]) hx hb dX10_standing_38 rfl hl (by decide) rfl (fun ls hl => ?_)
    refine lv_iinc (i := 4) (v := (x4 + (1 : Int32))) (lv' := [(4, .int (x4 + (1 : Int32))), (2, .int (x2 + v34)), (0, .ref a0), (1, .int x1), (3, .int x3)]) hx hb dX10_standing_39 hl (k := 4) rfl rfl (by decide) rfl (fun ls hl => ?_)
    refine lv_goto (tgt := 17) hx hb dX10_standing_42 (by decide) ?_
    cases hf
    exact k1 _ _ rfl hR (lv_sub hl [2, 3, 1, 4, 0] rfl)
set_option maxHeartbeats 4000000 in
set_option maxRecDepth 100000 in
theorem lp_X10_standing_17 {D : va_G} {dA : Nat → ClassId} {base t0 : Nat} {l : Launch} {p : Program} {e : Env} {s : State} {m : MethodId} {args : Array Value} {below : List Frame} {meth : Method} {c : Code} (X : zz_X D dA base t0 "SpringseatModel" cX10_standing 5 (some .int) l p s m meth c) (hT : l.stackTraces = false) (a0 : Nat) (x1 : Int32) (x3 : Int32) {h : zz_H} {n : Nat} {r0 : Int32} : ∀ (k : Nat) (x2 : Int32) (x4 : Int32) {o : ((Int32 × Int32) ⊕ Int32)}, zz_it (fun s : (Int32 × Int32) => f_X10_standing_17 a0 x1 s.1 x3 s.2 h) k (x2, x4) = some o → (∀ (w2 : Int32) (w3 : Int32), o = (.inl (w2, w3)) → ∀ {H : Heap} {locs : List Loc} {ls : Array Slot}, zz_R D dA base h n s H locs → lv_has ls 5 [(0, .ref a0), (1, .int x1), (2, .int w2), (3, .int w3)] → W p l e rm_X10_standing s m args below meth c H locs 0 0 (MQ below (zz_Qc D dA base (some (.int r0)) h n) args s rm_X10_standing.cells rm_X10_standing.slots (fun q => base ≤ q)) (F0 m 4 ls [])) → (∀ r, o = (.inr r) → r = r0) → ∀ {H : Heap} {locs : List Loc} {ls : Array Slot}, zz_R D dA base h n s H locs → lv_has ls 5 [(0, .ref a0), (1, .int x1), (2, .int x2), (3, .int x3), (4, .int x4)] → W p l e rm_X10_standing s m args below meth c H locs 0 0 (MQ below (zz_Qc D dA base (some (.int r0)) h n) args s rm_X10_standing.cells rm_X10_standing.slots (fun q => base ≤ q)) (F0 m 17 ls []) := by
  intro k
  induction k with
  | zero => intro x2 x4 o hf _ _; cases hf
  | succ k ih =>
    intro x2 x4 o hf k0 hret H locs ls hR hl
    rcases zz_it_s hf with ⟨⟨y0, y1⟩, h1, h2⟩ | h1
    · exact bk_X10_standing_17 (r0 := r0) X hT hR hl h1 (fun z0 z1 e => by cases e) (fun z0 z1 e => by cases e; exact ih _ _ h2 k0 hret) (fun r e => by cases e)
    · exact bk_X10_standing_17 (r0 := r0) X hT hR hl h1 (fun z0 z1 e => k0 z0 z1 (Sum.inr.inj e)) (fun z0 z1 e => by cases e) (fun r e => hret r (Sum.inr.inj e))
set_option maxHeartbeats 4000000 in
set_option maxRecDepth 100000 in
theorem bk_X10_standing_4 {D : va_G} {dA : Nat → ClassId} {base t0 : Nat} {l : Launch} {p : Program} {e : Env} {s : State} {m : MethodId} {args : Array Value} {below : List Frame} {meth : Method} {c : Code} (X : zz_X D dA base t0 "SpringseatModel" cX10_standing 5 (some .int) l p s m meth c) (hT : l.stackTraces = false) {a0 : Nat} {x1 : Int32} {x2 : Int32} {x3 : Int32} {h : zz_H} {n : Nat} {H : Heap} {locs : List Loc} {ls : Array Slot} (hR : zz_R D dA base h n s H locs) (hl : lv_has ls 5 [(0, .ref a0), (1, .int x1), (2, .int x2), (3, .int x3)]) {r0 : Int32} {o : ((Int32 × Int32) ⊕ Int32)} (hf : f_X10_standing_4 a0 x1 x2 x3 h = some o) (k0 : ∀ (w2 : Int32) (w3 : Int32), o = (.inl (w2, w3)) → ∀ {H : Heap} {locs : List Loc} {ls : Array Slot}, zz_R D dA base h n s H locs → lv_has ls 5 [(0, .ref a0), (1, .int x1), (2, .int w2), (3, .int w3)] → W p l e rm_X10_standing s m args below meth c H locs 0 0 (MQ below (zz_Qc D dA base (some (.int r0)) h n) args s rm_X10_standing.cells rm_X10_standing.slots (fun q => base ≤ q)) (F0 m 4 ls [])) (hret : ∀ r, o = (.inr r) → r = r0) : W p l e rm_X10_standing s m args below meth c H locs 0 0 (MQ below (zz_Qc D dA base (some (.int r0)) h n) args s rm_X10_standing.cells rm_X10_standing.slots (fun q => base ≤ q)) (F0 m 4 ls []) := by
  have hx := X.1
  have hb := X.2.1
  have hown := X.2.2.2.2.1
  unfold f_X10_standing_4 at hf
  refine lv_iload_n hx hb dX10_standing_4 rfl (lv_at hl 3 rfl) ?_
  refine lv_aload_n hx hb dX10_standing_5 rfl (lv_at hl 0 rfl) ?_
  refine zr_gq X hR (r := (some a0)) fl_X10_9 dX10_standing_6 hf (fun v6 hf => ?_)
  refine lv_iload_n hx hb dX10_standing_9 rfl (lv_at hl 1 rfl) ?_
  refine zr_iald X hR (r := v6) dX10_standing_10 hf (fun v10 hf => ?_)
  refine lv_icmp_ge (tgt := 51) hx hb dX10_standing_11 (by decide) (fun c11 => ?_) (fun c11 => ?_)
  · replace hf := zz_pos c11 hf
    refine lv_iload_n hx hb dX10_standing_51 rfl (lv_at hl 2 rfl) ?_
    cases hf
    cases hret _ rfl
    exact zr_iret X hR dX10_standing_52 (Nat.le_of_ble_eq_true rfl) (Nat.le_of_ble_eq_true rfl)
  · replace hf := zz_neg c11 hf
    refine lv_iconst (v := (0 : Int32)) hx hb dX10_standing_14 (by decide) ?_
    refine lv_istore (i := 4) (lv' := [(4, .int (0 : Int32)), (0, .ref a0), (1, .int x1), (2, .int x2), (3, .int x3)]) hx hb dX10_standing_15 hl (by decide) rfl (fun ls hl => ?_)
    exact lp_X10_standing_17 X hT a0 x1 x3 zz_F _ _ hf k0 hret hR (lv_sub hl [1, 2, 3, 4, 0] rfl)
set_option maxHeartbeats 4000000 in
set_option maxRecDepth 100000 in
theorem lp_X10_standing_4 {D : va_G} {dA : Nat → ClassId} {base t0 : Nat} {l : Launch} {p : Program} {e : Env} {s : State} {m : MethodId} {args : Array Value} {below : List Frame} {meth : Method} {c : Code} (X : zz_X D dA base t0 "SpringseatModel" cX10_standing 5 (some .int) l p s m meth c) (hT : l.stackTraces = false) (a0 : Nat) (x1 : Int32) {h : zz_H} {n : Nat} {r0 : Int32} : ∀ (k : Nat) (x2 : Int32) (x3 : Int32), zz_it (fun s : (Int32 × Int32) => f_X10_standing_4 a0 x1 s.1 s.2 h) k (x2, x3) = some r0 → ∀ {H : Heap} {locs : List Loc} {ls : Array Slot}, zz_R D dA base h n s H locs → lv_has ls 5 [(0, .ref a0), (1, .int x1), (2, .int x2), (3, .int x3)] → W p l e rm_X10_standing s m args below meth c H locs 0 0 (MQ below (zz_Qc D dA base (some (.int r0)) h n) args s rm_X10_standing.cells rm_X10_standing.slots (fun q => base ≤ q)) (F0 m 4 ls []) := by
  intro k
  induction k with
  | zero => intro x2 x3 hf; cases hf
  | succ k ih =>
    intro x2 x3 hf H locs ls hR hl
    rcases zz_it_s hf with ⟨⟨y0, y1⟩, h1, h2⟩ | h1
    · exact bk_X10_standing_4 (r0 := r0) X hT hR hl h1  (fun z0 z1 e => by cases e; exact ih _ _ h2) (fun r e => by cases e)
    · exact bk_X10_standing_4 (r0 := r0) X hT hR hl h1  (fun z0 z1 e => by cases e) (fun r e => (Sum.inr.inj e).symm)
set_option maxHeartbeats 4000000 in
set_option maxRecDepth 100000 in
theorem mt_X10_standing {D : va_G} {dA : Nat → ClassId} {base t0 : Nat} {l : Launch} (hT : l.stackTraces = false) (a0 : Nat) (x1 : Int32) (h : zz_H) (n : Nat) {r0 : Int32} (hf : f_X10_standing a0 x1 h = some r0) : zz_M D dA base t0 l yX10_standing cX10_standing 5 (some .int) rm_X10_standing [.ref a0, .int x1] h n (some (.int r0)) h n := by
  refine Met.ofW (cc := cX10_standing) (maxL := 5) (ret := (some .int)) (by decide +kernel) rfl ?_
  intro p e s m args below meth c s₁ B hml hv
  obtain ⟨rfl, hP, hK⟩ := hv
  have X : zz_X D dA base t0 "SpringseatModel" cX10_standing 5 (some .int) l p s m meth c := ⟨B.exec, B.bytes, hml, B.returns, findClass_of_methodNamed B.named, B.notSynchronized, hT, by rw [hP.1]; exact hP.2.1, hK⟩
  have hx := X.1
  have hb := X.2.1
  have hown := X.2.2.2.2.1
  have hR : zz_R D dA base h n s s.heap [] := ⟨hP, va_S.rf⟩
  have hl := lv_entry ([.ref a0, .int x1]) (n := 5) (by exact Nat.le_of_ble_eq_true rfl)
  rw [lg_entry_eq]
  generalize (lg_sl ([.ref a0, .int x1]) ++ List.replicate (5 - (lg_sl ([.ref a0, .int x1])).length) Slot.unset).toArray = ls at hl ⊢
  have hl : lv_has ls 5 [(0, .ref a0), (1, .int x1)] := hl
  unfold f_X10_standing at hf
  refine lv_iconst (v := (0 : Int32)) hx hb dX10_standing_0 (by decide) ?_
  refine lv_istore_n (i := 2) (lv' := [(2, .int (0 : Int32)), (0, .ref a0), (1, .int x1)]) hx hb dX10_standing_1 rfl hl (by decide) rfl (fun ls hl => ?_)
  refine lv_iconst (v := (0 : Int32)) hx hb dX10_standing_2 (by decide) ?_
  refine lv_istore_n (i := 3) (lv' := [(3, .int (0 : Int32)), (2, .int (0 : Int32)), (0, .ref a0), (1, .int x1)]) hx hb dX10_standing_3 rfl hl (by decide) rfl (fun ls hl => ?_)
  exact lp_X10_standing_4 X hT a0 x1 zz_F _ _ hf hR (lv_sub hl [2, 3, 1, 0] rfl)
def rm_X10_pull : Room := { frames := 3, cells := 0, slots := 0, locals := 68 }
theorem mf_X10_pull : zz_Mf yX10_pull cX10_pull 6 (some .int) 4 := ⟨q_1428, q_11, by decide +kernel, by decide +kernel, by decide +kernel⟩
set_option maxHeartbeats 4000000 in
set_option maxRecDepth 100000 in
theorem bk_X10_pull_136 {D : va_G} {dA : Nat → ClassId} {base t0 : Nat} {l : Launch} {p : Program} {e : Env} {s : State} {m : MethodId} {args : Array Value} {below : List Frame} {meth : Method} {c : Code} (X : zz_X D dA base t0 "SpringseatModel" cX10_pull 6 (some .int) l p s m meth c) (hT : l.stackTraces = false) {a0 : Nat} {x1 : Int32} {x5 : Int32} {h : zz_H} {n : Nat} {H : Heap} {locs : List Loc} {ls : Array Slot} (hR : zz_R D dA base h n s H locs) (hl : lv_has ls 6 [(0, .ref a0), (1, .int x1), (5, .int x5)]) {r0 : Int32} {hF : zz_H} (hf : f_X10_pull_136 a0 x1 x5 h = some (r0, hF)) : W p l e rm_X10_pull s m args below meth c H locs 0 0 (MQ below (zz_Qc D dA base (some (.int r0)) hF n) args s rm_X10_pull.cells rm_X10_pull.slots (fun q => base ≤ q)) (F0 m 136 ls []) := by
  have hx := X.1
  have hb := X.2.1
  have hown := X.2.2.2.2.1
  unfold f_X10_pull_136 at hf
  refine lv_iload hx hb dX10_pull_136 (lv_at hl 2 rfl) ?_
  refine lv_aload_n hx hb dX10_pull_138 rfl (lv_at hl 0 rfl) ?_
  refine lv_iload_n hx hb dX10_pull_139 rfl (lv_at hl 1 rfl) ?_
  obtain ⟨fs140, ho140, hf⟩ := zz_obS_i hf
  obtain ⟨v140, hv140, hf⟩ := zz_b_i hf
  refine zr_cV X hR hl.1 (As := [.int x1]) (rest := [.int x5]) (C := RX10) (T := TX10) (N := 34) (mt_X10_standing hT a0 x1 h n hv140) rfl ho140 mf_X10_standing q_1429 q_1431 qs_26 ⟨Nat.le_of_ble_eq_true rfl, Nat.le_of_ble_eq_true rfl⟩ ⟨Nat.le_of_ble_eq_true rfl, Nat.le_of_ble_eq_true rfl⟩ rfl (Nat.le_of_ble_eq_true rfl) dX10_pull_140 (fun H locs hR => ?_)
  refine W.eq (g2 := F0 m 143 ls [.int v140, .int x5]) rfl ?_
  refine lv_isub hx hb dX10_pull_143 ?_
  refine zr_abs X hl.1 q_1442 q_333 q_8 q_334 (Nat.le_of_ble_eq_true rfl) ⟨Nat.le_of_ble_eq_true rfl, Nat.le_of_ble_eq_true rfl⟩ ⟨Nat.le_of_ble_eq_true rfl, Nat.le_of_ble_eq_true rfl⟩ dX10_pull_144 ?_
  refine W.eq (g2 := F0 m 147 ls [.int (zz_abs (x5 - v140))]) rfl ?_
  cases hf
  exact zr_iret X hR dX10_pull_147 (Nat.le_of_ble_eq_true rfl) (Nat.le_of_ble_eq_true rfl)
set_option maxHeartbeats 4000000 in
set_option maxRecDepth 100000 in
theorem bk_X10_pull_93 {D : va_G} {dA : Nat → ClassId} {base t0 : Nat} {l : Launch} {p : Program} {e : Env} {s : State} {m : MethodId} {args : Array Value} {below : List Frame} {meth : Method} {c : Code} (X : zz_X D dA base t0 "SpringseatModel" cX10_pull 6 (some .int) l p s m meth c) (hT : l.stackTraces = false) {a0 : Nat} {x1 : Int32} {x2 : Int32} {x3 : Int32} {x4 : Int32} {s0 : Int32} {s1 : (Option Nat)} {h : zz_H} {n : Nat} {H : Heap} {locs : List Loc} {ls : Array Slot} (hR : zz_R D dA base h n s H locs) (hl : lv_has ls 6 [(0, .ref a0), (1, .int x1), (2, .int x2), (3, .int x3), (4, .int x4)]) {r0 : Int32} {hF : zz_H} (hf : f_X10_pull_93 a0 x1 x2 x3 x4 s0 s1 h = some (r0, hF)) : W p l e rm_X10_pull s m args below meth c H locs 0 0 (MQ below (zz_Qc D dA base (some (.int r0)) hF n) args s rm_X10_pull.cells rm_X10_pull.slots (fun q => base ≤ q)) (F0 m 93 ls [.int s0, va_rf s1]) := by
  have hx := X.1
  have hb := X.2.1
  have hown := X.2.2.2.2.1
  unfold f_X10_pull_93 at hf
  refine lv_iconst (v := (3 : Int32)) hx hb dX10_pull_93 (by decide) ?_
  obtain ⟨b94, fs94, hr94, ho94, hf⟩ := zz_ob_i hf
  obtain ⟨v94, h94, hv94, hf⟩ := zz_b1_i hf
  refine zr_cV X hR hl.1 (As := [.int s0, .int (3 : Int32)]) (rest := []) (C := RX10) (T := TX10) (N := 34) (mt_X10_isThrown hT b94 s0 (3 : Int32) h n hv94) rfl ho94 mf_X10_isThrown q_1370 q_1372 qs_17 ⟨Nat.le_of_ble_eq_true rfl, Nat.le_of_ble_eq_true rfl⟩ ⟨Nat.le_of_ble_eq_true rfl, Nat.le_of_ble_eq_true rfl⟩ (by rw [hr94]; rfl) (Nat.le_of_ble_eq_true rfl) dX10_pull_94 (fun H locs hR => ?_)
  refine W.eq (g2 := F0 m 97 ls [.int v94]) rfl ?_
  refine lv_if_eq (tgt := 102) hx hb dX10_pull_97 (by decide) (fun c97 => ?_) (fun c97 => ?_)
  · replace hf := zz_pos c97 hf
    refine lv_aload_n hx hb dX10_pull_102 rfl (lv_at hl 0 rfl) ?_
    refine lv_iload_n hx hb dX10_pull_103 rfl (lv_at hl 1 rfl) ?_
    obtain ⟨fs104, ho104, hf⟩ := zz_obS_i hf
    obtain ⟨v104, hv104, hf⟩ := zz_b_i hf
    refine zr_cV X hR hl.1 (As := [.int x1]) (rest := []) (C := RX10) (T := TX10) (N := 34) (mt_X10_standing hT a0 x1 h94 n hv104) rfl ho104 mf_X10_standing q_1429 q_1431 qs_26 ⟨Nat.le_of_ble_eq_true rfl, Nat.le_of_ble_eq_true rfl⟩ ⟨Nat.le_of_ble_eq_true rfl, Nat.le_of_ble_eq_true rfl⟩ rfl (Nat.le_of_ble_eq_true rfl) dX10_pull_104 (fun H locs hR => ?_)
    refine W.eq (g2 := F0 m 107 ls [.int v104]) rfl ?_
    refine lv_istore (i := 5) (lv' := [(5, .int v104), (0, .ref a0), (1, .int x1), (2, .int x2), (3, .int x3), (4, .int x4)]) hx hb dX10_pull_107 hl (by decide) rfl (fun ls hl => ?_)
    refine lv_iload_n hx hb dX10_pull_109 rfl (lv_at hl 3 rfl) ?_
    refine lv_if_eq (tgt := 126) hx hb dX10_pull_110 (by decide) (fun c110 => ?_) (fun c110 => ?_)
    · replace hf := zz_pos c110 hf
      refine lv_aload_n hx hb dX10_pull_126 rfl (lv_at hl 1 rfl) ?_
      refine zr_gq X hR (r := (some a0)) fl_X10_45 dX10_pull_127 hf (fun v127 hf => ?_)
      refine lv_iload_n hx hb dX10_pull_130 rfl (lv_at hl 2 rfl) ?_
      refine zr_aald X hR (t := 6) (r := v127) (by decide) rfl dX10_pull_131 hf (fun v131 hf => ?_)
      refine lv_iload_n hx hb dX10_pull_132 rfl (lv_at hl 4 rfl) ?_
      refine lv_iload hx hb dX10_pull_133 (lv_at hl 5 rfl) ?_
      refine zr_iast X hR (r := v131) dX10_pull_135 hf (fun h135 H locs hf hR => ?_)
      exact bk_X10_pull_136 X hT hR (lv_sub hl [1, 2, 0] rfl) hf
    · replace hf := zz_neg c110 hf
      refine lv_aload_n hx hb dX10_pull_113 rfl (lv_at hl 1 rfl) ?_
      refine zr_gq X hR (r := (some a0)) fl_X10_42 dX10_pull_114 hf (fun v114 hf => ?_)
      refine lv_iload_n hx hb dX10_pull_117 rfl (lv_at hl 2 rfl) ?_
      refine zr_aald X hR (t := 6) (r := v114) (by decide) rfl dX10_pull_118 hf (fun v118 hf => ?_)
      refine lv_iload_n hx hb dX10_pull_119 rfl (lv_at hl 4 rfl) ?_
      refine lv_iload hx hb dX10_pull_120 (lv_at hl 5 rfl) ?_
      refine zr_iast X hR (r := v118) dX10_pull_122 hf (fun h122 H locs hf hR => ?_)
      refine lv_goto (tgt := 136) hx hb dX10_pull_123 (by decide) ?_
      exact bk_X10_pull_136 X hT hR (lv_sub hl [1, 2, 0] rfl) hf
  · replace hf := zz_neg c97 hf
    refine lv_iconst (v := (0 : Int32)) hx hb dX10_pull_100 (by decide) ?_
    cases hf
    exact zr_iret X hR dX10_pull_101 (Nat.le_of_ble_eq_true rfl) (Nat.le_of_ble_eq_true rfl)
set_option maxHeartbeats 4000000 in
set_option maxRecDepth 100000 in
theorem bk_X10_pull_75 {D : va_G} {dA : Nat → ClassId} {base t0 : Nat} {l : Launch} {p : Program} {e : Env} {s : State} {m : MethodId} {args : Array Value} {below : List Frame} {meth : Method} {c : Code} (X : zz_X D dA base t0 "SpringseatModel" cX10_pull 6 (some .int) l p s m meth c) (hT : l.stackTraces = false) {h : zz_H} {n : Nat} {H : Heap} {locs : List Loc} {ls : Array Slot} (hR : zz_R D dA base h n s H locs) (hl : lv_has ls 6 []) {r0 : Int32} {hF : zz_H} (hf : f_X10_pull_75 h = some (r0, hF)) : W p l e rm_X10_pull s m args below meth c H locs 0 0 (MQ below (zz_Qc D dA base (some (.int r0)) hF n) args s rm_X10_pull.cells rm_X10_pull.slots (fun q => base ≤ q)) (F0 m 75 ls []) := by
  have hx := X.1
  have hb := X.2.1
  have hown := X.2.2.2.2.1
  unfold f_X10_pull_75 at hf
  refine lv_iconst (v := (0 : Int32)) hx hb dX10_pull_75 (by decide) ?_
  cases hf
  exact zr_iret X hR dX10_pull_76 (Nat.le_of_ble_eq_true rfl) (Nat.le_of_ble_eq_true rfl)
set_option maxHeartbeats 4000000 in
set_option maxRecDepth 100000 in
theorem bk_X10_pull_68 {D : va_G} {dA : Nat → ClassId} {base t0 : Nat} {l : Launch} {p : Program} {e : Env} {s : State} {m : MethodId} {args : Array Value} {below : List Frame} {meth : Method} {c : Code} (X : zz_X D dA base t0 "SpringseatModel" cX10_pull 6 (some .int) l p s m meth c) (hT : l.stackTraces = false) {a0 : Nat} {x1 : Int32} {x2 : Int32} {x3 : Int32} {x4 : Int32} {s0 : Int32} {s1 : (Option Nat)} {h : zz_H} {n : Nat} {H : Heap} {locs : List Loc} {ls : Array Slot} (hR : zz_R D dA base h n s H locs) (hl : lv_has ls 6 [(0, .ref a0), (1, .int x1), (2, .int x2), (3, .int x3), (4, .int x4)]) {r0 : Int32} {hF : zz_H} (hf : f_X10_pull_68 a0 x1 x2 x3 x4 s0 s1 h = some (r0, hF)) : W p l e rm_X10_pull s m args below meth c H locs 0 0 (MQ below (zz_Qc D dA base (some (.int r0)) hF n) args s rm_X10_pull.cells rm_X10_pull.slots (fun q => base ≤ q)) (F0 m 68 ls [.int s0, va_rf s1]) := by
  have hx := X.1
  have hb := X.2.1
  have hown := X.2.2.2.2.1
  unfold f_X10_pull_68 at hf
  refine lv_iconst (v := (2 : Int32)) hx hb dX10_pull_68 (by decide) ?_
  obtain ⟨b69, fs69, hr69, ho69, hf⟩ := zz_ob_i hf
  obtain ⟨v69, h69, hv69, hf⟩ := zz_b1_i hf
  refine zr_cV X hR hl.1 (As := [.int s0, .int (2 : Int32)]) (rest := []) (C := RX10) (T := TX10) (N := 34) (mt_X10_isThrown hT b69 s0 (2 : Int32) h n hv69) rfl ho69 mf_X10_isThrown q_1370 q_1372 qs_17 ⟨Nat.le_of_ble_eq_true rfl, Nat.le_of_ble_eq_true rfl⟩ ⟨Nat.le_of_ble_eq_true rfl, Nat.le_of_ble_eq_true rfl⟩ (by rw [hr69]; rfl) (Nat.le_of_ble_eq_true rfl) dX10_pull_69 (fun H locs hR => ?_)
  refine W.eq (g2 := F0 m 72 ls [.int v69]) rfl ?_
  refine lv_if_eq (tgt := 77) hx hb dX10_pull_72 (by decide) (fun c72 => ?_) (fun c72 => ?_)
  · replace hf := zz_pos c72 hf
    refine lv_aload_n hx hb dX10_pull_77 rfl (lv_at hl 0 rfl) ?_
    refine lv_aload_n hx hb dX10_pull_78 rfl (lv_at hl 0 rfl) ?_
    refine lv_iload_n hx hb dX10_pull_79 rfl (lv_at hl 1 rfl) ?_
    refine lv_bipush (v := (116 : Int32)) hx hb dX10_pull_80 (by decide) ?_
    obtain ⟨fs82, ho82, hf⟩ := zz_obS_i hf
    obtain ⟨v82, hv82, hf⟩ := zz_b_i hf
    refine zr_cV X hR hl.1 (As := [.int x1, .int (116 : Int32)]) (rest := [.ref a0]) (C := RX10) (T := TX10) (N := 34) (mt_X10_isLastOpen hT a0 x1 (116 : Int32) h69 n hv82) rfl ho82 mf_X10_isLastOpen q_1417 q_1419 qs_25 ⟨Nat.le_of_ble_eq_true rfl, Nat.le_of_ble_eq_true rfl⟩ ⟨Nat.le_of_ble_eq_true rfl, Nat.le_of_ble_eq_true rfl⟩ rfl (Nat.le_of_ble_eq_true rfl) dX10_pull_82 (fun H locs hR => ?_)
    refine W.eq (g2 := F0 m 85 ls [.int v82, .ref a0]) rfl ?_
    refine lv_if_ne (tgt := 92) hx hb dX10_pull_85 (by decide) (fun c85 => ?_) (fun c85 => ?_)
    · replace hf := zz_neg c85 hf
      refine lv_iconst (v := (0 : Int32)) hx hb dX10_pull_92 (by decide) ?_
      exact bk_X10_pull_93 X hT hR (lv_sub hl [0, 1, 2, 3, 4] rfl) hf
    · replace hf := zz_pos c85 hf
      refine lv_iconst (v := (1 : Int32)) hx hb dX10_pull_88 (by decide) ?_
      refine lv_goto (tgt := 93) hx hb dX10_pull_89 (by decide) ?_
      exact bk_X10_pull_93 X hT hR (lv_sub hl [0, 1, 2, 3, 4] rfl) hf
  · replace hf := zz_neg c72 hf
    exact bk_X10_pull_75 X hT hR (lv_sub hl [] rfl) hf
set_option maxHeartbeats 4000000 in
set_option maxRecDepth 100000 in
theorem bk_X10_pull_43 {D : va_G} {dA : Nat → ClassId} {base t0 : Nat} {l : Launch} {p : Program} {e : Env} {s : State} {m : MethodId} {args : Array Value} {below : List Frame} {meth : Method} {c : Code} (X : zz_X D dA base t0 "SpringseatModel" cX10_pull 6 (some .int) l p s m meth c) (hT : l.stackTraces = false) {a0 : Nat} {x1 : Int32} {x2 : Int32} {x3 : Int32} {x4 : Int32} {s0 : Int32} {s1 : (Option Nat)} {h : zz_H} {n : Nat} {H : Heap} {locs : List Loc} {ls : Array Slot} (hR : zz_R D dA base h n s H locs) (hl : lv_has ls 6 [(0, .ref a0), (1, .int x1), (2, .int x2), (3, .int x3), (4, .int x4)]) {r0 : Int32} {hF : zz_H} (hf : f_X10_pull_43 a0 x1 x2 x3 x4 s0 s1 h = some (r0, hF)) : W p l e rm_X10_pull s m args below meth c H locs 0 0 (MQ below (zz_Qc D dA base (some (.int r0)) hF n) args s rm_X10_pull.cells rm_X10_pull.slots (fun q => base ≤ q)) (F0 m 43 ls [.int s0, va_rf s1]) := by
  have hx := X.1
  have hb := X.2.1
  have hown := X.2.2.2.2.1
  unfold f_X10_pull_43 at hf
  refine lv_iconst (v := (1 : Int32)) hx hb dX10_pull_43 (by decide) ?_
  obtain ⟨b44, fs44, hr44, ho44, hf⟩ := zz_ob_i hf
  obtain ⟨v44, h44, hv44, hf⟩ := zz_b1_i hf
  refine zr_cV X hR hl.1 (As := [.int s0, .int (1 : Int32)]) (rest := []) (C := RX10) (T := TX10) (N := 34) (mt_X10_isThrown hT b44 s0 (1 : Int32) h n hv44) rfl ho44 mf_X10_isThrown q_1370 q_1372 qs_17 ⟨Nat.le_of_ble_eq_true rfl, Nat.le_of_ble_eq_true rfl⟩ ⟨Nat.le_of_ble_eq_true rfl, Nat.le_of_ble_eq_true rfl⟩ (by rw [hr44]; rfl) (Nat.le_of_ble_eq_true rfl) dX10_pull_44 (fun H locs hR => ?_)
  refine W.eq (g2 := F0 m 47 ls [.int v44]) rfl ?_
  refine lv_if_ne (tgt := 75) hx hb dX10_pull_47 (by decide) (fun c47 => ?_) (fun c47 => ?_)
  · replace hf := zz_neg c47 hf
    exact bk_X10_pull_75 X hT hR (lv_sub hl [] rfl) hf
  · replace hf := zz_pos c47 hf
    refine lv_aload_n hx hb dX10_pull_50 rfl (lv_at hl 0 rfl) ?_
    refine lv_iload hx hb dX10_pull_51 (lv_at hl 4 rfl) ?_
    refine lv_bipush (v := (10 : Int32)) hx hb dX10_pull_53 (by decide) ?_
    refine lv_bipush (v := (99 : Int32)) hx hb dX10_pull_55 (by decide) ?_
    obtain ⟨v57, hv57, hf⟩ := zz_b_i hf
    refine zr_cS X hR hl.1 (As := [.int x4, .int (10 : Int32), .int (99 : Int32)]) (rest := [.ref a0]) (mt_X10_isIn hT x4 (10 : Int32) (99 : Int32) h44 n hv57) mf_X10_isIn q_1367 q_1368 ⟨Nat.le_of_ble_eq_true rfl, Nat.le_of_ble_eq_true rfl⟩ ⟨Nat.le_of_ble_eq_true rfl, Nat.le_of_ble_eq_true rfl⟩ rfl (Nat.le_of_ble_eq_true rfl) dX10_pull_57 (fun H locs hR => ?_)
    refine W.eq (g2 := F0 m 60 ls [.int v57, .ref a0]) rfl ?_
    refine lv_if_ne (tgt := 67) hx hb dX10_pull_60 (by decide) (fun c60 => ?_) (fun c60 => ?_)
    · replace hf := zz_neg c60 hf
      refine lv_iconst (v := (0 : Int32)) hx hb dX10_pull_67 (by decide) ?_
      exact bk_X10_pull_68 X hT hR (lv_sub hl [0, 1, 2, 3, 4] rfl) hf
    · replace hf := zz_pos c60 hf
      refine lv_iconst (v := (1 : Int32)) hx hb dX10_pull_63 (by decide) ?_
      refine lv_goto (tgt := 68) hx hb dX10_pull_64 (by decide) ?_
      exact bk_X10_pull_68 X hT hR (lv_sub hl [0, 1, 2, 3, 4] rfl) hf
set_option maxHeartbeats 4000000 in
set_option maxRecDepth 100000 in
theorem bk_X10_pull_38 {D : va_G} {dA : Nat → ClassId} {base t0 : Nat} {l : Launch} {p : Program} {e : Env} {s : State} {m : MethodId} {args : Array Value} {below : List Frame} {meth : Method} {c : Code} (X : zz_X D dA base t0 "SpringseatModel" cX10_pull 6 (some .int) l p s m meth c) (hT : l.stackTraces = false) {a0 : Nat} {x1 : Int32} {x2 : Int32} {x3 : Int32} {x4 : Int32} {s0 : (Option Nat)} {h : zz_H} {n : Nat} {H : Heap} {locs : List Loc} {ls : Array Slot} (hR : zz_R D dA base h n s H locs) (hl : lv_has ls 6 [(0, .ref a0), (1, .int x1), (2, .int x2), (3, .int x3), (4, .int x4)]) {r0 : Int32} {hF : zz_H} (hf : f_X10_pull_38 a0 x1 x2 x3 x4 s0 h = some (r0, hF)) : W p l e rm_X10_pull s m args below meth c H locs 0 0 (MQ below (zz_Qc D dA base (some (.int r0)) hF n) args s rm_X10_pull.cells rm_X10_pull.slots (fun q => base ≤ q)) (F0 m 38 ls [va_rf s0]) := by
  have hx := X.1
  have hb := X.2.1
  have hown := X.2.2.2.2.1
  unfold f_X10_pull_38 at hf
  refine lv_iconst (v := (1 : Int32)) hx hb dX10_pull_38 (by decide) ?_
  refine lv_goto (tgt := 43) hx hb dX10_pull_39 (by decide) ?_
  exact bk_X10_pull_43 X hT hR (lv_sub hl [0, 1, 2, 3, 4] rfl) hf
set_option maxHeartbeats 4000000 in
set_option maxRecDepth 100000 in
theorem bk_X10_pull_30 {D : va_G} {dA : Nat → ClassId} {base t0 : Nat} {l : Launch} {p : Program} {e : Env} {s : State} {m : MethodId} {args : Array Value} {below : List Frame} {meth : Method} {c : Code} (X : zz_X D dA base t0 "SpringseatModel" cX10_pull 6 (some .int) l p s m meth c) (hT : l.stackTraces = false) {a0 : Nat} {x1 : Int32} {x2 : Int32} {x3 : Int32} {x4 : Int32} {s0 : Int32} {s1 : Int32} {s2 : Int32} {s3 : (Option Nat)} {h : zz_H} {n : Nat} {H : Heap} {locs : List Loc} {ls : Array Slot} (hR : zz_R D dA base h n s H locs) (hl : lv_has ls 6 [(0, .ref a0), (1, .int x1), (2, .int x2), (3, .int x3), (4, .int x4)]) {r0 : Int32} {hF : zz_H} (hf : f_X10_pull_30 a0 x1 x2 x3 x4 s0 s1 s2 s3 h = some (r0, hF)) : W p l e rm_X10_pull s m args below meth c H locs 0 0 (MQ below (zz_Qc D dA base (some (.int r0)) hF n) args s rm_X10_pull.cells rm_X10_pull.slots (fun q => base ≤ q)) (F0 m 30 ls [.int s0, .int s1, .int s2, va_rf s3]) := by
  have hx := X.1
  have hb := X.2.1
  have hown := X.2.2.2.2.1
  unfold f_X10_pull_30 at hf
  refine lv_iconst (v := (1 : Int32)) hx hb dX10_pull_30 (by decide) ?_
  refine lv_isub hx hb dX10_pull_31 ?_
  obtain ⟨v32, hv32, hf⟩ := zz_b_i hf
  refine zr_cS X hR hl.1 (As := [.int s2, .int s1, .int (s0 - (1 : Int32))]) (rest := [va_rf s3]) (mt_X10_isIn hT s2 s1 (s0 - (1 : Int32)) h n hv32) mf_X10_isIn q_1367 q_1368 ⟨Nat.le_of_ble_eq_true rfl, Nat.le_of_ble_eq_true rfl⟩ ⟨Nat.le_of_ble_eq_true rfl, Nat.le_of_ble_eq_true rfl⟩ rfl (Nat.le_of_ble_eq_true rfl) dX10_pull_32 (fun H locs hR => ?_)
  refine W.eq (g2 := F0 m 35 ls [.int v32, va_rf s3]) rfl ?_
  refine lv_if_ne (tgt := 42) hx hb dX10_pull_35 (by decide) (fun c35 => ?_) (fun c35 => ?_)
  · replace hf := zz_neg c35 hf
    refine lv_iconst (v := (0 : Int32)) hx hb dX10_pull_42 (by decide) ?_
    exact bk_X10_pull_43 X hT hR (lv_sub hl [0, 1, 2, 3, 4] rfl) hf
  · replace hf := zz_pos c35 hf
    exact bk_X10_pull_38 X hT hR (lv_sub hl [0, 1, 2, 3, 4] rfl) hf
set_option maxHeartbeats 4000000 in
set_option maxRecDepth 100000 in
theorem mt_X10_pull {D : va_G} {dA : Nat → ClassId} {base t0 : Nat} {l : Launch} (hT : l.stackTraces = false) (a0 : Nat) (x1 : Int32) (x2 : Int32) (x3 : Int32) (x4 : Int32) (h : zz_H) (n : Nat) {r0 : Int32} {hF : zz_H} (hf : f_X10_pull a0 x1 x2 x3 x4 h = some (r0, hF)) : zz_M D dA base t0 l yX10_pull cX10_pull 6 (some .int) rm_X10_pull [.ref a0, .int x1, .int x2, .int x3, .int x4] h n (some (.int r0)) hF n := by
  refine Met.ofW (cc := cX10_pull) (maxL := 6) (ret := (some .int)) (by decide +kernel) rfl ?_
  intro p e s m args below meth c s₁ B hml hv
  obtain ⟨rfl, hP, hK⟩ := hv
  have X : zz_X D dA base t0 "SpringseatModel" cX10_pull 6 (some .int) l p s m meth c := ⟨B.exec, B.bytes, hml, B.returns, findClass_of_methodNamed B.named, B.notSynchronized, hT, by rw [hP.1]; exact hP.2.1, hK⟩
  have hx := X.1
  have hb := X.2.1
  have hown := X.2.2.2.2.1
  have hR : zz_R D dA base h n s s.heap [] := ⟨hP, va_S.rf⟩
  have hl := lv_entry ([.ref a0, .int x1, .int x2, .int x3, .int x4]) (n := 6) (by exact Nat.le_of_ble_eq_true rfl)
  rw [lg_entry_eq]
  generalize (lg_sl ([.ref a0, .int x1, .int x2, .int x3, .int x4]) ++ List.replicate (6 - (lg_sl ([.ref a0, .int x1, .int x2, .int x3, .int x4])).length) Slot.unset).toArray = ls at hl ⊢
  have hl : lv_has ls 6 [(0, .ref a0), (1, .int x1), (2, .int x2), (3, .int x3), (4, .int x4)] := hl
  unfold f_X10_pull at hf
  refine lv_aload_n hx hb dX10_pull_0 rfl (lv_at hl 0 rfl) ?_
  refine lv_aload_n hx hb dX10_pull_1 rfl (lv_at hl 0 rfl) ?_
  refine lv_iload_n hx hb dX10_pull_2 rfl (lv_at hl 1 rfl) ?_
  obtain ⟨fs3, ho3, hf⟩ := zz_obS_i hf
  obtain ⟨v3, hv3, hf⟩ := zz_b_i hf
  refine zr_cV X hR hl.1 (As := [.int x1]) (rest := [.ref a0]) (C := RX10) (T := TX10) (N := 34) (mt_X10_isNoSeat hT a0 x1 h n hv3) rfl ho3 mf_X10_isNoSeat q_1378 q_1380 qs_18 ⟨Nat.le_of_ble_eq_true rfl, Nat.le_of_ble_eq_true rfl⟩ ⟨Nat.le_of_ble_eq_true rfl, Nat.le_of_ble_eq_true rfl⟩ rfl (Nat.le_of_ble_eq_true rfl) dX10_pull_3 (fun H locs hR => ?_)
  refine W.eq (g2 := F0 m 6 ls [.int v3, .ref a0]) rfl ?_
  refine lv_if_ne (tgt := 38) hx hb dX10_pull_6 (by decide) (fun c6 => ?_) (fun c6 => ?_)
  · replace hf := zz_neg c6 hf
    exact bk_X10_pull_38 X hT hR (lv_sub hl [0, 1, 2, 3, 4] rfl) hf
  · replace hf := zz_pos c6 hf
    refine lv_iload_n hx hb dX10_pull_9 rfl (lv_at hl 3 rfl) ?_
    refine lv_iconst (v := (0 : Int32)) hx hb dX10_pull_10 (by decide) ?_
    refine lv_iload_n hx hb dX10_pull_11 rfl (lv_at hl 2 rfl) ?_
    refine lv_if_eq (tgt := 24) hx hb dX10_pull_12 (by decide) (fun c12 => ?_) (fun c12 => ?_)
    · replace hf := zz_pos c12 hf
      refine lv_aload_n hx hb dX10_pull_24 rfl (lv_at hl 0 rfl) ?_
      refine zr_gq X hR (r := (some a0)) fl_X10_13 dX10_pull_25 hf (fun v25 hf => ?_)
      refine lv_iload_n hx hb dX10_pull_28 rfl (lv_at hl 1 rfl) ?_
      refine zr_iald X hR (r := v25) dX10_pull_29 hf (fun v29 hf => ?_)
      exact bk_X10_pull_30 X hT hR (lv_sub hl [0, 1, 2, 3, 4] rfl) hf
    · replace hf := zz_neg c12 hf
      refine lv_aload_n hx hb dX10_pull_15 rfl (lv_at hl 0 rfl) ?_
      refine zr_gq X hR (r := (some a0)) fl_X10_9 dX10_pull_16 hf (fun v16 hf => ?_)
      refine lv_iload_n hx hb dX10_pull_19 rfl (lv_at hl 1 rfl) ?_
      refine zr_iald X hR (r := v16) dX10_pull_20 hf (fun v20 hf => ?_)
      refine lv_goto (tgt := 30) hx hb dX10_pull_21 (by decide) ?_
      exact bk_X10_pull_30 X hT hR (lv_sub hl [0, 1, 2, 3, 4] rfl) hf
def rm_X10_isKind : Room := { frames := 0, cells := 0, slots := 0, locals := 0 }
theorem mf_X10_isKind : zz_Mf yX10_isKind cX10_isKind 1 (some .boolean) 1 := ⟨q_1449, q_11, by decide +kernel, by decide +kernel, by decide +kernel⟩
set_option maxHeartbeats 4000000 in
set_option maxRecDepth 100000 in
theorem bk_X10_isKind_23 {D : va_G} {dA : Nat → ClassId} {base t0 : Nat} {l : Launch} {p : Program} {e : Env} {s : State} {m : MethodId} {args : Array Value} {below : List Frame} {meth : Method} {c : Code} (X : zz_X D dA base t0 "SpringseatModel" cX10_isKind 1 (some .boolean) l p s m meth c) (hT : l.stackTraces = false) {s0 : Int32} {h : zz_H} {n : Nat} {H : Heap} {locs : List Loc} {ls : Array Slot} (hR : zz_R D dA base h n s H locs) (hl : lv_has ls 1 []) {r0 : Int32} (hf : f_X10_isKind_23 s0 h = some r0) : W p l e rm_X10_isKind s m args below meth c H locs 0 0 (MQ below (zz_Qc D dA base (some (.int r0)) h n) args s rm_X10_isKind.cells rm_X10_isKind.slots (fun q => base ≤ q)) (F0 m 23 ls [.int s0]) := by
  have hx := X.1
  have hb := X.2.1
  have hown := X.2.2.2.2.1
  unfold f_X10_isKind_23 at hf
  obtain ⟨hz23, hf⟩ := zz_gz_i hf
  cases hf
  exact zr_zret X hR (zz_nz hz23) dX10_isKind_23 (Nat.le_of_ble_eq_true rfl) (Nat.le_of_ble_eq_true rfl)
set_option maxHeartbeats 4000000 in
set_option maxRecDepth 100000 in
theorem bk_X10_isKind_18 {D : va_G} {dA : Nat → ClassId} {base t0 : Nat} {l : Launch} {p : Program} {e : Env} {s : State} {m : MethodId} {args : Array Value} {below : List Frame} {meth : Method} {c : Code} (X : zz_X D dA base t0 "SpringseatModel" cX10_isKind 1 (some .boolean) l p s m meth c) (hT : l.stackTraces = false) {h : zz_H} {n : Nat} {H : Heap} {locs : List Loc} {ls : Array Slot} (hR : zz_R D dA base h n s H locs) (hl : lv_has ls 1 []) {r0 : Int32} (hf : f_X10_isKind_18 h = some r0) : W p l e rm_X10_isKind s m args below meth c H locs 0 0 (MQ below (zz_Qc D dA base (some (.int r0)) h n) args s rm_X10_isKind.cells rm_X10_isKind.slots (fun q => base ≤ q)) (F0 m 18 ls []) := by
  have hx := X.1
  have hb := X.2.1
  have hown := X.2.2.2.2.1
  unfold f_X10_isKind_18 at hf
  refine lv_iconst (v := (1 : Int32)) hx hb dX10_isKind_18 (by decide) ?_
  refine lv_goto (tgt := 23) hx hb dX10_isKind_19 (by decide) ?_
  exact bk_X10_isKind_23 X hT hR (lv_sub hl [] rfl) hf
set_option maxHeartbeats 4000000 in
set_option maxRecDepth 100000 in
theorem mt_X10_isKind {D : va_G} {dA : Nat → ClassId} {base t0 : Nat} {l : Launch} (hT : l.stackTraces = false) (x0 : Int32) (h : zz_H) (n : Nat) {r0 : Int32} (hf : f_X10_isKind x0 h = some r0) : zz_M D dA base t0 l yX10_isKind cX10_isKind 1 (some .boolean) rm_X10_isKind [.int x0] h n (some (.int r0)) h n := by
  refine Met.ofW (cc := cX10_isKind) (maxL := 1) (ret := (some .boolean)) (by decide +kernel) rfl ?_
  intro p e s m args below meth c s₁ B hml hv
  obtain ⟨rfl, hP, hK⟩ := hv
  have X : zz_X D dA base t0 "SpringseatModel" cX10_isKind 1 (some .boolean) l p s m meth c := ⟨B.exec, B.bytes, hml, B.returns, findClass_of_methodNamed B.named, B.notSynchronized, hT, by rw [hP.1]; exact hP.2.1, hK⟩
  have hx := X.1
  have hb := X.2.1
  have hown := X.2.2.2.2.1
  have hR : zz_R D dA base h n s s.heap [] := ⟨hP, va_S.rf⟩
  have hl := lv_entry ([.int x0]) (n := 1) (by exact Nat.le_of_ble_eq_true rfl)
  rw [lg_entry_eq]
  generalize (lg_sl ([.int x0]) ++ List.replicate (1 - (lg_sl ([.int x0])).length) Slot.unset).toArray = ls at hl ⊢
  have hl : lv_has ls 1 [(0, .int x0)] := hl
  unfold f_X10_isKind at hf
  refine lv_iload_n hx hb dX10_isKind_0 rfl (lv_at hl 0 rfl) ?_
  refine lv_bipush (v := (104 : Int32)) hx hb dX10_isKind_1 (by decide) ?_
  refine lv_icmp_eq (tgt := 18) hx hb dX10_isKind_3 (by decide) (fun c3 => ?_) (fun c3 => ?_)
  · replace hf := zz_pos c3 hf
    exact bk_X10_isKind_18 X hT hR (lv_sub hl [] rfl) hf
  · replace hf := zz_neg c3 hf
    refine lv_iload_n hx hb dX10_isKind_6 rfl (lv_at hl 0 rfl) ?_
    refine lv_bipush (v := (102 : Int32)) hx hb dX10_isKind_7 (by decide) ?_
    refine lv_icmp_eq (tgt := 18) hx hb dX10_isKind_9 (by decide) (fun c9 => ?_) (fun c9 => ?_)
    · replace hf := zz_pos c9 hf
      exact bk_X10_isKind_18 X hT hR (lv_sub hl [] rfl) hf
    · replace hf := zz_neg c9 hf
      refine lv_iload_n hx hb dX10_isKind_12 rfl (lv_at hl 0 rfl) ?_
      refine lv_bipush (v := (100 : Int32)) hx hb dX10_isKind_13 (by decide) ?_
      refine lv_icmp_ne (tgt := 22) hx hb dX10_isKind_15 (by decide) (fun c15 => ?_) (fun c15 => ?_)
      · replace hf := zz_neg c15 hf
        refine lv_iconst (v := (0 : Int32)) hx hb dX10_isKind_22 (by decide) ?_
        exact bk_X10_isKind_23 X hT hR (lv_sub hl [] rfl) hf
      · replace hf := zz_pos c15 hf
        exact bk_X10_isKind_18 X hT hR (lv_sub hl [] rfl) hf
def rm_X10_layer : Room := { frames := 2, cells := 0, slots := 0, locals := 45 }
theorem mf_X10_layer : zz_Mf yX10_layer cX10_layer 7 (some .int) 4 := ⟨q_1446, q_11, by decide +kernel, by decide +kernel, by decide +kernel⟩
set_option maxHeartbeats 4000000 in
set_option maxRecDepth 100000 in
theorem bk_X10_layer_89 {D : va_G} {dA : Nat → ClassId} {base t0 : Nat} {l : Launch} {p : Program} {e : Env} {s : State} {m : MethodId} {args : Array Value} {below : List Frame} {meth : Method} {c : Code} (X : zz_X D dA base t0 "SpringseatModel" cX10_layer 7 (some .int) l p s m meth c) (hT : l.stackTraces = false) {h : zz_H} {n : Nat} {H : Heap} {locs : List Loc} {ls : Array Slot} (hR : zz_R D dA base h n s H locs) (hl : lv_has ls 7 []) {r0 : Int32} {hF : zz_H} (hf : f_X10_layer_89 h = some (r0, hF)) : W p l e rm_X10_layer s m args below meth c H locs 0 0 (MQ below (zz_Qc D dA base (some (.int r0)) hF n) args s rm_X10_layer.cells rm_X10_layer.slots (fun q => base ≤ q)) (F0 m 89 ls []) := by
  have hx := X.1
  have hb := X.2.1
  have hown := X.2.2.2.2.1
  unfold f_X10_layer_89 at hf
  refine lv_iconst (v := (0 : Int32)) hx hb dX10_layer_89 (by decide) ?_
  cases hf
  exact zr_iret X hR dX10_layer_90 (Nat.le_of_ble_eq_true rfl) (Nat.le_of_ble_eq_true rfl)
set_option maxHeartbeats 4000000 in
set_option maxRecDepth 100000 in
theorem bk_X10_layer_82 {D : va_G} {dA : Nat → ClassId} {base t0 : Nat} {l : Launch} {p : Program} {e : Env} {s : State} {m : MethodId} {args : Array Value} {below : List Frame} {meth : Method} {c : Code} (X : zz_X D dA base t0 "SpringseatModel" cX10_layer 7 (some .int) l p s m meth c) (hT : l.stackTraces = false) {a0 : Nat} {x1 : Int32} {x2 : Int32} {x3 : Int32} {x4 : Int32} {s0 : Int32} {s1 : (Option Nat)} {h : zz_H} {n : Nat} {H : Heap} {locs : List Loc} {ls : Array Slot} (hR : zz_R D dA base h n s H locs) (hl : lv_has ls 7 [(0, .ref a0), (1, .int x1), (2, .int x2), (3, .int x3), (4, .int x4)]) {r0 : Int32} {hF : zz_H} (hf : f_X10_layer_82 a0 x1 x2 x3 x4 s0 s1 h = some (r0, hF)) : W p l e rm_X10_layer s m args below meth c H locs 0 0 (MQ below (zz_Qc D dA base (some (.int r0)) hF n) args s rm_X10_layer.cells rm_X10_layer.slots (fun q => base ≤ q)) (F0 m 82 ls [.int s0, va_rf s1]) := by
  have hx := X.1
  have hb := X.2.1
  have hown := X.2.2.2.2.1
  unfold f_X10_layer_82 at hf
  refine lv_iconst (v := (3 : Int32)) hx hb dX10_layer_82 (by decide) ?_
  obtain ⟨b83, fs83, hr83, ho83, hf⟩ := zz_ob_i hf
  obtain ⟨v83, h83, hv83, hf⟩ := zz_b1_i hf
  refine zr_cV X hR hl.1 (As := [.int s0, .int (3 : Int32)]) (rest := []) (C := RX10) (T := TX10) (N := 34) (mt_X10_isThrown hT b83 s0 (3 : Int32) h n hv83) rfl ho83 mf_X10_isThrown q_1370 q_1372 qs_17 ⟨Nat.le_of_ble_eq_true rfl, Nat.le_of_ble_eq_true rfl⟩ ⟨Nat.le_of_ble_eq_true rfl, Nat.le_of_ble_eq_true rfl⟩ (by rw [hr83]; rfl) (Nat.le_of_ble_eq_true rfl) dX10_layer_83 (fun H locs hR => ?_)
  refine W.eq (g2 := F0 m 86 ls [.int v83]) rfl ?_
  refine lv_if_eq (tgt := 91) hx hb dX10_layer_86 (by decide) (fun c86 => ?_) (fun c86 => ?_)
  · replace hf := zz_pos c86 hf
    refine lv_aload_n hx hb dX10_layer_91 rfl (lv_at hl 0 rfl) ?_
    refine zr_gq X hR (r := (some a0)) fl_X10_48 dX10_layer_92 hf (fun v92 hf => ?_)
    refine lv_iload_n hx hb dX10_layer_95 rfl (lv_at hl 1 rfl) ?_
    refine zr_iald X hR (r := v92) dX10_layer_96 hf (fun v96 hf => ?_)
    refine lv_istore (i := 6) (lv' := [(6, .int v96), (0, .ref a0), (1, .int x1), (2, .int x2), (3, .int x3), (4, .int x4)]) hx hb dX10_layer_97 hl (by decide) rfl (fun ls hl => ?_)
    refine lv_aload_n hx hb dX10_layer_99 rfl (lv_at hl 1 rfl) ?_
    refine zr_gq X hR (r := (some a0)) fl_X10_51 dX10_layer_100 hf (fun v100 hf => ?_)
    refine lv_iload_n hx hb dX10_layer_103 rfl (lv_at hl 2 rfl) ?_
    refine zr_aald X hR (t := 8) (r := v100) (by decide) rfl dX10_layer_104 hf (fun v104 hf => ?_)
    refine lv_iload hx hb dX10_layer_105 (lv_at hl 0 rfl) ?_
    refine lv_iload_n hx hb dX10_layer_107 rfl (lv_at hl 3 rfl) ?_
    refine zr_cast X hR (r := v104) dX10_layer_108 hf (fun h108 H locs hf hR => ?_)
    refine lv_aload_n hx hb dX10_layer_109 rfl (lv_at hl 1 rfl) ?_
    refine zr_gq X hR (r := (some a0)) fl_X10_54 dX10_layer_110 hf (fun v110 hf => ?_)
    refine lv_iload_n hx hb dX10_layer_113 rfl (lv_at hl 2 rfl) ?_
    refine zr_aald X hR (t := 6) (r := v110) (by decide) rfl dX10_layer_114 hf (fun v114 hf => ?_)
    refine lv_iload hx hb dX10_layer_115 (lv_at hl 0 rfl) ?_
    refine lv_iload_n hx hb dX10_layer_117 rfl (lv_at hl 4 rfl) ?_
    refine zr_iast X hR (r := v114) dX10_layer_118 hf (fun h118 H locs hf hR => ?_)
    refine lv_aload_n hx hb dX10_layer_119 rfl (lv_at hl 1 rfl) ?_
    refine zr_gq X hR (r := (some a0)) fl_X10_57 dX10_layer_120 hf (fun v120 hf => ?_)
    refine lv_iload_n hx hb dX10_layer_123 rfl (lv_at hl 2 rfl) ?_
    refine zr_aald X hR (t := 6) (r := v120) (by decide) rfl dX10_layer_124 hf (fun v124 hf => ?_)
    refine lv_iload hx hb dX10_layer_125 (lv_at hl 0 rfl) ?_
    refine lv_iload hx hb dX10_layer_127 (lv_at hl 5 rfl) ?_
    refine zr_iast X hR (r := v124) dX10_layer_129 hf (fun h129 H locs hf hR => ?_)
    refine lv_aload_n hx hb dX10_layer_130 rfl (lv_at hl 1 rfl) ?_
    refine zr_gq X hR (r := (some a0)) fl_X10_62 dX10_layer_131 hf (fun v131 hf => ?_)
    refine lv_iload_n hx hb dX10_layer_134 rfl (lv_at hl 2 rfl) ?_
    refine zr_aald X hR (t := 10) (r := v131) (by decide) rfl dX10_layer_135 hf (fun v135 hf => ?_)
    refine lv_iload hx hb dX10_layer_136 (lv_at hl 0 rfl) ?_
    refine lv_lconst (v := (0 : Int64)) hx hb dX10_layer_138 (by decide) ?_
    refine zr_last X hR (r := v135) dX10_layer_139 hf (fun h139 H locs hf hR => ?_)
    refine lv_aload_n hx hb dX10_layer_140 rfl (lv_at hl 1 rfl) ?_
    refine zr_gq X hR (r := (some a0)) fl_X10_65 dX10_layer_141 hf (fun v141 hf => ?_)
    refine lv_iload_n hx hb dX10_layer_144 rfl (lv_at hl 2 rfl) ?_
    refine zr_aald X hR (t := 6) (r := v141) (by decide) rfl dX10_layer_145 hf (fun v145 hf => ?_)
    refine lv_iload hx hb dX10_layer_146 (lv_at hl 0 rfl) ?_
    refine lv_iconst (v := (0 : Int32)) hx hb dX10_layer_148 (by decide) ?_
    refine zr_iast X hR (r := v145) dX10_layer_149 hf (fun h149 H locs hf hR => ?_)
    refine lv_aload_n hx hb dX10_layer_150 rfl (lv_at hl 1 rfl) ?_
    refine zr_gq X hR (r := (some a0)) fl_X10_48 dX10_layer_151 hf (fun v151 hf => ?_)
    refine lv_iload_n hx hb dX10_layer_154 rfl (lv_at hl 2 rfl) ?_
    refine lv_dup2_11 hx hb dX10_layer_155 rfl (zz_cat _) ?_
    refine zr_iald X hR (r := v151) dX10_layer_156 hf (fun v156 hf => ?_)
    refine lv_iconst (v := (1 : Int32)) hx hb dX10_layer_157 (by decide) ?_
    refine lv_iadd hx hb dX10_layer_158 ?_
    refine zr_iast X hR (r := v151) dX10_layer_159 hf (fun h159 H locs hf hR => ?_)
    refine lv_aload_n hx hb dX10_layer_160 rfl (lv_at hl 1 rfl) ?_
    refine lv_iload_n hx hb dX10_layer_161 rfl (lv_at hl 2 rfl) ?_
    refine lv_bipush (v := (108 : Int32)) hx hb dX10_layer_162 (by decide) ?_
    obtain ⟨fs164, ho164, hf⟩ := zz_obS_i hf
    obtain ⟨v164, h164, hv164, hf⟩ := zz_b1_i hf
    refine zr_cV X hR hl.1 (As := [.int x1, .int (108 : Int32)]) (rest := []) (C := RX10) (T := TX10) (N := 34) (mt_X10_done hT a0 x1 (108 : Int32) h159 n hv164) rfl ho164 mf_X10_done q_1394 q_1396 qs_22 ⟨Nat.le_of_ble_eq_true rfl, Nat.le_of_ble_eq_true rfl⟩ ⟨Nat.le_of_ble_eq_true rfl, Nat.le_of_ble_eq_true rfl⟩ rfl (Nat.le_of_ble_eq_true rfl) dX10_layer_164 (fun H locs hR => ?_)
    refine W.eq (g2 := F0 m 167 ls [.int v164]) rfl ?_
    cases hf
    exact zr_iret X hR dX10_layer_167 (Nat.le_of_ble_eq_true rfl) (Nat.le_of_ble_eq_true rfl)
  · replace hf := zz_neg c86 hf
    exact bk_X10_layer_89 X hT hR (lv_sub hl [] rfl) hf
set_option maxHeartbeats 4000000 in
set_option maxRecDepth 100000 in
theorem bk_X10_layer_59 {D : va_G} {dA : Nat → ClassId} {base t0 : Nat} {l : Launch} {p : Program} {e : Env} {s : State} {m : MethodId} {args : Array Value} {below : List Frame} {meth : Method} {c : Code} (X : zz_X D dA base t0 "SpringseatModel" cX10_layer 7 (some .int) l p s m meth c) (hT : l.stackTraces = false) {a0 : Nat} {x1 : Int32} {x2 : Int32} {x3 : Int32} {x4 : Int32} {s0 : Int32} {s1 : (Option Nat)} {h : zz_H} {n : Nat} {H : Heap} {locs : List Loc} {ls : Array Slot} (hR : zz_R D dA base h n s H locs) (hl : lv_has ls 7 [(0, .ref a0), (1, .int x1), (2, .int x2), (3, .int x3), (4, .int x4)]) {r0 : Int32} {hF : zz_H} (hf : f_X10_layer_59 a0 x1 x2 x3 x4 s0 s1 h = some (r0, hF)) : W p l e rm_X10_layer s m args below meth c H locs 0 0 (MQ below (zz_Qc D dA base (some (.int r0)) hF n) args s rm_X10_layer.cells rm_X10_layer.slots (fun q => base ≤ q)) (F0 m 59 ls [.int s0, va_rf s1]) := by
  have hx := X.1
  have hb := X.2.1
  have hown := X.2.2.2.2.1
  unfold f_X10_layer_59 at hf
  refine lv_iconst (v := (2 : Int32)) hx hb dX10_layer_59 (by decide) ?_
  obtain ⟨b60, fs60, hr60, ho60, hf⟩ := zz_ob_i hf
  obtain ⟨v60, h60, hv60, hf⟩ := zz_b1_i hf
  refine zr_cV X hR hl.1 (As := [.int s0, .int (2 : Int32)]) (rest := []) (C := RX10) (T := TX10) (N := 34) (mt_X10_isThrown hT b60 s0 (2 : Int32) h n hv60) rfl ho60 mf_X10_isThrown q_1370 q_1372 qs_17 ⟨Nat.le_of_ble_eq_true rfl, Nat.le_of_ble_eq_true rfl⟩ ⟨Nat.le_of_ble_eq_true rfl, Nat.le_of_ble_eq_true rfl⟩ (by rw [hr60]; rfl) (Nat.le_of_ble_eq_true rfl) dX10_layer_60 (fun H locs hR => ?_)
  refine W.eq (g2 := F0 m 63 ls [.int v60]) rfl ?_
  refine lv_if_ne (tgt := 89) hx hb dX10_layer_63 (by decide) (fun c63 => ?_) (fun c63 => ?_)
  · replace hf := zz_neg c63 hf
    exact bk_X10_layer_89 X hT hR (lv_sub hl [] rfl) hf
  · replace hf := zz_pos c63 hf
    refine lv_aload_n hx hb dX10_layer_66 rfl (lv_at hl 0 rfl) ?_
    refine lv_aload_n hx hb dX10_layer_67 rfl (lv_at hl 0 rfl) ?_
    refine lv_iload_n hx hb dX10_layer_68 rfl (lv_at hl 1 rfl) ?_
    refine lv_bipush (v := (108 : Int32)) hx hb dX10_layer_69 (by decide) ?_
    obtain ⟨fs71, ho71, hf⟩ := zz_obS_i hf
    obtain ⟨v71, hv71, hf⟩ := zz_b_i hf
    refine zr_cV X hR hl.1 (As := [.int x1, .int (108 : Int32)]) (rest := [.ref a0]) (C := RX10) (T := TX10) (N := 34) (mt_X10_mayCome hT a0 x1 (108 : Int32) h60 n hv71) rfl ho71 mf_X10_mayCome q_1382 q_1384 qs_19 ⟨Nat.le_of_ble_eq_true rfl, Nat.le_of_ble_eq_true rfl⟩ ⟨Nat.le_of_ble_eq_true rfl, Nat.le_of_ble_eq_true rfl⟩ rfl (Nat.le_of_ble_eq_true rfl) dX10_layer_71 (fun H locs hR => ?_)
    refine W.eq (g2 := F0 m 74 ls [.int v71, .ref a0]) rfl ?_
    refine lv_if_ne (tgt := 81) hx hb dX10_layer_74 (by decide) (fun c74 => ?_) (fun c74 => ?_)
    · replace hf := zz_neg c74 hf
      refine lv_iconst (v := (0 : Int32)) hx hb dX10_layer_81 (by decide) ?_
      exact bk_X10_layer_82 X hT hR (lv_sub hl [0, 1, 2, 3, 4] rfl) hf
    · replace hf := zz_pos c74 hf
      refine lv_iconst (v := (1 : Int32)) hx hb dX10_layer_77 (by decide) ?_
      refine lv_goto (tgt := 82) hx hb dX10_layer_78 (by decide) ?_
      exact bk_X10_layer_82 X hT hR (lv_sub hl [0, 1, 2, 3, 4] rfl) hf
set_option maxHeartbeats 4000000 in
set_option maxRecDepth 100000 in
theorem bk_X10_layer_33 {D : va_G} {dA : Nat → ClassId} {base t0 : Nat} {l : Launch} {p : Program} {e : Env} {s : State} {m : MethodId} {args : Array Value} {below : List Frame} {meth : Method} {c : Code} (X : zz_X D dA base t0 "SpringseatModel" cX10_layer 7 (some .int) l p s m meth c) (hT : l.stackTraces = false) {a0 : Nat} {x1 : Int32} {x2 : Int32} {x3 : Int32} {x4 : Int32} {s0 : Int32} {h : zz_H} {n : Nat} {H : Heap} {locs : List Loc} {ls : Array Slot} (hR : zz_R D dA base h n s H locs) (hl : lv_has ls 7 [(0, .ref a0), (1, .int x1), (2, .int x2), (3, .int x3), (4, .int x4)]) {r0 : Int32} {hF : zz_H} (hf : f_X10_layer_33 a0 x1 x2 x3 x4 s0 h = some (r0, hF)) : W p l e rm_X10_layer s m args below meth c H locs 0 0 (MQ below (zz_Qc D dA base (some (.int r0)) hF n) args s rm_X10_layer.cells rm_X10_layer.slots (fun q => base ≤ q)) (F0 m 33 ls [.int s0]) := by
  have hx := X.1
  have hb := X.2.1
  have hown := X.2.2.2.2.1
  unfold f_X10_layer_33 at hf
  refine lv_istore (i := 5) (lv' := [(5, .int s0), (0, .ref a0), (1, .int x1), (2, .int x2), (3, .int x3), (4, .int x4)]) hx hb dX10_layer_33 hl (by decide) rfl (fun ls hl => ?_)
  refine lv_aload_n hx hb dX10_layer_35 rfl (lv_at hl 1 rfl) ?_
  refine lv_aload_n hx hb dX10_layer_36 rfl (lv_at hl 1 rfl) ?_
  refine lv_iload_n hx hb dX10_layer_37 rfl (lv_at hl 2 rfl) ?_
  obtain ⟨fs38, ho38, hf⟩ := zz_obS_i hf
  obtain ⟨v38, hv38, hf⟩ := zz_b_i hf
  refine zr_cV X hR hl.1 (As := [.int x1]) (rest := [.ref a0]) (C := RX10) (T := TX10) (N := 34) (mt_X10_isNoSeat hT a0 x1 h n hv38) rfl ho38 mf_X10_isNoSeat q_1378 q_1380 qs_18 ⟨Nat.le_of_ble_eq_true rfl, Nat.le_of_ble_eq_true rfl⟩ ⟨Nat.le_of_ble_eq_true rfl, Nat.le_of_ble_eq_true rfl⟩ rfl (Nat.le_of_ble_eq_true rfl) dX10_layer_38 (fun H locs hR => ?_)
  refine W.eq (g2 := F0 m 41 ls [.int v38, .ref a0]) rfl ?_
  refine lv_iconst (v := (1 : Int32)) hx hb dX10_layer_41 (by decide) ?_
  obtain ⟨fs42, ho42, hf⟩ := zz_obS_i hf
  obtain ⟨v42, h42, hv42, hf⟩ := zz_b1_i hf
  refine zr_cV X hR hl.1 (As := [.int v38, .int (1 : Int32)]) (rest := []) (C := RX10) (T := TX10) (N := 34) (mt_X10_isThrown hT a0 v38 (1 : Int32) h n hv42) rfl ho42 mf_X10_isThrown q_1370 q_1372 qs_17 ⟨Nat.le_of_ble_eq_true rfl, Nat.le_of_ble_eq_true rfl⟩ ⟨Nat.le_of_ble_eq_true rfl, Nat.le_of_ble_eq_true rfl⟩ rfl (Nat.le_of_ble_eq_true rfl) dX10_layer_42 (fun H locs hR => ?_)
  refine W.eq (g2 := F0 m 45 ls [.int v42]) rfl ?_
  refine lv_if_ne (tgt := 89) hx hb dX10_layer_45 (by decide) (fun c45 => ?_) (fun c45 => ?_)
  · replace hf := zz_neg c45 hf
    exact bk_X10_layer_89 X hT hR (lv_sub hl [] rfl) hf
  · replace hf := zz_pos c45 hf
    refine lv_aload_n hx hb dX10_layer_48 rfl (lv_at hl 1 rfl) ?_
    refine lv_iload hx hb dX10_layer_49 (lv_at hl 0 rfl) ?_
    refine lv_if_ne (tgt := 58) hx hb dX10_layer_51 (by decide) (fun c51 => ?_) (fun c51 => ?_)
    · replace hf := zz_neg c51 hf
      refine lv_iconst (v := (0 : Int32)) hx hb dX10_layer_58 (by decide) ?_
      exact bk_X10_layer_59 X hT hR (lv_sub hl [1, 2, 3, 4, 5] rfl) hf
    · replace hf := zz_pos c51 hf
      refine lv_iconst (v := (1 : Int32)) hx hb dX10_layer_54 (by decide) ?_
      refine lv_goto (tgt := 59) hx hb dX10_layer_55 (by decide) ?_
      exact bk_X10_layer_59 X hT hR (lv_sub hl [1, 2, 3, 4, 5] rfl) hf
set_option maxHeartbeats 4000000 in
set_option maxRecDepth 100000 in
theorem bk_X10_layer_32 {D : va_G} {dA : Nat → ClassId} {base t0 : Nat} {l : Launch} {p : Program} {e : Env} {s : State} {m : MethodId} {args : Array Value} {below : List Frame} {meth : Method} {c : Code} (X : zz_X D dA base t0 "SpringseatModel" cX10_layer 7 (some .int) l p s m meth c) (hT : l.stackTraces = false) {a0 : Nat} {x1 : Int32} {x2 : Int32} {x3 : Int32} {x4 : Int32} {h : zz_H} {n : Nat} {H : Heap} {locs : List Loc} {ls : Array Slot} (hR : zz_R D dA base h n s H locs) (hl : lv_has ls 7 [(0, .ref a0), (1, .int x1), (2, .int x2), (3, .int x3), (4, .int x4)]) {r0 : Int32} {hF : zz_H} (hf : f_X10_layer_32 a0 x1 x2 x3 x4 h = some (r0, hF)) : W p l e rm_X10_layer s m args below meth c H locs 0 0 (MQ below (zz_Qc D dA base (some (.int r0)) hF n) args s rm_X10_layer.cells rm_X10_layer.slots (fun q => base ≤ q)) (F0 m 32 ls []) := by
  have hx := X.1
  have hb := X.2.1
  have hown := X.2.2.2.2.1
  unfold f_X10_layer_32 at hf
  refine lv_iconst (v := (0 : Int32)) hx hb dX10_layer_32 (by decide) ?_
  exact bk_X10_layer_33 X hT hR (lv_sub hl [0, 1, 2, 3, 4] rfl) hf
set_option maxHeartbeats 4000000 in
set_option maxRecDepth 100000 in
theorem mt_X10_layer {D : va_G} {dA : Nat → ClassId} {base t0 : Nat} {l : Launch} (hT : l.stackTraces = false) (a0 : Nat) (x1 : Int32) (x2 : Int32) (x3 : Int32) (x4 : Int32) (h : zz_H) (n : Nat) {r0 : Int32} {hF : zz_H} (hf : f_X10_layer a0 x1 x2 x3 x4 h = some (r0, hF)) : zz_M D dA base t0 l yX10_layer cX10_layer 7 (some .int) rm_X10_layer [.ref a0, .int x1, .int x2, .int x3, .int x4] h n (some (.int r0)) hF n := by
  refine Met.ofW (cc := cX10_layer) (maxL := 7) (ret := (some .int)) (by decide +kernel) rfl ?_
  intro p e s m args below meth c s₁ B hml hv
  obtain ⟨rfl, hP, hK⟩ := hv
  have X : zz_X D dA base t0 "SpringseatModel" cX10_layer 7 (some .int) l p s m meth c := ⟨B.exec, B.bytes, hml, B.returns, findClass_of_methodNamed B.named, B.notSynchronized, hT, by rw [hP.1]; exact hP.2.1, hK⟩
  have hx := X.1
  have hb := X.2.1
  have hown := X.2.2.2.2.1
  have hR : zz_R D dA base h n s s.heap [] := ⟨hP, va_S.rf⟩
  have hl := lv_entry ([.ref a0, .int x1, .int x2, .int x3, .int x4]) (n := 7) (by exact Nat.le_of_ble_eq_true rfl)
  rw [lg_entry_eq]
  generalize (lg_sl ([.ref a0, .int x1, .int x2, .int x3, .int x4]) ++ List.replicate (7 - (lg_sl ([.ref a0, .int x1, .int x2, .int x3, .int x4])).length) Slot.unset).toArray = ls at hl ⊢
  have hl : lv_has ls 7 [(0, .ref a0), (1, .int x1), (2, .int x2), (3, .int x3), (4, .int x4)] := hl
  unfold f_X10_layer at hf
  refine lv_iload_n hx hb dX10_layer_0 rfl (lv_at hl 2 rfl) ?_
  obtain ⟨v1, hv1, hf⟩ := zz_b_i hf
  refine zr_cS X hR hl.1 (As := [.int x2]) (rest := []) (mt_X10_isKind hT x2 h n hv1) mf_X10_isKind q_1447 q_1448 ⟨Nat.le_of_ble_eq_true rfl, Nat.le_of_ble_eq_true rfl⟩ ⟨Nat.le_of_ble_eq_true rfl, Nat.le_of_ble_eq_true rfl⟩ rfl (Nat.le_of_ble_eq_true rfl) dX10_layer_1 (fun H locs hR => ?_)
  refine W.eq (g2 := F0 m 4 ls [.int v1]) rfl ?_
  refine lv_if_eq (tgt := 32) hx hb dX10_layer_4 (by decide) (fun c4 => ?_) (fun c4 => ?_)
  · replace hf := zz_pos c4 hf
    exact bk_X10_layer_32 X hT hR (lv_sub hl [0, 1, 2, 3, 4] rfl) hf
  · replace hf := zz_neg c4 hf
    refine lv_iload_n hx hb dX10_layer_7 rfl (lv_at hl 3 rfl) ?_
    refine lv_iconst (v := (5 : Int32)) hx hb dX10_layer_8 (by decide) ?_
    refine lv_bipush (v := (60 : Int32)) hx hb dX10_layer_9 (by decide) ?_
    obtain ⟨v11, hv11, hf⟩ := zz_b_i hf
    refine zr_cS X hR hl.1 (As := [.int x3, .int (5 : Int32), .int (60 : Int32)]) (rest := []) (mt_X10_isIn hT x3 (5 : Int32) (60 : Int32) h n hv11) mf_X10_isIn q_1367 q_1368 ⟨Nat.le_of_ble_eq_true rfl, Nat.le_of_ble_eq_true rfl⟩ ⟨Nat.le_of_ble_eq_true rfl, Nat.le_of_ble_eq_true rfl⟩ rfl (Nat.le_of_ble_eq_true rfl) dX10_layer_11 (fun H locs hR => ?_)
    refine W.eq (g2 := F0 m 14 ls [.int v11]) rfl ?_
    refine lv_if_eq (tgt := 32) hx hb dX10_layer_14 (by decide) (fun c14 => ?_) (fun c14 => ?_)
    · replace hf := zz_pos c14 hf
      exact bk_X10_layer_32 X hT hR (lv_sub hl [0, 1, 2, 3, 4] rfl) hf
    · replace hf := zz_neg c14 hf
      refine lv_iload hx hb dX10_layer_17 (lv_at hl 4 rfl) ?_
      refine lv_iconst (v := (1 : Int32)) hx hb dX10_layer_19 (by decide) ?_
      refine lv_bipush (v := (9 : Int32)) hx hb dX10_layer_20 (by decide) ?_
      obtain ⟨v22, hv22, hf⟩ := zz_b_i hf
      refine zr_cS X hR hl.1 (As := [.int x4, .int (1 : Int32), .int (9 : Int32)]) (rest := []) (mt_X10_isIn hT x4 (1 : Int32) (9 : Int32) h n hv22) mf_X10_isIn q_1367 q_1368 ⟨Nat.le_of_ble_eq_true rfl, Nat.le_of_ble_eq_true rfl⟩ ⟨Nat.le_of_ble_eq_true rfl, Nat.le_of_ble_eq_true rfl⟩ rfl (Nat.le_of_ble_eq_true rfl) dX10_layer_22 (fun H locs hR => ?_)
      refine W.eq (g2 := F0 m 25 ls [.int v22]) rfl ?_
      refine lv_if_eq (tgt := 32) hx hb dX10_layer_25 (by decide) (fun c25 => ?_) (fun c25 => ?_)
      · replace hf := zz_pos c25 hf
        exact bk_X10_layer_32 X hT hR (lv_sub hl [0, 1, 2, 3, 4] rfl) hf
      · replace hf := zz_neg c25 hf
        refine lv_iconst (v := (1 : Int32)) hx hb dX10_layer_28 (by decide) ?_
        refine lv_goto (tgt := 33) hx hb dX10_layer_29 (by decide) ?_
        exact bk_X10_layer_33 X hT hR (lv_sub hl [0, 1, 2, 3, 4] rfl) hf
end ZZM
