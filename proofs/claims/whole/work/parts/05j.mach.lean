section ZZM
def rm_X10_steps : Room := { frames := 2, cells := 0, slots := 0, locals := 43 }
theorem mf_X10_steps : zz_Mf yX10_steps cX10_steps 2 (some .int) 1 := ⟨q_1498, q_11, by decide +kernel, by decide +kernel, by decide +kernel⟩
set_option maxHeartbeats 4000000 in
set_option maxRecDepth 100000 in
theorem bk_X10_steps_23 {D : va_G} {dA : Nat → ClassId} {base t0 : Nat} {l : Launch} {p : Program} {e : Env} {s : State} {m : MethodId} {args : Array Value} {below : List Frame} {meth : Method} {c : Code} (X : zz_X D dA base t0 "SpringseatModel" cX10_steps 2 (some .int) l p s m meth c) (hT : l.stackTraces = false) {s0 : Int32} {h : zz_H} {n : Nat} {H : Heap} {locs : List Loc} {ls : Array Slot} (hR : zz_R D dA base h n s H locs) (hl : lv_has ls 2 []) {r0 : Int32} {hF : zz_H} (hf : f_X10_steps_23 s0 h = some (r0, hF)) : W p l e rm_X10_steps s m args below meth c H locs 0 0 (MQ below (zz_Qc D dA base (some (.int r0)) hF n) args s rm_X10_steps.cells rm_X10_steps.slots (fun q => base ≤ q)) (F0 m 23 ls [.int s0]) := by
  have hx := X.1
  have hb := X.2.1
  have hown := X.2.2.2.2.1
  unfold f_X10_steps_23 at hf
  cases hf
  exact zr_iret X hR dX10_steps_23 (Nat.le_of_ble_eq_true rfl) (Nat.le_of_ble_eq_true rfl)
set_option maxHeartbeats 4000000 in
set_option maxRecDepth 100000 in
theorem mt_X10_steps {D : va_G} {dA : Nat → ClassId} {base t0 : Nat} {l : Launch} (hT : l.stackTraces = false) (a0 : Nat) (x1 : Int32) (h : zz_H) (n : Nat) {r0 : Int32} {hF : zz_H} (hf : f_X10_steps a0 x1 h = some (r0, hF)) : zz_M D dA base t0 l yX10_steps cX10_steps 2 (some .int) rm_X10_steps [.ref a0, .int x1] h n (some (.int r0)) hF n := by
  refine Met.ofW (cc := cX10_steps) (maxL := 2) (ret := (some .int)) (by decide +kernel) rfl ?_
  intro p e s m args below meth c s₁ B hml hv
  obtain ⟨rfl, hP, hK⟩ := hv
  have X : zz_X D dA base t0 "SpringseatModel" cX10_steps 2 (some .int) l p s m meth c := ⟨B.exec, B.bytes, hml, B.returns, findClass_of_methodNamed B.named, B.notSynchronized, hT, by rw [hP.1]; exact hP.2.1, hK⟩
  have hx := X.1
  have hb := X.2.1
  have hown := X.2.2.2.2.1
  have hR : zz_R D dA base h n s s.heap [] := ⟨hP, va_S.rf⟩
  have hl := lv_entry ([.ref a0, .int x1]) (n := 2) (by exact Nat.le_of_ble_eq_true rfl)
  rw [lg_entry_eq]
  generalize (lg_sl ([.ref a0, .int x1]) ++ List.replicate (2 - (lg_sl ([.ref a0, .int x1])).length) Slot.unset).toArray = ls at hl ⊢
  have hl : lv_has ls 2 [(0, .ref a0), (1, .int x1)] := hl
  unfold f_X10_steps at hf
  refine lv_aload_n hx hb dX10_steps_0 rfl (lv_at hl 0 rfl) ?_
  refine lv_aload_n hx hb dX10_steps_1 rfl (lv_at hl 0 rfl) ?_
  refine lv_iload_n hx hb dX10_steps_2 rfl (lv_at hl 1 rfl) ?_
  obtain ⟨fs3, ho3, hf⟩ := zz_obS_i hf
  obtain ⟨v3, hv3, hf⟩ := zz_b_i hf
  refine zr_cV X hR hl.1 (As := [.int x1]) (rest := [.ref a0]) (C := RX10) (T := TX10) (N := 34) (mt_X10_isNoSeat hT a0 x1 h n hv3) rfl ho3 mf_X10_isNoSeat q_1378 q_1380 qs_18 ⟨Nat.le_of_ble_eq_true rfl, Nat.le_of_ble_eq_true rfl⟩ ⟨Nat.le_of_ble_eq_true rfl, Nat.le_of_ble_eq_true rfl⟩ rfl (Nat.le_of_ble_eq_true rfl) dX10_steps_3 (fun H locs hR => ?_)
  refine W.eq (g2 := F0 m 6 ls [.int v3, .ref a0]) rfl ?_
  refine lv_iconst (v := (1 : Int32)) hx hb dX10_steps_6 (by decide) ?_
  obtain ⟨fs7, ho7, hf⟩ := zz_obS_i hf
  obtain ⟨v7, h7, hv7, hf⟩ := zz_b1_i hf
  refine zr_cV X hR hl.1 (As := [.int v3, .int (1 : Int32)]) (rest := []) (C := RX10) (T := TX10) (N := 34) (mt_X10_isThrown hT a0 v3 (1 : Int32) h n hv7) rfl ho7 mf_X10_isThrown q_1370 q_1372 qs_17 ⟨Nat.le_of_ble_eq_true rfl, Nat.le_of_ble_eq_true rfl⟩ ⟨Nat.le_of_ble_eq_true rfl, Nat.le_of_ble_eq_true rfl⟩ rfl (Nat.le_of_ble_eq_true rfl) dX10_steps_7 (fun H locs hR => ?_)
  refine W.eq (g2 := F0 m 10 ls [.int v7]) rfl ?_
  refine lv_if_eq (tgt := 17) hx hb dX10_steps_10 (by decide) (fun c10 => ?_) (fun c10 => ?_)
  · replace hf := zz_pos c10 hf
    refine lv_aload_n hx hb dX10_steps_17 rfl (lv_at hl 0 rfl) ?_
    refine zr_gq X hR (r := (some a0)) fl_X10_16 dX10_steps_18 hf (fun v18 hf => ?_)
    refine lv_iload_n hx hb dX10_steps_21 rfl (lv_at hl 1 rfl) ?_
    refine zr_iald X hR (r := v18) dX10_steps_22 hf (fun v22 hf => ?_)
    exact bk_X10_steps_23 X hT hR (lv_sub hl [] rfl) hf
  · replace hf := zz_neg c10 hf
    refine lv_iconst (v := (0 : Int32)) hx hb dX10_steps_13 (by decide) ?_
    refine lv_goto (tgt := 23) hx hb dX10_steps_14 (by decide) ?_
    exact bk_X10_steps_23 X hT hR (lv_sub hl [] rfl) hf
def rm_X10_isNoStep : Room := { frames := 2, cells := 0, slots := 0, locals := 43 }
theorem mf_X10_isNoStep : zz_Mf yX10_isNoStep cX10_isNoStep 3 (some .boolean) 2 := ⟨q_1506, q_11, by decide +kernel, by decide +kernel, by decide +kernel⟩
set_option maxHeartbeats 4000000 in
set_option maxRecDepth 100000 in
theorem bk_X10_isNoStep_47 {D : va_G} {dA : Nat → ClassId} {base t0 : Nat} {l : Launch} {p : Program} {e : Env} {s : State} {m : MethodId} {args : Array Value} {below : List Frame} {meth : Method} {c : Code} (X : zz_X D dA base t0 "SpringseatModel" cX10_isNoStep 3 (some .boolean) l p s m meth c) (hT : l.stackTraces = false) {s0 : Int32} {h : zz_H} {n : Nat} {H : Heap} {locs : List Loc} {ls : Array Slot} (hR : zz_R D dA base h n s H locs) (hl : lv_has ls 3 []) {r0 : Int32} {hF : zz_H} (hf : f_X10_isNoStep_47 s0 h = some (r0, hF)) : W p l e rm_X10_isNoStep s m args below meth c H locs 0 0 (MQ below (zz_Qc D dA base (some (.int r0)) hF n) args s rm_X10_isNoStep.cells rm_X10_isNoStep.slots (fun q => base ≤ q)) (F0 m 47 ls [.int s0]) := by
  have hx := X.1
  have hb := X.2.1
  have hown := X.2.2.2.2.1
  unfold f_X10_isNoStep_47 at hf
  obtain ⟨hz47, hf⟩ := zz_gz_i hf
  cases hf
  exact zr_zret X hR (zz_nz hz47) dX10_isNoStep_47 (Nat.le_of_ble_eq_true rfl) (Nat.le_of_ble_eq_true rfl)
set_option maxHeartbeats 4000000 in
set_option maxRecDepth 100000 in
theorem bk_X10_isNoStep_42 {D : va_G} {dA : Nat → ClassId} {base t0 : Nat} {l : Launch} {p : Program} {e : Env} {s : State} {m : MethodId} {args : Array Value} {below : List Frame} {meth : Method} {c : Code} (X : zz_X D dA base t0 "SpringseatModel" cX10_isNoStep 3 (some .boolean) l p s m meth c) (hT : l.stackTraces = false) {h : zz_H} {n : Nat} {H : Heap} {locs : List Loc} {ls : Array Slot} (hR : zz_R D dA base h n s H locs) (hl : lv_has ls 3 []) {r0 : Int32} {hF : zz_H} (hf : f_X10_isNoStep_42 h = some (r0, hF)) : W p l e rm_X10_isNoStep s m args below meth c H locs 0 0 (MQ below (zz_Qc D dA base (some (.int r0)) hF n) args s rm_X10_isNoStep.cells rm_X10_isNoStep.slots (fun q => base ≤ q)) (F0 m 42 ls []) := by
  have hx := X.1
  have hb := X.2.1
  have hown := X.2.2.2.2.1
  unfold f_X10_isNoStep_42 at hf
  refine lv_iconst (v := (1 : Int32)) hx hb dX10_isNoStep_42 (by decide) ?_
  refine lv_goto (tgt := 47) hx hb dX10_isNoStep_43 (by decide) ?_
  exact bk_X10_isNoStep_47 X hT hR (lv_sub hl [] rfl) hf
set_option maxHeartbeats 4000000 in
set_option maxRecDepth 100000 in
theorem bk_X10_isNoStep_35 {D : va_G} {dA : Nat → ClassId} {base t0 : Nat} {l : Launch} {p : Program} {e : Env} {s : State} {m : MethodId} {args : Array Value} {below : List Frame} {meth : Method} {c : Code} (X : zz_X D dA base t0 "SpringseatModel" cX10_isNoStep 3 (some .boolean) l p s m meth c) (hT : l.stackTraces = false) {s0 : Int32} {s1 : (Option Nat)} {h : zz_H} {n : Nat} {H : Heap} {locs : List Loc} {ls : Array Slot} (hR : zz_R D dA base h n s H locs) (hl : lv_has ls 3 []) {r0 : Int32} {hF : zz_H} (hf : f_X10_isNoStep_35 s0 s1 h = some (r0, hF)) : W p l e rm_X10_isNoStep s m args below meth c H locs 0 0 (MQ below (zz_Qc D dA base (some (.int r0)) hF n) args s rm_X10_isNoStep.cells rm_X10_isNoStep.slots (fun q => base ≤ q)) (F0 m 35 ls [.int s0, va_rf s1]) := by
  have hx := X.1
  have hb := X.2.1
  have hown := X.2.2.2.2.1
  unfold f_X10_isNoStep_35 at hf
  refine lv_iconst (v := (2 : Int32)) hx hb dX10_isNoStep_35 (by decide) ?_
  obtain ⟨b36, fs36, hr36, ho36, hf⟩ := zz_ob_i hf
  obtain ⟨v36, h36, hv36, hf⟩ := zz_b1_i hf
  refine zr_cV X hR hl.1 (As := [.int s0, .int (2 : Int32)]) (rest := []) (C := RX10) (T := TX10) (N := 34) (mt_X10_isThrown hT b36 s0 (2 : Int32) h n hv36) rfl ho36 mf_X10_isThrown q_1370 q_1372 qs_17 ⟨Nat.le_of_ble_eq_true rfl, Nat.le_of_ble_eq_true rfl⟩ ⟨Nat.le_of_ble_eq_true rfl, Nat.le_of_ble_eq_true rfl⟩ (by rw [hr36]; rfl) (Nat.le_of_ble_eq_true rfl) dX10_isNoStep_36 (fun H locs hR => ?_)
  refine W.eq (g2 := F0 m 39 ls [.int v36]) rfl ?_
  refine lv_if_eq (tgt := 46) hx hb dX10_isNoStep_39 (by decide) (fun c39 => ?_) (fun c39 => ?_)
  · replace hf := zz_pos c39 hf
    refine lv_iconst (v := (0 : Int32)) hx hb dX10_isNoStep_46 (by decide) ?_
    exact bk_X10_isNoStep_47 X hT hR (lv_sub hl [] rfl) hf
  · replace hf := zz_neg c39 hf
    exact bk_X10_isNoStep_42 X hT hR (lv_sub hl [] rfl) hf
set_option maxHeartbeats 4000000 in
set_option maxRecDepth 100000 in
theorem mt_X10_isNoStep {D : va_G} {dA : Nat → ClassId} {base t0 : Nat} {l : Launch} (hT : l.stackTraces = false) (a0 : Nat) (x1 : Int32) (x2 : Int32) (h : zz_H) (n : Nat) {r0 : Int32} {hF : zz_H} (hf : f_X10_isNoStep a0 x1 x2 h = some (r0, hF)) : zz_M D dA base t0 l yX10_isNoStep cX10_isNoStep 3 (some .boolean) rm_X10_isNoStep [.ref a0, .int x1, .int x2] h n (some (.int r0)) hF n := by
  refine Met.ofW (cc := cX10_isNoStep) (maxL := 3) (ret := (some .boolean)) (by decide +kernel) rfl ?_
  intro p e s m args below meth c s₁ B hml hv
  obtain ⟨rfl, hP, hK⟩ := hv
  have X : zz_X D dA base t0 "SpringseatModel" cX10_isNoStep 3 (some .boolean) l p s m meth c := ⟨B.exec, B.bytes, hml, B.returns, findClass_of_methodNamed B.named, B.notSynchronized, hT, by rw [hP.1]; exact hP.2.1, hK⟩
  have hx := X.1
  have hb := X.2.1
  have hown := X.2.2.2.2.1
  have hR : zz_R D dA base h n s s.heap [] := ⟨hP, va_S.rf⟩
  have hl := lv_entry ([.ref a0, .int x1, .int x2]) (n := 3) (by exact Nat.le_of_ble_eq_true rfl)
  rw [lg_entry_eq]
  generalize (lg_sl ([.ref a0, .int x1, .int x2]) ++ List.replicate (3 - (lg_sl ([.ref a0, .int x1, .int x2])).length) Slot.unset).toArray = ls at hl ⊢
  have hl : lv_has ls 3 [(0, .ref a0), (1, .int x1), (2, .int x2)] := hl
  unfold f_X10_isNoStep at hf
  refine lv_aload_n hx hb dX10_isNoStep_0 rfl (lv_at hl 0 rfl) ?_
  refine lv_aload_n hx hb dX10_isNoStep_1 rfl (lv_at hl 0 rfl) ?_
  refine lv_iload_n hx hb dX10_isNoStep_2 rfl (lv_at hl 1 rfl) ?_
  obtain ⟨fs3, ho3, hf⟩ := zz_obS_i hf
  obtain ⟨v3, hv3, hf⟩ := zz_b_i hf
  refine zr_cV X hR hl.1 (As := [.int x1]) (rest := [.ref a0]) (C := RX10) (T := TX10) (N := 34) (mt_X10_isNoSeat hT a0 x1 h n hv3) rfl ho3 mf_X10_isNoSeat q_1378 q_1380 qs_18 ⟨Nat.le_of_ble_eq_true rfl, Nat.le_of_ble_eq_true rfl⟩ ⟨Nat.le_of_ble_eq_true rfl, Nat.le_of_ble_eq_true rfl⟩ rfl (Nat.le_of_ble_eq_true rfl) dX10_isNoStep_3 (fun H locs hR => ?_)
  refine W.eq (g2 := F0 m 6 ls [.int v3, .ref a0]) rfl ?_
  refine lv_iconst (v := (1 : Int32)) hx hb dX10_isNoStep_6 (by decide) ?_
  obtain ⟨fs7, ho7, hf⟩ := zz_obS_i hf
  obtain ⟨v7, h7, hv7, hf⟩ := zz_b1_i hf
  refine zr_cV X hR hl.1 (As := [.int v3, .int (1 : Int32)]) (rest := []) (C := RX10) (T := TX10) (N := 34) (mt_X10_isThrown hT a0 v3 (1 : Int32) h n hv7) rfl ho7 mf_X10_isThrown q_1370 q_1372 qs_17 ⟨Nat.le_of_ble_eq_true rfl, Nat.le_of_ble_eq_true rfl⟩ ⟨Nat.le_of_ble_eq_true rfl, Nat.le_of_ble_eq_true rfl⟩ rfl (Nat.le_of_ble_eq_true rfl) dX10_isNoStep_7 (fun H locs hR => ?_)
  refine W.eq (g2 := F0 m 10 ls [.int v7]) rfl ?_
  refine lv_if_ne (tgt := 42) hx hb dX10_isNoStep_10 (by decide) (fun c10 => ?_) (fun c10 => ?_)
  · replace hf := zz_neg c10 hf
    exact bk_X10_isNoStep_42 X hT hR (lv_sub hl [] rfl) hf
  · replace hf := zz_pos c10 hf
    refine lv_aload_n hx hb dX10_isNoStep_13 rfl (lv_at hl 0 rfl) ?_
    refine lv_iload_n hx hb dX10_isNoStep_14 rfl (lv_at hl 2 rfl) ?_
    refine lv_iconst (v := (0 : Int32)) hx hb dX10_isNoStep_15 (by decide) ?_
    refine lv_aload_n hx hb dX10_isNoStep_16 rfl (lv_at hl 0 rfl) ?_
    refine zr_gq X hR (r := (some a0)) fl_X10_16 dX10_isNoStep_17 hf (fun v17 hf => ?_)
    refine lv_iload_n hx hb dX10_isNoStep_20 rfl (lv_at hl 1 rfl) ?_
    refine zr_iald X hR (r := v17) dX10_isNoStep_21 hf (fun v21 hf => ?_)
    refine lv_iconst (v := (1 : Int32)) hx hb dX10_isNoStep_22 (by decide) ?_
    refine lv_isub hx hb dX10_isNoStep_23 ?_
    obtain ⟨v24, hv24, hf⟩ := zz_b_i hf
    refine zr_cS X hR hl.1 (As := [.int x2, .int (0 : Int32), .int (v21 - (1 : Int32))]) (rest := [.ref a0]) (mt_X10_isIn hT x2 (0 : Int32) (v21 - (1 : Int32)) h7 n hv24) mf_X10_isIn q_1367 q_1368 ⟨Nat.le_of_ble_eq_true rfl, Nat.le_of_ble_eq_true rfl⟩ ⟨Nat.le_of_ble_eq_true rfl, Nat.le_of_ble_eq_true rfl⟩ rfl (Nat.le_of_ble_eq_true rfl) dX10_isNoStep_24 (fun H locs hR => ?_)
    refine W.eq (g2 := F0 m 27 ls [.int v24, .ref a0]) rfl ?_
    refine lv_if_ne (tgt := 34) hx hb dX10_isNoStep_27 (by decide) (fun c27 => ?_) (fun c27 => ?_)
    · replace hf := zz_neg c27 hf
      refine lv_iconst (v := (0 : Int32)) hx hb dX10_isNoStep_34 (by decide) ?_
      exact bk_X10_isNoStep_35 X hT hR (lv_sub hl [] rfl) hf
    · replace hf := zz_pos c27 hf
      refine lv_iconst (v := (1 : Int32)) hx hb dX10_isNoStep_30 (by decide) ?_
      refine lv_goto (tgt := 35) hx hb dX10_isNoStep_31 (by decide) ?_
      exact bk_X10_isNoStep_35 X hT hR (lv_sub hl [] rfl) hf
def rm_X10_step : Room := { frames := 3, cells := 0, slots := 0, locals := 65 }
theorem mf_X10_step : zz_Mf yX10_step cX10_step 3 (some .char) 2 := ⟨q_1502, q_11, by decide +kernel, by decide +kernel, by decide +kernel⟩
set_option maxHeartbeats 4000000 in
set_option maxRecDepth 100000 in
theorem bk_X10_step_22 {D : va_G} {dA : Nat → ClassId} {base t0 : Nat} {l : Launch} {p : Program} {e : Env} {s : State} {m : MethodId} {args : Array Value} {below : List Frame} {meth : Method} {c : Code} (X : zz_X D dA base t0 "SpringseatModel" cX10_step 3 (some .char) l p s m meth c) (hT : l.stackTraces = false) {s0 : Int32} {h : zz_H} {n : Nat} {H : Heap} {locs : List Loc} {ls : Array Slot} (hR : zz_R D dA base h n s H locs) (hl : lv_has ls 3 []) {r0 : Int32} {hF : zz_H} (hf : f_X10_step_22 s0 h = some (r0, hF)) : W p l e rm_X10_step s m args below meth c H locs 0 0 (MQ below (zz_Qc D dA base (some (.int r0)) hF n) args s rm_X10_step.cells rm_X10_step.slots (fun q => base ≤ q)) (F0 m 22 ls [.int s0]) := by
  have hx := X.1
  have hb := X.2.1
  have hown := X.2.2.2.2.1
  unfold f_X10_step_22 at hf
  obtain ⟨hz22, hf⟩ := zz_gc_i hf
  cases hf
  exact zr_zret X hR (zz_nc hz22) dX10_step_22 (Nat.le_of_ble_eq_true rfl) (Nat.le_of_ble_eq_true rfl)
set_option maxHeartbeats 4000000 in
set_option maxRecDepth 100000 in
theorem mt_X10_step {D : va_G} {dA : Nat → ClassId} {base t0 : Nat} {l : Launch} (hT : l.stackTraces = false) (a0 : Nat) (x1 : Int32) (x2 : Int32) (h : zz_H) (n : Nat) {r0 : Int32} {hF : zz_H} (hf : f_X10_step a0 x1 x2 h = some (r0, hF)) : zz_M D dA base t0 l yX10_step cX10_step 3 (some .char) rm_X10_step [.ref a0, .int x1, .int x2] h n (some (.int r0)) hF n := by
  refine Met.ofW (cc := cX10_step) (maxL := 3) (ret := (some .char)) (by decide +kernel) rfl ?_
  intro p e s m args below meth c s₁ B hml hv
  obtain ⟨rfl, hP, hK⟩ := hv
  have X : zz_X D dA base t0 "SpringseatModel" cX10_step 3 (some .char) l p s m meth c := ⟨B.exec, B.bytes, hml, B.returns, findClass_of_methodNamed B.named, B.notSynchronized, hT, by rw [hP.1]; exact hP.2.1, hK⟩
  have hx := X.1
  have hb := X.2.1
  have hown := X.2.2.2.2.1
  have hR : zz_R D dA base h n s s.heap [] := ⟨hP, va_S.rf⟩
  have hl := lv_entry ([.ref a0, .int x1, .int x2]) (n := 3) (by exact Nat.le_of_ble_eq_true rfl)
  rw [lg_entry_eq]
  generalize (lg_sl ([.ref a0, .int x1, .int x2]) ++ List.replicate (3 - (lg_sl ([.ref a0, .int x1, .int x2])).length) Slot.unset).toArray = ls at hl ⊢
  have hl : lv_has ls 3 [(0, .ref a0), (1, .int x1), (2, .int x2)] := hl
  unfold f_X10_step at hf
  refine lv_aload_n hx hb dX10_step_0 rfl (lv_at hl 0 rfl) ?_
  refine lv_iload_n hx hb dX10_step_1 rfl (lv_at hl 1 rfl) ?_
  refine lv_iload_n hx hb dX10_step_2 rfl (lv_at hl 2 rfl) ?_
  obtain ⟨fs3, ho3, hf⟩ := zz_obS_i hf
  obtain ⟨v3, h3, hv3, hf⟩ := zz_b1_i hf
  refine zr_cV X hR hl.1 (As := [.int x1, .int x2]) (rest := []) (C := RX10) (T := TX10) (N := 34) (mt_X10_isNoStep hT a0 x1 x2 h n hv3) rfl ho3 mf_X10_isNoStep q_1503 q_1505 qs_34 ⟨Nat.le_of_ble_eq_true rfl, Nat.le_of_ble_eq_true rfl⟩ ⟨Nat.le_of_ble_eq_true rfl, Nat.le_of_ble_eq_true rfl⟩ rfl (Nat.le_of_ble_eq_true rfl) dX10_step_3 (fun H locs hR => ?_)
  refine W.eq (g2 := F0 m 6 ls [.int v3]) rfl ?_
  refine lv_if_eq (tgt := 14) hx hb dX10_step_6 (by decide) (fun c6 => ?_) (fun c6 => ?_)
  · replace hf := zz_pos c6 hf
    refine lv_aload_n hx hb dX10_step_14 rfl (lv_at hl 0 rfl) ?_
    refine zr_gq X hR (r := (some a0)) fl_X10_21 dX10_step_15 hf (fun v15 hf => ?_)
    refine lv_iload_n hx hb dX10_step_18 rfl (lv_at hl 1 rfl) ?_
    refine zr_aald X hR (t := 8) (r := v15) (by decide) rfl dX10_step_19 hf (fun v19 hf => ?_)
    refine lv_iload_n hx hb dX10_step_20 rfl (lv_at hl 2 rfl) ?_
    refine zr_cald X hR (r := v19) dX10_step_21 hf (fun v21 hf => ?_)
    exact bk_X10_step_22 X hT hR (lv_sub hl [] rfl) hf
  · replace hf := zz_neg c6 hf
    refine lv_bipush (v := (32 : Int32)) hx hb dX10_step_9 (by decide) ?_
    refine lv_goto (tgt := 22) hx hb dX10_step_11 (by decide) ?_
    exact bk_X10_step_22 X hT hR (lv_sub hl [] rfl) hf
def rm_X10_isSigned : Room := { frames := 3, cells := 0, slots := 0, locals := 65 }
theorem mf_X10_isSigned : zz_Mf yX10_isSigned cX10_isSigned 3 (some .boolean) 2 := ⟨q_1510, q_11, by decide +kernel, by decide +kernel, by decide +kernel⟩
set_option maxHeartbeats 4000000 in
set_option maxRecDepth 100000 in
theorem bk_X10_isSigned_25 {D : va_G} {dA : Nat → ClassId} {base t0 : Nat} {l : Launch} {p : Program} {e : Env} {s : State} {m : MethodId} {args : Array Value} {below : List Frame} {meth : Method} {c : Code} (X : zz_X D dA base t0 "SpringseatModel" cX10_isSigned 3 (some .boolean) l p s m meth c) (hT : l.stackTraces = false) {s0 : Int32} {h : zz_H} {n : Nat} {H : Heap} {locs : List Loc} {ls : Array Slot} (hR : zz_R D dA base h n s H locs) (hl : lv_has ls 3 []) {r0 : Int32} {hF : zz_H} (hf : f_X10_isSigned_25 s0 h = some (r0, hF)) : W p l e rm_X10_isSigned s m args below meth c H locs 0 0 (MQ below (zz_Qc D dA base (some (.int r0)) hF n) args s rm_X10_isSigned.cells rm_X10_isSigned.slots (fun q => base ≤ q)) (F0 m 25 ls [.int s0]) := by
  have hx := X.1
  have hb := X.2.1
  have hown := X.2.2.2.2.1
  unfold f_X10_isSigned_25 at hf
  obtain ⟨hz25, hf⟩ := zz_gz_i hf
  cases hf
  exact zr_zret X hR (zz_nz hz25) dX10_isSigned_25 (Nat.le_of_ble_eq_true rfl) (Nat.le_of_ble_eq_true rfl)
set_option maxHeartbeats 4000000 in
set_option maxRecDepth 100000 in
theorem bk_X10_isSigned_24 {D : va_G} {dA : Nat → ClassId} {base t0 : Nat} {l : Launch} {p : Program} {e : Env} {s : State} {m : MethodId} {args : Array Value} {below : List Frame} {meth : Method} {c : Code} (X : zz_X D dA base t0 "SpringseatModel" cX10_isSigned 3 (some .boolean) l p s m meth c) (hT : l.stackTraces = false) {h : zz_H} {n : Nat} {H : Heap} {locs : List Loc} {ls : Array Slot} (hR : zz_R D dA base h n s H locs) (hl : lv_has ls 3 []) {r0 : Int32} {hF : zz_H} (hf : f_X10_isSigned_24 h = some (r0, hF)) : W p l e rm_X10_isSigned s m args below meth c H locs 0 0 (MQ below (zz_Qc D dA base (some (.int r0)) hF n) args s rm_X10_isSigned.cells rm_X10_isSigned.slots (fun q => base ≤ q)) (F0 m 24 ls []) := by
  have hx := X.1
  have hb := X.2.1
  have hown := X.2.2.2.2.1
  unfold f_X10_isSigned_24 at hf
  refine lv_iconst (v := (0 : Int32)) hx hb dX10_isSigned_24 (by decide) ?_
  exact bk_X10_isSigned_25 X hT hR (lv_sub hl [] rfl) hf
set_option maxHeartbeats 4000000 in
set_option maxRecDepth 100000 in
theorem mt_X10_isSigned {D : va_G} {dA : Nat → ClassId} {base t0 : Nat} {l : Launch} (hT : l.stackTraces = false) (a0 : Nat) (x1 : Int32) (x2 : Int32) (h : zz_H) (n : Nat) {r0 : Int32} {hF : zz_H} (hf : f_X10_isSigned a0 x1 x2 h = some (r0, hF)) : zz_M D dA base t0 l yX10_isSigned cX10_isSigned 3 (some .boolean) rm_X10_isSigned [.ref a0, .int x1, .int x2] h n (some (.int r0)) hF n := by
  refine Met.ofW (cc := cX10_isSigned) (maxL := 3) (ret := (some .boolean)) (by decide +kernel) rfl ?_
  intro p e s m args below meth c s₁ B hml hv
  obtain ⟨rfl, hP, hK⟩ := hv
  have X : zz_X D dA base t0 "SpringseatModel" cX10_isSigned 3 (some .boolean) l p s m meth c := ⟨B.exec, B.bytes, hml, B.returns, findClass_of_methodNamed B.named, B.notSynchronized, hT, by rw [hP.1]; exact hP.2.1, hK⟩
  have hx := X.1
  have hb := X.2.1
  have hown := X.2.2.2.2.1
  have hR : zz_R D dA base h n s s.heap [] := ⟨hP, va_S.rf⟩
  have hl := lv_entry ([.ref a0, .int x1, .int x2]) (n := 3) (by exact Nat.le_of_ble_eq_true rfl)
  rw [lg_entry_eq]
  generalize (lg_sl ([.ref a0, .int x1, .int x2]) ++ List.replicate (3 - (lg_sl ([.ref a0, .int x1, .int x2])).length) Slot.unset).toArray = ls at hl ⊢
  have hl : lv_has ls 3 [(0, .ref a0), (1, .int x1), (2, .int x2)] := hl
  unfold f_X10_isSigned at hf
  refine lv_aload_n hx hb dX10_isSigned_0 rfl (lv_at hl 0 rfl) ?_
  refine lv_iload_n hx hb dX10_isSigned_1 rfl (lv_at hl 1 rfl) ?_
  refine lv_iload_n hx hb dX10_isSigned_2 rfl (lv_at hl 2 rfl) ?_
  obtain ⟨fs3, ho3, hf⟩ := zz_obS_i hf
  obtain ⟨v3, h3, hv3, hf⟩ := zz_b1_i hf
  refine zr_cV X hR hl.1 (As := [.int x1, .int x2]) (rest := []) (C := RX10) (T := TX10) (N := 34) (mt_X10_isNoStep hT a0 x1 x2 h n hv3) rfl ho3 mf_X10_isNoStep q_1503 q_1505 qs_34 ⟨Nat.le_of_ble_eq_true rfl, Nat.le_of_ble_eq_true rfl⟩ ⟨Nat.le_of_ble_eq_true rfl, Nat.le_of_ble_eq_true rfl⟩ rfl (Nat.le_of_ble_eq_true rfl) dX10_isSigned_3 (fun H locs hR => ?_)
  refine W.eq (g2 := F0 m 6 ls [.int v3]) rfl ?_
  refine lv_if_ne (tgt := 24) hx hb dX10_isSigned_6 (by decide) (fun c6 => ?_) (fun c6 => ?_)
  · replace hf := zz_neg c6 hf
    exact bk_X10_isSigned_24 X hT hR (lv_sub hl [] rfl) hf
  · replace hf := zz_pos c6 hf
    refine lv_aload_n hx hb dX10_isSigned_9 rfl (lv_at hl 0 rfl) ?_
    refine zr_gq X hR (r := (some a0)) fl_X10_26 dX10_isSigned_10 hf (fun v10 hf => ?_)
    refine lv_iload_n hx hb dX10_isSigned_13 rfl (lv_at hl 1 rfl) ?_
    refine zr_aald X hR (t := 9) (r := v10) (by decide) rfl dX10_isSigned_14 hf (fun v14 hf => ?_)
    refine lv_iload_n hx hb dX10_isSigned_15 rfl (lv_at hl 2 rfl) ?_
    refine zr_zald X hR (r := v14) dX10_isSigned_16 hf (fun v16 hf => ?_)
    refine lv_if_eq (tgt := 24) hx hb dX10_isSigned_17 (by decide) (fun c17 => ?_) (fun c17 => ?_)
    · replace hf := zz_pos c17 hf
      exact bk_X10_isSigned_24 X hT hR (lv_sub hl [] rfl) hf
    · replace hf := zz_neg c17 hf
      refine lv_iconst (v := (1 : Int32)) hx hb dX10_isSigned_20 (by decide) ?_
      refine lv_goto (tgt := 25) hx hb dX10_isSigned_21 (by decide) ?_
      exact bk_X10_isSigned_25 X hT hR (lv_sub hl [] rfl) hf
def rm_X10_isClosed : Room := { frames := 2, cells := 0, slots := 0, locals := 43 }
theorem mf_X10_isClosed : zz_Mf yX10_isClosed cX10_isClosed 2 (some .boolean) 1 := ⟨q_1514, q_11, by decide +kernel, by decide +kernel, by decide +kernel⟩
set_option maxHeartbeats 4000000 in
set_option maxRecDepth 100000 in
theorem bk_X10_isClosed_28 {D : va_G} {dA : Nat → ClassId} {base t0 : Nat} {l : Launch} {p : Program} {e : Env} {s : State} {m : MethodId} {args : Array Value} {below : List Frame} {meth : Method} {c : Code} (X : zz_X D dA base t0 "SpringseatModel" cX10_isClosed 2 (some .boolean) l p s m meth c) (hT : l.stackTraces = false) {s0 : Int32} {h : zz_H} {n : Nat} {H : Heap} {locs : List Loc} {ls : Array Slot} (hR : zz_R D dA base h n s H locs) (hl : lv_has ls 2 []) {r0 : Int32} {hF : zz_H} (hf : f_X10_isClosed_28 s0 h = some (r0, hF)) : W p l e rm_X10_isClosed s m args below meth c H locs 0 0 (MQ below (zz_Qc D dA base (some (.int r0)) hF n) args s rm_X10_isClosed.cells rm_X10_isClosed.slots (fun q => base ≤ q)) (F0 m 28 ls [.int s0]) := by
  have hx := X.1
  have hb := X.2.1
  have hown := X.2.2.2.2.1
  unfold f_X10_isClosed_28 at hf
  obtain ⟨hz28, hf⟩ := zz_gz_i hf
  cases hf
  exact zr_zret X hR (zz_nz hz28) dX10_isClosed_28 (Nat.le_of_ble_eq_true rfl) (Nat.le_of_ble_eq_true rfl)
set_option maxHeartbeats 4000000 in
set_option maxRecDepth 100000 in
theorem bk_X10_isClosed_27 {D : va_G} {dA : Nat → ClassId} {base t0 : Nat} {l : Launch} {p : Program} {e : Env} {s : State} {m : MethodId} {args : Array Value} {below : List Frame} {meth : Method} {c : Code} (X : zz_X D dA base t0 "SpringseatModel" cX10_isClosed 2 (some .boolean) l p s m meth c) (hT : l.stackTraces = false) {h : zz_H} {n : Nat} {H : Heap} {locs : List Loc} {ls : Array Slot} (hR : zz_R D dA base h n s H locs) (hl : lv_has ls 2 []) {r0 : Int32} {hF : zz_H} (hf : f_X10_isClosed_27 h = some (r0, hF)) : W p l e rm_X10_isClosed s m args below meth c H locs 0 0 (MQ below (zz_Qc D dA base (some (.int r0)) hF n) args s rm_X10_isClosed.cells rm_X10_isClosed.slots (fun q => base ≤ q)) (F0 m 27 ls []) := by
  have hx := X.1
  have hb := X.2.1
  have hown := X.2.2.2.2.1
  unfold f_X10_isClosed_27 at hf
  refine lv_iconst (v := (0 : Int32)) hx hb dX10_isClosed_27 (by decide) ?_
  exact bk_X10_isClosed_28 X hT hR (lv_sub hl [] rfl) hf
set_option maxHeartbeats 4000000 in
set_option maxRecDepth 100000 in
theorem mt_X10_isClosed {D : va_G} {dA : Nat → ClassId} {base t0 : Nat} {l : Launch} (hT : l.stackTraces = false) (a0 : Nat) (x1 : Int32) (h : zz_H) (n : Nat) {r0 : Int32} {hF : zz_H} (hf : f_X10_isClosed a0 x1 h = some (r0, hF)) : zz_M D dA base t0 l yX10_isClosed cX10_isClosed 2 (some .boolean) rm_X10_isClosed [.ref a0, .int x1] h n (some (.int r0)) hF n := by
  refine Met.ofW (cc := cX10_isClosed) (maxL := 2) (ret := (some .boolean)) (by decide +kernel) rfl ?_
  intro p e s m args below meth c s₁ B hml hv
  obtain ⟨rfl, hP, hK⟩ := hv
  have X : zz_X D dA base t0 "SpringseatModel" cX10_isClosed 2 (some .boolean) l p s m meth c := ⟨B.exec, B.bytes, hml, B.returns, findClass_of_methodNamed B.named, B.notSynchronized, hT, by rw [hP.1]; exact hP.2.1, hK⟩
  have hx := X.1
  have hb := X.2.1
  have hown := X.2.2.2.2.1
  have hR : zz_R D dA base h n s s.heap [] := ⟨hP, va_S.rf⟩
  have hl := lv_entry ([.ref a0, .int x1]) (n := 2) (by exact Nat.le_of_ble_eq_true rfl)
  rw [lg_entry_eq]
  generalize (lg_sl ([.ref a0, .int x1]) ++ List.replicate (2 - (lg_sl ([.ref a0, .int x1])).length) Slot.unset).toArray = ls at hl ⊢
  have hl : lv_has ls 2 [(0, .ref a0), (1, .int x1)] := hl
  unfold f_X10_isClosed at hf
  refine lv_aload_n hx hb dX10_isClosed_0 rfl (lv_at hl 0 rfl) ?_
  refine lv_aload_n hx hb dX10_isClosed_1 rfl (lv_at hl 0 rfl) ?_
  refine lv_iload_n hx hb dX10_isClosed_2 rfl (lv_at hl 1 rfl) ?_
  obtain ⟨fs3, ho3, hf⟩ := zz_obS_i hf
  obtain ⟨v3, hv3, hf⟩ := zz_b_i hf
  refine zr_cV X hR hl.1 (As := [.int x1]) (rest := [.ref a0]) (C := RX10) (T := TX10) (N := 34) (mt_X10_isNoSeat hT a0 x1 h n hv3) rfl ho3 mf_X10_isNoSeat q_1378 q_1380 qs_18 ⟨Nat.le_of_ble_eq_true rfl, Nat.le_of_ble_eq_true rfl⟩ ⟨Nat.le_of_ble_eq_true rfl, Nat.le_of_ble_eq_true rfl⟩ rfl (Nat.le_of_ble_eq_true rfl) dX10_isClosed_3 (fun H locs hR => ?_)
  refine W.eq (g2 := F0 m 6 ls [.int v3, .ref a0]) rfl ?_
  refine lv_iconst (v := (1 : Int32)) hx hb dX10_isClosed_6 (by decide) ?_
  obtain ⟨fs7, ho7, hf⟩ := zz_obS_i hf
  obtain ⟨v7, h7, hv7, hf⟩ := zz_b1_i hf
  refine zr_cV X hR hl.1 (As := [.int v3, .int (1 : Int32)]) (rest := []) (C := RX10) (T := TX10) (N := 34) (mt_X10_isThrown hT a0 v3 (1 : Int32) h n hv7) rfl ho7 mf_X10_isThrown q_1370 q_1372 qs_17 ⟨Nat.le_of_ble_eq_true rfl, Nat.le_of_ble_eq_true rfl⟩ ⟨Nat.le_of_ble_eq_true rfl, Nat.le_of_ble_eq_true rfl⟩ rfl (Nat.le_of_ble_eq_true rfl) dX10_isClosed_7 (fun H locs hR => ?_)
  refine W.eq (g2 := F0 m 10 ls [.int v7]) rfl ?_
  refine lv_if_ne (tgt := 27) hx hb dX10_isClosed_10 (by decide) (fun c10 => ?_) (fun c10 => ?_)
  · replace hf := zz_neg c10 hf
    exact bk_X10_isClosed_27 X hT hR (lv_sub hl [] rfl) hf
  · replace hf := zz_pos c10 hf
    refine lv_aload_n hx hb dX10_isClosed_13 rfl (lv_at hl 0 rfl) ?_
    refine lv_iload_n hx hb dX10_isClosed_14 rfl (lv_at hl 1 rfl) ?_
    obtain ⟨fs15, ho15, hf⟩ := zz_obS_i hf
    obtain ⟨v15, hv15, hf⟩ := zz_b_i hf
    refine zr_cV X hR hl.1 (As := [.int x1]) (rest := []) (C := RX10) (T := TX10) (N := 34) (mt_X10_last hT a0 x1 h7 n hv15) rfl ho15 mf_X10_last q_1386 q_1388 qs_20 ⟨Nat.le_of_ble_eq_true rfl, Nat.le_of_ble_eq_true rfl⟩ ⟨Nat.le_of_ble_eq_true rfl, Nat.le_of_ble_eq_true rfl⟩ rfl (Nat.le_of_ble_eq_true rfl) dX10_isClosed_15 (fun H locs hR => ?_)
    refine W.eq (g2 := F0 m 18 ls [.int v15]) rfl ?_
    refine lv_bipush (v := (99 : Int32)) hx hb dX10_isClosed_18 (by decide) ?_
    refine lv_icmp_ne (tgt := 27) hx hb dX10_isClosed_20 (by decide) (fun c20 => ?_) (fun c20 => ?_)
    · replace hf := zz_neg c20 hf
      exact bk_X10_isClosed_27 X hT hR (lv_sub hl [] rfl) hf
    · replace hf := zz_pos c20 hf
      refine lv_iconst (v := (1 : Int32)) hx hb dX10_isClosed_23 (by decide) ?_
      refine lv_goto (tgt := 28) hx hb dX10_isClosed_24 (by decide) ?_
      exact bk_X10_isClosed_28 X hT hR (lv_sub hl [] rfl) hf
def rm_X10_stands : Room := { frames := 3, cells := 0, slots := 0, locals := 65 }
theorem mf_X10_stands : zz_Mf yX10_stands cX10_stands 3 (some .int) 2 := ⟨q_1518, q_11, by decide +kernel, by decide +kernel, by decide +kernel⟩
set_option maxHeartbeats 4000000 in
set_option maxRecDepth 100000 in
theorem bk_X10_stands_31 {D : va_G} {dA : Nat → ClassId} {base t0 : Nat} {l : Launch} {p : Program} {e : Env} {s : State} {m : MethodId} {args : Array Value} {below : List Frame} {meth : Method} {c : Code} (X : zz_X D dA base t0 "SpringseatModel" cX10_stands 3 (some .int) l p s m meth c) (hT : l.stackTraces = false) {s0 : Int32} {h : zz_H} {n : Nat} {H : Heap} {locs : List Loc} {ls : Array Slot} (hR : zz_R D dA base h n s H locs) (hl : lv_has ls 3 []) {r0 : Int32} {hF : zz_H} (hf : f_X10_stands_31 s0 h = some (r0, hF)) : W p l e rm_X10_stands s m args below meth c H locs 0 0 (MQ below (zz_Qc D dA base (some (.int r0)) hF n) args s rm_X10_stands.cells rm_X10_stands.slots (fun q => base ≤ q)) (F0 m 31 ls [.int s0]) := by
  have hx := X.1
  have hb := X.2.1
  have hown := X.2.2.2.2.1
  unfold f_X10_stands_31 at hf
  cases hf
  exact zr_iret X hR dX10_stands_31 (Nat.le_of_ble_eq_true rfl) (Nat.le_of_ble_eq_true rfl)
set_option maxHeartbeats 4000000 in
set_option maxRecDepth 100000 in
theorem mt_X10_stands {D : va_G} {dA : Nat → ClassId} {base t0 : Nat} {l : Launch} (hT : l.stackTraces = false) (a0 : Nat) (x1 : Int32) (x2 : Int32) (h : zz_H) (n : Nat) {r0 : Int32} {hF : zz_H} (hf : f_X10_stands a0 x1 x2 h = some (r0, hF)) : zz_M D dA base t0 l yX10_stands cX10_stands 3 (some .int) rm_X10_stands [.ref a0, .int x1, .int x2] h n (some (.int r0)) hF n := by
  refine Met.ofW (cc := cX10_stands) (maxL := 3) (ret := (some .int)) (by decide +kernel) rfl ?_
  intro p e s m args below meth c s₁ B hml hv
  obtain ⟨rfl, hP, hK⟩ := hv
  have X : zz_X D dA base t0 "SpringseatModel" cX10_stands 3 (some .int) l p s m meth c := ⟨B.exec, B.bytes, hml, B.returns, findClass_of_methodNamed B.named, B.notSynchronized, hT, by rw [hP.1]; exact hP.2.1, hK⟩
  have hx := X.1
  have hb := X.2.1
  have hown := X.2.2.2.2.1
  have hR : zz_R D dA base h n s s.heap [] := ⟨hP, va_S.rf⟩
  have hl := lv_entry ([.ref a0, .int x1, .int x2]) (n := 3) (by exact Nat.le_of_ble_eq_true rfl)
  rw [lg_entry_eq]
  generalize (lg_sl ([.ref a0, .int x1, .int x2]) ++ List.replicate (3 - (lg_sl ([.ref a0, .int x1, .int x2])).length) Slot.unset).toArray = ls at hl ⊢
  have hl : lv_has ls 3 [(0, .ref a0), (1, .int x1), (2, .int x2)] := hl
  unfold f_X10_stands at hf
  refine lv_aload_n hx hb dX10_stands_0 rfl (lv_at hl 0 rfl) ?_
  refine lv_aload_n hx hb dX10_stands_1 rfl (lv_at hl 0 rfl) ?_
  refine lv_iload_n hx hb dX10_stands_2 rfl (lv_at hl 1 rfl) ?_
  refine lv_iload_n hx hb dX10_stands_3 rfl (lv_at hl 2 rfl) ?_
  obtain ⟨fs4, ho4, hf⟩ := zz_obS_i hf
  obtain ⟨v4, hv4, hf⟩ := zz_b_i hf
  refine zr_cV X hR hl.1 (As := [.int x1, .int x2]) (rest := [.ref a0]) (C := RX10) (T := TX10) (N := 34) (mt_X10_isNoCell hT a0 x1 x2 h n hv4) rfl ho4 mf_X10_isNoCell q_1413 q_1415 qs_24 ⟨Nat.le_of_ble_eq_true rfl, Nat.le_of_ble_eq_true rfl⟩ ⟨Nat.le_of_ble_eq_true rfl, Nat.le_of_ble_eq_true rfl⟩ rfl (Nat.le_of_ble_eq_true rfl) dX10_stands_4 (fun H locs hR => ?_)
  refine W.eq (g2 := F0 m 7 ls [.int v4, .ref a0]) rfl ?_
  refine lv_iconst (v := (1 : Int32)) hx hb dX10_stands_7 (by decide) ?_
  obtain ⟨fs8, ho8, hf⟩ := zz_obS_i hf
  obtain ⟨v8, h8, hv8, hf⟩ := zz_b1_i hf
  refine zr_cV X hR hl.1 (As := [.int v4, .int (1 : Int32)]) (rest := []) (C := RX10) (T := TX10) (N := 34) (mt_X10_isThrown hT a0 v4 (1 : Int32) h n hv8) rfl ho8 mf_X10_isThrown q_1370 q_1372 qs_17 ⟨Nat.le_of_ble_eq_true rfl, Nat.le_of_ble_eq_true rfl⟩ ⟨Nat.le_of_ble_eq_true rfl, Nat.le_of_ble_eq_true rfl⟩ rfl (Nat.le_of_ble_eq_true rfl) dX10_stands_8 (fun H locs hR => ?_)
  refine W.eq (g2 := F0 m 11 ls [.int v8]) rfl ?_
  refine lv_if_eq (tgt := 18) hx hb dX10_stands_11 (by decide) (fun c11 => ?_) (fun c11 => ?_)
  · replace hf := zz_pos c11 hf
    refine lv_aload_n hx hb dX10_stands_18 rfl (lv_at hl 0 rfl) ?_
    refine lv_iload_n hx hb dX10_stands_19 rfl (lv_at hl 1 rfl) ?_
    refine lv_iload_n hx hb dX10_stands_20 rfl (lv_at hl 2 rfl) ?_
    refine lv_bipush (v := (10 : Int32)) hx hb dX10_stands_21 (by decide) ?_
    obtain ⟨hne23, hf⟩ := zz_dv_i hf
    refine lv_idiv hx hb dX10_stands_23 hne23 ?_
    refine lv_iload_n hx hb dX10_stands_24 rfl (lv_at hl 2 rfl) ?_
    refine lv_bipush (v := (10 : Int32)) hx hb dX10_stands_25 (by decide) ?_
    obtain ⟨hne27, hf⟩ := zz_dv_i hf
    refine lv_irem hx hb dX10_stands_27 hne27 ?_
    obtain ⟨fs28, ho28, hf⟩ := zz_obS_i hf
    obtain ⟨v28, hv28, hf⟩ := zz_b_i hf
    refine zr_cV X hR hl.1 (As := [.int x1, .int (x2 / (10 : Int32)), .int (zz_rem x2 (10 : Int32))]) (rest := []) (C := RX10) (T := TX10) (N := 34) (mt_X10_standsAt hT a0 x1 (x2 / (10 : Int32)) (zz_rem x2 (10 : Int32)) h8 n hv28) rfl ho28 mf_X10_standsAt q_1433 q_1435 qs_27 ⟨Nat.le_of_ble_eq_true rfl, Nat.le_of_ble_eq_true rfl⟩ ⟨Nat.le_of_ble_eq_true rfl, Nat.le_of_ble_eq_true rfl⟩ rfl (Nat.le_of_ble_eq_true rfl) dX10_stands_28 (fun H locs hR => ?_)
    refine W.eq (g2 := F0 m 31 ls [.int v28]) rfl ?_
    exact bk_X10_stands_31 X hT hR (lv_sub hl [] rfl) hf
  · replace hf := zz_neg c11 hf
    refine lv_iconst (v := (0 : Int32)) hx hb dX10_stands_14 (by decide) ?_
    refine lv_goto (tgt := 31) hx hb dX10_stands_15 (by decide) ?_
    exact bk_X10_stands_31 X hT hR (lv_sub hl [] rfl) hf
def rm_X10_isNoLayer : Room := { frames := 2, cells := 0, slots := 0, locals := 43 }
theorem mf_X10_isNoLayer : zz_Mf yX10_isNoLayer cX10_isNoLayer 3 (some .boolean) 2 := ⟨q_1526, q_11, by decide +kernel, by decide +kernel, by decide +kernel⟩
set_option maxHeartbeats 4000000 in
set_option maxRecDepth 100000 in
theorem bk_X10_isNoLayer_47 {D : va_G} {dA : Nat → ClassId} {base t0 : Nat} {l : Launch} {p : Program} {e : Env} {s : State} {m : MethodId} {args : Array Value} {below : List Frame} {meth : Method} {c : Code} (X : zz_X D dA base t0 "SpringseatModel" cX10_isNoLayer 3 (some .boolean) l p s m meth c) (hT : l.stackTraces = false) {s0 : Int32} {h : zz_H} {n : Nat} {H : Heap} {locs : List Loc} {ls : Array Slot} (hR : zz_R D dA base h n s H locs) (hl : lv_has ls 3 []) {r0 : Int32} {hF : zz_H} (hf : f_X10_isNoLayer_47 s0 h = some (r0, hF)) : W p l e rm_X10_isNoLayer s m args below meth c H locs 0 0 (MQ below (zz_Qc D dA base (some (.int r0)) hF n) args s rm_X10_isNoLayer.cells rm_X10_isNoLayer.slots (fun q => base ≤ q)) (F0 m 47 ls [.int s0]) := by
  have hx := X.1
  have hb := X.2.1
  have hown := X.2.2.2.2.1
  unfold f_X10_isNoLayer_47 at hf
  obtain ⟨hz47, hf⟩ := zz_gz_i hf
  cases hf
  exact zr_zret X hR (zz_nz hz47) dX10_isNoLayer_47 (Nat.le_of_ble_eq_true rfl) (Nat.le_of_ble_eq_true rfl)
set_option maxHeartbeats 4000000 in
set_option maxRecDepth 100000 in
theorem bk_X10_isNoLayer_42 {D : va_G} {dA : Nat → ClassId} {base t0 : Nat} {l : Launch} {p : Program} {e : Env} {s : State} {m : MethodId} {args : Array Value} {below : List Frame} {meth : Method} {c : Code} (X : zz_X D dA base t0 "SpringseatModel" cX10_isNoLayer 3 (some .boolean) l p s m meth c) (hT : l.stackTraces = false) {h : zz_H} {n : Nat} {H : Heap} {locs : List Loc} {ls : Array Slot} (hR : zz_R D dA base h n s H locs) (hl : lv_has ls 3 []) {r0 : Int32} {hF : zz_H} (hf : f_X10_isNoLayer_42 h = some (r0, hF)) : W p l e rm_X10_isNoLayer s m args below meth c H locs 0 0 (MQ below (zz_Qc D dA base (some (.int r0)) hF n) args s rm_X10_isNoLayer.cells rm_X10_isNoLayer.slots (fun q => base ≤ q)) (F0 m 42 ls []) := by
  have hx := X.1
  have hb := X.2.1
  have hown := X.2.2.2.2.1
  unfold f_X10_isNoLayer_42 at hf
  refine lv_iconst (v := (1 : Int32)) hx hb dX10_isNoLayer_42 (by decide) ?_
  refine lv_goto (tgt := 47) hx hb dX10_isNoLayer_43 (by decide) ?_
  exact bk_X10_isNoLayer_47 X hT hR (lv_sub hl [] rfl) hf
set_option maxHeartbeats 4000000 in
set_option maxRecDepth 100000 in
theorem bk_X10_isNoLayer_35 {D : va_G} {dA : Nat → ClassId} {base t0 : Nat} {l : Launch} {p : Program} {e : Env} {s : State} {m : MethodId} {args : Array Value} {below : List Frame} {meth : Method} {c : Code} (X : zz_X D dA base t0 "SpringseatModel" cX10_isNoLayer 3 (some .boolean) l p s m meth c) (hT : l.stackTraces = false) {s0 : Int32} {s1 : (Option Nat)} {h : zz_H} {n : Nat} {H : Heap} {locs : List Loc} {ls : Array Slot} (hR : zz_R D dA base h n s H locs) (hl : lv_has ls 3 []) {r0 : Int32} {hF : zz_H} (hf : f_X10_isNoLayer_35 s0 s1 h = some (r0, hF)) : W p l e rm_X10_isNoLayer s m args below meth c H locs 0 0 (MQ below (zz_Qc D dA base (some (.int r0)) hF n) args s rm_X10_isNoLayer.cells rm_X10_isNoLayer.slots (fun q => base ≤ q)) (F0 m 35 ls [.int s0, va_rf s1]) := by
  have hx := X.1
  have hb := X.2.1
  have hown := X.2.2.2.2.1
  unfold f_X10_isNoLayer_35 at hf
  refine lv_iconst (v := (2 : Int32)) hx hb dX10_isNoLayer_35 (by decide) ?_
  obtain ⟨b36, fs36, hr36, ho36, hf⟩ := zz_ob_i hf
  obtain ⟨v36, h36, hv36, hf⟩ := zz_b1_i hf
  refine zr_cV X hR hl.1 (As := [.int s0, .int (2 : Int32)]) (rest := []) (C := RX10) (T := TX10) (N := 34) (mt_X10_isThrown hT b36 s0 (2 : Int32) h n hv36) rfl ho36 mf_X10_isThrown q_1370 q_1372 qs_17 ⟨Nat.le_of_ble_eq_true rfl, Nat.le_of_ble_eq_true rfl⟩ ⟨Nat.le_of_ble_eq_true rfl, Nat.le_of_ble_eq_true rfl⟩ (by rw [hr36]; rfl) (Nat.le_of_ble_eq_true rfl) dX10_isNoLayer_36 (fun H locs hR => ?_)
  refine W.eq (g2 := F0 m 39 ls [.int v36]) rfl ?_
  refine lv_if_eq (tgt := 46) hx hb dX10_isNoLayer_39 (by decide) (fun c39 => ?_) (fun c39 => ?_)
  · replace hf := zz_pos c39 hf
    refine lv_iconst (v := (0 : Int32)) hx hb dX10_isNoLayer_46 (by decide) ?_
    exact bk_X10_isNoLayer_47 X hT hR (lv_sub hl [] rfl) hf
  · replace hf := zz_neg c39 hf
    exact bk_X10_isNoLayer_42 X hT hR (lv_sub hl [] rfl) hf
set_option maxHeartbeats 4000000 in
set_option maxRecDepth 100000 in
theorem mt_X10_isNoLayer {D : va_G} {dA : Nat → ClassId} {base t0 : Nat} {l : Launch} (hT : l.stackTraces = false) (a0 : Nat) (x1 : Int32) (x2 : Int32) (h : zz_H) (n : Nat) {r0 : Int32} {hF : zz_H} (hf : f_X10_isNoLayer a0 x1 x2 h = some (r0, hF)) : zz_M D dA base t0 l yX10_isNoLayer cX10_isNoLayer 3 (some .boolean) rm_X10_isNoLayer [.ref a0, .int x1, .int x2] h n (some (.int r0)) hF n := by
  refine Met.ofW (cc := cX10_isNoLayer) (maxL := 3) (ret := (some .boolean)) (by decide +kernel) rfl ?_
  intro p e s m args below meth c s₁ B hml hv
  obtain ⟨rfl, hP, hK⟩ := hv
  have X : zz_X D dA base t0 "SpringseatModel" cX10_isNoLayer 3 (some .boolean) l p s m meth c := ⟨B.exec, B.bytes, hml, B.returns, findClass_of_methodNamed B.named, B.notSynchronized, hT, by rw [hP.1]; exact hP.2.1, hK⟩
  have hx := X.1
  have hb := X.2.1
  have hown := X.2.2.2.2.1
  have hR : zz_R D dA base h n s s.heap [] := ⟨hP, va_S.rf⟩
  have hl := lv_entry ([.ref a0, .int x1, .int x2]) (n := 3) (by exact Nat.le_of_ble_eq_true rfl)
  rw [lg_entry_eq]
  generalize (lg_sl ([.ref a0, .int x1, .int x2]) ++ List.replicate (3 - (lg_sl ([.ref a0, .int x1, .int x2])).length) Slot.unset).toArray = ls at hl ⊢
  have hl : lv_has ls 3 [(0, .ref a0), (1, .int x1), (2, .int x2)] := hl
  unfold f_X10_isNoLayer at hf
  refine lv_aload_n hx hb dX10_isNoLayer_0 rfl (lv_at hl 0 rfl) ?_
  refine lv_aload_n hx hb dX10_isNoLayer_1 rfl (lv_at hl 0 rfl) ?_
  refine lv_iload_n hx hb dX10_isNoLayer_2 rfl (lv_at hl 1 rfl) ?_
  obtain ⟨fs3, ho3, hf⟩ := zz_obS_i hf
  obtain ⟨v3, hv3, hf⟩ := zz_b_i hf
  refine zr_cV X hR hl.1 (As := [.int x1]) (rest := [.ref a0]) (C := RX10) (T := TX10) (N := 34) (mt_X10_isNoSeat hT a0 x1 h n hv3) rfl ho3 mf_X10_isNoSeat q_1378 q_1380 qs_18 ⟨Nat.le_of_ble_eq_true rfl, Nat.le_of_ble_eq_true rfl⟩ ⟨Nat.le_of_ble_eq_true rfl, Nat.le_of_ble_eq_true rfl⟩ rfl (Nat.le_of_ble_eq_true rfl) dX10_isNoLayer_3 (fun H locs hR => ?_)
  refine W.eq (g2 := F0 m 6 ls [.int v3, .ref a0]) rfl ?_
  refine lv_iconst (v := (1 : Int32)) hx hb dX10_isNoLayer_6 (by decide) ?_
  obtain ⟨fs7, ho7, hf⟩ := zz_obS_i hf
  obtain ⟨v7, h7, hv7, hf⟩ := zz_b1_i hf
  refine zr_cV X hR hl.1 (As := [.int v3, .int (1 : Int32)]) (rest := []) (C := RX10) (T := TX10) (N := 34) (mt_X10_isThrown hT a0 v3 (1 : Int32) h n hv7) rfl ho7 mf_X10_isThrown q_1370 q_1372 qs_17 ⟨Nat.le_of_ble_eq_true rfl, Nat.le_of_ble_eq_true rfl⟩ ⟨Nat.le_of_ble_eq_true rfl, Nat.le_of_ble_eq_true rfl⟩ rfl (Nat.le_of_ble_eq_true rfl) dX10_isNoLayer_7 (fun H locs hR => ?_)
  refine W.eq (g2 := F0 m 10 ls [.int v7]) rfl ?_
  refine lv_if_ne (tgt := 42) hx hb dX10_isNoLayer_10 (by decide) (fun c10 => ?_) (fun c10 => ?_)
  · replace hf := zz_neg c10 hf
    exact bk_X10_isNoLayer_42 X hT hR (lv_sub hl [] rfl) hf
  · replace hf := zz_pos c10 hf
    refine lv_aload_n hx hb dX10_isNoLayer_13 rfl (lv_at hl 0 rfl) ?_
    refine lv_iload_n hx hb dX10_isNoLayer_14 rfl (lv_at hl 2 rfl) ?_
    refine lv_iconst (v := (0 : Int32)) hx hb dX10_isNoLayer_15 (by decide) ?_
    refine lv_aload_n hx hb dX10_isNoLayer_16 rfl (lv_at hl 0 rfl) ?_
    refine zr_gq X hR (r := (some a0)) fl_X10_48 dX10_isNoLayer_17 hf (fun v17 hf => ?_)
    refine lv_iload_n hx hb dX10_isNoLayer_20 rfl (lv_at hl 1 rfl) ?_
    refine zr_iald X hR (r := v17) dX10_isNoLayer_21 hf (fun v21 hf => ?_)
    refine lv_iconst (v := (1 : Int32)) hx hb dX10_isNoLayer_22 (by decide) ?_
    refine lv_isub hx hb dX10_isNoLayer_23 ?_
    obtain ⟨v24, hv24, hf⟩ := zz_b_i hf
    refine zr_cS X hR hl.1 (As := [.int x2, .int (0 : Int32), .int (v21 - (1 : Int32))]) (rest := [.ref a0]) (mt_X10_isIn hT x2 (0 : Int32) (v21 - (1 : Int32)) h7 n hv24) mf_X10_isIn q_1367 q_1368 ⟨Nat.le_of_ble_eq_true rfl, Nat.le_of_ble_eq_true rfl⟩ ⟨Nat.le_of_ble_eq_true rfl, Nat.le_of_ble_eq_true rfl⟩ rfl (Nat.le_of_ble_eq_true rfl) dX10_isNoLayer_24 (fun H locs hR => ?_)
    refine W.eq (g2 := F0 m 27 ls [.int v24, .ref a0]) rfl ?_
    refine lv_if_ne (tgt := 34) hx hb dX10_isNoLayer_27 (by decide) (fun c27 => ?_) (fun c27 => ?_)
    · replace hf := zz_neg c27 hf
      refine lv_iconst (v := (0 : Int32)) hx hb dX10_isNoLayer_34 (by decide) ?_
      exact bk_X10_isNoLayer_35 X hT hR (lv_sub hl [] rfl) hf
    · replace hf := zz_pos c27 hf
      refine lv_iconst (v := (1 : Int32)) hx hb dX10_isNoLayer_30 (by decide) ?_
      refine lv_goto (tgt := 35) hx hb dX10_isNoLayer_31 (by decide) ?_
      exact bk_X10_isNoLayer_35 X hT hR (lv_sub hl [] rfl) hf
def rm_X10_thick : Room := { frames := 3, cells := 0, slots := 0, locals := 65 }
theorem mf_X10_thick : zz_Mf yX10_thick cX10_thick 3 (some .int) 2 := ⟨q_1522, q_11, by decide +kernel, by decide +kernel, by decide +kernel⟩
set_option maxHeartbeats 4000000 in
set_option maxRecDepth 100000 in
theorem bk_X10_thick_19 {D : va_G} {dA : Nat → ClassId} {base t0 : Nat} {l : Launch} {p : Program} {e : Env} {s : State} {m : MethodId} {args : Array Value} {below : List Frame} {meth : Method} {c : Code} (X : zz_X D dA base t0 "SpringseatModel" cX10_thick 3 (some .int) l p s m meth c) (hT : l.stackTraces = false) {s0 : Int32} {h : zz_H} {n : Nat} {H : Heap} {locs : List Loc} {ls : Array Slot} (hR : zz_R D dA base h n s H locs) (hl : lv_has ls 3 []) {r0 : Int32} {hF : zz_H} (hf : f_X10_thick_19 s0 h = some (r0, hF)) : W p l e rm_X10_thick s m args below meth c H locs 0 0 (MQ below (zz_Qc D dA base (some (.int r0)) hF n) args s rm_X10_thick.cells rm_X10_thick.slots (fun q => base ≤ q)) (F0 m 19 ls [.int s0]) := by
  have hx := X.1
  have hb := X.2.1
  have hown := X.2.2.2.2.1
  unfold f_X10_thick_19 at hf
  cases hf
  exact zr_iret X hR dX10_thick_19 (Nat.le_of_ble_eq_true rfl) (Nat.le_of_ble_eq_true rfl)
set_option maxHeartbeats 4000000 in
set_option maxRecDepth 100000 in
theorem mt_X10_thick {D : va_G} {dA : Nat → ClassId} {base t0 : Nat} {l : Launch} (hT : l.stackTraces = false) (a0 : Nat) (x1 : Int32) (x2 : Int32) (h : zz_H) (n : Nat) {r0 : Int32} {hF : zz_H} (hf : f_X10_thick a0 x1 x2 h = some (r0, hF)) : zz_M D dA base t0 l yX10_thick cX10_thick 3 (some .int) rm_X10_thick [.ref a0, .int x1, .int x2] h n (some (.int r0)) hF n := by
  refine Met.ofW (cc := cX10_thick) (maxL := 3) (ret := (some .int)) (by decide +kernel) rfl ?_
  intro p e s m args below meth c s₁ B hml hv
  obtain ⟨rfl, hP, hK⟩ := hv
  have X : zz_X D dA base t0 "SpringseatModel" cX10_thick 3 (some .int) l p s m meth c := ⟨B.exec, B.bytes, hml, B.returns, findClass_of_methodNamed B.named, B.notSynchronized, hT, by rw [hP.1]; exact hP.2.1, hK⟩
  have hx := X.1
  have hb := X.2.1
  have hown := X.2.2.2.2.1
  have hR : zz_R D dA base h n s s.heap [] := ⟨hP, va_S.rf⟩
  have hl := lv_entry ([.ref a0, .int x1, .int x2]) (n := 3) (by exact Nat.le_of_ble_eq_true rfl)
  rw [lg_entry_eq]
  generalize (lg_sl ([.ref a0, .int x1, .int x2]) ++ List.replicate (3 - (lg_sl ([.ref a0, .int x1, .int x2])).length) Slot.unset).toArray = ls at hl ⊢
  have hl : lv_has ls 3 [(0, .ref a0), (1, .int x1), (2, .int x2)] := hl
  unfold f_X10_thick at hf
  refine lv_aload_n hx hb dX10_thick_0 rfl (lv_at hl 0 rfl) ?_
  refine lv_iload_n hx hb dX10_thick_1 rfl (lv_at hl 1 rfl) ?_
  refine lv_iload_n hx hb dX10_thick_2 rfl (lv_at hl 2 rfl) ?_
  obtain ⟨fs3, ho3, hf⟩ := zz_obS_i hf
  obtain ⟨v3, h3, hv3, hf⟩ := zz_b1_i hf
  refine zr_cV X hR hl.1 (As := [.int x1, .int x2]) (rest := []) (C := RX10) (T := TX10) (N := 34) (mt_X10_isNoLayer hT a0 x1 x2 h n hv3) rfl ho3 mf_X10_isNoLayer q_1523 q_1525 qs_35 ⟨Nat.le_of_ble_eq_true rfl, Nat.le_of_ble_eq_true rfl⟩ ⟨Nat.le_of_ble_eq_true rfl, Nat.le_of_ble_eq_true rfl⟩ rfl (Nat.le_of_ble_eq_true rfl) dX10_thick_3 (fun H locs hR => ?_)
  refine W.eq (g2 := F0 m 6 ls [.int v3]) rfl ?_
  refine lv_if_eq (tgt := 13) hx hb dX10_thick_6 (by decide) (fun c6 => ?_) (fun c6 => ?_)
  · replace hf := zz_pos c6 hf
    refine lv_aload_n hx hb dX10_thick_13 rfl (lv_at hl 0 rfl) ?_
    refine lv_iload_n hx hb dX10_thick_14 rfl (lv_at hl 1 rfl) ?_
    refine lv_iload_n hx hb dX10_thick_15 rfl (lv_at hl 2 rfl) ?_
    obtain ⟨fs16, ho16, hf⟩ := zz_obS_i hf
    obtain ⟨v16, hv16, hf⟩ := zz_b_i hf
    refine zr_cV X hR hl.1 (As := [.int x1, .int x2]) (rest := []) (C := RX10) (T := TX10) (N := 34) (mt_X10_thickNow hT a0 x1 x2 h3 n hv16) rfl ho16 mf_X10_thickNow q_1470 q_1472 qs_31 ⟨Nat.le_of_ble_eq_true rfl, Nat.le_of_ble_eq_true rfl⟩ ⟨Nat.le_of_ble_eq_true rfl, Nat.le_of_ble_eq_true rfl⟩ rfl (Nat.le_of_ble_eq_true rfl) dX10_thick_16 (fun H locs hR => ?_)
    refine W.eq (g2 := F0 m 19 ls [.int v16]) rfl ?_
    exact bk_X10_thick_19 X hT hR (lv_sub hl [] rfl) hf
  · replace hf := zz_neg c6 hf
    refine lv_iconst (v := (0 : Int32)) hx hb dX10_thick_9 (by decide) ?_
    refine lv_goto (tgt := 19) hx hb dX10_thick_10 (by decide) ?_
    exact bk_X10_thick_19 X hT hR (lv_sub hl [] rfl) hf
def rm_X10_top : Room := { frames := 3, cells := 0, slots := 0, locals := 69 }
theorem mf_X10_top : zz_Mf yX10_top cX10_top 3 (some .int) 2 := ⟨q_1530, q_11, by decide +kernel, by decide +kernel, by decide +kernel⟩
set_option maxHeartbeats 4000000 in
set_option maxRecDepth 100000 in
theorem bk_X10_top_31 {D : va_G} {dA : Nat → ClassId} {base t0 : Nat} {l : Launch} {p : Program} {e : Env} {s : State} {m : MethodId} {args : Array Value} {below : List Frame} {meth : Method} {c : Code} (X : zz_X D dA base t0 "SpringseatModel" cX10_top 3 (some .int) l p s m meth c) (hT : l.stackTraces = false) {s0 : Int32} {h : zz_H} {n : Nat} {H : Heap} {locs : List Loc} {ls : Array Slot} (hR : zz_R D dA base h n s H locs) (hl : lv_has ls 3 []) {r0 : Int32} {hF : zz_H} (hf : f_X10_top_31 s0 h = some (r0, hF)) : W p l e rm_X10_top s m args below meth c H locs 0 0 (MQ below (zz_Qc D dA base (some (.int r0)) hF n) args s rm_X10_top.cells rm_X10_top.slots (fun q => base ≤ q)) (F0 m 31 ls [.int s0]) := by
  have hx := X.1
  have hb := X.2.1
  have hown := X.2.2.2.2.1
  unfold f_X10_top_31 at hf
  cases hf
  exact zr_iret X hR dX10_top_31 (Nat.le_of_ble_eq_true rfl) (Nat.le_of_ble_eq_true rfl)
set_option maxHeartbeats 4000000 in
set_option maxRecDepth 100000 in
theorem mt_X10_top {D : va_G} {dA : Nat → ClassId} {base t0 : Nat} {l : Launch} (hT : l.stackTraces = false) (a0 : Nat) (x1 : Int32) (x2 : Int32) (h : zz_H) (n : Nat) {r0 : Int32} {hF : zz_H} (hf : f_X10_top a0 x1 x2 h = some (r0, hF)) : zz_M D dA base t0 l yX10_top cX10_top 3 (some .int) rm_X10_top [.ref a0, .int x1, .int x2] h n (some (.int r0)) hF n := by
  refine Met.ofW (cc := cX10_top) (maxL := 3) (ret := (some .int)) (by decide +kernel) rfl ?_
  intro p e s m args below meth c s₁ B hml hv
  obtain ⟨rfl, hP, hK⟩ := hv
  have X : zz_X D dA base t0 "SpringseatModel" cX10_top 3 (some .int) l p s m meth c := ⟨B.exec, B.bytes, hml, B.returns, findClass_of_methodNamed B.named, B.notSynchronized, hT, by rw [hP.1]; exact hP.2.1, hK⟩
  have hx := X.1
  have hb := X.2.1
  have hown := X.2.2.2.2.1
  have hR : zz_R D dA base h n s s.heap [] := ⟨hP, va_S.rf⟩
  have hl := lv_entry ([.ref a0, .int x1, .int x2]) (n := 3) (by exact Nat.le_of_ble_eq_true rfl)
  rw [lg_entry_eq]
  generalize (lg_sl ([.ref a0, .int x1, .int x2]) ++ List.replicate (3 - (lg_sl ([.ref a0, .int x1, .int x2])).length) Slot.unset).toArray = ls at hl ⊢
  have hl : lv_has ls 3 [(0, .ref a0), (1, .int x1), (2, .int x2)] := hl
  unfold f_X10_top at hf
  refine lv_aload_n hx hb dX10_top_0 rfl (lv_at hl 0 rfl) ?_
  refine lv_aload_n hx hb dX10_top_1 rfl (lv_at hl 0 rfl) ?_
  refine lv_iload_n hx hb dX10_top_2 rfl (lv_at hl 1 rfl) ?_
  refine lv_iload_n hx hb dX10_top_3 rfl (lv_at hl 2 rfl) ?_
  obtain ⟨fs4, ho4, hf⟩ := zz_obS_i hf
  obtain ⟨v4, hv4, hf⟩ := zz_b_i hf
  refine zr_cV X hR hl.1 (As := [.int x1, .int x2]) (rest := [.ref a0]) (C := RX10) (T := TX10) (N := 34) (mt_X10_isNoCell hT a0 x1 x2 h n hv4) rfl ho4 mf_X10_isNoCell q_1413 q_1415 qs_24 ⟨Nat.le_of_ble_eq_true rfl, Nat.le_of_ble_eq_true rfl⟩ ⟨Nat.le_of_ble_eq_true rfl, Nat.le_of_ble_eq_true rfl⟩ rfl (Nat.le_of_ble_eq_true rfl) dX10_top_4 (fun H locs hR => ?_)
  refine W.eq (g2 := F0 m 7 ls [.int v4, .ref a0]) rfl ?_
  refine lv_iconst (v := (1 : Int32)) hx hb dX10_top_7 (by decide) ?_
  obtain ⟨fs8, ho8, hf⟩ := zz_obS_i hf
  obtain ⟨v8, h8, hv8, hf⟩ := zz_b1_i hf
  refine zr_cV X hR hl.1 (As := [.int v4, .int (1 : Int32)]) (rest := []) (C := RX10) (T := TX10) (N := 34) (mt_X10_isThrown hT a0 v4 (1 : Int32) h n hv8) rfl ho8 mf_X10_isThrown q_1370 q_1372 qs_17 ⟨Nat.le_of_ble_eq_true rfl, Nat.le_of_ble_eq_true rfl⟩ ⟨Nat.le_of_ble_eq_true rfl, Nat.le_of_ble_eq_true rfl⟩ rfl (Nat.le_of_ble_eq_true rfl) dX10_top_8 (fun H locs hR => ?_)
  refine W.eq (g2 := F0 m 11 ls [.int v8]) rfl ?_
  refine lv_if_eq (tgt := 18) hx hb dX10_top_11 (by decide) (fun c11 => ?_) (fun c11 => ?_)
  · replace hf := zz_pos c11 hf
    refine lv_aload_n hx hb dX10_top_18 rfl (lv_at hl 0 rfl) ?_
    refine lv_iload_n hx hb dX10_top_19 rfl (lv_at hl 1 rfl) ?_
    refine lv_iload_n hx hb dX10_top_20 rfl (lv_at hl 2 rfl) ?_
    refine lv_bipush (v := (10 : Int32)) hx hb dX10_top_21 (by decide) ?_
    obtain ⟨hne23, hf⟩ := zz_dv_i hf
    refine lv_idiv hx hb dX10_top_23 hne23 ?_
    refine lv_iload_n hx hb dX10_top_24 rfl (lv_at hl 2 rfl) ?_
    refine lv_bipush (v := (10 : Int32)) hx hb dX10_top_25 (by decide) ?_
    obtain ⟨hne27, hf⟩ := zz_dv_i hf
    refine lv_irem hx hb dX10_top_27 hne27 ?_
    obtain ⟨fs28, ho28, hf⟩ := zz_obS_i hf
    obtain ⟨v28, hv28, hf⟩ := zz_b_i hf
    refine zr_cV X hR hl.1 (As := [.int x1, .int (x2 / (10 : Int32)), .int (zz_rem x2 (10 : Int32))]) (rest := []) (C := RX10) (T := TX10) (N := 34) (mt_X10_topAt hT a0 x1 (x2 / (10 : Int32)) (zz_rem x2 (10 : Int32)) h8 n hv28) rfl ho28 mf_X10_topAt q_1466 q_1468 qs_30 ⟨Nat.le_of_ble_eq_true rfl, Nat.le_of_ble_eq_true rfl⟩ ⟨Nat.le_of_ble_eq_true rfl, Nat.le_of_ble_eq_true rfl⟩ rfl (Nat.le_of_ble_eq_true rfl) dX10_top_28 (fun H locs hR => ?_)
    refine W.eq (g2 := F0 m 31 ls [.int v28]) rfl ?_
    exact bk_X10_top_31 X hT hR (lv_sub hl [] rfl) hf
  · replace hf := zz_neg c11 hf
    refine lv_iconst (v := (0 : Int32)) hx hb dX10_top_14 (by decide) ?_
    refine lv_goto (tgt := 31) hx hb dX10_top_15 (by decide) ?_
    exact bk_X10_top_31 X hT hR (lv_sub hl [] rfl) hf
def rm_X10_foldsBy : Room := { frames := 1, cells := 0, slots := 0, locals := 22 }
theorem mf_X10_foldsBy : zz_Mf yX10_foldsBy cX10_foldsBy 9 (some .int) 3 := ⟨q_1538, q_11, by decide +kernel, by decide +kernel, by decide +kernel⟩
set_option maxHeartbeats 4000000 in
set_option maxRecDepth 100000 in
theorem bk_X10_foldsBy_106 {D : va_G} {dA : Nat → ClassId} {base t0 : Nat} {l : Launch} {p : Program} {e : Env} {s : State} {m : MethodId} {args : Array Value} {below : List Frame} {meth : Method} {c : Code} (X : zz_X D dA base t0 "SpringseatModel" cX10_foldsBy 9 (some .int) l p s m meth c) (hT : l.stackTraces = false) {a0 : Nat} {x1 : Int32} {x2 : Int32} {x3 : Int32} {x5 : Int32} {x6 : Int32} {s0 : Int32} {s1 : Int32} {h : zz_H} {n : Nat} {H : Heap} {locs : List Loc} {ls : Array Slot} (hR : zz_R D dA base h n s H locs) (hl : lv_has ls 9 [(0, .ref a0), (1, .int x1), (2, .int x2), (3, .int x3), (5, .int x5), (6, .int x6)]) {r0 : Int32} {o : ((Int32 × Int32) ⊕ ((Int32 × Int32) ⊕ Int32))} (hf : f_X10_foldsBy_106 a0 x1 x2 x3 x5 x6 s0 s1 h = some o) (k0 : ∀ (w4 : Int32) (w5 : Int32), o = (.inr (.inl (w4, w5))) → ∀ {H : Heap} {locs : List Loc} {ls : Array Slot}, zz_R D dA base h n s H locs → lv_has ls 9 [(0, .ref a0), (1, .int x1), (2, .int x2), (3, .int x3), (4, .int w4), (5, .int w5)] → W p l e rm_X10_foldsBy s m args below meth c H locs 0 0 (MQ below (zz_Qc D dA base (some (.int r0)) h n) args s rm_X10_foldsBy.cells rm_X10_foldsBy.slots (fun q => base ≤ q)) (F0 m 6 ls [])) (k1 : ∀ (w4 : Int32) (w6 : Int32), o = (.inl (w4, w6)) → ∀ {H : Heap} {locs : List Loc} {ls : Array Slot}, zz_R D dA base h n s H locs → lv_has ls 9 [(0, .ref a0), (1, .int x1), (2, .int x2), (3, .int x3), (4, .int w4), (5, .int x5), (6, .int w6)] → W p l e rm_X10_foldsBy s m args below meth c H locs 0 0 (MQ below (zz_Qc D dA base (some (.int r0)) h n) args s rm_X10_foldsBy.cells rm_X10_foldsBy.slots (fun q => base ≤ q)) (F0 m 18 ls [])) (hret : ∀ r, o = (.inr (.inr r)) → r = r0) : W p l e rm_X10_foldsBy s m args below meth c H locs 0 0 (MQ below (zz_Qc D dA base (some (.int r0)) h n) args s rm_X10_foldsBy.cells rm_X10_foldsBy.slots (fun q => base ≤ q)) (F0 m 106 ls [.int s0, .int s1]) := by
  have hx := X.1
  have hb := X.2.1
  have hown := X.2.2.2.2.1
  unfold f_X10_foldsBy_106 at hf
  refine lv_iadd hx hb dX10_foldsBy_106 ?_
  refine lv_istore (i := 4) (lv' := [(4, .int (s1 + s0)), (0, .ref a0), (1, .int x1), (2, .int x2), (3, .int x3), (5, .int x5), (6, .int x6)]) hx hb dX10_foldsBy_107 hl (by decide) rfl (fun ls hl => ?_)
  refine lv_iinc (i := 6) (v := (x6 + (1 : Int32))) (lv' := [(6, .int (x6 + (1 : Int32))), (4, .int (s1 + s0)), (0, .ref a0), (1, .int x1), (2, .int x2), (3, .int x3), (5, .int x5)]) hx hb dX10_foldsBy_109 hl (k := 6) rfl rfl (by decide) rfl (fun ls hl => ?_)
  refine lv_goto (tgt := 18) hx hb dX10_foldsBy_112 (by decide) ?_
  cases hf
  exact k1 _ _ rfl hR (lv_sub hl [2, 3, 4, 5, 1, 6, 0] rfl)
set_option maxHeartbeats 4000000 in
set_option maxRecDepth 100000 in
theorem bk_X10_foldsBy_105 {D : va_G} {dA : Nat → ClassId} {base t0 : Nat} {l : Launch} {p : Program} {e : Env} {s : State} {m : MethodId} {args : Array Value} {below : List Frame} {meth : Method} {c : Code} (X : zz_X D dA base t0 "SpringseatModel" cX10_foldsBy 9 (some .int) l p s m meth c) (hT : l.stackTraces = false) {a0 : Nat} {x1 : Int32} {x2 : Int32} {x3 : Int32} {x5 : Int32} {x6 : Int32} {s0 : Int32} {h : zz_H} {n : Nat} {H : Heap} {locs : List Loc} {ls : Array Slot} (hR : zz_R D dA base h n s H locs) (hl : lv_has ls 9 [(0, .ref a0), (1, .int x1), (2, .int x2), (3, .int x3), (5, .int x5), (6, .int x6)]) {r0 : Int32} {o : ((Int32 × Int32) ⊕ ((Int32 × Int32) ⊕ Int32))} (hf : f_X10_foldsBy_105 a0 x1 x2 x3 x5 x6 s0 h = some o) (k0 : ∀ (w4 : Int32) (w5 : Int32), o = (.inr (.inl (w4, w5))) → ∀ {H : Heap} {locs : List Loc} {ls : Array Slot}, zz_R D dA base h n s H locs → lv_has ls 9 [(0, .ref a0), (1, .int x1), (2, .int x2), (3, .int x3), (4, .int w4), (5, .int w5)] → W p l e rm_X10_foldsBy s m args below meth c H locs 0 0 (MQ below (zz_Qc D dA base (some (.int r0)) h n) args s rm_X10_foldsBy.cells rm_X10_foldsBy.slots (fun q => base ≤ q)) (F0 m 6 ls [])) (k1 : ∀ (w4 : Int32) (w6 : Int32), o = (.inl (w4, w6)) → ∀ {H : Heap} {locs : List Loc} {ls : Array Slot}, zz_R D dA base h n s H locs → lv_has ls 9 [(0, .ref a0), (1, .int x1), (2, .int x2), (3, .int x3), (4, .int w4), (5, .int x5), (6, .int w6)] → W p l e rm_X10_foldsBy s m args below meth c H locs 0 0 (MQ below (zz_Qc D dA base (some (.int r0)) h n) args s rm_X10_foldsBy.cells rm_X10_foldsBy.slots (fun q => base ≤ q)) (F0 m 18 ls [])) (hret : ∀ r, o = (.inr (.inr r)) → r = r0) : W p l e rm_X10_foldsBy s m args below meth c H locs 0 0 (MQ below (zz_Qc D dA base (some (.int r0)) h n) args s rm_X10_foldsBy.cells rm_X10_foldsBy.slots (fun q => base ≤ q)) (F0 m 105 ls [.int s0]) := by
  have hx := X.1
  have hb := X.2.1
  have hown := X.2.2.2.2.1
  unfold f_X10_foldsBy_105 at hf
  refine lv_iconst (v := (0 : Int32)) hx hb dX10_foldsBy_105 (by decide) ?_
  exact bk_X10_foldsBy_106 X hT hR (lv_sub hl [0, 1, 2, 3, 4, 5] rfl) hf k0 k1 hret
set_option maxHeartbeats 4000000 in
set_option maxRecDepth 100000 in
theorem bk_X10_foldsBy_101 {D : va_G} {dA : Nat → ClassId} {base t0 : Nat} {l : Launch} {p : Program} {e : Env} {s : State} {m : MethodId} {args : Array Value} {below : List Frame} {meth : Method} {c : Code} (X : zz_X D dA base t0 "SpringseatModel" cX10_foldsBy 9 (some .int) l p s m meth c) (hT : l.stackTraces = false) {a0 : Nat} {x1 : Int32} {x2 : Int32} {x3 : Int32} {x5 : Int32} {x6 : Int32} {s0 : Int32} {h : zz_H} {n : Nat} {H : Heap} {locs : List Loc} {ls : Array Slot} (hR : zz_R D dA base h n s H locs) (hl : lv_has ls 9 [(0, .ref a0), (1, .int x1), (2, .int x2), (3, .int x3), (5, .int x5), (6, .int x6)]) {r0 : Int32} {o : ((Int32 × Int32) ⊕ ((Int32 × Int32) ⊕ Int32))} (hf : f_X10_foldsBy_101 a0 x1 x2 x3 x5 x6 s0 h = some o) (k0 : ∀ (w4 : Int32) (w5 : Int32), o = (.inr (.inl (w4, w5))) → ∀ {H : Heap} {locs : List Loc} {ls : Array Slot}, zz_R D dA base h n s H locs → lv_has ls 9 [(0, .ref a0), (1, .int x1), (2, .int x2), (3, .int x3), (4, .int w4), (5, .int w5)] → W p l e rm_X10_foldsBy s m args below meth c H locs 0 0 (MQ below (zz_Qc D dA base (some (.int r0)) h n) args s rm_X10_foldsBy.cells rm_X10_foldsBy.slots (fun q => base ≤ q)) (F0 m 6 ls [])) (k1 : ∀ (w4 : Int32) (w6 : Int32), o = (.inl (w4, w6)) → ∀ {H : Heap} {locs : List Loc} {ls : Array Slot}, zz_R D dA base h n s H locs → lv_has ls 9 [(0, .ref a0), (1, .int x1), (2, .int x2), (3, .int x3), (4, .int w4), (5, .int x5), (6, .int w6)] → W p l e rm_X10_foldsBy s m args below meth c H locs 0 0 (MQ below (zz_Qc D dA base (some (.int r0)) h n) args s rm_X10_foldsBy.cells rm_X10_foldsBy.slots (fun q => base ≤ q)) (F0 m 18 ls [])) (hret : ∀ r, o = (.inr (.inr r)) → r = r0) : W p l e rm_X10_foldsBy s m args below meth c H locs 0 0 (MQ below (zz_Qc D dA base (some (.int r0)) h n) args s rm_X10_foldsBy.cells rm_X10_foldsBy.slots (fun q => base ≤ q)) (F0 m 101 ls [.int s0]) := by
  have hx := X.1
  have hb := X.2.1
  have hown := X.2.2.2.2.1
  unfold f_X10_foldsBy_101 at hf
  refine lv_iconst (v := (1 : Int32)) hx hb dX10_foldsBy_101 (by decide) ?_
  refine lv_goto (tgt := 106) hx hb dX10_foldsBy_102 (by decide) ?_
  exact bk_X10_foldsBy_106 X hT hR (lv_sub hl [0, 1, 2, 3, 4, 5] rfl) hf k0 k1 hret
set_option maxHeartbeats 4000000 in
set_option maxRecDepth 100000 in
theorem bk_X10_foldsBy_71 {D : va_G} {dA : Nat → ClassId} {base t0 : Nat} {l : Launch} {p : Program} {e : Env} {s : State} {m : MethodId} {args : Array Value} {below : List Frame} {meth : Method} {c : Code} (X : zz_X D dA base t0 "SpringseatModel" cX10_foldsBy 9 (some .int) l p s m meth c) (hT : l.stackTraces = false) {a0 : Nat} {x1 : Int32} {x2 : Int32} {x3 : Int32} {x4 : Int32} {x5 : Int32} {x6 : Int32} {x7 : Int32} {s0 : Int32} {h : zz_H} {n : Nat} {H : Heap} {locs : List Loc} {ls : Array Slot} (hR : zz_R D dA base h n s H locs) (hl : lv_has ls 9 [(0, .ref a0), (1, .int x1), (2, .int x2), (3, .int x3), (4, .int x4), (5, .int x5), (6, .int x6), (7, .int x7)]) {r0 : Int32} {o : ((Int32 × Int32) ⊕ ((Int32 × Int32) ⊕ Int32))} (hf : f_X10_foldsBy_71 a0 x1 x2 x3 x4 x5 x6 x7 s0 h = some o) (k0 : ∀ (w4 : Int32) (w5 : Int32), o = (.inr (.inl (w4, w5))) → ∀ {H : Heap} {locs : List Loc} {ls : Array Slot}, zz_R D dA base h n s H locs → lv_has ls 9 [(0, .ref a0), (1, .int x1), (2, .int x2), (3, .int x3), (4, .int w4), (5, .int w5)] → W p l e rm_X10_foldsBy s m args below meth c H locs 0 0 (MQ below (zz_Qc D dA base (some (.int r0)) h n) args s rm_X10_foldsBy.cells rm_X10_foldsBy.slots (fun q => base ≤ q)) (F0 m 6 ls [])) (k1 : ∀ (w4 : Int32) (w6 : Int32), o = (.inl (w4, w6)) → ∀ {H : Heap} {locs : List Loc} {ls : Array Slot}, zz_R D dA base h n s H locs → lv_has ls 9 [(0, .ref a0), (1, .int x1), (2, .int x2), (3, .int x3), (4, .int w4), (5, .int x5), (6, .int w6)] → W p l e rm_X10_foldsBy s m args below meth c H locs 0 0 (MQ below (zz_Qc D dA base (some (.int r0)) h n) args s rm_X10_foldsBy.cells rm_X10_foldsBy.slots (fun q => base ≤ q)) (F0 m 18 ls [])) (hret : ∀ r, o = (.inr (.inr r)) → r = r0) : W p l e rm_X10_foldsBy s m args below meth c H locs 0 0 (MQ below (zz_Qc D dA base (some (.int r0)) h n) args s rm_X10_foldsBy.cells rm_X10_foldsBy.slots (fun q => base ≤ q)) (F0 m 71 ls [.int s0]) := by
  have hx := X.1
  have hb := X.2.1
  have hown := X.2.2.2.2.1
  unfold f_X10_foldsBy_71 at hf
  refine lv_istore (i := 8) (lv' := [(8, .int s0), (0, .ref a0), (1, .int x1), (2, .int x2), (3, .int x3), (4, .int x4), (5, .int x5), (6, .int x6), (7, .int x7)]) hx hb dX10_foldsBy_71 hl (by decide) rfl (fun ls hl => ?_)
  refine lv_iload hx hb dX10_foldsBy_73 (lv_at hl 5 rfl) ?_
  refine lv_iload hx hb dX10_foldsBy_75 (lv_at hl 8 rfl) ?_
  refine lv_if_le (tgt := 105) hx hb dX10_foldsBy_77 (by decide) (fun c77 => ?_) (fun c77 => ?_)
  · replace hf := zz_pos c77 hf
    exact bk_X10_foldsBy_105 X hT hR (lv_sub hl [1, 2, 3, 4, 6, 7] rfl) hf k0 k1 hret
  · replace hf := zz_neg c77 hf
    refine lv_iload hx hb dX10_foldsBy_80 (lv_at hl 0 rfl) ?_
    refine lv_if_le (tgt := 105) hx hb dX10_foldsBy_82 (by decide) (fun c82 => ?_) (fun c82 => ?_)
    · replace hf := zz_pos c82 hf
      exact bk_X10_foldsBy_105 X hT hR (lv_sub hl [1, 2, 3, 4, 6, 7] rfl) hf k0 k1 hret
    · replace hf := zz_neg c82 hf
      refine lv_iload_n hx hb dX10_foldsBy_85 rfl (lv_at hl 4 rfl) ?_
      refine lv_if_eq (tgt := 101) hx hb dX10_foldsBy_86 (by decide) (fun c86 => ?_) (fun c86 => ?_)
      · replace hf := zz_pos c86 hf
        exact bk_X10_foldsBy_101 X hT hR (lv_sub hl [1, 2, 3, 4, 6, 7] rfl) hf k0 k1 hret
      · replace hf := zz_neg c86 hf
        refine lv_iload hx hb dX10_foldsBy_89 (lv_at hl 8 rfl) ?_
        refine lv_iload hx hb dX10_foldsBy_91 (lv_at hl 0 rfl) ?_
        refine lv_isub hx hb dX10_foldsBy_93 ?_
        refine zr_abs X hl.1 q_1442 q_333 q_8 q_334 (Nat.le_of_ble_eq_true rfl) ⟨Nat.le_of_ble_eq_true rfl, Nat.le_of_ble_eq_true rfl⟩ ⟨Nat.le_of_ble_eq_true rfl, Nat.le_of_ble_eq_true rfl⟩ dX10_foldsBy_94 ?_
        refine W.eq (g2 := F0 m 97 ls [.int (zz_abs (x7 - s0)), .int x4]) rfl ?_
        refine lv_iconst (v := (3 : Int32)) hx hb dX10_foldsBy_97 (by decide) ?_
        refine lv_icmp_gt (tgt := 105) hx hb dX10_foldsBy_98 (by decide) (fun c98 => ?_) (fun c98 => ?_)
        · replace hf := zz_pos c98 hf
          exact bk_X10_foldsBy_105 X hT hR (lv_sub hl [1, 2, 3, 4, 6, 7] rfl) hf k0 k1 hret
        · replace hf := zz_neg c98 hf
          exact bk_X10_foldsBy_101 X hT hR (lv_sub hl [1, 2, 3, 4, 6, 7] rfl) hf k0 k1 hret
set_option maxHeartbeats 4000000 in
set_option maxRecDepth 100000 in
theorem bk_X10_foldsBy_18 {D : va_G} {dA : Nat → ClassId} {base t0 : Nat} {l : Launch} {p : Program} {e : Env} {s : State} {m : MethodId} {args : Array Value} {below : List Frame} {meth : Method} {c : Code} (X : zz_X D dA base t0 "SpringseatModel" cX10_foldsBy 9 (some .int) l p s m meth c) (hT : l.stackTraces = false) {a0 : Nat} {x1 : Int32} {x2 : Int32} {x3 : Int32} {x4 : Int32} {x5 : Int32} {x6 : Int32} {h : zz_H} {n : Nat} {H : Heap} {locs : List Loc} {ls : Array Slot} (hR : zz_R D dA base h n s H locs) (hl : lv_has ls 9 [(0, .ref a0), (1, .int x1), (2, .int x2), (3, .int x3), (4, .int x4), (5, .int x5), (6, .int x6)]) {r0 : Int32} {o : ((Int32 × Int32) ⊕ ((Int32 × Int32) ⊕ Int32))} (hf : f_X10_foldsBy_18 a0 x1 x2 x3 x4 x5 x6 h = some o) (k0 : ∀ (w4 : Int32) (w5 : Int32), o = (.inr (.inl (w4, w5))) → ∀ {H : Heap} {locs : List Loc} {ls : Array Slot}, zz_R D dA base h n s H locs → lv_has ls 9 [(0, .ref a0), (1, .int x1), (2, .int x2), (3, .int x3), (4, .int w4), (5, .int w5)] → W p l e rm_X10_foldsBy s m args below meth c H locs 0 0 (MQ below (zz_Qc D dA base (some (.int r0)) h n) args s rm_X10_foldsBy.cells rm_X10_foldsBy.slots (fun q => base ≤ q)) (F0 m 6 ls [])) (k1 : ∀ (w4 : Int32) (w6 : Int32), o = (.inl (w4, w6)) → ∀ {H : Heap} {locs : List Loc} {ls : Array Slot}, zz_R D dA base h n s H locs → lv_has ls 9 [(0, .ref a0), (1, .int x1), (2, .int x2), (3, .int x3), (4, .int w4), (5, .int x5), (6, .int w6)] → W p l e rm_X10_foldsBy s m args below meth c H locs 0 0 (MQ below (zz_Qc D dA base (some (.int r0)) h n) args s rm_X10_foldsBy.cells rm_X10_foldsBy.slots (fun q => base ≤ q)) (F0 m 18 ls [])) (hret : ∀ r, o = (.inr (.inr r)) → r = r0) : W p l e rm_X10_foldsBy s m args below meth c H locs 0 0 (MQ below (zz_Qc D dA base (some (.int r0)) h n) args s rm_X10_foldsBy.cells rm_X10_foldsBy.slots (fun q => base ≤ q)) (F0 m 18 ls []) := by
  have hx := X.1
  have hb := X.2.1
  have hown := X.2.2.2.2.1
  unfold f_X10_foldsBy_18 at hf
  refine lv_iload hx hb dX10_foldsBy_18 (lv_at hl 6 rfl) ?_
  refine lv_bipush (v := (6 : Int32)) hx hb dX10_foldsBy_20 (by decide) ?_
  refine lv_icmp_ge (tgt := 115) hx hb dX10_foldsBy_22 (by decide) (fun c22 => ?_) (fun c22 => ?_)
  · replace hf := zz_pos c22 hf
    refine lv_iinc (i := 5) (v := (x5 + (1 : Int32))) (lv' := [(5, .int (x5 + (1 : Int32))), (0, .ref a0), (1, .int x1), (2, .int x2), (3, .int x3), (4, .int x4), (6, .int x6)]) hx hb dX10_foldsBy_115 hl (k := 5) rfl rfl (by decide) rfl (fun ls hl => ?_)
    refine lv_goto (tgt := 6) hx hb dX10_foldsBy_118 (by decide) ?_
    cases hf
    exact k0 _ _ rfl hR (lv_sub hl [1, 2, 3, 4, 5, 0] rfl)
  · replace hf := zz_neg c22 hf
    refine lv_aload_n hx hb dX10_foldsBy_25 rfl (lv_at hl 0 rfl) ?_
    refine zr_gq X hR (r := (some a0)) fl_X10_68 dX10_foldsBy_26 hf (fun v26 hf => ?_)
    refine lv_iload_n hx hb dX10_foldsBy_29 rfl (lv_at hl 1 rfl) ?_
    refine zr_aald X hR (t := 7) (r := v26) (by decide) rfl dX10_foldsBy_30 hf (fun v30 hf => ?_)
    refine lv_iload hx hb dX10_foldsBy_31 (lv_at hl 5 rfl) ?_
    refine zr_aald X hR (t := 6) (r := v30) (by decide) rfl dX10_foldsBy_33 hf (fun v33 hf => ?_)
    refine lv_iload hx hb dX10_foldsBy_34 (lv_at hl 6 rfl) ?_
    refine zr_iald X hR (r := v33) dX10_foldsBy_36 hf (fun v36 hf => ?_)
    refine lv_istore (i := 7) (lv' := [(7, .int v36), (0, .ref a0), (1, .int x1), (2, .int x2), (3, .int x3), (4, .int x4), (5, .int x5), (6, .int x6)]) hx hb dX10_foldsBy_37 hl (by decide) rfl (fun ls hl => ?_)
    refine lv_iload hx hb dX10_foldsBy_39 (lv_at hl 7 rfl) ?_
    refine lv_iload_n hx hb dX10_foldsBy_41 rfl (lv_at hl 3 rfl) ?_
    refine lv_iadd hx hb dX10_foldsBy_42 ?_
    refine lv_iconst (v := (0 : Int32)) hx hb dX10_foldsBy_43 (by decide) ?_
    refine lv_iconst (v := (5 : Int32)) hx hb dX10_foldsBy_44 (by decide) ?_
    obtain ⟨v45, hv45, hf⟩ := zz_b_i hf
    refine zr_cS X hR hl.1 (As := [.int (x6 + x2), .int (0 : Int32), .int (5 : Int32)]) (rest := []) (mt_X10_isIn hT (x6 + x2) (0 : Int32) (5 : Int32) h n hv45) mf_X10_isIn q_1367 q_1368 ⟨Nat.le_of_ble_eq_true rfl, Nat.le_of_ble_eq_true rfl⟩ ⟨Nat.le_of_ble_eq_true rfl, Nat.le_of_ble_eq_true rfl⟩ rfl (Nat.le_of_ble_eq_true rfl) dX10_foldsBy_45 (fun H locs hR => ?_)
    refine W.eq (g2 := F0 m 48 ls [.int v45]) rfl ?_
    refine lv_if_eq (tgt := 70) hx hb dX10_foldsBy_48 (by decide) (fun c48 => ?_) (fun c48 => ?_)
    · replace hf := zz_pos c48 hf
      refine lv_iconst (v := (0 : Int32)) hx hb dX10_foldsBy_70 (by decide) ?_
      exact bk_X10_foldsBy_71 X hT hR (lv_sub hl [1, 2, 3, 4, 5, 6, 7, 0] rfl) hf k0 k1 hret
    · replace hf := zz_neg c48 hf
      refine lv_aload_n hx hb dX10_foldsBy_51 rfl (lv_at hl 1 rfl) ?_
      refine zr_gq X hR (r := (some a0)) fl_X10_68 dX10_foldsBy_52 hf (fun v52 hf => ?_)
      refine lv_iload_n hx hb dX10_foldsBy_55 rfl (lv_at hl 2 rfl) ?_
      refine zr_aald X hR (t := 7) (r := v52) (by decide) rfl dX10_foldsBy_56 hf (fun v56 hf => ?_)
      refine lv_iload hx hb dX10_foldsBy_57 (lv_at hl 6 rfl) ?_
      refine lv_iconst (v := (1 : Int32)) hx hb dX10_foldsBy_59 (by decide) ?_
      refine lv_iadd hx hb dX10_foldsBy_60 ?_
      refine zr_aald X hR (t := 6) (r := v56) (by decide) rfl dX10_foldsBy_61 hf (fun v61 hf => ?_)
      refine lv_iload hx hb dX10_foldsBy_62 (lv_at hl 7 rfl) ?_
      refine lv_iload_n hx hb dX10_foldsBy_64 rfl (lv_at hl 3 rfl) ?_
      refine lv_iadd hx hb dX10_foldsBy_65 ?_
      refine zr_iald X hR (r := v61) dX10_foldsBy_66 hf (fun v66 hf => ?_)
      refine lv_goto (tgt := 71) hx hb dX10_foldsBy_67 (by decide) ?_
      exact bk_X10_foldsBy_71 X hT hR (lv_sub hl [1, 2, 3, 4, 5, 6, 7, 0] rfl) hf k0 k1 hret
set_option maxHeartbeats 4000000 in
set_option maxRecDepth 100000 in
theorem lp_X10_foldsBy_18 {D : va_G} {dA : Nat → ClassId} {base t0 : Nat} {l : Launch} {p : Program} {e : Env} {s : State} {m : MethodId} {args : Array Value} {below : List Frame} {meth : Method} {c : Code} (X : zz_X D dA base t0 "SpringseatModel" cX10_foldsBy 9 (some .int) l p s m meth c) (hT : l.stackTraces = false) (a0 : Nat) (x1 : Int32) (x2 : Int32) (x3 : Int32) (x5 : Int32) {h : zz_H} {n : Nat} {r0 : Int32} : ∀ (k : Nat) (x4 : Int32) (x6 : Int32) {o : ((Int32 × Int32) ⊕ Int32)}, zz_it (fun s : (Int32 × Int32) => f_X10_foldsBy_18 a0 x1 x2 x3 s.1 x5 s.2 h) k (x4, x6) = some o → (∀ (w4 : Int32) (w5 : Int32), o = (.inl (w4, w5)) → ∀ {H : Heap} {locs : List Loc} {ls : Array Slot}, zz_R D dA base h n s H locs → lv_has ls 9 [(0, .ref a0), (1, .int x1), (2, .int x2), (3, .int x3), (4, .int w4), (5, .int w5)] → W p l e rm_X10_foldsBy s m args below meth c H locs 0 0 (MQ below (zz_Qc D dA base (some (.int r0)) h n) args s rm_X10_foldsBy.cells rm_X10_foldsBy.slots (fun q => base ≤ q)) (F0 m 6 ls [])) → (∀ r, o = (.inr r) → r = r0) → ∀ {H : Heap} {locs : List Loc} {ls : Array Slot}, zz_R D dA base h n s H locs → lv_has ls 9 [(0, .ref a0), (1, .int x1), (2, .int x2), (3, .int x3), (4, .int x4), (5, .int x5), (6, .int x6)] → W p l e rm_X10_foldsBy s m args below meth c H locs 0 0 (MQ below (zz_Qc D dA base (some (.int r0)) h n) args s rm_X10_foldsBy.cells rm_X10_foldsBy.slots (fun q => base ≤ q)) (F0 m 18 ls []) := by
  intro k
  induction k with
  | zero => intro x4 x6 o hf _ _; cases hf
  | succ k ih =>
    intro x4 x6 o hf k0 hret H locs ls hR hl
    rcases zz_it_s hf with ⟨⟨y0, y1⟩, h1, h2⟩ | h1
    · exact bk_X10_foldsBy_18 (r0 := r0) X hT hR hl h1 (fun z0 z1 e => by cases e) (fun z0 z1 e => by cases e; exact ih _ _ h2 k0 hret) (fun r e => by cases e)
    · exact bk_X10_foldsBy_18 (r0 := r0) X hT hR hl h1 (fun z0 z1 e => k0 z0 z1 (Sum.inr.inj e)) (fun z0 z1 e => by cases e) (fun r e => hret r (Sum.inr.inj e))
set_option maxHeartbeats 4000000 in
set_option maxRecDepth 100000 in
theorem bk_X10_foldsBy_6 {D : va_G} {dA : Nat → ClassId} {base t0 : Nat} {l : Launch} {p : Program} {e : Env} {s : State} {m : MethodId} {args : Array Value} {below : List Frame} {meth : Method} {c : Code} (X : zz_X D dA base t0 "SpringseatModel" cX10_foldsBy 9 (some .int) l p s m meth c) (hT : l.stackTraces = false) {a0 : Nat} {x1 : Int32} {x2 : Int32} {x3 : Int32} {x4 : Int32} {x5 : Int32} {h : zz_H} {n : Nat} {H : Heap} {locs : List Loc} {ls : Array Slot} (hR : zz_R D dA base h n s H locs) (hl : lv_has ls 9 [(0, .ref a0), (1, .int x1), (2, .int x2), (3, .int x3), (4, .int x4), (5, .int x5)]) {r0 : Int32} {o : ((Int32 × Int32) ⊕ Int32)} (hf : f_X10_foldsBy_6 a0 x1 x2 x3 x4 x5 h = some o) (k0 : ∀ (w4 : Int32) (w5 : Int32), o = (.inl (w4, w5)) → ∀ {H : Heap} {locs : List Loc} {ls : Array Slot}, zz_R D dA base h n s H locs → lv_has ls 9 [(0, .ref a0), (1, .int x1), (2, .int x2), (3, .int x3), (4, .int w4), (5, .int w5)] → W p l e rm_X10_foldsBy s m args below meth c H locs 0 0 (MQ below (zz_Qc D dA base (some (.int r0)) h n) args s rm_X10_foldsBy.cells rm_X10_foldsBy.slots (fun q => base ≤ q)) (F0 m 6 ls [])) (hret : ∀ r, o = (.inr r) → r = r0) : W p l e rm_X10_foldsBy s m args below meth c H locs 0 0 (MQ below (zz_Qc D dA base (some (.int r0)) h n) args s rm_X10_foldsBy.cells rm_X10_foldsBy.slots (fun q => base ≤ q)) (F0 m 6 ls []) := by
  have hx := X.1
  have hb := X.2.1
  have hown := X.2.2.2.2.1
  unfold f_X10_foldsBy_6 at hf
  refine lv_iload hx hb dX10_foldsBy_6 (lv_at hl 5 rfl) ?_
  refine lv_iconst (v := (1 : Int32)) hx hb dX10_foldsBy_8 (by decide) ?_
  refine lv_iadd hx hb dX10_foldsBy_9 ?_
  refine lv_bipush (v := (6 : Int32)) hx hb dX10_foldsBy_10 (by decide) ?_
  refine lv_icmp_ge (tgt := 121) hx hb dX10_foldsBy_12 (by decide) (fun c12 => ?_) (fun c12 => ?_)
  · replace hf := zz_pos c12 hf
    refine lv_iload hx hb dX10_foldsBy_121 (lv_at hl 4 rfl) ?_
    cases hf
    cases hret _ rfl
    exact zr_iret X hR dX10_foldsBy_123 (Nat.le_of_ble_eq_true rfl) (Nat.le_of_ble_eq_true rfl)
  · replace hf := zz_neg c12 hf
    refine lv_iconst (v := (0 : Int32)) hx hb dX10_foldsBy_15 (by decide) ?_
    refine lv_istore (i := 6) (lv' := [(6, .int (0 : Int32)), (0, .ref a0), (1, .int x1), (2, .int x2), (3, .int x3), (4, .int x4), (5, .int x5)]) hx hb dX10_foldsBy_16 hl (by decide) rfl (fun ls hl => ?_)
    exact lp_X10_foldsBy_18 X hT a0 x1 x2 x3 x5 zz_F _ _ hf k0 hret hR (lv_sub hl [1, 2, 3, 4, 5, 6, 0] rfl)
set_option maxHeartbeats 4000000 in
set_option maxRecDepth 100000 in
theorem lp_X10_foldsBy_6 {D : va_G} {dA : Nat → ClassId} {base t0 : Nat} {l : Launch} {p : Program} {e : Env} {s : State} {m : MethodId} {args : Array Value} {below : List Frame} {meth : Method} {c : Code} (X : zz_X D dA base t0 "SpringseatModel" cX10_foldsBy 9 (some .int) l p s m meth c) (hT : l.stackTraces = false) (a0 : Nat) (x1 : Int32) (x2 : Int32) (x3 : Int32) {h : zz_H} {n : Nat} {r0 : Int32} : ∀ (k : Nat) (x4 : Int32) (x5 : Int32), zz_it (fun s : (Int32 × Int32) => f_X10_foldsBy_6 a0 x1 x2 x3 s.1 s.2 h) k (x4, x5) = some r0 → ∀ {H : Heap} {locs : List Loc} {ls : Array Slot}, zz_R D dA base h n s H locs → lv_has ls 9 [(0, .ref a0), (1, .int x1), (2, .int x2), (3, .int x3), (4, .int x4), (5, .int x5)] → W p l e rm_X10_foldsBy s m args below meth c H locs 0 0 (MQ below (zz_Qc D dA base (some (.int r0)) h n) args s rm_X10_foldsBy.cells rm_X10_foldsBy.slots (fun q => base ≤ q)) (F0 m 6 ls []) := by
  intro k
  induction k with
  | zero => intro x4 x5 hf; cases hf
  | succ k ih =>
    intro x4 x5 hf H locs ls hR hl
    rcases zz_it_s hf with ⟨⟨y0, y1⟩, h1, h2⟩ | h1
    · exact bk_X10_foldsBy_6 (r0 := r0) X hT hR hl h1  (fun z0 z1 e => by cases e; exact ih _ _ h2) (fun r e => by cases e)
    · exact bk_X10_foldsBy_6 (r0 := r0) X hT hR hl h1  (fun z0 z1 e => by cases e) (fun r e => (Sum.inr.inj e).symm)
set_option maxHeartbeats 4000000 in
set_option maxRecDepth 100000 in
theorem mt_X10_foldsBy {D : va_G} {dA : Nat → ClassId} {base t0 : Nat} {l : Launch} (hT : l.stackTraces = false) (a0 : Nat) (x1 : Int32) (x2 : Int32) (x3 : Int32) (h : zz_H) (n : Nat) {r0 : Int32} (hf : f_X10_foldsBy a0 x1 x2 x3 h = some r0) : zz_M D dA base t0 l yX10_foldsBy cX10_foldsBy 9 (some .int) rm_X10_foldsBy [.ref a0, .int x1, .int x2, .int x3] h n (some (.int r0)) h n := by
  refine Met.ofW (cc := cX10_foldsBy) (maxL := 9) (ret := (some .int)) (by decide +kernel) rfl ?_
  intro p e s m args below meth c s₁ B hml hv
  obtain ⟨rfl, hP, hK⟩ := hv
  have X : zz_X D dA base t0 "SpringseatModel" cX10_foldsBy 9 (some .int) l p s m meth c := ⟨B.exec, B.bytes, hml, B.returns, findClass_of_methodNamed B.named, B.notSynchronized, hT, by rw [hP.1]; exact hP.2.1, hK⟩
  have hx := X.1
  have hb := X.2.1
  have hown := X.2.2.2.2.1
  have hR : zz_R D dA base h n s s.heap [] := ⟨hP, va_S.rf⟩
  have hl := lv_entry ([.ref a0, .int x1, .int x2, .int x3]) (n := 9) (by exact Nat.le_of_ble_eq_true rfl)
  rw [lg_entry_eq]
  generalize (lg_sl ([.ref a0, .int x1, .int x2, .int x3]) ++ List.replicate (9 - (lg_sl ([.ref a0, .int x1, .int x2, .int x3])).length) Slot.unset).toArray = ls at hl ⊢
  have hl : lv_has ls 9 [(0, .ref a0), (1, .int x1), (2, .int x2), (3, .int x3)] := hl
  unfold f_X10_foldsBy at hf
  refine lv_iconst (v := (0 : Int32)) hx hb dX10_foldsBy_0 (by decide) ?_
  refine lv_istore (i := 4) (lv' := [(4, .int (0 : Int32)), (0, .ref a0), (1, .int x1), (2, .int x2), (3, .int x3)]) hx hb dX10_foldsBy_1 hl (by decide) rfl (fun ls hl => ?_)
  refine lv_iconst (v := (0 : Int32)) hx hb dX10_foldsBy_3 (by decide) ?_
  refine lv_istore (i := 5) (lv' := [(5, .int (0 : Int32)), (4, .int (0 : Int32)), (0, .ref a0), (1, .int x1), (2, .int x2), (3, .int x3)]) hx hb dX10_foldsBy_4 hl (by decide) rfl (fun ls hl => ?_)
  exact lp_X10_foldsBy_6 X hT a0 x1 x2 x3 zz_F _ _ hf hR (lv_sub hl [2, 3, 4, 5, 1, 0] rfl)
def rm_X10_folds : Room := { frames := 2, cells := 0, slots := 0, locals := 50 }
theorem mf_X10_folds : zz_Mf yX10_folds cX10_folds 3 (some .int) 2 := ⟨q_1534, q_11, by decide +kernel, by decide +kernel, by decide +kernel⟩
set_option maxHeartbeats 4000000 in
set_option maxRecDepth 100000 in
theorem bk_X10_folds_32 {D : va_G} {dA : Nat → ClassId} {base t0 : Nat} {l : Launch} {p : Program} {e : Env} {s : State} {m : MethodId} {args : Array Value} {below : List Frame} {meth : Method} {c : Code} (X : zz_X D dA base t0 "SpringseatModel" cX10_folds 3 (some .int) l p s m meth c) (hT : l.stackTraces = false) {s0 : Int32} {h : zz_H} {n : Nat} {H : Heap} {locs : List Loc} {ls : Array Slot} (hR : zz_R D dA base h n s H locs) (hl : lv_has ls 3 []) {r0 : Int32} {hF : zz_H} (hf : f_X10_folds_32 s0 h = some (r0, hF)) : W p l e rm_X10_folds s m args below meth c H locs 0 0 (MQ below (zz_Qc D dA base (some (.int r0)) hF n) args s rm_X10_folds.cells rm_X10_folds.slots (fun q => base ≤ q)) (F0 m 32 ls [.int s0]) := by
  have hx := X.1
  have hb := X.2.1
  have hown := X.2.2.2.2.1
  unfold f_X10_folds_32 at hf
  cases hf
  exact zr_iret X hR dX10_folds_32 (Nat.le_of_ble_eq_true rfl) (Nat.le_of_ble_eq_true rfl)
set_option maxHeartbeats 4000000 in
set_option maxRecDepth 100000 in
theorem mt_X10_folds {D : va_G} {dA : Nat → ClassId} {base t0 : Nat} {l : Launch} (hT : l.stackTraces = false) (a0 : Nat) (x1 : Int32) (x2 : Int32) (h : zz_H) (n : Nat) {r0 : Int32} {hF : zz_H} (hf : f_X10_folds a0 x1 x2 h = some (r0, hF)) : zz_M D dA base t0 l yX10_folds cX10_folds 3 (some .int) rm_X10_folds [.ref a0, .int x1, .int x2] h n (some (.int r0)) hF n := by
  refine Met.ofW (cc := cX10_folds) (maxL := 3) (ret := (some .int)) (by decide +kernel) rfl ?_
  intro p e s m args below meth c s₁ B hml hv
  obtain ⟨rfl, hP, hK⟩ := hv
  have X : zz_X D dA base t0 "SpringseatModel" cX10_folds 3 (some .int) l p s m meth c := ⟨B.exec, B.bytes, hml, B.returns, findClass_of_methodNamed B.named, B.notSynchronized, hT, by rw [hP.1]; exact hP.2.1, hK⟩
  have hx := X.1
  have hb := X.2.1
  have hown := X.2.2.2.2.1
  have hR : zz_R D dA base h n s s.heap [] := ⟨hP, va_S.rf⟩
  have hl := lv_entry ([.ref a0, .int x1, .int x2]) (n := 3) (by exact Nat.le_of_ble_eq_true rfl)
  rw [lg_entry_eq]
  generalize (lg_sl ([.ref a0, .int x1, .int x2]) ++ List.replicate (3 - (lg_sl ([.ref a0, .int x1, .int x2])).length) Slot.unset).toArray = ls at hl ⊢
  have hl : lv_has ls 3 [(0, .ref a0), (1, .int x1), (2, .int x2)] := hl
  unfold f_X10_folds at hf
  refine lv_aload_n hx hb dX10_folds_0 rfl (lv_at hl 0 rfl) ?_
  refine lv_aload_n hx hb dX10_folds_1 rfl (lv_at hl 0 rfl) ?_
  refine lv_iload_n hx hb dX10_folds_2 rfl (lv_at hl 1 rfl) ?_
  obtain ⟨fs3, ho3, hf⟩ := zz_obS_i hf
  obtain ⟨v3, hv3, hf⟩ := zz_b_i hf
  refine zr_cV X hR hl.1 (As := [.int x1]) (rest := [.ref a0]) (C := RX10) (T := TX10) (N := 34) (mt_X10_isNoSeat hT a0 x1 h n hv3) rfl ho3 mf_X10_isNoSeat q_1378 q_1380 qs_18 ⟨Nat.le_of_ble_eq_true rfl, Nat.le_of_ble_eq_true rfl⟩ ⟨Nat.le_of_ble_eq_true rfl, Nat.le_of_ble_eq_true rfl⟩ rfl (Nat.le_of_ble_eq_true rfl) dX10_folds_3 (fun H locs hR => ?_)
  refine W.eq (g2 := F0 m 6 ls [.int v3, .ref a0]) rfl ?_
  refine lv_iconst (v := (1 : Int32)) hx hb dX10_folds_6 (by decide) ?_
  obtain ⟨fs7, ho7, hf⟩ := zz_obS_i hf
  obtain ⟨v7, h7, hv7, hf⟩ := zz_b1_i hf
  refine zr_cV X hR hl.1 (As := [.int v3, .int (1 : Int32)]) (rest := []) (C := RX10) (T := TX10) (N := 34) (mt_X10_isThrown hT a0 v3 (1 : Int32) h n hv7) rfl ho7 mf_X10_isThrown q_1370 q_1372 qs_17 ⟨Nat.le_of_ble_eq_true rfl, Nat.le_of_ble_eq_true rfl⟩ ⟨Nat.le_of_ble_eq_true rfl, Nat.le_of_ble_eq_true rfl⟩ rfl (Nat.le_of_ble_eq_true rfl) dX10_folds_7 (fun H locs hR => ?_)
  refine W.eq (g2 := F0 m 10 ls [.int v7]) rfl ?_
  refine lv_if_eq (tgt := 17) hx hb dX10_folds_10 (by decide) (fun c10 => ?_) (fun c10 => ?_)
  · replace hf := zz_pos c10 hf
    refine lv_aload_n hx hb dX10_folds_17 rfl (lv_at hl 0 rfl) ?_
    refine lv_iload_n hx hb dX10_folds_18 rfl (lv_at hl 1 rfl) ?_
    refine lv_iconst (v := (1 : Int32)) hx hb dX10_folds_19 (by decide) ?_
    refine lv_iload_n hx hb dX10_folds_20 rfl (lv_at hl 2 rfl) ?_
    obtain ⟨fs21, ho21, hf⟩ := zz_obS_i hf
    obtain ⟨v21, hv21, hf⟩ := zz_b_i hf
    refine zr_cV X hR hl.1 (As := [.int x1, .int (1 : Int32), .int x2]) (rest := []) (C := RX10) (T := TX10) (N := 34) (mt_X10_foldsBy hT a0 x1 (1 : Int32) x2 h7 n hv21) rfl ho21 mf_X10_foldsBy q_1535 q_1537 qs_36 ⟨Nat.le_of_ble_eq_true rfl, Nat.le_of_ble_eq_true rfl⟩ ⟨Nat.le_of_ble_eq_true rfl, Nat.le_of_ble_eq_true rfl⟩ rfl (Nat.le_of_ble_eq_true rfl) dX10_folds_21 (fun H locs hR => ?_)
    refine W.eq (g2 := F0 m 24 ls [.int v21]) rfl ?_
    refine lv_aload_n hx hb dX10_folds_24 rfl (lv_at hl 0 rfl) ?_
    refine lv_iload_n hx hb dX10_folds_25 rfl (lv_at hl 1 rfl) ?_
    refine lv_iconst (v := (-1 : Int32)) hx hb dX10_folds_26 (by decide) ?_
    refine lv_iload_n hx hb dX10_folds_27 rfl (lv_at hl 2 rfl) ?_
    obtain ⟨fs28, ho28, hf⟩ := zz_obS_i hf
    obtain ⟨v28, hv28, hf⟩ := zz_b_i hf
    refine zr_cV X hR hl.1 (As := [.int x1, .int (-1 : Int32), .int x2]) (rest := [.int v21]) (C := RX10) (T := TX10) (N := 34) (mt_X10_foldsBy hT a0 x1 (-1 : Int32) x2 h7 n hv28) rfl ho28 mf_X10_foldsBy q_1535 q_1537 qs_36 ⟨Nat.le_of_ble_eq_true rfl, Nat.le_of_ble_eq_true rfl⟩ ⟨Nat.le_of_ble_eq_true rfl, Nat.le_of_ble_eq_true rfl⟩ rfl (Nat.le_of_ble_eq_true rfl) dX10_folds_28 (fun H locs hR => ?_)
    refine W.eq (g2 := F0 m 31 ls [.int v28, .int v21]) rfl ?_
    refine lv_iadd hx hb dX10_folds_31 ?_
    exact bk_X10_folds_32 X hT hR (lv_sub hl [] rfl) hf
  · replace hf := zz_neg c10 hf
    refine lv_iconst (v := (0 : Int32)) hx hb dX10_folds_13 (by decide) ?_
    refine lv_goto (tgt := 32) hx hb dX10_folds_14 (by decide) ?_
    exact bk_X10_folds_32 X hT hR (lv_sub hl [] rfl) hf
def rm_X10_buttonAt : Room := { frames := 3, cells := 0, slots := 0, locals := 65 }
theorem mf_X10_buttonAt : zz_Mf yX10_buttonAt cX10_buttonAt 4 (some .int) 2 := ⟨q_1542, q_11, by decide +kernel, by decide +kernel, by decide +kernel⟩
set_option maxHeartbeats 4000000 in
set_option maxRecDepth 100000 in
theorem bk_X10_buttonAt_55 {D : va_G} {dA : Nat → ClassId} {base t0 : Nat} {l : Launch} {p : Program} {e : Env} {s : State} {m : MethodId} {args : Array Value} {below : List Frame} {meth : Method} {c : Code} (X : zz_X D dA base t0 "SpringseatModel" cX10_buttonAt 4 (some .int) l p s m meth c) (hT : l.stackTraces = false) {s0 : Int32} {h : zz_H} {n : Nat} {H : Heap} {locs : List Loc} {ls : Array Slot} (hR : zz_R D dA base h n s H locs) (hl : lv_has ls 4 []) {r0 : Int32} {hF : zz_H} (hf : f_X10_buttonAt_55 s0 h = some (r0, hF)) : W p l e rm_X10_buttonAt s m args below meth c H locs 0 0 (MQ below (zz_Qc D dA base (some (.int r0)) hF n) args s rm_X10_buttonAt.cells rm_X10_buttonAt.slots (fun q => base ≤ q)) (F0 m 55 ls [.int s0]) := by
  have hx := X.1
  have hb := X.2.1
  have hown := X.2.2.2.2.1
  unfold f_X10_buttonAt_55 at hf
  cases hf
  exact zr_iret X hR dX10_buttonAt_55 (Nat.le_of_ble_eq_true rfl) (Nat.le_of_ble_eq_true rfl)
set_option maxHeartbeats 4000000 in
set_option maxRecDepth 100000 in
theorem bk_X10_buttonAt_43 {D : va_G} {dA : Nat → ClassId} {base t0 : Nat} {l : Launch} {p : Program} {e : Env} {s : State} {m : MethodId} {args : Array Value} {below : List Frame} {meth : Method} {c : Code} (X : zz_X D dA base t0 "SpringseatModel" cX10_buttonAt 4 (some .int) l p s m meth c) (hT : l.stackTraces = false) {x3 : Int32} {s0 : Int32} {s1 : (Option Nat)} {h : zz_H} {n : Nat} {H : Heap} {locs : List Loc} {ls : Array Slot} (hR : zz_R D dA base h n s H locs) (hl : lv_has ls 4 [(3, .int x3)]) {r0 : Int32} {hF : zz_H} (hf : f_X10_buttonAt_43 x3 s0 s1 h = some (r0, hF)) : W p l e rm_X10_buttonAt s m args below meth c H locs 0 0 (MQ below (zz_Qc D dA base (some (.int r0)) hF n) args s rm_X10_buttonAt.cells rm_X10_buttonAt.slots (fun q => base ≤ q)) (F0 m 43 ls [.int s0, va_rf s1]) := by
  have hx := X.1
  have hb := X.2.1
  have hown := X.2.2.2.2.1
  unfold f_X10_buttonAt_43 at hf
  refine lv_iconst (v := (2 : Int32)) hx hb dX10_buttonAt_43 (by decide) ?_
  obtain ⟨b44, fs44, hr44, ho44, hf⟩ := zz_ob_i hf
  obtain ⟨v44, h44, hv44, hf⟩ := zz_b1_i hf
  refine zr_cV X hR hl.1 (As := [.int s0, .int (2 : Int32)]) (rest := []) (C := RX10) (T := TX10) (N := 34) (mt_X10_isThrown hT b44 s0 (2 : Int32) h n hv44) rfl ho44 mf_X10_isThrown q_1370 q_1372 qs_17 ⟨Nat.le_of_ble_eq_true rfl, Nat.le_of_ble_eq_true rfl⟩ ⟨Nat.le_of_ble_eq_true rfl, Nat.le_of_ble_eq_true rfl⟩ (by rw [hr44]; rfl) (Nat.le_of_ble_eq_true rfl) dX10_buttonAt_44 (fun H locs hR => ?_)
  refine W.eq (g2 := F0 m 47 ls [.int v44]) rfl ?_
  refine lv_if_eq (tgt := 54) hx hb dX10_buttonAt_47 (by decide) (fun c47 => ?_) (fun c47 => ?_)
  · replace hf := zz_pos c47 hf
    refine lv_iload_n hx hb dX10_buttonAt_54 rfl (lv_at hl 0 rfl) ?_
    exact bk_X10_buttonAt_55 X hT hR (lv_sub hl [] rfl) hf
  · replace hf := zz_neg c47 hf
    refine lv_iconst (v := (0 : Int32)) hx hb dX10_buttonAt_50 (by decide) ?_
    refine lv_goto (tgt := 55) hx hb dX10_buttonAt_51 (by decide) ?_
    exact bk_X10_buttonAt_55 X hT hR (lv_sub hl [] rfl) hf
set_option maxHeartbeats 4000000 in
set_option maxRecDepth 100000 in
theorem mt_X10_buttonAt {D : va_G} {dA : Nat → ClassId} {base t0 : Nat} {l : Launch} (hT : l.stackTraces = false) (a0 : Nat) (x1 : Int32) (x2 : Int32) (h : zz_H) (n : Nat) {r0 : Int32} {hF : zz_H} (hf : f_X10_buttonAt a0 x1 x2 h = some (r0, hF)) : zz_M D dA base t0 l yX10_buttonAt cX10_buttonAt 4 (some .int) rm_X10_buttonAt [.ref a0, .int x1, .int x2] h n (some (.int r0)) hF n := by
  refine Met.ofW (cc := cX10_buttonAt) (maxL := 4) (ret := (some .int)) (by decide +kernel) rfl ?_
  intro p e s m args below meth c s₁ B hml hv
  obtain ⟨rfl, hP, hK⟩ := hv
  have X : zz_X D dA base t0 "SpringseatModel" cX10_buttonAt 4 (some .int) l p s m meth c := ⟨B.exec, B.bytes, hml, B.returns, findClass_of_methodNamed B.named, B.notSynchronized, hT, by rw [hP.1]; exact hP.2.1, hK⟩
  have hx := X.1
  have hb := X.2.1
  have hown := X.2.2.2.2.1
  have hR : zz_R D dA base h n s s.heap [] := ⟨hP, va_S.rf⟩
  have hl := lv_entry ([.ref a0, .int x1, .int x2]) (n := 4) (by exact Nat.le_of_ble_eq_true rfl)
  rw [lg_entry_eq]
  generalize (lg_sl ([.ref a0, .int x1, .int x2]) ++ List.replicate (4 - (lg_sl ([.ref a0, .int x1, .int x2])).length) Slot.unset).toArray = ls at hl ⊢
  have hl : lv_has ls 4 [(0, .ref a0), (1, .int x1), (2, .int x2)] := hl
  unfold f_X10_buttonAt at hf
  refine lv_aload_n hx hb dX10_buttonAt_0 rfl (lv_at hl 0 rfl) ?_
  refine lv_aload_n hx hb dX10_buttonAt_1 rfl (lv_at hl 0 rfl) ?_
  refine lv_iload_n hx hb dX10_buttonAt_2 rfl (lv_at hl 1 rfl) ?_
  refine lv_iload_n hx hb dX10_buttonAt_3 rfl (lv_at hl 2 rfl) ?_
  obtain ⟨fs4, ho4, hf⟩ := zz_obS_i hf
  obtain ⟨v4, hv4, hf⟩ := zz_b_i hf
  refine zr_cV X hR hl.1 (As := [.int x1, .int x2]) (rest := [.ref a0]) (C := RX10) (T := TX10) (N := 34) (mt_X10_isNoCell hT a0 x1 x2 h n hv4) rfl ho4 mf_X10_isNoCell q_1413 q_1415 qs_24 ⟨Nat.le_of_ble_eq_true rfl, Nat.le_of_ble_eq_true rfl⟩ ⟨Nat.le_of_ble_eq_true rfl, Nat.le_of_ble_eq_true rfl⟩ rfl (Nat.le_of_ble_eq_true rfl) dX10_buttonAt_4 (fun H locs hR => ?_)
  refine W.eq (g2 := F0 m 7 ls [.int v4, .ref a0]) rfl ?_
  refine lv_iconst (v := (1 : Int32)) hx hb dX10_buttonAt_7 (by decide) ?_
  obtain ⟨fs8, ho8, hf⟩ := zz_obS_i hf
  obtain ⟨v8, h8, hv8, hf⟩ := zz_b1_i hf
  refine zr_cV X hR hl.1 (As := [.int v4, .int (1 : Int32)]) (rest := []) (C := RX10) (T := TX10) (N := 34) (mt_X10_isThrown hT a0 v4 (1 : Int32) h n hv8) rfl ho8 mf_X10_isThrown q_1370 q_1372 qs_17 ⟨Nat.le_of_ble_eq_true rfl, Nat.le_of_ble_eq_true rfl⟩ ⟨Nat.le_of_ble_eq_true rfl, Nat.le_of_ble_eq_true rfl⟩ rfl (Nat.le_of_ble_eq_true rfl) dX10_buttonAt_8 (fun H locs hR => ?_)
  refine W.eq (g2 := F0 m 11 ls [.int v8]) rfl ?_
  refine lv_if_eq (tgt := 16) hx hb dX10_buttonAt_11 (by decide) (fun c11 => ?_) (fun c11 => ?_)
  · replace hf := zz_pos c11 hf
    refine lv_aload_n hx hb dX10_buttonAt_16 rfl (lv_at hl 0 rfl) ?_
    refine zr_gq X hR (r := (some a0)) fl_X10_68 dX10_buttonAt_17 hf (fun v17 hf => ?_)
    refine lv_iload_n hx hb dX10_buttonAt_20 rfl (lv_at hl 1 rfl) ?_
    refine zr_aald X hR (t := 7) (r := v17) (by decide) rfl dX10_buttonAt_21 hf (fun v21 hf => ?_)
    refine lv_iload_n hx hb dX10_buttonAt_22 rfl (lv_at hl 2 rfl) ?_
    refine lv_bipush (v := (10 : Int32)) hx hb dX10_buttonAt_23 (by decide) ?_
    obtain ⟨hne25, hf⟩ := zz_dv_i hf
    refine lv_idiv hx hb dX10_buttonAt_25 hne25 ?_
    refine zr_aald X hR (t := 6) (r := v21) (by decide) rfl dX10_buttonAt_26 hf (fun v26 hf => ?_)
    refine lv_iload_n hx hb dX10_buttonAt_27 rfl (lv_at hl 2 rfl) ?_
    refine lv_bipush (v := (10 : Int32)) hx hb dX10_buttonAt_28 (by decide) ?_
    obtain ⟨hne30, hf⟩ := zz_dv_i hf
    refine lv_irem hx hb dX10_buttonAt_30 hne30 ?_
    refine zr_iald X hR (r := v26) dX10_buttonAt_31 hf (fun v31 hf => ?_)
    refine lv_istore_n (i := 3) (lv' := [(3, .int v31), (0, .ref a0), (1, .int x1), (2, .int x2)]) hx hb dX10_buttonAt_32 rfl hl (by decide) rfl (fun ls hl => ?_)
    refine lv_aload_n hx hb dX10_buttonAt_33 rfl (lv_at hl 1 rfl) ?_
    refine lv_iload_n hx hb dX10_buttonAt_34 rfl (lv_at hl 0 rfl) ?_
    refine lv_if_ne (tgt := 42) hx hb dX10_buttonAt_35 (by decide) (fun c35 => ?_) (fun c35 => ?_)
    · replace hf := zz_neg c35 hf
      refine lv_iconst (v := (0 : Int32)) hx hb dX10_buttonAt_42 (by decide) ?_
      exact bk_X10_buttonAt_43 X hT hR (lv_sub hl [0] rfl) hf
    · replace hf := zz_pos c35 hf
      refine lv_iconst (v := (1 : Int32)) hx hb dX10_buttonAt_38 (by decide) ?_
      refine lv_goto (tgt := 43) hx hb dX10_buttonAt_39 (by decide) ?_
      exact bk_X10_buttonAt_43 X hT hR (lv_sub hl [0] rfl) hf
  · replace hf := zz_neg c11 hf
    refine lv_iconst (v := (0 : Int32)) hx hb dX10_buttonAt_14 (by decide) ?_
    cases hf
    exact zr_iret X hR dX10_buttonAt_15 (Nat.le_of_ble_eq_true rfl) (Nat.le_of_ble_eq_true rfl)
def rm_X10_body : Room := { frames := 1, cells := 0, slots := 0, locals := 22 }
theorem mf_X10_body : zz_Mf yX10_body cX10_body 1 (some .int) 0 := ⟨q_1546, q_11, by decide +kernel, by decide +kernel, by decide +kernel⟩
set_option maxHeartbeats 4000000 in
set_option maxRecDepth 100000 in
theorem bk_X10_body_14 {D : va_G} {dA : Nat → ClassId} {base t0 : Nat} {l : Launch} {p : Program} {e : Env} {s : State} {m : MethodId} {args : Array Value} {below : List Frame} {meth : Method} {c : Code} (X : zz_X D dA base t0 "SpringseatModel" cX10_body 1 (some .int) l p s m meth c) (hT : l.stackTraces = false) {a0 : Nat} {s0 : Int32} {s1 : (Option Nat)} {h : zz_H} {n : Nat} {H : Heap} {locs : List Loc} {ls : Array Slot} (hR : zz_R D dA base h n s H locs) (hl : lv_has ls 1 [(0, .ref a0)]) {r0 : Int32} {hF : zz_H} (hf : f_X10_body_14 a0 s0 s1 h = some (r0, hF)) : W p l e rm_X10_body s m args below meth c H locs 0 0 (MQ below (zz_Qc D dA base (some (.int r0)) hF n) args s rm_X10_body.cells rm_X10_body.slots (fun q => base ≤ q)) (F0 m 14 ls [.int s0, va_rf s1]) := by
  have hx := X.1
  have hb := X.2.1
  have hown := X.2.2.2.2.1
  unfold f_X10_body_14 at hf
  refine lv_iconst (v := (1 : Int32)) hx hb dX10_body_14 (by decide) ?_
  obtain ⟨b15, fs15, hr15, ho15, hf⟩ := zz_ob_i hf
  obtain ⟨v15, h15, hv15, hf⟩ := zz_b1_i hf
  refine zr_cV X hR hl.1 (As := [.int s0, .int (1 : Int32)]) (rest := []) (C := RX10) (T := TX10) (N := 34) (mt_X10_isThrown hT b15 s0 (1 : Int32) h n hv15) rfl ho15 mf_X10_isThrown q_1370 q_1372 qs_17 ⟨Nat.le_of_ble_eq_true rfl, Nat.le_of_ble_eq_true rfl⟩ ⟨Nat.le_of_ble_eq_true rfl, Nat.le_of_ble_eq_true rfl⟩ (by rw [hr15]; rfl) (Nat.le_of_ble_eq_true rfl) dX10_body_15 (fun H locs hR => ?_)
  refine W.eq (g2 := F0 m 18 ls [.int v15]) rfl ?_
  refine lv_if_eq (tgt := 23) hx hb dX10_body_18 (by decide) (fun c18 => ?_) (fun c18 => ?_)
  · replace hf := zz_pos c18 hf
    refine lv_aload_n hx hb dX10_body_23 rfl (lv_at hl 0 rfl) ?_
    refine lv_dup hx hb dX10_body_24 rfl ?_
    refine zr_gi X hR (r := (some a0)) fl_X10_223 dX10_body_25 hf (fun v25 hf => ?_)
    refine lv_iconst (v := (1 : Int32)) hx hb dX10_body_28 (by decide) ?_
    refine lv_iadd hx hb dX10_body_29 ?_
    refine zr_p X hR (r := (some a0)) (v := .int (v25 + (1 : Int32))) fl_X10_223 rfl dX10_body_30 rfl rfl hf (fun h30 H locs hf hR => ?_)
    refine lv_aload_n hx hb dX10_body_33 rfl (lv_at hl 0 rfl) ?_
    refine zr_gi X hR (r := (some a0)) fl_X10_223 dX10_body_34 hf (fun v34 hf => ?_)
    refine lv_iconst (v := (1 : Int32)) hx hb dX10_body_37 (by decide) ?_
    refine lv_isub hx hb dX10_body_38 ?_
    cases hf
    exact zr_iret X hR dX10_body_39 (Nat.le_of_ble_eq_true rfl) (Nat.le_of_ble_eq_true rfl)
  · replace hf := zz_neg c18 hf
    refine lv_iconst (v := (0 : Int32)) hx hb dX10_body_21 (by decide) ?_
    cases hf
    exact zr_iret X hR dX10_body_22 (Nat.le_of_ble_eq_true rfl) (Nat.le_of_ble_eq_true rfl)
set_option maxHeartbeats 4000000 in
set_option maxRecDepth 100000 in
theorem mt_X10_body {D : va_G} {dA : Nat → ClassId} {base t0 : Nat} {l : Launch} (hT : l.stackTraces = false) (a0 : Nat) (h : zz_H) (n : Nat) {r0 : Int32} {hF : zz_H} (hf : f_X10_body a0 h = some (r0, hF)) : zz_M D dA base t0 l yX10_body cX10_body 1 (some .int) rm_X10_body [.ref a0] h n (some (.int r0)) hF n := by
  refine Met.ofW (cc := cX10_body) (maxL := 1) (ret := (some .int)) (by decide +kernel) rfl ?_
  intro p e s m args below meth c s₁ B hml hv
  obtain ⟨rfl, hP, hK⟩ := hv
  have X : zz_X D dA base t0 "SpringseatModel" cX10_body 1 (some .int) l p s m meth c := ⟨B.exec, B.bytes, hml, B.returns, findClass_of_methodNamed B.named, B.notSynchronized, hT, by rw [hP.1]; exact hP.2.1, hK⟩
  have hx := X.1
  have hb := X.2.1
  have hown := X.2.2.2.2.1
  have hR : zz_R D dA base h n s s.heap [] := ⟨hP, va_S.rf⟩
  have hl := lv_entry ([.ref a0]) (n := 1) (by exact Nat.le_of_ble_eq_true rfl)
  rw [lg_entry_eq]
  generalize (lg_sl ([.ref a0]) ++ List.replicate (1 - (lg_sl ([.ref a0])).length) Slot.unset).toArray = ls at hl ⊢
  have hl : lv_has ls 1 [(0, .ref a0)] := hl
  unfold f_X10_body at hf
  refine lv_aload_n hx hb dX10_body_0 rfl (lv_at hl 0 rfl) ?_
  refine lv_aload_n hx hb dX10_body_1 rfl (lv_at hl 0 rfl) ?_
  refine zr_gi X hR (r := (some a0)) fl_X10_223 dX10_body_2 hf (fun v2 hf => ?_)
  refine lv_iconst (v := (3 : Int32)) hx hb dX10_body_5 (by decide) ?_
  refine lv_icmp_ne (tgt := 13) hx hb dX10_body_6 (by decide) (fun c6 => ?_) (fun c6 => ?_)
  · replace hf := zz_neg c6 hf
    refine lv_iconst (v := (0 : Int32)) hx hb dX10_body_13 (by decide) ?_
    exact bk_X10_body_14 X hT hR (lv_sub hl [0] rfl) hf
  · replace hf := zz_pos c6 hf
    refine lv_iconst (v := (1 : Int32)) hx hb dX10_body_9 (by decide) ?_
    refine lv_goto (tgt := 14) hx hb dX10_body_10 (by decide) ?_
    exact bk_X10_body_14 X hT hR (lv_sub hl [0] rfl) hf
def rm_X10_isNoBody : Room := { frames := 1, cells := 0, slots := 0, locals := 22 }
theorem mf_X10_isNoBody : zz_Mf yX10_isNoBody cX10_isNoBody 2 (some .boolean) 1 := ⟨q_1554, q_11, by decide +kernel, by decide +kernel, by decide +kernel⟩
set_option maxHeartbeats 4000000 in
set_option maxRecDepth 100000 in
theorem bk_X10_isNoBody_19 {D : va_G} {dA : Nat → ClassId} {base t0 : Nat} {l : Launch} {p : Program} {e : Env} {s : State} {m : MethodId} {args : Array Value} {below : List Frame} {meth : Method} {c : Code} (X : zz_X D dA base t0 "SpringseatModel" cX10_isNoBody 2 (some .boolean) l p s m meth c) (hT : l.stackTraces = false) {s0 : Int32} {h : zz_H} {n : Nat} {H : Heap} {locs : List Loc} {ls : Array Slot} (hR : zz_R D dA base h n s H locs) (hl : lv_has ls 2 []) {r0 : Int32} (hf : f_X10_isNoBody_19 s0 h = some r0) : W p l e rm_X10_isNoBody s m args below meth c H locs 0 0 (MQ below (zz_Qc D dA base (some (.int r0)) h n) args s rm_X10_isNoBody.cells rm_X10_isNoBody.slots (fun q => base ≤ q)) (F0 m 19 ls [.int s0]) := by
  have hx := X.1
  have hb := X.2.1
  have hown := X.2.2.2.2.1
  unfold f_X10_isNoBody_19 at hf
  obtain ⟨hz19, hf⟩ := zz_gz_i hf
  cases hf
  exact zr_zret X hR (zz_nz hz19) dX10_isNoBody_19 (Nat.le_of_ble_eq_true rfl) (Nat.le_of_ble_eq_true rfl)
set_option maxHeartbeats 4000000 in
set_option maxRecDepth 100000 in
theorem mt_X10_isNoBody {D : va_G} {dA : Nat → ClassId} {base t0 : Nat} {l : Launch} (hT : l.stackTraces = false) (a0 : Nat) (x1 : Int32) (h : zz_H) (n : Nat) {r0 : Int32} (hf : f_X10_isNoBody a0 x1 h = some r0) : zz_M D dA base t0 l yX10_isNoBody cX10_isNoBody 2 (some .boolean) rm_X10_isNoBody [.ref a0, .int x1] h n (some (.int r0)) h n := by
  refine Met.ofW (cc := cX10_isNoBody) (maxL := 2) (ret := (some .boolean)) (by decide +kernel) rfl ?_
  intro p e s m args below meth c s₁ B hml hv
  obtain ⟨rfl, hP, hK⟩ := hv
  have X : zz_X D dA base t0 "SpringseatModel" cX10_isNoBody 2 (some .boolean) l p s m meth c := ⟨B.exec, B.bytes, hml, B.returns, findClass_of_methodNamed B.named, B.notSynchronized, hT, by rw [hP.1]; exact hP.2.1, hK⟩
  have hx := X.1
  have hb := X.2.1
  have hown := X.2.2.2.2.1
  have hR : zz_R D dA base h n s s.heap [] := ⟨hP, va_S.rf⟩
  have hl := lv_entry ([.ref a0, .int x1]) (n := 2) (by exact Nat.le_of_ble_eq_true rfl)
  rw [lg_entry_eq]
  generalize (lg_sl ([.ref a0, .int x1]) ++ List.replicate (2 - (lg_sl ([.ref a0, .int x1])).length) Slot.unset).toArray = ls at hl ⊢
  have hl : lv_has ls 2 [(0, .ref a0), (1, .int x1)] := hl
  unfold f_X10_isNoBody at hf
  refine lv_iload_n hx hb dX10_isNoBody_0 rfl (lv_at hl 1 rfl) ?_
  refine lv_iconst (v := (0 : Int32)) hx hb dX10_isNoBody_1 (by decide) ?_
  refine lv_aload_n hx hb dX10_isNoBody_2 rfl (lv_at hl 0 rfl) ?_
  refine zr_gi X hR (r := (some a0)) fl_X10_223 dX10_isNoBody_3 hf (fun v3 hf => ?_)
  refine lv_iconst (v := (1 : Int32)) hx hb dX10_isNoBody_6 (by decide) ?_
  refine lv_isub hx hb dX10_isNoBody_7 ?_
  obtain ⟨v8, hv8, hf⟩ := zz_b_i hf
  refine zr_cS X hR hl.1 (As := [.int x1, .int (0 : Int32), .int (v3 - (1 : Int32))]) (rest := []) (mt_X10_isIn hT x1 (0 : Int32) (v3 - (1 : Int32)) h n hv8) mf_X10_isIn q_1367 q_1368 ⟨Nat.le_of_ble_eq_true rfl, Nat.le_of_ble_eq_true rfl⟩ ⟨Nat.le_of_ble_eq_true rfl, Nat.le_of_ble_eq_true rfl⟩ rfl (Nat.le_of_ble_eq_true rfl) dX10_isNoBody_8 (fun H locs hR => ?_)
  refine W.eq (g2 := F0 m 11 ls [.int v8]) rfl ?_
  refine lv_if_ne (tgt := 18) hx hb dX10_isNoBody_11 (by decide) (fun c11 => ?_) (fun c11 => ?_)
  · replace hf := zz_neg c11 hf
    refine lv_iconst (v := (0 : Int32)) hx hb dX10_isNoBody_18 (by decide) ?_
    exact bk_X10_isNoBody_19 X hT hR (lv_sub hl [] rfl) hf
  · replace hf := zz_pos c11 hf
    refine lv_iconst (v := (1 : Int32)) hx hb dX10_isNoBody_14 (by decide) ?_
    refine lv_goto (tgt := 19) hx hb dX10_isNoBody_15 (by decide) ?_
    exact bk_X10_isNoBody_19 X hT hR (lv_sub hl [] rfl) hf
def rm_X10_mass : Room := { frames := 2, cells := 0, slots := 0, locals := 43 }
theorem mf_X10_mass : zz_Mf yX10_mass cX10_mass 6 (some .int) 3 := ⟨q_1550, q_11, by decide +kernel, by decide +kernel, by decide +kernel⟩
set_option maxHeartbeats 4000000 in
set_option maxRecDepth 100000 in
theorem bk_X10_mass_78 {D : va_G} {dA : Nat → ClassId} {base t0 : Nat} {l : Launch} {p : Program} {e : Env} {s : State} {m : MethodId} {args : Array Value} {below : List Frame} {meth : Method} {c : Code} (X : zz_X D dA base t0 "SpringseatModel" cX10_mass 6 (some .int) l p s m meth c) (hT : l.stackTraces = false) {h : zz_H} {n : Nat} {H : Heap} {locs : List Loc} {ls : Array Slot} (hR : zz_R D dA base h n s H locs) (hl : lv_has ls 6 []) {r0 : Int32} {hF : zz_H} (hf : f_X10_mass_78 h = some (r0, hF)) : W p l e rm_X10_mass s m args below meth c H locs 0 0 (MQ below (zz_Qc D dA base (some (.int r0)) hF n) args s rm_X10_mass.cells rm_X10_mass.slots (fun q => base ≤ q)) (F0 m 78 ls []) := by
  have hx := X.1
  have hb := X.2.1
  have hown := X.2.2.2.2.1
  unfold f_X10_mass_78 at hf
  refine lv_iconst (v := (0 : Int32)) hx hb dX10_mass_78 (by decide) ?_
  cases hf
  exact zr_iret X hR dX10_mass_79 (Nat.le_of_ble_eq_true rfl) (Nat.le_of_ble_eq_true rfl)
set_option maxHeartbeats 4000000 in
set_option maxRecDepth 100000 in
theorem bk_X10_mass_71 {D : va_G} {dA : Nat → ClassId} {base t0 : Nat} {l : Launch} {p : Program} {e : Env} {s : State} {m : MethodId} {args : Array Value} {below : List Frame} {meth : Method} {c : Code} (X : zz_X D dA base t0 "SpringseatModel" cX10_mass 6 (some .int) l p s m meth c) (hT : l.stackTraces = false) {a0 : Nat} {x1 : Int32} {x2 : Int32} {x3 : Int32} {s0 : Int32} {s1 : (Option Nat)} {h : zz_H} {n : Nat} {H : Heap} {locs : List Loc} {ls : Array Slot} (hR : zz_R D dA base h n s H locs) (hl : lv_has ls 6 [(0, .ref a0), (1, .int x1), (2, .int x2), (3, .int x3)]) {r0 : Int32} {hF : zz_H} (hf : f_X10_mass_71 a0 x1 x2 x3 s0 s1 h = some (r0, hF)) : W p l e rm_X10_mass s m args below meth c H locs 0 0 (MQ below (zz_Qc D dA base (some (.int r0)) hF n) args s rm_X10_mass.cells rm_X10_mass.slots (fun q => base ≤ q)) (F0 m 71 ls [.int s0, va_rf s1]) := by
  have hx := X.1
  have hb := X.2.1
  have hown := X.2.2.2.2.1
  unfold f_X10_mass_71 at hf
  refine lv_iconst (v := (2 : Int32)) hx hb dX10_mass_71 (by decide) ?_
  obtain ⟨b72, fs72, hr72, ho72, hf⟩ := zz_ob_i hf
  obtain ⟨v72, h72, hv72, hf⟩ := zz_b1_i hf
  refine zr_cV X hR hl.1 (As := [.int s0, .int (2 : Int32)]) (rest := []) (C := RX10) (T := TX10) (N := 34) (mt_X10_isThrown hT b72 s0 (2 : Int32) h n hv72) rfl ho72 mf_X10_isThrown q_1370 q_1372 qs_17 ⟨Nat.le_of_ble_eq_true rfl, Nat.le_of_ble_eq_true rfl⟩ ⟨Nat.le_of_ble_eq_true rfl, Nat.le_of_ble_eq_true rfl⟩ (by rw [hr72]; rfl) (Nat.le_of_ble_eq_true rfl) dX10_mass_72 (fun H locs hR => ?_)
  refine W.eq (g2 := F0 m 75 ls [.int v72]) rfl ?_
  refine lv_if_eq (tgt := 80) hx hb dX10_mass_75 (by decide) (fun c75 => ?_) (fun c75 => ?_)
  · replace hf := zz_pos c75 hf
    refine lv_aload_n hx hb dX10_mass_80 rfl (lv_at hl 0 rfl) ?_
    refine zr_gq X hR (r := (some a0)) fl_X10_86 dX10_mass_81 hf (fun v81 hf => ?_)
    refine lv_iload_n hx hb dX10_mass_84 rfl (lv_at hl 1 rfl) ?_
    refine zr_aald X hR (t := 7) (r := v81) (by decide) rfl dX10_mass_85 hf (fun v85 hf => ?_)
    refine lv_iload_n hx hb dX10_mass_86 rfl (lv_at hl 2 rfl) ?_
    refine lv_bipush (v := (10 : Int32)) hx hb dX10_mass_87 (by decide) ?_
    obtain ⟨hne89, hf⟩ := zz_dv_i hf
    refine lv_idiv hx hb dX10_mass_89 hne89 ?_
    refine zr_aald X hR (t := 6) (r := v85) (by decide) rfl dX10_mass_90 hf (fun v90 hf => ?_)
    refine lv_iload_n hx hb dX10_mass_91 rfl (lv_at hl 2 rfl) ?_
    refine lv_bipush (v := (10 : Int32)) hx hb dX10_mass_92 (by decide) ?_
    obtain ⟨hne94, hf⟩ := zz_dv_i hf
    refine lv_irem hx hb dX10_mass_94 hne94 ?_
    refine zr_iald X hR (r := v90) dX10_mass_95 hf (fun v95 hf => ?_)
    refine lv_istore (i := 5) (lv' := [(5, .int v95), (0, .ref a0), (1, .int x1), (2, .int x2), (3, .int x3)]) hx hb dX10_mass_96 hl (by decide) rfl (fun ls hl => ?_)
    refine lv_aload_n hx hb dX10_mass_98 rfl (lv_at hl 1 rfl) ?_
    refine zr_gq X hR (r := (some a0)) fl_X10_86 dX10_mass_99 hf (fun v99 hf => ?_)
    refine lv_iload_n hx hb dX10_mass_102 rfl (lv_at hl 2 rfl) ?_
    refine zr_aald X hR (t := 7) (r := v99) (by decide) rfl dX10_mass_103 hf (fun v103 hf => ?_)
    refine lv_iload_n hx hb dX10_mass_104 rfl (lv_at hl 3 rfl) ?_
    refine lv_bipush (v := (10 : Int32)) hx hb dX10_mass_105 (by decide) ?_
    obtain ⟨hne107, hf⟩ := zz_dv_i hf
    refine lv_idiv hx hb dX10_mass_107 hne107 ?_
    refine zr_aald X hR (t := 6) (r := v103) (by decide) rfl dX10_mass_108 hf (fun v108 hf => ?_)
    refine lv_iload_n hx hb dX10_mass_109 rfl (lv_at hl 3 rfl) ?_
    refine lv_bipush (v := (10 : Int32)) hx hb dX10_mass_110 (by decide) ?_
    obtain ⟨hne112, hf⟩ := zz_dv_i hf
    refine lv_irem hx hb dX10_mass_112 hne112 ?_
    refine lv_iload_n hx hb dX10_mass_113 rfl (lv_at hl 4 rfl) ?_
    refine zr_iast X hR (r := v108) dX10_mass_114 hf (fun h114 H locs hf hR => ?_)
    refine lv_iload hx hb dX10_mass_115 (lv_at hl 0 rfl) ?_
    cases hf
    exact zr_iret X hR dX10_mass_117 (Nat.le_of_ble_eq_true rfl) (Nat.le_of_ble_eq_true rfl)
  · replace hf := zz_neg c75 hf
    exact bk_X10_mass_78 X hT hR (lv_sub hl [] rfl) hf
set_option maxHeartbeats 4000000 in
set_option maxRecDepth 100000 in
theorem bk_X10_mass_48 {D : va_G} {dA : Nat → ClassId} {base t0 : Nat} {l : Launch} {p : Program} {e : Env} {s : State} {m : MethodId} {args : Array Value} {below : List Frame} {meth : Method} {c : Code} (X : zz_X D dA base t0 "SpringseatModel" cX10_mass 6 (some .int) l p s m meth c) (hT : l.stackTraces = false) {a0 : Nat} {x1 : Int32} {x2 : Int32} {x3 : Int32} {s0 : Int32} {s1 : (Option Nat)} {h : zz_H} {n : Nat} {H : Heap} {locs : List Loc} {ls : Array Slot} (hR : zz_R D dA base h n s H locs) (hl : lv_has ls 6 [(0, .ref a0), (1, .int x1), (2, .int x2), (3, .int x3)]) {r0 : Int32} {hF : zz_H} (hf : f_X10_mass_48 a0 x1 x2 x3 s0 s1 h = some (r0, hF)) : W p l e rm_X10_mass s m args below meth c H locs 0 0 (MQ below (zz_Qc D dA base (some (.int r0)) hF n) args s rm_X10_mass.cells rm_X10_mass.slots (fun q => base ≤ q)) (F0 m 48 ls [.int s0, va_rf s1]) := by
  have hx := X.1
  have hb := X.2.1
  have hown := X.2.2.2.2.1
  unfold f_X10_mass_48 at hf
  refine lv_iconst (v := (1 : Int32)) hx hb dX10_mass_48 (by decide) ?_
  obtain ⟨b49, fs49, hr49, ho49, hf⟩ := zz_ob_i hf
  obtain ⟨v49, h49, hv49, hf⟩ := zz_b1_i hf
  refine zr_cV X hR hl.1 (As := [.int s0, .int (1 : Int32)]) (rest := []) (C := RX10) (T := TX10) (N := 34) (mt_X10_isThrown hT b49 s0 (1 : Int32) h n hv49) rfl ho49 mf_X10_isThrown q_1370 q_1372 qs_17 ⟨Nat.le_of_ble_eq_true rfl, Nat.le_of_ble_eq_true rfl⟩ ⟨Nat.le_of_ble_eq_true rfl, Nat.le_of_ble_eq_true rfl⟩ (by rw [hr49]; rfl) (Nat.le_of_ble_eq_true rfl) dX10_mass_49 (fun H locs hR => ?_)
  refine W.eq (g2 := F0 m 52 ls [.int v49]) rfl ?_
  refine lv_if_ne (tgt := 78) hx hb dX10_mass_52 (by decide) (fun c52 => ?_) (fun c52 => ?_)
  · replace hf := zz_neg c52 hf
    exact bk_X10_mass_78 X hT hR (lv_sub hl [] rfl) hf
  · replace hf := zz_pos c52 hf
    refine lv_aload_n hx hb dX10_mass_55 rfl (lv_at hl 0 rfl) ?_
    refine lv_iload_n hx hb dX10_mass_56 rfl (lv_at hl 3 rfl) ?_
    refine lv_iconst (v := (0 : Int32)) hx hb dX10_mass_57 (by decide) ?_
    refine lv_bipush (v := (99 : Int32)) hx hb dX10_mass_58 (by decide) ?_
    obtain ⟨v60, hv60, hf⟩ := zz_b_i hf
    refine zr_cS X hR hl.1 (As := [.int x3, .int (0 : Int32), .int (99 : Int32)]) (rest := [.ref a0]) (mt_X10_isIn hT x3 (0 : Int32) (99 : Int32) h49 n hv60) mf_X10_isIn q_1367 q_1368 ⟨Nat.le_of_ble_eq_true rfl, Nat.le_of_ble_eq_true rfl⟩ ⟨Nat.le_of_ble_eq_true rfl, Nat.le_of_ble_eq_true rfl⟩ rfl (Nat.le_of_ble_eq_true rfl) dX10_mass_60 (fun H locs hR => ?_)
    refine W.eq (g2 := F0 m 63 ls [.int v60, .ref a0]) rfl ?_
    refine lv_if_ne (tgt := 70) hx hb dX10_mass_63 (by decide) (fun c63 => ?_) (fun c63 => ?_)
    · replace hf := zz_neg c63 hf
      refine lv_iconst (v := (0 : Int32)) hx hb dX10_mass_70 (by decide) ?_
      exact bk_X10_mass_71 X hT hR (lv_sub hl [0, 1, 2, 3] rfl) hf
    · replace hf := zz_pos c63 hf
      refine lv_iconst (v := (1 : Int32)) hx hb dX10_mass_66 (by decide) ?_
      refine lv_goto (tgt := 71) hx hb dX10_mass_67 (by decide) ?_
      exact bk_X10_mass_71 X hT hR (lv_sub hl [0, 1, 2, 3] rfl) hf
set_option maxHeartbeats 4000000 in
set_option maxRecDepth 100000 in
theorem bk_X10_mass_43 {D : va_G} {dA : Nat → ClassId} {base t0 : Nat} {l : Launch} {p : Program} {e : Env} {s : State} {m : MethodId} {args : Array Value} {below : List Frame} {meth : Method} {c : Code} (X : zz_X D dA base t0 "SpringseatModel" cX10_mass 6 (some .int) l p s m meth c) (hT : l.stackTraces = false) {a0 : Nat} {x1 : Int32} {x2 : Int32} {x3 : Int32} {s0 : (Option Nat)} {h : zz_H} {n : Nat} {H : Heap} {locs : List Loc} {ls : Array Slot} (hR : zz_R D dA base h n s H locs) (hl : lv_has ls 6 [(0, .ref a0), (1, .int x1), (2, .int x2), (3, .int x3)]) {r0 : Int32} {hF : zz_H} (hf : f_X10_mass_43 a0 x1 x2 x3 s0 h = some (r0, hF)) : W p l e rm_X10_mass s m args below meth c H locs 0 0 (MQ below (zz_Qc D dA base (some (.int r0)) hF n) args s rm_X10_mass.cells rm_X10_mass.slots (fun q => base ≤ q)) (F0 m 43 ls [va_rf s0]) := by
  have hx := X.1
  have hb := X.2.1
  have hown := X.2.2.2.2.1
  unfold f_X10_mass_43 at hf
  refine lv_iconst (v := (1 : Int32)) hx hb dX10_mass_43 (by decide) ?_
  refine lv_goto (tgt := 48) hx hb dX10_mass_44 (by decide) ?_
  exact bk_X10_mass_48 X hT hR (lv_sub hl [0, 1, 2, 3] rfl) hf
set_option maxHeartbeats 4000000 in
set_option maxRecDepth 100000 in
theorem bk_X10_mass_27 {D : va_G} {dA : Nat → ClassId} {base t0 : Nat} {l : Launch} {p : Program} {e : Env} {s : State} {m : MethodId} {args : Array Value} {below : List Frame} {meth : Method} {c : Code} (X : zz_X D dA base t0 "SpringseatModel" cX10_mass 6 (some .int) l p s m meth c) (hT : l.stackTraces = false) {a0 : Nat} {x1 : Int32} {x2 : Int32} {x3 : Int32} {s0 : Int32} {h : zz_H} {n : Nat} {H : Heap} {locs : List Loc} {ls : Array Slot} (hR : zz_R D dA base h n s H locs) (hl : lv_has ls 6 [(0, .ref a0), (1, .int x1), (2, .int x2), (3, .int x3)]) {r0 : Int32} {hF : zz_H} (hf : f_X10_mass_27 a0 x1 x2 x3 s0 h = some (r0, hF)) : W p l e rm_X10_mass s m args below meth c H locs 0 0 (MQ below (zz_Qc D dA base (some (.int r0)) hF n) args s rm_X10_mass.cells rm_X10_mass.slots (fun q => base ≤ q)) (F0 m 27 ls [.int s0]) := by
  have hx := X.1
  have hb := X.2.1
  have hown := X.2.2.2.2.1
  unfold f_X10_mass_27 at hf
  refine lv_istore (i := 4) (lv' := [(4, .int s0), (0, .ref a0), (1, .int x1), (2, .int x2), (3, .int x3)]) hx hb dX10_mass_27 hl (by decide) rfl (fun ls hl => ?_)
  refine lv_aload_n hx hb dX10_mass_29 rfl (lv_at hl 1 rfl) ?_
  refine lv_aload_n hx hb dX10_mass_30 rfl (lv_at hl 1 rfl) ?_
  refine lv_iload_n hx hb dX10_mass_31 rfl (lv_at hl 2 rfl) ?_
  obtain ⟨fs32, ho32, hf⟩ := zz_obS_i hf
  obtain ⟨v32, hv32, hf⟩ := zz_b_i hf
  refine zr_cV X hR hl.1 (As := [.int x1]) (rest := [.ref a0]) (C := RX10) (T := TX10) (N := 34) (mt_X10_isNoBody hT a0 x1 h n hv32) rfl ho32 mf_X10_isNoBody q_1551 q_1553 qs_37 ⟨Nat.le_of_ble_eq_true rfl, Nat.le_of_ble_eq_true rfl⟩ ⟨Nat.le_of_ble_eq_true rfl, Nat.le_of_ble_eq_true rfl⟩ rfl (Nat.le_of_ble_eq_true rfl) dX10_mass_32 (fun H locs hR => ?_)
  refine W.eq (g2 := F0 m 35 ls [.int v32, .ref a0]) rfl ?_
  refine lv_if_ne (tgt := 43) hx hb dX10_mass_35 (by decide) (fun c35 => ?_) (fun c35 => ?_)
  · replace hf := zz_neg c35 hf
    exact bk_X10_mass_43 X hT hR (lv_sub hl [1, 2, 3, 4] rfl) hf
  · replace hf := zz_pos c35 hf
    refine lv_iload hx hb dX10_mass_38 (lv_at hl 0 rfl) ?_
    refine lv_if_ne (tgt := 47) hx hb dX10_mass_40 (by decide) (fun c40 => ?_) (fun c40 => ?_)
    · replace hf := zz_neg c40 hf
      refine lv_iconst (v := (0 : Int32)) hx hb dX10_mass_47 (by decide) ?_
      exact bk_X10_mass_48 X hT hR (lv_sub hl [1, 2, 3, 4] rfl) hf
    · replace hf := zz_pos c40 hf
      exact bk_X10_mass_43 X hT hR (lv_sub hl [1, 2, 3, 4] rfl) hf
set_option maxHeartbeats 4000000 in
set_option maxRecDepth 100000 in
theorem bk_X10_mass_26 {D : va_G} {dA : Nat → ClassId} {base t0 : Nat} {l : Launch} {p : Program} {e : Env} {s : State} {m : MethodId} {args : Array Value} {below : List Frame} {meth : Method} {c : Code} (X : zz_X D dA base t0 "SpringseatModel" cX10_mass 6 (some .int) l p s m meth c) (hT : l.stackTraces = false) {a0 : Nat} {x1 : Int32} {x2 : Int32} {x3 : Int32} {h : zz_H} {n : Nat} {H : Heap} {locs : List Loc} {ls : Array Slot} (hR : zz_R D dA base h n s H locs) (hl : lv_has ls 6 [(0, .ref a0), (1, .int x1), (2, .int x2), (3, .int x3)]) {r0 : Int32} {hF : zz_H} (hf : f_X10_mass_26 a0 x1 x2 x3 h = some (r0, hF)) : W p l e rm_X10_mass s m args below meth c H locs 0 0 (MQ below (zz_Qc D dA base (some (.int r0)) hF n) args s rm_X10_mass.cells rm_X10_mass.slots (fun q => base ≤ q)) (F0 m 26 ls []) := by
  have hx := X.1
  have hb := X.2.1
  have hown := X.2.2.2.2.1
  unfold f_X10_mass_26 at hf
  refine lv_iconst (v := (0 : Int32)) hx hb dX10_mass_26 (by decide) ?_
  exact bk_X10_mass_27 X hT hR (lv_sub hl [0, 1, 2, 3] rfl) hf
set_option maxHeartbeats 4000000 in
set_option maxRecDepth 100000 in
theorem mt_X10_mass {D : va_G} {dA : Nat → ClassId} {base t0 : Nat} {l : Launch} (hT : l.stackTraces = false) (a0 : Nat) (x1 : Int32) (x2 : Int32) (x3 : Int32) (h : zz_H) (n : Nat) {r0 : Int32} {hF : zz_H} (hf : f_X10_mass a0 x1 x2 x3 h = some (r0, hF)) : zz_M D dA base t0 l yX10_mass cX10_mass 6 (some .int) rm_X10_mass [.ref a0, .int x1, .int x2, .int x3] h n (some (.int r0)) hF n := by
  refine Met.ofW (cc := cX10_mass) (maxL := 6) (ret := (some .int)) (by decide +kernel) rfl ?_
  intro p e s m args below meth c s₁ B hml hv
  obtain ⟨rfl, hP, hK⟩ := hv
  have X : zz_X D dA base t0 "SpringseatModel" cX10_mass 6 (some .int) l p s m meth c := ⟨B.exec, B.bytes, hml, B.returns, findClass_of_methodNamed B.named, B.notSynchronized, hT, by rw [hP.1]; exact hP.2.1, hK⟩
  have hx := X.1
  have hb := X.2.1
  have hown := X.2.2.2.2.1
  have hR : zz_R D dA base h n s s.heap [] := ⟨hP, va_S.rf⟩
  have hl := lv_entry ([.ref a0, .int x1, .int x2, .int x3]) (n := 6) (by exact Nat.le_of_ble_eq_true rfl)
  rw [lg_entry_eq]
  generalize (lg_sl ([.ref a0, .int x1, .int x2, .int x3]) ++ List.replicate (6 - (lg_sl ([.ref a0, .int x1, .int x2, .int x3])).length) Slot.unset).toArray = ls at hl ⊢
  have hl : lv_has ls 6 [(0, .ref a0), (1, .int x1), (2, .int x2), (3, .int x3)] := hl
  unfold f_X10_mass at hf
  refine lv_iload_n hx hb dX10_mass_0 rfl (lv_at hl 2 rfl) ?_
  refine lv_if_lt (tgt := 26) hx hb dX10_mass_1 (by decide) (fun c1 => ?_) (fun c1 => ?_)
  · replace hf := zz_pos c1 hf
    exact bk_X10_mass_26 X hT hR (lv_sub hl [0, 1, 2, 3] rfl) hf
  · replace hf := zz_neg c1 hf
    refine lv_iload_n hx hb dX10_mass_4 rfl (lv_at hl 2 rfl) ?_
    refine lv_bipush (v := (10 : Int32)) hx hb dX10_mass_5 (by decide) ?_
    obtain ⟨hne7, hf⟩ := zz_dv_i hf
    refine lv_idiv hx hb dX10_mass_7 hne7 ?_
    refine lv_bipush (v := (6 : Int32)) hx hb dX10_mass_8 (by decide) ?_
    refine lv_icmp_ge (tgt := 26) hx hb dX10_mass_10 (by decide) (fun c10 => ?_) (fun c10 => ?_)
    · replace hf := zz_pos c10 hf
      exact bk_X10_mass_26 X hT hR (lv_sub hl [0, 1, 2, 3] rfl) hf
    · replace hf := zz_neg c10 hf
      refine lv_iload_n hx hb dX10_mass_13 rfl (lv_at hl 2 rfl) ?_
      refine lv_bipush (v := (10 : Int32)) hx hb dX10_mass_14 (by decide) ?_
      obtain ⟨hne16, hf⟩ := zz_dv_i hf
      refine lv_irem hx hb dX10_mass_16 hne16 ?_
      refine lv_bipush (v := (6 : Int32)) hx hb dX10_mass_17 (by decide) ?_
      refine lv_icmp_ge (tgt := 26) hx hb dX10_mass_19 (by decide) (fun c19 => ?_) (fun c19 => ?_)
      · replace hf := zz_pos c19 hf
        exact bk_X10_mass_26 X hT hR (lv_sub hl [0, 1, 2, 3] rfl) hf
      · replace hf := zz_neg c19 hf
        refine lv_iconst (v := (1 : Int32)) hx hb dX10_mass_22 (by decide) ?_
        refine lv_goto (tgt := 27) hx hb dX10_mass_23 (by decide) ?_
        exact bk_X10_mass_27 X hT hR (lv_sub hl [0, 1, 2, 3] rfl) hf
def rm_X10_own : Room := { frames := 2, cells := 0, slots := 0, locals := 44 }
theorem mf_X10_own : zz_Mf yX10_own cX10_own 9 (some .int) 4 := ⟨q_1566, q_11, by decide +kernel, by decide +kernel, by decide +kernel⟩
set_option maxHeartbeats 4000000 in
set_option maxRecDepth 100000 in
theorem bk_X10_own_53 {D : va_G} {dA : Nat → ClassId} {base t0 : Nat} {l : Launch} {p : Program} {e : Env} {s : State} {m : MethodId} {args : Array Value} {below : List Frame} {meth : Method} {c : Code} (X : zz_X D dA base t0 "SpringseatModel" cX10_own 9 (some .int) l p s m meth c) (hT : l.stackTraces = false) {a0 : Nat} {x2 : Int32} {x5 : Int32} {x6 : Int32} {x7 : Int32} {h : zz_H} {n : Nat} {H : Heap} {locs : List Loc} {ls : Array Slot} (hR : zz_R D dA base h n s H locs) (hl : lv_has ls 9 [(0, .ref a0), (2, .int x2), (5, .int x5), (6, .int x6), (7, .int x7)]) {r0 : Int32} {o : ((Int32 × Int32) ⊕ Int32)} (hf : f_X10_own_53 a0 x2 x5 x6 x7 h = some o) (k0 : ∀ (w6 : Int32) (w7 : Int32), o = (.inl (w6, w7)) → ∀ {H : Heap} {locs : List Loc} {ls : Array Slot}, zz_R D dA base h n s H locs → lv_has ls 9 [(0, .ref a0), (2, .int x2), (5, .int x5), (6, .int w6), (7, .int w7)] → W p l e rm_X10_own s m args below meth c H locs 0 0 (MQ below (zz_Qc D dA base (some (.int r0)) h n) args s rm_X10_own.cells rm_X10_own.slots (fun q => base ≤ q)) (F0 m 53 ls [])) (hret : ∀ r, o = (.inr r) → r = r0) : W p l e rm_X10_own s m args below meth c H locs 0 0 (MQ below (zz_Qc D dA base (some (.int r0)) h n) args s rm_X10_own.cells rm_X10_own.slots (fun q => base ≤ q)) (F0 m 53 ls []) := by
  have hx := X.1
  have hb := X.2.1
  have hown := X.2.2.2.2.1
  unfold f_X10_own_53 at hf
  refine lv_iload hx hb dX10_own_53 (lv_at hl 4 rfl) ?_
  refine lv_aload_n hx hb dX10_own_55 rfl (lv_at hl 0 rfl) ?_
  refine zr_gq X hR (r := (some a0)) fl_X10_48 dX10_own_56 hf (fun v56 hf => ?_)
  refine lv_iload_n hx hb dX10_own_59 rfl (lv_at hl 1 rfl) ?_
  refine zr_iald X hR (r := v56) dX10_own_60 hf (fun v60 hf => ?_)
  refine lv_icmp_ge (tgt := 107) hx hb dX10_own_61 (by decide) (fun c61 => ?_) (fun c61 => ?_)
  · replace hf := zz_pos c61 hf
    refine lv_iload hx hb dX10_own_107 (lv_at hl 3 rfl) ?_
    cases hf
    cases hret _ rfl
    exact zr_iret X hR dX10_own_109 (Nat.le_of_ble_eq_true rfl) (Nat.le_of_ble_eq_true rfl)
  · replace hf := zz_neg c61 hf
    refine lv_aload_n hx hb dX10_own_64 rfl (lv_at hl 0 rfl) ?_
    refine lv_iload_n hx hb dX10_own_65 rfl (lv_at hl 1 rfl) ?_
    refine lv_iload hx hb dX10_own_66 (lv_at hl 4 rfl) ?_
    obtain ⟨fs68, ho68, hf⟩ := zz_obS_i hf
    obtain ⟨v68, hv68, hf⟩ := zz_b_i hf
    refine zr_cV X hR hl.1 (As := [.int x2, .int x7]) (rest := []) (C := RX10) (T := TX10) (N := 34) (mt_X10_thickNow hT a0 x2 x7 h n hv68) rfl ho68 mf_X10_thickNow q_1470 q_1472 qs_31 ⟨Nat.le_of_ble_eq_true rfl, Nat.le_of_ble_eq_true rfl⟩ ⟨Nat.le_of_ble_eq_true rfl, Nat.le_of_ble_eq_true rfl⟩ rfl (Nat.le_of_ble_eq_true rfl) dX10_own_68 (fun H locs hR => ?_)
    refine W.eq (g2 := F0 m 71 ls [.int v68]) rfl ?_
    refine lv_istore (i := 8) (lv' := [(8, .int v68), (0, .ref a0), (2, .int x2), (5, .int x5), (6, .int x6), (7, .int x7)]) hx hb dX10_own_71 hl (by decide) rfl (fun ls hl => ?_)
    refine lv_iload hx hb dX10_own_73 (lv_at hl 4 rfl) ?_
    refine lv_iload hx hb dX10_own_75 (lv_at hl 0 rfl) ?_
    refine lv_iload hx hb dX10_own_77 (lv_at hl 3 rfl) ?_
    refine lv_iload hx hb dX10_own_79 (lv_at hl 0 rfl) ?_
    refine lv_imul hx hb dX10_own_81 ?_
    refine lv_bipush (v := (20 : Int32)) hx hb dX10_own_82 (by decide) ?_
    refine lv_aload_n hx hb dX10_own_84 rfl (lv_at hl 1 rfl) ?_
    refine zr_gq X hR (r := (some a0)) fl_X10_57 dX10_own_85 hf (fun v85 hf => ?_)
    refine lv_iload_n hx hb dX10_own_88 rfl (lv_at hl 2 rfl) ?_
    refine zr_aald X hR (t := 6) (r := v85) (by decide) rfl dX10_own_89 hf (fun v89 hf => ?_)
    refine lv_iload hx hb dX10_own_90 (lv_at hl 5 rfl) ?_
    refine zr_iald X hR (r := v89) dX10_own_92 hf (fun v92 hf => ?_)
    refine lv_imul hx hb dX10_own_93 ?_
    obtain ⟨hne94, hf⟩ := zz_dv_i hf
    refine lv_idiv hx hb dX10_own_94 hne94 ?_
    refine zr_min X hl.1 q_1441 q_146 q_8 q_147 (Nat.le_of_ble_eq_true rfl) ⟨Nat.le_of_ble_eq_true rfl, Nat.le_of_ble_eq_true rfl⟩ ⟨Nat.le_of_ble_eq_true rfl, Nat.le_of_ble_eq_true rfl⟩ dX10_own_95 ?_
    refine W.eq (g2 := F0 m 98 ls [.int (zz_min v68 ((x5 * v68) / ((20 : Int32) * v92))), .int x6]) rfl ?_
    refine lv_iadd hx hb dX10_own_98 ?_
    refine lv_istore (i := 6) (lv' := [(6, .int (x6 + (zz_min v68 ((x5 * v68) / ((20 : Int32) * v92))))), (8, .int v68), (0, .ref a0), (2, .int x2), (5, .int x5), (7, .int x7)]) hx hb dX10_own_99 hl (by decide) rfl (fun ls hl => ?_)
    refine lv_iinc (i := 7) (v := (x7 + (1 : Int32))) (lv' := [(7, .int (x7 + (1 : Int32))), (6, .int (x6 + (zz_min v68 ((x5 * v68) / ((20 : Int32) * v92))))), (8, .int v68), (0, .ref a0), (2, .int x2), (5, .int x5)]) hx hb dX10_own_101 hl (k := 5) rfl rfl (by decide) rfl (fun ls hl => ?_)
    refine lv_goto (tgt := 53) hx hb dX10_own_104 (by decide) ?_
    cases hf
    exact k0 _ _ rfl hR (lv_sub hl [3, 4, 5, 1, 0] rfl)
set_option maxHeartbeats 4000000 in
set_option maxRecDepth 100000 in
theorem lp_X10_own_53 {D : va_G} {dA : Nat → ClassId} {base t0 : Nat} {l : Launch} {p : Program} {e : Env} {s : State} {m : MethodId} {args : Array Value} {below : List Frame} {meth : Method} {c : Code} (X : zz_X D dA base t0 "SpringseatModel" cX10_own 9 (some .int) l p s m meth c) (hT : l.stackTraces = false) (a0 : Nat) (x2 : Int32) (x5 : Int32) {h : zz_H} {n : Nat} {r0 : Int32} : ∀ (k : Nat) (x6 : Int32) (x7 : Int32), zz_it (fun s : (Int32 × Int32) => f_X10_own_53 a0 x2 x5 s.1 s.2 h) k (x6, x7) = some r0 → ∀ {H : Heap} {locs : List Loc} {ls : Array Slot}, zz_R D dA base h n s H locs → lv_has ls 9 [(0, .ref a0), (2, .int x2), (5, .int x5), (6, .int x6), (7, .int x7)] → W p l e rm_X10_own s m args below meth c H locs 0 0 (MQ below (zz_Qc D dA base (some (.int r0)) h n) args s rm_X10_own.cells rm_X10_own.slots (fun q => base ≤ q)) (F0 m 53 ls []) := by
  intro k
  induction k with
  | zero => intro x6 x7 hf; cases hf
  | succ k ih =>
    intro x6 x7 hf H locs ls hR hl
    rcases zz_it_s hf with ⟨⟨y0, y1⟩, h1, h2⟩ | h1
    · exact bk_X10_own_53 (r0 := r0) X hT hR hl h1  (fun z0 z1 e => by cases e; exact ih _ _ h2) (fun r e => by cases e)
    · exact bk_X10_own_53 (r0 := r0) X hT hR hl h1  (fun z0 z1 e => by cases e) (fun r e => (Sum.inr.inj e).symm)
set_option maxHeartbeats 4000000 in
set_option maxRecDepth 100000 in
theorem mt_X10_own {D : va_G} {dA : Nat → ClassId} {base t0 : Nat} {l : Launch} (hT : l.stackTraces = false) (a0 : Nat) (x1 : Int32) (x2 : Int32) (x3 : Int32) (x4 : Int32) (h : zz_H) (n : Nat) {r0 : Int32} (hf : f_X10_own a0 x1 x2 x3 x4 h = some r0) : zz_M D dA base t0 l yX10_own cX10_own 9 (some .int) rm_X10_own [.ref a0, .int x1, .int x2, .int x3, .int x4] h n (some (.int r0)) h n := by
  refine Met.ofW (cc := cX10_own) (maxL := 9) (ret := (some .int)) (by decide +kernel) rfl ?_
  intro p e s m args below meth c s₁ B hml hv
  obtain ⟨rfl, hP, hK⟩ := hv
  have X : zz_X D dA base t0 "SpringseatModel" cX10_own 9 (some .int) l p s m meth c := ⟨B.exec, B.bytes, hml, B.returns, findClass_of_methodNamed B.named, B.notSynchronized, hT, by rw [hP.1]; exact hP.2.1, hK⟩
  have hx := X.1
  have hb := X.2.1
  have hown := X.2.2.2.2.1
  have hR : zz_R D dA base h n s s.heap [] := ⟨hP, va_S.rf⟩
  have hl := lv_entry ([.ref a0, .int x1, .int x2, .int x3, .int x4]) (n := 9) (by exact Nat.le_of_ble_eq_true rfl)
  rw [lg_entry_eq]
  generalize (lg_sl ([.ref a0, .int x1, .int x2, .int x3, .int x4]) ++ List.replicate (9 - (lg_sl ([.ref a0, .int x1, .int x2, .int x3, .int x4])).length) Slot.unset).toArray = ls at hl ⊢
  have hl : lv_has ls 9 [(0, .ref a0), (1, .int x1), (2, .int x2), (3, .int x3), (4, .int x4)] := hl
  unfold f_X10_own at hf
  refine lv_aload_n hx hb dX10_own_0 rfl (lv_at hl 0 rfl) ?_
  refine zr_gq X hR (r := (some a0)) fl_X10_86 dX10_own_1 hf (fun v1 hf => ?_)
  refine lv_iload_n hx hb dX10_own_4 rfl (lv_at hl 1 rfl) ?_
  refine zr_aald X hR (t := 7) (r := v1) (by decide) rfl dX10_own_5 hf (fun v5 hf => ?_)
  refine lv_iload_n hx hb dX10_own_6 rfl (lv_at hl 3 rfl) ?_
  refine zr_aald X hR (t := 6) (r := v5) (by decide) rfl dX10_own_7 hf (fun v7 hf => ?_)
  refine lv_iload hx hb dX10_own_8 (lv_at hl 4 rfl) ?_
  refine zr_iald X hR (r := v7) dX10_own_10 hf (fun v10 hf => ?_)
  refine lv_istore (i := 5) (lv' := [(5, .int v10), (0, .ref a0), (1, .int x1), (2, .int x2), (3, .int x3), (4, .int x4)]) hx hb dX10_own_11 hl (by decide) rfl (fun ls hl => ?_)
  refine lv_aload_n hx hb dX10_own_13 rfl (lv_at hl 1 rfl) ?_
  refine lv_iload_n hx hb dX10_own_14 rfl (lv_at hl 3 rfl) ?_
  refine lv_iload_n hx hb dX10_own_15 rfl (lv_at hl 4 rfl) ?_
  refine lv_iload hx hb dX10_own_16 (lv_at hl 5 rfl) ?_
  obtain ⟨fs18, ho18, hf⟩ := zz_obS_i hf
  obtain ⟨v18, hv18, hf⟩ := zz_b_i hf
  refine zr_cV X hR hl.1 (As := [.int x2, .int x3, .int x4]) (rest := []) (C := RX10) (T := TX10) (N := 34) (mt_X10_standsAt hT a0 x2 x3 x4 h n hv18) rfl ho18 mf_X10_standsAt q_1433 q_1435 qs_27 ⟨Nat.le_of_ble_eq_true rfl, Nat.le_of_ble_eq_true rfl⟩ ⟨Nat.le_of_ble_eq_true rfl, Nat.le_of_ble_eq_true rfl⟩ rfl (Nat.le_of_ble_eq_true rfl) dX10_own_18 (fun H locs hR => ?_)
  refine W.eq (g2 := F0 m 21 ls [.int v18]) rfl ?_
  refine lv_bipush (v := (10 : Int32)) hx hb dX10_own_21 (by decide) ?_
  refine lv_iload hx hb dX10_own_23 (lv_at hl 0 rfl) ?_
  refine lv_imul hx hb dX10_own_25 ?_
  refine lv_aload_n hx hb dX10_own_26 rfl (lv_at hl 1 rfl) ?_
  refine zr_gq X hR (r := (some a0)) fl_X10_37 dX10_own_27 hf (fun v27 hf => ?_)
  refine lv_iload_n hx hb dX10_own_30 rfl (lv_at hl 3 rfl) ?_
  refine zr_aald X hR (t := 7) (r := v27) (by decide) rfl dX10_own_31 hf (fun v31 hf => ?_)
  refine lv_iload_n hx hb dX10_own_32 rfl (lv_at hl 4 rfl) ?_
  refine zr_aald X hR (t := 6) (r := v31) (by decide) rfl dX10_own_33 hf (fun v33 hf => ?_)
  refine lv_iload hx hb dX10_own_34 (lv_at hl 5 rfl) ?_
  refine zr_iald X hR (r := v33) dX10_own_36 hf (fun v36 hf => ?_)
  refine lv_aload_n hx hb dX10_own_37 rfl (lv_at hl 1 rfl) ?_
  refine zr_gq X hR (r := (some a0)) fl_X10_29 dX10_own_38 hf (fun v38 hf => ?_)
  refine lv_iload_n hx hb dX10_own_41 rfl (lv_at hl 3 rfl) ?_
  refine zr_iald X hR (r := v38) dX10_own_42 hf (fun v42 hf => ?_)
  refine lv_iadd hx hb dX10_own_43 ?_
  obtain ⟨hne44, hf⟩ := zz_dv_i hf
  refine lv_idiv hx hb dX10_own_44 hne44 ?_
  refine zr_min X hl.1 q_1441 q_146 q_8 q_147 (Nat.le_of_ble_eq_true rfl) ⟨Nat.le_of_ble_eq_true rfl, Nat.le_of_ble_eq_true rfl⟩ ⟨Nat.le_of_ble_eq_true rfl, Nat.le_of_ble_eq_true rfl⟩ dX10_own_45 ?_
  refine W.eq (g2 := F0 m 48 ls [.int (zz_min v18 (((10 : Int32) * v10) / (v36 + v42)))]) rfl ?_
  refine lv_istore (i := 6) (lv' := [(6, .int (zz_min v18 (((10 : Int32) * v10) / (v36 + v42)))), (5, .int v10), (0, .ref a0), (1, .int x1), (2, .int x2), (3, .int x3), (4, .int x4)]) hx hb dX10_own_48 hl (by decide) rfl (fun ls hl => ?_)
  refine lv_iconst (v := (0 : Int32)) hx hb dX10_own_50 (by decide) ?_
  refine lv_istore (i := 7) (lv' := [(7, .int (0 : Int32)), (6, .int (zz_min v18 (((10 : Int32) * v10) / (v36 + v42)))), (5, .int v10), (0, .ref a0), (1, .int x1), (2, .int x2), (3, .int x3), (4, .int x4)]) hx hb dX10_own_51 hl (by decide) rfl (fun ls hl => ?_)
  exact lp_X10_own_53 X hT a0 x2 v10 zz_F _ _ hf hR (lv_sub hl [3, 5, 2, 1, 0] rfl)
def rm_X10_sinking : Room := { frames := 3, cells := 0, slots := 0, locals := 72 }
theorem mf_X10_sinking : zz_Mf yX10_sinking cX10_sinking 8 (some .int) 4 := ⟨q_1562, q_11, by decide +kernel, by decide +kernel, by decide +kernel⟩
set_option maxHeartbeats 4000000 in
set_option maxRecDepth 100000 in
theorem bk_X10_sinking_20 {D : va_G} {dA : Nat → ClassId} {base t0 : Nat} {l : Launch} {p : Program} {e : Env} {s : State} {m : MethodId} {args : Array Value} {below : List Frame} {meth : Method} {c : Code} (X : zz_X D dA base t0 "SpringseatModel" cX10_sinking 8 (some .int) l p s m meth c) (hT : l.stackTraces = false) {a0 : Nat} {x1 : Int32} {x2 : Int32} {x3 : Int32} {x4 : Int32} {x5 : Int32} {x6 : Int32} {x7 : Int32} {h : zz_H} {n : Nat} {H : Heap} {locs : List Loc} {ls : Array Slot} (hR : zz_R D dA base h n s H locs) (hl : lv_has ls 8 [(0, .ref a0), (1, .int x1), (2, .int x2), (3, .int x3), (4, .int x4), (5, .int x5), (6, .int x6), (7, .int x7)]) {r0 : Int32} {o : ((Int32 × Int32) ⊕ ((Int32 × Int32) ⊕ Int32))} (hf : f_X10_sinking_20 a0 x1 x2 x3 x4 x5 x6 x7 h = some o) (k0 : ∀ (w5 : Int32) (w6 : Int32), o = (.inr (.inl (w5, w6))) → ∀ {H : Heap} {locs : List Loc} {ls : Array Slot}, zz_R D dA base h n s H locs → lv_has ls 8 [(0, .ref a0), (1, .int x1), (2, .int x2), (3, .int x3), (4, .int x4), (5, .int w5), (6, .int w6)] → W p l e rm_X10_sinking s m args below meth c H locs 0 0 (MQ below (zz_Qc D dA base (some (.int r0)) h n) args s rm_X10_sinking.cells rm_X10_sinking.slots (fun q => base ≤ q)) (F0 m 6 ls [])) (k1 : ∀ (w5 : Int32) (w7 : Int32), o = (.inl (w5, w7)) → ∀ {H : Heap} {locs : List Loc} {ls : Array Slot}, zz_R D dA base h n s H locs → lv_has ls 8 [(0, .ref a0), (1, .int x1), (2, .int x2), (3, .int x3), (4, .int x4), (5, .int w5), (6, .int x6), (7, .int w7)] → W p l e rm_X10_sinking s m args below meth c H locs 0 0 (MQ below (zz_Qc D dA base (some (.int r0)) h n) args s rm_X10_sinking.cells rm_X10_sinking.slots (fun q => base ≤ q)) (F0 m 20 ls [])) (hret : ∀ r, o = (.inr (.inr r)) → r = r0) : W p l e rm_X10_sinking s m args below meth c H locs 0 0 (MQ below (zz_Qc D dA base (some (.int r0)) h n) args s rm_X10_sinking.cells rm_X10_sinking.slots (fun q => base ≤ q)) (F0 m 20 ls []) := by
  have hx := X.1
  have hb := X.2.1
  have hown := X.2.2.2.2.1
  unfold f_X10_sinking_20 at hf
  refine lv_iload hx hb dX10_sinking_20 (lv_at hl 7 rfl) ?_
  refine lv_aload_n hx hb dX10_sinking_22 rfl (lv_at hl 0 rfl) ?_
  refine zr_gq X hR (r := (some a0)) fl_X10_13 dX10_sinking_23 hf (fun v23 hf => ?_)
  refine lv_iload_n hx hb dX10_sinking_26 rfl (lv_at hl 2 rfl) ?_
  refine zr_iald X hR (r := v23) dX10_sinking_27 hf (fun v27 hf => ?_)
  refine lv_icmp_ge (tgt := 74) hx hb dX10_sinking_28 (by decide) (fun c28 => ?_) (fun c28 => ?_)
  · replace hf := zz_pos c28 hf
    refine lv_iinc (i := 6) (v := (x6 + (1 : Int32))) (lv' := [(6, .int (x6 + (1 : Int32))), (0, .ref a0), (1, .int x1), (2, .int x2), (3, .int x3), (4, .int x4), (5, .int x5), (7, .int x7)]) hx hb dX10_sinking_74 hl (k := 6) rfl rfl (by decide) rfl (fun ls hl => ?_)
    refine lv_goto (tgt := 6) hx hb dX10_sinking_77 (by decide) ?_
    cases hf
    exact k0 _ _ rfl hR (lv_sub hl [1, 2, 3, 4, 5, 6, 0] rfl)
  · replace hf := zz_neg c28 hf
    refine lv_iload hx hb dX10_sinking_31 (lv_at hl 5 rfl) ?_
    refine lv_aload_n hx hb dX10_sinking_33 rfl (lv_at hl 0 rfl) ?_
    refine lv_iload_n hx hb dX10_sinking_34 rfl (lv_at hl 1 rfl) ?_
    refine lv_iload_n hx hb dX10_sinking_35 rfl (lv_at hl 2 rfl) ?_
    refine lv_iload hx hb dX10_sinking_36 (lv_at hl 6 rfl) ?_
    refine lv_iload hx hb dX10_sinking_38 (lv_at hl 7 rfl) ?_
    obtain ⟨fs40, ho40, hf⟩ := zz_obS_i hf
    obtain ⟨v40, hv40, hf⟩ := zz_b_i hf
    refine zr_cV X hR hl.1 (As := [.int x1, .int x2, .int x6, .int x7]) (rest := [.int x5]) (C := RX10) (T := TX10) (N := 34) (mt_X10_own hT a0 x1 x2 x6 x7 h n hv40) rfl ho40 mf_X10_own q_1563 q_1565 qs_39 ⟨Nat.le_of_ble_eq_true rfl, Nat.le_of_ble_eq_true rfl⟩ ⟨Nat.le_of_ble_eq_true rfl, Nat.le_of_ble_eq_true rfl⟩ rfl (Nat.le_of_ble_eq_true rfl) dX10_sinking_40 (fun H locs hR => ?_)
    refine W.eq (g2 := F0 m 43 ls [.int v40, .int x5]) rfl ?_
    refine lv_bipush (v := (8 : Int32)) hx hb dX10_sinking_43 (by decide) ?_
    refine lv_iload hx hb dX10_sinking_45 (lv_at hl 6 rfl) ?_
    refine lv_iload_n hx hb dX10_sinking_47 rfl (lv_at hl 3 rfl) ?_
    refine lv_isub hx hb dX10_sinking_48 ?_
    refine zr_abs X hl.1 q_1442 q_333 q_8 q_334 (Nat.le_of_ble_eq_true rfl) ⟨Nat.le_of_ble_eq_true rfl, Nat.le_of_ble_eq_true rfl⟩ ⟨Nat.le_of_ble_eq_true rfl, Nat.le_of_ble_eq_true rfl⟩ dX10_sinking_49 ?_
    refine W.eq (g2 := F0 m 52 ls [.int (zz_abs (x6 - x3)), .int (8 : Int32), .int v40, .int x5]) rfl ?_
    refine lv_iload hx hb dX10_sinking_52 (lv_at hl 7 rfl) ?_
    refine lv_iload hx hb dX10_sinking_54 (lv_at hl 4 rfl) ?_
    refine lv_isub hx hb dX10_sinking_56 ?_
    refine zr_abs X hl.1 q_1442 q_333 q_8 q_334 (Nat.le_of_ble_eq_true rfl) ⟨Nat.le_of_ble_eq_true rfl, Nat.le_of_ble_eq_true rfl⟩ ⟨Nat.le_of_ble_eq_true rfl, Nat.le_of_ble_eq_true rfl⟩ dX10_sinking_57 ?_
    refine W.eq (g2 := F0 m 60 ls [.int (zz_abs (x7 - x4)), .int (zz_abs (x6 - x3)), .int (8 : Int32), .int v40, .int x5]) rfl ?_
    refine lv_iadd hx hb dX10_sinking_60 ?_
    refine lv_imul hx hb dX10_sinking_61 ?_
    refine lv_isub hx hb dX10_sinking_62 ?_
    refine zr_max X hl.1 q_1478 q_109 q_8 q_110 (Nat.le_of_ble_eq_true rfl) ⟨Nat.le_of_ble_eq_true rfl, Nat.le_of_ble_eq_true rfl⟩ ⟨Nat.le_of_ble_eq_true rfl, Nat.le_of_ble_eq_true rfl⟩ dX10_sinking_63 ?_
    refine W.eq (g2 := F0 m 66 ls [.int (zz_max x5 (v40 - ((8 : Int32) * ((zz_abs (x6 - x3)) + (zz_abs (x7 - x4))))))]) rfl ?_
    refine lv_istore (i := 5) (lv' := [(5, .int (zz_max x5 (v40 - ((8 : Int32) * ((zz_abs (x6 - x3)) + (zz_abs (x7 - x4))))))), (0, .ref a0), (1, .int x1), (2, .int x2), (3, .int x3), (4, .int x4), (6, .int x6), (7, .int x7)]) hx hb dX10_sinking_66 hl (by decide) rfl (fun ls hl => ?_)
    refine lv_iinc (i := 7) (v := (x7 + (1 : Int32))) (lv' := [(7, .int (x7 + (1 : Int32))), (5, .int (zz_max x5 (v40 - ((8 : Int32) * ((zz_abs (x6 - x3)) + (zz_abs (x7 - x4))))))), (0, .ref a0), (1, .int x1), (2, .int x2), (3, .int x3), (4, .int x4), (6, .int x6)]) hx hb dX10_sinking_68 hl (k := 7) rfl rfl (by decide) rfl (fun ls hl => ?_)
    refine lv_goto (tgt := 20) hx hb dX10_sinking_71 (by decide) ?_
    cases hf
    exact k1 _ _ rfl hR (lv_sub hl [2, 3, 4, 5, 6, 1, 7, 0] rfl)
set_option maxHeartbeats 4000000 in
set_option maxRecDepth 100000 in
theorem lp_X10_sinking_20 {D : va_G} {dA : Nat → ClassId} {base t0 : Nat} {l : Launch} {p : Program} {e : Env} {s : State} {m : MethodId} {args : Array Value} {below : List Frame} {meth : Method} {c : Code} (X : zz_X D dA base t0 "SpringseatModel" cX10_sinking 8 (some .int) l p s m meth c) (hT : l.stackTraces = false) (a0 : Nat) (x1 : Int32) (x2 : Int32) (x3 : Int32) (x4 : Int32) (x6 : Int32) {h : zz_H} {n : Nat} {r0 : Int32} : ∀ (k : Nat) (x5 : Int32) (x7 : Int32) {o : ((Int32 × Int32) ⊕ Int32)}, zz_it (fun s : (Int32 × Int32) => f_X10_sinking_20 a0 x1 x2 x3 x4 s.1 x6 s.2 h) k (x5, x7) = some o → (∀ (w5 : Int32) (w6 : Int32), o = (.inl (w5, w6)) → ∀ {H : Heap} {locs : List Loc} {ls : Array Slot}, zz_R D dA base h n s H locs → lv_has ls 8 [(0, .ref a0), (1, .int x1), (2, .int x2), (3, .int x3), (4, .int x4), (5, .int w5), (6, .int w6)] → W p l e rm_X10_sinking s m args below meth c H locs 0 0 (MQ below (zz_Qc D dA base (some (.int r0)) h n) args s rm_X10_sinking.cells rm_X10_sinking.slots (fun q => base ≤ q)) (F0 m 6 ls [])) → (∀ r, o = (.inr r) → r = r0) → ∀ {H : Heap} {locs : List Loc} {ls : Array Slot}, zz_R D dA base h n s H locs → lv_has ls 8 [(0, .ref a0), (1, .int x1), (2, .int x2), (3, .int x3), (4, .int x4), (5, .int x5), (6, .int x6), (7, .int x7)] → W p l e rm_X10_sinking s m args below meth c H locs 0 0 (MQ below (zz_Qc D dA base (some (.int r0)) h n) args s rm_X10_sinking.cells rm_X10_sinking.slots (fun q => base ≤ q)) (F0 m 20 ls []) := by
  intro k
  induction k with
  | zero => intro x5 x7 o hf _ _; cases hf
  | succ k ih =>
    intro x5 x7 o hf k0 hret H locs ls hR hl
    rcases zz_it_s hf with ⟨⟨y0, y1⟩, h1, h2⟩ | h1
    · exact bk_X10_sinking_20 (r0 := r0) X hT hR hl h1 (fun z0 z1 e => by cases e) (fun z0 z1 e => by cases e; exact ih _ _ h2 k0 hret) (fun r e => by cases e)
    · exact bk_X10_sinking_20 (r0 := r0) X hT hR hl h1 (fun z0 z1 e => k0 z0 z1 (Sum.inr.inj e)) (fun z0 z1 e => by cases e) (fun r e => hret r (Sum.inr.inj e))
set_option maxHeartbeats 4000000 in
set_option maxRecDepth 100000 in
theorem bk_X10_sinking_6 {D : va_G} {dA : Nat → ClassId} {base t0 : Nat} {l : Launch} {p : Program} {e : Env} {s : State} {m : MethodId} {args : Array Value} {below : List Frame} {meth : Method} {c : Code} (X : zz_X D dA base t0 "SpringseatModel" cX10_sinking 8 (some .int) l p s m meth c) (hT : l.stackTraces = false) {a0 : Nat} {x1 : Int32} {x2 : Int32} {x3 : Int32} {x4 : Int32} {x5 : Int32} {x6 : Int32} {h : zz_H} {n : Nat} {H : Heap} {locs : List Loc} {ls : Array Slot} (hR : zz_R D dA base h n s H locs) (hl : lv_has ls 8 [(0, .ref a0), (1, .int x1), (2, .int x2), (3, .int x3), (4, .int x4), (5, .int x5), (6, .int x6)]) {r0 : Int32} {o : ((Int32 × Int32) ⊕ Int32)} (hf : f_X10_sinking_6 a0 x1 x2 x3 x4 x5 x6 h = some o) (k0 : ∀ (w5 : Int32) (w6 : Int32), o = (.inl (w5, w6)) → ∀ {H : Heap} {locs : List Loc} {ls : Array Slot}, zz_R D dA base h n s H locs → lv_has ls 8 [(0, .ref a0), (1, .int x1), (2, .int x2), (3, .int x3), (4, .int x4), (5, .int w5), (6, .int w6)] → W p l e rm_X10_sinking s m args below meth c H locs 0 0 (MQ below (zz_Qc D dA base (some (.int r0)) h n) args s rm_X10_sinking.cells rm_X10_sinking.slots (fun q => base ≤ q)) (F0 m 6 ls [])) (hret : ∀ r, o = (.inr r) → r = r0) : W p l e rm_X10_sinking s m args below meth c H locs 0 0 (MQ below (zz_Qc D dA base (some (.int r0)) h n) args s rm_X10_sinking.cells rm_X10_sinking.slots (fun q => base ≤ q)) (F0 m 6 ls []) := by
  have hx := X.1
  have hb := X.2.1
  have hown := X.2.2.2.2.1
  unfold f_X10_sinking_6 at hf
  refine lv_iload hx hb dX10_sinking_6 (lv_at hl 6 rfl) ?_
  refine lv_aload_n hx hb dX10_sinking_8 rfl (lv_at hl 0 rfl) ?_
  refine zr_gq X hR (r := (some a0)) fl_X10_9 dX10_sinking_9 hf (fun v9 hf => ?_)
  refine lv_iload_n hx hb dX10_sinking_12 rfl (lv_at hl 2 rfl) ?_
  refine zr_iald X hR (r := v9) dX10_sinking_13 hf (fun v13 hf => ?_)
  refine lv_icmp_ge (tgt := 80) hx hb dX10_sinking_14 (by decide) (fun c14 => ?_) (fun c14 => ?_)
  · replace hf := zz_pos c14 hf
    refine lv_iload hx hb dX10_sinking_80 (lv_at hl 5 rfl) ?_
    cases hf
    cases hret _ rfl
    exact zr_iret X hR dX10_sinking_82 (Nat.le_of_ble_eq_true rfl) (Nat.le_of_ble_eq_true rfl)
  · replace hf := zz_neg c14 hf
    refine lv_iconst (v := (0 : Int32)) hx hb dX10_sinking_17 (by decide) ?_
    refine lv_istore (i := 7) (lv' := [(7, .int (0 : Int32)), (0, .ref a0), (1, .int x1), (2, .int x2), (3, .int x3), (4, .int x4), (5, .int x5), (6, .int x6)]) hx hb dX10_sinking_18 hl (by decide) rfl (fun ls hl => ?_)
    exact lp_X10_sinking_20 X hT a0 x1 x2 x3 x4 x6 zz_F _ _ hf k0 hret hR (lv_sub hl [1, 2, 3, 4, 5, 6, 7, 0] rfl)
set_option maxHeartbeats 4000000 in
set_option maxRecDepth 100000 in
theorem lp_X10_sinking_6 {D : va_G} {dA : Nat → ClassId} {base t0 : Nat} {l : Launch} {p : Program} {e : Env} {s : State} {m : MethodId} {args : Array Value} {below : List Frame} {meth : Method} {c : Code} (X : zz_X D dA base t0 "SpringseatModel" cX10_sinking 8 (some .int) l p s m meth c) (hT : l.stackTraces = false) (a0 : Nat) (x1 : Int32) (x2 : Int32) (x3 : Int32) (x4 : Int32) {h : zz_H} {n : Nat} {r0 : Int32} : ∀ (k : Nat) (x5 : Int32) (x6 : Int32), zz_it (fun s : (Int32 × Int32) => f_X10_sinking_6 a0 x1 x2 x3 x4 s.1 s.2 h) k (x5, x6) = some r0 → ∀ {H : Heap} {locs : List Loc} {ls : Array Slot}, zz_R D dA base h n s H locs → lv_has ls 8 [(0, .ref a0), (1, .int x1), (2, .int x2), (3, .int x3), (4, .int x4), (5, .int x5), (6, .int x6)] → W p l e rm_X10_sinking s m args below meth c H locs 0 0 (MQ below (zz_Qc D dA base (some (.int r0)) h n) args s rm_X10_sinking.cells rm_X10_sinking.slots (fun q => base ≤ q)) (F0 m 6 ls []) := by
  intro k
  induction k with
  | zero => intro x5 x6 hf; cases hf
  | succ k ih =>
    intro x5 x6 hf H locs ls hR hl
    rcases zz_it_s hf with ⟨⟨y0, y1⟩, h1, h2⟩ | h1
    · exact bk_X10_sinking_6 (r0 := r0) X hT hR hl h1  (fun z0 z1 e => by cases e; exact ih _ _ h2) (fun r e => by cases e)
    · exact bk_X10_sinking_6 (r0 := r0) X hT hR hl h1  (fun z0 z1 e => by cases e) (fun r e => (Sum.inr.inj e).symm)
set_option maxHeartbeats 4000000 in
set_option maxRecDepth 100000 in
theorem mt_X10_sinking {D : va_G} {dA : Nat → ClassId} {base t0 : Nat} {l : Launch} (hT : l.stackTraces = false) (a0 : Nat) (x1 : Int32) (x2 : Int32) (x3 : Int32) (x4 : Int32) (h : zz_H) (n : Nat) {r0 : Int32} (hf : f_X10_sinking a0 x1 x2 x3 x4 h = some r0) : zz_M D dA base t0 l yX10_sinking cX10_sinking 8 (some .int) rm_X10_sinking [.ref a0, .int x1, .int x2, .int x3, .int x4] h n (some (.int r0)) h n := by
  refine Met.ofW (cc := cX10_sinking) (maxL := 8) (ret := (some .int)) (by decide +kernel) rfl ?_
  intro p e s m args below meth c s₁ B hml hv
  obtain ⟨rfl, hP, hK⟩ := hv
  have X : zz_X D dA base t0 "SpringseatModel" cX10_sinking 8 (some .int) l p s m meth c := ⟨B.exec, B.bytes, hml, B.returns, findClass_of_methodNamed B.named, B.notSynchronized, hT, by rw [hP.1]; exact hP.2.1, hK⟩
  have hx := X.1
  have hb := X.2.1
  have hown := X.2.2.2.2.1
  have hR : zz_R D dA base h n s s.heap [] := ⟨hP, va_S.rf⟩
  have hl := lv_entry ([.ref a0, .int x1, .int x2, .int x3, .int x4]) (n := 8) (by exact Nat.le_of_ble_eq_true rfl)
  rw [lg_entry_eq]
  generalize (lg_sl ([.ref a0, .int x1, .int x2, .int x3, .int x4]) ++ List.replicate (8 - (lg_sl ([.ref a0, .int x1, .int x2, .int x3, .int x4])).length) Slot.unset).toArray = ls at hl ⊢
  have hl : lv_has ls 8 [(0, .ref a0), (1, .int x1), (2, .int x2), (3, .int x3), (4, .int x4)] := hl
  unfold f_X10_sinking at hf
  refine lv_iconst (v := (0 : Int32)) hx hb dX10_sinking_0 (by decide) ?_
  refine lv_istore (i := 5) (lv' := [(5, .int (0 : Int32)), (0, .ref a0), (1, .int x1), (2, .int x2), (3, .int x3), (4, .int x4)]) hx hb dX10_sinking_1 hl (by decide) rfl (fun ls hl => ?_)
  refine lv_iconst (v := (0 : Int32)) hx hb dX10_sinking_3 (by decide) ?_
  refine lv_istore (i := 6) (lv' := [(6, .int (0 : Int32)), (5, .int (0 : Int32)), (0, .ref a0), (1, .int x1), (2, .int x2), (3, .int x3), (4, .int x4)]) hx hb dX10_sinking_4 hl (by decide) rfl (fun ls hl => ?_)
  exact lp_X10_sinking_6 X hT a0 x1 x2 x3 x4 zz_F _ _ hf hR (lv_sub hl [2, 3, 4, 5, 6, 1, 0] rfl)
def rm_X10_pressing : Room := { frames := 4, cells := 0, slots := 0, locals := 99 }
theorem mf_X10_pressing : zz_Mf yX10_pressing cX10_pressing 5 (some .int) 4 := ⟨q_1574, q_11, by decide +kernel, by decide +kernel, by decide +kernel⟩
set_option maxHeartbeats 4000000 in
set_option maxRecDepth 100000 in
theorem mt_X10_pressing {D : va_G} {dA : Nat → ClassId} {base t0 : Nat} {l : Launch} (hT : l.stackTraces = false) (a0 : Nat) (x1 : Int32) (x2 : Int32) (x3 : Int32) (x4 : Int32) (h : zz_H) (n : Nat) {r0 : Int32} (hf : f_X10_pressing a0 x1 x2 x3 x4 h = some r0) : zz_M D dA base t0 l yX10_pressing cX10_pressing 5 (some .int) rm_X10_pressing [.ref a0, .int x1, .int x2, .int x3, .int x4] h n (some (.int r0)) h n := by
  refine Met.ofW (cc := cX10_pressing) (maxL := 5) (ret := (some .int)) (by decide +kernel) rfl ?_
  intro p e s m args below meth c s₁ B hml hv
  obtain ⟨rfl, hP, hK⟩ := hv
  have X : zz_X D dA base t0 "SpringseatModel" cX10_pressing 5 (some .int) l p s m meth c := ⟨B.exec, B.bytes, hml, B.returns, findClass_of_methodNamed B.named, B.notSynchronized, hT, by rw [hP.1]; exact hP.2.1, hK⟩
  have hx := X.1
  have hb := X.2.1
  have hown := X.2.2.2.2.1
  have hR : zz_R D dA base h n s s.heap [] := ⟨hP, va_S.rf⟩
  have hl := lv_entry ([.ref a0, .int x1, .int x2, .int x3, .int x4]) (n := 5) (by exact Nat.le_of_ble_eq_true rfl)
  rw [lg_entry_eq]
  generalize (lg_sl ([.ref a0, .int x1, .int x2, .int x3, .int x4]) ++ List.replicate (5 - (lg_sl ([.ref a0, .int x1, .int x2, .int x3, .int x4])).length) Slot.unset).toArray = ls at hl ⊢
  have hl : lv_has ls 5 [(0, .ref a0), (1, .int x1), (2, .int x2), (3, .int x3), (4, .int x4)] := hl
  unfold f_X10_pressing at hf
  refine lv_bipush (v := (100 : Int32)) hx hb dX10_pressing_0 (by decide) ?_
  refine lv_aload_n hx hb dX10_pressing_2 rfl (lv_at hl 0 rfl) ?_
  refine zr_gq X hR (r := (some a0)) fl_X10_86 dX10_pressing_3 hf (fun v3 hf => ?_)
  refine lv_iload_n hx hb dX10_pressing_6 rfl (lv_at hl 1 rfl) ?_
  refine zr_aald X hR (t := 7) (r := v3) (by decide) rfl dX10_pressing_7 hf (fun v7 hf => ?_)
  refine lv_iload_n hx hb dX10_pressing_8 rfl (lv_at hl 3 rfl) ?_
  refine zr_aald X hR (t := 6) (r := v7) (by decide) rfl dX10_pressing_9 hf (fun v9 hf => ?_)
  refine lv_iload hx hb dX10_pressing_10 (lv_at hl 4 rfl) ?_
  refine zr_iald X hR (r := v9) dX10_pressing_12 hf (fun v12 hf => ?_)
  refine lv_imul hx hb dX10_pressing_13 ?_
  refine lv_bipush (v := (10 : Int32)) hx hb dX10_pressing_14 (by decide) ?_
  refine lv_aload_n hx hb dX10_pressing_16 rfl (lv_at hl 0 rfl) ?_
  refine lv_iload_n hx hb dX10_pressing_17 rfl (lv_at hl 1 rfl) ?_
  refine lv_iload_n hx hb dX10_pressing_18 rfl (lv_at hl 2 rfl) ?_
  refine lv_iload_n hx hb dX10_pressing_19 rfl (lv_at hl 3 rfl) ?_
  refine lv_iload hx hb dX10_pressing_20 (lv_at hl 4 rfl) ?_
  obtain ⟨fs22, ho22, hf⟩ := zz_obS_i hf
  obtain ⟨v22, hv22, hf⟩ := zz_b_i hf
  refine zr_cV X hR hl.1 (As := [.int x1, .int x2, .int x3, .int x4]) (rest := [.int (10 : Int32), .int ((100 : Int32) * v12)]) (C := RX10) (T := TX10) (N := 34) (mt_X10_sinking hT a0 x1 x2 x3 x4 h n hv22) rfl ho22 mf_X10_sinking q_1559 q_1561 qs_38 ⟨Nat.le_of_ble_eq_true rfl, Nat.le_of_ble_eq_true rfl⟩ ⟨Nat.le_of_ble_eq_true rfl, Nat.le_of_ble_eq_true rfl⟩ rfl (Nat.le_of_ble_eq_true rfl) dX10_pressing_22 (fun H locs hR => ?_)
  refine W.eq (g2 := F0 m 25 ls [.int v22, .int (10 : Int32), .int ((100 : Int32) * v12)]) rfl ?_
  refine lv_iadd hx hb dX10_pressing_25 ?_
  obtain ⟨hne26, hf⟩ := zz_dv_i hf
  refine lv_idiv hx hb dX10_pressing_26 hne26 ?_
  cases hf
  exact zr_iret X hR dX10_pressing_27 (Nat.le_of_ble_eq_true rfl) (Nat.le_of_ble_eq_true rfl)
def rm_X10_sinks : Room := { frames := 4, cells := 0, slots := 0, locals := 99 }
theorem mf_X10_sinks : zz_Mf yX10_sinks cX10_sinks 4 (some .int) 3 := ⟨q_1558, q_11, by decide +kernel, by decide +kernel, by decide +kernel⟩
set_option maxHeartbeats 4000000 in
set_option maxRecDepth 100000 in
theorem bk_X10_sinks_69 {D : va_G} {dA : Nat → ClassId} {base t0 : Nat} {l : Launch} {p : Program} {e : Env} {s : State} {m : MethodId} {args : Array Value} {below : List Frame} {meth : Method} {c : Code} (X : zz_X D dA base t0 "SpringseatModel" cX10_sinks 4 (some .int) l p s m meth c) (hT : l.stackTraces = false) {s0 : Int32} {h : zz_H} {n : Nat} {H : Heap} {locs : List Loc} {ls : Array Slot} (hR : zz_R D dA base h n s H locs) (hl : lv_has ls 4 []) {r0 : Int32} {hF : zz_H} (hf : f_X10_sinks_69 s0 h = some (r0, hF)) : W p l e rm_X10_sinks s m args below meth c H locs 0 0 (MQ below (zz_Qc D dA base (some (.int r0)) hF n) args s rm_X10_sinks.cells rm_X10_sinks.slots (fun q => base ≤ q)) (F0 m 69 ls [.int s0]) := by
  have hx := X.1
  have hb := X.2.1
  have hown := X.2.2.2.2.1
  unfold f_X10_sinks_69 at hf
  cases hf
  exact zr_iret X hR dX10_sinks_69 (Nat.le_of_ble_eq_true rfl) (Nat.le_of_ble_eq_true rfl)
set_option maxHeartbeats 4000000 in
set_option maxRecDepth 100000 in
theorem bk_X10_sinks_51 {D : va_G} {dA : Nat → ClassId} {base t0 : Nat} {l : Launch} {p : Program} {e : Env} {s : State} {m : MethodId} {args : Array Value} {below : List Frame} {meth : Method} {c : Code} (X : zz_X D dA base t0 "SpringseatModel" cX10_sinks 4 (some .int) l p s m meth c) (hT : l.stackTraces = false) {h : zz_H} {n : Nat} {H : Heap} {locs : List Loc} {ls : Array Slot} (hR : zz_R D dA base h n s H locs) (hl : lv_has ls 4 []) {r0 : Int32} {hF : zz_H} (hf : f_X10_sinks_51 h = some (r0, hF)) : W p l e rm_X10_sinks s m args below meth c H locs 0 0 (MQ below (zz_Qc D dA base (some (.int r0)) hF n) args s rm_X10_sinks.cells rm_X10_sinks.slots (fun q => base ≤ q)) (F0 m 51 ls []) := by
  have hx := X.1
  have hb := X.2.1
  have hown := X.2.2.2.2.1
  unfold f_X10_sinks_51 at hf
  refine lv_iconst (v := (0 : Int32)) hx hb dX10_sinks_51 (by decide) ?_
  refine lv_goto (tgt := 69) hx hb dX10_sinks_52 (by decide) ?_
  exact bk_X10_sinks_69 X hT hR (lv_sub hl [] rfl) hf
set_option maxHeartbeats 4000000 in
set_option maxRecDepth 100000 in
theorem bk_X10_sinks_44 {D : va_G} {dA : Nat → ClassId} {base t0 : Nat} {l : Launch} {p : Program} {e : Env} {s : State} {m : MethodId} {args : Array Value} {below : List Frame} {meth : Method} {c : Code} (X : zz_X D dA base t0 "SpringseatModel" cX10_sinks 4 (some .int) l p s m meth c) (hT : l.stackTraces = false) {a0 : Nat} {x1 : Int32} {x2 : Int32} {x3 : Int32} {s0 : Int32} {s1 : (Option Nat)} {h : zz_H} {n : Nat} {H : Heap} {locs : List Loc} {ls : Array Slot} (hR : zz_R D dA base h n s H locs) (hl : lv_has ls 4 [(0, .ref a0), (1, .int x1), (2, .int x2), (3, .int x3)]) {r0 : Int32} {hF : zz_H} (hf : f_X10_sinks_44 a0 x1 x2 x3 s0 s1 h = some (r0, hF)) : W p l e rm_X10_sinks s m args below meth c H locs 0 0 (MQ below (zz_Qc D dA base (some (.int r0)) hF n) args s rm_X10_sinks.cells rm_X10_sinks.slots (fun q => base ≤ q)) (F0 m 44 ls [.int s0, va_rf s1]) := by
  have hx := X.1
  have hb := X.2.1
  have hown := X.2.2.2.2.1
  unfold f_X10_sinks_44 at hf
  refine lv_iconst (v := (2 : Int32)) hx hb dX10_sinks_44 (by decide) ?_
  obtain ⟨b45, fs45, hr45, ho45, hf⟩ := zz_ob_i hf
  obtain ⟨v45, h45, hv45, hf⟩ := zz_b1_i hf
  refine zr_cV X hR hl.1 (As := [.int s0, .int (2 : Int32)]) (rest := []) (C := RX10) (T := TX10) (N := 34) (mt_X10_isThrown hT b45 s0 (2 : Int32) h n hv45) rfl ho45 mf_X10_isThrown q_1370 q_1372 qs_17 ⟨Nat.le_of_ble_eq_true rfl, Nat.le_of_ble_eq_true rfl⟩ ⟨Nat.le_of_ble_eq_true rfl, Nat.le_of_ble_eq_true rfl⟩ (by rw [hr45]; rfl) (Nat.le_of_ble_eq_true rfl) dX10_sinks_45 (fun H locs hR => ?_)
  refine W.eq (g2 := F0 m 48 ls [.int v45]) rfl ?_
  refine lv_if_eq (tgt := 55) hx hb dX10_sinks_48 (by decide) (fun c48 => ?_) (fun c48 => ?_)
  · replace hf := zz_pos c48 hf
    refine lv_aload_n hx hb dX10_sinks_55 rfl (lv_at hl 0 rfl) ?_
    refine lv_iload_n hx hb dX10_sinks_56 rfl (lv_at hl 1 rfl) ?_
    refine lv_iload_n hx hb dX10_sinks_57 rfl (lv_at hl 2 rfl) ?_
    refine lv_iload_n hx hb dX10_sinks_58 rfl (lv_at hl 3 rfl) ?_
    refine lv_bipush (v := (10 : Int32)) hx hb dX10_sinks_59 (by decide) ?_
    obtain ⟨hne61, hf⟩ := zz_dv_i hf
    refine lv_idiv hx hb dX10_sinks_61 hne61 ?_
    refine lv_iload_n hx hb dX10_sinks_62 rfl (lv_at hl 3 rfl) ?_
    refine lv_bipush (v := (10 : Int32)) hx hb dX10_sinks_63 (by decide) ?_
    obtain ⟨hne65, hf⟩ := zz_dv_i hf
    refine lv_irem hx hb dX10_sinks_65 hne65 ?_
    obtain ⟨fs66, ho66, hf⟩ := zz_obS_i hf
    obtain ⟨v66, hv66, hf⟩ := zz_b_i hf
    refine zr_cV X hR hl.1 (As := [.int x1, .int x2, .int (x3 / (10 : Int32)), .int (zz_rem x3 (10 : Int32))]) (rest := []) (C := RX10) (T := TX10) (N := 34) (mt_X10_sinking hT a0 x1 x2 (x3 / (10 : Int32)) (zz_rem x3 (10 : Int32)) h45 n hv66) rfl ho66 mf_X10_sinking q_1559 q_1561 qs_38 ⟨Nat.le_of_ble_eq_true rfl, Nat.le_of_ble_eq_true rfl⟩ ⟨Nat.le_of_ble_eq_true rfl, Nat.le_of_ble_eq_true rfl⟩ rfl (Nat.le_of_ble_eq_true rfl) dX10_sinks_66 (fun H locs hR => ?_)
    refine W.eq (g2 := F0 m 69 ls [.int v66]) rfl ?_
    exact bk_X10_sinks_69 X hT hR (lv_sub hl [] rfl) hf
  · replace hf := zz_neg c48 hf
    exact bk_X10_sinks_51 X hT hR (lv_sub hl [] rfl) hf
set_option maxHeartbeats 4000000 in
set_option maxRecDepth 100000 in
theorem bk_X10_sinks_23 {D : va_G} {dA : Nat → ClassId} {base t0 : Nat} {l : Launch} {p : Program} {e : Env} {s : State} {m : MethodId} {args : Array Value} {below : List Frame} {meth : Method} {c : Code} (X : zz_X D dA base t0 "SpringseatModel" cX10_sinks 4 (some .int) l p s m meth c) (hT : l.stackTraces = false) {a0 : Nat} {x1 : Int32} {x2 : Int32} {x3 : Int32} {s0 : Int32} {s1 : (Option Nat)} {h : zz_H} {n : Nat} {H : Heap} {locs : List Loc} {ls : Array Slot} (hR : zz_R D dA base h n s H locs) (hl : lv_has ls 4 [(0, .ref a0), (1, .int x1), (2, .int x2), (3, .int x3)]) {r0 : Int32} {hF : zz_H} (hf : f_X10_sinks_23 a0 x1 x2 x3 s0 s1 h = some (r0, hF)) : W p l e rm_X10_sinks s m args below meth c H locs 0 0 (MQ below (zz_Qc D dA base (some (.int r0)) hF n) args s rm_X10_sinks.cells rm_X10_sinks.slots (fun q => base ≤ q)) (F0 m 23 ls [.int s0, va_rf s1]) := by
  have hx := X.1
  have hb := X.2.1
  have hown := X.2.2.2.2.1
  unfold f_X10_sinks_23 at hf
  refine lv_iconst (v := (1 : Int32)) hx hb dX10_sinks_23 (by decide) ?_
  obtain ⟨b24, fs24, hr24, ho24, hf⟩ := zz_ob_i hf
  obtain ⟨v24, h24, hv24, hf⟩ := zz_b1_i hf
  refine zr_cV X hR hl.1 (As := [.int s0, .int (1 : Int32)]) (rest := []) (C := RX10) (T := TX10) (N := 34) (mt_X10_isThrown hT b24 s0 (1 : Int32) h n hv24) rfl ho24 mf_X10_isThrown q_1370 q_1372 qs_17 ⟨Nat.le_of_ble_eq_true rfl, Nat.le_of_ble_eq_true rfl⟩ ⟨Nat.le_of_ble_eq_true rfl, Nat.le_of_ble_eq_true rfl⟩ (by rw [hr24]; rfl) (Nat.le_of_ble_eq_true rfl) dX10_sinks_24 (fun H locs hR => ?_)
  refine W.eq (g2 := F0 m 27 ls [.int v24]) rfl ?_
  refine lv_if_ne (tgt := 51) hx hb dX10_sinks_27 (by decide) (fun c27 => ?_) (fun c27 => ?_)
  · replace hf := zz_neg c27 hf
    exact bk_X10_sinks_51 X hT hR (lv_sub hl [] rfl) hf
  · replace hf := zz_pos c27 hf
    refine lv_aload_n hx hb dX10_sinks_30 rfl (lv_at hl 0 rfl) ?_
    refine lv_aload_n hx hb dX10_sinks_31 rfl (lv_at hl 0 rfl) ?_
    refine lv_iload_n hx hb dX10_sinks_32 rfl (lv_at hl 2 rfl) ?_
    obtain ⟨fs33, ho33, hf⟩ := zz_obS_i hf
    obtain ⟨v33, hv33, hf⟩ := zz_b_i hf
    refine zr_cV X hR hl.1 (As := [.int x2]) (rest := [.ref a0]) (C := RX10) (T := TX10) (N := 34) (mt_X10_hasSprings hT a0 x2 h24 n hv33) rfl ho33 mf_X10_hasSprings q_1437 q_1439 qs_28 ⟨Nat.le_of_ble_eq_true rfl, Nat.le_of_ble_eq_true rfl⟩ ⟨Nat.le_of_ble_eq_true rfl, Nat.le_of_ble_eq_true rfl⟩ rfl (Nat.le_of_ble_eq_true rfl) dX10_sinks_33 (fun H locs hR => ?_)
    refine W.eq (g2 := F0 m 36 ls [.int v33, .ref a0]) rfl ?_
    refine lv_if_ne (tgt := 43) hx hb dX10_sinks_36 (by decide) (fun c36 => ?_) (fun c36 => ?_)
    · replace hf := zz_neg c36 hf
      refine lv_iconst (v := (0 : Int32)) hx hb dX10_sinks_43 (by decide) ?_
      exact bk_X10_sinks_44 X hT hR (lv_sub hl [0, 1, 2, 3] rfl) hf
    · replace hf := zz_pos c36 hf
      refine lv_iconst (v := (1 : Int32)) hx hb dX10_sinks_39 (by decide) ?_
      refine lv_goto (tgt := 44) hx hb dX10_sinks_40 (by decide) ?_
      exact bk_X10_sinks_44 X hT hR (lv_sub hl [0, 1, 2, 3] rfl) hf
set_option maxHeartbeats 4000000 in
set_option maxRecDepth 100000 in
theorem bk_X10_sinks_18 {D : va_G} {dA : Nat → ClassId} {base t0 : Nat} {l : Launch} {p : Program} {e : Env} {s : State} {m : MethodId} {args : Array Value} {below : List Frame} {meth : Method} {c : Code} (X : zz_X D dA base t0 "SpringseatModel" cX10_sinks 4 (some .int) l p s m meth c) (hT : l.stackTraces = false) {a0 : Nat} {x1 : Int32} {x2 : Int32} {x3 : Int32} {s0 : (Option Nat)} {h : zz_H} {n : Nat} {H : Heap} {locs : List Loc} {ls : Array Slot} (hR : zz_R D dA base h n s H locs) (hl : lv_has ls 4 [(0, .ref a0), (1, .int x1), (2, .int x2), (3, .int x3)]) {r0 : Int32} {hF : zz_H} (hf : f_X10_sinks_18 a0 x1 x2 x3 s0 h = some (r0, hF)) : W p l e rm_X10_sinks s m args below meth c H locs 0 0 (MQ below (zz_Qc D dA base (some (.int r0)) hF n) args s rm_X10_sinks.cells rm_X10_sinks.slots (fun q => base ≤ q)) (F0 m 18 ls [va_rf s0]) := by
  have hx := X.1
  have hb := X.2.1
  have hown := X.2.2.2.2.1
  unfold f_X10_sinks_18 at hf
  refine lv_iconst (v := (1 : Int32)) hx hb dX10_sinks_18 (by decide) ?_
  refine lv_goto (tgt := 23) hx hb dX10_sinks_19 (by decide) ?_
  exact bk_X10_sinks_23 X hT hR (lv_sub hl [0, 1, 2, 3] rfl) hf
set_option maxHeartbeats 4000000 in
set_option maxRecDepth 100000 in
theorem mt_X10_sinks {D : va_G} {dA : Nat → ClassId} {base t0 : Nat} {l : Launch} (hT : l.stackTraces = false) (a0 : Nat) (x1 : Int32) (x2 : Int32) (x3 : Int32) (h : zz_H) (n : Nat) {r0 : Int32} {hF : zz_H} (hf : f_X10_sinks a0 x1 x2 x3 h = some (r0, hF)) : zz_M D dA base t0 l yX10_sinks cX10_sinks 4 (some .int) rm_X10_sinks [.ref a0, .int x1, .int x2, .int x3] h n (some (.int r0)) hF n := by
  refine Met.ofW (cc := cX10_sinks) (maxL := 4) (ret := (some .int)) (by decide +kernel) rfl ?_
  intro p e s m args below meth c s₁ B hml hv
  obtain ⟨rfl, hP, hK⟩ := hv
  have X : zz_X D dA base t0 "SpringseatModel" cX10_sinks 4 (some .int) l p s m meth c := ⟨B.exec, B.bytes, hml, B.returns, findClass_of_methodNamed B.named, B.notSynchronized, hT, by rw [hP.1]; exact hP.2.1, hK⟩
  have hx := X.1
  have hb := X.2.1
  have hown := X.2.2.2.2.1
  have hR : zz_R D dA base h n s s.heap [] := ⟨hP, va_S.rf⟩
  have hl := lv_entry ([.ref a0, .int x1, .int x2, .int x3]) (n := 4) (by exact Nat.le_of_ble_eq_true rfl)
  rw [lg_entry_eq]
  generalize (lg_sl ([.ref a0, .int x1, .int x2, .int x3]) ++ List.replicate (4 - (lg_sl ([.ref a0, .int x1, .int x2, .int x3])).length) Slot.unset).toArray = ls at hl ⊢
  have hl : lv_has ls 4 [(0, .ref a0), (1, .int x1), (2, .int x2), (3, .int x3)] := hl
  unfold f_X10_sinks at hf
  refine lv_aload_n hx hb dX10_sinks_0 rfl (lv_at hl 0 rfl) ?_
  refine lv_aload_n hx hb dX10_sinks_1 rfl (lv_at hl 0 rfl) ?_
  refine lv_iload_n hx hb dX10_sinks_2 rfl (lv_at hl 1 rfl) ?_
  obtain ⟨fs3, ho3, hf⟩ := zz_obS_i hf
  obtain ⟨v3, hv3, hf⟩ := zz_b_i hf
  refine zr_cV X hR hl.1 (As := [.int x1]) (rest := [.ref a0]) (C := RX10) (T := TX10) (N := 34) (mt_X10_isNoBody hT a0 x1 h n hv3) rfl ho3 mf_X10_isNoBody q_1551 q_1553 qs_37 ⟨Nat.le_of_ble_eq_true rfl, Nat.le_of_ble_eq_true rfl⟩ ⟨Nat.le_of_ble_eq_true rfl, Nat.le_of_ble_eq_true rfl⟩ rfl (Nat.le_of_ble_eq_true rfl) dX10_sinks_3 (fun H locs hR => ?_)
  refine W.eq (g2 := F0 m 6 ls [.int v3, .ref a0]) rfl ?_
  refine lv_if_ne (tgt := 18) hx hb dX10_sinks_6 (by decide) (fun c6 => ?_) (fun c6 => ?_)
  · replace hf := zz_neg c6 hf
    exact bk_X10_sinks_18 X hT hR (lv_sub hl [0, 1, 2, 3] rfl) hf
  · replace hf := zz_pos c6 hf
    refine lv_aload_n hx hb dX10_sinks_9 rfl (lv_at hl 0 rfl) ?_
    refine lv_iload_n hx hb dX10_sinks_10 rfl (lv_at hl 2 rfl) ?_
    refine lv_iload_n hx hb dX10_sinks_11 rfl (lv_at hl 3 rfl) ?_
    obtain ⟨fs12, ho12, hf⟩ := zz_obS_i hf
    obtain ⟨v12, hv12, hf⟩ := zz_b_i hf
    refine zr_cV X hR hl.1 (As := [.int x2, .int x3]) (rest := [.ref a0]) (C := RX10) (T := TX10) (N := 34) (mt_X10_isNoCell hT a0 x2 x3 h n hv12) rfl ho12 mf_X10_isNoCell q_1413 q_1415 qs_24 ⟨Nat.le_of_ble_eq_true rfl, Nat.le_of_ble_eq_true rfl⟩ ⟨Nat.le_of_ble_eq_true rfl, Nat.le_of_ble_eq_true rfl⟩ rfl (Nat.le_of_ble_eq_true rfl) dX10_sinks_12 (fun H locs hR => ?_)
    refine W.eq (g2 := F0 m 15 ls [.int v12, .ref a0]) rfl ?_
    refine lv_if_eq (tgt := 22) hx hb dX10_sinks_15 (by decide) (fun c15 => ?_) (fun c15 => ?_)
    · replace hf := zz_pos c15 hf
      refine lv_iconst (v := (0 : Int32)) hx hb dX10_sinks_22 (by decide) ?_
      exact bk_X10_sinks_23 X hT hR (lv_sub hl [0, 1, 2, 3] rfl) hf
    · replace hf := zz_neg c15 hf
      exact bk_X10_sinks_18 X hT hR (lv_sub hl [0, 1, 2, 3] rfl) hf
end ZZM
