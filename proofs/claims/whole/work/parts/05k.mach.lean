section ZZM
def rm_X10_pressure : Room := { frames := 5, cells := 0, slots := 0, locals := 123 }
theorem mf_X10_pressure : zz_Mf yX10_pressure cX10_pressure 4 (some .int) 3 := ⟨q_1570, q_11, by decide +kernel, by decide +kernel, by decide +kernel⟩
set_option maxHeartbeats 4000000 in
set_option maxRecDepth 100000 in
theorem bk_X10_pressure_69 {D : va_G} {dA : Nat → ClassId} {base t0 : Nat} {l : Launch} {p : Program} {e : Env} {s : State} {m : MethodId} {args : Array Value} {below : List Frame} {meth : Method} {c : Code} (X : zz_X D dA base t0 "SpringseatModel" cX10_pressure 4 (some .int) l p s m meth c) (hT : l.stackTraces = false) {s0 : Int32} {h : zz_H} {n : Nat} {H : Heap} {locs : List Loc} {ls : Array Slot} (hR : zz_R D dA base h n s H locs) (hl : lv_has ls 4 []) {r0 : Int32} {hF : zz_H} (hf : f_X10_pressure_69 s0 h = some (r0, hF)) : W p l e rm_X10_pressure s m args below meth c H locs 0 0 (MQ below (zz_Qc D dA base (some (.int r0)) hF n) args s rm_X10_pressure.cells rm_X10_pressure.slots (fun q => base ≤ q)) (F0 m 69 ls [.int s0]) := by
  have hx := X.1
  have hb := X.2.1
  have hown := X.2.2.2.2.1
  unfold f_X10_pressure_69 at hf
  cases hf
  exact zr_iret X hR dX10_pressure_69 (Nat.le_of_ble_eq_true rfl) (Nat.le_of_ble_eq_true rfl)
set_option maxHeartbeats 4000000 in
set_option maxRecDepth 100000 in
theorem bk_X10_pressure_51 {D : va_G} {dA : Nat → ClassId} {base t0 : Nat} {l : Launch} {p : Program} {e : Env} {s : State} {m : MethodId} {args : Array Value} {below : List Frame} {meth : Method} {c : Code} (X : zz_X D dA base t0 "SpringseatModel" cX10_pressure 4 (some .int) l p s m meth c) (hT : l.stackTraces = false) {h : zz_H} {n : Nat} {H : Heap} {locs : List Loc} {ls : Array Slot} (hR : zz_R D dA base h n s H locs) (hl : lv_has ls 4 []) {r0 : Int32} {hF : zz_H} (hf : f_X10_pressure_51 h = some (r0, hF)) : W p l e rm_X10_pressure s m args below meth c H locs 0 0 (MQ below (zz_Qc D dA base (some (.int r0)) hF n) args s rm_X10_pressure.cells rm_X10_pressure.slots (fun q => base ≤ q)) (F0 m 51 ls []) := by
  have hx := X.1
  have hb := X.2.1
  have hown := X.2.2.2.2.1
  unfold f_X10_pressure_51 at hf
  refine lv_iconst (v := (0 : Int32)) hx hb dX10_pressure_51 (by decide) ?_
  refine lv_goto (tgt := 69) hx hb dX10_pressure_52 (by decide) ?_
  exact bk_X10_pressure_69 X hT hR (lv_sub hl [] rfl) hf
set_option maxHeartbeats 4000000 in
set_option maxRecDepth 100000 in
theorem bk_X10_pressure_44 {D : va_G} {dA : Nat → ClassId} {base t0 : Nat} {l : Launch} {p : Program} {e : Env} {s : State} {m : MethodId} {args : Array Value} {below : List Frame} {meth : Method} {c : Code} (X : zz_X D dA base t0 "SpringseatModel" cX10_pressure 4 (some .int) l p s m meth c) (hT : l.stackTraces = false) {a0 : Nat} {x1 : Int32} {x2 : Int32} {x3 : Int32} {s0 : Int32} {s1 : (Option Nat)} {h : zz_H} {n : Nat} {H : Heap} {locs : List Loc} {ls : Array Slot} (hR : zz_R D dA base h n s H locs) (hl : lv_has ls 4 [(0, .ref a0), (1, .int x1), (2, .int x2), (3, .int x3)]) {r0 : Int32} {hF : zz_H} (hf : f_X10_pressure_44 a0 x1 x2 x3 s0 s1 h = some (r0, hF)) : W p l e rm_X10_pressure s m args below meth c H locs 0 0 (MQ below (zz_Qc D dA base (some (.int r0)) hF n) args s rm_X10_pressure.cells rm_X10_pressure.slots (fun q => base ≤ q)) (F0 m 44 ls [.int s0, va_rf s1]) := by
  have hx := X.1
  have hb := X.2.1
  have hown := X.2.2.2.2.1
  unfold f_X10_pressure_44 at hf
  refine lv_iconst (v := (2 : Int32)) hx hb dX10_pressure_44 (by decide) ?_
  obtain ⟨b45, fs45, hr45, ho45, hf⟩ := zz_ob_i hf
  obtain ⟨v45, h45, hv45, hf⟩ := zz_b1_i hf
  refine zr_cV X hR hl.1 (As := [.int s0, .int (2 : Int32)]) (rest := []) (C := RX10) (T := TX10) (N := 34) (mt_X10_isThrown hT b45 s0 (2 : Int32) h n hv45) rfl ho45 mf_X10_isThrown q_1370 q_1372 qs_17 ⟨Nat.le_of_ble_eq_true rfl, Nat.le_of_ble_eq_true rfl⟩ ⟨Nat.le_of_ble_eq_true rfl, Nat.le_of_ble_eq_true rfl⟩ (by rw [hr45]; rfl) (Nat.le_of_ble_eq_true rfl) dX10_pressure_45 (fun H locs hR => ?_)
  refine W.eq (g2 := F0 m 48 ls [.int v45]) rfl ?_
  refine lv_if_eq (tgt := 55) hx hb dX10_pressure_48 (by decide) (fun c48 => ?_) (fun c48 => ?_)
  · replace hf := zz_pos c48 hf
    refine lv_aload_n hx hb dX10_pressure_55 rfl (lv_at hl 0 rfl) ?_
    refine lv_iload_n hx hb dX10_pressure_56 rfl (lv_at hl 1 rfl) ?_
    refine lv_iload_n hx hb dX10_pressure_57 rfl (lv_at hl 2 rfl) ?_
    refine lv_iload_n hx hb dX10_pressure_58 rfl (lv_at hl 3 rfl) ?_
    refine lv_bipush (v := (10 : Int32)) hx hb dX10_pressure_59 (by decide) ?_
    obtain ⟨hne61, hf⟩ := zz_dv_i hf
    refine lv_idiv hx hb dX10_pressure_61 hne61 ?_
    refine lv_iload_n hx hb dX10_pressure_62 rfl (lv_at hl 3 rfl) ?_
    refine lv_bipush (v := (10 : Int32)) hx hb dX10_pressure_63 (by decide) ?_
    obtain ⟨hne65, hf⟩ := zz_dv_i hf
    refine lv_irem hx hb dX10_pressure_65 hne65 ?_
    obtain ⟨fs66, ho66, hf⟩ := zz_obS_i hf
    obtain ⟨v66, hv66, hf⟩ := zz_b_i hf
    refine zr_cV X hR hl.1 (As := [.int x1, .int x2, .int (x3 / (10 : Int32)), .int (zz_rem x3 (10 : Int32))]) (rest := []) (C := RX10) (T := TX10) (N := 34) (mt_X10_pressing hT a0 x1 x2 (x3 / (10 : Int32)) (zz_rem x3 (10 : Int32)) h45 n hv66) rfl ho66 mf_X10_pressing q_1571 q_1573 qs_40 ⟨Nat.le_of_ble_eq_true rfl, Nat.le_of_ble_eq_true rfl⟩ ⟨Nat.le_of_ble_eq_true rfl, Nat.le_of_ble_eq_true rfl⟩ rfl (Nat.le_of_ble_eq_true rfl) dX10_pressure_66 (fun H locs hR => ?_)
    refine W.eq (g2 := F0 m 69 ls [.int v66]) rfl ?_
    exact bk_X10_pressure_69 X hT hR (lv_sub hl [] rfl) hf
  · replace hf := zz_neg c48 hf
    exact bk_X10_pressure_51 X hT hR (lv_sub hl [] rfl) hf
set_option maxHeartbeats 4000000 in
set_option maxRecDepth 100000 in
theorem bk_X10_pressure_23 {D : va_G} {dA : Nat → ClassId} {base t0 : Nat} {l : Launch} {p : Program} {e : Env} {s : State} {m : MethodId} {args : Array Value} {below : List Frame} {meth : Method} {c : Code} (X : zz_X D dA base t0 "SpringseatModel" cX10_pressure 4 (some .int) l p s m meth c) (hT : l.stackTraces = false) {a0 : Nat} {x1 : Int32} {x2 : Int32} {x3 : Int32} {s0 : Int32} {s1 : (Option Nat)} {h : zz_H} {n : Nat} {H : Heap} {locs : List Loc} {ls : Array Slot} (hR : zz_R D dA base h n s H locs) (hl : lv_has ls 4 [(0, .ref a0), (1, .int x1), (2, .int x2), (3, .int x3)]) {r0 : Int32} {hF : zz_H} (hf : f_X10_pressure_23 a0 x1 x2 x3 s0 s1 h = some (r0, hF)) : W p l e rm_X10_pressure s m args below meth c H locs 0 0 (MQ below (zz_Qc D dA base (some (.int r0)) hF n) args s rm_X10_pressure.cells rm_X10_pressure.slots (fun q => base ≤ q)) (F0 m 23 ls [.int s0, va_rf s1]) := by
  have hx := X.1
  have hb := X.2.1
  have hown := X.2.2.2.2.1
  unfold f_X10_pressure_23 at hf
  refine lv_iconst (v := (1 : Int32)) hx hb dX10_pressure_23 (by decide) ?_
  obtain ⟨b24, fs24, hr24, ho24, hf⟩ := zz_ob_i hf
  obtain ⟨v24, h24, hv24, hf⟩ := zz_b1_i hf
  refine zr_cV X hR hl.1 (As := [.int s0, .int (1 : Int32)]) (rest := []) (C := RX10) (T := TX10) (N := 34) (mt_X10_isThrown hT b24 s0 (1 : Int32) h n hv24) rfl ho24 mf_X10_isThrown q_1370 q_1372 qs_17 ⟨Nat.le_of_ble_eq_true rfl, Nat.le_of_ble_eq_true rfl⟩ ⟨Nat.le_of_ble_eq_true rfl, Nat.le_of_ble_eq_true rfl⟩ (by rw [hr24]; rfl) (Nat.le_of_ble_eq_true rfl) dX10_pressure_24 (fun H locs hR => ?_)
  refine W.eq (g2 := F0 m 27 ls [.int v24]) rfl ?_
  refine lv_if_ne (tgt := 51) hx hb dX10_pressure_27 (by decide) (fun c27 => ?_) (fun c27 => ?_)
  · replace hf := zz_neg c27 hf
    exact bk_X10_pressure_51 X hT hR (lv_sub hl [] rfl) hf
  · replace hf := zz_pos c27 hf
    refine lv_aload_n hx hb dX10_pressure_30 rfl (lv_at hl 0 rfl) ?_
    refine lv_aload_n hx hb dX10_pressure_31 rfl (lv_at hl 0 rfl) ?_
    refine lv_iload_n hx hb dX10_pressure_32 rfl (lv_at hl 2 rfl) ?_
    obtain ⟨fs33, ho33, hf⟩ := zz_obS_i hf
    obtain ⟨v33, hv33, hf⟩ := zz_b_i hf
    refine zr_cV X hR hl.1 (As := [.int x2]) (rest := [.ref a0]) (C := RX10) (T := TX10) (N := 34) (mt_X10_hasSprings hT a0 x2 h24 n hv33) rfl ho33 mf_X10_hasSprings q_1437 q_1439 qs_28 ⟨Nat.le_of_ble_eq_true rfl, Nat.le_of_ble_eq_true rfl⟩ ⟨Nat.le_of_ble_eq_true rfl, Nat.le_of_ble_eq_true rfl⟩ rfl (Nat.le_of_ble_eq_true rfl) dX10_pressure_33 (fun H locs hR => ?_)
    refine W.eq (g2 := F0 m 36 ls [.int v33, .ref a0]) rfl ?_
    refine lv_if_ne (tgt := 43) hx hb dX10_pressure_36 (by decide) (fun c36 => ?_) (fun c36 => ?_)
    · replace hf := zz_neg c36 hf
      refine lv_iconst (v := (0 : Int32)) hx hb dX10_pressure_43 (by decide) ?_
      exact bk_X10_pressure_44 X hT hR (lv_sub hl [0, 1, 2, 3] rfl) hf
    · replace hf := zz_pos c36 hf
      refine lv_iconst (v := (1 : Int32)) hx hb dX10_pressure_39 (by decide) ?_
      refine lv_goto (tgt := 44) hx hb dX10_pressure_40 (by decide) ?_
      exact bk_X10_pressure_44 X hT hR (lv_sub hl [0, 1, 2, 3] rfl) hf
set_option maxHeartbeats 4000000 in
set_option maxRecDepth 100000 in
theorem bk_X10_pressure_18 {D : va_G} {dA : Nat → ClassId} {base t0 : Nat} {l : Launch} {p : Program} {e : Env} {s : State} {m : MethodId} {args : Array Value} {below : List Frame} {meth : Method} {c : Code} (X : zz_X D dA base t0 "SpringseatModel" cX10_pressure 4 (some .int) l p s m meth c) (hT : l.stackTraces = false) {a0 : Nat} {x1 : Int32} {x2 : Int32} {x3 : Int32} {s0 : (Option Nat)} {h : zz_H} {n : Nat} {H : Heap} {locs : List Loc} {ls : Array Slot} (hR : zz_R D dA base h n s H locs) (hl : lv_has ls 4 [(0, .ref a0), (1, .int x1), (2, .int x2), (3, .int x3)]) {r0 : Int32} {hF : zz_H} (hf : f_X10_pressure_18 a0 x1 x2 x3 s0 h = some (r0, hF)) : W p l e rm_X10_pressure s m args below meth c H locs 0 0 (MQ below (zz_Qc D dA base (some (.int r0)) hF n) args s rm_X10_pressure.cells rm_X10_pressure.slots (fun q => base ≤ q)) (F0 m 18 ls [va_rf s0]) := by
  have hx := X.1
  have hb := X.2.1
  have hown := X.2.2.2.2.1
  unfold f_X10_pressure_18 at hf
  refine lv_iconst (v := (1 : Int32)) hx hb dX10_pressure_18 (by decide) ?_
  refine lv_goto (tgt := 23) hx hb dX10_pressure_19 (by decide) ?_
  exact bk_X10_pressure_23 X hT hR (lv_sub hl [0, 1, 2, 3] rfl) hf
set_option maxHeartbeats 4000000 in
set_option maxRecDepth 100000 in
theorem mt_X10_pressure {D : va_G} {dA : Nat → ClassId} {base t0 : Nat} {l : Launch} (hT : l.stackTraces = false) (a0 : Nat) (x1 : Int32) (x2 : Int32) (x3 : Int32) (h : zz_H) (n : Nat) {r0 : Int32} {hF : zz_H} (hf : f_X10_pressure a0 x1 x2 x3 h = some (r0, hF)) : zz_M D dA base t0 l yX10_pressure cX10_pressure 4 (some .int) rm_X10_pressure [.ref a0, .int x1, .int x2, .int x3] h n (some (.int r0)) hF n := by
  refine Met.ofW (cc := cX10_pressure) (maxL := 4) (ret := (some .int)) (by decide +kernel) rfl ?_
  intro p e s m args below meth c s₁ B hml hv
  obtain ⟨rfl, hP, hK⟩ := hv
  have X : zz_X D dA base t0 "SpringseatModel" cX10_pressure 4 (some .int) l p s m meth c := ⟨B.exec, B.bytes, hml, B.returns, findClass_of_methodNamed B.named, B.notSynchronized, hT, by rw [hP.1]; exact hP.2.1, hK⟩
  have hx := X.1
  have hb := X.2.1
  have hown := X.2.2.2.2.1
  have hR : zz_R D dA base h n s s.heap [] := ⟨hP, va_S.rf⟩
  have hl := lv_entry ([.ref a0, .int x1, .int x2, .int x3]) (n := 4) (by exact Nat.le_of_ble_eq_true rfl)
  rw [lg_entry_eq]
  generalize (lg_sl ([.ref a0, .int x1, .int x2, .int x3]) ++ List.replicate (4 - (lg_sl ([.ref a0, .int x1, .int x2, .int x3])).length) Slot.unset).toArray = ls at hl ⊢
  have hl : lv_has ls 4 [(0, .ref a0), (1, .int x1), (2, .int x2), (3, .int x3)] := hl
  unfold f_X10_pressure at hf
  refine lv_aload_n hx hb dX10_pressure_0 rfl (lv_at hl 0 rfl) ?_
  refine lv_aload_n hx hb dX10_pressure_1 rfl (lv_at hl 0 rfl) ?_
  refine lv_iload_n hx hb dX10_pressure_2 rfl (lv_at hl 1 rfl) ?_
  obtain ⟨fs3, ho3, hf⟩ := zz_obS_i hf
  obtain ⟨v3, hv3, hf⟩ := zz_b_i hf
  refine zr_cV X hR hl.1 (As := [.int x1]) (rest := [.ref a0]) (C := RX10) (T := TX10) (N := 34) (mt_X10_isNoBody hT a0 x1 h n hv3) rfl ho3 mf_X10_isNoBody q_1551 q_1553 qs_37 ⟨Nat.le_of_ble_eq_true rfl, Nat.le_of_ble_eq_true rfl⟩ ⟨Nat.le_of_ble_eq_true rfl, Nat.le_of_ble_eq_true rfl⟩ rfl (Nat.le_of_ble_eq_true rfl) dX10_pressure_3 (fun H locs hR => ?_)
  refine W.eq (g2 := F0 m 6 ls [.int v3, .ref a0]) rfl ?_
  refine lv_if_ne (tgt := 18) hx hb dX10_pressure_6 (by decide) (fun c6 => ?_) (fun c6 => ?_)
  · replace hf := zz_neg c6 hf
    exact bk_X10_pressure_18 X hT hR (lv_sub hl [0, 1, 2, 3] rfl) hf
  · replace hf := zz_pos c6 hf
    refine lv_aload_n hx hb dX10_pressure_9 rfl (lv_at hl 0 rfl) ?_
    refine lv_iload_n hx hb dX10_pressure_10 rfl (lv_at hl 2 rfl) ?_
    refine lv_iload_n hx hb dX10_pressure_11 rfl (lv_at hl 3 rfl) ?_
    obtain ⟨fs12, ho12, hf⟩ := zz_obS_i hf
    obtain ⟨v12, hv12, hf⟩ := zz_b_i hf
    refine zr_cV X hR hl.1 (As := [.int x2, .int x3]) (rest := [.ref a0]) (C := RX10) (T := TX10) (N := 34) (mt_X10_isNoCell hT a0 x2 x3 h n hv12) rfl ho12 mf_X10_isNoCell q_1413 q_1415 qs_24 ⟨Nat.le_of_ble_eq_true rfl, Nat.le_of_ble_eq_true rfl⟩ ⟨Nat.le_of_ble_eq_true rfl, Nat.le_of_ble_eq_true rfl⟩ rfl (Nat.le_of_ble_eq_true rfl) dX10_pressure_12 (fun H locs hR => ?_)
    refine W.eq (g2 := F0 m 15 ls [.int v12, .ref a0]) rfl ?_
    refine lv_if_eq (tgt := 22) hx hb dX10_pressure_15 (by decide) (fun c15 => ?_) (fun c15 => ?_)
    · replace hf := zz_pos c15 hf
      refine lv_iconst (v := (0 : Int32)) hx hb dX10_pressure_22 (by decide) ?_
      exact bk_X10_pressure_23 X hT hR (lv_sub hl [0, 1, 2, 3] rfl) hf
    · replace hf := zz_neg c15 hf
      exact bk_X10_pressure_18 X hT hR (lv_sub hl [0, 1, 2, 3] rfl) hf
def rm_X10_comfort : Room := { frames := 5, cells := 0, slots := 0, locals := 123 }
theorem mf_X10_comfort : zz_Mf yX10_comfort cX10_comfort 6 (some .int) 2 := ⟨q_1578, q_11, by decide +kernel, by decide +kernel, by decide +kernel⟩
set_option maxHeartbeats 4000000 in
set_option maxRecDepth 100000 in
theorem bk_X10_comfort_118 {D : va_G} {dA : Nat → ClassId} {base t0 : Nat} {l : Launch} {p : Program} {e : Env} {s : State} {m : MethodId} {args : Array Value} {below : List Frame} {meth : Method} {c : Code} (X : zz_X D dA base t0 "SpringseatModel" cX10_comfort 6 (some .int) l p s m meth c) (hT : l.stackTraces = false) {a0 : Nat} {x1 : Int32} {x2 : Int32} {x4 : Int32} {x5 : Int32} {s0 : Int32} {s1 : Int32} {h : zz_H} {n : Nat} {H : Heap} {locs : List Loc} {ls : Array Slot} (hR : zz_R D dA base h n s H locs) (hl : lv_has ls 6 [(0, .ref a0), (1, .int x1), (2, .int x2), (4, .int x4), (5, .int x5)]) {r0 : Int32} {hF : zz_H} {o : ((Int32 × Int32) ⊕ ((Int32 × Int32) ⊕ (Int32 × zz_H)))} (hf : f_X10_comfort_118 a0 x1 x2 x4 x5 s0 s1 h = some o) (k0 : ∀ (w3 : Int32) (w4 : Int32), o = (.inr (.inl (w3, w4))) → ∀ {H : Heap} {locs : List Loc} {ls : Array Slot}, zz_R D dA base h n s H locs → lv_has ls 6 [(0, .ref a0), (1, .int x1), (2, .int x2), (3, .int w3), (4, .int w4)] → W p l e rm_X10_comfort s m args below meth c H locs 0 0 (MQ below (zz_Qc D dA base (some (.int r0)) hF n) args s rm_X10_comfort.cells rm_X10_comfort.slots (fun q => base ≤ q)) (F0 m 57 ls [])) (k1 : ∀ (w3 : Int32) (w5 : Int32), o = (.inl (w3, w5)) → ∀ {H : Heap} {locs : List Loc} {ls : Array Slot}, zz_R D dA base h n s H locs → lv_has ls 6 [(0, .ref a0), (1, .int x1), (2, .int x2), (3, .int w3), (4, .int x4), (5, .int w5)] → W p l e rm_X10_comfort s m args below meth c H locs 0 0 (MQ below (zz_Qc D dA base (some (.int r0)) hF n) args s rm_X10_comfort.cells rm_X10_comfort.slots (fun q => base ≤ q)) (F0 m 71 ls [])) (hret : ∀ r, o = (.inr (.inr r)) → r = (r0, hF)) : W p l e rm_X10_comfort s m args below meth c H locs 0 0 (MQ below (zz_Qc D dA base (some (.int r0)) hF n) args s rm_X10_comfort.cells rm_X10_comfort.slots (fun q => base ≤ q)) (F0 m 118 ls [.int s0, .int s1]) := by
  have hx := X.1
  have hb := X.2.1
  have hown := X.2.2.2.2.1
  unfold f_X10_comfort_118 at hf
  refine lv_iadd hx hb dX10_comfort_118 ?_
  refine lv_istore_n (i := 3) (lv' := [(3, .int (s1 + s0)), (0, .ref a0), (1, .int x1), (2, .int x2), (4, .int x4), (5, .int x5)]) hx hb dX10_comfort_119 rfl hl (by decide) rfl (fun ls hl => ?_)
  refine lv_iinc (i := 5) (v := (x5 + (1 : Int32))) (lv' := [(5, .int (x5 + (1 : Int32))), (3, .int (s1 + s0)), (0, .ref a0), (1, .int x1), (2, .int x2), (4, .int x4)]) hx hb dX10_comfort_120 hl (k := 5) rfl rfl (by decide) rfl (fun ls hl => ?_)
  refine lv_goto (tgt := 71) hx hb dX10_comfort_123 (by decide) ?_
  cases hf
  exact k1 _ _ rfl hR (lv_sub hl [2, 3, 4, 1, 5, 0] rfl)
set_option maxHeartbeats 4000000 in
set_option maxRecDepth 100000 in
theorem bk_X10_comfort_117 {D : va_G} {dA : Nat → ClassId} {base t0 : Nat} {l : Launch} {p : Program} {e : Env} {s : State} {m : MethodId} {args : Array Value} {below : List Frame} {meth : Method} {c : Code} (X : zz_X D dA base t0 "SpringseatModel" cX10_comfort 6 (some .int) l p s m meth c) (hT : l.stackTraces = false) {a0 : Nat} {x1 : Int32} {x2 : Int32} {x4 : Int32} {x5 : Int32} {s0 : Int32} {h : zz_H} {n : Nat} {H : Heap} {locs : List Loc} {ls : Array Slot} (hR : zz_R D dA base h n s H locs) (hl : lv_has ls 6 [(0, .ref a0), (1, .int x1), (2, .int x2), (4, .int x4), (5, .int x5)]) {r0 : Int32} {hF : zz_H} {o : ((Int32 × Int32) ⊕ ((Int32 × Int32) ⊕ (Int32 × zz_H)))} (hf : f_X10_comfort_117 a0 x1 x2 x4 x5 s0 h = some o) (k0 : ∀ (w3 : Int32) (w4 : Int32), o = (.inr (.inl (w3, w4))) → ∀ {H : Heap} {locs : List Loc} {ls : Array Slot}, zz_R D dA base h n s H locs → lv_has ls 6 [(0, .ref a0), (1, .int x1), (2, .int x2), (3, .int w3), (4, .int w4)] → W p l e rm_X10_comfort s m args below meth c H locs 0 0 (MQ below (zz_Qc D dA base (some (.int r0)) hF n) args s rm_X10_comfort.cells rm_X10_comfort.slots (fun q => base ≤ q)) (F0 m 57 ls [])) (k1 : ∀ (w3 : Int32) (w5 : Int32), o = (.inl (w3, w5)) → ∀ {H : Heap} {locs : List Loc} {ls : Array Slot}, zz_R D dA base h n s H locs → lv_has ls 6 [(0, .ref a0), (1, .int x1), (2, .int x2), (3, .int w3), (4, .int x4), (5, .int w5)] → W p l e rm_X10_comfort s m args below meth c H locs 0 0 (MQ below (zz_Qc D dA base (some (.int r0)) hF n) args s rm_X10_comfort.cells rm_X10_comfort.slots (fun q => base ≤ q)) (F0 m 71 ls [])) (hret : ∀ r, o = (.inr (.inr r)) → r = (r0, hF)) : W p l e rm_X10_comfort s m args below meth c H locs 0 0 (MQ below (zz_Qc D dA base (some (.int r0)) hF n) args s rm_X10_comfort.cells rm_X10_comfort.slots (fun q => base ≤ q)) (F0 m 117 ls [.int s0]) := by
  have hx := X.1
  have hb := X.2.1
  have hown := X.2.2.2.2.1
  unfold f_X10_comfort_117 at hf
  refine lv_iconst (v := (0 : Int32)) hx hb dX10_comfort_117 (by decide) ?_
  exact bk_X10_comfort_118 X hT hR (lv_sub hl [0, 1, 2, 3, 4] rfl) hf k0 k1 hret
set_option maxHeartbeats 4000000 in
set_option maxRecDepth 100000 in
theorem bk_X10_comfort_71 {D : va_G} {dA : Nat → ClassId} {base t0 : Nat} {l : Launch} {p : Program} {e : Env} {s : State} {m : MethodId} {args : Array Value} {below : List Frame} {meth : Method} {c : Code} (X : zz_X D dA base t0 "SpringseatModel" cX10_comfort 6 (some .int) l p s m meth c) (hT : l.stackTraces = false) {a0 : Nat} {x1 : Int32} {x2 : Int32} {x3 : Int32} {x4 : Int32} {x5 : Int32} {h : zz_H} {n : Nat} {H : Heap} {locs : List Loc} {ls : Array Slot} (hR : zz_R D dA base h n s H locs) (hl : lv_has ls 6 [(0, .ref a0), (1, .int x1), (2, .int x2), (3, .int x3), (4, .int x4), (5, .int x5)]) {r0 : Int32} {hF : zz_H} {o : ((Int32 × Int32) ⊕ ((Int32 × Int32) ⊕ (Int32 × zz_H)))} (hf : f_X10_comfort_71 a0 x1 x2 x3 x4 x5 h = some o) (k0 : ∀ (w3 : Int32) (w4 : Int32), o = (.inr (.inl (w3, w4))) → ∀ {H : Heap} {locs : List Loc} {ls : Array Slot}, zz_R D dA base h n s H locs → lv_has ls 6 [(0, .ref a0), (1, .int x1), (2, .int x2), (3, .int w3), (4, .int w4)] → W p l e rm_X10_comfort s m args below meth c H locs 0 0 (MQ below (zz_Qc D dA base (some (.int r0)) hF n) args s rm_X10_comfort.cells rm_X10_comfort.slots (fun q => base ≤ q)) (F0 m 57 ls [])) (k1 : ∀ (w3 : Int32) (w5 : Int32), o = (.inl (w3, w5)) → ∀ {H : Heap} {locs : List Loc} {ls : Array Slot}, zz_R D dA base h n s H locs → lv_has ls 6 [(0, .ref a0), (1, .int x1), (2, .int x2), (3, .int w3), (4, .int x4), (5, .int w5)] → W p l e rm_X10_comfort s m args below meth c H locs 0 0 (MQ below (zz_Qc D dA base (some (.int r0)) hF n) args s rm_X10_comfort.cells rm_X10_comfort.slots (fun q => base ≤ q)) (F0 m 71 ls [])) (hret : ∀ r, o = (.inr (.inr r)) → r = (r0, hF)) : W p l e rm_X10_comfort s m args below meth c H locs 0 0 (MQ below (zz_Qc D dA base (some (.int r0)) hF n) args s rm_X10_comfort.cells rm_X10_comfort.slots (fun q => base ≤ q)) (F0 m 71 ls []) := by
  have hx := X.1
  have hb := X.2.1
  have hown := X.2.2.2.2.1
  unfold f_X10_comfort_71 at hf
  refine lv_iload hx hb dX10_comfort_71 (lv_at hl 5 rfl) ?_
  refine lv_aload_n hx hb dX10_comfort_73 rfl (lv_at hl 0 rfl) ?_
  refine zr_gq X hR (r := (some a0)) fl_X10_13 dX10_comfort_74 hf (fun v74 hf => ?_)
  refine lv_iload_n hx hb dX10_comfort_77 rfl (lv_at hl 2 rfl) ?_
  refine zr_iald X hR (r := v74) dX10_comfort_78 hf (fun v78 hf => ?_)
  refine lv_icmp_ge (tgt := 126) hx hb dX10_comfort_79 (by decide) (fun c79 => ?_) (fun c79 => ?_)
  · replace hf := zz_pos c79 hf
    refine lv_iinc (i := 4) (v := (x4 + (1 : Int32))) (lv' := [(4, .int (x4 + (1 : Int32))), (0, .ref a0), (1, .int x1), (2, .int x2), (3, .int x3), (5, .int x5)]) hx hb dX10_comfort_126 hl (k := 4) rfl rfl (by decide) rfl (fun ls hl => ?_)
    refine lv_goto (tgt := 57) hx hb dX10_comfort_129 (by decide) ?_
    cases hf
    exact k0 _ _ rfl hR (lv_sub hl [1, 2, 3, 4, 0] rfl)
  · replace hf := zz_neg c79 hf
    refine lv_iload_n hx hb dX10_comfort_82 rfl (lv_at hl 3 rfl) ?_
    refine lv_aload_n hx hb dX10_comfort_83 rfl (lv_at hl 0 rfl) ?_
    refine zr_gq X hR (r := (some a0)) fl_X10_86 dX10_comfort_84 hf (fun v84 hf => ?_)
    refine lv_iload_n hx hb dX10_comfort_87 rfl (lv_at hl 1 rfl) ?_
    refine zr_aald X hR (t := 7) (r := v84) (by decide) rfl dX10_comfort_88 hf (fun v88 hf => ?_)
    refine lv_iload hx hb dX10_comfort_89 (lv_at hl 4 rfl) ?_
    refine zr_aald X hR (t := 6) (r := v88) (by decide) rfl dX10_comfort_91 hf (fun v91 hf => ?_)
    refine lv_iload hx hb dX10_comfort_92 (lv_at hl 5 rfl) ?_
    refine zr_iald X hR (r := v91) dX10_comfort_94 hf (fun v94 hf => ?_)
    refine lv_if_le (tgt := 117) hx hb dX10_comfort_95 (by decide) (fun c95 => ?_) (fun c95 => ?_)
    · replace hf := zz_pos c95 hf
      exact bk_X10_comfort_117 X hT hR (lv_sub hl [0, 1, 2, 4, 5] rfl) hf k0 k1 hret
    · replace hf := zz_neg c95 hf
      refine lv_aload_n hx hb dX10_comfort_98 rfl (lv_at hl 0 rfl) ?_
      refine lv_iload_n hx hb dX10_comfort_99 rfl (lv_at hl 1 rfl) ?_
      refine lv_iload_n hx hb dX10_comfort_100 rfl (lv_at hl 2 rfl) ?_
      refine lv_iload hx hb dX10_comfort_101 (lv_at hl 4 rfl) ?_
      refine lv_iload hx hb dX10_comfort_103 (lv_at hl 5 rfl) ?_
      obtain ⟨fs105, ho105, hf⟩ := zz_obS_i hf
      obtain ⟨v105, hv105, hf⟩ := zz_b_i hf
      refine zr_cV X hR hl.1 (As := [.int x1, .int x2, .int x4, .int x5]) (rest := [.int x3]) (C := RX10) (T := TX10) (N := 34) (mt_X10_pressing hT a0 x1 x2 x4 x5 h n hv105) rfl ho105 mf_X10_pressing q_1571 q_1573 qs_40 ⟨Nat.le_of_ble_eq_true rfl, Nat.le_of_ble_eq_true rfl⟩ ⟨Nat.le_of_ble_eq_true rfl, Nat.le_of_ble_eq_true rfl⟩ rfl (Nat.le_of_ble_eq_true rfl) dX10_comfort_105 (fun H locs hR => ?_)
      refine W.eq (g2 := F0 m 108 ls [.int v105, .int x3]) rfl ?_
      refine lv_bipush (v := (100 : Int32)) hx hb dX10_comfort_108 (by decide) ?_
      refine lv_icmp_gt (tgt := 117) hx hb dX10_comfort_110 (by decide) (fun c110 => ?_) (fun c110 => ?_)
      · replace hf := zz_pos c110 hf
        exact bk_X10_comfort_117 X hT hR (lv_sub hl [0, 1, 2, 4, 5] rfl) hf k0 k1 hret
      · replace hf := zz_neg c110 hf
        refine lv_iconst (v := (1 : Int32)) hx hb dX10_comfort_113 (by decide) ?_
        refine lv_goto (tgt := 118) hx hb dX10_comfort_114 (by decide) ?_
        exact bk_X10_comfort_118 X hT hR (lv_sub hl [0, 1, 2, 4, 5] rfl) hf k0 k1 hret
set_option maxHeartbeats 4000000 in
set_option maxRecDepth 100000 in
theorem lp_X10_comfort_71 {D : va_G} {dA : Nat → ClassId} {base t0 : Nat} {l : Launch} {p : Program} {e : Env} {s : State} {m : MethodId} {args : Array Value} {below : List Frame} {meth : Method} {c : Code} (X : zz_X D dA base t0 "SpringseatModel" cX10_comfort 6 (some .int) l p s m meth c) (hT : l.stackTraces = false) (a0 : Nat) (x1 : Int32) (x2 : Int32) (x4 : Int32) {h : zz_H} {n : Nat} {r0 : Int32} {hF : zz_H} : ∀ (k : Nat) (x3 : Int32) (x5 : Int32) {o : ((Int32 × Int32) ⊕ (Int32 × zz_H))}, zz_it (fun s : (Int32 × Int32) => f_X10_comfort_71 a0 x1 x2 s.1 x4 s.2 h) k (x3, x5) = some o → (∀ (w3 : Int32) (w4 : Int32), o = (.inl (w3, w4)) → ∀ {H : Heap} {locs : List Loc} {ls : Array Slot}, zz_R D dA base h n s H locs → lv_has ls 6 [(0, .ref a0), (1, .int x1), (2, .int x2), (3, .int w3), (4, .int w4)] → W p l e rm_X10_comfort s m args below meth c H locs 0 0 (MQ below (zz_Qc D dA base (some (.int r0)) hF n) args s rm_X10_comfort.cells rm_X10_comfort.slots (fun q => base ≤ q)) (F0 m 57 ls [])) → (∀ r, o = (.inr r) → r = (r0, hF)) → ∀ {H : Heap} {locs : List Loc} {ls : Array Slot}, zz_R D dA base h n s H locs → lv_has ls 6 [(0, .ref a0), (1, .int x1), (2, .int x2), (3, .int x3), (4, .int x4), (5, .int x5)] → W p l e rm_X10_comfort s m args below meth c H locs 0 0 (MQ below (zz_Qc D dA base (some (.int r0)) hF n) args s rm_X10_comfort.cells rm_X10_comfort.slots (fun q => base ≤ q)) (F0 m 71 ls []) := by
  intro k
  induction k with
  | zero => intro x3 x5 o hf _ _; cases hf
  | succ k ih =>
    intro x3 x5 o hf k0 hret H locs ls hR hl
    rcases zz_it_s hf with ⟨⟨y0, y1⟩, h1, h2⟩ | h1
    · exact bk_X10_comfort_71 (r0 := r0) X hT hR hl h1 (fun z0 z1 e => by cases e) (fun z0 z1 e => by cases e; exact ih _ _ h2 k0 hret) (fun r e => by cases e)
    · exact bk_X10_comfort_71 (r0 := r0) X hT hR hl h1 (fun z0 z1 e => k0 z0 z1 (Sum.inr.inj e)) (fun z0 z1 e => by cases e) (fun r e => hret r (Sum.inr.inj e))
set_option maxHeartbeats 4000000 in
set_option maxRecDepth 100000 in
theorem bk_X10_comfort_57 {D : va_G} {dA : Nat → ClassId} {base t0 : Nat} {l : Launch} {p : Program} {e : Env} {s : State} {m : MethodId} {args : Array Value} {below : List Frame} {meth : Method} {c : Code} (X : zz_X D dA base t0 "SpringseatModel" cX10_comfort 6 (some .int) l p s m meth c) (hT : l.stackTraces = false) {a0 : Nat} {x1 : Int32} {x2 : Int32} {x3 : Int32} {x4 : Int32} {h : zz_H} {n : Nat} {H : Heap} {locs : List Loc} {ls : Array Slot} (hR : zz_R D dA base h n s H locs) (hl : lv_has ls 6 [(0, .ref a0), (1, .int x1), (2, .int x2), (3, .int x3), (4, .int x4)]) {r0 : Int32} {hF : zz_H} {o : ((Int32 × Int32) ⊕ (Int32 × zz_H))} (hf : f_X10_comfort_57 a0 x1 x2 x3 x4 h = some o) (k0 : ∀ (w3 : Int32) (w4 : Int32), o = (.inl (w3, w4)) → ∀ {H : Heap} {locs : List Loc} {ls : Array Slot}, zz_R D dA base h n s H locs → lv_has ls 6 [(0, .ref a0), (1, .int x1), (2, .int x2), (3, .int w3), (4, .int w4)] → W p l e rm_X10_comfort s m args below meth c H locs 0 0 (MQ below (zz_Qc D dA base (some (.int r0)) hF n) args s rm_X10_comfort.cells rm_X10_comfort.slots (fun q => base ≤ q)) (F0 m 57 ls [])) (hret : ∀ r, o = (.inr r) → r = (r0, hF)) : W p l e rm_X10_comfort s m args below meth c H locs 0 0 (MQ below (zz_Qc D dA base (some (.int r0)) hF n) args s rm_X10_comfort.cells rm_X10_comfort.slots (fun q => base ≤ q)) (F0 m 57 ls []) := by
  have hx := X.1
  have hb := X.2.1
  have hown := X.2.2.2.2.1
  unfold f_X10_comfort_57 at hf
  refine lv_iload hx hb dX10_comfort_57 (lv_at hl 4 rfl) ?_
  refine lv_aload_n hx hb dX10_comfort_59 rfl (lv_at hl 0 rfl) ?_
  refine zr_gq X hR (r := (some a0)) fl_X10_9 dX10_comfort_60 hf (fun v60 hf => ?_)
  refine lv_iload_n hx hb dX10_comfort_63 rfl (lv_at hl 2 rfl) ?_
  refine zr_iald X hR (r := v60) dX10_comfort_64 hf (fun v64 hf => ?_)
  refine lv_icmp_ge (tgt := 132) hx hb dX10_comfort_65 (by decide) (fun c65 => ?_) (fun c65 => ?_)
  · replace hf := zz_pos c65 hf
    refine lv_iload_n hx hb dX10_comfort_132 rfl (lv_at hl 3 rfl) ?_
    cases hf
    cases hret _ rfl
    exact zr_iret X hR dX10_comfort_133 (Nat.le_of_ble_eq_true rfl) (Nat.le_of_ble_eq_true rfl)
  · replace hf := zz_neg c65 hf
    refine lv_iconst (v := (0 : Int32)) hx hb dX10_comfort_68 (by decide) ?_
    refine lv_istore (i := 5) (lv' := [(5, .int (0 : Int32)), (0, .ref a0), (1, .int x1), (2, .int x2), (3, .int x3), (4, .int x4)]) hx hb dX10_comfort_69 hl (by decide) rfl (fun ls hl => ?_)
    exact lp_X10_comfort_71 X hT a0 x1 x2 x4 zz_F _ _ hf k0 hret hR (lv_sub hl [1, 2, 3, 4, 5, 0] rfl)
set_option maxHeartbeats 4000000 in
set_option maxRecDepth 100000 in
theorem lp_X10_comfort_57 {D : va_G} {dA : Nat → ClassId} {base t0 : Nat} {l : Launch} {p : Program} {e : Env} {s : State} {m : MethodId} {args : Array Value} {below : List Frame} {meth : Method} {c : Code} (X : zz_X D dA base t0 "SpringseatModel" cX10_comfort 6 (some .int) l p s m meth c) (hT : l.stackTraces = false) (a0 : Nat) (x1 : Int32) (x2 : Int32) {h : zz_H} {n : Nat} {r0 : Int32} {hF : zz_H} : ∀ (k : Nat) (x3 : Int32) (x4 : Int32), zz_it (fun s : (Int32 × Int32) => f_X10_comfort_57 a0 x1 x2 s.1 s.2 h) k (x3, x4) = some (r0, hF) → ∀ {H : Heap} {locs : List Loc} {ls : Array Slot}, zz_R D dA base h n s H locs → lv_has ls 6 [(0, .ref a0), (1, .int x1), (2, .int x2), (3, .int x3), (4, .int x4)] → W p l e rm_X10_comfort s m args below meth c H locs 0 0 (MQ below (zz_Qc D dA base (some (.int r0)) hF n) args s rm_X10_comfort.cells rm_X10_comfort.slots (fun q => base ≤ q)) (F0 m 57 ls []) := by
  intro k
  induction k with
  | zero => intro x3 x4 hf; cases hf
  | succ k ih =>
    intro x3 x4 hf H locs ls hR hl
    rcases zz_it_s hf with ⟨⟨y0, y1⟩, h1, h2⟩ | h1
    · exact bk_X10_comfort_57 (r0 := r0) X hT hR hl h1  (fun z0 z1 e => by cases e; exact ih _ _ h2) (fun r e => by cases e)
    · exact bk_X10_comfort_57 (r0 := r0) X hT hR hl h1  (fun z0 z1 e => by cases e) (fun r e => (Sum.inr.inj e).symm)
set_option maxHeartbeats 4000000 in
set_option maxRecDepth 100000 in
theorem bk_X10_comfort_50 {D : va_G} {dA : Nat → ClassId} {base t0 : Nat} {l : Launch} {p : Program} {e : Env} {s : State} {m : MethodId} {args : Array Value} {below : List Frame} {meth : Method} {c : Code} (X : zz_X D dA base t0 "SpringseatModel" cX10_comfort 6 (some .int) l p s m meth c) (hT : l.stackTraces = false) {h : zz_H} {n : Nat} {H : Heap} {locs : List Loc} {ls : Array Slot} (hR : zz_R D dA base h n s H locs) (hl : lv_has ls 6 []) {r0 : Int32} {hF : zz_H} (hf : f_X10_comfort_50 h = some (r0, hF)) : W p l e rm_X10_comfort s m args below meth c H locs 0 0 (MQ below (zz_Qc D dA base (some (.int r0)) hF n) args s rm_X10_comfort.cells rm_X10_comfort.slots (fun q => base ≤ q)) (F0 m 50 ls []) := by
  have hx := X.1
  have hb := X.2.1
  have hown := X.2.2.2.2.1
  unfold f_X10_comfort_50 at hf
  refine lv_iconst (v := (0 : Int32)) hx hb dX10_comfort_50 (by decide) ?_
  cases hf
  exact zr_iret X hR dX10_comfort_51 (Nat.le_of_ble_eq_true rfl) (Nat.le_of_ble_eq_true rfl)
set_option maxHeartbeats 4000000 in
set_option maxRecDepth 100000 in
theorem bk_X10_comfort_43 {D : va_G} {dA : Nat → ClassId} {base t0 : Nat} {l : Launch} {p : Program} {e : Env} {s : State} {m : MethodId} {args : Array Value} {below : List Frame} {meth : Method} {c : Code} (X : zz_X D dA base t0 "SpringseatModel" cX10_comfort 6 (some .int) l p s m meth c) (hT : l.stackTraces = false) {a0 : Nat} {x1 : Int32} {x2 : Int32} {s0 : Int32} {s1 : (Option Nat)} {h : zz_H} {n : Nat} {H : Heap} {locs : List Loc} {ls : Array Slot} (hR : zz_R D dA base h n s H locs) (hl : lv_has ls 6 [(0, .ref a0), (1, .int x1), (2, .int x2)]) {r0 : Int32} {hF : zz_H} (hf : f_X10_comfort_43 a0 x1 x2 s0 s1 h = some (r0, hF)) : W p l e rm_X10_comfort s m args below meth c H locs 0 0 (MQ below (zz_Qc D dA base (some (.int r0)) hF n) args s rm_X10_comfort.cells rm_X10_comfort.slots (fun q => base ≤ q)) (F0 m 43 ls [.int s0, va_rf s1]) := by
  have hx := X.1
  have hb := X.2.1
  have hown := X.2.2.2.2.1
  unfold f_X10_comfort_43 at hf
  refine lv_iconst (v := (2 : Int32)) hx hb dX10_comfort_43 (by decide) ?_
  obtain ⟨b44, fs44, hr44, ho44, hf⟩ := zz_ob_i hf
  obtain ⟨v44, h44, hv44, hf⟩ := zz_b1_i hf
  refine zr_cV X hR hl.1 (As := [.int s0, .int (2 : Int32)]) (rest := []) (C := RX10) (T := TX10) (N := 34) (mt_X10_isThrown hT b44 s0 (2 : Int32) h n hv44) rfl ho44 mf_X10_isThrown q_1370 q_1372 qs_17 ⟨Nat.le_of_ble_eq_true rfl, Nat.le_of_ble_eq_true rfl⟩ ⟨Nat.le_of_ble_eq_true rfl, Nat.le_of_ble_eq_true rfl⟩ (by rw [hr44]; rfl) (Nat.le_of_ble_eq_true rfl) dX10_comfort_44 (fun H locs hR => ?_)
  refine W.eq (g2 := F0 m 47 ls [.int v44]) rfl ?_
  refine lv_if_eq (tgt := 52) hx hb dX10_comfort_47 (by decide) (fun c47 => ?_) (fun c47 => ?_)
  · replace hf := zz_pos c47 hf
    refine lv_iconst (v := (0 : Int32)) hx hb dX10_comfort_52 (by decide) ?_
    refine lv_istore_n (i := 3) (lv' := [(3, .int (0 : Int32)), (0, .ref a0), (1, .int x1), (2, .int x2)]) hx hb dX10_comfort_53 rfl hl (by decide) rfl (fun ls hl => ?_)
    refine lv_iconst (v := (0 : Int32)) hx hb dX10_comfort_54 (by decide) ?_
    refine lv_istore (i := 4) (lv' := [(4, .int (0 : Int32)), (3, .int (0 : Int32)), (0, .ref a0), (1, .int x1), (2, .int x2)]) hx hb dX10_comfort_55 hl (by decide) rfl (fun ls hl => ?_)
    exact lp_X10_comfort_57 X hT a0 x1 x2 zz_F _ _ hf hR (lv_sub hl [2, 3, 4, 1, 0] rfl)
  · replace hf := zz_neg c47 hf
    exact bk_X10_comfort_50 X hT hR (lv_sub hl [] rfl) hf
set_option maxHeartbeats 4000000 in
set_option maxRecDepth 100000 in
theorem bk_X10_comfort_22 {D : va_G} {dA : Nat → ClassId} {base t0 : Nat} {l : Launch} {p : Program} {e : Env} {s : State} {m : MethodId} {args : Array Value} {below : List Frame} {meth : Method} {c : Code} (X : zz_X D dA base t0 "SpringseatModel" cX10_comfort 6 (some .int) l p s m meth c) (hT : l.stackTraces = false) {a0 : Nat} {x1 : Int32} {x2 : Int32} {s0 : Int32} {s1 : (Option Nat)} {h : zz_H} {n : Nat} {H : Heap} {locs : List Loc} {ls : Array Slot} (hR : zz_R D dA base h n s H locs) (hl : lv_has ls 6 [(0, .ref a0), (1, .int x1), (2, .int x2)]) {r0 : Int32} {hF : zz_H} (hf : f_X10_comfort_22 a0 x1 x2 s0 s1 h = some (r0, hF)) : W p l e rm_X10_comfort s m args below meth c H locs 0 0 (MQ below (zz_Qc D dA base (some (.int r0)) hF n) args s rm_X10_comfort.cells rm_X10_comfort.slots (fun q => base ≤ q)) (F0 m 22 ls [.int s0, va_rf s1]) := by
  have hx := X.1
  have hb := X.2.1
  have hown := X.2.2.2.2.1
  unfold f_X10_comfort_22 at hf
  refine lv_iconst (v := (1 : Int32)) hx hb dX10_comfort_22 (by decide) ?_
  obtain ⟨b23, fs23, hr23, ho23, hf⟩ := zz_ob_i hf
  obtain ⟨v23, h23, hv23, hf⟩ := zz_b1_i hf
  refine zr_cV X hR hl.1 (As := [.int s0, .int (1 : Int32)]) (rest := []) (C := RX10) (T := TX10) (N := 34) (mt_X10_isThrown hT b23 s0 (1 : Int32) h n hv23) rfl ho23 mf_X10_isThrown q_1370 q_1372 qs_17 ⟨Nat.le_of_ble_eq_true rfl, Nat.le_of_ble_eq_true rfl⟩ ⟨Nat.le_of_ble_eq_true rfl, Nat.le_of_ble_eq_true rfl⟩ (by rw [hr23]; rfl) (Nat.le_of_ble_eq_true rfl) dX10_comfort_23 (fun H locs hR => ?_)
  refine W.eq (g2 := F0 m 26 ls [.int v23]) rfl ?_
  refine lv_if_ne (tgt := 50) hx hb dX10_comfort_26 (by decide) (fun c26 => ?_) (fun c26 => ?_)
  · replace hf := zz_neg c26 hf
    exact bk_X10_comfort_50 X hT hR (lv_sub hl [] rfl) hf
  · replace hf := zz_pos c26 hf
    refine lv_aload_n hx hb dX10_comfort_29 rfl (lv_at hl 0 rfl) ?_
    refine lv_aload_n hx hb dX10_comfort_30 rfl (lv_at hl 0 rfl) ?_
    refine lv_iload_n hx hb dX10_comfort_31 rfl (lv_at hl 2 rfl) ?_
    obtain ⟨fs32, ho32, hf⟩ := zz_obS_i hf
    obtain ⟨v32, hv32, hf⟩ := zz_b_i hf
    refine zr_cV X hR hl.1 (As := [.int x2]) (rest := [.ref a0]) (C := RX10) (T := TX10) (N := 34) (mt_X10_hasSprings hT a0 x2 h23 n hv32) rfl ho32 mf_X10_hasSprings q_1437 q_1439 qs_28 ⟨Nat.le_of_ble_eq_true rfl, Nat.le_of_ble_eq_true rfl⟩ ⟨Nat.le_of_ble_eq_true rfl, Nat.le_of_ble_eq_true rfl⟩ rfl (Nat.le_of_ble_eq_true rfl) dX10_comfort_32 (fun H locs hR => ?_)
    refine W.eq (g2 := F0 m 35 ls [.int v32, .ref a0]) rfl ?_
    refine lv_if_ne (tgt := 42) hx hb dX10_comfort_35 (by decide) (fun c35 => ?_) (fun c35 => ?_)
    · replace hf := zz_neg c35 hf
      refine lv_iconst (v := (0 : Int32)) hx hb dX10_comfort_42 (by decide) ?_
      exact bk_X10_comfort_43 X hT hR (lv_sub hl [0, 1, 2] rfl) hf
    · replace hf := zz_pos c35 hf
      refine lv_iconst (v := (1 : Int32)) hx hb dX10_comfort_38 (by decide) ?_
      refine lv_goto (tgt := 43) hx hb dX10_comfort_39 (by decide) ?_
      exact bk_X10_comfort_43 X hT hR (lv_sub hl [0, 1, 2] rfl) hf
set_option maxHeartbeats 4000000 in
set_option maxRecDepth 100000 in
theorem bk_X10_comfort_17 {D : va_G} {dA : Nat → ClassId} {base t0 : Nat} {l : Launch} {p : Program} {e : Env} {s : State} {m : MethodId} {args : Array Value} {below : List Frame} {meth : Method} {c : Code} (X : zz_X D dA base t0 "SpringseatModel" cX10_comfort 6 (some .int) l p s m meth c) (hT : l.stackTraces = false) {a0 : Nat} {x1 : Int32} {x2 : Int32} {s0 : (Option Nat)} {h : zz_H} {n : Nat} {H : Heap} {locs : List Loc} {ls : Array Slot} (hR : zz_R D dA base h n s H locs) (hl : lv_has ls 6 [(0, .ref a0), (1, .int x1), (2, .int x2)]) {r0 : Int32} {hF : zz_H} (hf : f_X10_comfort_17 a0 x1 x2 s0 h = some (r0, hF)) : W p l e rm_X10_comfort s m args below meth c H locs 0 0 (MQ below (zz_Qc D dA base (some (.int r0)) hF n) args s rm_X10_comfort.cells rm_X10_comfort.slots (fun q => base ≤ q)) (F0 m 17 ls [va_rf s0]) := by
  have hx := X.1
  have hb := X.2.1
  have hown := X.2.2.2.2.1
  unfold f_X10_comfort_17 at hf
  refine lv_iconst (v := (1 : Int32)) hx hb dX10_comfort_17 (by decide) ?_
  refine lv_goto (tgt := 22) hx hb dX10_comfort_18 (by decide) ?_
  exact bk_X10_comfort_22 X hT hR (lv_sub hl [0, 1, 2] rfl) hf
set_option maxHeartbeats 4000000 in
set_option maxRecDepth 100000 in
theorem mt_X10_comfort {D : va_G} {dA : Nat → ClassId} {base t0 : Nat} {l : Launch} (hT : l.stackTraces = false) (a0 : Nat) (x1 : Int32) (x2 : Int32) (h : zz_H) (n : Nat) {r0 : Int32} {hF : zz_H} (hf : f_X10_comfort a0 x1 x2 h = some (r0, hF)) : zz_M D dA base t0 l yX10_comfort cX10_comfort 6 (some .int) rm_X10_comfort [.ref a0, .int x1, .int x2] h n (some (.int r0)) hF n := by
  refine Met.ofW (cc := cX10_comfort) (maxL := 6) (ret := (some .int)) (by decide +kernel) rfl ?_
  intro p e s m args below meth c s₁ B hml hv
  obtain ⟨rfl, hP, hK⟩ := hv
  have X : zz_X D dA base t0 "SpringseatModel" cX10_comfort 6 (some .int) l p s m meth c := ⟨B.exec, B.bytes, hml, B.returns, findClass_of_methodNamed B.named, B.notSynchronized, hT, by rw [hP.1]; exact hP.2.1, hK⟩
  have hx := X.1
  have hb := X.2.1
  have hown := X.2.2.2.2.1
  have hR : zz_R D dA base h n s s.heap [] := ⟨hP, va_S.rf⟩
  have hl := lv_entry ([.ref a0, .int x1, .int x2]) (n := 6) (by exact Nat.le_of_ble_eq_true rfl)
  rw [lg_entry_eq]
  generalize (lg_sl ([.ref a0, .int x1, .int x2]) ++ List.replicate (6 - (lg_sl ([.ref a0, .int x1, .int x2])).length) Slot.unset).toArray = ls at hl ⊢
  have hl : lv_has ls 6 [(0, .ref a0), (1, .int x1), (2, .int x2)] := hl
  unfold f_X10_comfort at hf
  refine lv_aload_n hx hb dX10_comfort_0 rfl (lv_at hl 0 rfl) ?_
  refine lv_aload_n hx hb dX10_comfort_1 rfl (lv_at hl 0 rfl) ?_
  refine lv_iload_n hx hb dX10_comfort_2 rfl (lv_at hl 1 rfl) ?_
  obtain ⟨fs3, ho3, hf⟩ := zz_obS_i hf
  obtain ⟨v3, hv3, hf⟩ := zz_b_i hf
  refine zr_cV X hR hl.1 (As := [.int x1]) (rest := [.ref a0]) (C := RX10) (T := TX10) (N := 34) (mt_X10_isNoBody hT a0 x1 h n hv3) rfl ho3 mf_X10_isNoBody q_1551 q_1553 qs_37 ⟨Nat.le_of_ble_eq_true rfl, Nat.le_of_ble_eq_true rfl⟩ ⟨Nat.le_of_ble_eq_true rfl, Nat.le_of_ble_eq_true rfl⟩ rfl (Nat.le_of_ble_eq_true rfl) dX10_comfort_3 (fun H locs hR => ?_)
  refine W.eq (g2 := F0 m 6 ls [.int v3, .ref a0]) rfl ?_
  refine lv_if_ne (tgt := 17) hx hb dX10_comfort_6 (by decide) (fun c6 => ?_) (fun c6 => ?_)
  · replace hf := zz_neg c6 hf
    exact bk_X10_comfort_17 X hT hR (lv_sub hl [0, 1, 2] rfl) hf
  · replace hf := zz_pos c6 hf
    refine lv_aload_n hx hb dX10_comfort_9 rfl (lv_at hl 0 rfl) ?_
    refine lv_iload_n hx hb dX10_comfort_10 rfl (lv_at hl 2 rfl) ?_
    obtain ⟨fs11, ho11, hf⟩ := zz_obS_i hf
    obtain ⟨v11, hv11, hf⟩ := zz_b_i hf
    refine zr_cV X hR hl.1 (As := [.int x2]) (rest := [.ref a0]) (C := RX10) (T := TX10) (N := 34) (mt_X10_isNoSeat hT a0 x2 h n hv11) rfl ho11 mf_X10_isNoSeat q_1378 q_1380 qs_18 ⟨Nat.le_of_ble_eq_true rfl, Nat.le_of_ble_eq_true rfl⟩ ⟨Nat.le_of_ble_eq_true rfl, Nat.le_of_ble_eq_true rfl⟩ rfl (Nat.le_of_ble_eq_true rfl) dX10_comfort_11 (fun H locs hR => ?_)
    refine W.eq (g2 := F0 m 14 ls [.int v11, .ref a0]) rfl ?_
    refine lv_if_eq (tgt := 21) hx hb dX10_comfort_14 (by decide) (fun c14 => ?_) (fun c14 => ?_)
    · replace hf := zz_pos c14 hf
      refine lv_iconst (v := (0 : Int32)) hx hb dX10_comfort_21 (by decide) ?_
      exact bk_X10_comfort_22 X hT hR (lv_sub hl [0, 1, 2] rfl) hf
    · replace hf := zz_neg c14 hf
      exact bk_X10_comfort_17 X hT hR (lv_sub hl [0, 1, 2] rfl) hf
def rm_X10_fit : Room := { frames := 4, cells := 0, slots := 0, locals := 99 }
theorem mf_X10_fit : zz_Mf yX10_fit cX10_fit 7 (some .int) 3 := ⟨q_1582, q_11, by decide +kernel, by decide +kernel, by decide +kernel⟩
set_option maxHeartbeats 4000000 in
set_option maxRecDepth 100000 in
theorem bk_X10_fit_80 {D : va_G} {dA : Nat → ClassId} {base t0 : Nat} {l : Launch} {p : Program} {e : Env} {s : State} {m : MethodId} {args : Array Value} {below : List Frame} {meth : Method} {c : Code} (X : zz_X D dA base t0 "SpringseatModel" cX10_fit 7 (some .int) l p s m meth c) (hT : l.stackTraces = false) {a0 : Nat} {x1 : Int32} {x2 : Int32} {x3 : Int32} {x4 : Int32} {x5 : Int32} {x6 : Int32} {h : zz_H} {n : Nat} {H : Heap} {locs : List Loc} {ls : Array Slot} (hR : zz_R D dA base h n s H locs) (hl : lv_has ls 7 [(0, .ref a0), (1, .int x1), (2, .int x2), (3, .int x3), (4, .int x4), (5, .int x5), (6, .int x6)]) {r0 : Int32} {hF : zz_H} {o : ((Int32 × Int32) ⊕ ((Int32 × Int32) ⊕ (Int32 × zz_H)))} (hf : f_X10_fit_80 a0 x1 x2 x3 x4 x5 x6 h = some o) (k0 : ∀ (w4 : Int32) (w5 : Int32), o = (.inr (.inl (w4, w5))) → ∀ {H : Heap} {locs : List Loc} {ls : Array Slot}, zz_R D dA base h n s H locs → lv_has ls 7 [(0, .ref a0), (1, .int x1), (2, .int x2), (3, .int x3), (4, .int w4), (5, .int w5)] → W p l e rm_X10_fit s m args below meth c H locs 0 0 (MQ below (zz_Qc D dA base (some (.int r0)) hF n) args s rm_X10_fit.cells rm_X10_fit.slots (fun q => base ≤ q)) (F0 m 66 ls [])) (k1 : ∀ (w4 : Int32) (w6 : Int32), o = (.inl (w4, w6)) → ∀ {H : Heap} {locs : List Loc} {ls : Array Slot}, zz_R D dA base h n s H locs → lv_has ls 7 [(0, .ref a0), (1, .int x1), (2, .int x2), (3, .int x3), (4, .int w4), (5, .int x5), (6, .int w6)] → W p l e rm_X10_fit s m args below meth c H locs 0 0 (MQ below (zz_Qc D dA base (some (.int r0)) hF n) args s rm_X10_fit.cells rm_X10_fit.slots (fun q => base ≤ q)) (F0 m 80 ls [])) (hret : ∀ r, o = (.inr (.inr r)) → r = (r0, hF)) : W p l e rm_X10_fit s m args below meth c H locs 0 0 (MQ below (zz_Qc D dA base (some (.int r0)) hF n) args s rm_X10_fit.cells rm_X10_fit.slots (fun q => base ≤ q)) (F0 m 80 ls []) := by
  have hx := X.1
  have hb := X.2.1
  have hown := X.2.2.2.2.1
  unfold f_X10_fit_80 at hf
  refine lv_iload hx hb dX10_fit_80 (lv_at hl 6 rfl) ?_
  refine lv_aload_n hx hb dX10_fit_82 rfl (lv_at hl 0 rfl) ?_
  refine zr_gq X hR (r := (some a0)) fl_X10_13 dX10_fit_83 hf (fun v83 hf => ?_)
  refine lv_iload_n hx hb dX10_fit_86 rfl (lv_at hl 3 rfl) ?_
  refine zr_iald X hR (r := v83) dX10_fit_87 hf (fun v87 hf => ?_)
  refine lv_icmp_ge (tgt := 126) hx hb dX10_fit_88 (by decide) (fun c88 => ?_) (fun c88 => ?_)
  · replace hf := zz_pos c88 hf
    refine lv_iinc (i := 5) (v := (x5 + (1 : Int32))) (lv' := [(5, .int (x5 + (1 : Int32))), (0, .ref a0), (1, .int x1), (2, .int x2), (3, .int x3), (4, .int x4), (6, .int x6)]) hx hb dX10_fit_126 hl (k := 5) rfl rfl (by decide) rfl (fun ls hl => ?_)
    refine lv_goto (tgt := 66) hx hb dX10_fit_129 (by decide) ?_
    cases hf
    exact k0 _ _ rfl hR (lv_sub hl [1, 2, 3, 4, 5, 0] rfl)
  · replace hf := zz_neg c88 hf
    refine lv_iload hx hb dX10_fit_91 (lv_at hl 4 rfl) ?_
    refine lv_aload_n hx hb dX10_fit_93 rfl (lv_at hl 0 rfl) ?_
    refine lv_iload_n hx hb dX10_fit_94 rfl (lv_at hl 1 rfl) ?_
    refine lv_iload_n hx hb dX10_fit_95 rfl (lv_at hl 3 rfl) ?_
    refine lv_iload hx hb dX10_fit_96 (lv_at hl 5 rfl) ?_
    refine lv_iload hx hb dX10_fit_98 (lv_at hl 6 rfl) ?_
    obtain ⟨fs100, ho100, hf⟩ := zz_obS_i hf
    obtain ⟨v100, hv100, hf⟩ := zz_b_i hf
    refine zr_cV X hR hl.1 (As := [.int x1, .int x3, .int x5, .int x6]) (rest := [.int x4]) (C := RX10) (T := TX10) (N := 34) (mt_X10_sinking hT a0 x1 x3 x5 x6 h n hv100) rfl ho100 mf_X10_sinking q_1559 q_1561 qs_38 ⟨Nat.le_of_ble_eq_true rfl, Nat.le_of_ble_eq_true rfl⟩ ⟨Nat.le_of_ble_eq_true rfl, Nat.le_of_ble_eq_true rfl⟩ rfl (Nat.le_of_ble_eq_true rfl) dX10_fit_100 (fun H locs hR => ?_)
    refine W.eq (g2 := F0 m 103 ls [.int v100, .int x4]) rfl ?_
    refine lv_aload_n hx hb dX10_fit_103 rfl (lv_at hl 0 rfl) ?_
    refine lv_iload_n hx hb dX10_fit_104 rfl (lv_at hl 2 rfl) ?_
    refine lv_iload_n hx hb dX10_fit_105 rfl (lv_at hl 3 rfl) ?_
    refine lv_iload hx hb dX10_fit_106 (lv_at hl 5 rfl) ?_
    refine lv_iload hx hb dX10_fit_108 (lv_at hl 6 rfl) ?_
    obtain ⟨fs110, ho110, hf⟩ := zz_obS_i hf
    obtain ⟨v110, hv110, hf⟩ := zz_b_i hf
    refine zr_cV X hR hl.1 (As := [.int x2, .int x3, .int x5, .int x6]) (rest := [.int v100, .int x4]) (C := RX10) (T := TX10) (N := 34) (mt_X10_sinking hT a0 x2 x3 x5 x6 h n hv110) rfl ho110 mf_X10_sinking q_1559 q_1561 qs_38 ⟨Nat.le_of_ble_eq_true rfl, Nat.le_of_ble_eq_true rfl⟩ ⟨Nat.le_of_ble_eq_true rfl, Nat.le_of_ble_eq_true rfl⟩ rfl (Nat.le_of_ble_eq_true rfl) dX10_fit_110 (fun H locs hR => ?_)
    refine W.eq (g2 := F0 m 113 ls [.int v110, .int v100, .int x4]) rfl ?_
    refine lv_isub hx hb dX10_fit_113 ?_
    refine zr_abs X hl.1 q_1442 q_333 q_8 q_334 (Nat.le_of_ble_eq_true rfl) ⟨Nat.le_of_ble_eq_true rfl, Nat.le_of_ble_eq_true rfl⟩ ⟨Nat.le_of_ble_eq_true rfl, Nat.le_of_ble_eq_true rfl⟩ dX10_fit_114 ?_
    refine W.eq (g2 := F0 m 117 ls [.int (zz_abs (v100 - v110)), .int x4]) rfl ?_
    refine lv_iadd hx hb dX10_fit_117 ?_
    refine lv_istore (i := 4) (lv' := [(4, .int (x4 + (zz_abs (v100 - v110)))), (0, .ref a0), (1, .int x1), (2, .int x2), (3, .int x3), (5, .int x5), (6, .int x6)]) hx hb dX10_fit_118 hl (by decide) rfl (fun ls hl => ?_)
    refine lv_iinc (i := 6) (v := (x6 + (1 : Int32))) (lv' := [(6, .int (x6 + (1 : Int32))), (4, .int (x4 + (zz_abs (v100 - v110)))), (0, .ref a0), (1, .int x1), (2, .int x2), (3, .int x3), (5, .int x5)]) hx hb dX10_fit_120 hl (k := 6) rfl rfl (by decide) rfl (fun ls hl => ?_)
    refine lv_goto (tgt := 80) hx hb dX10_fit_123 (by decide) ?_
    cases hf
    exact k1 _ _ rfl hR (lv_sub hl [2, 3, 4, 5, 1, 6, 0] rfl)
set_option maxHeartbeats 4000000 in
set_option maxRecDepth 100000 in
theorem lp_X10_fit_80 {D : va_G} {dA : Nat → ClassId} {base t0 : Nat} {l : Launch} {p : Program} {e : Env} {s : State} {m : MethodId} {args : Array Value} {below : List Frame} {meth : Method} {c : Code} (X : zz_X D dA base t0 "SpringseatModel" cX10_fit 7 (some .int) l p s m meth c) (hT : l.stackTraces = false) (a0 : Nat) (x1 : Int32) (x2 : Int32) (x3 : Int32) (x5 : Int32) {h : zz_H} {n : Nat} {r0 : Int32} {hF : zz_H} : ∀ (k : Nat) (x4 : Int32) (x6 : Int32) {o : ((Int32 × Int32) ⊕ (Int32 × zz_H))}, zz_it (fun s : (Int32 × Int32) => f_X10_fit_80 a0 x1 x2 x3 s.1 x5 s.2 h) k (x4, x6) = some o → (∀ (w4 : Int32) (w5 : Int32), o = (.inl (w4, w5)) → ∀ {H : Heap} {locs : List Loc} {ls : Array Slot}, zz_R D dA base h n s H locs → lv_has ls 7 [(0, .ref a0), (1, .int x1), (2, .int x2), (3, .int x3), (4, .int w4), (5, .int w5)] → W p l e rm_X10_fit s m args below meth c H locs 0 0 (MQ below (zz_Qc D dA base (some (.int r0)) hF n) args s rm_X10_fit.cells rm_X10_fit.slots (fun q => base ≤ q)) (F0 m 66 ls [])) → (∀ r, o = (.inr r) → r = (r0, hF)) → ∀ {H : Heap} {locs : List Loc} {ls : Array Slot}, zz_R D dA base h n s H locs → lv_has ls 7 [(0, .ref a0), (1, .int x1), (2, .int x2), (3, .int x3), (4, .int x4), (5, .int x5), (6, .int x6)] → W p l e rm_X10_fit s m args below meth c H locs 0 0 (MQ below (zz_Qc D dA base (some (.int r0)) hF n) args s rm_X10_fit.cells rm_X10_fit.slots (fun q => base ≤ q)) (F0 m 80 ls []) := by
  intro k
  induction k with
  | zero => intro x4 x6 o hf _ _; cases hf
  | succ k ih =>
    intro x4 x6 o hf k0 hret H locs ls hR hl
    rcases zz_it_s hf with ⟨⟨y0, y1⟩, h1, h2⟩ | h1
    · exact bk_X10_fit_80 (r0 := r0) X hT hR hl h1 (fun z0 z1 e => by cases e) (fun z0 z1 e => by cases e; exact ih _ _ h2 k0 hret) (fun r e => by cases e)
    · exact bk_X10_fit_80 (r0 := r0) X hT hR hl h1 (fun z0 z1 e => k0 z0 z1 (Sum.inr.inj e)) (fun z0 z1 e => by cases e) (fun r e => hret r (Sum.inr.inj e))
set_option maxHeartbeats 4000000 in
set_option maxRecDepth 100000 in
theorem bk_X10_fit_66 {D : va_G} {dA : Nat → ClassId} {base t0 : Nat} {l : Launch} {p : Program} {e : Env} {s : State} {m : MethodId} {args : Array Value} {below : List Frame} {meth : Method} {c : Code} (X : zz_X D dA base t0 "SpringseatModel" cX10_fit 7 (some .int) l p s m meth c) (hT : l.stackTraces = false) {a0 : Nat} {x1 : Int32} {x2 : Int32} {x3 : Int32} {x4 : Int32} {x5 : Int32} {h : zz_H} {n : Nat} {H : Heap} {locs : List Loc} {ls : Array Slot} (hR : zz_R D dA base h n s H locs) (hl : lv_has ls 7 [(0, .ref a0), (1, .int x1), (2, .int x2), (3, .int x3), (4, .int x4), (5, .int x5)]) {r0 : Int32} {hF : zz_H} {o : ((Int32 × Int32) ⊕ (Int32 × zz_H))} (hf : f_X10_fit_66 a0 x1 x2 x3 x4 x5 h = some o) (k0 : ∀ (w4 : Int32) (w5 : Int32), o = (.inl (w4, w5)) → ∀ {H : Heap} {locs : List Loc} {ls : Array Slot}, zz_R D dA base h n s H locs → lv_has ls 7 [(0, .ref a0), (1, .int x1), (2, .int x2), (3, .int x3), (4, .int w4), (5, .int w5)] → W p l e rm_X10_fit s m args below meth c H locs 0 0 (MQ below (zz_Qc D dA base (some (.int r0)) hF n) args s rm_X10_fit.cells rm_X10_fit.slots (fun q => base ≤ q)) (F0 m 66 ls [])) (hret : ∀ r, o = (.inr r) → r = (r0, hF)) : W p l e rm_X10_fit s m args below meth c H locs 0 0 (MQ below (zz_Qc D dA base (some (.int r0)) hF n) args s rm_X10_fit.cells rm_X10_fit.slots (fun q => base ≤ q)) (F0 m 66 ls []) := by
  have hx := X.1
  have hb := X.2.1
  have hown := X.2.2.2.2.1
  unfold f_X10_fit_66 at hf
  refine lv_iload hx hb dX10_fit_66 (lv_at hl 5 rfl) ?_
  refine lv_aload_n hx hb dX10_fit_68 rfl (lv_at hl 0 rfl) ?_
  refine zr_gq X hR (r := (some a0)) fl_X10_9 dX10_fit_69 hf (fun v69 hf => ?_)
  refine lv_iload_n hx hb dX10_fit_72 rfl (lv_at hl 3 rfl) ?_
  refine zr_iald X hR (r := v69) dX10_fit_73 hf (fun v73 hf => ?_)
  refine lv_icmp_ge (tgt := 132) hx hb dX10_fit_74 (by decide) (fun c74 => ?_) (fun c74 => ?_)
  · replace hf := zz_pos c74 hf
    refine lv_iload hx hb dX10_fit_132 (lv_at hl 4 rfl) ?_
    cases hf
    cases hret _ rfl
    exact zr_iret X hR dX10_fit_134 (Nat.le_of_ble_eq_true rfl) (Nat.le_of_ble_eq_true rfl)
  · replace hf := zz_neg c74 hf
    refine lv_iconst (v := (0 : Int32)) hx hb dX10_fit_77 (by decide) ?_
    refine lv_istore (i := 6) (lv' := [(6, .int (0 : Int32)), (0, .ref a0), (1, .int x1), (2, .int x2), (3, .int x3), (4, .int x4), (5, .int x5)]) hx hb dX10_fit_78 hl (by decide) rfl (fun ls hl => ?_)
    exact lp_X10_fit_80 X hT a0 x1 x2 x3 x5 zz_F _ _ hf k0 hret hR (lv_sub hl [1, 2, 3, 4, 5, 6, 0] rfl)
set_option maxHeartbeats 4000000 in
set_option maxRecDepth 100000 in
theorem lp_X10_fit_66 {D : va_G} {dA : Nat → ClassId} {base t0 : Nat} {l : Launch} {p : Program} {e : Env} {s : State} {m : MethodId} {args : Array Value} {below : List Frame} {meth : Method} {c : Code} (X : zz_X D dA base t0 "SpringseatModel" cX10_fit 7 (some .int) l p s m meth c) (hT : l.stackTraces = false) (a0 : Nat) (x1 : Int32) (x2 : Int32) (x3 : Int32) {h : zz_H} {n : Nat} {r0 : Int32} {hF : zz_H} : ∀ (k : Nat) (x4 : Int32) (x5 : Int32), zz_it (fun s : (Int32 × Int32) => f_X10_fit_66 a0 x1 x2 x3 s.1 s.2 h) k (x4, x5) = some (r0, hF) → ∀ {H : Heap} {locs : List Loc} {ls : Array Slot}, zz_R D dA base h n s H locs → lv_has ls 7 [(0, .ref a0), (1, .int x1), (2, .int x2), (3, .int x3), (4, .int x4), (5, .int x5)] → W p l e rm_X10_fit s m args below meth c H locs 0 0 (MQ below (zz_Qc D dA base (some (.int r0)) hF n) args s rm_X10_fit.cells rm_X10_fit.slots (fun q => base ≤ q)) (F0 m 66 ls []) := by
  intro k
  induction k with
  | zero => intro x4 x5 hf; cases hf
  | succ k ih =>
    intro x4 x5 hf H locs ls hR hl
    rcases zz_it_s hf with ⟨⟨y0, y1⟩, h1, h2⟩ | h1
    · exact bk_X10_fit_66 (r0 := r0) X hT hR hl h1  (fun z0 z1 e => by cases e; exact ih _ _ h2) (fun r e => by cases e)
    · exact bk_X10_fit_66 (r0 := r0) X hT hR hl h1  (fun z0 z1 e => by cases e) (fun r e => (Sum.inr.inj e).symm)
set_option maxHeartbeats 4000000 in
set_option maxRecDepth 100000 in
theorem bk_X10_fit_58 {D : va_G} {dA : Nat → ClassId} {base t0 : Nat} {l : Launch} {p : Program} {e : Env} {s : State} {m : MethodId} {args : Array Value} {below : List Frame} {meth : Method} {c : Code} (X : zz_X D dA base t0 "SpringseatModel" cX10_fit 7 (some .int) l p s m meth c) (hT : l.stackTraces = false) {h : zz_H} {n : Nat} {H : Heap} {locs : List Loc} {ls : Array Slot} (hR : zz_R D dA base h n s H locs) (hl : lv_has ls 7 []) {r0 : Int32} {hF : zz_H} (hf : f_X10_fit_58 h = some (r0, hF)) : W p l e rm_X10_fit s m args below meth c H locs 0 0 (MQ below (zz_Qc D dA base (some (.int r0)) hF n) args s rm_X10_fit.cells rm_X10_fit.slots (fun q => base ≤ q)) (F0 m 58 ls []) := by
  have hx := X.1
  have hb := X.2.1
  have hown := X.2.2.2.2.1
  unfold f_X10_fit_58 at hf
  refine lv_iconst (v := (0 : Int32)) hx hb dX10_fit_58 (by decide) ?_
  cases hf
  exact zr_iret X hR dX10_fit_59 (Nat.le_of_ble_eq_true rfl) (Nat.le_of_ble_eq_true rfl)
set_option maxHeartbeats 4000000 in
set_option maxRecDepth 100000 in
theorem bk_X10_fit_51 {D : va_G} {dA : Nat → ClassId} {base t0 : Nat} {l : Launch} {p : Program} {e : Env} {s : State} {m : MethodId} {args : Array Value} {below : List Frame} {meth : Method} {c : Code} (X : zz_X D dA base t0 "SpringseatModel" cX10_fit 7 (some .int) l p s m meth c) (hT : l.stackTraces = false) {a0 : Nat} {x1 : Int32} {x2 : Int32} {x3 : Int32} {s0 : Int32} {s1 : (Option Nat)} {h : zz_H} {n : Nat} {H : Heap} {locs : List Loc} {ls : Array Slot} (hR : zz_R D dA base h n s H locs) (hl : lv_has ls 7 [(0, .ref a0), (1, .int x1), (2, .int x2), (3, .int x3)]) {r0 : Int32} {hF : zz_H} (hf : f_X10_fit_51 a0 x1 x2 x3 s0 s1 h = some (r0, hF)) : W p l e rm_X10_fit s m args below meth c H locs 0 0 (MQ below (zz_Qc D dA base (some (.int r0)) hF n) args s rm_X10_fit.cells rm_X10_fit.slots (fun q => base ≤ q)) (F0 m 51 ls [.int s0, va_rf s1]) := by
  have hx := X.1
  have hb := X.2.1
  have hown := X.2.2.2.2.1
  unfold f_X10_fit_51 at hf
  refine lv_iconst (v := (2 : Int32)) hx hb dX10_fit_51 (by decide) ?_
  obtain ⟨b52, fs52, hr52, ho52, hf⟩ := zz_ob_i hf
  obtain ⟨v52, h52, hv52, hf⟩ := zz_b1_i hf
  refine zr_cV X hR hl.1 (As := [.int s0, .int (2 : Int32)]) (rest := []) (C := RX10) (T := TX10) (N := 34) (mt_X10_isThrown hT b52 s0 (2 : Int32) h n hv52) rfl ho52 mf_X10_isThrown q_1370 q_1372 qs_17 ⟨Nat.le_of_ble_eq_true rfl, Nat.le_of_ble_eq_true rfl⟩ ⟨Nat.le_of_ble_eq_true rfl, Nat.le_of_ble_eq_true rfl⟩ (by rw [hr52]; rfl) (Nat.le_of_ble_eq_true rfl) dX10_fit_52 (fun H locs hR => ?_)
  refine W.eq (g2 := F0 m 55 ls [.int v52]) rfl ?_
  refine lv_if_eq (tgt := 60) hx hb dX10_fit_55 (by decide) (fun c55 => ?_) (fun c55 => ?_)
  · replace hf := zz_pos c55 hf
    refine lv_iconst (v := (0 : Int32)) hx hb dX10_fit_60 (by decide) ?_
    refine lv_istore (i := 4) (lv' := [(4, .int (0 : Int32)), (0, .ref a0), (1, .int x1), (2, .int x2), (3, .int x3)]) hx hb dX10_fit_61 hl (by decide) rfl (fun ls hl => ?_)
    refine lv_iconst (v := (0 : Int32)) hx hb dX10_fit_63 (by decide) ?_
    refine lv_istore (i := 5) (lv' := [(5, .int (0 : Int32)), (4, .int (0 : Int32)), (0, .ref a0), (1, .int x1), (2, .int x2), (3, .int x3)]) hx hb dX10_fit_64 hl (by decide) rfl (fun ls hl => ?_)
    exact lp_X10_fit_66 X hT a0 x1 x2 x3 zz_F _ _ hf hR (lv_sub hl [2, 3, 4, 5, 1, 0] rfl)
  · replace hf := zz_neg c55 hf
    exact bk_X10_fit_58 X hT hR (lv_sub hl [] rfl) hf
set_option maxHeartbeats 4000000 in
set_option maxRecDepth 100000 in
theorem bk_X10_fit_30 {D : va_G} {dA : Nat → ClassId} {base t0 : Nat} {l : Launch} {p : Program} {e : Env} {s : State} {m : MethodId} {args : Array Value} {below : List Frame} {meth : Method} {c : Code} (X : zz_X D dA base t0 "SpringseatModel" cX10_fit 7 (some .int) l p s m meth c) (hT : l.stackTraces = false) {a0 : Nat} {x1 : Int32} {x2 : Int32} {x3 : Int32} {s0 : Int32} {s1 : (Option Nat)} {h : zz_H} {n : Nat} {H : Heap} {locs : List Loc} {ls : Array Slot} (hR : zz_R D dA base h n s H locs) (hl : lv_has ls 7 [(0, .ref a0), (1, .int x1), (2, .int x2), (3, .int x3)]) {r0 : Int32} {hF : zz_H} (hf : f_X10_fit_30 a0 x1 x2 x3 s0 s1 h = some (r0, hF)) : W p l e rm_X10_fit s m args below meth c H locs 0 0 (MQ below (zz_Qc D dA base (some (.int r0)) hF n) args s rm_X10_fit.cells rm_X10_fit.slots (fun q => base ≤ q)) (F0 m 30 ls [.int s0, va_rf s1]) := by
  have hx := X.1
  have hb := X.2.1
  have hown := X.2.2.2.2.1
  unfold f_X10_fit_30 at hf
  refine lv_iconst (v := (1 : Int32)) hx hb dX10_fit_30 (by decide) ?_
  obtain ⟨b31, fs31, hr31, ho31, hf⟩ := zz_ob_i hf
  obtain ⟨v31, h31, hv31, hf⟩ := zz_b1_i hf
  refine zr_cV X hR hl.1 (As := [.int s0, .int (1 : Int32)]) (rest := []) (C := RX10) (T := TX10) (N := 34) (mt_X10_isThrown hT b31 s0 (1 : Int32) h n hv31) rfl ho31 mf_X10_isThrown q_1370 q_1372 qs_17 ⟨Nat.le_of_ble_eq_true rfl, Nat.le_of_ble_eq_true rfl⟩ ⟨Nat.le_of_ble_eq_true rfl, Nat.le_of_ble_eq_true rfl⟩ (by rw [hr31]; rfl) (Nat.le_of_ble_eq_true rfl) dX10_fit_31 (fun H locs hR => ?_)
  refine W.eq (g2 := F0 m 34 ls [.int v31]) rfl ?_
  refine lv_if_ne (tgt := 58) hx hb dX10_fit_34 (by decide) (fun c34 => ?_) (fun c34 => ?_)
  · replace hf := zz_neg c34 hf
    exact bk_X10_fit_58 X hT hR (lv_sub hl [] rfl) hf
  · replace hf := zz_pos c34 hf
    refine lv_aload_n hx hb dX10_fit_37 rfl (lv_at hl 0 rfl) ?_
    refine lv_aload_n hx hb dX10_fit_38 rfl (lv_at hl 0 rfl) ?_
    refine lv_iload_n hx hb dX10_fit_39 rfl (lv_at hl 3 rfl) ?_
    obtain ⟨fs40, ho40, hf⟩ := zz_obS_i hf
    obtain ⟨v40, hv40, hf⟩ := zz_b_i hf
    refine zr_cV X hR hl.1 (As := [.int x3]) (rest := [.ref a0]) (C := RX10) (T := TX10) (N := 34) (mt_X10_hasSprings hT a0 x3 h31 n hv40) rfl ho40 mf_X10_hasSprings q_1437 q_1439 qs_28 ⟨Nat.le_of_ble_eq_true rfl, Nat.le_of_ble_eq_true rfl⟩ ⟨Nat.le_of_ble_eq_true rfl, Nat.le_of_ble_eq_true rfl⟩ rfl (Nat.le_of_ble_eq_true rfl) dX10_fit_40 (fun H locs hR => ?_)
    refine W.eq (g2 := F0 m 43 ls [.int v40, .ref a0]) rfl ?_
    refine lv_if_ne (tgt := 50) hx hb dX10_fit_43 (by decide) (fun c43 => ?_) (fun c43 => ?_)
    · replace hf := zz_neg c43 hf
      refine lv_iconst (v := (0 : Int32)) hx hb dX10_fit_50 (by decide) ?_
      exact bk_X10_fit_51 X hT hR (lv_sub hl [0, 1, 2, 3] rfl) hf
    · replace hf := zz_pos c43 hf
      refine lv_iconst (v := (1 : Int32)) hx hb dX10_fit_46 (by decide) ?_
      refine lv_goto (tgt := 51) hx hb dX10_fit_47 (by decide) ?_
      exact bk_X10_fit_51 X hT hR (lv_sub hl [0, 1, 2, 3] rfl) hf
set_option maxHeartbeats 4000000 in
set_option maxRecDepth 100000 in
theorem bk_X10_fit_25 {D : va_G} {dA : Nat → ClassId} {base t0 : Nat} {l : Launch} {p : Program} {e : Env} {s : State} {m : MethodId} {args : Array Value} {below : List Frame} {meth : Method} {c : Code} (X : zz_X D dA base t0 "SpringseatModel" cX10_fit 7 (some .int) l p s m meth c) (hT : l.stackTraces = false) {a0 : Nat} {x1 : Int32} {x2 : Int32} {x3 : Int32} {s0 : (Option Nat)} {h : zz_H} {n : Nat} {H : Heap} {locs : List Loc} {ls : Array Slot} (hR : zz_R D dA base h n s H locs) (hl : lv_has ls 7 [(0, .ref a0), (1, .int x1), (2, .int x2), (3, .int x3)]) {r0 : Int32} {hF : zz_H} (hf : f_X10_fit_25 a0 x1 x2 x3 s0 h = some (r0, hF)) : W p l e rm_X10_fit s m args below meth c H locs 0 0 (MQ below (zz_Qc D dA base (some (.int r0)) hF n) args s rm_X10_fit.cells rm_X10_fit.slots (fun q => base ≤ q)) (F0 m 25 ls [va_rf s0]) := by
  have hx := X.1
  have hb := X.2.1
  have hown := X.2.2.2.2.1
  unfold f_X10_fit_25 at hf
  refine lv_iconst (v := (1 : Int32)) hx hb dX10_fit_25 (by decide) ?_
  refine lv_goto (tgt := 30) hx hb dX10_fit_26 (by decide) ?_
  exact bk_X10_fit_30 X hT hR (lv_sub hl [0, 1, 2, 3] rfl) hf
set_option maxHeartbeats 4000000 in
set_option maxRecDepth 100000 in
theorem mt_X10_fit {D : va_G} {dA : Nat → ClassId} {base t0 : Nat} {l : Launch} (hT : l.stackTraces = false) (a0 : Nat) (x1 : Int32) (x2 : Int32) (x3 : Int32) (h : zz_H) (n : Nat) {r0 : Int32} {hF : zz_H} (hf : f_X10_fit a0 x1 x2 x3 h = some (r0, hF)) : zz_M D dA base t0 l yX10_fit cX10_fit 7 (some .int) rm_X10_fit [.ref a0, .int x1, .int x2, .int x3] h n (some (.int r0)) hF n := by
  refine Met.ofW (cc := cX10_fit) (maxL := 7) (ret := (some .int)) (by decide +kernel) rfl ?_
  intro p e s m args below meth c s₁ B hml hv
  obtain ⟨rfl, hP, hK⟩ := hv
  have X : zz_X D dA base t0 "SpringseatModel" cX10_fit 7 (some .int) l p s m meth c := ⟨B.exec, B.bytes, hml, B.returns, findClass_of_methodNamed B.named, B.notSynchronized, hT, by rw [hP.1]; exact hP.2.1, hK⟩
  have hx := X.1
  have hb := X.2.1
  have hown := X.2.2.2.2.1
  have hR : zz_R D dA base h n s s.heap [] := ⟨hP, va_S.rf⟩
  have hl := lv_entry ([.ref a0, .int x1, .int x2, .int x3]) (n := 7) (by exact Nat.le_of_ble_eq_true rfl)
  rw [lg_entry_eq]
  generalize (lg_sl ([.ref a0, .int x1, .int x2, .int x3]) ++ List.replicate (7 - (lg_sl ([.ref a0, .int x1, .int x2, .int x3])).length) Slot.unset).toArray = ls at hl ⊢
  have hl : lv_has ls 7 [(0, .ref a0), (1, .int x1), (2, .int x2), (3, .int x3)] := hl
  unfold f_X10_fit at hf
  refine lv_aload_n hx hb dX10_fit_0 rfl (lv_at hl 0 rfl) ?_
  refine lv_aload_n hx hb dX10_fit_1 rfl (lv_at hl 0 rfl) ?_
  refine lv_iload_n hx hb dX10_fit_2 rfl (lv_at hl 1 rfl) ?_
  obtain ⟨fs3, ho3, hf⟩ := zz_obS_i hf
  obtain ⟨v3, hv3, hf⟩ := zz_b_i hf
  refine zr_cV X hR hl.1 (As := [.int x1]) (rest := [.ref a0]) (C := RX10) (T := TX10) (N := 34) (mt_X10_isNoBody hT a0 x1 h n hv3) rfl ho3 mf_X10_isNoBody q_1551 q_1553 qs_37 ⟨Nat.le_of_ble_eq_true rfl, Nat.le_of_ble_eq_true rfl⟩ ⟨Nat.le_of_ble_eq_true rfl, Nat.le_of_ble_eq_true rfl⟩ rfl (Nat.le_of_ble_eq_true rfl) dX10_fit_3 (fun H locs hR => ?_)
  refine W.eq (g2 := F0 m 6 ls [.int v3, .ref a0]) rfl ?_
  refine lv_if_ne (tgt := 25) hx hb dX10_fit_6 (by decide) (fun c6 => ?_) (fun c6 => ?_)
  · replace hf := zz_neg c6 hf
    exact bk_X10_fit_25 X hT hR (lv_sub hl [0, 1, 2, 3] rfl) hf
  · replace hf := zz_pos c6 hf
    refine lv_aload_n hx hb dX10_fit_9 rfl (lv_at hl 0 rfl) ?_
    refine lv_iload_n hx hb dX10_fit_10 rfl (lv_at hl 2 rfl) ?_
    obtain ⟨fs11, ho11, hf⟩ := zz_obS_i hf
    obtain ⟨v11, hv11, hf⟩ := zz_b_i hf
    refine zr_cV X hR hl.1 (As := [.int x2]) (rest := [.ref a0]) (C := RX10) (T := TX10) (N := 34) (mt_X10_isNoBody hT a0 x2 h n hv11) rfl ho11 mf_X10_isNoBody q_1551 q_1553 qs_37 ⟨Nat.le_of_ble_eq_true rfl, Nat.le_of_ble_eq_true rfl⟩ ⟨Nat.le_of_ble_eq_true rfl, Nat.le_of_ble_eq_true rfl⟩ rfl (Nat.le_of_ble_eq_true rfl) dX10_fit_11 (fun H locs hR => ?_)
    refine W.eq (g2 := F0 m 14 ls [.int v11, .ref a0]) rfl ?_
    refine lv_if_ne (tgt := 25) hx hb dX10_fit_14 (by decide) (fun c14 => ?_) (fun c14 => ?_)
    · replace hf := zz_neg c14 hf
      exact bk_X10_fit_25 X hT hR (lv_sub hl [0, 1, 2, 3] rfl) hf
    · replace hf := zz_pos c14 hf
      refine lv_aload_n hx hb dX10_fit_17 rfl (lv_at hl 0 rfl) ?_
      refine lv_iload_n hx hb dX10_fit_18 rfl (lv_at hl 3 rfl) ?_
      obtain ⟨fs19, ho19, hf⟩ := zz_obS_i hf
      obtain ⟨v19, hv19, hf⟩ := zz_b_i hf
      refine zr_cV X hR hl.1 (As := [.int x3]) (rest := [.ref a0]) (C := RX10) (T := TX10) (N := 34) (mt_X10_isNoSeat hT a0 x3 h n hv19) rfl ho19 mf_X10_isNoSeat q_1378 q_1380 qs_18 ⟨Nat.le_of_ble_eq_true rfl, Nat.le_of_ble_eq_true rfl⟩ ⟨Nat.le_of_ble_eq_true rfl, Nat.le_of_ble_eq_true rfl⟩ rfl (Nat.le_of_ble_eq_true rfl) dX10_fit_19 (fun H locs hR => ?_)
      refine W.eq (g2 := F0 m 22 ls [.int v19, .ref a0]) rfl ?_
      refine lv_if_eq (tgt := 29) hx hb dX10_fit_22 (by decide) (fun c22 => ?_) (fun c22 => ?_)
      · replace hf := zz_pos c22 hf
        refine lv_iconst (v := (0 : Int32)) hx hb dX10_fit_29 (by decide) ?_
        exact bk_X10_fit_30 X hT hR (lv_sub hl [0, 1, 2, 3] rfl) hf
      · replace hf := zz_neg c22 hf
        exact bk_X10_fit_25 X hT hR (lv_sub hl [0, 1, 2, 3] rfl) hf
def rm_X10_cloth : Room := { frames := 1, cells := 0, slots := 0, locals := 22 }
theorem mf_X10_cloth : zz_Mf yX10_cloth cX10_cloth 3 (some .int) 2 := ⟨q_1586, q_11, by decide +kernel, by decide +kernel, by decide +kernel⟩
set_option maxHeartbeats 4000000 in
set_option maxRecDepth 100000 in
theorem bk_X10_cloth_56 {D : va_G} {dA : Nat → ClassId} {base t0 : Nat} {l : Launch} {p : Program} {e : Env} {s : State} {m : MethodId} {args : Array Value} {below : List Frame} {meth : Method} {c : Code} (X : zz_X D dA base t0 "SpringseatModel" cX10_cloth 3 (some .int) l p s m meth c) (hT : l.stackTraces = false) {h : zz_H} {n : Nat} {H : Heap} {locs : List Loc} {ls : Array Slot} (hR : zz_R D dA base h n s H locs) (hl : lv_has ls 3 []) {r0 : Int32} {hF : zz_H} (hf : f_X10_cloth_56 h = some (r0, hF)) : W p l e rm_X10_cloth s m args below meth c H locs 0 0 (MQ below (zz_Qc D dA base (some (.int r0)) hF n) args s rm_X10_cloth.cells rm_X10_cloth.slots (fun q => base ≤ q)) (F0 m 56 ls []) := by
  have hx := X.1
  have hb := X.2.1
  have hown := X.2.2.2.2.1
  unfold f_X10_cloth_56 at hf
  refine lv_iconst (v := (0 : Int32)) hx hb dX10_cloth_56 (by decide) ?_
  cases hf
  exact zr_iret X hR dX10_cloth_57 (Nat.le_of_ble_eq_true rfl) (Nat.le_of_ble_eq_true rfl)
set_option maxHeartbeats 4000000 in
set_option maxRecDepth 100000 in
theorem bk_X10_cloth_49 {D : va_G} {dA : Nat → ClassId} {base t0 : Nat} {l : Launch} {p : Program} {e : Env} {s : State} {m : MethodId} {args : Array Value} {below : List Frame} {meth : Method} {c : Code} (X : zz_X D dA base t0 "SpringseatModel" cX10_cloth 3 (some .int) l p s m meth c) (hT : l.stackTraces = false) {a0 : Nat} {x1 : Int32} {x2 : Int32} {s0 : Int32} {s1 : (Option Nat)} {h : zz_H} {n : Nat} {H : Heap} {locs : List Loc} {ls : Array Slot} (hR : zz_R D dA base h n s H locs) (hl : lv_has ls 3 [(0, .ref a0), (1, .int x1), (2, .int x2)]) {r0 : Int32} {hF : zz_H} (hf : f_X10_cloth_49 a0 x1 x2 s0 s1 h = some (r0, hF)) : W p l e rm_X10_cloth s m args below meth c H locs 0 0 (MQ below (zz_Qc D dA base (some (.int r0)) hF n) args s rm_X10_cloth.cells rm_X10_cloth.slots (fun q => base ≤ q)) (F0 m 49 ls [.int s0, va_rf s1]) := by
  have hx := X.1
  have hb := X.2.1
  have hown := X.2.2.2.2.1
  unfold f_X10_cloth_49 at hf
  refine lv_iconst (v := (2 : Int32)) hx hb dX10_cloth_49 (by decide) ?_
  obtain ⟨b50, fs50, hr50, ho50, hf⟩ := zz_ob_i hf
  obtain ⟨v50, h50, hv50, hf⟩ := zz_b1_i hf
  refine zr_cV X hR hl.1 (As := [.int s0, .int (2 : Int32)]) (rest := []) (C := RX10) (T := TX10) (N := 34) (mt_X10_isThrown hT b50 s0 (2 : Int32) h n hv50) rfl ho50 mf_X10_isThrown q_1370 q_1372 qs_17 ⟨Nat.le_of_ble_eq_true rfl, Nat.le_of_ble_eq_true rfl⟩ ⟨Nat.le_of_ble_eq_true rfl, Nat.le_of_ble_eq_true rfl⟩ (by rw [hr50]; rfl) (Nat.le_of_ble_eq_true rfl) dX10_cloth_50 (fun H locs hR => ?_)
  refine W.eq (g2 := F0 m 53 ls [.int v50]) rfl ?_
  refine lv_if_eq (tgt := 58) hx hb dX10_cloth_53 (by decide) (fun c53 => ?_) (fun c53 => ?_)
  · replace hf := zz_pos c53 hf
    refine lv_aload_n hx hb dX10_cloth_58 rfl (lv_at hl 0 rfl) ?_
    refine zr_gq X hR (r := (some a0)) fl_X10_89 dX10_cloth_59 hf (fun v59 hf => ?_)
    refine lv_aload_n hx hb dX10_cloth_62 rfl (lv_at hl 0 rfl) ?_
    refine zr_gi X hR (r := (some a0)) fl_X10_179 dX10_cloth_63 hf (fun v63 hf => ?_)
    refine lv_iload_n hx hb dX10_cloth_66 rfl (lv_at hl 1 rfl) ?_
    refine zr_iast X hR (r := v59) dX10_cloth_67 hf (fun h67 H locs hf hR => ?_)
    refine lv_aload_n hx hb dX10_cloth_68 rfl (lv_at hl 0 rfl) ?_
    refine zr_gq X hR (r := (some a0)) fl_X10_92 dX10_cloth_69 hf (fun v69 hf => ?_)
    refine lv_aload_n hx hb dX10_cloth_72 rfl (lv_at hl 0 rfl) ?_
    refine zr_gi X hR (r := (some a0)) fl_X10_179 dX10_cloth_73 hf (fun v73 hf => ?_)
    refine lv_iload_n hx hb dX10_cloth_76 rfl (lv_at hl 2 rfl) ?_
    refine zr_iast X hR (r := v69) dX10_cloth_77 hf (fun h77 H locs hf hR => ?_)
    refine lv_aload_n hx hb dX10_cloth_78 rfl (lv_at hl 0 rfl) ?_
    refine lv_dup hx hb dX10_cloth_79 rfl ?_
    refine zr_gi X hR (r := (some a0)) fl_X10_179 dX10_cloth_80 hf (fun v80 hf => ?_)
    refine lv_iconst (v := (1 : Int32)) hx hb dX10_cloth_83 (by decide) ?_
    refine lv_iadd hx hb dX10_cloth_84 ?_
    refine zr_p X hR (r := (some a0)) (v := .int (v80 + (1 : Int32))) fl_X10_179 rfl dX10_cloth_85 rfl rfl hf (fun h85 H locs hf hR => ?_)
    refine lv_aload_n hx hb dX10_cloth_88 rfl (lv_at hl 0 rfl) ?_
    refine zr_gi X hR (r := (some a0)) fl_X10_179 dX10_cloth_89 hf (fun v89 hf => ?_)
    refine lv_iconst (v := (1 : Int32)) hx hb dX10_cloth_92 (by decide) ?_
    refine lv_isub hx hb dX10_cloth_93 ?_
    cases hf
    exact zr_iret X hR dX10_cloth_94 (Nat.le_of_ble_eq_true rfl) (Nat.le_of_ble_eq_true rfl)
  · replace hf := zz_neg c53 hf
    exact bk_X10_cloth_56 X hT hR (lv_sub hl [] rfl) hf
set_option maxHeartbeats 4000000 in
set_option maxRecDepth 100000 in
theorem bk_X10_cloth_28 {D : va_G} {dA : Nat → ClassId} {base t0 : Nat} {l : Launch} {p : Program} {e : Env} {s : State} {m : MethodId} {args : Array Value} {below : List Frame} {meth : Method} {c : Code} (X : zz_X D dA base t0 "SpringseatModel" cX10_cloth 3 (some .int) l p s m meth c) (hT : l.stackTraces = false) {a0 : Nat} {x1 : Int32} {x2 : Int32} {s0 : Int32} {s1 : (Option Nat)} {h : zz_H} {n : Nat} {H : Heap} {locs : List Loc} {ls : Array Slot} (hR : zz_R D dA base h n s H locs) (hl : lv_has ls 3 [(0, .ref a0), (1, .int x1), (2, .int x2)]) {r0 : Int32} {hF : zz_H} (hf : f_X10_cloth_28 a0 x1 x2 s0 s1 h = some (r0, hF)) : W p l e rm_X10_cloth s m args below meth c H locs 0 0 (MQ below (zz_Qc D dA base (some (.int r0)) hF n) args s rm_X10_cloth.cells rm_X10_cloth.slots (fun q => base ≤ q)) (F0 m 28 ls [.int s0, va_rf s1]) := by
  have hx := X.1
  have hb := X.2.1
  have hown := X.2.2.2.2.1
  unfold f_X10_cloth_28 at hf
  refine lv_iconst (v := (1 : Int32)) hx hb dX10_cloth_28 (by decide) ?_
  obtain ⟨b29, fs29, hr29, ho29, hf⟩ := zz_ob_i hf
  obtain ⟨v29, h29, hv29, hf⟩ := zz_b1_i hf
  refine zr_cV X hR hl.1 (As := [.int s0, .int (1 : Int32)]) (rest := []) (C := RX10) (T := TX10) (N := 34) (mt_X10_isThrown hT b29 s0 (1 : Int32) h n hv29) rfl ho29 mf_X10_isThrown q_1370 q_1372 qs_17 ⟨Nat.le_of_ble_eq_true rfl, Nat.le_of_ble_eq_true rfl⟩ ⟨Nat.le_of_ble_eq_true rfl, Nat.le_of_ble_eq_true rfl⟩ (by rw [hr29]; rfl) (Nat.le_of_ble_eq_true rfl) dX10_cloth_29 (fun H locs hR => ?_)
  refine W.eq (g2 := F0 m 32 ls [.int v29]) rfl ?_
  refine lv_if_ne (tgt := 56) hx hb dX10_cloth_32 (by decide) (fun c32 => ?_) (fun c32 => ?_)
  · replace hf := zz_neg c32 hf
    exact bk_X10_cloth_56 X hT hR (lv_sub hl [] rfl) hf
  · replace hf := zz_pos c32 hf
    refine lv_aload_n hx hb dX10_cloth_35 rfl (lv_at hl 0 rfl) ?_
    refine lv_aload_n hx hb dX10_cloth_36 rfl (lv_at hl 0 rfl) ?_
    refine zr_gi X hR (r := (some a0)) fl_X10_179 dX10_cloth_37 hf (fun v37 hf => ?_)
    refine lv_iconst (v := (4 : Int32)) hx hb dX10_cloth_40 (by decide) ?_
    refine lv_icmp_ne (tgt := 48) hx hb dX10_cloth_41 (by decide) (fun c41 => ?_) (fun c41 => ?_)
    · replace hf := zz_neg c41 hf
      refine lv_iconst (v := (0 : Int32)) hx hb dX10_cloth_48 (by decide) ?_
      exact bk_X10_cloth_49 X hT hR (lv_sub hl [0, 1, 2] rfl) hf
    · replace hf := zz_pos c41 hf
      refine lv_iconst (v := (1 : Int32)) hx hb dX10_cloth_44 (by decide) ?_
      refine lv_goto (tgt := 49) hx hb dX10_cloth_45 (by decide) ?_
      exact bk_X10_cloth_49 X hT hR (lv_sub hl [0, 1, 2] rfl) hf
set_option maxHeartbeats 4000000 in
set_option maxRecDepth 100000 in
theorem bk_X10_cloth_23 {D : va_G} {dA : Nat → ClassId} {base t0 : Nat} {l : Launch} {p : Program} {e : Env} {s : State} {m : MethodId} {args : Array Value} {below : List Frame} {meth : Method} {c : Code} (X : zz_X D dA base t0 "SpringseatModel" cX10_cloth 3 (some .int) l p s m meth c) (hT : l.stackTraces = false) {a0 : Nat} {x1 : Int32} {x2 : Int32} {s0 : (Option Nat)} {h : zz_H} {n : Nat} {H : Heap} {locs : List Loc} {ls : Array Slot} (hR : zz_R D dA base h n s H locs) (hl : lv_has ls 3 [(0, .ref a0), (1, .int x1), (2, .int x2)]) {r0 : Int32} {hF : zz_H} (hf : f_X10_cloth_23 a0 x1 x2 s0 h = some (r0, hF)) : W p l e rm_X10_cloth s m args below meth c H locs 0 0 (MQ below (zz_Qc D dA base (some (.int r0)) hF n) args s rm_X10_cloth.cells rm_X10_cloth.slots (fun q => base ≤ q)) (F0 m 23 ls [va_rf s0]) := by
  have hx := X.1
  have hb := X.2.1
  have hown := X.2.2.2.2.1
  unfold f_X10_cloth_23 at hf
  refine lv_iconst (v := (1 : Int32)) hx hb dX10_cloth_23 (by decide) ?_
  refine lv_goto (tgt := 28) hx hb dX10_cloth_24 (by decide) ?_
  exact bk_X10_cloth_28 X hT hR (lv_sub hl [0, 1, 2] rfl) hf
set_option maxHeartbeats 4000000 in
set_option maxRecDepth 100000 in
theorem mt_X10_cloth {D : va_G} {dA : Nat → ClassId} {base t0 : Nat} {l : Launch} (hT : l.stackTraces = false) (a0 : Nat) (x1 : Int32) (x2 : Int32) (h : zz_H) (n : Nat) {r0 : Int32} {hF : zz_H} (hf : f_X10_cloth a0 x1 x2 h = some (r0, hF)) : zz_M D dA base t0 l yX10_cloth cX10_cloth 3 (some .int) rm_X10_cloth [.ref a0, .int x1, .int x2] h n (some (.int r0)) hF n := by
  refine Met.ofW (cc := cX10_cloth) (maxL := 3) (ret := (some .int)) (by decide +kernel) rfl ?_
  intro p e s m args below meth c s₁ B hml hv
  obtain ⟨rfl, hP, hK⟩ := hv
  have X : zz_X D dA base t0 "SpringseatModel" cX10_cloth 3 (some .int) l p s m meth c := ⟨B.exec, B.bytes, hml, B.returns, findClass_of_methodNamed B.named, B.notSynchronized, hT, by rw [hP.1]; exact hP.2.1, hK⟩
  have hx := X.1
  have hb := X.2.1
  have hown := X.2.2.2.2.1
  have hR : zz_R D dA base h n s s.heap [] := ⟨hP, va_S.rf⟩
  have hl := lv_entry ([.ref a0, .int x1, .int x2]) (n := 3) (by exact Nat.le_of_ble_eq_true rfl)
  rw [lg_entry_eq]
  generalize (lg_sl ([.ref a0, .int x1, .int x2]) ++ List.replicate (3 - (lg_sl ([.ref a0, .int x1, .int x2])).length) Slot.unset).toArray = ls at hl ⊢
  have hl : lv_has ls 3 [(0, .ref a0), (1, .int x1), (2, .int x2)] := hl
  unfold f_X10_cloth at hf
  refine lv_aload_n hx hb dX10_cloth_0 rfl (lv_at hl 0 rfl) ?_
  refine lv_iload_n hx hb dX10_cloth_1 rfl (lv_at hl 1 rfl) ?_
  refine lv_bipush (v := (50 : Int32)) hx hb dX10_cloth_2 (by decide) ?_
  refine lv_sipush (v := (2000 : Int32)) hx hb dX10_cloth_4 (by decide) ?_
  obtain ⟨v7, hv7, hf⟩ := zz_b_i hf
  refine zr_cS X hR hl.1 (As := [.int x1, .int (50 : Int32), .int (2000 : Int32)]) (rest := [.ref a0]) (mt_X10_isIn hT x1 (50 : Int32) (2000 : Int32) h n hv7) mf_X10_isIn q_1367 q_1368 ⟨Nat.le_of_ble_eq_true rfl, Nat.le_of_ble_eq_true rfl⟩ ⟨Nat.le_of_ble_eq_true rfl, Nat.le_of_ble_eq_true rfl⟩ rfl (Nat.le_of_ble_eq_true rfl) dX10_cloth_7 (fun H locs hR => ?_)
  refine W.eq (g2 := F0 m 10 ls [.int v7, .ref a0]) rfl ?_
  refine lv_if_eq (tgt := 23) hx hb dX10_cloth_10 (by decide) (fun c10 => ?_) (fun c10 => ?_)
  · replace hf := zz_pos c10 hf
    exact bk_X10_cloth_23 X hT hR (lv_sub hl [0, 1, 2] rfl) hf
  · replace hf := zz_neg c10 hf
    refine lv_iload_n hx hb dX10_cloth_13 rfl (lv_at hl 2 rfl) ?_
    refine lv_iconst (v := (1 : Int32)) hx hb dX10_cloth_14 (by decide) ?_
    refine lv_bipush (v := (60 : Int32)) hx hb dX10_cloth_15 (by decide) ?_
    obtain ⟨v17, hv17, hf⟩ := zz_b_i hf
    refine zr_cS X hR hl.1 (As := [.int x2, .int (1 : Int32), .int (60 : Int32)]) (rest := [.ref a0]) (mt_X10_isIn hT x2 (1 : Int32) (60 : Int32) h n hv17) mf_X10_isIn q_1367 q_1368 ⟨Nat.le_of_ble_eq_true rfl, Nat.le_of_ble_eq_true rfl⟩ ⟨Nat.le_of_ble_eq_true rfl, Nat.le_of_ble_eq_true rfl⟩ rfl (Nat.le_of_ble_eq_true rfl) dX10_cloth_17 (fun H locs hR => ?_)
    refine W.eq (g2 := F0 m 20 ls [.int v17, .ref a0]) rfl ?_
    refine lv_if_ne (tgt := 27) hx hb dX10_cloth_20 (by decide) (fun c20 => ?_) (fun c20 => ?_)
    · replace hf := zz_neg c20 hf
      refine lv_iconst (v := (0 : Int32)) hx hb dX10_cloth_27 (by decide) ?_
      exact bk_X10_cloth_28 X hT hR (lv_sub hl [0, 1, 2] rfl) hf
    · replace hf := zz_pos c20 hf
      exact bk_X10_cloth_23 X hT hR (lv_sub hl [0, 1, 2] rfl) hf
def rm_X10_flaw : Room := { frames := 1, cells := 0, slots := 0, locals := 22 }
theorem mf_X10_flaw : zz_Mf yX10_flaw cX10_flaw 5 (some .int) 2 := ⟨q_1590, q_11, by decide +kernel, by decide +kernel, by decide +kernel⟩
set_option maxHeartbeats 4000000 in
set_option maxRecDepth 100000 in
theorem bk_X10_flaw_135 {D : va_G} {dA : Nat → ClassId} {base t0 : Nat} {l : Launch} {p : Program} {e : Env} {s : State} {m : MethodId} {args : Array Value} {below : List Frame} {meth : Method} {c : Code} (X : zz_X D dA base t0 "SpringseatModel" cX10_flaw 5 (some .int) l p s m meth c) (hT : l.stackTraces = false) {h : zz_H} {n : Nat} {H : Heap} {locs : List Loc} {ls : Array Slot} (hR : zz_R D dA base h n s H locs) (hl : lv_has ls 5 []) {r0 : Int32} {hF : zz_H} (hf : f_X10_flaw_135 h = some (r0, hF)) : W p l e rm_X10_flaw s m args below meth c H locs 0 0 (MQ below (zz_Qc D dA base (some (.int r0)) hF n) args s rm_X10_flaw.cells rm_X10_flaw.slots (fun q => base ≤ q)) (F0 m 135 ls []) := by
  have hx := X.1
  have hb := X.2.1
  have hown := X.2.2.2.2.1
  unfold f_X10_flaw_135 at hf
  refine lv_iconst (v := (0 : Int32)) hx hb dX10_flaw_135 (by decide) ?_
  cases hf
  exact zr_iret X hR dX10_flaw_136 (Nat.le_of_ble_eq_true rfl) (Nat.le_of_ble_eq_true rfl)
set_option maxHeartbeats 4000000 in
set_option maxRecDepth 100000 in
theorem bk_X10_flaw_128 {D : va_G} {dA : Nat → ClassId} {base t0 : Nat} {l : Launch} {p : Program} {e : Env} {s : State} {m : MethodId} {args : Array Value} {below : List Frame} {meth : Method} {c : Code} (X : zz_X D dA base t0 "SpringseatModel" cX10_flaw 5 (some .int) l p s m meth c) (hT : l.stackTraces = false) {a0 : Nat} {x1 : Int32} {x2 : Int32} {s0 : Int32} {s1 : (Option Nat)} {h : zz_H} {n : Nat} {H : Heap} {locs : List Loc} {ls : Array Slot} (hR : zz_R D dA base h n s H locs) (hl : lv_has ls 5 [(0, .ref a0), (1, .int x1), (2, .int x2)]) {r0 : Int32} {hF : zz_H} (hf : f_X10_flaw_128 a0 x1 x2 s0 s1 h = some (r0, hF)) : W p l e rm_X10_flaw s m args below meth c H locs 0 0 (MQ below (zz_Qc D dA base (some (.int r0)) hF n) args s rm_X10_flaw.cells rm_X10_flaw.slots (fun q => base ≤ q)) (F0 m 128 ls [.int s0, va_rf s1]) := by
  have hx := X.1
  have hb := X.2.1
  have hown := X.2.2.2.2.1
  unfold f_X10_flaw_128 at hf
  refine lv_iconst (v := (3 : Int32)) hx hb dX10_flaw_128 (by decide) ?_
  obtain ⟨b129, fs129, hr129, ho129, hf⟩ := zz_ob_i hf
  obtain ⟨v129, h129, hv129, hf⟩ := zz_b1_i hf
  refine zr_cV X hR hl.1 (As := [.int s0, .int (3 : Int32)]) (rest := []) (C := RX10) (T := TX10) (N := 34) (mt_X10_isThrown hT b129 s0 (3 : Int32) h n hv129) rfl ho129 mf_X10_isThrown q_1370 q_1372 qs_17 ⟨Nat.le_of_ble_eq_true rfl, Nat.le_of_ble_eq_true rfl⟩ ⟨Nat.le_of_ble_eq_true rfl, Nat.le_of_ble_eq_true rfl⟩ (by rw [hr129]; rfl) (Nat.le_of_ble_eq_true rfl) dX10_flaw_129 (fun H locs hR => ?_)
  refine W.eq (g2 := F0 m 132 ls [.int v129]) rfl ?_
  refine lv_if_eq (tgt := 137) hx hb dX10_flaw_132 (by decide) (fun c132 => ?_) (fun c132 => ?_)
  · replace hf := zz_pos c132 hf
    refine lv_aload_n hx hb dX10_flaw_137 rfl (lv_at hl 0 rfl) ?_
    refine zr_gq X hR (r := (some a0)) fl_X10_101 dX10_flaw_138 hf (fun v138 hf => ?_)
    refine lv_iload_n hx hb dX10_flaw_141 rfl (lv_at hl 1 rfl) ?_
    refine zr_aald X hR (t := 6) (r := v138) (by decide) rfl dX10_flaw_142 hf (fun v142 hf => ?_)
    refine lv_aload_n hx hb dX10_flaw_143 rfl (lv_at hl 0 rfl) ?_
    refine zr_gq X hR (r := (some a0)) fl_X10_98 dX10_flaw_144 hf (fun v144 hf => ?_)
    refine lv_iload_n hx hb dX10_flaw_147 rfl (lv_at hl 1 rfl) ?_
    refine zr_iald X hR (r := v144) dX10_flaw_148 hf (fun v148 hf => ?_)
    refine lv_iload_n hx hb dX10_flaw_149 rfl (lv_at hl 2 rfl) ?_
    refine zr_iast X hR (r := v142) dX10_flaw_150 hf (fun h150 H locs hf hR => ?_)
    refine lv_aload_n hx hb dX10_flaw_151 rfl (lv_at hl 0 rfl) ?_
    refine zr_gq X hR (r := (some a0)) fl_X10_98 dX10_flaw_152 hf (fun v152 hf => ?_)
    refine lv_iload_n hx hb dX10_flaw_155 rfl (lv_at hl 1 rfl) ?_
    refine lv_dup2_11 hx hb dX10_flaw_156 rfl (zz_cat _) ?_
    refine zr_iald X hR (r := v152) dX10_flaw_157 hf (fun v157 hf => ?_)
    refine lv_iconst (v := (1 : Int32)) hx hb dX10_flaw_158 (by decide) ?_
    refine lv_iadd hx hb dX10_flaw_159 ?_
    refine zr_iast X hR (r := v152) dX10_flaw_160 hf (fun h160 H locs hf hR => ?_)
    refine lv_aload_n hx hb dX10_flaw_161 rfl (lv_at hl 0 rfl) ?_
    refine zr_gq X hR (r := (some a0)) fl_X10_98 dX10_flaw_162 hf (fun v162 hf => ?_)
    refine lv_iload_n hx hb dX10_flaw_165 rfl (lv_at hl 1 rfl) ?_
    refine zr_iald X hR (r := v162) dX10_flaw_166 hf (fun v166 hf => ?_)
    cases hf
    exact zr_iret X hR dX10_flaw_167 (Nat.le_of_ble_eq_true rfl) (Nat.le_of_ble_eq_true rfl)
  · replace hf := zz_neg c132 hf
    exact bk_X10_flaw_135 X hT hR (lv_sub hl [] rfl) hf
set_option maxHeartbeats 4000000 in
set_option maxRecDepth 100000 in
theorem bk_X10_flaw_94 {D : va_G} {dA : Nat → ClassId} {base t0 : Nat} {l : Launch} {p : Program} {e : Env} {s : State} {m : MethodId} {args : Array Value} {below : List Frame} {meth : Method} {c : Code} (X : zz_X D dA base t0 "SpringseatModel" cX10_flaw 5 (some .int) l p s m meth c) (hT : l.stackTraces = false) {a0 : Nat} {x1 : Int32} {x2 : Int32} {x4 : Int32} {s0 : Int32} {s1 : Int32} {h : zz_H} {n : Nat} {H : Heap} {locs : List Loc} {ls : Array Slot} (hR : zz_R D dA base h n s H locs) (hl : lv_has ls 5 [(0, .ref a0), (1, .int x1), (2, .int x2), (4, .int x4)]) {r0 : Int32} {hF : zz_H} {o : ((Int32 × Int32) ⊕ (Int32 × zz_H))} (hf : f_X10_flaw_94 a0 x1 x2 x4 s0 s1 h = some o) (k0 : ∀ (w3 : Int32) (w4 : Int32), o = (.inl (w3, w4)) → ∀ {H : Heap} {locs : List Loc} {ls : Array Slot}, zz_R D dA base h n s H locs → lv_has ls 5 [(0, .ref a0), (1, .int x1), (2, .int x2), (3, .int w3), (4, .int w4)] → W p l e rm_X10_flaw s m args below meth c H locs 0 0 (MQ below (zz_Qc D dA base (some (.int r0)) hF n) args s rm_X10_flaw.cells rm_X10_flaw.slots (fun q => base ≤ q)) (F0 m 64 ls [])) (hret : ∀ r, o = (.inr r) → r = (r0, hF)) : W p l e rm_X10_flaw s m args below meth c H locs 0 0 (MQ below (zz_Qc D dA base (some (.int r0)) hF n) args s rm_X10_flaw.cells rm_X10_flaw.slots (fun q => base ≤ q)) (F0 m 94 ls [.int s0, .int s1]) := by
  have hx := X.1
  have hb := X.2.1
  have hown := X.2.2.2.2.1
  unfold f_X10_flaw_94 at hf
  refine lv_ior hx hb dX10_flaw_94 ?_
  refine lv_istore_n (i := 3) (lv' := [(3, .int (s1 ||| s0)), (0, .ref a0), (1, .int x1), (2, .int x2), (4, .int x4)]) hx hb dX10_flaw_95 rfl hl (by decide) rfl (fun ls hl => ?_)
  refine lv_iinc (i := 4) (v := (x4 + (1 : Int32))) (lv' := [(4, .int (x4 + (1 : Int32))), (3, .int (s1 ||| s0)), (0, .ref a0), (1, .int x1), (2, .int x2)]) hx hb dX10_flaw_96 hl (k := 4) rfl rfl (by decide) rfl (fun ls hl => ?_)
  refine lv_goto (tgt := 64) hx hb dX10_flaw_99 (by decide) ?_
  cases hf
  exact k0 _ _ rfl hR (lv_sub hl [2, 3, 4, 1, 0] rfl)
set_option maxHeartbeats 4000000 in
set_option maxRecDepth 100000 in
theorem bk_X10_flaw_64 {D : va_G} {dA : Nat → ClassId} {base t0 : Nat} {l : Launch} {p : Program} {e : Env} {s : State} {m : MethodId} {args : Array Value} {below : List Frame} {meth : Method} {c : Code} (X : zz_X D dA base t0 "SpringseatModel" cX10_flaw 5 (some .int) l p s m meth c) (hT : l.stackTraces = false) {a0 : Nat} {x1 : Int32} {x2 : Int32} {x3 : Int32} {x4 : Int32} {h : zz_H} {n : Nat} {H : Heap} {locs : List Loc} {ls : Array Slot} (hR : zz_R D dA base h n s H locs) (hl : lv_has ls 5 [(0, .ref a0), (1, .int x1), (2, .int x2), (3, .int x3), (4, .int x4)]) {r0 : Int32} {hF : zz_H} {o : ((Int32 × Int32) ⊕ (Int32 × zz_H))} (hf : f_X10_flaw_64 a0 x1 x2 x3 x4 h = some o) (k0 : ∀ (w3 : Int32) (w4 : Int32), o = (.inl (w3, w4)) → ∀ {H : Heap} {locs : List Loc} {ls : Array Slot}, zz_R D dA base h n s H locs → lv_has ls 5 [(0, .ref a0), (1, .int x1), (2, .int x2), (3, .int w3), (4, .int w4)] → W p l e rm_X10_flaw s m args below meth c H locs 0 0 (MQ below (zz_Qc D dA base (some (.int r0)) hF n) args s rm_X10_flaw.cells rm_X10_flaw.slots (fun q => base ≤ q)) (F0 m 64 ls [])) (hret : ∀ r, o = (.inr r) → r = (r0, hF)) : W p l e rm_X10_flaw s m args below meth c H locs 0 0 (MQ below (zz_Qc D dA base (some (.int r0)) hF n) args s rm_X10_flaw.cells rm_X10_flaw.slots (fun q => base ≤ q)) (F0 m 64 ls []) := by
  have hx := X.1
  have hb := X.2.1
  have hown := X.2.2.2.2.1
  unfold f_X10_flaw_64 at hf
  refine lv_iload hx hb dX10_flaw_64 (lv_at hl 4 rfl) ?_
  refine lv_aload_n hx hb dX10_flaw_66 rfl (lv_at hl 0 rfl) ?_
  refine zr_gq X hR (r := (some a0)) fl_X10_98 dX10_flaw_67 hf (fun v67 hf => ?_)
  refine lv_iload_n hx hb dX10_flaw_70 rfl (lv_at hl 1 rfl) ?_
  refine zr_iald X hR (r := v67) dX10_flaw_71 hf (fun v71 hf => ?_)
  refine lv_icmp_ge (tgt := 102) hx hb dX10_flaw_72 (by decide) (fun c72 => ?_) (fun c72 => ?_)
  · replace hf := zz_pos c72 hf
    refine lv_aload_n hx hb dX10_flaw_102 rfl (lv_at hl 0 rfl) ?_
    refine lv_iload_n hx hb dX10_flaw_103 rfl (lv_at hl 3 rfl) ?_
    refine lv_iconst (v := (2 : Int32)) hx hb dX10_flaw_104 (by decide) ?_
    obtain ⟨fs105, ho105, hf⟩ := zz_obS_i hf
    obtain ⟨v105, h105, hv105, hf⟩ := zz_b1_i hf
    refine zr_cV X hR hl.1 (As := [.int x3, .int (2 : Int32)]) (rest := []) (C := RX10) (T := TX10) (N := 34) (mt_X10_isThrown hT a0 x3 (2 : Int32) h n hv105) rfl ho105 mf_X10_isThrown q_1370 q_1372 qs_17 ⟨Nat.le_of_ble_eq_true rfl, Nat.le_of_ble_eq_true rfl⟩ ⟨Nat.le_of_ble_eq_true rfl, Nat.le_of_ble_eq_true rfl⟩ rfl (Nat.le_of_ble_eq_true rfl) dX10_flaw_105 (fun H locs hR => ?_)
    refine W.eq (g2 := F0 m 108 ls [.int v105]) rfl ?_
    refine lv_if_ne (tgt := 135) hx hb dX10_flaw_108 (by decide) (fun c108 => ?_) (fun c108 => ?_)
    · replace hf := zz_neg c108 hf
      obtain ⟨o1, hf1, he⟩ := Option.map_eq_some_iff.mp hf
      cases he
      cases hret _ rfl
      exact bk_X10_flaw_135 X hT hR (lv_sub hl [] rfl) hf1
    · replace hf := zz_pos c108 hf
      refine lv_aload_n hx hb dX10_flaw_111 rfl (lv_at hl 0 rfl) ?_
      refine lv_aload_n hx hb dX10_flaw_112 rfl (lv_at hl 0 rfl) ?_
      refine zr_gq X hR (r := (some a0)) fl_X10_98 dX10_flaw_113 hf (fun v113 hf => ?_)
      refine lv_iload_n hx hb dX10_flaw_116 rfl (lv_at hl 1 rfl) ?_
      refine zr_iald X hR (r := v113) dX10_flaw_117 hf (fun v117 hf => ?_)
      refine lv_bipush (v := (10 : Int32)) hx hb dX10_flaw_118 (by decide) ?_
      refine lv_icmp_ne (tgt := 127) hx hb dX10_flaw_120 (by decide) (fun c120 => ?_) (fun c120 => ?_)
      · replace hf := zz_neg c120 hf
        refine lv_iconst (v := (0 : Int32)) hx hb dX10_flaw_127 (by decide) ?_
        obtain ⟨o1, hf1, he⟩ := Option.map_eq_some_iff.mp hf
        cases he
        cases hret _ rfl
        exact bk_X10_flaw_128 X hT hR (lv_sub hl [0, 1, 2] rfl) hf1
      · replace hf := zz_pos c120 hf
        refine lv_iconst (v := (1 : Int32)) hx hb dX10_flaw_123 (by decide) ?_
        refine lv_goto (tgt := 128) hx hb dX10_flaw_124 (by decide) ?_
        obtain ⟨o1, hf1, he⟩ := Option.map_eq_some_iff.mp hf
        cases he
        cases hret _ rfl
        exact bk_X10_flaw_128 X hT hR (lv_sub hl [0, 1, 2] rfl) hf1
  · replace hf := zz_neg c72 hf
    refine lv_iload_n hx hb dX10_flaw_75 rfl (lv_at hl 3 rfl) ?_
    refine lv_aload_n hx hb dX10_flaw_76 rfl (lv_at hl 0 rfl) ?_
    refine zr_gq X hR (r := (some a0)) fl_X10_101 dX10_flaw_77 hf (fun v77 hf => ?_)
    refine lv_iload_n hx hb dX10_flaw_80 rfl (lv_at hl 1 rfl) ?_
    refine zr_aald X hR (t := 6) (r := v77) (by decide) rfl dX10_flaw_81 hf (fun v81 hf => ?_)
    refine lv_iload hx hb dX10_flaw_82 (lv_at hl 4 rfl) ?_
    refine zr_iald X hR (r := v81) dX10_flaw_84 hf (fun v84 hf => ?_)
    refine lv_iload_n hx hb dX10_flaw_85 rfl (lv_at hl 2 rfl) ?_
    refine lv_icmp_ne (tgt := 93) hx hb dX10_flaw_86 (by decide) (fun c86 => ?_) (fun c86 => ?_)
    · replace hf := zz_neg c86 hf
      refine lv_iconst (v := (0 : Int32)) hx hb dX10_flaw_93 (by decide) ?_
      exact bk_X10_flaw_94 X hT hR (lv_sub hl [0, 1, 2, 4] rfl) hf k0 hret
    · replace hf := zz_pos c86 hf
      refine lv_iconst (v := (1 : Int32)) hx hb dX10_flaw_89 (by decide) ?_
      refine lv_goto (tgt := 94) hx hb dX10_flaw_90 (by decide) ?_
      exact bk_X10_flaw_94 X hT hR (lv_sub hl [0, 1, 2, 4] rfl) hf k0 hret
set_option maxHeartbeats 4000000 in
set_option maxRecDepth 100000 in
theorem lp_X10_flaw_64 {D : va_G} {dA : Nat → ClassId} {base t0 : Nat} {l : Launch} {p : Program} {e : Env} {s : State} {m : MethodId} {args : Array Value} {below : List Frame} {meth : Method} {c : Code} (X : zz_X D dA base t0 "SpringseatModel" cX10_flaw 5 (some .int) l p s m meth c) (hT : l.stackTraces = false) (a0 : Nat) (x1 : Int32) (x2 : Int32) {h : zz_H} {n : Nat} {r0 : Int32} {hF : zz_H} : ∀ (k : Nat) (x3 : Int32) (x4 : Int32), zz_it (fun s : (Int32 × Int32) => f_X10_flaw_64 a0 x1 x2 s.1 s.2 h) k (x3, x4) = some (r0, hF) → ∀ {H : Heap} {locs : List Loc} {ls : Array Slot}, zz_R D dA base h n s H locs → lv_has ls 5 [(0, .ref a0), (1, .int x1), (2, .int x2), (3, .int x3), (4, .int x4)] → W p l e rm_X10_flaw s m args below meth c H locs 0 0 (MQ below (zz_Qc D dA base (some (.int r0)) hF n) args s rm_X10_flaw.cells rm_X10_flaw.slots (fun q => base ≤ q)) (F0 m 64 ls []) := by
  intro k
  induction k with
  | zero => intro x3 x4 hf; cases hf
  | succ k ih =>
    intro x3 x4 hf H locs ls hR hl
    rcases zz_it_s hf with ⟨⟨y0, y1⟩, h1, h2⟩ | h1
    · exact bk_X10_flaw_64 (r0 := r0) X hT hR hl h1  (fun z0 z1 e => by cases e; exact ih _ _ h2) (fun r e => by cases e)
    · exact bk_X10_flaw_64 (r0 := r0) X hT hR hl h1  (fun z0 z1 e => by cases e) (fun r e => (Sum.inr.inj e).symm)
set_option maxHeartbeats 4000000 in
set_option maxRecDepth 100000 in
theorem bk_X10_flaw_60 {D : va_G} {dA : Nat → ClassId} {base t0 : Nat} {l : Launch} {p : Program} {e : Env} {s : State} {m : MethodId} {args : Array Value} {below : List Frame} {meth : Method} {c : Code} (X : zz_X D dA base t0 "SpringseatModel" cX10_flaw 5 (some .int) l p s m meth c) (hT : l.stackTraces = false) {a0 : Nat} {x1 : Int32} {x2 : Int32} {s0 : Int32} {h : zz_H} {n : Nat} {H : Heap} {locs : List Loc} {ls : Array Slot} (hR : zz_R D dA base h n s H locs) (hl : lv_has ls 5 [(0, .ref a0), (1, .int x1), (2, .int x2)]) {r0 : Int32} {hF : zz_H} (hf : f_X10_flaw_60 a0 x1 x2 s0 h = some (r0, hF)) : W p l e rm_X10_flaw s m args below meth c H locs 0 0 (MQ below (zz_Qc D dA base (some (.int r0)) hF n) args s rm_X10_flaw.cells rm_X10_flaw.slots (fun q => base ≤ q)) (F0 m 60 ls [.int s0]) := by
  have hx := X.1
  have hb := X.2.1
  have hown := X.2.2.2.2.1
  unfold f_X10_flaw_60 at hf
  refine lv_istore_n (i := 3) (lv' := [(3, .int s0), (0, .ref a0), (1, .int x1), (2, .int x2)]) hx hb dX10_flaw_60 rfl hl (by decide) rfl (fun ls hl => ?_)
  refine lv_iconst (v := (0 : Int32)) hx hb dX10_flaw_61 (by decide) ?_
  refine lv_istore (i := 4) (lv' := [(4, .int (0 : Int32)), (3, .int s0), (0, .ref a0), (1, .int x1), (2, .int x2)]) hx hb dX10_flaw_62 hl (by decide) rfl (fun ls hl => ?_)
  exact lp_X10_flaw_64 X hT a0 x1 x2 zz_F _ _ hf hR (lv_sub hl [2, 3, 4, 1, 0] rfl)
set_option maxHeartbeats 4000000 in
set_option maxRecDepth 100000 in
theorem bk_X10_flaw_36 {D : va_G} {dA : Nat → ClassId} {base t0 : Nat} {l : Launch} {p : Program} {e : Env} {s : State} {m : MethodId} {args : Array Value} {below : List Frame} {meth : Method} {c : Code} (X : zz_X D dA base t0 "SpringseatModel" cX10_flaw 5 (some .int) l p s m meth c) (hT : l.stackTraces = false) {a0 : Nat} {x1 : Int32} {x2 : Int32} {s0 : Int32} {s1 : (Option Nat)} {h : zz_H} {n : Nat} {H : Heap} {locs : List Loc} {ls : Array Slot} (hR : zz_R D dA base h n s H locs) (hl : lv_has ls 5 [(0, .ref a0), (1, .int x1), (2, .int x2)]) {r0 : Int32} {hF : zz_H} (hf : f_X10_flaw_36 a0 x1 x2 s0 s1 h = some (r0, hF)) : W p l e rm_X10_flaw s m args below meth c H locs 0 0 (MQ below (zz_Qc D dA base (some (.int r0)) hF n) args s rm_X10_flaw.cells rm_X10_flaw.slots (fun q => base ≤ q)) (F0 m 36 ls [.int s0, va_rf s1]) := by
  have hx := X.1
  have hb := X.2.1
  have hown := X.2.2.2.2.1
  unfold f_X10_flaw_36 at hf
  refine lv_iconst (v := (1 : Int32)) hx hb dX10_flaw_36 (by decide) ?_
  obtain ⟨b37, fs37, hr37, ho37, hf⟩ := zz_ob_i hf
  obtain ⟨v37, h37, hv37, hf⟩ := zz_b1_i hf
  refine zr_cV X hR hl.1 (As := [.int s0, .int (1 : Int32)]) (rest := []) (C := RX10) (T := TX10) (N := 34) (mt_X10_isThrown hT b37 s0 (1 : Int32) h n hv37) rfl ho37 mf_X10_isThrown q_1370 q_1372 qs_17 ⟨Nat.le_of_ble_eq_true rfl, Nat.le_of_ble_eq_true rfl⟩ ⟨Nat.le_of_ble_eq_true rfl, Nat.le_of_ble_eq_true rfl⟩ (by rw [hr37]; rfl) (Nat.le_of_ble_eq_true rfl) dX10_flaw_37 (fun H locs hR => ?_)
  refine W.eq (g2 := F0 m 40 ls [.int v37]) rfl ?_
  refine lv_if_eq (tgt := 45) hx hb dX10_flaw_40 (by decide) (fun c40 => ?_) (fun c40 => ?_)
  · replace hf := zz_pos c40 hf
    refine lv_iload_n hx hb dX10_flaw_45 rfl (lv_at hl 2 rfl) ?_
    refine lv_aload_n hx hb dX10_flaw_46 rfl (lv_at hl 0 rfl) ?_
    refine zr_gq X hR (r := (some a0)) fl_X10_95 dX10_flaw_47 hf (fun v47 hf => ?_)
    refine lv_iload_n hx hb dX10_flaw_50 rfl (lv_at hl 1 rfl) ?_
    refine zr_iald X hR (r := v47) dX10_flaw_51 hf (fun v51 hf => ?_)
    refine lv_icmp_ge (tgt := 59) hx hb dX10_flaw_52 (by decide) (fun c52 => ?_) (fun c52 => ?_)
    · replace hf := zz_pos c52 hf
      refine lv_iconst (v := (0 : Int32)) hx hb dX10_flaw_59 (by decide) ?_
      exact bk_X10_flaw_60 X hT hR (lv_sub hl [0, 1, 2] rfl) hf
    · replace hf := zz_neg c52 hf
      refine lv_iconst (v := (1 : Int32)) hx hb dX10_flaw_55 (by decide) ?_
      refine lv_goto (tgt := 60) hx hb dX10_flaw_56 (by decide) ?_
      exact bk_X10_flaw_60 X hT hR (lv_sub hl [0, 1, 2] rfl) hf
  · replace hf := zz_neg c40 hf
    refine lv_iconst (v := (0 : Int32)) hx hb dX10_flaw_43 (by decide) ?_
    cases hf
    exact zr_iret X hR dX10_flaw_44 (Nat.le_of_ble_eq_true rfl) (Nat.le_of_ble_eq_true rfl)
set_option maxHeartbeats 4000000 in
set_option maxRecDepth 100000 in
theorem bk_X10_flaw_31 {D : va_G} {dA : Nat → ClassId} {base t0 : Nat} {l : Launch} {p : Program} {e : Env} {s : State} {m : MethodId} {args : Array Value} {below : List Frame} {meth : Method} {c : Code} (X : zz_X D dA base t0 "SpringseatModel" cX10_flaw 5 (some .int) l p s m meth c) (hT : l.stackTraces = false) {a0 : Nat} {x1 : Int32} {x2 : Int32} {s0 : (Option Nat)} {h : zz_H} {n : Nat} {H : Heap} {locs : List Loc} {ls : Array Slot} (hR : zz_R D dA base h n s H locs) (hl : lv_has ls 5 [(0, .ref a0), (1, .int x1), (2, .int x2)]) {r0 : Int32} {hF : zz_H} (hf : f_X10_flaw_31 a0 x1 x2 s0 h = some (r0, hF)) : W p l e rm_X10_flaw s m args below meth c H locs 0 0 (MQ below (zz_Qc D dA base (some (.int r0)) hF n) args s rm_X10_flaw.cells rm_X10_flaw.slots (fun q => base ≤ q)) (F0 m 31 ls [va_rf s0]) := by
  have hx := X.1
  have hb := X.2.1
  have hown := X.2.2.2.2.1
  unfold f_X10_flaw_31 at hf
  refine lv_iconst (v := (1 : Int32)) hx hb dX10_flaw_31 (by decide) ?_
  refine lv_goto (tgt := 36) hx hb dX10_flaw_32 (by decide) ?_
  exact bk_X10_flaw_36 X hT hR (lv_sub hl [0, 1, 2] rfl) hf
set_option maxHeartbeats 4000000 in
set_option maxRecDepth 100000 in
theorem mt_X10_flaw {D : va_G} {dA : Nat → ClassId} {base t0 : Nat} {l : Launch} (hT : l.stackTraces = false) (a0 : Nat) (x1 : Int32) (x2 : Int32) (h : zz_H) (n : Nat) {r0 : Int32} {hF : zz_H} (hf : f_X10_flaw a0 x1 x2 h = some (r0, hF)) : zz_M D dA base t0 l yX10_flaw cX10_flaw 5 (some .int) rm_X10_flaw [.ref a0, .int x1, .int x2] h n (some (.int r0)) hF n := by
  refine Met.ofW (cc := cX10_flaw) (maxL := 5) (ret := (some .int)) (by decide +kernel) rfl ?_
  intro p e s m args below meth c s₁ B hml hv
  obtain ⟨rfl, hP, hK⟩ := hv
  have X : zz_X D dA base t0 "SpringseatModel" cX10_flaw 5 (some .int) l p s m meth c := ⟨B.exec, B.bytes, hml, B.returns, findClass_of_methodNamed B.named, B.notSynchronized, hT, by rw [hP.1]; exact hP.2.1, hK⟩
  have hx := X.1
  have hb := X.2.1
  have hown := X.2.2.2.2.1
  have hR : zz_R D dA base h n s s.heap [] := ⟨hP, va_S.rf⟩
  have hl := lv_entry ([.ref a0, .int x1, .int x2]) (n := 5) (by exact Nat.le_of_ble_eq_true rfl)
  rw [lg_entry_eq]
  generalize (lg_sl ([.ref a0, .int x1, .int x2]) ++ List.replicate (5 - (lg_sl ([.ref a0, .int x1, .int x2])).length) Slot.unset).toArray = ls at hl ⊢
  have hl : lv_has ls 5 [(0, .ref a0), (1, .int x1), (2, .int x2)] := hl
  unfold f_X10_flaw at hf
  refine lv_aload_n hx hb dX10_flaw_0 rfl (lv_at hl 0 rfl) ?_
  refine lv_iload_n hx hb dX10_flaw_1 rfl (lv_at hl 1 rfl) ?_
  refine lv_iconst (v := (0 : Int32)) hx hb dX10_flaw_2 (by decide) ?_
  refine lv_aload_n hx hb dX10_flaw_3 rfl (lv_at hl 0 rfl) ?_
  refine zr_gi X hR (r := (some a0)) fl_X10_179 dX10_flaw_4 hf (fun v4 hf => ?_)
  refine lv_iconst (v := (1 : Int32)) hx hb dX10_flaw_7 (by decide) ?_
  refine lv_isub hx hb dX10_flaw_8 ?_
  obtain ⟨v9, hv9, hf⟩ := zz_b_i hf
  refine zr_cS X hR hl.1 (As := [.int x1, .int (0 : Int32), .int (v4 - (1 : Int32))]) (rest := [.ref a0]) (mt_X10_isIn hT x1 (0 : Int32) (v4 - (1 : Int32)) h n hv9) mf_X10_isIn q_1367 q_1368 ⟨Nat.le_of_ble_eq_true rfl, Nat.le_of_ble_eq_true rfl⟩ ⟨Nat.le_of_ble_eq_true rfl, Nat.le_of_ble_eq_true rfl⟩ rfl (Nat.le_of_ble_eq_true rfl) dX10_flaw_9 (fun H locs hR => ?_)
  refine W.eq (g2 := F0 m 12 ls [.int v9, .ref a0]) rfl ?_
  refine lv_if_eq (tgt := 31) hx hb dX10_flaw_12 (by decide) (fun c12 => ?_) (fun c12 => ?_)
  · replace hf := zz_pos c12 hf
    exact bk_X10_flaw_31 X hT hR (lv_sub hl [0, 1, 2] rfl) hf
  · replace hf := zz_neg c12 hf
    refine lv_iload_n hx hb dX10_flaw_15 rfl (lv_at hl 2 rfl) ?_
    refine lv_iconst (v := (0 : Int32)) hx hb dX10_flaw_16 (by decide) ?_
    refine lv_aload_n hx hb dX10_flaw_17 rfl (lv_at hl 0 rfl) ?_
    refine zr_gq X hR (r := (some a0)) fl_X10_89 dX10_flaw_18 hf (fun v18 hf => ?_)
    refine lv_iload_n hx hb dX10_flaw_21 rfl (lv_at hl 1 rfl) ?_
    refine zr_iald X hR (r := v18) dX10_flaw_22 hf (fun v22 hf => ?_)
    refine lv_iconst (v := (1 : Int32)) hx hb dX10_flaw_23 (by decide) ?_
    refine lv_isub hx hb dX10_flaw_24 ?_
    obtain ⟨v25, hv25, hf⟩ := zz_b_i hf
    refine zr_cS X hR hl.1 (As := [.int x2, .int (0 : Int32), .int (v22 - (1 : Int32))]) (rest := [.ref a0]) (mt_X10_isIn hT x2 (0 : Int32) (v22 - (1 : Int32)) h n hv25) mf_X10_isIn q_1367 q_1368 ⟨Nat.le_of_ble_eq_true rfl, Nat.le_of_ble_eq_true rfl⟩ ⟨Nat.le_of_ble_eq_true rfl, Nat.le_of_ble_eq_true rfl⟩ rfl (Nat.le_of_ble_eq_true rfl) dX10_flaw_25 (fun H locs hR => ?_)
    refine W.eq (g2 := F0 m 28 ls [.int v25, .ref a0]) rfl ?_
    refine lv_if_ne (tgt := 35) hx hb dX10_flaw_28 (by decide) (fun c28 => ?_) (fun c28 => ?_)
    · replace hf := zz_neg c28 hf
      refine lv_iconst (v := (0 : Int32)) hx hb dX10_flaw_35 (by decide) ?_
      exact bk_X10_flaw_36 X hT hR (lv_sub hl [0, 1, 2] rfl) hf
    · replace hf := zz_pos c28 hf
      exact bk_X10_flaw_31 X hT hR (lv_sub hl [0, 1, 2] rfl) hf
def rm_X10_left : Room := { frames := 1, cells := 0, slots := 0, locals := 22 }
theorem mf_X10_left : zz_Mf yX10_left cX10_left 2 (some .int) 1 := ⟨q_1594, q_11, by decide +kernel, by decide +kernel, by decide +kernel⟩
set_option maxHeartbeats 4000000 in
set_option maxRecDepth 100000 in
theorem bk_X10_left_44 {D : va_G} {dA : Nat → ClassId} {base t0 : Nat} {l : Launch} {p : Program} {e : Env} {s : State} {m : MethodId} {args : Array Value} {below : List Frame} {meth : Method} {c : Code} (X : zz_X D dA base t0 "SpringseatModel" cX10_left 2 (some .int) l p s m meth c) (hT : l.stackTraces = false) {s0 : Int32} {h : zz_H} {n : Nat} {H : Heap} {locs : List Loc} {ls : Array Slot} (hR : zz_R D dA base h n s H locs) (hl : lv_has ls 2 []) {r0 : Int32} {hF : zz_H} (hf : f_X10_left_44 s0 h = some (r0, hF)) : W p l e rm_X10_left s m args below meth c H locs 0 0 (MQ below (zz_Qc D dA base (some (.int r0)) hF n) args s rm_X10_left.cells rm_X10_left.slots (fun q => base ≤ q)) (F0 m 44 ls [.int s0]) := by
  have hx := X.1
  have hb := X.2.1
  have hown := X.2.2.2.2.1
  unfold f_X10_left_44 at hf
  cases hf
  exact zr_iret X hR dX10_left_44 (Nat.le_of_ble_eq_true rfl) (Nat.le_of_ble_eq_true rfl)
set_option maxHeartbeats 4000000 in
set_option maxRecDepth 100000 in
theorem bk_X10_left_20 {D : va_G} {dA : Nat → ClassId} {base t0 : Nat} {l : Launch} {p : Program} {e : Env} {s : State} {m : MethodId} {args : Array Value} {below : List Frame} {meth : Method} {c : Code} (X : zz_X D dA base t0 "SpringseatModel" cX10_left 2 (some .int) l p s m meth c) (hT : l.stackTraces = false) {a0 : Nat} {x1 : Int32} {s0 : Int32} {s1 : (Option Nat)} {h : zz_H} {n : Nat} {H : Heap} {locs : List Loc} {ls : Array Slot} (hR : zz_R D dA base h n s H locs) (hl : lv_has ls 2 [(0, .ref a0), (1, .int x1)]) {r0 : Int32} {hF : zz_H} (hf : f_X10_left_20 a0 x1 s0 s1 h = some (r0, hF)) : W p l e rm_X10_left s m args below meth c H locs 0 0 (MQ below (zz_Qc D dA base (some (.int r0)) hF n) args s rm_X10_left.cells rm_X10_left.slots (fun q => base ≤ q)) (F0 m 20 ls [.int s0, va_rf s1]) := by
  have hx := X.1
  have hb := X.2.1
  have hown := X.2.2.2.2.1
  unfold f_X10_left_20 at hf
  refine lv_iconst (v := (1 : Int32)) hx hb dX10_left_20 (by decide) ?_
  obtain ⟨b21, fs21, hr21, ho21, hf⟩ := zz_ob_i hf
  obtain ⟨v21, h21, hv21, hf⟩ := zz_b1_i hf
  refine zr_cV X hR hl.1 (As := [.int s0, .int (1 : Int32)]) (rest := []) (C := RX10) (T := TX10) (N := 34) (mt_X10_isThrown hT b21 s0 (1 : Int32) h n hv21) rfl ho21 mf_X10_isThrown q_1370 q_1372 qs_17 ⟨Nat.le_of_ble_eq_true rfl, Nat.le_of_ble_eq_true rfl⟩ ⟨Nat.le_of_ble_eq_true rfl, Nat.le_of_ble_eq_true rfl⟩ (by rw [hr21]; rfl) (Nat.le_of_ble_eq_true rfl) dX10_left_21 (fun H locs hR => ?_)
  refine W.eq (g2 := F0 m 24 ls [.int v21]) rfl ?_
  refine lv_if_eq (tgt := 31) hx hb dX10_left_24 (by decide) (fun c24 => ?_) (fun c24 => ?_)
  · replace hf := zz_pos c24 hf
    refine lv_aload_n hx hb dX10_left_31 rfl (lv_at hl 0 rfl) ?_
    refine zr_gq X hR (r := (some a0)) fl_X10_89 dX10_left_32 hf (fun v32 hf => ?_)
    refine lv_iload_n hx hb dX10_left_35 rfl (lv_at hl 1 rfl) ?_
    refine zr_iald X hR (r := v32) dX10_left_36 hf (fun v36 hf => ?_)
    refine lv_aload_n hx hb dX10_left_37 rfl (lv_at hl 0 rfl) ?_
    refine zr_gq X hR (r := (some a0)) fl_X10_95 dX10_left_38 hf (fun v38 hf => ?_)
    refine lv_iload_n hx hb dX10_left_41 rfl (lv_at hl 1 rfl) ?_
    refine zr_iald X hR (r := v38) dX10_left_42 hf (fun v42 hf => ?_)
    refine lv_isub hx hb dX10_left_43 ?_
    exact bk_X10_left_44 X hT hR (lv_sub hl [] rfl) hf
  · replace hf := zz_neg c24 hf
    refine lv_iconst (v := (0 : Int32)) hx hb dX10_left_27 (by decide) ?_
    refine lv_goto (tgt := 44) hx hb dX10_left_28 (by decide) ?_
    exact bk_X10_left_44 X hT hR (lv_sub hl [] rfl) hf
set_option maxHeartbeats 4000000 in
set_option maxRecDepth 100000 in
theorem mt_X10_left {D : va_G} {dA : Nat → ClassId} {base t0 : Nat} {l : Launch} (hT : l.stackTraces = false) (a0 : Nat) (x1 : Int32) (h : zz_H) (n : Nat) {r0 : Int32} {hF : zz_H} (hf : f_X10_left a0 x1 h = some (r0, hF)) : zz_M D dA base t0 l yX10_left cX10_left 2 (some .int) rm_X10_left [.ref a0, .int x1] h n (some (.int r0)) hF n := by
  refine Met.ofW (cc := cX10_left) (maxL := 2) (ret := (some .int)) (by decide +kernel) rfl ?_
  intro p e s m args below meth c s₁ B hml hv
  obtain ⟨rfl, hP, hK⟩ := hv
  have X : zz_X D dA base t0 "SpringseatModel" cX10_left 2 (some .int) l p s m meth c := ⟨B.exec, B.bytes, hml, B.returns, findClass_of_methodNamed B.named, B.notSynchronized, hT, by rw [hP.1]; exact hP.2.1, hK⟩
  have hx := X.1
  have hb := X.2.1
  have hown := X.2.2.2.2.1
  have hR : zz_R D dA base h n s s.heap [] := ⟨hP, va_S.rf⟩
  have hl := lv_entry ([.ref a0, .int x1]) (n := 2) (by exact Nat.le_of_ble_eq_true rfl)
  rw [lg_entry_eq]
  generalize (lg_sl ([.ref a0, .int x1]) ++ List.replicate (2 - (lg_sl ([.ref a0, .int x1])).length) Slot.unset).toArray = ls at hl ⊢
  have hl : lv_has ls 2 [(0, .ref a0), (1, .int x1)] := hl
  unfold f_X10_left at hf
  refine lv_aload_n hx hb dX10_left_0 rfl (lv_at hl 0 rfl) ?_
  refine lv_iload_n hx hb dX10_left_1 rfl (lv_at hl 1 rfl) ?_
  refine lv_iconst (v := (0 : Int32)) hx hb dX10_left_2 (by decide) ?_
  refine lv_aload_n hx hb dX10_left_3 rfl (lv_at hl 0 rfl) ?_
  refine zr_gi X hR (r := (some a0)) fl_X10_179 dX10_left_4 hf (fun v4 hf => ?_)
  refine lv_iconst (v := (1 : Int32)) hx hb dX10_left_7 (by decide) ?_
  refine lv_isub hx hb dX10_left_8 ?_
  obtain ⟨v9, hv9, hf⟩ := zz_b_i hf
  refine zr_cS X hR hl.1 (As := [.int x1, .int (0 : Int32), .int (v4 - (1 : Int32))]) (rest := [.ref a0]) (mt_X10_isIn hT x1 (0 : Int32) (v4 - (1 : Int32)) h n hv9) mf_X10_isIn q_1367 q_1368 ⟨Nat.le_of_ble_eq_true rfl, Nat.le_of_ble_eq_true rfl⟩ ⟨Nat.le_of_ble_eq_true rfl, Nat.le_of_ble_eq_true rfl⟩ rfl (Nat.le_of_ble_eq_true rfl) dX10_left_9 (fun H locs hR => ?_)
  refine W.eq (g2 := F0 m 12 ls [.int v9, .ref a0]) rfl ?_
  refine lv_if_ne (tgt := 19) hx hb dX10_left_12 (by decide) (fun c12 => ?_) (fun c12 => ?_)
  · replace hf := zz_neg c12 hf
    refine lv_iconst (v := (0 : Int32)) hx hb dX10_left_19 (by decide) ?_
    exact bk_X10_left_20 X hT hR (lv_sub hl [0, 1] rfl) hf
  · replace hf := zz_pos c12 hf
    refine lv_iconst (v := (1 : Int32)) hx hb dX10_left_15 (by decide) ?_
    refine lv_goto (tgt := 20) hx hb dX10_left_16 (by decide) ?_
    exact bk_X10_left_20 X hT hR (lv_sub hl [0, 1] rfl) hf
def rm_X10_panel : Room := { frames := 2, cells := 0, slots := 0, locals := 43 }
theorem mf_X10_panel : zz_Mf yX10_panel cX10_panel 3 (some .int) 2 := ⟨q_1598, q_11, by decide +kernel, by decide +kernel, by decide +kernel⟩
set_option maxHeartbeats 4000000 in
set_option maxRecDepth 100000 in
theorem bk_X10_panel_52 {D : va_G} {dA : Nat → ClassId} {base t0 : Nat} {l : Launch} {p : Program} {e : Env} {s : State} {m : MethodId} {args : Array Value} {below : List Frame} {meth : Method} {c : Code} (X : zz_X D dA base t0 "SpringseatModel" cX10_panel 3 (some .int) l p s m meth c) (hT : l.stackTraces = false) {h : zz_H} {n : Nat} {H : Heap} {locs : List Loc} {ls : Array Slot} (hR : zz_R D dA base h n s H locs) (hl : lv_has ls 3 []) {r0 : Int32} {hF : zz_H} (hf : f_X10_panel_52 h = some (r0, hF)) : W p l e rm_X10_panel s m args below meth c H locs 0 0 (MQ below (zz_Qc D dA base (some (.int r0)) hF n) args s rm_X10_panel.cells rm_X10_panel.slots (fun q => base ≤ q)) (F0 m 52 ls []) := by
  have hx := X.1
  have hb := X.2.1
  have hown := X.2.2.2.2.1
  unfold f_X10_panel_52 at hf
  refine lv_iconst (v := (0 : Int32)) hx hb dX10_panel_52 (by decide) ?_
  cases hf
  exact zr_iret X hR dX10_panel_53 (Nat.le_of_ble_eq_true rfl) (Nat.le_of_ble_eq_true rfl)
set_option maxHeartbeats 4000000 in
set_option maxRecDepth 100000 in
theorem bk_X10_panel_45 {D : va_G} {dA : Nat → ClassId} {base t0 : Nat} {l : Launch} {p : Program} {e : Env} {s : State} {m : MethodId} {args : Array Value} {below : List Frame} {meth : Method} {c : Code} (X : zz_X D dA base t0 "SpringseatModel" cX10_panel 3 (some .int) l p s m meth c) (hT : l.stackTraces = false) {a0 : Nat} {x1 : Int32} {x2 : Int32} {s0 : Int32} {s1 : (Option Nat)} {h : zz_H} {n : Nat} {H : Heap} {locs : List Loc} {ls : Array Slot} (hR : zz_R D dA base h n s H locs) (hl : lv_has ls 3 [(0, .ref a0), (1, .int x1), (2, .int x2)]) {r0 : Int32} {hF : zz_H} (hf : f_X10_panel_45 a0 x1 x2 s0 s1 h = some (r0, hF)) : W p l e rm_X10_panel s m args below meth c H locs 0 0 (MQ below (zz_Qc D dA base (some (.int r0)) hF n) args s rm_X10_panel.cells rm_X10_panel.slots (fun q => base ≤ q)) (F0 m 45 ls [.int s0, va_rf s1]) := by
  have hx := X.1
  have hb := X.2.1
  have hown := X.2.2.2.2.1
  unfold f_X10_panel_45 at hf
  refine lv_iconst (v := (2 : Int32)) hx hb dX10_panel_45 (by decide) ?_
  obtain ⟨b46, fs46, hr46, ho46, hf⟩ := zz_ob_i hf
  obtain ⟨v46, h46, hv46, hf⟩ := zz_b1_i hf
  refine zr_cV X hR hl.1 (As := [.int s0, .int (2 : Int32)]) (rest := []) (C := RX10) (T := TX10) (N := 34) (mt_X10_isThrown hT b46 s0 (2 : Int32) h n hv46) rfl ho46 mf_X10_isThrown q_1370 q_1372 qs_17 ⟨Nat.le_of_ble_eq_true rfl, Nat.le_of_ble_eq_true rfl⟩ ⟨Nat.le_of_ble_eq_true rfl, Nat.le_of_ble_eq_true rfl⟩ (by rw [hr46]; rfl) (Nat.le_of_ble_eq_true rfl) dX10_panel_46 (fun H locs hR => ?_)
  refine W.eq (g2 := F0 m 49 ls [.int v46]) rfl ?_
  refine lv_if_eq (tgt := 54) hx hb dX10_panel_49 (by decide) (fun c49 => ?_) (fun c49 => ?_)
  · replace hf := zz_pos c49 hf
    refine lv_aload_n hx hb dX10_panel_54 rfl (lv_at hl 0 rfl) ?_
    refine zr_gq X hR (r := (some a0)) fl_X10_71 dX10_panel_55 hf (fun v55 hf => ?_)
    refine lv_iload_n hx hb dX10_panel_58 rfl (lv_at hl 1 rfl) ?_
    refine zr_aald X hR (t := 6) (r := v55) (by decide) rfl dX10_panel_59 hf (fun v59 hf => ?_)
    refine lv_iload_n hx hb dX10_panel_60 rfl (lv_at hl 2 rfl) ?_
    refine zr_iald X hR (r := v59) dX10_panel_61 hf (fun v61 hf => ?_)
    cases hf
    exact zr_iret X hR dX10_panel_62 (Nat.le_of_ble_eq_true rfl) (Nat.le_of_ble_eq_true rfl)
  · replace hf := zz_neg c49 hf
    exact bk_X10_panel_52 X hT hR (lv_sub hl [] rfl) hf
set_option maxHeartbeats 4000000 in
set_option maxRecDepth 100000 in
theorem bk_X10_panel_40 {D : va_G} {dA : Nat → ClassId} {base t0 : Nat} {l : Launch} {p : Program} {e : Env} {s : State} {m : MethodId} {args : Array Value} {below : List Frame} {meth : Method} {c : Code} (X : zz_X D dA base t0 "SpringseatModel" cX10_panel 3 (some .int) l p s m meth c) (hT : l.stackTraces = false) {a0 : Nat} {x1 : Int32} {x2 : Int32} {s0 : (Option Nat)} {h : zz_H} {n : Nat} {H : Heap} {locs : List Loc} {ls : Array Slot} (hR : zz_R D dA base h n s H locs) (hl : lv_has ls 3 [(0, .ref a0), (1, .int x1), (2, .int x2)]) {r0 : Int32} {hF : zz_H} (hf : f_X10_panel_40 a0 x1 x2 s0 h = some (r0, hF)) : W p l e rm_X10_panel s m args below meth c H locs 0 0 (MQ below (zz_Qc D dA base (some (.int r0)) hF n) args s rm_X10_panel.cells rm_X10_panel.slots (fun q => base ≤ q)) (F0 m 40 ls [va_rf s0]) := by
  have hx := X.1
  have hb := X.2.1
  have hown := X.2.2.2.2.1
  unfold f_X10_panel_40 at hf
  refine lv_iconst (v := (1 : Int32)) hx hb dX10_panel_40 (by decide) ?_
  refine lv_goto (tgt := 45) hx hb dX10_panel_41 (by decide) ?_
  exact bk_X10_panel_45 X hT hR (lv_sub hl [0, 1, 2] rfl) hf
set_option maxHeartbeats 4000000 in
set_option maxRecDepth 100000 in
theorem mt_X10_panel {D : va_G} {dA : Nat → ClassId} {base t0 : Nat} {l : Launch} (hT : l.stackTraces = false) (a0 : Nat) (x1 : Int32) (x2 : Int32) (h : zz_H) (n : Nat) {r0 : Int32} {hF : zz_H} (hf : f_X10_panel a0 x1 x2 h = some (r0, hF)) : zz_M D dA base t0 l yX10_panel cX10_panel 3 (some .int) rm_X10_panel [.ref a0, .int x1, .int x2] h n (some (.int r0)) hF n := by
  refine Met.ofW (cc := cX10_panel) (maxL := 3) (ret := (some .int)) (by decide +kernel) rfl ?_
  intro p e s m args below meth c s₁ B hml hv
  obtain ⟨rfl, hP, hK⟩ := hv
  have X : zz_X D dA base t0 "SpringseatModel" cX10_panel 3 (some .int) l p s m meth c := ⟨B.exec, B.bytes, hml, B.returns, findClass_of_methodNamed B.named, B.notSynchronized, hT, by rw [hP.1]; exact hP.2.1, hK⟩
  have hx := X.1
  have hb := X.2.1
  have hown := X.2.2.2.2.1
  have hR : zz_R D dA base h n s s.heap [] := ⟨hP, va_S.rf⟩
  have hl := lv_entry ([.ref a0, .int x1, .int x2]) (n := 3) (by exact Nat.le_of_ble_eq_true rfl)
  rw [lg_entry_eq]
  generalize (lg_sl ([.ref a0, .int x1, .int x2]) ++ List.replicate (3 - (lg_sl ([.ref a0, .int x1, .int x2])).length) Slot.unset).toArray = ls at hl ⊢
  have hl : lv_has ls 3 [(0, .ref a0), (1, .int x1), (2, .int x2)] := hl
  unfold f_X10_panel at hf
  refine lv_aload_n hx hb dX10_panel_0 rfl (lv_at hl 0 rfl) ?_
  refine lv_aload_n hx hb dX10_panel_1 rfl (lv_at hl 0 rfl) ?_
  refine lv_iload_n hx hb dX10_panel_2 rfl (lv_at hl 1 rfl) ?_
  obtain ⟨fs3, ho3, hf⟩ := zz_obS_i hf
  obtain ⟨v3, hv3, hf⟩ := zz_b_i hf
  refine zr_cV X hR hl.1 (As := [.int x1]) (rest := [.ref a0]) (C := RX10) (T := TX10) (N := 34) (mt_X10_isNoSeat hT a0 x1 h n hv3) rfl ho3 mf_X10_isNoSeat q_1378 q_1380 qs_18 ⟨Nat.le_of_ble_eq_true rfl, Nat.le_of_ble_eq_true rfl⟩ ⟨Nat.le_of_ble_eq_true rfl, Nat.le_of_ble_eq_true rfl⟩ rfl (Nat.le_of_ble_eq_true rfl) dX10_panel_3 (fun H locs hR => ?_)
  refine W.eq (g2 := F0 m 6 ls [.int v3, .ref a0]) rfl ?_
  refine lv_iconst (v := (1 : Int32)) hx hb dX10_panel_6 (by decide) ?_
  obtain ⟨fs7, ho7, hf⟩ := zz_obS_i hf
  obtain ⟨v7, h7, hv7, hf⟩ := zz_b1_i hf
  refine zr_cV X hR hl.1 (As := [.int v3, .int (1 : Int32)]) (rest := []) (C := RX10) (T := TX10) (N := 34) (mt_X10_isThrown hT a0 v3 (1 : Int32) h n hv7) rfl ho7 mf_X10_isThrown q_1370 q_1372 qs_17 ⟨Nat.le_of_ble_eq_true rfl, Nat.le_of_ble_eq_true rfl⟩ ⟨Nat.le_of_ble_eq_true rfl, Nat.le_of_ble_eq_true rfl⟩ rfl (Nat.le_of_ble_eq_true rfl) dX10_panel_7 (fun H locs hR => ?_)
  refine W.eq (g2 := F0 m 10 ls [.int v7]) rfl ?_
  refine lv_if_ne (tgt := 52) hx hb dX10_panel_10 (by decide) (fun c10 => ?_) (fun c10 => ?_)
  · replace hf := zz_neg c10 hf
    exact bk_X10_panel_52 X hT hR (lv_sub hl [] rfl) hf
  · replace hf := zz_pos c10 hf
    refine lv_aload_n hx hb dX10_panel_13 rfl (lv_at hl 0 rfl) ?_
    refine lv_aload_n hx hb dX10_panel_14 rfl (lv_at hl 0 rfl) ?_
    refine lv_iload_n hx hb dX10_panel_15 rfl (lv_at hl 1 rfl) ?_
    obtain ⟨fs16, ho16, hf⟩ := zz_obS_i hf
    obtain ⟨v16, hv16, hf⟩ := zz_b_i hf
    refine zr_cV X hR hl.1 (As := [.int x1]) (rest := [.ref a0]) (C := RX10) (T := TX10) (N := 34) (mt_X10_last hT a0 x1 h7 n hv16) rfl ho16 mf_X10_last q_1386 q_1388 qs_20 ⟨Nat.le_of_ble_eq_true rfl, Nat.le_of_ble_eq_true rfl⟩ ⟨Nat.le_of_ble_eq_true rfl, Nat.le_of_ble_eq_true rfl⟩ rfl (Nat.le_of_ble_eq_true rfl) dX10_panel_16 (fun H locs hR => ?_)
    refine W.eq (g2 := F0 m 19 ls [.int v16, .ref a0]) rfl ?_
    refine lv_bipush (v := (99 : Int32)) hx hb dX10_panel_19 (by decide) ?_
    refine lv_icmp_ne (tgt := 40) hx hb dX10_panel_21 (by decide) (fun c21 => ?_) (fun c21 => ?_)
    · replace hf := zz_neg c21 hf
      exact bk_X10_panel_40 X hT hR (lv_sub hl [0, 1, 2] rfl) hf
    · replace hf := zz_pos c21 hf
      refine lv_iload_n hx hb dX10_panel_24 rfl (lv_at hl 2 rfl) ?_
      refine lv_iconst (v := (0 : Int32)) hx hb dX10_panel_25 (by decide) ?_
      refine lv_aload_n hx hb dX10_panel_26 rfl (lv_at hl 0 rfl) ?_
      refine zr_gq X hR (r := (some a0)) fl_X10_9 dX10_panel_27 hf (fun v27 hf => ?_)
      refine lv_iload_n hx hb dX10_panel_30 rfl (lv_at hl 1 rfl) ?_
      refine zr_iald X hR (r := v27) dX10_panel_31 hf (fun v31 hf => ?_)
      refine lv_iconst (v := (1 : Int32)) hx hb dX10_panel_32 (by decide) ?_
      refine lv_isub hx hb dX10_panel_33 ?_
      obtain ⟨v34, hv34, hf⟩ := zz_b_i hf
      refine zr_cS X hR hl.1 (As := [.int x2, .int (0 : Int32), .int (v31 - (1 : Int32))]) (rest := [.ref a0]) (mt_X10_isIn hT x2 (0 : Int32) (v31 - (1 : Int32)) h7 n hv34) mf_X10_isIn q_1367 q_1368 ⟨Nat.le_of_ble_eq_true rfl, Nat.le_of_ble_eq_true rfl⟩ ⟨Nat.le_of_ble_eq_true rfl, Nat.le_of_ble_eq_true rfl⟩ rfl (Nat.le_of_ble_eq_true rfl) dX10_panel_34 (fun H locs hR => ?_)
      refine W.eq (g2 := F0 m 37 ls [.int v34, .ref a0]) rfl ?_
      refine lv_if_ne (tgt := 44) hx hb dX10_panel_37 (by decide) (fun c37 => ?_) (fun c37 => ?_)
      · replace hf := zz_neg c37 hf
        refine lv_iconst (v := (0 : Int32)) hx hb dX10_panel_44 (by decide) ?_
        exact bk_X10_panel_45 X hT hR (lv_sub hl [0, 1, 2] rfl) hf
      · replace hf := zz_pos c37 hf
        exact bk_X10_panel_40 X hT hR (lv_sub hl [0, 1, 2] rfl) hf
def rm_X10_uses : Room := { frames := 4, cells := 0, slots := 0, locals := 93 }
theorem mf_X10_uses : zz_Mf yX10_uses cX10_uses 5 (some .int) 2 := ⟨q_1607, q_11, by decide +kernel, by decide +kernel, by decide +kernel⟩
set_option maxHeartbeats 4000000 in
set_option maxRecDepth 100000 in
theorem bk_X10_uses_19 {D : va_G} {dA : Nat → ClassId} {base t0 : Nat} {l : Launch} {p : Program} {e : Env} {s : State} {m : MethodId} {args : Array Value} {below : List Frame} {meth : Method} {c : Code} (X : zz_X D dA base t0 "SpringseatModel" cX10_uses 5 (some .int) l p s m meth c) (hT : l.stackTraces = false) {a0 : Nat} {x1 : Int32} {x2 : Int32} {x3 : Int32} {x4 : Int32} {h : zz_H} {n : Nat} {H : Heap} {locs : List Loc} {ls : Array Slot} (hR : zz_R D dA base h n s H locs) (hl : lv_has ls 5 [(0, .ref a0), (1, .int x1), (2, .int x2), (3, .int x3), (4, .int x4)]) {r0 : Int32} {hF : zz_H} {o : ((Int32 × zz_H) ⊕ (Int32 × zz_H))} (hf : f_X10_uses_19 a0 x1 x2 x3 x4 h = some o) (k0 : ∀ (w4 : Int32) (hw : zz_H), o = (.inl (w4, hw)) → ∀ {H : Heap} {locs : List Loc} {ls : Array Slot}, zz_R D dA base hw n s H locs → lv_has ls 5 [(0, .ref a0), (1, .int x1), (2, .int x2), (3, .int x3), (4, .int w4)] → W p l e rm_X10_uses s m args below meth c H locs 0 0 (MQ below (zz_Qc D dA base (some (.int r0)) hF n) args s rm_X10_uses.cells rm_X10_uses.slots (fun q => base ≤ q)) (F0 m 19 ls [])) (hret : ∀ r, o = (.inr r) → r = (r0, hF)) : W p l e rm_X10_uses s m args below meth c H locs 0 0 (MQ below (zz_Qc D dA base (some (.int r0)) hF n) args s rm_X10_uses.cells rm_X10_uses.slots (fun q => base ≤ q)) (F0 m 19 ls []) := by
  have hx := X.1
  have hb := X.2.1
  have hown := X.2.2.2.2.1
  unfold f_X10_uses_19 at hf
  refine lv_iload hx hb dX10_uses_19 (lv_at hl 4 rfl) ?_
  refine lv_aload_n hx hb dX10_uses_21 rfl (lv_at hl 0 rfl) ?_
  refine zr_gq X hR (r := (some a0)) fl_X10_48 dX10_uses_22 hf (fun v22 hf => ?_)
  refine lv_iload_n hx hb dX10_uses_25 rfl (lv_at hl 1 rfl) ?_
  refine zr_iald X hR (r := v22) dX10_uses_26 hf (fun v26 hf => ?_)
  refine lv_icmp_ge (tgt := 50) hx hb dX10_uses_27 (by decide) (fun c27 => ?_) (fun c27 => ?_)
  · replace hf := zz_pos c27 hf
    refine lv_iload_n hx hb dX10_uses_50 rfl (lv_at hl 3 rfl) ?_
    refine lv_aload_n hx hb dX10_uses_51 rfl (lv_at hl 0 rfl) ?_
    refine lv_iload_n hx hb dX10_uses_52 rfl (lv_at hl 1 rfl) ?_
    obtain ⟨fs53, ho53, hf⟩ := zz_obS_i hf
    obtain ⟨v53, hv53, hf⟩ := zz_b_i hf
    refine zr_cV X hR hl.1 (As := [.int x1]) (rest := [.int x3]) (C := RX10) (T := TX10) (N := 34) (mt_X10_tops hT a0 x1 h n hv53) rfl ho53 mf_X10_tops q_1483 q_1485 qs_33 ⟨Nat.le_of_ble_eq_true rfl, Nat.le_of_ble_eq_true rfl⟩ ⟨Nat.le_of_ble_eq_true rfl, Nat.le_of_ble_eq_true rfl⟩ rfl (Nat.le_of_ble_eq_true rfl) dX10_uses_53 (fun H locs hR => ?_)
    refine W.eq (g2 := F0 m 56 ls [.int v53, .int x3]) rfl ?_
    refine lv_isub hx hb dX10_uses_56 ?_
    cases hf
    cases hret _ rfl
    exact zr_iret X hR dX10_uses_57 (Nat.le_of_ble_eq_true rfl) (Nat.le_of_ble_eq_true rfl)
  · replace hf := zz_neg c27 hf
    refine lv_aload_n hx hb dX10_uses_30 rfl (lv_at hl 0 rfl) ?_
    refine zr_gq X hR (r := (some a0)) fl_X10_62 dX10_uses_31 hf (fun v31 hf => ?_)
    refine lv_iload_n hx hb dX10_uses_34 rfl (lv_at hl 1 rfl) ?_
    refine zr_aald X hR (t := 10) (r := v31) (by decide) rfl dX10_uses_35 hf (fun v35 hf => ?_)
    refine lv_iload hx hb dX10_uses_36 (lv_at hl 4 rfl) ?_
    refine lv_dup2_11 hx hb dX10_uses_38 rfl (zz_cat _) ?_
    refine zr_lald X hR (r := v35) dX10_uses_39 hf (fun v39 hf => ?_)
    refine lv_iload_n hx hb dX10_uses_40 rfl (lv_at hl 2 rfl) ?_
    refine lv_i2l hx hb dX10_uses_41 rfl ?_
    refine lv_ladd hx hb dX10_uses_42 ?_
    refine zr_last X hR (r := v35) dX10_uses_43 hf (fun h43 H locs hf hR => ?_)
    refine lv_iinc (i := 4) (v := (x4 + (1 : Int32))) (lv' := [(4, .int (x4 + (1 : Int32))), (0, .ref a0), (1, .int x1), (2, .int x2), (3, .int x3)]) hx hb dX10_uses_44 hl (k := 4) rfl rfl (by decide) rfl (fun ls hl => ?_)
    refine lv_goto (tgt := 19) hx hb dX10_uses_47 (by decide) ?_
    cases hf
    exact k0 _ _ rfl hR (lv_sub hl [1, 2, 3, 4, 0] rfl)
set_option maxHeartbeats 4000000 in
set_option maxRecDepth 100000 in
theorem lp_X10_uses_19 {D : va_G} {dA : Nat → ClassId} {base t0 : Nat} {l : Launch} {p : Program} {e : Env} {s : State} {m : MethodId} {args : Array Value} {below : List Frame} {meth : Method} {c : Code} (X : zz_X D dA base t0 "SpringseatModel" cX10_uses 5 (some .int) l p s m meth c) (hT : l.stackTraces = false) (a0 : Nat) (x1 : Int32) (x2 : Int32) (x3 : Int32) {n : Nat} {r0 : Int32} {hF : zz_H} : ∀ (k : Nat) (x4 : Int32) (h : zz_H), zz_it (fun s : (Int32 × zz_H) => f_X10_uses_19 a0 x1 x2 x3 s.1 s.2) k (x4, h) = some (r0, hF) → ∀ {H : Heap} {locs : List Loc} {ls : Array Slot}, zz_R D dA base h n s H locs → lv_has ls 5 [(0, .ref a0), (1, .int x1), (2, .int x2), (3, .int x3), (4, .int x4)] → W p l e rm_X10_uses s m args below meth c H locs 0 0 (MQ below (zz_Qc D dA base (some (.int r0)) hF n) args s rm_X10_uses.cells rm_X10_uses.slots (fun q => base ≤ q)) (F0 m 19 ls []) := by
  intro k
  induction k with
  | zero => intro x4 h hf; cases hf
  | succ k ih =>
    intro x4 h hf H locs ls hR hl
    rcases zz_it_s hf with ⟨⟨y0, y1⟩, h1, h2⟩ | h1
    · exact bk_X10_uses_19 (r0 := r0) X hT hR hl h1  (fun z0 z1 e => by cases e; exact ih _ _ h2) (fun r e => by cases e)
    · exact bk_X10_uses_19 (r0 := r0) X hT hR hl h1  (fun z0 z1 e => by cases e) (fun r e => (Sum.inr.inj e).symm)
set_option maxHeartbeats 4000000 in
set_option maxRecDepth 100000 in
theorem mt_X10_uses {D : va_G} {dA : Nat → ClassId} {base t0 : Nat} {l : Launch} (hT : l.stackTraces = false) (a0 : Nat) (x1 : Int32) (x2 : Int32) (h : zz_H) (n : Nat) {r0 : Int32} {hF : zz_H} (hf : f_X10_uses a0 x1 x2 h = some (r0, hF)) : zz_M D dA base t0 l yX10_uses cX10_uses 5 (some .int) rm_X10_uses [.ref a0, .int x1, .int x2] h n (some (.int r0)) hF n := by
  refine Met.ofW (cc := cX10_uses) (maxL := 5) (ret := (some .int)) (by decide +kernel) rfl ?_
  intro p e s m args below meth c s₁ B hml hv
  obtain ⟨rfl, hP, hK⟩ := hv
  have X : zz_X D dA base t0 "SpringseatModel" cX10_uses 5 (some .int) l p s m meth c := ⟨B.exec, B.bytes, hml, B.returns, findClass_of_methodNamed B.named, B.notSynchronized, hT, by rw [hP.1]; exact hP.2.1, hK⟩
  have hx := X.1
  have hb := X.2.1
  have hown := X.2.2.2.2.1
  have hR : zz_R D dA base h n s s.heap [] := ⟨hP, va_S.rf⟩
  have hl := lv_entry ([.ref a0, .int x1, .int x2]) (n := 5) (by exact Nat.le_of_ble_eq_true rfl)
  rw [lg_entry_eq]
  generalize (lg_sl ([.ref a0, .int x1, .int x2]) ++ List.replicate (5 - (lg_sl ([.ref a0, .int x1, .int x2])).length) Slot.unset).toArray = ls at hl ⊢
  have hl : lv_has ls 5 [(0, .ref a0), (1, .int x1), (2, .int x2)] := hl
  unfold f_X10_uses at hf
  refine lv_aload_n hx hb dX10_uses_0 rfl (lv_at hl 0 rfl) ?_
  refine lv_iload_n hx hb dX10_uses_1 rfl (lv_at hl 1 rfl) ?_
  obtain ⟨fs2, ho2, hf⟩ := zz_obS_i hf
  obtain ⟨v2, hv2, hf⟩ := zz_b_i hf
  refine zr_cV X hR hl.1 (As := [.int x1]) (rest := []) (C := RX10) (T := TX10) (N := 34) (mt_X10_tops hT a0 x1 h n hv2) rfl ho2 mf_X10_tops q_1483 q_1485 qs_33 ⟨Nat.le_of_ble_eq_true rfl, Nat.le_of_ble_eq_true rfl⟩ ⟨Nat.le_of_ble_eq_true rfl, Nat.le_of_ble_eq_true rfl⟩ rfl (Nat.le_of_ble_eq_true rfl) dX10_uses_2 (fun H locs hR => ?_)
  refine W.eq (g2 := F0 m 5 ls [.int v2]) rfl ?_
  refine lv_istore_n (i := 3) (lv' := [(3, .int v2), (0, .ref a0), (1, .int x1), (2, .int x2)]) hx hb dX10_uses_5 rfl hl (by decide) rfl (fun ls hl => ?_)
  refine lv_aload_n hx hb dX10_uses_6 rfl (lv_at hl 1 rfl) ?_
  refine zr_gq X hR (r := (some a0)) fl_X10_77 dX10_uses_7 hf (fun v7 hf => ?_)
  refine lv_iload_n hx hb dX10_uses_10 rfl (lv_at hl 2 rfl) ?_
  refine lv_dup2_11 hx hb dX10_uses_11 rfl (zz_cat _) ?_
  refine zr_iald X hR (r := v7) dX10_uses_12 hf (fun v12 hf => ?_)
  refine lv_iload_n hx hb dX10_uses_13 rfl (lv_at hl 3 rfl) ?_
  refine lv_iadd hx hb dX10_uses_14 ?_
  refine zr_iast X hR (r := v7) dX10_uses_15 hf (fun h15 H locs hf hR => ?_)
  refine lv_iconst (v := (0 : Int32)) hx hb dX10_uses_16 (by decide) ?_
  refine lv_istore (i := 4) (lv' := [(4, .int (0 : Int32)), (3, .int v2), (0, .ref a0), (1, .int x1), (2, .int x2)]) hx hb dX10_uses_17 hl (by decide) rfl (fun ls hl => ?_)
  exact lp_X10_uses_19 X hT a0 x1 x2 v2 zz_F _ _ hf hR (lv_sub hl [2, 3, 4, 1, 0] rfl)
def rm_X10_use : Room := { frames := 5, cells := 0, slots := 0, locals := 117 }
theorem mf_X10_use : zz_Mf yX10_use cX10_use 3 (some .int) 2 := ⟨q_1602, q_11, by decide +kernel, by decide +kernel, by decide +kernel⟩
set_option maxHeartbeats 4000000 in
set_option maxRecDepth 100000 in
theorem bk_X10_use_73 {D : va_G} {dA : Nat → ClassId} {base t0 : Nat} {l : Launch} {p : Program} {e : Env} {s : State} {m : MethodId} {args : Array Value} {below : List Frame} {meth : Method} {c : Code} (X : zz_X D dA base t0 "SpringseatModel" cX10_use 3 (some .int) l p s m meth c) (hT : l.stackTraces = false) {h : zz_H} {n : Nat} {H : Heap} {locs : List Loc} {ls : Array Slot} (hR : zz_R D dA base h n s H locs) (hl : lv_has ls 3 []) {r0 : Int32} {hF : zz_H} (hf : f_X10_use_73 h = some (r0, hF)) : W p l e rm_X10_use s m args below meth c H locs 0 0 (MQ below (zz_Qc D dA base (some (.int r0)) hF n) args s rm_X10_use.cells rm_X10_use.slots (fun q => base ≤ q)) (F0 m 73 ls []) := by
  have hx := X.1
  have hb := X.2.1
  have hown := X.2.2.2.2.1
  unfold f_X10_use_73 at hf
  refine lv_iconst (v := (0 : Int32)) hx hb dX10_use_73 (by decide) ?_
  cases hf
  exact zr_iret X hR dX10_use_74 (Nat.le_of_ble_eq_true rfl) (Nat.le_of_ble_eq_true rfl)
set_option maxHeartbeats 4000000 in
set_option maxRecDepth 100000 in
theorem bk_X10_use_66 {D : va_G} {dA : Nat → ClassId} {base t0 : Nat} {l : Launch} {p : Program} {e : Env} {s : State} {m : MethodId} {args : Array Value} {below : List Frame} {meth : Method} {c : Code} (X : zz_X D dA base t0 "SpringseatModel" cX10_use 3 (some .int) l p s m meth c) (hT : l.stackTraces = false) {a0 : Nat} {x1 : Int32} {x2 : Int32} {s0 : Int32} {s1 : (Option Nat)} {h : zz_H} {n : Nat} {H : Heap} {locs : List Loc} {ls : Array Slot} (hR : zz_R D dA base h n s H locs) (hl : lv_has ls 3 [(0, .ref a0), (1, .int x1), (2, .int x2)]) {r0 : Int32} {hF : zz_H} (hf : f_X10_use_66 a0 x1 x2 s0 s1 h = some (r0, hF)) : W p l e rm_X10_use s m args below meth c H locs 0 0 (MQ below (zz_Qc D dA base (some (.int r0)) hF n) args s rm_X10_use.cells rm_X10_use.slots (fun q => base ≤ q)) (F0 m 66 ls [.int s0, va_rf s1]) := by
  have hx := X.1
  have hb := X.2.1
  have hown := X.2.2.2.2.1
  unfold f_X10_use_66 at hf
  refine lv_iconst (v := (3 : Int32)) hx hb dX10_use_66 (by decide) ?_
  obtain ⟨b67, fs67, hr67, ho67, hf⟩ := zz_ob_i hf
  obtain ⟨v67, h67, hv67, hf⟩ := zz_b1_i hf
  refine zr_cV X hR hl.1 (As := [.int s0, .int (3 : Int32)]) (rest := []) (C := RX10) (T := TX10) (N := 34) (mt_X10_isThrown hT b67 s0 (3 : Int32) h n hv67) rfl ho67 mf_X10_isThrown q_1370 q_1372 qs_17 ⟨Nat.le_of_ble_eq_true rfl, Nat.le_of_ble_eq_true rfl⟩ ⟨Nat.le_of_ble_eq_true rfl, Nat.le_of_ble_eq_true rfl⟩ (by rw [hr67]; rfl) (Nat.le_of_ble_eq_true rfl) dX10_use_67 (fun H locs hR => ?_)
  refine W.eq (g2 := F0 m 70 ls [.int v67]) rfl ?_
  refine lv_if_eq (tgt := 75) hx hb dX10_use_70 (by decide) (fun c70 => ?_) (fun c70 => ?_)
  · replace hf := zz_pos c70 hf
    refine lv_aload_n hx hb dX10_use_75 rfl (lv_at hl 0 rfl) ?_
    refine lv_iload_n hx hb dX10_use_76 rfl (lv_at hl 1 rfl) ?_
    refine lv_iload_n hx hb dX10_use_77 rfl (lv_at hl 2 rfl) ?_
    obtain ⟨fs78, ho78, hf⟩ := zz_obS_i hf
    obtain ⟨v78, h78, hv78, hf⟩ := zz_b1_i hf
    refine zr_cV X hR hl.1 (As := [.int x1, .int x2]) (rest := []) (C := RX10) (T := TX10) (N := 34) (mt_X10_uses hT a0 x1 x2 h67 n hv78) rfl ho78 mf_X10_uses q_1604 q_1606 qs_41 ⟨Nat.le_of_ble_eq_true rfl, Nat.le_of_ble_eq_true rfl⟩ ⟨Nat.le_of_ble_eq_true rfl, Nat.le_of_ble_eq_true rfl⟩ rfl (Nat.le_of_ble_eq_true rfl) dX10_use_78 (fun H locs hR => ?_)
    refine W.eq (g2 := F0 m 81 ls [.int v78]) rfl ?_
    cases hf
    exact zr_iret X hR dX10_use_81 (Nat.le_of_ble_eq_true rfl) (Nat.le_of_ble_eq_true rfl)
  · replace hf := zz_neg c70 hf
    exact bk_X10_use_73 X hT hR (lv_sub hl [] rfl) hf
set_option maxHeartbeats 4000000 in
set_option maxRecDepth 100000 in
theorem bk_X10_use_61 {D : va_G} {dA : Nat → ClassId} {base t0 : Nat} {l : Launch} {p : Program} {e : Env} {s : State} {m : MethodId} {args : Array Value} {below : List Frame} {meth : Method} {c : Code} (X : zz_X D dA base t0 "SpringseatModel" cX10_use 3 (some .int) l p s m meth c) (hT : l.stackTraces = false) {a0 : Nat} {x1 : Int32} {x2 : Int32} {s0 : (Option Nat)} {h : zz_H} {n : Nat} {H : Heap} {locs : List Loc} {ls : Array Slot} (hR : zz_R D dA base h n s H locs) (hl : lv_has ls 3 [(0, .ref a0), (1, .int x1), (2, .int x2)]) {r0 : Int32} {hF : zz_H} (hf : f_X10_use_61 a0 x1 x2 s0 h = some (r0, hF)) : W p l e rm_X10_use s m args below meth c H locs 0 0 (MQ below (zz_Qc D dA base (some (.int r0)) hF n) args s rm_X10_use.cells rm_X10_use.slots (fun q => base ≤ q)) (F0 m 61 ls [va_rf s0]) := by
  have hx := X.1
  have hb := X.2.1
  have hown := X.2.2.2.2.1
  unfold f_X10_use_61 at hf
  refine lv_iconst (v := (1 : Int32)) hx hb dX10_use_61 (by decide) ?_
  refine lv_goto (tgt := 66) hx hb dX10_use_62 (by decide) ?_
  exact bk_X10_use_66 X hT hR (lv_sub hl [0, 1, 2] rfl) hf
set_option maxHeartbeats 4000000 in
set_option maxRecDepth 100000 in
theorem bk_X10_use_30 {D : va_G} {dA : Nat → ClassId} {base t0 : Nat} {l : Launch} {p : Program} {e : Env} {s : State} {m : MethodId} {args : Array Value} {below : List Frame} {meth : Method} {c : Code} (X : zz_X D dA base t0 "SpringseatModel" cX10_use 3 (some .int) l p s m meth c) (hT : l.stackTraces = false) {a0 : Nat} {x1 : Int32} {x2 : Int32} {s0 : Int32} {s1 : (Option Nat)} {h : zz_H} {n : Nat} {H : Heap} {locs : List Loc} {ls : Array Slot} (hR : zz_R D dA base h n s H locs) (hl : lv_has ls 3 [(0, .ref a0), (1, .int x1), (2, .int x2)]) {r0 : Int32} {hF : zz_H} (hf : f_X10_use_30 a0 x1 x2 s0 s1 h = some (r0, hF)) : W p l e rm_X10_use s m args below meth c H locs 0 0 (MQ below (zz_Qc D dA base (some (.int r0)) hF n) args s rm_X10_use.cells rm_X10_use.slots (fun q => base ≤ q)) (F0 m 30 ls [.int s0, va_rf s1]) := by
  have hx := X.1
  have hb := X.2.1
  have hown := X.2.2.2.2.1
  unfold f_X10_use_30 at hf
  refine lv_iconst (v := (2 : Int32)) hx hb dX10_use_30 (by decide) ?_
  obtain ⟨b31, fs31, hr31, ho31, hf⟩ := zz_ob_i hf
  obtain ⟨v31, h31, hv31, hf⟩ := zz_b1_i hf
  refine zr_cV X hR hl.1 (As := [.int s0, .int (2 : Int32)]) (rest := []) (C := RX10) (T := TX10) (N := 34) (mt_X10_isThrown hT b31 s0 (2 : Int32) h n hv31) rfl ho31 mf_X10_isThrown q_1370 q_1372 qs_17 ⟨Nat.le_of_ble_eq_true rfl, Nat.le_of_ble_eq_true rfl⟩ ⟨Nat.le_of_ble_eq_true rfl, Nat.le_of_ble_eq_true rfl⟩ (by rw [hr31]; rfl) (Nat.le_of_ble_eq_true rfl) dX10_use_31 (fun H locs hR => ?_)
  refine W.eq (g2 := F0 m 34 ls [.int v31]) rfl ?_
  refine lv_if_ne (tgt := 73) hx hb dX10_use_34 (by decide) (fun c34 => ?_) (fun c34 => ?_)
  · replace hf := zz_neg c34 hf
    exact bk_X10_use_73 X hT hR (lv_sub hl [] rfl) hf
  · replace hf := zz_pos c34 hf
    refine lv_aload_n hx hb dX10_use_37 rfl (lv_at hl 0 rfl) ?_
    refine lv_aload_n hx hb dX10_use_38 rfl (lv_at hl 0 rfl) ?_
    refine lv_iload_n hx hb dX10_use_39 rfl (lv_at hl 1 rfl) ?_
    obtain ⟨fs40, ho40, hf⟩ := zz_obS_i hf
    obtain ⟨v40, hv40, hf⟩ := zz_b_i hf
    refine zr_cV X hR hl.1 (As := [.int x1]) (rest := [.ref a0]) (C := RX10) (T := TX10) (N := 34) (mt_X10_last hT a0 x1 h31 n hv40) rfl ho40 mf_X10_last q_1386 q_1388 qs_20 ⟨Nat.le_of_ble_eq_true rfl, Nat.le_of_ble_eq_true rfl⟩ ⟨Nat.le_of_ble_eq_true rfl, Nat.le_of_ble_eq_true rfl⟩ rfl (Nat.le_of_ble_eq_true rfl) dX10_use_40 (fun H locs hR => ?_)
    refine W.eq (g2 := F0 m 43 ls [.int v40, .ref a0]) rfl ?_
    refine lv_bipush (v := (99 : Int32)) hx hb dX10_use_43 (by decide) ?_
    refine lv_icmp_ne (tgt := 61) hx hb dX10_use_45 (by decide) (fun c45 => ?_) (fun c45 => ?_)
    · replace hf := zz_neg c45 hf
      exact bk_X10_use_61 X hT hR (lv_sub hl [0, 1, 2] rfl) hf
    · replace hf := zz_pos c45 hf
      refine lv_aload_n hx hb dX10_use_48 rfl (lv_at hl 0 rfl) ?_
      refine zr_gq X hR (r := (some a0)) fl_X10_77 dX10_use_49 hf (fun v49 hf => ?_)
      refine lv_iload_n hx hb dX10_use_52 rfl (lv_at hl 1 rfl) ?_
      refine zr_iald X hR (r := v49) dX10_use_53 hf (fun v53 hf => ?_)
      refine lv_iload_n hx hb dX10_use_54 rfl (lv_at hl 2 rfl) ?_
      refine lv_iadd hx hb dX10_use_55 ?_
      refine lv_ldc hx hb hown (zz_w X q_1603) dX10_use_56 ?_
      refine lv_icmp_le (tgt := 65) hx hb dX10_use_58 (by decide) (fun c58 => ?_) (fun c58 => ?_)
      · replace hf := zz_pos c58 hf
        refine lv_iconst (v := (0 : Int32)) hx hb dX10_use_65 (by decide) ?_
        exact bk_X10_use_66 X hT hR (lv_sub hl [0, 1, 2] rfl) hf
      · replace hf := zz_neg c58 hf
        exact bk_X10_use_61 X hT hR (lv_sub hl [0, 1, 2] rfl) hf
set_option maxHeartbeats 4000000 in
set_option maxRecDepth 100000 in
theorem mt_X10_use {D : va_G} {dA : Nat → ClassId} {base t0 : Nat} {l : Launch} (hT : l.stackTraces = false) (a0 : Nat) (x1 : Int32) (x2 : Int32) (h : zz_H) (n : Nat) {r0 : Int32} {hF : zz_H} (hf : f_X10_use a0 x1 x2 h = some (r0, hF)) : zz_M D dA base t0 l yX10_use cX10_use 3 (some .int) rm_X10_use [.ref a0, .int x1, .int x2] h n (some (.int r0)) hF n := by
  refine Met.ofW (cc := cX10_use) (maxL := 3) (ret := (some .int)) (by decide +kernel) rfl ?_
  intro p e s m args below meth c s₁ B hml hv
  obtain ⟨rfl, hP, hK⟩ := hv
  have X : zz_X D dA base t0 "SpringseatModel" cX10_use 3 (some .int) l p s m meth c := ⟨B.exec, B.bytes, hml, B.returns, findClass_of_methodNamed B.named, B.notSynchronized, hT, by rw [hP.1]; exact hP.2.1, hK⟩
  have hx := X.1
  have hb := X.2.1
  have hown := X.2.2.2.2.1
  have hR : zz_R D dA base h n s s.heap [] := ⟨hP, va_S.rf⟩
  have hl := lv_entry ([.ref a0, .int x1, .int x2]) (n := 3) (by exact Nat.le_of_ble_eq_true rfl)
  rw [lg_entry_eq]
  generalize (lg_sl ([.ref a0, .int x1, .int x2]) ++ List.replicate (3 - (lg_sl ([.ref a0, .int x1, .int x2])).length) Slot.unset).toArray = ls at hl ⊢
  have hl : lv_has ls 3 [(0, .ref a0), (1, .int x1), (2, .int x2)] := hl
  unfold f_X10_use at hf
  refine lv_aload_n hx hb dX10_use_0 rfl (lv_at hl 0 rfl) ?_
  refine lv_aload_n hx hb dX10_use_1 rfl (lv_at hl 0 rfl) ?_
  refine lv_iload_n hx hb dX10_use_2 rfl (lv_at hl 1 rfl) ?_
  obtain ⟨fs3, ho3, hf⟩ := zz_obS_i hf
  obtain ⟨v3, hv3, hf⟩ := zz_b_i hf
  refine zr_cV X hR hl.1 (As := [.int x1]) (rest := [.ref a0]) (C := RX10) (T := TX10) (N := 34) (mt_X10_isNoSeat hT a0 x1 h n hv3) rfl ho3 mf_X10_isNoSeat q_1378 q_1380 qs_18 ⟨Nat.le_of_ble_eq_true rfl, Nat.le_of_ble_eq_true rfl⟩ ⟨Nat.le_of_ble_eq_true rfl, Nat.le_of_ble_eq_true rfl⟩ rfl (Nat.le_of_ble_eq_true rfl) dX10_use_3 (fun H locs hR => ?_)
  refine W.eq (g2 := F0 m 6 ls [.int v3, .ref a0]) rfl ?_
  refine lv_iconst (v := (1 : Int32)) hx hb dX10_use_6 (by decide) ?_
  obtain ⟨fs7, ho7, hf⟩ := zz_obS_i hf
  obtain ⟨v7, h7, hv7, hf⟩ := zz_b1_i hf
  refine zr_cV X hR hl.1 (As := [.int v3, .int (1 : Int32)]) (rest := []) (C := RX10) (T := TX10) (N := 34) (mt_X10_isThrown hT a0 v3 (1 : Int32) h n hv7) rfl ho7 mf_X10_isThrown q_1370 q_1372 qs_17 ⟨Nat.le_of_ble_eq_true rfl, Nat.le_of_ble_eq_true rfl⟩ ⟨Nat.le_of_ble_eq_true rfl, Nat.le_of_ble_eq_true rfl⟩ rfl (Nat.le_of_ble_eq_true rfl) dX10_use_7 (fun H locs hR => ?_)
  refine W.eq (g2 := F0 m 10 ls [.int v7]) rfl ?_
  refine lv_if_ne (tgt := 73) hx hb dX10_use_10 (by decide) (fun c10 => ?_) (fun c10 => ?_)
  · replace hf := zz_neg c10 hf
    exact bk_X10_use_73 X hT hR (lv_sub hl [] rfl) hf
  · replace hf := zz_pos c10 hf
    refine lv_aload_n hx hb dX10_use_13 rfl (lv_at hl 0 rfl) ?_
    refine lv_iload_n hx hb dX10_use_14 rfl (lv_at hl 2 rfl) ?_
    refine lv_iconst (v := (1 : Int32)) hx hb dX10_use_15 (by decide) ?_
    refine lv_sipush (v := (9999 : Int32)) hx hb dX10_use_16 (by decide) ?_
    obtain ⟨v19, hv19, hf⟩ := zz_b_i hf
    refine zr_cS X hR hl.1 (As := [.int x2, .int (1 : Int32), .int (9999 : Int32)]) (rest := [.ref a0]) (mt_X10_isIn hT x2 (1 : Int32) (9999 : Int32) h7 n hv19) mf_X10_isIn q_1367 q_1368 ⟨Nat.le_of_ble_eq_true rfl, Nat.le_of_ble_eq_true rfl⟩ ⟨Nat.le_of_ble_eq_true rfl, Nat.le_of_ble_eq_true rfl⟩ rfl (Nat.le_of_ble_eq_true rfl) dX10_use_19 (fun H locs hR => ?_)
    refine W.eq (g2 := F0 m 22 ls [.int v19, .ref a0]) rfl ?_
    refine lv_if_ne (tgt := 29) hx hb dX10_use_22 (by decide) (fun c22 => ?_) (fun c22 => ?_)
    · replace hf := zz_neg c22 hf
      refine lv_iconst (v := (0 : Int32)) hx hb dX10_use_29 (by decide) ?_
      exact bk_X10_use_30 X hT hR (lv_sub hl [0, 1, 2] rfl) hf
    · replace hf := zz_pos c22 hf
      refine lv_iconst (v := (1 : Int32)) hx hb dX10_use_25 (by decide) ?_
      refine lv_goto (tgt := 30) hx hb dX10_use_26 (by decide) ?_
      exact bk_X10_use_30 X hT hR (lv_sub hl [0, 1, 2] rfl) hf
def rm_X10_pound : Room := { frames := 5, cells := 0, slots := 0, locals := 117 }
theorem mf_X10_pound : zz_Mf yX10_pound cX10_pound 3 (some .int) 2 := ⟨q_1611, q_11, by decide +kernel, by decide +kernel, by decide +kernel⟩
set_option maxHeartbeats 4000000 in
set_option maxRecDepth 100000 in
theorem bk_X10_pound_75 {D : va_G} {dA : Nat → ClassId} {base t0 : Nat} {l : Launch} {p : Program} {e : Env} {s : State} {m : MethodId} {args : Array Value} {below : List Frame} {meth : Method} {c : Code} (X : zz_X D dA base t0 "SpringseatModel" cX10_pound 3 (some .int) l p s m meth c) (hT : l.stackTraces = false) {h : zz_H} {n : Nat} {H : Heap} {locs : List Loc} {ls : Array Slot} (hR : zz_R D dA base h n s H locs) (hl : lv_has ls 3 []) {r0 : Int32} {hF : zz_H} (hf : f_X10_pound_75 h = some (r0, hF)) : W p l e rm_X10_pound s m args below meth c H locs 0 0 (MQ below (zz_Qc D dA base (some (.int r0)) hF n) args s rm_X10_pound.cells rm_X10_pound.slots (fun q => base ≤ q)) (F0 m 75 ls []) := by
  have hx := X.1
  have hb := X.2.1
  have hown := X.2.2.2.2.1
  unfold f_X10_pound_75 at hf
  refine lv_iconst (v := (0 : Int32)) hx hb dX10_pound_75 (by decide) ?_
  cases hf
  exact zr_iret X hR dX10_pound_76 (Nat.le_of_ble_eq_true rfl) (Nat.le_of_ble_eq_true rfl)
set_option maxHeartbeats 4000000 in
set_option maxRecDepth 100000 in
theorem bk_X10_pound_68 {D : va_G} {dA : Nat → ClassId} {base t0 : Nat} {l : Launch} {p : Program} {e : Env} {s : State} {m : MethodId} {args : Array Value} {below : List Frame} {meth : Method} {c : Code} (X : zz_X D dA base t0 "SpringseatModel" cX10_pound 3 (some .int) l p s m meth c) (hT : l.stackTraces = false) {a0 : Nat} {x1 : Int32} {x2 : Int32} {s0 : Int32} {s1 : (Option Nat)} {h : zz_H} {n : Nat} {H : Heap} {locs : List Loc} {ls : Array Slot} (hR : zz_R D dA base h n s H locs) (hl : lv_has ls 3 [(0, .ref a0), (1, .int x1), (2, .int x2)]) {r0 : Int32} {hF : zz_H} (hf : f_X10_pound_68 a0 x1 x2 s0 s1 h = some (r0, hF)) : W p l e rm_X10_pound s m args below meth c H locs 0 0 (MQ below (zz_Qc D dA base (some (.int r0)) hF n) args s rm_X10_pound.cells rm_X10_pound.slots (fun q => base ≤ q)) (F0 m 68 ls [.int s0, va_rf s1]) := by
  have hx := X.1
  have hb := X.2.1
  have hown := X.2.2.2.2.1
  unfold f_X10_pound_68 at hf
  refine lv_iconst (v := (3 : Int32)) hx hb dX10_pound_68 (by decide) ?_
  obtain ⟨b69, fs69, hr69, ho69, hf⟩ := zz_ob_i hf
  obtain ⟨v69, h69, hv69, hf⟩ := zz_b1_i hf
  refine zr_cV X hR hl.1 (As := [.int s0, .int (3 : Int32)]) (rest := []) (C := RX10) (T := TX10) (N := 34) (mt_X10_isThrown hT b69 s0 (3 : Int32) h n hv69) rfl ho69 mf_X10_isThrown q_1370 q_1372 qs_17 ⟨Nat.le_of_ble_eq_true rfl, Nat.le_of_ble_eq_true rfl⟩ ⟨Nat.le_of_ble_eq_true rfl, Nat.le_of_ble_eq_true rfl⟩ (by rw [hr69]; rfl) (Nat.le_of_ble_eq_true rfl) dX10_pound_69 (fun H locs hR => ?_)
  refine W.eq (g2 := F0 m 72 ls [.int v69]) rfl ?_
  refine lv_if_eq (tgt := 77) hx hb dX10_pound_72 (by decide) (fun c72 => ?_) (fun c72 => ?_)
  · replace hf := zz_pos c72 hf
    refine lv_aload_n hx hb dX10_pound_77 rfl (lv_at hl 0 rfl) ?_
    refine lv_iload_n hx hb dX10_pound_78 rfl (lv_at hl 1 rfl) ?_
    refine lv_iconst (v := (3 : Int32)) hx hb dX10_pound_79 (by decide) ?_
    refine lv_iload_n hx hb dX10_pound_80 rfl (lv_at hl 2 rfl) ?_
    refine lv_imul hx hb dX10_pound_81 ?_
    obtain ⟨fs82, ho82, hf⟩ := zz_obS_i hf
    obtain ⟨v82, h82, hv82, hf⟩ := zz_b1_i hf
    refine zr_cV X hR hl.1 (As := [.int x1, .int ((3 : Int32) * x2)]) (rest := []) (C := RX10) (T := TX10) (N := 34) (mt_X10_uses hT a0 x1 ((3 : Int32) * x2) h69 n hv82) rfl ho82 mf_X10_uses q_1604 q_1606 qs_41 ⟨Nat.le_of_ble_eq_true rfl, Nat.le_of_ble_eq_true rfl⟩ ⟨Nat.le_of_ble_eq_true rfl, Nat.le_of_ble_eq_true rfl⟩ rfl (Nat.le_of_ble_eq_true rfl) dX10_pound_82 (fun H locs hR => ?_)
    refine W.eq (g2 := F0 m 85 ls [.int v82]) rfl ?_
    cases hf
    exact zr_iret X hR dX10_pound_85 (Nat.le_of_ble_eq_true rfl) (Nat.le_of_ble_eq_true rfl)
  · replace hf := zz_neg c72 hf
    exact bk_X10_pound_75 X hT hR (lv_sub hl [] rfl) hf
set_option maxHeartbeats 4000000 in
set_option maxRecDepth 100000 in
theorem bk_X10_pound_63 {D : va_G} {dA : Nat → ClassId} {base t0 : Nat} {l : Launch} {p : Program} {e : Env} {s : State} {m : MethodId} {args : Array Value} {below : List Frame} {meth : Method} {c : Code} (X : zz_X D dA base t0 "SpringseatModel" cX10_pound 3 (some .int) l p s m meth c) (hT : l.stackTraces = false) {a0 : Nat} {x1 : Int32} {x2 : Int32} {s0 : (Option Nat)} {h : zz_H} {n : Nat} {H : Heap} {locs : List Loc} {ls : Array Slot} (hR : zz_R D dA base h n s H locs) (hl : lv_has ls 3 [(0, .ref a0), (1, .int x1), (2, .int x2)]) {r0 : Int32} {hF : zz_H} (hf : f_X10_pound_63 a0 x1 x2 s0 h = some (r0, hF)) : W p l e rm_X10_pound s m args below meth c H locs 0 0 (MQ below (zz_Qc D dA base (some (.int r0)) hF n) args s rm_X10_pound.cells rm_X10_pound.slots (fun q => base ≤ q)) (F0 m 63 ls [va_rf s0]) := by
  have hx := X.1
  have hb := X.2.1
  have hown := X.2.2.2.2.1
  unfold f_X10_pound_63 at hf
  refine lv_iconst (v := (1 : Int32)) hx hb dX10_pound_63 (by decide) ?_
  refine lv_goto (tgt := 68) hx hb dX10_pound_64 (by decide) ?_
  exact bk_X10_pound_68 X hT hR (lv_sub hl [0, 1, 2] rfl) hf
set_option maxHeartbeats 4000000 in
set_option maxRecDepth 100000 in
theorem bk_X10_pound_30 {D : va_G} {dA : Nat → ClassId} {base t0 : Nat} {l : Launch} {p : Program} {e : Env} {s : State} {m : MethodId} {args : Array Value} {below : List Frame} {meth : Method} {c : Code} (X : zz_X D dA base t0 "SpringseatModel" cX10_pound 3 (some .int) l p s m meth c) (hT : l.stackTraces = false) {a0 : Nat} {x1 : Int32} {x2 : Int32} {s0 : Int32} {s1 : (Option Nat)} {h : zz_H} {n : Nat} {H : Heap} {locs : List Loc} {ls : Array Slot} (hR : zz_R D dA base h n s H locs) (hl : lv_has ls 3 [(0, .ref a0), (1, .int x1), (2, .int x2)]) {r0 : Int32} {hF : zz_H} (hf : f_X10_pound_30 a0 x1 x2 s0 s1 h = some (r0, hF)) : W p l e rm_X10_pound s m args below meth c H locs 0 0 (MQ below (zz_Qc D dA base (some (.int r0)) hF n) args s rm_X10_pound.cells rm_X10_pound.slots (fun q => base ≤ q)) (F0 m 30 ls [.int s0, va_rf s1]) := by
  have hx := X.1
  have hb := X.2.1
  have hown := X.2.2.2.2.1
  unfold f_X10_pound_30 at hf
  refine lv_iconst (v := (2 : Int32)) hx hb dX10_pound_30 (by decide) ?_
  obtain ⟨b31, fs31, hr31, ho31, hf⟩ := zz_ob_i hf
  obtain ⟨v31, h31, hv31, hf⟩ := zz_b1_i hf
  refine zr_cV X hR hl.1 (As := [.int s0, .int (2 : Int32)]) (rest := []) (C := RX10) (T := TX10) (N := 34) (mt_X10_isThrown hT b31 s0 (2 : Int32) h n hv31) rfl ho31 mf_X10_isThrown q_1370 q_1372 qs_17 ⟨Nat.le_of_ble_eq_true rfl, Nat.le_of_ble_eq_true rfl⟩ ⟨Nat.le_of_ble_eq_true rfl, Nat.le_of_ble_eq_true rfl⟩ (by rw [hr31]; rfl) (Nat.le_of_ble_eq_true rfl) dX10_pound_31 (fun H locs hR => ?_)
  refine W.eq (g2 := F0 m 34 ls [.int v31]) rfl ?_
  refine lv_if_ne (tgt := 75) hx hb dX10_pound_34 (by decide) (fun c34 => ?_) (fun c34 => ?_)
  · replace hf := zz_neg c34 hf
    exact bk_X10_pound_75 X hT hR (lv_sub hl [] rfl) hf
  · replace hf := zz_pos c34 hf
    refine lv_aload_n hx hb dX10_pound_37 rfl (lv_at hl 0 rfl) ?_
    refine lv_aload_n hx hb dX10_pound_38 rfl (lv_at hl 0 rfl) ?_
    refine lv_iload_n hx hb dX10_pound_39 rfl (lv_at hl 1 rfl) ?_
    obtain ⟨fs40, ho40, hf⟩ := zz_obS_i hf
    obtain ⟨v40, hv40, hf⟩ := zz_b_i hf
    refine zr_cV X hR hl.1 (As := [.int x1]) (rest := [.ref a0]) (C := RX10) (T := TX10) (N := 34) (mt_X10_last hT a0 x1 h31 n hv40) rfl ho40 mf_X10_last q_1386 q_1388 qs_20 ⟨Nat.le_of_ble_eq_true rfl, Nat.le_of_ble_eq_true rfl⟩ ⟨Nat.le_of_ble_eq_true rfl, Nat.le_of_ble_eq_true rfl⟩ rfl (Nat.le_of_ble_eq_true rfl) dX10_pound_40 (fun H locs hR => ?_)
    refine W.eq (g2 := F0 m 43 ls [.int v40, .ref a0]) rfl ?_
    refine lv_bipush (v := (99 : Int32)) hx hb dX10_pound_43 (by decide) ?_
    refine lv_icmp_ne (tgt := 63) hx hb dX10_pound_45 (by decide) (fun c45 => ?_) (fun c45 => ?_)
    · replace hf := zz_neg c45 hf
      exact bk_X10_pound_63 X hT hR (lv_sub hl [0, 1, 2] rfl) hf
    · replace hf := zz_pos c45 hf
      refine lv_aload_n hx hb dX10_pound_48 rfl (lv_at hl 0 rfl) ?_
      refine zr_gq X hR (r := (some a0)) fl_X10_77 dX10_pound_49 hf (fun v49 hf => ?_)
      refine lv_iload_n hx hb dX10_pound_52 rfl (lv_at hl 1 rfl) ?_
      refine zr_iald X hR (r := v49) dX10_pound_53 hf (fun v53 hf => ?_)
      refine lv_iconst (v := (3 : Int32)) hx hb dX10_pound_54 (by decide) ?_
      refine lv_iload_n hx hb dX10_pound_55 rfl (lv_at hl 2 rfl) ?_
      refine lv_imul hx hb dX10_pound_56 ?_
      refine lv_iadd hx hb dX10_pound_57 ?_
      refine lv_ldc hx hb hown (zz_w X q_1603) dX10_pound_58 ?_
      refine lv_icmp_le (tgt := 67) hx hb dX10_pound_60 (by decide) (fun c60 => ?_) (fun c60 => ?_)
      · replace hf := zz_pos c60 hf
        refine lv_iconst (v := (0 : Int32)) hx hb dX10_pound_67 (by decide) ?_
        exact bk_X10_pound_68 X hT hR (lv_sub hl [0, 1, 2] rfl) hf
      · replace hf := zz_neg c60 hf
        exact bk_X10_pound_63 X hT hR (lv_sub hl [0, 1, 2] rfl) hf
set_option maxHeartbeats 4000000 in
set_option maxRecDepth 100000 in
theorem mt_X10_pound {D : va_G} {dA : Nat → ClassId} {base t0 : Nat} {l : Launch} (hT : l.stackTraces = false) (a0 : Nat) (x1 : Int32) (x2 : Int32) (h : zz_H) (n : Nat) {r0 : Int32} {hF : zz_H} (hf : f_X10_pound a0 x1 x2 h = some (r0, hF)) : zz_M D dA base t0 l yX10_pound cX10_pound 3 (some .int) rm_X10_pound [.ref a0, .int x1, .int x2] h n (some (.int r0)) hF n := by
  refine Met.ofW (cc := cX10_pound) (maxL := 3) (ret := (some .int)) (by decide +kernel) rfl ?_
  intro p e s m args below meth c s₁ B hml hv
  obtain ⟨rfl, hP, hK⟩ := hv
  have X : zz_X D dA base t0 "SpringseatModel" cX10_pound 3 (some .int) l p s m meth c := ⟨B.exec, B.bytes, hml, B.returns, findClass_of_methodNamed B.named, B.notSynchronized, hT, by rw [hP.1]; exact hP.2.1, hK⟩
  have hx := X.1
  have hb := X.2.1
  have hown := X.2.2.2.2.1
  have hR : zz_R D dA base h n s s.heap [] := ⟨hP, va_S.rf⟩
  have hl := lv_entry ([.ref a0, .int x1, .int x2]) (n := 3) (by exact Nat.le_of_ble_eq_true rfl)
  rw [lg_entry_eq]
  generalize (lg_sl ([.ref a0, .int x1, .int x2]) ++ List.replicate (3 - (lg_sl ([.ref a0, .int x1, .int x2])).length) Slot.unset).toArray = ls at hl ⊢
  have hl : lv_has ls 3 [(0, .ref a0), (1, .int x1), (2, .int x2)] := hl
  unfold f_X10_pound at hf
  refine lv_aload_n hx hb dX10_pound_0 rfl (lv_at hl 0 rfl) ?_
  refine lv_aload_n hx hb dX10_pound_1 rfl (lv_at hl 0 rfl) ?_
  refine lv_iload_n hx hb dX10_pound_2 rfl (lv_at hl 1 rfl) ?_
  obtain ⟨fs3, ho3, hf⟩ := zz_obS_i hf
  obtain ⟨v3, hv3, hf⟩ := zz_b_i hf
  refine zr_cV X hR hl.1 (As := [.int x1]) (rest := [.ref a0]) (C := RX10) (T := TX10) (N := 34) (mt_X10_isNoSeat hT a0 x1 h n hv3) rfl ho3 mf_X10_isNoSeat q_1378 q_1380 qs_18 ⟨Nat.le_of_ble_eq_true rfl, Nat.le_of_ble_eq_true rfl⟩ ⟨Nat.le_of_ble_eq_true rfl, Nat.le_of_ble_eq_true rfl⟩ rfl (Nat.le_of_ble_eq_true rfl) dX10_pound_3 (fun H locs hR => ?_)
  refine W.eq (g2 := F0 m 6 ls [.int v3, .ref a0]) rfl ?_
  refine lv_iconst (v := (1 : Int32)) hx hb dX10_pound_6 (by decide) ?_
  obtain ⟨fs7, ho7, hf⟩ := zz_obS_i hf
  obtain ⟨v7, h7, hv7, hf⟩ := zz_b1_i hf
  refine zr_cV X hR hl.1 (As := [.int v3, .int (1 : Int32)]) (rest := []) (C := RX10) (T := TX10) (N := 34) (mt_X10_isThrown hT a0 v3 (1 : Int32) h n hv7) rfl ho7 mf_X10_isThrown q_1370 q_1372 qs_17 ⟨Nat.le_of_ble_eq_true rfl, Nat.le_of_ble_eq_true rfl⟩ ⟨Nat.le_of_ble_eq_true rfl, Nat.le_of_ble_eq_true rfl⟩ rfl (Nat.le_of_ble_eq_true rfl) dX10_pound_7 (fun H locs hR => ?_)
  refine W.eq (g2 := F0 m 10 ls [.int v7]) rfl ?_
  refine lv_if_ne (tgt := 75) hx hb dX10_pound_10 (by decide) (fun c10 => ?_) (fun c10 => ?_)
  · replace hf := zz_neg c10 hf
    exact bk_X10_pound_75 X hT hR (lv_sub hl [] rfl) hf
  · replace hf := zz_pos c10 hf
    refine lv_aload_n hx hb dX10_pound_13 rfl (lv_at hl 0 rfl) ?_
    refine lv_iload_n hx hb dX10_pound_14 rfl (lv_at hl 2 rfl) ?_
    refine lv_iconst (v := (1 : Int32)) hx hb dX10_pound_15 (by decide) ?_
    refine lv_sipush (v := (3000 : Int32)) hx hb dX10_pound_16 (by decide) ?_
    obtain ⟨v19, hv19, hf⟩ := zz_b_i hf
    refine zr_cS X hR hl.1 (As := [.int x2, .int (1 : Int32), .int (3000 : Int32)]) (rest := [.ref a0]) (mt_X10_isIn hT x2 (1 : Int32) (3000 : Int32) h7 n hv19) mf_X10_isIn q_1367 q_1368 ⟨Nat.le_of_ble_eq_true rfl, Nat.le_of_ble_eq_true rfl⟩ ⟨Nat.le_of_ble_eq_true rfl, Nat.le_of_ble_eq_true rfl⟩ rfl (Nat.le_of_ble_eq_true rfl) dX10_pound_19 (fun H locs hR => ?_)
    refine W.eq (g2 := F0 m 22 ls [.int v19, .ref a0]) rfl ?_
    refine lv_if_ne (tgt := 29) hx hb dX10_pound_22 (by decide) (fun c22 => ?_) (fun c22 => ?_)
    · replace hf := zz_neg c22 hf
      refine lv_iconst (v := (0 : Int32)) hx hb dX10_pound_29 (by decide) ?_
      exact bk_X10_pound_30 X hT hR (lv_sub hl [0, 1, 2] rfl) hf
    · replace hf := zz_pos c22 hf
      refine lv_iconst (v := (1 : Int32)) hx hb dX10_pound_25 (by decide) ?_
      refine lv_goto (tgt := 30) hx hb dX10_pound_26 (by decide) ?_
      exact bk_X10_pound_30 X hT hR (lv_sub hl [0, 1, 2] rfl) hf
def rm_X10_hours : Room := { frames := 2, cells := 0, slots := 0, locals := 43 }
theorem mf_X10_hours : zz_Mf yX10_hours cX10_hours 2 (some .int) 1 := ⟨q_1615, q_11, by decide +kernel, by decide +kernel, by decide +kernel⟩
set_option maxHeartbeats 4000000 in
set_option maxRecDepth 100000 in
theorem bk_X10_hours_46 {D : va_G} {dA : Nat → ClassId} {base t0 : Nat} {l : Launch} {p : Program} {e : Env} {s : State} {m : MethodId} {args : Array Value} {below : List Frame} {meth : Method} {c : Code} (X : zz_X D dA base t0 "SpringseatModel" cX10_hours 2 (some .int) l p s m meth c) (hT : l.stackTraces = false) {s0 : Int32} {h : zz_H} {n : Nat} {H : Heap} {locs : List Loc} {ls : Array Slot} (hR : zz_R D dA base h n s H locs) (hl : lv_has ls 2 []) {r0 : Int32} {hF : zz_H} (hf : f_X10_hours_46 s0 h = some (r0, hF)) : W p l e rm_X10_hours s m args below meth c H locs 0 0 (MQ below (zz_Qc D dA base (some (.int r0)) hF n) args s rm_X10_hours.cells rm_X10_hours.slots (fun q => base ≤ q)) (F0 m 46 ls [.int s0]) := by
  have hx := X.1
  have hb := X.2.1
  have hown := X.2.2.2.2.1
  unfold f_X10_hours_46 at hf
  cases hf
  exact zr_iret X hR dX10_hours_46 (Nat.le_of_ble_eq_true rfl) (Nat.le_of_ble_eq_true rfl)
set_option maxHeartbeats 4000000 in
set_option maxRecDepth 100000 in
theorem bk_X10_hours_36 {D : va_G} {dA : Nat → ClassId} {base t0 : Nat} {l : Launch} {p : Program} {e : Env} {s : State} {m : MethodId} {args : Array Value} {below : List Frame} {meth : Method} {c : Code} (X : zz_X D dA base t0 "SpringseatModel" cX10_hours 2 (some .int) l p s m meth c) (hT : l.stackTraces = false) {h : zz_H} {n : Nat} {H : Heap} {locs : List Loc} {ls : Array Slot} (hR : zz_R D dA base h n s H locs) (hl : lv_has ls 2 []) {r0 : Int32} {hF : zz_H} (hf : f_X10_hours_36 h = some (r0, hF)) : W p l e rm_X10_hours s m args below meth c H locs 0 0 (MQ below (zz_Qc D dA base (some (.int r0)) hF n) args s rm_X10_hours.cells rm_X10_hours.slots (fun q => base ≤ q)) (F0 m 36 ls []) := by
  have hx := X.1
  have hb := X.2.1
  have hown := X.2.2.2.2.1
  unfold f_X10_hours_36 at hf
  refine lv_iconst (v := (0 : Int32)) hx hb dX10_hours_36 (by decide) ?_
  refine lv_goto (tgt := 46) hx hb dX10_hours_37 (by decide) ?_
  exact bk_X10_hours_46 X hT hR (lv_sub hl [] rfl) hf
set_option maxHeartbeats 4000000 in
set_option maxRecDepth 100000 in
theorem bk_X10_hours_29 {D : va_G} {dA : Nat → ClassId} {base t0 : Nat} {l : Launch} {p : Program} {e : Env} {s : State} {m : MethodId} {args : Array Value} {below : List Frame} {meth : Method} {c : Code} (X : zz_X D dA base t0 "SpringseatModel" cX10_hours 2 (some .int) l p s m meth c) (hT : l.stackTraces = false) {a0 : Nat} {x1 : Int32} {s0 : Int32} {s1 : (Option Nat)} {h : zz_H} {n : Nat} {H : Heap} {locs : List Loc} {ls : Array Slot} (hR : zz_R D dA base h n s H locs) (hl : lv_has ls 2 [(0, .ref a0), (1, .int x1)]) {r0 : Int32} {hF : zz_H} (hf : f_X10_hours_29 a0 x1 s0 s1 h = some (r0, hF)) : W p l e rm_X10_hours s m args below meth c H locs 0 0 (MQ below (zz_Qc D dA base (some (.int r0)) hF n) args s rm_X10_hours.cells rm_X10_hours.slots (fun q => base ≤ q)) (F0 m 29 ls [.int s0, va_rf s1]) := by
  have hx := X.1
  have hb := X.2.1
  have hown := X.2.2.2.2.1
  unfold f_X10_hours_29 at hf
  refine lv_iconst (v := (2 : Int32)) hx hb dX10_hours_29 (by decide) ?_
  obtain ⟨b30, fs30, hr30, ho30, hf⟩ := zz_ob_i hf
  obtain ⟨v30, h30, hv30, hf⟩ := zz_b1_i hf
  refine zr_cV X hR hl.1 (As := [.int s0, .int (2 : Int32)]) (rest := []) (C := RX10) (T := TX10) (N := 34) (mt_X10_isThrown hT b30 s0 (2 : Int32) h n hv30) rfl ho30 mf_X10_isThrown q_1370 q_1372 qs_17 ⟨Nat.le_of_ble_eq_true rfl, Nat.le_of_ble_eq_true rfl⟩ ⟨Nat.le_of_ble_eq_true rfl, Nat.le_of_ble_eq_true rfl⟩ (by rw [hr30]; rfl) (Nat.le_of_ble_eq_true rfl) dX10_hours_30 (fun H locs hR => ?_)
  refine W.eq (g2 := F0 m 33 ls [.int v30]) rfl ?_
  refine lv_if_eq (tgt := 40) hx hb dX10_hours_33 (by decide) (fun c33 => ?_) (fun c33 => ?_)
  · replace hf := zz_pos c33 hf
    refine lv_aload_n hx hb dX10_hours_40 rfl (lv_at hl 0 rfl) ?_
    refine zr_gq X hR (r := (some a0)) fl_X10_77 dX10_hours_41 hf (fun v41 hf => ?_)
    refine lv_iload_n hx hb dX10_hours_44 rfl (lv_at hl 1 rfl) ?_
    refine zr_iald X hR (r := v41) dX10_hours_45 hf (fun v45 hf => ?_)
    exact bk_X10_hours_46 X hT hR (lv_sub hl [] rfl) hf
  · replace hf := zz_neg c33 hf
    exact bk_X10_hours_36 X hT hR (lv_sub hl [] rfl) hf
set_option maxHeartbeats 4000000 in
set_option maxRecDepth 100000 in
theorem mt_X10_hours {D : va_G} {dA : Nat → ClassId} {base t0 : Nat} {l : Launch} (hT : l.stackTraces = false) (a0 : Nat) (x1 : Int32) (h : zz_H) (n : Nat) {r0 : Int32} {hF : zz_H} (hf : f_X10_hours a0 x1 h = some (r0, hF)) : zz_M D dA base t0 l yX10_hours cX10_hours 2 (some .int) rm_X10_hours [.ref a0, .int x1] h n (some (.int r0)) hF n := by
  refine Met.ofW (cc := cX10_hours) (maxL := 2) (ret := (some .int)) (by decide +kernel) rfl ?_
  intro p e s m args below meth c s₁ B hml hv
  obtain ⟨rfl, hP, hK⟩ := hv
  have X : zz_X D dA base t0 "SpringseatModel" cX10_hours 2 (some .int) l p s m meth c := ⟨B.exec, B.bytes, hml, B.returns, findClass_of_methodNamed B.named, B.notSynchronized, hT, by rw [hP.1]; exact hP.2.1, hK⟩
  have hx := X.1
  have hb := X.2.1
  have hown := X.2.2.2.2.1
  have hR : zz_R D dA base h n s s.heap [] := ⟨hP, va_S.rf⟩
  have hl := lv_entry ([.ref a0, .int x1]) (n := 2) (by exact Nat.le_of_ble_eq_true rfl)
  rw [lg_entry_eq]
  generalize (lg_sl ([.ref a0, .int x1]) ++ List.replicate (2 - (lg_sl ([.ref a0, .int x1])).length) Slot.unset).toArray = ls at hl ⊢
  have hl : lv_has ls 2 [(0, .ref a0), (1, .int x1)] := hl
  unfold f_X10_hours at hf
  refine lv_aload_n hx hb dX10_hours_0 rfl (lv_at hl 0 rfl) ?_
  refine lv_aload_n hx hb dX10_hours_1 rfl (lv_at hl 0 rfl) ?_
  refine lv_iload_n hx hb dX10_hours_2 rfl (lv_at hl 1 rfl) ?_
  obtain ⟨fs3, ho3, hf⟩ := zz_obS_i hf
  obtain ⟨v3, hv3, hf⟩ := zz_b_i hf
  refine zr_cV X hR hl.1 (As := [.int x1]) (rest := [.ref a0]) (C := RX10) (T := TX10) (N := 34) (mt_X10_isNoSeat hT a0 x1 h n hv3) rfl ho3 mf_X10_isNoSeat q_1378 q_1380 qs_18 ⟨Nat.le_of_ble_eq_true rfl, Nat.le_of_ble_eq_true rfl⟩ ⟨Nat.le_of_ble_eq_true rfl, Nat.le_of_ble_eq_true rfl⟩ rfl (Nat.le_of_ble_eq_true rfl) dX10_hours_3 (fun H locs hR => ?_)
  refine W.eq (g2 := F0 m 6 ls [.int v3, .ref a0]) rfl ?_
  refine lv_iconst (v := (1 : Int32)) hx hb dX10_hours_6 (by decide) ?_
  obtain ⟨fs7, ho7, hf⟩ := zz_obS_i hf
  obtain ⟨v7, h7, hv7, hf⟩ := zz_b1_i hf
  refine zr_cV X hR hl.1 (As := [.int v3, .int (1 : Int32)]) (rest := []) (C := RX10) (T := TX10) (N := 34) (mt_X10_isThrown hT a0 v3 (1 : Int32) h n hv7) rfl ho7 mf_X10_isThrown q_1370 q_1372 qs_17 ⟨Nat.le_of_ble_eq_true rfl, Nat.le_of_ble_eq_true rfl⟩ ⟨Nat.le_of_ble_eq_true rfl, Nat.le_of_ble_eq_true rfl⟩ rfl (Nat.le_of_ble_eq_true rfl) dX10_hours_7 (fun H locs hR => ?_)
  refine W.eq (g2 := F0 m 10 ls [.int v7]) rfl ?_
  refine lv_if_ne (tgt := 36) hx hb dX10_hours_10 (by decide) (fun c10 => ?_) (fun c10 => ?_)
  · replace hf := zz_neg c10 hf
    exact bk_X10_hours_36 X hT hR (lv_sub hl [] rfl) hf
  · replace hf := zz_pos c10 hf
    refine lv_aload_n hx hb dX10_hours_13 rfl (lv_at hl 0 rfl) ?_
    refine lv_aload_n hx hb dX10_hours_14 rfl (lv_at hl 0 rfl) ?_
    refine lv_iload_n hx hb dX10_hours_15 rfl (lv_at hl 1 rfl) ?_
    obtain ⟨fs16, ho16, hf⟩ := zz_obS_i hf
    obtain ⟨v16, hv16, hf⟩ := zz_b_i hf
    refine zr_cV X hR hl.1 (As := [.int x1]) (rest := [.ref a0]) (C := RX10) (T := TX10) (N := 34) (mt_X10_last hT a0 x1 h7 n hv16) rfl ho16 mf_X10_last q_1386 q_1388 qs_20 ⟨Nat.le_of_ble_eq_true rfl, Nat.le_of_ble_eq_true rfl⟩ ⟨Nat.le_of_ble_eq_true rfl, Nat.le_of_ble_eq_true rfl⟩ rfl (Nat.le_of_ble_eq_true rfl) dX10_hours_16 (fun H locs hR => ?_)
    refine W.eq (g2 := F0 m 19 ls [.int v16, .ref a0]) rfl ?_
    refine lv_bipush (v := (99 : Int32)) hx hb dX10_hours_19 (by decide) ?_
    refine lv_icmp_eq (tgt := 28) hx hb dX10_hours_21 (by decide) (fun c21 => ?_) (fun c21 => ?_)
    · replace hf := zz_pos c21 hf
      refine lv_iconst (v := (0 : Int32)) hx hb dX10_hours_28 (by decide) ?_
      exact bk_X10_hours_29 X hT hR (lv_sub hl [0, 1] rfl) hf
    · replace hf := zz_neg c21 hf
      refine lv_iconst (v := (1 : Int32)) hx hb dX10_hours_24 (by decide) ?_
      refine lv_goto (tgt := 29) hx hb dX10_hours_25 (by decide) ?_
      exact bk_X10_hours_29 X hT hR (lv_sub hl [0, 1] rfl) hf
def rm_X10_land : Room := { frames := 1, cells := 0, slots := 0, locals := 22 }
theorem mf_X10_land : zz_Mf yX10_land cX10_land 5 (some .int) 3 := ⟨q_1619, q_11, by decide +kernel, by decide +kernel, by decide +kernel⟩
set_option maxHeartbeats 4000000 in
set_option maxRecDepth 100000 in
theorem bk_X10_land_57 {D : va_G} {dA : Nat → ClassId} {base t0 : Nat} {l : Launch} {p : Program} {e : Env} {s : State} {m : MethodId} {args : Array Value} {below : List Frame} {meth : Method} {c : Code} (X : zz_X D dA base t0 "SpringseatModel" cX10_land 5 (some .int) l p s m meth c) (hT : l.stackTraces = false) {h : zz_H} {n : Nat} {H : Heap} {locs : List Loc} {ls : Array Slot} (hR : zz_R D dA base h n s H locs) (hl : lv_has ls 5 []) {r0 : Int32} {hF : zz_H} (hf : f_X10_land_57 h = some (r0, hF)) : W p l e rm_X10_land s m args below meth c H locs 0 0 (MQ below (zz_Qc D dA base (some (.int r0)) hF n) args s rm_X10_land.cells rm_X10_land.slots (fun q => base ≤ q)) (F0 m 57 ls []) := by
  have hx := X.1
  have hb := X.2.1
  have hown := X.2.2.2.2.1
  unfold f_X10_land_57 at hf
  refine lv_iconst (v := (0 : Int32)) hx hb dX10_land_57 (by decide) ?_
  cases hf
  exact zr_iret X hR dX10_land_58 (Nat.le_of_ble_eq_true rfl) (Nat.le_of_ble_eq_true rfl)
set_option maxHeartbeats 4000000 in
set_option maxRecDepth 100000 in
theorem bk_X10_land_50 {D : va_G} {dA : Nat → ClassId} {base t0 : Nat} {l : Launch} {p : Program} {e : Env} {s : State} {m : MethodId} {args : Array Value} {below : List Frame} {meth : Method} {c : Code} (X : zz_X D dA base t0 "SpringseatModel" cX10_land 5 (some .int) l p s m meth c) (hT : l.stackTraces = false) {a0 : Nat} {x1 : Int32} {x2 : Int32} {x3 : Int32} {s0 : Int32} {s1 : (Option Nat)} {h : zz_H} {n : Nat} {H : Heap} {locs : List Loc} {ls : Array Slot} (hR : zz_R D dA base h n s H locs) (hl : lv_has ls 5 [(0, .ref a0), (1, .int x1), (2, .int x2), (3, .int x3)]) {r0 : Int32} {hF : zz_H} (hf : f_X10_land_50 a0 x1 x2 x3 s0 s1 h = some (r0, hF)) : W p l e rm_X10_land s m args below meth c H locs 0 0 (MQ below (zz_Qc D dA base (some (.int r0)) hF n) args s rm_X10_land.cells rm_X10_land.slots (fun q => base ≤ q)) (F0 m 50 ls [.int s0, va_rf s1]) := by
  have hx := X.1
  have hb := X.2.1
  have hown := X.2.2.2.2.1
  unfold f_X10_land_50 at hf
  refine lv_iconst (v := (2 : Int32)) hx hb dX10_land_50 (by decide) ?_
  obtain ⟨b51, fs51, hr51, ho51, hf⟩ := zz_ob_i hf
  obtain ⟨v51, h51, hv51, hf⟩ := zz_b1_i hf
  refine zr_cV X hR hl.1 (As := [.int s0, .int (2 : Int32)]) (rest := []) (C := RX10) (T := TX10) (N := 34) (mt_X10_isThrown hT b51 s0 (2 : Int32) h n hv51) rfl ho51 mf_X10_isThrown q_1370 q_1372 qs_17 ⟨Nat.le_of_ble_eq_true rfl, Nat.le_of_ble_eq_true rfl⟩ ⟨Nat.le_of_ble_eq_true rfl, Nat.le_of_ble_eq_true rfl⟩ (by rw [hr51]; rfl) (Nat.le_of_ble_eq_true rfl) dX10_land_51 (fun H locs hR => ?_)
  refine W.eq (g2 := F0 m 54 ls [.int v51]) rfl ?_
  refine lv_if_eq (tgt := 59) hx hb dX10_land_54 (by decide) (fun c54 => ?_) (fun c54 => ?_)
  · replace hf := zz_pos c54 hf
    refine lv_aload_n hx hb dX10_land_59 rfl (lv_at hl 0 rfl) ?_
    refine zr_gq X hR (r := (some a0)) fl_X10_108 dX10_land_60 hf (fun v60 hf => ?_)
    refine lv_iload_n hx hb dX10_land_63 rfl (lv_at hl 1 rfl) ?_
    refine zr_iald X hR (r := v60) dX10_land_64 hf (fun v64 hf => ?_)
    refine lv_istore (i := 4) (lv' := [(4, .int v64), (0, .ref a0), (1, .int x1), (2, .int x2), (3, .int x3)]) hx hb dX10_land_65 hl (by decide) rfl (fun ls hl => ?_)
    refine lv_aload_n hx hb dX10_land_67 rfl (lv_at hl 1 rfl) ?_
    refine zr_gq X hR (r := (some a0)) fl_X10_104 dX10_land_68 hf (fun v68 hf => ?_)
    refine lv_iload_n hx hb dX10_land_71 rfl (lv_at hl 2 rfl) ?_
    refine lv_iload_n hx hb dX10_land_72 rfl (lv_at hl 3 rfl) ?_
    refine zr_cast X hR (r := v68) dX10_land_73 hf (fun h73 H locs hf hR => ?_)
    refine lv_aload_n hx hb dX10_land_74 rfl (lv_at hl 1 rfl) ?_
    refine zr_gq X hR (r := (some a0)) fl_X10_108 dX10_land_75 hf (fun v75 hf => ?_)
    refine lv_iload_n hx hb dX10_land_78 rfl (lv_at hl 2 rfl) ?_
    refine lv_iload_n hx hb dX10_land_79 rfl (lv_at hl 4 rfl) ?_
    refine zr_iast X hR (r := v75) dX10_land_80 hf (fun h80 H locs hf hR => ?_)
    refine lv_iload hx hb dX10_land_81 (lv_at hl 0 rfl) ?_
    cases hf
    exact zr_iret X hR dX10_land_83 (Nat.le_of_ble_eq_true rfl) (Nat.le_of_ble_eq_true rfl)
  · replace hf := zz_neg c54 hf
    exact bk_X10_land_57 X hT hR (lv_sub hl [] rfl) hf
set_option maxHeartbeats 4000000 in
set_option maxRecDepth 100000 in
theorem bk_X10_land_45 {D : va_G} {dA : Nat → ClassId} {base t0 : Nat} {l : Launch} {p : Program} {e : Env} {s : State} {m : MethodId} {args : Array Value} {below : List Frame} {meth : Method} {c : Code} (X : zz_X D dA base t0 "SpringseatModel" cX10_land 5 (some .int) l p s m meth c) (hT : l.stackTraces = false) {a0 : Nat} {x1 : Int32} {x2 : Int32} {x3 : Int32} {s0 : (Option Nat)} {h : zz_H} {n : Nat} {H : Heap} {locs : List Loc} {ls : Array Slot} (hR : zz_R D dA base h n s H locs) (hl : lv_has ls 5 [(0, .ref a0), (1, .int x1), (2, .int x2), (3, .int x3)]) {r0 : Int32} {hF : zz_H} (hf : f_X10_land_45 a0 x1 x2 x3 s0 h = some (r0, hF)) : W p l e rm_X10_land s m args below meth c H locs 0 0 (MQ below (zz_Qc D dA base (some (.int r0)) hF n) args s rm_X10_land.cells rm_X10_land.slots (fun q => base ≤ q)) (F0 m 45 ls [va_rf s0]) := by
  have hx := X.1
  have hb := X.2.1
  have hown := X.2.2.2.2.1
  unfold f_X10_land_45 at hf
  refine lv_iconst (v := (1 : Int32)) hx hb dX10_land_45 (by decide) ?_
  refine lv_goto (tgt := 50) hx hb dX10_land_46 (by decide) ?_
  exact bk_X10_land_50 X hT hR (lv_sub hl [0, 1, 2, 3] rfl) hf
set_option maxHeartbeats 4000000 in
set_option maxRecDepth 100000 in
theorem bk_X10_land_36 {D : va_G} {dA : Nat → ClassId} {base t0 : Nat} {l : Launch} {p : Program} {e : Env} {s : State} {m : MethodId} {args : Array Value} {below : List Frame} {meth : Method} {c : Code} (X : zz_X D dA base t0 "SpringseatModel" cX10_land 5 (some .int) l p s m meth c) (hT : l.stackTraces = false) {a0 : Nat} {x1 : Int32} {x2 : Int32} {x3 : Int32} {s0 : (Option Nat)} {h : zz_H} {n : Nat} {H : Heap} {locs : List Loc} {ls : Array Slot} (hR : zz_R D dA base h n s H locs) (hl : lv_has ls 5 [(0, .ref a0), (1, .int x1), (2, .int x2), (3, .int x3)]) {r0 : Int32} {hF : zz_H} (hf : f_X10_land_36 a0 x1 x2 x3 s0 h = some (r0, hF)) : W p l e rm_X10_land s m args below meth c H locs 0 0 (MQ below (zz_Qc D dA base (some (.int r0)) hF n) args s rm_X10_land.cells rm_X10_land.slots (fun q => base ≤ q)) (F0 m 36 ls [va_rf s0]) := by
  have hx := X.1
  have hb := X.2.1
  have hown := X.2.2.2.2.1
  unfold f_X10_land_36 at hf
  refine lv_iload_n hx hb dX10_land_36 rfl (lv_at hl 3 rfl) ?_
  refine lv_iconst (v := (0 : Int32)) hx hb dX10_land_37 (by decide) ?_
  refine lv_iconst (v := (4 : Int32)) hx hb dX10_land_38 (by decide) ?_
  obtain ⟨v39, hv39, hf⟩ := zz_b_i hf
  refine zr_cS X hR hl.1 (As := [.int x3, .int (0 : Int32), .int (4 : Int32)]) (rest := [va_rf s0]) (mt_X10_isIn hT x3 (0 : Int32) (4 : Int32) h n hv39) mf_X10_isIn q_1367 q_1368 ⟨Nat.le_of_ble_eq_true rfl, Nat.le_of_ble_eq_true rfl⟩ ⟨Nat.le_of_ble_eq_true rfl, Nat.le_of_ble_eq_true rfl⟩ rfl (Nat.le_of_ble_eq_true rfl) dX10_land_39 (fun H locs hR => ?_)
  refine W.eq (g2 := F0 m 42 ls [.int v39, va_rf s0]) rfl ?_
  refine lv_if_ne (tgt := 49) hx hb dX10_land_42 (by decide) (fun c42 => ?_) (fun c42 => ?_)
  · replace hf := zz_neg c42 hf
    refine lv_iconst (v := (0 : Int32)) hx hb dX10_land_49 (by decide) ?_
    exact bk_X10_land_50 X hT hR (lv_sub hl [0, 1, 2, 3] rfl) hf
  · replace hf := zz_pos c42 hf
    exact bk_X10_land_45 X hT hR (lv_sub hl [0, 1, 2, 3] rfl) hf
set_option maxHeartbeats 4000000 in
set_option maxRecDepth 100000 in
theorem bk_X10_land_15 {D : va_G} {dA : Nat → ClassId} {base t0 : Nat} {l : Launch} {p : Program} {e : Env} {s : State} {m : MethodId} {args : Array Value} {below : List Frame} {meth : Method} {c : Code} (X : zz_X D dA base t0 "SpringseatModel" cX10_land 5 (some .int) l p s m meth c) (hT : l.stackTraces = false) {a0 : Nat} {x1 : Int32} {x2 : Int32} {x3 : Int32} {s0 : Int32} {s1 : (Option Nat)} {h : zz_H} {n : Nat} {H : Heap} {locs : List Loc} {ls : Array Slot} (hR : zz_R D dA base h n s H locs) (hl : lv_has ls 5 [(0, .ref a0), (1, .int x1), (2, .int x2), (3, .int x3)]) {r0 : Int32} {hF : zz_H} (hf : f_X10_land_15 a0 x1 x2 x3 s0 s1 h = some (r0, hF)) : W p l e rm_X10_land s m args below meth c H locs 0 0 (MQ below (zz_Qc D dA base (some (.int r0)) hF n) args s rm_X10_land.cells rm_X10_land.slots (fun q => base ≤ q)) (F0 m 15 ls [.int s0, va_rf s1]) := by
  have hx := X.1
  have hb := X.2.1
  have hown := X.2.2.2.2.1
  unfold f_X10_land_15 at hf
  refine lv_iconst (v := (1 : Int32)) hx hb dX10_land_15 (by decide) ?_
  obtain ⟨b16, fs16, hr16, ho16, hf⟩ := zz_ob_i hf
  obtain ⟨v16, h16, hv16, hf⟩ := zz_b1_i hf
  refine zr_cV X hR hl.1 (As := [.int s0, .int (1 : Int32)]) (rest := []) (C := RX10) (T := TX10) (N := 34) (mt_X10_isThrown hT b16 s0 (1 : Int32) h n hv16) rfl ho16 mf_X10_isThrown q_1370 q_1372 qs_17 ⟨Nat.le_of_ble_eq_true rfl, Nat.le_of_ble_eq_true rfl⟩ ⟨Nat.le_of_ble_eq_true rfl, Nat.le_of_ble_eq_true rfl⟩ (by rw [hr16]; rfl) (Nat.le_of_ble_eq_true rfl) dX10_land_16 (fun H locs hR => ?_)
  refine W.eq (g2 := F0 m 19 ls [.int v16]) rfl ?_
  refine lv_if_ne (tgt := 57) hx hb dX10_land_19 (by decide) (fun c19 => ?_) (fun c19 => ?_)
  · replace hf := zz_neg c19 hf
    exact bk_X10_land_57 X hT hR (lv_sub hl [] rfl) hf
  · replace hf := zz_pos c19 hf
    refine lv_aload_n hx hb dX10_land_22 rfl (lv_at hl 0 rfl) ?_
    refine lv_iload_n hx hb dX10_land_23 rfl (lv_at hl 2 rfl) ?_
    obtain ⟨v24, hv24, hf⟩ := zz_b_i hf
    refine zr_cS X hR hl.1 (As := [.int x2]) (rest := [.ref a0]) (mt_X10_isKind hT x2 h16 n hv24) mf_X10_isKind q_1447 q_1448 ⟨Nat.le_of_ble_eq_true rfl, Nat.le_of_ble_eq_true rfl⟩ ⟨Nat.le_of_ble_eq_true rfl, Nat.le_of_ble_eq_true rfl⟩ rfl (Nat.le_of_ble_eq_true rfl) dX10_land_24 (fun H locs hR => ?_)
    refine W.eq (g2 := F0 m 27 ls [.int v24, .ref a0]) rfl ?_
    refine lv_if_ne (tgt := 36) hx hb dX10_land_27 (by decide) (fun c27 => ?_) (fun c27 => ?_)
    · replace hf := zz_neg c27 hf
      exact bk_X10_land_36 X hT hR (lv_sub hl [0, 1, 2, 3] rfl) hf
    · replace hf := zz_pos c27 hf
      refine lv_iload_n hx hb dX10_land_30 rfl (lv_at hl 2 rfl) ?_
      refine lv_bipush (v := (45 : Int32)) hx hb dX10_land_31 (by decide) ?_
      refine lv_icmp_ne (tgt := 45) hx hb dX10_land_33 (by decide) (fun c33 => ?_) (fun c33 => ?_)
      · replace hf := zz_neg c33 hf
        exact bk_X10_land_45 X hT hR (lv_sub hl [0, 1, 2, 3] rfl) hf
      · replace hf := zz_pos c33 hf
        exact bk_X10_land_36 X hT hR (lv_sub hl [0, 1, 2, 3] rfl) hf
set_option maxHeartbeats 4000000 in
set_option maxRecDepth 100000 in
theorem mt_X10_land {D : va_G} {dA : Nat → ClassId} {base t0 : Nat} {l : Launch} (hT : l.stackTraces = false) (a0 : Nat) (x1 : Int32) (x2 : Int32) (x3 : Int32) (h : zz_H) (n : Nat) {r0 : Int32} {hF : zz_H} (hf : f_X10_land a0 x1 x2 x3 h = some (r0, hF)) : zz_M D dA base t0 l yX10_land cX10_land 5 (some .int) rm_X10_land [.ref a0, .int x1, .int x2, .int x3] h n (some (.int r0)) hF n := by
  refine Met.ofW (cc := cX10_land) (maxL := 5) (ret := (some .int)) (by decide +kernel) rfl ?_
  intro p e s m args below meth c s₁ B hml hv
  obtain ⟨rfl, hP, hK⟩ := hv
  have X : zz_X D dA base t0 "SpringseatModel" cX10_land 5 (some .int) l p s m meth c := ⟨B.exec, B.bytes, hml, B.returns, findClass_of_methodNamed B.named, B.notSynchronized, hT, by rw [hP.1]; exact hP.2.1, hK⟩
  have hx := X.1
  have hb := X.2.1
  have hown := X.2.2.2.2.1
  have hR : zz_R D dA base h n s s.heap [] := ⟨hP, va_S.rf⟩
  have hl := lv_entry ([.ref a0, .int x1, .int x2, .int x3]) (n := 5) (by exact Nat.le_of_ble_eq_true rfl)
  rw [lg_entry_eq]
  generalize (lg_sl ([.ref a0, .int x1, .int x2, .int x3]) ++ List.replicate (5 - (lg_sl ([.ref a0, .int x1, .int x2, .int x3])).length) Slot.unset).toArray = ls at hl ⊢
  have hl : lv_has ls 5 [(0, .ref a0), (1, .int x1), (2, .int x2), (3, .int x3)] := hl
  unfold f_X10_land at hf
  refine lv_aload_n hx hb dX10_land_0 rfl (lv_at hl 0 rfl) ?_
  refine lv_iload_n hx hb dX10_land_1 rfl (lv_at hl 1 rfl) ?_
  refine lv_iconst (v := (0 : Int32)) hx hb dX10_land_2 (by decide) ?_
  refine lv_iconst (v := (3 : Int32)) hx hb dX10_land_3 (by decide) ?_
  obtain ⟨v4, hv4, hf⟩ := zz_b_i hf
  refine zr_cS X hR hl.1 (As := [.int x1, .int (0 : Int32), .int (3 : Int32)]) (rest := [.ref a0]) (mt_X10_isIn hT x1 (0 : Int32) (3 : Int32) h n hv4) mf_X10_isIn q_1367 q_1368 ⟨Nat.le_of_ble_eq_true rfl, Nat.le_of_ble_eq_true rfl⟩ ⟨Nat.le_of_ble_eq_true rfl, Nat.le_of_ble_eq_true rfl⟩ rfl (Nat.le_of_ble_eq_true rfl) dX10_land_4 (fun H locs hR => ?_)
  refine W.eq (g2 := F0 m 7 ls [.int v4, .ref a0]) rfl ?_
  refine lv_if_ne (tgt := 14) hx hb dX10_land_7 (by decide) (fun c7 => ?_) (fun c7 => ?_)
  · replace hf := zz_neg c7 hf
    refine lv_iconst (v := (0 : Int32)) hx hb dX10_land_14 (by decide) ?_
    exact bk_X10_land_15 X hT hR (lv_sub hl [0, 1, 2, 3] rfl) hf
  · replace hf := zz_pos c7 hf
    refine lv_iconst (v := (1 : Int32)) hx hb dX10_land_10 (by decide) ?_
    refine lv_goto (tgt := 15) hx hb dX10_land_11 (by decide) ?_
    exact bk_X10_land_15 X hT hR (lv_sub hl [0, 1, 2, 3] rfl) hf
end ZZM
