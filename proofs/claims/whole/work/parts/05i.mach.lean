section ZZM
def rm_X10_buttons : Room := { frames := 2, cells := 0, slots := 0, locals := 45 }
theorem mf_X10_buttons : zz_Mf yX10_buttons cX10_buttons 2 (some .int) 1 := ⟨q_1453, q_11, by decide +kernel, by decide +kernel, by decide +kernel⟩
set_option maxHeartbeats 4000000 in
set_option maxRecDepth 100000 in
theorem bk_X10_buttons_47 {D : va_G} {dA : Nat → ClassId} {base t0 : Nat} {l : Launch} {p : Program} {e : Env} {s : State} {m : MethodId} {args : Array Value} {below : List Frame} {meth : Method} {c : Code} (X : zz_X D dA base t0 "SpringseatModel" cX10_buttons 2 (some .int) l p s m meth c) (hT : l.stackTraces = false) {s0 : Int32} {h : zz_H} {n : Nat} {H : Heap} {locs : List Loc} {ls : Array Slot} (hR : zz_R D dA base h n s H locs) (hl : lv_has ls 2 []) {r0 : Int32} {hF : zz_H} (hf : f_X10_buttons_47 s0 h = some (r0, hF)) : W p l e rm_X10_buttons s m args below meth c H locs 0 0 (MQ below (zz_Qc D dA base (some (.int r0)) hF n) args s rm_X10_buttons.cells rm_X10_buttons.slots (fun q => base ≤ q)) (F0 m 47 ls [.int s0]) := by
  have hx := X.1
  have hb := X.2.1
  have hown := X.2.2.2.2.1
  unfold f_X10_buttons_47 at hf
  cases hf
  exact zr_iret X hR dX10_buttons_47 (Nat.le_of_ble_eq_true rfl) (Nat.le_of_ble_eq_true rfl)
set_option maxHeartbeats 4000000 in
set_option maxRecDepth 100000 in
theorem bk_X10_buttons_36 {D : va_G} {dA : Nat → ClassId} {base t0 : Nat} {l : Launch} {p : Program} {e : Env} {s : State} {m : MethodId} {args : Array Value} {below : List Frame} {meth : Method} {c : Code} (X : zz_X D dA base t0 "SpringseatModel" cX10_buttons 2 (some .int) l p s m meth c) (hT : l.stackTraces = false) {h : zz_H} {n : Nat} {H : Heap} {locs : List Loc} {ls : Array Slot} (hR : zz_R D dA base h n s H locs) (hl : lv_has ls 2 []) {r0 : Int32} {hF : zz_H} (hf : f_X10_buttons_36 h = some (r0, hF)) : W p l e rm_X10_buttons s m args below meth c H locs 0 0 (MQ below (zz_Qc D dA base (some (.int r0)) hF n) args s rm_X10_buttons.cells rm_X10_buttons.slots (fun q => base ≤ q)) (F0 m 36 ls []) := by
  have hx := X.1
  have hb := X.2.1
  have hown := X.2.2.2.2.1
  unfold f_X10_buttons_36 at hf
  refine lv_iconst (v := (0 : Int32)) hx hb dX10_buttons_36 (by decide) ?_
  refine lv_goto (tgt := 47) hx hb dX10_buttons_37 (by decide) ?_
  exact bk_X10_buttons_47 X hT hR (lv_sub hl [] rfl) hf
set_option maxHeartbeats 4000000 in
set_option maxRecDepth 100000 in
theorem bk_X10_buttons_29 {D : va_G} {dA : Nat → ClassId} {base t0 : Nat} {l : Launch} {p : Program} {e : Env} {s : State} {m : MethodId} {args : Array Value} {below : List Frame} {meth : Method} {c : Code} (X : zz_X D dA base t0 "SpringseatModel" cX10_buttons 2 (some .int) l p s m meth c) (hT : l.stackTraces = false) {a0 : Nat} {x1 : Int32} {s0 : Int32} {s1 : (Option Nat)} {h : zz_H} {n : Nat} {H : Heap} {locs : List Loc} {ls : Array Slot} (hR : zz_R D dA base h n s H locs) (hl : lv_has ls 2 [(0, .ref a0), (1, .int x1)]) {r0 : Int32} {hF : zz_H} (hf : f_X10_buttons_29 a0 x1 s0 s1 h = some (r0, hF)) : W p l e rm_X10_buttons s m args below meth c H locs 0 0 (MQ below (zz_Qc D dA base (some (.int r0)) hF n) args s rm_X10_buttons.cells rm_X10_buttons.slots (fun q => base ≤ q)) (F0 m 29 ls [.int s0, va_rf s1]) := by
  have hx := X.1
  have hb := X.2.1
  have hown := X.2.2.2.2.1
  unfold f_X10_buttons_29 at hf
  refine lv_iconst (v := (2 : Int32)) hx hb dX10_buttons_29 (by decide) ?_
  obtain ⟨b30, fs30, hr30, ho30, hf⟩ := zz_ob_i hf
  obtain ⟨v30, h30, hv30, hf⟩ := zz_b1_i hf
  refine zr_cV X hR hl.1 (As := [.int s0, .int (2 : Int32)]) (rest := []) (C := RX10) (T := TX10) (N := 34) (mt_X10_isThrown hT b30 s0 (2 : Int32) h n hv30) rfl ho30 mf_X10_isThrown q_1370 q_1372 qs_17 ⟨Nat.le_of_ble_eq_true rfl, Nat.le_of_ble_eq_true rfl⟩ ⟨Nat.le_of_ble_eq_true rfl, Nat.le_of_ble_eq_true rfl⟩ (by rw [hr30]; rfl) (Nat.le_of_ble_eq_true rfl) dX10_buttons_30 (fun H locs hR => ?_)
  refine W.eq (g2 := F0 m 33 ls [.int v30]) rfl ?_
  refine lv_if_eq (tgt := 40) hx hb dX10_buttons_33 (by decide) (fun c33 => ?_) (fun c33 => ?_)
  · replace hf := zz_pos c33 hf
    refine lv_aload_n hx hb dX10_buttons_40 rfl (lv_at hl 0 rfl) ?_
    refine lv_iload_n hx hb dX10_buttons_41 rfl (lv_at hl 1 rfl) ?_
    refine lv_bipush (v := (98 : Int32)) hx hb dX10_buttons_42 (by decide) ?_
    obtain ⟨fs44, ho44, hf⟩ := zz_obS_i hf
    obtain ⟨v44, h44, hv44, hf⟩ := zz_b1_i hf
    refine zr_cV X hR hl.1 (As := [.int x1, .int (98 : Int32)]) (rest := []) (C := RX10) (T := TX10) (N := 34) (mt_X10_done hT a0 x1 (98 : Int32) h30 n hv44) rfl ho44 mf_X10_done q_1394 q_1396 qs_22 ⟨Nat.le_of_ble_eq_true rfl, Nat.le_of_ble_eq_true rfl⟩ ⟨Nat.le_of_ble_eq_true rfl, Nat.le_of_ble_eq_true rfl⟩ rfl (Nat.le_of_ble_eq_true rfl) dX10_buttons_44 (fun H locs hR => ?_)
    refine W.eq (g2 := F0 m 47 ls [.int v44]) rfl ?_
    exact bk_X10_buttons_47 X hT hR (lv_sub hl [] rfl) hf
  · replace hf := zz_neg c33 hf
    exact bk_X10_buttons_36 X hT hR (lv_sub hl [] rfl) hf
set_option maxHeartbeats 4000000 in
set_option maxRecDepth 100000 in
theorem mt_X10_buttons {D : va_G} {dA : Nat → ClassId} {base t0 : Nat} {l : Launch} (hT : l.stackTraces = false) (a0 : Nat) (x1 : Int32) (h : zz_H) (n : Nat) {r0 : Int32} {hF : zz_H} (hf : f_X10_buttons a0 x1 h = some (r0, hF)) : zz_M D dA base t0 l yX10_buttons cX10_buttons 2 (some .int) rm_X10_buttons [.ref a0, .int x1] h n (some (.int r0)) hF n := by
  refine Met.ofW (cc := cX10_buttons) (maxL := 2) (ret := (some .int)) (by decide +kernel) rfl ?_
  intro p e s m args below meth c s₁ B hml hv
  obtain ⟨rfl, hP, hK⟩ := hv
  have X : zz_X D dA base t0 "SpringseatModel" cX10_buttons 2 (some .int) l p s m meth c := ⟨B.exec, B.bytes, hml, B.returns, findClass_of_methodNamed B.named, B.notSynchronized, hT, by rw [hP.1]; exact hP.2.1, hK⟩
  have hx := X.1
  have hb := X.2.1
  have hown := X.2.2.2.2.1
  have hR : zz_R D dA base h n s s.heap [] := ⟨hP, va_S.rf⟩
  have hl := lv_entry ([.ref a0, .int x1]) (n := 2) (by exact Nat.le_of_ble_eq_true rfl)
  rw [lg_entry_eq]
  generalize (lg_sl ([.ref a0, .int x1]) ++ List.replicate (2 - (lg_sl ([.ref a0, .int x1])).length) Slot.unset).toArray = ls at hl ⊢
  have hl : lv_has ls 2 [(0, .ref a0), (1, .int x1)] := hl
  unfold f_X10_buttons at hf
  refine lv_aload_n hx hb dX10_buttons_0 rfl (lv_at hl 0 rfl) ?_
  refine lv_aload_n hx hb dX10_buttons_1 rfl (lv_at hl 0 rfl) ?_
  refine lv_iload_n hx hb dX10_buttons_2 rfl (lv_at hl 1 rfl) ?_
  obtain ⟨fs3, ho3, hf⟩ := zz_obS_i hf
  obtain ⟨v3, hv3, hf⟩ := zz_b_i hf
  refine zr_cV X hR hl.1 (As := [.int x1]) (rest := [.ref a0]) (C := RX10) (T := TX10) (N := 34) (mt_X10_isNoSeat hT a0 x1 h n hv3) rfl ho3 mf_X10_isNoSeat q_1378 q_1380 qs_18 ⟨Nat.le_of_ble_eq_true rfl, Nat.le_of_ble_eq_true rfl⟩ ⟨Nat.le_of_ble_eq_true rfl, Nat.le_of_ble_eq_true rfl⟩ rfl (Nat.le_of_ble_eq_true rfl) dX10_buttons_3 (fun H locs hR => ?_)
  refine W.eq (g2 := F0 m 6 ls [.int v3, .ref a0]) rfl ?_
  refine lv_iconst (v := (1 : Int32)) hx hb dX10_buttons_6 (by decide) ?_
  obtain ⟨fs7, ho7, hf⟩ := zz_obS_i hf
  obtain ⟨v7, h7, hv7, hf⟩ := zz_b1_i hf
  refine zr_cV X hR hl.1 (As := [.int v3, .int (1 : Int32)]) (rest := []) (C := RX10) (T := TX10) (N := 34) (mt_X10_isThrown hT a0 v3 (1 : Int32) h n hv7) rfl ho7 mf_X10_isThrown q_1370 q_1372 qs_17 ⟨Nat.le_of_ble_eq_true rfl, Nat.le_of_ble_eq_true rfl⟩ ⟨Nat.le_of_ble_eq_true rfl, Nat.le_of_ble_eq_true rfl⟩ rfl (Nat.le_of_ble_eq_true rfl) dX10_buttons_7 (fun H locs hR => ?_)
  refine W.eq (g2 := F0 m 10 ls [.int v7]) rfl ?_
  refine lv_if_ne (tgt := 36) hx hb dX10_buttons_10 (by decide) (fun c10 => ?_) (fun c10 => ?_)
  · replace hf := zz_neg c10 hf
    exact bk_X10_buttons_36 X hT hR (lv_sub hl [] rfl) hf
  · replace hf := zz_pos c10 hf
    refine lv_aload_n hx hb dX10_buttons_13 rfl (lv_at hl 0 rfl) ?_
    refine lv_aload_n hx hb dX10_buttons_14 rfl (lv_at hl 0 rfl) ?_
    refine lv_iload_n hx hb dX10_buttons_15 rfl (lv_at hl 1 rfl) ?_
    refine lv_bipush (v := (98 : Int32)) hx hb dX10_buttons_16 (by decide) ?_
    obtain ⟨fs18, ho18, hf⟩ := zz_obS_i hf
    obtain ⟨v18, hv18, hf⟩ := zz_b_i hf
    refine zr_cV X hR hl.1 (As := [.int x1, .int (98 : Int32)]) (rest := [.ref a0]) (C := RX10) (T := TX10) (N := 34) (mt_X10_mayCome hT a0 x1 (98 : Int32) h7 n hv18) rfl ho18 mf_X10_mayCome q_1382 q_1384 qs_19 ⟨Nat.le_of_ble_eq_true rfl, Nat.le_of_ble_eq_true rfl⟩ ⟨Nat.le_of_ble_eq_true rfl, Nat.le_of_ble_eq_true rfl⟩ rfl (Nat.le_of_ble_eq_true rfl) dX10_buttons_18 (fun H locs hR => ?_)
    refine W.eq (g2 := F0 m 21 ls [.int v18, .ref a0]) rfl ?_
    refine lv_if_ne (tgt := 28) hx hb dX10_buttons_21 (by decide) (fun c21 => ?_) (fun c21 => ?_)
    · replace hf := zz_neg c21 hf
      refine lv_iconst (v := (0 : Int32)) hx hb dX10_buttons_28 (by decide) ?_
      exact bk_X10_buttons_29 X hT hR (lv_sub hl [0, 1] rfl) hf
    · replace hf := zz_pos c21 hf
      refine lv_iconst (v := (1 : Int32)) hx hb dX10_buttons_24 (by decide) ?_
      refine lv_goto (tgt := 29) hx hb dX10_buttons_25 (by decide) ?_
      exact bk_X10_buttons_29 X hT hR (lv_sub hl [0, 1] rfl) hf
def rm_X10_drawn : Room := { frames := 0, cells := 0, slots := 0, locals := 0 }
theorem mf_X10_drawn : zz_Mf yX10_drawn cX10_drawn 11 (some .int) 1 := ⟨q_1461, q_11, by decide +kernel, by decide +kernel, by decide +kernel⟩
set_option maxHeartbeats 4000000 in
set_option maxRecDepth 100000 in
theorem bk_X10_drawn_66 {D : va_G} {dA : Nat → ClassId} {base t0 : Nat} {l : Launch} {p : Program} {e : Env} {s : State} {m : MethodId} {args : Array Value} {below : List Frame} {meth : Method} {c : Code} (X : zz_X D dA base t0 "SpringseatModel" cX10_drawn 11 (some .int) l p s m meth c) (hT : l.stackTraces = false) {x3 : (Option Nat)} {x4 : Int32} {x5 : Int32} {x7 : (Option Nat)} {x8 : Int32} {x9 : Int32} {s0 : Int32} {s1 : Int32} {h : zz_H} {n : Nat} {H : Heap} {locs : List Loc} {ls : Array Slot} (hR : zz_R D dA base h n s H locs) (hl : lv_has ls 11 [(3, va_rf x3), (4, .int x4), (5, .int x5), (7, va_rf x7), (8, .int x8), (9, .int x9)]) {r0 : Int32} {o : ((Int32 × Int32) ⊕ ((Int32 × Int32) ⊕ Int32))} (hf : f_X10_drawn_66 x3 x4 x5 x7 x8 x9 s0 s1 h = some o) (k0 : ∀ (w2 : Int32) (w5 : Int32), o = (.inr (.inl (w2, w5))) → ∀ {H : Heap} {locs : List Loc} {ls : Array Slot}, zz_R D dA base h n s H locs → lv_has ls 11 [(2, .int w2), (3, va_rf x3), (4, .int x4), (5, .int w5)] → W p l e rm_X10_drawn s m args below meth c H locs 0 0 (MQ below (zz_Qc D dA base (some (.int r0)) h n) args s rm_X10_drawn.cells rm_X10_drawn.slots (fun q => base ≤ q)) (F0 m 16 ls [])) (k1 : ∀ (w2 : Int32) (w9 : Int32), o = (.inl (w2, w9)) → ∀ {H : Heap} {locs : List Loc} {ls : Array Slot}, zz_R D dA base h n s H locs → lv_has ls 11 [(2, .int w2), (3, va_rf x3), (4, .int x4), (5, .int x5), (7, va_rf x7), (8, .int x8), (9, .int w9)] → W p l e rm_X10_drawn s m args below meth c H locs 0 0 (MQ below (zz_Qc D dA base (some (.int r0)) h n) args s rm_X10_drawn.cells rm_X10_drawn.slots (fun q => base ≤ q)) (F0 m 41 ls [])) (hret : ∀ r, o = (.inr (.inr r)) → r = r0) : W p l e rm_X10_drawn s m args below meth c H locs 0 0 (MQ below (zz_Qc D dA base (some (.int r0)) h n) args s rm_X10_drawn.cells rm_X10_drawn.slots (fun q => base ≤ q)) (F0 m 66 ls [.int s0, .int s1]) := by
  have hx := X.1
  have hb := X.2.1
  have hown := X.2.2.2.2.1
  unfold f_X10_drawn_66 at hf
  refine lv_iadd hx hb dX10_drawn_66 ?_
  refine lv_istore_n (i := 2) (lv' := [(2, .int (s1 + s0)), (3, va_rf x3), (4, .int x4), (5, .int x5), (7, va_rf x7), (8, .int x8), (9, .int x9)]) hx hb dX10_drawn_67 rfl hl (by decide) rfl (fun ls hl => ?_)
  refine lv_iinc (i := 9) (v := (x9 + (1 : Int32))) (lv' := [(9, .int (x9 + (1 : Int32))), (2, .int (s1 + s0)), (3, va_rf x3), (4, .int x4), (5, .int x5), (7, va_rf x7), (8, .int x8)]) hx hb dX10_drawn_68 hl (k := 6) rfl rfl (by decide) rfl (fun ls hl => ?_)
  refine lv_goto (tgt := 41) hx hb dX10_drawn_71 (by decide) ?_
  cases hf
  exact k1 _ _ rfl hR (lv_sub hl [1, 2, 3, 4, 5, 6, 0] rfl)
set_option maxHeartbeats 4000000 in
set_option maxRecDepth 100000 in
theorem bk_X10_drawn_41 {D : va_G} {dA : Nat → ClassId} {base t0 : Nat} {l : Launch} {p : Program} {e : Env} {s : State} {m : MethodId} {args : Array Value} {below : List Frame} {meth : Method} {c : Code} (X : zz_X D dA base t0 "SpringseatModel" cX10_drawn 11 (some .int) l p s m meth c) (hT : l.stackTraces = false) {x2 : Int32} {x3 : (Option Nat)} {x4 : Int32} {x5 : Int32} {x7 : (Option Nat)} {x8 : Int32} {x9 : Int32} {h : zz_H} {n : Nat} {H : Heap} {locs : List Loc} {ls : Array Slot} (hR : zz_R D dA base h n s H locs) (hl : lv_has ls 11 [(2, .int x2), (3, va_rf x3), (4, .int x4), (5, .int x5), (7, va_rf x7), (8, .int x8), (9, .int x9)]) {r0 : Int32} {o : ((Int32 × Int32) ⊕ ((Int32 × Int32) ⊕ Int32))} (hf : f_X10_drawn_41 x2 x3 x4 x5 x7 x8 x9 h = some o) (k0 : ∀ (w2 : Int32) (w5 : Int32), o = (.inr (.inl (w2, w5))) → ∀ {H : Heap} {locs : List Loc} {ls : Array Slot}, zz_R D dA base h n s H locs → lv_has ls 11 [(2, .int w2), (3, va_rf x3), (4, .int x4), (5, .int w5)] → W p l e rm_X10_drawn s m args below meth c H locs 0 0 (MQ below (zz_Qc D dA base (some (.int r0)) h n) args s rm_X10_drawn.cells rm_X10_drawn.slots (fun q => base ≤ q)) (F0 m 16 ls [])) (k1 : ∀ (w2 : Int32) (w9 : Int32), o = (.inl (w2, w9)) → ∀ {H : Heap} {locs : List Loc} {ls : Array Slot}, zz_R D dA base h n s H locs → lv_has ls 11 [(2, .int w2), (3, va_rf x3), (4, .int x4), (5, .int x5), (7, va_rf x7), (8, .int x8), (9, .int w9)] → W p l e rm_X10_drawn s m args below meth c H locs 0 0 (MQ below (zz_Qc D dA base (some (.int r0)) h n) args s rm_X10_drawn.cells rm_X10_drawn.slots (fun q => base ≤ q)) (F0 m 41 ls [])) (hret : ∀ r, o = (.inr (.inr r)) → r = r0) : W p l e rm_X10_drawn s m args below meth c H locs 0 0 (MQ below (zz_Qc D dA base (some (.int r0)) h n) args s rm_X10_drawn.cells rm_X10_drawn.slots (fun q => base ≤ q)) (F0 m 41 ls []) := by
  have hx := X.1
  have hb := X.2.1
  have hown := X.2.2.2.2.1
  unfold f_X10_drawn_41 at hf
  refine lv_iload hx hb dX10_drawn_41 (lv_at hl 6 rfl) ?_
  refine lv_iload hx hb dX10_drawn_43 (lv_at hl 5 rfl) ?_
  refine lv_icmp_ge (tgt := 74) hx hb dX10_drawn_45 (by decide) (fun c45 => ?_) (fun c45 => ?_)
  · replace hf := zz_pos c45 hf
    refine lv_iinc (i := 5) (v := (x5 + (1 : Int32))) (lv' := [(5, .int (x5 + (1 : Int32))), (2, .int x2), (3, va_rf x3), (4, .int x4), (7, va_rf x7), (8, .int x8), (9, .int x9)]) hx hb dX10_drawn_74 hl (k := 3) rfl rfl (by decide) rfl (fun ls hl => ?_)
    refine lv_goto (tgt := 16) hx hb dX10_drawn_77 (by decide) ?_
    cases hf
    exact k0 _ _ rfl hR (lv_sub hl [1, 2, 3, 0] rfl)
  · replace hf := zz_neg c45 hf
    refine zr_aload hx hb dX10_drawn_48 (lv_at hl 4 rfl) ?_
    refine lv_iload hx hb dX10_drawn_50 (lv_at hl 6 rfl) ?_
    refine zr_iald X hR (r := x7) dX10_drawn_52 hf (fun v52 hf => ?_)
    refine lv_istore (i := 10) (lv' := [(10, .int v52), (2, .int x2), (3, va_rf x3), (4, .int x4), (5, .int x5), (7, va_rf x7), (8, .int x8), (9, .int x9)]) hx hb dX10_drawn_53 hl (by decide) rfl (fun ls hl => ?_)
    refine lv_iload_n hx hb dX10_drawn_55 rfl (lv_at hl 1 rfl) ?_
    refine lv_iload hx hb dX10_drawn_56 (lv_at hl 0 rfl) ?_
    refine lv_if_le (tgt := 65) hx hb dX10_drawn_58 (by decide) (fun c58 => ?_) (fun c58 => ?_)
    · replace hf := zz_pos c58 hf
      refine lv_iconst (v := (0 : Int32)) hx hb dX10_drawn_65 (by decide) ?_
      exact bk_X10_drawn_66 X hT hR (lv_sub hl [2, 3, 4, 5, 6, 7] rfl) hf k0 k1 hret
    · replace hf := zz_neg c58 hf
      refine lv_iconst (v := (1 : Int32)) hx hb dX10_drawn_61 (by decide) ?_
      refine lv_goto (tgt := 66) hx hb dX10_drawn_62 (by decide) ?_
      exact bk_X10_drawn_66 X hT hR (lv_sub hl [2, 3, 4, 5, 6, 7] rfl) hf k0 k1 hret
set_option maxHeartbeats 4000000 in
set_option maxRecDepth 100000 in
theorem lp_X10_drawn_41 {D : va_G} {dA : Nat → ClassId} {base t0 : Nat} {l : Launch} {p : Program} {e : Env} {s : State} {m : MethodId} {args : Array Value} {below : List Frame} {meth : Method} {c : Code} (X : zz_X D dA base t0 "SpringseatModel" cX10_drawn 11 (some .int) l p s m meth c) (hT : l.stackTraces = false) (x3 : (Option Nat)) (x4 : Int32) (x5 : Int32) (x7 : (Option Nat)) (x8 : Int32) {h : zz_H} {n : Nat} {r0 : Int32} : ∀ (k : Nat) (x2 : Int32) (x9 : Int32) {o : ((Int32 × Int32) ⊕ Int32)}, zz_it (fun s : (Int32 × Int32) => f_X10_drawn_41 s.1 x3 x4 x5 x7 x8 s.2 h) k (x2, x9) = some o → (∀ (w2 : Int32) (w5 : Int32), o = (.inl (w2, w5)) → ∀ {H : Heap} {locs : List Loc} {ls : Array Slot}, zz_R D dA base h n s H locs → lv_has ls 11 [(2, .int w2), (3, va_rf x3), (4, .int x4), (5, .int w5)] → W p l e rm_X10_drawn s m args below meth c H locs 0 0 (MQ below (zz_Qc D dA base (some (.int r0)) h n) args s rm_X10_drawn.cells rm_X10_drawn.slots (fun q => base ≤ q)) (F0 m 16 ls [])) → (∀ r, o = (.inr r) → r = r0) → ∀ {H : Heap} {locs : List Loc} {ls : Array Slot}, zz_R D dA base h n s H locs → lv_has ls 11 [(2, .int x2), (3, va_rf x3), (4, .int x4), (5, .int x5), (7, va_rf x7), (8, .int x8), (9, .int x9)] → W p l e rm_X10_drawn s m args below meth c H locs 0 0 (MQ below (zz_Qc D dA base (some (.int r0)) h n) args s rm_X10_drawn.cells rm_X10_drawn.slots (fun q => base ≤ q)) (F0 m 41 ls []) := by
  intro k
  induction k with
  | zero => intro x2 x9 o hf _ _; cases hf
  | succ k ih =>
    intro x2 x9 o hf k0 hret H locs ls hR hl
    rcases zz_it_s hf with ⟨⟨y0, y1⟩, h1, h2⟩ | h1
    · exact bk_X10_drawn_41 (r0 := r0) X hT hR hl h1 (fun z0 z1 e => by cases e) (fun z0 z1 e => by cases e; exact ih _ _ h2 k0 hret) (fun r e => by cases e)
    · exact bk_X10_drawn_41 (r0 := r0) X hT hR hl h1 (fun z0 z1 e => k0 z0 z1 (Sum.inr.inj e)) (fun z0 z1 e => by cases e) (fun r e => hret r (Sum.inr.inj e))
set_option maxHeartbeats 4000000 in
set_option maxRecDepth 100000 in
theorem bk_X10_drawn_16 {D : va_G} {dA : Nat → ClassId} {base t0 : Nat} {l : Launch} {p : Program} {e : Env} {s : State} {m : MethodId} {args : Array Value} {below : List Frame} {meth : Method} {c : Code} (X : zz_X D dA base t0 "SpringseatModel" cX10_drawn 11 (some .int) l p s m meth c) (hT : l.stackTraces = false) {x2 : Int32} {x3 : (Option Nat)} {x4 : Int32} {x5 : Int32} {h : zz_H} {n : Nat} {H : Heap} {locs : List Loc} {ls : Array Slot} (hR : zz_R D dA base h n s H locs) (hl : lv_has ls 11 [(2, .int x2), (3, va_rf x3), (4, .int x4), (5, .int x5)]) {r0 : Int32} {o : ((Int32 × Int32) ⊕ Int32)} (hf : f_X10_drawn_16 x2 x3 x4 x5 h = some o) (k0 : ∀ (w2 : Int32) (w5 : Int32), o = (.inl (w2, w5)) → ∀ {H : Heap} {locs : List Loc} {ls : Array Slot}, zz_R D dA base h n s H locs → lv_has ls 11 [(2, .int w2), (3, va_rf x3), (4, .int x4), (5, .int w5)] → W p l e rm_X10_drawn s m args below meth c H locs 0 0 (MQ below (zz_Qc D dA base (some (.int r0)) h n) args s rm_X10_drawn.cells rm_X10_drawn.slots (fun q => base ≤ q)) (F0 m 16 ls [])) (hret : ∀ r, o = (.inr r) → r = r0) : W p l e rm_X10_drawn s m args below meth c H locs 0 0 (MQ below (zz_Qc D dA base (some (.int r0)) h n) args s rm_X10_drawn.cells rm_X10_drawn.slots (fun q => base ≤ q)) (F0 m 16 ls []) := by
  have hx := X.1
  have hb := X.2.1
  have hown := X.2.2.2.2.1
  unfold f_X10_drawn_16 at hf
  refine lv_iload hx hb dX10_drawn_16 (lv_at hl 3 rfl) ?_
  refine lv_iload hx hb dX10_drawn_18 (lv_at hl 2 rfl) ?_
  refine lv_icmp_ge (tgt := 80) hx hb dX10_drawn_20 (by decide) (fun c20 => ?_) (fun c20 => ?_)
  · replace hf := zz_pos c20 hf
    refine lv_iload_n hx hb dX10_drawn_80 rfl (lv_at hl 0 rfl) ?_
    cases hf
    cases hret _ rfl
    exact zr_iret X hR dX10_drawn_81 (Nat.le_of_ble_eq_true rfl) (Nat.le_of_ble_eq_true rfl)
  · replace hf := zz_neg c20 hf
    refine zr_aload_n hx hb dX10_drawn_23 rfl (lv_at hl 1 rfl) ?_
    refine lv_iload hx hb dX10_drawn_24 (lv_at hl 3 rfl) ?_
    refine zr_aald X hR (t := 6) (r := x3) (by decide) rfl dX10_drawn_26 hf (fun v26 hf => ?_)
    refine zr_astore (i := 6) (lv' := [(6, va_rf v26), (2, .int x2), (3, va_rf x3), (4, .int x4), (5, .int x5)]) hx hb dX10_drawn_27 hl (by decide) rfl (fun ls hl => ?_)
    refine zr_aload hx hb dX10_drawn_29 (lv_at hl 0 rfl) ?_
    refine zr_astore (i := 7) (lv' := [(7, va_rf v26), (6, va_rf v26), (2, .int x2), (3, va_rf x3), (4, .int x4), (5, .int x5)]) hx hb dX10_drawn_31 hl (by decide) (by simp [zz_cat, zz_catI, zz_catR, zz_catJ, zz_catF, zz_catD]) (fun ls hl => ?_)
    refine zr_aload hx hb dX10_drawn_33 (lv_at hl 0 rfl) ?_
    refine zr_alen X hR (r := v26) dX10_drawn_35 hf (fun v35 hf => ?_)
    refine lv_istore (i := 8) (lv' := [(8, .int v35), (7, va_rf v26), (6, va_rf v26), (2, .int x2), (3, va_rf x3), (4, .int x4), (5, .int x5)]) hx hb dX10_drawn_36 hl (by decide) (by simp [zz_cat, zz_catI, zz_catR, zz_catJ, zz_catF, zz_catD]) (fun ls hl => ?_)
    refine lv_iconst (v := (0 : Int32)) hx hb dX10_drawn_38 (by decide) ?_
    refine lv_istore (i := 9) (lv' := [(9, .int (0 : Int32)), (8, .int v35), (7, va_rf v26), (6, va_rf v26), (2, .int x2), (3, va_rf x3), (4, .int x4), (5, .int x5)]) hx hb dX10_drawn_39 hl (by decide) rfl (fun ls hl => ?_)
    exact lp_X10_drawn_41 X hT x3 x4 x5 v26 v35 zz_F _ _ hf k0 hret hR (lv_sub hl [4, 5, 6, 7, 2, 1, 0] rfl)
set_option maxHeartbeats 4000000 in
set_option maxRecDepth 100000 in
theorem lp_X10_drawn_16 {D : va_G} {dA : Nat → ClassId} {base t0 : Nat} {l : Launch} {p : Program} {e : Env} {s : State} {m : MethodId} {args : Array Value} {below : List Frame} {meth : Method} {c : Code} (X : zz_X D dA base t0 "SpringseatModel" cX10_drawn 11 (some .int) l p s m meth c) (hT : l.stackTraces = false) (x3 : (Option Nat)) (x4 : Int32) {h : zz_H} {n : Nat} {r0 : Int32} : ∀ (k : Nat) (x2 : Int32) (x5 : Int32), zz_it (fun s : (Int32 × Int32) => f_X10_drawn_16 s.1 x3 x4 s.2 h) k (x2, x5) = some r0 → ∀ {H : Heap} {locs : List Loc} {ls : Array Slot}, zz_R D dA base h n s H locs → lv_has ls 11 [(2, .int x2), (3, va_rf x3), (4, .int x4), (5, .int x5)] → W p l e rm_X10_drawn s m args below meth c H locs 0 0 (MQ below (zz_Qc D dA base (some (.int r0)) h n) args s rm_X10_drawn.cells rm_X10_drawn.slots (fun q => base ≤ q)) (F0 m 16 ls []) := by
  intro k
  induction k with
  | zero => intro x2 x5 hf; cases hf
  | succ k ih =>
    intro x2 x5 hf H locs ls hR hl
    rcases zz_it_s hf with ⟨⟨y0, y1⟩, h1, h2⟩ | h1
    · exact bk_X10_drawn_16 (r0 := r0) X hT hR hl h1  (fun z0 z1 e => by cases e; exact ih _ _ h2) (fun r e => by cases e)
    · exact bk_X10_drawn_16 (r0 := r0) X hT hR hl h1  (fun z0 z1 e => by cases e) (fun r e => (Sum.inr.inj e).symm)
set_option maxHeartbeats 4000000 in
set_option maxRecDepth 100000 in
theorem mt_X10_drawn {D : va_G} {dA : Nat → ClassId} {base t0 : Nat} {l : Launch} (hT : l.stackTraces = false) (a0 : Nat) (x1 : Int32) (h : zz_H) (n : Nat) {r0 : Int32} (hf : f_X10_drawn a0 x1 h = some r0) : zz_M D dA base t0 l yX10_drawn cX10_drawn 11 (some .int) rm_X10_drawn [.ref a0, .int x1] h n (some (.int r0)) h n := by
  refine Met.ofW (cc := cX10_drawn) (maxL := 11) (ret := (some .int)) (by decide +kernel) rfl ?_
  intro p e s m args below meth c s₁ B hml hv
  obtain ⟨rfl, hP, hK⟩ := hv
  have X : zz_X D dA base t0 "SpringseatModel" cX10_drawn 11 (some .int) l p s m meth c := ⟨B.exec, B.bytes, hml, B.returns, findClass_of_methodNamed B.named, B.notSynchronized, hT, by rw [hP.1]; exact hP.2.1, hK⟩
  have hx := X.1
  have hb := X.2.1
  have hown := X.2.2.2.2.1
  have hR : zz_R D dA base h n s s.heap [] := ⟨hP, va_S.rf⟩
  have hl := lv_entry ([.ref a0, .int x1]) (n := 11) (by exact Nat.le_of_ble_eq_true rfl)
  rw [lg_entry_eq]
  generalize (lg_sl ([.ref a0, .int x1]) ++ List.replicate (11 - (lg_sl ([.ref a0, .int x1])).length) Slot.unset).toArray = ls at hl ⊢
  have hl : lv_has ls 11 [(0, .ref a0), (1, .int x1)] := hl
  unfold f_X10_drawn at hf
  refine lv_iconst (v := (0 : Int32)) hx hb dX10_drawn_0 (by decide) ?_
  refine lv_istore_n (i := 2) (lv' := [(2, .int (0 : Int32)), (0, .ref a0), (1, .int x1)]) hx hb dX10_drawn_1 rfl hl (by decide) rfl (fun ls hl => ?_)
  refine lv_aload_n hx hb dX10_drawn_2 rfl (lv_at hl 1 rfl) ?_
  refine zr_gq X hR (r := (some a0)) fl_X10_68 dX10_drawn_3 hf (fun v3 hf => ?_)
  refine lv_iload_n hx hb dX10_drawn_6 rfl (lv_at hl 2 rfl) ?_
  refine zr_aald X hR (t := 7) (r := v3) (by decide) rfl dX10_drawn_7 hf (fun v7 hf => ?_)
  refine zr_astore_n (i := 3) (lv' := [(3, va_rf v7), (2, .int (0 : Int32)), (0, .ref a0), (1, .int x1)]) hx hb dX10_drawn_8 rfl hl (by decide) rfl (fun ls hl => ?_)
  refine zr_aload_n hx hb dX10_drawn_9 rfl (lv_at hl 0 rfl) ?_
  refine zr_alen X hR (r := v7) dX10_drawn_10 hf (fun v10 hf => ?_)
  refine lv_istore (i := 4) (lv' := [(4, .int v10), (3, va_rf v7), (2, .int (0 : Int32)), (0, .ref a0), (1, .int x1)]) hx hb dX10_drawn_11 hl (by decide) (by simp [zz_cat, zz_catI, zz_catR, zz_catJ, zz_catF, zz_catD]) (fun ls hl => ?_)
  refine lv_iconst (v := (0 : Int32)) hx hb dX10_drawn_13 (by decide) ?_
  refine lv_istore (i := 5) (lv' := [(5, .int (0 : Int32)), (4, .int v10), (3, va_rf v7), (2, .int (0 : Int32)), (0, .ref a0), (1, .int x1)]) hx hb dX10_drawn_14 hl (by decide) rfl (fun ls hl => ?_)
  exact lp_X10_drawn_16 X hT v7 v10 zz_F _ _ hf hR (lv_sub hl [3, 2, 1, 0] rfl)
def rm_X10_draw : Room := { frames := 3, cells := 0, slots := 0, locals := 65 }
theorem mf_X10_draw : zz_Mf yX10_draw cX10_draw 4 (some .int) 3 := ⟨q_1457, q_11, by decide +kernel, by decide +kernel, by decide +kernel⟩
set_option maxHeartbeats 4000000 in
set_option maxRecDepth 100000 in
theorem bk_X10_draw_97 {D : va_G} {dA : Nat → ClassId} {base t0 : Nat} {l : Launch} {p : Program} {e : Env} {s : State} {m : MethodId} {args : Array Value} {below : List Frame} {meth : Method} {c : Code} (X : zz_X D dA base t0 "SpringseatModel" cX10_draw 4 (some .int) l p s m meth c) (hT : l.stackTraces = false) {a0 : Nat} {x1 : Int32} {x2 : Int32} {x3 : Int32} {s0 : Int32} {s1 : (Option Nat)} {h : zz_H} {n : Nat} {H : Heap} {locs : List Loc} {ls : Array Slot} (hR : zz_R D dA base h n s H locs) (hl : lv_has ls 4 [(0, .ref a0), (1, .int x1), (2, .int x2), (3, .int x3)]) {r0 : Int32} {hF : zz_H} (hf : f_X10_draw_97 a0 x1 x2 x3 s0 s1 h = some (r0, hF)) : W p l e rm_X10_draw s m args below meth c H locs 0 0 (MQ below (zz_Qc D dA base (some (.int r0)) hF n) args s rm_X10_draw.cells rm_X10_draw.slots (fun q => base ≤ q)) (F0 m 97 ls [.int s0, va_rf s1]) := by
  have hx := X.1
  have hb := X.2.1
  have hown := X.2.2.2.2.1
  unfold f_X10_draw_97 at hf
  refine lv_iconst (v := (4 : Int32)) hx hb dX10_draw_97 (by decide) ?_
  obtain ⟨b98, fs98, hr98, ho98, hf⟩ := zz_ob_i hf
  obtain ⟨v98, h98, hv98, hf⟩ := zz_b1_i hf
  refine zr_cV X hR hl.1 (As := [.int s0, .int (4 : Int32)]) (rest := []) (C := RX10) (T := TX10) (N := 34) (mt_X10_isThrown hT b98 s0 (4 : Int32) h n hv98) rfl ho98 mf_X10_isThrown q_1370 q_1372 qs_17 ⟨Nat.le_of_ble_eq_true rfl, Nat.le_of_ble_eq_true rfl⟩ ⟨Nat.le_of_ble_eq_true rfl, Nat.le_of_ble_eq_true rfl⟩ (by rw [hr98]; rfl) (Nat.le_of_ble_eq_true rfl) dX10_draw_98 (fun H locs hR => ?_)
  refine W.eq (g2 := F0 m 101 ls [.int v98]) rfl ?_
  refine lv_if_eq (tgt := 106) hx hb dX10_draw_101 (by decide) (fun c101 => ?_) (fun c101 => ?_)
  · replace hf := zz_pos c101 hf
    refine lv_aload_n hx hb dX10_draw_106 rfl (lv_at hl 0 rfl) ?_
    refine zr_gq X hR (r := (some a0)) fl_X10_68 dX10_draw_107 hf (fun v107 hf => ?_)
    refine lv_iload_n hx hb dX10_draw_110 rfl (lv_at hl 1 rfl) ?_
    refine zr_aald X hR (t := 7) (r := v107) (by decide) rfl dX10_draw_111 hf (fun v111 hf => ?_)
    refine lv_iload_n hx hb dX10_draw_112 rfl (lv_at hl 2 rfl) ?_
    refine lv_bipush (v := (10 : Int32)) hx hb dX10_draw_113 (by decide) ?_
    obtain ⟨hne115, hf⟩ := zz_dv_i hf
    refine lv_idiv hx hb dX10_draw_115 hne115 ?_
    refine zr_aald X hR (t := 6) (r := v111) (by decide) rfl dX10_draw_116 hf (fun v116 hf => ?_)
    refine lv_iload_n hx hb dX10_draw_117 rfl (lv_at hl 2 rfl) ?_
    refine lv_bipush (v := (10 : Int32)) hx hb dX10_draw_118 (by decide) ?_
    obtain ⟨hne120, hf⟩ := zz_dv_i hf
    refine lv_irem hx hb dX10_draw_120 hne120 ?_
    refine lv_iload_n hx hb dX10_draw_121 rfl (lv_at hl 3 rfl) ?_
    refine zr_iast X hR (r := v116) dX10_draw_122 hf (fun h122 H locs hf hR => ?_)
    refine lv_aload_n hx hb dX10_draw_123 rfl (lv_at hl 0 rfl) ?_
    refine lv_iload_n hx hb dX10_draw_124 rfl (lv_at hl 1 rfl) ?_
    obtain ⟨fs125, ho125, hf⟩ := zz_obS_i hf
    obtain ⟨v125, hv125, hf⟩ := zz_b_i hf
    refine zr_cV X hR hl.1 (As := [.int x1]) (rest := []) (C := RX10) (T := TX10) (N := 34) (mt_X10_drawn hT a0 x1 h122 n hv125) rfl ho125 mf_X10_drawn q_1458 q_1460 qs_29 ⟨Nat.le_of_ble_eq_true rfl, Nat.le_of_ble_eq_true rfl⟩ ⟨Nat.le_of_ble_eq_true rfl, Nat.le_of_ble_eq_true rfl⟩ rfl (Nat.le_of_ble_eq_true rfl) dX10_draw_125 (fun H locs hR => ?_)
    refine W.eq (g2 := F0 m 128 ls [.int v125]) rfl ?_
    cases hf
    exact zr_iret X hR dX10_draw_128 (Nat.le_of_ble_eq_true rfl) (Nat.le_of_ble_eq_true rfl)
  · replace hf := zz_neg c101 hf
    refine lv_iconst (v := (0 : Int32)) hx hb dX10_draw_104 (by decide) ?_
    cases hf
    exact zr_iret X hR dX10_draw_105 (Nat.le_of_ble_eq_true rfl) (Nat.le_of_ble_eq_true rfl)
set_option maxHeartbeats 4000000 in
set_option maxRecDepth 100000 in
theorem bk_X10_draw_96 {D : va_G} {dA : Nat → ClassId} {base t0 : Nat} {l : Launch} {p : Program} {e : Env} {s : State} {m : MethodId} {args : Array Value} {below : List Frame} {meth : Method} {c : Code} (X : zz_X D dA base t0 "SpringseatModel" cX10_draw 4 (some .int) l p s m meth c) (hT : l.stackTraces = false) {a0 : Nat} {x1 : Int32} {x2 : Int32} {x3 : Int32} {s0 : (Option Nat)} {h : zz_H} {n : Nat} {H : Heap} {locs : List Loc} {ls : Array Slot} (hR : zz_R D dA base h n s H locs) (hl : lv_has ls 4 [(0, .ref a0), (1, .int x1), (2, .int x2), (3, .int x3)]) {r0 : Int32} {hF : zz_H} (hf : f_X10_draw_96 a0 x1 x2 x3 s0 h = some (r0, hF)) : W p l e rm_X10_draw s m args below meth c H locs 0 0 (MQ below (zz_Qc D dA base (some (.int r0)) hF n) args s rm_X10_draw.cells rm_X10_draw.slots (fun q => base ≤ q)) (F0 m 96 ls [va_rf s0]) := by
  have hx := X.1
  have hb := X.2.1
  have hown := X.2.2.2.2.1
  unfold f_X10_draw_96 at hf
  refine lv_iconst (v := (0 : Int32)) hx hb dX10_draw_96 (by decide) ?_
  exact bk_X10_draw_97 X hT hR (lv_sub hl [0, 1, 2, 3] rfl) hf
set_option maxHeartbeats 4000000 in
set_option maxRecDepth 100000 in
theorem bk_X10_draw_60 {D : va_G} {dA : Nat → ClassId} {base t0 : Nat} {l : Launch} {p : Program} {e : Env} {s : State} {m : MethodId} {args : Array Value} {below : List Frame} {meth : Method} {c : Code} (X : zz_X D dA base t0 "SpringseatModel" cX10_draw 4 (some .int) l p s m meth c) (hT : l.stackTraces = false) {h : zz_H} {n : Nat} {H : Heap} {locs : List Loc} {ls : Array Slot} (hR : zz_R D dA base h n s H locs) (hl : lv_has ls 4 []) {r0 : Int32} {hF : zz_H} (hf : f_X10_draw_60 h = some (r0, hF)) : W p l e rm_X10_draw s m args below meth c H locs 0 0 (MQ below (zz_Qc D dA base (some (.int r0)) hF n) args s rm_X10_draw.cells rm_X10_draw.slots (fun q => base ≤ q)) (F0 m 60 ls []) := by
  have hx := X.1
  have hb := X.2.1
  have hown := X.2.2.2.2.1
  unfold f_X10_draw_60 at hf
  refine lv_iconst (v := (0 : Int32)) hx hb dX10_draw_60 (by decide) ?_
  cases hf
  exact zr_iret X hR dX10_draw_61 (Nat.le_of_ble_eq_true rfl) (Nat.le_of_ble_eq_true rfl)
set_option maxHeartbeats 4000000 in
set_option maxRecDepth 100000 in
theorem bk_X10_draw_53 {D : va_G} {dA : Nat → ClassId} {base t0 : Nat} {l : Launch} {p : Program} {e : Env} {s : State} {m : MethodId} {args : Array Value} {below : List Frame} {meth : Method} {c : Code} (X : zz_X D dA base t0 "SpringseatModel" cX10_draw 4 (some .int) l p s m meth c) (hT : l.stackTraces = false) {a0 : Nat} {x1 : Int32} {x2 : Int32} {x3 : Int32} {s0 : Int32} {s1 : (Option Nat)} {h : zz_H} {n : Nat} {H : Heap} {locs : List Loc} {ls : Array Slot} (hR : zz_R D dA base h n s H locs) (hl : lv_has ls 4 [(0, .ref a0), (1, .int x1), (2, .int x2), (3, .int x3)]) {r0 : Int32} {hF : zz_H} (hf : f_X10_draw_53 a0 x1 x2 x3 s0 s1 h = some (r0, hF)) : W p l e rm_X10_draw s m args below meth c H locs 0 0 (MQ below (zz_Qc D dA base (some (.int r0)) hF n) args s rm_X10_draw.cells rm_X10_draw.slots (fun q => base ≤ q)) (F0 m 53 ls [.int s0, va_rf s1]) := by
  have hx := X.1
  have hb := X.2.1
  have hown := X.2.2.2.2.1
  unfold f_X10_draw_53 at hf
  refine lv_iconst (v := (3 : Int32)) hx hb dX10_draw_53 (by decide) ?_
  obtain ⟨b54, fs54, hr54, ho54, hf⟩ := zz_ob_i hf
  obtain ⟨v54, h54, hv54, hf⟩ := zz_b1_i hf
  refine zr_cV X hR hl.1 (As := [.int s0, .int (3 : Int32)]) (rest := []) (C := RX10) (T := TX10) (N := 34) (mt_X10_isThrown hT b54 s0 (3 : Int32) h n hv54) rfl ho54 mf_X10_isThrown q_1370 q_1372 qs_17 ⟨Nat.le_of_ble_eq_true rfl, Nat.le_of_ble_eq_true rfl⟩ ⟨Nat.le_of_ble_eq_true rfl, Nat.le_of_ble_eq_true rfl⟩ (by rw [hr54]; rfl) (Nat.le_of_ble_eq_true rfl) dX10_draw_54 (fun H locs hR => ?_)
  refine W.eq (g2 := F0 m 57 ls [.int v54]) rfl ?_
  refine lv_if_eq (tgt := 62) hx hb dX10_draw_57 (by decide) (fun c57 => ?_) (fun c57 => ?_)
  · replace hf := zz_pos c57 hf
    refine lv_aload_n hx hb dX10_draw_62 rfl (lv_at hl 0 rfl) ?_
    refine lv_aload_n hx hb dX10_draw_63 rfl (lv_at hl 0 rfl) ?_
    refine lv_iload_n hx hb dX10_draw_64 rfl (lv_at hl 1 rfl) ?_
    obtain ⟨fs65, ho65, hf⟩ := zz_obS_i hf
    obtain ⟨v65, hv65, hf⟩ := zz_b_i hf
    refine zr_cV X hR hl.1 (As := [.int x1]) (rest := [.ref a0]) (C := RX10) (T := TX10) (N := 34) (mt_X10_drawn hT a0 x1 h54 n hv65) rfl ho65 mf_X10_drawn q_1458 q_1460 qs_29 ⟨Nat.le_of_ble_eq_true rfl, Nat.le_of_ble_eq_true rfl⟩ ⟨Nat.le_of_ble_eq_true rfl, Nat.le_of_ble_eq_true rfl⟩ rfl (Nat.le_of_ble_eq_true rfl) dX10_draw_65 (fun H locs hR => ?_)
    refine W.eq (g2 := F0 m 68 ls [.int v65, .ref a0]) rfl ?_
    refine lv_bipush (v := (12 : Int32)) hx hb dX10_draw_68 (by decide) ?_
    refine lv_icmp_ne (tgt := 96) hx hb dX10_draw_70 (by decide) (fun c70 => ?_) (fun c70 => ?_)
    · replace hf := zz_neg c70 hf
      exact bk_X10_draw_96 X hT hR (lv_sub hl [0, 1, 2, 3] rfl) hf
    · replace hf := zz_pos c70 hf
      refine lv_aload_n hx hb dX10_draw_73 rfl (lv_at hl 0 rfl) ?_
      refine zr_gq X hR (r := (some a0)) fl_X10_68 dX10_draw_74 hf (fun v74 hf => ?_)
      refine lv_iload_n hx hb dX10_draw_77 rfl (lv_at hl 1 rfl) ?_
      refine zr_aald X hR (t := 7) (r := v74) (by decide) rfl dX10_draw_78 hf (fun v78 hf => ?_)
      refine lv_iload_n hx hb dX10_draw_79 rfl (lv_at hl 2 rfl) ?_
      refine lv_bipush (v := (10 : Int32)) hx hb dX10_draw_80 (by decide) ?_
      obtain ⟨hne82, hf⟩ := zz_dv_i hf
      refine lv_idiv hx hb dX10_draw_82 hne82 ?_
      refine zr_aald X hR (t := 6) (r := v78) (by decide) rfl dX10_draw_83 hf (fun v83 hf => ?_)
      refine lv_iload_n hx hb dX10_draw_84 rfl (lv_at hl 2 rfl) ?_
      refine lv_bipush (v := (10 : Int32)) hx hb dX10_draw_85 (by decide) ?_
      obtain ⟨hne87, hf⟩ := zz_dv_i hf
      refine lv_irem hx hb dX10_draw_87 hne87 ?_
      refine zr_iald X hR (r := v83) dX10_draw_88 hf (fun v88 hf => ?_)
      refine lv_if_ne (tgt := 96) hx hb dX10_draw_89 (by decide) (fun c89 => ?_) (fun c89 => ?_)
      · replace hf := zz_neg c89 hf
        exact bk_X10_draw_96 X hT hR (lv_sub hl [0, 1, 2, 3] rfl) hf
      · replace hf := zz_pos c89 hf
        refine lv_iconst (v := (1 : Int32)) hx hb dX10_draw_92 (by decide) ?_
        refine lv_goto (tgt := 97) hx hb dX10_draw_93 (by decide) ?_
        exact bk_X10_draw_97 X hT hR (lv_sub hl [0, 1, 2, 3] rfl) hf
  · replace hf := zz_neg c57 hf
    exact bk_X10_draw_60 X hT hR (lv_sub hl [] rfl) hf
set_option maxHeartbeats 4000000 in
set_option maxRecDepth 100000 in
theorem bk_X10_draw_30 {D : va_G} {dA : Nat → ClassId} {base t0 : Nat} {l : Launch} {p : Program} {e : Env} {s : State} {m : MethodId} {args : Array Value} {below : List Frame} {meth : Method} {c : Code} (X : zz_X D dA base t0 "SpringseatModel" cX10_draw 4 (some .int) l p s m meth c) (hT : l.stackTraces = false) {a0 : Nat} {x1 : Int32} {x2 : Int32} {x3 : Int32} {s0 : Int32} {s1 : (Option Nat)} {h : zz_H} {n : Nat} {H : Heap} {locs : List Loc} {ls : Array Slot} (hR : zz_R D dA base h n s H locs) (hl : lv_has ls 4 [(0, .ref a0), (1, .int x1), (2, .int x2), (3, .int x3)]) {r0 : Int32} {hF : zz_H} (hf : f_X10_draw_30 a0 x1 x2 x3 s0 s1 h = some (r0, hF)) : W p l e rm_X10_draw s m args below meth c H locs 0 0 (MQ below (zz_Qc D dA base (some (.int r0)) hF n) args s rm_X10_draw.cells rm_X10_draw.slots (fun q => base ≤ q)) (F0 m 30 ls [.int s0, va_rf s1]) := by
  have hx := X.1
  have hb := X.2.1
  have hown := X.2.2.2.2.1
  unfold f_X10_draw_30 at hf
  refine lv_iconst (v := (2 : Int32)) hx hb dX10_draw_30 (by decide) ?_
  obtain ⟨b31, fs31, hr31, ho31, hf⟩ := zz_ob_i hf
  obtain ⟨v31, h31, hv31, hf⟩ := zz_b1_i hf
  refine zr_cV X hR hl.1 (As := [.int s0, .int (2 : Int32)]) (rest := []) (C := RX10) (T := TX10) (N := 34) (mt_X10_isThrown hT b31 s0 (2 : Int32) h n hv31) rfl ho31 mf_X10_isThrown q_1370 q_1372 qs_17 ⟨Nat.le_of_ble_eq_true rfl, Nat.le_of_ble_eq_true rfl⟩ ⟨Nat.le_of_ble_eq_true rfl, Nat.le_of_ble_eq_true rfl⟩ (by rw [hr31]; rfl) (Nat.le_of_ble_eq_true rfl) dX10_draw_31 (fun H locs hR => ?_)
  refine W.eq (g2 := F0 m 34 ls [.int v31]) rfl ?_
  refine lv_if_ne (tgt := 60) hx hb dX10_draw_34 (by decide) (fun c34 => ?_) (fun c34 => ?_)
  · replace hf := zz_neg c34 hf
    exact bk_X10_draw_60 X hT hR (lv_sub hl [] rfl) hf
  · replace hf := zz_pos c34 hf
    refine lv_aload_n hx hb dX10_draw_37 rfl (lv_at hl 0 rfl) ?_
    refine lv_aload_n hx hb dX10_draw_38 rfl (lv_at hl 0 rfl) ?_
    refine lv_iload_n hx hb dX10_draw_39 rfl (lv_at hl 1 rfl) ?_
    refine lv_bipush (v := (98 : Int32)) hx hb dX10_draw_40 (by decide) ?_
    obtain ⟨fs42, ho42, hf⟩ := zz_obS_i hf
    obtain ⟨v42, hv42, hf⟩ := zz_b_i hf
    refine zr_cV X hR hl.1 (As := [.int x1, .int (98 : Int32)]) (rest := [.ref a0]) (C := RX10) (T := TX10) (N := 34) (mt_X10_isLastOpen hT a0 x1 (98 : Int32) h31 n hv42) rfl ho42 mf_X10_isLastOpen q_1417 q_1419 qs_25 ⟨Nat.le_of_ble_eq_true rfl, Nat.le_of_ble_eq_true rfl⟩ ⟨Nat.le_of_ble_eq_true rfl, Nat.le_of_ble_eq_true rfl⟩ rfl (Nat.le_of_ble_eq_true rfl) dX10_draw_42 (fun H locs hR => ?_)
    refine W.eq (g2 := F0 m 45 ls [.int v42, .ref a0]) rfl ?_
    refine lv_if_ne (tgt := 52) hx hb dX10_draw_45 (by decide) (fun c45 => ?_) (fun c45 => ?_)
    · replace hf := zz_neg c45 hf
      refine lv_iconst (v := (0 : Int32)) hx hb dX10_draw_52 (by decide) ?_
      exact bk_X10_draw_53 X hT hR (lv_sub hl [0, 1, 2, 3] rfl) hf
    · replace hf := zz_pos c45 hf
      refine lv_iconst (v := (1 : Int32)) hx hb dX10_draw_48 (by decide) ?_
      refine lv_goto (tgt := 53) hx hb dX10_draw_49 (by decide) ?_
      exact bk_X10_draw_53 X hT hR (lv_sub hl [0, 1, 2, 3] rfl) hf
set_option maxHeartbeats 4000000 in
set_option maxRecDepth 100000 in
theorem mt_X10_draw {D : va_G} {dA : Nat → ClassId} {base t0 : Nat} {l : Launch} (hT : l.stackTraces = false) (a0 : Nat) (x1 : Int32) (x2 : Int32) (x3 : Int32) (h : zz_H) (n : Nat) {r0 : Int32} {hF : zz_H} (hf : f_X10_draw a0 x1 x2 x3 h = some (r0, hF)) : zz_M D dA base t0 l yX10_draw cX10_draw 4 (some .int) rm_X10_draw [.ref a0, .int x1, .int x2, .int x3] h n (some (.int r0)) hF n := by
  refine Met.ofW (cc := cX10_draw) (maxL := 4) (ret := (some .int)) (by decide +kernel) rfl ?_
  intro p e s m args below meth c s₁ B hml hv
  obtain ⟨rfl, hP, hK⟩ := hv
  have X : zz_X D dA base t0 "SpringseatModel" cX10_draw 4 (some .int) l p s m meth c := ⟨B.exec, B.bytes, hml, B.returns, findClass_of_methodNamed B.named, B.notSynchronized, hT, by rw [hP.1]; exact hP.2.1, hK⟩
  have hx := X.1
  have hb := X.2.1
  have hown := X.2.2.2.2.1
  have hR : zz_R D dA base h n s s.heap [] := ⟨hP, va_S.rf⟩
  have hl := lv_entry ([.ref a0, .int x1, .int x2, .int x3]) (n := 4) (by exact Nat.le_of_ble_eq_true rfl)
  rw [lg_entry_eq]
  generalize (lg_sl ([.ref a0, .int x1, .int x2, .int x3]) ++ List.replicate (4 - (lg_sl ([.ref a0, .int x1, .int x2, .int x3])).length) Slot.unset).toArray = ls at hl ⊢
  have hl : lv_has ls 4 [(0, .ref a0), (1, .int x1), (2, .int x2), (3, .int x3)] := hl
  unfold f_X10_draw at hf
  refine lv_aload_n hx hb dX10_draw_0 rfl (lv_at hl 0 rfl) ?_
  refine lv_aload_n hx hb dX10_draw_1 rfl (lv_at hl 0 rfl) ?_
  refine lv_iload_n hx hb dX10_draw_2 rfl (lv_at hl 1 rfl) ?_
  refine lv_iload_n hx hb dX10_draw_3 rfl (lv_at hl 2 rfl) ?_
  obtain ⟨fs4, ho4, hf⟩ := zz_obS_i hf
  obtain ⟨v4, hv4, hf⟩ := zz_b_i hf
  refine zr_cV X hR hl.1 (As := [.int x1, .int x2]) (rest := [.ref a0]) (C := RX10) (T := TX10) (N := 34) (mt_X10_isNoCell hT a0 x1 x2 h n hv4) rfl ho4 mf_X10_isNoCell q_1413 q_1415 qs_24 ⟨Nat.le_of_ble_eq_true rfl, Nat.le_of_ble_eq_true rfl⟩ ⟨Nat.le_of_ble_eq_true rfl, Nat.le_of_ble_eq_true rfl⟩ rfl (Nat.le_of_ble_eq_true rfl) dX10_draw_4 (fun H locs hR => ?_)
  refine W.eq (g2 := F0 m 7 ls [.int v4, .ref a0]) rfl ?_
  refine lv_iconst (v := (1 : Int32)) hx hb dX10_draw_7 (by decide) ?_
  obtain ⟨fs8, ho8, hf⟩ := zz_obS_i hf
  obtain ⟨v8, h8, hv8, hf⟩ := zz_b1_i hf
  refine zr_cV X hR hl.1 (As := [.int v4, .int (1 : Int32)]) (rest := []) (C := RX10) (T := TX10) (N := 34) (mt_X10_isThrown hT a0 v4 (1 : Int32) h n hv8) rfl ho8 mf_X10_isThrown q_1370 q_1372 qs_17 ⟨Nat.le_of_ble_eq_true rfl, Nat.le_of_ble_eq_true rfl⟩ ⟨Nat.le_of_ble_eq_true rfl, Nat.le_of_ble_eq_true rfl⟩ rfl (Nat.le_of_ble_eq_true rfl) dX10_draw_8 (fun H locs hR => ?_)
  refine W.eq (g2 := F0 m 11 ls [.int v8]) rfl ?_
  refine lv_if_ne (tgt := 60) hx hb dX10_draw_11 (by decide) (fun c11 => ?_) (fun c11 => ?_)
  · replace hf := zz_neg c11 hf
    exact bk_X10_draw_60 X hT hR (lv_sub hl [] rfl) hf
  · replace hf := zz_pos c11 hf
    refine lv_aload_n hx hb dX10_draw_14 rfl (lv_at hl 0 rfl) ?_
    refine lv_iload_n hx hb dX10_draw_15 rfl (lv_at hl 3 rfl) ?_
    refine lv_iconst (v := (1 : Int32)) hx hb dX10_draw_16 (by decide) ?_
    refine lv_bipush (v := (30 : Int32)) hx hb dX10_draw_17 (by decide) ?_
    obtain ⟨v19, hv19, hf⟩ := zz_b_i hf
    refine zr_cS X hR hl.1 (As := [.int x3, .int (1 : Int32), .int (30 : Int32)]) (rest := [.ref a0]) (mt_X10_isIn hT x3 (1 : Int32) (30 : Int32) h8 n hv19) mf_X10_isIn q_1367 q_1368 ⟨Nat.le_of_ble_eq_true rfl, Nat.le_of_ble_eq_true rfl⟩ ⟨Nat.le_of_ble_eq_true rfl, Nat.le_of_ble_eq_true rfl⟩ rfl (Nat.le_of_ble_eq_true rfl) dX10_draw_19 (fun H locs hR => ?_)
    refine W.eq (g2 := F0 m 22 ls [.int v19, .ref a0]) rfl ?_
    refine lv_if_ne (tgt := 29) hx hb dX10_draw_22 (by decide) (fun c22 => ?_) (fun c22 => ?_)
    · replace hf := zz_neg c22 hf
      refine lv_iconst (v := (0 : Int32)) hx hb dX10_draw_29 (by decide) ?_
      exact bk_X10_draw_30 X hT hR (lv_sub hl [0, 1, 2, 3] rfl) hf
    · replace hf := zz_pos c22 hf
      refine lv_iconst (v := (1 : Int32)) hx hb dX10_draw_25 (by decide) ?_
      refine lv_goto (tgt := 30) hx hb dX10_draw_26 (by decide) ?_
      exact bk_X10_draw_30 X hT hR (lv_sub hl [0, 1, 2, 3] rfl) hf
def rm_X10_placeFor : Room := { frames := 1, cells := 0, slots := 0, locals := 22 }
theorem mf_X10_placeFor : zz_Mf yX10_placeFor cX10_placeFor 8 (some .int) 4 := ⟨q_1482, q_11, by decide +kernel, by decide +kernel, by decide +kernel⟩
set_option maxHeartbeats 4000000 in
set_option maxRecDepth 100000 in
theorem bk_X10_placeFor_92 {D : va_G} {dA : Nat → ClassId} {base t0 : Nat} {l : Launch} {p : Program} {e : Env} {s : State} {m : MethodId} {args : Array Value} {below : List Frame} {meth : Method} {c : Code} (X : zz_X D dA base t0 "SpringseatModel" cX10_placeFor 8 (some .int) l p s m meth c) (hT : l.stackTraces = false) {a0 : Nat} {x1 : Int32} {x3 : Int32} {x4 : Int32} {x5 : Int32} {x6 : Int32} {h : zz_H} {n : Nat} {H : Heap} {locs : List Loc} {ls : Array Slot} (hR : zz_R D dA base h n s H locs) (hl : lv_has ls 8 [(0, .ref a0), (1, .int x1), (3, .int x3), (4, .int x4), (5, .int x5), (6, .int x6)]) {r0 : Int32} {o : (Int32 ⊕ Int32)} (hf : f_X10_placeFor_92 a0 x1 x3 x4 x5 x6 h = some o) (k0 : ∀ (w5 : Int32), o = (.inl w5) → ∀ {H : Heap} {locs : List Loc} {ls : Array Slot}, zz_R D dA base h n s H locs → lv_has ls 8 [(0, .ref a0), (1, .int x1), (3, .int x3), (4, .int x4), (5, .int w5)] → W p l e rm_X10_placeFor s m args below meth c H locs 0 0 (MQ below (zz_Qc D dA base (some (.int r0)) h n) args s rm_X10_placeFor.cells rm_X10_placeFor.slots (fun q => base ≤ q)) (F0 m 3 ls [])) (hret : ∀ r, o = (.inr r) → r = r0) : W p l e rm_X10_placeFor s m args below meth c H locs 0 0 (MQ below (zz_Qc D dA base (some (.int r0)) h n) args s rm_X10_placeFor.cells rm_X10_placeFor.slots (fun q => base ≤ q)) (F0 m 92 ls []) := by
  have hx := X.1
  have hb := X.2.1
  have hown := X.2.2.2.2.1
  unfold f_X10_placeFor_92 at hf
  refine lv_iload hx hb dX10_placeFor_92 (lv_at hl 5 rfl) ?_
  refine lv_if_eq (tgt := 100) hx hb dX10_placeFor_94 (by decide) (fun c94 => ?_) (fun c94 => ?_)
  · replace hf := zz_pos c94 hf
    refine lv_iinc (i := 5) (v := (x5 + (1 : Int32))) (lv' := [(5, .int (x5 + (1 : Int32))), (0, .ref a0), (1, .int x1), (3, .int x3), (4, .int x4), (6, .int x6)]) hx hb dX10_placeFor_100 hl (k := 4) rfl rfl (by decide) rfl (fun ls hl => ?_)
    refine lv_goto (tgt := 3) hx hb dX10_placeFor_103 (by decide) ?_
    cases hf
    exact k0 _ rfl hR (lv_sub hl [1, 2, 3, 4, 0] rfl)
  · replace hf := zz_neg c94 hf
    refine lv_iload hx hb dX10_placeFor_97 (lv_at hl 4 rfl) ?_
    cases hf
    cases hret _ rfl
    exact zr_iret X hR dX10_placeFor_99 (Nat.le_of_ble_eq_true rfl) (Nat.le_of_ble_eq_true rfl)
set_option maxHeartbeats 4000000 in
set_option maxRecDepth 100000 in
theorem bk_X10_placeFor_84 {D : va_G} {dA : Nat → ClassId} {base t0 : Nat} {l : Launch} {p : Program} {e : Env} {s : State} {m : MethodId} {args : Array Value} {below : List Frame} {meth : Method} {c : Code} (X : zz_X D dA base t0 "SpringseatModel" cX10_placeFor 8 (some .int) l p s m meth c) (hT : l.stackTraces = false) {a0 : Nat} {x1 : Int32} {x3 : Int32} {x4 : Int32} {x5 : Int32} {x7 : Int32} {s0 : Int32} {h : zz_H} {n : Nat} {H : Heap} {locs : List Loc} {ls : Array Slot} (hR : zz_R D dA base h n s H locs) (hl : lv_has ls 8 [(0, .ref a0), (1, .int x1), (3, .int x3), (4, .int x4), (5, .int x5), (7, .int x7)]) {r0 : Int32} {o : ((Int32 × Int32) ⊕ (Int32 ⊕ Int32))} (hf : f_X10_placeFor_84 a0 x1 x3 x4 x5 x7 s0 h = some o) (k0 : ∀ (w5 : Int32), o = (.inr (.inl w5)) → ∀ {H : Heap} {locs : List Loc} {ls : Array Slot}, zz_R D dA base h n s H locs → lv_has ls 8 [(0, .ref a0), (1, .int x1), (3, .int x3), (4, .int x4), (5, .int w5)] → W p l e rm_X10_placeFor s m args below meth c H locs 0 0 (MQ below (zz_Qc D dA base (some (.int r0)) h n) args s rm_X10_placeFor.cells rm_X10_placeFor.slots (fun q => base ≤ q)) (F0 m 3 ls [])) (k1 : ∀ (w6 : Int32) (w7 : Int32), o = (.inl (w6, w7)) → ∀ {H : Heap} {locs : List Loc} {ls : Array Slot}, zz_R D dA base h n s H locs → lv_has ls 8 [(0, .ref a0), (1, .int x1), (3, .int x3), (4, .int x4), (5, .int x5), (6, .int w6), (7, .int w7)] → W p l e rm_X10_placeFor s m args below meth c H locs 0 0 (MQ below (zz_Qc D dA base (some (.int r0)) h n) args s rm_X10_placeFor.cells rm_X10_placeFor.slots (fun q => base ≤ q)) (F0 m 40 ls [])) (hret : ∀ r, o = (.inr (.inr r)) → r = r0) : W p l e rm_X10_placeFor s m args below meth c H locs 0 0 (MQ below (zz_Qc D dA base (some (.int r0)) h n) args s rm_X10_placeFor.cells rm_X10_placeFor.slots (fun q => base ≤ q)) (F0 m 84 ls [.int s0]) := by
  have hx := X.1
  have hb := X.2.1
  have hown := X.2.2.2.2.1
  unfold f_X10_placeFor_84 at hf
  refine lv_istore (i := 6) (lv' := [(6, .int s0), (0, .ref a0), (1, .int x1), (3, .int x3), (4, .int x4), (5, .int x5), (7, .int x7)]) hx hb dX10_placeFor_84 hl (by decide) rfl (fun ls hl => ?_)
  refine lv_iinc (i := 7) (v := (x7 + (1 : Int32))) (lv' := [(7, .int (x7 + (1 : Int32))), (6, .int s0), (0, .ref a0), (1, .int x1), (3, .int x3), (4, .int x4), (5, .int x5)]) hx hb dX10_placeFor_86 hl (k := 6) rfl rfl (by decide) rfl (fun ls hl => ?_)
  refine lv_goto (tgt := 40) hx hb dX10_placeFor_89 (by decide) ?_
  cases hf
  exact k1 _ _ rfl hR (lv_sub hl [2, 3, 4, 5, 6, 1, 0] rfl)
set_option maxHeartbeats 4000000 in
set_option maxRecDepth 100000 in
theorem bk_X10_placeFor_40 {D : va_G} {dA : Nat → ClassId} {base t0 : Nat} {l : Launch} {p : Program} {e : Env} {s : State} {m : MethodId} {args : Array Value} {below : List Frame} {meth : Method} {c : Code} (X : zz_X D dA base t0 "SpringseatModel" cX10_placeFor 8 (some .int) l p s m meth c) (hT : l.stackTraces = false) {a0 : Nat} {x1 : Int32} {x3 : Int32} {x4 : Int32} {x5 : Int32} {x6 : Int32} {x7 : Int32} {h : zz_H} {n : Nat} {H : Heap} {locs : List Loc} {ls : Array Slot} (hR : zz_R D dA base h n s H locs) (hl : lv_has ls 8 [(0, .ref a0), (1, .int x1), (3, .int x3), (4, .int x4), (5, .int x5), (6, .int x6), (7, .int x7)]) {r0 : Int32} {o : ((Int32 × Int32) ⊕ (Int32 ⊕ Int32))} (hf : f_X10_placeFor_40 a0 x1 x3 x4 x5 x6 x7 h = some o) (k0 : ∀ (w5 : Int32), o = (.inr (.inl w5)) → ∀ {H : Heap} {locs : List Loc} {ls : Array Slot}, zz_R D dA base h n s H locs → lv_has ls 8 [(0, .ref a0), (1, .int x1), (3, .int x3), (4, .int x4), (5, .int w5)] → W p l e rm_X10_placeFor s m args below meth c H locs 0 0 (MQ below (zz_Qc D dA base (some (.int r0)) h n) args s rm_X10_placeFor.cells rm_X10_placeFor.slots (fun q => base ≤ q)) (F0 m 3 ls [])) (k1 : ∀ (w6 : Int32) (w7 : Int32), o = (.inl (w6, w7)) → ∀ {H : Heap} {locs : List Loc} {ls : Array Slot}, zz_R D dA base h n s H locs → lv_has ls 8 [(0, .ref a0), (1, .int x1), (3, .int x3), (4, .int x4), (5, .int x5), (6, .int w6), (7, .int w7)] → W p l e rm_X10_placeFor s m args below meth c H locs 0 0 (MQ below (zz_Qc D dA base (some (.int r0)) h n) args s rm_X10_placeFor.cells rm_X10_placeFor.slots (fun q => base ≤ q)) (F0 m 40 ls [])) (hret : ∀ r, o = (.inr (.inr r)) → r = r0) : W p l e rm_X10_placeFor s m args below meth c H locs 0 0 (MQ below (zz_Qc D dA base (some (.int r0)) h n) args s rm_X10_placeFor.cells rm_X10_placeFor.slots (fun q => base ≤ q)) (F0 m 40 ls []) := by
  have hx := X.1
  have hb := X.2.1
  have hown := X.2.2.2.2.1
  unfold f_X10_placeFor_40 at hf
  refine lv_iload hx hb dX10_placeFor_40 (lv_at hl 6 rfl) ?_
  refine lv_aload_n hx hb dX10_placeFor_42 rfl (lv_at hl 0 rfl) ?_
  refine zr_gq X hR (r := (some a0)) fl_X10_98 dX10_placeFor_43 hf (fun v43 hf => ?_)
  refine lv_iload_n hx hb dX10_placeFor_46 rfl (lv_at hl 1 rfl) ?_
  refine zr_iald X hR (r := v43) dX10_placeFor_47 hf (fun v47 hf => ?_)
  refine lv_icmp_ge (tgt := 92) hx hb dX10_placeFor_48 (by decide) (fun c48 => ?_) (fun c48 => ?_)
  · replace hf := zz_pos c48 hf
    obtain ⟨o1, hf1, he⟩ := Option.map_eq_some_iff.mp hf
    cases he
    exact bk_X10_placeFor_92 X hT hR (lv_sub hl [0, 1, 2, 3, 4, 5] rfl) hf1 (fun w0 e => k0 w0 (congrArg Sum.inr e)) (fun r e => hret r (congrArg Sum.inr e))
  · replace hf := zz_neg c48 hf
    refine lv_iload hx hb dX10_placeFor_51 (lv_at hl 5 rfl) ?_
    refine lv_if_eq (tgt := 92) hx hb dX10_placeFor_53 (by decide) (fun c53 => ?_) (fun c53 => ?_)
    · replace hf := zz_pos c53 hf
      obtain ⟨o1, hf1, he⟩ := Option.map_eq_some_iff.mp hf
      cases he
      exact bk_X10_placeFor_92 X hT hR (lv_sub hl [0, 1, 2, 3, 4, 5] rfl) hf1 (fun w0 e => k0 w0 (congrArg Sum.inr e)) (fun r e => hret r (congrArg Sum.inr e))
    · replace hf := zz_neg c53 hf
      refine lv_aload_n hx hb dX10_placeFor_56 rfl (lv_at hl 0 rfl) ?_
      refine zr_gq X hR (r := (some a0)) fl_X10_101 dX10_placeFor_57 hf (fun v57 hf => ?_)
      refine lv_iload_n hx hb dX10_placeFor_60 rfl (lv_at hl 1 rfl) ?_
      refine zr_aald X hR (t := 6) (r := v57) (by decide) rfl dX10_placeFor_61 hf (fun v61 hf => ?_)
      refine lv_iload hx hb dX10_placeFor_62 (lv_at hl 6 rfl) ?_
      refine zr_iald X hR (r := v61) dX10_placeFor_64 hf (fun v64 hf => ?_)
      refine lv_iload hx hb dX10_placeFor_65 (lv_at hl 4 rfl) ?_
      refine lv_iload hx hb dX10_placeFor_67 (lv_at hl 4 rfl) ?_
      refine lv_iload_n hx hb dX10_placeFor_69 rfl (lv_at hl 2 rfl) ?_
      refine lv_iadd hx hb dX10_placeFor_70 ?_
      refine lv_iconst (v := (1 : Int32)) hx hb dX10_placeFor_71 (by decide) ?_
      refine lv_isub hx hb dX10_placeFor_72 ?_
      obtain ⟨v73, hv73, hf⟩ := zz_b_i hf
      refine zr_cS X hR hl.1 (As := [.int v64, .int x5, .int ((x5 + x3) - (1 : Int32))]) (rest := []) (mt_X10_isIn hT v64 x5 ((x5 + x3) - (1 : Int32)) h n hv73) mf_X10_isIn q_1367 q_1368 ⟨Nat.le_of_ble_eq_true rfl, Nat.le_of_ble_eq_true rfl⟩ ⟨Nat.le_of_ble_eq_true rfl, Nat.le_of_ble_eq_true rfl⟩ rfl (Nat.le_of_ble_eq_true rfl) dX10_placeFor_73 (fun H locs hR => ?_)
      refine W.eq (g2 := F0 m 76 ls [.int v73]) rfl ?_
      refine lv_if_ne (tgt := 83) hx hb dX10_placeFor_76 (by decide) (fun c76 => ?_) (fun c76 => ?_)
      · replace hf := zz_neg c76 hf
        refine lv_iconst (v := (0 : Int32)) hx hb dX10_placeFor_83 (by decide) ?_
        exact bk_X10_placeFor_84 X hT hR (lv_sub hl [0, 1, 2, 3, 4, 6] rfl) hf k0 k1 hret
      · replace hf := zz_pos c76 hf
        refine lv_iconst (v := (1 : Int32)) hx hb dX10_placeFor_79 (by decide) ?_
        refine lv_goto (tgt := 84) hx hb dX10_placeFor_80 (by decide) ?_
        exact bk_X10_placeFor_84 X hT hR (lv_sub hl [0, 1, 2, 3, 4, 6] rfl) hf k0 k1 hret
set_option maxHeartbeats 4000000 in
set_option maxRecDepth 100000 in
theorem lp_X10_placeFor_40 {D : va_G} {dA : Nat → ClassId} {base t0 : Nat} {l : Launch} {p : Program} {e : Env} {s : State} {m : MethodId} {args : Array Value} {below : List Frame} {meth : Method} {c : Code} (X : zz_X D dA base t0 "SpringseatModel" cX10_placeFor 8 (some .int) l p s m meth c) (hT : l.stackTraces = false) (a0 : Nat) (x1 : Int32) (x3 : Int32) (x4 : Int32) (x5 : Int32) {h : zz_H} {n : Nat} {r0 : Int32} : ∀ (k : Nat) (x6 : Int32) (x7 : Int32) {o : (Int32 ⊕ Int32)}, zz_it (fun s : (Int32 × Int32) => f_X10_placeFor_40 a0 x1 x3 x4 x5 s.1 s.2 h) k (x6, x7) = some o → (∀ (w5 : Int32), o = (.inl w5) → ∀ {H : Heap} {locs : List Loc} {ls : Array Slot}, zz_R D dA base h n s H locs → lv_has ls 8 [(0, .ref a0), (1, .int x1), (3, .int x3), (4, .int x4), (5, .int w5)] → W p l e rm_X10_placeFor s m args below meth c H locs 0 0 (MQ below (zz_Qc D dA base (some (.int r0)) h n) args s rm_X10_placeFor.cells rm_X10_placeFor.slots (fun q => base ≤ q)) (F0 m 3 ls [])) → (∀ r, o = (.inr r) → r = r0) → ∀ {H : Heap} {locs : List Loc} {ls : Array Slot}, zz_R D dA base h n s H locs → lv_has ls 8 [(0, .ref a0), (1, .int x1), (3, .int x3), (4, .int x4), (5, .int x5), (6, .int x6), (7, .int x7)] → W p l e rm_X10_placeFor s m args below meth c H locs 0 0 (MQ below (zz_Qc D dA base (some (.int r0)) h n) args s rm_X10_placeFor.cells rm_X10_placeFor.slots (fun q => base ≤ q)) (F0 m 40 ls []) := by
  intro k
  induction k with
  | zero => intro x6 x7 o hf _ _; cases hf
  | succ k ih =>
    intro x6 x7 o hf k0 hret H locs ls hR hl
    rcases zz_it_s hf with ⟨⟨y0, y1⟩, h1, h2⟩ | h1
    · exact bk_X10_placeFor_40 (r0 := r0) X hT hR hl h1 (fun z0 e => by cases e) (fun z0 z1 e => by cases e; exact ih _ _ h2 k0 hret) (fun r e => by cases e)
    · exact bk_X10_placeFor_40 (r0 := r0) X hT hR hl h1 (fun z0 e => k0 z0 (Sum.inr.inj e)) (fun z0 z1 e => by cases e) (fun r e => hret r (Sum.inr.inj e))
set_option maxHeartbeats 4000000 in
set_option maxRecDepth 100000 in
theorem bk_X10_placeFor_35 {D : va_G} {dA : Nat → ClassId} {base t0 : Nat} {l : Launch} {p : Program} {e : Env} {s : State} {m : MethodId} {args : Array Value} {below : List Frame} {meth : Method} {c : Code} (X : zz_X D dA base t0 "SpringseatModel" cX10_placeFor 8 (some .int) l p s m meth c) (hT : l.stackTraces = false) {a0 : Nat} {x1 : Int32} {x3 : Int32} {x4 : Int32} {x5 : Int32} {s0 : Int32} {h : zz_H} {n : Nat} {H : Heap} {locs : List Loc} {ls : Array Slot} (hR : zz_R D dA base h n s H locs) (hl : lv_has ls 8 [(0, .ref a0), (1, .int x1), (3, .int x3), (4, .int x4), (5, .int x5)]) {r0 : Int32} {o : (Int32 ⊕ Int32)} (hf : f_X10_placeFor_35 a0 x1 x3 x4 x5 s0 h = some o) (k0 : ∀ (w5 : Int32), o = (.inl w5) → ∀ {H : Heap} {locs : List Loc} {ls : Array Slot}, zz_R D dA base h n s H locs → lv_has ls 8 [(0, .ref a0), (1, .int x1), (3, .int x3), (4, .int x4), (5, .int w5)] → W p l e rm_X10_placeFor s m args below meth c H locs 0 0 (MQ below (zz_Qc D dA base (some (.int r0)) h n) args s rm_X10_placeFor.cells rm_X10_placeFor.slots (fun q => base ≤ q)) (F0 m 3 ls [])) (hret : ∀ r, o = (.inr r) → r = r0) : W p l e rm_X10_placeFor s m args below meth c H locs 0 0 (MQ below (zz_Qc D dA base (some (.int r0)) h n) args s rm_X10_placeFor.cells rm_X10_placeFor.slots (fun q => base ≤ q)) (F0 m 35 ls [.int s0]) := by
  have hx := X.1
  have hb := X.2.1
  have hown := X.2.2.2.2.1
  unfold f_X10_placeFor_35 at hf
  refine lv_istore (i := 6) (lv' := [(6, .int s0), (0, .ref a0), (1, .int x1), (3, .int x3), (4, .int x4), (5, .int x5)]) hx hb dX10_placeFor_35 hl (by decide) rfl (fun ls hl => ?_)
  refine lv_iconst (v := (0 : Int32)) hx hb dX10_placeFor_37 (by decide) ?_
  refine lv_istore (i := 7) (lv' := [(7, .int (0 : Int32)), (6, .int s0), (0, .ref a0), (1, .int x1), (3, .int x3), (4, .int x4), (5, .int x5)]) hx hb dX10_placeFor_38 hl (by decide) rfl (fun ls hl => ?_)
  exact lp_X10_placeFor_40 X hT a0 x1 x3 x4 x5 zz_F _ _ hf k0 hret hR (lv_sub hl [2, 3, 4, 5, 6, 1, 0] rfl)
set_option maxHeartbeats 4000000 in
set_option maxRecDepth 100000 in
theorem bk_X10_placeFor_3 {D : va_G} {dA : Nat → ClassId} {base t0 : Nat} {l : Launch} {p : Program} {e : Env} {s : State} {m : MethodId} {args : Array Value} {below : List Frame} {meth : Method} {c : Code} (X : zz_X D dA base t0 "SpringseatModel" cX10_placeFor 8 (some .int) l p s m meth c) (hT : l.stackTraces = false) {a0 : Nat} {x1 : Int32} {x3 : Int32} {x4 : Int32} {x5 : Int32} {h : zz_H} {n : Nat} {H : Heap} {locs : List Loc} {ls : Array Slot} (hR : zz_R D dA base h n s H locs) (hl : lv_has ls 8 [(0, .ref a0), (1, .int x1), (3, .int x3), (4, .int x4), (5, .int x5)]) {r0 : Int32} {o : (Int32 ⊕ Int32)} (hf : f_X10_placeFor_3 a0 x1 x3 x4 x5 h = some o) (k0 : ∀ (w5 : Int32), o = (.inl w5) → ∀ {H : Heap} {locs : List Loc} {ls : Array Slot}, zz_R D dA base h n s H locs → lv_has ls 8 [(0, .ref a0), (1, .int x1), (3, .int x3), (4, .int x4), (5, .int w5)] → W p l e rm_X10_placeFor s m args below meth c H locs 0 0 (MQ below (zz_Qc D dA base (some (.int r0)) h n) args s rm_X10_placeFor.cells rm_X10_placeFor.slots (fun q => base ≤ q)) (F0 m 3 ls [])) (hret : ∀ r, o = (.inr r) → r = r0) : W p l e rm_X10_placeFor s m args below meth c H locs 0 0 (MQ below (zz_Qc D dA base (some (.int r0)) h n) args s rm_X10_placeFor.cells rm_X10_placeFor.slots (fun q => base ≤ q)) (F0 m 3 ls []) := by
  have hx := X.1
  have hb := X.2.1
  have hown := X.2.2.2.2.1
  unfold f_X10_placeFor_3 at hf
  refine lv_iload hx hb dX10_placeFor_3 (lv_at hl 4 rfl) ?_
  refine lv_iload_n hx hb dX10_placeFor_5 rfl (lv_at hl 2 rfl) ?_
  refine lv_iadd hx hb dX10_placeFor_6 ?_
  refine lv_aload_n hx hb dX10_placeFor_7 rfl (lv_at hl 0 rfl) ?_
  refine zr_gq X hR (r := (some a0)) fl_X10_89 dX10_placeFor_8 hf (fun v8 hf => ?_)
  refine lv_iload_n hx hb dX10_placeFor_11 rfl (lv_at hl 1 rfl) ?_
  refine zr_iald X hR (r := v8) dX10_placeFor_12 hf (fun v12 hf => ?_)
  refine lv_icmp_gt (tgt := 106) hx hb dX10_placeFor_13 (by decide) (fun c13 => ?_) (fun c13 => ?_)
  · replace hf := zz_pos c13 hf
    refine lv_iconst (v := (-1 : Int32)) hx hb dX10_placeFor_106 (by decide) ?_
    cases hf
    cases hret _ rfl
    exact zr_iret X hR dX10_placeFor_107 (Nat.le_of_ble_eq_true rfl) (Nat.le_of_ble_eq_true rfl)
  · replace hf := zz_neg c13 hf
    refine lv_iload hx hb dX10_placeFor_16 (lv_at hl 4 rfl) ?_
    refine lv_aload_n hx hb dX10_placeFor_18 rfl (lv_at hl 0 rfl) ?_
    refine zr_gq X hR (r := (some a0)) fl_X10_92 dX10_placeFor_19 hf (fun v19 hf => ?_)
    refine lv_iload_n hx hb dX10_placeFor_22 rfl (lv_at hl 1 rfl) ?_
    refine zr_iald X hR (r := v19) dX10_placeFor_23 hf (fun v23 hf => ?_)
    obtain ⟨hne24, hf⟩ := zz_dv_i hf
    refine lv_irem hx hb dX10_placeFor_24 hne24 ?_
    refine lv_iload hx hb dX10_placeFor_25 (lv_at hl 3 rfl) ?_
    refine lv_icmp_ne (tgt := 34) hx hb dX10_placeFor_27 (by decide) (fun c27 => ?_) (fun c27 => ?_)
    · replace hf := zz_neg c27 hf
      refine lv_iconst (v := (0 : Int32)) hx hb dX10_placeFor_34 (by decide) ?_
      exact bk_X10_placeFor_35 X hT hR (lv_sub hl [0, 1, 2, 3, 4] rfl) hf k0 hret
    · replace hf := zz_pos c27 hf
      refine lv_iconst (v := (1 : Int32)) hx hb dX10_placeFor_30 (by decide) ?_
      refine lv_goto (tgt := 35) hx hb dX10_placeFor_31 (by decide) ?_
      exact bk_X10_placeFor_35 X hT hR (lv_sub hl [0, 1, 2, 3, 4] rfl) hf k0 hret
set_option maxHeartbeats 4000000 in
set_option maxRecDepth 100000 in
theorem lp_X10_placeFor_3 {D : va_G} {dA : Nat → ClassId} {base t0 : Nat} {l : Launch} {p : Program} {e : Env} {s : State} {m : MethodId} {args : Array Value} {below : List Frame} {meth : Method} {c : Code} (X : zz_X D dA base t0 "SpringseatModel" cX10_placeFor 8 (some .int) l p s m meth c) (hT : l.stackTraces = false) (a0 : Nat) (x1 : Int32) (x3 : Int32) (x4 : Int32) {h : zz_H} {n : Nat} {r0 : Int32} : ∀ (k : Nat) (x5 : Int32), zz_it (fun s : Int32 => f_X10_placeFor_3 a0 x1 x3 x4 s h) k x5 = some r0 → ∀ {H : Heap} {locs : List Loc} {ls : Array Slot}, zz_R D dA base h n s H locs → lv_has ls 8 [(0, .ref a0), (1, .int x1), (3, .int x3), (4, .int x4), (5, .int x5)] → W p l e rm_X10_placeFor s m args below meth c H locs 0 0 (MQ below (zz_Qc D dA base (some (.int r0)) h n) args s rm_X10_placeFor.cells rm_X10_placeFor.slots (fun q => base ≤ q)) (F0 m 3 ls []) := by
  intro k
  induction k with
  | zero => intro x5 hf; cases hf
  | succ k ih =>
    intro x5 hf H locs ls hR hl
    rcases zz_it_s hf with ⟨y0, h1, h2⟩ | h1
    · exact bk_X10_placeFor_3 (r0 := r0) X hT hR hl h1  (fun z0 e => by cases e; exact ih _ h2) (fun r e => by cases e)
    · exact bk_X10_placeFor_3 (r0 := r0) X hT hR hl h1  (fun z0 e => by cases e) (fun r e => (Sum.inr.inj e).symm)
set_option maxHeartbeats 4000000 in
set_option maxRecDepth 100000 in
theorem mt_X10_placeFor {D : va_G} {dA : Nat → ClassId} {base t0 : Nat} {l : Launch} (hT : l.stackTraces = false) (a0 : Nat) (x1 : Int32) (x2 : Int32) (x3 : Int32) (x4 : Int32) (h : zz_H) (n : Nat) {r0 : Int32} (hf : f_X10_placeFor a0 x1 x2 x3 x4 h = some r0) : zz_M D dA base t0 l yX10_placeFor cX10_placeFor 8 (some .int) rm_X10_placeFor [.ref a0, .int x1, .int x2, .int x3, .int x4] h n (some (.int r0)) h n := by
  refine Met.ofW (cc := cX10_placeFor) (maxL := 8) (ret := (some .int)) (by decide +kernel) rfl ?_
  intro p e s m args below meth c s₁ B hml hv
  obtain ⟨rfl, hP, hK⟩ := hv
  have X : zz_X D dA base t0 "SpringseatModel" cX10_placeFor 8 (some .int) l p s m meth c := ⟨B.exec, B.bytes, hml, B.returns, findClass_of_methodNamed B.named, B.notSynchronized, hT, by rw [hP.1]; exact hP.2.1, hK⟩
  have hx := X.1
  have hb := X.2.1
  have hown := X.2.2.2.2.1
  have hR : zz_R D dA base h n s s.heap [] := ⟨hP, va_S.rf⟩
  have hl := lv_entry ([.ref a0, .int x1, .int x2, .int x3, .int x4]) (n := 8) (by exact Nat.le_of_ble_eq_true rfl)
  rw [lg_entry_eq]
  generalize (lg_sl ([.ref a0, .int x1, .int x2, .int x3, .int x4]) ++ List.replicate (8 - (lg_sl ([.ref a0, .int x1, .int x2, .int x3, .int x4])).length) Slot.unset).toArray = ls at hl ⊢
  have hl : lv_has ls 8 [(0, .ref a0), (1, .int x1), (2, .int x2), (3, .int x3), (4, .int x4)] := hl
  unfold f_X10_placeFor at hf
  refine lv_iload_n hx hb dX10_placeFor_0 rfl (lv_at hl 2 rfl) ?_
  refine lv_istore (i := 5) (lv' := [(5, .int x2), (0, .ref a0), (1, .int x1), (2, .int x2), (3, .int x3), (4, .int x4)]) hx hb dX10_placeFor_1 hl (by decide) rfl (fun ls hl => ?_)
  exact lp_X10_placeFor_3 X hT a0 x1 x3 x4 zz_F _ hf hR (lv_sub hl [1, 2, 4, 5, 0] rfl)
def rm_X10_thickNow : Room := { frames := 0, cells := 0, slots := 0, locals := 0 }
theorem mf_X10_thickNow : zz_Mf yX10_thickNow cX10_thickNow 9 (some .int) 2 := ⟨q_1473, q_11, by decide +kernel, by decide +kernel, by decide +kernel⟩
set_option maxHeartbeats 4000000 in
set_option maxRecDepth 100000 in
theorem bk_X10_thickNow_50 {D : va_G} {dA : Nat → ClassId} {base t0 : Nat} {l : Launch} {p : Program} {e : Env} {s : State} {m : MethodId} {args : Array Value} {below : List Frame} {meth : Method} {c : Code} (X : zz_X D dA base t0 "SpringseatModel" cX10_thickNow 9 (some .int) l p s m meth c) (hT : l.stackTraces = false) {a0 : Nat} {x1 : Int32} {x2 : Int32} {x3 : Int64} {s0 : Int64} {h : zz_H} {n : Nat} {H : Heap} {locs : List Loc} {ls : Array Slot} (hR : zz_R D dA base h n s H locs) (hl : lv_has ls 9 [(0, .ref a0), (1, .int x1), (2, .int x2), (3, .long x3)]) {r0 : Int32} (hf : f_X10_thickNow_50 a0 x1 x2 x3 s0 h = some r0) : W p l e rm_X10_thickNow s m args below meth c H locs 0 0 (MQ below (zz_Qc D dA base (some (.int r0)) h n) args s rm_X10_thickNow.cells rm_X10_thickNow.slots (fun q => base ≤ q)) (F0 m 50 ls [.long s0]) := by
  have hx := X.1
  have hb := X.2.1
  have hown := X.2.2.2.2.1
  unfold f_X10_thickNow_50 at hf
  refine lv_lstore (i := 5) (lv' := [(5, .long s0), (0, .ref a0), (1, .int x1), (2, .int x2), (3, .long x3)]) hx hb dX10_thickNow_50 hl (by decide) rfl (fun ls hl => ?_)
  refine lv_aload_n hx hb dX10_thickNow_52 rfl (lv_at hl 1 rfl) ?_
  refine zr_gq X hR (r := (some a0)) fl_X10_54 dX10_thickNow_53 hf (fun v53 hf => ?_)
  refine lv_iload_n hx hb dX10_thickNow_56 rfl (lv_at hl 2 rfl) ?_
  refine zr_aald X hR (t := 6) (r := v53) (by decide) rfl dX10_thickNow_57 hf (fun v57 hf => ?_)
  refine lv_iload_n hx hb dX10_thickNow_58 rfl (lv_at hl 3 rfl) ?_
  refine zr_iald X hR (r := v57) dX10_thickNow_59 hf (fun v59 hf => ?_)
  refine lv_i2l hx hb dX10_thickNow_60 rfl ?_
  refine lv_lload_n hx hb dX10_thickNow_61 rfl (lv_at hl 4 rfl) ?_
  refine lv_lmul hx hb dX10_thickNow_62 ?_
  refine lv_ldc2 hx hb hown (zz_w X q_1477) dX10_thickNow_63 ?_
  refine lv_lload_n hx hb dX10_thickNow_66 rfl (lv_at hl 4 rfl) ?_
  refine lv_lload hx hb dX10_thickNow_67 (lv_at hl 0 rfl) ?_
  refine lv_aload_n hx hb dX10_thickNow_69 rfl (lv_at hl 1 rfl) ?_
  refine zr_gq X hR (r := (some a0)) fl_X10_57 dX10_thickNow_70 hf (fun v70 hf => ?_)
  refine lv_iload_n hx hb dX10_thickNow_73 rfl (lv_at hl 2 rfl) ?_
  refine zr_aald X hR (t := 6) (r := v70) (by decide) rfl dX10_thickNow_74 hf (fun v74 hf => ?_)
  refine lv_iload_n hx hb dX10_thickNow_75 rfl (lv_at hl 3 rfl) ?_
  refine zr_iald X hR (r := v74) dX10_thickNow_76 hf (fun v76 hf => ?_)
  refine lv_i2l hx hb dX10_thickNow_77 rfl ?_
  refine lv_lmul hx hb dX10_thickNow_78 ?_
  refine lv_ladd hx hb dX10_thickNow_79 ?_
  refine lv_lmul hx hb dX10_thickNow_80 ?_
  obtain ⟨hne81, hf⟩ := zz_dl_i hf
  refine lv_ldiv hx hb dX10_thickNow_81 hne81 ?_
  refine lv_lstore (i := 7) (lv' := [(7, .long ((v59.toInt64 * x3) / ((2 : Int64) * (x3 + (s0 * v76.toInt64))))), (5, .long s0), (0, .ref a0), (1, .int x1), (2, .int x2), (3, .long x3)]) hx hb dX10_thickNow_82 hl (by decide) rfl (fun ls hl => ?_)
  refine lv_aload_n hx hb dX10_thickNow_84 rfl (lv_at hl 2 rfl) ?_
  refine zr_gq X hR (r := (some a0)) fl_X10_54 dX10_thickNow_85 hf (fun v85 hf => ?_)
  refine lv_iload_n hx hb dX10_thickNow_88 rfl (lv_at hl 3 rfl) ?_
  refine zr_aald X hR (t := 6) (r := v85) (by decide) rfl dX10_thickNow_89 hf (fun v89 hf => ?_)
  refine lv_iload_n hx hb dX10_thickNow_90 rfl (lv_at hl 4 rfl) ?_
  refine zr_iald X hR (r := v89) dX10_thickNow_91 hf (fun v91 hf => ?_)
  refine lv_lload hx hb dX10_thickNow_92 (lv_at hl 0 rfl) ?_
  refine lv_l2i hx hb dX10_thickNow_94 rfl ?_
  refine lv_isub hx hb dX10_thickNow_95 ?_
  cases hf
  exact zr_iret X hR dX10_thickNow_96 (Nat.le_of_ble_eq_true rfl) (Nat.le_of_ble_eq_true rfl)
set_option maxHeartbeats 4000000 in
set_option maxRecDepth 100000 in
theorem mt_X10_thickNow {D : va_G} {dA : Nat → ClassId} {base t0 : Nat} {l : Launch} (hT : l.stackTraces = false) (a0 : Nat) (x1 : Int32) (x2 : Int32) (h : zz_H) (n : Nat) {r0 : Int32} (hf : f_X10_thickNow a0 x1 x2 h = some r0) : zz_M D dA base t0 l yX10_thickNow cX10_thickNow 9 (some .int) rm_X10_thickNow [.ref a0, .int x1, .int x2] h n (some (.int r0)) h n := by
  refine Met.ofW (cc := cX10_thickNow) (maxL := 9) (ret := (some .int)) (by decide +kernel) rfl ?_
  intro p e s m args below meth c s₁ B hml hv
  obtain ⟨rfl, hP, hK⟩ := hv
  have X : zz_X D dA base t0 "SpringseatModel" cX10_thickNow 9 (some .int) l p s m meth c := ⟨B.exec, B.bytes, hml, B.returns, findClass_of_methodNamed B.named, B.notSynchronized, hT, by rw [hP.1]; exact hP.2.1, hK⟩
  have hx := X.1
  have hb := X.2.1
  have hown := X.2.2.2.2.1
  have hR : zz_R D dA base h n s s.heap [] := ⟨hP, va_S.rf⟩
  have hl := lv_entry ([.ref a0, .int x1, .int x2]) (n := 9) (by exact Nat.le_of_ble_eq_true rfl)
  rw [lg_entry_eq]
  generalize (lg_sl ([.ref a0, .int x1, .int x2]) ++ List.replicate (9 - (lg_sl ([.ref a0, .int x1, .int x2])).length) Slot.unset).toArray = ls at hl ⊢
  have hl : lv_has ls 9 [(0, .ref a0), (1, .int x1), (2, .int x2)] := hl
  unfold f_X10_thickNow at hf
  refine lv_aload_n hx hb dX10_thickNow_0 rfl (lv_at hl 0 rfl) ?_
  refine zr_gq X hR (r := (some a0)) fl_X10_62 dX10_thickNow_1 hf (fun v1 hf => ?_)
  refine lv_iload_n hx hb dX10_thickNow_4 rfl (lv_at hl 1 rfl) ?_
  refine zr_aald X hR (t := 10) (r := v1) (by decide) rfl dX10_thickNow_5 hf (fun v5 hf => ?_)
  refine lv_iload_n hx hb dX10_thickNow_6 rfl (lv_at hl 2 rfl) ?_
  refine zr_lald X hR (r := v5) dX10_thickNow_7 hf (fun v7 hf => ?_)
  refine lv_lstore_n (i := 3) (lv' := [(3, .long v7), (0, .ref a0), (1, .int x1), (2, .int x2)]) hx hb dX10_thickNow_8 rfl hl (by decide) rfl (fun ls hl => ?_)
  refine lv_aload_n hx hb dX10_thickNow_9 rfl (lv_at hl 1 rfl) ?_
  refine zr_gq X hR (r := (some a0)) fl_X10_51 dX10_thickNow_10 hf (fun v10 hf => ?_)
  refine lv_iload_n hx hb dX10_thickNow_13 rfl (lv_at hl 2 rfl) ?_
  refine zr_aald X hR (t := 8) (r := v10) (by decide) rfl dX10_thickNow_14 hf (fun v14 hf => ?_)
  refine lv_iload_n hx hb dX10_thickNow_15 rfl (lv_at hl 3 rfl) ?_
  refine zr_cald X hR (r := v14) dX10_thickNow_16 hf (fun v16 hf => ?_)
  refine lv_bipush (v := (104 : Int32)) hx hb dX10_thickNow_17 (by decide) ?_
  refine lv_icmp_ne (tgt := 28) hx hb dX10_thickNow_19 (by decide) (fun c19 => ?_) (fun c19 => ?_)
  · replace hf := zz_neg c19 hf
    refine lv_aload_n hx hb dX10_thickNow_28 rfl (lv_at hl 1 rfl) ?_
    refine zr_gq X hR (r := (some a0)) fl_X10_51 dX10_thickNow_29 hf (fun v29 hf => ?_)
    refine lv_iload_n hx hb dX10_thickNow_32 rfl (lv_at hl 2 rfl) ?_
    refine zr_aald X hR (t := 8) (r := v29) (by decide) rfl dX10_thickNow_33 hf (fun v33 hf => ?_)
    refine lv_iload_n hx hb dX10_thickNow_34 rfl (lv_at hl 3 rfl) ?_
    refine zr_cald X hR (r := v33) dX10_thickNow_35 hf (fun v35 hf => ?_)
    refine lv_bipush (v := (102 : Int32)) hx hb dX10_thickNow_36 (by decide) ?_
    refine lv_icmp_ne (tgt := 47) hx hb dX10_thickNow_38 (by decide) (fun c38 => ?_) (fun c38 => ?_)
    · replace hf := zz_neg c38 hf
      refine lv_ldc2 hx hb hown (zz_w X q_1476) dX10_thickNow_47 ?_
      exact bk_X10_thickNow_50 X hT hR (lv_sub hl [1, 2, 3, 0] rfl) hf
    · replace hf := zz_pos c38 hf
      refine lv_ldc2 hx hb hown (zz_w X q_1475) dX10_thickNow_41 ?_
      refine lv_goto (tgt := 50) hx hb dX10_thickNow_44 (by decide) ?_
      exact bk_X10_thickNow_50 X hT hR (lv_sub hl [1, 2, 3, 0] rfl) hf
  · replace hf := zz_pos c19 hf
    refine lv_ldc2 hx hb hown (zz_w X q_1474) dX10_thickNow_22 ?_
    refine lv_goto (tgt := 50) hx hb dX10_thickNow_25 (by decide) ?_
    exact bk_X10_thickNow_50 X hT hR (lv_sub hl [1, 2, 3, 0] rfl) hf
def rm_X10_topAt : Room := { frames := 2, cells := 0, slots := 0, locals := 44 }
theorem mf_X10_topAt : zz_Mf yX10_topAt cX10_topAt 6 (some .int) 3 := ⟨q_1469, q_11, by decide +kernel, by decide +kernel, by decide +kernel⟩
set_option maxHeartbeats 4000000 in
set_option maxRecDepth 100000 in
theorem bk_X10_topAt_23 {D : va_G} {dA : Nat → ClassId} {base t0 : Nat} {l : Launch} {p : Program} {e : Env} {s : State} {m : MethodId} {args : Array Value} {below : List Frame} {meth : Method} {c : Code} (X : zz_X D dA base t0 "SpringseatModel" cX10_topAt 6 (some .int) l p s m meth c) (hT : l.stackTraces = false) {a0 : Nat} {x1 : Int32} {x4 : Int32} {x5 : Int32} {h : zz_H} {n : Nat} {H : Heap} {locs : List Loc} {ls : Array Slot} (hR : zz_R D dA base h n s H locs) (hl : lv_has ls 6 [(0, .ref a0), (1, .int x1), (4, .int x4), (5, .int x5)]) {r0 : Int32} {o : ((Int32 × Int32) ⊕ Int32)} (hf : f_X10_topAt_23 a0 x1 x4 x5 h = some o) (k0 : ∀ (w4 : Int32) (w5 : Int32), o = (.inl (w4, w5)) → ∀ {H : Heap} {locs : List Loc} {ls : Array Slot}, zz_R D dA base h n s H locs → lv_has ls 6 [(0, .ref a0), (1, .int x1), (4, .int w4), (5, .int w5)] → W p l e rm_X10_topAt s m args below meth c H locs 0 0 (MQ below (zz_Qc D dA base (some (.int r0)) h n) args s rm_X10_topAt.cells rm_X10_topAt.slots (fun q => base ≤ q)) (F0 m 23 ls [])) (hret : ∀ r, o = (.inr r) → r = r0) : W p l e rm_X10_topAt s m args below meth c H locs 0 0 (MQ below (zz_Qc D dA base (some (.int r0)) h n) args s rm_X10_topAt.cells rm_X10_topAt.slots (fun q => base ≤ q)) (F0 m 23 ls []) := by
  have hx := X.1
  have hb := X.2.1
  have hown := X.2.2.2.2.1
  unfold f_X10_topAt_23 at hf
  refine lv_iload hx hb dX10_topAt_23 (lv_at hl 3 rfl) ?_
  refine lv_aload_n hx hb dX10_topAt_25 rfl (lv_at hl 0 rfl) ?_
  refine zr_gq X hR (r := (some a0)) fl_X10_48 dX10_topAt_26 hf (fun v26 hf => ?_)
  refine lv_iload_n hx hb dX10_topAt_29 rfl (lv_at hl 1 rfl) ?_
  refine zr_iald X hR (r := v26) dX10_topAt_30 hf (fun v30 hf => ?_)
  refine lv_icmp_ge (tgt := 52) hx hb dX10_topAt_31 (by decide) (fun c31 => ?_) (fun c31 => ?_)
  · replace hf := zz_pos c31 hf
    refine lv_iconst (v := (0 : Int32)) hx hb dX10_topAt_52 (by decide) ?_
    refine lv_iload hx hb dX10_topAt_53 (lv_at hl 2 rfl) ?_
    refine zr_max X hl.1 q_1478 q_109 q_8 q_110 (Nat.le_of_ble_eq_true rfl) ⟨Nat.le_of_ble_eq_true rfl, Nat.le_of_ble_eq_true rfl⟩ ⟨Nat.le_of_ble_eq_true rfl, Nat.le_of_ble_eq_true rfl⟩ dX10_topAt_55 ?_
    refine W.eq (g2 := F0 m 58 ls [.int (zz_max (0 : Int32) x4)]) rfl ?_
    cases hf
    cases hret _ rfl
    exact zr_iret X hR dX10_topAt_58 (Nat.le_of_ble_eq_true rfl) (Nat.le_of_ble_eq_true rfl)
  · replace hf := zz_neg c31 hf
    refine lv_iload hx hb dX10_topAt_34 (lv_at hl 2 rfl) ?_
    refine lv_aload_n hx hb dX10_topAt_36 rfl (lv_at hl 0 rfl) ?_
    refine lv_iload_n hx hb dX10_topAt_37 rfl (lv_at hl 1 rfl) ?_
    refine lv_iload hx hb dX10_topAt_38 (lv_at hl 3 rfl) ?_
    obtain ⟨fs40, ho40, hf⟩ := zz_obS_i hf
    obtain ⟨v40, hv40, hf⟩ := zz_b_i hf
    refine zr_cV X hR hl.1 (As := [.int x1, .int x5]) (rest := [.int x4]) (C := RX10) (T := TX10) (N := 34) (mt_X10_thickNow hT a0 x1 x5 h n hv40) rfl ho40 mf_X10_thickNow q_1470 q_1472 qs_31 ⟨Nat.le_of_ble_eq_true rfl, Nat.le_of_ble_eq_true rfl⟩ ⟨Nat.le_of_ble_eq_true rfl, Nat.le_of_ble_eq_true rfl⟩ rfl (Nat.le_of_ble_eq_true rfl) dX10_topAt_40 (fun H locs hR => ?_)
    refine W.eq (g2 := F0 m 43 ls [.int v40, .int x4]) rfl ?_
    refine lv_iadd hx hb dX10_topAt_43 ?_
    refine lv_istore (i := 4) (lv' := [(4, .int (x4 + v40)), (0, .ref a0), (1, .int x1), (5, .int x5)]) hx hb dX10_topAt_44 hl (by decide) rfl (fun ls hl => ?_)
    refine lv_iinc (i := 5) (v := (x5 + (1 : Int32))) (lv' := [(5, .int (x5 + (1 : Int32))), (4, .int (x4 + v40)), (0, .ref a0), (1, .int x1)]) hx hb dX10_topAt_46 hl (k := 3) rfl rfl (by decide) rfl (fun ls hl => ?_)
    refine lv_goto (tgt := 23) hx hb dX10_topAt_49 (by decide) ?_
    cases hf
    exact k0 _ _ rfl hR (lv_sub hl [2, 3, 1, 0] rfl)
set_option maxHeartbeats 4000000 in
set_option maxRecDepth 100000 in
theorem lp_X10_topAt_23 {D : va_G} {dA : Nat → ClassId} {base t0 : Nat} {l : Launch} {p : Program} {e : Env} {s : State} {m : MethodId} {args : Array Value} {below : List Frame} {meth : Method} {c : Code} (X : zz_X D dA base t0 "SpringseatModel" cX10_topAt 6 (some .int) l p s m meth c) (hT : l.stackTraces = false) (a0 : Nat) (x1 : Int32) {h : zz_H} {n : Nat} {r0 : Int32} : ∀ (k : Nat) (x4 : Int32) (x5 : Int32), zz_it (fun s : (Int32 × Int32) => f_X10_topAt_23 a0 x1 s.1 s.2 h) k (x4, x5) = some r0 → ∀ {H : Heap} {locs : List Loc} {ls : Array Slot}, zz_R D dA base h n s H locs → lv_has ls 6 [(0, .ref a0), (1, .int x1), (4, .int x4), (5, .int x5)] → W p l e rm_X10_topAt s m args below meth c H locs 0 0 (MQ below (zz_Qc D dA base (some (.int r0)) h n) args s rm_X10_topAt.cells rm_X10_topAt.slots (fun q => base ≤ q)) (F0 m 23 ls []) := by
  intro k
  induction k with
  | zero => intro x4 x5 hf; cases hf
  | succ k ih =>
    intro x4 x5 hf H locs ls hR hl
    rcases zz_it_s hf with ⟨⟨y0, y1⟩, h1, h2⟩ | h1
    · exact bk_X10_topAt_23 (r0 := r0) X hT hR hl h1  (fun z0 z1 e => by cases e; exact ih _ _ h2) (fun r e => by cases e)
    · exact bk_X10_topAt_23 (r0 := r0) X hT hR hl h1  (fun z0 z1 e => by cases e) (fun r e => (Sum.inr.inj e).symm)
set_option maxHeartbeats 4000000 in
set_option maxRecDepth 100000 in
theorem mt_X10_topAt {D : va_G} {dA : Nat → ClassId} {base t0 : Nat} {l : Launch} (hT : l.stackTraces = false) (a0 : Nat) (x1 : Int32) (x2 : Int32) (x3 : Int32) (h : zz_H) (n : Nat) {r0 : Int32} (hf : f_X10_topAt a0 x1 x2 x3 h = some r0) : zz_M D dA base t0 l yX10_topAt cX10_topAt 6 (some .int) rm_X10_topAt [.ref a0, .int x1, .int x2, .int x3] h n (some (.int r0)) h n := by
  refine Met.ofW (cc := cX10_topAt) (maxL := 6) (ret := (some .int)) (by decide +kernel) rfl ?_
  intro p e s m args below meth c s₁ B hml hv
  obtain ⟨rfl, hP, hK⟩ := hv
  have X : zz_X D dA base t0 "SpringseatModel" cX10_topAt 6 (some .int) l p s m meth c := ⟨B.exec, B.bytes, hml, B.returns, findClass_of_methodNamed B.named, B.notSynchronized, hT, by rw [hP.1]; exact hP.2.1, hK⟩
  have hx := X.1
  have hb := X.2.1
  have hown := X.2.2.2.2.1
  have hR : zz_R D dA base h n s s.heap [] := ⟨hP, va_S.rf⟩
  have hl := lv_entry ([.ref a0, .int x1, .int x2, .int x3]) (n := 6) (by exact Nat.le_of_ble_eq_true rfl)
  rw [lg_entry_eq]
  generalize (lg_sl ([.ref a0, .int x1, .int x2, .int x3]) ++ List.replicate (6 - (lg_sl ([.ref a0, .int x1, .int x2, .int x3])).length) Slot.unset).toArray = ls at hl ⊢
  have hl : lv_has ls 6 [(0, .ref a0), (1, .int x1), (2, .int x2), (3, .int x3)] := hl
  unfold f_X10_topAt at hf
  refine lv_aload_n hx hb dX10_topAt_0 rfl (lv_at hl 0 rfl) ?_
  refine lv_iload_n hx hb dX10_topAt_1 rfl (lv_at hl 1 rfl) ?_
  refine lv_iload_n hx hb dX10_topAt_2 rfl (lv_at hl 2 rfl) ?_
  refine lv_iload_n hx hb dX10_topAt_3 rfl (lv_at hl 3 rfl) ?_
  obtain ⟨fs4, ho4, hf⟩ := zz_obS_i hf
  obtain ⟨v4, hv4, hf⟩ := zz_b_i hf
  refine zr_cV X hR hl.1 (As := [.int x1, .int x2, .int x3]) (rest := []) (C := RX10) (T := TX10) (N := 34) (mt_X10_standsAt hT a0 x1 x2 x3 h n hv4) rfl ho4 mf_X10_standsAt q_1433 q_1435 qs_27 ⟨Nat.le_of_ble_eq_true rfl, Nat.le_of_ble_eq_true rfl⟩ ⟨Nat.le_of_ble_eq_true rfl, Nat.le_of_ble_eq_true rfl⟩ rfl (Nat.le_of_ble_eq_true rfl) dX10_topAt_4 (fun H locs hR => ?_)
  refine W.eq (g2 := F0 m 7 ls [.int v4]) rfl ?_
  refine lv_aload_n hx hb dX10_topAt_7 rfl (lv_at hl 0 rfl) ?_
  refine zr_gq X hR (r := (some a0)) fl_X10_68 dX10_topAt_8 hf (fun v8 hf => ?_)
  refine lv_iload_n hx hb dX10_topAt_11 rfl (lv_at hl 1 rfl) ?_
  refine zr_aald X hR (t := 7) (r := v8) (by decide) rfl dX10_topAt_12 hf (fun v12 hf => ?_)
  refine lv_iload_n hx hb dX10_topAt_13 rfl (lv_at hl 2 rfl) ?_
  refine zr_aald X hR (t := 6) (r := v12) (by decide) rfl dX10_topAt_14 hf (fun v14 hf => ?_)
  refine lv_iload_n hx hb dX10_topAt_15 rfl (lv_at hl 3 rfl) ?_
  refine zr_iald X hR (r := v14) dX10_topAt_16 hf (fun v16 hf => ?_)
  refine lv_isub hx hb dX10_topAt_17 ?_
  refine lv_istore (i := 4) (lv' := [(4, .int (v4 - v16)), (0, .ref a0), (1, .int x1), (2, .int x2), (3, .int x3)]) hx hb dX10_topAt_18 hl (by decide) rfl (fun ls hl => ?_)
  refine lv_iconst (v := (0 : Int32)) hx hb dX10_topAt_20 (by decide) ?_
  refine lv_istore (i := 5) (lv' := [(5, .int (0 : Int32)), (4, .int (v4 - v16)), (0, .ref a0), (1, .int x1), (2, .int x2), (3, .int x3)]) hx hb dX10_topAt_21 hl (by decide) rfl (fun ls hl => ?_)
  exact lp_X10_topAt_23 X hT a0 x1 zz_F _ _ hf hR (lv_sub hl [2, 3, 1, 0] rfl)
def rm_X10_tops : Room := { frames := 3, cells := 0, slots := 0, locals := 69 }
theorem mf_X10_tops : zz_Mf yX10_tops cX10_tops 5 (some .int) 1 := ⟨q_1486, q_11, by decide +kernel, by decide +kernel, by decide +kernel⟩
set_option maxHeartbeats 4000000 in
set_option maxRecDepth 100000 in
theorem bk_X10_tops_17 {D : va_G} {dA : Nat → ClassId} {base t0 : Nat} {l : Launch} {p : Program} {e : Env} {s : State} {m : MethodId} {args : Array Value} {below : List Frame} {meth : Method} {c : Code} (X : zz_X D dA base t0 "SpringseatModel" cX10_tops 5 (some .int) l p s m meth c) (hT : l.stackTraces = false) {a0 : Nat} {x1 : Int32} {x2 : Int32} {x3 : Int32} {x4 : Int32} {h : zz_H} {n : Nat} {H : Heap} {locs : List Loc} {ls : Array Slot} (hR : zz_R D dA base h n s H locs) (hl : lv_has ls 5 [(0, .ref a0), (1, .int x1), (2, .int x2), (3, .int x3), (4, .int x4)]) {r0 : Int32} {o : ((Int32 × Int32) ⊕ ((Int32 × Int32) ⊕ Int32))} (hf : f_X10_tops_17 a0 x1 x2 x3 x4 h = some o) (k0 : ∀ (w2 : Int32) (w3 : Int32), o = (.inr (.inl (w2, w3))) → ∀ {H : Heap} {locs : List Loc} {ls : Array Slot}, zz_R D dA base h n s H locs → lv_has ls 5 [(0, .ref a0), (1, .int x1), (2, .int w2), (3, .int w3)] → W p l e rm_X10_tops s m args below meth c H locs 0 0 (MQ below (zz_Qc D dA base (some (.int r0)) h n) args s rm_X10_tops.cells rm_X10_tops.slots (fun q => base ≤ q)) (F0 m 4 ls [])) (k1 : ∀ (w2 : Int32) (w4 : Int32), o = (.inl (w2, w4)) → ∀ {H : Heap} {locs : List Loc} {ls : Array Slot}, zz_R D dA base h n s H locs → lv_has ls 5 [(0, .ref a0), (1, .int x1), (2, .int w2), (3, .int x3), (4, .int w4)] → W p l e rm_X10_tops s m args below meth c H locs 0 0 (MQ below (zz_Qc D dA base (some (.int r0)) h n) args s rm_X10_tops.cells rm_X10_tops.slots (fun q => base ≤ q)) (F0 m 17 ls [])) (hret : ∀ r, o = (.inr (.inr r)) → r = r0) : W p l e rm_X10_tops s m args below meth c H locs 0 0 (MQ below (zz_Qc D dA base (some (.int r0)) h n) args s rm_X10_tops.cells rm_X10_tops.slots (fun q => base ≤ q)) (F0 m 17 ls []) := by
  have hx := X.1
  have hb := X.2.1
  have hown := X.2.2.2.2.1
  unfold f_X10_tops_17 at hf
  refine lv_iload hx hb dX10_tops_17 (lv_at hl 4 rfl) ?_
  refine lv_aload_n hx hb dX10_tops_19 rfl (lv_at hl 0 rfl) ?_
  refine zr_gq X hR (r := (some a0)) fl_X10_13 dX10_tops_20 hf (fun v20 hf => ?_)
  refine lv_iload_n hx hb dX10_tops_23 rfl (lv_at hl 1 rfl) ?_
  refine zr_iald X hR (r := v20) dX10_tops_24 hf (fun v24 hf => ?_)
  refine lv_icmp_ge (tgt := 45) hx hb dX10_tops_25 (by decide) (fun c25 => ?_) (fun c25 => ?_)
  · replace hf := zz_pos c25 hf
    refine lv_iinc (i := 3) (v := (x3 + (1 : Int32))) (lv' := [(3, .int (x3 + (1 : Int32))), (0, .ref a0), (1, .int x1), (2, .int x2), (4, .int x4)]) hx hb dX10_tops_45 hl (k := 3) rfl rfl (by decide) rfl (fun ls hl => ?_)
    refine lv_goto (tgt := 4) hx hb dX10_tops_48 (by decide) ?_
    cases hf
    exact k0 _ _ rfl hR (lv_sub hl [1, 2, 3, 0] rfl)
  · replace hf := zz_neg c25 hf
    refine lv_iload_n hx hb dX10_tops_28 rfl (lv_at hl 2 rfl) ?_
    refine lv_aload_n hx hb dX10_tops_29 rfl (lv_at hl 0 rfl) ?_
    refine lv_iload_n hx hb dX10_tops_30 rfl (lv_at hl 1 rfl) ?_
    refine lv_iload_n hx hb dX10_tops_31 rfl (lv_at hl 3 rfl) ?_
    refine lv_iload hx hb dX10_tops_32 (lv_at hl 4 rfl) ?_
    obtain ⟨fs34, ho34, hf⟩ := zz_obS_i hf
    obtain ⟨v34, hv34, hf⟩ := zz_b_i hf
    refine zr_cV X hR hl.1 (As := [.int x1, .int x3, .int x4]) (rest := [.int x2]) (C := RX10) (T := TX10) (N := 34) (mt_X10_topAt hT a0 x1 x3 x4 h n hv34) rfl ho34 mf_X10_topAt q_1466 q_1468 qs_30 ⟨Nat.le_of_ble_eq_true rfl, Nat.le_of_ble_eq_true rfl⟩ ⟨Nat.le_of_ble_eq_true rfl, Nat.le_of_ble_eq_true rfl⟩ rfl (Nat.le_of_ble_eq_true rfl) dX10_tops_34 (fun H locs hR => ?_)
    refine W.eq (g2 := F0 m 37 ls [.int v34, .int x2]) rfl ?_
    refine lv_iadd hx hb dX10_tops_37 ?_
    refine lv_istore_n (i := 2) (lv' := [(2, .int (x2 + v34)), (0, .ref a0), (1, .int x1), (3, .int x3), (4, .int x4)]) hx hb dX10_tops_38 rfl hl (by decide) rfl (fun ls hl => ?_)
    refine lv_iinc (i := 4) (v := (x4 + (1 : Int32))) (lv' := [(4, .int (x4 + (1 : Int32))), (2, .int (x2 + v34)), (0, .ref a0), (1, .int x1), (3, .int x3)]) hx hb dX10_tops_39 hl (k := 4) rfl rfl (by decide) rfl (fun ls hl => ?_)
    refine lv_goto (tgt := 17) hx hb dX10_tops_42 (by decide) ?_
    cases hf
    exact k1 _ _ rfl hR (lv_sub hl [2, 3, 1, 4, 0] rfl)
set_option maxHeartbeats 4000000 in
set_option maxRecDepth 100000 in
theorem lp_X10_tops_17 {D : va_G} {dA : Nat → ClassId} {base t0 : Nat} {l : Launch} {p : Program} {e : Env} {s : State} {m : MethodId} {args : Array Value} {below : List Frame} {meth : Method} {c : Code} (X : zz_X D dA base t0 "SpringseatModel" cX10_tops 5 (some .int) l p s m meth c) (hT : l.stackTraces = false) (a0 : Nat) (x1 : Int32) (x3 : Int32) {h : zz_H} {n : Nat} {r0 : Int32} : ∀ (k : Nat) (x2 : Int32) (x4 : Int32) {o : ((Int32 × Int32) ⊕ Int32)}, zz_it (fun s : (Int32 × Int32) => f_X10_tops_17 a0 x1 s.1 x3 s.2 h) k (x2, x4) = some o → (∀ (w2 : Int32) (w3 : Int32), o = (.inl (w2, w3)) → ∀ {H : Heap} {locs : List Loc} {ls : Array Slot}, zz_R D dA base h n s H locs → lv_has ls 5 [(0, .ref a0), (1, .int x1), (2, .int w2), (3, .int w3)] → W p l e rm_X10_tops s m args below meth c H locs 0 0 (MQ below (zz_Qc D dA base (some (.int r0)) h n) args s rm_X10_tops.cells rm_X10_tops.slots (fun q => base ≤ q)) (F0 m 4 ls [])) → (∀ r, o = (.inr r) → r = r0) → ∀ {H : Heap} {locs : List Loc} {ls : Array Slot}, zz_R D dA base h n s H locs → lv_has ls 5 [(0, .ref a0), (1, .int x1), (2, .int x2), (3, .int x3), (4, .int x4)] → W p l e rm_X10_tops s m args below meth c H locs 0 0 (MQ below (zz_Qc D dA base (some (.int r0)) h n) args s rm_X10_tops.cells rm_X10_tops.slots (fun q => base ≤ q)) (F0 m 17 ls []) := by
  intro k
  induction k with
  | zero => intro x2 x4 o hf _ _; cases hf
  | succ k ih =>
    intro x2 x4 o hf k0 hret H locs ls hR hl
    rcases zz_it_s hf with ⟨⟨y0, y1⟩, h1, h2⟩ | h1
    · exact bk_X10_tops_17 (r0 := r0) X hT hR hl h1 (fun z0 z1 e => by cases e) (fun z0 z1 e => by cases e; exact ih _ _ h2 k0 hret) (fun r e => by cases e)
    · exact bk_X10_tops_17 (r0 := r0) X hT hR hl h1 (fun z0 z1 e => k0 z0 z1 (Sum.inr.inj e)) (fun z0 z1 e => by cases e) (fun r e => hret r (Sum.inr.inj e))
set_option maxHeartbeats 4000000 in
set_option maxRecDepth 100000 in
theorem bk_X10_tops_4 {D : va_G} {dA : Nat → ClassId} {base t0 : Nat} {l : Launch} {p : Program} {e : Env} {s : State} {m : MethodId} {args : Array Value} {below : List Frame} {meth : Method} {c : Code} (X : zz_X D dA base t0 "SpringseatModel" cX10_tops 5 (some .int) l p s m meth c) (hT : l.stackTraces = false) {a0 : Nat} {x1 : Int32} {x2 : Int32} {x3 : Int32} {h : zz_H} {n : Nat} {H : Heap} {locs : List Loc} {ls : Array Slot} (hR : zz_R D dA base h n s H locs) (hl : lv_has ls 5 [(0, .ref a0), (1, .int x1), (2, .int x2), (3, .int x3)]) {r0 : Int32} {o : ((Int32 × Int32) ⊕ Int32)} (hf : f_X10_tops_4 a0 x1 x2 x3 h = some o) (k0 : ∀ (w2 : Int32) (w3 : Int32), o = (.inl (w2, w3)) → ∀ {H : Heap} {locs : List Loc} {ls : Array Slot}, zz_R D dA base h n s H locs → lv_has ls 5 [(0, .ref a0), (1, .int x1), (2, .int w2), (3, .int w3)] → W p l e rm_X10_tops s m args below meth c H locs 0 0 (MQ below (zz_Qc D dA base (some (.int r0)) h n) args s rm_X10_tops.cells rm_X10_tops.slots (fun q => base ≤ q)) (F0 m 4 ls [])) (hret : ∀ r, o = (.inr r) → r = r0) : W p l e rm_X10_tops s m args below meth c H locs 0 0 (MQ below (zz_Qc D dA base (some (.int r0)) h n) args s rm_X10_tops.cells rm_X10_tops.slots (fun q => base ≤ q)) (F0 m 4 ls []) := by
  have hx := X.1
  have hb := X.2.1
  have hown := X.2.2.2.2.1
  unfold f_X10_tops_4 at hf
  refine lv_iload_n hx hb dX10_tops_4 rfl (lv_at hl 3 rfl) ?_
  refine lv_aload_n hx hb dX10_tops_5 rfl (lv_at hl 0 rfl) ?_
  refine zr_gq X hR (r := (some a0)) fl_X10_9 dX10_tops_6 hf (fun v6 hf => ?_)
  refine lv_iload_n hx hb dX10_tops_9 rfl (lv_at hl 1 rfl) ?_
  refine zr_iald X hR (r := v6) dX10_tops_10 hf (fun v10 hf => ?_)
  refine lv_icmp_ge (tgt := 51) hx hb dX10_tops_11 (by decide) (fun c11 => ?_) (fun c11 => ?_)
  · replace hf := zz_pos c11 hf
    refine lv_iload_n hx hb dX10_tops_51 rfl (lv_at hl 2 rfl) ?_
    cases hf
    cases hret _ rfl
    exact zr_iret X hR dX10_tops_52 (Nat.le_of_ble_eq_true rfl) (Nat.le_of_ble_eq_true rfl)
  · replace hf := zz_neg c11 hf
    refine lv_iconst (v := (0 : Int32)) hx hb dX10_tops_14 (by decide) ?_
    refine lv_istore (i := 4) (lv' := [(4, .int (0 : Int32)), (0, .ref a0), (1, .int x1), (2, .int x2), (3, .int x3)]) hx hb dX10_tops_15 hl (by decide) rfl (fun ls hl => ?_)
    exact lp_X10_tops_17 X hT a0 x1 x3 zz_F _ _ hf k0 hret hR (lv_sub hl [1, 2, 3, 4, 0] rfl)
set_option maxHeartbeats 4000000 in
set_option maxRecDepth 100000 in
theorem lp_X10_tops_4 {D : va_G} {dA : Nat → ClassId} {base t0 : Nat} {l : Launch} {p : Program} {e : Env} {s : State} {m : MethodId} {args : Array Value} {below : List Frame} {meth : Method} {c : Code} (X : zz_X D dA base t0 "SpringseatModel" cX10_tops 5 (some .int) l p s m meth c) (hT : l.stackTraces = false) (a0 : Nat) (x1 : Int32) {h : zz_H} {n : Nat} {r0 : Int32} : ∀ (k : Nat) (x2 : Int32) (x3 : Int32), zz_it (fun s : (Int32 × Int32) => f_X10_tops_4 a0 x1 s.1 s.2 h) k (x2, x3) = some r0 → ∀ {H : Heap} {locs : List Loc} {ls : Array Slot}, zz_R D dA base h n s H locs → lv_has ls 5 [(0, .ref a0), (1, .int x1), (2, .int x2), (3, .int x3)] → W p l e rm_X10_tops s m args below meth c H locs 0 0 (MQ below (zz_Qc D dA base (some (.int r0)) h n) args s rm_X10_tops.cells rm_X10_tops.slots (fun q => base ≤ q)) (F0 m 4 ls []) := by
  intro k
  induction k with
  | zero => intro x2 x3 hf; cases hf
  | succ k ih =>
    intro x2 x3 hf H locs ls hR hl
    rcases zz_it_s hf with ⟨⟨y0, y1⟩, h1, h2⟩ | h1
    · exact bk_X10_tops_4 (r0 := r0) X hT hR hl h1  (fun z0 z1 e => by cases e; exact ih _ _ h2) (fun r e => by cases e)
    · exact bk_X10_tops_4 (r0 := r0) X hT hR hl h1  (fun z0 z1 e => by cases e) (fun r e => (Sum.inr.inj e).symm)
set_option maxHeartbeats 4000000 in
set_option maxRecDepth 100000 in
theorem mt_X10_tops {D : va_G} {dA : Nat → ClassId} {base t0 : Nat} {l : Launch} (hT : l.stackTraces = false) (a0 : Nat) (x1 : Int32) (h : zz_H) (n : Nat) {r0 : Int32} (hf : f_X10_tops a0 x1 h = some r0) : zz_M D dA base t0 l yX10_tops cX10_tops 5 (some .int) rm_X10_tops [.ref a0, .int x1] h n (some (.int r0)) h n := by
  refine Met.ofW (cc := cX10_tops) (maxL := 5) (ret := (some .int)) (by decide +kernel) rfl ?_
  intro p e s m args below meth c s₁ B hml hv
  obtain ⟨rfl, hP, hK⟩ := hv
  have X : zz_X D dA base t0 "SpringseatModel" cX10_tops 5 (some .int) l p s m meth c := ⟨B.exec, B.bytes, hml, B.returns, findClass_of_methodNamed B.named, B.notSynchronized, hT, by rw [hP.1]; exact hP.2.1, hK⟩
  have hx := X.1
  have hb := X.2.1
  have hown := X.2.2.2.2.1
  have hR : zz_R D dA base h n s s.heap [] := ⟨hP, va_S.rf⟩
  have hl := lv_entry ([.ref a0, .int x1]) (n := 5) (by exact Nat.le_of_ble_eq_true rfl)
  rw [lg_entry_eq]
  generalize (lg_sl ([.ref a0, .int x1]) ++ List.replicate (5 - (lg_sl ([.ref a0, .int x1])).length) Slot.unset).toArray = ls at hl ⊢
  have hl : lv_has ls 5 [(0, .ref a0), (1, .int x1)] := hl
  unfold f_X10_tops at hf
  refine lv_iconst (v := (0 : Int32)) hx hb dX10_tops_0 (by decide) ?_
  refine lv_istore_n (i := 2) (lv' := [(2, .int (0 : Int32)), (0, .ref a0), (1, .int x1)]) hx hb dX10_tops_1 rfl hl (by decide) rfl (fun ls hl => ?_)
  refine lv_iconst (v := (0 : Int32)) hx hb dX10_tops_2 (by decide) ?_
  refine lv_istore_n (i := 3) (lv' := [(3, .int (0 : Int32)), (2, .int (0 : Int32)), (0, .ref a0), (1, .int x1)]) hx hb dX10_tops_3 rfl hl (by decide) rfl (fun ls hl => ?_)
  exact lp_X10_tops_4 X hT a0 x1 zz_F _ _ hf hR (lv_sub hl [2, 3, 1, 0] rfl)
def rm_X10_cover : Room := { frames := 4, cells := 0, slots := 0, locals := 93 }
theorem mf_X10_cover : zz_Mf yX10_cover cX10_cover 8 (some .int) 3 := ⟨q_1465, q_11, by decide +kernel, by decide +kernel, by decide +kernel⟩
set_option maxHeartbeats 4000000 in
set_option maxRecDepth 100000 in
theorem bk_X10_cover_207 {D : va_G} {dA : Nat → ClassId} {base t0 : Nat} {l : Launch} {p : Program} {e : Env} {s : State} {m : MethodId} {args : Array Value} {below : List Frame} {meth : Method} {c : Code} (X : zz_X D dA base t0 "SpringseatModel" cX10_cover 8 (some .int) l p s m meth c) (hT : l.stackTraces = false) {a0 : Nat} {x1 : Int32} {x2 : Int32} {x3 : Int32} {x4 : Int32} {x6 : Int32} {x7 : Int32} {s0 : Int32} {s1 : (Option Nat)} {h : zz_H} {n : Nat} {H : Heap} {locs : List Loc} {ls : Array Slot} (hR : zz_R D dA base h n s H locs) (hl : lv_has ls 8 [(0, .ref a0), (1, .int x1), (2, .int x2), (3, .int x3), (4, .int x4), (6, .int x6), (7, .int x7)]) {r0 : Int32} {hF : zz_H} {o : ((Int32 × Int32 × zz_H) ⊕ (Int32 × zz_H))} (hf : f_X10_cover_207 a0 x1 x2 x3 x4 x6 x7 s0 s1 h = some o) (k0 : ∀ (w5 : Int32) (w6 : Int32) (hw : zz_H), o = (.inl (w5, w6, hw)) → ∀ {H : Heap} {locs : List Loc} {ls : Array Slot}, zz_R D dA base hw n s H locs → lv_has ls 8 [(0, .ref a0), (1, .int x1), (2, .int x2), (3, .int x3), (4, .int x4), (5, .int w5), (6, .int w6)] → W p l e rm_X10_cover s m args below meth c H locs 0 0 (MQ below (zz_Qc D dA base (some (.int r0)) hF n) args s rm_X10_cover.cells rm_X10_cover.slots (fun q => base ≤ q)) (F0 m 173 ls [])) (hret : ∀ r, o = (.inr r) → r = (r0, hF)) : W p l e rm_X10_cover s m args below meth c H locs 0 0 (MQ below (zz_Qc D dA base (some (.int r0)) hF n) args s rm_X10_cover.cells rm_X10_cover.slots (fun q => base ≤ q)) (F0 m 207 ls [.int s0, va_rf s1]) := by
  have hx := X.1
  have hb := X.2.1
  have hown := X.2.2.2.2.1
  unfold f_X10_cover_207 at hf
  refine lv_iconst (v := (4 : Int32)) hx hb dX10_cover_207 (by decide) ?_
  obtain ⟨b208, fs208, hr208, ho208, hf⟩ := zz_ob_i hf
  obtain ⟨v208, h208, hv208, hf⟩ := zz_b1_i hf
  refine zr_cV X hR hl.1 (As := [.int s0, .int (4 : Int32)]) (rest := []) (C := RX10) (T := TX10) (N := 34) (mt_X10_isThrown hT b208 s0 (4 : Int32) h n hv208) rfl ho208 mf_X10_isThrown q_1370 q_1372 qs_17 ⟨Nat.le_of_ble_eq_true rfl, Nat.le_of_ble_eq_true rfl⟩ ⟨Nat.le_of_ble_eq_true rfl, Nat.le_of_ble_eq_true rfl⟩ (by rw [hr208]; rfl) (Nat.le_of_ble_eq_true rfl) dX10_cover_208 (fun H locs hR => ?_)
  refine W.eq (g2 := F0 m 211 ls [.int v208]) rfl ?_
  refine lv_if_eq (tgt := 216) hx hb dX10_cover_211 (by decide) (fun c211 => ?_) (fun c211 => ?_)
  · replace hf := zz_pos c211 hf
    refine lv_aload_n hx hb dX10_cover_216 rfl (lv_at hl 0 rfl) ?_
    refine zr_gq X hR (r := (some a0)) fl_X10_71 dX10_cover_217 hf (fun v217 hf => ?_)
    refine lv_iload_n hx hb dX10_cover_220 rfl (lv_at hl 1 rfl) ?_
    refine zr_aald X hR (t := 6) (r := v217) (by decide) rfl dX10_cover_221 hf (fun v221 hf => ?_)
    refine lv_iload hx hb dX10_cover_222 (lv_at hl 5 rfl) ?_
    refine lv_iload hx hb dX10_cover_224 (lv_at hl 6 rfl) ?_
    refine zr_iast X hR (r := v221) dX10_cover_226 hf (fun h226 H locs hf hR => ?_)
    refine lv_iload hx hb dX10_cover_227 (lv_at hl 6 rfl) ?_
    refine lv_iload hx hb dX10_cover_229 (lv_at hl 4 rfl) ?_
    refine lv_iadd hx hb dX10_cover_231 ?_
    refine lv_istore (i := 5) (lv' := [(5, .int (x7 + x4)), (0, .ref a0), (1, .int x1), (2, .int x2), (3, .int x3), (4, .int x4), (6, .int x6), (7, .int x7)]) hx hb dX10_cover_232 hl (by decide) rfl (fun ls hl => ?_)
    refine lv_iinc (i := 6) (v := (x6 + (1 : Int32))) (lv' := [(6, .int (x6 + (1 : Int32))), (5, .int (x7 + x4)), (0, .ref a0), (1, .int x1), (2, .int x2), (3, .int x3), (4, .int x4), (7, .int x7)]) hx hb dX10_cover_234 hl (k := 6) rfl rfl (by decide) rfl (fun ls hl => ?_)
    refine lv_goto (tgt := 173) hx hb dX10_cover_237 (by decide) ?_
    cases hf
    exact k0 _ _ _ rfl hR (lv_sub hl [2, 3, 4, 5, 6, 1, 0] rfl)
  · replace hf := zz_neg c211 hf
    refine lv_iconst (v := (0 : Int32)) hx hb dX10_cover_214 (by decide) ?_
    cases hf
    cases hret _ rfl
    exact zr_iret X hR dX10_cover_215 (Nat.le_of_ble_eq_true rfl) (Nat.le_of_ble_eq_true rfl)
set_option maxHeartbeats 4000000 in
set_option maxRecDepth 100000 in
theorem bk_X10_cover_173 {D : va_G} {dA : Nat → ClassId} {base t0 : Nat} {l : Launch} {p : Program} {e : Env} {s : State} {m : MethodId} {args : Array Value} {below : List Frame} {meth : Method} {c : Code} (X : zz_X D dA base t0 "SpringseatModel" cX10_cover 8 (some .int) l p s m meth c) (hT : l.stackTraces = false) {a0 : Nat} {x1 : Int32} {x2 : Int32} {x3 : Int32} {x4 : Int32} {x5 : Int32} {x6 : Int32} {h : zz_H} {n : Nat} {H : Heap} {locs : List Loc} {ls : Array Slot} (hR : zz_R D dA base h n s H locs) (hl : lv_has ls 8 [(0, .ref a0), (1, .int x1), (2, .int x2), (3, .int x3), (4, .int x4), (5, .int x5), (6, .int x6)]) {r0 : Int32} {hF : zz_H} {o : ((Int32 × Int32 × zz_H) ⊕ (Int32 × zz_H))} (hf : f_X10_cover_173 a0 x1 x2 x3 x4 x5 x6 h = some o) (k0 : ∀ (w5 : Int32) (w6 : Int32) (hw : zz_H), o = (.inl (w5, w6, hw)) → ∀ {H : Heap} {locs : List Loc} {ls : Array Slot}, zz_R D dA base hw n s H locs → lv_has ls 8 [(0, .ref a0), (1, .int x1), (2, .int x2), (3, .int x3), (4, .int x4), (5, .int w5), (6, .int w6)] → W p l e rm_X10_cover s m args below meth c H locs 0 0 (MQ below (zz_Qc D dA base (some (.int r0)) hF n) args s rm_X10_cover.cells rm_X10_cover.slots (fun q => base ≤ q)) (F0 m 173 ls [])) (hret : ∀ r, o = (.inr r) → r = (r0, hF)) : W p l e rm_X10_cover s m args below meth c H locs 0 0 (MQ below (zz_Qc D dA base (some (.int r0)) hF n) args s rm_X10_cover.cells rm_X10_cover.slots (fun q => base ≤ q)) (F0 m 173 ls []) := by
  have hx := X.1
  have hb := X.2.1
  have hown := X.2.2.2.2.1
  unfold f_X10_cover_173 at hf
  refine lv_iload hx hb dX10_cover_173 (lv_at hl 6 rfl) ?_
  refine lv_aload_n hx hb dX10_cover_175 rfl (lv_at hl 0 rfl) ?_
  refine zr_gq X hR (r := (some a0)) fl_X10_9 dX10_cover_176 hf (fun v176 hf => ?_)
  refine lv_iload_n hx hb dX10_cover_179 rfl (lv_at hl 1 rfl) ?_
  refine zr_iald X hR (r := v176) dX10_cover_180 hf (fun v180 hf => ?_)
  refine lv_icmp_ge (tgt := 240) hx hb dX10_cover_181 (by decide) (fun c181 => ?_) (fun c181 => ?_)
  · replace hf := zz_pos c181 hf
    refine lv_aload_n hx hb dX10_cover_240 rfl (lv_at hl 0 rfl) ?_
    refine zr_gq X hR (r := (some a0)) fl_X10_95 dX10_cover_241 hf (fun v241 hf => ?_)
    refine lv_iload_n hx hb dX10_cover_244 rfl (lv_at hl 2 rfl) ?_
    refine lv_iload hx hb dX10_cover_245 (lv_at hl 5 rfl) ?_
    refine zr_iast X hR (r := v241) dX10_cover_247 hf (fun h247 H locs hf hR => ?_)
    refine lv_aload_n hx hb dX10_cover_248 rfl (lv_at hl 0 rfl) ?_
    refine zr_gq X hR (r := (some a0)) fl_X10_74 dX10_cover_249 hf (fun v249 hf => ?_)
    refine lv_iload_n hx hb dX10_cover_252 rfl (lv_at hl 1 rfl) ?_
    refine lv_iload hx hb dX10_cover_253 (lv_at hl 4 rfl) ?_
    refine zr_iast X hR (r := v249) dX10_cover_255 hf (fun h255 H locs hf hR => ?_)
    refine lv_aload_n hx hb dX10_cover_256 rfl (lv_at hl 0 rfl) ?_
    refine zr_gq X hR (r := (some a0)) fl_X10_77 dX10_cover_257 hf (fun v257 hf => ?_)
    refine lv_iload_n hx hb dX10_cover_260 rfl (lv_at hl 1 rfl) ?_
    refine lv_iconst (v := (0 : Int32)) hx hb dX10_cover_261 (by decide) ?_
    refine zr_iast X hR (r := v257) dX10_cover_262 hf (fun h262 H locs hf hR => ?_)
    refine lv_aload_n hx hb dX10_cover_263 rfl (lv_at hl 0 rfl) ?_
    refine zr_gq X hR (r := (some a0)) fl_X10_80 dX10_cover_264 hf (fun v264 hf => ?_)
    refine lv_iload_n hx hb dX10_cover_267 rfl (lv_at hl 1 rfl) ?_
    refine lv_aload_n hx hb dX10_cover_268 rfl (lv_at hl 0 rfl) ?_
    refine lv_iload_n hx hb dX10_cover_269 rfl (lv_at hl 1 rfl) ?_
    obtain ⟨fs270, ho270, hf⟩ := zz_obS_i hf
    obtain ⟨v270, hv270, hf⟩ := zz_b_i hf
    refine zr_cV X hR hl.1 (As := [.int x1]) (rest := [.int x1, va_rf v264]) (C := RX10) (T := TX10) (N := 34) (mt_X10_tops hT a0 x1 h262 n hv270) rfl ho270 mf_X10_tops q_1483 q_1485 qs_33 ⟨Nat.le_of_ble_eq_true rfl, Nat.le_of_ble_eq_true rfl⟩ ⟨Nat.le_of_ble_eq_true rfl, Nat.le_of_ble_eq_true rfl⟩ rfl (Nat.le_of_ble_eq_true rfl) dX10_cover_270 (fun H locs hR => ?_)
    refine W.eq (g2 := F0 m 273 ls [.int v270, .int x1, va_rf v264]) rfl ?_
    refine zr_iast X hR (r := v264) dX10_cover_273 hf (fun h273 H locs hf hR => ?_)
    refine lv_aload_n hx hb dX10_cover_274 rfl (lv_at hl 0 rfl) ?_
    refine lv_iload_n hx hb dX10_cover_275 rfl (lv_at hl 1 rfl) ?_
    refine lv_bipush (v := (99 : Int32)) hx hb dX10_cover_276 (by decide) ?_
    obtain ⟨fs278, ho278, hf⟩ := zz_obS_i hf
    obtain ⟨v278, h278, hv278, hf⟩ := zz_b1_i hf
    refine zr_cV X hR hl.1 (As := [.int x1, .int (99 : Int32)]) (rest := []) (C := RX10) (T := TX10) (N := 34) (mt_X10_done hT a0 x1 (99 : Int32) h273 n hv278) rfl ho278 mf_X10_done q_1394 q_1396 qs_22 ⟨Nat.le_of_ble_eq_true rfl, Nat.le_of_ble_eq_true rfl⟩ ⟨Nat.le_of_ble_eq_true rfl, Nat.le_of_ble_eq_true rfl⟩ rfl (Nat.le_of_ble_eq_true rfl) dX10_cover_278 (fun H locs hR => ?_)
    refine W.eq (g2 := F0 m 281 ls [.int v278]) rfl ?_
    refine lv_istore (i := 6) (lv' := [(6, .int v278), (0, .ref a0), (1, .int x1), (2, .int x2), (3, .int x3), (4, .int x4), (5, .int x5)]) hx hb dX10_cover_281 hl (by decide) rfl (fun ls hl => ?_)
    refine lv_iload hx hb dX10_cover_283 (lv_at hl 6 rfl) ?_
    cases hf
    cases hret _ rfl
    exact zr_iret X hR dX10_cover_285 (Nat.le_of_ble_eq_true rfl) (Nat.le_of_ble_eq_true rfl)
  · replace hf := zz_neg c181 hf
    refine lv_aload_n hx hb dX10_cover_184 rfl (lv_at hl 0 rfl) ?_
    refine lv_iload_n hx hb dX10_cover_185 rfl (lv_at hl 2 rfl) ?_
    refine lv_iload hx hb dX10_cover_186 (lv_at hl 5 rfl) ?_
    refine lv_iload hx hb dX10_cover_188 (lv_at hl 4 rfl) ?_
    refine lv_iload_n hx hb dX10_cover_190 rfl (lv_at hl 3 rfl) ?_
    obtain ⟨fs191, ho191, hf⟩ := zz_obS_i hf
    obtain ⟨v191, hv191, hf⟩ := zz_b_i hf
    refine zr_cV X hR hl.1 (As := [.int x2, .int x5, .int x4, .int x3]) (rest := []) (C := RX10) (T := TX10) (N := 34) (mt_X10_placeFor hT a0 x2 x5 x4 x3 h n hv191) rfl ho191 mf_X10_placeFor q_1479 q_1481 qs_32 ⟨Nat.le_of_ble_eq_true rfl, Nat.le_of_ble_eq_true rfl⟩ ⟨Nat.le_of_ble_eq_true rfl, Nat.le_of_ble_eq_true rfl⟩ rfl (Nat.le_of_ble_eq_true rfl) dX10_cover_191 (fun H locs hR => ?_)
    refine W.eq (g2 := F0 m 194 ls [.int v191]) rfl ?_
    refine lv_istore (i := 7) (lv' := [(7, .int v191), (0, .ref a0), (1, .int x1), (2, .int x2), (3, .int x3), (4, .int x4), (5, .int x5), (6, .int x6)]) hx hb dX10_cover_194 hl (by decide) rfl (fun ls hl => ?_)
    refine lv_aload_n hx hb dX10_cover_196 rfl (lv_at hl 1 rfl) ?_
    refine lv_iload hx hb dX10_cover_197 (lv_at hl 0 rfl) ?_
    refine lv_if_ge (tgt := 206) hx hb dX10_cover_199 (by decide) (fun c199 => ?_) (fun c199 => ?_)
    · replace hf := zz_pos c199 hf
      refine lv_iconst (v := (0 : Int32)) hx hb dX10_cover_206 (by decide) ?_
      exact bk_X10_cover_207 X hT hR (lv_sub hl [1, 2, 3, 4, 5, 7, 0] rfl) hf k0 hret
    · replace hf := zz_neg c199 hf
      refine lv_iconst (v := (1 : Int32)) hx hb dX10_cover_202 (by decide) ?_
      refine lv_goto (tgt := 207) hx hb dX10_cover_203 (by decide) ?_
      exact bk_X10_cover_207 X hT hR (lv_sub hl [1, 2, 3, 4, 5, 7, 0] rfl) hf k0 hret
set_option maxHeartbeats 4000000 in
set_option maxRecDepth 100000 in
theorem lp_X10_cover_173 {D : va_G} {dA : Nat → ClassId} {base t0 : Nat} {l : Launch} {p : Program} {e : Env} {s : State} {m : MethodId} {args : Array Value} {below : List Frame} {meth : Method} {c : Code} (X : zz_X D dA base t0 "SpringseatModel" cX10_cover 8 (some .int) l p s m meth c) (hT : l.stackTraces = false) (a0 : Nat) (x1 : Int32) (x2 : Int32) (x3 : Int32) (x4 : Int32) {n : Nat} {r0 : Int32} {hF : zz_H} : ∀ (k : Nat) (x5 : Int32) (x6 : Int32) (h : zz_H), zz_it (fun s : (Int32 × Int32 × zz_H) => f_X10_cover_173 a0 x1 x2 x3 x4 s.1 s.2.1 s.2.2) k (x5, x6, h) = some (r0, hF) → ∀ {H : Heap} {locs : List Loc} {ls : Array Slot}, zz_R D dA base h n s H locs → lv_has ls 8 [(0, .ref a0), (1, .int x1), (2, .int x2), (3, .int x3), (4, .int x4), (5, .int x5), (6, .int x6)] → W p l e rm_X10_cover s m args below meth c H locs 0 0 (MQ below (zz_Qc D dA base (some (.int r0)) hF n) args s rm_X10_cover.cells rm_X10_cover.slots (fun q => base ≤ q)) (F0 m 173 ls []) := by
  intro k
  induction k with
  | zero => intro x5 x6 h hf; cases hf
  | succ k ih =>
    intro x5 x6 h hf H locs ls hR hl
    rcases zz_it_s hf with ⟨⟨y0, y1, y2⟩, h1, h2⟩ | h1
    · exact bk_X10_cover_173 (r0 := r0) X hT hR hl h1  (fun z0 z1 z2 e => by cases e; exact ih _ _ _ h2) (fun r e => by cases e)
    · exact bk_X10_cover_173 (r0 := r0) X hT hR hl h1  (fun z0 z1 z2 e => by cases e) (fun r e => (Sum.inr.inj e).symm)
set_option maxHeartbeats 4000000 in
set_option maxRecDepth 100000 in
theorem bk_X10_cover_109 {D : va_G} {dA : Nat → ClassId} {base t0 : Nat} {l : Launch} {p : Program} {e : Env} {s : State} {m : MethodId} {args : Array Value} {below : List Frame} {meth : Method} {c : Code} (X : zz_X D dA base t0 "SpringseatModel" cX10_cover 8 (some .int) l p s m meth c) (hT : l.stackTraces = false) {a0 : Nat} {x1 : Int32} {x2 : Int32} {x3 : Int32} {x4 : Int32} {x5 : Int32} {x6 : Int32} {h : zz_H} {n : Nat} {H : Heap} {locs : List Loc} {ls : Array Slot} (hR : zz_R D dA base h n s H locs) (hl : lv_has ls 8 [(0, .ref a0), (1, .int x1), (2, .int x2), (3, .int x3), (4, .int x4), (5, .int x5), (6, .int x6)]) {r0 : Int32} {hF : zz_H} {o : ((Int32 × Int32) ⊕ ((Int32 × Int32) ⊕ (Int32 × zz_H)))} (hf : f_X10_cover_109 a0 x1 x2 x3 x4 x5 x6 h = some o) (k0 : ∀ (w4 : Int32) (w5 : Int32), o = (.inr (.inl (w4, w5))) → ∀ {H : Heap} {locs : List Loc} {ls : Array Slot}, zz_R D dA base h n s H locs → lv_has ls 8 [(0, .ref a0), (1, .int x1), (2, .int x2), (3, .int x3), (4, .int w4), (5, .int w5)] → W p l e rm_X10_cover s m args below meth c H locs 0 0 (MQ below (zz_Qc D dA base (some (.int r0)) hF n) args s rm_X10_cover.cells rm_X10_cover.slots (fun q => base ≤ q)) (F0 m 95 ls [])) (k1 : ∀ (w4 : Int32) (w6 : Int32), o = (.inl (w4, w6)) → ∀ {H : Heap} {locs : List Loc} {ls : Array Slot}, zz_R D dA base h n s H locs → lv_has ls 8 [(0, .ref a0), (1, .int x1), (2, .int x2), (3, .int x3), (4, .int w4), (5, .int x5), (6, .int w6)] → W p l e rm_X10_cover s m args below meth c H locs 0 0 (MQ below (zz_Qc D dA base (some (.int r0)) hF n) args s rm_X10_cover.cells rm_X10_cover.slots (fun q => base ≤ q)) (F0 m 109 ls [])) (hret : ∀ r, o = (.inr (.inr r)) → r = (r0, hF)) : W p l e rm_X10_cover s m args below meth c H locs 0 0 (MQ below (zz_Qc D dA base (some (.int r0)) hF n) args s rm_X10_cover.cells rm_X10_cover.slots (fun q => base ≤ q)) (F0 m 109 ls []) := by
  have hx := X.1
  have hb := X.2.1
  have hown := X.2.2.2.2.1
  unfold f_X10_cover_109 at hf
  refine lv_iload hx hb dX10_cover_109 (lv_at hl 6 rfl) ?_
  refine lv_aload_n hx hb dX10_cover_111 rfl (lv_at hl 0 rfl) ?_
  refine zr_gq X hR (r := (some a0)) fl_X10_13 dX10_cover_112 hf (fun v112 hf => ?_)
  refine lv_iload_n hx hb dX10_cover_115 rfl (lv_at hl 1 rfl) ?_
  refine zr_iald X hR (r := v112) dX10_cover_116 hf (fun v116 hf => ?_)
  refine lv_icmp_ge (tgt := 142) hx hb dX10_cover_117 (by decide) (fun c117 => ?_) (fun c117 => ?_)
  · replace hf := zz_pos c117 hf
    refine lv_iinc (i := 5) (v := (x5 + (1 : Int32))) (lv' := [(5, .int (x5 + (1 : Int32))), (0, .ref a0), (1, .int x1), (2, .int x2), (3, .int x3), (4, .int x4), (6, .int x6)]) hx hb dX10_cover_142 hl (k := 5) rfl rfl (by decide) rfl (fun ls hl => ?_)
    refine lv_goto (tgt := 95) hx hb dX10_cover_145 (by decide) ?_
    cases hf
    exact k0 _ _ rfl hR (lv_sub hl [1, 2, 3, 4, 5, 0] rfl)
  · replace hf := zz_neg c117 hf
    refine lv_iload hx hb dX10_cover_120 (lv_at hl 4 rfl) ?_
    refine lv_aload_n hx hb dX10_cover_122 rfl (lv_at hl 0 rfl) ?_
    refine lv_iload_n hx hb dX10_cover_123 rfl (lv_at hl 1 rfl) ?_
    refine lv_iload hx hb dX10_cover_124 (lv_at hl 5 rfl) ?_
    refine lv_iload hx hb dX10_cover_126 (lv_at hl 6 rfl) ?_
    obtain ⟨fs128, ho128, hf⟩ := zz_obS_i hf
    obtain ⟨v128, hv128, hf⟩ := zz_b_i hf
    refine zr_cV X hR hl.1 (As := [.int x1, .int x5, .int x6]) (rest := [.int x4]) (C := RX10) (T := TX10) (N := 34) (mt_X10_topAt hT a0 x1 x5 x6 h n hv128) rfl ho128 mf_X10_topAt q_1466 q_1468 qs_30 ⟨Nat.le_of_ble_eq_true rfl, Nat.le_of_ble_eq_true rfl⟩ ⟨Nat.le_of_ble_eq_true rfl, Nat.le_of_ble_eq_true rfl⟩ rfl (Nat.le_of_ble_eq_true rfl) dX10_cover_128 (fun H locs hR => ?_)
    refine W.eq (g2 := F0 m 131 ls [.int v128, .int x4]) rfl ?_
    refine zr_max X hl.1 q_1478 q_109 q_8 q_110 (Nat.le_of_ble_eq_true rfl) ⟨Nat.le_of_ble_eq_true rfl, Nat.le_of_ble_eq_true rfl⟩ ⟨Nat.le_of_ble_eq_true rfl, Nat.le_of_ble_eq_true rfl⟩ dX10_cover_131 ?_
    refine W.eq (g2 := F0 m 134 ls [.int (zz_max x4 v128)]) rfl ?_
    refine lv_istore (i := 4) (lv' := [(4, .int (zz_max x4 v128)), (0, .ref a0), (1, .int x1), (2, .int x2), (3, .int x3), (5, .int x5), (6, .int x6)]) hx hb dX10_cover_134 hl (by decide) rfl (fun ls hl => ?_)
    refine lv_iinc (i := 6) (v := (x6 + (1 : Int32))) (lv' := [(6, .int (x6 + (1 : Int32))), (4, .int (zz_max x4 v128)), (0, .ref a0), (1, .int x1), (2, .int x2), (3, .int x3), (5, .int x5)]) hx hb dX10_cover_136 hl (k := 6) rfl rfl (by decide) rfl (fun ls hl => ?_)
    refine lv_goto (tgt := 109) hx hb dX10_cover_139 (by decide) ?_
    cases hf
    exact k1 _ _ rfl hR (lv_sub hl [2, 3, 4, 5, 1, 6, 0] rfl)
set_option maxHeartbeats 4000000 in
set_option maxRecDepth 100000 in
theorem lp_X10_cover_109 {D : va_G} {dA : Nat → ClassId} {base t0 : Nat} {l : Launch} {p : Program} {e : Env} {s : State} {m : MethodId} {args : Array Value} {below : List Frame} {meth : Method} {c : Code} (X : zz_X D dA base t0 "SpringseatModel" cX10_cover 8 (some .int) l p s m meth c) (hT : l.stackTraces = false) (a0 : Nat) (x1 : Int32) (x2 : Int32) (x3 : Int32) (x5 : Int32) {h : zz_H} {n : Nat} {r0 : Int32} {hF : zz_H} : ∀ (k : Nat) (x4 : Int32) (x6 : Int32) {o : ((Int32 × Int32) ⊕ (Int32 × zz_H))}, zz_it (fun s : (Int32 × Int32) => f_X10_cover_109 a0 x1 x2 x3 s.1 x5 s.2 h) k (x4, x6) = some o → (∀ (w4 : Int32) (w5 : Int32), o = (.inl (w4, w5)) → ∀ {H : Heap} {locs : List Loc} {ls : Array Slot}, zz_R D dA base h n s H locs → lv_has ls 8 [(0, .ref a0), (1, .int x1), (2, .int x2), (3, .int x3), (4, .int w4), (5, .int w5)] → W p l e rm_X10_cover s m args below meth c H locs 0 0 (MQ below (zz_Qc D dA base (some (.int r0)) hF n) args s rm_X10_cover.cells rm_X10_cover.slots (fun q => base ≤ q)) (F0 m 95 ls [])) → (∀ r, o = (.inr r) → r = (r0, hF)) → ∀ {H : Heap} {locs : List Loc} {ls : Array Slot}, zz_R D dA base h n s H locs → lv_has ls 8 [(0, .ref a0), (1, .int x1), (2, .int x2), (3, .int x3), (4, .int x4), (5, .int x5), (6, .int x6)] → W p l e rm_X10_cover s m args below meth c H locs 0 0 (MQ below (zz_Qc D dA base (some (.int r0)) hF n) args s rm_X10_cover.cells rm_X10_cover.slots (fun q => base ≤ q)) (F0 m 109 ls []) := by
  intro k
  induction k with
  | zero => intro x4 x6 o hf _ _; cases hf
  | succ k ih =>
    intro x4 x6 o hf k0 hret H locs ls hR hl
    rcases zz_it_s hf with ⟨⟨y0, y1⟩, h1, h2⟩ | h1
    · exact bk_X10_cover_109 (r0 := r0) X hT hR hl h1 (fun z0 z1 e => by cases e) (fun z0 z1 e => by cases e; exact ih _ _ h2 k0 hret) (fun r e => by cases e)
    · exact bk_X10_cover_109 (r0 := r0) X hT hR hl h1 (fun z0 z1 e => k0 z0 z1 (Sum.inr.inj e)) (fun z0 z1 e => by cases e) (fun r e => hret r (Sum.inr.inj e))
set_option maxHeartbeats 4000000 in
set_option maxRecDepth 100000 in
theorem bk_X10_cover_95 {D : va_G} {dA : Nat → ClassId} {base t0 : Nat} {l : Launch} {p : Program} {e : Env} {s : State} {m : MethodId} {args : Array Value} {below : List Frame} {meth : Method} {c : Code} (X : zz_X D dA base t0 "SpringseatModel" cX10_cover 8 (some .int) l p s m meth c) (hT : l.stackTraces = false) {a0 : Nat} {x1 : Int32} {x2 : Int32} {x3 : Int32} {x4 : Int32} {x5 : Int32} {h : zz_H} {n : Nat} {H : Heap} {locs : List Loc} {ls : Array Slot} (hR : zz_R D dA base h n s H locs) (hl : lv_has ls 8 [(0, .ref a0), (1, .int x1), (2, .int x2), (3, .int x3), (4, .int x4), (5, .int x5)]) {r0 : Int32} {hF : zz_H} {o : ((Int32 × Int32) ⊕ (Int32 × zz_H))} (hf : f_X10_cover_95 a0 x1 x2 x3 x4 x5 h = some o) (k0 : ∀ (w4 : Int32) (w5 : Int32), o = (.inl (w4, w5)) → ∀ {H : Heap} {locs : List Loc} {ls : Array Slot}, zz_R D dA base h n s H locs → lv_has ls 8 [(0, .ref a0), (1, .int x1), (2, .int x2), (3, .int x3), (4, .int w4), (5, .int w5)] → W p l e rm_X10_cover s m args below meth c H locs 0 0 (MQ below (zz_Qc D dA base (some (.int r0)) hF n) args s rm_X10_cover.cells rm_X10_cover.slots (fun q => base ≤ q)) (F0 m 95 ls [])) (hret : ∀ r, o = (.inr r) → r = (r0, hF)) : W p l e rm_X10_cover s m args below meth c H locs 0 0 (MQ below (zz_Qc D dA base (some (.int r0)) hF n) args s rm_X10_cover.cells rm_X10_cover.slots (fun q => base ≤ q)) (F0 m 95 ls []) := by
  have hx := X.1
  have hb := X.2.1
  have hown := X.2.2.2.2.1
  unfold f_X10_cover_95 at hf
  refine lv_iload hx hb dX10_cover_95 (lv_at hl 5 rfl) ?_
  refine lv_aload_n hx hb dX10_cover_97 rfl (lv_at hl 0 rfl) ?_
  refine zr_gq X hR (r := (some a0)) fl_X10_9 dX10_cover_98 hf (fun v98 hf => ?_)
  refine lv_iload_n hx hb dX10_cover_101 rfl (lv_at hl 1 rfl) ?_
  refine zr_iald X hR (r := v98) dX10_cover_102 hf (fun v102 hf => ?_)
  refine lv_icmp_ge (tgt := 148) hx hb dX10_cover_103 (by decide) (fun c103 => ?_) (fun c103 => ?_)
  · replace hf := zz_pos c103 hf
    refine lv_iload hx hb dX10_cover_148 (lv_at hl 4 rfl) ?_
    refine lv_bipush (v := (10 : Int32)) hx hb dX10_cover_150 (by decide) ?_
    refine lv_aload_n hx hb dX10_cover_152 rfl (lv_at hl 0 rfl) ?_
    refine zr_gq X hR (r := (some a0)) fl_X10_13 dX10_cover_153 hf (fun v153 hf => ?_)
    refine lv_iload_n hx hb dX10_cover_156 rfl (lv_at hl 1 rfl) ?_
    refine zr_iald X hR (r := v153) dX10_cover_157 hf (fun v157 hf => ?_)
    refine lv_imul hx hb dX10_cover_158 ?_
    refine lv_iadd hx hb dX10_cover_159 ?_
    refine lv_istore (i := 4) (lv' := [(4, .int (x4 + ((10 : Int32) * v157))), (0, .ref a0), (1, .int x1), (2, .int x2), (3, .int x3), (5, .int x5)]) hx hb dX10_cover_160 hl (by decide) rfl (fun ls hl => ?_)
    refine lv_aload_n hx hb dX10_cover_162 rfl (lv_at hl 1 rfl) ?_
    refine zr_gq X hR (r := (some a0)) fl_X10_95 dX10_cover_163 hf (fun v163 hf => ?_)
    refine lv_iload_n hx hb dX10_cover_166 rfl (lv_at hl 3 rfl) ?_
    refine zr_iald X hR (r := v163) dX10_cover_167 hf (fun v167 hf => ?_)
    refine lv_istore (i := 5) (lv' := [(5, .int v167), (4, .int (x4 + ((10 : Int32) * v157))), (0, .ref a0), (1, .int x1), (2, .int x2), (3, .int x3)]) hx hb dX10_cover_168 hl (by decide) rfl (fun ls hl => ?_)
    refine lv_iconst (v := (0 : Int32)) hx hb dX10_cover_170 (by decide) ?_
    refine lv_istore (i := 6) (lv' := [(6, .int (0 : Int32)), (5, .int v167), (4, .int (x4 + ((10 : Int32) * v157))), (0, .ref a0), (1, .int x1), (2, .int x2), (3, .int x3)]) hx hb dX10_cover_171 hl (by decide) rfl (fun ls hl => ?_)
    obtain ⟨o1, hf1, he⟩ := Option.map_eq_some_iff.mp hf
    cases he
    cases hret _ rfl
    exact lp_X10_cover_173 X hT a0 x1 x2 x3 (x4 + ((10 : Int32) * v157)) zz_F _ _ _ hf1 hR (lv_sub hl [3, 4, 5, 6, 2, 1, 0] rfl)
  · replace hf := zz_neg c103 hf
    refine lv_iconst (v := (0 : Int32)) hx hb dX10_cover_106 (by decide) ?_
    refine lv_istore (i := 6) (lv' := [(6, .int (0 : Int32)), (0, .ref a0), (1, .int x1), (2, .int x2), (3, .int x3), (4, .int x4), (5, .int x5)]) hx hb dX10_cover_107 hl (by decide) rfl (fun ls hl => ?_)
    exact lp_X10_cover_109 X hT a0 x1 x2 x3 x5 zz_F _ _ hf k0 hret hR (lv_sub hl [1, 2, 3, 4, 5, 6, 0] rfl)
set_option maxHeartbeats 4000000 in
set_option maxRecDepth 100000 in
theorem lp_X10_cover_95 {D : va_G} {dA : Nat → ClassId} {base t0 : Nat} {l : Launch} {p : Program} {e : Env} {s : State} {m : MethodId} {args : Array Value} {below : List Frame} {meth : Method} {c : Code} (X : zz_X D dA base t0 "SpringseatModel" cX10_cover 8 (some .int) l p s m meth c) (hT : l.stackTraces = false) (a0 : Nat) (x1 : Int32) (x2 : Int32) (x3 : Int32) {h : zz_H} {n : Nat} {r0 : Int32} {hF : zz_H} : ∀ (k : Nat) (x4 : Int32) (x5 : Int32), zz_it (fun s : (Int32 × Int32) => f_X10_cover_95 a0 x1 x2 x3 s.1 s.2 h) k (x4, x5) = some (r0, hF) → ∀ {H : Heap} {locs : List Loc} {ls : Array Slot}, zz_R D dA base h n s H locs → lv_has ls 8 [(0, .ref a0), (1, .int x1), (2, .int x2), (3, .int x3), (4, .int x4), (5, .int x5)] → W p l e rm_X10_cover s m args below meth c H locs 0 0 (MQ below (zz_Qc D dA base (some (.int r0)) hF n) args s rm_X10_cover.cells rm_X10_cover.slots (fun q => base ≤ q)) (F0 m 95 ls []) := by
  intro k
  induction k with
  | zero => intro x4 x5 hf; cases hf
  | succ k ih =>
    intro x4 x5 hf H locs ls hR hl
    rcases zz_it_s hf with ⟨⟨y0, y1⟩, h1, h2⟩ | h1
    · exact bk_X10_cover_95 (r0 := r0) X hT hR hl h1  (fun z0 z1 e => by cases e; exact ih _ _ h2) (fun r e => by cases e)
    · exact bk_X10_cover_95 (r0 := r0) X hT hR hl h1  (fun z0 z1 e => by cases e) (fun r e => (Sum.inr.inj e).symm)
set_option maxHeartbeats 4000000 in
set_option maxRecDepth 100000 in
theorem bk_X10_cover_87 {D : va_G} {dA : Nat → ClassId} {base t0 : Nat} {l : Launch} {p : Program} {e : Env} {s : State} {m : MethodId} {args : Array Value} {below : List Frame} {meth : Method} {c : Code} (X : zz_X D dA base t0 "SpringseatModel" cX10_cover 8 (some .int) l p s m meth c) (hT : l.stackTraces = false) {h : zz_H} {n : Nat} {H : Heap} {locs : List Loc} {ls : Array Slot} (hR : zz_R D dA base h n s H locs) (hl : lv_has ls 8 []) {r0 : Int32} {hF : zz_H} (hf : f_X10_cover_87 h = some (r0, hF)) : W p l e rm_X10_cover s m args below meth c H locs 0 0 (MQ below (zz_Qc D dA base (some (.int r0)) hF n) args s rm_X10_cover.cells rm_X10_cover.slots (fun q => base ≤ q)) (F0 m 87 ls []) := by
  have hx := X.1
  have hb := X.2.1
  have hown := X.2.2.2.2.1
  unfold f_X10_cover_87 at hf
  refine lv_iconst (v := (0 : Int32)) hx hb dX10_cover_87 (by decide) ?_
  cases hf
  exact zr_iret X hR dX10_cover_88 (Nat.le_of_ble_eq_true rfl) (Nat.le_of_ble_eq_true rfl)
set_option maxHeartbeats 4000000 in
set_option maxRecDepth 100000 in
theorem bk_X10_cover_80 {D : va_G} {dA : Nat → ClassId} {base t0 : Nat} {l : Launch} {p : Program} {e : Env} {s : State} {m : MethodId} {args : Array Value} {below : List Frame} {meth : Method} {c : Code} (X : zz_X D dA base t0 "SpringseatModel" cX10_cover 8 (some .int) l p s m meth c) (hT : l.stackTraces = false) {a0 : Nat} {x1 : Int32} {x2 : Int32} {x3 : Int32} {s0 : Int32} {s1 : (Option Nat)} {h : zz_H} {n : Nat} {H : Heap} {locs : List Loc} {ls : Array Slot} (hR : zz_R D dA base h n s H locs) (hl : lv_has ls 8 [(0, .ref a0), (1, .int x1), (2, .int x2), (3, .int x3)]) {r0 : Int32} {hF : zz_H} (hf : f_X10_cover_80 a0 x1 x2 x3 s0 s1 h = some (r0, hF)) : W p l e rm_X10_cover s m args below meth c H locs 0 0 (MQ below (zz_Qc D dA base (some (.int r0)) hF n) args s rm_X10_cover.cells rm_X10_cover.slots (fun q => base ≤ q)) (F0 m 80 ls [.int s0, va_rf s1]) := by
  have hx := X.1
  have hb := X.2.1
  have hown := X.2.2.2.2.1
  unfold f_X10_cover_80 at hf
  refine lv_iconst (v := (3 : Int32)) hx hb dX10_cover_80 (by decide) ?_
  obtain ⟨b81, fs81, hr81, ho81, hf⟩ := zz_ob_i hf
  obtain ⟨v81, h81, hv81, hf⟩ := zz_b1_i hf
  refine zr_cV X hR hl.1 (As := [.int s0, .int (3 : Int32)]) (rest := []) (C := RX10) (T := TX10) (N := 34) (mt_X10_isThrown hT b81 s0 (3 : Int32) h n hv81) rfl ho81 mf_X10_isThrown q_1370 q_1372 qs_17 ⟨Nat.le_of_ble_eq_true rfl, Nat.le_of_ble_eq_true rfl⟩ ⟨Nat.le_of_ble_eq_true rfl, Nat.le_of_ble_eq_true rfl⟩ (by rw [hr81]; rfl) (Nat.le_of_ble_eq_true rfl) dX10_cover_81 (fun H locs hR => ?_)
  refine W.eq (g2 := F0 m 84 ls [.int v81]) rfl ?_
  refine lv_if_eq (tgt := 89) hx hb dX10_cover_84 (by decide) (fun c84 => ?_) (fun c84 => ?_)
  · replace hf := zz_pos c84 hf
    refine lv_iconst (v := (0 : Int32)) hx hb dX10_cover_89 (by decide) ?_
    refine lv_istore (i := 4) (lv' := [(4, .int (0 : Int32)), (0, .ref a0), (1, .int x1), (2, .int x2), (3, .int x3)]) hx hb dX10_cover_90 hl (by decide) rfl (fun ls hl => ?_)
    refine lv_iconst (v := (0 : Int32)) hx hb dX10_cover_92 (by decide) ?_
    refine lv_istore (i := 5) (lv' := [(5, .int (0 : Int32)), (4, .int (0 : Int32)), (0, .ref a0), (1, .int x1), (2, .int x2), (3, .int x3)]) hx hb dX10_cover_93 hl (by decide) rfl (fun ls hl => ?_)
    exact lp_X10_cover_95 X hT a0 x1 x2 x3 zz_F _ _ hf hR (lv_sub hl [2, 3, 4, 5, 1, 0] rfl)
  · replace hf := zz_neg c84 hf
    exact bk_X10_cover_87 X hT hR (lv_sub hl [] rfl) hf
set_option maxHeartbeats 4000000 in
set_option maxRecDepth 100000 in
theorem bk_X10_cover_57 {D : va_G} {dA : Nat → ClassId} {base t0 : Nat} {l : Launch} {p : Program} {e : Env} {s : State} {m : MethodId} {args : Array Value} {below : List Frame} {meth : Method} {c : Code} (X : zz_X D dA base t0 "SpringseatModel" cX10_cover 8 (some .int) l p s m meth c) (hT : l.stackTraces = false) {a0 : Nat} {x1 : Int32} {x2 : Int32} {x3 : Int32} {s0 : Int32} {s1 : (Option Nat)} {h : zz_H} {n : Nat} {H : Heap} {locs : List Loc} {ls : Array Slot} (hR : zz_R D dA base h n s H locs) (hl : lv_has ls 8 [(0, .ref a0), (1, .int x1), (2, .int x2), (3, .int x3)]) {r0 : Int32} {hF : zz_H} (hf : f_X10_cover_57 a0 x1 x2 x3 s0 s1 h = some (r0, hF)) : W p l e rm_X10_cover s m args below meth c H locs 0 0 (MQ below (zz_Qc D dA base (some (.int r0)) hF n) args s rm_X10_cover.cells rm_X10_cover.slots (fun q => base ≤ q)) (F0 m 57 ls [.int s0, va_rf s1]) := by
  have hx := X.1
  have hb := X.2.1
  have hown := X.2.2.2.2.1
  unfold f_X10_cover_57 at hf
  refine lv_iconst (v := (2 : Int32)) hx hb dX10_cover_57 (by decide) ?_
  obtain ⟨b58, fs58, hr58, ho58, hf⟩ := zz_ob_i hf
  obtain ⟨v58, h58, hv58, hf⟩ := zz_b1_i hf
  refine zr_cV X hR hl.1 (As := [.int s0, .int (2 : Int32)]) (rest := []) (C := RX10) (T := TX10) (N := 34) (mt_X10_isThrown hT b58 s0 (2 : Int32) h n hv58) rfl ho58 mf_X10_isThrown q_1370 q_1372 qs_17 ⟨Nat.le_of_ble_eq_true rfl, Nat.le_of_ble_eq_true rfl⟩ ⟨Nat.le_of_ble_eq_true rfl, Nat.le_of_ble_eq_true rfl⟩ (by rw [hr58]; rfl) (Nat.le_of_ble_eq_true rfl) dX10_cover_58 (fun H locs hR => ?_)
  refine W.eq (g2 := F0 m 61 ls [.int v58]) rfl ?_
  refine lv_if_ne (tgt := 87) hx hb dX10_cover_61 (by decide) (fun c61 => ?_) (fun c61 => ?_)
  · replace hf := zz_neg c61 hf
    exact bk_X10_cover_87 X hT hR (lv_sub hl [] rfl) hf
  · replace hf := zz_pos c61 hf
    refine lv_aload_n hx hb dX10_cover_64 rfl (lv_at hl 0 rfl) ?_
    refine lv_aload_n hx hb dX10_cover_65 rfl (lv_at hl 0 rfl) ?_
    refine lv_iload_n hx hb dX10_cover_66 rfl (lv_at hl 1 rfl) ?_
    refine lv_bipush (v := (99 : Int32)) hx hb dX10_cover_67 (by decide) ?_
    obtain ⟨fs69, ho69, hf⟩ := zz_obS_i hf
    obtain ⟨v69, hv69, hf⟩ := zz_b_i hf
    refine zr_cV X hR hl.1 (As := [.int x1, .int (99 : Int32)]) (rest := [.ref a0]) (C := RX10) (T := TX10) (N := 34) (mt_X10_mayCome hT a0 x1 (99 : Int32) h58 n hv69) rfl ho69 mf_X10_mayCome q_1382 q_1384 qs_19 ⟨Nat.le_of_ble_eq_true rfl, Nat.le_of_ble_eq_true rfl⟩ ⟨Nat.le_of_ble_eq_true rfl, Nat.le_of_ble_eq_true rfl⟩ rfl (Nat.le_of_ble_eq_true rfl) dX10_cover_69 (fun H locs hR => ?_)
    refine W.eq (g2 := F0 m 72 ls [.int v69, .ref a0]) rfl ?_
    refine lv_if_ne (tgt := 79) hx hb dX10_cover_72 (by decide) (fun c72 => ?_) (fun c72 => ?_)
    · replace hf := zz_neg c72 hf
      refine lv_iconst (v := (0 : Int32)) hx hb dX10_cover_79 (by decide) ?_
      exact bk_X10_cover_80 X hT hR (lv_sub hl [0, 1, 2, 3] rfl) hf
    · replace hf := zz_pos c72 hf
      refine lv_iconst (v := (1 : Int32)) hx hb dX10_cover_75 (by decide) ?_
      refine lv_goto (tgt := 80) hx hb dX10_cover_76 (by decide) ?_
      exact bk_X10_cover_80 X hT hR (lv_sub hl [0, 1, 2, 3] rfl) hf
set_option maxHeartbeats 4000000 in
set_option maxRecDepth 100000 in
theorem bk_X10_cover_28 {D : va_G} {dA : Nat → ClassId} {base t0 : Nat} {l : Launch} {p : Program} {e : Env} {s : State} {m : MethodId} {args : Array Value} {below : List Frame} {meth : Method} {c : Code} (X : zz_X D dA base t0 "SpringseatModel" cX10_cover 8 (some .int) l p s m meth c) (hT : l.stackTraces = false) {a0 : Nat} {x1 : Int32} {x2 : Int32} {x3 : Int32} {s0 : Int32} {s1 : (Option Nat)} {h : zz_H} {n : Nat} {H : Heap} {locs : List Loc} {ls : Array Slot} (hR : zz_R D dA base h n s H locs) (hl : lv_has ls 8 [(0, .ref a0), (1, .int x1), (2, .int x2), (3, .int x3)]) {r0 : Int32} {hF : zz_H} (hf : f_X10_cover_28 a0 x1 x2 x3 s0 s1 h = some (r0, hF)) : W p l e rm_X10_cover s m args below meth c H locs 0 0 (MQ below (zz_Qc D dA base (some (.int r0)) hF n) args s rm_X10_cover.cells rm_X10_cover.slots (fun q => base ≤ q)) (F0 m 28 ls [.int s0, va_rf s1]) := by
  have hx := X.1
  have hb := X.2.1
  have hown := X.2.2.2.2.1
  unfold f_X10_cover_28 at hf
  refine lv_iconst (v := (1 : Int32)) hx hb dX10_cover_28 (by decide) ?_
  obtain ⟨b29, fs29, hr29, ho29, hf⟩ := zz_ob_i hf
  obtain ⟨v29, h29, hv29, hf⟩ := zz_b1_i hf
  refine zr_cV X hR hl.1 (As := [.int s0, .int (1 : Int32)]) (rest := []) (C := RX10) (T := TX10) (N := 34) (mt_X10_isThrown hT b29 s0 (1 : Int32) h n hv29) rfl ho29 mf_X10_isThrown q_1370 q_1372 qs_17 ⟨Nat.le_of_ble_eq_true rfl, Nat.le_of_ble_eq_true rfl⟩ ⟨Nat.le_of_ble_eq_true rfl, Nat.le_of_ble_eq_true rfl⟩ (by rw [hr29]; rfl) (Nat.le_of_ble_eq_true rfl) dX10_cover_29 (fun H locs hR => ?_)
  refine W.eq (g2 := F0 m 32 ls [.int v29]) rfl ?_
  refine lv_if_ne (tgt := 87) hx hb dX10_cover_32 (by decide) (fun c32 => ?_) (fun c32 => ?_)
  · replace hf := zz_neg c32 hf
    exact bk_X10_cover_87 X hT hR (lv_sub hl [] rfl) hf
  · replace hf := zz_pos c32 hf
    refine lv_aload_n hx hb dX10_cover_35 rfl (lv_at hl 0 rfl) ?_
    refine lv_iload_n hx hb dX10_cover_36 rfl (lv_at hl 3 rfl) ?_
    refine lv_iconst (v := (0 : Int32)) hx hb dX10_cover_37 (by decide) ?_
    refine lv_aload_n hx hb dX10_cover_38 rfl (lv_at hl 0 rfl) ?_
    refine zr_gq X hR (r := (some a0)) fl_X10_92 dX10_cover_39 hf (fun v39 hf => ?_)
    refine lv_iload_n hx hb dX10_cover_42 rfl (lv_at hl 2 rfl) ?_
    refine zr_iald X hR (r := v39) dX10_cover_43 hf (fun v43 hf => ?_)
    refine lv_iconst (v := (1 : Int32)) hx hb dX10_cover_44 (by decide) ?_
    refine lv_isub hx hb dX10_cover_45 ?_
    obtain ⟨v46, hv46, hf⟩ := zz_b_i hf
    refine zr_cS X hR hl.1 (As := [.int x3, .int (0 : Int32), .int (v43 - (1 : Int32))]) (rest := [.ref a0]) (mt_X10_isIn hT x3 (0 : Int32) (v43 - (1 : Int32)) h29 n hv46) mf_X10_isIn q_1367 q_1368 ⟨Nat.le_of_ble_eq_true rfl, Nat.le_of_ble_eq_true rfl⟩ ⟨Nat.le_of_ble_eq_true rfl, Nat.le_of_ble_eq_true rfl⟩ rfl (Nat.le_of_ble_eq_true rfl) dX10_cover_46 (fun H locs hR => ?_)
    refine W.eq (g2 := F0 m 49 ls [.int v46, .ref a0]) rfl ?_
    refine lv_if_ne (tgt := 56) hx hb dX10_cover_49 (by decide) (fun c49 => ?_) (fun c49 => ?_)
    · replace hf := zz_neg c49 hf
      refine lv_iconst (v := (0 : Int32)) hx hb dX10_cover_56 (by decide) ?_
      exact bk_X10_cover_57 X hT hR (lv_sub hl [0, 1, 2, 3] rfl) hf
    · replace hf := zz_pos c49 hf
      refine lv_iconst (v := (1 : Int32)) hx hb dX10_cover_52 (by decide) ?_
      refine lv_goto (tgt := 57) hx hb dX10_cover_53 (by decide) ?_
      exact bk_X10_cover_57 X hT hR (lv_sub hl [0, 1, 2, 3] rfl) hf
set_option maxHeartbeats 4000000 in
set_option maxRecDepth 100000 in
theorem bk_X10_cover_23 {D : va_G} {dA : Nat → ClassId} {base t0 : Nat} {l : Launch} {p : Program} {e : Env} {s : State} {m : MethodId} {args : Array Value} {below : List Frame} {meth : Method} {c : Code} (X : zz_X D dA base t0 "SpringseatModel" cX10_cover 8 (some .int) l p s m meth c) (hT : l.stackTraces = false) {a0 : Nat} {x1 : Int32} {x2 : Int32} {x3 : Int32} {s0 : (Option Nat)} {h : zz_H} {n : Nat} {H : Heap} {locs : List Loc} {ls : Array Slot} (hR : zz_R D dA base h n s H locs) (hl : lv_has ls 8 [(0, .ref a0), (1, .int x1), (2, .int x2), (3, .int x3)]) {r0 : Int32} {hF : zz_H} (hf : f_X10_cover_23 a0 x1 x2 x3 s0 h = some (r0, hF)) : W p l e rm_X10_cover s m args below meth c H locs 0 0 (MQ below (zz_Qc D dA base (some (.int r0)) hF n) args s rm_X10_cover.cells rm_X10_cover.slots (fun q => base ≤ q)) (F0 m 23 ls [va_rf s0]) := by
  have hx := X.1
  have hb := X.2.1
  have hown := X.2.2.2.2.1
  unfold f_X10_cover_23 at hf
  refine lv_iconst (v := (1 : Int32)) hx hb dX10_cover_23 (by decide) ?_
  refine lv_goto (tgt := 28) hx hb dX10_cover_24 (by decide) ?_
  exact bk_X10_cover_28 X hT hR (lv_sub hl [0, 1, 2, 3] rfl) hf
set_option maxHeartbeats 4000000 in
set_option maxRecDepth 100000 in
theorem mt_X10_cover {D : va_G} {dA : Nat → ClassId} {base t0 : Nat} {l : Launch} (hT : l.stackTraces = false) (a0 : Nat) (x1 : Int32) (x2 : Int32) (x3 : Int32) (h : zz_H) (n : Nat) {r0 : Int32} {hF : zz_H} (hf : f_X10_cover a0 x1 x2 x3 h = some (r0, hF)) : zz_M D dA base t0 l yX10_cover cX10_cover 8 (some .int) rm_X10_cover [.ref a0, .int x1, .int x2, .int x3] h n (some (.int r0)) hF n := by
  refine Met.ofW (cc := cX10_cover) (maxL := 8) (ret := (some .int)) (by decide +kernel) rfl ?_
  intro p e s m args below meth c s₁ B hml hv
  obtain ⟨rfl, hP, hK⟩ := hv
  have X : zz_X D dA base t0 "SpringseatModel" cX10_cover 8 (some .int) l p s m meth c := ⟨B.exec, B.bytes, hml, B.returns, findClass_of_methodNamed B.named, B.notSynchronized, hT, by rw [hP.1]; exact hP.2.1, hK⟩
  have hx := X.1
  have hb := X.2.1
  have hown := X.2.2.2.2.1
  have hR : zz_R D dA base h n s s.heap [] := ⟨hP, va_S.rf⟩
  have hl := lv_entry ([.ref a0, .int x1, .int x2, .int x3]) (n := 8) (by exact Nat.le_of_ble_eq_true rfl)
  rw [lg_entry_eq]
  generalize (lg_sl ([.ref a0, .int x1, .int x2, .int x3]) ++ List.replicate (8 - (lg_sl ([.ref a0, .int x1, .int x2, .int x3])).length) Slot.unset).toArray = ls at hl ⊢
  have hl : lv_has ls 8 [(0, .ref a0), (1, .int x1), (2, .int x2), (3, .int x3)] := hl
  unfold f_X10_cover at hf
  refine lv_aload_n hx hb dX10_cover_0 rfl (lv_at hl 0 rfl) ?_
  refine lv_aload_n hx hb dX10_cover_1 rfl (lv_at hl 0 rfl) ?_
  refine lv_iload_n hx hb dX10_cover_2 rfl (lv_at hl 1 rfl) ?_
  obtain ⟨fs3, ho3, hf⟩ := zz_obS_i hf
  obtain ⟨v3, hv3, hf⟩ := zz_b_i hf
  refine zr_cV X hR hl.1 (As := [.int x1]) (rest := [.ref a0]) (C := RX10) (T := TX10) (N := 34) (mt_X10_isNoSeat hT a0 x1 h n hv3) rfl ho3 mf_X10_isNoSeat q_1378 q_1380 qs_18 ⟨Nat.le_of_ble_eq_true rfl, Nat.le_of_ble_eq_true rfl⟩ ⟨Nat.le_of_ble_eq_true rfl, Nat.le_of_ble_eq_true rfl⟩ rfl (Nat.le_of_ble_eq_true rfl) dX10_cover_3 (fun H locs hR => ?_)
  refine W.eq (g2 := F0 m 6 ls [.int v3, .ref a0]) rfl ?_
  refine lv_if_ne (tgt := 23) hx hb dX10_cover_6 (by decide) (fun c6 => ?_) (fun c6 => ?_)
  · replace hf := zz_neg c6 hf
    exact bk_X10_cover_23 X hT hR (lv_sub hl [0, 1, 2, 3] rfl) hf
  · replace hf := zz_pos c6 hf
    refine lv_iload_n hx hb dX10_cover_9 rfl (lv_at hl 2 rfl) ?_
    refine lv_iconst (v := (0 : Int32)) hx hb dX10_cover_10 (by decide) ?_
    refine lv_aload_n hx hb dX10_cover_11 rfl (lv_at hl 0 rfl) ?_
    refine zr_gi X hR (r := (some a0)) fl_X10_179 dX10_cover_12 hf (fun v12 hf => ?_)
    refine lv_iconst (v := (1 : Int32)) hx hb dX10_cover_15 (by decide) ?_
    refine lv_isub hx hb dX10_cover_16 ?_
    obtain ⟨v17, hv17, hf⟩ := zz_b_i hf
    refine zr_cS X hR hl.1 (As := [.int x2, .int (0 : Int32), .int (v12 - (1 : Int32))]) (rest := [.ref a0]) (mt_X10_isIn hT x2 (0 : Int32) (v12 - (1 : Int32)) h n hv17) mf_X10_isIn q_1367 q_1368 ⟨Nat.le_of_ble_eq_true rfl, Nat.le_of_ble_eq_true rfl⟩ ⟨Nat.le_of_ble_eq_true rfl, Nat.le_of_ble_eq_true rfl⟩ rfl (Nat.le_of_ble_eq_true rfl) dX10_cover_17 (fun H locs hR => ?_)
    refine W.eq (g2 := F0 m 20 ls [.int v17, .ref a0]) rfl ?_
    refine lv_if_ne (tgt := 27) hx hb dX10_cover_20 (by decide) (fun c20 => ?_) (fun c20 => ?_)
    · replace hf := zz_neg c20 hf
      refine lv_iconst (v := (0 : Int32)) hx hb dX10_cover_27 (by decide) ?_
      exact bk_X10_cover_28 X hT hR (lv_sub hl [0, 1, 2, 3] rfl) hf
    · replace hf := zz_pos c20 hf
      exact bk_X10_cover_23 X hT hR (lv_sub hl [0, 1, 2, 3] rfl) hf
def rm_X10_sign : Room := { frames := 2, cells := 0, slots := 0, locals := 43 }
theorem mf_X10_sign : zz_Mf yX10_sign cX10_sign 2 (some .int) 1 := ⟨q_1490, q_11, by decide +kernel, by decide +kernel, by decide +kernel⟩
set_option maxHeartbeats 4000000 in
set_option maxRecDepth 100000 in
theorem bk_X10_sign_26 {D : va_G} {dA : Nat → ClassId} {base t0 : Nat} {l : Launch} {p : Program} {e : Env} {s : State} {m : MethodId} {args : Array Value} {below : List Frame} {meth : Method} {c : Code} (X : zz_X D dA base t0 "SpringseatModel" cX10_sign 2 (some .int) l p s m meth c) (hT : l.stackTraces = false) {h : zz_H} {n : Nat} {H : Heap} {locs : List Loc} {ls : Array Slot} (hR : zz_R D dA base h n s H locs) (hl : lv_has ls 2 []) {r0 : Int32} {hF : zz_H} (hf : f_X10_sign_26 h = some (r0, hF)) : W p l e rm_X10_sign s m args below meth c H locs 0 0 (MQ below (zz_Qc D dA base (some (.int r0)) hF n) args s rm_X10_sign.cells rm_X10_sign.slots (fun q => base ≤ q)) (F0 m 26 ls []) := by
  have hx := X.1
  have hb := X.2.1
  have hown := X.2.2.2.2.1
  unfold f_X10_sign_26 at hf
  refine lv_iconst (v := (0 : Int32)) hx hb dX10_sign_26 (by decide) ?_
  cases hf
  exact zr_iret X hR dX10_sign_27 (Nat.le_of_ble_eq_true rfl) (Nat.le_of_ble_eq_true rfl)
set_option maxHeartbeats 4000000 in
set_option maxRecDepth 100000 in
theorem mt_X10_sign {D : va_G} {dA : Nat → ClassId} {base t0 : Nat} {l : Launch} (hT : l.stackTraces = false) (a0 : Nat) (x1 : Int32) (h : zz_H) (n : Nat) {r0 : Int32} {hF : zz_H} (hf : f_X10_sign a0 x1 h = some (r0, hF)) : zz_M D dA base t0 l yX10_sign cX10_sign 2 (some .int) rm_X10_sign [.ref a0, .int x1] h n (some (.int r0)) hF n := by
  refine Met.ofW (cc := cX10_sign) (maxL := 2) (ret := (some .int)) (by decide +kernel) rfl ?_
  intro p e s m args below meth c s₁ B hml hv
  obtain ⟨rfl, hP, hK⟩ := hv
  have X : zz_X D dA base t0 "SpringseatModel" cX10_sign 2 (some .int) l p s m meth c := ⟨B.exec, B.bytes, hml, B.returns, findClass_of_methodNamed B.named, B.notSynchronized, hT, by rw [hP.1]; exact hP.2.1, hK⟩
  have hx := X.1
  have hb := X.2.1
  have hown := X.2.2.2.2.1
  have hR : zz_R D dA base h n s s.heap [] := ⟨hP, va_S.rf⟩
  have hl := lv_entry ([.ref a0, .int x1]) (n := 2) (by exact Nat.le_of_ble_eq_true rfl)
  rw [lg_entry_eq]
  generalize (lg_sl ([.ref a0, .int x1]) ++ List.replicate (2 - (lg_sl ([.ref a0, .int x1])).length) Slot.unset).toArray = ls at hl ⊢
  have hl : lv_has ls 2 [(0, .ref a0), (1, .int x1)] := hl
  unfold f_X10_sign at hf
  refine lv_aload_n hx hb dX10_sign_0 rfl (lv_at hl 0 rfl) ?_
  refine lv_aload_n hx hb dX10_sign_1 rfl (lv_at hl 0 rfl) ?_
  refine lv_iload_n hx hb dX10_sign_2 rfl (lv_at hl 1 rfl) ?_
  obtain ⟨fs3, ho3, hf⟩ := zz_obS_i hf
  obtain ⟨v3, hv3, hf⟩ := zz_b_i hf
  refine zr_cV X hR hl.1 (As := [.int x1]) (rest := [.ref a0]) (C := RX10) (T := TX10) (N := 34) (mt_X10_isNoSeat hT a0 x1 h n hv3) rfl ho3 mf_X10_isNoSeat q_1378 q_1380 qs_18 ⟨Nat.le_of_ble_eq_true rfl, Nat.le_of_ble_eq_true rfl⟩ ⟨Nat.le_of_ble_eq_true rfl, Nat.le_of_ble_eq_true rfl⟩ rfl (Nat.le_of_ble_eq_true rfl) dX10_sign_3 (fun H locs hR => ?_)
  refine W.eq (g2 := F0 m 6 ls [.int v3, .ref a0]) rfl ?_
  refine lv_iconst (v := (1 : Int32)) hx hb dX10_sign_6 (by decide) ?_
  obtain ⟨fs7, ho7, hf⟩ := zz_obS_i hf
  obtain ⟨v7, h7, hv7, hf⟩ := zz_b1_i hf
  refine zr_cV X hR hl.1 (As := [.int v3, .int (1 : Int32)]) (rest := []) (C := RX10) (T := TX10) (N := 34) (mt_X10_isThrown hT a0 v3 (1 : Int32) h n hv7) rfl ho7 mf_X10_isThrown q_1370 q_1372 qs_17 ⟨Nat.le_of_ble_eq_true rfl, Nat.le_of_ble_eq_true rfl⟩ ⟨Nat.le_of_ble_eq_true rfl, Nat.le_of_ble_eq_true rfl⟩ rfl (Nat.le_of_ble_eq_true rfl) dX10_sign_7 (fun H locs hR => ?_)
  refine W.eq (g2 := F0 m 10 ls [.int v7]) rfl ?_
  refine lv_if_ne (tgt := 26) hx hb dX10_sign_10 (by decide) (fun c10 => ?_) (fun c10 => ?_)
  · replace hf := zz_neg c10 hf
    exact bk_X10_sign_26 X hT hR (lv_sub hl [] rfl) hf
  · replace hf := zz_pos c10 hf
    refine lv_aload_n hx hb dX10_sign_13 rfl (lv_at hl 0 rfl) ?_
    refine lv_aload_n hx hb dX10_sign_14 rfl (lv_at hl 0 rfl) ?_
    refine lv_iload_n hx hb dX10_sign_15 rfl (lv_at hl 1 rfl) ?_
    obtain ⟨fs16, ho16, hf⟩ := zz_obS_i hf
    obtain ⟨v16, hv16, hf⟩ := zz_b_i hf
    refine zr_cV X hR hl.1 (As := [.int x1]) (rest := [.ref a0]) (C := RX10) (T := TX10) (N := 34) (mt_X10_isLastSigned hT a0 x1 h7 n hv16) rfl ho16 mf_X10_isLastSigned q_1390 q_1392 qs_21 ⟨Nat.le_of_ble_eq_true rfl, Nat.le_of_ble_eq_true rfl⟩ ⟨Nat.le_of_ble_eq_true rfl, Nat.le_of_ble_eq_true rfl⟩ rfl (Nat.le_of_ble_eq_true rfl) dX10_sign_16 (fun H locs hR => ?_)
    refine W.eq (g2 := F0 m 19 ls [.int v16, .ref a0]) rfl ?_
    refine lv_iconst (v := (2 : Int32)) hx hb dX10_sign_19 (by decide) ?_
    obtain ⟨fs20, ho20, hf⟩ := zz_obS_i hf
    obtain ⟨v20, h20, hv20, hf⟩ := zz_b1_i hf
    refine zr_cV X hR hl.1 (As := [.int v16, .int (2 : Int32)]) (rest := []) (C := RX10) (T := TX10) (N := 34) (mt_X10_isThrown hT a0 v16 (2 : Int32) h7 n hv20) rfl ho20 mf_X10_isThrown q_1370 q_1372 qs_17 ⟨Nat.le_of_ble_eq_true rfl, Nat.le_of_ble_eq_true rfl⟩ ⟨Nat.le_of_ble_eq_true rfl, Nat.le_of_ble_eq_true rfl⟩ rfl (Nat.le_of_ble_eq_true rfl) dX10_sign_20 (fun H locs hR => ?_)
    refine W.eq (g2 := F0 m 23 ls [.int v20]) rfl ?_
    refine lv_if_eq (tgt := 28) hx hb dX10_sign_23 (by decide) (fun c23 => ?_) (fun c23 => ?_)
    · replace hf := zz_pos c23 hf
      refine lv_aload_n hx hb dX10_sign_28 rfl (lv_at hl 0 rfl) ?_
      refine zr_gq X hR (r := (some a0)) fl_X10_26 dX10_sign_29 hf (fun v29 hf => ?_)
      refine lv_iload_n hx hb dX10_sign_32 rfl (lv_at hl 1 rfl) ?_
      refine zr_aald X hR (t := 9) (r := v29) (by decide) rfl dX10_sign_33 hf (fun v33 hf => ?_)
      refine lv_aload_n hx hb dX10_sign_34 rfl (lv_at hl 0 rfl) ?_
      refine zr_gq X hR (r := (some a0)) fl_X10_16 dX10_sign_35 hf (fun v35 hf => ?_)
      refine lv_iload_n hx hb dX10_sign_38 rfl (lv_at hl 1 rfl) ?_
      refine zr_iald X hR (r := v35) dX10_sign_39 hf (fun v39 hf => ?_)
      refine lv_iconst (v := (1 : Int32)) hx hb dX10_sign_40 (by decide) ?_
      refine lv_isub hx hb dX10_sign_41 ?_
      refine lv_iconst (v := (1 : Int32)) hx hb dX10_sign_42 (by decide) ?_
      refine zr_zast X hR (r := v33) dX10_sign_43 hf (fun h43 H locs hf hR => ?_)
      refine lv_aload_n hx hb dX10_sign_44 rfl (lv_at hl 0 rfl) ?_
      refine zr_gq X hR (r := (some a0)) fl_X10_16 dX10_sign_45 hf (fun v45 hf => ?_)
      refine lv_iload_n hx hb dX10_sign_48 rfl (lv_at hl 1 rfl) ?_
      refine zr_iald X hR (r := v45) dX10_sign_49 hf (fun v49 hf => ?_)
      cases hf
      exact zr_iret X hR dX10_sign_50 (Nat.le_of_ble_eq_true rfl) (Nat.le_of_ble_eq_true rfl)
    · replace hf := zz_neg c23 hf
      exact bk_X10_sign_26 X hT hR (lv_sub hl [] rfl) hf
def rm_X10_open : Room := { frames := 2, cells := 0, slots := 0, locals := 43 }
theorem mf_X10_open : zz_Mf yX10_open cX10_open 7 (some .int) 2 := ⟨q_1494, q_11, by decide +kernel, by decide +kernel, by decide +kernel⟩
set_option maxHeartbeats 4000000 in
set_option maxRecDepth 100000 in
theorem bk_X10_open_153 {D : va_G} {dA : Nat → ClassId} {base t0 : Nat} {l : Launch} {p : Program} {e : Env} {s : State} {m : MethodId} {args : Array Value} {below : List Frame} {meth : Method} {c : Code} (X : zz_X D dA base t0 "SpringseatModel" cX10_open 7 (some .int) l p s m meth c) (hT : l.stackTraces = false) {a0 : Nat} {x1 : Int32} {x2 : Int32} {x3 : Int32} {h : zz_H} {n : Nat} {H : Heap} {locs : List Loc} {ls : Array Slot} (hR : zz_R D dA base h n s H locs) (hl : lv_has ls 7 [(0, .ref a0), (1, .int x1), (2, .int x2), (3, .int x3)]) {r0 : Int32} {hF : zz_H} {o : (zz_H ⊕ (Int32 × zz_H))} (hf : f_X10_open_153 a0 x1 x2 x3 h = some o) (k0 : ∀ (hw : zz_H), o = (.inl hw) → ∀ {H : Heap} {locs : List Loc} {ls : Array Slot}, zz_R D dA base hw n s H locs → lv_has ls 7 [(0, .ref a0), (1, .int x1), (2, .int x2), (3, .int x3)] → W p l e rm_X10_open s m args below meth c H locs 0 0 (MQ below (zz_Qc D dA base (some (.int r0)) hF n) args s rm_X10_open.cells rm_X10_open.slots (fun q => base ≤ q)) (F0 m 51 ls [])) (hret : ∀ r, o = (.inr r) → r = (r0, hF)) : W p l e rm_X10_open s m args below meth c H locs 0 0 (MQ below (zz_Qc D dA base (some (.int r0)) hF n) args s rm_X10_open.cells rm_X10_open.slots (fun q => base ≤ q)) (F0 m 153 ls []) := by
  have hx := X.1
  have hb := X.2.1
  have hown := X.2.2.2.2.1
  unfold f_X10_open_153 at hf
  refine lv_aload_n hx hb dX10_open_153 rfl (lv_at hl 0 rfl) ?_
  refine zr_gq X hR (r := (some a0)) fl_X10_16 dX10_open_154 hf (fun v154 hf => ?_)
  refine lv_iload_n hx hb dX10_open_157 rfl (lv_at hl 1 rfl) ?_
  refine lv_dup2_11 hx hb dX10_open_158 rfl (zz_cat _) ?_
  refine zr_iald X hR (r := v154) dX10_open_159 hf (fun v159 hf => ?_)
  refine lv_iconst (v := (1 : Int32)) hx hb dX10_open_160 (by decide) ?_
  refine lv_isub hx hb dX10_open_161 ?_
  refine zr_iast X hR (r := v154) dX10_open_162 hf (fun h162 H locs hf hR => ?_)
  refine lv_goto (tgt := 51) hx hb dX10_open_163 (by decide) ?_
  cases hf
  exact k0 _ rfl hR (lv_sub hl [0, 1, 2, 3] rfl)
set_option maxHeartbeats 4000000 in
set_option maxRecDepth 100000 in
theorem bk_X10_open_121 {D : va_G} {dA : Nat → ClassId} {base t0 : Nat} {l : Launch} {p : Program} {e : Env} {s : State} {m : MethodId} {args : Array Value} {below : List Frame} {meth : Method} {c : Code} (X : zz_X D dA base t0 "SpringseatModel" cX10_open 7 (some .int) l p s m meth c) (hT : l.stackTraces = false) {a0 : Nat} {x1 : Int32} {x2 : Int32} {x3 : Int32} {x4 : Int32} {x5 : Int32} {x6 : Int32} {h : zz_H} {n : Nat} {H : Heap} {locs : List Loc} {ls : Array Slot} (hR : zz_R D dA base h n s H locs) (hl : lv_has ls 7 [(0, .ref a0), (1, .int x1), (2, .int x2), (3, .int x3), (4, .int x4), (5, .int x5), (6, .int x6)]) {r0 : Int32} {hF : zz_H} {o : ((Int32 × zz_H) ⊕ ((Int32 × zz_H) ⊕ (zz_H ⊕ (Int32 × zz_H))))} (hf : f_X10_open_121 a0 x1 x2 x3 x4 x5 x6 h = some o) (k0 : ∀ (hw : zz_H), o = (.inr (.inr (.inl hw))) → ∀ {H : Heap} {locs : List Loc} {ls : Array Slot}, zz_R D dA base hw n s H locs → lv_has ls 7 [(0, .ref a0), (1, .int x1), (2, .int x2), (3, .int x3)] → W p l e rm_X10_open s m args below meth c H locs 0 0 (MQ below (zz_Qc D dA base (some (.int r0)) hF n) args s rm_X10_open.cells rm_X10_open.slots (fun q => base ≤ q)) (F0 m 51 ls [])) (k1 : ∀ (w5 : Int32) (hw : zz_H), o = (.inr (.inl (w5, hw))) → ∀ {H : Heap} {locs : List Loc} {ls : Array Slot}, zz_R D dA base hw n s H locs → lv_has ls 7 [(0, .ref a0), (1, .int x1), (2, .int x2), (3, .int x3), (4, .int x4), (5, .int w5)] → W p l e rm_X10_open s m args below meth c H locs 0 0 (MQ below (zz_Qc D dA base (some (.int r0)) hF n) args s rm_X10_open.cells rm_X10_open.slots (fun q => base ≤ q)) (F0 m 104 ls [])) (k2 : ∀ (w6 : Int32) (hw : zz_H), o = (.inl (w6, hw)) → ∀ {H : Heap} {locs : List Loc} {ls : Array Slot}, zz_R D dA base hw n s H locs → lv_has ls 7 [(0, .ref a0), (1, .int x1), (2, .int x2), (3, .int x3), (4, .int x4), (5, .int x5), (6, .int w6)] → W p l e rm_X10_open s m args below meth c H locs 0 0 (MQ below (zz_Qc D dA base (some (.int r0)) hF n) args s rm_X10_open.cells rm_X10_open.slots (fun q => base ≤ q)) (F0 m 121 ls [])) (hret : ∀ r, o = (.inr (.inr (.inr r))) → r = (r0, hF)) : W p l e rm_X10_open s m args below meth c H locs 0 0 (MQ below (zz_Qc D dA base (some (.int r0)) hF n) args s rm_X10_open.cells rm_X10_open.slots (fun q => base ≤ q)) (F0 m 121 ls []) := by
  have hx := X.1
  have hb := X.2.1
  have hown := X.2.2.2.2.1
  unfold f_X10_open_121 at hf
  refine lv_iload hx hb dX10_open_121 (lv_at hl 6 rfl) ?_
  refine lv_bipush (v := (6 : Int32)) hx hb dX10_open_123 (by decide) ?_
  refine lv_icmp_ge (tgt := 147) hx hb dX10_open_125 (by decide) (fun c125 => ?_) (fun c125 => ?_)
  · replace hf := zz_pos c125 hf
    refine lv_iinc (i := 5) (v := (x5 + (1 : Int32))) (lv' := [(5, .int (x5 + (1 : Int32))), (0, .ref a0), (1, .int x1), (2, .int x2), (3, .int x3), (4, .int x4), (6, .int x6)]) hx hb dX10_open_147 hl (k := 5) rfl rfl (by decide) rfl (fun ls hl => ?_)
    refine lv_goto (tgt := 104) hx hb dX10_open_150 (by decide) ?_
    cases hf
    exact k1 _ _ rfl hR (lv_sub hl [1, 2, 3, 4, 5, 0] rfl)
  · replace hf := zz_neg c125 hf
    refine lv_aload_n hx hb dX10_open_128 rfl (lv_at hl 0 rfl) ?_
    refine zr_gq X hR (r := (some a0)) fl_X10_68 dX10_open_129 hf (fun v129 hf => ?_)
    refine lv_iload_n hx hb dX10_open_132 rfl (lv_at hl 1 rfl) ?_
    refine zr_aald X hR (t := 7) (r := v129) (by decide) rfl dX10_open_133 hf (fun v133 hf => ?_)
    refine lv_iload hx hb dX10_open_134 (lv_at hl 5 rfl) ?_
    refine zr_aald X hR (t := 6) (r := v133) (by decide) rfl dX10_open_136 hf (fun v136 hf => ?_)
    refine lv_iload hx hb dX10_open_137 (lv_at hl 6 rfl) ?_
    refine lv_iconst (v := (0 : Int32)) hx hb dX10_open_139 (by decide) ?_
    refine zr_iast X hR (r := v136) dX10_open_140 hf (fun h140 H locs hf hR => ?_)
    refine lv_iinc (i := 6) (v := (x6 + (1 : Int32))) (lv' := [(6, .int (x6 + (1 : Int32))), (0, .ref a0), (1, .int x1), (2, .int x2), (3, .int x3), (4, .int x4), (5, .int x5)]) hx hb dX10_open_141 hl (k := 6) rfl rfl (by decide) rfl (fun ls hl => ?_)
    refine lv_goto (tgt := 121) hx hb dX10_open_144 (by decide) ?_
    cases hf
    exact k2 _ _ rfl hR (lv_sub hl [1, 2, 3, 4, 5, 6, 0] rfl)
set_option maxHeartbeats 4000000 in
set_option maxRecDepth 100000 in
theorem lp_X10_open_121 {D : va_G} {dA : Nat → ClassId} {base t0 : Nat} {l : Launch} {p : Program} {e : Env} {s : State} {m : MethodId} {args : Array Value} {below : List Frame} {meth : Method} {c : Code} (X : zz_X D dA base t0 "SpringseatModel" cX10_open 7 (some .int) l p s m meth c) (hT : l.stackTraces = false) (a0 : Nat) (x1 : Int32) (x2 : Int32) (x3 : Int32) (x4 : Int32) (x5 : Int32) {n : Nat} {r0 : Int32} {hF : zz_H} : ∀ (k : Nat) (x6 : Int32) (h : zz_H) {o : ((Int32 × zz_H) ⊕ (zz_H ⊕ (Int32 × zz_H)))}, zz_it (fun s : (Int32 × zz_H) => f_X10_open_121 a0 x1 x2 x3 x4 x5 s.1 s.2) k (x6, h) = some o → (∀ (hw : zz_H), o = (.inr (.inl hw)) → ∀ {H : Heap} {locs : List Loc} {ls : Array Slot}, zz_R D dA base hw n s H locs → lv_has ls 7 [(0, .ref a0), (1, .int x1), (2, .int x2), (3, .int x3)] → W p l e rm_X10_open s m args below meth c H locs 0 0 (MQ below (zz_Qc D dA base (some (.int r0)) hF n) args s rm_X10_open.cells rm_X10_open.slots (fun q => base ≤ q)) (F0 m 51 ls [])) → (∀ (w5 : Int32) (hw : zz_H), o = (.inl (w5, hw)) → ∀ {H : Heap} {locs : List Loc} {ls : Array Slot}, zz_R D dA base hw n s H locs → lv_has ls 7 [(0, .ref a0), (1, .int x1), (2, .int x2), (3, .int x3), (4, .int x4), (5, .int w5)] → W p l e rm_X10_open s m args below meth c H locs 0 0 (MQ below (zz_Qc D dA base (some (.int r0)) hF n) args s rm_X10_open.cells rm_X10_open.slots (fun q => base ≤ q)) (F0 m 104 ls [])) → (∀ r, o = (.inr (.inr r)) → r = (r0, hF)) → ∀ {H : Heap} {locs : List Loc} {ls : Array Slot}, zz_R D dA base h n s H locs → lv_has ls 7 [(0, .ref a0), (1, .int x1), (2, .int x2), (3, .int x3), (4, .int x4), (5, .int x5), (6, .int x6)] → W p l e rm_X10_open s m args below meth c H locs 0 0 (MQ below (zz_Qc D dA base (some (.int r0)) hF n) args s rm_X10_open.cells rm_X10_open.slots (fun q => base ≤ q)) (F0 m 121 ls []) := by
  intro k
  induction k with
  | zero => intro x6 h o hf _ _ _; cases hf
  | succ k ih =>
    intro x6 h o hf k0 k1 hret H locs ls hR hl
    rcases zz_it_s hf with ⟨⟨y0, y1⟩, h1, h2⟩ | h1
    · exact bk_X10_open_121 (r0 := r0) X hT hR hl h1 (fun z0 e => by cases e) (fun z0 z1 e => by cases e) (fun z0 z1 e => by cases e; exact ih _ _ h2 k0 k1 hret) (fun r e => by cases e)
    · exact bk_X10_open_121 (r0 := r0) X hT hR hl h1 (fun z0 e => k0 z0 (Sum.inr.inj e)) (fun z0 z1 e => k1 z0 z1 (Sum.inr.inj e)) (fun z0 z1 e => by cases e) (fun r e => hret r (Sum.inr.inj e))
set_option maxHeartbeats 4000000 in
set_option maxRecDepth 100000 in
theorem bk_X10_open_104 {D : va_G} {dA : Nat → ClassId} {base t0 : Nat} {l : Launch} {p : Program} {e : Env} {s : State} {m : MethodId} {args : Array Value} {below : List Frame} {meth : Method} {c : Code} (X : zz_X D dA base t0 "SpringseatModel" cX10_open 7 (some .int) l p s m meth c) (hT : l.stackTraces = false) {a0 : Nat} {x1 : Int32} {x2 : Int32} {x3 : Int32} {x4 : Int32} {x5 : Int32} {h : zz_H} {n : Nat} {H : Heap} {locs : List Loc} {ls : Array Slot} (hR : zz_R D dA base h n s H locs) (hl : lv_has ls 7 [(0, .ref a0), (1, .int x1), (2, .int x2), (3, .int x3), (4, .int x4), (5, .int x5)]) {r0 : Int32} {hF : zz_H} {o : ((Int32 × zz_H) ⊕ (zz_H ⊕ (Int32 × zz_H)))} (hf : f_X10_open_104 a0 x1 x2 x3 x4 x5 h = some o) (k0 : ∀ (hw : zz_H), o = (.inr (.inl hw)) → ∀ {H : Heap} {locs : List Loc} {ls : Array Slot}, zz_R D dA base hw n s H locs → lv_has ls 7 [(0, .ref a0), (1, .int x1), (2, .int x2), (3, .int x3)] → W p l e rm_X10_open s m args below meth c H locs 0 0 (MQ below (zz_Qc D dA base (some (.int r0)) hF n) args s rm_X10_open.cells rm_X10_open.slots (fun q => base ≤ q)) (F0 m 51 ls [])) (k1 : ∀ (w5 : Int32) (hw : zz_H), o = (.inl (w5, hw)) → ∀ {H : Heap} {locs : List Loc} {ls : Array Slot}, zz_R D dA base hw n s H locs → lv_has ls 7 [(0, .ref a0), (1, .int x1), (2, .int x2), (3, .int x3), (4, .int x4), (5, .int w5)] → W p l e rm_X10_open s m args below meth c H locs 0 0 (MQ below (zz_Qc D dA base (some (.int r0)) hF n) args s rm_X10_open.cells rm_X10_open.slots (fun q => base ≤ q)) (F0 m 104 ls [])) (hret : ∀ r, o = (.inr (.inr r)) → r = (r0, hF)) : W p l e rm_X10_open s m args below meth c H locs 0 0 (MQ below (zz_Qc D dA base (some (.int r0)) hF n) args s rm_X10_open.cells rm_X10_open.slots (fun q => base ≤ q)) (F0 m 104 ls []) := by
  have hx := X.1
  have hb := X.2.1
  have hown := X.2.2.2.2.1
  unfold f_X10_open_104 at hf
  refine lv_iload hx hb dX10_open_104 (lv_at hl 5 rfl) ?_
  refine lv_bipush (v := (6 : Int32)) hx hb dX10_open_106 (by decide) ?_
  refine lv_icmp_ge (tgt := 153) hx hb dX10_open_108 (by decide) (fun c108 => ?_) (fun c108 => ?_)
  · replace hf := zz_pos c108 hf
    obtain ⟨o1, hf1, he⟩ := Option.map_eq_some_iff.mp hf
    cases he
    exact bk_X10_open_153 X hT hR (lv_sub hl [0, 1, 2, 3] rfl) hf1 (fun w0 e => k0 w0 (congrArg Sum.inr e)) (fun r e => hret r (congrArg Sum.inr e))
  · replace hf := zz_neg c108 hf
    refine lv_iload hx hb dX10_open_111 (lv_at hl 4 rfl) ?_
    refine lv_bipush (v := (98 : Int32)) hx hb dX10_open_113 (by decide) ?_
    refine lv_icmp_ne (tgt := 153) hx hb dX10_open_115 (by decide) (fun c115 => ?_) (fun c115 => ?_)
    · replace hf := zz_neg c115 hf
      obtain ⟨o1, hf1, he⟩ := Option.map_eq_some_iff.mp hf
      cases he
      exact bk_X10_open_153 X hT hR (lv_sub hl [0, 1, 2, 3] rfl) hf1 (fun w0 e => k0 w0 (congrArg Sum.inr e)) (fun r e => hret r (congrArg Sum.inr e))
    · replace hf := zz_pos c115 hf
      refine lv_iconst (v := (0 : Int32)) hx hb dX10_open_118 (by decide) ?_
      refine lv_istore (i := 6) (lv' := [(6, .int (0 : Int32)), (0, .ref a0), (1, .int x1), (2, .int x2), (3, .int x3), (4, .int x4), (5, .int x5)]) hx hb dX10_open_119 hl (by decide) rfl (fun ls hl => ?_)
      exact lp_X10_open_121 X hT a0 x1 x2 x3 x4 x5 zz_F _ _ hf k0 k1 hret hR (lv_sub hl [1, 2, 3, 4, 5, 6, 0] rfl)
set_option maxHeartbeats 4000000 in
set_option maxRecDepth 100000 in
theorem lp_X10_open_104 {D : va_G} {dA : Nat → ClassId} {base t0 : Nat} {l : Launch} {p : Program} {e : Env} {s : State} {m : MethodId} {args : Array Value} {below : List Frame} {meth : Method} {c : Code} (X : zz_X D dA base t0 "SpringseatModel" cX10_open 7 (some .int) l p s m meth c) (hT : l.stackTraces = false) (a0 : Nat) (x1 : Int32) (x2 : Int32) (x3 : Int32) (x4 : Int32) {n : Nat} {r0 : Int32} {hF : zz_H} : ∀ (k : Nat) (x5 : Int32) (h : zz_H) {o : (zz_H ⊕ (Int32 × zz_H))}, zz_it (fun s : (Int32 × zz_H) => f_X10_open_104 a0 x1 x2 x3 x4 s.1 s.2) k (x5, h) = some o → (∀ (hw : zz_H), o = (.inl hw) → ∀ {H : Heap} {locs : List Loc} {ls : Array Slot}, zz_R D dA base hw n s H locs → lv_has ls 7 [(0, .ref a0), (1, .int x1), (2, .int x2), (3, .int x3)] → W p l e rm_X10_open s m args below meth c H locs 0 0 (MQ below (zz_Qc D dA base (some (.int r0)) hF n) args s rm_X10_open.cells rm_X10_open.slots (fun q => base ≤ q)) (F0 m 51 ls [])) → (∀ r, o = (.inr r) → r = (r0, hF)) → ∀ {H : Heap} {locs : List Loc} {ls : Array Slot}, zz_R D dA base h n s H locs → lv_has ls 7 [(0, .ref a0), (1, .int x1), (2, .int x2), (3, .int x3), (4, .int x4), (5, .int x5)] → W p l e rm_X10_open s m args below meth c H locs 0 0 (MQ below (zz_Qc D dA base (some (.int r0)) hF n) args s rm_X10_open.cells rm_X10_open.slots (fun q => base ≤ q)) (F0 m 104 ls []) := by
  intro k
  induction k with
  | zero => intro x5 h o hf _ _; cases hf
  | succ k ih =>
    intro x5 h o hf k0 hret H locs ls hR hl
    rcases zz_it_s hf with ⟨⟨y0, y1⟩, h1, h2⟩ | h1
    · exact bk_X10_open_104 (r0 := r0) X hT hR hl h1 (fun z0 e => by cases e) (fun z0 z1 e => by cases e; exact ih _ _ h2 k0 hret) (fun r e => by cases e)
    · exact bk_X10_open_104 (r0 := r0) X hT hR hl h1 (fun z0 e => k0 z0 (Sum.inr.inj e)) (fun z0 z1 e => by cases e) (fun r e => hret r (Sum.inr.inj e))
set_option maxHeartbeats 4000000 in
set_option maxRecDepth 100000 in
theorem bk_X10_open_101 {D : va_G} {dA : Nat → ClassId} {base t0 : Nat} {l : Launch} {p : Program} {e : Env} {s : State} {m : MethodId} {args : Array Value} {below : List Frame} {meth : Method} {c : Code} (X : zz_X D dA base t0 "SpringseatModel" cX10_open 7 (some .int) l p s m meth c) (hT : l.stackTraces = false) {a0 : Nat} {x1 : Int32} {x2 : Int32} {x3 : Int32} {x4 : Int32} {h : zz_H} {n : Nat} {H : Heap} {locs : List Loc} {ls : Array Slot} (hR : zz_R D dA base h n s H locs) (hl : lv_has ls 7 [(0, .ref a0), (1, .int x1), (2, .int x2), (3, .int x3), (4, .int x4)]) {r0 : Int32} {hF : zz_H} {o : (zz_H ⊕ (Int32 × zz_H))} (hf : f_X10_open_101 a0 x1 x2 x3 x4 h = some o) (k0 : ∀ (hw : zz_H), o = (.inl hw) → ∀ {H : Heap} {locs : List Loc} {ls : Array Slot}, zz_R D dA base hw n s H locs → lv_has ls 7 [(0, .ref a0), (1, .int x1), (2, .int x2), (3, .int x3)] → W p l e rm_X10_open s m args below meth c H locs 0 0 (MQ below (zz_Qc D dA base (some (.int r0)) hF n) args s rm_X10_open.cells rm_X10_open.slots (fun q => base ≤ q)) (F0 m 51 ls [])) (hret : ∀ r, o = (.inr r) → r = (r0, hF)) : W p l e rm_X10_open s m args below meth c H locs 0 0 (MQ below (zz_Qc D dA base (some (.int r0)) hF n) args s rm_X10_open.cells rm_X10_open.slots (fun q => base ≤ q)) (F0 m 101 ls []) := by
  have hx := X.1
  have hb := X.2.1
  have hown := X.2.2.2.2.1
  unfold f_X10_open_101 at hf
  refine lv_iconst (v := (0 : Int32)) hx hb dX10_open_101 (by decide) ?_
  refine lv_istore (i := 5) (lv' := [(5, .int (0 : Int32)), (0, .ref a0), (1, .int x1), (2, .int x2), (3, .int x3), (4, .int x4)]) hx hb dX10_open_102 hl (by decide) rfl (fun ls hl => ?_)
  exact lp_X10_open_104 X hT a0 x1 x2 x3 x4 zz_F _ _ hf k0 hret hR (lv_sub hl [1, 2, 3, 4, 5, 0] rfl)
set_option maxHeartbeats 4000000 in
set_option maxRecDepth 100000 in
theorem bk_X10_open_87 {D : va_G} {dA : Nat → ClassId} {base t0 : Nat} {l : Launch} {p : Program} {e : Env} {s : State} {m : MethodId} {args : Array Value} {below : List Frame} {meth : Method} {c : Code} (X : zz_X D dA base t0 "SpringseatModel" cX10_open 7 (some .int) l p s m meth c) (hT : l.stackTraces = false) {a0 : Nat} {x1 : Int32} {x2 : Int32} {x3 : Int32} {x4 : Int32} {s0 : Int32} {s1 : Int32} {s2 : Int32} {s3 : (Option Nat)} {h : zz_H} {n : Nat} {H : Heap} {locs : List Loc} {ls : Array Slot} (hR : zz_R D dA base h n s H locs) (hl : lv_has ls 7 [(0, .ref a0), (1, .int x1), (2, .int x2), (3, .int x3), (4, .int x4)]) {r0 : Int32} {hF : zz_H} {o : (zz_H ⊕ (Int32 × zz_H))} (hf : f_X10_open_87 a0 x1 x2 x3 x4 s0 s1 s2 s3 h = some o) (k0 : ∀ (hw : zz_H), o = (.inl hw) → ∀ {H : Heap} {locs : List Loc} {ls : Array Slot}, zz_R D dA base hw n s H locs → lv_has ls 7 [(0, .ref a0), (1, .int x1), (2, .int x2), (3, .int x3)] → W p l e rm_X10_open s m args below meth c H locs 0 0 (MQ below (zz_Qc D dA base (some (.int r0)) hF n) args s rm_X10_open.cells rm_X10_open.slots (fun q => base ≤ q)) (F0 m 51 ls [])) (hret : ∀ r, o = (.inr r) → r = (r0, hF)) : W p l e rm_X10_open s m args below meth c H locs 0 0 (MQ below (zz_Qc D dA base (some (.int r0)) hF n) args s rm_X10_open.cells rm_X10_open.slots (fun q => base ≤ q)) (F0 m 87 ls [.int s0, .int s1, .int s2, va_rf s3]) := by
  have hx := X.1
  have hb := X.2.1
  have hown := X.2.2.2.2.1
  unfold f_X10_open_87 at hf
  refine lv_isub hx hb dX10_open_87 ?_
  refine zr_iast X hR (r := s3) dX10_open_88 hf (fun h88 H locs hf hR => ?_)
  refine lv_iload hx hb dX10_open_89 (lv_at hl 4 rfl) ?_
  refine lv_bipush (v := (116 : Int32)) hx hb dX10_open_91 (by decide) ?_
  refine lv_icmp_ne (tgt := 101) hx hb dX10_open_93 (by decide) (fun c93 => ?_) (fun c93 => ?_)
  · replace hf := zz_neg c93 hf
    exact bk_X10_open_101 X hT hR (lv_sub hl [0, 1, 2, 3, 4] rfl) hf k0 hret
  · replace hf := zz_pos c93 hf
    refine lv_aload_n hx hb dX10_open_96 rfl (lv_at hl 0 rfl) ?_
    refine lv_iload_n hx hb dX10_open_97 rfl (lv_at hl 1 rfl) ?_
    obtain ⟨fs98, ho98, hf⟩ := zz_obS_i hf
    obtain ⟨u98, h98, hv98, hf⟩ := zz_b1_i hf
    refine zr_cV X hR hl.1 (As := [.int x1]) (rest := []) (C := RX10) (T := TX10) (N := 34) (mt_X10_loosen hT a0 x1 h88 n hv98) rfl ho98 mf_X10_loosen q_1405 q_1407 qs_23 ⟨Nat.le_of_ble_eq_true rfl, Nat.le_of_ble_eq_true rfl⟩ ⟨Nat.le_of_ble_eq_true rfl, Nat.le_of_ble_eq_true rfl⟩ rfl (Nat.le_of_ble_eq_true rfl) dX10_open_98 (fun H locs hR => ?_)
    refine W.eq (g2 := F0 m 101 ls []) rfl ?_
    exact bk_X10_open_101 X hT hR (lv_sub hl [0, 1, 2, 3, 4] rfl) hf k0 hret
set_option maxHeartbeats 4000000 in
set_option maxRecDepth 100000 in
theorem bk_X10_open_51 {D : va_G} {dA : Nat → ClassId} {base t0 : Nat} {l : Launch} {p : Program} {e : Env} {s : State} {m : MethodId} {args : Array Value} {below : List Frame} {meth : Method} {c : Code} (X : zz_X D dA base t0 "SpringseatModel" cX10_open 7 (some .int) l p s m meth c) (hT : l.stackTraces = false) {a0 : Nat} {x1 : Int32} {x2 : Int32} {x3 : Int32} {h : zz_H} {n : Nat} {H : Heap} {locs : List Loc} {ls : Array Slot} (hR : zz_R D dA base h n s H locs) (hl : lv_has ls 7 [(0, .ref a0), (1, .int x1), (2, .int x2), (3, .int x3)]) {r0 : Int32} {hF : zz_H} {o : (zz_H ⊕ (Int32 × zz_H))} (hf : f_X10_open_51 a0 x1 x2 x3 h = some o) (k0 : ∀ (hw : zz_H), o = (.inl hw) → ∀ {H : Heap} {locs : List Loc} {ls : Array Slot}, zz_R D dA base hw n s H locs → lv_has ls 7 [(0, .ref a0), (1, .int x1), (2, .int x2), (3, .int x3)] → W p l e rm_X10_open s m args below meth c H locs 0 0 (MQ below (zz_Qc D dA base (some (.int r0)) hF n) args s rm_X10_open.cells rm_X10_open.slots (fun q => base ≤ q)) (F0 m 51 ls [])) (hret : ∀ r, o = (.inr r) → r = (r0, hF)) : W p l e rm_X10_open s m args below meth c H locs 0 0 (MQ below (zz_Qc D dA base (some (.int r0)) hF n) args s rm_X10_open.cells rm_X10_open.slots (fun q => base ≤ q)) (F0 m 51 ls []) := by
  have hx := X.1
  have hb := X.2.1
  have hown := X.2.2.2.2.1
  unfold f_X10_open_51 at hf
  refine lv_aload_n hx hb dX10_open_51 rfl (lv_at hl 0 rfl) ?_
  refine zr_gq X hR (r := (some a0)) fl_X10_16 dX10_open_52 hf (fun v52 hf => ?_)
  refine lv_iload_n hx hb dX10_open_55 rfl (lv_at hl 1 rfl) ?_
  refine zr_iald X hR (r := v52) dX10_open_56 hf (fun v56 hf => ?_)
  refine lv_iload_n hx hb dX10_open_57 rfl (lv_at hl 2 rfl) ?_
  refine lv_icmp_le (tgt := 166) hx hb dX10_open_58 (by decide) (fun c58 => ?_) (fun c58 => ?_)
  · replace hf := zz_pos c58 hf
    refine lv_iload_n hx hb dX10_open_166 rfl (lv_at hl 3 rfl) ?_
    cases hf
    cases hret _ rfl
    exact zr_iret X hR dX10_open_167 (Nat.le_of_ble_eq_true rfl) (Nat.le_of_ble_eq_true rfl)
  · replace hf := zz_neg c58 hf
    refine lv_aload_n hx hb dX10_open_61 rfl (lv_at hl 0 rfl) ?_
    refine lv_iload_n hx hb dX10_open_62 rfl (lv_at hl 1 rfl) ?_
    obtain ⟨fs63, ho63, hf⟩ := zz_obS_i hf
    obtain ⟨v63, hv63, hf⟩ := zz_b_i hf
    refine zr_cV X hR hl.1 (As := [.int x1]) (rest := []) (C := RX10) (T := TX10) (N := 34) (mt_X10_last hT a0 x1 h n hv63) rfl ho63 mf_X10_last q_1386 q_1388 qs_20 ⟨Nat.le_of_ble_eq_true rfl, Nat.le_of_ble_eq_true rfl⟩ ⟨Nat.le_of_ble_eq_true rfl, Nat.le_of_ble_eq_true rfl⟩ rfl (Nat.le_of_ble_eq_true rfl) dX10_open_63 (fun H locs hR => ?_)
    refine W.eq (g2 := F0 m 66 ls [.int v63]) rfl ?_
    refine lv_istore (i := 4) (lv' := [(4, .int v63), (0, .ref a0), (1, .int x1), (2, .int x2), (3, .int x3)]) hx hb dX10_open_66 hl (by decide) rfl (fun ls hl => ?_)
    refine lv_aload_n hx hb dX10_open_68 rfl (lv_at hl 1 rfl) ?_
    refine zr_gq X hR (r := (some a0)) fl_X10_48 dX10_open_69 hf (fun v69 hf => ?_)
    refine lv_iload_n hx hb dX10_open_72 rfl (lv_at hl 2 rfl) ?_
    refine lv_dup2_11 hx hb dX10_open_73 rfl (zz_cat _) ?_
    refine zr_iald X hR (r := v69) dX10_open_74 hf (fun v74 hf => ?_)
    refine lv_iload hx hb dX10_open_75 (lv_at hl 0 rfl) ?_
    refine lv_bipush (v := (108 : Int32)) hx hb dX10_open_77 (by decide) ?_
    refine lv_icmp_ne (tgt := 86) hx hb dX10_open_79 (by decide) (fun c79 => ?_) (fun c79 => ?_)
    · replace hf := zz_neg c79 hf
      refine lv_iconst (v := (0 : Int32)) hx hb dX10_open_86 (by decide) ?_
      exact bk_X10_open_87 X hT hR (lv_sub hl [1, 2, 3, 4, 0] rfl) hf k0 hret
    · replace hf := zz_pos c79 hf
      refine lv_iconst (v := (1 : Int32)) hx hb dX10_open_82 (by decide) ?_
      refine lv_goto (tgt := 87) hx hb dX10_open_83 (by decide) ?_
      exact bk_X10_open_87 X hT hR (lv_sub hl [1, 2, 3, 4, 0] rfl) hf k0 hret
set_option maxHeartbeats 4000000 in
set_option maxRecDepth 100000 in
theorem lp_X10_open_51 {D : va_G} {dA : Nat → ClassId} {base t0 : Nat} {l : Launch} {p : Program} {e : Env} {s : State} {m : MethodId} {args : Array Value} {below : List Frame} {meth : Method} {c : Code} (X : zz_X D dA base t0 "SpringseatModel" cX10_open 7 (some .int) l p s m meth c) (hT : l.stackTraces = false) (a0 : Nat) (x1 : Int32) (x2 : Int32) (x3 : Int32) {n : Nat} {r0 : Int32} {hF : zz_H} : ∀ (k : Nat) (h : zz_H), zz_it (fun s : zz_H => f_X10_open_51 a0 x1 x2 x3 s) k h = some (r0, hF) → ∀ {H : Heap} {locs : List Loc} {ls : Array Slot}, zz_R D dA base h n s H locs → lv_has ls 7 [(0, .ref a0), (1, .int x1), (2, .int x2), (3, .int x3)] → W p l e rm_X10_open s m args below meth c H locs 0 0 (MQ below (zz_Qc D dA base (some (.int r0)) hF n) args s rm_X10_open.cells rm_X10_open.slots (fun q => base ≤ q)) (F0 m 51 ls []) := by
  intro k
  induction k with
  | zero => intro h hf; cases hf
  | succ k ih =>
    intro h hf H locs ls hR hl
    rcases zz_it_s hf with ⟨y0, h1, h2⟩ | h1
    · exact bk_X10_open_51 (r0 := r0) X hT hR hl h1  (fun z0 e => by cases e; exact ih _ h2) (fun r e => by cases e)
    · exact bk_X10_open_51 (r0 := r0) X hT hR hl h1  (fun z0 e => by cases e) (fun r e => (Sum.inr.inj e).symm)
set_option maxHeartbeats 4000000 in
set_option maxRecDepth 100000 in
theorem bk_X10_open_40 {D : va_G} {dA : Nat → ClassId} {base t0 : Nat} {l : Launch} {p : Program} {e : Env} {s : State} {m : MethodId} {args : Array Value} {below : List Frame} {meth : Method} {c : Code} (X : zz_X D dA base t0 "SpringseatModel" cX10_open 7 (some .int) l p s m meth c) (hT : l.stackTraces = false) {h : zz_H} {n : Nat} {H : Heap} {locs : List Loc} {ls : Array Slot} (hR : zz_R D dA base h n s H locs) (hl : lv_has ls 7 []) {r0 : Int32} {hF : zz_H} (hf : f_X10_open_40 h = some (r0, hF)) : W p l e rm_X10_open s m args below meth c H locs 0 0 (MQ below (zz_Qc D dA base (some (.int r0)) hF n) args s rm_X10_open.cells rm_X10_open.slots (fun q => base ≤ q)) (F0 m 40 ls []) := by
  have hx := X.1
  have hb := X.2.1
  have hown := X.2.2.2.2.1
  unfold f_X10_open_40 at hf
  refine lv_iconst (v := (0 : Int32)) hx hb dX10_open_40 (by decide) ?_
  cases hf
  exact zr_iret X hR dX10_open_41 (Nat.le_of_ble_eq_true rfl) (Nat.le_of_ble_eq_true rfl)
set_option maxHeartbeats 4000000 in
set_option maxRecDepth 100000 in
theorem bk_X10_open_33 {D : va_G} {dA : Nat → ClassId} {base t0 : Nat} {l : Launch} {p : Program} {e : Env} {s : State} {m : MethodId} {args : Array Value} {below : List Frame} {meth : Method} {c : Code} (X : zz_X D dA base t0 "SpringseatModel" cX10_open 7 (some .int) l p s m meth c) (hT : l.stackTraces = false) {a0 : Nat} {x1 : Int32} {x2 : Int32} {s0 : Int32} {s1 : (Option Nat)} {h : zz_H} {n : Nat} {H : Heap} {locs : List Loc} {ls : Array Slot} (hR : zz_R D dA base h n s H locs) (hl : lv_has ls 7 [(0, .ref a0), (1, .int x1), (2, .int x2)]) {r0 : Int32} {hF : zz_H} (hf : f_X10_open_33 a0 x1 x2 s0 s1 h = some (r0, hF)) : W p l e rm_X10_open s m args below meth c H locs 0 0 (MQ below (zz_Qc D dA base (some (.int r0)) hF n) args s rm_X10_open.cells rm_X10_open.slots (fun q => base ≤ q)) (F0 m 33 ls [.int s0, va_rf s1]) := by
  have hx := X.1
  have hb := X.2.1
  have hown := X.2.2.2.2.1
  unfold f_X10_open_33 at hf
  refine lv_iconst (v := (2 : Int32)) hx hb dX10_open_33 (by decide) ?_
  obtain ⟨b34, fs34, hr34, ho34, hf⟩ := zz_ob_i hf
  obtain ⟨v34, h34, hv34, hf⟩ := zz_b1_i hf
  refine zr_cV X hR hl.1 (As := [.int s0, .int (2 : Int32)]) (rest := []) (C := RX10) (T := TX10) (N := 34) (mt_X10_isThrown hT b34 s0 (2 : Int32) h n hv34) rfl ho34 mf_X10_isThrown q_1370 q_1372 qs_17 ⟨Nat.le_of_ble_eq_true rfl, Nat.le_of_ble_eq_true rfl⟩ ⟨Nat.le_of_ble_eq_true rfl, Nat.le_of_ble_eq_true rfl⟩ (by rw [hr34]; rfl) (Nat.le_of_ble_eq_true rfl) dX10_open_34 (fun H locs hR => ?_)
  refine W.eq (g2 := F0 m 37 ls [.int v34]) rfl ?_
  refine lv_if_eq (tgt := 42) hx hb dX10_open_37 (by decide) (fun c37 => ?_) (fun c37 => ?_)
  · replace hf := zz_pos c37 hf
    refine lv_aload_n hx hb dX10_open_42 rfl (lv_at hl 0 rfl) ?_
    refine zr_gq X hR (r := (some a0)) fl_X10_16 dX10_open_43 hf (fun v43 hf => ?_)
    refine lv_iload_n hx hb dX10_open_46 rfl (lv_at hl 1 rfl) ?_
    refine zr_iald X hR (r := v43) dX10_open_47 hf (fun v47 hf => ?_)
    refine lv_iload_n hx hb dX10_open_48 rfl (lv_at hl 2 rfl) ?_
    refine lv_isub hx hb dX10_open_49 ?_
    refine lv_istore_n (i := 3) (lv' := [(3, .int (v47 - x2)), (0, .ref a0), (1, .int x1), (2, .int x2)]) hx hb dX10_open_50 rfl hl (by decide) rfl (fun ls hl => ?_)
    exact lp_X10_open_51 X hT a0 x1 x2 (v47 - x2) zz_F _ hf hR (lv_sub hl [1, 2, 3, 0] rfl)
  · replace hf := zz_neg c37 hf
    exact bk_X10_open_40 X hT hR (lv_sub hl [] rfl) hf
set_option maxHeartbeats 4000000 in
set_option maxRecDepth 100000 in
theorem mt_X10_open {D : va_G} {dA : Nat → ClassId} {base t0 : Nat} {l : Launch} (hT : l.stackTraces = false) (a0 : Nat) (x1 : Int32) (x2 : Int32) (h : zz_H) (n : Nat) {r0 : Int32} {hF : zz_H} (hf : f_X10_open a0 x1 x2 h = some (r0, hF)) : zz_M D dA base t0 l yX10_open cX10_open 7 (some .int) rm_X10_open [.ref a0, .int x1, .int x2] h n (some (.int r0)) hF n := by
  refine Met.ofW (cc := cX10_open) (maxL := 7) (ret := (some .int)) (by decide +kernel) rfl ?_
  intro p e s m args below meth c s₁ B hml hv
  obtain ⟨rfl, hP, hK⟩ := hv
  have X : zz_X D dA base t0 "SpringseatModel" cX10_open 7 (some .int) l p s m meth c := ⟨B.exec, B.bytes, hml, B.returns, findClass_of_methodNamed B.named, B.notSynchronized, hT, by rw [hP.1]; exact hP.2.1, hK⟩
  have hx := X.1
  have hb := X.2.1
  have hown := X.2.2.2.2.1
  have hR : zz_R D dA base h n s s.heap [] := ⟨hP, va_S.rf⟩
  have hl := lv_entry ([.ref a0, .int x1, .int x2]) (n := 7) (by exact Nat.le_of_ble_eq_true rfl)
  rw [lg_entry_eq]
  generalize (lg_sl ([.ref a0, .int x1, .int x2]) ++ List.replicate (7 - (lg_sl ([.ref a0, .int x1, .int x2])).length) Slot.unset).toArray = ls at hl ⊢
  have hl : lv_has ls 7 [(0, .ref a0), (1, .int x1), (2, .int x2)] := hl
  unfold f_X10_open at hf
  refine lv_aload_n hx hb dX10_open_0 rfl (lv_at hl 0 rfl) ?_
  refine lv_aload_n hx hb dX10_open_1 rfl (lv_at hl 0 rfl) ?_
  refine lv_iload_n hx hb dX10_open_2 rfl (lv_at hl 1 rfl) ?_
  obtain ⟨fs3, ho3, hf⟩ := zz_obS_i hf
  obtain ⟨v3, hv3, hf⟩ := zz_b_i hf
  refine zr_cV X hR hl.1 (As := [.int x1]) (rest := [.ref a0]) (C := RX10) (T := TX10) (N := 34) (mt_X10_isNoSeat hT a0 x1 h n hv3) rfl ho3 mf_X10_isNoSeat q_1378 q_1380 qs_18 ⟨Nat.le_of_ble_eq_true rfl, Nat.le_of_ble_eq_true rfl⟩ ⟨Nat.le_of_ble_eq_true rfl, Nat.le_of_ble_eq_true rfl⟩ rfl (Nat.le_of_ble_eq_true rfl) dX10_open_3 (fun H locs hR => ?_)
  refine W.eq (g2 := F0 m 6 ls [.int v3, .ref a0]) rfl ?_
  refine lv_iconst (v := (1 : Int32)) hx hb dX10_open_6 (by decide) ?_
  obtain ⟨fs7, ho7, hf⟩ := zz_obS_i hf
  obtain ⟨v7, h7, hv7, hf⟩ := zz_b1_i hf
  refine zr_cV X hR hl.1 (As := [.int v3, .int (1 : Int32)]) (rest := []) (C := RX10) (T := TX10) (N := 34) (mt_X10_isThrown hT a0 v3 (1 : Int32) h n hv7) rfl ho7 mf_X10_isThrown q_1370 q_1372 qs_17 ⟨Nat.le_of_ble_eq_true rfl, Nat.le_of_ble_eq_true rfl⟩ ⟨Nat.le_of_ble_eq_true rfl, Nat.le_of_ble_eq_true rfl⟩ rfl (Nat.le_of_ble_eq_true rfl) dX10_open_7 (fun H locs hR => ?_)
  refine W.eq (g2 := F0 m 10 ls [.int v7]) rfl ?_
  refine lv_if_ne (tgt := 40) hx hb dX10_open_10 (by decide) (fun c10 => ?_) (fun c10 => ?_)
  · replace hf := zz_neg c10 hf
    exact bk_X10_open_40 X hT hR (lv_sub hl [] rfl) hf
  · replace hf := zz_pos c10 hf
    refine lv_aload_n hx hb dX10_open_13 rfl (lv_at hl 0 rfl) ?_
    refine lv_iload_n hx hb dX10_open_14 rfl (lv_at hl 2 rfl) ?_
    refine lv_iconst (v := (0 : Int32)) hx hb dX10_open_15 (by decide) ?_
    refine lv_aload_n hx hb dX10_open_16 rfl (lv_at hl 0 rfl) ?_
    refine zr_gq X hR (r := (some a0)) fl_X10_16 dX10_open_17 hf (fun v17 hf => ?_)
    refine lv_iload_n hx hb dX10_open_20 rfl (lv_at hl 1 rfl) ?_
    refine zr_iald X hR (r := v17) dX10_open_21 hf (fun v21 hf => ?_)
    obtain ⟨v22, hv22, hf⟩ := zz_b_i hf
    refine zr_cS X hR hl.1 (As := [.int x2, .int (0 : Int32), .int v21]) (rest := [.ref a0]) (mt_X10_isIn hT x2 (0 : Int32) v21 h7 n hv22) mf_X10_isIn q_1367 q_1368 ⟨Nat.le_of_ble_eq_true rfl, Nat.le_of_ble_eq_true rfl⟩ ⟨Nat.le_of_ble_eq_true rfl, Nat.le_of_ble_eq_true rfl⟩ rfl (Nat.le_of_ble_eq_true rfl) dX10_open_22 (fun H locs hR => ?_)
    refine W.eq (g2 := F0 m 25 ls [.int v22, .ref a0]) rfl ?_
    refine lv_if_ne (tgt := 32) hx hb dX10_open_25 (by decide) (fun c25 => ?_) (fun c25 => ?_)
    · replace hf := zz_neg c25 hf
      refine lv_iconst (v := (0 : Int32)) hx hb dX10_open_32 (by decide) ?_
      exact bk_X10_open_33 X hT hR (lv_sub hl [0, 1, 2] rfl) hf
    · replace hf := zz_pos c25 hf
      refine lv_iconst (v := (1 : Int32)) hx hb dX10_open_28 (by decide) ?_
      refine lv_goto (tgt := 33) hx hb dX10_open_29 (by decide) ?_
      exact bk_X10_open_33 X hT hR (lv_sub hl [0, 1, 2] rfl) hf
end ZZM
