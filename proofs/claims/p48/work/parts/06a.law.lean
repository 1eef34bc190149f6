section ZZQ
def f_L_seat (t0 : Nat) (x0 : Nat) (x1 : Int32) (x2 : Int32) (h : zz_H) (n : Nat) : Option (Int32 × zz_H × Nat) := zz_ob h (some x0) 10 fun _ => zz_th2 (f_X9_seat t0 x0 x1 x2 h n) (fun v3 h3 n3 => some (v3, h3, n3)) (fun k3 h3 n3 => if k3 = 0 then some ((-900001 : Int32), h3, n3) else (if k3 = 1 then some ((-900002 : Int32), h3, n3) else none))
def f_L_web (t0 : Nat) (x0 : Nat) (x1 : Int32) (x2 : Int32) (h : zz_H) (n : Nat) : Option (Int32 × zz_H × Nat) := zz_ob h (some x0) 10 fun _ => zz_th1 (f_X9_web x0 x1 x2 h) (fun v3 h3 => some (v3, h3, n)) (fun k3 h3 => if k3 = 2 then some ((-900001 : Int32), h3, n) else (if k3 = 0 then some ((-900002 : Int32), h3, n) else (if k3 = 3 then some ((-900003 : Int32), h3, n) else none)))
def f_L_spring (t0 : Nat) (x0 : Nat) (x1 : Int32) (x2 : Int32) (x3 : Int32) (h : zz_H) (n : Nat) : Option (Int32 × zz_H × Nat) := zz_ob h (some x0) 10 fun _ => zz_th1 (f_X9_spring x0 x1 x2 x3 h) (fun v4 h4 => some (v4, h4, n)) (fun k4 h4 => if k4 = 2 then some ((-900001 : Int32), h4, n) else (if k4 = 0 then some ((-900002 : Int32), h4, n) else (if k4 = 3 then some ((-900003 : Int32), h4, n) else none)))
def f_L_change (t0 : Nat) (x0 : Nat) (x1 : Int32) (x2 : Int32) (x3 : Int32) (x4 : Int32) (h : zz_H) (n : Nat) : Option (Int32 × zz_H × Nat) := zz_ob h (some x0) 10 fun _ => zz_th1 (f_X9_change x0 x1 x2 x3 x4 h) (fun v6 h6 => some (v6, h6, n)) (fun k6 h6 => if k6 = 2 then some ((-900001 : Int32), h6, n) else (if k6 = 0 then some ((-900002 : Int32), h6, n) else (if k6 = 3 then some ((-900003 : Int32), h6, n) else none)))
def f_L_tie (t0 : Nat) (x0 : Nat) (x1 : Int32) (h : zz_H) (n : Nat) : Option (Int32 × zz_H × Nat) := zz_ob h (some x0) 10 fun _ => zz_th1 (f_X9_tie x0 x1 h) (fun v2 h2 => some (v2, h2, n)) (fun k2 h2 => if k2 = 2 then some ((-900001 : Int32), h2, n) else (if k2 = 3 then some ((-900002 : Int32), h2, n) else none))
def f_L_pull (t0 : Nat) (x0 : Nat) (x1 : Int32) (x2 : Int32) (x3 : Int32) (x4 : Int32) (h : zz_H) (n : Nat) : Option (Int32 × zz_H × Nat) := zz_ob h (some x0) 10 fun _ => zz_th1 (f_X9_pull x0 x1 x2 x3 x4 h) (fun v6 h6 => some (v6, h6, n)) (fun k6 h6 => if k6 = 2 then some ((-900001 : Int32), h6, n) else (if k6 = 0 then some ((-900002 : Int32), h6, n) else (if k6 = 3 then some ((-900003 : Int32), h6, n) else none)))
def f_L_layer (t0 : Nat) (x0 : Nat) (x1 : Int32) (x2 : Int32) (x3 : Int32) (x4 : Int32) (h : zz_H) (n : Nat) : Option (Int32 × zz_H × Nat) := zz_ob h (some x0) 10 fun _ => zz_th2 (f_X9_layer t0 x0 x1 x2 x3 x4 h n) (fun v6 h6 n6 => some (v6, h6, n6)) (fun k6 h6 n6 => if k6 = 2 then some ((-900001 : Int32), h6, n6) else (if k6 = 0 then some ((-900002 : Int32), h6, n6) else (if k6 = 3 then some ((-900003 : Int32), h6, n6) else none)))
def f_L_buttons (t0 : Nat) (x0 : Nat) (x1 : Int32) (h : zz_H) (n : Nat) : Option (Int32 × zz_H × Nat) := zz_ob h (some x0) 10 fun _ => zz_th1 (f_X9_buttons x0 x1 h) (fun v2 h2 => some (v2, h2, n)) (fun k2 h2 => if k2 = 2 then some ((-900001 : Int32), h2, n) else (if k2 = 3 then some ((-900002 : Int32), h2, n) else none))
def f_L_draw (t0 : Nat) (x0 : Nat) (x1 : Int32) (x2 : Int32) (x3 : Int32) (h : zz_H) (n : Nat) : Option (Int32 × zz_H × Nat) := zz_ob h (some x0) 10 fun _ => zz_th1 (f_X9_draw x0 x1 x2 x3 h) (fun v4 h4 => some (v4, h4, n)) (fun k4 h4 => if k4 = 2 then some ((-900001 : Int32), h4, n) else (if k4 = 0 then some ((-900002 : Int32), h4, n) else (if k4 = 3 then some ((-900003 : Int32), h4, n) else (if k4 = 1 then some ((-900004 : Int32), h4, n) else none))))
def f_L_cover (t0 : Nat) (x0 : Nat) (x1 : Int32) (x2 : Int32) (x3 : Int32) (h : zz_H) (n : Nat) : Option (Int32 × zz_H × Nat) := zz_ob h (some x0) 10 fun _ => zz_th1 (f_X9_cover x0 x1 x2 x3 h) (fun v4 h4 => some (v4, h4, n)) (fun k4 h4 => if k4 = 2 then some ((-900001 : Int32), h4, n) else (if k4 = 0 then some ((-900002 : Int32), h4, n) else (if k4 = 3 then some ((-900003 : Int32), h4, n) else (if k4 = 4 then some ((-900004 : Int32), h4, n) else none))))
def f_L_sign (t0 : Nat) (x0 : Nat) (x1 : Int32) (h : zz_H) (n : Nat) : Option (Int32 × zz_H × Nat) := zz_ob h (some x0) 10 fun _ => zz_th1 (f_X9_sign x0 x1 h) (fun v2 h2 => some (v2, h2, n)) (fun k2 h2 => if k2 = 2 then some ((-900001 : Int32), h2, n) else (if k2 = 3 then some ((-900002 : Int32), h2, n) else none))
def f_L_stands (t0 : Nat) (x0 : Nat) (x1 : Int32) (x2 : Int32) (h : zz_H) (n : Nat) : Option (Int32 × zz_H × Nat) := zz_ob h (some x0) 10 fun _ => zz_th (f_X9_stands x0 x1 x2 h) (fun v3 => some (v3, h, n)) (fun k3 => if k3 = 2 then some ((-900001 : Int32), h, n) else none)
def f_L_thick (t0 : Nat) (x0 : Nat) (x1 : Int32) (x2 : Int32) (h : zz_H) (n : Nat) : Option (Int32 × zz_H × Nat) := zz_ob h (some x0) 10 fun _ => zz_th (f_X9_thick x0 x1 x2 h) (fun v3 => some (v3, h, n)) (fun k3 => if k3 = 2 then some ((-900001 : Int32), h, n) else (if k3 = 4 then some ((-900002 : Int32), h, n) else none))
def f_L_top (t0 : Nat) (x0 : Nat) (x1 : Int32) (x2 : Int32) (h : zz_H) (n : Nat) : Option (Int32 × zz_H × Nat) := zz_ob h (some x0) 10 fun _ => zz_th (f_X9_top x0 x1 x2 h) (fun v3 => some (v3, h, n)) (fun k3 => if k3 = 2 then some ((-900001 : Int32), h, n) else none)
def f_L_cloth (t0 : Nat) (x0 : Nat) (x1 : Int32) (x2 : Int32) (h : zz_H) (n : Nat) : Option (Int32 × zz_H × Nat) := zz_ob h (some x0) 10 fun _ => zz_th2 (f_X9_cloth t0 x0 x1 x2 h n) (fun v3 h3 n3 => some (v3, h3, n3)) (fun k3 h3 n3 => if k3 = 0 then some ((-900001 : Int32), h3, n3) else (if k3 = 1 then some ((-900002 : Int32), h3, n3) else none))
def f_L_use (t0 : Nat) (x0 : Nat) (x1 : Int32) (x2 : Int32) (h : zz_H) (n : Nat) : Option (Int32 × zz_H × Nat) := zz_ob h (some x0) 10 fun _ => zz_th1 (f_X9_use x0 x1 x2 h) (fun v3 h3 => some (v3, h3, n)) (fun k3 h3 => if k3 = 2 then some ((-900001 : Int32), h3, n) else (if k3 = 0 then some ((-900002 : Int32), h3, n) else (if k3 = 3 then some ((-900003 : Int32), h3, n) else none)))
def f_L_pound (t0 : Nat) (x0 : Nat) (x1 : Int32) (x2 : Int32) (h : zz_H) (n : Nat) : Option (Int32 × zz_H × Nat) := zz_ob h (some x0) 10 fun _ => zz_th1 (f_X9_pound x0 x1 x2 h) (fun v3 h3 => some (v3, h3, n)) (fun k3 h3 => if k3 = 2 then some ((-900001 : Int32), h3, n) else (if k3 = 0 then some ((-900002 : Int32), h3, n) else (if k3 = 3 then some ((-900003 : Int32), h3, n) else none)))
def f_L_hours (t0 : Nat) (x0 : Nat) (x1 : Int32) (h : zz_H) (n : Nat) : Option (Int32 × zz_H × Nat) := zz_ob h (some x0) 10 fun _ => zz_th (f_X9_hours x0 x1 h) (fun v2 => some (v2, h, n)) (fun k2 => if k2 = 2 then some ((-900001 : Int32), h, n) else (if k2 = 3 then some ((-900002 : Int32), h, n) else none))
def f_L_promise (t0 : Nat) (x0 : Nat) (x1 : Int32) (x2 : Int32) (h : zz_H) (n : Nat) : Option (Int32 × zz_H × Nat) := zz_ob h (some x0) 10 fun _ => zz_th1 (f_X9_promise x0 x1 x2 h) (fun v3 h3 => some (v3, h3, n)) (fun k3 h3 => if k3 = 2 then some ((-900001 : Int32), h3, n) else (if k3 = 0 then some ((-900002 : Int32), h3, n) else none))
def f_L_quote (t0 : Nat) (x0 : Nat) (x1 : Int32) (h : zz_H) (n : Nat) : Option (Int32 × zz_H × Nat) := zz_ob h (some x0) 10 fun _ => zz_th (f_X9_quote x0 x1 h) (fun v2 => some (v2, h, n)) (fun k2 => if k2 = 2 then some ((-900001 : Int32), h, n) else none)
def rm_L_seat : Room := { frames := 8, cells := 20, slots := 253, locals := 144 }
theorem mf_L_seat : Cond.codeWith yL_seat cL_seat 4 (some .int) [(0, 6, 7, 15), (0, 6, 11, 18)] ∈ zz_G ∧ Cond.initialized yL_seat.cls ∈ zz_G ∧ (yL_seat.cls ≠ "java/lang/invoke/MethodHandle" ∧ yL_seat.cls ≠ "java/lang/invoke/VarHandle" ∧ (parseMethodDescriptor yL_seat.desc).map (fun d => d.parameters.length) = some 3) := ⟨q_482, q_0, by decide +kernel, by decide +kernel, by decide +kernel⟩
set_option maxHeartbeats 4000000 in
set_option maxRecDepth 100000 in
theorem mt_L_seat {D : va_G} {dA : Nat → ClassId} {base t0 : Nat} {l : Launch} (hT : l.stackTraces = false) (x0 : Nat) (x1 : Int32) (x2 : Int32) (h : zz_H) (n : Nat) {r0 : Int32} {hF : zz_H} {nF : Nat} (hf : f_L_seat t0 x0 x1 x2 h n = some (r0, hF, nF)) : zz_ML D dA base t0 l yL_seat cL_seat 4 [(0, 6, 7, 15), (0, 6, 11, 18)] rm_L_seat [.ref x0, .int x1, .int x2] h n r0 hF nF := by
  refine zz_ofH (cc := cL_seat) (maxL := 4) (ret := some .int) (by decide +kernel) rfl ?_
  intro p e s m args below meth c s₁ B hml hE hv
  obtain ⟨rfl, hP, hK, hN⟩ := hv
  have X : zz_X D dA base t0 "SpringseatLaw" cL_seat 4 (some .int) l p s m meth c := ⟨B.exec, B.bytes, hml, B.returns, findClass_of_methodNamed B.named, B.notSynchronized, hT, by rw [hP.1]; exact hP.2.1, hK⟩
  have hx := X.1
  have hb := X.2.1
  have hown := X.2.2.2.2.1
  have hR : zz_R D dA base h n s s.heap [] := ⟨hP, va_S.rf⟩
  have hl := lv_entry ([.ref x0, .int x1, .int x2]) (n := 4) (by exact Nat.le_of_ble_eq_true rfl)
  rw [lg_entry_eq]
  generalize (lg_sl ([.ref x0, .int x1, .int x2]) ++ List.replicate (4 - (lg_sl ([.ref x0, .int x1, .int x2])).length) Slot.unset).toArray = ls at hl ⊢
  have hl : lv_has ls 4 [(0, .ref x0), (1, .int x1), (2, .int x2)] := hl
  unfold f_L_seat at hf
  refine lv_aload_n hx hb dL_seat_0 rfl (lv_at hl 0 rfl) ?_
  refine lv_iload_n hx hb dL_seat_1 rfl (lv_at hl 1 rfl) ?_
  refine lv_iload_n hx hb dL_seat_2 rfl (lv_at hl 2 rfl) ?_
  obtain ⟨fs3, ho3, hf⟩ := zz_obS_i hf
  rcases zz_th2_i hf with ⟨v3, h3, n3, hv3, hf⟩ | ⟨k3, h3, n3, hv3, hf⟩
  · refine zl_V X hR hl.1 (As := [.int x1, .int x2]) (rest := []) (C := RX9) (T := TX9) (N := 6) (ro := (fun v : Int32 => some (Value.int v)) v3) (mt_X9_seat hT x0 x1 x2 h n hv3) rfl ho3 mf_X9_seat q_485 q_486 q_487 ⟨Nat.le_of_ble_eq_true rfl, Nat.le_of_ble_eq_true rfl⟩ ⟨Nat.le_of_ble_eq_true rfl, Nat.le_of_ble_eq_true rfl⟩ rfl (Nat.le_of_ble_eq_true rfl) dL_seat_3 (fun H locs hR => ?_)
    refine W.eq (g2 := F0 m 6 ls [.int v3]) rfl ?_
    refine W.widen (k := 20) (n := 253) (Nat.le_of_ble_eq_true rfl) (Nat.le_of_ble_eq_true rfl) ?_
    cases hf
    exact zl_iret X hR (Nat.le_refl _) dL_seat_6 (Nat.le_of_ble_eq_true rfl) (Nat.le_of_ble_eq_true rfl)
  · refine zl_X X hR hl.1 (As := [.int x1, .int x2]) (rest := []) (C := RX9) (T := TX9) (N := 6) (k := k3) (mt_X9_seat hT x0 x1 x2 h n hv3) rfl ho3 mf_X9_seat q_485 q_486 q_487 ⟨Nat.le_of_ble_eq_true rfl, Nat.le_of_ble_eq_true rfl⟩ ⟨Nat.le_of_ble_eq_true rfl, Nat.le_of_ble_eq_true rfl⟩ rfl (Nat.le_of_ble_eq_true rfl) dL_seat_3 (fun H locs nn ce qq hnn hR hce hcv hcl => ?_)
    by_cases ck : k3 = 0
    · subst ck
      replace hf := zz_pos rfl hf
      refine zl_catch X hN hE (k := 0) [] [(0, 6, 11, 18)] (0, 6, 7, 15) rfl (by decide) (fun z hz => nomatch hz) rfl (by decide) q_483 q_494 hce hcv hcl ?_
      refine lv_astore_n (i := 3) (lv' := [(3, .ref qq)]) hx hb dL_seat_7 rfl (lv_sub hl [] rfl) (by decide) rfl (fun ls hl => ?_)
      refine lv_ldc hx hb hown (zz_w X q_659) dL_seat_8 ?_
      cases hf
      exact zl_iret X hR hnn dL_seat_10 (Nat.le_of_ble_eq_true rfl) (Nat.le_of_ble_eq_true rfl)
    replace hf := zz_neg ck hf
    by_cases ck : k3 = 1
    · subst ck
      replace hf := zz_pos rfl hf
      refine zl_catch X hN hE (k := 1) [(0, 6, 7, 15)] [] (0, 6, 11, 18) rfl (by decide) (by intro z hz; simp only [List.mem_cons, List.not_mem_nil, or_false] at hz; rcases hz with rfl <;> first | exact ⟨by decide, 0, by decide, by decide, q_483⟩) rfl (by decide) q_484 q_513 hce hcv hcl ?_
      refine lv_astore_n (i := 3) (lv' := [(3, .ref qq)]) hx hb dL_seat_11 rfl (lv_sub hl [] rfl) (by decide) rfl (fun ls hl => ?_)
      refine lv_ldc hx hb hown (zz_w X q_660) dL_seat_12 ?_
      cases hf
      exact zl_iret X hR hnn dL_seat_14 (Nat.le_of_ble_eq_true rfl) (Nat.le_of_ble_eq_true rfl)
    replace hf := zz_neg ck hf
    cases hf
def rm_L_web : Room := { frames := 9, cells := 3, slots := 18, locals := 155 }
theorem mf_L_web : Cond.codeWith yL_web cL_web 4 (some .int) [(0, 6, 7, 24), (0, 6, 11, 15), (0, 6, 15, 26)] ∈ zz_G ∧ Cond.initialized yL_web.cls ∈ zz_G ∧ (yL_web.cls ≠ "java/lang/invoke/MethodHandle" ∧ yL_web.cls ≠ "java/lang/invoke/VarHandle" ∧ (parseMethodDescriptor yL_web.desc).map (fun d => d.parameters.length) = some 3) := ⟨q_663, q_0, by decide +kernel, by decide +kernel, by decide +kernel⟩
set_option maxHeartbeats 4000000 in
set_option maxRecDepth 100000 in
theorem mt_L_web {D : va_G} {dA : Nat → ClassId} {base t0 : Nat} {l : Launch} (hT : l.stackTraces = false) (x0 : Nat) (x1 : Int32) (x2 : Int32) (h : zz_H) (n : Nat) {r0 : Int32} {hF : zz_H} {nF : Nat} (hf : f_L_web t0 x0 x1 x2 h n = some (r0, hF, nF)) : zz_ML D dA base t0 l yL_web cL_web 4 [(0, 6, 7, 24), (0, 6, 11, 15), (0, 6, 15, 26)] rm_L_web [.ref x0, .int x1, .int x2] h n r0 hF nF := by
  refine zz_ofH (cc := cL_web) (maxL := 4) (ret := some .int) (by decide +kernel) rfl ?_
  intro p e s m args below meth c s₁ B hml hE hv
  obtain ⟨rfl, hP, hK, hN⟩ := hv
  have X : zz_X D dA base t0 "SpringseatLaw" cL_web 4 (some .int) l p s m meth c := ⟨B.exec, B.bytes, hml, B.returns, findClass_of_methodNamed B.named, B.notSynchronized, hT, by rw [hP.1]; exact hP.2.1, hK⟩
  have hx := X.1
  have hb := X.2.1
  have hown := X.2.2.2.2.1
  have hR : zz_R D dA base h n s s.heap [] := ⟨hP, va_S.rf⟩
  have hl := lv_entry ([.ref x0, .int x1, .int x2]) (n := 4) (by exact Nat.le_of_ble_eq_true rfl)
  rw [lg_entry_eq]
  generalize (lg_sl ([.ref x0, .int x1, .int x2]) ++ List.replicate (4 - (lg_sl ([.ref x0, .int x1, .int x2])).length) Slot.unset).toArray = ls at hl ⊢
  have hl : lv_has ls 4 [(0, .ref x0), (1, .int x1), (2, .int x2)] := hl
  unfold f_L_web at hf
  refine lv_aload_n hx hb dL_web_0 rfl (lv_at hl 0 rfl) ?_
  refine lv_iload_n hx hb dL_web_1 rfl (lv_at hl 1 rfl) ?_
  refine lv_iload_n hx hb dL_web_2 rfl (lv_at hl 2 rfl) ?_
  obtain ⟨fs3, ho3, hf⟩ := zz_obS_i hf
  rcases zz_th1_i hf with ⟨v3, h3, hv3, hf⟩ | ⟨k3, h3, hv3, hf⟩
  · refine zl_V X hR hl.1 (As := [.int x1, .int x2]) (rest := []) (C := RX9) (T := TX9) (N := 6) (ro := (fun v : Int32 => some (Value.int v)) v3) (mt_X9_web hT x0 x1 x2 h n hv3) rfl ho3 mf_X9_web q_666 q_667 q_668 ⟨Nat.le_of_ble_eq_true rfl, Nat.le_of_ble_eq_true rfl⟩ ⟨Nat.le_of_ble_eq_true rfl, Nat.le_of_ble_eq_true rfl⟩ rfl (Nat.le_of_ble_eq_true rfl) dL_web_3 (fun H locs hR => ?_)
    refine W.eq (g2 := F0 m 6 ls [.int v3]) rfl ?_
    refine W.widen (k := 3) (n := 18) (Nat.le_of_ble_eq_true rfl) (Nat.le_of_ble_eq_true rfl) ?_
    cases hf
    exact zl_iret X hR (Nat.le_refl _) dL_web_6 (Nat.le_of_ble_eq_true rfl) (Nat.le_of_ble_eq_true rfl)
  · refine zl_X X hR hl.1 (As := [.int x1, .int x2]) (rest := []) (C := RX9) (T := TX9) (N := 6) (k := k3) (mt_X9_web hT x0 x1 x2 h n hv3) rfl ho3 mf_X9_web q_666 q_667 q_668 ⟨Nat.le_of_ble_eq_true rfl, Nat.le_of_ble_eq_true rfl⟩ ⟨Nat.le_of_ble_eq_true rfl, Nat.le_of_ble_eq_true rfl⟩ rfl (Nat.le_of_ble_eq_true rfl) dL_web_3 (fun H locs nn ce qq hnn hR hce hcv hcl => ?_)
    by_cases ck : k3 = 2
    · subst ck
      replace hf := zz_pos rfl hf
      refine zl_catch X hN hE (k := 2) [] [(0, 6, 11, 15), (0, 6, 15, 26)] (0, 6, 7, 24) rfl (by decide) (fun z hz => nomatch hz) rfl (by decide) q_664 q_185 hce hcv hcl ?_
      refine lv_astore_n (i := 3) (lv' := [(3, .ref qq)]) hx hb dL_web_7 rfl (lv_sub hl [] rfl) (by decide) rfl (fun ls hl => ?_)
      refine lv_ldc hx hb hown (zz_w X q_659) dL_web_8 ?_
      cases hf
      exact zl_iret X hR hnn dL_web_10 (Nat.le_of_ble_eq_true rfl) (Nat.le_of_ble_eq_true rfl)
    replace hf := zz_neg ck hf
    by_cases ck : k3 = 0
    · subst ck
      replace hf := zz_pos rfl hf
      refine zl_catch X hN hE (k := 0) [(0, 6, 7, 24)] [(0, 6, 15, 26)] (0, 6, 11, 15) rfl (by decide) (by intro z hz; simp only [List.mem_cons, List.not_mem_nil, or_false] at hz; rcases hz with rfl <;> first | exact ⟨by decide, 2, by decide, by decide, q_664⟩) rfl (by decide) q_483 q_494 hce hcv hcl ?_
      refine lv_astore_n (i := 3) (lv' := [(3, .ref qq)]) hx hb dL_web_11 rfl (lv_sub hl [] rfl) (by decide) rfl (fun ls hl => ?_)
      refine lv_ldc hx hb hown (zz_w X q_660) dL_web_12 ?_
      cases hf
      exact zl_iret X hR hnn dL_web_14 (Nat.le_of_ble_eq_true rfl) (Nat.le_of_ble_eq_true rfl)
    replace hf := zz_neg ck hf
    by_cases ck : k3 = 3
    · subst ck
      replace hf := zz_pos rfl hf
      refine zl_catch X hN hE (k := 3) [(0, 6, 7, 24), (0, 6, 11, 15)] [] (0, 6, 15, 26) rfl (by decide) (by intro z hz; simp only [List.mem_cons, List.not_mem_nil, or_false] at hz; rcases hz with rfl | rfl <;> first | exact ⟨by decide, 2, by decide, by decide, q_664⟩ | exact ⟨by decide, 0, by decide, by decide, q_483⟩) rfl (by decide) q_665 q_317 hce hcv hcl ?_
      refine lv_astore_n (i := 3) (lv' := [(3, .ref qq)]) hx hb dL_web_15 rfl (lv_sub hl [] rfl) (by decide) rfl (fun ls hl => ?_)
      refine lv_ldc hx hb hown (zz_w X q_686) dL_web_16 ?_
      cases hf
      exact zl_iret X hR hnn dL_web_18 (Nat.le_of_ble_eq_true rfl) (Nat.le_of_ble_eq_true rfl)
    replace hf := zz_neg ck hf
    cases hf
def rm_L_spring : Room := { frames := 9, cells := 4, slots := 24, locals := 156 }
theorem mf_L_spring : Cond.codeWith yL_spring cL_spring 5 (some .int) [(0, 7, 8, 24), (0, 7, 13, 15), (0, 7, 18, 26)] ∈ zz_G ∧ Cond.initialized yL_spring.cls ∈ zz_G ∧ (yL_spring.cls ≠ "java/lang/invoke/MethodHandle" ∧ yL_spring.cls ≠ "java/lang/invoke/VarHandle" ∧ (parseMethodDescriptor yL_spring.desc).map (fun d => d.parameters.length) = some 4) := ⟨q_689, q_0, by decide +kernel, by decide +kernel, by decide +kernel⟩
set_option maxHeartbeats 4000000 in
set_option maxRecDepth 100000 in
theorem mt_L_spring {D : va_G} {dA : Nat → ClassId} {base t0 : Nat} {l : Launch} (hT : l.stackTraces = false) (x0 : Nat) (x1 : Int32) (x2 : Int32) (x3 : Int32) (h : zz_H) (n : Nat) {r0 : Int32} {hF : zz_H} {nF : Nat} (hf : f_L_spring t0 x0 x1 x2 x3 h n = some (r0, hF, nF)) : zz_ML D dA base t0 l yL_spring cL_spring 5 [(0, 7, 8, 24), (0, 7, 13, 15), (0, 7, 18, 26)] rm_L_spring [.ref x0, .int x1, .int x2, .int x3] h n r0 hF nF := by
  refine zz_ofH (cc := cL_spring) (maxL := 5) (ret := some .int) (by decide +kernel) rfl ?_
  intro p e s m args below meth c s₁ B hml hE hv
  obtain ⟨rfl, hP, hK, hN⟩ := hv
  have X : zz_X D dA base t0 "SpringseatLaw" cL_spring 5 (some .int) l p s m meth c := ⟨B.exec, B.bytes, hml, B.returns, findClass_of_methodNamed B.named, B.notSynchronized, hT, by rw [hP.1]; exact hP.2.1, hK⟩
  have hx := X.1
  have hb := X.2.1
  have hown := X.2.2.2.2.1
  have hR : zz_R D dA base h n s s.heap [] := ⟨hP, va_S.rf⟩
  have hl := lv_entry ([.ref x0, .int x1, .int x2, .int x3]) (n := 5) (by exact Nat.le_of_ble_eq_true rfl)
  rw [lg_entry_eq]
  generalize (lg_sl ([.ref x0, .int x1, .int x2, .int x3]) ++ List.replicate (5 - (lg_sl ([.ref x0, .int x1, .int x2, .int x3])).length) Slot.unset).toArray = ls at hl ⊢
  have hl : lv_has ls 5 [(0, .ref x0), (1, .int x1), (2, .int x2), (3, .int x3)] := hl
  unfold f_L_spring at hf
  refine lv_aload_n hx hb dL_spring_0 rfl (lv_at hl 0 rfl) ?_
  refine lv_iload_n hx hb dL_spring_1 rfl (lv_at hl 1 rfl) ?_
  refine lv_iload_n hx hb dL_spring_2 rfl (lv_at hl 2 rfl) ?_
  refine lv_iload_n hx hb dL_spring_3 rfl (lv_at hl 3 rfl) ?_
  obtain ⟨fs4, ho4, hf⟩ := zz_obS_i hf
  rcases zz_th1_i hf with ⟨v4, h4, hv4, hf⟩ | ⟨k4, h4, hv4, hf⟩
  · refine zl_V X hR hl.1 (As := [.int x1, .int x2, .int x3]) (rest := []) (C := RX9) (T := TX9) (N := 6) (ro := (fun v : Int32 => some (Value.int v)) v4) (mt_X9_spring hT x0 x1 x2 x3 h n hv4) rfl ho4 mf_X9_spring q_690 q_691 q_692 ⟨Nat.le_of_ble_eq_true rfl, Nat.le_of_ble_eq_true rfl⟩ ⟨Nat.le_of_ble_eq_true rfl, Nat.le_of_ble_eq_true rfl⟩ rfl (Nat.le_of_ble_eq_true rfl) dL_spring_4 (fun H locs hR => ?_)
    refine W.eq (g2 := F0 m 7 ls [.int v4]) rfl ?_
    refine W.widen (k := 4) (n := 24) (Nat.le_of_ble_eq_true rfl) (Nat.le_of_ble_eq_true rfl) ?_
    cases hf
    exact zl_iret X hR (Nat.le_refl _) dL_spring_7 (Nat.le_of_ble_eq_true rfl) (Nat.le_of_ble_eq_true rfl)
  · refine zl_X X hR hl.1 (As := [.int x1, .int x2, .int x3]) (rest := []) (C := RX9) (T := TX9) (N := 6) (k := k4) (mt_X9_spring hT x0 x1 x2 x3 h n hv4) rfl ho4 mf_X9_spring q_690 q_691 q_692 ⟨Nat.le_of_ble_eq_true rfl, Nat.le_of_ble_eq_true rfl⟩ ⟨Nat.le_of_ble_eq_true rfl, Nat.le_of_ble_eq_true rfl⟩ rfl (Nat.le_of_ble_eq_true rfl) dL_spring_4 (fun H locs nn ce qq hnn hR hce hcv hcl => ?_)
    by_cases ck : k4 = 2
    · subst ck
      replace hf := zz_pos rfl hf
      refine zl_catch X hN hE (k := 2) [] [(0, 7, 13, 15), (0, 7, 18, 26)] (0, 7, 8, 24) rfl (by decide) (fun z hz => nomatch hz) rfl (by decide) q_664 q_185 hce hcv hcl ?_
      refine lv_astore (i := 4) (lv' := [(4, .ref qq)]) hx hb dL_spring_8 (lv_sub hl [] rfl) (by decide) rfl (fun ls hl => ?_)
      refine lv_ldc hx hb hown (zz_w X q_659) dL_spring_10 ?_
      cases hf
      exact zl_iret X hR hnn dL_spring_12 (Nat.le_of_ble_eq_true rfl) (Nat.le_of_ble_eq_true rfl)
    replace hf := zz_neg ck hf
    by_cases ck : k4 = 0
    · subst ck
      replace hf := zz_pos rfl hf
      refine zl_catch X hN hE (k := 0) [(0, 7, 8, 24)] [(0, 7, 18, 26)] (0, 7, 13, 15) rfl (by decide) (by intro z hz; simp only [List.mem_cons, List.not_mem_nil, or_false] at hz; rcases hz with rfl <;> first | exact ⟨by decide, 2, by decide, by decide, q_664⟩) rfl (by decide) q_483 q_494 hce hcv hcl ?_
      refine lv_astore (i := 4) (lv' := [(4, .ref qq)]) hx hb dL_spring_13 (lv_sub hl [] rfl) (by decide) rfl (fun ls hl => ?_)
      refine lv_ldc hx hb hown (zz_w X q_660) dL_spring_15 ?_
      cases hf
      exact zl_iret X hR hnn dL_spring_17 (Nat.le_of_ble_eq_true rfl) (Nat.le_of_ble_eq_true rfl)
    replace hf := zz_neg ck hf
    by_cases ck : k4 = 3
    · subst ck
      replace hf := zz_pos rfl hf
      refine zl_catch X hN hE (k := 3) [(0, 7, 8, 24), (0, 7, 13, 15)] [] (0, 7, 18, 26) rfl (by decide) (by intro z hz; simp only [List.mem_cons, List.not_mem_nil, or_false] at hz; rcases hz with rfl | rfl <;> first | exact ⟨by decide, 2, by decide, by decide, q_664⟩ | exact ⟨by decide, 0, by decide, by decide, q_483⟩) rfl (by decide) q_665 q_317 hce hcv hcl ?_
      refine lv_astore (i := 4) (lv' := [(4, .ref qq)]) hx hb dL_spring_18 (lv_sub hl [] rfl) (by decide) rfl (fun ls hl => ?_)
      refine lv_ldc hx hb hown (zz_w X q_686) dL_spring_20 ?_
      cases hf
      exact zl_iret X hR hnn dL_spring_22 (Nat.le_of_ble_eq_true rfl) (Nat.le_of_ble_eq_true rfl)
    replace hf := zz_neg ck hf
    cases hf
def rm_L_change : Room := { frames := 10, cells := 6, slots := 36, locals := 180 }
theorem mf_L_change : Cond.codeWith yL_change cL_change 6 (some .int) [(0, 9, 10, 24), (0, 9, 15, 15), (0, 9, 20, 26)] ∈ zz_G ∧ Cond.initialized yL_change.cls ∈ zz_G ∧ (yL_change.cls ≠ "java/lang/invoke/MethodHandle" ∧ yL_change.cls ≠ "java/lang/invoke/VarHandle" ∧ (parseMethodDescriptor yL_change.desc).map (fun d => d.parameters.length) = some 5) := ⟨q_707, q_0, by decide +kernel, by decide +kernel, by decide +kernel⟩
set_option maxHeartbeats 4000000 in
set_option maxRecDepth 100000 in
theorem mt_L_change {D : va_G} {dA : Nat → ClassId} {base t0 : Nat} {l : Launch} (hT : l.stackTraces = false) (x0 : Nat) (x1 : Int32) (x2 : Int32) (x3 : Int32) (x4 : Int32) (h : zz_H) (n : Nat) {r0 : Int32} {hF : zz_H} {nF : Nat} (hf : f_L_change t0 x0 x1 x2 x3 x4 h n = some (r0, hF, nF)) : zz_ML D dA base t0 l yL_change cL_change 6 [(0, 9, 10, 24), (0, 9, 15, 15), (0, 9, 20, 26)] rm_L_change [.ref x0, .int x1, .int x2, .int x3, .int x4] h n r0 hF nF := by
  refine zz_ofH (cc := cL_change) (maxL := 6) (ret := some .int) (by decide +kernel) rfl ?_
  intro p e s m args below meth c s₁ B hml hE hv
  obtain ⟨rfl, hP, hK, hN⟩ := hv
  have X : zz_X D dA base t0 "SpringseatLaw" cL_change 6 (some .int) l p s m meth c := ⟨B.exec, B.bytes, hml, B.returns, findClass_of_methodNamed B.named, B.notSynchronized, hT, by rw [hP.1]; exact hP.2.1, hK⟩
  have hx := X.1
  have hb := X.2.1
  have hown := X.2.2.2.2.1
  have hR : zz_R D dA base h n s s.heap [] := ⟨hP, va_S.rf⟩
  have hl := lv_entry ([.ref x0, .int x1, .int x2, .int x3, .int x4]) (n := 6) (by exact Nat.le_of_ble_eq_true rfl)
  rw [lg_entry_eq]
  generalize (lg_sl ([.ref x0, .int x1, .int x2, .int x3, .int x4]) ++ List.replicate (6 - (lg_sl ([.ref x0, .int x1, .int x2, .int x3, .int x4])).length) Slot.unset).toArray = ls at hl ⊢
  have hl : lv_has ls 6 [(0, .ref x0), (1, .int x1), (2, .int x2), (3, .int x3), (4, .int x4)] := hl
  unfold f_L_change at hf
  refine lv_aload_n hx hb dL_change_0 rfl (lv_at hl 0 rfl) ?_
  refine lv_iload_n hx hb dL_change_1 rfl (lv_at hl 1 rfl) ?_
  refine lv_iload_n hx hb dL_change_2 rfl (lv_at hl 2 rfl) ?_
  refine lv_iload_n hx hb dL_change_3 rfl (lv_at hl 3 rfl) ?_
  refine lv_iload hx hb dL_change_4 (lv_at hl 4 rfl) ?_
  obtain ⟨fs6, ho6, hf⟩ := zz_obS_i hf
  rcases zz_th1_i hf with ⟨v6, h6, hv6, hf⟩ | ⟨k6, h6, hv6, hf⟩
  · refine zl_V X hR hl.1 (As := [.int x1, .int x2, .int x3, .int x4]) (rest := []) (C := RX9) (T := TX9) (N := 6) (ro := (fun v : Int32 => some (Value.int v)) v6) (mt_X9_change hT x0 x1 x2 x3 x4 h n hv6) rfl ho6 mf_X9_change q_708 q_709 q_710 ⟨Nat.le_of_ble_eq_true rfl, Nat.le_of_ble_eq_true rfl⟩ ⟨Nat.le_of_ble_eq_true rfl, Nat.le_of_ble_eq_true rfl⟩ rfl (Nat.le_of_ble_eq_true rfl) dL_change_6 (fun H locs hR => ?_)
    refine W.eq (g2 := F0 m 9 ls [.int v6]) rfl ?_
    refine W.widen (k := 6) (n := 36) (Nat.le_of_ble_eq_true rfl) (Nat.le_of_ble_eq_true rfl) ?_
    cases hf
    exact zl_iret X hR (Nat.le_refl _) dL_change_9 (Nat.le_of_ble_eq_true rfl) (Nat.le_of_ble_eq_true rfl)
  · refine zl_X X hR hl.1 (As := [.int x1, .int x2, .int x3, .int x4]) (rest := []) (C := RX9) (T := TX9) (N := 6) (k := k6) (mt_X9_change hT x0 x1 x2 x3 x4 h n hv6) rfl ho6 mf_X9_change q_708 q_709 q_710 ⟨Nat.le_of_ble_eq_true rfl, Nat.le_of_ble_eq_true rfl⟩ ⟨Nat.le_of_ble_eq_true rfl, Nat.le_of_ble_eq_true rfl⟩ rfl (Nat.le_of_ble_eq_true rfl) dL_change_6 (fun H locs nn ce qq hnn hR hce hcv hcl => ?_)
    by_cases ck : k6 = 2
    · subst ck
      replace hf := zz_pos rfl hf
      refine zl_catch X hN hE (k := 2) [] [(0, 9, 15, 15), (0, 9, 20, 26)] (0, 9, 10, 24) rfl (by decide) (fun z hz => nomatch hz) rfl (by decide) q_664 q_185 hce hcv hcl ?_
      refine lv_astore (i := 5) (lv' := [(5, .ref qq)]) hx hb dL_change_10 (lv_sub hl [] rfl) (by decide) rfl (fun ls hl => ?_)
      refine lv_ldc hx hb hown (zz_w X q_659) dL_change_12 ?_
      cases hf
      exact zl_iret X hR hnn dL_change_14 (Nat.le_of_ble_eq_true rfl) (Nat.le_of_ble_eq_true rfl)
    replace hf := zz_neg ck hf
    by_cases ck : k6 = 0
    · subst ck
      replace hf := zz_pos rfl hf
      refine zl_catch X hN hE (k := 0) [(0, 9, 10, 24)] [(0, 9, 20, 26)] (0, 9, 15, 15) rfl (by decide) (by intro z hz; simp only [List.mem_cons, List.not_mem_nil, or_false] at hz; rcases hz with rfl <;> first | exact ⟨by decide, 2, by decide, by decide, q_664⟩) rfl (by decide) q_483 q_494 hce hcv hcl ?_
      refine lv_astore (i := 5) (lv' := [(5, .ref qq)]) hx hb dL_change_15 (lv_sub hl [] rfl) (by decide) rfl (fun ls hl => ?_)
      refine lv_ldc hx hb hown (zz_w X q_660) dL_change_17 ?_
      cases hf
      exact zl_iret X hR hnn dL_change_19 (Nat.le_of_ble_eq_true rfl) (Nat.le_of_ble_eq_true rfl)
    replace hf := zz_neg ck hf
    by_cases ck : k6 = 3
    · subst ck
      replace hf := zz_pos rfl hf
      refine zl_catch X hN hE (k := 3) [(0, 9, 10, 24), (0, 9, 15, 15)] [] (0, 9, 20, 26) rfl (by decide) (by intro z hz; simp only [List.mem_cons, List.not_mem_nil, or_false] at hz; rcases hz with rfl | rfl <;> first | exact ⟨by decide, 2, by decide, by decide, q_664⟩ | exact ⟨by decide, 0, by decide, by decide, q_483⟩) rfl (by decide) q_665 q_317 hce hcv hcl ?_
      refine lv_astore (i := 5) (lv' := [(5, .ref qq)]) hx hb dL_change_20 (lv_sub hl [] rfl) (by decide) rfl (fun ls hl => ?_)
      refine lv_ldc hx hb hown (zz_w X q_686) dL_change_22 ?_
      cases hf
      exact zl_iret X hR hnn dL_change_24 (Nat.le_of_ble_eq_true rfl) (Nat.le_of_ble_eq_true rfl)
    replace hf := zz_neg ck hf
    cases hf
def rm_L_tie : Room := { frames := 9, cells := 2, slots := 12, locals := 154 }
theorem mf_L_tie : Cond.codeWith yL_tie cL_tie 3 (some .int) [(0, 5, 6, 24), (0, 5, 10, 26)] ∈ zz_G ∧ Cond.initialized yL_tie.cls ∈ zz_G ∧ (yL_tie.cls ≠ "java/lang/invoke/MethodHandle" ∧ yL_tie.cls ≠ "java/lang/invoke/VarHandle" ∧ (parseMethodDescriptor yL_tie.desc).map (fun d => d.parameters.length) = some 2) := ⟨q_728, q_0, by decide +kernel, by decide +kernel, by decide +kernel⟩
set_option maxHeartbeats 4000000 in
set_option maxRecDepth 100000 in
theorem mt_L_tie {D : va_G} {dA : Nat → ClassId} {base t0 : Nat} {l : Launch} (hT : l.stackTraces = false) (x0 : Nat) (x1 : Int32) (h : zz_H) (n : Nat) {r0 : Int32} {hF : zz_H} {nF : Nat} (hf : f_L_tie t0 x0 x1 h n = some (r0, hF, nF)) : zz_ML D dA base t0 l yL_tie cL_tie 3 [(0, 5, 6, 24), (0, 5, 10, 26)] rm_L_tie [.ref x0, .int x1] h n r0 hF nF := by
  refine zz_ofH (cc := cL_tie) (maxL := 3) (ret := some .int) (by decide +kernel) rfl ?_
  intro p e s m args below meth c s₁ B hml hE hv
  obtain ⟨rfl, hP, hK, hN⟩ := hv
  have X : zz_X D dA base t0 "SpringseatLaw" cL_tie 3 (some .int) l p s m meth c := ⟨B.exec, B.bytes, hml, B.returns, findClass_of_methodNamed B.named, B.notSynchronized, hT, by rw [hP.1]; exact hP.2.1, hK⟩
  have hx := X.1
  have hb := X.2.1
  have hown := X.2.2.2.2.1
  have hR : zz_R D dA base h n s s.heap [] := ⟨hP, va_S.rf⟩
  have hl := lv_entry ([.ref x0, .int x1]) (n := 3) (by exact Nat.le_of_ble_eq_true rfl)
  rw [lg_entry_eq]
  generalize (lg_sl ([.ref x0, .int x1]) ++ List.replicate (3 - (lg_sl ([.ref x0, .int x1])).length) Slot.unset).toArray = ls at hl ⊢
  have hl : lv_has ls 3 [(0, .ref x0), (1, .int x1)] := hl
  unfold f_L_tie at hf
  refine lv_aload_n hx hb dL_tie_0 rfl (lv_at hl 0 rfl) ?_
  refine lv_iload_n hx hb dL_tie_1 rfl (lv_at hl 1 rfl) ?_
  obtain ⟨fs2, ho2, hf⟩ := zz_obS_i hf
  rcases zz_th1_i hf with ⟨v2, h2, hv2, hf⟩ | ⟨k2, h2, hv2, hf⟩
  · refine zl_V X hR hl.1 (As := [.int x1]) (rest := []) (C := RX9) (T := TX9) (N := 6) (ro := (fun v : Int32 => some (Value.int v)) v2) (mt_X9_tie hT x0 x1 h n hv2) rfl ho2 mf_X9_tie q_729 q_730 q_731 ⟨Nat.le_of_ble_eq_true rfl, Nat.le_of_ble_eq_true rfl⟩ ⟨Nat.le_of_ble_eq_true rfl, Nat.le_of_ble_eq_true rfl⟩ rfl (Nat.le_of_ble_eq_true rfl) dL_tie_2 (fun H locs hR => ?_)
    refine W.eq (g2 := F0 m 5 ls [.int v2]) rfl ?_
    refine W.widen (k := 2) (n := 12) (Nat.le_of_ble_eq_true rfl) (Nat.le_of_ble_eq_true rfl) ?_
    cases hf
    exact zl_iret X hR (Nat.le_refl _) dL_tie_5 (Nat.le_of_ble_eq_true rfl) (Nat.le_of_ble_eq_true rfl)
  · refine zl_X X hR hl.1 (As := [.int x1]) (rest := []) (C := RX9) (T := TX9) (N := 6) (k := k2) (mt_X9_tie hT x0 x1 h n hv2) rfl ho2 mf_X9_tie q_729 q_730 q_731 ⟨Nat.le_of_ble_eq_true rfl, Nat.le_of_ble_eq_true rfl⟩ ⟨Nat.le_of_ble_eq_true rfl, Nat.le_of_ble_eq_true rfl⟩ rfl (Nat.le_of_ble_eq_true rfl) dL_tie_2 (fun H locs nn ce qq hnn hR hce hcv hcl => ?_)
    by_cases ck : k2 = 2
    · subst ck
      replace hf := zz_pos rfl hf
      refine zl_catch X hN hE (k := 2) [] [(0, 5, 10, 26)] (0, 5, 6, 24) rfl (by decide) (fun z hz => nomatch hz) rfl (by decide) q_664 q_185 hce hcv hcl ?_
      refine lv_astore_n (i := 2) (lv' := [(2, .ref qq)]) hx hb dL_tie_6 rfl (lv_sub hl [] rfl) (by decide) rfl (fun ls hl => ?_)
      refine lv_ldc hx hb hown (zz_w X q_659) dL_tie_7 ?_
      cases hf
      exact zl_iret X hR hnn dL_tie_9 (Nat.le_of_ble_eq_true rfl) (Nat.le_of_ble_eq_true rfl)
    replace hf := zz_neg ck hf
    by_cases ck : k2 = 3
    · subst ck
      replace hf := zz_pos rfl hf
      refine zl_catch X hN hE (k := 3) [(0, 5, 6, 24)] [] (0, 5, 10, 26) rfl (by decide) (by intro z hz; simp only [List.mem_cons, List.not_mem_nil, or_false] at hz; rcases hz with rfl <;> first | exact ⟨by decide, 2, by decide, by decide, q_664⟩) rfl (by decide) q_665 q_317 hce hcv hcl ?_
      refine lv_astore_n (i := 2) (lv' := [(2, .ref qq)]) hx hb dL_tie_10 rfl (lv_sub hl [] rfl) (by decide) rfl (fun ls hl => ?_)
      refine lv_ldc hx hb hown (zz_w X q_660) dL_tie_11 ?_
      cases hf
      exact zl_iret X hR hnn dL_tie_13 (Nat.le_of_ble_eq_true rfl) (Nat.le_of_ble_eq_true rfl)
    replace hf := zz_neg ck hf
    cases hf
def rm_L_pull : Room := { frames := 9, cells := 4, slots := 24, locals := 158 }
theorem mf_L_pull : Cond.codeWith yL_pull cL_pull 6 (some .int) [(0, 9, 10, 24), (0, 9, 15, 15), (0, 9, 20, 26)] ∈ zz_G ∧ Cond.initialized yL_pull.cls ∈ zz_G ∧ (yL_pull.cls ≠ "java/lang/invoke/MethodHandle" ∧ yL_pull.cls ≠ "java/lang/invoke/VarHandle" ∧ (parseMethodDescriptor yL_pull.desc).map (fun d => d.parameters.length) = some 5) := ⟨q_735, q_0, by decide +kernel, by decide +kernel, by decide +kernel⟩
set_option maxHeartbeats 4000000 in
set_option maxRecDepth 100000 in
theorem mt_L_pull {D : va_G} {dA : Nat → ClassId} {base t0 : Nat} {l : Launch} (hT : l.stackTraces = false) (x0 : Nat) (x1 : Int32) (x2 : Int32) (x3 : Int32) (x4 : Int32) (h : zz_H) (n : Nat) {r0 : Int32} {hF : zz_H} {nF : Nat} (hf : f_L_pull t0 x0 x1 x2 x3 x4 h n = some (r0, hF, nF)) : zz_ML D dA base t0 l yL_pull cL_pull 6 [(0, 9, 10, 24), (0, 9, 15, 15), (0, 9, 20, 26)] rm_L_pull [.ref x0, .int x1, .int x2, .int x3, .int x4] h n r0 hF nF := by
  refine zz_ofH (cc := cL_pull) (maxL := 6) (ret := some .int) (by decide +kernel) rfl ?_
  intro p e s m args below meth c s₁ B hml hE hv
  obtain ⟨rfl, hP, hK, hN⟩ := hv
  have X : zz_X D dA base t0 "SpringseatLaw" cL_pull 6 (some .int) l p s m meth c := ⟨B.exec, B.bytes, hml, B.returns, findClass_of_methodNamed B.named, B.notSynchronized, hT, by rw [hP.1]; exact hP.2.1, hK⟩
  have hx := X.1
  have hb := X.2.1
  have hown := X.2.2.2.2.1
  have hR : zz_R D dA base h n s s.heap [] := ⟨hP, va_S.rf⟩
  have hl := lv_entry ([.ref x0, .int x1, .int x2, .int x3, .int x4]) (n := 6) (by exact Nat.le_of_ble_eq_true rfl)
  rw [lg_entry_eq]
  generalize (lg_sl ([.ref x0, .int x1, .int x2, .int x3, .int x4]) ++ List.replicate (6 - (lg_sl ([.ref x0, .int x1, .int x2, .int x3, .int x4])).length) Slot.unset).toArray = ls at hl ⊢
  have hl : lv_has ls 6 [(0, .ref x0), (1, .int x1), (2, .int x2), (3, .int x3), (4, .int x4)] := hl
  unfold f_L_pull at hf
  refine lv_aload_n hx hb dL_pull_0 rfl (lv_at hl 0 rfl) ?_
  refine lv_iload_n hx hb dL_pull_1 rfl (lv_at hl 1 rfl) ?_
  refine lv_iload_n hx hb dL_pull_2 rfl (lv_at hl 2 rfl) ?_
  refine lv_iload_n hx hb dL_pull_3 rfl (lv_at hl 3 rfl) ?_
  refine lv_iload hx hb dL_pull_4 (lv_at hl 4 rfl) ?_
  obtain ⟨fs6, ho6, hf⟩ := zz_obS_i hf
  rcases zz_th1_i hf with ⟨v6, h6, hv6, hf⟩ | ⟨k6, h6, hv6, hf⟩
  · refine zl_V X hR hl.1 (As := [.int x1, .int x2, .int x3, .int x4]) (rest := []) (C := RX9) (T := TX9) (N := 6) (ro := (fun v : Int32 => some (Value.int v)) v6) (mt_X9_pull hT x0 x1 x2 x3 x4 h n hv6) rfl ho6 mf_X9_pull q_736 q_737 q_738 ⟨Nat.le_of_ble_eq_true rfl, Nat.le_of_ble_eq_true rfl⟩ ⟨Nat.le_of_ble_eq_true rfl, Nat.le_of_ble_eq_true rfl⟩ rfl (Nat.le_of_ble_eq_true rfl) dL_pull_6 (fun H locs hR => ?_)
    refine W.eq (g2 := F0 m 9 ls [.int v6]) rfl ?_
    refine W.widen (k := 4) (n := 24) (Nat.le_of_ble_eq_true rfl) (Nat.le_of_ble_eq_true rfl) ?_
    cases hf
    exact zl_iret X hR (Nat.le_refl _) dL_pull_9 (Nat.le_of_ble_eq_true rfl) (Nat.le_of_ble_eq_true rfl)
  · refine zl_X X hR hl.1 (As := [.int x1, .int x2, .int x3, .int x4]) (rest := []) (C := RX9) (T := TX9) (N := 6) (k := k6) (mt_X9_pull hT x0 x1 x2 x3 x4 h n hv6) rfl ho6 mf_X9_pull q_736 q_737 q_738 ⟨Nat.le_of_ble_eq_true rfl, Nat.le_of_ble_eq_true rfl⟩ ⟨Nat.le_of_ble_eq_true rfl, Nat.le_of_ble_eq_true rfl⟩ rfl (Nat.le_of_ble_eq_true rfl) dL_pull_6 (fun H locs nn ce qq hnn hR hce hcv hcl => ?_)
    by_cases ck : k6 = 2
    · subst ck
      replace hf := zz_pos rfl hf
      refine zl_catch X hN hE (k := 2) [] [(0, 9, 15, 15), (0, 9, 20, 26)] (0, 9, 10, 24) rfl (by decide) (fun z hz => nomatch hz) rfl (by decide) q_664 q_185 hce hcv hcl ?_
      refine lv_astore (i := 5) (lv' := [(5, .ref qq)]) hx hb dL_pull_10 (lv_sub hl [] rfl) (by decide) rfl (fun ls hl => ?_)
      refine lv_ldc hx hb hown (zz_w X q_659) dL_pull_12 ?_
      cases hf
      exact zl_iret X hR hnn dL_pull_14 (Nat.le_of_ble_eq_true rfl) (Nat.le_of_ble_eq_true rfl)
    replace hf := zz_neg ck hf
    by_cases ck : k6 = 0
    · subst ck
      replace hf := zz_pos rfl hf
      refine zl_catch X hN hE (k := 0) [(0, 9, 10, 24)] [(0, 9, 20, 26)] (0, 9, 15, 15) rfl (by decide) (by intro z hz; simp only [List.mem_cons, List.not_mem_nil, or_false] at hz; rcases hz with rfl <;> first | exact ⟨by decide, 2, by decide, by decide, q_664⟩) rfl (by decide) q_483 q_494 hce hcv hcl ?_
      refine lv_astore (i := 5) (lv' := [(5, .ref qq)]) hx hb dL_pull_15 (lv_sub hl [] rfl) (by decide) rfl (fun ls hl => ?_)
      refine lv_ldc hx hb hown (zz_w X q_660) dL_pull_17 ?_
      cases hf
      exact zl_iret X hR hnn dL_pull_19 (Nat.le_of_ble_eq_true rfl) (Nat.le_of_ble_eq_true rfl)
    replace hf := zz_neg ck hf
    by_cases ck : k6 = 3
    · subst ck
      replace hf := zz_pos rfl hf
      refine zl_catch X hN hE (k := 3) [(0, 9, 10, 24), (0, 9, 15, 15)] [] (0, 9, 20, 26) rfl (by decide) (by intro z hz; simp only [List.mem_cons, List.not_mem_nil, or_false] at hz; rcases hz with rfl | rfl <;> first | exact ⟨by decide, 2, by decide, by decide, q_664⟩ | exact ⟨by decide, 0, by decide, by decide, q_483⟩) rfl (by decide) q_665 q_317 hce hcv hcl ?_
      refine lv_astore (i := 5) (lv' := [(5, .ref qq)]) hx hb dL_pull_20 (lv_sub hl [] rfl) (by decide) rfl (fun ls hl => ?_)
      refine lv_ldc hx hb hown (zz_w X q_686) dL_pull_22 ?_
      cases hf
      exact zl_iret X hR hnn dL_pull_24 (Nat.le_of_ble_eq_true rfl) (Nat.le_of_ble_eq_true rfl)
    replace hf := zz_neg ck hf
    cases hf
def rm_L_layer : Room := { frames := 9, cells := 7, slots := 46, locals := 157 }
theorem mf_L_layer : Cond.codeWith yL_layer cL_layer 6 (some .int) [(0, 9, 10, 24), (0, 9, 15, 15), (0, 9, 20, 26)] ∈ zz_G ∧ Cond.initialized yL_layer.cls ∈ zz_G ∧ (yL_layer.cls ≠ "java/lang/invoke/MethodHandle" ∧ yL_layer.cls ≠ "java/lang/invoke/VarHandle" ∧ (parseMethodDescriptor yL_layer.desc).map (fun d => d.parameters.length) = some 5) := ⟨q_751, q_0, by decide +kernel, by decide +kernel, by decide +kernel⟩
set_option maxHeartbeats 4000000 in
set_option maxRecDepth 100000 in
theorem mt_L_layer {D : va_G} {dA : Nat → ClassId} {base t0 : Nat} {l : Launch} (hT : l.stackTraces = false) (x0 : Nat) (x1 : Int32) (x2 : Int32) (x3 : Int32) (x4 : Int32) (h : zz_H) (n : Nat) {r0 : Int32} {hF : zz_H} {nF : Nat} (hf : f_L_layer t0 x0 x1 x2 x3 x4 h n = some (r0, hF, nF)) : zz_ML D dA base t0 l yL_layer cL_layer 6 [(0, 9, 10, 24), (0, 9, 15, 15), (0, 9, 20, 26)] rm_L_layer [.ref x0, .int x1, .int x2, .int x3, .int x4] h n r0 hF nF := by
  refine zz_ofH (cc := cL_layer) (maxL := 6) (ret := some .int) (by decide +kernel) rfl ?_
  intro p e s m args below meth c s₁ B hml hE hv
  obtain ⟨rfl, hP, hK, hN⟩ := hv
  have X : zz_X D dA base t0 "SpringseatLaw" cL_layer 6 (some .int) l p s m meth c := ⟨B.exec, B.bytes, hml, B.returns, findClass_of_methodNamed B.named, B.notSynchronized, hT, by rw [hP.1]; exact hP.2.1, hK⟩
  have hx := X.1
  have hb := X.2.1
  have hown := X.2.2.2.2.1
  have hR : zz_R D dA base h n s s.heap [] := ⟨hP, va_S.rf⟩
  have hl := lv_entry ([.ref x0, .int x1, .int x2, .int x3, .int x4]) (n := 6) (by exact Nat.le_of_ble_eq_true rfl)
  rw [lg_entry_eq]
  generalize (lg_sl ([.ref x0, .int x1, .int x2, .int x3, .int x4]) ++ List.replicate (6 - (lg_sl ([.ref x0, .int x1, .int x2, .int x3, .int x4])).length) Slot.unset).toArray = ls at hl ⊢
  have hl : lv_has ls 6 [(0, .ref x0), (1, .int x1), (2, .int x2), (3, .int x3), (4, .int x4)] := hl
  unfold f_L_layer at hf
  refine lv_aload_n hx hb dL_layer_0 rfl (lv_at hl 0 rfl) ?_
  refine lv_iload_n hx hb dL_layer_1 rfl (lv_at hl 1 rfl) ?_
  refine lv_iload_n hx hb dL_layer_2 rfl (lv_at hl 2 rfl) ?_
  refine lv_iload_n hx hb dL_layer_3 rfl (lv_at hl 3 rfl) ?_
  refine lv_iload hx hb dL_layer_4 (lv_at hl 4 rfl) ?_
  obtain ⟨fs6, ho6, hf⟩ := zz_obS_i hf
  rcases zz_th2_i hf with ⟨v6, h6, n6, hv6, hf⟩ | ⟨k6, h6, n6, hv6, hf⟩
  · refine zl_V X hR hl.1 (As := [.int x1, .int x2, .int x3, .int x4]) (rest := []) (C := RX9) (T := TX9) (N := 6) (ro := (fun v : Int32 => some (Value.int v)) v6) (mt_X9_layer hT x0 x1 x2 x3 x4 h n hv6) rfl ho6 mf_X9_layer q_752 q_753 q_754 ⟨Nat.le_of_ble_eq_true rfl, Nat.le_of_ble_eq_true rfl⟩ ⟨Nat.le_of_ble_eq_true rfl, Nat.le_of_ble_eq_true rfl⟩ rfl (Nat.le_of_ble_eq_true rfl) dL_layer_6 (fun H locs hR => ?_)
    refine W.eq (g2 := F0 m 9 ls [.int v6]) rfl ?_
    refine W.widen (k := 7) (n := 46) (Nat.le_of_ble_eq_true rfl) (Nat.le_of_ble_eq_true rfl) ?_
    cases hf
    exact zl_iret X hR (Nat.le_refl _) dL_layer_9 (Nat.le_of_ble_eq_true rfl) (Nat.le_of_ble_eq_true rfl)
  · refine zl_X X hR hl.1 (As := [.int x1, .int x2, .int x3, .int x4]) (rest := []) (C := RX9) (T := TX9) (N := 6) (k := k6) (mt_X9_layer hT x0 x1 x2 x3 x4 h n hv6) rfl ho6 mf_X9_layer q_752 q_753 q_754 ⟨Nat.le_of_ble_eq_true rfl, Nat.le_of_ble_eq_true rfl⟩ ⟨Nat.le_of_ble_eq_true rfl, Nat.le_of_ble_eq_true rfl⟩ rfl (Nat.le_of_ble_eq_true rfl) dL_layer_6 (fun H locs nn ce qq hnn hR hce hcv hcl => ?_)
    by_cases ck : k6 = 2
    · subst ck
      replace hf := zz_pos rfl hf
      refine zl_catch X hN hE (k := 2) [] [(0, 9, 15, 15), (0, 9, 20, 26)] (0, 9, 10, 24) rfl (by decide) (fun z hz => nomatch hz) rfl (by decide) q_664 q_185 hce hcv hcl ?_
      refine lv_astore (i := 5) (lv' := [(5, .ref qq)]) hx hb dL_layer_10 (lv_sub hl [] rfl) (by decide) rfl (fun ls hl => ?_)
      refine lv_ldc hx hb hown (zz_w X q_659) dL_layer_12 ?_
      cases hf
      exact zl_iret X hR hnn dL_layer_14 (Nat.le_of_ble_eq_true rfl) (Nat.le_of_ble_eq_true rfl)
    replace hf := zz_neg ck hf
    by_cases ck : k6 = 0
    · subst ck
      replace hf := zz_pos rfl hf
      refine zl_catch X hN hE (k := 0) [(0, 9, 10, 24)] [(0, 9, 20, 26)] (0, 9, 15, 15) rfl (by decide) (by intro z hz; simp only [List.mem_cons, List.not_mem_nil, or_false] at hz; rcases hz with rfl <;> first | exact ⟨by decide, 2, by decide, by decide, q_664⟩) rfl (by decide) q_483 q_494 hce hcv hcl ?_
      refine lv_astore (i := 5) (lv' := [(5, .ref qq)]) hx hb dL_layer_15 (lv_sub hl [] rfl) (by decide) rfl (fun ls hl => ?_)
      refine lv_ldc hx hb hown (zz_w X q_660) dL_layer_17 ?_
      cases hf
      exact zl_iret X hR hnn dL_layer_19 (Nat.le_of_ble_eq_true rfl) (Nat.le_of_ble_eq_true rfl)
    replace hf := zz_neg ck hf
    by_cases ck : k6 = 3
    · subst ck
      replace hf := zz_pos rfl hf
      refine zl_catch X hN hE (k := 3) [(0, 9, 10, 24), (0, 9, 15, 15)] [] (0, 9, 20, 26) rfl (by decide) (by intro z hz; simp only [List.mem_cons, List.not_mem_nil, or_false] at hz; rcases hz with rfl | rfl <;> first | exact ⟨by decide, 2, by decide, by decide, q_664⟩ | exact ⟨by decide, 0, by decide, by decide, q_483⟩) rfl (by decide) q_665 q_317 hce hcv hcl ?_
      refine lv_astore (i := 5) (lv' := [(5, .ref qq)]) hx hb dL_layer_20 (lv_sub hl [] rfl) (by decide) rfl (fun ls hl => ?_)
      refine lv_ldc hx hb hown (zz_w X q_686) dL_layer_22 ?_
      cases hf
      exact zl_iret X hR hnn dL_layer_24 (Nat.le_of_ble_eq_true rfl) (Nat.le_of_ble_eq_true rfl)
    replace hf := zz_neg ck hf
    cases hf
def rm_L_buttons : Room := { frames := 9, cells := 2, slots := 12, locals := 154 }
theorem mf_L_buttons : Cond.codeWith yL_buttons cL_buttons 3 (some .int) [(0, 5, 6, 24), (0, 5, 10, 26)] ∈ zz_G ∧ Cond.initialized yL_buttons.cls ∈ zz_G ∧ (yL_buttons.cls ≠ "java/lang/invoke/MethodHandle" ∧ yL_buttons.cls ≠ "java/lang/invoke/VarHandle" ∧ (parseMethodDescriptor yL_buttons.desc).map (fun d => d.parameters.length) = some 2) := ⟨q_793, q_0, by decide +kernel, by decide +kernel, by decide +kernel⟩
set_option maxHeartbeats 4000000 in
set_option maxRecDepth 100000 in
theorem mt_L_buttons {D : va_G} {dA : Nat → ClassId} {base t0 : Nat} {l : Launch} (hT : l.stackTraces = false) (x0 : Nat) (x1 : Int32) (h : zz_H) (n : Nat) {r0 : Int32} {hF : zz_H} {nF : Nat} (hf : f_L_buttons t0 x0 x1 h n = some (r0, hF, nF)) : zz_ML D dA base t0 l yL_buttons cL_buttons 3 [(0, 5, 6, 24), (0, 5, 10, 26)] rm_L_buttons [.ref x0, .int x1] h n r0 hF nF := by
  refine zz_ofH (cc := cL_buttons) (maxL := 3) (ret := some .int) (by decide +kernel) rfl ?_
  intro p e s m args below meth c s₁ B hml hE hv
  obtain ⟨rfl, hP, hK, hN⟩ := hv
  have X : zz_X D dA base t0 "SpringseatLaw" cL_buttons 3 (some .int) l p s m meth c := ⟨B.exec, B.bytes, hml, B.returns, findClass_of_methodNamed B.named, B.notSynchronized, hT, by rw [hP.1]; exact hP.2.1, hK⟩
  have hx := X.1
  have hb := X.2.1
  have hown := X.2.2.2.2.1
  have hR : zz_R D dA base h n s s.heap [] := ⟨hP, va_S.rf⟩
  have hl := lv_entry ([.ref x0, .int x1]) (n := 3) (by exact Nat.le_of_ble_eq_true rfl)
  rw [lg_entry_eq]
  generalize (lg_sl ([.ref x0, .int x1]) ++ List.replicate (3 - (lg_sl ([.ref x0, .int x1])).length) Slot.unset).toArray = ls at hl ⊢
  have hl : lv_has ls 3 [(0, .ref x0), (1, .int x1)] := hl
  unfold f_L_buttons at hf
  refine lv_aload_n hx hb dL_buttons_0 rfl (lv_at hl 0 rfl) ?_
  refine lv_iload_n hx hb dL_buttons_1 rfl (lv_at hl 1 rfl) ?_
  obtain ⟨fs2, ho2, hf⟩ := zz_obS_i hf
  rcases zz_th1_i hf with ⟨v2, h2, hv2, hf⟩ | ⟨k2, h2, hv2, hf⟩
  · refine zl_V X hR hl.1 (As := [.int x1]) (rest := []) (C := RX9) (T := TX9) (N := 6) (ro := (fun v : Int32 => some (Value.int v)) v2) (mt_X9_buttons hT x0 x1 h n hv2) rfl ho2 mf_X9_buttons q_794 q_795 q_796 ⟨Nat.le_of_ble_eq_true rfl, Nat.le_of_ble_eq_true rfl⟩ ⟨Nat.le_of_ble_eq_true rfl, Nat.le_of_ble_eq_true rfl⟩ rfl (Nat.le_of_ble_eq_true rfl) dL_buttons_2 (fun H locs hR => ?_)
    refine W.eq (g2 := F0 m 5 ls [.int v2]) rfl ?_
    refine W.widen (k := 2) (n := 12) (Nat.le_of_ble_eq_true rfl) (Nat.le_of_ble_eq_true rfl) ?_
    cases hf
    exact zl_iret X hR (Nat.le_refl _) dL_buttons_5 (Nat.le_of_ble_eq_true rfl) (Nat.le_of_ble_eq_true rfl)
  · refine zl_X X hR hl.1 (As := [.int x1]) (rest := []) (C := RX9) (T := TX9) (N := 6) (k := k2) (mt_X9_buttons hT x0 x1 h n hv2) rfl ho2 mf_X9_buttons q_794 q_795 q_796 ⟨Nat.le_of_ble_eq_true rfl, Nat.le_of_ble_eq_true rfl⟩ ⟨Nat.le_of_ble_eq_true rfl, Nat.le_of_ble_eq_true rfl⟩ rfl (Nat.le_of_ble_eq_true rfl) dL_buttons_2 (fun H locs nn ce qq hnn hR hce hcv hcl => ?_)
    by_cases ck : k2 = 2
    · subst ck
      replace hf := zz_pos rfl hf
      refine zl_catch X hN hE (k := 2) [] [(0, 5, 10, 26)] (0, 5, 6, 24) rfl (by decide) (fun z hz => nomatch hz) rfl (by decide) q_664 q_185 hce hcv hcl ?_
      refine lv_astore_n (i := 2) (lv' := [(2, .ref qq)]) hx hb dL_buttons_6 rfl (lv_sub hl [] rfl) (by decide) rfl (fun ls hl => ?_)
      refine lv_ldc hx hb hown (zz_w X q_659) dL_buttons_7 ?_
      cases hf
      exact zl_iret X hR hnn dL_buttons_9 (Nat.le_of_ble_eq_true rfl) (Nat.le_of_ble_eq_true rfl)
    replace hf := zz_neg ck hf
    by_cases ck : k2 = 3
    · subst ck
      replace hf := zz_pos rfl hf
      refine zl_catch X hN hE (k := 3) [(0, 5, 6, 24)] [] (0, 5, 10, 26) rfl (by decide) (by intro z hz; simp only [List.mem_cons, List.not_mem_nil, or_false] at hz; rcases hz with rfl <;> first | exact ⟨by decide, 2, by decide, by decide, q_664⟩) rfl (by decide) q_665 q_317 hce hcv hcl ?_
      refine lv_astore_n (i := 2) (lv' := [(2, .ref qq)]) hx hb dL_buttons_10 rfl (lv_sub hl [] rfl) (by decide) rfl (fun ls hl => ?_)
      refine lv_ldc hx hb hown (zz_w X q_660) dL_buttons_11 ?_
      cases hf
      exact zl_iret X hR hnn dL_buttons_13 (Nat.le_of_ble_eq_true rfl) (Nat.le_of_ble_eq_true rfl)
    replace hf := zz_neg ck hf
    cases hf
def rm_L_draw : Room := { frames := 10, cells := 6, slots := 36, locals := 178 }
theorem mf_L_draw : Cond.codeWith yL_draw cL_draw 5 (some .int) [(0, 7, 8, 24), (0, 7, 13, 15), (0, 7, 18, 26), (0, 7, 23, 18)] ∈ zz_G ∧ Cond.initialized yL_draw.cls ∈ zz_G ∧ (yL_draw.cls ≠ "java/lang/invoke/MethodHandle" ∧ yL_draw.cls ≠ "java/lang/invoke/VarHandle" ∧ (parseMethodDescriptor yL_draw.desc).map (fun d => d.parameters.length) = some 4) := ⟨q_800, q_0, by decide +kernel, by decide +kernel, by decide +kernel⟩
set_option maxHeartbeats 4000000 in
set_option maxRecDepth 100000 in
theorem mt_L_draw {D : va_G} {dA : Nat → ClassId} {base t0 : Nat} {l : Launch} (hT : l.stackTraces = false) (x0 : Nat) (x1 : Int32) (x2 : Int32) (x3 : Int32) (h : zz_H) (n : Nat) {r0 : Int32} {hF : zz_H} {nF : Nat} (hf : f_L_draw t0 x0 x1 x2 x3 h n = some (r0, hF, nF)) : zz_ML D dA base t0 l yL_draw cL_draw 5 [(0, 7, 8, 24), (0, 7, 13, 15), (0, 7, 18, 26), (0, 7, 23, 18)] rm_L_draw [.ref x0, .int x1, .int x2, .int x3] h n r0 hF nF := by
  refine zz_ofH (cc := cL_draw) (maxL := 5) (ret := some .int) (by decide +kernel) rfl ?_
  intro p e s m args below meth c s₁ B hml hE hv
  obtain ⟨rfl, hP, hK, hN⟩ := hv
  have X : zz_X D dA base t0 "SpringseatLaw" cL_draw 5 (some .int) l p s m meth c := ⟨B.exec, B.bytes, hml, B.returns, findClass_of_methodNamed B.named, B.notSynchronized, hT, by rw [hP.1]; exact hP.2.1, hK⟩
  have hx := X.1
  have hb := X.2.1
  have hown := X.2.2.2.2.1
  have hR : zz_R D dA base h n s s.heap [] := ⟨hP, va_S.rf⟩
  have hl := lv_entry ([.ref x0, .int x1, .int x2, .int x3]) (n := 5) (by exact Nat.le_of_ble_eq_true rfl)
  rw [lg_entry_eq]
  generalize (lg_sl ([.ref x0, .int x1, .int x2, .int x3]) ++ List.replicate (5 - (lg_sl ([.ref x0, .int x1, .int x2, .int x3])).length) Slot.unset).toArray = ls at hl ⊢
  have hl : lv_has ls 5 [(0, .ref x0), (1, .int x1), (2, .int x2), (3, .int x3)] := hl
  unfold f_L_draw at hf
  refine lv_aload_n hx hb dL_draw_0 rfl (lv_at hl 0 rfl) ?_
  refine lv_iload_n hx hb dL_draw_1 rfl (lv_at hl 1 rfl) ?_
  refine lv_iload_n hx hb dL_draw_2 rfl (lv_at hl 2 rfl) ?_
  refine lv_iload_n hx hb dL_draw_3 rfl (lv_at hl 3 rfl) ?_
  obtain ⟨fs4, ho4, hf⟩ := zz_obS_i hf
  rcases zz_th1_i hf with ⟨v4, h4, hv4, hf⟩ | ⟨k4, h4, hv4, hf⟩
  · refine zl_V X hR hl.1 (As := [.int x1, .int x2, .int x3]) (rest := []) (C := RX9) (T := TX9) (N := 6) (ro := (fun v : Int32 => some (Value.int v)) v4) (mt_X9_draw hT x0 x1 x2 x3 h n hv4) rfl ho4 mf_X9_draw q_801 q_802 q_803 ⟨Nat.le_of_ble_eq_true rfl, Nat.le_of_ble_eq_true rfl⟩ ⟨Nat.le_of_ble_eq_true rfl, Nat.le_of_ble_eq_true rfl⟩ rfl (Nat.le_of_ble_eq_true rfl) dL_draw_4 (fun H locs hR => ?_)
    refine W.eq (g2 := F0 m 7 ls [.int v4]) rfl ?_
    refine W.widen (k := 6) (n := 36) (Nat.le_of_ble_eq_true rfl) (Nat.le_of_ble_eq_true rfl) ?_
    cases hf
    exact zl_iret X hR (Nat.le_refl _) dL_draw_7 (Nat.le_of_ble_eq_true rfl) (Nat.le_of_ble_eq_true rfl)
  · refine zl_X X hR hl.1 (As := [.int x1, .int x2, .int x3]) (rest := []) (C := RX9) (T := TX9) (N := 6) (k := k4) (mt_X9_draw hT x0 x1 x2 x3 h n hv4) rfl ho4 mf_X9_draw q_801 q_802 q_803 ⟨Nat.le_of_ble_eq_true rfl, Nat.le_of_ble_eq_true rfl⟩ ⟨Nat.le_of_ble_eq_true rfl, Nat.le_of_ble_eq_true rfl⟩ rfl (Nat.le_of_ble_eq_true rfl) dL_draw_4 (fun H locs nn ce qq hnn hR hce hcv hcl => ?_)
    by_cases ck : k4 = 2
    · subst ck
      replace hf := zz_pos rfl hf
      refine zl_catch X hN hE (k := 2) [] [(0, 7, 13, 15), (0, 7, 18, 26), (0, 7, 23, 18)] (0, 7, 8, 24) rfl (by decide) (fun z hz => nomatch hz) rfl (by decide) q_664 q_185 hce hcv hcl ?_
      refine lv_astore (i := 4) (lv' := [(4, .ref qq)]) hx hb dL_draw_8 (lv_sub hl [] rfl) (by decide) rfl (fun ls hl => ?_)
      refine lv_ldc hx hb hown (zz_w X q_659) dL_draw_10 ?_
      cases hf
      exact zl_iret X hR hnn dL_draw_12 (Nat.le_of_ble_eq_true rfl) (Nat.le_of_ble_eq_true rfl)
    replace hf := zz_neg ck hf
    by_cases ck : k4 = 0
    · subst ck
      replace hf := zz_pos rfl hf
      refine zl_catch X hN hE (k := 0) [(0, 7, 8, 24)] [(0, 7, 18, 26), (0, 7, 23, 18)] (0, 7, 13, 15) rfl (by decide) (by intro z hz; simp only [List.mem_cons, List.not_mem_nil, or_false] at hz; rcases hz with rfl <;> first | exact ⟨by decide, 2, by decide, by decide, q_664⟩) rfl (by decide) q_483 q_494 hce hcv hcl ?_
      refine lv_astore (i := 4) (lv' := [(4, .ref qq)]) hx hb dL_draw_13 (lv_sub hl [] rfl) (by decide) rfl (fun ls hl => ?_)
      refine lv_ldc hx hb hown (zz_w X q_660) dL_draw_15 ?_
      cases hf
      exact zl_iret X hR hnn dL_draw_17 (Nat.le_of_ble_eq_true rfl) (Nat.le_of_ble_eq_true rfl)
    replace hf := zz_neg ck hf
    by_cases ck : k4 = 3
    · subst ck
      replace hf := zz_pos rfl hf
      refine zl_catch X hN hE (k := 3) [(0, 7, 8, 24), (0, 7, 13, 15)] [(0, 7, 23, 18)] (0, 7, 18, 26) rfl (by decide) (by intro z hz; simp only [List.mem_cons, List.not_mem_nil, or_false] at hz; rcases hz with rfl | rfl <;> first | exact ⟨by decide, 2, by decide, by decide, q_664⟩ | exact ⟨by decide, 0, by decide, by decide, q_483⟩) rfl (by decide) q_665 q_317 hce hcv hcl ?_
      refine lv_astore (i := 4) (lv' := [(4, .ref qq)]) hx hb dL_draw_18 (lv_sub hl [] rfl) (by decide) rfl (fun ls hl => ?_)
      refine lv_ldc hx hb hown (zz_w X q_686) dL_draw_20 ?_
      cases hf
      exact zl_iret X hR hnn dL_draw_22 (Nat.le_of_ble_eq_true rfl) (Nat.le_of_ble_eq_true rfl)
    replace hf := zz_neg ck hf
    by_cases ck : k4 = 1
    · subst ck
      replace hf := zz_pos rfl hf
      refine zl_catch X hN hE (k := 1) [(0, 7, 8, 24), (0, 7, 13, 15), (0, 7, 18, 26)] [] (0, 7, 23, 18) rfl (by decide) (by intro z hz; simp only [List.mem_cons, List.not_mem_nil, or_false] at hz; rcases hz with rfl | rfl | rfl <;> first | exact ⟨by decide, 2, by decide, by decide, q_664⟩ | exact ⟨by decide, 0, by decide, by decide, q_483⟩ | exact ⟨by decide, 3, by decide, by decide, q_665⟩) rfl (by decide) q_484 q_513 hce hcv hcl ?_
      refine lv_astore (i := 4) (lv' := [(4, .ref qq)]) hx hb dL_draw_23 (lv_sub hl [] rfl) (by decide) rfl (fun ls hl => ?_)
      refine lv_ldc hx hb hown (zz_w X q_810) dL_draw_25 ?_
      cases hf
      exact zl_iret X hR hnn dL_draw_27 (Nat.le_of_ble_eq_true rfl) (Nat.le_of_ble_eq_true rfl)
    replace hf := zz_neg ck hf
    cases hf
def rm_L_cover : Room := { frames := 9, cells := 5, slots := 30, locals := 177 }
theorem mf_L_cover : Cond.codeWith yL_cover cL_cover 5 (some .int) [(0, 7, 8, 24), (0, 7, 13, 15), (0, 7, 18, 26), (0, 7, 23, 59)] ∈ zz_G ∧ Cond.initialized yL_cover.cls ∈ zz_G ∧ (yL_cover.cls ≠ "java/lang/invoke/MethodHandle" ∧ yL_cover.cls ≠ "java/lang/invoke/VarHandle" ∧ (parseMethodDescriptor yL_cover.desc).map (fun d => d.parameters.length) = some 4) := ⟨q_813, q_0, by decide +kernel, by decide +kernel, by decide +kernel⟩
set_option maxHeartbeats 4000000 in
set_option maxRecDepth 100000 in
theorem mt_L_cover {D : va_G} {dA : Nat → ClassId} {base t0 : Nat} {l : Launch} (hT : l.stackTraces = false) (x0 : Nat) (x1 : Int32) (x2 : Int32) (x3 : Int32) (h : zz_H) (n : Nat) {r0 : Int32} {hF : zz_H} {nF : Nat} (hf : f_L_cover t0 x0 x1 x2 x3 h n = some (r0, hF, nF)) : zz_ML D dA base t0 l yL_cover cL_cover 5 [(0, 7, 8, 24), (0, 7, 13, 15), (0, 7, 18, 26), (0, 7, 23, 59)] rm_L_cover [.ref x0, .int x1, .int x2, .int x3] h n r0 hF nF := by
  refine zz_ofH (cc := cL_cover) (maxL := 5) (ret := some .int) (by decide +kernel) rfl ?_
  intro p e s m args below meth c s₁ B hml hE hv
  obtain ⟨rfl, hP, hK, hN⟩ := hv
  have X : zz_X D dA base t0 "SpringseatLaw" cL_cover 5 (some .int) l p s m meth c := ⟨B.exec, B.bytes, hml, B.returns, findClass_of_methodNamed B.named, B.notSynchronized, hT, by rw [hP.1]; exact hP.2.1, hK⟩
  have hx := X.1
  have hb := X.2.1
  have hown := X.2.2.2.2.1
  have hR : zz_R D dA base h n s s.heap [] := ⟨hP, va_S.rf⟩
  have hl := lv_entry ([.ref x0, .int x1, .int x2, .int x3]) (n := 5) (by exact Nat.le_of_ble_eq_true rfl)
  rw [lg_entry_eq]
  generalize (lg_sl ([.ref x0, .int x1, .int x2, .int x3]) ++ List.replicate (5 - (lg_sl ([.ref x0, .int x1, .int x2, .int x3])).length) Slot.unset).toArray = ls at hl ⊢
  have hl : lv_has ls 5 [(0, .ref x0), (1, .int x1), (2, .int x2), (3, .int x3)] := hl
  unfold f_L_cover at hf
  refine lv_aload_n hx hb dL_cover_0 rfl (lv_at hl 0 rfl) ?_
  refine lv_iload_n hx hb dL_cover_1 rfl (lv_at hl 1 rfl) ?_
  refine lv_iload_n hx hb dL_cover_2 rfl (lv_at hl 2 rfl) ?_
  refine lv_iload_n hx hb dL_cover_3 rfl (lv_at hl 3 rfl) ?_
  obtain ⟨fs4, ho4, hf⟩ := zz_obS_i hf
  rcases zz_th1_i hf with ⟨v4, h4, hv4, hf⟩ | ⟨k4, h4, hv4, hf⟩
  · refine zl_V X hR hl.1 (As := [.int x1, .int x2, .int x3]) (rest := []) (C := RX9) (T := TX9) (N := 6) (ro := (fun v : Int32 => some (Value.int v)) v4) (mt_X9_cover hT x0 x1 x2 x3 h n hv4) rfl ho4 mf_X9_cover q_815 q_816 q_817 ⟨Nat.le_of_ble_eq_true rfl, Nat.le_of_ble_eq_true rfl⟩ ⟨Nat.le_of_ble_eq_true rfl, Nat.le_of_ble_eq_true rfl⟩ rfl (Nat.le_of_ble_eq_true rfl) dL_cover_4 (fun H locs hR => ?_)
    refine W.eq (g2 := F0 m 7 ls [.int v4]) rfl ?_
    refine W.widen (k := 5) (n := 30) (Nat.le_of_ble_eq_true rfl) (Nat.le_of_ble_eq_true rfl) ?_
    cases hf
    exact zl_iret X hR (Nat.le_refl _) dL_cover_7 (Nat.le_of_ble_eq_true rfl) (Nat.le_of_ble_eq_true rfl)
  · refine zl_X X hR hl.1 (As := [.int x1, .int x2, .int x3]) (rest := []) (C := RX9) (T := TX9) (N := 6) (k := k4) (mt_X9_cover hT x0 x1 x2 x3 h n hv4) rfl ho4 mf_X9_cover q_815 q_816 q_817 ⟨Nat.le_of_ble_eq_true rfl, Nat.le_of_ble_eq_true rfl⟩ ⟨Nat.le_of_ble_eq_true rfl, Nat.le_of_ble_eq_true rfl⟩ rfl (Nat.le_of_ble_eq_true rfl) dL_cover_4 (fun H locs nn ce qq hnn hR hce hcv hcl => ?_)
    by_cases ck : k4 = 2
    · subst ck
      replace hf := zz_pos rfl hf
      refine zl_catch X hN hE (k := 2) [] [(0, 7, 13, 15), (0, 7, 18, 26), (0, 7, 23, 59)] (0, 7, 8, 24) rfl (by decide) (fun z hz => nomatch hz) rfl (by decide) q_664 q_185 hce hcv hcl ?_
      refine lv_astore (i := 4) (lv' := [(4, .ref qq)]) hx hb dL_cover_8 (lv_sub hl [] rfl) (by decide) rfl (fun ls hl => ?_)
      refine lv_ldc hx hb hown (zz_w X q_659) dL_cover_10 ?_
      cases hf
      exact zl_iret X hR hnn dL_cover_12 (Nat.le_of_ble_eq_true rfl) (Nat.le_of_ble_eq_true rfl)
    replace hf := zz_neg ck hf
    by_cases ck : k4 = 0
    · subst ck
      replace hf := zz_pos rfl hf
      refine zl_catch X hN hE (k := 0) [(0, 7, 8, 24)] [(0, 7, 18, 26), (0, 7, 23, 59)] (0, 7, 13, 15) rfl (by decide) (by intro z hz; simp only [List.mem_cons, List.not_mem_nil, or_false] at hz; rcases hz with rfl <;> first | exact ⟨by decide, 2, by decide, by decide, q_664⟩) rfl (by decide) q_483 q_494 hce hcv hcl ?_
      refine lv_astore (i := 4) (lv' := [(4, .ref qq)]) hx hb dL_cover_13 (lv_sub hl [] rfl) (by decide) rfl (fun ls hl => ?_)
      refine lv_ldc hx hb hown (zz_w X q_660) dL_cover_15 ?_
      cases hf
      exact zl_iret X hR hnn dL_cover_17 (Nat.le_of_ble_eq_true rfl) (Nat.le_of_ble_eq_true rfl)
    replace hf := zz_neg ck hf
    by_cases ck : k4 = 3
    · subst ck
      replace hf := zz_pos rfl hf
      refine zl_catch X hN hE (k := 3) [(0, 7, 8, 24), (0, 7, 13, 15)] [(0, 7, 23, 59)] (0, 7, 18, 26) rfl (by decide) (by intro z hz; simp only [List.mem_cons, List.not_mem_nil, or_false] at hz; rcases hz with rfl | rfl <;> first | exact ⟨by decide, 2, by decide, by decide, q_664⟩ | exact ⟨by decide, 0, by decide, by decide, q_483⟩) rfl (by decide) q_665 q_317 hce hcv hcl ?_
      refine lv_astore (i := 4) (lv' := [(4, .ref qq)]) hx hb dL_cover_18 (lv_sub hl [] rfl) (by decide) rfl (fun ls hl => ?_)
      refine lv_ldc hx hb hown (zz_w X q_686) dL_cover_20 ?_
      cases hf
      exact zl_iret X hR hnn dL_cover_22 (Nat.le_of_ble_eq_true rfl) (Nat.le_of_ble_eq_true rfl)
    replace hf := zz_neg ck hf
    by_cases ck : k4 = 4
    · subst ck
      replace hf := zz_pos rfl hf
      refine zl_catch X hN hE (k := 4) [(0, 7, 8, 24), (0, 7, 13, 15), (0, 7, 18, 26)] [] (0, 7, 23, 59) rfl (by decide) (by intro z hz; simp only [List.mem_cons, List.not_mem_nil, or_false] at hz; rcases hz with rfl | rfl | rfl <;> first | exact ⟨by decide, 2, by decide, by decide, q_664⟩ | exact ⟨by decide, 0, by decide, by decide, q_483⟩ | exact ⟨by decide, 3, by decide, by decide, q_665⟩) rfl (by decide) q_814 q_366 hce hcv hcl ?_
      refine lv_astore (i := 4) (lv' := [(4, .ref qq)]) hx hb dL_cover_23 (lv_sub hl [] rfl) (by decide) rfl (fun ls hl => ?_)
      refine lv_ldc hx hb hown (zz_w X q_810) dL_cover_25 ?_
      cases hf
      exact zl_iret X hR hnn dL_cover_27 (Nat.le_of_ble_eq_true rfl) (Nat.le_of_ble_eq_true rfl)
    replace hf := zz_neg ck hf
    cases hf
def rm_L_sign : Room := { frames := 9, cells := 2, slots := 12, locals := 154 }
theorem mf_L_sign : Cond.codeWith yL_sign cL_sign 3 (some .int) [(0, 5, 6, 24), (0, 5, 10, 26)] ∈ zz_G ∧ Cond.initialized yL_sign.cls ∈ zz_G ∧ (yL_sign.cls ≠ "java/lang/invoke/MethodHandle" ∧ yL_sign.cls ≠ "java/lang/invoke/VarHandle" ∧ (parseMethodDescriptor yL_sign.desc).map (fun d => d.parameters.length) = some 2) := ⟨q_846, q_0, by decide +kernel, by decide +kernel, by decide +kernel⟩
set_option maxHeartbeats 4000000 in
set_option maxRecDepth 100000 in
theorem mt_L_sign {D : va_G} {dA : Nat → ClassId} {base t0 : Nat} {l : Launch} (hT : l.stackTraces = false) (x0 : Nat) (x1 : Int32) (h : zz_H) (n : Nat) {r0 : Int32} {hF : zz_H} {nF : Nat} (hf : f_L_sign t0 x0 x1 h n = some (r0, hF, nF)) : zz_ML D dA base t0 l yL_sign cL_sign 3 [(0, 5, 6, 24), (0, 5, 10, 26)] rm_L_sign [.ref x0, .int x1] h n r0 hF nF := by
  refine zz_ofH (cc := cL_sign) (maxL := 3) (ret := some .int) (by decide +kernel) rfl ?_
  intro p e s m args below meth c s₁ B hml hE hv
  obtain ⟨rfl, hP, hK, hN⟩ := hv
  have X : zz_X D dA base t0 "SpringseatLaw" cL_sign 3 (some .int) l p s m meth c := ⟨B.exec, B.bytes, hml, B.returns, findClass_of_methodNamed B.named, B.notSynchronized, hT, by rw [hP.1]; exact hP.2.1, hK⟩
  have hx := X.1
  have hb := X.2.1
  have hown := X.2.2.2.2.1
  have hR : zz_R D dA base h n s s.heap [] := ⟨hP, va_S.rf⟩
  have hl := lv_entry ([.ref x0, .int x1]) (n := 3) (by exact Nat.le_of_ble_eq_true rfl)
  rw [lg_entry_eq]
  generalize (lg_sl ([.ref x0, .int x1]) ++ List.replicate (3 - (lg_sl ([.ref x0, .int x1])).length) Slot.unset).toArray = ls at hl ⊢
  have hl : lv_has ls 3 [(0, .ref x0), (1, .int x1)] := hl
  unfold f_L_sign at hf
  refine lv_aload_n hx hb dL_sign_0 rfl (lv_at hl 0 rfl) ?_
  refine lv_iload_n hx hb dL_sign_1 rfl (lv_at hl 1 rfl) ?_
  obtain ⟨fs2, ho2, hf⟩ := zz_obS_i hf
  rcases zz_th1_i hf with ⟨v2, h2, hv2, hf⟩ | ⟨k2, h2, hv2, hf⟩
  · refine zl_V X hR hl.1 (As := [.int x1]) (rest := []) (C := RX9) (T := TX9) (N := 6) (ro := (fun v : Int32 => some (Value.int v)) v2) (mt_X9_sign hT x0 x1 h n hv2) rfl ho2 mf_X9_sign q_847 q_848 q_849 ⟨Nat.le_of_ble_eq_true rfl, Nat.le_of_ble_eq_true rfl⟩ ⟨Nat.le_of_ble_eq_true rfl, Nat.le_of_ble_eq_true rfl⟩ rfl (Nat.le_of_ble_eq_true rfl) dL_sign_2 (fun H locs hR => ?_)
    refine W.eq (g2 := F0 m 5 ls [.int v2]) rfl ?_
    refine W.widen (k := 2) (n := 12) (Nat.le_of_ble_eq_true rfl) (Nat.le_of_ble_eq_true rfl) ?_
    cases hf
    exact zl_iret X hR (Nat.le_refl _) dL_sign_5 (Nat.le_of_ble_eq_true rfl) (Nat.le_of_ble_eq_true rfl)
  · refine zl_X X hR hl.1 (As := [.int x1]) (rest := []) (C := RX9) (T := TX9) (N := 6) (k := k2) (mt_X9_sign hT x0 x1 h n hv2) rfl ho2 mf_X9_sign q_847 q_848 q_849 ⟨Nat.le_of_ble_eq_true rfl, Nat.le_of_ble_eq_true rfl⟩ ⟨Nat.le_of_ble_eq_true rfl, Nat.le_of_ble_eq_true rfl⟩ rfl (Nat.le_of_ble_eq_true rfl) dL_sign_2 (fun H locs nn ce qq hnn hR hce hcv hcl => ?_)
    by_cases ck : k2 = 2
    · subst ck
      replace hf := zz_pos rfl hf
      refine zl_catch X hN hE (k := 2) [] [(0, 5, 10, 26)] (0, 5, 6, 24) rfl (by decide) (fun z hz => nomatch hz) rfl (by decide) q_664 q_185 hce hcv hcl ?_
      refine lv_astore_n (i := 2) (lv' := [(2, .ref qq)]) hx hb dL_sign_6 rfl (lv_sub hl [] rfl) (by decide) rfl (fun ls hl => ?_)
      refine lv_ldc hx hb hown (zz_w X q_659) dL_sign_7 ?_
      cases hf
      exact zl_iret X hR hnn dL_sign_9 (Nat.le_of_ble_eq_true rfl) (Nat.le_of_ble_eq_true rfl)
    replace hf := zz_neg ck hf
    by_cases ck : k2 = 3
    · subst ck
      replace hf := zz_pos rfl hf
      refine zl_catch X hN hE (k := 3) [(0, 5, 6, 24)] [] (0, 5, 10, 26) rfl (by decide) (by intro z hz; simp only [List.mem_cons, List.not_mem_nil, or_false] at hz; rcases hz with rfl <;> first | exact ⟨by decide, 2, by decide, by decide, q_664⟩) rfl (by decide) q_665 q_317 hce hcv hcl ?_
      refine lv_astore_n (i := 2) (lv' := [(2, .ref qq)]) hx hb dL_sign_10 rfl (lv_sub hl [] rfl) (by decide) rfl (fun ls hl => ?_)
      refine lv_ldc hx hb hown (zz_w X q_660) dL_sign_11 ?_
      cases hf
      exact zl_iret X hR hnn dL_sign_13 (Nat.le_of_ble_eq_true rfl) (Nat.le_of_ble_eq_true rfl)
    replace hf := zz_neg ck hf
    cases hf
def rm_L_stands : Room := { frames := 10, cells := 3, slots := 18, locals := 177 }
theorem mf_L_stands : Cond.codeWith yL_stands cL_stands 4 (some .int) [(0, 6, 7, 24)] ∈ zz_G ∧ Cond.initialized yL_stands.cls ∈ zz_G ∧ (yL_stands.cls ≠ "java/lang/invoke/MethodHandle" ∧ yL_stands.cls ≠ "java/lang/invoke/VarHandle" ∧ (parseMethodDescriptor yL_stands.desc).map (fun d => d.parameters.length) = some 3) := ⟨q_858, q_0, by decide +kernel, by decide +kernel, by decide +kernel⟩
set_option maxHeartbeats 4000000 in
set_option maxRecDepth 100000 in
theorem mt_L_stands {D : va_G} {dA : Nat → ClassId} {base t0 : Nat} {l : Launch} (hT : l.stackTraces = false) (x0 : Nat) (x1 : Int32) (x2 : Int32) (h : zz_H) (n : Nat) {r0 : Int32} {hF : zz_H} {nF : Nat} (hf : f_L_stands t0 x0 x1 x2 h n = some (r0, hF, nF)) : zz_ML D dA base t0 l yL_stands cL_stands 4 [(0, 6, 7, 24)] rm_L_stands [.ref x0, .int x1, .int x2] h n r0 hF nF := by
  refine zz_ofH (cc := cL_stands) (maxL := 4) (ret := some .int) (by decide +kernel) rfl ?_
  intro p e s m args below meth c s₁ B hml hE hv
  obtain ⟨rfl, hP, hK, hN⟩ := hv
  have X : zz_X D dA base t0 "SpringseatLaw" cL_stands 4 (some .int) l p s m meth c := ⟨B.exec, B.bytes, hml, B.returns, findClass_of_methodNamed B.named, B.notSynchronized, hT, by rw [hP.1]; exact hP.2.1, hK⟩
  have hx := X.1
  have hb := X.2.1
  have hown := X.2.2.2.2.1
  have hR : zz_R D dA base h n s s.heap [] := ⟨hP, va_S.rf⟩
  have hl := lv_entry ([.ref x0, .int x1, .int x2]) (n := 4) (by exact Nat.le_of_ble_eq_true rfl)
  rw [lg_entry_eq]
  generalize (lg_sl ([.ref x0, .int x1, .int x2]) ++ List.replicate (4 - (lg_sl ([.ref x0, .int x1, .int x2])).length) Slot.unset).toArray = ls at hl ⊢
  have hl : lv_has ls 4 [(0, .ref x0), (1, .int x1), (2, .int x2)] := hl
  unfold f_L_stands at hf
  refine lv_aload_n hx hb dL_stands_0 rfl (lv_at hl 0 rfl) ?_
  refine lv_iload_n hx hb dL_stands_1 rfl (lv_at hl 1 rfl) ?_
  refine lv_iload_n hx hb dL_stands_2 rfl (lv_at hl 2 rfl) ?_
  obtain ⟨fs3, ho3, hf⟩ := zz_obS_i hf
  rcases zz_th_i hf with ⟨v3, hv3, hf⟩ | ⟨k3, hv3, hf⟩
  · refine zl_V X hR hl.1 (As := [.int x1, .int x2]) (rest := []) (C := RX9) (T := TX9) (N := 6) (ro := (fun v : Int32 => some (Value.int v)) v3) (mt_X9_stands hT x0 x1 x2 h n hv3) rfl ho3 mf_X9_stands q_859 q_860 q_861 ⟨Nat.le_of_ble_eq_true rfl, Nat.le_of_ble_eq_true rfl⟩ ⟨Nat.le_of_ble_eq_true rfl, Nat.le_of_ble_eq_true rfl⟩ rfl (Nat.le_of_ble_eq_true rfl) dL_stands_3 (fun H locs hR => ?_)
    refine W.eq (g2 := F0 m 6 ls [.int v3]) rfl ?_
    refine W.widen (k := 3) (n := 18) (Nat.le_of_ble_eq_true rfl) (Nat.le_of_ble_eq_true rfl) ?_
    cases hf
    exact zl_iret X hR (Nat.le_refl _) dL_stands_6 (Nat.le_of_ble_eq_true rfl) (Nat.le_of_ble_eq_true rfl)
  · refine zl_X X hR hl.1 (As := [.int x1, .int x2]) (rest := []) (C := RX9) (T := TX9) (N := 6) (k := k3) (mt_X9_stands hT x0 x1 x2 h n hv3) rfl ho3 mf_X9_stands q_859 q_860 q_861 ⟨Nat.le_of_ble_eq_true rfl, Nat.le_of_ble_eq_true rfl⟩ ⟨Nat.le_of_ble_eq_true rfl, Nat.le_of_ble_eq_true rfl⟩ rfl (Nat.le_of_ble_eq_true rfl) dL_stands_3 (fun H locs nn ce qq hnn hR hce hcv hcl => ?_)
    by_cases ck : k3 = 2
    · subst ck
      replace hf := zz_pos rfl hf
      refine zl_catch X hN hE (k := 2) [] [] (0, 6, 7, 24) rfl (by decide) (fun z hz => nomatch hz) rfl (by decide) q_664 q_185 hce hcv hcl ?_
      refine lv_astore_n (i := 3) (lv' := [(3, .ref qq)]) hx hb dL_stands_7 rfl (lv_sub hl [] rfl) (by decide) rfl (fun ls hl => ?_)
      refine lv_ldc hx hb hown (zz_w X q_659) dL_stands_8 ?_
      cases hf
      exact zl_iret X hR hnn dL_stands_10 (Nat.le_of_ble_eq_true rfl) (Nat.le_of_ble_eq_true rfl)
    replace hf := zz_neg ck hf
    cases hf
def rm_L_thick : Room := { frames := 9, cells := 2, slots := 12, locals := 154 }
theorem mf_L_thick : Cond.codeWith yL_thick cL_thick 4 (some .int) [(0, 6, 7, 24), (0, 6, 11, 59)] ∈ zz_G ∧ Cond.initialized yL_thick.cls ∈ zz_G ∧ (yL_thick.cls ≠ "java/lang/invoke/MethodHandle" ∧ yL_thick.cls ≠ "java/lang/invoke/VarHandle" ∧ (parseMethodDescriptor yL_thick.desc).map (fun d => d.parameters.length) = some 3) := ⟨q_866, q_0, by decide +kernel, by decide +kernel, by decide +kernel⟩
set_option maxHeartbeats 4000000 in
set_option maxRecDepth 100000 in
theorem mt_L_thick {D : va_G} {dA : Nat → ClassId} {base t0 : Nat} {l : Launch} (hT : l.stackTraces = false) (x0 : Nat) (x1 : Int32) (x2 : Int32) (h : zz_H) (n : Nat) {r0 : Int32} {hF : zz_H} {nF : Nat} (hf : f_L_thick t0 x0 x1 x2 h n = some (r0, hF, nF)) : zz_ML D dA base t0 l yL_thick cL_thick 4 [(0, 6, 7, 24), (0, 6, 11, 59)] rm_L_thick [.ref x0, .int x1, .int x2] h n r0 hF nF := by
  refine zz_ofH (cc := cL_thick) (maxL := 4) (ret := some .int) (by decide +kernel) rfl ?_
  intro p e s m args below meth c s₁ B hml hE hv
  obtain ⟨rfl, hP, hK, hN⟩ := hv
  have X : zz_X D dA base t0 "SpringseatLaw" cL_thick 4 (some .int) l p s m meth c := ⟨B.exec, B.bytes, hml, B.returns, findClass_of_methodNamed B.named, B.notSynchronized, hT, by rw [hP.1]; exact hP.2.1, hK⟩
  have hx := X.1
  have hb := X.2.1
  have hown := X.2.2.2.2.1
  have hR : zz_R D dA base h n s s.heap [] := ⟨hP, va_S.rf⟩
  have hl := lv_entry ([.ref x0, .int x1, .int x2]) (n := 4) (by exact Nat.le_of_ble_eq_true rfl)
  rw [lg_entry_eq]
  generalize (lg_sl ([.ref x0, .int x1, .int x2]) ++ List.replicate (4 - (lg_sl ([.ref x0, .int x1, .int x2])).length) Slot.unset).toArray = ls at hl ⊢
  have hl : lv_has ls 4 [(0, .ref x0), (1, .int x1), (2, .int x2)] := hl
  unfold f_L_thick at hf
  refine lv_aload_n hx hb dL_thick_0 rfl (lv_at hl 0 rfl) ?_
  refine lv_iload_n hx hb dL_thick_1 rfl (lv_at hl 1 rfl) ?_
  refine lv_iload_n hx hb dL_thick_2 rfl (lv_at hl 2 rfl) ?_
  obtain ⟨fs3, ho3, hf⟩ := zz_obS_i hf
  rcases zz_th_i hf with ⟨v3, hv3, hf⟩ | ⟨k3, hv3, hf⟩
  · refine zl_V X hR hl.1 (As := [.int x1, .int x2]) (rest := []) (C := RX9) (T := TX9) (N := 6) (ro := (fun v : Int32 => some (Value.int v)) v3) (mt_X9_thick hT x0 x1 x2 h n hv3) rfl ho3 mf_X9_thick q_867 q_868 q_869 ⟨Nat.le_of_ble_eq_true rfl, Nat.le_of_ble_eq_true rfl⟩ ⟨Nat.le_of_ble_eq_true rfl, Nat.le_of_ble_eq_true rfl⟩ rfl (Nat.le_of_ble_eq_true rfl) dL_thick_3 (fun H locs hR => ?_)
    refine W.eq (g2 := F0 m 6 ls [.int v3]) rfl ?_
    refine W.widen (k := 2) (n := 12) (Nat.le_of_ble_eq_true rfl) (Nat.le_of_ble_eq_true rfl) ?_
    cases hf
    exact zl_iret X hR (Nat.le_refl _) dL_thick_6 (Nat.le_of_ble_eq_true rfl) (Nat.le_of_ble_eq_true rfl)
  · refine zl_X X hR hl.1 (As := [.int x1, .int x2]) (rest := []) (C := RX9) (T := TX9) (N := 6) (k := k3) (mt_X9_thick hT x0 x1 x2 h n hv3) rfl ho3 mf_X9_thick q_867 q_868 q_869 ⟨Nat.le_of_ble_eq_true rfl, Nat.le_of_ble_eq_true rfl⟩ ⟨Nat.le_of_ble_eq_true rfl, Nat.le_of_ble_eq_true rfl⟩ rfl (Nat.le_of_ble_eq_true rfl) dL_thick_3 (fun H locs nn ce qq hnn hR hce hcv hcl => ?_)
    by_cases ck : k3 = 2
    · subst ck
      replace hf := zz_pos rfl hf
      refine zl_catch X hN hE (k := 2) [] [(0, 6, 11, 59)] (0, 6, 7, 24) rfl (by decide) (fun z hz => nomatch hz) rfl (by decide) q_664 q_185 hce hcv hcl ?_
      refine lv_astore_n (i := 3) (lv' := [(3, .ref qq)]) hx hb dL_thick_7 rfl (lv_sub hl [] rfl) (by decide) rfl (fun ls hl => ?_)
      refine lv_ldc hx hb hown (zz_w X q_659) dL_thick_8 ?_
      cases hf
      exact zl_iret X hR hnn dL_thick_10 (Nat.le_of_ble_eq_true rfl) (Nat.le_of_ble_eq_true rfl)
    replace hf := zz_neg ck hf
    by_cases ck : k3 = 4
    · subst ck
      replace hf := zz_pos rfl hf
      refine zl_catch X hN hE (k := 4) [(0, 6, 7, 24)] [] (0, 6, 11, 59) rfl (by decide) (by intro z hz; simp only [List.mem_cons, List.not_mem_nil, or_false] at hz; rcases hz with rfl <;> first | exact ⟨by decide, 2, by decide, by decide, q_664⟩) rfl (by decide) q_814 q_366 hce hcv hcl ?_
      refine lv_astore_n (i := 3) (lv' := [(3, .ref qq)]) hx hb dL_thick_11 rfl (lv_sub hl [] rfl) (by decide) rfl (fun ls hl => ?_)
      refine lv_ldc hx hb hown (zz_w X q_660) dL_thick_12 ?_
      cases hf
      exact zl_iret X hR hnn dL_thick_14 (Nat.le_of_ble_eq_true rfl) (Nat.le_of_ble_eq_true rfl)
    replace hf := zz_neg ck hf
    cases hf
def rm_L_top : Room := { frames := 10, cells := 3, slots := 18, locals := 177 }
theorem mf_L_top : Cond.codeWith yL_top cL_top 4 (some .int) [(0, 6, 7, 24)] ∈ zz_G ∧ Cond.initialized yL_top.cls ∈ zz_G ∧ (yL_top.cls ≠ "java/lang/invoke/MethodHandle" ∧ yL_top.cls ≠ "java/lang/invoke/VarHandle" ∧ (parseMethodDescriptor yL_top.desc).map (fun d => d.parameters.length) = some 3) := ⟨q_884, q_0, by decide +kernel, by decide +kernel, by decide +kernel⟩
set_option maxHeartbeats 4000000 in
set_option maxRecDepth 100000 in
theorem mt_L_top {D : va_G} {dA : Nat → ClassId} {base t0 : Nat} {l : Launch} (hT : l.stackTraces = false) (x0 : Nat) (x1 : Int32) (x2 : Int32) (h : zz_H) (n : Nat) {r0 : Int32} {hF : zz_H} {nF : Nat} (hf : f_L_top t0 x0 x1 x2 h n = some (r0, hF, nF)) : zz_ML D dA base t0 l yL_top cL_top 4 [(0, 6, 7, 24)] rm_L_top [.ref x0, .int x1, .int x2] h n r0 hF nF := by
  refine zz_ofH (cc := cL_top) (maxL := 4) (ret := some .int) (by decide +kernel) rfl ?_
  intro p e s m args below meth c s₁ B hml hE hv
  obtain ⟨rfl, hP, hK, hN⟩ := hv
  have X : zz_X D dA base t0 "SpringseatLaw" cL_top 4 (some .int) l p s m meth c := ⟨B.exec, B.bytes, hml, B.returns, findClass_of_methodNamed B.named, B.notSynchronized, hT, by rw [hP.1]; exact hP.2.1, hK⟩
  have hx := X.1
  have hb := X.2.1
  have hown := X.2.2.2.2.1
  have hR : zz_R D dA base h n s s.heap [] := ⟨hP, va_S.rf⟩
  have hl := lv_entry ([.ref x0, .int x1, .int x2]) (n := 4) (by exact Nat.le_of_ble_eq_true rfl)
  rw [lg_entry_eq]
  generalize (lg_sl ([.ref x0, .int x1, .int x2]) ++ List.replicate (4 - (lg_sl ([.ref x0, .int x1, .int x2])).length) Slot.unset).toArray = ls at hl ⊢
  have hl : lv_has ls 4 [(0, .ref x0), (1, .int x1), (2, .int x2)] := hl
  unfold f_L_top at hf
  refine lv_aload_n hx hb dL_top_0 rfl (lv_at hl 0 rfl) ?_
  refine lv_iload_n hx hb dL_top_1 rfl (lv_at hl 1 rfl) ?_
  refine lv_iload_n hx hb dL_top_2 rfl (lv_at hl 2 rfl) ?_
  obtain ⟨fs3, ho3, hf⟩ := zz_obS_i hf
  rcases zz_th_i hf with ⟨v3, hv3, hf⟩ | ⟨k3, hv3, hf⟩
  · refine zl_V X hR hl.1 (As := [.int x1, .int x2]) (rest := []) (C := RX9) (T := TX9) (N := 6) (ro := (fun v : Int32 => some (Value.int v)) v3) (mt_X9_top hT x0 x1 x2 h n hv3) rfl ho3 mf_X9_top q_885 q_886 q_887 ⟨Nat.le_of_ble_eq_true rfl, Nat.le_of_ble_eq_true rfl⟩ ⟨Nat.le_of_ble_eq_true rfl, Nat.le_of_ble_eq_true rfl⟩ rfl (Nat.le_of_ble_eq_true rfl) dL_top_3 (fun H locs hR => ?_)
    refine W.eq (g2 := F0 m 6 ls [.int v3]) rfl ?_
    refine W.widen (k := 3) (n := 18) (Nat.le_of_ble_eq_true rfl) (Nat.le_of_ble_eq_true rfl) ?_
    cases hf
    exact zl_iret X hR (Nat.le_refl _) dL_top_6 (Nat.le_of_ble_eq_true rfl) (Nat.le_of_ble_eq_true rfl)
  · refine zl_X X hR hl.1 (As := [.int x1, .int x2]) (rest := []) (C := RX9) (T := TX9) (N := 6) (k := k3) (mt_X9_top hT x0 x1 x2 h n hv3) rfl ho3 mf_X9_top q_885 q_886 q_887 ⟨Nat.le_of_ble_eq_true rfl, Nat.le_of_ble_eq_true rfl⟩ ⟨Nat.le_of_ble_eq_true rfl, Nat.le_of_ble_eq_true rfl⟩ rfl (Nat.le_of_ble_eq_true rfl) dL_top_3 (fun H locs nn ce qq hnn hR hce hcv hcl => ?_)
    by_cases ck : k3 = 2
    · subst ck
      replace hf := zz_pos rfl hf
      refine zl_catch X hN hE (k := 2) [] [] (0, 6, 7, 24) rfl (by decide) (fun z hz => nomatch hz) rfl (by decide) q_664 q_185 hce hcv hcl ?_
      refine lv_astore_n (i := 3) (lv' := [(3, .ref qq)]) hx hb dL_top_7 rfl (lv_sub hl [] rfl) (by decide) rfl (fun ls hl => ?_)
      refine lv_ldc hx hb hown (zz_w X q_659) dL_top_8 ?_
      cases hf
      exact zl_iret X hR hnn dL_top_10 (Nat.le_of_ble_eq_true rfl) (Nat.le_of_ble_eq_true rfl)
    replace hf := zz_neg ck hf
    cases hf
def rm_L_cloth : Room := { frames := 8, cells := 6, slots := 43, locals := 134 }
theorem mf_L_cloth : Cond.codeWith yL_cloth cL_cloth 4 (some .int) [(0, 6, 7, 15), (0, 6, 11, 18)] ∈ zz_G ∧ Cond.initialized yL_cloth.cls ∈ zz_G ∧ (yL_cloth.cls ≠ "java/lang/invoke/MethodHandle" ∧ yL_cloth.cls ≠ "java/lang/invoke/VarHandle" ∧ (parseMethodDescriptor yL_cloth.desc).map (fun d => d.parameters.length) = some 3) := ⟨q_892, q_0, by decide +kernel, by decide +kernel, by decide +kernel⟩
set_option maxHeartbeats 4000000 in
set_option maxRecDepth 100000 in
theorem mt_L_cloth {D : va_G} {dA : Nat → ClassId} {base t0 : Nat} {l : Launch} (hT : l.stackTraces = false) (x0 : Nat) (x1 : Int32) (x2 : Int32) (h : zz_H) (n : Nat) {r0 : Int32} {hF : zz_H} {nF : Nat} (hf : f_L_cloth t0 x0 x1 x2 h n = some (r0, hF, nF)) : zz_ML D dA base t0 l yL_cloth cL_cloth 4 [(0, 6, 7, 15), (0, 6, 11, 18)] rm_L_cloth [.ref x0, .int x1, .int x2] h n r0 hF nF := by
  refine zz_ofH (cc := cL_cloth) (maxL := 4) (ret := some .int) (by decide +kernel) rfl ?_
  intro p e s m args below meth c s₁ B hml hE hv
  obtain ⟨rfl, hP, hK, hN⟩ := hv
  have X : zz_X D dA base t0 "SpringseatLaw" cL_cloth 4 (some .int) l p s m meth c := ⟨B.exec, B.bytes, hml, B.returns, findClass_of_methodNamed B.named, B.notSynchronized, hT, by rw [hP.1]; exact hP.2.1, hK⟩
  have hx := X.1
  have hb := X.2.1
  have hown := X.2.2.2.2.1
  have hR : zz_R D dA base h n s s.heap [] := ⟨hP, va_S.rf⟩
  have hl := lv_entry ([.ref x0, .int x1, .int x2]) (n := 4) (by exact Nat.le_of_ble_eq_true rfl)
  rw [lg_entry_eq]
  generalize (lg_sl ([.ref x0, .int x1, .int x2]) ++ List.replicate (4 - (lg_sl ([.ref x0, .int x1, .int x2])).length) Slot.unset).toArray = ls at hl ⊢
  have hl : lv_has ls 4 [(0, .ref x0), (1, .int x1), (2, .int x2)] := hl
  unfold f_L_cloth at hf
  refine lv_aload_n hx hb dL_cloth_0 rfl (lv_at hl 0 rfl) ?_
  refine lv_iload_n hx hb dL_cloth_1 rfl (lv_at hl 1 rfl) ?_
  refine lv_iload_n hx hb dL_cloth_2 rfl (lv_at hl 2 rfl) ?_
  obtain ⟨fs3, ho3, hf⟩ := zz_obS_i hf
  rcases zz_th2_i hf with ⟨v3, h3, n3, hv3, hf⟩ | ⟨k3, h3, n3, hv3, hf⟩
  · refine zl_V X hR hl.1 (As := [.int x1, .int x2]) (rest := []) (C := RX9) (T := TX9) (N := 6) (ro := (fun v : Int32 => some (Value.int v)) v3) (mt_X9_cloth hT x0 x1 x2 h n hv3) rfl ho3 mf_X9_cloth q_893 q_894 q_895 ⟨Nat.le_of_ble_eq_true rfl, Nat.le_of_ble_eq_true rfl⟩ ⟨Nat.le_of_ble_eq_true rfl, Nat.le_of_ble_eq_true rfl⟩ rfl (Nat.le_of_ble_eq_true rfl) dL_cloth_3 (fun H locs hR => ?_)
    refine W.eq (g2 := F0 m 6 ls [.int v3]) rfl ?_
    refine W.widen (k := 6) (n := 43) (Nat.le_of_ble_eq_true rfl) (Nat.le_of_ble_eq_true rfl) ?_
    cases hf
    exact zl_iret X hR (Nat.le_refl _) dL_cloth_6 (Nat.le_of_ble_eq_true rfl) (Nat.le_of_ble_eq_true rfl)
  · refine zl_X X hR hl.1 (As := [.int x1, .int x2]) (rest := []) (C := RX9) (T := TX9) (N := 6) (k := k3) (mt_X9_cloth hT x0 x1 x2 h n hv3) rfl ho3 mf_X9_cloth q_893 q_894 q_895 ⟨Nat.le_of_ble_eq_true rfl, Nat.le_of_ble_eq_true rfl⟩ ⟨Nat.le_of_ble_eq_true rfl, Nat.le_of_ble_eq_true rfl⟩ rfl (Nat.le_of_ble_eq_true rfl) dL_cloth_3 (fun H locs nn ce qq hnn hR hce hcv hcl => ?_)
    by_cases ck : k3 = 0
    · subst ck
      replace hf := zz_pos rfl hf
      refine zl_catch X hN hE (k := 0) [] [(0, 6, 11, 18)] (0, 6, 7, 15) rfl (by decide) (fun z hz => nomatch hz) rfl (by decide) q_483 q_494 hce hcv hcl ?_
      refine lv_astore_n (i := 3) (lv' := [(3, .ref qq)]) hx hb dL_cloth_7 rfl (lv_sub hl [] rfl) (by decide) rfl (fun ls hl => ?_)
      refine lv_ldc hx hb hown (zz_w X q_659) dL_cloth_8 ?_
      cases hf
      exact zl_iret X hR hnn dL_cloth_10 (Nat.le_of_ble_eq_true rfl) (Nat.le_of_ble_eq_true rfl)
    replace hf := zz_neg ck hf
    by_cases ck : k3 = 1
    · subst ck
      replace hf := zz_pos rfl hf
      refine zl_catch X hN hE (k := 1) [(0, 6, 7, 15)] [] (0, 6, 11, 18) rfl (by decide) (by intro z hz; simp only [List.mem_cons, List.not_mem_nil, or_false] at hz; rcases hz with rfl <;> first | exact ⟨by decide, 0, by decide, by decide, q_483⟩) rfl (by decide) q_484 q_513 hce hcv hcl ?_
      refine lv_astore_n (i := 3) (lv' := [(3, .ref qq)]) hx hb dL_cloth_11 rfl (lv_sub hl [] rfl) (by decide) rfl (fun ls hl => ?_)
      refine lv_ldc hx hb hown (zz_w X q_660) dL_cloth_12 ?_
      cases hf
      exact zl_iret X hR hnn dL_cloth_14 (Nat.le_of_ble_eq_true rfl) (Nat.le_of_ble_eq_true rfl)
    replace hf := zz_neg ck hf
    cases hf
def rm_L_use : Room := { frames := 9, cells := 4, slots := 24, locals := 174 }
theorem mf_L_use : Cond.codeWith yL_use cL_use 4 (some .int) [(0, 6, 7, 24), (0, 6, 11, 15), (0, 6, 15, 26)] ∈ zz_G ∧ Cond.initialized yL_use.cls ∈ zz_G ∧ (yL_use.cls ≠ "java/lang/invoke/MethodHandle" ∧ yL_use.cls ≠ "java/lang/invoke/VarHandle" ∧ (parseMethodDescriptor yL_use.desc).map (fun d => d.parameters.length) = some 3) := ⟨q_921, q_0, by decide +kernel, by decide +kernel, by decide +kernel⟩
set_option maxHeartbeats 4000000 in
set_option maxRecDepth 100000 in
theorem mt_L_use {D : va_G} {dA : Nat → ClassId} {base t0 : Nat} {l : Launch} (hT : l.stackTraces = false) (x0 : Nat) (x1 : Int32) (x2 : Int32) (h : zz_H) (n : Nat) {r0 : Int32} {hF : zz_H} {nF : Nat} (hf : f_L_use t0 x0 x1 x2 h n = some (r0, hF, nF)) : zz_ML D dA base t0 l yL_use cL_use 4 [(0, 6, 7, 24), (0, 6, 11, 15), (0, 6, 15, 26)] rm_L_use [.ref x0, .int x1, .int x2] h n r0 hF nF := by
  refine zz_ofH (cc := cL_use) (maxL := 4) (ret := some .int) (by decide +kernel) rfl ?_
  intro p e s m args below meth c s₁ B hml hE hv
  obtain ⟨rfl, hP, hK, hN⟩ := hv
  have X : zz_X D dA base t0 "SpringseatLaw" cL_use 4 (some .int) l p s m meth c := ⟨B.exec, B.bytes, hml, B.returns, findClass_of_methodNamed B.named, B.notSynchronized, hT, by rw [hP.1]; exact hP.2.1, hK⟩
  have hx := X.1
  have hb := X.2.1
  have hown := X.2.2.2.2.1
  have hR : zz_R D dA base h n s s.heap [] := ⟨hP, va_S.rf⟩
  have hl := lv_entry ([.ref x0, .int x1, .int x2]) (n := 4) (by exact Nat.le_of_ble_eq_true rfl)
  rw [lg_entry_eq]
  generalize (lg_sl ([.ref x0, .int x1, .int x2]) ++ List.replicate (4 - (lg_sl ([.ref x0, .int x1, .int x2])).length) Slot.unset).toArray = ls at hl ⊢
  have hl : lv_has ls 4 [(0, .ref x0), (1, .int x1), (2, .int x2)] := hl
  unfold f_L_use at hf
  refine lv_aload_n hx hb dL_use_0 rfl (lv_at hl 0 rfl) ?_
  refine lv_iload_n hx hb dL_use_1 rfl (lv_at hl 1 rfl) ?_
  refine lv_iload_n hx hb dL_use_2 rfl (lv_at hl 2 rfl) ?_
  obtain ⟨fs3, ho3, hf⟩ := zz_obS_i hf
  rcases zz_th1_i hf with ⟨v3, h3, hv3, hf⟩ | ⟨k3, h3, hv3, hf⟩
  · refine zl_V X hR hl.1 (As := [.int x1, .int x2]) (rest := []) (C := RX9) (T := TX9) (N := 6) (ro := (fun v : Int32 => some (Value.int v)) v3) (mt_X9_use hT x0 x1 x2 h n hv3) rfl ho3 mf_X9_use q_922 q_923 q_924 ⟨Nat.le_of_ble_eq_true rfl, Nat.le_of_ble_eq_true rfl⟩ ⟨Nat.le_of_ble_eq_true rfl, Nat.le_of_ble_eq_true rfl⟩ rfl (Nat.le_of_ble_eq_true rfl) dL_use_3 (fun H locs hR => ?_)
    refine W.eq (g2 := F0 m 6 ls [.int v3]) rfl ?_
    refine W.widen (k := 4) (n := 24) (Nat.le_of_ble_eq_true rfl) (Nat.le_of_ble_eq_true rfl) ?_
    cases hf
    exact zl_iret X hR (Nat.le_refl _) dL_use_6 (Nat.le_of_ble_eq_true rfl) (Nat.le_of_ble_eq_true rfl)
  · refine zl_X X hR hl.1 (As := [.int x1, .int x2]) (rest := []) (C := RX9) (T := TX9) (N := 6) (k := k3) (mt_X9_use hT x0 x1 x2 h n hv3) rfl ho3 mf_X9_use q_922 q_923 q_924 ⟨Nat.le_of_ble_eq_true rfl, Nat.le_of_ble_eq_true rfl⟩ ⟨Nat.le_of_ble_eq_true rfl, Nat.le_of_ble_eq_true rfl⟩ rfl (Nat.le_of_ble_eq_true rfl) dL_use_3 (fun H locs nn ce qq hnn hR hce hcv hcl => ?_)
    by_cases ck : k3 = 2
    · subst ck
      replace hf := zz_pos rfl hf
      refine zl_catch X hN hE (k := 2) [] [(0, 6, 11, 15), (0, 6, 15, 26)] (0, 6, 7, 24) rfl (by decide) (fun z hz => nomatch hz) rfl (by decide) q_664 q_185 hce hcv hcl ?_
      refine lv_astore_n (i := 3) (lv' := [(3, .ref qq)]) hx hb dL_use_7 rfl (lv_sub hl [] rfl) (by decide) rfl (fun ls hl => ?_)
      refine lv_ldc hx hb hown (zz_w X q_659) dL_use_8 ?_
      cases hf
      exact zl_iret X hR hnn dL_use_10 (Nat.le_of_ble_eq_true rfl) (Nat.le_of_ble_eq_true rfl)
    replace hf := zz_neg ck hf
    by_cases ck : k3 = 0
    · subst ck
      replace hf := zz_pos rfl hf
      refine zl_catch X hN hE (k := 0) [(0, 6, 7, 24)] [(0, 6, 15, 26)] (0, 6, 11, 15) rfl (by decide) (by intro z hz; simp only [List.mem_cons, List.not_mem_nil, or_false] at hz; rcases hz with rfl <;> first | exact ⟨by decide, 2, by decide, by decide, q_664⟩) rfl (by decide) q_483 q_494 hce hcv hcl ?_
      refine lv_astore_n (i := 3) (lv' := [(3, .ref qq)]) hx hb dL_use_11 rfl (lv_sub hl [] rfl) (by decide) rfl (fun ls hl => ?_)
      refine lv_ldc hx hb hown (zz_w X q_660) dL_use_12 ?_
      cases hf
      exact zl_iret X hR hnn dL_use_14 (Nat.le_of_ble_eq_true rfl) (Nat.le_of_ble_eq_true rfl)
    replace hf := zz_neg ck hf
    by_cases ck : k3 = 3
    · subst ck
      replace hf := zz_pos rfl hf
      refine zl_catch X hN hE (k := 3) [(0, 6, 7, 24), (0, 6, 11, 15)] [] (0, 6, 15, 26) rfl (by decide) (by intro z hz; simp only [List.mem_cons, List.not_mem_nil, or_false] at hz; rcases hz with rfl | rfl <;> first | exact ⟨by decide, 2, by decide, by decide, q_664⟩ | exact ⟨by decide, 0, by decide, by decide, q_483⟩) rfl (by decide) q_665 q_317 hce hcv hcl ?_
      refine lv_astore_n (i := 3) (lv' := [(3, .ref qq)]) hx hb dL_use_15 rfl (lv_sub hl [] rfl) (by decide) rfl (fun ls hl => ?_)
      refine lv_ldc hx hb hown (zz_w X q_686) dL_use_16 ?_
      cases hf
      exact zl_iret X hR hnn dL_use_18 (Nat.le_of_ble_eq_true rfl) (Nat.le_of_ble_eq_true rfl)
    replace hf := zz_neg ck hf
    cases hf
def rm_L_pound : Room := { frames := 9, cells := 4, slots := 24, locals := 174 }
theorem mf_L_pound : Cond.codeWith yL_pound cL_pound 4 (some .int) [(0, 6, 7, 24), (0, 6, 11, 15), (0, 6, 15, 26)] ∈ zz_G ∧ Cond.initialized yL_pound.cls ∈ zz_G ∧ (yL_pound.cls ≠ "java/lang/invoke/MethodHandle" ∧ yL_pound.cls ≠ "java/lang/invoke/VarHandle" ∧ (parseMethodDescriptor yL_pound.desc).map (fun d => d.parameters.length) = some 3) := ⟨q_946, q_0, by decide +kernel, by decide +kernel, by decide +kernel⟩
set_option maxHeartbeats 4000000 in
set_option maxRecDepth 100000 in
theorem mt_L_pound {D : va_G} {dA : Nat → ClassId} {base t0 : Nat} {l : Launch} (hT : l.stackTraces = false) (x0 : Nat) (x1 : Int32) (x2 : Int32) (h : zz_H) (n : Nat) {r0 : Int32} {hF : zz_H} {nF : Nat} (hf : f_L_pound t0 x0 x1 x2 h n = some (r0, hF, nF)) : zz_ML D dA base t0 l yL_pound cL_pound 4 [(0, 6, 7, 24), (0, 6, 11, 15), (0, 6, 15, 26)] rm_L_pound [.ref x0, .int x1, .int x2] h n r0 hF nF := by
  refine zz_ofH (cc := cL_pound) (maxL := 4) (ret := some .int) (by decide +kernel) rfl ?_
  intro p e s m args below meth c s₁ B hml hE hv
  obtain ⟨rfl, hP, hK, hN⟩ := hv
  have X : zz_X D dA base t0 "SpringseatLaw" cL_pound 4 (some .int) l p s m meth c := ⟨B.exec, B.bytes, hml, B.returns, findClass_of_methodNamed B.named, B.notSynchronized, hT, by rw [hP.1]; exact hP.2.1, hK⟩
  have hx := X.1
  have hb := X.2.1
  have hown := X.2.2.2.2.1
  have hR : zz_R D dA base h n s s.heap [] := ⟨hP, va_S.rf⟩
  have hl := lv_entry ([.ref x0, .int x1, .int x2]) (n := 4) (by exact Nat.le_of_ble_eq_true rfl)
  rw [lg_entry_eq]
  generalize (lg_sl ([.ref x0, .int x1, .int x2]) ++ List.replicate (4 - (lg_sl ([.ref x0, .int x1, .int x2])).length) Slot.unset).toArray = ls at hl ⊢
  have hl : lv_has ls 4 [(0, .ref x0), (1, .int x1), (2, .int x2)] := hl
  unfold f_L_pound at hf
  refine lv_aload_n hx hb dL_pound_0 rfl (lv_at hl 0 rfl) ?_
  refine lv_iload_n hx hb dL_pound_1 rfl (lv_at hl 1 rfl) ?_
  refine lv_iload_n hx hb dL_pound_2 rfl (lv_at hl 2 rfl) ?_
  obtain ⟨fs3, ho3, hf⟩ := zz_obS_i hf
  rcases zz_th1_i hf with ⟨v3, h3, hv3, hf⟩ | ⟨k3, h3, hv3, hf⟩
  · refine zl_V X hR hl.1 (As := [.int x1, .int x2]) (rest := []) (C := RX9) (T := TX9) (N := 6) (ro := (fun v : Int32 => some (Value.int v)) v3) (mt_X9_pound hT x0 x1 x2 h n hv3) rfl ho3 mf_X9_pound q_947 q_948 q_949 ⟨Nat.le_of_ble_eq_true rfl, Nat.le_of_ble_eq_true rfl⟩ ⟨Nat.le_of_ble_eq_true rfl, Nat.le_of_ble_eq_true rfl⟩ rfl (Nat.le_of_ble_eq_true rfl) dL_pound_3 (fun H locs hR => ?_)
    refine W.eq (g2 := F0 m 6 ls [.int v3]) rfl ?_
    refine W.widen (k := 4) (n := 24) (Nat.le_of_ble_eq_true rfl) (Nat.le_of_ble_eq_true rfl) ?_
    cases hf
    exact zl_iret X hR (Nat.le_refl _) dL_pound_6 (Nat.le_of_ble_eq_true rfl) (Nat.le_of_ble_eq_true rfl)
  · refine zl_X X hR hl.1 (As := [.int x1, .int x2]) (rest := []) (C := RX9) (T := TX9) (N := 6) (k := k3) (mt_X9_pound hT x0 x1 x2 h n hv3) rfl ho3 mf_X9_pound q_947 q_948 q_949 ⟨Nat.le_of_ble_eq_true rfl, Nat.le_of_ble_eq_true rfl⟩ ⟨Nat.le_of_ble_eq_true rfl, Nat.le_of_ble_eq_true rfl⟩ rfl (Nat.le_of_ble_eq_true rfl) dL_pound_3 (fun H locs nn ce qq hnn hR hce hcv hcl => ?_)
    by_cases ck : k3 = 2
    · subst ck
      replace hf := zz_pos rfl hf
      refine zl_catch X hN hE (k := 2) [] [(0, 6, 11, 15), (0, 6, 15, 26)] (0, 6, 7, 24) rfl (by decide) (fun z hz => nomatch hz) rfl (by decide) q_664 q_185 hce hcv hcl ?_
      refine lv_astore_n (i := 3) (lv' := [(3, .ref qq)]) hx hb dL_pound_7 rfl (lv_sub hl [] rfl) (by decide) rfl (fun ls hl => ?_)
      refine lv_ldc hx hb hown (zz_w X q_659) dL_pound_8 ?_
      cases hf
      exact zl_iret X hR hnn dL_pound_10 (Nat.le_of_ble_eq_true rfl) (Nat.le_of_ble_eq_true rfl)
    replace hf := zz_neg ck hf
    by_cases ck : k3 = 0
    · subst ck
      replace hf := zz_pos rfl hf
      refine zl_catch X hN hE (k := 0) [(0, 6, 7, 24)] [(0, 6, 15, 26)] (0, 6, 11, 15) rfl (by decide) (by intro z hz; simp only [List.mem_cons, List.not_mem_nil, or_false] at hz; rcases hz with rfl <;> first | exact ⟨by decide, 2, by decide, by decide, q_664⟩) rfl (by decide) q_483 q_494 hce hcv hcl ?_
      refine lv_astore_n (i := 3) (lv' := [(3, .ref qq)]) hx hb dL_pound_11 rfl (lv_sub hl [] rfl) (by decide) rfl (fun ls hl => ?_)
      refine lv_ldc hx hb hown (zz_w X q_660) dL_pound_12 ?_
      cases hf
      exact zl_iret X hR hnn dL_pound_14 (Nat.le_of_ble_eq_true rfl) (Nat.le_of_ble_eq_true rfl)
    replace hf := zz_neg ck hf
    by_cases ck : k3 = 3
    · subst ck
      replace hf := zz_pos rfl hf
      refine zl_catch X hN hE (k := 3) [(0, 6, 7, 24), (0, 6, 11, 15)] [] (0, 6, 15, 26) rfl (by decide) (by intro z hz; simp only [List.mem_cons, List.not_mem_nil, or_false] at hz; rcases hz with rfl | rfl <;> first | exact ⟨by decide, 2, by decide, by decide, q_664⟩ | exact ⟨by decide, 0, by decide, by decide, q_483⟩) rfl (by decide) q_665 q_317 hce hcv hcl ?_
      refine lv_astore_n (i := 3) (lv' := [(3, .ref qq)]) hx hb dL_pound_15 rfl (lv_sub hl [] rfl) (by decide) rfl (fun ls hl => ?_)
      refine lv_ldc hx hb hown (zz_w X q_686) dL_pound_16 ?_
      cases hf
      exact zl_iret X hR hnn dL_pound_18 (Nat.le_of_ble_eq_true rfl) (Nat.le_of_ble_eq_true rfl)
    replace hf := zz_neg ck hf
    cases hf
def rm_L_hours : Room := { frames := 9, cells := 2, slots := 12, locals := 154 }
theorem mf_L_hours : Cond.codeWith yL_hours cL_hours 3 (some .int) [(0, 5, 6, 24), (0, 5, 10, 26)] ∈ zz_G ∧ Cond.initialized yL_hours.cls ∈ zz_G ∧ (yL_hours.cls ≠ "java/lang/invoke/MethodHandle" ∧ yL_hours.cls ≠ "java/lang/invoke/VarHandle" ∧ (parseMethodDescriptor yL_hours.desc).map (fun d => d.parameters.length) = some 2) := ⟨q_953, q_0, by decide +kernel, by decide +kernel, by decide +kernel⟩
set_option maxHeartbeats 4000000 in
set_option maxRecDepth 100000 in
theorem mt_L_hours {D : va_G} {dA : Nat → ClassId} {base t0 : Nat} {l : Launch} (hT : l.stackTraces = false) (x0 : Nat) (x1 : Int32) (h : zz_H) (n : Nat) {r0 : Int32} {hF : zz_H} {nF : Nat} (hf : f_L_hours t0 x0 x1 h n = some (r0, hF, nF)) : zz_ML D dA base t0 l yL_hours cL_hours 3 [(0, 5, 6, 24), (0, 5, 10, 26)] rm_L_hours [.ref x0, .int x1] h n r0 hF nF := by
  refine zz_ofH (cc := cL_hours) (maxL := 3) (ret := some .int) (by decide +kernel) rfl ?_
  intro p e s m args below meth c s₁ B hml hE hv
  obtain ⟨rfl, hP, hK, hN⟩ := hv
  have X : zz_X D dA base t0 "SpringseatLaw" cL_hours 3 (some .int) l p s m meth c := ⟨B.exec, B.bytes, hml, B.returns, findClass_of_methodNamed B.named, B.notSynchronized, hT, by rw [hP.1]; exact hP.2.1, hK⟩
  have hx := X.1
  have hb := X.2.1
  have hown := X.2.2.2.2.1
  have hR : zz_R D dA base h n s s.heap [] := ⟨hP, va_S.rf⟩
  have hl := lv_entry ([.ref x0, .int x1]) (n := 3) (by exact Nat.le_of_ble_eq_true rfl)
  rw [lg_entry_eq]
  generalize (lg_sl ([.ref x0, .int x1]) ++ List.replicate (3 - (lg_sl ([.ref x0, .int x1])).length) Slot.unset).toArray = ls at hl ⊢
  have hl : lv_has ls 3 [(0, .ref x0), (1, .int x1)] := hl
  unfold f_L_hours at hf
  refine lv_aload_n hx hb dL_hours_0 rfl (lv_at hl 0 rfl) ?_
  refine lv_iload_n hx hb dL_hours_1 rfl (lv_at hl 1 rfl) ?_
  obtain ⟨fs2, ho2, hf⟩ := zz_obS_i hf
  rcases zz_th_i hf with ⟨v2, hv2, hf⟩ | ⟨k2, hv2, hf⟩
  · refine zl_V X hR hl.1 (As := [.int x1]) (rest := []) (C := RX9) (T := TX9) (N := 6) (ro := (fun v : Int32 => some (Value.int v)) v2) (mt_X9_hours hT x0 x1 h n hv2) rfl ho2 mf_X9_hours q_954 q_955 q_956 ⟨Nat.le_of_ble_eq_true rfl, Nat.le_of_ble_eq_true rfl⟩ ⟨Nat.le_of_ble_eq_true rfl, Nat.le_of_ble_eq_true rfl⟩ rfl (Nat.le_of_ble_eq_true rfl) dL_hours_2 (fun H locs hR => ?_)
    refine W.eq (g2 := F0 m 5 ls [.int v2]) rfl ?_
    refine W.widen (k := 2) (n := 12) (Nat.le_of_ble_eq_true rfl) (Nat.le_of_ble_eq_true rfl) ?_
    cases hf
    exact zl_iret X hR (Nat.le_refl _) dL_hours_5 (Nat.le_of_ble_eq_true rfl) (Nat.le_of_ble_eq_true rfl)
  · refine zl_X X hR hl.1 (As := [.int x1]) (rest := []) (C := RX9) (T := TX9) (N := 6) (k := k2) (mt_X9_hours hT x0 x1 h n hv2) rfl ho2 mf_X9_hours q_954 q_955 q_956 ⟨Nat.le_of_ble_eq_true rfl, Nat.le_of_ble_eq_true rfl⟩ ⟨Nat.le_of_ble_eq_true rfl, Nat.le_of_ble_eq_true rfl⟩ rfl (Nat.le_of_ble_eq_true rfl) dL_hours_2 (fun H locs nn ce qq hnn hR hce hcv hcl => ?_)
    by_cases ck : k2 = 2
    · subst ck
      replace hf := zz_pos rfl hf
      refine zl_catch X hN hE (k := 2) [] [(0, 5, 10, 26)] (0, 5, 6, 24) rfl (by decide) (fun z hz => nomatch hz) rfl (by decide) q_664 q_185 hce hcv hcl ?_
      refine lv_astore_n (i := 2) (lv' := [(2, .ref qq)]) hx hb dL_hours_6 rfl (lv_sub hl [] rfl) (by decide) rfl (fun ls hl => ?_)
      refine lv_ldc hx hb hown (zz_w X q_659) dL_hours_7 ?_
      cases hf
      exact zl_iret X hR hnn dL_hours_9 (Nat.le_of_ble_eq_true rfl) (Nat.le_of_ble_eq_true rfl)
    replace hf := zz_neg ck hf
    by_cases ck : k2 = 3
    · subst ck
      replace hf := zz_pos rfl hf
      refine zl_catch X hN hE (k := 3) [(0, 5, 6, 24)] [] (0, 5, 10, 26) rfl (by decide) (by intro z hz; simp only [List.mem_cons, List.not_mem_nil, or_false] at hz; rcases hz with rfl <;> first | exact ⟨by decide, 2, by decide, by decide, q_664⟩) rfl (by decide) q_665 q_317 hce hcv hcl ?_
      refine lv_astore_n (i := 2) (lv' := [(2, .ref qq)]) hx hb dL_hours_10 rfl (lv_sub hl [] rfl) (by decide) rfl (fun ls hl => ?_)
      refine lv_ldc hx hb hown (zz_w X q_660) dL_hours_11 ?_
      cases hf
      exact zl_iret X hR hnn dL_hours_13 (Nat.le_of_ble_eq_true rfl) (Nat.le_of_ble_eq_true rfl)
    replace hf := zz_neg ck hf
    cases hf
def rm_L_promise : Room := { frames := 9, cells := 2, slots := 12, locals := 156 }
theorem mf_L_promise : Cond.codeWith yL_promise cL_promise 4 (some .int) [(0, 6, 7, 24), (0, 6, 11, 15)] ∈ zz_G ∧ Cond.initialized yL_promise.cls ∈ zz_G ∧ (yL_promise.cls ≠ "java/lang/invoke/MethodHandle" ∧ yL_promise.cls ≠ "java/lang/invoke/VarHandle" ∧ (parseMethodDescriptor yL_promise.desc).map (fun d => d.parameters.length) = some 3) := ⟨q_960, q_0, by decide +kernel, by decide +kernel, by decide +kernel⟩
set_option maxHeartbeats 4000000 in
set_option maxRecDepth 100000 in
theorem mt_L_promise {D : va_G} {dA : Nat → ClassId} {base t0 : Nat} {l : Launch} (hT : l.stackTraces = false) (x0 : Nat) (x1 : Int32) (x2 : Int32) (h : zz_H) (n : Nat) {r0 : Int32} {hF : zz_H} {nF : Nat} (hf : f_L_promise t0 x0 x1 x2 h n = some (r0, hF, nF)) : zz_ML D dA base t0 l yL_promise cL_promise 4 [(0, 6, 7, 24), (0, 6, 11, 15)] rm_L_promise [.ref x0, .int x1, .int x2] h n r0 hF nF := by
  refine zz_ofH (cc := cL_promise) (maxL := 4) (ret := some .int) (by decide +kernel) rfl ?_
  intro p e s m args below meth c s₁ B hml hE hv
  obtain ⟨rfl, hP, hK, hN⟩ := hv
  have X : zz_X D dA base t0 "SpringseatLaw" cL_promise 4 (some .int) l p s m meth c := ⟨B.exec, B.bytes, hml, B.returns, findClass_of_methodNamed B.named, B.notSynchronized, hT, by rw [hP.1]; exact hP.2.1, hK⟩
  have hx := X.1
  have hb := X.2.1
  have hown := X.2.2.2.2.1
  have hR : zz_R D dA base h n s s.heap [] := ⟨hP, va_S.rf⟩
  have hl := lv_entry ([.ref x0, .int x1, .int x2]) (n := 4) (by exact Nat.le_of_ble_eq_true rfl)
  rw [lg_entry_eq]
  generalize (lg_sl ([.ref x0, .int x1, .int x2]) ++ List.replicate (4 - (lg_sl ([.ref x0, .int x1, .int x2])).length) Slot.unset).toArray = ls at hl ⊢
  have hl : lv_has ls 4 [(0, .ref x0), (1, .int x1), (2, .int x2)] := hl
  unfold f_L_promise at hf
  refine lv_aload_n hx hb dL_promise_0 rfl (lv_at hl 0 rfl) ?_
  refine lv_iload_n hx hb dL_promise_1 rfl (lv_at hl 1 rfl) ?_
  refine lv_iload_n hx hb dL_promise_2 rfl (lv_at hl 2 rfl) ?_
  obtain ⟨fs3, ho3, hf⟩ := zz_obS_i hf
  rcases zz_th1_i hf with ⟨v3, h3, hv3, hf⟩ | ⟨k3, h3, hv3, hf⟩
  · refine zl_V X hR hl.1 (As := [.int x1, .int x2]) (rest := []) (C := RX9) (T := TX9) (N := 6) (ro := (fun v : Int32 => some (Value.int v)) v3) (mt_X9_promise hT x0 x1 x2 h n hv3) rfl ho3 mf_X9_promise q_961 q_962 q_963 ⟨Nat.le_of_ble_eq_true rfl, Nat.le_of_ble_eq_true rfl⟩ ⟨Nat.le_of_ble_eq_true rfl, Nat.le_of_ble_eq_true rfl⟩ rfl (Nat.le_of_ble_eq_true rfl) dL_promise_3 (fun H locs hR => ?_)
    refine W.eq (g2 := F0 m 6 ls [.int v3]) rfl ?_
    refine W.widen (k := 2) (n := 12) (Nat.le_of_ble_eq_true rfl) (Nat.le_of_ble_eq_true rfl) ?_
    cases hf
    exact zl_iret X hR (Nat.le_refl _) dL_promise_6 (Nat.le_of_ble_eq_true rfl) (Nat.le_of_ble_eq_true rfl)
  · refine zl_X X hR hl.1 (As := [.int x1, .int x2]) (rest := []) (C := RX9) (T := TX9) (N := 6) (k := k3) (mt_X9_promise hT x0 x1 x2 h n hv3) rfl ho3 mf_X9_promise q_961 q_962 q_963 ⟨Nat.le_of_ble_eq_true rfl, Nat.le_of_ble_eq_true rfl⟩ ⟨Nat.le_of_ble_eq_true rfl, Nat.le_of_ble_eq_true rfl⟩ rfl (Nat.le_of_ble_eq_true rfl) dL_promise_3 (fun H locs nn ce qq hnn hR hce hcv hcl => ?_)
    by_cases ck : k3 = 2
    · subst ck
      replace hf := zz_pos rfl hf
      refine zl_catch X hN hE (k := 2) [] [(0, 6, 11, 15)] (0, 6, 7, 24) rfl (by decide) (fun z hz => nomatch hz) rfl (by decide) q_664 q_185 hce hcv hcl ?_
      refine lv_astore_n (i := 3) (lv' := [(3, .ref qq)]) hx hb dL_promise_7 rfl (lv_sub hl [] rfl) (by decide) rfl (fun ls hl => ?_)
      refine lv_ldc hx hb hown (zz_w X q_659) dL_promise_8 ?_
      cases hf
      exact zl_iret X hR hnn dL_promise_10 (Nat.le_of_ble_eq_true rfl) (Nat.le_of_ble_eq_true rfl)
    replace hf := zz_neg ck hf
    by_cases ck : k3 = 0
    · subst ck
      replace hf := zz_pos rfl hf
      refine zl_catch X hN hE (k := 0) [(0, 6, 7, 24)] [] (0, 6, 11, 15) rfl (by decide) (by intro z hz; simp only [List.mem_cons, List.not_mem_nil, or_false] at hz; rcases hz with rfl <;> first | exact ⟨by decide, 2, by decide, by decide, q_664⟩) rfl (by decide) q_483 q_494 hce hcv hcl ?_
      refine lv_astore_n (i := 3) (lv' := [(3, .ref qq)]) hx hb dL_promise_11 rfl (lv_sub hl [] rfl) (by decide) rfl (fun ls hl => ?_)
      refine lv_ldc hx hb hown (zz_w X q_660) dL_promise_12 ?_
      cases hf
      exact zl_iret X hR hnn dL_promise_14 (Nat.le_of_ble_eq_true rfl) (Nat.le_of_ble_eq_true rfl)
    replace hf := zz_neg ck hf
    cases hf
def rm_L_quote : Room := { frames := 9, cells := 1, slots := 6, locals := 153 }
theorem mf_L_quote : Cond.codeWith yL_quote cL_quote 3 (some .int) [(0, 5, 6, 24)] ∈ zz_G ∧ Cond.initialized yL_quote.cls ∈ zz_G ∧ (yL_quote.cls ≠ "java/lang/invoke/MethodHandle" ∧ yL_quote.cls ≠ "java/lang/invoke/VarHandle" ∧ (parseMethodDescriptor yL_quote.desc).map (fun d => d.parameters.length) = some 2) := ⟨q_967, q_0, by decide +kernel, by decide +kernel, by decide +kernel⟩
set_option maxHeartbeats 4000000 in
set_option maxRecDepth 100000 in
theorem mt_L_quote {D : va_G} {dA : Nat → ClassId} {base t0 : Nat} {l : Launch} (hT : l.stackTraces = false) (x0 : Nat) (x1 : Int32) (h : zz_H) (n : Nat) {r0 : Int32} {hF : zz_H} {nF : Nat} (hf : f_L_quote t0 x0 x1 h n = some (r0, hF, nF)) : zz_ML D dA base t0 l yL_quote cL_quote 3 [(0, 5, 6, 24)] rm_L_quote [.ref x0, .int x1] h n r0 hF nF := by
  refine zz_ofH (cc := cL_quote) (maxL := 3) (ret := some .int) (by decide +kernel) rfl ?_
  intro p e s m args below meth c s₁ B hml hE hv
  obtain ⟨rfl, hP, hK, hN⟩ := hv
  have X : zz_X D dA base t0 "SpringseatLaw" cL_quote 3 (some .int) l p s m meth c := ⟨B.exec, B.bytes, hml, B.returns, findClass_of_methodNamed B.named, B.notSynchronized, hT, by rw [hP.1]; exact hP.2.1, hK⟩
  have hx := X.1
  have hb := X.2.1
  have hown := X.2.2.2.2.1
  have hR : zz_R D dA base h n s s.heap [] := ⟨hP, va_S.rf⟩
  have hl := lv_entry ([.ref x0, .int x1]) (n := 3) (by exact Nat.le_of_ble_eq_true rfl)
  rw [lg_entry_eq]
  generalize (lg_sl ([.ref x0, .int x1]) ++ List.replicate (3 - (lg_sl ([.ref x0, .int x1])).length) Slot.unset).toArray = ls at hl ⊢
  have hl : lv_has ls 3 [(0, .ref x0), (1, .int x1)] := hl
  unfold f_L_quote at hf
  refine lv_aload_n hx hb dL_quote_0 rfl (lv_at hl 0 rfl) ?_
  refine lv_iload_n hx hb dL_quote_1 rfl (lv_at hl 1 rfl) ?_
  obtain ⟨fs2, ho2, hf⟩ := zz_obS_i hf
  rcases zz_th_i hf with ⟨v2, hv2, hf⟩ | ⟨k2, hv2, hf⟩
  · refine zl_V X hR hl.1 (As := [.int x1]) (rest := []) (C := RX9) (T := TX9) (N := 6) (ro := (fun v : Int32 => some (Value.int v)) v2) (mt_X9_quote hT x0 x1 h n hv2) rfl ho2 mf_X9_quote q_968 q_969 q_970 ⟨Nat.le_of_ble_eq_true rfl, Nat.le_of_ble_eq_true rfl⟩ ⟨Nat.le_of_ble_eq_true rfl, Nat.le_of_ble_eq_true rfl⟩ rfl (Nat.le_of_ble_eq_true rfl) dL_quote_2 (fun H locs hR => ?_)
    refine W.eq (g2 := F0 m 5 ls [.int v2]) rfl ?_
    refine W.widen (k := 1) (n := 6) (Nat.le_of_ble_eq_true rfl) (Nat.le_of_ble_eq_true rfl) ?_
    cases hf
    exact zl_iret X hR (Nat.le_refl _) dL_quote_5 (Nat.le_of_ble_eq_true rfl) (Nat.le_of_ble_eq_true rfl)
  · refine zl_X X hR hl.1 (As := [.int x1]) (rest := []) (C := RX9) (T := TX9) (N := 6) (k := k2) (mt_X9_quote hT x0 x1 h n hv2) rfl ho2 mf_X9_quote q_968 q_969 q_970 ⟨Nat.le_of_ble_eq_true rfl, Nat.le_of_ble_eq_true rfl⟩ ⟨Nat.le_of_ble_eq_true rfl, Nat.le_of_ble_eq_true rfl⟩ rfl (Nat.le_of_ble_eq_true rfl) dL_quote_2 (fun H locs nn ce qq hnn hR hce hcv hcl => ?_)
    by_cases ck : k2 = 2
    · subst ck
      replace hf := zz_pos rfl hf
      refine zl_catch X hN hE (k := 2) [] [] (0, 5, 6, 24) rfl (by decide) (fun z hz => nomatch hz) rfl (by decide) q_664 q_185 hce hcv hcl ?_
      refine lv_astore_n (i := 2) (lv' := [(2, .ref qq)]) hx hb dL_quote_6 rfl (lv_sub hl [] rfl) (by decide) rfl (fun ls hl => ?_)
      refine lv_ldc hx hb hown (zz_w X q_659) dL_quote_7 ?_
      cases hf
      exact zl_iret X hR hnn dL_quote_9 (Nat.le_of_ble_eq_true rfl) (Nat.le_of_ble_eq_true rfl)
    replace hf := zz_neg ck hf
    cases hf
end ZZQ
