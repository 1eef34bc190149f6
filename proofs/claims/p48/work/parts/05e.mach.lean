section ZZM
def rm_X9_needRange : Room := { frames := 6, cells := 1, slots := 6, locals := 90 }
theorem mf_X9_needRange : zz_Mf yX9_needRange cX9_needRange 3 none 3 := ⟨q_491, q_1, by decide +kernel, by decide +kernel, by decide +kernel⟩
set_option maxHeartbeats 4000000 in
set_option maxRecDepth 100000 in
theorem bk_X9_needRange_10 {D : va_G} {dA : Nat → ClassId} {base t0 : Nat} {l : Launch} {p : Program} {e : Env} {s : State} {m : MethodId} {args : Array Value} {below : List Frame} {meth : Method} {c : Code} (X : zz_X D dA base t0 "Springseat" cX9_needRange 3 none l p s m meth c) (hE : ∀ x ∈ c.exceptionTable.toList, False) (hT : l.stackTraces = false) {h : zz_H} {n : Nat} {H : Heap} {locs : List Loc} {ls : Array Slot} (hR : zz_R D dA base h n s H locs) (hl : lv_has ls 3 []) {r0 : (Unit ⊕ Nat)} (hf : f_X9_needRange_10 h = some r0) : W p l e rm_X9_needRange s m args below meth c H locs 0 0 (vx_MQ below (zz_Qo D dA base (zz_ov (fun _ : Unit => (none : Option Value)) r0) h n) (zz_Xo D dA base (zz_ov (fun _ : Unit => (none : Option Value)) r0) h n) args s rm_X9_needRange.cells rm_X9_needRange.slots (fun q => base ≤ q)) (F0 m 10 ls []) := by
  have hx := X.1
  have hb := X.2.1
  have hown := X.2.2.2.2.1
  unfold f_X9_needRange_10 at hf
  cases hf
  exact zx_throwW X hE hR hl.1 (k := 0) (names := ["java/lang/RuntimeException", "java/lang/Exception"]) tw_10_385.1 tw_10_385.2.1 rfl q_492 q_14 (List.mem_of_getElem? (i := 3) rfl) tw_10_385.2.2.1 tw_10_385.2.2.2 dX9_needRange_10 dX9_needRange_13 dX9_needRange_14 dX9_needRange_17 dX9_needRange_20 (Nat.le_of_ble_eq_true rfl) ⟨Nat.le_of_ble_eq_true rfl, Nat.le_of_ble_eq_true rfl⟩ ⟨Nat.le_of_ble_eq_true rfl, Nat.le_of_ble_eq_true rfl⟩ (Nat.le_of_ble_eq_true rfl) (Nat.le_of_ble_eq_true rfl) (Nat.le_refl _)
set_option maxHeartbeats 4000000 in
set_option maxRecDepth 100000 in
theorem mt_X9_needRange {D : va_G} {dA : Nat → ClassId} {base t0 : Nat} {l : Launch} (hT : l.stackTraces = false) (x0 : Int32) (x1 : Int32) (x2 : Int32) (h : zz_H) (n : Nat) {r0 : (Unit ⊕ Nat)} (hf : f_X9_needRange x0 x1 x2 h = some r0) : zz_MX D dA base t0 l yX9_needRange cX9_needRange 3 none rm_X9_needRange [.int x0, .int x1, .int x2] h n (zz_ov (fun _ : Unit => (none : Option Value)) r0) h n := by
  refine vx_ofW (cc := cX9_needRange) (maxL := 3) (ret := none) (by decide +kernel) rfl ?_
  intro p e s m args below meth c s₁ B hml hE hv
  obtain ⟨rfl, hP, hK⟩ := hv
  have X : zz_X D dA base t0 "Springseat" cX9_needRange 3 none l p s m meth c := ⟨B.exec, B.bytes, hml, B.returns, findClass_of_methodNamed B.named, B.notSynchronized, hT, by rw [hP.1]; exact hP.2.1, hK⟩
  have hx := X.1
  have hb := X.2.1
  have hown := X.2.2.2.2.1
  have hR : zz_R D dA base h n s s.heap [] := ⟨hP, va_S.rf⟩
  have hl := lv_entry ([.int x0, .int x1, .int x2]) (n := 3) (by exact Nat.le_of_ble_eq_true rfl)
  rw [lg_entry_eq]
  generalize (lg_sl ([.int x0, .int x1, .int x2]) ++ List.replicate (3 - (lg_sl ([.int x0, .int x1, .int x2])).length) Slot.unset).toArray = ls at hl ⊢
  have hl : lv_has ls 3 [(0, .int x0), (1, .int x1), (2, .int x2)] := hl
  unfold f_X9_needRange at hf
  refine lv_iload_n hx hb dX9_needRange_0 rfl (lv_at hl 0 rfl) ?_
  refine lv_iload_n hx hb dX9_needRange_1 rfl (lv_at hl 1 rfl) ?_
  refine lv_icmp_lt (tgt := 10) hx hb dX9_needRange_2 (by decide) (fun c2 => ?_) (fun c2 => ?_)
  · replace hf := zz_pos c2 hf
    exact bk_X9_needRange_10 X hE hT hR (lv_sub hl [] rfl) hf
  · replace hf := zz_neg c2 hf
    refine lv_iload_n hx hb dX9_needRange_5 rfl (lv_at hl 0 rfl) ?_
    refine lv_iload_n hx hb dX9_needRange_6 rfl (lv_at hl 2 rfl) ?_
    refine lv_icmp_le (tgt := 21) hx hb dX9_needRange_7 (by decide) (fun c7 => ?_) (fun c7 => ?_)
    · replace hf := zz_pos c7 hf
      cases hf
      exact zx_ret (zr_vret X hR dX9_needRange_21 (Nat.le_of_ble_eq_true rfl) (Nat.le_of_ble_eq_true rfl))
    · replace hf := zz_neg c7 hf
      exact bk_X9_needRange_10 X hE hT hR (lv_sub hl [] rfl) hf
def rm_X9_needRoom : Room := { frames := 6, cells := 1, slots := 6, locals := 90 }
theorem mf_X9_needRoom : zz_Mf yX9_needRoom cX9_needRoom 2 none 2 := ⟨q_510, q_1, by decide +kernel, by decide +kernel, by decide +kernel⟩
set_option maxHeartbeats 4000000 in
set_option maxRecDepth 100000 in
theorem mt_X9_needRoom {D : va_G} {dA : Nat → ClassId} {base t0 : Nat} {l : Launch} (hT : l.stackTraces = false) (x0 : Int32) (x1 : Int32) (h : zz_H) (n : Nat) {r0 : (Unit ⊕ Nat)} (hf : f_X9_needRoom x0 x1 h = some r0) : zz_MX D dA base t0 l yX9_needRoom cX9_needRoom 2 none rm_X9_needRoom [.int x0, .int x1] h n (zz_ov (fun _ : Unit => (none : Option Value)) r0) h n := by
  refine vx_ofW (cc := cX9_needRoom) (maxL := 2) (ret := none) (by decide +kernel) rfl ?_
  intro p e s m args below meth c s₁ B hml hE hv
  obtain ⟨rfl, hP, hK⟩ := hv
  have X : zz_X D dA base t0 "Springseat" cX9_needRoom 2 none l p s m meth c := ⟨B.exec, B.bytes, hml, B.returns, findClass_of_methodNamed B.named, B.notSynchronized, hT, by rw [hP.1]; exact hP.2.1, hK⟩
  have hx := X.1
  have hb := X.2.1
  have hown := X.2.2.2.2.1
  have hR : zz_R D dA base h n s s.heap [] := ⟨hP, va_S.rf⟩
  have hl := lv_entry ([.int x0, .int x1]) (n := 2) (by exact Nat.le_of_ble_eq_true rfl)
  rw [lg_entry_eq]
  generalize (lg_sl ([.int x0, .int x1]) ++ List.replicate (2 - (lg_sl ([.int x0, .int x1])).length) Slot.unset).toArray = ls at hl ⊢
  have hl : lv_has ls 2 [(0, .int x0), (1, .int x1)] := hl
  unfold f_X9_needRoom at hf
  refine lv_iload_n hx hb dX9_needRoom_0 rfl (lv_at hl 0 rfl) ?_
  refine lv_iload_n hx hb dX9_needRoom_1 rfl (lv_at hl 1 rfl) ?_
  refine lv_icmp_lt (tgt := 16) hx hb dX9_needRoom_2 (by decide) (fun c2 => ?_) (fun c2 => ?_)
  · replace hf := zz_pos c2 hf
    cases hf
    exact zx_ret (zr_vret X hR dX9_needRoom_16 (Nat.le_of_ble_eq_true rfl) (Nat.le_of_ble_eq_true rfl))
  · replace hf := zz_neg c2 hf
    cases hf
    exact zx_throwW X hE hR hl.1 (k := 1) (names := ["java/lang/RuntimeException", "java/lang/Exception"]) tw_10_392.1 tw_10_392.2.1 rfl q_511 q_15 (List.mem_of_getElem? (i := 4) rfl) tw_10_392.2.2.1 tw_10_392.2.2.2 dX9_needRoom_5 dX9_needRoom_8 dX9_needRoom_9 dX9_needRoom_12 dX9_needRoom_15 (Nat.le_of_ble_eq_true rfl) ⟨Nat.le_of_ble_eq_true rfl, Nat.le_of_ble_eq_true rfl⟩ ⟨Nat.le_of_ble_eq_true rfl, Nat.le_of_ble_eq_true rfl⟩ (Nat.le_of_ble_eq_true rfl) (Nat.le_of_ble_eq_true rfl) (Nat.le_refl _)
def rm_X9_seat : Room := { frames := 7, cells := 20, slots := 253, locals := 122 }
theorem mf_X9_seat : zz_Mf yX9_seat cX9_seat 3 (some .int) 2 := ⟨q_488, q_1, by decide +kernel, by decide +kernel, by decide +kernel⟩
set_option maxHeartbeats 4000000 in
set_option maxRecDepth 100000 in
theorem mt_X9_seat {D : va_G} {dA : Nat → ClassId} {base t0 : Nat} {l : Launch} (hT : l.stackTraces = false) (a0 : Nat) (x1 : Int32) (x2 : Int32) (h : zz_H) (n : Nat) {r0 : (Int32 ⊕ Nat)} {hF : zz_H} {nF : Nat} (hf : f_X9_seat t0 a0 x1 x2 h n = some (r0, hF, nF)) : zz_MX D dA base t0 l yX9_seat cX9_seat 3 (some .int) rm_X9_seat [.ref a0, .int x1, .int x2] h n (zz_ov (fun v : Int32 => some (Value.int v)) r0) hF nF := by
  refine vx_ofW (cc := cX9_seat) (maxL := 3) (ret := (some .int)) (by decide +kernel) rfl ?_
  intro p e s m args below meth c s₁ B hml hE hv
  obtain ⟨rfl, hP, hK⟩ := hv
  have X : zz_X D dA base t0 "Springseat" cX9_seat 3 (some .int) l p s m meth c := ⟨B.exec, B.bytes, hml, B.returns, findClass_of_methodNamed B.named, B.notSynchronized, hT, by rw [hP.1]; exact hP.2.1, hK⟩
  have hx := X.1
  have hb := X.2.1
  have hown := X.2.2.2.2.1
  have hR : zz_R D dA base h n s s.heap [] := ⟨hP, va_S.rf⟩
  have hl := lv_entry ([.ref a0, .int x1, .int x2]) (n := 3) (by exact Nat.le_of_ble_eq_true rfl)
  rw [lg_entry_eq]
  generalize (lg_sl ([.ref a0, .int x1, .int x2]) ++ List.replicate (3 - (lg_sl ([.ref a0, .int x1, .int x2])).length) Slot.unset).toArray = ls at hl ⊢
  have hl : lv_has ls 3 [(0, .ref a0), (1, .int x1), (2, .int x2)] := hl
  unfold f_X9_seat at hf
  refine lv_iload_n hx hb dX9_seat_0 rfl (lv_at hl 1 rfl) ?_
  refine lv_iconst (v := (1 : Int32)) hx hb dX9_seat_1 (by decide) ?_
  refine lv_bipush (v := (6 : Int32)) hx hb dX9_seat_2 (by decide) ?_
  refine zx_cS X hE hR hl.1 (As := [.int x1, .int (1 : Int32), .int (6 : Int32)]) (rest := []) (ov := (fun _ : Unit => (none : Option Value))) (fun r hr => mt_X9_needRange hT x1 (1 : Int32) (6 : Int32) h n hr) mf_X9_needRange q_489 q_490 ⟨Nat.le_of_ble_eq_true rfl, Nat.le_of_ble_eq_true rfl⟩ ⟨Nat.le_of_ble_eq_true rfl, Nat.le_of_ble_eq_true rfl⟩ rfl (Nat.le_of_ble_eq_true rfl) dX9_seat_4 hf (fun k e => by cases e; exact ⟨rfl, rfl, Nat.le_refl _⟩) (Nat.le_of_ble_eq_true rfl) (Nat.le_of_ble_eq_true rfl) (fun v4 hf H locs hR => ?_)
  refine W.eq (g2 := F0 m 7 ls []) rfl ?_
  refine W.widen (k := 1) (n := 6) (Nat.le_of_ble_eq_true rfl) (Nat.le_of_ble_eq_true rfl) ?_
  refine lv_iload_n hx hb dX9_seat_7 rfl (lv_at hl 2 rfl) ?_
  refine lv_iconst (v := (1 : Int32)) hx hb dX9_seat_8 (by decide) ?_
  refine lv_bipush (v := (6 : Int32)) hx hb dX9_seat_9 (by decide) ?_
  refine zx_cS X hE hR hl.1 (As := [.int x2, .int (1 : Int32), .int (6 : Int32)]) (rest := []) (ov := (fun _ : Unit => (none : Option Value))) (fun r hr => mt_X9_needRange hT x2 (1 : Int32) (6 : Int32) h n hr) mf_X9_needRange q_489 q_490 ⟨Nat.le_of_ble_eq_true rfl, Nat.le_of_ble_eq_true rfl⟩ ⟨Nat.le_of_ble_eq_true rfl, Nat.le_of_ble_eq_true rfl⟩ rfl (Nat.le_of_ble_eq_true rfl) dX9_seat_11 hf (fun k e => by cases e; exact ⟨rfl, rfl, Nat.le_refl _⟩) (Nat.le_of_ble_eq_true rfl) (Nat.le_of_ble_eq_true rfl) (fun v11 hf H locs hR => ?_)
  refine W.eq (g2 := F0 m 14 ls []) rfl ?_
  refine W.widen (k := 2) (n := 12) (Nat.le_of_ble_eq_true rfl) (Nat.le_of_ble_eq_true rfl) ?_
  refine lv_aload_n hx hb dX9_seat_14 rfl (lv_at hl 0 rfl) ?_
  refine zr_gq X hR (r := (some a0)) fl_X9_10 dX9_seat_15 hf (fun v15 hf => ?_)
  obtain ⟨b18, fs18, hr18, ho18, hf⟩ := zz_ob_i hf
  obtain ⟨v18, hv18, hf⟩ := zz_b_i hf
  refine zr_cV X hR hl.1 (As := []) (rest := []) (C := RJx4a65c) (T := TJx4a65c) (N := 3) (mt_Jx4a65c_size_8abf5 hT b18 h n hv18) rfl ho18 mf_Jx4a65c_size_8abf5 q_176 q_177 q_178 ⟨Nat.le_of_ble_eq_true rfl, Nat.le_of_ble_eq_true rfl⟩ ⟨Nat.le_of_ble_eq_true rfl, Nat.le_of_ble_eq_true rfl⟩ (by rw [hr18]; rfl) (Nat.le_of_ble_eq_true rfl) dX9_seat_18 (fun H locs hR => ?_)
  refine W.eq (g2 := F0 m 21 ls [.int v18]) rfl ?_
  refine lv_iconst (v := (4 : Int32)) hx hb dX9_seat_21 (by decide) ?_
  refine zx_cS X hE hR hl.1 (As := [.int v18, .int (4 : Int32)]) (rest := []) (ov := (fun _ : Unit => (none : Option Value))) (fun r hr => mt_X9_needRoom hT v18 (4 : Int32) h n hr) mf_X9_needRoom q_508 q_509 ⟨Nat.le_of_ble_eq_true rfl, Nat.le_of_ble_eq_true rfl⟩ ⟨Nat.le_of_ble_eq_true rfl, Nat.le_of_ble_eq_true rfl⟩ rfl (Nat.le_of_ble_eq_true rfl) dX9_seat_22 hf (fun k e => by cases e; exact ⟨rfl, rfl, Nat.le_refl _⟩) (Nat.le_of_ble_eq_true rfl) (Nat.le_of_ble_eq_true rfl) (fun v22 hf H locs hR => ?_)
  refine W.eq (g2 := F0 m 25 ls []) rfl ?_
  refine W.widen (k := 3) (n := 18) (Nat.le_of_ble_eq_true rfl) (Nat.le_of_ble_eq_true rfl) ?_
  refine lv_aload_n hx hb dX9_seat_25 rfl (lv_at hl 0 rfl) ?_
  refine zr_gq X hR (r := (some a0)) fl_X9_10 dX9_seat_26 hf (fun v26 hf => ?_)
  refine zr_new X hR (fs := [.null, .null, .null, .null, .null, .int 0]) zc8 q_267 q_299 q_16 (fun j hj => by rcases (show j = 0 ∨ j = 1 ∨ j = 2 ∨ j = 3 ∨ j = 4 ∨ j = 5 by omega) with rfl | rfl | rfl | rfl | rfl | rfl <;> rfl) (Nat.le_of_ble_eq_true rfl) (Nat.le_of_ble_eq_true rfl) dX9_seat_29 (fun H hR => ?_)
  refine W.widen (k := 4) (n := 24) (Nat.le_of_ble_eq_true rfl) (Nat.le_of_ble_eq_true rfl) ?_
  refine lv_dup hx hb dX9_seat_32 rfl ?_
  refine lv_iload_n hx hb dX9_seat_33 rfl (lv_at hl 1 rfl) ?_
  refine lv_iload_n hx hb dX9_seat_34 rfl (lv_at hl 2 rfl) ?_
  obtain ⟨u35, h35, n35, hv35, hf⟩ := zz_b2_i hf
  refine zr_cI X hR hl.1 (As := [.int x1, .int x2]) (rest := [.ref n, va_rf v26]) (mt_X7_init hT n x1 x2 (zz_u h n (.inr (8, [.null, .null, .null, .null, .null, .int 0]))) (n + 1) hv35) mf_X7_init rfl q_527 q_528 ⟨Nat.le_of_ble_eq_true rfl, Nat.le_of_ble_eq_true rfl⟩ ⟨Nat.le_of_ble_eq_true rfl, Nat.le_of_ble_eq_true rfl⟩ rfl (Nat.le_of_ble_eq_true rfl) dX9_seat_35 (fun H locs hR => ?_)
  refine W.eq (g2 := F0 m 38 ls [.ref n, va_rf v26]) rfl ?_
  refine W.widen (k := 19) (n := 243) (Nat.le_of_ble_eq_true rfl) (Nat.le_of_ble_eq_true rfl) ?_
  obtain ⟨b38, fs38, hr38, ho38, hf⟩ := zz_ob_i hf
  obtain ⟨v38, h38, n38, hv38, hf⟩ := zz_b2_i hf
  refine zr_cV X hR hl.1 (As := [.ref n]) (rest := []) (C := RJx4a65c) (T := TJx4a65c) (N := 3) (mt_Jx4a65c_add_9ea2d hT b38 (some n) h35 n35 hv38) rfl ho38 mf_Jx4a65c_add_9ea2d q_86 q_87 q_88 ⟨Nat.le_of_ble_eq_true rfl, Nat.le_of_ble_eq_true rfl⟩ ⟨Nat.le_of_ble_eq_true rfl, Nat.le_of_ble_eq_true rfl⟩ (by rw [hr38]; rfl) (Nat.le_of_ble_eq_true rfl) dX9_seat_38 (fun H locs hR => ?_)
  refine W.eq (g2 := F0 m 41 ls [.int v38]) rfl ?_
  refine W.widen (k := 20) (n := 253) (Nat.le_of_ble_eq_true rfl) (Nat.le_of_ble_eq_true rfl) ?_
  refine lv_pop hx hb dX9_seat_41 rfl ?_
  refine lv_aload_n hx hb dX9_seat_42 rfl (lv_at hl 0 rfl) ?_
  refine zr_gq X hR (r := (some a0)) fl_X9_10 dX9_seat_43 hf (fun v43 hf => ?_)
  obtain ⟨b46, fs46, hr46, ho46, hf⟩ := zz_ob_i hf
  obtain ⟨v46, hv46, hf⟩ := zz_b_i hf
  refine zr_cV X hR hl.1 (As := []) (rest := []) (C := RJx4a65c) (T := TJx4a65c) (N := 3) (mt_Jx4a65c_size_8abf5 hT b46 h38 n38 hv46) rfl ho46 mf_Jx4a65c_size_8abf5 q_176 q_177 q_178 ⟨Nat.le_of_ble_eq_true rfl, Nat.le_of_ble_eq_true rfl⟩ ⟨Nat.le_of_ble_eq_true rfl, Nat.le_of_ble_eq_true rfl⟩ (by rw [hr46]; rfl) (Nat.le_of_ble_eq_true rfl) dX9_seat_46 (fun H locs hR => ?_)
  refine W.eq (g2 := F0 m 49 ls [.int v46]) rfl ?_
  refine lv_iconst (v := (1 : Int32)) hx hb dX9_seat_49 (by decide) ?_
  refine lv_isub hx hb dX9_seat_50 ?_
  cases hf
  exact zx_ret (zr_iret X hR dX9_seat_51 (Nat.le_of_ble_eq_true rfl) (Nat.le_of_ble_eq_true rfl))
def rm_X9_needIndex : Room := { frames := 6, cells := 1, slots := 6, locals := 90 }
theorem mf_X9_needIndex : zz_Mf yX9_needIndex cX9_needIndex 2 none 2 := ⟨q_182, q_1, by decide +kernel, by decide +kernel, by decide +kernel⟩
set_option maxHeartbeats 4000000 in
set_option maxRecDepth 100000 in
theorem bk_X9_needIndex_9 {D : va_G} {dA : Nat → ClassId} {base t0 : Nat} {l : Launch} {p : Program} {e : Env} {s : State} {m : MethodId} {args : Array Value} {below : List Frame} {meth : Method} {c : Code} (X : zz_X D dA base t0 "Springseat" cX9_needIndex 2 none l p s m meth c) (hE : ∀ x ∈ c.exceptionTable.toList, False) (hT : l.stackTraces = false) {h : zz_H} {n : Nat} {H : Heap} {locs : List Loc} {ls : Array Slot} (hR : zz_R D dA base h n s H locs) (hl : lv_has ls 2 []) {r0 : (Unit ⊕ Nat)} (hf : f_X9_needIndex_9 h = some r0) : W p l e rm_X9_needIndex s m args below meth c H locs 0 0 (vx_MQ below (zz_Qo D dA base (zz_ov (fun _ : Unit => (none : Option Value)) r0) h n) (zz_Xo D dA base (zz_ov (fun _ : Unit => (none : Option Value)) r0) h n) args s rm_X9_needIndex.cells rm_X9_needIndex.slots (fun q => base ≤ q)) (F0 m 9 ls []) := by
  have hx := X.1
  have hb := X.2.1
  have hown := X.2.2.2.2.1
  unfold f_X9_needIndex_9 at hf
  cases hf
  exact zx_throwW X hE hR hl.1 (k := 2) (names := ["java/lang/RuntimeException", "java/lang/Exception"]) tw_10_378.1 tw_10_378.2.1 rfl q_183 q_21 (List.mem_of_getElem? (i := 0) rfl) tw_10_378.2.2.1 tw_10_378.2.2.2 dX9_needIndex_9 dX9_needIndex_12 dX9_needIndex_13 dX9_needIndex_16 dX9_needIndex_19 (Nat.le_of_ble_eq_true rfl) ⟨Nat.le_of_ble_eq_true rfl, Nat.le_of_ble_eq_true rfl⟩ ⟨Nat.le_of_ble_eq_true rfl, Nat.le_of_ble_eq_true rfl⟩ (Nat.le_of_ble_eq_true rfl) (Nat.le_of_ble_eq_true rfl) (Nat.le_refl _)
set_option maxHeartbeats 4000000 in
set_option maxRecDepth 100000 in
theorem mt_X9_needIndex {D : va_G} {dA : Nat → ClassId} {base t0 : Nat} {l : Launch} (hT : l.stackTraces = false) (x0 : Int32) (x1 : Int32) (h : zz_H) (n : Nat) {r0 : (Unit ⊕ Nat)} (hf : f_X9_needIndex x0 x1 h = some r0) : zz_MX D dA base t0 l yX9_needIndex cX9_needIndex 2 none rm_X9_needIndex [.int x0, .int x1] h n (zz_ov (fun _ : Unit => (none : Option Value)) r0) h n := by
  refine vx_ofW (cc := cX9_needIndex) (maxL := 2) (ret := none) (by decide +kernel) rfl ?_
  intro p e s m args below meth c s₁ B hml hE hv
  obtain ⟨rfl, hP, hK⟩ := hv
  have X : zz_X D dA base t0 "Springseat" cX9_needIndex 2 none l p s m meth c := ⟨B.exec, B.bytes, hml, B.returns, findClass_of_methodNamed B.named, B.notSynchronized, hT, by rw [hP.1]; exact hP.2.1, hK⟩
  have hx := X.1
  have hb := X.2.1
  have hown := X.2.2.2.2.1
  have hR : zz_R D dA base h n s s.heap [] := ⟨hP, va_S.rf⟩
  have hl := lv_entry ([.int x0, .int x1]) (n := 2) (by exact Nat.le_of_ble_eq_true rfl)
  rw [lg_entry_eq]
  generalize (lg_sl ([.int x0, .int x1]) ++ List.replicate (2 - (lg_sl ([.int x0, .int x1])).length) Slot.unset).toArray = ls at hl ⊢
  have hl : lv_has ls 2 [(0, .int x0), (1, .int x1)] := hl
  unfold f_X9_needIndex at hf
  refine lv_iload_n hx hb dX9_needIndex_0 rfl (lv_at hl 0 rfl) ?_
  refine lv_if_lt (tgt := 9) hx hb dX9_needIndex_1 (by decide) (fun c1 => ?_) (fun c1 => ?_)
  · replace hf := zz_pos c1 hf
    exact bk_X9_needIndex_9 X hE hT hR (lv_sub hl [] rfl) hf
  · replace hf := zz_neg c1 hf
    refine lv_iload_n hx hb dX9_needIndex_4 rfl (lv_at hl 0 rfl) ?_
    refine lv_iload_n hx hb dX9_needIndex_5 rfl (lv_at hl 1 rfl) ?_
    refine lv_icmp_lt (tgt := 20) hx hb dX9_needIndex_6 (by decide) (fun c6 => ?_) (fun c6 => ?_)
    · replace hf := zz_pos c6 hf
      cases hf
      exact zx_ret (zr_vret X hR dX9_needIndex_20 (Nat.le_of_ble_eq_true rfl) (Nat.le_of_ble_eq_true rfl))
    · replace hf := zz_neg c6 hf
      exact bk_X9_needIndex_9 X hE hT hR (lv_sub hl [] rfl) hf
def rm_X9_seatOf : Room := { frames := 7, cells := 1, slots := 6, locals := 111 }
theorem mf_X9_seatOf : zz_Mf yX9_seatOf cX9_seatOf 2 (some (.object "Springseat$Seat")) 1 := ⟨q_175, q_1, by decide +kernel, by decide +kernel, by decide +kernel⟩
set_option maxHeartbeats 4000000 in
set_option maxRecDepth 100000 in
theorem mt_X9_seatOf {D : va_G} {dA : Nat → ClassId} {base t0 : Nat} {l : Launch} (hT : l.stackTraces = false) (a0 : Nat) (x1 : Int32) (h : zz_H) (n : Nat) {r0 : ((Option Nat) ⊕ Nat)} (hf : f_X9_seatOf a0 x1 h = some r0) : zz_MX D dA base t0 l yX9_seatOf cX9_seatOf 2 (some (.object "Springseat$Seat")) rm_X9_seatOf [.ref a0, .int x1] h n (zz_ov (fun v : Option Nat => some (va_rf v)) r0) h n := by
  refine vx_ofW (cc := cX9_seatOf) (maxL := 2) (ret := (some (.object "Springseat$Seat"))) (by decide +kernel) rfl ?_
  intro p e s m args below meth c s₁ B hml hE hv
  obtain ⟨rfl, hP, hK⟩ := hv
  have X : zz_X D dA base t0 "Springseat" cX9_seatOf 2 (some (.object "Springseat$Seat")) l p s m meth c := ⟨B.exec, B.bytes, hml, B.returns, findClass_of_methodNamed B.named, B.notSynchronized, hT, by rw [hP.1]; exact hP.2.1, hK⟩
  have hx := X.1
  have hb := X.2.1
  have hown := X.2.2.2.2.1
  have hR : zz_R D dA base h n s s.heap [] := ⟨hP, va_S.rf⟩
  have hl := lv_entry ([.ref a0, .int x1]) (n := 2) (by exact Nat.le_of_ble_eq_true rfl)
  rw [lg_entry_eq]
  generalize (lg_sl ([.ref a0, .int x1]) ++ List.replicate (2 - (lg_sl ([.ref a0, .int x1])).length) Slot.unset).toArray = ls at hl ⊢
  have hl : lv_has ls 2 [(0, .ref a0), (1, .int x1)] := hl
  unfold f_X9_seatOf at hf
  refine lv_iload_n hx hb dX9_seatOf_0 rfl (lv_at hl 1 rfl) ?_
  refine lv_aload_n hx hb dX9_seatOf_1 rfl (lv_at hl 0 rfl) ?_
  refine zr_gq X hR (r := (some a0)) fl_X9_10 dX9_seatOf_2 hf (fun v2 hf => ?_)
  obtain ⟨b5, fs5, hr5, ho5, hf⟩ := zz_ob_i hf
  obtain ⟨v5, hv5, hf⟩ := zz_b_i hf
  refine zr_cV X hR hl.1 (As := []) (rest := [.int x1]) (C := RJx4a65c) (T := TJx4a65c) (N := 3) (mt_Jx4a65c_size_8abf5 hT b5 h n hv5) rfl ho5 mf_Jx4a65c_size_8abf5 q_176 q_177 q_178 ⟨Nat.le_of_ble_eq_true rfl, Nat.le_of_ble_eq_true rfl⟩ ⟨Nat.le_of_ble_eq_true rfl, Nat.le_of_ble_eq_true rfl⟩ (by rw [hr5]; rfl) (Nat.le_of_ble_eq_true rfl) dX9_seatOf_5 (fun H locs hR => ?_)
  refine W.eq (g2 := F0 m 8 ls [.int v5, .int x1]) rfl ?_
  refine zx_cS X hE hR hl.1 (As := [.int x1, .int v5]) (rest := []) (ov := (fun _ : Unit => (none : Option Value))) (fun r hr => mt_X9_needIndex hT x1 v5 h n hr) mf_X9_needIndex q_180 q_181 ⟨Nat.le_of_ble_eq_true rfl, Nat.le_of_ble_eq_true rfl⟩ ⟨Nat.le_of_ble_eq_true rfl, Nat.le_of_ble_eq_true rfl⟩ rfl (Nat.le_of_ble_eq_true rfl) dX9_seatOf_8 hf (fun k e => by cases e; exact ⟨rfl, rfl, Nat.le_refl _⟩) (Nat.le_of_ble_eq_true rfl) (Nat.le_of_ble_eq_true rfl) (fun v8 hf H locs hR => ?_)
  refine W.eq (g2 := F0 m 11 ls []) rfl ?_
  refine W.widen (k := 1) (n := 6) (Nat.le_of_ble_eq_true rfl) (Nat.le_of_ble_eq_true rfl) ?_
  refine lv_aload_n hx hb dX9_seatOf_11 rfl (lv_at hl 0 rfl) ?_
  refine zr_gq X hR (r := (some a0)) fl_X9_10 dX9_seatOf_12 hf (fun v12 hf => ?_)
  refine lv_iload_n hx hb dX9_seatOf_15 rfl (lv_at hl 1 rfl) ?_
  obtain ⟨b16, fs16, hr16, ho16, hf⟩ := zz_ob_i hf
  obtain ⟨v16, hv16, hf⟩ := zz_b_i hf
  refine zr_cV X hR hl.1 (As := [.int x1]) (rest := []) (C := RJx4a65c) (T := TJx4a65c) (N := 3) (mt_Jx4a65c_get_915e3 hT b16 x1 h n hv16) rfl ho16 mf_Jx4a65c_get_915e3 q_253 q_254 q_255 ⟨Nat.le_of_ble_eq_true rfl, Nat.le_of_ble_eq_true rfl⟩ ⟨Nat.le_of_ble_eq_true rfl, Nat.le_of_ble_eq_true rfl⟩ (by rw [hr16]; rfl) (Nat.le_of_ble_eq_true rfl) dX9_seatOf_16 (fun H locs hR => ?_)
  refine W.eq (g2 := F0 m 19 ls [va_rf v16]) rfl ?_
  refine zr_cc X hR (ci := 8) (C := RX7) (T := TX7) (N := 6) (r := v16) rfl q_267 (Or.inr trivial) dX9_seatOf_19 hf (fun hf => ?_)
  cases hf
  exact zx_ret (zr_aret (Or.inl ⟨_, rfl⟩) X hR (r := _) dX9_seatOf_22 (Nat.le_of_ble_eq_true rfl) (Nat.le_of_ble_eq_true rfl))
def rm_X9_needNext : Room := { frames := 6, cells := 1, slots := 6, locals := 90 }
theorem mf_X9_needNext : zz_Mf yX9_needNext cX9_needNext 2 none 2 := ⟨q_672, q_1, by decide +kernel, by decide +kernel, by decide +kernel⟩
set_option maxHeartbeats 4000000 in
set_option maxRecDepth 100000 in
theorem mt_X9_needNext {D : va_G} {dA : Nat → ClassId} {base t0 : Nat} {l : Launch} (hT : l.stackTraces = false) (x0 : (Option Nat)) (x1 : Int32) (h : zz_H) (n : Nat) {r0 : (Unit ⊕ Nat)} (hf : f_X9_needNext x0 x1 h = some r0) : zz_MX D dA base t0 l yX9_needNext cX9_needNext 2 none rm_X9_needNext [va_rf x0, .int x1] h n (zz_ov (fun _ : Unit => (none : Option Value)) r0) h n := by
  refine vx_ofW (cc := cX9_needNext) (maxL := 2) (ret := none) (by decide +kernel) rfl ?_
  intro p e s m args below meth c s₁ B hml hE hv
  obtain ⟨rfl, hP, hK⟩ := hv
  have X : zz_X D dA base t0 "Springseat" cX9_needNext 2 none l p s m meth c := ⟨B.exec, B.bytes, hml, B.returns, findClass_of_methodNamed B.named, B.notSynchronized, hT, by rw [hP.1]; exact hP.2.1, hK⟩
  have hx := X.1
  have hb := X.2.1
  have hown := X.2.2.2.2.1
  have hR : zz_R D dA base h n s s.heap [] := ⟨hP, va_S.rf⟩
  have hl := lv_entry ([va_rf x0, .int x1]) (n := 2) (by cases x0 <;> exact Nat.le_of_ble_eq_true rfl)
  rw [lg_entry_eq]
  generalize (lg_sl ([va_rf x0, .int x1]) ++ List.replicate (2 - (lg_sl ([va_rf x0, .int x1])).length) Slot.unset).toArray = ls at hl ⊢
  have hl : lv_has ls 2 [(0, va_rf x0), (1, .int x1)] := by rw [show ([(0, va_rf x0), (1, .int x1)] : List (Nat × Value)) = lv_args 0 [va_rf x0, .int x1] from by cases x0 <;> rfl]; exact hl
  unfold f_X9_needNext at hf
  refine zr_aload_n hx hb dX9_needNext_0 rfl (lv_at hl 0 rfl) ?_
  refine zr_gqN X hR (r := x0) fn_X9_76 dX9_needNext_1 hf (fun v1 hf => ?_)
  refine lv_iload_n hx hb dX9_needNext_4 rfl (lv_at hl 1 rfl) ?_
  obtain ⟨b5, fs5, hr5, ho5, hf⟩ := zz_ob_i hf
  obtain ⟨v5, hv5, hf⟩ := zz_b_i hf
  refine zr_cV X hR hl.1 (As := [.int x1]) (rest := []) (C := RX8) (T := TX8) (N := 3) (mt_X8_mayCome hT b5 x1 h n hv5) rfl ho5 mf_X8_mayCome q_673 q_674 q_675 ⟨Nat.le_of_ble_eq_true rfl, Nat.le_of_ble_eq_true rfl⟩ ⟨Nat.le_of_ble_eq_true rfl, Nat.le_of_ble_eq_true rfl⟩ (by rw [hr5]; rfl) (Nat.le_of_ble_eq_true rfl) dX9_needNext_5 (fun H locs hR => ?_)
  refine W.eq (g2 := F0 m 8 ls [.int v5]) rfl ?_
  refine lv_if_ne (tgt := 22) hx hb dX9_needNext_8 (by decide) (fun c8 => ?_) (fun c8 => ?_)
  · replace hf := zz_neg c8 hf
    cases hf
    exact zx_ret (zr_vret X hR dX9_needNext_22 (Nat.le_of_ble_eq_true rfl) (Nat.le_of_ble_eq_true rfl))
  · replace hf := zz_pos c8 hf
    cases hf
    exact zx_throwW X hE hR hl.1 (k := 3) (names := ["java/lang/RuntimeException", "java/lang/Exception"]) tw_10_184.1 tw_10_184.2.1 rfl q_315 q_24 (List.mem_of_getElem? (i := 5) rfl) tw_10_184.2.2.1 tw_10_184.2.2.2 dX9_needNext_11 dX9_needNext_14 dX9_needNext_15 dX9_needNext_18 dX9_needNext_21 (Nat.le_of_ble_eq_true rfl) ⟨Nat.le_of_ble_eq_true rfl, Nat.le_of_ble_eq_true rfl⟩ ⟨Nat.le_of_ble_eq_true rfl, Nat.le_of_ble_eq_true rfl⟩ (Nat.le_of_ble_eq_true rfl) (Nat.le_of_ble_eq_true rfl) (Nat.le_refl _)
def rm_X9_web : Room := { frames := 8, cells := 3, slots := 18, locals := 132 }
theorem mf_X9_web : zz_Mf yX9_web cX9_web 4 (some .int) 2 := ⟨q_669, q_1, by decide +kernel, by decide +kernel, by decide +kernel⟩
set_option maxHeartbeats 4000000 in
set_option maxRecDepth 100000 in
theorem mt_X9_web {D : va_G} {dA : Nat → ClassId} {base t0 : Nat} {l : Launch} (hT : l.stackTraces = false) (a0 : Nat) (x1 : Int32) (x2 : Int32) (h : zz_H) (n : Nat) {r0 : (Int32 ⊕ Nat)} {hF : zz_H} (hf : f_X9_web a0 x1 x2 h = some (r0, hF)) : zz_MX D dA base t0 l yX9_web cX9_web 4 (some .int) rm_X9_web [.ref a0, .int x1, .int x2] h n (zz_ov (fun v : Int32 => some (Value.int v)) r0) hF n := by
  refine vx_ofW (cc := cX9_web) (maxL := 4) (ret := (some .int)) (by decide +kernel) rfl ?_
  intro p e s m args below meth c s₁ B hml hE hv
  obtain ⟨rfl, hP, hK⟩ := hv
  have X : zz_X D dA base t0 "Springseat" cX9_web 4 (some .int) l p s m meth c := ⟨B.exec, B.bytes, hml, B.returns, findClass_of_methodNamed B.named, B.notSynchronized, hT, by rw [hP.1]; exact hP.2.1, hK⟩
  have hx := X.1
  have hb := X.2.1
  have hown := X.2.2.2.2.1
  have hR : zz_R D dA base h n s s.heap [] := ⟨hP, va_S.rf⟩
  have hl := lv_entry ([.ref a0, .int x1, .int x2]) (n := 4) (by exact Nat.le_of_ble_eq_true rfl)
  rw [lg_entry_eq]
  generalize (lg_sl ([.ref a0, .int x1, .int x2]) ++ List.replicate (4 - (lg_sl ([.ref a0, .int x1, .int x2])).length) Slot.unset).toArray = ls at hl ⊢
  have hl : lv_has ls 4 [(0, .ref a0), (1, .int x1), (2, .int x2)] := hl
  unfold f_X9_web at hf
  refine lv_aload_n hx hb dX9_web_0 rfl (lv_at hl 0 rfl) ?_
  refine lv_iload_n hx hb dX9_web_1 rfl (lv_at hl 1 rfl) ?_
  obtain ⟨fs2, ho2, hf⟩ := zz_obS_i hf
  refine zx_cV X hE hR hl.1 (As := [.int x1]) (rest := []) (C := RX9) (T := TX9) (N := 6) (ov := (fun v : Option Nat => some (va_rf v))) (fun r hr => mt_X9_seatOf hT a0 x1 h n hr) rfl ho2 mf_X9_seatOf q_172 q_174 qs_3 ⟨Nat.le_of_ble_eq_true rfl, Nat.le_of_ble_eq_true rfl⟩ ⟨Nat.le_of_ble_eq_true rfl, Nat.le_of_ble_eq_true rfl⟩ rfl (Nat.le_of_ble_eq_true rfl) dX9_web_2 hf (fun k e => by cases e; exact ⟨rfl, rfl, Nat.le_refl _⟩) (Nat.le_of_ble_eq_true rfl) (Nat.le_of_ble_eq_true rfl) (fun v2 hf H locs hR => ?_)
  refine W.eq (g2 := F0 m 5 ls [va_rf v2]) rfl ?_
  refine W.widen (k := 1) (n := 6) (Nat.le_of_ble_eq_true rfl) (Nat.le_of_ble_eq_true rfl) ?_
  refine zr_astore_n (i := 3) (lv' := [(3, va_rf v2), (0, .ref a0), (1, .int x1), (2, .int x2)]) hx hb dX9_web_5 rfl hl (by decide) rfl (fun ls hl => ?_)
  refine lv_iload_n hx hb dX9_web_6 rfl (lv_at hl 3 rfl) ?_
  refine lv_iconst (v := (1 : Int32)) hx hb dX9_web_7 (by decide) ?_
  refine lv_bipush (v := (9 : Int32)) hx hb dX9_web_8 (by decide) ?_
  refine zx_cS X hE hR hl.1 (As := [.int x2, .int (1 : Int32), .int (9 : Int32)]) (rest := []) (ov := (fun _ : Unit => (none : Option Value))) (fun r hr => mt_X9_needRange hT x2 (1 : Int32) (9 : Int32) h n hr) mf_X9_needRange q_489 q_490 ⟨Nat.le_of_ble_eq_true rfl, Nat.le_of_ble_eq_true rfl⟩ ⟨Nat.le_of_ble_eq_true rfl, Nat.le_of_ble_eq_true rfl⟩ rfl (Nat.le_of_ble_eq_true rfl) dX9_web_10 hf (fun k e => by cases e; exact ⟨rfl, rfl, Nat.le_refl _⟩) (Nat.le_of_ble_eq_true rfl) (Nat.le_of_ble_eq_true rfl) (fun v10 hf H locs hR => ?_)
  refine W.eq (g2 := F0 m 13 ls []) rfl ?_
  refine W.widen (k := 2) (n := 12) (Nat.le_of_ble_eq_true rfl) (Nat.le_of_ble_eq_true rfl) ?_
  refine zr_aload_n hx hb dX9_web_13 rfl (lv_at hl 0 rfl) ?_
  refine lv_bipush (v := (119 : Int32)) hx hb dX9_web_14 (by decide) ?_
  refine zx_cS X hE hR hl.1 (As := [va_rf v2, .int (119 : Int32)]) (rest := []) (ov := (fun _ : Unit => (none : Option Value))) (fun r hr => mt_X9_needNext hT v2 (119 : Int32) h n hr) mf_X9_needNext q_670 q_671 ⟨Nat.le_of_ble_eq_true rfl, Nat.le_of_ble_eq_true rfl⟩ ⟨Nat.le_of_ble_eq_true rfl, Nat.le_of_ble_eq_true rfl⟩ rfl (Nat.le_of_ble_eq_true rfl) dX9_web_16 hf (fun k e => by cases e; exact ⟨rfl, rfl, Nat.le_refl _⟩) (Nat.le_of_ble_eq_true rfl) (Nat.le_of_ble_eq_true rfl) (fun v16 hf H locs hR => ?_)
  refine W.eq (g2 := F0 m 19 ls []) rfl ?_
  refine W.widen (k := 3) (n := 18) (Nat.le_of_ble_eq_true rfl) (Nat.le_of_ble_eq_true rfl) ?_
  refine zr_aload_n hx hb dX9_web_19 rfl (lv_at hl 0 rfl) ?_
  refine zr_gqN X hR (r := v2) fn_X9_66 dX9_web_20 hf (fun v20 hf => ?_)
  refine lv_iload_n hx hb dX9_web_23 rfl (lv_at hl 3 rfl) ?_
  refine zr_pN X hR (r := v20) (v := .int x2) fn_X9_70 rfl dX9_web_24 rfl rfl hf (fun h24 H locs hf hR => ?_)
  refine zr_aload_n hx hb dX9_web_27 rfl (lv_at hl 0 rfl) ?_
  refine zr_gqN X hR (r := v2) fn_X9_76 dX9_web_28 hf (fun v28 hf => ?_)
  refine lv_bipush (v := (119 : Int32)) hx hb dX9_web_31 (by decide) ?_
  obtain ⟨b33, fs33, hr33, ho33, hf⟩ := zz_ob_i hf
  obtain ⟨v33, h33, hv33, hf⟩ := zz_b1_i hf
  refine zr_cV X hR hl.1 (As := [.int (119 : Int32)]) (rest := []) (C := RX8) (T := TX8) (N := 3) (mt_X8_add hT b33 (119 : Int32) h24 n hv33) rfl ho33 mf_X8_add q_682 q_683 q_684 ⟨Nat.le_of_ble_eq_true rfl, Nat.le_of_ble_eq_true rfl⟩ ⟨Nat.le_of_ble_eq_true rfl, Nat.le_of_ble_eq_true rfl⟩ (by rw [hr33]; rfl) (Nat.le_of_ble_eq_true rfl) dX9_web_33 (fun H locs hR => ?_)
  refine W.eq (g2 := F0 m 36 ls [.int v33]) rfl ?_
  cases hf
  exact zx_ret (zr_iret X hR dX9_web_36 (Nat.le_of_ble_eq_true rfl) (Nat.le_of_ble_eq_true rfl))
def rm_X9_spring : Room := { frames := 8, cells := 4, slots := 24, locals := 132 }
theorem mf_X9_spring : zz_Mf yX9_spring cX9_spring 5 (some .int) 3 := ⟨q_693, q_1, by decide +kernel, by decide +kernel, by decide +kernel⟩
set_option maxHeartbeats 4000000 in
set_option maxRecDepth 100000 in
theorem mt_X9_spring {D : va_G} {dA : Nat → ClassId} {base t0 : Nat} {l : Launch} (hT : l.stackTraces = false) (a0 : Nat) (x1 : Int32) (x2 : Int32) (x3 : Int32) (h : zz_H) (n : Nat) {r0 : (Int32 ⊕ Nat)} {hF : zz_H} (hf : f_X9_spring a0 x1 x2 x3 h = some (r0, hF)) : zz_MX D dA base t0 l yX9_spring cX9_spring 5 (some .int) rm_X9_spring [.ref a0, .int x1, .int x2, .int x3] h n (zz_ov (fun v : Int32 => some (Value.int v)) r0) hF n := by
  refine vx_ofW (cc := cX9_spring) (maxL := 5) (ret := (some .int)) (by decide +kernel) rfl ?_
  intro p e s m args below meth c s₁ B hml hE hv
  obtain ⟨rfl, hP, hK⟩ := hv
  have X : zz_X D dA base t0 "Springseat" cX9_spring 5 (some .int) l p s m meth c := ⟨B.exec, B.bytes, hml, B.returns, findClass_of_methodNamed B.named, B.notSynchronized, hT, by rw [hP.1]; exact hP.2.1, hK⟩
  have hx := X.1
  have hb := X.2.1
  have hown := X.2.2.2.2.1
  have hR : zz_R D dA base h n s s.heap [] := ⟨hP, va_S.rf⟩
  have hl := lv_entry ([.ref a0, .int x1, .int x2, .int x3]) (n := 5) (by exact Nat.le_of_ble_eq_true rfl)
  rw [lg_entry_eq]
  generalize (lg_sl ([.ref a0, .int x1, .int x2, .int x3]) ++ List.replicate (5 - (lg_sl ([.ref a0, .int x1, .int x2, .int x3])).length) Slot.unset).toArray = ls at hl ⊢
  have hl : lv_has ls 5 [(0, .ref a0), (1, .int x1), (2, .int x2), (3, .int x3)] := hl
  unfold f_X9_spring at hf
  refine lv_aload_n hx hb dX9_spring_0 rfl (lv_at hl 0 rfl) ?_
  refine lv_iload_n hx hb dX9_spring_1 rfl (lv_at hl 1 rfl) ?_
  obtain ⟨fs2, ho2, hf⟩ := zz_obS_i hf
  refine zx_cV X hE hR hl.1 (As := [.int x1]) (rest := []) (C := RX9) (T := TX9) (N := 6) (ov := (fun v : Option Nat => some (va_rf v))) (fun r hr => mt_X9_seatOf hT a0 x1 h n hr) rfl ho2 mf_X9_seatOf q_172 q_174 qs_3 ⟨Nat.le_of_ble_eq_true rfl, Nat.le_of_ble_eq_true rfl⟩ ⟨Nat.le_of_ble_eq_true rfl, Nat.le_of_ble_eq_true rfl⟩ rfl (Nat.le_of_ble_eq_true rfl) dX9_spring_2 hf (fun k e => by cases e; exact ⟨rfl, rfl, Nat.le_refl _⟩) (Nat.le_of_ble_eq_true rfl) (Nat.le_of_ble_eq_true rfl) (fun v2 hf H locs hR => ?_)
  refine W.eq (g2 := F0 m 5 ls [va_rf v2]) rfl ?_
  refine W.widen (k := 1) (n := 6) (Nat.le_of_ble_eq_true rfl) (Nat.le_of_ble_eq_true rfl) ?_
  refine zr_astore (i := 4) (lv' := [(4, va_rf v2), (0, .ref a0), (1, .int x1), (2, .int x2), (3, .int x3)]) hx hb dX9_spring_5 hl (by decide) rfl (fun ls hl => ?_)
  refine lv_iload_n hx hb dX9_spring_7 rfl (lv_at hl 3 rfl) ?_
  refine lv_bipush (v := (20 : Int32)) hx hb dX9_spring_8 (by decide) ?_
  refine lv_bipush (v := (99 : Int32)) hx hb dX9_spring_10 (by decide) ?_
  refine zx_cS X hE hR hl.1 (As := [.int x2, .int (20 : Int32), .int (99 : Int32)]) (rest := []) (ov := (fun _ : Unit => (none : Option Value))) (fun r hr => mt_X9_needRange hT x2 (20 : Int32) (99 : Int32) h n hr) mf_X9_needRange q_489 q_490 ⟨Nat.le_of_ble_eq_true rfl, Nat.le_of_ble_eq_true rfl⟩ ⟨Nat.le_of_ble_eq_true rfl, Nat.le_of_ble_eq_true rfl⟩ rfl (Nat.le_of_ble_eq_true rfl) dX9_spring_12 hf (fun k e => by cases e; exact ⟨rfl, rfl, Nat.le_refl _⟩) (Nat.le_of_ble_eq_true rfl) (Nat.le_of_ble_eq_true rfl) (fun v12 hf H locs hR => ?_)
  refine W.eq (g2 := F0 m 15 ls []) rfl ?_
  refine W.widen (k := 2) (n := 12) (Nat.le_of_ble_eq_true rfl) (Nat.le_of_ble_eq_true rfl) ?_
  refine lv_iload_n hx hb dX9_spring_15 rfl (lv_at hl 4 rfl) ?_
  refine lv_iconst (v := (1 : Int32)) hx hb dX9_spring_16 (by decide) ?_
  refine lv_bipush (v := (9 : Int32)) hx hb dX9_spring_17 (by decide) ?_
  refine zx_cS X hE hR hl.1 (As := [.int x3, .int (1 : Int32), .int (9 : Int32)]) (rest := []) (ov := (fun _ : Unit => (none : Option Value))) (fun r hr => mt_X9_needRange hT x3 (1 : Int32) (9 : Int32) h n hr) mf_X9_needRange q_489 q_490 ⟨Nat.le_of_ble_eq_true rfl, Nat.le_of_ble_eq_true rfl⟩ ⟨Nat.le_of_ble_eq_true rfl, Nat.le_of_ble_eq_true rfl⟩ rfl (Nat.le_of_ble_eq_true rfl) dX9_spring_19 hf (fun k e => by cases e; exact ⟨rfl, rfl, Nat.le_refl _⟩) (Nat.le_of_ble_eq_true rfl) (Nat.le_of_ble_eq_true rfl) (fun v19 hf H locs hR => ?_)
  refine W.eq (g2 := F0 m 22 ls []) rfl ?_
  refine W.widen (k := 3) (n := 18) (Nat.le_of_ble_eq_true rfl) (Nat.le_of_ble_eq_true rfl) ?_
  refine zr_aload hx hb dX9_spring_22 (lv_at hl 0 rfl) ?_
  refine lv_bipush (v := (115 : Int32)) hx hb dX9_spring_24 (by decide) ?_
  refine zx_cS X hE hR hl.1 (As := [va_rf v2, .int (115 : Int32)]) (rest := []) (ov := (fun _ : Unit => (none : Option Value))) (fun r hr => mt_X9_needNext hT v2 (115 : Int32) h n hr) mf_X9_needNext q_670 q_671 ⟨Nat.le_of_ble_eq_true rfl, Nat.le_of_ble_eq_true rfl⟩ ⟨Nat.le_of_ble_eq_true rfl, Nat.le_of_ble_eq_true rfl⟩ rfl (Nat.le_of_ble_eq_true rfl) dX9_spring_26 hf (fun k e => by cases e; exact ⟨rfl, rfl, Nat.le_refl _⟩) (Nat.le_of_ble_eq_true rfl) (Nat.le_of_ble_eq_true rfl) (fun v26 hf H locs hR => ?_)
  refine W.eq (g2 := F0 m 29 ls []) rfl ?_
  refine W.widen (k := 4) (n := 24) (Nat.le_of_ble_eq_true rfl) (Nat.le_of_ble_eq_true rfl) ?_
  refine zr_aload hx hb dX9_spring_29 (lv_at hl 0 rfl) ?_
  refine zr_gqN X hR (r := v2) fn_X9_66 dX9_spring_31 hf (fun v31 hf => ?_)
  refine lv_iload_n hx hb dX9_spring_34 rfl (lv_at hl 3 rfl) ?_
  refine lv_iload_n hx hb dX9_spring_35 rfl (lv_at hl 4 rfl) ?_
  obtain ⟨b36, fs36, hr36, ho36, hf⟩ := zz_ob_i hf
  obtain ⟨u36, h36, hv36, hf⟩ := zz_b1_i hf
  refine zr_cV X hR hl.1 (As := [.int x2, .int x3]) (rest := []) (C := RX3) (T := TX3) (N := 7) (mt_X3_putSprings hT b36 x2 x3 h n hv36) rfl ho36 mf_X3_putSprings q_694 q_695 q_696 ⟨Nat.le_of_ble_eq_true rfl, Nat.le_of_ble_eq_true rfl⟩ ⟨Nat.le_of_ble_eq_true rfl, Nat.le_of_ble_eq_true rfl⟩ (by rw [hr36]; rfl) (Nat.le_of_ble_eq_true rfl) dX9_spring_36 (fun H locs hR => ?_)
  refine W.eq (g2 := F0 m 39 ls []) rfl ?_
  refine zr_aload hx hb dX9_spring_39 (lv_at hl 0 rfl) ?_
  refine zr_gqN X hR (r := v2) fn_X9_76 dX9_spring_41 hf (fun v41 hf => ?_)
  refine lv_bipush (v := (115 : Int32)) hx hb dX9_spring_44 (by decide) ?_
  obtain ⟨b46, fs46, hr46, ho46, hf⟩ := zz_ob_i hf
  obtain ⟨v46, h46, hv46, hf⟩ := zz_b1_i hf
  refine zr_cV X hR hl.1 (As := [.int (115 : Int32)]) (rest := []) (C := RX8) (T := TX8) (N := 3) (mt_X8_add hT b46 (115 : Int32) h36 n hv46) rfl ho46 mf_X8_add q_682 q_683 q_684 ⟨Nat.le_of_ble_eq_true rfl, Nat.le_of_ble_eq_true rfl⟩ ⟨Nat.le_of_ble_eq_true rfl, Nat.le_of_ble_eq_true rfl⟩ (by rw [hr46]; rfl) (Nat.le_of_ble_eq_true rfl) dX9_spring_46 (fun H locs hR => ?_)
  refine W.eq (g2 := F0 m 49 ls [.int v46]) rfl ?_
  cases hf
  exact zx_ret (zr_iret X hR dX9_spring_49 (Nat.le_of_ble_eq_true rfl) (Nat.le_of_ble_eq_true rfl))
def rm_X9_needCellIn : Room := { frames := 7, cells := 2, slots := 12, locals := 111 }
theorem mf_X9_needCellIn : zz_Mf yX9_needCellIn cX9_needCellIn 3 none 3 := ⟨q_717, q_1, by decide +kernel, by decide +kernel, by decide +kernel⟩
set_option maxHeartbeats 4000000 in
set_option maxRecDepth 100000 in
theorem mt_X9_needCellIn {D : va_G} {dA : Nat → ClassId} {base t0 : Nat} {l : Launch} (hT : l.stackTraces = false) (x0 : Int32) (x1 : Int32) (x2 : Int32) (h : zz_H) (n : Nat) {r0 : (Unit ⊕ Nat)} (hf : f_X9_needCellIn x0 x1 x2 h = some r0) : zz_MX D dA base t0 l yX9_needCellIn cX9_needCellIn 3 none rm_X9_needCellIn [.int x0, .int x1, .int x2] h n (zz_ov (fun _ : Unit => (none : Option Value)) r0) h n := by
  refine vx_ofW (cc := cX9_needCellIn) (maxL := 3) (ret := none) (by decide +kernel) rfl ?_
  intro p e s m args below meth c s₁ B hml hE hv
  obtain ⟨rfl, hP, hK⟩ := hv
  have X : zz_X D dA base t0 "Springseat" cX9_needCellIn 3 none l p s m meth c := ⟨B.exec, B.bytes, hml, B.returns, findClass_of_methodNamed B.named, B.notSynchronized, hT, by rw [hP.1]; exact hP.2.1, hK⟩
  have hx := X.1
  have hb := X.2.1
  have hown := X.2.2.2.2.1
  have hR : zz_R D dA base h n s s.heap [] := ⟨hP, va_S.rf⟩
  have hl := lv_entry ([.int x0, .int x1, .int x2]) (n := 3) (by exact Nat.le_of_ble_eq_true rfl)
  rw [lg_entry_eq]
  generalize (lg_sl ([.int x0, .int x1, .int x2]) ++ List.replicate (3 - (lg_sl ([.int x0, .int x1, .int x2])).length) Slot.unset).toArray = ls at hl ⊢
  have hl : lv_has ls 3 [(0, .int x0), (1, .int x1), (2, .int x2)] := hl
  unfold f_X9_needCellIn at hf
  refine lv_iload_n hx hb dX9_needCellIn_0 rfl (lv_at hl 0 rfl) ?_
  refine lv_bipush (v := (10 : Int32)) hx hb dX9_needCellIn_1 (by decide) ?_
  obtain ⟨hne3, hf⟩ := zz_dv_i hf
  refine lv_idiv hx hb dX9_needCellIn_3 hne3 ?_
  refine lv_iload_n hx hb dX9_needCellIn_4 rfl (lv_at hl 1 rfl) ?_
  refine zx_cS X hE hR hl.1 (As := [.int (x0 / (10 : Int32)), .int x1]) (rest := []) (ov := (fun _ : Unit => (none : Option Value))) (fun r hr => mt_X9_needIndex hT (x0 / (10 : Int32)) x1 h n hr) mf_X9_needIndex q_180 q_181 ⟨Nat.le_of_ble_eq_true rfl, Nat.le_of_ble_eq_true rfl⟩ ⟨Nat.le_of_ble_eq_true rfl, Nat.le_of_ble_eq_true rfl⟩ rfl (Nat.le_of_ble_eq_true rfl) dX9_needCellIn_5 hf (fun k e => by cases e; exact ⟨rfl, rfl, Nat.le_refl _⟩) (Nat.le_of_ble_eq_true rfl) (Nat.le_of_ble_eq_true rfl) (fun v5 hf H locs hR => ?_)
  refine W.eq (g2 := F0 m 8 ls []) rfl ?_
  refine W.widen (k := 1) (n := 6) (Nat.le_of_ble_eq_true rfl) (Nat.le_of_ble_eq_true rfl) ?_
  refine lv_iload_n hx hb dX9_needCellIn_8 rfl (lv_at hl 0 rfl) ?_
  refine lv_bipush (v := (10 : Int32)) hx hb dX9_needCellIn_9 (by decide) ?_
  obtain ⟨hne11, hf⟩ := zz_dv_i hf
  refine lv_irem hx hb dX9_needCellIn_11 hne11 ?_
  refine lv_iload_n hx hb dX9_needCellIn_12 rfl (lv_at hl 2 rfl) ?_
  refine zx_cS X hE hR hl.1 (As := [.int (zz_rem x0 (10 : Int32)), .int x2]) (rest := []) (ov := (fun _ : Unit => (none : Option Value))) (fun r hr => mt_X9_needIndex hT (zz_rem x0 (10 : Int32)) x2 h n hr) mf_X9_needIndex q_180 q_181 ⟨Nat.le_of_ble_eq_true rfl, Nat.le_of_ble_eq_true rfl⟩ ⟨Nat.le_of_ble_eq_true rfl, Nat.le_of_ble_eq_true rfl⟩ rfl (Nat.le_of_ble_eq_true rfl) dX9_needCellIn_13 hf (fun k e => by cases e; exact ⟨rfl, rfl, Nat.le_refl _⟩) (Nat.le_of_ble_eq_true rfl) (Nat.le_of_ble_eq_true rfl) (fun v13 hf H locs hR => ?_)
  refine W.eq (g2 := F0 m 16 ls []) rfl ?_
  refine W.widen (k := 2) (n := 12) (Nat.le_of_ble_eq_true rfl) (Nat.le_of_ble_eq_true rfl) ?_
  cases hf
  exact zx_ret (zr_vret X hR dX9_needCellIn_16 (Nat.le_of_ble_eq_true rfl) (Nat.le_of_ble_eq_true rfl))
def rm_X9_needCell : Room := { frames := 8, cells := 2, slots := 12, locals := 133 }
theorem mf_X9_needCell : zz_Mf yX9_needCell cX9_needCell 2 none 2 := ⟨q_714, q_1, by decide +kernel, by decide +kernel, by decide +kernel⟩
set_option maxHeartbeats 4000000 in
set_option maxRecDepth 100000 in
theorem mt_X9_needCell {D : va_G} {dA : Nat → ClassId} {base t0 : Nat} {l : Launch} (hT : l.stackTraces = false) (x0 : (Option Nat)) (x1 : Int32) (h : zz_H) (n : Nat) {r0 : (Unit ⊕ Nat)} (hf : f_X9_needCell x0 x1 h = some r0) : zz_MX D dA base t0 l yX9_needCell cX9_needCell 2 none rm_X9_needCell [va_rf x0, .int x1] h n (zz_ov (fun _ : Unit => (none : Option Value)) r0) h n := by
  refine vx_ofW (cc := cX9_needCell) (maxL := 2) (ret := none) (by decide +kernel) rfl ?_
  intro p e s m args below meth c s₁ B hml hE hv
  obtain ⟨rfl, hP, hK⟩ := hv
  have X : zz_X D dA base t0 "Springseat" cX9_needCell 2 none l p s m meth c := ⟨B.exec, B.bytes, hml, B.returns, findClass_of_methodNamed B.named, B.notSynchronized, hT, by rw [hP.1]; exact hP.2.1, hK⟩
  have hx := X.1
  have hb := X.2.1
  have hown := X.2.2.2.2.1
  have hR : zz_R D dA base h n s s.heap [] := ⟨hP, va_S.rf⟩
  have hl := lv_entry ([va_rf x0, .int x1]) (n := 2) (by cases x0 <;> exact Nat.le_of_ble_eq_true rfl)
  rw [lg_entry_eq]
  generalize (lg_sl ([va_rf x0, .int x1]) ++ List.replicate (2 - (lg_sl ([va_rf x0, .int x1])).length) Slot.unset).toArray = ls at hl ⊢
  have hl : lv_has ls 2 [(0, va_rf x0), (1, .int x1)] := by rw [show ([(0, va_rf x0), (1, .int x1)] : List (Nat × Value)) = lv_args 0 [va_rf x0, .int x1] from by cases x0 <;> rfl]; exact hl
  unfold f_X9_needCell at hf
  refine lv_iload_n hx hb dX9_needCell_0 rfl (lv_at hl 1 rfl) ?_
  refine zr_aload_n hx hb dX9_needCell_1 rfl (lv_at hl 0 rfl) ?_
  refine zr_gqN X hR (r := x0) fn_X9_66 dX9_needCell_2 hf (fun v2 hf => ?_)
  refine zr_giN X hR (r := v2) fn_X9_105 dX9_needCell_5 hf (fun v5 hf => ?_)
  refine zr_aload_n hx hb dX9_needCell_8 rfl (lv_at hl 0 rfl) ?_
  refine zr_gqN X hR (r := x0) fn_X9_66 dX9_needCell_9 hf (fun v9 hf => ?_)
  refine zr_giN X hR (r := v9) fn_X9_108 dX9_needCell_12 hf (fun v12 hf => ?_)
  refine zx_cS X hE hR hl.1 (As := [.int x1, .int v5, .int v12]) (rest := []) (ov := (fun _ : Unit => (none : Option Value))) (fun r hr => mt_X9_needCellIn hT x1 v5 v12 h n hr) mf_X9_needCellIn q_715 q_716 ⟨Nat.le_of_ble_eq_true rfl, Nat.le_of_ble_eq_true rfl⟩ ⟨Nat.le_of_ble_eq_true rfl, Nat.le_of_ble_eq_true rfl⟩ rfl (Nat.le_of_ble_eq_true rfl) dX9_needCell_15 hf (fun k e => by cases e; exact ⟨rfl, rfl, Nat.le_refl _⟩) (Nat.le_of_ble_eq_true rfl) (Nat.le_of_ble_eq_true rfl) (fun v15 hf H locs hR => ?_)
  refine W.eq (g2 := F0 m 18 ls []) rfl ?_
  refine W.widen (k := 2) (n := 12) (Nat.le_of_ble_eq_true rfl) (Nat.le_of_ble_eq_true rfl) ?_
  cases hf
  exact zx_ret (zr_vret X hR dX9_needCell_18 (Nat.le_of_ble_eq_true rfl) (Nat.le_of_ble_eq_true rfl))
def rm_X9_needInWork : Room := { frames := 6, cells := 1, slots := 6, locals := 90 }
theorem mf_X9_needInWork : zz_Mf yX9_needInWork cX9_needInWork 2 none 2 := ⟨q_720, q_1, by decide +kernel, by decide +kernel, by decide +kernel⟩
set_option maxHeartbeats 4000000 in
set_option maxRecDepth 100000 in
theorem bk_X9_needInWork_21 {D : va_G} {dA : Nat → ClassId} {base t0 : Nat} {l : Launch} {p : Program} {e : Env} {s : State} {m : MethodId} {args : Array Value} {below : List Frame} {meth : Method} {c : Code} (X : zz_X D dA base t0 "Springseat" cX9_needInWork 2 none l p s m meth c) (hE : ∀ x ∈ c.exceptionTable.toList, False) (hT : l.stackTraces = false) {h : zz_H} {n : Nat} {H : Heap} {locs : List Loc} {ls : Array Slot} (hR : zz_R D dA base h n s H locs) (hl : lv_has ls 2 []) {r0 : (Unit ⊕ Nat)} (hf : f_X9_needInWork_21 h = some r0) : W p l e rm_X9_needInWork s m args below meth c H locs 0 0 (vx_MQ below (zz_Qo D dA base (zz_ov (fun _ : Unit => (none : Option Value)) r0) h n) (zz_Xo D dA base (zz_ov (fun _ : Unit => (none : Option Value)) r0) h n) args s rm_X9_needInWork.cells rm_X9_needInWork.slots (fun q => base ≤ q)) (F0 m 21 ls []) := by
  have hx := X.1
  have hb := X.2.1
  have hown := X.2.2.2.2.1
  unfold f_X9_needInWork_21 at hf
  cases hf
  exact zx_throwW X hE hR hl.1 (k := 3) (names := ["java/lang/RuntimeException", "java/lang/Exception"]) tw_10_184.1 tw_10_184.2.1 rfl q_315 q_24 (List.mem_of_getElem? (i := 6) rfl) tw_10_184.2.2.1 tw_10_184.2.2.2 dX9_needInWork_21 dX9_needInWork_24 dX9_needInWork_25 dX9_needInWork_28 dX9_needInWork_31 (Nat.le_of_ble_eq_true rfl) ⟨Nat.le_of_ble_eq_true rfl, Nat.le_of_ble_eq_true rfl⟩ ⟨Nat.le_of_ble_eq_true rfl, Nat.le_of_ble_eq_true rfl⟩ (Nat.le_of_ble_eq_true rfl) (Nat.le_of_ble_eq_true rfl) (Nat.le_refl _)
set_option maxHeartbeats 4000000 in
set_option maxRecDepth 100000 in
theorem mt_X9_needInWork {D : va_G} {dA : Nat → ClassId} {base t0 : Nat} {l : Launch} (hT : l.stackTraces = false) (x0 : (Option Nat)) (x1 : Int32) (h : zz_H) (n : Nat) {r0 : (Unit ⊕ Nat)} (hf : f_X9_needInWork x0 x1 h = some r0) : zz_MX D dA base t0 l yX9_needInWork cX9_needInWork 2 none rm_X9_needInWork [va_rf x0, .int x1] h n (zz_ov (fun _ : Unit => (none : Option Value)) r0) h n := by
  refine vx_ofW (cc := cX9_needInWork) (maxL := 2) (ret := none) (by decide +kernel) rfl ?_
  intro p e s m args below meth c s₁ B hml hE hv
  obtain ⟨rfl, hP, hK⟩ := hv
  have X : zz_X D dA base t0 "Springseat" cX9_needInWork 2 none l p s m meth c := ⟨B.exec, B.bytes, hml, B.returns, findClass_of_methodNamed B.named, B.notSynchronized, hT, by rw [hP.1]; exact hP.2.1, hK⟩
  have hx := X.1
  have hb := X.2.1
  have hown := X.2.2.2.2.1
  have hR : zz_R D dA base h n s s.heap [] := ⟨hP, va_S.rf⟩
  have hl := lv_entry ([va_rf x0, .int x1]) (n := 2) (by cases x0 <;> exact Nat.le_of_ble_eq_true rfl)
  rw [lg_entry_eq]
  generalize (lg_sl ([va_rf x0, .int x1]) ++ List.replicate (2 - (lg_sl ([va_rf x0, .int x1])).length) Slot.unset).toArray = ls at hl ⊢
  have hl : lv_has ls 2 [(0, va_rf x0), (1, .int x1)] := by rw [show ([(0, va_rf x0), (1, .int x1)] : List (Nat × Value)) = lv_args 0 [va_rf x0, .int x1] from by cases x0 <;> rfl]; exact hl
  unfold f_X9_needInWork at hf
  refine zr_aload_n hx hb dX9_needInWork_0 rfl (lv_at hl 0 rfl) ?_
  refine zr_gqN X hR (r := x0) fn_X9_76 dX9_needInWork_1 hf (fun v1 hf => ?_)
  obtain ⟨b4, fs4, hr4, ho4, hf⟩ := zz_ob_i hf
  obtain ⟨v4, hv4, hf⟩ := zz_b_i hf
  refine zr_cV X hR hl.1 (As := []) (rest := []) (C := RX8) (T := TX8) (N := 3) (mt_X8_last hT b4 h n hv4) rfl ho4 mf_X8_last q_721 q_273 q_274 ⟨Nat.le_of_ble_eq_true rfl, Nat.le_of_ble_eq_true rfl⟩ ⟨Nat.le_of_ble_eq_true rfl, Nat.le_of_ble_eq_true rfl⟩ (by rw [hr4]; rfl) (Nat.le_of_ble_eq_true rfl) dX9_needInWork_4 (fun H locs hR => ?_)
  refine W.eq (g2 := F0 m 7 ls [.int v4]) rfl ?_
  refine lv_iload_n hx hb dX9_needInWork_7 rfl (lv_at hl 1 rfl) ?_
  refine lv_icmp_ne (tgt := 21) hx hb dX9_needInWork_8 (by decide) (fun c8 => ?_) (fun c8 => ?_)
  · replace hf := zz_neg c8 hf
    exact bk_X9_needInWork_21 X hE hT hR (lv_sub hl [] rfl) hf
  · replace hf := zz_pos c8 hf
    refine zr_aload_n hx hb dX9_needInWork_11 rfl (lv_at hl 0 rfl) ?_
    refine zr_gqN X hR (r := x0) fn_X9_76 dX9_needInWork_12 hf (fun v12 hf => ?_)
    obtain ⟨b15, fs15, hr15, ho15, hf⟩ := zz_ob_i hf
    obtain ⟨v15, hv15, hf⟩ := zz_b_i hf
    refine zr_cV X hR hl.1 (As := []) (rest := []) (C := RX8) (T := TX8) (N := 3) (mt_X8_allSigned hT b15 h n hv15) rfl ho15 mf_X8_allSigned q_722 q_678 q_679 ⟨Nat.le_of_ble_eq_true rfl, Nat.le_of_ble_eq_true rfl⟩ ⟨Nat.le_of_ble_eq_true rfl, Nat.le_of_ble_eq_true rfl⟩ (by rw [hr15]; rfl) (Nat.le_of_ble_eq_true rfl) dX9_needInWork_15 (fun H locs hR => ?_)
    refine W.eq (g2 := F0 m 18 ls [.int v15]) rfl ?_
    refine lv_if_eq (tgt := 32) hx hb dX9_needInWork_18 (by decide) (fun c18 => ?_) (fun c18 => ?_)
    · replace hf := zz_pos c18 hf
      cases hf
      exact zx_ret (zr_vret X hR dX9_needInWork_32 (Nat.le_of_ble_eq_true rfl) (Nat.le_of_ble_eq_true rfl))
    · replace hf := zz_neg c18 hf
      exact bk_X9_needInWork_21 X hE hT hR (lv_sub hl [] rfl) hf
def rm_X9_change : Room := { frames := 9, cells := 6, slots := 36, locals := 154 }
theorem mf_X9_change : zz_Mf yX9_change cX9_change 7 (some .int) 4 := ⟨q_711, q_1, by decide +kernel, by decide +kernel, by decide +kernel⟩
set_option maxHeartbeats 4000000 in
set_option maxRecDepth 100000 in
theorem mt_X9_change {D : va_G} {dA : Nat → ClassId} {base t0 : Nat} {l : Launch} (hT : l.stackTraces = false) (a0 : Nat) (x1 : Int32) (x2 : Int32) (x3 : Int32) (x4 : Int32) (h : zz_H) (n : Nat) {r0 : (Int32 ⊕ Nat)} {hF : zz_H} (hf : f_X9_change a0 x1 x2 x3 x4 h = some (r0, hF)) : zz_MX D dA base t0 l yX9_change cX9_change 7 (some .int) rm_X9_change [.ref a0, .int x1, .int x2, .int x3, .int x4] h n (zz_ov (fun v : Int32 => some (Value.int v)) r0) hF n := by
  refine vx_ofW (cc := cX9_change) (maxL := 7) (ret := (some .int)) (by decide +kernel) rfl ?_
  intro p e s m args below meth c s₁ B hml hE hv
  obtain ⟨rfl, hP, hK⟩ := hv
  have X : zz_X D dA base t0 "Springseat" cX9_change 7 (some .int) l p s m meth c := ⟨B.exec, B.bytes, hml, B.returns, findClass_of_methodNamed B.named, B.notSynchronized, hT, by rw [hP.1]; exact hP.2.1, hK⟩
  have hx := X.1
  have hb := X.2.1
  have hown := X.2.2.2.2.1
  have hR : zz_R D dA base h n s s.heap [] := ⟨hP, va_S.rf⟩
  have hl := lv_entry ([.ref a0, .int x1, .int x2, .int x3, .int x4]) (n := 7) (by exact Nat.le_of_ble_eq_true rfl)
  rw [lg_entry_eq]
  generalize (lg_sl ([.ref a0, .int x1, .int x2, .int x3, .int x4]) ++ List.replicate (7 - (lg_sl ([.ref a0, .int x1, .int x2, .int x3, .int x4])).length) Slot.unset).toArray = ls at hl ⊢
  have hl : lv_has ls 7 [(0, .ref a0), (1, .int x1), (2, .int x2), (3, .int x3), (4, .int x4)] := hl
  unfold f_X9_change at hf
  refine lv_aload_n hx hb dX9_change_0 rfl (lv_at hl 0 rfl) ?_
  refine lv_iload_n hx hb dX9_change_1 rfl (lv_at hl 1 rfl) ?_
  obtain ⟨fs2, ho2, hf⟩ := zz_obS_i hf
  refine zx_cV X hE hR hl.1 (As := [.int x1]) (rest := []) (C := RX9) (T := TX9) (N := 6) (ov := (fun v : Option Nat => some (va_rf v))) (fun r hr => mt_X9_seatOf hT a0 x1 h n hr) rfl ho2 mf_X9_seatOf q_172 q_174 qs_3 ⟨Nat.le_of_ble_eq_true rfl, Nat.le_of_ble_eq_true rfl⟩ ⟨Nat.le_of_ble_eq_true rfl, Nat.le_of_ble_eq_true rfl⟩ rfl (Nat.le_of_ble_eq_true rfl) dX9_change_2 hf (fun k e => by cases e; exact ⟨rfl, rfl, Nat.le_refl _⟩) (Nat.le_of_ble_eq_true rfl) (Nat.le_of_ble_eq_true rfl) (fun v2 hf H locs hR => ?_)
  refine W.eq (g2 := F0 m 5 ls [va_rf v2]) rfl ?_
  refine W.widen (k := 1) (n := 6) (Nat.le_of_ble_eq_true rfl) (Nat.le_of_ble_eq_true rfl) ?_
  refine zr_astore (i := 5) (lv' := [(5, va_rf v2), (0, .ref a0), (1, .int x1), (2, .int x2), (3, .int x3), (4, .int x4)]) hx hb dX9_change_5 hl (by decide) rfl (fun ls hl => ?_)
  refine zr_aload hx hb dX9_change_7 (lv_at hl 0 rfl) ?_
  refine lv_iload_n hx hb dX9_change_9 rfl (lv_at hl 3 rfl) ?_
  refine zx_cS X hE hR hl.1 (As := [va_rf v2, .int x2]) (rest := []) (ov := (fun _ : Unit => (none : Option Value))) (fun r hr => mt_X9_needCell hT v2 x2 h n hr) mf_X9_needCell q_712 q_713 ⟨Nat.le_of_ble_eq_true rfl, Nat.le_of_ble_eq_true rfl⟩ ⟨Nat.le_of_ble_eq_true rfl, Nat.le_of_ble_eq_true rfl⟩ rfl (Nat.le_of_ble_eq_true rfl) dX9_change_10 hf (fun k e => by cases e; exact ⟨rfl, rfl, Nat.le_refl _⟩) (Nat.le_of_ble_eq_true rfl) (Nat.le_of_ble_eq_true rfl) (fun v10 hf H locs hR => ?_)
  refine W.eq (g2 := F0 m 13 ls []) rfl ?_
  refine W.widen (k := 3) (n := 18) (Nat.le_of_ble_eq_true rfl) (Nat.le_of_ble_eq_true rfl) ?_
  refine lv_iload_n hx hb dX9_change_13 rfl (lv_at hl 4 rfl) ?_
  refine lv_bipush (v := (20 : Int32)) hx hb dX9_change_14 (by decide) ?_
  refine lv_bipush (v := (99 : Int32)) hx hb dX9_change_16 (by decide) ?_
  refine zx_cS X hE hR hl.1 (As := [.int x3, .int (20 : Int32), .int (99 : Int32)]) (rest := []) (ov := (fun _ : Unit => (none : Option Value))) (fun r hr => mt_X9_needRange hT x3 (20 : Int32) (99 : Int32) h n hr) mf_X9_needRange q_489 q_490 ⟨Nat.le_of_ble_eq_true rfl, Nat.le_of_ble_eq_true rfl⟩ ⟨Nat.le_of_ble_eq_true rfl, Nat.le_of_ble_eq_true rfl⟩ rfl (Nat.le_of_ble_eq_true rfl) dX9_change_18 hf (fun k e => by cases e; exact ⟨rfl, rfl, Nat.le_refl _⟩) (Nat.le_of_ble_eq_true rfl) (Nat.le_of_ble_eq_true rfl) (fun v18 hf H locs hR => ?_)
  refine W.eq (g2 := F0 m 21 ls []) rfl ?_
  refine W.widen (k := 4) (n := 24) (Nat.le_of_ble_eq_true rfl) (Nat.le_of_ble_eq_true rfl) ?_
  refine lv_iload hx hb dX9_change_21 (lv_at hl 5 rfl) ?_
  refine lv_iconst (v := (1 : Int32)) hx hb dX9_change_23 (by decide) ?_
  refine lv_bipush (v := (9 : Int32)) hx hb dX9_change_24 (by decide) ?_
  refine zx_cS X hE hR hl.1 (As := [.int x4, .int (1 : Int32), .int (9 : Int32)]) (rest := []) (ov := (fun _ : Unit => (none : Option Value))) (fun r hr => mt_X9_needRange hT x4 (1 : Int32) (9 : Int32) h n hr) mf_X9_needRange q_489 q_490 ⟨Nat.le_of_ble_eq_true rfl, Nat.le_of_ble_eq_true rfl⟩ ⟨Nat.le_of_ble_eq_true rfl, Nat.le_of_ble_eq_true rfl⟩ rfl (Nat.le_of_ble_eq_true rfl) dX9_change_26 hf (fun k e => by cases e; exact ⟨rfl, rfl, Nat.le_refl _⟩) (Nat.le_of_ble_eq_true rfl) (Nat.le_of_ble_eq_true rfl) (fun v26 hf H locs hR => ?_)
  refine W.eq (g2 := F0 m 29 ls []) rfl ?_
  refine W.widen (k := 5) (n := 30) (Nat.le_of_ble_eq_true rfl) (Nat.le_of_ble_eq_true rfl) ?_
  refine zr_aload hx hb dX9_change_29 (lv_at hl 0 rfl) ?_
  refine lv_bipush (v := (115 : Int32)) hx hb dX9_change_31 (by decide) ?_
  refine zx_cS X hE hR hl.1 (As := [va_rf v2, .int (115 : Int32)]) (rest := []) (ov := (fun _ : Unit => (none : Option Value))) (fun r hr => mt_X9_needInWork hT v2 (115 : Int32) h n hr) mf_X9_needInWork q_718 q_719 ⟨Nat.le_of_ble_eq_true rfl, Nat.le_of_ble_eq_true rfl⟩ ⟨Nat.le_of_ble_eq_true rfl, Nat.le_of_ble_eq_true rfl⟩ rfl (Nat.le_of_ble_eq_true rfl) dX9_change_33 hf (fun k e => by cases e; exact ⟨rfl, rfl, Nat.le_refl _⟩) (Nat.le_of_ble_eq_true rfl) (Nat.le_of_ble_eq_true rfl) (fun v33 hf H locs hR => ?_)
  refine W.eq (g2 := F0 m 36 ls []) rfl ?_
  refine W.widen (k := 6) (n := 36) (Nat.le_of_ble_eq_true rfl) (Nat.le_of_ble_eq_true rfl) ?_
  refine zr_aload hx hb dX9_change_36 (lv_at hl 0 rfl) ?_
  refine zr_gqN X hR (r := v2) fn_X9_66 dX9_change_38 hf (fun v38 hf => ?_)
  refine zr_gqN X hR (r := v38) fn_X9_95 dX9_change_41 hf (fun v41 hf => ?_)
  refine lv_iload_n hx hb dX9_change_44 rfl (lv_at hl 3 rfl) ?_
  obtain ⟨b45, fs45, hr45, ho45, hf⟩ := zz_ob_i hf
  obtain ⟨v45, hv45, hf⟩ := zz_b_i hf
  refine zr_cV X hR hl.1 (As := [.int x2]) (rest := []) (C := RX4) (T := TX4) (N := 1) (mt_X4_at hT b45 x2 h n hv45) rfl ho45 mf_X4_at q_724 q_302 q_303 ⟨Nat.le_of_ble_eq_true rfl, Nat.le_of_ble_eq_true rfl⟩ ⟨Nat.le_of_ble_eq_true rfl, Nat.le_of_ble_eq_true rfl⟩ (by rw [hr45]; rfl) (Nat.le_of_ble_eq_true rfl) dX9_change_45 (fun H locs hR => ?_)
  refine W.eq (g2 := F0 m 48 ls [.int v45]) rfl ?_
  refine lv_istore (i := 6) (lv' := [(6, .int v45), (5, va_rf v2), (0, .ref a0), (1, .int x1), (2, .int x2), (3, .int x3), (4, .int x4)]) hx hb dX9_change_48 hl (by decide) (by simp [zz_cat, zz_catI, zz_catR, zz_catJ, zz_catF, zz_catD]) (fun ls hl => ?_)
  refine zr_aload hx hb dX9_change_50 (lv_at hl 1 rfl) ?_
  refine zr_gqN X hR (r := v2) fn_X9_66 dX9_change_52 hf (fun v52 hf => ?_)
  refine lv_iload_n hx hb dX9_change_55 rfl (lv_at hl 4 rfl) ?_
  refine lv_iload_n hx hb dX9_change_56 rfl (lv_at hl 5 rfl) ?_
  refine lv_iload hx hb dX9_change_57 (lv_at hl 6 rfl) ?_
  obtain ⟨b59, fs59, hr59, ho59, hf⟩ := zz_ob_i hf
  obtain ⟨u59, h59, hv59, hf⟩ := zz_b1_i hf
  refine zr_cV X hR hl.1 (As := [.int x2, .int x3, .int x4]) (rest := []) (C := RX3) (T := TX3) (N := 7) (mt_X3_putSpring hT b59 x2 x3 x4 h n hv59) rfl ho59 mf_X3_putSpring q_725 q_701 q_702 ⟨Nat.le_of_ble_eq_true rfl, Nat.le_of_ble_eq_true rfl⟩ ⟨Nat.le_of_ble_eq_true rfl, Nat.le_of_ble_eq_true rfl⟩ (by rw [hr59]; rfl) (Nat.le_of_ble_eq_true rfl) dX9_change_59 (fun H locs hR => ?_)
  refine W.eq (g2 := F0 m 62 ls []) rfl ?_
  refine lv_iload hx hb dX9_change_62 (lv_at hl 0 rfl) ?_
  cases hf
  exact zx_ret (zr_iret X hR dX9_change_64 (Nat.le_of_ble_eq_true rfl) (Nat.le_of_ble_eq_true rfl))
def rm_X9_tie : Room := { frames := 8, cells := 2, slots := 12, locals := 132 }
theorem mf_X9_tie : zz_Mf yX9_tie cX9_tie 3 (some .int) 1 := ⟨q_732, q_1, by decide +kernel, by decide +kernel, by decide +kernel⟩
set_option maxHeartbeats 4000000 in
set_option maxRecDepth 100000 in
theorem mt_X9_tie {D : va_G} {dA : Nat → ClassId} {base t0 : Nat} {l : Launch} (hT : l.stackTraces = false) (a0 : Nat) (x1 : Int32) (h : zz_H) (n : Nat) {r0 : (Int32 ⊕ Nat)} {hF : zz_H} (hf : f_X9_tie a0 x1 h = some (r0, hF)) : zz_MX D dA base t0 l yX9_tie cX9_tie 3 (some .int) rm_X9_tie [.ref a0, .int x1] h n (zz_ov (fun v : Int32 => some (Value.int v)) r0) hF n := by
  refine vx_ofW (cc := cX9_tie) (maxL := 3) (ret := (some .int)) (by decide +kernel) rfl ?_
  intro p e s m args below meth c s₁ B hml hE hv
  obtain ⟨rfl, hP, hK⟩ := hv
  have X : zz_X D dA base t0 "Springseat" cX9_tie 3 (some .int) l p s m meth c := ⟨B.exec, B.bytes, hml, B.returns, findClass_of_methodNamed B.named, B.notSynchronized, hT, by rw [hP.1]; exact hP.2.1, hK⟩
  have hx := X.1
  have hb := X.2.1
  have hown := X.2.2.2.2.1
  have hR : zz_R D dA base h n s s.heap [] := ⟨hP, va_S.rf⟩
  have hl := lv_entry ([.ref a0, .int x1]) (n := 3) (by exact Nat.le_of_ble_eq_true rfl)
  rw [lg_entry_eq]
  generalize (lg_sl ([.ref a0, .int x1]) ++ List.replicate (3 - (lg_sl ([.ref a0, .int x1])).length) Slot.unset).toArray = ls at hl ⊢
  have hl : lv_has ls 3 [(0, .ref a0), (1, .int x1)] := hl
  unfold f_X9_tie at hf
  refine lv_aload_n hx hb dX9_tie_0 rfl (lv_at hl 0 rfl) ?_
  refine lv_iload_n hx hb dX9_tie_1 rfl (lv_at hl 1 rfl) ?_
  obtain ⟨fs2, ho2, hf⟩ := zz_obS_i hf
  refine zx_cV X hE hR hl.1 (As := [.int x1]) (rest := []) (C := RX9) (T := TX9) (N := 6) (ov := (fun v : Option Nat => some (va_rf v))) (fun r hr => mt_X9_seatOf hT a0 x1 h n hr) rfl ho2 mf_X9_seatOf q_172 q_174 qs_3 ⟨Nat.le_of_ble_eq_true rfl, Nat.le_of_ble_eq_true rfl⟩ ⟨Nat.le_of_ble_eq_true rfl, Nat.le_of_ble_eq_true rfl⟩ rfl (Nat.le_of_ble_eq_true rfl) dX9_tie_2 hf (fun k e => by cases e; exact ⟨rfl, rfl, Nat.le_refl _⟩) (Nat.le_of_ble_eq_true rfl) (Nat.le_of_ble_eq_true rfl) (fun v2 hf H locs hR => ?_)
  refine W.eq (g2 := F0 m 5 ls [va_rf v2]) rfl ?_
  refine W.widen (k := 1) (n := 6) (Nat.le_of_ble_eq_true rfl) (Nat.le_of_ble_eq_true rfl) ?_
  refine zr_astore_n (i := 2) (lv' := [(2, va_rf v2), (0, .ref a0), (1, .int x1)]) hx hb dX9_tie_5 rfl hl (by decide) rfl (fun ls hl => ?_)
  refine zr_aload_n hx hb dX9_tie_6 rfl (lv_at hl 0 rfl) ?_
  refine lv_bipush (v := (116 : Int32)) hx hb dX9_tie_7 (by decide) ?_
  refine zx_cS X hE hR hl.1 (As := [va_rf v2, .int (116 : Int32)]) (rest := []) (ov := (fun _ : Unit => (none : Option Value))) (fun r hr => mt_X9_needNext hT v2 (116 : Int32) h n hr) mf_X9_needNext q_670 q_671 ⟨Nat.le_of_ble_eq_true rfl, Nat.le_of_ble_eq_true rfl⟩ ⟨Nat.le_of_ble_eq_true rfl, Nat.le_of_ble_eq_true rfl⟩ rfl (Nat.le_of_ble_eq_true rfl) dX9_tie_9 hf (fun k e => by cases e; exact ⟨rfl, rfl, Nat.le_refl _⟩) (Nat.le_of_ble_eq_true rfl) (Nat.le_of_ble_eq_true rfl) (fun v9 hf H locs hR => ?_)
  refine W.eq (g2 := F0 m 12 ls []) rfl ?_
  refine W.widen (k := 2) (n := 12) (Nat.le_of_ble_eq_true rfl) (Nat.le_of_ble_eq_true rfl) ?_
  refine zr_aload_n hx hb dX9_tie_12 rfl (lv_at hl 0 rfl) ?_
  refine zr_gqN X hR (r := v2) fn_X9_76 dX9_tie_13 hf (fun v13 hf => ?_)
  refine lv_bipush (v := (116 : Int32)) hx hb dX9_tie_16 (by decide) ?_
  obtain ⟨b18, fs18, hr18, ho18, hf⟩ := zz_ob_i hf
  obtain ⟨v18, h18, hv18, hf⟩ := zz_b1_i hf
  refine zr_cV X hR hl.1 (As := [.int (116 : Int32)]) (rest := []) (C := RX8) (T := TX8) (N := 3) (mt_X8_add hT b18 (116 : Int32) h n hv18) rfl ho18 mf_X8_add q_682 q_683 q_684 ⟨Nat.le_of_ble_eq_true rfl, Nat.le_of_ble_eq_true rfl⟩ ⟨Nat.le_of_ble_eq_true rfl, Nat.le_of_ble_eq_true rfl⟩ (by rw [hr18]; rfl) (Nat.le_of_ble_eq_true rfl) dX9_tie_18 (fun H locs hR => ?_)
  refine W.eq (g2 := F0 m 21 ls [.int v18]) rfl ?_
  cases hf
  exact zx_ret (zr_iret X hR dX9_tie_21 (Nat.le_of_ble_eq_true rfl) (Nat.le_of_ble_eq_true rfl))
def rm_X9_pull : Room := { frames := 8, cells := 4, slots := 24, locals := 132 }
theorem mf_X9_pull : zz_Mf yX9_pull cX9_pull 7 (some .int) 4 := ⟨q_739, q_1, by decide +kernel, by decide +kernel, by decide +kernel⟩
set_option maxHeartbeats 4000000 in
set_option maxRecDepth 100000 in
theorem bk_X9_pull_31 {D : va_G} {dA : Nat → ClassId} {base t0 : Nat} {l : Launch} {p : Program} {e : Env} {s : State} {m : MethodId} {args : Array Value} {below : List Frame} {meth : Method} {c : Code} (X : zz_X D dA base t0 "Springseat" cX9_pull 7 (some .int) l p s m meth c) (hE : ∀ x ∈ c.exceptionTable.toList, False) (hT : l.stackTraces = false) {x2 : Int32} {x3 : Int32} {x4 : Int32} {x5 : (Option Nat)} {s0 : Int32} {s1 : Int32} {h : zz_H} {n : Nat} {H : Heap} {locs : List Loc} {ls : Array Slot} (hR : zz_R D dA base h n s H locs) (hl : lv_has ls 7 [(2, .int x2), (3, .int x3), (4, .int x4), (5, va_rf x5)]) {r0 : (Int32 ⊕ Nat)} {hF : zz_H} (hf : f_X9_pull_31 x2 x3 x4 x5 s0 s1 h = some (r0, hF)) : W p l e rm_X9_pull s m args below meth c H locs 1 6 (vx_MQ below (zz_Qo D dA base (zz_ov (fun v : Int32 => some (Value.int v)) r0) hF n) (zz_Xo D dA base (zz_ov (fun v : Int32 => some (Value.int v)) r0) hF n) args s rm_X9_pull.cells rm_X9_pull.slots (fun q => base ≤ q)) (F0 m 31 ls [.int s0, .int s1]) := by
  have hx := X.1
  have hb := X.2.1
  have hown := X.2.2.2.2.1
  unfold f_X9_pull_31 at hf
  refine zx_cS X hE hR hl.1 (As := [.int s1, .int s0]) (rest := []) (ov := (fun _ : Unit => (none : Option Value))) (fun r hr => mt_X9_needIndex hT s1 s0 h n hr) mf_X9_needIndex q_180 q_181 ⟨Nat.le_of_ble_eq_true rfl, Nat.le_of_ble_eq_true rfl⟩ ⟨Nat.le_of_ble_eq_true rfl, Nat.le_of_ble_eq_true rfl⟩ rfl (Nat.le_of_ble_eq_true rfl) dX9_pull_31 hf (fun k e => by cases e; exact ⟨rfl, rfl, Nat.le_refl _⟩) (Nat.le_of_ble_eq_true rfl) (Nat.le_of_ble_eq_true rfl) (fun v31 hf H locs hR => ?_)
  refine W.eq (g2 := F0 m 34 ls []) rfl ?_
  refine W.widen (k := 2) (n := 12) (Nat.le_of_ble_eq_true rfl) (Nat.le_of_ble_eq_true rfl) ?_
  refine lv_iload hx hb dX9_pull_34 (lv_at hl 2 rfl) ?_
  refine lv_bipush (v := (10 : Int32)) hx hb dX9_pull_36 (by decide) ?_
  refine lv_bipush (v := (99 : Int32)) hx hb dX9_pull_38 (by decide) ?_
  refine zx_cS X hE hR hl.1 (As := [.int x4, .int (10 : Int32), .int (99 : Int32)]) (rest := []) (ov := (fun _ : Unit => (none : Option Value))) (fun r hr => mt_X9_needRange hT x4 (10 : Int32) (99 : Int32) h n hr) mf_X9_needRange q_489 q_490 ⟨Nat.le_of_ble_eq_true rfl, Nat.le_of_ble_eq_true rfl⟩ ⟨Nat.le_of_ble_eq_true rfl, Nat.le_of_ble_eq_true rfl⟩ rfl (Nat.le_of_ble_eq_true rfl) dX9_pull_40 hf (fun k e => by cases e; exact ⟨rfl, rfl, Nat.le_refl _⟩) (Nat.le_of_ble_eq_true rfl) (Nat.le_of_ble_eq_true rfl) (fun v40 hf H locs hR => ?_)
  refine W.eq (g2 := F0 m 43 ls []) rfl ?_
  refine W.widen (k := 3) (n := 18) (Nat.le_of_ble_eq_true rfl) (Nat.le_of_ble_eq_true rfl) ?_
  refine zr_aload hx hb dX9_pull_43 (lv_at hl 3 rfl) ?_
  refine lv_bipush (v := (116 : Int32)) hx hb dX9_pull_45 (by decide) ?_
  refine zx_cS X hE hR hl.1 (As := [va_rf x5, .int (116 : Int32)]) (rest := []) (ov := (fun _ : Unit => (none : Option Value))) (fun r hr => mt_X9_needInWork hT x5 (116 : Int32) h n hr) mf_X9_needInWork q_718 q_719 ⟨Nat.le_of_ble_eq_true rfl, Nat.le_of_ble_eq_true rfl⟩ ⟨Nat.le_of_ble_eq_true rfl, Nat.le_of_ble_eq_true rfl⟩ rfl (Nat.le_of_ble_eq_true rfl) dX9_pull_47 hf (fun k e => by cases e; exact ⟨rfl, rfl, Nat.le_refl _⟩) (Nat.le_of_ble_eq_true rfl) (Nat.le_of_ble_eq_true rfl) (fun v47 hf H locs hR => ?_)
  refine W.eq (g2 := F0 m 50 ls []) rfl ?_
  refine W.widen (k := 4) (n := 24) (Nat.le_of_ble_eq_true rfl) (Nat.le_of_ble_eq_true rfl) ?_
  refine zr_aload hx hb dX9_pull_50 (lv_at hl 3 rfl) ?_
  refine zr_gqN X hR (r := x5) fn_X9_66 dX9_pull_52 hf (fun v52 hf => ?_)
  obtain ⟨b55, fs55, hr55, ho55, hf⟩ := zz_ob_i hf
  obtain ⟨v55, hv55, hf⟩ := zz_b_i hf
  refine zr_cV X hR hl.1 (As := []) (rest := []) (C := RX3) (T := TX3) (N := 7) (mt_X3_heightInAll hT b55 h n hv55) rfl ho55 mf_X3_heightInAll q_740 q_741 q_742 ⟨Nat.le_of_ble_eq_true rfl, Nat.le_of_ble_eq_true rfl⟩ ⟨Nat.le_of_ble_eq_true rfl, Nat.le_of_ble_eq_true rfl⟩ (by rw [hr55]; rfl) (Nat.le_of_ble_eq_true rfl) dX9_pull_55 (fun H locs hR => ?_)
  refine W.eq (g2 := F0 m 58 ls [.int v55]) rfl ?_
  refine lv_istore (i := 6) (lv' := [(6, .int v55), (2, .int x2), (3, .int x3), (4, .int x4), (5, va_rf x5)]) hx hb dX9_pull_58 hl (by decide) (by simp [zz_cat, zz_catI, zz_catR, zz_catJ, zz_catF, zz_catD]) (fun ls hl => ?_)
  refine zr_aload hx hb dX9_pull_60 (lv_at hl 4 rfl) ?_
  refine zr_gqN X hR (r := x5) fn_X9_66 dX9_pull_62 hf (fun v62 hf => ?_)
  refine lv_iload_n hx hb dX9_pull_65 rfl (lv_at hl 1 rfl) ?_
  refine lv_iload_n hx hb dX9_pull_66 rfl (lv_at hl 2 rfl) ?_
  refine lv_iload hx hb dX9_pull_67 (lv_at hl 3 rfl) ?_
  obtain ⟨b69, fs69, hr69, ho69, hf⟩ := zz_ob_i hf
  obtain ⟨u69, h69, hv69, hf⟩ := zz_b1_i hf
  refine zr_cV X hR hl.1 (As := [.int x2, .int x3, .int x4]) (rest := []) (C := RX3) (T := TX3) (N := 7) (mt_X3_setTie hT b69 x2 x3 x4 h n hv69) rfl ho69 mf_X3_setTie q_744 q_745 q_746 ⟨Nat.le_of_ble_eq_true rfl, Nat.le_of_ble_eq_true rfl⟩ ⟨Nat.le_of_ble_eq_true rfl, Nat.le_of_ble_eq_true rfl⟩ (by rw [hr69]; rfl) (Nat.le_of_ble_eq_true rfl) dX9_pull_69 (fun H locs hR => ?_)
  refine W.eq (g2 := F0 m 72 ls []) rfl ?_
  refine lv_iload hx hb dX9_pull_72 (lv_at hl 0 rfl) ?_
  refine zr_aload hx hb dX9_pull_74 (lv_at hl 4 rfl) ?_
  refine zr_gqN X hR (r := x5) fn_X9_66 dX9_pull_76 hf (fun v76 hf => ?_)
  obtain ⟨b79, fs79, hr79, ho79, hf⟩ := zz_ob_i hf
  obtain ⟨v79, hv79, hf⟩ := zz_b_i hf
  refine zr_cV X hR hl.1 (As := []) (rest := [.int v55]) (C := RX3) (T := TX3) (N := 7) (mt_X3_heightInAll hT b79 h69 n hv79) rfl ho79 mf_X3_heightInAll q_740 q_741 q_742 ⟨Nat.le_of_ble_eq_true rfl, Nat.le_of_ble_eq_true rfl⟩ ⟨Nat.le_of_ble_eq_true rfl, Nat.le_of_ble_eq_true rfl⟩ (by rw [hr79]; rfl) (Nat.le_of_ble_eq_true rfl) dX9_pull_79 (fun H locs hR => ?_)
  refine W.eq (g2 := F0 m 82 ls [.int v79, .int v55]) rfl ?_
  refine lv_isub hx hb dX9_pull_82 ?_
  refine zr_abs X hl.1 q_748 q_306 q_8 q_307 (Nat.le_of_ble_eq_true rfl) ⟨Nat.le_of_ble_eq_true rfl, Nat.le_of_ble_eq_true rfl⟩ ⟨Nat.le_of_ble_eq_true rfl, Nat.le_of_ble_eq_true rfl⟩ dX9_pull_83 ?_
  refine W.eq (g2 := F0 m 86 ls [.int (zz_abs (v55 - v79))]) rfl ?_
  cases hf
  exact zx_ret (zr_iret X hR dX9_pull_86 (Nat.le_of_ble_eq_true rfl) (Nat.le_of_ble_eq_true rfl))
set_option maxHeartbeats 4000000 in
set_option maxRecDepth 100000 in
theorem mt_X9_pull {D : va_G} {dA : Nat → ClassId} {base t0 : Nat} {l : Launch} (hT : l.stackTraces = false) (a0 : Nat) (x1 : Int32) (x2 : Int32) (x3 : Int32) (x4 : Int32) (h : zz_H) (n : Nat) {r0 : (Int32 ⊕ Nat)} {hF : zz_H} (hf : f_X9_pull a0 x1 x2 x3 x4 h = some (r0, hF)) : zz_MX D dA base t0 l yX9_pull cX9_pull 7 (some .int) rm_X9_pull [.ref a0, .int x1, .int x2, .int x3, .int x4] h n (zz_ov (fun v : Int32 => some (Value.int v)) r0) hF n := by
  refine vx_ofW (cc := cX9_pull) (maxL := 7) (ret := (some .int)) (by decide +kernel) rfl ?_
  intro p e s m args below meth c s₁ B hml hE hv
  obtain ⟨rfl, hP, hK⟩ := hv
  have X : zz_X D dA base t0 "Springseat" cX9_pull 7 (some .int) l p s m meth c := ⟨B.exec, B.bytes, hml, B.returns, findClass_of_methodNamed B.named, B.notSynchronized, hT, by rw [hP.1]; exact hP.2.1, hK⟩
  have hx := X.1
  have hb := X.2.1
  have hown := X.2.2.2.2.1
  have hR : zz_R D dA base h n s s.heap [] := ⟨hP, va_S.rf⟩
  have hl := lv_entry ([.ref a0, .int x1, .int x2, .int x3, .int x4]) (n := 7) (by exact Nat.le_of_ble_eq_true rfl)
  rw [lg_entry_eq]
  generalize (lg_sl ([.ref a0, .int x1, .int x2, .int x3, .int x4]) ++ List.replicate (7 - (lg_sl ([.ref a0, .int x1, .int x2, .int x3, .int x4])).length) Slot.unset).toArray = ls at hl ⊢
  have hl : lv_has ls 7 [(0, .ref a0), (1, .int x1), (2, .int x2), (3, .int x3), (4, .int x4)] := hl
  unfold f_X9_pull at hf
  refine lv_aload_n hx hb dX9_pull_0 rfl (lv_at hl 0 rfl) ?_
  refine lv_iload_n hx hb dX9_pull_1 rfl (lv_at hl 1 rfl) ?_
  obtain ⟨fs2, ho2, hf⟩ := zz_obS_i hf
  refine zx_cV X hE hR hl.1 (As := [.int x1]) (rest := []) (C := RX9) (T := TX9) (N := 6) (ov := (fun v : Option Nat => some (va_rf v))) (fun r hr => mt_X9_seatOf hT a0 x1 h n hr) rfl ho2 mf_X9_seatOf q_172 q_174 qs_3 ⟨Nat.le_of_ble_eq_true rfl, Nat.le_of_ble_eq_true rfl⟩ ⟨Nat.le_of_ble_eq_true rfl, Nat.le_of_ble_eq_true rfl⟩ rfl (Nat.le_of_ble_eq_true rfl) dX9_pull_2 hf (fun k e => by cases e; exact ⟨rfl, rfl, Nat.le_refl _⟩) (Nat.le_of_ble_eq_true rfl) (Nat.le_of_ble_eq_true rfl) (fun v2 hf H locs hR => ?_)
  refine W.eq (g2 := F0 m 5 ls [va_rf v2]) rfl ?_
  refine W.widen (k := 1) (n := 6) (Nat.le_of_ble_eq_true rfl) (Nat.le_of_ble_eq_true rfl) ?_
  refine zr_astore (i := 5) (lv' := [(5, va_rf v2), (0, .ref a0), (1, .int x1), (2, .int x2), (3, .int x3), (4, .int x4)]) hx hb dX9_pull_5 hl (by decide) rfl (fun ls hl => ?_)
  refine lv_iload_n hx hb dX9_pull_7 rfl (lv_at hl 4 rfl) ?_
  refine lv_iload_n hx hb dX9_pull_8 rfl (lv_at hl 3 rfl) ?_
  refine lv_if_eq (tgt := 23) hx hb dX9_pull_9 (by decide) (fun c9 => ?_) (fun c9 => ?_)
  · replace hf := zz_pos c9 hf
    refine zr_aload hx hb dX9_pull_23 (lv_at hl 0 rfl) ?_
    refine zr_gqN X hR (r := v2) fn_X9_66 dX9_pull_25 hf (fun v25 hf => ?_)
    refine zr_giN X hR (r := v25) fn_X9_108 dX9_pull_28 hf (fun v28 hf => ?_)
    exact bk_X9_pull_31 X hE hT hR (lv_sub hl [3, 4, 5, 0] rfl) hf
  · replace hf := zz_neg c9 hf
    refine zr_aload hx hb dX9_pull_12 (lv_at hl 0 rfl) ?_
    refine zr_gqN X hR (r := v2) fn_X9_66 dX9_pull_14 hf (fun v14 hf => ?_)
    refine zr_giN X hR (r := v14) fn_X9_105 dX9_pull_17 hf (fun v17 hf => ?_)
    refine lv_goto (tgt := 31) hx hb dX9_pull_20 (by decide) ?_
    exact bk_X9_pull_31 X hE hT hR (lv_sub hl [3, 4, 5, 0] rfl) hf
def rm_X9_needKind : Room := { frames := 6, cells := 1, slots := 6, locals := 90 }
theorem mf_X9_needKind : zz_Mf yX9_needKind cX9_needKind 1 none 1 := ⟨q_758, q_1, by decide +kernel, by decide +kernel, by decide +kernel⟩
set_option maxHeartbeats 4000000 in
set_option maxRecDepth 100000 in
theorem bk_X9_needKind_29 {D : va_G} {dA : Nat → ClassId} {base t0 : Nat} {l : Launch} {p : Program} {e : Env} {s : State} {m : MethodId} {args : Array Value} {below : List Frame} {meth : Method} {c : Code} (X : zz_X D dA base t0 "Springseat" cX9_needKind 1 none l p s m meth c) (hE : ∀ x ∈ c.exceptionTable.toList, False) (hT : l.stackTraces = false) {h : zz_H} {n : Nat} {H : Heap} {locs : List Loc} {ls : Array Slot} (hR : zz_R D dA base h n s H locs) (hl : lv_has ls 1 []) {r0 : (Unit ⊕ Nat)} (hf : f_X9_needKind_29 h = some r0) : W p l e rm_X9_needKind s m args below meth c H locs 0 0 (vx_MQ below (zz_Qo D dA base (zz_ov (fun _ : Unit => (none : Option Value)) r0) h n) (zz_Xo D dA base (zz_ov (fun _ : Unit => (none : Option Value)) r0) h n) args s rm_X9_needKind.cells rm_X9_needKind.slots (fun q => base ≤ q)) (F0 m 29 ls []) := by
  have hx := X.1
  have hb := X.2.1
  have hown := X.2.2.2.2.1
  unfold f_X9_needKind_29 at hf
  cases hf
  exact zx_ret (zr_vret X hR dX9_needKind_29 (Nat.le_of_ble_eq_true rfl) (Nat.le_of_ble_eq_true rfl))
set_option maxHeartbeats 4000000 in
set_option maxRecDepth 100000 in
theorem mt_X9_needKind {D : va_G} {dA : Nat → ClassId} {base t0 : Nat} {l : Launch} (hT : l.stackTraces = false) (x0 : Int32) (h : zz_H) (n : Nat) {r0 : (Unit ⊕ Nat)} (hf : f_X9_needKind x0 h = some r0) : zz_MX D dA base t0 l yX9_needKind cX9_needKind 1 none rm_X9_needKind [.int x0] h n (zz_ov (fun _ : Unit => (none : Option Value)) r0) h n := by
  refine vx_ofW (cc := cX9_needKind) (maxL := 1) (ret := none) (by decide +kernel) rfl ?_
  intro p e s m args below meth c s₁ B hml hE hv
  obtain ⟨rfl, hP, hK⟩ := hv
  have X : zz_X D dA base t0 "Springseat" cX9_needKind 1 none l p s m meth c := ⟨B.exec, B.bytes, hml, B.returns, findClass_of_methodNamed B.named, B.notSynchronized, hT, by rw [hP.1]; exact hP.2.1, hK⟩
  have hx := X.1
  have hb := X.2.1
  have hown := X.2.2.2.2.1
  have hR : zz_R D dA base h n s s.heap [] := ⟨hP, va_S.rf⟩
  have hl := lv_entry ([.int x0]) (n := 1) (by exact Nat.le_of_ble_eq_true rfl)
  rw [lg_entry_eq]
  generalize (lg_sl ([.int x0]) ++ List.replicate (1 - (lg_sl ([.int x0])).length) Slot.unset).toArray = ls at hl ⊢
  have hl : lv_has ls 1 [(0, .int x0)] := hl
  unfold f_X9_needKind at hf
  refine lv_iload_n hx hb dX9_needKind_0 rfl (lv_at hl 0 rfl) ?_
  refine lv_bipush (v := (104 : Int32)) hx hb dX9_needKind_1 (by decide) ?_
  refine lv_icmp_eq (tgt := 29) hx hb dX9_needKind_3 (by decide) (fun c3 => ?_) (fun c3 => ?_)
  · replace hf := zz_pos c3 hf
    exact bk_X9_needKind_29 X hE hT hR (lv_sub hl [] rfl) hf
  · replace hf := zz_neg c3 hf
    refine lv_iload_n hx hb dX9_needKind_6 rfl (lv_at hl 0 rfl) ?_
    refine lv_bipush (v := (102 : Int32)) hx hb dX9_needKind_7 (by decide) ?_
    refine lv_icmp_eq (tgt := 29) hx hb dX9_needKind_9 (by decide) (fun c9 => ?_) (fun c9 => ?_)
    · replace hf := zz_pos c9 hf
      exact bk_X9_needKind_29 X hE hT hR (lv_sub hl [] rfl) hf
    · replace hf := zz_neg c9 hf
      refine lv_iload_n hx hb dX9_needKind_12 rfl (lv_at hl 0 rfl) ?_
      refine lv_bipush (v := (100 : Int32)) hx hb dX9_needKind_13 (by decide) ?_
      refine lv_icmp_eq (tgt := 29) hx hb dX9_needKind_15 (by decide) (fun c15 => ?_) (fun c15 => ?_)
      · replace hf := zz_pos c15 hf
        exact bk_X9_needKind_29 X hE hT hR (lv_sub hl [] rfl) hf
      · replace hf := zz_neg c15 hf
        cases hf
        exact zx_throwW X hE hR hl.1 (k := 0) (names := ["java/lang/RuntimeException", "java/lang/Exception"]) tw_10_385.1 tw_10_385.2.1 rfl q_492 q_14 (List.mem_of_getElem? (i := 7) rfl) tw_10_385.2.2.1 tw_10_385.2.2.2 dX9_needKind_18 dX9_needKind_21 dX9_needKind_22 dX9_needKind_25 dX9_needKind_28 (Nat.le_of_ble_eq_true rfl) ⟨Nat.le_of_ble_eq_true rfl, Nat.le_of_ble_eq_true rfl⟩ ⟨Nat.le_of_ble_eq_true rfl, Nat.le_of_ble_eq_true rfl⟩ (Nat.le_of_ble_eq_true rfl) (Nat.le_of_ble_eq_true rfl) (Nat.le_refl _)
def rm_X9_layer : Room := { frames := 8, cells := 7, slots := 46, locals := 132 }
theorem mf_X9_layer : zz_Mf yX9_layer cX9_layer 6 (some .int) 4 := ⟨q_755, q_1, by decide +kernel, by decide +kernel, by decide +kernel⟩
set_option maxHeartbeats 4000000 in
set_option maxRecDepth 100000 in
theorem mt_X9_layer {D : va_G} {dA : Nat → ClassId} {base t0 : Nat} {l : Launch} (hT : l.stackTraces = false) (a0 : Nat) (x1 : Int32) (x2 : Int32) (x3 : Int32) (x4 : Int32) (h : zz_H) (n : Nat) {r0 : (Int32 ⊕ Nat)} {hF : zz_H} {nF : Nat} (hf : f_X9_layer t0 a0 x1 x2 x3 x4 h n = some (r0, hF, nF)) : zz_MX D dA base t0 l yX9_layer cX9_layer 6 (some .int) rm_X9_layer [.ref a0, .int x1, .int x2, .int x3, .int x4] h n (zz_ov (fun v : Int32 => some (Value.int v)) r0) hF nF := by
  refine vx_ofW (cc := cX9_layer) (maxL := 6) (ret := (some .int)) (by decide +kernel) rfl ?_
  intro p e s m args below meth c s₁ B hml hE hv
  obtain ⟨rfl, hP, hK⟩ := hv
  have X : zz_X D dA base t0 "Springseat" cX9_layer 6 (some .int) l p s m meth c := ⟨B.exec, B.bytes, hml, B.returns, findClass_of_methodNamed B.named, B.notSynchronized, hT, by rw [hP.1]; exact hP.2.1, hK⟩
  have hx := X.1
  have hb := X.2.1
  have hown := X.2.2.2.2.1
  have hR : zz_R D dA base h n s s.heap [] := ⟨hP, va_S.rf⟩
  have hl := lv_entry ([.ref a0, .int x1, .int x2, .int x3, .int x4]) (n := 6) (by exact Nat.le_of_ble_eq_true rfl)
  rw [lg_entry_eq]
  generalize (lg_sl ([.ref a0, .int x1, .int x2, .int x3, .int x4]) ++ List.replicate (6 - (lg_sl ([.ref a0, .int x1, .int x2, .int x3, .int x4])).length) Slot.unset).toArray = ls at hl ⊢
  have hl : lv_has ls 6 [(0, .ref a0), (1, .int x1), (2, .int x2), (3, .int x3), (4, .int x4)] := hl
  unfold f_X9_layer at hf
  refine lv_aload_n hx hb dX9_layer_0 rfl (lv_at hl 0 rfl) ?_
  refine lv_iload_n hx hb dX9_layer_1 rfl (lv_at hl 1 rfl) ?_
  obtain ⟨fs2, ho2, hf⟩ := zz_obS_i hf
  refine zx_cV X hE hR hl.1 (As := [.int x1]) (rest := []) (C := RX9) (T := TX9) (N := 6) (ov := (fun v : Option Nat => some (va_rf v))) (fun r hr => mt_X9_seatOf hT a0 x1 h n hr) rfl ho2 mf_X9_seatOf q_172 q_174 qs_3 ⟨Nat.le_of_ble_eq_true rfl, Nat.le_of_ble_eq_true rfl⟩ ⟨Nat.le_of_ble_eq_true rfl, Nat.le_of_ble_eq_true rfl⟩ rfl (Nat.le_of_ble_eq_true rfl) dX9_layer_2 hf (fun k e => by cases e; exact ⟨rfl, rfl, Nat.le_refl _⟩) (Nat.le_of_ble_eq_true rfl) (Nat.le_of_ble_eq_true rfl) (fun v2 hf H locs hR => ?_)
  refine W.eq (g2 := F0 m 5 ls [va_rf v2]) rfl ?_
  refine W.widen (k := 1) (n := 6) (Nat.le_of_ble_eq_true rfl) (Nat.le_of_ble_eq_true rfl) ?_
  refine zr_astore (i := 5) (lv' := [(5, va_rf v2), (0, .ref a0), (1, .int x1), (2, .int x2), (3, .int x3), (4, .int x4)]) hx hb dX9_layer_5 hl (by decide) rfl (fun ls hl => ?_)
  refine lv_iload_n hx hb dX9_layer_7 rfl (lv_at hl 3 rfl) ?_
  refine zx_cS X hE hR hl.1 (As := [.int x2]) (rest := []) (ov := (fun _ : Unit => (none : Option Value))) (fun r hr => mt_X9_needKind hT x2 h n hr) mf_X9_needKind q_756 q_757 ⟨Nat.le_of_ble_eq_true rfl, Nat.le_of_ble_eq_true rfl⟩ ⟨Nat.le_of_ble_eq_true rfl, Nat.le_of_ble_eq_true rfl⟩ rfl (Nat.le_of_ble_eq_true rfl) dX9_layer_8 hf (fun k e => by cases e; exact ⟨rfl, rfl, Nat.le_refl _⟩) (Nat.le_of_ble_eq_true rfl) (Nat.le_of_ble_eq_true rfl) (fun v8 hf H locs hR => ?_)
  refine W.eq (g2 := F0 m 11 ls []) rfl ?_
  refine W.widen (k := 2) (n := 12) (Nat.le_of_ble_eq_true rfl) (Nat.le_of_ble_eq_true rfl) ?_
  refine lv_iload_n hx hb dX9_layer_11 rfl (lv_at hl 4 rfl) ?_
  refine lv_iconst (v := (5 : Int32)) hx hb dX9_layer_12 (by decide) ?_
  refine lv_bipush (v := (60 : Int32)) hx hb dX9_layer_13 (by decide) ?_
  refine zx_cS X hE hR hl.1 (As := [.int x3, .int (5 : Int32), .int (60 : Int32)]) (rest := []) (ov := (fun _ : Unit => (none : Option Value))) (fun r hr => mt_X9_needRange hT x3 (5 : Int32) (60 : Int32) h n hr) mf_X9_needRange q_489 q_490 ⟨Nat.le_of_ble_eq_true rfl, Nat.le_of_ble_eq_true rfl⟩ ⟨Nat.le_of_ble_eq_true rfl, Nat.le_of_ble_eq_true rfl⟩ rfl (Nat.le_of_ble_eq_true rfl) dX9_layer_15 hf (fun k e => by cases e; exact ⟨rfl, rfl, Nat.le_refl _⟩) (Nat.le_of_ble_eq_true rfl) (Nat.le_of_ble_eq_true rfl) (fun v15 hf H locs hR => ?_)
  refine W.eq (g2 := F0 m 18 ls []) rfl ?_
  refine W.widen (k := 3) (n := 18) (Nat.le_of_ble_eq_true rfl) (Nat.le_of_ble_eq_true rfl) ?_
  refine lv_iload hx hb dX9_layer_18 (lv_at hl 5 rfl) ?_
  refine lv_iconst (v := (1 : Int32)) hx hb dX9_layer_20 (by decide) ?_
  refine lv_bipush (v := (9 : Int32)) hx hb dX9_layer_21 (by decide) ?_
  refine zx_cS X hE hR hl.1 (As := [.int x4, .int (1 : Int32), .int (9 : Int32)]) (rest := []) (ov := (fun _ : Unit => (none : Option Value))) (fun r hr => mt_X9_needRange hT x4 (1 : Int32) (9 : Int32) h n hr) mf_X9_needRange q_489 q_490 ⟨Nat.le_of_ble_eq_true rfl, Nat.le_of_ble_eq_true rfl⟩ ⟨Nat.le_of_ble_eq_true rfl, Nat.le_of_ble_eq_true rfl⟩ rfl (Nat.le_of_ble_eq_true rfl) dX9_layer_23 hf (fun k e => by cases e; exact ⟨rfl, rfl, Nat.le_refl _⟩) (Nat.le_of_ble_eq_true rfl) (Nat.le_of_ble_eq_true rfl) (fun v23 hf H locs hR => ?_)
  refine W.eq (g2 := F0 m 26 ls []) rfl ?_
  refine W.widen (k := 4) (n := 24) (Nat.le_of_ble_eq_true rfl) (Nat.le_of_ble_eq_true rfl) ?_
  refine zr_aload hx hb dX9_layer_26 (lv_at hl 0 rfl) ?_
  refine lv_bipush (v := (108 : Int32)) hx hb dX9_layer_28 (by decide) ?_
  refine zx_cS X hE hR hl.1 (As := [va_rf v2, .int (108 : Int32)]) (rest := []) (ov := (fun _ : Unit => (none : Option Value))) (fun r hr => mt_X9_needNext hT v2 (108 : Int32) h n hr) mf_X9_needNext q_670 q_671 ⟨Nat.le_of_ble_eq_true rfl, Nat.le_of_ble_eq_true rfl⟩ ⟨Nat.le_of_ble_eq_true rfl, Nat.le_of_ble_eq_true rfl⟩ rfl (Nat.le_of_ble_eq_true rfl) dX9_layer_30 hf (fun k e => by cases e; exact ⟨rfl, rfl, Nat.le_refl _⟩) (Nat.le_of_ble_eq_true rfl) (Nat.le_of_ble_eq_true rfl) (fun v30 hf H locs hR => ?_)
  refine W.eq (g2 := F0 m 33 ls []) rfl ?_
  refine W.widen (k := 5) (n := 30) (Nat.le_of_ble_eq_true rfl) (Nat.le_of_ble_eq_true rfl) ?_
  refine zr_aload hx hb dX9_layer_33 (lv_at hl 0 rfl) ?_
  refine zr_gqN X hR (r := v2) fn_X9_130 dX9_layer_35 hf (fun v35 hf => ?_)
  refine zr_new X hR (fs := [.int 0, .int 0, .int 0, .int 0, .long 0, .int 0]) zc7 q_760 q_761 q_26 (fun j hj => by rcases (show j = 0 ∨ j = 1 ∨ j = 2 ∨ j = 3 ∨ j = 4 ∨ j = 5 by omega) with rfl | rfl | rfl | rfl | rfl | rfl <;> rfl) (Nat.le_of_ble_eq_true rfl) (Nat.le_of_ble_eq_true rfl) dX9_layer_38 (fun H hR => ?_)
  refine W.widen (k := 6) (n := 36) (Nat.le_of_ble_eq_true rfl) (Nat.le_of_ble_eq_true rfl) ?_
  refine lv_dup hx hb dX9_layer_41 rfl ?_
  refine lv_iload_n hx hb dX9_layer_42 rfl (lv_at hl 3 rfl) ?_
  refine lv_iload_n hx hb dX9_layer_43 rfl (lv_at hl 4 rfl) ?_
  refine lv_iload hx hb dX9_layer_44 (lv_at hl 5 rfl) ?_
  obtain ⟨u46, h46, hv46, hf⟩ := zz_b1_i hf
  refine zr_cI X hR hl.1 (As := [.int x2, .int x3, .int x4]) (rest := [.ref n, va_rf v35]) (mt_X6_init hT n x2 x3 x4 (zz_u h n (.inr (7, [.int 0, .int 0, .int 0, .int 0, .long 0, .int 0]))) (n + 1) hv46) mf_X6_init rfl q_762 q_763 ⟨Nat.le_of_ble_eq_true rfl, Nat.le_of_ble_eq_true rfl⟩ ⟨Nat.le_of_ble_eq_true rfl, Nat.le_of_ble_eq_true rfl⟩ rfl (Nat.le_of_ble_eq_true rfl) dX9_layer_46 (fun H locs hR => ?_)
  refine W.eq (g2 := F0 m 49 ls [.ref n, va_rf v35]) rfl ?_
  obtain ⟨b49, fs49, hr49, ho49, hf⟩ := zz_ob_i hf
  obtain ⟨u49, h49, n49, hv49, hf⟩ := zz_b2_i hf
  refine zr_cV X hR hl.1 (As := [.ref n]) (rest := []) (C := RX2) (T := TX2) (N := 1) (mt_X2_add hT b49 (some n) h46 (n + 1) hv49) rfl ho49 mf_X2_add q_786 q_787 q_788 ⟨Nat.le_of_ble_eq_true rfl, Nat.le_of_ble_eq_true rfl⟩ ⟨Nat.le_of_ble_eq_true rfl, Nat.le_of_ble_eq_true rfl⟩ (by rw [hr49]; rfl) (Nat.le_of_ble_eq_true rfl) dX9_layer_49 (fun H locs hR => ?_)
  refine W.eq (g2 := F0 m 52 ls []) rfl ?_
  refine W.widen (k := 7) (n := 46) (Nat.le_of_ble_eq_true rfl) (Nat.le_of_ble_eq_true rfl) ?_
  refine zr_aload hx hb dX9_layer_52 (lv_at hl 0 rfl) ?_
  refine zr_gqN X hR (r := v2) fn_X9_76 dX9_layer_54 hf (fun v54 hf => ?_)
  refine lv_bipush (v := (108 : Int32)) hx hb dX9_layer_57 (by decide) ?_
  obtain ⟨b59, fs59, hr59, ho59, hf⟩ := zz_ob_i hf
  obtain ⟨v59, h59, hv59, hf⟩ := zz_b1_i hf
  refine zr_cV X hR hl.1 (As := [.int (108 : Int32)]) (rest := []) (C := RX8) (T := TX8) (N := 3) (mt_X8_add hT b59 (108 : Int32) h49 n49 hv59) rfl ho59 mf_X8_add q_682 q_683 q_684 ⟨Nat.le_of_ble_eq_true rfl, Nat.le_of_ble_eq_true rfl⟩ ⟨Nat.le_of_ble_eq_true rfl, Nat.le_of_ble_eq_true rfl⟩ (by rw [hr59]; rfl) (Nat.le_of_ble_eq_true rfl) dX9_layer_59 (fun H locs hR => ?_)
  refine W.eq (g2 := F0 m 62 ls [.int v59]) rfl ?_
  cases hf
  exact zx_ret (zr_iret X hR dX9_layer_62 (Nat.le_of_ble_eq_true rfl) (Nat.le_of_ble_eq_true rfl))
def rm_X9_buttons : Room := { frames := 8, cells := 2, slots := 12, locals := 132 }
theorem mf_X9_buttons : zz_Mf yX9_buttons cX9_buttons 3 (some .int) 1 := ⟨q_797, q_1, by decide +kernel, by decide +kernel, by decide +kernel⟩
set_option maxHeartbeats 4000000 in
set_option maxRecDepth 100000 in
theorem mt_X9_buttons {D : va_G} {dA : Nat → ClassId} {base t0 : Nat} {l : Launch} (hT : l.stackTraces = false) (a0 : Nat) (x1 : Int32) (h : zz_H) (n : Nat) {r0 : (Int32 ⊕ Nat)} {hF : zz_H} (hf : f_X9_buttons a0 x1 h = some (r0, hF)) : zz_MX D dA base t0 l yX9_buttons cX9_buttons 3 (some .int) rm_X9_buttons [.ref a0, .int x1] h n (zz_ov (fun v : Int32 => some (Value.int v)) r0) hF n := by
  refine vx_ofW (cc := cX9_buttons) (maxL := 3) (ret := (some .int)) (by decide +kernel) rfl ?_
  intro p e s m args below meth c s₁ B hml hE hv
  obtain ⟨rfl, hP, hK⟩ := hv
  have X : zz_X D dA base t0 "Springseat" cX9_buttons 3 (some .int) l p s m meth c := ⟨B.exec, B.bytes, hml, B.returns, findClass_of_methodNamed B.named, B.notSynchronized, hT, by rw [hP.1]; exact hP.2.1, hK⟩
  have hx := X.1
  have hb := X.2.1
  have hown := X.2.2.2.2.1
  have hR : zz_R D dA base h n s s.heap [] := ⟨hP, va_S.rf⟩
  have hl := lv_entry ([.ref a0, .int x1]) (n := 3) (by exact Nat.le_of_ble_eq_true rfl)
  rw [lg_entry_eq]
  generalize (lg_sl ([.ref a0, .int x1]) ++ List.replicate (3 - (lg_sl ([.ref a0, .int x1])).length) Slot.unset).toArray = ls at hl ⊢
  have hl : lv_has ls 3 [(0, .ref a0), (1, .int x1)] := hl
  unfold f_X9_buttons at hf
  refine lv_aload_n hx hb dX9_buttons_0 rfl (lv_at hl 0 rfl) ?_
  refine lv_iload_n hx hb dX9_buttons_1 rfl (lv_at hl 1 rfl) ?_
  obtain ⟨fs2, ho2, hf⟩ := zz_obS_i hf
  refine zx_cV X hE hR hl.1 (As := [.int x1]) (rest := []) (C := RX9) (T := TX9) (N := 6) (ov := (fun v : Option Nat => some (va_rf v))) (fun r hr => mt_X9_seatOf hT a0 x1 h n hr) rfl ho2 mf_X9_seatOf q_172 q_174 qs_3 ⟨Nat.le_of_ble_eq_true rfl, Nat.le_of_ble_eq_true rfl⟩ ⟨Nat.le_of_ble_eq_true rfl, Nat.le_of_ble_eq_true rfl⟩ rfl (Nat.le_of_ble_eq_true rfl) dX9_buttons_2 hf (fun k e => by cases e; exact ⟨rfl, rfl, Nat.le_refl _⟩) (Nat.le_of_ble_eq_true rfl) (Nat.le_of_ble_eq_true rfl) (fun v2 hf H locs hR => ?_)
  refine W.eq (g2 := F0 m 5 ls [va_rf v2]) rfl ?_
  refine W.widen (k := 1) (n := 6) (Nat.le_of_ble_eq_true rfl) (Nat.le_of_ble_eq_true rfl) ?_
  refine zr_astore_n (i := 2) (lv' := [(2, va_rf v2), (0, .ref a0), (1, .int x1)]) hx hb dX9_buttons_5 rfl hl (by decide) rfl (fun ls hl => ?_)
  refine zr_aload_n hx hb dX9_buttons_6 rfl (lv_at hl 0 rfl) ?_
  refine lv_bipush (v := (98 : Int32)) hx hb dX9_buttons_7 (by decide) ?_
  refine zx_cS X hE hR hl.1 (As := [va_rf v2, .int (98 : Int32)]) (rest := []) (ov := (fun _ : Unit => (none : Option Value))) (fun r hr => mt_X9_needNext hT v2 (98 : Int32) h n hr) mf_X9_needNext q_670 q_671 ⟨Nat.le_of_ble_eq_true rfl, Nat.le_of_ble_eq_true rfl⟩ ⟨Nat.le_of_ble_eq_true rfl, Nat.le_of_ble_eq_true rfl⟩ rfl (Nat.le_of_ble_eq_true rfl) dX9_buttons_9 hf (fun k e => by cases e; exact ⟨rfl, rfl, Nat.le_refl _⟩) (Nat.le_of_ble_eq_true rfl) (Nat.le_of_ble_eq_true rfl) (fun v9 hf H locs hR => ?_)
  refine W.eq (g2 := F0 m 12 ls []) rfl ?_
  refine W.widen (k := 2) (n := 12) (Nat.le_of_ble_eq_true rfl) (Nat.le_of_ble_eq_true rfl) ?_
  refine zr_aload_n hx hb dX9_buttons_12 rfl (lv_at hl 0 rfl) ?_
  refine zr_gqN X hR (r := v2) fn_X9_76 dX9_buttons_13 hf (fun v13 hf => ?_)
  refine lv_bipush (v := (98 : Int32)) hx hb dX9_buttons_16 (by decide) ?_
  obtain ⟨b18, fs18, hr18, ho18, hf⟩ := zz_ob_i hf
  obtain ⟨v18, h18, hv18, hf⟩ := zz_b1_i hf
  refine zr_cV X hR hl.1 (As := [.int (98 : Int32)]) (rest := []) (C := RX8) (T := TX8) (N := 3) (mt_X8_add hT b18 (98 : Int32) h n hv18) rfl ho18 mf_X8_add q_682 q_683 q_684 ⟨Nat.le_of_ble_eq_true rfl, Nat.le_of_ble_eq_true rfl⟩ ⟨Nat.le_of_ble_eq_true rfl, Nat.le_of_ble_eq_true rfl⟩ (by rw [hr18]; rfl) (Nat.le_of_ble_eq_true rfl) dX9_buttons_18 (fun H locs hR => ?_)
  refine W.eq (g2 := F0 m 21 ls [.int v18]) rfl ?_
  cases hf
  exact zx_ret (zr_iret X hR dX9_buttons_21 (Nat.le_of_ble_eq_true rfl) (Nat.le_of_ble_eq_true rfl))
def rm_X9_draw : Room := { frames := 9, cells := 6, slots := 36, locals := 154 }
theorem mf_X9_draw : zz_Mf yX9_draw cX9_draw 5 (some .int) 3 := ⟨q_804, q_1, by decide +kernel, by decide +kernel, by decide +kernel⟩
set_option maxHeartbeats 4000000 in
set_option maxRecDepth 100000 in
theorem bk_X9_draw_49 {D : va_G} {dA : Nat → ClassId} {base t0 : Nat} {l : Launch} {p : Program} {e : Env} {s : State} {m : MethodId} {args : Array Value} {below : List Frame} {meth : Method} {c : Code} (X : zz_X D dA base t0 "Springseat" cX9_draw 5 (some .int) l p s m meth c) (hE : ∀ x ∈ c.exceptionTable.toList, False) (hT : l.stackTraces = false) {x2 : Int32} {x3 : Int32} {x4 : (Option Nat)} {h : zz_H} {n : Nat} {H : Heap} {locs : List Loc} {ls : Array Slot} (hR : zz_R D dA base h n s H locs) (hl : lv_has ls 5 [(2, .int x2), (3, .int x3), (4, va_rf x4)]) {r0 : (Int32 ⊕ Nat)} {hF : zz_H} (hf : f_X9_draw_49 x2 x3 x4 h = some (r0, hF)) : W p l e rm_X9_draw s m args below meth c H locs 6 36 (vx_MQ below (zz_Qo D dA base (zz_ov (fun v : Int32 => some (Value.int v)) r0) hF n) (zz_Xo D dA base (zz_ov (fun v : Int32 => some (Value.int v)) r0) hF n) args s rm_X9_draw.cells rm_X9_draw.slots (fun q => base ≤ q)) (F0 m 49 ls []) := by
  have hx := X.1
  have hb := X.2.1
  have hown := X.2.2.2.2.1
  unfold f_X9_draw_49 at hf
  refine zr_aload hx hb dX9_draw_49 (lv_at hl 2 rfl) ?_
  refine zr_gqN X hR (r := x4) fn_X9_144 dX9_draw_51 hf (fun v51 hf => ?_)
  refine lv_iload_n hx hb dX9_draw_54 rfl (lv_at hl 0 rfl) ?_
  refine lv_iload_n hx hb dX9_draw_55 rfl (lv_at hl 1 rfl) ?_
  obtain ⟨b56, fs56, hr56, ho56, hf⟩ := zz_ob_i hf
  obtain ⟨u56, h56, hv56, hf⟩ := zz_b1_i hf
  refine zr_cV X hR hl.1 (As := [.int x2, .int x3]) (rest := []) (C := RX4) (T := TX4) (N := 1) (mt_X4_put hT b56 x2 x3 h n hv56) rfl ho56 mf_X4_put q_809 q_473 q_474 ⟨Nat.le_of_ble_eq_true rfl, Nat.le_of_ble_eq_true rfl⟩ ⟨Nat.le_of_ble_eq_true rfl, Nat.le_of_ble_eq_true rfl⟩ (by rw [hr56]; rfl) (Nat.le_of_ble_eq_true rfl) dX9_draw_56 (fun H locs hR => ?_)
  refine W.eq (g2 := F0 m 59 ls []) rfl ?_
  refine zr_aload hx hb dX9_draw_59 (lv_at hl 2 rfl) ?_
  obtain ⟨b61, fs61, hr61, ho61, hf⟩ := zz_ob_i hf
  obtain ⟨v61, hv61, hf⟩ := zz_b_i hf
  refine zr_cV X hR hl.1 (As := []) (rest := []) (C := RX7) (T := TX7) (N := 6) (mt_X7_buttonCount hT b61 h56 n hv61) rfl ho61 mf_X7_buttonCount q_805 q_806 q_807 ⟨Nat.le_of_ble_eq_true rfl, Nat.le_of_ble_eq_true rfl⟩ ⟨Nat.le_of_ble_eq_true rfl, Nat.le_of_ble_eq_true rfl⟩ (by rw [hr61]; rfl) (Nat.le_of_ble_eq_true rfl) dX9_draw_61 (fun H locs hR => ?_)
  refine W.eq (g2 := F0 m 64 ls [.int v61]) rfl ?_
  cases hf
  exact zx_ret (zr_iret X hR dX9_draw_64 (Nat.le_of_ble_eq_true rfl) (Nat.le_of_ble_eq_true rfl))
set_option maxHeartbeats 4000000 in
set_option maxRecDepth 100000 in
theorem mt_X9_draw {D : va_G} {dA : Nat → ClassId} {base t0 : Nat} {l : Launch} (hT : l.stackTraces = false) (a0 : Nat) (x1 : Int32) (x2 : Int32) (x3 : Int32) (h : zz_H) (n : Nat) {r0 : (Int32 ⊕ Nat)} {hF : zz_H} (hf : f_X9_draw a0 x1 x2 x3 h = some (r0, hF)) : zz_MX D dA base t0 l yX9_draw cX9_draw 5 (some .int) rm_X9_draw [.ref a0, .int x1, .int x2, .int x3] h n (zz_ov (fun v : Int32 => some (Value.int v)) r0) hF n := by
  refine vx_ofW (cc := cX9_draw) (maxL := 5) (ret := (some .int)) (by decide +kernel) rfl ?_
  intro p e s m args below meth c s₁ B hml hE hv
  obtain ⟨rfl, hP, hK⟩ := hv
  have X : zz_X D dA base t0 "Springseat" cX9_draw 5 (some .int) l p s m meth c := ⟨B.exec, B.bytes, hml, B.returns, findClass_of_methodNamed B.named, B.notSynchronized, hT, by rw [hP.1]; exact hP.2.1, hK⟩
  have hx := X.1
  have hb := X.2.1
  have hown := X.2.2.2.2.1
  have hR : zz_R D dA base h n s s.heap [] := ⟨hP, va_S.rf⟩
  have hl := lv_entry ([.ref a0, .int x1, .int x2, .int x3]) (n := 5) (by exact Nat.le_of_ble_eq_true rfl)
  rw [lg_entry_eq]
  generalize (lg_sl ([.ref a0, .int x1, .int x2, .int x3]) ++ List.replicate (5 - (lg_sl ([.ref a0, .int x1, .int x2, .int x3])).length) Slot.unset).toArray = ls at hl ⊢
  have hl : lv_has ls 5 [(0, .ref a0), (1, .int x1), (2, .int x2), (3, .int x3)] := hl
  unfold f_X9_draw at hf
  refine lv_aload_n hx hb dX9_draw_0 rfl (lv_at hl 0 rfl) ?_
  refine lv_iload_n hx hb dX9_draw_1 rfl (lv_at hl 1 rfl) ?_
  obtain ⟨fs2, ho2, hf⟩ := zz_obS_i hf
  refine zx_cV X hE hR hl.1 (As := [.int x1]) (rest := []) (C := RX9) (T := TX9) (N := 6) (ov := (fun v : Option Nat => some (va_rf v))) (fun r hr => mt_X9_seatOf hT a0 x1 h n hr) rfl ho2 mf_X9_seatOf q_172 q_174 qs_3 ⟨Nat.le_of_ble_eq_true rfl, Nat.le_of_ble_eq_true rfl⟩ ⟨Nat.le_of_ble_eq_true rfl, Nat.le_of_ble_eq_true rfl⟩ rfl (Nat.le_of_ble_eq_true rfl) dX9_draw_2 hf (fun k e => by cases e; exact ⟨rfl, rfl, Nat.le_refl _⟩) (Nat.le_of_ble_eq_true rfl) (Nat.le_of_ble_eq_true rfl) (fun v2 hf H locs hR => ?_)
  refine W.eq (g2 := F0 m 5 ls [va_rf v2]) rfl ?_
  refine W.widen (k := 1) (n := 6) (Nat.le_of_ble_eq_true rfl) (Nat.le_of_ble_eq_true rfl) ?_
  refine zr_astore (i := 4) (lv' := [(4, va_rf v2), (0, .ref a0), (1, .int x1), (2, .int x2), (3, .int x3)]) hx hb dX9_draw_5 hl (by decide) rfl (fun ls hl => ?_)
  refine zr_aload hx hb dX9_draw_7 (lv_at hl 0 rfl) ?_
  refine lv_iload_n hx hb dX9_draw_9 rfl (lv_at hl 3 rfl) ?_
  refine zx_cS X hE hR hl.1 (As := [va_rf v2, .int x2]) (rest := []) (ov := (fun _ : Unit => (none : Option Value))) (fun r hr => mt_X9_needCell hT v2 x2 h n hr) mf_X9_needCell q_712 q_713 ⟨Nat.le_of_ble_eq_true rfl, Nat.le_of_ble_eq_true rfl⟩ ⟨Nat.le_of_ble_eq_true rfl, Nat.le_of_ble_eq_true rfl⟩ rfl (Nat.le_of_ble_eq_true rfl) dX9_draw_10 hf (fun k e => by cases e; exact ⟨rfl, rfl, Nat.le_refl _⟩) (Nat.le_of_ble_eq_true rfl) (Nat.le_of_ble_eq_true rfl) (fun v10 hf H locs hR => ?_)
  refine W.eq (g2 := F0 m 13 ls []) rfl ?_
  refine W.widen (k := 3) (n := 18) (Nat.le_of_ble_eq_true rfl) (Nat.le_of_ble_eq_true rfl) ?_
  refine lv_iload_n hx hb dX9_draw_13 rfl (lv_at hl 4 rfl) ?_
  refine lv_iconst (v := (1 : Int32)) hx hb dX9_draw_14 (by decide) ?_
  refine lv_bipush (v := (30 : Int32)) hx hb dX9_draw_15 (by decide) ?_
  refine zx_cS X hE hR hl.1 (As := [.int x3, .int (1 : Int32), .int (30 : Int32)]) (rest := []) (ov := (fun _ : Unit => (none : Option Value))) (fun r hr => mt_X9_needRange hT x3 (1 : Int32) (30 : Int32) h n hr) mf_X9_needRange q_489 q_490 ⟨Nat.le_of_ble_eq_true rfl, Nat.le_of_ble_eq_true rfl⟩ ⟨Nat.le_of_ble_eq_true rfl, Nat.le_of_ble_eq_true rfl⟩ rfl (Nat.le_of_ble_eq_true rfl) dX9_draw_17 hf (fun k e => by cases e; exact ⟨rfl, rfl, Nat.le_refl _⟩) (Nat.le_of_ble_eq_true rfl) (Nat.le_of_ble_eq_true rfl) (fun v17 hf H locs hR => ?_)
  refine W.eq (g2 := F0 m 20 ls []) rfl ?_
  refine W.widen (k := 4) (n := 24) (Nat.le_of_ble_eq_true rfl) (Nat.le_of_ble_eq_true rfl) ?_
  refine zr_aload hx hb dX9_draw_20 (lv_at hl 0 rfl) ?_
  refine lv_bipush (v := (98 : Int32)) hx hb dX9_draw_22 (by decide) ?_
  refine zx_cS X hE hR hl.1 (As := [va_rf v2, .int (98 : Int32)]) (rest := []) (ov := (fun _ : Unit => (none : Option Value))) (fun r hr => mt_X9_needInWork hT v2 (98 : Int32) h n hr) mf_X9_needInWork q_718 q_719 ⟨Nat.le_of_ble_eq_true rfl, Nat.le_of_ble_eq_true rfl⟩ ⟨Nat.le_of_ble_eq_true rfl, Nat.le_of_ble_eq_true rfl⟩ rfl (Nat.le_of_ble_eq_true rfl) dX9_draw_24 hf (fun k e => by cases e; exact ⟨rfl, rfl, Nat.le_refl _⟩) (Nat.le_of_ble_eq_true rfl) (Nat.le_of_ble_eq_true rfl) (fun v24 hf H locs hR => ?_)
  refine W.eq (g2 := F0 m 27 ls []) rfl ?_
  refine W.widen (k := 5) (n := 30) (Nat.le_of_ble_eq_true rfl) (Nat.le_of_ble_eq_true rfl) ?_
  refine zr_aload hx hb dX9_draw_27 (lv_at hl 0 rfl) ?_
  refine zr_gqN X hR (r := v2) fn_X9_144 dX9_draw_29 hf (fun v29 hf => ?_)
  refine lv_iload_n hx hb dX9_draw_32 rfl (lv_at hl 3 rfl) ?_
  obtain ⟨b33, fs33, hr33, ho33, hf⟩ := zz_ob_i hf
  obtain ⟨v33, hv33, hf⟩ := zz_b_i hf
  refine zr_cV X hR hl.1 (As := [.int x2]) (rest := []) (C := RX4) (T := TX4) (N := 1) (mt_X4_at hT b33 x2 h n hv33) rfl ho33 mf_X4_at q_724 q_302 q_303 ⟨Nat.le_of_ble_eq_true rfl, Nat.le_of_ble_eq_true rfl⟩ ⟨Nat.le_of_ble_eq_true rfl, Nat.le_of_ble_eq_true rfl⟩ (by rw [hr33]; rfl) (Nat.le_of_ble_eq_true rfl) dX9_draw_33 (fun H locs hR => ?_)
  refine W.eq (g2 := F0 m 36 ls [.int v33]) rfl ?_
  refine lv_if_ne (tgt := 49) hx hb dX9_draw_36 (by decide) (fun c36 => ?_) (fun c36 => ?_)
  · replace hf := zz_neg c36 hf
    refine W.widen (k := 6) (n := 36) (Nat.le_of_ble_eq_true rfl) (Nat.le_of_ble_eq_true rfl) ?_
    exact bk_X9_draw_49 X hE hT hR (lv_sub hl [3, 4, 0] rfl) hf
  · replace hf := zz_pos c36 hf
    refine zr_aload hx hb dX9_draw_39 (lv_at hl 0 rfl) ?_
    obtain ⟨b41, fs41, hr41, ho41, hf⟩ := zz_ob_i hf
    obtain ⟨v41, hv41, hf⟩ := zz_b_i hf
    refine zr_cV X hR hl.1 (As := []) (rest := []) (C := RX7) (T := TX7) (N := 6) (mt_X7_buttonCount hT b41 h n hv41) rfl ho41 mf_X7_buttonCount q_805 q_806 q_807 ⟨Nat.le_of_ble_eq_true rfl, Nat.le_of_ble_eq_true rfl⟩ ⟨Nat.le_of_ble_eq_true rfl, Nat.le_of_ble_eq_true rfl⟩ (by rw [hr41]; rfl) (Nat.le_of_ble_eq_true rfl) dX9_draw_41 (fun H locs hR => ?_)
    refine W.eq (g2 := F0 m 44 ls [.int v41]) rfl ?_
    refine lv_bipush (v := (12 : Int32)) hx hb dX9_draw_44 (by decide) ?_
    refine zx_cS X hE hR hl.1 (As := [.int v41, .int (12 : Int32)]) (rest := []) (ov := (fun _ : Unit => (none : Option Value))) (fun r hr => mt_X9_needRoom hT v41 (12 : Int32) h n hr) mf_X9_needRoom q_508 q_509 ⟨Nat.le_of_ble_eq_true rfl, Nat.le_of_ble_eq_true rfl⟩ ⟨Nat.le_of_ble_eq_true rfl, Nat.le_of_ble_eq_true rfl⟩ rfl (Nat.le_of_ble_eq_true rfl) dX9_draw_46 hf (fun k e => by cases e; exact ⟨rfl, rfl, Nat.le_refl _⟩) (Nat.le_of_ble_eq_true rfl) (Nat.le_of_ble_eq_true rfl) (fun v46 hf H locs hR => ?_)
    refine W.eq (g2 := F0 m 49 ls []) rfl ?_
    refine W.widen (k := 6) (n := 36) (Nat.le_of_ble_eq_true rfl) (Nat.le_of_ble_eq_true rfl) ?_
    exact bk_X9_draw_49 X hE hT hR (lv_sub hl [3, 4, 0] rfl) hf
def rm_X9_clothOf : Room := { frames := 7, cells := 1, slots := 6, locals := 111 }
theorem mf_X9_clothOf : zz_Mf yX9_clothOf cX9_clothOf 2 (some (.object "Springseat$Cloth")) 1 := ⟨q_822, q_1, by decide +kernel, by decide +kernel, by decide +kernel⟩
set_option maxHeartbeats 4000000 in
set_option maxRecDepth 100000 in
theorem mt_X9_clothOf {D : va_G} {dA : Nat → ClassId} {base t0 : Nat} {l : Launch} (hT : l.stackTraces = false) (a0 : Nat) (x1 : Int32) (h : zz_H) (n : Nat) {r0 : ((Option Nat) ⊕ Nat)} (hf : f_X9_clothOf a0 x1 h = some r0) : zz_MX D dA base t0 l yX9_clothOf cX9_clothOf 2 (some (.object "Springseat$Cloth")) rm_X9_clothOf [.ref a0, .int x1] h n (zz_ov (fun v : Option Nat => some (va_rf v)) r0) h n := by
  refine vx_ofW (cc := cX9_clothOf) (maxL := 2) (ret := (some (.object "Springseat$Cloth"))) (by decide +kernel) rfl ?_
  intro p e s m args below meth c s₁ B hml hE hv
  obtain ⟨rfl, hP, hK⟩ := hv
  have X : zz_X D dA base t0 "Springseat" cX9_clothOf 2 (some (.object "Springseat$Cloth")) l p s m meth c := ⟨B.exec, B.bytes, hml, B.returns, findClass_of_methodNamed B.named, B.notSynchronized, hT, by rw [hP.1]; exact hP.2.1, hK⟩
  have hx := X.1
  have hb := X.2.1
  have hown := X.2.2.2.2.1
  have hR : zz_R D dA base h n s s.heap [] := ⟨hP, va_S.rf⟩
  have hl := lv_entry ([.ref a0, .int x1]) (n := 2) (by exact Nat.le_of_ble_eq_true rfl)
  rw [lg_entry_eq]
  generalize (lg_sl ([.ref a0, .int x1]) ++ List.replicate (2 - (lg_sl ([.ref a0, .int x1])).length) Slot.unset).toArray = ls at hl ⊢
  have hl : lv_has ls 2 [(0, .ref a0), (1, .int x1)] := hl
  unfold f_X9_clothOf at hf
  refine lv_iload_n hx hb dX9_clothOf_0 rfl (lv_at hl 1 rfl) ?_
  refine lv_aload_n hx hb dX9_clothOf_1 rfl (lv_at hl 0 rfl) ?_
  refine zr_gq X hR (r := (some a0)) fl_X9_19 dX9_clothOf_2 hf (fun v2 hf => ?_)
  obtain ⟨b5, fs5, hr5, ho5, hf⟩ := zz_ob_i hf
  obtain ⟨v5, hv5, hf⟩ := zz_b_i hf
  refine zr_cV X hR hl.1 (As := []) (rest := [.int x1]) (C := RJx4a65c) (T := TJx4a65c) (N := 3) (mt_Jx4a65c_size_8abf5 hT b5 h n hv5) rfl ho5 mf_Jx4a65c_size_8abf5 q_176 q_177 q_178 ⟨Nat.le_of_ble_eq_true rfl, Nat.le_of_ble_eq_true rfl⟩ ⟨Nat.le_of_ble_eq_true rfl, Nat.le_of_ble_eq_true rfl⟩ (by rw [hr5]; rfl) (Nat.le_of_ble_eq_true rfl) dX9_clothOf_5 (fun H locs hR => ?_)
  refine W.eq (g2 := F0 m 8 ls [.int v5, .int x1]) rfl ?_
  refine zx_cS X hE hR hl.1 (As := [.int x1, .int v5]) (rest := []) (ov := (fun _ : Unit => (none : Option Value))) (fun r hr => mt_X9_needIndex hT x1 v5 h n hr) mf_X9_needIndex q_180 q_181 ⟨Nat.le_of_ble_eq_true rfl, Nat.le_of_ble_eq_true rfl⟩ ⟨Nat.le_of_ble_eq_true rfl, Nat.le_of_ble_eq_true rfl⟩ rfl (Nat.le_of_ble_eq_true rfl) dX9_clothOf_8 hf (fun k e => by cases e; exact ⟨rfl, rfl, Nat.le_refl _⟩) (Nat.le_of_ble_eq_true rfl) (Nat.le_of_ble_eq_true rfl) (fun v8 hf H locs hR => ?_)
  refine W.eq (g2 := F0 m 11 ls []) rfl ?_
  refine W.widen (k := 1) (n := 6) (Nat.le_of_ble_eq_true rfl) (Nat.le_of_ble_eq_true rfl) ?_
  refine lv_aload_n hx hb dX9_clothOf_11 rfl (lv_at hl 0 rfl) ?_
  refine zr_gq X hR (r := (some a0)) fl_X9_19 dX9_clothOf_12 hf (fun v12 hf => ?_)
  refine lv_iload_n hx hb dX9_clothOf_15 rfl (lv_at hl 1 rfl) ?_
  obtain ⟨b16, fs16, hr16, ho16, hf⟩ := zz_ob_i hf
  obtain ⟨v16, hv16, hf⟩ := zz_b_i hf
  refine zr_cV X hR hl.1 (As := [.int x1]) (rest := []) (C := RJx4a65c) (T := TJx4a65c) (N := 3) (mt_Jx4a65c_get_915e3 hT b16 x1 h n hv16) rfl ho16 mf_Jx4a65c_get_915e3 q_253 q_254 q_255 ⟨Nat.le_of_ble_eq_true rfl, Nat.le_of_ble_eq_true rfl⟩ ⟨Nat.le_of_ble_eq_true rfl, Nat.le_of_ble_eq_true rfl⟩ (by rw [hr16]; rfl) (Nat.le_of_ble_eq_true rfl) dX9_clothOf_16 (fun H locs hR => ?_)
  refine W.eq (g2 := F0 m 19 ls [va_rf v16]) rfl ?_
  refine zr_cc X hR (ci := 1) (C := RX0) (T := TX0) (N := 5) (r := v16) rfl q_823 (Or.inr trivial) dX9_clothOf_19 hf (fun hf => ?_)
  cases hf
  exact zx_ret (zr_aret (Or.inl ⟨_, rfl⟩) X hR (r := _) dX9_clothOf_22 (Nat.le_of_ble_eq_true rfl) (Nat.le_of_ble_eq_true rfl))
def rm_X9_cover : Room := { frames := 8, cells := 5, slots := 30, locals := 152 }
theorem mf_X9_cover : zz_Mf yX9_cover cX9_cover 6 (some .int) 3 := ⟨q_818, q_1, by decide +kernel, by decide +kernel, by decide +kernel⟩
set_option maxHeartbeats 4000000 in
set_option maxRecDepth 100000 in
theorem mt_X9_cover {D : va_G} {dA : Nat → ClassId} {base t0 : Nat} {l : Launch} (hT : l.stackTraces = false) (a0 : Nat) (x1 : Int32) (x2 : Int32) (x3 : Int32) (h : zz_H) (n : Nat) {r0 : (Int32 ⊕ Nat)} {hF : zz_H} (hf : f_X9_cover a0 x1 x2 x3 h = some (r0, hF)) : zz_MX D dA base t0 l yX9_cover cX9_cover 6 (some .int) rm_X9_cover [.ref a0, .int x1, .int x2, .int x3] h n (zz_ov (fun v : Int32 => some (Value.int v)) r0) hF n := by
  refine vx_ofW (cc := cX9_cover) (maxL := 6) (ret := (some .int)) (by decide +kernel) rfl ?_
  intro p e s m args below meth c s₁ B hml hE hv
  obtain ⟨rfl, hP, hK⟩ := hv
  have X : zz_X D dA base t0 "Springseat" cX9_cover 6 (some .int) l p s m meth c := ⟨B.exec, B.bytes, hml, B.returns, findClass_of_methodNamed B.named, B.notSynchronized, hT, by rw [hP.1]; exact hP.2.1, hK⟩
  have hx := X.1
  have hb := X.2.1
  have hown := X.2.2.2.2.1
  have hR : zz_R D dA base h n s s.heap [] := ⟨hP, va_S.rf⟩
  have hl := lv_entry ([.ref a0, .int x1, .int x2, .int x3]) (n := 6) (by exact Nat.le_of_ble_eq_true rfl)
  rw [lg_entry_eq]
  generalize (lg_sl ([.ref a0, .int x1, .int x2, .int x3]) ++ List.replicate (6 - (lg_sl ([.ref a0, .int x1, .int x2, .int x3])).length) Slot.unset).toArray = ls at hl ⊢
  have hl : lv_has ls 6 [(0, .ref a0), (1, .int x1), (2, .int x2), (3, .int x3)] := hl
  unfold f_X9_cover at hf
  refine lv_aload_n hx hb dX9_cover_0 rfl (lv_at hl 0 rfl) ?_
  refine lv_iload_n hx hb dX9_cover_1 rfl (lv_at hl 1 rfl) ?_
  obtain ⟨fs2, ho2, hf⟩ := zz_obS_i hf
  refine zx_cV X hE hR hl.1 (As := [.int x1]) (rest := []) (C := RX9) (T := TX9) (N := 6) (ov := (fun v : Option Nat => some (va_rf v))) (fun r hr => mt_X9_seatOf hT a0 x1 h n hr) rfl ho2 mf_X9_seatOf q_172 q_174 qs_3 ⟨Nat.le_of_ble_eq_true rfl, Nat.le_of_ble_eq_true rfl⟩ ⟨Nat.le_of_ble_eq_true rfl, Nat.le_of_ble_eq_true rfl⟩ rfl (Nat.le_of_ble_eq_true rfl) dX9_cover_2 hf (fun k e => by cases e; exact ⟨rfl, rfl, Nat.le_refl _⟩) (Nat.le_of_ble_eq_true rfl) (Nat.le_of_ble_eq_true rfl) (fun v2 hf H locs hR => ?_)
  refine W.eq (g2 := F0 m 5 ls [va_rf v2]) rfl ?_
  refine W.widen (k := 1) (n := 6) (Nat.le_of_ble_eq_true rfl) (Nat.le_of_ble_eq_true rfl) ?_
  refine zr_astore (i := 4) (lv' := [(4, va_rf v2), (0, .ref a0), (1, .int x1), (2, .int x2), (3, .int x3)]) hx hb dX9_cover_5 hl (by decide) rfl (fun ls hl => ?_)
  refine lv_aload_n hx hb dX9_cover_7 rfl (lv_at hl 1 rfl) ?_
  refine lv_iload_n hx hb dX9_cover_8 rfl (lv_at hl 3 rfl) ?_
  obtain ⟨fs9, ho9, hf⟩ := zz_obS_i hf
  refine zx_cV X hE hR hl.1 (As := [.int x2]) (rest := []) (C := RX9) (T := TX9) (N := 6) (ov := (fun v : Option Nat => some (va_rf v))) (fun r hr => mt_X9_clothOf hT a0 x2 h n hr) rfl ho9 mf_X9_clothOf q_819 q_821 qs_11 ⟨Nat.le_of_ble_eq_true rfl, Nat.le_of_ble_eq_true rfl⟩ ⟨Nat.le_of_ble_eq_true rfl, Nat.le_of_ble_eq_true rfl⟩ rfl (Nat.le_of_ble_eq_true rfl) dX9_cover_9 hf (fun k e => by cases e; exact ⟨rfl, rfl, Nat.le_refl _⟩) (Nat.le_of_ble_eq_true rfl) (Nat.le_of_ble_eq_true rfl) (fun v9 hf H locs hR => ?_)
  refine W.eq (g2 := F0 m 12 ls [va_rf v9]) rfl ?_
  refine W.widen (k := 2) (n := 12) (Nat.le_of_ble_eq_true rfl) (Nat.le_of_ble_eq_true rfl) ?_
  refine zr_astore (i := 5) (lv' := [(5, va_rf v9), (4, va_rf v2), (0, .ref a0), (1, .int x1), (2, .int x2), (3, .int x3)]) hx hb dX9_cover_12 hl (by decide) (by simp [zz_cat, zz_catI, zz_catR, zz_catJ, zz_catF, zz_catD]) (fun ls hl => ?_)
  refine lv_iload_n hx hb dX9_cover_14 rfl (lv_at hl 5 rfl) ?_
  refine lv_iconst (v := (0 : Int32)) hx hb dX9_cover_15 (by decide) ?_
  refine zr_aload hx hb dX9_cover_16 (lv_at hl 0 rfl) ?_
  refine zr_giN X hR (r := v9) fn_X9_157 dX9_cover_18 hf (fun v18 hf => ?_)
  refine lv_iconst (v := (1 : Int32)) hx hb dX9_cover_21 (by decide) ?_
  refine lv_isub hx hb dX9_cover_22 ?_
  refine zx_cS X hE hR hl.1 (As := [.int x3, .int (0 : Int32), .int (v18 - (1 : Int32))]) (rest := []) (ov := (fun _ : Unit => (none : Option Value))) (fun r hr => mt_X9_needRange hT x3 (0 : Int32) (v18 - (1 : Int32)) h n hr) mf_X9_needRange q_489 q_490 ⟨Nat.le_of_ble_eq_true rfl, Nat.le_of_ble_eq_true rfl⟩ ⟨Nat.le_of_ble_eq_true rfl, Nat.le_of_ble_eq_true rfl⟩ rfl (Nat.le_of_ble_eq_true rfl) dX9_cover_23 hf (fun k e => by cases e; exact ⟨rfl, rfl, Nat.le_refl _⟩) (Nat.le_of_ble_eq_true rfl) (Nat.le_of_ble_eq_true rfl) (fun v23 hf H locs hR => ?_)
  refine W.eq (g2 := F0 m 26 ls []) rfl ?_
  refine W.widen (k := 3) (n := 18) (Nat.le_of_ble_eq_true rfl) (Nat.le_of_ble_eq_true rfl) ?_
  refine zr_aload hx hb dX9_cover_26 (lv_at hl 1 rfl) ?_
  refine lv_bipush (v := (99 : Int32)) hx hb dX9_cover_28 (by decide) ?_
  refine zx_cS X hE hR hl.1 (As := [va_rf v2, .int (99 : Int32)]) (rest := []) (ov := (fun _ : Unit => (none : Option Value))) (fun r hr => mt_X9_needNext hT v2 (99 : Int32) h n hr) mf_X9_needNext q_670 q_671 ⟨Nat.le_of_ble_eq_true rfl, Nat.le_of_ble_eq_true rfl⟩ ⟨Nat.le_of_ble_eq_true rfl, Nat.le_of_ble_eq_true rfl⟩ rfl (Nat.le_of_ble_eq_true rfl) dX9_cover_30 hf (fun k e => by cases e; exact ⟨rfl, rfl, Nat.le_refl _⟩) (Nat.le_of_ble_eq_true rfl) (Nat.le_of_ble_eq_true rfl) (fun v30 hf H locs hR => ?_)
  refine W.eq (g2 := F0 m 33 ls []) rfl ?_
  refine W.widen (k := 4) (n := 24) (Nat.le_of_ble_eq_true rfl) (Nat.le_of_ble_eq_true rfl) ?_
  refine zr_aload hx hb dX9_cover_33 (lv_at hl 1 rfl) ?_
  refine zr_aload hx hb dX9_cover_35 (lv_at hl 0 rfl) ?_
  refine lv_iload_n hx hb dX9_cover_37 rfl (lv_at hl 5 rfl) ?_
  obtain ⟨b38, fs38, hr38, ho38, hf⟩ := zz_ob_i hf
  obtain ⟨v38, h38, hv38, hf⟩ := zz_b1_i hf
  refine zr_cV X hR hl.1 (As := [va_rf v9, .int x3]) (rest := []) (C := RX7) (T := TX7) (N := 6) (mt_X7_close hT b38 v9 x3 h n hv38) rfl ho38 mf_X7_close q_824 q_825 q_826 ⟨Nat.le_of_ble_eq_true rfl, Nat.le_of_ble_eq_true rfl⟩ ⟨Nat.le_of_ble_eq_true rfl, Nat.le_of_ble_eq_true rfl⟩ (by rw [hr38]; rfl) (Nat.le_of_ble_eq_true rfl) dX9_cover_38 (fun H locs hR => ?_)
  refine W.eq (g2 := F0 m 41 ls [.int v38]) rfl ?_
  refine lv_if_ne (tgt := 54) hx hb dX9_cover_41 (by decide) (fun c41 => ?_) (fun c41 => ?_)
  · replace hf := zz_neg c41 hf
    refine zr_aload hx hb dX9_cover_54 (lv_at hl 0 rfl) ?_
    refine zr_giN X hR (r := v9) fn_X9_173 dX9_cover_56 hf (fun v56 hf => ?_)
    cases hf
    exact zx_ret (zr_iret X hR dX9_cover_59 (Nat.le_of_ble_eq_true rfl) (Nat.le_of_ble_eq_true rfl))
  · replace hf := zz_pos c41 hf
    cases hf
    exact zx_throwX X hE hR hl.1 nse_0 nse_1 nse_2 nse_5 (k := 4) (names := ["java/lang/RuntimeException", "java/lang/Exception"]) tw_10_170.1 tw_10_170.2.1 rfl q_364 q_25 (List.mem_of_getElem? (i := 8) rfl) tw_10_170.2.2.1 tw_10_170.2.2.2 dX9_cover_44 dX9_cover_47 dX9_cover_48 dX9_cover_50 dX9_cover_53 (Nat.le_of_ble_eq_true rfl) ⟨Nat.le_of_ble_eq_true rfl, Nat.le_of_ble_eq_true rfl⟩ ⟨Nat.le_of_ble_eq_true rfl, Nat.le_of_ble_eq_true rfl⟩ (Nat.le_of_ble_eq_true rfl) (Nat.le_of_ble_eq_true rfl) (Nat.le_refl _)
def rm_X9_sign : Room := { frames := 8, cells := 2, slots := 12, locals := 132 }
theorem mf_X9_sign : zz_Mf yX9_sign cX9_sign 3 (some .int) 1 := ⟨q_850, q_1, by decide +kernel, by decide +kernel, by decide +kernel⟩
set_option maxHeartbeats 4000000 in
set_option maxRecDepth 100000 in
theorem mt_X9_sign {D : va_G} {dA : Nat → ClassId} {base t0 : Nat} {l : Launch} (hT : l.stackTraces = false) (a0 : Nat) (x1 : Int32) (h : zz_H) (n : Nat) {r0 : (Int32 ⊕ Nat)} {hF : zz_H} (hf : f_X9_sign a0 x1 h = some (r0, hF)) : zz_MX D dA base t0 l yX9_sign cX9_sign 3 (some .int) rm_X9_sign [.ref a0, .int x1] h n (zz_ov (fun v : Int32 => some (Value.int v)) r0) hF n := by
  refine vx_ofW (cc := cX9_sign) (maxL := 3) (ret := (some .int)) (by decide +kernel) rfl ?_
  intro p e s m args below meth c s₁ B hml hE hv
  obtain ⟨rfl, hP, hK⟩ := hv
  have X : zz_X D dA base t0 "Springseat" cX9_sign 3 (some .int) l p s m meth c := ⟨B.exec, B.bytes, hml, B.returns, findClass_of_methodNamed B.named, B.notSynchronized, hT, by rw [hP.1]; exact hP.2.1, hK⟩
  have hx := X.1
  have hb := X.2.1
  have hown := X.2.2.2.2.1
  have hR : zz_R D dA base h n s s.heap [] := ⟨hP, va_S.rf⟩
  have hl := lv_entry ([.ref a0, .int x1]) (n := 3) (by exact Nat.le_of_ble_eq_true rfl)
  rw [lg_entry_eq]
  generalize (lg_sl ([.ref a0, .int x1]) ++ List.replicate (3 - (lg_sl ([.ref a0, .int x1])).length) Slot.unset).toArray = ls at hl ⊢
  have hl : lv_has ls 3 [(0, .ref a0), (1, .int x1)] := hl
  unfold f_X9_sign at hf
  refine lv_aload_n hx hb dX9_sign_0 rfl (lv_at hl 0 rfl) ?_
  refine lv_iload_n hx hb dX9_sign_1 rfl (lv_at hl 1 rfl) ?_
  obtain ⟨fs2, ho2, hf⟩ := zz_obS_i hf
  refine zx_cV X hE hR hl.1 (As := [.int x1]) (rest := []) (C := RX9) (T := TX9) (N := 6) (ov := (fun v : Option Nat => some (va_rf v))) (fun r hr => mt_X9_seatOf hT a0 x1 h n hr) rfl ho2 mf_X9_seatOf q_172 q_174 qs_3 ⟨Nat.le_of_ble_eq_true rfl, Nat.le_of_ble_eq_true rfl⟩ ⟨Nat.le_of_ble_eq_true rfl, Nat.le_of_ble_eq_true rfl⟩ rfl (Nat.le_of_ble_eq_true rfl) dX9_sign_2 hf (fun k e => by cases e; exact ⟨rfl, rfl, Nat.le_refl _⟩) (Nat.le_of_ble_eq_true rfl) (Nat.le_of_ble_eq_true rfl) (fun v2 hf H locs hR => ?_)
  refine W.eq (g2 := F0 m 5 ls [va_rf v2]) rfl ?_
  refine W.widen (k := 1) (n := 6) (Nat.le_of_ble_eq_true rfl) (Nat.le_of_ble_eq_true rfl) ?_
  refine zr_astore_n (i := 2) (lv' := [(2, va_rf v2), (0, .ref a0), (1, .int x1)]) hx hb dX9_sign_5 rfl hl (by decide) rfl (fun ls hl => ?_)
  refine zr_aload_n hx hb dX9_sign_6 rfl (lv_at hl 0 rfl) ?_
  refine zr_gqN X hR (r := v2) fn_X9_76 dX9_sign_7 hf (fun v7 hf => ?_)
  obtain ⟨b10, fs10, hr10, ho10, hf⟩ := zz_ob_i hf
  obtain ⟨v10, hv10, hf⟩ := zz_b_i hf
  refine zr_cV X hR hl.1 (As := []) (rest := []) (C := RX8) (T := TX8) (N := 3) (mt_X8_allSigned hT b10 h n hv10) rfl ho10 mf_X8_allSigned q_722 q_678 q_679 ⟨Nat.le_of_ble_eq_true rfl, Nat.le_of_ble_eq_true rfl⟩ ⟨Nat.le_of_ble_eq_true rfl, Nat.le_of_ble_eq_true rfl⟩ (by rw [hr10]; rfl) (Nat.le_of_ble_eq_true rfl) dX9_sign_10 (fun H locs hR => ?_)
  refine W.eq (g2 := F0 m 13 ls [.int v10]) rfl ?_
  refine lv_if_eq (tgt := 26) hx hb dX9_sign_13 (by decide) (fun c13 => ?_) (fun c13 => ?_)
  · replace hf := zz_pos c13 hf
    refine zr_aload_n hx hb dX9_sign_26 rfl (lv_at hl 0 rfl) ?_
    refine zr_gqN X hR (r := v2) fn_X9_76 dX9_sign_27 hf (fun v27 hf => ?_)
    obtain ⟨b30, fs30, hr30, ho30, hf⟩ := zz_ob_i hf
    obtain ⟨v30, h30, hv30, hf⟩ := zz_b1_i hf
    refine zr_cV X hR hl.1 (As := []) (rest := []) (C := RX8) (T := TX8) (N := 3) (mt_X8_signLast hT b30 h n hv30) rfl ho30 mf_X8_signLast q_852 q_853 q_854 ⟨Nat.le_of_ble_eq_true rfl, Nat.le_of_ble_eq_true rfl⟩ ⟨Nat.le_of_ble_eq_true rfl, Nat.le_of_ble_eq_true rfl⟩ (by rw [hr30]; rfl) (Nat.le_of_ble_eq_true rfl) dX9_sign_30 (fun H locs hR => ?_)
    refine W.eq (g2 := F0 m 33 ls [.int v30]) rfl ?_
    cases hf
    exact zx_ret (zr_iret X hR dX9_sign_33 (Nat.le_of_ble_eq_true rfl) (Nat.le_of_ble_eq_true rfl))
  · replace hf := zz_neg c13 hf
    cases hf
    exact zx_throw X hE hR hl.1 (k := 3) (names := ["java/lang/RuntimeException", "java/lang/Exception"]) tw_10_184.1 tw_10_184.2.1 rfl q_315 q_24 (List.mem_of_getElem? (i := 9) rfl) tw_10_184.2.2.1 tw_10_184.2.2.2 dX9_sign_16 dX9_sign_19 dX9_sign_20 dX9_sign_22 dX9_sign_25 (Nat.le_of_ble_eq_true rfl) ⟨Nat.le_of_ble_eq_true rfl, Nat.le_of_ble_eq_true rfl⟩ ⟨Nat.le_of_ble_eq_true rfl, Nat.le_of_ble_eq_true rfl⟩ (Nat.le_of_ble_eq_true rfl) (Nat.le_of_ble_eq_true rfl) (Nat.le_refl _)
def rm_X9_isClosed : Room := { frames := 8, cells := 1, slots := 6, locals := 132 }
theorem mf_X9_isClosed : zz_Mf yX9_isClosed cX9_isClosed 2 (some .boolean) 1 := ⟨q_171, q_1, by decide +kernel, by decide +kernel, by decide +kernel⟩
set_option maxHeartbeats 4000000 in
set_option maxRecDepth 100000 in
theorem mt_X9_isClosed {D : va_G} {dA : Nat → ClassId} {base t0 : Nat} {l : Launch} (hT : l.stackTraces = false) (a0 : Nat) (x1 : Int32) (h : zz_H) (n : Nat) {r0 : (Int32 ⊕ Nat)} (hf : f_X9_isClosed a0 x1 h = some r0) : zz_MX D dA base t0 l yX9_isClosed cX9_isClosed 2 (some .boolean) rm_X9_isClosed [.ref a0, .int x1] h n (zz_ov (fun v : Int32 => some (Value.int v)) r0) h n := by
  refine vx_ofW (cc := cX9_isClosed) (maxL := 2) (ret := (some .boolean)) (by decide +kernel) rfl ?_
  intro p e s m args below meth c s₁ B hml hE hv
  obtain ⟨rfl, hP, hK⟩ := hv
  have X : zz_X D dA base t0 "Springseat" cX9_isClosed 2 (some .boolean) l p s m meth c := ⟨B.exec, B.bytes, hml, B.returns, findClass_of_methodNamed B.named, B.notSynchronized, hT, by rw [hP.1]; exact hP.2.1, hK⟩
  have hx := X.1
  have hb := X.2.1
  have hown := X.2.2.2.2.1
  have hR : zz_R D dA base h n s s.heap [] := ⟨hP, va_S.rf⟩
  have hl := lv_entry ([.ref a0, .int x1]) (n := 2) (by exact Nat.le_of_ble_eq_true rfl)
  rw [lg_entry_eq]
  generalize (lg_sl ([.ref a0, .int x1]) ++ List.replicate (2 - (lg_sl ([.ref a0, .int x1])).length) Slot.unset).toArray = ls at hl ⊢
  have hl : lv_has ls 2 [(0, .ref a0), (1, .int x1)] := hl
  unfold f_X9_isClosed at hf
  refine lv_aload_n hx hb dX9_isClosed_0 rfl (lv_at hl 0 rfl) ?_
  refine lv_iload_n hx hb dX9_isClosed_1 rfl (lv_at hl 1 rfl) ?_
  obtain ⟨fs2, ho2, hf⟩ := zz_obS_i hf
  refine zx_cV X hE hR hl.1 (As := [.int x1]) (rest := []) (C := RX9) (T := TX9) (N := 6) (ov := (fun v : Option Nat => some (va_rf v))) (fun r hr => mt_X9_seatOf hT a0 x1 h n hr) rfl ho2 mf_X9_seatOf q_172 q_174 qs_3 ⟨Nat.le_of_ble_eq_true rfl, Nat.le_of_ble_eq_true rfl⟩ ⟨Nat.le_of_ble_eq_true rfl, Nat.le_of_ble_eq_true rfl⟩ rfl (Nat.le_of_ble_eq_true rfl) dX9_isClosed_2 hf (fun k e => by cases e; exact ⟨rfl, rfl, Nat.le_refl _⟩) (Nat.le_of_ble_eq_true rfl) (Nat.le_of_ble_eq_true rfl) (fun v2 hf H locs hR => ?_)
  refine W.eq (g2 := F0 m 5 ls [va_rf v2]) rfl ?_
  refine W.widen (k := 1) (n := 6) (Nat.le_of_ble_eq_true rfl) (Nat.le_of_ble_eq_true rfl) ?_
  obtain ⟨b5, fs5, hr5, ho5, hf⟩ := zz_ob_i hf
  obtain ⟨v5, hv5, hf⟩ := zz_b_i hf
  refine zr_cV X hR hl.1 (As := []) (rest := []) (C := RX7) (T := TX7) (N := 6) (mt_X7_hasCover hT b5 h n hv5) rfl ho5 mf_X7_hasCover q_268 q_269 q_270 ⟨Nat.le_of_ble_eq_true rfl, Nat.le_of_ble_eq_true rfl⟩ ⟨Nat.le_of_ble_eq_true rfl, Nat.le_of_ble_eq_true rfl⟩ (by rw [hr5]; rfl) (Nat.le_of_ble_eq_true rfl) dX9_isClosed_5 (fun H locs hR => ?_)
  refine W.eq (g2 := F0 m 8 ls [.int v5]) rfl ?_
  obtain ⟨hz8, hf⟩ := zz_gz_i hf
  cases hf
  exact zx_ret (zr_zret X hR (zz_nz hz8) dX9_isClosed_8 (Nat.le_of_ble_eq_true rfl) (Nat.le_of_ble_eq_true rfl))
def rm_X9_stands : Room := { frames := 9, cells := 3, slots := 18, locals := 154 }
theorem mf_X9_stands : zz_Mf yX9_stands cX9_stands 4 (some .int) 2 := ⟨q_862, q_1, by decide +kernel, by decide +kernel, by decide +kernel⟩
set_option maxHeartbeats 4000000 in
set_option maxRecDepth 100000 in
theorem mt_X9_stands {D : va_G} {dA : Nat → ClassId} {base t0 : Nat} {l : Launch} (hT : l.stackTraces = false) (a0 : Nat) (x1 : Int32) (x2 : Int32) (h : zz_H) (n : Nat) {r0 : (Int32 ⊕ Nat)} (hf : f_X9_stands a0 x1 x2 h = some r0) : zz_MX D dA base t0 l yX9_stands cX9_stands 4 (some .int) rm_X9_stands [.ref a0, .int x1, .int x2] h n (zz_ov (fun v : Int32 => some (Value.int v)) r0) h n := by
  refine vx_ofW (cc := cX9_stands) (maxL := 4) (ret := (some .int)) (by decide +kernel) rfl ?_
  intro p e s m args below meth c s₁ B hml hE hv
  obtain ⟨rfl, hP, hK⟩ := hv
  have X : zz_X D dA base t0 "Springseat" cX9_stands 4 (some .int) l p s m meth c := ⟨B.exec, B.bytes, hml, B.returns, findClass_of_methodNamed B.named, B.notSynchronized, hT, by rw [hP.1]; exact hP.2.1, hK⟩
  have hx := X.1
  have hb := X.2.1
  have hown := X.2.2.2.2.1
  have hR : zz_R D dA base h n s s.heap [] := ⟨hP, va_S.rf⟩
  have hl := lv_entry ([.ref a0, .int x1, .int x2]) (n := 4) (by exact Nat.le_of_ble_eq_true rfl)
  rw [lg_entry_eq]
  generalize (lg_sl ([.ref a0, .int x1, .int x2]) ++ List.replicate (4 - (lg_sl ([.ref a0, .int x1, .int x2])).length) Slot.unset).toArray = ls at hl ⊢
  have hl : lv_has ls 4 [(0, .ref a0), (1, .int x1), (2, .int x2)] := hl
  unfold f_X9_stands at hf
  refine lv_aload_n hx hb dX9_stands_0 rfl (lv_at hl 0 rfl) ?_
  refine lv_iload_n hx hb dX9_stands_1 rfl (lv_at hl 1 rfl) ?_
  obtain ⟨fs2, ho2, hf⟩ := zz_obS_i hf
  refine zx_cV X hE hR hl.1 (As := [.int x1]) (rest := []) (C := RX9) (T := TX9) (N := 6) (ov := (fun v : Option Nat => some (va_rf v))) (fun r hr => mt_X9_seatOf hT a0 x1 h n hr) rfl ho2 mf_X9_seatOf q_172 q_174 qs_3 ⟨Nat.le_of_ble_eq_true rfl, Nat.le_of_ble_eq_true rfl⟩ ⟨Nat.le_of_ble_eq_true rfl, Nat.le_of_ble_eq_true rfl⟩ rfl (Nat.le_of_ble_eq_true rfl) dX9_stands_2 hf (fun k e => by cases e; exact ⟨rfl, rfl, Nat.le_refl _⟩) (Nat.le_of_ble_eq_true rfl) (Nat.le_of_ble_eq_true rfl) (fun v2 hf H locs hR => ?_)
  refine W.eq (g2 := F0 m 5 ls [va_rf v2]) rfl ?_
  refine W.widen (k := 1) (n := 6) (Nat.le_of_ble_eq_true rfl) (Nat.le_of_ble_eq_true rfl) ?_
  refine zr_astore_n (i := 3) (lv' := [(3, va_rf v2), (0, .ref a0), (1, .int x1), (2, .int x2)]) hx hb dX9_stands_5 rfl hl (by decide) rfl (fun ls hl => ?_)
  refine zr_aload_n hx hb dX9_stands_6 rfl (lv_at hl 0 rfl) ?_
  refine lv_iload_n hx hb dX9_stands_7 rfl (lv_at hl 3 rfl) ?_
  refine zx_cS X hE hR hl.1 (As := [va_rf v2, .int x2]) (rest := []) (ov := (fun _ : Unit => (none : Option Value))) (fun r hr => mt_X9_needCell hT v2 x2 h n hr) mf_X9_needCell q_712 q_713 ⟨Nat.le_of_ble_eq_true rfl, Nat.le_of_ble_eq_true rfl⟩ ⟨Nat.le_of_ble_eq_true rfl, Nat.le_of_ble_eq_true rfl⟩ rfl (Nat.le_of_ble_eq_true rfl) dX9_stands_8 hf (fun k e => by cases e; exact ⟨rfl, rfl, Nat.le_refl _⟩) (Nat.le_of_ble_eq_true rfl) (Nat.le_of_ble_eq_true rfl) (fun v8 hf H locs hR => ?_)
  refine W.eq (g2 := F0 m 11 ls []) rfl ?_
  refine W.widen (k := 3) (n := 18) (Nat.le_of_ble_eq_true rfl) (Nat.le_of_ble_eq_true rfl) ?_
  refine zr_aload_n hx hb dX9_stands_11 rfl (lv_at hl 0 rfl) ?_
  refine zr_gqN X hR (r := v2) fn_X9_66 dX9_stands_12 hf (fun v12 hf => ?_)
  refine lv_iload_n hx hb dX9_stands_15 rfl (lv_at hl 3 rfl) ?_
  obtain ⟨b16, fs16, hr16, ho16, hf⟩ := zz_ob_i hf
  obtain ⟨v16, hv16, hf⟩ := zz_b_i hf
  refine zr_cV X hR hl.1 (As := [.int x2]) (rest := []) (C := RX3) (T := TX3) (N := 7) (mt_X3_heightAt hT b16 x2 h n hv16) rfl ho16 mf_X3_heightAt q_863 q_340 q_341 ⟨Nat.le_of_ble_eq_true rfl, Nat.le_of_ble_eq_true rfl⟩ ⟨Nat.le_of_ble_eq_true rfl, Nat.le_of_ble_eq_true rfl⟩ (by rw [hr16]; rfl) (Nat.le_of_ble_eq_true rfl) dX9_stands_16 (fun H locs hR => ?_)
  refine W.eq (g2 := F0 m 19 ls [.int v16]) rfl ?_
  cases hf
  exact zx_ret (zr_iret X hR dX9_stands_19 (Nat.le_of_ble_eq_true rfl) (Nat.le_of_ble_eq_true rfl))
def rm_X9_needElement : Room := { frames := 6, cells := 1, slots := 6, locals := 90 }
theorem mf_X9_needElement : zz_Mf yX9_needElement cX9_needElement 2 none 2 := ⟨q_880, q_1, by decide +kernel, by decide +kernel, by decide +kernel⟩
set_option maxHeartbeats 4000000 in
set_option maxRecDepth 100000 in
theorem bk_X9_needElement_9 {D : va_G} {dA : Nat → ClassId} {base t0 : Nat} {l : Launch} {p : Program} {e : Env} {s : State} {m : MethodId} {args : Array Value} {below : List Frame} {meth : Method} {c : Code} (X : zz_X D dA base t0 "Springseat" cX9_needElement 2 none l p s m meth c) (hE : ∀ x ∈ c.exceptionTable.toList, False) (hT : l.stackTraces = false) {h : zz_H} {n : Nat} {H : Heap} {locs : List Loc} {ls : Array Slot} (hR : zz_R D dA base h n s H locs) (hl : lv_has ls 2 []) {r0 : (Unit ⊕ Nat)} (hf : f_X9_needElement_9 h = some r0) : W p l e rm_X9_needElement s m args below meth c H locs 0 0 (vx_MQ below (zz_Qo D dA base (zz_ov (fun _ : Unit => (none : Option Value)) r0) h n) (zz_Xo D dA base (zz_ov (fun _ : Unit => (none : Option Value)) r0) h n) args s rm_X9_needElement.cells rm_X9_needElement.slots (fun q => base ≤ q)) (F0 m 9 ls []) := by
  have hx := X.1
  have hb := X.2.1
  have hown := X.2.2.2.2.1
  unfold f_X9_needElement_9 at hf
  cases hf
  exact zx_throwWX X hE hR hl.1 nse_0 nse_1 nse_2 nse_5 (k := 4) (names := ["java/lang/RuntimeException", "java/lang/Exception"]) tw_10_170.1 tw_10_170.2.1 rfl q_364 q_25 (List.mem_of_getElem? (i := 10) rfl) tw_10_170.2.2.1 tw_10_170.2.2.2 dX9_needElement_9 dX9_needElement_12 dX9_needElement_13 dX9_needElement_16 dX9_needElement_19 (Nat.le_of_ble_eq_true rfl) ⟨Nat.le_of_ble_eq_true rfl, Nat.le_of_ble_eq_true rfl⟩ ⟨Nat.le_of_ble_eq_true rfl, Nat.le_of_ble_eq_true rfl⟩ (Nat.le_of_ble_eq_true rfl) (Nat.le_of_ble_eq_true rfl) (Nat.le_refl _)
set_option maxHeartbeats 4000000 in
set_option maxRecDepth 100000 in
theorem mt_X9_needElement {D : va_G} {dA : Nat → ClassId} {base t0 : Nat} {l : Launch} (hT : l.stackTraces = false) (x0 : Int32) (x1 : Int32) (h : zz_H) (n : Nat) {r0 : (Unit ⊕ Nat)} (hf : f_X9_needElement x0 x1 h = some r0) : zz_MX D dA base t0 l yX9_needElement cX9_needElement 2 none rm_X9_needElement [.int x0, .int x1] h n (zz_ov (fun _ : Unit => (none : Option Value)) r0) h n := by
  refine vx_ofW (cc := cX9_needElement) (maxL := 2) (ret := none) (by decide +kernel) rfl ?_
  intro p e s m args below meth c s₁ B hml hE hv
  obtain ⟨rfl, hP, hK⟩ := hv
  have X : zz_X D dA base t0 "Springseat" cX9_needElement 2 none l p s m meth c := ⟨B.exec, B.bytes, hml, B.returns, findClass_of_methodNamed B.named, B.notSynchronized, hT, by rw [hP.1]; exact hP.2.1, hK⟩
  have hx := X.1
  have hb := X.2.1
  have hown := X.2.2.2.2.1
  have hR : zz_R D dA base h n s s.heap [] := ⟨hP, va_S.rf⟩
  have hl := lv_entry ([.int x0, .int x1]) (n := 2) (by exact Nat.le_of_ble_eq_true rfl)
  rw [lg_entry_eq]
  generalize (lg_sl ([.int x0, .int x1]) ++ List.replicate (2 - (lg_sl ([.int x0, .int x1])).length) Slot.unset).toArray = ls at hl ⊢
  have hl : lv_has ls 2 [(0, .int x0), (1, .int x1)] := hl
  unfold f_X9_needElement at hf
  refine lv_iload_n hx hb dX9_needElement_0 rfl (lv_at hl 0 rfl) ?_
  refine lv_if_lt (tgt := 9) hx hb dX9_needElement_1 (by decide) (fun c1 => ?_) (fun c1 => ?_)
  · replace hf := zz_pos c1 hf
    exact bk_X9_needElement_9 X hE hT hR (lv_sub hl [] rfl) hf
  · replace hf := zz_neg c1 hf
    refine lv_iload_n hx hb dX9_needElement_4 rfl (lv_at hl 0 rfl) ?_
    refine lv_iload_n hx hb dX9_needElement_5 rfl (lv_at hl 1 rfl) ?_
    refine lv_icmp_lt (tgt := 20) hx hb dX9_needElement_6 (by decide) (fun c6 => ?_) (fun c6 => ?_)
    · replace hf := zz_pos c6 hf
      cases hf
      exact zx_ret (zr_vret X hR dX9_needElement_20 (Nat.le_of_ble_eq_true rfl) (Nat.le_of_ble_eq_true rfl))
    · replace hf := zz_neg c6 hf
      exact bk_X9_needElement_9 X hE hT hR (lv_sub hl [] rfl) hf
def rm_X9_layerOf : Room := { frames := 7, cells := 1, slots := 6, locals := 111 }
theorem mf_X9_layerOf : zz_Mf yX9_layerOf cX9_layerOf 2 (some (.object "Springseat$Layer")) 2 := ⟨q_873, q_1, by decide +kernel, by decide +kernel, by decide +kernel⟩
set_option maxHeartbeats 4000000 in
set_option maxRecDepth 100000 in
theorem mt_X9_layerOf {D : va_G} {dA : Nat → ClassId} {base t0 : Nat} {l : Launch} (hT : l.stackTraces = false) (x0 : (Option Nat)) (x1 : Int32) (h : zz_H) (n : Nat) {r0 : ((Option Nat) ⊕ Nat)} (hf : f_X9_layerOf x0 x1 h = some r0) : zz_MX D dA base t0 l yX9_layerOf cX9_layerOf 2 (some (.object "Springseat$Layer")) rm_X9_layerOf [va_rf x0, .int x1] h n (zz_ov (fun v : Option Nat => some (va_rf v)) r0) h n := by
  refine vx_ofW (cc := cX9_layerOf) (maxL := 2) (ret := (some (.object "Springseat$Layer"))) (by decide +kernel) rfl ?_
  intro p e s m args below meth c s₁ B hml hE hv
  obtain ⟨rfl, hP, hK⟩ := hv
  have X : zz_X D dA base t0 "Springseat" cX9_layerOf 2 (some (.object "Springseat$Layer")) l p s m meth c := ⟨B.exec, B.bytes, hml, B.returns, findClass_of_methodNamed B.named, B.notSynchronized, hT, by rw [hP.1]; exact hP.2.1, hK⟩
  have hx := X.1
  have hb := X.2.1
  have hown := X.2.2.2.2.1
  have hR : zz_R D dA base h n s s.heap [] := ⟨hP, va_S.rf⟩
  have hl := lv_entry ([va_rf x0, .int x1]) (n := 2) (by cases x0 <;> exact Nat.le_of_ble_eq_true rfl)
  rw [lg_entry_eq]
  generalize (lg_sl ([va_rf x0, .int x1]) ++ List.replicate (2 - (lg_sl ([va_rf x0, .int x1])).length) Slot.unset).toArray = ls at hl ⊢
  have hl : lv_has ls 2 [(0, va_rf x0), (1, .int x1)] := by rw [show ([(0, va_rf x0), (1, .int x1)] : List (Nat × Value)) = lv_args 0 [va_rf x0, .int x1] from by cases x0 <;> rfl]; exact hl
  unfold f_X9_layerOf at hf
  refine lv_iload_n hx hb dX9_layerOf_0 rfl (lv_at hl 1 rfl) ?_
  refine zr_aload_n hx hb dX9_layerOf_1 rfl (lv_at hl 0 rfl) ?_
  refine zr_gqN X hR (r := x0) fn_X9_130 dX9_layerOf_2 hf (fun v2 hf => ?_)
  obtain ⟨b5, fs5, hr5, ho5, hf⟩ := zz_ob_i hf
  obtain ⟨v5, hv5, hf⟩ := zz_b_i hf
  refine zr_cV X hR hl.1 (As := []) (rest := [.int x1]) (C := RX2) (T := TX2) (N := 1) (mt_X2_count hT b5 h n hv5) rfl ho5 mf_X2_count q_874 q_875 q_876 ⟨Nat.le_of_ble_eq_true rfl, Nat.le_of_ble_eq_true rfl⟩ ⟨Nat.le_of_ble_eq_true rfl, Nat.le_of_ble_eq_true rfl⟩ (by rw [hr5]; rfl) (Nat.le_of_ble_eq_true rfl) dX9_layerOf_5 (fun H locs hR => ?_)
  refine W.eq (g2 := F0 m 8 ls [.int v5, .int x1]) rfl ?_
  refine zx_cS X hE hR hl.1 (As := [.int x1, .int v5]) (rest := []) (ov := (fun _ : Unit => (none : Option Value))) (fun r hr => mt_X9_needElement hT x1 v5 h n hr) mf_X9_needElement q_878 q_879 ⟨Nat.le_of_ble_eq_true rfl, Nat.le_of_ble_eq_true rfl⟩ ⟨Nat.le_of_ble_eq_true rfl, Nat.le_of_ble_eq_true rfl⟩ rfl (Nat.le_of_ble_eq_true rfl) dX9_layerOf_8 hf (fun k e => by cases e; exact ⟨rfl, rfl, Nat.le_refl _⟩) (Nat.le_of_ble_eq_true rfl) (Nat.le_of_ble_eq_true rfl) (fun v8 hf H locs hR => ?_)
  refine W.eq (g2 := F0 m 11 ls []) rfl ?_
  refine W.widen (k := 1) (n := 6) (Nat.le_of_ble_eq_true rfl) (Nat.le_of_ble_eq_true rfl) ?_
  refine zr_aload_n hx hb dX9_layerOf_11 rfl (lv_at hl 0 rfl) ?_
  refine zr_gqN X hR (r := x0) fn_X9_130 dX9_layerOf_12 hf (fun v12 hf => ?_)
  refine zr_gqN X hR (r := v12) fn_X9_371 dX9_layerOf_15 hf (fun v15 hf => ?_)
  refine lv_iload_n hx hb dX9_layerOf_18 rfl (lv_at hl 1 rfl) ?_
  obtain ⟨b19, fs19, hr19, ho19, hf⟩ := zz_ob_i hf
  obtain ⟨v19, hv19, hf⟩ := zz_b_i hf
  refine zr_cV X hR hl.1 (As := [.int x1]) (rest := []) (C := RJx4a65c) (T := TJx4a65c) (N := 3) (mt_Jx4a65c_get_915e3 hT b19 x1 h n hv19) rfl ho19 mf_Jx4a65c_get_915e3 q_253 q_254 q_255 ⟨Nat.le_of_ble_eq_true rfl, Nat.le_of_ble_eq_true rfl⟩ ⟨Nat.le_of_ble_eq_true rfl, Nat.le_of_ble_eq_true rfl⟩ (by rw [hr19]; rfl) (Nat.le_of_ble_eq_true rfl) dX9_layerOf_19 (fun H locs hR => ?_)
  refine W.eq (g2 := F0 m 22 ls [va_rf v19]) rfl ?_
  refine zr_cc X hR (ci := 7) (C := RX6) (T := TX6) (N := 6) (r := v19) rfl q_760 (Or.inr trivial) dX9_layerOf_22 hf (fun hf => ?_)
  cases hf
  exact zx_ret (zr_aret (Or.inl ⟨_, rfl⟩) X hR (r := _) dX9_layerOf_25 (Nat.le_of_ble_eq_true rfl) (Nat.le_of_ble_eq_true rfl))
def rm_X9_thick : Room := { frames := 8, cells := 2, slots := 12, locals := 132 }
theorem mf_X9_thick : zz_Mf yX9_thick cX9_thick 3 (some .int) 2 := ⟨q_870, q_1, by decide +kernel, by decide +kernel, by decide +kernel⟩
set_option maxHeartbeats 4000000 in
set_option maxRecDepth 100000 in
theorem mt_X9_thick {D : va_G} {dA : Nat → ClassId} {base t0 : Nat} {l : Launch} (hT : l.stackTraces = false) (a0 : Nat) (x1 : Int32) (x2 : Int32) (h : zz_H) (n : Nat) {r0 : (Int32 ⊕ Nat)} (hf : f_X9_thick a0 x1 x2 h = some r0) : zz_MX D dA base t0 l yX9_thick cX9_thick 3 (some .int) rm_X9_thick [.ref a0, .int x1, .int x2] h n (zz_ov (fun v : Int32 => some (Value.int v)) r0) h n := by
  refine vx_ofW (cc := cX9_thick) (maxL := 3) (ret := (some .int)) (by decide +kernel) rfl ?_
  intro p e s m args below meth c s₁ B hml hE hv
  obtain ⟨rfl, hP, hK⟩ := hv
  have X : zz_X D dA base t0 "Springseat" cX9_thick 3 (some .int) l p s m meth c := ⟨B.exec, B.bytes, hml, B.returns, findClass_of_methodNamed B.named, B.notSynchronized, hT, by rw [hP.1]; exact hP.2.1, hK⟩
  have hx := X.1
  have hb := X.2.1
  have hown := X.2.2.2.2.1
  have hR : zz_R D dA base h n s s.heap [] := ⟨hP, va_S.rf⟩
  have hl := lv_entry ([.ref a0, .int x1, .int x2]) (n := 3) (by exact Nat.le_of_ble_eq_true rfl)
  rw [lg_entry_eq]
  generalize (lg_sl ([.ref a0, .int x1, .int x2]) ++ List.replicate (3 - (lg_sl ([.ref a0, .int x1, .int x2])).length) Slot.unset).toArray = ls at hl ⊢
  have hl : lv_has ls 3 [(0, .ref a0), (1, .int x1), (2, .int x2)] := hl
  unfold f_X9_thick at hf
  refine lv_aload_n hx hb dX9_thick_0 rfl (lv_at hl 0 rfl) ?_
  refine lv_iload_n hx hb dX9_thick_1 rfl (lv_at hl 1 rfl) ?_
  obtain ⟨fs2, ho2, hf⟩ := zz_obS_i hf
  refine zx_cV X hE hR hl.1 (As := [.int x1]) (rest := []) (C := RX9) (T := TX9) (N := 6) (ov := (fun v : Option Nat => some (va_rf v))) (fun r hr => mt_X9_seatOf hT a0 x1 h n hr) rfl ho2 mf_X9_seatOf q_172 q_174 qs_3 ⟨Nat.le_of_ble_eq_true rfl, Nat.le_of_ble_eq_true rfl⟩ ⟨Nat.le_of_ble_eq_true rfl, Nat.le_of_ble_eq_true rfl⟩ rfl (Nat.le_of_ble_eq_true rfl) dX9_thick_2 hf (fun k e => by cases e; exact ⟨rfl, rfl, Nat.le_refl _⟩) (Nat.le_of_ble_eq_true rfl) (Nat.le_of_ble_eq_true rfl) (fun v2 hf H locs hR => ?_)
  refine W.eq (g2 := F0 m 5 ls [va_rf v2]) rfl ?_
  refine W.widen (k := 1) (n := 6) (Nat.le_of_ble_eq_true rfl) (Nat.le_of_ble_eq_true rfl) ?_
  refine lv_iload_n hx hb dX9_thick_5 rfl (lv_at hl 2 rfl) ?_
  refine zx_cS X hE hR hl.1 (As := [va_rf v2, .int x2]) (rest := []) (ov := (fun v : Option Nat => some (va_rf v))) (fun r hr => mt_X9_layerOf hT v2 x2 h n hr) mf_X9_layerOf q_871 q_872 ⟨Nat.le_of_ble_eq_true rfl, Nat.le_of_ble_eq_true rfl⟩ ⟨Nat.le_of_ble_eq_true rfl, Nat.le_of_ble_eq_true rfl⟩ rfl (Nat.le_of_ble_eq_true rfl) dX9_thick_6 hf (fun k e => by cases e; exact ⟨rfl, rfl, Nat.le_refl _⟩) (Nat.le_of_ble_eq_true rfl) (Nat.le_of_ble_eq_true rfl) (fun v6 hf H locs hR => ?_)
  refine W.eq (g2 := F0 m 9 ls [va_rf v6]) rfl ?_
  refine W.widen (k := 2) (n := 12) (Nat.le_of_ble_eq_true rfl) (Nat.le_of_ble_eq_true rfl) ?_
  refine zr_giN X hR (r := v6) fn_X9_214 dX9_thick_9 hf (fun v9 hf => ?_)
  cases hf
  exact zx_ret (zr_iret X hR dX9_thick_12 (Nat.le_of_ble_eq_true rfl) (Nat.le_of_ble_eq_true rfl))
def rm_X9_top : Room := { frames := 9, cells := 3, slots := 18, locals := 154 }
theorem mf_X9_top : zz_Mf yX9_top cX9_top 4 (some .int) 2 := ⟨q_888, q_1, by decide +kernel, by decide +kernel, by decide +kernel⟩
set_option maxHeartbeats 4000000 in
set_option maxRecDepth 100000 in
theorem mt_X9_top {D : va_G} {dA : Nat → ClassId} {base t0 : Nat} {l : Launch} (hT : l.stackTraces = false) (a0 : Nat) (x1 : Int32) (x2 : Int32) (h : zz_H) (n : Nat) {r0 : (Int32 ⊕ Nat)} (hf : f_X9_top a0 x1 x2 h = some r0) : zz_MX D dA base t0 l yX9_top cX9_top 4 (some .int) rm_X9_top [.ref a0, .int x1, .int x2] h n (zz_ov (fun v : Int32 => some (Value.int v)) r0) h n := by
  refine vx_ofW (cc := cX9_top) (maxL := 4) (ret := (some .int)) (by decide +kernel) rfl ?_
  intro p e s m args below meth c s₁ B hml hE hv
  obtain ⟨rfl, hP, hK⟩ := hv
  have X : zz_X D dA base t0 "Springseat" cX9_top 4 (some .int) l p s m meth c := ⟨B.exec, B.bytes, hml, B.returns, findClass_of_methodNamed B.named, B.notSynchronized, hT, by rw [hP.1]; exact hP.2.1, hK⟩
  have hx := X.1
  have hb := X.2.1
  have hown := X.2.2.2.2.1
  have hR : zz_R D dA base h n s s.heap [] := ⟨hP, va_S.rf⟩
  have hl := lv_entry ([.ref a0, .int x1, .int x2]) (n := 4) (by exact Nat.le_of_ble_eq_true rfl)
  rw [lg_entry_eq]
  generalize (lg_sl ([.ref a0, .int x1, .int x2]) ++ List.replicate (4 - (lg_sl ([.ref a0, .int x1, .int x2])).length) Slot.unset).toArray = ls at hl ⊢
  have hl : lv_has ls 4 [(0, .ref a0), (1, .int x1), (2, .int x2)] := hl
  unfold f_X9_top at hf
  refine lv_aload_n hx hb dX9_top_0 rfl (lv_at hl 0 rfl) ?_
  refine lv_iload_n hx hb dX9_top_1 rfl (lv_at hl 1 rfl) ?_
  obtain ⟨fs2, ho2, hf⟩ := zz_obS_i hf
  refine zx_cV X hE hR hl.1 (As := [.int x1]) (rest := []) (C := RX9) (T := TX9) (N := 6) (ov := (fun v : Option Nat => some (va_rf v))) (fun r hr => mt_X9_seatOf hT a0 x1 h n hr) rfl ho2 mf_X9_seatOf q_172 q_174 qs_3 ⟨Nat.le_of_ble_eq_true rfl, Nat.le_of_ble_eq_true rfl⟩ ⟨Nat.le_of_ble_eq_true rfl, Nat.le_of_ble_eq_true rfl⟩ rfl (Nat.le_of_ble_eq_true rfl) dX9_top_2 hf (fun k e => by cases e; exact ⟨rfl, rfl, Nat.le_refl _⟩) (Nat.le_of_ble_eq_true rfl) (Nat.le_of_ble_eq_true rfl) (fun v2 hf H locs hR => ?_)
  refine W.eq (g2 := F0 m 5 ls [va_rf v2]) rfl ?_
  refine W.widen (k := 1) (n := 6) (Nat.le_of_ble_eq_true rfl) (Nat.le_of_ble_eq_true rfl) ?_
  refine zr_astore_n (i := 3) (lv' := [(3, va_rf v2), (0, .ref a0), (1, .int x1), (2, .int x2)]) hx hb dX9_top_5 rfl hl (by decide) rfl (fun ls hl => ?_)
  refine zr_aload_n hx hb dX9_top_6 rfl (lv_at hl 0 rfl) ?_
  refine lv_iload_n hx hb dX9_top_7 rfl (lv_at hl 3 rfl) ?_
  refine zx_cS X hE hR hl.1 (As := [va_rf v2, .int x2]) (rest := []) (ov := (fun _ : Unit => (none : Option Value))) (fun r hr => mt_X9_needCell hT v2 x2 h n hr) mf_X9_needCell q_712 q_713 ⟨Nat.le_of_ble_eq_true rfl, Nat.le_of_ble_eq_true rfl⟩ ⟨Nat.le_of_ble_eq_true rfl, Nat.le_of_ble_eq_true rfl⟩ rfl (Nat.le_of_ble_eq_true rfl) dX9_top_8 hf (fun k e => by cases e; exact ⟨rfl, rfl, Nat.le_refl _⟩) (Nat.le_of_ble_eq_true rfl) (Nat.le_of_ble_eq_true rfl) (fun v8 hf H locs hR => ?_)
  refine W.eq (g2 := F0 m 11 ls []) rfl ?_
  refine W.widen (k := 3) (n := 18) (Nat.le_of_ble_eq_true rfl) (Nat.le_of_ble_eq_true rfl) ?_
  refine zr_aload_n hx hb dX9_top_11 rfl (lv_at hl 0 rfl) ?_
  refine lv_iload_n hx hb dX9_top_12 rfl (lv_at hl 3 rfl) ?_
  obtain ⟨b13, fs13, hr13, ho13, hf⟩ := zz_ob_i hf
  obtain ⟨v13, hv13, hf⟩ := zz_b_i hf
  refine zr_cV X hR hl.1 (As := [.int x2]) (rest := []) (C := RX7) (T := TX7) (N := 6) (mt_X7_topOf hT b13 x2 h n hv13) rfl ho13 mf_X7_topOf q_889 q_336 q_337 ⟨Nat.le_of_ble_eq_true rfl, Nat.le_of_ble_eq_true rfl⟩ ⟨Nat.le_of_ble_eq_true rfl, Nat.le_of_ble_eq_true rfl⟩ (by rw [hr13]; rfl) (Nat.le_of_ble_eq_true rfl) dX9_top_13 (fun H locs hR => ?_)
  refine W.eq (g2 := F0 m 16 ls [.int v13]) rfl ?_
  cases hf
  exact zx_ret (zr_iret X hR dX9_top_16 (Nat.le_of_ble_eq_true rfl) (Nat.le_of_ble_eq_true rfl))
def rm_X9_folds : Room := { frames := 8, cells := 1, slots := 6, locals := 132 }
theorem mf_X9_folds : zz_Mf yX9_folds cX9_folds 3 (some .int) 2 := ⟨q_283, q_1, by decide +kernel, by decide +kernel, by decide +kernel⟩
set_option maxHeartbeats 4000000 in
set_option maxRecDepth 100000 in
theorem mt_X9_folds {D : va_G} {dA : Nat → ClassId} {base t0 : Nat} {l : Launch} (hT : l.stackTraces = false) (a0 : Nat) (x1 : Int32) (x2 : Int32) (h : zz_H) (n : Nat) {r0 : (Int32 ⊕ Nat)} (hf : f_X9_folds a0 x1 x2 h = some r0) : zz_MX D dA base t0 l yX9_folds cX9_folds 3 (some .int) rm_X9_folds [.ref a0, .int x1, .int x2] h n (zz_ov (fun v : Int32 => some (Value.int v)) r0) h n := by
  refine vx_ofW (cc := cX9_folds) (maxL := 3) (ret := (some .int)) (by decide +kernel) rfl ?_
  intro p e s m args below meth c s₁ B hml hE hv
  obtain ⟨rfl, hP, hK⟩ := hv
  have X : zz_X D dA base t0 "Springseat" cX9_folds 3 (some .int) l p s m meth c := ⟨B.exec, B.bytes, hml, B.returns, findClass_of_methodNamed B.named, B.notSynchronized, hT, by rw [hP.1]; exact hP.2.1, hK⟩
  have hx := X.1
  have hb := X.2.1
  have hown := X.2.2.2.2.1
  have hR : zz_R D dA base h n s s.heap [] := ⟨hP, va_S.rf⟩
  have hl := lv_entry ([.ref a0, .int x1, .int x2]) (n := 3) (by exact Nat.le_of_ble_eq_true rfl)
  rw [lg_entry_eq]
  generalize (lg_sl ([.ref a0, .int x1, .int x2]) ++ List.replicate (3 - (lg_sl ([.ref a0, .int x1, .int x2])).length) Slot.unset).toArray = ls at hl ⊢
  have hl : lv_has ls 3 [(0, .ref a0), (1, .int x1), (2, .int x2)] := hl
  unfold f_X9_folds at hf
  refine lv_aload_n hx hb dX9_folds_0 rfl (lv_at hl 0 rfl) ?_
  refine lv_iload_n hx hb dX9_folds_1 rfl (lv_at hl 1 rfl) ?_
  obtain ⟨fs2, ho2, hf⟩ := zz_obS_i hf
  refine zx_cV X hE hR hl.1 (As := [.int x1]) (rest := []) (C := RX9) (T := TX9) (N := 6) (ov := (fun v : Option Nat => some (va_rf v))) (fun r hr => mt_X9_seatOf hT a0 x1 h n hr) rfl ho2 mf_X9_seatOf q_172 q_174 qs_3 ⟨Nat.le_of_ble_eq_true rfl, Nat.le_of_ble_eq_true rfl⟩ ⟨Nat.le_of_ble_eq_true rfl, Nat.le_of_ble_eq_true rfl⟩ rfl (Nat.le_of_ble_eq_true rfl) dX9_folds_2 hf (fun k e => by cases e; exact ⟨rfl, rfl, Nat.le_refl _⟩) (Nat.le_of_ble_eq_true rfl) (Nat.le_of_ble_eq_true rfl) (fun v2 hf H locs hR => ?_)
  refine W.eq (g2 := F0 m 5 ls [va_rf v2]) rfl ?_
  refine W.widen (k := 1) (n := 6) (Nat.le_of_ble_eq_true rfl) (Nat.le_of_ble_eq_true rfl) ?_
  refine lv_iload_n hx hb dX9_folds_5 rfl (lv_at hl 2 rfl) ?_
  obtain ⟨b6, fs6, hr6, ho6, hf⟩ := zz_ob_i hf
  obtain ⟨v6, hv6, hf⟩ := zz_b_i hf
  refine zr_cV X hR hl.1 (As := [.int x2]) (rest := []) (C := RX7) (T := TX7) (N := 6) (mt_X7_foldCount hT b6 x2 h n hv6) rfl ho6 mf_X7_foldCount q_284 q_285 q_286 ⟨Nat.le_of_ble_eq_true rfl, Nat.le_of_ble_eq_true rfl⟩ ⟨Nat.le_of_ble_eq_true rfl, Nat.le_of_ble_eq_true rfl⟩ (by rw [hr6]; rfl) (Nat.le_of_ble_eq_true rfl) dX9_folds_6 (fun H locs hR => ?_)
  refine W.eq (g2 := F0 m 9 ls [.int v6]) rfl ?_
  cases hf
  exact zx_ret (zr_iret X hR dX9_folds_9 (Nat.le_of_ble_eq_true rfl) (Nat.le_of_ble_eq_true rfl))
def rm_X9_cloth : Room := { frames := 7, cells := 6, slots := 43, locals := 112 }
theorem mf_X9_cloth : zz_Mf yX9_cloth cX9_cloth 3 (some .int) 2 := ⟨q_896, q_1, by decide +kernel, by decide +kernel, by decide +kernel⟩
set_option maxHeartbeats 4000000 in
set_option maxRecDepth 100000 in
theorem mt_X9_cloth {D : va_G} {dA : Nat → ClassId} {base t0 : Nat} {l : Launch} (hT : l.stackTraces = false) (a0 : Nat) (x1 : Int32) (x2 : Int32) (h : zz_H) (n : Nat) {r0 : (Int32 ⊕ Nat)} {hF : zz_H} {nF : Nat} (hf : f_X9_cloth t0 a0 x1 x2 h n = some (r0, hF, nF)) : zz_MX D dA base t0 l yX9_cloth cX9_cloth 3 (some .int) rm_X9_cloth [.ref a0, .int x1, .int x2] h n (zz_ov (fun v : Int32 => some (Value.int v)) r0) hF nF := by
  refine vx_ofW (cc := cX9_cloth) (maxL := 3) (ret := (some .int)) (by decide +kernel) rfl ?_
  intro p e s m args below meth c s₁ B hml hE hv
  obtain ⟨rfl, hP, hK⟩ := hv
  have X : zz_X D dA base t0 "Springseat" cX9_cloth 3 (some .int) l p s m meth c := ⟨B.exec, B.bytes, hml, B.returns, findClass_of_methodNamed B.named, B.notSynchronized, hT, by rw [hP.1]; exact hP.2.1, hK⟩
  have hx := X.1
  have hb := X.2.1
  have hown := X.2.2.2.2.1
  have hR : zz_R D dA base h n s s.heap [] := ⟨hP, va_S.rf⟩
  have hl := lv_entry ([.ref a0, .int x1, .int x2]) (n := 3) (by exact Nat.le_of_ble_eq_true rfl)
  rw [lg_entry_eq]
  generalize (lg_sl ([.ref a0, .int x1, .int x2]) ++ List.replicate (3 - (lg_sl ([.ref a0, .int x1, .int x2])).length) Slot.unset).toArray = ls at hl ⊢
  have hl : lv_has ls 3 [(0, .ref a0), (1, .int x1), (2, .int x2)] := hl
  unfold f_X9_cloth at hf
  refine lv_iload_n hx hb dX9_cloth_0 rfl (lv_at hl 1 rfl) ?_
  refine lv_bipush (v := (50 : Int32)) hx hb dX9_cloth_1 (by decide) ?_
  refine lv_sipush (v := (2000 : Int32)) hx hb dX9_cloth_3 (by decide) ?_
  refine zx_cS X hE hR hl.1 (As := [.int x1, .int (50 : Int32), .int (2000 : Int32)]) (rest := []) (ov := (fun _ : Unit => (none : Option Value))) (fun r hr => mt_X9_needRange hT x1 (50 : Int32) (2000 : Int32) h n hr) mf_X9_needRange q_489 q_490 ⟨Nat.le_of_ble_eq_true rfl, Nat.le_of_ble_eq_true rfl⟩ ⟨Nat.le_of_ble_eq_true rfl, Nat.le_of_ble_eq_true rfl⟩ rfl (Nat.le_of_ble_eq_true rfl) dX9_cloth_6 hf (fun k e => by cases e; exact ⟨rfl, rfl, Nat.le_refl _⟩) (Nat.le_of_ble_eq_true rfl) (Nat.le_of_ble_eq_true rfl) (fun v6 hf H locs hR => ?_)
  refine W.eq (g2 := F0 m 9 ls []) rfl ?_
  refine W.widen (k := 1) (n := 6) (Nat.le_of_ble_eq_true rfl) (Nat.le_of_ble_eq_true rfl) ?_
  refine lv_iload_n hx hb dX9_cloth_9 rfl (lv_at hl 2 rfl) ?_
  refine lv_iconst (v := (1 : Int32)) hx hb dX9_cloth_10 (by decide) ?_
  refine lv_bipush (v := (60 : Int32)) hx hb dX9_cloth_11 (by decide) ?_
  refine zx_cS X hE hR hl.1 (As := [.int x2, .int (1 : Int32), .int (60 : Int32)]) (rest := []) (ov := (fun _ : Unit => (none : Option Value))) (fun r hr => mt_X9_needRange hT x2 (1 : Int32) (60 : Int32) h n hr) mf_X9_needRange q_489 q_490 ⟨Nat.le_of_ble_eq_true rfl, Nat.le_of_ble_eq_true rfl⟩ ⟨Nat.le_of_ble_eq_true rfl, Nat.le_of_ble_eq_true rfl⟩ rfl (Nat.le_of_ble_eq_true rfl) dX9_cloth_13 hf (fun k e => by cases e; exact ⟨rfl, rfl, Nat.le_refl _⟩) (Nat.le_of_ble_eq_true rfl) (Nat.le_of_ble_eq_true rfl) (fun v13 hf H locs hR => ?_)
  refine W.eq (g2 := F0 m 16 ls []) rfl ?_
  refine W.widen (k := 2) (n := 12) (Nat.le_of_ble_eq_true rfl) (Nat.le_of_ble_eq_true rfl) ?_
  refine lv_aload_n hx hb dX9_cloth_16 rfl (lv_at hl 0 rfl) ?_
  refine zr_gq X hR (r := (some a0)) fl_X9_19 dX9_cloth_17 hf (fun v17 hf => ?_)
  obtain ⟨b20, fs20, hr20, ho20, hf⟩ := zz_ob_i hf
  obtain ⟨v20, hv20, hf⟩ := zz_b_i hf
  refine zr_cV X hR hl.1 (As := []) (rest := []) (C := RJx4a65c) (T := TJx4a65c) (N := 3) (mt_Jx4a65c_size_8abf5 hT b20 h n hv20) rfl ho20 mf_Jx4a65c_size_8abf5 q_176 q_177 q_178 ⟨Nat.le_of_ble_eq_true rfl, Nat.le_of_ble_eq_true rfl⟩ ⟨Nat.le_of_ble_eq_true rfl, Nat.le_of_ble_eq_true rfl⟩ (by rw [hr20]; rfl) (Nat.le_of_ble_eq_true rfl) dX9_cloth_20 (fun H locs hR => ?_)
  refine W.eq (g2 := F0 m 23 ls [.int v20]) rfl ?_
  refine lv_iconst (v := (4 : Int32)) hx hb dX9_cloth_23 (by decide) ?_
  refine zx_cS X hE hR hl.1 (As := [.int v20, .int (4 : Int32)]) (rest := []) (ov := (fun _ : Unit => (none : Option Value))) (fun r hr => mt_X9_needRoom hT v20 (4 : Int32) h n hr) mf_X9_needRoom q_508 q_509 ⟨Nat.le_of_ble_eq_true rfl, Nat.le_of_ble_eq_true rfl⟩ ⟨Nat.le_of_ble_eq_true rfl, Nat.le_of_ble_eq_true rfl⟩ rfl (Nat.le_of_ble_eq_true rfl) dX9_cloth_24 hf (fun k e => by cases e; exact ⟨rfl, rfl, Nat.le_refl _⟩) (Nat.le_of_ble_eq_true rfl) (Nat.le_of_ble_eq_true rfl) (fun v24 hf H locs hR => ?_)
  refine W.eq (g2 := F0 m 27 ls []) rfl ?_
  refine W.widen (k := 3) (n := 18) (Nat.le_of_ble_eq_true rfl) (Nat.le_of_ble_eq_true rfl) ?_
  refine lv_aload_n hx hb dX9_cloth_27 rfl (lv_at hl 0 rfl) ?_
  refine zr_gq X hR (r := (some a0)) fl_X9_19 dX9_cloth_28 hf (fun v28 hf => ?_)
  refine zr_new X hR (fs := [.int 0, .int 0, .null, .int 0, .int 0]) zc1 q_823 q_428 q_27 (fun j hj => by rcases (show j = 0 ∨ j = 1 ∨ j = 2 ∨ j = 3 ∨ j = 4 by omega) with rfl | rfl | rfl | rfl | rfl <;> rfl) (Nat.le_of_ble_eq_true rfl) (Nat.le_of_ble_eq_true rfl) dX9_cloth_31 (fun H hR => ?_)
  refine W.widen (k := 4) (n := 23) (Nat.le_of_ble_eq_true rfl) (Nat.le_of_ble_eq_true rfl) ?_
  refine lv_dup hx hb dX9_cloth_34 rfl ?_
  refine lv_iload_n hx hb dX9_cloth_35 rfl (lv_at hl 1 rfl) ?_
  refine lv_iload_n hx hb dX9_cloth_36 rfl (lv_at hl 2 rfl) ?_
  obtain ⟨u37, h37, n37, hv37, hf⟩ := zz_b2_i hf
  refine zr_cI X hR hl.1 (As := [.int x1, .int x2]) (rest := [.ref n, va_rf v28]) (mt_X0_init hT n x1 x2 (zz_u h n (.inr (1, [.int 0, .int 0, .null, .int 0, .int 0]))) (n + 1) hv37) mf_X0_init rfl q_897 q_898 ⟨Nat.le_of_ble_eq_true rfl, Nat.le_of_ble_eq_true rfl⟩ ⟨Nat.le_of_ble_eq_true rfl, Nat.le_of_ble_eq_true rfl⟩ rfl (Nat.le_of_ble_eq_true rfl) dX9_cloth_37 (fun H locs hR => ?_)
  refine W.eq (g2 := F0 m 40 ls [.ref n, va_rf v28]) rfl ?_
  refine W.widen (k := 5) (n := 33) (Nat.le_of_ble_eq_true rfl) (Nat.le_of_ble_eq_true rfl) ?_
  obtain ⟨b40, fs40, hr40, ho40, hf⟩ := zz_ob_i hf
  obtain ⟨v40, h40, n40, hv40, hf⟩ := zz_b2_i hf
  refine zr_cV X hR hl.1 (As := [.ref n]) (rest := []) (C := RJx4a65c) (T := TJx4a65c) (N := 3) (mt_Jx4a65c_add_9ea2d hT b40 (some n) h37 n37 hv40) rfl ho40 mf_Jx4a65c_add_9ea2d q_86 q_87 q_88 ⟨Nat.le_of_ble_eq_true rfl, Nat.le_of_ble_eq_true rfl⟩ ⟨Nat.le_of_ble_eq_true rfl, Nat.le_of_ble_eq_true rfl⟩ (by rw [hr40]; rfl) (Nat.le_of_ble_eq_true rfl) dX9_cloth_40 (fun H locs hR => ?_)
  refine W.eq (g2 := F0 m 43 ls [.int v40]) rfl ?_
  refine W.widen (k := 6) (n := 43) (Nat.le_of_ble_eq_true rfl) (Nat.le_of_ble_eq_true rfl) ?_
  refine lv_pop hx hb dX9_cloth_43 rfl ?_
  refine lv_aload_n hx hb dX9_cloth_44 rfl (lv_at hl 0 rfl) ?_
  refine zr_gq X hR (r := (some a0)) fl_X9_19 dX9_cloth_45 hf (fun v45 hf => ?_)
  obtain ⟨b48, fs48, hr48, ho48, hf⟩ := zz_ob_i hf
  obtain ⟨v48, hv48, hf⟩ := zz_b_i hf
  refine zr_cV X hR hl.1 (As := []) (rest := []) (C := RJx4a65c) (T := TJx4a65c) (N := 3) (mt_Jx4a65c_size_8abf5 hT b48 h40 n40 hv48) rfl ho48 mf_Jx4a65c_size_8abf5 q_176 q_177 q_178 ⟨Nat.le_of_ble_eq_true rfl, Nat.le_of_ble_eq_true rfl⟩ ⟨Nat.le_of_ble_eq_true rfl, Nat.le_of_ble_eq_true rfl⟩ (by rw [hr48]; rfl) (Nat.le_of_ble_eq_true rfl) dX9_cloth_48 (fun H locs hR => ?_)
  refine W.eq (g2 := F0 m 51 ls [.int v48]) rfl ?_
  refine lv_iconst (v := (1 : Int32)) hx hb dX9_cloth_51 (by decide) ?_
  refine lv_isub hx hb dX9_cloth_52 ?_
  cases hf
  exact zx_ret (zr_iret X hR dX9_cloth_53 (Nat.le_of_ble_eq_true rfl) (Nat.le_of_ble_eq_true rfl))
def rm_X9_needClosed : Room := { frames := 6, cells := 1, slots := 6, locals := 90 }
theorem mf_X9_needClosed : zz_Mf yX9_needClosed cX9_needClosed 1 none 1 := ⟨q_314, q_1, by decide +kernel, by decide +kernel, by decide +kernel⟩
set_option maxHeartbeats 4000000 in
set_option maxRecDepth 100000 in
theorem mt_X9_needClosed {D : va_G} {dA : Nat → ClassId} {base t0 : Nat} {l : Launch} (hT : l.stackTraces = false) (x0 : (Option Nat)) (h : zz_H) (n : Nat) {r0 : (Unit ⊕ Nat)} (hf : f_X9_needClosed x0 h = some r0) : zz_MX D dA base t0 l yX9_needClosed cX9_needClosed 1 none rm_X9_needClosed [va_rf x0] h n (zz_ov (fun _ : Unit => (none : Option Value)) r0) h n := by
  refine vx_ofW (cc := cX9_needClosed) (maxL := 1) (ret := none) (by decide +kernel) rfl ?_
  intro p e s m args below meth c s₁ B hml hE hv
  obtain ⟨rfl, hP, hK⟩ := hv
  have X : zz_X D dA base t0 "Springseat" cX9_needClosed 1 none l p s m meth c := ⟨B.exec, B.bytes, hml, B.returns, findClass_of_methodNamed B.named, B.notSynchronized, hT, by rw [hP.1]; exact hP.2.1, hK⟩
  have hx := X.1
  have hb := X.2.1
  have hown := X.2.2.2.2.1
  have hR : zz_R D dA base h n s s.heap [] := ⟨hP, va_S.rf⟩
  have hl := lv_entry ([va_rf x0]) (n := 1) (by cases x0 <;> exact Nat.le_of_ble_eq_true rfl)
  rw [lg_entry_eq]
  generalize (lg_sl ([va_rf x0]) ++ List.replicate (1 - (lg_sl ([va_rf x0])).length) Slot.unset).toArray = ls at hl ⊢
  have hl : lv_has ls 1 [(0, va_rf x0)] := by rw [show ([(0, va_rf x0)] : List (Nat × Value)) = lv_args 0 [va_rf x0] from by cases x0 <;> rfl]; exact hl
  unfold f_X9_needClosed at hf
  refine zr_aload_n hx hb dX9_needClosed_0 rfl (lv_at hl 0 rfl) ?_
  obtain ⟨b1, fs1, hr1, ho1, hf⟩ := zz_ob_i hf
  obtain ⟨v1, hv1, hf⟩ := zz_b_i hf
  refine zr_cV X hR hl.1 (As := []) (rest := []) (C := RX7) (T := TX7) (N := 6) (mt_X7_hasCover hT b1 h n hv1) rfl ho1 mf_X7_hasCover q_268 q_269 q_270 ⟨Nat.le_of_ble_eq_true rfl, Nat.le_of_ble_eq_true rfl⟩ ⟨Nat.le_of_ble_eq_true rfl, Nat.le_of_ble_eq_true rfl⟩ (by rw [hr1]; rfl) (Nat.le_of_ble_eq_true rfl) dX9_needClosed_1 (fun H locs hR => ?_)
  refine W.eq (g2 := F0 m 4 ls [.int v1]) rfl ?_
  refine lv_if_ne (tgt := 18) hx hb dX9_needClosed_4 (by decide) (fun c4 => ?_) (fun c4 => ?_)
  · replace hf := zz_neg c4 hf
    cases hf
    exact zx_ret (zr_vret X hR dX9_needClosed_18 (Nat.le_of_ble_eq_true rfl) (Nat.le_of_ble_eq_true rfl))
  · replace hf := zz_pos c4 hf
    cases hf
    exact zx_throwW X hE hR hl.1 (k := 3) (names := ["java/lang/RuntimeException", "java/lang/Exception"]) tw_10_184.1 tw_10_184.2.1 rfl q_315 q_24 (List.mem_of_getElem? (i := 1) rfl) tw_10_184.2.2.1 tw_10_184.2.2.2 dX9_needClosed_7 dX9_needClosed_10 dX9_needClosed_11 dX9_needClosed_14 dX9_needClosed_17 (Nat.le_of_ble_eq_true rfl) ⟨Nat.le_of_ble_eq_true rfl, Nat.le_of_ble_eq_true rfl⟩ ⟨Nat.le_of_ble_eq_true rfl, Nat.le_of_ble_eq_true rfl⟩ (Nat.le_of_ble_eq_true rfl) (Nat.le_of_ble_eq_true rfl) (Nat.le_refl _)
def rm_X9_needHoursLeft : Room := { frames := 7, cells := 2, slots := 12, locals := 110 }
theorem mf_X9_needHoursLeft : zz_Mf yX9_needHoursLeft cX9_needHoursLeft 2 none 2 := ⟨q_928, q_1, by decide +kernel, by decide +kernel, by decide +kernel⟩
set_option maxHeartbeats 4000000 in
set_option maxRecDepth 100000 in
theorem mt_X9_needHoursLeft {D : va_G} {dA : Nat → ClassId} {base t0 : Nat} {l : Launch} (hT : l.stackTraces = false) (x0 : (Option Nat)) (x1 : Int32) (h : zz_H) (n : Nat) {r0 : (Unit ⊕ Nat)} (hf : f_X9_needHoursLeft x0 x1 h = some r0) : zz_MX D dA base t0 l yX9_needHoursLeft cX9_needHoursLeft 2 none rm_X9_needHoursLeft [va_rf x0, .int x1] h n (zz_ov (fun _ : Unit => (none : Option Value)) r0) h n := by
  refine vx_ofW (cc := cX9_needHoursLeft) (maxL := 2) (ret := none) (by decide +kernel) rfl ?_
  intro p e s m args below meth c s₁ B hml hE hv
  obtain ⟨rfl, hP, hK⟩ := hv
  have X : zz_X D dA base t0 "Springseat" cX9_needHoursLeft 2 none l p s m meth c := ⟨B.exec, B.bytes, hml, B.returns, findClass_of_methodNamed B.named, B.notSynchronized, hT, by rw [hP.1]; exact hP.2.1, hK⟩
  have hx := X.1
  have hb := X.2.1
  have hown := X.2.2.2.2.1
  have hR : zz_R D dA base h n s s.heap [] := ⟨hP, va_S.rf⟩
  have hl := lv_entry ([va_rf x0, .int x1]) (n := 2) (by cases x0 <;> exact Nat.le_of_ble_eq_true rfl)
  rw [lg_entry_eq]
  generalize (lg_sl ([va_rf x0, .int x1]) ++ List.replicate (2 - (lg_sl ([va_rf x0, .int x1])).length) Slot.unset).toArray = ls at hl ⊢
  have hl : lv_has ls 2 [(0, va_rf x0), (1, .int x1)] := by rw [show ([(0, va_rf x0), (1, .int x1)] : List (Nat × Value)) = lv_args 0 [va_rf x0, .int x1] from by cases x0 <;> rfl]; exact hl
  unfold f_X9_needHoursLeft at hf
  refine zr_aload_n hx hb dX9_needHoursLeft_0 rfl (lv_at hl 0 rfl) ?_
  refine zx_cS X hE hR hl.1 (As := [va_rf x0]) (rest := []) (ov := (fun _ : Unit => (none : Option Value))) (fun r hr => mt_X9_needClosed hT x0 h n hr) mf_X9_needClosed q_312 q_313 ⟨Nat.le_of_ble_eq_true rfl, Nat.le_of_ble_eq_true rfl⟩ ⟨Nat.le_of_ble_eq_true rfl, Nat.le_of_ble_eq_true rfl⟩ rfl (Nat.le_of_ble_eq_true rfl) dX9_needHoursLeft_1 hf (fun k e => by cases e; exact ⟨rfl, rfl, Nat.le_refl _⟩) (Nat.le_of_ble_eq_true rfl) (Nat.le_of_ble_eq_true rfl) (fun v1 hf H locs hR => ?_)
  refine W.eq (g2 := F0 m 4 ls []) rfl ?_
  refine W.widen (k := 1) (n := 6) (Nat.le_of_ble_eq_true rfl) (Nat.le_of_ble_eq_true rfl) ?_
  refine zr_aload_n hx hb dX9_needHoursLeft_4 rfl (lv_at hl 0 rfl) ?_
  refine zr_gqN X hR (r := x0) fn_X9_267 dX9_needHoursLeft_5 hf (fun v5 hf => ?_)
  refine zr_giN X hR (r := v5) fn_X9_288 dX9_needHoursLeft_8 hf (fun v8 hf => ?_)
  refine lv_iload_n hx hb dX9_needHoursLeft_11 rfl (lv_at hl 1 rfl) ?_
  refine lv_iadd hx hb dX9_needHoursLeft_12 ?_
  refine lv_ldcw hx hb hown (zz_w X q_929) dX9_needHoursLeft_13 ?_
  refine lv_icmp_le (tgt := 30) hx hb dX9_needHoursLeft_16 (by decide) (fun c16 => ?_) (fun c16 => ?_)
  · replace hf := zz_pos c16 hf
    cases hf
    exact zx_ret (zr_vret X hR dX9_needHoursLeft_30 (Nat.le_of_ble_eq_true rfl) (Nat.le_of_ble_eq_true rfl))
  · replace hf := zz_neg c16 hf
    cases hf
    exact zx_throwW X hE hR hl.1 (k := 3) (names := ["java/lang/RuntimeException", "java/lang/Exception"]) tw_10_184.1 tw_10_184.2.1 rfl q_315 q_24 (List.mem_of_getElem? (i := 11) rfl) tw_10_184.2.2.1 tw_10_184.2.2.2 dX9_needHoursLeft_19 dX9_needHoursLeft_22 dX9_needHoursLeft_23 dX9_needHoursLeft_26 dX9_needHoursLeft_29 (Nat.le_of_ble_eq_true rfl) ⟨Nat.le_of_ble_eq_true rfl, Nat.le_of_ble_eq_true rfl⟩ ⟨Nat.le_of_ble_eq_true rfl, Nat.le_of_ble_eq_true rfl⟩ (Nat.le_of_ble_eq_true rfl) (Nat.le_of_ble_eq_true rfl) (Nat.le_refl _)
def rm_X9_use : Room := { frames := 8, cells := 4, slots := 24, locals := 151 }
theorem mf_X9_use : zz_Mf yX9_use cX9_use 4 (some .int) 2 := ⟨q_925, q_1, by decide +kernel, by decide +kernel, by decide +kernel⟩
set_option maxHeartbeats 4000000 in
set_option maxRecDepth 100000 in
theorem mt_X9_use {D : va_G} {dA : Nat → ClassId} {base t0 : Nat} {l : Launch} (hT : l.stackTraces = false) (a0 : Nat) (x1 : Int32) (x2 : Int32) (h : zz_H) (n : Nat) {r0 : (Int32 ⊕ Nat)} {hF : zz_H} (hf : f_X9_use a0 x1 x2 h = some (r0, hF)) : zz_MX D dA base t0 l yX9_use cX9_use 4 (some .int) rm_X9_use [.ref a0, .int x1, .int x2] h n (zz_ov (fun v : Int32 => some (Value.int v)) r0) hF n := by
  refine vx_ofW (cc := cX9_use) (maxL := 4) (ret := (some .int)) (by decide +kernel) rfl ?_
  intro p e s m args below meth c s₁ B hml hE hv
  obtain ⟨rfl, hP, hK⟩ := hv
  have X : zz_X D dA base t0 "Springseat" cX9_use 4 (some .int) l p s m meth c := ⟨B.exec, B.bytes, hml, B.returns, findClass_of_methodNamed B.named, B.notSynchronized, hT, by rw [hP.1]; exact hP.2.1, hK⟩
  have hx := X.1
  have hb := X.2.1
  have hown := X.2.2.2.2.1
  have hR : zz_R D dA base h n s s.heap [] := ⟨hP, va_S.rf⟩
  have hl := lv_entry ([.ref a0, .int x1, .int x2]) (n := 4) (by exact Nat.le_of_ble_eq_true rfl)
  rw [lg_entry_eq]
  generalize (lg_sl ([.ref a0, .int x1, .int x2]) ++ List.replicate (4 - (lg_sl ([.ref a0, .int x1, .int x2])).length) Slot.unset).toArray = ls at hl ⊢
  have hl : lv_has ls 4 [(0, .ref a0), (1, .int x1), (2, .int x2)] := hl
  unfold f_X9_use at hf
  refine lv_aload_n hx hb dX9_use_0 rfl (lv_at hl 0 rfl) ?_
  refine lv_iload_n hx hb dX9_use_1 rfl (lv_at hl 1 rfl) ?_
  obtain ⟨fs2, ho2, hf⟩ := zz_obS_i hf
  refine zx_cV X hE hR hl.1 (As := [.int x1]) (rest := []) (C := RX9) (T := TX9) (N := 6) (ov := (fun v : Option Nat => some (va_rf v))) (fun r hr => mt_X9_seatOf hT a0 x1 h n hr) rfl ho2 mf_X9_seatOf q_172 q_174 qs_3 ⟨Nat.le_of_ble_eq_true rfl, Nat.le_of_ble_eq_true rfl⟩ ⟨Nat.le_of_ble_eq_true rfl, Nat.le_of_ble_eq_true rfl⟩ rfl (Nat.le_of_ble_eq_true rfl) dX9_use_2 hf (fun k e => by cases e; exact ⟨rfl, rfl, Nat.le_refl _⟩) (Nat.le_of_ble_eq_true rfl) (Nat.le_of_ble_eq_true rfl) (fun v2 hf H locs hR => ?_)
  refine W.eq (g2 := F0 m 5 ls [va_rf v2]) rfl ?_
  refine W.widen (k := 1) (n := 6) (Nat.le_of_ble_eq_true rfl) (Nat.le_of_ble_eq_true rfl) ?_
  refine zr_astore_n (i := 3) (lv' := [(3, va_rf v2), (0, .ref a0), (1, .int x1), (2, .int x2)]) hx hb dX9_use_5 rfl hl (by decide) rfl (fun ls hl => ?_)
  refine lv_iload_n hx hb dX9_use_6 rfl (lv_at hl 3 rfl) ?_
  refine lv_iconst (v := (1 : Int32)) hx hb dX9_use_7 (by decide) ?_
  refine lv_sipush (v := (9999 : Int32)) hx hb dX9_use_8 (by decide) ?_
  refine zx_cS X hE hR hl.1 (As := [.int x2, .int (1 : Int32), .int (9999 : Int32)]) (rest := []) (ov := (fun _ : Unit => (none : Option Value))) (fun r hr => mt_X9_needRange hT x2 (1 : Int32) (9999 : Int32) h n hr) mf_X9_needRange q_489 q_490 ⟨Nat.le_of_ble_eq_true rfl, Nat.le_of_ble_eq_true rfl⟩ ⟨Nat.le_of_ble_eq_true rfl, Nat.le_of_ble_eq_true rfl⟩ rfl (Nat.le_of_ble_eq_true rfl) dX9_use_11 hf (fun k e => by cases e; exact ⟨rfl, rfl, Nat.le_refl _⟩) (Nat.le_of_ble_eq_true rfl) (Nat.le_of_ble_eq_true rfl) (fun v11 hf H locs hR => ?_)
  refine W.eq (g2 := F0 m 14 ls []) rfl ?_
  refine W.widen (k := 2) (n := 12) (Nat.le_of_ble_eq_true rfl) (Nat.le_of_ble_eq_true rfl) ?_
  refine zr_aload_n hx hb dX9_use_14 rfl (lv_at hl 0 rfl) ?_
  refine lv_iload_n hx hb dX9_use_15 rfl (lv_at hl 3 rfl) ?_
  refine zx_cS X hE hR hl.1 (As := [va_rf v2, .int x2]) (rest := []) (ov := (fun _ : Unit => (none : Option Value))) (fun r hr => mt_X9_needHoursLeft hT v2 x2 h n hr) mf_X9_needHoursLeft q_926 q_927 ⟨Nat.le_of_ble_eq_true rfl, Nat.le_of_ble_eq_true rfl⟩ ⟨Nat.le_of_ble_eq_true rfl, Nat.le_of_ble_eq_true rfl⟩ rfl (Nat.le_of_ble_eq_true rfl) dX9_use_16 hf (fun k e => by cases e; exact ⟨rfl, rfl, Nat.le_refl _⟩) (Nat.le_of_ble_eq_true rfl) (Nat.le_of_ble_eq_true rfl) (fun v16 hf H locs hR => ?_)
  refine W.eq (g2 := F0 m 19 ls []) rfl ?_
  refine W.widen (k := 4) (n := 24) (Nat.le_of_ble_eq_true rfl) (Nat.le_of_ble_eq_true rfl) ?_
  refine zr_aload_n hx hb dX9_use_19 rfl (lv_at hl 0 rfl) ?_
  refine lv_iload_n hx hb dX9_use_20 rfl (lv_at hl 3 rfl) ?_
  obtain ⟨b21, fs21, hr21, ho21, hf⟩ := zz_ob_i hf
  obtain ⟨v21, h21, hv21, hf⟩ := zz_b1_i hf
  refine zr_cV X hR hl.1 (As := [.int x2]) (rest := []) (C := RX7) (T := TX7) (N := 6) (mt_X7_wear hT b21 x2 h n hv21) rfl ho21 mf_X7_wear q_931 q_932 q_933 ⟨Nat.le_of_ble_eq_true rfl, Nat.le_of_ble_eq_true rfl⟩ ⟨Nat.le_of_ble_eq_true rfl, Nat.le_of_ble_eq_true rfl⟩ (by rw [hr21]; rfl) (Nat.le_of_ble_eq_true rfl) dX9_use_21 (fun H locs hR => ?_)
  refine W.eq (g2 := F0 m 24 ls [.int v21]) rfl ?_
  cases hf
  exact zx_ret (zr_iret X hR dX9_use_24 (Nat.le_of_ble_eq_true rfl) (Nat.le_of_ble_eq_true rfl))
def rm_X9_pound : Room := { frames := 8, cells := 4, slots := 24, locals := 151 }
theorem mf_X9_pound : zz_Mf yX9_pound cX9_pound 4 (some .int) 2 := ⟨q_950, q_1, by decide +kernel, by decide +kernel, by decide +kernel⟩
set_option maxHeartbeats 4000000 in
set_option maxRecDepth 100000 in
theorem mt_X9_pound {D : va_G} {dA : Nat → ClassId} {base t0 : Nat} {l : Launch} (hT : l.stackTraces = false) (a0 : Nat) (x1 : Int32) (x2 : Int32) (h : zz_H) (n : Nat) {r0 : (Int32 ⊕ Nat)} {hF : zz_H} (hf : f_X9_pound a0 x1 x2 h = some (r0, hF)) : zz_MX D dA base t0 l yX9_pound cX9_pound 4 (some .int) rm_X9_pound [.ref a0, .int x1, .int x2] h n (zz_ov (fun v : Int32 => some (Value.int v)) r0) hF n := by
  refine vx_ofW (cc := cX9_pound) (maxL := 4) (ret := (some .int)) (by decide +kernel) rfl ?_
  intro p e s m args below meth c s₁ B hml hE hv
  obtain ⟨rfl, hP, hK⟩ := hv
  have X : zz_X D dA base t0 "Springseat" cX9_pound 4 (some .int) l p s m meth c := ⟨B.exec, B.bytes, hml, B.returns, findClass_of_methodNamed B.named, B.notSynchronized, hT, by rw [hP.1]; exact hP.2.1, hK⟩
  have hx := X.1
  have hb := X.2.1
  have hown := X.2.2.2.2.1
  have hR : zz_R D dA base h n s s.heap [] := ⟨hP, va_S.rf⟩
  have hl := lv_entry ([.ref a0, .int x1, .int x2]) (n := 4) (by exact Nat.le_of_ble_eq_true rfl)
  rw [lg_entry_eq]
  generalize (lg_sl ([.ref a0, .int x1, .int x2]) ++ List.replicate (4 - (lg_sl ([.ref a0, .int x1, .int x2])).length) Slot.unset).toArray = ls at hl ⊢
  have hl : lv_has ls 4 [(0, .ref a0), (1, .int x1), (2, .int x2)] := hl
  unfold f_X9_pound at hf
  refine lv_aload_n hx hb dX9_pound_0 rfl (lv_at hl 0 rfl) ?_
  refine lv_iload_n hx hb dX9_pound_1 rfl (lv_at hl 1 rfl) ?_
  obtain ⟨fs2, ho2, hf⟩ := zz_obS_i hf
  refine zx_cV X hE hR hl.1 (As := [.int x1]) (rest := []) (C := RX9) (T := TX9) (N := 6) (ov := (fun v : Option Nat => some (va_rf v))) (fun r hr => mt_X9_seatOf hT a0 x1 h n hr) rfl ho2 mf_X9_seatOf q_172 q_174 qs_3 ⟨Nat.le_of_ble_eq_true rfl, Nat.le_of_ble_eq_true rfl⟩ ⟨Nat.le_of_ble_eq_true rfl, Nat.le_of_ble_eq_true rfl⟩ rfl (Nat.le_of_ble_eq_true rfl) dX9_pound_2 hf (fun k e => by cases e; exact ⟨rfl, rfl, Nat.le_refl _⟩) (Nat.le_of_ble_eq_true rfl) (Nat.le_of_ble_eq_true rfl) (fun v2 hf H locs hR => ?_)
  refine W.eq (g2 := F0 m 5 ls [va_rf v2]) rfl ?_
  refine W.widen (k := 1) (n := 6) (Nat.le_of_ble_eq_true rfl) (Nat.le_of_ble_eq_true rfl) ?_
  refine zr_astore_n (i := 3) (lv' := [(3, va_rf v2), (0, .ref a0), (1, .int x1), (2, .int x2)]) hx hb dX9_pound_5 rfl hl (by decide) rfl (fun ls hl => ?_)
  refine lv_iload_n hx hb dX9_pound_6 rfl (lv_at hl 3 rfl) ?_
  refine lv_iconst (v := (1 : Int32)) hx hb dX9_pound_7 (by decide) ?_
  refine lv_sipush (v := (3000 : Int32)) hx hb dX9_pound_8 (by decide) ?_
  refine zx_cS X hE hR hl.1 (As := [.int x2, .int (1 : Int32), .int (3000 : Int32)]) (rest := []) (ov := (fun _ : Unit => (none : Option Value))) (fun r hr => mt_X9_needRange hT x2 (1 : Int32) (3000 : Int32) h n hr) mf_X9_needRange q_489 q_490 ⟨Nat.le_of_ble_eq_true rfl, Nat.le_of_ble_eq_true rfl⟩ ⟨Nat.le_of_ble_eq_true rfl, Nat.le_of_ble_eq_true rfl⟩ rfl (Nat.le_of_ble_eq_true rfl) dX9_pound_11 hf (fun k e => by cases e; exact ⟨rfl, rfl, Nat.le_refl _⟩) (Nat.le_of_ble_eq_true rfl) (Nat.le_of_ble_eq_true rfl) (fun v11 hf H locs hR => ?_)
  refine W.eq (g2 := F0 m 14 ls []) rfl ?_
  refine W.widen (k := 2) (n := 12) (Nat.le_of_ble_eq_true rfl) (Nat.le_of_ble_eq_true rfl) ?_
  refine zr_aload_n hx hb dX9_pound_14 rfl (lv_at hl 0 rfl) ?_
  refine lv_iload_n hx hb dX9_pound_15 rfl (lv_at hl 3 rfl) ?_
  refine lv_iconst (v := (3 : Int32)) hx hb dX9_pound_16 (by decide) ?_
  refine lv_imul hx hb dX9_pound_17 ?_
  refine zx_cS X hE hR hl.1 (As := [va_rf v2, .int (x2 * (3 : Int32))]) (rest := []) (ov := (fun _ : Unit => (none : Option Value))) (fun r hr => mt_X9_needHoursLeft hT v2 (x2 * (3 : Int32)) h n hr) mf_X9_needHoursLeft q_926 q_927 ⟨Nat.le_of_ble_eq_true rfl, Nat.le_of_ble_eq_true rfl⟩ ⟨Nat.le_of_ble_eq_true rfl, Nat.le_of_ble_eq_true rfl⟩ rfl (Nat.le_of_ble_eq_true rfl) dX9_pound_18 hf (fun k e => by cases e; exact ⟨rfl, rfl, Nat.le_refl _⟩) (Nat.le_of_ble_eq_true rfl) (Nat.le_of_ble_eq_true rfl) (fun v18 hf H locs hR => ?_)
  refine W.eq (g2 := F0 m 21 ls []) rfl ?_
  refine W.widen (k := 4) (n := 24) (Nat.le_of_ble_eq_true rfl) (Nat.le_of_ble_eq_true rfl) ?_
  refine zr_aload_n hx hb dX9_pound_21 rfl (lv_at hl 0 rfl) ?_
  refine lv_iload_n hx hb dX9_pound_22 rfl (lv_at hl 3 rfl) ?_
  refine lv_iconst (v := (3 : Int32)) hx hb dX9_pound_23 (by decide) ?_
  refine lv_imul hx hb dX9_pound_24 ?_
  obtain ⟨b25, fs25, hr25, ho25, hf⟩ := zz_ob_i hf
  obtain ⟨v25, h25, hv25, hf⟩ := zz_b1_i hf
  refine zr_cV X hR hl.1 (As := [.int (x2 * (3 : Int32))]) (rest := []) (C := RX7) (T := TX7) (N := 6) (mt_X7_wear hT b25 (x2 * (3 : Int32)) h n hv25) rfl ho25 mf_X7_wear q_931 q_932 q_933 ⟨Nat.le_of_ble_eq_true rfl, Nat.le_of_ble_eq_true rfl⟩ ⟨Nat.le_of_ble_eq_true rfl, Nat.le_of_ble_eq_true rfl⟩ (by rw [hr25]; rfl) (Nat.le_of_ble_eq_true rfl) dX9_pound_25 (fun H locs hR => ?_)
  refine W.eq (g2 := F0 m 28 ls [.int v25]) rfl ?_
  cases hf
  exact zx_ret (zr_iret X hR dX9_pound_28 (Nat.le_of_ble_eq_true rfl) (Nat.le_of_ble_eq_true rfl))
end ZZM
