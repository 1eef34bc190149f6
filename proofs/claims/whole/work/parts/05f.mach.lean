section ZZM
def rm_X9_draw : Room := { frames := 9, cells := 6, slots := 36, locals := 154 }
theorem mf_X9_draw : zz_Mf yX9_draw cX9_draw 5 (some .int) 3 := ⟨q_759, q_1, by decide +kernel, by decide +kernel, by decide +kernel⟩
set_option maxHeartbeats 4000000 in
set_option maxRecDepth 100000 in
theorem bk_X9_draw_49 {D : va_G} {dA : Nat → ClassId} {base t0 : Nat} {l : Launch} {p : Program} {e : Env} {s : State} {m : MethodId} {args : Array Value} {below : List Frame} {meth : Method} {c : Code} (X : zz_X D dA base t0 "Springseat" cX9_draw 5 (some .int) l p s m meth c) (hE : ∀ x ∈ c.exceptionTable.toList, False) (hT : l.stackTraces = false) {x2 : Int32} {x3 : Int32} {x4 : (Option Nat)} {h : zz_H} {n : Nat} {H : Heap} {locs : List Loc} {ls : Array Slot} (hR : zz_R D dA base h n s H locs) (hl : lv_has ls 5 [(2, .int x2), (3, .int x3), (4, va_rf x4)]) {r0 : (Int32 ⊕ Nat)} {hF : zz_H} (hf : f_X9_draw_49 x2 x3 x4 h = some (r0, hF)) : W p l e rm_X9_draw s m args below meth c H locs 6 36 (vx_MQ below (zz_Qo D dA base (zz_ov (fun v : Int32 => some (Value.int v)) r0) hF n) (zz_Xo D dA base (zz_ov (fun v : Int32 => some (Value.int v)) r0) hF n) args s rm_X9_draw.cells rm_X9_draw.slots (fun q => base ≤ q)) (F0 m 49 ls []) := by
  have hx := X.1
  have hb := X.2.1
  have hown := X.2.2.2.2.1
  unfold f_X9_draw_49 at hf
  refine zr_aload hx hb dX9_draw_49 (lv_at hl 2 rfl) ?_
  refine zr_gqN X hR (r := x4) fn_X9_144 dX9_draw_51 hf (fun v51 hf => ?_)
  refine lv_iload_n hx hb dX9_draw_54 rfl (lv_at hl 0 rfl) ?_
  refine lv_iload_n hx hb dX9_draw_55 rfl (lv_at hl 1 rfl) ?_
  obtain ⟨b56, fs56, hr56, ho56, hf⟩ := zz_ob_i hf
  obtain ⟨u56, h56, hv56, hf⟩ := zz_b1_i hf
  refine zr_cV X hR hl.1 (As := [.int x2, .int x3]) (rest := []) (C := RX4) (T := TX4) (N := 1) (mt_X4_put hT b56 x2 x3 h n hv56) rfl ho56 mf_X4_put q_764 q_325 q_326 ⟨Nat.le_of_ble_eq_true rfl, Nat.le_of_ble_eq_true rfl⟩ ⟨Nat.le_of_ble_eq_true rfl, Nat.le_of_ble_eq_true rfl⟩ (by rw [hr56]; rfl) (Nat.le_of_ble_eq_true rfl) dX9_draw_56 (fun H locs hR => ?_)
  refine W.eq (g2 := F0 m 59 ls []) rfl ?_
  refine zr_aload hx hb dX9_draw_59 (lv_at hl 2 rfl) ?_
  obtain ⟨b61, fs61, hr61, ho61, hf⟩ := zz_ob_i hf
  obtain ⟨v61, hv61, hf⟩ := zz_b_i hf
  refine zr_cV X hR hl.1 (As := []) (rest := []) (C := RX7) (T := TX7) (N := 6) (mt_X7_buttonCount hT b61 h56 n hv61) rfl ho61 mf_X7_buttonCount q_760 q_761 q_762 ⟨Nat.le_of_ble_eq_true rfl, Nat.le_of_ble_eq_true rfl⟩ ⟨Nat.le_of_ble_eq_true rfl, Nat.le_of_ble_eq_true rfl⟩ (by rw [hr61]; rfl) (Nat.le_of_ble_eq_true rfl) dX9_draw_61 (fun H locs hR => ?_)
  refine W.eq (g2 := F0 m 64 ls [.int v61]) rfl ?_
  cases hf
  exact zx_ret (zr_iret X hR dX9_draw_64 (Nat.le_of_ble_eq_true rfl) (Nat.le_of_ble_eq_true rfl))
set_option maxHeartbeats 4000000 in
set_option maxRecDepth 100000 in
theorem mt_X9_draw {D : va_G} {dA : Nat → ClassId} {base t0 : Nat} {l : Launch} (hT : l.stackTraces = false) (a0 : Nat) (x1 : Int32) (x2 : Int32) (x3 : Int32) (h : zz_H) (n : Nat) {r0 : (Int32 ⊕ Nat)} {hF : zz_H} (hf : f_X9_draw a0 x1 x2 x3 h = some (r0, hF)) : zz_MX D dA base t0 l yX9_draw cX9_draw 5 (some .int) rm_X9_draw [.ref a0, .int x1, .int x2, .int x3] h n (zz_ov (fun v : Int32 => some (Value.int v)) r0) hF n := by
  refine vx_ofW (cc := cX9_draw) (maxL := 5) (ret := (some .int)) (by decide +kernel) rfl ?_
  intro p e s m args below meth c s₁ B hml hE hv
  obtain ⟨rfl, hP, hK⟩ := hv
  have X : zz_X D dA base t0 "Springseat" cX9_draw 5 (some .int) l p s m meth c := ⟨B.exec, B.bytes, hml, B.returns, findClass_of_methodNamed B.named, B.notSynchronized, hT, by rw [hP.1]; exact hP.2.1, hK⟩
  have hx := X.1
  have hb := X.2.1
  have hown := X.2.2.2.2.1
  have hR : zz_R D dA base h n s s.heap [] := ⟨hP, va_S.rf⟩
  have hl := lv_entry ([.ref a0, .int x1, .int x2, .int x3]) (n := 5) (by exact Nat.le_of_ble_eq_true rfl)
  rw [lg_entry_eq]
  generalize (lg_sl ([.ref a0, .int x1, .int x2, .int x3]) ++ List.replicate (5 - (lg_sl ([.ref a0, .int x1, .int x2, .int x3])).length) Slot.unset).toArray = ls at hl ⊢
  have hl : lv_has ls 5 [(0, .ref a0), (1, .int x1), (2, .int x2), (3, .int x3)] := hl
  unfold f_X9_draw at hf
  refine lv_aload_n hx hb dX9_draw_0 rfl (lv_at hl 0 rfl) ?_
  refine lv_iload_n hx hb dX9_draw_1 rfl (lv_at hl 1 rfl) ?_
  obtain ⟨fs2, ho2, hf⟩ := zz_obS_i hf
  refine zx_cV X hE hR hl.1 (As := [.int x1]) (rest := []) (C := RX9) (T := TX9) (N := 6) (ov := (fun v : Option Nat => some (va_rf v))) (fun r hr => mt_X9_seatOf hT a0 x1 h n hr) rfl ho2 mf_X9_seatOf q_582 q_584 qs_9 ⟨Nat.le_of_ble_eq_true rfl, Nat.le_of_ble_eq_true rfl⟩ ⟨Nat.le_of_ble_eq_true rfl, Nat.le_of_ble_eq_true rfl⟩ rfl (Nat.le_of_ble_eq_true rfl) dX9_draw_2 hf (fun k e => by cases e; exact ⟨rfl, rfl, Nat.le_refl _⟩) (Nat.le_of_ble_eq_true rfl) (Nat.le_of_ble_eq_true rfl) (fun v2 hf H locs hR => ?_)
  refine W.eq (g2 := F0 m 5 ls [va_rf v2]) rfl ?_
  refine W.widen (k := 1) (n := 6) (Nat.le_of_ble_eq_true rfl) (Nat.le_of_ble_eq_true rfl) ?_
  refine zr_astore (i := 4) (lv' := [(4, va_rf v2), (0, .ref a0), (1, .int x1), (2, .int x2), (3, .int x3)]) hx hb dX9_draw_5 hl (by decide) rfl (fun ls hl => ?_)
  refine zr_aload hx hb dX9_draw_7 (lv_at hl 0 rfl) ?_
  refine lv_iload_n hx hb dX9_draw_9 rfl (lv_at hl 3 rfl) ?_
  refine zx_cS X hE hR hl.1 (As := [va_rf v2, .int x2]) (rest := []) (ov := (fun _ : Unit => (none : Option Value))) (fun r hr => mt_X9_needCell hT v2 x2 h n hr) mf_X9_needCell q_661 q_662 ⟨Nat.le_of_ble_eq_true rfl, Nat.le_of_ble_eq_true rfl⟩ ⟨Nat.le_of_ble_eq_true rfl, Nat.le_of_ble_eq_true rfl⟩ rfl (Nat.le_of_ble_eq_true rfl) dX9_draw_10 hf (fun k e => by cases e; exact ⟨rfl, rfl, Nat.le_refl _⟩) (Nat.le_of_ble_eq_true rfl) (Nat.le_of_ble_eq_true rfl) (fun v10 hf H locs hR => ?_)
  refine W.eq (g2 := F0 m 13 ls []) rfl ?_
  refine W.widen (k := 3) (n := 18) (Nat.le_of_ble_eq_true rfl) (Nat.le_of_ble_eq_true rfl) ?_
  refine lv_iload_n hx hb dX9_draw_13 rfl (lv_at hl 4 rfl) ?_
  refine lv_iconst (v := (1 : Int32)) hx hb dX9_draw_14 (by decide) ?_
  refine lv_bipush (v := (30 : Int32)) hx hb dX9_draw_15 (by decide) ?_
  refine zx_cS X hE hR hl.1 (As := [.int x3, .int (1 : Int32), .int (30 : Int32)]) (rest := []) (ov := (fun _ : Unit => (none : Option Value))) (fun r hr => mt_X9_needRange hT x3 (1 : Int32) (30 : Int32) h n hr) mf_X9_needRange q_344 q_345 ⟨Nat.le_of_ble_eq_true rfl, Nat.le_of_ble_eq_true rfl⟩ ⟨Nat.le_of_ble_eq_true rfl, Nat.le_of_ble_eq_true rfl⟩ rfl (Nat.le_of_ble_eq_true rfl) dX9_draw_17 hf (fun k e => by cases e; exact ⟨rfl, rfl, Nat.le_refl _⟩) (Nat.le_of_ble_eq_true rfl) (Nat.le_of_ble_eq_true rfl) (fun v17 hf H locs hR => ?_)
  refine W.eq (g2 := F0 m 20 ls []) rfl ?_
  refine W.widen (k := 4) (n := 24) (Nat.le_of_ble_eq_true rfl) (Nat.le_of_ble_eq_true rfl) ?_
  refine zr_aload hx hb dX9_draw_20 (lv_at hl 0 rfl) ?_
  refine lv_bipush (v := (98 : Int32)) hx hb dX9_draw_22 (by decide) ?_
  refine zx_cS X hE hR hl.1 (As := [va_rf v2, .int (98 : Int32)]) (rest := []) (ov := (fun _ : Unit => (none : Option Value))) (fun r hr => mt_X9_needInWork hT v2 (98 : Int32) h n hr) mf_X9_needInWork q_667 q_668 ⟨Nat.le_of_ble_eq_true rfl, Nat.le_of_ble_eq_true rfl⟩ ⟨Nat.le_of_ble_eq_true rfl, Nat.le_of_ble_eq_true rfl⟩ rfl (Nat.le_of_ble_eq_true rfl) dX9_draw_24 hf (fun k e => by cases e; exact ⟨rfl, rfl, Nat.le_refl _⟩) (Nat.le_of_ble_eq_true rfl) (Nat.le_of_ble_eq_true rfl) (fun v24 hf H locs hR => ?_)
  refine W.eq (g2 := F0 m 27 ls []) rfl ?_
  refine W.widen (k := 5) (n := 30) (Nat.le_of_ble_eq_true rfl) (Nat.le_of_ble_eq_true rfl) ?_
  refine zr_aload hx hb dX9_draw_27 (lv_at hl 0 rfl) ?_
  refine zr_gqN X hR (r := v2) fn_X9_144 dX9_draw_29 hf (fun v29 hf => ?_)
  refine lv_iload_n hx hb dX9_draw_32 rfl (lv_at hl 3 rfl) ?_
  obtain ⟨b33, fs33, hr33, ho33, hf⟩ := zz_ob_i hf
  obtain ⟨v33, hv33, hf⟩ := zz_b_i hf
  refine zr_cV X hR hl.1 (As := [.int x2]) (rest := []) (C := RX4) (T := TX4) (N := 1) (mt_X4_at hT b33 x2 h n hv33) rfl ho33 mf_X4_at q_676 q_218 q_219 ⟨Nat.le_of_ble_eq_true rfl, Nat.le_of_ble_eq_true rfl⟩ ⟨Nat.le_of_ble_eq_true rfl, Nat.le_of_ble_eq_true rfl⟩ (by rw [hr33]; rfl) (Nat.le_of_ble_eq_true rfl) dX9_draw_33 (fun H locs hR => ?_)
  refine W.eq (g2 := F0 m 36 ls [.int v33]) rfl ?_
  refine lv_if_ne (tgt := 49) hx hb dX9_draw_36 (by decide) (fun c36 => ?_) (fun c36 => ?_)
  · replace hf := zz_neg c36 hf
    refine W.widen (k := 6) (n := 36) (Nat.le_of_ble_eq_true rfl) (Nat.le_of_ble_eq_true rfl) ?_
    exact bk_X9_draw_49 X hE hT hR (lv_sub hl [3, 4, 0] rfl) hf
  · replace hf := zz_pos c36 hf
    refine zr_aload hx hb dX9_draw_39 (lv_at hl 0 rfl) ?_
    obtain ⟨b41, fs41, hr41, ho41, hf⟩ := zz_ob_i hf
    obtain ⟨v41, hv41, hf⟩ := zz_b_i hf
    refine zr_cV X hR hl.1 (As := []) (rest := []) (C := RX7) (T := TX7) (N := 6) (mt_X7_buttonCount hT b41 h n hv41) rfl ho41 mf_X7_buttonCount q_760 q_761 q_762 ⟨Nat.le_of_ble_eq_true rfl, Nat.le_of_ble_eq_true rfl⟩ ⟨Nat.le_of_ble_eq_true rfl, Nat.le_of_ble_eq_true rfl⟩ (by rw [hr41]; rfl) (Nat.le_of_ble_eq_true rfl) dX9_draw_41 (fun H locs hR => ?_)
    refine W.eq (g2 := F0 m 44 ls [.int v41]) rfl ?_
    refine lv_bipush (v := (12 : Int32)) hx hb dX9_draw_44 (by decide) ?_
    refine zx_cS X hE hR hl.1 (As := [.int v41, .int (12 : Int32)]) (rest := []) (ov := (fun _ : Unit => (none : Option Value))) (fun r hr => mt_X9_needRoom hT v41 (12 : Int32) h n hr) mf_X9_needRoom q_417 q_418 ⟨Nat.le_of_ble_eq_true rfl, Nat.le_of_ble_eq_true rfl⟩ ⟨Nat.le_of_ble_eq_true rfl, Nat.le_of_ble_eq_true rfl⟩ rfl (Nat.le_of_ble_eq_true rfl) dX9_draw_46 hf (fun k e => by cases e; exact ⟨rfl, rfl, Nat.le_refl _⟩) (Nat.le_of_ble_eq_true rfl) (Nat.le_of_ble_eq_true rfl) (fun v46 hf H locs hR => ?_)
    refine W.eq (g2 := F0 m 49 ls []) rfl ?_
    refine W.widen (k := 6) (n := 36) (Nat.le_of_ble_eq_true rfl) (Nat.le_of_ble_eq_true rfl) ?_
    exact bk_X9_draw_49 X hE hT hR (lv_sub hl [3, 4, 0] rfl) hf
def rm_X9_clothOf : Room := { frames := 7, cells := 1, slots := 6, locals := 111 }
theorem mf_X9_clothOf : zz_Mf yX9_clothOf cX9_clothOf 2 (some (.object "Springseat$Cloth")) 1 := ⟨q_776, q_1, by decide +kernel, by decide +kernel, by decide +kernel⟩
set_option maxHeartbeats 4000000 in
set_option maxRecDepth 100000 in
theorem mt_X9_clothOf {D : va_G} {dA : Nat → ClassId} {base t0 : Nat} {l : Launch} (hT : l.stackTraces = false) (a0 : Nat) (x1 : Int32) (h : zz_H) (n : Nat) {r0 : ((Option Nat) ⊕ Nat)} (hf : f_X9_clothOf a0 x1 h = some r0) : zz_MX D dA base t0 l yX9_clothOf cX9_clothOf 2 (some (.object "Springseat$Cloth")) rm_X9_clothOf [.ref a0, .int x1] h n (zz_ov (fun v : Option Nat => some (va_rf v)) r0) h n := by
  refine vx_ofW (cc := cX9_clothOf) (maxL := 2) (ret := (some (.object "Springseat$Cloth"))) (by decide +kernel) rfl ?_
  intro p e s m args below meth c s₁ B hml hE hv
  obtain ⟨rfl, hP, hK⟩ := hv
  have X : zz_X D dA base t0 "Springseat" cX9_clothOf 2 (some (.object "Springseat$Cloth")) l p s m meth c := ⟨B.exec, B.bytes, hml, B.returns, findClass_of_methodNamed B.named, B.notSynchronized, hT, by rw [hP.1]; exact hP.2.1, hK⟩
  have hx := X.1
  have hb := X.2.1
  have hown := X.2.2.2.2.1
  have hR : zz_R D dA base h n s s.heap [] := ⟨hP, va_S.rf⟩
  have hl := lv_entry ([.ref a0, .int x1]) (n := 2) (by exact Nat.le_of_ble_eq_true rfl)
  rw [lg_entry_eq]
  generalize (lg_sl ([.ref a0, .int x1]) ++ List.replicate (2 - (lg_sl ([.ref a0, .int x1])).length) Slot.unset).toArray = ls at hl ⊢
  have hl : lv_has ls 2 [(0, .ref a0), (1, .int x1)] := hl
  unfold f_X9_clothOf at hf
  refine lv_iload_n hx hb dX9_clothOf_0 rfl (lv_at hl 1 rfl) ?_
  refine lv_aload_n hx hb dX9_clothOf_1 rfl (lv_at hl 0 rfl) ?_
  refine zr_gq X hR (r := (some a0)) fl_X9_19 dX9_clothOf_2 hf (fun v2 hf => ?_)
  obtain ⟨b5, fs5, hr5, ho5, hf⟩ := zz_ob_i hf
  obtain ⟨v5, hv5, hf⟩ := zz_b_i hf
  refine zr_cV X hR hl.1 (As := []) (rest := [.int x1]) (C := RJx4a65c) (T := TJx4a65c) (N := 3) (mt_Jx4a65c_size_8abf5 hT b5 h n hv5) rfl ho5 mf_Jx4a65c_size_8abf5 q_177 q_178 q_179 ⟨Nat.le_of_ble_eq_true rfl, Nat.le_of_ble_eq_true rfl⟩ ⟨Nat.le_of_ble_eq_true rfl, Nat.le_of_ble_eq_true rfl⟩ (by rw [hr5]; rfl) (Nat.le_of_ble_eq_true rfl) dX9_clothOf_5 (fun H locs hR => ?_)
  refine W.eq (g2 := F0 m 8 ls [.int v5, .int x1]) rfl ?_
  refine zx_cS X hE hR hl.1 (As := [.int x1, .int v5]) (rest := []) (ov := (fun _ : Unit => (none : Option Value))) (fun r hr => mt_X9_needIndex hT x1 v5 h n hr) mf_X9_needIndex q_586 q_587 ⟨Nat.le_of_ble_eq_true rfl, Nat.le_of_ble_eq_true rfl⟩ ⟨Nat.le_of_ble_eq_true rfl, Nat.le_of_ble_eq_true rfl⟩ rfl (Nat.le_of_ble_eq_true rfl) dX9_clothOf_8 hf (fun k e => by cases e; exact ⟨rfl, rfl, Nat.le_refl _⟩) (Nat.le_of_ble_eq_true rfl) (Nat.le_of_ble_eq_true rfl) (fun v8 hf H locs hR => ?_)
  refine W.eq (g2 := F0 m 11 ls []) rfl ?_
  refine W.widen (k := 1) (n := 6) (Nat.le_of_ble_eq_true rfl) (Nat.le_of_ble_eq_true rfl) ?_
  refine lv_aload_n hx hb dX9_clothOf_11 rfl (lv_at hl 0 rfl) ?_
  refine zr_gq X hR (r := (some a0)) fl_X9_19 dX9_clothOf_12 hf (fun v12 hf => ?_)
  refine lv_iload_n hx hb dX9_clothOf_15 rfl (lv_at hl 1 rfl) ?_
  obtain ⟨b16, fs16, hr16, ho16, hf⟩ := zz_ob_i hf
  obtain ⟨v16, hv16, hf⟩ := zz_b_i hf
  refine zr_cV X hR hl.1 (As := [.int x1]) (rest := []) (C := RJx4a65c) (T := TJx4a65c) (N := 3) (mt_Jx4a65c_get_915e3 hT b16 x1 h n hv16) rfl ho16 mf_Jx4a65c_get_915e3 q_181 q_182 q_183 ⟨Nat.le_of_ble_eq_true rfl, Nat.le_of_ble_eq_true rfl⟩ ⟨Nat.le_of_ble_eq_true rfl, Nat.le_of_ble_eq_true rfl⟩ (by rw [hr16]; rfl) (Nat.le_of_ble_eq_true rfl) dX9_clothOf_16 (fun H locs hR => ?_)
  refine W.eq (g2 := F0 m 19 ls [va_rf v16]) rfl ?_
  refine zr_cc X hR (ci := 1) (C := RX0) (T := TX0) (N := 5) (r := v16) rfl q_777 (Or.inr trivial) dX9_clothOf_19 hf (fun hf => ?_)
  cases hf
  exact zx_ret (zr_aret (Or.inl ⟨_, rfl⟩) X hR (r := _) dX9_clothOf_22 (Nat.le_of_ble_eq_true rfl) (Nat.le_of_ble_eq_true rfl))
def rm_X9_cover : Room := { frames := 8, cells := 5, slots := 30, locals := 152 }
theorem mf_X9_cover : zz_Mf yX9_cover cX9_cover 6 (some .int) 3 := ⟨q_772, q_1, by decide +kernel, by decide +kernel, by decide +kernel⟩
set_option maxHeartbeats 4000000 in
set_option maxRecDepth 100000 in
theorem mt_X9_cover {D : va_G} {dA : Nat → ClassId} {base t0 : Nat} {l : Launch} (hT : l.stackTraces = false) (a0 : Nat) (x1 : Int32) (x2 : Int32) (x3 : Int32) (h : zz_H) (n : Nat) {r0 : (Int32 ⊕ Nat)} {hF : zz_H} (hf : f_X9_cover a0 x1 x2 x3 h = some (r0, hF)) : zz_MX D dA base t0 l yX9_cover cX9_cover 6 (some .int) rm_X9_cover [.ref a0, .int x1, .int x2, .int x3] h n (zz_ov (fun v : Int32 => some (Value.int v)) r0) hF n := by
  refine vx_ofW (cc := cX9_cover) (maxL := 6) (ret := (some .int)) (by decide +kernel) rfl ?_
  intro p e s m args below meth c s₁ B hml hE hv
  obtain ⟨rfl, hP, hK⟩ := hv
  have X : zz_X D dA base t0 "Springseat" cX9_cover 6 (some .int) l p s m meth c := ⟨B.exec, B.bytes, hml, B.returns, findClass_of_methodNamed B.named, B.notSynchronized, hT, by rw [hP.1]; exact hP.2.1, hK⟩
  have hx := X.1
  have hb := X.2.1
  have hown := X.2.2.2.2.1
  have hR : zz_R D dA base h n s s.heap [] := ⟨hP, va_S.rf⟩
  have hl := lv_entry ([.ref a0, .int x1, .int x2, .int x3]) (n := 6) (by exact Nat.le_of_ble_eq_true rfl)
  rw [lg_entry_eq]
  generalize (lg_sl ([.ref a0, .int x1, .int x2, .int x3]) ++ List.replicate (6 - (lg_sl ([.ref a0, .int x1, .int x2, .int x3])).length) Slot.unset).toArray = ls at hl ⊢
  have hl : lv_has ls 6 [(0, .ref a0), (1, .int x1), (2, .int x2), (3, .int x3)] := hl
  unfold f_X9_cover at hf
  refine lv_aload_n hx hb dX9_cover_0 rfl (lv_at hl 0 rfl) ?_
  refine lv_iload_n hx hb dX9_cover_1 rfl (lv_at hl 1 rfl) ?_
  obtain ⟨fs2, ho2, hf⟩ := zz_obS_i hf
  refine zx_cV X hE hR hl.1 (As := [.int x1]) (rest := []) (C := RX9) (T := TX9) (N := 6) (ov := (fun v : Option Nat => some (va_rf v))) (fun r hr => mt_X9_seatOf hT a0 x1 h n hr) rfl ho2 mf_X9_seatOf q_582 q_584 qs_9 ⟨Nat.le_of_ble_eq_true rfl, Nat.le_of_ble_eq_true rfl⟩ ⟨Nat.le_of_ble_eq_true rfl, Nat.le_of_ble_eq_true rfl⟩ rfl (Nat.le_of_ble_eq_true rfl) dX9_cover_2 hf (fun k e => by cases e; exact ⟨rfl, rfl, Nat.le_refl _⟩) (Nat.le_of_ble_eq_true rfl) (Nat.le_of_ble_eq_true rfl) (fun v2 hf H locs hR => ?_)
  refine W.eq (g2 := F0 m 5 ls [va_rf v2]) rfl ?_
  refine W.widen (k := 1) (n := 6) (Nat.le_of_ble_eq_true rfl) (Nat.le_of_ble_eq_true rfl) ?_
  refine zr_astore (i := 4) (lv' := [(4, va_rf v2), (0, .ref a0), (1, .int x1), (2, .int x2), (3, .int x3)]) hx hb dX9_cover_5 hl (by decide) rfl (fun ls hl => ?_)
  refine lv_aload_n hx hb dX9_cover_7 rfl (lv_at hl 1 rfl) ?_
  refine lv_iload_n hx hb dX9_cover_8 rfl (lv_at hl 3 rfl) ?_
  obtain ⟨fs9, ho9, hf⟩ := zz_obS_i hf
  refine zx_cV X hE hR hl.1 (As := [.int x2]) (rest := []) (C := RX9) (T := TX9) (N := 6) (ov := (fun v : Option Nat => some (va_rf v))) (fun r hr => mt_X9_clothOf hT a0 x2 h n hr) rfl ho9 mf_X9_clothOf q_773 q_775 qs_10 ⟨Nat.le_of_ble_eq_true rfl, Nat.le_of_ble_eq_true rfl⟩ ⟨Nat.le_of_ble_eq_true rfl, Nat.le_of_ble_eq_true rfl⟩ rfl (Nat.le_of_ble_eq_true rfl) dX9_cover_9 hf (fun k e => by cases e; exact ⟨rfl, rfl, Nat.le_refl _⟩) (Nat.le_of_ble_eq_true rfl) (Nat.le_of_ble_eq_true rfl) (fun v9 hf H locs hR => ?_)
  refine W.eq (g2 := F0 m 12 ls [va_rf v9]) rfl ?_
  refine W.widen (k := 2) (n := 12) (Nat.le_of_ble_eq_true rfl) (Nat.le_of_ble_eq_true rfl) ?_
  refine zr_astore (i := 5) (lv' := [(5, va_rf v9), (4, va_rf v2), (0, .ref a0), (1, .int x1), (2, .int x2), (3, .int x3)]) hx hb dX9_cover_12 hl (by decide) (by simp [zz_cat, zz_catI, zz_catR, zz_catJ, zz_catF, zz_catD]) (fun ls hl => ?_)
  refine lv_iload_n hx hb dX9_cover_14 rfl (lv_at hl 5 rfl) ?_
  refine lv_iconst (v := (0 : Int32)) hx hb dX9_cover_15 (by decide) ?_
  refine zr_aload hx hb dX9_cover_16 (lv_at hl 0 rfl) ?_
  refine zr_giN X hR (r := v9) fn_X9_157 dX9_cover_18 hf (fun v18 hf => ?_)
  refine lv_iconst (v := (1 : Int32)) hx hb dX9_cover_21 (by decide) ?_
  refine lv_isub hx hb dX9_cover_22 ?_
  refine zx_cS X hE hR hl.1 (As := [.int x3, .int (0 : Int32), .int (v18 - (1 : Int32))]) (rest := []) (ov := (fun _ : Unit => (none : Option Value))) (fun r hr => mt_X9_needRange hT x3 (0 : Int32) (v18 - (1 : Int32)) h n hr) mf_X9_needRange q_344 q_345 ⟨Nat.le_of_ble_eq_true rfl, Nat.le_of_ble_eq_true rfl⟩ ⟨Nat.le_of_ble_eq_true rfl, Nat.le_of_ble_eq_true rfl⟩ rfl (Nat.le_of_ble_eq_true rfl) dX9_cover_23 hf (fun k e => by cases e; exact ⟨rfl, rfl, Nat.le_refl _⟩) (Nat.le_of_ble_eq_true rfl) (Nat.le_of_ble_eq_true rfl) (fun v23 hf H locs hR => ?_)
  refine W.eq (g2 := F0 m 26 ls []) rfl ?_
  refine W.widen (k := 3) (n := 18) (Nat.le_of_ble_eq_true rfl) (Nat.le_of_ble_eq_true rfl) ?_
  refine zr_aload hx hb dX9_cover_26 (lv_at hl 1 rfl) ?_
  refine lv_bipush (v := (99 : Int32)) hx hb dX9_cover_28 (by decide) ?_
  refine zx_cS X hE hR hl.1 (As := [va_rf v2, .int (99 : Int32)]) (rest := []) (ov := (fun _ : Unit => (none : Option Value))) (fun r hr => mt_X9_needNext hT v2 (99 : Int32) h n hr) mf_X9_needNext q_605 q_606 ⟨Nat.le_of_ble_eq_true rfl, Nat.le_of_ble_eq_true rfl⟩ ⟨Nat.le_of_ble_eq_true rfl, Nat.le_of_ble_eq_true rfl⟩ rfl (Nat.le_of_ble_eq_true rfl) dX9_cover_30 hf (fun k e => by cases e; exact ⟨rfl, rfl, Nat.le_refl _⟩) (Nat.le_of_ble_eq_true rfl) (Nat.le_of_ble_eq_true rfl) (fun v30 hf H locs hR => ?_)
  refine W.eq (g2 := F0 m 33 ls []) rfl ?_
  refine W.widen (k := 4) (n := 24) (Nat.le_of_ble_eq_true rfl) (Nat.le_of_ble_eq_true rfl) ?_
  refine zr_aload hx hb dX9_cover_33 (lv_at hl 1 rfl) ?_
  refine zr_aload hx hb dX9_cover_35 (lv_at hl 0 rfl) ?_
  refine lv_iload_n hx hb dX9_cover_37 rfl (lv_at hl 5 rfl) ?_
  obtain ⟨b38, fs38, hr38, ho38, hf⟩ := zz_ob_i hf
  obtain ⟨v38, h38, hv38, hf⟩ := zz_b1_i hf
  refine zr_cV X hR hl.1 (As := [va_rf v9, .int x3]) (rest := []) (C := RX7) (T := TX7) (N := 6) (mt_X7_close hT b38 v9 x3 h n hv38) rfl ho38 mf_X7_close q_778 q_779 q_780 ⟨Nat.le_of_ble_eq_true rfl, Nat.le_of_ble_eq_true rfl⟩ ⟨Nat.le_of_ble_eq_true rfl, Nat.le_of_ble_eq_true rfl⟩ (by rw [hr38]; rfl) (Nat.le_of_ble_eq_true rfl) dX9_cover_38 (fun H locs hR => ?_)
  refine W.eq (g2 := F0 m 41 ls [.int v38]) rfl ?_
  refine lv_if_ne (tgt := 54) hx hb dX9_cover_41 (by decide) (fun c41 => ?_) (fun c41 => ?_)
  · replace hf := zz_neg c41 hf
    refine zr_aload hx hb dX9_cover_54 (lv_at hl 0 rfl) ?_
    refine zr_giN X hR (r := v9) fn_X9_173 dX9_cover_56 hf (fun v56 hf => ?_)
    cases hf
    exact zx_ret (zr_iret X hR dX9_cover_59 (Nat.le_of_ble_eq_true rfl) (Nat.le_of_ble_eq_true rfl))
  · replace hf := zz_pos c41 hf
    cases hf
    exact zx_throwX X hE hR hl.1 nse_0 nse_1 nse_2 nse_5 (k := 4) (names := ["java/lang/RuntimeException", "java/lang/Exception"]) tw_10_170.1 tw_10_170.2.1 rfl q_800 q_27 (List.mem_of_getElem? (i := 6) rfl) tw_10_170.2.2.1 tw_10_170.2.2.2 dX9_cover_44 dX9_cover_47 dX9_cover_48 dX9_cover_50 dX9_cover_53 (Nat.le_of_ble_eq_true rfl) ⟨Nat.le_of_ble_eq_true rfl, Nat.le_of_ble_eq_true rfl⟩ ⟨Nat.le_of_ble_eq_true rfl, Nat.le_of_ble_eq_true rfl⟩ (Nat.le_of_ble_eq_true rfl) (Nat.le_of_ble_eq_true rfl) (Nat.le_refl _)
def rm_X9_sign : Room := { frames := 8, cells := 2, slots := 12, locals := 132 }
theorem mf_X9_sign : zz_Mf yX9_sign cX9_sign 3 (some .int) 1 := ⟨q_822, q_1, by decide +kernel, by decide +kernel, by decide +kernel⟩
set_option maxHeartbeats 4000000 in
set_option maxRecDepth 100000 in
theorem mt_X9_sign {D : va_G} {dA : Nat → ClassId} {base t0 : Nat} {l : Launch} (hT : l.stackTraces = false) (a0 : Nat) (x1 : Int32) (h : zz_H) (n : Nat) {r0 : (Int32 ⊕ Nat)} {hF : zz_H} (hf : f_X9_sign a0 x1 h = some (r0, hF)) : zz_MX D dA base t0 l yX9_sign cX9_sign 3 (some .int) rm_X9_sign [.ref a0, .int x1] h n (zz_ov (fun v : Int32 => some (Value.int v)) r0) hF n := by
  refine vx_ofW (cc := cX9_sign) (maxL := 3) (ret := (some .int)) (by decide +kernel) rfl ?_
  intro p e s m args below meth c s₁ B hml hE hv
  obtain ⟨rfl, hP, hK⟩ := hv
  have X : zz_X D dA base t0 "Springseat" cX9_sign 3 (some .int) l p s m meth c := ⟨B.exec, B.bytes, hml, B.returns, findClass_of_methodNamed B.named, B.notSynchronized, hT, by rw [hP.1]; exact hP.2.1, hK⟩
  have hx := X.1
  have hb := X.2.1
  have hown := X.2.2.2.2.1
  have hR : zz_R D dA base h n s s.heap [] := ⟨hP, va_S.rf⟩
  have hl := lv_entry ([.ref a0, .int x1]) (n := 3) (by exact Nat.le_of_ble_eq_true rfl)
  rw [lg_entry_eq]
  generalize (lg_sl ([.ref a0, .int x1]) ++ List.replicate (3 - (lg_sl ([.ref a0, .int x1])).length) Slot.unset).toArray = ls at hl ⊢
  have hl : lv_has ls 3 [(0, .ref a0), (1, .int x1)] := hl
  unfold f_X9_sign at hf
  refine lv_aload_n hx hb dX9_sign_0 rfl (lv_at hl 0 rfl) ?_
  refine lv_iload_n hx hb dX9_sign_1 rfl (lv_at hl 1 rfl) ?_
  obtain ⟨fs2, ho2, hf⟩ := zz_obS_i hf
  refine zx_cV X hE hR hl.1 (As := [.int x1]) (rest := []) (C := RX9) (T := TX9) (N := 6) (ov := (fun v : Option Nat => some (va_rf v))) (fun r hr => mt_X9_seatOf hT a0 x1 h n hr) rfl ho2 mf_X9_seatOf q_582 q_584 qs_9 ⟨Nat.le_of_ble_eq_true rfl, Nat.le_of_ble_eq_true rfl⟩ ⟨Nat.le_of_ble_eq_true rfl, Nat.le_of_ble_eq_true rfl⟩ rfl (Nat.le_of_ble_eq_true rfl) dX9_sign_2 hf (fun k e => by cases e; exact ⟨rfl, rfl, Nat.le_refl _⟩) (Nat.le_of_ble_eq_true rfl) (Nat.le_of_ble_eq_true rfl) (fun v2 hf H locs hR => ?_)
  refine W.eq (g2 := F0 m 5 ls [va_rf v2]) rfl ?_
  refine W.widen (k := 1) (n := 6) (Nat.le_of_ble_eq_true rfl) (Nat.le_of_ble_eq_true rfl) ?_
  refine zr_astore_n (i := 2) (lv' := [(2, va_rf v2), (0, .ref a0), (1, .int x1)]) hx hb dX9_sign_5 rfl hl (by decide) rfl (fun ls hl => ?_)
  refine zr_aload_n hx hb dX9_sign_6 rfl (lv_at hl 0 rfl) ?_
  refine zr_gqN X hR (r := v2) fn_X9_76 dX9_sign_7 hf (fun v7 hf => ?_)
  obtain ⟨b10, fs10, hr10, ho10, hf⟩ := zz_ob_i hf
  obtain ⟨v10, hv10, hf⟩ := zz_b_i hf
  refine zr_cV X hR hl.1 (As := []) (rest := []) (C := RX8) (T := TX8) (N := 3) (mt_X8_allSigned hT b10 h n hv10) rfl ho10 mf_X8_allSigned q_674 q_613 q_614 ⟨Nat.le_of_ble_eq_true rfl, Nat.le_of_ble_eq_true rfl⟩ ⟨Nat.le_of_ble_eq_true rfl, Nat.le_of_ble_eq_true rfl⟩ (by rw [hr10]; rfl) (Nat.le_of_ble_eq_true rfl) dX9_sign_10 (fun H locs hR => ?_)
  refine W.eq (g2 := F0 m 13 ls [.int v10]) rfl ?_
  refine lv_if_eq (tgt := 26) hx hb dX9_sign_13 (by decide) (fun c13 => ?_) (fun c13 => ?_)
  · replace hf := zz_pos c13 hf
    refine zr_aload_n hx hb dX9_sign_26 rfl (lv_at hl 0 rfl) ?_
    refine zr_gqN X hR (r := v2) fn_X9_76 dX9_sign_27 hf (fun v27 hf => ?_)
    obtain ⟨b30, fs30, hr30, ho30, hf⟩ := zz_ob_i hf
    obtain ⟨v30, h30, hv30, hf⟩ := zz_b1_i hf
    refine zr_cV X hR hl.1 (As := []) (rest := []) (C := RX8) (T := TX8) (N := 3) (mt_X8_signLast hT b30 h n hv30) rfl ho30 mf_X8_signLast q_824 q_825 q_826 ⟨Nat.le_of_ble_eq_true rfl, Nat.le_of_ble_eq_true rfl⟩ ⟨Nat.le_of_ble_eq_true rfl, Nat.le_of_ble_eq_true rfl⟩ (by rw [hr30]; rfl) (Nat.le_of_ble_eq_true rfl) dX9_sign_30 (fun H locs hR => ?_)
    refine W.eq (g2 := F0 m 33 ls [.int v30]) rfl ?_
    cases hf
    exact zx_ret (zr_iret X hR dX9_sign_33 (Nat.le_of_ble_eq_true rfl) (Nat.le_of_ble_eq_true rfl))
  · replace hf := zz_neg c13 hf
    cases hf
    exact zx_throw X hE hR hl.1 (k := 3) (names := ["java/lang/RuntimeException", "java/lang/Exception"]) tw_10_184.1 tw_10_184.2.1 rfl q_616 q_25 (List.mem_of_getElem? (i := 7) rfl) tw_10_184.2.2.1 tw_10_184.2.2.2 dX9_sign_16 dX9_sign_19 dX9_sign_20 dX9_sign_22 dX9_sign_25 (Nat.le_of_ble_eq_true rfl) ⟨Nat.le_of_ble_eq_true rfl, Nat.le_of_ble_eq_true rfl⟩ ⟨Nat.le_of_ble_eq_true rfl, Nat.le_of_ble_eq_true rfl⟩ (Nat.le_of_ble_eq_true rfl) (Nat.le_of_ble_eq_true rfl) (Nat.le_refl _)
def rm_X9_open : Room := { frames := 8, cells := 2, slots := 12, locals := 132 }
theorem mf_X9_open : zz_Mf yX9_open cX9_open 4 (some .int) 2 := ⟨q_834, q_1, by decide +kernel, by decide +kernel, by decide +kernel⟩
set_option maxHeartbeats 4000000 in
set_option maxRecDepth 100000 in
theorem mt_X9_open {D : va_G} {dA : Nat → ClassId} {base t0 : Nat} {l : Launch} (hT : l.stackTraces = false) (a0 : Nat) (x1 : Int32) (x2 : Int32) (h : zz_H) (n : Nat) {r0 : (Int32 ⊕ Nat)} {hF : zz_H} (hf : f_X9_open a0 x1 x2 h = some (r0, hF)) : zz_MX D dA base t0 l yX9_open cX9_open 4 (some .int) rm_X9_open [.ref a0, .int x1, .int x2] h n (zz_ov (fun v : Int32 => some (Value.int v)) r0) hF n := by
  refine vx_ofW (cc := cX9_open) (maxL := 4) (ret := (some .int)) (by decide +kernel) rfl ?_
  intro p e s m args below meth c s₁ B hml hE hv
  obtain ⟨rfl, hP, hK⟩ := hv
  have X : zz_X D dA base t0 "Springseat" cX9_open 4 (some .int) l p s m meth c := ⟨B.exec, B.bytes, hml, B.returns, findClass_of_methodNamed B.named, B.notSynchronized, hT, by rw [hP.1]; exact hP.2.1, hK⟩
  have hx := X.1
  have hb := X.2.1
  have hown := X.2.2.2.2.1
  have hR : zz_R D dA base h n s s.heap [] := ⟨hP, va_S.rf⟩
  have hl := lv_entry ([.ref a0, .int x1, .int x2]) (n := 4) (by exact Nat.le_of_ble_eq_true rfl)
  rw [lg_entry_eq]
  generalize (lg_sl ([.ref a0, .int x1, .int x2]) ++ List.replicate (4 - (lg_sl ([.ref a0, .int x1, .int x2])).length) Slot.unset).toArray = ls at hl ⊢
  have hl : lv_has ls 4 [(0, .ref a0), (1, .int x1), (2, .int x2)] := hl
  unfold f_X9_open at hf
  refine lv_aload_n hx hb dX9_open_0 rfl (lv_at hl 0 rfl) ?_
  refine lv_iload_n hx hb dX9_open_1 rfl (lv_at hl 1 rfl) ?_
  obtain ⟨fs2, ho2, hf⟩ := zz_obS_i hf
  refine zx_cV X hE hR hl.1 (As := [.int x1]) (rest := []) (C := RX9) (T := TX9) (N := 6) (ov := (fun v : Option Nat => some (va_rf v))) (fun r hr => mt_X9_seatOf hT a0 x1 h n hr) rfl ho2 mf_X9_seatOf q_582 q_584 qs_9 ⟨Nat.le_of_ble_eq_true rfl, Nat.le_of_ble_eq_true rfl⟩ ⟨Nat.le_of_ble_eq_true rfl, Nat.le_of_ble_eq_true rfl⟩ rfl (Nat.le_of_ble_eq_true rfl) dX9_open_2 hf (fun k e => by cases e; exact ⟨rfl, rfl, Nat.le_refl _⟩) (Nat.le_of_ble_eq_true rfl) (Nat.le_of_ble_eq_true rfl) (fun v2 hf H locs hR => ?_)
  refine W.eq (g2 := F0 m 5 ls [va_rf v2]) rfl ?_
  refine W.widen (k := 1) (n := 6) (Nat.le_of_ble_eq_true rfl) (Nat.le_of_ble_eq_true rfl) ?_
  refine zr_astore_n (i := 3) (lv' := [(3, va_rf v2), (0, .ref a0), (1, .int x1), (2, .int x2)]) hx hb dX9_open_5 rfl hl (by decide) rfl (fun ls hl => ?_)
  refine lv_iload_n hx hb dX9_open_6 rfl (lv_at hl 3 rfl) ?_
  refine lv_iconst (v := (0 : Int32)) hx hb dX9_open_7 (by decide) ?_
  refine zr_aload_n hx hb dX9_open_8 rfl (lv_at hl 0 rfl) ?_
  refine zr_gqN X hR (r := v2) fn_X9_76 dX9_open_9 hf (fun v9 hf => ?_)
  refine zr_giN X hR (r := v9) fn_X9_188 dX9_open_12 hf (fun v12 hf => ?_)
  refine zx_cS X hE hR hl.1 (As := [.int x2, .int (0 : Int32), .int v12]) (rest := []) (ov := (fun _ : Unit => (none : Option Value))) (fun r hr => mt_X9_needRange hT x2 (0 : Int32) v12 h n hr) mf_X9_needRange q_344 q_345 ⟨Nat.le_of_ble_eq_true rfl, Nat.le_of_ble_eq_true rfl⟩ ⟨Nat.le_of_ble_eq_true rfl, Nat.le_of_ble_eq_true rfl⟩ rfl (Nat.le_of_ble_eq_true rfl) dX9_open_15 hf (fun k e => by cases e; exact ⟨rfl, rfl, Nat.le_refl _⟩) (Nat.le_of_ble_eq_true rfl) (Nat.le_of_ble_eq_true rfl) (fun v15 hf H locs hR => ?_)
  refine W.eq (g2 := F0 m 18 ls []) rfl ?_
  refine W.widen (k := 2) (n := 12) (Nat.le_of_ble_eq_true rfl) (Nat.le_of_ble_eq_true rfl) ?_
  refine zr_aload_n hx hb dX9_open_18 rfl (lv_at hl 0 rfl) ?_
  refine lv_iload_n hx hb dX9_open_19 rfl (lv_at hl 3 rfl) ?_
  obtain ⟨b20, fs20, hr20, ho20, hf⟩ := zz_ob_i hf
  obtain ⟨v20, h20, hv20, hf⟩ := zz_b1_i hf
  refine zr_cV X hR hl.1 (As := [.int x2]) (rest := []) (C := RX7) (T := TX7) (N := 6) (mt_X7_openTo hT b20 x2 h n hv20) rfl ho20 mf_X7_openTo q_835 q_836 q_837 ⟨Nat.le_of_ble_eq_true rfl, Nat.le_of_ble_eq_true rfl⟩ ⟨Nat.le_of_ble_eq_true rfl, Nat.le_of_ble_eq_true rfl⟩ (by rw [hr20]; rfl) (Nat.le_of_ble_eq_true rfl) dX9_open_20 (fun H locs hR => ?_)
  refine W.eq (g2 := F0 m 23 ls [.int v20]) rfl ?_
  cases hf
  exact zx_ret (zr_iret X hR dX9_open_23 (Nat.le_of_ble_eq_true rfl) (Nat.le_of_ble_eq_true rfl))
def rm_X9_steps : Room := { frames := 8, cells := 1, slots := 6, locals := 132 }
theorem mf_X9_steps : zz_Mf yX9_steps cX9_steps 2 (some .int) 1 := ⟨q_883, q_1, by decide +kernel, by decide +kernel, by decide +kernel⟩
set_option maxHeartbeats 4000000 in
set_option maxRecDepth 100000 in
theorem mt_X9_steps {D : va_G} {dA : Nat → ClassId} {base t0 : Nat} {l : Launch} (hT : l.stackTraces = false) (a0 : Nat) (x1 : Int32) (h : zz_H) (n : Nat) {r0 : (Int32 ⊕ Nat)} (hf : f_X9_steps a0 x1 h = some r0) : zz_MX D dA base t0 l yX9_steps cX9_steps 2 (some .int) rm_X9_steps [.ref a0, .int x1] h n (zz_ov (fun v : Int32 => some (Value.int v)) r0) h n := by
  refine vx_ofW (cc := cX9_steps) (maxL := 2) (ret := (some .int)) (by decide +kernel) rfl ?_
  intro p e s m args below meth c s₁ B hml hE hv
  obtain ⟨rfl, hP, hK⟩ := hv
  have X : zz_X D dA base t0 "Springseat" cX9_steps 2 (some .int) l p s m meth c := ⟨B.exec, B.bytes, hml, B.returns, findClass_of_methodNamed B.named, B.notSynchronized, hT, by rw [hP.1]; exact hP.2.1, hK⟩
  have hx := X.1
  have hb := X.2.1
  have hown := X.2.2.2.2.1
  have hR : zz_R D dA base h n s s.heap [] := ⟨hP, va_S.rf⟩
  have hl := lv_entry ([.ref a0, .int x1]) (n := 2) (by exact Nat.le_of_ble_eq_true rfl)
  rw [lg_entry_eq]
  generalize (lg_sl ([.ref a0, .int x1]) ++ List.replicate (2 - (lg_sl ([.ref a0, .int x1])).length) Slot.unset).toArray = ls at hl ⊢
  have hl : lv_has ls 2 [(0, .ref a0), (1, .int x1)] := hl
  unfold f_X9_steps at hf
  refine lv_aload_n hx hb dX9_steps_0 rfl (lv_at hl 0 rfl) ?_
  refine lv_iload_n hx hb dX9_steps_1 rfl (lv_at hl 1 rfl) ?_
  obtain ⟨fs2, ho2, hf⟩ := zz_obS_i hf
  refine zx_cV X hE hR hl.1 (As := [.int x1]) (rest := []) (C := RX9) (T := TX9) (N := 6) (ov := (fun v : Option Nat => some (va_rf v))) (fun r hr => mt_X9_seatOf hT a0 x1 h n hr) rfl ho2 mf_X9_seatOf q_582 q_584 qs_9 ⟨Nat.le_of_ble_eq_true rfl, Nat.le_of_ble_eq_true rfl⟩ ⟨Nat.le_of_ble_eq_true rfl, Nat.le_of_ble_eq_true rfl⟩ rfl (Nat.le_of_ble_eq_true rfl) dX9_steps_2 hf (fun k e => by cases e; exact ⟨rfl, rfl, Nat.le_refl _⟩) (Nat.le_of_ble_eq_true rfl) (Nat.le_of_ble_eq_true rfl) (fun v2 hf H locs hR => ?_)
  refine W.eq (g2 := F0 m 5 ls [va_rf v2]) rfl ?_
  refine W.widen (k := 1) (n := 6) (Nat.le_of_ble_eq_true rfl) (Nat.le_of_ble_eq_true rfl) ?_
  refine zr_gqN X hR (r := v2) fn_X9_76 dX9_steps_5 hf (fun v5 hf => ?_)
  refine zr_giN X hR (r := v5) fn_X9_188 dX9_steps_8 hf (fun v8 hf => ?_)
  cases hf
  exact zx_ret (zr_iret X hR dX9_steps_11 (Nat.le_of_ble_eq_true rfl) (Nat.le_of_ble_eq_true rfl))
def rm_X9_needElement : Room := { frames := 6, cells := 1, slots := 6, locals := 90 }
theorem mf_X9_needElement : zz_Mf yX9_needElement cX9_needElement 2 none 2 := ⟨q_893, q_1, by decide +kernel, by decide +kernel, by decide +kernel⟩
set_option maxHeartbeats 4000000 in
set_option maxRecDepth 100000 in
theorem bk_X9_needElement_9 {D : va_G} {dA : Nat → ClassId} {base t0 : Nat} {l : Launch} {p : Program} {e : Env} {s : State} {m : MethodId} {args : Array Value} {below : List Frame} {meth : Method} {c : Code} (X : zz_X D dA base t0 "Springseat" cX9_needElement 2 none l p s m meth c) (hE : ∀ x ∈ c.exceptionTable.toList, False) (hT : l.stackTraces = false) {h : zz_H} {n : Nat} {H : Heap} {locs : List Loc} {ls : Array Slot} (hR : zz_R D dA base h n s H locs) (hl : lv_has ls 2 []) {r0 : (Unit ⊕ Nat)} (hf : f_X9_needElement_9 h = some r0) : W p l e rm_X9_needElement s m args below meth c H locs 0 0 (vx_MQ below (zz_Qo D dA base (zz_ov (fun _ : Unit => (none : Option Value)) r0) h n) (zz_Xo D dA base (zz_ov (fun _ : Unit => (none : Option Value)) r0) h n) args s rm_X9_needElement.cells rm_X9_needElement.slots (fun q => base ≤ q)) (F0 m 9 ls []) := by
  have hx := X.1
  have hb := X.2.1
  have hown := X.2.2.2.2.1
  unfold f_X9_needElement_9 at hf
  cases hf
  exact zx_throwWX X hE hR hl.1 nse_0 nse_1 nse_2 nse_5 (k := 4) (names := ["java/lang/RuntimeException", "java/lang/Exception"]) tw_10_170.1 tw_10_170.2.1 rfl q_800 q_27 (List.mem_of_getElem? (i := 8) rfl) tw_10_170.2.2.1 tw_10_170.2.2.2 dX9_needElement_9 dX9_needElement_12 dX9_needElement_13 dX9_needElement_16 dX9_needElement_19 (Nat.le_of_ble_eq_true rfl) ⟨Nat.le_of_ble_eq_true rfl, Nat.le_of_ble_eq_true rfl⟩ ⟨Nat.le_of_ble_eq_true rfl, Nat.le_of_ble_eq_true rfl⟩ (Nat.le_of_ble_eq_true rfl) (Nat.le_of_ble_eq_true rfl) (Nat.le_refl _)
set_option maxHeartbeats 4000000 in
set_option maxRecDepth 100000 in
theorem mt_X9_needElement {D : va_G} {dA : Nat → ClassId} {base t0 : Nat} {l : Launch} (hT : l.stackTraces = false) (x0 : Int32) (x1 : Int32) (h : zz_H) (n : Nat) {r0 : (Unit ⊕ Nat)} (hf : f_X9_needElement x0 x1 h = some r0) : zz_MX D dA base t0 l yX9_needElement cX9_needElement 2 none rm_X9_needElement [.int x0, .int x1] h n (zz_ov (fun _ : Unit => (none : Option Value)) r0) h n := by
  refine vx_ofW (cc := cX9_needElement) (maxL := 2) (ret := none) (by decide +kernel) rfl ?_
  intro p e s m args below meth c s₁ B hml hE hv
  obtain ⟨rfl, hP, hK⟩ := hv
  have X : zz_X D dA base t0 "Springseat" cX9_needElement 2 none l p s m meth c := ⟨B.exec, B.bytes, hml, B.returns, findClass_of_methodNamed B.named, B.notSynchronized, hT, by rw [hP.1]; exact hP.2.1, hK⟩
  have hx := X.1
  have hb := X.2.1
  have hown := X.2.2.2.2.1
  have hR : zz_R D dA base h n s s.heap [] := ⟨hP, va_S.rf⟩
  have hl := lv_entry ([.int x0, .int x1]) (n := 2) (by exact Nat.le_of_ble_eq_true rfl)
  rw [lg_entry_eq]
  generalize (lg_sl ([.int x0, .int x1]) ++ List.replicate (2 - (lg_sl ([.int x0, .int x1])).length) Slot.unset).toArray = ls at hl ⊢
  have hl : lv_has ls 2 [(0, .int x0), (1, .int x1)] := hl
  unfold f_X9_needElement at hf
  refine lv_iload_n hx hb dX9_needElement_0 rfl (lv_at hl 0 rfl) ?_
  refine lv_if_lt (tgt := 9) hx hb dX9_needElement_1 (by decide) (fun c1 => ?_) (fun c1 => ?_)
  · replace hf := zz_pos c1 hf
    exact bk_X9_needElement_9 X hE hT hR (lv_sub hl [] rfl) hf
  · replace hf := zz_neg c1 hf
    refine lv_iload_n hx hb dX9_needElement_4 rfl (lv_at hl 0 rfl) ?_
    refine lv_iload_n hx hb dX9_needElement_5 rfl (lv_at hl 1 rfl) ?_
    refine lv_icmp_lt (tgt := 20) hx hb dX9_needElement_6 (by decide) (fun c6 => ?_) (fun c6 => ?_)
    · replace hf := zz_pos c6 hf
      cases hf
      exact zx_ret (zr_vret X hR dX9_needElement_20 (Nat.le_of_ble_eq_true rfl) (Nat.le_of_ble_eq_true rfl))
    · replace hf := zz_neg c6 hf
      exact bk_X9_needElement_9 X hE hT hR (lv_sub hl [] rfl) hf
def rm_X9_step : Room := { frames := 8, cells := 2, slots := 12, locals := 132 }
theorem mf_X9_step : zz_Mf yX9_step cX9_step 4 (some .char) 2 := ⟨q_890, q_1, by decide +kernel, by decide +kernel, by decide +kernel⟩
set_option maxHeartbeats 4000000 in
set_option maxRecDepth 100000 in
theorem mt_X9_step {D : va_G} {dA : Nat → ClassId} {base t0 : Nat} {l : Launch} (hT : l.stackTraces = false) (a0 : Nat) (x1 : Int32) (x2 : Int32) (h : zz_H) (n : Nat) {r0 : (Int32 ⊕ Nat)} (hf : f_X9_step a0 x1 x2 h = some r0) : zz_MX D dA base t0 l yX9_step cX9_step 4 (some .char) rm_X9_step [.ref a0, .int x1, .int x2] h n (zz_ov (fun v : Int32 => some (Value.int v)) r0) h n := by
  refine vx_ofW (cc := cX9_step) (maxL := 4) (ret := (some .char)) (by decide +kernel) rfl ?_
  intro p e s m args below meth c s₁ B hml hE hv
  obtain ⟨rfl, hP, hK⟩ := hv
  have X : zz_X D dA base t0 "Springseat" cX9_step 4 (some .char) l p s m meth c := ⟨B.exec, B.bytes, hml, B.returns, findClass_of_methodNamed B.named, B.notSynchronized, hT, by rw [hP.1]; exact hP.2.1, hK⟩
  have hx := X.1
  have hb := X.2.1
  have hown := X.2.2.2.2.1
  have hR : zz_R D dA base h n s s.heap [] := ⟨hP, va_S.rf⟩
  have hl := lv_entry ([.ref a0, .int x1, .int x2]) (n := 4) (by exact Nat.le_of_ble_eq_true rfl)
  rw [lg_entry_eq]
  generalize (lg_sl ([.ref a0, .int x1, .int x2]) ++ List.replicate (4 - (lg_sl ([.ref a0, .int x1, .int x2])).length) Slot.unset).toArray = ls at hl ⊢
  have hl : lv_has ls 4 [(0, .ref a0), (1, .int x1), (2, .int x2)] := hl
  unfold f_X9_step at hf
  refine lv_aload_n hx hb dX9_step_0 rfl (lv_at hl 0 rfl) ?_
  refine lv_iload_n hx hb dX9_step_1 rfl (lv_at hl 1 rfl) ?_
  obtain ⟨fs2, ho2, hf⟩ := zz_obS_i hf
  refine zx_cV X hE hR hl.1 (As := [.int x1]) (rest := []) (C := RX9) (T := TX9) (N := 6) (ov := (fun v : Option Nat => some (va_rf v))) (fun r hr => mt_X9_seatOf hT a0 x1 h n hr) rfl ho2 mf_X9_seatOf q_582 q_584 qs_9 ⟨Nat.le_of_ble_eq_true rfl, Nat.le_of_ble_eq_true rfl⟩ ⟨Nat.le_of_ble_eq_true rfl, Nat.le_of_ble_eq_true rfl⟩ rfl (Nat.le_of_ble_eq_true rfl) dX9_step_2 hf (fun k e => by cases e; exact ⟨rfl, rfl, Nat.le_refl _⟩) (Nat.le_of_ble_eq_true rfl) (Nat.le_of_ble_eq_true rfl) (fun v2 hf H locs hR => ?_)
  refine W.eq (g2 := F0 m 5 ls [va_rf v2]) rfl ?_
  refine W.widen (k := 1) (n := 6) (Nat.le_of_ble_eq_true rfl) (Nat.le_of_ble_eq_true rfl) ?_
  refine zr_astore_n (i := 3) (lv' := [(3, va_rf v2), (0, .ref a0), (1, .int x1), (2, .int x2)]) hx hb dX9_step_5 rfl hl (by decide) rfl (fun ls hl => ?_)
  refine lv_iload_n hx hb dX9_step_6 rfl (lv_at hl 3 rfl) ?_
  refine zr_aload_n hx hb dX9_step_7 rfl (lv_at hl 0 rfl) ?_
  refine zr_gqN X hR (r := v2) fn_X9_76 dX9_step_8 hf (fun v8 hf => ?_)
  refine zr_giN X hR (r := v8) fn_X9_188 dX9_step_11 hf (fun v11 hf => ?_)
  refine zx_cS X hE hR hl.1 (As := [.int x2, .int v11]) (rest := []) (ov := (fun _ : Unit => (none : Option Value))) (fun r hr => mt_X9_needElement hT x2 v11 h n hr) mf_X9_needElement q_891 q_892 ⟨Nat.le_of_ble_eq_true rfl, Nat.le_of_ble_eq_true rfl⟩ ⟨Nat.le_of_ble_eq_true rfl, Nat.le_of_ble_eq_true rfl⟩ rfl (Nat.le_of_ble_eq_true rfl) dX9_step_14 hf (fun k e => by cases e; exact ⟨rfl, rfl, Nat.le_refl _⟩) (Nat.le_of_ble_eq_true rfl) (Nat.le_of_ble_eq_true rfl) (fun v14 hf H locs hR => ?_)
  refine W.eq (g2 := F0 m 17 ls []) rfl ?_
  refine W.widen (k := 2) (n := 12) (Nat.le_of_ble_eq_true rfl) (Nat.le_of_ble_eq_true rfl) ?_
  refine zr_aload_n hx hb dX9_step_17 rfl (lv_at hl 0 rfl) ?_
  refine zr_gqN X hR (r := v2) fn_X9_76 dX9_step_18 hf (fun v18 hf => ?_)
  refine lv_iload_n hx hb dX9_step_21 rfl (lv_at hl 3 rfl) ?_
  obtain ⟨b22, fs22, hr22, ho22, hf⟩ := zz_ob_i hf
  obtain ⟨v22, hv22, hf⟩ := zz_b_i hf
  refine zr_cV X hR hl.1 (As := [.int x2]) (rest := []) (C := RX8) (T := TX8) (N := 3) (mt_X8_letterAt hT b22 x2 h n hv22) rfl ho22 mf_X8_letterAt q_895 q_239 q_240 ⟨Nat.le_of_ble_eq_true rfl, Nat.le_of_ble_eq_true rfl⟩ ⟨Nat.le_of_ble_eq_true rfl, Nat.le_of_ble_eq_true rfl⟩ (by rw [hr22]; rfl) (Nat.le_of_ble_eq_true rfl) dX9_step_22 (fun H locs hR => ?_)
  refine W.eq (g2 := F0 m 25 ls [.int v22]) rfl ?_
  obtain ⟨hz25, hf⟩ := zz_gc_i hf
  cases hf
  exact zx_ret (zr_zret X hR (zz_nc hz25) dX9_step_25 (Nat.le_of_ble_eq_true rfl) (Nat.le_of_ble_eq_true rfl))
def rm_X9_isSigned : Room := { frames := 8, cells := 2, slots := 12, locals := 132 }
theorem mf_X9_isSigned : zz_Mf yX9_isSigned cX9_isSigned 4 (some .boolean) 2 := ⟨q_902, q_1, by decide +kernel, by decide +kernel, by decide +kernel⟩
set_option maxHeartbeats 4000000 in
set_option maxRecDepth 100000 in
theorem bk_X9_isSigned_33 {D : va_G} {dA : Nat → ClassId} {base t0 : Nat} {l : Launch} {p : Program} {e : Env} {s : State} {m : MethodId} {args : Array Value} {below : List Frame} {meth : Method} {c : Code} (X : zz_X D dA base t0 "Springseat" cX9_isSigned 4 (some .boolean) l p s m meth c) (hE : ∀ x ∈ c.exceptionTable.toList, False) (hT : l.stackTraces = false) {s0 : Int32} {h : zz_H} {n : Nat} {H : Heap} {locs : List Loc} {ls : Array Slot} (hR : zz_R D dA base h n s H locs) (hl : lv_has ls 4 []) {r0 : (Int32 ⊕ Nat)} (hf : f_X9_isSigned_33 s0 h = some r0) : W p l e rm_X9_isSigned s m args below meth c H locs 2 12 (vx_MQ below (zz_Qo D dA base (zz_ov (fun v : Int32 => some (Value.int v)) r0) h n) (zz_Xo D dA base (zz_ov (fun v : Int32 => some (Value.int v)) r0) h n) args s rm_X9_isSigned.cells rm_X9_isSigned.slots (fun q => base ≤ q)) (F0 m 33 ls [.int s0]) := by
  have hx := X.1
  have hb := X.2.1
  have hown := X.2.2.2.2.1
  unfold f_X9_isSigned_33 at hf
  obtain ⟨hz33, hf⟩ := zz_gz_i hf
  cases hf
  exact zx_ret (zr_zret X hR (zz_nz hz33) dX9_isSigned_33 (Nat.le_of_ble_eq_true rfl) (Nat.le_of_ble_eq_true rfl))
set_option maxHeartbeats 4000000 in
set_option maxRecDepth 100000 in
theorem mt_X9_isSigned {D : va_G} {dA : Nat → ClassId} {base t0 : Nat} {l : Launch} (hT : l.stackTraces = false) (a0 : Nat) (x1 : Int32) (x2 : Int32) (h : zz_H) (n : Nat) {r0 : (Int32 ⊕ Nat)} (hf : f_X9_isSigned a0 x1 x2 h = some r0) : zz_MX D dA base t0 l yX9_isSigned cX9_isSigned 4 (some .boolean) rm_X9_isSigned [.ref a0, .int x1, .int x2] h n (zz_ov (fun v : Int32 => some (Value.int v)) r0) h n := by
  refine vx_ofW (cc := cX9_isSigned) (maxL := 4) (ret := (some .boolean)) (by decide +kernel) rfl ?_
  intro p e s m args below meth c s₁ B hml hE hv
  obtain ⟨rfl, hP, hK⟩ := hv
  have X : zz_X D dA base t0 "Springseat" cX9_isSigned 4 (some .boolean) l p s m meth c := ⟨B.exec, B.bytes, hml, B.returns, findClass_of_methodNamed B.named, B.notSynchronized, hT, by rw [hP.1]; exact hP.2.1, hK⟩
  have hx := X.1
  have hb := X.2.1
  have hown := X.2.2.2.2.1
  have hR : zz_R D dA base h n s s.heap [] := ⟨hP, va_S.rf⟩
  have hl := lv_entry ([.ref a0, .int x1, .int x2]) (n := 4) (by exact Nat.le_of_ble_eq_true rfl)
  rw [lg_entry_eq]
  generalize (lg_sl ([.ref a0, .int x1, .int x2]) ++ List.replicate (4 - (lg_sl ([.ref a0, .int x1, .int x2])).length) Slot.unset).toArray = ls at hl ⊢
  have hl : lv_has ls 4 [(0, .ref a0), (1, .int x1), (2, .int x2)] := hl
  unfold f_X9_isSigned at hf
  refine lv_aload_n hx hb dX9_isSigned_0 rfl (lv_at hl 0 rfl) ?_
  refine lv_iload_n hx hb dX9_isSigned_1 rfl (lv_at hl 1 rfl) ?_
  obtain ⟨fs2, ho2, hf⟩ := zz_obS_i hf
  refine zx_cV X hE hR hl.1 (As := [.int x1]) (rest := []) (C := RX9) (T := TX9) (N := 6) (ov := (fun v : Option Nat => some (va_rf v))) (fun r hr => mt_X9_seatOf hT a0 x1 h n hr) rfl ho2 mf_X9_seatOf q_582 q_584 qs_9 ⟨Nat.le_of_ble_eq_true rfl, Nat.le_of_ble_eq_true rfl⟩ ⟨Nat.le_of_ble_eq_true rfl, Nat.le_of_ble_eq_true rfl⟩ rfl (Nat.le_of_ble_eq_true rfl) dX9_isSigned_2 hf (fun k e => by cases e; exact ⟨rfl, rfl, Nat.le_refl _⟩) (Nat.le_of_ble_eq_true rfl) (Nat.le_of_ble_eq_true rfl) (fun v2 hf H locs hR => ?_)
  refine W.eq (g2 := F0 m 5 ls [va_rf v2]) rfl ?_
  refine W.widen (k := 1) (n := 6) (Nat.le_of_ble_eq_true rfl) (Nat.le_of_ble_eq_true rfl) ?_
  refine zr_astore_n (i := 3) (lv' := [(3, va_rf v2), (0, .ref a0), (1, .int x1), (2, .int x2)]) hx hb dX9_isSigned_5 rfl hl (by decide) rfl (fun ls hl => ?_)
  refine lv_iload_n hx hb dX9_isSigned_6 rfl (lv_at hl 3 rfl) ?_
  refine zr_aload_n hx hb dX9_isSigned_7 rfl (lv_at hl 0 rfl) ?_
  refine zr_gqN X hR (r := v2) fn_X9_76 dX9_isSigned_8 hf (fun v8 hf => ?_)
  refine zr_giN X hR (r := v8) fn_X9_188 dX9_isSigned_11 hf (fun v11 hf => ?_)
  refine zx_cS X hE hR hl.1 (As := [.int x2, .int v11]) (rest := []) (ov := (fun _ : Unit => (none : Option Value))) (fun r hr => mt_X9_needElement hT x2 v11 h n hr) mf_X9_needElement q_891 q_892 ⟨Nat.le_of_ble_eq_true rfl, Nat.le_of_ble_eq_true rfl⟩ ⟨Nat.le_of_ble_eq_true rfl, Nat.le_of_ble_eq_true rfl⟩ rfl (Nat.le_of_ble_eq_true rfl) dX9_isSigned_14 hf (fun k e => by cases e; exact ⟨rfl, rfl, Nat.le_refl _⟩) (Nat.le_of_ble_eq_true rfl) (Nat.le_of_ble_eq_true rfl) (fun v14 hf H locs hR => ?_)
  refine W.eq (g2 := F0 m 17 ls []) rfl ?_
  refine W.widen (k := 2) (n := 12) (Nat.le_of_ble_eq_true rfl) (Nat.le_of_ble_eq_true rfl) ?_
  refine lv_iload_n hx hb dX9_isSigned_17 rfl (lv_at hl 3 rfl) ?_
  refine zr_aload_n hx hb dX9_isSigned_18 rfl (lv_at hl 0 rfl) ?_
  refine zr_gqN X hR (r := v2) fn_X9_76 dX9_isSigned_19 hf (fun v19 hf => ?_)
  refine zr_giN X hR (r := v19) fn_X9_201 dX9_isSigned_22 hf (fun v22 hf => ?_)
  refine lv_icmp_ge (tgt := 32) hx hb dX9_isSigned_25 (by decide) (fun c25 => ?_) (fun c25 => ?_)
  · replace hf := zz_pos c25 hf
    refine lv_iconst (v := (0 : Int32)) hx hb dX9_isSigned_32 (by decide) ?_
    exact bk_X9_isSigned_33 X hE hT hR (lv_sub hl [] rfl) hf
  · replace hf := zz_neg c25 hf
    refine lv_iconst (v := (1 : Int32)) hx hb dX9_isSigned_28 (by decide) ?_
    refine lv_goto (tgt := 33) hx hb dX9_isSigned_29 (by decide) ?_
    exact bk_X9_isSigned_33 X hE hT hR (lv_sub hl [] rfl) hf
def rm_X9_isClosed : Room := { frames := 8, cells := 1, slots := 6, locals := 132 }
theorem mf_X9_isClosed : zz_Mf yX9_isClosed cX9_isClosed 2 (some .boolean) 1 := ⟨q_909, q_1, by decide +kernel, by decide +kernel, by decide +kernel⟩
set_option maxHeartbeats 4000000 in
set_option maxRecDepth 100000 in
theorem mt_X9_isClosed {D : va_G} {dA : Nat → ClassId} {base t0 : Nat} {l : Launch} (hT : l.stackTraces = false) (a0 : Nat) (x1 : Int32) (h : zz_H) (n : Nat) {r0 : (Int32 ⊕ Nat)} (hf : f_X9_isClosed a0 x1 h = some r0) : zz_MX D dA base t0 l yX9_isClosed cX9_isClosed 2 (some .boolean) rm_X9_isClosed [.ref a0, .int x1] h n (zz_ov (fun v : Int32 => some (Value.int v)) r0) h n := by
  refine vx_ofW (cc := cX9_isClosed) (maxL := 2) (ret := (some .boolean)) (by decide +kernel) rfl ?_
  intro p e s m args below meth c s₁ B hml hE hv
  obtain ⟨rfl, hP, hK⟩ := hv
  have X : zz_X D dA base t0 "Springseat" cX9_isClosed 2 (some .boolean) l p s m meth c := ⟨B.exec, B.bytes, hml, B.returns, findClass_of_methodNamed B.named, B.notSynchronized, hT, by rw [hP.1]; exact hP.2.1, hK⟩
  have hx := X.1
  have hb := X.2.1
  have hown := X.2.2.2.2.1
  have hR : zz_R D dA base h n s s.heap [] := ⟨hP, va_S.rf⟩
  have hl := lv_entry ([.ref a0, .int x1]) (n := 2) (by exact Nat.le_of_ble_eq_true rfl)
  rw [lg_entry_eq]
  generalize (lg_sl ([.ref a0, .int x1]) ++ List.replicate (2 - (lg_sl ([.ref a0, .int x1])).length) Slot.unset).toArray = ls at hl ⊢
  have hl : lv_has ls 2 [(0, .ref a0), (1, .int x1)] := hl
  unfold f_X9_isClosed at hf
  refine lv_aload_n hx hb dX9_isClosed_0 rfl (lv_at hl 0 rfl) ?_
  refine lv_iload_n hx hb dX9_isClosed_1 rfl (lv_at hl 1 rfl) ?_
  obtain ⟨fs2, ho2, hf⟩ := zz_obS_i hf
  refine zx_cV X hE hR hl.1 (As := [.int x1]) (rest := []) (C := RX9) (T := TX9) (N := 6) (ov := (fun v : Option Nat => some (va_rf v))) (fun r hr => mt_X9_seatOf hT a0 x1 h n hr) rfl ho2 mf_X9_seatOf q_582 q_584 qs_9 ⟨Nat.le_of_ble_eq_true rfl, Nat.le_of_ble_eq_true rfl⟩ ⟨Nat.le_of_ble_eq_true rfl, Nat.le_of_ble_eq_true rfl⟩ rfl (Nat.le_of_ble_eq_true rfl) dX9_isClosed_2 hf (fun k e => by cases e; exact ⟨rfl, rfl, Nat.le_refl _⟩) (Nat.le_of_ble_eq_true rfl) (Nat.le_of_ble_eq_true rfl) (fun v2 hf H locs hR => ?_)
  refine W.eq (g2 := F0 m 5 ls [va_rf v2]) rfl ?_
  refine W.widen (k := 1) (n := 6) (Nat.le_of_ble_eq_true rfl) (Nat.le_of_ble_eq_true rfl) ?_
  obtain ⟨b5, fs5, hr5, ho5, hf⟩ := zz_ob_i hf
  obtain ⟨v5, hv5, hf⟩ := zz_b_i hf
  refine zr_cV X hR hl.1 (As := []) (rest := []) (C := RX7) (T := TX7) (N := 6) (mt_X7_hasCover hT b5 h n hv5) rfl ho5 mf_X7_hasCover q_910 q_911 q_912 ⟨Nat.le_of_ble_eq_true rfl, Nat.le_of_ble_eq_true rfl⟩ ⟨Nat.le_of_ble_eq_true rfl, Nat.le_of_ble_eq_true rfl⟩ (by rw [hr5]; rfl) (Nat.le_of_ble_eq_true rfl) dX9_isClosed_5 (fun H locs hR => ?_)
  refine W.eq (g2 := F0 m 8 ls [.int v5]) rfl ?_
  obtain ⟨hz8, hf⟩ := zz_gz_i hf
  cases hf
  exact zx_ret (zr_zret X hR (zz_nz hz8) dX9_isClosed_8 (Nat.le_of_ble_eq_true rfl) (Nat.le_of_ble_eq_true rfl))
def rm_X9_stands : Room := { frames := 9, cells := 3, slots := 18, locals := 154 }
theorem mf_X9_stands : zz_Mf yX9_stands cX9_stands 4 (some .int) 2 := ⟨q_921, q_1, by decide +kernel, by decide +kernel, by decide +kernel⟩
set_option maxHeartbeats 4000000 in
set_option maxRecDepth 100000 in
theorem mt_X9_stands {D : va_G} {dA : Nat → ClassId} {base t0 : Nat} {l : Launch} (hT : l.stackTraces = false) (a0 : Nat) (x1 : Int32) (x2 : Int32) (h : zz_H) (n : Nat) {r0 : (Int32 ⊕ Nat)} (hf : f_X9_stands a0 x1 x2 h = some r0) : zz_MX D dA base t0 l yX9_stands cX9_stands 4 (some .int) rm_X9_stands [.ref a0, .int x1, .int x2] h n (zz_ov (fun v : Int32 => some (Value.int v)) r0) h n := by
  refine vx_ofW (cc := cX9_stands) (maxL := 4) (ret := (some .int)) (by decide +kernel) rfl ?_
  intro p e s m args below meth c s₁ B hml hE hv
  obtain ⟨rfl, hP, hK⟩ := hv
  have X : zz_X D dA base t0 "Springseat" cX9_stands 4 (some .int) l p s m meth c := ⟨B.exec, B.bytes, hml, B.returns, findClass_of_methodNamed B.named, B.notSynchronized, hT, by rw [hP.1]; exact hP.2.1, hK⟩
  have hx := X.1
  have hb := X.2.1
  have hown := X.2.2.2.2.1
  have hR : zz_R D dA base h n s s.heap [] := ⟨hP, va_S.rf⟩
  have hl := lv_entry ([.ref a0, .int x1, .int x2]) (n := 4) (by exact Nat.le_of_ble_eq_true rfl)
  rw [lg_entry_eq]
  generalize (lg_sl ([.ref a0, .int x1, .int x2]) ++ List.replicate (4 - (lg_sl ([.ref a0, .int x1, .int x2])).length) Slot.unset).toArray = ls at hl ⊢
  have hl : lv_has ls 4 [(0, .ref a0), (1, .int x1), (2, .int x2)] := hl
  unfold f_X9_stands at hf
  refine lv_aload_n hx hb dX9_stands_0 rfl (lv_at hl 0 rfl) ?_
  refine lv_iload_n hx hb dX9_stands_1 rfl (lv_at hl 1 rfl) ?_
  obtain ⟨fs2, ho2, hf⟩ := zz_obS_i hf
  refine zx_cV X hE hR hl.1 (As := [.int x1]) (rest := []) (C := RX9) (T := TX9) (N := 6) (ov := (fun v : Option Nat => some (va_rf v))) (fun r hr => mt_X9_seatOf hT a0 x1 h n hr) rfl ho2 mf_X9_seatOf q_582 q_584 qs_9 ⟨Nat.le_of_ble_eq_true rfl, Nat.le_of_ble_eq_true rfl⟩ ⟨Nat.le_of_ble_eq_true rfl, Nat.le_of_ble_eq_true rfl⟩ rfl (Nat.le_of_ble_eq_true rfl) dX9_stands_2 hf (fun k e => by cases e; exact ⟨rfl, rfl, Nat.le_refl _⟩) (Nat.le_of_ble_eq_true rfl) (Nat.le_of_ble_eq_true rfl) (fun v2 hf H locs hR => ?_)
  refine W.eq (g2 := F0 m 5 ls [va_rf v2]) rfl ?_
  refine W.widen (k := 1) (n := 6) (Nat.le_of_ble_eq_true rfl) (Nat.le_of_ble_eq_true rfl) ?_
  refine zr_astore_n (i := 3) (lv' := [(3, va_rf v2), (0, .ref a0), (1, .int x1), (2, .int x2)]) hx hb dX9_stands_5 rfl hl (by decide) rfl (fun ls hl => ?_)
  refine zr_aload_n hx hb dX9_stands_6 rfl (lv_at hl 0 rfl) ?_
  refine lv_iload_n hx hb dX9_stands_7 rfl (lv_at hl 3 rfl) ?_
  refine zx_cS X hE hR hl.1 (As := [va_rf v2, .int x2]) (rest := []) (ov := (fun _ : Unit => (none : Option Value))) (fun r hr => mt_X9_needCell hT v2 x2 h n hr) mf_X9_needCell q_661 q_662 ⟨Nat.le_of_ble_eq_true rfl, Nat.le_of_ble_eq_true rfl⟩ ⟨Nat.le_of_ble_eq_true rfl, Nat.le_of_ble_eq_true rfl⟩ rfl (Nat.le_of_ble_eq_true rfl) dX9_stands_8 hf (fun k e => by cases e; exact ⟨rfl, rfl, Nat.le_refl _⟩) (Nat.le_of_ble_eq_true rfl) (Nat.le_of_ble_eq_true rfl) (fun v8 hf H locs hR => ?_)
  refine W.eq (g2 := F0 m 11 ls []) rfl ?_
  refine W.widen (k := 3) (n := 18) (Nat.le_of_ble_eq_true rfl) (Nat.le_of_ble_eq_true rfl) ?_
  refine zr_aload_n hx hb dX9_stands_11 rfl (lv_at hl 0 rfl) ?_
  refine zr_gqN X hR (r := v2) fn_X9_66 dX9_stands_12 hf (fun v12 hf => ?_)
  refine lv_iload_n hx hb dX9_stands_15 rfl (lv_at hl 3 rfl) ?_
  obtain ⟨b16, fs16, hr16, ho16, hf⟩ := zz_ob_i hf
  obtain ⟨v16, hv16, hf⟩ := zz_b_i hf
  refine zr_cV X hR hl.1 (As := [.int x2]) (rest := []) (C := RX3) (T := TX3) (N := 7) (mt_X3_heightAt hT b16 x2 h n hv16) rfl ho16 mf_X3_heightAt q_922 q_210 q_211 ⟨Nat.le_of_ble_eq_true rfl, Nat.le_of_ble_eq_true rfl⟩ ⟨Nat.le_of_ble_eq_true rfl, Nat.le_of_ble_eq_true rfl⟩ (by rw [hr16]; rfl) (Nat.le_of_ble_eq_true rfl) dX9_stands_16 (fun H locs hR => ?_)
  refine W.eq (g2 := F0 m 19 ls [.int v16]) rfl ?_
  cases hf
  exact zx_ret (zr_iret X hR dX9_stands_19 (Nat.le_of_ble_eq_true rfl) (Nat.le_of_ble_eq_true rfl))
def rm_X9_layerOf : Room := { frames := 7, cells := 1, slots := 6, locals := 111 }
theorem mf_X9_layerOf : zz_Mf yX9_layerOf cX9_layerOf 2 (some (.object "Springseat$Layer")) 2 := ⟨q_932, q_1, by decide +kernel, by decide +kernel, by decide +kernel⟩
set_option maxHeartbeats 4000000 in
set_option maxRecDepth 100000 in
theorem mt_X9_layerOf {D : va_G} {dA : Nat → ClassId} {base t0 : Nat} {l : Launch} (hT : l.stackTraces = false) (x0 : (Option Nat)) (x1 : Int32) (h : zz_H) (n : Nat) {r0 : ((Option Nat) ⊕ Nat)} (hf : f_X9_layerOf x0 x1 h = some r0) : zz_MX D dA base t0 l yX9_layerOf cX9_layerOf 2 (some (.object "Springseat$Layer")) rm_X9_layerOf [va_rf x0, .int x1] h n (zz_ov (fun v : Option Nat => some (va_rf v)) r0) h n := by
  refine vx_ofW (cc := cX9_layerOf) (maxL := 2) (ret := (some (.object "Springseat$Layer"))) (by decide +kernel) rfl ?_
  intro p e s m args below meth c s₁ B hml hE hv
  obtain ⟨rfl, hP, hK⟩ := hv
  have X : zz_X D dA base t0 "Springseat" cX9_layerOf 2 (some (.object "Springseat$Layer")) l p s m meth c := ⟨B.exec, B.bytes, hml, B.returns, findClass_of_methodNamed B.named, B.notSynchronized, hT, by rw [hP.1]; exact hP.2.1, hK⟩
  have hx := X.1
  have hb := X.2.1
  have hown := X.2.2.2.2.1
  have hR : zz_R D dA base h n s s.heap [] := ⟨hP, va_S.rf⟩
  have hl := lv_entry ([va_rf x0, .int x1]) (n := 2) (by cases x0 <;> exact Nat.le_of_ble_eq_true rfl)
  rw [lg_entry_eq]
  generalize (lg_sl ([va_rf x0, .int x1]) ++ List.replicate (2 - (lg_sl ([va_rf x0, .int x1])).length) Slot.unset).toArray = ls at hl ⊢
  have hl : lv_has ls 2 [(0, va_rf x0), (1, .int x1)] := by rw [show ([(0, va_rf x0), (1, .int x1)] : List (Nat × Value)) = lv_args 0 [va_rf x0, .int x1] from by cases x0 <;> rfl]; exact hl
  unfold f_X9_layerOf at hf
  refine lv_iload_n hx hb dX9_layerOf_0 rfl (lv_at hl 1 rfl) ?_
  refine zr_aload_n hx hb dX9_layerOf_1 rfl (lv_at hl 0 rfl) ?_
  refine zr_gqN X hR (r := x0) fn_X9_130 dX9_layerOf_2 hf (fun v2 hf => ?_)
  obtain ⟨b5, fs5, hr5, ho5, hf⟩ := zz_ob_i hf
  obtain ⟨v5, hv5, hf⟩ := zz_b_i hf
  refine zr_cV X hR hl.1 (As := []) (rest := [.int x1]) (C := RX2) (T := TX2) (N := 1) (mt_X2_count hT b5 h n hv5) rfl ho5 mf_X2_count q_933 q_934 q_935 ⟨Nat.le_of_ble_eq_true rfl, Nat.le_of_ble_eq_true rfl⟩ ⟨Nat.le_of_ble_eq_true rfl, Nat.le_of_ble_eq_true rfl⟩ (by rw [hr5]; rfl) (Nat.le_of_ble_eq_true rfl) dX9_layerOf_5 (fun H locs hR => ?_)
  refine W.eq (g2 := F0 m 8 ls [.int v5, .int x1]) rfl ?_
  refine zx_cS X hE hR hl.1 (As := [.int x1, .int v5]) (rest := []) (ov := (fun _ : Unit => (none : Option Value))) (fun r hr => mt_X9_needElement hT x1 v5 h n hr) mf_X9_needElement q_891 q_892 ⟨Nat.le_of_ble_eq_true rfl, Nat.le_of_ble_eq_true rfl⟩ ⟨Nat.le_of_ble_eq_true rfl, Nat.le_of_ble_eq_true rfl⟩ rfl (Nat.le_of_ble_eq_true rfl) dX9_layerOf_8 hf (fun k e => by cases e; exact ⟨rfl, rfl, Nat.le_refl _⟩) (Nat.le_of_ble_eq_true rfl) (Nat.le_of_ble_eq_true rfl) (fun v8 hf H locs hR => ?_)
  refine W.eq (g2 := F0 m 11 ls []) rfl ?_
  refine W.widen (k := 1) (n := 6) (Nat.le_of_ble_eq_true rfl) (Nat.le_of_ble_eq_true rfl) ?_
  refine zr_aload_n hx hb dX9_layerOf_11 rfl (lv_at hl 0 rfl) ?_
  refine zr_gqN X hR (r := x0) fn_X9_130 dX9_layerOf_12 hf (fun v12 hf => ?_)
  refine zr_gqN X hR (r := v12) fn_X9_371 dX9_layerOf_15 hf (fun v15 hf => ?_)
  refine lv_iload_n hx hb dX9_layerOf_18 rfl (lv_at hl 1 rfl) ?_
  obtain ⟨b19, fs19, hr19, ho19, hf⟩ := zz_ob_i hf
  obtain ⟨v19, hv19, hf⟩ := zz_b_i hf
  refine zr_cV X hR hl.1 (As := [.int x1]) (rest := []) (C := RJx4a65c) (T := TJx4a65c) (N := 3) (mt_Jx4a65c_get_915e3 hT b19 x1 h n hv19) rfl ho19 mf_Jx4a65c_get_915e3 q_181 q_182 q_183 ⟨Nat.le_of_ble_eq_true rfl, Nat.le_of_ble_eq_true rfl⟩ ⟨Nat.le_of_ble_eq_true rfl, Nat.le_of_ble_eq_true rfl⟩ (by rw [hr19]; rfl) (Nat.le_of_ble_eq_true rfl) dX9_layerOf_19 (fun H locs hR => ?_)
  refine W.eq (g2 := F0 m 22 ls [va_rf v19]) rfl ?_
  refine zr_cc X hR (ci := 7) (C := RX6) (T := TX6) (N := 6) (r := v19) rfl q_712 (Or.inr trivial) dX9_layerOf_22 hf (fun hf => ?_)
  cases hf
  exact zx_ret (zr_aret (Or.inl ⟨_, rfl⟩) X hR (r := _) dX9_layerOf_25 (Nat.le_of_ble_eq_true rfl) (Nat.le_of_ble_eq_true rfl))
def rm_X9_thick : Room := { frames := 8, cells := 2, slots := 12, locals := 132 }
theorem mf_X9_thick : zz_Mf yX9_thick cX9_thick 3 (some .int) 2 := ⟨q_929, q_1, by decide +kernel, by decide +kernel, by decide +kernel⟩
set_option maxHeartbeats 4000000 in
set_option maxRecDepth 100000 in
theorem mt_X9_thick {D : va_G} {dA : Nat → ClassId} {base t0 : Nat} {l : Launch} (hT : l.stackTraces = false) (a0 : Nat) (x1 : Int32) (x2 : Int32) (h : zz_H) (n : Nat) {r0 : (Int32 ⊕ Nat)} (hf : f_X9_thick a0 x1 x2 h = some r0) : zz_MX D dA base t0 l yX9_thick cX9_thick 3 (some .int) rm_X9_thick [.ref a0, .int x1, .int x2] h n (zz_ov (fun v : Int32 => some (Value.int v)) r0) h n := by
  refine vx_ofW (cc := cX9_thick) (maxL := 3) (ret := (some .int)) (by decide +kernel) rfl ?_
  intro p e s m args below meth c s₁ B hml hE hv
  obtain ⟨rfl, hP, hK⟩ := hv
  have X : zz_X D dA base t0 "Springseat" cX9_thick 3 (some .int) l p s m meth c := ⟨B.exec, B.bytes, hml, B.returns, findClass_of_methodNamed B.named, B.notSynchronized, hT, by rw [hP.1]; exact hP.2.1, hK⟩
  have hx := X.1
  have hb := X.2.1
  have hown := X.2.2.2.2.1
  have hR : zz_R D dA base h n s s.heap [] := ⟨hP, va_S.rf⟩
  have hl := lv_entry ([.ref a0, .int x1, .int x2]) (n := 3) (by exact Nat.le_of_ble_eq_true rfl)
  rw [lg_entry_eq]
  generalize (lg_sl ([.ref a0, .int x1, .int x2]) ++ List.replicate (3 - (lg_sl ([.ref a0, .int x1, .int x2])).length) Slot.unset).toArray = ls at hl ⊢
  have hl : lv_has ls 3 [(0, .ref a0), (1, .int x1), (2, .int x2)] := hl
  unfold f_X9_thick at hf
  refine lv_aload_n hx hb dX9_thick_0 rfl (lv_at hl 0 rfl) ?_
  refine lv_iload_n hx hb dX9_thick_1 rfl (lv_at hl 1 rfl) ?_
  obtain ⟨fs2, ho2, hf⟩ := zz_obS_i hf
  refine zx_cV X hE hR hl.1 (As := [.int x1]) (rest := []) (C := RX9) (T := TX9) (N := 6) (ov := (fun v : Option Nat => some (va_rf v))) (fun r hr => mt_X9_seatOf hT a0 x1 h n hr) rfl ho2 mf_X9_seatOf q_582 q_584 qs_9 ⟨Nat.le_of_ble_eq_true rfl, Nat.le_of_ble_eq_true rfl⟩ ⟨Nat.le_of_ble_eq_true rfl, Nat.le_of_ble_eq_true rfl⟩ rfl (Nat.le_of_ble_eq_true rfl) dX9_thick_2 hf (fun k e => by cases e; exact ⟨rfl, rfl, Nat.le_refl _⟩) (Nat.le_of_ble_eq_true rfl) (Nat.le_of_ble_eq_true rfl) (fun v2 hf H locs hR => ?_)
  refine W.eq (g2 := F0 m 5 ls [va_rf v2]) rfl ?_
  refine W.widen (k := 1) (n := 6) (Nat.le_of_ble_eq_true rfl) (Nat.le_of_ble_eq_true rfl) ?_
  refine lv_iload_n hx hb dX9_thick_5 rfl (lv_at hl 2 rfl) ?_
  refine zx_cS X hE hR hl.1 (As := [va_rf v2, .int x2]) (rest := []) (ov := (fun v : Option Nat => some (va_rf v))) (fun r hr => mt_X9_layerOf hT v2 x2 h n hr) mf_X9_layerOf q_930 q_931 ⟨Nat.le_of_ble_eq_true rfl, Nat.le_of_ble_eq_true rfl⟩ ⟨Nat.le_of_ble_eq_true rfl, Nat.le_of_ble_eq_true rfl⟩ rfl (Nat.le_of_ble_eq_true rfl) dX9_thick_6 hf (fun k e => by cases e; exact ⟨rfl, rfl, Nat.le_refl _⟩) (Nat.le_of_ble_eq_true rfl) (Nat.le_of_ble_eq_true rfl) (fun v6 hf H locs hR => ?_)
  refine W.eq (g2 := F0 m 9 ls [va_rf v6]) rfl ?_
  refine W.widen (k := 2) (n := 12) (Nat.le_of_ble_eq_true rfl) (Nat.le_of_ble_eq_true rfl) ?_
  refine zr_giN X hR (r := v6) fn_X9_214 dX9_thick_9 hf (fun v9 hf => ?_)
  cases hf
  exact zx_ret (zr_iret X hR dX9_thick_12 (Nat.le_of_ble_eq_true rfl) (Nat.le_of_ble_eq_true rfl))
def rm_X9_top : Room := { frames := 9, cells := 3, slots := 18, locals := 154 }
theorem mf_X9_top : zz_Mf yX9_top cX9_top 4 (some .int) 2 := ⟨q_943, q_1, by decide +kernel, by decide +kernel, by decide +kernel⟩
set_option maxHeartbeats 4000000 in
set_option maxRecDepth 100000 in
theorem mt_X9_top {D : va_G} {dA : Nat → ClassId} {base t0 : Nat} {l : Launch} (hT : l.stackTraces = false) (a0 : Nat) (x1 : Int32) (x2 : Int32) (h : zz_H) (n : Nat) {r0 : (Int32 ⊕ Nat)} (hf : f_X9_top a0 x1 x2 h = some r0) : zz_MX D dA base t0 l yX9_top cX9_top 4 (some .int) rm_X9_top [.ref a0, .int x1, .int x2] h n (zz_ov (fun v : Int32 => some (Value.int v)) r0) h n := by
  refine vx_ofW (cc := cX9_top) (maxL := 4) (ret := (some .int)) (by decide +kernel) rfl ?_
  intro p e s m args below meth c s₁ B hml hE hv
  obtain ⟨rfl, hP, hK⟩ := hv
  have X : zz_X D dA base t0 "Springseat" cX9_top 4 (some .int) l p s m meth c := ⟨B.exec, B.bytes, hml, B.returns, findClass_of_methodNamed B.named, B.notSynchronized, hT, by rw [hP.1]; exact hP.2.1, hK⟩
  have hx := X.1
  have hb := X.2.1
  have hown := X.2.2.2.2.1
  have hR : zz_R D dA base h n s s.heap [] := ⟨hP, va_S.rf⟩
  have hl := lv_entry ([.ref a0, .int x1, .int x2]) (n := 4) (by exact Nat.le_of_ble_eq_true rfl)
  rw [lg_entry_eq]
  generalize (lg_sl ([.ref a0, .int x1, .int x2]) ++ List.replicate (4 - (lg_sl ([.ref a0, .int x1, .int x2])).length) Slot.unset).toArray = ls at hl ⊢
  have hl : lv_has ls 4 [(0, .ref a0), (1, .int x1), (2, .int x2)] := hl
  unfold f_X9_top at hf
  refine lv_aload_n hx hb dX9_top_0 rfl (lv_at hl 0 rfl) ?_
  refine lv_iload_n hx hb dX9_top_1 rfl (lv_at hl 1 rfl) ?_
  obtain ⟨fs2, ho2, hf⟩ := zz_obS_i hf
  refine zx_cV X hE hR hl.1 (As := [.int x1]) (rest := []) (C := RX9) (T := TX9) (N := 6) (ov := (fun v : Option Nat => some (va_rf v))) (fun r hr => mt_X9_seatOf hT a0 x1 h n hr) rfl ho2 mf_X9_seatOf q_582 q_584 qs_9 ⟨Nat.le_of_ble_eq_true rfl, Nat.le_of_ble_eq_true rfl⟩ ⟨Nat.le_of_ble_eq_true rfl, Nat.le_of_ble_eq_true rfl⟩ rfl (Nat.le_of_ble_eq_true rfl) dX9_top_2 hf (fun k e => by cases e; exact ⟨rfl, rfl, Nat.le_refl _⟩) (Nat.le_of_ble_eq_true rfl) (Nat.le_of_ble_eq_true rfl) (fun v2 hf H locs hR => ?_)
  refine W.eq (g2 := F0 m 5 ls [va_rf v2]) rfl ?_
  refine W.widen (k := 1) (n := 6) (Nat.le_of_ble_eq_true rfl) (Nat.le_of_ble_eq_true rfl) ?_
  refine zr_astore_n (i := 3) (lv' := [(3, va_rf v2), (0, .ref a0), (1, .int x1), (2, .int x2)]) hx hb dX9_top_5 rfl hl (by decide) rfl (fun ls hl => ?_)
  refine zr_aload_n hx hb dX9_top_6 rfl (lv_at hl 0 rfl) ?_
  refine lv_iload_n hx hb dX9_top_7 rfl (lv_at hl 3 rfl) ?_
  refine zx_cS X hE hR hl.1 (As := [va_rf v2, .int x2]) (rest := []) (ov := (fun _ : Unit => (none : Option Value))) (fun r hr => mt_X9_needCell hT v2 x2 h n hr) mf_X9_needCell q_661 q_662 ⟨Nat.le_of_ble_eq_true rfl, Nat.le_of_ble_eq_true rfl⟩ ⟨Nat.le_of_ble_eq_true rfl, Nat.le_of_ble_eq_true rfl⟩ rfl (Nat.le_of_ble_eq_true rfl) dX9_top_8 hf (fun k e => by cases e; exact ⟨rfl, rfl, Nat.le_refl _⟩) (Nat.le_of_ble_eq_true rfl) (Nat.le_of_ble_eq_true rfl) (fun v8 hf H locs hR => ?_)
  refine W.eq (g2 := F0 m 11 ls []) rfl ?_
  refine W.widen (k := 3) (n := 18) (Nat.le_of_ble_eq_true rfl) (Nat.le_of_ble_eq_true rfl) ?_
  refine zr_aload_n hx hb dX9_top_11 rfl (lv_at hl 0 rfl) ?_
  refine lv_iload_n hx hb dX9_top_12 rfl (lv_at hl 3 rfl) ?_
  obtain ⟨b13, fs13, hr13, ho13, hf⟩ := zz_ob_i hf
  obtain ⟨v13, hv13, hf⟩ := zz_b_i hf
  refine zr_cV X hR hl.1 (As := [.int x2]) (rest := []) (C := RX7) (T := TX7) (N := 6) (mt_X7_topOf hT b13 x2 h n hv13) rfl ho13 mf_X7_topOf q_205 q_206 q_207 ⟨Nat.le_of_ble_eq_true rfl, Nat.le_of_ble_eq_true rfl⟩ ⟨Nat.le_of_ble_eq_true rfl, Nat.le_of_ble_eq_true rfl⟩ (by rw [hr13]; rfl) (Nat.le_of_ble_eq_true rfl) dX9_top_13 (fun H locs hR => ?_)
  refine W.eq (g2 := F0 m 16 ls [.int v13]) rfl ?_
  cases hf
  exact zx_ret (zr_iret X hR dX9_top_16 (Nat.le_of_ble_eq_true rfl) (Nat.le_of_ble_eq_true rfl))
def rm_X9_folds : Room := { frames := 8, cells := 1, slots := 6, locals := 132 }
theorem mf_X9_folds : zz_Mf yX9_folds cX9_folds 3 (some .int) 2 := ⟨q_950, q_1, by decide +kernel, by decide +kernel, by decide +kernel⟩
set_option maxHeartbeats 4000000 in
set_option maxRecDepth 100000 in
theorem mt_X9_folds {D : va_G} {dA : Nat → ClassId} {base t0 : Nat} {l : Launch} (hT : l.stackTraces = false) (a0 : Nat) (x1 : Int32) (x2 : Int32) (h : zz_H) (n : Nat) {r0 : (Int32 ⊕ Nat)} (hf : f_X9_folds a0 x1 x2 h = some r0) : zz_MX D dA base t0 l yX9_folds cX9_folds 3 (some .int) rm_X9_folds [.ref a0, .int x1, .int x2] h n (zz_ov (fun v : Int32 => some (Value.int v)) r0) h n := by
  refine vx_ofW (cc := cX9_folds) (maxL := 3) (ret := (some .int)) (by decide +kernel) rfl ?_
  intro p e s m args below meth c s₁ B hml hE hv
  obtain ⟨rfl, hP, hK⟩ := hv
  have X : zz_X D dA base t0 "Springseat" cX9_folds 3 (some .int) l p s m meth c := ⟨B.exec, B.bytes, hml, B.returns, findClass_of_methodNamed B.named, B.notSynchronized, hT, by rw [hP.1]; exact hP.2.1, hK⟩
  have hx := X.1
  have hb := X.2.1
  have hown := X.2.2.2.2.1
  have hR : zz_R D dA base h n s s.heap [] := ⟨hP, va_S.rf⟩
  have hl := lv_entry ([.ref a0, .int x1, .int x2]) (n := 3) (by exact Nat.le_of_ble_eq_true rfl)
  rw [lg_entry_eq]
  generalize (lg_sl ([.ref a0, .int x1, .int x2]) ++ List.replicate (3 - (lg_sl ([.ref a0, .int x1, .int x2])).length) Slot.unset).toArray = ls at hl ⊢
  have hl : lv_has ls 3 [(0, .ref a0), (1, .int x1), (2, .int x2)] := hl
  unfold f_X9_folds at hf
  refine lv_aload_n hx hb dX9_folds_0 rfl (lv_at hl 0 rfl) ?_
  refine lv_iload_n hx hb dX9_folds_1 rfl (lv_at hl 1 rfl) ?_
  obtain ⟨fs2, ho2, hf⟩ := zz_obS_i hf
  refine zx_cV X hE hR hl.1 (As := [.int x1]) (rest := []) (C := RX9) (T := TX9) (N := 6) (ov := (fun v : Option Nat => some (va_rf v))) (fun r hr => mt_X9_seatOf hT a0 x1 h n hr) rfl ho2 mf_X9_seatOf q_582 q_584 qs_9 ⟨Nat.le_of_ble_eq_true rfl, Nat.le_of_ble_eq_true rfl⟩ ⟨Nat.le_of_ble_eq_true rfl, Nat.le_of_ble_eq_true rfl⟩ rfl (Nat.le_of_ble_eq_true rfl) dX9_folds_2 hf (fun k e => by cases e; exact ⟨rfl, rfl, Nat.le_refl _⟩) (Nat.le_of_ble_eq_true rfl) (Nat.le_of_ble_eq_true rfl) (fun v2 hf H locs hR => ?_)
  refine W.eq (g2 := F0 m 5 ls [va_rf v2]) rfl ?_
  refine W.widen (k := 1) (n := 6) (Nat.le_of_ble_eq_true rfl) (Nat.le_of_ble_eq_true rfl) ?_
  refine lv_iload_n hx hb dX9_folds_5 rfl (lv_at hl 2 rfl) ?_
  obtain ⟨b6, fs6, hr6, ho6, hf⟩ := zz_ob_i hf
  obtain ⟨v6, hv6, hf⟩ := zz_b_i hf
  refine zr_cV X hR hl.1 (As := [.int x2]) (rest := []) (C := RX7) (T := TX7) (N := 6) (mt_X7_foldCount hT b6 x2 h n hv6) rfl ho6 mf_X7_foldCount q_951 q_952 q_953 ⟨Nat.le_of_ble_eq_true rfl, Nat.le_of_ble_eq_true rfl⟩ ⟨Nat.le_of_ble_eq_true rfl, Nat.le_of_ble_eq_true rfl⟩ (by rw [hr6]; rfl) (Nat.le_of_ble_eq_true rfl) dX9_folds_6 (fun H locs hR => ?_)
  refine W.eq (g2 := F0 m 9 ls [.int v6]) rfl ?_
  cases hf
  exact zx_ret (zr_iret X hR dX9_folds_9 (Nat.le_of_ble_eq_true rfl) (Nat.le_of_ble_eq_true rfl))
def rm_X9_buttonAt : Room := { frames := 9, cells := 4, slots := 24, locals := 154 }
theorem mf_X9_buttonAt : zz_Mf yX9_buttonAt cX9_buttonAt 5 (some .int) 2 := ⟨q_965, q_1, by decide +kernel, by decide +kernel, by decide +kernel⟩
set_option maxHeartbeats 4000000 in
set_option maxRecDepth 100000 in
theorem mt_X9_buttonAt {D : va_G} {dA : Nat → ClassId} {base t0 : Nat} {l : Launch} (hT : l.stackTraces = false) (a0 : Nat) (x1 : Int32) (x2 : Int32) (h : zz_H) (n : Nat) {r0 : (Int32 ⊕ Nat)} (hf : f_X9_buttonAt a0 x1 x2 h = some r0) : zz_MX D dA base t0 l yX9_buttonAt cX9_buttonAt 5 (some .int) rm_X9_buttonAt [.ref a0, .int x1, .int x2] h n (zz_ov (fun v : Int32 => some (Value.int v)) r0) h n := by
  refine vx_ofW (cc := cX9_buttonAt) (maxL := 5) (ret := (some .int)) (by decide +kernel) rfl ?_
  intro p e s m args below meth c s₁ B hml hE hv
  obtain ⟨rfl, hP, hK⟩ := hv
  have X : zz_X D dA base t0 "Springseat" cX9_buttonAt 5 (some .int) l p s m meth c := ⟨B.exec, B.bytes, hml, B.returns, findClass_of_methodNamed B.named, B.notSynchronized, hT, by rw [hP.1]; exact hP.2.1, hK⟩
  have hx := X.1
  have hb := X.2.1
  have hown := X.2.2.2.2.1
  have hR : zz_R D dA base h n s s.heap [] := ⟨hP, va_S.rf⟩
  have hl := lv_entry ([.ref a0, .int x1, .int x2]) (n := 5) (by exact Nat.le_of_ble_eq_true rfl)
  rw [lg_entry_eq]
  generalize (lg_sl ([.ref a0, .int x1, .int x2]) ++ List.replicate (5 - (lg_sl ([.ref a0, .int x1, .int x2])).length) Slot.unset).toArray = ls at hl ⊢
  have hl : lv_has ls 5 [(0, .ref a0), (1, .int x1), (2, .int x2)] := hl
  unfold f_X9_buttonAt at hf
  refine lv_aload_n hx hb dX9_buttonAt_0 rfl (lv_at hl 0 rfl) ?_
  refine lv_iload_n hx hb dX9_buttonAt_1 rfl (lv_at hl 1 rfl) ?_
  obtain ⟨fs2, ho2, hf⟩ := zz_obS_i hf
  refine zx_cV X hE hR hl.1 (As := [.int x1]) (rest := []) (C := RX9) (T := TX9) (N := 6) (ov := (fun v : Option Nat => some (va_rf v))) (fun r hr => mt_X9_seatOf hT a0 x1 h n hr) rfl ho2 mf_X9_seatOf q_582 q_584 qs_9 ⟨Nat.le_of_ble_eq_true rfl, Nat.le_of_ble_eq_true rfl⟩ ⟨Nat.le_of_ble_eq_true rfl, Nat.le_of_ble_eq_true rfl⟩ rfl (Nat.le_of_ble_eq_true rfl) dX9_buttonAt_2 hf (fun k e => by cases e; exact ⟨rfl, rfl, Nat.le_refl _⟩) (Nat.le_of_ble_eq_true rfl) (Nat.le_of_ble_eq_true rfl) (fun v2 hf H locs hR => ?_)
  refine W.eq (g2 := F0 m 5 ls [va_rf v2]) rfl ?_
  refine W.widen (k := 1) (n := 6) (Nat.le_of_ble_eq_true rfl) (Nat.le_of_ble_eq_true rfl) ?_
  refine zr_astore_n (i := 3) (lv' := [(3, va_rf v2), (0, .ref a0), (1, .int x1), (2, .int x2)]) hx hb dX9_buttonAt_5 rfl hl (by decide) rfl (fun ls hl => ?_)
  refine zr_aload_n hx hb dX9_buttonAt_6 rfl (lv_at hl 0 rfl) ?_
  refine lv_iload_n hx hb dX9_buttonAt_7 rfl (lv_at hl 3 rfl) ?_
  refine zx_cS X hE hR hl.1 (As := [va_rf v2, .int x2]) (rest := []) (ov := (fun _ : Unit => (none : Option Value))) (fun r hr => mt_X9_needCell hT v2 x2 h n hr) mf_X9_needCell q_661 q_662 ⟨Nat.le_of_ble_eq_true rfl, Nat.le_of_ble_eq_true rfl⟩ ⟨Nat.le_of_ble_eq_true rfl, Nat.le_of_ble_eq_true rfl⟩ rfl (Nat.le_of_ble_eq_true rfl) dX9_buttonAt_8 hf (fun k e => by cases e; exact ⟨rfl, rfl, Nat.le_refl _⟩) (Nat.le_of_ble_eq_true rfl) (Nat.le_of_ble_eq_true rfl) (fun v8 hf H locs hR => ?_)
  refine W.eq (g2 := F0 m 11 ls []) rfl ?_
  refine W.widen (k := 3) (n := 18) (Nat.le_of_ble_eq_true rfl) (Nat.le_of_ble_eq_true rfl) ?_
  refine zr_aload_n hx hb dX9_buttonAt_11 rfl (lv_at hl 0 rfl) ?_
  refine zr_gqN X hR (r := v2) fn_X9_144 dX9_buttonAt_12 hf (fun v12 hf => ?_)
  refine lv_iload_n hx hb dX9_buttonAt_15 rfl (lv_at hl 3 rfl) ?_
  obtain ⟨b16, fs16, hr16, ho16, hf⟩ := zz_ob_i hf
  obtain ⟨v16, hv16, hf⟩ := zz_b_i hf
  refine zr_cV X hR hl.1 (As := [.int x2]) (rest := []) (C := RX4) (T := TX4) (N := 1) (mt_X4_at hT b16 x2 h n hv16) rfl ho16 mf_X4_at q_676 q_218 q_219 ⟨Nat.le_of_ble_eq_true rfl, Nat.le_of_ble_eq_true rfl⟩ ⟨Nat.le_of_ble_eq_true rfl, Nat.le_of_ble_eq_true rfl⟩ (by rw [hr16]; rfl) (Nat.le_of_ble_eq_true rfl) dX9_buttonAt_16 (fun H locs hR => ?_)
  refine W.eq (g2 := F0 m 19 ls [.int v16]) rfl ?_
  refine lv_istore (i := 4) (lv' := [(4, .int v16), (3, va_rf v2), (0, .ref a0), (1, .int x1), (2, .int x2)]) hx hb dX9_buttonAt_19 hl (by decide) (by simp [zz_cat, zz_catI, zz_catR, zz_catJ, zz_catF, zz_catD]) (fun ls hl => ?_)
  refine lv_iload hx hb dX9_buttonAt_21 (lv_at hl 0 rfl) ?_
  refine lv_if_ne (tgt := 36) hx hb dX9_buttonAt_23 (by decide) (fun c23 => ?_) (fun c23 => ?_)
  · replace hf := zz_neg c23 hf
    refine lv_iload hx hb dX9_buttonAt_36 (lv_at hl 0 rfl) ?_
    cases hf
    exact zx_ret (zr_iret X hR dX9_buttonAt_38 (Nat.le_of_ble_eq_true rfl) (Nat.le_of_ble_eq_true rfl))
  · replace hf := zz_pos c23 hf
    cases hf
    exact zx_throwX X hE hR hl.1 nse_0 nse_1 nse_2 nse_5 (k := 4) (names := ["java/lang/RuntimeException", "java/lang/Exception"]) tw_10_170.1 tw_10_170.2.1 rfl q_800 q_27 (List.mem_of_getElem? (i := 9) rfl) tw_10_170.2.2.1 tw_10_170.2.2.2 dX9_buttonAt_26 dX9_buttonAt_29 dX9_buttonAt_30 dX9_buttonAt_32 dX9_buttonAt_35 (Nat.le_of_ble_eq_true rfl) ⟨Nat.le_of_ble_eq_true rfl, Nat.le_of_ble_eq_true rfl⟩ ⟨Nat.le_of_ble_eq_true rfl, Nat.le_of_ble_eq_true rfl⟩ (Nat.le_of_ble_eq_true rfl) (Nat.le_of_ble_eq_true rfl) (Nat.le_refl _)
def rm_X9_body : Room := { frames := 7, cells := 4, slots := 73, locals := 111 }
theorem mf_X9_body : zz_Mf yX9_body cX9_body 1 (some .int) 0 := ⟨q_973, q_1, by decide +kernel, by decide +kernel, by decide +kernel⟩
set_option maxHeartbeats 4000000 in
set_option maxRecDepth 100000 in
theorem mt_X9_body {D : va_G} {dA : Nat → ClassId} {base t0 : Nat} {l : Launch} (hT : l.stackTraces = false) (a0 : Nat) (h : zz_H) (n : Nat) {r0 : (Int32 ⊕ Nat)} {hF : zz_H} {nF : Nat} (hf : f_X9_body t0 a0 h n = some (r0, hF, nF)) : zz_MX D dA base t0 l yX9_body cX9_body 1 (some .int) rm_X9_body [.ref a0] h n (zz_ov (fun v : Int32 => some (Value.int v)) r0) hF nF := by
  refine vx_ofW (cc := cX9_body) (maxL := 1) (ret := (some .int)) (by decide +kernel) rfl ?_
  intro p e s m args below meth c s₁ B hml hE hv
  obtain ⟨rfl, hP, hK⟩ := hv
  have X : zz_X D dA base t0 "Springseat" cX9_body 1 (some .int) l p s m meth c := ⟨B.exec, B.bytes, hml, B.returns, findClass_of_methodNamed B.named, B.notSynchronized, hT, by rw [hP.1]; exact hP.2.1, hK⟩
  have hx := X.1
  have hb := X.2.1
  have hown := X.2.2.2.2.1
  have hR : zz_R D dA base h n s s.heap [] := ⟨hP, va_S.rf⟩
  have hl := lv_entry ([.ref a0]) (n := 1) (by exact Nat.le_of_ble_eq_true rfl)
  rw [lg_entry_eq]
  generalize (lg_sl ([.ref a0]) ++ List.replicate (1 - (lg_sl ([.ref a0])).length) Slot.unset).toArray = ls at hl ⊢
  have hl : lv_has ls 1 [(0, .ref a0)] := hl
  unfold f_X9_body at hf
  refine lv_aload_n hx hb dX9_body_0 rfl (lv_at hl 0 rfl) ?_
  refine zr_gq X hR (r := (some a0)) fl_X9_16 dX9_body_1 hf (fun v1 hf => ?_)
  obtain ⟨b4, fs4, hr4, ho4, hf⟩ := zz_ob_i hf
  obtain ⟨v4, hv4, hf⟩ := zz_b_i hf
  refine zr_cV X hR hl.1 (As := []) (rest := []) (C := RJx4a65c) (T := TJx4a65c) (N := 3) (mt_Jx4a65c_size_8abf5 hT b4 h n hv4) rfl ho4 mf_Jx4a65c_size_8abf5 q_177 q_178 q_179 ⟨Nat.le_of_ble_eq_true rfl, Nat.le_of_ble_eq_true rfl⟩ ⟨Nat.le_of_ble_eq_true rfl, Nat.le_of_ble_eq_true rfl⟩ (by rw [hr4]; rfl) (Nat.le_of_ble_eq_true rfl) dX9_body_4 (fun H locs hR => ?_)
  refine W.eq (g2 := F0 m 7 ls [.int v4]) rfl ?_
  refine lv_iconst (v := (3 : Int32)) hx hb dX9_body_7 (by decide) ?_
  refine zx_cS X hE hR hl.1 (As := [.int v4, .int (3 : Int32)]) (rest := []) (ov := (fun _ : Unit => (none : Option Value))) (fun r hr => mt_X9_needRoom hT v4 (3 : Int32) h n hr) mf_X9_needRoom q_417 q_418 ⟨Nat.le_of_ble_eq_true rfl, Nat.le_of_ble_eq_true rfl⟩ ⟨Nat.le_of_ble_eq_true rfl, Nat.le_of_ble_eq_true rfl⟩ rfl (Nat.le_of_ble_eq_true rfl) dX9_body_8 hf (fun k e => by cases e; exact ⟨rfl, rfl, Nat.le_refl _⟩) (Nat.le_of_ble_eq_true rfl) (Nat.le_of_ble_eq_true rfl) (fun v8 hf H locs hR => ?_)
  refine W.eq (g2 := F0 m 11 ls []) rfl ?_
  refine W.widen (k := 1) (n := 6) (Nat.le_of_ble_eq_true rfl) (Nat.le_of_ble_eq_true rfl) ?_
  refine lv_aload_n hx hb dX9_body_11 rfl (lv_at hl 0 rfl) ?_
  refine zr_gq X hR (r := (some a0)) fl_X9_16 dX9_body_12 hf (fun v12 hf => ?_)
  refine zr_new X hR (fs := [.null]) zc5 q_63 q_64 q_5 (fun j hj => by rcases (show j = 0 by omega) with rfl <;> rfl) (Nat.le_of_ble_eq_true rfl) (Nat.le_of_ble_eq_true rfl) dX9_body_15 (fun H hR => ?_)
  refine W.widen (k := 2) (n := 7) (Nat.le_of_ble_eq_true rfl) (Nat.le_of_ble_eq_true rfl) ?_
  refine lv_dup hx hb dX9_body_18 rfl ?_
  obtain ⟨u19, h19, n19, hv19, hf⟩ := zz_b2_i hf
  refine zr_cIN X hR hl.1 (As := []) (rest := [.ref n, va_rf v12]) (mt_X4_init hT n (zz_u h n (.inr (5, [.null]))) (n + 1) hv19) mf_X4_init rfl q_65 q_66 ⟨Nat.le_of_ble_eq_true rfl, Nat.le_of_ble_eq_true rfl⟩ ⟨Nat.le_of_ble_eq_true rfl, Nat.le_of_ble_eq_true rfl⟩ rfl (Nat.le_of_ble_eq_true rfl) dX9_body_19 (fun H locs hR => ?_)
  refine W.eq (g2 := F0 m 22 ls [.ref n, va_rf v12]) rfl ?_
  refine W.widen (k := 3) (n := 63) (Nat.le_of_ble_eq_true rfl) (Nat.le_of_ble_eq_true rfl) ?_
  obtain ⟨b22, fs22, hr22, ho22, hf⟩ := zz_ob_i hf
  obtain ⟨v22, h22, n22, hv22, hf⟩ := zz_b2_i hf
  refine zr_cV X hR hl.1 (As := [.ref n]) (rest := []) (C := RJx4a65c) (T := TJx4a65c) (N := 3) (mt_Jx4a65c_add_9ea2d hT b22 (some n) h19 n19 hv22) rfl ho22 mf_Jx4a65c_add_9ea2d q_89 q_90 q_91 ⟨Nat.le_of_ble_eq_true rfl, Nat.le_of_ble_eq_true rfl⟩ ⟨Nat.le_of_ble_eq_true rfl, Nat.le_of_ble_eq_true rfl⟩ (by rw [hr22]; rfl) (Nat.le_of_ble_eq_true rfl) dX9_body_22 (fun H locs hR => ?_)
  refine W.eq (g2 := F0 m 25 ls [.int v22]) rfl ?_
  refine W.widen (k := 4) (n := 73) (Nat.le_of_ble_eq_true rfl) (Nat.le_of_ble_eq_true rfl) ?_
  refine lv_pop hx hb dX9_body_25 rfl ?_
  refine lv_aload_n hx hb dX9_body_26 rfl (lv_at hl 0 rfl) ?_
  refine zr_gq X hR (r := (some a0)) fl_X9_16 dX9_body_27 hf (fun v27 hf => ?_)
  obtain ⟨b30, fs30, hr30, ho30, hf⟩ := zz_ob_i hf
  obtain ⟨v30, hv30, hf⟩ := zz_b_i hf
  refine zr_cV X hR hl.1 (As := []) (rest := []) (C := RJx4a65c) (T := TJx4a65c) (N := 3) (mt_Jx4a65c_size_8abf5 hT b30 h22 n22 hv30) rfl ho30 mf_Jx4a65c_size_8abf5 q_177 q_178 q_179 ⟨Nat.le_of_ble_eq_true rfl, Nat.le_of_ble_eq_true rfl⟩ ⟨Nat.le_of_ble_eq_true rfl, Nat.le_of_ble_eq_true rfl⟩ (by rw [hr30]; rfl) (Nat.le_of_ble_eq_true rfl) dX9_body_30 (fun H locs hR => ?_)
  refine W.eq (g2 := F0 m 33 ls [.int v30]) rfl ?_
  refine lv_iconst (v := (1 : Int32)) hx hb dX9_body_33 (by decide) ?_
  refine lv_isub hx hb dX9_body_34 ?_
  cases hf
  exact zx_ret (zr_iret X hR dX9_body_35 (Nat.le_of_ble_eq_true rfl) (Nat.le_of_ble_eq_true rfl))
def rm_X9_bodyOf : Room := { frames := 7, cells := 1, slots := 6, locals := 111 }
theorem mf_X9_bodyOf : zz_Mf yX9_bodyOf cX9_bodyOf 2 (some (.object "Springseat$Grid")) 1 := ⟨q_984, q_1, by decide +kernel, by decide +kernel, by decide +kernel⟩
set_option maxHeartbeats 4000000 in
set_option maxRecDepth 100000 in
theorem mt_X9_bodyOf {D : va_G} {dA : Nat → ClassId} {base t0 : Nat} {l : Launch} (hT : l.stackTraces = false) (a0 : Nat) (x1 : Int32) (h : zz_H) (n : Nat) {r0 : ((Option Nat) ⊕ Nat)} (hf : f_X9_bodyOf a0 x1 h = some r0) : zz_MX D dA base t0 l yX9_bodyOf cX9_bodyOf 2 (some (.object "Springseat$Grid")) rm_X9_bodyOf [.ref a0, .int x1] h n (zz_ov (fun v : Option Nat => some (va_rf v)) r0) h n := by
  refine vx_ofW (cc := cX9_bodyOf) (maxL := 2) (ret := (some (.object "Springseat$Grid"))) (by decide +kernel) rfl ?_
  intro p e s m args below meth c s₁ B hml hE hv
  obtain ⟨rfl, hP, hK⟩ := hv
  have X : zz_X D dA base t0 "Springseat" cX9_bodyOf 2 (some (.object "Springseat$Grid")) l p s m meth c := ⟨B.exec, B.bytes, hml, B.returns, findClass_of_methodNamed B.named, B.notSynchronized, hT, by rw [hP.1]; exact hP.2.1, hK⟩
  have hx := X.1
  have hb := X.2.1
  have hown := X.2.2.2.2.1
  have hR : zz_R D dA base h n s s.heap [] := ⟨hP, va_S.rf⟩
  have hl := lv_entry ([.ref a0, .int x1]) (n := 2) (by exact Nat.le_of_ble_eq_true rfl)
  rw [lg_entry_eq]
  generalize (lg_sl ([.ref a0, .int x1]) ++ List.replicate (2 - (lg_sl ([.ref a0, .int x1])).length) Slot.unset).toArray = ls at hl ⊢
  have hl : lv_has ls 2 [(0, .ref a0), (1, .int x1)] := hl
  unfold f_X9_bodyOf at hf
  refine lv_iload_n hx hb dX9_bodyOf_0 rfl (lv_at hl 1 rfl) ?_
  refine lv_aload_n hx hb dX9_bodyOf_1 rfl (lv_at hl 0 rfl) ?_
  refine zr_gq X hR (r := (some a0)) fl_X9_16 dX9_bodyOf_2 hf (fun v2 hf => ?_)
  obtain ⟨b5, fs5, hr5, ho5, hf⟩ := zz_ob_i hf
  obtain ⟨v5, hv5, hf⟩ := zz_b_i hf
  refine zr_cV X hR hl.1 (As := []) (rest := [.int x1]) (C := RJx4a65c) (T := TJx4a65c) (N := 3) (mt_Jx4a65c_size_8abf5 hT b5 h n hv5) rfl ho5 mf_Jx4a65c_size_8abf5 q_177 q_178 q_179 ⟨Nat.le_of_ble_eq_true rfl, Nat.le_of_ble_eq_true rfl⟩ ⟨Nat.le_of_ble_eq_true rfl, Nat.le_of_ble_eq_true rfl⟩ (by rw [hr5]; rfl) (Nat.le_of_ble_eq_true rfl) dX9_bodyOf_5 (fun H locs hR => ?_)
  refine W.eq (g2 := F0 m 8 ls [.int v5, .int x1]) rfl ?_
  refine zx_cS X hE hR hl.1 (As := [.int x1, .int v5]) (rest := []) (ov := (fun _ : Unit => (none : Option Value))) (fun r hr => mt_X9_needIndex hT x1 v5 h n hr) mf_X9_needIndex q_586 q_587 ⟨Nat.le_of_ble_eq_true rfl, Nat.le_of_ble_eq_true rfl⟩ ⟨Nat.le_of_ble_eq_true rfl, Nat.le_of_ble_eq_true rfl⟩ rfl (Nat.le_of_ble_eq_true rfl) dX9_bodyOf_8 hf (fun k e => by cases e; exact ⟨rfl, rfl, Nat.le_refl _⟩) (Nat.le_of_ble_eq_true rfl) (Nat.le_of_ble_eq_true rfl) (fun v8 hf H locs hR => ?_)
  refine W.eq (g2 := F0 m 11 ls []) rfl ?_
  refine W.widen (k := 1) (n := 6) (Nat.le_of_ble_eq_true rfl) (Nat.le_of_ble_eq_true rfl) ?_
  refine lv_aload_n hx hb dX9_bodyOf_11 rfl (lv_at hl 0 rfl) ?_
  refine zr_gq X hR (r := (some a0)) fl_X9_16 dX9_bodyOf_12 hf (fun v12 hf => ?_)
  refine lv_iload_n hx hb dX9_bodyOf_15 rfl (lv_at hl 1 rfl) ?_
  obtain ⟨b16, fs16, hr16, ho16, hf⟩ := zz_ob_i hf
  obtain ⟨v16, hv16, hf⟩ := zz_b_i hf
  refine zr_cV X hR hl.1 (As := [.int x1]) (rest := []) (C := RJx4a65c) (T := TJx4a65c) (N := 3) (mt_Jx4a65c_get_915e3 hT b16 x1 h n hv16) rfl ho16 mf_Jx4a65c_get_915e3 q_181 q_182 q_183 ⟨Nat.le_of_ble_eq_true rfl, Nat.le_of_ble_eq_true rfl⟩ ⟨Nat.le_of_ble_eq_true rfl, Nat.le_of_ble_eq_true rfl⟩ (by rw [hr16]; rfl) (Nat.le_of_ble_eq_true rfl) dX9_bodyOf_16 (fun H locs hR => ?_)
  refine W.eq (g2 := F0 m 19 ls [va_rf v16]) rfl ?_
  refine zr_cc X hR (ci := 5) (C := RX4) (T := TX4) (N := 1) (r := v16) rfl q_63 (Or.inr trivial) dX9_bodyOf_19 hf (fun hf => ?_)
  cases hf
  exact zx_ret (zr_aret (Or.inl ⟨_, rfl⟩) X hR (r := _) dX9_bodyOf_22 (Nat.le_of_ble_eq_true rfl) (Nat.le_of_ble_eq_true rfl))
def rm_X9_mass : Room := { frames := 8, cells := 4, slots := 24, locals := 133 }
theorem mf_X9_mass : zz_Mf yX9_mass cX9_mass 6 (some .int) 3 := ⟨q_980, q_1, by decide +kernel, by decide +kernel, by decide +kernel⟩
set_option maxHeartbeats 4000000 in
set_option maxRecDepth 100000 in
theorem mt_X9_mass {D : va_G} {dA : Nat → ClassId} {base t0 : Nat} {l : Launch} (hT : l.stackTraces = false) (a0 : Nat) (x1 : Int32) (x2 : Int32) (x3 : Int32) (h : zz_H) (n : Nat) {r0 : (Int32 ⊕ Nat)} {hF : zz_H} (hf : f_X9_mass a0 x1 x2 x3 h = some (r0, hF)) : zz_MX D dA base t0 l yX9_mass cX9_mass 6 (some .int) rm_X9_mass [.ref a0, .int x1, .int x2, .int x3] h n (zz_ov (fun v : Int32 => some (Value.int v)) r0) hF n := by
  refine vx_ofW (cc := cX9_mass) (maxL := 6) (ret := (some .int)) (by decide +kernel) rfl ?_
  intro p e s m args below meth c s₁ B hml hE hv
  obtain ⟨rfl, hP, hK⟩ := hv
  have X : zz_X D dA base t0 "Springseat" cX9_mass 6 (some .int) l p s m meth c := ⟨B.exec, B.bytes, hml, B.returns, findClass_of_methodNamed B.named, B.notSynchronized, hT, by rw [hP.1]; exact hP.2.1, hK⟩
  have hx := X.1
  have hb := X.2.1
  have hown := X.2.2.2.2.1
  have hR : zz_R D dA base h n s s.heap [] := ⟨hP, va_S.rf⟩
  have hl := lv_entry ([.ref a0, .int x1, .int x2, .int x3]) (n := 6) (by exact Nat.le_of_ble_eq_true rfl)
  rw [lg_entry_eq]
  generalize (lg_sl ([.ref a0, .int x1, .int x2, .int x3]) ++ List.replicate (6 - (lg_sl ([.ref a0, .int x1, .int x2, .int x3])).length) Slot.unset).toArray = ls at hl ⊢
  have hl : lv_has ls 6 [(0, .ref a0), (1, .int x1), (2, .int x2), (3, .int x3)] := hl
  unfold f_X9_mass at hf
  refine lv_aload_n hx hb dX9_mass_0 rfl (lv_at hl 0 rfl) ?_
  refine lv_iload_n hx hb dX9_mass_1 rfl (lv_at hl 1 rfl) ?_
  obtain ⟨fs2, ho2, hf⟩ := zz_obS_i hf
  refine zx_cV X hE hR hl.1 (As := [.int x1]) (rest := []) (C := RX9) (T := TX9) (N := 6) (ov := (fun v : Option Nat => some (va_rf v))) (fun r hr => mt_X9_bodyOf hT a0 x1 h n hr) rfl ho2 mf_X9_bodyOf q_981 q_983 qs_15 ⟨Nat.le_of_ble_eq_true rfl, Nat.le_of_ble_eq_true rfl⟩ ⟨Nat.le_of_ble_eq_true rfl, Nat.le_of_ble_eq_true rfl⟩ rfl (Nat.le_of_ble_eq_true rfl) dX9_mass_2 hf (fun k e => by cases e; exact ⟨rfl, rfl, Nat.le_refl _⟩) (Nat.le_of_ble_eq_true rfl) (Nat.le_of_ble_eq_true rfl) (fun v2 hf H locs hR => ?_)
  refine W.eq (g2 := F0 m 5 ls [va_rf v2]) rfl ?_
  refine W.widen (k := 1) (n := 6) (Nat.le_of_ble_eq_true rfl) (Nat.le_of_ble_eq_true rfl) ?_
  refine zr_astore (i := 4) (lv' := [(4, va_rf v2), (0, .ref a0), (1, .int x1), (2, .int x2), (3, .int x3)]) hx hb dX9_mass_5 hl (by decide) rfl (fun ls hl => ?_)
  refine lv_iload_n hx hb dX9_mass_7 rfl (lv_at hl 3 rfl) ?_
  refine lv_bipush (v := (6 : Int32)) hx hb dX9_mass_8 (by decide) ?_
  refine lv_bipush (v := (6 : Int32)) hx hb dX9_mass_10 (by decide) ?_
  refine zx_cS X hE hR hl.1 (As := [.int x2, .int (6 : Int32), .int (6 : Int32)]) (rest := []) (ov := (fun _ : Unit => (none : Option Value))) (fun r hr => mt_X9_needCellIn hT x2 (6 : Int32) (6 : Int32) h n hr) mf_X9_needCellIn q_664 q_665 ⟨Nat.le_of_ble_eq_true rfl, Nat.le_of_ble_eq_true rfl⟩ ⟨Nat.le_of_ble_eq_true rfl, Nat.le_of_ble_eq_true rfl⟩ rfl (Nat.le_of_ble_eq_true rfl) dX9_mass_12 hf (fun k e => by cases e; exact ⟨rfl, rfl, Nat.le_refl _⟩) (Nat.le_of_ble_eq_true rfl) (Nat.le_of_ble_eq_true rfl) (fun v12 hf H locs hR => ?_)
  refine W.eq (g2 := F0 m 15 ls []) rfl ?_
  refine W.widen (k := 3) (n := 18) (Nat.le_of_ble_eq_true rfl) (Nat.le_of_ble_eq_true rfl) ?_
  refine lv_iload_n hx hb dX9_mass_15 rfl (lv_at hl 4 rfl) ?_
  refine lv_iconst (v := (0 : Int32)) hx hb dX9_mass_16 (by decide) ?_
  refine lv_bipush (v := (99 : Int32)) hx hb dX9_mass_17 (by decide) ?_
  refine zx_cS X hE hR hl.1 (As := [.int x3, .int (0 : Int32), .int (99 : Int32)]) (rest := []) (ov := (fun _ : Unit => (none : Option Value))) (fun r hr => mt_X9_needRange hT x3 (0 : Int32) (99 : Int32) h n hr) mf_X9_needRange q_344 q_345 ⟨Nat.le_of_ble_eq_true rfl, Nat.le_of_ble_eq_true rfl⟩ ⟨Nat.le_of_ble_eq_true rfl, Nat.le_of_ble_eq_true rfl⟩ rfl (Nat.le_of_ble_eq_true rfl) dX9_mass_19 hf (fun k e => by cases e; exact ⟨rfl, rfl, Nat.le_refl _⟩) (Nat.le_of_ble_eq_true rfl) (Nat.le_of_ble_eq_true rfl) (fun v19 hf H locs hR => ?_)
  refine W.eq (g2 := F0 m 22 ls []) rfl ?_
  refine W.widen (k := 4) (n := 24) (Nat.le_of_ble_eq_true rfl) (Nat.le_of_ble_eq_true rfl) ?_
  refine zr_aload hx hb dX9_mass_22 (lv_at hl 0 rfl) ?_
  refine lv_iload_n hx hb dX9_mass_24 rfl (lv_at hl 3 rfl) ?_
  obtain ⟨b25, fs25, hr25, ho25, hf⟩ := zz_ob_i hf
  obtain ⟨v25, hv25, hf⟩ := zz_b_i hf
  refine zr_cV X hR hl.1 (As := [.int x2]) (rest := []) (C := RX4) (T := TX4) (N := 1) (mt_X4_at hT b25 x2 h n hv25) rfl ho25 mf_X4_at q_676 q_218 q_219 ⟨Nat.le_of_ble_eq_true rfl, Nat.le_of_ble_eq_true rfl⟩ ⟨Nat.le_of_ble_eq_true rfl, Nat.le_of_ble_eq_true rfl⟩ (by rw [hr25]; rfl) (Nat.le_of_ble_eq_true rfl) dX9_mass_25 (fun H locs hR => ?_)
  refine W.eq (g2 := F0 m 28 ls [.int v25]) rfl ?_
  refine lv_istore (i := 5) (lv' := [(5, .int v25), (4, va_rf v2), (0, .ref a0), (1, .int x1), (2, .int x2), (3, .int x3)]) hx hb dX9_mass_28 hl (by decide) (by simp [zz_cat, zz_catI, zz_catR, zz_catJ, zz_catF, zz_catD]) (fun ls hl => ?_)
  refine zr_aload hx hb dX9_mass_30 (lv_at hl 1 rfl) ?_
  refine lv_iload_n hx hb dX9_mass_32 rfl (lv_at hl 4 rfl) ?_
  refine lv_iload_n hx hb dX9_mass_33 rfl (lv_at hl 5 rfl) ?_
  obtain ⟨b34, fs34, hr34, ho34, hf⟩ := zz_ob_i hf
  obtain ⟨u34, h34, hv34, hf⟩ := zz_b1_i hf
  refine zr_cV X hR hl.1 (As := [.int x2, .int x3]) (rest := []) (C := RX4) (T := TX4) (N := 1) (mt_X4_put hT b34 x2 x3 h n hv34) rfl ho34 mf_X4_put q_764 q_325 q_326 ⟨Nat.le_of_ble_eq_true rfl, Nat.le_of_ble_eq_true rfl⟩ ⟨Nat.le_of_ble_eq_true rfl, Nat.le_of_ble_eq_true rfl⟩ (by rw [hr34]; rfl) (Nat.le_of_ble_eq_true rfl) dX9_mass_34 (fun H locs hR => ?_)
  refine W.eq (g2 := F0 m 37 ls []) rfl ?_
  refine lv_iload hx hb dX9_mass_37 (lv_at hl 0 rfl) ?_
  cases hf
  exact zx_ret (zr_iret X hR dX9_mass_39 (Nat.le_of_ble_eq_true rfl) (Nat.le_of_ble_eq_true rfl))
def rm_X9_needSprings : Room := { frames := 6, cells := 1, slots := 6, locals := 90 }
theorem mf_X9_needSprings : zz_Mf yX9_needSprings cX9_needSprings 1 none 1 := ⟨q_994, q_1, by decide +kernel, by decide +kernel, by decide +kernel⟩
set_option maxHeartbeats 4000000 in
set_option maxRecDepth 100000 in
theorem mt_X9_needSprings {D : va_G} {dA : Nat → ClassId} {base t0 : Nat} {l : Launch} (hT : l.stackTraces = false) (x0 : (Option Nat)) (h : zz_H) (n : Nat) {r0 : (Unit ⊕ Nat)} (hf : f_X9_needSprings x0 h = some r0) : zz_MX D dA base t0 l yX9_needSprings cX9_needSprings 1 none rm_X9_needSprings [va_rf x0] h n (zz_ov (fun _ : Unit => (none : Option Value)) r0) h n := by
  refine vx_ofW (cc := cX9_needSprings) (maxL := 1) (ret := none) (by decide +kernel) rfl ?_
  intro p e s m args below meth c s₁ B hml hE hv
  obtain ⟨rfl, hP, hK⟩ := hv
  have X : zz_X D dA base t0 "Springseat" cX9_needSprings 1 none l p s m meth c := ⟨B.exec, B.bytes, hml, B.returns, findClass_of_methodNamed B.named, B.notSynchronized, hT, by rw [hP.1]; exact hP.2.1, hK⟩
  have hx := X.1
  have hb := X.2.1
  have hown := X.2.2.2.2.1
  have hR : zz_R D dA base h n s s.heap [] := ⟨hP, va_S.rf⟩
  have hl := lv_entry ([va_rf x0]) (n := 1) (by cases x0 <;> exact Nat.le_of_ble_eq_true rfl)
  rw [lg_entry_eq]
  generalize (lg_sl ([va_rf x0]) ++ List.replicate (1 - (lg_sl ([va_rf x0])).length) Slot.unset).toArray = ls at hl ⊢
  have hl : lv_has ls 1 [(0, va_rf x0)] := by rw [show ([(0, va_rf x0)] : List (Nat × Value)) = lv_args 0 [va_rf x0] from by cases x0 <;> rfl]; exact hl
  unfold f_X9_needSprings at hf
  refine zr_aload_n hx hb dX9_needSprings_0 rfl (lv_at hl 0 rfl) ?_
  obtain ⟨b1, fs1, hr1, ho1, hf⟩ := zz_ob_i hf
  obtain ⟨v1, hv1, hf⟩ := zz_b_i hf
  refine zr_cV X hR hl.1 (As := []) (rest := []) (C := RX7) (T := TX7) (N := 6) (mt_X7_hasSprings hT b1 h n hv1) rfl ho1 mf_X7_hasSprings q_995 q_996 q_997 ⟨Nat.le_of_ble_eq_true rfl, Nat.le_of_ble_eq_true rfl⟩ ⟨Nat.le_of_ble_eq_true rfl, Nat.le_of_ble_eq_true rfl⟩ (by rw [hr1]; rfl) (Nat.le_of_ble_eq_true rfl) dX9_needSprings_1 (fun H locs hR => ?_)
  refine W.eq (g2 := F0 m 4 ls [.int v1]) rfl ?_
  refine lv_if_ne (tgt := 18) hx hb dX9_needSprings_4 (by decide) (fun c4 => ?_) (fun c4 => ?_)
  · replace hf := zz_neg c4 hf
    cases hf
    exact zx_ret (zr_vret X hR dX9_needSprings_18 (Nat.le_of_ble_eq_true rfl) (Nat.le_of_ble_eq_true rfl))
  · replace hf := zz_pos c4 hf
    cases hf
    exact zx_throwW X hE hR hl.1 (k := 3) (names := ["java/lang/RuntimeException", "java/lang/Exception"]) tw_10_184.1 tw_10_184.2.1 rfl q_616 q_25 (List.mem_of_getElem? (i := 10) rfl) tw_10_184.2.2.1 tw_10_184.2.2.2 dX9_needSprings_7 dX9_needSprings_10 dX9_needSprings_11 dX9_needSprings_14 dX9_needSprings_17 (Nat.le_of_ble_eq_true rfl) ⟨Nat.le_of_ble_eq_true rfl, Nat.le_of_ble_eq_true rfl⟩ ⟨Nat.le_of_ble_eq_true rfl, Nat.le_of_ble_eq_true rfl⟩ (Nat.le_of_ble_eq_true rfl) (Nat.le_of_ble_eq_true rfl) (Nat.le_refl _)
def rm_X9_sinks : Room := { frames := 9, cells := 5, slots := 30, locals := 154 }
theorem mf_X9_sinks : zz_Mf yX9_sinks cX9_sinks 6 (some .int) 3 := ⟨q_991, q_1, by decide +kernel, by decide +kernel, by decide +kernel⟩
set_option maxHeartbeats 4000000 in
set_option maxRecDepth 100000 in
theorem mt_X9_sinks {D : va_G} {dA : Nat → ClassId} {base t0 : Nat} {l : Launch} (hT : l.stackTraces = false) (a0 : Nat) (x1 : Int32) (x2 : Int32) (x3 : Int32) (h : zz_H) (n : Nat) {r0 : (Int32 ⊕ Nat)} {hF : zz_H} (hf : f_X9_sinks a0 x1 x2 x3 h = some (r0, hF)) : zz_MX D dA base t0 l yX9_sinks cX9_sinks 6 (some .int) rm_X9_sinks [.ref a0, .int x1, .int x2, .int x3] h n (zz_ov (fun v : Int32 => some (Value.int v)) r0) hF n := by
  refine vx_ofW (cc := cX9_sinks) (maxL := 6) (ret := (some .int)) (by decide +kernel) rfl ?_
  intro p e s m args below meth c s₁ B hml hE hv
  obtain ⟨rfl, hP, hK⟩ := hv
  have X : zz_X D dA base t0 "Springseat" cX9_sinks 6 (some .int) l p s m meth c := ⟨B.exec, B.bytes, hml, B.returns, findClass_of_methodNamed B.named, B.notSynchronized, hT, by rw [hP.1]; exact hP.2.1, hK⟩
  have hx := X.1
  have hb := X.2.1
  have hown := X.2.2.2.2.1
  have hR : zz_R D dA base h n s s.heap [] := ⟨hP, va_S.rf⟩
  have hl := lv_entry ([.ref a0, .int x1, .int x2, .int x3]) (n := 6) (by exact Nat.le_of_ble_eq_true rfl)
  rw [lg_entry_eq]
  generalize (lg_sl ([.ref a0, .int x1, .int x2, .int x3]) ++ List.replicate (6 - (lg_sl ([.ref a0, .int x1, .int x2, .int x3])).length) Slot.unset).toArray = ls at hl ⊢
  have hl : lv_has ls 6 [(0, .ref a0), (1, .int x1), (2, .int x2), (3, .int x3)] := hl
  unfold f_X9_sinks at hf
  refine lv_aload_n hx hb dX9_sinks_0 rfl (lv_at hl 0 rfl) ?_
  refine lv_iload_n hx hb dX9_sinks_1 rfl (lv_at hl 1 rfl) ?_
  obtain ⟨fs2, ho2, hf⟩ := zz_obS_i hf
  refine zx_cV X hE hR hl.1 (As := [.int x1]) (rest := []) (C := RX9) (T := TX9) (N := 6) (ov := (fun v : Option Nat => some (va_rf v))) (fun r hr => mt_X9_bodyOf hT a0 x1 h n hr) rfl ho2 mf_X9_bodyOf q_981 q_983 qs_15 ⟨Nat.le_of_ble_eq_true rfl, Nat.le_of_ble_eq_true rfl⟩ ⟨Nat.le_of_ble_eq_true rfl, Nat.le_of_ble_eq_true rfl⟩ rfl (Nat.le_of_ble_eq_true rfl) dX9_sinks_2 hf (fun k e => by cases e; exact ⟨rfl, rfl, Nat.le_refl _⟩) (Nat.le_of_ble_eq_true rfl) (Nat.le_of_ble_eq_true rfl) (fun v2 hf H locs hR => ?_)
  refine W.eq (g2 := F0 m 5 ls [va_rf v2]) rfl ?_
  refine W.widen (k := 1) (n := 6) (Nat.le_of_ble_eq_true rfl) (Nat.le_of_ble_eq_true rfl) ?_
  refine zr_astore (i := 4) (lv' := [(4, va_rf v2), (0, .ref a0), (1, .int x1), (2, .int x2), (3, .int x3)]) hx hb dX9_sinks_5 hl (by decide) rfl (fun ls hl => ?_)
  refine lv_aload_n hx hb dX9_sinks_7 rfl (lv_at hl 1 rfl) ?_
  refine lv_iload_n hx hb dX9_sinks_8 rfl (lv_at hl 3 rfl) ?_
  obtain ⟨fs9, ho9, hf⟩ := zz_obS_i hf
  refine zx_cV X hE hR hl.1 (As := [.int x2]) (rest := []) (C := RX9) (T := TX9) (N := 6) (ov := (fun v : Option Nat => some (va_rf v))) (fun r hr => mt_X9_seatOf hT a0 x2 h n hr) rfl ho9 mf_X9_seatOf q_582 q_584 qs_9 ⟨Nat.le_of_ble_eq_true rfl, Nat.le_of_ble_eq_true rfl⟩ ⟨Nat.le_of_ble_eq_true rfl, Nat.le_of_ble_eq_true rfl⟩ rfl (Nat.le_of_ble_eq_true rfl) dX9_sinks_9 hf (fun k e => by cases e; exact ⟨rfl, rfl, Nat.le_refl _⟩) (Nat.le_of_ble_eq_true rfl) (Nat.le_of_ble_eq_true rfl) (fun v9 hf H locs hR => ?_)
  refine W.eq (g2 := F0 m 12 ls [va_rf v9]) rfl ?_
  refine W.widen (k := 2) (n := 12) (Nat.le_of_ble_eq_true rfl) (Nat.le_of_ble_eq_true rfl) ?_
  refine zr_astore (i := 5) (lv' := [(5, va_rf v9), (4, va_rf v2), (0, .ref a0), (1, .int x1), (2, .int x2), (3, .int x3)]) hx hb dX9_sinks_12 hl (by decide) (by simp [zz_cat, zz_catI, zz_catR, zz_catJ, zz_catF, zz_catD]) (fun ls hl => ?_)
  refine zr_aload hx hb dX9_sinks_14 (lv_at hl 0 rfl) ?_
  refine lv_iload_n hx hb dX9_sinks_16 rfl (lv_at hl 5 rfl) ?_
  refine zx_cS X hE hR hl.1 (As := [va_rf v9, .int x3]) (rest := []) (ov := (fun _ : Unit => (none : Option Value))) (fun r hr => mt_X9_needCell hT v9 x3 h n hr) mf_X9_needCell q_661 q_662 ⟨Nat.le_of_ble_eq_true rfl, Nat.le_of_ble_eq_true rfl⟩ ⟨Nat.le_of_ble_eq_true rfl, Nat.le_of_ble_eq_true rfl⟩ rfl (Nat.le_of_ble_eq_true rfl) dX9_sinks_17 hf (fun k e => by cases e; exact ⟨rfl, rfl, Nat.le_refl _⟩) (Nat.le_of_ble_eq_true rfl) (Nat.le_of_ble_eq_true rfl) (fun v17 hf H locs hR => ?_)
  refine W.eq (g2 := F0 m 20 ls []) rfl ?_
  refine W.widen (k := 4) (n := 24) (Nat.le_of_ble_eq_true rfl) (Nat.le_of_ble_eq_true rfl) ?_
  refine zr_aload hx hb dX9_sinks_20 (lv_at hl 0 rfl) ?_
  refine zx_cS X hE hR hl.1 (As := [va_rf v9]) (rest := []) (ov := (fun _ : Unit => (none : Option Value))) (fun r hr => mt_X9_needSprings hT v9 h n hr) mf_X9_needSprings q_992 q_993 ⟨Nat.le_of_ble_eq_true rfl, Nat.le_of_ble_eq_true rfl⟩ ⟨Nat.le_of_ble_eq_true rfl, Nat.le_of_ble_eq_true rfl⟩ rfl (Nat.le_of_ble_eq_true rfl) dX9_sinks_22 hf (fun k e => by cases e; exact ⟨rfl, rfl, Nat.le_refl _⟩) (Nat.le_of_ble_eq_true rfl) (Nat.le_of_ble_eq_true rfl) (fun v22 hf H locs hR => ?_)
  refine W.eq (g2 := F0 m 25 ls []) rfl ?_
  refine W.widen (k := 5) (n := 30) (Nat.le_of_ble_eq_true rfl) (Nat.le_of_ble_eq_true rfl) ?_
  refine zr_aload hx hb dX9_sinks_25 (lv_at hl 0 rfl) ?_
  refine zr_aload hx hb dX9_sinks_27 (lv_at hl 1 rfl) ?_
  refine lv_aload_n hx hb dX9_sinks_29 rfl (lv_at hl 2 rfl) ?_
  refine zr_gq X hR (r := (some a0)) fl_X9_28 dX9_sinks_30 hf (fun v30 hf => ?_)
  obtain ⟨b33, fs33, hr33, ho33, hf⟩ := zz_ob_i hf
  obtain ⟨u33, h33, hv33, hf⟩ := zz_b1_i hf
  refine zr_cV X hR hl.1 (As := [va_rf v2, va_rf v30]) (rest := []) (C := RX7) (T := TX7) (N := 6) (mt_X7_tellSinking hT b33 v2 v30 h n hv33) rfl ho33 mf_X7_tellSinking q_295 q_296 q_297 ⟨Nat.le_of_ble_eq_true rfl, Nat.le_of_ble_eq_true rfl⟩ ⟨Nat.le_of_ble_eq_true rfl, Nat.le_of_ble_eq_true rfl⟩ (by rw [hr33]; rfl) (Nat.le_of_ble_eq_true rfl) dX9_sinks_33 (fun H locs hR => ?_)
  refine W.eq (g2 := F0 m 36 ls []) rfl ?_
  refine lv_aload_n hx hb dX9_sinks_36 rfl (lv_at hl 2 rfl) ?_
  refine zr_gq X hR (r := (some a0)) fl_X9_28 dX9_sinks_37 hf (fun v37 hf => ?_)
  refine lv_iload_n hx hb dX9_sinks_40 rfl (lv_at hl 5 rfl) ?_
  obtain ⟨b41, fs41, hr41, ho41, hf⟩ := zz_ob_i hf
  obtain ⟨v41, hv41, hf⟩ := zz_b_i hf
  refine zr_cV X hR hl.1 (As := [.int x3]) (rest := []) (C := RX4) (T := TX4) (N := 1) (mt_X4_at hT b41 x3 h33 n hv41) rfl ho41 mf_X4_at q_676 q_218 q_219 ⟨Nat.le_of_ble_eq_true rfl, Nat.le_of_ble_eq_true rfl⟩ ⟨Nat.le_of_ble_eq_true rfl, Nat.le_of_ble_eq_true rfl⟩ (by rw [hr41]; rfl) (Nat.le_of_ble_eq_true rfl) dX9_sinks_41 (fun H locs hR => ?_)
  refine W.eq (g2 := F0 m 44 ls [.int v41]) rfl ?_
  cases hf
  exact zx_ret (zr_iret X hR dX9_sinks_44 (Nat.le_of_ble_eq_true rfl) (Nat.le_of_ble_eq_true rfl))
def rm_X9_pressureOf : Room := { frames := 1, cells := 0, slots := 0, locals := 23 }
theorem mf_X9_pressureOf : zz_Mf yX9_pressureOf cX9_pressureOf 2 (some .int) 2 := ⟨q_1009, q_1, by decide +kernel, by decide +kernel, by decide +kernel⟩
set_option maxHeartbeats 4000000 in
set_option maxRecDepth 100000 in
theorem mt_X9_pressureOf {D : va_G} {dA : Nat → ClassId} {base t0 : Nat} {l : Launch} (hT : l.stackTraces = false) (x0 : Int32) (x1 : Int32) (h : zz_H) (n : Nat) {r0 : Int32} (hf : f_X9_pressureOf x0 x1 h = some r0) : zz_M D dA base t0 l yX9_pressureOf cX9_pressureOf 2 (some .int) rm_X9_pressureOf [.int x0, .int x1] h n (some (.int r0)) h n := by
  refine Met.ofW (cc := cX9_pressureOf) (maxL := 2) (ret := (some .int)) (by decide +kernel) rfl ?_
  intro p e s m args below meth c s₁ B hml hv
  obtain ⟨rfl, hP, hK⟩ := hv
  have X : zz_X D dA base t0 "Springseat" cX9_pressureOf 2 (some .int) l p s m meth c := ⟨B.exec, B.bytes, hml, B.returns, findClass_of_methodNamed B.named, B.notSynchronized, hT, by rw [hP.1]; exact hP.2.1, hK⟩
  have hx := X.1
  have hb := X.2.1
  have hown := X.2.2.2.2.1
  have hR : zz_R D dA base h n s s.heap [] := ⟨hP, va_S.rf⟩
  have hl := lv_entry ([.int x0, .int x1]) (n := 2) (by exact Nat.le_of_ble_eq_true rfl)
  rw [lg_entry_eq]
  generalize (lg_sl ([.int x0, .int x1]) ++ List.replicate (2 - (lg_sl ([.int x0, .int x1])).length) Slot.unset).toArray = ls at hl ⊢
  have hl : lv_has ls 2 [(0, .int x0), (1, .int x1)] := hl
  unfold f_X9_pressureOf at hf
  refine lv_bipush (v := (100 : Int32)) hx hb dX9_pressureOf_0 (by decide) ?_
  refine lv_iload_n hx hb dX9_pressureOf_2 rfl (lv_at hl 0 rfl) ?_
  refine lv_imul hx hb dX9_pressureOf_3 ?_
  refine lv_i2l hx hb dX9_pressureOf_4 rfl ?_
  refine lv_bipush (v := (10 : Int32)) hx hb dX9_pressureOf_5 (by decide) ?_
  refine lv_iload_n hx hb dX9_pressureOf_7 rfl (lv_at hl 1 rfl) ?_
  refine lv_iadd hx hb dX9_pressureOf_8 ?_
  refine lv_i2l hx hb dX9_pressureOf_9 rfl ?_
  obtain ⟨v10, hv10, hf⟩ := zz_b_i hf
  refine zr_cS X hR hl.1 (As := [.long (((100 : Int32) * x0)).toInt64, .long (((10 : Int32) + x1)).toInt64]) (rest := []) (mt_X9_quotient hT ((((100 : Int32) * x0)).toInt64) ((((10 : Int32) + x1)).toInt64) h n hv10) mf_X9_quotient q_1010 q_312 ⟨Nat.le_of_ble_eq_true rfl, Nat.le_of_ble_eq_true rfl⟩ ⟨Nat.le_of_ble_eq_true rfl, Nat.le_of_ble_eq_true rfl⟩ rfl (Nat.le_of_ble_eq_true rfl) dX9_pressureOf_10 (fun H locs hR => ?_)
  refine W.eq (g2 := F0 m 13 ls [.int v10]) rfl ?_
  cases hf
  exact zr_iret X hR dX9_pressureOf_13 (Nat.le_of_ble_eq_true rfl) (Nat.le_of_ble_eq_true rfl)
def rm_X9_pressure : Room := { frames := 9, cells := 5, slots := 30, locals := 154 }
theorem mf_X9_pressure : zz_Mf yX9_pressure cX9_pressure 6 (some .int) 3 := ⟨q_1006, q_1, by decide +kernel, by decide +kernel, by decide +kernel⟩
set_option maxHeartbeats 4000000 in
set_option maxRecDepth 100000 in
theorem mt_X9_pressure {D : va_G} {dA : Nat → ClassId} {base t0 : Nat} {l : Launch} (hT : l.stackTraces = false) (a0 : Nat) (x1 : Int32) (x2 : Int32) (x3 : Int32) (h : zz_H) (n : Nat) {r0 : (Int32 ⊕ Nat)} {hF : zz_H} (hf : f_X9_pressure a0 x1 x2 x3 h = some (r0, hF)) : zz_MX D dA base t0 l yX9_pressure cX9_pressure 6 (some .int) rm_X9_pressure [.ref a0, .int x1, .int x2, .int x3] h n (zz_ov (fun v : Int32 => some (Value.int v)) r0) hF n := by
  refine vx_ofW (cc := cX9_pressure) (maxL := 6) (ret := (some .int)) (by decide +kernel) rfl ?_
  intro p e s m args below meth c s₁ B hml hE hv
  obtain ⟨rfl, hP, hK⟩ := hv
  have X : zz_X D dA base t0 "Springseat" cX9_pressure 6 (some .int) l p s m meth c := ⟨B.exec, B.bytes, hml, B.returns, findClass_of_methodNamed B.named, B.notSynchronized, hT, by rw [hP.1]; exact hP.2.1, hK⟩
  have hx := X.1
  have hb := X.2.1
  have hown := X.2.2.2.2.1
  have hR : zz_R D dA base h n s s.heap [] := ⟨hP, va_S.rf⟩
  have hl := lv_entry ([.ref a0, .int x1, .int x2, .int x3]) (n := 6) (by exact Nat.le_of_ble_eq_true rfl)
  rw [lg_entry_eq]
  generalize (lg_sl ([.ref a0, .int x1, .int x2, .int x3]) ++ List.replicate (6 - (lg_sl ([.ref a0, .int x1, .int x2, .int x3])).length) Slot.unset).toArray = ls at hl ⊢
  have hl : lv_has ls 6 [(0, .ref a0), (1, .int x1), (2, .int x2), (3, .int x3)] := hl
  unfold f_X9_pressure at hf
  refine lv_aload_n hx hb dX9_pressure_0 rfl (lv_at hl 0 rfl) ?_
  refine lv_iload_n hx hb dX9_pressure_1 rfl (lv_at hl 1 rfl) ?_
  obtain ⟨fs2, ho2, hf⟩ := zz_obS_i hf
  refine zx_cV X hE hR hl.1 (As := [.int x1]) (rest := []) (C := RX9) (T := TX9) (N := 6) (ov := (fun v : Option Nat => some (va_rf v))) (fun r hr => mt_X9_bodyOf hT a0 x1 h n hr) rfl ho2 mf_X9_bodyOf q_981 q_983 qs_15 ⟨Nat.le_of_ble_eq_true rfl, Nat.le_of_ble_eq_true rfl⟩ ⟨Nat.le_of_ble_eq_true rfl, Nat.le_of_ble_eq_true rfl⟩ rfl (Nat.le_of_ble_eq_true rfl) dX9_pressure_2 hf (fun k e => by cases e; exact ⟨rfl, rfl, Nat.le_refl _⟩) (Nat.le_of_ble_eq_true rfl) (Nat.le_of_ble_eq_true rfl) (fun v2 hf H locs hR => ?_)
  refine W.eq (g2 := F0 m 5 ls [va_rf v2]) rfl ?_
  refine W.widen (k := 1) (n := 6) (Nat.le_of_ble_eq_true rfl) (Nat.le_of_ble_eq_true rfl) ?_
  refine zr_astore (i := 4) (lv' := [(4, va_rf v2), (0, .ref a0), (1, .int x1), (2, .int x2), (3, .int x3)]) hx hb dX9_pressure_5 hl (by decide) rfl (fun ls hl => ?_)
  refine lv_aload_n hx hb dX9_pressure_7 rfl (lv_at hl 1 rfl) ?_
  refine lv_iload_n hx hb dX9_pressure_8 rfl (lv_at hl 3 rfl) ?_
  obtain ⟨fs9, ho9, hf⟩ := zz_obS_i hf
  refine zx_cV X hE hR hl.1 (As := [.int x2]) (rest := []) (C := RX9) (T := TX9) (N := 6) (ov := (fun v : Option Nat => some (va_rf v))) (fun r hr => mt_X9_seatOf hT a0 x2 h n hr) rfl ho9 mf_X9_seatOf q_582 q_584 qs_9 ⟨Nat.le_of_ble_eq_true rfl, Nat.le_of_ble_eq_true rfl⟩ ⟨Nat.le_of_ble_eq_true rfl, Nat.le_of_ble_eq_true rfl⟩ rfl (Nat.le_of_ble_eq_true rfl) dX9_pressure_9 hf (fun k e => by cases e; exact ⟨rfl, rfl, Nat.le_refl _⟩) (Nat.le_of_ble_eq_true rfl) (Nat.le_of_ble_eq_true rfl) (fun v9 hf H locs hR => ?_)
  refine W.eq (g2 := F0 m 12 ls [va_rf v9]) rfl ?_
  refine W.widen (k := 2) (n := 12) (Nat.le_of_ble_eq_true rfl) (Nat.le_of_ble_eq_true rfl) ?_
  refine zr_astore (i := 5) (lv' := [(5, va_rf v9), (4, va_rf v2), (0, .ref a0), (1, .int x1), (2, .int x2), (3, .int x3)]) hx hb dX9_pressure_12 hl (by decide) (by simp [zz_cat, zz_catI, zz_catR, zz_catJ, zz_catF, zz_catD]) (fun ls hl => ?_)
  refine zr_aload hx hb dX9_pressure_14 (lv_at hl 0 rfl) ?_
  refine lv_iload_n hx hb dX9_pressure_16 rfl (lv_at hl 5 rfl) ?_
  refine zx_cS X hE hR hl.1 (As := [va_rf v9, .int x3]) (rest := []) (ov := (fun _ : Unit => (none : Option Value))) (fun r hr => mt_X9_needCell hT v9 x3 h n hr) mf_X9_needCell q_661 q_662 ⟨Nat.le_of_ble_eq_true rfl, Nat.le_of_ble_eq_true rfl⟩ ⟨Nat.le_of_ble_eq_true rfl, Nat.le_of_ble_eq_true rfl⟩ rfl (Nat.le_of_ble_eq_true rfl) dX9_pressure_17 hf (fun k e => by cases e; exact ⟨rfl, rfl, Nat.le_refl _⟩) (Nat.le_of_ble_eq_true rfl) (Nat.le_of_ble_eq_true rfl) (fun v17 hf H locs hR => ?_)
  refine W.eq (g2 := F0 m 20 ls []) rfl ?_
  refine W.widen (k := 4) (n := 24) (Nat.le_of_ble_eq_true rfl) (Nat.le_of_ble_eq_true rfl) ?_
  refine zr_aload hx hb dX9_pressure_20 (lv_at hl 0 rfl) ?_
  refine zx_cS X hE hR hl.1 (As := [va_rf v9]) (rest := []) (ov := (fun _ : Unit => (none : Option Value))) (fun r hr => mt_X9_needSprings hT v9 h n hr) mf_X9_needSprings q_992 q_993 ⟨Nat.le_of_ble_eq_true rfl, Nat.le_of_ble_eq_true rfl⟩ ⟨Nat.le_of_ble_eq_true rfl, Nat.le_of_ble_eq_true rfl⟩ rfl (Nat.le_of_ble_eq_true rfl) dX9_pressure_22 hf (fun k e => by cases e; exact ⟨rfl, rfl, Nat.le_refl _⟩) (Nat.le_of_ble_eq_true rfl) (Nat.le_of_ble_eq_true rfl) (fun v22 hf H locs hR => ?_)
  refine W.eq (g2 := F0 m 25 ls []) rfl ?_
  refine W.widen (k := 5) (n := 30) (Nat.le_of_ble_eq_true rfl) (Nat.le_of_ble_eq_true rfl) ?_
  refine zr_aload hx hb dX9_pressure_25 (lv_at hl 0 rfl) ?_
  refine zr_aload hx hb dX9_pressure_27 (lv_at hl 1 rfl) ?_
  refine lv_aload_n hx hb dX9_pressure_29 rfl (lv_at hl 2 rfl) ?_
  refine zr_gq X hR (r := (some a0)) fl_X9_28 dX9_pressure_30 hf (fun v30 hf => ?_)
  obtain ⟨b33, fs33, hr33, ho33, hf⟩ := zz_ob_i hf
  obtain ⟨u33, h33, hv33, hf⟩ := zz_b1_i hf
  refine zr_cV X hR hl.1 (As := [va_rf v2, va_rf v30]) (rest := []) (C := RX7) (T := TX7) (N := 6) (mt_X7_tellSinking hT b33 v2 v30 h n hv33) rfl ho33 mf_X7_tellSinking q_295 q_296 q_297 ⟨Nat.le_of_ble_eq_true rfl, Nat.le_of_ble_eq_true rfl⟩ ⟨Nat.le_of_ble_eq_true rfl, Nat.le_of_ble_eq_true rfl⟩ (by rw [hr33]; rfl) (Nat.le_of_ble_eq_true rfl) dX9_pressure_33 (fun H locs hR => ?_)
  refine W.eq (g2 := F0 m 36 ls []) rfl ?_
  refine zr_aload hx hb dX9_pressure_36 (lv_at hl 1 rfl) ?_
  refine lv_iload_n hx hb dX9_pressure_38 rfl (lv_at hl 5 rfl) ?_
  obtain ⟨b39, fs39, hr39, ho39, hf⟩ := zz_ob_i hf
  obtain ⟨v39, hv39, hf⟩ := zz_b_i hf
  refine zr_cV X hR hl.1 (As := [.int x3]) (rest := []) (C := RX4) (T := TX4) (N := 1) (mt_X4_at hT b39 x3 h33 n hv39) rfl ho39 mf_X4_at q_676 q_218 q_219 ⟨Nat.le_of_ble_eq_true rfl, Nat.le_of_ble_eq_true rfl⟩ ⟨Nat.le_of_ble_eq_true rfl, Nat.le_of_ble_eq_true rfl⟩ (by rw [hr39]; rfl) (Nat.le_of_ble_eq_true rfl) dX9_pressure_39 (fun H locs hR => ?_)
  refine W.eq (g2 := F0 m 42 ls [.int v39]) rfl ?_
  refine lv_aload_n hx hb dX9_pressure_42 rfl (lv_at hl 2 rfl) ?_
  refine zr_gq X hR (r := (some a0)) fl_X9_28 dX9_pressure_43 hf (fun v43 hf => ?_)
  refine lv_iload_n hx hb dX9_pressure_46 rfl (lv_at hl 5 rfl) ?_
  obtain ⟨b47, fs47, hr47, ho47, hf⟩ := zz_ob_i hf
  obtain ⟨v47, hv47, hf⟩ := zz_b_i hf
  refine zr_cV X hR hl.1 (As := [.int x3]) (rest := [.int v39]) (C := RX4) (T := TX4) (N := 1) (mt_X4_at hT b47 x3 h33 n hv47) rfl ho47 mf_X4_at q_676 q_218 q_219 ⟨Nat.le_of_ble_eq_true rfl, Nat.le_of_ble_eq_true rfl⟩ ⟨Nat.le_of_ble_eq_true rfl, Nat.le_of_ble_eq_true rfl⟩ (by rw [hr47]; rfl) (Nat.le_of_ble_eq_true rfl) dX9_pressure_47 (fun H locs hR => ?_)
  refine W.eq (g2 := F0 m 50 ls [.int v47, .int v39]) rfl ?_
  obtain ⟨v50, hv50, hf⟩ := zz_b_i hf
  refine zr_cS X hR hl.1 (As := [.int v39, .int v47]) (rest := []) (mt_X9_pressureOf hT v39 v47 h33 n hv50) mf_X9_pressureOf q_1007 q_1008 ⟨Nat.le_of_ble_eq_true rfl, Nat.le_of_ble_eq_true rfl⟩ ⟨Nat.le_of_ble_eq_true rfl, Nat.le_of_ble_eq_true rfl⟩ rfl (Nat.le_of_ble_eq_true rfl) dX9_pressure_50 (fun H locs hR => ?_)
  refine W.eq (g2 := F0 m 53 ls [.int v50]) rfl ?_
  cases hf
  exact zx_ret (zr_iret X hR dX9_pressure_53 (Nat.le_of_ble_eq_true rfl) (Nat.le_of_ble_eq_true rfl))
def rm_X9_comfort : Room := { frames := 8, cells := 3, slots := 18, locals := 132 }
theorem mf_X9_comfort : zz_Mf yX9_comfort cX9_comfort 9 (some .int) 2 := ⟨q_1017, q_1, by decide +kernel, by decide +kernel, by decide +kernel⟩
set_option maxHeartbeats 4000000 in
set_option maxRecDepth 100000 in
theorem bk_X9_comfort_94 {D : va_G} {dA : Nat → ClassId} {base t0 : Nat} {l : Launch} {p : Program} {e : Env} {s : State} {m : MethodId} {args : Array Value} {below : List Frame} {meth : Method} {c : Code} (X : zz_X D dA base t0 "Springseat" cX9_comfort 9 (some .int) l p s m meth c) (hE : ∀ x ∈ c.exceptionTable.toList, False) (hT : l.stackTraces = false) {a0 : Nat} {x3 : (Option Nat)} {x4 : (Option Nat)} {x5 : Int32} {x6 : Int32} {h : zz_H} {n : Nat} {H : Heap} {locs : List Loc} {ls : Array Slot} (hR : zz_R D dA base h n s H locs) (hl : lv_has ls 9 [(0, .ref a0), (3, va_rf x3), (4, va_rf x4), (5, .int x5), (6, .int x6)]) {r0 : (Int32 ⊕ Nat)} {hF : zz_H} {o : ((Int32 × Int32) ⊕ ((Int32 ⊕ Nat) × zz_H))} (hf : f_X9_comfort_94 a0 x3 x4 x5 x6 h = some o) (k0 : ∀ (w5 : Int32) (w6 : Int32), o = (.inl (w5, w6)) → ∀ {H : Heap} {locs : List Loc} {ls : Array Slot}, zz_R D dA base h n s H locs → lv_has ls 9 [(0, .ref a0), (3, va_rf x3), (4, va_rf x4), (5, .int w5), (6, .int w6)] → W p l e rm_X9_comfort s m args below meth c H locs 3 18 (vx_MQ below (zz_Qo D dA base (zz_ov (fun v : Int32 => some (Value.int v)) r0) hF n) (zz_Xo D dA base (zz_ov (fun v : Int32 => some (Value.int v)) r0) hF n) args s rm_X9_comfort.cells rm_X9_comfort.slots (fun q => base ≤ q)) (F0 m 34 ls [])) (hret : ∀ r, o = (.inr r) → r = (r0, hF)) : W p l e rm_X9_comfort s m args below meth c H locs 3 18 (vx_MQ below (zz_Qo D dA base (zz_ov (fun v : Int32 => some (Value.int v)) r0) hF n) (zz_Xo D dA base (zz_ov (fun v : Int32 => some (Value.int v)) r0) hF n) args s rm_X9_comfort.cells rm_X9_comfort.slots (fun q => base ≤ q)) (F0 m 94 ls []) := by
  have hx := X.1
  have hb := X.2.1
  have hown := X.2.2.2.2.1
  unfold f_X9_comfort_94 at hf
  refine lv_iinc (i := 6) (v := (x6 + (1 : Int32))) (lv' := [(6, .int (x6 + (1 : Int32))), (0, .ref a0), (3, va_rf x3), (4, va_rf x4), (5, .int x5)]) hx hb dX9_comfort_94 hl (k := 4) rfl rfl (by decide) rfl (fun ls hl => ?_)
  refine lv_goto (tgt := 34) hx hb dX9_comfort_97 (by decide) ?_
  cases hf
  exact k0 _ _ rfl hR (lv_sub hl [1, 2, 3, 4, 0] rfl)
set_option maxHeartbeats 4000000 in
set_option maxRecDepth 100000 in
theorem bk_X9_comfort_34 {D : va_G} {dA : Nat → ClassId} {base t0 : Nat} {l : Launch} {p : Program} {e : Env} {s : State} {m : MethodId} {args : Array Value} {below : List Frame} {meth : Method} {c : Code} (X : zz_X D dA base t0 "Springseat" cX9_comfort 9 (some .int) l p s m meth c) (hE : ∀ x ∈ c.exceptionTable.toList, False) (hT : l.stackTraces = false) {a0 : Nat} {x3 : (Option Nat)} {x4 : (Option Nat)} {x5 : Int32} {x6 : Int32} {h : zz_H} {n : Nat} {H : Heap} {locs : List Loc} {ls : Array Slot} (hR : zz_R D dA base h n s H locs) (hl : lv_has ls 9 [(0, .ref a0), (3, va_rf x3), (4, va_rf x4), (5, .int x5), (6, .int x6)]) {r0 : (Int32 ⊕ Nat)} {hF : zz_H} {o : ((Int32 × Int32) ⊕ ((Int32 ⊕ Nat) × zz_H))} (hf : f_X9_comfort_34 a0 x3 x4 x5 x6 h = some o) (k0 : ∀ (w5 : Int32) (w6 : Int32), o = (.inl (w5, w6)) → ∀ {H : Heap} {locs : List Loc} {ls : Array Slot}, zz_R D dA base h n s H locs → lv_has ls 9 [(0, .ref a0), (3, va_rf x3), (4, va_rf x4), (5, .int w5), (6, .int w6)] → W p l e rm_X9_comfort s m args below meth c H locs 3 18 (vx_MQ below (zz_Qo D dA base (zz_ov (fun v : Int32 => some (Value.int v)) r0) hF n) (zz_Xo D dA base (zz_ov (fun v : Int32 => some (Value.int v)) r0) hF n) args s rm_X9_comfort.cells rm_X9_comfort.slots (fun q => base ≤ q)) (F0 m 34 ls [])) (hret : ∀ r, o = (.inr r) → r = (r0, hF)) : W p l e rm_X9_comfort s m args below meth c H locs 3 18 (vx_MQ below (zz_Qo D dA base (zz_ov (fun v : Int32 => some (Value.int v)) r0) hF n) (zz_Xo D dA base (zz_ov (fun v : Int32 => some (Value.int v)) r0) hF n) args s rm_X9_comfort.cells rm_X9_comfort.slots (fun q => base ≤ q)) (F0 m 34 ls []) := by
  have hx := X.1
  have hb := X.2.1
  have hown := X.2.2.2.2.1
  unfold f_X9_comfort_34 at hf
  refine lv_iload hx hb dX9_comfort_34 (lv_at hl 4 rfl) ?_
  refine zr_aload hx hb dX9_comfort_36 (lv_at hl 2 rfl) ?_
  refine zr_gqN X hR (r := x4) fn_X9_66 dX9_comfort_38 hf (fun v38 hf => ?_)
  obtain ⟨b41, fs41, hr41, ho41, hf⟩ := zz_ob_i hf
  obtain ⟨v41, hv41, hf⟩ := zz_b_i hf
  refine zr_cV X hR hl.1 (As := []) (rest := [.int x6]) (C := RX3) (T := TX3) (N := 7) (mt_X3_cellCount hT b41 h n hv41) rfl ho41 mf_X3_cellCount q_197 q_198 q_199 ⟨Nat.le_of_ble_eq_true rfl, Nat.le_of_ble_eq_true rfl⟩ ⟨Nat.le_of_ble_eq_true rfl, Nat.le_of_ble_eq_true rfl⟩ (by rw [hr41]; rfl) (Nat.le_of_ble_eq_true rfl) dX9_comfort_41 (fun H locs hR => ?_)
  refine W.eq (g2 := F0 m 44 ls [.int v41, .int x6]) rfl ?_
  refine lv_icmp_ge (tgt := 100) hx hb dX9_comfort_44 (by decide) (fun c44 => ?_) (fun c44 => ?_)
  · replace hf := zz_pos c44 hf
    refine lv_iload hx hb dX9_comfort_100 (lv_at hl 3 rfl) ?_
    cases hf
    cases hret _ rfl
    exact zx_ret (zr_iret X hR dX9_comfort_102 (Nat.le_of_ble_eq_true rfl) (Nat.le_of_ble_eq_true rfl))
  · replace hf := zz_neg c44 hf
    refine zr_aload hx hb dX9_comfort_47 (lv_at hl 2 rfl) ?_
    refine zr_gqN X hR (r := x4) fn_X9_66 dX9_comfort_49 hf (fun v49 hf => ?_)
    refine lv_iload hx hb dX9_comfort_52 (lv_at hl 4 rfl) ?_
    obtain ⟨b54, fs54, hr54, ho54, hf⟩ := zz_ob_i hf
    obtain ⟨v54, hv54, hf⟩ := zz_b_i hf
    refine zr_cV X hR hl.1 (As := [.int x6]) (rest := []) (C := RX3) (T := TX3) (N := 7) (mt_X3_cellAt hT b54 x6 h n hv54) rfl ho54 mf_X3_cellAt q_201 q_202 q_203 ⟨Nat.le_of_ble_eq_true rfl, Nat.le_of_ble_eq_true rfl⟩ ⟨Nat.le_of_ble_eq_true rfl, Nat.le_of_ble_eq_true rfl⟩ (by rw [hr54]; rfl) (Nat.le_of_ble_eq_true rfl) dX9_comfort_54 (fun H locs hR => ?_)
    refine W.eq (g2 := F0 m 57 ls [.int v54]) rfl ?_
    refine lv_istore (i := 7) (lv' := [(7, .int v54), (0, .ref a0), (3, va_rf x3), (4, va_rf x4), (5, .int x5), (6, .int x6)]) hx hb dX9_comfort_57 hl (by decide) rfl (fun ls hl => ?_)
    refine zr_aload_n hx hb dX9_comfort_59 rfl (lv_at hl 2 rfl) ?_
    refine lv_iload hx hb dX9_comfort_60 (lv_at hl 0 rfl) ?_
    obtain ⟨b62, fs62, hr62, ho62, hf⟩ := zz_ob_i hf
    obtain ⟨v62, hv62, hf⟩ := zz_b_i hf
    refine zr_cV X hR hl.1 (As := [.int v54]) (rest := []) (C := RX4) (T := TX4) (N := 1) (mt_X4_at hT b62 v54 h n hv62) rfl ho62 mf_X4_at q_676 q_218 q_219 ⟨Nat.le_of_ble_eq_true rfl, Nat.le_of_ble_eq_true rfl⟩ ⟨Nat.le_of_ble_eq_true rfl, Nat.le_of_ble_eq_true rfl⟩ (by rw [hr62]; rfl) (Nat.le_of_ble_eq_true rfl) dX9_comfort_62 (fun H locs hR => ?_)
    refine W.eq (g2 := F0 m 65 ls [.int v62]) rfl ?_
    refine lv_istore (i := 8) (lv' := [(8, .int v62), (7, .int v54), (0, .ref a0), (3, va_rf x3), (4, va_rf x4), (5, .int x5), (6, .int x6)]) hx hb dX9_comfort_65 hl (by decide) rfl (fun ls hl => ?_)
    refine lv_iload hx hb dX9_comfort_67 (lv_at hl 0 rfl) ?_
    refine lv_if_le (tgt := 94) hx hb dX9_comfort_69 (by decide) (fun c69 => ?_) (fun c69 => ?_)
    · replace hf := zz_pos c69 hf
      exact bk_X9_comfort_94 X hE hT hR (lv_sub hl [2, 3, 4, 5, 6] rfl) hf k0 hret
    · replace hf := zz_neg c69 hf
      refine lv_iload hx hb dX9_comfort_72 (lv_at hl 0 rfl) ?_
      refine lv_aload_n hx hb dX9_comfort_74 rfl (lv_at hl 2 rfl) ?_
      refine zr_gq X hR (r := (some a0)) fl_X9_28 dX9_comfort_75 hf (fun v75 hf => ?_)
      refine lv_iload hx hb dX9_comfort_78 (lv_at hl 1 rfl) ?_
      obtain ⟨b80, fs80, hr80, ho80, hf⟩ := zz_ob_i hf
      obtain ⟨v80, hv80, hf⟩ := zz_b_i hf
      refine zr_cV X hR hl.1 (As := [.int v54]) (rest := [.int v62]) (C := RX4) (T := TX4) (N := 1) (mt_X4_at hT b80 v54 h n hv80) rfl ho80 mf_X4_at q_676 q_218 q_219 ⟨Nat.le_of_ble_eq_true rfl, Nat.le_of_ble_eq_true rfl⟩ ⟨Nat.le_of_ble_eq_true rfl, Nat.le_of_ble_eq_true rfl⟩ (by rw [hr80]; rfl) (Nat.le_of_ble_eq_true rfl) dX9_comfort_80 (fun H locs hR => ?_)
      refine W.eq (g2 := F0 m 83 ls [.int v80, .int v62]) rfl ?_
      obtain ⟨v83, hv83, hf⟩ := zz_b_i hf
      refine zr_cS X hR hl.1 (As := [.int v62, .int v80]) (rest := []) (mt_X9_pressureOf hT v62 v80 h n hv83) mf_X9_pressureOf q_1007 q_1008 ⟨Nat.le_of_ble_eq_true rfl, Nat.le_of_ble_eq_true rfl⟩ ⟨Nat.le_of_ble_eq_true rfl, Nat.le_of_ble_eq_true rfl⟩ rfl (Nat.le_of_ble_eq_true rfl) dX9_comfort_83 (fun H locs hR => ?_)
      refine W.eq (g2 := F0 m 86 ls [.int v83]) rfl ?_
      refine lv_bipush (v := (100 : Int32)) hx hb dX9_comfort_86 (by decide) ?_
      refine lv_icmp_gt (tgt := 94) hx hb dX9_comfort_88 (by decide) (fun c88 => ?_) (fun c88 => ?_)
      · replace hf := zz_pos c88 hf
        exact bk_X9_comfort_94 X hE hT hR (lv_sub hl [2, 3, 4, 5, 6] rfl) hf k0 hret
      · replace hf := zz_neg c88 hf
        refine lv_iinc (i := 5) (v := (x5 + (1 : Int32))) (lv' := [(5, .int (x5 + (1 : Int32))), (8, .int v62), (7, .int v54), (0, .ref a0), (3, va_rf x3), (4, va_rf x4), (6, .int x6)]) hx hb dX9_comfort_91 hl (k := 5) rfl rfl (by decide) (by simp [zz_cat, zz_catI, zz_catR, zz_catJ, zz_catF, zz_catD]) (fun ls hl => ?_)
        exact bk_X9_comfort_94 X hE hT hR (lv_sub hl [3, 4, 5, 0, 6] rfl) hf k0 hret
set_option maxHeartbeats 4000000 in
set_option maxRecDepth 100000 in
theorem lp_X9_comfort_34 {D : va_G} {dA : Nat → ClassId} {base t0 : Nat} {l : Launch} {p : Program} {e : Env} {s : State} {m : MethodId} {args : Array Value} {below : List Frame} {meth : Method} {c : Code} (X : zz_X D dA base t0 "Springseat" cX9_comfort 9 (some .int) l p s m meth c) (hE : ∀ x ∈ c.exceptionTable.toList, False) (hT : l.stackTraces = false) (a0 : Nat) (x3 : (Option Nat)) (x4 : (Option Nat)) {h : zz_H} {n : Nat} {r0 : (Int32 ⊕ Nat)} {hF : zz_H} : ∀ (k : Nat) (x5 : Int32) (x6 : Int32), zz_it (fun s : (Int32 × Int32) => f_X9_comfort_34 a0 x3 x4 s.1 s.2 h) k (x5, x6) = some (r0, hF) → ∀ {H : Heap} {locs : List Loc} {ls : Array Slot}, zz_R D dA base h n s H locs → lv_has ls 9 [(0, .ref a0), (3, va_rf x3), (4, va_rf x4), (5, .int x5), (6, .int x6)] → W p l e rm_X9_comfort s m args below meth c H locs 3 18 (vx_MQ below (zz_Qo D dA base (zz_ov (fun v : Int32 => some (Value.int v)) r0) hF n) (zz_Xo D dA base (zz_ov (fun v : Int32 => some (Value.int v)) r0) hF n) args s rm_X9_comfort.cells rm_X9_comfort.slots (fun q => base ≤ q)) (F0 m 34 ls []) := by
  intro k
  induction k with
  | zero => intro x5 x6 hf; cases hf
  | succ k ih =>
    intro x5 x6 hf H locs ls hR hl
    rcases zz_it_s hf with ⟨⟨y0, y1⟩, h1, h2⟩ | h1
    · exact bk_X9_comfort_34 (r0 := r0) X hE hT hR hl h1  (fun z0 z1 e => by cases e; exact ih _ _ h2) (fun r e => by cases e)
    · exact bk_X9_comfort_34 (r0 := r0) X hE hT hR hl h1  (fun z0 z1 e => by cases e) (fun r e => (Sum.inr.inj e).symm)
set_option maxHeartbeats 4000000 in
set_option maxRecDepth 100000 in
theorem mt_X9_comfort {D : va_G} {dA : Nat → ClassId} {base t0 : Nat} {l : Launch} (hT : l.stackTraces = false) (a0 : Nat) (x1 : Int32) (x2 : Int32) (h : zz_H) (n : Nat) {r0 : (Int32 ⊕ Nat)} {hF : zz_H} (hf : f_X9_comfort a0 x1 x2 h = some (r0, hF)) : zz_MX D dA base t0 l yX9_comfort cX9_comfort 9 (some .int) rm_X9_comfort [.ref a0, .int x1, .int x2] h n (zz_ov (fun v : Int32 => some (Value.int v)) r0) hF n := by
  refine vx_ofW (cc := cX9_comfort) (maxL := 9) (ret := (some .int)) (by decide +kernel) rfl ?_
  intro p e s m args below meth c s₁ B hml hE hv
  obtain ⟨rfl, hP, hK⟩ := hv
  have X : zz_X D dA base t0 "Springseat" cX9_comfort 9 (some .int) l p s m meth c := ⟨B.exec, B.bytes, hml, B.returns, findClass_of_methodNamed B.named, B.notSynchronized, hT, by rw [hP.1]; exact hP.2.1, hK⟩
  have hx := X.1
  have hb := X.2.1
  have hown := X.2.2.2.2.1
  have hR : zz_R D dA base h n s s.heap [] := ⟨hP, va_S.rf⟩
  have hl := lv_entry ([.ref a0, .int x1, .int x2]) (n := 9) (by exact Nat.le_of_ble_eq_true rfl)
  rw [lg_entry_eq]
  generalize (lg_sl ([.ref a0, .int x1, .int x2]) ++ List.replicate (9 - (lg_sl ([.ref a0, .int x1, .int x2])).length) Slot.unset).toArray = ls at hl ⊢
  have hl : lv_has ls 9 [(0, .ref a0), (1, .int x1), (2, .int x2)] := hl
  unfold f_X9_comfort at hf
  refine lv_aload_n hx hb dX9_comfort_0 rfl (lv_at hl 0 rfl) ?_
  refine lv_iload_n hx hb dX9_comfort_1 rfl (lv_at hl 1 rfl) ?_
  obtain ⟨fs2, ho2, hf⟩ := zz_obS_i hf
  refine zx_cV X hE hR hl.1 (As := [.int x1]) (rest := []) (C := RX9) (T := TX9) (N := 6) (ov := (fun v : Option Nat => some (va_rf v))) (fun r hr => mt_X9_bodyOf hT a0 x1 h n hr) rfl ho2 mf_X9_bodyOf q_981 q_983 qs_15 ⟨Nat.le_of_ble_eq_true rfl, Nat.le_of_ble_eq_true rfl⟩ ⟨Nat.le_of_ble_eq_true rfl, Nat.le_of_ble_eq_true rfl⟩ rfl (Nat.le_of_ble_eq_true rfl) dX9_comfort_2 hf (fun k e => by cases e; exact ⟨rfl, rfl, Nat.le_refl _⟩) (Nat.le_of_ble_eq_true rfl) (Nat.le_of_ble_eq_true rfl) (fun v2 hf H locs hR => ?_)
  refine W.eq (g2 := F0 m 5 ls [va_rf v2]) rfl ?_
  refine W.widen (k := 1) (n := 6) (Nat.le_of_ble_eq_true rfl) (Nat.le_of_ble_eq_true rfl) ?_
  refine zr_astore_n (i := 3) (lv' := [(3, va_rf v2), (0, .ref a0), (1, .int x1), (2, .int x2)]) hx hb dX9_comfort_5 rfl hl (by decide) rfl (fun ls hl => ?_)
  refine lv_aload_n hx hb dX9_comfort_6 rfl (lv_at hl 1 rfl) ?_
  refine lv_iload_n hx hb dX9_comfort_7 rfl (lv_at hl 3 rfl) ?_
  obtain ⟨fs8, ho8, hf⟩ := zz_obS_i hf
  refine zx_cV X hE hR hl.1 (As := [.int x2]) (rest := []) (C := RX9) (T := TX9) (N := 6) (ov := (fun v : Option Nat => some (va_rf v))) (fun r hr => mt_X9_seatOf hT a0 x2 h n hr) rfl ho8 mf_X9_seatOf q_582 q_584 qs_9 ⟨Nat.le_of_ble_eq_true rfl, Nat.le_of_ble_eq_true rfl⟩ ⟨Nat.le_of_ble_eq_true rfl, Nat.le_of_ble_eq_true rfl⟩ rfl (Nat.le_of_ble_eq_true rfl) dX9_comfort_8 hf (fun k e => by cases e; exact ⟨rfl, rfl, Nat.le_refl _⟩) (Nat.le_of_ble_eq_true rfl) (Nat.le_of_ble_eq_true rfl) (fun v8 hf H locs hR => ?_)
  refine W.eq (g2 := F0 m 11 ls [va_rf v8]) rfl ?_
  refine W.widen (k := 2) (n := 12) (Nat.le_of_ble_eq_true rfl) (Nat.le_of_ble_eq_true rfl) ?_
  refine zr_astore (i := 4) (lv' := [(4, va_rf v8), (3, va_rf v2), (0, .ref a0), (1, .int x1), (2, .int x2)]) hx hb dX9_comfort_11 hl (by decide) (by simp [zz_cat, zz_catI, zz_catR, zz_catJ, zz_catF, zz_catD]) (fun ls hl => ?_)
  refine zr_aload hx hb dX9_comfort_13 (lv_at hl 0 rfl) ?_
  refine zx_cS X hE hR hl.1 (As := [va_rf v8]) (rest := []) (ov := (fun _ : Unit => (none : Option Value))) (fun r hr => mt_X9_needSprings hT v8 h n hr) mf_X9_needSprings q_992 q_993 ⟨Nat.le_of_ble_eq_true rfl, Nat.le_of_ble_eq_true rfl⟩ ⟨Nat.le_of_ble_eq_true rfl, Nat.le_of_ble_eq_true rfl⟩ rfl (Nat.le_of_ble_eq_true rfl) dX9_comfort_15 hf (fun k e => by cases e; exact ⟨rfl, rfl, Nat.le_refl _⟩) (Nat.le_of_ble_eq_true rfl) (Nat.le_of_ble_eq_true rfl) (fun v15 hf H locs hR => ?_)
  refine W.eq (g2 := F0 m 18 ls []) rfl ?_
  refine W.widen (k := 3) (n := 18) (Nat.le_of_ble_eq_true rfl) (Nat.le_of_ble_eq_true rfl) ?_
  refine zr_aload hx hb dX9_comfort_18 (lv_at hl 0 rfl) ?_
  refine zr_aload_n hx hb dX9_comfort_20 rfl (lv_at hl 1 rfl) ?_
  refine lv_aload_n hx hb dX9_comfort_21 rfl (lv_at hl 2 rfl) ?_
  refine zr_gq X hR (r := (some a0)) fl_X9_28 dX9_comfort_22 hf (fun v22 hf => ?_)
  obtain ⟨b25, fs25, hr25, ho25, hf⟩ := zz_ob_i hf
  obtain ⟨u25, h25, hv25, hf⟩ := zz_b1_i hf
  refine zr_cV X hR hl.1 (As := [va_rf v2, va_rf v22]) (rest := []) (C := RX7) (T := TX7) (N := 6) (mt_X7_tellSinking hT b25 v2 v22 h n hv25) rfl ho25 mf_X7_tellSinking q_295 q_296 q_297 ⟨Nat.le_of_ble_eq_true rfl, Nat.le_of_ble_eq_true rfl⟩ ⟨Nat.le_of_ble_eq_true rfl, Nat.le_of_ble_eq_true rfl⟩ (by rw [hr25]; rfl) (Nat.le_of_ble_eq_true rfl) dX9_comfort_25 (fun H locs hR => ?_)
  refine W.eq (g2 := F0 m 28 ls []) rfl ?_
  refine lv_iconst (v := (0 : Int32)) hx hb dX9_comfort_28 (by decide) ?_
  refine lv_istore (i := 5) (lv' := [(5, .int (0 : Int32)), (4, va_rf v8), (3, va_rf v2), (0, .ref a0), (1, .int x1), (2, .int x2)]) hx hb dX9_comfort_29 hl (by decide) (by simp [zz_cat, zz_catI, zz_catR, zz_catJ, zz_catF, zz_catD]) (fun ls hl => ?_)
  refine lv_iconst (v := (0 : Int32)) hx hb dX9_comfort_31 (by decide) ?_
  refine lv_istore (i := 6) (lv' := [(6, .int (0 : Int32)), (5, .int (0 : Int32)), (4, va_rf v8), (3, va_rf v2), (0, .ref a0), (1, .int x1), (2, .int x2)]) hx hb dX9_comfort_32 hl (by decide) rfl (fun ls hl => ?_)
  exact lp_X9_comfort_34 X hE hT a0 v2 v8 zz_F _ _ hf hR (lv_sub hl [4, 3, 2, 1, 0] rfl)
def rm_X9_fit : Room := { frames := 8, cells := 4, slots := 24, locals := 132 }
theorem mf_X9_fit : zz_Mf yX9_fit cX9_fit 10 (some .int) 3 := ⟨q_1024, q_1, by decide +kernel, by decide +kernel, by decide +kernel⟩
set_option maxHeartbeats 4000000 in
set_option maxRecDepth 100000 in
theorem bk_X9_fit_54 {D : va_G} {dA : Nat → ClassId} {base t0 : Nat} {l : Launch} {p : Program} {e : Env} {s : State} {m : MethodId} {args : Array Value} {below : List Frame} {meth : Method} {c : Code} (X : zz_X D dA base t0 "Springseat" cX9_fit 10 (some .int) l p s m meth c) (hE : ∀ x ∈ c.exceptionTable.toList, False) (hT : l.stackTraces = false) {a0 : Nat} {x6 : (Option Nat)} {x7 : Int32} {x8 : Int32} {h : zz_H} {n : Nat} {H : Heap} {locs : List Loc} {ls : Array Slot} (hR : zz_R D dA base h n s H locs) (hl : lv_has ls 10 [(0, .ref a0), (6, va_rf x6), (7, .int x7), (8, .int x8)]) {r0 : (Int32 ⊕ Nat)} {hF : zz_H} {o : ((Int32 × Int32) ⊕ ((Int32 ⊕ Nat) × zz_H))} (hf : f_X9_fit_54 a0 x6 x7 x8 h = some o) (k0 : ∀ (w7 : Int32) (w8 : Int32), o = (.inl (w7, w8)) → ∀ {H : Heap} {locs : List Loc} {ls : Array Slot}, zz_R D dA base h n s H locs → lv_has ls 10 [(0, .ref a0), (6, va_rf x6), (7, .int w7), (8, .int w8)] → W p l e rm_X9_fit s m args below meth c H locs 4 24 (vx_MQ below (zz_Qo D dA base (zz_ov (fun v : Int32 => some (Value.int v)) r0) hF n) (zz_Xo D dA base (zz_ov (fun v : Int32 => some (Value.int v)) r0) hF n) args s rm_X9_fit.cells rm_X9_fit.slots (fun q => base ≤ q)) (F0 m 54 ls [])) (hret : ∀ r, o = (.inr r) → r = (r0, hF)) : W p l e rm_X9_fit s m args below meth c H locs 4 24 (vx_MQ below (zz_Qo D dA base (zz_ov (fun v : Int32 => some (Value.int v)) r0) hF n) (zz_Xo D dA base (zz_ov (fun v : Int32 => some (Value.int v)) r0) hF n) args s rm_X9_fit.cells rm_X9_fit.slots (fun q => base ≤ q)) (F0 m 54 ls []) := by
  have hx := X.1
  have hb := X.2.1
  have hown := X.2.2.2.2.1
  unfold f_X9_fit_54 at hf
  refine lv_iload hx hb dX9_fit_54 (lv_at hl 3 rfl) ?_
  refine zr_aload hx hb dX9_fit_56 (lv_at hl 1 rfl) ?_
  refine zr_gqN X hR (r := x6) fn_X9_66 dX9_fit_58 hf (fun v58 hf => ?_)
  obtain ⟨b61, fs61, hr61, ho61, hf⟩ := zz_ob_i hf
  obtain ⟨v61, hv61, hf⟩ := zz_b_i hf
  refine zr_cV X hR hl.1 (As := []) (rest := [.int x8]) (C := RX3) (T := TX3) (N := 7) (mt_X3_cellCount hT b61 h n hv61) rfl ho61 mf_X3_cellCount q_197 q_198 q_199 ⟨Nat.le_of_ble_eq_true rfl, Nat.le_of_ble_eq_true rfl⟩ ⟨Nat.le_of_ble_eq_true rfl, Nat.le_of_ble_eq_true rfl⟩ (by rw [hr61]; rfl) (Nat.le_of_ble_eq_true rfl) dX9_fit_61 (fun H locs hR => ?_)
  refine W.eq (g2 := F0 m 64 ls [.int v61, .int x8]) rfl ?_
  refine lv_icmp_ge (tgt := 112) hx hb dX9_fit_64 (by decide) (fun c64 => ?_) (fun c64 => ?_)
  · replace hf := zz_pos c64 hf
    refine lv_iload hx hb dX9_fit_112 (lv_at hl 2 rfl) ?_
    cases hf
    cases hret _ rfl
    exact zx_ret (zr_iret X hR dX9_fit_114 (Nat.le_of_ble_eq_true rfl) (Nat.le_of_ble_eq_true rfl))
  · replace hf := zz_neg c64 hf
    refine zr_aload hx hb dX9_fit_67 (lv_at hl 1 rfl) ?_
    refine zr_gqN X hR (r := x6) fn_X9_66 dX9_fit_69 hf (fun v69 hf => ?_)
    refine lv_iload hx hb dX9_fit_72 (lv_at hl 3 rfl) ?_
    obtain ⟨b74, fs74, hr74, ho74, hf⟩ := zz_ob_i hf
    obtain ⟨v74, hv74, hf⟩ := zz_b_i hf
    refine zr_cV X hR hl.1 (As := [.int x8]) (rest := []) (C := RX3) (T := TX3) (N := 7) (mt_X3_cellAt hT b74 x8 h n hv74) rfl ho74 mf_X3_cellAt q_201 q_202 q_203 ⟨Nat.le_of_ble_eq_true rfl, Nat.le_of_ble_eq_true rfl⟩ ⟨Nat.le_of_ble_eq_true rfl, Nat.le_of_ble_eq_true rfl⟩ (by rw [hr74]; rfl) (Nat.le_of_ble_eq_true rfl) dX9_fit_74 (fun H locs hR => ?_)
    refine W.eq (g2 := F0 m 77 ls [.int v74]) rfl ?_
    refine lv_istore (i := 9) (lv' := [(9, .int v74), (0, .ref a0), (6, va_rf x6), (7, .int x7), (8, .int x8)]) hx hb dX9_fit_77 hl (by decide) rfl (fun ls hl => ?_)
    refine lv_iload hx hb dX9_fit_79 (lv_at hl 3 rfl) ?_
    refine lv_aload_n hx hb dX9_fit_81 rfl (lv_at hl 1 rfl) ?_
    refine zr_gq X hR (r := (some a0)) fl_X9_28 dX9_fit_82 hf (fun v82 hf => ?_)
    refine lv_iload hx hb dX9_fit_85 (lv_at hl 0 rfl) ?_
    obtain ⟨b87, fs87, hr87, ho87, hf⟩ := zz_ob_i hf
    obtain ⟨v87, hv87, hf⟩ := zz_b_i hf
    refine zr_cV X hR hl.1 (As := [.int v74]) (rest := [.int x7]) (C := RX4) (T := TX4) (N := 1) (mt_X4_at hT b87 v74 h n hv87) rfl ho87 mf_X4_at q_676 q_218 q_219 ⟨Nat.le_of_ble_eq_true rfl, Nat.le_of_ble_eq_true rfl⟩ ⟨Nat.le_of_ble_eq_true rfl, Nat.le_of_ble_eq_true rfl⟩ (by rw [hr87]; rfl) (Nat.le_of_ble_eq_true rfl) dX9_fit_87 (fun H locs hR => ?_)
    refine W.eq (g2 := F0 m 90 ls [.int v87, .int x7]) rfl ?_
    refine lv_aload_n hx hb dX9_fit_90 rfl (lv_at hl 1 rfl) ?_
    refine zr_gq X hR (r := (some a0)) fl_X9_32 dX9_fit_91 hf (fun v91 hf => ?_)
    refine lv_iload hx hb dX9_fit_94 (lv_at hl 0 rfl) ?_
    obtain ⟨b96, fs96, hr96, ho96, hf⟩ := zz_ob_i hf
    obtain ⟨v96, hv96, hf⟩ := zz_b_i hf
    refine zr_cV X hR hl.1 (As := [.int v74]) (rest := [.int v87, .int x7]) (C := RX4) (T := TX4) (N := 1) (mt_X4_at hT b96 v74 h n hv96) rfl ho96 mf_X4_at q_676 q_218 q_219 ⟨Nat.le_of_ble_eq_true rfl, Nat.le_of_ble_eq_true rfl⟩ ⟨Nat.le_of_ble_eq_true rfl, Nat.le_of_ble_eq_true rfl⟩ (by rw [hr96]; rfl) (Nat.le_of_ble_eq_true rfl) dX9_fit_96 (fun H locs hR => ?_)
    refine W.eq (g2 := F0 m 99 ls [.int v96, .int v87, .int x7]) rfl ?_
    refine lv_isub hx hb dX9_fit_99 ?_
    refine zr_abs X hl.1 q_700 q_333 q_8 q_334 (Nat.le_of_ble_eq_true rfl) ⟨Nat.le_of_ble_eq_true rfl, Nat.le_of_ble_eq_true rfl⟩ ⟨Nat.le_of_ble_eq_true rfl, Nat.le_of_ble_eq_true rfl⟩ dX9_fit_100 ?_
    refine W.eq (g2 := F0 m 103 ls [.int (zz_abs (v87 - v96)), .int x7]) rfl ?_
    refine lv_iadd hx hb dX9_fit_103 ?_
    refine lv_istore (i := 7) (lv' := [(7, .int (x7 + (zz_abs (v87 - v96)))), (9, .int v74), (0, .ref a0), (6, va_rf x6), (8, .int x8)]) hx hb dX9_fit_104 hl (by decide) (by simp [zz_cat, zz_catI, zz_catR, zz_catJ, zz_catF, zz_catD]) (fun ls hl => ?_)
    refine lv_iinc (i := 8) (v := (x8 + (1 : Int32))) (lv' := [(8, .int (x8 + (1 : Int32))), (7, .int (x7 + (zz_abs (v87 - v96)))), (9, .int v74), (0, .ref a0), (6, va_rf x6)]) hx hb dX9_fit_106 hl (k := 4) rfl rfl (by decide) rfl (fun ls hl => ?_)
    refine lv_goto (tgt := 54) hx hb dX9_fit_109 (by decide) ?_
    cases hf
    exact k0 _ _ rfl hR (lv_sub hl [3, 4, 1, 0] rfl)
set_option maxHeartbeats 4000000 in
set_option maxRecDepth 100000 in
theorem lp_X9_fit_54 {D : va_G} {dA : Nat → ClassId} {base t0 : Nat} {l : Launch} {p : Program} {e : Env} {s : State} {m : MethodId} {args : Array Value} {below : List Frame} {meth : Method} {c : Code} (X : zz_X D dA base t0 "Springseat" cX9_fit 10 (some .int) l p s m meth c) (hE : ∀ x ∈ c.exceptionTable.toList, False) (hT : l.stackTraces = false) (a0 : Nat) (x6 : (Option Nat)) {h : zz_H} {n : Nat} {r0 : (Int32 ⊕ Nat)} {hF : zz_H} : ∀ (k : Nat) (x7 : Int32) (x8 : Int32), zz_it (fun s : (Int32 × Int32) => f_X9_fit_54 a0 x6 s.1 s.2 h) k (x7, x8) = some (r0, hF) → ∀ {H : Heap} {locs : List Loc} {ls : Array Slot}, zz_R D dA base h n s H locs → lv_has ls 10 [(0, .ref a0), (6, va_rf x6), (7, .int x7), (8, .int x8)] → W p l e rm_X9_fit s m args below meth c H locs 4 24 (vx_MQ below (zz_Qo D dA base (zz_ov (fun v : Int32 => some (Value.int v)) r0) hF n) (zz_Xo D dA base (zz_ov (fun v : Int32 => some (Value.int v)) r0) hF n) args s rm_X9_fit.cells rm_X9_fit.slots (fun q => base ≤ q)) (F0 m 54 ls []) := by
  intro k
  induction k with
  | zero => intro x7 x8 hf; cases hf
  | succ k ih =>
    intro x7 x8 hf H locs ls hR hl
    rcases zz_it_s hf with ⟨⟨y0, y1⟩, h1, h2⟩ | h1
    · exact bk_X9_fit_54 (r0 := r0) X hE hT hR hl h1  (fun z0 z1 e => by cases e; exact ih _ _ h2) (fun r e => by cases e)
    · exact bk_X9_fit_54 (r0 := r0) X hE hT hR hl h1  (fun z0 z1 e => by cases e) (fun r e => (Sum.inr.inj e).symm)
set_option maxHeartbeats 4000000 in
set_option maxRecDepth 100000 in
theorem mt_X9_fit {D : va_G} {dA : Nat → ClassId} {base t0 : Nat} {l : Launch} (hT : l.stackTraces = false) (a0 : Nat) (x1 : Int32) (x2 : Int32) (x3 : Int32) (h : zz_H) (n : Nat) {r0 : (Int32 ⊕ Nat)} {hF : zz_H} (hf : f_X9_fit a0 x1 x2 x3 h = some (r0, hF)) : zz_MX D dA base t0 l yX9_fit cX9_fit 10 (some .int) rm_X9_fit [.ref a0, .int x1, .int x2, .int x3] h n (zz_ov (fun v : Int32 => some (Value.int v)) r0) hF n := by
  refine vx_ofW (cc := cX9_fit) (maxL := 10) (ret := (some .int)) (by decide +kernel) rfl ?_
  intro p e s m args below meth c s₁ B hml hE hv
  obtain ⟨rfl, hP, hK⟩ := hv
  have X : zz_X D dA base t0 "Springseat" cX9_fit 10 (some .int) l p s m meth c := ⟨B.exec, B.bytes, hml, B.returns, findClass_of_methodNamed B.named, B.notSynchronized, hT, by rw [hP.1]; exact hP.2.1, hK⟩
  have hx := X.1
  have hb := X.2.1
  have hown := X.2.2.2.2.1
  have hR : zz_R D dA base h n s s.heap [] := ⟨hP, va_S.rf⟩
  have hl := lv_entry ([.ref a0, .int x1, .int x2, .int x3]) (n := 10) (by exact Nat.le_of_ble_eq_true rfl)
  rw [lg_entry_eq]
  generalize (lg_sl ([.ref a0, .int x1, .int x2, .int x3]) ++ List.replicate (10 - (lg_sl ([.ref a0, .int x1, .int x2, .int x3])).length) Slot.unset).toArray = ls at hl ⊢
  have hl : lv_has ls 10 [(0, .ref a0), (1, .int x1), (2, .int x2), (3, .int x3)] := hl
  unfold f_X9_fit at hf
  refine lv_aload_n hx hb dX9_fit_0 rfl (lv_at hl 0 rfl) ?_
  refine lv_iload_n hx hb dX9_fit_1 rfl (lv_at hl 1 rfl) ?_
  obtain ⟨fs2, ho2, hf⟩ := zz_obS_i hf
  refine zx_cV X hE hR hl.1 (As := [.int x1]) (rest := []) (C := RX9) (T := TX9) (N := 6) (ov := (fun v : Option Nat => some (va_rf v))) (fun r hr => mt_X9_bodyOf hT a0 x1 h n hr) rfl ho2 mf_X9_bodyOf q_981 q_983 qs_15 ⟨Nat.le_of_ble_eq_true rfl, Nat.le_of_ble_eq_true rfl⟩ ⟨Nat.le_of_ble_eq_true rfl, Nat.le_of_ble_eq_true rfl⟩ rfl (Nat.le_of_ble_eq_true rfl) dX9_fit_2 hf (fun k e => by cases e; exact ⟨rfl, rfl, Nat.le_refl _⟩) (Nat.le_of_ble_eq_true rfl) (Nat.le_of_ble_eq_true rfl) (fun v2 hf H locs hR => ?_)
  refine W.eq (g2 := F0 m 5 ls [va_rf v2]) rfl ?_
  refine W.widen (k := 1) (n := 6) (Nat.le_of_ble_eq_true rfl) (Nat.le_of_ble_eq_true rfl) ?_
  refine zr_astore (i := 4) (lv' := [(4, va_rf v2), (0, .ref a0), (1, .int x1), (2, .int x2), (3, .int x3)]) hx hb dX9_fit_5 hl (by decide) rfl (fun ls hl => ?_)
  refine lv_aload_n hx hb dX9_fit_7 rfl (lv_at hl 1 rfl) ?_
  refine lv_iload_n hx hb dX9_fit_8 rfl (lv_at hl 3 rfl) ?_
  obtain ⟨fs9, ho9, hf⟩ := zz_obS_i hf
  refine zx_cV X hE hR hl.1 (As := [.int x2]) (rest := []) (C := RX9) (T := TX9) (N := 6) (ov := (fun v : Option Nat => some (va_rf v))) (fun r hr => mt_X9_bodyOf hT a0 x2 h n hr) rfl ho9 mf_X9_bodyOf q_981 q_983 qs_15 ⟨Nat.le_of_ble_eq_true rfl, Nat.le_of_ble_eq_true rfl⟩ ⟨Nat.le_of_ble_eq_true rfl, Nat.le_of_ble_eq_true rfl⟩ rfl (Nat.le_of_ble_eq_true rfl) dX9_fit_9 hf (fun k e => by cases e; exact ⟨rfl, rfl, Nat.le_refl _⟩) (Nat.le_of_ble_eq_true rfl) (Nat.le_of_ble_eq_true rfl) (fun v9 hf H locs hR => ?_)
  refine W.eq (g2 := F0 m 12 ls [va_rf v9]) rfl ?_
  refine W.widen (k := 2) (n := 12) (Nat.le_of_ble_eq_true rfl) (Nat.le_of_ble_eq_true rfl) ?_
  refine zr_astore (i := 5) (lv' := [(5, va_rf v9), (4, va_rf v2), (0, .ref a0), (1, .int x1), (2, .int x2), (3, .int x3)]) hx hb dX9_fit_12 hl (by decide) (by simp [zz_cat, zz_catI, zz_catR, zz_catJ, zz_catF, zz_catD]) (fun ls hl => ?_)
  refine lv_aload_n hx hb dX9_fit_14 rfl (lv_at hl 2 rfl) ?_
  refine lv_iload_n hx hb dX9_fit_15 rfl (lv_at hl 5 rfl) ?_
  obtain ⟨fs16, ho16, hf⟩ := zz_obS_i hf
  refine zx_cV X hE hR hl.1 (As := [.int x3]) (rest := []) (C := RX9) (T := TX9) (N := 6) (ov := (fun v : Option Nat => some (va_rf v))) (fun r hr => mt_X9_seatOf hT a0 x3 h n hr) rfl ho16 mf_X9_seatOf q_582 q_584 qs_9 ⟨Nat.le_of_ble_eq_true rfl, Nat.le_of_ble_eq_true rfl⟩ ⟨Nat.le_of_ble_eq_true rfl, Nat.le_of_ble_eq_true rfl⟩ rfl (Nat.le_of_ble_eq_true rfl) dX9_fit_16 hf (fun k e => by cases e; exact ⟨rfl, rfl, Nat.le_refl _⟩) (Nat.le_of_ble_eq_true rfl) (Nat.le_of_ble_eq_true rfl) (fun v16 hf H locs hR => ?_)
  refine W.eq (g2 := F0 m 19 ls [va_rf v16]) rfl ?_
  refine W.widen (k := 3) (n := 18) (Nat.le_of_ble_eq_true rfl) (Nat.le_of_ble_eq_true rfl) ?_
  refine zr_astore (i := 6) (lv' := [(6, va_rf v16), (5, va_rf v9), (4, va_rf v2), (0, .ref a0), (1, .int x1), (2, .int x2), (3, .int x3)]) hx hb dX9_fit_19 hl (by decide) (by simp [zz_cat, zz_catI, zz_catR, zz_catJ, zz_catF, zz_catD]) (fun ls hl => ?_)
  refine zr_aload hx hb dX9_fit_21 (lv_at hl 0 rfl) ?_
  refine zx_cS X hE hR hl.1 (As := [va_rf v16]) (rest := []) (ov := (fun _ : Unit => (none : Option Value))) (fun r hr => mt_X9_needSprings hT v16 h n hr) mf_X9_needSprings q_992 q_993 ⟨Nat.le_of_ble_eq_true rfl, Nat.le_of_ble_eq_true rfl⟩ ⟨Nat.le_of_ble_eq_true rfl, Nat.le_of_ble_eq_true rfl⟩ rfl (Nat.le_of_ble_eq_true rfl) dX9_fit_23 hf (fun k e => by cases e; exact ⟨rfl, rfl, Nat.le_refl _⟩) (Nat.le_of_ble_eq_true rfl) (Nat.le_of_ble_eq_true rfl) (fun v23 hf H locs hR => ?_)
  refine W.eq (g2 := F0 m 26 ls []) rfl ?_
  refine W.widen (k := 4) (n := 24) (Nat.le_of_ble_eq_true rfl) (Nat.le_of_ble_eq_true rfl) ?_
  refine zr_aload hx hb dX9_fit_26 (lv_at hl 0 rfl) ?_
  refine zr_aload hx hb dX9_fit_28 (lv_at hl 2 rfl) ?_
  refine lv_aload_n hx hb dX9_fit_30 rfl (lv_at hl 3 rfl) ?_
  refine zr_gq X hR (r := (some a0)) fl_X9_28 dX9_fit_31 hf (fun v31 hf => ?_)
  obtain ⟨b34, fs34, hr34, ho34, hf⟩ := zz_ob_i hf
  obtain ⟨u34, h34, hv34, hf⟩ := zz_b1_i hf
  refine zr_cV X hR hl.1 (As := [va_rf v2, va_rf v31]) (rest := []) (C := RX7) (T := TX7) (N := 6) (mt_X7_tellSinking hT b34 v2 v31 h n hv34) rfl ho34 mf_X7_tellSinking q_295 q_296 q_297 ⟨Nat.le_of_ble_eq_true rfl, Nat.le_of_ble_eq_true rfl⟩ ⟨Nat.le_of_ble_eq_true rfl, Nat.le_of_ble_eq_true rfl⟩ (by rw [hr34]; rfl) (Nat.le_of_ble_eq_true rfl) dX9_fit_34 (fun H locs hR => ?_)
  refine W.eq (g2 := F0 m 37 ls []) rfl ?_
  refine zr_aload hx hb dX9_fit_37 (lv_at hl 0 rfl) ?_
  refine zr_aload hx hb dX9_fit_39 (lv_at hl 1 rfl) ?_
  refine lv_aload_n hx hb dX9_fit_41 rfl (lv_at hl 3 rfl) ?_
  refine zr_gq X hR (r := (some a0)) fl_X9_32 dX9_fit_42 hf (fun v42 hf => ?_)
  obtain ⟨b45, fs45, hr45, ho45, hf⟩ := zz_ob_i hf
  obtain ⟨u45, h45, hv45, hf⟩ := zz_b1_i hf
  refine zr_cV X hR hl.1 (As := [va_rf v9, va_rf v42]) (rest := []) (C := RX7) (T := TX7) (N := 6) (mt_X7_tellSinking hT b45 v9 v42 h34 n hv45) rfl ho45 mf_X7_tellSinking q_295 q_296 q_297 ⟨Nat.le_of_ble_eq_true rfl, Nat.le_of_ble_eq_true rfl⟩ ⟨Nat.le_of_ble_eq_true rfl, Nat.le_of_ble_eq_true rfl⟩ (by rw [hr45]; rfl) (Nat.le_of_ble_eq_true rfl) dX9_fit_45 (fun H locs hR => ?_)
  refine W.eq (g2 := F0 m 48 ls []) rfl ?_
  refine lv_iconst (v := (0 : Int32)) hx hb dX9_fit_48 (by decide) ?_
  refine lv_istore (i := 7) (lv' := [(7, .int (0 : Int32)), (6, va_rf v16), (5, va_rf v9), (4, va_rf v2), (0, .ref a0), (1, .int x1), (2, .int x2), (3, .int x3)]) hx hb dX9_fit_49 hl (by decide) (by simp [zz_cat, zz_catI, zz_catR, zz_catJ, zz_catF, zz_catD]) (fun ls hl => ?_)
  refine lv_iconst (v := (0 : Int32)) hx hb dX9_fit_51 (by decide) ?_
  refine lv_istore (i := 8) (lv' := [(8, .int (0 : Int32)), (7, .int (0 : Int32)), (6, va_rf v16), (5, va_rf v9), (4, va_rf v2), (0, .ref a0), (1, .int x1), (2, .int x2), (3, .int x3)]) hx hb dX9_fit_52 hl (by decide) rfl (fun ls hl => ?_)
  exact lp_X9_fit_54 X hE hT a0 v16 zz_F _ _ hf hR (lv_sub hl [5, 2, 1, 0] rfl)
def rm_X9_cloth : Room := { frames := 7, cells := 6, slots := 43, locals := 112 }
theorem mf_X9_cloth : zz_Mf yX9_cloth cX9_cloth 3 (some .int) 2 := ⟨q_1031, q_1, by decide +kernel, by decide +kernel, by decide +kernel⟩
set_option maxHeartbeats 4000000 in
set_option maxRecDepth 100000 in
theorem mt_X9_cloth {D : va_G} {dA : Nat → ClassId} {base t0 : Nat} {l : Launch} (hT : l.stackTraces = false) (a0 : Nat) (x1 : Int32) (x2 : Int32) (h : zz_H) (n : Nat) {r0 : (Int32 ⊕ Nat)} {hF : zz_H} {nF : Nat} (hf : f_X9_cloth t0 a0 x1 x2 h n = some (r0, hF, nF)) : zz_MX D dA base t0 l yX9_cloth cX9_cloth 3 (some .int) rm_X9_cloth [.ref a0, .int x1, .int x2] h n (zz_ov (fun v : Int32 => some (Value.int v)) r0) hF nF := by
  refine vx_ofW (cc := cX9_cloth) (maxL := 3) (ret := (some .int)) (by decide +kernel) rfl ?_
  intro p e s m args below meth c s₁ B hml hE hv
  obtain ⟨rfl, hP, hK⟩ := hv
  have X : zz_X D dA base t0 "Springseat" cX9_cloth 3 (some .int) l p s m meth c := ⟨B.exec, B.bytes, hml, B.returns, findClass_of_methodNamed B.named, B.notSynchronized, hT, by rw [hP.1]; exact hP.2.1, hK⟩
  have hx := X.1
  have hb := X.2.1
  have hown := X.2.2.2.2.1
  have hR : zz_R D dA base h n s s.heap [] := ⟨hP, va_S.rf⟩
  have hl := lv_entry ([.ref a0, .int x1, .int x2]) (n := 3) (by exact Nat.le_of_ble_eq_true rfl)
  rw [lg_entry_eq]
  generalize (lg_sl ([.ref a0, .int x1, .int x2]) ++ List.replicate (3 - (lg_sl ([.ref a0, .int x1, .int x2])).length) Slot.unset).toArray = ls at hl ⊢
  have hl : lv_has ls 3 [(0, .ref a0), (1, .int x1), (2, .int x2)] := hl
  unfold f_X9_cloth at hf
  refine lv_iload_n hx hb dX9_cloth_0 rfl (lv_at hl 1 rfl) ?_
  refine lv_bipush (v := (50 : Int32)) hx hb dX9_cloth_1 (by decide) ?_
  refine lv_sipush (v := (2000 : Int32)) hx hb dX9_cloth_3 (by decide) ?_
  refine zx_cS X hE hR hl.1 (As := [.int x1, .int (50 : Int32), .int (2000 : Int32)]) (rest := []) (ov := (fun _ : Unit => (none : Option Value))) (fun r hr => mt_X9_needRange hT x1 (50 : Int32) (2000 : Int32) h n hr) mf_X9_needRange q_344 q_345 ⟨Nat.le_of_ble_eq_true rfl, Nat.le_of_ble_eq_true rfl⟩ ⟨Nat.le_of_ble_eq_true rfl, Nat.le_of_ble_eq_true rfl⟩ rfl (Nat.le_of_ble_eq_true rfl) dX9_cloth_6 hf (fun k e => by cases e; exact ⟨rfl, rfl, Nat.le_refl _⟩) (Nat.le_of_ble_eq_true rfl) (Nat.le_of_ble_eq_true rfl) (fun v6 hf H locs hR => ?_)
  refine W.eq (g2 := F0 m 9 ls []) rfl ?_
  refine W.widen (k := 1) (n := 6) (Nat.le_of_ble_eq_true rfl) (Nat.le_of_ble_eq_true rfl) ?_
  refine lv_iload_n hx hb dX9_cloth_9 rfl (lv_at hl 2 rfl) ?_
  refine lv_iconst (v := (1 : Int32)) hx hb dX9_cloth_10 (by decide) ?_
  refine lv_bipush (v := (60 : Int32)) hx hb dX9_cloth_11 (by decide) ?_
  refine zx_cS X hE hR hl.1 (As := [.int x2, .int (1 : Int32), .int (60 : Int32)]) (rest := []) (ov := (fun _ : Unit => (none : Option Value))) (fun r hr => mt_X9_needRange hT x2 (1 : Int32) (60 : Int32) h n hr) mf_X9_needRange q_344 q_345 ⟨Nat.le_of_ble_eq_true rfl, Nat.le_of_ble_eq_true rfl⟩ ⟨Nat.le_of_ble_eq_true rfl, Nat.le_of_ble_eq_true rfl⟩ rfl (Nat.le_of_ble_eq_true rfl) dX9_cloth_13 hf (fun k e => by cases e; exact ⟨rfl, rfl, Nat.le_refl _⟩) (Nat.le_of_ble_eq_true rfl) (Nat.le_of_ble_eq_true rfl) (fun v13 hf H locs hR => ?_)
  refine W.eq (g2 := F0 m 16 ls []) rfl ?_
  refine W.widen (k := 2) (n := 12) (Nat.le_of_ble_eq_true rfl) (Nat.le_of_ble_eq_true rfl) ?_
  refine lv_aload_n hx hb dX9_cloth_16 rfl (lv_at hl 0 rfl) ?_
  refine zr_gq X hR (r := (some a0)) fl_X9_19 dX9_cloth_17 hf (fun v17 hf => ?_)
  obtain ⟨b20, fs20, hr20, ho20, hf⟩ := zz_ob_i hf
  obtain ⟨v20, hv20, hf⟩ := zz_b_i hf
  refine zr_cV X hR hl.1 (As := []) (rest := []) (C := RJx4a65c) (T := TJx4a65c) (N := 3) (mt_Jx4a65c_size_8abf5 hT b20 h n hv20) rfl ho20 mf_Jx4a65c_size_8abf5 q_177 q_178 q_179 ⟨Nat.le_of_ble_eq_true rfl, Nat.le_of_ble_eq_true rfl⟩ ⟨Nat.le_of_ble_eq_true rfl, Nat.le_of_ble_eq_true rfl⟩ (by rw [hr20]; rfl) (Nat.le_of_ble_eq_true rfl) dX9_cloth_20 (fun H locs hR => ?_)
  refine W.eq (g2 := F0 m 23 ls [.int v20]) rfl ?_
  refine lv_iconst (v := (4 : Int32)) hx hb dX9_cloth_23 (by decide) ?_
  refine zx_cS X hE hR hl.1 (As := [.int v20, .int (4 : Int32)]) (rest := []) (ov := (fun _ : Unit => (none : Option Value))) (fun r hr => mt_X9_needRoom hT v20 (4 : Int32) h n hr) mf_X9_needRoom q_417 q_418 ⟨Nat.le_of_ble_eq_true rfl, Nat.le_of_ble_eq_true rfl⟩ ⟨Nat.le_of_ble_eq_true rfl, Nat.le_of_ble_eq_true rfl⟩ rfl (Nat.le_of_ble_eq_true rfl) dX9_cloth_24 hf (fun k e => by cases e; exact ⟨rfl, rfl, Nat.le_refl _⟩) (Nat.le_of_ble_eq_true rfl) (Nat.le_of_ble_eq_true rfl) (fun v24 hf H locs hR => ?_)
  refine W.eq (g2 := F0 m 27 ls []) rfl ?_
  refine W.widen (k := 3) (n := 18) (Nat.le_of_ble_eq_true rfl) (Nat.le_of_ble_eq_true rfl) ?_
  refine lv_aload_n hx hb dX9_cloth_27 rfl (lv_at hl 0 rfl) ?_
  refine zr_gq X hR (r := (some a0)) fl_X9_19 dX9_cloth_28 hf (fun v28 hf => ?_)
  refine zr_new X hR (fs := [.int 0, .int 0, .null, .int 0, .int 0]) zc1 q_777 q_280 q_28 (fun j hj => by rcases (show j = 0 ∨ j = 1 ∨ j = 2 ∨ j = 3 ∨ j = 4 by omega) with rfl | rfl | rfl | rfl | rfl <;> rfl) (Nat.le_of_ble_eq_true rfl) (Nat.le_of_ble_eq_true rfl) dX9_cloth_31 (fun H hR => ?_)
  refine W.widen (k := 4) (n := 23) (Nat.le_of_ble_eq_true rfl) (Nat.le_of_ble_eq_true rfl) ?_
  refine lv_dup hx hb dX9_cloth_34 rfl ?_
  refine lv_iload_n hx hb dX9_cloth_35 rfl (lv_at hl 1 rfl) ?_
  refine lv_iload_n hx hb dX9_cloth_36 rfl (lv_at hl 2 rfl) ?_
  obtain ⟨u37, h37, n37, hv37, hf⟩ := zz_b2_i hf
  refine zr_cI X hR hl.1 (As := [.int x1, .int x2]) (rest := [.ref n, va_rf v28]) (mt_X0_init hT n x1 x2 (zz_u h n (.inr (1, [.int 0, .int 0, .null, .int 0, .int 0]))) (n + 1) hv37) mf_X0_init rfl q_1032 q_1033 ⟨Nat.le_of_ble_eq_true rfl, Nat.le_of_ble_eq_true rfl⟩ ⟨Nat.le_of_ble_eq_true rfl, Nat.le_of_ble_eq_true rfl⟩ rfl (Nat.le_of_ble_eq_true rfl) dX9_cloth_37 (fun H locs hR => ?_)
  refine W.eq (g2 := F0 m 40 ls [.ref n, va_rf v28]) rfl ?_
  refine W.widen (k := 5) (n := 33) (Nat.le_of_ble_eq_true rfl) (Nat.le_of_ble_eq_true rfl) ?_
  obtain ⟨b40, fs40, hr40, ho40, hf⟩ := zz_ob_i hf
  obtain ⟨v40, h40, n40, hv40, hf⟩ := zz_b2_i hf
  refine zr_cV X hR hl.1 (As := [.ref n]) (rest := []) (C := RJx4a65c) (T := TJx4a65c) (N := 3) (mt_Jx4a65c_add_9ea2d hT b40 (some n) h37 n37 hv40) rfl ho40 mf_Jx4a65c_add_9ea2d q_89 q_90 q_91 ⟨Nat.le_of_ble_eq_true rfl, Nat.le_of_ble_eq_true rfl⟩ ⟨Nat.le_of_ble_eq_true rfl, Nat.le_of_ble_eq_true rfl⟩ (by rw [hr40]; rfl) (Nat.le_of_ble_eq_true rfl) dX9_cloth_40 (fun H locs hR => ?_)
  refine W.eq (g2 := F0 m 43 ls [.int v40]) rfl ?_
  refine W.widen (k := 6) (n := 43) (Nat.le_of_ble_eq_true rfl) (Nat.le_of_ble_eq_true rfl) ?_
  refine lv_pop hx hb dX9_cloth_43 rfl ?_
  refine lv_aload_n hx hb dX9_cloth_44 rfl (lv_at hl 0 rfl) ?_
  refine zr_gq X hR (r := (some a0)) fl_X9_19 dX9_cloth_45 hf (fun v45 hf => ?_)
  obtain ⟨b48, fs48, hr48, ho48, hf⟩ := zz_ob_i hf
  obtain ⟨v48, hv48, hf⟩ := zz_b_i hf
  refine zr_cV X hR hl.1 (As := []) (rest := []) (C := RJx4a65c) (T := TJx4a65c) (N := 3) (mt_Jx4a65c_size_8abf5 hT b48 h40 n40 hv48) rfl ho48 mf_Jx4a65c_size_8abf5 q_177 q_178 q_179 ⟨Nat.le_of_ble_eq_true rfl, Nat.le_of_ble_eq_true rfl⟩ ⟨Nat.le_of_ble_eq_true rfl, Nat.le_of_ble_eq_true rfl⟩ (by rw [hr48]; rfl) (Nat.le_of_ble_eq_true rfl) dX9_cloth_48 (fun H locs hR => ?_)
  refine W.eq (g2 := F0 m 51 ls [.int v48]) rfl ?_
  refine lv_iconst (v := (1 : Int32)) hx hb dX9_cloth_51 (by decide) ?_
  refine lv_isub hx hb dX9_cloth_52 ?_
  cases hf
  exact zx_ret (zr_iret X hR dX9_cloth_53 (Nat.le_of_ble_eq_true rfl) (Nat.le_of_ble_eq_true rfl))
def rm_X9_flaw : Room := { frames := 8, cells := 3, slots := 18, locals := 132 }
theorem mf_X9_flaw : zz_Mf yX9_flaw cX9_flaw 4 (some .int) 2 := ⟨q_1062, q_1, by decide +kernel, by decide +kernel, by decide +kernel⟩
set_option maxHeartbeats 4000000 in
set_option maxRecDepth 100000 in
theorem bk_X9_flaw_33 {D : va_G} {dA : Nat → ClassId} {base t0 : Nat} {l : Launch} {p : Program} {e : Env} {s : State} {m : MethodId} {args : Array Value} {below : List Frame} {meth : Method} {c : Code} (X : zz_X D dA base t0 "Springseat" cX9_flaw 4 (some .int) l p s m meth c) (hE : ∀ x ∈ c.exceptionTable.toList, False) (hT : l.stackTraces = false) {h : zz_H} {n : Nat} {H : Heap} {locs : List Loc} {ls : Array Slot} (hR : zz_R D dA base h n s H locs) (hl : lv_has ls 4 []) {r0 : (Int32 ⊕ Nat)} {hF : zz_H} (hf : f_X9_flaw_33 h = some (r0, hF)) : W p l e rm_X9_flaw s m args below meth c H locs 2 12 (vx_MQ below (zz_Qo D dA base (zz_ov (fun v : Int32 => some (Value.int v)) r0) hF n) (zz_Xo D dA base (zz_ov (fun v : Int32 => some (Value.int v)) r0) hF n) args s rm_X9_flaw.cells rm_X9_flaw.slots (fun q => base ≤ q)) (F0 m 33 ls []) := by
  have hx := X.1
  have hb := X.2.1
  have hown := X.2.2.2.2.1
  unfold f_X9_flaw_33 at hf
  cases hf
  exact zx_throwW X hE hR hl.1 (k := 3) (names := ["java/lang/RuntimeException", "java/lang/Exception"]) tw_10_184.1 tw_10_184.2.1 rfl q_616 q_25 (List.mem_of_getElem? (i := 11) rfl) tw_10_184.2.2.1 tw_10_184.2.2.2 dX9_flaw_33 dX9_flaw_36 dX9_flaw_37 dX9_flaw_40 dX9_flaw_43 (Nat.le_of_ble_eq_true rfl) ⟨Nat.le_of_ble_eq_true rfl, Nat.le_of_ble_eq_true rfl⟩ ⟨Nat.le_of_ble_eq_true rfl, Nat.le_of_ble_eq_true rfl⟩ (Nat.le_of_ble_eq_true rfl) (Nat.le_of_ble_eq_true rfl) (Nat.le_refl _)
set_option maxHeartbeats 4000000 in
set_option maxRecDepth 100000 in
theorem mt_X9_flaw {D : va_G} {dA : Nat → ClassId} {base t0 : Nat} {l : Launch} (hT : l.stackTraces = false) (a0 : Nat) (x1 : Int32) (x2 : Int32) (h : zz_H) (n : Nat) {r0 : (Int32 ⊕ Nat)} {hF : zz_H} (hf : f_X9_flaw a0 x1 x2 h = some (r0, hF)) : zz_MX D dA base t0 l yX9_flaw cX9_flaw 4 (some .int) rm_X9_flaw [.ref a0, .int x1, .int x2] h n (zz_ov (fun v : Int32 => some (Value.int v)) r0) hF n := by
  refine vx_ofW (cc := cX9_flaw) (maxL := 4) (ret := (some .int)) (by decide +kernel) rfl ?_
  intro p e s m args below meth c s₁ B hml hE hv
  obtain ⟨rfl, hP, hK⟩ := hv
  have X : zz_X D dA base t0 "Springseat" cX9_flaw 4 (some .int) l p s m meth c := ⟨B.exec, B.bytes, hml, B.returns, findClass_of_methodNamed B.named, B.notSynchronized, hT, by rw [hP.1]; exact hP.2.1, hK⟩
  have hx := X.1
  have hb := X.2.1
  have hown := X.2.2.2.2.1
  have hR : zz_R D dA base h n s s.heap [] := ⟨hP, va_S.rf⟩
  have hl := lv_entry ([.ref a0, .int x1, .int x2]) (n := 4) (by exact Nat.le_of_ble_eq_true rfl)
  rw [lg_entry_eq]
  generalize (lg_sl ([.ref a0, .int x1, .int x2]) ++ List.replicate (4 - (lg_sl ([.ref a0, .int x1, .int x2])).length) Slot.unset).toArray = ls at hl ⊢
  have hl : lv_has ls 4 [(0, .ref a0), (1, .int x1), (2, .int x2)] := hl
  unfold f_X9_flaw at hf
  refine lv_aload_n hx hb dX9_flaw_0 rfl (lv_at hl 0 rfl) ?_
  refine lv_iload_n hx hb dX9_flaw_1 rfl (lv_at hl 1 rfl) ?_
  obtain ⟨fs2, ho2, hf⟩ := zz_obS_i hf
  refine zx_cV X hE hR hl.1 (As := [.int x1]) (rest := []) (C := RX9) (T := TX9) (N := 6) (ov := (fun v : Option Nat => some (va_rf v))) (fun r hr => mt_X9_clothOf hT a0 x1 h n hr) rfl ho2 mf_X9_clothOf q_773 q_775 qs_10 ⟨Nat.le_of_ble_eq_true rfl, Nat.le_of_ble_eq_true rfl⟩ ⟨Nat.le_of_ble_eq_true rfl, Nat.le_of_ble_eq_true rfl⟩ rfl (Nat.le_of_ble_eq_true rfl) dX9_flaw_2 hf (fun k e => by cases e; exact ⟨rfl, rfl, Nat.le_refl _⟩) (Nat.le_of_ble_eq_true rfl) (Nat.le_of_ble_eq_true rfl) (fun v2 hf H locs hR => ?_)
  refine W.eq (g2 := F0 m 5 ls [va_rf v2]) rfl ?_
  refine W.widen (k := 1) (n := 6) (Nat.le_of_ble_eq_true rfl) (Nat.le_of_ble_eq_true rfl) ?_
  refine zr_astore_n (i := 3) (lv' := [(3, va_rf v2), (0, .ref a0), (1, .int x1), (2, .int x2)]) hx hb dX9_flaw_5 rfl hl (by decide) rfl (fun ls hl => ?_)
  refine lv_iload_n hx hb dX9_flaw_6 rfl (lv_at hl 3 rfl) ?_
  refine zr_aload_n hx hb dX9_flaw_7 rfl (lv_at hl 0 rfl) ?_
  refine zr_giN X hR (r := v2) fn_X9_252 dX9_flaw_8 hf (fun v8 hf => ?_)
  refine zx_cS X hE hR hl.1 (As := [.int x2, .int v8]) (rest := []) (ov := (fun _ : Unit => (none : Option Value))) (fun r hr => mt_X9_needIndex hT x2 v8 h n hr) mf_X9_needIndex q_586 q_587 ⟨Nat.le_of_ble_eq_true rfl, Nat.le_of_ble_eq_true rfl⟩ ⟨Nat.le_of_ble_eq_true rfl, Nat.le_of_ble_eq_true rfl⟩ rfl (Nat.le_of_ble_eq_true rfl) dX9_flaw_11 hf (fun k e => by cases e; exact ⟨rfl, rfl, Nat.le_refl _⟩) (Nat.le_of_ble_eq_true rfl) (Nat.le_of_ble_eq_true rfl) (fun v11 hf H locs hR => ?_)
  refine W.eq (g2 := F0 m 14 ls []) rfl ?_
  refine W.widen (k := 2) (n := 12) (Nat.le_of_ble_eq_true rfl) (Nat.le_of_ble_eq_true rfl) ?_
  refine lv_iload_n hx hb dX9_flaw_14 rfl (lv_at hl 3 rfl) ?_
  refine zr_aload_n hx hb dX9_flaw_15 rfl (lv_at hl 0 rfl) ?_
  refine zr_giN X hR (r := v2) fn_X9_173 dX9_flaw_16 hf (fun v16 hf => ?_)
  refine lv_icmp_lt (tgt := 33) hx hb dX9_flaw_19 (by decide) (fun c19 => ?_) (fun c19 => ?_)
  · replace hf := zz_pos c19 hf
    exact bk_X9_flaw_33 X hE hT hR (lv_sub hl [] rfl) hf
  · replace hf := zz_neg c19 hf
    refine zr_aload_n hx hb dX9_flaw_22 rfl (lv_at hl 0 rfl) ?_
    refine lv_iload_n hx hb dX9_flaw_23 rfl (lv_at hl 3 rfl) ?_
    refine lv_iload_n hx hb dX9_flaw_24 rfl (lv_at hl 3 rfl) ?_
    refine lv_iconst (v := (1 : Int32)) hx hb dX9_flaw_25 (by decide) ?_
    refine lv_iadd hx hb dX9_flaw_26 ?_
    obtain ⟨b27, fs27, hr27, ho27, hf⟩ := zz_ob_i hf
    obtain ⟨v27, hv27, hf⟩ := zz_b_i hf
    refine zr_cV X hR hl.1 (As := [.int x2, .int (x2 + (1 : Int32))]) (rest := []) (C := RX0) (T := TX0) (N := 5) (mt_X0_hasFlaw hT b27 x2 (x2 + (1 : Int32)) h n hv27) rfl ho27 mf_X0_hasFlaw q_1063 q_274 q_275 ⟨Nat.le_of_ble_eq_true rfl, Nat.le_of_ble_eq_true rfl⟩ ⟨Nat.le_of_ble_eq_true rfl, Nat.le_of_ble_eq_true rfl⟩ (by rw [hr27]; rfl) (Nat.le_of_ble_eq_true rfl) dX9_flaw_27 (fun H locs hR => ?_)
    refine W.eq (g2 := F0 m 30 ls [.int v27]) rfl ?_
    refine lv_if_eq (tgt := 44) hx hb dX9_flaw_30 (by decide) (fun c30 => ?_) (fun c30 => ?_)
    · replace hf := zz_pos c30 hf
      refine zr_aload_n hx hb dX9_flaw_44 rfl (lv_at hl 0 rfl) ?_
      refine zr_giN X hR (r := v2) fn_X9_261 dX9_flaw_45 hf (fun v45 hf => ?_)
      refine lv_bipush (v := (10 : Int32)) hx hb dX9_flaw_48 (by decide) ?_
      refine zx_cS X hE hR hl.1 (As := [.int v45, .int (10 : Int32)]) (rest := []) (ov := (fun _ : Unit => (none : Option Value))) (fun r hr => mt_X9_needRoom hT v45 (10 : Int32) h n hr) mf_X9_needRoom q_417 q_418 ⟨Nat.le_of_ble_eq_true rfl, Nat.le_of_ble_eq_true rfl⟩ ⟨Nat.le_of_ble_eq_true rfl, Nat.le_of_ble_eq_true rfl⟩ rfl (Nat.le_of_ble_eq_true rfl) dX9_flaw_50 hf (fun k e => by cases e; exact ⟨rfl, rfl, Nat.le_refl _⟩) (Nat.le_of_ble_eq_true rfl) (Nat.le_of_ble_eq_true rfl) (fun v50 hf H locs hR => ?_)
      refine W.eq (g2 := F0 m 53 ls []) rfl ?_
      refine W.widen (k := 3) (n := 18) (Nat.le_of_ble_eq_true rfl) (Nat.le_of_ble_eq_true rfl) ?_
      refine zr_aload_n hx hb dX9_flaw_53 rfl (lv_at hl 0 rfl) ?_
      refine lv_iload_n hx hb dX9_flaw_54 rfl (lv_at hl 3 rfl) ?_
      obtain ⟨b55, fs55, hr55, ho55, hf⟩ := zz_ob_i hf
      obtain ⟨v55, h55, hv55, hf⟩ := zz_b1_i hf
      refine zr_cV X hR hl.1 (As := [.int x2]) (rest := []) (C := RX0) (T := TX0) (N := 5) (mt_X0_addFlaw hT b55 x2 h n hv55) rfl ho55 mf_X0_addFlaw q_1065 q_1066 q_1067 ⟨Nat.le_of_ble_eq_true rfl, Nat.le_of_ble_eq_true rfl⟩ ⟨Nat.le_of_ble_eq_true rfl, Nat.le_of_ble_eq_true rfl⟩ (by rw [hr55]; rfl) (Nat.le_of_ble_eq_true rfl) dX9_flaw_55 (fun H locs hR => ?_)
      refine W.eq (g2 := F0 m 58 ls [.int v55]) rfl ?_
      cases hf
      exact zx_ret (zr_iret X hR dX9_flaw_58 (Nat.le_of_ble_eq_true rfl) (Nat.le_of_ble_eq_true rfl))
    · replace hf := zz_neg c30 hf
      exact bk_X9_flaw_33 X hE hT hR (lv_sub hl [] rfl) hf
def rm_X9_left : Room := { frames := 8, cells := 1, slots := 6, locals := 132 }
theorem mf_X9_left : zz_Mf yX9_left cX9_left 3 (some .int) 1 := ⟨q_1075, q_1, by decide +kernel, by decide +kernel, by decide +kernel⟩
set_option maxHeartbeats 4000000 in
set_option maxRecDepth 100000 in
theorem mt_X9_left {D : va_G} {dA : Nat → ClassId} {base t0 : Nat} {l : Launch} (hT : l.stackTraces = false) (a0 : Nat) (x1 : Int32) (h : zz_H) (n : Nat) {r0 : (Int32 ⊕ Nat)} (hf : f_X9_left a0 x1 h = some r0) : zz_MX D dA base t0 l yX9_left cX9_left 3 (some .int) rm_X9_left [.ref a0, .int x1] h n (zz_ov (fun v : Int32 => some (Value.int v)) r0) h n := by
  refine vx_ofW (cc := cX9_left) (maxL := 3) (ret := (some .int)) (by decide +kernel) rfl ?_
  intro p e s m args below meth c s₁ B hml hE hv
  obtain ⟨rfl, hP, hK⟩ := hv
  have X : zz_X D dA base t0 "Springseat" cX9_left 3 (some .int) l p s m meth c := ⟨B.exec, B.bytes, hml, B.returns, findClass_of_methodNamed B.named, B.notSynchronized, hT, by rw [hP.1]; exact hP.2.1, hK⟩
  have hx := X.1
  have hb := X.2.1
  have hown := X.2.2.2.2.1
  have hR : zz_R D dA base h n s s.heap [] := ⟨hP, va_S.rf⟩
  have hl := lv_entry ([.ref a0, .int x1]) (n := 3) (by exact Nat.le_of_ble_eq_true rfl)
  rw [lg_entry_eq]
  generalize (lg_sl ([.ref a0, .int x1]) ++ List.replicate (3 - (lg_sl ([.ref a0, .int x1])).length) Slot.unset).toArray = ls at hl ⊢
  have hl : lv_has ls 3 [(0, .ref a0), (1, .int x1)] := hl
  unfold f_X9_left at hf
  refine lv_aload_n hx hb dX9_left_0 rfl (lv_at hl 0 rfl) ?_
  refine lv_iload_n hx hb dX9_left_1 rfl (lv_at hl 1 rfl) ?_
  obtain ⟨fs2, ho2, hf⟩ := zz_obS_i hf
  refine zx_cV X hE hR hl.1 (As := [.int x1]) (rest := []) (C := RX9) (T := TX9) (N := 6) (ov := (fun v : Option Nat => some (va_rf v))) (fun r hr => mt_X9_clothOf hT a0 x1 h n hr) rfl ho2 mf_X9_clothOf q_773 q_775 qs_10 ⟨Nat.le_of_ble_eq_true rfl, Nat.le_of_ble_eq_true rfl⟩ ⟨Nat.le_of_ble_eq_true rfl, Nat.le_of_ble_eq_true rfl⟩ rfl (Nat.le_of_ble_eq_true rfl) dX9_left_2 hf (fun k e => by cases e; exact ⟨rfl, rfl, Nat.le_refl _⟩) (Nat.le_of_ble_eq_true rfl) (Nat.le_of_ble_eq_true rfl) (fun v2 hf H locs hR => ?_)
  refine W.eq (g2 := F0 m 5 ls [va_rf v2]) rfl ?_
  refine W.widen (k := 1) (n := 6) (Nat.le_of_ble_eq_true rfl) (Nat.le_of_ble_eq_true rfl) ?_
  refine zr_astore_n (i := 2) (lv' := [(2, va_rf v2), (0, .ref a0), (1, .int x1)]) hx hb dX9_left_5 rfl hl (by decide) rfl (fun ls hl => ?_)
  refine zr_aload_n hx hb dX9_left_6 rfl (lv_at hl 0 rfl) ?_
  refine zr_giN X hR (r := v2) fn_X9_252 dX9_left_7 hf (fun v7 hf => ?_)
  refine zr_aload_n hx hb dX9_left_10 rfl (lv_at hl 0 rfl) ?_
  refine zr_giN X hR (r := v2) fn_X9_173 dX9_left_11 hf (fun v11 hf => ?_)
  refine lv_isub hx hb dX9_left_14 ?_
  cases hf
  exact zx_ret (zr_iret X hR dX9_left_15 (Nat.le_of_ble_eq_true rfl) (Nat.le_of_ble_eq_true rfl))
def rm_X9_panel : Room := { frames := 8, cells := 2, slots := 12, locals := 132 }
theorem mf_X9_panel : zz_Mf yX9_panel cX9_panel 4 (some .int) 2 := ⟨q_1082, q_1, by decide +kernel, by decide +kernel, by decide +kernel⟩
set_option maxHeartbeats 4000000 in
set_option maxRecDepth 100000 in
theorem mt_X9_panel {D : va_G} {dA : Nat → ClassId} {base t0 : Nat} {l : Launch} (hT : l.stackTraces = false) (a0 : Nat) (x1 : Int32) (x2 : Int32) (h : zz_H) (n : Nat) {r0 : (Int32 ⊕ Nat)} (hf : f_X9_panel a0 x1 x2 h = some r0) : zz_MX D dA base t0 l yX9_panel cX9_panel 4 (some .int) rm_X9_panel [.ref a0, .int x1, .int x2] h n (zz_ov (fun v : Int32 => some (Value.int v)) r0) h n := by
  refine vx_ofW (cc := cX9_panel) (maxL := 4) (ret := (some .int)) (by decide +kernel) rfl ?_
  intro p e s m args below meth c s₁ B hml hE hv
  obtain ⟨rfl, hP, hK⟩ := hv
  have X : zz_X D dA base t0 "Springseat" cX9_panel 4 (some .int) l p s m meth c := ⟨B.exec, B.bytes, hml, B.returns, findClass_of_methodNamed B.named, B.notSynchronized, hT, by rw [hP.1]; exact hP.2.1, hK⟩
  have hx := X.1
  have hb := X.2.1
  have hown := X.2.2.2.2.1
  have hR : zz_R D dA base h n s s.heap [] := ⟨hP, va_S.rf⟩
  have hl := lv_entry ([.ref a0, .int x1, .int x2]) (n := 4) (by exact Nat.le_of_ble_eq_true rfl)
  rw [lg_entry_eq]
  generalize (lg_sl ([.ref a0, .int x1, .int x2]) ++ List.replicate (4 - (lg_sl ([.ref a0, .int x1, .int x2])).length) Slot.unset).toArray = ls at hl ⊢
  have hl : lv_has ls 4 [(0, .ref a0), (1, .int x1), (2, .int x2)] := hl
  unfold f_X9_panel at hf
  refine lv_aload_n hx hb dX9_panel_0 rfl (lv_at hl 0 rfl) ?_
  refine lv_iload_n hx hb dX9_panel_1 rfl (lv_at hl 1 rfl) ?_
  obtain ⟨fs2, ho2, hf⟩ := zz_obS_i hf
  refine zx_cV X hE hR hl.1 (As := [.int x1]) (rest := []) (C := RX9) (T := TX9) (N := 6) (ov := (fun v : Option Nat => some (va_rf v))) (fun r hr => mt_X9_seatOf hT a0 x1 h n hr) rfl ho2 mf_X9_seatOf q_582 q_584 qs_9 ⟨Nat.le_of_ble_eq_true rfl, Nat.le_of_ble_eq_true rfl⟩ ⟨Nat.le_of_ble_eq_true rfl, Nat.le_of_ble_eq_true rfl⟩ rfl (Nat.le_of_ble_eq_true rfl) dX9_panel_2 hf (fun k e => by cases e; exact ⟨rfl, rfl, Nat.le_refl _⟩) (Nat.le_of_ble_eq_true rfl) (Nat.le_of_ble_eq_true rfl) (fun v2 hf H locs hR => ?_)
  refine W.eq (g2 := F0 m 5 ls [va_rf v2]) rfl ?_
  refine W.widen (k := 1) (n := 6) (Nat.le_of_ble_eq_true rfl) (Nat.le_of_ble_eq_true rfl) ?_
  refine zr_gqN X hR (r := v2) fn_X9_267 dX9_panel_5 hf (fun v5 hf => ?_)
  refine zr_astore_n (i := 3) (lv' := [(3, va_rf v5), (0, .ref a0), (1, .int x1), (2, .int x2)]) hx hb dX9_panel_8 rfl hl (by decide) rfl (fun ls hl => ?_)
  refine lv_iload_n hx hb dX9_panel_9 rfl (lv_at hl 3 rfl) ?_
  refine zr_aload_n hx hb dX9_panel_10 rfl (lv_at hl 0 rfl) ?_
  refine zr_giN X hR (r := v5) fn_X9_271 dX9_panel_11 hf (fun v11 hf => ?_)
  refine zx_cS X hE hR hl.1 (As := [.int x2, .int v11]) (rest := []) (ov := (fun _ : Unit => (none : Option Value))) (fun r hr => mt_X9_needElement hT x2 v11 h n hr) mf_X9_needElement q_891 q_892 ⟨Nat.le_of_ble_eq_true rfl, Nat.le_of_ble_eq_true rfl⟩ ⟨Nat.le_of_ble_eq_true rfl, Nat.le_of_ble_eq_true rfl⟩ rfl (Nat.le_of_ble_eq_true rfl) dX9_panel_14 hf (fun k e => by cases e; exact ⟨rfl, rfl, Nat.le_refl _⟩) (Nat.le_of_ble_eq_true rfl) (Nat.le_of_ble_eq_true rfl) (fun v14 hf H locs hR => ?_)
  refine W.eq (g2 := F0 m 17 ls []) rfl ?_
  refine W.widen (k := 2) (n := 12) (Nat.le_of_ble_eq_true rfl) (Nat.le_of_ble_eq_true rfl) ?_
  refine zr_aload_n hx hb dX9_panel_17 rfl (lv_at hl 0 rfl) ?_
  refine lv_iload_n hx hb dX9_panel_18 rfl (lv_at hl 3 rfl) ?_
  obtain ⟨b19, fs19, hr19, ho19, hf⟩ := zz_ob_i hf
  obtain ⟨v19, hv19, hf⟩ := zz_b_i hf
  refine zr_cV X hR hl.1 (As := [.int x2]) (rest := []) (C := RX1) (T := TX1) (N := 7) (mt_X1_placeAt hT b19 x2 h n hv19) rfl ho19 mf_X1_placeAt q_1083 q_263 q_264 ⟨Nat.le_of_ble_eq_true rfl, Nat.le_of_ble_eq_true rfl⟩ ⟨Nat.le_of_ble_eq_true rfl, Nat.le_of_ble_eq_true rfl⟩ (by rw [hr19]; rfl) (Nat.le_of_ble_eq_true rfl) dX9_panel_19 (fun H locs hR => ?_)
  refine W.eq (g2 := F0 m 22 ls [.int v19]) rfl ?_
  cases hf
  exact zx_ret (zr_iret X hR dX9_panel_22 (Nat.le_of_ble_eq_true rfl) (Nat.le_of_ble_eq_true rfl))
end ZZM
