section ZZM
def rm_X9_needClosed : Room := { frames := 6, cells := 1, slots := 6, locals := 90 }
theorem mf_X9_needClosed : zz_Mf yX9_needClosed cX9_needClosed 1 none 1 := ⟨q_1096, q_1, by decide +kernel, by decide +kernel, by decide +kernel⟩
set_option maxHeartbeats 4000000 in
set_option maxRecDepth 100000 in
theorem mt_X9_needClosed {D : va_G} {dA : Nat → ClassId} {base t0 : Nat} {l : Launch} (hT : l.stackTraces = false) (x0 : (Option Nat)) (h : zz_H) (n : Nat) {r0 : (Unit ⊕ Nat)} (hf : f_X9_needClosed x0 h = some r0) : zz_MX D dA base t0 l yX9_needClosed cX9_needClosed 1 none rm_X9_needClosed [va_rf x0] h n (zz_ov (fun _ : Unit => (none : Option Value)) r0) h n := by
  refine vx_ofW (cc := cX9_needClosed) (maxL := 1) (ret := none) (by decide +kernel) rfl ?_
  intro p e s m args below meth c s₁ B hml hE hv
  obtain ⟨rfl, hP, hK⟩ := hv
  have X : zz_X D dA base t0 "Springseat" cX9_needClosed 1 none l p s m meth c := ⟨B.exec, B.bytes, hml, B.returns, findClass_of_methodNamed B.named, B.notSynchronized, hT, by rw [hP.1]; exact hP.2.1, hK⟩
  have hx := X.1
  have hb := X.2.1
  have hown := X.2.2.2.2.1
  have hR : zz_R D dA base h n s s.heap [] := ⟨hP, va_S.rf⟩
  have hl := lv_entry ([va_rf x0]) (n := 1) (by cases x0 <;> exact Nat.le_of_ble_eq_true rfl)
  rw [lg_entry_eq]
  generalize (lg_sl ([va_rf x0]) ++ List.replicate (1 - (lg_sl ([va_rf x0])).length) Slot.unset).toArray = ls at hl ⊢
  have hl : lv_has ls 1 [(0, va_rf x0)] := by rw [show ([(0, va_rf x0)] : List (Nat × Value)) = lv_args 0 [va_rf x0] from by cases x0 <;> rfl]; exact hl
  unfold f_X9_needClosed at hf
  refine zr_aload_n hx hb dX9_needClosed_0 rfl (lv_at hl 0 rfl) ?_
  obtain ⟨b1, fs1, hr1, ho1, hf⟩ := zz_ob_i hf
  obtain ⟨v1, hv1, hf⟩ := zz_b_i hf
  refine zr_cV X hR hl.1 (As := []) (rest := []) (C := RX7) (T := TX7) (N := 6) (mt_X7_hasCover hT b1 h n hv1) rfl ho1 mf_X7_hasCover q_910 q_911 q_912 ⟨Nat.le_of_ble_eq_true rfl, Nat.le_of_ble_eq_true rfl⟩ ⟨Nat.le_of_ble_eq_true rfl, Nat.le_of_ble_eq_true rfl⟩ (by rw [hr1]; rfl) (Nat.le_of_ble_eq_true rfl) dX9_needClosed_1 (fun H locs hR => ?_)
  refine W.eq (g2 := F0 m 4 ls [.int v1]) rfl ?_
  refine lv_if_ne (tgt := 18) hx hb dX9_needClosed_4 (by decide) (fun c4 => ?_) (fun c4 => ?_)
  · replace hf := zz_neg c4 hf
    cases hf
    exact zx_ret (zr_vret X hR dX9_needClosed_18 (Nat.le_of_ble_eq_true rfl) (Nat.le_of_ble_eq_true rfl))
  · replace hf := zz_pos c4 hf
    cases hf
    exact zx_throwW X hE hR hl.1 (k := 3) (names := ["java/lang/RuntimeException", "java/lang/Exception"]) tw_10_184.1 tw_10_184.2.1 rfl q_616 q_25 (List.mem_of_getElem? (i := 12) rfl) tw_10_184.2.2.1 tw_10_184.2.2.2 dX9_needClosed_7 dX9_needClosed_10 dX9_needClosed_11 dX9_needClosed_14 dX9_needClosed_17 (Nat.le_of_ble_eq_true rfl) ⟨Nat.le_of_ble_eq_true rfl, Nat.le_of_ble_eq_true rfl⟩ ⟨Nat.le_of_ble_eq_true rfl, Nat.le_of_ble_eq_true rfl⟩ (Nat.le_of_ble_eq_true rfl) (Nat.le_of_ble_eq_true rfl) (Nat.le_refl _)
def rm_X9_needHoursLeft : Room := { frames := 7, cells := 2, slots := 12, locals := 110 }
theorem mf_X9_needHoursLeft : zz_Mf yX9_needHoursLeft cX9_needHoursLeft 2 none 2 := ⟨q_1093, q_1, by decide +kernel, by decide +kernel, by decide +kernel⟩
set_option maxHeartbeats 4000000 in
set_option maxRecDepth 100000 in
theorem mt_X9_needHoursLeft {D : va_G} {dA : Nat → ClassId} {base t0 : Nat} {l : Launch} (hT : l.stackTraces = false) (x0 : (Option Nat)) (x1 : Int32) (h : zz_H) (n : Nat) {r0 : (Unit ⊕ Nat)} (hf : f_X9_needHoursLeft x0 x1 h = some r0) : zz_MX D dA base t0 l yX9_needHoursLeft cX9_needHoursLeft 2 none rm_X9_needHoursLeft [va_rf x0, .int x1] h n (zz_ov (fun _ : Unit => (none : Option Value)) r0) h n := by
  refine vx_ofW (cc := cX9_needHoursLeft) (maxL := 2) (ret := none) (by decide +kernel) rfl ?_
  intro p e s m args below meth c s₁ B hml hE hv
  obtain ⟨rfl, hP, hK⟩ := hv
  have X : zz_X D dA base t0 "Springseat" cX9_needHoursLeft 2 none l p s m meth c := ⟨B.exec, B.bytes, hml, B.returns, findClass_of_methodNamed B.named, B.notSynchronized, hT, by rw [hP.1]; exact hP.2.1, hK⟩
  have hx := X.1
  have hb := X.2.1
  have hown := X.2.2.2.2.1
  have hR : zz_R D dA base h n s s.heap [] := ⟨hP, va_S.rf⟩
  have hl := lv_entry ([va_rf x0, .int x1]) (n := 2) (by cases x0 <;> exact Nat.le_of_ble_eq_true rfl)
  rw [lg_entry_eq]
  generalize (lg_sl ([va_rf x0, .int x1]) ++ List.replicate (2 - (lg_sl ([va_rf x0, .int x1])).length) Slot.unset).toArray = ls at hl ⊢
  have hl : lv_has ls 2 [(0, va_rf x0), (1, .int x1)] := by rw [show ([(0, va_rf x0), (1, .int x1)] : List (Nat × Value)) = lv_args 0 [va_rf x0, .int x1] from by cases x0 <;> rfl]; exact hl
  unfold f_X9_needHoursLeft at hf
  refine zr_aload_n hx hb dX9_needHoursLeft_0 rfl (lv_at hl 0 rfl) ?_
  refine zx_cS X hE hR hl.1 (As := [va_rf x0]) (rest := []) (ov := (fun _ : Unit => (none : Option Value))) (fun r hr => mt_X9_needClosed hT x0 h n hr) mf_X9_needClosed q_1094 q_1095 ⟨Nat.le_of_ble_eq_true rfl, Nat.le_of_ble_eq_true rfl⟩ ⟨Nat.le_of_ble_eq_true rfl, Nat.le_of_ble_eq_true rfl⟩ rfl (Nat.le_of_ble_eq_true rfl) dX9_needHoursLeft_1 hf (fun k e => by cases e; exact ⟨rfl, rfl, Nat.le_refl _⟩) (Nat.le_of_ble_eq_true rfl) (Nat.le_of_ble_eq_true rfl) (fun v1 hf H locs hR => ?_)
  refine W.eq (g2 := F0 m 4 ls []) rfl ?_
  refine W.widen (k := 1) (n := 6) (Nat.le_of_ble_eq_true rfl) (Nat.le_of_ble_eq_true rfl) ?_
  refine zr_aload_n hx hb dX9_needHoursLeft_4 rfl (lv_at hl 0 rfl) ?_
  refine zr_gqN X hR (r := x0) fn_X9_267 dX9_needHoursLeft_5 hf (fun v5 hf => ?_)
  refine zr_giN X hR (r := v5) fn_X9_288 dX9_needHoursLeft_8 hf (fun v8 hf => ?_)
  refine lv_iload_n hx hb dX9_needHoursLeft_11 rfl (lv_at hl 1 rfl) ?_
  refine lv_iadd hx hb dX9_needHoursLeft_12 ?_
  refine lv_ldcw hx hb hown (zz_w X q_1098) dX9_needHoursLeft_13 ?_
  refine lv_icmp_le (tgt := 30) hx hb dX9_needHoursLeft_16 (by decide) (fun c16 => ?_) (fun c16 => ?_)
  · replace hf := zz_pos c16 hf
    cases hf
    exact zx_ret (zr_vret X hR dX9_needHoursLeft_30 (Nat.le_of_ble_eq_true rfl) (Nat.le_of_ble_eq_true rfl))
  · replace hf := zz_neg c16 hf
    cases hf
    exact zx_throwW X hE hR hl.1 (k := 3) (names := ["java/lang/RuntimeException", "java/lang/Exception"]) tw_10_184.1 tw_10_184.2.1 rfl q_616 q_25 (List.mem_of_getElem? (i := 13) rfl) tw_10_184.2.2.1 tw_10_184.2.2.2 dX9_needHoursLeft_19 dX9_needHoursLeft_22 dX9_needHoursLeft_23 dX9_needHoursLeft_26 dX9_needHoursLeft_29 (Nat.le_of_ble_eq_true rfl) ⟨Nat.le_of_ble_eq_true rfl, Nat.le_of_ble_eq_true rfl⟩ ⟨Nat.le_of_ble_eq_true rfl, Nat.le_of_ble_eq_true rfl⟩ (Nat.le_of_ble_eq_true rfl) (Nat.le_of_ble_eq_true rfl) (Nat.le_refl _)
def rm_X9_use : Room := { frames := 8, cells := 4, slots := 24, locals := 151 }
theorem mf_X9_use : zz_Mf yX9_use cX9_use 4 (some .int) 2 := ⟨q_1090, q_1, by decide +kernel, by decide +kernel, by decide +kernel⟩
set_option maxHeartbeats 4000000 in
set_option maxRecDepth 100000 in
theorem mt_X9_use {D : va_G} {dA : Nat → ClassId} {base t0 : Nat} {l : Launch} (hT : l.stackTraces = false) (a0 : Nat) (x1 : Int32) (x2 : Int32) (h : zz_H) (n : Nat) {r0 : (Int32 ⊕ Nat)} {hF : zz_H} (hf : f_X9_use a0 x1 x2 h = some (r0, hF)) : zz_MX D dA base t0 l yX9_use cX9_use 4 (some .int) rm_X9_use [.ref a0, .int x1, .int x2] h n (zz_ov (fun v : Int32 => some (Value.int v)) r0) hF n := by
  refine vx_ofW (cc := cX9_use) (maxL := 4) (ret := (some .int)) (by decide +kernel) rfl ?_
  intro p e s m args below meth c s₁ B hml hE hv
  obtain ⟨rfl, hP, hK⟩ := hv
  have X : zz_X D dA base t0 "Springseat" cX9_use 4 (some .int) l p s m meth c := ⟨B.exec, B.bytes, hml, B.returns, findClass_of_methodNamed B.named, B.notSynchronized, hT, by rw [hP.1]; exact hP.2.1, hK⟩
  have hx := X.1
  have hb := X.2.1
  have hown := X.2.2.2.2.1
  have hR : zz_R D dA base h n s s.heap [] := ⟨hP, va_S.rf⟩
  have hl := lv_entry ([.ref a0, .int x1, .int x2]) (n := 4) (by exact Nat.le_of_ble_eq_true rfl)
  rw [lg_entry_eq]
  generalize (lg_sl ([.ref a0, .int x1, .int x2]) ++ List.replicate (4 - (lg_sl ([.ref a0, .int x1, .int x2])).length) Slot.unset).toArray = ls at hl ⊢
  have hl : lv_has ls 4 [(0, .ref a0), (1, .int x1), (2, .int x2)] := hl
  unfold f_X9_use at hf
  refine lv_aload_n hx hb dX9_use_0 rfl (lv_at hl 0 rfl) ?_
  refine lv_iload_n hx hb dX9_use_1 rfl (lv_at hl 1 rfl) ?_
  obtain ⟨fs2, ho2, hf⟩ := zz_obS_i hf
  refine zx_cV X hE hR hl.1 (As := [.int x1]) (rest := []) (C := RX9) (T := TX9) (N := 6) (ov := (fun v : Option Nat => some (va_rf v))) (fun r hr => mt_X9_seatOf hT a0 x1 h n hr) rfl ho2 mf_X9_seatOf q_582 q_584 qs_9 ⟨Nat.le_of_ble_eq_true rfl, Nat.le_of_ble_eq_true rfl⟩ ⟨Nat.le_of_ble_eq_true rfl, Nat.le_of_ble_eq_true rfl⟩ rfl (Nat.le_of_ble_eq_true rfl) dX9_use_2 hf (fun k e => by cases e; exact ⟨rfl, rfl, Nat.le_refl _⟩) (Nat.le_of_ble_eq_true rfl) (Nat.le_of_ble_eq_true rfl) (fun v2 hf H locs hR => ?_)
  refine W.eq (g2 := F0 m 5 ls [va_rf v2]) rfl ?_
  refine W.widen (k := 1) (n := 6) (Nat.le_of_ble_eq_true rfl) (Nat.le_of_ble_eq_true rfl) ?_
  refine zr_astore_n (i := 3) (lv' := [(3, va_rf v2), (0, .ref a0), (1, .int x1), (2, .int x2)]) hx hb dX9_use_5 rfl hl (by decide) rfl (fun ls hl => ?_)
  refine lv_iload_n hx hb dX9_use_6 rfl (lv_at hl 3 rfl) ?_
  refine lv_iconst (v := (1 : Int32)) hx hb dX9_use_7 (by decide) ?_
  refine lv_sipush (v := (9999 : Int32)) hx hb dX9_use_8 (by decide) ?_
  refine zx_cS X hE hR hl.1 (As := [.int x2, .int (1 : Int32), .int (9999 : Int32)]) (rest := []) (ov := (fun _ : Unit => (none : Option Value))) (fun r hr => mt_X9_needRange hT x2 (1 : Int32) (9999 : Int32) h n hr) mf_X9_needRange q_344 q_345 ⟨Nat.le_of_ble_eq_true rfl, Nat.le_of_ble_eq_true rfl⟩ ⟨Nat.le_of_ble_eq_true rfl, Nat.le_of_ble_eq_true rfl⟩ rfl (Nat.le_of_ble_eq_true rfl) dX9_use_11 hf (fun k e => by cases e; exact ⟨rfl, rfl, Nat.le_refl _⟩) (Nat.le_of_ble_eq_true rfl) (Nat.le_of_ble_eq_true rfl) (fun v11 hf H locs hR => ?_)
  refine W.eq (g2 := F0 m 14 ls []) rfl ?_
  refine W.widen (k := 2) (n := 12) (Nat.le_of_ble_eq_true rfl) (Nat.le_of_ble_eq_true rfl) ?_
  refine zr_aload_n hx hb dX9_use_14 rfl (lv_at hl 0 rfl) ?_
  refine lv_iload_n hx hb dX9_use_15 rfl (lv_at hl 3 rfl) ?_
  refine zx_cS X hE hR hl.1 (As := [va_rf v2, .int x2]) (rest := []) (ov := (fun _ : Unit => (none : Option Value))) (fun r hr => mt_X9_needHoursLeft hT v2 x2 h n hr) mf_X9_needHoursLeft q_1091 q_1092 ⟨Nat.le_of_ble_eq_true rfl, Nat.le_of_ble_eq_true rfl⟩ ⟨Nat.le_of_ble_eq_true rfl, Nat.le_of_ble_eq_true rfl⟩ rfl (Nat.le_of_ble_eq_true rfl) dX9_use_16 hf (fun k e => by cases e; exact ⟨rfl, rfl, Nat.le_refl _⟩) (Nat.le_of_ble_eq_true rfl) (Nat.le_of_ble_eq_true rfl) (fun v16 hf H locs hR => ?_)
  refine W.eq (g2 := F0 m 19 ls []) rfl ?_
  refine W.widen (k := 4) (n := 24) (Nat.le_of_ble_eq_true rfl) (Nat.le_of_ble_eq_true rfl) ?_
  refine zr_aload_n hx hb dX9_use_19 rfl (lv_at hl 0 rfl) ?_
  refine lv_iload_n hx hb dX9_use_20 rfl (lv_at hl 3 rfl) ?_
  obtain ⟨b21, fs21, hr21, ho21, hf⟩ := zz_ob_i hf
  obtain ⟨v21, h21, hv21, hf⟩ := zz_b1_i hf
  refine zr_cV X hR hl.1 (As := [.int x2]) (rest := []) (C := RX7) (T := TX7) (N := 6) (mt_X7_wear hT b21 x2 h n hv21) rfl ho21 mf_X7_wear q_1100 q_1101 q_1102 ⟨Nat.le_of_ble_eq_true rfl, Nat.le_of_ble_eq_true rfl⟩ ⟨Nat.le_of_ble_eq_true rfl, Nat.le_of_ble_eq_true rfl⟩ (by rw [hr21]; rfl) (Nat.le_of_ble_eq_true rfl) dX9_use_21 (fun H locs hR => ?_)
  refine W.eq (g2 := F0 m 24 ls [.int v21]) rfl ?_
  cases hf
  exact zx_ret (zr_iret X hR dX9_use_24 (Nat.le_of_ble_eq_true rfl) (Nat.le_of_ble_eq_true rfl))
def rm_X9_pound : Room := { frames := 8, cells := 4, slots := 24, locals := 151 }
theorem mf_X9_pound : zz_Mf yX9_pound cX9_pound 4 (some .int) 2 := ⟨q_1119, q_1, by decide +kernel, by decide +kernel, by decide +kernel⟩
set_option maxHeartbeats 4000000 in
set_option maxRecDepth 100000 in
theorem mt_X9_pound {D : va_G} {dA : Nat → ClassId} {base t0 : Nat} {l : Launch} (hT : l.stackTraces = false) (a0 : Nat) (x1 : Int32) (x2 : Int32) (h : zz_H) (n : Nat) {r0 : (Int32 ⊕ Nat)} {hF : zz_H} (hf : f_X9_pound a0 x1 x2 h = some (r0, hF)) : zz_MX D dA base t0 l yX9_pound cX9_pound 4 (some .int) rm_X9_pound [.ref a0, .int x1, .int x2] h n (zz_ov (fun v : Int32 => some (Value.int v)) r0) hF n := by
  refine vx_ofW (cc := cX9_pound) (maxL := 4) (ret := (some .int)) (by decide +kernel) rfl ?_
  intro p e s m args below meth c s₁ B hml hE hv
  obtain ⟨rfl, hP, hK⟩ := hv
  have X : zz_X D dA base t0 "Springseat" cX9_pound 4 (some .int) l p s m meth c := ⟨B.exec, B.bytes, hml, B.returns, findClass_of_methodNamed B.named, B.notSynchronized, hT, by rw [hP.1]; exact hP.2.1, hK⟩
  have hx := X.1
  have hb := X.2.1
  have hown := X.2.2.2.2.1
  have hR : zz_R D dA base h n s s.heap [] := ⟨hP, va_S.rf⟩
  have hl := lv_entry ([.ref a0, .int x1, .int x2]) (n := 4) (by exact Nat.le_of_ble_eq_true rfl)
  rw [lg_entry_eq]
  generalize (lg_sl ([.ref a0, .int x1, .int x2]) ++ List.replicate (4 - (lg_sl ([.ref a0, .int x1, .int x2])).length) Slot.unset).toArray = ls at hl ⊢
  have hl : lv_has ls 4 [(0, .ref a0), (1, .int x1), (2, .int x2)] := hl
  unfold f_X9_pound at hf
  refine lv_aload_n hx hb dX9_pound_0 rfl (lv_at hl 0 rfl) ?_
  refine lv_iload_n hx hb dX9_pound_1 rfl (lv_at hl 1 rfl) ?_
  obtain ⟨fs2, ho2, hf⟩ := zz_obS_i hf
  refine zx_cV X hE hR hl.1 (As := [.int x1]) (rest := []) (C := RX9) (T := TX9) (N := 6) (ov := (fun v : Option Nat => some (va_rf v))) (fun r hr => mt_X9_seatOf hT a0 x1 h n hr) rfl ho2 mf_X9_seatOf q_582 q_584 qs_9 ⟨Nat.le_of_ble_eq_true rfl, Nat.le_of_ble_eq_true rfl⟩ ⟨Nat.le_of_ble_eq_true rfl, Nat.le_of_ble_eq_true rfl⟩ rfl (Nat.le_of_ble_eq_true rfl) dX9_pound_2 hf (fun k e => by cases e; exact ⟨rfl, rfl, Nat.le_refl _⟩) (Nat.le_of_ble_eq_true rfl) (Nat.le_of_ble_eq_true rfl) (fun v2 hf H locs hR => ?_)
  refine W.eq (g2 := F0 m 5 ls [va_rf v2]) rfl ?_
  refine W.widen (k := 1) (n := 6) (Nat.le_of_ble_eq_true rfl) (Nat.le_of_ble_eq_true rfl) ?_
  refine zr_astore_n (i := 3) (lv' := [(3, va_rf v2), (0, .ref a0), (1, .int x1), (2, .int x2)]) hx hb dX9_pound_5 rfl hl (by decide) rfl (fun ls hl => ?_)
  refine lv_iload_n hx hb dX9_pound_6 rfl (lv_at hl 3 rfl) ?_
  refine lv_iconst (v := (1 : Int32)) hx hb dX9_pound_7 (by decide) ?_
  refine lv_sipush (v := (3000 : Int32)) hx hb dX9_pound_8 (by decide) ?_
  refine zx_cS X hE hR hl.1 (As := [.int x2, .int (1 : Int32), .int (3000 : Int32)]) (rest := []) (ov := (fun _ : Unit => (none : Option Value))) (fun r hr => mt_X9_needRange hT x2 (1 : Int32) (3000 : Int32) h n hr) mf_X9_needRange q_344 q_345 ⟨Nat.le_of_ble_eq_true rfl, Nat.le_of_ble_eq_true rfl⟩ ⟨Nat.le_of_ble_eq_true rfl, Nat.le_of_ble_eq_true rfl⟩ rfl (Nat.le_of_ble_eq_true rfl) dX9_pound_11 hf (fun k e => by cases e; exact ⟨rfl, rfl, Nat.le_refl _⟩) (Nat.le_of_ble_eq_true rfl) (Nat.le_of_ble_eq_true rfl) (fun v11 hf H locs hR => ?_)
  refine W.eq (g2 := F0 m 14 ls []) rfl ?_
  refine W.widen (k := 2) (n := 12) (Nat.le_of_ble_eq_true rfl) (Nat.le_of_ble_eq_true rfl) ?_
  refine zr_aload_n hx hb dX9_pound_14 rfl (lv_at hl 0 rfl) ?_
  refine lv_iload_n hx hb dX9_pound_15 rfl (lv_at hl 3 rfl) ?_
  refine lv_iconst (v := (3 : Int32)) hx hb dX9_pound_16 (by decide) ?_
  refine lv_imul hx hb dX9_pound_17 ?_
  refine zx_cS X hE hR hl.1 (As := [va_rf v2, .int (x2 * (3 : Int32))]) (rest := []) (ov := (fun _ : Unit => (none : Option Value))) (fun r hr => mt_X9_needHoursLeft hT v2 (x2 * (3 : Int32)) h n hr) mf_X9_needHoursLeft q_1091 q_1092 ⟨Nat.le_of_ble_eq_true rfl, Nat.le_of_ble_eq_true rfl⟩ ⟨Nat.le_of_ble_eq_true rfl, Nat.le_of_ble_eq_true rfl⟩ rfl (Nat.le_of_ble_eq_true rfl) dX9_pound_18 hf (fun k e => by cases e; exact ⟨rfl, rfl, Nat.le_refl _⟩) (Nat.le_of_ble_eq_true rfl) (Nat.le_of_ble_eq_true rfl) (fun v18 hf H locs hR => ?_)
  refine W.eq (g2 := F0 m 21 ls []) rfl ?_
  refine W.widen (k := 4) (n := 24) (Nat.le_of_ble_eq_true rfl) (Nat.le_of_ble_eq_true rfl) ?_
  refine zr_aload_n hx hb dX9_pound_21 rfl (lv_at hl 0 rfl) ?_
  refine lv_iload_n hx hb dX9_pound_22 rfl (lv_at hl 3 rfl) ?_
  refine lv_iconst (v := (3 : Int32)) hx hb dX9_pound_23 (by decide) ?_
  refine lv_imul hx hb dX9_pound_24 ?_
  obtain ⟨b25, fs25, hr25, ho25, hf⟩ := zz_ob_i hf
  obtain ⟨v25, h25, hv25, hf⟩ := zz_b1_i hf
  refine zr_cV X hR hl.1 (As := [.int (x2 * (3 : Int32))]) (rest := []) (C := RX7) (T := TX7) (N := 6) (mt_X7_wear hT b25 (x2 * (3 : Int32)) h n hv25) rfl ho25 mf_X7_wear q_1100 q_1101 q_1102 ⟨Nat.le_of_ble_eq_true rfl, Nat.le_of_ble_eq_true rfl⟩ ⟨Nat.le_of_ble_eq_true rfl, Nat.le_of_ble_eq_true rfl⟩ (by rw [hr25]; rfl) (Nat.le_of_ble_eq_true rfl) dX9_pound_25 (fun H locs hR => ?_)
  refine W.eq (g2 := F0 m 28 ls [.int v25]) rfl ?_
  cases hf
  exact zx_ret (zr_iret X hR dX9_pound_28 (Nat.le_of_ble_eq_true rfl) (Nat.le_of_ble_eq_true rfl))
def rm_X9_hours : Room := { frames := 8, cells := 2, slots := 12, locals := 132 }
theorem mf_X9_hours : zz_Mf yX9_hours cX9_hours 3 (some .int) 1 := ⟨q_1126, q_1, by decide +kernel, by decide +kernel, by decide +kernel⟩
set_option maxHeartbeats 4000000 in
set_option maxRecDepth 100000 in
theorem mt_X9_hours {D : va_G} {dA : Nat → ClassId} {base t0 : Nat} {l : Launch} (hT : l.stackTraces = false) (a0 : Nat) (x1 : Int32) (h : zz_H) (n : Nat) {r0 : (Int32 ⊕ Nat)} (hf : f_X9_hours a0 x1 h = some r0) : zz_MX D dA base t0 l yX9_hours cX9_hours 3 (some .int) rm_X9_hours [.ref a0, .int x1] h n (zz_ov (fun v : Int32 => some (Value.int v)) r0) h n := by
  refine vx_ofW (cc := cX9_hours) (maxL := 3) (ret := (some .int)) (by decide +kernel) rfl ?_
  intro p e s m args below meth c s₁ B hml hE hv
  obtain ⟨rfl, hP, hK⟩ := hv
  have X : zz_X D dA base t0 "Springseat" cX9_hours 3 (some .int) l p s m meth c := ⟨B.exec, B.bytes, hml, B.returns, findClass_of_methodNamed B.named, B.notSynchronized, hT, by rw [hP.1]; exact hP.2.1, hK⟩
  have hx := X.1
  have hb := X.2.1
  have hown := X.2.2.2.2.1
  have hR : zz_R D dA base h n s s.heap [] := ⟨hP, va_S.rf⟩
  have hl := lv_entry ([.ref a0, .int x1]) (n := 3) (by exact Nat.le_of_ble_eq_true rfl)
  rw [lg_entry_eq]
  generalize (lg_sl ([.ref a0, .int x1]) ++ List.replicate (3 - (lg_sl ([.ref a0, .int x1])).length) Slot.unset).toArray = ls at hl ⊢
  have hl : lv_has ls 3 [(0, .ref a0), (1, .int x1)] := hl
  unfold f_X9_hours at hf
  refine lv_aload_n hx hb dX9_hours_0 rfl (lv_at hl 0 rfl) ?_
  refine lv_iload_n hx hb dX9_hours_1 rfl (lv_at hl 1 rfl) ?_
  obtain ⟨fs2, ho2, hf⟩ := zz_obS_i hf
  refine zx_cV X hE hR hl.1 (As := [.int x1]) (rest := []) (C := RX9) (T := TX9) (N := 6) (ov := (fun v : Option Nat => some (va_rf v))) (fun r hr => mt_X9_seatOf hT a0 x1 h n hr) rfl ho2 mf_X9_seatOf q_582 q_584 qs_9 ⟨Nat.le_of_ble_eq_true rfl, Nat.le_of_ble_eq_true rfl⟩ ⟨Nat.le_of_ble_eq_true rfl, Nat.le_of_ble_eq_true rfl⟩ rfl (Nat.le_of_ble_eq_true rfl) dX9_hours_2 hf (fun k e => by cases e; exact ⟨rfl, rfl, Nat.le_refl _⟩) (Nat.le_of_ble_eq_true rfl) (Nat.le_of_ble_eq_true rfl) (fun v2 hf H locs hR => ?_)
  refine W.eq (g2 := F0 m 5 ls [va_rf v2]) rfl ?_
  refine W.widen (k := 1) (n := 6) (Nat.le_of_ble_eq_true rfl) (Nat.le_of_ble_eq_true rfl) ?_
  refine zr_astore_n (i := 2) (lv' := [(2, va_rf v2), (0, .ref a0), (1, .int x1)]) hx hb dX9_hours_5 rfl hl (by decide) rfl (fun ls hl => ?_)
  refine zr_aload_n hx hb dX9_hours_6 rfl (lv_at hl 0 rfl) ?_
  refine zx_cS X hE hR hl.1 (As := [va_rf v2]) (rest := []) (ov := (fun _ : Unit => (none : Option Value))) (fun r hr => mt_X9_needClosed hT v2 h n hr) mf_X9_needClosed q_1094 q_1095 ⟨Nat.le_of_ble_eq_true rfl, Nat.le_of_ble_eq_true rfl⟩ ⟨Nat.le_of_ble_eq_true rfl, Nat.le_of_ble_eq_true rfl⟩ rfl (Nat.le_of_ble_eq_true rfl) dX9_hours_7 hf (fun k e => by cases e; exact ⟨rfl, rfl, Nat.le_refl _⟩) (Nat.le_of_ble_eq_true rfl) (Nat.le_of_ble_eq_true rfl) (fun v7 hf H locs hR => ?_)
  refine W.eq (g2 := F0 m 10 ls []) rfl ?_
  refine W.widen (k := 2) (n := 12) (Nat.le_of_ble_eq_true rfl) (Nat.le_of_ble_eq_true rfl) ?_
  refine zr_aload_n hx hb dX9_hours_10 rfl (lv_at hl 0 rfl) ?_
  refine zr_gqN X hR (r := v2) fn_X9_267 dX9_hours_11 hf (fun v11 hf => ?_)
  refine zr_giN X hR (r := v11) fn_X9_288 dX9_hours_14 hf (fun v14 hf => ?_)
  cases hf
  exact zx_ret (zr_iret X hR dX9_hours_17 (Nat.le_of_ble_eq_true rfl) (Nat.le_of_ble_eq_true rfl))
def rm_X9_landOf : Room := { frames := 7, cells := 1, slots := 6, locals := 111 }
theorem mf_X9_landOf : zz_Mf yX9_landOf cX9_landOf 2 (some (.object "Springseat$Land")) 1 := ⟨q_1137, q_1, by decide +kernel, by decide +kernel, by decide +kernel⟩
set_option maxHeartbeats 4000000 in
set_option maxRecDepth 100000 in
theorem mt_X9_landOf {D : va_G} {dA : Nat → ClassId} {base t0 : Nat} {l : Launch} (hT : l.stackTraces = false) (a0 : Nat) (x1 : Int32) (h : zz_H) (n : Nat) {r0 : ((Option Nat) ⊕ Nat)} (hf : f_X9_landOf a0 x1 h = some r0) : zz_MX D dA base t0 l yX9_landOf cX9_landOf 2 (some (.object "Springseat$Land")) rm_X9_landOf [.ref a0, .int x1] h n (zz_ov (fun v : Option Nat => some (va_rf v)) r0) h n := by
  refine vx_ofW (cc := cX9_landOf) (maxL := 2) (ret := (some (.object "Springseat$Land"))) (by decide +kernel) rfl ?_
  intro p e s m args below meth c s₁ B hml hE hv
  obtain ⟨rfl, hP, hK⟩ := hv
  have X : zz_X D dA base t0 "Springseat" cX9_landOf 2 (some (.object "Springseat$Land")) l p s m meth c := ⟨B.exec, B.bytes, hml, B.returns, findClass_of_methodNamed B.named, B.notSynchronized, hT, by rw [hP.1]; exact hP.2.1, hK⟩
  have hx := X.1
  have hb := X.2.1
  have hown := X.2.2.2.2.1
  have hR : zz_R D dA base h n s s.heap [] := ⟨hP, va_S.rf⟩
  have hl := lv_entry ([.ref a0, .int x1]) (n := 2) (by exact Nat.le_of_ble_eq_true rfl)
  rw [lg_entry_eq]
  generalize (lg_sl ([.ref a0, .int x1]) ++ List.replicate (2 - (lg_sl ([.ref a0, .int x1])).length) Slot.unset).toArray = ls at hl ⊢
  have hl : lv_has ls 2 [(0, .ref a0), (1, .int x1)] := hl
  unfold f_X9_landOf at hf
  refine lv_iload_n hx hb dX9_landOf_0 rfl (lv_at hl 1 rfl) ?_
  refine lv_aload_n hx hb dX9_landOf_1 rfl (lv_at hl 0 rfl) ?_
  refine zr_gq X hR (r := (some a0)) fl_X9_22 dX9_landOf_2 hf (fun v2 hf => ?_)
  obtain ⟨b5, fs5, hr5, ho5, hf⟩ := zz_ob_i hf
  obtain ⟨v5, hv5, hf⟩ := zz_b_i hf
  refine zr_cV X hR hl.1 (As := []) (rest := [.int x1]) (C := RJx4a65c) (T := TJx4a65c) (N := 3) (mt_Jx4a65c_size_8abf5 hT b5 h n hv5) rfl ho5 mf_Jx4a65c_size_8abf5 q_177 q_178 q_179 ⟨Nat.le_of_ble_eq_true rfl, Nat.le_of_ble_eq_true rfl⟩ ⟨Nat.le_of_ble_eq_true rfl, Nat.le_of_ble_eq_true rfl⟩ (by rw [hr5]; rfl) (Nat.le_of_ble_eq_true rfl) dX9_landOf_5 (fun H locs hR => ?_)
  refine W.eq (g2 := F0 m 8 ls [.int v5, .int x1]) rfl ?_
  refine zx_cS X hE hR hl.1 (As := [.int x1, .int v5]) (rest := []) (ov := (fun _ : Unit => (none : Option Value))) (fun r hr => mt_X9_needIndex hT x1 v5 h n hr) mf_X9_needIndex q_586 q_587 ⟨Nat.le_of_ble_eq_true rfl, Nat.le_of_ble_eq_true rfl⟩ ⟨Nat.le_of_ble_eq_true rfl, Nat.le_of_ble_eq_true rfl⟩ rfl (Nat.le_of_ble_eq_true rfl) dX9_landOf_8 hf (fun k e => by cases e; exact ⟨rfl, rfl, Nat.le_refl _⟩) (Nat.le_of_ble_eq_true rfl) (Nat.le_of_ble_eq_true rfl) (fun v8 hf H locs hR => ?_)
  refine W.eq (g2 := F0 m 11 ls []) rfl ?_
  refine W.widen (k := 1) (n := 6) (Nat.le_of_ble_eq_true rfl) (Nat.le_of_ble_eq_true rfl) ?_
  refine lv_aload_n hx hb dX9_landOf_11 rfl (lv_at hl 0 rfl) ?_
  refine zr_gq X hR (r := (some a0)) fl_X9_22 dX9_landOf_12 hf (fun v12 hf => ?_)
  refine lv_iload_n hx hb dX9_landOf_15 rfl (lv_at hl 1 rfl) ?_
  obtain ⟨b16, fs16, hr16, ho16, hf⟩ := zz_ob_i hf
  obtain ⟨v16, hv16, hf⟩ := zz_b_i hf
  refine zr_cV X hR hl.1 (As := [.int x1]) (rest := []) (C := RJx4a65c) (T := TJx4a65c) (N := 3) (mt_Jx4a65c_get_915e3 hT b16 x1 h n hv16) rfl ho16 mf_Jx4a65c_get_915e3 q_181 q_182 q_183 ⟨Nat.le_of_ble_eq_true rfl, Nat.le_of_ble_eq_true rfl⟩ ⟨Nat.le_of_ble_eq_true rfl, Nat.le_of_ble_eq_true rfl⟩ (by rw [hr16]; rfl) (Nat.le_of_ble_eq_true rfl) dX9_landOf_16 (fun H locs hR => ?_)
  refine W.eq (g2 := F0 m 19 ls [va_rf v16]) rfl ?_
  refine zr_cc X hR (ci := 6) (C := RX5) (T := TX5) (N := 2) (r := v16) rfl q_74 (Or.inr trivial) dX9_landOf_19 hf (fun hf => ?_)
  cases hf
  exact zx_ret (zr_aret (Or.inl ⟨_, rfl⟩) X hR (r := _) dX9_landOf_22 (Nat.le_of_ble_eq_true rfl) (Nat.le_of_ble_eq_true rfl))
def rm_X9_land : Room := { frames := 8, cells := 3, slots := 18, locals := 132 }
theorem mf_X9_land : zz_Mf yX9_land cX9_land 6 (some .int) 3 := ⟨q_1133, q_1, by decide +kernel, by decide +kernel, by decide +kernel⟩
set_option maxHeartbeats 4000000 in
set_option maxRecDepth 100000 in
theorem bk_X9_land_17 {D : va_G} {dA : Nat → ClassId} {base t0 : Nat} {l : Launch} {p : Program} {e : Env} {s : State} {m : MethodId} {args : Array Value} {below : List Frame} {meth : Method} {c : Code} (X : zz_X D dA base t0 "Springseat" cX9_land 6 (some .int) l p s m meth c) (hE : ∀ x ∈ c.exceptionTable.toList, False) (hT : l.stackTraces = false) {x2 : Int32} {x3 : Int32} {x4 : (Option Nat)} {h : zz_H} {n : Nat} {H : Heap} {locs : List Loc} {ls : Array Slot} (hR : zz_R D dA base h n s H locs) (hl : lv_has ls 6 [(2, .int x2), (3, .int x3), (4, va_rf x4)]) {r0 : (Int32 ⊕ Nat)} {hF : zz_H} (hf : f_X9_land_17 x2 x3 x4 h = some (r0, hF)) : W p l e rm_X9_land s m args below meth c H locs 2 12 (vx_MQ below (zz_Qo D dA base (zz_ov (fun v : Int32 => some (Value.int v)) r0) hF n) (zz_Xo D dA base (zz_ov (fun v : Int32 => some (Value.int v)) r0) hF n) args s rm_X9_land.cells rm_X9_land.slots (fun q => base ≤ q)) (F0 m 17 ls []) := by
  have hx := X.1
  have hb := X.2.1
  have hown := X.2.2.2.2.1
  unfold f_X9_land_17 at hf
  refine lv_iload_n hx hb dX9_land_17 rfl (lv_at hl 1 rfl) ?_
  refine lv_iconst (v := (0 : Int32)) hx hb dX9_land_18 (by decide) ?_
  refine lv_iconst (v := (4 : Int32)) hx hb dX9_land_19 (by decide) ?_
  refine zx_cS X hE hR hl.1 (As := [.int x3, .int (0 : Int32), .int (4 : Int32)]) (rest := []) (ov := (fun _ : Unit => (none : Option Value))) (fun r hr => mt_X9_needRange hT x3 (0 : Int32) (4 : Int32) h n hr) mf_X9_needRange q_344 q_345 ⟨Nat.le_of_ble_eq_true rfl, Nat.le_of_ble_eq_true rfl⟩ ⟨Nat.le_of_ble_eq_true rfl, Nat.le_of_ble_eq_true rfl⟩ rfl (Nat.le_of_ble_eq_true rfl) dX9_land_20 hf (fun k e => by cases e; exact ⟨rfl, rfl, Nat.le_refl _⟩) (Nat.le_of_ble_eq_true rfl) (Nat.le_of_ble_eq_true rfl) (fun v20 hf H locs hR => ?_)
  refine W.eq (g2 := F0 m 23 ls []) rfl ?_
  refine W.widen (k := 3) (n := 18) (Nat.le_of_ble_eq_true rfl) (Nat.le_of_ble_eq_true rfl) ?_
  refine zr_aload hx hb dX9_land_23 (lv_at hl 2 rfl) ?_
  refine zr_giN X hR (r := x4) fn_X9_295 dX9_land_25 hf (fun v25 hf => ?_)
  refine lv_istore (i := 5) (lv' := [(5, .int v25), (2, .int x2), (3, .int x3), (4, va_rf x4)]) hx hb dX9_land_28 hl (by decide) (by simp [zz_cat, zz_catI, zz_catR, zz_catJ, zz_catF, zz_catD]) (fun ls hl => ?_)
  refine zr_aload hx hb dX9_land_30 (lv_at hl 3 rfl) ?_
  refine lv_iload_n hx hb dX9_land_32 rfl (lv_at hl 1 rfl) ?_
  obtain ⟨hz33, hf⟩ := zz_gc_i hf
  refine zr_pN X hR (r := x4) (v := .int x2) fn_X9_298 rfl dX9_land_33 (zz_nc hz33) (zz_fc hz33) hf (fun h33 H locs hf hR => ?_)
  refine zr_aload hx hb dX9_land_36 (lv_at hl 3 rfl) ?_
  refine lv_iload_n hx hb dX9_land_38 rfl (lv_at hl 2 rfl) ?_
  refine zr_pN X hR (r := x4) (v := .int x3) fn_X9_295 rfl dX9_land_39 rfl rfl hf (fun h39 H locs hf hR => ?_)
  refine lv_iload hx hb dX9_land_42 (lv_at hl 0 rfl) ?_
  cases hf
  exact zx_ret (zr_iret X hR dX9_land_44 (Nat.le_of_ble_eq_true rfl) (Nat.le_of_ble_eq_true rfl))
set_option maxHeartbeats 4000000 in
set_option maxRecDepth 100000 in
theorem mt_X9_land {D : va_G} {dA : Nat → ClassId} {base t0 : Nat} {l : Launch} (hT : l.stackTraces = false) (a0 : Nat) (x1 : Int32) (x2 : Int32) (x3 : Int32) (h : zz_H) (n : Nat) {r0 : (Int32 ⊕ Nat)} {hF : zz_H} (hf : f_X9_land a0 x1 x2 x3 h = some (r0, hF)) : zz_MX D dA base t0 l yX9_land cX9_land 6 (some .int) rm_X9_land [.ref a0, .int x1, .int x2, .int x3] h n (zz_ov (fun v : Int32 => some (Value.int v)) r0) hF n := by
  refine vx_ofW (cc := cX9_land) (maxL := 6) (ret := (some .int)) (by decide +kernel) rfl ?_
  intro p e s m args below meth c s₁ B hml hE hv
  obtain ⟨rfl, hP, hK⟩ := hv
  have X : zz_X D dA base t0 "Springseat" cX9_land 6 (some .int) l p s m meth c := ⟨B.exec, B.bytes, hml, B.returns, findClass_of_methodNamed B.named, B.notSynchronized, hT, by rw [hP.1]; exact hP.2.1, hK⟩
  have hx := X.1
  have hb := X.2.1
  have hown := X.2.2.2.2.1
  have hR : zz_R D dA base h n s s.heap [] := ⟨hP, va_S.rf⟩
  have hl := lv_entry ([.ref a0, .int x1, .int x2, .int x3]) (n := 6) (by exact Nat.le_of_ble_eq_true rfl)
  rw [lg_entry_eq]
  generalize (lg_sl ([.ref a0, .int x1, .int x2, .int x3]) ++ List.replicate (6 - (lg_sl ([.ref a0, .int x1, .int x2, .int x3])).length) Slot.unset).toArray = ls at hl ⊢
  have hl : lv_has ls 6 [(0, .ref a0), (1, .int x1), (2, .int x2), (3, .int x3)] := hl
  unfold f_X9_land at hf
  refine lv_aload_n hx hb dX9_land_0 rfl (lv_at hl 0 rfl) ?_
  refine lv_iload_n hx hb dX9_land_1 rfl (lv_at hl 1 rfl) ?_
  obtain ⟨fs2, ho2, hf⟩ := zz_obS_i hf
  refine zx_cV X hE hR hl.1 (As := [.int x1]) (rest := []) (C := RX9) (T := TX9) (N := 6) (ov := (fun v : Option Nat => some (va_rf v))) (fun r hr => mt_X9_landOf hT a0 x1 h n hr) rfl ho2 mf_X9_landOf q_1134 q_1136 qs_16 ⟨Nat.le_of_ble_eq_true rfl, Nat.le_of_ble_eq_true rfl⟩ ⟨Nat.le_of_ble_eq_true rfl, Nat.le_of_ble_eq_true rfl⟩ rfl (Nat.le_of_ble_eq_true rfl) dX9_land_2 hf (fun k e => by cases e; exact ⟨rfl, rfl, Nat.le_refl _⟩) (Nat.le_of_ble_eq_true rfl) (Nat.le_of_ble_eq_true rfl) (fun v2 hf H locs hR => ?_)
  refine W.eq (g2 := F0 m 5 ls [va_rf v2]) rfl ?_
  refine W.widen (k := 1) (n := 6) (Nat.le_of_ble_eq_true rfl) (Nat.le_of_ble_eq_true rfl) ?_
  refine zr_astore (i := 4) (lv' := [(4, va_rf v2), (0, .ref a0), (1, .int x1), (2, .int x2), (3, .int x3)]) hx hb dX9_land_5 hl (by decide) rfl (fun ls hl => ?_)
  refine lv_iload_n hx hb dX9_land_7 rfl (lv_at hl 3 rfl) ?_
  refine lv_bipush (v := (45 : Int32)) hx hb dX9_land_8 (by decide) ?_
  refine lv_icmp_eq (tgt := 17) hx hb dX9_land_10 (by decide) (fun c10 => ?_) (fun c10 => ?_)
  · replace hf := zz_pos c10 hf
    refine W.widen (k := 2) (n := 12) (Nat.le_of_ble_eq_true rfl) (Nat.le_of_ble_eq_true rfl) ?_
    exact bk_X9_land_17 X hE hT hR (lv_sub hl [3, 4, 0] rfl) hf
  · replace hf := zz_neg c10 hf
    refine lv_iload_n hx hb dX9_land_13 rfl (lv_at hl 3 rfl) ?_
    refine zx_cS X hE hR hl.1 (As := [.int x2]) (rest := []) (ov := (fun _ : Unit => (none : Option Value))) (fun r hr => mt_X9_needKind hT x2 h n hr) mf_X9_needKind q_708 q_709 ⟨Nat.le_of_ble_eq_true rfl, Nat.le_of_ble_eq_true rfl⟩ ⟨Nat.le_of_ble_eq_true rfl, Nat.le_of_ble_eq_true rfl⟩ rfl (Nat.le_of_ble_eq_true rfl) dX9_land_14 hf (fun k e => by cases e; exact ⟨rfl, rfl, Nat.le_refl _⟩) (Nat.le_of_ble_eq_true rfl) (Nat.le_of_ble_eq_true rfl) (fun v14 hf H locs hR => ?_)
    refine W.eq (g2 := F0 m 17 ls []) rfl ?_
    refine W.widen (k := 2) (n := 12) (Nat.le_of_ble_eq_true rfl) (Nat.le_of_ble_eq_true rfl) ?_
    exact bk_X9_land_17 X hE hT hR (lv_sub hl [3, 4, 0] rfl) hf
def rm_X9_burns : Room := { frames := 8, cells := 2, slots := 12, locals := 132 }
theorem mf_X9_burns : zz_Mf yX9_burns cX9_burns 5 (some .boolean) 2 := ⟨q_1144, q_1, by decide +kernel, by decide +kernel, by decide +kernel⟩
set_option maxHeartbeats 4000000 in
set_option maxRecDepth 100000 in
theorem bk_X9_burns_52 {D : va_G} {dA : Nat → ClassId} {base t0 : Nat} {l : Launch} {p : Program} {e : Env} {s : State} {m : MethodId} {args : Array Value} {below : List Frame} {meth : Method} {c : Code} (X : zz_X D dA base t0 "Springseat" cX9_burns 5 (some .boolean) l p s m meth c) (hE : ∀ x ∈ c.exceptionTable.toList, False) (hT : l.stackTraces = false) {s0 : Int32} {h : zz_H} {n : Nat} {H : Heap} {locs : List Loc} {ls : Array Slot} (hR : zz_R D dA base h n s H locs) (hl : lv_has ls 5 []) {r0 : (Int32 ⊕ Nat)} (hf : f_X9_burns_52 s0 h = some r0) : W p l e rm_X9_burns s m args below meth c H locs 2 12 (vx_MQ below (zz_Qo D dA base (zz_ov (fun v : Int32 => some (Value.int v)) r0) h n) (zz_Xo D dA base (zz_ov (fun v : Int32 => some (Value.int v)) r0) h n) args s rm_X9_burns.cells rm_X9_burns.slots (fun q => base ≤ q)) (F0 m 52 ls [.int s0]) := by
  have hx := X.1
  have hb := X.2.1
  have hown := X.2.2.2.2.1
  unfold f_X9_burns_52 at hf
  obtain ⟨hz52, hf⟩ := zz_gz_i hf
  cases hf
  exact zx_ret (zr_zret X hR (zz_nz hz52) dX9_burns_52 (Nat.le_of_ble_eq_true rfl) (Nat.le_of_ble_eq_true rfl))
set_option maxHeartbeats 4000000 in
set_option maxRecDepth 100000 in
theorem bk_X9_burns_51 {D : va_G} {dA : Nat → ClassId} {base t0 : Nat} {l : Launch} {p : Program} {e : Env} {s : State} {m : MethodId} {args : Array Value} {below : List Frame} {meth : Method} {c : Code} (X : zz_X D dA base t0 "Springseat" cX9_burns 5 (some .boolean) l p s m meth c) (hE : ∀ x ∈ c.exceptionTable.toList, False) (hT : l.stackTraces = false) {h : zz_H} {n : Nat} {H : Heap} {locs : List Loc} {ls : Array Slot} (hR : zz_R D dA base h n s H locs) (hl : lv_has ls 5 []) {r0 : (Int32 ⊕ Nat)} (hf : f_X9_burns_51 h = some r0) : W p l e rm_X9_burns s m args below meth c H locs 2 12 (vx_MQ below (zz_Qo D dA base (zz_ov (fun v : Int32 => some (Value.int v)) r0) h n) (zz_Xo D dA base (zz_ov (fun v : Int32 => some (Value.int v)) r0) h n) args s rm_X9_burns.cells rm_X9_burns.slots (fun q => base ≤ q)) (F0 m 51 ls []) := by
  have hx := X.1
  have hb := X.2.1
  have hown := X.2.2.2.2.1
  unfold f_X9_burns_51 at hf
  refine lv_iconst (v := (0 : Int32)) hx hb dX9_burns_51 (by decide) ?_
  exact bk_X9_burns_52 X hE hT hR (lv_sub hl [] rfl) hf
set_option maxHeartbeats 4000000 in
set_option maxRecDepth 100000 in
theorem bk_X9_burns_47 {D : va_G} {dA : Nat → ClassId} {base t0 : Nat} {l : Launch} {p : Program} {e : Env} {s : State} {m : MethodId} {args : Array Value} {below : List Frame} {meth : Method} {c : Code} (X : zz_X D dA base t0 "Springseat" cX9_burns 5 (some .boolean) l p s m meth c) (hE : ∀ x ∈ c.exceptionTable.toList, False) (hT : l.stackTraces = false) {h : zz_H} {n : Nat} {H : Heap} {locs : List Loc} {ls : Array Slot} (hR : zz_R D dA base h n s H locs) (hl : lv_has ls 5 []) {r0 : (Int32 ⊕ Nat)} (hf : f_X9_burns_47 h = some r0) : W p l e rm_X9_burns s m args below meth c H locs 2 12 (vx_MQ below (zz_Qo D dA base (zz_ov (fun v : Int32 => some (Value.int v)) r0) h n) (zz_Xo D dA base (zz_ov (fun v : Int32 => some (Value.int v)) r0) h n) args s rm_X9_burns.cells rm_X9_burns.slots (fun q => base ≤ q)) (F0 m 47 ls []) := by
  have hx := X.1
  have hb := X.2.1
  have hown := X.2.2.2.2.1
  unfold f_X9_burns_47 at hf
  refine lv_iconst (v := (1 : Int32)) hx hb dX9_burns_47 (by decide) ?_
  refine lv_goto (tgt := 52) hx hb dX9_burns_48 (by decide) ?_
  exact bk_X9_burns_52 X hE hT hR (lv_sub hl [] rfl) hf
set_option maxHeartbeats 4000000 in
set_option maxRecDepth 100000 in
theorem mt_X9_burns {D : va_G} {dA : Nat → ClassId} {base t0 : Nat} {l : Launch} (hT : l.stackTraces = false) (a0 : Nat) (x1 : Int32) (x2 : Int32) (h : zz_H) (n : Nat) {r0 : (Int32 ⊕ Nat)} (hf : f_X9_burns a0 x1 x2 h = some r0) : zz_MX D dA base t0 l yX9_burns cX9_burns 5 (some .boolean) rm_X9_burns [.ref a0, .int x1, .int x2] h n (zz_ov (fun v : Int32 => some (Value.int v)) r0) h n := by
  refine vx_ofW (cc := cX9_burns) (maxL := 5) (ret := (some .boolean)) (by decide +kernel) rfl ?_
  intro p e s m args below meth c s₁ B hml hE hv
  obtain ⟨rfl, hP, hK⟩ := hv
  have X : zz_X D dA base t0 "Springseat" cX9_burns 5 (some .boolean) l p s m meth c := ⟨B.exec, B.bytes, hml, B.returns, findClass_of_methodNamed B.named, B.notSynchronized, hT, by rw [hP.1]; exact hP.2.1, hK⟩
  have hx := X.1
  have hb := X.2.1
  have hown := X.2.2.2.2.1
  have hR : zz_R D dA base h n s s.heap [] := ⟨hP, va_S.rf⟩
  have hl := lv_entry ([.ref a0, .int x1, .int x2]) (n := 5) (by exact Nat.le_of_ble_eq_true rfl)
  rw [lg_entry_eq]
  generalize (lg_sl ([.ref a0, .int x1, .int x2]) ++ List.replicate (5 - (lg_sl ([.ref a0, .int x1, .int x2])).length) Slot.unset).toArray = ls at hl ⊢
  have hl : lv_has ls 5 [(0, .ref a0), (1, .int x1), (2, .int x2)] := hl
  unfold f_X9_burns at hf
  refine lv_aload_n hx hb dX9_burns_0 rfl (lv_at hl 0 rfl) ?_
  refine lv_iload_n hx hb dX9_burns_1 rfl (lv_at hl 1 rfl) ?_
  obtain ⟨fs2, ho2, hf⟩ := zz_obS_i hf
  refine zx_cV X hE hR hl.1 (As := [.int x1]) (rest := []) (C := RX9) (T := TX9) (N := 6) (ov := (fun v : Option Nat => some (va_rf v))) (fun r hr => mt_X9_seatOf hT a0 x1 h n hr) rfl ho2 mf_X9_seatOf q_582 q_584 qs_9 ⟨Nat.le_of_ble_eq_true rfl, Nat.le_of_ble_eq_true rfl⟩ ⟨Nat.le_of_ble_eq_true rfl, Nat.le_of_ble_eq_true rfl⟩ rfl (Nat.le_of_ble_eq_true rfl) dX9_burns_2 hf (fun k e => by cases e; exact ⟨rfl, rfl, Nat.le_refl _⟩) (Nat.le_of_ble_eq_true rfl) (Nat.le_of_ble_eq_true rfl) (fun v2 hf H locs hR => ?_)
  refine W.eq (g2 := F0 m 5 ls [va_rf v2]) rfl ?_
  refine W.widen (k := 1) (n := 6) (Nat.le_of_ble_eq_true rfl) (Nat.le_of_ble_eq_true rfl) ?_
  refine zr_gqN X hR (r := v2) fn_X9_130 dX9_burns_5 hf (fun v5 hf => ?_)
  refine zr_astore_n (i := 3) (lv' := [(3, va_rf v5), (0, .ref a0), (1, .int x1), (2, .int x2)]) hx hb dX9_burns_8 rfl hl (by decide) rfl (fun ls hl => ?_)
  refine lv_aload_n hx hb dX9_burns_9 rfl (lv_at hl 1 rfl) ?_
  refine lv_iload_n hx hb dX9_burns_10 rfl (lv_at hl 3 rfl) ?_
  obtain ⟨fs11, ho11, hf⟩ := zz_obS_i hf
  refine zx_cV X hE hR hl.1 (As := [.int x2]) (rest := []) (C := RX9) (T := TX9) (N := 6) (ov := (fun v : Option Nat => some (va_rf v))) (fun r hr => mt_X9_landOf hT a0 x2 h n hr) rfl ho11 mf_X9_landOf q_1134 q_1136 qs_16 ⟨Nat.le_of_ble_eq_true rfl, Nat.le_of_ble_eq_true rfl⟩ ⟨Nat.le_of_ble_eq_true rfl, Nat.le_of_ble_eq_true rfl⟩ rfl (Nat.le_of_ble_eq_true rfl) dX9_burns_11 hf (fun k e => by cases e; exact ⟨rfl, rfl, Nat.le_refl _⟩) (Nat.le_of_ble_eq_true rfl) (Nat.le_of_ble_eq_true rfl) (fun v11 hf H locs hR => ?_)
  refine W.eq (g2 := F0 m 14 ls [va_rf v11]) rfl ?_
  refine W.widen (k := 2) (n := 12) (Nat.le_of_ble_eq_true rfl) (Nat.le_of_ble_eq_true rfl) ?_
  refine zr_astore (i := 4) (lv' := [(4, va_rf v11), (3, va_rf v5), (0, .ref a0), (1, .int x1), (2, .int x2)]) hx hb dX9_burns_14 hl (by decide) (by simp [zz_cat, zz_catI, zz_catR, zz_catJ, zz_catF, zz_catD]) (fun ls hl => ?_)
  refine zr_aload_n hx hb dX9_burns_16 rfl (lv_at hl 1 rfl) ?_
  obtain ⟨b17, fs17, hr17, ho17, hf⟩ := zz_ob_i hf
  obtain ⟨v17, hv17, hf⟩ := zz_b_i hf
  refine zr_cV X hR hl.1 (As := []) (rest := []) (C := RX2) (T := TX2) (N := 1) (mt_X2_count hT b17 h n hv17) rfl ho17 mf_X2_count q_933 q_934 q_935 ⟨Nat.le_of_ble_eq_true rfl, Nat.le_of_ble_eq_true rfl⟩ ⟨Nat.le_of_ble_eq_true rfl, Nat.le_of_ble_eq_true rfl⟩ (by rw [hr17]; rfl) (Nat.le_of_ble_eq_true rfl) dX9_burns_17 (fun H locs hR => ?_)
  refine W.eq (g2 := F0 m 20 ls [.int v17]) rfl ?_
  refine lv_if_le (tgt := 51) hx hb dX9_burns_20 (by decide) (fun c20 => ?_) (fun c20 => ?_)
  · replace hf := zz_pos c20 hf
    exact bk_X9_burns_51 X hE hT hR (lv_sub hl [] rfl) hf
  · replace hf := zz_neg c20 hf
    refine zr_aload_n hx hb dX9_burns_23 rfl (lv_at hl 1 rfl) ?_
    obtain ⟨b24, fs24, hr24, ho24, hf⟩ := zz_ob_i hf
    obtain ⟨v24, hv24, hf⟩ := zz_b_i hf
    refine zr_cV X hR hl.1 (As := []) (rest := []) (C := RX2) (T := TX2) (N := 1) (mt_X2_topmostKind hT b24 h n hv24) rfl ho24 mf_X2_topmostKind q_1145 q_1146 q_1147 ⟨Nat.le_of_ble_eq_true rfl, Nat.le_of_ble_eq_true rfl⟩ ⟨Nat.le_of_ble_eq_true rfl, Nat.le_of_ble_eq_true rfl⟩ (by rw [hr24]; rfl) (Nat.le_of_ble_eq_true rfl) dX9_burns_24 (fun H locs hR => ?_)
    refine W.eq (g2 := F0 m 27 ls [.int v24]) rfl ?_
    refine zr_aload hx hb dX9_burns_27 (lv_at hl 0 rfl) ?_
    refine zr_giN X hR (r := v11) fn_X9_298 dX9_burns_29 hf (fun v29 hf => ?_)
    refine lv_icmp_eq (tgt := 47) hx hb dX9_burns_32 (by decide) (fun c32 => ?_) (fun c32 => ?_)
    · replace hf := zz_pos c32 hf
      exact bk_X9_burns_47 X hE hT hR (lv_sub hl [] rfl) hf
    · replace hf := zz_neg c32 hf
      refine zr_aload_n hx hb dX9_burns_35 rfl (lv_at hl 1 rfl) ?_
      obtain ⟨b36, fs36, hr36, ho36, hf⟩ := zz_ob_i hf
      obtain ⟨v36, hv36, hf⟩ := zz_b_i hf
      refine zr_cV X hR hl.1 (As := []) (rest := []) (C := RX2) (T := TX2) (N := 1) (mt_X2_foamCount hT b36 h n hv36) rfl ho36 mf_X2_foamCount q_1149 q_1150 q_1151 ⟨Nat.le_of_ble_eq_true rfl, Nat.le_of_ble_eq_true rfl⟩ ⟨Nat.le_of_ble_eq_true rfl, Nat.le_of_ble_eq_true rfl⟩ (by rw [hr36]; rfl) (Nat.le_of_ble_eq_true rfl) dX9_burns_36 (fun H locs hR => ?_)
      refine W.eq (g2 := F0 m 39 ls [.int v36]) rfl ?_
      refine zr_aload hx hb dX9_burns_39 (lv_at hl 0 rfl) ?_
      refine zr_giN X hR (r := v11) fn_X9_295 dX9_burns_41 hf (fun v41 hf => ?_)
      refine lv_icmp_le (tgt := 51) hx hb dX9_burns_44 (by decide) (fun c44 => ?_) (fun c44 => ?_)
      · replace hf := zz_pos c44 hf
        exact bk_X9_burns_51 X hE hT hR (lv_sub hl [] rfl) hf
      · replace hf := zz_neg c44 hf
        exact bk_X9_burns_47 X hE hT hR (lv_sub hl [] rfl) hf
def rm_X9_tack : Room := { frames := 8, cells := 3, slots := 18, locals := 132 }
theorem mf_X9_tack : zz_Mf yX9_tack cX9_tack 6 (some .int) 3 := ⟨q_1159, q_1, by decide +kernel, by decide +kernel, by decide +kernel⟩
set_option maxHeartbeats 4000000 in
set_option maxRecDepth 100000 in
theorem mt_X9_tack {D : va_G} {dA : Nat → ClassId} {base t0 : Nat} {l : Launch} (hT : l.stackTraces = false) (a0 : Nat) (x1 : Int32) (x2 : Int32) (x3 : Int32) (h : zz_H) (n : Nat) {r0 : (Int32 ⊕ Nat)} {hF : zz_H} (hf : f_X9_tack a0 x1 x2 x3 h = some (r0, hF)) : zz_MX D dA base t0 l yX9_tack cX9_tack 6 (some .int) rm_X9_tack [.ref a0, .int x1, .int x2, .int x3] h n (zz_ov (fun v : Int32 => some (Value.int v)) r0) hF n := by
  refine vx_ofW (cc := cX9_tack) (maxL := 6) (ret := (some .int)) (by decide +kernel) rfl ?_
  intro p e s m args below meth c s₁ B hml hE hv
  obtain ⟨rfl, hP, hK⟩ := hv
  have X : zz_X D dA base t0 "Springseat" cX9_tack 6 (some .int) l p s m meth c := ⟨B.exec, B.bytes, hml, B.returns, findClass_of_methodNamed B.named, B.notSynchronized, hT, by rw [hP.1]; exact hP.2.1, hK⟩
  have hx := X.1
  have hb := X.2.1
  have hown := X.2.2.2.2.1
  have hR : zz_R D dA base h n s s.heap [] := ⟨hP, va_S.rf⟩
  have hl := lv_entry ([.ref a0, .int x1, .int x2, .int x3]) (n := 6) (by exact Nat.le_of_ble_eq_true rfl)
  rw [lg_entry_eq]
  generalize (lg_sl ([.ref a0, .int x1, .int x2, .int x3]) ++ List.replicate (6 - (lg_sl ([.ref a0, .int x1, .int x2, .int x3])).length) Slot.unset).toArray = ls at hl ⊢
  have hl : lv_has ls 6 [(0, .ref a0), (1, .int x1), (2, .int x2), (3, .int x3)] := hl
  unfold f_X9_tack at hf
  refine lv_aload_n hx hb dX9_tack_0 rfl (lv_at hl 0 rfl) ?_
  refine lv_iload_n hx hb dX9_tack_1 rfl (lv_at hl 1 rfl) ?_
  obtain ⟨fs2, ho2, hf⟩ := zz_obS_i hf
  refine zx_cV X hE hR hl.1 (As := [.int x1]) (rest := []) (C := RX9) (T := TX9) (N := 6) (ov := (fun v : Option Nat => some (va_rf v))) (fun r hr => mt_X9_seatOf hT a0 x1 h n hr) rfl ho2 mf_X9_seatOf q_582 q_584 qs_9 ⟨Nat.le_of_ble_eq_true rfl, Nat.le_of_ble_eq_true rfl⟩ ⟨Nat.le_of_ble_eq_true rfl, Nat.le_of_ble_eq_true rfl⟩ rfl (Nat.le_of_ble_eq_true rfl) dX9_tack_2 hf (fun k e => by cases e; exact ⟨rfl, rfl, Nat.le_refl _⟩) (Nat.le_of_ble_eq_true rfl) (Nat.le_of_ble_eq_true rfl) (fun v2 hf H locs hR => ?_)
  refine W.eq (g2 := F0 m 5 ls [va_rf v2]) rfl ?_
  refine W.widen (k := 1) (n := 6) (Nat.le_of_ble_eq_true rfl) (Nat.le_of_ble_eq_true rfl) ?_
  refine lv_iload_n hx hb dX9_tack_5 rfl (lv_at hl 2 rfl) ?_
  refine zx_cS X hE hR hl.1 (As := [va_rf v2, .int x2]) (rest := []) (ov := (fun v : Option Nat => some (va_rf v))) (fun r hr => mt_X9_layerOf hT v2 x2 h n hr) mf_X9_layerOf q_930 q_931 ⟨Nat.le_of_ble_eq_true rfl, Nat.le_of_ble_eq_true rfl⟩ ⟨Nat.le_of_ble_eq_true rfl, Nat.le_of_ble_eq_true rfl⟩ rfl (Nat.le_of_ble_eq_true rfl) dX9_tack_6 hf (fun k e => by cases e; exact ⟨rfl, rfl, Nat.le_refl _⟩) (Nat.le_of_ble_eq_true rfl) (Nat.le_of_ble_eq_true rfl) (fun v6 hf H locs hR => ?_)
  refine W.eq (g2 := F0 m 9 ls [va_rf v6]) rfl ?_
  refine W.widen (k := 2) (n := 12) (Nat.le_of_ble_eq_true rfl) (Nat.le_of_ble_eq_true rfl) ?_
  refine zr_astore (i := 4) (lv' := [(4, va_rf v6), (0, .ref a0), (1, .int x1), (2, .int x2), (3, .int x3)]) hx hb dX9_tack_9 hl (by decide) rfl (fun ls hl => ?_)
  refine lv_iload_n hx hb dX9_tack_11 rfl (lv_at hl 4 rfl) ?_
  refine lv_sipush (v := (1700 : Int32)) hx hb dX9_tack_12 (by decide) ?_
  refine lv_sipush (v := (2100 : Int32)) hx hb dX9_tack_15 (by decide) ?_
  refine zx_cS X hE hR hl.1 (As := [.int x3, .int (1700 : Int32), .int (2100 : Int32)]) (rest := []) (ov := (fun _ : Unit => (none : Option Value))) (fun r hr => mt_X9_needRange hT x3 (1700 : Int32) (2100 : Int32) h n hr) mf_X9_needRange q_344 q_345 ⟨Nat.le_of_ble_eq_true rfl, Nat.le_of_ble_eq_true rfl⟩ ⟨Nat.le_of_ble_eq_true rfl, Nat.le_of_ble_eq_true rfl⟩ rfl (Nat.le_of_ble_eq_true rfl) dX9_tack_18 hf (fun k e => by cases e; exact ⟨rfl, rfl, Nat.le_refl _⟩) (Nat.le_of_ble_eq_true rfl) (Nat.le_of_ble_eq_true rfl) (fun v18 hf H locs hR => ?_)
  refine W.eq (g2 := F0 m 21 ls []) rfl ?_
  refine W.widen (k := 3) (n := 18) (Nat.le_of_ble_eq_true rfl) (Nat.le_of_ble_eq_true rfl) ?_
  refine zr_aload hx hb dX9_tack_21 (lv_at hl 0 rfl) ?_
  refine zr_giN X hR (r := v6) fn_X9_312 dX9_tack_23 hf (fun v23 hf => ?_)
  refine lv_istore (i := 5) (lv' := [(5, .int v23), (4, va_rf v6), (0, .ref a0), (1, .int x1), (2, .int x2), (3, .int x3)]) hx hb dX9_tack_26 hl (by decide) (by simp [zz_cat, zz_catI, zz_catR, zz_catJ, zz_catF, zz_catD]) (fun ls hl => ?_)
  refine zr_aload hx hb dX9_tack_28 (lv_at hl 1 rfl) ?_
  refine lv_iload_n hx hb dX9_tack_30 rfl (lv_at hl 5 rfl) ?_
  refine zr_pN X hR (r := v6) (v := .int x3) fn_X9_312 rfl dX9_tack_31 rfl rfl hf (fun h31 H locs hf hR => ?_)
  refine lv_iload hx hb dX9_tack_34 (lv_at hl 0 rfl) ?_
  cases hf
  exact zx_ret (zr_iret X hR dX9_tack_36 (Nat.le_of_ble_eq_true rfl) (Nat.le_of_ble_eq_true rfl))
def rm_X9_quarrels : Room := { frames := 8, cells := 1, slots := 6, locals := 132 }
theorem mf_X9_quarrels : zz_Mf yX9_quarrels cX9_quarrels 2 (some .int) 1 := ⟨q_1166, q_1, by decide +kernel, by decide +kernel, by decide +kernel⟩
set_option maxHeartbeats 4000000 in
set_option maxRecDepth 100000 in
theorem mt_X9_quarrels {D : va_G} {dA : Nat → ClassId} {base t0 : Nat} {l : Launch} (hT : l.stackTraces = false) (a0 : Nat) (x1 : Int32) (h : zz_H) (n : Nat) {r0 : (Int32 ⊕ Nat)} (hf : f_X9_quarrels a0 x1 h = some r0) : zz_MX D dA base t0 l yX9_quarrels cX9_quarrels 2 (some .int) rm_X9_quarrels [.ref a0, .int x1] h n (zz_ov (fun v : Int32 => some (Value.int v)) r0) h n := by
  refine vx_ofW (cc := cX9_quarrels) (maxL := 2) (ret := (some .int)) (by decide +kernel) rfl ?_
  intro p e s m args below meth c s₁ B hml hE hv
  obtain ⟨rfl, hP, hK⟩ := hv
  have X : zz_X D dA base t0 "Springseat" cX9_quarrels 2 (some .int) l p s m meth c := ⟨B.exec, B.bytes, hml, B.returns, findClass_of_methodNamed B.named, B.notSynchronized, hT, by rw [hP.1]; exact hP.2.1, hK⟩
  have hx := X.1
  have hb := X.2.1
  have hown := X.2.2.2.2.1
  have hR : zz_R D dA base h n s s.heap [] := ⟨hP, va_S.rf⟩
  have hl := lv_entry ([.ref a0, .int x1]) (n := 2) (by exact Nat.le_of_ble_eq_true rfl)
  rw [lg_entry_eq]
  generalize (lg_sl ([.ref a0, .int x1]) ++ List.replicate (2 - (lg_sl ([.ref a0, .int x1])).length) Slot.unset).toArray = ls at hl ⊢
  have hl : lv_has ls 2 [(0, .ref a0), (1, .int x1)] := hl
  unfold f_X9_quarrels at hf
  refine lv_aload_n hx hb dX9_quarrels_0 rfl (lv_at hl 0 rfl) ?_
  refine lv_iload_n hx hb dX9_quarrels_1 rfl (lv_at hl 1 rfl) ?_
  obtain ⟨fs2, ho2, hf⟩ := zz_obS_i hf
  refine zx_cV X hE hR hl.1 (As := [.int x1]) (rest := []) (C := RX9) (T := TX9) (N := 6) (ov := (fun v : Option Nat => some (va_rf v))) (fun r hr => mt_X9_seatOf hT a0 x1 h n hr) rfl ho2 mf_X9_seatOf q_582 q_584 qs_9 ⟨Nat.le_of_ble_eq_true rfl, Nat.le_of_ble_eq_true rfl⟩ ⟨Nat.le_of_ble_eq_true rfl, Nat.le_of_ble_eq_true rfl⟩ rfl (Nat.le_of_ble_eq_true rfl) dX9_quarrels_2 hf (fun k e => by cases e; exact ⟨rfl, rfl, Nat.le_refl _⟩) (Nat.le_of_ble_eq_true rfl) (Nat.le_of_ble_eq_true rfl) (fun v2 hf H locs hR => ?_)
  refine W.eq (g2 := F0 m 5 ls [va_rf v2]) rfl ?_
  refine W.widen (k := 1) (n := 6) (Nat.le_of_ble_eq_true rfl) (Nat.le_of_ble_eq_true rfl) ?_
  refine zr_gqN X hR (r := v2) fn_X9_130 dX9_quarrels_5 hf (fun v5 hf => ?_)
  obtain ⟨b8, fs8, hr8, ho8, hf⟩ := zz_ob_i hf
  obtain ⟨v8, hv8, hf⟩ := zz_b_i hf
  refine zr_cV X hR hl.1 (As := []) (rest := []) (C := RX2) (T := TX2) (N := 1) (mt_X2_quarrelCount hT b8 h n hv8) rfl ho8 mf_X2_quarrelCount q_1167 q_1168 q_1169 ⟨Nat.le_of_ble_eq_true rfl, Nat.le_of_ble_eq_true rfl⟩ ⟨Nat.le_of_ble_eq_true rfl, Nat.le_of_ble_eq_true rfl⟩ (by rw [hr8]; rfl) (Nat.le_of_ble_eq_true rfl) dX9_quarrels_8 (fun H locs hR => ?_)
  refine W.eq (g2 := F0 m 11 ls [.int v8]) rfl ?_
  cases hf
  exact zx_ret (zr_iret X hR dX9_quarrels_11 (Nat.le_of_ble_eq_true rfl) (Nat.le_of_ble_eq_true rfl))
def rm_X9_promise : Room := { frames := 8, cells := 2, slots := 12, locals := 132 }
theorem mf_X9_promise : zz_Mf yX9_promise cX9_promise 5 (some .int) 2 := ⟨q_1181, q_1, by decide +kernel, by decide +kernel, by decide +kernel⟩
set_option maxHeartbeats 4000000 in
set_option maxRecDepth 100000 in
theorem mt_X9_promise {D : va_G} {dA : Nat → ClassId} {base t0 : Nat} {l : Launch} (hT : l.stackTraces = false) (a0 : Nat) (x1 : Int32) (x2 : Int32) (h : zz_H) (n : Nat) {r0 : (Int32 ⊕ Nat)} {hF : zz_H} (hf : f_X9_promise a0 x1 x2 h = some (r0, hF)) : zz_MX D dA base t0 l yX9_promise cX9_promise 5 (some .int) rm_X9_promise [.ref a0, .int x1, .int x2] h n (zz_ov (fun v : Int32 => some (Value.int v)) r0) hF n := by
  refine vx_ofW (cc := cX9_promise) (maxL := 5) (ret := (some .int)) (by decide +kernel) rfl ?_
  intro p e s m args below meth c s₁ B hml hE hv
  obtain ⟨rfl, hP, hK⟩ := hv
  have X : zz_X D dA base t0 "Springseat" cX9_promise 5 (some .int) l p s m meth c := ⟨B.exec, B.bytes, hml, B.returns, findClass_of_methodNamed B.named, B.notSynchronized, hT, by rw [hP.1]; exact hP.2.1, hK⟩
  have hx := X.1
  have hb := X.2.1
  have hown := X.2.2.2.2.1
  have hR : zz_R D dA base h n s s.heap [] := ⟨hP, va_S.rf⟩
  have hl := lv_entry ([.ref a0, .int x1, .int x2]) (n := 5) (by exact Nat.le_of_ble_eq_true rfl)
  rw [lg_entry_eq]
  generalize (lg_sl ([.ref a0, .int x1, .int x2]) ++ List.replicate (5 - (lg_sl ([.ref a0, .int x1, .int x2])).length) Slot.unset).toArray = ls at hl ⊢
  have hl : lv_has ls 5 [(0, .ref a0), (1, .int x1), (2, .int x2)] := hl
  unfold f_X9_promise at hf
  refine lv_aload_n hx hb dX9_promise_0 rfl (lv_at hl 0 rfl) ?_
  refine lv_iload_n hx hb dX9_promise_1 rfl (lv_at hl 1 rfl) ?_
  obtain ⟨fs2, ho2, hf⟩ := zz_obS_i hf
  refine zx_cV X hE hR hl.1 (As := [.int x1]) (rest := []) (C := RX9) (T := TX9) (N := 6) (ov := (fun v : Option Nat => some (va_rf v))) (fun r hr => mt_X9_seatOf hT a0 x1 h n hr) rfl ho2 mf_X9_seatOf q_582 q_584 qs_9 ⟨Nat.le_of_ble_eq_true rfl, Nat.le_of_ble_eq_true rfl⟩ ⟨Nat.le_of_ble_eq_true rfl, Nat.le_of_ble_eq_true rfl⟩ rfl (Nat.le_of_ble_eq_true rfl) dX9_promise_2 hf (fun k e => by cases e; exact ⟨rfl, rfl, Nat.le_refl _⟩) (Nat.le_of_ble_eq_true rfl) (Nat.le_of_ble_eq_true rfl) (fun v2 hf H locs hR => ?_)
  refine W.eq (g2 := F0 m 5 ls [va_rf v2]) rfl ?_
  refine W.widen (k := 1) (n := 6) (Nat.le_of_ble_eq_true rfl) (Nat.le_of_ble_eq_true rfl) ?_
  refine zr_astore_n (i := 3) (lv' := [(3, va_rf v2), (0, .ref a0), (1, .int x1), (2, .int x2)]) hx hb dX9_promise_5 rfl hl (by decide) rfl (fun ls hl => ?_)
  refine lv_iload_n hx hb dX9_promise_6 rfl (lv_at hl 3 rfl) ?_
  refine lv_iconst (v := (0 : Int32)) hx hb dX9_promise_7 (by decide) ?_
  refine lv_bipush (v := (100 : Int32)) hx hb dX9_promise_8 (by decide) ?_
  refine zx_cS X hE hR hl.1 (As := [.int x2, .int (0 : Int32), .int (100 : Int32)]) (rest := []) (ov := (fun _ : Unit => (none : Option Value))) (fun r hr => mt_X9_needRange hT x2 (0 : Int32) (100 : Int32) h n hr) mf_X9_needRange q_344 q_345 ⟨Nat.le_of_ble_eq_true rfl, Nat.le_of_ble_eq_true rfl⟩ ⟨Nat.le_of_ble_eq_true rfl, Nat.le_of_ble_eq_true rfl⟩ rfl (Nat.le_of_ble_eq_true rfl) dX9_promise_10 hf (fun k e => by cases e; exact ⟨rfl, rfl, Nat.le_refl _⟩) (Nat.le_of_ble_eq_true rfl) (Nat.le_of_ble_eq_true rfl) (fun v10 hf H locs hR => ?_)
  refine W.eq (g2 := F0 m 13 ls []) rfl ?_
  refine W.widen (k := 2) (n := 12) (Nat.le_of_ble_eq_true rfl) (Nat.le_of_ble_eq_true rfl) ?_
  refine zr_aload_n hx hb dX9_promise_13 rfl (lv_at hl 0 rfl) ?_
  refine zr_giN X hR (r := v2) fn_X9_318 dX9_promise_14 hf (fun v14 hf => ?_)
  refine lv_istore (i := 4) (lv' := [(4, .int v14), (3, va_rf v2), (0, .ref a0), (1, .int x1), (2, .int x2)]) hx hb dX9_promise_17 hl (by decide) (by simp [zz_cat, zz_catI, zz_catR, zz_catJ, zz_catF, zz_catD]) (fun ls hl => ?_)
  refine zr_aload_n hx hb dX9_promise_19 rfl (lv_at hl 1 rfl) ?_
  refine lv_iload_n hx hb dX9_promise_20 rfl (lv_at hl 4 rfl) ?_
  refine zr_pN X hR (r := v2) (v := .int x2) fn_X9_318 rfl dX9_promise_21 rfl rfl hf (fun h21 H locs hf hR => ?_)
  refine lv_iload hx hb dX9_promise_24 (lv_at hl 0 rfl) ?_
  cases hf
  exact zx_ret (zr_iret X hR dX9_promise_26 (Nat.le_of_ble_eq_true rfl) (Nat.le_of_ble_eq_true rfl))
def rm_X9_holds : Room := { frames := 8, cells := 2, slots := 12, locals := 132 }
theorem mf_X9_holds : zz_Mf yX9_holds cX9_holds 4 (some .boolean) 1 := ⟨q_1188, q_1, by decide +kernel, by decide +kernel, by decide +kernel⟩
set_option maxHeartbeats 4000000 in
set_option maxRecDepth 100000 in
theorem bk_X9_holds_47 {D : va_G} {dA : Nat → ClassId} {base t0 : Nat} {l : Launch} {p : Program} {e : Env} {s : State} {m : MethodId} {args : Array Value} {below : List Frame} {meth : Method} {c : Code} (X : zz_X D dA base t0 "Springseat" cX9_holds 4 (some .boolean) l p s m meth c) (hE : ∀ x ∈ c.exceptionTable.toList, False) (hT : l.stackTraces = false) {s0 : Int32} {h : zz_H} {n : Nat} {H : Heap} {locs : List Loc} {ls : Array Slot} (hR : zz_R D dA base h n s H locs) (hl : lv_has ls 4 []) {r0 : (Int32 ⊕ Nat)} (hf : f_X9_holds_47 s0 h = some r0) : W p l e rm_X9_holds s m args below meth c H locs 2 12 (vx_MQ below (zz_Qo D dA base (zz_ov (fun v : Int32 => some (Value.int v)) r0) h n) (zz_Xo D dA base (zz_ov (fun v : Int32 => some (Value.int v)) r0) h n) args s rm_X9_holds.cells rm_X9_holds.slots (fun q => base ≤ q)) (F0 m 47 ls [.int s0]) := by
  have hx := X.1
  have hb := X.2.1
  have hown := X.2.2.2.2.1
  unfold f_X9_holds_47 at hf
  obtain ⟨hz47, hf⟩ := zz_gz_i hf
  cases hf
  exact zx_ret (zr_zret X hR (zz_nz hz47) dX9_holds_47 (Nat.le_of_ble_eq_true rfl) (Nat.le_of_ble_eq_true rfl))
set_option maxHeartbeats 4000000 in
set_option maxRecDepth 100000 in
theorem mt_X9_holds {D : va_G} {dA : Nat → ClassId} {base t0 : Nat} {l : Launch} (hT : l.stackTraces = false) (a0 : Nat) (x1 : Int32) (h : zz_H) (n : Nat) {r0 : (Int32 ⊕ Nat)} (hf : f_X9_holds a0 x1 h = some r0) : zz_MX D dA base t0 l yX9_holds cX9_holds 4 (some .boolean) rm_X9_holds [.ref a0, .int x1] h n (zz_ov (fun v : Int32 => some (Value.int v)) r0) h n := by
  refine vx_ofW (cc := cX9_holds) (maxL := 4) (ret := (some .boolean)) (by decide +kernel) rfl ?_
  intro p e s m args below meth c s₁ B hml hE hv
  obtain ⟨rfl, hP, hK⟩ := hv
  have X : zz_X D dA base t0 "Springseat" cX9_holds 4 (some .boolean) l p s m meth c := ⟨B.exec, B.bytes, hml, B.returns, findClass_of_methodNamed B.named, B.notSynchronized, hT, by rw [hP.1]; exact hP.2.1, hK⟩
  have hx := X.1
  have hb := X.2.1
  have hown := X.2.2.2.2.1
  have hR : zz_R D dA base h n s s.heap [] := ⟨hP, va_S.rf⟩
  have hl := lv_entry ([.ref a0, .int x1]) (n := 4) (by exact Nat.le_of_ble_eq_true rfl)
  rw [lg_entry_eq]
  generalize (lg_sl ([.ref a0, .int x1]) ++ List.replicate (4 - (lg_sl ([.ref a0, .int x1])).length) Slot.unset).toArray = ls at hl ⊢
  have hl : lv_has ls 4 [(0, .ref a0), (1, .int x1)] := hl
  unfold f_X9_holds at hf
  refine lv_aload_n hx hb dX9_holds_0 rfl (lv_at hl 0 rfl) ?_
  refine lv_iload_n hx hb dX9_holds_1 rfl (lv_at hl 1 rfl) ?_
  obtain ⟨fs2, ho2, hf⟩ := zz_obS_i hf
  refine zx_cV X hE hR hl.1 (As := [.int x1]) (rest := []) (C := RX9) (T := TX9) (N := 6) (ov := (fun v : Option Nat => some (va_rf v))) (fun r hr => mt_X9_seatOf hT a0 x1 h n hr) rfl ho2 mf_X9_seatOf q_582 q_584 qs_9 ⟨Nat.le_of_ble_eq_true rfl, Nat.le_of_ble_eq_true rfl⟩ ⟨Nat.le_of_ble_eq_true rfl, Nat.le_of_ble_eq_true rfl⟩ rfl (Nat.le_of_ble_eq_true rfl) dX9_holds_2 hf (fun k e => by cases e; exact ⟨rfl, rfl, Nat.le_refl _⟩) (Nat.le_of_ble_eq_true rfl) (Nat.le_of_ble_eq_true rfl) (fun v2 hf H locs hR => ?_)
  refine W.eq (g2 := F0 m 5 ls [va_rf v2]) rfl ?_
  refine W.widen (k := 1) (n := 6) (Nat.le_of_ble_eq_true rfl) (Nat.le_of_ble_eq_true rfl) ?_
  refine zr_astore_n (i := 2) (lv' := [(2, va_rf v2), (0, .ref a0), (1, .int x1)]) hx hb dX9_holds_5 rfl hl (by decide) rfl (fun ls hl => ?_)
  refine zr_aload_n hx hb dX9_holds_6 rfl (lv_at hl 0 rfl) ?_
  refine zx_cS X hE hR hl.1 (As := [va_rf v2]) (rest := []) (ov := (fun _ : Unit => (none : Option Value))) (fun r hr => mt_X9_needClosed hT v2 h n hr) mf_X9_needClosed q_1094 q_1095 ⟨Nat.le_of_ble_eq_true rfl, Nat.le_of_ble_eq_true rfl⟩ ⟨Nat.le_of_ble_eq_true rfl, Nat.le_of_ble_eq_true rfl⟩ rfl (Nat.le_of_ble_eq_true rfl) dX9_holds_7 hf (fun k e => by cases e; exact ⟨rfl, rfl, Nat.le_refl _⟩) (Nat.le_of_ble_eq_true rfl) (Nat.le_of_ble_eq_true rfl) (fun v7 hf H locs hR => ?_)
  refine W.eq (g2 := F0 m 10 ls []) rfl ?_
  refine W.widen (k := 2) (n := 12) (Nat.le_of_ble_eq_true rfl) (Nat.le_of_ble_eq_true rfl) ?_
  refine zr_aload_n hx hb dX9_holds_10 rfl (lv_at hl 0 rfl) ?_
  refine zr_gqN X hR (r := v2) fn_X9_267 dX9_holds_11 hf (fun v11 hf => ?_)
  refine zr_giN X hR (r := v11) fn_X9_321 dX9_holds_14 hf (fun v14 hf => ?_)
  refine zr_aload_n hx hb dX9_holds_17 rfl (lv_at hl 0 rfl) ?_
  obtain ⟨b18, fs18, hr18, ho18, hf⟩ := zz_ob_i hf
  obtain ⟨v18, hv18, hf⟩ := zz_b_i hf
  refine zr_cV X hR hl.1 (As := []) (rest := [.int v14]) (C := RX7) (T := TX7) (N := 6) (mt_X7_topsInAll hT b18 h n hv18) rfl ho18 mf_X7_topsInAll q_1189 q_796 q_797 ⟨Nat.le_of_ble_eq_true rfl, Nat.le_of_ble_eq_true rfl⟩ ⟨Nat.le_of_ble_eq_true rfl, Nat.le_of_ble_eq_true rfl⟩ (by rw [hr18]; rfl) (Nat.le_of_ble_eq_true rfl) dX9_holds_18 (fun H locs hR => ?_)
  refine W.eq (g2 := F0 m 21 ls [.int v18, .int v14]) rfl ?_
  refine lv_isub hx hb dX9_holds_21 ?_
  refine lv_istore_n (i := 3) (lv' := [(3, .int (v14 - v18)), (2, va_rf v2), (0, .ref a0), (1, .int x1)]) hx hb dX9_holds_22 rfl hl (by decide) (by simp [zz_cat, zz_catI, zz_catR, zz_catJ, zz_catF, zz_catD]) (fun ls hl => ?_)
  refine lv_iload_n hx hb dX9_holds_23 rfl (lv_at hl 0 rfl) ?_
  refine zr_aload_n hx hb dX9_holds_24 rfl (lv_at hl 1 rfl) ?_
  refine zr_gqN X hR (r := v2) fn_X9_267 dX9_holds_25 hf (fun v25 hf => ?_)
  refine zr_giN X hR (r := v25) fn_X9_321 dX9_holds_28 hf (fun v28 hf => ?_)
  refine zr_aload_n hx hb dX9_holds_31 rfl (lv_at hl 1 rfl) ?_
  refine zr_giN X hR (r := v2) fn_X9_318 dX9_holds_32 hf (fun v32 hf => ?_)
  refine lv_imul hx hb dX9_holds_35 ?_
  refine lv_bipush (v := (100 : Int32)) hx hb dX9_holds_36 (by decide) ?_
  obtain ⟨hne38, hf⟩ := zz_dv_i hf
  refine lv_idiv hx hb dX9_holds_38 hne38 ?_
  refine lv_icmp_gt (tgt := 46) hx hb dX9_holds_39 (by decide) (fun c39 => ?_) (fun c39 => ?_)
  · replace hf := zz_pos c39 hf
    refine lv_iconst (v := (0 : Int32)) hx hb dX9_holds_46 (by decide) ?_
    exact bk_X9_holds_47 X hE hT hR (lv_sub hl [] rfl) hf
  · replace hf := zz_neg c39 hf
    refine lv_iconst (v := (1 : Int32)) hx hb dX9_holds_42 (by decide) ?_
    refine lv_goto (tgt := 47) hx hb dX9_holds_43 (by decide) ?_
    exact bk_X9_holds_47 X hE hT hR (lv_sub hl [] rfl) hf
def rm_X9_quote : Room := { frames := 8, cells := 1, slots := 6, locals := 132 }
theorem mf_X9_quote : zz_Mf yX9_quote cX9_quote 2 (some .int) 1 := ⟨q_1196, q_1, by decide +kernel, by decide +kernel, by decide +kernel⟩
set_option maxHeartbeats 4000000 in
set_option maxRecDepth 100000 in
theorem mt_X9_quote {D : va_G} {dA : Nat → ClassId} {base t0 : Nat} {l : Launch} (hT : l.stackTraces = false) (a0 : Nat) (x1 : Int32) (h : zz_H) (n : Nat) {r0 : (Int32 ⊕ Nat)} (hf : f_X9_quote a0 x1 h = some r0) : zz_MX D dA base t0 l yX9_quote cX9_quote 2 (some .int) rm_X9_quote [.ref a0, .int x1] h n (zz_ov (fun v : Int32 => some (Value.int v)) r0) h n := by
  refine vx_ofW (cc := cX9_quote) (maxL := 2) (ret := (some .int)) (by decide +kernel) rfl ?_
  intro p e s m args below meth c s₁ B hml hE hv
  obtain ⟨rfl, hP, hK⟩ := hv
  have X : zz_X D dA base t0 "Springseat" cX9_quote 2 (some .int) l p s m meth c := ⟨B.exec, B.bytes, hml, B.returns, findClass_of_methodNamed B.named, B.notSynchronized, hT, by rw [hP.1]; exact hP.2.1, hK⟩
  have hx := X.1
  have hb := X.2.1
  have hown := X.2.2.2.2.1
  have hR : zz_R D dA base h n s s.heap [] := ⟨hP, va_S.rf⟩
  have hl := lv_entry ([.ref a0, .int x1]) (n := 2) (by exact Nat.le_of_ble_eq_true rfl)
  rw [lg_entry_eq]
  generalize (lg_sl ([.ref a0, .int x1]) ++ List.replicate (2 - (lg_sl ([.ref a0, .int x1])).length) Slot.unset).toArray = ls at hl ⊢
  have hl : lv_has ls 2 [(0, .ref a0), (1, .int x1)] := hl
  unfold f_X9_quote at hf
  refine lv_aload_n hx hb dX9_quote_0 rfl (lv_at hl 0 rfl) ?_
  refine lv_iload_n hx hb dX9_quote_1 rfl (lv_at hl 1 rfl) ?_
  obtain ⟨fs2, ho2, hf⟩ := zz_obS_i hf
  refine zx_cV X hE hR hl.1 (As := [.int x1]) (rest := []) (C := RX9) (T := TX9) (N := 6) (ov := (fun v : Option Nat => some (va_rf v))) (fun r hr => mt_X9_seatOf hT a0 x1 h n hr) rfl ho2 mf_X9_seatOf q_582 q_584 qs_9 ⟨Nat.le_of_ble_eq_true rfl, Nat.le_of_ble_eq_true rfl⟩ ⟨Nat.le_of_ble_eq_true rfl, Nat.le_of_ble_eq_true rfl⟩ rfl (Nat.le_of_ble_eq_true rfl) dX9_quote_2 hf (fun k e => by cases e; exact ⟨rfl, rfl, Nat.le_refl _⟩) (Nat.le_of_ble_eq_true rfl) (Nat.le_of_ble_eq_true rfl) (fun v2 hf H locs hR => ?_)
  refine W.eq (g2 := F0 m 5 ls [va_rf v2]) rfl ?_
  refine W.widen (k := 1) (n := 6) (Nat.le_of_ble_eq_true rfl) (Nat.le_of_ble_eq_true rfl) ?_
  obtain ⟨b5, fs5, hr5, ho5, hf⟩ := zz_ob_i hf
  obtain ⟨v5, hv5, hf⟩ := zz_b_i hf
  refine zr_cV X hR hl.1 (As := []) (rest := []) (C := RX7) (T := TX7) (N := 6) (mt_X7_price hT b5 h n hv5) rfl ho5 mf_X7_price q_1197 q_1198 q_1199 ⟨Nat.le_of_ble_eq_true rfl, Nat.le_of_ble_eq_true rfl⟩ ⟨Nat.le_of_ble_eq_true rfl, Nat.le_of_ble_eq_true rfl⟩ (by rw [hr5]; rfl) (Nat.le_of_ble_eq_true rfl) dX9_quote_5 (fun H locs hR => ?_)
  refine W.eq (g2 := F0 m 8 ls [.int v5]) rfl ?_
  cases hf
  exact zx_ret (zr_iret X hR dX9_quote_8 (Nat.le_of_ble_eq_true rfl) (Nat.le_of_ble_eq_true rfl))
def rm_X9_checksum : Room := { frames := 5, cells := 0, slots := 0, locals := 107 }
theorem mf_X9_checksum : zz_Mf yX9_checksum cX9_checksum 6 (some .long) 0 := ⟨q_175, q_1, by decide +kernel, by decide +kernel, by decide +kernel⟩
set_option maxHeartbeats 4000000 in
set_option maxRecDepth 100000 in
theorem bk_X9_checksum_49 {D : va_G} {dA : Nat → ClassId} {base t0 : Nat} {l : Launch} {p : Program} {e : Env} {s : State} {m : MethodId} {args : Array Value} {below : List Frame} {meth : Method} {c : Code} (X : zz_X D dA base t0 "Springseat" cX9_checksum 6 (some .long) l p s m meth c) (hT : l.stackTraces = false) {a0 : Nat} {x1 : Int64} {x3 : Int32} {x4 : (Option Nat)} {x5 : Int32} {h : zz_H} {n : Nat} {H : Heap} {locs : List Loc} {ls : Array Slot} (hR : zz_R D dA base h n s H locs) (hl : lv_has ls 6 [(0, .ref a0), (1, .long x1), (3, .int x3), (4, va_rf x4), (5, .int x5)]) {r0 : Int64} {o : ((Int64 × Int32) ⊕ ((Int64 × Int32) ⊕ Int64))} (hf : f_X9_checksum_49 a0 x1 x3 x4 x5 h = some o) (k0 : ∀ (w1 : Int64) (w3 : Int32), o = (.inr (.inl (w1, w3))) → ∀ {H : Heap} {locs : List Loc} {ls : Array Slot}, zz_R D dA base h n s H locs → lv_has ls 6 [(0, .ref a0), (1, .long w1), (3, .int w3)] → W p l e rm_X9_checksum s m args below meth c H locs 0 0 (MQ below (zz_Qc D dA base (some (.long r0)) h n) args s rm_X9_checksum.cells rm_X9_checksum.slots (fun q => base ≤ q)) (F0 m 6 ls [])) (k1 : ∀ (w1 : Int64) (w5 : Int32), o = (.inl (w1, w5)) → ∀ {H : Heap} {locs : List Loc} {ls : Array Slot}, zz_R D dA base h n s H locs → lv_has ls 6 [(0, .ref a0), (1, .long w1), (3, .int x3), (4, va_rf x4), (5, .int w5)] → W p l e rm_X9_checksum s m args below meth c H locs 0 0 (MQ below (zz_Qc D dA base (some (.long r0)) h n) args s rm_X9_checksum.cells rm_X9_checksum.slots (fun q => base ≤ q)) (F0 m 49 ls [])) (hret : ∀ r, o = (.inr (.inr r)) → r = r0) : W p l e rm_X9_checksum s m args below meth c H locs 0 0 (MQ below (zz_Qc D dA base (some (.long r0)) h n) args s rm_X9_checksum.cells rm_X9_checksum.slots (fun q => base ≤ q)) (F0 m 49 ls []) := by
  have hx := X.1
  have hb := X.2.1
  have hown := X.2.2.2.2.1
  unfold f_X9_checksum_49 at hf
  refine lv_iload hx hb dX9_checksum_49 (lv_at hl 4 rfl) ?_
  refine zr_aload hx hb dX9_checksum_51 (lv_at hl 3 rfl) ?_
  refine zr_gqN X hR (r := x4) fn_X9_66 dX9_checksum_53 hf (fun v53 hf => ?_)
  obtain ⟨b56, fs56, hr56, ho56, hf⟩ := zz_ob_i hf
  obtain ⟨v56, hv56, hf⟩ := zz_b_i hf
  refine zr_cV X hR hl.1 (As := []) (rest := [.int x5]) (C := RX3) (T := TX3) (N := 7) (mt_X3_cellCount hT b56 h n hv56) rfl ho56 mf_X3_cellCount q_197 q_198 q_199 ⟨Nat.le_of_ble_eq_true rfl, Nat.le_of_ble_eq_true rfl⟩ ⟨Nat.le_of_ble_eq_true rfl, Nat.le_of_ble_eq_true rfl⟩ (by rw [hr56]; rfl) (Nat.le_of_ble_eq_true rfl) dX9_checksum_56 (fun H locs hR => ?_)
  refine W.eq (g2 := F0 m 59 ls [.int v56, .int x5]) rfl ?_
  refine lv_icmp_ge (tgt := 91) hx hb dX9_checksum_59 (by decide) (fun c59 => ?_) (fun c59 => ?_)
  · replace hf := zz_pos c59 hf
    refine lv_iinc (i := 3) (v := (x3 + (1 : Int32))) (lv' := [(3, .int (x3 + (1 : Int32))), (0, .ref a0), (1, .long x1), (4, va_rf x4), (5, .int x5)]) hx hb dX9_checksum_91 hl (k := 2) rfl rfl (by decide) rfl (fun ls hl => ?_)
    refine lv_goto (tgt := 6) hx hb dX9_checksum_94 (by decide) ?_
    cases hf
    exact k0 _ _ rfl hR (lv_sub hl [1, 2, 0] rfl)
  · replace hf := zz_neg c59 hf
    refine lv_ldc2 hx hb hown (zz_w X q_196) dX9_checksum_62 ?_
    refine lv_lload_n hx hb dX9_checksum_65 rfl (lv_at hl 1 rfl) ?_
    refine lv_lmul hx hb dX9_checksum_66 ?_
    refine zr_aload hx hb dX9_checksum_67 (lv_at hl 3 rfl) ?_
    refine zr_aload hx hb dX9_checksum_69 (lv_at hl 3 rfl) ?_
    refine zr_gqN X hR (r := x4) fn_X9_66 dX9_checksum_71 hf (fun v71 hf => ?_)
    refine lv_iload hx hb dX9_checksum_74 (lv_at hl 4 rfl) ?_
    obtain ⟨b76, fs76, hr76, ho76, hf⟩ := zz_ob_i hf
    obtain ⟨v76, hv76, hf⟩ := zz_b_i hf
    refine zr_cV X hR hl.1 (As := [.int x5]) (rest := [va_rf x4, .long ((31 : Int64) * x1)]) (C := RX3) (T := TX3) (N := 7) (mt_X3_cellAt hT b76 x5 h n hv76) rfl ho76 mf_X3_cellAt q_201 q_202 q_203 ⟨Nat.le_of_ble_eq_true rfl, Nat.le_of_ble_eq_true rfl⟩ ⟨Nat.le_of_ble_eq_true rfl, Nat.le_of_ble_eq_true rfl⟩ (by rw [hr76]; rfl) (Nat.le_of_ble_eq_true rfl) dX9_checksum_76 (fun H locs hR => ?_)
    refine W.eq (g2 := F0 m 79 ls [.int v76, va_rf x4, .long ((31 : Int64) * x1)]) rfl ?_
    obtain ⟨b79, fs79, hr79, ho79, hf⟩ := zz_ob_i hf
    obtain ⟨v79, hv79, hf⟩ := zz_b_i hf
    refine zr_cV X hR hl.1 (As := [.int v76]) (rest := [.long ((31 : Int64) * x1)]) (C := RX7) (T := TX7) (N := 6) (mt_X7_topOf hT b79 v76 h n hv79) rfl ho79 mf_X7_topOf q_205 q_206 q_207 ⟨Nat.le_of_ble_eq_true rfl, Nat.le_of_ble_eq_true rfl⟩ ⟨Nat.le_of_ble_eq_true rfl, Nat.le_of_ble_eq_true rfl⟩ (by rw [hr79]; rfl) (Nat.le_of_ble_eq_true rfl) dX9_checksum_79 (fun H locs hR => ?_)
    refine W.eq (g2 := F0 m 82 ls [.int v79, .long ((31 : Int64) * x1)]) rfl ?_
    refine lv_i2l hx hb dX9_checksum_82 rfl ?_
    refine lv_ladd hx hb dX9_checksum_83 ?_
    refine lv_lstore_n (i := 1) (lv' := [(1, .long (((31 : Int64) * x1) + v79.toInt64)), (0, .ref a0), (3, .int x3), (4, va_rf x4), (5, .int x5)]) hx hb dX9_checksum_84 rfl hl (by decide) rfl (fun ls hl => ?_)
    refine lv_iinc (i := 5) (v := (x5 + (1 : Int32))) (lv' := [(5, .int (x5 + (1 : Int32))), (1, .long (((31 : Int64) * x1) + v79.toInt64)), (0, .ref a0), (3, .int x3), (4, va_rf x4)]) hx hb dX9_checksum_85 hl (k := 4) rfl rfl (by decide) (by simp [zz_cat, zz_catI, zz_catR, zz_catJ, zz_catF, zz_catD]) (fun ls hl => ?_)
    refine lv_goto (tgt := 49) hx hb dX9_checksum_88 (by decide) ?_
    cases hf
    exact k1 _ _ rfl hR (lv_sub hl [2, 1, 3, 4, 0] rfl)
set_option maxHeartbeats 4000000 in
set_option maxRecDepth 100000 in
theorem lp_X9_checksum_49 {D : va_G} {dA : Nat → ClassId} {base t0 : Nat} {l : Launch} {p : Program} {e : Env} {s : State} {m : MethodId} {args : Array Value} {below : List Frame} {meth : Method} {c : Code} (X : zz_X D dA base t0 "Springseat" cX9_checksum 6 (some .long) l p s m meth c) (hT : l.stackTraces = false) (a0 : Nat) (x3 : Int32) (x4 : (Option Nat)) {h : zz_H} {n : Nat} {r0 : Int64} : ∀ (k : Nat) (x1 : Int64) (x5 : Int32) {o : ((Int64 × Int32) ⊕ Int64)}, zz_it (fun s : (Int64 × Int32) => f_X9_checksum_49 a0 s.1 x3 x4 s.2 h) k (x1, x5) = some o → (∀ (w1 : Int64) (w3 : Int32), o = (.inl (w1, w3)) → ∀ {H : Heap} {locs : List Loc} {ls : Array Slot}, zz_R D dA base h n s H locs → lv_has ls 6 [(0, .ref a0), (1, .long w1), (3, .int w3)] → W p l e rm_X9_checksum s m args below meth c H locs 0 0 (MQ below (zz_Qc D dA base (some (.long r0)) h n) args s rm_X9_checksum.cells rm_X9_checksum.slots (fun q => base ≤ q)) (F0 m 6 ls [])) → (∀ r, o = (.inr r) → r = r0) → ∀ {H : Heap} {locs : List Loc} {ls : Array Slot}, zz_R D dA base h n s H locs → lv_has ls 6 [(0, .ref a0), (1, .long x1), (3, .int x3), (4, va_rf x4), (5, .int x5)] → W p l e rm_X9_checksum s m args below meth c H locs 0 0 (MQ below (zz_Qc D dA base (some (.long r0)) h n) args s rm_X9_checksum.cells rm_X9_checksum.slots (fun q => base ≤ q)) (F0 m 49 ls []) := by
  intro k
  induction k with
  | zero => intro x1 x5 o hf _ _; cases hf
  | succ k ih =>
    intro x1 x5 o hf k0 hret H locs ls hR hl
    rcases zz_it_s hf with ⟨⟨y0, y1⟩, h1, h2⟩ | h1
    · exact bk_X9_checksum_49 (r0 := r0) X hT hR hl h1 (fun z0 z1 e => by cases e) (fun z0 z1 e => by cases e; exact ih _ _ h2 k0 hret) (fun r e => by cases e)
    · exact bk_X9_checksum_49 (r0 := r0) X hT hR hl h1 (fun z0 z1 e => k0 z0 z1 (Sum.inr.inj e)) (fun z0 z1 e => by cases e) (fun r e => hret r (Sum.inr.inj e))
set_option maxHeartbeats 4000000 in
set_option maxRecDepth 100000 in
theorem bk_X9_checksum_6 {D : va_G} {dA : Nat → ClassId} {base t0 : Nat} {l : Launch} {p : Program} {e : Env} {s : State} {m : MethodId} {args : Array Value} {below : List Frame} {meth : Method} {c : Code} (X : zz_X D dA base t0 "Springseat" cX9_checksum 6 (some .long) l p s m meth c) (hT : l.stackTraces = false) {a0 : Nat} {x1 : Int64} {x3 : Int32} {h : zz_H} {n : Nat} {H : Heap} {locs : List Loc} {ls : Array Slot} (hR : zz_R D dA base h n s H locs) (hl : lv_has ls 6 [(0, .ref a0), (1, .long x1), (3, .int x3)]) {r0 : Int64} {o : ((Int64 × Int32) ⊕ Int64)} (hf : f_X9_checksum_6 a0 x1 x3 h = some o) (k0 : ∀ (w1 : Int64) (w3 : Int32), o = (.inl (w1, w3)) → ∀ {H : Heap} {locs : List Loc} {ls : Array Slot}, zz_R D dA base h n s H locs → lv_has ls 6 [(0, .ref a0), (1, .long w1), (3, .int w3)] → W p l e rm_X9_checksum s m args below meth c H locs 0 0 (MQ below (zz_Qc D dA base (some (.long r0)) h n) args s rm_X9_checksum.cells rm_X9_checksum.slots (fun q => base ≤ q)) (F0 m 6 ls [])) (hret : ∀ r, o = (.inr r) → r = r0) : W p l e rm_X9_checksum s m args below meth c H locs 0 0 (MQ below (zz_Qc D dA base (some (.long r0)) h n) args s rm_X9_checksum.cells rm_X9_checksum.slots (fun q => base ≤ q)) (F0 m 6 ls []) := by
  have hx := X.1
  have hb := X.2.1
  have hown := X.2.2.2.2.1
  unfold f_X9_checksum_6 at hf
  refine lv_iload_n hx hb dX9_checksum_6 rfl (lv_at hl 2 rfl) ?_
  refine lv_aload_n hx hb dX9_checksum_7 rfl (lv_at hl 0 rfl) ?_
  refine zr_gq X hR (r := (some a0)) fl_X9_10 dX9_checksum_8 hf (fun v8 hf => ?_)
  obtain ⟨b11, fs11, hr11, ho11, hf⟩ := zz_ob_i hf
  obtain ⟨v11, hv11, hf⟩ := zz_b_i hf
  refine zr_cV X hR hl.1 (As := []) (rest := [.int x3]) (C := RJx4a65c) (T := TJx4a65c) (N := 3) (mt_Jx4a65c_size_8abf5 hT b11 h n hv11) rfl ho11 mf_Jx4a65c_size_8abf5 q_177 q_178 q_179 ⟨Nat.le_of_ble_eq_true rfl, Nat.le_of_ble_eq_true rfl⟩ ⟨Nat.le_of_ble_eq_true rfl, Nat.le_of_ble_eq_true rfl⟩ (by rw [hr11]; rfl) (Nat.le_of_ble_eq_true rfl) dX9_checksum_11 (fun H locs hR => ?_)
  refine W.eq (g2 := F0 m 14 ls [.int v11, .int x3]) rfl ?_
  refine lv_icmp_ge (tgt := 97) hx hb dX9_checksum_14 (by decide) (fun c14 => ?_) (fun c14 => ?_)
  · replace hf := zz_pos c14 hf
    refine lv_lload_n hx hb dX9_checksum_97 rfl (lv_at hl 1 rfl) ?_
    cases hf
    cases hret _ rfl
    exact zr_lret X hR dX9_checksum_98 (Nat.le_of_ble_eq_true rfl) (Nat.le_of_ble_eq_true rfl)
  · replace hf := zz_neg c14 hf
    refine lv_aload_n hx hb dX9_checksum_17 rfl (lv_at hl 0 rfl) ?_
    refine zr_gq X hR (r := (some a0)) fl_X9_10 dX9_checksum_18 hf (fun v18 hf => ?_)
    refine lv_iload_n hx hb dX9_checksum_21 rfl (lv_at hl 2 rfl) ?_
    obtain ⟨b22, fs22, hr22, ho22, hf⟩ := zz_ob_i hf
    obtain ⟨v22, hv22, hf⟩ := zz_b_i hf
    refine zr_cV X hR hl.1 (As := [.int x3]) (rest := []) (C := RJx4a65c) (T := TJx4a65c) (N := 3) (mt_Jx4a65c_get_915e3 hT b22 x3 h n hv22) rfl ho22 mf_Jx4a65c_get_915e3 q_181 q_182 q_183 ⟨Nat.le_of_ble_eq_true rfl, Nat.le_of_ble_eq_true rfl⟩ ⟨Nat.le_of_ble_eq_true rfl, Nat.le_of_ble_eq_true rfl⟩ (by rw [hr22]; rfl) (Nat.le_of_ble_eq_true rfl) dX9_checksum_22 (fun H locs hR => ?_)
    refine W.eq (g2 := F0 m 25 ls [va_rf v22]) rfl ?_
    refine zr_cc X hR (ci := 8) (C := RX7) (T := TX7) (N := 6) (r := v22) rfl q_195 (Or.inr trivial) dX9_checksum_25 hf (fun hf => ?_)
    refine zr_astore (i := 4) (lv' := [(4, va_rf v22), (0, .ref a0), (1, .long x1), (3, .int x3)]) hx hb dX9_checksum_28 hl (by decide) rfl (fun ls hl => ?_)
    refine lv_ldc2 hx hb hown (zz_w X q_196) dX9_checksum_30 ?_
    refine lv_lload_n hx hb dX9_checksum_33 rfl (lv_at hl 2 rfl) ?_
    refine lv_lmul hx hb dX9_checksum_34 ?_
    refine zr_aload hx hb dX9_checksum_35 (lv_at hl 0 rfl) ?_
    refine zr_gqN X hR (r := v22) fn_X9_76 dX9_checksum_37 hf (fun v37 hf => ?_)
    refine zr_giN X hR (r := v37) fn_X9_188 dX9_checksum_40 hf (fun v40 hf => ?_)
    refine lv_i2l hx hb dX9_checksum_43 rfl ?_
    refine lv_ladd hx hb dX9_checksum_44 ?_
    refine lv_lstore_n (i := 1) (lv' := [(1, .long (((31 : Int64) * x1) + v40.toInt64)), (4, va_rf v22), (0, .ref a0), (3, .int x3)]) hx hb dX9_checksum_45 rfl hl (by decide) rfl (fun ls hl => ?_)
    refine lv_iconst (v := (0 : Int32)) hx hb dX9_checksum_46 (by decide) ?_
    refine lv_istore (i := 5) (lv' := [(5, .int (0 : Int32)), (1, .long (((31 : Int64) * x1) + v40.toInt64)), (4, va_rf v22), (0, .ref a0), (3, .int x3)]) hx hb dX9_checksum_47 hl (by decide) (by simp [zz_cat, zz_catI, zz_catR, zz_catJ, zz_catF, zz_catD]) (fun ls hl => ?_)
    exact lp_X9_checksum_49 X hT a0 x3 v22 zz_F _ _ hf k0 hret hR (lv_sub hl [3, 1, 4, 2, 0] rfl)
set_option maxHeartbeats 4000000 in
set_option maxRecDepth 100000 in
theorem lp_X9_checksum_6 {D : va_G} {dA : Nat → ClassId} {base t0 : Nat} {l : Launch} {p : Program} {e : Env} {s : State} {m : MethodId} {args : Array Value} {below : List Frame} {meth : Method} {c : Code} (X : zz_X D dA base t0 "Springseat" cX9_checksum 6 (some .long) l p s m meth c) (hT : l.stackTraces = false) (a0 : Nat) {h : zz_H} {n : Nat} {r0 : Int64} : ∀ (k : Nat) (x1 : Int64) (x3 : Int32), zz_it (fun s : (Int64 × Int32) => f_X9_checksum_6 a0 s.1 s.2 h) k (x1, x3) = some r0 → ∀ {H : Heap} {locs : List Loc} {ls : Array Slot}, zz_R D dA base h n s H locs → lv_has ls 6 [(0, .ref a0), (1, .long x1), (3, .int x3)] → W p l e rm_X9_checksum s m args below meth c H locs 0 0 (MQ below (zz_Qc D dA base (some (.long r0)) h n) args s rm_X9_checksum.cells rm_X9_checksum.slots (fun q => base ≤ q)) (F0 m 6 ls []) := by
  intro k
  induction k with
  | zero => intro x1 x3 hf; cases hf
  | succ k ih =>
    intro x1 x3 hf H locs ls hR hl
    rcases zz_it_s hf with ⟨⟨y0, y1⟩, h1, h2⟩ | h1
    · exact bk_X9_checksum_6 (r0 := r0) X hT hR hl h1  (fun z0 z1 e => by cases e; exact ih _ _ h2) (fun r e => by cases e)
    · exact bk_X9_checksum_6 (r0 := r0) X hT hR hl h1  (fun z0 z1 e => by cases e) (fun r e => (Sum.inr.inj e).symm)
set_option maxHeartbeats 4000000 in
set_option maxRecDepth 100000 in
theorem mt_X9_checksum {D : va_G} {dA : Nat → ClassId} {base t0 : Nat} {l : Launch} (hT : l.stackTraces = false) (a0 : Nat) (h : zz_H) (n : Nat) {r0 : Int64} (hf : f_X9_checksum a0 h = some r0) : zz_M D dA base t0 l yX9_checksum cX9_checksum 6 (some .long) rm_X9_checksum [.ref a0] h n (some (.long r0)) h n := by
  refine Met.ofW (cc := cX9_checksum) (maxL := 6) (ret := (some .long)) (by decide +kernel) rfl ?_
  intro p e s m args below meth c s₁ B hml hv
  obtain ⟨rfl, hP, hK⟩ := hv
  have X : zz_X D dA base t0 "Springseat" cX9_checksum 6 (some .long) l p s m meth c := ⟨B.exec, B.bytes, hml, B.returns, findClass_of_methodNamed B.named, B.notSynchronized, hT, by rw [hP.1]; exact hP.2.1, hK⟩
  have hx := X.1
  have hb := X.2.1
  have hown := X.2.2.2.2.1
  have hR : zz_R D dA base h n s s.heap [] := ⟨hP, va_S.rf⟩
  have hl := lv_entry ([.ref a0]) (n := 6) (by exact Nat.le_of_ble_eq_true rfl)
  rw [lg_entry_eq]
  generalize (lg_sl ([.ref a0]) ++ List.replicate (6 - (lg_sl ([.ref a0])).length) Slot.unset).toArray = ls at hl ⊢
  have hl : lv_has ls 6 [(0, .ref a0)] := hl
  unfold f_X9_checksum at hf
  refine lv_ldc2 hx hb hown (zz_w X q_176) dX9_checksum_0 ?_
  refine lv_lstore_n (i := 1) (lv' := [(1, .long (7 : Int64)), (0, .ref a0)]) hx hb dX9_checksum_3 rfl hl (by decide) rfl (fun ls hl => ?_)
  refine lv_iconst (v := (0 : Int32)) hx hb dX9_checksum_4 (by decide) ?_
  refine lv_istore_n (i := 3) (lv' := [(3, .int (0 : Int32)), (1, .long (7 : Int64)), (0, .ref a0)]) hx hb dX9_checksum_5 rfl hl (by decide) rfl (fun ls hl => ?_)
  exact lp_X9_checksum_6 X hT a0 zz_F _ _ hf hR (lv_sub hl [2, 1, 0] rfl)
def rm_X9_closedShare : Room := { frames := 6, cells := 1, slots := 6, locals := 90 }
theorem mf_X9_closedShare : zz_Mf yX9_closedShare cX9_closedShare 3 (some .float) 0 := ⟨q_1228, q_1, by decide +kernel, by decide +kernel, by decide +kernel⟩
set_option maxHeartbeats 4000000 in
set_option maxRecDepth 100000 in
theorem bk_X9_closedShare_56 {D : va_G} {dA : Nat → ClassId} {base t0 : Nat} {l : Launch} {p : Program} {e : Env} {s : State} {m : MethodId} {args : Array Value} {below : List Frame} {meth : Method} {c : Code} (X : zz_X D dA base t0 "Springseat" cX9_closedShare 3 (some .float) l p s m meth c) (hE : ∀ x ∈ c.exceptionTable.toList, False) (hT : l.stackTraces = false) {a0 : Nat} {x1 : Int32} {x2 : Int32} {h : zz_H} {n : Nat} {H : Heap} {locs : List Loc} {ls : Array Slot} (hR : zz_R D dA base h n s H locs) (hl : lv_has ls 3 [(0, .ref a0), (1, .int x1), (2, .int x2)]) {r0 : (UInt32 ⊕ Nat)} {o : ((Int32 × Int32) ⊕ (UInt32 ⊕ Nat))} (hf : f_X9_closedShare_56 a0 x1 x2 h = some o) (k0 : ∀ (w1 : Int32) (w2 : Int32), o = (.inl (w1, w2)) → ∀ {H : Heap} {locs : List Loc} {ls : Array Slot}, zz_R D dA base h n s H locs → lv_has ls 3 [(0, .ref a0), (1, .int w1), (2, .int w2)] → W p l e rm_X9_closedShare s m args below meth c H locs 0 0 (vx_MQ below (zz_Qo D dA base (zz_ov (fun v : UInt32 => some (Value.float v)) r0) h n) (zz_Xo D dA base (zz_ov (fun v : UInt32 => some (Value.float v)) r0) h n) args s rm_X9_closedShare.cells rm_X9_closedShare.slots (fun q => base ≤ q)) (F0 m 25 ls [])) (hret : ∀ r, o = (.inr r) → r = r0) : W p l e rm_X9_closedShare s m args below meth c H locs 0 0 (vx_MQ below (zz_Qo D dA base (zz_ov (fun v : UInt32 => some (Value.float v)) r0) h n) (zz_Xo D dA base (zz_ov (fun v : UInt32 => some (Value.float v)) r0) h n) args s rm_X9_closedShare.cells rm_X9_closedShare.slots (fun q => base ≤ q)) (F0 m 56 ls []) := by
  have hx := X.1
  have hb := X.2.1
  have hown := X.2.2.2.2.1
  unfold f_X9_closedShare_56 at hf
  refine lv_iinc (i := 2) (v := (x2 + (1 : Int32))) (lv' := [(2, .int (x2 + (1 : Int32))), (0, .ref a0), (1, .int x1)]) hx hb dX9_closedShare_56 hl (k := 2) rfl rfl (by decide) rfl (fun ls hl => ?_)
  refine lv_goto (tgt := 25) hx hb dX9_closedShare_59 (by decide) ?_
  cases hf
  exact k0 _ _ rfl hR (lv_sub hl [1, 2, 0] rfl)
set_option maxHeartbeats 4000000 in
set_option maxRecDepth 100000 in
theorem bk_X9_closedShare_25 {D : va_G} {dA : Nat → ClassId} {base t0 : Nat} {l : Launch} {p : Program} {e : Env} {s : State} {m : MethodId} {args : Array Value} {below : List Frame} {meth : Method} {c : Code} (X : zz_X D dA base t0 "Springseat" cX9_closedShare 3 (some .float) l p s m meth c) (hE : ∀ x ∈ c.exceptionTable.toList, False) (hT : l.stackTraces = false) {a0 : Nat} {x1 : Int32} {x2 : Int32} {h : zz_H} {n : Nat} {H : Heap} {locs : List Loc} {ls : Array Slot} (hR : zz_R D dA base h n s H locs) (hl : lv_has ls 3 [(0, .ref a0), (1, .int x1), (2, .int x2)]) {r0 : (UInt32 ⊕ Nat)} {o : ((Int32 × Int32) ⊕ (UInt32 ⊕ Nat))} (hf : f_X9_closedShare_25 a0 x1 x2 h = some o) (k0 : ∀ (w1 : Int32) (w2 : Int32), o = (.inl (w1, w2)) → ∀ {H : Heap} {locs : List Loc} {ls : Array Slot}, zz_R D dA base h n s H locs → lv_has ls 3 [(0, .ref a0), (1, .int w1), (2, .int w2)] → W p l e rm_X9_closedShare s m args below meth c H locs 0 0 (vx_MQ below (zz_Qo D dA base (zz_ov (fun v : UInt32 => some (Value.float v)) r0) h n) (zz_Xo D dA base (zz_ov (fun v : UInt32 => some (Value.float v)) r0) h n) args s rm_X9_closedShare.cells rm_X9_closedShare.slots (fun q => base ≤ q)) (F0 m 25 ls [])) (hret : ∀ r, o = (.inr r) → r = r0) : W p l e rm_X9_closedShare s m args below meth c H locs 0 0 (vx_MQ below (zz_Qo D dA base (zz_ov (fun v : UInt32 => some (Value.float v)) r0) h n) (zz_Xo D dA base (zz_ov (fun v : UInt32 => some (Value.float v)) r0) h n) args s rm_X9_closedShare.cells rm_X9_closedShare.slots (fun q => base ≤ q)) (F0 m 25 ls []) := by
  have hx := X.1
  have hb := X.2.1
  have hown := X.2.2.2.2.1
  unfold f_X9_closedShare_25 at hf
  refine lv_iload_n hx hb dX9_closedShare_25 rfl (lv_at hl 2 rfl) ?_
  refine lv_aload_n hx hb dX9_closedShare_26 rfl (lv_at hl 0 rfl) ?_
  refine zr_gq X hR (r := (some a0)) fl_X9_10 dX9_closedShare_27 hf (fun v27 hf => ?_)
  obtain ⟨b30, fs30, hr30, ho30, hf⟩ := zz_ob_i hf
  obtain ⟨v30, hv30, hf⟩ := zz_b_i hf
  refine zr_cV X hR hl.1 (As := []) (rest := [.int x2]) (C := RJx4a65c) (T := TJx4a65c) (N := 3) (mt_Jx4a65c_size_8abf5 hT b30 h n hv30) rfl ho30 mf_Jx4a65c_size_8abf5 q_177 q_178 q_179 ⟨Nat.le_of_ble_eq_true rfl, Nat.le_of_ble_eq_true rfl⟩ ⟨Nat.le_of_ble_eq_true rfl, Nat.le_of_ble_eq_true rfl⟩ (by rw [hr30]; rfl) (Nat.le_of_ble_eq_true rfl) dX9_closedShare_30 (fun H locs hR => ?_)
  refine W.eq (g2 := F0 m 33 ls [.int v30, .int x2]) rfl ?_
  refine lv_icmp_ge (tgt := 62) hx hb dX9_closedShare_33 (by decide) (fun c33 => ?_) (fun c33 => ?_)
  · replace hf := zz_pos c33 hf
    refine lv_iload_n hx hb dX9_closedShare_62 rfl (lv_at hl 1 rfl) ?_
    refine lv_i2f hx hb dX9_closedShare_63 ?_
    refine lv_aload_n hx hb dX9_closedShare_64 rfl (lv_at hl 0 rfl) ?_
    refine zr_gq X hR (r := (some a0)) fl_X9_10 dX9_closedShare_65 hf (fun v65 hf => ?_)
    obtain ⟨b68, fs68, hr68, ho68, hf⟩ := zz_ob_i hf
    obtain ⟨v68, hv68, hf⟩ := zz_b_i hf
    refine zr_cV X hR hl.1 (As := []) (rest := [.float (FP.i2f x1)]) (C := RJx4a65c) (T := TJx4a65c) (N := 3) (mt_Jx4a65c_size_8abf5 hT b68 h n hv68) rfl ho68 mf_Jx4a65c_size_8abf5 q_177 q_178 q_179 ⟨Nat.le_of_ble_eq_true rfl, Nat.le_of_ble_eq_true rfl⟩ ⟨Nat.le_of_ble_eq_true rfl, Nat.le_of_ble_eq_true rfl⟩ (by rw [hr68]; rfl) (Nat.le_of_ble_eq_true rfl) dX9_closedShare_68 (fun H locs hR => ?_)
    refine W.eq (g2 := F0 m 71 ls [.int v68, .float (FP.i2f x1)]) rfl ?_
    refine lv_i2f hx hb dX9_closedShare_71 ?_
    obtain ⟨hne72, hf⟩ := zz_nf_i hf
    refine lv_fdiv hx hb dX9_closedShare_72 hne72 ?_
    cases hf
    cases hret _ rfl
    exact zx_ret (zr_fret X hR dX9_closedShare_73 (Nat.le_of_ble_eq_true rfl) (Nat.le_of_ble_eq_true rfl))
  · replace hf := zz_neg c33 hf
    refine lv_aload_n hx hb dX9_closedShare_36 rfl (lv_at hl 0 rfl) ?_
    refine zr_gq X hR (r := (some a0)) fl_X9_10 dX9_closedShare_37 hf (fun v37 hf => ?_)
    refine lv_iload_n hx hb dX9_closedShare_40 rfl (lv_at hl 2 rfl) ?_
    obtain ⟨b41, fs41, hr41, ho41, hf⟩ := zz_ob_i hf
    obtain ⟨v41, hv41, hf⟩ := zz_b_i hf
    refine zr_cV X hR hl.1 (As := [.int x2]) (rest := []) (C := RJx4a65c) (T := TJx4a65c) (N := 3) (mt_Jx4a65c_get_915e3 hT b41 x2 h n hv41) rfl ho41 mf_Jx4a65c_get_915e3 q_181 q_182 q_183 ⟨Nat.le_of_ble_eq_true rfl, Nat.le_of_ble_eq_true rfl⟩ ⟨Nat.le_of_ble_eq_true rfl, Nat.le_of_ble_eq_true rfl⟩ (by rw [hr41]; rfl) (Nat.le_of_ble_eq_true rfl) dX9_closedShare_41 (fun H locs hR => ?_)
    refine W.eq (g2 := F0 m 44 ls [va_rf v41]) rfl ?_
    refine zr_cc X hR (ci := 8) (C := RX7) (T := TX7) (N := 6) (r := v41) rfl q_195 (Or.inr trivial) dX9_closedShare_44 hf (fun hf => ?_)
    obtain ⟨b47, fs47, hr47, ho47, hf⟩ := zz_ob_i hf
    obtain ⟨v47, hv47, hf⟩ := zz_b_i hf
    refine zr_cV X hR hl.1 (As := []) (rest := []) (C := RX7) (T := TX7) (N := 6) (mt_X7_hasCover hT b47 h n hv47) rfl ho47 mf_X7_hasCover q_910 q_911 q_912 ⟨Nat.le_of_ble_eq_true rfl, Nat.le_of_ble_eq_true rfl⟩ ⟨Nat.le_of_ble_eq_true rfl, Nat.le_of_ble_eq_true rfl⟩ (by rw [hr47]; rfl) (Nat.le_of_ble_eq_true rfl) dX9_closedShare_47 (fun H locs hR => ?_)
    refine W.eq (g2 := F0 m 50 ls [.int v47]) rfl ?_
    refine lv_if_eq (tgt := 56) hx hb dX9_closedShare_50 (by decide) (fun c50 => ?_) (fun c50 => ?_)
    · replace hf := zz_pos c50 hf
      exact bk_X9_closedShare_56 X hE hT hR (lv_sub hl [0, 1, 2] rfl) hf k0 hret
    · replace hf := zz_neg c50 hf
      refine lv_iinc (i := 1) (v := (x1 + (1 : Int32))) (lv' := [(1, .int (x1 + (1 : Int32))), (0, .ref a0), (2, .int x2)]) hx hb dX9_closedShare_53 hl (k := 1) rfl rfl (by decide) rfl (fun ls hl => ?_)
      exact bk_X9_closedShare_56 X hE hT hR (lv_sub hl [1, 0, 2] rfl) hf k0 hret
set_option maxHeartbeats 4000000 in
set_option maxRecDepth 100000 in
theorem lp_X9_closedShare_25 {D : va_G} {dA : Nat → ClassId} {base t0 : Nat} {l : Launch} {p : Program} {e : Env} {s : State} {m : MethodId} {args : Array Value} {below : List Frame} {meth : Method} {c : Code} (X : zz_X D dA base t0 "Springseat" cX9_closedShare 3 (some .float) l p s m meth c) (hE : ∀ x ∈ c.exceptionTable.toList, False) (hT : l.stackTraces = false) (a0 : Nat) {h : zz_H} {n : Nat} {r0 : (UInt32 ⊕ Nat)} : ∀ (k : Nat) (x1 : Int32) (x2 : Int32), zz_it (fun s : (Int32 × Int32) => f_X9_closedShare_25 a0 s.1 s.2 h) k (x1, x2) = some r0 → ∀ {H : Heap} {locs : List Loc} {ls : Array Slot}, zz_R D dA base h n s H locs → lv_has ls 3 [(0, .ref a0), (1, .int x1), (2, .int x2)] → W p l e rm_X9_closedShare s m args below meth c H locs 0 0 (vx_MQ below (zz_Qo D dA base (zz_ov (fun v : UInt32 => some (Value.float v)) r0) h n) (zz_Xo D dA base (zz_ov (fun v : UInt32 => some (Value.float v)) r0) h n) args s rm_X9_closedShare.cells rm_X9_closedShare.slots (fun q => base ≤ q)) (F0 m 25 ls []) := by
  intro k
  induction k with
  | zero => intro x1 x2 hf; cases hf
  | succ k ih =>
    intro x1 x2 hf H locs ls hR hl
    rcases zz_it_s hf with ⟨⟨y0, y1⟩, h1, h2⟩ | h1
    · exact bk_X9_closedShare_25 (r0 := r0) X hE hT hR hl h1  (fun z0 z1 e => by cases e; exact ih _ _ h2) (fun r e => by cases e)
    · exact bk_X9_closedShare_25 (r0 := r0) X hE hT hR hl h1  (fun z0 z1 e => by cases e) (fun r e => (Sum.inr.inj e).symm)
set_option maxHeartbeats 4000000 in
set_option maxRecDepth 100000 in
theorem mt_X9_closedShare {D : va_G} {dA : Nat → ClassId} {base t0 : Nat} {l : Launch} (hT : l.stackTraces = false) (a0 : Nat) (h : zz_H) (n : Nat) {r0 : (UInt32 ⊕ Nat)} (hf : f_X9_closedShare a0 h = some r0) : zz_MX D dA base t0 l yX9_closedShare cX9_closedShare 3 (some .float) rm_X9_closedShare [.ref a0] h n (zz_ov (fun v : UInt32 => some (Value.float v)) r0) h n := by
  refine vx_ofW (cc := cX9_closedShare) (maxL := 3) (ret := (some .float)) (by decide +kernel) rfl ?_
  intro p e s m args below meth c s₁ B hml hE hv
  obtain ⟨rfl, hP, hK⟩ := hv
  have X : zz_X D dA base t0 "Springseat" cX9_closedShare 3 (some .float) l p s m meth c := ⟨B.exec, B.bytes, hml, B.returns, findClass_of_methodNamed B.named, B.notSynchronized, hT, by rw [hP.1]; exact hP.2.1, hK⟩
  have hx := X.1
  have hb := X.2.1
  have hown := X.2.2.2.2.1
  have hR : zz_R D dA base h n s s.heap [] := ⟨hP, va_S.rf⟩
  have hl := lv_entry ([.ref a0]) (n := 3) (by exact Nat.le_of_ble_eq_true rfl)
  rw [lg_entry_eq]
  generalize (lg_sl ([.ref a0]) ++ List.replicate (3 - (lg_sl ([.ref a0])).length) Slot.unset).toArray = ls at hl ⊢
  have hl : lv_has ls 3 [(0, .ref a0)] := hl
  unfold f_X9_closedShare at hf
  refine lv_aload_n hx hb dX9_closedShare_0 rfl (lv_at hl 0 rfl) ?_
  refine zr_gq X hR (r := (some a0)) fl_X9_10 dX9_closedShare_1 hf (fun v1 hf => ?_)
  obtain ⟨b4, fs4, hr4, ho4, hf⟩ := zz_ob_i hf
  obtain ⟨v4, hv4, hf⟩ := zz_b_i hf
  refine zr_cV X hR hl.1 (As := []) (rest := []) (C := RJx4a65c) (T := TJx4a65c) (N := 3) (mt_Jx4a65c_isEmpty_aae02 hT b4 h n hv4) rfl ho4 mf_Jx4a65c_isEmpty_aae02 q_1229 q_859 q_860 ⟨Nat.le_of_ble_eq_true rfl, Nat.le_of_ble_eq_true rfl⟩ ⟨Nat.le_of_ble_eq_true rfl, Nat.le_of_ble_eq_true rfl⟩ (by rw [hr4]; rfl) (Nat.le_of_ble_eq_true rfl) dX9_closedShare_4 (fun H locs hR => ?_)
  refine W.eq (g2 := F0 m 7 ls [.int v4]) rfl ?_
  refine lv_if_eq (tgt := 21) hx hb dX9_closedShare_7 (by decide) (fun c7 => ?_) (fun c7 => ?_)
  · replace hf := zz_pos c7 hf
    refine lv_iconst (v := (0 : Int32)) hx hb dX9_closedShare_21 (by decide) ?_
    refine lv_istore_n (i := 1) (lv' := [(1, .int (0 : Int32)), (0, .ref a0)]) hx hb dX9_closedShare_22 rfl hl (by decide) rfl (fun ls hl => ?_)
    refine lv_iconst (v := (0 : Int32)) hx hb dX9_closedShare_23 (by decide) ?_
    refine lv_istore_n (i := 2) (lv' := [(2, .int (0 : Int32)), (1, .int (0 : Int32)), (0, .ref a0)]) hx hb dX9_closedShare_24 rfl hl (by decide) rfl (fun ls hl => ?_)
    exact lp_X9_closedShare_25 X hE hT a0 zz_F _ _ hf hR (lv_sub hl [2, 1, 0] rfl)
  · replace hf := zz_neg c7 hf
    cases hf
    exact zx_throwWX X hE hR hl.1 nse_0 nse_1 nse_2 nse_5 (k := 4) (names := ["java/lang/RuntimeException", "java/lang/Exception"]) tw_10_170.1 tw_10_170.2.1 rfl q_800 q_27 (List.mem_of_getElem? (i := 14) rfl) tw_10_170.2.2.1 tw_10_170.2.2.2 dX9_closedShare_10 dX9_closedShare_13 dX9_closedShare_14 dX9_closedShare_17 dX9_closedShare_20 (Nat.le_of_ble_eq_true rfl) ⟨Nat.le_of_ble_eq_true rfl, Nat.le_of_ble_eq_true rfl⟩ ⟨Nat.le_of_ble_eq_true rfl, Nat.le_of_ble_eq_true rfl⟩ (Nat.le_of_ble_eq_true rfl) (Nat.le_of_ble_eq_true rfl) (Nat.le_refl _)
def rm_X9_meanTop : Room := { frames := 8, cells := 1, slots := 6, locals := 132 }
theorem mf_X9_meanTop : zz_Mf yX9_meanTop cX9_meanTop 3 (some .double) 1 := ⟨q_1237, q_1, by decide +kernel, by decide +kernel, by decide +kernel⟩
set_option maxHeartbeats 4000000 in
set_option maxRecDepth 100000 in
theorem mt_X9_meanTop {D : va_G} {dA : Nat → ClassId} {base t0 : Nat} {l : Launch} (hT : l.stackTraces = false) (a0 : Nat) (x1 : Int32) (h : zz_H) (n : Nat) {r0 : (UInt64 ⊕ Nat)} (hf : f_X9_meanTop a0 x1 h = some r0) : zz_MX D dA base t0 l yX9_meanTop cX9_meanTop 3 (some .double) rm_X9_meanTop [.ref a0, .int x1] h n (zz_ov (fun v : UInt64 => some (Value.double v)) r0) h n := by
  refine vx_ofW (cc := cX9_meanTop) (maxL := 3) (ret := (some .double)) (by decide +kernel) rfl ?_
  intro p e s m args below meth c s₁ B hml hE hv
  obtain ⟨rfl, hP, hK⟩ := hv
  have X : zz_X D dA base t0 "Springseat" cX9_meanTop 3 (some .double) l p s m meth c := ⟨B.exec, B.bytes, hml, B.returns, findClass_of_methodNamed B.named, B.notSynchronized, hT, by rw [hP.1]; exact hP.2.1, hK⟩
  have hx := X.1
  have hb := X.2.1
  have hown := X.2.2.2.2.1
  have hR : zz_R D dA base h n s s.heap [] := ⟨hP, va_S.rf⟩
  have hl := lv_entry ([.ref a0, .int x1]) (n := 3) (by exact Nat.le_of_ble_eq_true rfl)
  rw [lg_entry_eq]
  generalize (lg_sl ([.ref a0, .int x1]) ++ List.replicate (3 - (lg_sl ([.ref a0, .int x1])).length) Slot.unset).toArray = ls at hl ⊢
  have hl : lv_has ls 3 [(0, .ref a0), (1, .int x1)] := hl
  unfold f_X9_meanTop at hf
  refine lv_aload_n hx hb dX9_meanTop_0 rfl (lv_at hl 0 rfl) ?_
  refine lv_iload_n hx hb dX9_meanTop_1 rfl (lv_at hl 1 rfl) ?_
  obtain ⟨fs2, ho2, hf⟩ := zz_obS_i hf
  refine zx_cV X hE hR hl.1 (As := [.int x1]) (rest := []) (C := RX9) (T := TX9) (N := 6) (ov := (fun v : Option Nat => some (va_rf v))) (fun r hr => mt_X9_seatOf hT a0 x1 h n hr) rfl ho2 mf_X9_seatOf q_582 q_584 qs_9 ⟨Nat.le_of_ble_eq_true rfl, Nat.le_of_ble_eq_true rfl⟩ ⟨Nat.le_of_ble_eq_true rfl, Nat.le_of_ble_eq_true rfl⟩ rfl (Nat.le_of_ble_eq_true rfl) dX9_meanTop_2 hf (fun k e => by cases e; exact ⟨rfl, rfl, Nat.le_refl _⟩) (Nat.le_of_ble_eq_true rfl) (Nat.le_of_ble_eq_true rfl) (fun v2 hf H locs hR => ?_)
  refine W.eq (g2 := F0 m 5 ls [va_rf v2]) rfl ?_
  refine W.widen (k := 1) (n := 6) (Nat.le_of_ble_eq_true rfl) (Nat.le_of_ble_eq_true rfl) ?_
  refine zr_astore_n (i := 2) (lv' := [(2, va_rf v2), (0, .ref a0), (1, .int x1)]) hx hb dX9_meanTop_5 rfl hl (by decide) rfl (fun ls hl => ?_)
  refine zr_aload_n hx hb dX9_meanTop_6 rfl (lv_at hl 0 rfl) ?_
  obtain ⟨b7, fs7, hr7, ho7, hf⟩ := zz_ob_i hf
  obtain ⟨v7, hv7, hf⟩ := zz_b_i hf
  refine zr_cV X hR hl.1 (As := []) (rest := []) (C := RX7) (T := TX7) (N := 6) (mt_X7_topsInAll hT b7 h n hv7) rfl ho7 mf_X7_topsInAll q_1189 q_796 q_797 ⟨Nat.le_of_ble_eq_true rfl, Nat.le_of_ble_eq_true rfl⟩ ⟨Nat.le_of_ble_eq_true rfl, Nat.le_of_ble_eq_true rfl⟩ (by rw [hr7]; rfl) (Nat.le_of_ble_eq_true rfl) dX9_meanTop_7 (fun H locs hR => ?_)
  refine W.eq (g2 := F0 m 10 ls [.int v7]) rfl ?_
  refine lv_i2d hx hb dX9_meanTop_10 ?_
  refine zr_aload_n hx hb dX9_meanTop_11 rfl (lv_at hl 0 rfl) ?_
  refine zr_gqN X hR (r := v2) fn_X9_66 dX9_meanTop_12 hf (fun v12 hf => ?_)
  obtain ⟨b15, fs15, hr15, ho15, hf⟩ := zz_ob_i hf
  obtain ⟨v15, hv15, hf⟩ := zz_b_i hf
  refine zr_cV X hR hl.1 (As := []) (rest := [.double (FP.i2d v7)]) (C := RX3) (T := TX3) (N := 7) (mt_X3_cellCount hT b15 h n hv15) rfl ho15 mf_X3_cellCount q_197 q_198 q_199 ⟨Nat.le_of_ble_eq_true rfl, Nat.le_of_ble_eq_true rfl⟩ ⟨Nat.le_of_ble_eq_true rfl, Nat.le_of_ble_eq_true rfl⟩ (by rw [hr15]; rfl) (Nat.le_of_ble_eq_true rfl) dX9_meanTop_15 (fun H locs hR => ?_)
  refine W.eq (g2 := F0 m 18 ls [.int v15, .double (FP.i2d v7)]) rfl ?_
  refine lv_i2d hx hb dX9_meanTop_18 ?_
  obtain ⟨hne19, hf⟩ := zz_nd_i hf
  refine lv_ddiv hx hb dX9_meanTop_19 hne19 ?_
  cases hf
  exact zx_ret (zr_dret X hR dX9_meanTop_20 (Nat.le_of_ble_eq_true rfl) (Nat.le_of_ble_eq_true rfl))
def rm_X9_liesApart : Room := { frames := 3, cells := 0, slots := 0, locals := 64 }
theorem mf_X9_liesApart : zz_Mf yX9_liesApart cX9_liesApart 3 (some .boolean) 1 := ⟨q_286, q_1, by decide +kernel, by decide +kernel, by decide +kernel⟩
set_option maxHeartbeats 4000000 in
set_option maxRecDepth 100000 in
theorem bk_X9_liesApart_2 {D : va_G} {dA : Nat → ClassId} {base t0 : Nat} {l : Launch} {p : Program} {e : Env} {s : State} {m : MethodId} {args : Array Value} {below : List Frame} {meth : Method} {c : Code} (X : zz_X D dA base t0 "Springseat" cX9_liesApart 3 (some .boolean) l p s m meth c) (hT : l.stackTraces = false) {a0 : Nat} {x1 : (Option Nat)} {x2 : Int32} {h : zz_H} {n : Nat} {H : Heap} {locs : List Loc} {ls : Array Slot} (hR : zz_R D dA base h n s H locs) (hl : lv_has ls 3 [(0, .ref a0), (1, va_rf x1), (2, .int x2)]) {r0 : Int32} {o : (Int32 ⊕ Int32)} (hf : f_X9_liesApart_2 a0 x1 x2 h = some o) (k0 : ∀ (w2 : Int32), o = (.inl w2) → ∀ {H : Heap} {locs : List Loc} {ls : Array Slot}, zz_R D dA base h n s H locs → lv_has ls 3 [(0, .ref a0), (1, va_rf x1), (2, .int w2)] → W p l e rm_X9_liesApart s m args below meth c H locs 0 0 (MQ below (zz_Qc D dA base (some (.int r0)) h n) args s rm_X9_liesApart.cells rm_X9_liesApart.slots (fun q => base ≤ q)) (F0 m 2 ls [])) (hret : ∀ r, o = (.inr r) → r = r0) : W p l e rm_X9_liesApart s m args below meth c H locs 0 0 (MQ below (zz_Qc D dA base (some (.int r0)) h n) args s rm_X9_liesApart.cells rm_X9_liesApart.slots (fun q => base ≤ q)) (F0 m 2 ls []) := by
  have hx := X.1
  have hb := X.2.1
  have hown := X.2.2.2.2.1
  unfold f_X9_liesApart_2 at hf
  refine lv_iload_n hx hb dX9_liesApart_2 rfl (lv_at hl 2 rfl) ?_
  refine lv_aload_n hx hb dX9_liesApart_3 rfl (lv_at hl 0 rfl) ?_
  refine zr_gq X hR (r := (some a0)) fl_X9_10 dX9_liesApart_4 hf (fun v4 hf => ?_)
  obtain ⟨b7, fs7, hr7, ho7, hf⟩ := zz_ob_i hf
  obtain ⟨v7, hv7, hf⟩ := zz_b_i hf
  refine zr_cV X hR hl.1 (As := []) (rest := [.int x2]) (C := RJx4a65c) (T := TJx4a65c) (N := 3) (mt_Jx4a65c_size_8abf5 hT b7 h n hv7) rfl ho7 mf_Jx4a65c_size_8abf5 q_177 q_178 q_179 ⟨Nat.le_of_ble_eq_true rfl, Nat.le_of_ble_eq_true rfl⟩ ⟨Nat.le_of_ble_eq_true rfl, Nat.le_of_ble_eq_true rfl⟩ (by rw [hr7]; rfl) (Nat.le_of_ble_eq_true rfl) dX9_liesApart_7 (fun H locs hR => ?_)
  refine W.eq (g2 := F0 m 10 ls [.int v7, .int x2]) rfl ?_
  refine lv_icmp_ge (tgt := 42) hx hb dX9_liesApart_10 (by decide) (fun c10 => ?_) (fun c10 => ?_)
  · replace hf := zz_pos c10 hf
    refine lv_iconst (v := (1 : Int32)) hx hb dX9_liesApart_42 (by decide) ?_
    cases hf
    cases hret _ rfl
    exact zr_zret X hR (v := (1 : Int32)) rfl dX9_liesApart_43 (Nat.le_of_ble_eq_true rfl) (Nat.le_of_ble_eq_true rfl)
  · replace hf := zz_neg c10 hf
    refine zr_aload_n hx hb dX9_liesApart_13 rfl (lv_at hl 1 rfl) ?_
    refine lv_aload_n hx hb dX9_liesApart_14 rfl (lv_at hl 0 rfl) ?_
    refine zr_gq X hR (r := (some a0)) fl_X9_10 dX9_liesApart_15 hf (fun v15 hf => ?_)
    refine lv_iload_n hx hb dX9_liesApart_18 rfl (lv_at hl 2 rfl) ?_
    obtain ⟨b19, fs19, hr19, ho19, hf⟩ := zz_ob_i hf
    obtain ⟨v19, hv19, hf⟩ := zz_b_i hf
    refine zr_cV X hR hl.1 (As := [.int x2]) (rest := [va_rf x1]) (C := RJx4a65c) (T := TJx4a65c) (N := 3) (mt_Jx4a65c_get_915e3 hT b19 x2 h n hv19) rfl ho19 mf_Jx4a65c_get_915e3 q_181 q_182 q_183 ⟨Nat.le_of_ble_eq_true rfl, Nat.le_of_ble_eq_true rfl⟩ ⟨Nat.le_of_ble_eq_true rfl, Nat.le_of_ble_eq_true rfl⟩ (by rw [hr19]; rfl) (Nat.le_of_ble_eq_true rfl) dX9_liesApart_19 (fun H locs hR => ?_)
    refine W.eq (g2 := F0 m 22 ls [va_rf v19, va_rf x1]) rfl ?_
    refine zr_cc X hR (ci := 8) (C := RX7) (T := TX7) (N := 6) (r := v19) rfl q_195 (Or.inr trivial) dX9_liesApart_22 hf (fun hf => ?_)
    refine zr_gqN X hR (r := v19) fn_X9_267 dX9_liesApart_25 hf (fun v25 hf => ?_)
    obtain ⟨b28, fs28, hr28, ho28, hf⟩ := zz_ob_i hf
    obtain ⟨v28, hv28, hf⟩ := zz_b_i hf
    refine zr_cV X hR hl.1 (As := [va_rf v25]) (rest := []) (C := RX1) (T := TX1) (N := 7) (mt_X1_overlaps hT b28 v25 h n hv28) rfl ho28 mf_X1_overlaps q_287 q_288 q_289 ⟨Nat.le_of_ble_eq_true rfl, Nat.le_of_ble_eq_true rfl⟩ ⟨Nat.le_of_ble_eq_true rfl, Nat.le_of_ble_eq_true rfl⟩ (by rw [hr28]; rfl) (Nat.le_of_ble_eq_true rfl) dX9_liesApart_28 (fun H locs hR => ?_)
    refine W.eq (g2 := F0 m 31 ls [.int v28]) rfl ?_
    refine lv_if_eq (tgt := 36) hx hb dX9_liesApart_31 (by decide) (fun c31 => ?_) (fun c31 => ?_)
    · replace hf := zz_pos c31 hf
      refine lv_iinc (i := 2) (v := (x2 + (1 : Int32))) (lv' := [(2, .int (x2 + (1 : Int32))), (0, .ref a0), (1, va_rf x1)]) hx hb dX9_liesApart_36 hl (k := 2) rfl rfl (by decide) (by simp [zz_cat, zz_catI, zz_catR, zz_catJ, zz_catF, zz_catD]) (fun ls hl => ?_)
      refine lv_goto (tgt := 2) hx hb dX9_liesApart_39 (by decide) ?_
      cases hf
      exact k0 _ rfl hR (lv_sub hl [1, 2, 0] rfl)
    · replace hf := zz_neg c31 hf
      refine lv_iconst (v := (0 : Int32)) hx hb dX9_liesApart_34 (by decide) ?_
      cases hf
      cases hret _ rfl
      exact zr_zret X hR (v := (0 : Int32)) rfl dX9_liesApart_35 (Nat.le_of_ble_eq_true rfl) (Nat.le_of_ble_eq_true rfl)
set_option maxHeartbeats 4000000 in
set_option maxRecDepth 100000 in
theorem lp_X9_liesApart_2 {D : va_G} {dA : Nat → ClassId} {base t0 : Nat} {l : Launch} {p : Program} {e : Env} {s : State} {m : MethodId} {args : Array Value} {below : List Frame} {meth : Method} {c : Code} (X : zz_X D dA base t0 "Springseat" cX9_liesApart 3 (some .boolean) l p s m meth c) (hT : l.stackTraces = false) (a0 : Nat) (x1 : (Option Nat)) {h : zz_H} {n : Nat} {r0 : Int32} : ∀ (k : Nat) (x2 : Int32), zz_it (fun s : Int32 => f_X9_liesApart_2 a0 x1 s h) k x2 = some r0 → ∀ {H : Heap} {locs : List Loc} {ls : Array Slot}, zz_R D dA base h n s H locs → lv_has ls 3 [(0, .ref a0), (1, va_rf x1), (2, .int x2)] → W p l e rm_X9_liesApart s m args below meth c H locs 0 0 (MQ below (zz_Qc D dA base (some (.int r0)) h n) args s rm_X9_liesApart.cells rm_X9_liesApart.slots (fun q => base ≤ q)) (F0 m 2 ls []) := by
  intro k
  induction k with
  | zero => intro x2 hf; cases hf
  | succ k ih =>
    intro x2 hf H locs ls hR hl
    rcases zz_it_s hf with ⟨y0, h1, h2⟩ | h1
    · exact bk_X9_liesApart_2 (r0 := r0) X hT hR hl h1  (fun z0 e => by cases e; exact ih _ h2) (fun r e => by cases e)
    · exact bk_X9_liesApart_2 (r0 := r0) X hT hR hl h1  (fun z0 e => by cases e) (fun r e => (Sum.inr.inj e).symm)
set_option maxHeartbeats 4000000 in
set_option maxRecDepth 100000 in
theorem mt_X9_liesApart {D : va_G} {dA : Nat → ClassId} {base t0 : Nat} {l : Launch} (hT : l.stackTraces = false) (a0 : Nat) (x1 : (Option Nat)) (h : zz_H) (n : Nat) {r0 : Int32} (hf : f_X9_liesApart a0 x1 h = some r0) : zz_M D dA base t0 l yX9_liesApart cX9_liesApart 3 (some .boolean) rm_X9_liesApart [.ref a0, va_rf x1] h n (some (.int r0)) h n := by
  refine Met.ofW (cc := cX9_liesApart) (maxL := 3) (ret := (some .boolean)) (by decide +kernel) rfl ?_
  intro p e s m args below meth c s₁ B hml hv
  obtain ⟨rfl, hP, hK⟩ := hv
  have X : zz_X D dA base t0 "Springseat" cX9_liesApart 3 (some .boolean) l p s m meth c := ⟨B.exec, B.bytes, hml, B.returns, findClass_of_methodNamed B.named, B.notSynchronized, hT, by rw [hP.1]; exact hP.2.1, hK⟩
  have hx := X.1
  have hb := X.2.1
  have hown := X.2.2.2.2.1
  have hR : zz_R D dA base h n s s.heap [] := ⟨hP, va_S.rf⟩
  have hl := lv_entry ([.ref a0, va_rf x1]) (n := 3) (by cases x1 <;> exact Nat.le_of_ble_eq_true rfl)
  rw [lg_entry_eq]
  generalize (lg_sl ([.ref a0, va_rf x1]) ++ List.replicate (3 - (lg_sl ([.ref a0, va_rf x1])).length) Slot.unset).toArray = ls at hl ⊢
  have hl : lv_has ls 3 [(0, .ref a0), (1, va_rf x1)] := by rw [show ([(0, .ref a0), (1, va_rf x1)] : List (Nat × Value)) = lv_args 0 [.ref a0, va_rf x1] from by cases x1 <;> rfl]; exact hl
  unfold f_X9_liesApart at hf
  refine lv_iconst (v := (0 : Int32)) hx hb dX9_liesApart_0 (by decide) ?_
  refine lv_istore_n (i := 2) (lv' := [(2, .int (0 : Int32)), (0, .ref a0), (1, va_rf x1)]) hx hb dX9_liesApart_1 rfl hl (by decide) (by simp [zz_cat, zz_catI, zz_catR, zz_catJ, zz_catF, zz_catD]) (fun ls hl => ?_)
  exact lp_X9_liesApart_2 X hT a0 x1 zz_F _ hf hR (lv_sub hl [1, 2, 0] rfl)
def rm_X9_sinksSoundly : Room := { frames := 5, cells := 0, slots := 0, locals := 115 }
theorem mf_X9_sinksSoundly : zz_Mf yX9_sinksSoundly cX9_sinksSoundly 3 (some .boolean) 1 := ⟨q_294, q_1, by decide +kernel, by decide +kernel, by decide +kernel⟩
set_option maxHeartbeats 4000000 in
set_option maxRecDepth 100000 in
theorem bk_X9_sinksSoundly_2 {D : va_G} {dA : Nat → ClassId} {base t0 : Nat} {l : Launch} {p : Program} {e : Env} {s : State} {m : MethodId} {args : Array Value} {below : List Frame} {meth : Method} {c : Code} (X : zz_X D dA base t0 "Springseat" cX9_sinksSoundly 3 (some .boolean) l p s m meth c) (hT : l.stackTraces = false) {a0 : Nat} {x1 : (Option Nat)} {x2 : Int32} {h : zz_H} {n : Nat} {H : Heap} {locs : List Loc} {ls : Array Slot} (hR : zz_R D dA base h n s H locs) (hl : lv_has ls 3 [(0, .ref a0), (1, va_rf x1), (2, .int x2)]) {r0 : Int32} {hF : zz_H} {o : ((Int32 × zz_H) ⊕ (Int32 × zz_H))} (hf : f_X9_sinksSoundly_2 a0 x1 x2 h = some o) (k0 : ∀ (w2 : Int32) (hw : zz_H), o = (.inl (w2, hw)) → ∀ {H : Heap} {locs : List Loc} {ls : Array Slot}, zz_R D dA base hw n s H locs → lv_has ls 3 [(0, .ref a0), (1, va_rf x1), (2, .int w2)] → W p l e rm_X9_sinksSoundly s m args below meth c H locs 0 0 (MQ below (zz_Qc D dA base (some (.int r0)) hF n) args s rm_X9_sinksSoundly.cells rm_X9_sinksSoundly.slots (fun q => base ≤ q)) (F0 m 2 ls [])) (hret : ∀ r, o = (.inr r) → r = (r0, hF)) : W p l e rm_X9_sinksSoundly s m args below meth c H locs 0 0 (MQ below (zz_Qc D dA base (some (.int r0)) hF n) args s rm_X9_sinksSoundly.cells rm_X9_sinksSoundly.slots (fun q => base ≤ q)) (F0 m 2 ls []) := by
  have hx := X.1
  have hb := X.2.1
  have hown := X.2.2.2.2.1
  unfold f_X9_sinksSoundly_2 at hf
  refine lv_iload_n hx hb dX9_sinksSoundly_2 rfl (lv_at hl 2 rfl) ?_
  refine lv_aload_n hx hb dX9_sinksSoundly_3 rfl (lv_at hl 0 rfl) ?_
  refine zr_gq X hR (r := (some a0)) fl_X9_16 dX9_sinksSoundly_4 hf (fun v4 hf => ?_)
  obtain ⟨b7, fs7, hr7, ho7, hf⟩ := zz_ob_i hf
  obtain ⟨v7, hv7, hf⟩ := zz_b_i hf
  refine zr_cV X hR hl.1 (As := []) (rest := [.int x2]) (C := RJx4a65c) (T := TJx4a65c) (N := 3) (mt_Jx4a65c_size_8abf5 hT b7 h n hv7) rfl ho7 mf_Jx4a65c_size_8abf5 q_177 q_178 q_179 ⟨Nat.le_of_ble_eq_true rfl, Nat.le_of_ble_eq_true rfl⟩ ⟨Nat.le_of_ble_eq_true rfl, Nat.le_of_ble_eq_true rfl⟩ (by rw [hr7]; rfl) (Nat.le_of_ble_eq_true rfl) dX9_sinksSoundly_7 (fun H locs hR => ?_)
  refine W.eq (g2 := F0 m 10 ls [.int v7, .int x2]) rfl ?_
  refine lv_icmp_ge (tgt := 51) hx hb dX9_sinksSoundly_10 (by decide) (fun c10 => ?_) (fun c10 => ?_)
  · replace hf := zz_pos c10 hf
    refine lv_iconst (v := (1 : Int32)) hx hb dX9_sinksSoundly_51 (by decide) ?_
    cases hf
    cases hret _ rfl
    exact zr_zret X hR (v := (1 : Int32)) rfl dX9_sinksSoundly_52 (Nat.le_of_ble_eq_true rfl) (Nat.le_of_ble_eq_true rfl)
  · replace hf := zz_neg c10 hf
    refine zr_aload_n hx hb dX9_sinksSoundly_13 rfl (lv_at hl 1 rfl) ?_
    refine lv_aload_n hx hb dX9_sinksSoundly_14 rfl (lv_at hl 0 rfl) ?_
    refine zr_gq X hR (r := (some a0)) fl_X9_16 dX9_sinksSoundly_15 hf (fun v15 hf => ?_)
    refine lv_iload_n hx hb dX9_sinksSoundly_18 rfl (lv_at hl 2 rfl) ?_
    obtain ⟨b19, fs19, hr19, ho19, hf⟩ := zz_ob_i hf
    obtain ⟨v19, hv19, hf⟩ := zz_b_i hf
    refine zr_cV X hR hl.1 (As := [.int x2]) (rest := [va_rf x1]) (C := RJx4a65c) (T := TJx4a65c) (N := 3) (mt_Jx4a65c_get_915e3 hT b19 x2 h n hv19) rfl ho19 mf_Jx4a65c_get_915e3 q_181 q_182 q_183 ⟨Nat.le_of_ble_eq_true rfl, Nat.le_of_ble_eq_true rfl⟩ ⟨Nat.le_of_ble_eq_true rfl, Nat.le_of_ble_eq_true rfl⟩ (by rw [hr19]; rfl) (Nat.le_of_ble_eq_true rfl) dX9_sinksSoundly_19 (fun H locs hR => ?_)
    refine W.eq (g2 := F0 m 22 ls [va_rf v19, va_rf x1]) rfl ?_
    refine zr_cc X hR (ci := 5) (C := RX4) (T := TX4) (N := 1) (r := v19) rfl q_63 (Or.inr trivial) dX9_sinksSoundly_22 hf (fun hf => ?_)
    refine lv_aload_n hx hb dX9_sinksSoundly_25 rfl (lv_at hl 0 rfl) ?_
    refine zr_gq X hR (r := (some a0)) fl_X9_28 dX9_sinksSoundly_26 hf (fun v26 hf => ?_)
    obtain ⟨b29, fs29, hr29, ho29, hf⟩ := zz_ob_i hf
    obtain ⟨u29, h29, hv29, hf⟩ := zz_b1_i hf
    refine zr_cV X hR hl.1 (As := [va_rf v19, va_rf v26]) (rest := []) (C := RX7) (T := TX7) (N := 6) (mt_X7_tellSinking hT b29 v19 v26 h n hv29) rfl ho29 mf_X7_tellSinking q_295 q_296 q_297 ⟨Nat.le_of_ble_eq_true rfl, Nat.le_of_ble_eq_true rfl⟩ ⟨Nat.le_of_ble_eq_true rfl, Nat.le_of_ble_eq_true rfl⟩ (by rw [hr29]; rfl) (Nat.le_of_ble_eq_true rfl) dX9_sinksSoundly_29 (fun H locs hR => ?_)
    refine W.eq (g2 := F0 m 32 ls []) rfl ?_
    refine zr_aload_n hx hb dX9_sinksSoundly_32 rfl (lv_at hl 1 rfl) ?_
    refine lv_aload_n hx hb dX9_sinksSoundly_33 rfl (lv_at hl 0 rfl) ?_
    refine zr_gq X hR (r := (some a0)) fl_X9_28 dX9_sinksSoundly_34 hf (fun v34 hf => ?_)
    obtain ⟨b37, fs37, hr37, ho37, hf⟩ := zz_ob_i hf
    obtain ⟨v37, hv37, hf⟩ := zz_b_i hf
    refine zr_cV X hR hl.1 (As := [va_rf v34]) (rest := []) (C := RX7) (T := TX7) (N := 6) (mt_X7_slopesGently hT b37 v34 h29 n hv37) rfl ho37 mf_X7_slopesGently q_328 q_329 q_330 ⟨Nat.le_of_ble_eq_true rfl, Nat.le_of_ble_eq_true rfl⟩ ⟨Nat.le_of_ble_eq_true rfl, Nat.le_of_ble_eq_true rfl⟩ (by rw [hr37]; rfl) (Nat.le_of_ble_eq_true rfl) dX9_sinksSoundly_37 (fun H locs hR => ?_)
    refine W.eq (g2 := F0 m 40 ls [.int v37]) rfl ?_
    refine lv_if_ne (tgt := 45) hx hb dX9_sinksSoundly_40 (by decide) (fun c40 => ?_) (fun c40 => ?_)
    · replace hf := zz_neg c40 hf
      refine lv_iinc (i := 2) (v := (x2 + (1 : Int32))) (lv' := [(2, .int (x2 + (1 : Int32))), (0, .ref a0), (1, va_rf x1)]) hx hb dX9_sinksSoundly_45 hl (k := 2) rfl rfl (by decide) (by simp [zz_cat, zz_catI, zz_catR, zz_catJ, zz_catF, zz_catD]) (fun ls hl => ?_)
      refine lv_goto (tgt := 2) hx hb dX9_sinksSoundly_48 (by decide) ?_
      cases hf
      exact k0 _ _ rfl hR (lv_sub hl [1, 2, 0] rfl)
    · replace hf := zz_pos c40 hf
      refine lv_iconst (v := (0 : Int32)) hx hb dX9_sinksSoundly_43 (by decide) ?_
      cases hf
      cases hret _ rfl
      exact zr_zret X hR (v := (0 : Int32)) rfl dX9_sinksSoundly_44 (Nat.le_of_ble_eq_true rfl) (Nat.le_of_ble_eq_true rfl)
set_option maxHeartbeats 4000000 in
set_option maxRecDepth 100000 in
theorem lp_X9_sinksSoundly_2 {D : va_G} {dA : Nat → ClassId} {base t0 : Nat} {l : Launch} {p : Program} {e : Env} {s : State} {m : MethodId} {args : Array Value} {below : List Frame} {meth : Method} {c : Code} (X : zz_X D dA base t0 "Springseat" cX9_sinksSoundly 3 (some .boolean) l p s m meth c) (hT : l.stackTraces = false) (a0 : Nat) (x1 : (Option Nat)) {n : Nat} {r0 : Int32} {hF : zz_H} : ∀ (k : Nat) (x2 : Int32) (h : zz_H), zz_it (fun s : (Int32 × zz_H) => f_X9_sinksSoundly_2 a0 x1 s.1 s.2) k (x2, h) = some (r0, hF) → ∀ {H : Heap} {locs : List Loc} {ls : Array Slot}, zz_R D dA base h n s H locs → lv_has ls 3 [(0, .ref a0), (1, va_rf x1), (2, .int x2)] → W p l e rm_X9_sinksSoundly s m args below meth c H locs 0 0 (MQ below (zz_Qc D dA base (some (.int r0)) hF n) args s rm_X9_sinksSoundly.cells rm_X9_sinksSoundly.slots (fun q => base ≤ q)) (F0 m 2 ls []) := by
  intro k
  induction k with
  | zero => intro x2 h hf; cases hf
  | succ k ih =>
    intro x2 h hf H locs ls hR hl
    rcases zz_it_s hf with ⟨⟨y0, y1⟩, h1, h2⟩ | h1
    · exact bk_X9_sinksSoundly_2 (r0 := r0) X hT hR hl h1  (fun z0 z1 e => by cases e; exact ih _ _ h2) (fun r e => by cases e)
    · exact bk_X9_sinksSoundly_2 (r0 := r0) X hT hR hl h1  (fun z0 z1 e => by cases e) (fun r e => (Sum.inr.inj e).symm)
set_option maxHeartbeats 4000000 in
set_option maxRecDepth 100000 in
theorem mt_X9_sinksSoundly {D : va_G} {dA : Nat → ClassId} {base t0 : Nat} {l : Launch} (hT : l.stackTraces = false) (a0 : Nat) (x1 : (Option Nat)) (h : zz_H) (n : Nat) {r0 : Int32} {hF : zz_H} (hf : f_X9_sinksSoundly a0 x1 h = some (r0, hF)) : zz_M D dA base t0 l yX9_sinksSoundly cX9_sinksSoundly 3 (some .boolean) rm_X9_sinksSoundly [.ref a0, va_rf x1] h n (some (.int r0)) hF n := by
  refine Met.ofW (cc := cX9_sinksSoundly) (maxL := 3) (ret := (some .boolean)) (by decide +kernel) rfl ?_
  intro p e s m args below meth c s₁ B hml hv
  obtain ⟨rfl, hP, hK⟩ := hv
  have X : zz_X D dA base t0 "Springseat" cX9_sinksSoundly 3 (some .boolean) l p s m meth c := ⟨B.exec, B.bytes, hml, B.returns, findClass_of_methodNamed B.named, B.notSynchronized, hT, by rw [hP.1]; exact hP.2.1, hK⟩
  have hx := X.1
  have hb := X.2.1
  have hown := X.2.2.2.2.1
  have hR : zz_R D dA base h n s s.heap [] := ⟨hP, va_S.rf⟩
  have hl := lv_entry ([.ref a0, va_rf x1]) (n := 3) (by cases x1 <;> exact Nat.le_of_ble_eq_true rfl)
  rw [lg_entry_eq]
  generalize (lg_sl ([.ref a0, va_rf x1]) ++ List.replicate (3 - (lg_sl ([.ref a0, va_rf x1])).length) Slot.unset).toArray = ls at hl ⊢
  have hl : lv_has ls 3 [(0, .ref a0), (1, va_rf x1)] := by rw [show ([(0, .ref a0), (1, va_rf x1)] : List (Nat × Value)) = lv_args 0 [.ref a0, va_rf x1] from by cases x1 <;> rfl]; exact hl
  unfold f_X9_sinksSoundly at hf
  refine lv_iconst (v := (0 : Int32)) hx hb dX9_sinksSoundly_0 (by decide) ?_
  refine lv_istore_n (i := 2) (lv' := [(2, .int (0 : Int32)), (0, .ref a0), (1, va_rf x1)]) hx hb dX9_sinksSoundly_1 rfl hl (by decide) (by simp [zz_cat, zz_catI, zz_catR, zz_catJ, zz_catF, zz_catD]) (fun ls hl => ?_)
  exact lp_X9_sinksSoundly_2 X hT a0 x1 zz_F _ _ hf hR (lv_sub hl [1, 2, 0] rfl)
def rm_X9_isSound : Room := { frames := 6, cells := 0, slots := 0, locals := 137 }
theorem mf_X9_isSound : zz_Mf yX9_isSound cX9_isSound 3 (some .boolean) 0 := ⟨q_233, q_1, by decide +kernel, by decide +kernel, by decide +kernel⟩
set_option maxHeartbeats 4000000 in
set_option maxRecDepth 100000 in
theorem bk_X9_isSound_71 {D : va_G} {dA : Nat → ClassId} {base t0 : Nat} {l : Launch} {p : Program} {e : Env} {s : State} {m : MethodId} {args : Array Value} {below : List Frame} {meth : Method} {c : Code} (X : zz_X D dA base t0 "Springseat" cX9_isSound 3 (some .boolean) l p s m meth c) (hT : l.stackTraces = false) {h : zz_H} {n : Nat} {H : Heap} {locs : List Loc} {ls : Array Slot} (hR : zz_R D dA base h n s H locs) (hl : lv_has ls 3 []) {r0 : Int32} {hF : zz_H} (hf : f_X9_isSound_71 h = some (r0, hF)) : W p l e rm_X9_isSound s m args below meth c H locs 0 0 (MQ below (zz_Qc D dA base (some (.int r0)) hF n) args s rm_X9_isSound.cells rm_X9_isSound.slots (fun q => base ≤ q)) (F0 m 71 ls []) := by
  have hx := X.1
  have hb := X.2.1
  have hown := X.2.2.2.2.1
  unfold f_X9_isSound_71 at hf
  refine lv_iconst (v := (0 : Int32)) hx hb dX9_isSound_71 (by decide) ?_
  cases hf
  exact zr_zret X hR (v := (0 : Int32)) rfl dX9_isSound_72 (Nat.le_of_ble_eq_true rfl) (Nat.le_of_ble_eq_true rfl)
set_option maxHeartbeats 4000000 in
set_option maxRecDepth 100000 in
theorem bk_X9_isSound_2 {D : va_G} {dA : Nat → ClassId} {base t0 : Nat} {l : Launch} {p : Program} {e : Env} {s : State} {m : MethodId} {args : Array Value} {below : List Frame} {meth : Method} {c : Code} (X : zz_X D dA base t0 "Springseat" cX9_isSound 3 (some .boolean) l p s m meth c) (hT : l.stackTraces = false) {a0 : Nat} {x1 : Int32} {h : zz_H} {n : Nat} {H : Heap} {locs : List Loc} {ls : Array Slot} (hR : zz_R D dA base h n s H locs) (hl : lv_has ls 3 [(0, .ref a0), (1, .int x1)]) {r0 : Int32} {hF : zz_H} {o : ((Int32 × zz_H) ⊕ (Int32 × zz_H))} (hf : f_X9_isSound_2 a0 x1 h = some o) (k0 : ∀ (w1 : Int32) (hw : zz_H), o = (.inl (w1, hw)) → ∀ {H : Heap} {locs : List Loc} {ls : Array Slot}, zz_R D dA base hw n s H locs → lv_has ls 3 [(0, .ref a0), (1, .int w1)] → W p l e rm_X9_isSound s m args below meth c H locs 0 0 (MQ below (zz_Qc D dA base (some (.int r0)) hF n) args s rm_X9_isSound.cells rm_X9_isSound.slots (fun q => base ≤ q)) (F0 m 2 ls [])) (hret : ∀ r, o = (.inr r) → r = (r0, hF)) : W p l e rm_X9_isSound s m args below meth c H locs 0 0 (MQ below (zz_Qc D dA base (some (.int r0)) hF n) args s rm_X9_isSound.cells rm_X9_isSound.slots (fun q => base ≤ q)) (F0 m 2 ls []) := by
  have hx := X.1
  have hb := X.2.1
  have hown := X.2.2.2.2.1
  unfold f_X9_isSound_2 at hf
  refine lv_iload_n hx hb dX9_isSound_2 rfl (lv_at hl 1 rfl) ?_
  refine lv_aload_n hx hb dX9_isSound_3 rfl (lv_at hl 0 rfl) ?_
  refine zr_gq X hR (r := (some a0)) fl_X9_10 dX9_isSound_4 hf (fun v4 hf => ?_)
  obtain ⟨b7, fs7, hr7, ho7, hf⟩ := zz_ob_i hf
  obtain ⟨v7, hv7, hf⟩ := zz_b_i hf
  refine zr_cV X hR hl.1 (As := []) (rest := [.int x1]) (C := RJx4a65c) (T := TJx4a65c) (N := 3) (mt_Jx4a65c_size_8abf5 hT b7 h n hv7) rfl ho7 mf_Jx4a65c_size_8abf5 q_177 q_178 q_179 ⟨Nat.le_of_ble_eq_true rfl, Nat.le_of_ble_eq_true rfl⟩ ⟨Nat.le_of_ble_eq_true rfl, Nat.le_of_ble_eq_true rfl⟩ (by rw [hr7]; rfl) (Nat.le_of_ble_eq_true rfl) dX9_isSound_7 (fun H locs hR => ?_)
  refine W.eq (g2 := F0 m 10 ls [.int v7, .int x1]) rfl ?_
  refine lv_icmp_ge (tgt := 79) hx hb dX9_isSound_10 (by decide) (fun c10 => ?_) (fun c10 => ?_)
  · replace hf := zz_pos c10 hf
    refine lv_iconst (v := (1 : Int32)) hx hb dX9_isSound_79 (by decide) ?_
    cases hf
    cases hret _ rfl
    exact zr_zret X hR (v := (1 : Int32)) rfl dX9_isSound_80 (Nat.le_of_ble_eq_true rfl) (Nat.le_of_ble_eq_true rfl)
  · replace hf := zz_neg c10 hf
    refine lv_aload_n hx hb dX9_isSound_13 rfl (lv_at hl 0 rfl) ?_
    refine zr_gq X hR (r := (some a0)) fl_X9_10 dX9_isSound_14 hf (fun v14 hf => ?_)
    refine lv_iload_n hx hb dX9_isSound_17 rfl (lv_at hl 1 rfl) ?_
    obtain ⟨b18, fs18, hr18, ho18, hf⟩ := zz_ob_i hf
    obtain ⟨v18, hv18, hf⟩ := zz_b_i hf
    refine zr_cV X hR hl.1 (As := [.int x1]) (rest := []) (C := RJx4a65c) (T := TJx4a65c) (N := 3) (mt_Jx4a65c_get_915e3 hT b18 x1 h n hv18) rfl ho18 mf_Jx4a65c_get_915e3 q_181 q_182 q_183 ⟨Nat.le_of_ble_eq_true rfl, Nat.le_of_ble_eq_true rfl⟩ ⟨Nat.le_of_ble_eq_true rfl, Nat.le_of_ble_eq_true rfl⟩ (by rw [hr18]; rfl) (Nat.le_of_ble_eq_true rfl) dX9_isSound_18 (fun H locs hR => ?_)
    refine W.eq (g2 := F0 m 21 ls [va_rf v18]) rfl ?_
    refine zr_cc X hR (ci := 8) (C := RX7) (T := TX7) (N := 6) (r := v18) rfl q_195 (Or.inr trivial) dX9_isSound_21 hf (fun hf => ?_)
    refine zr_astore_n (i := 2) (lv' := [(2, va_rf v18), (0, .ref a0), (1, .int x1)]) hx hb dX9_isSound_24 rfl hl (by decide) rfl (fun ls hl => ?_)
    refine zr_aload_n hx hb dX9_isSound_25 rfl (lv_at hl 0 rfl) ?_
    refine zr_gqN X hR (r := v18) fn_X9_76 dX9_isSound_26 hf (fun v26 hf => ?_)
    obtain ⟨b29, fs29, hr29, ho29, hf⟩ := zz_ob_i hf
    obtain ⟨v29, hv29, hf⟩ := zz_b_i hf
    refine zr_cV X hR hl.1 (As := []) (rest := []) (C := RX8) (T := TX8) (N := 3) (mt_X8_areInOrder hT b29 h n hv29) rfl ho29 mf_X8_areInOrder q_234 q_235 q_236 ⟨Nat.le_of_ble_eq_true rfl, Nat.le_of_ble_eq_true rfl⟩ ⟨Nat.le_of_ble_eq_true rfl, Nat.le_of_ble_eq_true rfl⟩ (by rw [hr29]; rfl) (Nat.le_of_ble_eq_true rfl) dX9_isSound_29 (fun H locs hR => ?_)
    refine W.eq (g2 := F0 m 32 ls [.int v29]) rfl ?_
    refine lv_if_eq (tgt := 71) hx hb dX9_isSound_32 (by decide) (fun c32 => ?_) (fun c32 => ?_)
    · replace hf := zz_pos c32 hf
      obtain ⟨o1, hf1, he⟩ := Option.map_eq_some_iff.mp hf
      cases he
      cases hret _ rfl
      exact bk_X9_isSound_71 X hT hR (lv_sub hl [] rfl) hf1
    · replace hf := zz_neg c32 hf
      refine zr_aload_n hx hb dX9_isSound_35 rfl (lv_at hl 0 rfl) ?_
      obtain ⟨b36, fs36, hr36, ho36, hf⟩ := zz_ob_i hf
      obtain ⟨v36, hv36, hf⟩ := zz_b_i hf
      refine zr_cV X hR hl.1 (As := []) (rest := []) (C := RX7) (T := TX7) (N := 6) (mt_X7_hasSoundTops hT b36 h n hv36) rfl ho36 mf_X7_hasSoundTops q_251 q_252 q_253 ⟨Nat.le_of_ble_eq_true rfl, Nat.le_of_ble_eq_true rfl⟩ ⟨Nat.le_of_ble_eq_true rfl, Nat.le_of_ble_eq_true rfl⟩ (by rw [hr36]; rfl) (Nat.le_of_ble_eq_true rfl) dX9_isSound_36 (fun H locs hR => ?_)
      refine W.eq (g2 := F0 m 39 ls [.int v36]) rfl ?_
      refine lv_if_eq (tgt := 71) hx hb dX9_isSound_39 (by decide) (fun c39 => ?_) (fun c39 => ?_)
      · replace hf := zz_pos c39 hf
        obtain ⟨o1, hf1, he⟩ := Option.map_eq_some_iff.mp hf
        cases he
        cases hret _ rfl
        exact bk_X9_isSound_71 X hT hR (lv_sub hl [] rfl) hf1
      · replace hf := zz_neg c39 hf
        refine zr_aload_n hx hb dX9_isSound_42 rfl (lv_at hl 0 rfl) ?_
        refine zr_gqN X hR (r := v18) fn_X9_267 dX9_isSound_43 hf (fun v43 hf => ?_)
        obtain ⟨b46, fs46, hr46, ho46, hf⟩ := zz_ob_i hf
        obtain ⟨v46, hv46, hf⟩ := zz_b_i hf
        refine zr_cV X hR hl.1 (As := []) (rest := []) (C := RX1) (T := TX1) (N := 7) (mt_X1_fitsItsCloth hT b46 h n hv46) rfl ho46 mf_X1_fitsItsCloth q_258 q_259 q_260 ⟨Nat.le_of_ble_eq_true rfl, Nat.le_of_ble_eq_true rfl⟩ ⟨Nat.le_of_ble_eq_true rfl, Nat.le_of_ble_eq_true rfl⟩ (by rw [hr46]; rfl) (Nat.le_of_ble_eq_true rfl) dX9_isSound_46 (fun H locs hR => ?_)
        refine W.eq (g2 := F0 m 49 ls [.int v46]) rfl ?_
        refine lv_if_eq (tgt := 71) hx hb dX9_isSound_49 (by decide) (fun c49 => ?_) (fun c49 => ?_)
        · replace hf := zz_pos c49 hf
          obtain ⟨o1, hf1, he⟩ := Option.map_eq_some_iff.mp hf
          cases he
          cases hret _ rfl
          exact bk_X9_isSound_71 X hT hR (lv_sub hl [] rfl) hf1
        · replace hf := zz_neg c49 hf
          refine lv_aload_n hx hb dX9_isSound_52 rfl (lv_at hl 1 rfl) ?_
          refine zr_aload_n hx hb dX9_isSound_53 rfl (lv_at hl 0 rfl) ?_
          refine zr_gqN X hR (r := v18) fn_X9_267 dX9_isSound_54 hf (fun v54 hf => ?_)
          obtain ⟨fs57, ho57, hf⟩ := zz_obS_i hf
          obtain ⟨v57, hv57, hf⟩ := zz_b_i hf
          refine zr_cV X hR hl.1 (As := [va_rf v54]) (rest := []) (C := RX9) (T := TX9) (N := 6) (mt_X9_liesApart hT a0 v54 h n hv57) rfl ho57 mf_X9_liesApart q_283 q_285 qs_6 ⟨Nat.le_of_ble_eq_true rfl, Nat.le_of_ble_eq_true rfl⟩ ⟨Nat.le_of_ble_eq_true rfl, Nat.le_of_ble_eq_true rfl⟩ rfl (Nat.le_of_ble_eq_true rfl) dX9_isSound_57 (fun H locs hR => ?_)
          refine W.eq (g2 := F0 m 60 ls [.int v57]) rfl ?_
          refine lv_if_eq (tgt := 71) hx hb dX9_isSound_60 (by decide) (fun c60 => ?_) (fun c60 => ?_)
          · replace hf := zz_pos c60 hf
            obtain ⟨o1, hf1, he⟩ := Option.map_eq_some_iff.mp hf
            cases he
            cases hret _ rfl
            exact bk_X9_isSound_71 X hT hR (lv_sub hl [] rfl) hf1
          · replace hf := zz_neg c60 hf
            refine lv_aload_n hx hb dX9_isSound_63 rfl (lv_at hl 1 rfl) ?_
            refine zr_aload_n hx hb dX9_isSound_64 rfl (lv_at hl 0 rfl) ?_
            obtain ⟨fs65, ho65, hf⟩ := zz_obS_i hf
            obtain ⟨v65, h65, hv65, hf⟩ := zz_b1_i hf
            refine zr_cV X hR hl.1 (As := [va_rf v18]) (rest := []) (C := RX9) (T := TX9) (N := 6) (mt_X9_sinksSoundly hT a0 v18 h n hv65) rfl ho65 mf_X9_sinksSoundly q_291 q_293 qs_7 ⟨Nat.le_of_ble_eq_true rfl, Nat.le_of_ble_eq_true rfl⟩ ⟨Nat.le_of_ble_eq_true rfl, Nat.le_of_ble_eq_true rfl⟩ rfl (Nat.le_of_ble_eq_true rfl) dX9_isSound_65 (fun H locs hR => ?_)
            refine W.eq (g2 := F0 m 68 ls [.int v65]) rfl ?_
            refine lv_if_ne (tgt := 73) hx hb dX9_isSound_68 (by decide) (fun c68 => ?_) (fun c68 => ?_)
            · replace hf := zz_neg c68 hf
              refine lv_iinc (i := 1) (v := (x1 + (1 : Int32))) (lv' := [(1, .int (x1 + (1 : Int32))), (2, va_rf v18), (0, .ref a0)]) hx hb dX9_isSound_73 hl (k := 2) rfl rfl (by decide) rfl (fun ls hl => ?_)
              refine lv_goto (tgt := 2) hx hb dX9_isSound_76 (by decide) ?_
              cases hf
              exact k0 _ _ rfl hR (lv_sub hl [2, 0] rfl)
            · replace hf := zz_pos c68 hf
              obtain ⟨o1, hf1, he⟩ := Option.map_eq_some_iff.mp hf
              cases he
              cases hret _ rfl
              exact bk_X9_isSound_71 X hT hR (lv_sub hl [] rfl) hf1
set_option maxHeartbeats 4000000 in
set_option maxRecDepth 100000 in
theorem lp_X9_isSound_2 {D : va_G} {dA : Nat → ClassId} {base t0 : Nat} {l : Launch} {p : Program} {e : Env} {s : State} {m : MethodId} {args : Array Value} {below : List Frame} {meth : Method} {c : Code} (X : zz_X D dA base t0 "Springseat" cX9_isSound 3 (some .boolean) l p s m meth c) (hT : l.stackTraces = false) (a0 : Nat) {n : Nat} {r0 : Int32} {hF : zz_H} : ∀ (k : Nat) (x1 : Int32) (h : zz_H), zz_it (fun s : (Int32 × zz_H) => f_X9_isSound_2 a0 s.1 s.2) k (x1, h) = some (r0, hF) → ∀ {H : Heap} {locs : List Loc} {ls : Array Slot}, zz_R D dA base h n s H locs → lv_has ls 3 [(0, .ref a0), (1, .int x1)] → W p l e rm_X9_isSound s m args below meth c H locs 0 0 (MQ below (zz_Qc D dA base (some (.int r0)) hF n) args s rm_X9_isSound.cells rm_X9_isSound.slots (fun q => base ≤ q)) (F0 m 2 ls []) := by
  intro k
  induction k with
  | zero => intro x1 h hf; cases hf
  | succ k ih =>
    intro x1 h hf H locs ls hR hl
    rcases zz_it_s hf with ⟨⟨y0, y1⟩, h1, h2⟩ | h1
    · exact bk_X9_isSound_2 (r0 := r0) X hT hR hl h1  (fun z0 z1 e => by cases e; exact ih _ _ h2) (fun r e => by cases e)
    · exact bk_X9_isSound_2 (r0 := r0) X hT hR hl h1  (fun z0 z1 e => by cases e) (fun r e => (Sum.inr.inj e).symm)
set_option maxHeartbeats 4000000 in
set_option maxRecDepth 100000 in
theorem mt_X9_isSound {D : va_G} {dA : Nat → ClassId} {base t0 : Nat} {l : Launch} (hT : l.stackTraces = false) (a0 : Nat) (h : zz_H) (n : Nat) {r0 : Int32} {hF : zz_H} (hf : f_X9_isSound a0 h = some (r0, hF)) : zz_M D dA base t0 l yX9_isSound cX9_isSound 3 (some .boolean) rm_X9_isSound [.ref a0] h n (some (.int r0)) hF n := by
  refine Met.ofW (cc := cX9_isSound) (maxL := 3) (ret := (some .boolean)) (by decide +kernel) rfl ?_
  intro p e s m args below meth c s₁ B hml hv
  obtain ⟨rfl, hP, hK⟩ := hv
  have X : zz_X D dA base t0 "Springseat" cX9_isSound 3 (some .boolean) l p s m meth c := ⟨B.exec, B.bytes, hml, B.returns, findClass_of_methodNamed B.named, B.notSynchronized, hT, by rw [hP.1]; exact hP.2.1, hK⟩
  have hx := X.1
  have hb := X.2.1
  have hown := X.2.2.2.2.1
  have hR : zz_R D dA base h n s s.heap [] := ⟨hP, va_S.rf⟩
  have hl := lv_entry ([.ref a0]) (n := 3) (by exact Nat.le_of_ble_eq_true rfl)
  rw [lg_entry_eq]
  generalize (lg_sl ([.ref a0]) ++ List.replicate (3 - (lg_sl ([.ref a0])).length) Slot.unset).toArray = ls at hl ⊢
  have hl : lv_has ls 3 [(0, .ref a0)] := hl
  unfold f_X9_isSound at hf
  refine lv_iconst (v := (0 : Int32)) hx hb dX9_isSound_0 (by decide) ?_
  refine lv_istore_n (i := 1) (lv' := [(1, .int (0 : Int32)), (0, .ref a0)]) hx hb dX9_isSound_1 rfl hl (by decide) rfl (fun ls hl => ?_)
  exact lp_X9_isSound_2 X hT a0 zz_F _ _ hf hR (lv_sub hl [1, 0] rfl)
def rm_X10_thrown : Room := { frames := 0, cells := 0, slots := 0, locals := 0 }
theorem mf_X10_thrown : zz_Mf yX10_thrown cX10_thrown 1 (some .int) 0 := ⟨q_1362, q_11, by decide +kernel, by decide +kernel, by decide +kernel⟩
set_option maxHeartbeats 4000000 in
set_option maxRecDepth 100000 in
theorem mt_X10_thrown {D : va_G} {dA : Nat → ClassId} {base t0 : Nat} {l : Launch} (hT : l.stackTraces = false) (a0 : Nat) (h : zz_H) (n : Nat) {r0 : Int32} (hf : f_X10_thrown a0 h = some r0) : zz_M D dA base t0 l yX10_thrown cX10_thrown 1 (some .int) rm_X10_thrown [.ref a0] h n (some (.int r0)) h n := by
  refine Met.ofW (cc := cX10_thrown) (maxL := 1) (ret := (some .int)) (by decide +kernel) rfl ?_
  intro p e s m args below meth c s₁ B hml hv
  obtain ⟨rfl, hP, hK⟩ := hv
  have X : zz_X D dA base t0 "SpringseatModel" cX10_thrown 1 (some .int) l p s m meth c := ⟨B.exec, B.bytes, hml, B.returns, findClass_of_methodNamed B.named, B.notSynchronized, hT, by rw [hP.1]; exact hP.2.1, hK⟩
  have hx := X.1
  have hb := X.2.1
  have hown := X.2.2.2.2.1
  have hR : zz_R D dA base h n s s.heap [] := ⟨hP, va_S.rf⟩
  have hl := lv_entry ([.ref a0]) (n := 1) (by exact Nat.le_of_ble_eq_true rfl)
  rw [lg_entry_eq]
  generalize (lg_sl ([.ref a0]) ++ List.replicate (1 - (lg_sl ([.ref a0])).length) Slot.unset).toArray = ls at hl ⊢
  have hl : lv_has ls 1 [(0, .ref a0)] := hl
  unfold f_X10_thrown at hf
  refine lv_aload_n hx hb dX10_thrown_0 rfl (lv_at hl 0 rfl) ?_
  refine zr_gi X hR (r := (some a0)) fl_X10_111 dX10_thrown_1 hf (fun v1 hf => ?_)
  cases hf
  exact zr_iret X hR dX10_thrown_4 (Nat.le_of_ble_eq_true rfl) (Nat.le_of_ble_eq_true rfl)
def rm_X10_isThrown : Room := { frames := 0, cells := 0, slots := 0, locals := 0 }
theorem mf_X10_isThrown : zz_Mf yX10_isThrown cX10_isThrown 3 (some .boolean) 2 := ⟨q_1373, q_11, by decide +kernel, by decide +kernel, by decide +kernel⟩
set_option maxHeartbeats 4000000 in
set_option maxRecDepth 100000 in
theorem bk_X10_isThrown_10 {D : va_G} {dA : Nat → ClassId} {base t0 : Nat} {l : Launch} {p : Program} {e : Env} {s : State} {m : MethodId} {args : Array Value} {below : List Frame} {meth : Method} {c : Code} (X : zz_X D dA base t0 "SpringseatModel" cX10_isThrown 3 (some .boolean) l p s m meth c) (hT : l.stackTraces = false) {x1 : Int32} {s0 : Int32} {s1 : (Option Nat)} {h : zz_H} {n : Nat} {H : Heap} {locs : List Loc} {ls : Array Slot} (hR : zz_R D dA base h n s H locs) (hl : lv_has ls 3 [(1, .int x1)]) {r0 : Int32} {hF : zz_H} (hf : f_X10_isThrown_10 x1 s0 s1 h = some (r0, hF)) : W p l e rm_X10_isThrown s m args below meth c H locs 0 0 (MQ below (zz_Qc D dA base (some (.int r0)) hF n) args s rm_X10_isThrown.cells rm_X10_isThrown.slots (fun q => base ≤ q)) (F0 m 10 ls [.int s0, va_rf s1]) := by
  have hx := X.1
  have hb := X.2.1
  have hown := X.2.2.2.2.1
  unfold f_X10_isThrown_10 at hf
  refine zr_p X hR (r := s1) (v := .int s0) fl_X10_111 rfl dX10_isThrown_10 rfl rfl hf (fun h10 H locs hf hR => ?_)
  refine lv_iload_n hx hb dX10_isThrown_13 rfl (lv_at hl 0 rfl) ?_
  obtain ⟨hz14, hf⟩ := zz_gz_i hf
  cases hf
  exact zr_zret X hR (zz_nz hz14) dX10_isThrown_14 (Nat.le_of_ble_eq_true rfl) (Nat.le_of_ble_eq_true rfl)
set_option maxHeartbeats 4000000 in
set_option maxRecDepth 100000 in
theorem mt_X10_isThrown {D : va_G} {dA : Nat → ClassId} {base t0 : Nat} {l : Launch} (hT : l.stackTraces = false) (a0 : Nat) (x1 : Int32) (x2 : Int32) (h : zz_H) (n : Nat) {r0 : Int32} {hF : zz_H} (hf : f_X10_isThrown a0 x1 x2 h = some (r0, hF)) : zz_M D dA base t0 l yX10_isThrown cX10_isThrown 3 (some .boolean) rm_X10_isThrown [.ref a0, .int x1, .int x2] h n (some (.int r0)) hF n := by
  refine Met.ofW (cc := cX10_isThrown) (maxL := 3) (ret := (some .boolean)) (by decide +kernel) rfl ?_
  intro p e s m args below meth c s₁ B hml hv
  obtain ⟨rfl, hP, hK⟩ := hv
  have X : zz_X D dA base t0 "SpringseatModel" cX10_isThrown 3 (some .boolean) l p s m meth c := ⟨B.exec, B.bytes, hml, B.returns, findClass_of_methodNamed B.named, B.notSynchronized, hT, by rw [hP.1]; exact hP.2.1, hK⟩
  have hx := X.1
  have hb := X.2.1
  have hown := X.2.2.2.2.1
  have hR : zz_R D dA base h n s s.heap [] := ⟨hP, va_S.rf⟩
  have hl := lv_entry ([.ref a0, .int x1, .int x2]) (n := 3) (by exact Nat.le_of_ble_eq_true rfl)
  rw [lg_entry_eq]
  generalize (lg_sl ([.ref a0, .int x1, .int x2]) ++ List.replicate (3 - (lg_sl ([.ref a0, .int x1, .int x2])).length) Slot.unset).toArray = ls at hl ⊢
  have hl : lv_has ls 3 [(0, .ref a0), (1, .int x1), (2, .int x2)] := hl
  unfold f_X10_isThrown at hf
  refine lv_aload_n hx hb dX10_isThrown_0 rfl (lv_at hl 0 rfl) ?_
  refine lv_iload_n hx hb dX10_isThrown_1 rfl (lv_at hl 1 rfl) ?_
  refine lv_if_eq (tgt := 9) hx hb dX10_isThrown_2 (by decide) (fun c2 => ?_) (fun c2 => ?_)
  · replace hf := zz_pos c2 hf
    refine lv_iconst (v := (0 : Int32)) hx hb dX10_isThrown_9 (by decide) ?_
    exact bk_X10_isThrown_10 X hT hR (lv_sub hl [1] rfl) hf
  · replace hf := zz_neg c2 hf
    refine lv_iload_n hx hb dX10_isThrown_5 rfl (lv_at hl 2 rfl) ?_
    refine lv_goto (tgt := 10) hx hb dX10_isThrown_6 (by decide) ?_
    exact bk_X10_isThrown_10 X hT hR (lv_sub hl [1] rfl) hf
def rm_X10_isIn : Room := { frames := 0, cells := 0, slots := 0, locals := 0 }
theorem mf_X10_isIn : zz_Mf yX10_isIn cX10_isIn 3 (some .boolean) 3 := ⟨q_1369, q_11, by decide +kernel, by decide +kernel, by decide +kernel⟩
set_option maxHeartbeats 4000000 in
set_option maxRecDepth 100000 in
theorem bk_X10_isIn_15 {D : va_G} {dA : Nat → ClassId} {base t0 : Nat} {l : Launch} {p : Program} {e : Env} {s : State} {m : MethodId} {args : Array Value} {below : List Frame} {meth : Method} {c : Code} (X : zz_X D dA base t0 "SpringseatModel" cX10_isIn 3 (some .boolean) l p s m meth c) (hT : l.stackTraces = false) {s0 : Int32} {h : zz_H} {n : Nat} {H : Heap} {locs : List Loc} {ls : Array Slot} (hR : zz_R D dA base h n s H locs) (hl : lv_has ls 3 []) {r0 : Int32} (hf : f_X10_isIn_15 s0 h = some r0) : W p l e rm_X10_isIn s m args below meth c H locs 0 0 (MQ below (zz_Qc D dA base (some (.int r0)) h n) args s rm_X10_isIn.cells rm_X10_isIn.slots (fun q => base ≤ q)) (F0 m 15 ls [.int s0]) := by
  have hx := X.1
  have hb := X.2.1
  have hown := X.2.2.2.2.1
  unfold f_X10_isIn_15 at hf
  obtain ⟨hz15, hf⟩ := zz_gz_i hf
  cases hf
  exact zr_zret X hR (zz_nz hz15) dX10_isIn_15 (Nat.le_of_ble_eq_true rfl) (Nat.le_of_ble_eq_true rfl)
set_option maxHeartbeats 4000000 in
set_option maxRecDepth 100000 in
theorem bk_X10_isIn_14 {D : va_G} {dA : Nat → ClassId} {base t0 : Nat} {l : Launch} {p : Program} {e : Env} {s : State} {m : MethodId} {args : Array Value} {below : List Frame} {meth : Method} {c : Code} (X : zz_X D dA base t0 "SpringseatModel" cX10_isIn 3 (some .boolean) l p s m meth c) (hT : l.stackTraces = false) {h : zz_H} {n : Nat} {H : Heap} {locs : List Loc} {ls : Array Slot} (hR : zz_R D dA base h n s H locs) (hl : lv_has ls 3 []) {r0 : Int32} (hf : f_X10_isIn_14 h = some r0) : W p l e rm_X10_isIn s m args below meth c H locs 0 0 (MQ below (zz_Qc D dA base (some (.int r0)) h n) args s rm_X10_isIn.cells rm_X10_isIn.slots (fun q => base ≤ q)) (F0 m 14 ls []) := by
  have hx := X.1
  have hb := X.2.1
  have hown := X.2.2.2.2.1
  unfold f_X10_isIn_14 at hf
  refine lv_iconst (v := (0 : Int32)) hx hb dX10_isIn_14 (by decide) ?_
  exact bk_X10_isIn_15 X hT hR (lv_sub hl [] rfl) hf
set_option maxHeartbeats 4000000 in
set_option maxRecDepth 100000 in
theorem mt_X10_isIn {D : va_G} {dA : Nat → ClassId} {base t0 : Nat} {l : Launch} (hT : l.stackTraces = false) (x0 : Int32) (x1 : Int32) (x2 : Int32) (h : zz_H) (n : Nat) {r0 : Int32} (hf : f_X10_isIn x0 x1 x2 h = some r0) : zz_M D dA base t0 l yX10_isIn cX10_isIn 3 (some .boolean) rm_X10_isIn [.int x0, .int x1, .int x2] h n (some (.int r0)) h n := by
  refine Met.ofW (cc := cX10_isIn) (maxL := 3) (ret := (some .boolean)) (by decide +kernel) rfl ?_
  intro p e s m args below meth c s₁ B hml hv
  obtain ⟨rfl, hP, hK⟩ := hv
  have X : zz_X D dA base t0 "SpringseatModel" cX10_isIn 3 (some .boolean) l p s m meth c := ⟨B.exec, B.bytes, hml, B.returns, findClass_of_methodNamed B.named, B.notSynchronized, hT, by rw [hP.1]; exact hP.2.1, hK⟩
  have hx := X.1
  have hb := X.2.1
  have hown := X.2.2.2.2.1
  have hR : zz_R D dA base h n s s.heap [] := ⟨hP, va_S.rf⟩
  have hl := lv_entry ([.int x0, .int x1, .int x2]) (n := 3) (by exact Nat.le_of_ble_eq_true rfl)
  rw [lg_entry_eq]
  generalize (lg_sl ([.int x0, .int x1, .int x2]) ++ List.replicate (3 - (lg_sl ([.int x0, .int x1, .int x2])).length) Slot.unset).toArray = ls at hl ⊢
  have hl : lv_has ls 3 [(0, .int x0), (1, .int x1), (2, .int x2)] := hl
  unfold f_X10_isIn at hf
  refine lv_iload_n hx hb dX10_isIn_0 rfl (lv_at hl 0 rfl) ?_
  refine lv_iload_n hx hb dX10_isIn_1 rfl (lv_at hl 1 rfl) ?_
  refine lv_icmp_lt (tgt := 14) hx hb dX10_isIn_2 (by decide) (fun c2 => ?_) (fun c2 => ?_)
  · replace hf := zz_pos c2 hf
    exact bk_X10_isIn_14 X hT hR (lv_sub hl [] rfl) hf
  · replace hf := zz_neg c2 hf
    refine lv_iload_n hx hb dX10_isIn_5 rfl (lv_at hl 0 rfl) ?_
    refine lv_iload_n hx hb dX10_isIn_6 rfl (lv_at hl 2 rfl) ?_
    refine lv_icmp_gt (tgt := 14) hx hb dX10_isIn_7 (by decide) (fun c7 => ?_) (fun c7 => ?_)
    · replace hf := zz_pos c7 hf
      exact bk_X10_isIn_14 X hT hR (lv_sub hl [] rfl) hf
    · replace hf := zz_neg c7 hf
      refine lv_iconst (v := (1 : Int32)) hx hb dX10_isIn_10 (by decide) ?_
      refine lv_goto (tgt := 15) hx hb dX10_isIn_11 (by decide) ?_
      exact bk_X10_isIn_15 X hT hR (lv_sub hl [] rfl) hf
def rm_X10_isNoSeat : Room := { frames := 1, cells := 0, slots := 0, locals := 22 }
theorem mf_X10_isNoSeat : zz_Mf yX10_isNoSeat cX10_isNoSeat 2 (some .boolean) 1 := ⟨q_1381, q_11, by decide +kernel, by decide +kernel, by decide +kernel⟩
set_option maxHeartbeats 4000000 in
set_option maxRecDepth 100000 in
theorem bk_X10_isNoSeat_19 {D : va_G} {dA : Nat → ClassId} {base t0 : Nat} {l : Launch} {p : Program} {e : Env} {s : State} {m : MethodId} {args : Array Value} {below : List Frame} {meth : Method} {c : Code} (X : zz_X D dA base t0 "SpringseatModel" cX10_isNoSeat 2 (some .boolean) l p s m meth c) (hT : l.stackTraces = false) {s0 : Int32} {h : zz_H} {n : Nat} {H : Heap} {locs : List Loc} {ls : Array Slot} (hR : zz_R D dA base h n s H locs) (hl : lv_has ls 2 []) {r0 : Int32} (hf : f_X10_isNoSeat_19 s0 h = some r0) : W p l e rm_X10_isNoSeat s m args below meth c H locs 0 0 (MQ below (zz_Qc D dA base (some (.int r0)) h n) args s rm_X10_isNoSeat.cells rm_X10_isNoSeat.slots (fun q => base ≤ q)) (F0 m 19 ls [.int s0]) := by
  have hx := X.1
  have hb := X.2.1
  have hown := X.2.2.2.2.1
  unfold f_X10_isNoSeat_19 at hf
  obtain ⟨hz19, hf⟩ := zz_gz_i hf
  cases hf
  exact zr_zret X hR (zz_nz hz19) dX10_isNoSeat_19 (Nat.le_of_ble_eq_true rfl) (Nat.le_of_ble_eq_true rfl)
set_option maxHeartbeats 4000000 in
set_option maxRecDepth 100000 in
theorem mt_X10_isNoSeat {D : va_G} {dA : Nat → ClassId} {base t0 : Nat} {l : Launch} (hT : l.stackTraces = false) (a0 : Nat) (x1 : Int32) (h : zz_H) (n : Nat) {r0 : Int32} (hf : f_X10_isNoSeat a0 x1 h = some r0) : zz_M D dA base t0 l yX10_isNoSeat cX10_isNoSeat 2 (some .boolean) rm_X10_isNoSeat [.ref a0, .int x1] h n (some (.int r0)) h n := by
  refine Met.ofW (cc := cX10_isNoSeat) (maxL := 2) (ret := (some .boolean)) (by decide +kernel) rfl ?_
  intro p e s m args below meth c s₁ B hml hv
  obtain ⟨rfl, hP, hK⟩ := hv
  have X : zz_X D dA base t0 "SpringseatModel" cX10_isNoSeat 2 (some .boolean) l p s m meth c := ⟨B.exec, B.bytes, hml, B.returns, findClass_of_methodNamed B.named, B.notSynchronized, hT, by rw [hP.1]; exact hP.2.1, hK⟩
  have hx := X.1
  have hb := X.2.1
  have hown := X.2.2.2.2.1
  have hR : zz_R D dA base h n s s.heap [] := ⟨hP, va_S.rf⟩
  have hl := lv_entry ([.ref a0, .int x1]) (n := 2) (by exact Nat.le_of_ble_eq_true rfl)
  rw [lg_entry_eq]
  generalize (lg_sl ([.ref a0, .int x1]) ++ List.replicate (2 - (lg_sl ([.ref a0, .int x1])).length) Slot.unset).toArray = ls at hl ⊢
  have hl : lv_has ls 2 [(0, .ref a0), (1, .int x1)] := hl
  unfold f_X10_isNoSeat at hf
  refine lv_iload_n hx hb dX10_isNoSeat_0 rfl (lv_at hl 1 rfl) ?_
  refine lv_iconst (v := (0 : Int32)) hx hb dX10_isNoSeat_1 (by decide) ?_
  refine lv_aload_n hx hb dX10_isNoSeat_2 rfl (lv_at hl 0 rfl) ?_
  refine zr_gi X hR (r := (some a0)) fl_X10_115 dX10_isNoSeat_3 hf (fun v3 hf => ?_)
  refine lv_iconst (v := (1 : Int32)) hx hb dX10_isNoSeat_6 (by decide) ?_
  refine lv_isub hx hb dX10_isNoSeat_7 ?_
  obtain ⟨v8, hv8, hf⟩ := zz_b_i hf
  refine zr_cS X hR hl.1 (As := [.int x1, .int (0 : Int32), .int (v3 - (1 : Int32))]) (rest := []) (mt_X10_isIn hT x1 (0 : Int32) (v3 - (1 : Int32)) h n hv8) mf_X10_isIn q_1367 q_1368 ⟨Nat.le_of_ble_eq_true rfl, Nat.le_of_ble_eq_true rfl⟩ ⟨Nat.le_of_ble_eq_true rfl, Nat.le_of_ble_eq_true rfl⟩ rfl (Nat.le_of_ble_eq_true rfl) dX10_isNoSeat_8 (fun H locs hR => ?_)
  refine W.eq (g2 := F0 m 11 ls [.int v8]) rfl ?_
  refine lv_if_ne (tgt := 18) hx hb dX10_isNoSeat_11 (by decide) (fun c11 => ?_) (fun c11 => ?_)
  · replace hf := zz_neg c11 hf
    refine lv_iconst (v := (0 : Int32)) hx hb dX10_isNoSeat_18 (by decide) ?_
    exact bk_X10_isNoSeat_19 X hT hR (lv_sub hl [] rfl) hf
  · replace hf := zz_pos c11 hf
    refine lv_iconst (v := (1 : Int32)) hx hb dX10_isNoSeat_14 (by decide) ?_
    refine lv_goto (tgt := 19) hx hb dX10_isNoSeat_15 (by decide) ?_
    exact bk_X10_isNoSeat_19 X hT hR (lv_sub hl [] rfl) hf
def rm_X10_isNoCell : Room := { frames := 2, cells := 0, slots := 0, locals := 43 }
theorem mf_X10_isNoCell : zz_Mf yX10_isNoCell cX10_isNoCell 3 (some .boolean) 2 := ⟨q_1416, q_11, by decide +kernel, by decide +kernel, by decide +kernel⟩
set_option maxHeartbeats 4000000 in
set_option maxRecDepth 100000 in
theorem bk_X10_isNoCell_43 {D : va_G} {dA : Nat → ClassId} {base t0 : Nat} {l : Launch} {p : Program} {e : Env} {s : State} {m : MethodId} {args : Array Value} {below : List Frame} {meth : Method} {c : Code} (X : zz_X D dA base t0 "SpringseatModel" cX10_isNoCell 3 (some .boolean) l p s m meth c) (hT : l.stackTraces = false) {s0 : Int32} {h : zz_H} {n : Nat} {H : Heap} {locs : List Loc} {ls : Array Slot} (hR : zz_R D dA base h n s H locs) (hl : lv_has ls 3 []) {r0 : Int32} (hf : f_X10_isNoCell_43 s0 h = some r0) : W p l e rm_X10_isNoCell s m args below meth c H locs 0 0 (MQ below (zz_Qc D dA base (some (.int r0)) h n) args s rm_X10_isNoCell.cells rm_X10_isNoCell.slots (fun q => base ≤ q)) (F0 m 43 ls [.int s0]) := by
  have hx := X.1
  have hb := X.2.1
  have hown := X.2.2.2.2.1
  unfold f_X10_isNoCell_43 at hf
  obtain ⟨hz43, hf⟩ := zz_gz_i hf
  cases hf
  exact zr_zret X hR (zz_nz hz43) dX10_isNoCell_43 (Nat.le_of_ble_eq_true rfl) (Nat.le_of_ble_eq_true rfl)
set_option maxHeartbeats 4000000 in
set_option maxRecDepth 100000 in
theorem bk_X10_isNoCell_38 {D : va_G} {dA : Nat → ClassId} {base t0 : Nat} {l : Launch} {p : Program} {e : Env} {s : State} {m : MethodId} {args : Array Value} {below : List Frame} {meth : Method} {c : Code} (X : zz_X D dA base t0 "SpringseatModel" cX10_isNoCell 3 (some .boolean) l p s m meth c) (hT : l.stackTraces = false) {h : zz_H} {n : Nat} {H : Heap} {locs : List Loc} {ls : Array Slot} (hR : zz_R D dA base h n s H locs) (hl : lv_has ls 3 []) {r0 : Int32} (hf : f_X10_isNoCell_38 h = some r0) : W p l e rm_X10_isNoCell s m args below meth c H locs 0 0 (MQ below (zz_Qc D dA base (some (.int r0)) h n) args s rm_X10_isNoCell.cells rm_X10_isNoCell.slots (fun q => base ≤ q)) (F0 m 38 ls []) := by
  have hx := X.1
  have hb := X.2.1
  have hown := X.2.2.2.2.1
  unfold f_X10_isNoCell_38 at hf
  refine lv_iconst (v := (1 : Int32)) hx hb dX10_isNoCell_38 (by decide) ?_
  refine lv_goto (tgt := 43) hx hb dX10_isNoCell_39 (by decide) ?_
  exact bk_X10_isNoCell_43 X hT hR (lv_sub hl [] rfl) hf
set_option maxHeartbeats 4000000 in
set_option maxRecDepth 100000 in
theorem mt_X10_isNoCell {D : va_G} {dA : Nat → ClassId} {base t0 : Nat} {l : Launch} (hT : l.stackTraces = false) (a0 : Nat) (x1 : Int32) (x2 : Int32) (h : zz_H) (n : Nat) {r0 : Int32} (hf : f_X10_isNoCell a0 x1 x2 h = some r0) : zz_M D dA base t0 l yX10_isNoCell cX10_isNoCell 3 (some .boolean) rm_X10_isNoCell [.ref a0, .int x1, .int x2] h n (some (.int r0)) h n := by
  refine Met.ofW (cc := cX10_isNoCell) (maxL := 3) (ret := (some .boolean)) (by decide +kernel) rfl ?_
  intro p e s m args below meth c s₁ B hml hv
  obtain ⟨rfl, hP, hK⟩ := hv
  have X : zz_X D dA base t0 "SpringseatModel" cX10_isNoCell 3 (some .boolean) l p s m meth c := ⟨B.exec, B.bytes, hml, B.returns, findClass_of_methodNamed B.named, B.notSynchronized, hT, by rw [hP.1]; exact hP.2.1, hK⟩
  have hx := X.1
  have hb := X.2.1
  have hown := X.2.2.2.2.1
  have hR : zz_R D dA base h n s s.heap [] := ⟨hP, va_S.rf⟩
  have hl := lv_entry ([.ref a0, .int x1, .int x2]) (n := 3) (by exact Nat.le_of_ble_eq_true rfl)
  rw [lg_entry_eq]
  generalize (lg_sl ([.ref a0, .int x1, .int x2]) ++ List.replicate (3 - (lg_sl ([.ref a0, .int x1, .int x2])).length) Slot.unset).toArray = ls at hl ⊢
  have hl : lv_has ls 3 [(0, .ref a0), (1, .int x1), (2, .int x2)] := hl
  unfold f_X10_isNoCell at hf
  refine lv_aload_n hx hb dX10_isNoCell_0 rfl (lv_at hl 0 rfl) ?_
  refine lv_iload_n hx hb dX10_isNoCell_1 rfl (lv_at hl 1 rfl) ?_
  obtain ⟨fs2, ho2, hf⟩ := zz_obS_i hf
  obtain ⟨v2, hv2, hf⟩ := zz_b_i hf
  refine zr_cV X hR hl.1 (As := [.int x1]) (rest := []) (C := RX10) (T := TX10) (N := 34) (mt_X10_isNoSeat hT a0 x1 h n hv2) rfl ho2 mf_X10_isNoSeat q_1378 q_1380 qs_18 ⟨Nat.le_of_ble_eq_true rfl, Nat.le_of_ble_eq_true rfl⟩ ⟨Nat.le_of_ble_eq_true rfl, Nat.le_of_ble_eq_true rfl⟩ rfl (Nat.le_of_ble_eq_true rfl) dX10_isNoCell_2 (fun H locs hR => ?_)
  refine W.eq (g2 := F0 m 5 ls [.int v2]) rfl ?_
  refine lv_if_ne (tgt := 38) hx hb dX10_isNoCell_5 (by decide) (fun c5 => ?_) (fun c5 => ?_)
  · replace hf := zz_neg c5 hf
    exact bk_X10_isNoCell_38 X hT hR (lv_sub hl [] rfl) hf
  · replace hf := zz_pos c5 hf
    refine lv_iload_n hx hb dX10_isNoCell_8 rfl (lv_at hl 2 rfl) ?_
    refine lv_if_lt (tgt := 38) hx hb dX10_isNoCell_9 (by decide) (fun c9 => ?_) (fun c9 => ?_)
    · replace hf := zz_pos c9 hf
      exact bk_X10_isNoCell_38 X hT hR (lv_sub hl [] rfl) hf
    · replace hf := zz_neg c9 hf
      refine lv_iload_n hx hb dX10_isNoCell_12 rfl (lv_at hl 2 rfl) ?_
      refine lv_bipush (v := (10 : Int32)) hx hb dX10_isNoCell_13 (by decide) ?_
      obtain ⟨hne15, hf⟩ := zz_dv_i hf
      refine lv_idiv hx hb dX10_isNoCell_15 hne15 ?_
      refine lv_aload_n hx hb dX10_isNoCell_16 rfl (lv_at hl 0 rfl) ?_
      refine zr_gq X hR (r := (some a0)) fl_X10_9 dX10_isNoCell_17 hf (fun v17 hf => ?_)
      refine lv_iload_n hx hb dX10_isNoCell_20 rfl (lv_at hl 1 rfl) ?_
      refine zr_iald X hR (r := v17) dX10_isNoCell_21 hf (fun v21 hf => ?_)
      refine lv_icmp_ge (tgt := 38) hx hb dX10_isNoCell_22 (by decide) (fun c22 => ?_) (fun c22 => ?_)
      · replace hf := zz_pos c22 hf
        exact bk_X10_isNoCell_38 X hT hR (lv_sub hl [] rfl) hf
      · replace hf := zz_neg c22 hf
        refine lv_iload_n hx hb dX10_isNoCell_25 rfl (lv_at hl 2 rfl) ?_
        refine lv_bipush (v := (10 : Int32)) hx hb dX10_isNoCell_26 (by decide) ?_
        obtain ⟨hne28, hf⟩ := zz_dv_i hf
        refine lv_irem hx hb dX10_isNoCell_28 hne28 ?_
        refine lv_aload_n hx hb dX10_isNoCell_29 rfl (lv_at hl 0 rfl) ?_
        refine zr_gq X hR (r := (some a0)) fl_X10_13 dX10_isNoCell_30 hf (fun v30 hf => ?_)
        refine lv_iload_n hx hb dX10_isNoCell_33 rfl (lv_at hl 1 rfl) ?_
        refine zr_iald X hR (r := v30) dX10_isNoCell_34 hf (fun v34 hf => ?_)
        refine lv_icmp_lt (tgt := 42) hx hb dX10_isNoCell_35 (by decide) (fun c35 => ?_) (fun c35 => ?_)
        · replace hf := zz_pos c35 hf
          refine lv_iconst (v := (0 : Int32)) hx hb dX10_isNoCell_42 (by decide) ?_
          exact bk_X10_isNoCell_43 X hT hR (lv_sub hl [] rfl) hf
        · replace hf := zz_neg c35 hf
          exact bk_X10_isNoCell_38 X hT hR (lv_sub hl [] rfl) hf
def rm_X10_seat : Room := { frames := 1, cells := 0, slots := 0, locals := 22 }
theorem mf_X10_seat : zz_Mf yX10_seat cX10_seat 3 (some .int) 2 := ⟨q_1366, q_11, by decide +kernel, by decide +kernel, by decide +kernel⟩
set_option maxHeartbeats 4000000 in
set_option maxRecDepth 100000 in
theorem bk_X10_seat_54 {D : va_G} {dA : Nat → ClassId} {base t0 : Nat} {l : Launch} {p : Program} {e : Env} {s : State} {m : MethodId} {args : Array Value} {below : List Frame} {meth : Method} {c : Code} (X : zz_X D dA base t0 "SpringseatModel" cX10_seat 3 (some .int) l p s m meth c) (hT : l.stackTraces = false) {h : zz_H} {n : Nat} {H : Heap} {locs : List Loc} {ls : Array Slot} (hR : zz_R D dA base h n s H locs) (hl : lv_has ls 3 []) {r0 : Int32} {hF : zz_H} (hf : f_X10_seat_54 h = some (r0, hF)) : W p l e rm_X10_seat s m args below meth c H locs 0 0 (MQ below (zz_Qc D dA base (some (.int r0)) hF n) args s rm_X10_seat.cells rm_X10_seat.slots (fun q => base ≤ q)) (F0 m 54 ls []) := by
  have hx := X.1
  have hb := X.2.1
  have hown := X.2.2.2.2.1
  unfold f_X10_seat_54 at hf
  refine lv_iconst (v := (0 : Int32)) hx hb dX10_seat_54 (by decide) ?_
  cases hf
  exact zr_iret X hR dX10_seat_55 (Nat.le_of_ble_eq_true rfl) (Nat.le_of_ble_eq_true rfl)
set_option maxHeartbeats 4000000 in
set_option maxRecDepth 100000 in
theorem bk_X10_seat_47 {D : va_G} {dA : Nat → ClassId} {base t0 : Nat} {l : Launch} {p : Program} {e : Env} {s : State} {m : MethodId} {args : Array Value} {below : List Frame} {meth : Method} {c : Code} (X : zz_X D dA base t0 "SpringseatModel" cX10_seat 3 (some .int) l p s m meth c) (hT : l.stackTraces = false) {a0 : Nat} {x1 : Int32} {x2 : Int32} {s0 : Int32} {s1 : (Option Nat)} {h : zz_H} {n : Nat} {H : Heap} {locs : List Loc} {ls : Array Slot} (hR : zz_R D dA base h n s H locs) (hl : lv_has ls 3 [(0, .ref a0), (1, .int x1), (2, .int x2)]) {r0 : Int32} {hF : zz_H} (hf : f_X10_seat_47 a0 x1 x2 s0 s1 h = some (r0, hF)) : W p l e rm_X10_seat s m args below meth c H locs 0 0 (MQ below (zz_Qc D dA base (some (.int r0)) hF n) args s rm_X10_seat.cells rm_X10_seat.slots (fun q => base ≤ q)) (F0 m 47 ls [.int s0, va_rf s1]) := by
  have hx := X.1
  have hb := X.2.1
  have hown := X.2.2.2.2.1
  unfold f_X10_seat_47 at hf
  refine lv_iconst (v := (2 : Int32)) hx hb dX10_seat_47 (by decide) ?_
  obtain ⟨b48, fs48, hr48, ho48, hf⟩ := zz_ob_i hf
  obtain ⟨v48, h48, hv48, hf⟩ := zz_b1_i hf
  refine zr_cV X hR hl.1 (As := [.int s0, .int (2 : Int32)]) (rest := []) (C := RX10) (T := TX10) (N := 34) (mt_X10_isThrown hT b48 s0 (2 : Int32) h n hv48) rfl ho48 mf_X10_isThrown q_1370 q_1372 qs_17 ⟨Nat.le_of_ble_eq_true rfl, Nat.le_of_ble_eq_true rfl⟩ ⟨Nat.le_of_ble_eq_true rfl, Nat.le_of_ble_eq_true rfl⟩ (by rw [hr48]; rfl) (Nat.le_of_ble_eq_true rfl) dX10_seat_48 (fun H locs hR => ?_)
  refine W.eq (g2 := F0 m 51 ls [.int v48]) rfl ?_
  refine lv_if_eq (tgt := 56) hx hb dX10_seat_51 (by decide) (fun c51 => ?_) (fun c51 => ?_)
  · replace hf := zz_pos c51 hf
    refine lv_aload_n hx hb dX10_seat_56 rfl (lv_at hl 0 rfl) ?_
    refine zr_gq X hR (r := (some a0)) fl_X10_9 dX10_seat_57 hf (fun v57 hf => ?_)
    refine lv_aload_n hx hb dX10_seat_60 rfl (lv_at hl 0 rfl) ?_
    refine zr_gi X hR (r := (some a0)) fl_X10_115 dX10_seat_61 hf (fun v61 hf => ?_)
    refine lv_iload_n hx hb dX10_seat_64 rfl (lv_at hl 1 rfl) ?_
    refine zr_iast X hR (r := v57) dX10_seat_65 hf (fun h65 H locs hf hR => ?_)
    refine lv_aload_n hx hb dX10_seat_66 rfl (lv_at hl 0 rfl) ?_
    refine zr_gq X hR (r := (some a0)) fl_X10_13 dX10_seat_67 hf (fun v67 hf => ?_)
    refine lv_aload_n hx hb dX10_seat_70 rfl (lv_at hl 0 rfl) ?_
    refine zr_gi X hR (r := (some a0)) fl_X10_115 dX10_seat_71 hf (fun v71 hf => ?_)
    refine lv_iload_n hx hb dX10_seat_74 rfl (lv_at hl 2 rfl) ?_
    refine zr_iast X hR (r := v67) dX10_seat_75 hf (fun h75 H locs hf hR => ?_)
    refine lv_aload_n hx hb dX10_seat_76 rfl (lv_at hl 0 rfl) ?_
    refine zr_gq X hR (r := (some a0)) fl_X10_83 dX10_seat_77 hf (fun v77 hf => ?_)
    refine lv_aload_n hx hb dX10_seat_80 rfl (lv_at hl 0 rfl) ?_
    refine zr_gi X hR (r := (some a0)) fl_X10_115 dX10_seat_81 hf (fun v81 hf => ?_)
    refine lv_bipush (v := (20 : Int32)) hx hb dX10_seat_84 (by decide) ?_
    refine zr_iast X hR (r := v77) dX10_seat_86 hf (fun h86 H locs hf hR => ?_)
    refine lv_aload_n hx hb dX10_seat_87 rfl (lv_at hl 0 rfl) ?_
    refine lv_dup hx hb dX10_seat_88 rfl ?_
    refine zr_gi X hR (r := (some a0)) fl_X10_115 dX10_seat_89 hf (fun v89 hf => ?_)
    refine lv_iconst (v := (1 : Int32)) hx hb dX10_seat_92 (by decide) ?_
    refine lv_iadd hx hb dX10_seat_93 ?_
    refine zr_p X hR (r := (some a0)) (v := .int (v89 + (1 : Int32))) fl_X10_115 rfl dX10_seat_94 rfl rfl hf (fun h94 H locs hf hR => ?_)
    refine lv_aload_n hx hb dX10_seat_97 rfl (lv_at hl 0 rfl) ?_
    refine zr_gi X hR (r := (some a0)) fl_X10_115 dX10_seat_98 hf (fun v98 hf => ?_)
    refine lv_iconst (v := (1 : Int32)) hx hb dX10_seat_101 (by decide) ?_
    refine lv_isub hx hb dX10_seat_102 ?_
    cases hf
    exact zr_iret X hR dX10_seat_103 (Nat.le_of_ble_eq_true rfl) (Nat.le_of_ble_eq_true rfl)
  · replace hf := zz_neg c51 hf
    exact bk_X10_seat_54 X hT hR (lv_sub hl [] rfl) hf
set_option maxHeartbeats 4000000 in
set_option maxRecDepth 100000 in
theorem bk_X10_seat_26 {D : va_G} {dA : Nat → ClassId} {base t0 : Nat} {l : Launch} {p : Program} {e : Env} {s : State} {m : MethodId} {args : Array Value} {below : List Frame} {meth : Method} {c : Code} (X : zz_X D dA base t0 "SpringseatModel" cX10_seat 3 (some .int) l p s m meth c) (hT : l.stackTraces = false) {a0 : Nat} {x1 : Int32} {x2 : Int32} {s0 : Int32} {s1 : (Option Nat)} {h : zz_H} {n : Nat} {H : Heap} {locs : List Loc} {ls : Array Slot} (hR : zz_R D dA base h n s H locs) (hl : lv_has ls 3 [(0, .ref a0), (1, .int x1), (2, .int x2)]) {r0 : Int32} {hF : zz_H} (hf : f_X10_seat_26 a0 x1 x2 s0 s1 h = some (r0, hF)) : W p l e rm_X10_seat s m args below meth c H locs 0 0 (MQ below (zz_Qc D dA base (some (.int r0)) hF n) args s rm_X10_seat.cells rm_X10_seat.slots (fun q => base ≤ q)) (F0 m 26 ls [.int s0, va_rf s1]) := by
  have hx := X.1
  have hb := X.2.1
  have hown := X.2.2.2.2.1
  unfold f_X10_seat_26 at hf
  refine lv_iconst (v := (1 : Int32)) hx hb dX10_seat_26 (by decide) ?_
  obtain ⟨b27, fs27, hr27, ho27, hf⟩ := zz_ob_i hf
  obtain ⟨v27, h27, hv27, hf⟩ := zz_b1_i hf
  refine zr_cV X hR hl.1 (As := [.int s0, .int (1 : Int32)]) (rest := []) (C := RX10) (T := TX10) (N := 34) (mt_X10_isThrown hT b27 s0 (1 : Int32) h n hv27) rfl ho27 mf_X10_isThrown q_1370 q_1372 qs_17 ⟨Nat.le_of_ble_eq_true rfl, Nat.le_of_ble_eq_true rfl⟩ ⟨Nat.le_of_ble_eq_true rfl, Nat.le_of_ble_eq_true rfl⟩ (by rw [hr27]; rfl) (Nat.le_of_ble_eq_true rfl) dX10_seat_27 (fun H locs hR => ?_)
  refine W.eq (g2 := F0 m 30 ls [.int v27]) rfl ?_
  refine lv_if_ne (tgt := 54) hx hb dX10_seat_30 (by decide) (fun c30 => ?_) (fun c30 => ?_)
  · replace hf := zz_neg c30 hf
    exact bk_X10_seat_54 X hT hR (lv_sub hl [] rfl) hf
  · replace hf := zz_pos c30 hf
    refine lv_aload_n hx hb dX10_seat_33 rfl (lv_at hl 0 rfl) ?_
    refine lv_aload_n hx hb dX10_seat_34 rfl (lv_at hl 0 rfl) ?_
    refine zr_gi X hR (r := (some a0)) fl_X10_115 dX10_seat_35 hf (fun v35 hf => ?_)
    refine lv_iconst (v := (4 : Int32)) hx hb dX10_seat_38 (by decide) ?_
    refine lv_icmp_ne (tgt := 46) hx hb dX10_seat_39 (by decide) (fun c39 => ?_) (fun c39 => ?_)
    · replace hf := zz_neg c39 hf
      refine lv_iconst (v := (0 : Int32)) hx hb dX10_seat_46 (by decide) ?_
      exact bk_X10_seat_47 X hT hR (lv_sub hl [0, 1, 2] rfl) hf
    · replace hf := zz_pos c39 hf
      refine lv_iconst (v := (1 : Int32)) hx hb dX10_seat_42 (by decide) ?_
      refine lv_goto (tgt := 47) hx hb dX10_seat_43 (by decide) ?_
      exact bk_X10_seat_47 X hT hR (lv_sub hl [0, 1, 2] rfl) hf
set_option maxHeartbeats 4000000 in
set_option maxRecDepth 100000 in
theorem bk_X10_seat_21 {D : va_G} {dA : Nat → ClassId} {base t0 : Nat} {l : Launch} {p : Program} {e : Env} {s : State} {m : MethodId} {args : Array Value} {below : List Frame} {meth : Method} {c : Code} (X : zz_X D dA base t0 "SpringseatModel" cX10_seat 3 (some .int) l p s m meth c) (hT : l.stackTraces = false) {a0 : Nat} {x1 : Int32} {x2 : Int32} {s0 : (Option Nat)} {h : zz_H} {n : Nat} {H : Heap} {locs : List Loc} {ls : Array Slot} (hR : zz_R D dA base h n s H locs) (hl : lv_has ls 3 [(0, .ref a0), (1, .int x1), (2, .int x2)]) {r0 : Int32} {hF : zz_H} (hf : f_X10_seat_21 a0 x1 x2 s0 h = some (r0, hF)) : W p l e rm_X10_seat s m args below meth c H locs 0 0 (MQ below (zz_Qc D dA base (some (.int r0)) hF n) args s rm_X10_seat.cells rm_X10_seat.slots (fun q => base ≤ q)) (F0 m 21 ls [va_rf s0]) := by
  have hx := X.1
  have hb := X.2.1
  have hown := X.2.2.2.2.1
  unfold f_X10_seat_21 at hf
  refine lv_iconst (v := (1 : Int32)) hx hb dX10_seat_21 (by decide) ?_
  refine lv_goto (tgt := 26) hx hb dX10_seat_22 (by decide) ?_
  exact bk_X10_seat_26 X hT hR (lv_sub hl [0, 1, 2] rfl) hf
set_option maxHeartbeats 4000000 in
set_option maxRecDepth 100000 in
theorem mt_X10_seat {D : va_G} {dA : Nat → ClassId} {base t0 : Nat} {l : Launch} (hT : l.stackTraces = false) (a0 : Nat) (x1 : Int32) (x2 : Int32) (h : zz_H) (n : Nat) {r0 : Int32} {hF : zz_H} (hf : f_X10_seat a0 x1 x2 h = some (r0, hF)) : zz_M D dA base t0 l yX10_seat cX10_seat 3 (some .int) rm_X10_seat [.ref a0, .int x1, .int x2] h n (some (.int r0)) hF n := by
  refine Met.ofW (cc := cX10_seat) (maxL := 3) (ret := (some .int)) (by decide +kernel) rfl ?_
  intro p e s m args below meth c s₁ B hml hv
  obtain ⟨rfl, hP, hK⟩ := hv
  have X : zz_X D dA base t0 "SpringseatModel" cX10_seat 3 (some .int) l p s m meth c := ⟨B.exec, B.bytes, hml, B.returns, findClass_of_methodNamed B.named, B.notSynchronized, hT, by rw [hP.1]; exact hP.2.1, hK⟩
  have hx := X.1
  have hb := X.2.1
  have hown := X.2.2.2.2.1
  have hR : zz_R D dA base h n s s.heap [] := ⟨hP, va_S.rf⟩
  have hl := lv_entry ([.ref a0, .int x1, .int x2]) (n := 3) (by exact Nat.le_of_ble_eq_true rfl)
  rw [lg_entry_eq]
  generalize (lg_sl ([.ref a0, .int x1, .int x2]) ++ List.replicate (3 - (lg_sl ([.ref a0, .int x1, .int x2])).length) Slot.unset).toArray = ls at hl ⊢
  have hl : lv_has ls 3 [(0, .ref a0), (1, .int x1), (2, .int x2)] := hl
  unfold f_X10_seat at hf
  refine lv_aload_n hx hb dX10_seat_0 rfl (lv_at hl 0 rfl) ?_
  refine lv_iload_n hx hb dX10_seat_1 rfl (lv_at hl 1 rfl) ?_
  refine lv_iconst (v := (1 : Int32)) hx hb dX10_seat_2 (by decide) ?_
  refine lv_bipush (v := (6 : Int32)) hx hb dX10_seat_3 (by decide) ?_
  obtain ⟨v5, hv5, hf⟩ := zz_b_i hf
  refine zr_cS X hR hl.1 (As := [.int x1, .int (1 : Int32), .int (6 : Int32)]) (rest := [.ref a0]) (mt_X10_isIn hT x1 (1 : Int32) (6 : Int32) h n hv5) mf_X10_isIn q_1367 q_1368 ⟨Nat.le_of_ble_eq_true rfl, Nat.le_of_ble_eq_true rfl⟩ ⟨Nat.le_of_ble_eq_true rfl, Nat.le_of_ble_eq_true rfl⟩ rfl (Nat.le_of_ble_eq_true rfl) dX10_seat_5 (fun H locs hR => ?_)
  refine W.eq (g2 := F0 m 8 ls [.int v5, .ref a0]) rfl ?_
  refine lv_if_eq (tgt := 21) hx hb dX10_seat_8 (by decide) (fun c8 => ?_) (fun c8 => ?_)
  · replace hf := zz_pos c8 hf
    exact bk_X10_seat_21 X hT hR (lv_sub hl [0, 1, 2] rfl) hf
  · replace hf := zz_neg c8 hf
    refine lv_iload_n hx hb dX10_seat_11 rfl (lv_at hl 2 rfl) ?_
    refine lv_iconst (v := (1 : Int32)) hx hb dX10_seat_12 (by decide) ?_
    refine lv_bipush (v := (6 : Int32)) hx hb dX10_seat_13 (by decide) ?_
    obtain ⟨v15, hv15, hf⟩ := zz_b_i hf
    refine zr_cS X hR hl.1 (As := [.int x2, .int (1 : Int32), .int (6 : Int32)]) (rest := [.ref a0]) (mt_X10_isIn hT x2 (1 : Int32) (6 : Int32) h n hv15) mf_X10_isIn q_1367 q_1368 ⟨Nat.le_of_ble_eq_true rfl, Nat.le_of_ble_eq_true rfl⟩ ⟨Nat.le_of_ble_eq_true rfl, Nat.le_of_ble_eq_true rfl⟩ rfl (Nat.le_of_ble_eq_true rfl) dX10_seat_15 (fun H locs hR => ?_)
    refine W.eq (g2 := F0 m 18 ls [.int v15, .ref a0]) rfl ?_
    refine lv_if_ne (tgt := 25) hx hb dX10_seat_18 (by decide) (fun c18 => ?_) (fun c18 => ?_)
    · replace hf := zz_neg c18 hf
      refine lv_iconst (v := (0 : Int32)) hx hb dX10_seat_25 (by decide) ?_
      exact bk_X10_seat_26 X hT hR (lv_sub hl [0, 1, 2] rfl) hf
    · replace hf := zz_pos c18 hf
      exact bk_X10_seat_21 X hT hR (lv_sub hl [0, 1, 2] rfl) hf
def rm_X10_last : Room := { frames := 0, cells := 0, slots := 0, locals := 0 }
theorem mf_X10_last : zz_Mf yX10_last cX10_last 2 (some .char) 1 := ⟨q_1389, q_11, by decide +kernel, by decide +kernel, by decide +kernel⟩
set_option maxHeartbeats 4000000 in
set_option maxRecDepth 100000 in
theorem bk_X10_last_29 {D : va_G} {dA : Nat → ClassId} {base t0 : Nat} {l : Launch} {p : Program} {e : Env} {s : State} {m : MethodId} {args : Array Value} {below : List Frame} {meth : Method} {c : Code} (X : zz_X D dA base t0 "SpringseatModel" cX10_last 2 (some .char) l p s m meth c) (hT : l.stackTraces = false) {s0 : Int32} {h : zz_H} {n : Nat} {H : Heap} {locs : List Loc} {ls : Array Slot} (hR : zz_R D dA base h n s H locs) (hl : lv_has ls 2 []) {r0 : Int32} (hf : f_X10_last_29 s0 h = some r0) : W p l e rm_X10_last s m args below meth c H locs 0 0 (MQ below (zz_Qc D dA base (some (.int r0)) h n) args s rm_X10_last.cells rm_X10_last.slots (fun q => base ≤ q)) (F0 m 29 ls [.int s0]) := by
  have hx := X.1
  have hb := X.2.1
  have hown := X.2.2.2.2.1
  unfold f_X10_last_29 at hf
  obtain ⟨hz29, hf⟩ := zz_gc_i hf
  cases hf
  exact zr_zret X hR (zz_nc hz29) dX10_last_29 (Nat.le_of_ble_eq_true rfl) (Nat.le_of_ble_eq_true rfl)
set_option maxHeartbeats 4000000 in
set_option maxRecDepth 100000 in
theorem mt_X10_last {D : va_G} {dA : Nat → ClassId} {base t0 : Nat} {l : Launch} (hT : l.stackTraces = false) (a0 : Nat) (x1 : Int32) (h : zz_H) (n : Nat) {r0 : Int32} (hf : f_X10_last a0 x1 h = some r0) : zz_M D dA base t0 l yX10_last cX10_last 2 (some .char) rm_X10_last [.ref a0, .int x1] h n (some (.int r0)) h n := by
  refine Met.ofW (cc := cX10_last) (maxL := 2) (ret := (some .char)) (by decide +kernel) rfl ?_
  intro p e s m args below meth c s₁ B hml hv
  obtain ⟨rfl, hP, hK⟩ := hv
  have X : zz_X D dA base t0 "SpringseatModel" cX10_last 2 (some .char) l p s m meth c := ⟨B.exec, B.bytes, hml, B.returns, findClass_of_methodNamed B.named, B.notSynchronized, hT, by rw [hP.1]; exact hP.2.1, hK⟩
  have hx := X.1
  have hb := X.2.1
  have hown := X.2.2.2.2.1
  have hR : zz_R D dA base h n s s.heap [] := ⟨hP, va_S.rf⟩
  have hl := lv_entry ([.ref a0, .int x1]) (n := 2) (by exact Nat.le_of_ble_eq_true rfl)
  rw [lg_entry_eq]
  generalize (lg_sl ([.ref a0, .int x1]) ++ List.replicate (2 - (lg_sl ([.ref a0, .int x1])).length) Slot.unset).toArray = ls at hl ⊢
  have hl : lv_has ls 2 [(0, .ref a0), (1, .int x1)] := hl
  unfold f_X10_last at hf
  refine lv_aload_n hx hb dX10_last_0 rfl (lv_at hl 0 rfl) ?_
  refine zr_gq X hR (r := (some a0)) fl_X10_16 dX10_last_1 hf (fun v1 hf => ?_)
  refine lv_iload_n hx hb dX10_last_4 rfl (lv_at hl 1 rfl) ?_
  refine zr_iald X hR (r := v1) dX10_last_5 hf (fun v5 hf => ?_)
  refine lv_if_ne (tgt := 14) hx hb dX10_last_6 (by decide) (fun c6 => ?_) (fun c6 => ?_)
  · replace hf := zz_neg c6 hf
    refine lv_aload_n hx hb dX10_last_14 rfl (lv_at hl 0 rfl) ?_
    refine zr_gq X hR (r := (some a0)) fl_X10_21 dX10_last_15 hf (fun v15 hf => ?_)
    refine lv_iload_n hx hb dX10_last_18 rfl (lv_at hl 1 rfl) ?_
    refine zr_aald X hR (t := 8) (r := v15) (by decide) rfl dX10_last_19 hf (fun v19 hf => ?_)
    refine lv_aload_n hx hb dX10_last_20 rfl (lv_at hl 0 rfl) ?_
    refine zr_gq X hR (r := (some a0)) fl_X10_16 dX10_last_21 hf (fun v21 hf => ?_)
    refine lv_iload_n hx hb dX10_last_24 rfl (lv_at hl 1 rfl) ?_
    refine zr_iald X hR (r := v21) dX10_last_25 hf (fun v25 hf => ?_)
    refine lv_iconst (v := (1 : Int32)) hx hb dX10_last_26 (by decide) ?_
    refine lv_isub hx hb dX10_last_27 ?_
    refine zr_cald X hR (r := v19) dX10_last_28 hf (fun v28 hf => ?_)
    exact bk_X10_last_29 X hT hR (lv_sub hl [] rfl) hf
  · replace hf := zz_pos c6 hf
    refine lv_bipush (v := (45 : Int32)) hx hb dX10_last_9 (by decide) ?_
    refine lv_goto (tgt := 29) hx hb dX10_last_11 (by decide) ?_
    exact bk_X10_last_29 X hT hR (lv_sub hl [] rfl) hf
end ZZM
