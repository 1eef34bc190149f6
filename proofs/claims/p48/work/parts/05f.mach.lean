section ZZM
def rm_X9_hours : Room := { frames := 8, cells := 2, slots := 12, locals := 132 }
theorem mf_X9_hours : zz_Mf yX9_hours cX9_hours 3 (some .int) 1 := ⟨q_957, q_1, by decide +kernel, by decide +kernel, by decide +kernel⟩
set_option maxHeartbeats 4000000 in
set_option maxRecDepth 100000 in
theorem mt_X9_hours {D : va_G} {dA : Nat → ClassId} {base t0 : Nat} {l : Launch} (hT : l.stackTraces = false) (a0 : Nat) (x1 : Int32) (h : zz_H) (n : Nat) {r0 : (Int32 ⊕ Nat)} (hf : f_X9_hours a0 x1 h = some r0) : zz_MX D dA base t0 l yX9_hours cX9_hours 3 (some .int) rm_X9_hours [.ref a0, .int x1] h n (zz_ov (fun v : Int32 => some (Value.int v)) r0) h n := by
  refine vx_ofW (cc := cX9_hours) (maxL := 3) (ret := (some .int)) (by decide +kernel) rfl ?_
  intro p e s m args below meth c s₁ B hml hE hv
  obtain ⟨rfl, hP, hK⟩ := hv
  have X : zz_X D dA base t0 "Springseat" cX9_hours 3 (some .int) l p s m meth c := ⟨B.exec, B.bytes, hml, B.returns, findClass_of_methodNamed B.named, B.notSynchronized, hT, by rw [hP.1]; exact hP.2.1, hK⟩
  have hx := X.1
  have hb := X.2.1
  have hown := X.2.2.2.2.1
  have hR : zz_R D dA base h n s s.heap [] := ⟨hP, va_S.rf⟩
  have hl := lv_entry ([.ref a0, .int x1]) (n := 3) (by exact Nat.le_of_ble_eq_true rfl)
  rw [lg_entry_eq]
  generalize (lg_sl ([.ref a0, .int x1]) ++ List.replicate (3 - (lg_sl ([.ref a0, .int x1])).length) Slot.unset).toArray = ls at hl ⊢
  have hl : lv_has ls 3 [(0, .ref a0), (1, .int x1)] := hl
  unfold f_X9_hours at hf
  refine lv_aload_n hx hb dX9_hours_0 rfl (lv_at hl 0 rfl) ?_
  refine lv_iload_n hx hb dX9_hours_1 rfl (lv_at hl 1 rfl) ?_
  obtain ⟨fs2, ho2, hf⟩ := zz_obS_i hf
  refine zx_cV X hE hR hl.1 (As := [.int x1]) (rest := []) (C := RX9) (T := TX9) (N := 6) (ov := (fun v : Option Nat => some (va_rf v))) (fun r hr => mt_X9_seatOf hT a0 x1 h n hr) rfl ho2 mf_X9_seatOf q_172 q_174 qs_3 ⟨Nat.le_of_ble_eq_true rfl, Nat.le_of_ble_eq_true rfl⟩ ⟨Nat.le_of_ble_eq_true rfl, Nat.le_of_ble_eq_true rfl⟩ rfl (Nat.le_of_ble_eq_true rfl) dX9_hours_2 hf (fun k e => by cases e; exact ⟨rfl, rfl, Nat.le_refl _⟩) (Nat.le_of_ble_eq_true rfl) (Nat.le_of_ble_eq_true rfl) (fun v2 hf H locs hR => ?_)
  refine W.eq (g2 := F0 m 5 ls [va_rf v2]) rfl ?_
  refine W.widen (k := 1) (n := 6) (Nat.le_of_ble_eq_true rfl) (Nat.le_of_ble_eq_true rfl) ?_
  refine zr_astore_n (i := 2) (lv' := [(2, va_rf v2), (0, .ref a0), (1, .int x1)]) hx hb dX9_hours_5 rfl hl (by decide) rfl (fun ls hl => ?_)
  refine zr_aload_n hx hb dX9_hours_6 rfl (lv_at hl 0 rfl) ?_
  refine zx_cS X hE hR hl.1 (As := [va_rf v2]) (rest := []) (ov := (fun _ : Unit => (none : Option Value))) (fun r hr => mt_X9_needClosed hT v2 h n hr) mf_X9_needClosed q_312 q_313 ⟨Nat.le_of_ble_eq_true rfl, Nat.le_of_ble_eq_true rfl⟩ ⟨Nat.le_of_ble_eq_true rfl, Nat.le_of_ble_eq_true rfl⟩ rfl (Nat.le_of_ble_eq_true rfl) dX9_hours_7 hf (fun k e => by cases e; exact ⟨rfl, rfl, Nat.le_refl _⟩) (Nat.le_of_ble_eq_true rfl) (Nat.le_of_ble_eq_true rfl) (fun v7 hf H locs hR => ?_)
  refine W.eq (g2 := F0 m 10 ls []) rfl ?_
  refine W.widen (k := 2) (n := 12) (Nat.le_of_ble_eq_true rfl) (Nat.le_of_ble_eq_true rfl) ?_
  refine zr_aload_n hx hb dX9_hours_10 rfl (lv_at hl 0 rfl) ?_
  refine zr_gqN X hR (r := v2) fn_X9_267 dX9_hours_11 hf (fun v11 hf => ?_)
  refine zr_giN X hR (r := v11) fn_X9_288 dX9_hours_14 hf (fun v14 hf => ?_)
  cases hf
  exact zx_ret (zr_iret X hR dX9_hours_17 (Nat.le_of_ble_eq_true rfl) (Nat.le_of_ble_eq_true rfl))
def rm_X9_promise : Room := { frames := 8, cells := 2, slots := 12, locals := 132 }
theorem mf_X9_promise : zz_Mf yX9_promise cX9_promise 5 (some .int) 2 := ⟨q_964, q_1, by decide +kernel, by decide +kernel, by decide +kernel⟩
set_option maxHeartbeats 4000000 in
set_option maxRecDepth 100000 in
theorem mt_X9_promise {D : va_G} {dA : Nat → ClassId} {base t0 : Nat} {l : Launch} (hT : l.stackTraces = false) (a0 : Nat) (x1 : Int32) (x2 : Int32) (h : zz_H) (n : Nat) {r0 : (Int32 ⊕ Nat)} {hF : zz_H} (hf : f_X9_promise a0 x1 x2 h = some (r0, hF)) : zz_MX D dA base t0 l yX9_promise cX9_promise 5 (some .int) rm_X9_promise [.ref a0, .int x1, .int x2] h n (zz_ov (fun v : Int32 => some (Value.int v)) r0) hF n := by
  refine vx_ofW (cc := cX9_promise) (maxL := 5) (ret := (some .int)) (by decide +kernel) rfl ?_
  intro p e s m args below meth c s₁ B hml hE hv
  obtain ⟨rfl, hP, hK⟩ := hv
  have X : zz_X D dA base t0 "Springseat" cX9_promise 5 (some .int) l p s m meth c := ⟨B.exec, B.bytes, hml, B.returns, findClass_of_methodNamed B.named, B.notSynchronized, hT, by rw [hP.1]; exact hP.2.1, hK⟩
  have hx := X.1
  have hb := X.2.1
  have hown := X.2.2.2.2.1
  have hR : zz_R D dA base h n s s.heap [] := ⟨hP, va_S.rf⟩
  have hl := lv_entry ([.ref a0, .int x1, .int x2]) (n := 5) (by exact Nat.le_of_ble_eq_true rfl)
  rw [lg_entry_eq]
  generalize (lg_sl ([.ref a0, .int x1, .int x2]) ++ List.replicate (5 - (lg_sl ([.ref a0, .int x1, .int x2])).length) Slot.unset).toArray = ls at hl ⊢
  have hl : lv_has ls 5 [(0, .ref a0), (1, .int x1), (2, .int x2)] := hl
  unfold f_X9_promise at hf
  refine lv_aload_n hx hb dX9_promise_0 rfl (lv_at hl 0 rfl) ?_
  refine lv_iload_n hx hb dX9_promise_1 rfl (lv_at hl 1 rfl) ?_
  obtain ⟨fs2, ho2, hf⟩ := zz_obS_i hf
  refine zx_cV X hE hR hl.1 (As := [.int x1]) (rest := []) (C := RX9) (T := TX9) (N := 6) (ov := (fun v : Option Nat => some (va_rf v))) (fun r hr => mt_X9_seatOf hT a0 x1 h n hr) rfl ho2 mf_X9_seatOf q_172 q_174 qs_3 ⟨Nat.le_of_ble_eq_true rfl, Nat.le_of_ble_eq_true rfl⟩ ⟨Nat.le_of_ble_eq_true rfl, Nat.le_of_ble_eq_true rfl⟩ rfl (Nat.le_of_ble_eq_true rfl) dX9_promise_2 hf (fun k e => by cases e; exact ⟨rfl, rfl, Nat.le_refl _⟩) (Nat.le_of_ble_eq_true rfl) (Nat.le_of_ble_eq_true rfl) (fun v2 hf H locs hR => ?_)
  refine W.eq (g2 := F0 m 5 ls [va_rf v2]) rfl ?_
  refine W.widen (k := 1) (n := 6) (Nat.le_of_ble_eq_true rfl) (Nat.le_of_ble_eq_true rfl) ?_
  refine zr_astore_n (i := 3) (lv' := [(3, va_rf v2), (0, .ref a0), (1, .int x1), (2, .int x2)]) hx hb dX9_promise_5 rfl hl (by decide) rfl (fun ls hl => ?_)
  refine lv_iload_n hx hb dX9_promise_6 rfl (lv_at hl 3 rfl) ?_
  refine lv_iconst (v := (0 : Int32)) hx hb dX9_promise_7 (by decide) ?_
  refine lv_bipush (v := (100 : Int32)) hx hb dX9_promise_8 (by decide) ?_
  refine zx_cS X hE hR hl.1 (As := [.int x2, .int (0 : Int32), .int (100 : Int32)]) (rest := []) (ov := (fun _ : Unit => (none : Option Value))) (fun r hr => mt_X9_needRange hT x2 (0 : Int32) (100 : Int32) h n hr) mf_X9_needRange q_489 q_490 ⟨Nat.le_of_ble_eq_true rfl, Nat.le_of_ble_eq_true rfl⟩ ⟨Nat.le_of_ble_eq_true rfl, Nat.le_of_ble_eq_true rfl⟩ rfl (Nat.le_of_ble_eq_true rfl) dX9_promise_10 hf (fun k e => by cases e; exact ⟨rfl, rfl, Nat.le_refl _⟩) (Nat.le_of_ble_eq_true rfl) (Nat.le_of_ble_eq_true rfl) (fun v10 hf H locs hR => ?_)
  refine W.eq (g2 := F0 m 13 ls []) rfl ?_
  refine W.widen (k := 2) (n := 12) (Nat.le_of_ble_eq_true rfl) (Nat.le_of_ble_eq_true rfl) ?_
  refine zr_aload_n hx hb dX9_promise_13 rfl (lv_at hl 0 rfl) ?_
  refine zr_giN X hR (r := v2) fn_X9_318 dX9_promise_14 hf (fun v14 hf => ?_)
  refine lv_istore (i := 4) (lv' := [(4, .int v14), (3, va_rf v2), (0, .ref a0), (1, .int x1), (2, .int x2)]) hx hb dX9_promise_17 hl (by decide) (by simp [zz_cat, zz_catI, zz_catR, zz_catJ, zz_catF, zz_catD]) (fun ls hl => ?_)
  refine zr_aload_n hx hb dX9_promise_19 rfl (lv_at hl 1 rfl) ?_
  refine lv_iload_n hx hb dX9_promise_20 rfl (lv_at hl 4 rfl) ?_
  refine zr_pN X hR (r := v2) (v := .int x2) fn_X9_318 rfl dX9_promise_21 rfl rfl hf (fun h21 H locs hf hR => ?_)
  refine lv_iload hx hb dX9_promise_24 (lv_at hl 0 rfl) ?_
  cases hf
  exact zx_ret (zr_iret X hR dX9_promise_26 (Nat.le_of_ble_eq_true rfl) (Nat.le_of_ble_eq_true rfl))
def rm_X9_holds : Room := { frames := 8, cells := 2, slots := 12, locals := 132 }
theorem mf_X9_holds : zz_Mf yX9_holds cX9_holds 4 (some .boolean) 1 := ⟨q_311, q_1, by decide +kernel, by decide +kernel, by decide +kernel⟩
set_option maxHeartbeats 4000000 in
set_option maxRecDepth 100000 in
theorem bk_X9_holds_47 {D : va_G} {dA : Nat → ClassId} {base t0 : Nat} {l : Launch} {p : Program} {e : Env} {s : State} {m : MethodId} {args : Array Value} {below : List Frame} {meth : Method} {c : Code} (X : zz_X D dA base t0 "Springseat" cX9_holds 4 (some .boolean) l p s m meth c) (hE : ∀ x ∈ c.exceptionTable.toList, False) (hT : l.stackTraces = false) {s0 : Int32} {h : zz_H} {n : Nat} {H : Heap} {locs : List Loc} {ls : Array Slot} (hR : zz_R D dA base h n s H locs) (hl : lv_has ls 4 []) {r0 : (Int32 ⊕ Nat)} (hf : f_X9_holds_47 s0 h = some r0) : W p l e rm_X9_holds s m args below meth c H locs 2 12 (vx_MQ below (zz_Qo D dA base (zz_ov (fun v : Int32 => some (Value.int v)) r0) h n) (zz_Xo D dA base (zz_ov (fun v : Int32 => some (Value.int v)) r0) h n) args s rm_X9_holds.cells rm_X9_holds.slots (fun q => base ≤ q)) (F0 m 47 ls [.int s0]) := by
  have hx := X.1
  have hb := X.2.1
  have hown := X.2.2.2.2.1
  unfold f_X9_holds_47 at hf
  obtain ⟨hz47, hf⟩ := zz_gz_i hf
  cases hf
  exact zx_ret (zr_zret X hR (zz_nz hz47) dX9_holds_47 (Nat.le_of_ble_eq_true rfl) (Nat.le_of_ble_eq_true rfl))
set_option maxHeartbeats 4000000 in
set_option maxRecDepth 100000 in
theorem mt_X9_holds {D : va_G} {dA : Nat → ClassId} {base t0 : Nat} {l : Launch} (hT : l.stackTraces = false) (a0 : Nat) (x1 : Int32) (h : zz_H) (n : Nat) {r0 : (Int32 ⊕ Nat)} (hf : f_X9_holds a0 x1 h = some r0) : zz_MX D dA base t0 l yX9_holds cX9_holds 4 (some .boolean) rm_X9_holds [.ref a0, .int x1] h n (zz_ov (fun v : Int32 => some (Value.int v)) r0) h n := by
  refine vx_ofW (cc := cX9_holds) (maxL := 4) (ret := (some .boolean)) (by decide +kernel) rfl ?_
  intro p e s m args below meth c s₁ B hml hE hv
  obtain ⟨rfl, hP, hK⟩ := hv
  have X : zz_X D dA base t0 "Springseat" cX9_holds 4 (some .boolean) l p s m meth c := ⟨B.exec, B.bytes, hml, B.returns, findClass_of_methodNamed B.named, B.notSynchronized, hT, by rw [hP.1]; exact hP.2.1, hK⟩
  have hx := X.1
  have hb := X.2.1
  have hown := X.2.2.2.2.1
  have hR : zz_R D dA base h n s s.heap [] := ⟨hP, va_S.rf⟩
  have hl := lv_entry ([.ref a0, .int x1]) (n := 4) (by exact Nat.le_of_ble_eq_true rfl)
  rw [lg_entry_eq]
  generalize (lg_sl ([.ref a0, .int x1]) ++ List.replicate (4 - (lg_sl ([.ref a0, .int x1])).length) Slot.unset).toArray = ls at hl ⊢
  have hl : lv_has ls 4 [(0, .ref a0), (1, .int x1)] := hl
  unfold f_X9_holds at hf
  refine lv_aload_n hx hb dX9_holds_0 rfl (lv_at hl 0 rfl) ?_
  refine lv_iload_n hx hb dX9_holds_1 rfl (lv_at hl 1 rfl) ?_
  obtain ⟨fs2, ho2, hf⟩ := zz_obS_i hf
  refine zx_cV X hE hR hl.1 (As := [.int x1]) (rest := []) (C := RX9) (T := TX9) (N := 6) (ov := (fun v : Option Nat => some (va_rf v))) (fun r hr => mt_X9_seatOf hT a0 x1 h n hr) rfl ho2 mf_X9_seatOf q_172 q_174 qs_3 ⟨Nat.le_of_ble_eq_true rfl, Nat.le_of_ble_eq_true rfl⟩ ⟨Nat.le_of_ble_eq_true rfl, Nat.le_of_ble_eq_true rfl⟩ rfl (Nat.le_of_ble_eq_true rfl) dX9_holds_2 hf (fun k e => by cases e; exact ⟨rfl, rfl, Nat.le_refl _⟩) (Nat.le_of_ble_eq_true rfl) (Nat.le_of_ble_eq_true rfl) (fun v2 hf H locs hR => ?_)
  refine W.eq (g2 := F0 m 5 ls [va_rf v2]) rfl ?_
  refine W.widen (k := 1) (n := 6) (Nat.le_of_ble_eq_true rfl) (Nat.le_of_ble_eq_true rfl) ?_
  refine zr_astore_n (i := 2) (lv' := [(2, va_rf v2), (0, .ref a0), (1, .int x1)]) hx hb dX9_holds_5 rfl hl (by decide) rfl (fun ls hl => ?_)
  refine zr_aload_n hx hb dX9_holds_6 rfl (lv_at hl 0 rfl) ?_
  refine zx_cS X hE hR hl.1 (As := [va_rf v2]) (rest := []) (ov := (fun _ : Unit => (none : Option Value))) (fun r hr => mt_X9_needClosed hT v2 h n hr) mf_X9_needClosed q_312 q_313 ⟨Nat.le_of_ble_eq_true rfl, Nat.le_of_ble_eq_true rfl⟩ ⟨Nat.le_of_ble_eq_true rfl, Nat.le_of_ble_eq_true rfl⟩ rfl (Nat.le_of_ble_eq_true rfl) dX9_holds_7 hf (fun k e => by cases e; exact ⟨rfl, rfl, Nat.le_refl _⟩) (Nat.le_of_ble_eq_true rfl) (Nat.le_of_ble_eq_true rfl) (fun v7 hf H locs hR => ?_)
  refine W.eq (g2 := F0 m 10 ls []) rfl ?_
  refine W.widen (k := 2) (n := 12) (Nat.le_of_ble_eq_true rfl) (Nat.le_of_ble_eq_true rfl) ?_
  refine zr_aload_n hx hb dX9_holds_10 rfl (lv_at hl 0 rfl) ?_
  refine zr_gqN X hR (r := v2) fn_X9_267 dX9_holds_11 hf (fun v11 hf => ?_)
  refine zr_giN X hR (r := v11) fn_X9_321 dX9_holds_14 hf (fun v14 hf => ?_)
  refine zr_aload_n hx hb dX9_holds_17 rfl (lv_at hl 0 rfl) ?_
  obtain ⟨b18, fs18, hr18, ho18, hf⟩ := zz_ob_i hf
  obtain ⟨v18, hv18, hf⟩ := zz_b_i hf
  refine zr_cV X hR hl.1 (As := []) (rest := [.int v14]) (C := RX7) (T := TX7) (N := 6) (mt_X7_topsInAll hT b18 h n hv18) rfl ho18 mf_X7_topsInAll q_331 q_332 q_333 ⟨Nat.le_of_ble_eq_true rfl, Nat.le_of_ble_eq_true rfl⟩ ⟨Nat.le_of_ble_eq_true rfl, Nat.le_of_ble_eq_true rfl⟩ (by rw [hr18]; rfl) (Nat.le_of_ble_eq_true rfl) dX9_holds_18 (fun H locs hR => ?_)
  refine W.eq (g2 := F0 m 21 ls [.int v18, .int v14]) rfl ?_
  refine lv_isub hx hb dX9_holds_21 ?_
  refine lv_istore_n (i := 3) (lv' := [(3, .int (v14 - v18)), (2, va_rf v2), (0, .ref a0), (1, .int x1)]) hx hb dX9_holds_22 rfl hl (by decide) (by simp [zz_cat, zz_catI, zz_catR, zz_catJ, zz_catF, zz_catD]) (fun ls hl => ?_)
  refine lv_iload_n hx hb dX9_holds_23 rfl (lv_at hl 0 rfl) ?_
  refine zr_aload_n hx hb dX9_holds_24 rfl (lv_at hl 1 rfl) ?_
  refine zr_gqN X hR (r := v2) fn_X9_267 dX9_holds_25 hf (fun v25 hf => ?_)
  refine zr_giN X hR (r := v25) fn_X9_321 dX9_holds_28 hf (fun v28 hf => ?_)
  refine zr_aload_n hx hb dX9_holds_31 rfl (lv_at hl 1 rfl) ?_
  refine zr_giN X hR (r := v2) fn_X9_318 dX9_holds_32 hf (fun v32 hf => ?_)
  refine lv_imul hx hb dX9_holds_35 ?_
  refine lv_bipush (v := (100 : Int32)) hx hb dX9_holds_36 (by decide) ?_
  obtain ⟨hne38, hf⟩ := zz_dv_i hf
  refine lv_idiv hx hb dX9_holds_38 hne38 ?_
  refine lv_icmp_gt (tgt := 46) hx hb dX9_holds_39 (by decide) (fun c39 => ?_) (fun c39 => ?_)
  · replace hf := zz_pos c39 hf
    refine lv_iconst (v := (0 : Int32)) hx hb dX9_holds_46 (by decide) ?_
    exact bk_X9_holds_47 X hE hT hR (lv_sub hl [] rfl) hf
  · replace hf := zz_neg c39 hf
    refine lv_iconst (v := (1 : Int32)) hx hb dX9_holds_42 (by decide) ?_
    refine lv_goto (tgt := 47) hx hb dX9_holds_43 (by decide) ?_
    exact bk_X9_holds_47 X hE hT hR (lv_sub hl [] rfl) hf
def rm_X9_quote : Room := { frames := 8, cells := 1, slots := 6, locals := 132 }
theorem mf_X9_quote : zz_Mf yX9_quote cX9_quote 2 (some .int) 1 := ⟨q_971, q_1, by decide +kernel, by decide +kernel, by decide +kernel⟩
set_option maxHeartbeats 4000000 in
set_option maxRecDepth 100000 in
theorem mt_X9_quote {D : va_G} {dA : Nat → ClassId} {base t0 : Nat} {l : Launch} (hT : l.stackTraces = false) (a0 : Nat) (x1 : Int32) (h : zz_H) (n : Nat) {r0 : (Int32 ⊕ Nat)} (hf : f_X9_quote a0 x1 h = some r0) : zz_MX D dA base t0 l yX9_quote cX9_quote 2 (some .int) rm_X9_quote [.ref a0, .int x1] h n (zz_ov (fun v : Int32 => some (Value.int v)) r0) h n := by
  refine vx_ofW (cc := cX9_quote) (maxL := 2) (ret := (some .int)) (by decide +kernel) rfl ?_
  intro p e s m args below meth c s₁ B hml hE hv
  obtain ⟨rfl, hP, hK⟩ := hv
  have X : zz_X D dA base t0 "Springseat" cX9_quote 2 (some .int) l p s m meth c := ⟨B.exec, B.bytes, hml, B.returns, findClass_of_methodNamed B.named, B.notSynchronized, hT, by rw [hP.1]; exact hP.2.1, hK⟩
  have hx := X.1
  have hb := X.2.1
  have hown := X.2.2.2.2.1
  have hR : zz_R D dA base h n s s.heap [] := ⟨hP, va_S.rf⟩
  have hl := lv_entry ([.ref a0, .int x1]) (n := 2) (by exact Nat.le_of_ble_eq_true rfl)
  rw [lg_entry_eq]
  generalize (lg_sl ([.ref a0, .int x1]) ++ List.replicate (2 - (lg_sl ([.ref a0, .int x1])).length) Slot.unset).toArray = ls at hl ⊢
  have hl : lv_has ls 2 [(0, .ref a0), (1, .int x1)] := hl
  unfold f_X9_quote at hf
  refine lv_aload_n hx hb dX9_quote_0 rfl (lv_at hl 0 rfl) ?_
  refine lv_iload_n hx hb dX9_quote_1 rfl (lv_at hl 1 rfl) ?_
  obtain ⟨fs2, ho2, hf⟩ := zz_obS_i hf
  refine zx_cV X hE hR hl.1 (As := [.int x1]) (rest := []) (C := RX9) (T := TX9) (N := 6) (ov := (fun v : Option Nat => some (va_rf v))) (fun r hr => mt_X9_seatOf hT a0 x1 h n hr) rfl ho2 mf_X9_seatOf q_172 q_174 qs_3 ⟨Nat.le_of_ble_eq_true rfl, Nat.le_of_ble_eq_true rfl⟩ ⟨Nat.le_of_ble_eq_true rfl, Nat.le_of_ble_eq_true rfl⟩ rfl (Nat.le_of_ble_eq_true rfl) dX9_quote_2 hf (fun k e => by cases e; exact ⟨rfl, rfl, Nat.le_refl _⟩) (Nat.le_of_ble_eq_true rfl) (Nat.le_of_ble_eq_true rfl) (fun v2 hf H locs hR => ?_)
  refine W.eq (g2 := F0 m 5 ls [va_rf v2]) rfl ?_
  refine W.widen (k := 1) (n := 6) (Nat.le_of_ble_eq_true rfl) (Nat.le_of_ble_eq_true rfl) ?_
  obtain ⟨b5, fs5, hr5, ho5, hf⟩ := zz_ob_i hf
  obtain ⟨v5, hv5, hf⟩ := zz_b_i hf
  refine zr_cV X hR hl.1 (As := []) (rest := []) (C := RX7) (T := TX7) (N := 6) (mt_X7_price hT b5 h n hv5) rfl ho5 mf_X7_price q_972 q_973 q_974 ⟨Nat.le_of_ble_eq_true rfl, Nat.le_of_ble_eq_true rfl⟩ ⟨Nat.le_of_ble_eq_true rfl, Nat.le_of_ble_eq_true rfl⟩ (by rw [hr5]; rfl) (Nat.le_of_ble_eq_true rfl) dX9_quote_5 (fun H locs hR => ?_)
  refine W.eq (g2 := F0 m 8 ls [.int v5]) rfl ?_
  cases hf
  exact zx_ret (zr_iret X hR dX9_quote_8 (Nat.le_of_ble_eq_true rfl) (Nat.le_of_ble_eq_true rfl))
def rm_Jx4a65c_isEmpty_aae02 : Room := { frames := 0, cells := 0, slots := 0, locals := 0 }
theorem mf_Jx4a65c_isEmpty_aae02 : zz_Mf yJx4a65c_isEmpty_aae02 cJx4a65c_isEmpty_aae02 1 (some .boolean) 0 := ⟨q_363, q_4, by decide +kernel, by decide +kernel, by decide +kernel⟩
set_option maxHeartbeats 4000000 in
set_option maxRecDepth 100000 in
theorem bk_Jx4a65c_isEmpty_aae02_12 {D : va_G} {dA : Nat → ClassId} {base t0 : Nat} {l : Launch} {p : Program} {e : Env} {s : State} {m : MethodId} {args : Array Value} {below : List Frame} {meth : Method} {c : Code} (X : zz_X D dA base t0 "java/util/ArrayList" cJx4a65c_isEmpty_aae02 1 (some .boolean) l p s m meth c) (hT : l.stackTraces = false) {s0 : Int32} {h : zz_H} {n : Nat} {H : Heap} {locs : List Loc} {ls : Array Slot} (hR : zz_R D dA base h n s H locs) (hl : lv_has ls 1 []) {r0 : Int32} (hf : f_Jx4a65c_isEmpty_aae02_12 s0 h = some r0) : W p l e rm_Jx4a65c_isEmpty_aae02 s m args below meth c H locs 0 0 (MQ below (zz_Qc D dA base (some (.int r0)) h n) args s rm_Jx4a65c_isEmpty_aae02.cells rm_Jx4a65c_isEmpty_aae02.slots (fun q => base ≤ q)) (F0 m 12 ls [.int s0]) := by
  have hx := X.1
  have hb := X.2.1
  have hown := X.2.2.2.2.1
  unfold f_Jx4a65c_isEmpty_aae02_12 at hf
  obtain ⟨hz12, hf⟩ := zz_gz_i hf
  cases hf
  exact zr_zret X hR (zz_nz hz12) dJx4a65c_isEmpty_aae02_12 (Nat.le_of_ble_eq_true rfl) (Nat.le_of_ble_eq_true rfl)
set_option maxHeartbeats 4000000 in
set_option maxRecDepth 100000 in
theorem mt_Jx4a65c_isEmpty_aae02 {D : va_G} {dA : Nat → ClassId} {base t0 : Nat} {l : Launch} (hT : l.stackTraces = false) (a0 : Nat) (h : zz_H) (n : Nat) {r0 : Int32} (hf : f_Jx4a65c_isEmpty_aae02 a0 h = some r0) : zz_M D dA base t0 l yJx4a65c_isEmpty_aae02 cJx4a65c_isEmpty_aae02 1 (some .boolean) rm_Jx4a65c_isEmpty_aae02 [.ref a0] h n (some (.int r0)) h n := by
  refine Met.ofW (cc := cJx4a65c_isEmpty_aae02) (maxL := 1) (ret := (some .boolean)) (by decide +kernel) rfl ?_
  intro p e s m args below meth c s₁ B hml hv
  obtain ⟨rfl, hP, hK⟩ := hv
  have X : zz_X D dA base t0 "java/util/ArrayList" cJx4a65c_isEmpty_aae02 1 (some .boolean) l p s m meth c := ⟨B.exec, B.bytes, hml, B.returns, findClass_of_methodNamed B.named, B.notSynchronized, hT, by rw [hP.1]; exact hP.2.1, hK⟩
  have hx := X.1
  have hb := X.2.1
  have hown := X.2.2.2.2.1
  have hR : zz_R D dA base h n s s.heap [] := ⟨hP, va_S.rf⟩
  have hl := lv_entry ([.ref a0]) (n := 1) (by exact Nat.le_of_ble_eq_true rfl)
  rw [lg_entry_eq]
  generalize (lg_sl ([.ref a0]) ++ List.replicate (1 - (lg_sl ([.ref a0])).length) Slot.unset).toArray = ls at hl ⊢
  have hl : lv_has ls 1 [(0, .ref a0)] := hl
  unfold f_Jx4a65c_isEmpty_aae02 at hf
  refine lv_aload_n hx hb dJx4a65c_isEmpty_aae02_0 rfl (lv_at hl 0 rfl) ?_
  refine zr_gi X hR (r := (some a0)) fl_Jx4a65c_48 dJx4a65c_isEmpty_aae02_1 hf (fun v1 hf => ?_)
  refine lv_if_ne (tgt := 11) hx hb dJx4a65c_isEmpty_aae02_4 (by decide) (fun c4 => ?_) (fun c4 => ?_)
  · replace hf := zz_neg c4 hf
    refine lv_iconst (v := (0 : Int32)) hx hb dJx4a65c_isEmpty_aae02_11 (by decide) ?_
    exact bk_Jx4a65c_isEmpty_aae02_12 X hT hR (lv_sub hl [] rfl) hf
  · replace hf := zz_pos c4 hf
    refine lv_iconst (v := (1 : Int32)) hx hb dJx4a65c_isEmpty_aae02_7 (by decide) ?_
    refine lv_goto (tgt := 12) hx hb dJx4a65c_isEmpty_aae02_8 (by decide) ?_
    exact bk_Jx4a65c_isEmpty_aae02_12 X hT hR (lv_sub hl [] rfl) hf
def rm_X9_closedShare : Room := { frames := 6, cells := 1, slots := 6, locals := 90 }
theorem mf_X9_closedShare : zz_Mf yX9_closedShare cX9_closedShare 3 (some .float) 0 := ⟨q_359, q_1, by decide +kernel, by decide +kernel, by decide +kernel⟩
set_option maxHeartbeats 4000000 in
set_option maxRecDepth 100000 in
theorem bk_X9_closedShare_56 {D : va_G} {dA : Nat → ClassId} {base t0 : Nat} {l : Launch} {p : Program} {e : Env} {s : State} {m : MethodId} {args : Array Value} {below : List Frame} {meth : Method} {c : Code} (X : zz_X D dA base t0 "Springseat" cX9_closedShare 3 (some .float) l p s m meth c) (hE : ∀ x ∈ c.exceptionTable.toList, False) (hT : l.stackTraces = false) {a0 : Nat} {x1 : Int32} {x2 : Int32} {h : zz_H} {n : Nat} {H : Heap} {locs : List Loc} {ls : Array Slot} (hR : zz_R D dA base h n s H locs) (hl : lv_has ls 3 [(0, .ref a0), (1, .int x1), (2, .int x2)]) {r0 : (UInt32 ⊕ Nat)} {o : ((Int32 × Int32) ⊕ (UInt32 ⊕ Nat))} (hf : f_X9_closedShare_56 a0 x1 x2 h = some o) (k0 : ∀ (w1 : Int32) (w2 : Int32), o = (.inl (w1, w2)) → ∀ {H : Heap} {locs : List Loc} {ls : Array Slot}, zz_R D dA base h n s H locs → lv_has ls 3 [(0, .ref a0), (1, .int w1), (2, .int w2)] → W p l e rm_X9_closedShare s m args below meth c H locs 0 0 (vx_MQ below (zz_Qo D dA base (zz_ov (fun v : UInt32 => some (Value.float v)) r0) h n) (zz_Xo D dA base (zz_ov (fun v : UInt32 => some (Value.float v)) r0) h n) args s rm_X9_closedShare.cells rm_X9_closedShare.slots (fun q => base ≤ q)) (F0 m 25 ls [])) (hret : ∀ r, o = (.inr r) → r = r0) : W p l e rm_X9_closedShare s m args below meth c H locs 0 0 (vx_MQ below (zz_Qo D dA base (zz_ov (fun v : UInt32 => some (Value.float v)) r0) h n) (zz_Xo D dA base (zz_ov (fun v : UInt32 => some (Value.float v)) r0) h n) args s rm_X9_closedShare.cells rm_X9_closedShare.slots (fun q => base ≤ q)) (F0 m 56 ls []) := by
  have hx := X.1
  have hb := X.2.1
  have hown := X.2.2.2.2.1
  unfold f_X9_closedShare_56 at hf
  refine lv_iinc (i := 2) (v := (x2 + (1 : Int32))) (lv' := [(2, .int (x2 + (1 : Int32))), (0, .ref a0), (1, .int x1)]) hx hb dX9_closedShare_56 hl (k := 2) rfl rfl (by decide) rfl (fun ls hl => ?_)
  refine lv_goto (tgt := 25) hx hb dX9_closedShare_59 (by decide) ?_
  cases hf
  exact k0 _ _ rfl hR (lv_sub hl [1, 2, 0] rfl)
set_option maxHeartbeats 4000000 in
set_option maxRecDepth 100000 in
theorem bk_X9_closedShare_25 {D : va_G} {dA : Nat → ClassId} {base t0 : Nat} {l : Launch} {p : Program} {e : Env} {s : State} {m : MethodId} {args : Array Value} {below : List Frame} {meth : Method} {c : Code} (X : zz_X D dA base t0 "Springseat" cX9_closedShare 3 (some .float) l p s m meth c) (hE : ∀ x ∈ c.exceptionTable.toList, False) (hT : l.stackTraces = false) {a0 : Nat} {x1 : Int32} {x2 : Int32} {h : zz_H} {n : Nat} {H : Heap} {locs : List Loc} {ls : Array Slot} (hR : zz_R D dA base h n s H locs) (hl : lv_has ls 3 [(0, .ref a0), (1, .int x1), (2, .int x2)]) {r0 : (UInt32 ⊕ Nat)} {o : ((Int32 × Int32) ⊕ (UInt32 ⊕ Nat))} (hf : f_X9_closedShare_25 a0 x1 x2 h = some o) (k0 : ∀ (w1 : Int32) (w2 : Int32), o = (.inl (w1, w2)) → ∀ {H : Heap} {locs : List Loc} {ls : Array Slot}, zz_R D dA base h n s H locs → lv_has ls 3 [(0, .ref a0), (1, .int w1), (2, .int w2)] → W p l e rm_X9_closedShare s m args below meth c H locs 0 0 (vx_MQ below (zz_Qo D dA base (zz_ov (fun v : UInt32 => some (Value.float v)) r0) h n) (zz_Xo D dA base (zz_ov (fun v : UInt32 => some (Value.float v)) r0) h n) args s rm_X9_closedShare.cells rm_X9_closedShare.slots (fun q => base ≤ q)) (F0 m 25 ls [])) (hret : ∀ r, o = (.inr r) → r = r0) : W p l e rm_X9_closedShare s m args below meth c H locs 0 0 (vx_MQ below (zz_Qo D dA base (zz_ov (fun v : UInt32 => some (Value.float v)) r0) h n) (zz_Xo D dA base (zz_ov (fun v : UInt32 => some (Value.float v)) r0) h n) args s rm_X9_closedShare.cells rm_X9_closedShare.slots (fun q => base ≤ q)) (F0 m 25 ls []) := by
  have hx := X.1
  have hb := X.2.1
  have hown := X.2.2.2.2.1
  unfold f_X9_closedShare_25 at hf
  refine lv_iload_n hx hb dX9_closedShare_25 rfl (lv_at hl 2 rfl) ?_
  refine lv_aload_n hx hb dX9_closedShare_26 rfl (lv_at hl 0 rfl) ?_
  refine zr_gq X hR (r := (some a0)) fl_X9_10 dX9_closedShare_27 hf (fun v27 hf => ?_)
  obtain ⟨b30, fs30, hr30, ho30, hf⟩ := zz_ob_i hf
  obtain ⟨v30, hv30, hf⟩ := zz_b_i hf
  refine zr_cV X hR hl.1 (As := []) (rest := [.int x2]) (C := RJx4a65c) (T := TJx4a65c) (N := 3) (mt_Jx4a65c_size_8abf5 hT b30 h n hv30) rfl ho30 mf_Jx4a65c_size_8abf5 q_176 q_177 q_178 ⟨Nat.le_of_ble_eq_true rfl, Nat.le_of_ble_eq_true rfl⟩ ⟨Nat.le_of_ble_eq_true rfl, Nat.le_of_ble_eq_true rfl⟩ (by rw [hr30]; rfl) (Nat.le_of_ble_eq_true rfl) dX9_closedShare_30 (fun H locs hR => ?_)
  refine W.eq (g2 := F0 m 33 ls [.int v30, .int x2]) rfl ?_
  refine lv_icmp_ge (tgt := 62) hx hb dX9_closedShare_33 (by decide) (fun c33 => ?_) (fun c33 => ?_)
  · replace hf := zz_pos c33 hf
    refine lv_iload_n hx hb dX9_closedShare_62 rfl (lv_at hl 1 rfl) ?_
    refine lv_i2f hx hb dX9_closedShare_63 ?_
    refine lv_aload_n hx hb dX9_closedShare_64 rfl (lv_at hl 0 rfl) ?_
    refine zr_gq X hR (r := (some a0)) fl_X9_10 dX9_closedShare_65 hf (fun v65 hf => ?_)
    obtain ⟨b68, fs68, hr68, ho68, hf⟩ := zz_ob_i hf
    obtain ⟨v68, hv68, hf⟩ := zz_b_i hf
    refine zr_cV X hR hl.1 (As := []) (rest := [.float (FP.i2f x1)]) (C := RJx4a65c) (T := TJx4a65c) (N := 3) (mt_Jx4a65c_size_8abf5 hT b68 h n hv68) rfl ho68 mf_Jx4a65c_size_8abf5 q_176 q_177 q_178 ⟨Nat.le_of_ble_eq_true rfl, Nat.le_of_ble_eq_true rfl⟩ ⟨Nat.le_of_ble_eq_true rfl, Nat.le_of_ble_eq_true rfl⟩ (by rw [hr68]; rfl) (Nat.le_of_ble_eq_true rfl) dX9_closedShare_68 (fun H locs hR => ?_)
    refine W.eq (g2 := F0 m 71 ls [.int v68, .float (FP.i2f x1)]) rfl ?_
    refine lv_i2f hx hb dX9_closedShare_71 ?_
    obtain ⟨hne72, hf⟩ := zz_nf_i hf
    refine lv_fdiv hx hb dX9_closedShare_72 hne72 ?_
    cases hf
    cases hret _ rfl
    exact zx_ret (zr_fret X hR dX9_closedShare_73 (Nat.le_of_ble_eq_true rfl) (Nat.le_of_ble_eq_true rfl))
  · replace hf := zz_neg c33 hf
    refine lv_aload_n hx hb dX9_closedShare_36 rfl (lv_at hl 0 rfl) ?_
    refine zr_gq X hR (r := (some a0)) fl_X9_10 dX9_closedShare_37 hf (fun v37 hf => ?_)
    refine lv_iload_n hx hb dX9_closedShare_40 rfl (lv_at hl 2 rfl) ?_
    obtain ⟨b41, fs41, hr41, ho41, hf⟩ := zz_ob_i hf
    obtain ⟨v41, hv41, hf⟩ := zz_b_i hf
    refine zr_cV X hR hl.1 (As := [.int x2]) (rest := []) (C := RJx4a65c) (T := TJx4a65c) (N := 3) (mt_Jx4a65c_get_915e3 hT b41 x2 h n hv41) rfl ho41 mf_Jx4a65c_get_915e3 q_253 q_254 q_255 ⟨Nat.le_of_ble_eq_true rfl, Nat.le_of_ble_eq_true rfl⟩ ⟨Nat.le_of_ble_eq_true rfl, Nat.le_of_ble_eq_true rfl⟩ (by rw [hr41]; rfl) (Nat.le_of_ble_eq_true rfl) dX9_closedShare_41 (fun H locs hR => ?_)
    refine W.eq (g2 := F0 m 44 ls [va_rf v41]) rfl ?_
    refine zr_cc X hR (ci := 8) (C := RX7) (T := TX7) (N := 6) (r := v41) rfl q_267 (Or.inr trivial) dX9_closedShare_44 hf (fun hf => ?_)
    obtain ⟨b47, fs47, hr47, ho47, hf⟩ := zz_ob_i hf
    obtain ⟨v47, hv47, hf⟩ := zz_b_i hf
    refine zr_cV X hR hl.1 (As := []) (rest := []) (C := RX7) (T := TX7) (N := 6) (mt_X7_hasCover hT b47 h n hv47) rfl ho47 mf_X7_hasCover q_268 q_269 q_270 ⟨Nat.le_of_ble_eq_true rfl, Nat.le_of_ble_eq_true rfl⟩ ⟨Nat.le_of_ble_eq_true rfl, Nat.le_of_ble_eq_true rfl⟩ (by rw [hr47]; rfl) (Nat.le_of_ble_eq_true rfl) dX9_closedShare_47 (fun H locs hR => ?_)
    refine W.eq (g2 := F0 m 50 ls [.int v47]) rfl ?_
    refine lv_if_eq (tgt := 56) hx hb dX9_closedShare_50 (by decide) (fun c50 => ?_) (fun c50 => ?_)
    · replace hf := zz_pos c50 hf
      exact bk_X9_closedShare_56 X hE hT hR (lv_sub hl [0, 1, 2] rfl) hf k0 hret
    · replace hf := zz_neg c50 hf
      refine lv_iinc (i := 1) (v := (x1 + (1 : Int32))) (lv' := [(1, .int (x1 + (1 : Int32))), (0, .ref a0), (2, .int x2)]) hx hb dX9_closedShare_53 hl (k := 1) rfl rfl (by decide) rfl (fun ls hl => ?_)
      exact bk_X9_closedShare_56 X hE hT hR (lv_sub hl [1, 0, 2] rfl) hf k0 hret
set_option maxHeartbeats 4000000 in
set_option maxRecDepth 100000 in
theorem lp_X9_closedShare_25 {D : va_G} {dA : Nat → ClassId} {base t0 : Nat} {l : Launch} {p : Program} {e : Env} {s : State} {m : MethodId} {args : Array Value} {below : List Frame} {meth : Method} {c : Code} (X : zz_X D dA base t0 "Springseat" cX9_closedShare 3 (some .float) l p s m meth c) (hE : ∀ x ∈ c.exceptionTable.toList, False) (hT : l.stackTraces = false) (a0 : Nat) {h : zz_H} {n : Nat} {r0 : (UInt32 ⊕ Nat)} : ∀ (k : Nat) (x1 : Int32) (x2 : Int32), zz_it (fun s : (Int32 × Int32) => f_X9_closedShare_25 a0 s.1 s.2 h) k (x1, x2) = some r0 → ∀ {H : Heap} {locs : List Loc} {ls : Array Slot}, zz_R D dA base h n s H locs → lv_has ls 3 [(0, .ref a0), (1, .int x1), (2, .int x2)] → W p l e rm_X9_closedShare s m args below meth c H locs 0 0 (vx_MQ below (zz_Qo D dA base (zz_ov (fun v : UInt32 => some (Value.float v)) r0) h n) (zz_Xo D dA base (zz_ov (fun v : UInt32 => some (Value.float v)) r0) h n) args s rm_X9_closedShare.cells rm_X9_closedShare.slots (fun q => base ≤ q)) (F0 m 25 ls []) := by
  intro k
  induction k with
  | zero => intro x1 x2 hf; cases hf
  | succ k ih =>
    intro x1 x2 hf H locs ls hR hl
    rcases zz_it_s hf with ⟨⟨y0, y1⟩, h1, h2⟩ | h1
    · exact bk_X9_closedShare_25 (r0 := r0) X hE hT hR hl h1  (fun z0 z1 e => by cases e; exact ih _ _ h2) (fun r e => by cases e)
    · exact bk_X9_closedShare_25 (r0 := r0) X hE hT hR hl h1  (fun z0 z1 e => by cases e) (fun r e => (Sum.inr.inj e).symm)
set_option maxHeartbeats 4000000 in
set_option maxRecDepth 100000 in
theorem mt_X9_closedShare {D : va_G} {dA : Nat → ClassId} {base t0 : Nat} {l : Launch} (hT : l.stackTraces = false) (a0 : Nat) (h : zz_H) (n : Nat) {r0 : (UInt32 ⊕ Nat)} (hf : f_X9_closedShare a0 h = some r0) : zz_MX D dA base t0 l yX9_closedShare cX9_closedShare 3 (some .float) rm_X9_closedShare [.ref a0] h n (zz_ov (fun v : UInt32 => some (Value.float v)) r0) h n := by
  refine vx_ofW (cc := cX9_closedShare) (maxL := 3) (ret := (some .float)) (by decide +kernel) rfl ?_
  intro p e s m args below meth c s₁ B hml hE hv
  obtain ⟨rfl, hP, hK⟩ := hv
  have X : zz_X D dA base t0 "Springseat" cX9_closedShare 3 (some .float) l p s m meth c := ⟨B.exec, B.bytes, hml, B.returns, findClass_of_methodNamed B.named, B.notSynchronized, hT, by rw [hP.1]; exact hP.2.1, hK⟩
  have hx := X.1
  have hb := X.2.1
  have hown := X.2.2.2.2.1
  have hR : zz_R D dA base h n s s.heap [] := ⟨hP, va_S.rf⟩
  have hl := lv_entry ([.ref a0]) (n := 3) (by exact Nat.le_of_ble_eq_true rfl)
  rw [lg_entry_eq]
  generalize (lg_sl ([.ref a0]) ++ List.replicate (3 - (lg_sl ([.ref a0])).length) Slot.unset).toArray = ls at hl ⊢
  have hl : lv_has ls 3 [(0, .ref a0)] := hl
  unfold f_X9_closedShare at hf
  refine lv_aload_n hx hb dX9_closedShare_0 rfl (lv_at hl 0 rfl) ?_
  refine zr_gq X hR (r := (some a0)) fl_X9_10 dX9_closedShare_1 hf (fun v1 hf => ?_)
  obtain ⟨b4, fs4, hr4, ho4, hf⟩ := zz_ob_i hf
  obtain ⟨v4, hv4, hf⟩ := zz_b_i hf
  refine zr_cV X hR hl.1 (As := []) (rest := []) (C := RJx4a65c) (T := TJx4a65c) (N := 3) (mt_Jx4a65c_isEmpty_aae02 hT b4 h n hv4) rfl ho4 mf_Jx4a65c_isEmpty_aae02 q_360 q_361 q_362 ⟨Nat.le_of_ble_eq_true rfl, Nat.le_of_ble_eq_true rfl⟩ ⟨Nat.le_of_ble_eq_true rfl, Nat.le_of_ble_eq_true rfl⟩ (by rw [hr4]; rfl) (Nat.le_of_ble_eq_true rfl) dX9_closedShare_4 (fun H locs hR => ?_)
  refine W.eq (g2 := F0 m 7 ls [.int v4]) rfl ?_
  refine lv_if_eq (tgt := 21) hx hb dX9_closedShare_7 (by decide) (fun c7 => ?_) (fun c7 => ?_)
  · replace hf := zz_pos c7 hf
    refine lv_iconst (v := (0 : Int32)) hx hb dX9_closedShare_21 (by decide) ?_
    refine lv_istore_n (i := 1) (lv' := [(1, .int (0 : Int32)), (0, .ref a0)]) hx hb dX9_closedShare_22 rfl hl (by decide) rfl (fun ls hl => ?_)
    refine lv_iconst (v := (0 : Int32)) hx hb dX9_closedShare_23 (by decide) ?_
    refine lv_istore_n (i := 2) (lv' := [(2, .int (0 : Int32)), (1, .int (0 : Int32)), (0, .ref a0)]) hx hb dX9_closedShare_24 rfl hl (by decide) rfl (fun ls hl => ?_)
    exact lp_X9_closedShare_25 X hE hT a0 zz_F _ _ hf hR (lv_sub hl [2, 1, 0] rfl)
  · replace hf := zz_neg c7 hf
    cases hf
    exact zx_throwWX X hE hR hl.1 nse_0 nse_1 nse_2 nse_5 (k := 4) (names := ["java/lang/RuntimeException", "java/lang/Exception"]) tw_10_170.1 tw_10_170.2.1 rfl q_364 q_25 (List.mem_of_getElem? (i := 2) rfl) tw_10_170.2.2.1 tw_10_170.2.2.2 dX9_closedShare_10 dX9_closedShare_13 dX9_closedShare_14 dX9_closedShare_17 dX9_closedShare_20 (Nat.le_of_ble_eq_true rfl) ⟨Nat.le_of_ble_eq_true rfl, Nat.le_of_ble_eq_true rfl⟩ ⟨Nat.le_of_ble_eq_true rfl, Nat.le_of_ble_eq_true rfl⟩ (Nat.le_of_ble_eq_true rfl) (Nat.le_of_ble_eq_true rfl) (Nat.le_refl _)
def rm_X9_meanTop : Room := { frames := 8, cells := 1, slots := 6, locals := 132 }
theorem mf_X9_meanTop : zz_Mf yX9_meanTop cX9_meanTop 3 (some .double) 1 := ⟨q_383, q_1, by decide +kernel, by decide +kernel, by decide +kernel⟩
set_option maxHeartbeats 4000000 in
set_option maxRecDepth 100000 in
theorem mt_X9_meanTop {D : va_G} {dA : Nat → ClassId} {base t0 : Nat} {l : Launch} (hT : l.stackTraces = false) (a0 : Nat) (x1 : Int32) (h : zz_H) (n : Nat) {r0 : (UInt64 ⊕ Nat)} (hf : f_X9_meanTop a0 x1 h = some r0) : zz_MX D dA base t0 l yX9_meanTop cX9_meanTop 3 (some .double) rm_X9_meanTop [.ref a0, .int x1] h n (zz_ov (fun v : UInt64 => some (Value.double v)) r0) h n := by
  refine vx_ofW (cc := cX9_meanTop) (maxL := 3) (ret := (some .double)) (by decide +kernel) rfl ?_
  intro p e s m args below meth c s₁ B hml hE hv
  obtain ⟨rfl, hP, hK⟩ := hv
  have X : zz_X D dA base t0 "Springseat" cX9_meanTop 3 (some .double) l p s m meth c := ⟨B.exec, B.bytes, hml, B.returns, findClass_of_methodNamed B.named, B.notSynchronized, hT, by rw [hP.1]; exact hP.2.1, hK⟩
  have hx := X.1
  have hb := X.2.1
  have hown := X.2.2.2.2.1
  have hR : zz_R D dA base h n s s.heap [] := ⟨hP, va_S.rf⟩
  have hl := lv_entry ([.ref a0, .int x1]) (n := 3) (by exact Nat.le_of_ble_eq_true rfl)
  rw [lg_entry_eq]
  generalize (lg_sl ([.ref a0, .int x1]) ++ List.replicate (3 - (lg_sl ([.ref a0, .int x1])).length) Slot.unset).toArray = ls at hl ⊢
  have hl : lv_has ls 3 [(0, .ref a0), (1, .int x1)] := hl
  unfold f_X9_meanTop at hf
  refine lv_aload_n hx hb dX9_meanTop_0 rfl (lv_at hl 0 rfl) ?_
  refine lv_iload_n hx hb dX9_meanTop_1 rfl (lv_at hl 1 rfl) ?_
  obtain ⟨fs2, ho2, hf⟩ := zz_obS_i hf
  refine zx_cV X hE hR hl.1 (As := [.int x1]) (rest := []) (C := RX9) (T := TX9) (N := 6) (ov := (fun v : Option Nat => some (va_rf v))) (fun r hr => mt_X9_seatOf hT a0 x1 h n hr) rfl ho2 mf_X9_seatOf q_172 q_174 qs_3 ⟨Nat.le_of_ble_eq_true rfl, Nat.le_of_ble_eq_true rfl⟩ ⟨Nat.le_of_ble_eq_true rfl, Nat.le_of_ble_eq_true rfl⟩ rfl (Nat.le_of_ble_eq_true rfl) dX9_meanTop_2 hf (fun k e => by cases e; exact ⟨rfl, rfl, Nat.le_refl _⟩) (Nat.le_of_ble_eq_true rfl) (Nat.le_of_ble_eq_true rfl) (fun v2 hf H locs hR => ?_)
  refine W.eq (g2 := F0 m 5 ls [va_rf v2]) rfl ?_
  refine W.widen (k := 1) (n := 6) (Nat.le_of_ble_eq_true rfl) (Nat.le_of_ble_eq_true rfl) ?_
  refine zr_astore_n (i := 2) (lv' := [(2, va_rf v2), (0, .ref a0), (1, .int x1)]) hx hb dX9_meanTop_5 rfl hl (by decide) rfl (fun ls hl => ?_)
  refine zr_aload_n hx hb dX9_meanTop_6 rfl (lv_at hl 0 rfl) ?_
  obtain ⟨b7, fs7, hr7, ho7, hf⟩ := zz_ob_i hf
  obtain ⟨v7, hv7, hf⟩ := zz_b_i hf
  refine zr_cV X hR hl.1 (As := []) (rest := []) (C := RX7) (T := TX7) (N := 6) (mt_X7_topsInAll hT b7 h n hv7) rfl ho7 mf_X7_topsInAll q_331 q_332 q_333 ⟨Nat.le_of_ble_eq_true rfl, Nat.le_of_ble_eq_true rfl⟩ ⟨Nat.le_of_ble_eq_true rfl, Nat.le_of_ble_eq_true rfl⟩ (by rw [hr7]; rfl) (Nat.le_of_ble_eq_true rfl) dX9_meanTop_7 (fun H locs hR => ?_)
  refine W.eq (g2 := F0 m 10 ls [.int v7]) rfl ?_
  refine lv_i2d hx hb dX9_meanTop_10 ?_
  refine zr_aload_n hx hb dX9_meanTop_11 rfl (lv_at hl 0 rfl) ?_
  refine zr_gqN X hR (r := v2) fn_X9_66 dX9_meanTop_12 hf (fun v12 hf => ?_)
  obtain ⟨b15, fs15, hr15, ho15, hf⟩ := zz_ob_i hf
  obtain ⟨v15, hv15, hf⟩ := zz_b_i hf
  refine zr_cV X hR hl.1 (As := []) (rest := [.double (FP.i2d v7)]) (C := RX3) (T := TX3) (N := 7) (mt_X3_cellCount hT b15 h n hv15) rfl ho15 mf_X3_cellCount q_384 q_289 q_290 ⟨Nat.le_of_ble_eq_true rfl, Nat.le_of_ble_eq_true rfl⟩ ⟨Nat.le_of_ble_eq_true rfl, Nat.le_of_ble_eq_true rfl⟩ (by rw [hr15]; rfl) (Nat.le_of_ble_eq_true rfl) dX9_meanTop_15 (fun H locs hR => ?_)
  refine W.eq (g2 := F0 m 18 ls [.int v15, .double (FP.i2d v7)]) rfl ?_
  refine lv_i2d hx hb dX9_meanTop_18 ?_
  obtain ⟨hne19, hf⟩ := zz_nd_i hf
  refine lv_ddiv hx hb dX9_meanTop_19 hne19 ?_
  cases hf
  exact zx_ret (zr_dret X hR dX9_meanTop_20 (Nat.le_of_ble_eq_true rfl) (Nat.le_of_ble_eq_true rfl))
def rm_X9_liesApart : Room := { frames := 3, cells := 0, slots := 0, locals := 64 }
theorem mf_X9_liesApart : zz_Mf yX9_liesApart cX9_liesApart 3 (some .boolean) 1 := ⟨q_434, q_1, by decide +kernel, by decide +kernel, by decide +kernel⟩
set_option maxHeartbeats 4000000 in
set_option maxRecDepth 100000 in
theorem bk_X9_liesApart_2 {D : va_G} {dA : Nat → ClassId} {base t0 : Nat} {l : Launch} {p : Program} {e : Env} {s : State} {m : MethodId} {args : Array Value} {below : List Frame} {meth : Method} {c : Code} (X : zz_X D dA base t0 "Springseat" cX9_liesApart 3 (some .boolean) l p s m meth c) (hT : l.stackTraces = false) {a0 : Nat} {x1 : (Option Nat)} {x2 : Int32} {h : zz_H} {n : Nat} {H : Heap} {locs : List Loc} {ls : Array Slot} (hR : zz_R D dA base h n s H locs) (hl : lv_has ls 3 [(0, .ref a0), (1, va_rf x1), (2, .int x2)]) {r0 : Int32} {o : (Int32 ⊕ Int32)} (hf : f_X9_liesApart_2 a0 x1 x2 h = some o) (k0 : ∀ (w2 : Int32), o = (.inl w2) → ∀ {H : Heap} {locs : List Loc} {ls : Array Slot}, zz_R D dA base h n s H locs → lv_has ls 3 [(0, .ref a0), (1, va_rf x1), (2, .int w2)] → W p l e rm_X9_liesApart s m args below meth c H locs 0 0 (MQ below (zz_Qc D dA base (some (.int r0)) h n) args s rm_X9_liesApart.cells rm_X9_liesApart.slots (fun q => base ≤ q)) (F0 m 2 ls [])) (hret : ∀ r, o = (.inr r) → r = r0) : W p l e rm_X9_liesApart s m args below meth c H locs 0 0 (MQ below (zz_Qc D dA base (some (.int r0)) h n) args s rm_X9_liesApart.cells rm_X9_liesApart.slots (fun q => base ≤ q)) (F0 m 2 ls []) := by
  have hx := X.1
  have hb := X.2.1
  have hown := X.2.2.2.2.1
  unfold f_X9_liesApart_2 at hf
  refine lv_iload_n hx hb dX9_liesApart_2 rfl (lv_at hl 2 rfl) ?_
  refine lv_aload_n hx hb dX9_liesApart_3 rfl (lv_at hl 0 rfl) ?_
  refine zr_gq X hR (r := (some a0)) fl_X9_10 dX9_liesApart_4 hf (fun v4 hf => ?_)
  obtain ⟨b7, fs7, hr7, ho7, hf⟩ := zz_ob_i hf
  obtain ⟨v7, hv7, hf⟩ := zz_b_i hf
  refine zr_cV X hR hl.1 (As := []) (rest := [.int x2]) (C := RJx4a65c) (T := TJx4a65c) (N := 3) (mt_Jx4a65c_size_8abf5 hT b7 h n hv7) rfl ho7 mf_Jx4a65c_size_8abf5 q_176 q_177 q_178 ⟨Nat.le_of_ble_eq_true rfl, Nat.le_of_ble_eq_true rfl⟩ ⟨Nat.le_of_ble_eq_true rfl, Nat.le_of_ble_eq_true rfl⟩ (by rw [hr7]; rfl) (Nat.le_of_ble_eq_true rfl) dX9_liesApart_7 (fun H locs hR => ?_)
  refine W.eq (g2 := F0 m 10 ls [.int v7, .int x2]) rfl ?_
  refine lv_icmp_ge (tgt := 42) hx hb dX9_liesApart_10 (by decide) (fun c10 => ?_) (fun c10 => ?_)
  · replace hf := zz_pos c10 hf
    refine lv_iconst (v := (1 : Int32)) hx hb dX9_liesApart_42 (by decide) ?_
    cases hf
    cases hret _ rfl
    exact zr_zret X hR (v := (1 : Int32)) rfl dX9_liesApart_43 (Nat.le_of_ble_eq_true rfl) (Nat.le_of_ble_eq_true rfl)
  · replace hf := zz_neg c10 hf
    refine zr_aload_n hx hb dX9_liesApart_13 rfl (lv_at hl 1 rfl) ?_
    refine lv_aload_n hx hb dX9_liesApart_14 rfl (lv_at hl 0 rfl) ?_
    refine zr_gq X hR (r := (some a0)) fl_X9_10 dX9_liesApart_15 hf (fun v15 hf => ?_)
    refine lv_iload_n hx hb dX9_liesApart_18 rfl (lv_at hl 2 rfl) ?_
    obtain ⟨b19, fs19, hr19, ho19, hf⟩ := zz_ob_i hf
    obtain ⟨v19, hv19, hf⟩ := zz_b_i hf
    refine zr_cV X hR hl.1 (As := [.int x2]) (rest := [va_rf x1]) (C := RJx4a65c) (T := TJx4a65c) (N := 3) (mt_Jx4a65c_get_915e3 hT b19 x2 h n hv19) rfl ho19 mf_Jx4a65c_get_915e3 q_253 q_254 q_255 ⟨Nat.le_of_ble_eq_true rfl, Nat.le_of_ble_eq_true rfl⟩ ⟨Nat.le_of_ble_eq_true rfl, Nat.le_of_ble_eq_true rfl⟩ (by rw [hr19]; rfl) (Nat.le_of_ble_eq_true rfl) dX9_liesApart_19 (fun H locs hR => ?_)
    refine W.eq (g2 := F0 m 22 ls [va_rf v19, va_rf x1]) rfl ?_
    refine zr_cc X hR (ci := 8) (C := RX7) (T := TX7) (N := 6) (r := v19) rfl q_267 (Or.inr trivial) dX9_liesApart_22 hf (fun hf => ?_)
    refine zr_gqN X hR (r := v19) fn_X9_267 dX9_liesApart_25 hf (fun v25 hf => ?_)
    obtain ⟨b28, fs28, hr28, ho28, hf⟩ := zz_ob_i hf
    obtain ⟨v28, hv28, hf⟩ := zz_b_i hf
    refine zr_cV X hR hl.1 (As := [va_rf v25]) (rest := []) (C := RX1) (T := TX1) (N := 7) (mt_X1_overlaps hT b28 v25 h n hv28) rfl ho28 mf_X1_overlaps q_435 q_436 q_437 ⟨Nat.le_of_ble_eq_true rfl, Nat.le_of_ble_eq_true rfl⟩ ⟨Nat.le_of_ble_eq_true rfl, Nat.le_of_ble_eq_true rfl⟩ (by rw [hr28]; rfl) (Nat.le_of_ble_eq_true rfl) dX9_liesApart_28 (fun H locs hR => ?_)
    refine W.eq (g2 := F0 m 31 ls [.int v28]) rfl ?_
    refine lv_if_eq (tgt := 36) hx hb dX9_liesApart_31 (by decide) (fun c31 => ?_) (fun c31 => ?_)
    · replace hf := zz_pos c31 hf
      refine lv_iinc (i := 2) (v := (x2 + (1 : Int32))) (lv' := [(2, .int (x2 + (1 : Int32))), (0, .ref a0), (1, va_rf x1)]) hx hb dX9_liesApart_36 hl (k := 2) rfl rfl (by decide) (by simp [zz_cat, zz_catI, zz_catR, zz_catJ, zz_catF, zz_catD]) (fun ls hl => ?_)
      refine lv_goto (tgt := 2) hx hb dX9_liesApart_39 (by decide) ?_
      cases hf
      exact k0 _ rfl hR (lv_sub hl [1, 2, 0] rfl)
    · replace hf := zz_neg c31 hf
      refine lv_iconst (v := (0 : Int32)) hx hb dX9_liesApart_34 (by decide) ?_
      cases hf
      cases hret _ rfl
      exact zr_zret X hR (v := (0 : Int32)) rfl dX9_liesApart_35 (Nat.le_of_ble_eq_true rfl) (Nat.le_of_ble_eq_true rfl)
set_option maxHeartbeats 4000000 in
set_option maxRecDepth 100000 in
theorem lp_X9_liesApart_2 {D : va_G} {dA : Nat → ClassId} {base t0 : Nat} {l : Launch} {p : Program} {e : Env} {s : State} {m : MethodId} {args : Array Value} {below : List Frame} {meth : Method} {c : Code} (X : zz_X D dA base t0 "Springseat" cX9_liesApart 3 (some .boolean) l p s m meth c) (hT : l.stackTraces = false) (a0 : Nat) (x1 : (Option Nat)) {h : zz_H} {n : Nat} {r0 : Int32} : ∀ (k : Nat) (x2 : Int32), zz_it (fun s : Int32 => f_X9_liesApart_2 a0 x1 s h) k x2 = some r0 → ∀ {H : Heap} {locs : List Loc} {ls : Array Slot}, zz_R D dA base h n s H locs → lv_has ls 3 [(0, .ref a0), (1, va_rf x1), (2, .int x2)] → W p l e rm_X9_liesApart s m args below meth c H locs 0 0 (MQ below (zz_Qc D dA base (some (.int r0)) h n) args s rm_X9_liesApart.cells rm_X9_liesApart.slots (fun q => base ≤ q)) (F0 m 2 ls []) := by
  intro k
  induction k with
  | zero => intro x2 hf; cases hf
  | succ k ih =>
    intro x2 hf H locs ls hR hl
    rcases zz_it_s hf with ⟨y0, h1, h2⟩ | h1
    · exact bk_X9_liesApart_2 (r0 := r0) X hT hR hl h1  (fun z0 e => by cases e; exact ih _ h2) (fun r e => by cases e)
    · exact bk_X9_liesApart_2 (r0 := r0) X hT hR hl h1  (fun z0 e => by cases e) (fun r e => (Sum.inr.inj e).symm)
set_option maxHeartbeats 4000000 in
set_option maxRecDepth 100000 in
theorem mt_X9_liesApart {D : va_G} {dA : Nat → ClassId} {base t0 : Nat} {l : Launch} (hT : l.stackTraces = false) (a0 : Nat) (x1 : (Option Nat)) (h : zz_H) (n : Nat) {r0 : Int32} (hf : f_X9_liesApart a0 x1 h = some r0) : zz_M D dA base t0 l yX9_liesApart cX9_liesApart 3 (some .boolean) rm_X9_liesApart [.ref a0, va_rf x1] h n (some (.int r0)) h n := by
  refine Met.ofW (cc := cX9_liesApart) (maxL := 3) (ret := (some .boolean)) (by decide +kernel) rfl ?_
  intro p e s m args below meth c s₁ B hml hv
  obtain ⟨rfl, hP, hK⟩ := hv
  have X : zz_X D dA base t0 "Springseat" cX9_liesApart 3 (some .boolean) l p s m meth c := ⟨B.exec, B.bytes, hml, B.returns, findClass_of_methodNamed B.named, B.notSynchronized, hT, by rw [hP.1]; exact hP.2.1, hK⟩
  have hx := X.1
  have hb := X.2.1
  have hown := X.2.2.2.2.1
  have hR : zz_R D dA base h n s s.heap [] := ⟨hP, va_S.rf⟩
  have hl := lv_entry ([.ref a0, va_rf x1]) (n := 3) (by cases x1 <;> exact Nat.le_of_ble_eq_true rfl)
  rw [lg_entry_eq]
  generalize (lg_sl ([.ref a0, va_rf x1]) ++ List.replicate (3 - (lg_sl ([.ref a0, va_rf x1])).length) Slot.unset).toArray = ls at hl ⊢
  have hl : lv_has ls 3 [(0, .ref a0), (1, va_rf x1)] := by rw [show ([(0, .ref a0), (1, va_rf x1)] : List (Nat × Value)) = lv_args 0 [.ref a0, va_rf x1] from by cases x1 <;> rfl]; exact hl
  unfold f_X9_liesApart at hf
  refine lv_iconst (v := (0 : Int32)) hx hb dX9_liesApart_0 (by decide) ?_
  refine lv_istore_n (i := 2) (lv' := [(2, .int (0 : Int32)), (0, .ref a0), (1, va_rf x1)]) hx hb dX9_liesApart_1 rfl hl (by decide) (by simp [zz_cat, zz_catI, zz_catR, zz_catJ, zz_catF, zz_catD]) (fun ls hl => ?_)
  exact lp_X9_liesApart_2 X hT a0 x1 zz_F _ hf hR (lv_sub hl [1, 2, 0] rfl)
def rm_X9_sinksSoundly : Room := { frames := 5, cells := 0, slots := 0, locals := 115 }
theorem mf_X9_sinksSoundly : zz_Mf yX9_sinksSoundly cX9_sinksSoundly 3 (some .boolean) 1 := ⟨q_442, q_1, by decide +kernel, by decide +kernel, by decide +kernel⟩
set_option maxHeartbeats 4000000 in
set_option maxRecDepth 100000 in
theorem bk_X9_sinksSoundly_2 {D : va_G} {dA : Nat → ClassId} {base t0 : Nat} {l : Launch} {p : Program} {e : Env} {s : State} {m : MethodId} {args : Array Value} {below : List Frame} {meth : Method} {c : Code} (X : zz_X D dA base t0 "Springseat" cX9_sinksSoundly 3 (some .boolean) l p s m meth c) (hT : l.stackTraces = false) {a0 : Nat} {x1 : (Option Nat)} {x2 : Int32} {h : zz_H} {n : Nat} {H : Heap} {locs : List Loc} {ls : Array Slot} (hR : zz_R D dA base h n s H locs) (hl : lv_has ls 3 [(0, .ref a0), (1, va_rf x1), (2, .int x2)]) {r0 : Int32} {hF : zz_H} {o : ((Int32 × zz_H) ⊕ (Int32 × zz_H))} (hf : f_X9_sinksSoundly_2 a0 x1 x2 h = some o) (k0 : ∀ (w2 : Int32) (hw : zz_H), o = (.inl (w2, hw)) → ∀ {H : Heap} {locs : List Loc} {ls : Array Slot}, zz_R D dA base hw n s H locs → lv_has ls 3 [(0, .ref a0), (1, va_rf x1), (2, .int w2)] → W p l e rm_X9_sinksSoundly s m args below meth c H locs 0 0 (MQ below (zz_Qc D dA base (some (.int r0)) hF n) args s rm_X9_sinksSoundly.cells rm_X9_sinksSoundly.slots (fun q => base ≤ q)) (F0 m 2 ls [])) (hret : ∀ r, o = (.inr r) → r = (r0, hF)) : W p l e rm_X9_sinksSoundly s m args below meth c H locs 0 0 (MQ below (zz_Qc D dA base (some (.int r0)) hF n) args s rm_X9_sinksSoundly.cells rm_X9_sinksSoundly.slots (fun q => base ≤ q)) (F0 m 2 ls []) := by
  have hx := X.1
  have hb := X.2.1
  have hown := X.2.2.2.2.1
  unfold f_X9_sinksSoundly_2 at hf
  refine lv_iload_n hx hb dX9_sinksSoundly_2 rfl (lv_at hl 2 rfl) ?_
  refine lv_aload_n hx hb dX9_sinksSoundly_3 rfl (lv_at hl 0 rfl) ?_
  refine zr_gq X hR (r := (some a0)) fl_X9_16 dX9_sinksSoundly_4 hf (fun v4 hf => ?_)
  obtain ⟨b7, fs7, hr7, ho7, hf⟩ := zz_ob_i hf
  obtain ⟨v7, hv7, hf⟩ := zz_b_i hf
  refine zr_cV X hR hl.1 (As := []) (rest := [.int x2]) (C := RJx4a65c) (T := TJx4a65c) (N := 3) (mt_Jx4a65c_size_8abf5 hT b7 h n hv7) rfl ho7 mf_Jx4a65c_size_8abf5 q_176 q_177 q_178 ⟨Nat.le_of_ble_eq_true rfl, Nat.le_of_ble_eq_true rfl⟩ ⟨Nat.le_of_ble_eq_true rfl, Nat.le_of_ble_eq_true rfl⟩ (by rw [hr7]; rfl) (Nat.le_of_ble_eq_true rfl) dX9_sinksSoundly_7 (fun H locs hR => ?_)
  refine W.eq (g2 := F0 m 10 ls [.int v7, .int x2]) rfl ?_
  refine lv_icmp_ge (tgt := 51) hx hb dX9_sinksSoundly_10 (by decide) (fun c10 => ?_) (fun c10 => ?_)
  · replace hf := zz_pos c10 hf
    refine lv_iconst (v := (1 : Int32)) hx hb dX9_sinksSoundly_51 (by decide) ?_
    cases hf
    cases hret _ rfl
    exact zr_zret X hR (v := (1 : Int32)) rfl dX9_sinksSoundly_52 (Nat.le_of_ble_eq_true rfl) (Nat.le_of_ble_eq_true rfl)
  · replace hf := zz_neg c10 hf
    refine zr_aload_n hx hb dX9_sinksSoundly_13 rfl (lv_at hl 1 rfl) ?_
    refine lv_aload_n hx hb dX9_sinksSoundly_14 rfl (lv_at hl 0 rfl) ?_
    refine zr_gq X hR (r := (some a0)) fl_X9_16 dX9_sinksSoundly_15 hf (fun v15 hf => ?_)
    refine lv_iload_n hx hb dX9_sinksSoundly_18 rfl (lv_at hl 2 rfl) ?_
    obtain ⟨b19, fs19, hr19, ho19, hf⟩ := zz_ob_i hf
    obtain ⟨v19, hv19, hf⟩ := zz_b_i hf
    refine zr_cV X hR hl.1 (As := [.int x2]) (rest := [va_rf x1]) (C := RJx4a65c) (T := TJx4a65c) (N := 3) (mt_Jx4a65c_get_915e3 hT b19 x2 h n hv19) rfl ho19 mf_Jx4a65c_get_915e3 q_253 q_254 q_255 ⟨Nat.le_of_ble_eq_true rfl, Nat.le_of_ble_eq_true rfl⟩ ⟨Nat.le_of_ble_eq_true rfl, Nat.le_of_ble_eq_true rfl⟩ (by rw [hr19]; rfl) (Nat.le_of_ble_eq_true rfl) dX9_sinksSoundly_19 (fun H locs hR => ?_)
    refine W.eq (g2 := F0 m 22 ls [va_rf v19, va_rf x1]) rfl ?_
    refine zr_cc X hR (ci := 5) (C := RX4) (T := TX4) (N := 1) (r := v19) rfl q_62 (Or.inr trivial) dX9_sinksSoundly_22 hf (fun hf => ?_)
    refine lv_aload_n hx hb dX9_sinksSoundly_25 rfl (lv_at hl 0 rfl) ?_
    refine zr_gq X hR (r := (some a0)) fl_X9_28 dX9_sinksSoundly_26 hf (fun v26 hf => ?_)
    obtain ⟨b29, fs29, hr29, ho29, hf⟩ := zz_ob_i hf
    obtain ⟨u29, h29, hv29, hf⟩ := zz_b1_i hf
    refine zr_cV X hR hl.1 (As := [va_rf v19, va_rf v26]) (rest := []) (C := RX7) (T := TX7) (N := 6) (mt_X7_tellSinking hT b29 v19 v26 h n hv29) rfl ho29 mf_X7_tellSinking q_443 q_444 q_445 ⟨Nat.le_of_ble_eq_true rfl, Nat.le_of_ble_eq_true rfl⟩ ⟨Nat.le_of_ble_eq_true rfl, Nat.le_of_ble_eq_true rfl⟩ (by rw [hr29]; rfl) (Nat.le_of_ble_eq_true rfl) dX9_sinksSoundly_29 (fun H locs hR => ?_)
    refine W.eq (g2 := F0 m 32 ls []) rfl ?_
    refine zr_aload_n hx hb dX9_sinksSoundly_32 rfl (lv_at hl 1 rfl) ?_
    refine lv_aload_n hx hb dX9_sinksSoundly_33 rfl (lv_at hl 0 rfl) ?_
    refine zr_gq X hR (r := (some a0)) fl_X9_28 dX9_sinksSoundly_34 hf (fun v34 hf => ?_)
    obtain ⟨b37, fs37, hr37, ho37, hf⟩ := zz_ob_i hf
    obtain ⟨v37, hv37, hf⟩ := zz_b_i hf
    refine zr_cV X hR hl.1 (As := [va_rf v34]) (rest := []) (C := RX7) (T := TX7) (N := 6) (mt_X7_slopesGently hT b37 v34 h29 n hv37) rfl ho37 mf_X7_slopesGently q_476 q_477 q_478 ⟨Nat.le_of_ble_eq_true rfl, Nat.le_of_ble_eq_true rfl⟩ ⟨Nat.le_of_ble_eq_true rfl, Nat.le_of_ble_eq_true rfl⟩ (by rw [hr37]; rfl) (Nat.le_of_ble_eq_true rfl) dX9_sinksSoundly_37 (fun H locs hR => ?_)
    refine W.eq (g2 := F0 m 40 ls [.int v37]) rfl ?_
    refine lv_if_ne (tgt := 45) hx hb dX9_sinksSoundly_40 (by decide) (fun c40 => ?_) (fun c40 => ?_)
    · replace hf := zz_neg c40 hf
      refine lv_iinc (i := 2) (v := (x2 + (1 : Int32))) (lv' := [(2, .int (x2 + (1 : Int32))), (0, .ref a0), (1, va_rf x1)]) hx hb dX9_sinksSoundly_45 hl (k := 2) rfl rfl (by decide) (by simp [zz_cat, zz_catI, zz_catR, zz_catJ, zz_catF, zz_catD]) (fun ls hl => ?_)
      refine lv_goto (tgt := 2) hx hb dX9_sinksSoundly_48 (by decide) ?_
      cases hf
      exact k0 _ _ rfl hR (lv_sub hl [1, 2, 0] rfl)
    · replace hf := zz_pos c40 hf
      refine lv_iconst (v := (0 : Int32)) hx hb dX9_sinksSoundly_43 (by decide) ?_
      cases hf
      cases hret _ rfl
      exact zr_zret X hR (v := (0 : Int32)) rfl dX9_sinksSoundly_44 (Nat.le_of_ble_eq_true rfl) (Nat.le_of_ble_eq_true rfl)
set_option maxHeartbeats 4000000 in
set_option maxRecDepth 100000 in
theorem lp_X9_sinksSoundly_2 {D : va_G} {dA : Nat → ClassId} {base t0 : Nat} {l : Launch} {p : Program} {e : Env} {s : State} {m : MethodId} {args : Array Value} {below : List Frame} {meth : Method} {c : Code} (X : zz_X D dA base t0 "Springseat" cX9_sinksSoundly 3 (some .boolean) l p s m meth c) (hT : l.stackTraces = false) (a0 : Nat) (x1 : (Option Nat)) {n : Nat} {r0 : Int32} {hF : zz_H} : ∀ (k : Nat) (x2 : Int32) (h : zz_H), zz_it (fun s : (Int32 × zz_H) => f_X9_sinksSoundly_2 a0 x1 s.1 s.2) k (x2, h) = some (r0, hF) → ∀ {H : Heap} {locs : List Loc} {ls : Array Slot}, zz_R D dA base h n s H locs → lv_has ls 3 [(0, .ref a0), (1, va_rf x1), (2, .int x2)] → W p l e rm_X9_sinksSoundly s m args below meth c H locs 0 0 (MQ below (zz_Qc D dA base (some (.int r0)) hF n) args s rm_X9_sinksSoundly.cells rm_X9_sinksSoundly.slots (fun q => base ≤ q)) (F0 m 2 ls []) := by
  intro k
  induction k with
  | zero => intro x2 h hf; cases hf
  | succ k ih =>
    intro x2 h hf H locs ls hR hl
    rcases zz_it_s hf with ⟨⟨y0, y1⟩, h1, h2⟩ | h1
    · exact bk_X9_sinksSoundly_2 (r0 := r0) X hT hR hl h1  (fun z0 z1 e => by cases e; exact ih _ _ h2) (fun r e => by cases e)
    · exact bk_X9_sinksSoundly_2 (r0 := r0) X hT hR hl h1  (fun z0 z1 e => by cases e) (fun r e => (Sum.inr.inj e).symm)
set_option maxHeartbeats 4000000 in
set_option maxRecDepth 100000 in
theorem mt_X9_sinksSoundly {D : va_G} {dA : Nat → ClassId} {base t0 : Nat} {l : Launch} (hT : l.stackTraces = false) (a0 : Nat) (x1 : (Option Nat)) (h : zz_H) (n : Nat) {r0 : Int32} {hF : zz_H} (hf : f_X9_sinksSoundly a0 x1 h = some (r0, hF)) : zz_M D dA base t0 l yX9_sinksSoundly cX9_sinksSoundly 3 (some .boolean) rm_X9_sinksSoundly [.ref a0, va_rf x1] h n (some (.int r0)) hF n := by
  refine Met.ofW (cc := cX9_sinksSoundly) (maxL := 3) (ret := (some .boolean)) (by decide +kernel) rfl ?_
  intro p e s m args below meth c s₁ B hml hv
  obtain ⟨rfl, hP, hK⟩ := hv
  have X : zz_X D dA base t0 "Springseat" cX9_sinksSoundly 3 (some .boolean) l p s m meth c := ⟨B.exec, B.bytes, hml, B.returns, findClass_of_methodNamed B.named, B.notSynchronized, hT, by rw [hP.1]; exact hP.2.1, hK⟩
  have hx := X.1
  have hb := X.2.1
  have hown := X.2.2.2.2.1
  have hR : zz_R D dA base h n s s.heap [] := ⟨hP, va_S.rf⟩
  have hl := lv_entry ([.ref a0, va_rf x1]) (n := 3) (by cases x1 <;> exact Nat.le_of_ble_eq_true rfl)
  rw [lg_entry_eq]
  generalize (lg_sl ([.ref a0, va_rf x1]) ++ List.replicate (3 - (lg_sl ([.ref a0, va_rf x1])).length) Slot.unset).toArray = ls at hl ⊢
  have hl : lv_has ls 3 [(0, .ref a0), (1, va_rf x1)] := by rw [show ([(0, .ref a0), (1, va_rf x1)] : List (Nat × Value)) = lv_args 0 [.ref a0, va_rf x1] from by cases x1 <;> rfl]; exact hl
  unfold f_X9_sinksSoundly at hf
  refine lv_iconst (v := (0 : Int32)) hx hb dX9_sinksSoundly_0 (by decide) ?_
  refine lv_istore_n (i := 2) (lv' := [(2, .int (0 : Int32)), (0, .ref a0), (1, va_rf x1)]) hx hb dX9_sinksSoundly_1 rfl hl (by decide) (by simp [zz_cat, zz_catI, zz_catR, zz_catJ, zz_catF, zz_catD]) (fun ls hl => ?_)
  exact lp_X9_sinksSoundly_2 X hT a0 x1 zz_F _ _ hf hR (lv_sub hl [1, 2, 0] rfl)
def rm_X9_isSound : Room := { frames := 6, cells := 0, slots := 0, locals := 137 }
theorem mf_X9_isSound : zz_Mf yX9_isSound cX9_isSound 3 (some .boolean) 0 := ⟨q_388, q_1, by decide +kernel, by decide +kernel, by decide +kernel⟩
set_option maxHeartbeats 4000000 in
set_option maxRecDepth 100000 in
theorem bk_X9_isSound_71 {D : va_G} {dA : Nat → ClassId} {base t0 : Nat} {l : Launch} {p : Program} {e : Env} {s : State} {m : MethodId} {args : Array Value} {below : List Frame} {meth : Method} {c : Code} (X : zz_X D dA base t0 "Springseat" cX9_isSound 3 (some .boolean) l p s m meth c) (hT : l.stackTraces = false) {h : zz_H} {n : Nat} {H : Heap} {locs : List Loc} {ls : Array Slot} (hR : zz_R D dA base h n s H locs) (hl : lv_has ls 3 []) {r0 : Int32} {hF : zz_H} (hf : f_X9_isSound_71 h = some (r0, hF)) : W p l e rm_X9_isSound s m args below meth c H locs 0 0 (MQ below (zz_Qc D dA base (some (.int r0)) hF n) args s rm_X9_isSound.cells rm_X9_isSound.slots (fun q => base ≤ q)) (F0 m 71 ls []) := by
  have hx := X.1
  have hb := X.2.1
  have hown := X.2.2.2.2.1
  unfold f_X9_isSound_71 at hf
  refine lv_iconst (v := (0 : Int32)) hx hb dX9_isSound_71 (by decide) ?_
  cases hf
  exact zr_zret X hR (v := (0 : Int32)) rfl dX9_isSound_72 (Nat.le_of_ble_eq_true rfl) (Nat.le_of_ble_eq_true rfl)
set_option maxHeartbeats 4000000 in
set_option maxRecDepth 100000 in
theorem bk_X9_isSound_2 {D : va_G} {dA : Nat → ClassId} {base t0 : Nat} {l : Launch} {p : Program} {e : Env} {s : State} {m : MethodId} {args : Array Value} {below : List Frame} {meth : Method} {c : Code} (X : zz_X D dA base t0 "Springseat" cX9_isSound 3 (some .boolean) l p s m meth c) (hT : l.stackTraces = false) {a0 : Nat} {x1 : Int32} {h : zz_H} {n : Nat} {H : Heap} {locs : List Loc} {ls : Array Slot} (hR : zz_R D dA base h n s H locs) (hl : lv_has ls 3 [(0, .ref a0), (1, .int x1)]) {r0 : Int32} {hF : zz_H} {o : ((Int32 × zz_H) ⊕ (Int32 × zz_H))} (hf : f_X9_isSound_2 a0 x1 h = some o) (k0 : ∀ (w1 : Int32) (hw : zz_H), o = (.inl (w1, hw)) → ∀ {H : Heap} {locs : List Loc} {ls : Array Slot}, zz_R D dA base hw n s H locs → lv_has ls 3 [(0, .ref a0), (1, .int w1)] → W p l e rm_X9_isSound s m args below meth c H locs 0 0 (MQ below (zz_Qc D dA base (some (.int r0)) hF n) args s rm_X9_isSound.cells rm_X9_isSound.slots (fun q => base ≤ q)) (F0 m 2 ls [])) (hret : ∀ r, o = (.inr r) → r = (r0, hF)) : W p l e rm_X9_isSound s m args below meth c H locs 0 0 (MQ below (zz_Qc D dA base (some (.int r0)) hF n) args s rm_X9_isSound.cells rm_X9_isSound.slots (fun q => base ≤ q)) (F0 m 2 ls []) := by
  have hx := X.1
  have hb := X.2.1
  have hown := X.2.2.2.2.1
  unfold f_X9_isSound_2 at hf
  refine lv_iload_n hx hb dX9_isSound_2 rfl (lv_at hl 1 rfl) ?_
  refine lv_aload_n hx hb dX9_isSound_3 rfl (lv_at hl 0 rfl) ?_
  refine zr_gq X hR (r := (some a0)) fl_X9_10 dX9_isSound_4 hf (fun v4 hf => ?_)
  obtain ⟨b7, fs7, hr7, ho7, hf⟩ := zz_ob_i hf
  obtain ⟨v7, hv7, hf⟩ := zz_b_i hf
  refine zr_cV X hR hl.1 (As := []) (rest := [.int x1]) (C := RJx4a65c) (T := TJx4a65c) (N := 3) (mt_Jx4a65c_size_8abf5 hT b7 h n hv7) rfl ho7 mf_Jx4a65c_size_8abf5 q_176 q_177 q_178 ⟨Nat.le_of_ble_eq_true rfl, Nat.le_of_ble_eq_true rfl⟩ ⟨Nat.le_of_ble_eq_true rfl, Nat.le_of_ble_eq_true rfl⟩ (by rw [hr7]; rfl) (Nat.le_of_ble_eq_true rfl) dX9_isSound_7 (fun H locs hR => ?_)
  refine W.eq (g2 := F0 m 10 ls [.int v7, .int x1]) rfl ?_
  refine lv_icmp_ge (tgt := 79) hx hb dX9_isSound_10 (by decide) (fun c10 => ?_) (fun c10 => ?_)
  · replace hf := zz_pos c10 hf
    refine lv_iconst (v := (1 : Int32)) hx hb dX9_isSound_79 (by decide) ?_
    cases hf
    cases hret _ rfl
    exact zr_zret X hR (v := (1 : Int32)) rfl dX9_isSound_80 (Nat.le_of_ble_eq_true rfl) (Nat.le_of_ble_eq_true rfl)
  · replace hf := zz_neg c10 hf
    refine lv_aload_n hx hb dX9_isSound_13 rfl (lv_at hl 0 rfl) ?_
    refine zr_gq X hR (r := (some a0)) fl_X9_10 dX9_isSound_14 hf (fun v14 hf => ?_)
    refine lv_iload_n hx hb dX9_isSound_17 rfl (lv_at hl 1 rfl) ?_
    obtain ⟨b18, fs18, hr18, ho18, hf⟩ := zz_ob_i hf
    obtain ⟨v18, hv18, hf⟩ := zz_b_i hf
    refine zr_cV X hR hl.1 (As := [.int x1]) (rest := []) (C := RJx4a65c) (T := TJx4a65c) (N := 3) (mt_Jx4a65c_get_915e3 hT b18 x1 h n hv18) rfl ho18 mf_Jx4a65c_get_915e3 q_253 q_254 q_255 ⟨Nat.le_of_ble_eq_true rfl, Nat.le_of_ble_eq_true rfl⟩ ⟨Nat.le_of_ble_eq_true rfl, Nat.le_of_ble_eq_true rfl⟩ (by rw [hr18]; rfl) (Nat.le_of_ble_eq_true rfl) dX9_isSound_18 (fun H locs hR => ?_)
    refine W.eq (g2 := F0 m 21 ls [va_rf v18]) rfl ?_
    refine zr_cc X hR (ci := 8) (C := RX7) (T := TX7) (N := 6) (r := v18) rfl q_267 (Or.inr trivial) dX9_isSound_21 hf (fun hf => ?_)
    refine zr_astore_n (i := 2) (lv' := [(2, va_rf v18), (0, .ref a0), (1, .int x1)]) hx hb dX9_isSound_24 rfl hl (by decide) rfl (fun ls hl => ?_)
    refine zr_aload_n hx hb dX9_isSound_25 rfl (lv_at hl 0 rfl) ?_
    refine zr_gqN X hR (r := v18) fn_X9_76 dX9_isSound_26 hf (fun v26 hf => ?_)
    obtain ⟨b29, fs29, hr29, ho29, hf⟩ := zz_ob_i hf
    obtain ⟨v29, hv29, hf⟩ := zz_b_i hf
    refine zr_cV X hR hl.1 (As := []) (rest := []) (C := RX8) (T := TX8) (N := 3) (mt_X8_areInOrder hT b29 h n hv29) rfl ho29 mf_X8_areInOrder q_389 q_390 q_391 ⟨Nat.le_of_ble_eq_true rfl, Nat.le_of_ble_eq_true rfl⟩ ⟨Nat.le_of_ble_eq_true rfl, Nat.le_of_ble_eq_true rfl⟩ (by rw [hr29]; rfl) (Nat.le_of_ble_eq_true rfl) dX9_isSound_29 (fun H locs hR => ?_)
    refine W.eq (g2 := F0 m 32 ls [.int v29]) rfl ?_
    refine lv_if_eq (tgt := 71) hx hb dX9_isSound_32 (by decide) (fun c32 => ?_) (fun c32 => ?_)
    · replace hf := zz_pos c32 hf
      obtain ⟨o1, hf1, he⟩ := Option.map_eq_some_iff.mp hf
      cases he
      cases hret _ rfl
      exact bk_X9_isSound_71 X hT hR (lv_sub hl [] rfl) hf1
    · replace hf := zz_neg c32 hf
      refine zr_aload_n hx hb dX9_isSound_35 rfl (lv_at hl 0 rfl) ?_
      obtain ⟨b36, fs36, hr36, ho36, hf⟩ := zz_ob_i hf
      obtain ⟨v36, hv36, hf⟩ := zz_b_i hf
      refine zr_cV X hR hl.1 (As := []) (rest := []) (C := RX7) (T := TX7) (N := 6) (mt_X7_hasSoundTops hT b36 h n hv36) rfl ho36 mf_X7_hasSoundTops q_402 q_403 q_404 ⟨Nat.le_of_ble_eq_true rfl, Nat.le_of_ble_eq_true rfl⟩ ⟨Nat.le_of_ble_eq_true rfl, Nat.le_of_ble_eq_true rfl⟩ (by rw [hr36]; rfl) (Nat.le_of_ble_eq_true rfl) dX9_isSound_36 (fun H locs hR => ?_)
      refine W.eq (g2 := F0 m 39 ls [.int v36]) rfl ?_
      refine lv_if_eq (tgt := 71) hx hb dX9_isSound_39 (by decide) (fun c39 => ?_) (fun c39 => ?_)
      · replace hf := zz_pos c39 hf
        obtain ⟨o1, hf1, he⟩ := Option.map_eq_some_iff.mp hf
        cases he
        cases hret _ rfl
        exact bk_X9_isSound_71 X hT hR (lv_sub hl [] rfl) hf1
      · replace hf := zz_neg c39 hf
        refine zr_aload_n hx hb dX9_isSound_42 rfl (lv_at hl 0 rfl) ?_
        refine zr_gqN X hR (r := v18) fn_X9_267 dX9_isSound_43 hf (fun v43 hf => ?_)
        obtain ⟨b46, fs46, hr46, ho46, hf⟩ := zz_ob_i hf
        obtain ⟨v46, hv46, hf⟩ := zz_b_i hf
        refine zr_cV X hR hl.1 (As := []) (rest := []) (C := RX1) (T := TX1) (N := 7) (mt_X1_fitsItsCloth hT b46 h n hv46) rfl ho46 mf_X1_fitsItsCloth q_406 q_407 q_408 ⟨Nat.le_of_ble_eq_true rfl, Nat.le_of_ble_eq_true rfl⟩ ⟨Nat.le_of_ble_eq_true rfl, Nat.le_of_ble_eq_true rfl⟩ (by rw [hr46]; rfl) (Nat.le_of_ble_eq_true rfl) dX9_isSound_46 (fun H locs hR => ?_)
        refine W.eq (g2 := F0 m 49 ls [.int v46]) rfl ?_
        refine lv_if_eq (tgt := 71) hx hb dX9_isSound_49 (by decide) (fun c49 => ?_) (fun c49 => ?_)
        · replace hf := zz_pos c49 hf
          obtain ⟨o1, hf1, he⟩ := Option.map_eq_some_iff.mp hf
          cases he
          cases hret _ rfl
          exact bk_X9_isSound_71 X hT hR (lv_sub hl [] rfl) hf1
        · replace hf := zz_neg c49 hf
          refine lv_aload_n hx hb dX9_isSound_52 rfl (lv_at hl 1 rfl) ?_
          refine zr_aload_n hx hb dX9_isSound_53 rfl (lv_at hl 0 rfl) ?_
          refine zr_gqN X hR (r := v18) fn_X9_267 dX9_isSound_54 hf (fun v54 hf => ?_)
          obtain ⟨fs57, ho57, hf⟩ := zz_obS_i hf
          obtain ⟨v57, hv57, hf⟩ := zz_b_i hf
          refine zr_cV X hR hl.1 (As := [va_rf v54]) (rest := []) (C := RX9) (T := TX9) (N := 6) (mt_X9_liesApart hT a0 v54 h n hv57) rfl ho57 mf_X9_liesApart q_431 q_433 qs_9 ⟨Nat.le_of_ble_eq_true rfl, Nat.le_of_ble_eq_true rfl⟩ ⟨Nat.le_of_ble_eq_true rfl, Nat.le_of_ble_eq_true rfl⟩ rfl (Nat.le_of_ble_eq_true rfl) dX9_isSound_57 (fun H locs hR => ?_)
          refine W.eq (g2 := F0 m 60 ls [.int v57]) rfl ?_
          refine lv_if_eq (tgt := 71) hx hb dX9_isSound_60 (by decide) (fun c60 => ?_) (fun c60 => ?_)
          · replace hf := zz_pos c60 hf
            obtain ⟨o1, hf1, he⟩ := Option.map_eq_some_iff.mp hf
            cases he
            cases hret _ rfl
            exact bk_X9_isSound_71 X hT hR (lv_sub hl [] rfl) hf1
          · replace hf := zz_neg c60 hf
            refine lv_aload_n hx hb dX9_isSound_63 rfl (lv_at hl 1 rfl) ?_
            refine zr_aload_n hx hb dX9_isSound_64 rfl (lv_at hl 0 rfl) ?_
            obtain ⟨fs65, ho65, hf⟩ := zz_obS_i hf
            obtain ⟨v65, h65, hv65, hf⟩ := zz_b1_i hf
            refine zr_cV X hR hl.1 (As := [va_rf v18]) (rest := []) (C := RX9) (T := TX9) (N := 6) (mt_X9_sinksSoundly hT a0 v18 h n hv65) rfl ho65 mf_X9_sinksSoundly q_439 q_441 qs_10 ⟨Nat.le_of_ble_eq_true rfl, Nat.le_of_ble_eq_true rfl⟩ ⟨Nat.le_of_ble_eq_true rfl, Nat.le_of_ble_eq_true rfl⟩ rfl (Nat.le_of_ble_eq_true rfl) dX9_isSound_65 (fun H locs hR => ?_)
            refine W.eq (g2 := F0 m 68 ls [.int v65]) rfl ?_
            refine lv_if_ne (tgt := 73) hx hb dX9_isSound_68 (by decide) (fun c68 => ?_) (fun c68 => ?_)
            · replace hf := zz_neg c68 hf
              refine lv_iinc (i := 1) (v := (x1 + (1 : Int32))) (lv' := [(1, .int (x1 + (1 : Int32))), (2, va_rf v18), (0, .ref a0)]) hx hb dX9_isSound_73 hl (k := 2) rfl rfl (by decide) rfl (fun ls hl => ?_)
              refine lv_goto (tgt := 2) hx hb dX9_isSound_76 (by decide) ?_
              cases hf
              exact k0 _ _ rfl hR (lv_sub hl [2, 0] rfl)
            · replace hf := zz_pos c68 hf
              obtain ⟨o1, hf1, he⟩ := Option.map_eq_some_iff.mp hf
              cases he
              cases hret _ rfl
              exact bk_X9_isSound_71 X hT hR (lv_sub hl [] rfl) hf1
set_option maxHeartbeats 4000000 in
set_option maxRecDepth 100000 in
theorem lp_X9_isSound_2 {D : va_G} {dA : Nat → ClassId} {base t0 : Nat} {l : Launch} {p : Program} {e : Env} {s : State} {m : MethodId} {args : Array Value} {below : List Frame} {meth : Method} {c : Code} (X : zz_X D dA base t0 "Springseat" cX9_isSound 3 (some .boolean) l p s m meth c) (hT : l.stackTraces = false) (a0 : Nat) {n : Nat} {r0 : Int32} {hF : zz_H} : ∀ (k : Nat) (x1 : Int32) (h : zz_H), zz_it (fun s : (Int32 × zz_H) => f_X9_isSound_2 a0 s.1 s.2) k (x1, h) = some (r0, hF) → ∀ {H : Heap} {locs : List Loc} {ls : Array Slot}, zz_R D dA base h n s H locs → lv_has ls 3 [(0, .ref a0), (1, .int x1)] → W p l e rm_X9_isSound s m args below meth c H locs 0 0 (MQ below (zz_Qc D dA base (some (.int r0)) hF n) args s rm_X9_isSound.cells rm_X9_isSound.slots (fun q => base ≤ q)) (F0 m 2 ls []) := by
  intro k
  induction k with
  | zero => intro x1 h hf; cases hf
  | succ k ih =>
    intro x1 h hf H locs ls hR hl
    rcases zz_it_s hf with ⟨⟨y0, y1⟩, h1, h2⟩ | h1
    · exact bk_X9_isSound_2 (r0 := r0) X hT hR hl h1  (fun z0 z1 e => by cases e; exact ih _ _ h2) (fun r e => by cases e)
    · exact bk_X9_isSound_2 (r0 := r0) X hT hR hl h1  (fun z0 z1 e => by cases e) (fun r e => (Sum.inr.inj e).symm)
set_option maxHeartbeats 4000000 in
set_option maxRecDepth 100000 in
theorem mt_X9_isSound {D : va_G} {dA : Nat → ClassId} {base t0 : Nat} {l : Launch} (hT : l.stackTraces = false) (a0 : Nat) (h : zz_H) (n : Nat) {r0 : Int32} {hF : zz_H} (hf : f_X9_isSound a0 h = some (r0, hF)) : zz_M D dA base t0 l yX9_isSound cX9_isSound 3 (some .boolean) rm_X9_isSound [.ref a0] h n (some (.int r0)) hF n := by
  refine Met.ofW (cc := cX9_isSound) (maxL := 3) (ret := (some .boolean)) (by decide +kernel) rfl ?_
  intro p e s m args below meth c s₁ B hml hv
  obtain ⟨rfl, hP, hK⟩ := hv
  have X : zz_X D dA base t0 "Springseat" cX9_isSound 3 (some .boolean) l p s m meth c := ⟨B.exec, B.bytes, hml, B.returns, findClass_of_methodNamed B.named, B.notSynchronized, hT, by rw [hP.1]; exact hP.2.1, hK⟩
  have hx := X.1
  have hb := X.2.1
  have hown := X.2.2.2.2.1
  have hR : zz_R D dA base h n s s.heap [] := ⟨hP, va_S.rf⟩
  have hl := lv_entry ([.ref a0]) (n := 3) (by exact Nat.le_of_ble_eq_true rfl)
  rw [lg_entry_eq]
  generalize (lg_sl ([.ref a0]) ++ List.replicate (3 - (lg_sl ([.ref a0])).length) Slot.unset).toArray = ls at hl ⊢
  have hl : lv_has ls 3 [(0, .ref a0)] := hl
  unfold f_X9_isSound at hf
  refine lv_iconst (v := (0 : Int32)) hx hb dX9_isSound_0 (by decide) ?_
  refine lv_istore_n (i := 1) (lv' := [(1, .int (0 : Int32)), (0, .ref a0)]) hx hb dX9_isSound_1 rfl hl (by decide) rfl (fun ls hl => ?_)
  exact lp_X9_isSound_2 X hT a0 zz_F _ _ hf hR (lv_sub hl [1, 0] rfl)
def rm_L_cell : Room := { frames := 0, cells := 0, slots := 0, locals := 0 }
theorem mf_L_cell : zz_Mf yL_cell cL_cell 3 (some .int) 2 := ⟨q_1005, q_0, by decide +kernel, by decide +kernel, by decide +kernel⟩
set_option maxHeartbeats 4000000 in
set_option maxRecDepth 100000 in
theorem bk_L_cell_15 {D : va_G} {dA : Nat → ClassId} {base t0 : Nat} {l : Launch} {p : Program} {e : Env} {s : State} {m : MethodId} {args : Array Value} {below : List Frame} {meth : Method} {c : Code} (X : zz_X D dA base t0 "SpringseatLaw" cL_cell 3 (some .int) l p s m meth c) (hT : l.stackTraces = false) {x1 : Int32} {s0 : Int32} {s1 : Int32} {h : zz_H} {n : Nat} {H : Heap} {locs : List Loc} {ls : Array Slot} (hR : zz_R D dA base h n s H locs) (hl : lv_has ls 3 [(1, .int x1)]) {r0 : Int32} (hf : f_L_cell_15 x1 s0 s1 h = some r0) : W p l e rm_L_cell s m args below meth c H locs 0 0 (MQ below (zz_Qc D dA base (some (.int r0)) h n) args s rm_L_cell.cells rm_L_cell.slots (fun q => base ≤ q)) (F0 m 15 ls [.int s0, .int s1]) := by
  have hx := X.1
  have hb := X.2.1
  have hown := X.2.2.2.2.1
  unfold f_L_cell_15 at hf
  refine lv_sipush (v := (1009 : Int32)) hx hb dL_cell_15 (by decide) ?_
  refine lv_iload_n hx hb dL_cell_18 rfl (lv_at hl 0 rfl) ?_
  refine lv_imul hx hb dL_cell_19 ?_
  refine lv_iadd hx hb dL_cell_20 ?_
  refine lv_imul hx hb dL_cell_21 ?_
  refine lv_sipush (v := (12345 : Int32)) hx hb dL_cell_22 (by decide) ?_
  refine lv_iadd hx hb dL_cell_25 ?_
  refine lv_istore_n (i := 2) (lv' := [(2, .int ((s1 * (s0 + ((1009 : Int32) * x1))) + (12345 : Int32))), (1, .int x1)]) hx hb dL_cell_26 rfl hl (by decide) rfl (fun ls hl => ?_)
  refine lv_iload_n hx hb dL_cell_27 rfl (lv_at hl 0 rfl) ?_
  refine lv_iload_n hx hb dL_cell_28 rfl (lv_at hl 0 rfl) ?_
  refine lv_bipush (v := (13 : Int32)) hx hb dL_cell_29 (by decide) ?_
  refine lv_iushr hx hb dL_cell_31 rfl ?_
  refine lv_ixor hx hb dL_cell_32 ?_
  refine lv_ldc hx hb hown (zz_w X q_1007) dL_cell_33 ?_
  refine lv_imul hx hb dL_cell_35 ?_
  refine lv_istore_n (i := 2) (lv' := [(2, .int ((((s1 * (s0 + ((1009 : Int32) * x1))) + (12345 : Int32)) ^^^ (zz_ush ((s1 * (s0 + ((1009 : Int32) * x1))) + (12345 : Int32)) (13 : Int32))) * (1103515245 : Int32))), (1, .int x1)]) hx hb dL_cell_36 rfl hl (by decide) rfl (fun ls hl => ?_)
  refine lv_iload_n hx hb dL_cell_37 rfl (lv_at hl 0 rfl) ?_
  refine lv_iload_n hx hb dL_cell_38 rfl (lv_at hl 0 rfl) ?_
  refine lv_bipush (v := (16 : Int32)) hx hb dL_cell_39 (by decide) ?_
  refine lv_iushr hx hb dL_cell_41 rfl ?_
  refine lv_ixor hx hb dL_cell_42 ?_
  cases hf
  exact zr_iret X hR dL_cell_43 (Nat.le_of_ble_eq_true rfl) (Nat.le_of_ble_eq_true rfl)
set_option maxHeartbeats 4000000 in
set_option maxRecDepth 100000 in
theorem mt_L_cell {D : va_G} {dA : Nat → ClassId} {base t0 : Nat} {l : Launch} (hT : l.stackTraces = false) (x0 : Nat) (x1 : Int32) (h : zz_H) (n : Nat) {r0 : Int32} (hf : f_L_cell x0 x1 h = some r0) : zz_M D dA base t0 l yL_cell cL_cell 3 (some .int) rm_L_cell [.ref x0, .int x1] h n (some (.int r0)) h n := by
  refine Met.ofW (cc := cL_cell) (maxL := 3) (ret := (some .int)) (by decide +kernel) rfl ?_
  intro p e s m args below meth c s₁ B hml hv
  obtain ⟨rfl, hP, hK⟩ := hv
  have X : zz_X D dA base t0 "SpringseatLaw" cL_cell 3 (some .int) l p s m meth c := ⟨B.exec, B.bytes, hml, B.returns, findClass_of_methodNamed B.named, B.notSynchronized, hT, by rw [hP.1]; exact hP.2.1, hK⟩
  have hx := X.1
  have hb := X.2.1
  have hown := X.2.2.2.2.1
  have hR : zz_R D dA base h n s s.heap [] := ⟨hP, va_S.rf⟩
  have hl := lv_entry ([.ref x0, .int x1]) (n := 3) (by exact Nat.le_of_ble_eq_true rfl)
  rw [lg_entry_eq]
  generalize (lg_sl ([.ref x0, .int x1]) ++ List.replicate (3 - (lg_sl ([.ref x0, .int x1])).length) Slot.unset).toArray = ls at hl ⊢
  have hl : lv_has ls 3 [(0, .ref x0), (1, .int x1)] := hl
  unfold f_L_cell at hf
  refine lv_ldc hx hb hown (zz_w X q_1006) dL_cell_0 ?_
  refine lv_iload_n hx hb dL_cell_2 rfl (lv_at hl 1 rfl) ?_
  refine lv_aload_n hx hb dL_cell_3 rfl (lv_at hl 0 rfl) ?_
  refine zr_alen X hR (r := (some x0)) dL_cell_4 hf (fun v4 hf => ?_)
  refine lv_icmp_ge (tgt := 14) hx hb dL_cell_5 (by decide) (fun c5 => ?_) (fun c5 => ?_)
  · replace hf := zz_pos c5 hf
    refine lv_iconst (v := (0 : Int32)) hx hb dL_cell_14 (by decide) ?_
    exact bk_L_cell_15 X hT hR (lv_sub hl [1] rfl) hf
  · replace hf := zz_neg c5 hf
    refine lv_aload_n hx hb dL_cell_8 rfl (lv_at hl 0 rfl) ?_
    refine lv_iload_n hx hb dL_cell_9 rfl (lv_at hl 1 rfl) ?_
    refine zr_iald12 X hR (r := (some x0)) dL_cell_10 hf (fun v10 hf => ?_)
    refine lv_goto (tgt := 15) hx hb dL_cell_11 (by decide) ?_
    exact bk_L_cell_15 X hT hR (lv_sub hl [1] rfl) hf
def rm_L_in : Room := { frames := 1, cells := 0, slots := 0, locals := 22 }
theorem mf_L_in : zz_Mf yL_in cL_in 3 (some .int) 3 := ⟨q_1002, q_0, by decide +kernel, by decide +kernel, by decide +kernel⟩
set_option maxHeartbeats 4000000 in
set_option maxRecDepth 100000 in
theorem mt_L_in {D : va_G} {dA : Nat → ClassId} {base t0 : Nat} {l : Launch} (hT : l.stackTraces = false) (x0 : Nat) (x1 : Int32) (x2 : Int32) (h : zz_H) (n : Nat) {r0 : Int32} (hf : f_L_in x0 x1 x2 h = some r0) : zz_M D dA base t0 l yL_in cL_in 3 (some .int) rm_L_in [.ref x0, .int x1, .int x2] h n (some (.int r0)) h n := by
  refine Met.ofW (cc := cL_in) (maxL := 3) (ret := (some .int)) (by decide +kernel) rfl ?_
  intro p e s m args below meth c s₁ B hml hv
  obtain ⟨rfl, hP, hK⟩ := hv
  have X : zz_X D dA base t0 "SpringseatLaw" cL_in 3 (some .int) l p s m meth c := ⟨B.exec, B.bytes, hml, B.returns, findClass_of_methodNamed B.named, B.notSynchronized, hT, by rw [hP.1]; exact hP.2.1, hK⟩
  have hx := X.1
  have hb := X.2.1
  have hown := X.2.2.2.2.1
  have hR : zz_R D dA base h n s s.heap [] := ⟨hP, va_S.rf⟩
  have hl := lv_entry ([.ref x0, .int x1, .int x2]) (n := 3) (by exact Nat.le_of_ble_eq_true rfl)
  rw [lg_entry_eq]
  generalize (lg_sl ([.ref x0, .int x1, .int x2]) ++ List.replicate (3 - (lg_sl ([.ref x0, .int x1, .int x2])).length) Slot.unset).toArray = ls at hl ⊢
  have hl : lv_has ls 3 [(0, .ref x0), (1, .int x1), (2, .int x2)] := hl
  unfold f_L_in at hf
  refine lv_aload_n hx hb dL_in_0 rfl (lv_at hl 0 rfl) ?_
  refine lv_iload_n hx hb dL_in_1 rfl (lv_at hl 1 rfl) ?_
  obtain ⟨v2, hv2, hf⟩ := zz_b_i hf
  refine zr_cS X hR hl.1 (As := [.ref x0, .int x1]) (rest := []) (mt_L_cell hT x0 x1 h n hv2) mf_L_cell q_1003 q_1004 ⟨Nat.le_of_ble_eq_true rfl, Nat.le_of_ble_eq_true rfl⟩ ⟨Nat.le_of_ble_eq_true rfl, Nat.le_of_ble_eq_true rfl⟩ rfl (Nat.le_of_ble_eq_true rfl) dL_in_2 (fun H locs hR => ?_)
  refine W.eq (g2 := F0 m 5 ls [.int v2]) rfl ?_
  refine lv_ldc hx hb hown (zz_w X q_1008) dL_in_5 ?_
  refine lv_iand hx hb dL_in_7 ?_
  refine lv_iload_n hx hb dL_in_8 rfl (lv_at hl 2 rfl) ?_
  obtain ⟨hne9, hf⟩ := zz_dv_i hf
  refine lv_irem hx hb dL_in_9 hne9 ?_
  cases hf
  exact zr_iret X hR dL_in_10 (Nat.le_of_ble_eq_true rfl) (Nat.le_of_ble_eq_true rfl)
def rm_L_thickOf : Room := { frames := 0, cells := 0, slots := 0, locals := 0 }
theorem mf_L_thickOf : zz_Mf yL_thickOf cL_thickOf 5 (some .int) 4 := ⟨q_1014, q_0, by decide +kernel, by decide +kernel, by decide +kernel⟩
set_option maxHeartbeats 4000000 in
set_option maxRecDepth 100000 in
theorem bk_L_thickOf_26 {D : va_G} {dA : Nat → ClassId} {base t0 : Nat} {l : Launch} {p : Program} {e : Env} {s : State} {m : MethodId} {args : Array Value} {below : List Frame} {meth : Method} {c : Code} (X : zz_X D dA base t0 "SpringseatLaw" cL_thickOf 5 (some .int) l p s m meth c) (hT : l.stackTraces = false) {x1 : Int32} {x2 : Int32} {x3 : Int32} {s0 : Int32} {h : zz_H} {n : Nat} {H : Heap} {locs : List Loc} {ls : Array Slot} (hR : zz_R D dA base h n s H locs) (hl : lv_has ls 5 [(1, .int x1), (2, .int x2), (3, .int x3)]) {r0 : Int32} (hf : f_L_thickOf_26 x1 x2 x3 s0 h = some r0) : W p l e rm_L_thickOf s m args below meth c H locs 0 0 (MQ below (zz_Qc D dA base (some (.int r0)) h n) args s rm_L_thickOf.cells rm_L_thickOf.slots (fun q => base ≤ q)) (F0 m 26 ls [.int s0]) := by
  have hx := X.1
  have hb := X.2.1
  have hown := X.2.2.2.2.1
  unfold f_L_thickOf_26 at hf
  refine lv_istore (i := 4) (lv' := [(4, .int s0), (1, .int x1), (2, .int x2), (3, .int x3)]) hx hb dL_thickOf_26 hl (by decide) rfl (fun ls hl => ?_)
  refine lv_iload_n hx hb dL_thickOf_28 rfl (lv_at hl 1 rfl) ?_
  refine lv_iload_n hx hb dL_thickOf_29 rfl (lv_at hl 1 rfl) ?_
  refine lv_i2l hx hb dL_thickOf_30 rfl ?_
  refine lv_iload_n hx hb dL_thickOf_31 rfl (lv_at hl 3 rfl) ?_
  refine lv_i2l hx hb dL_thickOf_32 rfl ?_
  refine lv_lmul hx hb dL_thickOf_33 ?_
  refine lv_ldc2 hx hb hown (zz_w X q_1015) dL_thickOf_34 ?_
  refine lv_iload_n hx hb dL_thickOf_37 rfl (lv_at hl 3 rfl) ?_
  refine lv_iload hx hb dL_thickOf_38 (lv_at hl 0 rfl) ?_
  refine lv_iload_n hx hb dL_thickOf_40 rfl (lv_at hl 2 rfl) ?_
  refine lv_imul hx hb dL_thickOf_41 ?_
  refine lv_iadd hx hb dL_thickOf_42 ?_
  refine lv_i2l hx hb dL_thickOf_43 rfl ?_
  refine lv_lmul hx hb dL_thickOf_44 ?_
  obtain ⟨hne45, hf⟩ := zz_dl_i hf
  refine lv_ldiv hx hb dL_thickOf_45 hne45 ?_
  refine lv_l2i hx hb dL_thickOf_46 rfl ?_
  refine lv_isub hx hb dL_thickOf_47 ?_
  cases hf
  exact zr_iret X hR dL_thickOf_48 (Nat.le_of_ble_eq_true rfl) (Nat.le_of_ble_eq_true rfl)
set_option maxHeartbeats 4000000 in
set_option maxRecDepth 100000 in
theorem mt_L_thickOf {D : va_G} {dA : Nat → ClassId} {base t0 : Nat} {l : Launch} (hT : l.stackTraces = false) (x0 : Int32) (x1 : Int32) (x2 : Int32) (x3 : Int32) (h : zz_H) (n : Nat) {r0 : Int32} (hf : f_L_thickOf x0 x1 x2 x3 h = some r0) : zz_M D dA base t0 l yL_thickOf cL_thickOf 5 (some .int) rm_L_thickOf [.int x0, .int x1, .int x2, .int x3] h n (some (.int r0)) h n := by
  refine Met.ofW (cc := cL_thickOf) (maxL := 5) (ret := (some .int)) (by decide +kernel) rfl ?_
  intro p e s m args below meth c s₁ B hml hv
  obtain ⟨rfl, hP, hK⟩ := hv
  have X : zz_X D dA base t0 "SpringseatLaw" cL_thickOf 5 (some .int) l p s m meth c := ⟨B.exec, B.bytes, hml, B.returns, findClass_of_methodNamed B.named, B.notSynchronized, hT, by rw [hP.1]; exact hP.2.1, hK⟩
  have hx := X.1
  have hb := X.2.1
  have hown := X.2.2.2.2.1
  have hR : zz_R D dA base h n s s.heap [] := ⟨hP, va_S.rf⟩
  have hl := lv_entry ([.int x0, .int x1, .int x2, .int x3]) (n := 5) (by exact Nat.le_of_ble_eq_true rfl)
  rw [lg_entry_eq]
  generalize (lg_sl ([.int x0, .int x1, .int x2, .int x3]) ++ List.replicate (5 - (lg_sl ([.int x0, .int x1, .int x2, .int x3])).length) Slot.unset).toArray = ls at hl ⊢
  have hl : lv_has ls 5 [(0, .int x0), (1, .int x1), (2, .int x2), (3, .int x3)] := hl
  unfold f_L_thickOf at hf
  refine lv_iload_n hx hb dL_thickOf_0 rfl (lv_at hl 0 rfl) ?_
  refine lv_bipush (v := (104 : Int32)) hx hb dL_thickOf_1 (by decide) ?_
  refine lv_icmp_ne (tgt := 12) hx hb dL_thickOf_3 (by decide) (fun c3 => ?_) (fun c3 => ?_)
  · replace hf := zz_neg c3 hf
    refine lv_iload_n hx hb dL_thickOf_12 rfl (lv_at hl 0 rfl) ?_
    refine lv_bipush (v := (102 : Int32)) hx hb dL_thickOf_13 (by decide) ?_
    refine lv_icmp_ne (tgt := 24) hx hb dL_thickOf_15 (by decide) (fun c15 => ?_) (fun c15 => ?_)
    · replace hf := zz_neg c15 hf
      refine lv_bipush (v := (100 : Int32)) hx hb dL_thickOf_24 (by decide) ?_
      exact bk_L_thickOf_26 X hT hR (lv_sub hl [1, 2, 3] rfl) hf
    · replace hf := zz_pos c15 hf
      refine lv_sipush (v := (400 : Int32)) hx hb dL_thickOf_18 (by decide) ?_
      refine lv_goto (tgt := 26) hx hb dL_thickOf_21 (by decide) ?_
      exact bk_L_thickOf_26 X hT hR (lv_sub hl [1, 2, 3] rfl) hf
  · replace hf := zz_pos c3 hf
    refine lv_sipush (v := (1000 : Int32)) hx hb dL_thickOf_6 (by decide) ?_
    refine lv_goto (tgt := 26) hx hb dL_thickOf_9 (by decide) ?_
    exact bk_L_thickOf_26 X hT hR (lv_sub hl [1, 2, 3] rfl) hf
end ZZM
