section ZZM
def rm_X7_hasSoundTops : Room := { frames := 5, cells := 0, slots := 0, locals := 107 }
theorem mf_X7_hasSoundTops : zz_Mf yX7_hasSoundTops cX7_hasSoundTops 2 (some .boolean) 0 := ⟨q_405, q_16, by decide +kernel, by decide +kernel, by decide +kernel⟩
set_option maxHeartbeats 4000000 in
set_option maxRecDepth 100000 in
theorem bk_X7_hasSoundTops_2 {D : va_G} {dA : Nat → ClassId} {base t0 : Nat} {l : Launch} {p : Program} {e : Env} {s : State} {m : MethodId} {args : Array Value} {below : List Frame} {meth : Method} {c : Code} (X : zz_X D dA base t0 "Springseat$Seat" cX7_hasSoundTops 2 (some .boolean) l p s m meth c) (hT : l.stackTraces = false) {a0 : Nat} {x1 : Int32} {h : zz_H} {n : Nat} {H : Heap} {locs : List Loc} {ls : Array Slot} (hR : zz_R D dA base h n s H locs) (hl : lv_has ls 2 [(0, .ref a0), (1, .int x1)]) {r0 : Int32} {o : (Int32 ⊕ Int32)} (hf : f_X7_hasSoundTops_2 a0 x1 h = some o) (k0 : ∀ (w1 : Int32), o = (.inl w1) → ∀ {H : Heap} {locs : List Loc} {ls : Array Slot}, zz_R D dA base h n s H locs → lv_has ls 2 [(0, .ref a0), (1, .int w1)] → W p l e rm_X7_hasSoundTops s m args below meth c H locs 0 0 (MQ below (zz_Qc D dA base (some (.int r0)) h n) args s rm_X7_hasSoundTops.cells rm_X7_hasSoundTops.slots (fun q => base ≤ q)) (F0 m 2 ls [])) (hret : ∀ r, o = (.inr r) → r = r0) : W p l e rm_X7_hasSoundTops s m args below meth c H locs 0 0 (MQ below (zz_Qc D dA base (some (.int r0)) h n) args s rm_X7_hasSoundTops.cells rm_X7_hasSoundTops.slots (fun q => base ≤ q)) (F0 m 2 ls []) := by
  have hx := X.1
  have hb := X.2.1
  have hown := X.2.2.2.2.1
  unfold f_X7_hasSoundTops_2 at hf
  refine lv_iload_n hx hb dX7_hasSoundTops_2 rfl (lv_at hl 1 rfl) ?_
  refine lv_aload_n hx hb dX7_hasSoundTops_3 rfl (lv_at hl 0 rfl) ?_
  refine zr_gq X hR (r := (some a0)) fl_X7_48 dX7_hasSoundTops_4 hf (fun v4 hf => ?_)
  obtain ⟨b7, fs7, hr7, ho7, hf⟩ := zz_ob_i hf
  obtain ⟨v7, hv7, hf⟩ := zz_b_i hf
  refine zr_cV X hR hl.1 (As := []) (rest := [.int x1]) (C := RX3) (T := TX3) (N := 7) (mt_X3_cellCount hT b7 h n hv7) rfl ho7 mf_X3_cellCount q_288 q_289 q_290 ⟨Nat.le_of_ble_eq_true rfl, Nat.le_of_ble_eq_true rfl⟩ ⟨Nat.le_of_ble_eq_true rfl, Nat.le_of_ble_eq_true rfl⟩ (by rw [hr7]; rfl) (Nat.le_of_ble_eq_true rfl) dX7_hasSoundTops_7 (fun H locs hR => ?_)
  refine W.eq (g2 := F0 m 10 ls [.int v7, .int x1]) rfl ?_
  refine lv_icmp_ge (tgt := 36) hx hb dX7_hasSoundTops_10 (by decide) (fun c10 => ?_) (fun c10 => ?_)
  · replace hf := zz_pos c10 hf
    refine lv_iconst (v := (1 : Int32)) hx hb dX7_hasSoundTops_36 (by decide) ?_
    cases hf
    cases hret _ rfl
    exact zr_zret X hR (v := (1 : Int32)) rfl dX7_hasSoundTops_37 (Nat.le_of_ble_eq_true rfl) (Nat.le_of_ble_eq_true rfl)
  · replace hf := zz_neg c10 hf
    refine lv_aload_n hx hb dX7_hasSoundTops_13 rfl (lv_at hl 0 rfl) ?_
    refine lv_aload_n hx hb dX7_hasSoundTops_14 rfl (lv_at hl 0 rfl) ?_
    refine zr_gq X hR (r := (some a0)) fl_X7_48 dX7_hasSoundTops_15 hf (fun v15 hf => ?_)
    refine lv_iload_n hx hb dX7_hasSoundTops_18 rfl (lv_at hl 1 rfl) ?_
    obtain ⟨b19, fs19, hr19, ho19, hf⟩ := zz_ob_i hf
    obtain ⟨v19, hv19, hf⟩ := zz_b_i hf
    refine zr_cV X hR hl.1 (As := [.int x1]) (rest := [.ref a0]) (C := RX3) (T := TX3) (N := 7) (mt_X3_cellAt hT b19 x1 h n hv19) rfl ho19 mf_X3_cellAt q_292 q_293 q_294 ⟨Nat.le_of_ble_eq_true rfl, Nat.le_of_ble_eq_true rfl⟩ ⟨Nat.le_of_ble_eq_true rfl, Nat.le_of_ble_eq_true rfl⟩ (by rw [hr19]; rfl) (Nat.le_of_ble_eq_true rfl) dX7_hasSoundTops_19 (fun H locs hR => ?_)
    refine W.eq (g2 := F0 m 22 ls [.int v19, .ref a0]) rfl ?_
    obtain ⟨fs22, ho22, hf⟩ := zz_obS_i hf
    obtain ⟨v22, hv22, hf⟩ := zz_b_i hf
    refine zr_cV X hR hl.1 (As := [.int v19]) (rest := []) (C := RX7) (T := TX7) (N := 6) (mt_X7_topOf hT a0 v19 h n hv22) rfl ho22 mf_X7_topOf q_335 q_336 q_337 ⟨Nat.le_of_ble_eq_true rfl, Nat.le_of_ble_eq_true rfl⟩ ⟨Nat.le_of_ble_eq_true rfl, Nat.le_of_ble_eq_true rfl⟩ rfl (Nat.le_of_ble_eq_true rfl) dX7_hasSoundTops_22 (fun H locs hR => ?_)
    refine W.eq (g2 := F0 m 25 ls [.int v22]) rfl ?_
    refine lv_if_ge (tgt := 30) hx hb dX7_hasSoundTops_25 (by decide) (fun c25 => ?_) (fun c25 => ?_)
    · replace hf := zz_pos c25 hf
      refine lv_iinc (i := 1) (v := (x1 + (1 : Int32))) (lv' := [(1, .int (x1 + (1 : Int32))), (0, .ref a0)]) hx hb dX7_hasSoundTops_30 hl (k := 1) rfl rfl (by decide) rfl (fun ls hl => ?_)
      refine lv_goto (tgt := 2) hx hb dX7_hasSoundTops_33 (by decide) ?_
      cases hf
      exact k0 _ rfl hR (lv_sub hl [1, 0] rfl)
    · replace hf := zz_neg c25 hf
      refine lv_iconst (v := (0 : Int32)) hx hb dX7_hasSoundTops_28 (by decide) ?_
      cases hf
      cases hret _ rfl
      exact zr_zret X hR (v := (0 : Int32)) rfl dX7_hasSoundTops_29 (Nat.le_of_ble_eq_true rfl) (Nat.le_of_ble_eq_true rfl)
set_option maxHeartbeats 4000000 in
set_option maxRecDepth 100000 in
theorem lp_X7_hasSoundTops_2 {D : va_G} {dA : Nat → ClassId} {base t0 : Nat} {l : Launch} {p : Program} {e : Env} {s : State} {m : MethodId} {args : Array Value} {below : List Frame} {meth : Method} {c : Code} (X : zz_X D dA base t0 "Springseat$Seat" cX7_hasSoundTops 2 (some .boolean) l p s m meth c) (hT : l.stackTraces = false) (a0 : Nat) {h : zz_H} {n : Nat} {r0 : Int32} : ∀ (k : Nat) (x1 : Int32), zz_it (fun s : Int32 => f_X7_hasSoundTops_2 a0 s h) k x1 = some r0 → ∀ {H : Heap} {locs : List Loc} {ls : Array Slot}, zz_R D dA base h n s H locs → lv_has ls 2 [(0, .ref a0), (1, .int x1)] → W p l e rm_X7_hasSoundTops s m args below meth c H locs 0 0 (MQ below (zz_Qc D dA base (some (.int r0)) h n) args s rm_X7_hasSoundTops.cells rm_X7_hasSoundTops.slots (fun q => base ≤ q)) (F0 m 2 ls []) := by
  intro k
  induction k with
  | zero => intro x1 hf; cases hf
  | succ k ih =>
    intro x1 hf H locs ls hR hl
    rcases zz_it_s hf with ⟨y0, h1, h2⟩ | h1
    · exact bk_X7_hasSoundTops_2 (r0 := r0) X hT hR hl h1  (fun z0 e => by cases e; exact ih _ h2) (fun r e => by cases e)
    · exact bk_X7_hasSoundTops_2 (r0 := r0) X hT hR hl h1  (fun z0 e => by cases e) (fun r e => (Sum.inr.inj e).symm)
set_option maxHeartbeats 4000000 in
set_option maxRecDepth 100000 in
theorem mt_X7_hasSoundTops {D : va_G} {dA : Nat → ClassId} {base t0 : Nat} {l : Launch} (hT : l.stackTraces = false) (a0 : Nat) (h : zz_H) (n : Nat) {r0 : Int32} (hf : f_X7_hasSoundTops a0 h = some r0) : zz_M D dA base t0 l yX7_hasSoundTops cX7_hasSoundTops 2 (some .boolean) rm_X7_hasSoundTops [.ref a0] h n (some (.int r0)) h n := by
  refine Met.ofW (cc := cX7_hasSoundTops) (maxL := 2) (ret := (some .boolean)) (by decide +kernel) rfl ?_
  intro p e s m args below meth c s₁ B hml hv
  obtain ⟨rfl, hP, hK⟩ := hv
  have X : zz_X D dA base t0 "Springseat$Seat" cX7_hasSoundTops 2 (some .boolean) l p s m meth c := ⟨B.exec, B.bytes, hml, B.returns, findClass_of_methodNamed B.named, B.notSynchronized, hT, by rw [hP.1]; exact hP.2.1, hK⟩
  have hx := X.1
  have hb := X.2.1
  have hown := X.2.2.2.2.1
  have hR : zz_R D dA base h n s s.heap [] := ⟨hP, va_S.rf⟩
  have hl := lv_entry ([.ref a0]) (n := 2) (by exact Nat.le_of_ble_eq_true rfl)
  rw [lg_entry_eq]
  generalize (lg_sl ([.ref a0]) ++ List.replicate (2 - (lg_sl ([.ref a0])).length) Slot.unset).toArray = ls at hl ⊢
  have hl : lv_has ls 2 [(0, .ref a0)] := hl
  unfold f_X7_hasSoundTops at hf
  refine lv_iconst (v := (0 : Int32)) hx hb dX7_hasSoundTops_0 (by decide) ?_
  refine lv_istore_n (i := 1) (lv' := [(1, .int (0 : Int32)), (0, .ref a0)]) hx hb dX7_hasSoundTops_1 rfl hl (by decide) rfl (fun ls hl => ?_)
  exact lp_X7_hasSoundTops_2 X hT a0 zz_F _ hf hR (lv_sub hl [1, 0] rfl)
def rm_X7_buttonCount : Room := { frames := 1, cells := 0, slots := 0, locals := 21 }
theorem mf_X7_buttonCount : zz_Mf yX7_buttonCount cX7_buttonCount 3 (some .int) 0 := ⟨q_808, q_16, by decide +kernel, by decide +kernel, by decide +kernel⟩
set_option maxHeartbeats 4000000 in
set_option maxRecDepth 100000 in
theorem bk_X7_buttonCount_36 {D : va_G} {dA : Nat → ClassId} {base t0 : Nat} {l : Launch} {p : Program} {e : Env} {s : State} {m : MethodId} {args : Array Value} {below : List Frame} {meth : Method} {c : Code} (X : zz_X D dA base t0 "Springseat$Seat" cX7_buttonCount 3 (some .int) l p s m meth c) (hT : l.stackTraces = false) {a0 : Nat} {x1 : Int32} {x2 : Int32} {h : zz_H} {n : Nat} {H : Heap} {locs : List Loc} {ls : Array Slot} (hR : zz_R D dA base h n s H locs) (hl : lv_has ls 3 [(0, .ref a0), (1, .int x1), (2, .int x2)]) {r0 : Int32} {o : ((Int32 × Int32) ⊕ Int32)} (hf : f_X7_buttonCount_36 a0 x1 x2 h = some o) (k0 : ∀ (w1 : Int32) (w2 : Int32), o = (.inl (w1, w2)) → ∀ {H : Heap} {locs : List Loc} {ls : Array Slot}, zz_R D dA base h n s H locs → lv_has ls 3 [(0, .ref a0), (1, .int w1), (2, .int w2)] → W p l e rm_X7_buttonCount s m args below meth c H locs 0 0 (MQ below (zz_Qc D dA base (some (.int r0)) h n) args s rm_X7_buttonCount.cells rm_X7_buttonCount.slots (fun q => base ≤ q)) (F0 m 4 ls [])) (hret : ∀ r, o = (.inr r) → r = r0) : W p l e rm_X7_buttonCount s m args below meth c H locs 0 0 (MQ below (zz_Qc D dA base (some (.int r0)) h n) args s rm_X7_buttonCount.cells rm_X7_buttonCount.slots (fun q => base ≤ q)) (F0 m 36 ls []) := by
  have hx := X.1
  have hb := X.2.1
  have hown := X.2.2.2.2.1
  unfold f_X7_buttonCount_36 at hf
  refine lv_iinc (i := 2) (v := (x2 + (1 : Int32))) (lv' := [(2, .int (x2 + (1 : Int32))), (0, .ref a0), (1, .int x1)]) hx hb dX7_buttonCount_36 hl (k := 2) rfl rfl (by decide) rfl (fun ls hl => ?_)
  refine lv_goto (tgt := 4) hx hb dX7_buttonCount_39 (by decide) ?_
  cases hf
  exact k0 _ _ rfl hR (lv_sub hl [1, 2, 0] rfl)
set_option maxHeartbeats 4000000 in
set_option maxRecDepth 100000 in
theorem bk_X7_buttonCount_4 {D : va_G} {dA : Nat → ClassId} {base t0 : Nat} {l : Launch} {p : Program} {e : Env} {s : State} {m : MethodId} {args : Array Value} {below : List Frame} {meth : Method} {c : Code} (X : zz_X D dA base t0 "Springseat$Seat" cX7_buttonCount 3 (some .int) l p s m meth c) (hT : l.stackTraces = false) {a0 : Nat} {x1 : Int32} {x2 : Int32} {h : zz_H} {n : Nat} {H : Heap} {locs : List Loc} {ls : Array Slot} (hR : zz_R D dA base h n s H locs) (hl : lv_has ls 3 [(0, .ref a0), (1, .int x1), (2, .int x2)]) {r0 : Int32} {o : ((Int32 × Int32) ⊕ Int32)} (hf : f_X7_buttonCount_4 a0 x1 x2 h = some o) (k0 : ∀ (w1 : Int32) (w2 : Int32), o = (.inl (w1, w2)) → ∀ {H : Heap} {locs : List Loc} {ls : Array Slot}, zz_R D dA base h n s H locs → lv_has ls 3 [(0, .ref a0), (1, .int w1), (2, .int w2)] → W p l e rm_X7_buttonCount s m args below meth c H locs 0 0 (MQ below (zz_Qc D dA base (some (.int r0)) h n) args s rm_X7_buttonCount.cells rm_X7_buttonCount.slots (fun q => base ≤ q)) (F0 m 4 ls [])) (hret : ∀ r, o = (.inr r) → r = r0) : W p l e rm_X7_buttonCount s m args below meth c H locs 0 0 (MQ below (zz_Qc D dA base (some (.int r0)) h n) args s rm_X7_buttonCount.cells rm_X7_buttonCount.slots (fun q => base ≤ q)) (F0 m 4 ls []) := by
  have hx := X.1
  have hb := X.2.1
  have hown := X.2.2.2.2.1
  unfold f_X7_buttonCount_4 at hf
  refine lv_iload_n hx hb dX7_buttonCount_4 rfl (lv_at hl 2 rfl) ?_
  refine lv_aload_n hx hb dX7_buttonCount_5 rfl (lv_at hl 0 rfl) ?_
  refine zr_gq X hR (r := (some a0)) fl_X7_48 dX7_buttonCount_6 hf (fun v6 hf => ?_)
  obtain ⟨b9, fs9, hr9, ho9, hf⟩ := zz_ob_i hf
  obtain ⟨v9, hv9, hf⟩ := zz_b_i hf
  refine zr_cV X hR hl.1 (As := []) (rest := [.int x2]) (C := RX3) (T := TX3) (N := 7) (mt_X3_cellCount hT b9 h n hv9) rfl ho9 mf_X3_cellCount q_288 q_289 q_290 ⟨Nat.le_of_ble_eq_true rfl, Nat.le_of_ble_eq_true rfl⟩ ⟨Nat.le_of_ble_eq_true rfl, Nat.le_of_ble_eq_true rfl⟩ (by rw [hr9]; rfl) (Nat.le_of_ble_eq_true rfl) dX7_buttonCount_9 (fun H locs hR => ?_)
  refine W.eq (g2 := F0 m 12 ls [.int v9, .int x2]) rfl ?_
  refine lv_icmp_ge (tgt := 42) hx hb dX7_buttonCount_12 (by decide) (fun c12 => ?_) (fun c12 => ?_)
  · replace hf := zz_pos c12 hf
    refine lv_iload_n hx hb dX7_buttonCount_42 rfl (lv_at hl 1 rfl) ?_
    cases hf
    cases hret _ rfl
    exact zr_iret X hR dX7_buttonCount_43 (Nat.le_of_ble_eq_true rfl) (Nat.le_of_ble_eq_true rfl)
  · replace hf := zz_neg c12 hf
    refine lv_aload_n hx hb dX7_buttonCount_15 rfl (lv_at hl 0 rfl) ?_
    refine zr_gq X hR (r := (some a0)) fl_X7_28 dX7_buttonCount_16 hf (fun v16 hf => ?_)
    refine lv_aload_n hx hb dX7_buttonCount_19 rfl (lv_at hl 0 rfl) ?_
    refine zr_gq X hR (r := (some a0)) fl_X7_48 dX7_buttonCount_20 hf (fun v20 hf => ?_)
    refine lv_iload_n hx hb dX7_buttonCount_23 rfl (lv_at hl 2 rfl) ?_
    obtain ⟨b24, fs24, hr24, ho24, hf⟩ := zz_ob_i hf
    obtain ⟨v24, hv24, hf⟩ := zz_b_i hf
    refine zr_cV X hR hl.1 (As := [.int x2]) (rest := [va_rf v16]) (C := RX3) (T := TX3) (N := 7) (mt_X3_cellAt hT b24 x2 h n hv24) rfl ho24 mf_X3_cellAt q_292 q_293 q_294 ⟨Nat.le_of_ble_eq_true rfl, Nat.le_of_ble_eq_true rfl⟩ ⟨Nat.le_of_ble_eq_true rfl, Nat.le_of_ble_eq_true rfl⟩ (by rw [hr24]; rfl) (Nat.le_of_ble_eq_true rfl) dX7_buttonCount_24 (fun H locs hR => ?_)
    refine W.eq (g2 := F0 m 27 ls [.int v24, va_rf v16]) rfl ?_
    obtain ⟨b27, fs27, hr27, ho27, hf⟩ := zz_ob_i hf
    obtain ⟨v27, hv27, hf⟩ := zz_b_i hf
    refine zr_cV X hR hl.1 (As := [.int v24]) (rest := []) (C := RX4) (T := TX4) (N := 1) (mt_X4_at hT b27 v24 h n hv27) rfl ho27 mf_X4_at q_301 q_302 q_303 ⟨Nat.le_of_ble_eq_true rfl, Nat.le_of_ble_eq_true rfl⟩ ⟨Nat.le_of_ble_eq_true rfl, Nat.le_of_ble_eq_true rfl⟩ (by rw [hr27]; rfl) (Nat.le_of_ble_eq_true rfl) dX7_buttonCount_27 (fun H locs hR => ?_)
    refine W.eq (g2 := F0 m 30 ls [.int v27]) rfl ?_
    refine lv_if_le (tgt := 36) hx hb dX7_buttonCount_30 (by decide) (fun c30 => ?_) (fun c30 => ?_)
    · replace hf := zz_pos c30 hf
      exact bk_X7_buttonCount_36 X hT hR (lv_sub hl [0, 1, 2] rfl) hf k0 hret
    · replace hf := zz_neg c30 hf
      refine lv_iinc (i := 1) (v := (x1 + (1 : Int32))) (lv' := [(1, .int (x1 + (1 : Int32))), (0, .ref a0), (2, .int x2)]) hx hb dX7_buttonCount_33 hl (k := 1) rfl rfl (by decide) rfl (fun ls hl => ?_)
      exact bk_X7_buttonCount_36 X hT hR (lv_sub hl [1, 0, 2] rfl) hf k0 hret
set_option maxHeartbeats 4000000 in
set_option maxRecDepth 100000 in
theorem lp_X7_buttonCount_4 {D : va_G} {dA : Nat → ClassId} {base t0 : Nat} {l : Launch} {p : Program} {e : Env} {s : State} {m : MethodId} {args : Array Value} {below : List Frame} {meth : Method} {c : Code} (X : zz_X D dA base t0 "Springseat$Seat" cX7_buttonCount 3 (some .int) l p s m meth c) (hT : l.stackTraces = false) (a0 : Nat) {h : zz_H} {n : Nat} {r0 : Int32} : ∀ (k : Nat) (x1 : Int32) (x2 : Int32), zz_it (fun s : (Int32 × Int32) => f_X7_buttonCount_4 a0 s.1 s.2 h) k (x1, x2) = some r0 → ∀ {H : Heap} {locs : List Loc} {ls : Array Slot}, zz_R D dA base h n s H locs → lv_has ls 3 [(0, .ref a0), (1, .int x1), (2, .int x2)] → W p l e rm_X7_buttonCount s m args below meth c H locs 0 0 (MQ below (zz_Qc D dA base (some (.int r0)) h n) args s rm_X7_buttonCount.cells rm_X7_buttonCount.slots (fun q => base ≤ q)) (F0 m 4 ls []) := by
  intro k
  induction k with
  | zero => intro x1 x2 hf; cases hf
  | succ k ih =>
    intro x1 x2 hf H locs ls hR hl
    rcases zz_it_s hf with ⟨⟨y0, y1⟩, h1, h2⟩ | h1
    · exact bk_X7_buttonCount_4 (r0 := r0) X hT hR hl h1  (fun z0 z1 e => by cases e; exact ih _ _ h2) (fun r e => by cases e)
    · exact bk_X7_buttonCount_4 (r0 := r0) X hT hR hl h1  (fun z0 z1 e => by cases e) (fun r e => (Sum.inr.inj e).symm)
set_option maxHeartbeats 4000000 in
set_option maxRecDepth 100000 in
theorem mt_X7_buttonCount {D : va_G} {dA : Nat → ClassId} {base t0 : Nat} {l : Launch} (hT : l.stackTraces = false) (a0 : Nat) (h : zz_H) (n : Nat) {r0 : Int32} (hf : f_X7_buttonCount a0 h = some r0) : zz_M D dA base t0 l yX7_buttonCount cX7_buttonCount 3 (some .int) rm_X7_buttonCount [.ref a0] h n (some (.int r0)) h n := by
  refine Met.ofW (cc := cX7_buttonCount) (maxL := 3) (ret := (some .int)) (by decide +kernel) rfl ?_
  intro p e s m args below meth c s₁ B hml hv
  obtain ⟨rfl, hP, hK⟩ := hv
  have X : zz_X D dA base t0 "Springseat$Seat" cX7_buttonCount 3 (some .int) l p s m meth c := ⟨B.exec, B.bytes, hml, B.returns, findClass_of_methodNamed B.named, B.notSynchronized, hT, by rw [hP.1]; exact hP.2.1, hK⟩
  have hx := X.1
  have hb := X.2.1
  have hown := X.2.2.2.2.1
  have hR : zz_R D dA base h n s s.heap [] := ⟨hP, va_S.rf⟩
  have hl := lv_entry ([.ref a0]) (n := 3) (by exact Nat.le_of_ble_eq_true rfl)
  rw [lg_entry_eq]
  generalize (lg_sl ([.ref a0]) ++ List.replicate (3 - (lg_sl ([.ref a0])).length) Slot.unset).toArray = ls at hl ⊢
  have hl : lv_has ls 3 [(0, .ref a0)] := hl
  unfold f_X7_buttonCount at hf
  refine lv_iconst (v := (0 : Int32)) hx hb dX7_buttonCount_0 (by decide) ?_
  refine lv_istore_n (i := 1) (lv' := [(1, .int (0 : Int32)), (0, .ref a0)]) hx hb dX7_buttonCount_1 rfl hl (by decide) rfl (fun ls hl => ?_)
  refine lv_iconst (v := (0 : Int32)) hx hb dX7_buttonCount_2 (by decide) ?_
  refine lv_istore_n (i := 2) (lv' := [(2, .int (0 : Int32)), (1, .int (0 : Int32)), (0, .ref a0)]) hx hb dX7_buttonCount_3 rfl hl (by decide) rfl (fun ls hl => ?_)
  exact lp_X7_buttonCount_4 X hT a0 zz_F _ _ hf hR (lv_sub hl [2, 1, 0] rfl)
def rm_X7_foldBetween : Room := { frames := 1, cells := 0, slots := 0, locals := 21 }
theorem mf_X7_foldBetween : zz_Mf yX7_foldBetween cX7_foldBetween 7 (some .int) 3 := ⟨q_300, q_16, by decide +kernel, by decide +kernel, by decide +kernel⟩
set_option maxHeartbeats 4000000 in
set_option maxRecDepth 100000 in
theorem bk_X7_foldBetween_63 {D : va_G} {dA : Nat → ClassId} {base t0 : Nat} {l : Launch} {p : Program} {e : Env} {s : State} {m : MethodId} {args : Array Value} {below : List Frame} {meth : Method} {c : Code} (X : zz_X D dA base t0 "Springseat$Seat" cX7_foldBetween 7 (some .int) l p s m meth c) (hT : l.stackTraces = false) {s0 : Int32} {h : zz_H} {n : Nat} {H : Heap} {locs : List Loc} {ls : Array Slot} (hR : zz_R D dA base h n s H locs) (hl : lv_has ls 7 []) {r0 : Int32} (hf : f_X7_foldBetween_63 s0 h = some r0) : W p l e rm_X7_foldBetween s m args below meth c H locs 0 0 (MQ below (zz_Qc D dA base (some (.int r0)) h n) args s rm_X7_foldBetween.cells rm_X7_foldBetween.slots (fun q => base ≤ q)) (F0 m 63 ls [.int s0]) := by
  have hx := X.1
  have hb := X.2.1
  have hown := X.2.2.2.2.1
  unfold f_X7_foldBetween_63 at hf
  cases hf
  exact zr_iret X hR dX7_foldBetween_63 (Nat.le_of_ble_eq_true rfl) (Nat.le_of_ble_eq_true rfl)
set_option maxHeartbeats 4000000 in
set_option maxRecDepth 100000 in
theorem bk_X7_foldBetween_62 {D : va_G} {dA : Nat → ClassId} {base t0 : Nat} {l : Launch} {p : Program} {e : Env} {s : State} {m : MethodId} {args : Array Value} {below : List Frame} {meth : Method} {c : Code} (X : zz_X D dA base t0 "Springseat$Seat" cX7_foldBetween 7 (some .int) l p s m meth c) (hT : l.stackTraces = false) {h : zz_H} {n : Nat} {H : Heap} {locs : List Loc} {ls : Array Slot} (hR : zz_R D dA base h n s H locs) (hl : lv_has ls 7 []) {r0 : Int32} (hf : f_X7_foldBetween_62 h = some r0) : W p l e rm_X7_foldBetween s m args below meth c H locs 0 0 (MQ below (zz_Qc D dA base (some (.int r0)) h n) args s rm_X7_foldBetween.cells rm_X7_foldBetween.slots (fun q => base ≤ q)) (F0 m 62 ls []) := by
  have hx := X.1
  have hb := X.2.1
  have hown := X.2.2.2.2.1
  unfold f_X7_foldBetween_62 at hf
  refine lv_iconst (v := (0 : Int32)) hx hb dX7_foldBetween_62 (by decide) ?_
  exact bk_X7_foldBetween_63 X hT hR (lv_sub hl [] rfl) hf
set_option maxHeartbeats 4000000 in
set_option maxRecDepth 100000 in
theorem bk_X7_foldBetween_58 {D : va_G} {dA : Nat → ClassId} {base t0 : Nat} {l : Launch} {p : Program} {e : Env} {s : State} {m : MethodId} {args : Array Value} {below : List Frame} {meth : Method} {c : Code} (X : zz_X D dA base t0 "Springseat$Seat" cX7_foldBetween 7 (some .int) l p s m meth c) (hT : l.stackTraces = false) {h : zz_H} {n : Nat} {H : Heap} {locs : List Loc} {ls : Array Slot} (hR : zz_R D dA base h n s H locs) (hl : lv_has ls 7 []) {r0 : Int32} (hf : f_X7_foldBetween_58 h = some r0) : W p l e rm_X7_foldBetween s m args below meth c H locs 0 0 (MQ below (zz_Qc D dA base (some (.int r0)) h n) args s rm_X7_foldBetween.cells rm_X7_foldBetween.slots (fun q => base ≤ q)) (F0 m 58 ls []) := by
  have hx := X.1
  have hb := X.2.1
  have hown := X.2.2.2.2.1
  unfold f_X7_foldBetween_58 at hf
  refine lv_iconst (v := (1 : Int32)) hx hb dX7_foldBetween_58 (by decide) ?_
  refine lv_goto (tgt := 63) hx hb dX7_foldBetween_59 (by decide) ?_
  exact bk_X7_foldBetween_63 X hT hR (lv_sub hl [] rfl) hf
set_option maxHeartbeats 4000000 in
set_option maxRecDepth 100000 in
theorem bk_X7_foldBetween_35 {D : va_G} {dA : Nat → ClassId} {base t0 : Nat} {l : Launch} {p : Program} {e : Env} {s : State} {m : MethodId} {args : Array Value} {below : List Frame} {meth : Method} {c : Code} (X : zz_X D dA base t0 "Springseat$Seat" cX7_foldBetween 7 (some .int) l p s m meth c) (hT : l.stackTraces = false) {x3 : Int32} {x4 : Int32} {x5 : Int32} {s0 : Int32} {h : zz_H} {n : Nat} {H : Heap} {locs : List Loc} {ls : Array Slot} (hR : zz_R D dA base h n s H locs) (hl : lv_has ls 7 [(3, .int x3), (4, .int x4), (5, .int x5)]) {r0 : Int32} (hf : f_X7_foldBetween_35 x3 x4 x5 s0 h = some r0) : W p l e rm_X7_foldBetween s m args below meth c H locs 0 0 (MQ below (zz_Qc D dA base (some (.int r0)) h n) args s rm_X7_foldBetween.cells rm_X7_foldBetween.slots (fun q => base ≤ q)) (F0 m 35 ls [.int s0]) := by
  have hx := X.1
  have hb := X.2.1
  have hown := X.2.2.2.2.1
  unfold f_X7_foldBetween_35 at hf
  refine lv_istore (i := 6) (lv' := [(6, .int s0), (3, .int x3), (4, .int x4), (5, .int x5)]) hx hb dX7_foldBetween_35 hl (by decide) rfl (fun ls hl => ?_)
  refine lv_iload hx hb dX7_foldBetween_37 (lv_at hl 0 rfl) ?_
  refine lv_if_eq (tgt := 62) hx hb dX7_foldBetween_39 (by decide) (fun c39 => ?_) (fun c39 => ?_)
  · replace hf := zz_pos c39 hf
    exact bk_X7_foldBetween_62 X hT hR (lv_sub hl [] rfl) hf
  · replace hf := zz_neg c39 hf
    refine lv_iload_n hx hb dX7_foldBetween_42 rfl (lv_at hl 1 rfl) ?_
    refine lv_if_eq (tgt := 58) hx hb dX7_foldBetween_43 (by decide) (fun c43 => ?_) (fun c43 => ?_)
    · replace hf := zz_pos c43 hf
      exact bk_X7_foldBetween_58 X hT hR (lv_sub hl [] rfl) hf
    · replace hf := zz_neg c43 hf
      refine lv_iload hx hb dX7_foldBetween_46 (lv_at hl 2 rfl) ?_
      refine lv_iload hx hb dX7_foldBetween_48 (lv_at hl 3 rfl) ?_
      refine lv_isub hx hb dX7_foldBetween_50 ?_
      refine zr_abs X hl.1 q_305 q_306 q_8 q_307 (Nat.le_of_ble_eq_true rfl) ⟨Nat.le_of_ble_eq_true rfl, Nat.le_of_ble_eq_true rfl⟩ ⟨Nat.le_of_ble_eq_true rfl, Nat.le_of_ble_eq_true rfl⟩ dX7_foldBetween_51 ?_
      refine W.eq (g2 := F0 m 54 ls [.int (zz_abs (x4 - x5))]) rfl ?_
      refine lv_iconst (v := (3 : Int32)) hx hb dX7_foldBetween_54 (by decide) ?_
      refine lv_icmp_gt (tgt := 62) hx hb dX7_foldBetween_55 (by decide) (fun c55 => ?_) (fun c55 => ?_)
      · replace hf := zz_pos c55 hf
        exact bk_X7_foldBetween_62 X hT hR (lv_sub hl [] rfl) hf
      · replace hf := zz_neg c55 hf
        exact bk_X7_foldBetween_58 X hT hR (lv_sub hl [] rfl) hf
set_option maxHeartbeats 4000000 in
set_option maxRecDepth 100000 in
theorem bk_X7_foldBetween_34 {D : va_G} {dA : Nat → ClassId} {base t0 : Nat} {l : Launch} {p : Program} {e : Env} {s : State} {m : MethodId} {args : Array Value} {below : List Frame} {meth : Method} {c : Code} (X : zz_X D dA base t0 "Springseat$Seat" cX7_foldBetween 7 (some .int) l p s m meth c) (hT : l.stackTraces = false) {x3 : Int32} {x4 : Int32} {x5 : Int32} {h : zz_H} {n : Nat} {H : Heap} {locs : List Loc} {ls : Array Slot} (hR : zz_R D dA base h n s H locs) (hl : lv_has ls 7 [(3, .int x3), (4, .int x4), (5, .int x5)]) {r0 : Int32} (hf : f_X7_foldBetween_34 x3 x4 x5 h = some r0) : W p l e rm_X7_foldBetween s m args below meth c H locs 0 0 (MQ below (zz_Qc D dA base (some (.int r0)) h n) args s rm_X7_foldBetween.cells rm_X7_foldBetween.slots (fun q => base ≤ q)) (F0 m 34 ls []) := by
  have hx := X.1
  have hb := X.2.1
  have hown := X.2.2.2.2.1
  unfold f_X7_foldBetween_34 at hf
  refine lv_iconst (v := (0 : Int32)) hx hb dX7_foldBetween_34 (by decide) ?_
  exact bk_X7_foldBetween_35 X hT hR (lv_sub hl [0, 1, 2] rfl) hf
set_option maxHeartbeats 4000000 in
set_option maxRecDepth 100000 in
theorem mt_X7_foldBetween {D : va_G} {dA : Nat → ClassId} {base t0 : Nat} {l : Launch} (hT : l.stackTraces = false) (a0 : Nat) (x1 : Int32) (x2 : Int32) (x3 : Int32) (h : zz_H) (n : Nat) {r0 : Int32} (hf : f_X7_foldBetween a0 x1 x2 x3 h = some r0) : zz_M D dA base t0 l yX7_foldBetween cX7_foldBetween 7 (some .int) rm_X7_foldBetween [.ref a0, .int x1, .int x2, .int x3] h n (some (.int r0)) h n := by
  refine Met.ofW (cc := cX7_foldBetween) (maxL := 7) (ret := (some .int)) (by decide +kernel) rfl ?_
  intro p e s m args below meth c s₁ B hml hv
  obtain ⟨rfl, hP, hK⟩ := hv
  have X : zz_X D dA base t0 "Springseat$Seat" cX7_foldBetween 7 (some .int) l p s m meth c := ⟨B.exec, B.bytes, hml, B.returns, findClass_of_methodNamed B.named, B.notSynchronized, hT, by rw [hP.1]; exact hP.2.1, hK⟩
  have hx := X.1
  have hb := X.2.1
  have hown := X.2.2.2.2.1
  have hR : zz_R D dA base h n s s.heap [] := ⟨hP, va_S.rf⟩
  have hl := lv_entry ([.ref a0, .int x1, .int x2, .int x3]) (n := 7) (by exact Nat.le_of_ble_eq_true rfl)
  rw [lg_entry_eq]
  generalize (lg_sl ([.ref a0, .int x1, .int x2, .int x3]) ++ List.replicate (7 - (lg_sl ([.ref a0, .int x1, .int x2, .int x3])).length) Slot.unset).toArray = ls at hl ⊢
  have hl : lv_has ls 7 [(0, .ref a0), (1, .int x1), (2, .int x2), (3, .int x3)] := hl
  unfold f_X7_foldBetween at hf
  refine lv_aload_n hx hb dX7_foldBetween_0 rfl (lv_at hl 0 rfl) ?_
  refine zr_gq X hR (r := (some a0)) fl_X7_28 dX7_foldBetween_1 hf (fun v1 hf => ?_)
  refine lv_iload_n hx hb dX7_foldBetween_4 rfl (lv_at hl 1 rfl) ?_
  obtain ⟨b5, fs5, hr5, ho5, hf⟩ := zz_ob_i hf
  obtain ⟨v5, hv5, hf⟩ := zz_b_i hf
  refine zr_cV X hR hl.1 (As := [.int x1]) (rest := []) (C := RX4) (T := TX4) (N := 1) (mt_X4_at hT b5 x1 h n hv5) rfl ho5 mf_X4_at q_301 q_302 q_303 ⟨Nat.le_of_ble_eq_true rfl, Nat.le_of_ble_eq_true rfl⟩ ⟨Nat.le_of_ble_eq_true rfl, Nat.le_of_ble_eq_true rfl⟩ (by rw [hr5]; rfl) (Nat.le_of_ble_eq_true rfl) dX7_foldBetween_5 (fun H locs hR => ?_)
  refine W.eq (g2 := F0 m 8 ls [.int v5]) rfl ?_
  refine lv_istore (i := 4) (lv' := [(4, .int v5), (0, .ref a0), (1, .int x1), (2, .int x2), (3, .int x3)]) hx hb dX7_foldBetween_8 hl (by decide) rfl (fun ls hl => ?_)
  refine lv_aload_n hx hb dX7_foldBetween_10 rfl (lv_at hl 1 rfl) ?_
  refine zr_gq X hR (r := (some a0)) fl_X7_28 dX7_foldBetween_11 hf (fun v11 hf => ?_)
  refine lv_iload_n hx hb dX7_foldBetween_14 rfl (lv_at hl 3 rfl) ?_
  obtain ⟨b15, fs15, hr15, ho15, hf⟩ := zz_ob_i hf
  obtain ⟨v15, hv15, hf⟩ := zz_b_i hf
  refine zr_cV X hR hl.1 (As := [.int x2]) (rest := []) (C := RX4) (T := TX4) (N := 1) (mt_X4_at hT b15 x2 h n hv15) rfl ho15 mf_X4_at q_301 q_302 q_303 ⟨Nat.le_of_ble_eq_true rfl, Nat.le_of_ble_eq_true rfl⟩ ⟨Nat.le_of_ble_eq_true rfl, Nat.le_of_ble_eq_true rfl⟩ (by rw [hr15]; rfl) (Nat.le_of_ble_eq_true rfl) dX7_foldBetween_15 (fun H locs hR => ?_)
  refine W.eq (g2 := F0 m 18 ls [.int v15]) rfl ?_
  refine lv_istore (i := 5) (lv' := [(5, .int v15), (4, .int v5), (0, .ref a0), (1, .int x1), (2, .int x2), (3, .int x3)]) hx hb dX7_foldBetween_18 hl (by decide) rfl (fun ls hl => ?_)
  refine lv_iload hx hb dX7_foldBetween_20 (lv_at hl 1 rfl) ?_
  refine lv_if_le (tgt := 34) hx hb dX7_foldBetween_22 (by decide) (fun c22 => ?_) (fun c22 => ?_)
  · replace hf := zz_pos c22 hf
    exact bk_X7_foldBetween_34 X hT hR (lv_sub hl [5, 1, 0] rfl) hf
  · replace hf := zz_neg c22 hf
    refine lv_iload hx hb dX7_foldBetween_25 (lv_at hl 0 rfl) ?_
    refine lv_if_le (tgt := 34) hx hb dX7_foldBetween_27 (by decide) (fun c27 => ?_) (fun c27 => ?_)
    · replace hf := zz_pos c27 hf
      exact bk_X7_foldBetween_34 X hT hR (lv_sub hl [5, 1, 0] rfl) hf
    · replace hf := zz_neg c27 hf
      refine lv_iconst (v := (1 : Int32)) hx hb dX7_foldBetween_30 (by decide) ?_
      refine lv_goto (tgt := 35) hx hb dX7_foldBetween_31 (by decide) ?_
      exact bk_X7_foldBetween_35 X hT hR (lv_sub hl [5, 1, 0] rfl) hf
def rm_X7_foldCount : Room := { frames := 2, cells := 0, slots := 0, locals := 47 }
theorem mf_X7_foldCount : zz_Mf yX7_foldCount cX7_foldCount 5 (some .int) 1 := ⟨q_287, q_16, by decide +kernel, by decide +kernel, by decide +kernel⟩
set_option maxHeartbeats 4000000 in
set_option maxRecDepth 100000 in
theorem bk_X7_foldCount_4 {D : va_G} {dA : Nat → ClassId} {base t0 : Nat} {l : Launch} {p : Program} {e : Env} {s : State} {m : MethodId} {args : Array Value} {below : List Frame} {meth : Method} {c : Code} (X : zz_X D dA base t0 "Springseat$Seat" cX7_foldCount 5 (some .int) l p s m meth c) (hT : l.stackTraces = false) {a0 : Nat} {x1 : Int32} {x2 : Int32} {x3 : Int32} {h : zz_H} {n : Nat} {H : Heap} {locs : List Loc} {ls : Array Slot} (hR : zz_R D dA base h n s H locs) (hl : lv_has ls 5 [(0, .ref a0), (1, .int x1), (2, .int x2), (3, .int x3)]) {r0 : Int32} {o : ((Int32 × Int32) ⊕ Int32)} (hf : f_X7_foldCount_4 a0 x1 x2 x3 h = some o) (k0 : ∀ (w2 : Int32) (w3 : Int32), o = (.inl (w2, w3)) → ∀ {H : Heap} {locs : List Loc} {ls : Array Slot}, zz_R D dA base h n s H locs → lv_has ls 5 [(0, .ref a0), (1, .int x1), (2, .int w2), (3, .int w3)] → W p l e rm_X7_foldCount s m args below meth c H locs 0 0 (MQ below (zz_Qc D dA base (some (.int r0)) h n) args s rm_X7_foldCount.cells rm_X7_foldCount.slots (fun q => base ≤ q)) (F0 m 4 ls [])) (hret : ∀ r, o = (.inr r) → r = r0) : W p l e rm_X7_foldCount s m args below meth c H locs 0 0 (MQ below (zz_Qc D dA base (some (.int r0)) h n) args s rm_X7_foldCount.cells rm_X7_foldCount.slots (fun q => base ≤ q)) (F0 m 4 ls []) := by
  have hx := X.1
  have hb := X.2.1
  have hown := X.2.2.2.2.1
  unfold f_X7_foldCount_4 at hf
  refine lv_iload_n hx hb dX7_foldCount_4 rfl (lv_at hl 3 rfl) ?_
  refine lv_aload_n hx hb dX7_foldCount_5 rfl (lv_at hl 0 rfl) ?_
  refine zr_gq X hR (r := (some a0)) fl_X7_48 dX7_foldCount_6 hf (fun v6 hf => ?_)
  obtain ⟨b9, fs9, hr9, ho9, hf⟩ := zz_ob_i hf
  obtain ⟨v9, hv9, hf⟩ := zz_b_i hf
  refine zr_cV X hR hl.1 (As := []) (rest := [.int x3]) (C := RX3) (T := TX3) (N := 7) (mt_X3_cellCount hT b9 h n hv9) rfl ho9 mf_X3_cellCount q_288 q_289 q_290 ⟨Nat.le_of_ble_eq_true rfl, Nat.le_of_ble_eq_true rfl⟩ ⟨Nat.le_of_ble_eq_true rfl, Nat.le_of_ble_eq_true rfl⟩ (by rw [hr9]; rfl) (Nat.le_of_ble_eq_true rfl) dX7_foldCount_9 (fun H locs hR => ?_)
  refine W.eq (g2 := F0 m 12 ls [.int v9, .int x3]) rfl ?_
  refine lv_icmp_ge (tgt := 65) hx hb dX7_foldCount_12 (by decide) (fun c12 => ?_) (fun c12 => ?_)
  · replace hf := zz_pos c12 hf
    refine lv_iload_n hx hb dX7_foldCount_65 rfl (lv_at hl 2 rfl) ?_
    cases hf
    cases hret _ rfl
    exact zr_iret X hR dX7_foldCount_66 (Nat.le_of_ble_eq_true rfl) (Nat.le_of_ble_eq_true rfl)
  · replace hf := zz_neg c12 hf
    refine lv_aload_n hx hb dX7_foldCount_15 rfl (lv_at hl 0 rfl) ?_
    refine zr_gq X hR (r := (some a0)) fl_X7_48 dX7_foldCount_16 hf (fun v16 hf => ?_)
    refine lv_iload_n hx hb dX7_foldCount_19 rfl (lv_at hl 3 rfl) ?_
    obtain ⟨b20, fs20, hr20, ho20, hf⟩ := zz_ob_i hf
    obtain ⟨v20, hv20, hf⟩ := zz_b_i hf
    refine zr_cV X hR hl.1 (As := [.int x3]) (rest := []) (C := RX3) (T := TX3) (N := 7) (mt_X3_cellAt hT b20 x3 h n hv20) rfl ho20 mf_X3_cellAt q_292 q_293 q_294 ⟨Nat.le_of_ble_eq_true rfl, Nat.le_of_ble_eq_true rfl⟩ ⟨Nat.le_of_ble_eq_true rfl, Nat.le_of_ble_eq_true rfl⟩ (by rw [hr20]; rfl) (Nat.le_of_ble_eq_true rfl) dX7_foldCount_20 (fun H locs hR => ?_)
    refine W.eq (g2 := F0 m 23 ls [.int v20]) rfl ?_
    refine lv_istore (i := 4) (lv' := [(4, .int v20), (0, .ref a0), (1, .int x1), (2, .int x2), (3, .int x3)]) hx hb dX7_foldCount_23 hl (by decide) rfl (fun ls hl => ?_)
    refine lv_iload_n hx hb dX7_foldCount_25 rfl (lv_at hl 3 rfl) ?_
    refine lv_aload_n hx hb dX7_foldCount_26 rfl (lv_at hl 1 rfl) ?_
    refine lv_iload hx hb dX7_foldCount_27 (lv_at hl 0 rfl) ?_
    refine lv_iload hx hb dX7_foldCount_29 (lv_at hl 0 rfl) ?_
    refine lv_bipush (v := (10 : Int32)) hx hb dX7_foldCount_31 (by decide) ?_
    refine lv_iadd hx hb dX7_foldCount_33 ?_
    refine lv_iconst (v := (1 : Int32)) hx hb dX7_foldCount_34 (by decide) ?_
    refine lv_isub hx hb dX7_foldCount_35 ?_
    refine lv_iload_n hx hb dX7_foldCount_36 rfl (lv_at hl 2 rfl) ?_
    obtain ⟨fs37, ho37, hf⟩ := zz_obS_i hf
    obtain ⟨v37, hv37, hf⟩ := zz_b_i hf
    refine zr_cV X hR hl.1 (As := [.int v20, .int ((v20 + (10 : Int32)) - (1 : Int32)), .int x1]) (rest := [.int x2]) (C := RX7) (T := TX7) (N := 6) (mt_X7_foldBetween hT a0 v20 ((v20 + (10 : Int32)) - (1 : Int32)) x1 h n hv37) rfl ho37 mf_X7_foldBetween q_296 q_298 qs_5 ⟨Nat.le_of_ble_eq_true rfl, Nat.le_of_ble_eq_true rfl⟩ ⟨Nat.le_of_ble_eq_true rfl, Nat.le_of_ble_eq_true rfl⟩ rfl (Nat.le_of_ble_eq_true rfl) dX7_foldCount_37 (fun H locs hR => ?_)
    refine W.eq (g2 := F0 m 40 ls [.int v37, .int x2]) rfl ?_
    refine lv_iadd hx hb dX7_foldCount_40 ?_
    refine lv_istore_n (i := 2) (lv' := [(2, .int (x2 + v37)), (4, .int v20), (0, .ref a0), (1, .int x1), (3, .int x3)]) hx hb dX7_foldCount_41 rfl hl (by decide) rfl (fun ls hl => ?_)
    refine lv_iload_n hx hb dX7_foldCount_42 rfl (lv_at hl 0 rfl) ?_
    refine lv_aload_n hx hb dX7_foldCount_43 rfl (lv_at hl 2 rfl) ?_
    refine lv_iload hx hb dX7_foldCount_44 (lv_at hl 1 rfl) ?_
    refine lv_iload hx hb dX7_foldCount_46 (lv_at hl 1 rfl) ?_
    refine lv_bipush (v := (10 : Int32)) hx hb dX7_foldCount_48 (by decide) ?_
    refine lv_iadd hx hb dX7_foldCount_50 ?_
    refine lv_iconst (v := (1 : Int32)) hx hb dX7_foldCount_51 (by decide) ?_
    refine lv_iadd hx hb dX7_foldCount_52 ?_
    refine lv_iload_n hx hb dX7_foldCount_53 rfl (lv_at hl 3 rfl) ?_
    obtain ⟨fs54, ho54, hf⟩ := zz_obS_i hf
    obtain ⟨v54, hv54, hf⟩ := zz_b_i hf
    refine zr_cV X hR hl.1 (As := [.int v20, .int ((v20 + (10 : Int32)) + (1 : Int32)), .int x1]) (rest := [.int (x2 + v37)]) (C := RX7) (T := TX7) (N := 6) (mt_X7_foldBetween hT a0 v20 ((v20 + (10 : Int32)) + (1 : Int32)) x1 h n hv54) rfl ho54 mf_X7_foldBetween q_296 q_298 qs_5 ⟨Nat.le_of_ble_eq_true rfl, Nat.le_of_ble_eq_true rfl⟩ ⟨Nat.le_of_ble_eq_true rfl, Nat.le_of_ble_eq_true rfl⟩ rfl (Nat.le_of_ble_eq_true rfl) dX7_foldCount_54 (fun H locs hR => ?_)
    refine W.eq (g2 := F0 m 57 ls [.int v54, .int (x2 + v37)]) rfl ?_
    refine lv_iadd hx hb dX7_foldCount_57 ?_
    refine lv_istore_n (i := 2) (lv' := [(2, .int ((x2 + v37) + v54)), (4, .int v20), (0, .ref a0), (1, .int x1), (3, .int x3)]) hx hb dX7_foldCount_58 rfl hl (by decide) rfl (fun ls hl => ?_)
    refine lv_iinc (i := 3) (v := (x3 + (1 : Int32))) (lv' := [(3, .int (x3 + (1 : Int32))), (2, .int ((x2 + v37) + v54)), (4, .int v20), (0, .ref a0), (1, .int x1)]) hx hb dX7_foldCount_59 hl (k := 4) rfl rfl (by decide) rfl (fun ls hl => ?_)
    refine lv_goto (tgt := 4) hx hb dX7_foldCount_62 (by decide) ?_
    cases hf
    exact k0 _ _ rfl hR (lv_sub hl [3, 4, 1, 0] rfl)
set_option maxHeartbeats 4000000 in
set_option maxRecDepth 100000 in
theorem lp_X7_foldCount_4 {D : va_G} {dA : Nat → ClassId} {base t0 : Nat} {l : Launch} {p : Program} {e : Env} {s : State} {m : MethodId} {args : Array Value} {below : List Frame} {meth : Method} {c : Code} (X : zz_X D dA base t0 "Springseat$Seat" cX7_foldCount 5 (some .int) l p s m meth c) (hT : l.stackTraces = false) (a0 : Nat) (x1 : Int32) {h : zz_H} {n : Nat} {r0 : Int32} : ∀ (k : Nat) (x2 : Int32) (x3 : Int32), zz_it (fun s : (Int32 × Int32) => f_X7_foldCount_4 a0 x1 s.1 s.2 h) k (x2, x3) = some r0 → ∀ {H : Heap} {locs : List Loc} {ls : Array Slot}, zz_R D dA base h n s H locs → lv_has ls 5 [(0, .ref a0), (1, .int x1), (2, .int x2), (3, .int x3)] → W p l e rm_X7_foldCount s m args below meth c H locs 0 0 (MQ below (zz_Qc D dA base (some (.int r0)) h n) args s rm_X7_foldCount.cells rm_X7_foldCount.slots (fun q => base ≤ q)) (F0 m 4 ls []) := by
  intro k
  induction k with
  | zero => intro x2 x3 hf; cases hf
  | succ k ih =>
    intro x2 x3 hf H locs ls hR hl
    rcases zz_it_s hf with ⟨⟨y0, y1⟩, h1, h2⟩ | h1
    · exact bk_X7_foldCount_4 (r0 := r0) X hT hR hl h1  (fun z0 z1 e => by cases e; exact ih _ _ h2) (fun r e => by cases e)
    · exact bk_X7_foldCount_4 (r0 := r0) X hT hR hl h1  (fun z0 z1 e => by cases e) (fun r e => (Sum.inr.inj e).symm)
set_option maxHeartbeats 4000000 in
set_option maxRecDepth 100000 in
theorem mt_X7_foldCount {D : va_G} {dA : Nat → ClassId} {base t0 : Nat} {l : Launch} (hT : l.stackTraces = false) (a0 : Nat) (x1 : Int32) (h : zz_H) (n : Nat) {r0 : Int32} (hf : f_X7_foldCount a0 x1 h = some r0) : zz_M D dA base t0 l yX7_foldCount cX7_foldCount 5 (some .int) rm_X7_foldCount [.ref a0, .int x1] h n (some (.int r0)) h n := by
  refine Met.ofW (cc := cX7_foldCount) (maxL := 5) (ret := (some .int)) (by decide +kernel) rfl ?_
  intro p e s m args below meth c s₁ B hml hv
  obtain ⟨rfl, hP, hK⟩ := hv
  have X : zz_X D dA base t0 "Springseat$Seat" cX7_foldCount 5 (some .int) l p s m meth c := ⟨B.exec, B.bytes, hml, B.returns, findClass_of_methodNamed B.named, B.notSynchronized, hT, by rw [hP.1]; exact hP.2.1, hK⟩
  have hx := X.1
  have hb := X.2.1
  have hown := X.2.2.2.2.1
  have hR : zz_R D dA base h n s s.heap [] := ⟨hP, va_S.rf⟩
  have hl := lv_entry ([.ref a0, .int x1]) (n := 5) (by exact Nat.le_of_ble_eq_true rfl)
  rw [lg_entry_eq]
  generalize (lg_sl ([.ref a0, .int x1]) ++ List.replicate (5 - (lg_sl ([.ref a0, .int x1])).length) Slot.unset).toArray = ls at hl ⊢
  have hl : lv_has ls 5 [(0, .ref a0), (1, .int x1)] := hl
  unfold f_X7_foldCount at hf
  refine lv_iconst (v := (0 : Int32)) hx hb dX7_foldCount_0 (by decide) ?_
  refine lv_istore_n (i := 2) (lv' := [(2, .int (0 : Int32)), (0, .ref a0), (1, .int x1)]) hx hb dX7_foldCount_1 rfl hl (by decide) rfl (fun ls hl => ?_)
  refine lv_iconst (v := (0 : Int32)) hx hb dX7_foldCount_2 (by decide) ?_
  refine lv_istore_n (i := 3) (lv' := [(3, .int (0 : Int32)), (2, .int (0 : Int32)), (0, .ref a0), (1, .int x1)]) hx hb dX7_foldCount_3 rfl hl (by decide) rfl (fun ls hl => ?_)
  exact lp_X7_foldCount_4 X hT a0 x1 zz_F _ _ hf hR (lv_sub hl [2, 3, 1, 0] rfl)
def rm_X7_wear : Room := { frames := 6, cells := 0, slots := 0, locals := 129 }
theorem mf_X7_wear : zz_Mf yX7_wear cX7_wear 3 (some .int) 1 := ⟨q_934, q_16, by decide +kernel, by decide +kernel, by decide +kernel⟩
set_option maxHeartbeats 4000000 in
set_option maxRecDepth 100000 in
theorem mt_X7_wear {D : va_G} {dA : Nat → ClassId} {base t0 : Nat} {l : Launch} (hT : l.stackTraces = false) (a0 : Nat) (x1 : Int32) (h : zz_H) (n : Nat) {r0 : Int32} {hF : zz_H} (hf : f_X7_wear a0 x1 h = some (r0, hF)) : zz_M D dA base t0 l yX7_wear cX7_wear 3 (some .int) rm_X7_wear [.ref a0, .int x1] h n (some (.int r0)) hF n := by
  refine Met.ofW (cc := cX7_wear) (maxL := 3) (ret := (some .int)) (by decide +kernel) rfl ?_
  intro p e s m args below meth c s₁ B hml hv
  obtain ⟨rfl, hP, hK⟩ := hv
  have X : zz_X D dA base t0 "Springseat$Seat" cX7_wear 3 (some .int) l p s m meth c := ⟨B.exec, B.bytes, hml, B.returns, findClass_of_methodNamed B.named, B.notSynchronized, hT, by rw [hP.1]; exact hP.2.1, hK⟩
  have hx := X.1
  have hb := X.2.1
  have hown := X.2.2.2.2.1
  have hR : zz_R D dA base h n s s.heap [] := ⟨hP, va_S.rf⟩
  have hl := lv_entry ([.ref a0, .int x1]) (n := 3) (by exact Nat.le_of_ble_eq_true rfl)
  rw [lg_entry_eq]
  generalize (lg_sl ([.ref a0, .int x1]) ++ List.replicate (3 - (lg_sl ([.ref a0, .int x1])).length) Slot.unset).toArray = ls at hl ⊢
  have hl : lv_has ls 3 [(0, .ref a0), (1, .int x1)] := hl
  unfold f_X7_wear at hf
  refine lv_aload_n hx hb dX7_wear_0 rfl (lv_at hl 0 rfl) ?_
  obtain ⟨fs1, ho1, hf⟩ := zz_obS_i hf
  obtain ⟨v1, hv1, hf⟩ := zz_b_i hf
  refine zr_cV X hR hl.1 (As := []) (rest := []) (C := RX7) (T := TX7) (N := 6) (mt_X7_topsInAll hT a0 h n hv1) rfl ho1 mf_X7_topsInAll q_841 q_332 q_333 ⟨Nat.le_of_ble_eq_true rfl, Nat.le_of_ble_eq_true rfl⟩ ⟨Nat.le_of_ble_eq_true rfl, Nat.le_of_ble_eq_true rfl⟩ rfl (Nat.le_of_ble_eq_true rfl) dX7_wear_1 (fun H locs hR => ?_)
  refine W.eq (g2 := F0 m 4 ls [.int v1]) rfl ?_
  refine lv_istore_n (i := 2) (lv' := [(2, .int v1), (0, .ref a0), (1, .int x1)]) hx hb dX7_wear_4 rfl hl (by decide) rfl (fun ls hl => ?_)
  refine lv_aload_n hx hb dX7_wear_5 rfl (lv_at hl 1 rfl) ?_
  refine zr_gq X hR (r := (some a0)) fl_X7_35 dX7_wear_6 hf (fun v6 hf => ?_)
  refine lv_dup hx hb dX7_wear_9 (zz_cat _) ?_
  refine zr_giN X hR (r := v6) fn_X7_79 dX7_wear_10 hf (fun v10 hf => ?_)
  refine lv_iload_n hx hb dX7_wear_13 rfl (lv_at hl 2 rfl) ?_
  refine lv_iadd hx hb dX7_wear_14 ?_
  refine zr_pN X hR (r := v6) (v := .int (v10 + x1)) fn_X7_79 rfl dX7_wear_15 rfl rfl hf (fun h15 H locs hf hR => ?_)
  refine lv_aload_n hx hb dX7_wear_18 rfl (lv_at hl 1 rfl) ?_
  refine zr_gq X hR (r := (some a0)) fl_X7_21 dX7_wear_19 hf (fun v19 hf => ?_)
  refine lv_iload_n hx hb dX7_wear_22 rfl (lv_at hl 2 rfl) ?_
  obtain ⟨b23, fs23, hr23, ho23, hf⟩ := zz_ob_i hf
  obtain ⟨u23, h23, hv23, hf⟩ := zz_b1_i hf
  refine zr_cV X hR hl.1 (As := [.int x1]) (rest := []) (C := RX2) (T := TX2) (N := 1) (mt_X2_settle hT b23 x1 h15 n hv23) rfl ho23 mf_X2_settle q_935 q_936 q_937 ⟨Nat.le_of_ble_eq_true rfl, Nat.le_of_ble_eq_true rfl⟩ ⟨Nat.le_of_ble_eq_true rfl, Nat.le_of_ble_eq_true rfl⟩ (by rw [hr23]; rfl) (Nat.le_of_ble_eq_true rfl) dX7_wear_23 (fun H locs hR => ?_)
  refine W.eq (g2 := F0 m 26 ls []) rfl ?_
  refine lv_iload_n hx hb dX7_wear_26 rfl (lv_at hl 0 rfl) ?_
  refine lv_aload_n hx hb dX7_wear_27 rfl (lv_at hl 1 rfl) ?_
  obtain ⟨fs28, ho28, hf⟩ := zz_obS_i hf
  obtain ⟨v28, hv28, hf⟩ := zz_b_i hf
  refine zr_cV X hR hl.1 (As := []) (rest := [.int v1]) (C := RX7) (T := TX7) (N := 6) (mt_X7_topsInAll hT a0 h23 n hv28) rfl ho28 mf_X7_topsInAll q_841 q_332 q_333 ⟨Nat.le_of_ble_eq_true rfl, Nat.le_of_ble_eq_true rfl⟩ ⟨Nat.le_of_ble_eq_true rfl, Nat.le_of_ble_eq_true rfl⟩ rfl (Nat.le_of_ble_eq_true rfl) dX7_wear_28 (fun H locs hR => ?_)
  refine W.eq (g2 := F0 m 31 ls [.int v28, .int v1]) rfl ?_
  refine lv_isub hx hb dX7_wear_31 ?_
  cases hf
  exact zr_iret X hR dX7_wear_32 (Nat.le_of_ble_eq_true rfl) (Nat.le_of_ble_eq_true rfl)
def rm_X7_price : Room := { frames := 4, cells := 0, slots := 0, locals := 86 }
theorem mf_X7_price : zz_Mf yX7_price cX7_price 2 (some .int) 0 := ⟨q_975, q_16, by decide +kernel, by decide +kernel, by decide +kernel⟩
set_option maxHeartbeats 4000000 in
set_option maxRecDepth 100000 in
theorem bk_X7_price_18 {D : va_G} {dA : Nat → ClassId} {base t0 : Nat} {l : Launch} {p : Program} {e : Env} {s : State} {m : MethodId} {args : Array Value} {below : List Frame} {meth : Method} {c : Code} (X : zz_X D dA base t0 "Springseat$Seat" cX7_price 2 (some .int) l p s m meth c) (hT : l.stackTraces = false) {a0 : Nat} {s0 : Int32} {h : zz_H} {n : Nat} {H : Heap} {locs : List Loc} {ls : Array Slot} (hR : zz_R D dA base h n s H locs) (hl : lv_has ls 2 [(0, .ref a0)]) {r0 : Int32} (hf : f_X7_price_18 a0 s0 h = some r0) : W p l e rm_X7_price s m args below meth c H locs 0 0 (MQ below (zz_Qc D dA base (some (.int r0)) h n) args s rm_X7_price.cells rm_X7_price.slots (fun q => base ≤ q)) (F0 m 18 ls [.int s0]) := by
  have hx := X.1
  have hb := X.2.1
  have hown := X.2.2.2.2.1
  unfold f_X7_price_18 at hf
  refine lv_istore_n (i := 1) (lv' := [(1, .int s0), (0, .ref a0)]) hx hb dX7_price_18 rfl hl (by decide) rfl (fun ls hl => ?_)
  refine lv_iconst (v := (5 : Int32)) hx hb dX7_price_19 (by decide) ?_
  refine lv_iload_n hx hb dX7_price_20 rfl (lv_at hl 0 rfl) ?_
  refine lv_imul hx hb dX7_price_21 ?_
  refine lv_iconst (v := (2 : Int32)) hx hb dX7_price_22 (by decide) ?_
  refine lv_aload_n hx hb dX7_price_23 rfl (lv_at hl 1 rfl) ?_
  refine zr_gq X hR (r := (some a0)) fl_X7_48 dX7_price_24 hf (fun v24 hf => ?_)
  obtain ⟨b27, fs27, hr27, ho27, hf⟩ := zz_ob_i hf
  obtain ⟨v27, hv27, hf⟩ := zz_b_i hf
  refine zr_cV X hR hl.1 (As := []) (rest := [.int (2 : Int32), .int ((5 : Int32) * s0)]) (C := RX3) (T := TX3) (N := 7) (mt_X3_pulledTies hT b27 h n hv27) rfl ho27 mf_X3_pulledTies q_980 q_981 q_982 ⟨Nat.le_of_ble_eq_true rfl, Nat.le_of_ble_eq_true rfl⟩ ⟨Nat.le_of_ble_eq_true rfl, Nat.le_of_ble_eq_true rfl⟩ (by rw [hr27]; rfl) (Nat.le_of_ble_eq_true rfl) dX7_price_27 (fun H locs hR => ?_)
  refine W.eq (g2 := F0 m 30 ls [.int v27, .int (2 : Int32), .int ((5 : Int32) * s0)]) rfl ?_
  refine lv_imul hx hb dX7_price_30 ?_
  refine lv_iadd hx hb dX7_price_31 ?_
  refine lv_aload_n hx hb dX7_price_32 rfl (lv_at hl 1 rfl) ?_
  refine zr_gq X hR (r := (some a0)) fl_X7_21 dX7_price_33 hf (fun v33 hf => ?_)
  obtain ⟨b36, fs36, hr36, ho36, hf⟩ := zz_ob_i hf
  obtain ⟨v36, hv36, hf⟩ := zz_b_i hf
  refine zr_cV X hR hl.1 (As := []) (rest := [.int (((5 : Int32) * s0) + ((2 : Int32) * v27))]) (C := RX2) (T := TX2) (N := 1) (mt_X2_price hT b36 h n hv36) rfl ho36 mf_X2_price q_987 q_988 q_989 ⟨Nat.le_of_ble_eq_true rfl, Nat.le_of_ble_eq_true rfl⟩ ⟨Nat.le_of_ble_eq_true rfl, Nat.le_of_ble_eq_true rfl⟩ (by rw [hr36]; rfl) (Nat.le_of_ble_eq_true rfl) dX7_price_36 (fun H locs hR => ?_)
  refine W.eq (g2 := F0 m 39 ls [.int v36, .int (((5 : Int32) * s0) + ((2 : Int32) * v27))]) rfl ?_
  refine lv_iadd hx hb dX7_price_39 ?_
  refine lv_iconst (v := (4 : Int32)) hx hb dX7_price_40 (by decide) ?_
  refine lv_aload_n hx hb dX7_price_41 rfl (lv_at hl 1 rfl) ?_
  obtain ⟨fs42, ho42, hf⟩ := zz_obS_i hf
  obtain ⟨v42, hv42, hf⟩ := zz_b_i hf
  refine zr_cV X hR hl.1 (As := []) (rest := [.int (4 : Int32), .int ((((5 : Int32) * s0) + ((2 : Int32) * v27)) + v36)]) (C := RX7) (T := TX7) (N := 6) (mt_X7_buttonCount hT a0 h n hv42) rfl ho42 mf_X7_buttonCount q_995 q_806 q_807 ⟨Nat.le_of_ble_eq_true rfl, Nat.le_of_ble_eq_true rfl⟩ ⟨Nat.le_of_ble_eq_true rfl, Nat.le_of_ble_eq_true rfl⟩ rfl (Nat.le_of_ble_eq_true rfl) dX7_price_42 (fun H locs hR => ?_)
  refine W.eq (g2 := F0 m 45 ls [.int v42, .int (4 : Int32), .int ((((5 : Int32) * s0) + ((2 : Int32) * v27)) + v36)]) rfl ?_
  refine lv_imul hx hb dX7_price_45 ?_
  refine lv_iadd hx hb dX7_price_46 ?_
  refine lv_aload_n hx hb dX7_price_47 rfl (lv_at hl 1 rfl) ?_
  refine zr_gq X hR (r := (some a0)) fl_X7_35 dX7_price_48 hf (fun v48 hf => ?_)
  obtain ⟨b51, fs51, hr51, ho51, hf⟩ := zz_ob_i hf
  obtain ⟨v51, hv51, hf⟩ := zz_b_i hf
  refine zr_cV X hR hl.1 (As := []) (rest := [.int (((((5 : Int32) * s0) + ((2 : Int32) * v27)) + v36) + ((4 : Int32) * v42))]) (C := RX1) (T := TX1) (N := 7) (mt_X1_lengthInAll hT b51 h n hv51) rfl ho51 mf_X1_lengthInAll q_996 q_997 q_998 ⟨Nat.le_of_ble_eq_true rfl, Nat.le_of_ble_eq_true rfl⟩ ⟨Nat.le_of_ble_eq_true rfl, Nat.le_of_ble_eq_true rfl⟩ (by rw [hr51]; rfl) (Nat.le_of_ble_eq_true rfl) dX7_price_51 (fun H locs hR => ?_)
  refine W.eq (g2 := F0 m 54 ls [.int v51, .int (((((5 : Int32) * s0) + ((2 : Int32) * v27)) + v36) + ((4 : Int32) * v42))]) rfl ?_
  refine lv_iadd hx hb dX7_price_54 ?_
  cases hf
  exact zr_iret X hR dX7_price_55 (Nat.le_of_ble_eq_true rfl) (Nat.le_of_ble_eq_true rfl)
set_option maxHeartbeats 4000000 in
set_option maxRecDepth 100000 in
theorem mt_X7_price {D : va_G} {dA : Nat → ClassId} {base t0 : Nat} {l : Launch} (hT : l.stackTraces = false) (a0 : Nat) (h : zz_H) (n : Nat) {r0 : Int32} (hf : f_X7_price a0 h = some r0) : zz_M D dA base t0 l yX7_price cX7_price 2 (some .int) rm_X7_price [.ref a0] h n (some (.int r0)) h n := by
  refine Met.ofW (cc := cX7_price) (maxL := 2) (ret := (some .int)) (by decide +kernel) rfl ?_
  intro p e s m args below meth c s₁ B hml hv
  obtain ⟨rfl, hP, hK⟩ := hv
  have X : zz_X D dA base t0 "Springseat$Seat" cX7_price 2 (some .int) l p s m meth c := ⟨B.exec, B.bytes, hml, B.returns, findClass_of_methodNamed B.named, B.notSynchronized, hT, by rw [hP.1]; exact hP.2.1, hK⟩
  have hx := X.1
  have hb := X.2.1
  have hown := X.2.2.2.2.1
  have hR : zz_R D dA base h n s s.heap [] := ⟨hP, va_S.rf⟩
  have hl := lv_entry ([.ref a0]) (n := 2) (by exact Nat.le_of_ble_eq_true rfl)
  rw [lg_entry_eq]
  generalize (lg_sl ([.ref a0]) ++ List.replicate (2 - (lg_sl ([.ref a0])).length) Slot.unset).toArray = ls at hl ⊢
  have hl : lv_has ls 2 [(0, .ref a0)] := hl
  unfold f_X7_price at hf
  refine lv_aload_n hx hb dX7_price_0 rfl (lv_at hl 0 rfl) ?_
  obtain ⟨fs1, ho1, hf⟩ := zz_obS_i hf
  obtain ⟨v1, hv1, hf⟩ := zz_b_i hf
  refine zr_cV X hR hl.1 (As := []) (rest := []) (C := RX7) (T := TX7) (N := 6) (mt_X7_hasSprings hT a0 h n hv1) rfl ho1 mf_X7_hasSprings q_976 q_977 q_978 ⟨Nat.le_of_ble_eq_true rfl, Nat.le_of_ble_eq_true rfl⟩ ⟨Nat.le_of_ble_eq_true rfl, Nat.le_of_ble_eq_true rfl⟩ rfl (Nat.le_of_ble_eq_true rfl) dX7_price_1 (fun H locs hR => ?_)
  refine W.eq (g2 := F0 m 4 ls [.int v1]) rfl ?_
  refine lv_if_eq (tgt := 17) hx hb dX7_price_4 (by decide) (fun c4 => ?_) (fun c4 => ?_)
  · replace hf := zz_pos c4 hf
    refine lv_iconst (v := (0 : Int32)) hx hb dX7_price_17 (by decide) ?_
    exact bk_X7_price_18 X hT hR (lv_sub hl [0] rfl) hf
  · replace hf := zz_neg c4 hf
    refine lv_aload_n hx hb dX7_price_7 rfl (lv_at hl 0 rfl) ?_
    refine zr_gq X hR (r := (some a0)) fl_X7_48 dX7_price_8 hf (fun v8 hf => ?_)
    obtain ⟨b11, fs11, hr11, ho11, hf⟩ := zz_ob_i hf
    obtain ⟨v11, hv11, hf⟩ := zz_b_i hf
    refine zr_cV X hR hl.1 (As := []) (rest := []) (C := RX3) (T := TX3) (N := 7) (mt_X3_cellCount hT b11 h n hv11) rfl ho11 mf_X3_cellCount q_288 q_289 q_290 ⟨Nat.le_of_ble_eq_true rfl, Nat.le_of_ble_eq_true rfl⟩ ⟨Nat.le_of_ble_eq_true rfl, Nat.le_of_ble_eq_true rfl⟩ (by rw [hr11]; rfl) (Nat.le_of_ble_eq_true rfl) dX7_price_11 (fun H locs hR => ?_)
    refine W.eq (g2 := F0 m 14 ls [.int v11]) rfl ?_
    refine lv_goto (tgt := 18) hx hb dX7_price_14 (by decide) ?_
    exact bk_X7_price_18 X hT hR (lv_sub hl [0] rfl) hf
def rm_X7_tellSinking : Room := { frames := 4, cells := 0, slots := 0, locals := 87 }
theorem mf_X7_tellSinking : zz_Mf yX7_tellSinking cX7_tellSinking 9 none 2 := ⟨q_446, q_16, by decide +kernel, by decide +kernel, by decide +kernel⟩
set_option maxHeartbeats 4000000 in
set_option maxRecDepth 100000 in
theorem bk_X7_tellSinking_112 {D : va_G} {dA : Nat → ClassId} {base t0 : Nat} {l : Launch} {p : Program} {e : Env} {s : State} {m : MethodId} {args : Array Value} {below : List Frame} {meth : Method} {c : Code} (X : zz_X D dA base t0 "Springseat$Seat" cX7_tellSinking 9 none l p s m meth c) (hT : l.stackTraces = false) {a0 : Nat} {x2 : (Option Nat)} {x4 : Int32} {h : zz_H} {n : Nat} {H : Heap} {locs : List Loc} {ls : Array Slot} (hR : zz_R D dA base h n s H locs) (hl : lv_has ls 9 [(0, .ref a0), (2, va_rf x2), (4, .int x4)]) {r0 : Unit} {hF : zz_H} {o : ((Int32 × zz_H) ⊕ (Unit × zz_H))} (hf : f_X7_tellSinking_112 a0 x2 x4 h = some o) (k0 : ∀ (w4 : Int32) (hw : zz_H), o = (.inl (w4, hw)) → ∀ {H : Heap} {locs : List Loc} {ls : Array Slot}, zz_R D dA base hw n s H locs → lv_has ls 9 [(0, .ref a0), (2, va_rf x2), (4, .int w4)] → W p l e rm_X7_tellSinking s m args below meth c H locs 0 0 (MQ below (zz_Qc D dA base none hF n) args s rm_X7_tellSinking.cells rm_X7_tellSinking.slots (fun q => base ≤ q)) (F0 m 112 ls [])) (hret : ∀ r, o = (.inr r) → r = (r0, hF)) : W p l e rm_X7_tellSinking s m args below meth c H locs 0 0 (MQ below (zz_Qc D dA base none hF n) args s rm_X7_tellSinking.cells rm_X7_tellSinking.slots (fun q => base ≤ q)) (F0 m 112 ls []) := by
  have hx := X.1
  have hb := X.2.1
  have hown := X.2.2.2.2.1
  unfold f_X7_tellSinking_112 at hf
  refine lv_iload hx hb dX7_tellSinking_112 (lv_at hl 2 rfl) ?_
  refine lv_if_lt (tgt := 176) hx hb dX7_tellSinking_114 (by decide) (fun c114 => ?_) (fun c114 => ?_)
  · replace hf := zz_pos c114 hf
    cases hf
    cases hret _ rfl
    exact zr_vret X hR dX7_tellSinking_176 (Nat.le_of_ble_eq_true rfl) (Nat.le_of_ble_eq_true rfl)
  · replace hf := zz_neg c114 hf
    refine lv_aload_n hx hb dX7_tellSinking_117 rfl (lv_at hl 0 rfl) ?_
    refine zr_gq X hR (r := (some a0)) fl_X7_48 dX7_tellSinking_118 hf (fun v118 hf => ?_)
    refine lv_iload hx hb dX7_tellSinking_121 (lv_at hl 2 rfl) ?_
    obtain ⟨b123, fs123, hr123, ho123, hf⟩ := zz_ob_i hf
    obtain ⟨v123, hv123, hf⟩ := zz_b_i hf
    refine zr_cV X hR hl.1 (As := [.int x4]) (rest := []) (C := RX3) (T := TX3) (N := 7) (mt_X3_cellAt hT b123 x4 h n hv123) rfl ho123 mf_X3_cellAt q_292 q_293 q_294 ⟨Nat.le_of_ble_eq_true rfl, Nat.le_of_ble_eq_true rfl⟩ ⟨Nat.le_of_ble_eq_true rfl, Nat.le_of_ble_eq_true rfl⟩ (by rw [hr123]; rfl) (Nat.le_of_ble_eq_true rfl) dX7_tellSinking_123 (fun H locs hR => ?_)
    refine W.eq (g2 := F0 m 126 ls [.int v123]) rfl ?_
    refine lv_istore (i := 5) (lv' := [(5, .int v123), (0, .ref a0), (2, va_rf x2), (4, .int x4)]) hx hb dX7_tellSinking_126 hl (by decide) rfl (fun ls hl => ?_)
    refine zr_aload_n hx hb dX7_tellSinking_128 rfl (lv_at hl 2 rfl) ?_
    refine lv_iload hx hb dX7_tellSinking_129 (lv_at hl 0 rfl) ?_
    refine lv_bipush (v := (10 : Int32)) hx hb dX7_tellSinking_131 (by decide) ?_
    refine lv_iadd hx hb dX7_tellSinking_133 ?_
    obtain ⟨b134, fs134, hr134, ho134, hf⟩ := zz_ob_i hf
    obtain ⟨v134, hv134, hf⟩ := zz_b_i hf
    refine zr_cV X hR hl.1 (As := [.int (v123 + (10 : Int32))]) (rest := []) (C := RX4) (T := TX4) (N := 1) (mt_X4_at hT b134 (v123 + (10 : Int32)) h n hv134) rfl ho134 mf_X4_at q_301 q_302 q_303 ⟨Nat.le_of_ble_eq_true rfl, Nat.le_of_ble_eq_true rfl⟩ ⟨Nat.le_of_ble_eq_true rfl, Nat.le_of_ble_eq_true rfl⟩ (by rw [hr134]; rfl) (Nat.le_of_ble_eq_true rfl) dX7_tellSinking_134 (fun H locs hR => ?_)
    refine W.eq (g2 := F0 m 137 ls [.int v134]) rfl ?_
    refine zr_aload_n hx hb dX7_tellSinking_137 rfl (lv_at hl 2 rfl) ?_
    refine lv_iload hx hb dX7_tellSinking_138 (lv_at hl 0 rfl) ?_
    refine lv_iconst (v := (1 : Int32)) hx hb dX7_tellSinking_140 (by decide) ?_
    refine lv_iadd hx hb dX7_tellSinking_141 ?_
    obtain ⟨b142, fs142, hr142, ho142, hf⟩ := zz_ob_i hf
    obtain ⟨v142, hv142, hf⟩ := zz_b_i hf
    refine zr_cV X hR hl.1 (As := [.int (v123 + (1 : Int32))]) (rest := [.int v134]) (C := RX4) (T := TX4) (N := 1) (mt_X4_at hT b142 (v123 + (1 : Int32)) h n hv142) rfl ho142 mf_X4_at q_301 q_302 q_303 ⟨Nat.le_of_ble_eq_true rfl, Nat.le_of_ble_eq_true rfl⟩ ⟨Nat.le_of_ble_eq_true rfl, Nat.le_of_ble_eq_true rfl⟩ (by rw [hr142]; rfl) (Nat.le_of_ble_eq_true rfl) dX7_tellSinking_142 (fun H locs hR => ?_)
    refine W.eq (g2 := F0 m 145 ls [.int v142, .int v134]) rfl ?_
    refine zr_max X hl.1 q_355 q_106 q_8 q_107 (Nat.le_of_ble_eq_true rfl) ⟨Nat.le_of_ble_eq_true rfl, Nat.le_of_ble_eq_true rfl⟩ ⟨Nat.le_of_ble_eq_true rfl, Nat.le_of_ble_eq_true rfl⟩ dX7_tellSinking_145 ?_
    refine W.eq (g2 := F0 m 148 ls [.int (zz_max v134 v142)]) rfl ?_
    refine lv_istore (i := 6) (lv' := [(6, .int (zz_max v134 v142)), (5, .int v123), (0, .ref a0), (2, va_rf x2), (4, .int x4)]) hx hb dX7_tellSinking_148 hl (by decide) rfl (fun ls hl => ?_)
    refine zr_aload_n hx hb dX7_tellSinking_150 rfl (lv_at hl 3 rfl) ?_
    refine lv_iload hx hb dX7_tellSinking_151 (lv_at hl 1 rfl) ?_
    refine zr_aload_n hx hb dX7_tellSinking_153 rfl (lv_at hl 3 rfl) ?_
    refine lv_iload hx hb dX7_tellSinking_154 (lv_at hl 1 rfl) ?_
    obtain ⟨b156, fs156, hr156, ho156, hf⟩ := zz_ob_i hf
    obtain ⟨v156, hv156, hf⟩ := zz_b_i hf
    refine zr_cV X hR hl.1 (As := [.int v123]) (rest := [.int v123, va_rf x2]) (C := RX4) (T := TX4) (N := 1) (mt_X4_at hT b156 v123 h n hv156) rfl ho156 mf_X4_at q_301 q_302 q_303 ⟨Nat.le_of_ble_eq_true rfl, Nat.le_of_ble_eq_true rfl⟩ ⟨Nat.le_of_ble_eq_true rfl, Nat.le_of_ble_eq_true rfl⟩ (by rw [hr156]; rfl) (Nat.le_of_ble_eq_true rfl) dX7_tellSinking_156 (fun H locs hR => ?_)
    refine W.eq (g2 := F0 m 159 ls [.int v156, .int v123, va_rf x2]) rfl ?_
    refine lv_iload hx hb dX7_tellSinking_159 (lv_at hl 0 rfl) ?_
    refine lv_bipush (v := (8 : Int32)) hx hb dX7_tellSinking_161 (by decide) ?_
    refine lv_isub hx hb dX7_tellSinking_163 ?_
    refine zr_max X hl.1 q_355 q_106 q_8 q_107 (Nat.le_of_ble_eq_true rfl) ⟨Nat.le_of_ble_eq_true rfl, Nat.le_of_ble_eq_true rfl⟩ ⟨Nat.le_of_ble_eq_true rfl, Nat.le_of_ble_eq_true rfl⟩ dX7_tellSinking_164 ?_
    refine W.eq (g2 := F0 m 167 ls [.int (zz_max v156 ((zz_max v134 v142) - (8 : Int32))), .int v123, va_rf x2]) rfl ?_
    obtain ⟨b167, fs167, hr167, ho167, hf⟩ := zz_ob_i hf
    obtain ⟨u167, h167, hv167, hf⟩ := zz_b1_i hf
    refine zr_cV X hR hl.1 (As := [.int v123, .int (zz_max v156 ((zz_max v134 v142) - (8 : Int32)))]) (rest := []) (C := RX4) (T := TX4) (N := 1) (mt_X4_put hT b167 v123 (zz_max v156 ((zz_max v134 v142) - (8 : Int32))) h n hv167) rfl ho167 mf_X4_put q_472 q_473 q_474 ⟨Nat.le_of_ble_eq_true rfl, Nat.le_of_ble_eq_true rfl⟩ ⟨Nat.le_of_ble_eq_true rfl, Nat.le_of_ble_eq_true rfl⟩ (by rw [hr167]; rfl) (Nat.le_of_ble_eq_true rfl) dX7_tellSinking_167 (fun H locs hR => ?_)
    refine W.eq (g2 := F0 m 170 ls []) rfl ?_
    refine lv_iinc (i := 4) (v := (x4 + (-1 : Int32))) (lv' := [(4, .int (x4 + (-1 : Int32))), (6, .int (zz_max v134 v142)), (5, .int v123), (0, .ref a0), (2, va_rf x2)]) hx hb dX7_tellSinking_170 hl (k := 4) rfl rfl (by decide) rfl (fun ls hl => ?_)
    refine lv_goto (tgt := 112) hx hb dX7_tellSinking_173 (by decide) ?_
    cases hf
    exact k0 _ _ rfl hR (lv_sub hl [3, 4, 0] rfl)
set_option maxHeartbeats 4000000 in
set_option maxRecDepth 100000 in
theorem lp_X7_tellSinking_112 {D : va_G} {dA : Nat → ClassId} {base t0 : Nat} {l : Launch} {p : Program} {e : Env} {s : State} {m : MethodId} {args : Array Value} {below : List Frame} {meth : Method} {c : Code} (X : zz_X D dA base t0 "Springseat$Seat" cX7_tellSinking 9 none l p s m meth c) (hT : l.stackTraces = false) (a0 : Nat) (x2 : (Option Nat)) {n : Nat} {r0 : Unit} {hF : zz_H} : ∀ (k : Nat) (x4 : Int32) (h : zz_H), zz_it (fun s : (Int32 × zz_H) => f_X7_tellSinking_112 a0 x2 s.1 s.2) k (x4, h) = some (r0, hF) → ∀ {H : Heap} {locs : List Loc} {ls : Array Slot}, zz_R D dA base h n s H locs → lv_has ls 9 [(0, .ref a0), (2, va_rf x2), (4, .int x4)] → W p l e rm_X7_tellSinking s m args below meth c H locs 0 0 (MQ below (zz_Qc D dA base none hF n) args s rm_X7_tellSinking.cells rm_X7_tellSinking.slots (fun q => base ≤ q)) (F0 m 112 ls []) := by
  intro k
  induction k with
  | zero => intro x4 h hf; cases hf
  | succ k ih =>
    intro x4 h hf H locs ls hR hl
    rcases zz_it_s hf with ⟨⟨y0, y1⟩, h1, h2⟩ | h1
    · exact bk_X7_tellSinking_112 (r0 := r0) X hT hR hl h1  (fun z0 z1 e => by cases e; exact ih _ _ h2) (fun r e => by cases e)
    · exact bk_X7_tellSinking_112 (r0 := r0) X hT hR hl h1  (fun z0 z1 e => by cases e) (fun r e => (Sum.inr.inj e).symm)
set_option maxHeartbeats 4000000 in
set_option maxRecDepth 100000 in
theorem bk_X7_tellSinking_15 {D : va_G} {dA : Nat → ClassId} {base t0 : Nat} {l : Launch} {p : Program} {e : Env} {s : State} {m : MethodId} {args : Array Value} {below : List Frame} {meth : Method} {c : Code} (X : zz_X D dA base t0 "Springseat$Seat" cX7_tellSinking 9 none l p s m meth c) (hT : l.stackTraces = false) {a0 : Nat} {x1 : (Option Nat)} {x2 : (Option Nat)} {x3 : Int32} {x4 : Int32} {h : zz_H} {n : Nat} {H : Heap} {locs : List Loc} {ls : Array Slot} (hR : zz_R D dA base h n s H locs) (hl : lv_has ls 9 [(0, .ref a0), (1, va_rf x1), (2, va_rf x2), (3, .int x3), (4, .int x4)]) {r0 : Unit} {hF : zz_H} {o : ((Int32 × zz_H) ⊕ (Unit × zz_H))} (hf : f_X7_tellSinking_15 a0 x1 x2 x3 x4 h = some o) (k0 : ∀ (w4 : Int32) (hw : zz_H), o = (.inl (w4, hw)) → ∀ {H : Heap} {locs : List Loc} {ls : Array Slot}, zz_R D dA base hw n s H locs → lv_has ls 9 [(0, .ref a0), (1, va_rf x1), (2, va_rf x2), (3, .int x3), (4, .int w4)] → W p l e rm_X7_tellSinking s m args below meth c H locs 0 0 (MQ below (zz_Qc D dA base none hF n) args s rm_X7_tellSinking.cells rm_X7_tellSinking.slots (fun q => base ≤ q)) (F0 m 15 ls [])) (hret : ∀ r, o = (.inr r) → r = (r0, hF)) : W p l e rm_X7_tellSinking s m args below meth c H locs 0 0 (MQ below (zz_Qc D dA base none hF n) args s rm_X7_tellSinking.cells rm_X7_tellSinking.slots (fun q => base ≤ q)) (F0 m 15 ls []) := by
  have hx := X.1
  have hb := X.2.1
  have hown := X.2.2.2.2.1
  unfold f_X7_tellSinking_15 at hf
  refine lv_iload hx hb dX7_tellSinking_15 (lv_at hl 4 rfl) ?_
  refine lv_iload_n hx hb dX7_tellSinking_17 rfl (lv_at hl 3 rfl) ?_
  refine lv_icmp_ge (tgt := 107) hx hb dX7_tellSinking_18 (by decide) (fun c18 => ?_) (fun c18 => ?_)
  · replace hf := zz_pos c18 hf
    refine lv_iload_n hx hb dX7_tellSinking_107 rfl (lv_at hl 3 rfl) ?_
    refine lv_iconst (v := (1 : Int32)) hx hb dX7_tellSinking_108 (by decide) ?_
    refine lv_isub hx hb dX7_tellSinking_109 ?_
    refine lv_istore (i := 4) (lv' := [(4, .int (x3 - (1 : Int32))), (0, .ref a0), (1, va_rf x1), (2, va_rf x2), (3, .int x3)]) hx hb dX7_tellSinking_110 hl (by decide) rfl (fun ls hl => ?_)
    obtain ⟨o1, hf1, he⟩ := Option.map_eq_some_iff.mp hf
    cases he
    cases hret _ rfl
    exact lp_X7_tellSinking_112 X hT a0 x2 zz_F _ _ hf1 hR (lv_sub hl [1, 3, 0] rfl)
  · replace hf := zz_neg c18 hf
    refine lv_aload_n hx hb dX7_tellSinking_21 rfl (lv_at hl 0 rfl) ?_
    refine zr_gq X hR (r := (some a0)) fl_X7_48 dX7_tellSinking_22 hf (fun v22 hf => ?_)
    refine lv_iload hx hb dX7_tellSinking_25 (lv_at hl 4 rfl) ?_
    obtain ⟨b27, fs27, hr27, ho27, hf⟩ := zz_ob_i hf
    obtain ⟨v27, hv27, hf⟩ := zz_b_i hf
    refine zr_cV X hR hl.1 (As := [.int x4]) (rest := []) (C := RX3) (T := TX3) (N := 7) (mt_X3_cellAt hT b27 x4 h n hv27) rfl ho27 mf_X3_cellAt q_292 q_293 q_294 ⟨Nat.le_of_ble_eq_true rfl, Nat.le_of_ble_eq_true rfl⟩ ⟨Nat.le_of_ble_eq_true rfl, Nat.le_of_ble_eq_true rfl⟩ (by rw [hr27]; rfl) (Nat.le_of_ble_eq_true rfl) dX7_tellSinking_27 (fun H locs hR => ?_)
    refine W.eq (g2 := F0 m 30 ls [.int v27]) rfl ?_
    refine lv_istore (i := 5) (lv' := [(5, .int v27), (0, .ref a0), (1, va_rf x1), (2, va_rf x2), (3, .int x3), (4, .int x4)]) hx hb dX7_tellSinking_30 hl (by decide) rfl (fun ls hl => ?_)
    refine zr_aload_n hx hb dX7_tellSinking_32 rfl (lv_at hl 2 rfl) ?_
    refine lv_iload hx hb dX7_tellSinking_33 (lv_at hl 0 rfl) ?_
    obtain ⟨b35, fs35, hr35, ho35, hf⟩ := zz_ob_i hf
    obtain ⟨v35, hv35, hf⟩ := zz_b_i hf
    refine zr_cV X hR hl.1 (As := [.int v27]) (rest := []) (C := RX4) (T := TX4) (N := 1) (mt_X4_at hT b35 v27 h n hv35) rfl ho35 mf_X4_at q_301 q_302 q_303 ⟨Nat.le_of_ble_eq_true rfl, Nat.le_of_ble_eq_true rfl⟩ ⟨Nat.le_of_ble_eq_true rfl, Nat.le_of_ble_eq_true rfl⟩ (by rw [hr35]; rfl) (Nat.le_of_ble_eq_true rfl) dX7_tellSinking_35 (fun H locs hR => ?_)
    refine W.eq (g2 := F0 m 38 ls [.int v35]) rfl ?_
    refine lv_istore (i := 6) (lv' := [(6, .int v35), (5, .int v27), (0, .ref a0), (1, va_rf x1), (2, va_rf x2), (3, .int x3), (4, .int x4)]) hx hb dX7_tellSinking_38 hl (by decide) rfl (fun ls hl => ?_)
    refine lv_aload_n hx hb dX7_tellSinking_40 rfl (lv_at hl 2 rfl) ?_
    refine zr_gq X hR (r := (some a0)) fl_X7_48 dX7_tellSinking_41 hf (fun v41 hf => ?_)
    refine lv_iload hx hb dX7_tellSinking_44 (lv_at hl 0 rfl) ?_
    refine lv_iload hx hb dX7_tellSinking_46 (lv_at hl 1 rfl) ?_
    obtain ⟨b48, fs48, hr48, ho48, hf⟩ := zz_ob_i hf
    obtain ⟨v48, hv48, hf⟩ := zz_b_i hf
    refine zr_cV X hR hl.1 (As := [.int v35, .int v27]) (rest := []) (C := RX3) (T := TX3) (N := 7) (mt_X3_sinkingUnder hT b48 v35 v27 h n hv48) rfl ho48 mf_X3_sinkingUnder q_454 q_455 q_456 ⟨Nat.le_of_ble_eq_true rfl, Nat.le_of_ble_eq_true rfl⟩ ⟨Nat.le_of_ble_eq_true rfl, Nat.le_of_ble_eq_true rfl⟩ (by rw [hr48]; rfl) (Nat.le_of_ble_eq_true rfl) dX7_tellSinking_48 (fun H locs hR => ?_)
    refine W.eq (g2 := F0 m 51 ls [.int v48]) rfl ?_
    refine lv_aload_n hx hb dX7_tellSinking_51 rfl (lv_at hl 2 rfl) ?_
    refine zr_gq X hR (r := (some a0)) fl_X7_21 dX7_tellSinking_52 hf (fun v52 hf => ?_)
    refine lv_iload hx hb dX7_tellSinking_55 (lv_at hl 0 rfl) ?_
    obtain ⟨b57, fs57, hr57, ho57, hf⟩ := zz_ob_i hf
    obtain ⟨v57, hv57, hf⟩ := zz_b_i hf
    refine zr_cV X hR hl.1 (As := [.int v35]) (rest := [.int v48]) (C := RX2) (T := TX2) (N := 1) (mt_X2_sinkingUnder hT b57 v35 h n hv57) rfl ho57 mf_X2_sinkingUnder q_462 q_463 q_464 ⟨Nat.le_of_ble_eq_true rfl, Nat.le_of_ble_eq_true rfl⟩ ⟨Nat.le_of_ble_eq_true rfl, Nat.le_of_ble_eq_true rfl⟩ (by rw [hr57]; rfl) (Nat.le_of_ble_eq_true rfl) dX7_tellSinking_57 (fun H locs hR => ?_)
    refine W.eq (g2 := F0 m 60 ls [.int v57, .int v48]) rfl ?_
    refine lv_iadd hx hb dX7_tellSinking_60 ?_
    refine lv_istore (i := 7) (lv' := [(7, .int (v48 + v57)), (6, .int v35), (5, .int v27), (0, .ref a0), (1, va_rf x1), (2, va_rf x2), (3, .int x3), (4, .int x4)]) hx hb dX7_tellSinking_61 hl (by decide) rfl (fun ls hl => ?_)
    refine zr_aload_n hx hb dX7_tellSinking_63 rfl (lv_at hl 5 rfl) ?_
    refine lv_iload hx hb dX7_tellSinking_64 (lv_at hl 2 rfl) ?_
    refine lv_bipush (v := (10 : Int32)) hx hb dX7_tellSinking_66 (by decide) ?_
    refine lv_isub hx hb dX7_tellSinking_68 ?_
    obtain ⟨b69, fs69, hr69, ho69, hf⟩ := zz_ob_i hf
    obtain ⟨v69, hv69, hf⟩ := zz_b_i hf
    refine zr_cV X hR hl.1 (As := [.int (v27 - (10 : Int32))]) (rest := []) (C := RX4) (T := TX4) (N := 1) (mt_X4_at hT b69 (v27 - (10 : Int32)) h n hv69) rfl ho69 mf_X4_at q_301 q_302 q_303 ⟨Nat.le_of_ble_eq_true rfl, Nat.le_of_ble_eq_true rfl⟩ ⟨Nat.le_of_ble_eq_true rfl, Nat.le_of_ble_eq_true rfl⟩ (by rw [hr69]; rfl) (Nat.le_of_ble_eq_true rfl) dX7_tellSinking_69 (fun H locs hR => ?_)
    refine W.eq (g2 := F0 m 72 ls [.int v69]) rfl ?_
    refine zr_aload_n hx hb dX7_tellSinking_72 rfl (lv_at hl 5 rfl) ?_
    refine lv_iload hx hb dX7_tellSinking_73 (lv_at hl 2 rfl) ?_
    refine lv_iconst (v := (1 : Int32)) hx hb dX7_tellSinking_75 (by decide) ?_
    refine lv_isub hx hb dX7_tellSinking_76 ?_
    obtain ⟨b77, fs77, hr77, ho77, hf⟩ := zz_ob_i hf
    obtain ⟨v77, hv77, hf⟩ := zz_b_i hf
    refine zr_cV X hR hl.1 (As := [.int (v27 - (1 : Int32))]) (rest := [.int v69]) (C := RX4) (T := TX4) (N := 1) (mt_X4_at hT b77 (v27 - (1 : Int32)) h n hv77) rfl ho77 mf_X4_at q_301 q_302 q_303 ⟨Nat.le_of_ble_eq_true rfl, Nat.le_of_ble_eq_true rfl⟩ ⟨Nat.le_of_ble_eq_true rfl, Nat.le_of_ble_eq_true rfl⟩ (by rw [hr77]; rfl) (Nat.le_of_ble_eq_true rfl) dX7_tellSinking_77 (fun H locs hR => ?_)
    refine W.eq (g2 := F0 m 80 ls [.int v77, .int v69]) rfl ?_
    refine zr_max X hl.1 q_355 q_106 q_8 q_107 (Nat.le_of_ble_eq_true rfl) ⟨Nat.le_of_ble_eq_true rfl, Nat.le_of_ble_eq_true rfl⟩ ⟨Nat.le_of_ble_eq_true rfl, Nat.le_of_ble_eq_true rfl⟩ dX7_tellSinking_80 ?_
    refine W.eq (g2 := F0 m 83 ls [.int (zz_max v69 v77)]) rfl ?_
    refine lv_istore (i := 8) (lv' := [(8, .int (zz_max v69 v77)), (7, .int (v48 + v57)), (6, .int v35), (5, .int v27), (0, .ref a0), (1, va_rf x1), (2, va_rf x2), (3, .int x3), (4, .int x4)]) hx hb dX7_tellSinking_83 hl (by decide) rfl (fun ls hl => ?_)
    refine zr_aload_n hx hb dX7_tellSinking_85 rfl (lv_at hl 6 rfl) ?_
    refine lv_iload hx hb dX7_tellSinking_86 (lv_at hl 3 rfl) ?_
    refine lv_iload hx hb dX7_tellSinking_88 (lv_at hl 1 rfl) ?_
    refine lv_iload hx hb dX7_tellSinking_90 (lv_at hl 0 rfl) ?_
    refine lv_bipush (v := (8 : Int32)) hx hb dX7_tellSinking_92 (by decide) ?_
    refine lv_isub hx hb dX7_tellSinking_94 ?_
    refine zr_max X hl.1 q_355 q_106 q_8 q_107 (Nat.le_of_ble_eq_true rfl) ⟨Nat.le_of_ble_eq_true rfl, Nat.le_of_ble_eq_true rfl⟩ ⟨Nat.le_of_ble_eq_true rfl, Nat.le_of_ble_eq_true rfl⟩ dX7_tellSinking_95 ?_
    refine W.eq (g2 := F0 m 98 ls [.int (zz_max (v48 + v57) ((zz_max v69 v77) - (8 : Int32))), .int v27, va_rf x2]) rfl ?_
    obtain ⟨b98, fs98, hr98, ho98, hf⟩ := zz_ob_i hf
    obtain ⟨u98, h98, hv98, hf⟩ := zz_b1_i hf
    refine zr_cV X hR hl.1 (As := [.int v27, .int (zz_max (v48 + v57) ((zz_max v69 v77) - (8 : Int32)))]) (rest := []) (C := RX4) (T := TX4) (N := 1) (mt_X4_put hT b98 v27 (zz_max (v48 + v57) ((zz_max v69 v77) - (8 : Int32))) h n hv98) rfl ho98 mf_X4_put q_472 q_473 q_474 ⟨Nat.le_of_ble_eq_true rfl, Nat.le_of_ble_eq_true rfl⟩ ⟨Nat.le_of_ble_eq_true rfl, Nat.le_of_ble_eq_true rfl⟩ (by rw [hr98]; rfl) (Nat.le_of_ble_eq_true rfl) dX7_tellSinking_98 (fun H locs hR => ?_)
    refine W.eq (g2 := F0 m 101 ls []) rfl ?_
    refine lv_iinc (i := 4) (v := (x4 + (1 : Int32))) (lv' := [(4, .int (x4 + (1 : Int32))), (8, .int (zz_max v69 v77)), (7, .int (v48 + v57)), (6, .int v35), (5, .int v27), (0, .ref a0), (1, va_rf x1), (2, va_rf x2), (3, .int x3)]) hx hb dX7_tellSinking_101 hl (k := 8) rfl rfl (by decide) rfl (fun ls hl => ?_)
    refine lv_goto (tgt := 15) hx hb dX7_tellSinking_104 (by decide) ?_
    cases hf
    exact k0 _ _ rfl hR (lv_sub hl [5, 6, 7, 8, 0] rfl)
set_option maxHeartbeats 4000000 in
set_option maxRecDepth 100000 in
theorem lp_X7_tellSinking_15 {D : va_G} {dA : Nat → ClassId} {base t0 : Nat} {l : Launch} {p : Program} {e : Env} {s : State} {m : MethodId} {args : Array Value} {below : List Frame} {meth : Method} {c : Code} (X : zz_X D dA base t0 "Springseat$Seat" cX7_tellSinking 9 none l p s m meth c) (hT : l.stackTraces = false) (a0 : Nat) (x1 : (Option Nat)) (x2 : (Option Nat)) (x3 : Int32) {n : Nat} {r0 : Unit} {hF : zz_H} : ∀ (k : Nat) (x4 : Int32) (h : zz_H), zz_it (fun s : (Int32 × zz_H) => f_X7_tellSinking_15 a0 x1 x2 x3 s.1 s.2) k (x4, h) = some (r0, hF) → ∀ {H : Heap} {locs : List Loc} {ls : Array Slot}, zz_R D dA base h n s H locs → lv_has ls 9 [(0, .ref a0), (1, va_rf x1), (2, va_rf x2), (3, .int x3), (4, .int x4)] → W p l e rm_X7_tellSinking s m args below meth c H locs 0 0 (MQ below (zz_Qc D dA base none hF n) args s rm_X7_tellSinking.cells rm_X7_tellSinking.slots (fun q => base ≤ q)) (F0 m 15 ls []) := by
  intro k
  induction k with
  | zero => intro x4 h hf; cases hf
  | succ k ih =>
    intro x4 h hf H locs ls hR hl
    rcases zz_it_s hf with ⟨⟨y0, y1⟩, h1, h2⟩ | h1
    · exact bk_X7_tellSinking_15 (r0 := r0) X hT hR hl h1  (fun z0 z1 e => by cases e; exact ih _ _ h2) (fun r e => by cases e)
    · exact bk_X7_tellSinking_15 (r0 := r0) X hT hR hl h1  (fun z0 z1 e => by cases e) (fun r e => (Sum.inr.inj e).symm)
set_option maxHeartbeats 4000000 in
set_option maxRecDepth 100000 in
theorem mt_X7_tellSinking {D : va_G} {dA : Nat → ClassId} {base t0 : Nat} {l : Launch} (hT : l.stackTraces = false) (a0 : Nat) (x1 : (Option Nat)) (x2 : (Option Nat)) (h : zz_H) (n : Nat) {r0 : Unit} {hF : zz_H} (hf : f_X7_tellSinking a0 x1 x2 h = some (r0, hF)) : zz_M D dA base t0 l yX7_tellSinking cX7_tellSinking 9 none rm_X7_tellSinking [.ref a0, va_rf x1, va_rf x2] h n none hF n := by
  refine Met.ofW (cc := cX7_tellSinking) (maxL := 9) (ret := none) (by decide +kernel) rfl ?_
  intro p e s m args below meth c s₁ B hml hv
  obtain ⟨rfl, hP, hK⟩ := hv
  have X : zz_X D dA base t0 "Springseat$Seat" cX7_tellSinking 9 none l p s m meth c := ⟨B.exec, B.bytes, hml, B.returns, findClass_of_methodNamed B.named, B.notSynchronized, hT, by rw [hP.1]; exact hP.2.1, hK⟩
  have hx := X.1
  have hb := X.2.1
  have hown := X.2.2.2.2.1
  have hR : zz_R D dA base h n s s.heap [] := ⟨hP, va_S.rf⟩
  have hl := lv_entry ([.ref a0, va_rf x1, va_rf x2]) (n := 9) (by cases x1 <;> cases x2 <;> exact Nat.le_of_ble_eq_true rfl)
  rw [lg_entry_eq]
  generalize (lg_sl ([.ref a0, va_rf x1, va_rf x2]) ++ List.replicate (9 - (lg_sl ([.ref a0, va_rf x1, va_rf x2])).length) Slot.unset).toArray = ls at hl ⊢
  have hl : lv_has ls 9 [(0, .ref a0), (1, va_rf x1), (2, va_rf x2)] := by rw [show ([(0, .ref a0), (1, va_rf x1), (2, va_rf x2)] : List (Nat × Value)) = lv_args 0 [.ref a0, va_rf x1, va_rf x2] from by cases x1 <;> cases x2 <;> rfl]; exact hl
  unfold f_X7_tellSinking at hf
  refine zr_aload_n hx hb dX7_tellSinking_0 rfl (lv_at hl 2 rfl) ?_
  obtain ⟨b1, fs1, hr1, ho1, hf⟩ := zz_ob_i hf
  obtain ⟨u1, h1, hv1, hf⟩ := zz_b1_i hf
  refine zr_cV X hR hl.1 (As := []) (rest := []) (C := RX4) (T := TX4) (N := 1) (mt_X4_clear hT b1 h n hv1) rfl ho1 mf_X4_clear q_447 q_448 q_449 ⟨Nat.le_of_ble_eq_true rfl, Nat.le_of_ble_eq_true rfl⟩ ⟨Nat.le_of_ble_eq_true rfl, Nat.le_of_ble_eq_true rfl⟩ (by rw [hr1]; rfl) (Nat.le_of_ble_eq_true rfl) dX7_tellSinking_1 (fun H locs hR => ?_)
  refine W.eq (g2 := F0 m 4 ls []) rfl ?_
  refine lv_aload_n hx hb dX7_tellSinking_4 rfl (lv_at hl 0 rfl) ?_
  refine zr_gq X hR (r := (some a0)) fl_X7_48 dX7_tellSinking_5 hf (fun v5 hf => ?_)
  obtain ⟨b8, fs8, hr8, ho8, hf⟩ := zz_ob_i hf
  obtain ⟨v8, hv8, hf⟩ := zz_b_i hf
  refine zr_cV X hR hl.1 (As := []) (rest := []) (C := RX3) (T := TX3) (N := 7) (mt_X3_cellCount hT b8 h1 n hv8) rfl ho8 mf_X3_cellCount q_288 q_289 q_290 ⟨Nat.le_of_ble_eq_true rfl, Nat.le_of_ble_eq_true rfl⟩ ⟨Nat.le_of_ble_eq_true rfl, Nat.le_of_ble_eq_true rfl⟩ (by rw [hr8]; rfl) (Nat.le_of_ble_eq_true rfl) dX7_tellSinking_8 (fun H locs hR => ?_)
  refine W.eq (g2 := F0 m 11 ls [.int v8]) rfl ?_
  refine lv_istore_n (i := 3) (lv' := [(3, .int v8), (0, .ref a0), (1, va_rf x1), (2, va_rf x2)]) hx hb dX7_tellSinking_11 rfl hl (by decide) (by simp [zz_cat, zz_catI, zz_catR, zz_catJ, zz_catF, zz_catD]) (fun ls hl => ?_)
  refine lv_iconst (v := (0 : Int32)) hx hb dX7_tellSinking_12 (by decide) ?_
  refine lv_istore (i := 4) (lv' := [(4, .int (0 : Int32)), (3, .int v8), (0, .ref a0), (1, va_rf x1), (2, va_rf x2)]) hx hb dX7_tellSinking_13 hl (by decide) rfl (fun ls hl => ?_)
  exact lp_X7_tellSinking_15 X hT a0 x1 x2 v8 zz_F _ _ hf hR (lv_sub hl [2, 3, 4, 1, 0] rfl)
def rm_X7_slopesGently : Room := { frames := 1, cells := 0, slots := 0, locals := 21 }
theorem mf_X7_slopesGently : zz_Mf yX7_slopesGently cX7_slopesGently 5 (some .boolean) 1 := ⟨q_479, q_16, by decide +kernel, by decide +kernel, by decide +kernel⟩
set_option maxHeartbeats 4000000 in
set_option maxRecDepth 100000 in
theorem bk_X7_slopesGently_86 {D : va_G} {dA : Nat → ClassId} {base t0 : Nat} {l : Launch} {p : Program} {e : Env} {s : State} {m : MethodId} {args : Array Value} {below : List Frame} {meth : Method} {c : Code} (X : zz_X D dA base t0 "Springseat$Seat" cX7_slopesGently 5 (some .boolean) l p s m meth c) (hT : l.stackTraces = false) {a0 : Nat} {x1 : (Option Nat)} {x2 : Int32} {h : zz_H} {n : Nat} {H : Heap} {locs : List Loc} {ls : Array Slot} (hR : zz_R D dA base h n s H locs) (hl : lv_has ls 5 [(0, .ref a0), (1, va_rf x1), (2, .int x2)]) {r0 : Int32} {o : (Int32 ⊕ Int32)} (hf : f_X7_slopesGently_86 a0 x1 x2 h = some o) (k0 : ∀ (w2 : Int32), o = (.inl w2) → ∀ {H : Heap} {locs : List Loc} {ls : Array Slot}, zz_R D dA base h n s H locs → lv_has ls 5 [(0, .ref a0), (1, va_rf x1), (2, .int w2)] → W p l e rm_X7_slopesGently s m args below meth c H locs 0 0 (MQ below (zz_Qc D dA base (some (.int r0)) h n) args s rm_X7_slopesGently.cells rm_X7_slopesGently.slots (fun q => base ≤ q)) (F0 m 2 ls [])) (hret : ∀ r, o = (.inr r) → r = r0) : W p l e rm_X7_slopesGently s m args below meth c H locs 0 0 (MQ below (zz_Qc D dA base (some (.int r0)) h n) args s rm_X7_slopesGently.cells rm_X7_slopesGently.slots (fun q => base ≤ q)) (F0 m 86 ls []) := by
  have hx := X.1
  have hb := X.2.1
  have hown := X.2.2.2.2.1
  unfold f_X7_slopesGently_86 at hf
  refine lv_iinc (i := 2) (v := (x2 + (1 : Int32))) (lv' := [(2, .int (x2 + (1 : Int32))), (0, .ref a0), (1, va_rf x1)]) hx hb dX7_slopesGently_86 hl (k := 2) rfl rfl (by decide) (by simp [zz_cat, zz_catI, zz_catR, zz_catJ, zz_catF, zz_catD]) (fun ls hl => ?_)
  refine lv_goto (tgt := 2) hx hb dX7_slopesGently_89 (by decide) ?_
  cases hf
  exact k0 _ rfl hR (lv_sub hl [1, 2, 0] rfl)
set_option maxHeartbeats 4000000 in
set_option maxRecDepth 100000 in
theorem bk_X7_slopesGently_56 {D : va_G} {dA : Nat → ClassId} {base t0 : Nat} {l : Launch} {p : Program} {e : Env} {s : State} {m : MethodId} {args : Array Value} {below : List Frame} {meth : Method} {c : Code} (X : zz_X D dA base t0 "Springseat$Seat" cX7_slopesGently 5 (some .boolean) l p s m meth c) (hT : l.stackTraces = false) {a0 : Nat} {x1 : (Option Nat)} {x2 : Int32} {x3 : Int32} {h : zz_H} {n : Nat} {H : Heap} {locs : List Loc} {ls : Array Slot} (hR : zz_R D dA base h n s H locs) (hl : lv_has ls 5 [(0, .ref a0), (1, va_rf x1), (2, .int x2), (3, .int x3)]) {r0 : Int32} {o : (Int32 ⊕ Int32)} (hf : f_X7_slopesGently_56 a0 x1 x2 x3 h = some o) (k0 : ∀ (w2 : Int32), o = (.inl w2) → ∀ {H : Heap} {locs : List Loc} {ls : Array Slot}, zz_R D dA base h n s H locs → lv_has ls 5 [(0, .ref a0), (1, va_rf x1), (2, .int w2)] → W p l e rm_X7_slopesGently s m args below meth c H locs 0 0 (MQ below (zz_Qc D dA base (some (.int r0)) h n) args s rm_X7_slopesGently.cells rm_X7_slopesGently.slots (fun q => base ≤ q)) (F0 m 2 ls [])) (hret : ∀ r, o = (.inr r) → r = r0) : W p l e rm_X7_slopesGently s m args below meth c H locs 0 0 (MQ below (zz_Qc D dA base (some (.int r0)) h n) args s rm_X7_slopesGently.cells rm_X7_slopesGently.slots (fun q => base ≤ q)) (F0 m 56 ls []) := by
  have hx := X.1
  have hb := X.2.1
  have hown := X.2.2.2.2.1
  unfold f_X7_slopesGently_56 at hf
  refine lv_iload_n hx hb dX7_slopesGently_56 rfl (lv_at hl 3 rfl) ?_
  refine lv_bipush (v := (10 : Int32)) hx hb dX7_slopesGently_57 (by decide) ?_
  refine lv_icmp_lt (tgt := 86) hx hb dX7_slopesGently_59 (by decide) (fun c59 => ?_) (fun c59 => ?_)
  · replace hf := zz_pos c59 hf
    exact bk_X7_slopesGently_86 X hT hR (lv_sub hl [0, 1, 2] rfl) hf k0 hret
  · replace hf := zz_neg c59 hf
    refine zr_aload_n hx hb dX7_slopesGently_62 rfl (lv_at hl 1 rfl) ?_
    refine lv_iload_n hx hb dX7_slopesGently_63 rfl (lv_at hl 3 rfl) ?_
    obtain ⟨b64, fs64, hr64, ho64, hf⟩ := zz_ob_i hf
    obtain ⟨v64, hv64, hf⟩ := zz_b_i hf
    refine zr_cV X hR hl.1 (As := [.int x3]) (rest := []) (C := RX4) (T := TX4) (N := 1) (mt_X4_at hT b64 x3 h n hv64) rfl ho64 mf_X4_at q_301 q_302 q_303 ⟨Nat.le_of_ble_eq_true rfl, Nat.le_of_ble_eq_true rfl⟩ ⟨Nat.le_of_ble_eq_true rfl, Nat.le_of_ble_eq_true rfl⟩ (by rw [hr64]; rfl) (Nat.le_of_ble_eq_true rfl) dX7_slopesGently_64 (fun H locs hR => ?_)
    refine W.eq (g2 := F0 m 67 ls [.int v64]) rfl ?_
    refine zr_aload_n hx hb dX7_slopesGently_67 rfl (lv_at hl 1 rfl) ?_
    refine lv_iload_n hx hb dX7_slopesGently_68 rfl (lv_at hl 3 rfl) ?_
    refine lv_bipush (v := (10 : Int32)) hx hb dX7_slopesGently_69 (by decide) ?_
    refine lv_isub hx hb dX7_slopesGently_71 ?_
    obtain ⟨b72, fs72, hr72, ho72, hf⟩ := zz_ob_i hf
    obtain ⟨v72, hv72, hf⟩ := zz_b_i hf
    refine zr_cV X hR hl.1 (As := [.int (x3 - (10 : Int32))]) (rest := [.int v64]) (C := RX4) (T := TX4) (N := 1) (mt_X4_at hT b72 (x3 - (10 : Int32)) h n hv72) rfl ho72 mf_X4_at q_301 q_302 q_303 ⟨Nat.le_of_ble_eq_true rfl, Nat.le_of_ble_eq_true rfl⟩ ⟨Nat.le_of_ble_eq_true rfl, Nat.le_of_ble_eq_true rfl⟩ (by rw [hr72]; rfl) (Nat.le_of_ble_eq_true rfl) dX7_slopesGently_72 (fun H locs hR => ?_)
    refine W.eq (g2 := F0 m 75 ls [.int v72, .int v64]) rfl ?_
    refine lv_isub hx hb dX7_slopesGently_75 ?_
    refine zr_abs X hl.1 q_305 q_306 q_8 q_307 (Nat.le_of_ble_eq_true rfl) ⟨Nat.le_of_ble_eq_true rfl, Nat.le_of_ble_eq_true rfl⟩ ⟨Nat.le_of_ble_eq_true rfl, Nat.le_of_ble_eq_true rfl⟩ dX7_slopesGently_76 ?_
    refine W.eq (g2 := F0 m 79 ls [.int (zz_abs (v64 - v72))]) rfl ?_
    refine lv_bipush (v := (8 : Int32)) hx hb dX7_slopesGently_79 (by decide) ?_
    refine lv_icmp_le (tgt := 86) hx hb dX7_slopesGently_81 (by decide) (fun c81 => ?_) (fun c81 => ?_)
    · replace hf := zz_pos c81 hf
      exact bk_X7_slopesGently_86 X hT hR (lv_sub hl [0, 1, 2] rfl) hf k0 hret
    · replace hf := zz_neg c81 hf
      refine lv_iconst (v := (0 : Int32)) hx hb dX7_slopesGently_84 (by decide) ?_
      cases hf
      cases hret _ rfl
      exact zr_zret X hR (v := (0 : Int32)) rfl dX7_slopesGently_85 (Nat.le_of_ble_eq_true rfl) (Nat.le_of_ble_eq_true rfl)
set_option maxHeartbeats 4000000 in
set_option maxRecDepth 100000 in
theorem bk_X7_slopesGently_2 {D : va_G} {dA : Nat → ClassId} {base t0 : Nat} {l : Launch} {p : Program} {e : Env} {s : State} {m : MethodId} {args : Array Value} {below : List Frame} {meth : Method} {c : Code} (X : zz_X D dA base t0 "Springseat$Seat" cX7_slopesGently 5 (some .boolean) l p s m meth c) (hT : l.stackTraces = false) {a0 : Nat} {x1 : (Option Nat)} {x2 : Int32} {h : zz_H} {n : Nat} {H : Heap} {locs : List Loc} {ls : Array Slot} (hR : zz_R D dA base h n s H locs) (hl : lv_has ls 5 [(0, .ref a0), (1, va_rf x1), (2, .int x2)]) {r0 : Int32} {o : (Int32 ⊕ Int32)} (hf : f_X7_slopesGently_2 a0 x1 x2 h = some o) (k0 : ∀ (w2 : Int32), o = (.inl w2) → ∀ {H : Heap} {locs : List Loc} {ls : Array Slot}, zz_R D dA base h n s H locs → lv_has ls 5 [(0, .ref a0), (1, va_rf x1), (2, .int w2)] → W p l e rm_X7_slopesGently s m args below meth c H locs 0 0 (MQ below (zz_Qc D dA base (some (.int r0)) h n) args s rm_X7_slopesGently.cells rm_X7_slopesGently.slots (fun q => base ≤ q)) (F0 m 2 ls [])) (hret : ∀ r, o = (.inr r) → r = r0) : W p l e rm_X7_slopesGently s m args below meth c H locs 0 0 (MQ below (zz_Qc D dA base (some (.int r0)) h n) args s rm_X7_slopesGently.cells rm_X7_slopesGently.slots (fun q => base ≤ q)) (F0 m 2 ls []) := by
  have hx := X.1
  have hb := X.2.1
  have hown := X.2.2.2.2.1
  unfold f_X7_slopesGently_2 at hf
  refine lv_iload_n hx hb dX7_slopesGently_2 rfl (lv_at hl 2 rfl) ?_
  refine lv_aload_n hx hb dX7_slopesGently_3 rfl (lv_at hl 0 rfl) ?_
  refine zr_gq X hR (r := (some a0)) fl_X7_48 dX7_slopesGently_4 hf (fun v4 hf => ?_)
  obtain ⟨b7, fs7, hr7, ho7, hf⟩ := zz_ob_i hf
  obtain ⟨v7, hv7, hf⟩ := zz_b_i hf
  refine zr_cV X hR hl.1 (As := []) (rest := [.int x2]) (C := RX3) (T := TX3) (N := 7) (mt_X3_cellCount hT b7 h n hv7) rfl ho7 mf_X3_cellCount q_288 q_289 q_290 ⟨Nat.le_of_ble_eq_true rfl, Nat.le_of_ble_eq_true rfl⟩ ⟨Nat.le_of_ble_eq_true rfl, Nat.le_of_ble_eq_true rfl⟩ (by rw [hr7]; rfl) (Nat.le_of_ble_eq_true rfl) dX7_slopesGently_7 (fun H locs hR => ?_)
  refine W.eq (g2 := F0 m 10 ls [.int v7, .int x2]) rfl ?_
  refine lv_icmp_ge (tgt := 92) hx hb dX7_slopesGently_10 (by decide) (fun c10 => ?_) (fun c10 => ?_)
  · replace hf := zz_pos c10 hf
    refine lv_iconst (v := (1 : Int32)) hx hb dX7_slopesGently_92 (by decide) ?_
    cases hf
    cases hret _ rfl
    exact zr_zret X hR (v := (1 : Int32)) rfl dX7_slopesGently_93 (Nat.le_of_ble_eq_true rfl) (Nat.le_of_ble_eq_true rfl)
  · replace hf := zz_neg c10 hf
    refine lv_aload_n hx hb dX7_slopesGently_13 rfl (lv_at hl 0 rfl) ?_
    refine zr_gq X hR (r := (some a0)) fl_X7_48 dX7_slopesGently_14 hf (fun v14 hf => ?_)
    refine lv_iload_n hx hb dX7_slopesGently_17 rfl (lv_at hl 2 rfl) ?_
    obtain ⟨b18, fs18, hr18, ho18, hf⟩ := zz_ob_i hf
    obtain ⟨v18, hv18, hf⟩ := zz_b_i hf
    refine zr_cV X hR hl.1 (As := [.int x2]) (rest := []) (C := RX3) (T := TX3) (N := 7) (mt_X3_cellAt hT b18 x2 h n hv18) rfl ho18 mf_X3_cellAt q_292 q_293 q_294 ⟨Nat.le_of_ble_eq_true rfl, Nat.le_of_ble_eq_true rfl⟩ ⟨Nat.le_of_ble_eq_true rfl, Nat.le_of_ble_eq_true rfl⟩ (by rw [hr18]; rfl) (Nat.le_of_ble_eq_true rfl) dX7_slopesGently_18 (fun H locs hR => ?_)
    refine W.eq (g2 := F0 m 21 ls [.int v18]) rfl ?_
    refine lv_istore_n (i := 3) (lv' := [(3, .int v18), (0, .ref a0), (1, va_rf x1), (2, .int x2)]) hx hb dX7_slopesGently_21 rfl hl (by decide) rfl (fun ls hl => ?_)
    refine lv_iload_n hx hb dX7_slopesGently_22 rfl (lv_at hl 0 rfl) ?_
    refine lv_bipush (v := (10 : Int32)) hx hb dX7_slopesGently_23 (by decide) ?_
    obtain ⟨hne25, hf⟩ := zz_dv_i hf
    refine lv_irem hx hb dX7_slopesGently_25 hne25 ?_
    refine lv_istore (i := 4) (lv' := [(4, .int (zz_rem v18 (10 : Int32))), (3, .int v18), (0, .ref a0), (1, va_rf x1), (2, .int x2)]) hx hb dX7_slopesGently_26 hl (by decide) rfl (fun ls hl => ?_)
    refine lv_iload hx hb dX7_slopesGently_28 (lv_at hl 0 rfl) ?_
    refine lv_if_le (tgt := 56) hx hb dX7_slopesGently_30 (by decide) (fun c30 => ?_) (fun c30 => ?_)
    · replace hf := zz_pos c30 hf
      exact bk_X7_slopesGently_56 X hT hR (lv_sub hl [2, 3, 4, 1] rfl) hf k0 hret
    · replace hf := zz_neg c30 hf
      refine zr_aload_n hx hb dX7_slopesGently_33 rfl (lv_at hl 3 rfl) ?_
      refine lv_iload_n hx hb dX7_slopesGently_34 rfl (lv_at hl 1 rfl) ?_
      obtain ⟨b35, fs35, hr35, ho35, hf⟩ := zz_ob_i hf
      obtain ⟨v35, hv35, hf⟩ := zz_b_i hf
      refine zr_cV X hR hl.1 (As := [.int v18]) (rest := []) (C := RX4) (T := TX4) (N := 1) (mt_X4_at hT b35 v18 h n hv35) rfl ho35 mf_X4_at q_301 q_302 q_303 ⟨Nat.le_of_ble_eq_true rfl, Nat.le_of_ble_eq_true rfl⟩ ⟨Nat.le_of_ble_eq_true rfl, Nat.le_of_ble_eq_true rfl⟩ (by rw [hr35]; rfl) (Nat.le_of_ble_eq_true rfl) dX7_slopesGently_35 (fun H locs hR => ?_)
      refine W.eq (g2 := F0 m 38 ls [.int v35]) rfl ?_
      refine zr_aload_n hx hb dX7_slopesGently_38 rfl (lv_at hl 3 rfl) ?_
      refine lv_iload_n hx hb dX7_slopesGently_39 rfl (lv_at hl 1 rfl) ?_
      refine lv_iconst (v := (1 : Int32)) hx hb dX7_slopesGently_40 (by decide) ?_
      refine lv_isub hx hb dX7_slopesGently_41 ?_
      obtain ⟨b42, fs42, hr42, ho42, hf⟩ := zz_ob_i hf
      obtain ⟨v42, hv42, hf⟩ := zz_b_i hf
      refine zr_cV X hR hl.1 (As := [.int (v18 - (1 : Int32))]) (rest := [.int v35]) (C := RX4) (T := TX4) (N := 1) (mt_X4_at hT b42 (v18 - (1 : Int32)) h n hv42) rfl ho42 mf_X4_at q_301 q_302 q_303 ⟨Nat.le_of_ble_eq_true rfl, Nat.le_of_ble_eq_true rfl⟩ ⟨Nat.le_of_ble_eq_true rfl, Nat.le_of_ble_eq_true rfl⟩ (by rw [hr42]; rfl) (Nat.le_of_ble_eq_true rfl) dX7_slopesGently_42 (fun H locs hR => ?_)
      refine W.eq (g2 := F0 m 45 ls [.int v42, .int v35]) rfl ?_
      refine lv_isub hx hb dX7_slopesGently_45 ?_
      refine zr_abs X hl.1 q_305 q_306 q_8 q_307 (Nat.le_of_ble_eq_true rfl) ⟨Nat.le_of_ble_eq_true rfl, Nat.le_of_ble_eq_true rfl⟩ ⟨Nat.le_of_ble_eq_true rfl, Nat.le_of_ble_eq_true rfl⟩ dX7_slopesGently_46 ?_
      refine W.eq (g2 := F0 m 49 ls [.int (zz_abs (v35 - v42))]) rfl ?_
      refine lv_bipush (v := (8 : Int32)) hx hb dX7_slopesGently_49 (by decide) ?_
      refine lv_icmp_le (tgt := 56) hx hb dX7_slopesGently_51 (by decide) (fun c51 => ?_) (fun c51 => ?_)
      · replace hf := zz_pos c51 hf
        exact bk_X7_slopesGently_56 X hT hR (lv_sub hl [2, 3, 4, 1] rfl) hf k0 hret
      · replace hf := zz_neg c51 hf
        refine lv_iconst (v := (0 : Int32)) hx hb dX7_slopesGently_54 (by decide) ?_
        cases hf
        cases hret _ rfl
        exact zr_zret X hR (v := (0 : Int32)) rfl dX7_slopesGently_55 (Nat.le_of_ble_eq_true rfl) (Nat.le_of_ble_eq_true rfl)
set_option maxHeartbeats 4000000 in
set_option maxRecDepth 100000 in
theorem lp_X7_slopesGently_2 {D : va_G} {dA : Nat → ClassId} {base t0 : Nat} {l : Launch} {p : Program} {e : Env} {s : State} {m : MethodId} {args : Array Value} {below : List Frame} {meth : Method} {c : Code} (X : zz_X D dA base t0 "Springseat$Seat" cX7_slopesGently 5 (some .boolean) l p s m meth c) (hT : l.stackTraces = false) (a0 : Nat) (x1 : (Option Nat)) {h : zz_H} {n : Nat} {r0 : Int32} : ∀ (k : Nat) (x2 : Int32), zz_it (fun s : Int32 => f_X7_slopesGently_2 a0 x1 s h) k x2 = some r0 → ∀ {H : Heap} {locs : List Loc} {ls : Array Slot}, zz_R D dA base h n s H locs → lv_has ls 5 [(0, .ref a0), (1, va_rf x1), (2, .int x2)] → W p l e rm_X7_slopesGently s m args below meth c H locs 0 0 (MQ below (zz_Qc D dA base (some (.int r0)) h n) args s rm_X7_slopesGently.cells rm_X7_slopesGently.slots (fun q => base ≤ q)) (F0 m 2 ls []) := by
  intro k
  induction k with
  | zero => intro x2 hf; cases hf
  | succ k ih =>
    intro x2 hf H locs ls hR hl
    rcases zz_it_s hf with ⟨y0, h1, h2⟩ | h1
    · exact bk_X7_slopesGently_2 (r0 := r0) X hT hR hl h1  (fun z0 e => by cases e; exact ih _ h2) (fun r e => by cases e)
    · exact bk_X7_slopesGently_2 (r0 := r0) X hT hR hl h1  (fun z0 e => by cases e) (fun r e => (Sum.inr.inj e).symm)
set_option maxHeartbeats 4000000 in
set_option maxRecDepth 100000 in
theorem mt_X7_slopesGently {D : va_G} {dA : Nat → ClassId} {base t0 : Nat} {l : Launch} (hT : l.stackTraces = false) (a0 : Nat) (x1 : (Option Nat)) (h : zz_H) (n : Nat) {r0 : Int32} (hf : f_X7_slopesGently a0 x1 h = some r0) : zz_M D dA base t0 l yX7_slopesGently cX7_slopesGently 5 (some .boolean) rm_X7_slopesGently [.ref a0, va_rf x1] h n (some (.int r0)) h n := by
  refine Met.ofW (cc := cX7_slopesGently) (maxL := 5) (ret := (some .boolean)) (by decide +kernel) rfl ?_
  intro p e s m args below meth c s₁ B hml hv
  obtain ⟨rfl, hP, hK⟩ := hv
  have X : zz_X D dA base t0 "Springseat$Seat" cX7_slopesGently 5 (some .boolean) l p s m meth c := ⟨B.exec, B.bytes, hml, B.returns, findClass_of_methodNamed B.named, B.notSynchronized, hT, by rw [hP.1]; exact hP.2.1, hK⟩
  have hx := X.1
  have hb := X.2.1
  have hown := X.2.2.2.2.1
  have hR : zz_R D dA base h n s s.heap [] := ⟨hP, va_S.rf⟩
  have hl := lv_entry ([.ref a0, va_rf x1]) (n := 5) (by cases x1 <;> exact Nat.le_of_ble_eq_true rfl)
  rw [lg_entry_eq]
  generalize (lg_sl ([.ref a0, va_rf x1]) ++ List.replicate (5 - (lg_sl ([.ref a0, va_rf x1])).length) Slot.unset).toArray = ls at hl ⊢
  have hl : lv_has ls 5 [(0, .ref a0), (1, va_rf x1)] := by rw [show ([(0, .ref a0), (1, va_rf x1)] : List (Nat × Value)) = lv_args 0 [.ref a0, va_rf x1] from by cases x1 <;> rfl]; exact hl
  unfold f_X7_slopesGently at hf
  refine lv_iconst (v := (0 : Int32)) hx hb dX7_slopesGently_0 (by decide) ?_
  refine lv_istore_n (i := 2) (lv' := [(2, .int (0 : Int32)), (0, .ref a0), (1, va_rf x1)]) hx hb dX7_slopesGently_1 rfl hl (by decide) (by simp [zz_cat, zz_catI, zz_catR, zz_catJ, zz_catF, zz_catD]) (fun ls hl => ?_)
  exact lp_X7_slopesGently_2 X hT a0 x1 zz_F _ hf hR (lv_sub hl [1, 2, 0] rfl)
def rm_X8_allSigned : Room := { frames := 0, cells := 0, slots := 0, locals := 0 }
theorem mf_X8_allSigned : zz_Mf yX8_allSigned cX8_allSigned 1 (some .boolean) 0 := ⟨q_680, q_17, by decide +kernel, by decide +kernel, by decide +kernel⟩
set_option maxHeartbeats 4000000 in
set_option maxRecDepth 100000 in
theorem bk_X8_allSigned_16 {D : va_G} {dA : Nat → ClassId} {base t0 : Nat} {l : Launch} {p : Program} {e : Env} {s : State} {m : MethodId} {args : Array Value} {below : List Frame} {meth : Method} {c : Code} (X : zz_X D dA base t0 "Springseat$Steps" cX8_allSigned 1 (some .boolean) l p s m meth c) (hT : l.stackTraces = false) {s0 : Int32} {h : zz_H} {n : Nat} {H : Heap} {locs : List Loc} {ls : Array Slot} (hR : zz_R D dA base h n s H locs) (hl : lv_has ls 1 []) {r0 : Int32} (hf : f_X8_allSigned_16 s0 h = some r0) : W p l e rm_X8_allSigned s m args below meth c H locs 0 0 (MQ below (zz_Qc D dA base (some (.int r0)) h n) args s rm_X8_allSigned.cells rm_X8_allSigned.slots (fun q => base ≤ q)) (F0 m 16 ls [.int s0]) := by
  have hx := X.1
  have hb := X.2.1
  have hown := X.2.2.2.2.1
  unfold f_X8_allSigned_16 at hf
  obtain ⟨hz16, hf⟩ := zz_gz_i hf
  cases hf
  exact zr_zret X hR (zz_nz hz16) dX8_allSigned_16 (Nat.le_of_ble_eq_true rfl) (Nat.le_of_ble_eq_true rfl)
set_option maxHeartbeats 4000000 in
set_option maxRecDepth 100000 in
theorem mt_X8_allSigned {D : va_G} {dA : Nat → ClassId} {base t0 : Nat} {l : Launch} (hT : l.stackTraces = false) (a0 : Nat) (h : zz_H) (n : Nat) {r0 : Int32} (hf : f_X8_allSigned a0 h = some r0) : zz_M D dA base t0 l yX8_allSigned cX8_allSigned 1 (some .boolean) rm_X8_allSigned [.ref a0] h n (some (.int r0)) h n := by
  refine Met.ofW (cc := cX8_allSigned) (maxL := 1) (ret := (some .boolean)) (by decide +kernel) rfl ?_
  intro p e s m args below meth c s₁ B hml hv
  obtain ⟨rfl, hP, hK⟩ := hv
  have X : zz_X D dA base t0 "Springseat$Steps" cX8_allSigned 1 (some .boolean) l p s m meth c := ⟨B.exec, B.bytes, hml, B.returns, findClass_of_methodNamed B.named, B.notSynchronized, hT, by rw [hP.1]; exact hP.2.1, hK⟩
  have hx := X.1
  have hb := X.2.1
  have hown := X.2.2.2.2.1
  have hR : zz_R D dA base h n s s.heap [] := ⟨hP, va_S.rf⟩
  have hl := lv_entry ([.ref a0]) (n := 1) (by exact Nat.le_of_ble_eq_true rfl)
  rw [lg_entry_eq]
  generalize (lg_sl ([.ref a0]) ++ List.replicate (1 - (lg_sl ([.ref a0])).length) Slot.unset).toArray = ls at hl ⊢
  have hl : lv_has ls 1 [(0, .ref a0)] := hl
  unfold f_X8_allSigned at hf
  refine lv_aload_n hx hb dX8_allSigned_0 rfl (lv_at hl 0 rfl) ?_
  refine zr_gi X hR (r := (some a0)) fl_X8_23 dX8_allSigned_1 hf (fun v1 hf => ?_)
  refine lv_aload_n hx hb dX8_allSigned_4 rfl (lv_at hl 0 rfl) ?_
  refine zr_gi X hR (r := (some a0)) fl_X8_15 dX8_allSigned_5 hf (fun v5 hf => ?_)
  refine lv_icmp_ne (tgt := 15) hx hb dX8_allSigned_8 (by decide) (fun c8 => ?_) (fun c8 => ?_)
  · replace hf := zz_neg c8 hf
    refine lv_iconst (v := (0 : Int32)) hx hb dX8_allSigned_15 (by decide) ?_
    exact bk_X8_allSigned_16 X hT hR (lv_sub hl [] rfl) hf
  · replace hf := zz_pos c8 hf
    refine lv_iconst (v := (1 : Int32)) hx hb dX8_allSigned_11 (by decide) ?_
    refine lv_goto (tgt := 16) hx hb dX8_allSigned_12 (by decide) ?_
    exact bk_X8_allSigned_16 X hT hR (lv_sub hl [] rfl) hf
def rm_X8_layersAhead : Room := { frames := 1, cells := 0, slots := 0, locals := 21 }
theorem mf_X8_layersAhead : zz_Mf yX8_layersAhead cX8_layersAhead 4 (some .int) 1 := ⟨q_401, q_17, by decide +kernel, by decide +kernel, by decide +kernel⟩
set_option maxHeartbeats 4000000 in
set_option maxRecDepth 100000 in
theorem bk_X8_layersAhead_22 {D : va_G} {dA : Nat → ClassId} {base t0 : Nat} {l : Launch} {p : Program} {e : Env} {s : State} {m : MethodId} {args : Array Value} {below : List Frame} {meth : Method} {c : Code} (X : zz_X D dA base t0 "Springseat$Steps" cX8_layersAhead 4 (some .int) l p s m meth c) (hT : l.stackTraces = false) {a0 : Nat} {x1 : Int32} {x2 : Int32} {x3 : Int32} {h : zz_H} {n : Nat} {H : Heap} {locs : List Loc} {ls : Array Slot} (hR : zz_R D dA base h n s H locs) (hl : lv_has ls 4 [(0, .ref a0), (1, .int x1), (2, .int x2), (3, .int x3)]) {r0 : Int32} {o : ((Int32 × Int32) ⊕ Int32)} (hf : f_X8_layersAhead_22 a0 x1 x2 x3 h = some o) (k0 : ∀ (w2 : Int32) (w3 : Int32), o = (.inl (w2, w3)) → ∀ {H : Heap} {locs : List Loc} {ls : Array Slot}, zz_R D dA base h n s H locs → lv_has ls 4 [(0, .ref a0), (1, .int x1), (2, .int w2), (3, .int w3)] → W p l e rm_X8_layersAhead s m args below meth c H locs 0 0 (MQ below (zz_Qc D dA base (some (.int r0)) h n) args s rm_X8_layersAhead.cells rm_X8_layersAhead.slots (fun q => base ≤ q)) (F0 m 4 ls [])) (hret : ∀ r, o = (.inr r) → r = r0) : W p l e rm_X8_layersAhead s m args below meth c H locs 0 0 (MQ below (zz_Qc D dA base (some (.int r0)) h n) args s rm_X8_layersAhead.cells rm_X8_layersAhead.slots (fun q => base ≤ q)) (F0 m 22 ls []) := by
  have hx := X.1
  have hb := X.2.1
  have hown := X.2.2.2.2.1
  unfold f_X8_layersAhead_22 at hf
  refine lv_iinc (i := 3) (v := (x3 + (1 : Int32))) (lv' := [(3, .int (x3 + (1 : Int32))), (0, .ref a0), (1, .int x1), (2, .int x2)]) hx hb dX8_layersAhead_22 hl (k := 3) rfl rfl (by decide) rfl (fun ls hl => ?_)
  refine lv_goto (tgt := 4) hx hb dX8_layersAhead_25 (by decide) ?_
  cases hf
  exact k0 _ _ rfl hR (lv_sub hl [1, 2, 3, 0] rfl)
set_option maxHeartbeats 4000000 in
set_option maxRecDepth 100000 in
theorem bk_X8_layersAhead_4 {D : va_G} {dA : Nat → ClassId} {base t0 : Nat} {l : Launch} {p : Program} {e : Env} {s : State} {m : MethodId} {args : Array Value} {below : List Frame} {meth : Method} {c : Code} (X : zz_X D dA base t0 "Springseat$Steps" cX8_layersAhead 4 (some .int) l p s m meth c) (hT : l.stackTraces = false) {a0 : Nat} {x1 : Int32} {x2 : Int32} {x3 : Int32} {h : zz_H} {n : Nat} {H : Heap} {locs : List Loc} {ls : Array Slot} (hR : zz_R D dA base h n s H locs) (hl : lv_has ls 4 [(0, .ref a0), (1, .int x1), (2, .int x2), (3, .int x3)]) {r0 : Int32} {o : ((Int32 × Int32) ⊕ Int32)} (hf : f_X8_layersAhead_4 a0 x1 x2 x3 h = some o) (k0 : ∀ (w2 : Int32) (w3 : Int32), o = (.inl (w2, w3)) → ∀ {H : Heap} {locs : List Loc} {ls : Array Slot}, zz_R D dA base h n s H locs → lv_has ls 4 [(0, .ref a0), (1, .int x1), (2, .int w2), (3, .int w3)] → W p l e rm_X8_layersAhead s m args below meth c H locs 0 0 (MQ below (zz_Qc D dA base (some (.int r0)) h n) args s rm_X8_layersAhead.cells rm_X8_layersAhead.slots (fun q => base ≤ q)) (F0 m 4 ls [])) (hret : ∀ r, o = (.inr r) → r = r0) : W p l e rm_X8_layersAhead s m args below meth c H locs 0 0 (MQ below (zz_Qc D dA base (some (.int r0)) h n) args s rm_X8_layersAhead.cells rm_X8_layersAhead.slots (fun q => base ≤ q)) (F0 m 4 ls []) := by
  have hx := X.1
  have hb := X.2.1
  have hown := X.2.2.2.2.1
  unfold f_X8_layersAhead_4 at hf
  refine lv_iload_n hx hb dX8_layersAhead_4 rfl (lv_at hl 3 rfl) ?_
  refine lv_iload_n hx hb dX8_layersAhead_5 rfl (lv_at hl 1 rfl) ?_
  refine lv_icmp_ge (tgt := 28) hx hb dX8_layersAhead_6 (by decide) (fun c6 => ?_) (fun c6 => ?_)
  · replace hf := zz_pos c6 hf
    refine lv_iload_n hx hb dX8_layersAhead_28 rfl (lv_at hl 2 rfl) ?_
    cases hf
    cases hret _ rfl
    exact zr_iret X hR dX8_layersAhead_29 (Nat.le_of_ble_eq_true rfl) (Nat.le_of_ble_eq_true rfl)
  · replace hf := zz_neg c6 hf
    refine lv_aload_n hx hb dX8_layersAhead_9 rfl (lv_at hl 0 rfl) ?_
    refine lv_iload_n hx hb dX8_layersAhead_10 rfl (lv_at hl 3 rfl) ?_
    obtain ⟨fs11, ho11, hf⟩ := zz_obS_i hf
    obtain ⟨v11, hv11, hf⟩ := zz_b_i hf
    refine zr_cV X hR hl.1 (As := [.int x3]) (rest := []) (C := RX8) (T := TX8) (N := 3) (mt_X8_letterAt hT a0 x3 h n hv11) rfl ho11 mf_X8_letterAt q_276 q_277 q_278 ⟨Nat.le_of_ble_eq_true rfl, Nat.le_of_ble_eq_true rfl⟩ ⟨Nat.le_of_ble_eq_true rfl, Nat.le_of_ble_eq_true rfl⟩ rfl (Nat.le_of_ble_eq_true rfl) dX8_layersAhead_11 (fun H locs hR => ?_)
    refine W.eq (g2 := F0 m 14 ls [.int v11]) rfl ?_
    refine lv_bipush (v := (108 : Int32)) hx hb dX8_layersAhead_14 (by decide) ?_
    refine lv_icmp_ne (tgt := 22) hx hb dX8_layersAhead_16 (by decide) (fun c16 => ?_) (fun c16 => ?_)
    · replace hf := zz_neg c16 hf
      exact bk_X8_layersAhead_22 X hT hR (lv_sub hl [0, 1, 2, 3] rfl) hf k0 hret
    · replace hf := zz_pos c16 hf
      refine lv_iinc (i := 2) (v := (x2 + (1 : Int32))) (lv' := [(2, .int (x2 + (1 : Int32))), (0, .ref a0), (1, .int x1), (3, .int x3)]) hx hb dX8_layersAhead_19 hl (k := 2) rfl rfl (by decide) rfl (fun ls hl => ?_)
      exact bk_X8_layersAhead_22 X hT hR (lv_sub hl [1, 2, 0, 3] rfl) hf k0 hret
set_option maxHeartbeats 4000000 in
set_option maxRecDepth 100000 in
theorem lp_X8_layersAhead_4 {D : va_G} {dA : Nat → ClassId} {base t0 : Nat} {l : Launch} {p : Program} {e : Env} {s : State} {m : MethodId} {args : Array Value} {below : List Frame} {meth : Method} {c : Code} (X : zz_X D dA base t0 "Springseat$Steps" cX8_layersAhead 4 (some .int) l p s m meth c) (hT : l.stackTraces = false) (a0 : Nat) (x1 : Int32) {h : zz_H} {n : Nat} {r0 : Int32} : ∀ (k : Nat) (x2 : Int32) (x3 : Int32), zz_it (fun s : (Int32 × Int32) => f_X8_layersAhead_4 a0 x1 s.1 s.2 h) k (x2, x3) = some r0 → ∀ {H : Heap} {locs : List Loc} {ls : Array Slot}, zz_R D dA base h n s H locs → lv_has ls 4 [(0, .ref a0), (1, .int x1), (2, .int x2), (3, .int x3)] → W p l e rm_X8_layersAhead s m args below meth c H locs 0 0 (MQ below (zz_Qc D dA base (some (.int r0)) h n) args s rm_X8_layersAhead.cells rm_X8_layersAhead.slots (fun q => base ≤ q)) (F0 m 4 ls []) := by
  intro k
  induction k with
  | zero => intro x2 x3 hf; cases hf
  | succ k ih =>
    intro x2 x3 hf H locs ls hR hl
    rcases zz_it_s hf with ⟨⟨y0, y1⟩, h1, h2⟩ | h1
    · exact bk_X8_layersAhead_4 (r0 := r0) X hT hR hl h1  (fun z0 z1 e => by cases e; exact ih _ _ h2) (fun r e => by cases e)
    · exact bk_X8_layersAhead_4 (r0 := r0) X hT hR hl h1  (fun z0 z1 e => by cases e) (fun r e => (Sum.inr.inj e).symm)
set_option maxHeartbeats 4000000 in
set_option maxRecDepth 100000 in
theorem mt_X8_layersAhead {D : va_G} {dA : Nat → ClassId} {base t0 : Nat} {l : Launch} (hT : l.stackTraces = false) (a0 : Nat) (x1 : Int32) (h : zz_H) (n : Nat) {r0 : Int32} (hf : f_X8_layersAhead a0 x1 h = some r0) : zz_M D dA base t0 l yX8_layersAhead cX8_layersAhead 4 (some .int) rm_X8_layersAhead [.ref a0, .int x1] h n (some (.int r0)) h n := by
  refine Met.ofW (cc := cX8_layersAhead) (maxL := 4) (ret := (some .int)) (by decide +kernel) rfl ?_
  intro p e s m args below meth c s₁ B hml hv
  obtain ⟨rfl, hP, hK⟩ := hv
  have X : zz_X D dA base t0 "Springseat$Steps" cX8_layersAhead 4 (some .int) l p s m meth c := ⟨B.exec, B.bytes, hml, B.returns, findClass_of_methodNamed B.named, B.notSynchronized, hT, by rw [hP.1]; exact hP.2.1, hK⟩
  have hx := X.1
  have hb := X.2.1
  have hown := X.2.2.2.2.1
  have hR : zz_R D dA base h n s s.heap [] := ⟨hP, va_S.rf⟩
  have hl := lv_entry ([.ref a0, .int x1]) (n := 4) (by exact Nat.le_of_ble_eq_true rfl)
  rw [lg_entry_eq]
  generalize (lg_sl ([.ref a0, .int x1]) ++ List.replicate (4 - (lg_sl ([.ref a0, .int x1])).length) Slot.unset).toArray = ls at hl ⊢
  have hl : lv_has ls 4 [(0, .ref a0), (1, .int x1)] := hl
  unfold f_X8_layersAhead at hf
  refine lv_iconst (v := (0 : Int32)) hx hb dX8_layersAhead_0 (by decide) ?_
  refine lv_istore_n (i := 2) (lv' := [(2, .int (0 : Int32)), (0, .ref a0), (1, .int x1)]) hx hb dX8_layersAhead_1 rfl hl (by decide) rfl (fun ls hl => ?_)
  refine lv_iconst (v := (0 : Int32)) hx hb dX8_layersAhead_2 (by decide) ?_
  refine lv_istore_n (i := 3) (lv' := [(3, .int (0 : Int32)), (2, .int (0 : Int32)), (0, .ref a0), (1, .int x1)]) hx hb dX8_layersAhead_3 rfl hl (by decide) rfl (fun ls hl => ?_)
  exact lp_X8_layersAhead_4 X hT a0 x1 zz_F _ _ hf hR (lv_sub hl [2, 3, 1, 0] rfl)
def rm_X8_mayFollow : Room := { frames := 2, cells := 0, slots := 0, locals := 44 }
theorem mf_X8_mayFollow : zz_Mf yX8_mayFollow cX8_mayFollow 4 (some .boolean) 2 := ⟨q_397, q_17, by decide +kernel, by decide +kernel, by decide +kernel⟩
set_option maxHeartbeats 4000000 in
set_option maxRecDepth 100000 in
theorem bk_X8_mayFollow_140 {D : va_G} {dA : Nat → ClassId} {base t0 : Nat} {l : Launch} {p : Program} {e : Env} {s : State} {m : MethodId} {args : Array Value} {below : List Frame} {meth : Method} {c : Code} (X : zz_X D dA base t0 "Springseat$Steps" cX8_mayFollow 4 (some .boolean) l p s m meth c) (hT : l.stackTraces = false) {s0 : Int32} {h : zz_H} {n : Nat} {H : Heap} {locs : List Loc} {ls : Array Slot} (hR : zz_R D dA base h n s H locs) (hl : lv_has ls 4 []) {r0 : Int32} (hf : f_X8_mayFollow_140 s0 h = some r0) : W p l e rm_X8_mayFollow s m args below meth c H locs 0 0 (MQ below (zz_Qc D dA base (some (.int r0)) h n) args s rm_X8_mayFollow.cells rm_X8_mayFollow.slots (fun q => base ≤ q)) (F0 m 140 ls [.int s0]) := by
  have hx := X.1
  have hb := X.2.1
  have hown := X.2.2.2.2.1
  unfold f_X8_mayFollow_140 at hf
  obtain ⟨hz140, hf⟩ := zz_gz_i hf
  cases hf
  exact zr_zret X hR (zz_nz hz140) dX8_mayFollow_140 (Nat.le_of_ble_eq_true rfl) (Nat.le_of_ble_eq_true rfl)
set_option maxHeartbeats 4000000 in
set_option maxRecDepth 100000 in
theorem bk_X8_mayFollow_139 {D : va_G} {dA : Nat → ClassId} {base t0 : Nat} {l : Launch} {p : Program} {e : Env} {s : State} {m : MethodId} {args : Array Value} {below : List Frame} {meth : Method} {c : Code} (X : zz_X D dA base t0 "Springseat$Steps" cX8_mayFollow 4 (some .boolean) l p s m meth c) (hT : l.stackTraces = false) {h : zz_H} {n : Nat} {H : Heap} {locs : List Loc} {ls : Array Slot} (hR : zz_R D dA base h n s H locs) (hl : lv_has ls 4 []) {r0 : Int32} (hf : f_X8_mayFollow_139 h = some r0) : W p l e rm_X8_mayFollow s m args below meth c H locs 0 0 (MQ below (zz_Qc D dA base (some (.int r0)) h n) args s rm_X8_mayFollow.cells rm_X8_mayFollow.slots (fun q => base ≤ q)) (F0 m 139 ls []) := by
  have hx := X.1
  have hb := X.2.1
  have hown := X.2.2.2.2.1
  unfold f_X8_mayFollow_139 at hf
  refine lv_iconst (v := (0 : Int32)) hx hb dX8_mayFollow_139 (by decide) ?_
  exact bk_X8_mayFollow_140 X hT hR (lv_sub hl [] rfl) hf
set_option maxHeartbeats 4000000 in
set_option maxRecDepth 100000 in
theorem bk_X8_mayFollow_135 {D : va_G} {dA : Nat → ClassId} {base t0 : Nat} {l : Launch} {p : Program} {e : Env} {s : State} {m : MethodId} {args : Array Value} {below : List Frame} {meth : Method} {c : Code} (X : zz_X D dA base t0 "Springseat$Steps" cX8_mayFollow 4 (some .boolean) l p s m meth c) (hT : l.stackTraces = false) {h : zz_H} {n : Nat} {H : Heap} {locs : List Loc} {ls : Array Slot} (hR : zz_R D dA base h n s H locs) (hl : lv_has ls 4 []) {r0 : Int32} (hf : f_X8_mayFollow_135 h = some r0) : W p l e rm_X8_mayFollow s m args below meth c H locs 0 0 (MQ below (zz_Qc D dA base (some (.int r0)) h n) args s rm_X8_mayFollow.cells rm_X8_mayFollow.slots (fun q => base ≤ q)) (F0 m 135 ls []) := by
  have hx := X.1
  have hb := X.2.1
  have hown := X.2.2.2.2.1
  unfold f_X8_mayFollow_135 at hf
  refine lv_iconst (v := (1 : Int32)) hx hb dX8_mayFollow_135 (by decide) ?_
  refine lv_goto (tgt := 140) hx hb dX8_mayFollow_136 (by decide) ?_
  exact bk_X8_mayFollow_140 X hT hR (lv_sub hl [] rfl) hf
set_option maxHeartbeats 4000000 in
set_option maxRecDepth 100000 in
theorem bk_X8_mayFollow_116 {D : va_G} {dA : Nat → ClassId} {base t0 : Nat} {l : Launch} {p : Program} {e : Env} {s : State} {m : MethodId} {args : Array Value} {below : List Frame} {meth : Method} {c : Code} (X : zz_X D dA base t0 "Springseat$Steps" cX8_mayFollow 4 (some .boolean) l p s m meth c) (hT : l.stackTraces = false) {s0 : Int32} {h : zz_H} {n : Nat} {H : Heap} {locs : List Loc} {ls : Array Slot} (hR : zz_R D dA base h n s H locs) (hl : lv_has ls 4 []) {r0 : Int32} (hf : f_X8_mayFollow_116 s0 h = some r0) : W p l e rm_X8_mayFollow s m args below meth c H locs 0 0 (MQ below (zz_Qc D dA base (some (.int r0)) h n) args s rm_X8_mayFollow.cells rm_X8_mayFollow.slots (fun q => base ≤ q)) (F0 m 116 ls [.int s0]) := by
  have hx := X.1
  have hb := X.2.1
  have hown := X.2.2.2.2.1
  unfold f_X8_mayFollow_116 at hf
  obtain ⟨hz116, hf⟩ := zz_gz_i hf
  cases hf
  exact zr_zret X hR (zz_nz hz116) dX8_mayFollow_116 (Nat.le_of_ble_eq_true rfl) (Nat.le_of_ble_eq_true rfl)
set_option maxHeartbeats 4000000 in
set_option maxRecDepth 100000 in
theorem bk_X8_mayFollow_98 {D : va_G} {dA : Nat → ClassId} {base t0 : Nat} {l : Launch} {p : Program} {e : Env} {s : State} {m : MethodId} {args : Array Value} {below : List Frame} {meth : Method} {c : Code} (X : zz_X D dA base t0 "Springseat$Steps" cX8_mayFollow 4 (some .boolean) l p s m meth c) (hT : l.stackTraces = false) {s0 : Int32} {h : zz_H} {n : Nat} {H : Heap} {locs : List Loc} {ls : Array Slot} (hR : zz_R D dA base h n s H locs) (hl : lv_has ls 4 []) {r0 : Int32} (hf : f_X8_mayFollow_98 s0 h = some r0) : W p l e rm_X8_mayFollow s m args below meth c H locs 0 0 (MQ below (zz_Qc D dA base (some (.int r0)) h n) args s rm_X8_mayFollow.cells rm_X8_mayFollow.slots (fun q => base ≤ q)) (F0 m 98 ls [.int s0]) := by
  have hx := X.1
  have hb := X.2.1
  have hown := X.2.2.2.2.1
  unfold f_X8_mayFollow_98 at hf
  obtain ⟨hz98, hf⟩ := zz_gz_i hf
  cases hf
  exact zr_zret X hR (zz_nz hz98) dX8_mayFollow_98 (Nat.le_of_ble_eq_true rfl) (Nat.le_of_ble_eq_true rfl)
set_option maxHeartbeats 4000000 in
set_option maxRecDepth 100000 in
theorem bk_X8_mayFollow_97 {D : va_G} {dA : Nat → ClassId} {base t0 : Nat} {l : Launch} {p : Program} {e : Env} {s : State} {m : MethodId} {args : Array Value} {below : List Frame} {meth : Method} {c : Code} (X : zz_X D dA base t0 "Springseat$Steps" cX8_mayFollow 4 (some .boolean) l p s m meth c) (hT : l.stackTraces = false) {h : zz_H} {n : Nat} {H : Heap} {locs : List Loc} {ls : Array Slot} (hR : zz_R D dA base h n s H locs) (hl : lv_has ls 4 []) {r0 : Int32} (hf : f_X8_mayFollow_97 h = some r0) : W p l e rm_X8_mayFollow s m args below meth c H locs 0 0 (MQ below (zz_Qc D dA base (some (.int r0)) h n) args s rm_X8_mayFollow.cells rm_X8_mayFollow.slots (fun q => base ≤ q)) (F0 m 97 ls []) := by
  have hx := X.1
  have hb := X.2.1
  have hown := X.2.2.2.2.1
  unfold f_X8_mayFollow_97 at hf
  refine lv_iconst (v := (0 : Int32)) hx hb dX8_mayFollow_97 (by decide) ?_
  exact bk_X8_mayFollow_98 X hT hR (lv_sub hl [] rfl) hf
set_option maxHeartbeats 4000000 in
set_option maxRecDepth 100000 in
theorem bk_X8_mayFollow_84 {D : va_G} {dA : Nat → ClassId} {base t0 : Nat} {l : Launch} {p : Program} {e : Env} {s : State} {m : MethodId} {args : Array Value} {below : List Frame} {meth : Method} {c : Code} (X : zz_X D dA base t0 "Springseat$Steps" cX8_mayFollow 4 (some .boolean) l p s m meth c) (hT : l.stackTraces = false) {a0 : Nat} {x1 : Int32} {h : zz_H} {n : Nat} {H : Heap} {locs : List Loc} {ls : Array Slot} (hR : zz_R D dA base h n s H locs) (hl : lv_has ls 4 [(0, .ref a0), (1, .int x1)]) {r0 : Int32} (hf : f_X8_mayFollow_84 a0 x1 h = some r0) : W p l e rm_X8_mayFollow s m args below meth c H locs 0 0 (MQ below (zz_Qc D dA base (some (.int r0)) h n) args s rm_X8_mayFollow.cells rm_X8_mayFollow.slots (fun q => base ≤ q)) (F0 m 84 ls []) := by
  have hx := X.1
  have hb := X.2.1
  have hown := X.2.2.2.2.1
  unfold f_X8_mayFollow_84 at hf
  refine lv_aload_n hx hb dX8_mayFollow_84 rfl (lv_at hl 0 rfl) ?_
  refine lv_iload_n hx hb dX8_mayFollow_85 rfl (lv_at hl 1 rfl) ?_
  obtain ⟨fs86, ho86, hf⟩ := zz_obS_i hf
  obtain ⟨v86, hv86, hf⟩ := zz_b_i hf
  refine zr_cV X hR hl.1 (As := [.int x1]) (rest := []) (C := RX8) (T := TX8) (N := 3) (mt_X8_layersAhead hT a0 x1 h n hv86) rfl ho86 mf_X8_layersAhead q_398 q_400 qs_7 ⟨Nat.le_of_ble_eq_true rfl, Nat.le_of_ble_eq_true rfl⟩ ⟨Nat.le_of_ble_eq_true rfl, Nat.le_of_ble_eq_true rfl⟩ rfl (Nat.le_of_ble_eq_true rfl) dX8_mayFollow_86 (fun H locs hR => ?_)
  refine W.eq (g2 := F0 m 89 ls [.int v86]) rfl ?_
  refine lv_iconst (v := (4 : Int32)) hx hb dX8_mayFollow_89 (by decide) ?_
  refine lv_icmp_ge (tgt := 97) hx hb dX8_mayFollow_90 (by decide) (fun c90 => ?_) (fun c90 => ?_)
  · replace hf := zz_pos c90 hf
    exact bk_X8_mayFollow_97 X hT hR (lv_sub hl [] rfl) hf
  · replace hf := zz_neg c90 hf
    refine lv_iconst (v := (1 : Int32)) hx hb dX8_mayFollow_93 (by decide) ?_
    refine lv_goto (tgt := 98) hx hb dX8_mayFollow_94 (by decide) ?_
    exact bk_X8_mayFollow_98 X hT hR (lv_sub hl [] rfl) hf
set_option maxHeartbeats 4000000 in
set_option maxRecDepth 100000 in
theorem bk_X8_mayFollow_59 {D : va_G} {dA : Nat → ClassId} {base t0 : Nat} {l : Launch} {p : Program} {e : Env} {s : State} {m : MethodId} {args : Array Value} {below : List Frame} {meth : Method} {c : Code} (X : zz_X D dA base t0 "Springseat$Steps" cX8_mayFollow 4 (some .boolean) l p s m meth c) (hT : l.stackTraces = false) {s0 : Int32} {h : zz_H} {n : Nat} {H : Heap} {locs : List Loc} {ls : Array Slot} (hR : zz_R D dA base h n s H locs) (hl : lv_has ls 4 []) {r0 : Int32} (hf : f_X8_mayFollow_59 s0 h = some r0) : W p l e rm_X8_mayFollow s m args below meth c H locs 0 0 (MQ below (zz_Qc D dA base (some (.int r0)) h n) args s rm_X8_mayFollow.cells rm_X8_mayFollow.slots (fun q => base ≤ q)) (F0 m 59 ls [.int s0]) := by
  have hx := X.1
  have hb := X.2.1
  have hown := X.2.2.2.2.1
  unfold f_X8_mayFollow_59 at hf
  obtain ⟨hz59, hf⟩ := zz_gz_i hf
  cases hf
  exact zr_zret X hR (zz_nz hz59) dX8_mayFollow_59 (Nat.le_of_ble_eq_true rfl) (Nat.le_of_ble_eq_true rfl)
set_option maxHeartbeats 4000000 in
set_option maxRecDepth 100000 in
theorem bk_X8_mayFollow_41 {D : va_G} {dA : Nat → ClassId} {base t0 : Nat} {l : Launch} {p : Program} {e : Env} {s : State} {m : MethodId} {args : Array Value} {below : List Frame} {meth : Method} {c : Code} (X : zz_X D dA base t0 "Springseat$Steps" cX8_mayFollow 4 (some .boolean) l p s m meth c) (hT : l.stackTraces = false) {s0 : Int32} {h : zz_H} {n : Nat} {H : Heap} {locs : List Loc} {ls : Array Slot} (hR : zz_R D dA base h n s H locs) (hl : lv_has ls 4 []) {r0 : Int32} (hf : f_X8_mayFollow_41 s0 h = some r0) : W p l e rm_X8_mayFollow s m args below meth c H locs 0 0 (MQ below (zz_Qc D dA base (some (.int r0)) h n) args s rm_X8_mayFollow.cells rm_X8_mayFollow.slots (fun q => base ≤ q)) (F0 m 41 ls [.int s0]) := by
  have hx := X.1
  have hb := X.2.1
  have hown := X.2.2.2.2.1
  unfold f_X8_mayFollow_41 at hf
  obtain ⟨hz41, hf⟩ := zz_gz_i hf
  cases hf
  exact zr_zret X hR (zz_nz hz41) dX8_mayFollow_41 (Nat.le_of_ble_eq_true rfl) (Nat.le_of_ble_eq_true rfl)
set_option maxHeartbeats 4000000 in
set_option maxRecDepth 100000 in
theorem bk_X8_mayFollow_23 {D : va_G} {dA : Nat → ClassId} {base t0 : Nat} {l : Launch} {p : Program} {e : Env} {s : State} {m : MethodId} {args : Array Value} {below : List Frame} {meth : Method} {c : Code} (X : zz_X D dA base t0 "Springseat$Steps" cX8_mayFollow 4 (some .boolean) l p s m meth c) (hT : l.stackTraces = false) {s0 : Int32} {h : zz_H} {n : Nat} {H : Heap} {locs : List Loc} {ls : Array Slot} (hR : zz_R D dA base h n s H locs) (hl : lv_has ls 4 []) {r0 : Int32} (hf : f_X8_mayFollow_23 s0 h = some r0) : W p l e rm_X8_mayFollow s m args below meth c H locs 0 0 (MQ below (zz_Qc D dA base (some (.int r0)) h n) args s rm_X8_mayFollow.cells rm_X8_mayFollow.slots (fun q => base ≤ q)) (F0 m 23 ls [.int s0]) := by
  have hx := X.1
  have hb := X.2.1
  have hown := X.2.2.2.2.1
  unfold f_X8_mayFollow_23 at hf
  obtain ⟨hz23, hf⟩ := zz_gz_i hf
  cases hf
  exact zr_zret X hR (zz_nz hz23) dX8_mayFollow_23 (Nat.le_of_ble_eq_true rfl) (Nat.le_of_ble_eq_true rfl)
set_option maxHeartbeats 4000000 in
set_option maxRecDepth 100000 in
theorem mt_X8_mayFollow {D : va_G} {dA : Nat → ClassId} {base t0 : Nat} {l : Launch} (hT : l.stackTraces = false) (a0 : Nat) (x1 : Int32) (x2 : Int32) (h : zz_H) (n : Nat) {r0 : Int32} (hf : f_X8_mayFollow a0 x1 x2 h = some r0) : zz_M D dA base t0 l yX8_mayFollow cX8_mayFollow 4 (some .boolean) rm_X8_mayFollow [.ref a0, .int x1, .int x2] h n (some (.int r0)) h n := by
  refine Met.ofW (cc := cX8_mayFollow) (maxL := 4) (ret := (some .boolean)) (by decide +kernel) rfl ?_
  intro p e s m args below meth c s₁ B hml hv
  obtain ⟨rfl, hP, hK⟩ := hv
  have X : zz_X D dA base t0 "Springseat$Steps" cX8_mayFollow 4 (some .boolean) l p s m meth c := ⟨B.exec, B.bytes, hml, B.returns, findClass_of_methodNamed B.named, B.notSynchronized, hT, by rw [hP.1]; exact hP.2.1, hK⟩
  have hx := X.1
  have hb := X.2.1
  have hown := X.2.2.2.2.1
  have hR : zz_R D dA base h n s s.heap [] := ⟨hP, va_S.rf⟩
  have hl := lv_entry ([.ref a0, .int x1, .int x2]) (n := 4) (by exact Nat.le_of_ble_eq_true rfl)
  rw [lg_entry_eq]
  generalize (lg_sl ([.ref a0, .int x1, .int x2]) ++ List.replicate (4 - (lg_sl ([.ref a0, .int x1, .int x2])).length) Slot.unset).toArray = ls at hl ⊢
  have hl : lv_has ls 4 [(0, .ref a0), (1, .int x1), (2, .int x2)] := hl
  unfold f_X8_mayFollow at hf
  refine lv_aload_n hx hb dX8_mayFollow_0 rfl (lv_at hl 0 rfl) ?_
  refine lv_iload_n hx hb dX8_mayFollow_1 rfl (lv_at hl 1 rfl) ?_
  refine lv_iconst (v := (1 : Int32)) hx hb dX8_mayFollow_2 (by decide) ?_
  refine lv_isub hx hb dX8_mayFollow_3 ?_
  obtain ⟨fs4, ho4, hf⟩ := zz_obS_i hf
  obtain ⟨v4, hv4, hf⟩ := zz_b_i hf
  refine zr_cV X hR hl.1 (As := [.int (x1 - (1 : Int32))]) (rest := []) (C := RX8) (T := TX8) (N := 3) (mt_X8_letterAt hT a0 (x1 - (1 : Int32)) h n hv4) rfl ho4 mf_X8_letterAt q_276 q_277 q_278 ⟨Nat.le_of_ble_eq_true rfl, Nat.le_of_ble_eq_true rfl⟩ ⟨Nat.le_of_ble_eq_true rfl, Nat.le_of_ble_eq_true rfl⟩ rfl (Nat.le_of_ble_eq_true rfl) dX8_mayFollow_4 (fun H locs hR => ?_)
  refine W.eq (g2 := F0 m 7 ls [.int v4]) rfl ?_
  refine lv_istore_n (i := 3) (lv' := [(3, .int v4), (0, .ref a0), (1, .int x1), (2, .int x2)]) hx hb dX8_mayFollow_7 rfl hl (by decide) rfl (fun ls hl => ?_)
  refine lv_iload_n hx hb dX8_mayFollow_8 rfl (lv_at hl 3 rfl) ?_
  refine lv_bipush (v := (119 : Int32)) hx hb dX8_mayFollow_9 (by decide) ?_
  refine lv_icmp_ne (tgt := 24) hx hb dX8_mayFollow_11 (by decide) (fun c11 => ?_) (fun c11 => ?_)
  · replace hf := zz_neg c11 hf
    refine lv_iload_n hx hb dX8_mayFollow_24 rfl (lv_at hl 3 rfl) ?_
    refine lv_bipush (v := (115 : Int32)) hx hb dX8_mayFollow_25 (by decide) ?_
    refine lv_icmp_ne (tgt := 42) hx hb dX8_mayFollow_27 (by decide) (fun c27 => ?_) (fun c27 => ?_)
    · replace hf := zz_neg c27 hf
      refine lv_iload_n hx hb dX8_mayFollow_42 rfl (lv_at hl 3 rfl) ?_
      refine lv_bipush (v := (116 : Int32)) hx hb dX8_mayFollow_43 (by decide) ?_
      refine lv_icmp_ne (tgt := 60) hx hb dX8_mayFollow_45 (by decide) (fun c45 => ?_) (fun c45 => ?_)
      · replace hf := zz_neg c45 hf
        refine lv_iload_n hx hb dX8_mayFollow_60 rfl (lv_at hl 3 rfl) ?_
        refine lv_bipush (v := (108 : Int32)) hx hb dX8_mayFollow_61 (by decide) ?_
        refine lv_icmp_ne (tgt := 99) hx hb dX8_mayFollow_63 (by decide) (fun c63 => ?_) (fun c63 => ?_)
        · replace hf := zz_neg c63 hf
          refine lv_iload_n hx hb dX8_mayFollow_99 rfl (lv_at hl 3 rfl) ?_
          refine lv_bipush (v := (98 : Int32)) hx hb dX8_mayFollow_100 (by decide) ?_
          refine lv_icmp_ne (tgt := 117) hx hb dX8_mayFollow_102 (by decide) (fun c102 => ?_) (fun c102 => ?_)
          · replace hf := zz_neg c102 hf
            refine lv_iload_n hx hb dX8_mayFollow_117 rfl (lv_at hl 3 rfl) ?_
            refine lv_bipush (v := (99 : Int32)) hx hb dX8_mayFollow_118 (by decide) ?_
            refine lv_icmp_ne (tgt := 139) hx hb dX8_mayFollow_120 (by decide) (fun c120 => ?_) (fun c120 => ?_)
            · replace hf := zz_neg c120 hf
              exact bk_X8_mayFollow_139 X hT hR (lv_sub hl [] rfl) hf
            · replace hf := zz_pos c120 hf
              refine lv_iload_n hx hb dX8_mayFollow_123 rfl (lv_at hl 0 rfl) ?_
              refine lv_bipush (v := (108 : Int32)) hx hb dX8_mayFollow_124 (by decide) ?_
              refine lv_icmp_eq (tgt := 135) hx hb dX8_mayFollow_126 (by decide) (fun c126 => ?_) (fun c126 => ?_)
              · replace hf := zz_pos c126 hf
                exact bk_X8_mayFollow_135 X hT hR (lv_sub hl [] rfl) hf
              · replace hf := zz_neg c126 hf
                refine lv_iload_n hx hb dX8_mayFollow_129 rfl (lv_at hl 0 rfl) ?_
                refine lv_bipush (v := (98 : Int32)) hx hb dX8_mayFollow_130 (by decide) ?_
                refine lv_icmp_ne (tgt := 139) hx hb dX8_mayFollow_132 (by decide) (fun c132 => ?_) (fun c132 => ?_)
                · replace hf := zz_neg c132 hf
                  exact bk_X8_mayFollow_139 X hT hR (lv_sub hl [] rfl) hf
                · replace hf := zz_pos c132 hf
                  exact bk_X8_mayFollow_135 X hT hR (lv_sub hl [] rfl) hf
          · replace hf := zz_pos c102 hf
            refine lv_iload_n hx hb dX8_mayFollow_105 rfl (lv_at hl 0 rfl) ?_
            refine lv_bipush (v := (108 : Int32)) hx hb dX8_mayFollow_106 (by decide) ?_
            refine lv_icmp_ne (tgt := 115) hx hb dX8_mayFollow_108 (by decide) (fun c108 => ?_) (fun c108 => ?_)
            · replace hf := zz_neg c108 hf
              refine lv_iconst (v := (0 : Int32)) hx hb dX8_mayFollow_115 (by decide) ?_
              exact bk_X8_mayFollow_116 X hT hR (lv_sub hl [] rfl) hf
            · replace hf := zz_pos c108 hf
              refine lv_iconst (v := (1 : Int32)) hx hb dX8_mayFollow_111 (by decide) ?_
              refine lv_goto (tgt := 116) hx hb dX8_mayFollow_112 (by decide) ?_
              exact bk_X8_mayFollow_116 X hT hR (lv_sub hl [] rfl) hf
        · replace hf := zz_pos c63 hf
          refine lv_iload_n hx hb dX8_mayFollow_66 rfl (lv_at hl 0 rfl) ?_
          refine lv_bipush (v := (115 : Int32)) hx hb dX8_mayFollow_67 (by decide) ?_
          refine lv_icmp_eq (tgt := 84) hx hb dX8_mayFollow_69 (by decide) (fun c69 => ?_) (fun c69 => ?_)
          · replace hf := zz_pos c69 hf
            exact bk_X8_mayFollow_84 X hT hR (lv_sub hl [1, 2] rfl) hf
          · replace hf := zz_neg c69 hf
            refine lv_iload_n hx hb dX8_mayFollow_72 rfl (lv_at hl 0 rfl) ?_
            refine lv_bipush (v := (116 : Int32)) hx hb dX8_mayFollow_73 (by decide) ?_
            refine lv_icmp_eq (tgt := 84) hx hb dX8_mayFollow_75 (by decide) (fun c75 => ?_) (fun c75 => ?_)
            · replace hf := zz_pos c75 hf
              exact bk_X8_mayFollow_84 X hT hR (lv_sub hl [1, 2] rfl) hf
            · replace hf := zz_neg c75 hf
              refine lv_iload_n hx hb dX8_mayFollow_78 rfl (lv_at hl 0 rfl) ?_
              refine lv_bipush (v := (108 : Int32)) hx hb dX8_mayFollow_79 (by decide) ?_
              refine lv_icmp_ne (tgt := 97) hx hb dX8_mayFollow_81 (by decide) (fun c81 => ?_) (fun c81 => ?_)
              · replace hf := zz_neg c81 hf
                exact bk_X8_mayFollow_97 X hT hR (lv_sub hl [] rfl) hf
              · replace hf := zz_pos c81 hf
                exact bk_X8_mayFollow_84 X hT hR (lv_sub hl [1, 2] rfl) hf
      · replace hf := zz_pos c45 hf
        refine lv_iload_n hx hb dX8_mayFollow_48 rfl (lv_at hl 0 rfl) ?_
        refine lv_bipush (v := (115 : Int32)) hx hb dX8_mayFollow_49 (by decide) ?_
        refine lv_icmp_ne (tgt := 58) hx hb dX8_mayFollow_51 (by decide) (fun c51 => ?_) (fun c51 => ?_)
        · replace hf := zz_neg c51 hf
          refine lv_iconst (v := (0 : Int32)) hx hb dX8_mayFollow_58 (by decide) ?_
          exact bk_X8_mayFollow_59 X hT hR (lv_sub hl [] rfl) hf
        · replace hf := zz_pos c51 hf
          refine lv_iconst (v := (1 : Int32)) hx hb dX8_mayFollow_54 (by decide) ?_
          refine lv_goto (tgt := 59) hx hb dX8_mayFollow_55 (by decide) ?_
          exact bk_X8_mayFollow_59 X hT hR (lv_sub hl [] rfl) hf
    · replace hf := zz_pos c27 hf
      refine lv_iload_n hx hb dX8_mayFollow_30 rfl (lv_at hl 0 rfl) ?_
      refine lv_bipush (v := (119 : Int32)) hx hb dX8_mayFollow_31 (by decide) ?_
      refine lv_icmp_ne (tgt := 40) hx hb dX8_mayFollow_33 (by decide) (fun c33 => ?_) (fun c33 => ?_)
      · replace hf := zz_neg c33 hf
        refine lv_iconst (v := (0 : Int32)) hx hb dX8_mayFollow_40 (by decide) ?_
        exact bk_X8_mayFollow_41 X hT hR (lv_sub hl [] rfl) hf
      · replace hf := zz_pos c33 hf
        refine lv_iconst (v := (1 : Int32)) hx hb dX8_mayFollow_36 (by decide) ?_
        refine lv_goto (tgt := 41) hx hb dX8_mayFollow_37 (by decide) ?_
        exact bk_X8_mayFollow_41 X hT hR (lv_sub hl [] rfl) hf
  · replace hf := zz_pos c11 hf
    refine lv_iload_n hx hb dX8_mayFollow_14 rfl (lv_at hl 2 rfl) ?_
    refine lv_if_ne (tgt := 22) hx hb dX8_mayFollow_15 (by decide) (fun c15 => ?_) (fun c15 => ?_)
    · replace hf := zz_neg c15 hf
      refine lv_iconst (v := (0 : Int32)) hx hb dX8_mayFollow_22 (by decide) ?_
      exact bk_X8_mayFollow_23 X hT hR (lv_sub hl [] rfl) hf
    · replace hf := zz_pos c15 hf
      refine lv_iconst (v := (1 : Int32)) hx hb dX8_mayFollow_18 (by decide) ?_
      refine lv_goto (tgt := 23) hx hb dX8_mayFollow_19 (by decide) ?_
      exact bk_X8_mayFollow_23 X hT hR (lv_sub hl [] rfl) hf
def rm_X8_mayCome : Room := { frames := 3, cells := 0, slots := 0, locals := 67 }
theorem mf_X8_mayCome : zz_Mf yX8_mayCome cX8_mayCome 2 (some .boolean) 1 := ⟨q_676, q_17, by decide +kernel, by decide +kernel, by decide +kernel⟩
set_option maxHeartbeats 4000000 in
set_option maxRecDepth 100000 in
theorem bk_X8_mayCome_24 {D : va_G} {dA : Nat → ClassId} {base t0 : Nat} {l : Launch} {p : Program} {e : Env} {s : State} {m : MethodId} {args : Array Value} {below : List Frame} {meth : Method} {c : Code} (X : zz_X D dA base t0 "Springseat$Steps" cX8_mayCome 2 (some .boolean) l p s m meth c) (hT : l.stackTraces = false) {s0 : Int32} {h : zz_H} {n : Nat} {H : Heap} {locs : List Loc} {ls : Array Slot} (hR : zz_R D dA base h n s H locs) (hl : lv_has ls 2 []) {r0 : Int32} (hf : f_X8_mayCome_24 s0 h = some r0) : W p l e rm_X8_mayCome s m args below meth c H locs 0 0 (MQ below (zz_Qc D dA base (some (.int r0)) h n) args s rm_X8_mayCome.cells rm_X8_mayCome.slots (fun q => base ≤ q)) (F0 m 24 ls [.int s0]) := by
  have hx := X.1
  have hb := X.2.1
  have hown := X.2.2.2.2.1
  unfold f_X8_mayCome_24 at hf
  obtain ⟨hz24, hf⟩ := zz_gz_i hf
  cases hf
  exact zr_zret X hR (zz_nz hz24) dX8_mayCome_24 (Nat.le_of_ble_eq_true rfl) (Nat.le_of_ble_eq_true rfl)
set_option maxHeartbeats 4000000 in
set_option maxRecDepth 100000 in
theorem bk_X8_mayCome_23 {D : va_G} {dA : Nat → ClassId} {base t0 : Nat} {l : Launch} {p : Program} {e : Env} {s : State} {m : MethodId} {args : Array Value} {below : List Frame} {meth : Method} {c : Code} (X : zz_X D dA base t0 "Springseat$Steps" cX8_mayCome 2 (some .boolean) l p s m meth c) (hT : l.stackTraces = false) {h : zz_H} {n : Nat} {H : Heap} {locs : List Loc} {ls : Array Slot} (hR : zz_R D dA base h n s H locs) (hl : lv_has ls 2 []) {r0 : Int32} (hf : f_X8_mayCome_23 h = some r0) : W p l e rm_X8_mayCome s m args below meth c H locs 0 0 (MQ below (zz_Qc D dA base (some (.int r0)) h n) args s rm_X8_mayCome.cells rm_X8_mayCome.slots (fun q => base ≤ q)) (F0 m 23 ls []) := by
  have hx := X.1
  have hb := X.2.1
  have hown := X.2.2.2.2.1
  unfold f_X8_mayCome_23 at hf
  refine lv_iconst (v := (0 : Int32)) hx hb dX8_mayCome_23 (by decide) ?_
  exact bk_X8_mayCome_24 X hT hR (lv_sub hl [] rfl) hf
set_option maxHeartbeats 4000000 in
set_option maxRecDepth 100000 in
theorem mt_X8_mayCome {D : va_G} {dA : Nat → ClassId} {base t0 : Nat} {l : Launch} (hT : l.stackTraces = false) (a0 : Nat) (x1 : Int32) (h : zz_H) (n : Nat) {r0 : Int32} (hf : f_X8_mayCome a0 x1 h = some r0) : zz_M D dA base t0 l yX8_mayCome cX8_mayCome 2 (some .boolean) rm_X8_mayCome [.ref a0, .int x1] h n (some (.int r0)) h n := by
  refine Met.ofW (cc := cX8_mayCome) (maxL := 2) (ret := (some .boolean)) (by decide +kernel) rfl ?_
  intro p e s m args below meth c s₁ B hml hv
  obtain ⟨rfl, hP, hK⟩ := hv
  have X : zz_X D dA base t0 "Springseat$Steps" cX8_mayCome 2 (some .boolean) l p s m meth c := ⟨B.exec, B.bytes, hml, B.returns, findClass_of_methodNamed B.named, B.notSynchronized, hT, by rw [hP.1]; exact hP.2.1, hK⟩
  have hx := X.1
  have hb := X.2.1
  have hown := X.2.2.2.2.1
  have hR : zz_R D dA base h n s s.heap [] := ⟨hP, va_S.rf⟩
  have hl := lv_entry ([.ref a0, .int x1]) (n := 2) (by exact Nat.le_of_ble_eq_true rfl)
  rw [lg_entry_eq]
  generalize (lg_sl ([.ref a0, .int x1]) ++ List.replicate (2 - (lg_sl ([.ref a0, .int x1])).length) Slot.unset).toArray = ls at hl ⊢
  have hl : lv_has ls 2 [(0, .ref a0), (1, .int x1)] := hl
  unfold f_X8_mayCome at hf
  refine lv_aload_n hx hb dX8_mayCome_0 rfl (lv_at hl 0 rfl) ?_
  obtain ⟨fs1, ho1, hf⟩ := zz_obS_i hf
  obtain ⟨v1, hv1, hf⟩ := zz_b_i hf
  refine zr_cV X hR hl.1 (As := []) (rest := []) (C := RX8) (T := TX8) (N := 3) (mt_X8_allSigned hT a0 h n hv1) rfl ho1 mf_X8_allSigned q_677 q_678 q_679 ⟨Nat.le_of_ble_eq_true rfl, Nat.le_of_ble_eq_true rfl⟩ ⟨Nat.le_of_ble_eq_true rfl, Nat.le_of_ble_eq_true rfl⟩ rfl (Nat.le_of_ble_eq_true rfl) dX8_mayCome_1 (fun H locs hR => ?_)
  refine W.eq (g2 := F0 m 4 ls [.int v1]) rfl ?_
  refine lv_if_eq (tgt := 23) hx hb dX8_mayCome_4 (by decide) (fun c4 => ?_) (fun c4 => ?_)
  · replace hf := zz_pos c4 hf
    exact bk_X8_mayCome_23 X hT hR (lv_sub hl [] rfl) hf
  · replace hf := zz_neg c4 hf
    refine lv_aload_n hx hb dX8_mayCome_7 rfl (lv_at hl 0 rfl) ?_
    refine lv_aload_n hx hb dX8_mayCome_8 rfl (lv_at hl 0 rfl) ?_
    refine zr_gi X hR (r := (some a0)) fl_X8_15 dX8_mayCome_9 hf (fun v9 hf => ?_)
    refine lv_iload_n hx hb dX8_mayCome_12 rfl (lv_at hl 1 rfl) ?_
    obtain ⟨fs13, ho13, hf⟩ := zz_obS_i hf
    obtain ⟨v13, hv13, hf⟩ := zz_b_i hf
    refine zr_cV X hR hl.1 (As := [.int v9, .int x1]) (rest := []) (C := RX8) (T := TX8) (N := 3) (mt_X8_mayFollow hT a0 v9 x1 h n hv13) rfl ho13 mf_X8_mayFollow q_393 q_395 qs_6 ⟨Nat.le_of_ble_eq_true rfl, Nat.le_of_ble_eq_true rfl⟩ ⟨Nat.le_of_ble_eq_true rfl, Nat.le_of_ble_eq_true rfl⟩ rfl (Nat.le_of_ble_eq_true rfl) dX8_mayCome_13 (fun H locs hR => ?_)
    refine W.eq (g2 := F0 m 16 ls [.int v13]) rfl ?_
    refine lv_if_eq (tgt := 23) hx hb dX8_mayCome_16 (by decide) (fun c16 => ?_) (fun c16 => ?_)
    · replace hf := zz_pos c16 hf
      exact bk_X8_mayCome_23 X hT hR (lv_sub hl [] rfl) hf
    · replace hf := zz_neg c16 hf
      refine lv_iconst (v := (1 : Int32)) hx hb dX8_mayCome_19 (by decide) ?_
      refine lv_goto (tgt := 24) hx hb dX8_mayCome_20 (by decide) ?_
      exact bk_X8_mayCome_24 X hT hR (lv_sub hl [] rfl) hf
def rm_X8_signLast : Room := { frames := 0, cells := 0, slots := 0, locals := 0 }
theorem mf_X8_signLast : zz_Mf yX8_signLast cX8_signLast 1 (some .int) 0 := ⟨q_855, q_17, by decide +kernel, by decide +kernel, by decide +kernel⟩
set_option maxHeartbeats 4000000 in
set_option maxRecDepth 100000 in
theorem mt_X8_signLast {D : va_G} {dA : Nat → ClassId} {base t0 : Nat} {l : Launch} (hT : l.stackTraces = false) (a0 : Nat) (h : zz_H) (n : Nat) {r0 : Int32} {hF : zz_H} (hf : f_X8_signLast a0 h = some (r0, hF)) : zz_M D dA base t0 l yX8_signLast cX8_signLast 1 (some .int) rm_X8_signLast [.ref a0] h n (some (.int r0)) hF n := by
  refine Met.ofW (cc := cX8_signLast) (maxL := 1) (ret := (some .int)) (by decide +kernel) rfl ?_
  intro p e s m args below meth c s₁ B hml hv
  obtain ⟨rfl, hP, hK⟩ := hv
  have X : zz_X D dA base t0 "Springseat$Steps" cX8_signLast 1 (some .int) l p s m meth c := ⟨B.exec, B.bytes, hml, B.returns, findClass_of_methodNamed B.named, B.notSynchronized, hT, by rw [hP.1]; exact hP.2.1, hK⟩
  have hx := X.1
  have hb := X.2.1
  have hown := X.2.2.2.2.1
  have hR : zz_R D dA base h n s s.heap [] := ⟨hP, va_S.rf⟩
  have hl := lv_entry ([.ref a0]) (n := 1) (by exact Nat.le_of_ble_eq_true rfl)
  rw [lg_entry_eq]
  generalize (lg_sl ([.ref a0]) ++ List.replicate (1 - (lg_sl ([.ref a0])).length) Slot.unset).toArray = ls at hl ⊢
  have hl : lv_has ls 1 [(0, .ref a0)] := hl
  unfold f_X8_signLast at hf
  refine lv_aload_n hx hb dX8_signLast_0 rfl (lv_at hl 0 rfl) ?_
  refine lv_aload_n hx hb dX8_signLast_1 rfl (lv_at hl 0 rfl) ?_
  refine zr_gi X hR (r := (some a0)) fl_X8_15 dX8_signLast_2 hf (fun v2 hf => ?_)
  refine zr_p X hR (r := (some a0)) (v := .int v2) fl_X8_23 rfl dX8_signLast_5 rfl rfl hf (fun h5 H locs hf hR => ?_)
  refine lv_aload_n hx hb dX8_signLast_8 rfl (lv_at hl 0 rfl) ?_
  refine zr_gi X hR (r := (some a0)) fl_X8_23 dX8_signLast_9 hf (fun v9 hf => ?_)
  cases hf
  exact zr_iret X hR dX8_signLast_12 (Nat.le_of_ble_eq_true rfl) (Nat.le_of_ble_eq_true rfl)
def rm_X8_areInOrder : Room := { frames := 3, cells := 0, slots := 0, locals := 67 }
theorem mf_X8_areInOrder : zz_Mf yX8_areInOrder cX8_areInOrder 2 (some .boolean) 0 := ⟨q_392, q_17, by decide +kernel, by decide +kernel, by decide +kernel⟩
set_option maxHeartbeats 4000000 in
set_option maxRecDepth 100000 in
theorem bk_X8_areInOrder_60 {D : va_G} {dA : Nat → ClassId} {base t0 : Nat} {l : Launch} {p : Program} {e : Env} {s : State} {m : MethodId} {args : Array Value} {below : List Frame} {meth : Method} {c : Code} (X : zz_X D dA base t0 "Springseat$Steps" cX8_areInOrder 2 (some .boolean) l p s m meth c) (hT : l.stackTraces = false) {s0 : Int32} {h : zz_H} {n : Nat} {H : Heap} {locs : List Loc} {ls : Array Slot} (hR : zz_R D dA base h n s H locs) (hl : lv_has ls 2 []) {r0 : Int32} (hf : f_X8_areInOrder_60 s0 h = some r0) : W p l e rm_X8_areInOrder s m args below meth c H locs 0 0 (MQ below (zz_Qc D dA base (some (.int r0)) h n) args s rm_X8_areInOrder.cells rm_X8_areInOrder.slots (fun q => base ≤ q)) (F0 m 60 ls [.int s0]) := by
  have hx := X.1
  have hb := X.2.1
  have hown := X.2.2.2.2.1
  unfold f_X8_areInOrder_60 at hf
  obtain ⟨hz60, hf⟩ := zz_gz_i hf
  cases hf
  exact zr_zret X hR (zz_nz hz60) dX8_areInOrder_60 (Nat.le_of_ble_eq_true rfl) (Nat.le_of_ble_eq_true rfl)
set_option maxHeartbeats 4000000 in
set_option maxRecDepth 100000 in
theorem bk_X8_areInOrder_55 {D : va_G} {dA : Nat → ClassId} {base t0 : Nat} {l : Launch} {p : Program} {e : Env} {s : State} {m : MethodId} {args : Array Value} {below : List Frame} {meth : Method} {c : Code} (X : zz_X D dA base t0 "Springseat$Steps" cX8_areInOrder 2 (some .boolean) l p s m meth c) (hT : l.stackTraces = false) {h : zz_H} {n : Nat} {H : Heap} {locs : List Loc} {ls : Array Slot} (hR : zz_R D dA base h n s H locs) (hl : lv_has ls 2 []) {r0 : Int32} (hf : f_X8_areInOrder_55 h = some r0) : W p l e rm_X8_areInOrder s m args below meth c H locs 0 0 (MQ below (zz_Qc D dA base (some (.int r0)) h n) args s rm_X8_areInOrder.cells rm_X8_areInOrder.slots (fun q => base ≤ q)) (F0 m 55 ls []) := by
  have hx := X.1
  have hb := X.2.1
  have hown := X.2.2.2.2.1
  unfold f_X8_areInOrder_55 at hf
  refine lv_iconst (v := (1 : Int32)) hx hb dX8_areInOrder_55 (by decide) ?_
  refine lv_goto (tgt := 60) hx hb dX8_areInOrder_56 (by decide) ?_
  exact bk_X8_areInOrder_60 X hT hR (lv_sub hl [] rfl) hf
set_option maxHeartbeats 4000000 in
set_option maxRecDepth 100000 in
theorem bk_X8_areInOrder_2 {D : va_G} {dA : Nat → ClassId} {base t0 : Nat} {l : Launch} {p : Program} {e : Env} {s : State} {m : MethodId} {args : Array Value} {below : List Frame} {meth : Method} {c : Code} (X : zz_X D dA base t0 "Springseat$Steps" cX8_areInOrder 2 (some .boolean) l p s m meth c) (hT : l.stackTraces = false) {a0 : Nat} {x1 : Int32} {h : zz_H} {n : Nat} {H : Heap} {locs : List Loc} {ls : Array Slot} (hR : zz_R D dA base h n s H locs) (hl : lv_has ls 2 [(0, .ref a0), (1, .int x1)]) {r0 : Int32} {o : (Int32 ⊕ Int32)} (hf : f_X8_areInOrder_2 a0 x1 h = some o) (k0 : ∀ (w1 : Int32), o = (.inl w1) → ∀ {H : Heap} {locs : List Loc} {ls : Array Slot}, zz_R D dA base h n s H locs → lv_has ls 2 [(0, .ref a0), (1, .int w1)] → W p l e rm_X8_areInOrder s m args below meth c H locs 0 0 (MQ below (zz_Qc D dA base (some (.int r0)) h n) args s rm_X8_areInOrder.cells rm_X8_areInOrder.slots (fun q => base ≤ q)) (F0 m 2 ls [])) (hret : ∀ r, o = (.inr r) → r = r0) : W p l e rm_X8_areInOrder s m args below meth c H locs 0 0 (MQ below (zz_Qc D dA base (some (.int r0)) h n) args s rm_X8_areInOrder.cells rm_X8_areInOrder.slots (fun q => base ≤ q)) (F0 m 2 ls []) := by
  have hx := X.1
  have hb := X.2.1
  have hown := X.2.2.2.2.1
  unfold f_X8_areInOrder_2 at hf
  refine lv_iload_n hx hb dX8_areInOrder_2 rfl (lv_at hl 1 rfl) ?_
  refine lv_aload_n hx hb dX8_areInOrder_3 rfl (lv_at hl 0 rfl) ?_
  refine zr_gi X hR (r := (some a0)) fl_X8_15 dX8_areInOrder_4 hf (fun v4 hf => ?_)
  refine lv_icmp_ge (tgt := 31) hx hb dX8_areInOrder_7 (by decide) (fun c7 => ?_) (fun c7 => ?_)
  · replace hf := zz_pos c7 hf
    refine lv_aload_n hx hb dX8_areInOrder_31 rfl (lv_at hl 0 rfl) ?_
    refine zr_gi X hR (r := (some a0)) fl_X8_23 dX8_areInOrder_32 hf (fun v32 hf => ?_)
    refine lv_aload_n hx hb dX8_areInOrder_35 rfl (lv_at hl 0 rfl) ?_
    refine zr_gi X hR (r := (some a0)) fl_X8_15 dX8_areInOrder_36 hf (fun v36 hf => ?_)
    refine lv_icmp_eq (tgt := 55) hx hb dX8_areInOrder_39 (by decide) (fun c39 => ?_) (fun c39 => ?_)
    · replace hf := zz_pos c39 hf
      obtain ⟨o1, hf1, he⟩ := Option.map_eq_some_iff.mp hf
      cases he
      cases hret _ rfl
      exact bk_X8_areInOrder_55 X hT hR (lv_sub hl [] rfl) hf1
    · replace hf := zz_neg c39 hf
      refine lv_aload_n hx hb dX8_areInOrder_42 rfl (lv_at hl 0 rfl) ?_
      refine zr_gi X hR (r := (some a0)) fl_X8_23 dX8_areInOrder_43 hf (fun v43 hf => ?_)
      refine lv_aload_n hx hb dX8_areInOrder_46 rfl (lv_at hl 0 rfl) ?_
      refine zr_gi X hR (r := (some a0)) fl_X8_15 dX8_areInOrder_47 hf (fun v47 hf => ?_)
      refine lv_iconst (v := (1 : Int32)) hx hb dX8_areInOrder_50 (by decide) ?_
      refine lv_isub hx hb dX8_areInOrder_51 ?_
      refine lv_icmp_ne (tgt := 59) hx hb dX8_areInOrder_52 (by decide) (fun c52 => ?_) (fun c52 => ?_)
      · replace hf := zz_neg c52 hf
        refine lv_iconst (v := (0 : Int32)) hx hb dX8_areInOrder_59 (by decide) ?_
        obtain ⟨o1, hf1, he⟩ := Option.map_eq_some_iff.mp hf
        cases he
        cases hret _ rfl
        exact bk_X8_areInOrder_60 X hT hR (lv_sub hl [] rfl) hf1
      · replace hf := zz_pos c52 hf
        obtain ⟨o1, hf1, he⟩ := Option.map_eq_some_iff.mp hf
        cases he
        cases hret _ rfl
        exact bk_X8_areInOrder_55 X hT hR (lv_sub hl [] rfl) hf1
  · replace hf := zz_neg c7 hf
    refine lv_aload_n hx hb dX8_areInOrder_10 rfl (lv_at hl 0 rfl) ?_
    refine lv_iload_n hx hb dX8_areInOrder_11 rfl (lv_at hl 1 rfl) ?_
    refine lv_aload_n hx hb dX8_areInOrder_12 rfl (lv_at hl 0 rfl) ?_
    refine lv_iload_n hx hb dX8_areInOrder_13 rfl (lv_at hl 1 rfl) ?_
    obtain ⟨fs14, ho14, hf⟩ := zz_obS_i hf
    obtain ⟨v14, hv14, hf⟩ := zz_b_i hf
    refine zr_cV X hR hl.1 (As := [.int x1]) (rest := [.int x1, .ref a0]) (C := RX8) (T := TX8) (N := 3) (mt_X8_letterAt hT a0 x1 h n hv14) rfl ho14 mf_X8_letterAt q_276 q_277 q_278 ⟨Nat.le_of_ble_eq_true rfl, Nat.le_of_ble_eq_true rfl⟩ ⟨Nat.le_of_ble_eq_true rfl, Nat.le_of_ble_eq_true rfl⟩ rfl (Nat.le_of_ble_eq_true rfl) dX8_areInOrder_14 (fun H locs hR => ?_)
    refine W.eq (g2 := F0 m 17 ls [.int v14, .int x1, .ref a0]) rfl ?_
    obtain ⟨fs17, ho17, hf⟩ := zz_obS_i hf
    obtain ⟨v17, hv17, hf⟩ := zz_b_i hf
    refine zr_cV X hR hl.1 (As := [.int x1, .int v14]) (rest := []) (C := RX8) (T := TX8) (N := 3) (mt_X8_mayFollow hT a0 x1 v14 h n hv17) rfl ho17 mf_X8_mayFollow q_393 q_395 qs_6 ⟨Nat.le_of_ble_eq_true rfl, Nat.le_of_ble_eq_true rfl⟩ ⟨Nat.le_of_ble_eq_true rfl, Nat.le_of_ble_eq_true rfl⟩ rfl (Nat.le_of_ble_eq_true rfl) dX8_areInOrder_17 (fun H locs hR => ?_)
    refine W.eq (g2 := F0 m 20 ls [.int v17]) rfl ?_
    refine lv_if_ne (tgt := 25) hx hb dX8_areInOrder_20 (by decide) (fun c20 => ?_) (fun c20 => ?_)
    · replace hf := zz_neg c20 hf
      refine lv_iinc (i := 1) (v := (x1 + (1 : Int32))) (lv' := [(1, .int (x1 + (1 : Int32))), (0, .ref a0)]) hx hb dX8_areInOrder_25 hl (k := 1) rfl rfl (by decide) rfl (fun ls hl => ?_)
      refine lv_goto (tgt := 2) hx hb dX8_areInOrder_28 (by decide) ?_
      cases hf
      exact k0 _ rfl hR (lv_sub hl [1, 0] rfl)
    · replace hf := zz_pos c20 hf
      refine lv_iconst (v := (0 : Int32)) hx hb dX8_areInOrder_23 (by decide) ?_
      cases hf
      cases hret _ rfl
      exact zr_zret X hR (v := (0 : Int32)) rfl dX8_areInOrder_24 (Nat.le_of_ble_eq_true rfl) (Nat.le_of_ble_eq_true rfl)
set_option maxHeartbeats 4000000 in
set_option maxRecDepth 100000 in
theorem lp_X8_areInOrder_2 {D : va_G} {dA : Nat → ClassId} {base t0 : Nat} {l : Launch} {p : Program} {e : Env} {s : State} {m : MethodId} {args : Array Value} {below : List Frame} {meth : Method} {c : Code} (X : zz_X D dA base t0 "Springseat$Steps" cX8_areInOrder 2 (some .boolean) l p s m meth c) (hT : l.stackTraces = false) (a0 : Nat) {h : zz_H} {n : Nat} {r0 : Int32} : ∀ (k : Nat) (x1 : Int32), zz_it (fun s : Int32 => f_X8_areInOrder_2 a0 s h) k x1 = some r0 → ∀ {H : Heap} {locs : List Loc} {ls : Array Slot}, zz_R D dA base h n s H locs → lv_has ls 2 [(0, .ref a0), (1, .int x1)] → W p l e rm_X8_areInOrder s m args below meth c H locs 0 0 (MQ below (zz_Qc D dA base (some (.int r0)) h n) args s rm_X8_areInOrder.cells rm_X8_areInOrder.slots (fun q => base ≤ q)) (F0 m 2 ls []) := by
  intro k
  induction k with
  | zero => intro x1 hf; cases hf
  | succ k ih =>
    intro x1 hf H locs ls hR hl
    rcases zz_it_s hf with ⟨y0, h1, h2⟩ | h1
    · exact bk_X8_areInOrder_2 (r0 := r0) X hT hR hl h1  (fun z0 e => by cases e; exact ih _ h2) (fun r e => by cases e)
    · exact bk_X8_areInOrder_2 (r0 := r0) X hT hR hl h1  (fun z0 e => by cases e) (fun r e => (Sum.inr.inj e).symm)
set_option maxHeartbeats 4000000 in
set_option maxRecDepth 100000 in
theorem mt_X8_areInOrder {D : va_G} {dA : Nat → ClassId} {base t0 : Nat} {l : Launch} (hT : l.stackTraces = false) (a0 : Nat) (h : zz_H) (n : Nat) {r0 : Int32} (hf : f_X8_areInOrder a0 h = some r0) : zz_M D dA base t0 l yX8_areInOrder cX8_areInOrder 2 (some .boolean) rm_X8_areInOrder [.ref a0] h n (some (.int r0)) h n := by
  refine Met.ofW (cc := cX8_areInOrder) (maxL := 2) (ret := (some .boolean)) (by decide +kernel) rfl ?_
  intro p e s m args below meth c s₁ B hml hv
  obtain ⟨rfl, hP, hK⟩ := hv
  have X : zz_X D dA base t0 "Springseat$Steps" cX8_areInOrder 2 (some .boolean) l p s m meth c := ⟨B.exec, B.bytes, hml, B.returns, findClass_of_methodNamed B.named, B.notSynchronized, hT, by rw [hP.1]; exact hP.2.1, hK⟩
  have hx := X.1
  have hb := X.2.1
  have hown := X.2.2.2.2.1
  have hR : zz_R D dA base h n s s.heap [] := ⟨hP, va_S.rf⟩
  have hl := lv_entry ([.ref a0]) (n := 2) (by exact Nat.le_of_ble_eq_true rfl)
  rw [lg_entry_eq]
  generalize (lg_sl ([.ref a0]) ++ List.replicate (2 - (lg_sl ([.ref a0])).length) Slot.unset).toArray = ls at hl ⊢
  have hl : lv_has ls 2 [(0, .ref a0)] := hl
  unfold f_X8_areInOrder at hf
  refine lv_iconst (v := (0 : Int32)) hx hb dX8_areInOrder_0 (by decide) ?_
  refine lv_istore_n (i := 1) (lv' := [(1, .int (0 : Int32)), (0, .ref a0)]) hx hb dX8_areInOrder_1 rfl hl (by decide) rfl (fun ls hl => ?_)
  exact lp_X8_areInOrder_2 X hT a0 zz_F _ hf hR (lv_sub hl [1, 0] rfl)
def rm_X9_init : Room := { frames := 5, cells := 20, slots := 198, locals := 108 }
theorem mf_X9_init : zz_Mf yX9_init cX9_init 2 none 0 := ⟨q_32, q_1, by decide +kernel, by decide +kernel, by decide +kernel⟩
set_option maxHeartbeats 4000000 in
set_option maxRecDepth 100000 in
theorem mt_X9_init {D : va_G} {dA : Nat → ClassId} {base t0 : Nat} {l : Launch} (hT : l.stackTraces = false) (a0 : Nat) (h : zz_H) (n : Nat) {r0 : Unit} {hF : zz_H} {nF : Nat} (hf : f_X9_init t0 a0 h n = some (r0, hF, nF)) : zz_M D dA base t0 l yX9_init cX9_init 2 none rm_X9_init [.ref a0] h n none hF nF := by
  refine Met.ofW (cc := cX9_init) (maxL := 2) (ret := none) (by decide +kernel) rfl ?_
  intro p e s m args below meth c s₁ B hml hv
  obtain ⟨rfl, hP, hK⟩ := hv
  have X : zz_X D dA base t0 "Springseat" cX9_init 2 none l p s m meth c := ⟨B.exec, B.bytes, hml, B.returns, findClass_of_methodNamed B.named, B.notSynchronized, hT, by rw [hP.1]; exact hP.2.1, hK⟩
  have hx := X.1
  have hb := X.2.1
  have hown := X.2.2.2.2.1
  have hin : meth.name = "<init>" := (name_of_methodNamed B.named B.method).1
  have hR : zz_R D dA base h n s s.heap [] := ⟨hP, va_S.rf⟩
  have hl := lv_entry ([.ref a0]) (n := 2) (by exact Nat.le_of_ble_eq_true rfl)
  rw [lg_entry_eq]
  generalize (lg_sl ([.ref a0]) ++ List.replicate (2 - (lg_sl ([.ref a0])).length) Slot.unset).toArray = ls at hl ⊢
  have hl : lv_has ls 2 [(0, .ref a0)] := hl
  unfold f_X9_init at hf
  refine lv_aload_n hx hb dX9_init_0 rfl (lv_at hl 0 rfl) ?_
  refine zr_obj X hl.1 q_33 q_34 q_35 dX9_init_1 (Nat.le_of_ble_eq_true rfl) ⟨Nat.le_of_ble_eq_true rfl, Nat.le_of_ble_eq_true rfl⟩ ?_
  refine W.eq (g2 := F0 m 4 ls []) rfl ?_
  refine lv_aload_n hx hb dX9_init_4 rfl (lv_at hl 0 rfl) ?_
  refine zr_new X hR (fs := [.int 0, .null, .int 0]) zc0 q_36 q_37 q_4 (fun j hj => by rcases (show j = 0 ∨ j = 1 ∨ j = 2 by omega) with rfl | rfl | rfl <;> rfl) (Nat.le_of_ble_eq_true rfl) (Nat.le_of_ble_eq_true rfl) dX9_init_5 (fun H hR => ?_)
  refine W.widen (k := 1) (n := 3) (Nat.le_of_ble_eq_true rfl) (Nat.le_of_ble_eq_true rfl) ?_
  refine lv_dup hx hb dX9_init_8 rfl ?_
  obtain ⟨u9, h9, n9, hv9, hf⟩ := zz_b2_i hf
  refine zr_cI X hR hl.1 (As := []) (rest := [.ref n, .ref a0]) (mt_Jx4a65c_init_da8c8 hT n (zz_u h n (.inr (0, [.int 0, .null, .int 0]))) (n + 1) hv9) mf_Jx4a65c_init_da8c8 rfl q_38 q_39 ⟨Nat.le_of_ble_eq_true rfl, Nat.le_of_ble_eq_true rfl⟩ ⟨Nat.le_of_ble_eq_true rfl, Nat.le_of_ble_eq_true rfl⟩ rfl (Nat.le_of_ble_eq_true rfl) dX9_init_9 (fun H locs hR => ?_)
  refine W.eq (g2 := F0 m 12 ls [.ref n, .ref a0]) rfl ?_
  refine zr_pF X hR (r := (some a0)) (v := .ref n) fl_X9_10 rfl hin rfl dX9_init_12 (zz_nr rfl (some n)).1 (zz_nr rfl (some n)).2 hf (fun h12 H locs hf hR => ?_)
  refine lv_aload_n hx hb dX9_init_15 rfl (lv_at hl 0 rfl) ?_
  refine zr_new X hR (fs := [.int 0, .null, .int 0]) zc0 q_36 q_37 q_4 (fun j hj => by rcases (show j = 0 ∨ j = 1 ∨ j = 2 by omega) with rfl | rfl | rfl <;> rfl) (Nat.le_of_ble_eq_true rfl) (Nat.le_of_ble_eq_true rfl) dX9_init_16 (fun H hR => ?_)
  refine W.widen (k := 2) (n := 6) (Nat.le_of_ble_eq_true rfl) (Nat.le_of_ble_eq_true rfl) ?_
  refine lv_dup hx hb dX9_init_19 rfl ?_
  obtain ⟨u20, h20, n20, hv20, hf⟩ := zz_b2_i hf
  refine zr_cI X hR hl.1 (As := []) (rest := [.ref n9, .ref a0]) (mt_Jx4a65c_init_da8c8 hT n9 (zz_u h12 n9 (.inr (0, [.int 0, .null, .int 0]))) (n9 + 1) hv20) mf_Jx4a65c_init_da8c8 rfl q_38 q_39 ⟨Nat.le_of_ble_eq_true rfl, Nat.le_of_ble_eq_true rfl⟩ ⟨Nat.le_of_ble_eq_true rfl, Nat.le_of_ble_eq_true rfl⟩ rfl (Nat.le_of_ble_eq_true rfl) dX9_init_20 (fun H locs hR => ?_)
  refine W.eq (g2 := F0 m 23 ls [.ref n9, .ref a0]) rfl ?_
  refine zr_pF X hR (r := (some a0)) (v := .ref n9) fl_X9_16 rfl hin rfl dX9_init_23 (zz_nr rfl (some n9)).1 (zz_nr rfl (some n9)).2 hf (fun h23 H locs hf hR => ?_)
  refine lv_aload_n hx hb dX9_init_26 rfl (lv_at hl 0 rfl) ?_
  refine zr_new X hR (fs := [.int 0, .null, .int 0]) zc0 q_36 q_37 q_4 (fun j hj => by rcases (show j = 0 ∨ j = 1 ∨ j = 2 by omega) with rfl | rfl | rfl <;> rfl) (Nat.le_of_ble_eq_true rfl) (Nat.le_of_ble_eq_true rfl) dX9_init_27 (fun H hR => ?_)
  refine W.widen (k := 3) (n := 9) (Nat.le_of_ble_eq_true rfl) (Nat.le_of_ble_eq_true rfl) ?_
  refine lv_dup hx hb dX9_init_30 rfl ?_
  obtain ⟨u31, h31, n31, hv31, hf⟩ := zz_b2_i hf
  refine zr_cI X hR hl.1 (As := []) (rest := [.ref n20, .ref a0]) (mt_Jx4a65c_init_da8c8 hT n20 (zz_u h23 n20 (.inr (0, [.int 0, .null, .int 0]))) (n20 + 1) hv31) mf_Jx4a65c_init_da8c8 rfl q_38 q_39 ⟨Nat.le_of_ble_eq_true rfl, Nat.le_of_ble_eq_true rfl⟩ ⟨Nat.le_of_ble_eq_true rfl, Nat.le_of_ble_eq_true rfl⟩ rfl (Nat.le_of_ble_eq_true rfl) dX9_init_31 (fun H locs hR => ?_)
  refine W.eq (g2 := F0 m 34 ls [.ref n20, .ref a0]) rfl ?_
  refine zr_pF X hR (r := (some a0)) (v := .ref n20) fl_X9_19 rfl hin rfl dX9_init_34 (zz_nr rfl (some n20)).1 (zz_nr rfl (some n20)).2 hf (fun h34 H locs hf hR => ?_)
  refine lv_aload_n hx hb dX9_init_37 rfl (lv_at hl 0 rfl) ?_
  refine zr_new X hR (fs := [.int 0, .null, .int 0]) zc0 q_36 q_37 q_4 (fun j hj => by rcases (show j = 0 ∨ j = 1 ∨ j = 2 by omega) with rfl | rfl | rfl <;> rfl) (Nat.le_of_ble_eq_true rfl) (Nat.le_of_ble_eq_true rfl) dX9_init_38 (fun H hR => ?_)
  refine W.widen (k := 4) (n := 12) (Nat.le_of_ble_eq_true rfl) (Nat.le_of_ble_eq_true rfl) ?_
  refine lv_dup hx hb dX9_init_41 rfl ?_
  obtain ⟨u42, h42, n42, hv42, hf⟩ := zz_b2_i hf
  refine zr_cI X hR hl.1 (As := []) (rest := [.ref n31, .ref a0]) (mt_Jx4a65c_init_da8c8 hT n31 (zz_u h34 n31 (.inr (0, [.int 0, .null, .int 0]))) (n31 + 1) hv42) mf_Jx4a65c_init_da8c8 rfl q_38 q_39 ⟨Nat.le_of_ble_eq_true rfl, Nat.le_of_ble_eq_true rfl⟩ ⟨Nat.le_of_ble_eq_true rfl, Nat.le_of_ble_eq_true rfl⟩ rfl (Nat.le_of_ble_eq_true rfl) dX9_init_42 (fun H locs hR => ?_)
  refine W.eq (g2 := F0 m 45 ls [.ref n31, .ref a0]) rfl ?_
  refine zr_pF X hR (r := (some a0)) (v := .ref n31) fl_X9_22 rfl hin rfl dX9_init_45 (zz_nr rfl (some n31)).1 (zz_nr rfl (some n31)).2 hf (fun h45 H locs hf hR => ?_)
  refine lv_aload_n hx hb dX9_init_48 rfl (lv_at hl 0 rfl) ?_
  refine zr_new X hR (fs := [.null]) zc5 q_62 q_63 q_5 (fun j hj => by rcases (show j = 0 by omega) with rfl <;> rfl) (Nat.le_of_ble_eq_true rfl) (Nat.le_of_ble_eq_true rfl) dX9_init_49 (fun H hR => ?_)
  refine W.widen (k := 5) (n := 13) (Nat.le_of_ble_eq_true rfl) (Nat.le_of_ble_eq_true rfl) ?_
  refine lv_dup hx hb dX9_init_52 rfl ?_
  obtain ⟨u53, h53, n53, hv53, hf⟩ := zz_b2_i hf
  refine zr_cIN X hR hl.1 (As := []) (rest := [.ref n42, .ref a0]) (mt_X4_init hT n42 (zz_u h45 n42 (.inr (5, [.null]))) (n42 + 1) hv53) mf_X4_init rfl q_64 q_65 ⟨Nat.le_of_ble_eq_true rfl, Nat.le_of_ble_eq_true rfl⟩ ⟨Nat.le_of_ble_eq_true rfl, Nat.le_of_ble_eq_true rfl⟩ rfl (Nat.le_of_ble_eq_true rfl) dX9_init_53 (fun H locs hR => ?_)
  refine W.eq (g2 := F0 m 56 ls [.ref n42, .ref a0]) rfl ?_
  refine W.widen (k := 6) (n := 69) (Nat.le_of_ble_eq_true rfl) (Nat.le_of_ble_eq_true rfl) ?_
  refine zr_pF X hR (r := (some a0)) (v := .ref n42) fl_X9_28 rfl hin rfl dX9_init_56 (zz_nr rfl (some n42)).1 (zz_nr rfl (some n42)).2 hf (fun h56 H locs hf hR => ?_)
  refine lv_aload_n hx hb dX9_init_59 rfl (lv_at hl 0 rfl) ?_
  refine zr_new X hR (fs := [.null]) zc5 q_62 q_63 q_5 (fun j hj => by rcases (show j = 0 by omega) with rfl <;> rfl) (Nat.le_of_ble_eq_true rfl) (Nat.le_of_ble_eq_true rfl) dX9_init_60 (fun H hR => ?_)
  refine W.widen (k := 7) (n := 70) (Nat.le_of_ble_eq_true rfl) (Nat.le_of_ble_eq_true rfl) ?_
  refine lv_dup hx hb dX9_init_63 rfl ?_
  obtain ⟨u64, h64, n64, hv64, hf⟩ := zz_b2_i hf
  refine zr_cIN X hR hl.1 (As := []) (rest := [.ref n53, .ref a0]) (mt_X4_init hT n53 (zz_u h56 n53 (.inr (5, [.null]))) (n53 + 1) hv64) mf_X4_init rfl q_64 q_65 ⟨Nat.le_of_ble_eq_true rfl, Nat.le_of_ble_eq_true rfl⟩ ⟨Nat.le_of_ble_eq_true rfl, Nat.le_of_ble_eq_true rfl⟩ rfl (Nat.le_of_ble_eq_true rfl) dX9_init_64 (fun H locs hR => ?_)
  refine W.eq (g2 := F0 m 67 ls [.ref n53, .ref a0]) rfl ?_
  refine W.widen (k := 8) (n := 126) (Nat.le_of_ble_eq_true rfl) (Nat.le_of_ble_eq_true rfl) ?_
  refine zr_pF X hR (r := (some a0)) (v := .ref n53) fl_X9_32 rfl hin rfl dX9_init_67 (zz_nr rfl (some n53)).1 (zz_nr rfl (some n53)).2 hf (fun h67 H locs hf hR => ?_)
  refine lv_iconst (v := (0 : Int32)) hx hb dX9_init_70 (by decide) ?_
  refine lv_istore_n (i := 1) (lv' := [(1, .int (0 : Int32)), (0, .ref a0)]) hx hb dX9_init_71 rfl hl (by decide) rfl (fun ls hl => ?_)
  refine lv_iload_n hx hb dX9_init_72 rfl (lv_at hl 0 rfl) ?_
  refine lv_iconst (v := (4 : Int32)) hx hb dX9_init_73 (by decide) ?_
  refine lv_icmp_ge (tgt := 98) hx hb dX9_init_74 (by decide) (fun c74 => ?_) (fun c74 => ?_)
  · replace hf := zz_pos c74 hf
    cases hf
    exact zr_vret X hR dX9_init_98 (Nat.le_of_ble_eq_true rfl) (Nat.le_of_ble_eq_true rfl)
  · replace hf := zz_neg c74 hf
    refine lv_aload_n hx hb dX9_init_77 rfl (lv_at hl 1 rfl) ?_
    refine zr_gq X hR (r := (some a0)) fl_X9_22 dX9_init_78 hf (fun v78 hf => ?_)
    refine zr_new X hR (fs := [.int 0, .int 0]) zc6 q_73 q_74 q_6 (fun j hj => by rcases (show j = 0 ∨ j = 1 by omega) with rfl | rfl <;> rfl) (Nat.le_of_ble_eq_true rfl) (Nat.le_of_ble_eq_true rfl) dX9_init_81 (fun H hR => ?_)
    refine W.widen (k := 9) (n := 128) (Nat.le_of_ble_eq_true rfl) (Nat.le_of_ble_eq_true rfl) ?_
    refine lv_dup hx hb dX9_init_84 rfl ?_
    obtain ⟨u85, h85_1, hv85, hf⟩ := zz_b1_i hf
    refine zr_cIN X hR hl.1 (As := []) (rest := [.ref n64, va_rf v78]) (mt_X5_init hT n64 (zz_u h67 n64 (.inr (6, [.int 0, .int 0]))) (n64 + 1) hv85) mf_X5_init rfl q_75 q_76 ⟨Nat.le_of_ble_eq_true rfl, Nat.le_of_ble_eq_true rfl⟩ ⟨Nat.le_of_ble_eq_true rfl, Nat.le_of_ble_eq_true rfl⟩ rfl (Nat.le_of_ble_eq_true rfl) dX9_init_85 (fun H locs hR => ?_)
    refine W.eq (g2 := F0 m 88 ls [.ref n64, va_rf v78]) rfl ?_
    obtain ⟨b88, fs88, hr88, ho88, hf⟩ := zz_ob_i hf
    obtain ⟨v88_1, h88_1, n88_1, hv88, hf⟩ := zz_b2_i hf
    refine zr_cV X hR hl.1 (As := [.ref n64]) (rest := []) (C := RJx4a65c) (T := TJx4a65c) (N := 3) (mt_Jx4a65c_add_9ea2d hT b88 (some n64) h85_1 (n64 + 1) hv88) rfl ho88 mf_Jx4a65c_add_9ea2d q_86 q_87 q_88 ⟨Nat.le_of_ble_eq_true rfl, Nat.le_of_ble_eq_true rfl⟩ ⟨Nat.le_of_ble_eq_true rfl, Nat.le_of_ble_eq_true rfl⟩ (by rw [hr88]; rfl) (Nat.le_of_ble_eq_true rfl) dX9_init_88 (fun H locs hR => ?_)
    refine W.eq (g2 := F0 m 91 ls [.int v88_1]) rfl ?_
    refine W.widen (k := 10) (n := 138) (Nat.le_of_ble_eq_true rfl) (Nat.le_of_ble_eq_true rfl) ?_
    refine lv_pop hx hb dX9_init_91 rfl ?_
    refine lv_iinc (i := 1) (v := ((0 : Int32) + (1 : Int32))) (lv' := [(1, .int ((0 : Int32) + (1 : Int32))), (0, .ref a0)]) hx hb dX9_init_92 hl (k := 0) rfl rfl (by decide) rfl (fun ls hl => ?_)
    refine lv_goto (tgt := 72) hx hb dX9_init_95 (by decide) ?_
    refine lv_iload_n hx hb dX9_init_72 rfl (lv_at hl 0 rfl) ?_
    refine lv_iconst (v := (4 : Int32)) hx hb dX9_init_73 (by decide) ?_
    refine lv_icmp_ge (tgt := 98) hx hb dX9_init_74 (by decide) (fun c74 => ?_) (fun c74 => ?_)
    · replace hf := zz_pos c74 hf
      cases hf
      exact zr_vret X hR dX9_init_98 (Nat.le_of_ble_eq_true rfl) (Nat.le_of_ble_eq_true rfl)
    · replace hf := zz_neg c74 hf
      refine lv_aload_n hx hb dX9_init_77 rfl (lv_at hl 1 rfl) ?_
      refine zr_gq X hR (r := (some a0)) fl_X9_22 dX9_init_78 hf (fun v78 hf => ?_)
      refine zr_new X hR (fs := [.int 0, .int 0]) zc6 q_73 q_74 q_6 (fun j hj => by rcases (show j = 0 ∨ j = 1 by omega) with rfl | rfl <;> rfl) (Nat.le_of_ble_eq_true rfl) (Nat.le_of_ble_eq_true rfl) dX9_init_81 (fun H hR => ?_)
      refine W.widen (k := 11) (n := 140) (Nat.le_of_ble_eq_true rfl) (Nat.le_of_ble_eq_true rfl) ?_
      refine lv_dup hx hb dX9_init_84 rfl ?_
      obtain ⟨u85, h85_3, hv85, hf⟩ := zz_b1_i hf
      refine zr_cIN X hR hl.1 (As := []) (rest := [.ref n88_1, va_rf v78]) (mt_X5_init hT n88_1 (zz_u h88_1 n88_1 (.inr (6, [.int 0, .int 0]))) (n88_1 + 1) hv85) mf_X5_init rfl q_75 q_76 ⟨Nat.le_of_ble_eq_true rfl, Nat.le_of_ble_eq_true rfl⟩ ⟨Nat.le_of_ble_eq_true rfl, Nat.le_of_ble_eq_true rfl⟩ rfl (Nat.le_of_ble_eq_true rfl) dX9_init_85 (fun H locs hR => ?_)
      refine W.eq (g2 := F0 m 88 ls [.ref n88_1, va_rf v78]) rfl ?_
      obtain ⟨b88, fs88, hr88, ho88, hf⟩ := zz_ob_i hf
      obtain ⟨v88_3, h88_3, n88_3, hv88, hf⟩ := zz_b2_i hf
      refine zr_cV X hR hl.1 (As := [.ref n88_1]) (rest := []) (C := RJx4a65c) (T := TJx4a65c) (N := 3) (mt_Jx4a65c_add_9ea2d hT b88 (some n88_1) h85_3 (n88_1 + 1) hv88) rfl ho88 mf_Jx4a65c_add_9ea2d q_86 q_87 q_88 ⟨Nat.le_of_ble_eq_true rfl, Nat.le_of_ble_eq_true rfl⟩ ⟨Nat.le_of_ble_eq_true rfl, Nat.le_of_ble_eq_true rfl⟩ (by rw [hr88]; rfl) (Nat.le_of_ble_eq_true rfl) dX9_init_88 (fun H locs hR => ?_)
      refine W.eq (g2 := F0 m 91 ls [.int v88_3]) rfl ?_
      refine W.widen (k := 12) (n := 150) (Nat.le_of_ble_eq_true rfl) (Nat.le_of_ble_eq_true rfl) ?_
      refine lv_pop hx hb dX9_init_91 rfl ?_
      refine lv_iinc (i := 1) (v := (((0 : Int32) + (1 : Int32)) + (1 : Int32))) (lv' := [(1, .int (((0 : Int32) + (1 : Int32)) + (1 : Int32))), (0, .ref a0)]) hx hb dX9_init_92 hl (k := 0) rfl rfl (by decide) rfl (fun ls hl => ?_)
      refine lv_goto (tgt := 72) hx hb dX9_init_95 (by decide) ?_
      refine lv_iload_n hx hb dX9_init_72 rfl (lv_at hl 0 rfl) ?_
      refine lv_iconst (v := (4 : Int32)) hx hb dX9_init_73 (by decide) ?_
      refine lv_icmp_ge (tgt := 98) hx hb dX9_init_74 (by decide) (fun c74 => ?_) (fun c74 => ?_)
      · replace hf := zz_pos c74 hf
        cases hf
        exact zr_vret X hR dX9_init_98 (Nat.le_of_ble_eq_true rfl) (Nat.le_of_ble_eq_true rfl)
      · replace hf := zz_neg c74 hf
        refine lv_aload_n hx hb dX9_init_77 rfl (lv_at hl 1 rfl) ?_
        refine zr_gq X hR (r := (some a0)) fl_X9_22 dX9_init_78 hf (fun v78 hf => ?_)
        refine zr_new X hR (fs := [.int 0, .int 0]) zc6 q_73 q_74 q_6 (fun j hj => by rcases (show j = 0 ∨ j = 1 by omega) with rfl | rfl <;> rfl) (Nat.le_of_ble_eq_true rfl) (Nat.le_of_ble_eq_true rfl) dX9_init_81 (fun H hR => ?_)
        refine W.widen (k := 13) (n := 152) (Nat.le_of_ble_eq_true rfl) (Nat.le_of_ble_eq_true rfl) ?_
        refine lv_dup hx hb dX9_init_84 rfl ?_
        obtain ⟨u85, h85_5, hv85, hf⟩ := zz_b1_i hf
        refine zr_cIN X hR hl.1 (As := []) (rest := [.ref n88_3, va_rf v78]) (mt_X5_init hT n88_3 (zz_u h88_3 n88_3 (.inr (6, [.int 0, .int 0]))) (n88_3 + 1) hv85) mf_X5_init rfl q_75 q_76 ⟨Nat.le_of_ble_eq_true rfl, Nat.le_of_ble_eq_true rfl⟩ ⟨Nat.le_of_ble_eq_true rfl, Nat.le_of_ble_eq_true rfl⟩ rfl (Nat.le_of_ble_eq_true rfl) dX9_init_85 (fun H locs hR => ?_)
        refine W.eq (g2 := F0 m 88 ls [.ref n88_3, va_rf v78]) rfl ?_
        obtain ⟨b88, fs88, hr88, ho88, hf⟩ := zz_ob_i hf
        obtain ⟨v88_5, h88_5, n88_5, hv88, hf⟩ := zz_b2_i hf
        refine zr_cV X hR hl.1 (As := [.ref n88_3]) (rest := []) (C := RJx4a65c) (T := TJx4a65c) (N := 3) (mt_Jx4a65c_add_9ea2d hT b88 (some n88_3) h85_5 (n88_3 + 1) hv88) rfl ho88 mf_Jx4a65c_add_9ea2d q_86 q_87 q_88 ⟨Nat.le_of_ble_eq_true rfl, Nat.le_of_ble_eq_true rfl⟩ ⟨Nat.le_of_ble_eq_true rfl, Nat.le_of_ble_eq_true rfl⟩ (by rw [hr88]; rfl) (Nat.le_of_ble_eq_true rfl) dX9_init_88 (fun H locs hR => ?_)
        refine W.eq (g2 := F0 m 91 ls [.int v88_5]) rfl ?_
        refine W.widen (k := 14) (n := 162) (Nat.le_of_ble_eq_true rfl) (Nat.le_of_ble_eq_true rfl) ?_
        refine lv_pop hx hb dX9_init_91 rfl ?_
        refine lv_iinc (i := 1) (v := ((((0 : Int32) + (1 : Int32)) + (1 : Int32)) + (1 : Int32))) (lv' := [(1, .int ((((0 : Int32) + (1 : Int32)) + (1 : Int32)) + (1 : Int32))), (0, .ref a0)]) hx hb dX9_init_92 hl (k := 0) rfl rfl (by decide) rfl (fun ls hl => ?_)
        refine lv_goto (tgt := 72) hx hb dX9_init_95 (by decide) ?_
        refine lv_iload_n hx hb dX9_init_72 rfl (lv_at hl 0 rfl) ?_
        refine lv_iconst (v := (4 : Int32)) hx hb dX9_init_73 (by decide) ?_
        refine lv_icmp_ge (tgt := 98) hx hb dX9_init_74 (by decide) (fun c74 => ?_) (fun c74 => ?_)
        · replace hf := zz_pos c74 hf
          cases hf
          exact zr_vret X hR dX9_init_98 (Nat.le_of_ble_eq_true rfl) (Nat.le_of_ble_eq_true rfl)
        · replace hf := zz_neg c74 hf
          refine lv_aload_n hx hb dX9_init_77 rfl (lv_at hl 1 rfl) ?_
          refine zr_gq X hR (r := (some a0)) fl_X9_22 dX9_init_78 hf (fun v78 hf => ?_)
          refine zr_new X hR (fs := [.int 0, .int 0]) zc6 q_73 q_74 q_6 (fun j hj => by rcases (show j = 0 ∨ j = 1 by omega) with rfl | rfl <;> rfl) (Nat.le_of_ble_eq_true rfl) (Nat.le_of_ble_eq_true rfl) dX9_init_81 (fun H hR => ?_)
          refine W.widen (k := 15) (n := 164) (Nat.le_of_ble_eq_true rfl) (Nat.le_of_ble_eq_true rfl) ?_
          refine lv_dup hx hb dX9_init_84 rfl ?_
          obtain ⟨u85, h85_7, hv85, hf⟩ := zz_b1_i hf
          refine zr_cIN X hR hl.1 (As := []) (rest := [.ref n88_5, va_rf v78]) (mt_X5_init hT n88_5 (zz_u h88_5 n88_5 (.inr (6, [.int 0, .int 0]))) (n88_5 + 1) hv85) mf_X5_init rfl q_75 q_76 ⟨Nat.le_of_ble_eq_true rfl, Nat.le_of_ble_eq_true rfl⟩ ⟨Nat.le_of_ble_eq_true rfl, Nat.le_of_ble_eq_true rfl⟩ rfl (Nat.le_of_ble_eq_true rfl) dX9_init_85 (fun H locs hR => ?_)
          refine W.eq (g2 := F0 m 88 ls [.ref n88_5, va_rf v78]) rfl ?_
          obtain ⟨b88, fs88, hr88, ho88, hf⟩ := zz_ob_i hf
          obtain ⟨v88_7, h88_7, n88_7, hv88, hf⟩ := zz_b2_i hf
          refine zr_cV X hR hl.1 (As := [.ref n88_5]) (rest := []) (C := RJx4a65c) (T := TJx4a65c) (N := 3) (mt_Jx4a65c_add_9ea2d hT b88 (some n88_5) h85_7 (n88_5 + 1) hv88) rfl ho88 mf_Jx4a65c_add_9ea2d q_86 q_87 q_88 ⟨Nat.le_of_ble_eq_true rfl, Nat.le_of_ble_eq_true rfl⟩ ⟨Nat.le_of_ble_eq_true rfl, Nat.le_of_ble_eq_true rfl⟩ (by rw [hr88]; rfl) (Nat.le_of_ble_eq_true rfl) dX9_init_88 (fun H locs hR => ?_)
          refine W.eq (g2 := F0 m 91 ls [.int v88_7]) rfl ?_
          refine W.widen (k := 16) (n := 174) (Nat.le_of_ble_eq_true rfl) (Nat.le_of_ble_eq_true rfl) ?_
          refine lv_pop hx hb dX9_init_91 rfl ?_
          refine lv_iinc (i := 1) (v := (((((0 : Int32) + (1 : Int32)) + (1 : Int32)) + (1 : Int32)) + (1 : Int32))) (lv' := [(1, .int (((((0 : Int32) + (1 : Int32)) + (1 : Int32)) + (1 : Int32)) + (1 : Int32))), (0, .ref a0)]) hx hb dX9_init_92 hl (k := 0) rfl rfl (by decide) rfl (fun ls hl => ?_)
          refine lv_goto (tgt := 72) hx hb dX9_init_95 (by decide) ?_
          refine lv_iload_n hx hb dX9_init_72 rfl (lv_at hl 0 rfl) ?_
          refine lv_iconst (v := (4 : Int32)) hx hb dX9_init_73 (by decide) ?_
          refine lv_icmp_ge (tgt := 98) hx hb dX9_init_74 (by decide) (fun c74 => ?_) (fun c74 => ?_)
          · replace hf := zz_pos c74 hf
            cases hf
            exact zr_vret X hR dX9_init_98 (Nat.le_of_ble_eq_true rfl) (Nat.le_of_ble_eq_true rfl)
          · replace hf := zz_neg c74 hf
            refine lv_aload_n hx hb dX9_init_77 rfl (lv_at hl 1 rfl) ?_
            refine zr_gq X hR (r := (some a0)) fl_X9_22 dX9_init_78 hf (fun v78 hf => ?_)
            refine zr_new X hR (fs := [.int 0, .int 0]) zc6 q_73 q_74 q_6 (fun j hj => by rcases (show j = 0 ∨ j = 1 by omega) with rfl | rfl <;> rfl) (Nat.le_of_ble_eq_true rfl) (Nat.le_of_ble_eq_true rfl) dX9_init_81 (fun H hR => ?_)
            refine W.widen (k := 17) (n := 176) (Nat.le_of_ble_eq_true rfl) (Nat.le_of_ble_eq_true rfl) ?_
            refine lv_dup hx hb dX9_init_84 rfl ?_
            obtain ⟨u85, h85_9, hv85, hf⟩ := zz_b1_i hf
            refine zr_cIN X hR hl.1 (As := []) (rest := [.ref n88_7, va_rf v78]) (mt_X5_init hT n88_7 (zz_u h88_7 n88_7 (.inr (6, [.int 0, .int 0]))) (n88_7 + 1) hv85) mf_X5_init rfl q_75 q_76 ⟨Nat.le_of_ble_eq_true rfl, Nat.le_of_ble_eq_true rfl⟩ ⟨Nat.le_of_ble_eq_true rfl, Nat.le_of_ble_eq_true rfl⟩ rfl (Nat.le_of_ble_eq_true rfl) dX9_init_85 (fun H locs hR => ?_)
            refine W.eq (g2 := F0 m 88 ls [.ref n88_7, va_rf v78]) rfl ?_
            obtain ⟨b88, fs88, hr88, ho88, hf⟩ := zz_ob_i hf
            obtain ⟨v88_9, h88_9, n88_9, hv88, hf⟩ := zz_b2_i hf
            refine zr_cV X hR hl.1 (As := [.ref n88_7]) (rest := []) (C := RJx4a65c) (T := TJx4a65c) (N := 3) (mt_Jx4a65c_add_9ea2d hT b88 (some n88_7) h85_9 (n88_7 + 1) hv88) rfl ho88 mf_Jx4a65c_add_9ea2d q_86 q_87 q_88 ⟨Nat.le_of_ble_eq_true rfl, Nat.le_of_ble_eq_true rfl⟩ ⟨Nat.le_of_ble_eq_true rfl, Nat.le_of_ble_eq_true rfl⟩ (by rw [hr88]; rfl) (Nat.le_of_ble_eq_true rfl) dX9_init_88 (fun H locs hR => ?_)
            refine W.eq (g2 := F0 m 91 ls [.int v88_9]) rfl ?_
            refine W.widen (k := 18) (n := 186) (Nat.le_of_ble_eq_true rfl) (Nat.le_of_ble_eq_true rfl) ?_
            refine lv_pop hx hb dX9_init_91 rfl ?_
            refine lv_iinc (i := 1) (v := ((((((0 : Int32) + (1 : Int32)) + (1 : Int32)) + (1 : Int32)) + (1 : Int32)) + (1 : Int32))) (lv' := [(1, .int ((((((0 : Int32) + (1 : Int32)) + (1 : Int32)) + (1 : Int32)) + (1 : Int32)) + (1 : Int32))), (0, .ref a0)]) hx hb dX9_init_92 hl (k := 0) rfl rfl (by decide) rfl (fun ls hl => ?_)
            refine lv_goto (tgt := 72) hx hb dX9_init_95 (by decide) ?_
            refine lv_iload_n hx hb dX9_init_72 rfl (lv_at hl 0 rfl) ?_
            refine lv_iconst (v := (4 : Int32)) hx hb dX9_init_73 (by decide) ?_
            refine lv_icmp_ge (tgt := 98) hx hb dX9_init_74 (by decide) (fun c74 => ?_) (fun c74 => ?_)
            · replace hf := zz_pos c74 hf
              cases hf
              exact zr_vret X hR dX9_init_98 (Nat.le_of_ble_eq_true rfl) (Nat.le_of_ble_eq_true rfl)
            · replace hf := zz_neg c74 hf
              refine lv_aload_n hx hb dX9_init_77 rfl (lv_at hl 1 rfl) ?_
              refine zr_gq X hR (r := (some a0)) fl_X9_22 dX9_init_78 hf (fun v78 hf => ?_)
              refine zr_new X hR (fs := [.int 0, .int 0]) zc6 q_73 q_74 q_6 (fun j hj => by rcases (show j = 0 ∨ j = 1 by omega) with rfl | rfl <;> rfl) (Nat.le_of_ble_eq_true rfl) (Nat.le_of_ble_eq_true rfl) dX9_init_81 (fun H hR => ?_)
              refine W.widen (k := 19) (n := 188) (Nat.le_of_ble_eq_true rfl) (Nat.le_of_ble_eq_true rfl) ?_
              refine lv_dup hx hb dX9_init_84 rfl ?_
              obtain ⟨u85, h85_11, hv85, hf⟩ := zz_b1_i hf
              refine zr_cIN X hR hl.1 (As := []) (rest := [.ref n88_9, va_rf v78]) (mt_X5_init hT n88_9 (zz_u h88_9 n88_9 (.inr (6, [.int 0, .int 0]))) (n88_9 + 1) hv85) mf_X5_init rfl q_75 q_76 ⟨Nat.le_of_ble_eq_true rfl, Nat.le_of_ble_eq_true rfl⟩ ⟨Nat.le_of_ble_eq_true rfl, Nat.le_of_ble_eq_true rfl⟩ rfl (Nat.le_of_ble_eq_true rfl) dX9_init_85 (fun H locs hR => ?_)
              refine W.eq (g2 := F0 m 88 ls [.ref n88_9, va_rf v78]) rfl ?_
              obtain ⟨b88, fs88, hr88, ho88, hf⟩ := zz_ob_i hf
              obtain ⟨v88_11, h88_11, n88_11, hv88, hf⟩ := zz_b2_i hf
              refine zr_cV X hR hl.1 (As := [.ref n88_9]) (rest := []) (C := RJx4a65c) (T := TJx4a65c) (N := 3) (mt_Jx4a65c_add_9ea2d hT b88 (some n88_9) h85_11 (n88_9 + 1) hv88) rfl ho88 mf_Jx4a65c_add_9ea2d q_86 q_87 q_88 ⟨Nat.le_of_ble_eq_true rfl, Nat.le_of_ble_eq_true rfl⟩ ⟨Nat.le_of_ble_eq_true rfl, Nat.le_of_ble_eq_true rfl⟩ (by rw [hr88]; rfl) (Nat.le_of_ble_eq_true rfl) dX9_init_88 (fun H locs hR => ?_)
              refine W.eq (g2 := F0 m 91 ls [.int v88_11]) rfl ?_
              refine W.widen (k := 20) (n := 198) (Nat.le_of_ble_eq_true rfl) (Nat.le_of_ble_eq_true rfl) ?_
              refine lv_pop hx hb dX9_init_91 rfl ?_
              refine lv_iinc (i := 1) (v := (((((((0 : Int32) + (1 : Int32)) + (1 : Int32)) + (1 : Int32)) + (1 : Int32)) + (1 : Int32)) + (1 : Int32))) (lv' := [(1, .int (((((((0 : Int32) + (1 : Int32)) + (1 : Int32)) + (1 : Int32)) + (1 : Int32)) + (1 : Int32)) + (1 : Int32))), (0, .ref a0)]) hx hb dX9_init_92 hl (k := 0) rfl rfl (by decide) rfl (fun ls hl => ?_)
              refine lv_goto (tgt := 72) hx hb dX9_init_95 (by decide) ?_
              refine lv_iload_n hx hb dX9_init_72 rfl (lv_at hl 0 rfl) ?_
              refine lv_iconst (v := (4 : Int32)) hx hb dX9_init_73 (by decide) ?_
              refine lv_icmp_ge (tgt := 98) hx hb dX9_init_74 (by decide) (fun c74 => ?_) (fun c74 => ?_)
              · replace hf := zz_pos c74 hf
                cases hf
                exact zr_vret X hR dX9_init_98 (Nat.le_of_ble_eq_true rfl) (Nat.le_of_ble_eq_true rfl)
              · replace hf := zz_neg c74 hf
                cases hf
end ZZM
