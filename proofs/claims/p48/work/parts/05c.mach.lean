section ZZM
def rm_X6_sinkingUnder : Room := { frames := 1, cells := 0, slots := 0, locals := 23 }
theorem mf_X6_sinkingUnder : zz_Mf yX6_sinkingUnder cX6_sinkingUnder 2 (some .int) 1 := ⟨q_469, q_26, by decide +kernel, by decide +kernel, by decide +kernel⟩
set_option maxHeartbeats 4000000 in
set_option maxRecDepth 100000 in
theorem mt_X6_sinkingUnder {D : va_G} {dA : Nat → ClassId} {base t0 : Nat} {l : Launch} (hT : l.stackTraces = false) (a0 : Nat) (x1 : Int32) (h : zz_H) (n : Nat) {r0 : Int32} (hf : f_X6_sinkingUnder a0 x1 h = some r0) : zz_M D dA base t0 l yX6_sinkingUnder cX6_sinkingUnder 2 (some .int) rm_X6_sinkingUnder [.ref a0, .int x1] h n (some (.int r0)) h n := by
  refine Met.ofW (cc := cX6_sinkingUnder) (maxL := 2) (ret := (some .int)) (by decide +kernel) rfl ?_
  intro p e s m args below meth c s₁ B hml hv
  obtain ⟨rfl, hP, hK⟩ := hv
  have X : zz_X D dA base t0 "Springseat$Layer" cX6_sinkingUnder 2 (some .int) l p s m meth c := ⟨B.exec, B.bytes, hml, B.returns, findClass_of_methodNamed B.named, B.notSynchronized, hT, by rw [hP.1]; exact hP.2.1, hK⟩
  have hx := X.1
  have hb := X.2.1
  have hown := X.2.2.2.2.1
  have hR : zz_R D dA base h n s s.heap [] := ⟨hP, va_S.rf⟩
  have hl := lv_entry ([.ref a0, .int x1]) (n := 2) (by exact Nat.le_of_ble_eq_true rfl)
  rw [lg_entry_eq]
  generalize (lg_sl ([.ref a0, .int x1]) ++ List.replicate (2 - (lg_sl ([.ref a0, .int x1])).length) Slot.unset).toArray = ls at hl ⊢
  have hl : lv_has ls 2 [(0, .ref a0), (1, .int x1)] := hl
  unfold f_X6_sinkingUnder at hf
  refine lv_aload_n hx hb dX6_sinkingUnder_0 rfl (lv_at hl 0 rfl) ?_
  refine zr_gi X hR (r := (some a0)) fl_X6_22 dX6_sinkingUnder_1 hf (fun v1 hf => ?_)
  refine lv_iload_n hx hb dX6_sinkingUnder_4 rfl (lv_at hl 1 rfl) ?_
  refine lv_aload_n hx hb dX6_sinkingUnder_5 rfl (lv_at hl 0 rfl) ?_
  refine zr_gi X hR (r := (some a0)) fl_X6_22 dX6_sinkingUnder_6 hf (fun v6 hf => ?_)
  refine lv_imul hx hb dX6_sinkingUnder_9 ?_
  refine lv_i2l hx hb dX6_sinkingUnder_10 rfl ?_
  refine lv_bipush (v := (20 : Int32)) hx hb dX6_sinkingUnder_11 (by decide) ?_
  refine lv_aload_n hx hb dX6_sinkingUnder_13 rfl (lv_at hl 0 rfl) ?_
  refine zr_gi X hR (r := (some a0)) fl_X6_19 dX6_sinkingUnder_14 hf (fun v14 hf => ?_)
  refine lv_imul hx hb dX6_sinkingUnder_17 ?_
  refine lv_i2l hx hb dX6_sinkingUnder_18 rfl ?_
  obtain ⟨v19, hv19, hf⟩ := zz_b_i hf
  refine zr_cSN X hR hl.1 (As := [.long ((x1 * v6)).toInt64, .long (((20 : Int32) * v14)).toInt64]) (rest := [.int v1]) (mt_X9_quotient hT (((x1 * v6)).toInt64) ((((20 : Int32) * v14)).toInt64) h n hv19) mf_X9_quotient q_470 q_460 ⟨Nat.le_of_ble_eq_true rfl, Nat.le_of_ble_eq_true rfl⟩ ⟨Nat.le_of_ble_eq_true rfl, Nat.le_of_ble_eq_true rfl⟩ rfl (Nat.le_of_ble_eq_true rfl) dX6_sinkingUnder_19 (fun H locs hR => ?_)
  refine W.eq (g2 := F0 m 22 ls [.int v19, .int v1]) rfl ?_
  refine zr_min X hl.1 q_471 q_142 q_8 q_143 (Nat.le_of_ble_eq_true rfl) ⟨Nat.le_of_ble_eq_true rfl, Nat.le_of_ble_eq_true rfl⟩ ⟨Nat.le_of_ble_eq_true rfl, Nat.le_of_ble_eq_true rfl⟩ dX6_sinkingUnder_22 ?_
  refine W.eq (g2 := F0 m 25 ls [.int (zz_min v1 v19)]) rfl ?_
  cases hf
  exact zr_iret X hR dX6_sinkingUnder_25 (Nat.le_of_ble_eq_true rfl) (Nat.le_of_ble_eq_true rfl)
def rm_X2_sinkingUnder : Room := { frames := 3, cells := 0, slots := 0, locals := 64 }
theorem mf_X2_sinkingUnder : zz_Mf yX2_sinkingUnder cX2_sinkingUnder 4 (some .int) 1 := ⟨q_465, q_18, by decide +kernel, by decide +kernel, by decide +kernel⟩
set_option maxHeartbeats 4000000 in
set_option maxRecDepth 100000 in
theorem bk_X2_sinkingUnder_4 {D : va_G} {dA : Nat → ClassId} {base t0 : Nat} {l : Launch} {p : Program} {e : Env} {s : State} {m : MethodId} {args : Array Value} {below : List Frame} {meth : Method} {c : Code} (X : zz_X D dA base t0 "Springseat$Filling" cX2_sinkingUnder 4 (some .int) l p s m meth c) (hT : l.stackTraces = false) {a0 : Nat} {x1 : Int32} {x2 : Int32} {x3 : Int32} {h : zz_H} {n : Nat} {H : Heap} {locs : List Loc} {ls : Array Slot} (hR : zz_R D dA base h n s H locs) (hl : lv_has ls 4 [(0, .ref a0), (1, .int x1), (2, .int x2), (3, .int x3)]) {r0 : Int32} {o : ((Int32 × Int32) ⊕ Int32)} (hf : f_X2_sinkingUnder_4 a0 x1 x2 x3 h = some o) (k0 : ∀ (w2 : Int32) (w3 : Int32), o = (.inl (w2, w3)) → ∀ {H : Heap} {locs : List Loc} {ls : Array Slot}, zz_R D dA base h n s H locs → lv_has ls 4 [(0, .ref a0), (1, .int x1), (2, .int w2), (3, .int w3)] → W p l e rm_X2_sinkingUnder s m args below meth c H locs 0 0 (MQ below (zz_Qc D dA base (some (.int r0)) h n) args s rm_X2_sinkingUnder.cells rm_X2_sinkingUnder.slots (fun q => base ≤ q)) (F0 m 4 ls [])) (hret : ∀ r, o = (.inr r) → r = r0) : W p l e rm_X2_sinkingUnder s m args below meth c H locs 0 0 (MQ below (zz_Qc D dA base (some (.int r0)) h n) args s rm_X2_sinkingUnder.cells rm_X2_sinkingUnder.slots (fun q => base ≤ q)) (F0 m 4 ls []) := by
  have hx := X.1
  have hb := X.2.1
  have hown := X.2.2.2.2.1
  unfold f_X2_sinkingUnder_4 at hf
  refine lv_iload_n hx hb dX2_sinkingUnder_4 rfl (lv_at hl 3 rfl) ?_
  refine lv_aload_n hx hb dX2_sinkingUnder_5 rfl (lv_at hl 0 rfl) ?_
  refine zr_gq X hR (r := (some a0)) fl_X2_12 dX2_sinkingUnder_6 hf (fun v6 hf => ?_)
  obtain ⟨b9, fs9, hr9, ho9, hf⟩ := zz_ob_i hf
  obtain ⟨v9, hv9, hf⟩ := zz_b_i hf
  refine zr_cV X hR hl.1 (As := []) (rest := [.int x3]) (C := RJx4a65c) (T := TJx4a65c) (N := 3) (mt_Jx4a65c_size_8abf5 hT b9 h n hv9) rfl ho9 mf_Jx4a65c_size_8abf5 q_352 q_177 q_178 ⟨Nat.le_of_ble_eq_true rfl, Nat.le_of_ble_eq_true rfl⟩ ⟨Nat.le_of_ble_eq_true rfl, Nat.le_of_ble_eq_true rfl⟩ (by rw [hr9]; rfl) (Nat.le_of_ble_eq_true rfl) dX2_sinkingUnder_9 (fun H locs hR => ?_)
  refine W.eq (g2 := F0 m 12 ls [.int v9, .int x3]) rfl ?_
  refine lv_icmp_ge (tgt := 39) hx hb dX2_sinkingUnder_12 (by decide) (fun c12 => ?_) (fun c12 => ?_)
  · replace hf := zz_pos c12 hf
    refine lv_iload_n hx hb dX2_sinkingUnder_39 rfl (lv_at hl 2 rfl) ?_
    cases hf
    cases hret _ rfl
    exact zr_iret X hR dX2_sinkingUnder_40 (Nat.le_of_ble_eq_true rfl) (Nat.le_of_ble_eq_true rfl)
  · replace hf := zz_neg c12 hf
    refine lv_iload_n hx hb dX2_sinkingUnder_15 rfl (lv_at hl 2 rfl) ?_
    refine lv_aload_n hx hb dX2_sinkingUnder_16 rfl (lv_at hl 0 rfl) ?_
    refine zr_gq X hR (r := (some a0)) fl_X2_12 dX2_sinkingUnder_17 hf (fun v17 hf => ?_)
    refine lv_iload_n hx hb dX2_sinkingUnder_20 rfl (lv_at hl 3 rfl) ?_
    obtain ⟨b21, fs21, hr21, ho21, hf⟩ := zz_ob_i hf
    obtain ⟨v21, hv21, hf⟩ := zz_b_i hf
    refine zr_cV X hR hl.1 (As := [.int x3]) (rest := [.int x2]) (C := RJx4a65c) (T := TJx4a65c) (N := 3) (mt_Jx4a65c_get_915e3 hT b21 x3 h n hv21) rfl ho21 mf_Jx4a65c_get_915e3 q_353 q_254 q_255 ⟨Nat.le_of_ble_eq_true rfl, Nat.le_of_ble_eq_true rfl⟩ ⟨Nat.le_of_ble_eq_true rfl, Nat.le_of_ble_eq_true rfl⟩ (by rw [hr21]; rfl) (Nat.le_of_ble_eq_true rfl) dX2_sinkingUnder_21 (fun H locs hR => ?_)
    refine W.eq (g2 := F0 m 24 ls [va_rf v21, .int x2]) rfl ?_
    refine zr_cc X hR (ci := 7) (C := RX6) (T := TX6) (N := 6) (r := v21) rfl q_354 (Or.inr trivial) dX2_sinkingUnder_24 hf (fun hf => ?_)
    refine lv_iload_n hx hb dX2_sinkingUnder_27 rfl (lv_at hl 1 rfl) ?_
    obtain ⟨b28, fs28, hr28, ho28, hf⟩ := zz_ob_i hf
    obtain ⟨v28, hv28, hf⟩ := zz_b_i hf
    refine zr_cV X hR hl.1 (As := [.int x1]) (rest := [.int x2]) (C := RX6) (T := TX6) (N := 6) (mt_X6_sinkingUnder hT b28 x1 h n hv28) rfl ho28 mf_X6_sinkingUnder q_466 q_467 q_468 ⟨Nat.le_of_ble_eq_true rfl, Nat.le_of_ble_eq_true rfl⟩ ⟨Nat.le_of_ble_eq_true rfl, Nat.le_of_ble_eq_true rfl⟩ (by rw [hr28]; rfl) (Nat.le_of_ble_eq_true rfl) dX2_sinkingUnder_28 (fun H locs hR => ?_)
    refine W.eq (g2 := F0 m 31 ls [.int v28, .int x2]) rfl ?_
    refine lv_iadd hx hb dX2_sinkingUnder_31 ?_
    refine lv_istore_n (i := 2) (lv' := [(2, .int (x2 + v28)), (0, .ref a0), (1, .int x1), (3, .int x3)]) hx hb dX2_sinkingUnder_32 rfl hl (by decide) rfl (fun ls hl => ?_)
    refine lv_iinc (i := 3) (v := (x3 + (1 : Int32))) (lv' := [(3, .int (x3 + (1 : Int32))), (2, .int (x2 + v28)), (0, .ref a0), (1, .int x1)]) hx hb dX2_sinkingUnder_33 hl (k := 3) rfl rfl (by decide) rfl (fun ls hl => ?_)
    refine lv_goto (tgt := 4) hx hb dX2_sinkingUnder_36 (by decide) ?_
    cases hf
    exact k0 _ _ rfl hR (lv_sub hl [2, 3, 1, 0] rfl)
set_option maxHeartbeats 4000000 in
set_option maxRecDepth 100000 in
theorem lp_X2_sinkingUnder_4 {D : va_G} {dA : Nat → ClassId} {base t0 : Nat} {l : Launch} {p : Program} {e : Env} {s : State} {m : MethodId} {args : Array Value} {below : List Frame} {meth : Method} {c : Code} (X : zz_X D dA base t0 "Springseat$Filling" cX2_sinkingUnder 4 (some .int) l p s m meth c) (hT : l.stackTraces = false) (a0 : Nat) (x1 : Int32) {h : zz_H} {n : Nat} {r0 : Int32} : ∀ (k : Nat) (x2 : Int32) (x3 : Int32), zz_it (fun s : (Int32 × Int32) => f_X2_sinkingUnder_4 a0 x1 s.1 s.2 h) k (x2, x3) = some r0 → ∀ {H : Heap} {locs : List Loc} {ls : Array Slot}, zz_R D dA base h n s H locs → lv_has ls 4 [(0, .ref a0), (1, .int x1), (2, .int x2), (3, .int x3)] → W p l e rm_X2_sinkingUnder s m args below meth c H locs 0 0 (MQ below (zz_Qc D dA base (some (.int r0)) h n) args s rm_X2_sinkingUnder.cells rm_X2_sinkingUnder.slots (fun q => base ≤ q)) (F0 m 4 ls []) := by
  intro k
  induction k with
  | zero => intro x2 x3 hf; cases hf
  | succ k ih =>
    intro x2 x3 hf H locs ls hR hl
    rcases zz_it_s hf with ⟨⟨y0, y1⟩, h1, h2⟩ | h1
    · exact bk_X2_sinkingUnder_4 (r0 := r0) X hT hR hl h1  (fun z0 z1 e => by cases e; exact ih _ _ h2) (fun r e => by cases e)
    · exact bk_X2_sinkingUnder_4 (r0 := r0) X hT hR hl h1  (fun z0 z1 e => by cases e) (fun r e => (Sum.inr.inj e).symm)
set_option maxHeartbeats 4000000 in
set_option maxRecDepth 100000 in
theorem mt_X2_sinkingUnder {D : va_G} {dA : Nat → ClassId} {base t0 : Nat} {l : Launch} (hT : l.stackTraces = false) (a0 : Nat) (x1 : Int32) (h : zz_H) (n : Nat) {r0 : Int32} (hf : f_X2_sinkingUnder a0 x1 h = some r0) : zz_M D dA base t0 l yX2_sinkingUnder cX2_sinkingUnder 4 (some .int) rm_X2_sinkingUnder [.ref a0, .int x1] h n (some (.int r0)) h n := by
  refine Met.ofW (cc := cX2_sinkingUnder) (maxL := 4) (ret := (some .int)) (by decide +kernel) rfl ?_
  intro p e s m args below meth c s₁ B hml hv
  obtain ⟨rfl, hP, hK⟩ := hv
  have X : zz_X D dA base t0 "Springseat$Filling" cX2_sinkingUnder 4 (some .int) l p s m meth c := ⟨B.exec, B.bytes, hml, B.returns, findClass_of_methodNamed B.named, B.notSynchronized, hT, by rw [hP.1]; exact hP.2.1, hK⟩
  have hx := X.1
  have hb := X.2.1
  have hown := X.2.2.2.2.1
  have hR : zz_R D dA base h n s s.heap [] := ⟨hP, va_S.rf⟩
  have hl := lv_entry ([.ref a0, .int x1]) (n := 4) (by exact Nat.le_of_ble_eq_true rfl)
  rw [lg_entry_eq]
  generalize (lg_sl ([.ref a0, .int x1]) ++ List.replicate (4 - (lg_sl ([.ref a0, .int x1])).length) Slot.unset).toArray = ls at hl ⊢
  have hl : lv_has ls 4 [(0, .ref a0), (1, .int x1)] := hl
  unfold f_X2_sinkingUnder at hf
  refine lv_iconst (v := (0 : Int32)) hx hb dX2_sinkingUnder_0 (by decide) ?_
  refine lv_istore_n (i := 2) (lv' := [(2, .int (0 : Int32)), (0, .ref a0), (1, .int x1)]) hx hb dX2_sinkingUnder_1 rfl hl (by decide) rfl (fun ls hl => ?_)
  refine lv_iconst (v := (0 : Int32)) hx hb dX2_sinkingUnder_2 (by decide) ?_
  refine lv_istore_n (i := 3) (lv' := [(3, .int (0 : Int32)), (2, .int (0 : Int32)), (0, .ref a0), (1, .int x1)]) hx hb dX2_sinkingUnder_3 rfl hl (by decide) rfl (fun ls hl => ?_)
  exact lp_X2_sinkingUnder_4 X hT a0 x1 zz_F _ _ hf hR (lv_sub hl [2, 3, 1, 0] rfl)
def rm_X6_price : Room := { frames := 0, cells := 0, slots := 0, locals := 0 }
theorem mf_X6_price : zz_Mf yX6_price cX6_price 1 (some .int) 0 := ⟨q_994, q_26, by decide +kernel, by decide +kernel, by decide +kernel⟩
set_option maxHeartbeats 4000000 in
set_option maxRecDepth 100000 in
theorem bk_X6_price_31 {D : va_G} {dA : Nat → ClassId} {base t0 : Nat} {l : Launch} {p : Program} {e : Env} {s : State} {m : MethodId} {args : Array Value} {below : List Frame} {meth : Method} {c : Code} (X : zz_X D dA base t0 "Springseat$Layer" cX6_price 1 (some .int) l p s m meth c) (hT : l.stackTraces = false) {s0 : Int32} {s1 : Int32} {h : zz_H} {n : Nat} {H : Heap} {locs : List Loc} {ls : Array Slot} (hR : zz_R D dA base h n s H locs) (hl : lv_has ls 1 []) {r0 : Int32} (hf : f_X6_price_31 s0 s1 h = some r0) : W p l e rm_X6_price s m args below meth c H locs 0 0 (MQ below (zz_Qc D dA base (some (.int r0)) h n) args s rm_X6_price.cells rm_X6_price.slots (fun q => base ≤ q)) (F0 m 31 ls [.int s0, .int s1]) := by
  have hx := X.1
  have hb := X.2.1
  have hown := X.2.2.2.2.1
  unfold f_X6_price_31 at hf
  refine lv_imul hx hb dX6_price_31 ?_
  cases hf
  exact zr_iret X hR dX6_price_32 (Nat.le_of_ble_eq_true rfl) (Nat.le_of_ble_eq_true rfl)
set_option maxHeartbeats 4000000 in
set_option maxRecDepth 100000 in
theorem mt_X6_price {D : va_G} {dA : Nat → ClassId} {base t0 : Nat} {l : Launch} (hT : l.stackTraces = false) (a0 : Nat) (h : zz_H) (n : Nat) {r0 : Int32} (hf : f_X6_price a0 h = some r0) : zz_M D dA base t0 l yX6_price cX6_price 1 (some .int) rm_X6_price [.ref a0] h n (some (.int r0)) h n := by
  refine Met.ofW (cc := cX6_price) (maxL := 1) (ret := (some .int)) (by decide +kernel) rfl ?_
  intro p e s m args below meth c s₁ B hml hv
  obtain ⟨rfl, hP, hK⟩ := hv
  have X : zz_X D dA base t0 "Springseat$Layer" cX6_price 1 (some .int) l p s m meth c := ⟨B.exec, B.bytes, hml, B.returns, findClass_of_methodNamed B.named, B.notSynchronized, hT, by rw [hP.1]; exact hP.2.1, hK⟩
  have hx := X.1
  have hb := X.2.1
  have hown := X.2.2.2.2.1
  have hR : zz_R D dA base h n s s.heap [] := ⟨hP, va_S.rf⟩
  have hl := lv_entry ([.ref a0]) (n := 1) (by exact Nat.le_of_ble_eq_true rfl)
  rw [lg_entry_eq]
  generalize (lg_sl ([.ref a0]) ++ List.replicate (1 - (lg_sl ([.ref a0])).length) Slot.unset).toArray = ls at hl ⊢
  have hl : lv_has ls 1 [(0, .ref a0)] := hl
  unfold f_X6_price at hf
  refine lv_aload_n hx hb dX6_price_0 rfl (lv_at hl 0 rfl) ?_
  refine zr_gi X hR (r := (some a0)) fl_X6_15 dX6_price_1 hf (fun v1 hf => ?_)
  refine lv_aload_n hx hb dX6_price_4 rfl (lv_at hl 0 rfl) ?_
  refine zr_gi X hR (r := (some a0)) fl_X6_9 dX6_price_5 hf (fun v5 hf => ?_)
  refine lv_bipush (v := (104 : Int32)) hx hb dX6_price_8 (by decide) ?_
  refine lv_icmp_ne (tgt := 17) hx hb dX6_price_10 (by decide) (fun c10 => ?_) (fun c10 => ?_)
  · replace hf := zz_neg c10 hf
    refine lv_aload_n hx hb dX6_price_17 rfl (lv_at hl 0 rfl) ?_
    refine zr_gi X hR (r := (some a0)) fl_X6_9 dX6_price_18 hf (fun v18 hf => ?_)
    refine lv_bipush (v := (102 : Int32)) hx hb dX6_price_21 (by decide) ?_
    refine lv_icmp_ne (tgt := 30) hx hb dX6_price_23 (by decide) (fun c23 => ?_) (fun c23 => ?_)
    · replace hf := zz_neg c23 hf
      refine lv_iconst (v := (1 : Int32)) hx hb dX6_price_30 (by decide) ?_
      exact bk_X6_price_31 X hT hR (lv_sub hl [] rfl) hf
    · replace hf := zz_pos c23 hf
      refine lv_iconst (v := (2 : Int32)) hx hb dX6_price_26 (by decide) ?_
      refine lv_goto (tgt := 31) hx hb dX6_price_27 (by decide) ?_
      exact bk_X6_price_31 X hT hR (lv_sub hl [] rfl) hf
  · replace hf := zz_pos c10 hf
    refine lv_iconst (v := (3 : Int32)) hx hb dX6_price_13 (by decide) ?_
    refine lv_goto (tgt := 31) hx hb dX6_price_14 (by decide) ?_
    exact bk_X6_price_31 X hT hR (lv_sub hl [] rfl) hf
def rm_X2_price : Room := { frames := 3, cells := 0, slots := 0, locals := 64 }
theorem mf_X2_price : zz_Mf yX2_price cX2_price 3 (some .int) 0 := ⟨q_990, q_18, by decide +kernel, by decide +kernel, by decide +kernel⟩
set_option maxHeartbeats 4000000 in
set_option maxRecDepth 100000 in
theorem bk_X2_price_4 {D : va_G} {dA : Nat → ClassId} {base t0 : Nat} {l : Launch} {p : Program} {e : Env} {s : State} {m : MethodId} {args : Array Value} {below : List Frame} {meth : Method} {c : Code} (X : zz_X D dA base t0 "Springseat$Filling" cX2_price 3 (some .int) l p s m meth c) (hT : l.stackTraces = false) {a0 : Nat} {x1 : Int32} {x2 : Int32} {h : zz_H} {n : Nat} {H : Heap} {locs : List Loc} {ls : Array Slot} (hR : zz_R D dA base h n s H locs) (hl : lv_has ls 3 [(0, .ref a0), (1, .int x1), (2, .int x2)]) {r0 : Int32} {o : ((Int32 × Int32) ⊕ Int32)} (hf : f_X2_price_4 a0 x1 x2 h = some o) (k0 : ∀ (w1 : Int32) (w2 : Int32), o = (.inl (w1, w2)) → ∀ {H : Heap} {locs : List Loc} {ls : Array Slot}, zz_R D dA base h n s H locs → lv_has ls 3 [(0, .ref a0), (1, .int w1), (2, .int w2)] → W p l e rm_X2_price s m args below meth c H locs 0 0 (MQ below (zz_Qc D dA base (some (.int r0)) h n) args s rm_X2_price.cells rm_X2_price.slots (fun q => base ≤ q)) (F0 m 4 ls [])) (hret : ∀ r, o = (.inr r) → r = r0) : W p l e rm_X2_price s m args below meth c H locs 0 0 (MQ below (zz_Qc D dA base (some (.int r0)) h n) args s rm_X2_price.cells rm_X2_price.slots (fun q => base ≤ q)) (F0 m 4 ls []) := by
  have hx := X.1
  have hb := X.2.1
  have hown := X.2.2.2.2.1
  unfold f_X2_price_4 at hf
  refine lv_iload_n hx hb dX2_price_4 rfl (lv_at hl 2 rfl) ?_
  refine lv_aload_n hx hb dX2_price_5 rfl (lv_at hl 0 rfl) ?_
  refine zr_gq X hR (r := (some a0)) fl_X2_12 dX2_price_6 hf (fun v6 hf => ?_)
  obtain ⟨b9, fs9, hr9, ho9, hf⟩ := zz_ob_i hf
  obtain ⟨v9, hv9, hf⟩ := zz_b_i hf
  refine zr_cV X hR hl.1 (As := []) (rest := [.int x2]) (C := RJx4a65c) (T := TJx4a65c) (N := 3) (mt_Jx4a65c_size_8abf5 hT b9 h n hv9) rfl ho9 mf_Jx4a65c_size_8abf5 q_352 q_177 q_178 ⟨Nat.le_of_ble_eq_true rfl, Nat.le_of_ble_eq_true rfl⟩ ⟨Nat.le_of_ble_eq_true rfl, Nat.le_of_ble_eq_true rfl⟩ (by rw [hr9]; rfl) (Nat.le_of_ble_eq_true rfl) dX2_price_9 (fun H locs hR => ?_)
  refine W.eq (g2 := F0 m 12 ls [.int v9, .int x2]) rfl ?_
  refine lv_icmp_ge (tgt := 38) hx hb dX2_price_12 (by decide) (fun c12 => ?_) (fun c12 => ?_)
  · replace hf := zz_pos c12 hf
    refine lv_iload_n hx hb dX2_price_38 rfl (lv_at hl 1 rfl) ?_
    cases hf
    cases hret _ rfl
    exact zr_iret X hR dX2_price_39 (Nat.le_of_ble_eq_true rfl) (Nat.le_of_ble_eq_true rfl)
  · replace hf := zz_neg c12 hf
    refine lv_iload_n hx hb dX2_price_15 rfl (lv_at hl 1 rfl) ?_
    refine lv_aload_n hx hb dX2_price_16 rfl (lv_at hl 0 rfl) ?_
    refine zr_gq X hR (r := (some a0)) fl_X2_12 dX2_price_17 hf (fun v17 hf => ?_)
    refine lv_iload_n hx hb dX2_price_20 rfl (lv_at hl 2 rfl) ?_
    obtain ⟨b21, fs21, hr21, ho21, hf⟩ := zz_ob_i hf
    obtain ⟨v21, hv21, hf⟩ := zz_b_i hf
    refine zr_cV X hR hl.1 (As := [.int x2]) (rest := [.int x1]) (C := RJx4a65c) (T := TJx4a65c) (N := 3) (mt_Jx4a65c_get_915e3 hT b21 x2 h n hv21) rfl ho21 mf_Jx4a65c_get_915e3 q_353 q_254 q_255 ⟨Nat.le_of_ble_eq_true rfl, Nat.le_of_ble_eq_true rfl⟩ ⟨Nat.le_of_ble_eq_true rfl, Nat.le_of_ble_eq_true rfl⟩ (by rw [hr21]; rfl) (Nat.le_of_ble_eq_true rfl) dX2_price_21 (fun H locs hR => ?_)
    refine W.eq (g2 := F0 m 24 ls [va_rf v21, .int x1]) rfl ?_
    refine zr_cc X hR (ci := 7) (C := RX6) (T := TX6) (N := 6) (r := v21) rfl q_354 (Or.inr trivial) dX2_price_24 hf (fun hf => ?_)
    obtain ⟨b27, fs27, hr27, ho27, hf⟩ := zz_ob_i hf
    obtain ⟨v27, hv27, hf⟩ := zz_b_i hf
    refine zr_cV X hR hl.1 (As := []) (rest := [.int x1]) (C := RX6) (T := TX6) (N := 6) (mt_X6_price hT b27 h n hv27) rfl ho27 mf_X6_price q_991 q_992 q_993 ⟨Nat.le_of_ble_eq_true rfl, Nat.le_of_ble_eq_true rfl⟩ ⟨Nat.le_of_ble_eq_true rfl, Nat.le_of_ble_eq_true rfl⟩ (by rw [hr27]; rfl) (Nat.le_of_ble_eq_true rfl) dX2_price_27 (fun H locs hR => ?_)
    refine W.eq (g2 := F0 m 30 ls [.int v27, .int x1]) rfl ?_
    refine lv_iadd hx hb dX2_price_30 ?_
    refine lv_istore_n (i := 1) (lv' := [(1, .int (x1 + v27)), (0, .ref a0), (2, .int x2)]) hx hb dX2_price_31 rfl hl (by decide) rfl (fun ls hl => ?_)
    refine lv_iinc (i := 2) (v := (x2 + (1 : Int32))) (lv' := [(2, .int (x2 + (1 : Int32))), (1, .int (x1 + v27)), (0, .ref a0)]) hx hb dX2_price_32 hl (k := 2) rfl rfl (by decide) rfl (fun ls hl => ?_)
    refine lv_goto (tgt := 4) hx hb dX2_price_35 (by decide) ?_
    cases hf
    exact k0 _ _ rfl hR (lv_sub hl [2, 1, 0] rfl)
set_option maxHeartbeats 4000000 in
set_option maxRecDepth 100000 in
theorem lp_X2_price_4 {D : va_G} {dA : Nat → ClassId} {base t0 : Nat} {l : Launch} {p : Program} {e : Env} {s : State} {m : MethodId} {args : Array Value} {below : List Frame} {meth : Method} {c : Code} (X : zz_X D dA base t0 "Springseat$Filling" cX2_price 3 (some .int) l p s m meth c) (hT : l.stackTraces = false) (a0 : Nat) {h : zz_H} {n : Nat} {r0 : Int32} : ∀ (k : Nat) (x1 : Int32) (x2 : Int32), zz_it (fun s : (Int32 × Int32) => f_X2_price_4 a0 s.1 s.2 h) k (x1, x2) = some r0 → ∀ {H : Heap} {locs : List Loc} {ls : Array Slot}, zz_R D dA base h n s H locs → lv_has ls 3 [(0, .ref a0), (1, .int x1), (2, .int x2)] → W p l e rm_X2_price s m args below meth c H locs 0 0 (MQ below (zz_Qc D dA base (some (.int r0)) h n) args s rm_X2_price.cells rm_X2_price.slots (fun q => base ≤ q)) (F0 m 4 ls []) := by
  intro k
  induction k with
  | zero => intro x1 x2 hf; cases hf
  | succ k ih =>
    intro x1 x2 hf H locs ls hR hl
    rcases zz_it_s hf with ⟨⟨y0, y1⟩, h1, h2⟩ | h1
    · exact bk_X2_price_4 (r0 := r0) X hT hR hl h1  (fun z0 z1 e => by cases e; exact ih _ _ h2) (fun r e => by cases e)
    · exact bk_X2_price_4 (r0 := r0) X hT hR hl h1  (fun z0 z1 e => by cases e) (fun r e => (Sum.inr.inj e).symm)
set_option maxHeartbeats 4000000 in
set_option maxRecDepth 100000 in
theorem mt_X2_price {D : va_G} {dA : Nat → ClassId} {base t0 : Nat} {l : Launch} (hT : l.stackTraces = false) (a0 : Nat) (h : zz_H) (n : Nat) {r0 : Int32} (hf : f_X2_price a0 h = some r0) : zz_M D dA base t0 l yX2_price cX2_price 3 (some .int) rm_X2_price [.ref a0] h n (some (.int r0)) h n := by
  refine Met.ofW (cc := cX2_price) (maxL := 3) (ret := (some .int)) (by decide +kernel) rfl ?_
  intro p e s m args below meth c s₁ B hml hv
  obtain ⟨rfl, hP, hK⟩ := hv
  have X : zz_X D dA base t0 "Springseat$Filling" cX2_price 3 (some .int) l p s m meth c := ⟨B.exec, B.bytes, hml, B.returns, findClass_of_methodNamed B.named, B.notSynchronized, hT, by rw [hP.1]; exact hP.2.1, hK⟩
  have hx := X.1
  have hb := X.2.1
  have hown := X.2.2.2.2.1
  have hR : zz_R D dA base h n s s.heap [] := ⟨hP, va_S.rf⟩
  have hl := lv_entry ([.ref a0]) (n := 3) (by exact Nat.le_of_ble_eq_true rfl)
  rw [lg_entry_eq]
  generalize (lg_sl ([.ref a0]) ++ List.replicate (3 - (lg_sl ([.ref a0])).length) Slot.unset).toArray = ls at hl ⊢
  have hl : lv_has ls 3 [(0, .ref a0)] := hl
  unfold f_X2_price at hf
  refine lv_iconst (v := (0 : Int32)) hx hb dX2_price_0 (by decide) ?_
  refine lv_istore_n (i := 1) (lv' := [(1, .int (0 : Int32)), (0, .ref a0)]) hx hb dX2_price_1 rfl hl (by decide) rfl (fun ls hl => ?_)
  refine lv_iconst (v := (0 : Int32)) hx hb dX2_price_2 (by decide) ?_
  refine lv_istore_n (i := 2) (lv' := [(2, .int (0 : Int32)), (1, .int (0 : Int32)), (0, .ref a0)]) hx hb dX2_price_3 rfl hl (by decide) rfl (fun ls hl => ?_)
  exact lp_X2_price_4 X hT a0 zz_F _ _ hf hR (lv_sub hl [2, 1, 0] rfl)
def rm_X4_init : Room := { frames := 1, cells := 1, slots := 56, locals := 20 }
theorem mf_X4_init : zz_Mf yX4_init cX4_init 1 none 0 := ⟨q_66, q_5, by decide +kernel, by decide +kernel, by decide +kernel⟩
set_option maxHeartbeats 4000000 in
set_option maxRecDepth 100000 in
theorem mt_X4_init {D : va_G} {dA : Nat → ClassId} {base t0 : Nat} {l : Launch} (hT : l.stackTraces = false) (a0 : Nat) (h : zz_H) (n : Nat) {r0 : Unit} {hF : zz_H} {nF : Nat} (hf : f_X4_init t0 a0 h n = some (r0, hF, nF)) : zz_M D dA base t0 l yX4_init cX4_init 1 none rm_X4_init [.ref a0] h n none hF nF := by
  refine Met.ofW (cc := cX4_init) (maxL := 1) (ret := none) (by decide +kernel) rfl ?_
  intro p e s m args below meth c s₁ B hml hv
  obtain ⟨rfl, hP, hK⟩ := hv
  have X : zz_X D dA base t0 "Springseat$Grid" cX4_init 1 none l p s m meth c := ⟨B.exec, B.bytes, hml, B.returns, findClass_of_methodNamed B.named, B.notSynchronized, hT, by rw [hP.1]; exact hP.2.1, hK⟩
  have hx := X.1
  have hb := X.2.1
  have hown := X.2.2.2.2.1
  have hin : meth.name = "<init>" := (name_of_methodNamed B.named B.method).1
  have hR : zz_R D dA base h n s s.heap [] := ⟨hP, va_S.rf⟩
  have hl := lv_entry ([.ref a0]) (n := 1) (by exact Nat.le_of_ble_eq_true rfl)
  rw [lg_entry_eq]
  generalize (lg_sl ([.ref a0]) ++ List.replicate (1 - (lg_sl ([.ref a0])).length) Slot.unset).toArray = ls at hl ⊢
  have hl : lv_has ls 1 [(0, .ref a0)] := hl
  unfold f_X4_init at hf
  refine lv_aload_n hx hb dX4_init_0 rfl (lv_at hl 0 rfl) ?_
  refine zr_obj X hl.1 q_67 q_34 q_35 dX4_init_1 (Nat.le_of_ble_eq_true rfl) ⟨Nat.le_of_ble_eq_true rfl, Nat.le_of_ble_eq_true rfl⟩ ?_
  refine W.eq (g2 := F0 m 4 ls []) rfl ?_
  refine lv_aload_n hx hb dX4_init_4 rfl (lv_at hl 0 rfl) ?_
  refine lv_bipush (v := (56 : Int32)) hx hb dX4_init_5 (by decide) ?_
  refine zr_newa X hR (t := 0) (N := 56) (a0 := (56, .inl (fun _ => 0))) (by decide) rfl q_72 (fun _ z => z) (fun cA => rfl) (by decide) (by decide) (Nat.le_of_ble_eq_true rfl) (Nat.le_of_ble_eq_true rfl) (Nat.le_of_ble_eq_true rfl) dX4_init_7 (fun H hR => ?_)
  refine W.widen (k := 1) (n := 56) (Nat.le_of_ble_eq_true rfl) (Nat.le_of_ble_eq_true rfl) ?_
  refine zr_pF X hR (r := (some a0)) (v := .ref n) fl_X4_9 rfl hin rfl dX4_init_9 (zz_nr rfl (some n)).1 (zz_nr rfl (some n)).2 hf (fun h9 H locs hf hR => ?_)
  cases hf
  exact zr_vret X hR dX4_init_12 (Nat.le_of_ble_eq_true rfl) (Nat.le_of_ble_eq_true rfl)
def rm_J7_fill_53178 : Room := { frames := 0, cells := 0, slots := 0, locals := 0 }
theorem mf_J7_fill_53178 : zz_Mf yJ7_fill_53178 cJ7_fill_53178 4 none 2 := ⟨q_453, q_9, by decide +kernel, by decide +kernel, by decide +kernel⟩
set_option maxHeartbeats 4000000 in
set_option maxRecDepth 100000 in
theorem bk_J7_fill_53178_5 {D : va_G} {dA : Nat → ClassId} {base t0 : Nat} {l : Launch} {p : Program} {e : Env} {s : State} {m : MethodId} {args : Array Value} {below : List Frame} {meth : Method} {c : Code} (X : zz_X D dA base t0 "java/util/Arrays" cJ7_fill_53178 4 none l p s m meth c) (hT : l.stackTraces = false) {x0 : (Option Nat)} {x1 : Int32} {x2 : Int32} {x3 : Int32} {h : zz_H} {n : Nat} {H : Heap} {locs : List Loc} {ls : Array Slot} (hR : zz_R D dA base h n s H locs) (hl : lv_has ls 4 [(0, va_rf x0), (1, .int x1), (2, .int x2), (3, .int x3)]) {r0 : Unit} {hF : zz_H} {o : ((Int32 × zz_H) ⊕ (Unit × zz_H))} (hf : f_J7_fill_53178_5 x0 x1 x2 x3 h = some o) (k0 : ∀ (w2 : Int32) (hw : zz_H), o = (.inl (w2, hw)) → ∀ {H : Heap} {locs : List Loc} {ls : Array Slot}, zz_R D dA base hw n s H locs → lv_has ls 4 [(0, va_rf x0), (1, .int x1), (2, .int w2), (3, .int x3)] → W p l e rm_J7_fill_53178 s m args below meth c H locs 0 0 (MQ below (zz_Qc D dA base none hF n) args s rm_J7_fill_53178.cells rm_J7_fill_53178.slots (fun q => base ≤ q)) (F0 m 5 ls [])) (hret : ∀ r, o = (.inr r) → r = (r0, hF)) : W p l e rm_J7_fill_53178 s m args below meth c H locs 0 0 (MQ below (zz_Qc D dA base none hF n) args s rm_J7_fill_53178.cells rm_J7_fill_53178.slots (fun q => base ≤ q)) (F0 m 5 ls []) := by
  have hx := X.1
  have hb := X.2.1
  have hown := X.2.2.2.2.1
  unfold f_J7_fill_53178_5 at hf
  refine lv_iload_n hx hb dJ7_fill_53178_5 rfl (lv_at hl 2 rfl) ?_
  refine lv_iload_n hx hb dJ7_fill_53178_6 rfl (lv_at hl 3 rfl) ?_
  refine lv_icmp_ge (tgt := 20) hx hb dJ7_fill_53178_7 (by decide) (fun c7 => ?_) (fun c7 => ?_)
  · replace hf := zz_pos c7 hf
    cases hf
    cases hret _ rfl
    exact zr_vret X hR dJ7_fill_53178_20 (Nat.le_of_ble_eq_true rfl) (Nat.le_of_ble_eq_true rfl)
  · replace hf := zz_neg c7 hf
    refine zr_aload_n hx hb dJ7_fill_53178_10 rfl (lv_at hl 0 rfl) ?_
    refine lv_iload_n hx hb dJ7_fill_53178_11 rfl (lv_at hl 2 rfl) ?_
    refine lv_iload_n hx hb dJ7_fill_53178_12 rfl (lv_at hl 1 rfl) ?_
    refine zr_iast X hR (r := x0) dJ7_fill_53178_13 hf (fun h13 H locs hf hR => ?_)
    refine lv_iinc (i := 2) (v := (x2 + (1 : Int32))) (lv' := [(2, .int (x2 + (1 : Int32))), (0, va_rf x0), (1, .int x1), (3, .int x3)]) hx hb dJ7_fill_53178_14 hl (k := 2) rfl rfl (by decide) rfl (fun ls hl => ?_)
    refine lv_goto (tgt := 5) hx hb dJ7_fill_53178_17 (by decide) ?_
    cases hf
    exact k0 _ _ rfl hR (lv_sub hl [1, 2, 0, 3] rfl)
set_option maxHeartbeats 4000000 in
set_option maxRecDepth 100000 in
theorem lp_J7_fill_53178_5 {D : va_G} {dA : Nat → ClassId} {base t0 : Nat} {l : Launch} {p : Program} {e : Env} {s : State} {m : MethodId} {args : Array Value} {below : List Frame} {meth : Method} {c : Code} (X : zz_X D dA base t0 "java/util/Arrays" cJ7_fill_53178 4 none l p s m meth c) (hT : l.stackTraces = false) (x0 : (Option Nat)) (x1 : Int32) (x3 : Int32) {n : Nat} {r0 : Unit} {hF : zz_H} : ∀ (k : Nat) (x2 : Int32) (h : zz_H), zz_it (fun s : (Int32 × zz_H) => f_J7_fill_53178_5 x0 x1 s.1 x3 s.2) k (x2, h) = some (r0, hF) → ∀ {H : Heap} {locs : List Loc} {ls : Array Slot}, zz_R D dA base h n s H locs → lv_has ls 4 [(0, va_rf x0), (1, .int x1), (2, .int x2), (3, .int x3)] → W p l e rm_J7_fill_53178 s m args below meth c H locs 0 0 (MQ below (zz_Qc D dA base none hF n) args s rm_J7_fill_53178.cells rm_J7_fill_53178.slots (fun q => base ≤ q)) (F0 m 5 ls []) := by
  intro k
  induction k with
  | zero => intro x2 h hf; cases hf
  | succ k ih =>
    intro x2 h hf H locs ls hR hl
    rcases zz_it_s hf with ⟨⟨y0, y1⟩, h1, h2⟩ | h1
    · exact bk_J7_fill_53178_5 (r0 := r0) X hT hR hl h1  (fun z0 z1 e => by cases e; exact ih _ _ h2) (fun r e => by cases e)
    · exact bk_J7_fill_53178_5 (r0 := r0) X hT hR hl h1  (fun z0 z1 e => by cases e) (fun r e => (Sum.inr.inj e).symm)
set_option maxHeartbeats 4000000 in
set_option maxRecDepth 100000 in
theorem mt_J7_fill_53178 {D : va_G} {dA : Nat → ClassId} {base t0 : Nat} {l : Launch} (hT : l.stackTraces = false) (x0 : (Option Nat)) (x1 : Int32) (h : zz_H) (n : Nat) {r0 : Unit} {hF : zz_H} (hf : f_J7_fill_53178 x0 x1 h = some (r0, hF)) : zz_M D dA base t0 l yJ7_fill_53178 cJ7_fill_53178 4 none rm_J7_fill_53178 [va_rf x0, .int x1] h n none hF n := by
  refine Met.ofW (cc := cJ7_fill_53178) (maxL := 4) (ret := none) (by decide +kernel) rfl ?_
  intro p e s m args below meth c s₁ B hml hv
  obtain ⟨rfl, hP, hK⟩ := hv
  have X : zz_X D dA base t0 "java/util/Arrays" cJ7_fill_53178 4 none l p s m meth c := ⟨B.exec, B.bytes, hml, B.returns, findClass_of_methodNamed B.named, B.notSynchronized, hT, by rw [hP.1]; exact hP.2.1, hK⟩
  have hx := X.1
  have hb := X.2.1
  have hown := X.2.2.2.2.1
  have hR : zz_R D dA base h n s s.heap [] := ⟨hP, va_S.rf⟩
  have hl := lv_entry ([va_rf x0, .int x1]) (n := 4) (by cases x0 <;> exact Nat.le_of_ble_eq_true rfl)
  rw [lg_entry_eq]
  generalize (lg_sl ([va_rf x0, .int x1]) ++ List.replicate (4 - (lg_sl ([va_rf x0, .int x1])).length) Slot.unset).toArray = ls at hl ⊢
  have hl : lv_has ls 4 [(0, va_rf x0), (1, .int x1)] := by rw [show ([(0, va_rf x0), (1, .int x1)] : List (Nat × Value)) = lv_args 0 [va_rf x0, .int x1] from by cases x0 <;> rfl]; exact hl
  unfold f_J7_fill_53178 at hf
  refine lv_iconst (v := (0 : Int32)) hx hb dJ7_fill_53178_0 (by decide) ?_
  refine lv_istore_n (i := 2) (lv' := [(2, .int (0 : Int32)), (0, va_rf x0), (1, .int x1)]) hx hb dJ7_fill_53178_1 rfl hl (by decide) rfl (fun ls hl => ?_)
  refine zr_aload_n hx hb dJ7_fill_53178_2 rfl (lv_at hl 1 rfl) ?_
  refine zr_alen X hR (r := x0) dJ7_fill_53178_3 hf (fun v3 hf => ?_)
  refine lv_istore_n (i := 3) (lv' := [(3, .int v3), (2, .int (0 : Int32)), (0, va_rf x0), (1, .int x1)]) hx hb dJ7_fill_53178_4 rfl hl (by decide) rfl (fun ls hl => ?_)
  exact lp_J7_fill_53178_5 X hT x0 x1 v3 zz_F _ _ hf hR (lv_sub hl [2, 3, 1, 0] rfl)
def rm_X3_loosenTies : Room := { frames := 1, cells := 0, slots := 0, locals := 23 }
theorem mf_X3_loosenTies : zz_Mf yX3_loosenTies cX3_loosenTies 1 none 0 := ⟨q_604, q_20, by decide +kernel, by decide +kernel, by decide +kernel⟩
set_option maxHeartbeats 4000000 in
set_option maxRecDepth 100000 in
theorem mt_X3_loosenTies {D : va_G} {dA : Nat → ClassId} {base t0 : Nat} {l : Launch} (hT : l.stackTraces = false) (a0 : Nat) (h : zz_H) (n : Nat) {r0 : Unit} {hF : zz_H} (hf : f_X3_loosenTies a0 h = some (r0, hF)) : zz_M D dA base t0 l yX3_loosenTies cX3_loosenTies 1 none rm_X3_loosenTies [.ref a0] h n none hF n := by
  refine Met.ofW (cc := cX3_loosenTies) (maxL := 1) (ret := none) (by decide +kernel) rfl ?_
  intro p e s m args below meth c s₁ B hml hv
  obtain ⟨rfl, hP, hK⟩ := hv
  have X : zz_X D dA base t0 "Springseat$Frame" cX3_loosenTies 1 none l p s m meth c := ⟨B.exec, B.bytes, hml, B.returns, findClass_of_methodNamed B.named, B.notSynchronized, hT, by rw [hP.1]; exact hP.2.1, hK⟩
  have hx := X.1
  have hb := X.2.1
  have hown := X.2.2.2.2.1
  have hR : zz_R D dA base h n s s.heap [] := ⟨hP, va_S.rf⟩
  have hl := lv_entry ([.ref a0]) (n := 1) (by exact Nat.le_of_ble_eq_true rfl)
  rw [lg_entry_eq]
  generalize (lg_sl ([.ref a0]) ++ List.replicate (1 - (lg_sl ([.ref a0])).length) Slot.unset).toArray = ls at hl ⊢
  have hl : lv_has ls 1 [(0, .ref a0)] := hl
  unfold f_X3_loosenTies at hf
  refine lv_aload_n hx hb dX3_loosenTies_0 rfl (lv_at hl 0 rfl) ?_
  refine zr_gq X hR (r := (some a0)) fl_X3_21 dX3_loosenTies_1 hf (fun v1 hf => ?_)
  refine lv_bipush (v := (99 : Int32)) hx hb dX3_loosenTies_4 (by decide) ?_
  obtain ⟨u6, h6, hv6, hf⟩ := zz_b1_i hf
  refine zr_cS X hR hl.1 (As := [va_rf v1, .int (99 : Int32)]) (rest := []) (mt_J7_fill_53178 hT v1 (99 : Int32) h n hv6) mf_J7_fill_53178 q_605 q_452 ⟨Nat.le_of_ble_eq_true rfl, Nat.le_of_ble_eq_true rfl⟩ ⟨Nat.le_of_ble_eq_true rfl, Nat.le_of_ble_eq_true rfl⟩ rfl (Nat.le_of_ble_eq_true rfl) dX3_loosenTies_6 (fun H locs hR => ?_)
  refine W.eq (g2 := F0 m 9 ls []) rfl ?_
  refine lv_aload_n hx hb dX3_loosenTies_9 rfl (lv_at hl 0 rfl) ?_
  refine zr_gq X hR (r := (some a0)) fl_X3_25 dX3_loosenTies_10 hf (fun v10 hf => ?_)
  refine lv_bipush (v := (99 : Int32)) hx hb dX3_loosenTies_13 (by decide) ?_
  obtain ⟨u15, h15, hv15, hf⟩ := zz_b1_i hf
  refine zr_cS X hR hl.1 (As := [va_rf v10, .int (99 : Int32)]) (rest := []) (mt_J7_fill_53178 hT v10 (99 : Int32) h6 n hv15) mf_J7_fill_53178 q_605 q_452 ⟨Nat.le_of_ble_eq_true rfl, Nat.le_of_ble_eq_true rfl⟩ ⟨Nat.le_of_ble_eq_true rfl, Nat.le_of_ble_eq_true rfl⟩ rfl (Nat.le_of_ble_eq_true rfl) dX3_loosenTies_15 (fun H locs hR => ?_)
  refine W.eq (g2 := F0 m 18 ls []) rfl ?_
  cases hf
  exact zr_vret X hR dX3_loosenTies_18 (Nat.le_of_ble_eq_true rfl) (Nat.le_of_ble_eq_true rfl)
def rm_X3_init : Room := { frames := 2, cells := 6, slots := 126, locals := 43 }
theorem mf_X3_init : zz_Mf yX3_init cX3_init 3 none 2 := ⟨q_597, q_20, by decide +kernel, by decide +kernel, by decide +kernel⟩
set_option maxHeartbeats 4000000 in
set_option maxRecDepth 100000 in
theorem mt_X3_init {D : va_G} {dA : Nat → ClassId} {base t0 : Nat} {l : Launch} (hT : l.stackTraces = false) (a0 : Nat) (x1 : Int32) (x2 : Int32) (h : zz_H) (n : Nat) {r0 : Unit} {hF : zz_H} {nF : Nat} (hf : f_X3_init t0 a0 x1 x2 h n = some (r0, hF, nF)) : zz_M D dA base t0 l yX3_init cX3_init 3 none rm_X3_init [.ref a0, .int x1, .int x2] h n none hF nF := by
  refine Met.ofW (cc := cX3_init) (maxL := 3) (ret := none) (by decide +kernel) rfl ?_
  intro p e s m args below meth c s₁ B hml hv
  obtain ⟨rfl, hP, hK⟩ := hv
  have X : zz_X D dA base t0 "Springseat$Frame" cX3_init 3 none l p s m meth c := ⟨B.exec, B.bytes, hml, B.returns, findClass_of_methodNamed B.named, B.notSynchronized, hT, by rw [hP.1]; exact hP.2.1, hK⟩
  have hx := X.1
  have hb := X.2.1
  have hown := X.2.2.2.2.1
  have hin : meth.name = "<init>" := (name_of_methodNamed B.named B.method).1
  have hR : zz_R D dA base h n s s.heap [] := ⟨hP, va_S.rf⟩
  have hl := lv_entry ([.ref a0, .int x1, .int x2]) (n := 3) (by exact Nat.le_of_ble_eq_true rfl)
  rw [lg_entry_eq]
  generalize (lg_sl ([.ref a0, .int x1, .int x2]) ++ List.replicate (3 - (lg_sl ([.ref a0, .int x1, .int x2])).length) Slot.unset).toArray = ls at hl ⊢
  have hl : lv_has ls 3 [(0, .ref a0), (1, .int x1), (2, .int x2)] := hl
  unfold f_X3_init at hf
  refine lv_aload_n hx hb dX3_init_0 rfl (lv_at hl 0 rfl) ?_
  refine zr_obj X hl.1 q_598 q_34 q_35 dX3_init_1 (Nat.le_of_ble_eq_true rfl) ⟨Nat.le_of_ble_eq_true rfl, Nat.le_of_ble_eq_true rfl⟩ ?_
  refine W.eq (g2 := F0 m 4 ls []) rfl ?_
  refine lv_aload_n hx hb dX3_init_4 rfl (lv_at hl 0 rfl) ?_
  refine zr_new X hR (fs := [.null]) zc5 q_599 q_63 q_5 (fun j hj => by rcases (show j = 0 by omega) with rfl <;> rfl) (Nat.le_of_ble_eq_true rfl) (Nat.le_of_ble_eq_true rfl) dX3_init_5 (fun H hR => ?_)
  refine W.widen (k := 1) (n := 1) (Nat.le_of_ble_eq_true rfl) (Nat.le_of_ble_eq_true rfl) ?_
  refine lv_dup hx hb dX3_init_8 rfl ?_
  obtain ⟨u9, h9, n9, hv9, hf⟩ := zz_b2_i hf
  refine zr_cIN X hR hl.1 (As := []) (rest := [.ref n, .ref a0]) (mt_X4_init hT n (zz_u h n (.inr (5, [.null]))) (n + 1) hv9) mf_X4_init rfl q_600 q_65 ⟨Nat.le_of_ble_eq_true rfl, Nat.le_of_ble_eq_true rfl⟩ ⟨Nat.le_of_ble_eq_true rfl, Nat.le_of_ble_eq_true rfl⟩ rfl (Nat.le_of_ble_eq_true rfl) dX3_init_9 (fun H locs hR => ?_)
  refine W.eq (g2 := F0 m 12 ls [.ref n, .ref a0]) rfl ?_
  refine W.widen (k := 2) (n := 57) (Nat.le_of_ble_eq_true rfl) (Nat.le_of_ble_eq_true rfl) ?_
  refine zr_pF X hR (r := (some a0)) (v := .ref n) fl_X3_12 rfl hin rfl dX3_init_12 (zz_nr rfl (some n)).1 (zz_nr rfl (some n)).2 hf (fun h12 H locs hf hR => ?_)
  refine lv_aload_n hx hb dX3_init_15 rfl (lv_at hl 0 rfl) ?_
  refine zr_new X hR (fs := [.null]) zc5 q_599 q_63 q_5 (fun j hj => by rcases (show j = 0 by omega) with rfl <;> rfl) (Nat.le_of_ble_eq_true rfl) (Nat.le_of_ble_eq_true rfl) dX3_init_16 (fun H hR => ?_)
  refine W.widen (k := 3) (n := 58) (Nat.le_of_ble_eq_true rfl) (Nat.le_of_ble_eq_true rfl) ?_
  refine lv_dup hx hb dX3_init_19 rfl ?_
  obtain ⟨u20, h20, n20, hv20, hf⟩ := zz_b2_i hf
  refine zr_cIN X hR hl.1 (As := []) (rest := [.ref n9, .ref a0]) (mt_X4_init hT n9 (zz_u h12 n9 (.inr (5, [.null]))) (n9 + 1) hv20) mf_X4_init rfl q_600 q_65 ⟨Nat.le_of_ble_eq_true rfl, Nat.le_of_ble_eq_true rfl⟩ ⟨Nat.le_of_ble_eq_true rfl, Nat.le_of_ble_eq_true rfl⟩ rfl (Nat.le_of_ble_eq_true rfl) dX3_init_20 (fun H locs hR => ?_)
  refine W.eq (g2 := F0 m 23 ls [.ref n9, .ref a0]) rfl ?_
  refine W.widen (k := 4) (n := 114) (Nat.le_of_ble_eq_true rfl) (Nat.le_of_ble_eq_true rfl) ?_
  refine zr_pF X hR (r := (some a0)) (v := .ref n9) fl_X3_18 rfl hin rfl dX3_init_23 (zz_nr rfl (some n9)).1 (zz_nr rfl (some n9)).2 hf (fun h23 H locs hf hR => ?_)
  refine lv_aload_n hx hb dX3_init_26 rfl (lv_at hl 0 rfl) ?_
  refine lv_bipush (v := (6 : Int32)) hx hb dX3_init_27 (by decide) ?_
  refine zr_newa X hR (t := 0) (N := 6) (a0 := (6, .inl (fun _ => 0))) (by decide) rfl q_72 (fun _ z => z) (fun cA => rfl) (by decide) (by decide) (Nat.le_of_ble_eq_true rfl) (Nat.le_of_ble_eq_true rfl) (Nat.le_of_ble_eq_true rfl) dX3_init_29 (fun H hR => ?_)
  refine W.widen (k := 5) (n := 120) (Nat.le_of_ble_eq_true rfl) (Nat.le_of_ble_eq_true rfl) ?_
  refine zr_pF X hR (r := (some a0)) (v := .ref n20) fl_X3_21 rfl hin rfl dX3_init_31 (zz_nr rfl (some n20)).1 (zz_nr rfl (some n20)).2 hf (fun h31 H locs hf hR => ?_)
  refine lv_aload_n hx hb dX3_init_34 rfl (lv_at hl 0 rfl) ?_
  refine lv_bipush (v := (6 : Int32)) hx hb dX3_init_35 (by decide) ?_
  refine zr_newa X hR (t := 0) (N := 6) (a0 := (6, .inl (fun _ => 0))) (by decide) rfl q_72 (fun _ z => z) (fun cA => rfl) (by decide) (by decide) (Nat.le_of_ble_eq_true rfl) (Nat.le_of_ble_eq_true rfl) (Nat.le_of_ble_eq_true rfl) dX3_init_37 (fun H hR => ?_)
  refine W.widen (k := 6) (n := 126) (Nat.le_of_ble_eq_true rfl) (Nat.le_of_ble_eq_true rfl) ?_
  refine zr_pF X hR (r := (some a0)) (v := .ref (n20 + 1)) fl_X3_25 rfl hin rfl dX3_init_39 (zz_nr rfl (some (n20 + 1))).1 (zz_nr rfl (some (n20 + 1))).2 hf (fun h39 H locs hf hR => ?_)
  refine lv_aload_n hx hb dX3_init_42 rfl (lv_at hl 0 rfl) ?_
  refine lv_iload_n hx hb dX3_init_43 rfl (lv_at hl 1 rfl) ?_
  refine zr_pF X hR (r := (some a0)) (v := .int x1) fl_X3_28 rfl hin rfl dX3_init_44 rfl rfl hf (fun h44 H locs hf hR => ?_)
  refine lv_aload_n hx hb dX3_init_47 rfl (lv_at hl 0 rfl) ?_
  refine lv_iload_n hx hb dX3_init_48 rfl (lv_at hl 2 rfl) ?_
  refine zr_pF X hR (r := (some a0)) (v := .int x2) fl_X3_32 rfl hin rfl dX3_init_49 rfl rfl hf (fun h49 H locs hf hR => ?_)
  refine lv_aload_n hx hb dX3_init_52 rfl (lv_at hl 0 rfl) ?_
  obtain ⟨fs53, ho53, hf⟩ := zz_obS_i hf
  obtain ⟨u53, h53, hv53, hf⟩ := zz_b1_i hf
  refine zr_cV X hR hl.1 (As := []) (rest := []) (C := RX3) (T := TX3) (N := 7) (mt_X3_loosenTies hT a0 h49 ((n20 + 1) + 1) hv53) rfl ho53 mf_X3_loosenTies q_601 q_602 q_603 ⟨Nat.le_of_ble_eq_true rfl, Nat.le_of_ble_eq_true rfl⟩ ⟨Nat.le_of_ble_eq_true rfl, Nat.le_of_ble_eq_true rfl⟩ rfl (Nat.le_of_ble_eq_true rfl) dX3_init_53 (fun H locs hR => ?_)
  refine W.eq (g2 := F0 m 56 ls []) rfl ?_
  cases hf
  exact zr_vret X hR dX3_init_56 (Nat.le_of_ble_eq_true rfl) (Nat.le_of_ble_eq_true rfl)
def rm_X3_cellCount : Room := { frames := 0, cells := 0, slots := 0, locals := 0 }
theorem mf_X3_cellCount : zz_Mf yX3_cellCount cX3_cellCount 1 (some .int) 0 := ⟨q_291, q_20, by decide +kernel, by decide +kernel, by decide +kernel⟩
set_option maxHeartbeats 4000000 in
set_option maxRecDepth 100000 in
theorem mt_X3_cellCount {D : va_G} {dA : Nat → ClassId} {base t0 : Nat} {l : Launch} (hT : l.stackTraces = false) (a0 : Nat) (h : zz_H) (n : Nat) {r0 : Int32} (hf : f_X3_cellCount a0 h = some r0) : zz_M D dA base t0 l yX3_cellCount cX3_cellCount 1 (some .int) rm_X3_cellCount [.ref a0] h n (some (.int r0)) h n := by
  refine Met.ofW (cc := cX3_cellCount) (maxL := 1) (ret := (some .int)) (by decide +kernel) rfl ?_
  intro p e s m args below meth c s₁ B hml hv
  obtain ⟨rfl, hP, hK⟩ := hv
  have X : zz_X D dA base t0 "Springseat$Frame" cX3_cellCount 1 (some .int) l p s m meth c := ⟨B.exec, B.bytes, hml, B.returns, findClass_of_methodNamed B.named, B.notSynchronized, hT, by rw [hP.1]; exact hP.2.1, hK⟩
  have hx := X.1
  have hb := X.2.1
  have hown := X.2.2.2.2.1
  have hR : zz_R D dA base h n s s.heap [] := ⟨hP, va_S.rf⟩
  have hl := lv_entry ([.ref a0]) (n := 1) (by exact Nat.le_of_ble_eq_true rfl)
  rw [lg_entry_eq]
  generalize (lg_sl ([.ref a0]) ++ List.replicate (1 - (lg_sl ([.ref a0])).length) Slot.unset).toArray = ls at hl ⊢
  have hl : lv_has ls 1 [(0, .ref a0)] := hl
  unfold f_X3_cellCount at hf
  refine lv_aload_n hx hb dX3_cellCount_0 rfl (lv_at hl 0 rfl) ?_
  refine zr_gi X hR (r := (some a0)) fl_X3_28 dX3_cellCount_1 hf (fun v1 hf => ?_)
  refine lv_aload_n hx hb dX3_cellCount_4 rfl (lv_at hl 0 rfl) ?_
  refine zr_gi X hR (r := (some a0)) fl_X3_32 dX3_cellCount_5 hf (fun v5 hf => ?_)
  refine lv_imul hx hb dX3_cellCount_8 ?_
  cases hf
  exact zr_iret X hR dX3_cellCount_9 (Nat.le_of_ble_eq_true rfl) (Nat.le_of_ble_eq_true rfl)
def rm_X3_cellAt : Room := { frames := 0, cells := 0, slots := 0, locals := 0 }
theorem mf_X3_cellAt : zz_Mf yX3_cellAt cX3_cellAt 2 (some .int) 1 := ⟨q_295, q_20, by decide +kernel, by decide +kernel, by decide +kernel⟩
set_option maxHeartbeats 4000000 in
set_option maxRecDepth 100000 in
theorem bk_X3_cellAt_28 {D : va_G} {dA : Nat → ClassId} {base t0 : Nat} {l : Launch} {p : Program} {e : Env} {s : State} {m : MethodId} {args : Array Value} {below : List Frame} {meth : Method} {c : Code} (X : zz_X D dA base t0 "Springseat$Frame" cX3_cellAt 2 (some .int) l p s m meth c) (hT : l.stackTraces = false) {s0 : Int32} {h : zz_H} {n : Nat} {H : Heap} {locs : List Loc} {ls : Array Slot} (hR : zz_R D dA base h n s H locs) (hl : lv_has ls 2 []) {r0 : Int32} (hf : f_X3_cellAt_28 s0 h = some r0) : W p l e rm_X3_cellAt s m args below meth c H locs 0 0 (MQ below (zz_Qc D dA base (some (.int r0)) h n) args s rm_X3_cellAt.cells rm_X3_cellAt.slots (fun q => base ≤ q)) (F0 m 28 ls [.int s0]) := by
  have hx := X.1
  have hb := X.2.1
  have hown := X.2.2.2.2.1
  unfold f_X3_cellAt_28 at hf
  cases hf
  exact zr_iret X hR dX3_cellAt_28 (Nat.le_of_ble_eq_true rfl) (Nat.le_of_ble_eq_true rfl)
set_option maxHeartbeats 4000000 in
set_option maxRecDepth 100000 in
theorem mt_X3_cellAt {D : va_G} {dA : Nat → ClassId} {base t0 : Nat} {l : Launch} (hT : l.stackTraces = false) (a0 : Nat) (x1 : Int32) (h : zz_H) (n : Nat) {r0 : Int32} (hf : f_X3_cellAt a0 x1 h = some r0) : zz_M D dA base t0 l yX3_cellAt cX3_cellAt 2 (some .int) rm_X3_cellAt [.ref a0, .int x1] h n (some (.int r0)) h n := by
  refine Met.ofW (cc := cX3_cellAt) (maxL := 2) (ret := (some .int)) (by decide +kernel) rfl ?_
  intro p e s m args below meth c s₁ B hml hv
  obtain ⟨rfl, hP, hK⟩ := hv
  have X : zz_X D dA base t0 "Springseat$Frame" cX3_cellAt 2 (some .int) l p s m meth c := ⟨B.exec, B.bytes, hml, B.returns, findClass_of_methodNamed B.named, B.notSynchronized, hT, by rw [hP.1]; exact hP.2.1, hK⟩
  have hx := X.1
  have hb := X.2.1
  have hown := X.2.2.2.2.1
  have hR : zz_R D dA base h n s s.heap [] := ⟨hP, va_S.rf⟩
  have hl := lv_entry ([.ref a0, .int x1]) (n := 2) (by exact Nat.le_of_ble_eq_true rfl)
  rw [lg_entry_eq]
  generalize (lg_sl ([.ref a0, .int x1]) ++ List.replicate (2 - (lg_sl ([.ref a0, .int x1])).length) Slot.unset).toArray = ls at hl ⊢
  have hl : lv_has ls 2 [(0, .ref a0), (1, .int x1)] := hl
  unfold f_X3_cellAt at hf
  refine lv_aload_n hx hb dX3_cellAt_0 rfl (lv_at hl 0 rfl) ?_
  refine zr_gi X hR (r := (some a0)) fl_X3_32 dX3_cellAt_1 hf (fun v1 hf => ?_)
  refine lv_iconst (v := (1 : Int32)) hx hb dX3_cellAt_4 (by decide) ?_
  refine lv_icmp_ge (tgt := 12) hx hb dX3_cellAt_5 (by decide) (fun c5 => ?_) (fun c5 => ?_)
  · replace hf := zz_pos c5 hf
    refine lv_iload_n hx hb dX3_cellAt_12 rfl (lv_at hl 1 rfl) ?_
    refine lv_aload_n hx hb dX3_cellAt_13 rfl (lv_at hl 0 rfl) ?_
    refine zr_gi X hR (r := (some a0)) fl_X3_32 dX3_cellAt_14 hf (fun v14 hf => ?_)
    obtain ⟨hne17, hf⟩ := zz_dv_i hf
    refine lv_idiv hx hb dX3_cellAt_17 hne17 ?_
    refine lv_bipush (v := (10 : Int32)) hx hb dX3_cellAt_18 (by decide) ?_
    refine lv_imul hx hb dX3_cellAt_20 ?_
    refine lv_iload_n hx hb dX3_cellAt_21 rfl (lv_at hl 1 rfl) ?_
    refine lv_aload_n hx hb dX3_cellAt_22 rfl (lv_at hl 0 rfl) ?_
    refine zr_gi X hR (r := (some a0)) fl_X3_32 dX3_cellAt_23 hf (fun v23 hf => ?_)
    obtain ⟨hne26, hf⟩ := zz_dv_i hf
    refine lv_irem hx hb dX3_cellAt_26 hne26 ?_
    refine lv_iadd hx hb dX3_cellAt_27 ?_
    exact bk_X3_cellAt_28 X hT hR (lv_sub hl [] rfl) hf
  · replace hf := zz_neg c5 hf
    refine lv_iconst (v := (0 : Int32)) hx hb dX3_cellAt_8 (by decide) ?_
    refine lv_goto (tgt := 28) hx hb dX3_cellAt_9 (by decide) ?_
    exact bk_X3_cellAt_28 X hT hR (lv_sub hl [] rfl) hf
def rm_X4_put : Room := { frames := 0, cells := 0, slots := 0, locals := 0 }
theorem mf_X4_put : zz_Mf yX4_put cX4_put 3 none 2 := ⟨q_475, q_5, by decide +kernel, by decide +kernel, by decide +kernel⟩
set_option maxHeartbeats 4000000 in
set_option maxRecDepth 100000 in
theorem bk_X4_put_20 {D : va_G} {dA : Nat → ClassId} {base t0 : Nat} {l : Launch} {p : Program} {e : Env} {s : State} {m : MethodId} {args : Array Value} {below : List Frame} {meth : Method} {c : Code} (X : zz_X D dA base t0 "Springseat$Grid" cX4_put 3 none l p s m meth c) (hT : l.stackTraces = false) {h : zz_H} {n : Nat} {H : Heap} {locs : List Loc} {ls : Array Slot} (hR : zz_R D dA base h n s H locs) (hl : lv_has ls 3 []) {r0 : Unit} {hF : zz_H} (hf : f_X4_put_20 h = some (r0, hF)) : W p l e rm_X4_put s m args below meth c H locs 0 0 (MQ below (zz_Qc D dA base none hF n) args s rm_X4_put.cells rm_X4_put.slots (fun q => base ≤ q)) (F0 m 20 ls []) := by
  have hx := X.1
  have hb := X.2.1
  have hown := X.2.2.2.2.1
  unfold f_X4_put_20 at hf
  cases hf
  exact zr_vret X hR dX4_put_20 (Nat.le_of_ble_eq_true rfl) (Nat.le_of_ble_eq_true rfl)
set_option maxHeartbeats 4000000 in
set_option maxRecDepth 100000 in
theorem mt_X4_put {D : va_G} {dA : Nat → ClassId} {base t0 : Nat} {l : Launch} (hT : l.stackTraces = false) (a0 : Nat) (x1 : Int32) (x2 : Int32) (h : zz_H) (n : Nat) {r0 : Unit} {hF : zz_H} (hf : f_X4_put a0 x1 x2 h = some (r0, hF)) : zz_M D dA base t0 l yX4_put cX4_put 3 none rm_X4_put [.ref a0, .int x1, .int x2] h n none hF n := by
  refine Met.ofW (cc := cX4_put) (maxL := 3) (ret := none) (by decide +kernel) rfl ?_
  intro p e s m args below meth c s₁ B hml hv
  obtain ⟨rfl, hP, hK⟩ := hv
  have X : zz_X D dA base t0 "Springseat$Grid" cX4_put 3 none l p s m meth c := ⟨B.exec, B.bytes, hml, B.returns, findClass_of_methodNamed B.named, B.notSynchronized, hT, by rw [hP.1]; exact hP.2.1, hK⟩
  have hx := X.1
  have hb := X.2.1
  have hown := X.2.2.2.2.1
  have hR : zz_R D dA base h n s s.heap [] := ⟨hP, va_S.rf⟩
  have hl := lv_entry ([.ref a0, .int x1, .int x2]) (n := 3) (by exact Nat.le_of_ble_eq_true rfl)
  rw [lg_entry_eq]
  generalize (lg_sl ([.ref a0, .int x1, .int x2]) ++ List.replicate (3 - (lg_sl ([.ref a0, .int x1, .int x2])).length) Slot.unset).toArray = ls at hl ⊢
  have hl : lv_has ls 3 [(0, .ref a0), (1, .int x1), (2, .int x2)] := hl
  unfold f_X4_put at hf
  refine lv_iload_n hx hb dX4_put_0 rfl (lv_at hl 1 rfl) ?_
  refine lv_if_lt (tgt := 20) hx hb dX4_put_1 (by decide) (fun c1 => ?_) (fun c1 => ?_)
  · replace hf := zz_pos c1 hf
    exact bk_X4_put_20 X hT hR (lv_sub hl [] rfl) hf
  · replace hf := zz_neg c1 hf
    refine lv_iload_n hx hb dX4_put_4 rfl (lv_at hl 1 rfl) ?_
    refine lv_aload_n hx hb dX4_put_5 rfl (lv_at hl 0 rfl) ?_
    refine zr_gq X hR (r := (some a0)) fl_X4_9 dX4_put_6 hf (fun v6 hf => ?_)
    refine zr_alen X hR (r := v6) dX4_put_9 hf (fun v9 hf => ?_)
    refine lv_icmp_ge (tgt := 20) hx hb dX4_put_10 (by decide) (fun c10 => ?_) (fun c10 => ?_)
    · replace hf := zz_pos c10 hf
      exact bk_X4_put_20 X hT hR (lv_sub hl [] rfl) hf
    · replace hf := zz_neg c10 hf
      refine lv_aload_n hx hb dX4_put_13 rfl (lv_at hl 0 rfl) ?_
      refine zr_gq X hR (r := (some a0)) fl_X4_9 dX4_put_14 hf (fun v14 hf => ?_)
      refine lv_iload_n hx hb dX4_put_17 rfl (lv_at hl 1 rfl) ?_
      refine lv_iload_n hx hb dX4_put_18 rfl (lv_at hl 2 rfl) ?_
      refine zr_iast X hR (r := v14) dX4_put_19 hf (fun h19 H locs hf hR => ?_)
      exact bk_X4_put_20 X hT hR (lv_sub hl [] rfl) hf
def rm_X3_putSpring : Room := { frames := 1, cells := 0, slots := 0, locals := 22 }
theorem mf_X3_putSpring : zz_Mf yX3_putSpring cX3_putSpring 4 none 3 := ⟨q_703, q_20, by decide +kernel, by decide +kernel, by decide +kernel⟩
set_option maxHeartbeats 4000000 in
set_option maxRecDepth 100000 in
theorem mt_X3_putSpring {D : va_G} {dA : Nat → ClassId} {base t0 : Nat} {l : Launch} (hT : l.stackTraces = false) (a0 : Nat) (x1 : Int32) (x2 : Int32) (x3 : Int32) (h : zz_H) (n : Nat) {r0 : Unit} {hF : zz_H} (hf : f_X3_putSpring a0 x1 x2 x3 h = some (r0, hF)) : zz_M D dA base t0 l yX3_putSpring cX3_putSpring 4 none rm_X3_putSpring [.ref a0, .int x1, .int x2, .int x3] h n none hF n := by
  refine Met.ofW (cc := cX3_putSpring) (maxL := 4) (ret := none) (by decide +kernel) rfl ?_
  intro p e s m args below meth c s₁ B hml hv
  obtain ⟨rfl, hP, hK⟩ := hv
  have X : zz_X D dA base t0 "Springseat$Frame" cX3_putSpring 4 none l p s m meth c := ⟨B.exec, B.bytes, hml, B.returns, findClass_of_methodNamed B.named, B.notSynchronized, hT, by rw [hP.1]; exact hP.2.1, hK⟩
  have hx := X.1
  have hb := X.2.1
  have hown := X.2.2.2.2.1
  have hR : zz_R D dA base h n s s.heap [] := ⟨hP, va_S.rf⟩
  have hl := lv_entry ([.ref a0, .int x1, .int x2, .int x3]) (n := 4) (by exact Nat.le_of_ble_eq_true rfl)
  rw [lg_entry_eq]
  generalize (lg_sl ([.ref a0, .int x1, .int x2, .int x3]) ++ List.replicate (4 - (lg_sl ([.ref a0, .int x1, .int x2, .int x3])).length) Slot.unset).toArray = ls at hl ⊢
  have hl : lv_has ls 4 [(0, .ref a0), (1, .int x1), (2, .int x2), (3, .int x3)] := hl
  unfold f_X3_putSpring at hf
  refine lv_aload_n hx hb dX3_putSpring_0 rfl (lv_at hl 0 rfl) ?_
  refine zr_gq X hR (r := (some a0)) fl_X3_12 dX3_putSpring_1 hf (fun v1 hf => ?_)
  refine lv_iload_n hx hb dX3_putSpring_4 rfl (lv_at hl 1 rfl) ?_
  refine lv_iload_n hx hb dX3_putSpring_5 rfl (lv_at hl 2 rfl) ?_
  obtain ⟨b6, fs6, hr6, ho6, hf⟩ := zz_ob_i hf
  obtain ⟨u6, h6, hv6, hf⟩ := zz_b1_i hf
  refine zr_cV X hR hl.1 (As := [.int x1, .int x2]) (rest := []) (C := RX4) (T := TX4) (N := 1) (mt_X4_put hT b6 x1 x2 h n hv6) rfl ho6 mf_X4_put q_704 q_473 q_474 ⟨Nat.le_of_ble_eq_true rfl, Nat.le_of_ble_eq_true rfl⟩ ⟨Nat.le_of_ble_eq_true rfl, Nat.le_of_ble_eq_true rfl⟩ (by rw [hr6]; rfl) (Nat.le_of_ble_eq_true rfl) dX3_putSpring_6 (fun H locs hR => ?_)
  refine W.eq (g2 := F0 m 9 ls []) rfl ?_
  refine lv_aload_n hx hb dX3_putSpring_9 rfl (lv_at hl 0 rfl) ?_
  refine zr_gq X hR (r := (some a0)) fl_X3_18 dX3_putSpring_10 hf (fun v10 hf => ?_)
  refine lv_iload_n hx hb dX3_putSpring_13 rfl (lv_at hl 1 rfl) ?_
  refine lv_iload_n hx hb dX3_putSpring_14 rfl (lv_at hl 3 rfl) ?_
  obtain ⟨b15, fs15, hr15, ho15, hf⟩ := zz_ob_i hf
  obtain ⟨u15, h15, hv15, hf⟩ := zz_b1_i hf
  refine zr_cV X hR hl.1 (As := [.int x1, .int x3]) (rest := []) (C := RX4) (T := TX4) (N := 1) (mt_X4_put hT b15 x1 x3 h6 n hv15) rfl ho15 mf_X4_put q_704 q_473 q_474 ⟨Nat.le_of_ble_eq_true rfl, Nat.le_of_ble_eq_true rfl⟩ ⟨Nat.le_of_ble_eq_true rfl, Nat.le_of_ble_eq_true rfl⟩ (by rw [hr15]; rfl) (Nat.le_of_ble_eq_true rfl) dX3_putSpring_15 (fun H locs hR => ?_)
  refine W.eq (g2 := F0 m 18 ls []) rfl ?_
  cases hf
  exact zr_vret X hR dX3_putSpring_18 (Nat.le_of_ble_eq_true rfl) (Nat.le_of_ble_eq_true rfl)
def rm_X3_putSprings : Room := { frames := 2, cells := 0, slots := 0, locals := 45 }
theorem mf_X3_putSprings : zz_Mf yX3_putSprings cX3_putSprings 4 none 2 := ⟨q_697, q_20, by decide +kernel, by decide +kernel, by decide +kernel⟩
set_option maxHeartbeats 4000000 in
set_option maxRecDepth 100000 in
theorem bk_X3_putSprings_2 {D : va_G} {dA : Nat → ClassId} {base t0 : Nat} {l : Launch} {p : Program} {e : Env} {s : State} {m : MethodId} {args : Array Value} {below : List Frame} {meth : Method} {c : Code} (X : zz_X D dA base t0 "Springseat$Frame" cX3_putSprings 4 none l p s m meth c) (hT : l.stackTraces = false) {a0 : Nat} {x1 : Int32} {x2 : Int32} {x3 : Int32} {h : zz_H} {n : Nat} {H : Heap} {locs : List Loc} {ls : Array Slot} (hR : zz_R D dA base h n s H locs) (hl : lv_has ls 4 [(0, .ref a0), (1, .int x1), (2, .int x2), (3, .int x3)]) {r0 : Unit} {hF : zz_H} {o : ((Int32 × zz_H) ⊕ (Unit × zz_H))} (hf : f_X3_putSprings_2 a0 x1 x2 x3 h = some o) (k0 : ∀ (w3 : Int32) (hw : zz_H), o = (.inl (w3, hw)) → ∀ {H : Heap} {locs : List Loc} {ls : Array Slot}, zz_R D dA base hw n s H locs → lv_has ls 4 [(0, .ref a0), (1, .int x1), (2, .int x2), (3, .int w3)] → W p l e rm_X3_putSprings s m args below meth c H locs 0 0 (MQ below (zz_Qc D dA base none hF n) args s rm_X3_putSprings.cells rm_X3_putSprings.slots (fun q => base ≤ q)) (F0 m 2 ls [])) (hret : ∀ r, o = (.inr r) → r = (r0, hF)) : W p l e rm_X3_putSprings s m args below meth c H locs 0 0 (MQ below (zz_Qc D dA base none hF n) args s rm_X3_putSprings.cells rm_X3_putSprings.slots (fun q => base ≤ q)) (F0 m 2 ls []) := by
  have hx := X.1
  have hb := X.2.1
  have hown := X.2.2.2.2.1
  unfold f_X3_putSprings_2 at hf
  refine lv_iload_n hx hb dX3_putSprings_2 rfl (lv_at hl 3 rfl) ?_
  refine lv_aload_n hx hb dX3_putSprings_3 rfl (lv_at hl 0 rfl) ?_
  obtain ⟨fs4, ho4, hf⟩ := zz_obS_i hf
  obtain ⟨v4, hv4, hf⟩ := zz_b_i hf
  refine zr_cV X hR hl.1 (As := []) (rest := [.int x3]) (C := RX3) (T := TX3) (N := 7) (mt_X3_cellCount hT a0 h n hv4) rfl ho4 mf_X3_cellCount q_698 q_289 q_290 ⟨Nat.le_of_ble_eq_true rfl, Nat.le_of_ble_eq_true rfl⟩ ⟨Nat.le_of_ble_eq_true rfl, Nat.le_of_ble_eq_true rfl⟩ rfl (Nat.le_of_ble_eq_true rfl) dX3_putSprings_4 (fun H locs hR => ?_)
  refine W.eq (g2 := F0 m 7 ls [.int v4, .int x3]) rfl ?_
  refine lv_icmp_ge (tgt := 27) hx hb dX3_putSprings_7 (by decide) (fun c7 => ?_) (fun c7 => ?_)
  · replace hf := zz_pos c7 hf
    cases hf
    cases hret _ rfl
    exact zr_vret X hR dX3_putSprings_27 (Nat.le_of_ble_eq_true rfl) (Nat.le_of_ble_eq_true rfl)
  · replace hf := zz_neg c7 hf
    refine lv_aload_n hx hb dX3_putSprings_10 rfl (lv_at hl 0 rfl) ?_
    refine lv_aload_n hx hb dX3_putSprings_11 rfl (lv_at hl 0 rfl) ?_
    refine lv_iload_n hx hb dX3_putSprings_12 rfl (lv_at hl 3 rfl) ?_
    obtain ⟨fs13, ho13, hf⟩ := zz_obS_i hf
    obtain ⟨v13, hv13, hf⟩ := zz_b_i hf
    refine zr_cV X hR hl.1 (As := [.int x3]) (rest := [.ref a0]) (C := RX3) (T := TX3) (N := 7) (mt_X3_cellAt hT a0 x3 h n hv13) rfl ho13 mf_X3_cellAt q_699 q_293 q_294 ⟨Nat.le_of_ble_eq_true rfl, Nat.le_of_ble_eq_true rfl⟩ ⟨Nat.le_of_ble_eq_true rfl, Nat.le_of_ble_eq_true rfl⟩ rfl (Nat.le_of_ble_eq_true rfl) dX3_putSprings_13 (fun H locs hR => ?_)
    refine W.eq (g2 := F0 m 16 ls [.int v13, .ref a0]) rfl ?_
    refine lv_iload_n hx hb dX3_putSprings_16 rfl (lv_at hl 1 rfl) ?_
    refine lv_iload_n hx hb dX3_putSprings_17 rfl (lv_at hl 2 rfl) ?_
    obtain ⟨fs18, ho18, hf⟩ := zz_obS_i hf
    obtain ⟨u18, h18, hv18, hf⟩ := zz_b1_i hf
    refine zr_cV X hR hl.1 (As := [.int v13, .int x1, .int x2]) (rest := []) (C := RX3) (T := TX3) (N := 7) (mt_X3_putSpring hT a0 v13 x1 x2 h n hv18) rfl ho18 mf_X3_putSpring q_700 q_701 q_702 ⟨Nat.le_of_ble_eq_true rfl, Nat.le_of_ble_eq_true rfl⟩ ⟨Nat.le_of_ble_eq_true rfl, Nat.le_of_ble_eq_true rfl⟩ rfl (Nat.le_of_ble_eq_true rfl) dX3_putSprings_18 (fun H locs hR => ?_)
    refine W.eq (g2 := F0 m 21 ls []) rfl ?_
    refine lv_iinc (i := 3) (v := (x3 + (1 : Int32))) (lv' := [(3, .int (x3 + (1 : Int32))), (0, .ref a0), (1, .int x1), (2, .int x2)]) hx hb dX3_putSprings_21 hl (k := 3) rfl rfl (by decide) rfl (fun ls hl => ?_)
    refine lv_goto (tgt := 2) hx hb dX3_putSprings_24 (by decide) ?_
    cases hf
    exact k0 _ _ rfl hR (lv_sub hl [1, 2, 3, 0] rfl)
set_option maxHeartbeats 4000000 in
set_option maxRecDepth 100000 in
theorem lp_X3_putSprings_2 {D : va_G} {dA : Nat → ClassId} {base t0 : Nat} {l : Launch} {p : Program} {e : Env} {s : State} {m : MethodId} {args : Array Value} {below : List Frame} {meth : Method} {c : Code} (X : zz_X D dA base t0 "Springseat$Frame" cX3_putSprings 4 none l p s m meth c) (hT : l.stackTraces = false) (a0 : Nat) (x1 : Int32) (x2 : Int32) {n : Nat} {r0 : Unit} {hF : zz_H} : ∀ (k : Nat) (x3 : Int32) (h : zz_H), zz_it (fun s : (Int32 × zz_H) => f_X3_putSprings_2 a0 x1 x2 s.1 s.2) k (x3, h) = some (r0, hF) → ∀ {H : Heap} {locs : List Loc} {ls : Array Slot}, zz_R D dA base h n s H locs → lv_has ls 4 [(0, .ref a0), (1, .int x1), (2, .int x2), (3, .int x3)] → W p l e rm_X3_putSprings s m args below meth c H locs 0 0 (MQ below (zz_Qc D dA base none hF n) args s rm_X3_putSprings.cells rm_X3_putSprings.slots (fun q => base ≤ q)) (F0 m 2 ls []) := by
  intro k
  induction k with
  | zero => intro x3 h hf; cases hf
  | succ k ih =>
    intro x3 h hf H locs ls hR hl
    rcases zz_it_s hf with ⟨⟨y0, y1⟩, h1, h2⟩ | h1
    · exact bk_X3_putSprings_2 (r0 := r0) X hT hR hl h1  (fun z0 z1 e => by cases e; exact ih _ _ h2) (fun r e => by cases e)
    · exact bk_X3_putSprings_2 (r0 := r0) X hT hR hl h1  (fun z0 z1 e => by cases e) (fun r e => (Sum.inr.inj e).symm)
set_option maxHeartbeats 4000000 in
set_option maxRecDepth 100000 in
theorem mt_X3_putSprings {D : va_G} {dA : Nat → ClassId} {base t0 : Nat} {l : Launch} (hT : l.stackTraces = false) (a0 : Nat) (x1 : Int32) (x2 : Int32) (h : zz_H) (n : Nat) {r0 : Unit} {hF : zz_H} (hf : f_X3_putSprings a0 x1 x2 h = some (r0, hF)) : zz_M D dA base t0 l yX3_putSprings cX3_putSprings 4 none rm_X3_putSprings [.ref a0, .int x1, .int x2] h n none hF n := by
  refine Met.ofW (cc := cX3_putSprings) (maxL := 4) (ret := none) (by decide +kernel) rfl ?_
  intro p e s m args below meth c s₁ B hml hv
  obtain ⟨rfl, hP, hK⟩ := hv
  have X : zz_X D dA base t0 "Springseat$Frame" cX3_putSprings 4 none l p s m meth c := ⟨B.exec, B.bytes, hml, B.returns, findClass_of_methodNamed B.named, B.notSynchronized, hT, by rw [hP.1]; exact hP.2.1, hK⟩
  have hx := X.1
  have hb := X.2.1
  have hown := X.2.2.2.2.1
  have hR : zz_R D dA base h n s s.heap [] := ⟨hP, va_S.rf⟩
  have hl := lv_entry ([.ref a0, .int x1, .int x2]) (n := 4) (by exact Nat.le_of_ble_eq_true rfl)
  rw [lg_entry_eq]
  generalize (lg_sl ([.ref a0, .int x1, .int x2]) ++ List.replicate (4 - (lg_sl ([.ref a0, .int x1, .int x2])).length) Slot.unset).toArray = ls at hl ⊢
  have hl : lv_has ls 4 [(0, .ref a0), (1, .int x1), (2, .int x2)] := hl
  unfold f_X3_putSprings at hf
  refine lv_iconst (v := (0 : Int32)) hx hb dX3_putSprings_0 (by decide) ?_
  refine lv_istore_n (i := 3) (lv' := [(3, .int (0 : Int32)), (0, .ref a0), (1, .int x1), (2, .int x2)]) hx hb dX3_putSprings_1 rfl hl (by decide) rfl (fun ls hl => ?_)
  exact lp_X3_putSprings_2 X hT a0 x1 x2 zz_F _ _ hf hR (lv_sub hl [1, 2, 3, 0] rfl)
def rm_X3_setTie : Room := { frames := 0, cells := 0, slots := 0, locals := 0 }
theorem mf_X3_setTie : zz_Mf yX3_setTie cX3_setTie 5 none 3 := ⟨q_747, q_20, by decide +kernel, by decide +kernel, by decide +kernel⟩
set_option maxHeartbeats 4000000 in
set_option maxRecDepth 100000 in
theorem bk_X3_setTie_33 {D : va_G} {dA : Nat → ClassId} {base t0 : Nat} {l : Launch} {p : Program} {e : Env} {s : State} {m : MethodId} {args : Array Value} {below : List Frame} {meth : Method} {c : Code} (X : zz_X D dA base t0 "Springseat$Frame" cX3_setTie 5 none l p s m meth c) (hT : l.stackTraces = false) {h : zz_H} {n : Nat} {H : Heap} {locs : List Loc} {ls : Array Slot} (hR : zz_R D dA base h n s H locs) (hl : lv_has ls 5 []) {r0 : Unit} {hF : zz_H} (hf : f_X3_setTie_33 h = some (r0, hF)) : W p l e rm_X3_setTie s m args below meth c H locs 0 0 (MQ below (zz_Qc D dA base none hF n) args s rm_X3_setTie.cells rm_X3_setTie.slots (fun q => base ≤ q)) (F0 m 33 ls []) := by
  have hx := X.1
  have hb := X.2.1
  have hown := X.2.2.2.2.1
  unfold f_X3_setTie_33 at hf
  cases hf
  exact zr_vret X hR dX3_setTie_33 (Nat.le_of_ble_eq_true rfl) (Nat.le_of_ble_eq_true rfl)
set_option maxHeartbeats 4000000 in
set_option maxRecDepth 100000 in
theorem bk_X3_setTie_15 {D : va_G} {dA : Nat → ClassId} {base t0 : Nat} {l : Launch} {p : Program} {e : Env} {s : State} {m : MethodId} {args : Array Value} {below : List Frame} {meth : Method} {c : Code} (X : zz_X D dA base t0 "Springseat$Frame" cX3_setTie 5 none l p s m meth c) (hT : l.stackTraces = false) {x2 : Int32} {x3 : Int32} {s0 : (Option Nat)} {h : zz_H} {n : Nat} {H : Heap} {locs : List Loc} {ls : Array Slot} (hR : zz_R D dA base h n s H locs) (hl : lv_has ls 5 [(2, .int x2), (3, .int x3)]) {r0 : Unit} {hF : zz_H} (hf : f_X3_setTie_15 x2 x3 s0 h = some (r0, hF)) : W p l e rm_X3_setTie s m args below meth c H locs 0 0 (MQ below (zz_Qc D dA base none hF n) args s rm_X3_setTie.cells rm_X3_setTie.slots (fun q => base ≤ q)) (F0 m 15 ls [va_rf s0]) := by
  have hx := X.1
  have hb := X.2.1
  have hown := X.2.2.2.2.1
  unfold f_X3_setTie_15 at hf
  refine zr_astore (i := 4) (lv' := [(4, va_rf s0), (2, .int x2), (3, .int x3)]) hx hb dX3_setTie_15 hl (by decide) rfl (fun ls hl => ?_)
  refine lv_iload_n hx hb dX3_setTie_17 rfl (lv_at hl 1 rfl) ?_
  refine lv_if_lt (tgt := 33) hx hb dX3_setTie_18 (by decide) (fun c18 => ?_) (fun c18 => ?_)
  · replace hf := zz_pos c18 hf
    exact bk_X3_setTie_33 X hT hR (lv_sub hl [] rfl) hf
  · replace hf := zz_neg c18 hf
    refine lv_iload_n hx hb dX3_setTie_21 rfl (lv_at hl 1 rfl) ?_
    refine zr_aload hx hb dX3_setTie_22 (lv_at hl 0 rfl) ?_
    refine zr_alen X hR (r := s0) dX3_setTie_24 hf (fun v24 hf => ?_)
    refine lv_icmp_ge (tgt := 33) hx hb dX3_setTie_25 (by decide) (fun c25 => ?_) (fun c25 => ?_)
    · replace hf := zz_pos c25 hf
      exact bk_X3_setTie_33 X hT hR (lv_sub hl [] rfl) hf
    · replace hf := zz_neg c25 hf
      refine zr_aload hx hb dX3_setTie_28 (lv_at hl 0 rfl) ?_
      refine lv_iload_n hx hb dX3_setTie_30 rfl (lv_at hl 1 rfl) ?_
      refine lv_iload_n hx hb dX3_setTie_31 rfl (lv_at hl 2 rfl) ?_
      refine zr_iast X hR (r := s0) dX3_setTie_32 hf (fun h32 H locs hf hR => ?_)
      exact bk_X3_setTie_33 X hT hR (lv_sub hl [] rfl) hf
set_option maxHeartbeats 4000000 in
set_option maxRecDepth 100000 in
theorem mt_X3_setTie {D : va_G} {dA : Nat → ClassId} {base t0 : Nat} {l : Launch} (hT : l.stackTraces = false) (a0 : Nat) (x1 : Int32) (x2 : Int32) (x3 : Int32) (h : zz_H) (n : Nat) {r0 : Unit} {hF : zz_H} (hf : f_X3_setTie a0 x1 x2 x3 h = some (r0, hF)) : zz_M D dA base t0 l yX3_setTie cX3_setTie 5 none rm_X3_setTie [.ref a0, .int x1, .int x2, .int x3] h n none hF n := by
  refine Met.ofW (cc := cX3_setTie) (maxL := 5) (ret := none) (by decide +kernel) rfl ?_
  intro p e s m args below meth c s₁ B hml hv
  obtain ⟨rfl, hP, hK⟩ := hv
  have X : zz_X D dA base t0 "Springseat$Frame" cX3_setTie 5 none l p s m meth c := ⟨B.exec, B.bytes, hml, B.returns, findClass_of_methodNamed B.named, B.notSynchronized, hT, by rw [hP.1]; exact hP.2.1, hK⟩
  have hx := X.1
  have hb := X.2.1
  have hown := X.2.2.2.2.1
  have hR : zz_R D dA base h n s s.heap [] := ⟨hP, va_S.rf⟩
  have hl := lv_entry ([.ref a0, .int x1, .int x2, .int x3]) (n := 5) (by exact Nat.le_of_ble_eq_true rfl)
  rw [lg_entry_eq]
  generalize (lg_sl ([.ref a0, .int x1, .int x2, .int x3]) ++ List.replicate (5 - (lg_sl ([.ref a0, .int x1, .int x2, .int x3])).length) Slot.unset).toArray = ls at hl ⊢
  have hl : lv_has ls 5 [(0, .ref a0), (1, .int x1), (2, .int x2), (3, .int x3)] := hl
  unfold f_X3_setTie at hf
  refine lv_iload_n hx hb dX3_setTie_0 rfl (lv_at hl 1 rfl) ?_
  refine lv_if_eq (tgt := 11) hx hb dX3_setTie_1 (by decide) (fun c1 => ?_) (fun c1 => ?_)
  · replace hf := zz_pos c1 hf
    refine lv_aload_n hx hb dX3_setTie_11 rfl (lv_at hl 0 rfl) ?_
    refine zr_gq X hR (r := (some a0)) fl_X3_25 dX3_setTie_12 hf (fun v12 hf => ?_)
    exact bk_X3_setTie_15 X hT hR (lv_sub hl [2, 3] rfl) hf
  · replace hf := zz_neg c1 hf
    refine lv_aload_n hx hb dX3_setTie_4 rfl (lv_at hl 0 rfl) ?_
    refine zr_gq X hR (r := (some a0)) fl_X3_21 dX3_setTie_5 hf (fun v5 hf => ?_)
    refine lv_goto (tgt := 15) hx hb dX3_setTie_8 (by decide) ?_
    exact bk_X3_setTie_15 X hT hR (lv_sub hl [2, 3] rfl) hf
def rm_X3_tieAt : Room := { frames := 0, cells := 0, slots := 0, locals := 0 }
theorem mf_X3_tieAt : zz_Mf yX3_tieAt cX3_tieAt 2 (some .int) 2 := ⟨q_345, q_20, by decide +kernel, by decide +kernel, by decide +kernel⟩
set_option maxHeartbeats 4000000 in
set_option maxRecDepth 100000 in
theorem bk_X3_tieAt_18 {D : va_G} {dA : Nat → ClassId} {base t0 : Nat} {l : Launch} {p : Program} {e : Env} {s : State} {m : MethodId} {args : Array Value} {below : List Frame} {meth : Method} {c : Code} (X : zz_X D dA base t0 "Springseat$Frame" cX3_tieAt 2 (some .int) l p s m meth c) (hT : l.stackTraces = false) {s0 : Int32} {h : zz_H} {n : Nat} {H : Heap} {locs : List Loc} {ls : Array Slot} (hR : zz_R D dA base h n s H locs) (hl : lv_has ls 2 []) {r0 : Int32} (hf : f_X3_tieAt_18 s0 h = some r0) : W p l e rm_X3_tieAt s m args below meth c H locs 0 0 (MQ below (zz_Qc D dA base (some (.int r0)) h n) args s rm_X3_tieAt.cells rm_X3_tieAt.slots (fun q => base ≤ q)) (F0 m 18 ls [.int s0]) := by
  have hx := X.1
  have hb := X.2.1
  have hown := X.2.2.2.2.1
  unfold f_X3_tieAt_18 at hf
  cases hf
  exact zr_iret X hR dX3_tieAt_18 (Nat.le_of_ble_eq_true rfl) (Nat.le_of_ble_eq_true rfl)
set_option maxHeartbeats 4000000 in
set_option maxRecDepth 100000 in
theorem bk_X3_tieAt_16 {D : va_G} {dA : Nat → ClassId} {base t0 : Nat} {l : Launch} {p : Program} {e : Env} {s : State} {m : MethodId} {args : Array Value} {below : List Frame} {meth : Method} {c : Code} (X : zz_X D dA base t0 "Springseat$Frame" cX3_tieAt 2 (some .int) l p s m meth c) (hT : l.stackTraces = false) {h : zz_H} {n : Nat} {H : Heap} {locs : List Loc} {ls : Array Slot} (hR : zz_R D dA base h n s H locs) (hl : lv_has ls 2 []) {r0 : Int32} (hf : f_X3_tieAt_16 h = some r0) : W p l e rm_X3_tieAt s m args below meth c H locs 0 0 (MQ below (zz_Qc D dA base (some (.int r0)) h n) args s rm_X3_tieAt.cells rm_X3_tieAt.slots (fun q => base ≤ q)) (F0 m 16 ls []) := by
  have hx := X.1
  have hb := X.2.1
  have hown := X.2.2.2.2.1
  unfold f_X3_tieAt_16 at hf
  refine lv_bipush (v := (99 : Int32)) hx hb dX3_tieAt_16 (by decide) ?_
  exact bk_X3_tieAt_18 X hT hR (lv_sub hl [] rfl) hf
set_option maxHeartbeats 4000000 in
set_option maxRecDepth 100000 in
theorem mt_X3_tieAt {D : va_G} {dA : Nat → ClassId} {base t0 : Nat} {l : Launch} (hT : l.stackTraces = false) (x0 : (Option Nat)) (x1 : Int32) (h : zz_H) (n : Nat) {r0 : Int32} (hf : f_X3_tieAt x0 x1 h = some r0) : zz_M D dA base t0 l yX3_tieAt cX3_tieAt 2 (some .int) rm_X3_tieAt [va_rf x0, .int x1] h n (some (.int r0)) h n := by
  refine Met.ofW (cc := cX3_tieAt) (maxL := 2) (ret := (some .int)) (by decide +kernel) rfl ?_
  intro p e s m args below meth c s₁ B hml hv
  obtain ⟨rfl, hP, hK⟩ := hv
  have X : zz_X D dA base t0 "Springseat$Frame" cX3_tieAt 2 (some .int) l p s m meth c := ⟨B.exec, B.bytes, hml, B.returns, findClass_of_methodNamed B.named, B.notSynchronized, hT, by rw [hP.1]; exact hP.2.1, hK⟩
  have hx := X.1
  have hb := X.2.1
  have hown := X.2.2.2.2.1
  have hR : zz_R D dA base h n s s.heap [] := ⟨hP, va_S.rf⟩
  have hl := lv_entry ([va_rf x0, .int x1]) (n := 2) (by cases x0 <;> exact Nat.le_of_ble_eq_true rfl)
  rw [lg_entry_eq]
  generalize (lg_sl ([va_rf x0, .int x1]) ++ List.replicate (2 - (lg_sl ([va_rf x0, .int x1])).length) Slot.unset).toArray = ls at hl ⊢
  have hl : lv_has ls 2 [(0, va_rf x0), (1, .int x1)] := by rw [show ([(0, va_rf x0), (1, .int x1)] : List (Nat × Value)) = lv_args 0 [va_rf x0, .int x1] from by cases x0 <;> rfl]; exact hl
  unfold f_X3_tieAt at hf
  refine lv_iload_n hx hb dX3_tieAt_0 rfl (lv_at hl 1 rfl) ?_
  refine lv_if_lt (tgt := 16) hx hb dX3_tieAt_1 (by decide) (fun c1 => ?_) (fun c1 => ?_)
  · replace hf := zz_pos c1 hf
    exact bk_X3_tieAt_16 X hT hR (lv_sub hl [] rfl) hf
  · replace hf := zz_neg c1 hf
    refine lv_iload_n hx hb dX3_tieAt_4 rfl (lv_at hl 1 rfl) ?_
    refine zr_aload_n hx hb dX3_tieAt_5 rfl (lv_at hl 0 rfl) ?_
    refine zr_alen X hR (r := x0) dX3_tieAt_6 hf (fun v6 hf => ?_)
    refine lv_icmp_ge (tgt := 16) hx hb dX3_tieAt_7 (by decide) (fun c7 => ?_) (fun c7 => ?_)
    · replace hf := zz_pos c7 hf
      exact bk_X3_tieAt_16 X hT hR (lv_sub hl [] rfl) hf
    · replace hf := zz_neg c7 hf
      refine zr_aload_n hx hb dX3_tieAt_10 rfl (lv_at hl 0 rfl) ?_
      refine lv_iload_n hx hb dX3_tieAt_11 rfl (lv_at hl 1 rfl) ?_
      refine zr_iald X hR (r := x0) dX3_tieAt_12 hf (fun v12 hf => ?_)
      refine lv_goto (tgt := 18) hx hb dX3_tieAt_13 (by decide) ?_
      exact bk_X3_tieAt_18 X hT hR (lv_sub hl [] rfl) hf
def rm_X4_at : Room := { frames := 0, cells := 0, slots := 0, locals := 0 }
theorem mf_X4_at : zz_Mf yX4_at cX4_at 2 (some .int) 1 := ⟨q_304, q_5, by decide +kernel, by decide +kernel, by decide +kernel⟩
set_option maxHeartbeats 4000000 in
set_option maxRecDepth 100000 in
theorem bk_X4_at_23 {D : va_G} {dA : Nat → ClassId} {base t0 : Nat} {l : Launch} {p : Program} {e : Env} {s : State} {m : MethodId} {args : Array Value} {below : List Frame} {meth : Method} {c : Code} (X : zz_X D dA base t0 "Springseat$Grid" cX4_at 2 (some .int) l p s m meth c) (hT : l.stackTraces = false) {s0 : Int32} {h : zz_H} {n : Nat} {H : Heap} {locs : List Loc} {ls : Array Slot} (hR : zz_R D dA base h n s H locs) (hl : lv_has ls 2 []) {r0 : Int32} (hf : f_X4_at_23 s0 h = some r0) : W p l e rm_X4_at s m args below meth c H locs 0 0 (MQ below (zz_Qc D dA base (some (.int r0)) h n) args s rm_X4_at.cells rm_X4_at.slots (fun q => base ≤ q)) (F0 m 23 ls [.int s0]) := by
  have hx := X.1
  have hb := X.2.1
  have hown := X.2.2.2.2.1
  unfold f_X4_at_23 at hf
  cases hf
  exact zr_iret X hR dX4_at_23 (Nat.le_of_ble_eq_true rfl) (Nat.le_of_ble_eq_true rfl)
set_option maxHeartbeats 4000000 in
set_option maxRecDepth 100000 in
theorem bk_X4_at_22 {D : va_G} {dA : Nat → ClassId} {base t0 : Nat} {l : Launch} {p : Program} {e : Env} {s : State} {m : MethodId} {args : Array Value} {below : List Frame} {meth : Method} {c : Code} (X : zz_X D dA base t0 "Springseat$Grid" cX4_at 2 (some .int) l p s m meth c) (hT : l.stackTraces = false) {h : zz_H} {n : Nat} {H : Heap} {locs : List Loc} {ls : Array Slot} (hR : zz_R D dA base h n s H locs) (hl : lv_has ls 2 []) {r0 : Int32} (hf : f_X4_at_22 h = some r0) : W p l e rm_X4_at s m args below meth c H locs 0 0 (MQ below (zz_Qc D dA base (some (.int r0)) h n) args s rm_X4_at.cells rm_X4_at.slots (fun q => base ≤ q)) (F0 m 22 ls []) := by
  have hx := X.1
  have hb := X.2.1
  have hown := X.2.2.2.2.1
  unfold f_X4_at_22 at hf
  refine lv_iconst (v := (0 : Int32)) hx hb dX4_at_22 (by decide) ?_
  exact bk_X4_at_23 X hT hR (lv_sub hl [] rfl) hf
set_option maxHeartbeats 4000000 in
set_option maxRecDepth 100000 in
theorem mt_X4_at {D : va_G} {dA : Nat → ClassId} {base t0 : Nat} {l : Launch} (hT : l.stackTraces = false) (a0 : Nat) (x1 : Int32) (h : zz_H) (n : Nat) {r0 : Int32} (hf : f_X4_at a0 x1 h = some r0) : zz_M D dA base t0 l yX4_at cX4_at 2 (some .int) rm_X4_at [.ref a0, .int x1] h n (some (.int r0)) h n := by
  refine Met.ofW (cc := cX4_at) (maxL := 2) (ret := (some .int)) (by decide +kernel) rfl ?_
  intro p e s m args below meth c s₁ B hml hv
  obtain ⟨rfl, hP, hK⟩ := hv
  have X : zz_X D dA base t0 "Springseat$Grid" cX4_at 2 (some .int) l p s m meth c := ⟨B.exec, B.bytes, hml, B.returns, findClass_of_methodNamed B.named, B.notSynchronized, hT, by rw [hP.1]; exact hP.2.1, hK⟩
  have hx := X.1
  have hb := X.2.1
  have hown := X.2.2.2.2.1
  have hR : zz_R D dA base h n s s.heap [] := ⟨hP, va_S.rf⟩
  have hl := lv_entry ([.ref a0, .int x1]) (n := 2) (by exact Nat.le_of_ble_eq_true rfl)
  rw [lg_entry_eq]
  generalize (lg_sl ([.ref a0, .int x1]) ++ List.replicate (2 - (lg_sl ([.ref a0, .int x1])).length) Slot.unset).toArray = ls at hl ⊢
  have hl : lv_has ls 2 [(0, .ref a0), (1, .int x1)] := hl
  unfold f_X4_at at hf
  refine lv_iload_n hx hb dX4_at_0 rfl (lv_at hl 1 rfl) ?_
  refine lv_if_lt (tgt := 22) hx hb dX4_at_1 (by decide) (fun c1 => ?_) (fun c1 => ?_)
  · replace hf := zz_pos c1 hf
    exact bk_X4_at_22 X hT hR (lv_sub hl [] rfl) hf
  · replace hf := zz_neg c1 hf
    refine lv_iload_n hx hb dX4_at_4 rfl (lv_at hl 1 rfl) ?_
    refine lv_aload_n hx hb dX4_at_5 rfl (lv_at hl 0 rfl) ?_
    refine zr_gq X hR (r := (some a0)) fl_X4_9 dX4_at_6 hf (fun v6 hf => ?_)
    refine zr_alen X hR (r := v6) dX4_at_9 hf (fun v9 hf => ?_)
    refine lv_icmp_ge (tgt := 22) hx hb dX4_at_10 (by decide) (fun c10 => ?_) (fun c10 => ?_)
    · replace hf := zz_pos c10 hf
      exact bk_X4_at_22 X hT hR (lv_sub hl [] rfl) hf
    · replace hf := zz_neg c10 hf
      refine lv_aload_n hx hb dX4_at_13 rfl (lv_at hl 0 rfl) ?_
      refine zr_gq X hR (r := (some a0)) fl_X4_9 dX4_at_14 hf (fun v14 hf => ?_)
      refine lv_iload_n hx hb dX4_at_17 rfl (lv_at hl 1 rfl) ?_
      refine zr_iald X hR (r := v14) dX4_at_18 hf (fun v18 hf => ?_)
      refine lv_goto (tgt := 23) hx hb dX4_at_19 (by decide) ?_
      exact bk_X4_at_23 X hT hR (lv_sub hl [] rfl) hf
def rm_X3_heightAt : Room := { frames := 1, cells := 0, slots := 0, locals := 21 }
theorem mf_X3_heightAt : zz_Mf yX3_heightAt cX3_heightAt 3 (some .int) 1 := ⟨q_342, q_20, by decide +kernel, by decide +kernel, by decide +kernel⟩
set_option maxHeartbeats 4000000 in
set_option maxRecDepth 100000 in
theorem mt_X3_heightAt {D : va_G} {dA : Nat → ClassId} {base t0 : Nat} {l : Launch} (hT : l.stackTraces = false) (a0 : Nat) (x1 : Int32) (h : zz_H) (n : Nat) {r0 : Int32} (hf : f_X3_heightAt a0 x1 h = some r0) : zz_M D dA base t0 l yX3_heightAt cX3_heightAt 3 (some .int) rm_X3_heightAt [.ref a0, .int x1] h n (some (.int r0)) h n := by
  refine Met.ofW (cc := cX3_heightAt) (maxL := 3) (ret := (some .int)) (by decide +kernel) rfl ?_
  intro p e s m args below meth c s₁ B hml hv
  obtain ⟨rfl, hP, hK⟩ := hv
  have X : zz_X D dA base t0 "Springseat$Frame" cX3_heightAt 3 (some .int) l p s m meth c := ⟨B.exec, B.bytes, hml, B.returns, findClass_of_methodNamed B.named, B.notSynchronized, hT, by rw [hP.1]; exact hP.2.1, hK⟩
  have hx := X.1
  have hb := X.2.1
  have hown := X.2.2.2.2.1
  have hR : zz_R D dA base h n s s.heap [] := ⟨hP, va_S.rf⟩
  have hl := lv_entry ([.ref a0, .int x1]) (n := 3) (by exact Nat.le_of_ble_eq_true rfl)
  rw [lg_entry_eq]
  generalize (lg_sl ([.ref a0, .int x1]) ++ List.replicate (3 - (lg_sl ([.ref a0, .int x1])).length) Slot.unset).toArray = ls at hl ⊢
  have hl : lv_has ls 3 [(0, .ref a0), (1, .int x1)] := hl
  unfold f_X3_heightAt at hf
  refine lv_aload_n hx hb dX3_heightAt_0 rfl (lv_at hl 0 rfl) ?_
  refine zr_gq X hR (r := (some a0)) fl_X3_21 dX3_heightAt_1 hf (fun v1 hf => ?_)
  refine lv_iload_n hx hb dX3_heightAt_4 rfl (lv_at hl 1 rfl) ?_
  refine lv_bipush (v := (10 : Int32)) hx hb dX3_heightAt_5 (by decide) ?_
  obtain ⟨hne7, hf⟩ := zz_dv_i hf
  refine lv_idiv hx hb dX3_heightAt_7 hne7 ?_
  obtain ⟨v8, hv8, hf⟩ := zz_b_i hf
  refine zr_cS X hR hl.1 (As := [va_rf v1, .int (x1 / (10 : Int32))]) (rest := []) (mt_X3_tieAt hT v1 (x1 / (10 : Int32)) h n hv8) mf_X3_tieAt q_343 q_344 ⟨Nat.le_of_ble_eq_true rfl, Nat.le_of_ble_eq_true rfl⟩ ⟨Nat.le_of_ble_eq_true rfl, Nat.le_of_ble_eq_true rfl⟩ rfl (Nat.le_of_ble_eq_true rfl) dX3_heightAt_8 (fun H locs hR => ?_)
  refine W.eq (g2 := F0 m 11 ls [.int v8]) rfl ?_
  refine lv_aload_n hx hb dX3_heightAt_11 rfl (lv_at hl 0 rfl) ?_
  refine zr_gq X hR (r := (some a0)) fl_X3_25 dX3_heightAt_12 hf (fun v12 hf => ?_)
  refine lv_iload_n hx hb dX3_heightAt_15 rfl (lv_at hl 1 rfl) ?_
  refine lv_bipush (v := (10 : Int32)) hx hb dX3_heightAt_16 (by decide) ?_
  obtain ⟨hne18, hf⟩ := zz_dv_i hf
  refine lv_irem hx hb dX3_heightAt_18 hne18 ?_
  obtain ⟨v19, hv19, hf⟩ := zz_b_i hf
  refine zr_cS X hR hl.1 (As := [va_rf v12, .int (zz_rem x1 (10 : Int32))]) (rest := [.int v8]) (mt_X3_tieAt hT v12 (zz_rem x1 (10 : Int32)) h n hv19) mf_X3_tieAt q_343 q_344 ⟨Nat.le_of_ble_eq_true rfl, Nat.le_of_ble_eq_true rfl⟩ ⟨Nat.le_of_ble_eq_true rfl, Nat.le_of_ble_eq_true rfl⟩ rfl (Nat.le_of_ble_eq_true rfl) dX3_heightAt_19 (fun H locs hR => ?_)
  refine W.eq (g2 := F0 m 22 ls [.int v19, .int v8]) rfl ?_
  refine zr_min X hl.1 q_346 q_142 q_8 q_143 (Nat.le_of_ble_eq_true rfl) ⟨Nat.le_of_ble_eq_true rfl, Nat.le_of_ble_eq_true rfl⟩ ⟨Nat.le_of_ble_eq_true rfl, Nat.le_of_ble_eq_true rfl⟩ dX3_heightAt_22 ?_
  refine W.eq (g2 := F0 m 25 ls [.int (zz_min v8 v19)]) rfl ?_
  refine lv_istore_n (i := 2) (lv' := [(2, .int (zz_min v8 v19)), (0, .ref a0), (1, .int x1)]) hx hb dX3_heightAt_25 rfl hl (by decide) rfl (fun ls hl => ?_)
  refine lv_aload_n hx hb dX3_heightAt_26 rfl (lv_at hl 1 rfl) ?_
  refine zr_gq X hR (r := (some a0)) fl_X3_12 dX3_heightAt_27 hf (fun v27 hf => ?_)
  refine lv_iload_n hx hb dX3_heightAt_30 rfl (lv_at hl 2 rfl) ?_
  obtain ⟨b31, fs31, hr31, ho31, hf⟩ := zz_ob_i hf
  obtain ⟨v31, hv31, hf⟩ := zz_b_i hf
  refine zr_cV X hR hl.1 (As := [.int x1]) (rest := []) (C := RX4) (T := TX4) (N := 1) (mt_X4_at hT b31 x1 h n hv31) rfl ho31 mf_X4_at q_347 q_302 q_303 ⟨Nat.le_of_ble_eq_true rfl, Nat.le_of_ble_eq_true rfl⟩ ⟨Nat.le_of_ble_eq_true rfl, Nat.le_of_ble_eq_true rfl⟩ (by rw [hr31]; rfl) (Nat.le_of_ble_eq_true rfl) dX3_heightAt_31 (fun H locs hR => ?_)
  refine W.eq (g2 := F0 m 34 ls [.int v31]) rfl ?_
  refine lv_iload_n hx hb dX3_heightAt_34 rfl (lv_at hl 0 rfl) ?_
  refine zr_min X hl.1 q_346 q_142 q_8 q_143 (Nat.le_of_ble_eq_true rfl) ⟨Nat.le_of_ble_eq_true rfl, Nat.le_of_ble_eq_true rfl⟩ ⟨Nat.le_of_ble_eq_true rfl, Nat.le_of_ble_eq_true rfl⟩ dX3_heightAt_35 ?_
  refine W.eq (g2 := F0 m 38 ls [.int (zz_min v31 (zz_min v8 v19))]) rfl ?_
  cases hf
  exact zr_iret X hR dX3_heightAt_38 (Nat.le_of_ble_eq_true rfl) (Nat.le_of_ble_eq_true rfl)
def rm_X3_heightInAll : Room := { frames := 2, cells := 0, slots := 0, locals := 43 }
theorem mf_X3_heightInAll : zz_Mf yX3_heightInAll cX3_heightInAll 3 (some .int) 0 := ⟨q_743, q_20, by decide +kernel, by decide +kernel, by decide +kernel⟩
set_option maxHeartbeats 4000000 in
set_option maxRecDepth 100000 in
theorem bk_X3_heightInAll_4 {D : va_G} {dA : Nat → ClassId} {base t0 : Nat} {l : Launch} {p : Program} {e : Env} {s : State} {m : MethodId} {args : Array Value} {below : List Frame} {meth : Method} {c : Code} (X : zz_X D dA base t0 "Springseat$Frame" cX3_heightInAll 3 (some .int) l p s m meth c) (hT : l.stackTraces = false) {a0 : Nat} {x1 : Int32} {x2 : Int32} {h : zz_H} {n : Nat} {H : Heap} {locs : List Loc} {ls : Array Slot} (hR : zz_R D dA base h n s H locs) (hl : lv_has ls 3 [(0, .ref a0), (1, .int x1), (2, .int x2)]) {r0 : Int32} {o : ((Int32 × Int32) ⊕ Int32)} (hf : f_X3_heightInAll_4 a0 x1 x2 h = some o) (k0 : ∀ (w1 : Int32) (w2 : Int32), o = (.inl (w1, w2)) → ∀ {H : Heap} {locs : List Loc} {ls : Array Slot}, zz_R D dA base h n s H locs → lv_has ls 3 [(0, .ref a0), (1, .int w1), (2, .int w2)] → W p l e rm_X3_heightInAll s m args below meth c H locs 0 0 (MQ below (zz_Qc D dA base (some (.int r0)) h n) args s rm_X3_heightInAll.cells rm_X3_heightInAll.slots (fun q => base ≤ q)) (F0 m 4 ls [])) (hret : ∀ r, o = (.inr r) → r = r0) : W p l e rm_X3_heightInAll s m args below meth c H locs 0 0 (MQ below (zz_Qc D dA base (some (.int r0)) h n) args s rm_X3_heightInAll.cells rm_X3_heightInAll.slots (fun q => base ≤ q)) (F0 m 4 ls []) := by
  have hx := X.1
  have hb := X.2.1
  have hown := X.2.2.2.2.1
  unfold f_X3_heightInAll_4 at hf
  refine lv_iload_n hx hb dX3_heightInAll_4 rfl (lv_at hl 2 rfl) ?_
  refine lv_aload_n hx hb dX3_heightInAll_5 rfl (lv_at hl 0 rfl) ?_
  obtain ⟨fs6, ho6, hf⟩ := zz_obS_i hf
  obtain ⟨v6, hv6, hf⟩ := zz_b_i hf
  refine zr_cV X hR hl.1 (As := []) (rest := [.int x2]) (C := RX3) (T := TX3) (N := 7) (mt_X3_cellCount hT a0 h n hv6) rfl ho6 mf_X3_cellCount q_698 q_289 q_290 ⟨Nat.le_of_ble_eq_true rfl, Nat.le_of_ble_eq_true rfl⟩ ⟨Nat.le_of_ble_eq_true rfl, Nat.le_of_ble_eq_true rfl⟩ rfl (Nat.le_of_ble_eq_true rfl) dX3_heightInAll_6 (fun H locs hR => ?_)
  refine W.eq (g2 := F0 m 9 ls [.int v6, .int x2]) rfl ?_
  refine lv_icmp_ge (tgt := 30) hx hb dX3_heightInAll_9 (by decide) (fun c9 => ?_) (fun c9 => ?_)
  · replace hf := zz_pos c9 hf
    refine lv_iload_n hx hb dX3_heightInAll_30 rfl (lv_at hl 1 rfl) ?_
    cases hf
    cases hret _ rfl
    exact zr_iret X hR dX3_heightInAll_31 (Nat.le_of_ble_eq_true rfl) (Nat.le_of_ble_eq_true rfl)
  · replace hf := zz_neg c9 hf
    refine lv_iload_n hx hb dX3_heightInAll_12 rfl (lv_at hl 1 rfl) ?_
    refine lv_aload_n hx hb dX3_heightInAll_13 rfl (lv_at hl 0 rfl) ?_
    refine lv_aload_n hx hb dX3_heightInAll_14 rfl (lv_at hl 0 rfl) ?_
    refine lv_iload_n hx hb dX3_heightInAll_15 rfl (lv_at hl 2 rfl) ?_
    obtain ⟨fs16, ho16, hf⟩ := zz_obS_i hf
    obtain ⟨v16, hv16, hf⟩ := zz_b_i hf
    refine zr_cV X hR hl.1 (As := [.int x2]) (rest := [.ref a0, .int x1]) (C := RX3) (T := TX3) (N := 7) (mt_X3_cellAt hT a0 x2 h n hv16) rfl ho16 mf_X3_cellAt q_699 q_293 q_294 ⟨Nat.le_of_ble_eq_true rfl, Nat.le_of_ble_eq_true rfl⟩ ⟨Nat.le_of_ble_eq_true rfl, Nat.le_of_ble_eq_true rfl⟩ rfl (Nat.le_of_ble_eq_true rfl) dX3_heightInAll_16 (fun H locs hR => ?_)
    refine W.eq (g2 := F0 m 19 ls [.int v16, .ref a0, .int x1]) rfl ?_
    obtain ⟨fs19, ho19, hf⟩ := zz_obS_i hf
    obtain ⟨v19, hv19, hf⟩ := zz_b_i hf
    refine zr_cV X hR hl.1 (As := [.int v16]) (rest := [.int x1]) (C := RX3) (T := TX3) (N := 7) (mt_X3_heightAt hT a0 v16 h n hv19) rfl ho19 mf_X3_heightAt q_458 q_340 q_341 ⟨Nat.le_of_ble_eq_true rfl, Nat.le_of_ble_eq_true rfl⟩ ⟨Nat.le_of_ble_eq_true rfl, Nat.le_of_ble_eq_true rfl⟩ rfl (Nat.le_of_ble_eq_true rfl) dX3_heightInAll_19 (fun H locs hR => ?_)
    refine W.eq (g2 := F0 m 22 ls [.int v19, .int x1]) rfl ?_
    refine lv_iadd hx hb dX3_heightInAll_22 ?_
    refine lv_istore_n (i := 1) (lv' := [(1, .int (x1 + v19)), (0, .ref a0), (2, .int x2)]) hx hb dX3_heightInAll_23 rfl hl (by decide) rfl (fun ls hl => ?_)
    refine lv_iinc (i := 2) (v := (x2 + (1 : Int32))) (lv' := [(2, .int (x2 + (1 : Int32))), (1, .int (x1 + v19)), (0, .ref a0)]) hx hb dX3_heightInAll_24 hl (k := 2) rfl rfl (by decide) rfl (fun ls hl => ?_)
    refine lv_goto (tgt := 4) hx hb dX3_heightInAll_27 (by decide) ?_
    cases hf
    exact k0 _ _ rfl hR (lv_sub hl [2, 1, 0] rfl)
set_option maxHeartbeats 4000000 in
set_option maxRecDepth 100000 in
theorem lp_X3_heightInAll_4 {D : va_G} {dA : Nat → ClassId} {base t0 : Nat} {l : Launch} {p : Program} {e : Env} {s : State} {m : MethodId} {args : Array Value} {below : List Frame} {meth : Method} {c : Code} (X : zz_X D dA base t0 "Springseat$Frame" cX3_heightInAll 3 (some .int) l p s m meth c) (hT : l.stackTraces = false) (a0 : Nat) {h : zz_H} {n : Nat} {r0 : Int32} : ∀ (k : Nat) (x1 : Int32) (x2 : Int32), zz_it (fun s : (Int32 × Int32) => f_X3_heightInAll_4 a0 s.1 s.2 h) k (x1, x2) = some r0 → ∀ {H : Heap} {locs : List Loc} {ls : Array Slot}, zz_R D dA base h n s H locs → lv_has ls 3 [(0, .ref a0), (1, .int x1), (2, .int x2)] → W p l e rm_X3_heightInAll s m args below meth c H locs 0 0 (MQ below (zz_Qc D dA base (some (.int r0)) h n) args s rm_X3_heightInAll.cells rm_X3_heightInAll.slots (fun q => base ≤ q)) (F0 m 4 ls []) := by
  intro k
  induction k with
  | zero => intro x1 x2 hf; cases hf
  | succ k ih =>
    intro x1 x2 hf H locs ls hR hl
    rcases zz_it_s hf with ⟨⟨y0, y1⟩, h1, h2⟩ | h1
    · exact bk_X3_heightInAll_4 (r0 := r0) X hT hR hl h1  (fun z0 z1 e => by cases e; exact ih _ _ h2) (fun r e => by cases e)
    · exact bk_X3_heightInAll_4 (r0 := r0) X hT hR hl h1  (fun z0 z1 e => by cases e) (fun r e => (Sum.inr.inj e).symm)
set_option maxHeartbeats 4000000 in
set_option maxRecDepth 100000 in
theorem mt_X3_heightInAll {D : va_G} {dA : Nat → ClassId} {base t0 : Nat} {l : Launch} (hT : l.stackTraces = false) (a0 : Nat) (h : zz_H) (n : Nat) {r0 : Int32} (hf : f_X3_heightInAll a0 h = some r0) : zz_M D dA base t0 l yX3_heightInAll cX3_heightInAll 3 (some .int) rm_X3_heightInAll [.ref a0] h n (some (.int r0)) h n := by
  refine Met.ofW (cc := cX3_heightInAll) (maxL := 3) (ret := (some .int)) (by decide +kernel) rfl ?_
  intro p e s m args below meth c s₁ B hml hv
  obtain ⟨rfl, hP, hK⟩ := hv
  have X : zz_X D dA base t0 "Springseat$Frame" cX3_heightInAll 3 (some .int) l p s m meth c := ⟨B.exec, B.bytes, hml, B.returns, findClass_of_methodNamed B.named, B.notSynchronized, hT, by rw [hP.1]; exact hP.2.1, hK⟩
  have hx := X.1
  have hb := X.2.1
  have hown := X.2.2.2.2.1
  have hR : zz_R D dA base h n s s.heap [] := ⟨hP, va_S.rf⟩
  have hl := lv_entry ([.ref a0]) (n := 3) (by exact Nat.le_of_ble_eq_true rfl)
  rw [lg_entry_eq]
  generalize (lg_sl ([.ref a0]) ++ List.replicate (3 - (lg_sl ([.ref a0])).length) Slot.unset).toArray = ls at hl ⊢
  have hl : lv_has ls 3 [(0, .ref a0)] := hl
  unfold f_X3_heightInAll at hf
  refine lv_iconst (v := (0 : Int32)) hx hb dX3_heightInAll_0 (by decide) ?_
  refine lv_istore_n (i := 1) (lv' := [(1, .int (0 : Int32)), (0, .ref a0)]) hx hb dX3_heightInAll_1 rfl hl (by decide) rfl (fun ls hl => ?_)
  refine lv_iconst (v := (0 : Int32)) hx hb dX3_heightInAll_2 (by decide) ?_
  refine lv_istore_n (i := 2) (lv' := [(2, .int (0 : Int32)), (1, .int (0 : Int32)), (0, .ref a0)]) hx hb dX3_heightInAll_3 rfl hl (by decide) rfl (fun ls hl => ?_)
  exact lp_X3_heightInAll_4 X hT a0 zz_F _ _ hf hR (lv_sub hl [2, 1, 0] rfl)
def rm_X3_sinkingUnder : Room := { frames := 2, cells := 0, slots := 0, locals := 43 }
theorem mf_X3_sinkingUnder : zz_Mf yX3_sinkingUnder cX3_sinkingUnder 3 (some .int) 2 := ⟨q_457, q_20, by decide +kernel, by decide +kernel, by decide +kernel⟩
set_option maxHeartbeats 4000000 in
set_option maxRecDepth 100000 in
theorem mt_X3_sinkingUnder {D : va_G} {dA : Nat → ClassId} {base t0 : Nat} {l : Launch} (hT : l.stackTraces = false) (a0 : Nat) (x1 : Int32) (x2 : Int32) (h : zz_H) (n : Nat) {r0 : Int32} (hf : f_X3_sinkingUnder a0 x1 x2 h = some r0) : zz_M D dA base t0 l yX3_sinkingUnder cX3_sinkingUnder 3 (some .int) rm_X3_sinkingUnder [.ref a0, .int x1, .int x2] h n (some (.int r0)) h n := by
  refine Met.ofW (cc := cX3_sinkingUnder) (maxL := 3) (ret := (some .int)) (by decide +kernel) rfl ?_
  intro p e s m args below meth c s₁ B hml hv
  obtain ⟨rfl, hP, hK⟩ := hv
  have X : zz_X D dA base t0 "Springseat$Frame" cX3_sinkingUnder 3 (some .int) l p s m meth c := ⟨B.exec, B.bytes, hml, B.returns, findClass_of_methodNamed B.named, B.notSynchronized, hT, by rw [hP.1]; exact hP.2.1, hK⟩
  have hx := X.1
  have hb := X.2.1
  have hown := X.2.2.2.2.1
  have hR : zz_R D dA base h n s s.heap [] := ⟨hP, va_S.rf⟩
  have hl := lv_entry ([.ref a0, .int x1, .int x2]) (n := 3) (by exact Nat.le_of_ble_eq_true rfl)
  rw [lg_entry_eq]
  generalize (lg_sl ([.ref a0, .int x1, .int x2]) ++ List.replicate (3 - (lg_sl ([.ref a0, .int x1, .int x2])).length) Slot.unset).toArray = ls at hl ⊢
  have hl : lv_has ls 3 [(0, .ref a0), (1, .int x1), (2, .int x2)] := hl
  unfold f_X3_sinkingUnder at hf
  refine lv_aload_n hx hb dX3_sinkingUnder_0 rfl (lv_at hl 0 rfl) ?_
  refine lv_iload_n hx hb dX3_sinkingUnder_1 rfl (lv_at hl 2 rfl) ?_
  obtain ⟨fs2, ho2, hf⟩ := zz_obS_i hf
  obtain ⟨v2, hv2, hf⟩ := zz_b_i hf
  refine zr_cV X hR hl.1 (As := [.int x2]) (rest := []) (C := RX3) (T := TX3) (N := 7) (mt_X3_heightAt hT a0 x2 h n hv2) rfl ho2 mf_X3_heightAt q_458 q_340 q_341 ⟨Nat.le_of_ble_eq_true rfl, Nat.le_of_ble_eq_true rfl⟩ ⟨Nat.le_of_ble_eq_true rfl, Nat.le_of_ble_eq_true rfl⟩ rfl (Nat.le_of_ble_eq_true rfl) dX3_sinkingUnder_2 (fun H locs hR => ?_)
  refine W.eq (g2 := F0 m 5 ls [.int v2]) rfl ?_
  refine lv_bipush (v := (10 : Int32)) hx hb dX3_sinkingUnder_5 (by decide) ?_
  refine lv_iload_n hx hb dX3_sinkingUnder_7 rfl (lv_at hl 1 rfl) ?_
  refine lv_imul hx hb dX3_sinkingUnder_8 ?_
  refine lv_i2l hx hb dX3_sinkingUnder_9 rfl ?_
  refine lv_aload_n hx hb dX3_sinkingUnder_10 rfl (lv_at hl 0 rfl) ?_
  refine zr_gq X hR (r := (some a0)) fl_X3_18 dX3_sinkingUnder_11 hf (fun v11 hf => ?_)
  refine lv_iload_n hx hb dX3_sinkingUnder_14 rfl (lv_at hl 2 rfl) ?_
  obtain ⟨b15, fs15, hr15, ho15, hf⟩ := zz_ob_i hf
  obtain ⟨v15, hv15, hf⟩ := zz_b_i hf
  refine zr_cV X hR hl.1 (As := [.int x2]) (rest := [.long (((10 : Int32) * x1)).toInt64, .int v2]) (C := RX4) (T := TX4) (N := 1) (mt_X4_at hT b15 x2 h n hv15) rfl ho15 mf_X4_at q_347 q_302 q_303 ⟨Nat.le_of_ble_eq_true rfl, Nat.le_of_ble_eq_true rfl⟩ ⟨Nat.le_of_ble_eq_true rfl, Nat.le_of_ble_eq_true rfl⟩ (by rw [hr15]; rfl) (Nat.le_of_ble_eq_true rfl) dX3_sinkingUnder_15 (fun H locs hR => ?_)
  refine W.eq (g2 := F0 m 18 ls [.int v15, .long (((10 : Int32) * x1)).toInt64, .int v2]) rfl ?_
  refine lv_aload_n hx hb dX3_sinkingUnder_18 rfl (lv_at hl 0 rfl) ?_
  refine zr_gi X hR (r := (some a0)) fl_X3_79 dX3_sinkingUnder_19 hf (fun v19 hf => ?_)
  refine lv_iadd hx hb dX3_sinkingUnder_22 ?_
  refine lv_i2l hx hb dX3_sinkingUnder_23 rfl ?_
  obtain ⟨v24, hv24, hf⟩ := zz_b_i hf
  refine zr_cSN X hR hl.1 (As := [.long (((10 : Int32) * x1)).toInt64, .long ((v15 + v19)).toInt64]) (rest := [.int v2]) (mt_X9_quotient hT ((((10 : Int32) * x1)).toInt64) (((v15 + v19)).toInt64) h n hv24) mf_X9_quotient q_459 q_460 ⟨Nat.le_of_ble_eq_true rfl, Nat.le_of_ble_eq_true rfl⟩ ⟨Nat.le_of_ble_eq_true rfl, Nat.le_of_ble_eq_true rfl⟩ rfl (Nat.le_of_ble_eq_true rfl) dX3_sinkingUnder_24 (fun H locs hR => ?_)
  refine W.eq (g2 := F0 m 27 ls [.int v24, .int v2]) rfl ?_
  refine zr_min X hl.1 q_346 q_142 q_8 q_143 (Nat.le_of_ble_eq_true rfl) ⟨Nat.le_of_ble_eq_true rfl, Nat.le_of_ble_eq_true rfl⟩ ⟨Nat.le_of_ble_eq_true rfl, Nat.le_of_ble_eq_true rfl⟩ dX3_sinkingUnder_27 ?_
  refine W.eq (g2 := F0 m 30 ls [.int (zz_min v2 v24)]) rfl ?_
  cases hf
  exact zr_iret X hR dX3_sinkingUnder_30 (Nat.le_of_ble_eq_true rfl) (Nat.le_of_ble_eq_true rfl)
def rm_X3_pulledIn : Room := { frames := 0, cells := 0, slots := 0, locals := 0 }
theorem mf_X3_pulledIn : zz_Mf yX3_pulledIn cX3_pulledIn 3 (some .int) 1 := ⟨q_986, q_20, by decide +kernel, by decide +kernel, by decide +kernel⟩
set_option maxHeartbeats 4000000 in
set_option maxRecDepth 100000 in
theorem bk_X3_pulledIn_21 {D : va_G} {dA : Nat → ClassId} {base t0 : Nat} {l : Launch} {p : Program} {e : Env} {s : State} {m : MethodId} {args : Array Value} {below : List Frame} {meth : Method} {c : Code} (X : zz_X D dA base t0 "Springseat$Frame" cX3_pulledIn 3 (some .int) l p s m meth c) (hT : l.stackTraces = false) {x0 : (Option Nat)} {x1 : Int32} {x2 : Int32} {h : zz_H} {n : Nat} {H : Heap} {locs : List Loc} {ls : Array Slot} (hR : zz_R D dA base h n s H locs) (hl : lv_has ls 3 [(0, va_rf x0), (1, .int x1), (2, .int x2)]) {r0 : Int32} {o : ((Int32 × Int32) ⊕ Int32)} (hf : f_X3_pulledIn_21 x0 x1 x2 h = some o) (k0 : ∀ (w1 : Int32) (w2 : Int32), o = (.inl (w1, w2)) → ∀ {H : Heap} {locs : List Loc} {ls : Array Slot}, zz_R D dA base h n s H locs → lv_has ls 3 [(0, va_rf x0), (1, .int w1), (2, .int w2)] → W p l e rm_X3_pulledIn s m args below meth c H locs 0 0 (MQ below (zz_Qc D dA base (some (.int r0)) h n) args s rm_X3_pulledIn.cells rm_X3_pulledIn.slots (fun q => base ≤ q)) (F0 m 4 ls [])) (hret : ∀ r, o = (.inr r) → r = r0) : W p l e rm_X3_pulledIn s m args below meth c H locs 0 0 (MQ below (zz_Qc D dA base (some (.int r0)) h n) args s rm_X3_pulledIn.cells rm_X3_pulledIn.slots (fun q => base ≤ q)) (F0 m 21 ls []) := by
  have hx := X.1
  have hb := X.2.1
  have hown := X.2.2.2.2.1
  unfold f_X3_pulledIn_21 at hf
  refine lv_iinc (i := 2) (v := (x2 + (1 : Int32))) (lv' := [(2, .int (x2 + (1 : Int32))), (0, va_rf x0), (1, .int x1)]) hx hb dX3_pulledIn_21 hl (k := 2) rfl rfl (by decide) rfl (fun ls hl => ?_)
  refine lv_goto (tgt := 4) hx hb dX3_pulledIn_24 (by decide) ?_
  cases hf
  exact k0 _ _ rfl hR (lv_sub hl [1, 2, 0] rfl)
set_option maxHeartbeats 4000000 in
set_option maxRecDepth 100000 in
theorem bk_X3_pulledIn_4 {D : va_G} {dA : Nat → ClassId} {base t0 : Nat} {l : Launch} {p : Program} {e : Env} {s : State} {m : MethodId} {args : Array Value} {below : List Frame} {meth : Method} {c : Code} (X : zz_X D dA base t0 "Springseat$Frame" cX3_pulledIn 3 (some .int) l p s m meth c) (hT : l.stackTraces = false) {x0 : (Option Nat)} {x1 : Int32} {x2 : Int32} {h : zz_H} {n : Nat} {H : Heap} {locs : List Loc} {ls : Array Slot} (hR : zz_R D dA base h n s H locs) (hl : lv_has ls 3 [(0, va_rf x0), (1, .int x1), (2, .int x2)]) {r0 : Int32} {o : ((Int32 × Int32) ⊕ Int32)} (hf : f_X3_pulledIn_4 x0 x1 x2 h = some o) (k0 : ∀ (w1 : Int32) (w2 : Int32), o = (.inl (w1, w2)) → ∀ {H : Heap} {locs : List Loc} {ls : Array Slot}, zz_R D dA base h n s H locs → lv_has ls 3 [(0, va_rf x0), (1, .int w1), (2, .int w2)] → W p l e rm_X3_pulledIn s m args below meth c H locs 0 0 (MQ below (zz_Qc D dA base (some (.int r0)) h n) args s rm_X3_pulledIn.cells rm_X3_pulledIn.slots (fun q => base ≤ q)) (F0 m 4 ls [])) (hret : ∀ r, o = (.inr r) → r = r0) : W p l e rm_X3_pulledIn s m args below meth c H locs 0 0 (MQ below (zz_Qc D dA base (some (.int r0)) h n) args s rm_X3_pulledIn.cells rm_X3_pulledIn.slots (fun q => base ≤ q)) (F0 m 4 ls []) := by
  have hx := X.1
  have hb := X.2.1
  have hown := X.2.2.2.2.1
  unfold f_X3_pulledIn_4 at hf
  refine lv_iload_n hx hb dX3_pulledIn_4 rfl (lv_at hl 2 rfl) ?_
  refine zr_aload_n hx hb dX3_pulledIn_5 rfl (lv_at hl 0 rfl) ?_
  refine zr_alen X hR (r := x0) dX3_pulledIn_6 hf (fun v6 hf => ?_)
  refine lv_icmp_ge (tgt := 27) hx hb dX3_pulledIn_7 (by decide) (fun c7 => ?_) (fun c7 => ?_)
  · replace hf := zz_pos c7 hf
    refine lv_iload_n hx hb dX3_pulledIn_27 rfl (lv_at hl 1 rfl) ?_
    cases hf
    cases hret _ rfl
    exact zr_iret X hR dX3_pulledIn_28 (Nat.le_of_ble_eq_true rfl) (Nat.le_of_ble_eq_true rfl)
  · replace hf := zz_neg c7 hf
    refine zr_aload_n hx hb dX3_pulledIn_10 rfl (lv_at hl 0 rfl) ?_
    refine lv_iload_n hx hb dX3_pulledIn_11 rfl (lv_at hl 2 rfl) ?_
    refine zr_iald X hR (r := x0) dX3_pulledIn_12 hf (fun v12 hf => ?_)
    refine lv_bipush (v := (99 : Int32)) hx hb dX3_pulledIn_13 (by decide) ?_
    refine lv_icmp_ge (tgt := 21) hx hb dX3_pulledIn_15 (by decide) (fun c15 => ?_) (fun c15 => ?_)
    · replace hf := zz_pos c15 hf
      exact bk_X3_pulledIn_21 X hT hR (lv_sub hl [0, 1, 2] rfl) hf k0 hret
    · replace hf := zz_neg c15 hf
      refine lv_iinc (i := 1) (v := (x1 + (1 : Int32))) (lv' := [(1, .int (x1 + (1 : Int32))), (0, va_rf x0), (2, .int x2)]) hx hb dX3_pulledIn_18 hl (k := 1) rfl rfl (by decide) (by simp [zz_cat, zz_catI, zz_catR, zz_catJ, zz_catF, zz_catD]) (fun ls hl => ?_)
      exact bk_X3_pulledIn_21 X hT hR (lv_sub hl [1, 0, 2] rfl) hf k0 hret
set_option maxHeartbeats 4000000 in
set_option maxRecDepth 100000 in
theorem lp_X3_pulledIn_4 {D : va_G} {dA : Nat → ClassId} {base t0 : Nat} {l : Launch} {p : Program} {e : Env} {s : State} {m : MethodId} {args : Array Value} {below : List Frame} {meth : Method} {c : Code} (X : zz_X D dA base t0 "Springseat$Frame" cX3_pulledIn 3 (some .int) l p s m meth c) (hT : l.stackTraces = false) (x0 : (Option Nat)) {h : zz_H} {n : Nat} {r0 : Int32} : ∀ (k : Nat) (x1 : Int32) (x2 : Int32), zz_it (fun s : (Int32 × Int32) => f_X3_pulledIn_4 x0 s.1 s.2 h) k (x1, x2) = some r0 → ∀ {H : Heap} {locs : List Loc} {ls : Array Slot}, zz_R D dA base h n s H locs → lv_has ls 3 [(0, va_rf x0), (1, .int x1), (2, .int x2)] → W p l e rm_X3_pulledIn s m args below meth c H locs 0 0 (MQ below (zz_Qc D dA base (some (.int r0)) h n) args s rm_X3_pulledIn.cells rm_X3_pulledIn.slots (fun q => base ≤ q)) (F0 m 4 ls []) := by
  intro k
  induction k with
  | zero => intro x1 x2 hf; cases hf
  | succ k ih =>
    intro x1 x2 hf H locs ls hR hl
    rcases zz_it_s hf with ⟨⟨y0, y1⟩, h1, h2⟩ | h1
    · exact bk_X3_pulledIn_4 (r0 := r0) X hT hR hl h1  (fun z0 z1 e => by cases e; exact ih _ _ h2) (fun r e => by cases e)
    · exact bk_X3_pulledIn_4 (r0 := r0) X hT hR hl h1  (fun z0 z1 e => by cases e) (fun r e => (Sum.inr.inj e).symm)
set_option maxHeartbeats 4000000 in
set_option maxRecDepth 100000 in
theorem mt_X3_pulledIn {D : va_G} {dA : Nat → ClassId} {base t0 : Nat} {l : Launch} (hT : l.stackTraces = false) (x0 : (Option Nat)) (h : zz_H) (n : Nat) {r0 : Int32} (hf : f_X3_pulledIn x0 h = some r0) : zz_M D dA base t0 l yX3_pulledIn cX3_pulledIn 3 (some .int) rm_X3_pulledIn [va_rf x0] h n (some (.int r0)) h n := by
  refine Met.ofW (cc := cX3_pulledIn) (maxL := 3) (ret := (some .int)) (by decide +kernel) rfl ?_
  intro p e s m args below meth c s₁ B hml hv
  obtain ⟨rfl, hP, hK⟩ := hv
  have X : zz_X D dA base t0 "Springseat$Frame" cX3_pulledIn 3 (some .int) l p s m meth c := ⟨B.exec, B.bytes, hml, B.returns, findClass_of_methodNamed B.named, B.notSynchronized, hT, by rw [hP.1]; exact hP.2.1, hK⟩
  have hx := X.1
  have hb := X.2.1
  have hown := X.2.2.2.2.1
  have hR : zz_R D dA base h n s s.heap [] := ⟨hP, va_S.rf⟩
  have hl := lv_entry ([va_rf x0]) (n := 3) (by cases x0 <;> exact Nat.le_of_ble_eq_true rfl)
  rw [lg_entry_eq]
  generalize (lg_sl ([va_rf x0]) ++ List.replicate (3 - (lg_sl ([va_rf x0])).length) Slot.unset).toArray = ls at hl ⊢
  have hl : lv_has ls 3 [(0, va_rf x0)] := by rw [show ([(0, va_rf x0)] : List (Nat × Value)) = lv_args 0 [va_rf x0] from by cases x0 <;> rfl]; exact hl
  unfold f_X3_pulledIn at hf
  refine lv_iconst (v := (0 : Int32)) hx hb dX3_pulledIn_0 (by decide) ?_
  refine lv_istore_n (i := 1) (lv' := [(1, .int (0 : Int32)), (0, va_rf x0)]) hx hb dX3_pulledIn_1 rfl hl (by decide) (by simp [zz_cat, zz_catI, zz_catR, zz_catJ, zz_catF, zz_catD]) (fun ls hl => ?_)
  refine lv_iconst (v := (0 : Int32)) hx hb dX3_pulledIn_2 (by decide) ?_
  refine lv_istore_n (i := 2) (lv' := [(2, .int (0 : Int32)), (1, .int (0 : Int32)), (0, va_rf x0)]) hx hb dX3_pulledIn_3 rfl hl (by decide) rfl (fun ls hl => ?_)
  exact lp_X3_pulledIn_4 X hT x0 zz_F _ _ hf hR (lv_sub hl [2, 1, 0] rfl)
def rm_X3_pulledTies : Room := { frames := 1, cells := 0, slots := 0, locals := 22 }
theorem mf_X3_pulledTies : zz_Mf yX3_pulledTies cX3_pulledTies 1 (some .int) 0 := ⟨q_983, q_20, by decide +kernel, by decide +kernel, by decide +kernel⟩
set_option maxHeartbeats 4000000 in
set_option maxRecDepth 100000 in
theorem mt_X3_pulledTies {D : va_G} {dA : Nat → ClassId} {base t0 : Nat} {l : Launch} (hT : l.stackTraces = false) (a0 : Nat) (h : zz_H) (n : Nat) {r0 : Int32} (hf : f_X3_pulledTies a0 h = some r0) : zz_M D dA base t0 l yX3_pulledTies cX3_pulledTies 1 (some .int) rm_X3_pulledTies [.ref a0] h n (some (.int r0)) h n := by
  refine Met.ofW (cc := cX3_pulledTies) (maxL := 1) (ret := (some .int)) (by decide +kernel) rfl ?_
  intro p e s m args below meth c s₁ B hml hv
  obtain ⟨rfl, hP, hK⟩ := hv
  have X : zz_X D dA base t0 "Springseat$Frame" cX3_pulledTies 1 (some .int) l p s m meth c := ⟨B.exec, B.bytes, hml, B.returns, findClass_of_methodNamed B.named, B.notSynchronized, hT, by rw [hP.1]; exact hP.2.1, hK⟩
  have hx := X.1
  have hb := X.2.1
  have hown := X.2.2.2.2.1
  have hR : zz_R D dA base h n s s.heap [] := ⟨hP, va_S.rf⟩
  have hl := lv_entry ([.ref a0]) (n := 1) (by exact Nat.le_of_ble_eq_true rfl)
  rw [lg_entry_eq]
  generalize (lg_sl ([.ref a0]) ++ List.replicate (1 - (lg_sl ([.ref a0])).length) Slot.unset).toArray = ls at hl ⊢
  have hl : lv_has ls 1 [(0, .ref a0)] := hl
  unfold f_X3_pulledTies at hf
  refine lv_aload_n hx hb dX3_pulledTies_0 rfl (lv_at hl 0 rfl) ?_
  refine zr_gq X hR (r := (some a0)) fl_X3_21 dX3_pulledTies_1 hf (fun v1 hf => ?_)
  obtain ⟨v4, hv4, hf⟩ := zz_b_i hf
  refine zr_cS X hR hl.1 (As := [va_rf v1]) (rest := []) (mt_X3_pulledIn hT v1 h n hv4) mf_X3_pulledIn q_984 q_985 ⟨Nat.le_of_ble_eq_true rfl, Nat.le_of_ble_eq_true rfl⟩ ⟨Nat.le_of_ble_eq_true rfl, Nat.le_of_ble_eq_true rfl⟩ rfl (Nat.le_of_ble_eq_true rfl) dX3_pulledTies_4 (fun H locs hR => ?_)
  refine W.eq (g2 := F0 m 7 ls [.int v4]) rfl ?_
  refine lv_aload_n hx hb dX3_pulledTies_7 rfl (lv_at hl 0 rfl) ?_
  refine zr_gq X hR (r := (some a0)) fl_X3_25 dX3_pulledTies_8 hf (fun v8 hf => ?_)
  obtain ⟨v11, hv11, hf⟩ := zz_b_i hf
  refine zr_cS X hR hl.1 (As := [va_rf v8]) (rest := [.int v4]) (mt_X3_pulledIn hT v8 h n hv11) mf_X3_pulledIn q_984 q_985 ⟨Nat.le_of_ble_eq_true rfl, Nat.le_of_ble_eq_true rfl⟩ ⟨Nat.le_of_ble_eq_true rfl, Nat.le_of_ble_eq_true rfl⟩ rfl (Nat.le_of_ble_eq_true rfl) dX3_pulledTies_11 (fun H locs hR => ?_)
  refine W.eq (g2 := F0 m 14 ls [.int v11, .int v4]) rfl ?_
  refine lv_iadd hx hb dX3_pulledTies_14 ?_
  cases hf
  exact zr_iret X hR dX3_pulledTies_15 (Nat.le_of_ble_eq_true rfl) (Nat.le_of_ble_eq_true rfl)
def rm_X4_clear : Room := { frames := 1, cells := 0, slots := 0, locals := 23 }
theorem mf_X4_clear : zz_Mf yX4_clear cX4_clear 1 none 0 := ⟨q_450, q_5, by decide +kernel, by decide +kernel, by decide +kernel⟩
set_option maxHeartbeats 4000000 in
set_option maxRecDepth 100000 in
theorem mt_X4_clear {D : va_G} {dA : Nat → ClassId} {base t0 : Nat} {l : Launch} (hT : l.stackTraces = false) (a0 : Nat) (h : zz_H) (n : Nat) {r0 : Unit} {hF : zz_H} (hf : f_X4_clear a0 h = some (r0, hF)) : zz_M D dA base t0 l yX4_clear cX4_clear 1 none rm_X4_clear [.ref a0] h n none hF n := by
  refine Met.ofW (cc := cX4_clear) (maxL := 1) (ret := none) (by decide +kernel) rfl ?_
  intro p e s m args below meth c s₁ B hml hv
  obtain ⟨rfl, hP, hK⟩ := hv
  have X : zz_X D dA base t0 "Springseat$Grid" cX4_clear 1 none l p s m meth c := ⟨B.exec, B.bytes, hml, B.returns, findClass_of_methodNamed B.named, B.notSynchronized, hT, by rw [hP.1]; exact hP.2.1, hK⟩
  have hx := X.1
  have hb := X.2.1
  have hown := X.2.2.2.2.1
  have hR : zz_R D dA base h n s s.heap [] := ⟨hP, va_S.rf⟩
  have hl := lv_entry ([.ref a0]) (n := 1) (by exact Nat.le_of_ble_eq_true rfl)
  rw [lg_entry_eq]
  generalize (lg_sl ([.ref a0]) ++ List.replicate (1 - (lg_sl ([.ref a0])).length) Slot.unset).toArray = ls at hl ⊢
  have hl : lv_has ls 1 [(0, .ref a0)] := hl
  unfold f_X4_clear at hf
  refine lv_aload_n hx hb dX4_clear_0 rfl (lv_at hl 0 rfl) ?_
  refine zr_gq X hR (r := (some a0)) fl_X4_9 dX4_clear_1 hf (fun v1 hf => ?_)
  refine lv_iconst (v := (0 : Int32)) hx hb dX4_clear_4 (by decide) ?_
  obtain ⟨u5, h5, hv5, hf⟩ := zz_b1_i hf
  refine zr_cS X hR hl.1 (As := [va_rf v1, .int (0 : Int32)]) (rest := []) (mt_J7_fill_53178 hT v1 (0 : Int32) h n hv5) mf_J7_fill_53178 q_451 q_452 ⟨Nat.le_of_ble_eq_true rfl, Nat.le_of_ble_eq_true rfl⟩ ⟨Nat.le_of_ble_eq_true rfl, Nat.le_of_ble_eq_true rfl⟩ rfl (Nat.le_of_ble_eq_true rfl) dX4_clear_5 (fun H locs hR => ?_)
  refine W.eq (g2 := F0 m 8 ls []) rfl ?_
  cases hf
  exact zr_vret X hR dX4_clear_8 (Nat.le_of_ble_eq_true rfl) (Nat.le_of_ble_eq_true rfl)
def rm_X5_init : Room := { frames := 1, cells := 0, slots := 0, locals := 20 }
theorem mf_X5_init : zz_Mf yX5_init cX5_init 1 none 0 := ⟨q_77, q_6, by decide +kernel, by decide +kernel, by decide +kernel⟩
set_option maxHeartbeats 4000000 in
set_option maxRecDepth 100000 in
theorem mt_X5_init {D : va_G} {dA : Nat → ClassId} {base t0 : Nat} {l : Launch} (hT : l.stackTraces = false) (a0 : Nat) (h : zz_H) (n : Nat) {r0 : Unit} {hF : zz_H} (hf : f_X5_init a0 h = some (r0, hF)) : zz_M D dA base t0 l yX5_init cX5_init 1 none rm_X5_init [.ref a0] h n none hF n := by
  refine Met.ofW (cc := cX5_init) (maxL := 1) (ret := none) (by decide +kernel) rfl ?_
  intro p e s m args below meth c s₁ B hml hv
  obtain ⟨rfl, hP, hK⟩ := hv
  have X : zz_X D dA base t0 "Springseat$Land" cX5_init 1 none l p s m meth c := ⟨B.exec, B.bytes, hml, B.returns, findClass_of_methodNamed B.named, B.notSynchronized, hT, by rw [hP.1]; exact hP.2.1, hK⟩
  have hx := X.1
  have hb := X.2.1
  have hown := X.2.2.2.2.1
  have hR : zz_R D dA base h n s s.heap [] := ⟨hP, va_S.rf⟩
  have hl := lv_entry ([.ref a0]) (n := 1) (by exact Nat.le_of_ble_eq_true rfl)
  rw [lg_entry_eq]
  generalize (lg_sl ([.ref a0]) ++ List.replicate (1 - (lg_sl ([.ref a0])).length) Slot.unset).toArray = ls at hl ⊢
  have hl : lv_has ls 1 [(0, .ref a0)] := hl
  unfold f_X5_init at hf
  refine lv_aload_n hx hb dX5_init_0 rfl (lv_at hl 0 rfl) ?_
  refine zr_obj X hl.1 q_78 q_34 q_35 dX5_init_1 (Nat.le_of_ble_eq_true rfl) ⟨Nat.le_of_ble_eq_true rfl, Nat.le_of_ble_eq_true rfl⟩ ?_
  refine W.eq (g2 := F0 m 4 ls []) rfl ?_
  refine lv_aload_n hx hb dX5_init_4 rfl (lv_at hl 0 rfl) ?_
  refine lv_bipush (v := (45 : Int32)) hx hb dX5_init_5 (by decide) ?_
  refine zr_p X hR (r := (some a0)) (v := .int (45 : Int32)) fl_X5_9 rfl dX5_init_7 rfl rfl hf (fun h7 H locs hf hR => ?_)
  refine lv_aload_n hx hb dX5_init_10 rfl (lv_at hl 0 rfl) ?_
  refine lv_iconst (v := (4 : Int32)) hx hb dX5_init_11 (by decide) ?_
  refine zr_p X hR (r := (some a0)) (v := .int (4 : Int32)) fl_X5_15 rfl dX5_init_12 rfl rfl hf (fun h12 H locs hf hR => ?_)
  cases hf
  exact zr_vret X hR dX5_init_15 (Nat.le_of_ble_eq_true rfl) (Nat.le_of_ble_eq_true rfl)
def rm_X6_init : Room := { frames := 1, cells := 0, slots := 0, locals := 20 }
theorem mf_X6_init : zz_Mf yX6_init cX6_init 4 none 3 := ⟨q_764, q_26, by decide +kernel, by decide +kernel, by decide +kernel⟩
set_option maxHeartbeats 4000000 in
set_option maxRecDepth 100000 in
theorem mt_X6_init {D : va_G} {dA : Nat → ClassId} {base t0 : Nat} {l : Launch} (hT : l.stackTraces = false) (a0 : Nat) (x1 : Int32) (x2 : Int32) (x3 : Int32) (h : zz_H) (n : Nat) {r0 : Unit} {hF : zz_H} (hf : f_X6_init a0 x1 x2 x3 h = some (r0, hF)) : zz_M D dA base t0 l yX6_init cX6_init 4 none rm_X6_init [.ref a0, .int x1, .int x2, .int x3] h n none hF n := by
  refine Met.ofW (cc := cX6_init) (maxL := 4) (ret := none) (by decide +kernel) rfl ?_
  intro p e s m args below meth c s₁ B hml hv
  obtain ⟨rfl, hP, hK⟩ := hv
  have X : zz_X D dA base t0 "Springseat$Layer" cX6_init 4 none l p s m meth c := ⟨B.exec, B.bytes, hml, B.returns, findClass_of_methodNamed B.named, B.notSynchronized, hT, by rw [hP.1]; exact hP.2.1, hK⟩
  have hx := X.1
  have hb := X.2.1
  have hown := X.2.2.2.2.1
  have hin : meth.name = "<init>" := (name_of_methodNamed B.named B.method).1
  have hR : zz_R D dA base h n s s.heap [] := ⟨hP, va_S.rf⟩
  have hl := lv_entry ([.ref a0, .int x1, .int x2, .int x3]) (n := 4) (by exact Nat.le_of_ble_eq_true rfl)
  rw [lg_entry_eq]
  generalize (lg_sl ([.ref a0, .int x1, .int x2, .int x3]) ++ List.replicate (4 - (lg_sl ([.ref a0, .int x1, .int x2, .int x3])).length) Slot.unset).toArray = ls at hl ⊢
  have hl : lv_has ls 4 [(0, .ref a0), (1, .int x1), (2, .int x2), (3, .int x3)] := hl
  unfold f_X6_init at hf
  refine lv_aload_n hx hb dX6_init_0 rfl (lv_at hl 0 rfl) ?_
  refine zr_obj X hl.1 q_765 q_34 q_35 dX6_init_1 (Nat.le_of_ble_eq_true rfl) ⟨Nat.le_of_ble_eq_true rfl, Nat.le_of_ble_eq_true rfl⟩ ?_
  refine W.eq (g2 := F0 m 4 ls []) rfl ?_
  refine lv_aload_n hx hb dX6_init_4 rfl (lv_at hl 0 rfl) ?_
  refine lv_iload_n hx hb dX6_init_5 rfl (lv_at hl 1 rfl) ?_
  obtain ⟨hz6, hf⟩ := zz_gc_i hf
  refine zr_pF X hR (r := (some a0)) (v := .int x1) fl_X6_9 rfl hin rfl dX6_init_6 (zz_nc hz6) (zz_fc hz6) hf (fun h6 H locs hf hR => ?_)
  refine lv_aload_n hx hb dX6_init_9 rfl (lv_at hl 0 rfl) ?_
  refine lv_iload_n hx hb dX6_init_10 rfl (lv_at hl 2 rfl) ?_
  refine zr_pF X hR (r := (some a0)) (v := .int x2) fl_X6_15 rfl hin rfl dX6_init_11 rfl rfl hf (fun h11 H locs hf hR => ?_)
  refine lv_aload_n hx hb dX6_init_14 rfl (lv_at hl 0 rfl) ?_
  refine lv_iload_n hx hb dX6_init_15 rfl (lv_at hl 3 rfl) ?_
  refine zr_pF X hR (r := (some a0)) (v := .int x3) fl_X6_19 rfl hin rfl dX6_init_16 rfl rfl hf (fun h16 H locs hf hR => ?_)
  refine lv_aload_n hx hb dX6_init_19 rfl (lv_at hl 0 rfl) ?_
  refine lv_iload_n hx hb dX6_init_20 rfl (lv_at hl 2 rfl) ?_
  refine zr_p X hR (r := (some a0)) (v := .int x2) fl_X6_22 rfl dX6_init_21 rfl rfl hf (fun h21 H locs hf hR => ?_)
  cases hf
  exact zr_vret X hR dX6_init_24 (Nat.le_of_ble_eq_true rfl) (Nat.le_of_ble_eq_true rfl)
def rm_X8_init : Room := { frames := 1, cells := 1, slots := 9, locals := 20 }
theorem mf_X8_init : zz_Mf yX8_init cX8_init 1 none 0 := ⟨q_534, q_17, by decide +kernel, by decide +kernel, by decide +kernel⟩
set_option maxHeartbeats 4000000 in
set_option maxRecDepth 100000 in
theorem mt_X8_init {D : va_G} {dA : Nat → ClassId} {base t0 : Nat} {l : Launch} (hT : l.stackTraces = false) (a0 : Nat) (h : zz_H) (n : Nat) {r0 : Unit} {hF : zz_H} {nF : Nat} (hf : f_X8_init t0 a0 h n = some (r0, hF, nF)) : zz_M D dA base t0 l yX8_init cX8_init 1 none rm_X8_init [.ref a0] h n none hF nF := by
  refine Met.ofW (cc := cX8_init) (maxL := 1) (ret := none) (by decide +kernel) rfl ?_
  intro p e s m args below meth c s₁ B hml hv
  obtain ⟨rfl, hP, hK⟩ := hv
  have X : zz_X D dA base t0 "Springseat$Steps" cX8_init 1 none l p s m meth c := ⟨B.exec, B.bytes, hml, B.returns, findClass_of_methodNamed B.named, B.notSynchronized, hT, by rw [hP.1]; exact hP.2.1, hK⟩
  have hx := X.1
  have hb := X.2.1
  have hown := X.2.2.2.2.1
  have hin : meth.name = "<init>" := (name_of_methodNamed B.named B.method).1
  have hR : zz_R D dA base h n s s.heap [] := ⟨hP, va_S.rf⟩
  have hl := lv_entry ([.ref a0]) (n := 1) (by exact Nat.le_of_ble_eq_true rfl)
  rw [lg_entry_eq]
  generalize (lg_sl ([.ref a0]) ++ List.replicate (1 - (lg_sl ([.ref a0])).length) Slot.unset).toArray = ls at hl ⊢
  have hl : lv_has ls 1 [(0, .ref a0)] := hl
  unfold f_X8_init at hf
  refine lv_aload_n hx hb dX8_init_0 rfl (lv_at hl 0 rfl) ?_
  refine zr_obj X hl.1 q_535 q_34 q_35 dX8_init_1 (Nat.le_of_ble_eq_true rfl) ⟨Nat.le_of_ble_eq_true rfl, Nat.le_of_ble_eq_true rfl⟩ ?_
  refine W.eq (g2 := F0 m 4 ls []) rfl ?_
  refine lv_aload_n hx hb dX8_init_4 rfl (lv_at hl 0 rfl) ?_
  refine lv_bipush (v := (9 : Int32)) hx hb dX8_init_5 (by decide) ?_
  refine zr_newa X hR (t := 1) (N := 9) (a0 := (9, .inl (fun _ => 0))) (by decide) rfl q_547 (fun _ z => z) (fun cA => rfl) (by decide) (by decide) (Nat.le_of_ble_eq_true rfl) (Nat.le_of_ble_eq_true rfl) (Nat.le_of_ble_eq_true rfl) dX8_init_7 (fun H hR => ?_)
  refine W.widen (k := 1) (n := 9) (Nat.le_of_ble_eq_true rfl) (Nat.le_of_ble_eq_true rfl) ?_
  refine zr_pF X hR (r := (some a0)) (v := .ref n) fl_X8_9 rfl hin rfl dX8_init_9 (zz_nr rfl (some n)).1 (zz_nr rfl (some n)).2 hf (fun h9 H locs hf hR => ?_)
  cases hf
  exact zr_vret X hR dX8_init_12 (Nat.le_of_ble_eq_true rfl) (Nat.le_of_ble_eq_true rfl)
def rm_X7_init : Room := { frames := 5, cells := 15, slots := 219, locals := 100 }
theorem mf_X7_init : zz_Mf yX7_init cX7_init 3 none 2 := ⟨q_529, q_16, by decide +kernel, by decide +kernel, by decide +kernel⟩
set_option maxHeartbeats 4000000 in
set_option maxRecDepth 100000 in
theorem mt_X7_init {D : va_G} {dA : Nat → ClassId} {base t0 : Nat} {l : Launch} (hT : l.stackTraces = false) (a0 : Nat) (x1 : Int32) (x2 : Int32) (h : zz_H) (n : Nat) {r0 : Unit} {hF : zz_H} {nF : Nat} (hf : f_X7_init t0 a0 x1 x2 h n = some (r0, hF, nF)) : zz_M D dA base t0 l yX7_init cX7_init 3 none rm_X7_init [.ref a0, .int x1, .int x2] h n none hF nF := by
  refine Met.ofW (cc := cX7_init) (maxL := 3) (ret := none) (by decide +kernel) rfl ?_
  intro p e s m args below meth c s₁ B hml hv
  obtain ⟨rfl, hP, hK⟩ := hv
  have X : zz_X D dA base t0 "Springseat$Seat" cX7_init 3 none l p s m meth c := ⟨B.exec, B.bytes, hml, B.returns, findClass_of_methodNamed B.named, B.notSynchronized, hT, by rw [hP.1]; exact hP.2.1, hK⟩
  have hx := X.1
  have hb := X.2.1
  have hown := X.2.2.2.2.1
  have hin : meth.name = "<init>" := (name_of_methodNamed B.named B.method).1
  have hR : zz_R D dA base h n s s.heap [] := ⟨hP, va_S.rf⟩
  have hl := lv_entry ([.ref a0, .int x1, .int x2]) (n := 3) (by exact Nat.le_of_ble_eq_true rfl)
  rw [lg_entry_eq]
  generalize (lg_sl ([.ref a0, .int x1, .int x2]) ++ List.replicate (3 - (lg_sl ([.ref a0, .int x1, .int x2])).length) Slot.unset).toArray = ls at hl ⊢
  have hl : lv_has ls 3 [(0, .ref a0), (1, .int x1), (2, .int x2)] := hl
  unfold f_X7_init at hf
  refine lv_aload_n hx hb dX7_init_0 rfl (lv_at hl 0 rfl) ?_
  refine zr_obj X hl.1 q_530 q_34 q_35 dX7_init_1 (Nat.le_of_ble_eq_true rfl) ⟨Nat.le_of_ble_eq_true rfl, Nat.le_of_ble_eq_true rfl⟩ ?_
  refine W.eq (g2 := F0 m 4 ls []) rfl ?_
  refine lv_aload_n hx hb dX7_init_4 rfl (lv_at hl 0 rfl) ?_
  refine zr_new X hR (fs := [.null, .int 0, .int 0]) zc9 q_531 q_396 q_17 (fun j hj => by rcases (show j = 0 ∨ j = 1 ∨ j = 2 by omega) with rfl | rfl | rfl <;> rfl) (Nat.le_of_ble_eq_true rfl) (Nat.le_of_ble_eq_true rfl) dX7_init_5 (fun H hR => ?_)
  refine W.widen (k := 1) (n := 3) (Nat.le_of_ble_eq_true rfl) (Nat.le_of_ble_eq_true rfl) ?_
  refine lv_dup hx hb dX7_init_8 rfl ?_
  obtain ⟨u9, h9, n9, hv9, hf⟩ := zz_b2_i hf
  refine zr_cIN X hR hl.1 (As := []) (rest := [.ref n, .ref a0]) (mt_X8_init hT n (zz_u h n (.inr (9, [.null, .int 0, .int 0]))) (n + 1) hv9) mf_X8_init rfl q_532 q_533 ⟨Nat.le_of_ble_eq_true rfl, Nat.le_of_ble_eq_true rfl⟩ ⟨Nat.le_of_ble_eq_true rfl, Nat.le_of_ble_eq_true rfl⟩ rfl (Nat.le_of_ble_eq_true rfl) dX7_init_9 (fun H locs hR => ?_)
  refine W.eq (g2 := F0 m 12 ls [.ref n, .ref a0]) rfl ?_
  refine W.widen (k := 2) (n := 12) (Nat.le_of_ble_eq_true rfl) (Nat.le_of_ble_eq_true rfl) ?_
  refine zr_pF X hR (r := (some a0)) (v := .ref n) fl_X7_12 rfl hin rfl dX7_init_12 (zz_nr rfl (some n)).1 (zz_nr rfl (some n)).2 hf (fun h12 H locs hf hR => ?_)
  refine lv_aload_n hx hb dX7_init_15 rfl (lv_at hl 0 rfl) ?_
  refine zr_new X hR (fs := [.null]) zc3 q_548 q_549 q_18 (fun j hj => by rcases (show j = 0 by omega) with rfl <;> rfl) (Nat.le_of_ble_eq_true rfl) (Nat.le_of_ble_eq_true rfl) dX7_init_16 (fun H hR => ?_)
  refine W.widen (k := 3) (n := 13) (Nat.le_of_ble_eq_true rfl) (Nat.le_of_ble_eq_true rfl) ?_
  refine lv_dup hx hb dX7_init_19 rfl ?_
  obtain ⟨u20, h20, n20, hv20, hf⟩ := zz_b2_i hf
  refine zr_cIN X hR hl.1 (As := []) (rest := [.ref n9, .ref a0]) (mt_X2_init hT n9 (zz_u h12 n9 (.inr (3, [.null]))) (n9 + 1) hv20) mf_X2_init rfl q_550 q_551 ⟨Nat.le_of_ble_eq_true rfl, Nat.le_of_ble_eq_true rfl⟩ ⟨Nat.le_of_ble_eq_true rfl, Nat.le_of_ble_eq_true rfl⟩ rfl (Nat.le_of_ble_eq_true rfl) dX7_init_20 (fun H locs hR => ?_)
  refine W.eq (g2 := F0 m 23 ls [.ref n9, .ref a0]) rfl ?_
  refine W.widen (k := 4) (n := 16) (Nat.le_of_ble_eq_true rfl) (Nat.le_of_ble_eq_true rfl) ?_
  refine zr_pF X hR (r := (some a0)) (v := .ref n9) fl_X7_21 rfl hin rfl dX7_init_23 (zz_nr rfl (some n9)).1 (zz_nr rfl (some n9)).2 hf (fun h23 H locs hf hR => ?_)
  refine lv_aload_n hx hb dX7_init_26 rfl (lv_at hl 0 rfl) ?_
  refine zr_new X hR (fs := [.null]) zc5 q_561 q_63 q_5 (fun j hj => by rcases (show j = 0 by omega) with rfl <;> rfl) (Nat.le_of_ble_eq_true rfl) (Nat.le_of_ble_eq_true rfl) dX7_init_27 (fun H hR => ?_)
  refine W.widen (k := 5) (n := 17) (Nat.le_of_ble_eq_true rfl) (Nat.le_of_ble_eq_true rfl) ?_
  refine lv_dup hx hb dX7_init_30 rfl ?_
  obtain ⟨u31, h31, n31, hv31, hf⟩ := zz_b2_i hf
  refine zr_cIN X hR hl.1 (As := []) (rest := [.ref n20, .ref a0]) (mt_X4_init hT n20 (zz_u h23 n20 (.inr (5, [.null]))) (n20 + 1) hv31) mf_X4_init rfl q_562 q_65 ⟨Nat.le_of_ble_eq_true rfl, Nat.le_of_ble_eq_true rfl⟩ ⟨Nat.le_of_ble_eq_true rfl, Nat.le_of_ble_eq_true rfl⟩ rfl (Nat.le_of_ble_eq_true rfl) dX7_init_31 (fun H locs hR => ?_)
  refine W.eq (g2 := F0 m 34 ls [.ref n20, .ref a0]) rfl ?_
  refine W.widen (k := 6) (n := 73) (Nat.le_of_ble_eq_true rfl) (Nat.le_of_ble_eq_true rfl) ?_
  refine zr_pF X hR (r := (some a0)) (v := .ref n20) fl_X7_28 rfl hin rfl dX7_init_34 (zz_nr rfl (some n20)).1 (zz_nr rfl (some n20)).2 hf (fun h34 H locs hf hR => ?_)
  refine lv_aload_n hx hb dX7_init_37 rfl (lv_at hl 0 rfl) ?_
  refine zr_new X hR (fs := [.null, .int 0, .int 0, .null, .int 0, .int 0, .int 0]) zc2 q_563 q_564 q_19 (fun j hj => by rcases (show j = 0 ∨ j = 1 ∨ j = 2 ∨ j = 3 ∨ j = 4 ∨ j = 5 ∨ j = 6 by omega) with rfl | rfl | rfl | rfl | rfl | rfl | rfl <;> rfl) (Nat.le_of_ble_eq_true rfl) (Nat.le_of_ble_eq_true rfl) dX7_init_38 (fun H hR => ?_)
  refine W.widen (k := 7) (n := 80) (Nat.le_of_ble_eq_true rfl) (Nat.le_of_ble_eq_true rfl) ?_
  refine lv_dup hx hb dX7_init_41 rfl ?_
  obtain ⟨u42, h42, n42, hv42, hf⟩ := zz_b2_i hf
  refine zr_cIN X hR hl.1 (As := []) (rest := [.ref n31, .ref a0]) (mt_X1_init hT n31 (zz_u h34 n31 (.inr (2, [.null, .int 0, .int 0, .null, .int 0, .int 0, .int 0]))) (n31 + 1) hv42) mf_X1_init rfl q_565 q_566 ⟨Nat.le_of_ble_eq_true rfl, Nat.le_of_ble_eq_true rfl⟩ ⟨Nat.le_of_ble_eq_true rfl, Nat.le_of_ble_eq_true rfl⟩ rfl (Nat.le_of_ble_eq_true rfl) dX7_init_42 (fun H locs hR => ?_)
  refine W.eq (g2 := F0 m 45 ls [.ref n31, .ref a0]) rfl ?_
  refine W.widen (k := 8) (n := 86) (Nat.le_of_ble_eq_true rfl) (Nat.le_of_ble_eq_true rfl) ?_
  refine zr_pF X hR (r := (some a0)) (v := .ref n31) fl_X7_35 rfl hin rfl dX7_init_45 (zz_nr rfl (some n31)).1 (zz_nr rfl (some n31)).2 hf (fun h45 H locs hf hR => ?_)
  refine lv_aload_n hx hb dX7_init_48 rfl (lv_at hl 0 rfl) ?_
  refine lv_bipush (v := (20 : Int32)) hx hb dX7_init_49 (by decide) ?_
  refine zr_p X hR (r := (some a0)) (v := .int (20 : Int32)) fl_X7_39 rfl dX7_init_51 rfl rfl hf (fun h51 H locs hf hR => ?_)
  refine lv_aload_n hx hb dX7_init_54 rfl (lv_at hl 0 rfl) ?_
  refine zr_new X hR (fs := [.int 0, .int 0, .int 0, .null, .null, .null, .null]) zc4 q_593 q_594 q_20 (fun j hj => by rcases (show j = 0 ∨ j = 1 ∨ j = 2 ∨ j = 3 ∨ j = 4 ∨ j = 5 ∨ j = 6 by omega) with rfl | rfl | rfl | rfl | rfl | rfl | rfl <;> rfl) (Nat.le_of_ble_eq_true rfl) (Nat.le_of_ble_eq_true rfl) dX7_init_55 (fun H hR => ?_)
  refine W.widen (k := 9) (n := 93) (Nat.le_of_ble_eq_true rfl) (Nat.le_of_ble_eq_true rfl) ?_
  refine lv_dup hx hb dX7_init_58 rfl ?_
  refine lv_iload_n hx hb dX7_init_59 rfl (lv_at hl 1 rfl) ?_
  refine lv_iload_n hx hb dX7_init_60 rfl (lv_at hl 2 rfl) ?_
  obtain ⟨u61, h61, n61, hv61, hf⟩ := zz_b2_i hf
  refine zr_cI X hR hl.1 (As := [.int x1, .int x2]) (rest := [.ref n42, .ref a0]) (mt_X3_init hT n42 x1 x2 (zz_u h51 n42 (.inr (4, [.int 0, .int 0, .int 0, .null, .null, .null, .null]))) (n42 + 1) hv61) mf_X3_init rfl q_595 q_596 ⟨Nat.le_of_ble_eq_true rfl, Nat.le_of_ble_eq_true rfl⟩ ⟨Nat.le_of_ble_eq_true rfl, Nat.le_of_ble_eq_true rfl⟩ rfl (Nat.le_of_ble_eq_true rfl) dX7_init_61 (fun H locs hR => ?_)
  refine W.eq (g2 := F0 m 64 ls [.ref n42, .ref a0]) rfl ?_
  refine W.widen (k := 15) (n := 219) (Nat.le_of_ble_eq_true rfl) (Nat.le_of_ble_eq_true rfl) ?_
  refine zr_pF X hR (r := (some a0)) (v := .ref n42) fl_X7_48 rfl hin rfl dX7_init_64 (zz_nr rfl (some n42)).1 (zz_nr rfl (some n42)).2 hf (fun h64 H locs hf hR => ?_)
  cases hf
  exact zr_vret X hR dX7_init_67 (Nat.le_of_ble_eq_true rfl) (Nat.le_of_ble_eq_true rfl)
def rm_X7_hasSprings : Room := { frames := 0, cells := 0, slots := 0, locals := 0 }
theorem mf_X7_hasSprings : zz_Mf yX7_hasSprings cX7_hasSprings 1 (some .boolean) 0 := ⟨q_979, q_16, by decide +kernel, by decide +kernel, by decide +kernel⟩
set_option maxHeartbeats 4000000 in
set_option maxRecDepth 100000 in
theorem bk_X7_hasSprings_16 {D : va_G} {dA : Nat → ClassId} {base t0 : Nat} {l : Launch} {p : Program} {e : Env} {s : State} {m : MethodId} {args : Array Value} {below : List Frame} {meth : Method} {c : Code} (X : zz_X D dA base t0 "Springseat$Seat" cX7_hasSprings 1 (some .boolean) l p s m meth c) (hT : l.stackTraces = false) {s0 : Int32} {h : zz_H} {n : Nat} {H : Heap} {locs : List Loc} {ls : Array Slot} (hR : zz_R D dA base h n s H locs) (hl : lv_has ls 1 []) {r0 : Int32} (hf : f_X7_hasSprings_16 s0 h = some r0) : W p l e rm_X7_hasSprings s m args below meth c H locs 0 0 (MQ below (zz_Qc D dA base (some (.int r0)) h n) args s rm_X7_hasSprings.cells rm_X7_hasSprings.slots (fun q => base ≤ q)) (F0 m 16 ls [.int s0]) := by
  have hx := X.1
  have hb := X.2.1
  have hown := X.2.2.2.2.1
  unfold f_X7_hasSprings_16 at hf
  obtain ⟨hz16, hf⟩ := zz_gz_i hf
  cases hf
  exact zr_zret X hR (zz_nz hz16) dX7_hasSprings_16 (Nat.le_of_ble_eq_true rfl) (Nat.le_of_ble_eq_true rfl)
set_option maxHeartbeats 4000000 in
set_option maxRecDepth 100000 in
theorem mt_X7_hasSprings {D : va_G} {dA : Nat → ClassId} {base t0 : Nat} {l : Launch} (hT : l.stackTraces = false) (a0 : Nat) (h : zz_H) (n : Nat) {r0 : Int32} (hf : f_X7_hasSprings a0 h = some r0) : zz_M D dA base t0 l yX7_hasSprings cX7_hasSprings 1 (some .boolean) rm_X7_hasSprings [.ref a0] h n (some (.int r0)) h n := by
  refine Met.ofW (cc := cX7_hasSprings) (maxL := 1) (ret := (some .boolean)) (by decide +kernel) rfl ?_
  intro p e s m args below meth c s₁ B hml hv
  obtain ⟨rfl, hP, hK⟩ := hv
  have X : zz_X D dA base t0 "Springseat$Seat" cX7_hasSprings 1 (some .boolean) l p s m meth c := ⟨B.exec, B.bytes, hml, B.returns, findClass_of_methodNamed B.named, B.notSynchronized, hT, by rw [hP.1]; exact hP.2.1, hK⟩
  have hx := X.1
  have hb := X.2.1
  have hown := X.2.2.2.2.1
  have hR : zz_R D dA base h n s s.heap [] := ⟨hP, va_S.rf⟩
  have hl := lv_entry ([.ref a0]) (n := 1) (by exact Nat.le_of_ble_eq_true rfl)
  rw [lg_entry_eq]
  generalize (lg_sl ([.ref a0]) ++ List.replicate (1 - (lg_sl ([.ref a0])).length) Slot.unset).toArray = ls at hl ⊢
  have hl : lv_has ls 1 [(0, .ref a0)] := hl
  unfold f_X7_hasSprings at hf
  refine lv_aload_n hx hb dX7_hasSprings_0 rfl (lv_at hl 0 rfl) ?_
  refine zr_gq X hR (r := (some a0)) fl_X7_12 dX7_hasSprings_1 hf (fun v1 hf => ?_)
  refine zr_giN X hR (r := v1) fn_X7_52 dX7_hasSprings_4 hf (fun v4 hf => ?_)
  refine lv_iconst (v := (1 : Int32)) hx hb dX7_hasSprings_7 (by decide) ?_
  refine lv_icmp_le (tgt := 15) hx hb dX7_hasSprings_8 (by decide) (fun c8 => ?_) (fun c8 => ?_)
  · replace hf := zz_pos c8 hf
    refine lv_iconst (v := (0 : Int32)) hx hb dX7_hasSprings_15 (by decide) ?_
    exact bk_X7_hasSprings_16 X hT hR (lv_sub hl [] rfl) hf
  · replace hf := zz_neg c8 hf
    refine lv_iconst (v := (1 : Int32)) hx hb dX7_hasSprings_11 (by decide) ?_
    refine lv_goto (tgt := 16) hx hb dX7_hasSprings_12 (by decide) ?_
    exact bk_X7_hasSprings_16 X hT hR (lv_sub hl [] rfl) hf
def rm_X8_letterAt : Room := { frames := 0, cells := 0, slots := 0, locals := 0 }
theorem mf_X8_letterAt : zz_Mf yX8_letterAt cX8_letterAt 2 (some .char) 1 := ⟨q_279, q_17, by decide +kernel, by decide +kernel, by decide +kernel⟩
set_option maxHeartbeats 4000000 in
set_option maxRecDepth 100000 in
theorem bk_X8_letterAt_32 {D : va_G} {dA : Nat → ClassId} {base t0 : Nat} {l : Launch} {p : Program} {e : Env} {s : State} {m : MethodId} {args : Array Value} {below : List Frame} {meth : Method} {c : Code} (X : zz_X D dA base t0 "Springseat$Steps" cX8_letterAt 2 (some .char) l p s m meth c) (hT : l.stackTraces = false) {s0 : Int32} {h : zz_H} {n : Nat} {H : Heap} {locs : List Loc} {ls : Array Slot} (hR : zz_R D dA base h n s H locs) (hl : lv_has ls 2 []) {r0 : Int32} (hf : f_X8_letterAt_32 s0 h = some r0) : W p l e rm_X8_letterAt s m args below meth c H locs 0 0 (MQ below (zz_Qc D dA base (some (.int r0)) h n) args s rm_X8_letterAt.cells rm_X8_letterAt.slots (fun q => base ≤ q)) (F0 m 32 ls [.int s0]) := by
  have hx := X.1
  have hb := X.2.1
  have hown := X.2.2.2.2.1
  unfold f_X8_letterAt_32 at hf
  obtain ⟨hz32, hf⟩ := zz_gc_i hf
  cases hf
  exact zr_zret X hR (zz_nc hz32) dX8_letterAt_32 (Nat.le_of_ble_eq_true rfl) (Nat.le_of_ble_eq_true rfl)
set_option maxHeartbeats 4000000 in
set_option maxRecDepth 100000 in
theorem bk_X8_letterAt_30 {D : va_G} {dA : Nat → ClassId} {base t0 : Nat} {l : Launch} {p : Program} {e : Env} {s : State} {m : MethodId} {args : Array Value} {below : List Frame} {meth : Method} {c : Code} (X : zz_X D dA base t0 "Springseat$Steps" cX8_letterAt 2 (some .char) l p s m meth c) (hT : l.stackTraces = false) {h : zz_H} {n : Nat} {H : Heap} {locs : List Loc} {ls : Array Slot} (hR : zz_R D dA base h n s H locs) (hl : lv_has ls 2 []) {r0 : Int32} (hf : f_X8_letterAt_30 h = some r0) : W p l e rm_X8_letterAt s m args below meth c H locs 0 0 (MQ below (zz_Qc D dA base (some (.int r0)) h n) args s rm_X8_letterAt.cells rm_X8_letterAt.slots (fun q => base ≤ q)) (F0 m 30 ls []) := by
  have hx := X.1
  have hb := X.2.1
  have hown := X.2.2.2.2.1
  unfold f_X8_letterAt_30 at hf
  refine lv_bipush (v := (32 : Int32)) hx hb dX8_letterAt_30 (by decide) ?_
  exact bk_X8_letterAt_32 X hT hR (lv_sub hl [] rfl) hf
set_option maxHeartbeats 4000000 in
set_option maxRecDepth 100000 in
theorem mt_X8_letterAt {D : va_G} {dA : Nat → ClassId} {base t0 : Nat} {l : Launch} (hT : l.stackTraces = false) (a0 : Nat) (x1 : Int32) (h : zz_H) (n : Nat) {r0 : Int32} (hf : f_X8_letterAt a0 x1 h = some r0) : zz_M D dA base t0 l yX8_letterAt cX8_letterAt 2 (some .char) rm_X8_letterAt [.ref a0, .int x1] h n (some (.int r0)) h n := by
  refine Met.ofW (cc := cX8_letterAt) (maxL := 2) (ret := (some .char)) (by decide +kernel) rfl ?_
  intro p e s m args below meth c s₁ B hml hv
  obtain ⟨rfl, hP, hK⟩ := hv
  have X : zz_X D dA base t0 "Springseat$Steps" cX8_letterAt 2 (some .char) l p s m meth c := ⟨B.exec, B.bytes, hml, B.returns, findClass_of_methodNamed B.named, B.notSynchronized, hT, by rw [hP.1]; exact hP.2.1, hK⟩
  have hx := X.1
  have hb := X.2.1
  have hown := X.2.2.2.2.1
  have hR : zz_R D dA base h n s s.heap [] := ⟨hP, va_S.rf⟩
  have hl := lv_entry ([.ref a0, .int x1]) (n := 2) (by exact Nat.le_of_ble_eq_true rfl)
  rw [lg_entry_eq]
  generalize (lg_sl ([.ref a0, .int x1]) ++ List.replicate (2 - (lg_sl ([.ref a0, .int x1])).length) Slot.unset).toArray = ls at hl ⊢
  have hl : lv_has ls 2 [(0, .ref a0), (1, .int x1)] := hl
  unfold f_X8_letterAt at hf
  refine lv_iload_n hx hb dX8_letterAt_0 rfl (lv_at hl 1 rfl) ?_
  refine lv_if_lt (tgt := 30) hx hb dX8_letterAt_1 (by decide) (fun c1 => ?_) (fun c1 => ?_)
  · replace hf := zz_pos c1 hf
    exact bk_X8_letterAt_30 X hT hR (lv_sub hl [] rfl) hf
  · replace hf := zz_neg c1 hf
    refine lv_iload_n hx hb dX8_letterAt_4 rfl (lv_at hl 1 rfl) ?_
    refine lv_aload_n hx hb dX8_letterAt_5 rfl (lv_at hl 0 rfl) ?_
    refine zr_gi X hR (r := (some a0)) fl_X8_15 dX8_letterAt_6 hf (fun v6 hf => ?_)
    refine lv_icmp_ge (tgt := 30) hx hb dX8_letterAt_9 (by decide) (fun c9 => ?_) (fun c9 => ?_)
    · replace hf := zz_pos c9 hf
      exact bk_X8_letterAt_30 X hT hR (lv_sub hl [] rfl) hf
    · replace hf := zz_neg c9 hf
      refine lv_iload_n hx hb dX8_letterAt_12 rfl (lv_at hl 1 rfl) ?_
      refine lv_aload_n hx hb dX8_letterAt_13 rfl (lv_at hl 0 rfl) ?_
      refine zr_gq X hR (r := (some a0)) fl_X8_9 dX8_letterAt_14 hf (fun v14 hf => ?_)
      refine zr_alen X hR (r := v14) dX8_letterAt_17 hf (fun v17 hf => ?_)
      refine lv_icmp_ge (tgt := 30) hx hb dX8_letterAt_18 (by decide) (fun c18 => ?_) (fun c18 => ?_)
      · replace hf := zz_pos c18 hf
        exact bk_X8_letterAt_30 X hT hR (lv_sub hl [] rfl) hf
      · replace hf := zz_neg c18 hf
        refine lv_aload_n hx hb dX8_letterAt_21 rfl (lv_at hl 0 rfl) ?_
        refine zr_gq X hR (r := (some a0)) fl_X8_9 dX8_letterAt_22 hf (fun v22 hf => ?_)
        refine lv_iload_n hx hb dX8_letterAt_25 rfl (lv_at hl 1 rfl) ?_
        refine zr_cald X hR (r := v22) dX8_letterAt_26 hf (fun v26 hf => ?_)
        refine lv_goto (tgt := 32) hx hb dX8_letterAt_27 (by decide) ?_
        exact bk_X8_letterAt_32 X hT hR (lv_sub hl [] rfl) hf
def rm_X8_last : Room := { frames := 1, cells := 0, slots := 0, locals := 21 }
theorem mf_X8_last : zz_Mf yX8_last cX8_last 1 (some .char) 0 := ⟨q_275, q_17, by decide +kernel, by decide +kernel, by decide +kernel⟩
set_option maxHeartbeats 4000000 in
set_option maxRecDepth 100000 in
theorem mt_X8_last {D : va_G} {dA : Nat → ClassId} {base t0 : Nat} {l : Launch} (hT : l.stackTraces = false) (a0 : Nat) (h : zz_H) (n : Nat) {r0 : Int32} (hf : f_X8_last a0 h = some r0) : zz_M D dA base t0 l yX8_last cX8_last 1 (some .char) rm_X8_last [.ref a0] h n (some (.int r0)) h n := by
  refine Met.ofW (cc := cX8_last) (maxL := 1) (ret := (some .char)) (by decide +kernel) rfl ?_
  intro p e s m args below meth c s₁ B hml hv
  obtain ⟨rfl, hP, hK⟩ := hv
  have X : zz_X D dA base t0 "Springseat$Steps" cX8_last 1 (some .char) l p s m meth c := ⟨B.exec, B.bytes, hml, B.returns, findClass_of_methodNamed B.named, B.notSynchronized, hT, by rw [hP.1]; exact hP.2.1, hK⟩
  have hx := X.1
  have hb := X.2.1
  have hown := X.2.2.2.2.1
  have hR : zz_R D dA base h n s s.heap [] := ⟨hP, va_S.rf⟩
  have hl := lv_entry ([.ref a0]) (n := 1) (by exact Nat.le_of_ble_eq_true rfl)
  rw [lg_entry_eq]
  generalize (lg_sl ([.ref a0]) ++ List.replicate (1 - (lg_sl ([.ref a0])).length) Slot.unset).toArray = ls at hl ⊢
  have hl : lv_has ls 1 [(0, .ref a0)] := hl
  unfold f_X8_last at hf
  refine lv_aload_n hx hb dX8_last_0 rfl (lv_at hl 0 rfl) ?_
  refine lv_aload_n hx hb dX8_last_1 rfl (lv_at hl 0 rfl) ?_
  refine zr_gi X hR (r := (some a0)) fl_X8_15 dX8_last_2 hf (fun v2 hf => ?_)
  refine lv_iconst (v := (1 : Int32)) hx hb dX8_last_5 (by decide) ?_
  refine lv_isub hx hb dX8_last_6 ?_
  obtain ⟨fs7, ho7, hf⟩ := zz_obS_i hf
  obtain ⟨v7, hv7, hf⟩ := zz_b_i hf
  refine zr_cV X hR hl.1 (As := [.int (v2 - (1 : Int32))]) (rest := []) (C := RX8) (T := TX8) (N := 3) (mt_X8_letterAt hT a0 (v2 - (1 : Int32)) h n hv7) rfl ho7 mf_X8_letterAt q_276 q_277 q_278 ⟨Nat.le_of_ble_eq_true rfl, Nat.le_of_ble_eq_true rfl⟩ ⟨Nat.le_of_ble_eq_true rfl, Nat.le_of_ble_eq_true rfl⟩ rfl (Nat.le_of_ble_eq_true rfl) dX8_last_7 (fun H locs hR => ?_)
  refine W.eq (g2 := F0 m 10 ls [.int v7]) rfl ?_
  obtain ⟨hz10, hf⟩ := zz_gc_i hf
  cases hf
  exact zr_zret X hR (zz_nc hz10) dX8_last_10 (Nat.le_of_ble_eq_true rfl) (Nat.le_of_ble_eq_true rfl)
def rm_X7_hasCover : Room := { frames := 2, cells := 0, slots := 0, locals := 41 }
theorem mf_X7_hasCover : zz_Mf yX7_hasCover cX7_hasCover 1 (some .boolean) 0 := ⟨q_271, q_16, by decide +kernel, by decide +kernel, by decide +kernel⟩
set_option maxHeartbeats 4000000 in
set_option maxRecDepth 100000 in
theorem bk_X7_hasCover_17 {D : va_G} {dA : Nat → ClassId} {base t0 : Nat} {l : Launch} {p : Program} {e : Env} {s : State} {m : MethodId} {args : Array Value} {below : List Frame} {meth : Method} {c : Code} (X : zz_X D dA base t0 "Springseat$Seat" cX7_hasCover 1 (some .boolean) l p s m meth c) (hT : l.stackTraces = false) {s0 : Int32} {h : zz_H} {n : Nat} {H : Heap} {locs : List Loc} {ls : Array Slot} (hR : zz_R D dA base h n s H locs) (hl : lv_has ls 1 []) {r0 : Int32} (hf : f_X7_hasCover_17 s0 h = some r0) : W p l e rm_X7_hasCover s m args below meth c H locs 0 0 (MQ below (zz_Qc D dA base (some (.int r0)) h n) args s rm_X7_hasCover.cells rm_X7_hasCover.slots (fun q => base ≤ q)) (F0 m 17 ls [.int s0]) := by
  have hx := X.1
  have hb := X.2.1
  have hown := X.2.2.2.2.1
  unfold f_X7_hasCover_17 at hf
  obtain ⟨hz17, hf⟩ := zz_gz_i hf
  cases hf
  exact zr_zret X hR (zz_nz hz17) dX7_hasCover_17 (Nat.le_of_ble_eq_true rfl) (Nat.le_of_ble_eq_true rfl)
set_option maxHeartbeats 4000000 in
set_option maxRecDepth 100000 in
theorem mt_X7_hasCover {D : va_G} {dA : Nat → ClassId} {base t0 : Nat} {l : Launch} (hT : l.stackTraces = false) (a0 : Nat) (h : zz_H) (n : Nat) {r0 : Int32} (hf : f_X7_hasCover a0 h = some r0) : zz_M D dA base t0 l yX7_hasCover cX7_hasCover 1 (some .boolean) rm_X7_hasCover [.ref a0] h n (some (.int r0)) h n := by
  refine Met.ofW (cc := cX7_hasCover) (maxL := 1) (ret := (some .boolean)) (by decide +kernel) rfl ?_
  intro p e s m args below meth c s₁ B hml hv
  obtain ⟨rfl, hP, hK⟩ := hv
  have X : zz_X D dA base t0 "Springseat$Seat" cX7_hasCover 1 (some .boolean) l p s m meth c := ⟨B.exec, B.bytes, hml, B.returns, findClass_of_methodNamed B.named, B.notSynchronized, hT, by rw [hP.1]; exact hP.2.1, hK⟩
  have hx := X.1
  have hb := X.2.1
  have hown := X.2.2.2.2.1
  have hR : zz_R D dA base h n s s.heap [] := ⟨hP, va_S.rf⟩
  have hl := lv_entry ([.ref a0]) (n := 1) (by exact Nat.le_of_ble_eq_true rfl)
  rw [lg_entry_eq]
  generalize (lg_sl ([.ref a0]) ++ List.replicate (1 - (lg_sl ([.ref a0])).length) Slot.unset).toArray = ls at hl ⊢
  have hl : lv_has ls 1 [(0, .ref a0)] := hl
  unfold f_X7_hasCover at hf
  refine lv_aload_n hx hb dX7_hasCover_0 rfl (lv_at hl 0 rfl) ?_
  refine zr_gq X hR (r := (some a0)) fl_X7_12 dX7_hasCover_1 hf (fun v1 hf => ?_)
  obtain ⟨b4, fs4, hr4, ho4, hf⟩ := zz_ob_i hf
  obtain ⟨v4, hv4, hf⟩ := zz_b_i hf
  refine zr_cV X hR hl.1 (As := []) (rest := []) (C := RX8) (T := TX8) (N := 3) (mt_X8_last hT b4 h n hv4) rfl ho4 mf_X8_last q_272 q_273 q_274 ⟨Nat.le_of_ble_eq_true rfl, Nat.le_of_ble_eq_true rfl⟩ ⟨Nat.le_of_ble_eq_true rfl, Nat.le_of_ble_eq_true rfl⟩ (by rw [hr4]; rfl) (Nat.le_of_ble_eq_true rfl) dX7_hasCover_4 (fun H locs hR => ?_)
  refine W.eq (g2 := F0 m 7 ls [.int v4]) rfl ?_
  refine lv_bipush (v := (99 : Int32)) hx hb dX7_hasCover_7 (by decide) ?_
  refine lv_icmp_ne (tgt := 16) hx hb dX7_hasCover_9 (by decide) (fun c9 => ?_) (fun c9 => ?_)
  · replace hf := zz_neg c9 hf
    refine lv_iconst (v := (0 : Int32)) hx hb dX7_hasCover_16 (by decide) ?_
    exact bk_X7_hasCover_17 X hT hR (lv_sub hl [] rfl) hf
  · replace hf := zz_pos c9 hf
    refine lv_iconst (v := (1 : Int32)) hx hb dX7_hasCover_12 (by decide) ?_
    refine lv_goto (tgt := 17) hx hb dX7_hasCover_13 (by decide) ?_
    exact bk_X7_hasCover_17 X hT hR (lv_sub hl [] rfl) hf
def rm_X7_topOf : Room := { frames := 4, cells := 0, slots := 0, locals := 86 }
theorem mf_X7_topOf : zz_Mf yX7_topOf cX7_topOf 2 (some .int) 1 := ⟨q_338, q_16, by decide +kernel, by decide +kernel, by decide +kernel⟩
set_option maxHeartbeats 4000000 in
set_option maxRecDepth 100000 in
theorem mt_X7_topOf {D : va_G} {dA : Nat → ClassId} {base t0 : Nat} {l : Launch} (hT : l.stackTraces = false) (a0 : Nat) (x1 : Int32) (h : zz_H) (n : Nat) {r0 : Int32} (hf : f_X7_topOf a0 x1 h = some r0) : zz_M D dA base t0 l yX7_topOf cX7_topOf 2 (some .int) rm_X7_topOf [.ref a0, .int x1] h n (some (.int r0)) h n := by
  refine Met.ofW (cc := cX7_topOf) (maxL := 2) (ret := (some .int)) (by decide +kernel) rfl ?_
  intro p e s m args below meth c s₁ B hml hv
  obtain ⟨rfl, hP, hK⟩ := hv
  have X : zz_X D dA base t0 "Springseat$Seat" cX7_topOf 2 (some .int) l p s m meth c := ⟨B.exec, B.bytes, hml, B.returns, findClass_of_methodNamed B.named, B.notSynchronized, hT, by rw [hP.1]; exact hP.2.1, hK⟩
  have hx := X.1
  have hb := X.2.1
  have hown := X.2.2.2.2.1
  have hR : zz_R D dA base h n s s.heap [] := ⟨hP, va_S.rf⟩
  have hl := lv_entry ([.ref a0, .int x1]) (n := 2) (by exact Nat.le_of_ble_eq_true rfl)
  rw [lg_entry_eq]
  generalize (lg_sl ([.ref a0, .int x1]) ++ List.replicate (2 - (lg_sl ([.ref a0, .int x1])).length) Slot.unset).toArray = ls at hl ⊢
  have hl : lv_has ls 2 [(0, .ref a0), (1, .int x1)] := hl
  unfold f_X7_topOf at hf
  refine lv_iconst (v := (0 : Int32)) hx hb dX7_topOf_0 (by decide) ?_
  refine lv_aload_n hx hb dX7_topOf_1 rfl (lv_at hl 0 rfl) ?_
  refine zr_gq X hR (r := (some a0)) fl_X7_48 dX7_topOf_2 hf (fun v2 hf => ?_)
  refine lv_iload_n hx hb dX7_topOf_5 rfl (lv_at hl 1 rfl) ?_
  obtain ⟨b6, fs6, hr6, ho6, hf⟩ := zz_ob_i hf
  obtain ⟨v6, hv6, hf⟩ := zz_b_i hf
  refine zr_cV X hR hl.1 (As := [.int x1]) (rest := [.int (0 : Int32)]) (C := RX3) (T := TX3) (N := 7) (mt_X3_heightAt hT b6 x1 h n hv6) rfl ho6 mf_X3_heightAt q_339 q_340 q_341 ⟨Nat.le_of_ble_eq_true rfl, Nat.le_of_ble_eq_true rfl⟩ ⟨Nat.le_of_ble_eq_true rfl, Nat.le_of_ble_eq_true rfl⟩ (by rw [hr6]; rfl) (Nat.le_of_ble_eq_true rfl) dX7_topOf_6 (fun H locs hR => ?_)
  refine W.eq (g2 := F0 m 9 ls [.int v6, .int (0 : Int32)]) rfl ?_
  refine lv_aload_n hx hb dX7_topOf_9 rfl (lv_at hl 0 rfl) ?_
  refine zr_gq X hR (r := (some a0)) fl_X7_21 dX7_topOf_10 hf (fun v10 hf => ?_)
  obtain ⟨b13, fs13, hr13, ho13, hf⟩ := zz_ob_i hf
  obtain ⟨v13, hv13, hf⟩ := zz_b_i hf
  refine zr_cV X hR hl.1 (As := []) (rest := [.int v6, .int (0 : Int32)]) (C := RX2) (T := TX2) (N := 1) (mt_X2_thicknessInAll hT b13 h n hv13) rfl ho13 mf_X2_thicknessInAll q_348 q_349 q_350 ⟨Nat.le_of_ble_eq_true rfl, Nat.le_of_ble_eq_true rfl⟩ ⟨Nat.le_of_ble_eq_true rfl, Nat.le_of_ble_eq_true rfl⟩ (by rw [hr13]; rfl) (Nat.le_of_ble_eq_true rfl) dX7_topOf_13 (fun H locs hR => ?_)
  refine W.eq (g2 := F0 m 16 ls [.int v13, .int v6, .int (0 : Int32)]) rfl ?_
  refine lv_iadd hx hb dX7_topOf_16 ?_
  refine lv_aload_n hx hb dX7_topOf_17 rfl (lv_at hl 0 rfl) ?_
  refine zr_gq X hR (r := (some a0)) fl_X7_28 dX7_topOf_18 hf (fun v18 hf => ?_)
  refine lv_iload_n hx hb dX7_topOf_21 rfl (lv_at hl 1 rfl) ?_
  obtain ⟨b22, fs22, hr22, ho22, hf⟩ := zz_ob_i hf
  obtain ⟨v22, hv22, hf⟩ := zz_b_i hf
  refine zr_cV X hR hl.1 (As := [.int x1]) (rest := [.int (v6 + v13), .int (0 : Int32)]) (C := RX4) (T := TX4) (N := 1) (mt_X4_at hT b22 x1 h n hv22) rfl ho22 mf_X4_at q_301 q_302 q_303 ⟨Nat.le_of_ble_eq_true rfl, Nat.le_of_ble_eq_true rfl⟩ ⟨Nat.le_of_ble_eq_true rfl, Nat.le_of_ble_eq_true rfl⟩ (by rw [hr22]; rfl) (Nat.le_of_ble_eq_true rfl) dX7_topOf_22 (fun H locs hR => ?_)
  refine W.eq (g2 := F0 m 25 ls [.int v22, .int (v6 + v13), .int (0 : Int32)]) rfl ?_
  refine lv_isub hx hb dX7_topOf_25 ?_
  refine zr_max X hl.1 q_355 q_106 q_8 q_107 (Nat.le_of_ble_eq_true rfl) ⟨Nat.le_of_ble_eq_true rfl, Nat.le_of_ble_eq_true rfl⟩ ⟨Nat.le_of_ble_eq_true rfl, Nat.le_of_ble_eq_true rfl⟩ dX7_topOf_26 ?_
  refine W.eq (g2 := F0 m 29 ls [.int (zz_max (0 : Int32) ((v6 + v13) - v22))]) rfl ?_
  cases hf
  exact zr_iret X hR dX7_topOf_29 (Nat.le_of_ble_eq_true rfl) (Nat.le_of_ble_eq_true rfl)
def rm_X7_greatestTop : Room := { frames := 5, cells := 0, slots := 0, locals := 107 }
theorem mf_X7_greatestTop : zz_Mf yX7_greatestTop cX7_greatestTop 3 (some .int) 0 := ⟨q_831, q_16, by decide +kernel, by decide +kernel, by decide +kernel⟩
set_option maxHeartbeats 4000000 in
set_option maxRecDepth 100000 in
theorem bk_X7_greatestTop_4 {D : va_G} {dA : Nat → ClassId} {base t0 : Nat} {l : Launch} {p : Program} {e : Env} {s : State} {m : MethodId} {args : Array Value} {below : List Frame} {meth : Method} {c : Code} (X : zz_X D dA base t0 "Springseat$Seat" cX7_greatestTop 3 (some .int) l p s m meth c) (hT : l.stackTraces = false) {a0 : Nat} {x1 : Int32} {x2 : Int32} {h : zz_H} {n : Nat} {H : Heap} {locs : List Loc} {ls : Array Slot} (hR : zz_R D dA base h n s H locs) (hl : lv_has ls 3 [(0, .ref a0), (1, .int x1), (2, .int x2)]) {r0 : Int32} {o : ((Int32 × Int32) ⊕ Int32)} (hf : f_X7_greatestTop_4 a0 x1 x2 h = some o) (k0 : ∀ (w1 : Int32) (w2 : Int32), o = (.inl (w1, w2)) → ∀ {H : Heap} {locs : List Loc} {ls : Array Slot}, zz_R D dA base h n s H locs → lv_has ls 3 [(0, .ref a0), (1, .int w1), (2, .int w2)] → W p l e rm_X7_greatestTop s m args below meth c H locs 0 0 (MQ below (zz_Qc D dA base (some (.int r0)) h n) args s rm_X7_greatestTop.cells rm_X7_greatestTop.slots (fun q => base ≤ q)) (F0 m 4 ls [])) (hret : ∀ r, o = (.inr r) → r = r0) : W p l e rm_X7_greatestTop s m args below meth c H locs 0 0 (MQ below (zz_Qc D dA base (some (.int r0)) h n) args s rm_X7_greatestTop.cells rm_X7_greatestTop.slots (fun q => base ≤ q)) (F0 m 4 ls []) := by
  have hx := X.1
  have hb := X.2.1
  have hown := X.2.2.2.2.1
  unfold f_X7_greatestTop_4 at hf
  refine lv_iload_n hx hb dX7_greatestTop_4 rfl (lv_at hl 2 rfl) ?_
  refine lv_aload_n hx hb dX7_greatestTop_5 rfl (lv_at hl 0 rfl) ?_
  refine zr_gq X hR (r := (some a0)) fl_X7_48 dX7_greatestTop_6 hf (fun v6 hf => ?_)
  obtain ⟨b9, fs9, hr9, ho9, hf⟩ := zz_ob_i hf
  obtain ⟨v9, hv9, hf⟩ := zz_b_i hf
  refine zr_cV X hR hl.1 (As := []) (rest := [.int x2]) (C := RX3) (T := TX3) (N := 7) (mt_X3_cellCount hT b9 h n hv9) rfl ho9 mf_X3_cellCount q_288 q_289 q_290 ⟨Nat.le_of_ble_eq_true rfl, Nat.le_of_ble_eq_true rfl⟩ ⟨Nat.le_of_ble_eq_true rfl, Nat.le_of_ble_eq_true rfl⟩ (by rw [hr9]; rfl) (Nat.le_of_ble_eq_true rfl) dX7_greatestTop_9 (fun H locs hR => ?_)
  refine W.eq (g2 := F0 m 12 ls [.int v9, .int x2]) rfl ?_
  refine lv_icmp_ge (tgt := 38) hx hb dX7_greatestTop_12 (by decide) (fun c12 => ?_) (fun c12 => ?_)
  · replace hf := zz_pos c12 hf
    refine lv_iload_n hx hb dX7_greatestTop_38 rfl (lv_at hl 1 rfl) ?_
    cases hf
    cases hret _ rfl
    exact zr_iret X hR dX7_greatestTop_39 (Nat.le_of_ble_eq_true rfl) (Nat.le_of_ble_eq_true rfl)
  · replace hf := zz_neg c12 hf
    refine lv_iload_n hx hb dX7_greatestTop_15 rfl (lv_at hl 1 rfl) ?_
    refine lv_aload_n hx hb dX7_greatestTop_16 rfl (lv_at hl 0 rfl) ?_
    refine lv_aload_n hx hb dX7_greatestTop_17 rfl (lv_at hl 0 rfl) ?_
    refine zr_gq X hR (r := (some a0)) fl_X7_48 dX7_greatestTop_18 hf (fun v18 hf => ?_)
    refine lv_iload_n hx hb dX7_greatestTop_21 rfl (lv_at hl 2 rfl) ?_
    obtain ⟨b22, fs22, hr22, ho22, hf⟩ := zz_ob_i hf
    obtain ⟨v22, hv22, hf⟩ := zz_b_i hf
    refine zr_cV X hR hl.1 (As := [.int x2]) (rest := [.ref a0, .int x1]) (C := RX3) (T := TX3) (N := 7) (mt_X3_cellAt hT b22 x2 h n hv22) rfl ho22 mf_X3_cellAt q_292 q_293 q_294 ⟨Nat.le_of_ble_eq_true rfl, Nat.le_of_ble_eq_true rfl⟩ ⟨Nat.le_of_ble_eq_true rfl, Nat.le_of_ble_eq_true rfl⟩ (by rw [hr22]; rfl) (Nat.le_of_ble_eq_true rfl) dX7_greatestTop_22 (fun H locs hR => ?_)
    refine W.eq (g2 := F0 m 25 ls [.int v22, .ref a0, .int x1]) rfl ?_
    obtain ⟨fs25, ho25, hf⟩ := zz_obS_i hf
    obtain ⟨v25, hv25, hf⟩ := zz_b_i hf
    refine zr_cV X hR hl.1 (As := [.int v22]) (rest := [.int x1]) (C := RX7) (T := TX7) (N := 6) (mt_X7_topOf hT a0 v22 h n hv25) rfl ho25 mf_X7_topOf q_335 q_336 q_337 ⟨Nat.le_of_ble_eq_true rfl, Nat.le_of_ble_eq_true rfl⟩ ⟨Nat.le_of_ble_eq_true rfl, Nat.le_of_ble_eq_true rfl⟩ rfl (Nat.le_of_ble_eq_true rfl) dX7_greatestTop_25 (fun H locs hR => ?_)
    refine W.eq (g2 := F0 m 28 ls [.int v25, .int x1]) rfl ?_
    refine zr_max X hl.1 q_355 q_106 q_8 q_107 (Nat.le_of_ble_eq_true rfl) ⟨Nat.le_of_ble_eq_true rfl, Nat.le_of_ble_eq_true rfl⟩ ⟨Nat.le_of_ble_eq_true rfl, Nat.le_of_ble_eq_true rfl⟩ dX7_greatestTop_28 ?_
    refine W.eq (g2 := F0 m 31 ls [.int (zz_max x1 v25)]) rfl ?_
    refine lv_istore_n (i := 1) (lv' := [(1, .int (zz_max x1 v25)), (0, .ref a0), (2, .int x2)]) hx hb dX7_greatestTop_31 rfl hl (by decide) rfl (fun ls hl => ?_)
    refine lv_iinc (i := 2) (v := (x2 + (1 : Int32))) (lv' := [(2, .int (x2 + (1 : Int32))), (1, .int (zz_max x1 v25)), (0, .ref a0)]) hx hb dX7_greatestTop_32 hl (k := 2) rfl rfl (by decide) rfl (fun ls hl => ?_)
    refine lv_goto (tgt := 4) hx hb dX7_greatestTop_35 (by decide) ?_
    cases hf
    exact k0 _ _ rfl hR (lv_sub hl [2, 1, 0] rfl)
set_option maxHeartbeats 4000000 in
set_option maxRecDepth 100000 in
theorem lp_X7_greatestTop_4 {D : va_G} {dA : Nat → ClassId} {base t0 : Nat} {l : Launch} {p : Program} {e : Env} {s : State} {m : MethodId} {args : Array Value} {below : List Frame} {meth : Method} {c : Code} (X : zz_X D dA base t0 "Springseat$Seat" cX7_greatestTop 3 (some .int) l p s m meth c) (hT : l.stackTraces = false) (a0 : Nat) {h : zz_H} {n : Nat} {r0 : Int32} : ∀ (k : Nat) (x1 : Int32) (x2 : Int32), zz_it (fun s : (Int32 × Int32) => f_X7_greatestTop_4 a0 s.1 s.2 h) k (x1, x2) = some r0 → ∀ {H : Heap} {locs : List Loc} {ls : Array Slot}, zz_R D dA base h n s H locs → lv_has ls 3 [(0, .ref a0), (1, .int x1), (2, .int x2)] → W p l e rm_X7_greatestTop s m args below meth c H locs 0 0 (MQ below (zz_Qc D dA base (some (.int r0)) h n) args s rm_X7_greatestTop.cells rm_X7_greatestTop.slots (fun q => base ≤ q)) (F0 m 4 ls []) := by
  intro k
  induction k with
  | zero => intro x1 x2 hf; cases hf
  | succ k ih =>
    intro x1 x2 hf H locs ls hR hl
    rcases zz_it_s hf with ⟨⟨y0, y1⟩, h1, h2⟩ | h1
    · exact bk_X7_greatestTop_4 (r0 := r0) X hT hR hl h1  (fun z0 z1 e => by cases e; exact ih _ _ h2) (fun r e => by cases e)
    · exact bk_X7_greatestTop_4 (r0 := r0) X hT hR hl h1  (fun z0 z1 e => by cases e) (fun r e => (Sum.inr.inj e).symm)
set_option maxHeartbeats 4000000 in
set_option maxRecDepth 100000 in
theorem mt_X7_greatestTop {D : va_G} {dA : Nat → ClassId} {base t0 : Nat} {l : Launch} (hT : l.stackTraces = false) (a0 : Nat) (h : zz_H) (n : Nat) {r0 : Int32} (hf : f_X7_greatestTop a0 h = some r0) : zz_M D dA base t0 l yX7_greatestTop cX7_greatestTop 3 (some .int) rm_X7_greatestTop [.ref a0] h n (some (.int r0)) h n := by
  refine Met.ofW (cc := cX7_greatestTop) (maxL := 3) (ret := (some .int)) (by decide +kernel) rfl ?_
  intro p e s m args below meth c s₁ B hml hv
  obtain ⟨rfl, hP, hK⟩ := hv
  have X : zz_X D dA base t0 "Springseat$Seat" cX7_greatestTop 3 (some .int) l p s m meth c := ⟨B.exec, B.bytes, hml, B.returns, findClass_of_methodNamed B.named, B.notSynchronized, hT, by rw [hP.1]; exact hP.2.1, hK⟩
  have hx := X.1
  have hb := X.2.1
  have hown := X.2.2.2.2.1
  have hR : zz_R D dA base h n s s.heap [] := ⟨hP, va_S.rf⟩
  have hl := lv_entry ([.ref a0]) (n := 3) (by exact Nat.le_of_ble_eq_true rfl)
  rw [lg_entry_eq]
  generalize (lg_sl ([.ref a0]) ++ List.replicate (3 - (lg_sl ([.ref a0])).length) Slot.unset).toArray = ls at hl ⊢
  have hl : lv_has ls 3 [(0, .ref a0)] := hl
  unfold f_X7_greatestTop at hf
  refine lv_iconst (v := (0 : Int32)) hx hb dX7_greatestTop_0 (by decide) ?_
  refine lv_istore_n (i := 1) (lv' := [(1, .int (0 : Int32)), (0, .ref a0)]) hx hb dX7_greatestTop_1 rfl hl (by decide) rfl (fun ls hl => ?_)
  refine lv_iconst (v := (0 : Int32)) hx hb dX7_greatestTop_2 (by decide) ?_
  refine lv_istore_n (i := 2) (lv' := [(2, .int (0 : Int32)), (1, .int (0 : Int32)), (0, .ref a0)]) hx hb dX7_greatestTop_3 rfl hl (by decide) rfl (fun ls hl => ?_)
  exact lp_X7_greatestTop_4 X hT a0 zz_F _ _ hf hR (lv_sub hl [2, 1, 0] rfl)
def rm_X7_topsInAll : Room := { frames := 5, cells := 0, slots := 0, locals := 107 }
theorem mf_X7_topsInAll : zz_Mf yX7_topsInAll cX7_topsInAll 3 (some .int) 0 := ⟨q_334, q_16, by decide +kernel, by decide +kernel, by decide +kernel⟩
set_option maxHeartbeats 4000000 in
set_option maxRecDepth 100000 in
theorem bk_X7_topsInAll_4 {D : va_G} {dA : Nat → ClassId} {base t0 : Nat} {l : Launch} {p : Program} {e : Env} {s : State} {m : MethodId} {args : Array Value} {below : List Frame} {meth : Method} {c : Code} (X : zz_X D dA base t0 "Springseat$Seat" cX7_topsInAll 3 (some .int) l p s m meth c) (hT : l.stackTraces = false) {a0 : Nat} {x1 : Int32} {x2 : Int32} {h : zz_H} {n : Nat} {H : Heap} {locs : List Loc} {ls : Array Slot} (hR : zz_R D dA base h n s H locs) (hl : lv_has ls 3 [(0, .ref a0), (1, .int x1), (2, .int x2)]) {r0 : Int32} {o : ((Int32 × Int32) ⊕ Int32)} (hf : f_X7_topsInAll_4 a0 x1 x2 h = some o) (k0 : ∀ (w1 : Int32) (w2 : Int32), o = (.inl (w1, w2)) → ∀ {H : Heap} {locs : List Loc} {ls : Array Slot}, zz_R D dA base h n s H locs → lv_has ls 3 [(0, .ref a0), (1, .int w1), (2, .int w2)] → W p l e rm_X7_topsInAll s m args below meth c H locs 0 0 (MQ below (zz_Qc D dA base (some (.int r0)) h n) args s rm_X7_topsInAll.cells rm_X7_topsInAll.slots (fun q => base ≤ q)) (F0 m 4 ls [])) (hret : ∀ r, o = (.inr r) → r = r0) : W p l e rm_X7_topsInAll s m args below meth c H locs 0 0 (MQ below (zz_Qc D dA base (some (.int r0)) h n) args s rm_X7_topsInAll.cells rm_X7_topsInAll.slots (fun q => base ≤ q)) (F0 m 4 ls []) := by
  have hx := X.1
  have hb := X.2.1
  have hown := X.2.2.2.2.1
  unfold f_X7_topsInAll_4 at hf
  refine lv_iload_n hx hb dX7_topsInAll_4 rfl (lv_at hl 2 rfl) ?_
  refine lv_aload_n hx hb dX7_topsInAll_5 rfl (lv_at hl 0 rfl) ?_
  refine zr_gq X hR (r := (some a0)) fl_X7_48 dX7_topsInAll_6 hf (fun v6 hf => ?_)
  obtain ⟨b9, fs9, hr9, ho9, hf⟩ := zz_ob_i hf
  obtain ⟨v9, hv9, hf⟩ := zz_b_i hf
  refine zr_cV X hR hl.1 (As := []) (rest := [.int x2]) (C := RX3) (T := TX3) (N := 7) (mt_X3_cellCount hT b9 h n hv9) rfl ho9 mf_X3_cellCount q_288 q_289 q_290 ⟨Nat.le_of_ble_eq_true rfl, Nat.le_of_ble_eq_true rfl⟩ ⟨Nat.le_of_ble_eq_true rfl, Nat.le_of_ble_eq_true rfl⟩ (by rw [hr9]; rfl) (Nat.le_of_ble_eq_true rfl) dX7_topsInAll_9 (fun H locs hR => ?_)
  refine W.eq (g2 := F0 m 12 ls [.int v9, .int x2]) rfl ?_
  refine lv_icmp_ge (tgt := 36) hx hb dX7_topsInAll_12 (by decide) (fun c12 => ?_) (fun c12 => ?_)
  · replace hf := zz_pos c12 hf
    refine lv_iload_n hx hb dX7_topsInAll_36 rfl (lv_at hl 1 rfl) ?_
    cases hf
    cases hret _ rfl
    exact zr_iret X hR dX7_topsInAll_37 (Nat.le_of_ble_eq_true rfl) (Nat.le_of_ble_eq_true rfl)
  · replace hf := zz_neg c12 hf
    refine lv_iload_n hx hb dX7_topsInAll_15 rfl (lv_at hl 1 rfl) ?_
    refine lv_aload_n hx hb dX7_topsInAll_16 rfl (lv_at hl 0 rfl) ?_
    refine lv_aload_n hx hb dX7_topsInAll_17 rfl (lv_at hl 0 rfl) ?_
    refine zr_gq X hR (r := (some a0)) fl_X7_48 dX7_topsInAll_18 hf (fun v18 hf => ?_)
    refine lv_iload_n hx hb dX7_topsInAll_21 rfl (lv_at hl 2 rfl) ?_
    obtain ⟨b22, fs22, hr22, ho22, hf⟩ := zz_ob_i hf
    obtain ⟨v22, hv22, hf⟩ := zz_b_i hf
    refine zr_cV X hR hl.1 (As := [.int x2]) (rest := [.ref a0, .int x1]) (C := RX3) (T := TX3) (N := 7) (mt_X3_cellAt hT b22 x2 h n hv22) rfl ho22 mf_X3_cellAt q_292 q_293 q_294 ⟨Nat.le_of_ble_eq_true rfl, Nat.le_of_ble_eq_true rfl⟩ ⟨Nat.le_of_ble_eq_true rfl, Nat.le_of_ble_eq_true rfl⟩ (by rw [hr22]; rfl) (Nat.le_of_ble_eq_true rfl) dX7_topsInAll_22 (fun H locs hR => ?_)
    refine W.eq (g2 := F0 m 25 ls [.int v22, .ref a0, .int x1]) rfl ?_
    obtain ⟨fs25, ho25, hf⟩ := zz_obS_i hf
    obtain ⟨v25, hv25, hf⟩ := zz_b_i hf
    refine zr_cV X hR hl.1 (As := [.int v22]) (rest := [.int x1]) (C := RX7) (T := TX7) (N := 6) (mt_X7_topOf hT a0 v22 h n hv25) rfl ho25 mf_X7_topOf q_335 q_336 q_337 ⟨Nat.le_of_ble_eq_true rfl, Nat.le_of_ble_eq_true rfl⟩ ⟨Nat.le_of_ble_eq_true rfl, Nat.le_of_ble_eq_true rfl⟩ rfl (Nat.le_of_ble_eq_true rfl) dX7_topsInAll_25 (fun H locs hR => ?_)
    refine W.eq (g2 := F0 m 28 ls [.int v25, .int x1]) rfl ?_
    refine lv_iadd hx hb dX7_topsInAll_28 ?_
    refine lv_istore_n (i := 1) (lv' := [(1, .int (x1 + v25)), (0, .ref a0), (2, .int x2)]) hx hb dX7_topsInAll_29 rfl hl (by decide) rfl (fun ls hl => ?_)
    refine lv_iinc (i := 2) (v := (x2 + (1 : Int32))) (lv' := [(2, .int (x2 + (1 : Int32))), (1, .int (x1 + v25)), (0, .ref a0)]) hx hb dX7_topsInAll_30 hl (k := 2) rfl rfl (by decide) rfl (fun ls hl => ?_)
    refine lv_goto (tgt := 4) hx hb dX7_topsInAll_33 (by decide) ?_
    cases hf
    exact k0 _ _ rfl hR (lv_sub hl [2, 1, 0] rfl)
set_option maxHeartbeats 4000000 in
set_option maxRecDepth 100000 in
theorem lp_X7_topsInAll_4 {D : va_G} {dA : Nat → ClassId} {base t0 : Nat} {l : Launch} {p : Program} {e : Env} {s : State} {m : MethodId} {args : Array Value} {below : List Frame} {meth : Method} {c : Code} (X : zz_X D dA base t0 "Springseat$Seat" cX7_topsInAll 3 (some .int) l p s m meth c) (hT : l.stackTraces = false) (a0 : Nat) {h : zz_H} {n : Nat} {r0 : Int32} : ∀ (k : Nat) (x1 : Int32) (x2 : Int32), zz_it (fun s : (Int32 × Int32) => f_X7_topsInAll_4 a0 s.1 s.2 h) k (x1, x2) = some r0 → ∀ {H : Heap} {locs : List Loc} {ls : Array Slot}, zz_R D dA base h n s H locs → lv_has ls 3 [(0, .ref a0), (1, .int x1), (2, .int x2)] → W p l e rm_X7_topsInAll s m args below meth c H locs 0 0 (MQ below (zz_Qc D dA base (some (.int r0)) h n) args s rm_X7_topsInAll.cells rm_X7_topsInAll.slots (fun q => base ≤ q)) (F0 m 4 ls []) := by
  intro k
  induction k with
  | zero => intro x1 x2 hf; cases hf
  | succ k ih =>
    intro x1 x2 hf H locs ls hR hl
    rcases zz_it_s hf with ⟨⟨y0, y1⟩, h1, h2⟩ | h1
    · exact bk_X7_topsInAll_4 (r0 := r0) X hT hR hl h1  (fun z0 z1 e => by cases e; exact ih _ _ h2) (fun r e => by cases e)
    · exact bk_X7_topsInAll_4 (r0 := r0) X hT hR hl h1  (fun z0 z1 e => by cases e) (fun r e => (Sum.inr.inj e).symm)
set_option maxHeartbeats 4000000 in
set_option maxRecDepth 100000 in
theorem mt_X7_topsInAll {D : va_G} {dA : Nat → ClassId} {base t0 : Nat} {l : Launch} (hT : l.stackTraces = false) (a0 : Nat) (h : zz_H) (n : Nat) {r0 : Int32} (hf : f_X7_topsInAll a0 h = some r0) : zz_M D dA base t0 l yX7_topsInAll cX7_topsInAll 3 (some .int) rm_X7_topsInAll [.ref a0] h n (some (.int r0)) h n := by
  refine Met.ofW (cc := cX7_topsInAll) (maxL := 3) (ret := (some .int)) (by decide +kernel) rfl ?_
  intro p e s m args below meth c s₁ B hml hv
  obtain ⟨rfl, hP, hK⟩ := hv
  have X : zz_X D dA base t0 "Springseat$Seat" cX7_topsInAll 3 (some .int) l p s m meth c := ⟨B.exec, B.bytes, hml, B.returns, findClass_of_methodNamed B.named, B.notSynchronized, hT, by rw [hP.1]; exact hP.2.1, hK⟩
  have hx := X.1
  have hb := X.2.1
  have hown := X.2.2.2.2.1
  have hR : zz_R D dA base h n s s.heap [] := ⟨hP, va_S.rf⟩
  have hl := lv_entry ([.ref a0]) (n := 3) (by exact Nat.le_of_ble_eq_true rfl)
  rw [lg_entry_eq]
  generalize (lg_sl ([.ref a0]) ++ List.replicate (3 - (lg_sl ([.ref a0])).length) Slot.unset).toArray = ls at hl ⊢
  have hl : lv_has ls 3 [(0, .ref a0)] := hl
  unfold f_X7_topsInAll at hf
  refine lv_iconst (v := (0 : Int32)) hx hb dX7_topsInAll_0 (by decide) ?_
  refine lv_istore_n (i := 1) (lv' := [(1, .int (0 : Int32)), (0, .ref a0)]) hx hb dX7_topsInAll_1 rfl hl (by decide) rfl (fun ls hl => ?_)
  refine lv_iconst (v := (0 : Int32)) hx hb dX7_topsInAll_2 (by decide) ?_
  refine lv_istore_n (i := 2) (lv' := [(2, .int (0 : Int32)), (1, .int (0 : Int32)), (0, .ref a0)]) hx hb dX7_topsInAll_3 rfl hl (by decide) rfl (fun ls hl => ?_)
  exact lp_X7_topsInAll_4 X hT a0 zz_F _ _ hf hR (lv_sub hl [2, 1, 0] rfl)
def rm_X8_add : Room := { frames := 0, cells := 0, slots := 0, locals := 0 }
theorem mf_X8_add : zz_Mf yX8_add cX8_add 2 (some .int) 1 := ⟨q_685, q_17, by decide +kernel, by decide +kernel, by decide +kernel⟩
set_option maxHeartbeats 4000000 in
set_option maxRecDepth 100000 in
theorem bk_X8_add_32 {D : va_G} {dA : Nat → ClassId} {base t0 : Nat} {l : Launch} {p : Program} {e : Env} {s : State} {m : MethodId} {args : Array Value} {below : List Frame} {meth : Method} {c : Code} (X : zz_X D dA base t0 "Springseat$Steps" cX8_add 2 (some .int) l p s m meth c) (hT : l.stackTraces = false) {a0 : Nat} {h : zz_H} {n : Nat} {H : Heap} {locs : List Loc} {ls : Array Slot} (hR : zz_R D dA base h n s H locs) (hl : lv_has ls 2 [(0, .ref a0)]) {r0 : Int32} {hF : zz_H} (hf : f_X8_add_32 a0 h = some (r0, hF)) : W p l e rm_X8_add s m args below meth c H locs 0 0 (MQ below (zz_Qc D dA base (some (.int r0)) hF n) args s rm_X8_add.cells rm_X8_add.slots (fun q => base ≤ q)) (F0 m 32 ls []) := by
  have hx := X.1
  have hb := X.2.1
  have hown := X.2.2.2.2.1
  unfold f_X8_add_32 at hf
  refine lv_aload_n hx hb dX8_add_32 rfl (lv_at hl 0 rfl) ?_
  refine zr_gi X hR (r := (some a0)) fl_X8_15 dX8_add_33 hf (fun v33 hf => ?_)
  refine lv_iconst (v := (1 : Int32)) hx hb dX8_add_36 (by decide) ?_
  refine lv_isub hx hb dX8_add_37 ?_
  cases hf
  exact zr_iret X hR dX8_add_38 (Nat.le_of_ble_eq_true rfl) (Nat.le_of_ble_eq_true rfl)
set_option maxHeartbeats 4000000 in
set_option maxRecDepth 100000 in
theorem mt_X8_add {D : va_G} {dA : Nat → ClassId} {base t0 : Nat} {l : Launch} (hT : l.stackTraces = false) (a0 : Nat) (x1 : Int32) (h : zz_H) (n : Nat) {r0 : Int32} {hF : zz_H} (hf : f_X8_add a0 x1 h = some (r0, hF)) : zz_M D dA base t0 l yX8_add cX8_add 2 (some .int) rm_X8_add [.ref a0, .int x1] h n (some (.int r0)) hF n := by
  refine Met.ofW (cc := cX8_add) (maxL := 2) (ret := (some .int)) (by decide +kernel) rfl ?_
  intro p e s m args below meth c s₁ B hml hv
  obtain ⟨rfl, hP, hK⟩ := hv
  have X : zz_X D dA base t0 "Springseat$Steps" cX8_add 2 (some .int) l p s m meth c := ⟨B.exec, B.bytes, hml, B.returns, findClass_of_methodNamed B.named, B.notSynchronized, hT, by rw [hP.1]; exact hP.2.1, hK⟩
  have hx := X.1
  have hb := X.2.1
  have hown := X.2.2.2.2.1
  have hR : zz_R D dA base h n s s.heap [] := ⟨hP, va_S.rf⟩
  have hl := lv_entry ([.ref a0, .int x1]) (n := 2) (by exact Nat.le_of_ble_eq_true rfl)
  rw [lg_entry_eq]
  generalize (lg_sl ([.ref a0, .int x1]) ++ List.replicate (2 - (lg_sl ([.ref a0, .int x1])).length) Slot.unset).toArray = ls at hl ⊢
  have hl : lv_has ls 2 [(0, .ref a0), (1, .int x1)] := hl
  unfold f_X8_add at hf
  refine lv_aload_n hx hb dX8_add_0 rfl (lv_at hl 0 rfl) ?_
  refine zr_gi X hR (r := (some a0)) fl_X8_15 dX8_add_1 hf (fun v1 hf => ?_)
  refine lv_aload_n hx hb dX8_add_4 rfl (lv_at hl 0 rfl) ?_
  refine zr_gq X hR (r := (some a0)) fl_X8_9 dX8_add_5 hf (fun v5 hf => ?_)
  refine zr_alen X hR (r := v5) dX8_add_8 hf (fun v8 hf => ?_)
  refine lv_icmp_ge (tgt := 32) hx hb dX8_add_9 (by decide) (fun c9 => ?_) (fun c9 => ?_)
  · replace hf := zz_pos c9 hf
    exact bk_X8_add_32 X hT hR (lv_sub hl [0] rfl) hf
  · replace hf := zz_neg c9 hf
    refine lv_aload_n hx hb dX8_add_12 rfl (lv_at hl 0 rfl) ?_
    refine zr_gq X hR (r := (some a0)) fl_X8_9 dX8_add_13 hf (fun v13 hf => ?_)
    refine lv_aload_n hx hb dX8_add_16 rfl (lv_at hl 0 rfl) ?_
    refine zr_gi X hR (r := (some a0)) fl_X8_15 dX8_add_17 hf (fun v17 hf => ?_)
    refine lv_iload_n hx hb dX8_add_20 rfl (lv_at hl 1 rfl) ?_
    refine zr_cast X hR (r := v13) dX8_add_21 hf (fun h21 H locs hf hR => ?_)
    refine lv_aload_n hx hb dX8_add_22 rfl (lv_at hl 0 rfl) ?_
    refine lv_dup hx hb dX8_add_23 rfl ?_
    refine zr_gi X hR (r := (some a0)) fl_X8_15 dX8_add_24 hf (fun v24 hf => ?_)
    refine lv_iconst (v := (1 : Int32)) hx hb dX8_add_27 (by decide) ?_
    refine lv_iadd hx hb dX8_add_28 ?_
    refine zr_p X hR (r := (some a0)) (v := .int (v24 + (1 : Int32))) fl_X8_15 rfl dX8_add_29 rfl rfl hf (fun h29 H locs hf hR => ?_)
    exact bk_X8_add_32 X hT hR (lv_sub hl [0] rfl) hf
def rm_X7_close : Room := { frames := 6, cells := 0, slots := 0, locals := 129 }
theorem mf_X7_close : zz_Mf yX7_close cX7_close 4 (some .boolean) 2 := ⟨q_827, q_16, by decide +kernel, by decide +kernel, by decide +kernel⟩
set_option maxHeartbeats 4000000 in
set_option maxRecDepth 100000 in
theorem mt_X7_close {D : va_G} {dA : Nat → ClassId} {base t0 : Nat} {l : Launch} (hT : l.stackTraces = false) (a0 : Nat) (x1 : (Option Nat)) (x2 : Int32) (h : zz_H) (n : Nat) {r0 : Int32} {hF : zz_H} (hf : f_X7_close a0 x1 x2 h = some (r0, hF)) : zz_M D dA base t0 l yX7_close cX7_close 4 (some .boolean) rm_X7_close [.ref a0, va_rf x1, .int x2] h n (some (.int r0)) hF n := by
  refine Met.ofW (cc := cX7_close) (maxL := 4) (ret := (some .boolean)) (by decide +kernel) rfl ?_
  intro p e s m args below meth c s₁ B hml hv
  obtain ⟨rfl, hP, hK⟩ := hv
  have X : zz_X D dA base t0 "Springseat$Seat" cX7_close 4 (some .boolean) l p s m meth c := ⟨B.exec, B.bytes, hml, B.returns, findClass_of_methodNamed B.named, B.notSynchronized, hT, by rw [hP.1]; exact hP.2.1, hK⟩
  have hx := X.1
  have hb := X.2.1
  have hown := X.2.2.2.2.1
  have hR : zz_R D dA base h n s s.heap [] := ⟨hP, va_S.rf⟩
  have hl := lv_entry ([.ref a0, va_rf x1, .int x2]) (n := 4) (by cases x1 <;> exact Nat.le_of_ble_eq_true rfl)
  rw [lg_entry_eq]
  generalize (lg_sl ([.ref a0, va_rf x1, .int x2]) ++ List.replicate (4 - (lg_sl ([.ref a0, va_rf x1, .int x2])).length) Slot.unset).toArray = ls at hl ⊢
  have hl : lv_has ls 4 [(0, .ref a0), (1, va_rf x1), (2, .int x2)] := by rw [show ([(0, .ref a0), (1, va_rf x1), (2, .int x2)] : List (Nat × Value)) = lv_args 0 [.ref a0, va_rf x1, .int x2] from by cases x1 <;> rfl]; exact hl
  unfold f_X7_close at hf
  refine lv_bipush (v := (10 : Int32)) hx hb dX7_close_0 (by decide) ?_
  refine lv_aload_n hx hb dX7_close_2 rfl (lv_at hl 0 rfl) ?_
  refine zr_gq X hR (r := (some a0)) fl_X7_48 dX7_close_3 hf (fun v3 hf => ?_)
  refine zr_giN X hR (r := v3) fn_X7_59 dX7_close_6 hf (fun v6 hf => ?_)
  refine lv_imul hx hb dX7_close_9 ?_
  refine lv_aload_n hx hb dX7_close_10 rfl (lv_at hl 0 rfl) ?_
  obtain ⟨fs11, ho11, hf⟩ := zz_obS_i hf
  obtain ⟨v11, hv11, hf⟩ := zz_b_i hf
  refine zr_cV X hR hl.1 (As := []) (rest := [.int ((10 : Int32) * v6)]) (C := RX7) (T := TX7) (N := 6) (mt_X7_greatestTop hT a0 h n hv11) rfl ho11 mf_X7_greatestTop q_828 q_830 qs_12 ⟨Nat.le_of_ble_eq_true rfl, Nat.le_of_ble_eq_true rfl⟩ ⟨Nat.le_of_ble_eq_true rfl, Nat.le_of_ble_eq_true rfl⟩ rfl (Nat.le_of_ble_eq_true rfl) dX7_close_11 (fun H locs hR => ?_)
  refine W.eq (g2 := F0 m 14 ls [.int v11, .int ((10 : Int32) * v6)]) rfl ?_
  refine lv_iadd hx hb dX7_close_14 ?_
  refine lv_istore_n (i := 3) (lv' := [(3, .int (((10 : Int32) * v6) + v11)), (0, .ref a0), (1, va_rf x1), (2, .int x2)]) hx hb dX7_close_15 rfl hl (by decide) rfl (fun ls hl => ?_)
  refine lv_aload_n hx hb dX7_close_16 rfl (lv_at hl 1 rfl) ?_
  refine zr_gq X hR (r := (some a0)) fl_X7_35 dX7_close_17 hf (fun v17 hf => ?_)
  refine zr_aload_n hx hb dX7_close_20 rfl (lv_at hl 2 rfl) ?_
  refine lv_iload_n hx hb dX7_close_21 rfl (lv_at hl 3 rfl) ?_
  refine lv_aload_n hx hb dX7_close_22 rfl (lv_at hl 1 rfl) ?_
  refine zr_gq X hR (r := (some a0)) fl_X7_48 dX7_close_23 hf (fun v23 hf => ?_)
  refine zr_giN X hR (r := v23) fn_X7_66 dX7_close_26 hf (fun v26 hf => ?_)
  refine lv_iload_n hx hb dX7_close_29 rfl (lv_at hl 0 rfl) ?_
  obtain ⟨b30, fs30, hr30, ho30, hf⟩ := zz_ob_i hf
  obtain ⟨v30, h30, hv30, hf⟩ := zz_b1_i hf
  refine zr_cV X hR hl.1 (As := [va_rf x1, .int x2, .int v26, .int (((10 : Int32) * v6) + v11)]) (rest := []) (C := RX1) (T := TX1) (N := 7) (mt_X1_cut hT b30 x1 x2 v26 (((10 : Int32) * v6) + v11) h n hv30) rfl ho30 mf_X1_cut q_832 q_833 q_834 ⟨Nat.le_of_ble_eq_true rfl, Nat.le_of_ble_eq_true rfl⟩ ⟨Nat.le_of_ble_eq_true rfl, Nat.le_of_ble_eq_true rfl⟩ (by rw [hr30]; rfl) (Nat.le_of_ble_eq_true rfl) dX7_close_30 (fun H locs hR => ?_)
  refine W.eq (g2 := F0 m 33 ls [.int v30]) rfl ?_
  refine lv_if_ne (tgt := 38) hx hb dX7_close_33 (by decide) (fun c33 => ?_) (fun c33 => ?_)
  · replace hf := zz_neg c33 hf
    refine lv_aload_n hx hb dX7_close_38 rfl (lv_at hl 1 rfl) ?_
    refine zr_gq X hR (r := (some a0)) fl_X7_35 dX7_close_39 hf (fun v39 hf => ?_)
    refine lv_aload_n hx hb dX7_close_42 rfl (lv_at hl 1 rfl) ?_
    obtain ⟨fs43, ho43, hf⟩ := zz_obS_i hf
    obtain ⟨v43, hv43, hf⟩ := zz_b_i hf
    refine zr_cV X hR hl.1 (As := []) (rest := [va_rf v39]) (C := RX7) (T := TX7) (N := 6) (mt_X7_topsInAll hT a0 h30 n hv43) rfl ho43 mf_X7_topsInAll q_841 q_332 q_333 ⟨Nat.le_of_ble_eq_true rfl, Nat.le_of_ble_eq_true rfl⟩ ⟨Nat.le_of_ble_eq_true rfl, Nat.le_of_ble_eq_true rfl⟩ rfl (Nat.le_of_ble_eq_true rfl) dX7_close_43 (fun H locs hR => ?_)
    refine W.eq (g2 := F0 m 46 ls [.int v43, va_rf v39]) rfl ?_
    refine zr_pN X hR (r := v39) (v := .int v43) fn_X7_76 rfl dX7_close_46 rfl rfl hf (fun h46 H locs hf hR => ?_)
    refine lv_aload_n hx hb dX7_close_49 rfl (lv_at hl 1 rfl) ?_
    refine zr_gq X hR (r := (some a0)) fl_X7_35 dX7_close_50 hf (fun v50 hf => ?_)
    refine lv_iconst (v := (0 : Int32)) hx hb dX7_close_53 (by decide) ?_
    refine zr_pN X hR (r := v50) (v := .int (0 : Int32)) fn_X7_79 rfl dX7_close_54 rfl rfl hf (fun h54 H locs hf hR => ?_)
    refine lv_aload_n hx hb dX7_close_57 rfl (lv_at hl 1 rfl) ?_
    refine zr_gq X hR (r := (some a0)) fl_X7_12 dX7_close_58 hf (fun v58 hf => ?_)
    refine lv_bipush (v := (99 : Int32)) hx hb dX7_close_61 (by decide) ?_
    obtain ⟨b63, fs63, hr63, ho63, hf⟩ := zz_ob_i hf
    obtain ⟨v63, h63, hv63, hf⟩ := zz_b1_i hf
    refine zr_cV X hR hl.1 (As := [.int (99 : Int32)]) (rest := []) (C := RX8) (T := TX8) (N := 3) (mt_X8_add hT b63 (99 : Int32) h54 n hv63) rfl ho63 mf_X8_add q_842 q_683 q_684 ⟨Nat.le_of_ble_eq_true rfl, Nat.le_of_ble_eq_true rfl⟩ ⟨Nat.le_of_ble_eq_true rfl, Nat.le_of_ble_eq_true rfl⟩ (by rw [hr63]; rfl) (Nat.le_of_ble_eq_true rfl) dX7_close_63 (fun H locs hR => ?_)
    refine W.eq (g2 := F0 m 66 ls [.int v63]) rfl ?_
    refine lv_pop hx hb dX7_close_66 rfl ?_
    refine lv_iconst (v := (1 : Int32)) hx hb dX7_close_67 (by decide) ?_
    cases hf
    exact zr_zret X hR (v := (1 : Int32)) rfl dX7_close_68 (Nat.le_of_ble_eq_true rfl) (Nat.le_of_ble_eq_true rfl)
  · replace hf := zz_pos c33 hf
    refine lv_iconst (v := (0 : Int32)) hx hb dX7_close_36 (by decide) ?_
    cases hf
    exact zr_zret X hR (v := (0 : Int32)) rfl dX7_close_37 (Nat.le_of_ble_eq_true rfl) (Nat.le_of_ble_eq_true rfl)
end ZZM
