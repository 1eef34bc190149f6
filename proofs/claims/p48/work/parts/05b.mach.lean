section ZZM
def rm_X0_init : Room := { frames := 1, cells := 1, slots := 10, locals := 20 }
theorem mf_X0_init : zz_Mf yX0_init cX0_init 3 none 2 := ⟨q_899, q_27, by decide +kernel, by decide +kernel, by decide +kernel⟩
set_option maxHeartbeats 4000000 in
set_option maxRecDepth 100000 in
theorem mt_X0_init {D : va_G} {dA : Nat → ClassId} {base t0 : Nat} {l : Launch} (hT : l.stackTraces = false) (a0 : Nat) (x1 : Int32) (x2 : Int32) (h : zz_H) (n : Nat) {r0 : Unit} {hF : zz_H} {nF : Nat} (hf : f_X0_init t0 a0 x1 x2 h n = some (r0, hF, nF)) : zz_M D dA base t0 l yX0_init cX0_init 3 none rm_X0_init [.ref a0, .int x1, .int x2] h n none hF nF := by
  refine Met.ofW (cc := cX0_init) (maxL := 3) (ret := none) (by decide +kernel) rfl ?_
  intro p e s m args below meth c s₁ B hml hv
  obtain ⟨rfl, hP, hK⟩ := hv
  have X : zz_X D dA base t0 "Springseat$Cloth" cX0_init 3 none l p s m meth c := ⟨B.exec, B.bytes, hml, B.returns, findClass_of_methodNamed B.named, B.notSynchronized, hT, by rw [hP.1]; exact hP.2.1, hK⟩
  have hx := X.1
  have hb := X.2.1
  have hown := X.2.2.2.2.1
  have hin : meth.name = "<init>" := (name_of_methodNamed B.named B.method).1
  have hR : zz_R D dA base h n s s.heap [] := ⟨hP, va_S.rf⟩
  have hl := lv_entry ([.ref a0, .int x1, .int x2]) (n := 3) (by exact Nat.le_of_ble_eq_true rfl)
  rw [lg_entry_eq]
  generalize (lg_sl ([.ref a0, .int x1, .int x2]) ++ List.replicate (3 - (lg_sl ([.ref a0, .int x1, .int x2])).length) Slot.unset).toArray = ls at hl ⊢
  have hl : lv_has ls 3 [(0, .ref a0), (1, .int x1), (2, .int x2)] := hl
  unfold f_X0_init at hf
  refine lv_aload_n hx hb dX0_init_0 rfl (lv_at hl 0 rfl) ?_
  refine zr_obj X hl.1 q_900 q_34 q_35 dX0_init_1 (Nat.le_of_ble_eq_true rfl) ⟨Nat.le_of_ble_eq_true rfl, Nat.le_of_ble_eq_true rfl⟩ ?_
  refine W.eq (g2 := F0 m 4 ls []) rfl ?_
  refine lv_aload_n hx hb dX0_init_4 rfl (lv_at hl 0 rfl) ?_
  refine lv_bipush (v := (10 : Int32)) hx hb dX0_init_5 (by decide) ?_
  refine zr_newa X hR (t := 0) (N := 10) (a0 := (10, .inl (fun _ => 0))) (by decide) rfl q_72 (fun _ z => z) (fun cA => rfl) (by decide) (by decide) (Nat.le_of_ble_eq_true rfl) (Nat.le_of_ble_eq_true rfl) (Nat.le_of_ble_eq_true rfl) dX0_init_7 (fun H hR => ?_)
  refine W.widen (k := 1) (n := 10) (Nat.le_of_ble_eq_true rfl) (Nat.le_of_ble_eq_true rfl) ?_
  refine zr_pF X hR (r := (some a0)) (v := .ref n) fl_X0_9 rfl hin rfl dX0_init_9 (zz_nr rfl (some n)).1 (zz_nr rfl (some n)).2 hf (fun h9 H locs hf hR => ?_)
  refine lv_aload_n hx hb dX0_init_12 rfl (lv_at hl 0 rfl) ?_
  refine lv_iload_n hx hb dX0_init_13 rfl (lv_at hl 1 rfl) ?_
  refine zr_pF X hR (r := (some a0)) (v := .int x1) fl_X0_15 rfl hin rfl dX0_init_14 rfl rfl hf (fun h14 H locs hf hR => ?_)
  refine lv_aload_n hx hb dX0_init_17 rfl (lv_at hl 0 rfl) ?_
  refine lv_iload_n hx hb dX0_init_18 rfl (lv_at hl 2 rfl) ?_
  refine zr_pF X hR (r := (some a0)) (v := .int x2) fl_X0_19 rfl hin rfl dX0_init_19 rfl rfl hf (fun h19 H locs hf hR => ?_)
  cases hf
  exact zr_vret X hR dX0_init_22 (Nat.le_of_ble_eq_true rfl) (Nat.le_of_ble_eq_true rfl)
def rm_X0_lastFlaw : Room := { frames := 1, cells := 0, slots := 0, locals := 21 }
theorem mf_X0_lastFlaw : zz_Mf yX0_lastFlaw cX0_lastFlaw 5 (some .int) 2 := ⟨q_429, q_27, by decide +kernel, by decide +kernel, by decide +kernel⟩
set_option maxHeartbeats 4000000 in
set_option maxRecDepth 100000 in
theorem bk_X0_lastFlaw_64 {D : va_G} {dA : Nat → ClassId} {base t0 : Nat} {l : Launch} {p : Program} {e : Env} {s : State} {m : MethodId} {args : Array Value} {below : List Frame} {meth : Method} {c : Code} (X : zz_X D dA base t0 "Springseat$Cloth" cX0_lastFlaw 5 (some .int) l p s m meth c) (hT : l.stackTraces = false) {x3 : Int32} {h : zz_H} {n : Nat} {H : Heap} {locs : List Loc} {ls : Array Slot} (hR : zz_R D dA base h n s H locs) (hl : lv_has ls 5 [(3, .int x3)]) {r0 : Int32} (hf : f_X0_lastFlaw_64 x3 h = some r0) : W p l e rm_X0_lastFlaw s m args below meth c H locs 0 0 (MQ below (zz_Qc D dA base (some (.int r0)) h n) args s rm_X0_lastFlaw.cells rm_X0_lastFlaw.slots (fun q => base ≤ q)) (F0 m 64 ls []) := by
  have hx := X.1
  have hb := X.2.1
  have hown := X.2.2.2.2.1
  unfold f_X0_lastFlaw_64 at hf
  refine lv_iload_n hx hb dX0_lastFlaw_64 rfl (lv_at hl 0 rfl) ?_
  cases hf
  exact zr_iret X hR dX0_lastFlaw_65 (Nat.le_of_ble_eq_true rfl) (Nat.le_of_ble_eq_true rfl)
set_option maxHeartbeats 4000000 in
set_option maxRecDepth 100000 in
theorem bk_X0_lastFlaw_58 {D : va_G} {dA : Nat → ClassId} {base t0 : Nat} {l : Launch} {p : Program} {e : Env} {s : State} {m : MethodId} {args : Array Value} {below : List Frame} {meth : Method} {c : Code} (X : zz_X D dA base t0 "Springseat$Cloth" cX0_lastFlaw 5 (some .int) l p s m meth c) (hT : l.stackTraces = false) {a0 : Nat} {x1 : Int32} {x2 : Int32} {x3 : Int32} {x4 : Int32} {h : zz_H} {n : Nat} {H : Heap} {locs : List Loc} {ls : Array Slot} (hR : zz_R D dA base h n s H locs) (hl : lv_has ls 5 [(0, .ref a0), (1, .int x1), (2, .int x2), (3, .int x3), (4, .int x4)]) {r0 : Int32} {o : ((Int32 × Int32) ⊕ Int32)} (hf : f_X0_lastFlaw_58 a0 x1 x2 x3 x4 h = some o) (k0 : ∀ (w3 : Int32) (w4 : Int32), o = (.inl (w3, w4)) → ∀ {H : Heap} {locs : List Loc} {ls : Array Slot}, zz_R D dA base h n s H locs → lv_has ls 5 [(0, .ref a0), (1, .int x1), (2, .int x2), (3, .int w3), (4, .int w4)] → W p l e rm_X0_lastFlaw s m args below meth c H locs 0 0 (MQ below (zz_Qc D dA base (some (.int r0)) h n) args s rm_X0_lastFlaw.cells rm_X0_lastFlaw.slots (fun q => base ≤ q)) (F0 m 5 ls [])) (hret : ∀ r, o = (.inr r) → r = r0) : W p l e rm_X0_lastFlaw s m args below meth c H locs 0 0 (MQ below (zz_Qc D dA base (some (.int r0)) h n) args s rm_X0_lastFlaw.cells rm_X0_lastFlaw.slots (fun q => base ≤ q)) (F0 m 58 ls []) := by
  have hx := X.1
  have hb := X.2.1
  have hown := X.2.2.2.2.1
  unfold f_X0_lastFlaw_58 at hf
  refine lv_iinc (i := 4) (v := (x4 + (1 : Int32))) (lv' := [(4, .int (x4 + (1 : Int32))), (0, .ref a0), (1, .int x1), (2, .int x2), (3, .int x3)]) hx hb dX0_lastFlaw_58 hl (k := 4) rfl rfl (by decide) rfl (fun ls hl => ?_)
  refine lv_goto (tgt := 5) hx hb dX0_lastFlaw_61 (by decide) ?_
  cases hf
  exact k0 _ _ rfl hR (lv_sub hl [1, 2, 3, 4, 0] rfl)
set_option maxHeartbeats 4000000 in
set_option maxRecDepth 100000 in
theorem bk_X0_lastFlaw_5 {D : va_G} {dA : Nat → ClassId} {base t0 : Nat} {l : Launch} {p : Program} {e : Env} {s : State} {m : MethodId} {args : Array Value} {below : List Frame} {meth : Method} {c : Code} (X : zz_X D dA base t0 "Springseat$Cloth" cX0_lastFlaw 5 (some .int) l p s m meth c) (hT : l.stackTraces = false) {a0 : Nat} {x1 : Int32} {x2 : Int32} {x3 : Int32} {x4 : Int32} {h : zz_H} {n : Nat} {H : Heap} {locs : List Loc} {ls : Array Slot} (hR : zz_R D dA base h n s H locs) (hl : lv_has ls 5 [(0, .ref a0), (1, .int x1), (2, .int x2), (3, .int x3), (4, .int x4)]) {r0 : Int32} {o : ((Int32 × Int32) ⊕ Int32)} (hf : f_X0_lastFlaw_5 a0 x1 x2 x3 x4 h = some o) (k0 : ∀ (w3 : Int32) (w4 : Int32), o = (.inl (w3, w4)) → ∀ {H : Heap} {locs : List Loc} {ls : Array Slot}, zz_R D dA base h n s H locs → lv_has ls 5 [(0, .ref a0), (1, .int x1), (2, .int x2), (3, .int w3), (4, .int w4)] → W p l e rm_X0_lastFlaw s m args below meth c H locs 0 0 (MQ below (zz_Qc D dA base (some (.int r0)) h n) args s rm_X0_lastFlaw.cells rm_X0_lastFlaw.slots (fun q => base ≤ q)) (F0 m 5 ls [])) (hret : ∀ r, o = (.inr r) → r = r0) : W p l e rm_X0_lastFlaw s m args below meth c H locs 0 0 (MQ below (zz_Qc D dA base (some (.int r0)) h n) args s rm_X0_lastFlaw.cells rm_X0_lastFlaw.slots (fun q => base ≤ q)) (F0 m 5 ls []) := by
  have hx := X.1
  have hb := X.2.1
  have hown := X.2.2.2.2.1
  unfold f_X0_lastFlaw_5 at hf
  refine lv_iload hx hb dX0_lastFlaw_5 (lv_at hl 4 rfl) ?_
  refine lv_aload_n hx hb dX0_lastFlaw_7 rfl (lv_at hl 0 rfl) ?_
  refine zr_gi X hR (r := (some a0)) fl_X0_22 dX0_lastFlaw_8 hf (fun v8 hf => ?_)
  refine lv_icmp_ge (tgt := 64) hx hb dX0_lastFlaw_11 (by decide) (fun c11 => ?_) (fun c11 => ?_)
  · replace hf := zz_pos c11 hf
    obtain ⟨o1, hf1, he⟩ := Option.map_eq_some_iff.mp hf
    cases he
    cases hret _ rfl
    exact bk_X0_lastFlaw_64 X hT hR (lv_sub hl [3] rfl) hf1
  · replace hf := zz_neg c11 hf
    refine lv_iload hx hb dX0_lastFlaw_14 (lv_at hl 4 rfl) ?_
    refine lv_aload_n hx hb dX0_lastFlaw_16 rfl (lv_at hl 0 rfl) ?_
    refine zr_gq X hR (r := (some a0)) fl_X0_9 dX0_lastFlaw_17 hf (fun v17 hf => ?_)
    refine zr_alen X hR (r := v17) dX0_lastFlaw_20 hf (fun v20 hf => ?_)
    refine lv_icmp_ge (tgt := 64) hx hb dX0_lastFlaw_21 (by decide) (fun c21 => ?_) (fun c21 => ?_)
    · replace hf := zz_pos c21 hf
      obtain ⟨o1, hf1, he⟩ := Option.map_eq_some_iff.mp hf
      cases he
      cases hret _ rfl
      exact bk_X0_lastFlaw_64 X hT hR (lv_sub hl [3] rfl) hf1
    · replace hf := zz_neg c21 hf
      refine lv_aload_n hx hb dX0_lastFlaw_24 rfl (lv_at hl 0 rfl) ?_
      refine zr_gq X hR (r := (some a0)) fl_X0_9 dX0_lastFlaw_25 hf (fun v25 hf => ?_)
      refine lv_iload hx hb dX0_lastFlaw_28 (lv_at hl 4 rfl) ?_
      refine zr_iald X hR (r := v25) dX0_lastFlaw_30 hf (fun v30 hf => ?_)
      refine lv_iload_n hx hb dX0_lastFlaw_31 rfl (lv_at hl 1 rfl) ?_
      refine lv_icmp_lt (tgt := 58) hx hb dX0_lastFlaw_32 (by decide) (fun c32 => ?_) (fun c32 => ?_)
      · replace hf := zz_pos c32 hf
        exact bk_X0_lastFlaw_58 X hT hR (lv_sub hl [0, 1, 2, 3, 4] rfl) hf k0 hret
      · replace hf := zz_neg c32 hf
        refine lv_aload_n hx hb dX0_lastFlaw_35 rfl (lv_at hl 0 rfl) ?_
        refine zr_gq X hR (r := (some a0)) fl_X0_9 dX0_lastFlaw_36 hf (fun v36 hf => ?_)
        refine lv_iload hx hb dX0_lastFlaw_39 (lv_at hl 4 rfl) ?_
        refine zr_iald X hR (r := v36) dX0_lastFlaw_41 hf (fun v41 hf => ?_)
        refine lv_iload_n hx hb dX0_lastFlaw_42 rfl (lv_at hl 2 rfl) ?_
        refine lv_icmp_ge (tgt := 58) hx hb dX0_lastFlaw_43 (by decide) (fun c43 => ?_) (fun c43 => ?_)
        · replace hf := zz_pos c43 hf
          exact bk_X0_lastFlaw_58 X hT hR (lv_sub hl [0, 1, 2, 3, 4] rfl) hf k0 hret
        · replace hf := zz_neg c43 hf
          refine lv_iload_n hx hb dX0_lastFlaw_46 rfl (lv_at hl 3 rfl) ?_
          refine lv_aload_n hx hb dX0_lastFlaw_47 rfl (lv_at hl 0 rfl) ?_
          refine zr_gq X hR (r := (some a0)) fl_X0_9 dX0_lastFlaw_48 hf (fun v48 hf => ?_)
          refine lv_iload hx hb dX0_lastFlaw_51 (lv_at hl 4 rfl) ?_
          refine zr_iald X hR (r := v48) dX0_lastFlaw_53 hf (fun v53 hf => ?_)
          refine zr_max X hl.1 q_430 q_106 q_8 q_107 (Nat.le_of_ble_eq_true rfl) ⟨Nat.le_of_ble_eq_true rfl, Nat.le_of_ble_eq_true rfl⟩ ⟨Nat.le_of_ble_eq_true rfl, Nat.le_of_ble_eq_true rfl⟩ dX0_lastFlaw_54 ?_
          refine W.eq (g2 := F0 m 57 ls [.int (zz_max x3 v53)]) rfl ?_
          refine lv_istore_n (i := 3) (lv' := [(3, .int (zz_max x3 v53)), (0, .ref a0), (1, .int x1), (2, .int x2), (4, .int x4)]) hx hb dX0_lastFlaw_57 rfl hl (by decide) rfl (fun ls hl => ?_)
          exact bk_X0_lastFlaw_58 X hT hR (lv_sub hl [1, 2, 3, 0, 4] rfl) hf k0 hret
set_option maxHeartbeats 4000000 in
set_option maxRecDepth 100000 in
theorem lp_X0_lastFlaw_5 {D : va_G} {dA : Nat → ClassId} {base t0 : Nat} {l : Launch} {p : Program} {e : Env} {s : State} {m : MethodId} {args : Array Value} {below : List Frame} {meth : Method} {c : Code} (X : zz_X D dA base t0 "Springseat$Cloth" cX0_lastFlaw 5 (some .int) l p s m meth c) (hT : l.stackTraces = false) (a0 : Nat) (x1 : Int32) (x2 : Int32) {h : zz_H} {n : Nat} {r0 : Int32} : ∀ (k : Nat) (x3 : Int32) (x4 : Int32), zz_it (fun s : (Int32 × Int32) => f_X0_lastFlaw_5 a0 x1 x2 s.1 s.2 h) k (x3, x4) = some r0 → ∀ {H : Heap} {locs : List Loc} {ls : Array Slot}, zz_R D dA base h n s H locs → lv_has ls 5 [(0, .ref a0), (1, .int x1), (2, .int x2), (3, .int x3), (4, .int x4)] → W p l e rm_X0_lastFlaw s m args below meth c H locs 0 0 (MQ below (zz_Qc D dA base (some (.int r0)) h n) args s rm_X0_lastFlaw.cells rm_X0_lastFlaw.slots (fun q => base ≤ q)) (F0 m 5 ls []) := by
  intro k
  induction k with
  | zero => intro x3 x4 hf; cases hf
  | succ k ih =>
    intro x3 x4 hf H locs ls hR hl
    rcases zz_it_s hf with ⟨⟨y0, y1⟩, h1, h2⟩ | h1
    · exact bk_X0_lastFlaw_5 (r0 := r0) X hT hR hl h1  (fun z0 z1 e => by cases e; exact ih _ _ h2) (fun r e => by cases e)
    · exact bk_X0_lastFlaw_5 (r0 := r0) X hT hR hl h1  (fun z0 z1 e => by cases e) (fun r e => (Sum.inr.inj e).symm)
set_option maxHeartbeats 4000000 in
set_option maxRecDepth 100000 in
theorem mt_X0_lastFlaw {D : va_G} {dA : Nat → ClassId} {base t0 : Nat} {l : Launch} (hT : l.stackTraces = false) (a0 : Nat) (x1 : Int32) (x2 : Int32) (h : zz_H) (n : Nat) {r0 : Int32} (hf : f_X0_lastFlaw a0 x1 x2 h = some r0) : zz_M D dA base t0 l yX0_lastFlaw cX0_lastFlaw 5 (some .int) rm_X0_lastFlaw [.ref a0, .int x1, .int x2] h n (some (.int r0)) h n := by
  refine Met.ofW (cc := cX0_lastFlaw) (maxL := 5) (ret := (some .int)) (by decide +kernel) rfl ?_
  intro p e s m args below meth c s₁ B hml hv
  obtain ⟨rfl, hP, hK⟩ := hv
  have X : zz_X D dA base t0 "Springseat$Cloth" cX0_lastFlaw 5 (some .int) l p s m meth c := ⟨B.exec, B.bytes, hml, B.returns, findClass_of_methodNamed B.named, B.notSynchronized, hT, by rw [hP.1]; exact hP.2.1, hK⟩
  have hx := X.1
  have hb := X.2.1
  have hown := X.2.2.2.2.1
  have hR : zz_R D dA base h n s s.heap [] := ⟨hP, va_S.rf⟩
  have hl := lv_entry ([.ref a0, .int x1, .int x2]) (n := 5) (by exact Nat.le_of_ble_eq_true rfl)
  rw [lg_entry_eq]
  generalize (lg_sl ([.ref a0, .int x1, .int x2]) ++ List.replicate (5 - (lg_sl ([.ref a0, .int x1, .int x2])).length) Slot.unset).toArray = ls at hl ⊢
  have hl : lv_has ls 5 [(0, .ref a0), (1, .int x1), (2, .int x2)] := hl
  unfold f_X0_lastFlaw at hf
  refine lv_iconst (v := (-1 : Int32)) hx hb dX0_lastFlaw_0 (by decide) ?_
  refine lv_istore_n (i := 3) (lv' := [(3, .int (-1 : Int32)), (0, .ref a0), (1, .int x1), (2, .int x2)]) hx hb dX0_lastFlaw_1 rfl hl (by decide) rfl (fun ls hl => ?_)
  refine lv_iconst (v := (0 : Int32)) hx hb dX0_lastFlaw_2 (by decide) ?_
  refine lv_istore (i := 4) (lv' := [(4, .int (0 : Int32)), (3, .int (-1 : Int32)), (0, .ref a0), (1, .int x1), (2, .int x2)]) hx hb dX0_lastFlaw_3 hl (by decide) rfl (fun ls hl => ?_)
  exact lp_X0_lastFlaw_5 X hT a0 x1 x2 zz_F _ _ hf hR (lv_sub hl [2, 3, 4, 1, 0] rfl)
def rm_X0_hasFlaw : Room := { frames := 2, cells := 0, slots := 0, locals := 45 }
theorem mf_X0_hasFlaw : zz_Mf yX0_hasFlaw cX0_hasFlaw 3 (some .boolean) 2 := ⟨q_424, q_27, by decide +kernel, by decide +kernel, by decide +kernel⟩
set_option maxHeartbeats 4000000 in
set_option maxRecDepth 100000 in
theorem bk_X0_hasFlaw_14 {D : va_G} {dA : Nat → ClassId} {base t0 : Nat} {l : Launch} {p : Program} {e : Env} {s : State} {m : MethodId} {args : Array Value} {below : List Frame} {meth : Method} {c : Code} (X : zz_X D dA base t0 "Springseat$Cloth" cX0_hasFlaw 3 (some .boolean) l p s m meth c) (hT : l.stackTraces = false) {s0 : Int32} {h : zz_H} {n : Nat} {H : Heap} {locs : List Loc} {ls : Array Slot} (hR : zz_R D dA base h n s H locs) (hl : lv_has ls 3 []) {r0 : Int32} (hf : f_X0_hasFlaw_14 s0 h = some r0) : W p l e rm_X0_hasFlaw s m args below meth c H locs 0 0 (MQ below (zz_Qc D dA base (some (.int r0)) h n) args s rm_X0_hasFlaw.cells rm_X0_hasFlaw.slots (fun q => base ≤ q)) (F0 m 14 ls [.int s0]) := by
  have hx := X.1
  have hb := X.2.1
  have hown := X.2.2.2.2.1
  unfold f_X0_hasFlaw_14 at hf
  obtain ⟨hz14, hf⟩ := zz_gz_i hf
  cases hf
  exact zr_zret X hR (zz_nz hz14) dX0_hasFlaw_14 (Nat.le_of_ble_eq_true rfl) (Nat.le_of_ble_eq_true rfl)
set_option maxHeartbeats 4000000 in
set_option maxRecDepth 100000 in
theorem mt_X0_hasFlaw {D : va_G} {dA : Nat → ClassId} {base t0 : Nat} {l : Launch} (hT : l.stackTraces = false) (a0 : Nat) (x1 : Int32) (x2 : Int32) (h : zz_H) (n : Nat) {r0 : Int32} (hf : f_X0_hasFlaw a0 x1 x2 h = some r0) : zz_M D dA base t0 l yX0_hasFlaw cX0_hasFlaw 3 (some .boolean) rm_X0_hasFlaw [.ref a0, .int x1, .int x2] h n (some (.int r0)) h n := by
  refine Met.ofW (cc := cX0_hasFlaw) (maxL := 3) (ret := (some .boolean)) (by decide +kernel) rfl ?_
  intro p e s m args below meth c s₁ B hml hv
  obtain ⟨rfl, hP, hK⟩ := hv
  have X : zz_X D dA base t0 "Springseat$Cloth" cX0_hasFlaw 3 (some .boolean) l p s m meth c := ⟨B.exec, B.bytes, hml, B.returns, findClass_of_methodNamed B.named, B.notSynchronized, hT, by rw [hP.1]; exact hP.2.1, hK⟩
  have hx := X.1
  have hb := X.2.1
  have hown := X.2.2.2.2.1
  have hR : zz_R D dA base h n s s.heap [] := ⟨hP, va_S.rf⟩
  have hl := lv_entry ([.ref a0, .int x1, .int x2]) (n := 3) (by exact Nat.le_of_ble_eq_true rfl)
  rw [lg_entry_eq]
  generalize (lg_sl ([.ref a0, .int x1, .int x2]) ++ List.replicate (3 - (lg_sl ([.ref a0, .int x1, .int x2])).length) Slot.unset).toArray = ls at hl ⊢
  have hl : lv_has ls 3 [(0, .ref a0), (1, .int x1), (2, .int x2)] := hl
  unfold f_X0_hasFlaw at hf
  refine lv_aload_n hx hb dX0_hasFlaw_0 rfl (lv_at hl 0 rfl) ?_
  refine lv_iload_n hx hb dX0_hasFlaw_1 rfl (lv_at hl 1 rfl) ?_
  refine lv_iload_n hx hb dX0_hasFlaw_2 rfl (lv_at hl 2 rfl) ?_
  obtain ⟨fs3, ho3, hf⟩ := zz_obS_i hf
  obtain ⟨v3, hv3, hf⟩ := zz_b_i hf
  refine zr_cV X hR hl.1 (As := [.int x1, .int x2]) (rest := []) (C := RX0) (T := TX0) (N := 5) (mt_X0_lastFlaw hT a0 x1 x2 h n hv3) rfl ho3 mf_X0_lastFlaw q_425 q_427 qs_8 ⟨Nat.le_of_ble_eq_true rfl, Nat.le_of_ble_eq_true rfl⟩ ⟨Nat.le_of_ble_eq_true rfl, Nat.le_of_ble_eq_true rfl⟩ rfl (Nat.le_of_ble_eq_true rfl) dX0_hasFlaw_3 (fun H locs hR => ?_)
  refine W.eq (g2 := F0 m 6 ls [.int v3]) rfl ?_
  refine lv_if_lt (tgt := 13) hx hb dX0_hasFlaw_6 (by decide) (fun c6 => ?_) (fun c6 => ?_)
  · replace hf := zz_pos c6 hf
    refine lv_iconst (v := (0 : Int32)) hx hb dX0_hasFlaw_13 (by decide) ?_
    exact bk_X0_hasFlaw_14 X hT hR (lv_sub hl [] rfl) hf
  · replace hf := zz_neg c6 hf
    refine lv_iconst (v := (1 : Int32)) hx hb dX0_hasFlaw_9 (by decide) ?_
    refine lv_goto (tgt := 14) hx hb dX0_hasFlaw_10 (by decide) ?_
    exact bk_X0_hasFlaw_14 X hT hR (lv_sub hl [] rfl) hf
def rm_J9_floorMod_7cf53 : Room := { frames := 0, cells := 0, slots := 0, locals := 0 }
theorem mf_J9_floorMod_7cf53 : zz_Mf yJ9_floorMod_7cf53 cJ9_floorMod_7cf53 3 (some .int) 2 := ⟨q_420, q_8, by decide +kernel, by decide +kernel, by decide +kernel⟩
set_option maxHeartbeats 4000000 in
set_option maxRecDepth 100000 in
theorem bk_J9_floorMod_7cf53_18 {D : va_G} {dA : Nat → ClassId} {base t0 : Nat} {l : Launch} {p : Program} {e : Env} {s : State} {m : MethodId} {args : Array Value} {below : List Frame} {meth : Method} {c : Code} (X : zz_X D dA base t0 "java/lang/Math" cJ9_floorMod_7cf53 3 (some .int) l p s m meth c) (hT : l.stackTraces = false) {x2 : Int32} {h : zz_H} {n : Nat} {H : Heap} {locs : List Loc} {ls : Array Slot} (hR : zz_R D dA base h n s H locs) (hl : lv_has ls 3 [(2, .int x2)]) {r0 : Int32} (hf : f_J9_floorMod_7cf53_18 x2 h = some r0) : W p l e rm_J9_floorMod_7cf53 s m args below meth c H locs 0 0 (MQ below (zz_Qc D dA base (some (.int r0)) h n) args s rm_J9_floorMod_7cf53.cells rm_J9_floorMod_7cf53.slots (fun q => base ≤ q)) (F0 m 18 ls []) := by
  have hx := X.1
  have hb := X.2.1
  have hown := X.2.2.2.2.1
  unfold f_J9_floorMod_7cf53_18 at hf
  refine lv_iload_n hx hb dJ9_floorMod_7cf53_18 rfl (lv_at hl 0 rfl) ?_
  cases hf
  exact zr_iret X hR dJ9_floorMod_7cf53_19 (Nat.le_of_ble_eq_true rfl) (Nat.le_of_ble_eq_true rfl)
set_option maxHeartbeats 4000000 in
set_option maxRecDepth 100000 in
theorem mt_J9_floorMod_7cf53 {D : va_G} {dA : Nat → ClassId} {base t0 : Nat} {l : Launch} (hT : l.stackTraces = false) (x0 : Int32) (x1 : Int32) (h : zz_H) (n : Nat) {r0 : Int32} (hf : f_J9_floorMod_7cf53 x0 x1 h = some r0) : zz_M D dA base t0 l yJ9_floorMod_7cf53 cJ9_floorMod_7cf53 3 (some .int) rm_J9_floorMod_7cf53 [.int x0, .int x1] h n (some (.int r0)) h n := by
  refine zz_ofF (cc := cJ9_floorMod_7cf53) (maxL := 3) (ret := (some .int)) (by decide +kernel) rfl ?_
  intro p e s m args below meth c s₁ B hml hv
  obtain ⟨rfl, hP, hK⟩ := hv
  have X : zz_X D dA base t0 "java/lang/Math" cJ9_floorMod_7cf53 3 (some .int) l p s m meth c := ⟨B.exec, B.bytes, hml, B.returns, findClass_of_methodNamed B.named, B.notSynchronized, hT, by rw [hP.1]; exact hP.2.1, hK⟩
  have hx := X.1
  have hb := X.2.1
  have hown := X.2.2.2.2.1
  have hR : zz_R D dA base h n s s.heap [] := ⟨hP, va_S.rf⟩
  have hl := lv_entry ([.int x0, .int x1]) (n := 3) (by exact Nat.le_of_ble_eq_true rfl)
  rw [lg_entry_eq]
  generalize (lg_sl ([.int x0, .int x1]) ++ List.replicate (3 - (lg_sl ([.int x0, .int x1])).length) Slot.unset).toArray = ls at hl ⊢
  have hl : lv_has ls 3 [(0, .int x0), (1, .int x1)] := hl
  unfold f_J9_floorMod_7cf53 at hf
  refine lv_iload_n hx hb dJ9_floorMod_7cf53_0 rfl (lv_at hl 0 rfl) ?_
  refine lv_iload_n hx hb dJ9_floorMod_7cf53_1 rfl (lv_at hl 1 rfl) ?_
  obtain ⟨hne2, hf⟩ := zz_dv_i hf
  refine lv_irem hx hb dJ9_floorMod_7cf53_2 hne2 ?_
  refine lv_istore_n (i := 2) (lv' := [(2, .int (zz_rem x0 x1)), (0, .int x0), (1, .int x1)]) hx hb dJ9_floorMod_7cf53_3 rfl hl (by decide) rfl (fun ls hl => ?_)
  refine lv_iload_n hx hb dJ9_floorMod_7cf53_4 rfl (lv_at hl 1 rfl) ?_
  refine lv_iload_n hx hb dJ9_floorMod_7cf53_5 rfl (lv_at hl 2 rfl) ?_
  refine lv_ixor hx hb dJ9_floorMod_7cf53_6 ?_
  refine lv_if_ge (tgt := 18) hx hb dJ9_floorMod_7cf53_7 (by decide) (fun c7 => ?_) (fun c7 => ?_)
  · replace hf := zz_pos c7 hf
    exact bk_J9_floorMod_7cf53_18 X hT hR (lv_sub hl [0] rfl) hf
  · replace hf := zz_neg c7 hf
    refine lv_iload_n hx hb dJ9_floorMod_7cf53_10 rfl (lv_at hl 0 rfl) ?_
    refine lv_if_eq (tgt := 18) hx hb dJ9_floorMod_7cf53_11 (by decide) (fun c11 => ?_) (fun c11 => ?_)
    · replace hf := zz_pos c11 hf
      exact bk_J9_floorMod_7cf53_18 X hT hR (lv_sub hl [0] rfl) hf
    · replace hf := zz_neg c11 hf
      refine lv_iload_n hx hb dJ9_floorMod_7cf53_14 rfl (lv_at hl 0 rfl) ?_
      refine lv_iload_n hx hb dJ9_floorMod_7cf53_15 rfl (lv_at hl 2 rfl) ?_
      refine lv_iadd hx hb dJ9_floorMod_7cf53_16 ?_
      cases hf
      exact zr_iret X hR dJ9_floorMod_7cf53_17 (Nat.le_of_ble_eq_true rfl) (Nat.le_of_ble_eq_true rfl)
def rm_X0_nextMatch : Room := { frames := 1, cells := 0, slots := 0, locals := 22 }
theorem mf_X0_nextMatch : zz_Mf yX0_nextMatch cX0_nextMatch 3 (some .int) 2 := ⟨q_417, q_27, by decide +kernel, by decide +kernel, by decide +kernel⟩
set_option maxHeartbeats 4000000 in
set_option maxRecDepth 100000 in
theorem bk_X0_nextMatch_24 {D : va_G} {dA : Nat → ClassId} {base t0 : Nat} {l : Launch} {p : Program} {e : Env} {s : State} {m : MethodId} {args : Array Value} {below : List Frame} {meth : Method} {c : Code} (X : zz_X D dA base t0 "Springseat$Cloth" cX0_nextMatch 3 (some .int) l p s m meth c) (hT : l.stackTraces = false) {s0 : Int32} {h : zz_H} {n : Nat} {H : Heap} {locs : List Loc} {ls : Array Slot} (hR : zz_R D dA base h n s H locs) (hl : lv_has ls 3 []) {r0 : Int32} (hf : f_X0_nextMatch_24 s0 h = some r0) : W p l e rm_X0_nextMatch s m args below meth c H locs 0 0 (MQ below (zz_Qc D dA base (some (.int r0)) h n) args s rm_X0_nextMatch.cells rm_X0_nextMatch.slots (fun q => base ≤ q)) (F0 m 24 ls [.int s0]) := by
  have hx := X.1
  have hb := X.2.1
  have hown := X.2.2.2.2.1
  unfold f_X0_nextMatch_24 at hf
  cases hf
  exact zr_iret X hR dX0_nextMatch_24 (Nat.le_of_ble_eq_true rfl) (Nat.le_of_ble_eq_true rfl)
set_option maxHeartbeats 4000000 in
set_option maxRecDepth 100000 in
theorem mt_X0_nextMatch {D : va_G} {dA : Nat → ClassId} {base t0 : Nat} {l : Launch} (hT : l.stackTraces = false) (a0 : Nat) (x1 : Int32) (x2 : Int32) (h : zz_H) (n : Nat) {r0 : Int32} (hf : f_X0_nextMatch a0 x1 x2 h = some r0) : zz_M D dA base t0 l yX0_nextMatch cX0_nextMatch 3 (some .int) rm_X0_nextMatch [.ref a0, .int x1, .int x2] h n (some (.int r0)) h n := by
  refine Met.ofW (cc := cX0_nextMatch) (maxL := 3) (ret := (some .int)) (by decide +kernel) rfl ?_
  intro p e s m args below meth c s₁ B hml hv
  obtain ⟨rfl, hP, hK⟩ := hv
  have X : zz_X D dA base t0 "Springseat$Cloth" cX0_nextMatch 3 (some .int) l p s m meth c := ⟨B.exec, B.bytes, hml, B.returns, findClass_of_methodNamed B.named, B.notSynchronized, hT, by rw [hP.1]; exact hP.2.1, hK⟩
  have hx := X.1
  have hb := X.2.1
  have hown := X.2.2.2.2.1
  have hR : zz_R D dA base h n s s.heap [] := ⟨hP, va_S.rf⟩
  have hl := lv_entry ([.ref a0, .int x1, .int x2]) (n := 3) (by exact Nat.le_of_ble_eq_true rfl)
  rw [lg_entry_eq]
  generalize (lg_sl ([.ref a0, .int x1, .int x2]) ++ List.replicate (3 - (lg_sl ([.ref a0, .int x1, .int x2])).length) Slot.unset).toArray = ls at hl ⊢
  have hl : lv_has ls 3 [(0, .ref a0), (1, .int x1), (2, .int x2)] := hl
  unfold f_X0_nextMatch at hf
  refine lv_aload_n hx hb dX0_nextMatch_0 rfl (lv_at hl 0 rfl) ?_
  refine zr_gi X hR (r := (some a0)) fl_X0_19 dX0_nextMatch_1 hf (fun v1 hf => ?_)
  refine lv_iconst (v := (1 : Int32)) hx hb dX0_nextMatch_4 (by decide) ?_
  refine lv_icmp_ge (tgt := 12) hx hb dX0_nextMatch_5 (by decide) (fun c5 => ?_) (fun c5 => ?_)
  · replace hf := zz_pos c5 hf
    refine lv_iload_n hx hb dX0_nextMatch_12 rfl (lv_at hl 1 rfl) ?_
    refine lv_iload_n hx hb dX0_nextMatch_13 rfl (lv_at hl 2 rfl) ?_
    refine lv_iload_n hx hb dX0_nextMatch_14 rfl (lv_at hl 1 rfl) ?_
    refine lv_isub hx hb dX0_nextMatch_15 ?_
    refine lv_aload_n hx hb dX0_nextMatch_16 rfl (lv_at hl 0 rfl) ?_
    refine zr_gi X hR (r := (some a0)) fl_X0_19 dX0_nextMatch_17 hf (fun v17 hf => ?_)
    obtain ⟨v20, hv20, hf⟩ := zz_b_i hf
    refine zr_cS X hR hl.1 (As := [.int (x2 - x1), .int v17]) (rest := [.int x1]) (mt_J9_floorMod_7cf53 hT (x2 - x1) v17 h n hv20) mf_J9_floorMod_7cf53 q_418 q_419 ⟨Nat.le_of_ble_eq_true rfl, Nat.le_of_ble_eq_true rfl⟩ ⟨Nat.le_of_ble_eq_true rfl, Nat.le_of_ble_eq_true rfl⟩ rfl (Nat.le_of_ble_eq_true rfl) dX0_nextMatch_20 (fun H locs hR => ?_)
    refine W.eq (g2 := F0 m 23 ls [.int v20, .int x1]) rfl ?_
    refine lv_iadd hx hb dX0_nextMatch_23 ?_
    exact bk_X0_nextMatch_24 X hT hR (lv_sub hl [] rfl) hf
  · replace hf := zz_neg c5 hf
    refine lv_iload_n hx hb dX0_nextMatch_8 rfl (lv_at hl 1 rfl) ?_
    refine lv_goto (tgt := 24) hx hb dX0_nextMatch_9 (by decide) ?_
    exact bk_X0_nextMatch_24 X hT hR (lv_sub hl [] rfl) hf
def rm_X0_firstPlace : Room := { frames := 2, cells := 0, slots := 0, locals := 45 }
theorem mf_X0_firstPlace : zz_Mf yX0_firstPlace cX0_firstPlace 7 (some .int) 3 := ⟨q_839, q_27, by decide +kernel, by decide +kernel, by decide +kernel⟩
set_option maxHeartbeats 4000000 in
set_option maxRecDepth 100000 in
theorem bk_X0_firstPlace_74 {D : va_G} {dA : Nat → ClassId} {base t0 : Nat} {l : Launch} {p : Program} {e : Env} {s : State} {m : MethodId} {args : Array Value} {below : List Frame} {meth : Method} {c : Code} (X : zz_X D dA base t0 "Springseat$Cloth" cX0_firstPlace 7 (some .int) l p s m meth c) (hT : l.stackTraces = false) {s0 : Int32} {h : zz_H} {n : Nat} {H : Heap} {locs : List Loc} {ls : Array Slot} (hR : zz_R D dA base h n s H locs) (hl : lv_has ls 7 []) {r0 : Int32} (hf : f_X0_firstPlace_74 s0 h = some r0) : W p l e rm_X0_firstPlace s m args below meth c H locs 0 0 (MQ below (zz_Qc D dA base (some (.int r0)) h n) args s rm_X0_firstPlace.cells rm_X0_firstPlace.slots (fun q => base ≤ q)) (F0 m 74 ls [.int s0]) := by
  have hx := X.1
  have hb := X.2.1
  have hown := X.2.2.2.2.1
  unfold f_X0_firstPlace_74 at hf
  cases hf
  exact zr_iret X hR dX0_firstPlace_74 (Nat.le_of_ble_eq_true rfl) (Nat.le_of_ble_eq_true rfl)
set_option maxHeartbeats 4000000 in
set_option maxRecDepth 100000 in
theorem bk_X0_firstPlace_57 {D : va_G} {dA : Nat → ClassId} {base t0 : Nat} {l : Launch} {p : Program} {e : Env} {s : State} {m : MethodId} {args : Array Value} {below : List Frame} {meth : Method} {c : Code} (X : zz_X D dA base t0 "Springseat$Cloth" cX0_firstPlace 7 (some .int) l p s m meth c) (hT : l.stackTraces = false) {a0 : Nat} {x2 : Int32} {x4 : Int32} {h : zz_H} {n : Nat} {H : Heap} {locs : List Loc} {ls : Array Slot} (hR : zz_R D dA base h n s H locs) (hl : lv_has ls 7 [(0, .ref a0), (2, .int x2), (4, .int x4)]) {r0 : Int32} (hf : f_X0_firstPlace_57 a0 x2 x4 h = some r0) : W p l e rm_X0_firstPlace s m args below meth c H locs 0 0 (MQ below (zz_Qc D dA base (some (.int r0)) h n) args s rm_X0_firstPlace.cells rm_X0_firstPlace.slots (fun q => base ≤ q)) (F0 m 57 ls []) := by
  have hx := X.1
  have hb := X.2.1
  have hown := X.2.2.2.2.1
  unfold f_X0_firstPlace_57 at hf
  refine lv_iload hx hb dX0_firstPlace_57 (lv_at hl 2 rfl) ?_
  refine lv_iload_n hx hb dX0_firstPlace_59 rfl (lv_at hl 1 rfl) ?_
  refine lv_iadd hx hb dX0_firstPlace_60 ?_
  refine lv_aload_n hx hb dX0_firstPlace_61 rfl (lv_at hl 0 rfl) ?_
  refine zr_gi X hR (r := (some a0)) fl_X0_15 dX0_firstPlace_62 hf (fun v62 hf => ?_)
  refine lv_icmp_gt (tgt := 73) hx hb dX0_firstPlace_65 (by decide) (fun c65 => ?_) (fun c65 => ?_)
  · replace hf := zz_pos c65 hf
    refine lv_iconst (v := (-1 : Int32)) hx hb dX0_firstPlace_73 (by decide) ?_
    exact bk_X0_firstPlace_74 X hT hR (lv_sub hl [] rfl) hf
  · replace hf := zz_neg c65 hf
    refine lv_iload hx hb dX0_firstPlace_68 (lv_at hl 2 rfl) ?_
    refine lv_goto (tgt := 74) hx hb dX0_firstPlace_70 (by decide) ?_
    exact bk_X0_firstPlace_74 X hT hR (lv_sub hl [] rfl) hf
set_option maxHeartbeats 4000000 in
set_option maxRecDepth 100000 in
theorem bk_X0_firstPlace_11 {D : va_G} {dA : Nat → ClassId} {base t0 : Nat} {l : Launch} {p : Program} {e : Env} {s : State} {m : MethodId} {args : Array Value} {below : List Frame} {meth : Method} {c : Code} (X : zz_X D dA base t0 "Springseat$Cloth" cX0_firstPlace 7 (some .int) l p s m meth c) (hT : l.stackTraces = false) {a0 : Nat} {x2 : Int32} {x3 : Int32} {x4 : Int32} {x5 : Int32} {h : zz_H} {n : Nat} {H : Heap} {locs : List Loc} {ls : Array Slot} (hR : zz_R D dA base h n s H locs) (hl : lv_has ls 7 [(0, .ref a0), (2, .int x2), (3, .int x3), (4, .int x4), (5, .int x5)]) {r0 : Int32} {o : ((Int32 × Int32) ⊕ Int32)} (hf : f_X0_firstPlace_11 a0 x2 x3 x4 x5 h = some o) (k0 : ∀ (w4 : Int32) (w5 : Int32), o = (.inl (w4, w5)) → ∀ {H : Heap} {locs : List Loc} {ls : Array Slot}, zz_R D dA base h n s H locs → lv_has ls 7 [(0, .ref a0), (2, .int x2), (3, .int x3), (4, .int w4), (5, .int w5)] → W p l e rm_X0_firstPlace s m args below meth c H locs 0 0 (MQ below (zz_Qc D dA base (some (.int r0)) h n) args s rm_X0_firstPlace.cells rm_X0_firstPlace.slots (fun q => base ≤ q)) (F0 m 11 ls [])) (hret : ∀ r, o = (.inr r) → r = r0) : W p l e rm_X0_firstPlace s m args below meth c H locs 0 0 (MQ below (zz_Qc D dA base (some (.int r0)) h n) args s rm_X0_firstPlace.cells rm_X0_firstPlace.slots (fun q => base ≤ q)) (F0 m 11 ls []) := by
  have hx := X.1
  have hb := X.2.1
  have hown := X.2.2.2.2.1
  unfold f_X0_firstPlace_11 at hf
  refine lv_iload hx hb dX0_firstPlace_11 (lv_at hl 4 rfl) ?_
  refine lv_aload_n hx hb dX0_firstPlace_13 rfl (lv_at hl 0 rfl) ?_
  refine zr_gi X hR (r := (some a0)) fl_X0_22 dX0_firstPlace_14 hf (fun v14 hf => ?_)
  refine lv_icmp_gt (tgt := 57) hx hb dX0_firstPlace_17 (by decide) (fun c17 => ?_) (fun c17 => ?_)
  · replace hf := zz_pos c17 hf
    obtain ⟨o1, hf1, he⟩ := Option.map_eq_some_iff.mp hf
    cases he
    cases hret _ rfl
    exact bk_X0_firstPlace_57 X hT hR (lv_sub hl [0, 1, 3] rfl) hf1
  · replace hf := zz_neg c17 hf
    refine lv_aload_n hx hb dX0_firstPlace_20 rfl (lv_at hl 0 rfl) ?_
    refine lv_iload hx hb dX0_firstPlace_21 (lv_at hl 3 rfl) ?_
    refine lv_iload hx hb dX0_firstPlace_23 (lv_at hl 3 rfl) ?_
    refine lv_iload_n hx hb dX0_firstPlace_25 rfl (lv_at hl 1 rfl) ?_
    refine lv_iadd hx hb dX0_firstPlace_26 ?_
    obtain ⟨fs27, ho27, hf⟩ := zz_obS_i hf
    obtain ⟨v27, hv27, hf⟩ := zz_b_i hf
    refine zr_cV X hR hl.1 (As := [.int x4, .int (x4 + x2)]) (rest := []) (C := RX0) (T := TX0) (N := 5) (mt_X0_lastFlaw hT a0 x4 (x4 + x2) h n hv27) rfl ho27 mf_X0_lastFlaw q_425 q_427 qs_8 ⟨Nat.le_of_ble_eq_true rfl, Nat.le_of_ble_eq_true rfl⟩ ⟨Nat.le_of_ble_eq_true rfl, Nat.le_of_ble_eq_true rfl⟩ rfl (Nat.le_of_ble_eq_true rfl) dX0_firstPlace_27 (fun H locs hR => ?_)
    refine W.eq (g2 := F0 m 30 ls [.int v27]) rfl ?_
    refine lv_istore (i := 6) (lv' := [(6, .int v27), (0, .ref a0), (2, .int x2), (3, .int x3), (4, .int x4), (5, .int x5)]) hx hb dX0_firstPlace_30 hl (by decide) rfl (fun ls hl => ?_)
    refine lv_iload hx hb dX0_firstPlace_32 (lv_at hl 0 rfl) ?_
    refine lv_if_ge (tgt := 40) hx hb dX0_firstPlace_34 (by decide) (fun c34 => ?_) (fun c34 => ?_)
    · replace hf := zz_pos c34 hf
      refine lv_aload_n hx hb dX0_firstPlace_40 rfl (lv_at hl 1 rfl) ?_
      refine lv_iload hx hb dX0_firstPlace_41 (lv_at hl 0 rfl) ?_
      refine lv_iconst (v := (1 : Int32)) hx hb dX0_firstPlace_43 (by decide) ?_
      refine lv_iadd hx hb dX0_firstPlace_44 ?_
      refine lv_iload_n hx hb dX0_firstPlace_45 rfl (lv_at hl 3 rfl) ?_
      obtain ⟨fs46, ho46, hf⟩ := zz_obS_i hf
      obtain ⟨v46, hv46, hf⟩ := zz_b_i hf
      refine zr_cV X hR hl.1 (As := [.int (v27 + (1 : Int32)), .int x3]) (rest := []) (C := RX0) (T := TX0) (N := 5) (mt_X0_nextMatch hT a0 (v27 + (1 : Int32)) x3 h n hv46) rfl ho46 mf_X0_nextMatch q_840 q_415 q_416 ⟨Nat.le_of_ble_eq_true rfl, Nat.le_of_ble_eq_true rfl⟩ ⟨Nat.le_of_ble_eq_true rfl, Nat.le_of_ble_eq_true rfl⟩ rfl (Nat.le_of_ble_eq_true rfl) dX0_firstPlace_46 (fun H locs hR => ?_)
      refine W.eq (g2 := F0 m 49 ls [.int v46]) rfl ?_
      refine lv_istore (i := 4) (lv' := [(4, .int v46), (6, .int v27), (0, .ref a0), (2, .int x2), (3, .int x3), (5, .int x5)]) hx hb dX0_firstPlace_49 hl (by decide) rfl (fun ls hl => ?_)
      refine lv_iinc (i := 5) (v := (x5 + (1 : Int32))) (lv' := [(5, .int (x5 + (1 : Int32))), (4, .int v46), (6, .int v27), (0, .ref a0), (2, .int x2), (3, .int x3)]) hx hb dX0_firstPlace_51 hl (k := 5) rfl rfl (by decide) rfl (fun ls hl => ?_)
      refine lv_goto (tgt := 11) hx hb dX0_firstPlace_54 (by decide) ?_
      cases hf
      exact k0 _ _ rfl hR (lv_sub hl [3, 4, 5, 1, 0] rfl)
    · replace hf := zz_neg c34 hf
      refine lv_goto (tgt := 57) hx hb dX0_firstPlace_37 (by decide) ?_
      obtain ⟨o1, hf1, he⟩ := Option.map_eq_some_iff.mp hf
      cases he
      cases hret _ rfl
      exact bk_X0_firstPlace_57 X hT hR (lv_sub hl [1, 2, 4] rfl) hf1
set_option maxHeartbeats 4000000 in
set_option maxRecDepth 100000 in
theorem lp_X0_firstPlace_11 {D : va_G} {dA : Nat → ClassId} {base t0 : Nat} {l : Launch} {p : Program} {e : Env} {s : State} {m : MethodId} {args : Array Value} {below : List Frame} {meth : Method} {c : Code} (X : zz_X D dA base t0 "Springseat$Cloth" cX0_firstPlace 7 (some .int) l p s m meth c) (hT : l.stackTraces = false) (a0 : Nat) (x2 : Int32) (x3 : Int32) {h : zz_H} {n : Nat} {r0 : Int32} : ∀ (k : Nat) (x4 : Int32) (x5 : Int32), zz_it (fun s : (Int32 × Int32) => f_X0_firstPlace_11 a0 x2 x3 s.1 s.2 h) k (x4, x5) = some r0 → ∀ {H : Heap} {locs : List Loc} {ls : Array Slot}, zz_R D dA base h n s H locs → lv_has ls 7 [(0, .ref a0), (2, .int x2), (3, .int x3), (4, .int x4), (5, .int x5)] → W p l e rm_X0_firstPlace s m args below meth c H locs 0 0 (MQ below (zz_Qc D dA base (some (.int r0)) h n) args s rm_X0_firstPlace.cells rm_X0_firstPlace.slots (fun q => base ≤ q)) (F0 m 11 ls []) := by
  intro k
  induction k with
  | zero => intro x4 x5 hf; cases hf
  | succ k ih =>
    intro x4 x5 hf H locs ls hR hl
    rcases zz_it_s hf with ⟨⟨y0, y1⟩, h1, h2⟩ | h1
    · exact bk_X0_firstPlace_11 (r0 := r0) X hT hR hl h1  (fun z0 z1 e => by cases e; exact ih _ _ h2) (fun r e => by cases e)
    · exact bk_X0_firstPlace_11 (r0 := r0) X hT hR hl h1  (fun z0 z1 e => by cases e) (fun r e => (Sum.inr.inj e).symm)
set_option maxHeartbeats 4000000 in
set_option maxRecDepth 100000 in
theorem mt_X0_firstPlace {D : va_G} {dA : Nat → ClassId} {base t0 : Nat} {l : Launch} (hT : l.stackTraces = false) (a0 : Nat) (x1 : Int32) (x2 : Int32) (x3 : Int32) (h : zz_H) (n : Nat) {r0 : Int32} (hf : f_X0_firstPlace a0 x1 x2 x3 h = some r0) : zz_M D dA base t0 l yX0_firstPlace cX0_firstPlace 7 (some .int) rm_X0_firstPlace [.ref a0, .int x1, .int x2, .int x3] h n (some (.int r0)) h n := by
  refine Met.ofW (cc := cX0_firstPlace) (maxL := 7) (ret := (some .int)) (by decide +kernel) rfl ?_
  intro p e s m args below meth c s₁ B hml hv
  obtain ⟨rfl, hP, hK⟩ := hv
  have X : zz_X D dA base t0 "Springseat$Cloth" cX0_firstPlace 7 (some .int) l p s m meth c := ⟨B.exec, B.bytes, hml, B.returns, findClass_of_methodNamed B.named, B.notSynchronized, hT, by rw [hP.1]; exact hP.2.1, hK⟩
  have hx := X.1
  have hb := X.2.1
  have hown := X.2.2.2.2.1
  have hR : zz_R D dA base h n s s.heap [] := ⟨hP, va_S.rf⟩
  have hl := lv_entry ([.ref a0, .int x1, .int x2, .int x3]) (n := 7) (by exact Nat.le_of_ble_eq_true rfl)
  rw [lg_entry_eq]
  generalize (lg_sl ([.ref a0, .int x1, .int x2, .int x3]) ++ List.replicate (7 - (lg_sl ([.ref a0, .int x1, .int x2, .int x3])).length) Slot.unset).toArray = ls at hl ⊢
  have hl : lv_has ls 7 [(0, .ref a0), (1, .int x1), (2, .int x2), (3, .int x3)] := hl
  unfold f_X0_firstPlace at hf
  refine lv_aload_n hx hb dX0_firstPlace_0 rfl (lv_at hl 0 rfl) ?_
  refine lv_iload_n hx hb dX0_firstPlace_1 rfl (lv_at hl 1 rfl) ?_
  refine lv_iload_n hx hb dX0_firstPlace_2 rfl (lv_at hl 3 rfl) ?_
  obtain ⟨fs3, ho3, hf⟩ := zz_obS_i hf
  obtain ⟨v3, hv3, hf⟩ := zz_b_i hf
  refine zr_cV X hR hl.1 (As := [.int x1, .int x3]) (rest := []) (C := RX0) (T := TX0) (N := 5) (mt_X0_nextMatch hT a0 x1 x3 h n hv3) rfl ho3 mf_X0_nextMatch q_840 q_415 q_416 ⟨Nat.le_of_ble_eq_true rfl, Nat.le_of_ble_eq_true rfl⟩ ⟨Nat.le_of_ble_eq_true rfl, Nat.le_of_ble_eq_true rfl⟩ rfl (Nat.le_of_ble_eq_true rfl) dX0_firstPlace_3 (fun H locs hR => ?_)
  refine W.eq (g2 := F0 m 6 ls [.int v3]) rfl ?_
  refine lv_istore (i := 4) (lv' := [(4, .int v3), (0, .ref a0), (1, .int x1), (2, .int x2), (3, .int x3)]) hx hb dX0_firstPlace_6 hl (by decide) rfl (fun ls hl => ?_)
  refine lv_iconst (v := (0 : Int32)) hx hb dX0_firstPlace_8 (by decide) ?_
  refine lv_istore (i := 5) (lv' := [(5, .int (0 : Int32)), (4, .int v3), (0, .ref a0), (1, .int x1), (2, .int x2), (3, .int x3)]) hx hb dX0_firstPlace_9 hl (by decide) rfl (fun ls hl => ?_)
  exact lp_X0_firstPlace_11 X hT a0 x2 x3 zz_F _ _ hf hR (lv_sub hl [2, 4, 5, 1, 0] rfl)
def rm_X1_init : Room := { frames := 1, cells := 1, slots := 6, locals := 20 }
theorem mf_X1_init : zz_Mf yX1_init cX1_init 1 none 0 := ⟨q_567, q_19, by decide +kernel, by decide +kernel, by decide +kernel⟩
set_option maxHeartbeats 4000000 in
set_option maxRecDepth 100000 in
theorem mt_X1_init {D : va_G} {dA : Nat → ClassId} {base t0 : Nat} {l : Launch} (hT : l.stackTraces = false) (a0 : Nat) (h : zz_H) (n : Nat) {r0 : Unit} {hF : zz_H} {nF : Nat} (hf : f_X1_init t0 a0 h n = some (r0, hF, nF)) : zz_M D dA base t0 l yX1_init cX1_init 1 none rm_X1_init [.ref a0] h n none hF nF := by
  refine Met.ofW (cc := cX1_init) (maxL := 1) (ret := none) (by decide +kernel) rfl ?_
  intro p e s m args below meth c s₁ B hml hv
  obtain ⟨rfl, hP, hK⟩ := hv
  have X : zz_X D dA base t0 "Springseat$Cover" cX1_init 1 none l p s m meth c := ⟨B.exec, B.bytes, hml, B.returns, findClass_of_methodNamed B.named, B.notSynchronized, hT, by rw [hP.1]; exact hP.2.1, hK⟩
  have hx := X.1
  have hb := X.2.1
  have hown := X.2.2.2.2.1
  have hin : meth.name = "<init>" := (name_of_methodNamed B.named B.method).1
  have hR : zz_R D dA base h n s s.heap [] := ⟨hP, va_S.rf⟩
  have hl := lv_entry ([.ref a0]) (n := 1) (by exact Nat.le_of_ble_eq_true rfl)
  rw [lg_entry_eq]
  generalize (lg_sl ([.ref a0]) ++ List.replicate (1 - (lg_sl ([.ref a0])).length) Slot.unset).toArray = ls at hl ⊢
  have hl : lv_has ls 1 [(0, .ref a0)] := hl
  unfold f_X1_init at hf
  refine lv_aload_n hx hb dX1_init_0 rfl (lv_at hl 0 rfl) ?_
  refine zr_obj X hl.1 q_568 q_34 q_35 dX1_init_1 (Nat.le_of_ble_eq_true rfl) ⟨Nat.le_of_ble_eq_true rfl, Nat.le_of_ble_eq_true rfl⟩ ?_
  refine W.eq (g2 := F0 m 4 ls []) rfl ?_
  refine lv_aload_n hx hb dX1_init_4 rfl (lv_at hl 0 rfl) ?_
  refine lv_bipush (v := (6 : Int32)) hx hb dX1_init_5 (by decide) ?_
  refine zr_newa X hR (t := 0) (N := 6) (a0 := (6, .inl (fun _ => 0))) (by decide) rfl q_72 (fun _ z => z) (fun cA => rfl) (by decide) (by decide) (Nat.le_of_ble_eq_true rfl) (Nat.le_of_ble_eq_true rfl) (Nat.le_of_ble_eq_true rfl) dX1_init_7 (fun H hR => ?_)
  refine W.widen (k := 1) (n := 6) (Nat.le_of_ble_eq_true rfl) (Nat.le_of_ble_eq_true rfl) ?_
  refine zr_pF X hR (r := (some a0)) (v := .ref n) fl_X1_9 rfl hin rfl dX1_init_9 (zz_nr rfl (some n)).1 (zz_nr rfl (some n)).2 hf (fun h9 H locs hf hR => ?_)
  cases hf
  exact zr_vret X hR dX1_init_12 (Nat.le_of_ble_eq_true rfl) (Nat.le_of_ble_eq_true rfl)
def rm_X1_cut : Room := { frames := 3, cells := 0, slots := 0, locals := 71 }
theorem mf_X1_cut : zz_Mf yX1_cut cX1_cut 8 (some .boolean) 4 := ⟨q_835, q_19, by decide +kernel, by decide +kernel, by decide +kernel⟩
set_option maxHeartbeats 4000000 in
set_option maxRecDepth 100000 in
theorem bk_X1_cut_65 {D : va_G} {dA : Nat → ClassId} {base t0 : Nat} {l : Launch} {p : Program} {e : Env} {s : State} {m : MethodId} {args : Array Value} {below : List Frame} {meth : Method} {c : Code} (X : zz_X D dA base t0 "Springseat$Cover" cX1_cut 8 (some .boolean) l p s m meth c) (hT : l.stackTraces = false) {a0 : Nat} {x1 : (Option Nat)} {x2 : Int32} {x3 : Int32} {x4 : Int32} {x5 : Int32} {h : zz_H} {n : Nat} {H : Heap} {locs : List Loc} {ls : Array Slot} (hR : zz_R D dA base h n s H locs) (hl : lv_has ls 8 [(0, .ref a0), (1, va_rf x1), (2, .int x2), (3, .int x3), (4, .int x4), (5, .int x5)]) {r0 : Int32} {hF : zz_H} (hf : f_X1_cut_65 a0 x1 x2 x3 x4 x5 h = some (r0, hF)) : W p l e rm_X1_cut s m args below meth c H locs 0 0 (MQ below (zz_Qc D dA base (some (.int r0)) hF n) args s rm_X1_cut.cells rm_X1_cut.slots (fun q => base ≤ q)) (F0 m 65 ls []) := by
  have hx := X.1
  have hb := X.2.1
  have hown := X.2.2.2.2.1
  unfold f_X1_cut_65 at hf
  refine zr_aload_n hx hb dX1_cut_65 rfl (lv_at hl 1 rfl) ?_
  refine lv_iload hx hb dX1_cut_66 (lv_at hl 5 rfl) ?_
  refine zr_pN X hR (r := x1) (v := .int x5) fn_X1_15 rfl dX1_cut_68 rfl rfl hf (fun h68 H locs hf hR => ?_)
  refine lv_aload_n hx hb dX1_cut_71 rfl (lv_at hl 0 rfl) ?_
  refine zr_aload_n hx hb dX1_cut_72 rfl (lv_at hl 1 rfl) ?_
  refine zr_p X hR (r := (some a0)) (v := va_rf x1) fl_X1_25 rfl dX1_cut_73 (zz_nr rfl x1).1 (zz_nr rfl x1).2 hf (fun h73 H locs hf hR => ?_)
  refine lv_aload_n hx hb dX1_cut_76 rfl (lv_at hl 0 rfl) ?_
  refine lv_iload_n hx hb dX1_cut_77 rfl (lv_at hl 2 rfl) ?_
  refine zr_p X hR (r := (some a0)) (v := .int x2) fl_X1_29 rfl dX1_cut_78 rfl rfl hf (fun h78 H locs hf hR => ?_)
  refine lv_aload_n hx hb dX1_cut_81 rfl (lv_at hl 0 rfl) ?_
  refine lv_iload_n hx hb dX1_cut_82 rfl (lv_at hl 3 rfl) ?_
  refine zr_p X hR (r := (some a0)) (v := .int x3) fl_X1_32 rfl dX1_cut_83 rfl rfl hf (fun h83 H locs hf hR => ?_)
  refine lv_aload_n hx hb dX1_cut_86 rfl (lv_at hl 0 rfl) ?_
  refine lv_iload hx hb dX1_cut_87 (lv_at hl 4 rfl) ?_
  refine zr_p X hR (r := (some a0)) (v := .int x4) fl_X1_35 rfl dX1_cut_89 rfl rfl hf (fun h89 H locs hf hR => ?_)
  refine lv_iconst (v := (1 : Int32)) hx hb dX1_cut_92 (by decide) ?_
  cases hf
  exact zr_zret X hR (v := (1 : Int32)) rfl dX1_cut_93 (Nat.le_of_ble_eq_true rfl) (Nat.le_of_ble_eq_true rfl)
set_option maxHeartbeats 4000000 in
set_option maxRecDepth 100000 in
theorem bk_X1_cut_9 {D : va_G} {dA : Nat → ClassId} {base t0 : Nat} {l : Launch} {p : Program} {e : Env} {s : State} {m : MethodId} {args : Array Value} {below : List Frame} {meth : Method} {c : Code} (X : zz_X D dA base t0 "Springseat$Cover" cX1_cut 8 (some .boolean) l p s m meth c) (hT : l.stackTraces = false) {a0 : Nat} {x1 : (Option Nat)} {x2 : Int32} {x3 : Int32} {x4 : Int32} {x5 : Int32} {x6 : Int32} {h : zz_H} {n : Nat} {H : Heap} {locs : List Loc} {ls : Array Slot} (hR : zz_R D dA base h n s H locs) (hl : lv_has ls 8 [(0, .ref a0), (1, va_rf x1), (2, .int x2), (3, .int x3), (4, .int x4), (5, .int x5), (6, .int x6)]) {r0 : Int32} {hF : zz_H} {o : ((Int32 × Int32 × zz_H) ⊕ (Int32 × zz_H))} (hf : f_X1_cut_9 a0 x1 x2 x3 x4 x5 x6 h = some o) (k0 : ∀ (w5 : Int32) (w6 : Int32) (hw : zz_H), o = (.inl (w5, w6, hw)) → ∀ {H : Heap} {locs : List Loc} {ls : Array Slot}, zz_R D dA base hw n s H locs → lv_has ls 8 [(0, .ref a0), (1, va_rf x1), (2, .int x2), (3, .int x3), (4, .int x4), (5, .int w5), (6, .int w6)] → W p l e rm_X1_cut s m args below meth c H locs 0 0 (MQ below (zz_Qc D dA base (some (.int r0)) hF n) args s rm_X1_cut.cells rm_X1_cut.slots (fun q => base ≤ q)) (F0 m 9 ls [])) (hret : ∀ r, o = (.inr r) → r = (r0, hF)) : W p l e rm_X1_cut s m args below meth c H locs 0 0 (MQ below (zz_Qc D dA base (some (.int r0)) hF n) args s rm_X1_cut.cells rm_X1_cut.slots (fun q => base ≤ q)) (F0 m 9 ls []) := by
  have hx := X.1
  have hb := X.2.1
  have hown := X.2.2.2.2.1
  unfold f_X1_cut_9 at hf
  refine lv_iload hx hb dX1_cut_9 (lv_at hl 6 rfl) ?_
  refine lv_iload_n hx hb dX1_cut_11 rfl (lv_at hl 3 rfl) ?_
  refine lv_icmp_ge (tgt := 65) hx hb dX1_cut_12 (by decide) (fun c12 => ?_) (fun c12 => ?_)
  · replace hf := zz_pos c12 hf
    obtain ⟨o1, hf1, he⟩ := Option.map_eq_some_iff.mp hf
    cases he
    cases hret _ rfl
    exact bk_X1_cut_65 X hT hR (lv_sub hl [0, 1, 2, 3, 4, 5] rfl) hf1
  · replace hf := zz_neg c12 hf
    refine lv_iload hx hb dX1_cut_15 (lv_at hl 6 rfl) ?_
    refine lv_aload_n hx hb dX1_cut_17 rfl (lv_at hl 0 rfl) ?_
    refine zr_gq X hR (r := (some a0)) fl_X1_9 dX1_cut_18 hf (fun v18 hf => ?_)
    refine zr_alen X hR (r := v18) dX1_cut_21 hf (fun v21 hf => ?_)
    refine lv_icmp_ge (tgt := 65) hx hb dX1_cut_22 (by decide) (fun c22 => ?_) (fun c22 => ?_)
    · replace hf := zz_pos c22 hf
      obtain ⟨o1, hf1, he⟩ := Option.map_eq_some_iff.mp hf
      cases he
      cases hret _ rfl
      exact bk_X1_cut_65 X hT hR (lv_sub hl [0, 1, 2, 3, 4, 5] rfl) hf1
    · replace hf := zz_neg c22 hf
      refine zr_aload_n hx hb dX1_cut_25 rfl (lv_at hl 1 rfl) ?_
      refine lv_iload hx hb dX1_cut_26 (lv_at hl 5 rfl) ?_
      refine lv_iload hx hb dX1_cut_28 (lv_at hl 4 rfl) ?_
      refine lv_iload_n hx hb dX1_cut_30 rfl (lv_at hl 2 rfl) ?_
      obtain ⟨b31, fs31, hr31, ho31, hf⟩ := zz_ob_i hf
      obtain ⟨v31, hv31, hf⟩ := zz_b_i hf
      refine zr_cV X hR hl.1 (As := [.int x5, .int x4, .int x2]) (rest := []) (C := RX0) (T := TX0) (N := 5) (mt_X0_firstPlace hT b31 x5 x4 x2 h n hv31) rfl ho31 mf_X0_firstPlace q_836 q_837 q_838 ⟨Nat.le_of_ble_eq_true rfl, Nat.le_of_ble_eq_true rfl⟩ ⟨Nat.le_of_ble_eq_true rfl, Nat.le_of_ble_eq_true rfl⟩ (by rw [hr31]; rfl) (Nat.le_of_ble_eq_true rfl) dX1_cut_31 (fun H locs hR => ?_)
      refine W.eq (g2 := F0 m 34 ls [.int v31]) rfl ?_
      refine lv_istore (i := 7) (lv' := [(7, .int v31), (0, .ref a0), (1, va_rf x1), (2, .int x2), (3, .int x3), (4, .int x4), (5, .int x5), (6, .int x6)]) hx hb dX1_cut_34 hl (by decide) rfl (fun ls hl => ?_)
      refine lv_iload hx hb dX1_cut_36 (lv_at hl 0 rfl) ?_
      refine lv_if_ge (tgt := 43) hx hb dX1_cut_38 (by decide) (fun c38 => ?_) (fun c38 => ?_)
      · replace hf := zz_pos c38 hf
        refine lv_aload_n hx hb dX1_cut_43 rfl (lv_at hl 1 rfl) ?_
        refine zr_gq X hR (r := (some a0)) fl_X1_9 dX1_cut_44 hf (fun v44 hf => ?_)
        refine lv_iload hx hb dX1_cut_47 (lv_at hl 7 rfl) ?_
        refine lv_iload hx hb dX1_cut_49 (lv_at hl 0 rfl) ?_
        refine zr_iast X hR (r := v44) dX1_cut_51 hf (fun h51 H locs hf hR => ?_)
        refine lv_iload hx hb dX1_cut_52 (lv_at hl 0 rfl) ?_
        refine lv_iload hx hb dX1_cut_54 (lv_at hl 5 rfl) ?_
        refine lv_iadd hx hb dX1_cut_56 ?_
        refine lv_istore (i := 5) (lv' := [(5, .int (v31 + x4)), (7, .int v31), (0, .ref a0), (1, va_rf x1), (2, .int x2), (3, .int x3), (4, .int x4), (6, .int x6)]) hx hb dX1_cut_57 hl (by decide) rfl (fun ls hl => ?_)
        refine lv_iinc (i := 6) (v := (x6 + (1 : Int32))) (lv' := [(6, .int (x6 + (1 : Int32))), (5, .int (v31 + x4)), (7, .int v31), (0, .ref a0), (1, va_rf x1), (2, .int x2), (3, .int x3), (4, .int x4)]) hx hb dX1_cut_59 hl (k := 7) rfl rfl (by decide) rfl (fun ls hl => ?_)
        refine lv_goto (tgt := 9) hx hb dX1_cut_62 (by decide) ?_
        cases hf
        exact k0 _ _ _ rfl hR (lv_sub hl [3, 4, 5, 6, 7, 1, 0] rfl)
      · replace hf := zz_neg c38 hf
        refine lv_iconst (v := (0 : Int32)) hx hb dX1_cut_41 (by decide) ?_
        cases hf
        cases hret _ rfl
        exact zr_zret X hR (v := (0 : Int32)) rfl dX1_cut_42 (Nat.le_of_ble_eq_true rfl) (Nat.le_of_ble_eq_true rfl)
set_option maxHeartbeats 4000000 in
set_option maxRecDepth 100000 in
theorem lp_X1_cut_9 {D : va_G} {dA : Nat → ClassId} {base t0 : Nat} {l : Launch} {p : Program} {e : Env} {s : State} {m : MethodId} {args : Array Value} {below : List Frame} {meth : Method} {c : Code} (X : zz_X D dA base t0 "Springseat$Cover" cX1_cut 8 (some .boolean) l p s m meth c) (hT : l.stackTraces = false) (a0 : Nat) (x1 : (Option Nat)) (x2 : Int32) (x3 : Int32) (x4 : Int32) {n : Nat} {r0 : Int32} {hF : zz_H} : ∀ (k : Nat) (x5 : Int32) (x6 : Int32) (h : zz_H), zz_it (fun s : (Int32 × Int32 × zz_H) => f_X1_cut_9 a0 x1 x2 x3 x4 s.1 s.2.1 s.2.2) k (x5, x6, h) = some (r0, hF) → ∀ {H : Heap} {locs : List Loc} {ls : Array Slot}, zz_R D dA base h n s H locs → lv_has ls 8 [(0, .ref a0), (1, va_rf x1), (2, .int x2), (3, .int x3), (4, .int x4), (5, .int x5), (6, .int x6)] → W p l e rm_X1_cut s m args below meth c H locs 0 0 (MQ below (zz_Qc D dA base (some (.int r0)) hF n) args s rm_X1_cut.cells rm_X1_cut.slots (fun q => base ≤ q)) (F0 m 9 ls []) := by
  intro k
  induction k with
  | zero => intro x5 x6 h hf; cases hf
  | succ k ih =>
    intro x5 x6 h hf H locs ls hR hl
    rcases zz_it_s hf with ⟨⟨y0, y1, y2⟩, h1, h2⟩ | h1
    · exact bk_X1_cut_9 (r0 := r0) X hT hR hl h1  (fun z0 z1 z2 e => by cases e; exact ih _ _ _ h2) (fun r e => by cases e)
    · exact bk_X1_cut_9 (r0 := r0) X hT hR hl h1  (fun z0 z1 z2 e => by cases e) (fun r e => (Sum.inr.inj e).symm)
set_option maxHeartbeats 4000000 in
set_option maxRecDepth 100000 in
theorem mt_X1_cut {D : va_G} {dA : Nat → ClassId} {base t0 : Nat} {l : Launch} (hT : l.stackTraces = false) (a0 : Nat) (x1 : (Option Nat)) (x2 : Int32) (x3 : Int32) (x4 : Int32) (h : zz_H) (n : Nat) {r0 : Int32} {hF : zz_H} (hf : f_X1_cut a0 x1 x2 x3 x4 h = some (r0, hF)) : zz_M D dA base t0 l yX1_cut cX1_cut 8 (some .boolean) rm_X1_cut [.ref a0, va_rf x1, .int x2, .int x3, .int x4] h n (some (.int r0)) hF n := by
  refine Met.ofW (cc := cX1_cut) (maxL := 8) (ret := (some .boolean)) (by decide +kernel) rfl ?_
  intro p e s m args below meth c s₁ B hml hv
  obtain ⟨rfl, hP, hK⟩ := hv
  have X : zz_X D dA base t0 "Springseat$Cover" cX1_cut 8 (some .boolean) l p s m meth c := ⟨B.exec, B.bytes, hml, B.returns, findClass_of_methodNamed B.named, B.notSynchronized, hT, by rw [hP.1]; exact hP.2.1, hK⟩
  have hx := X.1
  have hb := X.2.1
  have hown := X.2.2.2.2.1
  have hR : zz_R D dA base h n s s.heap [] := ⟨hP, va_S.rf⟩
  have hl := lv_entry ([.ref a0, va_rf x1, .int x2, .int x3, .int x4]) (n := 8) (by cases x1 <;> exact Nat.le_of_ble_eq_true rfl)
  rw [lg_entry_eq]
  generalize (lg_sl ([.ref a0, va_rf x1, .int x2, .int x3, .int x4]) ++ List.replicate (8 - (lg_sl ([.ref a0, va_rf x1, .int x2, .int x3, .int x4])).length) Slot.unset).toArray = ls at hl ⊢
  have hl : lv_has ls 8 [(0, .ref a0), (1, va_rf x1), (2, .int x2), (3, .int x3), (4, .int x4)] := by rw [show ([(0, .ref a0), (1, va_rf x1), (2, .int x2), (3, .int x3), (4, .int x4)] : List (Nat × Value)) = lv_args 0 [.ref a0, va_rf x1, .int x2, .int x3, .int x4] from by cases x1 <;> rfl]; exact hl
  unfold f_X1_cut at hf
  refine zr_aload_n hx hb dX1_cut_0 rfl (lv_at hl 1 rfl) ?_
  refine zr_giN X hR (r := x1) fn_X1_15 dX1_cut_1 hf (fun v1 hf => ?_)
  refine lv_istore (i := 5) (lv' := [(5, .int v1), (0, .ref a0), (1, va_rf x1), (2, .int x2), (3, .int x3), (4, .int x4)]) hx hb dX1_cut_4 hl (by decide) rfl (fun ls hl => ?_)
  refine lv_iconst (v := (0 : Int32)) hx hb dX1_cut_6 (by decide) ?_
  refine lv_istore (i := 6) (lv' := [(6, .int (0 : Int32)), (5, .int v1), (0, .ref a0), (1, va_rf x1), (2, .int x2), (3, .int x3), (4, .int x4)]) hx hb dX1_cut_7 hl (by decide) rfl (fun ls hl => ?_)
  exact lp_X1_cut_9 X hT a0 x1 x2 x3 x4 zz_F _ _ _ hf hR (lv_sub hl [2, 3, 4, 5, 6, 1, 0] rfl)
def rm_X1_placeAt : Room := { frames := 0, cells := 0, slots := 0, locals := 0 }
theorem mf_X1_placeAt : zz_Mf yX1_placeAt cX1_placeAt 2 (some .int) 1 := ⟨q_413, q_19, by decide +kernel, by decide +kernel, by decide +kernel⟩
set_option maxHeartbeats 4000000 in
set_option maxRecDepth 100000 in
theorem bk_X1_placeAt_23 {D : va_G} {dA : Nat → ClassId} {base t0 : Nat} {l : Launch} {p : Program} {e : Env} {s : State} {m : MethodId} {args : Array Value} {below : List Frame} {meth : Method} {c : Code} (X : zz_X D dA base t0 "Springseat$Cover" cX1_placeAt 2 (some .int) l p s m meth c) (hT : l.stackTraces = false) {s0 : Int32} {h : zz_H} {n : Nat} {H : Heap} {locs : List Loc} {ls : Array Slot} (hR : zz_R D dA base h n s H locs) (hl : lv_has ls 2 []) {r0 : Int32} (hf : f_X1_placeAt_23 s0 h = some r0) : W p l e rm_X1_placeAt s m args below meth c H locs 0 0 (MQ below (zz_Qc D dA base (some (.int r0)) h n) args s rm_X1_placeAt.cells rm_X1_placeAt.slots (fun q => base ≤ q)) (F0 m 23 ls [.int s0]) := by
  have hx := X.1
  have hb := X.2.1
  have hown := X.2.2.2.2.1
  unfold f_X1_placeAt_23 at hf
  cases hf
  exact zr_iret X hR dX1_placeAt_23 (Nat.le_of_ble_eq_true rfl) (Nat.le_of_ble_eq_true rfl)
set_option maxHeartbeats 4000000 in
set_option maxRecDepth 100000 in
theorem bk_X1_placeAt_22 {D : va_G} {dA : Nat → ClassId} {base t0 : Nat} {l : Launch} {p : Program} {e : Env} {s : State} {m : MethodId} {args : Array Value} {below : List Frame} {meth : Method} {c : Code} (X : zz_X D dA base t0 "Springseat$Cover" cX1_placeAt 2 (some .int) l p s m meth c) (hT : l.stackTraces = false) {h : zz_H} {n : Nat} {H : Heap} {locs : List Loc} {ls : Array Slot} (hR : zz_R D dA base h n s H locs) (hl : lv_has ls 2 []) {r0 : Int32} (hf : f_X1_placeAt_22 h = some r0) : W p l e rm_X1_placeAt s m args below meth c H locs 0 0 (MQ below (zz_Qc D dA base (some (.int r0)) h n) args s rm_X1_placeAt.cells rm_X1_placeAt.slots (fun q => base ≤ q)) (F0 m 22 ls []) := by
  have hx := X.1
  have hb := X.2.1
  have hown := X.2.2.2.2.1
  unfold f_X1_placeAt_22 at hf
  refine lv_iconst (v := (0 : Int32)) hx hb dX1_placeAt_22 (by decide) ?_
  exact bk_X1_placeAt_23 X hT hR (lv_sub hl [] rfl) hf
set_option maxHeartbeats 4000000 in
set_option maxRecDepth 100000 in
theorem mt_X1_placeAt {D : va_G} {dA : Nat → ClassId} {base t0 : Nat} {l : Launch} (hT : l.stackTraces = false) (a0 : Nat) (x1 : Int32) (h : zz_H) (n : Nat) {r0 : Int32} (hf : f_X1_placeAt a0 x1 h = some r0) : zz_M D dA base t0 l yX1_placeAt cX1_placeAt 2 (some .int) rm_X1_placeAt [.ref a0, .int x1] h n (some (.int r0)) h n := by
  refine Met.ofW (cc := cX1_placeAt) (maxL := 2) (ret := (some .int)) (by decide +kernel) rfl ?_
  intro p e s m args below meth c s₁ B hml hv
  obtain ⟨rfl, hP, hK⟩ := hv
  have X : zz_X D dA base t0 "Springseat$Cover" cX1_placeAt 2 (some .int) l p s m meth c := ⟨B.exec, B.bytes, hml, B.returns, findClass_of_methodNamed B.named, B.notSynchronized, hT, by rw [hP.1]; exact hP.2.1, hK⟩
  have hx := X.1
  have hb := X.2.1
  have hown := X.2.2.2.2.1
  have hR : zz_R D dA base h n s s.heap [] := ⟨hP, va_S.rf⟩
  have hl := lv_entry ([.ref a0, .int x1]) (n := 2) (by exact Nat.le_of_ble_eq_true rfl)
  rw [lg_entry_eq]
  generalize (lg_sl ([.ref a0, .int x1]) ++ List.replicate (2 - (lg_sl ([.ref a0, .int x1])).length) Slot.unset).toArray = ls at hl ⊢
  have hl : lv_has ls 2 [(0, .ref a0), (1, .int x1)] := hl
  unfold f_X1_placeAt at hf
  refine lv_iload_n hx hb dX1_placeAt_0 rfl (lv_at hl 1 rfl) ?_
  refine lv_if_lt (tgt := 22) hx hb dX1_placeAt_1 (by decide) (fun c1 => ?_) (fun c1 => ?_)
  · replace hf := zz_pos c1 hf
    exact bk_X1_placeAt_22 X hT hR (lv_sub hl [] rfl) hf
  · replace hf := zz_neg c1 hf
    refine lv_iload_n hx hb dX1_placeAt_4 rfl (lv_at hl 1 rfl) ?_
    refine lv_aload_n hx hb dX1_placeAt_5 rfl (lv_at hl 0 rfl) ?_
    refine zr_gq X hR (r := (some a0)) fl_X1_9 dX1_placeAt_6 hf (fun v6 hf => ?_)
    refine zr_alen X hR (r := v6) dX1_placeAt_9 hf (fun v9 hf => ?_)
    refine lv_icmp_ge (tgt := 22) hx hb dX1_placeAt_10 (by decide) (fun c10 => ?_) (fun c10 => ?_)
    · replace hf := zz_pos c10 hf
      exact bk_X1_placeAt_22 X hT hR (lv_sub hl [] rfl) hf
    · replace hf := zz_neg c10 hf
      refine lv_aload_n hx hb dX1_placeAt_13 rfl (lv_at hl 0 rfl) ?_
      refine zr_gq X hR (r := (some a0)) fl_X1_9 dX1_placeAt_14 hf (fun v14 hf => ?_)
      refine lv_iload_n hx hb dX1_placeAt_17 rfl (lv_at hl 1 rfl) ?_
      refine zr_iald X hR (r := v14) dX1_placeAt_18 hf (fun v18 hf => ?_)
      refine lv_goto (tgt := 23) hx hb dX1_placeAt_19 (by decide) ?_
      exact bk_X1_placeAt_23 X hT hR (lv_sub hl [] rfl) hf
def rm_X1_lengthInAll : Room := { frames := 0, cells := 0, slots := 0, locals := 0 }
theorem mf_X1_lengthInAll : zz_Mf yX1_lengthInAll cX1_lengthInAll 1 (some .int) 0 := ⟨q_999, q_19, by decide +kernel, by decide +kernel, by decide +kernel⟩
set_option maxHeartbeats 4000000 in
set_option maxRecDepth 100000 in
theorem mt_X1_lengthInAll {D : va_G} {dA : Nat → ClassId} {base t0 : Nat} {l : Launch} (hT : l.stackTraces = false) (a0 : Nat) (h : zz_H) (n : Nat) {r0 : Int32} (hf : f_X1_lengthInAll a0 h = some r0) : zz_M D dA base t0 l yX1_lengthInAll cX1_lengthInAll 1 (some .int) rm_X1_lengthInAll [.ref a0] h n (some (.int r0)) h n := by
  refine Met.ofW (cc := cX1_lengthInAll) (maxL := 1) (ret := (some .int)) (by decide +kernel) rfl ?_
  intro p e s m args below meth c s₁ B hml hv
  obtain ⟨rfl, hP, hK⟩ := hv
  have X : zz_X D dA base t0 "Springseat$Cover" cX1_lengthInAll 1 (some .int) l p s m meth c := ⟨B.exec, B.bytes, hml, B.returns, findClass_of_methodNamed B.named, B.notSynchronized, hT, by rw [hP.1]; exact hP.2.1, hK⟩
  have hx := X.1
  have hb := X.2.1
  have hown := X.2.2.2.2.1
  have hR : zz_R D dA base h n s s.heap [] := ⟨hP, va_S.rf⟩
  have hl := lv_entry ([.ref a0]) (n := 1) (by exact Nat.le_of_ble_eq_true rfl)
  rw [lg_entry_eq]
  generalize (lg_sl ([.ref a0]) ++ List.replicate (1 - (lg_sl ([.ref a0])).length) Slot.unset).toArray = ls at hl ⊢
  have hl : lv_has ls 1 [(0, .ref a0)] := hl
  unfold f_X1_lengthInAll at hf
  refine lv_aload_n hx hb dX1_lengthInAll_0 rfl (lv_at hl 0 rfl) ?_
  refine zr_gi X hR (r := (some a0)) fl_X1_32 dX1_lengthInAll_1 hf (fun v1 hf => ?_)
  refine lv_aload_n hx hb dX1_lengthInAll_4 rfl (lv_at hl 0 rfl) ?_
  refine zr_gi X hR (r := (some a0)) fl_X1_35 dX1_lengthInAll_5 hf (fun v5 hf => ?_)
  refine lv_imul hx hb dX1_lengthInAll_8 ?_
  cases hf
  exact zr_iret X hR dX1_lengthInAll_9 (Nat.le_of_ble_eq_true rfl) (Nat.le_of_ble_eq_true rfl)
def rm_X1_fitsItsCloth : Room := { frames := 3, cells := 0, slots := 0, locals := 67 }
theorem mf_X1_fitsItsCloth : zz_Mf yX1_fitsItsCloth cX1_fitsItsCloth 3 (some .boolean) 0 := ⟨q_409, q_19, by decide +kernel, by decide +kernel, by decide +kernel⟩
set_option maxHeartbeats 4000000 in
set_option maxRecDepth 100000 in
theorem bk_X1_fitsItsCloth_69 {D : va_G} {dA : Nat → ClassId} {base t0 : Nat} {l : Launch} {p : Program} {e : Env} {s : State} {m : MethodId} {args : Array Value} {below : List Frame} {meth : Method} {c : Code} (X : zz_X D dA base t0 "Springseat$Cover" cX1_fitsItsCloth 3 (some .boolean) l p s m meth c) (hT : l.stackTraces = false) {h : zz_H} {n : Nat} {H : Heap} {locs : List Loc} {ls : Array Slot} (hR : zz_R D dA base h n s H locs) (hl : lv_has ls 3 []) {r0 : Int32} (hf : f_X1_fitsItsCloth_69 h = some r0) : W p l e rm_X1_fitsItsCloth s m args below meth c H locs 0 0 (MQ below (zz_Qc D dA base (some (.int r0)) h n) args s rm_X1_fitsItsCloth.cells rm_X1_fitsItsCloth.slots (fun q => base ≤ q)) (F0 m 69 ls []) := by
  have hx := X.1
  have hb := X.2.1
  have hown := X.2.2.2.2.1
  unfold f_X1_fitsItsCloth_69 at hf
  refine lv_iconst (v := (0 : Int32)) hx hb dX1_fitsItsCloth_69 (by decide) ?_
  cases hf
  exact zr_zret X hR (v := (0 : Int32)) rfl dX1_fitsItsCloth_70 (Nat.le_of_ble_eq_true rfl) (Nat.le_of_ble_eq_true rfl)
set_option maxHeartbeats 4000000 in
set_option maxRecDepth 100000 in
theorem bk_X1_fitsItsCloth_22 {D : va_G} {dA : Nat → ClassId} {base t0 : Nat} {l : Launch} {p : Program} {e : Env} {s : State} {m : MethodId} {args : Array Value} {below : List Frame} {meth : Method} {c : Code} (X : zz_X D dA base t0 "Springseat$Cover" cX1_fitsItsCloth 3 (some .boolean) l p s m meth c) (hT : l.stackTraces = false) {a0 : Nat} {x1 : Int32} {h : zz_H} {n : Nat} {H : Heap} {locs : List Loc} {ls : Array Slot} (hR : zz_R D dA base h n s H locs) (hl : lv_has ls 3 [(0, .ref a0), (1, .int x1)]) {r0 : Int32} {o : (Int32 ⊕ Int32)} (hf : f_X1_fitsItsCloth_22 a0 x1 h = some o) (k0 : ∀ (w1 : Int32), o = (.inl w1) → ∀ {H : Heap} {locs : List Loc} {ls : Array Slot}, zz_R D dA base h n s H locs → lv_has ls 3 [(0, .ref a0), (1, .int w1)] → W p l e rm_X1_fitsItsCloth s m args below meth c H locs 0 0 (MQ below (zz_Qc D dA base (some (.int r0)) h n) args s rm_X1_fitsItsCloth.cells rm_X1_fitsItsCloth.slots (fun q => base ≤ q)) (F0 m 22 ls [])) (hret : ∀ r, o = (.inr r) → r = r0) : W p l e rm_X1_fitsItsCloth s m args below meth c H locs 0 0 (MQ below (zz_Qc D dA base (some (.int r0)) h n) args s rm_X1_fitsItsCloth.cells rm_X1_fitsItsCloth.slots (fun q => base ≤ q)) (F0 m 22 ls []) := by
  have hx := X.1
  have hb := X.2.1
  have hown := X.2.2.2.2.1
  unfold f_X1_fitsItsCloth_22 at hf
  refine lv_iload_n hx hb dX1_fitsItsCloth_22 rfl (lv_at hl 1 rfl) ?_
  refine lv_aload_n hx hb dX1_fitsItsCloth_23 rfl (lv_at hl 0 rfl) ?_
  refine zr_gi X hR (r := (some a0)) fl_X1_32 dX1_fitsItsCloth_24 hf (fun v24 hf => ?_)
  refine lv_icmp_ge (tgt := 77) hx hb dX1_fitsItsCloth_27 (by decide) (fun c27 => ?_) (fun c27 => ?_)
  · replace hf := zz_pos c27 hf
    refine lv_iconst (v := (1 : Int32)) hx hb dX1_fitsItsCloth_77 (by decide) ?_
    cases hf
    cases hret _ rfl
    exact zr_zret X hR (v := (1 : Int32)) rfl dX1_fitsItsCloth_78 (Nat.le_of_ble_eq_true rfl) (Nat.le_of_ble_eq_true rfl)
  · replace hf := zz_neg c27 hf
    refine lv_aload_n hx hb dX1_fitsItsCloth_30 rfl (lv_at hl 0 rfl) ?_
    refine lv_iload_n hx hb dX1_fitsItsCloth_31 rfl (lv_at hl 1 rfl) ?_
    obtain ⟨fs32, ho32, hf⟩ := zz_obS_i hf
    obtain ⟨v32, hv32, hf⟩ := zz_b_i hf
    refine zr_cV X hR hl.1 (As := [.int x1]) (rest := []) (C := RX1) (T := TX1) (N := 7) (mt_X1_placeAt hT a0 x1 h n hv32) rfl ho32 mf_X1_placeAt q_410 q_411 q_412 ⟨Nat.le_of_ble_eq_true rfl, Nat.le_of_ble_eq_true rfl⟩ ⟨Nat.le_of_ble_eq_true rfl, Nat.le_of_ble_eq_true rfl⟩ rfl (Nat.le_of_ble_eq_true rfl) dX1_fitsItsCloth_32 (fun H locs hR => ?_)
    refine W.eq (g2 := F0 m 35 ls [.int v32]) rfl ?_
    refine lv_istore_n (i := 2) (lv' := [(2, .int v32), (0, .ref a0), (1, .int x1)]) hx hb dX1_fitsItsCloth_35 rfl hl (by decide) rfl (fun ls hl => ?_)
    refine lv_iload_n hx hb dX1_fitsItsCloth_36 rfl (lv_at hl 0 rfl) ?_
    refine lv_aload_n hx hb dX1_fitsItsCloth_37 rfl (lv_at hl 1 rfl) ?_
    refine zr_gq X hR (r := (some a0)) fl_X1_25 dX1_fitsItsCloth_38 hf (fun v38 hf => ?_)
    refine lv_iload_n hx hb dX1_fitsItsCloth_41 rfl (lv_at hl 0 rfl) ?_
    refine lv_aload_n hx hb dX1_fitsItsCloth_42 rfl (lv_at hl 1 rfl) ?_
    refine zr_gi X hR (r := (some a0)) fl_X1_29 dX1_fitsItsCloth_43 hf (fun v43 hf => ?_)
    obtain ⟨b46, fs46, hr46, ho46, hf⟩ := zz_ob_i hf
    obtain ⟨v46, hv46, hf⟩ := zz_b_i hf
    refine zr_cV X hR hl.1 (As := [.int v32, .int v43]) (rest := [.int v32]) (C := RX0) (T := TX0) (N := 5) (mt_X0_nextMatch hT b46 v32 v43 h n hv46) rfl ho46 mf_X0_nextMatch q_414 q_415 q_416 ⟨Nat.le_of_ble_eq_true rfl, Nat.le_of_ble_eq_true rfl⟩ ⟨Nat.le_of_ble_eq_true rfl, Nat.le_of_ble_eq_true rfl⟩ (by rw [hr46]; rfl) (Nat.le_of_ble_eq_true rfl) dX1_fitsItsCloth_46 (fun H locs hR => ?_)
    refine W.eq (g2 := F0 m 49 ls [.int v46, .int v32]) rfl ?_
    refine lv_icmp_ne (tgt := 69) hx hb dX1_fitsItsCloth_49 (by decide) (fun c49 => ?_) (fun c49 => ?_)
    · replace hf := zz_neg c49 hf
      obtain ⟨o1, hf1, he⟩ := Option.map_eq_some_iff.mp hf
      cases he
      cases hret _ rfl
      exact bk_X1_fitsItsCloth_69 X hT hR (lv_sub hl [] rfl) hf1
    · replace hf := zz_pos c49 hf
      refine lv_aload_n hx hb dX1_fitsItsCloth_52 rfl (lv_at hl 1 rfl) ?_
      refine zr_gq X hR (r := (some a0)) fl_X1_25 dX1_fitsItsCloth_53 hf (fun v53 hf => ?_)
      refine lv_iload_n hx hb dX1_fitsItsCloth_56 rfl (lv_at hl 0 rfl) ?_
      refine lv_iload_n hx hb dX1_fitsItsCloth_57 rfl (lv_at hl 0 rfl) ?_
      refine lv_aload_n hx hb dX1_fitsItsCloth_58 rfl (lv_at hl 1 rfl) ?_
      refine zr_gi X hR (r := (some a0)) fl_X1_35 dX1_fitsItsCloth_59 hf (fun v59 hf => ?_)
      refine lv_iadd hx hb dX1_fitsItsCloth_62 ?_
      obtain ⟨b63, fs63, hr63, ho63, hf⟩ := zz_ob_i hf
      obtain ⟨v63, hv63, hf⟩ := zz_b_i hf
      refine zr_cV X hR hl.1 (As := [.int v32, .int (v32 + v59)]) (rest := []) (C := RX0) (T := TX0) (N := 5) (mt_X0_hasFlaw hT b63 v32 (v32 + v59) h n hv63) rfl ho63 mf_X0_hasFlaw q_421 q_422 q_423 ⟨Nat.le_of_ble_eq_true rfl, Nat.le_of_ble_eq_true rfl⟩ ⟨Nat.le_of_ble_eq_true rfl, Nat.le_of_ble_eq_true rfl⟩ (by rw [hr63]; rfl) (Nat.le_of_ble_eq_true rfl) dX1_fitsItsCloth_63 (fun H locs hR => ?_)
      refine W.eq (g2 := F0 m 66 ls [.int v63]) rfl ?_
      refine lv_if_eq (tgt := 71) hx hb dX1_fitsItsCloth_66 (by decide) (fun c66 => ?_) (fun c66 => ?_)
      · replace hf := zz_pos c66 hf
        refine lv_iinc (i := 1) (v := (x1 + (1 : Int32))) (lv' := [(1, .int (x1 + (1 : Int32))), (2, .int v32), (0, .ref a0)]) hx hb dX1_fitsItsCloth_71 hl (k := 2) rfl rfl (by decide) rfl (fun ls hl => ?_)
        refine lv_goto (tgt := 22) hx hb dX1_fitsItsCloth_74 (by decide) ?_
        cases hf
        exact k0 _ rfl hR (lv_sub hl [2, 0] rfl)
      · replace hf := zz_neg c66 hf
        obtain ⟨o1, hf1, he⟩ := Option.map_eq_some_iff.mp hf
        cases he
        cases hret _ rfl
        exact bk_X1_fitsItsCloth_69 X hT hR (lv_sub hl [] rfl) hf1
set_option maxHeartbeats 4000000 in
set_option maxRecDepth 100000 in
theorem lp_X1_fitsItsCloth_22 {D : va_G} {dA : Nat → ClassId} {base t0 : Nat} {l : Launch} {p : Program} {e : Env} {s : State} {m : MethodId} {args : Array Value} {below : List Frame} {meth : Method} {c : Code} (X : zz_X D dA base t0 "Springseat$Cover" cX1_fitsItsCloth 3 (some .boolean) l p s m meth c) (hT : l.stackTraces = false) (a0 : Nat) {h : zz_H} {n : Nat} {r0 : Int32} : ∀ (k : Nat) (x1 : Int32), zz_it (fun s : Int32 => f_X1_fitsItsCloth_22 a0 s h) k x1 = some r0 → ∀ {H : Heap} {locs : List Loc} {ls : Array Slot}, zz_R D dA base h n s H locs → lv_has ls 3 [(0, .ref a0), (1, .int x1)] → W p l e rm_X1_fitsItsCloth s m args below meth c H locs 0 0 (MQ below (zz_Qc D dA base (some (.int r0)) h n) args s rm_X1_fitsItsCloth.cells rm_X1_fitsItsCloth.slots (fun q => base ≤ q)) (F0 m 22 ls []) := by
  intro k
  induction k with
  | zero => intro x1 hf; cases hf
  | succ k ih =>
    intro x1 hf H locs ls hR hl
    rcases zz_it_s hf with ⟨y0, h1, h2⟩ | h1
    · exact bk_X1_fitsItsCloth_22 (r0 := r0) X hT hR hl h1  (fun z0 e => by cases e; exact ih _ h2) (fun r e => by cases e)
    · exact bk_X1_fitsItsCloth_22 (r0 := r0) X hT hR hl h1  (fun z0 e => by cases e) (fun r e => (Sum.inr.inj e).symm)
set_option maxHeartbeats 4000000 in
set_option maxRecDepth 100000 in
theorem bk_X1_fitsItsCloth_19 {D : va_G} {dA : Nat → ClassId} {base t0 : Nat} {l : Launch} {p : Program} {e : Env} {s : State} {m : MethodId} {args : Array Value} {below : List Frame} {meth : Method} {c : Code} (X : zz_X D dA base t0 "Springseat$Cover" cX1_fitsItsCloth 3 (some .boolean) l p s m meth c) (hT : l.stackTraces = false) {s0 : Int32} {h : zz_H} {n : Nat} {H : Heap} {locs : List Loc} {ls : Array Slot} (hR : zz_R D dA base h n s H locs) (hl : lv_has ls 3 []) {r0 : Int32} (hf : f_X1_fitsItsCloth_19 s0 h = some r0) : W p l e rm_X1_fitsItsCloth s m args below meth c H locs 0 0 (MQ below (zz_Qc D dA base (some (.int r0)) h n) args s rm_X1_fitsItsCloth.cells rm_X1_fitsItsCloth.slots (fun q => base ≤ q)) (F0 m 19 ls [.int s0]) := by
  have hx := X.1
  have hb := X.2.1
  have hown := X.2.2.2.2.1
  unfold f_X1_fitsItsCloth_19 at hf
  obtain ⟨hz19, hf⟩ := zz_gz_i hf
  cases hf
  exact zr_zret X hR (zz_nz hz19) dX1_fitsItsCloth_19 (Nat.le_of_ble_eq_true rfl) (Nat.le_of_ble_eq_true rfl)
set_option maxHeartbeats 4000000 in
set_option maxRecDepth 100000 in
theorem mt_X1_fitsItsCloth {D : va_G} {dA : Nat → ClassId} {base t0 : Nat} {l : Launch} (hT : l.stackTraces = false) (a0 : Nat) (h : zz_H) (n : Nat) {r0 : Int32} (hf : f_X1_fitsItsCloth a0 h = some r0) : zz_M D dA base t0 l yX1_fitsItsCloth cX1_fitsItsCloth 3 (some .boolean) rm_X1_fitsItsCloth [.ref a0] h n (some (.int r0)) h n := by
  refine Met.ofW (cc := cX1_fitsItsCloth) (maxL := 3) (ret := (some .boolean)) (by decide +kernel) rfl ?_
  intro p e s m args below meth c s₁ B hml hv
  obtain ⟨rfl, hP, hK⟩ := hv
  have X : zz_X D dA base t0 "Springseat$Cover" cX1_fitsItsCloth 3 (some .boolean) l p s m meth c := ⟨B.exec, B.bytes, hml, B.returns, findClass_of_methodNamed B.named, B.notSynchronized, hT, by rw [hP.1]; exact hP.2.1, hK⟩
  have hx := X.1
  have hb := X.2.1
  have hown := X.2.2.2.2.1
  have hR : zz_R D dA base h n s s.heap [] := ⟨hP, va_S.rf⟩
  have hl := lv_entry ([.ref a0]) (n := 3) (by exact Nat.le_of_ble_eq_true rfl)
  rw [lg_entry_eq]
  generalize (lg_sl ([.ref a0]) ++ List.replicate (3 - (lg_sl ([.ref a0])).length) Slot.unset).toArray = ls at hl ⊢
  have hl : lv_has ls 3 [(0, .ref a0)] := hl
  unfold f_X1_fitsItsCloth at hf
  refine lv_aload_n hx hb dX1_fitsItsCloth_0 rfl (lv_at hl 0 rfl) ?_
  refine zr_gq X hR (r := (some a0)) fl_X1_25 dX1_fitsItsCloth_1 hf (fun v1 hf => ?_)
  refine zr_ifnonnull (r := v1) (tgt := 20) hx hb dX1_fitsItsCloth_4 (by decide) (fun c4 => ?_) (fun c4 => ?_)
  · replace hf := zz_neg c4 hf
    refine lv_iconst (v := (0 : Int32)) hx hb dX1_fitsItsCloth_20 (by decide) ?_
    refine lv_istore_n (i := 1) (lv' := [(1, .int (0 : Int32)), (0, .ref a0)]) hx hb dX1_fitsItsCloth_21 rfl hl (by decide) rfl (fun ls hl => ?_)
    exact lp_X1_fitsItsCloth_22 X hT a0 zz_F _ hf hR (lv_sub hl [1, 0] rfl)
  · replace hf := zz_pos c4 hf
    refine lv_aload_n hx hb dX1_fitsItsCloth_7 rfl (lv_at hl 0 rfl) ?_
    refine zr_gi X hR (r := (some a0)) fl_X1_32 dX1_fitsItsCloth_8 hf (fun v8 hf => ?_)
    refine lv_if_ne (tgt := 18) hx hb dX1_fitsItsCloth_11 (by decide) (fun c11 => ?_) (fun c11 => ?_)
    · replace hf := zz_neg c11 hf
      refine lv_iconst (v := (0 : Int32)) hx hb dX1_fitsItsCloth_18 (by decide) ?_
      exact bk_X1_fitsItsCloth_19 X hT hR (lv_sub hl [] rfl) hf
    · replace hf := zz_pos c11 hf
      refine lv_iconst (v := (1 : Int32)) hx hb dX1_fitsItsCloth_14 (by decide) ?_
      refine lv_goto (tgt := 19) hx hb dX1_fitsItsCloth_15 (by decide) ?_
      exact bk_X1_fitsItsCloth_19 X hT hR (lv_sub hl [] rfl) hf
def rm_X1_overlaps : Room := { frames := 1, cells := 0, slots := 0, locals := 21 }
theorem mf_X1_overlaps : zz_Mf yX1_overlaps cX1_overlaps 5 (some .boolean) 1 := ⟨q_438, q_19, by decide +kernel, by decide +kernel, by decide +kernel⟩
set_option maxHeartbeats 4000000 in
set_option maxRecDepth 100000 in
theorem bk_X1_overlaps_100 {D : va_G} {dA : Nat → ClassId} {base t0 : Nat} {l : Launch} {p : Program} {e : Env} {s : State} {m : MethodId} {args : Array Value} {below : List Frame} {meth : Method} {c : Code} (X : zz_X D dA base t0 "Springseat$Cover" cX1_overlaps 5 (some .boolean) l p s m meth c) (hT : l.stackTraces = false) {a0 : Nat} {x1 : (Option Nat)} {x2 : Int32} {x3 : Int32} {h : zz_H} {n : Nat} {H : Heap} {locs : List Loc} {ls : Array Slot} (hR : zz_R D dA base h n s H locs) (hl : lv_has ls 5 [(0, .ref a0), (1, va_rf x1), (2, .int x2), (3, .int x3)]) {r0 : Int32} {o : (Int32 ⊕ (Int32 ⊕ Int32))} (hf : f_X1_overlaps_100 a0 x1 x2 x3 h = some o) (k0 : ∀ (w2 : Int32), o = (.inr (.inl w2)) → ∀ {H : Heap} {locs : List Loc} {ls : Array Slot}, zz_R D dA base h n s H locs → lv_has ls 5 [(0, .ref a0), (1, va_rf x1), (2, .int w2)] → W p l e rm_X1_overlaps s m args below meth c H locs 0 0 (MQ below (zz_Qc D dA base (some (.int r0)) h n) args s rm_X1_overlaps.cells rm_X1_overlaps.slots (fun q => base ≤ q)) (F0 m 22 ls [])) (k1 : ∀ (w3 : Int32), o = (.inl w3) → ∀ {H : Heap} {locs : List Loc} {ls : Array Slot}, zz_R D dA base h n s H locs → lv_has ls 5 [(0, .ref a0), (1, va_rf x1), (2, .int x2), (3, .int w3)] → W p l e rm_X1_overlaps s m args below meth c H locs 0 0 (MQ below (zz_Qc D dA base (some (.int r0)) h n) args s rm_X1_overlaps.cells rm_X1_overlaps.slots (fun q => base ≤ q)) (F0 m 32 ls [])) (hret : ∀ r, o = (.inr (.inr r)) → r = r0) : W p l e rm_X1_overlaps s m args below meth c H locs 0 0 (MQ below (zz_Qc D dA base (some (.int r0)) h n) args s rm_X1_overlaps.cells rm_X1_overlaps.slots (fun q => base ≤ q)) (F0 m 100 ls []) := by
  have hx := X.1
  have hb := X.2.1
  have hown := X.2.2.2.2.1
  unfold f_X1_overlaps_100 at hf
  refine lv_iinc (i := 3) (v := (x3 + (1 : Int32))) (lv' := [(3, .int (x3 + (1 : Int32))), (0, .ref a0), (1, va_rf x1), (2, .int x2)]) hx hb dX1_overlaps_100 hl (k := 3) rfl rfl (by decide) rfl (fun ls hl => ?_)
  refine lv_goto (tgt := 32) hx hb dX1_overlaps_103 (by decide) ?_
  cases hf
  exact k1 _ rfl hR (lv_sub hl [1, 2, 3, 0] rfl)
set_option maxHeartbeats 4000000 in
set_option maxRecDepth 100000 in
theorem bk_X1_overlaps_55 {D : va_G} {dA : Nat → ClassId} {base t0 : Nat} {l : Launch} {p : Program} {e : Env} {s : State} {m : MethodId} {args : Array Value} {below : List Frame} {meth : Method} {c : Code} (X : zz_X D dA base t0 "Springseat$Cover" cX1_overlaps 5 (some .boolean) l p s m meth c) (hT : l.stackTraces = false) {a0 : Nat} {x1 : (Option Nat)} {x2 : Int32} {x3 : Int32} {s0 : Int32} {h : zz_H} {n : Nat} {H : Heap} {locs : List Loc} {ls : Array Slot} (hR : zz_R D dA base h n s H locs) (hl : lv_has ls 5 [(0, .ref a0), (1, va_rf x1), (2, .int x2), (3, .int x3)]) {r0 : Int32} {o : (Int32 ⊕ (Int32 ⊕ Int32))} (hf : f_X1_overlaps_55 a0 x1 x2 x3 s0 h = some o) (k0 : ∀ (w2 : Int32), o = (.inr (.inl w2)) → ∀ {H : Heap} {locs : List Loc} {ls : Array Slot}, zz_R D dA base h n s H locs → lv_has ls 5 [(0, .ref a0), (1, va_rf x1), (2, .int w2)] → W p l e rm_X1_overlaps s m args below meth c H locs 0 0 (MQ below (zz_Qc D dA base (some (.int r0)) h n) args s rm_X1_overlaps.cells rm_X1_overlaps.slots (fun q => base ≤ q)) (F0 m 22 ls [])) (k1 : ∀ (w3 : Int32), o = (.inl w3) → ∀ {H : Heap} {locs : List Loc} {ls : Array Slot}, zz_R D dA base h n s H locs → lv_has ls 5 [(0, .ref a0), (1, va_rf x1), (2, .int x2), (3, .int w3)] → W p l e rm_X1_overlaps s m args below meth c H locs 0 0 (MQ below (zz_Qc D dA base (some (.int r0)) h n) args s rm_X1_overlaps.cells rm_X1_overlaps.slots (fun q => base ≤ q)) (F0 m 32 ls [])) (hret : ∀ r, o = (.inr (.inr r)) → r = r0) : W p l e rm_X1_overlaps s m args below meth c H locs 0 0 (MQ below (zz_Qc D dA base (some (.int r0)) h n) args s rm_X1_overlaps.cells rm_X1_overlaps.slots (fun q => base ≤ q)) (F0 m 55 ls [.int s0]) := by
  have hx := X.1
  have hb := X.2.1
  have hown := X.2.2.2.2.1
  unfold f_X1_overlaps_55 at hf
  refine lv_istore (i := 4) (lv' := [(4, .int s0), (0, .ref a0), (1, va_rf x1), (2, .int x2), (3, .int x3)]) hx hb dX1_overlaps_55 hl (by decide) rfl (fun ls hl => ?_)
  refine lv_iload hx hb dX1_overlaps_57 (lv_at hl 0 rfl) ?_
  refine lv_if_ne (tgt := 100) hx hb dX1_overlaps_59 (by decide) (fun c59 => ?_) (fun c59 => ?_)
  · replace hf := zz_neg c59 hf
    exact bk_X1_overlaps_100 X hT hR (lv_sub hl [1, 2, 3, 4] rfl) hf k0 k1 hret
  · replace hf := zz_pos c59 hf
    refine lv_aload_n hx hb dX1_overlaps_62 rfl (lv_at hl 1 rfl) ?_
    refine lv_iload_n hx hb dX1_overlaps_63 rfl (lv_at hl 3 rfl) ?_
    obtain ⟨fs64, ho64, hf⟩ := zz_obS_i hf
    obtain ⟨v64, hv64, hf⟩ := zz_b_i hf
    refine zr_cV X hR hl.1 (As := [.int x2]) (rest := []) (C := RX1) (T := TX1) (N := 7) (mt_X1_placeAt hT a0 x2 h n hv64) rfl ho64 mf_X1_placeAt q_410 q_411 q_412 ⟨Nat.le_of_ble_eq_true rfl, Nat.le_of_ble_eq_true rfl⟩ ⟨Nat.le_of_ble_eq_true rfl, Nat.le_of_ble_eq_true rfl⟩ rfl (Nat.le_of_ble_eq_true rfl) dX1_overlaps_64 (fun H locs hR => ?_)
    refine W.eq (g2 := F0 m 67 ls [.int v64]) rfl ?_
    refine zr_aload_n hx hb dX1_overlaps_67 rfl (lv_at hl 2 rfl) ?_
    refine lv_iload_n hx hb dX1_overlaps_68 rfl (lv_at hl 4 rfl) ?_
    obtain ⟨b69, fs69, hr69, ho69, hf⟩ := zz_ob_i hf
    obtain ⟨v69, hv69, hf⟩ := zz_b_i hf
    refine zr_cV X hR hl.1 (As := [.int x3]) (rest := [.int v64]) (C := RX1) (T := TX1) (N := 7) (mt_X1_placeAt hT b69 x3 h n hv69) rfl ho69 mf_X1_placeAt q_410 q_411 q_412 ⟨Nat.le_of_ble_eq_true rfl, Nat.le_of_ble_eq_true rfl⟩ ⟨Nat.le_of_ble_eq_true rfl, Nat.le_of_ble_eq_true rfl⟩ (by rw [hr69]; rfl) (Nat.le_of_ble_eq_true rfl) dX1_overlaps_69 (fun H locs hR => ?_)
    refine W.eq (g2 := F0 m 72 ls [.int v69, .int v64]) rfl ?_
    refine zr_aload_n hx hb dX1_overlaps_72 rfl (lv_at hl 2 rfl) ?_
    refine zr_gi X hR (r := x1) fl_X1_35 dX1_overlaps_73 hf (fun v73 hf => ?_)
    refine lv_iadd hx hb dX1_overlaps_76 ?_
    refine lv_icmp_ge (tgt := 100) hx hb dX1_overlaps_77 (by decide) (fun c77 => ?_) (fun c77 => ?_)
    · replace hf := zz_pos c77 hf
      exact bk_X1_overlaps_100 X hT hR (lv_sub hl [1, 2, 3, 4] rfl) hf k0 k1 hret
    · replace hf := zz_neg c77 hf
      refine zr_aload_n hx hb dX1_overlaps_80 rfl (lv_at hl 2 rfl) ?_
      refine lv_iload_n hx hb dX1_overlaps_81 rfl (lv_at hl 4 rfl) ?_
      obtain ⟨b82, fs82, hr82, ho82, hf⟩ := zz_ob_i hf
      obtain ⟨v82, hv82, hf⟩ := zz_b_i hf
      refine zr_cV X hR hl.1 (As := [.int x3]) (rest := []) (C := RX1) (T := TX1) (N := 7) (mt_X1_placeAt hT b82 x3 h n hv82) rfl ho82 mf_X1_placeAt q_410 q_411 q_412 ⟨Nat.le_of_ble_eq_true rfl, Nat.le_of_ble_eq_true rfl⟩ ⟨Nat.le_of_ble_eq_true rfl, Nat.le_of_ble_eq_true rfl⟩ (by rw [hr82]; rfl) (Nat.le_of_ble_eq_true rfl) dX1_overlaps_82 (fun H locs hR => ?_)
      refine W.eq (g2 := F0 m 85 ls [.int v82]) rfl ?_
      refine lv_aload_n hx hb dX1_overlaps_85 rfl (lv_at hl 1 rfl) ?_
      refine lv_iload_n hx hb dX1_overlaps_86 rfl (lv_at hl 3 rfl) ?_
      obtain ⟨fs87, ho87, hf⟩ := zz_obS_i hf
      obtain ⟨v87, hv87, hf⟩ := zz_b_i hf
      refine zr_cV X hR hl.1 (As := [.int x2]) (rest := [.int v82]) (C := RX1) (T := TX1) (N := 7) (mt_X1_placeAt hT a0 x2 h n hv87) rfl ho87 mf_X1_placeAt q_410 q_411 q_412 ⟨Nat.le_of_ble_eq_true rfl, Nat.le_of_ble_eq_true rfl⟩ ⟨Nat.le_of_ble_eq_true rfl, Nat.le_of_ble_eq_true rfl⟩ rfl (Nat.le_of_ble_eq_true rfl) dX1_overlaps_87 (fun H locs hR => ?_)
      refine W.eq (g2 := F0 m 90 ls [.int v87, .int v82]) rfl ?_
      refine lv_aload_n hx hb dX1_overlaps_90 rfl (lv_at hl 1 rfl) ?_
      refine zr_gi X hR (r := (some a0)) fl_X1_35 dX1_overlaps_91 hf (fun v91 hf => ?_)
      refine lv_iadd hx hb dX1_overlaps_94 ?_
      refine lv_icmp_ge (tgt := 100) hx hb dX1_overlaps_95 (by decide) (fun c95 => ?_) (fun c95 => ?_)
      · replace hf := zz_pos c95 hf
        exact bk_X1_overlaps_100 X hT hR (lv_sub hl [1, 2, 3, 4] rfl) hf k0 k1 hret
      · replace hf := zz_neg c95 hf
        refine lv_iconst (v := (1 : Int32)) hx hb dX1_overlaps_98 (by decide) ?_
        cases hf
        cases hret _ rfl
        exact zr_zret X hR (v := (1 : Int32)) rfl dX1_overlaps_99 (Nat.le_of_ble_eq_true rfl) (Nat.le_of_ble_eq_true rfl)
set_option maxHeartbeats 4000000 in
set_option maxRecDepth 100000 in
theorem bk_X1_overlaps_54 {D : va_G} {dA : Nat → ClassId} {base t0 : Nat} {l : Launch} {p : Program} {e : Env} {s : State} {m : MethodId} {args : Array Value} {below : List Frame} {meth : Method} {c : Code} (X : zz_X D dA base t0 "Springseat$Cover" cX1_overlaps 5 (some .boolean) l p s m meth c) (hT : l.stackTraces = false) {a0 : Nat} {x1 : (Option Nat)} {x2 : Int32} {x3 : Int32} {h : zz_H} {n : Nat} {H : Heap} {locs : List Loc} {ls : Array Slot} (hR : zz_R D dA base h n s H locs) (hl : lv_has ls 5 [(0, .ref a0), (1, va_rf x1), (2, .int x2), (3, .int x3)]) {r0 : Int32} {o : (Int32 ⊕ (Int32 ⊕ Int32))} (hf : f_X1_overlaps_54 a0 x1 x2 x3 h = some o) (k0 : ∀ (w2 : Int32), o = (.inr (.inl w2)) → ∀ {H : Heap} {locs : List Loc} {ls : Array Slot}, zz_R D dA base h n s H locs → lv_has ls 5 [(0, .ref a0), (1, va_rf x1), (2, .int w2)] → W p l e rm_X1_overlaps s m args below meth c H locs 0 0 (MQ below (zz_Qc D dA base (some (.int r0)) h n) args s rm_X1_overlaps.cells rm_X1_overlaps.slots (fun q => base ≤ q)) (F0 m 22 ls [])) (k1 : ∀ (w3 : Int32), o = (.inl w3) → ∀ {H : Heap} {locs : List Loc} {ls : Array Slot}, zz_R D dA base h n s H locs → lv_has ls 5 [(0, .ref a0), (1, va_rf x1), (2, .int x2), (3, .int w3)] → W p l e rm_X1_overlaps s m args below meth c H locs 0 0 (MQ below (zz_Qc D dA base (some (.int r0)) h n) args s rm_X1_overlaps.cells rm_X1_overlaps.slots (fun q => base ≤ q)) (F0 m 32 ls [])) (hret : ∀ r, o = (.inr (.inr r)) → r = r0) : W p l e rm_X1_overlaps s m args below meth c H locs 0 0 (MQ below (zz_Qc D dA base (some (.int r0)) h n) args s rm_X1_overlaps.cells rm_X1_overlaps.slots (fun q => base ≤ q)) (F0 m 54 ls []) := by
  have hx := X.1
  have hb := X.2.1
  have hown := X.2.2.2.2.1
  unfold f_X1_overlaps_54 at hf
  refine lv_iconst (v := (0 : Int32)) hx hb dX1_overlaps_54 (by decide) ?_
  exact bk_X1_overlaps_55 X hT hR (lv_sub hl [0, 1, 2, 3] rfl) hf k0 k1 hret
set_option maxHeartbeats 4000000 in
set_option maxRecDepth 100000 in
theorem bk_X1_overlaps_32 {D : va_G} {dA : Nat → ClassId} {base t0 : Nat} {l : Launch} {p : Program} {e : Env} {s : State} {m : MethodId} {args : Array Value} {below : List Frame} {meth : Method} {c : Code} (X : zz_X D dA base t0 "Springseat$Cover" cX1_overlaps 5 (some .boolean) l p s m meth c) (hT : l.stackTraces = false) {a0 : Nat} {x1 : (Option Nat)} {x2 : Int32} {x3 : Int32} {h : zz_H} {n : Nat} {H : Heap} {locs : List Loc} {ls : Array Slot} (hR : zz_R D dA base h n s H locs) (hl : lv_has ls 5 [(0, .ref a0), (1, va_rf x1), (2, .int x2), (3, .int x3)]) {r0 : Int32} {o : (Int32 ⊕ (Int32 ⊕ Int32))} (hf : f_X1_overlaps_32 a0 x1 x2 x3 h = some o) (k0 : ∀ (w2 : Int32), o = (.inr (.inl w2)) → ∀ {H : Heap} {locs : List Loc} {ls : Array Slot}, zz_R D dA base h n s H locs → lv_has ls 5 [(0, .ref a0), (1, va_rf x1), (2, .int w2)] → W p l e rm_X1_overlaps s m args below meth c H locs 0 0 (MQ below (zz_Qc D dA base (some (.int r0)) h n) args s rm_X1_overlaps.cells rm_X1_overlaps.slots (fun q => base ≤ q)) (F0 m 22 ls [])) (k1 : ∀ (w3 : Int32), o = (.inl w3) → ∀ {H : Heap} {locs : List Loc} {ls : Array Slot}, zz_R D dA base h n s H locs → lv_has ls 5 [(0, .ref a0), (1, va_rf x1), (2, .int x2), (3, .int w3)] → W p l e rm_X1_overlaps s m args below meth c H locs 0 0 (MQ below (zz_Qc D dA base (some (.int r0)) h n) args s rm_X1_overlaps.cells rm_X1_overlaps.slots (fun q => base ≤ q)) (F0 m 32 ls [])) (hret : ∀ r, o = (.inr (.inr r)) → r = r0) : W p l e rm_X1_overlaps s m args below meth c H locs 0 0 (MQ below (zz_Qc D dA base (some (.int r0)) h n) args s rm_X1_overlaps.cells rm_X1_overlaps.slots (fun q => base ≤ q)) (F0 m 32 ls []) := by
  have hx := X.1
  have hb := X.2.1
  have hown := X.2.2.2.2.1
  unfold f_X1_overlaps_32 at hf
  refine lv_iload_n hx hb dX1_overlaps_32 rfl (lv_at hl 3 rfl) ?_
  refine zr_aload_n hx hb dX1_overlaps_33 rfl (lv_at hl 1 rfl) ?_
  refine zr_gi X hR (r := x1) fl_X1_32 dX1_overlaps_34 hf (fun v34 hf => ?_)
  refine lv_icmp_ge (tgt := 106) hx hb dX1_overlaps_37 (by decide) (fun c37 => ?_) (fun c37 => ?_)
  · replace hf := zz_pos c37 hf
    refine lv_iinc (i := 2) (v := (x2 + (1 : Int32))) (lv' := [(2, .int (x2 + (1 : Int32))), (0, .ref a0), (1, va_rf x1), (3, .int x3)]) hx hb dX1_overlaps_106 hl (k := 2) rfl rfl (by decide) (by simp [zz_cat, zz_catI, zz_catR, zz_catJ, zz_catF, zz_catD]) (fun ls hl => ?_)
    refine lv_goto (tgt := 22) hx hb dX1_overlaps_109 (by decide) ?_
    cases hf
    exact k0 _ rfl hR (lv_sub hl [1, 2, 0] rfl)
  · replace hf := zz_neg c37 hf
    refine lv_aload_n hx hb dX1_overlaps_40 rfl (lv_at hl 0 rfl) ?_
    refine zr_aload_n hx hb dX1_overlaps_41 rfl (lv_at hl 1 rfl) ?_
    refine lv_acmp_ne (rx := (some a0)) (ry := x1) (tgt := 54) hx hb dX1_overlaps_42 (by decide) (fun c42 => ?_) (fun c42 => ?_)
    · replace hf := zz_neg c42 hf
      exact bk_X1_overlaps_54 X hT hR (lv_sub hl [0, 1, 2, 3] rfl) hf k0 k1 hret
    · replace hf := zz_pos c42 hf
      refine lv_iload_n hx hb dX1_overlaps_45 rfl (lv_at hl 2 rfl) ?_
      refine lv_iload_n hx hb dX1_overlaps_46 rfl (lv_at hl 3 rfl) ?_
      refine lv_icmp_ne (tgt := 54) hx hb dX1_overlaps_47 (by decide) (fun c47 => ?_) (fun c47 => ?_)
      · replace hf := zz_neg c47 hf
        exact bk_X1_overlaps_54 X hT hR (lv_sub hl [0, 1, 2, 3] rfl) hf k0 k1 hret
      · replace hf := zz_pos c47 hf
        refine lv_iconst (v := (1 : Int32)) hx hb dX1_overlaps_50 (by decide) ?_
        refine lv_goto (tgt := 55) hx hb dX1_overlaps_51 (by decide) ?_
        exact bk_X1_overlaps_55 X hT hR (lv_sub hl [0, 1, 2, 3] rfl) hf k0 k1 hret
set_option maxHeartbeats 4000000 in
set_option maxRecDepth 100000 in
theorem lp_X1_overlaps_32 {D : va_G} {dA : Nat → ClassId} {base t0 : Nat} {l : Launch} {p : Program} {e : Env} {s : State} {m : MethodId} {args : Array Value} {below : List Frame} {meth : Method} {c : Code} (X : zz_X D dA base t0 "Springseat$Cover" cX1_overlaps 5 (some .boolean) l p s m meth c) (hT : l.stackTraces = false) (a0 : Nat) (x1 : (Option Nat)) (x2 : Int32) {h : zz_H} {n : Nat} {r0 : Int32} : ∀ (k : Nat) (x3 : Int32) {o : (Int32 ⊕ Int32)}, zz_it (fun s : Int32 => f_X1_overlaps_32 a0 x1 x2 s h) k x3 = some o → (∀ (w2 : Int32), o = (.inl w2) → ∀ {H : Heap} {locs : List Loc} {ls : Array Slot}, zz_R D dA base h n s H locs → lv_has ls 5 [(0, .ref a0), (1, va_rf x1), (2, .int w2)] → W p l e rm_X1_overlaps s m args below meth c H locs 0 0 (MQ below (zz_Qc D dA base (some (.int r0)) h n) args s rm_X1_overlaps.cells rm_X1_overlaps.slots (fun q => base ≤ q)) (F0 m 22 ls [])) → (∀ r, o = (.inr r) → r = r0) → ∀ {H : Heap} {locs : List Loc} {ls : Array Slot}, zz_R D dA base h n s H locs → lv_has ls 5 [(0, .ref a0), (1, va_rf x1), (2, .int x2), (3, .int x3)] → W p l e rm_X1_overlaps s m args below meth c H locs 0 0 (MQ below (zz_Qc D dA base (some (.int r0)) h n) args s rm_X1_overlaps.cells rm_X1_overlaps.slots (fun q => base ≤ q)) (F0 m 32 ls []) := by
  intro k
  induction k with
  | zero => intro x3 o hf _ _; cases hf
  | succ k ih =>
    intro x3 o hf k0 hret H locs ls hR hl
    rcases zz_it_s hf with ⟨y0, h1, h2⟩ | h1
    · exact bk_X1_overlaps_32 (r0 := r0) X hT hR hl h1 (fun z0 e => by cases e) (fun z0 e => by cases e; exact ih _ h2 k0 hret) (fun r e => by cases e)
    · exact bk_X1_overlaps_32 (r0 := r0) X hT hR hl h1 (fun z0 e => k0 z0 (Sum.inr.inj e)) (fun z0 e => by cases e) (fun r e => hret r (Sum.inr.inj e))
set_option maxHeartbeats 4000000 in
set_option maxRecDepth 100000 in
theorem bk_X1_overlaps_22 {D : va_G} {dA : Nat → ClassId} {base t0 : Nat} {l : Launch} {p : Program} {e : Env} {s : State} {m : MethodId} {args : Array Value} {below : List Frame} {meth : Method} {c : Code} (X : zz_X D dA base t0 "Springseat$Cover" cX1_overlaps 5 (some .boolean) l p s m meth c) (hT : l.stackTraces = false) {a0 : Nat} {x1 : (Option Nat)} {x2 : Int32} {h : zz_H} {n : Nat} {H : Heap} {locs : List Loc} {ls : Array Slot} (hR : zz_R D dA base h n s H locs) (hl : lv_has ls 5 [(0, .ref a0), (1, va_rf x1), (2, .int x2)]) {r0 : Int32} {o : (Int32 ⊕ Int32)} (hf : f_X1_overlaps_22 a0 x1 x2 h = some o) (k0 : ∀ (w2 : Int32), o = (.inl w2) → ∀ {H : Heap} {locs : List Loc} {ls : Array Slot}, zz_R D dA base h n s H locs → lv_has ls 5 [(0, .ref a0), (1, va_rf x1), (2, .int w2)] → W p l e rm_X1_overlaps s m args below meth c H locs 0 0 (MQ below (zz_Qc D dA base (some (.int r0)) h n) args s rm_X1_overlaps.cells rm_X1_overlaps.slots (fun q => base ≤ q)) (F0 m 22 ls [])) (hret : ∀ r, o = (.inr r) → r = r0) : W p l e rm_X1_overlaps s m args below meth c H locs 0 0 (MQ below (zz_Qc D dA base (some (.int r0)) h n) args s rm_X1_overlaps.cells rm_X1_overlaps.slots (fun q => base ≤ q)) (F0 m 22 ls []) := by
  have hx := X.1
  have hb := X.2.1
  have hown := X.2.2.2.2.1
  unfold f_X1_overlaps_22 at hf
  refine lv_iload_n hx hb dX1_overlaps_22 rfl (lv_at hl 2 rfl) ?_
  refine lv_aload_n hx hb dX1_overlaps_23 rfl (lv_at hl 0 rfl) ?_
  refine zr_gi X hR (r := (some a0)) fl_X1_32 dX1_overlaps_24 hf (fun v24 hf => ?_)
  refine lv_icmp_ge (tgt := 112) hx hb dX1_overlaps_27 (by decide) (fun c27 => ?_) (fun c27 => ?_)
  · replace hf := zz_pos c27 hf
    refine lv_iconst (v := (0 : Int32)) hx hb dX1_overlaps_112 (by decide) ?_
    cases hf
    cases hret _ rfl
    exact zr_zret X hR (v := (0 : Int32)) rfl dX1_overlaps_113 (Nat.le_of_ble_eq_true rfl) (Nat.le_of_ble_eq_true rfl)
  · replace hf := zz_neg c27 hf
    refine lv_iconst (v := (0 : Int32)) hx hb dX1_overlaps_30 (by decide) ?_
    refine lv_istore_n (i := 3) (lv' := [(3, .int (0 : Int32)), (0, .ref a0), (1, va_rf x1), (2, .int x2)]) hx hb dX1_overlaps_31 rfl hl (by decide) rfl (fun ls hl => ?_)
    exact lp_X1_overlaps_32 X hT a0 x1 x2 zz_F _ hf k0 hret hR (lv_sub hl [1, 2, 3, 0] rfl)
set_option maxHeartbeats 4000000 in
set_option maxRecDepth 100000 in
theorem lp_X1_overlaps_22 {D : va_G} {dA : Nat → ClassId} {base t0 : Nat} {l : Launch} {p : Program} {e : Env} {s : State} {m : MethodId} {args : Array Value} {below : List Frame} {meth : Method} {c : Code} (X : zz_X D dA base t0 "Springseat$Cover" cX1_overlaps 5 (some .boolean) l p s m meth c) (hT : l.stackTraces = false) (a0 : Nat) (x1 : (Option Nat)) {h : zz_H} {n : Nat} {r0 : Int32} : ∀ (k : Nat) (x2 : Int32), zz_it (fun s : Int32 => f_X1_overlaps_22 a0 x1 s h) k x2 = some r0 → ∀ {H : Heap} {locs : List Loc} {ls : Array Slot}, zz_R D dA base h n s H locs → lv_has ls 5 [(0, .ref a0), (1, va_rf x1), (2, .int x2)] → W p l e rm_X1_overlaps s m args below meth c H locs 0 0 (MQ below (zz_Qc D dA base (some (.int r0)) h n) args s rm_X1_overlaps.cells rm_X1_overlaps.slots (fun q => base ≤ q)) (F0 m 22 ls []) := by
  intro k
  induction k with
  | zero => intro x2 hf; cases hf
  | succ k ih =>
    intro x2 hf H locs ls hR hl
    rcases zz_it_s hf with ⟨y0, h1, h2⟩ | h1
    · exact bk_X1_overlaps_22 (r0 := r0) X hT hR hl h1  (fun z0 e => by cases e; exact ih _ h2) (fun r e => by cases e)
    · exact bk_X1_overlaps_22 (r0 := r0) X hT hR hl h1  (fun z0 e => by cases e) (fun r e => (Sum.inr.inj e).symm)
set_option maxHeartbeats 4000000 in
set_option maxRecDepth 100000 in
theorem bk_X1_overlaps_18 {D : va_G} {dA : Nat → ClassId} {base t0 : Nat} {l : Launch} {p : Program} {e : Env} {s : State} {m : MethodId} {args : Array Value} {below : List Frame} {meth : Method} {c : Code} (X : zz_X D dA base t0 "Springseat$Cover" cX1_overlaps 5 (some .boolean) l p s m meth c) (hT : l.stackTraces = false) {h : zz_H} {n : Nat} {H : Heap} {locs : List Loc} {ls : Array Slot} (hR : zz_R D dA base h n s H locs) (hl : lv_has ls 5 []) {r0 : Int32} (hf : f_X1_overlaps_18 h = some r0) : W p l e rm_X1_overlaps s m args below meth c H locs 0 0 (MQ below (zz_Qc D dA base (some (.int r0)) h n) args s rm_X1_overlaps.cells rm_X1_overlaps.slots (fun q => base ≤ q)) (F0 m 18 ls []) := by
  have hx := X.1
  have hb := X.2.1
  have hown := X.2.2.2.2.1
  unfold f_X1_overlaps_18 at hf
  refine lv_iconst (v := (0 : Int32)) hx hb dX1_overlaps_18 (by decide) ?_
  cases hf
  exact zr_zret X hR (v := (0 : Int32)) rfl dX1_overlaps_19 (Nat.le_of_ble_eq_true rfl) (Nat.le_of_ble_eq_true rfl)
set_option maxHeartbeats 4000000 in
set_option maxRecDepth 100000 in
theorem mt_X1_overlaps {D : va_G} {dA : Nat → ClassId} {base t0 : Nat} {l : Launch} (hT : l.stackTraces = false) (a0 : Nat) (x1 : (Option Nat)) (h : zz_H) (n : Nat) {r0 : Int32} (hf : f_X1_overlaps a0 x1 h = some r0) : zz_M D dA base t0 l yX1_overlaps cX1_overlaps 5 (some .boolean) rm_X1_overlaps [.ref a0, va_rf x1] h n (some (.int r0)) h n := by
  refine Met.ofW (cc := cX1_overlaps) (maxL := 5) (ret := (some .boolean)) (by decide +kernel) rfl ?_
  intro p e s m args below meth c s₁ B hml hv
  obtain ⟨rfl, hP, hK⟩ := hv
  have X : zz_X D dA base t0 "Springseat$Cover" cX1_overlaps 5 (some .boolean) l p s m meth c := ⟨B.exec, B.bytes, hml, B.returns, findClass_of_methodNamed B.named, B.notSynchronized, hT, by rw [hP.1]; exact hP.2.1, hK⟩
  have hx := X.1
  have hb := X.2.1
  have hown := X.2.2.2.2.1
  have hR : zz_R D dA base h n s s.heap [] := ⟨hP, va_S.rf⟩
  have hl := lv_entry ([.ref a0, va_rf x1]) (n := 5) (by cases x1 <;> exact Nat.le_of_ble_eq_true rfl)
  rw [lg_entry_eq]
  generalize (lg_sl ([.ref a0, va_rf x1]) ++ List.replicate (5 - (lg_sl ([.ref a0, va_rf x1])).length) Slot.unset).toArray = ls at hl ⊢
  have hl : lv_has ls 5 [(0, .ref a0), (1, va_rf x1)] := by rw [show ([(0, .ref a0), (1, va_rf x1)] : List (Nat × Value)) = lv_args 0 [.ref a0, va_rf x1] from by cases x1 <;> rfl]; exact hl
  unfold f_X1_overlaps at hf
  refine lv_aload_n hx hb dX1_overlaps_0 rfl (lv_at hl 0 rfl) ?_
  refine zr_gq X hR (r := (some a0)) fl_X1_25 dX1_overlaps_1 hf (fun v1 hf => ?_)
  refine zr_ifnull (r := v1) (tgt := 18) hx hb dX1_overlaps_4 (by decide) (fun c4 => ?_) (fun c4 => ?_)
  · replace hf := zz_pos c4 hf
    exact bk_X1_overlaps_18 X hT hR (lv_sub hl [] rfl) hf
  · replace hf := zz_neg c4 hf
    refine lv_aload_n hx hb dX1_overlaps_7 rfl (lv_at hl 0 rfl) ?_
    refine zr_gq X hR (r := (some a0)) fl_X1_25 dX1_overlaps_8 hf (fun v8 hf => ?_)
    refine zr_aload_n hx hb dX1_overlaps_11 rfl (lv_at hl 1 rfl) ?_
    refine zr_gq X hR (r := x1) fl_X1_25 dX1_overlaps_12 hf (fun v12 hf => ?_)
    refine lv_acmp_eq (rx := v8) (ry := v12) (tgt := 20) hx hb dX1_overlaps_15 (by decide) (fun c15 => ?_) (fun c15 => ?_)
    · replace hf := zz_pos c15 hf
      refine lv_iconst (v := (0 : Int32)) hx hb dX1_overlaps_20 (by decide) ?_
      refine lv_istore_n (i := 2) (lv' := [(2, .int (0 : Int32)), (0, .ref a0), (1, va_rf x1)]) hx hb dX1_overlaps_21 rfl hl (by decide) (by simp [zz_cat, zz_catI, zz_catR, zz_catJ, zz_catF, zz_catD]) (fun ls hl => ?_)
      exact lp_X1_overlaps_22 X hT a0 x1 zz_F _ hf hR (lv_sub hl [1, 2, 0] rfl)
    · replace hf := zz_neg c15 hf
      exact bk_X1_overlaps_18 X hT hR (lv_sub hl [] rfl) hf
def rm_Jxa1e45_init_da8c8 : Room := { frames := 1, cells := 0, slots := 0, locals := 20 }
theorem mf_Jxa1e45_init_da8c8 : zz_Mf yJxa1e45_init_da8c8 cJxa1e45_init_da8c8 1 none 0 := ⟨q_46, q_2, by decide +kernel, by decide +kernel, by decide +kernel⟩
set_option maxHeartbeats 4000000 in
set_option maxRecDepth 100000 in
theorem mt_Jxa1e45_init_da8c8 {D : va_G} {dA : Nat → ClassId} {base t0 : Nat} {l : Launch} (hT : l.stackTraces = false) (a0 : Nat) (h : zz_H) (n : Nat) {r0 : Unit} (hf : f_Jxa1e45_init_da8c8 a0 h = some r0) : zz_M D dA base t0 l yJxa1e45_init_da8c8 cJxa1e45_init_da8c8 1 none rm_Jxa1e45_init_da8c8 [.ref a0] h n none h n := by
  refine Met.ofW (cc := cJxa1e45_init_da8c8) (maxL := 1) (ret := none) (by decide +kernel) rfl ?_
  intro p e s m args below meth c s₁ B hml hv
  obtain ⟨rfl, hP, hK⟩ := hv
  have X : zz_X D dA base t0 "java/util/AbstractCollection" cJxa1e45_init_da8c8 1 none l p s m meth c := ⟨B.exec, B.bytes, hml, B.returns, findClass_of_methodNamed B.named, B.notSynchronized, hT, by rw [hP.1]; exact hP.2.1, hK⟩
  have hx := X.1
  have hb := X.2.1
  have hown := X.2.2.2.2.1
  have hR : zz_R D dA base h n s s.heap [] := ⟨hP, va_S.rf⟩
  have hl := lv_entry ([.ref a0]) (n := 1) (by exact Nat.le_of_ble_eq_true rfl)
  rw [lg_entry_eq]
  generalize (lg_sl ([.ref a0]) ++ List.replicate (1 - (lg_sl ([.ref a0])).length) Slot.unset).toArray = ls at hl ⊢
  have hl : lv_has ls 1 [(0, .ref a0)] := hl
  unfold f_Jxa1e45_init_da8c8 at hf
  refine lv_aload_n hx hb dJxa1e45_init_da8c8_0 rfl (lv_at hl 0 rfl) ?_
  refine zr_obj X hl.1 q_47 q_34 q_35 dJxa1e45_init_da8c8_1 (Nat.le_of_ble_eq_true rfl) ⟨Nat.le_of_ble_eq_true rfl, Nat.le_of_ble_eq_true rfl⟩ ?_
  refine W.eq (g2 := F0 m 4 ls []) rfl ?_
  cases hf
  exact zr_vret X hR dJxa1e45_init_da8c8_4 (Nat.le_of_ble_eq_true rfl) (Nat.le_of_ble_eq_true rfl)
def rm_Jxc12de_init_da8c8 : Room := { frames := 2, cells := 0, slots := 0, locals := 40 }
theorem mf_Jxc12de_init_da8c8 : zz_Mf yJxc12de_init_da8c8 cJxc12de_init_da8c8 1 none 0 := ⟨q_43, q_3, by decide +kernel, by decide +kernel, by decide +kernel⟩
set_option maxHeartbeats 4000000 in
set_option maxRecDepth 100000 in
theorem mt_Jxc12de_init_da8c8 {D : va_G} {dA : Nat → ClassId} {base t0 : Nat} {l : Launch} (hT : l.stackTraces = false) (a0 : Nat) (h : zz_H) (n : Nat) {r0 : Unit} {hF : zz_H} (hf : f_Jxc12de_init_da8c8 a0 h = some (r0, hF)) : zz_M D dA base t0 l yJxc12de_init_da8c8 cJxc12de_init_da8c8 1 none rm_Jxc12de_init_da8c8 [.ref a0] h n none hF n := by
  refine Met.ofW (cc := cJxc12de_init_da8c8) (maxL := 1) (ret := none) (by decide +kernel) rfl ?_
  intro p e s m args below meth c s₁ B hml hv
  obtain ⟨rfl, hP, hK⟩ := hv
  have X : zz_X D dA base t0 "java/util/AbstractList" cJxc12de_init_da8c8 1 none l p s m meth c := ⟨B.exec, B.bytes, hml, B.returns, findClass_of_methodNamed B.named, B.notSynchronized, hT, by rw [hP.1]; exact hP.2.1, hK⟩
  have hx := X.1
  have hb := X.2.1
  have hown := X.2.2.2.2.1
  have hR : zz_R D dA base h n s s.heap [] := ⟨hP, va_S.rf⟩
  have hl := lv_entry ([.ref a0]) (n := 1) (by exact Nat.le_of_ble_eq_true rfl)
  rw [lg_entry_eq]
  generalize (lg_sl ([.ref a0]) ++ List.replicate (1 - (lg_sl ([.ref a0])).length) Slot.unset).toArray = ls at hl ⊢
  have hl : lv_has ls 1 [(0, .ref a0)] := hl
  unfold f_Jxc12de_init_da8c8 at hf
  refine lv_aload_n hx hb dJxc12de_init_da8c8_0 rfl (lv_at hl 0 rfl) ?_
  obtain ⟨u1, hv1, hf⟩ := zz_b_i hf
  refine zr_cI X hR hl.1 (As := []) (rest := []) (mt_Jxa1e45_init_da8c8 hT a0 h n hv1) mf_Jxa1e45_init_da8c8 rfl q_44 q_45 ⟨Nat.le_of_ble_eq_true rfl, Nat.le_of_ble_eq_true rfl⟩ ⟨Nat.le_of_ble_eq_true rfl, Nat.le_of_ble_eq_true rfl⟩ rfl (Nat.le_of_ble_eq_true rfl) dJxc12de_init_da8c8_1 (fun H locs hR => ?_)
  refine W.eq (g2 := F0 m 4 ls []) rfl ?_
  refine lv_aload_n hx hb dJxc12de_init_da8c8_4 rfl (lv_at hl 0 rfl) ?_
  refine lv_iconst (v := (0 : Int32)) hx hb dJxc12de_init_da8c8_5 (by decide) ?_
  refine zr_p X hR (r := (some a0)) (v := .int (0 : Int32)) fl_Jxc12de_7 rfl dJxc12de_init_da8c8_6 rfl rfl hf (fun h6 H locs hf hR => ?_)
  cases hf
  exact zr_vret X hR dJxc12de_init_da8c8_9 (Nat.le_of_ble_eq_true rfl) (Nat.le_of_ble_eq_true rfl)
def rm_Jx4a65c_init_da8c8 : Room := { frames := 3, cells := 0, slots := 0, locals := 60 }
theorem mf_Jx4a65c_init_da8c8 : zz_Mf yJx4a65c_init_da8c8 cJx4a65c_init_da8c8 1 none 0 := ⟨q_40, q_4, by decide +kernel, by decide +kernel, by decide +kernel⟩
set_option maxHeartbeats 4000000 in
set_option maxRecDepth 100000 in
theorem mt_Jx4a65c_init_da8c8 {D : va_G} {dA : Nat → ClassId} {base t0 : Nat} {l : Launch} (hT : l.stackTraces = false) (a0 : Nat) (h : zz_H) (n : Nat) {r0 : Unit} {hF : zz_H} {nF : Nat} (hf : f_Jx4a65c_init_da8c8 t0 a0 h n = some (r0, hF, nF)) : zz_M D dA base t0 l yJx4a65c_init_da8c8 cJx4a65c_init_da8c8 1 none rm_Jx4a65c_init_da8c8 [.ref a0] h n none hF nF := by
  refine Met.ofW (cc := cJx4a65c_init_da8c8) (maxL := 1) (ret := none) (by decide +kernel) rfl ?_
  intro p e s m args below meth c s₁ B hml hv
  obtain ⟨rfl, hP, hK⟩ := hv
  have X : zz_X D dA base t0 "java/util/ArrayList" cJx4a65c_init_da8c8 1 none l p s m meth c := ⟨B.exec, B.bytes, hml, B.returns, findClass_of_methodNamed B.named, B.notSynchronized, hT, by rw [hP.1]; exact hP.2.1, hK⟩
  have hx := X.1
  have hb := X.2.1
  have hown := X.2.2.2.2.1
  have hR : zz_R D dA base h n s s.heap [] := ⟨hP, va_S.rf⟩
  have hl := lv_entry ([.ref a0]) (n := 1) (by exact Nat.le_of_ble_eq_true rfl)
  rw [lg_entry_eq]
  generalize (lg_sl ([.ref a0]) ++ List.replicate (1 - (lg_sl ([.ref a0])).length) Slot.unset).toArray = ls at hl ⊢
  have hl : lv_has ls 1 [(0, .ref a0)] := hl
  unfold f_Jx4a65c_init_da8c8 at hf
  refine lv_aload_n hx hb dJx4a65c_init_da8c8_0 rfl (lv_at hl 0 rfl) ?_
  obtain ⟨u1, h1, hv1, hf⟩ := zz_b1_i hf
  refine zr_cI X hR hl.1 (As := []) (rest := []) (mt_Jxc12de_init_da8c8 hT a0 h n hv1) mf_Jxc12de_init_da8c8 rfl q_41 q_42 ⟨Nat.le_of_ble_eq_true rfl, Nat.le_of_ble_eq_true rfl⟩ ⟨Nat.le_of_ble_eq_true rfl, Nat.le_of_ble_eq_true rfl⟩ rfl (Nat.le_of_ble_eq_true rfl) dJx4a65c_init_da8c8_1 (fun H locs hR => ?_)
  refine W.eq (g2 := F0 m 4 ls []) rfl ?_
  refine lv_aload_n hx hb dJx4a65c_init_da8c8_4 rfl (lv_at hl 0 rfl) ?_
  refine zr_gets X hR q_48 dJx4a65c_init_da8c8_5 ?_
  refine zr_p X hR (r := (some a0)) (v := .ref t0) fl_Jx4a65c_9 rfl dJx4a65c_init_da8c8_8 (zz_nr rfl (some t0)).1 (zz_nr rfl (some t0)).2 hf (fun h8 H locs hf hR => ?_)
  cases hf
  exact zr_vret X hR dJx4a65c_init_da8c8_11 (Nat.le_of_ble_eq_true rfl) (Nat.le_of_ble_eq_true rfl)
def rm_X2_init : Room := { frames := 4, cells := 1, slots := 3, locals := 80 }
theorem mf_X2_init : zz_Mf yX2_init cX2_init 1 none 0 := ⟨q_552, q_18, by decide +kernel, by decide +kernel, by decide +kernel⟩
set_option maxHeartbeats 4000000 in
set_option maxRecDepth 100000 in
theorem mt_X2_init {D : va_G} {dA : Nat → ClassId} {base t0 : Nat} {l : Launch} (hT : l.stackTraces = false) (a0 : Nat) (h : zz_H) (n : Nat) {r0 : Unit} {hF : zz_H} {nF : Nat} (hf : f_X2_init t0 a0 h n = some (r0, hF, nF)) : zz_M D dA base t0 l yX2_init cX2_init 1 none rm_X2_init [.ref a0] h n none hF nF := by
  refine Met.ofW (cc := cX2_init) (maxL := 1) (ret := none) (by decide +kernel) rfl ?_
  intro p e s m args below meth c s₁ B hml hv
  obtain ⟨rfl, hP, hK⟩ := hv
  have X : zz_X D dA base t0 "Springseat$Filling" cX2_init 1 none l p s m meth c := ⟨B.exec, B.bytes, hml, B.returns, findClass_of_methodNamed B.named, B.notSynchronized, hT, by rw [hP.1]; exact hP.2.1, hK⟩
  have hx := X.1
  have hb := X.2.1
  have hown := X.2.2.2.2.1
  have hin : meth.name = "<init>" := (name_of_methodNamed B.named B.method).1
  have hR : zz_R D dA base h n s s.heap [] := ⟨hP, va_S.rf⟩
  have hl := lv_entry ([.ref a0]) (n := 1) (by exact Nat.le_of_ble_eq_true rfl)
  rw [lg_entry_eq]
  generalize (lg_sl ([.ref a0]) ++ List.replicate (1 - (lg_sl ([.ref a0])).length) Slot.unset).toArray = ls at hl ⊢
  have hl : lv_has ls 1 [(0, .ref a0)] := hl
  unfold f_X2_init at hf
  refine lv_aload_n hx hb dX2_init_0 rfl (lv_at hl 0 rfl) ?_
  refine zr_obj X hl.1 q_553 q_34 q_35 dX2_init_1 (Nat.le_of_ble_eq_true rfl) ⟨Nat.le_of_ble_eq_true rfl, Nat.le_of_ble_eq_true rfl⟩ ?_
  refine W.eq (g2 := F0 m 4 ls []) rfl ?_
  refine lv_aload_n hx hb dX2_init_4 rfl (lv_at hl 0 rfl) ?_
  refine zr_new X hR (fs := [.int 0, .null, .int 0]) zc0 q_554 q_37 q_4 (fun j hj => by rcases (show j = 0 ∨ j = 1 ∨ j = 2 by omega) with rfl | rfl | rfl <;> rfl) (Nat.le_of_ble_eq_true rfl) (Nat.le_of_ble_eq_true rfl) dX2_init_5 (fun H hR => ?_)
  refine W.widen (k := 1) (n := 3) (Nat.le_of_ble_eq_true rfl) (Nat.le_of_ble_eq_true rfl) ?_
  refine lv_dup hx hb dX2_init_8 rfl ?_
  obtain ⟨u9, h9, n9, hv9, hf⟩ := zz_b2_i hf
  refine zr_cI X hR hl.1 (As := []) (rest := [.ref n, .ref a0]) (mt_Jx4a65c_init_da8c8 hT n (zz_u h n (.inr (0, [.int 0, .null, .int 0]))) (n + 1) hv9) mf_Jx4a65c_init_da8c8 rfl q_555 q_39 ⟨Nat.le_of_ble_eq_true rfl, Nat.le_of_ble_eq_true rfl⟩ ⟨Nat.le_of_ble_eq_true rfl, Nat.le_of_ble_eq_true rfl⟩ rfl (Nat.le_of_ble_eq_true rfl) dX2_init_9 (fun H locs hR => ?_)
  refine W.eq (g2 := F0 m 12 ls [.ref n, .ref a0]) rfl ?_
  refine zr_pF X hR (r := (some a0)) (v := .ref n) fl_X2_12 rfl hin rfl dX2_init_12 (zz_nr rfl (some n)).1 (zz_nr rfl (some n)).2 hf (fun h12 H locs hf hR => ?_)
  cases hf
  exact zr_vret X hR dX2_init_15 (Nat.le_of_ble_eq_true rfl) (Nat.le_of_ble_eq_true rfl)
def rm_Jx4a65c_size_8abf5 : Room := { frames := 0, cells := 0, slots := 0, locals := 0 }
theorem mf_Jx4a65c_size_8abf5 : zz_Mf yJx4a65c_size_8abf5 cJx4a65c_size_8abf5 1 (some .int) 0 := ⟨q_179, q_4, by decide +kernel, by decide +kernel, by decide +kernel⟩
set_option maxHeartbeats 4000000 in
set_option maxRecDepth 100000 in
theorem mt_Jx4a65c_size_8abf5 {D : va_G} {dA : Nat → ClassId} {base t0 : Nat} {l : Launch} (hT : l.stackTraces = false) (a0 : Nat) (h : zz_H) (n : Nat) {r0 : Int32} (hf : f_Jx4a65c_size_8abf5 a0 h = some r0) : zz_M D dA base t0 l yJx4a65c_size_8abf5 cJx4a65c_size_8abf5 1 (some .int) rm_Jx4a65c_size_8abf5 [.ref a0] h n (some (.int r0)) h n := by
  refine Met.ofW (cc := cJx4a65c_size_8abf5) (maxL := 1) (ret := (some .int)) (by decide +kernel) rfl ?_
  intro p e s m args below meth c s₁ B hml hv
  obtain ⟨rfl, hP, hK⟩ := hv
  have X : zz_X D dA base t0 "java/util/ArrayList" cJx4a65c_size_8abf5 1 (some .int) l p s m meth c := ⟨B.exec, B.bytes, hml, B.returns, findClass_of_methodNamed B.named, B.notSynchronized, hT, by rw [hP.1]; exact hP.2.1, hK⟩
  have hx := X.1
  have hb := X.2.1
  have hown := X.2.2.2.2.1
  have hR : zz_R D dA base h n s s.heap [] := ⟨hP, va_S.rf⟩
  have hl := lv_entry ([.ref a0]) (n := 1) (by exact Nat.le_of_ble_eq_true rfl)
  rw [lg_entry_eq]
  generalize (lg_sl ([.ref a0]) ++ List.replicate (1 - (lg_sl ([.ref a0])).length) Slot.unset).toArray = ls at hl ⊢
  have hl : lv_has ls 1 [(0, .ref a0)] := hl
  unfold f_Jx4a65c_size_8abf5 at hf
  refine lv_aload_n hx hb dJx4a65c_size_8abf5_0 rfl (lv_at hl 0 rfl) ?_
  refine zr_gi X hR (r := (some a0)) fl_Jx4a65c_48 dJx4a65c_size_8abf5_1 hf (fun v1 hf => ?_)
  cases hf
  exact zr_iret X hR dJx4a65c_size_8abf5_4 (Nat.le_of_ble_eq_true rfl) (Nat.le_of_ble_eq_true rfl)
def rm_X2_count : Room := { frames := 1, cells := 0, slots := 0, locals := 20 }
theorem mf_X2_count : zz_Mf yX2_count cX2_count 1 (some .int) 0 := ⟨q_877, q_18, by decide +kernel, by decide +kernel, by decide +kernel⟩
set_option maxHeartbeats 4000000 in
set_option maxRecDepth 100000 in
theorem mt_X2_count {D : va_G} {dA : Nat → ClassId} {base t0 : Nat} {l : Launch} (hT : l.stackTraces = false) (a0 : Nat) (h : zz_H) (n : Nat) {r0 : Int32} (hf : f_X2_count a0 h = some r0) : zz_M D dA base t0 l yX2_count cX2_count 1 (some .int) rm_X2_count [.ref a0] h n (some (.int r0)) h n := by
  refine Met.ofW (cc := cX2_count) (maxL := 1) (ret := (some .int)) (by decide +kernel) rfl ?_
  intro p e s m args below meth c s₁ B hml hv
  obtain ⟨rfl, hP, hK⟩ := hv
  have X : zz_X D dA base t0 "Springseat$Filling" cX2_count 1 (some .int) l p s m meth c := ⟨B.exec, B.bytes, hml, B.returns, findClass_of_methodNamed B.named, B.notSynchronized, hT, by rw [hP.1]; exact hP.2.1, hK⟩
  have hx := X.1
  have hb := X.2.1
  have hown := X.2.2.2.2.1
  have hR : zz_R D dA base h n s s.heap [] := ⟨hP, va_S.rf⟩
  have hl := lv_entry ([.ref a0]) (n := 1) (by exact Nat.le_of_ble_eq_true rfl)
  rw [lg_entry_eq]
  generalize (lg_sl ([.ref a0]) ++ List.replicate (1 - (lg_sl ([.ref a0])).length) Slot.unset).toArray = ls at hl ⊢
  have hl : lv_has ls 1 [(0, .ref a0)] := hl
  unfold f_X2_count at hf
  refine lv_aload_n hx hb dX2_count_0 rfl (lv_at hl 0 rfl) ?_
  refine zr_gq X hR (r := (some a0)) fl_X2_12 dX2_count_1 hf (fun v1 hf => ?_)
  obtain ⟨b4, fs4, hr4, ho4, hf⟩ := zz_ob_i hf
  obtain ⟨v4, hv4, hf⟩ := zz_b_i hf
  refine zr_cV X hR hl.1 (As := []) (rest := []) (C := RJx4a65c) (T := TJx4a65c) (N := 3) (mt_Jx4a65c_size_8abf5 hT b4 h n hv4) rfl ho4 mf_Jx4a65c_size_8abf5 q_352 q_177 q_178 ⟨Nat.le_of_ble_eq_true rfl, Nat.le_of_ble_eq_true rfl⟩ ⟨Nat.le_of_ble_eq_true rfl, Nat.le_of_ble_eq_true rfl⟩ (by rw [hr4]; rfl) (Nat.le_of_ble_eq_true rfl) dX2_count_4 (fun H locs hR => ?_)
  refine W.eq (g2 := F0 m 7 ls [.int v4]) rfl ?_
  cases hf
  exact zr_iret X hR dX2_count_7 (Nat.le_of_ble_eq_true rfl) (Nat.le_of_ble_eq_true rfl)
def rm_Jx4a65c_grow_92f84 : Room := { frames := 1, cells := 1, slots := 10, locals := 21 }
theorem mf_Jx4a65c_grow_92f84 : zz_Mf yJx4a65c_grow_92f84 cJx4a65c_grow_92f84 4 (some (.array (.object "java/lang/Object"))) 1 := ⟨q_101, q_4, by decide +kernel, by decide +kernel, by decide +kernel⟩
set_option maxHeartbeats 4000000 in
set_option maxRecDepth 100000 in
theorem bk_Jx4a65c_grow_92f84_20 {D : va_G} {dA : Nat → ClassId} {base t0 : Nat} {l : Launch} {p : Program} {e : Env} {s : State} {m : MethodId} {args : Array Value} {below : List Frame} {meth : Method} {c : Code} (X : zz_X D dA base t0 "java/util/ArrayList" cJx4a65c_grow_92f84 4 (some (.array (.object "java/lang/Object"))) l p s m meth c) (hT : l.stackTraces = false) {x1 : Int32} {x2 : Int32} {h : zz_H} {n : Nat} {H : Heap} {locs : List Loc} {ls : Array Slot} (hR : zz_R D dA base h n s H locs) (hl : lv_has ls 4 [(1, .int x1), (2, .int x2)]) {r0 : (Option Nat)} {hF : zz_H} {nF : Nat} (hf : f_Jx4a65c_grow_92f84_20 t0 x1 x2 h n = some (r0, hF, nF)) : W p l e rm_Jx4a65c_grow_92f84 s m args below meth c H locs 0 0 (MQ below (zz_Qc D dA base (some (va_rf r0)) hF nF) args s rm_Jx4a65c_grow_92f84.cells rm_Jx4a65c_grow_92f84.slots (fun q => base ≤ q)) (F0 m 20 ls []) := by
  have hx := X.1
  have hb := X.2.1
  have hown := X.2.2.2.2.1
  unfold f_Jx4a65c_grow_92f84_20 at hf
  refine lv_iload_n hx hb dJx4a65c_grow_92f84_20 rfl (lv_at hl 1 rfl) ?_
  refine lv_iload_n hx hb dJx4a65c_grow_92f84_21 rfl (lv_at hl 0 rfl) ?_
  refine lv_iload_n hx hb dJx4a65c_grow_92f84_22 rfl (lv_at hl 1 rfl) ?_
  refine lv_isub hx hb dJx4a65c_grow_92f84_23 ?_
  refine lv_iload_n hx hb dJx4a65c_grow_92f84_24 rfl (lv_at hl 1 rfl) ?_
  refine lv_iconst (v := (1 : Int32)) hx hb dJx4a65c_grow_92f84_25 (by decide) ?_
  refine lv_ishr hx hb dJx4a65c_grow_92f84_26 ?_
  cases hf
set_option maxHeartbeats 4000000 in
set_option maxRecDepth 100000 in
theorem mt_Jx4a65c_grow_92f84 {D : va_G} {dA : Nat → ClassId} {base t0 : Nat} {l : Launch} (hT : l.stackTraces = false) (a0 : Nat) (x1 : Int32) (h : zz_H) (n : Nat) {r0 : (Option Nat)} {hF : zz_H} {nF : Nat} (hf : f_Jx4a65c_grow_92f84 t0 a0 x1 h n = some (r0, hF, nF)) : zz_M D dA base t0 l yJx4a65c_grow_92f84 cJx4a65c_grow_92f84 4 (some (.array (.object "java/lang/Object"))) rm_Jx4a65c_grow_92f84 [.ref a0, .int x1] h n (some (va_rf r0)) hF nF := by
  refine Met.ofW (cc := cJx4a65c_grow_92f84) (maxL := 4) (ret := (some (.array (.object "java/lang/Object")))) (by decide +kernel) rfl ?_
  intro p e s m args below meth c s₁ B hml hv
  obtain ⟨rfl, hP, hK⟩ := hv
  have X : zz_X D dA base t0 "java/util/ArrayList" cJx4a65c_grow_92f84 4 (some (.array (.object "java/lang/Object"))) l p s m meth c := ⟨B.exec, B.bytes, hml, B.returns, findClass_of_methodNamed B.named, B.notSynchronized, hT, by rw [hP.1]; exact hP.2.1, hK⟩
  have hx := X.1
  have hb := X.2.1
  have hown := X.2.2.2.2.1
  have hR : zz_R D dA base h n s s.heap [] := ⟨hP, va_S.rf⟩
  have hl := lv_entry ([.ref a0, .int x1]) (n := 4) (by exact Nat.le_of_ble_eq_true rfl)
  rw [lg_entry_eq]
  generalize (lg_sl ([.ref a0, .int x1]) ++ List.replicate (4 - (lg_sl ([.ref a0, .int x1])).length) Slot.unset).toArray = ls at hl ⊢
  have hl : lv_has ls 4 [(0, .ref a0), (1, .int x1)] := hl
  unfold f_Jx4a65c_grow_92f84 at hf
  refine lv_aload_n hx hb dJx4a65c_grow_92f84_0 rfl (lv_at hl 0 rfl) ?_
  refine zr_gq X hR (r := (some a0)) fl_Jx4a65c_9 dJx4a65c_grow_92f84_1 hf (fun v1 hf => ?_)
  refine zr_alen X hR (r := v1) dJx4a65c_grow_92f84_4 hf (fun v4 hf => ?_)
  refine lv_istore_n (i := 2) (lv' := [(2, .int v4), (0, .ref a0), (1, .int x1)]) hx hb dJx4a65c_grow_92f84_5 rfl hl (by decide) rfl (fun ls hl => ?_)
  refine lv_iload_n hx hb dJx4a65c_grow_92f84_6 rfl (lv_at hl 0 rfl) ?_
  refine lv_if_gt (tgt := 20) hx hb dJx4a65c_grow_92f84_7 (by decide) (fun c7 => ?_) (fun c7 => ?_)
  · replace hf := zz_pos c7 hf
    exact bk_Jx4a65c_grow_92f84_20 X hT hR (lv_sub hl [2, 0] rfl) hf
  · replace hf := zz_neg c7 hf
    refine lv_aload_n hx hb dJx4a65c_grow_92f84_10 rfl (lv_at hl 1 rfl) ?_
    refine zr_gq X hR (r := (some a0)) fl_Jx4a65c_9 dJx4a65c_grow_92f84_11 hf (fun v11 hf => ?_)
    refine zr_gets X hR q_48 dJx4a65c_grow_92f84_14 ?_
    refine lv_acmp_eq (rx := v11) (ry := (some t0)) (tgt := 45) hx hb dJx4a65c_grow_92f84_17 (by decide) (fun c17 => ?_) (fun c17 => ?_)
    · replace hf := zz_pos c17 hf
      refine lv_aload_n hx hb dJx4a65c_grow_92f84_45 rfl (lv_at hl 1 rfl) ?_
      refine lv_bipush (v := (10 : Int32)) hx hb dJx4a65c_grow_92f84_46 (by decide) ?_
      refine lv_iload_n hx hb dJx4a65c_grow_92f84_48 rfl (lv_at hl 2 rfl) ?_
      refine zr_max X hl.1 q_147 q_106 q_8 q_107 (Nat.le_of_ble_eq_true rfl) ⟨Nat.le_of_ble_eq_true rfl, Nat.le_of_ble_eq_true rfl⟩ ⟨Nat.le_of_ble_eq_true rfl, Nat.le_of_ble_eq_true rfl⟩ dJx4a65c_grow_92f84_49 ?_
      refine W.eq (g2 := F0 m 52 ls [.int (zz_max (10 : Int32) x1), .ref a0]) rfl ?_
      by_cases c52 : (zz_max (10 : Int32) x1) = (10 : Int32)
      · replace hf := zz_pos c52 hf
        refine zr_anew X hR (N := 10) q_148 (by rw [c52]; decide) (by rw [c52]; decide) (Nat.le_of_ble_eq_true rfl) (Nat.le_of_ble_eq_true rfl) (Nat.le_of_ble_eq_true rfl) dJx4a65c_grow_92f84_52 (fun H hR => ?_)
        refine W.widen (k := 1) (n := 10) (Nat.le_of_ble_eq_true rfl) (Nat.le_of_ble_eq_true rfl) ?_
        refine lv_dup_x1 hx hb dJx4a65c_grow_92f84_55 rfl rfl ?_
        refine zr_p X hR (r := (some a0)) (v := .ref n) fl_Jx4a65c_9 rfl dJx4a65c_grow_92f84_56 (zz_nr rfl (some n)).1 (zz_nr rfl (some n)).2 hf (fun h56 H locs hf hR => ?_)
        cases hf
        exact zr_aret (Or.inr ⟨_, rfl⟩) X hR (r := _) dJx4a65c_grow_92f84_59 (Nat.le_of_ble_eq_true rfl) (Nat.le_of_ble_eq_true rfl)
      · replace hf := zz_neg c52 hf
        cases hf
    · replace hf := zz_neg c17 hf
      exact bk_Jx4a65c_grow_92f84_20 X hT hR (lv_sub hl [2, 0] rfl) hf
def rm_Jx4a65c_grow_d5877 : Room := { frames := 2, cells := 1, slots := 10, locals := 44 }
theorem mf_Jx4a65c_grow_d5877 : zz_Mf yJx4a65c_grow_d5877 cJx4a65c_grow_d5877 1 (some (.array (.object "java/lang/Object"))) 0 := ⟨q_97, q_4, by decide +kernel, by decide +kernel, by decide +kernel⟩
set_option maxHeartbeats 4000000 in
set_option maxRecDepth 100000 in
theorem mt_Jx4a65c_grow_d5877 {D : va_G} {dA : Nat → ClassId} {base t0 : Nat} {l : Launch} (hT : l.stackTraces = false) (a0 : Nat) (h : zz_H) (n : Nat) {r0 : (Option Nat)} {hF : zz_H} {nF : Nat} (hf : f_Jx4a65c_grow_d5877 t0 a0 h n = some (r0, hF, nF)) : zz_M D dA base t0 l yJx4a65c_grow_d5877 cJx4a65c_grow_d5877 1 (some (.array (.object "java/lang/Object"))) rm_Jx4a65c_grow_d5877 [.ref a0] h n (some (va_rf r0)) hF nF := by
  refine Met.ofW (cc := cJx4a65c_grow_d5877) (maxL := 1) (ret := (some (.array (.object "java/lang/Object")))) (by decide +kernel) rfl ?_
  intro p e s m args below meth c s₁ B hml hv
  obtain ⟨rfl, hP, hK⟩ := hv
  have X : zz_X D dA base t0 "java/util/ArrayList" cJx4a65c_grow_d5877 1 (some (.array (.object "java/lang/Object"))) l p s m meth c := ⟨B.exec, B.bytes, hml, B.returns, findClass_of_methodNamed B.named, B.notSynchronized, hT, by rw [hP.1]; exact hP.2.1, hK⟩
  have hx := X.1
  have hb := X.2.1
  have hown := X.2.2.2.2.1
  have hR : zz_R D dA base h n s s.heap [] := ⟨hP, va_S.rf⟩
  have hl := lv_entry ([.ref a0]) (n := 1) (by exact Nat.le_of_ble_eq_true rfl)
  rw [lg_entry_eq]
  generalize (lg_sl ([.ref a0]) ++ List.replicate (1 - (lg_sl ([.ref a0])).length) Slot.unset).toArray = ls at hl ⊢
  have hl : lv_has ls 1 [(0, .ref a0)] := hl
  unfold f_Jx4a65c_grow_d5877 at hf
  refine lv_aload_n hx hb dJx4a65c_grow_d5877_0 rfl (lv_at hl 0 rfl) ?_
  refine lv_aload_n hx hb dJx4a65c_grow_d5877_1 rfl (lv_at hl 0 rfl) ?_
  refine zr_gi X hR (r := (some a0)) fl_Jx4a65c_48 dJx4a65c_grow_d5877_2 hf (fun v2 hf => ?_)
  refine lv_iconst (v := (1 : Int32)) hx hb dJx4a65c_grow_d5877_5 (by decide) ?_
  refine lv_iadd hx hb dJx4a65c_grow_d5877_6 ?_
  obtain ⟨fs7, ho7, hf⟩ := zz_obS_i hf
  obtain ⟨v7, h7, n7, hv7, hf⟩ := zz_b2_i hf
  refine zr_cV X hR hl.1 (As := [.int (v2 + (1 : Int32))]) (rest := []) (C := RJx4a65c) (T := TJx4a65c) (N := 3) (mt_Jx4a65c_grow_92f84 hT a0 (v2 + (1 : Int32)) h n hv7) rfl ho7 mf_Jx4a65c_grow_92f84 q_98 q_100 qs_2 ⟨Nat.le_of_ble_eq_true rfl, Nat.le_of_ble_eq_true rfl⟩ ⟨Nat.le_of_ble_eq_true rfl, Nat.le_of_ble_eq_true rfl⟩ rfl (Nat.le_of_ble_eq_true rfl) dJx4a65c_grow_d5877_7 (fun H locs hR => ?_)
  refine W.eq (g2 := F0 m 10 ls [va_rf v7]) rfl ?_
  refine W.widen (k := 1) (n := 10) (Nat.le_of_ble_eq_true rfl) (Nat.le_of_ble_eq_true rfl) ?_
  cases hf
  exact zr_aret (Or.inr ⟨_, rfl⟩) X hR (r := _) dJx4a65c_grow_d5877_10 (Nat.le_of_ble_eq_true rfl) (Nat.le_of_ble_eq_true rfl)
def rm_Jx4a65c_add_72be8 : Room := { frames := 3, cells := 1, slots := 10, locals := 64 }
theorem mf_Jx4a65c_add_72be8 : zz_Mf yJx4a65c_add_72be8 cJx4a65c_add_72be8 4 none 3 := ⟨q_93, q_4, by decide +kernel, by decide +kernel, by decide +kernel⟩
set_option maxHeartbeats 4000000 in
set_option maxRecDepth 100000 in
theorem bk_Jx4a65c_add_72be8_11 {D : va_G} {dA : Nat → ClassId} {base t0 : Nat} {l : Launch} {p : Program} {e : Env} {s : State} {m : MethodId} {args : Array Value} {below : List Frame} {meth : Method} {c : Code} (X : zz_X D dA base t0 "java/util/ArrayList" cJx4a65c_add_72be8 4 none l p s m meth c) (hT : l.stackTraces = false) {a0 : Nat} {x1 : (Option Nat)} {x2 : (Option Nat)} {x3 : Int32} {h : zz_H} {n : Nat} {H : Heap} {locs : List Loc} {ls : Array Slot} (hR : zz_R D dA base h n s H locs) (hl : lv_has ls 4 [(0, .ref a0), (1, va_rf x1), (2, va_rf x2), (3, .int x3)]) {r0 : Unit} {hF : zz_H} {nF : Nat} (hf : f_Jx4a65c_add_72be8_11 t0 a0 x1 x2 x3 h n = some (r0, hF, nF)) : W p l e rm_Jx4a65c_add_72be8 s m args below meth c H locs 1 10 (MQ below (zz_Qc D dA base none hF nF) args s rm_Jx4a65c_add_72be8.cells rm_Jx4a65c_add_72be8.slots (fun q => base ≤ q)) (F0 m 11 ls []) := by
  have hx := X.1
  have hb := X.2.1
  have hown := X.2.2.2.2.1
  unfold f_Jx4a65c_add_72be8_11 at hf
  refine zr_aload_n hx hb dJx4a65c_add_72be8_11 rfl (lv_at hl 2 rfl) ?_
  refine lv_iload_n hx hb dJx4a65c_add_72be8_12 rfl (lv_at hl 3 rfl) ?_
  refine zr_aload_n hx hb dJx4a65c_add_72be8_13 rfl (lv_at hl 1 rfl) ?_
  refine zr_aast X hR (r := x2) (x := x1) dJx4a65c_add_72be8_14 hf (fun h14 H locs hf hR => ?_)
  refine lv_aload_n hx hb dJx4a65c_add_72be8_15 rfl (lv_at hl 0 rfl) ?_
  refine lv_iload_n hx hb dJx4a65c_add_72be8_16 rfl (lv_at hl 3 rfl) ?_
  refine lv_iconst (v := (1 : Int32)) hx hb dJx4a65c_add_72be8_17 (by decide) ?_
  refine lv_iadd hx hb dJx4a65c_add_72be8_18 ?_
  refine zr_p X hR (r := (some a0)) (v := .int (x3 + (1 : Int32))) fl_Jx4a65c_48 rfl dJx4a65c_add_72be8_19 rfl rfl hf (fun h19 H locs hf hR => ?_)
  cases hf
  exact zr_vret X hR dJx4a65c_add_72be8_22 (Nat.le_of_ble_eq_true rfl) (Nat.le_of_ble_eq_true rfl)
set_option maxHeartbeats 4000000 in
set_option maxRecDepth 100000 in
theorem mt_Jx4a65c_add_72be8 {D : va_G} {dA : Nat → ClassId} {base t0 : Nat} {l : Launch} (hT : l.stackTraces = false) (a0 : Nat) (x1 : (Option Nat)) (x2 : (Option Nat)) (x3 : Int32) (h : zz_H) (n : Nat) {r0 : Unit} {hF : zz_H} {nF : Nat} (hf : f_Jx4a65c_add_72be8 t0 a0 x1 x2 x3 h n = some (r0, hF, nF)) : zz_M D dA base t0 l yJx4a65c_add_72be8 cJx4a65c_add_72be8 4 none rm_Jx4a65c_add_72be8 [.ref a0, va_rf x1, va_rf x2, .int x3] h n none hF nF := by
  refine Met.ofW (cc := cJx4a65c_add_72be8) (maxL := 4) (ret := none) (by decide +kernel) rfl ?_
  intro p e s m args below meth c s₁ B hml hv
  obtain ⟨rfl, hP, hK⟩ := hv
  have X : zz_X D dA base t0 "java/util/ArrayList" cJx4a65c_add_72be8 4 none l p s m meth c := ⟨B.exec, B.bytes, hml, B.returns, findClass_of_methodNamed B.named, B.notSynchronized, hT, by rw [hP.1]; exact hP.2.1, hK⟩
  have hx := X.1
  have hb := X.2.1
  have hown := X.2.2.2.2.1
  have hR : zz_R D dA base h n s s.heap [] := ⟨hP, va_S.rf⟩
  have hl := lv_entry ([.ref a0, va_rf x1, va_rf x2, .int x3]) (n := 4) (by cases x1 <;> cases x2 <;> exact Nat.le_of_ble_eq_true rfl)
  rw [lg_entry_eq]
  generalize (lg_sl ([.ref a0, va_rf x1, va_rf x2, .int x3]) ++ List.replicate (4 - (lg_sl ([.ref a0, va_rf x1, va_rf x2, .int x3])).length) Slot.unset).toArray = ls at hl ⊢
  have hl : lv_has ls 4 [(0, .ref a0), (1, va_rf x1), (2, va_rf x2), (3, .int x3)] := by rw [show ([(0, .ref a0), (1, va_rf x1), (2, va_rf x2), (3, .int x3)] : List (Nat × Value)) = lv_args 0 [.ref a0, va_rf x1, va_rf x2, .int x3] from by cases x1 <;> cases x2 <;> rfl]; exact hl
  unfold f_Jx4a65c_add_72be8 at hf
  refine lv_iload_n hx hb dJx4a65c_add_72be8_0 rfl (lv_at hl 3 rfl) ?_
  refine zr_aload_n hx hb dJx4a65c_add_72be8_1 rfl (lv_at hl 2 rfl) ?_
  refine zr_alen X hR (r := x2) dJx4a65c_add_72be8_2 hf (fun v2 hf => ?_)
  refine lv_icmp_ne (tgt := 11) hx hb dJx4a65c_add_72be8_3 (by decide) (fun c3 => ?_) (fun c3 => ?_)
  · replace hf := zz_neg c3 hf
    refine W.widen (k := 1) (n := 10) (Nat.le_of_ble_eq_true rfl) (Nat.le_of_ble_eq_true rfl) ?_
    exact bk_Jx4a65c_add_72be8_11 X hT hR (lv_sub hl [0, 1, 2, 3] rfl) hf
  · replace hf := zz_pos c3 hf
    refine lv_aload_n hx hb dJx4a65c_add_72be8_6 rfl (lv_at hl 0 rfl) ?_
    obtain ⟨fs7, ho7, hf⟩ := zz_obS_i hf
    obtain ⟨v7, h7, n7, hv7, hf⟩ := zz_b2_i hf
    refine zr_cV X hR hl.1 (As := []) (rest := []) (C := RJx4a65c) (T := TJx4a65c) (N := 3) (mt_Jx4a65c_grow_d5877 hT a0 h n hv7) rfl ho7 mf_Jx4a65c_grow_d5877 q_94 q_96 qs_1 ⟨Nat.le_of_ble_eq_true rfl, Nat.le_of_ble_eq_true rfl⟩ ⟨Nat.le_of_ble_eq_true rfl, Nat.le_of_ble_eq_true rfl⟩ rfl (Nat.le_of_ble_eq_true rfl) dJx4a65c_add_72be8_7 (fun H locs hR => ?_)
    refine W.eq (g2 := F0 m 10 ls [va_rf v7]) rfl ?_
    refine W.widen (k := 1) (n := 10) (Nat.le_of_ble_eq_true rfl) (Nat.le_of_ble_eq_true rfl) ?_
    refine zr_astore_n (i := 2) (lv' := [(2, va_rf v7), (0, .ref a0), (1, va_rf x1), (3, .int x3)]) hx hb dJx4a65c_add_72be8_10 rfl hl (by decide) (by simp [zz_cat, zz_catI, zz_catR, zz_catJ, zz_catF, zz_catD]) (fun ls hl => ?_)
    exact bk_Jx4a65c_add_72be8_11 X hT hR (lv_sub hl [1, 2, 0, 3] rfl) hf
def rm_Jx4a65c_add_9ea2d : Room := { frames := 4, cells := 1, slots := 10, locals := 87 }
theorem mf_Jx4a65c_add_9ea2d : zz_Mf yJx4a65c_add_9ea2d cJx4a65c_add_9ea2d 2 (some .boolean) 1 := ⟨q_89, q_4, by decide +kernel, by decide +kernel, by decide +kernel⟩
set_option maxHeartbeats 4000000 in
set_option maxRecDepth 100000 in
theorem mt_Jx4a65c_add_9ea2d {D : va_G} {dA : Nat → ClassId} {base t0 : Nat} {l : Launch} (hT : l.stackTraces = false) (a0 : Nat) (x1 : (Option Nat)) (h : zz_H) (n : Nat) {r0 : Int32} {hF : zz_H} {nF : Nat} (hf : f_Jx4a65c_add_9ea2d t0 a0 x1 h n = some (r0, hF, nF)) : zz_M D dA base t0 l yJx4a65c_add_9ea2d cJx4a65c_add_9ea2d 2 (some .boolean) rm_Jx4a65c_add_9ea2d [.ref a0, va_rf x1] h n (some (.int r0)) hF nF := by
  refine Met.ofW (cc := cJx4a65c_add_9ea2d) (maxL := 2) (ret := (some .boolean)) (by decide +kernel) rfl ?_
  intro p e s m args below meth c s₁ B hml hv
  obtain ⟨rfl, hP, hK⟩ := hv
  have X : zz_X D dA base t0 "java/util/ArrayList" cJx4a65c_add_9ea2d 2 (some .boolean) l p s m meth c := ⟨B.exec, B.bytes, hml, B.returns, findClass_of_methodNamed B.named, B.notSynchronized, hT, by rw [hP.1]; exact hP.2.1, hK⟩
  have hx := X.1
  have hb := X.2.1
  have hown := X.2.2.2.2.1
  have hR : zz_R D dA base h n s s.heap [] := ⟨hP, va_S.rf⟩
  have hl := lv_entry ([.ref a0, va_rf x1]) (n := 2) (by cases x1 <;> exact Nat.le_of_ble_eq_true rfl)
  rw [lg_entry_eq]
  generalize (lg_sl ([.ref a0, va_rf x1]) ++ List.replicate (2 - (lg_sl ([.ref a0, va_rf x1])).length) Slot.unset).toArray = ls at hl ⊢
  have hl : lv_has ls 2 [(0, .ref a0), (1, va_rf x1)] := by rw [show ([(0, .ref a0), (1, va_rf x1)] : List (Nat × Value)) = lv_args 0 [.ref a0, va_rf x1] from by cases x1 <;> rfl]; exact hl
  unfold f_Jx4a65c_add_9ea2d at hf
  refine lv_aload_n hx hb dJx4a65c_add_9ea2d_0 rfl (lv_at hl 0 rfl) ?_
  refine lv_dup hx hb dJx4a65c_add_9ea2d_1 rfl ?_
  refine zr_gi X hR (r := (some a0)) fl_Jx4a65c_63 dJx4a65c_add_9ea2d_2 hf (fun v2 hf => ?_)
  refine lv_iconst (v := (1 : Int32)) hx hb dJx4a65c_add_9ea2d_5 (by decide) ?_
  refine lv_iadd hx hb dJx4a65c_add_9ea2d_6 ?_
  refine zr_p X hR (r := (some a0)) (v := .int (v2 + (1 : Int32))) fl_Jx4a65c_63 rfl dJx4a65c_add_9ea2d_7 rfl rfl hf (fun h7 H locs hf hR => ?_)
  refine lv_aload_n hx hb dJx4a65c_add_9ea2d_10 rfl (lv_at hl 0 rfl) ?_
  refine zr_aload_n hx hb dJx4a65c_add_9ea2d_11 rfl (lv_at hl 1 rfl) ?_
  refine lv_aload_n hx hb dJx4a65c_add_9ea2d_12 rfl (lv_at hl 0 rfl) ?_
  refine zr_gq X hR (r := (some a0)) fl_Jx4a65c_9 dJx4a65c_add_9ea2d_13 hf (fun v13 hf => ?_)
  refine lv_aload_n hx hb dJx4a65c_add_9ea2d_16 rfl (lv_at hl 0 rfl) ?_
  refine zr_gi X hR (r := (some a0)) fl_Jx4a65c_48 dJx4a65c_add_9ea2d_17 hf (fun v17 hf => ?_)
  obtain ⟨fs20, ho20, hf⟩ := zz_obS_i hf
  obtain ⟨u20, h20, n20, hv20, hf⟩ := zz_b2_i hf
  refine zr_cV X hR hl.1 (As := [va_rf x1, va_rf v13, .int v17]) (rest := []) (C := RJx4a65c) (T := TJx4a65c) (N := 3) (mt_Jx4a65c_add_72be8 hT a0 x1 v13 v17 h7 n hv20) rfl ho20 mf_Jx4a65c_add_72be8 q_90 q_92 qs_0 ⟨Nat.le_of_ble_eq_true rfl, Nat.le_of_ble_eq_true rfl⟩ ⟨Nat.le_of_ble_eq_true rfl, Nat.le_of_ble_eq_true rfl⟩ rfl (Nat.le_of_ble_eq_true rfl) dJx4a65c_add_9ea2d_20 (fun H locs hR => ?_)
  refine W.eq (g2 := F0 m 23 ls []) rfl ?_
  refine W.widen (k := 1) (n := 10) (Nat.le_of_ble_eq_true rfl) (Nat.le_of_ble_eq_true rfl) ?_
  refine lv_iconst (v := (1 : Int32)) hx hb dJx4a65c_add_9ea2d_23 (by decide) ?_
  cases hf
  exact zr_zret X hR (v := (1 : Int32)) rfl dJx4a65c_add_9ea2d_24 (Nat.le_of_ble_eq_true rfl) (Nat.le_of_ble_eq_true rfl)
def rm_X2_add : Room := { frames := 5, cells := 1, slots := 10, locals := 108 }
theorem mf_X2_add : zz_Mf yX2_add cX2_add 2 none 1 := ⟨q_789, q_18, by decide +kernel, by decide +kernel, by decide +kernel⟩
set_option maxHeartbeats 4000000 in
set_option maxRecDepth 100000 in
theorem mt_X2_add {D : va_G} {dA : Nat → ClassId} {base t0 : Nat} {l : Launch} (hT : l.stackTraces = false) (a0 : Nat) (x1 : (Option Nat)) (h : zz_H) (n : Nat) {r0 : Unit} {hF : zz_H} {nF : Nat} (hf : f_X2_add t0 a0 x1 h n = some (r0, hF, nF)) : zz_M D dA base t0 l yX2_add cX2_add 2 none rm_X2_add [.ref a0, va_rf x1] h n none hF nF := by
  refine Met.ofW (cc := cX2_add) (maxL := 2) (ret := none) (by decide +kernel) rfl ?_
  intro p e s m args below meth c s₁ B hml hv
  obtain ⟨rfl, hP, hK⟩ := hv
  have X : zz_X D dA base t0 "Springseat$Filling" cX2_add 2 none l p s m meth c := ⟨B.exec, B.bytes, hml, B.returns, findClass_of_methodNamed B.named, B.notSynchronized, hT, by rw [hP.1]; exact hP.2.1, hK⟩
  have hx := X.1
  have hb := X.2.1
  have hown := X.2.2.2.2.1
  have hR : zz_R D dA base h n s s.heap [] := ⟨hP, va_S.rf⟩
  have hl := lv_entry ([.ref a0, va_rf x1]) (n := 2) (by cases x1 <;> exact Nat.le_of_ble_eq_true rfl)
  rw [lg_entry_eq]
  generalize (lg_sl ([.ref a0, va_rf x1]) ++ List.replicate (2 - (lg_sl ([.ref a0, va_rf x1])).length) Slot.unset).toArray = ls at hl ⊢
  have hl : lv_has ls 2 [(0, .ref a0), (1, va_rf x1)] := by rw [show ([(0, .ref a0), (1, va_rf x1)] : List (Nat × Value)) = lv_args 0 [.ref a0, va_rf x1] from by cases x1 <;> rfl]; exact hl
  unfold f_X2_add at hf
  refine lv_aload_n hx hb dX2_add_0 rfl (lv_at hl 0 rfl) ?_
  refine zr_gq X hR (r := (some a0)) fl_X2_12 dX2_add_1 hf (fun v1 hf => ?_)
  refine zr_aload_n hx hb dX2_add_4 rfl (lv_at hl 1 rfl) ?_
  obtain ⟨b5, fs5, hr5, ho5, hf⟩ := zz_ob_i hf
  obtain ⟨v5, h5, n5, hv5, hf⟩ := zz_b2_i hf
  refine zr_cV X hR hl.1 (As := [va_rf x1]) (rest := []) (C := RJx4a65c) (T := TJx4a65c) (N := 3) (mt_Jx4a65c_add_9ea2d hT b5 x1 h n hv5) rfl ho5 mf_Jx4a65c_add_9ea2d q_790 q_87 q_88 ⟨Nat.le_of_ble_eq_true rfl, Nat.le_of_ble_eq_true rfl⟩ ⟨Nat.le_of_ble_eq_true rfl, Nat.le_of_ble_eq_true rfl⟩ (by rw [hr5]; rfl) (Nat.le_of_ble_eq_true rfl) dX2_add_5 (fun H locs hR => ?_)
  refine W.eq (g2 := F0 m 8 ls [.int v5]) rfl ?_
  refine W.widen (k := 1) (n := 10) (Nat.le_of_ble_eq_true rfl) (Nat.le_of_ble_eq_true rfl) ?_
  refine lv_pop hx hb dX2_add_8 rfl ?_
  cases hf
  exact zr_vret X hR dX2_add_9 (Nat.le_of_ble_eq_true rfl) (Nat.le_of_ble_eq_true rfl)
def rm_J3_checkIndex_8e157 : Room := { frames := 0, cells := 0, slots := 0, locals := 0 }
theorem mf_J3_checkIndex_8e157 : zz_Mf yJ3_checkIndex_8e157 cJ3_checkIndex_8e157 3 (some .int) 3 := ⟨q_262, q_23, by decide +kernel, by decide +kernel, by decide +kernel⟩
set_option maxHeartbeats 4000000 in
set_option maxRecDepth 100000 in
theorem bk_J3_checkIndex_8e157_9 {D : va_G} {dA : Nat → ClassId} {base t0 : Nat} {l : Launch} {p : Program} {e : Env} {s : State} {m : MethodId} {args : Array Value} {below : List Frame} {meth : Method} {c : Code} (X : zz_X D dA base t0 "jdk/internal/util/Preconditions" cJ3_checkIndex_8e157 3 (some .int) l p s m meth c) (hT : l.stackTraces = false) {x0 : Int32} {x1 : Int32} {x2 : (Option Nat)} {h : zz_H} {n : Nat} {H : Heap} {locs : List Loc} {ls : Array Slot} (hR : zz_R D dA base h n s H locs) (hl : lv_has ls 3 [(0, .int x0), (1, .int x1), (2, va_rf x2)]) {r0 : Int32} (hf : f_J3_checkIndex_8e157_9 x0 x1 x2 h = some r0) : W p l e rm_J3_checkIndex_8e157 s m args below meth c H locs 0 0 (MQ below (zz_Qc D dA base (some (.int r0)) h n) args s rm_J3_checkIndex_8e157.cells rm_J3_checkIndex_8e157.slots (fun q => base ≤ q)) (F0 m 9 ls []) := by
  have hx := X.1
  have hb := X.2.1
  have hown := X.2.2.2.2.1
  unfold f_J3_checkIndex_8e157_9 at hf
  refine zr_aload_n hx hb dJ3_checkIndex_8e157_9 rfl (lv_at hl 2 rfl) ?_
  refine lv_iload_n hx hb dJ3_checkIndex_8e157_10 rfl (lv_at hl 0 rfl) ?_
  refine lv_iload_n hx hb dJ3_checkIndex_8e157_11 rfl (lv_at hl 1 rfl) ?_
  cases hf
set_option maxHeartbeats 4000000 in
set_option maxRecDepth 100000 in
theorem mt_J3_checkIndex_8e157 {D : va_G} {dA : Nat → ClassId} {base t0 : Nat} {l : Launch} (hT : l.stackTraces = false) (x0 : Int32) (x1 : Int32) (x2 : (Option Nat)) (h : zz_H) (n : Nat) {r0 : Int32} (hf : f_J3_checkIndex_8e157 x0 x1 x2 h = some r0) : zz_M D dA base t0 l yJ3_checkIndex_8e157 cJ3_checkIndex_8e157 3 (some .int) rm_J3_checkIndex_8e157 [.int x0, .int x1, va_rf x2] h n (some (.int r0)) h n := by
  refine Met.ofW (cc := cJ3_checkIndex_8e157) (maxL := 3) (ret := (some .int)) (by decide +kernel) rfl ?_
  intro p e s m args below meth c s₁ B hml hv
  obtain ⟨rfl, hP, hK⟩ := hv
  have X : zz_X D dA base t0 "jdk/internal/util/Preconditions" cJ3_checkIndex_8e157 3 (some .int) l p s m meth c := ⟨B.exec, B.bytes, hml, B.returns, findClass_of_methodNamed B.named, B.notSynchronized, hT, by rw [hP.1]; exact hP.2.1, hK⟩
  have hx := X.1
  have hb := X.2.1
  have hown := X.2.2.2.2.1
  have hR : zz_R D dA base h n s s.heap [] := ⟨hP, va_S.rf⟩
  have hl := lv_entry ([.int x0, .int x1, va_rf x2]) (n := 3) (by cases x2 <;> exact Nat.le_of_ble_eq_true rfl)
  rw [lg_entry_eq]
  generalize (lg_sl ([.int x0, .int x1, va_rf x2]) ++ List.replicate (3 - (lg_sl ([.int x0, .int x1, va_rf x2])).length) Slot.unset).toArray = ls at hl ⊢
  have hl : lv_has ls 3 [(0, .int x0), (1, .int x1), (2, va_rf x2)] := by rw [show ([(0, .int x0), (1, .int x1), (2, va_rf x2)] : List (Nat × Value)) = lv_args 0 [.int x0, .int x1, va_rf x2] from by cases x2 <;> rfl]; exact hl
  unfold f_J3_checkIndex_8e157 at hf
  refine lv_iload_n hx hb dJ3_checkIndex_8e157_0 rfl (lv_at hl 0 rfl) ?_
  refine lv_if_lt (tgt := 9) hx hb dJ3_checkIndex_8e157_1 (by decide) (fun c1 => ?_) (fun c1 => ?_)
  · replace hf := zz_pos c1 hf
    exact bk_J3_checkIndex_8e157_9 X hT hR (lv_sub hl [0, 1, 2] rfl) hf
  · replace hf := zz_neg c1 hf
    refine lv_iload_n hx hb dJ3_checkIndex_8e157_4 rfl (lv_at hl 0 rfl) ?_
    refine lv_iload_n hx hb dJ3_checkIndex_8e157_5 rfl (lv_at hl 1 rfl) ?_
    refine lv_icmp_lt (tgt := 16) hx hb dJ3_checkIndex_8e157_6 (by decide) (fun c6 => ?_) (fun c6 => ?_)
    · replace hf := zz_pos c6 hf
      refine lv_iload_n hx hb dJ3_checkIndex_8e157_16 rfl (lv_at hl 0 rfl) ?_
      cases hf
      exact zr_iret X hR dJ3_checkIndex_8e157_17 (Nat.le_of_ble_eq_true rfl) (Nat.le_of_ble_eq_true rfl)
    · replace hf := zz_neg c6 hf
      exact bk_J3_checkIndex_8e157_9 X hT hR (lv_sub hl [0, 1, 2] rfl) hf
def rm_J15_checkIndex_7cf53 : Room := { frames := 1, cells := 0, slots := 0, locals := 22 }
theorem mf_J15_checkIndex_7cf53 : zz_Mf yJ15_checkIndex_7cf53 cJ15_checkIndex_7cf53 2 (some .int) 2 := ⟨q_259, q_22, by decide +kernel, by decide +kernel, by decide +kernel⟩
set_option maxHeartbeats 4000000 in
set_option maxRecDepth 100000 in
theorem mt_J15_checkIndex_7cf53 {D : va_G} {dA : Nat → ClassId} {base t0 : Nat} {l : Launch} (hT : l.stackTraces = false) (x0 : Int32) (x1 : Int32) (h : zz_H) (n : Nat) {r0 : Int32} (hf : f_J15_checkIndex_7cf53 x0 x1 h = some r0) : zz_M D dA base t0 l yJ15_checkIndex_7cf53 cJ15_checkIndex_7cf53 2 (some .int) rm_J15_checkIndex_7cf53 [.int x0, .int x1] h n (some (.int r0)) h n := by
  refine Met.ofW (cc := cJ15_checkIndex_7cf53) (maxL := 2) (ret := (some .int)) (by decide +kernel) rfl ?_
  intro p e s m args below meth c s₁ B hml hv
  obtain ⟨rfl, hP, hK⟩ := hv
  have X : zz_X D dA base t0 "java/util/Objects" cJ15_checkIndex_7cf53 2 (some .int) l p s m meth c := ⟨B.exec, B.bytes, hml, B.returns, findClass_of_methodNamed B.named, B.notSynchronized, hT, by rw [hP.1]; exact hP.2.1, hK⟩
  have hx := X.1
  have hb := X.2.1
  have hown := X.2.2.2.2.1
  have hR : zz_R D dA base h n s s.heap [] := ⟨hP, va_S.rf⟩
  have hl := lv_entry ([.int x0, .int x1]) (n := 2) (by exact Nat.le_of_ble_eq_true rfl)
  rw [lg_entry_eq]
  generalize (lg_sl ([.int x0, .int x1]) ++ List.replicate (2 - (lg_sl ([.int x0, .int x1])).length) Slot.unset).toArray = ls at hl ⊢
  have hl : lv_has ls 2 [(0, .int x0), (1, .int x1)] := hl
  unfold f_J15_checkIndex_7cf53 at hf
  refine lv_iload_n hx hb dJ15_checkIndex_7cf53_0 rfl (lv_at hl 0 rfl) ?_
  refine lv_iload_n hx hb dJ15_checkIndex_7cf53_1 rfl (lv_at hl 1 rfl) ?_
  refine zr_null hx hb dJ15_checkIndex_7cf53_2 ?_
  obtain ⟨v3, hv3, hf⟩ := zz_b_i hf
  refine zr_cS X hR hl.1 (As := [.int x0, .int x1, va_rf none]) (rest := []) (mt_J3_checkIndex_8e157 hT x0 x1 none h n hv3) mf_J3_checkIndex_8e157 q_260 q_261 ⟨Nat.le_of_ble_eq_true rfl, Nat.le_of_ble_eq_true rfl⟩ ⟨Nat.le_of_ble_eq_true rfl, Nat.le_of_ble_eq_true rfl⟩ rfl (Nat.le_of_ble_eq_true rfl) dJ15_checkIndex_7cf53_3 (fun H locs hR => ?_)
  refine W.eq (g2 := F0 m 6 ls [.int v3]) rfl ?_
  cases hf
  exact zr_iret X hR dJ15_checkIndex_7cf53_6 (Nat.le_of_ble_eq_true rfl) (Nat.le_of_ble_eq_true rfl)
def rm_Jx4a65c_elementData_915e3 : Room := { frames := 0, cells := 0, slots := 0, locals := 0 }
theorem mf_Jx4a65c_elementData_915e3 : zz_Mf yJx4a65c_elementData_915e3 cJx4a65c_elementData_915e3 2 (some (.object "java/lang/Object")) 1 := ⟨q_266, q_4, by decide +kernel, by decide +kernel, by decide +kernel⟩
set_option maxHeartbeats 4000000 in
set_option maxRecDepth 100000 in
theorem mt_Jx4a65c_elementData_915e3 {D : va_G} {dA : Nat → ClassId} {base t0 : Nat} {l : Launch} (hT : l.stackTraces = false) (a0 : Nat) (x1 : Int32) (h : zz_H) (n : Nat) {r0 : (Option Nat)} (hf : f_Jx4a65c_elementData_915e3 a0 x1 h = some r0) : zz_M D dA base t0 l yJx4a65c_elementData_915e3 cJx4a65c_elementData_915e3 2 (some (.object "java/lang/Object")) rm_Jx4a65c_elementData_915e3 [.ref a0, .int x1] h n (some (va_rf r0)) h n := by
  refine Met.ofW (cc := cJx4a65c_elementData_915e3) (maxL := 2) (ret := (some (.object "java/lang/Object"))) (by decide +kernel) rfl ?_
  intro p e s m args below meth c s₁ B hml hv
  obtain ⟨rfl, hP, hK⟩ := hv
  have X : zz_X D dA base t0 "java/util/ArrayList" cJx4a65c_elementData_915e3 2 (some (.object "java/lang/Object")) l p s m meth c := ⟨B.exec, B.bytes, hml, B.returns, findClass_of_methodNamed B.named, B.notSynchronized, hT, by rw [hP.1]; exact hP.2.1, hK⟩
  have hx := X.1
  have hb := X.2.1
  have hown := X.2.2.2.2.1
  have hR : zz_R D dA base h n s s.heap [] := ⟨hP, va_S.rf⟩
  have hl := lv_entry ([.ref a0, .int x1]) (n := 2) (by exact Nat.le_of_ble_eq_true rfl)
  rw [lg_entry_eq]
  generalize (lg_sl ([.ref a0, .int x1]) ++ List.replicate (2 - (lg_sl ([.ref a0, .int x1])).length) Slot.unset).toArray = ls at hl ⊢
  have hl : lv_has ls 2 [(0, .ref a0), (1, .int x1)] := hl
  unfold f_Jx4a65c_elementData_915e3 at hf
  refine lv_aload_n hx hb dJx4a65c_elementData_915e3_0 rfl (lv_at hl 0 rfl) ?_
  refine zr_gq X hR (r := (some a0)) fl_Jx4a65c_9 dJx4a65c_elementData_915e3_1 hf (fun v1 hf => ?_)
  refine lv_iload_n hx hb dJx4a65c_elementData_915e3_4 rfl (lv_at hl 1 rfl) ?_
  refine zr_aald X hR (t := 5) (r := v1) (by decide) rfl dJx4a65c_elementData_915e3_5 hf (fun v5 hf => ?_)
  cases hf
  exact zr_aret (Or.inl ⟨_, rfl⟩) X hR (r := _) dJx4a65c_elementData_915e3_6 (Nat.le_of_ble_eq_true rfl) (Nat.le_of_ble_eq_true rfl)
def rm_Jx4a65c_get_915e3 : Room := { frames := 2, cells := 0, slots := 0, locals := 43 }
theorem mf_Jx4a65c_get_915e3 : zz_Mf yJx4a65c_get_915e3 cJx4a65c_get_915e3 2 (some (.object "java/lang/Object")) 1 := ⟨q_256, q_4, by decide +kernel, by decide +kernel, by decide +kernel⟩
set_option maxHeartbeats 4000000 in
set_option maxRecDepth 100000 in
theorem mt_Jx4a65c_get_915e3 {D : va_G} {dA : Nat → ClassId} {base t0 : Nat} {l : Launch} (hT : l.stackTraces = false) (a0 : Nat) (x1 : Int32) (h : zz_H) (n : Nat) {r0 : (Option Nat)} (hf : f_Jx4a65c_get_915e3 a0 x1 h = some r0) : zz_M D dA base t0 l yJx4a65c_get_915e3 cJx4a65c_get_915e3 2 (some (.object "java/lang/Object")) rm_Jx4a65c_get_915e3 [.ref a0, .int x1] h n (some (va_rf r0)) h n := by
  refine Met.ofW (cc := cJx4a65c_get_915e3) (maxL := 2) (ret := (some (.object "java/lang/Object"))) (by decide +kernel) rfl ?_
  intro p e s m args below meth c s₁ B hml hv
  obtain ⟨rfl, hP, hK⟩ := hv
  have X : zz_X D dA base t0 "java/util/ArrayList" cJx4a65c_get_915e3 2 (some (.object "java/lang/Object")) l p s m meth c := ⟨B.exec, B.bytes, hml, B.returns, findClass_of_methodNamed B.named, B.notSynchronized, hT, by rw [hP.1]; exact hP.2.1, hK⟩
  have hx := X.1
  have hb := X.2.1
  have hown := X.2.2.2.2.1
  have hR : zz_R D dA base h n s s.heap [] := ⟨hP, va_S.rf⟩
  have hl := lv_entry ([.ref a0, .int x1]) (n := 2) (by exact Nat.le_of_ble_eq_true rfl)
  rw [lg_entry_eq]
  generalize (lg_sl ([.ref a0, .int x1]) ++ List.replicate (2 - (lg_sl ([.ref a0, .int x1])).length) Slot.unset).toArray = ls at hl ⊢
  have hl : lv_has ls 2 [(0, .ref a0), (1, .int x1)] := hl
  unfold f_Jx4a65c_get_915e3 at hf
  refine lv_iload_n hx hb dJx4a65c_get_915e3_0 rfl (lv_at hl 1 rfl) ?_
  refine lv_aload_n hx hb dJx4a65c_get_915e3_1 rfl (lv_at hl 0 rfl) ?_
  refine zr_gi X hR (r := (some a0)) fl_Jx4a65c_48 dJx4a65c_get_915e3_2 hf (fun v2 hf => ?_)
  obtain ⟨v5, hv5, hf⟩ := zz_b_i hf
  refine zr_cS X hR hl.1 (As := [.int x1, .int v2]) (rest := []) (mt_J15_checkIndex_7cf53 hT x1 v2 h n hv5) mf_J15_checkIndex_7cf53 q_257 q_258 ⟨Nat.le_of_ble_eq_true rfl, Nat.le_of_ble_eq_true rfl⟩ ⟨Nat.le_of_ble_eq_true rfl, Nat.le_of_ble_eq_true rfl⟩ rfl (Nat.le_of_ble_eq_true rfl) dJx4a65c_get_915e3_5 (fun H locs hR => ?_)
  refine W.eq (g2 := F0 m 8 ls [.int v5]) rfl ?_
  refine lv_pop hx hb dJx4a65c_get_915e3_8 rfl ?_
  refine lv_aload_n hx hb dJx4a65c_get_915e3_9 rfl (lv_at hl 0 rfl) ?_
  refine lv_iload_n hx hb dJx4a65c_get_915e3_10 rfl (lv_at hl 1 rfl) ?_
  obtain ⟨fs11, ho11, hf⟩ := zz_obS_i hf
  obtain ⟨v11, hv11, hf⟩ := zz_b_i hf
  refine zr_cV X hR hl.1 (As := [.int x1]) (rest := []) (C := RJx4a65c) (T := TJx4a65c) (N := 3) (mt_Jx4a65c_elementData_915e3 hT a0 x1 h n hv11) rfl ho11 mf_Jx4a65c_elementData_915e3 q_263 q_264 q_265 ⟨Nat.le_of_ble_eq_true rfl, Nat.le_of_ble_eq_true rfl⟩ ⟨Nat.le_of_ble_eq_true rfl, Nat.le_of_ble_eq_true rfl⟩ rfl (Nat.le_of_ble_eq_true rfl) dJx4a65c_get_915e3_11 (fun H locs hR => ?_)
  refine W.eq (g2 := F0 m 14 ls [va_rf v11]) rfl ?_
  cases hf
  exact zr_aret (Or.inl ⟨_, rfl⟩) X hR (r := _) dJx4a65c_get_915e3_14 (Nat.le_of_ble_eq_true rfl) (Nat.le_of_ble_eq_true rfl)
def rm_X9_quotient : Room := { frames := 0, cells := 0, slots := 0, locals := 0 }
theorem mf_X9_quotient : zz_Mf yX9_quotient cX9_quotient 4 (some .int) 2 := ⟨q_461, q_1, by decide +kernel, by decide +kernel, by decide +kernel⟩
set_option maxHeartbeats 4000000 in
set_option maxRecDepth 100000 in
theorem bk_X9_quotient_14 {D : va_G} {dA : Nat → ClassId} {base t0 : Nat} {l : Launch} {p : Program} {e : Env} {s : State} {m : MethodId} {args : Array Value} {below : List Frame} {meth : Method} {c : Code} (X : zz_X D dA base t0 "Springseat" cX9_quotient 4 (some .int) l p s m meth c) (hT : l.stackTraces = false) {s0 : Int32} {h : zz_H} {n : Nat} {H : Heap} {locs : List Loc} {ls : Array Slot} (hR : zz_R D dA base h n s H locs) (hl : lv_has ls 4 []) {r0 : Int32} (hf : f_X9_quotient_14 s0 h = some r0) : W p l e rm_X9_quotient s m args below meth c H locs 0 0 (MQ below (zz_Qc D dA base (some (.int r0)) h n) args s rm_X9_quotient.cells rm_X9_quotient.slots (fun q => base ≤ q)) (F0 m 14 ls [.int s0]) := by
  have hx := X.1
  have hb := X.2.1
  have hown := X.2.2.2.2.1
  unfold f_X9_quotient_14 at hf
  cases hf
  exact zr_iret X hR dX9_quotient_14 (Nat.le_of_ble_eq_true rfl) (Nat.le_of_ble_eq_true rfl)
set_option maxHeartbeats 4000000 in
set_option maxRecDepth 100000 in
theorem mt_X9_quotient {D : va_G} {dA : Nat → ClassId} {base t0 : Nat} {l : Launch} (hT : l.stackTraces = false) (x0 : Int64) (x2 : Int64) (h : zz_H) (n : Nat) {r0 : Int32} (hf : f_X9_quotient x0 x2 h = some r0) : zz_M D dA base t0 l yX9_quotient cX9_quotient 4 (some .int) rm_X9_quotient [.long x0, .long x2] h n (some (.int r0)) h n := by
  refine Met.ofW (cc := cX9_quotient) (maxL := 4) (ret := (some .int)) (by decide +kernel) rfl ?_
  intro p e s m args below meth c s₁ B hml hv
  obtain ⟨rfl, hP, hK⟩ := hv
  have X : zz_X D dA base t0 "Springseat" cX9_quotient 4 (some .int) l p s m meth c := ⟨B.exec, B.bytes, hml, B.returns, findClass_of_methodNamed B.named, B.notSynchronized, hT, by rw [hP.1]; exact hP.2.1, hK⟩
  have hx := X.1
  have hb := X.2.1
  have hown := X.2.2.2.2.1
  have hR : zz_R D dA base h n s s.heap [] := ⟨hP, va_S.rf⟩
  have hl := lv_entry ([.long x0, .long x2]) (n := 4) (by exact Nat.le_of_ble_eq_true rfl)
  rw [lg_entry_eq]
  generalize (lg_sl ([.long x0, .long x2]) ++ List.replicate (4 - (lg_sl ([.long x0, .long x2])).length) Slot.unset).toArray = ls at hl ⊢
  have hl : lv_has ls 4 [(0, .long x0), (2, .long x2)] := hl
  unfold f_X9_quotient at hf
  refine lv_lload_n hx hb dX9_quotient_0 rfl (lv_at hl 1 rfl) ?_
  refine lv_lconst (v := (0 : Int64)) hx hb dX9_quotient_1 (by decide) ?_
  refine W.lcmp hx hb dX9_quotient_2 ?_
  refine lv_if_ne (tgt := 10) hx hb dX9_quotient_3 (by decide) (fun c3 => ?_) (fun c3 => ?_)
  · replace hf := zz_neg c3 hf
    refine lv_lload_n hx hb dX9_quotient_10 rfl (lv_at hl 0 rfl) ?_
    refine lv_lload_n hx hb dX9_quotient_11 rfl (lv_at hl 1 rfl) ?_
    obtain ⟨hne12, hf⟩ := zz_dl_i hf
    refine lv_ldiv hx hb dX9_quotient_12 hne12 ?_
    refine lv_l2i hx hb dX9_quotient_13 rfl ?_
    exact bk_X9_quotient_14 X hT hR (lv_sub hl [] rfl) hf
  · replace hf := zz_pos c3 hf
    refine lv_iconst (v := (0 : Int32)) hx hb dX9_quotient_6 (by decide) ?_
    refine lv_goto (tgt := 14) hx hb dX9_quotient_7 (by decide) ?_
    exact bk_X9_quotient_14 X hT hR (lv_sub hl [] rfl) hf
def rm_X6_settle : Room := { frames := 1, cells := 0, slots := 0, locals := 23 }
theorem mf_X6_settle : zz_Mf yX6_settle cX6_settle 4 none 1 := ⟨q_942, q_26, by decide +kernel, by decide +kernel, by decide +kernel⟩
set_option maxHeartbeats 4000000 in
set_option maxRecDepth 100000 in
theorem bk_X6_settle_48 {D : va_G} {dA : Nat → ClassId} {base t0 : Nat} {l : Launch} {p : Program} {e : Env} {s : State} {m : MethodId} {args : Array Value} {below : List Frame} {meth : Method} {c : Code} (X : zz_X D dA base t0 "Springseat$Layer" cX6_settle 4 none l p s m meth c) (hT : l.stackTraces = false) {a0 : Nat} {s0 : Int32} {s1 : Int64} {h : zz_H} {n : Nat} {H : Heap} {locs : List Loc} {ls : Array Slot} (hR : zz_R D dA base h n s H locs) (hl : lv_has ls 4 [(0, .ref a0)]) {r0 : Unit} {hF : zz_H} (hf : f_X6_settle_48 a0 s0 s1 h = some (r0, hF)) : W p l e rm_X6_settle s m args below meth c H locs 0 0 (MQ below (zz_Qc D dA base none hF n) args s rm_X6_settle.cells rm_X6_settle.slots (fun q => base ≤ q)) (F0 m 48 ls [.int s0, .long s1]) := by
  have hx := X.1
  have hb := X.2.1
  have hown := X.2.2.2.2.1
  unfold f_X6_settle_48 at hf
  refine lv_i2l hx hb dX6_settle_48 rfl ?_
  refine lv_lmul hx hb dX6_settle_49 ?_
  refine lv_lstore_n (i := 2) (lv' := [(2, .long (s1 * s0.toInt64)), (0, .ref a0)]) hx hb dX6_settle_50 rfl hl (by decide) rfl (fun ls hl => ?_)
  refine lv_aload_n hx hb dX6_settle_51 rfl (lv_at hl 1 rfl) ?_
  refine lv_aload_n hx hb dX6_settle_52 rfl (lv_at hl 1 rfl) ?_
  refine zr_gi X hR (r := (some a0)) fl_X6_15 dX6_settle_53 hf (fun v53 hf => ?_)
  refine lv_aload_n hx hb dX6_settle_56 rfl (lv_at hl 1 rfl) ?_
  refine zr_gi X hR (r := (some a0)) fl_X6_15 dX6_settle_57 hf (fun v57 hf => ?_)
  refine lv_i2l hx hb dX6_settle_60 rfl ?_
  refine lv_aload_n hx hb dX6_settle_61 rfl (lv_at hl 1 rfl) ?_
  refine zr_gl X hR (r := (some a0)) fl_X6_25 dX6_settle_62 hf (fun v62 hf => ?_)
  refine lv_lmul hx hb dX6_settle_65 ?_
  refine lv_ldc2 hx hb hown (zz_w X q_943) dX6_settle_66 ?_
  refine lv_aload_n hx hb dX6_settle_69 rfl (lv_at hl 1 rfl) ?_
  refine zr_gl X hR (r := (some a0)) fl_X6_25 dX6_settle_70 hf (fun v70 hf => ?_)
  refine lv_lload_n hx hb dX6_settle_73 rfl (lv_at hl 0 rfl) ?_
  refine lv_ladd hx hb dX6_settle_74 ?_
  refine lv_lmul hx hb dX6_settle_75 ?_
  obtain ⟨v76, hv76, hf⟩ := zz_b_i hf
  refine zr_cSN X hR hl.1 (As := [.long (v57.toInt64 * v62), .long ((2 : Int64) * (v70 + (s1 * s0.toInt64)))]) (rest := [.int v53, .ref a0]) (mt_X9_quotient hT (v57.toInt64 * v62) ((2 : Int64) * (v70 + (s1 * s0.toInt64))) h n hv76) mf_X9_quotient q_470 q_460 ⟨Nat.le_of_ble_eq_true rfl, Nat.le_of_ble_eq_true rfl⟩ ⟨Nat.le_of_ble_eq_true rfl, Nat.le_of_ble_eq_true rfl⟩ rfl (Nat.le_of_ble_eq_true rfl) dX6_settle_76 (fun H locs hR => ?_)
  refine W.eq (g2 := F0 m 79 ls [.int v76, .int v53, .ref a0]) rfl ?_
  refine lv_isub hx hb dX6_settle_79 ?_
  refine zr_p X hR (r := (some a0)) (v := .int (v53 - v76)) fl_X6_22 rfl dX6_settle_80 rfl rfl hf (fun h80 H locs hf hR => ?_)
  cases hf
  exact zr_vret X hR dX6_settle_83 (Nat.le_of_ble_eq_true rfl) (Nat.le_of_ble_eq_true rfl)
set_option maxHeartbeats 4000000 in
set_option maxRecDepth 100000 in
theorem mt_X6_settle {D : va_G} {dA : Nat → ClassId} {base t0 : Nat} {l : Launch} (hT : l.stackTraces = false) (a0 : Nat) (x1 : Int32) (h : zz_H) (n : Nat) {r0 : Unit} {hF : zz_H} (hf : f_X6_settle a0 x1 h = some (r0, hF)) : zz_M D dA base t0 l yX6_settle cX6_settle 4 none rm_X6_settle [.ref a0, .int x1] h n none hF n := by
  refine Met.ofW (cc := cX6_settle) (maxL := 4) (ret := none) (by decide +kernel) rfl ?_
  intro p e s m args below meth c s₁ B hml hv
  obtain ⟨rfl, hP, hK⟩ := hv
  have X : zz_X D dA base t0 "Springseat$Layer" cX6_settle 4 none l p s m meth c := ⟨B.exec, B.bytes, hml, B.returns, findClass_of_methodNamed B.named, B.notSynchronized, hT, by rw [hP.1]; exact hP.2.1, hK⟩
  have hx := X.1
  have hb := X.2.1
  have hown := X.2.2.2.2.1
  have hR : zz_R D dA base h n s s.heap [] := ⟨hP, va_S.rf⟩
  have hl := lv_entry ([.ref a0, .int x1]) (n := 4) (by exact Nat.le_of_ble_eq_true rfl)
  rw [lg_entry_eq]
  generalize (lg_sl ([.ref a0, .int x1]) ++ List.replicate (4 - (lg_sl ([.ref a0, .int x1])).length) Slot.unset).toArray = ls at hl ⊢
  have hl : lv_has ls 4 [(0, .ref a0), (1, .int x1)] := hl
  unfold f_X6_settle at hf
  refine lv_aload_n hx hb dX6_settle_0 rfl (lv_at hl 0 rfl) ?_
  refine lv_dup hx hb dX6_settle_1 rfl ?_
  refine zr_gl X hR (r := (some a0)) fl_X6_25 dX6_settle_2 hf (fun v2 hf => ?_)
  refine lv_iload_n hx hb dX6_settle_5 rfl (lv_at hl 1 rfl) ?_
  refine lv_i2l hx hb dX6_settle_6 rfl ?_
  refine lv_ladd hx hb dX6_settle_7 ?_
  refine zr_p X hR (r := (some a0)) (v := .long (v2 + x1.toInt64)) fl_X6_25 rfl dX6_settle_8 rfl rfl hf (fun h8 H locs hf hR => ?_)
  refine lv_aload_n hx hb dX6_settle_11 rfl (lv_at hl 0 rfl) ?_
  refine zr_gi X hR (r := (some a0)) fl_X6_19 dX6_settle_12 hf (fun v12 hf => ?_)
  refine lv_i2l hx hb dX6_settle_15 rfl ?_
  refine lv_aload_n hx hb dX6_settle_16 rfl (lv_at hl 0 rfl) ?_
  refine zr_gi X hR (r := (some a0)) fl_X6_9 dX6_settle_17 hf (fun v17 hf => ?_)
  refine lv_bipush (v := (104 : Int32)) hx hb dX6_settle_20 (by decide) ?_
  refine lv_icmp_ne (tgt := 31) hx hb dX6_settle_22 (by decide) (fun c22 => ?_) (fun c22 => ?_)
  · replace hf := zz_neg c22 hf
    refine lv_aload_n hx hb dX6_settle_31 rfl (lv_at hl 0 rfl) ?_
    refine zr_gi X hR (r := (some a0)) fl_X6_9 dX6_settle_32 hf (fun v32 hf => ?_)
    refine lv_bipush (v := (102 : Int32)) hx hb dX6_settle_35 (by decide) ?_
    refine lv_icmp_ne (tgt := 46) hx hb dX6_settle_37 (by decide) (fun c37 => ?_) (fun c37 => ?_)
    · replace hf := zz_neg c37 hf
      refine lv_bipush (v := (100 : Int32)) hx hb dX6_settle_46 (by decide) ?_
      exact bk_X6_settle_48 X hT hR (lv_sub hl [0] rfl) hf
    · replace hf := zz_pos c37 hf
      refine lv_sipush (v := (400 : Int32)) hx hb dX6_settle_40 (by decide) ?_
      refine lv_goto (tgt := 48) hx hb dX6_settle_43 (by decide) ?_
      exact bk_X6_settle_48 X hT hR (lv_sub hl [0] rfl) hf
  · replace hf := zz_pos c22 hf
    refine lv_sipush (v := (1000 : Int32)) hx hb dX6_settle_25 (by decide) ?_
    refine lv_goto (tgt := 48) hx hb dX6_settle_28 (by decide) ?_
    exact bk_X6_settle_48 X hT hR (lv_sub hl [0] rfl) hf
def rm_X2_settle : Room := { frames := 3, cells := 0, slots := 0, locals := 64 }
theorem mf_X2_settle : zz_Mf yX2_settle cX2_settle 3 none 1 := ⟨q_938, q_18, by decide +kernel, by decide +kernel, by decide +kernel⟩
set_option maxHeartbeats 4000000 in
set_option maxRecDepth 100000 in
theorem bk_X2_settle_2 {D : va_G} {dA : Nat → ClassId} {base t0 : Nat} {l : Launch} {p : Program} {e : Env} {s : State} {m : MethodId} {args : Array Value} {below : List Frame} {meth : Method} {c : Code} (X : zz_X D dA base t0 "Springseat$Filling" cX2_settle 3 none l p s m meth c) (hT : l.stackTraces = false) {a0 : Nat} {x1 : Int32} {x2 : Int32} {h : zz_H} {n : Nat} {H : Heap} {locs : List Loc} {ls : Array Slot} (hR : zz_R D dA base h n s H locs) (hl : lv_has ls 3 [(0, .ref a0), (1, .int x1), (2, .int x2)]) {r0 : Unit} {hF : zz_H} {o : ((Int32 × zz_H) ⊕ (Unit × zz_H))} (hf : f_X2_settle_2 a0 x1 x2 h = some o) (k0 : ∀ (w2 : Int32) (hw : zz_H), o = (.inl (w2, hw)) → ∀ {H : Heap} {locs : List Loc} {ls : Array Slot}, zz_R D dA base hw n s H locs → lv_has ls 3 [(0, .ref a0), (1, .int x1), (2, .int w2)] → W p l e rm_X2_settle s m args below meth c H locs 0 0 (MQ below (zz_Qc D dA base none hF n) args s rm_X2_settle.cells rm_X2_settle.slots (fun q => base ≤ q)) (F0 m 2 ls [])) (hret : ∀ r, o = (.inr r) → r = (r0, hF)) : W p l e rm_X2_settle s m args below meth c H locs 0 0 (MQ below (zz_Qc D dA base none hF n) args s rm_X2_settle.cells rm_X2_settle.slots (fun q => base ≤ q)) (F0 m 2 ls []) := by
  have hx := X.1
  have hb := X.2.1
  have hown := X.2.2.2.2.1
  unfold f_X2_settle_2 at hf
  refine lv_iload_n hx hb dX2_settle_2 rfl (lv_at hl 2 rfl) ?_
  refine lv_aload_n hx hb dX2_settle_3 rfl (lv_at hl 0 rfl) ?_
  refine zr_gq X hR (r := (some a0)) fl_X2_12 dX2_settle_4 hf (fun v4 hf => ?_)
  obtain ⟨b7, fs7, hr7, ho7, hf⟩ := zz_ob_i hf
  obtain ⟨v7, hv7, hf⟩ := zz_b_i hf
  refine zr_cV X hR hl.1 (As := []) (rest := [.int x2]) (C := RJx4a65c) (T := TJx4a65c) (N := 3) (mt_Jx4a65c_size_8abf5 hT b7 h n hv7) rfl ho7 mf_Jx4a65c_size_8abf5 q_352 q_177 q_178 ⟨Nat.le_of_ble_eq_true rfl, Nat.le_of_ble_eq_true rfl⟩ ⟨Nat.le_of_ble_eq_true rfl, Nat.le_of_ble_eq_true rfl⟩ (by rw [hr7]; rfl) (Nat.le_of_ble_eq_true rfl) dX2_settle_7 (fun H locs hR => ?_)
  refine W.eq (g2 := F0 m 10 ls [.int v7, .int x2]) rfl ?_
  refine lv_icmp_ge (tgt := 34) hx hb dX2_settle_10 (by decide) (fun c10 => ?_) (fun c10 => ?_)
  · replace hf := zz_pos c10 hf
    cases hf
    cases hret _ rfl
    exact zr_vret X hR dX2_settle_34 (Nat.le_of_ble_eq_true rfl) (Nat.le_of_ble_eq_true rfl)
  · replace hf := zz_neg c10 hf
    refine lv_aload_n hx hb dX2_settle_13 rfl (lv_at hl 0 rfl) ?_
    refine zr_gq X hR (r := (some a0)) fl_X2_12 dX2_settle_14 hf (fun v14 hf => ?_)
    refine lv_iload_n hx hb dX2_settle_17 rfl (lv_at hl 2 rfl) ?_
    obtain ⟨b18, fs18, hr18, ho18, hf⟩ := zz_ob_i hf
    obtain ⟨v18, hv18, hf⟩ := zz_b_i hf
    refine zr_cV X hR hl.1 (As := [.int x2]) (rest := []) (C := RJx4a65c) (T := TJx4a65c) (N := 3) (mt_Jx4a65c_get_915e3 hT b18 x2 h n hv18) rfl ho18 mf_Jx4a65c_get_915e3 q_353 q_254 q_255 ⟨Nat.le_of_ble_eq_true rfl, Nat.le_of_ble_eq_true rfl⟩ ⟨Nat.le_of_ble_eq_true rfl, Nat.le_of_ble_eq_true rfl⟩ (by rw [hr18]; rfl) (Nat.le_of_ble_eq_true rfl) dX2_settle_18 (fun H locs hR => ?_)
    refine W.eq (g2 := F0 m 21 ls [va_rf v18]) rfl ?_
    refine zr_cc X hR (ci := 7) (C := RX6) (T := TX6) (N := 6) (r := v18) rfl q_354 (Or.inr trivial) dX2_settle_21 hf (fun hf => ?_)
    refine lv_iload_n hx hb dX2_settle_24 rfl (lv_at hl 1 rfl) ?_
    obtain ⟨b25, fs25, hr25, ho25, hf⟩ := zz_ob_i hf
    obtain ⟨u25, h25, hv25, hf⟩ := zz_b1_i hf
    refine zr_cV X hR hl.1 (As := [.int x1]) (rest := []) (C := RX6) (T := TX6) (N := 6) (mt_X6_settle hT b25 x1 h n hv25) rfl ho25 mf_X6_settle q_939 q_940 q_941 ⟨Nat.le_of_ble_eq_true rfl, Nat.le_of_ble_eq_true rfl⟩ ⟨Nat.le_of_ble_eq_true rfl, Nat.le_of_ble_eq_true rfl⟩ (by rw [hr25]; rfl) (Nat.le_of_ble_eq_true rfl) dX2_settle_25 (fun H locs hR => ?_)
    refine W.eq (g2 := F0 m 28 ls []) rfl ?_
    refine lv_iinc (i := 2) (v := (x2 + (1 : Int32))) (lv' := [(2, .int (x2 + (1 : Int32))), (0, .ref a0), (1, .int x1)]) hx hb dX2_settle_28 hl (k := 2) rfl rfl (by decide) rfl (fun ls hl => ?_)
    refine lv_goto (tgt := 2) hx hb dX2_settle_31 (by decide) ?_
    cases hf
    exact k0 _ _ rfl hR (lv_sub hl [1, 2, 0] rfl)
set_option maxHeartbeats 4000000 in
set_option maxRecDepth 100000 in
theorem lp_X2_settle_2 {D : va_G} {dA : Nat → ClassId} {base t0 : Nat} {l : Launch} {p : Program} {e : Env} {s : State} {m : MethodId} {args : Array Value} {below : List Frame} {meth : Method} {c : Code} (X : zz_X D dA base t0 "Springseat$Filling" cX2_settle 3 none l p s m meth c) (hT : l.stackTraces = false) (a0 : Nat) (x1 : Int32) {n : Nat} {r0 : Unit} {hF : zz_H} : ∀ (k : Nat) (x2 : Int32) (h : zz_H), zz_it (fun s : (Int32 × zz_H) => f_X2_settle_2 a0 x1 s.1 s.2) k (x2, h) = some (r0, hF) → ∀ {H : Heap} {locs : List Loc} {ls : Array Slot}, zz_R D dA base h n s H locs → lv_has ls 3 [(0, .ref a0), (1, .int x1), (2, .int x2)] → W p l e rm_X2_settle s m args below meth c H locs 0 0 (MQ below (zz_Qc D dA base none hF n) args s rm_X2_settle.cells rm_X2_settle.slots (fun q => base ≤ q)) (F0 m 2 ls []) := by
  intro k
  induction k with
  | zero => intro x2 h hf; cases hf
  | succ k ih =>
    intro x2 h hf H locs ls hR hl
    rcases zz_it_s hf with ⟨⟨y0, y1⟩, h1, h2⟩ | h1
    · exact bk_X2_settle_2 (r0 := r0) X hT hR hl h1  (fun z0 z1 e => by cases e; exact ih _ _ h2) (fun r e => by cases e)
    · exact bk_X2_settle_2 (r0 := r0) X hT hR hl h1  (fun z0 z1 e => by cases e) (fun r e => (Sum.inr.inj e).symm)
set_option maxHeartbeats 4000000 in
set_option maxRecDepth 100000 in
theorem mt_X2_settle {D : va_G} {dA : Nat → ClassId} {base t0 : Nat} {l : Launch} (hT : l.stackTraces = false) (a0 : Nat) (x1 : Int32) (h : zz_H) (n : Nat) {r0 : Unit} {hF : zz_H} (hf : f_X2_settle a0 x1 h = some (r0, hF)) : zz_M D dA base t0 l yX2_settle cX2_settle 3 none rm_X2_settle [.ref a0, .int x1] h n none hF n := by
  refine Met.ofW (cc := cX2_settle) (maxL := 3) (ret := none) (by decide +kernel) rfl ?_
  intro p e s m args below meth c s₁ B hml hv
  obtain ⟨rfl, hP, hK⟩ := hv
  have X : zz_X D dA base t0 "Springseat$Filling" cX2_settle 3 none l p s m meth c := ⟨B.exec, B.bytes, hml, B.returns, findClass_of_methodNamed B.named, B.notSynchronized, hT, by rw [hP.1]; exact hP.2.1, hK⟩
  have hx := X.1
  have hb := X.2.1
  have hown := X.2.2.2.2.1
  have hR : zz_R D dA base h n s s.heap [] := ⟨hP, va_S.rf⟩
  have hl := lv_entry ([.ref a0, .int x1]) (n := 3) (by exact Nat.le_of_ble_eq_true rfl)
  rw [lg_entry_eq]
  generalize (lg_sl ([.ref a0, .int x1]) ++ List.replicate (3 - (lg_sl ([.ref a0, .int x1])).length) Slot.unset).toArray = ls at hl ⊢
  have hl : lv_has ls 3 [(0, .ref a0), (1, .int x1)] := hl
  unfold f_X2_settle at hf
  refine lv_iconst (v := (0 : Int32)) hx hb dX2_settle_0 (by decide) ?_
  refine lv_istore_n (i := 2) (lv' := [(2, .int (0 : Int32)), (0, .ref a0), (1, .int x1)]) hx hb dX2_settle_1 rfl hl (by decide) rfl (fun ls hl => ?_)
  exact lp_X2_settle_2 X hT a0 x1 zz_F _ _ hf hR (lv_sub hl [1, 2, 0] rfl)
def rm_X2_thicknessInAll : Room := { frames := 3, cells := 0, slots := 0, locals := 64 }
theorem mf_X2_thicknessInAll : zz_Mf yX2_thicknessInAll cX2_thicknessInAll 3 (some .int) 0 := ⟨q_351, q_18, by decide +kernel, by decide +kernel, by decide +kernel⟩
set_option maxHeartbeats 4000000 in
set_option maxRecDepth 100000 in
theorem bk_X2_thicknessInAll_4 {D : va_G} {dA : Nat → ClassId} {base t0 : Nat} {l : Launch} {p : Program} {e : Env} {s : State} {m : MethodId} {args : Array Value} {below : List Frame} {meth : Method} {c : Code} (X : zz_X D dA base t0 "Springseat$Filling" cX2_thicknessInAll 3 (some .int) l p s m meth c) (hT : l.stackTraces = false) {a0 : Nat} {x1 : Int32} {x2 : Int32} {h : zz_H} {n : Nat} {H : Heap} {locs : List Loc} {ls : Array Slot} (hR : zz_R D dA base h n s H locs) (hl : lv_has ls 3 [(0, .ref a0), (1, .int x1), (2, .int x2)]) {r0 : Int32} {o : ((Int32 × Int32) ⊕ Int32)} (hf : f_X2_thicknessInAll_4 a0 x1 x2 h = some o) (k0 : ∀ (w1 : Int32) (w2 : Int32), o = (.inl (w1, w2)) → ∀ {H : Heap} {locs : List Loc} {ls : Array Slot}, zz_R D dA base h n s H locs → lv_has ls 3 [(0, .ref a0), (1, .int w1), (2, .int w2)] → W p l e rm_X2_thicknessInAll s m args below meth c H locs 0 0 (MQ below (zz_Qc D dA base (some (.int r0)) h n) args s rm_X2_thicknessInAll.cells rm_X2_thicknessInAll.slots (fun q => base ≤ q)) (F0 m 4 ls [])) (hret : ∀ r, o = (.inr r) → r = r0) : W p l e rm_X2_thicknessInAll s m args below meth c H locs 0 0 (MQ below (zz_Qc D dA base (some (.int r0)) h n) args s rm_X2_thicknessInAll.cells rm_X2_thicknessInAll.slots (fun q => base ≤ q)) (F0 m 4 ls []) := by
  have hx := X.1
  have hb := X.2.1
  have hown := X.2.2.2.2.1
  unfold f_X2_thicknessInAll_4 at hf
  refine lv_iload_n hx hb dX2_thicknessInAll_4 rfl (lv_at hl 2 rfl) ?_
  refine lv_aload_n hx hb dX2_thicknessInAll_5 rfl (lv_at hl 0 rfl) ?_
  refine zr_gq X hR (r := (some a0)) fl_X2_12 dX2_thicknessInAll_6 hf (fun v6 hf => ?_)
  obtain ⟨b9, fs9, hr9, ho9, hf⟩ := zz_ob_i hf
  obtain ⟨v9, hv9, hf⟩ := zz_b_i hf
  refine zr_cV X hR hl.1 (As := []) (rest := [.int x2]) (C := RJx4a65c) (T := TJx4a65c) (N := 3) (mt_Jx4a65c_size_8abf5 hT b9 h n hv9) rfl ho9 mf_Jx4a65c_size_8abf5 q_352 q_177 q_178 ⟨Nat.le_of_ble_eq_true rfl, Nat.le_of_ble_eq_true rfl⟩ ⟨Nat.le_of_ble_eq_true rfl, Nat.le_of_ble_eq_true rfl⟩ (by rw [hr9]; rfl) (Nat.le_of_ble_eq_true rfl) dX2_thicknessInAll_9 (fun H locs hR => ?_)
  refine W.eq (g2 := F0 m 12 ls [.int v9, .int x2]) rfl ?_
  refine lv_icmp_ge (tgt := 38) hx hb dX2_thicknessInAll_12 (by decide) (fun c12 => ?_) (fun c12 => ?_)
  · replace hf := zz_pos c12 hf
    refine lv_iload_n hx hb dX2_thicknessInAll_38 rfl (lv_at hl 1 rfl) ?_
    cases hf
    cases hret _ rfl
    exact zr_iret X hR dX2_thicknessInAll_39 (Nat.le_of_ble_eq_true rfl) (Nat.le_of_ble_eq_true rfl)
  · replace hf := zz_neg c12 hf
    refine lv_iload_n hx hb dX2_thicknessInAll_15 rfl (lv_at hl 1 rfl) ?_
    refine lv_aload_n hx hb dX2_thicknessInAll_16 rfl (lv_at hl 0 rfl) ?_
    refine zr_gq X hR (r := (some a0)) fl_X2_12 dX2_thicknessInAll_17 hf (fun v17 hf => ?_)
    refine lv_iload_n hx hb dX2_thicknessInAll_20 rfl (lv_at hl 2 rfl) ?_
    obtain ⟨b21, fs21, hr21, ho21, hf⟩ := zz_ob_i hf
    obtain ⟨v21, hv21, hf⟩ := zz_b_i hf
    refine zr_cV X hR hl.1 (As := [.int x2]) (rest := [.int x1]) (C := RJx4a65c) (T := TJx4a65c) (N := 3) (mt_Jx4a65c_get_915e3 hT b21 x2 h n hv21) rfl ho21 mf_Jx4a65c_get_915e3 q_353 q_254 q_255 ⟨Nat.le_of_ble_eq_true rfl, Nat.le_of_ble_eq_true rfl⟩ ⟨Nat.le_of_ble_eq_true rfl, Nat.le_of_ble_eq_true rfl⟩ (by rw [hr21]; rfl) (Nat.le_of_ble_eq_true rfl) dX2_thicknessInAll_21 (fun H locs hR => ?_)
    refine W.eq (g2 := F0 m 24 ls [va_rf v21, .int x1]) rfl ?_
    refine zr_cc X hR (ci := 7) (C := RX6) (T := TX6) (N := 6) (r := v21) rfl q_354 (Or.inr trivial) dX2_thicknessInAll_24 hf (fun hf => ?_)
    refine zr_giN X hR (r := v21) fn_X2_43 dX2_thicknessInAll_27 hf (fun v27 hf => ?_)
    refine lv_iadd hx hb dX2_thicknessInAll_30 ?_
    refine lv_istore_n (i := 1) (lv' := [(1, .int (x1 + v27)), (0, .ref a0), (2, .int x2)]) hx hb dX2_thicknessInAll_31 rfl hl (by decide) rfl (fun ls hl => ?_)
    refine lv_iinc (i := 2) (v := (x2 + (1 : Int32))) (lv' := [(2, .int (x2 + (1 : Int32))), (1, .int (x1 + v27)), (0, .ref a0)]) hx hb dX2_thicknessInAll_32 hl (k := 2) rfl rfl (by decide) rfl (fun ls hl => ?_)
    refine lv_goto (tgt := 4) hx hb dX2_thicknessInAll_35 (by decide) ?_
    cases hf
    exact k0 _ _ rfl hR (lv_sub hl [2, 1, 0] rfl)
set_option maxHeartbeats 4000000 in
set_option maxRecDepth 100000 in
theorem lp_X2_thicknessInAll_4 {D : va_G} {dA : Nat → ClassId} {base t0 : Nat} {l : Launch} {p : Program} {e : Env} {s : State} {m : MethodId} {args : Array Value} {below : List Frame} {meth : Method} {c : Code} (X : zz_X D dA base t0 "Springseat$Filling" cX2_thicknessInAll 3 (some .int) l p s m meth c) (hT : l.stackTraces = false) (a0 : Nat) {h : zz_H} {n : Nat} {r0 : Int32} : ∀ (k : Nat) (x1 : Int32) (x2 : Int32), zz_it (fun s : (Int32 × Int32) => f_X2_thicknessInAll_4 a0 s.1 s.2 h) k (x1, x2) = some r0 → ∀ {H : Heap} {locs : List Loc} {ls : Array Slot}, zz_R D dA base h n s H locs → lv_has ls 3 [(0, .ref a0), (1, .int x1), (2, .int x2)] → W p l e rm_X2_thicknessInAll s m args below meth c H locs 0 0 (MQ below (zz_Qc D dA base (some (.int r0)) h n) args s rm_X2_thicknessInAll.cells rm_X2_thicknessInAll.slots (fun q => base ≤ q)) (F0 m 4 ls []) := by
  intro k
  induction k with
  | zero => intro x1 x2 hf; cases hf
  | succ k ih =>
    intro x1 x2 hf H locs ls hR hl
    rcases zz_it_s hf with ⟨⟨y0, y1⟩, h1, h2⟩ | h1
    · exact bk_X2_thicknessInAll_4 (r0 := r0) X hT hR hl h1  (fun z0 z1 e => by cases e; exact ih _ _ h2) (fun r e => by cases e)
    · exact bk_X2_thicknessInAll_4 (r0 := r0) X hT hR hl h1  (fun z0 z1 e => by cases e) (fun r e => (Sum.inr.inj e).symm)
set_option maxHeartbeats 4000000 in
set_option maxRecDepth 100000 in
theorem mt_X2_thicknessInAll {D : va_G} {dA : Nat → ClassId} {base t0 : Nat} {l : Launch} (hT : l.stackTraces = false) (a0 : Nat) (h : zz_H) (n : Nat) {r0 : Int32} (hf : f_X2_thicknessInAll a0 h = some r0) : zz_M D dA base t0 l yX2_thicknessInAll cX2_thicknessInAll 3 (some .int) rm_X2_thicknessInAll [.ref a0] h n (some (.int r0)) h n := by
  refine Met.ofW (cc := cX2_thicknessInAll) (maxL := 3) (ret := (some .int)) (by decide +kernel) rfl ?_
  intro p e s m args below meth c s₁ B hml hv
  obtain ⟨rfl, hP, hK⟩ := hv
  have X : zz_X D dA base t0 "Springseat$Filling" cX2_thicknessInAll 3 (some .int) l p s m meth c := ⟨B.exec, B.bytes, hml, B.returns, findClass_of_methodNamed B.named, B.notSynchronized, hT, by rw [hP.1]; exact hP.2.1, hK⟩
  have hx := X.1
  have hb := X.2.1
  have hown := X.2.2.2.2.1
  have hR : zz_R D dA base h n s s.heap [] := ⟨hP, va_S.rf⟩
  have hl := lv_entry ([.ref a0]) (n := 3) (by exact Nat.le_of_ble_eq_true rfl)
  rw [lg_entry_eq]
  generalize (lg_sl ([.ref a0]) ++ List.replicate (3 - (lg_sl ([.ref a0])).length) Slot.unset).toArray = ls at hl ⊢
  have hl : lv_has ls 3 [(0, .ref a0)] := hl
  unfold f_X2_thicknessInAll at hf
  refine lv_iconst (v := (0 : Int32)) hx hb dX2_thicknessInAll_0 (by decide) ?_
  refine lv_istore_n (i := 1) (lv' := [(1, .int (0 : Int32)), (0, .ref a0)]) hx hb dX2_thicknessInAll_1 rfl hl (by decide) rfl (fun ls hl => ?_)
  refine lv_iconst (v := (0 : Int32)) hx hb dX2_thicknessInAll_2 (by decide) ?_
  refine lv_istore_n (i := 2) (lv' := [(2, .int (0 : Int32)), (1, .int (0 : Int32)), (0, .ref a0)]) hx hb dX2_thicknessInAll_3 rfl hl (by decide) rfl (fun ls hl => ?_)
  exact lp_X2_thicknessInAll_4 X hT a0 zz_F _ _ hf hR (lv_sub hl [2, 1, 0] rfl)
end ZZM
