section ZZM
def rm_X10_burns : Room := { frames := 2, cells := 0, slots := 0, locals := 43 }
theorem mf_X10_burns : zz_Mf yX10_burns cX10_burns 5 (some .boolean) 2 := ⟨q_1623, q_11, by decide +kernel, by decide +kernel, by decide +kernel⟩
set_option maxHeartbeats 4000000 in
set_option maxRecDepth 100000 in
theorem bk_X10_burns_124 {D : va_G} {dA : Nat → ClassId} {base t0 : Nat} {l : Launch} {p : Program} {e : Env} {s : State} {m : MethodId} {args : Array Value} {below : List Frame} {meth : Method} {c : Code} (X : zz_X D dA base t0 "SpringseatModel" cX10_burns 5 (some .boolean) l p s m meth c) (hT : l.stackTraces = false) {s0 : Int32} {h : zz_H} {n : Nat} {H : Heap} {locs : List Loc} {ls : Array Slot} (hR : zz_R D dA base h n s H locs) (hl : lv_has ls 5 []) {r0 : Int32} {hF : zz_H} (hf : f_X10_burns_124 s0 h = some (r0, hF)) : W p l e rm_X10_burns s m args below meth c H locs 0 0 (MQ below (zz_Qc D dA base (some (.int r0)) hF n) args s rm_X10_burns.cells rm_X10_burns.slots (fun q => base ≤ q)) (F0 m 124 ls [.int s0]) := by
  have hx := X.1
  have hb := X.2.1
  have hown := X.2.2.2.2.1
  unfold f_X10_burns_124 at hf
  obtain ⟨hz124, hf⟩ := zz_gz_i hf
  cases hf
  exact zr_zret X hR (zz_nz hz124) dX10_burns_124 (Nat.le_of_ble_eq_true rfl) (Nat.le_of_ble_eq_true rfl)
set_option maxHeartbeats 4000000 in
set_option maxRecDepth 100000 in
theorem bk_X10_burns_119 {D : va_G} {dA : Nat → ClassId} {base t0 : Nat} {l : Launch} {p : Program} {e : Env} {s : State} {m : MethodId} {args : Array Value} {below : List Frame} {meth : Method} {c : Code} (X : zz_X D dA base t0 "SpringseatModel" cX10_burns 5 (some .boolean) l p s m meth c) (hT : l.stackTraces = false) {h : zz_H} {n : Nat} {H : Heap} {locs : List Loc} {ls : Array Slot} (hR : zz_R D dA base h n s H locs) (hl : lv_has ls 5 []) {r0 : Int32} {hF : zz_H} (hf : f_X10_burns_119 h = some (r0, hF)) : W p l e rm_X10_burns s m args below meth c H locs 0 0 (MQ below (zz_Qc D dA base (some (.int r0)) hF n) args s rm_X10_burns.cells rm_X10_burns.slots (fun q => base ≤ q)) (F0 m 119 ls []) := by
  have hx := X.1
  have hb := X.2.1
  have hown := X.2.2.2.2.1
  unfold f_X10_burns_119 at hf
  refine lv_iconst (v := (1 : Int32)) hx hb dX10_burns_119 (by decide) ?_
  refine lv_goto (tgt := 124) hx hb dX10_burns_120 (by decide) ?_
  exact bk_X10_burns_124 X hT hR (lv_sub hl [] rfl) hf
set_option maxHeartbeats 4000000 in
set_option maxRecDepth 100000 in
theorem bk_X10_burns_77 {D : va_G} {dA : Nat → ClassId} {base t0 : Nat} {l : Launch} {p : Program} {e : Env} {s : State} {m : MethodId} {args : Array Value} {below : List Frame} {meth : Method} {c : Code} (X : zz_X D dA base t0 "SpringseatModel" cX10_burns 5 (some .boolean) l p s m meth c) (hT : l.stackTraces = false) {a0 : Nat} {x1 : Int32} {x2 : Int32} {x4 : Int32} {s0 : Int32} {s1 : Int32} {h : zz_H} {n : Nat} {H : Heap} {locs : List Loc} {ls : Array Slot} (hR : zz_R D dA base h n s H locs) (hl : lv_has ls 5 [(0, .ref a0), (1, .int x1), (2, .int x2), (4, .int x4)]) {r0 : Int32} {hF : zz_H} {o : ((Int32 × Int32) ⊕ (Int32 × zz_H))} (hf : f_X10_burns_77 a0 x1 x2 x4 s0 s1 h = some o) (k0 : ∀ (w3 : Int32) (w4 : Int32), o = (.inl (w3, w4)) → ∀ {H : Heap} {locs : List Loc} {ls : Array Slot}, zz_R D dA base h n s H locs → lv_has ls 5 [(0, .ref a0), (1, .int x1), (2, .int x2), (3, .int w3), (4, .int w4)] → W p l e rm_X10_burns s m args below meth c H locs 0 0 (MQ below (zz_Qc D dA base (some (.int r0)) hF n) args s rm_X10_burns.cells rm_X10_burns.slots (fun q => base ≤ q)) (F0 m 46 ls [])) (hret : ∀ r, o = (.inr r) → r = (r0, hF)) : W p l e rm_X10_burns s m args below meth c H locs 0 0 (MQ below (zz_Qc D dA base (some (.int r0)) hF n) args s rm_X10_burns.cells rm_X10_burns.slots (fun q => base ≤ q)) (F0 m 77 ls [.int s0, .int s1]) := by
  have hx := X.1
  have hb := X.2.1
  have hown := X.2.2.2.2.1
  unfold f_X10_burns_77 at hf
  refine lv_iadd hx hb dX10_burns_77 ?_
  refine lv_istore_n (i := 3) (lv' := [(3, .int (s1 + s0)), (0, .ref a0), (1, .int x1), (2, .int x2), (4, .int x4)]) hx hb dX10_burns_78 rfl hl (by decide) rfl (fun ls hl => ?_)
  refine lv_iinc (i := 4) (v := (x4 + (1 : Int32))) (lv' := [(4, .int (x4 + (1 : Int32))), (3, .int (s1 + s0)), (0, .ref a0), (1, .int x1), (2, .int x2)]) hx hb dX10_burns_79 hl (k := 4) rfl rfl (by decide) rfl (fun ls hl => ?_)
  refine lv_goto (tgt := 46) hx hb dX10_burns_82 (by decide) ?_
  cases hf
  exact k0 _ _ rfl hR (lv_sub hl [2, 3, 4, 1, 0] rfl)
set_option maxHeartbeats 4000000 in
set_option maxRecDepth 100000 in
theorem bk_X10_burns_46 {D : va_G} {dA : Nat → ClassId} {base t0 : Nat} {l : Launch} {p : Program} {e : Env} {s : State} {m : MethodId} {args : Array Value} {below : List Frame} {meth : Method} {c : Code} (X : zz_X D dA base t0 "SpringseatModel" cX10_burns 5 (some .boolean) l p s m meth c) (hT : l.stackTraces = false) {a0 : Nat} {x1 : Int32} {x2 : Int32} {x3 : Int32} {x4 : Int32} {h : zz_H} {n : Nat} {H : Heap} {locs : List Loc} {ls : Array Slot} (hR : zz_R D dA base h n s H locs) (hl : lv_has ls 5 [(0, .ref a0), (1, .int x1), (2, .int x2), (3, .int x3), (4, .int x4)]) {r0 : Int32} {hF : zz_H} {o : ((Int32 × Int32) ⊕ (Int32 × zz_H))} (hf : f_X10_burns_46 a0 x1 x2 x3 x4 h = some o) (k0 : ∀ (w3 : Int32) (w4 : Int32), o = (.inl (w3, w4)) → ∀ {H : Heap} {locs : List Loc} {ls : Array Slot}, zz_R D dA base h n s H locs → lv_has ls 5 [(0, .ref a0), (1, .int x1), (2, .int x2), (3, .int w3), (4, .int w4)] → W p l e rm_X10_burns s m args below meth c H locs 0 0 (MQ below (zz_Qc D dA base (some (.int r0)) hF n) args s rm_X10_burns.cells rm_X10_burns.slots (fun q => base ≤ q)) (F0 m 46 ls [])) (hret : ∀ r, o = (.inr r) → r = (r0, hF)) : W p l e rm_X10_burns s m args below meth c H locs 0 0 (MQ below (zz_Qc D dA base (some (.int r0)) hF n) args s rm_X10_burns.cells rm_X10_burns.slots (fun q => base ≤ q)) (F0 m 46 ls []) := by
  have hx := X.1
  have hb := X.2.1
  have hown := X.2.2.2.2.1
  unfold f_X10_burns_46 at hf
  refine lv_iload hx hb dX10_burns_46 (lv_at hl 4 rfl) ?_
  refine lv_aload_n hx hb dX10_burns_48 rfl (lv_at hl 0 rfl) ?_
  refine zr_gq X hR (r := (some a0)) fl_X10_48 dX10_burns_49 hf (fun v49 hf => ?_)
  refine lv_iload_n hx hb dX10_burns_52 rfl (lv_at hl 1 rfl) ?_
  refine zr_iald X hR (r := v49) dX10_burns_53 hf (fun v53 hf => ?_)
  refine lv_icmp_ge (tgt := 85) hx hb dX10_burns_54 (by decide) (fun c54 => ?_) (fun c54 => ?_)
  · replace hf := zz_pos c54 hf
    refine lv_aload_n hx hb dX10_burns_85 rfl (lv_at hl 0 rfl) ?_
    refine zr_gq X hR (r := (some a0)) fl_X10_51 dX10_burns_86 hf (fun v86 hf => ?_)
    refine lv_iload_n hx hb dX10_burns_89 rfl (lv_at hl 1 rfl) ?_
    refine zr_aald X hR (t := 8) (r := v86) (by decide) rfl dX10_burns_90 hf (fun v90 hf => ?_)
    refine lv_aload_n hx hb dX10_burns_91 rfl (lv_at hl 0 rfl) ?_
    refine zr_gq X hR (r := (some a0)) fl_X10_48 dX10_burns_92 hf (fun v92 hf => ?_)
    refine lv_iload_n hx hb dX10_burns_95 rfl (lv_at hl 1 rfl) ?_
    refine zr_iald X hR (r := v92) dX10_burns_96 hf (fun v96 hf => ?_)
    refine lv_iconst (v := (1 : Int32)) hx hb dX10_burns_97 (by decide) ?_
    refine lv_isub hx hb dX10_burns_98 ?_
    refine zr_cald X hR (r := v90) dX10_burns_99 hf (fun v99 hf => ?_)
    refine lv_aload_n hx hb dX10_burns_100 rfl (lv_at hl 0 rfl) ?_
    refine zr_gq X hR (r := (some a0)) fl_X10_104 dX10_burns_101 hf (fun v101 hf => ?_)
    refine lv_iload_n hx hb dX10_burns_104 rfl (lv_at hl 2 rfl) ?_
    refine zr_cald X hR (r := v101) dX10_burns_105 hf (fun v105 hf => ?_)
    refine lv_icmp_eq (tgt := 119) hx hb dX10_burns_106 (by decide) (fun c106 => ?_) (fun c106 => ?_)
    · replace hf := zz_pos c106 hf
      obtain ⟨o1, hf1, he⟩ := Option.map_eq_some_iff.mp hf
      cases he
      cases hret _ rfl
      exact bk_X10_burns_119 X hT hR (lv_sub hl [] rfl) hf1
    · replace hf := zz_neg c106 hf
      refine lv_iload_n hx hb dX10_burns_109 rfl (lv_at hl 3 rfl) ?_
      refine lv_aload_n hx hb dX10_burns_110 rfl (lv_at hl 0 rfl) ?_
      refine zr_gq X hR (r := (some a0)) fl_X10_108 dX10_burns_111 hf (fun v111 hf => ?_)
      refine lv_iload_n hx hb dX10_burns_114 rfl (lv_at hl 2 rfl) ?_
      refine zr_iald X hR (r := v111) dX10_burns_115 hf (fun v115 hf => ?_)
      refine lv_icmp_le (tgt := 123) hx hb dX10_burns_116 (by decide) (fun c116 => ?_) (fun c116 => ?_)
      · replace hf := zz_pos c116 hf
        refine lv_iconst (v := (0 : Int32)) hx hb dX10_burns_123 (by decide) ?_
        obtain ⟨o1, hf1, he⟩ := Option.map_eq_some_iff.mp hf
        cases he
        cases hret _ rfl
        exact bk_X10_burns_124 X hT hR (lv_sub hl [] rfl) hf1
      · replace hf := zz_neg c116 hf
        obtain ⟨o1, hf1, he⟩ := Option.map_eq_some_iff.mp hf
        cases he
        cases hret _ rfl
        exact bk_X10_burns_119 X hT hR (lv_sub hl [] rfl) hf1
  · replace hf := zz_neg c54 hf
    refine lv_iload_n hx hb dX10_burns_57 rfl (lv_at hl 3 rfl) ?_
    refine lv_aload_n hx hb dX10_burns_58 rfl (lv_at hl 0 rfl) ?_
    refine zr_gq X hR (r := (some a0)) fl_X10_51 dX10_burns_59 hf (fun v59 hf => ?_)
    refine lv_iload_n hx hb dX10_burns_62 rfl (lv_at hl 1 rfl) ?_
    refine zr_aald X hR (t := 8) (r := v59) (by decide) rfl dX10_burns_63 hf (fun v63 hf => ?_)
    refine lv_iload hx hb dX10_burns_64 (lv_at hl 4 rfl) ?_
    refine zr_cald X hR (r := v63) dX10_burns_66 hf (fun v66 hf => ?_)
    refine lv_bipush (v := (102 : Int32)) hx hb dX10_burns_67 (by decide) ?_
    refine lv_icmp_ne (tgt := 76) hx hb dX10_burns_69 (by decide) (fun c69 => ?_) (fun c69 => ?_)
    · replace hf := zz_neg c69 hf
      refine lv_iconst (v := (0 : Int32)) hx hb dX10_burns_76 (by decide) ?_
      exact bk_X10_burns_77 X hT hR (lv_sub hl [0, 1, 2, 4] rfl) hf k0 hret
    · replace hf := zz_pos c69 hf
      refine lv_iconst (v := (1 : Int32)) hx hb dX10_burns_72 (by decide) ?_
      refine lv_goto (tgt := 77) hx hb dX10_burns_73 (by decide) ?_
      exact bk_X10_burns_77 X hT hR (lv_sub hl [0, 1, 2, 4] rfl) hf k0 hret
set_option maxHeartbeats 4000000 in
set_option maxRecDepth 100000 in
theorem lp_X10_burns_46 {D : va_G} {dA : Nat → ClassId} {base t0 : Nat} {l : Launch} {p : Program} {e : Env} {s : State} {m : MethodId} {args : Array Value} {below : List Frame} {meth : Method} {c : Code} (X : zz_X D dA base t0 "SpringseatModel" cX10_burns 5 (some .boolean) l p s m meth c) (hT : l.stackTraces = false) (a0 : Nat) (x1 : Int32) (x2 : Int32) {h : zz_H} {n : Nat} {r0 : Int32} {hF : zz_H} : ∀ (k : Nat) (x3 : Int32) (x4 : Int32), zz_it (fun s : (Int32 × Int32) => f_X10_burns_46 a0 x1 x2 s.1 s.2 h) k (x3, x4) = some (r0, hF) → ∀ {H : Heap} {locs : List Loc} {ls : Array Slot}, zz_R D dA base h n s H locs → lv_has ls 5 [(0, .ref a0), (1, .int x1), (2, .int x2), (3, .int x3), (4, .int x4)] → W p l e rm_X10_burns s m args below meth c H locs 0 0 (MQ below (zz_Qc D dA base (some (.int r0)) hF n) args s rm_X10_burns.cells rm_X10_burns.slots (fun q => base ≤ q)) (F0 m 46 ls []) := by
  intro k
  induction k with
  | zero => intro x3 x4 hf; cases hf
  | succ k ih =>
    intro x3 x4 hf H locs ls hR hl
    rcases zz_it_s hf with ⟨⟨y0, y1⟩, h1, h2⟩ | h1
    · exact bk_X10_burns_46 (r0 := r0) X hT hR hl h1  (fun z0 z1 e => by cases e; exact ih _ _ h2) (fun r e => by cases e)
    · exact bk_X10_burns_46 (r0 := r0) X hT hR hl h1  (fun z0 z1 e => by cases e) (fun r e => (Sum.inr.inj e).symm)
set_option maxHeartbeats 4000000 in
set_option maxRecDepth 100000 in
theorem bk_X10_burns_39 {D : va_G} {dA : Nat → ClassId} {base t0 : Nat} {l : Launch} {p : Program} {e : Env} {s : State} {m : MethodId} {args : Array Value} {below : List Frame} {meth : Method} {c : Code} (X : zz_X D dA base t0 "SpringseatModel" cX10_burns 5 (some .boolean) l p s m meth c) (hT : l.stackTraces = false) {h : zz_H} {n : Nat} {H : Heap} {locs : List Loc} {ls : Array Slot} (hR : zz_R D dA base h n s H locs) (hl : lv_has ls 5 []) {r0 : Int32} {hF : zz_H} (hf : f_X10_burns_39 h = some (r0, hF)) : W p l e rm_X10_burns s m args below meth c H locs 0 0 (MQ below (zz_Qc D dA base (some (.int r0)) hF n) args s rm_X10_burns.cells rm_X10_burns.slots (fun q => base ≤ q)) (F0 m 39 ls []) := by
  have hx := X.1
  have hb := X.2.1
  have hown := X.2.2.2.2.1
  unfold f_X10_burns_39 at hf
  refine lv_iconst (v := (0 : Int32)) hx hb dX10_burns_39 (by decide) ?_
  cases hf
  exact zr_zret X hR (v := (0 : Int32)) rfl dX10_burns_40 (Nat.le_of_ble_eq_true rfl) (Nat.le_of_ble_eq_true rfl)
set_option maxHeartbeats 4000000 in
set_option maxRecDepth 100000 in
theorem bk_X10_burns_23 {D : va_G} {dA : Nat → ClassId} {base t0 : Nat} {l : Launch} {p : Program} {e : Env} {s : State} {m : MethodId} {args : Array Value} {below : List Frame} {meth : Method} {c : Code} (X : zz_X D dA base t0 "SpringseatModel" cX10_burns 5 (some .boolean) l p s m meth c) (hT : l.stackTraces = false) {a0 : Nat} {x1 : Int32} {x2 : Int32} {s0 : Int32} {s1 : (Option Nat)} {h : zz_H} {n : Nat} {H : Heap} {locs : List Loc} {ls : Array Slot} (hR : zz_R D dA base h n s H locs) (hl : lv_has ls 5 [(0, .ref a0), (1, .int x1), (2, .int x2)]) {r0 : Int32} {hF : zz_H} (hf : f_X10_burns_23 a0 x1 x2 s0 s1 h = some (r0, hF)) : W p l e rm_X10_burns s m args below meth c H locs 0 0 (MQ below (zz_Qc D dA base (some (.int r0)) hF n) args s rm_X10_burns.cells rm_X10_burns.slots (fun q => base ≤ q)) (F0 m 23 ls [.int s0, va_rf s1]) := by
  have hx := X.1
  have hb := X.2.1
  have hown := X.2.2.2.2.1
  unfold f_X10_burns_23 at hf
  refine lv_iconst (v := (1 : Int32)) hx hb dX10_burns_23 (by decide) ?_
  obtain ⟨b24, fs24, hr24, ho24, hf⟩ := zz_ob_i hf
  obtain ⟨v24, h24, hv24, hf⟩ := zz_b1_i hf
  refine zr_cV X hR hl.1 (As := [.int s0, .int (1 : Int32)]) (rest := []) (C := RX10) (T := TX10) (N := 34) (mt_X10_isThrown hT b24 s0 (1 : Int32) h n hv24) rfl ho24 mf_X10_isThrown q_1370 q_1372 qs_17 ⟨Nat.le_of_ble_eq_true rfl, Nat.le_of_ble_eq_true rfl⟩ ⟨Nat.le_of_ble_eq_true rfl, Nat.le_of_ble_eq_true rfl⟩ (by rw [hr24]; rfl) (Nat.le_of_ble_eq_true rfl) dX10_burns_24 (fun H locs hR => ?_)
  refine W.eq (g2 := F0 m 27 ls [.int v24]) rfl ?_
  refine lv_if_ne (tgt := 39) hx hb dX10_burns_27 (by decide) (fun c27 => ?_) (fun c27 => ?_)
  · replace hf := zz_neg c27 hf
    exact bk_X10_burns_39 X hT hR (lv_sub hl [] rfl) hf
  · replace hf := zz_pos c27 hf
    refine lv_aload_n hx hb dX10_burns_30 rfl (lv_at hl 0 rfl) ?_
    refine zr_gq X hR (r := (some a0)) fl_X10_48 dX10_burns_31 hf (fun v31 hf => ?_)
    refine lv_iload_n hx hb dX10_burns_34 rfl (lv_at hl 1 rfl) ?_
    refine zr_iald X hR (r := v31) dX10_burns_35 hf (fun v35 hf => ?_)
    refine lv_if_ne (tgt := 41) hx hb dX10_burns_36 (by decide) (fun c36 => ?_) (fun c36 => ?_)
    · replace hf := zz_neg c36 hf
      refine lv_iconst (v := (0 : Int32)) hx hb dX10_burns_41 (by decide) ?_
      refine lv_istore_n (i := 3) (lv' := [(3, .int (0 : Int32)), (0, .ref a0), (1, .int x1), (2, .int x2)]) hx hb dX10_burns_42 rfl hl (by decide) rfl (fun ls hl => ?_)
      refine lv_iconst (v := (0 : Int32)) hx hb dX10_burns_43 (by decide) ?_
      refine lv_istore (i := 4) (lv' := [(4, .int (0 : Int32)), (3, .int (0 : Int32)), (0, .ref a0), (1, .int x1), (2, .int x2)]) hx hb dX10_burns_44 hl (by decide) rfl (fun ls hl => ?_)
      exact lp_X10_burns_46 X hT a0 x1 x2 zz_F _ _ hf hR (lv_sub hl [2, 3, 4, 1, 0] rfl)
    · replace hf := zz_pos c36 hf
      exact bk_X10_burns_39 X hT hR (lv_sub hl [] rfl) hf
set_option maxHeartbeats 4000000 in
set_option maxRecDepth 100000 in
theorem bk_X10_burns_18 {D : va_G} {dA : Nat → ClassId} {base t0 : Nat} {l : Launch} {p : Program} {e : Env} {s : State} {m : MethodId} {args : Array Value} {below : List Frame} {meth : Method} {c : Code} (X : zz_X D dA base t0 "SpringseatModel" cX10_burns 5 (some .boolean) l p s m meth c) (hT : l.stackTraces = false) {a0 : Nat} {x1 : Int32} {x2 : Int32} {s0 : (Option Nat)} {h : zz_H} {n : Nat} {H : Heap} {locs : List Loc} {ls : Array Slot} (hR : zz_R D dA base h n s H locs) (hl : lv_has ls 5 [(0, .ref a0), (1, .int x1), (2, .int x2)]) {r0 : Int32} {hF : zz_H} (hf : f_X10_burns_18 a0 x1 x2 s0 h = some (r0, hF)) : W p l e rm_X10_burns s m args below meth c H locs 0 0 (MQ below (zz_Qc D dA base (some (.int r0)) hF n) args s rm_X10_burns.cells rm_X10_burns.slots (fun q => base ≤ q)) (F0 m 18 ls [va_rf s0]) := by
  have hx := X.1
  have hb := X.2.1
  have hown := X.2.2.2.2.1
  unfold f_X10_burns_18 at hf
  refine lv_iconst (v := (1 : Int32)) hx hb dX10_burns_18 (by decide) ?_
  refine lv_goto (tgt := 23) hx hb dX10_burns_19 (by decide) ?_
  exact bk_X10_burns_23 X hT hR (lv_sub hl [0, 1, 2] rfl) hf
set_option maxHeartbeats 4000000 in
set_option maxRecDepth 100000 in
theorem mt_X10_burns {D : va_G} {dA : Nat → ClassId} {base t0 : Nat} {l : Launch} (hT : l.stackTraces = false) (a0 : Nat) (x1 : Int32) (x2 : Int32) (h : zz_H) (n : Nat) {r0 : Int32} {hF : zz_H} (hf : f_X10_burns a0 x1 x2 h = some (r0, hF)) : zz_M D dA base t0 l yX10_burns cX10_burns 5 (some .boolean) rm_X10_burns [.ref a0, .int x1, .int x2] h n (some (.int r0)) hF n := by
  refine Met.ofW (cc := cX10_burns) (maxL := 5) (ret := (some .boolean)) (by decide +kernel) rfl ?_
  intro p e s m args below meth c s₁ B hml hv
  obtain ⟨rfl, hP, hK⟩ := hv
  have X : zz_X D dA base t0 "SpringseatModel" cX10_burns 5 (some .boolean) l p s m meth c := ⟨B.exec, B.bytes, hml, B.returns, findClass_of_methodNamed B.named, B.notSynchronized, hT, by rw [hP.1]; exact hP.2.1, hK⟩
  have hx := X.1
  have hb := X.2.1
  have hown := X.2.2.2.2.1
  have hR : zz_R D dA base h n s s.heap [] := ⟨hP, va_S.rf⟩
  have hl := lv_entry ([.ref a0, .int x1, .int x2]) (n := 5) (by exact Nat.le_of_ble_eq_true rfl)
  rw [lg_entry_eq]
  generalize (lg_sl ([.ref a0, .int x1, .int x2]) ++ List.replicate (5 - (lg_sl ([.ref a0, .int x1, .int x2])).length) Slot.unset).toArray = ls at hl ⊢
  have hl : lv_has ls 5 [(0, .ref a0), (1, .int x1), (2, .int x2)] := hl
  unfold f_X10_burns at hf
  refine lv_aload_n hx hb dX10_burns_0 rfl (lv_at hl 0 rfl) ?_
  refine lv_aload_n hx hb dX10_burns_1 rfl (lv_at hl 0 rfl) ?_
  refine lv_iload_n hx hb dX10_burns_2 rfl (lv_at hl 1 rfl) ?_
  obtain ⟨fs3, ho3, hf⟩ := zz_obS_i hf
  obtain ⟨v3, hv3, hf⟩ := zz_b_i hf
  refine zr_cV X hR hl.1 (As := [.int x1]) (rest := [.ref a0]) (C := RX10) (T := TX10) (N := 34) (mt_X10_isNoSeat hT a0 x1 h n hv3) rfl ho3 mf_X10_isNoSeat q_1378 q_1380 qs_18 ⟨Nat.le_of_ble_eq_true rfl, Nat.le_of_ble_eq_true rfl⟩ ⟨Nat.le_of_ble_eq_true rfl, Nat.le_of_ble_eq_true rfl⟩ rfl (Nat.le_of_ble_eq_true rfl) dX10_burns_3 (fun H locs hR => ?_)
  refine W.eq (g2 := F0 m 6 ls [.int v3, .ref a0]) rfl ?_
  refine lv_if_ne (tgt := 18) hx hb dX10_burns_6 (by decide) (fun c6 => ?_) (fun c6 => ?_)
  · replace hf := zz_neg c6 hf
    exact bk_X10_burns_18 X hT hR (lv_sub hl [0, 1, 2] rfl) hf
  · replace hf := zz_pos c6 hf
    refine lv_iload_n hx hb dX10_burns_9 rfl (lv_at hl 2 rfl) ?_
    refine lv_iconst (v := (0 : Int32)) hx hb dX10_burns_10 (by decide) ?_
    refine lv_iconst (v := (3 : Int32)) hx hb dX10_burns_11 (by decide) ?_
    obtain ⟨v12, hv12, hf⟩ := zz_b_i hf
    refine zr_cS X hR hl.1 (As := [.int x2, .int (0 : Int32), .int (3 : Int32)]) (rest := [.ref a0]) (mt_X10_isIn hT x2 (0 : Int32) (3 : Int32) h n hv12) mf_X10_isIn q_1367 q_1368 ⟨Nat.le_of_ble_eq_true rfl, Nat.le_of_ble_eq_true rfl⟩ ⟨Nat.le_of_ble_eq_true rfl, Nat.le_of_ble_eq_true rfl⟩ rfl (Nat.le_of_ble_eq_true rfl) dX10_burns_12 (fun H locs hR => ?_)
    refine W.eq (g2 := F0 m 15 ls [.int v12, .ref a0]) rfl ?_
    refine lv_if_ne (tgt := 22) hx hb dX10_burns_15 (by decide) (fun c15 => ?_) (fun c15 => ?_)
    · replace hf := zz_neg c15 hf
      refine lv_iconst (v := (0 : Int32)) hx hb dX10_burns_22 (by decide) ?_
      exact bk_X10_burns_23 X hT hR (lv_sub hl [0, 1, 2] rfl) hf
    · replace hf := zz_pos c15 hf
      exact bk_X10_burns_18 X hT hR (lv_sub hl [0, 1, 2] rfl) hf
def rm_X10_tack : Room := { frames := 3, cells := 0, slots := 0, locals := 65 }
theorem mf_X10_tack : zz_Mf yX10_tack cX10_tack 5 (some .int) 3 := ⟨q_1627, q_11, by decide +kernel, by decide +kernel, by decide +kernel⟩
set_option maxHeartbeats 4000000 in
set_option maxRecDepth 100000 in
theorem bk_X10_tack_35 {D : va_G} {dA : Nat → ClassId} {base t0 : Nat} {l : Launch} {p : Program} {e : Env} {s : State} {m : MethodId} {args : Array Value} {below : List Frame} {meth : Method} {c : Code} (X : zz_X D dA base t0 "SpringseatModel" cX10_tack 5 (some .int) l p s m meth c) (hT : l.stackTraces = false) {h : zz_H} {n : Nat} {H : Heap} {locs : List Loc} {ls : Array Slot} (hR : zz_R D dA base h n s H locs) (hl : lv_has ls 5 []) {r0 : Int32} {hF : zz_H} (hf : f_X10_tack_35 h = some (r0, hF)) : W p l e rm_X10_tack s m args below meth c H locs 0 0 (MQ below (zz_Qc D dA base (some (.int r0)) hF n) args s rm_X10_tack.cells rm_X10_tack.slots (fun q => base ≤ q)) (F0 m 35 ls []) := by
  have hx := X.1
  have hb := X.2.1
  have hown := X.2.2.2.2.1
  unfold f_X10_tack_35 at hf
  refine lv_iconst (v := (0 : Int32)) hx hb dX10_tack_35 (by decide) ?_
  cases hf
  exact zr_iret X hR dX10_tack_36 (Nat.le_of_ble_eq_true rfl) (Nat.le_of_ble_eq_true rfl)
set_option maxHeartbeats 4000000 in
set_option maxRecDepth 100000 in
theorem bk_X10_tack_28 {D : va_G} {dA : Nat → ClassId} {base t0 : Nat} {l : Launch} {p : Program} {e : Env} {s : State} {m : MethodId} {args : Array Value} {below : List Frame} {meth : Method} {c : Code} (X : zz_X D dA base t0 "SpringseatModel" cX10_tack 5 (some .int) l p s m meth c) (hT : l.stackTraces = false) {a0 : Nat} {x1 : Int32} {x2 : Int32} {x3 : Int32} {s0 : Int32} {s1 : (Option Nat)} {h : zz_H} {n : Nat} {H : Heap} {locs : List Loc} {ls : Array Slot} (hR : zz_R D dA base h n s H locs) (hl : lv_has ls 5 [(0, .ref a0), (1, .int x1), (2, .int x2), (3, .int x3)]) {r0 : Int32} {hF : zz_H} (hf : f_X10_tack_28 a0 x1 x2 x3 s0 s1 h = some (r0, hF)) : W p l e rm_X10_tack s m args below meth c H locs 0 0 (MQ below (zz_Qc D dA base (some (.int r0)) hF n) args s rm_X10_tack.cells rm_X10_tack.slots (fun q => base ≤ q)) (F0 m 28 ls [.int s0, va_rf s1]) := by
  have hx := X.1
  have hb := X.2.1
  have hown := X.2.2.2.2.1
  unfold f_X10_tack_28 at hf
  refine lv_iconst (v := (3 : Int32)) hx hb dX10_tack_28 (by decide) ?_
  obtain ⟨b29, fs29, hr29, ho29, hf⟩ := zz_ob_i hf
  obtain ⟨v29, h29, hv29, hf⟩ := zz_b1_i hf
  refine zr_cV X hR hl.1 (As := [.int s0, .int (3 : Int32)]) (rest := []) (C := RX10) (T := TX10) (N := 34) (mt_X10_isThrown hT b29 s0 (3 : Int32) h n hv29) rfl ho29 mf_X10_isThrown q_1370 q_1372 qs_17 ⟨Nat.le_of_ble_eq_true rfl, Nat.le_of_ble_eq_true rfl⟩ ⟨Nat.le_of_ble_eq_true rfl, Nat.le_of_ble_eq_true rfl⟩ (by rw [hr29]; rfl) (Nat.le_of_ble_eq_true rfl) dX10_tack_29 (fun H locs hR => ?_)
  refine W.eq (g2 := F0 m 32 ls [.int v29]) rfl ?_
  refine lv_if_eq (tgt := 37) hx hb dX10_tack_32 (by decide) (fun c32 => ?_) (fun c32 => ?_)
  · replace hf := zz_pos c32 hf
    refine lv_aload_n hx hb dX10_tack_37 rfl (lv_at hl 0 rfl) ?_
    refine zr_gq X hR (r := (some a0)) fl_X10_65 dX10_tack_38 hf (fun v38 hf => ?_)
    refine lv_iload_n hx hb dX10_tack_41 rfl (lv_at hl 1 rfl) ?_
    refine zr_aald X hR (t := 6) (r := v38) (by decide) rfl dX10_tack_42 hf (fun v42 hf => ?_)
    refine lv_iload_n hx hb dX10_tack_43 rfl (lv_at hl 2 rfl) ?_
    refine zr_iald X hR (r := v42) dX10_tack_44 hf (fun v44 hf => ?_)
    refine lv_istore (i := 4) (lv' := [(4, .int v44), (0, .ref a0), (1, .int x1), (2, .int x2), (3, .int x3)]) hx hb dX10_tack_45 hl (by decide) rfl (fun ls hl => ?_)
    refine lv_aload_n hx hb dX10_tack_47 rfl (lv_at hl 1 rfl) ?_
    refine zr_gq X hR (r := (some a0)) fl_X10_65 dX10_tack_48 hf (fun v48 hf => ?_)
    refine lv_iload_n hx hb dX10_tack_51 rfl (lv_at hl 2 rfl) ?_
    refine zr_aald X hR (t := 6) (r := v48) (by decide) rfl dX10_tack_52 hf (fun v52 hf => ?_)
    refine lv_iload_n hx hb dX10_tack_53 rfl (lv_at hl 3 rfl) ?_
    refine lv_iload_n hx hb dX10_tack_54 rfl (lv_at hl 4 rfl) ?_
    refine zr_iast X hR (r := v52) dX10_tack_55 hf (fun h55 H locs hf hR => ?_)
    refine lv_iload hx hb dX10_tack_56 (lv_at hl 0 rfl) ?_
    cases hf
    exact zr_iret X hR dX10_tack_58 (Nat.le_of_ble_eq_true rfl) (Nat.le_of_ble_eq_true rfl)
  · replace hf := zz_neg c32 hf
    exact bk_X10_tack_35 X hT hR (lv_sub hl [] rfl) hf
set_option maxHeartbeats 4000000 in
set_option maxRecDepth 100000 in
theorem mt_X10_tack {D : va_G} {dA : Nat → ClassId} {base t0 : Nat} {l : Launch} (hT : l.stackTraces = false) (a0 : Nat) (x1 : Int32) (x2 : Int32) (x3 : Int32) (h : zz_H) (n : Nat) {r0 : Int32} {hF : zz_H} (hf : f_X10_tack a0 x1 x2 x3 h = some (r0, hF)) : zz_M D dA base t0 l yX10_tack cX10_tack 5 (some .int) rm_X10_tack [.ref a0, .int x1, .int x2, .int x3] h n (some (.int r0)) hF n := by
  refine Met.ofW (cc := cX10_tack) (maxL := 5) (ret := (some .int)) (by decide +kernel) rfl ?_
  intro p e s m args below meth c s₁ B hml hv
  obtain ⟨rfl, hP, hK⟩ := hv
  have X : zz_X D dA base t0 "SpringseatModel" cX10_tack 5 (some .int) l p s m meth c := ⟨B.exec, B.bytes, hml, B.returns, findClass_of_methodNamed B.named, B.notSynchronized, hT, by rw [hP.1]; exact hP.2.1, hK⟩
  have hx := X.1
  have hb := X.2.1
  have hown := X.2.2.2.2.1
  have hR : zz_R D dA base h n s s.heap [] := ⟨hP, va_S.rf⟩
  have hl := lv_entry ([.ref a0, .int x1, .int x2, .int x3]) (n := 5) (by exact Nat.le_of_ble_eq_true rfl)
  rw [lg_entry_eq]
  generalize (lg_sl ([.ref a0, .int x1, .int x2, .int x3]) ++ List.replicate (5 - (lg_sl ([.ref a0, .int x1, .int x2, .int x3])).length) Slot.unset).toArray = ls at hl ⊢
  have hl : lv_has ls 5 [(0, .ref a0), (1, .int x1), (2, .int x2), (3, .int x3)] := hl
  unfold f_X10_tack at hf
  refine lv_aload_n hx hb dX10_tack_0 rfl (lv_at hl 0 rfl) ?_
  refine lv_iload_n hx hb dX10_tack_1 rfl (lv_at hl 1 rfl) ?_
  refine lv_iload_n hx hb dX10_tack_2 rfl (lv_at hl 2 rfl) ?_
  obtain ⟨fs3, ho3, hf⟩ := zz_obS_i hf
  obtain ⟨v3, h3, hv3, hf⟩ := zz_b1_i hf
  refine zr_cV X hR hl.1 (As := [.int x1, .int x2]) (rest := []) (C := RX10) (T := TX10) (N := 34) (mt_X10_isNoLayer hT a0 x1 x2 h n hv3) rfl ho3 mf_X10_isNoLayer q_1523 q_1525 qs_35 ⟨Nat.le_of_ble_eq_true rfl, Nat.le_of_ble_eq_true rfl⟩ ⟨Nat.le_of_ble_eq_true rfl, Nat.le_of_ble_eq_true rfl⟩ rfl (Nat.le_of_ble_eq_true rfl) dX10_tack_3 (fun H locs hR => ?_)
  refine W.eq (g2 := F0 m 6 ls [.int v3]) rfl ?_
  refine lv_if_ne (tgt := 35) hx hb dX10_tack_6 (by decide) (fun c6 => ?_) (fun c6 => ?_)
  · replace hf := zz_neg c6 hf
    exact bk_X10_tack_35 X hT hR (lv_sub hl [] rfl) hf
  · replace hf := zz_pos c6 hf
    refine lv_aload_n hx hb dX10_tack_9 rfl (lv_at hl 0 rfl) ?_
    refine lv_iload_n hx hb dX10_tack_10 rfl (lv_at hl 3 rfl) ?_
    refine lv_sipush (v := (1700 : Int32)) hx hb dX10_tack_11 (by decide) ?_
    refine lv_sipush (v := (2100 : Int32)) hx hb dX10_tack_14 (by decide) ?_
    obtain ⟨v17, hv17, hf⟩ := zz_b_i hf
    refine zr_cS X hR hl.1 (As := [.int x3, .int (1700 : Int32), .int (2100 : Int32)]) (rest := [.ref a0]) (mt_X10_isIn hT x3 (1700 : Int32) (2100 : Int32) h3 n hv17) mf_X10_isIn q_1367 q_1368 ⟨Nat.le_of_ble_eq_true rfl, Nat.le_of_ble_eq_true rfl⟩ ⟨Nat.le_of_ble_eq_true rfl, Nat.le_of_ble_eq_true rfl⟩ rfl (Nat.le_of_ble_eq_true rfl) dX10_tack_17 (fun H locs hR => ?_)
    refine W.eq (g2 := F0 m 20 ls [.int v17, .ref a0]) rfl ?_
    refine lv_if_ne (tgt := 27) hx hb dX10_tack_20 (by decide) (fun c20 => ?_) (fun c20 => ?_)
    · replace hf := zz_neg c20 hf
      refine lv_iconst (v := (0 : Int32)) hx hb dX10_tack_27 (by decide) ?_
      exact bk_X10_tack_28 X hT hR (lv_sub hl [0, 1, 2, 3] rfl) hf
    · replace hf := zz_pos c20 hf
      refine lv_iconst (v := (1 : Int32)) hx hb dX10_tack_23 (by decide) ?_
      refine lv_goto (tgt := 28) hx hb dX10_tack_24 (by decide) ?_
      exact bk_X10_tack_28 X hT hR (lv_sub hl [0, 1, 2, 3] rfl) hf
def rm_X10_quarrels : Room := { frames := 2, cells := 0, slots := 0, locals := 43 }
theorem mf_X10_quarrels : zz_Mf yX10_quarrels cX10_quarrels 5 (some .int) 1 := ⟨q_1631, q_11, by decide +kernel, by decide +kernel, by decide +kernel⟩
set_option maxHeartbeats 4000000 in
set_option maxRecDepth 100000 in
theorem bk_X10_quarrels_75 {D : va_G} {dA : Nat → ClassId} {base t0 : Nat} {l : Launch} {p : Program} {e : Env} {s : State} {m : MethodId} {args : Array Value} {below : List Frame} {meth : Method} {c : Code} (X : zz_X D dA base t0 "SpringseatModel" cX10_quarrels 5 (some .int) l p s m meth c) (hT : l.stackTraces = false) {a0 : Nat} {x1 : Int32} {x3 : Int32} {x4 : Int32} {s0 : Int32} {s1 : Int32} {h : zz_H} {n : Nat} {H : Heap} {locs : List Loc} {ls : Array Slot} (hR : zz_R D dA base h n s H locs) (hl : lv_has ls 5 [(0, .ref a0), (1, .int x1), (3, .int x3), (4, .int x4)]) {r0 : Int32} {hF : zz_H} {o : ((Int32 × Int32) ⊕ ((Int32 × Int32) ⊕ (Int32 × zz_H)))} (hf : f_X10_quarrels_75 a0 x1 x3 x4 s0 s1 h = some o) (k0 : ∀ (w2 : Int32) (w3 : Int32), o = (.inr (.inl (w2, w3))) → ∀ {H : Heap} {locs : List Loc} {ls : Array Slot}, zz_R D dA base h n s H locs → lv_has ls 5 [(0, .ref a0), (1, .int x1), (2, .int w2), (3, .int w3)] → W p l e rm_X10_quarrels s m args below meth c H locs 0 0 (MQ below (zz_Qc D dA base (some (.int r0)) hF n) args s rm_X10_quarrels.cells rm_X10_quarrels.slots (fun q => base ≤ q)) (F0 m 19 ls [])) (k1 : ∀ (w2 : Int32) (w4 : Int32), o = (.inl (w2, w4)) → ∀ {H : Heap} {locs : List Loc} {ls : Array Slot}, zz_R D dA base h n s H locs → lv_has ls 5 [(0, .ref a0), (1, .int x1), (2, .int w2), (3, .int x3), (4, .int w4)] → W p l e rm_X10_quarrels s m args below meth c H locs 0 0 (MQ below (zz_Qc D dA base (some (.int r0)) hF n) args s rm_X10_quarrels.cells rm_X10_quarrels.slots (fun q => base ≤ q)) (F0 m 32 ls [])) (hret : ∀ r, o = (.inr (.inr r)) → r = (r0, hF)) : W p l e rm_X10_quarrels s m args below meth c H locs 0 0 (MQ below (zz_Qc D dA base (some (.int r0)) hF n) args s rm_X10_quarrels.cells rm_X10_quarrels.slots (fun q => base ≤ q)) (F0 m 75 ls [.int s0, .int s1]) := by
  have hx := X.1
  have hb := X.2.1
  have hown := X.2.2.2.2.1
  unfold f_X10_quarrels_75 at hf
  refine lv_iadd hx hb dX10_quarrels_75 ?_
  refine lv_istore_n (i := 2) (lv' := [(2, .int (s1 + s0)), (0, .ref a0), (1, .int x1), (3, .int x3), (4, .int x4)]) hx hb dX10_quarrels_76 rfl hl (by decide) rfl (fun ls hl => ?_)
  refine lv_iinc (i := 4) (v := (x4 + (1 : Int32))) (lv' := [(4, .int (x4 + (1 : Int32))), (2, .int (s1 + s0)), (0, .ref a0), (1, .int x1), (3, .int x3)]) hx hb dX10_quarrels_77 hl (k := 4) rfl rfl (by decide) rfl (fun ls hl => ?_)
  refine lv_goto (tgt := 32) hx hb dX10_quarrels_80 (by decide) ?_
  cases hf
  exact k1 _ _ rfl hR (lv_sub hl [2, 3, 1, 4, 0] rfl)
set_option maxHeartbeats 4000000 in
set_option maxRecDepth 100000 in
theorem bk_X10_quarrels_74 {D : va_G} {dA : Nat → ClassId} {base t0 : Nat} {l : Launch} {p : Program} {e : Env} {s : State} {m : MethodId} {args : Array Value} {below : List Frame} {meth : Method} {c : Code} (X : zz_X D dA base t0 "SpringseatModel" cX10_quarrels 5 (some .int) l p s m meth c) (hT : l.stackTraces = false) {a0 : Nat} {x1 : Int32} {x3 : Int32} {x4 : Int32} {s0 : Int32} {h : zz_H} {n : Nat} {H : Heap} {locs : List Loc} {ls : Array Slot} (hR : zz_R D dA base h n s H locs) (hl : lv_has ls 5 [(0, .ref a0), (1, .int x1), (3, .int x3), (4, .int x4)]) {r0 : Int32} {hF : zz_H} {o : ((Int32 × Int32) ⊕ ((Int32 × Int32) ⊕ (Int32 × zz_H)))} (hf : f_X10_quarrels_74 a0 x1 x3 x4 s0 h = some o) (k0 : ∀ (w2 : Int32) (w3 : Int32), o = (.inr (.inl (w2, w3))) → ∀ {H : Heap} {locs : List Loc} {ls : Array Slot}, zz_R D dA base h n s H locs → lv_has ls 5 [(0, .ref a0), (1, .int x1), (2, .int w2), (3, .int w3)] → W p l e rm_X10_quarrels s m args below meth c H locs 0 0 (MQ below (zz_Qc D dA base (some (.int r0)) hF n) args s rm_X10_quarrels.cells rm_X10_quarrels.slots (fun q => base ≤ q)) (F0 m 19 ls [])) (k1 : ∀ (w2 : Int32) (w4 : Int32), o = (.inl (w2, w4)) → ∀ {H : Heap} {locs : List Loc} {ls : Array Slot}, zz_R D dA base h n s H locs → lv_has ls 5 [(0, .ref a0), (1, .int x1), (2, .int w2), (3, .int x3), (4, .int w4)] → W p l e rm_X10_quarrels s m args below meth c H locs 0 0 (MQ below (zz_Qc D dA base (some (.int r0)) hF n) args s rm_X10_quarrels.cells rm_X10_quarrels.slots (fun q => base ≤ q)) (F0 m 32 ls [])) (hret : ∀ r, o = (.inr (.inr r)) → r = (r0, hF)) : W p l e rm_X10_quarrels s m args below meth c H locs 0 0 (MQ below (zz_Qc D dA base (some (.int r0)) hF n) args s rm_X10_quarrels.cells rm_X10_quarrels.slots (fun q => base ≤ q)) (F0 m 74 ls [.int s0]) := by
  have hx := X.1
  have hb := X.2.1
  have hown := X.2.2.2.2.1
  unfold f_X10_quarrels_74 at hf
  refine lv_iconst (v := (0 : Int32)) hx hb dX10_quarrels_74 (by decide) ?_
  exact bk_X10_quarrels_75 X hT hR (lv_sub hl [0, 1, 2, 3] rfl) hf k0 k1 hret
set_option maxHeartbeats 4000000 in
set_option maxRecDepth 100000 in
theorem bk_X10_quarrels_32 {D : va_G} {dA : Nat → ClassId} {base t0 : Nat} {l : Launch} {p : Program} {e : Env} {s : State} {m : MethodId} {args : Array Value} {below : List Frame} {meth : Method} {c : Code} (X : zz_X D dA base t0 "SpringseatModel" cX10_quarrels 5 (some .int) l p s m meth c) (hT : l.stackTraces = false) {a0 : Nat} {x1 : Int32} {x2 : Int32} {x3 : Int32} {x4 : Int32} {h : zz_H} {n : Nat} {H : Heap} {locs : List Loc} {ls : Array Slot} (hR : zz_R D dA base h n s H locs) (hl : lv_has ls 5 [(0, .ref a0), (1, .int x1), (2, .int x2), (3, .int x3), (4, .int x4)]) {r0 : Int32} {hF : zz_H} {o : ((Int32 × Int32) ⊕ ((Int32 × Int32) ⊕ (Int32 × zz_H)))} (hf : f_X10_quarrels_32 a0 x1 x2 x3 x4 h = some o) (k0 : ∀ (w2 : Int32) (w3 : Int32), o = (.inr (.inl (w2, w3))) → ∀ {H : Heap} {locs : List Loc} {ls : Array Slot}, zz_R D dA base h n s H locs → lv_has ls 5 [(0, .ref a0), (1, .int x1), (2, .int w2), (3, .int w3)] → W p l e rm_X10_quarrels s m args below meth c H locs 0 0 (MQ below (zz_Qc D dA base (some (.int r0)) hF n) args s rm_X10_quarrels.cells rm_X10_quarrels.slots (fun q => base ≤ q)) (F0 m 19 ls [])) (k1 : ∀ (w2 : Int32) (w4 : Int32), o = (.inl (w2, w4)) → ∀ {H : Heap} {locs : List Loc} {ls : Array Slot}, zz_R D dA base h n s H locs → lv_has ls 5 [(0, .ref a0), (1, .int x1), (2, .int w2), (3, .int x3), (4, .int w4)] → W p l e rm_X10_quarrels s m args below meth c H locs 0 0 (MQ below (zz_Qc D dA base (some (.int r0)) hF n) args s rm_X10_quarrels.cells rm_X10_quarrels.slots (fun q => base ≤ q)) (F0 m 32 ls [])) (hret : ∀ r, o = (.inr (.inr r)) → r = (r0, hF)) : W p l e rm_X10_quarrels s m args below meth c H locs 0 0 (MQ below (zz_Qc D dA base (some (.int r0)) hF n) args s rm_X10_quarrels.cells rm_X10_quarrels.slots (fun q => base ≤ q)) (F0 m 32 ls []) := by
  have hx := X.1
  have hb := X.2.1
  have hown := X.2.2.2.2.1
  unfold f_X10_quarrels_32 at hf
  refine lv_iload hx hb dX10_quarrels_32 (lv_at hl 4 rfl) ?_
  refine lv_iload_n hx hb dX10_quarrels_34 rfl (lv_at hl 3 rfl) ?_
  refine lv_icmp_ge (tgt := 83) hx hb dX10_quarrels_35 (by decide) (fun c35 => ?_) (fun c35 => ?_)
  · replace hf := zz_pos c35 hf
    refine lv_iinc (i := 3) (v := (x3 + (1 : Int32))) (lv' := [(3, .int (x3 + (1 : Int32))), (0, .ref a0), (1, .int x1), (2, .int x2), (4, .int x4)]) hx hb dX10_quarrels_83 hl (k := 3) rfl rfl (by decide) rfl (fun ls hl => ?_)
    refine lv_goto (tgt := 19) hx hb dX10_quarrels_86 (by decide) ?_
    cases hf
    exact k0 _ _ rfl hR (lv_sub hl [1, 2, 3, 0] rfl)
  · replace hf := zz_neg c35 hf
    refine lv_iload_n hx hb dX10_quarrels_38 rfl (lv_at hl 2 rfl) ?_
    refine lv_aload_n hx hb dX10_quarrels_39 rfl (lv_at hl 0 rfl) ?_
    refine zr_gq X hR (r := (some a0)) fl_X10_65 dX10_quarrels_40 hf (fun v40 hf => ?_)
    refine lv_iload_n hx hb dX10_quarrels_43 rfl (lv_at hl 1 rfl) ?_
    refine zr_aald X hR (t := 6) (r := v40) (by decide) rfl dX10_quarrels_44 hf (fun v44 hf => ?_)
    refine lv_iload_n hx hb dX10_quarrels_45 rfl (lv_at hl 3 rfl) ?_
    refine zr_iald X hR (r := v44) dX10_quarrels_46 hf (fun v46 hf => ?_)
    refine lv_if_le (tgt := 74) hx hb dX10_quarrels_47 (by decide) (fun c47 => ?_) (fun c47 => ?_)
    · replace hf := zz_pos c47 hf
      exact bk_X10_quarrels_74 X hT hR (lv_sub hl [0, 1, 3, 4] rfl) hf k0 k1 hret
    · replace hf := zz_neg c47 hf
      refine lv_aload_n hx hb dX10_quarrels_50 rfl (lv_at hl 0 rfl) ?_
      refine zr_gq X hR (r := (some a0)) fl_X10_65 dX10_quarrels_51 hf (fun v51 hf => ?_)
      refine lv_iload_n hx hb dX10_quarrels_54 rfl (lv_at hl 1 rfl) ?_
      refine zr_aald X hR (t := 6) (r := v51) (by decide) rfl dX10_quarrels_55 hf (fun v55 hf => ?_)
      refine lv_iload_n hx hb dX10_quarrels_56 rfl (lv_at hl 3 rfl) ?_
      refine zr_iald X hR (r := v55) dX10_quarrels_57 hf (fun v57 hf => ?_)
      refine lv_aload_n hx hb dX10_quarrels_58 rfl (lv_at hl 0 rfl) ?_
      refine zr_gq X hR (r := (some a0)) fl_X10_65 dX10_quarrels_59 hf (fun v59 hf => ?_)
      refine lv_iload_n hx hb dX10_quarrels_62 rfl (lv_at hl 1 rfl) ?_
      refine zr_aald X hR (t := 6) (r := v59) (by decide) rfl dX10_quarrels_63 hf (fun v63 hf => ?_)
      refine lv_iload hx hb dX10_quarrels_64 (lv_at hl 4 rfl) ?_
      refine zr_iald X hR (r := v63) dX10_quarrels_66 hf (fun v66 hf => ?_)
      refine lv_icmp_ge (tgt := 74) hx hb dX10_quarrels_67 (by decide) (fun c67 => ?_) (fun c67 => ?_)
      · replace hf := zz_pos c67 hf
        exact bk_X10_quarrels_74 X hT hR (lv_sub hl [0, 1, 3, 4] rfl) hf k0 k1 hret
      · replace hf := zz_neg c67 hf
        refine lv_iconst (v := (1 : Int32)) hx hb dX10_quarrels_70 (by decide) ?_
        refine lv_goto (tgt := 75) hx hb dX10_quarrels_71 (by decide) ?_
        exact bk_X10_quarrels_75 X hT hR (lv_sub hl [0, 1, 3, 4] rfl) hf k0 k1 hret
set_option maxHeartbeats 4000000 in
set_option maxRecDepth 100000 in
theorem lp_X10_quarrels_32 {D : va_G} {dA : Nat → ClassId} {base t0 : Nat} {l : Launch} {p : Program} {e : Env} {s : State} {m : MethodId} {args : Array Value} {below : List Frame} {meth : Method} {c : Code} (X : zz_X D dA base t0 "SpringseatModel" cX10_quarrels 5 (some .int) l p s m meth c) (hT : l.stackTraces = false) (a0 : Nat) (x1 : Int32) (x3 : Int32) {h : zz_H} {n : Nat} {r0 : Int32} {hF : zz_H} : ∀ (k : Nat) (x2 : Int32) (x4 : Int32) {o : ((Int32 × Int32) ⊕ (Int32 × zz_H))}, zz_it (fun s : (Int32 × Int32) => f_X10_quarrels_32 a0 x1 s.1 x3 s.2 h) k (x2, x4) = some o → (∀ (w2 : Int32) (w3 : Int32), o = (.inl (w2, w3)) → ∀ {H : Heap} {locs : List Loc} {ls : Array Slot}, zz_R D dA base h n s H locs → lv_has ls 5 [(0, .ref a0), (1, .int x1), (2, .int w2), (3, .int w3)] → W p l e rm_X10_quarrels s m args below meth c H locs 0 0 (MQ below (zz_Qc D dA base (some (.int r0)) hF n) args s rm_X10_quarrels.cells rm_X10_quarrels.slots (fun q => base ≤ q)) (F0 m 19 ls [])) → (∀ r, o = (.inr r) → r = (r0, hF)) → ∀ {H : Heap} {locs : List Loc} {ls : Array Slot}, zz_R D dA base h n s H locs → lv_has ls 5 [(0, .ref a0), (1, .int x1), (2, .int x2), (3, .int x3), (4, .int x4)] → W p l e rm_X10_quarrels s m args below meth c H locs 0 0 (MQ below (zz_Qc D dA base (some (.int r0)) hF n) args s rm_X10_quarrels.cells rm_X10_quarrels.slots (fun q => base ≤ q)) (F0 m 32 ls []) := by
  intro k
  induction k with
  | zero => intro x2 x4 o hf _ _; cases hf
  | succ k ih =>
    intro x2 x4 o hf k0 hret H locs ls hR hl
    rcases zz_it_s hf with ⟨⟨y0, y1⟩, h1, h2⟩ | h1
    · exact bk_X10_quarrels_32 (r0 := r0) X hT hR hl h1 (fun z0 z1 e => by cases e) (fun z0 z1 e => by cases e; exact ih _ _ h2 k0 hret) (fun r e => by cases e)
    · exact bk_X10_quarrels_32 (r0 := r0) X hT hR hl h1 (fun z0 z1 e => k0 z0 z1 (Sum.inr.inj e)) (fun z0 z1 e => by cases e) (fun r e => hret r (Sum.inr.inj e))
set_option maxHeartbeats 4000000 in
set_option maxRecDepth 100000 in
theorem bk_X10_quarrels_19 {D : va_G} {dA : Nat → ClassId} {base t0 : Nat} {l : Launch} {p : Program} {e : Env} {s : State} {m : MethodId} {args : Array Value} {below : List Frame} {meth : Method} {c : Code} (X : zz_X D dA base t0 "SpringseatModel" cX10_quarrels 5 (some .int) l p s m meth c) (hT : l.stackTraces = false) {a0 : Nat} {x1 : Int32} {x2 : Int32} {x3 : Int32} {h : zz_H} {n : Nat} {H : Heap} {locs : List Loc} {ls : Array Slot} (hR : zz_R D dA base h n s H locs) (hl : lv_has ls 5 [(0, .ref a0), (1, .int x1), (2, .int x2), (3, .int x3)]) {r0 : Int32} {hF : zz_H} {o : ((Int32 × Int32) ⊕ (Int32 × zz_H))} (hf : f_X10_quarrels_19 a0 x1 x2 x3 h = some o) (k0 : ∀ (w2 : Int32) (w3 : Int32), o = (.inl (w2, w3)) → ∀ {H : Heap} {locs : List Loc} {ls : Array Slot}, zz_R D dA base h n s H locs → lv_has ls 5 [(0, .ref a0), (1, .int x1), (2, .int w2), (3, .int w3)] → W p l e rm_X10_quarrels s m args below meth c H locs 0 0 (MQ below (zz_Qc D dA base (some (.int r0)) hF n) args s rm_X10_quarrels.cells rm_X10_quarrels.slots (fun q => base ≤ q)) (F0 m 19 ls [])) (hret : ∀ r, o = (.inr r) → r = (r0, hF)) : W p l e rm_X10_quarrels s m args below meth c H locs 0 0 (MQ below (zz_Qc D dA base (some (.int r0)) hF n) args s rm_X10_quarrels.cells rm_X10_quarrels.slots (fun q => base ≤ q)) (F0 m 19 ls []) := by
  have hx := X.1
  have hb := X.2.1
  have hown := X.2.2.2.2.1
  unfold f_X10_quarrels_19 at hf
  refine lv_iload_n hx hb dX10_quarrels_19 rfl (lv_at hl 3 rfl) ?_
  refine lv_aload_n hx hb dX10_quarrels_20 rfl (lv_at hl 0 rfl) ?_
  refine zr_gq X hR (r := (some a0)) fl_X10_48 dX10_quarrels_21 hf (fun v21 hf => ?_)
  refine lv_iload_n hx hb dX10_quarrels_24 rfl (lv_at hl 1 rfl) ?_
  refine zr_iald X hR (r := v21) dX10_quarrels_25 hf (fun v25 hf => ?_)
  refine lv_icmp_ge (tgt := 89) hx hb dX10_quarrels_26 (by decide) (fun c26 => ?_) (fun c26 => ?_)
  · replace hf := zz_pos c26 hf
    refine lv_iload_n hx hb dX10_quarrels_89 rfl (lv_at hl 2 rfl) ?_
    cases hf
    cases hret _ rfl
    exact zr_iret X hR dX10_quarrels_90 (Nat.le_of_ble_eq_true rfl) (Nat.le_of_ble_eq_true rfl)
  · replace hf := zz_neg c26 hf
    refine lv_iconst (v := (0 : Int32)) hx hb dX10_quarrels_29 (by decide) ?_
    refine lv_istore (i := 4) (lv' := [(4, .int (0 : Int32)), (0, .ref a0), (1, .int x1), (2, .int x2), (3, .int x3)]) hx hb dX10_quarrels_30 hl (by decide) rfl (fun ls hl => ?_)
    exact lp_X10_quarrels_32 X hT a0 x1 x3 zz_F _ _ hf k0 hret hR (lv_sub hl [1, 2, 3, 4, 0] rfl)
set_option maxHeartbeats 4000000 in
set_option maxRecDepth 100000 in
theorem lp_X10_quarrels_19 {D : va_G} {dA : Nat → ClassId} {base t0 : Nat} {l : Launch} {p : Program} {e : Env} {s : State} {m : MethodId} {args : Array Value} {below : List Frame} {meth : Method} {c : Code} (X : zz_X D dA base t0 "SpringseatModel" cX10_quarrels 5 (some .int) l p s m meth c) (hT : l.stackTraces = false) (a0 : Nat) (x1 : Int32) {h : zz_H} {n : Nat} {r0 : Int32} {hF : zz_H} : ∀ (k : Nat) (x2 : Int32) (x3 : Int32), zz_it (fun s : (Int32 × Int32) => f_X10_quarrels_19 a0 x1 s.1 s.2 h) k (x2, x3) = some (r0, hF) → ∀ {H : Heap} {locs : List Loc} {ls : Array Slot}, zz_R D dA base h n s H locs → lv_has ls 5 [(0, .ref a0), (1, .int x1), (2, .int x2), (3, .int x3)] → W p l e rm_X10_quarrels s m args below meth c H locs 0 0 (MQ below (zz_Qc D dA base (some (.int r0)) hF n) args s rm_X10_quarrels.cells rm_X10_quarrels.slots (fun q => base ≤ q)) (F0 m 19 ls []) := by
  intro k
  induction k with
  | zero => intro x2 x3 hf; cases hf
  | succ k ih =>
    intro x2 x3 hf H locs ls hR hl
    rcases zz_it_s hf with ⟨⟨y0, y1⟩, h1, h2⟩ | h1
    · exact bk_X10_quarrels_19 (r0 := r0) X hT hR hl h1  (fun z0 z1 e => by cases e; exact ih _ _ h2) (fun r e => by cases e)
    · exact bk_X10_quarrels_19 (r0 := r0) X hT hR hl h1  (fun z0 z1 e => by cases e) (fun r e => (Sum.inr.inj e).symm)
set_option maxHeartbeats 4000000 in
set_option maxRecDepth 100000 in
theorem mt_X10_quarrels {D : va_G} {dA : Nat → ClassId} {base t0 : Nat} {l : Launch} (hT : l.stackTraces = false) (a0 : Nat) (x1 : Int32) (h : zz_H) (n : Nat) {r0 : Int32} {hF : zz_H} (hf : f_X10_quarrels a0 x1 h = some (r0, hF)) : zz_M D dA base t0 l yX10_quarrels cX10_quarrels 5 (some .int) rm_X10_quarrels [.ref a0, .int x1] h n (some (.int r0)) hF n := by
  refine Met.ofW (cc := cX10_quarrels) (maxL := 5) (ret := (some .int)) (by decide +kernel) rfl ?_
  intro p e s m args below meth c s₁ B hml hv
  obtain ⟨rfl, hP, hK⟩ := hv
  have X : zz_X D dA base t0 "SpringseatModel" cX10_quarrels 5 (some .int) l p s m meth c := ⟨B.exec, B.bytes, hml, B.returns, findClass_of_methodNamed B.named, B.notSynchronized, hT, by rw [hP.1]; exact hP.2.1, hK⟩
  have hx := X.1
  have hb := X.2.1
  have hown := X.2.2.2.2.1
  have hR : zz_R D dA base h n s s.heap [] := ⟨hP, va_S.rf⟩
  have hl := lv_entry ([.ref a0, .int x1]) (n := 5) (by exact Nat.le_of_ble_eq_true rfl)
  rw [lg_entry_eq]
  generalize (lg_sl ([.ref a0, .int x1]) ++ List.replicate (5 - (lg_sl ([.ref a0, .int x1])).length) Slot.unset).toArray = ls at hl ⊢
  have hl : lv_has ls 5 [(0, .ref a0), (1, .int x1)] := hl
  unfold f_X10_quarrels at hf
  refine lv_aload_n hx hb dX10_quarrels_0 rfl (lv_at hl 0 rfl) ?_
  refine lv_aload_n hx hb dX10_quarrels_1 rfl (lv_at hl 0 rfl) ?_
  refine lv_iload_n hx hb dX10_quarrels_2 rfl (lv_at hl 1 rfl) ?_
  obtain ⟨fs3, ho3, hf⟩ := zz_obS_i hf
  obtain ⟨v3, hv3, hf⟩ := zz_b_i hf
  refine zr_cV X hR hl.1 (As := [.int x1]) (rest := [.ref a0]) (C := RX10) (T := TX10) (N := 34) (mt_X10_isNoSeat hT a0 x1 h n hv3) rfl ho3 mf_X10_isNoSeat q_1378 q_1380 qs_18 ⟨Nat.le_of_ble_eq_true rfl, Nat.le_of_ble_eq_true rfl⟩ ⟨Nat.le_of_ble_eq_true rfl, Nat.le_of_ble_eq_true rfl⟩ rfl (Nat.le_of_ble_eq_true rfl) dX10_quarrels_3 (fun H locs hR => ?_)
  refine W.eq (g2 := F0 m 6 ls [.int v3, .ref a0]) rfl ?_
  refine lv_iconst (v := (1 : Int32)) hx hb dX10_quarrels_6 (by decide) ?_
  obtain ⟨fs7, ho7, hf⟩ := zz_obS_i hf
  obtain ⟨v7, h7, hv7, hf⟩ := zz_b1_i hf
  refine zr_cV X hR hl.1 (As := [.int v3, .int (1 : Int32)]) (rest := []) (C := RX10) (T := TX10) (N := 34) (mt_X10_isThrown hT a0 v3 (1 : Int32) h n hv7) rfl ho7 mf_X10_isThrown q_1370 q_1372 qs_17 ⟨Nat.le_of_ble_eq_true rfl, Nat.le_of_ble_eq_true rfl⟩ ⟨Nat.le_of_ble_eq_true rfl, Nat.le_of_ble_eq_true rfl⟩ rfl (Nat.le_of_ble_eq_true rfl) dX10_quarrels_7 (fun H locs hR => ?_)
  refine W.eq (g2 := F0 m 10 ls [.int v7]) rfl ?_
  refine lv_if_eq (tgt := 15) hx hb dX10_quarrels_10 (by decide) (fun c10 => ?_) (fun c10 => ?_)
  · replace hf := zz_pos c10 hf
    refine lv_iconst (v := (0 : Int32)) hx hb dX10_quarrels_15 (by decide) ?_
    refine lv_istore_n (i := 2) (lv' := [(2, .int (0 : Int32)), (0, .ref a0), (1, .int x1)]) hx hb dX10_quarrels_16 rfl hl (by decide) rfl (fun ls hl => ?_)
    refine lv_iconst (v := (0 : Int32)) hx hb dX10_quarrels_17 (by decide) ?_
    refine lv_istore_n (i := 3) (lv' := [(3, .int (0 : Int32)), (2, .int (0 : Int32)), (0, .ref a0), (1, .int x1)]) hx hb dX10_quarrels_18 rfl hl (by decide) rfl (fun ls hl => ?_)
    exact lp_X10_quarrels_19 X hT a0 x1 zz_F _ _ hf hR (lv_sub hl [2, 3, 1, 0] rfl)
  · replace hf := zz_neg c10 hf
    refine lv_iconst (v := (0 : Int32)) hx hb dX10_quarrels_13 (by decide) ?_
    cases hf
    exact zr_iret X hR dX10_quarrels_14 (Nat.le_of_ble_eq_true rfl) (Nat.le_of_ble_eq_true rfl)
def rm_X10_promise : Room := { frames := 2, cells := 0, slots := 0, locals := 43 }
theorem mf_X10_promise : zz_Mf yX10_promise cX10_promise 4 (some .int) 2 := ⟨q_1635, q_11, by decide +kernel, by decide +kernel, by decide +kernel⟩
set_option maxHeartbeats 4000000 in
set_option maxRecDepth 100000 in
theorem bk_X10_promise_36 {D : va_G} {dA : Nat → ClassId} {base t0 : Nat} {l : Launch} {p : Program} {e : Env} {s : State} {m : MethodId} {args : Array Value} {below : List Frame} {meth : Method} {c : Code} (X : zz_X D dA base t0 "SpringseatModel" cX10_promise 4 (some .int) l p s m meth c) (hT : l.stackTraces = false) {h : zz_H} {n : Nat} {H : Heap} {locs : List Loc} {ls : Array Slot} (hR : zz_R D dA base h n s H locs) (hl : lv_has ls 4 []) {r0 : Int32} {hF : zz_H} (hf : f_X10_promise_36 h = some (r0, hF)) : W p l e rm_X10_promise s m args below meth c H locs 0 0 (MQ below (zz_Qc D dA base (some (.int r0)) hF n) args s rm_X10_promise.cells rm_X10_promise.slots (fun q => base ≤ q)) (F0 m 36 ls []) := by
  have hx := X.1
  have hb := X.2.1
  have hown := X.2.2.2.2.1
  unfold f_X10_promise_36 at hf
  refine lv_iconst (v := (0 : Int32)) hx hb dX10_promise_36 (by decide) ?_
  cases hf
  exact zr_iret X hR dX10_promise_37 (Nat.le_of_ble_eq_true rfl) (Nat.le_of_ble_eq_true rfl)
set_option maxHeartbeats 4000000 in
set_option maxRecDepth 100000 in
theorem bk_X10_promise_29 {D : va_G} {dA : Nat → ClassId} {base t0 : Nat} {l : Launch} {p : Program} {e : Env} {s : State} {m : MethodId} {args : Array Value} {below : List Frame} {meth : Method} {c : Code} (X : zz_X D dA base t0 "SpringseatModel" cX10_promise 4 (some .int) l p s m meth c) (hT : l.stackTraces = false) {a0 : Nat} {x1 : Int32} {x2 : Int32} {s0 : Int32} {s1 : (Option Nat)} {h : zz_H} {n : Nat} {H : Heap} {locs : List Loc} {ls : Array Slot} (hR : zz_R D dA base h n s H locs) (hl : lv_has ls 4 [(0, .ref a0), (1, .int x1), (2, .int x2)]) {r0 : Int32} {hF : zz_H} (hf : f_X10_promise_29 a0 x1 x2 s0 s1 h = some (r0, hF)) : W p l e rm_X10_promise s m args below meth c H locs 0 0 (MQ below (zz_Qc D dA base (some (.int r0)) hF n) args s rm_X10_promise.cells rm_X10_promise.slots (fun q => base ≤ q)) (F0 m 29 ls [.int s0, va_rf s1]) := by
  have hx := X.1
  have hb := X.2.1
  have hown := X.2.2.2.2.1
  unfold f_X10_promise_29 at hf
  refine lv_iconst (v := (2 : Int32)) hx hb dX10_promise_29 (by decide) ?_
  obtain ⟨b30, fs30, hr30, ho30, hf⟩ := zz_ob_i hf
  obtain ⟨v30, h30, hv30, hf⟩ := zz_b1_i hf
  refine zr_cV X hR hl.1 (As := [.int s0, .int (2 : Int32)]) (rest := []) (C := RX10) (T := TX10) (N := 34) (mt_X10_isThrown hT b30 s0 (2 : Int32) h n hv30) rfl ho30 mf_X10_isThrown q_1370 q_1372 qs_17 ⟨Nat.le_of_ble_eq_true rfl, Nat.le_of_ble_eq_true rfl⟩ ⟨Nat.le_of_ble_eq_true rfl, Nat.le_of_ble_eq_true rfl⟩ (by rw [hr30]; rfl) (Nat.le_of_ble_eq_true rfl) dX10_promise_30 (fun H locs hR => ?_)
  refine W.eq (g2 := F0 m 33 ls [.int v30]) rfl ?_
  refine lv_if_eq (tgt := 38) hx hb dX10_promise_33 (by decide) (fun c33 => ?_) (fun c33 => ?_)
  · replace hf := zz_pos c33 hf
    refine lv_aload_n hx hb dX10_promise_38 rfl (lv_at hl 0 rfl) ?_
    refine zr_gq X hR (r := (some a0)) fl_X10_83 dX10_promise_39 hf (fun v39 hf => ?_)
    refine lv_iload_n hx hb dX10_promise_42 rfl (lv_at hl 1 rfl) ?_
    refine zr_iald X hR (r := v39) dX10_promise_43 hf (fun v43 hf => ?_)
    refine lv_istore_n (i := 3) (lv' := [(3, .int v43), (0, .ref a0), (1, .int x1), (2, .int x2)]) hx hb dX10_promise_44 rfl hl (by decide) rfl (fun ls hl => ?_)
    refine lv_aload_n hx hb dX10_promise_45 rfl (lv_at hl 1 rfl) ?_
    refine zr_gq X hR (r := (some a0)) fl_X10_83 dX10_promise_46 hf (fun v46 hf => ?_)
    refine lv_iload_n hx hb dX10_promise_49 rfl (lv_at hl 2 rfl) ?_
    refine lv_iload_n hx hb dX10_promise_50 rfl (lv_at hl 3 rfl) ?_
    refine zr_iast X hR (r := v46) dX10_promise_51 hf (fun h51 H locs hf hR => ?_)
    refine lv_iload_n hx hb dX10_promise_52 rfl (lv_at hl 0 rfl) ?_
    cases hf
    exact zr_iret X hR dX10_promise_53 (Nat.le_of_ble_eq_true rfl) (Nat.le_of_ble_eq_true rfl)
  · replace hf := zz_neg c33 hf
    exact bk_X10_promise_36 X hT hR (lv_sub hl [] rfl) hf
set_option maxHeartbeats 4000000 in
set_option maxRecDepth 100000 in
theorem mt_X10_promise {D : va_G} {dA : Nat → ClassId} {base t0 : Nat} {l : Launch} (hT : l.stackTraces = false) (a0 : Nat) (x1 : Int32) (x2 : Int32) (h : zz_H) (n : Nat) {r0 : Int32} {hF : zz_H} (hf : f_X10_promise a0 x1 x2 h = some (r0, hF)) : zz_M D dA base t0 l yX10_promise cX10_promise 4 (some .int) rm_X10_promise [.ref a0, .int x1, .int x2] h n (some (.int r0)) hF n := by
  refine Met.ofW (cc := cX10_promise) (maxL := 4) (ret := (some .int)) (by decide +kernel) rfl ?_
  intro p e s m args below meth c s₁ B hml hv
  obtain ⟨rfl, hP, hK⟩ := hv
  have X : zz_X D dA base t0 "SpringseatModel" cX10_promise 4 (some .int) l p s m meth c := ⟨B.exec, B.bytes, hml, B.returns, findClass_of_methodNamed B.named, B.notSynchronized, hT, by rw [hP.1]; exact hP.2.1, hK⟩
  have hx := X.1
  have hb := X.2.1
  have hown := X.2.2.2.2.1
  have hR : zz_R D dA base h n s s.heap [] := ⟨hP, va_S.rf⟩
  have hl := lv_entry ([.ref a0, .int x1, .int x2]) (n := 4) (by exact Nat.le_of_ble_eq_true rfl)
  rw [lg_entry_eq]
  generalize (lg_sl ([.ref a0, .int x1, .int x2]) ++ List.replicate (4 - (lg_sl ([.ref a0, .int x1, .int x2])).length) Slot.unset).toArray = ls at hl ⊢
  have hl : lv_has ls 4 [(0, .ref a0), (1, .int x1), (2, .int x2)] := hl
  unfold f_X10_promise at hf
  refine lv_aload_n hx hb dX10_promise_0 rfl (lv_at hl 0 rfl) ?_
  refine lv_aload_n hx hb dX10_promise_1 rfl (lv_at hl 0 rfl) ?_
  refine lv_iload_n hx hb dX10_promise_2 rfl (lv_at hl 1 rfl) ?_
  obtain ⟨fs3, ho3, hf⟩ := zz_obS_i hf
  obtain ⟨v3, hv3, hf⟩ := zz_b_i hf
  refine zr_cV X hR hl.1 (As := [.int x1]) (rest := [.ref a0]) (C := RX10) (T := TX10) (N := 34) (mt_X10_isNoSeat hT a0 x1 h n hv3) rfl ho3 mf_X10_isNoSeat q_1378 q_1380 qs_18 ⟨Nat.le_of_ble_eq_true rfl, Nat.le_of_ble_eq_true rfl⟩ ⟨Nat.le_of_ble_eq_true rfl, Nat.le_of_ble_eq_true rfl⟩ rfl (Nat.le_of_ble_eq_true rfl) dX10_promise_3 (fun H locs hR => ?_)
  refine W.eq (g2 := F0 m 6 ls [.int v3, .ref a0]) rfl ?_
  refine lv_iconst (v := (1 : Int32)) hx hb dX10_promise_6 (by decide) ?_
  obtain ⟨fs7, ho7, hf⟩ := zz_obS_i hf
  obtain ⟨v7, h7, hv7, hf⟩ := zz_b1_i hf
  refine zr_cV X hR hl.1 (As := [.int v3, .int (1 : Int32)]) (rest := []) (C := RX10) (T := TX10) (N := 34) (mt_X10_isThrown hT a0 v3 (1 : Int32) h n hv7) rfl ho7 mf_X10_isThrown q_1370 q_1372 qs_17 ⟨Nat.le_of_ble_eq_true rfl, Nat.le_of_ble_eq_true rfl⟩ ⟨Nat.le_of_ble_eq_true rfl, Nat.le_of_ble_eq_true rfl⟩ rfl (Nat.le_of_ble_eq_true rfl) dX10_promise_7 (fun H locs hR => ?_)
  refine W.eq (g2 := F0 m 10 ls [.int v7]) rfl ?_
  refine lv_if_ne (tgt := 36) hx hb dX10_promise_10 (by decide) (fun c10 => ?_) (fun c10 => ?_)
  · replace hf := zz_neg c10 hf
    exact bk_X10_promise_36 X hT hR (lv_sub hl [] rfl) hf
  · replace hf := zz_pos c10 hf
    refine lv_aload_n hx hb dX10_promise_13 rfl (lv_at hl 0 rfl) ?_
    refine lv_iload_n hx hb dX10_promise_14 rfl (lv_at hl 2 rfl) ?_
    refine lv_iconst (v := (0 : Int32)) hx hb dX10_promise_15 (by decide) ?_
    refine lv_bipush (v := (100 : Int32)) hx hb dX10_promise_16 (by decide) ?_
    obtain ⟨v18, hv18, hf⟩ := zz_b_i hf
    refine zr_cS X hR hl.1 (As := [.int x2, .int (0 : Int32), .int (100 : Int32)]) (rest := [.ref a0]) (mt_X10_isIn hT x2 (0 : Int32) (100 : Int32) h7 n hv18) mf_X10_isIn q_1367 q_1368 ⟨Nat.le_of_ble_eq_true rfl, Nat.le_of_ble_eq_true rfl⟩ ⟨Nat.le_of_ble_eq_true rfl, Nat.le_of_ble_eq_true rfl⟩ rfl (Nat.le_of_ble_eq_true rfl) dX10_promise_18 (fun H locs hR => ?_)
    refine W.eq (g2 := F0 m 21 ls [.int v18, .ref a0]) rfl ?_
    refine lv_if_ne (tgt := 28) hx hb dX10_promise_21 (by decide) (fun c21 => ?_) (fun c21 => ?_)
    · replace hf := zz_neg c21 hf
      refine lv_iconst (v := (0 : Int32)) hx hb dX10_promise_28 (by decide) ?_
      exact bk_X10_promise_29 X hT hR (lv_sub hl [0, 1, 2] rfl) hf
    · replace hf := zz_pos c21 hf
      refine lv_iconst (v := (1 : Int32)) hx hb dX10_promise_24 (by decide) ?_
      refine lv_goto (tgt := 29) hx hb dX10_promise_25 (by decide) ?_
      exact bk_X10_promise_29 X hT hR (lv_sub hl [0, 1, 2] rfl) hf
def rm_X10_holds : Room := { frames := 4, cells := 0, slots := 0, locals := 93 }
theorem mf_X10_holds : zz_Mf yX10_holds cX10_holds 2 (some .boolean) 1 := ⟨q_1639, q_11, by decide +kernel, by decide +kernel, by decide +kernel⟩
set_option maxHeartbeats 4000000 in
set_option maxRecDepth 100000 in
theorem bk_X10_holds_74 {D : va_G} {dA : Nat → ClassId} {base t0 : Nat} {l : Launch} {p : Program} {e : Env} {s : State} {m : MethodId} {args : Array Value} {below : List Frame} {meth : Method} {c : Code} (X : zz_X D dA base t0 "SpringseatModel" cX10_holds 2 (some .boolean) l p s m meth c) (hT : l.stackTraces = false) {s0 : Int32} {h : zz_H} {n : Nat} {H : Heap} {locs : List Loc} {ls : Array Slot} (hR : zz_R D dA base h n s H locs) (hl : lv_has ls 2 []) {r0 : Int32} {hF : zz_H} (hf : f_X10_holds_74 s0 h = some (r0, hF)) : W p l e rm_X10_holds s m args below meth c H locs 0 0 (MQ below (zz_Qc D dA base (some (.int r0)) hF n) args s rm_X10_holds.cells rm_X10_holds.slots (fun q => base ≤ q)) (F0 m 74 ls [.int s0]) := by
  have hx := X.1
  have hb := X.2.1
  have hown := X.2.2.2.2.1
  unfold f_X10_holds_74 at hf
  obtain ⟨hz74, hf⟩ := zz_gz_i hf
  cases hf
  exact zr_zret X hR (zz_nz hz74) dX10_holds_74 (Nat.le_of_ble_eq_true rfl) (Nat.le_of_ble_eq_true rfl)
set_option maxHeartbeats 4000000 in
set_option maxRecDepth 100000 in
theorem bk_X10_holds_36 {D : va_G} {dA : Nat → ClassId} {base t0 : Nat} {l : Launch} {p : Program} {e : Env} {s : State} {m : MethodId} {args : Array Value} {below : List Frame} {meth : Method} {c : Code} (X : zz_X D dA base t0 "SpringseatModel" cX10_holds 2 (some .boolean) l p s m meth c) (hT : l.stackTraces = false) {h : zz_H} {n : Nat} {H : Heap} {locs : List Loc} {ls : Array Slot} (hR : zz_R D dA base h n s H locs) (hl : lv_has ls 2 []) {r0 : Int32} {hF : zz_H} (hf : f_X10_holds_36 h = some (r0, hF)) : W p l e rm_X10_holds s m args below meth c H locs 0 0 (MQ below (zz_Qc D dA base (some (.int r0)) hF n) args s rm_X10_holds.cells rm_X10_holds.slots (fun q => base ≤ q)) (F0 m 36 ls []) := by
  have hx := X.1
  have hb := X.2.1
  have hown := X.2.2.2.2.1
  unfold f_X10_holds_36 at hf
  refine lv_iconst (v := (0 : Int32)) hx hb dX10_holds_36 (by decide) ?_
  cases hf
  exact zr_zret X hR (v := (0 : Int32)) rfl dX10_holds_37 (Nat.le_of_ble_eq_true rfl) (Nat.le_of_ble_eq_true rfl)
set_option maxHeartbeats 4000000 in
set_option maxRecDepth 100000 in
theorem bk_X10_holds_29 {D : va_G} {dA : Nat → ClassId} {base t0 : Nat} {l : Launch} {p : Program} {e : Env} {s : State} {m : MethodId} {args : Array Value} {below : List Frame} {meth : Method} {c : Code} (X : zz_X D dA base t0 "SpringseatModel" cX10_holds 2 (some .boolean) l p s m meth c) (hT : l.stackTraces = false) {a0 : Nat} {x1 : Int32} {s0 : Int32} {s1 : (Option Nat)} {h : zz_H} {n : Nat} {H : Heap} {locs : List Loc} {ls : Array Slot} (hR : zz_R D dA base h n s H locs) (hl : lv_has ls 2 [(0, .ref a0), (1, .int x1)]) {r0 : Int32} {hF : zz_H} (hf : f_X10_holds_29 a0 x1 s0 s1 h = some (r0, hF)) : W p l e rm_X10_holds s m args below meth c H locs 0 0 (MQ below (zz_Qc D dA base (some (.int r0)) hF n) args s rm_X10_holds.cells rm_X10_holds.slots (fun q => base ≤ q)) (F0 m 29 ls [.int s0, va_rf s1]) := by
  have hx := X.1
  have hb := X.2.1
  have hown := X.2.2.2.2.1
  unfold f_X10_holds_29 at hf
  refine lv_iconst (v := (2 : Int32)) hx hb dX10_holds_29 (by decide) ?_
  obtain ⟨b30, fs30, hr30, ho30, hf⟩ := zz_ob_i hf
  obtain ⟨v30, h30, hv30, hf⟩ := zz_b1_i hf
  refine zr_cV X hR hl.1 (As := [.int s0, .int (2 : Int32)]) (rest := []) (C := RX10) (T := TX10) (N := 34) (mt_X10_isThrown hT b30 s0 (2 : Int32) h n hv30) rfl ho30 mf_X10_isThrown q_1370 q_1372 qs_17 ⟨Nat.le_of_ble_eq_true rfl, Nat.le_of_ble_eq_true rfl⟩ ⟨Nat.le_of_ble_eq_true rfl, Nat.le_of_ble_eq_true rfl⟩ (by rw [hr30]; rfl) (Nat.le_of_ble_eq_true rfl) dX10_holds_30 (fun H locs hR => ?_)
  refine W.eq (g2 := F0 m 33 ls [.int v30]) rfl ?_
  refine lv_if_eq (tgt := 38) hx hb dX10_holds_33 (by decide) (fun c33 => ?_) (fun c33 => ?_)
  · replace hf := zz_pos c33 hf
    refine lv_aload_n hx hb dX10_holds_38 rfl (lv_at hl 0 rfl) ?_
    refine zr_gq X hR (r := (some a0)) fl_X10_80 dX10_holds_39 hf (fun v39 hf => ?_)
    refine lv_iload_n hx hb dX10_holds_42 rfl (lv_at hl 1 rfl) ?_
    refine zr_iald X hR (r := v39) dX10_holds_43 hf (fun v43 hf => ?_)
    refine lv_aload_n hx hb dX10_holds_44 rfl (lv_at hl 0 rfl) ?_
    refine lv_iload_n hx hb dX10_holds_45 rfl (lv_at hl 1 rfl) ?_
    obtain ⟨fs46, ho46, hf⟩ := zz_obS_i hf
    obtain ⟨v46, hv46, hf⟩ := zz_b_i hf
    refine zr_cV X hR hl.1 (As := [.int x1]) (rest := [.int v43]) (C := RX10) (T := TX10) (N := 34) (mt_X10_tops hT a0 x1 h30 n hv46) rfl ho46 mf_X10_tops q_1483 q_1485 qs_33 ⟨Nat.le_of_ble_eq_true rfl, Nat.le_of_ble_eq_true rfl⟩ ⟨Nat.le_of_ble_eq_true rfl, Nat.le_of_ble_eq_true rfl⟩ rfl (Nat.le_of_ble_eq_true rfl) dX10_holds_46 (fun H locs hR => ?_)
    refine W.eq (g2 := F0 m 49 ls [.int v46, .int v43]) rfl ?_
    refine lv_isub hx hb dX10_holds_49 ?_
    refine lv_aload_n hx hb dX10_holds_50 rfl (lv_at hl 0 rfl) ?_
    refine zr_gq X hR (r := (some a0)) fl_X10_80 dX10_holds_51 hf (fun v51 hf => ?_)
    refine lv_iload_n hx hb dX10_holds_54 rfl (lv_at hl 1 rfl) ?_
    refine zr_iald X hR (r := v51) dX10_holds_55 hf (fun v55 hf => ?_)
    refine lv_aload_n hx hb dX10_holds_56 rfl (lv_at hl 0 rfl) ?_
    refine zr_gq X hR (r := (some a0)) fl_X10_83 dX10_holds_57 hf (fun v57 hf => ?_)
    refine lv_iload_n hx hb dX10_holds_60 rfl (lv_at hl 1 rfl) ?_
    refine zr_iald X hR (r := v57) dX10_holds_61 hf (fun v61 hf => ?_)
    refine lv_imul hx hb dX10_holds_62 ?_
    refine lv_bipush (v := (100 : Int32)) hx hb dX10_holds_63 (by decide) ?_
    obtain ⟨hne65, hf⟩ := zz_dv_i hf
    refine lv_idiv hx hb dX10_holds_65 hne65 ?_
    refine lv_icmp_gt (tgt := 73) hx hb dX10_holds_66 (by decide) (fun c66 => ?_) (fun c66 => ?_)
    · replace hf := zz_pos c66 hf
      refine lv_iconst (v := (0 : Int32)) hx hb dX10_holds_73 (by decide) ?_
      exact bk_X10_holds_74 X hT hR (lv_sub hl [] rfl) hf
    · replace hf := zz_neg c66 hf
      refine lv_iconst (v := (1 : Int32)) hx hb dX10_holds_69 (by decide) ?_
      refine lv_goto (tgt := 74) hx hb dX10_holds_70 (by decide) ?_
      exact bk_X10_holds_74 X hT hR (lv_sub hl [] rfl) hf
  · replace hf := zz_neg c33 hf
    exact bk_X10_holds_36 X hT hR (lv_sub hl [] rfl) hf
set_option maxHeartbeats 4000000 in
set_option maxRecDepth 100000 in
theorem mt_X10_holds {D : va_G} {dA : Nat → ClassId} {base t0 : Nat} {l : Launch} (hT : l.stackTraces = false) (a0 : Nat) (x1 : Int32) (h : zz_H) (n : Nat) {r0 : Int32} {hF : zz_H} (hf : f_X10_holds a0 x1 h = some (r0, hF)) : zz_M D dA base t0 l yX10_holds cX10_holds 2 (some .boolean) rm_X10_holds [.ref a0, .int x1] h n (some (.int r0)) hF n := by
  refine Met.ofW (cc := cX10_holds) (maxL := 2) (ret := (some .boolean)) (by decide +kernel) rfl ?_
  intro p e s m args below meth c s₁ B hml hv
  obtain ⟨rfl, hP, hK⟩ := hv
  have X : zz_X D dA base t0 "SpringseatModel" cX10_holds 2 (some .boolean) l p s m meth c := ⟨B.exec, B.bytes, hml, B.returns, findClass_of_methodNamed B.named, B.notSynchronized, hT, by rw [hP.1]; exact hP.2.1, hK⟩
  have hx := X.1
  have hb := X.2.1
  have hown := X.2.2.2.2.1
  have hR : zz_R D dA base h n s s.heap [] := ⟨hP, va_S.rf⟩
  have hl := lv_entry ([.ref a0, .int x1]) (n := 2) (by exact Nat.le_of_ble_eq_true rfl)
  rw [lg_entry_eq]
  generalize (lg_sl ([.ref a0, .int x1]) ++ List.replicate (2 - (lg_sl ([.ref a0, .int x1])).length) Slot.unset).toArray = ls at hl ⊢
  have hl : lv_has ls 2 [(0, .ref a0), (1, .int x1)] := hl
  unfold f_X10_holds at hf
  refine lv_aload_n hx hb dX10_holds_0 rfl (lv_at hl 0 rfl) ?_
  refine lv_aload_n hx hb dX10_holds_1 rfl (lv_at hl 0 rfl) ?_
  refine lv_iload_n hx hb dX10_holds_2 rfl (lv_at hl 1 rfl) ?_
  obtain ⟨fs3, ho3, hf⟩ := zz_obS_i hf
  obtain ⟨v3, hv3, hf⟩ := zz_b_i hf
  refine zr_cV X hR hl.1 (As := [.int x1]) (rest := [.ref a0]) (C := RX10) (T := TX10) (N := 34) (mt_X10_isNoSeat hT a0 x1 h n hv3) rfl ho3 mf_X10_isNoSeat q_1378 q_1380 qs_18 ⟨Nat.le_of_ble_eq_true rfl, Nat.le_of_ble_eq_true rfl⟩ ⟨Nat.le_of_ble_eq_true rfl, Nat.le_of_ble_eq_true rfl⟩ rfl (Nat.le_of_ble_eq_true rfl) dX10_holds_3 (fun H locs hR => ?_)
  refine W.eq (g2 := F0 m 6 ls [.int v3, .ref a0]) rfl ?_
  refine lv_iconst (v := (1 : Int32)) hx hb dX10_holds_6 (by decide) ?_
  obtain ⟨fs7, ho7, hf⟩ := zz_obS_i hf
  obtain ⟨v7, h7, hv7, hf⟩ := zz_b1_i hf
  refine zr_cV X hR hl.1 (As := [.int v3, .int (1 : Int32)]) (rest := []) (C := RX10) (T := TX10) (N := 34) (mt_X10_isThrown hT a0 v3 (1 : Int32) h n hv7) rfl ho7 mf_X10_isThrown q_1370 q_1372 qs_17 ⟨Nat.le_of_ble_eq_true rfl, Nat.le_of_ble_eq_true rfl⟩ ⟨Nat.le_of_ble_eq_true rfl, Nat.le_of_ble_eq_true rfl⟩ rfl (Nat.le_of_ble_eq_true rfl) dX10_holds_7 (fun H locs hR => ?_)
  refine W.eq (g2 := F0 m 10 ls [.int v7]) rfl ?_
  refine lv_if_ne (tgt := 36) hx hb dX10_holds_10 (by decide) (fun c10 => ?_) (fun c10 => ?_)
  · replace hf := zz_neg c10 hf
    exact bk_X10_holds_36 X hT hR (lv_sub hl [] rfl) hf
  · replace hf := zz_pos c10 hf
    refine lv_aload_n hx hb dX10_holds_13 rfl (lv_at hl 0 rfl) ?_
    refine lv_aload_n hx hb dX10_holds_14 rfl (lv_at hl 0 rfl) ?_
    refine lv_iload_n hx hb dX10_holds_15 rfl (lv_at hl 1 rfl) ?_
    obtain ⟨fs16, ho16, hf⟩ := zz_obS_i hf
    obtain ⟨v16, hv16, hf⟩ := zz_b_i hf
    refine zr_cV X hR hl.1 (As := [.int x1]) (rest := [.ref a0]) (C := RX10) (T := TX10) (N := 34) (mt_X10_last hT a0 x1 h7 n hv16) rfl ho16 mf_X10_last q_1386 q_1388 qs_20 ⟨Nat.le_of_ble_eq_true rfl, Nat.le_of_ble_eq_true rfl⟩ ⟨Nat.le_of_ble_eq_true rfl, Nat.le_of_ble_eq_true rfl⟩ rfl (Nat.le_of_ble_eq_true rfl) dX10_holds_16 (fun H locs hR => ?_)
    refine W.eq (g2 := F0 m 19 ls [.int v16, .ref a0]) rfl ?_
    refine lv_bipush (v := (99 : Int32)) hx hb dX10_holds_19 (by decide) ?_
    refine lv_icmp_eq (tgt := 28) hx hb dX10_holds_21 (by decide) (fun c21 => ?_) (fun c21 => ?_)
    · replace hf := zz_pos c21 hf
      refine lv_iconst (v := (0 : Int32)) hx hb dX10_holds_28 (by decide) ?_
      exact bk_X10_holds_29 X hT hR (lv_sub hl [0, 1] rfl) hf
    · replace hf := zz_neg c21 hf
      refine lv_iconst (v := (1 : Int32)) hx hb dX10_holds_24 (by decide) ?_
      refine lv_goto (tgt := 29) hx hb dX10_holds_25 (by decide) ?_
      exact bk_X10_holds_29 X hT hR (lv_sub hl [0, 1] rfl) hf
def rm_X10_quote : Room := { frames := 2, cells := 0, slots := 0, locals := 43 }
theorem mf_X10_quote : zz_Mf yX10_quote cX10_quote 4 (some .int) 1 := ⟨q_1643, q_11, by decide +kernel, by decide +kernel, by decide +kernel⟩
set_option maxHeartbeats 4000000 in
set_option maxRecDepth 100000 in
theorem bk_X10_quote_240 {D : va_G} {dA : Nat → ClassId} {base t0 : Nat} {l : Launch} {p : Program} {e : Env} {s : State} {m : MethodId} {args : Array Value} {below : List Frame} {meth : Method} {c : Code} (X : zz_X D dA base t0 "SpringseatModel" cX10_quote 4 (some .int) l p s m meth c) (hT : l.stackTraces = false) {s0 : Int32} {s1 : Int32} {h : zz_H} {n : Nat} {H : Heap} {locs : List Loc} {ls : Array Slot} (hR : zz_R D dA base h n s H locs) (hl : lv_has ls 4 []) {r0 : Int32} {hF : zz_H} (hf : f_X10_quote_240 s0 s1 h = some (r0, hF)) : W p l e rm_X10_quote s m args below meth c H locs 0 0 (MQ below (zz_Qc D dA base (some (.int r0)) hF n) args s rm_X10_quote.cells rm_X10_quote.slots (fun q => base ≤ q)) (F0 m 240 ls [.int s0, .int s1]) := by
  have hx := X.1
  have hb := X.2.1
  have hown := X.2.2.2.2.1
  unfold f_X10_quote_240 at hf
  refine lv_iadd hx hb dX10_quote_240 ?_
  cases hf
  exact zr_iret X hR dX10_quote_241 (Nat.le_of_ble_eq_true rfl) (Nat.le_of_ble_eq_true rfl)
set_option maxHeartbeats 4000000 in
set_option maxRecDepth 100000 in
theorem bk_X10_quote_193 {D : va_G} {dA : Nat → ClassId} {base t0 : Nat} {l : Launch} {p : Program} {e : Env} {s : State} {m : MethodId} {args : Array Value} {below : List Frame} {meth : Method} {c : Code} (X : zz_X D dA base t0 "SpringseatModel" cX10_quote 4 (some .int) l p s m meth c) (hT : l.stackTraces = false) {a0 : Nat} {x1 : Int32} {x3 : Int32} {s0 : Int32} {s1 : Int32} {s2 : Int32} {h : zz_H} {n : Nat} {H : Heap} {locs : List Loc} {ls : Array Slot} (hR : zz_R D dA base h n s H locs) (hl : lv_has ls 4 [(0, .ref a0), (1, .int x1), (3, .int x3)]) {r0 : Int32} {hF : zz_H} {o : ((Int32 × Int32) ⊕ (Int32 × zz_H))} (hf : f_X10_quote_193 a0 x1 x3 s0 s1 s2 h = some o) (k0 : ∀ (w2 : Int32) (w3 : Int32), o = (.inl (w2, w3)) → ∀ {H : Heap} {locs : List Loc} {ls : Array Slot}, zz_R D dA base h n s H locs → lv_has ls 4 [(0, .ref a0), (1, .int x1), (2, .int w2), (3, .int w3)] → W p l e rm_X10_quote s m args below meth c H locs 0 0 (MQ below (zz_Qc D dA base (some (.int r0)) hF n) args s rm_X10_quote.cells rm_X10_quote.slots (fun q => base ≤ q)) (F0 m 139 ls [])) (hret : ∀ r, o = (.inr r) → r = (r0, hF)) : W p l e rm_X10_quote s m args below meth c H locs 0 0 (MQ below (zz_Qc D dA base (some (.int r0)) hF n) args s rm_X10_quote.cells rm_X10_quote.slots (fun q => base ≤ q)) (F0 m 193 ls [.int s0, .int s1, .int s2]) := by
  have hx := X.1
  have hb := X.2.1
  have hown := X.2.2.2.2.1
  unfold f_X10_quote_193 at hf
  refine lv_imul hx hb dX10_quote_193 ?_
  refine lv_iadd hx hb dX10_quote_194 ?_
  refine lv_istore_n (i := 2) (lv' := [(2, .int (s2 + (s1 * s0))), (0, .ref a0), (1, .int x1), (3, .int x3)]) hx hb dX10_quote_195 rfl hl (by decide) rfl (fun ls hl => ?_)
  refine lv_iinc (i := 3) (v := (x3 + (1 : Int32))) (lv' := [(3, .int (x3 + (1 : Int32))), (2, .int (s2 + (s1 * s0))), (0, .ref a0), (1, .int x1)]) hx hb dX10_quote_196 hl (k := 3) rfl rfl (by decide) rfl (fun ls hl => ?_)
  refine lv_goto (tgt := 139) hx hb dX10_quote_199 (by decide) ?_
  cases hf
  exact k0 _ _ rfl hR (lv_sub hl [2, 3, 1, 0] rfl)
set_option maxHeartbeats 4000000 in
set_option maxRecDepth 100000 in
theorem bk_X10_quote_139 {D : va_G} {dA : Nat → ClassId} {base t0 : Nat} {l : Launch} {p : Program} {e : Env} {s : State} {m : MethodId} {args : Array Value} {below : List Frame} {meth : Method} {c : Code} (X : zz_X D dA base t0 "SpringseatModel" cX10_quote 4 (some .int) l p s m meth c) (hT : l.stackTraces = false) {a0 : Nat} {x1 : Int32} {x2 : Int32} {x3 : Int32} {h : zz_H} {n : Nat} {H : Heap} {locs : List Loc} {ls : Array Slot} (hR : zz_R D dA base h n s H locs) (hl : lv_has ls 4 [(0, .ref a0), (1, .int x1), (2, .int x2), (3, .int x3)]) {r0 : Int32} {hF : zz_H} {o : ((Int32 × Int32) ⊕ (Int32 × zz_H))} (hf : f_X10_quote_139 a0 x1 x2 x3 h = some o) (k0 : ∀ (w2 : Int32) (w3 : Int32), o = (.inl (w2, w3)) → ∀ {H : Heap} {locs : List Loc} {ls : Array Slot}, zz_R D dA base h n s H locs → lv_has ls 4 [(0, .ref a0), (1, .int x1), (2, .int w2), (3, .int w3)] → W p l e rm_X10_quote s m args below meth c H locs 0 0 (MQ below (zz_Qc D dA base (some (.int r0)) hF n) args s rm_X10_quote.cells rm_X10_quote.slots (fun q => base ≤ q)) (F0 m 139 ls [])) (hret : ∀ r, o = (.inr r) → r = (r0, hF)) : W p l e rm_X10_quote s m args below meth c H locs 0 0 (MQ below (zz_Qc D dA base (some (.int r0)) hF n) args s rm_X10_quote.cells rm_X10_quote.slots (fun q => base ≤ q)) (F0 m 139 ls []) := by
  have hx := X.1
  have hb := X.2.1
  have hown := X.2.2.2.2.1
  unfold f_X10_quote_139 at hf
  refine lv_iload_n hx hb dX10_quote_139 rfl (lv_at hl 3 rfl) ?_
  refine lv_aload_n hx hb dX10_quote_140 rfl (lv_at hl 0 rfl) ?_
  refine zr_gq X hR (r := (some a0)) fl_X10_48 dX10_quote_141 hf (fun v141 hf => ?_)
  refine lv_iload_n hx hb dX10_quote_144 rfl (lv_at hl 1 rfl) ?_
  refine zr_iald X hR (r := v141) dX10_quote_145 hf (fun v145 hf => ?_)
  refine lv_icmp_ge (tgt := 202) hx hb dX10_quote_146 (by decide) (fun c146 => ?_) (fun c146 => ?_)
  · replace hf := zz_pos c146 hf
    refine lv_iload_n hx hb dX10_quote_202 rfl (lv_at hl 2 rfl) ?_
    refine lv_iconst (v := (4 : Int32)) hx hb dX10_quote_203 (by decide) ?_
    refine lv_aload_n hx hb dX10_quote_204 rfl (lv_at hl 0 rfl) ?_
    refine lv_iload_n hx hb dX10_quote_205 rfl (lv_at hl 1 rfl) ?_
    obtain ⟨fs206, ho206, hf⟩ := zz_obS_i hf
    obtain ⟨v206, hv206, hf⟩ := zz_b_i hf
    refine zr_cV X hR hl.1 (As := [.int x1]) (rest := [.int (4 : Int32), .int x2]) (C := RX10) (T := TX10) (N := 34) (mt_X10_drawn hT a0 x1 h n hv206) rfl ho206 mf_X10_drawn q_1458 q_1460 qs_29 ⟨Nat.le_of_ble_eq_true rfl, Nat.le_of_ble_eq_true rfl⟩ ⟨Nat.le_of_ble_eq_true rfl, Nat.le_of_ble_eq_true rfl⟩ rfl (Nat.le_of_ble_eq_true rfl) dX10_quote_206 (fun H locs hR => ?_)
    refine W.eq (g2 := F0 m 209 ls [.int v206, .int (4 : Int32), .int x2]) rfl ?_
    refine lv_imul hx hb dX10_quote_209 ?_
    refine lv_iadd hx hb dX10_quote_210 ?_
    refine lv_istore_n (i := 2) (lv' := [(2, .int (x2 + ((4 : Int32) * v206))), (0, .ref a0), (1, .int x1), (3, .int x3)]) hx hb dX10_quote_211 rfl hl (by decide) rfl (fun ls hl => ?_)
    refine lv_iload_n hx hb dX10_quote_212 rfl (lv_at hl 0 rfl) ?_
    refine lv_aload_n hx hb dX10_quote_213 rfl (lv_at hl 1 rfl) ?_
    refine lv_iload_n hx hb dX10_quote_214 rfl (lv_at hl 2 rfl) ?_
    obtain ⟨fs215, ho215, hf⟩ := zz_obS_i hf
    obtain ⟨v215, hv215, hf⟩ := zz_b_i hf
    refine zr_cV X hR hl.1 (As := [.int x1]) (rest := [.int (x2 + ((4 : Int32) * v206))]) (C := RX10) (T := TX10) (N := 34) (mt_X10_last hT a0 x1 h n hv215) rfl ho215 mf_X10_last q_1386 q_1388 qs_20 ⟨Nat.le_of_ble_eq_true rfl, Nat.le_of_ble_eq_true rfl⟩ ⟨Nat.le_of_ble_eq_true rfl, Nat.le_of_ble_eq_true rfl⟩ rfl (Nat.le_of_ble_eq_true rfl) dX10_quote_215 (fun H locs hR => ?_)
    refine W.eq (g2 := F0 m 218 ls [.int v215, .int (x2 + ((4 : Int32) * v206))]) rfl ?_
    refine lv_bipush (v := (99 : Int32)) hx hb dX10_quote_218 (by decide) ?_
    refine lv_icmp_ne (tgt := 239) hx hb dX10_quote_220 (by decide) (fun c220 => ?_) (fun c220 => ?_)
    · replace hf := zz_neg c220 hf
      refine lv_iconst (v := (0 : Int32)) hx hb dX10_quote_239 (by decide) ?_
      obtain ⟨o1, hf1, he⟩ := Option.map_eq_some_iff.mp hf
      cases he
      cases hret _ rfl
      exact bk_X10_quote_240 X hT hR (lv_sub hl [] rfl) hf1
    · replace hf := zz_pos c220 hf
      refine lv_aload_n hx hb dX10_quote_223 rfl (lv_at hl 1 rfl) ?_
      refine zr_gq X hR (r := (some a0)) fl_X10_9 dX10_quote_224 hf (fun v224 hf => ?_)
      refine lv_iload_n hx hb dX10_quote_227 rfl (lv_at hl 2 rfl) ?_
      refine zr_iald X hR (r := v224) dX10_quote_228 hf (fun v228 hf => ?_)
      refine lv_aload_n hx hb dX10_quote_229 rfl (lv_at hl 1 rfl) ?_
      refine zr_gq X hR (r := (some a0)) fl_X10_74 dX10_quote_230 hf (fun v230 hf => ?_)
      refine lv_iload_n hx hb dX10_quote_233 rfl (lv_at hl 2 rfl) ?_
      refine zr_iald X hR (r := v230) dX10_quote_234 hf (fun v234 hf => ?_)
      refine lv_imul hx hb dX10_quote_235 ?_
      refine lv_goto (tgt := 240) hx hb dX10_quote_236 (by decide) ?_
      obtain ⟨o1, hf1, he⟩ := Option.map_eq_some_iff.mp hf
      cases he
      cases hret _ rfl
      exact bk_X10_quote_240 X hT hR (lv_sub hl [] rfl) hf1
  · replace hf := zz_neg c146 hf
    refine lv_iload_n hx hb dX10_quote_149 rfl (lv_at hl 2 rfl) ?_
    refine lv_aload_n hx hb dX10_quote_150 rfl (lv_at hl 0 rfl) ?_
    refine zr_gq X hR (r := (some a0)) fl_X10_54 dX10_quote_151 hf (fun v151 hf => ?_)
    refine lv_iload_n hx hb dX10_quote_154 rfl (lv_at hl 1 rfl) ?_
    refine zr_aald X hR (t := 6) (r := v151) (by decide) rfl dX10_quote_155 hf (fun v155 hf => ?_)
    refine lv_iload_n hx hb dX10_quote_156 rfl (lv_at hl 3 rfl) ?_
    refine zr_iald X hR (r := v155) dX10_quote_157 hf (fun v157 hf => ?_)
    refine lv_aload_n hx hb dX10_quote_158 rfl (lv_at hl 0 rfl) ?_
    refine zr_gq X hR (r := (some a0)) fl_X10_51 dX10_quote_159 hf (fun v159 hf => ?_)
    refine lv_iload_n hx hb dX10_quote_162 rfl (lv_at hl 1 rfl) ?_
    refine zr_aald X hR (t := 8) (r := v159) (by decide) rfl dX10_quote_163 hf (fun v163 hf => ?_)
    refine lv_iload_n hx hb dX10_quote_164 rfl (lv_at hl 3 rfl) ?_
    refine zr_cald X hR (r := v163) dX10_quote_165 hf (fun v165 hf => ?_)
    refine lv_bipush (v := (100 : Int32)) hx hb dX10_quote_166 (by decide) ?_
    refine lv_icmp_ne (tgt := 175) hx hb dX10_quote_168 (by decide) (fun c168 => ?_) (fun c168 => ?_)
    · replace hf := zz_neg c168 hf
      refine lv_aload_n hx hb dX10_quote_175 rfl (lv_at hl 0 rfl) ?_
      refine zr_gq X hR (r := (some a0)) fl_X10_51 dX10_quote_176 hf (fun v176 hf => ?_)
      refine lv_iload_n hx hb dX10_quote_179 rfl (lv_at hl 1 rfl) ?_
      refine zr_aald X hR (t := 8) (r := v176) (by decide) rfl dX10_quote_180 hf (fun v180 hf => ?_)
      refine lv_iload_n hx hb dX10_quote_181 rfl (lv_at hl 3 rfl) ?_
      refine zr_cald X hR (r := v180) dX10_quote_182 hf (fun v182 hf => ?_)
      refine lv_bipush (v := (102 : Int32)) hx hb dX10_quote_183 (by decide) ?_
      refine lv_icmp_ne (tgt := 192) hx hb dX10_quote_185 (by decide) (fun c185 => ?_) (fun c185 => ?_)
      · replace hf := zz_neg c185 hf
        refine lv_iconst (v := (3 : Int32)) hx hb dX10_quote_192 (by decide) ?_
        exact bk_X10_quote_193 X hT hR (lv_sub hl [0, 1, 3] rfl) hf k0 hret
      · replace hf := zz_pos c185 hf
        refine lv_iconst (v := (2 : Int32)) hx hb dX10_quote_188 (by decide) ?_
        refine lv_goto (tgt := 193) hx hb dX10_quote_189 (by decide) ?_
        exact bk_X10_quote_193 X hT hR (lv_sub hl [0, 1, 3] rfl) hf k0 hret
    · replace hf := zz_pos c168 hf
      refine lv_iconst (v := (1 : Int32)) hx hb dX10_quote_171 (by decide) ?_
      refine lv_goto (tgt := 193) hx hb dX10_quote_172 (by decide) ?_
      exact bk_X10_quote_193 X hT hR (lv_sub hl [0, 1, 3] rfl) hf k0 hret
set_option maxHeartbeats 4000000 in
set_option maxRecDepth 100000 in
theorem lp_X10_quote_139 {D : va_G} {dA : Nat → ClassId} {base t0 : Nat} {l : Launch} {p : Program} {e : Env} {s : State} {m : MethodId} {args : Array Value} {below : List Frame} {meth : Method} {c : Code} (X : zz_X D dA base t0 "SpringseatModel" cX10_quote 4 (some .int) l p s m meth c) (hT : l.stackTraces = false) (a0 : Nat) (x1 : Int32) {h : zz_H} {n : Nat} {r0 : Int32} {hF : zz_H} : ∀ (k : Nat) (x2 : Int32) (x3 : Int32), zz_it (fun s : (Int32 × Int32) => f_X10_quote_139 a0 x1 s.1 s.2 h) k (x2, x3) = some (r0, hF) → ∀ {H : Heap} {locs : List Loc} {ls : Array Slot}, zz_R D dA base h n s H locs → lv_has ls 4 [(0, .ref a0), (1, .int x1), (2, .int x2), (3, .int x3)] → W p l e rm_X10_quote s m args below meth c H locs 0 0 (MQ below (zz_Qc D dA base (some (.int r0)) hF n) args s rm_X10_quote.cells rm_X10_quote.slots (fun q => base ≤ q)) (F0 m 139 ls []) := by
  intro k
  induction k with
  | zero => intro x2 x3 hf; cases hf
  | succ k ih =>
    intro x2 x3 hf H locs ls hR hl
    rcases zz_it_s hf with ⟨⟨y0, y1⟩, h1, h2⟩ | h1
    · exact bk_X10_quote_139 (r0 := r0) X hT hR hl h1  (fun z0 z1 e => by cases e; exact ih _ _ h2) (fun r e => by cases e)
    · exact bk_X10_quote_139 (r0 := r0) X hT hR hl h1  (fun z0 z1 e => by cases e) (fun r e => (Sum.inr.inj e).symm)
set_option maxHeartbeats 4000000 in
set_option maxRecDepth 100000 in
theorem bk_X10_quote_137 {D : va_G} {dA : Nat → ClassId} {base t0 : Nat} {l : Launch} {p : Program} {e : Env} {s : State} {m : MethodId} {args : Array Value} {below : List Frame} {meth : Method} {c : Code} (X : zz_X D dA base t0 "SpringseatModel" cX10_quote 4 (some .int) l p s m meth c) (hT : l.stackTraces = false) {a0 : Nat} {x1 : Int32} {x2 : Int32} {h : zz_H} {n : Nat} {H : Heap} {locs : List Loc} {ls : Array Slot} (hR : zz_R D dA base h n s H locs) (hl : lv_has ls 4 [(0, .ref a0), (1, .int x1), (2, .int x2)]) {r0 : Int32} {hF : zz_H} (hf : f_X10_quote_137 a0 x1 x2 h = some (r0, hF)) : W p l e rm_X10_quote s m args below meth c H locs 0 0 (MQ below (zz_Qc D dA base (some (.int r0)) hF n) args s rm_X10_quote.cells rm_X10_quote.slots (fun q => base ≤ q)) (F0 m 137 ls []) := by
  have hx := X.1
  have hb := X.2.1
  have hown := X.2.2.2.2.1
  unfold f_X10_quote_137 at hf
  refine lv_iconst (v := (0 : Int32)) hx hb dX10_quote_137 (by decide) ?_
  refine lv_istore_n (i := 3) (lv' := [(3, .int (0 : Int32)), (0, .ref a0), (1, .int x1), (2, .int x2)]) hx hb dX10_quote_138 rfl hl (by decide) rfl (fun ls hl => ?_)
  exact lp_X10_quote_139 X hT a0 x1 zz_F _ _ hf hR (lv_sub hl [1, 2, 3, 0] rfl)
set_option maxHeartbeats 4000000 in
set_option maxRecDepth 100000 in
theorem bk_X10_quote_129 {D : va_G} {dA : Nat → ClassId} {base t0 : Nat} {l : Launch} {p : Program} {e : Env} {s : State} {m : MethodId} {args : Array Value} {below : List Frame} {meth : Method} {c : Code} (X : zz_X D dA base t0 "SpringseatModel" cX10_quote 4 (some .int) l p s m meth c) (hT : l.stackTraces = false) {a0 : Nat} {x1 : Int32} {x3 : Int32} {s0 : Int32} {s1 : Int32} {h : zz_H} {n : Nat} {H : Heap} {locs : List Loc} {ls : Array Slot} (hR : zz_R D dA base h n s H locs) (hl : lv_has ls 4 [(0, .ref a0), (1, .int x1), (3, .int x3)]) {r0 : Int32} {hF : zz_H} {o : ((Int32 × Int32) ⊕ (Int32 × zz_H))} (hf : f_X10_quote_129 a0 x1 x3 s0 s1 h = some o) (k0 : ∀ (w2 : Int32) (w3 : Int32), o = (.inl (w2, w3)) → ∀ {H : Heap} {locs : List Loc} {ls : Array Slot}, zz_R D dA base h n s H locs → lv_has ls 4 [(0, .ref a0), (1, .int x1), (2, .int w2), (3, .int w3)] → W p l e rm_X10_quote s m args below meth c H locs 0 0 (MQ below (zz_Qc D dA base (some (.int r0)) hF n) args s rm_X10_quote.cells rm_X10_quote.slots (fun q => base ≤ q)) (F0 m 92 ls [])) (hret : ∀ r, o = (.inr r) → r = (r0, hF)) : W p l e rm_X10_quote s m args below meth c H locs 0 0 (MQ below (zz_Qc D dA base (some (.int r0)) hF n) args s rm_X10_quote.cells rm_X10_quote.slots (fun q => base ≤ q)) (F0 m 129 ls [.int s0, .int s1]) := by
  have hx := X.1
  have hb := X.2.1
  have hown := X.2.2.2.2.1
  unfold f_X10_quote_129 at hf
  refine lv_iadd hx hb dX10_quote_129 ?_
  refine lv_istore_n (i := 2) (lv' := [(2, .int (s1 + s0)), (0, .ref a0), (1, .int x1), (3, .int x3)]) hx hb dX10_quote_130 rfl hl (by decide) rfl (fun ls hl => ?_)
  refine lv_iinc (i := 3) (v := (x3 + (1 : Int32))) (lv' := [(3, .int (x3 + (1 : Int32))), (2, .int (s1 + s0)), (0, .ref a0), (1, .int x1)]) hx hb dX10_quote_131 hl (k := 3) rfl rfl (by decide) rfl (fun ls hl => ?_)
  refine lv_goto (tgt := 92) hx hb dX10_quote_134 (by decide) ?_
  cases hf
  exact k0 _ _ rfl hR (lv_sub hl [2, 3, 1, 0] rfl)
set_option maxHeartbeats 4000000 in
set_option maxRecDepth 100000 in
theorem bk_X10_quote_92 {D : va_G} {dA : Nat → ClassId} {base t0 : Nat} {l : Launch} {p : Program} {e : Env} {s : State} {m : MethodId} {args : Array Value} {below : List Frame} {meth : Method} {c : Code} (X : zz_X D dA base t0 "SpringseatModel" cX10_quote 4 (some .int) l p s m meth c) (hT : l.stackTraces = false) {a0 : Nat} {x1 : Int32} {x2 : Int32} {x3 : Int32} {h : zz_H} {n : Nat} {H : Heap} {locs : List Loc} {ls : Array Slot} (hR : zz_R D dA base h n s H locs) (hl : lv_has ls 4 [(0, .ref a0), (1, .int x1), (2, .int x2), (3, .int x3)]) {r0 : Int32} {hF : zz_H} {o : ((Int32 × Int32) ⊕ (Int32 × zz_H))} (hf : f_X10_quote_92 a0 x1 x2 x3 h = some o) (k0 : ∀ (w2 : Int32) (w3 : Int32), o = (.inl (w2, w3)) → ∀ {H : Heap} {locs : List Loc} {ls : Array Slot}, zz_R D dA base h n s H locs → lv_has ls 4 [(0, .ref a0), (1, .int x1), (2, .int w2), (3, .int w3)] → W p l e rm_X10_quote s m args below meth c H locs 0 0 (MQ below (zz_Qc D dA base (some (.int r0)) hF n) args s rm_X10_quote.cells rm_X10_quote.slots (fun q => base ≤ q)) (F0 m 92 ls [])) (hret : ∀ r, o = (.inr r) → r = (r0, hF)) : W p l e rm_X10_quote s m args below meth c H locs 0 0 (MQ below (zz_Qc D dA base (some (.int r0)) hF n) args s rm_X10_quote.cells rm_X10_quote.slots (fun q => base ≤ q)) (F0 m 92 ls []) := by
  have hx := X.1
  have hb := X.2.1
  have hown := X.2.2.2.2.1
  unfold f_X10_quote_92 at hf
  refine lv_iload_n hx hb dX10_quote_92 rfl (lv_at hl 3 rfl) ?_
  refine lv_aload_n hx hb dX10_quote_93 rfl (lv_at hl 0 rfl) ?_
  refine zr_gq X hR (r := (some a0)) fl_X10_13 dX10_quote_94 hf (fun v94 hf => ?_)
  refine lv_iload_n hx hb dX10_quote_97 rfl (lv_at hl 1 rfl) ?_
  refine zr_iald X hR (r := v94) dX10_quote_98 hf (fun v98 hf => ?_)
  refine lv_icmp_ge (tgt := 137) hx hb dX10_quote_99 (by decide) (fun c99 => ?_) (fun c99 => ?_)
  · replace hf := zz_pos c99 hf
    obtain ⟨o1, hf1, he⟩ := Option.map_eq_some_iff.mp hf
    cases he
    cases hret _ rfl
    exact bk_X10_quote_137 X hT hR (lv_sub hl [0, 1, 2] rfl) hf1
  · replace hf := zz_neg c99 hf
    refine lv_aload_n hx hb dX10_quote_102 rfl (lv_at hl 0 rfl) ?_
    refine lv_iload_n hx hb dX10_quote_103 rfl (lv_at hl 1 rfl) ?_
    obtain ⟨fs104, ho104, hf⟩ := zz_obS_i hf
    obtain ⟨v104, hv104, hf⟩ := zz_b_i hf
    refine zr_cV X hR hl.1 (As := [.int x1]) (rest := []) (C := RX10) (T := TX10) (N := 34) (mt_X10_hasSprings hT a0 x1 h n hv104) rfl ho104 mf_X10_hasSprings q_1437 q_1439 qs_28 ⟨Nat.le_of_ble_eq_true rfl, Nat.le_of_ble_eq_true rfl⟩ ⟨Nat.le_of_ble_eq_true rfl, Nat.le_of_ble_eq_true rfl⟩ rfl (Nat.le_of_ble_eq_true rfl) dX10_quote_104 (fun H locs hR => ?_)
    refine W.eq (g2 := F0 m 107 ls [.int v104]) rfl ?_
    refine lv_if_eq (tgt := 137) hx hb dX10_quote_107 (by decide) (fun c107 => ?_) (fun c107 => ?_)
    · replace hf := zz_pos c107 hf
      obtain ⟨o1, hf1, he⟩ := Option.map_eq_some_iff.mp hf
      cases he
      cases hret _ rfl
      exact bk_X10_quote_137 X hT hR (lv_sub hl [0, 1, 2] rfl) hf1
    · replace hf := zz_neg c107 hf
      refine lv_iload_n hx hb dX10_quote_110 rfl (lv_at hl 2 rfl) ?_
      refine lv_aload_n hx hb dX10_quote_111 rfl (lv_at hl 0 rfl) ?_
      refine zr_gq X hR (r := (some a0)) fl_X10_45 dX10_quote_112 hf (fun v112 hf => ?_)
      refine lv_iload_n hx hb dX10_quote_115 rfl (lv_at hl 1 rfl) ?_
      refine zr_aald X hR (t := 6) (r := v112) (by decide) rfl dX10_quote_116 hf (fun v116 hf => ?_)
      refine lv_iload_n hx hb dX10_quote_117 rfl (lv_at hl 3 rfl) ?_
      refine zr_iald X hR (r := v116) dX10_quote_118 hf (fun v118 hf => ?_)
      refine lv_bipush (v := (99 : Int32)) hx hb dX10_quote_119 (by decide) ?_
      refine lv_icmp_ge (tgt := 128) hx hb dX10_quote_121 (by decide) (fun c121 => ?_) (fun c121 => ?_)
      · replace hf := zz_pos c121 hf
        refine lv_iconst (v := (0 : Int32)) hx hb dX10_quote_128 (by decide) ?_
        exact bk_X10_quote_129 X hT hR (lv_sub hl [0, 1, 3] rfl) hf k0 hret
      · replace hf := zz_neg c121 hf
        refine lv_iconst (v := (2 : Int32)) hx hb dX10_quote_124 (by decide) ?_
        refine lv_goto (tgt := 129) hx hb dX10_quote_125 (by decide) ?_
        exact bk_X10_quote_129 X hT hR (lv_sub hl [0, 1, 3] rfl) hf k0 hret
set_option maxHeartbeats 4000000 in
set_option maxRecDepth 100000 in
theorem lp_X10_quote_92 {D : va_G} {dA : Nat → ClassId} {base t0 : Nat} {l : Launch} {p : Program} {e : Env} {s : State} {m : MethodId} {args : Array Value} {below : List Frame} {meth : Method} {c : Code} (X : zz_X D dA base t0 "SpringseatModel" cX10_quote 4 (some .int) l p s m meth c) (hT : l.stackTraces = false) (a0 : Nat) (x1 : Int32) {h : zz_H} {n : Nat} {r0 : Int32} {hF : zz_H} : ∀ (k : Nat) (x2 : Int32) (x3 : Int32), zz_it (fun s : (Int32 × Int32) => f_X10_quote_92 a0 x1 s.1 s.2 h) k (x2, x3) = some (r0, hF) → ∀ {H : Heap} {locs : List Loc} {ls : Array Slot}, zz_R D dA base h n s H locs → lv_has ls 4 [(0, .ref a0), (1, .int x1), (2, .int x2), (3, .int x3)] → W p l e rm_X10_quote s m args below meth c H locs 0 0 (MQ below (zz_Qc D dA base (some (.int r0)) hF n) args s rm_X10_quote.cells rm_X10_quote.slots (fun q => base ≤ q)) (F0 m 92 ls []) := by
  intro k
  induction k with
  | zero => intro x2 x3 hf; cases hf
  | succ k ih =>
    intro x2 x3 hf H locs ls hR hl
    rcases zz_it_s hf with ⟨⟨y0, y1⟩, h1, h2⟩ | h1
    · exact bk_X10_quote_92 (r0 := r0) X hT hR hl h1  (fun z0 z1 e => by cases e; exact ih _ _ h2) (fun r e => by cases e)
    · exact bk_X10_quote_92 (r0 := r0) X hT hR hl h1  (fun z0 z1 e => by cases e) (fun r e => (Sum.inr.inj e).symm)
set_option maxHeartbeats 4000000 in
set_option maxRecDepth 100000 in
theorem bk_X10_quote_90 {D : va_G} {dA : Nat → ClassId} {base t0 : Nat} {l : Launch} {p : Program} {e : Env} {s : State} {m : MethodId} {args : Array Value} {below : List Frame} {meth : Method} {c : Code} (X : zz_X D dA base t0 "SpringseatModel" cX10_quote 4 (some .int) l p s m meth c) (hT : l.stackTraces = false) {a0 : Nat} {x1 : Int32} {x2 : Int32} {h : zz_H} {n : Nat} {H : Heap} {locs : List Loc} {ls : Array Slot} (hR : zz_R D dA base h n s H locs) (hl : lv_has ls 4 [(0, .ref a0), (1, .int x1), (2, .int x2)]) {r0 : Int32} {hF : zz_H} (hf : f_X10_quote_90 a0 x1 x2 h = some (r0, hF)) : W p l e rm_X10_quote s m args below meth c H locs 0 0 (MQ below (zz_Qc D dA base (some (.int r0)) hF n) args s rm_X10_quote.cells rm_X10_quote.slots (fun q => base ≤ q)) (F0 m 90 ls []) := by
  have hx := X.1
  have hb := X.2.1
  have hown := X.2.2.2.2.1
  unfold f_X10_quote_90 at hf
  refine lv_iconst (v := (0 : Int32)) hx hb dX10_quote_90 (by decide) ?_
  refine lv_istore_n (i := 3) (lv' := [(3, .int (0 : Int32)), (0, .ref a0), (1, .int x1), (2, .int x2)]) hx hb dX10_quote_91 rfl hl (by decide) rfl (fun ls hl => ?_)
  exact lp_X10_quote_92 X hT a0 x1 zz_F _ _ hf hR (lv_sub hl [1, 2, 3, 0] rfl)
set_option maxHeartbeats 4000000 in
set_option maxRecDepth 100000 in
theorem bk_X10_quote_82 {D : va_G} {dA : Nat → ClassId} {base t0 : Nat} {l : Launch} {p : Program} {e : Env} {s : State} {m : MethodId} {args : Array Value} {below : List Frame} {meth : Method} {c : Code} (X : zz_X D dA base t0 "SpringseatModel" cX10_quote 4 (some .int) l p s m meth c) (hT : l.stackTraces = false) {a0 : Nat} {x1 : Int32} {x3 : Int32} {s0 : Int32} {s1 : Int32} {h : zz_H} {n : Nat} {H : Heap} {locs : List Loc} {ls : Array Slot} (hR : zz_R D dA base h n s H locs) (hl : lv_has ls 4 [(0, .ref a0), (1, .int x1), (3, .int x3)]) {r0 : Int32} {hF : zz_H} {o : ((Int32 × Int32) ⊕ (Int32 × zz_H))} (hf : f_X10_quote_82 a0 x1 x3 s0 s1 h = some o) (k0 : ∀ (w2 : Int32) (w3 : Int32), o = (.inl (w2, w3)) → ∀ {H : Heap} {locs : List Loc} {ls : Array Slot}, zz_R D dA base h n s H locs → lv_has ls 4 [(0, .ref a0), (1, .int x1), (2, .int w2), (3, .int w3)] → W p l e rm_X10_quote s m args below meth c H locs 0 0 (MQ below (zz_Qc D dA base (some (.int r0)) hF n) args s rm_X10_quote.cells rm_X10_quote.slots (fun q => base ≤ q)) (F0 m 45 ls [])) (hret : ∀ r, o = (.inr r) → r = (r0, hF)) : W p l e rm_X10_quote s m args below meth c H locs 0 0 (MQ below (zz_Qc D dA base (some (.int r0)) hF n) args s rm_X10_quote.cells rm_X10_quote.slots (fun q => base ≤ q)) (F0 m 82 ls [.int s0, .int s1]) := by
  have hx := X.1
  have hb := X.2.1
  have hown := X.2.2.2.2.1
  unfold f_X10_quote_82 at hf
  refine lv_iadd hx hb dX10_quote_82 ?_
  refine lv_istore_n (i := 2) (lv' := [(2, .int (s1 + s0)), (0, .ref a0), (1, .int x1), (3, .int x3)]) hx hb dX10_quote_83 rfl hl (by decide) rfl (fun ls hl => ?_)
  refine lv_iinc (i := 3) (v := (x3 + (1 : Int32))) (lv' := [(3, .int (x3 + (1 : Int32))), (2, .int (s1 + s0)), (0, .ref a0), (1, .int x1)]) hx hb dX10_quote_84 hl (k := 3) rfl rfl (by decide) rfl (fun ls hl => ?_)
  refine lv_goto (tgt := 45) hx hb dX10_quote_87 (by decide) ?_
  cases hf
  exact k0 _ _ rfl hR (lv_sub hl [2, 3, 1, 0] rfl)
set_option maxHeartbeats 4000000 in
set_option maxRecDepth 100000 in
theorem bk_X10_quote_45 {D : va_G} {dA : Nat → ClassId} {base t0 : Nat} {l : Launch} {p : Program} {e : Env} {s : State} {m : MethodId} {args : Array Value} {below : List Frame} {meth : Method} {c : Code} (X : zz_X D dA base t0 "SpringseatModel" cX10_quote 4 (some .int) l p s m meth c) (hT : l.stackTraces = false) {a0 : Nat} {x1 : Int32} {x2 : Int32} {x3 : Int32} {h : zz_H} {n : Nat} {H : Heap} {locs : List Loc} {ls : Array Slot} (hR : zz_R D dA base h n s H locs) (hl : lv_has ls 4 [(0, .ref a0), (1, .int x1), (2, .int x2), (3, .int x3)]) {r0 : Int32} {hF : zz_H} {o : ((Int32 × Int32) ⊕ (Int32 × zz_H))} (hf : f_X10_quote_45 a0 x1 x2 x3 h = some o) (k0 : ∀ (w2 : Int32) (w3 : Int32), o = (.inl (w2, w3)) → ∀ {H : Heap} {locs : List Loc} {ls : Array Slot}, zz_R D dA base h n s H locs → lv_has ls 4 [(0, .ref a0), (1, .int x1), (2, .int w2), (3, .int w3)] → W p l e rm_X10_quote s m args below meth c H locs 0 0 (MQ below (zz_Qc D dA base (some (.int r0)) hF n) args s rm_X10_quote.cells rm_X10_quote.slots (fun q => base ≤ q)) (F0 m 45 ls [])) (hret : ∀ r, o = (.inr r) → r = (r0, hF)) : W p l e rm_X10_quote s m args below meth c H locs 0 0 (MQ below (zz_Qc D dA base (some (.int r0)) hF n) args s rm_X10_quote.cells rm_X10_quote.slots (fun q => base ≤ q)) (F0 m 45 ls []) := by
  have hx := X.1
  have hb := X.2.1
  have hown := X.2.2.2.2.1
  unfold f_X10_quote_45 at hf
  refine lv_iload_n hx hb dX10_quote_45 rfl (lv_at hl 3 rfl) ?_
  refine lv_aload_n hx hb dX10_quote_46 rfl (lv_at hl 0 rfl) ?_
  refine zr_gq X hR (r := (some a0)) fl_X10_9 dX10_quote_47 hf (fun v47 hf => ?_)
  refine lv_iload_n hx hb dX10_quote_50 rfl (lv_at hl 1 rfl) ?_
  refine zr_iald X hR (r := v47) dX10_quote_51 hf (fun v51 hf => ?_)
  refine lv_icmp_ge (tgt := 90) hx hb dX10_quote_52 (by decide) (fun c52 => ?_) (fun c52 => ?_)
  · replace hf := zz_pos c52 hf
    obtain ⟨o1, hf1, he⟩ := Option.map_eq_some_iff.mp hf
    cases he
    cases hret _ rfl
    exact bk_X10_quote_90 X hT hR (lv_sub hl [0, 1, 2] rfl) hf1
  · replace hf := zz_neg c52 hf
    refine lv_aload_n hx hb dX10_quote_55 rfl (lv_at hl 0 rfl) ?_
    refine lv_iload_n hx hb dX10_quote_56 rfl (lv_at hl 1 rfl) ?_
    obtain ⟨fs57, ho57, hf⟩ := zz_obS_i hf
    obtain ⟨v57, hv57, hf⟩ := zz_b_i hf
    refine zr_cV X hR hl.1 (As := [.int x1]) (rest := []) (C := RX10) (T := TX10) (N := 34) (mt_X10_hasSprings hT a0 x1 h n hv57) rfl ho57 mf_X10_hasSprings q_1437 q_1439 qs_28 ⟨Nat.le_of_ble_eq_true rfl, Nat.le_of_ble_eq_true rfl⟩ ⟨Nat.le_of_ble_eq_true rfl, Nat.le_of_ble_eq_true rfl⟩ rfl (Nat.le_of_ble_eq_true rfl) dX10_quote_57 (fun H locs hR => ?_)
    refine W.eq (g2 := F0 m 60 ls [.int v57]) rfl ?_
    refine lv_if_eq (tgt := 90) hx hb dX10_quote_60 (by decide) (fun c60 => ?_) (fun c60 => ?_)
    · replace hf := zz_pos c60 hf
      obtain ⟨o1, hf1, he⟩ := Option.map_eq_some_iff.mp hf
      cases he
      cases hret _ rfl
      exact bk_X10_quote_90 X hT hR (lv_sub hl [0, 1, 2] rfl) hf1
    · replace hf := zz_neg c60 hf
      refine lv_iload_n hx hb dX10_quote_63 rfl (lv_at hl 2 rfl) ?_
      refine lv_aload_n hx hb dX10_quote_64 rfl (lv_at hl 0 rfl) ?_
      refine zr_gq X hR (r := (some a0)) fl_X10_42 dX10_quote_65 hf (fun v65 hf => ?_)
      refine lv_iload_n hx hb dX10_quote_68 rfl (lv_at hl 1 rfl) ?_
      refine zr_aald X hR (t := 6) (r := v65) (by decide) rfl dX10_quote_69 hf (fun v69 hf => ?_)
      refine lv_iload_n hx hb dX10_quote_70 rfl (lv_at hl 3 rfl) ?_
      refine zr_iald X hR (r := v69) dX10_quote_71 hf (fun v71 hf => ?_)
      refine lv_bipush (v := (99 : Int32)) hx hb dX10_quote_72 (by decide) ?_
      refine lv_icmp_ge (tgt := 81) hx hb dX10_quote_74 (by decide) (fun c74 => ?_) (fun c74 => ?_)
      · replace hf := zz_pos c74 hf
        refine lv_iconst (v := (0 : Int32)) hx hb dX10_quote_81 (by decide) ?_
        exact bk_X10_quote_82 X hT hR (lv_sub hl [0, 1, 3] rfl) hf k0 hret
      · replace hf := zz_neg c74 hf
        refine lv_iconst (v := (2 : Int32)) hx hb dX10_quote_77 (by decide) ?_
        refine lv_goto (tgt := 82) hx hb dX10_quote_78 (by decide) ?_
        exact bk_X10_quote_82 X hT hR (lv_sub hl [0, 1, 3] rfl) hf k0 hret
set_option maxHeartbeats 4000000 in
set_option maxRecDepth 100000 in
theorem lp_X10_quote_45 {D : va_G} {dA : Nat → ClassId} {base t0 : Nat} {l : Launch} {p : Program} {e : Env} {s : State} {m : MethodId} {args : Array Value} {below : List Frame} {meth : Method} {c : Code} (X : zz_X D dA base t0 "SpringseatModel" cX10_quote 4 (some .int) l p s m meth c) (hT : l.stackTraces = false) (a0 : Nat) (x1 : Int32) {h : zz_H} {n : Nat} {r0 : Int32} {hF : zz_H} : ∀ (k : Nat) (x2 : Int32) (x3 : Int32), zz_it (fun s : (Int32 × Int32) => f_X10_quote_45 a0 x1 s.1 s.2 h) k (x2, x3) = some (r0, hF) → ∀ {H : Heap} {locs : List Loc} {ls : Array Slot}, zz_R D dA base h n s H locs → lv_has ls 4 [(0, .ref a0), (1, .int x1), (2, .int x2), (3, .int x3)] → W p l e rm_X10_quote s m args below meth c H locs 0 0 (MQ below (zz_Qc D dA base (some (.int r0)) hF n) args s rm_X10_quote.cells rm_X10_quote.slots (fun q => base ≤ q)) (F0 m 45 ls []) := by
  intro k
  induction k with
  | zero => intro x2 x3 hf; cases hf
  | succ k ih =>
    intro x2 x3 hf H locs ls hR hl
    rcases zz_it_s hf with ⟨⟨y0, y1⟩, h1, h2⟩ | h1
    · exact bk_X10_quote_45 (r0 := r0) X hT hR hl h1  (fun z0 z1 e => by cases e; exact ih _ _ h2) (fun r e => by cases e)
    · exact bk_X10_quote_45 (r0 := r0) X hT hR hl h1  (fun z0 z1 e => by cases e) (fun r e => (Sum.inr.inj e).symm)
set_option maxHeartbeats 4000000 in
set_option maxRecDepth 100000 in
theorem bk_X10_quote_42 {D : va_G} {dA : Nat → ClassId} {base t0 : Nat} {l : Launch} {p : Program} {e : Env} {s : State} {m : MethodId} {args : Array Value} {below : List Frame} {meth : Method} {c : Code} (X : zz_X D dA base t0 "SpringseatModel" cX10_quote 4 (some .int) l p s m meth c) (hT : l.stackTraces = false) {a0 : Nat} {x1 : Int32} {s0 : Int32} {h : zz_H} {n : Nat} {H : Heap} {locs : List Loc} {ls : Array Slot} (hR : zz_R D dA base h n s H locs) (hl : lv_has ls 4 [(0, .ref a0), (1, .int x1)]) {r0 : Int32} {hF : zz_H} (hf : f_X10_quote_42 a0 x1 s0 h = some (r0, hF)) : W p l e rm_X10_quote s m args below meth c H locs 0 0 (MQ below (zz_Qc D dA base (some (.int r0)) hF n) args s rm_X10_quote.cells rm_X10_quote.slots (fun q => base ≤ q)) (F0 m 42 ls [.int s0]) := by
  have hx := X.1
  have hb := X.2.1
  have hown := X.2.2.2.2.1
  unfold f_X10_quote_42 at hf
  refine lv_istore_n (i := 2) (lv' := [(2, .int s0), (0, .ref a0), (1, .int x1)]) hx hb dX10_quote_42 rfl hl (by decide) rfl (fun ls hl => ?_)
  refine lv_iconst (v := (0 : Int32)) hx hb dX10_quote_43 (by decide) ?_
  refine lv_istore_n (i := 3) (lv' := [(3, .int (0 : Int32)), (2, .int s0), (0, .ref a0), (1, .int x1)]) hx hb dX10_quote_44 rfl hl (by decide) rfl (fun ls hl => ?_)
  exact lp_X10_quote_45 X hT a0 x1 zz_F _ _ hf hR (lv_sub hl [2, 3, 1, 0] rfl)
set_option maxHeartbeats 4000000 in
set_option maxRecDepth 100000 in
theorem mt_X10_quote {D : va_G} {dA : Nat → ClassId} {base t0 : Nat} {l : Launch} (hT : l.stackTraces = false) (a0 : Nat) (x1 : Int32) (h : zz_H) (n : Nat) {r0 : Int32} {hF : zz_H} (hf : f_X10_quote a0 x1 h = some (r0, hF)) : zz_M D dA base t0 l yX10_quote cX10_quote 4 (some .int) rm_X10_quote [.ref a0, .int x1] h n (some (.int r0)) hF n := by
  refine Met.ofW (cc := cX10_quote) (maxL := 4) (ret := (some .int)) (by decide +kernel) rfl ?_
  intro p e s m args below meth c s₁ B hml hv
  obtain ⟨rfl, hP, hK⟩ := hv
  have X : zz_X D dA base t0 "SpringseatModel" cX10_quote 4 (some .int) l p s m meth c := ⟨B.exec, B.bytes, hml, B.returns, findClass_of_methodNamed B.named, B.notSynchronized, hT, by rw [hP.1]; exact hP.2.1, hK⟩
  have hx := X.1
  have hb := X.2.1
  have hown := X.2.2.2.2.1
  have hR : zz_R D dA base h n s s.heap [] := ⟨hP, va_S.rf⟩
  have hl := lv_entry ([.ref a0, .int x1]) (n := 4) (by exact Nat.le_of_ble_eq_true rfl)
  rw [lg_entry_eq]
  generalize (lg_sl ([.ref a0, .int x1]) ++ List.replicate (4 - (lg_sl ([.ref a0, .int x1])).length) Slot.unset).toArray = ls at hl ⊢
  have hl : lv_has ls 4 [(0, .ref a0), (1, .int x1)] := hl
  unfold f_X10_quote at hf
  refine lv_aload_n hx hb dX10_quote_0 rfl (lv_at hl 0 rfl) ?_
  refine lv_aload_n hx hb dX10_quote_1 rfl (lv_at hl 0 rfl) ?_
  refine lv_iload_n hx hb dX10_quote_2 rfl (lv_at hl 1 rfl) ?_
  obtain ⟨fs3, ho3, hf⟩ := zz_obS_i hf
  obtain ⟨v3, hv3, hf⟩ := zz_b_i hf
  refine zr_cV X hR hl.1 (As := [.int x1]) (rest := [.ref a0]) (C := RX10) (T := TX10) (N := 34) (mt_X10_isNoSeat hT a0 x1 h n hv3) rfl ho3 mf_X10_isNoSeat q_1378 q_1380 qs_18 ⟨Nat.le_of_ble_eq_true rfl, Nat.le_of_ble_eq_true rfl⟩ ⟨Nat.le_of_ble_eq_true rfl, Nat.le_of_ble_eq_true rfl⟩ rfl (Nat.le_of_ble_eq_true rfl) dX10_quote_3 (fun H locs hR => ?_)
  refine W.eq (g2 := F0 m 6 ls [.int v3, .ref a0]) rfl ?_
  refine lv_iconst (v := (1 : Int32)) hx hb dX10_quote_6 (by decide) ?_
  obtain ⟨fs7, ho7, hf⟩ := zz_obS_i hf
  obtain ⟨v7, h7, hv7, hf⟩ := zz_b1_i hf
  refine zr_cV X hR hl.1 (As := [.int v3, .int (1 : Int32)]) (rest := []) (C := RX10) (T := TX10) (N := 34) (mt_X10_isThrown hT a0 v3 (1 : Int32) h n hv7) rfl ho7 mf_X10_isThrown q_1370 q_1372 qs_17 ⟨Nat.le_of_ble_eq_true rfl, Nat.le_of_ble_eq_true rfl⟩ ⟨Nat.le_of_ble_eq_true rfl, Nat.le_of_ble_eq_true rfl⟩ rfl (Nat.le_of_ble_eq_true rfl) dX10_quote_7 (fun H locs hR => ?_)
  refine W.eq (g2 := F0 m 10 ls [.int v7]) rfl ?_
  refine lv_if_eq (tgt := 15) hx hb dX10_quote_10 (by decide) (fun c10 => ?_) (fun c10 => ?_)
  · replace hf := zz_pos c10 hf
    refine lv_aload_n hx hb dX10_quote_15 rfl (lv_at hl 0 rfl) ?_
    refine lv_iload_n hx hb dX10_quote_16 rfl (lv_at hl 1 rfl) ?_
    obtain ⟨fs17, ho17, hf⟩ := zz_obS_i hf
    obtain ⟨v17, hv17, hf⟩ := zz_b_i hf
    refine zr_cV X hR hl.1 (As := [.int x1]) (rest := []) (C := RX10) (T := TX10) (N := 34) (mt_X10_hasSprings hT a0 x1 h7 n hv17) rfl ho17 mf_X10_hasSprings q_1437 q_1439 qs_28 ⟨Nat.le_of_ble_eq_true rfl, Nat.le_of_ble_eq_true rfl⟩ ⟨Nat.le_of_ble_eq_true rfl, Nat.le_of_ble_eq_true rfl⟩ rfl (Nat.le_of_ble_eq_true rfl) dX10_quote_17 (fun H locs hR => ?_)
    refine W.eq (g2 := F0 m 20 ls [.int v17]) rfl ?_
    refine lv_if_eq (tgt := 41) hx hb dX10_quote_20 (by decide) (fun c20 => ?_) (fun c20 => ?_)
    · replace hf := zz_pos c20 hf
      refine lv_iconst (v := (0 : Int32)) hx hb dX10_quote_41 (by decide) ?_
      exact bk_X10_quote_42 X hT hR (lv_sub hl [0, 1] rfl) hf
    · replace hf := zz_neg c20 hf
      refine lv_iconst (v := (5 : Int32)) hx hb dX10_quote_23 (by decide) ?_
      refine lv_aload_n hx hb dX10_quote_24 rfl (lv_at hl 0 rfl) ?_
      refine zr_gq X hR (r := (some a0)) fl_X10_9 dX10_quote_25 hf (fun v25 hf => ?_)
      refine lv_iload_n hx hb dX10_quote_28 rfl (lv_at hl 1 rfl) ?_
      refine zr_iald X hR (r := v25) dX10_quote_29 hf (fun v29 hf => ?_)
      refine lv_imul hx hb dX10_quote_30 ?_
      refine lv_aload_n hx hb dX10_quote_31 rfl (lv_at hl 0 rfl) ?_
      refine zr_gq X hR (r := (some a0)) fl_X10_13 dX10_quote_32 hf (fun v32 hf => ?_)
      refine lv_iload_n hx hb dX10_quote_35 rfl (lv_at hl 1 rfl) ?_
      refine zr_iald X hR (r := v32) dX10_quote_36 hf (fun v36 hf => ?_)
      refine lv_imul hx hb dX10_quote_37 ?_
      refine lv_goto (tgt := 42) hx hb dX10_quote_38 (by decide) ?_
      exact bk_X10_quote_42 X hT hR (lv_sub hl [0, 1] rfl) hf
  · replace hf := zz_neg c10 hf
    refine lv_iconst (v := (0 : Int32)) hx hb dX10_quote_13 (by decide) ?_
    cases hf
    exact zr_iret X hR dX10_quote_14 (Nat.le_of_ble_eq_true rfl) (Nat.le_of_ble_eq_true rfl)
def rm_X10_checksum : Room := { frames := 3, cells := 0, slots := 0, locals := 69 }
theorem mf_X10_checksum : zz_Mf yX10_checksum cX10_checksum 6 (some .long) 0 := ⟨q_1647, q_11, by decide +kernel, by decide +kernel, by decide +kernel⟩
set_option maxHeartbeats 4000000 in
set_option maxRecDepth 100000 in
theorem bk_X10_checksum_50 {D : va_G} {dA : Nat → ClassId} {base t0 : Nat} {l : Launch} {p : Program} {e : Env} {s : State} {m : MethodId} {args : Array Value} {below : List Frame} {meth : Method} {c : Code} (X : zz_X D dA base t0 "SpringseatModel" cX10_checksum 6 (some .long) l p s m meth c) (hT : l.stackTraces = false) {a0 : Nat} {x1 : Int64} {x3 : Int32} {x4 : Int32} {x5 : Int32} {h : zz_H} {n : Nat} {H : Heap} {locs : List Loc} {ls : Array Slot} (hR : zz_R D dA base h n s H locs) (hl : lv_has ls 6 [(0, .ref a0), (1, .long x1), (3, .int x3), (4, .int x4), (5, .int x5)]) {r0 : Int64} {hF : zz_H} {o : ((Int64 × Int32) ⊕ ((Int64 × Int32) ⊕ ((Int64 × Int32) ⊕ (Int64 × zz_H))))} (hf : f_X10_checksum_50 a0 x1 x3 x4 x5 h = some o) (k0 : ∀ (w1 : Int64) (w3 : Int32), o = (.inr (.inr (.inl (w1, w3)))) → ∀ {H : Heap} {locs : List Loc} {ls : Array Slot}, zz_R D dA base h n s H locs → lv_has ls 6 [(0, .ref a0), (1, .long w1), (3, .int w3)] → W p l e rm_X10_checksum s m args below meth c H locs 0 0 (MQ below (zz_Qc D dA base (some (.long r0)) hF n) args s rm_X10_checksum.cells rm_X10_checksum.slots (fun q => base ≤ q)) (F0 m 11 ls [])) (k1 : ∀ (w1 : Int64) (w4 : Int32), o = (.inr (.inl (w1, w4))) → ∀ {H : Heap} {locs : List Loc} {ls : Array Slot}, zz_R D dA base h n s H locs → lv_has ls 6 [(0, .ref a0), (1, .long w1), (3, .int x3), (4, .int w4)] → W p l e rm_X10_checksum s m args below meth c H locs 0 0 (MQ below (zz_Qc D dA base (some (.long r0)) hF n) args s rm_X10_checksum.cells rm_X10_checksum.slots (fun q => base ≤ q)) (F0 m 36 ls [])) (k2 : ∀ (w1 : Int64) (w5 : Int32), o = (.inl (w1, w5)) → ∀ {H : Heap} {locs : List Loc} {ls : Array Slot}, zz_R D dA base h n s H locs → lv_has ls 6 [(0, .ref a0), (1, .long w1), (3, .int x3), (4, .int x4), (5, .int w5)] → W p l e rm_X10_checksum s m args below meth c H locs 0 0 (MQ below (zz_Qc D dA base (some (.long r0)) hF n) args s rm_X10_checksum.cells rm_X10_checksum.slots (fun q => base ≤ q)) (F0 m 50 ls [])) (hret : ∀ r, o = (.inr (.inr (.inr r))) → r = (r0, hF)) : W p l e rm_X10_checksum s m args below meth c H locs 0 0 (MQ below (zz_Qc D dA base (some (.long r0)) hF n) args s rm_X10_checksum.cells rm_X10_checksum.slots (fun q => base ≤ q)) (F0 m 50 ls []) := by
  have hx := X.1
  have hb := X.2.1
  have hown := X.2.2.2.2.1
  unfold f_X10_checksum_50 at hf
  refine lv_iload hx hb dX10_checksum_50 (lv_at hl 4 rfl) ?_
  refine lv_aload_n hx hb dX10_checksum_52 rfl (lv_at hl 0 rfl) ?_
  refine zr_gq X hR (r := (some a0)) fl_X10_13 dX10_checksum_53 hf (fun v53 hf => ?_)
  refine lv_iload_n hx hb dX10_checksum_56 rfl (lv_at hl 2 rfl) ?_
  refine zr_iald X hR (r := v53) dX10_checksum_57 hf (fun v57 hf => ?_)
  refine lv_icmp_ge (tgt := 84) hx hb dX10_checksum_58 (by decide) (fun c58 => ?_) (fun c58 => ?_)
  · replace hf := zz_pos c58 hf
    refine lv_iinc (i := 4) (v := (x4 + (1 : Int32))) (lv' := [(4, .int (x4 + (1 : Int32))), (0, .ref a0), (1, .long x1), (3, .int x3), (5, .int x5)]) hx hb dX10_checksum_84 hl (k := 3) rfl rfl (by decide) rfl (fun ls hl => ?_)
    refine lv_goto (tgt := 36) hx hb dX10_checksum_87 (by decide) ?_
    cases hf
    exact k1 _ _ rfl hR (lv_sub hl [1, 2, 3, 0] rfl)
  · replace hf := zz_neg c58 hf
    refine lv_ldc2 hx hb hown (zz_w X q_1649) dX10_checksum_61 ?_
    refine lv_lload_n hx hb dX10_checksum_64 rfl (lv_at hl 1 rfl) ?_
    refine lv_lmul hx hb dX10_checksum_65 ?_
    refine lv_aload_n hx hb dX10_checksum_66 rfl (lv_at hl 0 rfl) ?_
    refine lv_iload_n hx hb dX10_checksum_67 rfl (lv_at hl 2 rfl) ?_
    refine lv_iload hx hb dX10_checksum_68 (lv_at hl 3 rfl) ?_
    refine lv_iload hx hb dX10_checksum_70 (lv_at hl 4 rfl) ?_
    obtain ⟨fs72, ho72, hf⟩ := zz_obS_i hf
    obtain ⟨v72, hv72, hf⟩ := zz_b_i hf
    refine zr_cV X hR hl.1 (As := [.int x3, .int x4, .int x5]) (rest := [.long ((31 : Int64) * x1)]) (C := RX10) (T := TX10) (N := 34) (mt_X10_topAt hT a0 x3 x4 x5 h n hv72) rfl ho72 mf_X10_topAt q_1466 q_1468 qs_30 ⟨Nat.le_of_ble_eq_true rfl, Nat.le_of_ble_eq_true rfl⟩ ⟨Nat.le_of_ble_eq_true rfl, Nat.le_of_ble_eq_true rfl⟩ rfl (Nat.le_of_ble_eq_true rfl) dX10_checksum_72 (fun H locs hR => ?_)
    refine W.eq (g2 := F0 m 75 ls [.int v72, .long ((31 : Int64) * x1)]) rfl ?_
    refine lv_i2l hx hb dX10_checksum_75 rfl ?_
    refine lv_ladd hx hb dX10_checksum_76 ?_
    refine lv_lstore_n (i := 1) (lv' := [(1, .long (((31 : Int64) * x1) + v72.toInt64)), (0, .ref a0), (3, .int x3), (4, .int x4), (5, .int x5)]) hx hb dX10_checksum_77 rfl hl (by decide) rfl (fun ls hl => ?_)
    refine lv_iinc (i := 5) (v := (x5 + (1 : Int32))) (lv' := [(5, .int (x5 + (1 : Int32))), (1, .long (((31 : Int64) * x1) + v72.toInt64)), (0, .ref a0), (3, .int x3), (4, .int x4)]) hx hb dX10_checksum_78 hl (k := 4) rfl rfl (by decide) rfl (fun ls hl => ?_)
    refine lv_goto (tgt := 50) hx hb dX10_checksum_81 (by decide) ?_
    cases hf
    exact k2 _ _ rfl hR (lv_sub hl [2, 1, 3, 4, 0] rfl)
set_option maxHeartbeats 4000000 in
set_option maxRecDepth 100000 in
theorem lp_X10_checksum_50 {D : va_G} {dA : Nat → ClassId} {base t0 : Nat} {l : Launch} {p : Program} {e : Env} {s : State} {m : MethodId} {args : Array Value} {below : List Frame} {meth : Method} {c : Code} (X : zz_X D dA base t0 "SpringseatModel" cX10_checksum 6 (some .long) l p s m meth c) (hT : l.stackTraces = false) (a0 : Nat) (x3 : Int32) (x4 : Int32) {h : zz_H} {n : Nat} {r0 : Int64} {hF : zz_H} : ∀ (k : Nat) (x1 : Int64) (x5 : Int32) {o : ((Int64 × Int32) ⊕ ((Int64 × Int32) ⊕ (Int64 × zz_H)))}, zz_it (fun s : (Int64 × Int32) => f_X10_checksum_50 a0 s.1 x3 x4 s.2 h) k (x1, x5) = some o → (∀ (w1 : Int64) (w3 : Int32), o = (.inr (.inl (w1, w3))) → ∀ {H : Heap} {locs : List Loc} {ls : Array Slot}, zz_R D dA base h n s H locs → lv_has ls 6 [(0, .ref a0), (1, .long w1), (3, .int w3)] → W p l e rm_X10_checksum s m args below meth c H locs 0 0 (MQ below (zz_Qc D dA base (some (.long r0)) hF n) args s rm_X10_checksum.cells rm_X10_checksum.slots (fun q => base ≤ q)) (F0 m 11 ls [])) → (∀ (w1 : Int64) (w4 : Int32), o = (.inl (w1, w4)) → ∀ {H : Heap} {locs : List Loc} {ls : Array Slot}, zz_R D dA base h n s H locs → lv_has ls 6 [(0, .ref a0), (1, .long w1), (3, .int x3), (4, .int w4)] → W p l e rm_X10_checksum s m args below meth c H locs 0 0 (MQ below (zz_Qc D dA base (some (.long r0)) hF n) args s rm_X10_checksum.cells rm_X10_checksum.slots (fun q => base ≤ q)) (F0 m 36 ls [])) → (∀ r, o = (.inr (.inr r)) → r = (r0, hF)) → ∀ {H : Heap} {locs : List Loc} {ls : Array Slot}, zz_R D dA base h n s H locs → lv_has ls 6 [(0, .ref a0), (1, .long x1), (3, .int x3), (4, .int x4), (5, .int x5)] → W p l e rm_X10_checksum s m args below meth c H locs 0 0 (MQ below (zz_Qc D dA base (some (.long r0)) hF n) args s rm_X10_checksum.cells rm_X10_checksum.slots (fun q => base ≤ q)) (F0 m 50 ls []) := by
  intro k
  induction k with
  | zero => intro x1 x5 o hf _ _ _; cases hf
  | succ k ih =>
    intro x1 x5 o hf k0 k1 hret H locs ls hR hl
    rcases zz_it_s hf with ⟨⟨y0, y1⟩, h1, h2⟩ | h1
    · exact bk_X10_checksum_50 (r0 := r0) X hT hR hl h1 (fun z0 z1 e => by cases e) (fun z0 z1 e => by cases e) (fun z0 z1 e => by cases e; exact ih _ _ h2 k0 k1 hret) (fun r e => by cases e)
    · exact bk_X10_checksum_50 (r0 := r0) X hT hR hl h1 (fun z0 z1 e => k0 z0 z1 (Sum.inr.inj e)) (fun z0 z1 e => k1 z0 z1 (Sum.inr.inj e)) (fun z0 z1 e => by cases e) (fun r e => hret r (Sum.inr.inj e))
set_option maxHeartbeats 4000000 in
set_option maxRecDepth 100000 in
theorem bk_X10_checksum_36 {D : va_G} {dA : Nat → ClassId} {base t0 : Nat} {l : Launch} {p : Program} {e : Env} {s : State} {m : MethodId} {args : Array Value} {below : List Frame} {meth : Method} {c : Code} (X : zz_X D dA base t0 "SpringseatModel" cX10_checksum 6 (some .long) l p s m meth c) (hT : l.stackTraces = false) {a0 : Nat} {x1 : Int64} {x3 : Int32} {x4 : Int32} {h : zz_H} {n : Nat} {H : Heap} {locs : List Loc} {ls : Array Slot} (hR : zz_R D dA base h n s H locs) (hl : lv_has ls 6 [(0, .ref a0), (1, .long x1), (3, .int x3), (4, .int x4)]) {r0 : Int64} {hF : zz_H} {o : ((Int64 × Int32) ⊕ ((Int64 × Int32) ⊕ (Int64 × zz_H)))} (hf : f_X10_checksum_36 a0 x1 x3 x4 h = some o) (k0 : ∀ (w1 : Int64) (w3 : Int32), o = (.inr (.inl (w1, w3))) → ∀ {H : Heap} {locs : List Loc} {ls : Array Slot}, zz_R D dA base h n s H locs → lv_has ls 6 [(0, .ref a0), (1, .long w1), (3, .int w3)] → W p l e rm_X10_checksum s m args below meth c H locs 0 0 (MQ below (zz_Qc D dA base (some (.long r0)) hF n) args s rm_X10_checksum.cells rm_X10_checksum.slots (fun q => base ≤ q)) (F0 m 11 ls [])) (k1 : ∀ (w1 : Int64) (w4 : Int32), o = (.inl (w1, w4)) → ∀ {H : Heap} {locs : List Loc} {ls : Array Slot}, zz_R D dA base h n s H locs → lv_has ls 6 [(0, .ref a0), (1, .long w1), (3, .int x3), (4, .int w4)] → W p l e rm_X10_checksum s m args below meth c H locs 0 0 (MQ below (zz_Qc D dA base (some (.long r0)) hF n) args s rm_X10_checksum.cells rm_X10_checksum.slots (fun q => base ≤ q)) (F0 m 36 ls [])) (hret : ∀ r, o = (.inr (.inr r)) → r = (r0, hF)) : W p l e rm_X10_checksum s m args below meth c H locs 0 0 (MQ below (zz_Qc D dA base (some (.long r0)) hF n) args s rm_X10_checksum.cells rm_X10_checksum.slots (fun q => base ≤ q)) (F0 m 36 ls []) := by
  have hx := X.1
  have hb := X.2.1
  have hown := X.2.2.2.2.1
  unfold f_X10_checksum_36 at hf
  refine lv_iload hx hb dX10_checksum_36 (lv_at hl 3 rfl) ?_
  refine lv_aload_n hx hb dX10_checksum_38 rfl (lv_at hl 0 rfl) ?_
  refine zr_gq X hR (r := (some a0)) fl_X10_9 dX10_checksum_39 hf (fun v39 hf => ?_)
  refine lv_iload_n hx hb dX10_checksum_42 rfl (lv_at hl 2 rfl) ?_
  refine zr_iald X hR (r := v39) dX10_checksum_43 hf (fun v43 hf => ?_)
  refine lv_icmp_ge (tgt := 90) hx hb dX10_checksum_44 (by decide) (fun c44 => ?_) (fun c44 => ?_)
  · replace hf := zz_pos c44 hf
    refine lv_iinc (i := 3) (v := (x3 + (1 : Int32))) (lv' := [(3, .int (x3 + (1 : Int32))), (0, .ref a0), (1, .long x1), (4, .int x4)]) hx hb dX10_checksum_90 hl (k := 2) rfl rfl (by decide) rfl (fun ls hl => ?_)
    refine lv_goto (tgt := 11) hx hb dX10_checksum_93 (by decide) ?_
    cases hf
    exact k0 _ _ rfl hR (lv_sub hl [1, 2, 0] rfl)
  · replace hf := zz_neg c44 hf
    refine lv_iconst (v := (0 : Int32)) hx hb dX10_checksum_47 (by decide) ?_
    refine lv_istore (i := 5) (lv' := [(5, .int (0 : Int32)), (0, .ref a0), (1, .long x1), (3, .int x3), (4, .int x4)]) hx hb dX10_checksum_48 hl (by decide) rfl (fun ls hl => ?_)
    exact lp_X10_checksum_50 X hT a0 x3 x4 zz_F _ _ hf k0 k1 hret hR (lv_sub hl [1, 2, 3, 4, 0] rfl)
set_option maxHeartbeats 4000000 in
set_option maxRecDepth 100000 in
theorem lp_X10_checksum_36 {D : va_G} {dA : Nat → ClassId} {base t0 : Nat} {l : Launch} {p : Program} {e : Env} {s : State} {m : MethodId} {args : Array Value} {below : List Frame} {meth : Method} {c : Code} (X : zz_X D dA base t0 "SpringseatModel" cX10_checksum 6 (some .long) l p s m meth c) (hT : l.stackTraces = false) (a0 : Nat) (x3 : Int32) {h : zz_H} {n : Nat} {r0 : Int64} {hF : zz_H} : ∀ (k : Nat) (x1 : Int64) (x4 : Int32) {o : ((Int64 × Int32) ⊕ (Int64 × zz_H))}, zz_it (fun s : (Int64 × Int32) => f_X10_checksum_36 a0 s.1 x3 s.2 h) k (x1, x4) = some o → (∀ (w1 : Int64) (w3 : Int32), o = (.inl (w1, w3)) → ∀ {H : Heap} {locs : List Loc} {ls : Array Slot}, zz_R D dA base h n s H locs → lv_has ls 6 [(0, .ref a0), (1, .long w1), (3, .int w3)] → W p l e rm_X10_checksum s m args below meth c H locs 0 0 (MQ below (zz_Qc D dA base (some (.long r0)) hF n) args s rm_X10_checksum.cells rm_X10_checksum.slots (fun q => base ≤ q)) (F0 m 11 ls [])) → (∀ r, o = (.inr r) → r = (r0, hF)) → ∀ {H : Heap} {locs : List Loc} {ls : Array Slot}, zz_R D dA base h n s H locs → lv_has ls 6 [(0, .ref a0), (1, .long x1), (3, .int x3), (4, .int x4)] → W p l e rm_X10_checksum s m args below meth c H locs 0 0 (MQ below (zz_Qc D dA base (some (.long r0)) hF n) args s rm_X10_checksum.cells rm_X10_checksum.slots (fun q => base ≤ q)) (F0 m 36 ls []) := by
  intro k
  induction k with
  | zero => intro x1 x4 o hf _ _; cases hf
  | succ k ih =>
    intro x1 x4 o hf k0 hret H locs ls hR hl
    rcases zz_it_s hf with ⟨⟨y0, y1⟩, h1, h2⟩ | h1
    · exact bk_X10_checksum_36 (r0 := r0) X hT hR hl h1 (fun z0 z1 e => by cases e) (fun z0 z1 e => by cases e; exact ih _ _ h2 k0 hret) (fun r e => by cases e)
    · exact bk_X10_checksum_36 (r0 := r0) X hT hR hl h1 (fun z0 z1 e => k0 z0 z1 (Sum.inr.inj e)) (fun z0 z1 e => by cases e) (fun r e => hret r (Sum.inr.inj e))
set_option maxHeartbeats 4000000 in
set_option maxRecDepth 100000 in
theorem bk_X10_checksum_11 {D : va_G} {dA : Nat → ClassId} {base t0 : Nat} {l : Launch} {p : Program} {e : Env} {s : State} {m : MethodId} {args : Array Value} {below : List Frame} {meth : Method} {c : Code} (X : zz_X D dA base t0 "SpringseatModel" cX10_checksum 6 (some .long) l p s m meth c) (hT : l.stackTraces = false) {a0 : Nat} {x1 : Int64} {x3 : Int32} {h : zz_H} {n : Nat} {H : Heap} {locs : List Loc} {ls : Array Slot} (hR : zz_R D dA base h n s H locs) (hl : lv_has ls 6 [(0, .ref a0), (1, .long x1), (3, .int x3)]) {r0 : Int64} {hF : zz_H} {o : ((Int64 × Int32) ⊕ (Int64 × zz_H))} (hf : f_X10_checksum_11 a0 x1 x3 h = some o) (k0 : ∀ (w1 : Int64) (w3 : Int32), o = (.inl (w1, w3)) → ∀ {H : Heap} {locs : List Loc} {ls : Array Slot}, zz_R D dA base h n s H locs → lv_has ls 6 [(0, .ref a0), (1, .long w1), (3, .int w3)] → W p l e rm_X10_checksum s m args below meth c H locs 0 0 (MQ below (zz_Qc D dA base (some (.long r0)) hF n) args s rm_X10_checksum.cells rm_X10_checksum.slots (fun q => base ≤ q)) (F0 m 11 ls [])) (hret : ∀ r, o = (.inr r) → r = (r0, hF)) : W p l e rm_X10_checksum s m args below meth c H locs 0 0 (MQ below (zz_Qc D dA base (some (.long r0)) hF n) args s rm_X10_checksum.cells rm_X10_checksum.slots (fun q => base ≤ q)) (F0 m 11 ls []) := by
  have hx := X.1
  have hb := X.2.1
  have hown := X.2.2.2.2.1
  unfold f_X10_checksum_11 at hf
  refine lv_iload_n hx hb dX10_checksum_11 rfl (lv_at hl 2 rfl) ?_
  refine lv_aload_n hx hb dX10_checksum_12 rfl (lv_at hl 0 rfl) ?_
  refine zr_gi X hR (r := (some a0)) fl_X10_115 dX10_checksum_13 hf (fun v13 hf => ?_)
  refine lv_icmp_ge (tgt := 96) hx hb dX10_checksum_16 (by decide) (fun c16 => ?_) (fun c16 => ?_)
  · replace hf := zz_pos c16 hf
    refine lv_lload_n hx hb dX10_checksum_96 rfl (lv_at hl 1 rfl) ?_
    cases hf
    cases hret _ rfl
    exact zr_lret X hR dX10_checksum_97 (Nat.le_of_ble_eq_true rfl) (Nat.le_of_ble_eq_true rfl)
  · replace hf := zz_neg c16 hf
    refine lv_ldc2 hx hb hown (zz_w X q_1649) dX10_checksum_19 ?_
    refine lv_lload_n hx hb dX10_checksum_22 rfl (lv_at hl 1 rfl) ?_
    refine lv_lmul hx hb dX10_checksum_23 ?_
    refine lv_aload_n hx hb dX10_checksum_24 rfl (lv_at hl 0 rfl) ?_
    refine zr_gq X hR (r := (some a0)) fl_X10_16 dX10_checksum_25 hf (fun v25 hf => ?_)
    refine lv_iload_n hx hb dX10_checksum_28 rfl (lv_at hl 2 rfl) ?_
    refine zr_iald X hR (r := v25) dX10_checksum_29 hf (fun v29 hf => ?_)
    refine lv_i2l hx hb dX10_checksum_30 rfl ?_
    refine lv_ladd hx hb dX10_checksum_31 ?_
    refine lv_lstore_n (i := 1) (lv' := [(1, .long (((31 : Int64) * x1) + v29.toInt64)), (0, .ref a0), (3, .int x3)]) hx hb dX10_checksum_32 rfl hl (by decide) rfl (fun ls hl => ?_)
    refine lv_iconst (v := (0 : Int32)) hx hb dX10_checksum_33 (by decide) ?_
    refine lv_istore (i := 4) (lv' := [(4, .int (0 : Int32)), (1, .long (((31 : Int64) * x1) + v29.toInt64)), (0, .ref a0), (3, .int x3)]) hx hb dX10_checksum_34 hl (by decide) rfl (fun ls hl => ?_)
    exact lp_X10_checksum_36 X hT a0 x3 zz_F _ _ hf k0 hret hR (lv_sub hl [2, 1, 3, 0] rfl)
set_option maxHeartbeats 4000000 in
set_option maxRecDepth 100000 in
theorem lp_X10_checksum_11 {D : va_G} {dA : Nat → ClassId} {base t0 : Nat} {l : Launch} {p : Program} {e : Env} {s : State} {m : MethodId} {args : Array Value} {below : List Frame} {meth : Method} {c : Code} (X : zz_X D dA base t0 "SpringseatModel" cX10_checksum 6 (some .long) l p s m meth c) (hT : l.stackTraces = false) (a0 : Nat) {h : zz_H} {n : Nat} {r0 : Int64} {hF : zz_H} : ∀ (k : Nat) (x1 : Int64) (x3 : Int32), zz_it (fun s : (Int64 × Int32) => f_X10_checksum_11 a0 s.1 s.2 h) k (x1, x3) = some (r0, hF) → ∀ {H : Heap} {locs : List Loc} {ls : Array Slot}, zz_R D dA base h n s H locs → lv_has ls 6 [(0, .ref a0), (1, .long x1), (3, .int x3)] → W p l e rm_X10_checksum s m args below meth c H locs 0 0 (MQ below (zz_Qc D dA base (some (.long r0)) hF n) args s rm_X10_checksum.cells rm_X10_checksum.slots (fun q => base ≤ q)) (F0 m 11 ls []) := by
  intro k
  induction k with
  | zero => intro x1 x3 hf; cases hf
  | succ k ih =>
    intro x1 x3 hf H locs ls hR hl
    rcases zz_it_s hf with ⟨⟨y0, y1⟩, h1, h2⟩ | h1
    · exact bk_X10_checksum_11 (r0 := r0) X hT hR hl h1  (fun z0 z1 e => by cases e; exact ih _ _ h2) (fun r e => by cases e)
    · exact bk_X10_checksum_11 (r0 := r0) X hT hR hl h1  (fun z0 z1 e => by cases e) (fun r e => (Sum.inr.inj e).symm)
set_option maxHeartbeats 4000000 in
set_option maxRecDepth 100000 in
theorem mt_X10_checksum {D : va_G} {dA : Nat → ClassId} {base t0 : Nat} {l : Launch} (hT : l.stackTraces = false) (a0 : Nat) (h : zz_H) (n : Nat) {r0 : Int64} {hF : zz_H} (hf : f_X10_checksum a0 h = some (r0, hF)) : zz_M D dA base t0 l yX10_checksum cX10_checksum 6 (some .long) rm_X10_checksum [.ref a0] h n (some (.long r0)) hF n := by
  refine Met.ofW (cc := cX10_checksum) (maxL := 6) (ret := (some .long)) (by decide +kernel) rfl ?_
  intro p e s m args below meth c s₁ B hml hv
  obtain ⟨rfl, hP, hK⟩ := hv
  have X : zz_X D dA base t0 "SpringseatModel" cX10_checksum 6 (some .long) l p s m meth c := ⟨B.exec, B.bytes, hml, B.returns, findClass_of_methodNamed B.named, B.notSynchronized, hT, by rw [hP.1]; exact hP.2.1, hK⟩
  have hx := X.1
  have hb := X.2.1
  have hown := X.2.2.2.2.1
  have hR : zz_R D dA base h n s s.heap [] := ⟨hP, va_S.rf⟩
  have hl := lv_entry ([.ref a0]) (n := 6) (by exact Nat.le_of_ble_eq_true rfl)
  rw [lg_entry_eq]
  generalize (lg_sl ([.ref a0]) ++ List.replicate (6 - (lg_sl ([.ref a0])).length) Slot.unset).toArray = ls at hl ⊢
  have hl : lv_has ls 6 [(0, .ref a0)] := hl
  unfold f_X10_checksum at hf
  refine lv_aload_n hx hb dX10_checksum_0 rfl (lv_at hl 0 rfl) ?_
  refine lv_iconst (v := (0 : Int32)) hx hb dX10_checksum_1 (by decide) ?_
  refine zr_p X hR (r := (some a0)) (v := .int (0 : Int32)) fl_X10_111 rfl dX10_checksum_2 rfl rfl hf (fun h2 H locs hf hR => ?_)
  refine lv_ldc2 hx hb hown (zz_w X q_1648) dX10_checksum_5 ?_
  refine lv_lstore_n (i := 1) (lv' := [(1, .long (7 : Int64)), (0, .ref a0)]) hx hb dX10_checksum_8 rfl hl (by decide) rfl (fun ls hl => ?_)
  refine lv_iconst (v := (0 : Int32)) hx hb dX10_checksum_9 (by decide) ?_
  refine lv_istore_n (i := 3) (lv' := [(3, .int (0 : Int32)), (1, .long (7 : Int64)), (0, .ref a0)]) hx hb dX10_checksum_10 rfl hl (by decide) rfl (fun ls hl => ?_)
  exact lp_X10_checksum_11 X hT a0 zz_F _ _ hf hR (lv_sub hl [2, 1, 0] rfl)
def rm_X10_closedShare : Room := { frames := 1, cells := 0, slots := 0, locals := 22 }
theorem mf_X10_closedShare : zz_Mf yX10_closedShare cX10_closedShare 3 (some .float) 0 := ⟨q_1653, q_11, by decide +kernel, by decide +kernel, by decide +kernel⟩
set_option maxHeartbeats 4000000 in
set_option maxRecDepth 100000 in
theorem bk_X10_closedShare_50 {D : va_G} {dA : Nat → ClassId} {base t0 : Nat} {l : Launch} {p : Program} {e : Env} {s : State} {m : MethodId} {args : Array Value} {below : List Frame} {meth : Method} {c : Code} (X : zz_X D dA base t0 "SpringseatModel" cX10_closedShare 3 (some .float) l p s m meth c) (hT : l.stackTraces = false) {a0 : Nat} {x2 : Int32} {s0 : Int32} {s1 : Int32} {h : zz_H} {n : Nat} {H : Heap} {locs : List Loc} {ls : Array Slot} (hR : zz_R D dA base h n s H locs) (hl : lv_has ls 3 [(0, .ref a0), (2, .int x2)]) {r0 : UInt32} {hF : zz_H} {o : ((Int32 × Int32) ⊕ (UInt32 × zz_H))} (hf : f_X10_closedShare_50 a0 x2 s0 s1 h = some o) (k0 : ∀ (w1 : Int32) (w2 : Int32), o = (.inl (w1, w2)) → ∀ {H : Heap} {locs : List Loc} {ls : Array Slot}, zz_R D dA base h n s H locs → lv_has ls 3 [(0, .ref a0), (1, .int w1), (2, .int w2)] → W p l e rm_X10_closedShare s m args below meth c H locs 0 0 (MQ below (zz_Qc D dA base (some (.float r0)) hF n) args s rm_X10_closedShare.cells rm_X10_closedShare.slots (fun q => base ≤ q)) (F0 m 26 ls [])) (hret : ∀ r, o = (.inr r) → r = (r0, hF)) : W p l e rm_X10_closedShare s m args below meth c H locs 0 0 (MQ below (zz_Qc D dA base (some (.float r0)) hF n) args s rm_X10_closedShare.cells rm_X10_closedShare.slots (fun q => base ≤ q)) (F0 m 50 ls [.int s0, .int s1]) := by
  have hx := X.1
  have hb := X.2.1
  have hown := X.2.2.2.2.1
  unfold f_X10_closedShare_50 at hf
  refine lv_iadd hx hb dX10_closedShare_50 ?_
  refine lv_istore_n (i := 1) (lv' := [(1, .int (s1 + s0)), (0, .ref a0), (2, .int x2)]) hx hb dX10_closedShare_51 rfl hl (by decide) rfl (fun ls hl => ?_)
  refine lv_iinc (i := 2) (v := (x2 + (1 : Int32))) (lv' := [(2, .int (x2 + (1 : Int32))), (1, .int (s1 + s0)), (0, .ref a0)]) hx hb dX10_closedShare_52 hl (k := 2) rfl rfl (by decide) rfl (fun ls hl => ?_)
  refine lv_goto (tgt := 26) hx hb dX10_closedShare_55 (by decide) ?_
  cases hf
  exact k0 _ _ rfl hR (lv_sub hl [2, 1, 0] rfl)
set_option maxHeartbeats 4000000 in
set_option maxRecDepth 100000 in
theorem bk_X10_closedShare_26 {D : va_G} {dA : Nat → ClassId} {base t0 : Nat} {l : Launch} {p : Program} {e : Env} {s : State} {m : MethodId} {args : Array Value} {below : List Frame} {meth : Method} {c : Code} (X : zz_X D dA base t0 "SpringseatModel" cX10_closedShare 3 (some .float) l p s m meth c) (hT : l.stackTraces = false) {a0 : Nat} {x1 : Int32} {x2 : Int32} {h : zz_H} {n : Nat} {H : Heap} {locs : List Loc} {ls : Array Slot} (hR : zz_R D dA base h n s H locs) (hl : lv_has ls 3 [(0, .ref a0), (1, .int x1), (2, .int x2)]) {r0 : UInt32} {hF : zz_H} {o : ((Int32 × Int32) ⊕ (UInt32 × zz_H))} (hf : f_X10_closedShare_26 a0 x1 x2 h = some o) (k0 : ∀ (w1 : Int32) (w2 : Int32), o = (.inl (w1, w2)) → ∀ {H : Heap} {locs : List Loc} {ls : Array Slot}, zz_R D dA base h n s H locs → lv_has ls 3 [(0, .ref a0), (1, .int w1), (2, .int w2)] → W p l e rm_X10_closedShare s m args below meth c H locs 0 0 (MQ below (zz_Qc D dA base (some (.float r0)) hF n) args s rm_X10_closedShare.cells rm_X10_closedShare.slots (fun q => base ≤ q)) (F0 m 26 ls [])) (hret : ∀ r, o = (.inr r) → r = (r0, hF)) : W p l e rm_X10_closedShare s m args below meth c H locs 0 0 (MQ below (zz_Qc D dA base (some (.float r0)) hF n) args s rm_X10_closedShare.cells rm_X10_closedShare.slots (fun q => base ≤ q)) (F0 m 26 ls []) := by
  have hx := X.1
  have hb := X.2.1
  have hown := X.2.2.2.2.1
  unfold f_X10_closedShare_26 at hf
  refine lv_iload_n hx hb dX10_closedShare_26 rfl (lv_at hl 2 rfl) ?_
  refine lv_aload_n hx hb dX10_closedShare_27 rfl (lv_at hl 0 rfl) ?_
  refine zr_gi X hR (r := (some a0)) fl_X10_115 dX10_closedShare_28 hf (fun v28 hf => ?_)
  refine lv_icmp_ge (tgt := 58) hx hb dX10_closedShare_31 (by decide) (fun c31 => ?_) (fun c31 => ?_)
  · replace hf := zz_pos c31 hf
    refine lv_iload_n hx hb dX10_closedShare_58 rfl (lv_at hl 1 rfl) ?_
    refine lv_i2f hx hb dX10_closedShare_59 ?_
    refine lv_aload_n hx hb dX10_closedShare_60 rfl (lv_at hl 0 rfl) ?_
    refine zr_gi X hR (r := (some a0)) fl_X10_115 dX10_closedShare_61 hf (fun v61 hf => ?_)
    refine lv_i2f hx hb dX10_closedShare_64 ?_
    obtain ⟨hne65, hf⟩ := zz_nf_i hf
    refine lv_fdiv hx hb dX10_closedShare_65 hne65 ?_
    cases hf
    cases hret _ rfl
    exact zr_fret X hR dX10_closedShare_66 (Nat.le_of_ble_eq_true rfl) (Nat.le_of_ble_eq_true rfl)
  · replace hf := zz_neg c31 hf
    refine lv_iload_n hx hb dX10_closedShare_34 rfl (lv_at hl 1 rfl) ?_
    refine lv_aload_n hx hb dX10_closedShare_35 rfl (lv_at hl 0 rfl) ?_
    refine lv_iload_n hx hb dX10_closedShare_36 rfl (lv_at hl 2 rfl) ?_
    obtain ⟨fs37, ho37, hf⟩ := zz_obS_i hf
    obtain ⟨v37, hv37, hf⟩ := zz_b_i hf
    refine zr_cV X hR hl.1 (As := [.int x2]) (rest := [.int x1]) (C := RX10) (T := TX10) (N := 34) (mt_X10_last hT a0 x2 h n hv37) rfl ho37 mf_X10_last q_1386 q_1388 qs_20 ⟨Nat.le_of_ble_eq_true rfl, Nat.le_of_ble_eq_true rfl⟩ ⟨Nat.le_of_ble_eq_true rfl, Nat.le_of_ble_eq_true rfl⟩ rfl (Nat.le_of_ble_eq_true rfl) dX10_closedShare_37 (fun H locs hR => ?_)
    refine W.eq (g2 := F0 m 40 ls [.int v37, .int x1]) rfl ?_
    refine lv_bipush (v := (99 : Int32)) hx hb dX10_closedShare_40 (by decide) ?_
    refine lv_icmp_ne (tgt := 49) hx hb dX10_closedShare_42 (by decide) (fun c42 => ?_) (fun c42 => ?_)
    · replace hf := zz_neg c42 hf
      refine lv_iconst (v := (0 : Int32)) hx hb dX10_closedShare_49 (by decide) ?_
      exact bk_X10_closedShare_50 X hT hR (lv_sub hl [0, 2] rfl) hf k0 hret
    · replace hf := zz_pos c42 hf
      refine lv_iconst (v := (1 : Int32)) hx hb dX10_closedShare_45 (by decide) ?_
      refine lv_goto (tgt := 50) hx hb dX10_closedShare_46 (by decide) ?_
      exact bk_X10_closedShare_50 X hT hR (lv_sub hl [0, 2] rfl) hf k0 hret
set_option maxHeartbeats 4000000 in
set_option maxRecDepth 100000 in
theorem lp_X10_closedShare_26 {D : va_G} {dA : Nat → ClassId} {base t0 : Nat} {l : Launch} {p : Program} {e : Env} {s : State} {m : MethodId} {args : Array Value} {below : List Frame} {meth : Method} {c : Code} (X : zz_X D dA base t0 "SpringseatModel" cX10_closedShare 3 (some .float) l p s m meth c) (hT : l.stackTraces = false) (a0 : Nat) {h : zz_H} {n : Nat} {r0 : UInt32} {hF : zz_H} : ∀ (k : Nat) (x1 : Int32) (x2 : Int32), zz_it (fun s : (Int32 × Int32) => f_X10_closedShare_26 a0 s.1 s.2 h) k (x1, x2) = some (r0, hF) → ∀ {H : Heap} {locs : List Loc} {ls : Array Slot}, zz_R D dA base h n s H locs → lv_has ls 3 [(0, .ref a0), (1, .int x1), (2, .int x2)] → W p l e rm_X10_closedShare s m args below meth c H locs 0 0 (MQ below (zz_Qc D dA base (some (.float r0)) hF n) args s rm_X10_closedShare.cells rm_X10_closedShare.slots (fun q => base ≤ q)) (F0 m 26 ls []) := by
  intro k
  induction k with
  | zero => intro x1 x2 hf; cases hf
  | succ k ih =>
    intro x1 x2 hf H locs ls hR hl
    rcases zz_it_s hf with ⟨⟨y0, y1⟩, h1, h2⟩ | h1
    · exact bk_X10_closedShare_26 (r0 := r0) X hT hR hl h1  (fun z0 z1 e => by cases e; exact ih _ _ h2) (fun r e => by cases e)
    · exact bk_X10_closedShare_26 (r0 := r0) X hT hR hl h1  (fun z0 z1 e => by cases e) (fun r e => (Sum.inr.inj e).symm)
set_option maxHeartbeats 4000000 in
set_option maxRecDepth 100000 in
theorem bk_X10_closedShare_13 {D : va_G} {dA : Nat → ClassId} {base t0 : Nat} {l : Launch} {p : Program} {e : Env} {s : State} {m : MethodId} {args : Array Value} {below : List Frame} {meth : Method} {c : Code} (X : zz_X D dA base t0 "SpringseatModel" cX10_closedShare 3 (some .float) l p s m meth c) (hT : l.stackTraces = false) {a0 : Nat} {s0 : Int32} {s1 : (Option Nat)} {h : zz_H} {n : Nat} {H : Heap} {locs : List Loc} {ls : Array Slot} (hR : zz_R D dA base h n s H locs) (hl : lv_has ls 3 [(0, .ref a0)]) {r0 : UInt32} {hF : zz_H} (hf : f_X10_closedShare_13 a0 s0 s1 h = some (r0, hF)) : W p l e rm_X10_closedShare s m args below meth c H locs 0 0 (MQ below (zz_Qc D dA base (some (.float r0)) hF n) args s rm_X10_closedShare.cells rm_X10_closedShare.slots (fun q => base ≤ q)) (F0 m 13 ls [.int s0, va_rf s1]) := by
  have hx := X.1
  have hb := X.2.1
  have hown := X.2.2.2.2.1
  unfold f_X10_closedShare_13 at hf
  refine lv_iconst (v := (1 : Int32)) hx hb dX10_closedShare_13 (by decide) ?_
  obtain ⟨b14, fs14, hr14, ho14, hf⟩ := zz_ob_i hf
  obtain ⟨v14, h14, hv14, hf⟩ := zz_b1_i hf
  refine zr_cV X hR hl.1 (As := [.int s0, .int (1 : Int32)]) (rest := []) (C := RX10) (T := TX10) (N := 34) (mt_X10_isThrown hT b14 s0 (1 : Int32) h n hv14) rfl ho14 mf_X10_isThrown q_1370 q_1372 qs_17 ⟨Nat.le_of_ble_eq_true rfl, Nat.le_of_ble_eq_true rfl⟩ ⟨Nat.le_of_ble_eq_true rfl, Nat.le_of_ble_eq_true rfl⟩ (by rw [hr14]; rfl) (Nat.le_of_ble_eq_true rfl) dX10_closedShare_14 (fun H locs hR => ?_)
  refine W.eq (g2 := F0 m 17 ls [.int v14]) rfl ?_
  refine lv_if_eq (tgt := 22) hx hb dX10_closedShare_17 (by decide) (fun c17 => ?_) (fun c17 => ?_)
  · replace hf := zz_pos c17 hf
    refine lv_iconst (v := (0 : Int32)) hx hb dX10_closedShare_22 (by decide) ?_
    refine lv_istore_n (i := 1) (lv' := [(1, .int (0 : Int32)), (0, .ref a0)]) hx hb dX10_closedShare_23 rfl hl (by decide) rfl (fun ls hl => ?_)
    refine lv_iconst (v := (0 : Int32)) hx hb dX10_closedShare_24 (by decide) ?_
    refine lv_istore_n (i := 2) (lv' := [(2, .int (0 : Int32)), (1, .int (0 : Int32)), (0, .ref a0)]) hx hb dX10_closedShare_25 rfl hl (by decide) rfl (fun ls hl => ?_)
    exact lp_X10_closedShare_26 X hT a0 zz_F _ _ hf hR (lv_sub hl [2, 1, 0] rfl)
  · replace hf := zz_neg c17 hf
    refine lv_fconst0 hx hb dX10_closedShare_20 ?_
    cases hf
    exact zr_fret X hR dX10_closedShare_21 (Nat.le_of_ble_eq_true rfl) (Nat.le_of_ble_eq_true rfl)
set_option maxHeartbeats 4000000 in
set_option maxRecDepth 100000 in
theorem mt_X10_closedShare {D : va_G} {dA : Nat → ClassId} {base t0 : Nat} {l : Launch} (hT : l.stackTraces = false) (a0 : Nat) (h : zz_H) (n : Nat) {r0 : UInt32} {hF : zz_H} (hf : f_X10_closedShare a0 h = some (r0, hF)) : zz_M D dA base t0 l yX10_closedShare cX10_closedShare 3 (some .float) rm_X10_closedShare [.ref a0] h n (some (.float r0)) hF n := by
  refine Met.ofW (cc := cX10_closedShare) (maxL := 3) (ret := (some .float)) (by decide +kernel) rfl ?_
  intro p e s m args below meth c s₁ B hml hv
  obtain ⟨rfl, hP, hK⟩ := hv
  have X : zz_X D dA base t0 "SpringseatModel" cX10_closedShare 3 (some .float) l p s m meth c := ⟨B.exec, B.bytes, hml, B.returns, findClass_of_methodNamed B.named, B.notSynchronized, hT, by rw [hP.1]; exact hP.2.1, hK⟩
  have hx := X.1
  have hb := X.2.1
  have hown := X.2.2.2.2.1
  have hR : zz_R D dA base h n s s.heap [] := ⟨hP, va_S.rf⟩
  have hl := lv_entry ([.ref a0]) (n := 3) (by exact Nat.le_of_ble_eq_true rfl)
  rw [lg_entry_eq]
  generalize (lg_sl ([.ref a0]) ++ List.replicate (3 - (lg_sl ([.ref a0])).length) Slot.unset).toArray = ls at hl ⊢
  have hl : lv_has ls 3 [(0, .ref a0)] := hl
  unfold f_X10_closedShare at hf
  refine lv_aload_n hx hb dX10_closedShare_0 rfl (lv_at hl 0 rfl) ?_
  refine lv_aload_n hx hb dX10_closedShare_1 rfl (lv_at hl 0 rfl) ?_
  refine zr_gi X hR (r := (some a0)) fl_X10_115 dX10_closedShare_2 hf (fun v2 hf => ?_)
  refine lv_if_ne (tgt := 12) hx hb dX10_closedShare_5 (by decide) (fun c5 => ?_) (fun c5 => ?_)
  · replace hf := zz_neg c5 hf
    refine lv_iconst (v := (0 : Int32)) hx hb dX10_closedShare_12 (by decide) ?_
    exact bk_X10_closedShare_13 X hT hR (lv_sub hl [0] rfl) hf
  · replace hf := zz_pos c5 hf
    refine lv_iconst (v := (1 : Int32)) hx hb dX10_closedShare_8 (by decide) ?_
    refine lv_goto (tgt := 13) hx hb dX10_closedShare_9 (by decide) ?_
    exact bk_X10_closedShare_13 X hT hR (lv_sub hl [0] rfl) hf
def rm_X10_meanTop : Room := { frames := 4, cells := 0, slots := 0, locals := 93 }
theorem mf_X10_meanTop : zz_Mf yX10_meanTop cX10_meanTop 2 (some .double) 1 := ⟨q_1657, q_11, by decide +kernel, by decide +kernel, by decide +kernel⟩
set_option maxHeartbeats 4000000 in
set_option maxRecDepth 100000 in
theorem bk_X10_meanTop_38 {D : va_G} {dA : Nat → ClassId} {base t0 : Nat} {l : Launch} {p : Program} {e : Env} {s : State} {m : MethodId} {args : Array Value} {below : List Frame} {meth : Method} {c : Code} (X : zz_X D dA base t0 "SpringseatModel" cX10_meanTop 2 (some .double) l p s m meth c) (hT : l.stackTraces = false) {s0 : UInt64} {h : zz_H} {n : Nat} {H : Heap} {locs : List Loc} {ls : Array Slot} (hR : zz_R D dA base h n s H locs) (hl : lv_has ls 2 []) {r0 : UInt64} {hF : zz_H} (hf : f_X10_meanTop_38 s0 h = some (r0, hF)) : W p l e rm_X10_meanTop s m args below meth c H locs 0 0 (MQ below (zz_Qc D dA base (some (.double r0)) hF n) args s rm_X10_meanTop.cells rm_X10_meanTop.slots (fun q => base ≤ q)) (F0 m 38 ls [.double s0]) := by
  have hx := X.1
  have hb := X.2.1
  have hown := X.2.2.2.2.1
  unfold f_X10_meanTop_38 at hf
  cases hf
  exact zr_dret X hR dX10_meanTop_38 (Nat.le_of_ble_eq_true rfl) (Nat.le_of_ble_eq_true rfl)
set_option maxHeartbeats 4000000 in
set_option maxRecDepth 100000 in
theorem mt_X10_meanTop {D : va_G} {dA : Nat → ClassId} {base t0 : Nat} {l : Launch} (hT : l.stackTraces = false) (a0 : Nat) (x1 : Int32) (h : zz_H) (n : Nat) {r0 : UInt64} {hF : zz_H} (hf : f_X10_meanTop a0 x1 h = some (r0, hF)) : zz_M D dA base t0 l yX10_meanTop cX10_meanTop 2 (some .double) rm_X10_meanTop [.ref a0, .int x1] h n (some (.double r0)) hF n := by
  refine Met.ofW (cc := cX10_meanTop) (maxL := 2) (ret := (some .double)) (by decide +kernel) rfl ?_
  intro p e s m args below meth c s₁ B hml hv
  obtain ⟨rfl, hP, hK⟩ := hv
  have X : zz_X D dA base t0 "SpringseatModel" cX10_meanTop 2 (some .double) l p s m meth c := ⟨B.exec, B.bytes, hml, B.returns, findClass_of_methodNamed B.named, B.notSynchronized, hT, by rw [hP.1]; exact hP.2.1, hK⟩
  have hx := X.1
  have hb := X.2.1
  have hown := X.2.2.2.2.1
  have hR : zz_R D dA base h n s s.heap [] := ⟨hP, va_S.rf⟩
  have hl := lv_entry ([.ref a0, .int x1]) (n := 2) (by exact Nat.le_of_ble_eq_true rfl)
  rw [lg_entry_eq]
  generalize (lg_sl ([.ref a0, .int x1]) ++ List.replicate (2 - (lg_sl ([.ref a0, .int x1])).length) Slot.unset).toArray = ls at hl ⊢
  have hl : lv_has ls 2 [(0, .ref a0), (1, .int x1)] := hl
  unfold f_X10_meanTop at hf
  refine lv_aload_n hx hb dX10_meanTop_0 rfl (lv_at hl 0 rfl) ?_
  refine lv_aload_n hx hb dX10_meanTop_1 rfl (lv_at hl 0 rfl) ?_
  refine lv_iload_n hx hb dX10_meanTop_2 rfl (lv_at hl 1 rfl) ?_
  obtain ⟨fs3, ho3, hf⟩ := zz_obS_i hf
  obtain ⟨v3, hv3, hf⟩ := zz_b_i hf
  refine zr_cV X hR hl.1 (As := [.int x1]) (rest := [.ref a0]) (C := RX10) (T := TX10) (N := 34) (mt_X10_isNoSeat hT a0 x1 h n hv3) rfl ho3 mf_X10_isNoSeat q_1378 q_1380 qs_18 ⟨Nat.le_of_ble_eq_true rfl, Nat.le_of_ble_eq_true rfl⟩ ⟨Nat.le_of_ble_eq_true rfl, Nat.le_of_ble_eq_true rfl⟩ rfl (Nat.le_of_ble_eq_true rfl) dX10_meanTop_3 (fun H locs hR => ?_)
  refine W.eq (g2 := F0 m 6 ls [.int v3, .ref a0]) rfl ?_
  refine lv_iconst (v := (1 : Int32)) hx hb dX10_meanTop_6 (by decide) ?_
  obtain ⟨fs7, ho7, hf⟩ := zz_obS_i hf
  obtain ⟨v7, h7, hv7, hf⟩ := zz_b1_i hf
  refine zr_cV X hR hl.1 (As := [.int v3, .int (1 : Int32)]) (rest := []) (C := RX10) (T := TX10) (N := 34) (mt_X10_isThrown hT a0 v3 (1 : Int32) h n hv7) rfl ho7 mf_X10_isThrown q_1370 q_1372 qs_17 ⟨Nat.le_of_ble_eq_true rfl, Nat.le_of_ble_eq_true rfl⟩ ⟨Nat.le_of_ble_eq_true rfl, Nat.le_of_ble_eq_true rfl⟩ rfl (Nat.le_of_ble_eq_true rfl) dX10_meanTop_7 (fun H locs hR => ?_)
  refine W.eq (g2 := F0 m 10 ls [.int v7]) rfl ?_
  refine lv_if_eq (tgt := 17) hx hb dX10_meanTop_10 (by decide) (fun c10 => ?_) (fun c10 => ?_)
  · replace hf := zz_pos c10 hf
    refine lv_aload_n hx hb dX10_meanTop_17 rfl (lv_at hl 0 rfl) ?_
    refine lv_iload_n hx hb dX10_meanTop_18 rfl (lv_at hl 1 rfl) ?_
    obtain ⟨fs19, ho19, hf⟩ := zz_obS_i hf
    obtain ⟨v19, hv19, hf⟩ := zz_b_i hf
    refine zr_cV X hR hl.1 (As := [.int x1]) (rest := []) (C := RX10) (T := TX10) (N := 34) (mt_X10_tops hT a0 x1 h7 n hv19) rfl ho19 mf_X10_tops q_1483 q_1485 qs_33 ⟨Nat.le_of_ble_eq_true rfl, Nat.le_of_ble_eq_true rfl⟩ ⟨Nat.le_of_ble_eq_true rfl, Nat.le_of_ble_eq_true rfl⟩ rfl (Nat.le_of_ble_eq_true rfl) dX10_meanTop_19 (fun H locs hR => ?_)
    refine W.eq (g2 := F0 m 22 ls [.int v19]) rfl ?_
    refine lv_i2d hx hb dX10_meanTop_22 ?_
    refine lv_aload_n hx hb dX10_meanTop_23 rfl (lv_at hl 0 rfl) ?_
    refine zr_gq X hR (r := (some a0)) fl_X10_9 dX10_meanTop_24 hf (fun v24 hf => ?_)
    refine lv_iload_n hx hb dX10_meanTop_27 rfl (lv_at hl 1 rfl) ?_
    refine zr_iald X hR (r := v24) dX10_meanTop_28 hf (fun v28 hf => ?_)
    refine lv_aload_n hx hb dX10_meanTop_29 rfl (lv_at hl 0 rfl) ?_
    refine zr_gq X hR (r := (some a0)) fl_X10_13 dX10_meanTop_30 hf (fun v30 hf => ?_)
    refine lv_iload_n hx hb dX10_meanTop_33 rfl (lv_at hl 1 rfl) ?_
    refine zr_iald X hR (r := v30) dX10_meanTop_34 hf (fun v34 hf => ?_)
    refine lv_imul hx hb dX10_meanTop_35 ?_
    refine lv_i2d hx hb dX10_meanTop_36 ?_
    obtain ⟨hne37, hf⟩ := zz_nd_i hf
    refine lv_ddiv hx hb dX10_meanTop_37 hne37 ?_
    exact bk_X10_meanTop_38 X hT hR (lv_sub hl [] rfl) hf
  · replace hf := zz_neg c10 hf
    refine lv_dconst0 hx hb dX10_meanTop_13 ?_
    refine lv_goto (tgt := 38) hx hb dX10_meanTop_14 (by decide) ?_
    exact bk_X10_meanTop_38 X hT hR (lv_sub hl [] rfl) hf
def rm_X10_isSound : Room := { frames := 0, cells := 0, slots := 0, locals := 0 }
theorem mf_X10_isSound : zz_Mf yX10_isSound cX10_isSound 1 (some .boolean) 0 := ⟨q_1661, q_11, by decide +kernel, by decide +kernel, by decide +kernel⟩
set_option maxHeartbeats 4000000 in
set_option maxRecDepth 100000 in
theorem mt_X10_isSound {D : va_G} {dA : Nat → ClassId} {base t0 : Nat} {l : Launch} (hT : l.stackTraces = false) (a0 : Nat) (h : zz_H) (n : Nat) {r0 : Int32} {hF : zz_H} (hf : f_X10_isSound a0 h = some (r0, hF)) : zz_M D dA base t0 l yX10_isSound cX10_isSound 1 (some .boolean) rm_X10_isSound [.ref a0] h n (some (.int r0)) hF n := by
  refine Met.ofW (cc := cX10_isSound) (maxL := 1) (ret := (some .boolean)) (by decide +kernel) rfl ?_
  intro p e s m args below meth c s₁ B hml hv
  obtain ⟨rfl, hP, hK⟩ := hv
  have X : zz_X D dA base t0 "SpringseatModel" cX10_isSound 1 (some .boolean) l p s m meth c := ⟨B.exec, B.bytes, hml, B.returns, findClass_of_methodNamed B.named, B.notSynchronized, hT, by rw [hP.1]; exact hP.2.1, hK⟩
  have hx := X.1
  have hb := X.2.1
  have hown := X.2.2.2.2.1
  have hR : zz_R D dA base h n s s.heap [] := ⟨hP, va_S.rf⟩
  have hl := lv_entry ([.ref a0]) (n := 1) (by exact Nat.le_of_ble_eq_true rfl)
  rw [lg_entry_eq]
  generalize (lg_sl ([.ref a0]) ++ List.replicate (1 - (lg_sl ([.ref a0])).length) Slot.unset).toArray = ls at hl ⊢
  have hl : lv_has ls 1 [(0, .ref a0)] := hl
  unfold f_X10_isSound at hf
  refine lv_aload_n hx hb dX10_isSound_0 rfl (lv_at hl 0 rfl) ?_
  refine lv_iconst (v := (0 : Int32)) hx hb dX10_isSound_1 (by decide) ?_
  refine zr_p X hR (r := (some a0)) (v := .int (0 : Int32)) fl_X10_111 rfl dX10_isSound_2 rfl rfl hf (fun h2 H locs hf hR => ?_)
  refine lv_iconst (v := (1 : Int32)) hx hb dX10_isSound_5 (by decide) ?_
  cases hf
  exact zr_zret X hR (v := (1 : Int32)) rfl dX10_isSound_6 (Nat.le_of_ble_eq_true rfl) (Nat.le_of_ble_eq_true rfl)
end ZZM
