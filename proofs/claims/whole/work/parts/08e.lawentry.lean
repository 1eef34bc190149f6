section ZLE
set_option maxHeartbeats 4000000 in
set_option maxRecDepth 100000 in
theorem lw_entry {D : va_G} {dA : Nat → ClassId} {base t0 : Nat} {l : Launch} {p : Program} {e : Env} {R : Room} {s : State} {m : MethodId} {args : Array Value} {below : List Frame} {meth : Method} {c : Code} {Q : State → Prop} (X : zz_X D dA base t0 "SpringseatLaw" cL_law 9 (some .boolean) l p s m meth c) (hT : l.stackTraces = false) {b : Nat} (hRf : 13 ≤ R.frames) (hRl : 482 ≤ R.locals) (hRc : 601024 ≤ R.cells) (hRs : 7293034 ≤ R.slots) {h h1 h2 : zz_H} {n n1 n2 : Nat} (e1 : f_X9_init t0 n (zz_u h n (.inr (10, [.null, .null, .null, .null, .null, .null]))) (n + 1) = some ((), h1, n1)) (e2 : f_X10_init t0 n1 (zz_u h1 n1 (.inr (11, [.null, .null, .null, .null, .null, .null, .null, .null, .null, .null, .null, .null, .null, .null, .null, .null, .null, .null, .null, .null, .null, .null, .null, .null, .null, .null, .null, .null, .null, .null, .int 0, .int 0, .int 0, .int 0]))) (n1 + 1) = some ((), h2, n2)) {ls : Array Slot} (hR : zz_R D dA base h n s s.heap []) (hl : lv_has ls 9 [(0, .ref b)]) (hend : ∀ {H : Heap} {locs : List Loc} {ls : Array Slot}, zz_R D dA base (zz_u (zz_u h2 n2 (.inl (3, (1, .inr (.inl (fun _ => 0)))))) (n2 + 1) (.inl (4, (1, .inr (.inr (.inr (.inl (fun _ => 0)))))))) (n2 + 1 + 1) s H locs → lv_has ls 9 [(5, .int 0), (4, .ref (n2 + 1)), (3, .ref n2), (2, .ref n1), (1, .ref n), (0, .ref b)] → W p l e R s m args below meth c H locs 203 1253 Q (F0 m 28 ls [])) : W p l e R s m args below meth c s.heap [] 0 0 Q (F0 m 0 ls []) := by
  have hx := X.1
  have hb := X.2.1
  have hown := X.2.2.2.2.1
  refine zr_new X hR (fs := [.null, .null, .null, .null, .null, .null]) zc10 q_29 q_30 q_1 (fun j hj => by rcases (show j = 0 ∨ j = 1 ∨ j = 2 ∨ j = 3 ∨ j = 4 ∨ j = 5 by omega) with rfl | rfl | rfl | rfl | rfl | rfl <;> rfl) (by omega) (by omega) dL_law_0 (fun H hR => ?_)
  refine W.widen (k := 1) (n := 6) (by show _ ≤ _; exact Nat.le_of_ble_eq_true rfl) (by show _ ≤ _; exact Nat.le_of_ble_eq_true rfl) ?_
  refine lv_dup hx hb dL_law_3 rfl ?_
  refine zr_cI X hR hl.1 (b := n) (As := []) (rest := [.ref n]) (mt_X9_init hT n (zz_u h n (.inr (10, [.null, .null, .null, .null, .null, .null]))) (n + 1) e1) mf_X9_init rfl q_31 q_32 ⟨Nat.le_trans (Nat.le_of_ble_eq_true rfl) hRf, Nat.le_trans (Nat.le_of_ble_eq_true rfl) hRl⟩ ⟨Nat.le_trans (show 1 + rm_X9_init.cells ≤ 601024 from Nat.le_of_ble_eq_true rfl) hRc, Nat.le_trans (show 6 + rm_X9_init.slots ≤ 7293034 from Nat.le_of_ble_eq_true rfl) hRs⟩ rfl (Nat.le_of_ble_eq_true rfl) dL_law_4 (fun H locs hR => ?_)
  refine W.eq (g2 := F0 m 7 ls [.ref n]) rfl ?_
  refine W.widen (k := 21) (n := 204) (by show _ ≤ _; exact Nat.le_of_ble_eq_true rfl) (by show _ ≤ _; exact Nat.le_of_ble_eq_true rfl) ?_
  refine lv_astore_n (i := 1) (lv' := [(1, .ref n), (0, .ref b)]) hx hb dL_law_7 rfl hl (by decide) rfl (fun ls hl => ?_)
  refine zr_new X hR (fs := [.null, .null, .null, .null, .null, .null, .null, .null, .null, .null, .null, .null, .null, .null, .null, .null, .null, .null, .null, .null, .null, .null, .null, .null, .null, .null, .null, .null, .null, .null, .int 0, .int 0, .int 0, .int 0]) zc11 q_1238 q_1239 q_11 (fun j hj => by rcases (show j = 0 ∨ j = 1 ∨ j = 2 ∨ j = 3 ∨ j = 4 ∨ j = 5 ∨ j = 6 ∨ j = 7 ∨ j = 8 ∨ j = 9 ∨ j = 10 ∨ j = 11 ∨ j = 12 ∨ j = 13 ∨ j = 14 ∨ j = 15 ∨ j = 16 ∨ j = 17 ∨ j = 18 ∨ j = 19 ∨ j = 20 ∨ j = 21 ∨ j = 22 ∨ j = 23 ∨ j = 24 ∨ j = 25 ∨ j = 26 ∨ j = 27 ∨ j = 28 ∨ j = 29 ∨ j = 30 ∨ j = 31 ∨ j = 32 ∨ j = 33 by omega) with rfl | rfl | rfl | rfl | rfl | rfl | rfl | rfl | rfl | rfl | rfl | rfl | rfl | rfl | rfl | rfl | rfl | rfl | rfl | rfl | rfl | rfl | rfl | rfl | rfl | rfl | rfl | rfl | rfl | rfl | rfl | rfl | rfl | rfl <;> rfl) (by omega) (by omega) dL_law_8 (fun H hR => ?_)
  refine W.widen (k := 22) (n := 238) (by show _ ≤ _; exact Nat.le_of_ble_eq_true rfl) (by show _ ≤ _; exact Nat.le_of_ble_eq_true rfl) ?_
  refine lv_dup hx hb dL_law_11 rfl ?_
  refine zr_cI X hR hl.1 (b := n1) (As := []) (rest := [.ref n1]) (mt_X10_init hT n1 (zz_u h1 n1 (.inr (11, [.null, .null, .null, .null, .null, .null, .null, .null, .null, .null, .null, .null, .null, .null, .null, .null, .null, .null, .null, .null, .null, .null, .null, .null, .null, .null, .null, .null, .null, .null, .int 0, .int 0, .int 0, .int 0]))) (n1 + 1) e2) mf_X10_init rfl q_1240 q_1241 ⟨Nat.le_trans (Nat.le_of_ble_eq_true rfl) hRf, Nat.le_trans (Nat.le_of_ble_eq_true rfl) hRl⟩ ⟨Nat.le_trans (show 22 + rm_X10_init.cells ≤ 601024 from Nat.le_of_ble_eq_true rfl) hRc, Nat.le_trans (show 238 + rm_X10_init.slots ≤ 7293034 from Nat.le_of_ble_eq_true rfl) hRs⟩ rfl (Nat.le_of_ble_eq_true rfl) dL_law_12 (fun H locs hR => ?_)
  refine W.eq (g2 := F0 m 15 ls [.ref n1]) rfl ?_
  refine W.widen (k := 201) (n := 1251) (by show _ ≤ _; exact Nat.le_of_ble_eq_true rfl) (by show _ ≤ _; exact Nat.le_of_ble_eq_true rfl) ?_
  refine lv_astore_n (i := 2) (lv' := [(2, .ref n1), (1, .ref n), (0, .ref b)]) hx hb dL_law_15 rfl hl (by decide) rfl (fun ls hl => ?_)
  refine lv_iconst (v := (1 : Int32)) hx hb dL_law_16 (by decide) ?_
  refine zr_newa X hR (t := 3) (N := 1) (a0 := (1, .inr (.inl (fun _ => 0)))) (by decide) rfl q_1358 (fun _ z => z) (fun cA => rfl) (by decide) (by decide) (Nat.le_of_ble_eq_true rfl) (by omega) (by omega) dL_law_17 (fun H hR => ?_)
  refine W.widen (k := 202) (n := 1252) (by show _ ≤ _; exact Nat.le_of_ble_eq_true rfl) (by show _ ≤ _; exact Nat.le_of_ble_eq_true rfl) ?_
  refine lv_astore_n (i := 3) (lv' := [(3, .ref n2), (2, .ref n1), (1, .ref n), (0, .ref b)]) hx hb dL_law_19 rfl hl (by decide) rfl (fun ls hl => ?_)
  refine lv_iconst (v := (1 : Int32)) hx hb dL_law_20 (by decide) ?_
  refine zr_newa X hR (t := 4) (N := 1) (a0 := (1, .inr (.inr (.inr (.inl (fun _ => 0)))))) (by decide) rfl q_1662 (fun _ z => z) (fun cA => rfl) (by decide) (by decide) (Nat.le_of_ble_eq_true rfl) (by omega) (by omega) dL_law_21 (fun H hR => ?_)
  refine W.widen (k := 203) (n := 1253) (by show _ ≤ _; exact Nat.le_of_ble_eq_true rfl) (by show _ ≤ _; exact Nat.le_of_ble_eq_true rfl) ?_
  refine lv_astore (i := 4) (lv' := [(4, .ref (n2 + 1)), (3, .ref n2), (2, .ref n1), (1, .ref n), (0, .ref b)]) hx hb dL_law_23 hl (by decide) rfl (fun ls hl => ?_)
  refine lv_iconst (v := (0 : Int32)) hx hb dL_law_25 (by decide) ?_
  refine lv_istore (i := 5) (lv' := [(5, .int 0), (4, .ref (n2 + 1)), (3, .ref n2), (2, .ref n1), (1, .ref n), (0, .ref b)]) hx hb dL_law_26 hl (by decide) rfl (fun ls hl => ?_)
  exact hend hR hl
end ZLE
