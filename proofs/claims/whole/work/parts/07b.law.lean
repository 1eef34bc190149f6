section ZZT
def zp {α : Type} (x : Option α) (K : α → Prop) : Prop := ∃ v, x = some v ∧ K v
def zp1 {α : Type} (x : Option (α × zz_H)) (K : α → zz_H → Prop) : Prop := ∃ v h, x = some (v, h) ∧ K v h
def zo (h : zz_H) (a ci : Nat) (K : Prop) : Prop := (∃ fs, h a = some (.inr (ci, fs))) ∧ K
def zl_w (x : Option (Int32 × zz_H × Nat)) (K : Int32 → zz_H → Nat → Prop) : Prop := ∃ r h n, x = some (r, h, n) ∧ ∀ n1, n ≤ n1 → K r h n1
theorem zl_ld {p : Program} {l : Launch} {e : Env} {R : Room} {s : State} {m : MethodId} {args : Array Value} {below : List Frame} {meth : Method} {c : Code} {H : Heap} {locs : List Loc} {cells slots : Nat} {Q : State → Prop} {A : Nat → Prop} {cc : ByteArray} {pc : Nat} {ls : Array Slot} {rest : List Value} (hexec : p.tables.exec = Jvm.exec) (hb : c.code = cc) {b L : Nat} {xs : Nat → Int32} (hX : va_X b L xs s s.heap) (hbl : b < s.heap.size) (hbA : ¬ A b) (hS : va_S A s.heap H locs) {i x : Int32} (hin : vp_in i L) (hq : xs i.toNatClampNeg = x) (hdg : decode cc pc = .ok (.iaload, 1))
    (kk : W p l e R s m args below meth c H locs cells slots Q (F0 m (pc + 1) ls (.int x :: rest))) : W p l e R s m args below meth c H locs cells slots Q (F0 m pc ls (.int i :: .ref b :: rest)) := by
  subst hq
  exact va_sld hexec hb hX hbl hbA hS hin hdg kk
def w_0 (t0 ax am ao ad : Nat) (x1 x2 x3 x4 : Int32) (h : zz_H) (n : Nat) (K : zz_H → Nat → Prop) : Prop := zl_w (f_L_seat t0 ax x1 x2 ao h n) fun v254 h254 n254 => zo h254 am 11 (zp1 (f_X10_seat am x1 x2 h254) fun v272 h272 => zo h272 am 11 (zp (f_X10_thrown am h272) fun v278 => (v278 = v254 → ((v254 = (0 : Int32) → (zp (zz_al 3 h272 (some ao) (0 : Int32) some) fun v295 => ((lg_cmp v295 v272.toInt64) = (0 : Int32) → (K h272 n254)) ∧ (¬ (lg_cmp v295 v272.toInt64) = (0 : Int32) → False))) ∧ (¬ v254 = (0 : Int32) → (K h272 n254)))) ∧ (¬ v278 = v254 → False)))
def w_1 (t0 ax am ao ad : Nat) (x1 x2 x3 x4 : Int32) (h : zz_H) (n : Nat) (K : zz_H → Nat → Prop) : Prop := zl_w (f_L_web t0 ax x1 x2 ao h n) fun v322 h322 n322 => zo h322 am 11 (zp1 (f_X10_web am x1 x2 h322) fun v340 h340 => zo h340 am 11 (zp (f_X10_thrown am h340) fun v346 => (v346 = v322 → ((v322 = (0 : Int32) → (zp (zz_al 3 h340 (some ao) (0 : Int32) some) fun v363 => ((lg_cmp v363 v340.toInt64) = (0 : Int32) → (K h340 n322)) ∧ (¬ (lg_cmp v363 v340.toInt64) = (0 : Int32) → False))) ∧ (¬ v322 = (0 : Int32) → (K h340 n322)))) ∧ (¬ v346 = v322 → False)))
def w_2 (t0 ax am ao ad : Nat) (x1 x2 x3 x4 : Int32) (h : zz_H) (n : Nat) (K : zz_H → Nat → Prop) : Prop := zl_w (f_L_spring t0 ax x1 x2 x3 ao h n) fun v396 h396 n396 => zo h396 am 11 (zp1 (f_X10_spring am x1 x2 x3 h396) fun v420 h420 => zo h420 am 11 (zp (f_X10_thrown am h420) fun v426 => (v426 = v396 → ((v396 = (0 : Int32) → (zp (zz_al 3 h420 (some ao) (0 : Int32) some) fun v443 => ((lg_cmp v443 v420.toInt64) = (0 : Int32) → (K h420 n396)) ∧ (¬ (lg_cmp v443 v420.toInt64) = (0 : Int32) → False))) ∧ (¬ v396 = (0 : Int32) → (K h420 n396)))) ∧ (¬ v426 = v396 → False)))
def w_3 (t0 ax am ao ad : Nat) (x1 x2 x3 x4 : Int32) (h : zz_H) (n : Nat) (K : zz_H → Nat → Prop) : Prop := zl_w (f_L_change t0 ax x1 x2 x3 x4 ao h n) fun v482 h482 n482 => zo h482 am 11 (zp1 (f_X10_change am x1 x2 x3 x4 h482) fun v512 h512 => zo h512 am 11 (zp (f_X10_thrown am h512) fun v518 => (v518 = v482 → ((v482 = (0 : Int32) → (zp (zz_al 3 h512 (some ao) (0 : Int32) some) fun v535 => ((lg_cmp v535 v512.toInt64) = (0 : Int32) → (K h512 n482)) ∧ (¬ (lg_cmp v535 v512.toInt64) = (0 : Int32) → False))) ∧ (¬ v482 = (0 : Int32) → (K h512 n482)))) ∧ (¬ v518 = v482 → False)))
def w_4 (t0 ax am ao ad : Nat) (x1 x2 x3 x4 : Int32) (h : zz_H) (n : Nat) (K : zz_H → Nat → Prop) : Prop := zl_w (f_L_tie t0 ax x1 ao h n) fun v556 h556 n556 => zo h556 am 11 (zp1 (f_X10_tie am x1 h556) fun v568 h568 => zo h568 am 11 (zp (f_X10_thrown am h568) fun v574 => (v574 = v556 → ((v556 = (0 : Int32) → (zp (zz_al 3 h568 (some ao) (0 : Int32) some) fun v591 => ((lg_cmp v591 v568.toInt64) = (0 : Int32) → (K h568 n556)) ∧ (¬ (lg_cmp v591 v568.toInt64) = (0 : Int32) → False))) ∧ (¬ v556 = (0 : Int32) → (K h568 n556)))) ∧ (¬ v574 = v556 → False)))
def w_5 (t0 ax am ao ad : Nat) (x1 x2 x3 x4 : Int32) (h : zz_H) (n : Nat) (K : zz_H → Nat → Prop) : Prop := (x2 = (0 : Int32) → (zl_w (f_L_pull t0 ax x1 (0 : Int32) x3 x4 ao h n) fun v638 h638 n638 => (x2 = (0 : Int32) → (zo h638 am 11 (zp1 (f_X10_pull am x1 (0 : Int32) x3 x4 h638) fun v676 h676 => zo h676 am 11 (zp (f_X10_thrown am h676) fun v682 => (v682 = v638 → ((v638 = (0 : Int32) → (zp (zz_al 3 h676 (some ao) (0 : Int32) some) fun v699 => ((lg_cmp v699 v676.toInt64) = (0 : Int32) → (K h676 n638)) ∧ (¬ (lg_cmp v699 v676.toInt64) = (0 : Int32) → False))) ∧ (¬ v638 = (0 : Int32) → (K h676 n638)))) ∧ (¬ v682 = v638 → False))))) ∧ (¬ x2 = (0 : Int32) → (zo h638 am 11 (zp1 (f_X10_pull am x1 (1 : Int32) x3 x4 h638) fun v676 h676 => zo h676 am 11 (zp (f_X10_thrown am h676) fun v682 => (v682 = v638 → ((v638 = (0 : Int32) → (zp (zz_al 3 h676 (some ao) (0 : Int32) some) fun v699 => ((lg_cmp v699 v676.toInt64) = (0 : Int32) → (K h676 n638)) ∧ (¬ (lg_cmp v699 v676.toInt64) = (0 : Int32) → False))) ∧ (¬ v638 = (0 : Int32) → (K h676 n638)))) ∧ (¬ v682 = v638 → False))))))) ∧ (¬ x2 = (0 : Int32) → (zl_w (f_L_pull t0 ax x1 (1 : Int32) x3 x4 ao h n) fun v638 h638 n638 => (x2 = (0 : Int32) → (zo h638 am 11 (zp1 (f_X10_pull am x1 (0 : Int32) x3 x4 h638) fun v676 h676 => zo h676 am 11 (zp (f_X10_thrown am h676) fun v682 => (v682 = v638 → ((v638 = (0 : Int32) → (zp (zz_al 3 h676 (some ao) (0 : Int32) some) fun v699 => ((lg_cmp v699 v676.toInt64) = (0 : Int32) → (K h676 n638)) ∧ (¬ (lg_cmp v699 v676.toInt64) = (0 : Int32) → False))) ∧ (¬ v638 = (0 : Int32) → (K h676 n638)))) ∧ (¬ v682 = v638 → False))))) ∧ (¬ x2 = (0 : Int32) → (zo h638 am 11 (zp1 (f_X10_pull am x1 (1 : Int32) x3 x4 h638) fun v676 h676 => zo h676 am 11 (zp (f_X10_thrown am h676) fun v682 => (v682 = v638 → ((v638 = (0 : Int32) → (zp (zz_al 3 h676 (some ao) (0 : Int32) some) fun v699 => ((lg_cmp v699 v676.toInt64) = (0 : Int32) → (K h676 n638)) ∧ (¬ (lg_cmp v699 v676.toInt64) = (0 : Int32) → False))) ∧ (¬ v638 = (0 : Int32) → (K h676 n638)))) ∧ (¬ v682 = v638 → False)))))))
def w_6 (t0 ax am ao ad : Nat) (x1 x2 x3 x4 : Int32) (h : zz_H) (n : Nat) (K : zz_H → Nat → Prop) : Prop := zl_w (f_L_layer t0 ax x1 (((x2).toUInt32 % 65536).toInt32) x3 x4 ao h n) fun v739 h739 n739 => zo h739 am 11 (zp1 (f_X10_layer am x1 (((x2).toUInt32 % 65536).toInt32) x3 x4 h739) fun v770 h770 => zo h770 am 11 (zp (f_X10_thrown am h770) fun v776 => (v776 = v739 → ((v739 = (0 : Int32) → (zp (zz_al 3 h770 (some ao) (0 : Int32) some) fun v793 => ((lg_cmp v793 v770.toInt64) = (0 : Int32) → (K h770 n739)) ∧ (¬ (lg_cmp v793 v770.toInt64) = (0 : Int32) → False))) ∧ (¬ v739 = (0 : Int32) → (K h770 n739)))) ∧ (¬ v776 = v739 → False)))
def w_7 (t0 ax am ao ad : Nat) (x1 x2 x3 x4 : Int32) (h : zz_H) (n : Nat) (K : zz_H → Nat → Prop) : Prop := zl_w (f_L_buttons t0 ax x1 ao h n) fun v814 h814 n814 => zo h814 am 11 (zp1 (f_X10_buttons am x1 h814) fun v826 h826 => zo h826 am 11 (zp (f_X10_thrown am h826) fun v832 => (v832 = v814 → ((v814 = (0 : Int32) → (zp (zz_al 3 h826 (some ao) (0 : Int32) some) fun v849 => ((lg_cmp v849 v826.toInt64) = (0 : Int32) → (K h826 n814)) ∧ (¬ (lg_cmp v849 v826.toInt64) = (0 : Int32) → False))) ∧ (¬ v814 = (0 : Int32) → (K h826 n814)))) ∧ (¬ v832 = v814 → False)))
def w_8 (t0 ax am ao ad : Nat) (x1 x2 x3 x4 : Int32) (h : zz_H) (n : Nat) (K : zz_H → Nat → Prop) : Prop := zl_w (f_L_draw t0 ax x1 x2 x3 ao h n) fun v882 h882 n882 => zo h882 am 11 (zp1 (f_X10_draw am x1 x2 x3 h882) fun v906 h906 => zo h906 am 11 (zp (f_X10_thrown am h906) fun v912 => (v912 = v882 → ((v882 = (0 : Int32) → (zp (zz_al 3 h906 (some ao) (0 : Int32) some) fun v929 => ((lg_cmp v929 v906.toInt64) = (0 : Int32) → (K h906 n882)) ∧ (¬ (lg_cmp v929 v906.toInt64) = (0 : Int32) → False))) ∧ (¬ v882 = (0 : Int32) → (K h906 n882)))) ∧ (¬ v912 = v882 → False)))
def w_9 (t0 ax am ao ad : Nat) (x1 x2 x3 x4 : Int32) (h : zz_H) (n : Nat) (K : zz_H → Nat → Prop) : Prop := zl_w (f_L_cover t0 ax x1 x2 x3 ao h n) fun v962 h962 n962 => zo h962 am 11 (zp1 (f_X10_cover am x1 x2 x3 h962) fun v986 h986 => zo h986 am 11 (zp (f_X10_thrown am h986) fun v992 => (v992 = v962 → ((v962 = (0 : Int32) → (zp (zz_al 3 h986 (some ao) (0 : Int32) some) fun v1009 => ((lg_cmp v1009 v986.toInt64) = (0 : Int32) → (K h986 n962)) ∧ (¬ (lg_cmp v1009 v986.toInt64) = (0 : Int32) → False))) ∧ (¬ v962 = (0 : Int32) → (K h986 n962)))) ∧ (¬ v992 = v962 → False)))
def w_10 (t0 ax am ao ad : Nat) (x1 x2 x3 x4 : Int32) (h : zz_H) (n : Nat) (K : zz_H → Nat → Prop) : Prop := zl_w (f_L_sign t0 ax x1 ao h n) fun v1030 h1030 n1030 => zo h1030 am 11 (zp1 (f_X10_sign am x1 h1030) fun v1042 h1042 => zo h1042 am 11 (zp (f_X10_thrown am h1042) fun v1048 => (v1048 = v1030 → ((v1030 = (0 : Int32) → (zp (zz_al 3 h1042 (some ao) (0 : Int32) some) fun v1065 => ((lg_cmp v1065 v1042.toInt64) = (0 : Int32) → (K h1042 n1030)) ∧ (¬ (lg_cmp v1065 v1042.toInt64) = (0 : Int32) → False))) ∧ (¬ v1030 = (0 : Int32) → (K h1042 n1030)))) ∧ (¬ v1048 = v1030 → False)))
def w_11 (t0 ax am ao ad : Nat) (x1 x2 x3 x4 : Int32) (h : zz_H) (n : Nat) (K : zz_H → Nat → Prop) : Prop := zl_w (f_L_open t0 ax x1 x2 ao h n) fun v1092 h1092 n1092 => zo h1092 am 11 (zp1 (f_X10_open am x1 x2 h1092) fun v1110 h1110 => zo h1110 am 11 (zp (f_X10_thrown am h1110) fun v1116 => (v1116 = v1092 → ((v1092 = (0 : Int32) → (zp (zz_al 3 h1110 (some ao) (0 : Int32) some) fun v1133 => ((lg_cmp v1133 v1110.toInt64) = (0 : Int32) → (K h1110 n1092)) ∧ (¬ (lg_cmp v1133 v1110.toInt64) = (0 : Int32) → False))) ∧ (¬ v1092 = (0 : Int32) → (K h1110 n1092)))) ∧ (¬ v1116 = v1092 → False)))
def w_12 (t0 ax am ao ad : Nat) (x1 x2 x3 x4 : Int32) (h : zz_H) (n : Nat) (K : zz_H → Nat → Prop) : Prop := zl_w (f_L_steps t0 ax x1 ao h n) fun v1154 h1154 n1154 => zo h1154 am 11 (zp1 (f_X10_steps am x1 h1154) fun v1166 h1166 => zo h1166 am 11 (zp (f_X10_thrown am h1166) fun v1172 => (v1172 = v1154 → ((v1154 = (0 : Int32) → (zp (zz_al 3 h1166 (some ao) (0 : Int32) some) fun v1189 => ((lg_cmp v1189 v1166.toInt64) = (0 : Int32) → (K h1166 n1154)) ∧ (¬ (lg_cmp v1189 v1166.toInt64) = (0 : Int32) → False))) ∧ (¬ v1154 = (0 : Int32) → (K h1166 n1154)))) ∧ (¬ v1172 = v1154 → False)))
def w_13 (t0 ax am ao ad : Nat) (x1 x2 x3 x4 : Int32) (h : zz_H) (n : Nat) (K : zz_H → Nat → Prop) : Prop := zl_w (f_L_step t0 ax x1 x2 ao h n) fun v1216 h1216 n1216 => zo h1216 am 11 (zp1 (f_X10_step am x1 x2 h1216) fun v1234 h1234 => zo h1234 am 11 (zp (f_X10_thrown am h1234) fun v1240 => (v1240 = v1216 → ((v1216 = (0 : Int32) → (zp (zz_al 3 h1234 (some ao) (0 : Int32) some) fun v1257 => ((lg_cmp v1257 v1234.toInt64) = (0 : Int32) → (K h1234 n1216)) ∧ (¬ (lg_cmp v1257 v1234.toInt64) = (0 : Int32) → False))) ∧ (¬ v1216 = (0 : Int32) → (K h1234 n1216)))) ∧ (¬ v1240 = v1216 → False)))
def w_14 (t0 ax am ao ad : Nat) (x1 x2 x3 x4 : Int32) (h : zz_H) (n : Nat) (K : zz_H → Nat → Prop) : Prop := zl_w (f_L_isSigned t0 ax x1 x2 ao h n) fun v1284 h1284 n1284 => zo h1284 am 11 (zp1 (f_X10_isSigned am x1 x2 h1284) fun v1302 h1302 => zo h1302 am 11 (zp (f_X10_thrown am h1302) fun v1308 => (v1308 = v1284 → ((v1284 = (0 : Int32) → (zp (zz_al 3 h1302 (some ao) (0 : Int32) some) fun v1325 => (v1302 = (0 : Int32) → (((lg_cmp v1325 (0 : Int64)) = (0 : Int32) → (K h1302 n1284)) ∧ (¬ (lg_cmp v1325 (0 : Int64)) = (0 : Int32) → False))) ∧ (¬ v1302 = (0 : Int32) → (((lg_cmp v1325 (1 : Int64)) = (0 : Int32) → (K h1302 n1284)) ∧ (¬ (lg_cmp v1325 (1 : Int64)) = (0 : Int32) → False))))) ∧ (¬ v1284 = (0 : Int32) → (K h1302 n1284)))) ∧ (¬ v1308 = v1284 → False)))
def w_15 (t0 ax am ao ad : Nat) (x1 x2 x3 x4 : Int32) (h : zz_H) (n : Nat) (K : zz_H → Nat → Prop) : Prop := zl_w (f_L_isClosed t0 ax x1 ao h n) fun v1353 h1353 n1353 => zo h1353 am 11 (zp1 (f_X10_isClosed am x1 h1353) fun v1365 h1365 => zo h1365 am 11 (zp (f_X10_thrown am h1365) fun v1371 => (v1371 = v1353 → ((v1353 = (0 : Int32) → (zp (zz_al 3 h1365 (some ao) (0 : Int32) some) fun v1388 => (v1365 = (0 : Int32) → (((lg_cmp v1388 (0 : Int64)) = (0 : Int32) → (K h1365 n1353)) ∧ (¬ (lg_cmp v1388 (0 : Int64)) = (0 : Int32) → False))) ∧ (¬ v1365 = (0 : Int32) → (((lg_cmp v1388 (1 : Int64)) = (0 : Int32) → (K h1365 n1353)) ∧ (¬ (lg_cmp v1388 (1 : Int64)) = (0 : Int32) → False))))) ∧ (¬ v1353 = (0 : Int32) → (K h1365 n1353)))) ∧ (¬ v1371 = v1353 → False)))
def w_16 (t0 ax am ao ad : Nat) (x1 x2 x3 x4 : Int32) (h : zz_H) (n : Nat) (K : zz_H → Nat → Prop) : Prop := zl_w (f_L_stands t0 ax x1 x2 ao h n) fun v1422 h1422 n1422 => zo h1422 am 11 (zp1 (f_X10_stands am x1 x2 h1422) fun v1440 h1440 => zo h1440 am 11 (zp (f_X10_thrown am h1440) fun v1446 => (v1446 = v1422 → ((v1422 = (0 : Int32) → (zp (zz_al 3 h1440 (some ao) (0 : Int32) some) fun v1463 => ((lg_cmp v1463 v1440.toInt64) = (0 : Int32) → (K h1440 n1422)) ∧ (¬ (lg_cmp v1463 v1440.toInt64) = (0 : Int32) → False))) ∧ (¬ v1422 = (0 : Int32) → (K h1440 n1422)))) ∧ (¬ v1446 = v1422 → False)))
def w_17 (t0 ax am ao ad : Nat) (x1 x2 x3 x4 : Int32) (h : zz_H) (n : Nat) (K : zz_H → Nat → Prop) : Prop := zl_w (f_L_thick t0 ax x1 x2 ao h n) fun v1490 h1490 n1490 => zo h1490 am 11 (zp1 (f_X10_thick am x1 x2 h1490) fun v1508 h1508 => zo h1508 am 11 (zp (f_X10_thrown am h1508) fun v1514 => (v1514 = v1490 → ((v1490 = (0 : Int32) → (zp (zz_al 3 h1508 (some ao) (0 : Int32) some) fun v1531 => ((lg_cmp v1531 v1508.toInt64) = (0 : Int32) → (K h1508 n1490)) ∧ (¬ (lg_cmp v1531 v1508.toInt64) = (0 : Int32) → False))) ∧ (¬ v1490 = (0 : Int32) → (K h1508 n1490)))) ∧ (¬ v1514 = v1490 → False)))
def w_18 (t0 ax am ao ad : Nat) (x1 x2 x3 x4 : Int32) (h : zz_H) (n : Nat) (K : zz_H → Nat → Prop) : Prop := zl_w (f_L_top t0 ax x1 x2 ao h n) fun v1558 h1558 n1558 => zo h1558 am 11 (zp1 (f_X10_top am x1 x2 h1558) fun v1576 h1576 => zo h1576 am 11 (zp (f_X10_thrown am h1576) fun v1582 => (v1582 = v1558 → ((v1558 = (0 : Int32) → (zp (zz_al 3 h1576 (some ao) (0 : Int32) some) fun v1599 => ((lg_cmp v1599 v1576.toInt64) = (0 : Int32) → (K h1576 n1558)) ∧ (¬ (lg_cmp v1599 v1576.toInt64) = (0 : Int32) → False))) ∧ (¬ v1558 = (0 : Int32) → (K h1576 n1558)))) ∧ (¬ v1582 = v1558 → False)))
def w_19 (t0 ax am ao ad : Nat) (x1 x2 x3 x4 : Int32) (h : zz_H) (n : Nat) (K : zz_H → Nat → Prop) : Prop := (x2 = (0 : Int32) → (zl_w (f_L_folds t0 ax x1 (0 : Int32) ao h n) fun v1634 h1634 n1634 => (x2 = (0 : Int32) → (zo h1634 am 11 (zp1 (f_X10_folds am x1 (0 : Int32) h1634) fun v1660 h1660 => zo h1660 am 11 (zp (f_X10_thrown am h1660) fun v1666 => (v1666 = v1634 → ((v1634 = (0 : Int32) → (zp (zz_al 3 h1660 (some ao) (0 : Int32) some) fun v1683 => ((lg_cmp v1683 v1660.toInt64) = (0 : Int32) → (K h1660 n1634)) ∧ (¬ (lg_cmp v1683 v1660.toInt64) = (0 : Int32) → False))) ∧ (¬ v1634 = (0 : Int32) → (K h1660 n1634)))) ∧ (¬ v1666 = v1634 → False))))) ∧ (¬ x2 = (0 : Int32) → (zo h1634 am 11 (zp1 (f_X10_folds am x1 (1 : Int32) h1634) fun v1660 h1660 => zo h1660 am 11 (zp (f_X10_thrown am h1660) fun v1666 => (v1666 = v1634 → ((v1634 = (0 : Int32) → (zp (zz_al 3 h1660 (some ao) (0 : Int32) some) fun v1683 => ((lg_cmp v1683 v1660.toInt64) = (0 : Int32) → (K h1660 n1634)) ∧ (¬ (lg_cmp v1683 v1660.toInt64) = (0 : Int32) → False))) ∧ (¬ v1634 = (0 : Int32) → (K h1660 n1634)))) ∧ (¬ v1666 = v1634 → False))))))) ∧ (¬ x2 = (0 : Int32) → (zl_w (f_L_folds t0 ax x1 (1 : Int32) ao h n) fun v1634 h1634 n1634 => (x2 = (0 : Int32) → (zo h1634 am 11 (zp1 (f_X10_folds am x1 (0 : Int32) h1634) fun v1660 h1660 => zo h1660 am 11 (zp (f_X10_thrown am h1660) fun v1666 => (v1666 = v1634 → ((v1634 = (0 : Int32) → (zp (zz_al 3 h1660 (some ao) (0 : Int32) some) fun v1683 => ((lg_cmp v1683 v1660.toInt64) = (0 : Int32) → (K h1660 n1634)) ∧ (¬ (lg_cmp v1683 v1660.toInt64) = (0 : Int32) → False))) ∧ (¬ v1634 = (0 : Int32) → (K h1660 n1634)))) ∧ (¬ v1666 = v1634 → False))))) ∧ (¬ x2 = (0 : Int32) → (zo h1634 am 11 (zp1 (f_X10_folds am x1 (1 : Int32) h1634) fun v1660 h1660 => zo h1660 am 11 (zp (f_X10_thrown am h1660) fun v1666 => (v1666 = v1634 → ((v1634 = (0 : Int32) → (zp (zz_al 3 h1660 (some ao) (0 : Int32) some) fun v1683 => ((lg_cmp v1683 v1660.toInt64) = (0 : Int32) → (K h1660 n1634)) ∧ (¬ (lg_cmp v1683 v1660.toInt64) = (0 : Int32) → False))) ∧ (¬ v1634 = (0 : Int32) → (K h1660 n1634)))) ∧ (¬ v1666 = v1634 → False)))))))
def w_20 (t0 ax am ao ad : Nat) (x1 x2 x3 x4 : Int32) (h : zz_H) (n : Nat) (K : zz_H → Nat → Prop) : Prop := zl_w (f_L_buttonAt t0 ax x1 x2 ao h n) fun v1710 h1710 n1710 => zo h1710 am 11 (zp1 (f_X10_buttonAt am x1 x2 h1710) fun v1728 h1728 => zo h1728 am 11 (zp (f_X10_thrown am h1728) fun v1734 => (v1734 = v1710 → ((v1710 = (0 : Int32) → (zp (zz_al 3 h1728 (some ao) (0 : Int32) some) fun v1751 => ((lg_cmp v1751 v1728.toInt64) = (0 : Int32) → (K h1728 n1710)) ∧ (¬ (lg_cmp v1751 v1728.toInt64) = (0 : Int32) → False))) ∧ (¬ v1710 = (0 : Int32) → (K h1728 n1710)))) ∧ (¬ v1734 = v1710 → False)))
def w_21 (t0 ax am ao ad : Nat) (x1 x2 x3 x4 : Int32) (h : zz_H) (n : Nat) (K : zz_H → Nat → Prop) : Prop := zl_w (f_L_body t0 ax ao h n) fun v1766 h1766 n1766 => zo h1766 am 11 (zp1 (f_X10_body am h1766) fun v1772 h1772 => zo h1772 am 11 (zp (f_X10_thrown am h1772) fun v1778 => (v1778 = v1766 → ((v1766 = (0 : Int32) → (zp (zz_al 3 h1772 (some ao) (0 : Int32) some) fun v1795 => ((lg_cmp v1795 v1772.toInt64) = (0 : Int32) → (K h1772 n1766)) ∧ (¬ (lg_cmp v1795 v1772.toInt64) = (0 : Int32) → False))) ∧ (¬ v1766 = (0 : Int32) → (K h1772 n1766)))) ∧ (¬ v1778 = v1766 → False)))
def w_22 (t0 ax am ao ad : Nat) (x1 x2 x3 x4 : Int32) (h : zz_H) (n : Nat) (K : zz_H → Nat → Prop) : Prop := zl_w (f_L_mass t0 ax x1 x2 x3 ao h n) fun v1828 h1828 n1828 => zo h1828 am 11 (zp1 (f_X10_mass am x1 x2 x3 h1828) fun v1852 h1852 => zo h1852 am 11 (zp (f_X10_thrown am h1852) fun v1858 => (v1858 = v1828 → ((v1828 = (0 : Int32) → (zp (zz_al 3 h1852 (some ao) (0 : Int32) some) fun v1875 => ((lg_cmp v1875 v1852.toInt64) = (0 : Int32) → (K h1852 n1828)) ∧ (¬ (lg_cmp v1875 v1852.toInt64) = (0 : Int32) → False))) ∧ (¬ v1828 = (0 : Int32) → (K h1852 n1828)))) ∧ (¬ v1858 = v1828 → False)))
def w_23 (t0 ax am ao ad : Nat) (x1 x2 x3 x4 : Int32) (h : zz_H) (n : Nat) (K : zz_H → Nat → Prop) : Prop := zl_w (f_L_sinks t0 ax x1 x2 x3 ao h n) fun v1908 h1908 n1908 => zo h1908 am 11 (zp1 (f_X10_sinks am x1 x2 x3 h1908) fun v1932 h1932 => zo h1932 am 11 (zp (f_X10_thrown am h1932) fun v1938 => (v1938 = v1908 → ((v1908 = (0 : Int32) → (zp (zz_al 3 h1932 (some ao) (0 : Int32) some) fun v1955 => ((lg_cmp v1955 v1932.toInt64) = (0 : Int32) → (K h1932 n1908)) ∧ (¬ (lg_cmp v1955 v1932.toInt64) = (0 : Int32) → False))) ∧ (¬ v1908 = (0 : Int32) → (K h1932 n1908)))) ∧ (¬ v1938 = v1908 → False)))
def w_24 (t0 ax am ao ad : Nat) (x1 x2 x3 x4 : Int32) (h : zz_H) (n : Nat) (K : zz_H → Nat → Prop) : Prop := zl_w (f_L_pressure t0 ax x1 x2 x3 ao h n) fun v1988 h1988 n1988 => zo h1988 am 11 (zp1 (f_X10_pressure am x1 x2 x3 h1988) fun v2012 h2012 => zo h2012 am 11 (zp (f_X10_thrown am h2012) fun v2018 => (v2018 = v1988 → ((v1988 = (0 : Int32) → (zp (zz_al 3 h2012 (some ao) (0 : Int32) some) fun v2035 => ((lg_cmp v2035 v2012.toInt64) = (0 : Int32) → (K h2012 n1988)) ∧ (¬ (lg_cmp v2035 v2012.toInt64) = (0 : Int32) → False))) ∧ (¬ v1988 = (0 : Int32) → (K h2012 n1988)))) ∧ (¬ v2018 = v1988 → False)))
def w_25 (t0 ax am ao ad : Nat) (x1 x2 x3 x4 : Int32) (h : zz_H) (n : Nat) (K : zz_H → Nat → Prop) : Prop := zl_w (f_L_comfort t0 ax x1 x2 ao h n) fun v2062 h2062 n2062 => zo h2062 am 11 (zp1 (f_X10_comfort am x1 x2 h2062) fun v2080 h2080 => zo h2080 am 11 (zp (f_X10_thrown am h2080) fun v2086 => (v2086 = v2062 → ((v2062 = (0 : Int32) → (zp (zz_al 3 h2080 (some ao) (0 : Int32) some) fun v2103 => ((lg_cmp v2103 v2080.toInt64) = (0 : Int32) → (K h2080 n2062)) ∧ (¬ (lg_cmp v2103 v2080.toInt64) = (0 : Int32) → False))) ∧ (¬ v2062 = (0 : Int32) → (K h2080 n2062)))) ∧ (¬ v2086 = v2062 → False)))
def w_26 (t0 ax am ao ad : Nat) (x1 x2 x3 x4 : Int32) (h : zz_H) (n : Nat) (K : zz_H → Nat → Prop) : Prop := zl_w (f_L_fit t0 ax x1 x2 x3 ao h n) fun v2136 h2136 n2136 => zo h2136 am 11 (zp1 (f_X10_fit am x1 x2 x3 h2136) fun v2160 h2160 => zo h2160 am 11 (zp (f_X10_thrown am h2160) fun v2166 => (v2166 = v2136 → ((v2136 = (0 : Int32) → (zp (zz_al 3 h2160 (some ao) (0 : Int32) some) fun v2183 => ((lg_cmp v2183 v2160.toInt64) = (0 : Int32) → (K h2160 n2136)) ∧ (¬ (lg_cmp v2183 v2160.toInt64) = (0 : Int32) → False))) ∧ (¬ v2136 = (0 : Int32) → (K h2160 n2136)))) ∧ (¬ v2166 = v2136 → False)))
def w_27 (t0 ax am ao ad : Nat) (x1 x2 x3 x4 : Int32) (h : zz_H) (n : Nat) (K : zz_H → Nat → Prop) : Prop := zl_w (f_L_cloth t0 ax x1 x2 ao h n) fun v2210 h2210 n2210 => zo h2210 am 11 (zp1 (f_X10_cloth am x1 x2 h2210) fun v2228 h2228 => zo h2228 am 11 (zp (f_X10_thrown am h2228) fun v2234 => (v2234 = v2210 → ((v2210 = (0 : Int32) → (zp (zz_al 3 h2228 (some ao) (0 : Int32) some) fun v2251 => ((lg_cmp v2251 v2228.toInt64) = (0 : Int32) → (K h2228 n2210)) ∧ (¬ (lg_cmp v2251 v2228.toInt64) = (0 : Int32) → False))) ∧ (¬ v2210 = (0 : Int32) → (K h2228 n2210)))) ∧ (¬ v2234 = v2210 → False)))
def w_28 (t0 ax am ao ad : Nat) (x1 x2 x3 x4 : Int32) (h : zz_H) (n : Nat) (K : zz_H → Nat → Prop) : Prop := zl_w (f_L_flaw t0 ax x1 x2 ao h n) fun v2278 h2278 n2278 => zo h2278 am 11 (zp1 (f_X10_flaw am x1 x2 h2278) fun v2296 h2296 => zo h2296 am 11 (zp (f_X10_thrown am h2296) fun v2302 => (v2302 = v2278 → ((v2278 = (0 : Int32) → (zp (zz_al 3 h2296 (some ao) (0 : Int32) some) fun v2319 => ((lg_cmp v2319 v2296.toInt64) = (0 : Int32) → (K h2296 n2278)) ∧ (¬ (lg_cmp v2319 v2296.toInt64) = (0 : Int32) → False))) ∧ (¬ v2278 = (0 : Int32) → (K h2296 n2278)))) ∧ (¬ v2302 = v2278 → False)))
def w_29 (t0 ax am ao ad : Nat) (x1 x2 x3 x4 : Int32) (h : zz_H) (n : Nat) (K : zz_H → Nat → Prop) : Prop := zl_w (f_L_left t0 ax x1 ao h n) fun v2340 h2340 n2340 => zo h2340 am 11 (zp1 (f_X10_left am x1 h2340) fun v2352 h2352 => zo h2352 am 11 (zp (f_X10_thrown am h2352) fun v2358 => (v2358 = v2340 → ((v2340 = (0 : Int32) → (zp (zz_al 3 h2352 (some ao) (0 : Int32) some) fun v2375 => ((lg_cmp v2375 v2352.toInt64) = (0 : Int32) → (K h2352 n2340)) ∧ (¬ (lg_cmp v2375 v2352.toInt64) = (0 : Int32) → False))) ∧ (¬ v2340 = (0 : Int32) → (K h2352 n2340)))) ∧ (¬ v2358 = v2340 → False)))
def w_30 (t0 ax am ao ad : Nat) (x1 x2 x3 x4 : Int32) (h : zz_H) (n : Nat) (K : zz_H → Nat → Prop) : Prop := zl_w (f_L_panel t0 ax x1 x2 ao h n) fun v2402 h2402 n2402 => zo h2402 am 11 (zp1 (f_X10_panel am x1 x2 h2402) fun v2420 h2420 => zo h2420 am 11 (zp (f_X10_thrown am h2420) fun v2426 => (v2426 = v2402 → ((v2402 = (0 : Int32) → (zp (zz_al 3 h2420 (some ao) (0 : Int32) some) fun v2443 => ((lg_cmp v2443 v2420.toInt64) = (0 : Int32) → (K h2420 n2402)) ∧ (¬ (lg_cmp v2443 v2420.toInt64) = (0 : Int32) → False))) ∧ (¬ v2402 = (0 : Int32) → (K h2420 n2402)))) ∧ (¬ v2426 = v2402 → False)))
def w_31 (t0 ax am ao ad : Nat) (x1 x2 x3 x4 : Int32) (h : zz_H) (n : Nat) (K : zz_H → Nat → Prop) : Prop := zl_w (f_L_use t0 ax x1 x2 ao h n) fun v2470 h2470 n2470 => zo h2470 am 11 (zp1 (f_X10_use am x1 x2 h2470) fun v2488 h2488 => zo h2488 am 11 (zp (f_X10_thrown am h2488) fun v2494 => (v2494 = v2470 → ((v2470 = (0 : Int32) → (zp (zz_al 3 h2488 (some ao) (0 : Int32) some) fun v2511 => ((lg_cmp v2511 v2488.toInt64) = (0 : Int32) → (K h2488 n2470)) ∧ (¬ (lg_cmp v2511 v2488.toInt64) = (0 : Int32) → False))) ∧ (¬ v2470 = (0 : Int32) → (K h2488 n2470)))) ∧ (¬ v2494 = v2470 → False)))
def w_32 (t0 ax am ao ad : Nat) (x1 x2 x3 x4 : Int32) (h : zz_H) (n : Nat) (K : zz_H → Nat → Prop) : Prop := zl_w (f_L_pound t0 ax x1 x2 ao h n) fun v2538 h2538 n2538 => zo h2538 am 11 (zp1 (f_X10_pound am x1 x2 h2538) fun v2556 h2556 => zo h2556 am 11 (zp (f_X10_thrown am h2556) fun v2562 => (v2562 = v2538 → ((v2538 = (0 : Int32) → (zp (zz_al 3 h2556 (some ao) (0 : Int32) some) fun v2579 => ((lg_cmp v2579 v2556.toInt64) = (0 : Int32) → (K h2556 n2538)) ∧ (¬ (lg_cmp v2579 v2556.toInt64) = (0 : Int32) → False))) ∧ (¬ v2538 = (0 : Int32) → (K h2556 n2538)))) ∧ (¬ v2562 = v2538 → False)))
def w_33 (t0 ax am ao ad : Nat) (x1 x2 x3 x4 : Int32) (h : zz_H) (n : Nat) (K : zz_H → Nat → Prop) : Prop := zl_w (f_L_hours t0 ax x1 ao h n) fun v2600 h2600 n2600 => zo h2600 am 11 (zp1 (f_X10_hours am x1 h2600) fun v2612 h2612 => zo h2612 am 11 (zp (f_X10_thrown am h2612) fun v2618 => (v2618 = v2600 → ((v2600 = (0 : Int32) → (zp (zz_al 3 h2612 (some ao) (0 : Int32) some) fun v2635 => ((lg_cmp v2635 v2612.toInt64) = (0 : Int32) → (K h2612 n2600)) ∧ (¬ (lg_cmp v2635 v2612.toInt64) = (0 : Int32) → False))) ∧ (¬ v2600 = (0 : Int32) → (K h2612 n2600)))) ∧ (¬ v2618 = v2600 → False)))
def w_34 (t0 ax am ao ad : Nat) (x1 x2 x3 x4 : Int32) (h : zz_H) (n : Nat) (K : zz_H → Nat → Prop) : Prop := zl_w (f_L_land t0 ax x1 (((x2).toUInt32 % 65536).toInt32) x3 ao h n) fun v2669 h2669 n2669 => zo h2669 am 11 (zp1 (f_X10_land am x1 (((x2).toUInt32 % 65536).toInt32) x3 h2669) fun v2694 h2694 => zo h2694 am 11 (zp (f_X10_thrown am h2694) fun v2700 => (v2700 = v2669 → ((v2669 = (0 : Int32) → (zp (zz_al 3 h2694 (some ao) (0 : Int32) some) fun v2717 => ((lg_cmp v2717 v2694.toInt64) = (0 : Int32) → (K h2694 n2669)) ∧ (¬ (lg_cmp v2717 v2694.toInt64) = (0 : Int32) → False))) ∧ (¬ v2669 = (0 : Int32) → (K h2694 n2669)))) ∧ (¬ v2700 = v2669 → False)))
def w_35 (t0 ax am ao ad : Nat) (x1 x2 x3 x4 : Int32) (h : zz_H) (n : Nat) (K : zz_H → Nat → Prop) : Prop := zl_w (f_L_burns t0 ax x1 x2 ao h n) fun v2744 h2744 n2744 => zo h2744 am 11 (zp1 (f_X10_burns am x1 x2 h2744) fun v2762 h2762 => zo h2762 am 11 (zp (f_X10_thrown am h2762) fun v2768 => (v2768 = v2744 → ((v2744 = (0 : Int32) → (zp (zz_al 3 h2762 (some ao) (0 : Int32) some) fun v2785 => (v2762 = (0 : Int32) → (((lg_cmp v2785 (0 : Int64)) = (0 : Int32) → (K h2762 n2744)) ∧ (¬ (lg_cmp v2785 (0 : Int64)) = (0 : Int32) → False))) ∧ (¬ v2762 = (0 : Int32) → (((lg_cmp v2785 (1 : Int64)) = (0 : Int32) → (K h2762 n2744)) ∧ (¬ (lg_cmp v2785 (1 : Int64)) = (0 : Int32) → False))))) ∧ (¬ v2744 = (0 : Int32) → (K h2762 n2744)))) ∧ (¬ v2768 = v2744 → False)))
def w_36 (t0 ax am ao ad : Nat) (x1 x2 x3 x4 : Int32) (h : zz_H) (n : Nat) (K : zz_H → Nat → Prop) : Prop := zl_w (f_L_tack t0 ax x1 x2 x3 ao h n) fun v2825 h2825 n2825 => zo h2825 am 11 (zp1 (f_X10_tack am x1 x2 x3 h2825) fun v2849 h2849 => zo h2849 am 11 (zp (f_X10_thrown am h2849) fun v2855 => (v2855 = v2825 → ((v2825 = (0 : Int32) → (zp (zz_al 3 h2849 (some ao) (0 : Int32) some) fun v2872 => ((lg_cmp v2872 v2849.toInt64) = (0 : Int32) → (K h2849 n2825)) ∧ (¬ (lg_cmp v2872 v2849.toInt64) = (0 : Int32) → False))) ∧ (¬ v2825 = (0 : Int32) → (K h2849 n2825)))) ∧ (¬ v2855 = v2825 → False)))
def w_37 (t0 ax am ao ad : Nat) (x1 x2 x3 x4 : Int32) (h : zz_H) (n : Nat) (K : zz_H → Nat → Prop) : Prop := zl_w (f_L_quarrels t0 ax x1 ao h n) fun v2893 h2893 n2893 => zo h2893 am 11 (zp1 (f_X10_quarrels am x1 h2893) fun v2905 h2905 => zo h2905 am 11 (zp (f_X10_thrown am h2905) fun v2911 => (v2911 = v2893 → ((v2893 = (0 : Int32) → (zp (zz_al 3 h2905 (some ao) (0 : Int32) some) fun v2928 => ((lg_cmp v2928 v2905.toInt64) = (0 : Int32) → (K h2905 n2893)) ∧ (¬ (lg_cmp v2928 v2905.toInt64) = (0 : Int32) → False))) ∧ (¬ v2893 = (0 : Int32) → (K h2905 n2893)))) ∧ (¬ v2911 = v2893 → False)))
def w_38 (t0 ax am ao ad : Nat) (x1 x2 x3 x4 : Int32) (h : zz_H) (n : Nat) (K : zz_H → Nat → Prop) : Prop := zl_w (f_L_promise t0 ax x1 x2 ao h n) fun v2955 h2955 n2955 => zo h2955 am 11 (zp1 (f_X10_promise am x1 x2 h2955) fun v2973 h2973 => zo h2973 am 11 (zp (f_X10_thrown am h2973) fun v2979 => (v2979 = v2955 → ((v2955 = (0 : Int32) → (zp (zz_al 3 h2973 (some ao) (0 : Int32) some) fun v2996 => ((lg_cmp v2996 v2973.toInt64) = (0 : Int32) → (K h2973 n2955)) ∧ (¬ (lg_cmp v2996 v2973.toInt64) = (0 : Int32) → False))) ∧ (¬ v2955 = (0 : Int32) → (K h2973 n2955)))) ∧ (¬ v2979 = v2955 → False)))
def w_39 (t0 ax am ao ad : Nat) (x1 x2 x3 x4 : Int32) (h : zz_H) (n : Nat) (K : zz_H → Nat → Prop) : Prop := zl_w (f_L_holds t0 ax x1 ao h n) fun v3017 h3017 n3017 => zo h3017 am 11 (zp1 (f_X10_holds am x1 h3017) fun v3029 h3029 => zo h3029 am 11 (zp (f_X10_thrown am h3029) fun v3035 => (v3035 = v3017 → ((v3017 = (0 : Int32) → (zp (zz_al 3 h3029 (some ao) (0 : Int32) some) fun v3052 => (v3029 = (0 : Int32) → (((lg_cmp v3052 (0 : Int64)) = (0 : Int32) → (K h3029 n3017)) ∧ (¬ (lg_cmp v3052 (0 : Int64)) = (0 : Int32) → False))) ∧ (¬ v3029 = (0 : Int32) → (((lg_cmp v3052 (1 : Int64)) = (0 : Int32) → (K h3029 n3017)) ∧ (¬ (lg_cmp v3052 (1 : Int64)) = (0 : Int32) → False))))) ∧ (¬ v3017 = (0 : Int32) → (K h3029 n3017)))) ∧ (¬ v3035 = v3017 → False)))
def w_40 (t0 ax am ao ad : Nat) (x1 x2 x3 x4 : Int32) (h : zz_H) (n : Nat) (K : zz_H → Nat → Prop) : Prop := zl_w (f_L_quote t0 ax x1 ao h n) fun v3080 h3080 n3080 => zo h3080 am 11 (zp1 (f_X10_quote am x1 h3080) fun v3092 h3092 => zo h3092 am 11 (zp (f_X10_thrown am h3092) fun v3098 => (v3098 = v3080 → ((v3080 = (0 : Int32) → (zp (zz_al 3 h3092 (some ao) (0 : Int32) some) fun v3115 => ((lg_cmp v3115 v3092.toInt64) = (0 : Int32) → (K h3092 n3080)) ∧ (¬ (lg_cmp v3115 v3092.toInt64) = (0 : Int32) → False))) ∧ (¬ v3080 = (0 : Int32) → (K h3092 n3080)))) ∧ (¬ v3098 = v3080 → False)))
def w_41 (t0 ax am ao ad : Nat) (x1 x2 x3 x4 : Int32) (h : zz_H) (n : Nat) (K : zz_H → Nat → Prop) : Prop := zo h ax 10 (zp (f_X9_checksum ax h) fun v3129 => zo h am 11 (zp1 (f_X10_checksum am h) fun v3133 h3133 => ((lg_cmp v3129 v3133) = (0 : Int32) → (K h3133 n)) ∧ (¬ (lg_cmp v3129 v3133) = (0 : Int32) → False)))
def w_42 (t0 ax am ao ad : Nat) (x1 x2 x3 x4 : Int32) (h : zz_H) (n : Nat) (K : zz_H → Nat → Prop) : Prop := zl_w (f_L_closedShare t0 ax ad h n) fun v3145 h3145 n3145 => zo h3145 am 11 (zp1 (f_X10_closedShare am h3145) fun v3151 h3151 => zo h3151 am 11 (zp (f_X10_thrown am h3151) fun v3157 => (v3157 = v3145 → ((v3145 = (0 : Int32) → (zp (zz_ad 4 h3151 (some ad) (0 : Int32) some) fun v3175 => (vf_n64 (FP.f2d v3151)) ∧ (((Op.cmpValue (FP.dcmp v3175 (FP.f2d v3151)) CmpOp.l) = (0 : Int32) → (K h3151 n3145)) ∧ (¬ (Op.cmpValue (FP.dcmp v3175 (FP.f2d v3151)) CmpOp.l) = (0 : Int32) → (zp (zz_ad 4 h3151 (some ad) (0 : Int32) some) fun v3186 => zp (zz_ad 4 h3151 (some ad) (0 : Int32) some) fun v3190 => ((Op.cmpValue (FP.dcmp v3186 v3190) CmpOp.l) = (0 : Int32) → False) ∧ (¬ (Op.cmpValue (FP.dcmp v3186 v3190) CmpOp.l) = (0 : Int32) → (((Op.cmpValue (FP.fcmp v3151 v3151) CmpOp.l) = (0 : Int32) → False) ∧ (¬ (Op.cmpValue (FP.fcmp v3151 v3151) CmpOp.l) = (0 : Int32) → (K h3151 n3145))))))))) ∧ (¬ v3145 = (0 : Int32) → (K h3151 n3145)))) ∧ (¬ v3157 = v3145 → False)))
def w_43 (t0 ax am ao ad : Nat) (x1 x2 x3 x4 : Int32) (h : zz_H) (n : Nat) (K : zz_H → Nat → Prop) : Prop := zl_w (f_L_meanTop t0 ax x1 ad h n) fun v3217 h3217 n3217 => zo h3217 am 11 (zp1 (f_X10_meanTop am x1 h3217) fun v3229 h3229 => zo h3229 am 11 (zp (f_X10_thrown am h3229) fun v3235 => (v3235 = v3217 → ((v3217 = (0 : Int32) → (zp (zz_ad 4 h3229 (some ad) (0 : Int32) some) fun v3253 => ((Op.cmpValue (FP.dcmp v3253 v3229) CmpOp.l) = (0 : Int32) → (K h3229 n3217)) ∧ (¬ (Op.cmpValue (FP.dcmp v3253 v3229) CmpOp.l) = (0 : Int32) → (zp (zz_ad 4 h3229 (some ad) (0 : Int32) some) fun v3263 => zp (zz_ad 4 h3229 (some ad) (0 : Int32) some) fun v3267 => ((Op.cmpValue (FP.dcmp v3263 v3267) CmpOp.l) = (0 : Int32) → False) ∧ (¬ (Op.cmpValue (FP.dcmp v3263 v3267) CmpOp.l) = (0 : Int32) → (((Op.cmpValue (FP.dcmp v3229 v3229) CmpOp.l) = (0 : Int32) → False) ∧ (¬ (Op.cmpValue (FP.dcmp v3229 v3229) CmpOp.l) = (0 : Int32) → (K h3229 n3217)))))))) ∧ (¬ v3217 = (0 : Int32) → (K h3229 n3217)))) ∧ (¬ v3235 = v3217 → False)))
def w_44 (t0 ax am ao ad : Nat) (x1 x2 x3 x4 : Int32) (h : zz_H) (n : Nat) (K : zz_H → Nat → Prop) : Prop := zo h ax 10 (zp1 (f_X9_isSound ax h) fun v3286 h3286 => zo h3286 am 11 (zp1 (f_X10_isSound am h3286) fun v3290 h3290 => (v3286 = v3290 → (K h3290 n)) ∧ (¬ v3286 = v3290 → False)))
set_option maxHeartbeats 4000000 in
set_option maxRecDepth 100000 in
theorem lc_0 {D : va_G} {dA : Nat → ClassId} {base t0 : Nat} {l : Launch} {p : Program} {e : Env} {R : Room} {s : State} {m : MethodId} {args : Array Value} {below : List Frame} {meth : Method} {c : Code} {Q : State → Prop} (X : zz_X D dA base t0 "SpringseatLaw" cL_law 9 (some .boolean) l p s m meth c) (hT : l.stackTraces = false) (hN : zz_N s) {b L : Nat} {xs : Nat → Int32} (hX : va_X b L xs s s.heap) (hbl : b < s.heap.size) (hbA : ¬ base ≤ b) (hRf : 13 ≤ R.frames) (hRl : 482 ≤ R.locals) {cs ss : Nat} (hc : cs + 20 ≤ R.cells) (hs : ss + 253 ≤ R.slots) {ax am ao ad : Nat} {i x1 x2 x3 x4 : Int32} (hi1 : vp_in (i + 1) L) (hi2 : vp_in (i + 2) L) (hi3 : vp_in (i + 3) L) (hi4 : vp_in (i + 4) L) (hq1 : xs (i + 1).toNatClampNeg = x1) (hq2 : xs (i + 2).toNatClampNeg = x2) (hq3 : xs (i + 3).toNatClampNeg = x3) (hq4 : xs (i + 4).toNatClampNeg = x4) {K : zz_H → Nat → Prop} (hK : ∀ h n, K h n → ∀ {H : Heap} {locs : List Loc} {ls : Array Slot}, zz_R D dA base h n s H locs → lv_has ls 9 [(5, .int i), (4, .ref ad), (3, .ref ao), (2, .ref am), (1, .ref ax), (0, .ref b)] → W p l e R s m args below meth c H locs (cs + 20) (ss + 253) Q (F0 m 3298 ls [])) {h : zz_H} {n : Nat} {H : Heap} {locs : List Loc} {ls : Array Slot} (hR : zz_R D dA base h n s H locs) (hl : lv_has ls 9 [(5, .int i), (4, .ref ad), (3, .ref ao), (2, .ref am), (1, .ref ax), (0, .ref b)]) (hf : w_0 t0 ax am ao ad x1 x2 x3 x4 h n K) : W p l e R s m args below meth c H locs cs ss Q (F0 m 240 ls []) := by
  have hx := X.1
  have hb := X.2.1
  have hown := X.2.2.2.2.1
  unfold w_0 at hf
  refine lv_aload_n hx hb dL_law_240 rfl (lv_at hl 4 rfl) ?_
  refine lv_aload_n hx hb dL_law_241 rfl (lv_at hl 5 rfl) ?_
  refine lv_iload hx hb dL_law_242 (lv_at hl 0 rfl) ?_
  refine lv_iconst (v := (1 : Int32)) hx hb dL_law_244 (by decide) ?_
  refine lv_iadd hx hb dL_law_245 ?_
  refine zl_ld hx hb hX hbl hbA hR.2 hi1 hq1 dL_law_246 ?_
  refine lv_aload_n hx hb dL_law_247 rfl (lv_at hl 5 rfl) ?_
  refine lv_iload hx hb dL_law_248 (lv_at hl 0 rfl) ?_
  refine lv_iconst (v := (2 : Int32)) hx hb dL_law_250 (by decide) ?_
  refine lv_iadd hx hb dL_law_251 ?_
  refine zl_ld hx hb hX hbl hbA hR.2 hi2 hq2 dL_law_252 ?_
  refine lv_aload_n hx hb dL_law_253 rfl (lv_at hl 2 rfl) ?_
  obtain ⟨v254, h254, m254, hv254, hf⟩ := hf
  refine zl_cS X hN hR hl.1 (As := [.ref ax, .int x1, .int x2, .ref ao]) (rest := []) (mt_L_seat hT ax x1 x2 ao h n hv254) mf_L_seat.1 mf_L_seat.2.1 mf_L_seat.2.2 q_335 q_336 ⟨Nat.le_trans (Nat.le_of_ble_eq_true rfl) hRf, Nat.le_trans (Nat.le_of_ble_eq_true rfl) hRl⟩ ⟨Nat.le_trans (Nat.add_le_add_left (Nat.le_of_ble_eq_true rfl) cs) hc, Nat.le_trans (Nat.add_le_add_left (Nat.le_of_ble_eq_true rfl) ss) hs⟩ rfl (Nat.le_of_ble_eq_true rfl) dL_law_254 (fun n254 H locs hn254 hR => ?_)
  replace hf := hf n254 hn254
  refine W.eq (g2 := F0 m 257 ls [.int v254]) rfl ?_
  refine W.widen (k := cs + 20) (n := ss + 253) (Nat.add_le_add_left (Nat.le_of_ble_eq_true rfl) cs) (Nat.add_le_add_left (Nat.le_of_ble_eq_true rfl) ss) ?_
  refine lv_istore (i := 6) (lv' := [(6, .int v254), (5, .int i), (4, .ref ad), (3, .ref ao), (2, .ref am), (1, .ref ax), (0, .ref b)]) hx hb dL_law_257 hl (by decide) rfl (fun ls hl => ?_)
  refine lv_aload_n hx hb dL_law_259 rfl (lv_at hl 4 rfl) ?_
  refine lv_aload_n hx hb dL_law_260 rfl (lv_at hl 6 rfl) ?_
  refine lv_iload hx hb dL_law_261 (lv_at hl 1 rfl) ?_
  refine lv_iconst (v := (1 : Int32)) hx hb dL_law_263 (by decide) ?_
  refine lv_iadd hx hb dL_law_264 ?_
  refine zl_ld hx hb hX hbl hbA hR.2 hi1 hq1 dL_law_265 ?_
  refine lv_aload_n hx hb dL_law_266 rfl (lv_at hl 6 rfl) ?_
  refine lv_iload hx hb dL_law_267 (lv_at hl 1 rfl) ?_
  refine lv_iconst (v := (2 : Int32)) hx hb dL_law_269 (by decide) ?_
  refine lv_iadd hx hb dL_law_270 ?_
  refine zl_ld hx hb hX hbl hbA hR.2 hi2 hq2 dL_law_271 ?_
  obtain ⟨⟨fs272, ho272⟩, hf⟩ := hf
  obtain ⟨v272, h272, hv272, hf⟩ := hf
  refine zr_cV X hR hl.1 (As := [.int x1, .int x2]) (rest := []) (C := RX10) (T := TX10) (N := 34) (mt_X10_seat hT am x1 x2 h254 n254 hv272) rfl ho272 mf_X10_seat q_1363 q_1364 q_1365 ⟨Nat.le_trans (Nat.le_of_ble_eq_true rfl) hRf, Nat.le_trans (Nat.le_of_ble_eq_true rfl) hRl⟩ ⟨hc, hs⟩ rfl (Nat.le_of_ble_eq_true rfl) dL_law_272 (fun H locs hR => ?_)
  refine W.eq (g2 := F0 m 275 ls [.int v272]) rfl ?_
  refine W.widen (k := cs + 20) (n := ss + 253) (Nat.le_refl _) (Nat.le_refl _) ?_
  refine lv_istore (i := 7) (lv' := [(7, .int v272), (6, .int v254), (5, .int i), (4, .ref ad), (3, .ref ao), (2, .ref am), (1, .ref ax), (0, .ref b)]) hx hb dL_law_275 hl (by decide) rfl (fun ls hl => ?_)
  refine lv_aload_n hx hb dL_law_277 rfl (lv_at hl 5 rfl) ?_
  obtain ⟨⟨fs278, ho278⟩, hf⟩ := hf
  obtain ⟨v278, hv278, hf⟩ := hf
  refine zr_cV X hR hl.1 (As := []) (rest := []) (C := RX10) (T := TX10) (N := 34) (mt_X10_thrown hT am h272 n254 hv278) rfl ho278 mf_X10_thrown q_1359 q_1360 q_1361 ⟨Nat.le_trans (Nat.le_of_ble_eq_true rfl) hRf, Nat.le_trans (Nat.le_of_ble_eq_true rfl) hRl⟩ ⟨hc, hs⟩ rfl (Nat.le_of_ble_eq_true rfl) dL_law_278 (fun H locs hR => ?_)
  refine W.eq (g2 := F0 m 281 ls [.int v278]) rfl ?_
  refine W.widen (k := cs + 20) (n := ss + 253) (Nat.le_refl _) (Nat.le_refl _) ?_
  refine lv_iload hx hb dL_law_281 (lv_at hl 1 rfl) ?_
  refine lv_icmp_eq (tgt := 288) hx hb dL_law_283 (by decide) (fun c283 => ?_) (fun c283 => ?_)
  · replace hf := hf.1 c283
    refine lv_iload hx hb dL_law_288 (lv_at hl 1 rfl) ?_
    refine lv_if_ne (tgt := 305) hx hb dL_law_290 (by decide) (fun c290 => ?_) (fun c290 => ?_)
    · replace hf := hf.2 c290
      refine lv_goto (tgt := 3298) hx hb dL_law_305 (by decide) ?_
      exact hK _ _ hf hR (lv_sub hl [2, 3, 4, 5, 6, 7] rfl)
    · replace hf := hf.1 c290
      refine lv_aload_n hx hb dL_law_293 rfl (lv_at hl 4 rfl) ?_
      refine lv_iconst (v := (0 : Int32)) hx hb dL_law_294 (by decide) ?_
      obtain ⟨v295, hv295, hf⟩ := hf
      refine zr_lald X hR (r := some ao) dL_law_295 hv295 (fun vv hvv => ?_)
      cases hvv
      refine lv_iload hx hb dL_law_296 (lv_at hl 0 rfl) ?_
      refine lv_i2l hx hb dL_law_298 rfl ?_
      refine W.lcmp hx hb dL_law_299 ?_
      refine lv_if_eq (tgt := 305) hx hb dL_law_300 (by decide) (fun c300 => ?_) (fun c300 => ?_)
      · replace hf := hf.1 c300
        refine lv_goto (tgt := 3298) hx hb dL_law_305 (by decide) ?_
        exact hK _ _ hf hR (lv_sub hl [2, 3, 4, 5, 6, 7] rfl)
      · replace hf := hf.2 c300
        refine lv_iconst (v := (0 : Int32)) hx hb dL_law_303 (by decide) ?_
        exact hf.elim
  · replace hf := hf.2 c283
    refine lv_iconst (v := (0 : Int32)) hx hb dL_law_286 (by decide) ?_
    exact hf.elim
set_option maxHeartbeats 4000000 in
set_option maxRecDepth 100000 in
theorem lc_1 {D : va_G} {dA : Nat → ClassId} {base t0 : Nat} {l : Launch} {p : Program} {e : Env} {R : Room} {s : State} {m : MethodId} {args : Array Value} {below : List Frame} {meth : Method} {c : Code} {Q : State → Prop} (X : zz_X D dA base t0 "SpringseatLaw" cL_law 9 (some .boolean) l p s m meth c) (hT : l.stackTraces = false) (hN : zz_N s) {b L : Nat} {xs : Nat → Int32} (hX : va_X b L xs s s.heap) (hbl : b < s.heap.size) (hbA : ¬ base ≤ b) (hRf : 13 ≤ R.frames) (hRl : 482 ≤ R.locals) {cs ss : Nat} (hc : cs + 20 ≤ R.cells) (hs : ss + 253 ≤ R.slots) {ax am ao ad : Nat} {i x1 x2 x3 x4 : Int32} (hi1 : vp_in (i + 1) L) (hi2 : vp_in (i + 2) L) (hi3 : vp_in (i + 3) L) (hi4 : vp_in (i + 4) L) (hq1 : xs (i + 1).toNatClampNeg = x1) (hq2 : xs (i + 2).toNatClampNeg = x2) (hq3 : xs (i + 3).toNatClampNeg = x3) (hq4 : xs (i + 4).toNatClampNeg = x4) {K : zz_H → Nat → Prop} (hK : ∀ h n, K h n → ∀ {H : Heap} {locs : List Loc} {ls : Array Slot}, zz_R D dA base h n s H locs → lv_has ls 9 [(5, .int i), (4, .ref ad), (3, .ref ao), (2, .ref am), (1, .ref ax), (0, .ref b)] → W p l e R s m args below meth c H locs (cs + 20) (ss + 253) Q (F0 m 3298 ls [])) {h : zz_H} {n : Nat} {H : Heap} {locs : List Loc} {ls : Array Slot} (hR : zz_R D dA base h n s H locs) (hl : lv_has ls 9 [(5, .int i), (4, .ref ad), (3, .ref ao), (2, .ref am), (1, .ref ax), (0, .ref b)]) (hf : w_1 t0 ax am ao ad x1 x2 x3 x4 h n K) : W p l e R s m args below meth c H locs cs ss Q (F0 m 308 ls []) := by
  have hx := X.1
  have hb := X.2.1
  have hown := X.2.2.2.2.1
  unfold w_1 at hf
  refine lv_aload_n hx hb dL_law_308 rfl (lv_at hl 4 rfl) ?_
  refine lv_aload_n hx hb dL_law_309 rfl (lv_at hl 5 rfl) ?_
  refine lv_iload hx hb dL_law_310 (lv_at hl 0 rfl) ?_
  refine lv_iconst (v := (1 : Int32)) hx hb dL_law_312 (by decide) ?_
  refine lv_iadd hx hb dL_law_313 ?_
  refine zl_ld hx hb hX hbl hbA hR.2 hi1 hq1 dL_law_314 ?_
  refine lv_aload_n hx hb dL_law_315 rfl (lv_at hl 5 rfl) ?_
  refine lv_iload hx hb dL_law_316 (lv_at hl 0 rfl) ?_
  refine lv_iconst (v := (2 : Int32)) hx hb dL_law_318 (by decide) ?_
  refine lv_iadd hx hb dL_law_319 ?_
  refine zl_ld hx hb hX hbl hbA hR.2 hi2 hq2 dL_law_320 ?_
  refine lv_aload_n hx hb dL_law_321 rfl (lv_at hl 2 rfl) ?_
  obtain ⟨v322, h322, m322, hv322, hf⟩ := hf
  refine zl_cS X hN hR hl.1 (As := [.ref ax, .int x1, .int x2, .ref ao]) (rest := []) (mt_L_web hT ax x1 x2 ao h n hv322) mf_L_web.1 mf_L_web.2.1 mf_L_web.2.2 q_573 q_574 ⟨Nat.le_trans (Nat.le_of_ble_eq_true rfl) hRf, Nat.le_trans (Nat.le_of_ble_eq_true rfl) hRl⟩ ⟨Nat.le_trans (Nat.add_le_add_left (Nat.le_of_ble_eq_true rfl) cs) hc, Nat.le_trans (Nat.add_le_add_left (Nat.le_of_ble_eq_true rfl) ss) hs⟩ rfl (Nat.le_of_ble_eq_true rfl) dL_law_322 (fun n322 H locs hn322 hR => ?_)
  replace hf := hf n322 hn322
  refine W.eq (g2 := F0 m 325 ls [.int v322]) rfl ?_
  refine W.widen (k := cs + 20) (n := ss + 253) (Nat.add_le_add_left (Nat.le_of_ble_eq_true rfl) cs) (Nat.add_le_add_left (Nat.le_of_ble_eq_true rfl) ss) ?_
  refine lv_istore (i := 6) (lv' := [(6, .int v322), (5, .int i), (4, .ref ad), (3, .ref ao), (2, .ref am), (1, .ref ax), (0, .ref b)]) hx hb dL_law_325 hl (by decide) rfl (fun ls hl => ?_)
  refine lv_aload_n hx hb dL_law_327 rfl (lv_at hl 4 rfl) ?_
  refine lv_aload_n hx hb dL_law_328 rfl (lv_at hl 6 rfl) ?_
  refine lv_iload hx hb dL_law_329 (lv_at hl 1 rfl) ?_
  refine lv_iconst (v := (1 : Int32)) hx hb dL_law_331 (by decide) ?_
  refine lv_iadd hx hb dL_law_332 ?_
  refine zl_ld hx hb hX hbl hbA hR.2 hi1 hq1 dL_law_333 ?_
  refine lv_aload_n hx hb dL_law_334 rfl (lv_at hl 6 rfl) ?_
  refine lv_iload hx hb dL_law_335 (lv_at hl 1 rfl) ?_
  refine lv_iconst (v := (2 : Int32)) hx hb dL_law_337 (by decide) ?_
  refine lv_iadd hx hb dL_law_338 ?_
  refine zl_ld hx hb hX hbl hbA hR.2 hi2 hq2 dL_law_339 ?_
  obtain ⟨⟨fs340, ho340⟩, hf⟩ := hf
  obtain ⟨v340, h340, hv340, hf⟩ := hf
  refine zr_cV X hR hl.1 (As := [.int x1, .int x2]) (rest := []) (C := RX10) (T := TX10) (N := 34) (mt_X10_web hT am x1 x2 h322 n322 hv340) rfl ho340 mf_X10_web q_1374 q_1375 q_1376 ⟨Nat.le_trans (Nat.le_of_ble_eq_true rfl) hRf, Nat.le_trans (Nat.le_of_ble_eq_true rfl) hRl⟩ ⟨hc, hs⟩ rfl (Nat.le_of_ble_eq_true rfl) dL_law_340 (fun H locs hR => ?_)
  refine W.eq (g2 := F0 m 343 ls [.int v340]) rfl ?_
  refine W.widen (k := cs + 20) (n := ss + 253) (Nat.le_refl _) (Nat.le_refl _) ?_
  refine lv_istore (i := 7) (lv' := [(7, .int v340), (6, .int v322), (5, .int i), (4, .ref ad), (3, .ref ao), (2, .ref am), (1, .ref ax), (0, .ref b)]) hx hb dL_law_343 hl (by decide) rfl (fun ls hl => ?_)
  refine lv_aload_n hx hb dL_law_345 rfl (lv_at hl 5 rfl) ?_
  obtain ⟨⟨fs346, ho346⟩, hf⟩ := hf
  obtain ⟨v346, hv346, hf⟩ := hf
  refine zr_cV X hR hl.1 (As := []) (rest := []) (C := RX10) (T := TX10) (N := 34) (mt_X10_thrown hT am h340 n322 hv346) rfl ho346 mf_X10_thrown q_1359 q_1360 q_1361 ⟨Nat.le_trans (Nat.le_of_ble_eq_true rfl) hRf, Nat.le_trans (Nat.le_of_ble_eq_true rfl) hRl⟩ ⟨hc, hs⟩ rfl (Nat.le_of_ble_eq_true rfl) dL_law_346 (fun H locs hR => ?_)
  refine W.eq (g2 := F0 m 349 ls [.int v346]) rfl ?_
  refine W.widen (k := cs + 20) (n := ss + 253) (Nat.le_refl _) (Nat.le_refl _) ?_
  refine lv_iload hx hb dL_law_349 (lv_at hl 1 rfl) ?_
  refine lv_icmp_eq (tgt := 356) hx hb dL_law_351 (by decide) (fun c351 => ?_) (fun c351 => ?_)
  · replace hf := hf.1 c351
    refine lv_iload hx hb dL_law_356 (lv_at hl 1 rfl) ?_
    refine lv_if_ne (tgt := 373) hx hb dL_law_358 (by decide) (fun c358 => ?_) (fun c358 => ?_)
    · replace hf := hf.2 c358
      refine lv_goto (tgt := 3298) hx hb dL_law_373 (by decide) ?_
      exact hK _ _ hf hR (lv_sub hl [2, 3, 4, 5, 6, 7] rfl)
    · replace hf := hf.1 c358
      refine lv_aload_n hx hb dL_law_361 rfl (lv_at hl 4 rfl) ?_
      refine lv_iconst (v := (0 : Int32)) hx hb dL_law_362 (by decide) ?_
      obtain ⟨v363, hv363, hf⟩ := hf
      refine zr_lald X hR (r := some ao) dL_law_363 hv363 (fun vv hvv => ?_)
      cases hvv
      refine lv_iload hx hb dL_law_364 (lv_at hl 0 rfl) ?_
      refine lv_i2l hx hb dL_law_366 rfl ?_
      refine W.lcmp hx hb dL_law_367 ?_
      refine lv_if_eq (tgt := 373) hx hb dL_law_368 (by decide) (fun c368 => ?_) (fun c368 => ?_)
      · replace hf := hf.1 c368
        refine lv_goto (tgt := 3298) hx hb dL_law_373 (by decide) ?_
        exact hK _ _ hf hR (lv_sub hl [2, 3, 4, 5, 6, 7] rfl)
      · replace hf := hf.2 c368
        refine lv_iconst (v := (0 : Int32)) hx hb dL_law_371 (by decide) ?_
        exact hf.elim
  · replace hf := hf.2 c351
    refine lv_iconst (v := (0 : Int32)) hx hb dL_law_354 (by decide) ?_
    exact hf.elim
set_option maxHeartbeats 4000000 in
set_option maxRecDepth 100000 in
theorem lc_2 {D : va_G} {dA : Nat → ClassId} {base t0 : Nat} {l : Launch} {p : Program} {e : Env} {R : Room} {s : State} {m : MethodId} {args : Array Value} {below : List Frame} {meth : Method} {c : Code} {Q : State → Prop} (X : zz_X D dA base t0 "SpringseatLaw" cL_law 9 (some .boolean) l p s m meth c) (hT : l.stackTraces = false) (hN : zz_N s) {b L : Nat} {xs : Nat → Int32} (hX : va_X b L xs s s.heap) (hbl : b < s.heap.size) (hbA : ¬ base ≤ b) (hRf : 13 ≤ R.frames) (hRl : 482 ≤ R.locals) {cs ss : Nat} (hc : cs + 20 ≤ R.cells) (hs : ss + 253 ≤ R.slots) {ax am ao ad : Nat} {i x1 x2 x3 x4 : Int32} (hi1 : vp_in (i + 1) L) (hi2 : vp_in (i + 2) L) (hi3 : vp_in (i + 3) L) (hi4 : vp_in (i + 4) L) (hq1 : xs (i + 1).toNatClampNeg = x1) (hq2 : xs (i + 2).toNatClampNeg = x2) (hq3 : xs (i + 3).toNatClampNeg = x3) (hq4 : xs (i + 4).toNatClampNeg = x4) {K : zz_H → Nat → Prop} (hK : ∀ h n, K h n → ∀ {H : Heap} {locs : List Loc} {ls : Array Slot}, zz_R D dA base h n s H locs → lv_has ls 9 [(5, .int i), (4, .ref ad), (3, .ref ao), (2, .ref am), (1, .ref ax), (0, .ref b)] → W p l e R s m args below meth c H locs (cs + 20) (ss + 253) Q (F0 m 3298 ls [])) {h : zz_H} {n : Nat} {H : Heap} {locs : List Loc} {ls : Array Slot} (hR : zz_R D dA base h n s H locs) (hl : lv_has ls 9 [(5, .int i), (4, .ref ad), (3, .ref ao), (2, .ref am), (1, .ref ax), (0, .ref b)]) (hf : w_2 t0 ax am ao ad x1 x2 x3 x4 h n K) : W p l e R s m args below meth c H locs cs ss Q (F0 m 376 ls []) := by
  have hx := X.1
  have hb := X.2.1
  have hown := X.2.2.2.2.1
  unfold w_2 at hf
  refine lv_aload_n hx hb dL_law_376 rfl (lv_at hl 4 rfl) ?_
  refine lv_aload_n hx hb dL_law_377 rfl (lv_at hl 5 rfl) ?_
  refine lv_iload hx hb dL_law_378 (lv_at hl 0 rfl) ?_
  refine lv_iconst (v := (1 : Int32)) hx hb dL_law_380 (by decide) ?_
  refine lv_iadd hx hb dL_law_381 ?_
  refine zl_ld hx hb hX hbl hbA hR.2 hi1 hq1 dL_law_382 ?_
  refine lv_aload_n hx hb dL_law_383 rfl (lv_at hl 5 rfl) ?_
  refine lv_iload hx hb dL_law_384 (lv_at hl 0 rfl) ?_
  refine lv_iconst (v := (2 : Int32)) hx hb dL_law_386 (by decide) ?_
  refine lv_iadd hx hb dL_law_387 ?_
  refine zl_ld hx hb hX hbl hbA hR.2 hi2 hq2 dL_law_388 ?_
  refine lv_aload_n hx hb dL_law_389 rfl (lv_at hl 5 rfl) ?_
  refine lv_iload hx hb dL_law_390 (lv_at hl 0 rfl) ?_
  refine lv_iconst (v := (3 : Int32)) hx hb dL_law_392 (by decide) ?_
  refine lv_iadd hx hb dL_law_393 ?_
  refine zl_ld hx hb hX hbl hbA hR.2 hi3 hq3 dL_law_394 ?_
  refine lv_aload_n hx hb dL_law_395 rfl (lv_at hl 2 rfl) ?_
  obtain ⟨v396, h396, m396, hv396, hf⟩ := hf
  refine zl_cS X hN hR hl.1 (As := [.ref ax, .int x1, .int x2, .int x3, .ref ao]) (rest := []) (mt_L_spring hT ax x1 x2 x3 ao h n hv396) mf_L_spring.1 mf_L_spring.2.1 mf_L_spring.2.2 q_636 q_637 ⟨Nat.le_trans (Nat.le_of_ble_eq_true rfl) hRf, Nat.le_trans (Nat.le_of_ble_eq_true rfl) hRl⟩ ⟨Nat.le_trans (Nat.add_le_add_left (Nat.le_of_ble_eq_true rfl) cs) hc, Nat.le_trans (Nat.add_le_add_left (Nat.le_of_ble_eq_true rfl) ss) hs⟩ rfl (Nat.le_of_ble_eq_true rfl) dL_law_396 (fun n396 H locs hn396 hR => ?_)
  replace hf := hf n396 hn396
  refine W.eq (g2 := F0 m 399 ls [.int v396]) rfl ?_
  refine W.widen (k := cs + 20) (n := ss + 253) (Nat.add_le_add_left (Nat.le_of_ble_eq_true rfl) cs) (Nat.add_le_add_left (Nat.le_of_ble_eq_true rfl) ss) ?_
  refine lv_istore (i := 6) (lv' := [(6, .int v396), (5, .int i), (4, .ref ad), (3, .ref ao), (2, .ref am), (1, .ref ax), (0, .ref b)]) hx hb dL_law_399 hl (by decide) rfl (fun ls hl => ?_)
  refine lv_aload_n hx hb dL_law_401 rfl (lv_at hl 4 rfl) ?_
  refine lv_aload_n hx hb dL_law_402 rfl (lv_at hl 6 rfl) ?_
  refine lv_iload hx hb dL_law_403 (lv_at hl 1 rfl) ?_
  refine lv_iconst (v := (1 : Int32)) hx hb dL_law_405 (by decide) ?_
  refine lv_iadd hx hb dL_law_406 ?_
  refine zl_ld hx hb hX hbl hbA hR.2 hi1 hq1 dL_law_407 ?_
  refine lv_aload_n hx hb dL_law_408 rfl (lv_at hl 6 rfl) ?_
  refine lv_iload hx hb dL_law_409 (lv_at hl 1 rfl) ?_
  refine lv_iconst (v := (2 : Int32)) hx hb dL_law_411 (by decide) ?_
  refine lv_iadd hx hb dL_law_412 ?_
  refine zl_ld hx hb hX hbl hbA hR.2 hi2 hq2 dL_law_413 ?_
  refine lv_aload_n hx hb dL_law_414 rfl (lv_at hl 6 rfl) ?_
  refine lv_iload hx hb dL_law_415 (lv_at hl 1 rfl) ?_
  refine lv_iconst (v := (3 : Int32)) hx hb dL_law_417 (by decide) ?_
  refine lv_iadd hx hb dL_law_418 ?_
  refine zl_ld hx hb hX hbl hbA hR.2 hi3 hq3 dL_law_419 ?_
  obtain ⟨⟨fs420, ho420⟩, hf⟩ := hf
  obtain ⟨v420, h420, hv420, hf⟩ := hf
  refine zr_cV X hR hl.1 (As := [.int x1, .int x2, .int x3]) (rest := []) (C := RX10) (T := TX10) (N := 34) (mt_X10_spring hT am x1 x2 x3 h396 n396 hv420) rfl ho420 mf_X10_spring q_1398 q_1399 q_1400 ⟨Nat.le_trans (Nat.le_of_ble_eq_true rfl) hRf, Nat.le_trans (Nat.le_of_ble_eq_true rfl) hRl⟩ ⟨hc, hs⟩ rfl (Nat.le_of_ble_eq_true rfl) dL_law_420 (fun H locs hR => ?_)
  refine W.eq (g2 := F0 m 423 ls [.int v420]) rfl ?_
  refine W.widen (k := cs + 20) (n := ss + 253) (Nat.le_refl _) (Nat.le_refl _) ?_
  refine lv_istore (i := 7) (lv' := [(7, .int v420), (6, .int v396), (5, .int i), (4, .ref ad), (3, .ref ao), (2, .ref am), (1, .ref ax), (0, .ref b)]) hx hb dL_law_423 hl (by decide) rfl (fun ls hl => ?_)
  refine lv_aload_n hx hb dL_law_425 rfl (lv_at hl 5 rfl) ?_
  obtain ⟨⟨fs426, ho426⟩, hf⟩ := hf
  obtain ⟨v426, hv426, hf⟩ := hf
  refine zr_cV X hR hl.1 (As := []) (rest := []) (C := RX10) (T := TX10) (N := 34) (mt_X10_thrown hT am h420 n396 hv426) rfl ho426 mf_X10_thrown q_1359 q_1360 q_1361 ⟨Nat.le_trans (Nat.le_of_ble_eq_true rfl) hRf, Nat.le_trans (Nat.le_of_ble_eq_true rfl) hRl⟩ ⟨hc, hs⟩ rfl (Nat.le_of_ble_eq_true rfl) dL_law_426 (fun H locs hR => ?_)
  refine W.eq (g2 := F0 m 429 ls [.int v426]) rfl ?_
  refine W.widen (k := cs + 20) (n := ss + 253) (Nat.le_refl _) (Nat.le_refl _) ?_
  refine lv_iload hx hb dL_law_429 (lv_at hl 1 rfl) ?_
  refine lv_icmp_eq (tgt := 436) hx hb dL_law_431 (by decide) (fun c431 => ?_) (fun c431 => ?_)
  · replace hf := hf.1 c431
    refine lv_iload hx hb dL_law_436 (lv_at hl 1 rfl) ?_
    refine lv_if_ne (tgt := 453) hx hb dL_law_438 (by decide) (fun c438 => ?_) (fun c438 => ?_)
    · replace hf := hf.2 c438
      refine lv_goto (tgt := 3298) hx hb dL_law_453 (by decide) ?_
      exact hK _ _ hf hR (lv_sub hl [2, 3, 4, 5, 6, 7] rfl)
    · replace hf := hf.1 c438
      refine lv_aload_n hx hb dL_law_441 rfl (lv_at hl 4 rfl) ?_
      refine lv_iconst (v := (0 : Int32)) hx hb dL_law_442 (by decide) ?_
      obtain ⟨v443, hv443, hf⟩ := hf
      refine zr_lald X hR (r := some ao) dL_law_443 hv443 (fun vv hvv => ?_)
      cases hvv
      refine lv_iload hx hb dL_law_444 (lv_at hl 0 rfl) ?_
      refine lv_i2l hx hb dL_law_446 rfl ?_
      refine W.lcmp hx hb dL_law_447 ?_
      refine lv_if_eq (tgt := 453) hx hb dL_law_448 (by decide) (fun c448 => ?_) (fun c448 => ?_)
      · replace hf := hf.1 c448
        refine lv_goto (tgt := 3298) hx hb dL_law_453 (by decide) ?_
        exact hK _ _ hf hR (lv_sub hl [2, 3, 4, 5, 6, 7] rfl)
      · replace hf := hf.2 c448
        refine lv_iconst (v := (0 : Int32)) hx hb dL_law_451 (by decide) ?_
        exact hf.elim
  · replace hf := hf.2 c431
    refine lv_iconst (v := (0 : Int32)) hx hb dL_law_434 (by decide) ?_
    exact hf.elim
set_option maxHeartbeats 4000000 in
set_option maxRecDepth 100000 in
theorem lc_3 {D : va_G} {dA : Nat → ClassId} {base t0 : Nat} {l : Launch} {p : Program} {e : Env} {R : Room} {s : State} {m : MethodId} {args : Array Value} {below : List Frame} {meth : Method} {c : Code} {Q : State → Prop} (X : zz_X D dA base t0 "SpringseatLaw" cL_law 9 (some .boolean) l p s m meth c) (hT : l.stackTraces = false) (hN : zz_N s) {b L : Nat} {xs : Nat → Int32} (hX : va_X b L xs s s.heap) (hbl : b < s.heap.size) (hbA : ¬ base ≤ b) (hRf : 13 ≤ R.frames) (hRl : 482 ≤ R.locals) {cs ss : Nat} (hc : cs + 20 ≤ R.cells) (hs : ss + 253 ≤ R.slots) {ax am ao ad : Nat} {i x1 x2 x3 x4 : Int32} (hi1 : vp_in (i + 1) L) (hi2 : vp_in (i + 2) L) (hi3 : vp_in (i + 3) L) (hi4 : vp_in (i + 4) L) (hq1 : xs (i + 1).toNatClampNeg = x1) (hq2 : xs (i + 2).toNatClampNeg = x2) (hq3 : xs (i + 3).toNatClampNeg = x3) (hq4 : xs (i + 4).toNatClampNeg = x4) {K : zz_H → Nat → Prop} (hK : ∀ h n, K h n → ∀ {H : Heap} {locs : List Loc} {ls : Array Slot}, zz_R D dA base h n s H locs → lv_has ls 9 [(5, .int i), (4, .ref ad), (3, .ref ao), (2, .ref am), (1, .ref ax), (0, .ref b)] → W p l e R s m args below meth c H locs (cs + 20) (ss + 253) Q (F0 m 3298 ls [])) {h : zz_H} {n : Nat} {H : Heap} {locs : List Loc} {ls : Array Slot} (hR : zz_R D dA base h n s H locs) (hl : lv_has ls 9 [(5, .int i), (4, .ref ad), (3, .ref ao), (2, .ref am), (1, .ref ax), (0, .ref b)]) (hf : w_3 t0 ax am ao ad x1 x2 x3 x4 h n K) : W p l e R s m args below meth c H locs cs ss Q (F0 m 456 ls []) := by
  have hx := X.1
  have hb := X.2.1
  have hown := X.2.2.2.2.1
  unfold w_3 at hf
  refine lv_aload_n hx hb dL_law_456 rfl (lv_at hl 4 rfl) ?_
  refine lv_aload_n hx hb dL_law_457 rfl (lv_at hl 5 rfl) ?_
  refine lv_iload hx hb dL_law_458 (lv_at hl 0 rfl) ?_
  refine lv_iconst (v := (1 : Int32)) hx hb dL_law_460 (by decide) ?_
  refine lv_iadd hx hb dL_law_461 ?_
  refine zl_ld hx hb hX hbl hbA hR.2 hi1 hq1 dL_law_462 ?_
  refine lv_aload_n hx hb dL_law_463 rfl (lv_at hl 5 rfl) ?_
  refine lv_iload hx hb dL_law_464 (lv_at hl 0 rfl) ?_
  refine lv_iconst (v := (2 : Int32)) hx hb dL_law_466 (by decide) ?_
  refine lv_iadd hx hb dL_law_467 ?_
  refine zl_ld hx hb hX hbl hbA hR.2 hi2 hq2 dL_law_468 ?_
  refine lv_aload_n hx hb dL_law_469 rfl (lv_at hl 5 rfl) ?_
  refine lv_iload hx hb dL_law_470 (lv_at hl 0 rfl) ?_
  refine lv_iconst (v := (3 : Int32)) hx hb dL_law_472 (by decide) ?_
  refine lv_iadd hx hb dL_law_473 ?_
  refine zl_ld hx hb hX hbl hbA hR.2 hi3 hq3 dL_law_474 ?_
  refine lv_aload_n hx hb dL_law_475 rfl (lv_at hl 5 rfl) ?_
  refine lv_iload hx hb dL_law_476 (lv_at hl 0 rfl) ?_
  refine lv_iconst (v := (4 : Int32)) hx hb dL_law_478 (by decide) ?_
  refine lv_iadd hx hb dL_law_479 ?_
  refine zl_ld hx hb hX hbl hbA hR.2 hi4 hq4 dL_law_480 ?_
  refine lv_aload_n hx hb dL_law_481 rfl (lv_at hl 2 rfl) ?_
  obtain ⟨v482, h482, m482, hv482, hf⟩ := hf
  refine zl_cS X hN hR hl.1 (As := [.ref ax, .int x1, .int x2, .int x3, .int x4, .ref ao]) (rest := []) (mt_L_change hT ax x1 x2 x3 x4 ao h n hv482) mf_L_change.1 mf_L_change.2.1 mf_L_change.2.2 q_654 q_655 ⟨Nat.le_trans (Nat.le_of_ble_eq_true rfl) hRf, Nat.le_trans (Nat.le_of_ble_eq_true rfl) hRl⟩ ⟨Nat.le_trans (Nat.add_le_add_left (Nat.le_of_ble_eq_true rfl) cs) hc, Nat.le_trans (Nat.add_le_add_left (Nat.le_of_ble_eq_true rfl) ss) hs⟩ rfl (Nat.le_of_ble_eq_true rfl) dL_law_482 (fun n482 H locs hn482 hR => ?_)
  replace hf := hf n482 hn482
  refine W.eq (g2 := F0 m 485 ls [.int v482]) rfl ?_
  refine W.widen (k := cs + 20) (n := ss + 253) (Nat.add_le_add_left (Nat.le_of_ble_eq_true rfl) cs) (Nat.add_le_add_left (Nat.le_of_ble_eq_true rfl) ss) ?_
  refine lv_istore (i := 6) (lv' := [(6, .int v482), (5, .int i), (4, .ref ad), (3, .ref ao), (2, .ref am), (1, .ref ax), (0, .ref b)]) hx hb dL_law_485 hl (by decide) rfl (fun ls hl => ?_)
  refine lv_aload_n hx hb dL_law_487 rfl (lv_at hl 4 rfl) ?_
  refine lv_aload_n hx hb dL_law_488 rfl (lv_at hl 6 rfl) ?_
  refine lv_iload hx hb dL_law_489 (lv_at hl 1 rfl) ?_
  refine lv_iconst (v := (1 : Int32)) hx hb dL_law_491 (by decide) ?_
  refine lv_iadd hx hb dL_law_492 ?_
  refine zl_ld hx hb hX hbl hbA hR.2 hi1 hq1 dL_law_493 ?_
  refine lv_aload_n hx hb dL_law_494 rfl (lv_at hl 6 rfl) ?_
  refine lv_iload hx hb dL_law_495 (lv_at hl 1 rfl) ?_
  refine lv_iconst (v := (2 : Int32)) hx hb dL_law_497 (by decide) ?_
  refine lv_iadd hx hb dL_law_498 ?_
  refine zl_ld hx hb hX hbl hbA hR.2 hi2 hq2 dL_law_499 ?_
  refine lv_aload_n hx hb dL_law_500 rfl (lv_at hl 6 rfl) ?_
  refine lv_iload hx hb dL_law_501 (lv_at hl 1 rfl) ?_
  refine lv_iconst (v := (3 : Int32)) hx hb dL_law_503 (by decide) ?_
  refine lv_iadd hx hb dL_law_504 ?_
  refine zl_ld hx hb hX hbl hbA hR.2 hi3 hq3 dL_law_505 ?_
  refine lv_aload_n hx hb dL_law_506 rfl (lv_at hl 6 rfl) ?_
  refine lv_iload hx hb dL_law_507 (lv_at hl 1 rfl) ?_
  refine lv_iconst (v := (4 : Int32)) hx hb dL_law_509 (by decide) ?_
  refine lv_iadd hx hb dL_law_510 ?_
  refine zl_ld hx hb hX hbl hbA hR.2 hi4 hq4 dL_law_511 ?_
  obtain ⟨⟨fs512, ho512⟩, hf⟩ := hf
  obtain ⟨v512, h512, hv512, hf⟩ := hf
  refine zr_cV X hR hl.1 (As := [.int x1, .int x2, .int x3, .int x4]) (rest := []) (C := RX10) (T := TX10) (N := 34) (mt_X10_change hT am x1 x2 x3 x4 h482 n482 hv512) rfl ho512 mf_X10_change q_1409 q_1410 q_1411 ⟨Nat.le_trans (Nat.le_of_ble_eq_true rfl) hRf, Nat.le_trans (Nat.le_of_ble_eq_true rfl) hRl⟩ ⟨hc, hs⟩ rfl (Nat.le_of_ble_eq_true rfl) dL_law_512 (fun H locs hR => ?_)
  refine W.eq (g2 := F0 m 515 ls [.int v512]) rfl ?_
  refine W.widen (k := cs + 20) (n := ss + 253) (Nat.le_refl _) (Nat.le_refl _) ?_
  refine lv_istore (i := 7) (lv' := [(7, .int v512), (6, .int v482), (5, .int i), (4, .ref ad), (3, .ref ao), (2, .ref am), (1, .ref ax), (0, .ref b)]) hx hb dL_law_515 hl (by decide) rfl (fun ls hl => ?_)
  refine lv_aload_n hx hb dL_law_517 rfl (lv_at hl 5 rfl) ?_
  obtain ⟨⟨fs518, ho518⟩, hf⟩ := hf
  obtain ⟨v518, hv518, hf⟩ := hf
  refine zr_cV X hR hl.1 (As := []) (rest := []) (C := RX10) (T := TX10) (N := 34) (mt_X10_thrown hT am h512 n482 hv518) rfl ho518 mf_X10_thrown q_1359 q_1360 q_1361 ⟨Nat.le_trans (Nat.le_of_ble_eq_true rfl) hRf, Nat.le_trans (Nat.le_of_ble_eq_true rfl) hRl⟩ ⟨hc, hs⟩ rfl (Nat.le_of_ble_eq_true rfl) dL_law_518 (fun H locs hR => ?_)
  refine W.eq (g2 := F0 m 521 ls [.int v518]) rfl ?_
  refine W.widen (k := cs + 20) (n := ss + 253) (Nat.le_refl _) (Nat.le_refl _) ?_
  refine lv_iload hx hb dL_law_521 (lv_at hl 1 rfl) ?_
  refine lv_icmp_eq (tgt := 528) hx hb dL_law_523 (by decide) (fun c523 => ?_) (fun c523 => ?_)
  · replace hf := hf.1 c523
    refine lv_iload hx hb dL_law_528 (lv_at hl 1 rfl) ?_
    refine lv_if_ne (tgt := 545) hx hb dL_law_530 (by decide) (fun c530 => ?_) (fun c530 => ?_)
    · replace hf := hf.2 c530
      refine lv_goto (tgt := 3298) hx hb dL_law_545 (by decide) ?_
      exact hK _ _ hf hR (lv_sub hl [2, 3, 4, 5, 6, 7] rfl)
    · replace hf := hf.1 c530
      refine lv_aload_n hx hb dL_law_533 rfl (lv_at hl 4 rfl) ?_
      refine lv_iconst (v := (0 : Int32)) hx hb dL_law_534 (by decide) ?_
      obtain ⟨v535, hv535, hf⟩ := hf
      refine zr_lald X hR (r := some ao) dL_law_535 hv535 (fun vv hvv => ?_)
      cases hvv
      refine lv_iload hx hb dL_law_536 (lv_at hl 0 rfl) ?_
      refine lv_i2l hx hb dL_law_538 rfl ?_
      refine W.lcmp hx hb dL_law_539 ?_
      refine lv_if_eq (tgt := 545) hx hb dL_law_540 (by decide) (fun c540 => ?_) (fun c540 => ?_)
      · replace hf := hf.1 c540
        refine lv_goto (tgt := 3298) hx hb dL_law_545 (by decide) ?_
        exact hK _ _ hf hR (lv_sub hl [2, 3, 4, 5, 6, 7] rfl)
      · replace hf := hf.2 c540
        refine lv_iconst (v := (0 : Int32)) hx hb dL_law_543 (by decide) ?_
        exact hf.elim
  · replace hf := hf.2 c523
    refine lv_iconst (v := (0 : Int32)) hx hb dL_law_526 (by decide) ?_
    exact hf.elim
set_option maxHeartbeats 4000000 in
set_option maxRecDepth 100000 in
theorem lc_4 {D : va_G} {dA : Nat → ClassId} {base t0 : Nat} {l : Launch} {p : Program} {e : Env} {R : Room} {s : State} {m : MethodId} {args : Array Value} {below : List Frame} {meth : Method} {c : Code} {Q : State → Prop} (X : zz_X D dA base t0 "SpringseatLaw" cL_law 9 (some .boolean) l p s m meth c) (hT : l.stackTraces = false) (hN : zz_N s) {b L : Nat} {xs : Nat → Int32} (hX : va_X b L xs s s.heap) (hbl : b < s.heap.size) (hbA : ¬ base ≤ b) (hRf : 13 ≤ R.frames) (hRl : 482 ≤ R.locals) {cs ss : Nat} (hc : cs + 20 ≤ R.cells) (hs : ss + 253 ≤ R.slots) {ax am ao ad : Nat} {i x1 x2 x3 x4 : Int32} (hi1 : vp_in (i + 1) L) (hi2 : vp_in (i + 2) L) (hi3 : vp_in (i + 3) L) (hi4 : vp_in (i + 4) L) (hq1 : xs (i + 1).toNatClampNeg = x1) (hq2 : xs (i + 2).toNatClampNeg = x2) (hq3 : xs (i + 3).toNatClampNeg = x3) (hq4 : xs (i + 4).toNatClampNeg = x4) {K : zz_H → Nat → Prop} (hK : ∀ h n, K h n → ∀ {H : Heap} {locs : List Loc} {ls : Array Slot}, zz_R D dA base h n s H locs → lv_has ls 9 [(5, .int i), (4, .ref ad), (3, .ref ao), (2, .ref am), (1, .ref ax), (0, .ref b)] → W p l e R s m args below meth c H locs (cs + 20) (ss + 253) Q (F0 m 3298 ls [])) {h : zz_H} {n : Nat} {H : Heap} {locs : List Loc} {ls : Array Slot} (hR : zz_R D dA base h n s H locs) (hl : lv_has ls 9 [(5, .int i), (4, .ref ad), (3, .ref ao), (2, .ref am), (1, .ref ax), (0, .ref b)]) (hf : w_4 t0 ax am ao ad x1 x2 x3 x4 h n K) : W p l e R s m args below meth c H locs cs ss Q (F0 m 548 ls []) := by
  have hx := X.1
  have hb := X.2.1
  have hown := X.2.2.2.2.1
  unfold w_4 at hf
  refine lv_aload_n hx hb dL_law_548 rfl (lv_at hl 4 rfl) ?_
  refine lv_aload_n hx hb dL_law_549 rfl (lv_at hl 5 rfl) ?_
  refine lv_iload hx hb dL_law_550 (lv_at hl 0 rfl) ?_
  refine lv_iconst (v := (1 : Int32)) hx hb dL_law_552 (by decide) ?_
  refine lv_iadd hx hb dL_law_553 ?_
  refine zl_ld hx hb hX hbl hbA hR.2 hi1 hq1 dL_law_554 ?_
  refine lv_aload_n hx hb dL_law_555 rfl (lv_at hl 2 rfl) ?_
  obtain ⟨v556, h556, m556, hv556, hf⟩ := hf
  refine zl_cS X hN hR hl.1 (As := [.ref ax, .int x1, .ref ao]) (rest := []) (mt_L_tie hT ax x1 ao h n hv556) mf_L_tie.1 mf_L_tie.2.1 mf_L_tie.2.2 q_678 q_679 ⟨Nat.le_trans (Nat.le_of_ble_eq_true rfl) hRf, Nat.le_trans (Nat.le_of_ble_eq_true rfl) hRl⟩ ⟨Nat.le_trans (Nat.add_le_add_left (Nat.le_of_ble_eq_true rfl) cs) hc, Nat.le_trans (Nat.add_le_add_left (Nat.le_of_ble_eq_true rfl) ss) hs⟩ rfl (Nat.le_of_ble_eq_true rfl) dL_law_556 (fun n556 H locs hn556 hR => ?_)
  replace hf := hf n556 hn556
  refine W.eq (g2 := F0 m 559 ls [.int v556]) rfl ?_
  refine W.widen (k := cs + 20) (n := ss + 253) (Nat.add_le_add_left (Nat.le_of_ble_eq_true rfl) cs) (Nat.add_le_add_left (Nat.le_of_ble_eq_true rfl) ss) ?_
  refine lv_istore (i := 6) (lv' := [(6, .int v556), (5, .int i), (4, .ref ad), (3, .ref ao), (2, .ref am), (1, .ref ax), (0, .ref b)]) hx hb dL_law_559 hl (by decide) rfl (fun ls hl => ?_)
  refine lv_aload_n hx hb dL_law_561 rfl (lv_at hl 4 rfl) ?_
  refine lv_aload_n hx hb dL_law_562 rfl (lv_at hl 6 rfl) ?_
  refine lv_iload hx hb dL_law_563 (lv_at hl 1 rfl) ?_
  refine lv_iconst (v := (1 : Int32)) hx hb dL_law_565 (by decide) ?_
  refine lv_iadd hx hb dL_law_566 ?_
  refine zl_ld hx hb hX hbl hbA hR.2 hi1 hq1 dL_law_567 ?_
  obtain ⟨⟨fs568, ho568⟩, hf⟩ := hf
  obtain ⟨v568, h568, hv568, hf⟩ := hf
  refine zr_cV X hR hl.1 (As := [.int x1]) (rest := []) (C := RX10) (T := TX10) (N := 34) (mt_X10_tie hT am x1 h556 n556 hv568) rfl ho568 mf_X10_tie q_1421 q_1422 q_1423 ⟨Nat.le_trans (Nat.le_of_ble_eq_true rfl) hRf, Nat.le_trans (Nat.le_of_ble_eq_true rfl) hRl⟩ ⟨hc, hs⟩ rfl (Nat.le_of_ble_eq_true rfl) dL_law_568 (fun H locs hR => ?_)
  refine W.eq (g2 := F0 m 571 ls [.int v568]) rfl ?_
  refine W.widen (k := cs + 20) (n := ss + 253) (Nat.le_refl _) (Nat.le_refl _) ?_
  refine lv_istore (i := 7) (lv' := [(7, .int v568), (6, .int v556), (5, .int i), (4, .ref ad), (3, .ref ao), (2, .ref am), (1, .ref ax), (0, .ref b)]) hx hb dL_law_571 hl (by decide) rfl (fun ls hl => ?_)
  refine lv_aload_n hx hb dL_law_573 rfl (lv_at hl 5 rfl) ?_
  obtain ⟨⟨fs574, ho574⟩, hf⟩ := hf
  obtain ⟨v574, hv574, hf⟩ := hf
  refine zr_cV X hR hl.1 (As := []) (rest := []) (C := RX10) (T := TX10) (N := 34) (mt_X10_thrown hT am h568 n556 hv574) rfl ho574 mf_X10_thrown q_1359 q_1360 q_1361 ⟨Nat.le_trans (Nat.le_of_ble_eq_true rfl) hRf, Nat.le_trans (Nat.le_of_ble_eq_true rfl) hRl⟩ ⟨hc, hs⟩ rfl (Nat.le_of_ble_eq_true rfl) dL_law_574 (fun H locs hR => ?_)
  refine W.eq (g2 := F0 m 577 ls [.int v574]) rfl ?_
  refine W.widen (k := cs + 20) (n := ss + 253) (Nat.le_refl _) (Nat.le_refl _) ?_
  refine lv_iload hx hb dL_law_577 (lv_at hl 1 rfl) ?_
  refine lv_icmp_eq (tgt := 584) hx hb dL_law_579 (by decide) (fun c579 => ?_) (fun c579 => ?_)
  · replace hf := hf.1 c579
    refine lv_iload hx hb dL_law_584 (lv_at hl 1 rfl) ?_
    refine lv_if_ne (tgt := 601) hx hb dL_law_586 (by decide) (fun c586 => ?_) (fun c586 => ?_)
    · replace hf := hf.2 c586
      refine lv_goto (tgt := 3298) hx hb dL_law_601 (by decide) ?_
      exact hK _ _ hf hR (lv_sub hl [2, 3, 4, 5, 6, 7] rfl)
    · replace hf := hf.1 c586
      refine lv_aload_n hx hb dL_law_589 rfl (lv_at hl 4 rfl) ?_
      refine lv_iconst (v := (0 : Int32)) hx hb dL_law_590 (by decide) ?_
      obtain ⟨v591, hv591, hf⟩ := hf
      refine zr_lald X hR (r := some ao) dL_law_591 hv591 (fun vv hvv => ?_)
      cases hvv
      refine lv_iload hx hb dL_law_592 (lv_at hl 0 rfl) ?_
      refine lv_i2l hx hb dL_law_594 rfl ?_
      refine W.lcmp hx hb dL_law_595 ?_
      refine lv_if_eq (tgt := 601) hx hb dL_law_596 (by decide) (fun c596 => ?_) (fun c596 => ?_)
      · replace hf := hf.1 c596
        refine lv_goto (tgt := 3298) hx hb dL_law_601 (by decide) ?_
        exact hK _ _ hf hR (lv_sub hl [2, 3, 4, 5, 6, 7] rfl)
      · replace hf := hf.2 c596
        refine lv_iconst (v := (0 : Int32)) hx hb dL_law_599 (by decide) ?_
        exact hf.elim
  · replace hf := hf.2 c579
    refine lv_iconst (v := (0 : Int32)) hx hb dL_law_582 (by decide) ?_
    exact hf.elim
set_option maxHeartbeats 4000000 in
set_option maxRecDepth 100000 in
theorem lc_5 {D : va_G} {dA : Nat → ClassId} {base t0 : Nat} {l : Launch} {p : Program} {e : Env} {R : Room} {s : State} {m : MethodId} {args : Array Value} {below : List Frame} {meth : Method} {c : Code} {Q : State → Prop} (X : zz_X D dA base t0 "SpringseatLaw" cL_law 9 (some .boolean) l p s m meth c) (hT : l.stackTraces = false) (hN : zz_N s) {b L : Nat} {xs : Nat → Int32} (hX : va_X b L xs s s.heap) (hbl : b < s.heap.size) (hbA : ¬ base ≤ b) (hRf : 13 ≤ R.frames) (hRl : 482 ≤ R.locals) {cs ss : Nat} (hc : cs + 20 ≤ R.cells) (hs : ss + 253 ≤ R.slots) {ax am ao ad : Nat} {i x1 x2 x3 x4 : Int32} (hi1 : vp_in (i + 1) L) (hi2 : vp_in (i + 2) L) (hi3 : vp_in (i + 3) L) (hi4 : vp_in (i + 4) L) (hq1 : xs (i + 1).toNatClampNeg = x1) (hq2 : xs (i + 2).toNatClampNeg = x2) (hq3 : xs (i + 3).toNatClampNeg = x3) (hq4 : xs (i + 4).toNatClampNeg = x4) {K : zz_H → Nat → Prop} (hK : ∀ h n, K h n → ∀ {H : Heap} {locs : List Loc} {ls : Array Slot}, zz_R D dA base h n s H locs → lv_has ls 9 [(5, .int i), (4, .ref ad), (3, .ref ao), (2, .ref am), (1, .ref ax), (0, .ref b)] → W p l e R s m args below meth c H locs (cs + 20) (ss + 253) Q (F0 m 3298 ls [])) {h : zz_H} {n : Nat} {H : Heap} {locs : List Loc} {ls : Array Slot} (hR : zz_R D dA base h n s H locs) (hl : lv_has ls 9 [(5, .int i), (4, .ref ad), (3, .ref ao), (2, .ref am), (1, .ref ax), (0, .ref b)]) (hf : w_5 t0 ax am ao ad x1 x2 x3 x4 h n K) : W p l e R s m args below meth c H locs cs ss Q (F0 m 604 ls []) := by
  have hx := X.1
  have hb := X.2.1
  have hown := X.2.2.2.2.1
  unfold w_5 at hf
  refine lv_aload_n hx hb dL_law_604 rfl (lv_at hl 4 rfl) ?_
  refine lv_aload_n hx hb dL_law_605 rfl (lv_at hl 5 rfl) ?_
  refine lv_iload hx hb dL_law_606 (lv_at hl 0 rfl) ?_
  refine lv_iconst (v := (1 : Int32)) hx hb dL_law_608 (by decide) ?_
  refine lv_iadd hx hb dL_law_609 ?_
  refine zl_ld hx hb hX hbl hbA hR.2 hi1 hq1 dL_law_610 ?_
  refine lv_aload_n hx hb dL_law_611 rfl (lv_at hl 5 rfl) ?_
  refine lv_iload hx hb dL_law_612 (lv_at hl 0 rfl) ?_
  refine lv_iconst (v := (2 : Int32)) hx hb dL_law_614 (by decide) ?_
  refine lv_iadd hx hb dL_law_615 ?_
  refine zl_ld hx hb hX hbl hbA hR.2 hi2 hq2 dL_law_616 ?_
  refine lv_if_eq (tgt := 624) hx hb dL_law_617 (by decide) (fun c617 => ?_) (fun c617 => ?_)
  · replace hf := hf.1 c617
    refine lv_iconst (v := (0 : Int32)) hx hb dL_law_624 (by decide) ?_
    refine lv_aload_n hx hb dL_law_625 rfl (lv_at hl 5 rfl) ?_
    refine lv_iload hx hb dL_law_626 (lv_at hl 0 rfl) ?_
    refine lv_iconst (v := (3 : Int32)) hx hb dL_law_628 (by decide) ?_
    refine lv_iadd hx hb dL_law_629 ?_
    refine zl_ld hx hb hX hbl hbA hR.2 hi3 hq3 dL_law_630 ?_
    refine lv_aload_n hx hb dL_law_631 rfl (lv_at hl 5 rfl) ?_
    refine lv_iload hx hb dL_law_632 (lv_at hl 0 rfl) ?_
    refine lv_iconst (v := (4 : Int32)) hx hb dL_law_634 (by decide) ?_
    refine lv_iadd hx hb dL_law_635 ?_
    refine zl_ld hx hb hX hbl hbA hR.2 hi4 hq4 dL_law_636 ?_
    refine lv_aload_n hx hb dL_law_637 rfl (lv_at hl 2 rfl) ?_
    obtain ⟨v638, h638, m638, hv638, hf⟩ := hf
    refine zl_cS X hN hR hl.1 (As := [.ref ax, .int x1, .int (0 : Int32), .int x3, .int x4, .ref ao]) (rest := []) (mt_L_pull hT ax x1 (0 : Int32) x3 x4 ao h n hv638) mf_L_pull.1 mf_L_pull.2.1 mf_L_pull.2.2 q_685 q_686 ⟨Nat.le_trans (Nat.le_of_ble_eq_true rfl) hRf, Nat.le_trans (Nat.le_of_ble_eq_true rfl) hRl⟩ ⟨Nat.le_trans (Nat.add_le_add_left (Nat.le_of_ble_eq_true rfl) cs) hc, Nat.le_trans (Nat.add_le_add_left (Nat.le_of_ble_eq_true rfl) ss) hs⟩ rfl (Nat.le_of_ble_eq_true rfl) dL_law_638 (fun n638 H locs hn638 hR => ?_)
    replace hf := hf n638 hn638
    refine W.eq (g2 := F0 m 641 ls [.int v638]) rfl ?_
    refine W.widen (k := cs + 20) (n := ss + 253) (Nat.add_le_add_left (Nat.le_of_ble_eq_true rfl) cs) (Nat.add_le_add_left (Nat.le_of_ble_eq_true rfl) ss) ?_
    refine lv_istore (i := 6) (lv' := [(6, .int v638), (5, .int i), (4, .ref ad), (3, .ref ao), (2, .ref am), (1, .ref ax), (0, .ref b)]) hx hb dL_law_641 hl (by decide) rfl (fun ls hl => ?_)
    refine lv_aload_n hx hb dL_law_643 rfl (lv_at hl 4 rfl) ?_
    refine lv_aload_n hx hb dL_law_644 rfl (lv_at hl 6 rfl) ?_
    refine lv_iload hx hb dL_law_645 (lv_at hl 1 rfl) ?_
    refine lv_iconst (v := (1 : Int32)) hx hb dL_law_647 (by decide) ?_
    refine lv_iadd hx hb dL_law_648 ?_
    refine zl_ld hx hb hX hbl hbA hR.2 hi1 hq1 dL_law_649 ?_
    refine lv_aload_n hx hb dL_law_650 rfl (lv_at hl 6 rfl) ?_
    refine lv_iload hx hb dL_law_651 (lv_at hl 1 rfl) ?_
    refine lv_iconst (v := (2 : Int32)) hx hb dL_law_653 (by decide) ?_
    refine lv_iadd hx hb dL_law_654 ?_
    refine zl_ld hx hb hX hbl hbA hR.2 hi2 hq2 dL_law_655 ?_
    refine lv_if_eq (tgt := 663) hx hb dL_law_656 (by decide) (fun c656 => ?_) (fun c656 => ?_)
    · replace hf := hf.1 c656
      refine lv_iconst (v := (0 : Int32)) hx hb dL_law_663 (by decide) ?_
      refine lv_aload_n hx hb dL_law_664 rfl (lv_at hl 6 rfl) ?_
      refine lv_iload hx hb dL_law_665 (lv_at hl 1 rfl) ?_
      refine lv_iconst (v := (3 : Int32)) hx hb dL_law_667 (by decide) ?_
      refine lv_iadd hx hb dL_law_668 ?_
      refine zl_ld hx hb hX hbl hbA hR.2 hi3 hq3 dL_law_669 ?_
      refine lv_aload_n hx hb dL_law_670 rfl (lv_at hl 6 rfl) ?_
      refine lv_iload hx hb dL_law_671 (lv_at hl 1 rfl) ?_
      refine lv_iconst (v := (4 : Int32)) hx hb dL_law_673 (by decide) ?_
      refine lv_iadd hx hb dL_law_674 ?_
      refine zl_ld hx hb hX hbl hbA hR.2 hi4 hq4 dL_law_675 ?_
      obtain ⟨⟨fs676, ho676⟩, hf⟩ := hf
      obtain ⟨v676, h676, hv676, hf⟩ := hf
      refine zr_cV X hR hl.1 (As := [.int x1, .int (0 : Int32), .int x3, .int x4]) (rest := []) (C := RX10) (T := TX10) (N := 34) (mt_X10_pull hT am x1 (0 : Int32) x3 x4 h638 n638 hv676) rfl ho676 mf_X10_pull q_1425 q_1426 q_1427 ⟨Nat.le_trans (Nat.le_of_ble_eq_true rfl) hRf, Nat.le_trans (Nat.le_of_ble_eq_true rfl) hRl⟩ ⟨hc, hs⟩ rfl (Nat.le_of_ble_eq_true rfl) dL_law_676 (fun H locs hR => ?_)
      refine W.eq (g2 := F0 m 679 ls [.int v676]) rfl ?_
      refine W.widen (k := cs + 20) (n := ss + 253) (Nat.le_refl _) (Nat.le_refl _) ?_
      refine lv_istore (i := 7) (lv' := [(7, .int v676), (6, .int v638), (5, .int i), (4, .ref ad), (3, .ref ao), (2, .ref am), (1, .ref ax), (0, .ref b)]) hx hb dL_law_679 hl (by decide) rfl (fun ls hl => ?_)
      refine lv_aload_n hx hb dL_law_681 rfl (lv_at hl 5 rfl) ?_
      obtain ⟨⟨fs682, ho682⟩, hf⟩ := hf
      obtain ⟨v682, hv682, hf⟩ := hf
      refine zr_cV X hR hl.1 (As := []) (rest := []) (C := RX10) (T := TX10) (N := 34) (mt_X10_thrown hT am h676 n638 hv682) rfl ho682 mf_X10_thrown q_1359 q_1360 q_1361 ⟨Nat.le_trans (Nat.le_of_ble_eq_true rfl) hRf, Nat.le_trans (Nat.le_of_ble_eq_true rfl) hRl⟩ ⟨hc, hs⟩ rfl (Nat.le_of_ble_eq_true rfl) dL_law_682 (fun H locs hR => ?_)
      refine W.eq (g2 := F0 m 685 ls [.int v682]) rfl ?_
      refine W.widen (k := cs + 20) (n := ss + 253) (Nat.le_refl _) (Nat.le_refl _) ?_
      refine lv_iload hx hb dL_law_685 (lv_at hl 1 rfl) ?_
      refine lv_icmp_eq (tgt := 692) hx hb dL_law_687 (by decide) (fun c687 => ?_) (fun c687 => ?_)
      · replace hf := hf.1 c687
        refine lv_iload hx hb dL_law_692 (lv_at hl 1 rfl) ?_
        refine lv_if_ne (tgt := 709) hx hb dL_law_694 (by decide) (fun c694 => ?_) (fun c694 => ?_)
        · replace hf := hf.2 c694
          refine lv_goto (tgt := 3298) hx hb dL_law_709 (by decide) ?_
          exact hK _ _ hf hR (lv_sub hl [2, 3, 4, 5, 6, 7] rfl)
        · replace hf := hf.1 c694
          refine lv_aload_n hx hb dL_law_697 rfl (lv_at hl 4 rfl) ?_
          refine lv_iconst (v := (0 : Int32)) hx hb dL_law_698 (by decide) ?_
          obtain ⟨v699, hv699, hf⟩ := hf
          refine zr_lald X hR (r := some ao) dL_law_699 hv699 (fun vv hvv => ?_)
          cases hvv
          refine lv_iload hx hb dL_law_700 (lv_at hl 0 rfl) ?_
          refine lv_i2l hx hb dL_law_702 rfl ?_
          refine W.lcmp hx hb dL_law_703 ?_
          refine lv_if_eq (tgt := 709) hx hb dL_law_704 (by decide) (fun c704 => ?_) (fun c704 => ?_)
          · replace hf := hf.1 c704
            refine lv_goto (tgt := 3298) hx hb dL_law_709 (by decide) ?_
            exact hK _ _ hf hR (lv_sub hl [2, 3, 4, 5, 6, 7] rfl)
          · replace hf := hf.2 c704
            refine lv_iconst (v := (0 : Int32)) hx hb dL_law_707 (by decide) ?_
            exact hf.elim
      · replace hf := hf.2 c687
        refine lv_iconst (v := (0 : Int32)) hx hb dL_law_690 (by decide) ?_
        exact hf.elim
    · replace hf := hf.2 c656
      refine lv_iconst (v := (1 : Int32)) hx hb dL_law_659 (by decide) ?_
      refine lv_goto (tgt := 664) hx hb dL_law_660 (by decide) ?_
      refine lv_aload_n hx hb dL_law_664 rfl (lv_at hl 6 rfl) ?_
      refine lv_iload hx hb dL_law_665 (lv_at hl 1 rfl) ?_
      refine lv_iconst (v := (3 : Int32)) hx hb dL_law_667 (by decide) ?_
      refine lv_iadd hx hb dL_law_668 ?_
      refine zl_ld hx hb hX hbl hbA hR.2 hi3 hq3 dL_law_669 ?_
      refine lv_aload_n hx hb dL_law_670 rfl (lv_at hl 6 rfl) ?_
      refine lv_iload hx hb dL_law_671 (lv_at hl 1 rfl) ?_
      refine lv_iconst (v := (4 : Int32)) hx hb dL_law_673 (by decide) ?_
      refine lv_iadd hx hb dL_law_674 ?_
      refine zl_ld hx hb hX hbl hbA hR.2 hi4 hq4 dL_law_675 ?_
      obtain ⟨⟨fs676, ho676⟩, hf⟩ := hf
      obtain ⟨v676, h676, hv676, hf⟩ := hf
      refine zr_cV X hR hl.1 (As := [.int x1, .int (1 : Int32), .int x3, .int x4]) (rest := []) (C := RX10) (T := TX10) (N := 34) (mt_X10_pull hT am x1 (1 : Int32) x3 x4 h638 n638 hv676) rfl ho676 mf_X10_pull q_1425 q_1426 q_1427 ⟨Nat.le_trans (Nat.le_of_ble_eq_true rfl) hRf, Nat.le_trans (Nat.le_of_ble_eq_true rfl) hRl⟩ ⟨hc, hs⟩ rfl (Nat.le_of_ble_eq_true rfl) dL_law_676 (fun H locs hR => ?_)
      refine W.eq (g2 := F0 m 679 ls [.int v676]) rfl ?_
      refine W.widen (k := cs + 20) (n := ss + 253) (Nat.le_refl _) (Nat.le_refl _) ?_
      refine lv_istore (i := 7) (lv' := [(7, .int v676), (6, .int v638), (5, .int i), (4, .ref ad), (3, .ref ao), (2, .ref am), (1, .ref ax), (0, .ref b)]) hx hb dL_law_679 hl (by decide) rfl (fun ls hl => ?_)
      refine lv_aload_n hx hb dL_law_681 rfl (lv_at hl 5 rfl) ?_
      obtain ⟨⟨fs682, ho682⟩, hf⟩ := hf
      obtain ⟨v682, hv682, hf⟩ := hf
      refine zr_cV X hR hl.1 (As := []) (rest := []) (C := RX10) (T := TX10) (N := 34) (mt_X10_thrown hT am h676 n638 hv682) rfl ho682 mf_X10_thrown q_1359 q_1360 q_1361 ⟨Nat.le_trans (Nat.le_of_ble_eq_true rfl) hRf, Nat.le_trans (Nat.le_of_ble_eq_true rfl) hRl⟩ ⟨hc, hs⟩ rfl (Nat.le_of_ble_eq_true rfl) dL_law_682 (fun H locs hR => ?_)
      refine W.eq (g2 := F0 m 685 ls [.int v682]) rfl ?_
      refine W.widen (k := cs + 20) (n := ss + 253) (Nat.le_refl _) (Nat.le_refl _) ?_
      refine lv_iload hx hb dL_law_685 (lv_at hl 1 rfl) ?_
      refine lv_icmp_eq (tgt := 692) hx hb dL_law_687 (by decide) (fun c687 => ?_) (fun c687 => ?_)
      · replace hf := hf.1 c687
        refine lv_iload hx hb dL_law_692 (lv_at hl 1 rfl) ?_
        refine lv_if_ne (tgt := 709) hx hb dL_law_694 (by decide) (fun c694 => ?_) (fun c694 => ?_)
        · replace hf := hf.2 c694
          refine lv_goto (tgt := 3298) hx hb dL_law_709 (by decide) ?_
          exact hK _ _ hf hR (lv_sub hl [2, 3, 4, 5, 6, 7] rfl)
        · replace hf := hf.1 c694
          refine lv_aload_n hx hb dL_law_697 rfl (lv_at hl 4 rfl) ?_
          refine lv_iconst (v := (0 : Int32)) hx hb dL_law_698 (by decide) ?_
          obtain ⟨v699, hv699, hf⟩ := hf
          refine zr_lald X hR (r := some ao) dL_law_699 hv699 (fun vv hvv => ?_)
          cases hvv
          refine lv_iload hx hb dL_law_700 (lv_at hl 0 rfl) ?_
          refine lv_i2l hx hb dL_law_702 rfl ?_
          refine W.lcmp hx hb dL_law_703 ?_
          refine lv_if_eq (tgt := 709) hx hb dL_law_704 (by decide) (fun c704 => ?_) (fun c704 => ?_)
          · replace hf := hf.1 c704
            refine lv_goto (tgt := 3298) hx hb dL_law_709 (by decide) ?_
            exact hK _ _ hf hR (lv_sub hl [2, 3, 4, 5, 6, 7] rfl)
          · replace hf := hf.2 c704
            refine lv_iconst (v := (0 : Int32)) hx hb dL_law_707 (by decide) ?_
            exact hf.elim
      · replace hf := hf.2 c687
        refine lv_iconst (v := (0 : Int32)) hx hb dL_law_690 (by decide) ?_
        exact hf.elim
  · replace hf := hf.2 c617
    refine lv_iconst (v := (1 : Int32)) hx hb dL_law_620 (by decide) ?_
    refine lv_goto (tgt := 625) hx hb dL_law_621 (by decide) ?_
    refine lv_aload_n hx hb dL_law_625 rfl (lv_at hl 5 rfl) ?_
    refine lv_iload hx hb dL_law_626 (lv_at hl 0 rfl) ?_
    refine lv_iconst (v := (3 : Int32)) hx hb dL_law_628 (by decide) ?_
    refine lv_iadd hx hb dL_law_629 ?_
    refine zl_ld hx hb hX hbl hbA hR.2 hi3 hq3 dL_law_630 ?_
    refine lv_aload_n hx hb dL_law_631 rfl (lv_at hl 5 rfl) ?_
    refine lv_iload hx hb dL_law_632 (lv_at hl 0 rfl) ?_
    refine lv_iconst (v := (4 : Int32)) hx hb dL_law_634 (by decide) ?_
    refine lv_iadd hx hb dL_law_635 ?_
    refine zl_ld hx hb hX hbl hbA hR.2 hi4 hq4 dL_law_636 ?_
    refine lv_aload_n hx hb dL_law_637 rfl (lv_at hl 2 rfl) ?_
    obtain ⟨v638, h638, m638, hv638, hf⟩ := hf
    refine zl_cS X hN hR hl.1 (As := [.ref ax, .int x1, .int (1 : Int32), .int x3, .int x4, .ref ao]) (rest := []) (mt_L_pull hT ax x1 (1 : Int32) x3 x4 ao h n hv638) mf_L_pull.1 mf_L_pull.2.1 mf_L_pull.2.2 q_685 q_686 ⟨Nat.le_trans (Nat.le_of_ble_eq_true rfl) hRf, Nat.le_trans (Nat.le_of_ble_eq_true rfl) hRl⟩ ⟨Nat.le_trans (Nat.add_le_add_left (Nat.le_of_ble_eq_true rfl) cs) hc, Nat.le_trans (Nat.add_le_add_left (Nat.le_of_ble_eq_true rfl) ss) hs⟩ rfl (Nat.le_of_ble_eq_true rfl) dL_law_638 (fun n638 H locs hn638 hR => ?_)
    replace hf := hf n638 hn638
    refine W.eq (g2 := F0 m 641 ls [.int v638]) rfl ?_
    refine W.widen (k := cs + 20) (n := ss + 253) (Nat.add_le_add_left (Nat.le_of_ble_eq_true rfl) cs) (Nat.add_le_add_left (Nat.le_of_ble_eq_true rfl) ss) ?_
    refine lv_istore (i := 6) (lv' := [(6, .int v638), (5, .int i), (4, .ref ad), (3, .ref ao), (2, .ref am), (1, .ref ax), (0, .ref b)]) hx hb dL_law_641 hl (by decide) rfl (fun ls hl => ?_)
    refine lv_aload_n hx hb dL_law_643 rfl (lv_at hl 4 rfl) ?_
    refine lv_aload_n hx hb dL_law_644 rfl (lv_at hl 6 rfl) ?_
    refine lv_iload hx hb dL_law_645 (lv_at hl 1 rfl) ?_
    refine lv_iconst (v := (1 : Int32)) hx hb dL_law_647 (by decide) ?_
    refine lv_iadd hx hb dL_law_648 ?_
    refine zl_ld hx hb hX hbl hbA hR.2 hi1 hq1 dL_law_649 ?_
    refine lv_aload_n hx hb dL_law_650 rfl (lv_at hl 6 rfl) ?_
    refine lv_iload hx hb dL_law_651 (lv_at hl 1 rfl) ?_
    refine lv_iconst (v := (2 : Int32)) hx hb dL_law_653 (by decide) ?_
    refine lv_iadd hx hb dL_law_654 ?_
    refine zl_ld hx hb hX hbl hbA hR.2 hi2 hq2 dL_law_655 ?_
    refine lv_if_eq (tgt := 663) hx hb dL_law_656 (by decide) (fun c656 => ?_) (fun c656 => ?_)
    · replace hf := hf.1 c656
      refine lv_iconst (v := (0 : Int32)) hx hb dL_law_663 (by decide) ?_
      refine lv_aload_n hx hb dL_law_664 rfl (lv_at hl 6 rfl) ?_
      refine lv_iload hx hb dL_law_665 (lv_at hl 1 rfl) ?_
      refine lv_iconst (v := (3 : Int32)) hx hb dL_law_667 (by decide) ?_
      refine lv_iadd hx hb dL_law_668 ?_
      refine zl_ld hx hb hX hbl hbA hR.2 hi3 hq3 dL_law_669 ?_
      refine lv_aload_n hx hb dL_law_670 rfl (lv_at hl 6 rfl) ?_
      refine lv_iload hx hb dL_law_671 (lv_at hl 1 rfl) ?_
      refine lv_iconst (v := (4 : Int32)) hx hb dL_law_673 (by decide) ?_
      refine lv_iadd hx hb dL_law_674 ?_
      refine zl_ld hx hb hX hbl hbA hR.2 hi4 hq4 dL_law_675 ?_
      obtain ⟨⟨fs676, ho676⟩, hf⟩ := hf
      obtain ⟨v676, h676, hv676, hf⟩ := hf
      refine zr_cV X hR hl.1 (As := [.int x1, .int (0 : Int32), .int x3, .int x4]) (rest := []) (C := RX10) (T := TX10) (N := 34) (mt_X10_pull hT am x1 (0 : Int32) x3 x4 h638 n638 hv676) rfl ho676 mf_X10_pull q_1425 q_1426 q_1427 ⟨Nat.le_trans (Nat.le_of_ble_eq_true rfl) hRf, Nat.le_trans (Nat.le_of_ble_eq_true rfl) hRl⟩ ⟨hc, hs⟩ rfl (Nat.le_of_ble_eq_true rfl) dL_law_676 (fun H locs hR => ?_)
      refine W.eq (g2 := F0 m 679 ls [.int v676]) rfl ?_
      refine W.widen (k := cs + 20) (n := ss + 253) (Nat.le_refl _) (Nat.le_refl _) ?_
      refine lv_istore (i := 7) (lv' := [(7, .int v676), (6, .int v638), (5, .int i), (4, .ref ad), (3, .ref ao), (2, .ref am), (1, .ref ax), (0, .ref b)]) hx hb dL_law_679 hl (by decide) rfl (fun ls hl => ?_)
      refine lv_aload_n hx hb dL_law_681 rfl (lv_at hl 5 rfl) ?_
      obtain ⟨⟨fs682, ho682⟩, hf⟩ := hf
      obtain ⟨v682, hv682, hf⟩ := hf
      refine zr_cV X hR hl.1 (As := []) (rest := []) (C := RX10) (T := TX10) (N := 34) (mt_X10_thrown hT am h676 n638 hv682) rfl ho682 mf_X10_thrown q_1359 q_1360 q_1361 ⟨Nat.le_trans (Nat.le_of_ble_eq_true rfl) hRf, Nat.le_trans (Nat.le_of_ble_eq_true rfl) hRl⟩ ⟨hc, hs⟩ rfl (Nat.le_of_ble_eq_true rfl) dL_law_682 (fun H locs hR => ?_)
      refine W.eq (g2 := F0 m 685 ls [.int v682]) rfl ?_
      refine W.widen (k := cs + 20) (n := ss + 253) (Nat.le_refl _) (Nat.le_refl _) ?_
      refine lv_iload hx hb dL_law_685 (lv_at hl 1 rfl) ?_
      refine lv_icmp_eq (tgt := 692) hx hb dL_law_687 (by decide) (fun c687 => ?_) (fun c687 => ?_)
      · replace hf := hf.1 c687
        refine lv_iload hx hb dL_law_692 (lv_at hl 1 rfl) ?_
        refine lv_if_ne (tgt := 709) hx hb dL_law_694 (by decide) (fun c694 => ?_) (fun c694 => ?_)
        · replace hf := hf.2 c694
          refine lv_goto (tgt := 3298) hx hb dL_law_709 (by decide) ?_
          exact hK _ _ hf hR (lv_sub hl [2, 3, 4, 5, 6, 7] rfl)
        · replace hf := hf.1 c694
          refine lv_aload_n hx hb dL_law_697 rfl (lv_at hl 4 rfl) ?_
          refine lv_iconst (v := (0 : Int32)) hx hb dL_law_698 (by decide) ?_
          obtain ⟨v699, hv699, hf⟩ := hf
          refine zr_lald X hR (r := some ao) dL_law_699 hv699 (fun vv hvv => ?_)
          cases hvv
          refine lv_iload hx hb dL_law_700 (lv_at hl 0 rfl) ?_
          refine lv_i2l hx hb dL_law_702 rfl ?_
          refine W.lcmp hx hb dL_law_703 ?_
          refine lv_if_eq (tgt := 709) hx hb dL_law_704 (by decide) (fun c704 => ?_) (fun c704 => ?_)
          · replace hf := hf.1 c704
            refine lv_goto (tgt := 3298) hx hb dL_law_709 (by decide) ?_
            exact hK _ _ hf hR (lv_sub hl [2, 3, 4, 5, 6, 7] rfl)
          · replace hf := hf.2 c704
            refine lv_iconst (v := (0 : Int32)) hx hb dL_law_707 (by decide) ?_
            exact hf.elim
      · replace hf := hf.2 c687
        refine lv_iconst (v := (0 : Int32)) hx hb dL_law_690 (by decide) ?_
        exact hf.elim
    · replace hf := hf.2 c656
      refine lv_iconst (v := (1 : Int32)) hx hb dL_law_659 (by decide) ?_
      refine lv_goto (tgt := 664) hx hb dL_law_660 (by decide) ?_
      refine lv_aload_n hx hb dL_law_664 rfl (lv_at hl 6 rfl) ?_
      refine lv_iload hx hb dL_law_665 (lv_at hl 1 rfl) ?_
      refine lv_iconst (v := (3 : Int32)) hx hb dL_law_667 (by decide) ?_
      refine lv_iadd hx hb dL_law_668 ?_
      refine zl_ld hx hb hX hbl hbA hR.2 hi3 hq3 dL_law_669 ?_
      refine lv_aload_n hx hb dL_law_670 rfl (lv_at hl 6 rfl) ?_
      refine lv_iload hx hb dL_law_671 (lv_at hl 1 rfl) ?_
      refine lv_iconst (v := (4 : Int32)) hx hb dL_law_673 (by decide) ?_
      refine lv_iadd hx hb dL_law_674 ?_
      refine zl_ld hx hb hX hbl hbA hR.2 hi4 hq4 dL_law_675 ?_
      obtain ⟨⟨fs676, ho676⟩, hf⟩ := hf
      obtain ⟨v676, h676, hv676, hf⟩ := hf
      refine zr_cV X hR hl.1 (As := [.int x1, .int (1 : Int32), .int x3, .int x4]) (rest := []) (C := RX10) (T := TX10) (N := 34) (mt_X10_pull hT am x1 (1 : Int32) x3 x4 h638 n638 hv676) rfl ho676 mf_X10_pull q_1425 q_1426 q_1427 ⟨Nat.le_trans (Nat.le_of_ble_eq_true rfl) hRf, Nat.le_trans (Nat.le_of_ble_eq_true rfl) hRl⟩ ⟨hc, hs⟩ rfl (Nat.le_of_ble_eq_true rfl) dL_law_676 (fun H locs hR => ?_)
      refine W.eq (g2 := F0 m 679 ls [.int v676]) rfl ?_
      refine W.widen (k := cs + 20) (n := ss + 253) (Nat.le_refl _) (Nat.le_refl _) ?_
      refine lv_istore (i := 7) (lv' := [(7, .int v676), (6, .int v638), (5, .int i), (4, .ref ad), (3, .ref ao), (2, .ref am), (1, .ref ax), (0, .ref b)]) hx hb dL_law_679 hl (by decide) rfl (fun ls hl => ?_)
      refine lv_aload_n hx hb dL_law_681 rfl (lv_at hl 5 rfl) ?_
      obtain ⟨⟨fs682, ho682⟩, hf⟩ := hf
      obtain ⟨v682, hv682, hf⟩ := hf
      refine zr_cV X hR hl.1 (As := []) (rest := []) (C := RX10) (T := TX10) (N := 34) (mt_X10_thrown hT am h676 n638 hv682) rfl ho682 mf_X10_thrown q_1359 q_1360 q_1361 ⟨Nat.le_trans (Nat.le_of_ble_eq_true rfl) hRf, Nat.le_trans (Nat.le_of_ble_eq_true rfl) hRl⟩ ⟨hc, hs⟩ rfl (Nat.le_of_ble_eq_true rfl) dL_law_682 (fun H locs hR => ?_)
      refine W.eq (g2 := F0 m 685 ls [.int v682]) rfl ?_
      refine W.widen (k := cs + 20) (n := ss + 253) (Nat.le_refl _) (Nat.le_refl _) ?_
      refine lv_iload hx hb dL_law_685 (lv_at hl 1 rfl) ?_
      refine lv_icmp_eq (tgt := 692) hx hb dL_law_687 (by decide) (fun c687 => ?_) (fun c687 => ?_)
      · replace hf := hf.1 c687
        refine lv_iload hx hb dL_law_692 (lv_at hl 1 rfl) ?_
        refine lv_if_ne (tgt := 709) hx hb dL_law_694 (by decide) (fun c694 => ?_) (fun c694 => ?_)
        · replace hf := hf.2 c694
          refine lv_goto (tgt := 3298) hx hb dL_law_709 (by decide) ?_
          exact hK _ _ hf hR (lv_sub hl [2, 3, 4, 5, 6, 7] rfl)
        · replace hf := hf.1 c694
          refine lv_aload_n hx hb dL_law_697 rfl (lv_at hl 4 rfl) ?_
          refine lv_iconst (v := (0 : Int32)) hx hb dL_law_698 (by decide) ?_
          obtain ⟨v699, hv699, hf⟩ := hf
          refine zr_lald X hR (r := some ao) dL_law_699 hv699 (fun vv hvv => ?_)
          cases hvv
          refine lv_iload hx hb dL_law_700 (lv_at hl 0 rfl) ?_
          refine lv_i2l hx hb dL_law_702 rfl ?_
          refine W.lcmp hx hb dL_law_703 ?_
          refine lv_if_eq (tgt := 709) hx hb dL_law_704 (by decide) (fun c704 => ?_) (fun c704 => ?_)
          · replace hf := hf.1 c704
            refine lv_goto (tgt := 3298) hx hb dL_law_709 (by decide) ?_
            exact hK _ _ hf hR (lv_sub hl [2, 3, 4, 5, 6, 7] rfl)
          · replace hf := hf.2 c704
            refine lv_iconst (v := (0 : Int32)) hx hb dL_law_707 (by decide) ?_
            exact hf.elim
      · replace hf := hf.2 c687
        refine lv_iconst (v := (0 : Int32)) hx hb dL_law_690 (by decide) ?_
        exact hf.elim
set_option maxHeartbeats 4000000 in
set_option maxRecDepth 100000 in
theorem lc_6 {D : va_G} {dA : Nat → ClassId} {base t0 : Nat} {l : Launch} {p : Program} {e : Env} {R : Room} {s : State} {m : MethodId} {args : Array Value} {below : List Frame} {meth : Method} {c : Code} {Q : State → Prop} (X : zz_X D dA base t0 "SpringseatLaw" cL_law 9 (some .boolean) l p s m meth c) (hT : l.stackTraces = false) (hN : zz_N s) {b L : Nat} {xs : Nat → Int32} (hX : va_X b L xs s s.heap) (hbl : b < s.heap.size) (hbA : ¬ base ≤ b) (hRf : 13 ≤ R.frames) (hRl : 482 ≤ R.locals) {cs ss : Nat} (hc : cs + 20 ≤ R.cells) (hs : ss + 253 ≤ R.slots) {ax am ao ad : Nat} {i x1 x2 x3 x4 : Int32} (hi1 : vp_in (i + 1) L) (hi2 : vp_in (i + 2) L) (hi3 : vp_in (i + 3) L) (hi4 : vp_in (i + 4) L) (hq1 : xs (i + 1).toNatClampNeg = x1) (hq2 : xs (i + 2).toNatClampNeg = x2) (hq3 : xs (i + 3).toNatClampNeg = x3) (hq4 : xs (i + 4).toNatClampNeg = x4) {K : zz_H → Nat → Prop} (hK : ∀ h n, K h n → ∀ {H : Heap} {locs : List Loc} {ls : Array Slot}, zz_R D dA base h n s H locs → lv_has ls 9 [(5, .int i), (4, .ref ad), (3, .ref ao), (2, .ref am), (1, .ref ax), (0, .ref b)] → W p l e R s m args below meth c H locs (cs + 20) (ss + 253) Q (F0 m 3298 ls [])) {h : zz_H} {n : Nat} {H : Heap} {locs : List Loc} {ls : Array Slot} (hR : zz_R D dA base h n s H locs) (hl : lv_has ls 9 [(5, .int i), (4, .ref ad), (3, .ref ao), (2, .ref am), (1, .ref ax), (0, .ref b)]) (hf : w_6 t0 ax am ao ad x1 x2 x3 x4 h n K) : W p l e R s m args below meth c H locs cs ss Q (F0 m 712 ls []) := by
  have hx := X.1
  have hb := X.2.1
  have hown := X.2.2.2.2.1
  unfold w_6 at hf
  refine lv_aload_n hx hb dL_law_712 rfl (lv_at hl 4 rfl) ?_
  refine lv_aload_n hx hb dL_law_713 rfl (lv_at hl 5 rfl) ?_
  refine lv_iload hx hb dL_law_714 (lv_at hl 0 rfl) ?_
  refine lv_iconst (v := (1 : Int32)) hx hb dL_law_716 (by decide) ?_
  refine lv_iadd hx hb dL_law_717 ?_
  refine zl_ld hx hb hX hbl hbA hR.2 hi1 hq1 dL_law_718 ?_
  refine lv_aload_n hx hb dL_law_719 rfl (lv_at hl 5 rfl) ?_
  refine lv_iload hx hb dL_law_720 (lv_at hl 0 rfl) ?_
  refine lv_iconst (v := (2 : Int32)) hx hb dL_law_722 (by decide) ?_
  refine lv_iadd hx hb dL_law_723 ?_
  refine zl_ld hx hb hX hbl hbA hR.2 hi2 hq2 dL_law_724 ?_
  refine lv_i2c hx hb dL_law_725 rfl ?_
  refine lv_aload_n hx hb dL_law_726 rfl (lv_at hl 5 rfl) ?_
  refine lv_iload hx hb dL_law_727 (lv_at hl 0 rfl) ?_
  refine lv_iconst (v := (3 : Int32)) hx hb dL_law_729 (by decide) ?_
  refine lv_iadd hx hb dL_law_730 ?_
  refine zl_ld hx hb hX hbl hbA hR.2 hi3 hq3 dL_law_731 ?_
  refine lv_aload_n hx hb dL_law_732 rfl (lv_at hl 5 rfl) ?_
  refine lv_iload hx hb dL_law_733 (lv_at hl 0 rfl) ?_
  refine lv_iconst (v := (4 : Int32)) hx hb dL_law_735 (by decide) ?_
  refine lv_iadd hx hb dL_law_736 ?_
  refine zl_ld hx hb hX hbl hbA hR.2 hi4 hq4 dL_law_737 ?_
  refine lv_aload_n hx hb dL_law_738 rfl (lv_at hl 2 rfl) ?_
  obtain ⟨v739, h739, m739, hv739, hf⟩ := hf
  refine zl_cS X hN hR hl.1 (As := [.ref ax, .int x1, .int ((x2).toUInt32 % 65536).toInt32, .int x3, .int x4, .ref ao]) (rest := []) (mt_L_layer hT ax x1 (((x2).toUInt32 % 65536).toInt32) x3 x4 ao h n hv739) mf_L_layer.1 mf_L_layer.2.1 mf_L_layer.2.2 q_701 q_702 ⟨Nat.le_trans (Nat.le_of_ble_eq_true rfl) hRf, Nat.le_trans (Nat.le_of_ble_eq_true rfl) hRl⟩ ⟨Nat.le_trans (Nat.add_le_add_left (Nat.le_of_ble_eq_true rfl) cs) hc, Nat.le_trans (Nat.add_le_add_left (Nat.le_of_ble_eq_true rfl) ss) hs⟩ rfl (Nat.le_of_ble_eq_true rfl) dL_law_739 (fun n739 H locs hn739 hR => ?_)
  replace hf := hf n739 hn739
  refine W.eq (g2 := F0 m 742 ls [.int v739]) rfl ?_
  refine W.widen (k := cs + 20) (n := ss + 253) (Nat.add_le_add_left (Nat.le_of_ble_eq_true rfl) cs) (Nat.add_le_add_left (Nat.le_of_ble_eq_true rfl) ss) ?_
  refine lv_istore (i := 6) (lv' := [(6, .int v739), (5, .int i), (4, .ref ad), (3, .ref ao), (2, .ref am), (1, .ref ax), (0, .ref b)]) hx hb dL_law_742 hl (by decide) rfl (fun ls hl => ?_)
  refine lv_aload_n hx hb dL_law_744 rfl (lv_at hl 4 rfl) ?_
  refine lv_aload_n hx hb dL_law_745 rfl (lv_at hl 6 rfl) ?_
  refine lv_iload hx hb dL_law_746 (lv_at hl 1 rfl) ?_
  refine lv_iconst (v := (1 : Int32)) hx hb dL_law_748 (by decide) ?_
  refine lv_iadd hx hb dL_law_749 ?_
  refine zl_ld hx hb hX hbl hbA hR.2 hi1 hq1 dL_law_750 ?_
  refine lv_aload_n hx hb dL_law_751 rfl (lv_at hl 6 rfl) ?_
  refine lv_iload hx hb dL_law_752 (lv_at hl 1 rfl) ?_
  refine lv_iconst (v := (2 : Int32)) hx hb dL_law_754 (by decide) ?_
  refine lv_iadd hx hb dL_law_755 ?_
  refine zl_ld hx hb hX hbl hbA hR.2 hi2 hq2 dL_law_756 ?_
  refine lv_i2c hx hb dL_law_757 rfl ?_
  refine lv_aload_n hx hb dL_law_758 rfl (lv_at hl 6 rfl) ?_
  refine lv_iload hx hb dL_law_759 (lv_at hl 1 rfl) ?_
  refine lv_iconst (v := (3 : Int32)) hx hb dL_law_761 (by decide) ?_
  refine lv_iadd hx hb dL_law_762 ?_
  refine zl_ld hx hb hX hbl hbA hR.2 hi3 hq3 dL_law_763 ?_
  refine lv_aload_n hx hb dL_law_764 rfl (lv_at hl 6 rfl) ?_
  refine lv_iload hx hb dL_law_765 (lv_at hl 1 rfl) ?_
  refine lv_iconst (v := (4 : Int32)) hx hb dL_law_767 (by decide) ?_
  refine lv_iadd hx hb dL_law_768 ?_
  refine zl_ld hx hb hX hbl hbA hR.2 hi4 hq4 dL_law_769 ?_
  obtain ⟨⟨fs770, ho770⟩, hf⟩ := hf
  obtain ⟨v770, h770, hv770, hf⟩ := hf
  refine zr_cV X hR hl.1 (As := [.int x1, .int ((x2).toUInt32 % 65536).toInt32, .int x3, .int x4]) (rest := []) (C := RX10) (T := TX10) (N := 34) (mt_X10_layer hT am x1 (((x2).toUInt32 % 65536).toInt32) x3 x4 h739 n739 hv770) rfl ho770 mf_X10_layer q_1443 q_1444 q_1445 ⟨Nat.le_trans (Nat.le_of_ble_eq_true rfl) hRf, Nat.le_trans (Nat.le_of_ble_eq_true rfl) hRl⟩ ⟨hc, hs⟩ rfl (Nat.le_of_ble_eq_true rfl) dL_law_770 (fun H locs hR => ?_)
  refine W.eq (g2 := F0 m 773 ls [.int v770]) rfl ?_
  refine W.widen (k := cs + 20) (n := ss + 253) (Nat.le_refl _) (Nat.le_refl _) ?_
  refine lv_istore (i := 7) (lv' := [(7, .int v770), (6, .int v739), (5, .int i), (4, .ref ad), (3, .ref ao), (2, .ref am), (1, .ref ax), (0, .ref b)]) hx hb dL_law_773 hl (by decide) rfl (fun ls hl => ?_)
  refine lv_aload_n hx hb dL_law_775 rfl (lv_at hl 5 rfl) ?_
  obtain ⟨⟨fs776, ho776⟩, hf⟩ := hf
  obtain ⟨v776, hv776, hf⟩ := hf
  refine zr_cV X hR hl.1 (As := []) (rest := []) (C := RX10) (T := TX10) (N := 34) (mt_X10_thrown hT am h770 n739 hv776) rfl ho776 mf_X10_thrown q_1359 q_1360 q_1361 ⟨Nat.le_trans (Nat.le_of_ble_eq_true rfl) hRf, Nat.le_trans (Nat.le_of_ble_eq_true rfl) hRl⟩ ⟨hc, hs⟩ rfl (Nat.le_of_ble_eq_true rfl) dL_law_776 (fun H locs hR => ?_)
  refine W.eq (g2 := F0 m 779 ls [.int v776]) rfl ?_
  refine W.widen (k := cs + 20) (n := ss + 253) (Nat.le_refl _) (Nat.le_refl _) ?_
  refine lv_iload hx hb dL_law_779 (lv_at hl 1 rfl) ?_
  refine lv_icmp_eq (tgt := 786) hx hb dL_law_781 (by decide) (fun c781 => ?_) (fun c781 => ?_)
  · replace hf := hf.1 c781
    refine lv_iload hx hb dL_law_786 (lv_at hl 1 rfl) ?_
    refine lv_if_ne (tgt := 803) hx hb dL_law_788 (by decide) (fun c788 => ?_) (fun c788 => ?_)
    · replace hf := hf.2 c788
      refine lv_goto (tgt := 3298) hx hb dL_law_803 (by decide) ?_
      exact hK _ _ hf hR (lv_sub hl [2, 3, 4, 5, 6, 7] rfl)
    · replace hf := hf.1 c788
      refine lv_aload_n hx hb dL_law_791 rfl (lv_at hl 4 rfl) ?_
      refine lv_iconst (v := (0 : Int32)) hx hb dL_law_792 (by decide) ?_
      obtain ⟨v793, hv793, hf⟩ := hf
      refine zr_lald X hR (r := some ao) dL_law_793 hv793 (fun vv hvv => ?_)
      cases hvv
      refine lv_iload hx hb dL_law_794 (lv_at hl 0 rfl) ?_
      refine lv_i2l hx hb dL_law_796 rfl ?_
      refine W.lcmp hx hb dL_law_797 ?_
      refine lv_if_eq (tgt := 803) hx hb dL_law_798 (by decide) (fun c798 => ?_) (fun c798 => ?_)
      · replace hf := hf.1 c798
        refine lv_goto (tgt := 3298) hx hb dL_law_803 (by decide) ?_
        exact hK _ _ hf hR (lv_sub hl [2, 3, 4, 5, 6, 7] rfl)
      · replace hf := hf.2 c798
        refine lv_iconst (v := (0 : Int32)) hx hb dL_law_801 (by decide) ?_
        exact hf.elim
  · replace hf := hf.2 c781
    refine lv_iconst (v := (0 : Int32)) hx hb dL_law_784 (by decide) ?_
    exact hf.elim
set_option maxHeartbeats 4000000 in
set_option maxRecDepth 100000 in
theorem lc_7 {D : va_G} {dA : Nat → ClassId} {base t0 : Nat} {l : Launch} {p : Program} {e : Env} {R : Room} {s : State} {m : MethodId} {args : Array Value} {below : List Frame} {meth : Method} {c : Code} {Q : State → Prop} (X : zz_X D dA base t0 "SpringseatLaw" cL_law 9 (some .boolean) l p s m meth c) (hT : l.stackTraces = false) (hN : zz_N s) {b L : Nat} {xs : Nat → Int32} (hX : va_X b L xs s s.heap) (hbl : b < s.heap.size) (hbA : ¬ base ≤ b) (hRf : 13 ≤ R.frames) (hRl : 482 ≤ R.locals) {cs ss : Nat} (hc : cs + 20 ≤ R.cells) (hs : ss + 253 ≤ R.slots) {ax am ao ad : Nat} {i x1 x2 x3 x4 : Int32} (hi1 : vp_in (i + 1) L) (hi2 : vp_in (i + 2) L) (hi3 : vp_in (i + 3) L) (hi4 : vp_in (i + 4) L) (hq1 : xs (i + 1).toNatClampNeg = x1) (hq2 : xs (i + 2).toNatClampNeg = x2) (hq3 : xs (i + 3).toNatClampNeg = x3) (hq4 : xs (i + 4).toNatClampNeg = x4) {K : zz_H → Nat → Prop} (hK : ∀ h n, K h n → ∀ {H : Heap} {locs : List Loc} {ls : Array Slot}, zz_R D dA base h n s H locs → lv_has ls 9 [(5, .int i), (4, .ref ad), (3, .ref ao), (2, .ref am), (1, .ref ax), (0, .ref b)] → W p l e R s m args below meth c H locs (cs + 20) (ss + 253) Q (F0 m 3298 ls [])) {h : zz_H} {n : Nat} {H : Heap} {locs : List Loc} {ls : Array Slot} (hR : zz_R D dA base h n s H locs) (hl : lv_has ls 9 [(5, .int i), (4, .ref ad), (3, .ref ao), (2, .ref am), (1, .ref ax), (0, .ref b)]) (hf : w_7 t0 ax am ao ad x1 x2 x3 x4 h n K) : W p l e R s m args below meth c H locs cs ss Q (F0 m 806 ls []) := by
  have hx := X.1
  have hb := X.2.1
  have hown := X.2.2.2.2.1
  unfold w_7 at hf
  refine lv_aload_n hx hb dL_law_806 rfl (lv_at hl 4 rfl) ?_
  refine lv_aload_n hx hb dL_law_807 rfl (lv_at hl 5 rfl) ?_
  refine lv_iload hx hb dL_law_808 (lv_at hl 0 rfl) ?_
  refine lv_iconst (v := (1 : Int32)) hx hb dL_law_810 (by decide) ?_
  refine lv_iadd hx hb dL_law_811 ?_
  refine zl_ld hx hb hX hbl hbA hR.2 hi1 hq1 dL_law_812 ?_
  refine lv_aload_n hx hb dL_law_813 rfl (lv_at hl 2 rfl) ?_
  obtain ⟨v814, h814, m814, hv814, hf⟩ := hf
  refine zl_cS X hN hR hl.1 (As := [.ref ax, .int x1, .ref ao]) (rest := []) (mt_L_buttons hT ax x1 ao h n hv814) mf_L_buttons.1 mf_L_buttons.2.1 mf_L_buttons.2.2 q_746 q_747 ⟨Nat.le_trans (Nat.le_of_ble_eq_true rfl) hRf, Nat.le_trans (Nat.le_of_ble_eq_true rfl) hRl⟩ ⟨Nat.le_trans (Nat.add_le_add_left (Nat.le_of_ble_eq_true rfl) cs) hc, Nat.le_trans (Nat.add_le_add_left (Nat.le_of_ble_eq_true rfl) ss) hs⟩ rfl (Nat.le_of_ble_eq_true rfl) dL_law_814 (fun n814 H locs hn814 hR => ?_)
  replace hf := hf n814 hn814
  refine W.eq (g2 := F0 m 817 ls [.int v814]) rfl ?_
  refine W.widen (k := cs + 20) (n := ss + 253) (Nat.add_le_add_left (Nat.le_of_ble_eq_true rfl) cs) (Nat.add_le_add_left (Nat.le_of_ble_eq_true rfl) ss) ?_
  refine lv_istore (i := 6) (lv' := [(6, .int v814), (5, .int i), (4, .ref ad), (3, .ref ao), (2, .ref am), (1, .ref ax), (0, .ref b)]) hx hb dL_law_817 hl (by decide) rfl (fun ls hl => ?_)
  refine lv_aload_n hx hb dL_law_819 rfl (lv_at hl 4 rfl) ?_
  refine lv_aload_n hx hb dL_law_820 rfl (lv_at hl 6 rfl) ?_
  refine lv_iload hx hb dL_law_821 (lv_at hl 1 rfl) ?_
  refine lv_iconst (v := (1 : Int32)) hx hb dL_law_823 (by decide) ?_
  refine lv_iadd hx hb dL_law_824 ?_
  refine zl_ld hx hb hX hbl hbA hR.2 hi1 hq1 dL_law_825 ?_
  obtain ⟨⟨fs826, ho826⟩, hf⟩ := hf
  obtain ⟨v826, h826, hv826, hf⟩ := hf
  refine zr_cV X hR hl.1 (As := [.int x1]) (rest := []) (C := RX10) (T := TX10) (N := 34) (mt_X10_buttons hT am x1 h814 n814 hv826) rfl ho826 mf_X10_buttons q_1450 q_1451 q_1452 ⟨Nat.le_trans (Nat.le_of_ble_eq_true rfl) hRf, Nat.le_trans (Nat.le_of_ble_eq_true rfl) hRl⟩ ⟨hc, hs⟩ rfl (Nat.le_of_ble_eq_true rfl) dL_law_826 (fun H locs hR => ?_)
  refine W.eq (g2 := F0 m 829 ls [.int v826]) rfl ?_
  refine W.widen (k := cs + 20) (n := ss + 253) (Nat.le_refl _) (Nat.le_refl _) ?_
  refine lv_istore (i := 7) (lv' := [(7, .int v826), (6, .int v814), (5, .int i), (4, .ref ad), (3, .ref ao), (2, .ref am), (1, .ref ax), (0, .ref b)]) hx hb dL_law_829 hl (by decide) rfl (fun ls hl => ?_)
  refine lv_aload_n hx hb dL_law_831 rfl (lv_at hl 5 rfl) ?_
  obtain ⟨⟨fs832, ho832⟩, hf⟩ := hf
  obtain ⟨v832, hv832, hf⟩ := hf
  refine zr_cV X hR hl.1 (As := []) (rest := []) (C := RX10) (T := TX10) (N := 34) (mt_X10_thrown hT am h826 n814 hv832) rfl ho832 mf_X10_thrown q_1359 q_1360 q_1361 ⟨Nat.le_trans (Nat.le_of_ble_eq_true rfl) hRf, Nat.le_trans (Nat.le_of_ble_eq_true rfl) hRl⟩ ⟨hc, hs⟩ rfl (Nat.le_of_ble_eq_true rfl) dL_law_832 (fun H locs hR => ?_)
  refine W.eq (g2 := F0 m 835 ls [.int v832]) rfl ?_
  refine W.widen (k := cs + 20) (n := ss + 253) (Nat.le_refl _) (Nat.le_refl _) ?_
  refine lv_iload hx hb dL_law_835 (lv_at hl 1 rfl) ?_
  refine lv_icmp_eq (tgt := 842) hx hb dL_law_837 (by decide) (fun c837 => ?_) (fun c837 => ?_)
  · replace hf := hf.1 c837
    refine lv_iload hx hb dL_law_842 (lv_at hl 1 rfl) ?_
    refine lv_if_ne (tgt := 859) hx hb dL_law_844 (by decide) (fun c844 => ?_) (fun c844 => ?_)
    · replace hf := hf.2 c844
      refine lv_goto (tgt := 3298) hx hb dL_law_859 (by decide) ?_
      exact hK _ _ hf hR (lv_sub hl [2, 3, 4, 5, 6, 7] rfl)
    · replace hf := hf.1 c844
      refine lv_aload_n hx hb dL_law_847 rfl (lv_at hl 4 rfl) ?_
      refine lv_iconst (v := (0 : Int32)) hx hb dL_law_848 (by decide) ?_
      obtain ⟨v849, hv849, hf⟩ := hf
      refine zr_lald X hR (r := some ao) dL_law_849 hv849 (fun vv hvv => ?_)
      cases hvv
      refine lv_iload hx hb dL_law_850 (lv_at hl 0 rfl) ?_
      refine lv_i2l hx hb dL_law_852 rfl ?_
      refine W.lcmp hx hb dL_law_853 ?_
      refine lv_if_eq (tgt := 859) hx hb dL_law_854 (by decide) (fun c854 => ?_) (fun c854 => ?_)
      · replace hf := hf.1 c854
        refine lv_goto (tgt := 3298) hx hb dL_law_859 (by decide) ?_
        exact hK _ _ hf hR (lv_sub hl [2, 3, 4, 5, 6, 7] rfl)
      · replace hf := hf.2 c854
        refine lv_iconst (v := (0 : Int32)) hx hb dL_law_857 (by decide) ?_
        exact hf.elim
  · replace hf := hf.2 c837
    refine lv_iconst (v := (0 : Int32)) hx hb dL_law_840 (by decide) ?_
    exact hf.elim
set_option maxHeartbeats 4000000 in
set_option maxRecDepth 100000 in
theorem lc_8 {D : va_G} {dA : Nat → ClassId} {base t0 : Nat} {l : Launch} {p : Program} {e : Env} {R : Room} {s : State} {m : MethodId} {args : Array Value} {below : List Frame} {meth : Method} {c : Code} {Q : State → Prop} (X : zz_X D dA base t0 "SpringseatLaw" cL_law 9 (some .boolean) l p s m meth c) (hT : l.stackTraces = false) (hN : zz_N s) {b L : Nat} {xs : Nat → Int32} (hX : va_X b L xs s s.heap) (hbl : b < s.heap.size) (hbA : ¬ base ≤ b) (hRf : 13 ≤ R.frames) (hRl : 482 ≤ R.locals) {cs ss : Nat} (hc : cs + 20 ≤ R.cells) (hs : ss + 253 ≤ R.slots) {ax am ao ad : Nat} {i x1 x2 x3 x4 : Int32} (hi1 : vp_in (i + 1) L) (hi2 : vp_in (i + 2) L) (hi3 : vp_in (i + 3) L) (hi4 : vp_in (i + 4) L) (hq1 : xs (i + 1).toNatClampNeg = x1) (hq2 : xs (i + 2).toNatClampNeg = x2) (hq3 : xs (i + 3).toNatClampNeg = x3) (hq4 : xs (i + 4).toNatClampNeg = x4) {K : zz_H → Nat → Prop} (hK : ∀ h n, K h n → ∀ {H : Heap} {locs : List Loc} {ls : Array Slot}, zz_R D dA base h n s H locs → lv_has ls 9 [(5, .int i), (4, .ref ad), (3, .ref ao), (2, .ref am), (1, .ref ax), (0, .ref b)] → W p l e R s m args below meth c H locs (cs + 20) (ss + 253) Q (F0 m 3298 ls [])) {h : zz_H} {n : Nat} {H : Heap} {locs : List Loc} {ls : Array Slot} (hR : zz_R D dA base h n s H locs) (hl : lv_has ls 9 [(5, .int i), (4, .ref ad), (3, .ref ao), (2, .ref am), (1, .ref ax), (0, .ref b)]) (hf : w_8 t0 ax am ao ad x1 x2 x3 x4 h n K) : W p l e R s m args below meth c H locs cs ss Q (F0 m 862 ls []) := by
  have hx := X.1
  have hb := X.2.1
  have hown := X.2.2.2.2.1
  unfold w_8 at hf
  refine lv_aload_n hx hb dL_law_862 rfl (lv_at hl 4 rfl) ?_
  refine lv_aload_n hx hb dL_law_863 rfl (lv_at hl 5 rfl) ?_
  refine lv_iload hx hb dL_law_864 (lv_at hl 0 rfl) ?_
  refine lv_iconst (v := (1 : Int32)) hx hb dL_law_866 (by decide) ?_
  refine lv_iadd hx hb dL_law_867 ?_
  refine zl_ld hx hb hX hbl hbA hR.2 hi1 hq1 dL_law_868 ?_
  refine lv_aload_n hx hb dL_law_869 rfl (lv_at hl 5 rfl) ?_
  refine lv_iload hx hb dL_law_870 (lv_at hl 0 rfl) ?_
  refine lv_iconst (v := (2 : Int32)) hx hb dL_law_872 (by decide) ?_
  refine lv_iadd hx hb dL_law_873 ?_
  refine zl_ld hx hb hX hbl hbA hR.2 hi2 hq2 dL_law_874 ?_
  refine lv_aload_n hx hb dL_law_875 rfl (lv_at hl 5 rfl) ?_
  refine lv_iload hx hb dL_law_876 (lv_at hl 0 rfl) ?_
  refine lv_iconst (v := (3 : Int32)) hx hb dL_law_878 (by decide) ?_
  refine lv_iadd hx hb dL_law_879 ?_
  refine zl_ld hx hb hX hbl hbA hR.2 hi3 hq3 dL_law_880 ?_
  refine lv_aload_n hx hb dL_law_881 rfl (lv_at hl 2 rfl) ?_
  obtain ⟨v882, h882, m882, hv882, hf⟩ := hf
  refine zl_cS X hN hR hl.1 (As := [.ref ax, .int x1, .int x2, .int x3, .ref ao]) (rest := []) (mt_L_draw hT ax x1 x2 x3 ao h n hv882) mf_L_draw.1 mf_L_draw.2.1 mf_L_draw.2.2 q_753 q_754 ⟨Nat.le_trans (Nat.le_of_ble_eq_true rfl) hRf, Nat.le_trans (Nat.le_of_ble_eq_true rfl) hRl⟩ ⟨Nat.le_trans (Nat.add_le_add_left (Nat.le_of_ble_eq_true rfl) cs) hc, Nat.le_trans (Nat.add_le_add_left (Nat.le_of_ble_eq_true rfl) ss) hs⟩ rfl (Nat.le_of_ble_eq_true rfl) dL_law_882 (fun n882 H locs hn882 hR => ?_)
  replace hf := hf n882 hn882
  refine W.eq (g2 := F0 m 885 ls [.int v882]) rfl ?_
  refine W.widen (k := cs + 20) (n := ss + 253) (Nat.add_le_add_left (Nat.le_of_ble_eq_true rfl) cs) (Nat.add_le_add_left (Nat.le_of_ble_eq_true rfl) ss) ?_
  refine lv_istore (i := 6) (lv' := [(6, .int v882), (5, .int i), (4, .ref ad), (3, .ref ao), (2, .ref am), (1, .ref ax), (0, .ref b)]) hx hb dL_law_885 hl (by decide) rfl (fun ls hl => ?_)
  refine lv_aload_n hx hb dL_law_887 rfl (lv_at hl 4 rfl) ?_
  refine lv_aload_n hx hb dL_law_888 rfl (lv_at hl 6 rfl) ?_
  refine lv_iload hx hb dL_law_889 (lv_at hl 1 rfl) ?_
  refine lv_iconst (v := (1 : Int32)) hx hb dL_law_891 (by decide) ?_
  refine lv_iadd hx hb dL_law_892 ?_
  refine zl_ld hx hb hX hbl hbA hR.2 hi1 hq1 dL_law_893 ?_
  refine lv_aload_n hx hb dL_law_894 rfl (lv_at hl 6 rfl) ?_
  refine lv_iload hx hb dL_law_895 (lv_at hl 1 rfl) ?_
  refine lv_iconst (v := (2 : Int32)) hx hb dL_law_897 (by decide) ?_
  refine lv_iadd hx hb dL_law_898 ?_
  refine zl_ld hx hb hX hbl hbA hR.2 hi2 hq2 dL_law_899 ?_
  refine lv_aload_n hx hb dL_law_900 rfl (lv_at hl 6 rfl) ?_
  refine lv_iload hx hb dL_law_901 (lv_at hl 1 rfl) ?_
  refine lv_iconst (v := (3 : Int32)) hx hb dL_law_903 (by decide) ?_
  refine lv_iadd hx hb dL_law_904 ?_
  refine zl_ld hx hb hX hbl hbA hR.2 hi3 hq3 dL_law_905 ?_
  obtain ⟨⟨fs906, ho906⟩, hf⟩ := hf
  obtain ⟨v906, h906, hv906, hf⟩ := hf
  refine zr_cV X hR hl.1 (As := [.int x1, .int x2, .int x3]) (rest := []) (C := RX10) (T := TX10) (N := 34) (mt_X10_draw hT am x1 x2 x3 h882 n882 hv906) rfl ho906 mf_X10_draw q_1454 q_1455 q_1456 ⟨Nat.le_trans (Nat.le_of_ble_eq_true rfl) hRf, Nat.le_trans (Nat.le_of_ble_eq_true rfl) hRl⟩ ⟨hc, hs⟩ rfl (Nat.le_of_ble_eq_true rfl) dL_law_906 (fun H locs hR => ?_)
  refine W.eq (g2 := F0 m 909 ls [.int v906]) rfl ?_
  refine W.widen (k := cs + 20) (n := ss + 253) (Nat.le_refl _) (Nat.le_refl _) ?_
  refine lv_istore (i := 7) (lv' := [(7, .int v906), (6, .int v882), (5, .int i), (4, .ref ad), (3, .ref ao), (2, .ref am), (1, .ref ax), (0, .ref b)]) hx hb dL_law_909 hl (by decide) rfl (fun ls hl => ?_)
  refine lv_aload_n hx hb dL_law_911 rfl (lv_at hl 5 rfl) ?_
  obtain ⟨⟨fs912, ho912⟩, hf⟩ := hf
  obtain ⟨v912, hv912, hf⟩ := hf
  refine zr_cV X hR hl.1 (As := []) (rest := []) (C := RX10) (T := TX10) (N := 34) (mt_X10_thrown hT am h906 n882 hv912) rfl ho912 mf_X10_thrown q_1359 q_1360 q_1361 ⟨Nat.le_trans (Nat.le_of_ble_eq_true rfl) hRf, Nat.le_trans (Nat.le_of_ble_eq_true rfl) hRl⟩ ⟨hc, hs⟩ rfl (Nat.le_of_ble_eq_true rfl) dL_law_912 (fun H locs hR => ?_)
  refine W.eq (g2 := F0 m 915 ls [.int v912]) rfl ?_
  refine W.widen (k := cs + 20) (n := ss + 253) (Nat.le_refl _) (Nat.le_refl _) ?_
  refine lv_iload hx hb dL_law_915 (lv_at hl 1 rfl) ?_
  refine lv_icmp_eq (tgt := 922) hx hb dL_law_917 (by decide) (fun c917 => ?_) (fun c917 => ?_)
  · replace hf := hf.1 c917
    refine lv_iload hx hb dL_law_922 (lv_at hl 1 rfl) ?_
    refine lv_if_ne (tgt := 939) hx hb dL_law_924 (by decide) (fun c924 => ?_) (fun c924 => ?_)
    · replace hf := hf.2 c924
      refine lv_goto (tgt := 3298) hx hb dL_law_939 (by decide) ?_
      exact hK _ _ hf hR (lv_sub hl [2, 3, 4, 5, 6, 7] rfl)
    · replace hf := hf.1 c924
      refine lv_aload_n hx hb dL_law_927 rfl (lv_at hl 4 rfl) ?_
      refine lv_iconst (v := (0 : Int32)) hx hb dL_law_928 (by decide) ?_
      obtain ⟨v929, hv929, hf⟩ := hf
      refine zr_lald X hR (r := some ao) dL_law_929 hv929 (fun vv hvv => ?_)
      cases hvv
      refine lv_iload hx hb dL_law_930 (lv_at hl 0 rfl) ?_
      refine lv_i2l hx hb dL_law_932 rfl ?_
      refine W.lcmp hx hb dL_law_933 ?_
      refine lv_if_eq (tgt := 939) hx hb dL_law_934 (by decide) (fun c934 => ?_) (fun c934 => ?_)
      · replace hf := hf.1 c934
        refine lv_goto (tgt := 3298) hx hb dL_law_939 (by decide) ?_
        exact hK _ _ hf hR (lv_sub hl [2, 3, 4, 5, 6, 7] rfl)
      · replace hf := hf.2 c934
        refine lv_iconst (v := (0 : Int32)) hx hb dL_law_937 (by decide) ?_
        exact hf.elim
  · replace hf := hf.2 c917
    refine lv_iconst (v := (0 : Int32)) hx hb dL_law_920 (by decide) ?_
    exact hf.elim
set_option maxHeartbeats 4000000 in
set_option maxRecDepth 100000 in
theorem lc_9 {D : va_G} {dA : Nat → ClassId} {base t0 : Nat} {l : Launch} {p : Program} {e : Env} {R : Room} {s : State} {m : MethodId} {args : Array Value} {below : List Frame} {meth : Method} {c : Code} {Q : State → Prop} (X : zz_X D dA base t0 "SpringseatLaw" cL_law 9 (some .boolean) l p s m meth c) (hT : l.stackTraces = false) (hN : zz_N s) {b L : Nat} {xs : Nat → Int32} (hX : va_X b L xs s s.heap) (hbl : b < s.heap.size) (hbA : ¬ base ≤ b) (hRf : 13 ≤ R.frames) (hRl : 482 ≤ R.locals) {cs ss : Nat} (hc : cs + 20 ≤ R.cells) (hs : ss + 253 ≤ R.slots) {ax am ao ad : Nat} {i x1 x2 x3 x4 : Int32} (hi1 : vp_in (i + 1) L) (hi2 : vp_in (i + 2) L) (hi3 : vp_in (i + 3) L) (hi4 : vp_in (i + 4) L) (hq1 : xs (i + 1).toNatClampNeg = x1) (hq2 : xs (i + 2).toNatClampNeg = x2) (hq3 : xs (i + 3).toNatClampNeg = x3) (hq4 : xs (i + 4).toNatClampNeg = x4) {K : zz_H → Nat → Prop} (hK : ∀ h n, K h n → ∀ {H : Heap} {locs : List Loc} {ls : Array Slot}, zz_R D dA base h n s H locs → lv_has ls 9 [(5, .int i), (4, .ref ad), (3, .ref ao), (2, .ref am), (1, .ref ax), (0, .ref b)] → W p l e R s m args below meth c H locs (cs + 20) (ss + 253) Q (F0 m 3298 ls [])) {h : zz_H} {n : Nat} {H : Heap} {locs : List Loc} {ls : Array Slot} (hR : zz_R D dA base h n s H locs) (hl : lv_has ls 9 [(5, .int i), (4, .ref ad), (3, .ref ao), (2, .ref am), (1, .ref ax), (0, .ref b)]) (hf : w_9 t0 ax am ao ad x1 x2 x3 x4 h n K) : W p l e R s m args below meth c H locs cs ss Q (F0 m 942 ls []) := by
  have hx := X.1
  have hb := X.2.1
  have hown := X.2.2.2.2.1
  unfold w_9 at hf
  refine lv_aload_n hx hb dL_law_942 rfl (lv_at hl 4 rfl) ?_
  refine lv_aload_n hx hb dL_law_943 rfl (lv_at hl 5 rfl) ?_
  refine lv_iload hx hb dL_law_944 (lv_at hl 0 rfl) ?_
  refine lv_iconst (v := (1 : Int32)) hx hb dL_law_946 (by decide) ?_
  refine lv_iadd hx hb dL_law_947 ?_
  refine zl_ld hx hb hX hbl hbA hR.2 hi1 hq1 dL_law_948 ?_
  refine lv_aload_n hx hb dL_law_949 rfl (lv_at hl 5 rfl) ?_
  refine lv_iload hx hb dL_law_950 (lv_at hl 0 rfl) ?_
  refine lv_iconst (v := (2 : Int32)) hx hb dL_law_952 (by decide) ?_
  refine lv_iadd hx hb dL_law_953 ?_
  refine zl_ld hx hb hX hbl hbA hR.2 hi2 hq2 dL_law_954 ?_
  refine lv_aload_n hx hb dL_law_955 rfl (lv_at hl 5 rfl) ?_
  refine lv_iload hx hb dL_law_956 (lv_at hl 0 rfl) ?_
  refine lv_iconst (v := (3 : Int32)) hx hb dL_law_958 (by decide) ?_
  refine lv_iadd hx hb dL_law_959 ?_
  refine zl_ld hx hb hX hbl hbA hR.2 hi3 hq3 dL_law_960 ?_
  refine lv_aload_n hx hb dL_law_961 rfl (lv_at hl 2 rfl) ?_
  obtain ⟨v962, h962, m962, hv962, hf⟩ := hf
  refine zl_cS X hN hR hl.1 (As := [.ref ax, .int x1, .int x2, .int x3, .ref ao]) (rest := []) (mt_L_cover hT ax x1 x2 x3 ao h n hv962) mf_L_cover.1 mf_L_cover.2.1 mf_L_cover.2.2 q_765 q_766 ⟨Nat.le_trans (Nat.le_of_ble_eq_true rfl) hRf, Nat.le_trans (Nat.le_of_ble_eq_true rfl) hRl⟩ ⟨Nat.le_trans (Nat.add_le_add_left (Nat.le_of_ble_eq_true rfl) cs) hc, Nat.le_trans (Nat.add_le_add_left (Nat.le_of_ble_eq_true rfl) ss) hs⟩ rfl (Nat.le_of_ble_eq_true rfl) dL_law_962 (fun n962 H locs hn962 hR => ?_)
  replace hf := hf n962 hn962
  refine W.eq (g2 := F0 m 965 ls [.int v962]) rfl ?_
  refine W.widen (k := cs + 20) (n := ss + 253) (Nat.add_le_add_left (Nat.le_of_ble_eq_true rfl) cs) (Nat.add_le_add_left (Nat.le_of_ble_eq_true rfl) ss) ?_
  refine lv_istore (i := 6) (lv' := [(6, .int v962), (5, .int i), (4, .ref ad), (3, .ref ao), (2, .ref am), (1, .ref ax), (0, .ref b)]) hx hb dL_law_965 hl (by decide) rfl (fun ls hl => ?_)
  refine lv_aload_n hx hb dL_law_967 rfl (lv_at hl 4 rfl) ?_
  refine lv_aload_n hx hb dL_law_968 rfl (lv_at hl 6 rfl) ?_
  refine lv_iload hx hb dL_law_969 (lv_at hl 1 rfl) ?_
  refine lv_iconst (v := (1 : Int32)) hx hb dL_law_971 (by decide) ?_
  refine lv_iadd hx hb dL_law_972 ?_
  refine zl_ld hx hb hX hbl hbA hR.2 hi1 hq1 dL_law_973 ?_
  refine lv_aload_n hx hb dL_law_974 rfl (lv_at hl 6 rfl) ?_
  refine lv_iload hx hb dL_law_975 (lv_at hl 1 rfl) ?_
  refine lv_iconst (v := (2 : Int32)) hx hb dL_law_977 (by decide) ?_
  refine lv_iadd hx hb dL_law_978 ?_
  refine zl_ld hx hb hX hbl hbA hR.2 hi2 hq2 dL_law_979 ?_
  refine lv_aload_n hx hb dL_law_980 rfl (lv_at hl 6 rfl) ?_
  refine lv_iload hx hb dL_law_981 (lv_at hl 1 rfl) ?_
  refine lv_iconst (v := (3 : Int32)) hx hb dL_law_983 (by decide) ?_
  refine lv_iadd hx hb dL_law_984 ?_
  refine zl_ld hx hb hX hbl hbA hR.2 hi3 hq3 dL_law_985 ?_
  obtain ⟨⟨fs986, ho986⟩, hf⟩ := hf
  obtain ⟨v986, h986, hv986, hf⟩ := hf
  refine zr_cV X hR hl.1 (As := [.int x1, .int x2, .int x3]) (rest := []) (C := RX10) (T := TX10) (N := 34) (mt_X10_cover hT am x1 x2 x3 h962 n962 hv986) rfl ho986 mf_X10_cover q_1462 q_1463 q_1464 ⟨Nat.le_trans (Nat.le_of_ble_eq_true rfl) hRf, Nat.le_trans (Nat.le_of_ble_eq_true rfl) hRl⟩ ⟨hc, hs⟩ rfl (Nat.le_of_ble_eq_true rfl) dL_law_986 (fun H locs hR => ?_)
  refine W.eq (g2 := F0 m 989 ls [.int v986]) rfl ?_
  refine W.widen (k := cs + 20) (n := ss + 253) (Nat.le_refl _) (Nat.le_refl _) ?_
  refine lv_istore (i := 7) (lv' := [(7, .int v986), (6, .int v962), (5, .int i), (4, .ref ad), (3, .ref ao), (2, .ref am), (1, .ref ax), (0, .ref b)]) hx hb dL_law_989 hl (by decide) rfl (fun ls hl => ?_)
  refine lv_aload_n hx hb dL_law_991 rfl (lv_at hl 5 rfl) ?_
  obtain ⟨⟨fs992, ho992⟩, hf⟩ := hf
  obtain ⟨v992, hv992, hf⟩ := hf
  refine zr_cV X hR hl.1 (As := []) (rest := []) (C := RX10) (T := TX10) (N := 34) (mt_X10_thrown hT am h986 n962 hv992) rfl ho992 mf_X10_thrown q_1359 q_1360 q_1361 ⟨Nat.le_trans (Nat.le_of_ble_eq_true rfl) hRf, Nat.le_trans (Nat.le_of_ble_eq_true rfl) hRl⟩ ⟨hc, hs⟩ rfl (Nat.le_of_ble_eq_true rfl) dL_law_992 (fun H locs hR => ?_)
  refine W.eq (g2 := F0 m 995 ls [.int v992]) rfl ?_
  refine W.widen (k := cs + 20) (n := ss + 253) (Nat.le_refl _) (Nat.le_refl _) ?_
  refine lv_iload hx hb dL_law_995 (lv_at hl 1 rfl) ?_
  refine lv_icmp_eq (tgt := 1002) hx hb dL_law_997 (by decide) (fun c997 => ?_) (fun c997 => ?_)
  · replace hf := hf.1 c997
    refine lv_iload hx hb dL_law_1002 (lv_at hl 1 rfl) ?_
    refine lv_if_ne (tgt := 1019) hx hb dL_law_1004 (by decide) (fun c1004 => ?_) (fun c1004 => ?_)
    · replace hf := hf.2 c1004
      refine lv_goto (tgt := 3298) hx hb dL_law_1019 (by decide) ?_
      exact hK _ _ hf hR (lv_sub hl [2, 3, 4, 5, 6, 7] rfl)
    · replace hf := hf.1 c1004
      refine lv_aload_n hx hb dL_law_1007 rfl (lv_at hl 4 rfl) ?_
      refine lv_iconst (v := (0 : Int32)) hx hb dL_law_1008 (by decide) ?_
      obtain ⟨v1009, hv1009, hf⟩ := hf
      refine zr_lald X hR (r := some ao) dL_law_1009 hv1009 (fun vv hvv => ?_)
      cases hvv
      refine lv_iload hx hb dL_law_1010 (lv_at hl 0 rfl) ?_
      refine lv_i2l hx hb dL_law_1012 rfl ?_
      refine W.lcmp hx hb dL_law_1013 ?_
      refine lv_if_eq (tgt := 1019) hx hb dL_law_1014 (by decide) (fun c1014 => ?_) (fun c1014 => ?_)
      · replace hf := hf.1 c1014
        refine lv_goto (tgt := 3298) hx hb dL_law_1019 (by decide) ?_
        exact hK _ _ hf hR (lv_sub hl [2, 3, 4, 5, 6, 7] rfl)
      · replace hf := hf.2 c1014
        refine lv_iconst (v := (0 : Int32)) hx hb dL_law_1017 (by decide) ?_
        exact hf.elim
  · replace hf := hf.2 c997
    refine lv_iconst (v := (0 : Int32)) hx hb dL_law_1000 (by decide) ?_
    exact hf.elim
set_option maxHeartbeats 4000000 in
set_option maxRecDepth 100000 in
theorem lc_10 {D : va_G} {dA : Nat → ClassId} {base t0 : Nat} {l : Launch} {p : Program} {e : Env} {R : Room} {s : State} {m : MethodId} {args : Array Value} {below : List Frame} {meth : Method} {c : Code} {Q : State → Prop} (X : zz_X D dA base t0 "SpringseatLaw" cL_law 9 (some .boolean) l p s m meth c) (hT : l.stackTraces = false) (hN : zz_N s) {b L : Nat} {xs : Nat → Int32} (hX : va_X b L xs s s.heap) (hbl : b < s.heap.size) (hbA : ¬ base ≤ b) (hRf : 13 ≤ R.frames) (hRl : 482 ≤ R.locals) {cs ss : Nat} (hc : cs + 20 ≤ R.cells) (hs : ss + 253 ≤ R.slots) {ax am ao ad : Nat} {i x1 x2 x3 x4 : Int32} (hi1 : vp_in (i + 1) L) (hi2 : vp_in (i + 2) L) (hi3 : vp_in (i + 3) L) (hi4 : vp_in (i + 4) L) (hq1 : xs (i + 1).toNatClampNeg = x1) (hq2 : xs (i + 2).toNatClampNeg = x2) (hq3 : xs (i + 3).toNatClampNeg = x3) (hq4 : xs (i + 4).toNatClampNeg = x4) {K : zz_H → Nat → Prop} (hK : ∀ h n, K h n → ∀ {H : Heap} {locs : List Loc} {ls : Array Slot}, zz_R D dA base h n s H locs → lv_has ls 9 [(5, .int i), (4, .ref ad), (3, .ref ao), (2, .ref am), (1, .ref ax), (0, .ref b)] → W p l e R s m args below meth c H locs (cs + 20) (ss + 253) Q (F0 m 3298 ls [])) {h : zz_H} {n : Nat} {H : Heap} {locs : List Loc} {ls : Array Slot} (hR : zz_R D dA base h n s H locs) (hl : lv_has ls 9 [(5, .int i), (4, .ref ad), (3, .ref ao), (2, .ref am), (1, .ref ax), (0, .ref b)]) (hf : w_10 t0 ax am ao ad x1 x2 x3 x4 h n K) : W p l e R s m args below meth c H locs cs ss Q (F0 m 1022 ls []) := by
  have hx := X.1
  have hb := X.2.1
  have hown := X.2.2.2.2.1
  unfold w_10 at hf
  refine lv_aload_n hx hb dL_law_1022 rfl (lv_at hl 4 rfl) ?_
  refine lv_aload_n hx hb dL_law_1023 rfl (lv_at hl 5 rfl) ?_
  refine lv_iload hx hb dL_law_1024 (lv_at hl 0 rfl) ?_
  refine lv_iconst (v := (1 : Int32)) hx hb dL_law_1026 (by decide) ?_
  refine lv_iadd hx hb dL_law_1027 ?_
  refine zl_ld hx hb hX hbl hbA hR.2 hi1 hq1 dL_law_1028 ?_
  refine lv_aload_n hx hb dL_law_1029 rfl (lv_at hl 2 rfl) ?_
  obtain ⟨v1030, h1030, m1030, hv1030, hf⟩ := hf
  refine zl_cS X hN hR hl.1 (As := [.ref ax, .int x1, .ref ao]) (rest := []) (mt_L_sign hT ax x1 ao h n hv1030) mf_L_sign.1 mf_L_sign.2.1 mf_L_sign.2.2 q_816 q_817 ⟨Nat.le_trans (Nat.le_of_ble_eq_true rfl) hRf, Nat.le_trans (Nat.le_of_ble_eq_true rfl) hRl⟩ ⟨Nat.le_trans (Nat.add_le_add_left (Nat.le_of_ble_eq_true rfl) cs) hc, Nat.le_trans (Nat.add_le_add_left (Nat.le_of_ble_eq_true rfl) ss) hs⟩ rfl (Nat.le_of_ble_eq_true rfl) dL_law_1030 (fun n1030 H locs hn1030 hR => ?_)
  replace hf := hf n1030 hn1030
  refine W.eq (g2 := F0 m 1033 ls [.int v1030]) rfl ?_
  refine W.widen (k := cs + 20) (n := ss + 253) (Nat.add_le_add_left (Nat.le_of_ble_eq_true rfl) cs) (Nat.add_le_add_left (Nat.le_of_ble_eq_true rfl) ss) ?_
  refine lv_istore (i := 6) (lv' := [(6, .int v1030), (5, .int i), (4, .ref ad), (3, .ref ao), (2, .ref am), (1, .ref ax), (0, .ref b)]) hx hb dL_law_1033 hl (by decide) rfl (fun ls hl => ?_)
  refine lv_aload_n hx hb dL_law_1035 rfl (lv_at hl 4 rfl) ?_
  refine lv_aload_n hx hb dL_law_1036 rfl (lv_at hl 6 rfl) ?_
  refine lv_iload hx hb dL_law_1037 (lv_at hl 1 rfl) ?_
  refine lv_iconst (v := (1 : Int32)) hx hb dL_law_1039 (by decide) ?_
  refine lv_iadd hx hb dL_law_1040 ?_
  refine zl_ld hx hb hX hbl hbA hR.2 hi1 hq1 dL_law_1041 ?_
  obtain ⟨⟨fs1042, ho1042⟩, hf⟩ := hf
  obtain ⟨v1042, h1042, hv1042, hf⟩ := hf
  refine zr_cV X hR hl.1 (As := [.int x1]) (rest := []) (C := RX10) (T := TX10) (N := 34) (mt_X10_sign hT am x1 h1030 n1030 hv1042) rfl ho1042 mf_X10_sign q_1487 q_1488 q_1489 ⟨Nat.le_trans (Nat.le_of_ble_eq_true rfl) hRf, Nat.le_trans (Nat.le_of_ble_eq_true rfl) hRl⟩ ⟨hc, hs⟩ rfl (Nat.le_of_ble_eq_true rfl) dL_law_1042 (fun H locs hR => ?_)
  refine W.eq (g2 := F0 m 1045 ls [.int v1042]) rfl ?_
  refine W.widen (k := cs + 20) (n := ss + 253) (Nat.le_refl _) (Nat.le_refl _) ?_
  refine lv_istore (i := 7) (lv' := [(7, .int v1042), (6, .int v1030), (5, .int i), (4, .ref ad), (3, .ref ao), (2, .ref am), (1, .ref ax), (0, .ref b)]) hx hb dL_law_1045 hl (by decide) rfl (fun ls hl => ?_)
  refine lv_aload_n hx hb dL_law_1047 rfl (lv_at hl 5 rfl) ?_
  obtain ⟨⟨fs1048, ho1048⟩, hf⟩ := hf
  obtain ⟨v1048, hv1048, hf⟩ := hf
  refine zr_cV X hR hl.1 (As := []) (rest := []) (C := RX10) (T := TX10) (N := 34) (mt_X10_thrown hT am h1042 n1030 hv1048) rfl ho1048 mf_X10_thrown q_1359 q_1360 q_1361 ⟨Nat.le_trans (Nat.le_of_ble_eq_true rfl) hRf, Nat.le_trans (Nat.le_of_ble_eq_true rfl) hRl⟩ ⟨hc, hs⟩ rfl (Nat.le_of_ble_eq_true rfl) dL_law_1048 (fun H locs hR => ?_)
  refine W.eq (g2 := F0 m 1051 ls [.int v1048]) rfl ?_
  refine W.widen (k := cs + 20) (n := ss + 253) (Nat.le_refl _) (Nat.le_refl _) ?_
  refine lv_iload hx hb dL_law_1051 (lv_at hl 1 rfl) ?_
  refine lv_icmp_eq (tgt := 1058) hx hb dL_law_1053 (by decide) (fun c1053 => ?_) (fun c1053 => ?_)
  · replace hf := hf.1 c1053
    refine lv_iload hx hb dL_law_1058 (lv_at hl 1 rfl) ?_
    refine lv_if_ne (tgt := 1075) hx hb dL_law_1060 (by decide) (fun c1060 => ?_) (fun c1060 => ?_)
    · replace hf := hf.2 c1060
      refine lv_goto (tgt := 3298) hx hb dL_law_1075 (by decide) ?_
      exact hK _ _ hf hR (lv_sub hl [2, 3, 4, 5, 6, 7] rfl)
    · replace hf := hf.1 c1060
      refine lv_aload_n hx hb dL_law_1063 rfl (lv_at hl 4 rfl) ?_
      refine lv_iconst (v := (0 : Int32)) hx hb dL_law_1064 (by decide) ?_
      obtain ⟨v1065, hv1065, hf⟩ := hf
      refine zr_lald X hR (r := some ao) dL_law_1065 hv1065 (fun vv hvv => ?_)
      cases hvv
      refine lv_iload hx hb dL_law_1066 (lv_at hl 0 rfl) ?_
      refine lv_i2l hx hb dL_law_1068 rfl ?_
      refine W.lcmp hx hb dL_law_1069 ?_
      refine lv_if_eq (tgt := 1075) hx hb dL_law_1070 (by decide) (fun c1070 => ?_) (fun c1070 => ?_)
      · replace hf := hf.1 c1070
        refine lv_goto (tgt := 3298) hx hb dL_law_1075 (by decide) ?_
        exact hK _ _ hf hR (lv_sub hl [2, 3, 4, 5, 6, 7] rfl)
      · replace hf := hf.2 c1070
        refine lv_iconst (v := (0 : Int32)) hx hb dL_law_1073 (by decide) ?_
        exact hf.elim
  · replace hf := hf.2 c1053
    refine lv_iconst (v := (0 : Int32)) hx hb dL_law_1056 (by decide) ?_
    exact hf.elim
set_option maxHeartbeats 4000000 in
set_option maxRecDepth 100000 in
theorem lc_11 {D : va_G} {dA : Nat → ClassId} {base t0 : Nat} {l : Launch} {p : Program} {e : Env} {R : Room} {s : State} {m : MethodId} {args : Array Value} {below : List Frame} {meth : Method} {c : Code} {Q : State → Prop} (X : zz_X D dA base t0 "SpringseatLaw" cL_law 9 (some .boolean) l p s m meth c) (hT : l.stackTraces = false) (hN : zz_N s) {b L : Nat} {xs : Nat → Int32} (hX : va_X b L xs s s.heap) (hbl : b < s.heap.size) (hbA : ¬ base ≤ b) (hRf : 13 ≤ R.frames) (hRl : 482 ≤ R.locals) {cs ss : Nat} (hc : cs + 20 ≤ R.cells) (hs : ss + 253 ≤ R.slots) {ax am ao ad : Nat} {i x1 x2 x3 x4 : Int32} (hi1 : vp_in (i + 1) L) (hi2 : vp_in (i + 2) L) (hi3 : vp_in (i + 3) L) (hi4 : vp_in (i + 4) L) (hq1 : xs (i + 1).toNatClampNeg = x1) (hq2 : xs (i + 2).toNatClampNeg = x2) (hq3 : xs (i + 3).toNatClampNeg = x3) (hq4 : xs (i + 4).toNatClampNeg = x4) {K : zz_H → Nat → Prop} (hK : ∀ h n, K h n → ∀ {H : Heap} {locs : List Loc} {ls : Array Slot}, zz_R D dA base h n s H locs → lv_has ls 9 [(5, .int i), (4, .ref ad), (3, .ref ao), (2, .ref am), (1, .ref ax), (0, .ref b)] → W p l e R s m args below meth c H locs (cs + 20) (ss + 253) Q (F0 m 3298 ls [])) {h : zz_H} {n : Nat} {H : Heap} {locs : List Loc} {ls : Array Slot} (hR : zz_R D dA base h n s H locs) (hl : lv_has ls 9 [(5, .int i), (4, .ref ad), (3, .ref ao), (2, .ref am), (1, .ref ax), (0, .ref b)]) (hf : w_11 t0 ax am ao ad x1 x2 x3 x4 h n K) : W p l e R s m args below meth c H locs cs ss Q (F0 m 1078 ls []) := by
  have hx := X.1
  have hb := X.2.1
  have hown := X.2.2.2.2.1
  unfold w_11 at hf
  refine lv_aload_n hx hb dL_law_1078 rfl (lv_at hl 4 rfl) ?_
  refine lv_aload_n hx hb dL_law_1079 rfl (lv_at hl 5 rfl) ?_
  refine lv_iload hx hb dL_law_1080 (lv_at hl 0 rfl) ?_
  refine lv_iconst (v := (1 : Int32)) hx hb dL_law_1082 (by decide) ?_
  refine lv_iadd hx hb dL_law_1083 ?_
  refine zl_ld hx hb hX hbl hbA hR.2 hi1 hq1 dL_law_1084 ?_
  refine lv_aload_n hx hb dL_law_1085 rfl (lv_at hl 5 rfl) ?_
  refine lv_iload hx hb dL_law_1086 (lv_at hl 0 rfl) ?_
  refine lv_iconst (v := (2 : Int32)) hx hb dL_law_1088 (by decide) ?_
  refine lv_iadd hx hb dL_law_1089 ?_
  refine zl_ld hx hb hX hbl hbA hR.2 hi2 hq2 dL_law_1090 ?_
  refine lv_aload_n hx hb dL_law_1091 rfl (lv_at hl 2 rfl) ?_
  obtain ⟨v1092, h1092, m1092, hv1092, hf⟩ := hf
  refine zl_cS X hN hR hl.1 (As := [.ref ax, .int x1, .int x2, .ref ao]) (rest := []) (mt_L_open hT ax x1 x2 ao h n hv1092) mf_L_open.1 mf_L_open.2.1 mf_L_open.2.2 q_828 q_829 ⟨Nat.le_trans (Nat.le_of_ble_eq_true rfl) hRf, Nat.le_trans (Nat.le_of_ble_eq_true rfl) hRl⟩ ⟨Nat.le_trans (Nat.add_le_add_left (Nat.le_of_ble_eq_true rfl) cs) hc, Nat.le_trans (Nat.add_le_add_left (Nat.le_of_ble_eq_true rfl) ss) hs⟩ rfl (Nat.le_of_ble_eq_true rfl) dL_law_1092 (fun n1092 H locs hn1092 hR => ?_)
  replace hf := hf n1092 hn1092
  refine W.eq (g2 := F0 m 1095 ls [.int v1092]) rfl ?_
  refine W.widen (k := cs + 20) (n := ss + 253) (Nat.add_le_add_left (Nat.le_of_ble_eq_true rfl) cs) (Nat.add_le_add_left (Nat.le_of_ble_eq_true rfl) ss) ?_
  refine lv_istore (i := 6) (lv' := [(6, .int v1092), (5, .int i), (4, .ref ad), (3, .ref ao), (2, .ref am), (1, .ref ax), (0, .ref b)]) hx hb dL_law_1095 hl (by decide) rfl (fun ls hl => ?_)
  refine lv_aload_n hx hb dL_law_1097 rfl (lv_at hl 4 rfl) ?_
  refine lv_aload_n hx hb dL_law_1098 rfl (lv_at hl 6 rfl) ?_
  refine lv_iload hx hb dL_law_1099 (lv_at hl 1 rfl) ?_
  refine lv_iconst (v := (1 : Int32)) hx hb dL_law_1101 (by decide) ?_
  refine lv_iadd hx hb dL_law_1102 ?_
  refine zl_ld hx hb hX hbl hbA hR.2 hi1 hq1 dL_law_1103 ?_
  refine lv_aload_n hx hb dL_law_1104 rfl (lv_at hl 6 rfl) ?_
  refine lv_iload hx hb dL_law_1105 (lv_at hl 1 rfl) ?_
  refine lv_iconst (v := (2 : Int32)) hx hb dL_law_1107 (by decide) ?_
  refine lv_iadd hx hb dL_law_1108 ?_
  refine zl_ld hx hb hX hbl hbA hR.2 hi2 hq2 dL_law_1109 ?_
  obtain ⟨⟨fs1110, ho1110⟩, hf⟩ := hf
  obtain ⟨v1110, h1110, hv1110, hf⟩ := hf
  refine zr_cV X hR hl.1 (As := [.int x1, .int x2]) (rest := []) (C := RX10) (T := TX10) (N := 34) (mt_X10_open hT am x1 x2 h1092 n1092 hv1110) rfl ho1110 mf_X10_open q_1491 q_1492 q_1493 ⟨Nat.le_trans (Nat.le_of_ble_eq_true rfl) hRf, Nat.le_trans (Nat.le_of_ble_eq_true rfl) hRl⟩ ⟨hc, hs⟩ rfl (Nat.le_of_ble_eq_true rfl) dL_law_1110 (fun H locs hR => ?_)
  refine W.eq (g2 := F0 m 1113 ls [.int v1110]) rfl ?_
  refine W.widen (k := cs + 20) (n := ss + 253) (Nat.le_refl _) (Nat.le_refl _) ?_
  refine lv_istore (i := 7) (lv' := [(7, .int v1110), (6, .int v1092), (5, .int i), (4, .ref ad), (3, .ref ao), (2, .ref am), (1, .ref ax), (0, .ref b)]) hx hb dL_law_1113 hl (by decide) rfl (fun ls hl => ?_)
  refine lv_aload_n hx hb dL_law_1115 rfl (lv_at hl 5 rfl) ?_
  obtain ⟨⟨fs1116, ho1116⟩, hf⟩ := hf
  obtain ⟨v1116, hv1116, hf⟩ := hf
  refine zr_cV X hR hl.1 (As := []) (rest := []) (C := RX10) (T := TX10) (N := 34) (mt_X10_thrown hT am h1110 n1092 hv1116) rfl ho1116 mf_X10_thrown q_1359 q_1360 q_1361 ⟨Nat.le_trans (Nat.le_of_ble_eq_true rfl) hRf, Nat.le_trans (Nat.le_of_ble_eq_true rfl) hRl⟩ ⟨hc, hs⟩ rfl (Nat.le_of_ble_eq_true rfl) dL_law_1116 (fun H locs hR => ?_)
  refine W.eq (g2 := F0 m 1119 ls [.int v1116]) rfl ?_
  refine W.widen (k := cs + 20) (n := ss + 253) (Nat.le_refl _) (Nat.le_refl _) ?_
  refine lv_iload hx hb dL_law_1119 (lv_at hl 1 rfl) ?_
  refine lv_icmp_eq (tgt := 1126) hx hb dL_law_1121 (by decide) (fun c1121 => ?_) (fun c1121 => ?_)
  · replace hf := hf.1 c1121
    refine lv_iload hx hb dL_law_1126 (lv_at hl 1 rfl) ?_
    refine lv_if_ne (tgt := 1143) hx hb dL_law_1128 (by decide) (fun c1128 => ?_) (fun c1128 => ?_)
    · replace hf := hf.2 c1128
      refine lv_goto (tgt := 3298) hx hb dL_law_1143 (by decide) ?_
      exact hK _ _ hf hR (lv_sub hl [2, 3, 4, 5, 6, 7] rfl)
    · replace hf := hf.1 c1128
      refine lv_aload_n hx hb dL_law_1131 rfl (lv_at hl 4 rfl) ?_
      refine lv_iconst (v := (0 : Int32)) hx hb dL_law_1132 (by decide) ?_
      obtain ⟨v1133, hv1133, hf⟩ := hf
      refine zr_lald X hR (r := some ao) dL_law_1133 hv1133 (fun vv hvv => ?_)
      cases hvv
      refine lv_iload hx hb dL_law_1134 (lv_at hl 0 rfl) ?_
      refine lv_i2l hx hb dL_law_1136 rfl ?_
      refine W.lcmp hx hb dL_law_1137 ?_
      refine lv_if_eq (tgt := 1143) hx hb dL_law_1138 (by decide) (fun c1138 => ?_) (fun c1138 => ?_)
      · replace hf := hf.1 c1138
        refine lv_goto (tgt := 3298) hx hb dL_law_1143 (by decide) ?_
        exact hK _ _ hf hR (lv_sub hl [2, 3, 4, 5, 6, 7] rfl)
      · replace hf := hf.2 c1138
        refine lv_iconst (v := (0 : Int32)) hx hb dL_law_1141 (by decide) ?_
        exact hf.elim
  · replace hf := hf.2 c1121
    refine lv_iconst (v := (0 : Int32)) hx hb dL_law_1124 (by decide) ?_
    exact hf.elim
set_option maxHeartbeats 4000000 in
set_option maxRecDepth 100000 in
theorem lc_12 {D : va_G} {dA : Nat → ClassId} {base t0 : Nat} {l : Launch} {p : Program} {e : Env} {R : Room} {s : State} {m : MethodId} {args : Array Value} {below : List Frame} {meth : Method} {c : Code} {Q : State → Prop} (X : zz_X D dA base t0 "SpringseatLaw" cL_law 9 (some .boolean) l p s m meth c) (hT : l.stackTraces = false) (hN : zz_N s) {b L : Nat} {xs : Nat → Int32} (hX : va_X b L xs s s.heap) (hbl : b < s.heap.size) (hbA : ¬ base ≤ b) (hRf : 13 ≤ R.frames) (hRl : 482 ≤ R.locals) {cs ss : Nat} (hc : cs + 20 ≤ R.cells) (hs : ss + 253 ≤ R.slots) {ax am ao ad : Nat} {i x1 x2 x3 x4 : Int32} (hi1 : vp_in (i + 1) L) (hi2 : vp_in (i + 2) L) (hi3 : vp_in (i + 3) L) (hi4 : vp_in (i + 4) L) (hq1 : xs (i + 1).toNatClampNeg = x1) (hq2 : xs (i + 2).toNatClampNeg = x2) (hq3 : xs (i + 3).toNatClampNeg = x3) (hq4 : xs (i + 4).toNatClampNeg = x4) {K : zz_H → Nat → Prop} (hK : ∀ h n, K h n → ∀ {H : Heap} {locs : List Loc} {ls : Array Slot}, zz_R D dA base h n s H locs → lv_has ls 9 [(5, .int i), (4, .ref ad), (3, .ref ao), (2, .ref am), (1, .ref ax), (0, .ref b)] → W p l e R s m args below meth c H locs (cs + 20) (ss + 253) Q (F0 m 3298 ls [])) {h : zz_H} {n : Nat} {H : Heap} {locs : List Loc} {ls : Array Slot} (hR : zz_R D dA base h n s H locs) (hl : lv_has ls 9 [(5, .int i), (4, .ref ad), (3, .ref ao), (2, .ref am), (1, .ref ax), (0, .ref b)]) (hf : w_12 t0 ax am ao ad x1 x2 x3 x4 h n K) : W p l e R s m args below meth c H locs cs ss Q (F0 m 1146 ls []) := by
  have hx := X.1
  have hb := X.2.1
  have hown := X.2.2.2.2.1
  unfold w_12 at hf
  refine lv_aload_n hx hb dL_law_1146 rfl (lv_at hl 4 rfl) ?_
  refine lv_aload_n hx hb dL_law_1147 rfl (lv_at hl 5 rfl) ?_
  refine lv_iload hx hb dL_law_1148 (lv_at hl 0 rfl) ?_
  refine lv_iconst (v := (1 : Int32)) hx hb dL_law_1150 (by decide) ?_
  refine lv_iadd hx hb dL_law_1151 ?_
  refine zl_ld hx hb hX hbl hbA hR.2 hi1 hq1 dL_law_1152 ?_
  refine lv_aload_n hx hb dL_law_1153 rfl (lv_at hl 2 rfl) ?_
  obtain ⟨v1154, h1154, m1154, hv1154, hf⟩ := hf
  refine zl_cS X hN hR hl.1 (As := [.ref ax, .int x1, .ref ao]) (rest := []) (mt_L_steps hT ax x1 ao h n hv1154) mf_L_steps.1 mf_L_steps.2.1 mf_L_steps.2.2 q_877 q_878 ⟨Nat.le_trans (Nat.le_of_ble_eq_true rfl) hRf, Nat.le_trans (Nat.le_of_ble_eq_true rfl) hRl⟩ ⟨Nat.le_trans (Nat.add_le_add_left (Nat.le_of_ble_eq_true rfl) cs) hc, Nat.le_trans (Nat.add_le_add_left (Nat.le_of_ble_eq_true rfl) ss) hs⟩ rfl (Nat.le_of_ble_eq_true rfl) dL_law_1154 (fun n1154 H locs hn1154 hR => ?_)
  replace hf := hf n1154 hn1154
  refine W.eq (g2 := F0 m 1157 ls [.int v1154]) rfl ?_
  refine W.widen (k := cs + 20) (n := ss + 253) (Nat.add_le_add_left (Nat.le_of_ble_eq_true rfl) cs) (Nat.add_le_add_left (Nat.le_of_ble_eq_true rfl) ss) ?_
  refine lv_istore (i := 6) (lv' := [(6, .int v1154), (5, .int i), (4, .ref ad), (3, .ref ao), (2, .ref am), (1, .ref ax), (0, .ref b)]) hx hb dL_law_1157 hl (by decide) rfl (fun ls hl => ?_)
  refine lv_aload_n hx hb dL_law_1159 rfl (lv_at hl 4 rfl) ?_
  refine lv_aload_n hx hb dL_law_1160 rfl (lv_at hl 6 rfl) ?_
  refine lv_iload hx hb dL_law_1161 (lv_at hl 1 rfl) ?_
  refine lv_iconst (v := (1 : Int32)) hx hb dL_law_1163 (by decide) ?_
  refine lv_iadd hx hb dL_law_1164 ?_
  refine zl_ld hx hb hX hbl hbA hR.2 hi1 hq1 dL_law_1165 ?_
  obtain ⟨⟨fs1166, ho1166⟩, hf⟩ := hf
  obtain ⟨v1166, h1166, hv1166, hf⟩ := hf
  refine zr_cV X hR hl.1 (As := [.int x1]) (rest := []) (C := RX10) (T := TX10) (N := 34) (mt_X10_steps hT am x1 h1154 n1154 hv1166) rfl ho1166 mf_X10_steps q_1495 q_1496 q_1497 ⟨Nat.le_trans (Nat.le_of_ble_eq_true rfl) hRf, Nat.le_trans (Nat.le_of_ble_eq_true rfl) hRl⟩ ⟨hc, hs⟩ rfl (Nat.le_of_ble_eq_true rfl) dL_law_1166 (fun H locs hR => ?_)
  refine W.eq (g2 := F0 m 1169 ls [.int v1166]) rfl ?_
  refine W.widen (k := cs + 20) (n := ss + 253) (Nat.le_refl _) (Nat.le_refl _) ?_
  refine lv_istore (i := 7) (lv' := [(7, .int v1166), (6, .int v1154), (5, .int i), (4, .ref ad), (3, .ref ao), (2, .ref am), (1, .ref ax), (0, .ref b)]) hx hb dL_law_1169 hl (by decide) rfl (fun ls hl => ?_)
  refine lv_aload_n hx hb dL_law_1171 rfl (lv_at hl 5 rfl) ?_
  obtain ⟨⟨fs1172, ho1172⟩, hf⟩ := hf
  obtain ⟨v1172, hv1172, hf⟩ := hf
  refine zr_cV X hR hl.1 (As := []) (rest := []) (C := RX10) (T := TX10) (N := 34) (mt_X10_thrown hT am h1166 n1154 hv1172) rfl ho1172 mf_X10_thrown q_1359 q_1360 q_1361 ⟨Nat.le_trans (Nat.le_of_ble_eq_true rfl) hRf, Nat.le_trans (Nat.le_of_ble_eq_true rfl) hRl⟩ ⟨hc, hs⟩ rfl (Nat.le_of_ble_eq_true rfl) dL_law_1172 (fun H locs hR => ?_)
  refine W.eq (g2 := F0 m 1175 ls [.int v1172]) rfl ?_
  refine W.widen (k := cs + 20) (n := ss + 253) (Nat.le_refl _) (Nat.le_refl _) ?_
  refine lv_iload hx hb dL_law_1175 (lv_at hl 1 rfl) ?_
  refine lv_icmp_eq (tgt := 1182) hx hb dL_law_1177 (by decide) (fun c1177 => ?_) (fun c1177 => ?_)
  · replace hf := hf.1 c1177
    refine lv_iload hx hb dL_law_1182 (lv_at hl 1 rfl) ?_
    refine lv_if_ne (tgt := 1199) hx hb dL_law_1184 (by decide) (fun c1184 => ?_) (fun c1184 => ?_)
    · replace hf := hf.2 c1184
      refine lv_goto (tgt := 3298) hx hb dL_law_1199 (by decide) ?_
      exact hK _ _ hf hR (lv_sub hl [2, 3, 4, 5, 6, 7] rfl)
    · replace hf := hf.1 c1184
      refine lv_aload_n hx hb dL_law_1187 rfl (lv_at hl 4 rfl) ?_
      refine lv_iconst (v := (0 : Int32)) hx hb dL_law_1188 (by decide) ?_
      obtain ⟨v1189, hv1189, hf⟩ := hf
      refine zr_lald X hR (r := some ao) dL_law_1189 hv1189 (fun vv hvv => ?_)
      cases hvv
      refine lv_iload hx hb dL_law_1190 (lv_at hl 0 rfl) ?_
      refine lv_i2l hx hb dL_law_1192 rfl ?_
      refine W.lcmp hx hb dL_law_1193 ?_
      refine lv_if_eq (tgt := 1199) hx hb dL_law_1194 (by decide) (fun c1194 => ?_) (fun c1194 => ?_)
      · replace hf := hf.1 c1194
        refine lv_goto (tgt := 3298) hx hb dL_law_1199 (by decide) ?_
        exact hK _ _ hf hR (lv_sub hl [2, 3, 4, 5, 6, 7] rfl)
      · replace hf := hf.2 c1194
        refine lv_iconst (v := (0 : Int32)) hx hb dL_law_1197 (by decide) ?_
        exact hf.elim
  · replace hf := hf.2 c1177
    refine lv_iconst (v := (0 : Int32)) hx hb dL_law_1180 (by decide) ?_
    exact hf.elim
set_option maxHeartbeats 4000000 in
set_option maxRecDepth 100000 in
theorem lc_13 {D : va_G} {dA : Nat → ClassId} {base t0 : Nat} {l : Launch} {p : Program} {e : Env} {R : Room} {s : State} {m : MethodId} {args : Array Value} {below : List Frame} {meth : Method} {c : Code} {Q : State → Prop} (X : zz_X D dA base t0 "SpringseatLaw" cL_law 9 (some .boolean) l p s m meth c) (hT : l.stackTraces = false) (hN : zz_N s) {b L : Nat} {xs : Nat → Int32} (hX : va_X b L xs s s.heap) (hbl : b < s.heap.size) (hbA : ¬ base ≤ b) (hRf : 13 ≤ R.frames) (hRl : 482 ≤ R.locals) {cs ss : Nat} (hc : cs + 20 ≤ R.cells) (hs : ss + 253 ≤ R.slots) {ax am ao ad : Nat} {i x1 x2 x3 x4 : Int32} (hi1 : vp_in (i + 1) L) (hi2 : vp_in (i + 2) L) (hi3 : vp_in (i + 3) L) (hi4 : vp_in (i + 4) L) (hq1 : xs (i + 1).toNatClampNeg = x1) (hq2 : xs (i + 2).toNatClampNeg = x2) (hq3 : xs (i + 3).toNatClampNeg = x3) (hq4 : xs (i + 4).toNatClampNeg = x4) {K : zz_H → Nat → Prop} (hK : ∀ h n, K h n → ∀ {H : Heap} {locs : List Loc} {ls : Array Slot}, zz_R D dA base h n s H locs → lv_has ls 9 [(5, .int i), (4, .ref ad), (3, .ref ao), (2, .ref am), (1, .ref ax), (0, .ref b)] → W p l e R s m args below meth c H locs (cs + 20) (ss + 253) Q (F0 m 3298 ls [])) {h : zz_H} {n : Nat} {H : Heap} {locs : List Loc} {ls : Array Slot} (hR : zz_R D dA base h n s H locs) (hl : lv_has ls 9 [(5, .int i), (4, .ref ad), (3, .ref ao), (2, .ref am), (1, .ref ax), (0, .ref b)]) (hf : w_13 t0 ax am ao ad x1 x2 x3 x4 h n K) : W p l e R s m args below meth c H locs cs ss Q (F0 m 1202 ls []) := by
  have hx := X.1
  have hb := X.2.1
  have hown := X.2.2.2.2.1
  unfold w_13 at hf
  refine lv_aload_n hx hb dL_law_1202 rfl (lv_at hl 4 rfl) ?_
  refine lv_aload_n hx hb dL_law_1203 rfl (lv_at hl 5 rfl) ?_
  refine lv_iload hx hb dL_law_1204 (lv_at hl 0 rfl) ?_
  refine lv_iconst (v := (1 : Int32)) hx hb dL_law_1206 (by decide) ?_
  refine lv_iadd hx hb dL_law_1207 ?_
  refine zl_ld hx hb hX hbl hbA hR.2 hi1 hq1 dL_law_1208 ?_
  refine lv_aload_n hx hb dL_law_1209 rfl (lv_at hl 5 rfl) ?_
  refine lv_iload hx hb dL_law_1210 (lv_at hl 0 rfl) ?_
  refine lv_iconst (v := (2 : Int32)) hx hb dL_law_1212 (by decide) ?_
  refine lv_iadd hx hb dL_law_1213 ?_
  refine zl_ld hx hb hX hbl hbA hR.2 hi2 hq2 dL_law_1214 ?_
  refine lv_aload_n hx hb dL_law_1215 rfl (lv_at hl 2 rfl) ?_
  obtain ⟨v1216, h1216, m1216, hv1216, hf⟩ := hf
  refine zl_cS X hN hR hl.1 (As := [.ref ax, .int x1, .int x2, .ref ao]) (rest := []) (mt_L_step hT ax x1 x2 ao h n hv1216) mf_L_step.1 mf_L_step.2.1 mf_L_step.2.2 q_884 q_885 ⟨Nat.le_trans (Nat.le_of_ble_eq_true rfl) hRf, Nat.le_trans (Nat.le_of_ble_eq_true rfl) hRl⟩ ⟨Nat.le_trans (Nat.add_le_add_left (Nat.le_of_ble_eq_true rfl) cs) hc, Nat.le_trans (Nat.add_le_add_left (Nat.le_of_ble_eq_true rfl) ss) hs⟩ rfl (Nat.le_of_ble_eq_true rfl) dL_law_1216 (fun n1216 H locs hn1216 hR => ?_)
  replace hf := hf n1216 hn1216
  refine W.eq (g2 := F0 m 1219 ls [.int v1216]) rfl ?_
  refine W.widen (k := cs + 20) (n := ss + 253) (Nat.add_le_add_left (Nat.le_of_ble_eq_true rfl) cs) (Nat.add_le_add_left (Nat.le_of_ble_eq_true rfl) ss) ?_
  refine lv_istore (i := 6) (lv' := [(6, .int v1216), (5, .int i), (4, .ref ad), (3, .ref ao), (2, .ref am), (1, .ref ax), (0, .ref b)]) hx hb dL_law_1219 hl (by decide) rfl (fun ls hl => ?_)
  refine lv_aload_n hx hb dL_law_1221 rfl (lv_at hl 4 rfl) ?_
  refine lv_aload_n hx hb dL_law_1222 rfl (lv_at hl 6 rfl) ?_
  refine lv_iload hx hb dL_law_1223 (lv_at hl 1 rfl) ?_
  refine lv_iconst (v := (1 : Int32)) hx hb dL_law_1225 (by decide) ?_
  refine lv_iadd hx hb dL_law_1226 ?_
  refine zl_ld hx hb hX hbl hbA hR.2 hi1 hq1 dL_law_1227 ?_
  refine lv_aload_n hx hb dL_law_1228 rfl (lv_at hl 6 rfl) ?_
  refine lv_iload hx hb dL_law_1229 (lv_at hl 1 rfl) ?_
  refine lv_iconst (v := (2 : Int32)) hx hb dL_law_1231 (by decide) ?_
  refine lv_iadd hx hb dL_law_1232 ?_
  refine zl_ld hx hb hX hbl hbA hR.2 hi2 hq2 dL_law_1233 ?_
  obtain ⟨⟨fs1234, ho1234⟩, hf⟩ := hf
  obtain ⟨v1234, h1234, hv1234, hf⟩ := hf
  refine zr_cV X hR hl.1 (As := [.int x1, .int x2]) (rest := []) (C := RX10) (T := TX10) (N := 34) (mt_X10_step hT am x1 x2 h1216 n1216 hv1234) rfl ho1234 mf_X10_step q_1499 q_1500 q_1501 ⟨Nat.le_trans (Nat.le_of_ble_eq_true rfl) hRf, Nat.le_trans (Nat.le_of_ble_eq_true rfl) hRl⟩ ⟨hc, hs⟩ rfl (Nat.le_of_ble_eq_true rfl) dL_law_1234 (fun H locs hR => ?_)
  refine W.eq (g2 := F0 m 1237 ls [.int v1234]) rfl ?_
  refine W.widen (k := cs + 20) (n := ss + 253) (Nat.le_refl _) (Nat.le_refl _) ?_
  refine lv_istore (i := 7) (lv' := [(7, .int v1234), (6, .int v1216), (5, .int i), (4, .ref ad), (3, .ref ao), (2, .ref am), (1, .ref ax), (0, .ref b)]) hx hb dL_law_1237 hl (by decide) rfl (fun ls hl => ?_)
  refine lv_aload_n hx hb dL_law_1239 rfl (lv_at hl 5 rfl) ?_
  obtain ⟨⟨fs1240, ho1240⟩, hf⟩ := hf
  obtain ⟨v1240, hv1240, hf⟩ := hf
  refine zr_cV X hR hl.1 (As := []) (rest := []) (C := RX10) (T := TX10) (N := 34) (mt_X10_thrown hT am h1234 n1216 hv1240) rfl ho1240 mf_X10_thrown q_1359 q_1360 q_1361 ⟨Nat.le_trans (Nat.le_of_ble_eq_true rfl) hRf, Nat.le_trans (Nat.le_of_ble_eq_true rfl) hRl⟩ ⟨hc, hs⟩ rfl (Nat.le_of_ble_eq_true rfl) dL_law_1240 (fun H locs hR => ?_)
  refine W.eq (g2 := F0 m 1243 ls [.int v1240]) rfl ?_
  refine W.widen (k := cs + 20) (n := ss + 253) (Nat.le_refl _) (Nat.le_refl _) ?_
  refine lv_iload hx hb dL_law_1243 (lv_at hl 1 rfl) ?_
  refine lv_icmp_eq (tgt := 1250) hx hb dL_law_1245 (by decide) (fun c1245 => ?_) (fun c1245 => ?_)
  · replace hf := hf.1 c1245
    refine lv_iload hx hb dL_law_1250 (lv_at hl 1 rfl) ?_
    refine lv_if_ne (tgt := 1267) hx hb dL_law_1252 (by decide) (fun c1252 => ?_) (fun c1252 => ?_)
    · replace hf := hf.2 c1252
      refine lv_goto (tgt := 3298) hx hb dL_law_1267 (by decide) ?_
      exact hK _ _ hf hR (lv_sub hl [2, 3, 4, 5, 6, 7] rfl)
    · replace hf := hf.1 c1252
      refine lv_aload_n hx hb dL_law_1255 rfl (lv_at hl 4 rfl) ?_
      refine lv_iconst (v := (0 : Int32)) hx hb dL_law_1256 (by decide) ?_
      obtain ⟨v1257, hv1257, hf⟩ := hf
      refine zr_lald X hR (r := some ao) dL_law_1257 hv1257 (fun vv hvv => ?_)
      cases hvv
      refine lv_iload hx hb dL_law_1258 (lv_at hl 0 rfl) ?_
      refine lv_i2l hx hb dL_law_1260 rfl ?_
      refine W.lcmp hx hb dL_law_1261 ?_
      refine lv_if_eq (tgt := 1267) hx hb dL_law_1262 (by decide) (fun c1262 => ?_) (fun c1262 => ?_)
      · replace hf := hf.1 c1262
        refine lv_goto (tgt := 3298) hx hb dL_law_1267 (by decide) ?_
        exact hK _ _ hf hR (lv_sub hl [2, 3, 4, 5, 6, 7] rfl)
      · replace hf := hf.2 c1262
        refine lv_iconst (v := (0 : Int32)) hx hb dL_law_1265 (by decide) ?_
        exact hf.elim
  · replace hf := hf.2 c1245
    refine lv_iconst (v := (0 : Int32)) hx hb dL_law_1248 (by decide) ?_
    exact hf.elim
set_option maxHeartbeats 4000000 in
set_option maxRecDepth 100000 in
theorem lc_14 {D : va_G} {dA : Nat → ClassId} {base t0 : Nat} {l : Launch} {p : Program} {e : Env} {R : Room} {s : State} {m : MethodId} {args : Array Value} {below : List Frame} {meth : Method} {c : Code} {Q : State → Prop} (X : zz_X D dA base t0 "SpringseatLaw" cL_law 9 (some .boolean) l p s m meth c) (hT : l.stackTraces = false) (hN : zz_N s) {b L : Nat} {xs : Nat → Int32} (hX : va_X b L xs s s.heap) (hbl : b < s.heap.size) (hbA : ¬ base ≤ b) (hRf : 13 ≤ R.frames) (hRl : 482 ≤ R.locals) {cs ss : Nat} (hc : cs + 20 ≤ R.cells) (hs : ss + 253 ≤ R.slots) {ax am ao ad : Nat} {i x1 x2 x3 x4 : Int32} (hi1 : vp_in (i + 1) L) (hi2 : vp_in (i + 2) L) (hi3 : vp_in (i + 3) L) (hi4 : vp_in (i + 4) L) (hq1 : xs (i + 1).toNatClampNeg = x1) (hq2 : xs (i + 2).toNatClampNeg = x2) (hq3 : xs (i + 3).toNatClampNeg = x3) (hq4 : xs (i + 4).toNatClampNeg = x4) {K : zz_H → Nat → Prop} (hK : ∀ h n, K h n → ∀ {H : Heap} {locs : List Loc} {ls : Array Slot}, zz_R D dA base h n s H locs → lv_has ls 9 [(5, .int i), (4, .ref ad), (3, .ref ao), (2, .ref am), (1, .ref ax), (0, .ref b)] → W p l e R s m args below meth c H locs (cs + 20) (ss + 253) Q (F0 m 3298 ls [])) {h : zz_H} {n : Nat} {H : Heap} {locs : List Loc} {ls : Array Slot} (hR : zz_R D dA base h n s H locs) (hl : lv_has ls 9 [(5, .int i), (4, .ref ad), (3, .ref ao), (2, .ref am), (1, .ref ax), (0, .ref b)]) (hf : w_14 t0 ax am ao ad x1 x2 x3 x4 h n K) : W p l e R s m args below meth c H locs cs ss Q (F0 m 1270 ls []) := by
  have hx := X.1
  have hb := X.2.1
  have hown := X.2.2.2.2.1
  unfold w_14 at hf
  refine lv_aload_n hx hb dL_law_1270 rfl (lv_at hl 4 rfl) ?_
  refine lv_aload_n hx hb dL_law_1271 rfl (lv_at hl 5 rfl) ?_
  refine lv_iload hx hb dL_law_1272 (lv_at hl 0 rfl) ?_
  refine lv_iconst (v := (1 : Int32)) hx hb dL_law_1274 (by decide) ?_
  refine lv_iadd hx hb dL_law_1275 ?_
  refine zl_ld hx hb hX hbl hbA hR.2 hi1 hq1 dL_law_1276 ?_
  refine lv_aload_n hx hb dL_law_1277 rfl (lv_at hl 5 rfl) ?_
  refine lv_iload hx hb dL_law_1278 (lv_at hl 0 rfl) ?_
  refine lv_iconst (v := (2 : Int32)) hx hb dL_law_1280 (by decide) ?_
  refine lv_iadd hx hb dL_law_1281 ?_
  refine zl_ld hx hb hX hbl hbA hR.2 hi2 hq2 dL_law_1282 ?_
  refine lv_aload_n hx hb dL_law_1283 rfl (lv_at hl 2 rfl) ?_
  obtain ⟨v1284, h1284, m1284, hv1284, hf⟩ := hf
  refine zl_cS X hN hR hl.1 (As := [.ref ax, .int x1, .int x2, .ref ao]) (rest := []) (mt_L_isSigned hT ax x1 x2 ao h n hv1284) mf_L_isSigned.1 mf_L_isSigned.2.1 mf_L_isSigned.2.2 q_896 q_897 ⟨Nat.le_trans (Nat.le_of_ble_eq_true rfl) hRf, Nat.le_trans (Nat.le_of_ble_eq_true rfl) hRl⟩ ⟨Nat.le_trans (Nat.add_le_add_left (Nat.le_of_ble_eq_true rfl) cs) hc, Nat.le_trans (Nat.add_le_add_left (Nat.le_of_ble_eq_true rfl) ss) hs⟩ rfl (Nat.le_of_ble_eq_true rfl) dL_law_1284 (fun n1284 H locs hn1284 hR => ?_)
  replace hf := hf n1284 hn1284
  refine W.eq (g2 := F0 m 1287 ls [.int v1284]) rfl ?_
  refine W.widen (k := cs + 20) (n := ss + 253) (Nat.add_le_add_left (Nat.le_of_ble_eq_true rfl) cs) (Nat.add_le_add_left (Nat.le_of_ble_eq_true rfl) ss) ?_
  refine lv_istore (i := 6) (lv' := [(6, .int v1284), (5, .int i), (4, .ref ad), (3, .ref ao), (2, .ref am), (1, .ref ax), (0, .ref b)]) hx hb dL_law_1287 hl (by decide) rfl (fun ls hl => ?_)
  refine lv_aload_n hx hb dL_law_1289 rfl (lv_at hl 4 rfl) ?_
  refine lv_aload_n hx hb dL_law_1290 rfl (lv_at hl 6 rfl) ?_
  refine lv_iload hx hb dL_law_1291 (lv_at hl 1 rfl) ?_
  refine lv_iconst (v := (1 : Int32)) hx hb dL_law_1293 (by decide) ?_
  refine lv_iadd hx hb dL_law_1294 ?_
  refine zl_ld hx hb hX hbl hbA hR.2 hi1 hq1 dL_law_1295 ?_
  refine lv_aload_n hx hb dL_law_1296 rfl (lv_at hl 6 rfl) ?_
  refine lv_iload hx hb dL_law_1297 (lv_at hl 1 rfl) ?_
  refine lv_iconst (v := (2 : Int32)) hx hb dL_law_1299 (by decide) ?_
  refine lv_iadd hx hb dL_law_1300 ?_
  refine zl_ld hx hb hX hbl hbA hR.2 hi2 hq2 dL_law_1301 ?_
  obtain ⟨⟨fs1302, ho1302⟩, hf⟩ := hf
  obtain ⟨v1302, h1302, hv1302, hf⟩ := hf
  refine zr_cV X hR hl.1 (As := [.int x1, .int x2]) (rest := []) (C := RX10) (T := TX10) (N := 34) (mt_X10_isSigned hT am x1 x2 h1284 n1284 hv1302) rfl ho1302 mf_X10_isSigned q_1507 q_1508 q_1509 ⟨Nat.le_trans (Nat.le_of_ble_eq_true rfl) hRf, Nat.le_trans (Nat.le_of_ble_eq_true rfl) hRl⟩ ⟨hc, hs⟩ rfl (Nat.le_of_ble_eq_true rfl) dL_law_1302 (fun H locs hR => ?_)
  refine W.eq (g2 := F0 m 1305 ls [.int v1302]) rfl ?_
  refine W.widen (k := cs + 20) (n := ss + 253) (Nat.le_refl _) (Nat.le_refl _) ?_
  refine lv_istore (i := 7) (lv' := [(7, .int v1302), (6, .int v1284), (5, .int i), (4, .ref ad), (3, .ref ao), (2, .ref am), (1, .ref ax), (0, .ref b)]) hx hb dL_law_1305 hl (by decide) rfl (fun ls hl => ?_)
  refine lv_aload_n hx hb dL_law_1307 rfl (lv_at hl 5 rfl) ?_
  obtain ⟨⟨fs1308, ho1308⟩, hf⟩ := hf
  obtain ⟨v1308, hv1308, hf⟩ := hf
  refine zr_cV X hR hl.1 (As := []) (rest := []) (C := RX10) (T := TX10) (N := 34) (mt_X10_thrown hT am h1302 n1284 hv1308) rfl ho1308 mf_X10_thrown q_1359 q_1360 q_1361 ⟨Nat.le_trans (Nat.le_of_ble_eq_true rfl) hRf, Nat.le_trans (Nat.le_of_ble_eq_true rfl) hRl⟩ ⟨hc, hs⟩ rfl (Nat.le_of_ble_eq_true rfl) dL_law_1308 (fun H locs hR => ?_)
  refine W.eq (g2 := F0 m 1311 ls [.int v1308]) rfl ?_
  refine W.widen (k := cs + 20) (n := ss + 253) (Nat.le_refl _) (Nat.le_refl _) ?_
  refine lv_iload hx hb dL_law_1311 (lv_at hl 1 rfl) ?_
  refine lv_icmp_eq (tgt := 1318) hx hb dL_law_1313 (by decide) (fun c1313 => ?_) (fun c1313 => ?_)
  · replace hf := hf.1 c1313
    refine lv_iload hx hb dL_law_1318 (lv_at hl 1 rfl) ?_
    refine lv_if_ne (tgt := 1342) hx hb dL_law_1320 (by decide) (fun c1320 => ?_) (fun c1320 => ?_)
    · replace hf := hf.2 c1320
      refine lv_goto (tgt := 3298) hx hb dL_law_1342 (by decide) ?_
      exact hK _ _ hf hR (lv_sub hl [2, 3, 4, 5, 6, 7] rfl)
    · replace hf := hf.1 c1320
      refine lv_aload_n hx hb dL_law_1323 rfl (lv_at hl 4 rfl) ?_
      refine lv_iconst (v := (0 : Int32)) hx hb dL_law_1324 (by decide) ?_
      obtain ⟨v1325, hv1325, hf⟩ := hf
      refine zr_lald X hR (r := some ao) dL_law_1325 hv1325 (fun vv hvv => ?_)
      cases hvv
      refine lv_iload hx hb dL_law_1326 (lv_at hl 0 rfl) ?_
      refine lv_if_eq (tgt := 1335) hx hb dL_law_1328 (by decide) (fun c1328 => ?_) (fun c1328 => ?_)
      · replace hf := hf.1 c1328
        refine lv_lconst (v := (0 : Int64)) hx hb dL_law_1335 (by decide) ?_
        refine W.lcmp hx hb dL_law_1336 ?_
        refine lv_if_eq (tgt := 1342) hx hb dL_law_1337 (by decide) (fun c1337 => ?_) (fun c1337 => ?_)
        · replace hf := hf.1 c1337
          refine lv_goto (tgt := 3298) hx hb dL_law_1342 (by decide) ?_
          exact hK _ _ hf hR (lv_sub hl [2, 3, 4, 5, 6, 7] rfl)
        · replace hf := hf.2 c1337
          refine lv_iconst (v := (0 : Int32)) hx hb dL_law_1340 (by decide) ?_
          exact hf.elim
      · replace hf := hf.2 c1328
        refine lv_lconst (v := (1 : Int64)) hx hb dL_law_1331 (by decide) ?_
        refine lv_goto (tgt := 1336) hx hb dL_law_1332 (by decide) ?_
        refine W.lcmp hx hb dL_law_1336 ?_
        refine lv_if_eq (tgt := 1342) hx hb dL_law_1337 (by decide) (fun c1337 => ?_) (fun c1337 => ?_)
        · replace hf := hf.1 c1337
          refine lv_goto (tgt := 3298) hx hb dL_law_1342 (by decide) ?_
          exact hK _ _ hf hR (lv_sub hl [2, 3, 4, 5, 6, 7] rfl)
        · replace hf := hf.2 c1337
          refine lv_iconst (v := (0 : Int32)) hx hb dL_law_1340 (by decide) ?_
          exact hf.elim
  · replace hf := hf.2 c1313
    refine lv_iconst (v := (0 : Int32)) hx hb dL_law_1316 (by decide) ?_
    exact hf.elim
set_option maxHeartbeats 4000000 in
set_option maxRecDepth 100000 in
theorem lc_15 {D : va_G} {dA : Nat → ClassId} {base t0 : Nat} {l : Launch} {p : Program} {e : Env} {R : Room} {s : State} {m : MethodId} {args : Array Value} {below : List Frame} {meth : Method} {c : Code} {Q : State → Prop} (X : zz_X D dA base t0 "SpringseatLaw" cL_law 9 (some .boolean) l p s m meth c) (hT : l.stackTraces = false) (hN : zz_N s) {b L : Nat} {xs : Nat → Int32} (hX : va_X b L xs s s.heap) (hbl : b < s.heap.size) (hbA : ¬ base ≤ b) (hRf : 13 ≤ R.frames) (hRl : 482 ≤ R.locals) {cs ss : Nat} (hc : cs + 20 ≤ R.cells) (hs : ss + 253 ≤ R.slots) {ax am ao ad : Nat} {i x1 x2 x3 x4 : Int32} (hi1 : vp_in (i + 1) L) (hi2 : vp_in (i + 2) L) (hi3 : vp_in (i + 3) L) (hi4 : vp_in (i + 4) L) (hq1 : xs (i + 1).toNatClampNeg = x1) (hq2 : xs (i + 2).toNatClampNeg = x2) (hq3 : xs (i + 3).toNatClampNeg = x3) (hq4 : xs (i + 4).toNatClampNeg = x4) {K : zz_H → Nat → Prop} (hK : ∀ h n, K h n → ∀ {H : Heap} {locs : List Loc} {ls : Array Slot}, zz_R D dA base h n s H locs → lv_has ls 9 [(5, .int i), (4, .ref ad), (3, .ref ao), (2, .ref am), (1, .ref ax), (0, .ref b)] → W p l e R s m args below meth c H locs (cs + 20) (ss + 253) Q (F0 m 3298 ls [])) {h : zz_H} {n : Nat} {H : Heap} {locs : List Loc} {ls : Array Slot} (hR : zz_R D dA base h n s H locs) (hl : lv_has ls 9 [(5, .int i), (4, .ref ad), (3, .ref ao), (2, .ref am), (1, .ref ax), (0, .ref b)]) (hf : w_15 t0 ax am ao ad x1 x2 x3 x4 h n K) : W p l e R s m args below meth c H locs cs ss Q (F0 m 1345 ls []) := by
  have hx := X.1
  have hb := X.2.1
  have hown := X.2.2.2.2.1
  unfold w_15 at hf
  refine lv_aload_n hx hb dL_law_1345 rfl (lv_at hl 4 rfl) ?_
  refine lv_aload_n hx hb dL_law_1346 rfl (lv_at hl 5 rfl) ?_
  refine lv_iload hx hb dL_law_1347 (lv_at hl 0 rfl) ?_
  refine lv_iconst (v := (1 : Int32)) hx hb dL_law_1349 (by decide) ?_
  refine lv_iadd hx hb dL_law_1350 ?_
  refine zl_ld hx hb hX hbl hbA hR.2 hi1 hq1 dL_law_1351 ?_
  refine lv_aload_n hx hb dL_law_1352 rfl (lv_at hl 2 rfl) ?_
  obtain ⟨v1353, h1353, m1353, hv1353, hf⟩ := hf
  refine zl_cS X hN hR hl.1 (As := [.ref ax, .int x1, .ref ao]) (rest := []) (mt_L_isClosed hT ax x1 ao h n hv1353) mf_L_isClosed.1 mf_L_isClosed.2.1 mf_L_isClosed.2.2 q_903 q_904 ⟨Nat.le_trans (Nat.le_of_ble_eq_true rfl) hRf, Nat.le_trans (Nat.le_of_ble_eq_true rfl) hRl⟩ ⟨Nat.le_trans (Nat.add_le_add_left (Nat.le_of_ble_eq_true rfl) cs) hc, Nat.le_trans (Nat.add_le_add_left (Nat.le_of_ble_eq_true rfl) ss) hs⟩ rfl (Nat.le_of_ble_eq_true rfl) dL_law_1353 (fun n1353 H locs hn1353 hR => ?_)
  replace hf := hf n1353 hn1353
  refine W.eq (g2 := F0 m 1356 ls [.int v1353]) rfl ?_
  refine W.widen (k := cs + 20) (n := ss + 253) (Nat.add_le_add_left (Nat.le_of_ble_eq_true rfl) cs) (Nat.add_le_add_left (Nat.le_of_ble_eq_true rfl) ss) ?_
  refine lv_istore (i := 6) (lv' := [(6, .int v1353), (5, .int i), (4, .ref ad), (3, .ref ao), (2, .ref am), (1, .ref ax), (0, .ref b)]) hx hb dL_law_1356 hl (by decide) rfl (fun ls hl => ?_)
  refine lv_aload_n hx hb dL_law_1358 rfl (lv_at hl 4 rfl) ?_
  refine lv_aload_n hx hb dL_law_1359 rfl (lv_at hl 6 rfl) ?_
  refine lv_iload hx hb dL_law_1360 (lv_at hl 1 rfl) ?_
  refine lv_iconst (v := (1 : Int32)) hx hb dL_law_1362 (by decide) ?_
  refine lv_iadd hx hb dL_law_1363 ?_
  refine zl_ld hx hb hX hbl hbA hR.2 hi1 hq1 dL_law_1364 ?_
  obtain ⟨⟨fs1365, ho1365⟩, hf⟩ := hf
  obtain ⟨v1365, h1365, hv1365, hf⟩ := hf
  refine zr_cV X hR hl.1 (As := [.int x1]) (rest := []) (C := RX10) (T := TX10) (N := 34) (mt_X10_isClosed hT am x1 h1353 n1353 hv1365) rfl ho1365 mf_X10_isClosed q_1511 q_1512 q_1513 ⟨Nat.le_trans (Nat.le_of_ble_eq_true rfl) hRf, Nat.le_trans (Nat.le_of_ble_eq_true rfl) hRl⟩ ⟨hc, hs⟩ rfl (Nat.le_of_ble_eq_true rfl) dL_law_1365 (fun H locs hR => ?_)
  refine W.eq (g2 := F0 m 1368 ls [.int v1365]) rfl ?_
  refine W.widen (k := cs + 20) (n := ss + 253) (Nat.le_refl _) (Nat.le_refl _) ?_
  refine lv_istore (i := 7) (lv' := [(7, .int v1365), (6, .int v1353), (5, .int i), (4, .ref ad), (3, .ref ao), (2, .ref am), (1, .ref ax), (0, .ref b)]) hx hb dL_law_1368 hl (by decide) rfl (fun ls hl => ?_)
  refine lv_aload_n hx hb dL_law_1370 rfl (lv_at hl 5 rfl) ?_
  obtain ⟨⟨fs1371, ho1371⟩, hf⟩ := hf
  obtain ⟨v1371, hv1371, hf⟩ := hf
  refine zr_cV X hR hl.1 (As := []) (rest := []) (C := RX10) (T := TX10) (N := 34) (mt_X10_thrown hT am h1365 n1353 hv1371) rfl ho1371 mf_X10_thrown q_1359 q_1360 q_1361 ⟨Nat.le_trans (Nat.le_of_ble_eq_true rfl) hRf, Nat.le_trans (Nat.le_of_ble_eq_true rfl) hRl⟩ ⟨hc, hs⟩ rfl (Nat.le_of_ble_eq_true rfl) dL_law_1371 (fun H locs hR => ?_)
  refine W.eq (g2 := F0 m 1374 ls [.int v1371]) rfl ?_
  refine W.widen (k := cs + 20) (n := ss + 253) (Nat.le_refl _) (Nat.le_refl _) ?_
  refine lv_iload hx hb dL_law_1374 (lv_at hl 1 rfl) ?_
  refine lv_icmp_eq (tgt := 1381) hx hb dL_law_1376 (by decide) (fun c1376 => ?_) (fun c1376 => ?_)
  · replace hf := hf.1 c1376
    refine lv_iload hx hb dL_law_1381 (lv_at hl 1 rfl) ?_
    refine lv_if_ne (tgt := 1405) hx hb dL_law_1383 (by decide) (fun c1383 => ?_) (fun c1383 => ?_)
    · replace hf := hf.2 c1383
      refine lv_goto (tgt := 3298) hx hb dL_law_1405 (by decide) ?_
      exact hK _ _ hf hR (lv_sub hl [2, 3, 4, 5, 6, 7] rfl)
    · replace hf := hf.1 c1383
      refine lv_aload_n hx hb dL_law_1386 rfl (lv_at hl 4 rfl) ?_
      refine lv_iconst (v := (0 : Int32)) hx hb dL_law_1387 (by decide) ?_
      obtain ⟨v1388, hv1388, hf⟩ := hf
      refine zr_lald X hR (r := some ao) dL_law_1388 hv1388 (fun vv hvv => ?_)
      cases hvv
      refine lv_iload hx hb dL_law_1389 (lv_at hl 0 rfl) ?_
      refine lv_if_eq (tgt := 1398) hx hb dL_law_1391 (by decide) (fun c1391 => ?_) (fun c1391 => ?_)
      · replace hf := hf.1 c1391
        refine lv_lconst (v := (0 : Int64)) hx hb dL_law_1398 (by decide) ?_
        refine W.lcmp hx hb dL_law_1399 ?_
        refine lv_if_eq (tgt := 1405) hx hb dL_law_1400 (by decide) (fun c1400 => ?_) (fun c1400 => ?_)
        · replace hf := hf.1 c1400
          refine lv_goto (tgt := 3298) hx hb dL_law_1405 (by decide) ?_
          exact hK _ _ hf hR (lv_sub hl [2, 3, 4, 5, 6, 7] rfl)
        · replace hf := hf.2 c1400
          refine lv_iconst (v := (0 : Int32)) hx hb dL_law_1403 (by decide) ?_
          exact hf.elim
      · replace hf := hf.2 c1391
        refine lv_lconst (v := (1 : Int64)) hx hb dL_law_1394 (by decide) ?_
        refine lv_goto (tgt := 1399) hx hb dL_law_1395 (by decide) ?_
        refine W.lcmp hx hb dL_law_1399 ?_
        refine lv_if_eq (tgt := 1405) hx hb dL_law_1400 (by decide) (fun c1400 => ?_) (fun c1400 => ?_)
        · replace hf := hf.1 c1400
          refine lv_goto (tgt := 3298) hx hb dL_law_1405 (by decide) ?_
          exact hK _ _ hf hR (lv_sub hl [2, 3, 4, 5, 6, 7] rfl)
        · replace hf := hf.2 c1400
          refine lv_iconst (v := (0 : Int32)) hx hb dL_law_1403 (by decide) ?_
          exact hf.elim
  · replace hf := hf.2 c1376
    refine lv_iconst (v := (0 : Int32)) hx hb dL_law_1379 (by decide) ?_
    exact hf.elim
set_option maxHeartbeats 4000000 in
set_option maxRecDepth 100000 in
theorem lc_16 {D : va_G} {dA : Nat → ClassId} {base t0 : Nat} {l : Launch} {p : Program} {e : Env} {R : Room} {s : State} {m : MethodId} {args : Array Value} {below : List Frame} {meth : Method} {c : Code} {Q : State → Prop} (X : zz_X D dA base t0 "SpringseatLaw" cL_law 9 (some .boolean) l p s m meth c) (hT : l.stackTraces = false) (hN : zz_N s) {b L : Nat} {xs : Nat → Int32} (hX : va_X b L xs s s.heap) (hbl : b < s.heap.size) (hbA : ¬ base ≤ b) (hRf : 13 ≤ R.frames) (hRl : 482 ≤ R.locals) {cs ss : Nat} (hc : cs + 20 ≤ R.cells) (hs : ss + 253 ≤ R.slots) {ax am ao ad : Nat} {i x1 x2 x3 x4 : Int32} (hi1 : vp_in (i + 1) L) (hi2 : vp_in (i + 2) L) (hi3 : vp_in (i + 3) L) (hi4 : vp_in (i + 4) L) (hq1 : xs (i + 1).toNatClampNeg = x1) (hq2 : xs (i + 2).toNatClampNeg = x2) (hq3 : xs (i + 3).toNatClampNeg = x3) (hq4 : xs (i + 4).toNatClampNeg = x4) {K : zz_H → Nat → Prop} (hK : ∀ h n, K h n → ∀ {H : Heap} {locs : List Loc} {ls : Array Slot}, zz_R D dA base h n s H locs → lv_has ls 9 [(5, .int i), (4, .ref ad), (3, .ref ao), (2, .ref am), (1, .ref ax), (0, .ref b)] → W p l e R s m args below meth c H locs (cs + 20) (ss + 253) Q (F0 m 3298 ls [])) {h : zz_H} {n : Nat} {H : Heap} {locs : List Loc} {ls : Array Slot} (hR : zz_R D dA base h n s H locs) (hl : lv_has ls 9 [(5, .int i), (4, .ref ad), (3, .ref ao), (2, .ref am), (1, .ref ax), (0, .ref b)]) (hf : w_16 t0 ax am ao ad x1 x2 x3 x4 h n K) : W p l e R s m args below meth c H locs cs ss Q (F0 m 1408 ls []) := by
  have hx := X.1
  have hb := X.2.1
  have hown := X.2.2.2.2.1
  unfold w_16 at hf
  refine lv_aload_n hx hb dL_law_1408 rfl (lv_at hl 4 rfl) ?_
  refine lv_aload_n hx hb dL_law_1409 rfl (lv_at hl 5 rfl) ?_
  refine lv_iload hx hb dL_law_1410 (lv_at hl 0 rfl) ?_
  refine lv_iconst (v := (1 : Int32)) hx hb dL_law_1412 (by decide) ?_
  refine lv_iadd hx hb dL_law_1413 ?_
  refine zl_ld hx hb hX hbl hbA hR.2 hi1 hq1 dL_law_1414 ?_
  refine lv_aload_n hx hb dL_law_1415 rfl (lv_at hl 5 rfl) ?_
  refine lv_iload hx hb dL_law_1416 (lv_at hl 0 rfl) ?_
  refine lv_iconst (v := (2 : Int32)) hx hb dL_law_1418 (by decide) ?_
  refine lv_iadd hx hb dL_law_1419 ?_
  refine zl_ld hx hb hX hbl hbA hR.2 hi2 hq2 dL_law_1420 ?_
  refine lv_aload_n hx hb dL_law_1421 rfl (lv_at hl 2 rfl) ?_
  obtain ⟨v1422, h1422, m1422, hv1422, hf⟩ := hf
  refine zl_cS X hN hR hl.1 (As := [.ref ax, .int x1, .int x2, .ref ao]) (rest := []) (mt_L_stands hT ax x1 x2 ao h n hv1422) mf_L_stands.1 mf_L_stands.2.1 mf_L_stands.2.2 q_915 q_916 ⟨Nat.le_trans (Nat.le_of_ble_eq_true rfl) hRf, Nat.le_trans (Nat.le_of_ble_eq_true rfl) hRl⟩ ⟨Nat.le_trans (Nat.add_le_add_left (Nat.le_of_ble_eq_true rfl) cs) hc, Nat.le_trans (Nat.add_le_add_left (Nat.le_of_ble_eq_true rfl) ss) hs⟩ rfl (Nat.le_of_ble_eq_true rfl) dL_law_1422 (fun n1422 H locs hn1422 hR => ?_)
  replace hf := hf n1422 hn1422
  refine W.eq (g2 := F0 m 1425 ls [.int v1422]) rfl ?_
  refine W.widen (k := cs + 20) (n := ss + 253) (Nat.add_le_add_left (Nat.le_of_ble_eq_true rfl) cs) (Nat.add_le_add_left (Nat.le_of_ble_eq_true rfl) ss) ?_
  refine lv_istore (i := 6) (lv' := [(6, .int v1422), (5, .int i), (4, .ref ad), (3, .ref ao), (2, .ref am), (1, .ref ax), (0, .ref b)]) hx hb dL_law_1425 hl (by decide) rfl (fun ls hl => ?_)
  refine lv_aload_n hx hb dL_law_1427 rfl (lv_at hl 4 rfl) ?_
  refine lv_aload_n hx hb dL_law_1428 rfl (lv_at hl 6 rfl) ?_
  refine lv_iload hx hb dL_law_1429 (lv_at hl 1 rfl) ?_
  refine lv_iconst (v := (1 : Int32)) hx hb dL_law_1431 (by decide) ?_
  refine lv_iadd hx hb dL_law_1432 ?_
  refine zl_ld hx hb hX hbl hbA hR.2 hi1 hq1 dL_law_1433 ?_
  refine lv_aload_n hx hb dL_law_1434 rfl (lv_at hl 6 rfl) ?_
  refine lv_iload hx hb dL_law_1435 (lv_at hl 1 rfl) ?_
  refine lv_iconst (v := (2 : Int32)) hx hb dL_law_1437 (by decide) ?_
  refine lv_iadd hx hb dL_law_1438 ?_
  refine zl_ld hx hb hX hbl hbA hR.2 hi2 hq2 dL_law_1439 ?_
  obtain ⟨⟨fs1440, ho1440⟩, hf⟩ := hf
  obtain ⟨v1440, h1440, hv1440, hf⟩ := hf
  refine zr_cV X hR hl.1 (As := [.int x1, .int x2]) (rest := []) (C := RX10) (T := TX10) (N := 34) (mt_X10_stands hT am x1 x2 h1422 n1422 hv1440) rfl ho1440 mf_X10_stands q_1515 q_1516 q_1517 ⟨Nat.le_trans (Nat.le_of_ble_eq_true rfl) hRf, Nat.le_trans (Nat.le_of_ble_eq_true rfl) hRl⟩ ⟨hc, hs⟩ rfl (Nat.le_of_ble_eq_true rfl) dL_law_1440 (fun H locs hR => ?_)
  refine W.eq (g2 := F0 m 1443 ls [.int v1440]) rfl ?_
  refine W.widen (k := cs + 20) (n := ss + 253) (Nat.le_refl _) (Nat.le_refl _) ?_
  refine lv_istore (i := 7) (lv' := [(7, .int v1440), (6, .int v1422), (5, .int i), (4, .ref ad), (3, .ref ao), (2, .ref am), (1, .ref ax), (0, .ref b)]) hx hb dL_law_1443 hl (by decide) rfl (fun ls hl => ?_)
  refine lv_aload_n hx hb dL_law_1445 rfl (lv_at hl 5 rfl) ?_
  obtain ⟨⟨fs1446, ho1446⟩, hf⟩ := hf
  obtain ⟨v1446, hv1446, hf⟩ := hf
  refine zr_cV X hR hl.1 (As := []) (rest := []) (C := RX10) (T := TX10) (N := 34) (mt_X10_thrown hT am h1440 n1422 hv1446) rfl ho1446 mf_X10_thrown q_1359 q_1360 q_1361 ⟨Nat.le_trans (Nat.le_of_ble_eq_true rfl) hRf, Nat.le_trans (Nat.le_of_ble_eq_true rfl) hRl⟩ ⟨hc, hs⟩ rfl (Nat.le_of_ble_eq_true rfl) dL_law_1446 (fun H locs hR => ?_)
  refine W.eq (g2 := F0 m 1449 ls [.int v1446]) rfl ?_
  refine W.widen (k := cs + 20) (n := ss + 253) (Nat.le_refl _) (Nat.le_refl _) ?_
  refine lv_iload hx hb dL_law_1449 (lv_at hl 1 rfl) ?_
  refine lv_icmp_eq (tgt := 1456) hx hb dL_law_1451 (by decide) (fun c1451 => ?_) (fun c1451 => ?_)
  · replace hf := hf.1 c1451
    refine lv_iload hx hb dL_law_1456 (lv_at hl 1 rfl) ?_
    refine lv_if_ne (tgt := 1473) hx hb dL_law_1458 (by decide) (fun c1458 => ?_) (fun c1458 => ?_)
    · replace hf := hf.2 c1458
      refine lv_goto (tgt := 3298) hx hb dL_law_1473 (by decide) ?_
      exact hK _ _ hf hR (lv_sub hl [2, 3, 4, 5, 6, 7] rfl)
    · replace hf := hf.1 c1458
      refine lv_aload_n hx hb dL_law_1461 rfl (lv_at hl 4 rfl) ?_
      refine lv_iconst (v := (0 : Int32)) hx hb dL_law_1462 (by decide) ?_
      obtain ⟨v1463, hv1463, hf⟩ := hf
      refine zr_lald X hR (r := some ao) dL_law_1463 hv1463 (fun vv hvv => ?_)
      cases hvv
      refine lv_iload hx hb dL_law_1464 (lv_at hl 0 rfl) ?_
      refine lv_i2l hx hb dL_law_1466 rfl ?_
      refine W.lcmp hx hb dL_law_1467 ?_
      refine lv_if_eq (tgt := 1473) hx hb dL_law_1468 (by decide) (fun c1468 => ?_) (fun c1468 => ?_)
      · replace hf := hf.1 c1468
        refine lv_goto (tgt := 3298) hx hb dL_law_1473 (by decide) ?_
        exact hK _ _ hf hR (lv_sub hl [2, 3, 4, 5, 6, 7] rfl)
      · replace hf := hf.2 c1468
        refine lv_iconst (v := (0 : Int32)) hx hb dL_law_1471 (by decide) ?_
        exact hf.elim
  · replace hf := hf.2 c1451
    refine lv_iconst (v := (0 : Int32)) hx hb dL_law_1454 (by decide) ?_
    exact hf.elim
set_option maxHeartbeats 4000000 in
set_option maxRecDepth 100000 in
theorem lc_17 {D : va_G} {dA : Nat → ClassId} {base t0 : Nat} {l : Launch} {p : Program} {e : Env} {R : Room} {s : State} {m : MethodId} {args : Array Value} {below : List Frame} {meth : Method} {c : Code} {Q : State → Prop} (X : zz_X D dA base t0 "SpringseatLaw" cL_law 9 (some .boolean) l p s m meth c) (hT : l.stackTraces = false) (hN : zz_N s) {b L : Nat} {xs : Nat → Int32} (hX : va_X b L xs s s.heap) (hbl : b < s.heap.size) (hbA : ¬ base ≤ b) (hRf : 13 ≤ R.frames) (hRl : 482 ≤ R.locals) {cs ss : Nat} (hc : cs + 20 ≤ R.cells) (hs : ss + 253 ≤ R.slots) {ax am ao ad : Nat} {i x1 x2 x3 x4 : Int32} (hi1 : vp_in (i + 1) L) (hi2 : vp_in (i + 2) L) (hi3 : vp_in (i + 3) L) (hi4 : vp_in (i + 4) L) (hq1 : xs (i + 1).toNatClampNeg = x1) (hq2 : xs (i + 2).toNatClampNeg = x2) (hq3 : xs (i + 3).toNatClampNeg = x3) (hq4 : xs (i + 4).toNatClampNeg = x4) {K : zz_H → Nat → Prop} (hK : ∀ h n, K h n → ∀ {H : Heap} {locs : List Loc} {ls : Array Slot}, zz_R D dA base h n s H locs → lv_has ls 9 [(5, .int i), (4, .ref ad), (3, .ref ao), (2, .ref am), (1, .ref ax), (0, .ref b)] → W p l e R s m args below meth c H locs (cs + 20) (ss + 253) Q (F0 m 3298 ls [])) {h : zz_H} {n : Nat} {H : Heap} {locs : List Loc} {ls : Array Slot} (hR : zz_R D dA base h n s H locs) (hl : lv_has ls 9 [(5, .int i), (4, .ref ad), (3, .ref ao), (2, .ref am), (1, .ref ax), (0, .ref b)]) (hf : w_17 t0 ax am ao ad x1 x2 x3 x4 h n K) : W p l e R s m args below meth c H locs cs ss Q (F0 m 1476 ls []) := by
  have hx := X.1
  have hb := X.2.1
  have hown := X.2.2.2.2.1
  unfold w_17 at hf
  refine lv_aload_n hx hb dL_law_1476 rfl (lv_at hl 4 rfl) ?_
  refine lv_aload_n hx hb dL_law_1477 rfl (lv_at hl 5 rfl) ?_
  refine lv_iload hx hb dL_law_1478 (lv_at hl 0 rfl) ?_
  refine lv_iconst (v := (1 : Int32)) hx hb dL_law_1480 (by decide) ?_
  refine lv_iadd hx hb dL_law_1481 ?_
  refine zl_ld hx hb hX hbl hbA hR.2 hi1 hq1 dL_law_1482 ?_
  refine lv_aload_n hx hb dL_law_1483 rfl (lv_at hl 5 rfl) ?_
  refine lv_iload hx hb dL_law_1484 (lv_at hl 0 rfl) ?_
  refine lv_iconst (v := (2 : Int32)) hx hb dL_law_1486 (by decide) ?_
  refine lv_iadd hx hb dL_law_1487 ?_
  refine zl_ld hx hb hX hbl hbA hR.2 hi2 hq2 dL_law_1488 ?_
  refine lv_aload_n hx hb dL_law_1489 rfl (lv_at hl 2 rfl) ?_
  obtain ⟨v1490, h1490, m1490, hv1490, hf⟩ := hf
  refine zl_cS X hN hR hl.1 (As := [.ref ax, .int x1, .int x2, .ref ao]) (rest := []) (mt_L_thick hT ax x1 x2 ao h n hv1490) mf_L_thick.1 mf_L_thick.2.1 mf_L_thick.2.2 q_923 q_924 ⟨Nat.le_trans (Nat.le_of_ble_eq_true rfl) hRf, Nat.le_trans (Nat.le_of_ble_eq_true rfl) hRl⟩ ⟨Nat.le_trans (Nat.add_le_add_left (Nat.le_of_ble_eq_true rfl) cs) hc, Nat.le_trans (Nat.add_le_add_left (Nat.le_of_ble_eq_true rfl) ss) hs⟩ rfl (Nat.le_of_ble_eq_true rfl) dL_law_1490 (fun n1490 H locs hn1490 hR => ?_)
  replace hf := hf n1490 hn1490
  refine W.eq (g2 := F0 m 1493 ls [.int v1490]) rfl ?_
  refine W.widen (k := cs + 20) (n := ss + 253) (Nat.add_le_add_left (Nat.le_of_ble_eq_true rfl) cs) (Nat.add_le_add_left (Nat.le_of_ble_eq_true rfl) ss) ?_
  refine lv_istore (i := 6) (lv' := [(6, .int v1490), (5, .int i), (4, .ref ad), (3, .ref ao), (2, .ref am), (1, .ref ax), (0, .ref b)]) hx hb dL_law_1493 hl (by decide) rfl (fun ls hl => ?_)
  refine lv_aload_n hx hb dL_law_1495 rfl (lv_at hl 4 rfl) ?_
  refine lv_aload_n hx hb dL_law_1496 rfl (lv_at hl 6 rfl) ?_
  refine lv_iload hx hb dL_law_1497 (lv_at hl 1 rfl) ?_
  refine lv_iconst (v := (1 : Int32)) hx hb dL_law_1499 (by decide) ?_
  refine lv_iadd hx hb dL_law_1500 ?_
  refine zl_ld hx hb hX hbl hbA hR.2 hi1 hq1 dL_law_1501 ?_
  refine lv_aload_n hx hb dL_law_1502 rfl (lv_at hl 6 rfl) ?_
  refine lv_iload hx hb dL_law_1503 (lv_at hl 1 rfl) ?_
  refine lv_iconst (v := (2 : Int32)) hx hb dL_law_1505 (by decide) ?_
  refine lv_iadd hx hb dL_law_1506 ?_
  refine zl_ld hx hb hX hbl hbA hR.2 hi2 hq2 dL_law_1507 ?_
  obtain ⟨⟨fs1508, ho1508⟩, hf⟩ := hf
  obtain ⟨v1508, h1508, hv1508, hf⟩ := hf
  refine zr_cV X hR hl.1 (As := [.int x1, .int x2]) (rest := []) (C := RX10) (T := TX10) (N := 34) (mt_X10_thick hT am x1 x2 h1490 n1490 hv1508) rfl ho1508 mf_X10_thick q_1519 q_1520 q_1521 ⟨Nat.le_trans (Nat.le_of_ble_eq_true rfl) hRf, Nat.le_trans (Nat.le_of_ble_eq_true rfl) hRl⟩ ⟨hc, hs⟩ rfl (Nat.le_of_ble_eq_true rfl) dL_law_1508 (fun H locs hR => ?_)
  refine W.eq (g2 := F0 m 1511 ls [.int v1508]) rfl ?_
  refine W.widen (k := cs + 20) (n := ss + 253) (Nat.le_refl _) (Nat.le_refl _) ?_
  refine lv_istore (i := 7) (lv' := [(7, .int v1508), (6, .int v1490), (5, .int i), (4, .ref ad), (3, .ref ao), (2, .ref am), (1, .ref ax), (0, .ref b)]) hx hb dL_law_1511 hl (by decide) rfl (fun ls hl => ?_)
  refine lv_aload_n hx hb dL_law_1513 rfl (lv_at hl 5 rfl) ?_
  obtain ⟨⟨fs1514, ho1514⟩, hf⟩ := hf
  obtain ⟨v1514, hv1514, hf⟩ := hf
  refine zr_cV X hR hl.1 (As := []) (rest := []) (C := RX10) (T := TX10) (N := 34) (mt_X10_thrown hT am h1508 n1490 hv1514) rfl ho1514 mf_X10_thrown q_1359 q_1360 q_1361 ⟨Nat.le_trans (Nat.le_of_ble_eq_true rfl) hRf, Nat.le_trans (Nat.le_of_ble_eq_true rfl) hRl⟩ ⟨hc, hs⟩ rfl (Nat.le_of_ble_eq_true rfl) dL_law_1514 (fun H locs hR => ?_)
  refine W.eq (g2 := F0 m 1517 ls [.int v1514]) rfl ?_
  refine W.widen (k := cs + 20) (n := ss + 253) (Nat.le_refl _) (Nat.le_refl _) ?_
  refine lv_iload hx hb dL_law_1517 (lv_at hl 1 rfl) ?_
  refine lv_icmp_eq (tgt := 1524) hx hb dL_law_1519 (by decide) (fun c1519 => ?_) (fun c1519 => ?_)
  · replace hf := hf.1 c1519
    refine lv_iload hx hb dL_law_1524 (lv_at hl 1 rfl) ?_
    refine lv_if_ne (tgt := 1541) hx hb dL_law_1526 (by decide) (fun c1526 => ?_) (fun c1526 => ?_)
    · replace hf := hf.2 c1526
      refine lv_goto (tgt := 3298) hx hb dL_law_1541 (by decide) ?_
      exact hK _ _ hf hR (lv_sub hl [2, 3, 4, 5, 6, 7] rfl)
    · replace hf := hf.1 c1526
      refine lv_aload_n hx hb dL_law_1529 rfl (lv_at hl 4 rfl) ?_
      refine lv_iconst (v := (0 : Int32)) hx hb dL_law_1530 (by decide) ?_
      obtain ⟨v1531, hv1531, hf⟩ := hf
      refine zr_lald X hR (r := some ao) dL_law_1531 hv1531 (fun vv hvv => ?_)
      cases hvv
      refine lv_iload hx hb dL_law_1532 (lv_at hl 0 rfl) ?_
      refine lv_i2l hx hb dL_law_1534 rfl ?_
      refine W.lcmp hx hb dL_law_1535 ?_
      refine lv_if_eq (tgt := 1541) hx hb dL_law_1536 (by decide) (fun c1536 => ?_) (fun c1536 => ?_)
      · replace hf := hf.1 c1536
        refine lv_goto (tgt := 3298) hx hb dL_law_1541 (by decide) ?_
        exact hK _ _ hf hR (lv_sub hl [2, 3, 4, 5, 6, 7] rfl)
      · replace hf := hf.2 c1536
        refine lv_iconst (v := (0 : Int32)) hx hb dL_law_1539 (by decide) ?_
        exact hf.elim
  · replace hf := hf.2 c1519
    refine lv_iconst (v := (0 : Int32)) hx hb dL_law_1522 (by decide) ?_
    exact hf.elim
set_option maxHeartbeats 4000000 in
set_option maxRecDepth 100000 in
theorem lc_18 {D : va_G} {dA : Nat → ClassId} {base t0 : Nat} {l : Launch} {p : Program} {e : Env} {R : Room} {s : State} {m : MethodId} {args : Array Value} {below : List Frame} {meth : Method} {c : Code} {Q : State → Prop} (X : zz_X D dA base t0 "SpringseatLaw" cL_law 9 (some .boolean) l p s m meth c) (hT : l.stackTraces = false) (hN : zz_N s) {b L : Nat} {xs : Nat → Int32} (hX : va_X b L xs s s.heap) (hbl : b < s.heap.size) (hbA : ¬ base ≤ b) (hRf : 13 ≤ R.frames) (hRl : 482 ≤ R.locals) {cs ss : Nat} (hc : cs + 20 ≤ R.cells) (hs : ss + 253 ≤ R.slots) {ax am ao ad : Nat} {i x1 x2 x3 x4 : Int32} (hi1 : vp_in (i + 1) L) (hi2 : vp_in (i + 2) L) (hi3 : vp_in (i + 3) L) (hi4 : vp_in (i + 4) L) (hq1 : xs (i + 1).toNatClampNeg = x1) (hq2 : xs (i + 2).toNatClampNeg = x2) (hq3 : xs (i + 3).toNatClampNeg = x3) (hq4 : xs (i + 4).toNatClampNeg = x4) {K : zz_H → Nat → Prop} (hK : ∀ h n, K h n → ∀ {H : Heap} {locs : List Loc} {ls : Array Slot}, zz_R D dA base h n s H locs → lv_has ls 9 [(5, .int i), (4, .ref ad), (3, .ref ao), (2, .ref am), (1, .ref ax), (0, .ref b)] → W p l e R s m args below meth c H locs (cs + 20) (ss + 253) Q (F0 m 3298 ls [])) {h : zz_H} {n : Nat} {H : Heap} {locs : List Loc} {ls : Array Slot} (hR : zz_R D dA base h n s H locs) (hl : lv_has ls 9 [(5, .int i), (4, .ref ad), (3, .ref ao), (2, .ref am), (1, .ref ax), (0, .ref b)]) (hf : w_18 t0 ax am ao ad x1 x2 x3 x4 h n K) : W p l e R s m args below meth c H locs cs ss Q (F0 m 1544 ls []) := by
  have hx := X.1
  have hb := X.2.1
  have hown := X.2.2.2.2.1
  unfold w_18 at hf
  refine lv_aload_n hx hb dL_law_1544 rfl (lv_at hl 4 rfl) ?_
  refine lv_aload_n hx hb dL_law_1545 rfl (lv_at hl 5 rfl) ?_
  refine lv_iload hx hb dL_law_1546 (lv_at hl 0 rfl) ?_
  refine lv_iconst (v := (1 : Int32)) hx hb dL_law_1548 (by decide) ?_
  refine lv_iadd hx hb dL_law_1549 ?_
  refine zl_ld hx hb hX hbl hbA hR.2 hi1 hq1 dL_law_1550 ?_
  refine lv_aload_n hx hb dL_law_1551 rfl (lv_at hl 5 rfl) ?_
  refine lv_iload hx hb dL_law_1552 (lv_at hl 0 rfl) ?_
  refine lv_iconst (v := (2 : Int32)) hx hb dL_law_1554 (by decide) ?_
  refine lv_iadd hx hb dL_law_1555 ?_
  refine zl_ld hx hb hX hbl hbA hR.2 hi2 hq2 dL_law_1556 ?_
  refine lv_aload_n hx hb dL_law_1557 rfl (lv_at hl 2 rfl) ?_
  obtain ⟨v1558, h1558, m1558, hv1558, hf⟩ := hf
  refine zl_cS X hN hR hl.1 (As := [.ref ax, .int x1, .int x2, .ref ao]) (rest := []) (mt_L_top hT ax x1 x2 ao h n hv1558) mf_L_top.1 mf_L_top.2.1 mf_L_top.2.2 q_937 q_938 ⟨Nat.le_trans (Nat.le_of_ble_eq_true rfl) hRf, Nat.le_trans (Nat.le_of_ble_eq_true rfl) hRl⟩ ⟨Nat.le_trans (Nat.add_le_add_left (Nat.le_of_ble_eq_true rfl) cs) hc, Nat.le_trans (Nat.add_le_add_left (Nat.le_of_ble_eq_true rfl) ss) hs⟩ rfl (Nat.le_of_ble_eq_true rfl) dL_law_1558 (fun n1558 H locs hn1558 hR => ?_)
  replace hf := hf n1558 hn1558
  refine W.eq (g2 := F0 m 1561 ls [.int v1558]) rfl ?_
  refine W.widen (k := cs + 20) (n := ss + 253) (Nat.add_le_add_left (Nat.le_of_ble_eq_true rfl) cs) (Nat.add_le_add_left (Nat.le_of_ble_eq_true rfl) ss) ?_
  refine lv_istore (i := 6) (lv' := [(6, .int v1558), (5, .int i), (4, .ref ad), (3, .ref ao), (2, .ref am), (1, .ref ax), (0, .ref b)]) hx hb dL_law_1561 hl (by decide) rfl (fun ls hl => ?_)
  refine lv_aload_n hx hb dL_law_1563 rfl (lv_at hl 4 rfl) ?_
  refine lv_aload_n hx hb dL_law_1564 rfl (lv_at hl 6 rfl) ?_
  refine lv_iload hx hb dL_law_1565 (lv_at hl 1 rfl) ?_
  refine lv_iconst (v := (1 : Int32)) hx hb dL_law_1567 (by decide) ?_
  refine lv_iadd hx hb dL_law_1568 ?_
  refine zl_ld hx hb hX hbl hbA hR.2 hi1 hq1 dL_law_1569 ?_
  refine lv_aload_n hx hb dL_law_1570 rfl (lv_at hl 6 rfl) ?_
  refine lv_iload hx hb dL_law_1571 (lv_at hl 1 rfl) ?_
  refine lv_iconst (v := (2 : Int32)) hx hb dL_law_1573 (by decide) ?_
  refine lv_iadd hx hb dL_law_1574 ?_
  refine zl_ld hx hb hX hbl hbA hR.2 hi2 hq2 dL_law_1575 ?_
  obtain ⟨⟨fs1576, ho1576⟩, hf⟩ := hf
  obtain ⟨v1576, h1576, hv1576, hf⟩ := hf
  refine zr_cV X hR hl.1 (As := [.int x1, .int x2]) (rest := []) (C := RX10) (T := TX10) (N := 34) (mt_X10_top hT am x1 x2 h1558 n1558 hv1576) rfl ho1576 mf_X10_top q_1527 q_1528 q_1529 ⟨Nat.le_trans (Nat.le_of_ble_eq_true rfl) hRf, Nat.le_trans (Nat.le_of_ble_eq_true rfl) hRl⟩ ⟨hc, hs⟩ rfl (Nat.le_of_ble_eq_true rfl) dL_law_1576 (fun H locs hR => ?_)
  refine W.eq (g2 := F0 m 1579 ls [.int v1576]) rfl ?_
  refine W.widen (k := cs + 20) (n := ss + 253) (Nat.le_refl _) (Nat.le_refl _) ?_
  refine lv_istore (i := 7) (lv' := [(7, .int v1576), (6, .int v1558), (5, .int i), (4, .ref ad), (3, .ref ao), (2, .ref am), (1, .ref ax), (0, .ref b)]) hx hb dL_law_1579 hl (by decide) rfl (fun ls hl => ?_)
  refine lv_aload_n hx hb dL_law_1581 rfl (lv_at hl 5 rfl) ?_
  obtain ⟨⟨fs1582, ho1582⟩, hf⟩ := hf
  obtain ⟨v1582, hv1582, hf⟩ := hf
  refine zr_cV X hR hl.1 (As := []) (rest := []) (C := RX10) (T := TX10) (N := 34) (mt_X10_thrown hT am h1576 n1558 hv1582) rfl ho1582 mf_X10_thrown q_1359 q_1360 q_1361 ⟨Nat.le_trans (Nat.le_of_ble_eq_true rfl) hRf, Nat.le_trans (Nat.le_of_ble_eq_true rfl) hRl⟩ ⟨hc, hs⟩ rfl (Nat.le_of_ble_eq_true rfl) dL_law_1582 (fun H locs hR => ?_)
  refine W.eq (g2 := F0 m 1585 ls [.int v1582]) rfl ?_
  refine W.widen (k := cs + 20) (n := ss + 253) (Nat.le_refl _) (Nat.le_refl _) ?_
  refine lv_iload hx hb dL_law_1585 (lv_at hl 1 rfl) ?_
  refine lv_icmp_eq (tgt := 1592) hx hb dL_law_1587 (by decide) (fun c1587 => ?_) (fun c1587 => ?_)
  · replace hf := hf.1 c1587
    refine lv_iload hx hb dL_law_1592 (lv_at hl 1 rfl) ?_
    refine lv_if_ne (tgt := 1609) hx hb dL_law_1594 (by decide) (fun c1594 => ?_) (fun c1594 => ?_)
    · replace hf := hf.2 c1594
      refine lv_goto (tgt := 3298) hx hb dL_law_1609 (by decide) ?_
      exact hK _ _ hf hR (lv_sub hl [2, 3, 4, 5, 6, 7] rfl)
    · replace hf := hf.1 c1594
      refine lv_aload_n hx hb dL_law_1597 rfl (lv_at hl 4 rfl) ?_
      refine lv_iconst (v := (0 : Int32)) hx hb dL_law_1598 (by decide) ?_
      obtain ⟨v1599, hv1599, hf⟩ := hf
      refine zr_lald X hR (r := some ao) dL_law_1599 hv1599 (fun vv hvv => ?_)
      cases hvv
      refine lv_iload hx hb dL_law_1600 (lv_at hl 0 rfl) ?_
      refine lv_i2l hx hb dL_law_1602 rfl ?_
      refine W.lcmp hx hb dL_law_1603 ?_
      refine lv_if_eq (tgt := 1609) hx hb dL_law_1604 (by decide) (fun c1604 => ?_) (fun c1604 => ?_)
      · replace hf := hf.1 c1604
        refine lv_goto (tgt := 3298) hx hb dL_law_1609 (by decide) ?_
        exact hK _ _ hf hR (lv_sub hl [2, 3, 4, 5, 6, 7] rfl)
      · replace hf := hf.2 c1604
        refine lv_iconst (v := (0 : Int32)) hx hb dL_law_1607 (by decide) ?_
        exact hf.elim
  · replace hf := hf.2 c1587
    refine lv_iconst (v := (0 : Int32)) hx hb dL_law_1590 (by decide) ?_
    exact hf.elim
set_option maxHeartbeats 4000000 in
set_option maxRecDepth 100000 in
theorem lc_19 {D : va_G} {dA : Nat → ClassId} {base t0 : Nat} {l : Launch} {p : Program} {e : Env} {R : Room} {s : State} {m : MethodId} {args : Array Value} {below : List Frame} {meth : Method} {c : Code} {Q : State → Prop} (X : zz_X D dA base t0 "SpringseatLaw" cL_law 9 (some .boolean) l p s m meth c) (hT : l.stackTraces = false) (hN : zz_N s) {b L : Nat} {xs : Nat → Int32} (hX : va_X b L xs s s.heap) (hbl : b < s.heap.size) (hbA : ¬ base ≤ b) (hRf : 13 ≤ R.frames) (hRl : 482 ≤ R.locals) {cs ss : Nat} (hc : cs + 20 ≤ R.cells) (hs : ss + 253 ≤ R.slots) {ax am ao ad : Nat} {i x1 x2 x3 x4 : Int32} (hi1 : vp_in (i + 1) L) (hi2 : vp_in (i + 2) L) (hi3 : vp_in (i + 3) L) (hi4 : vp_in (i + 4) L) (hq1 : xs (i + 1).toNatClampNeg = x1) (hq2 : xs (i + 2).toNatClampNeg = x2) (hq3 : xs (i + 3).toNatClampNeg = x3) (hq4 : xs (i + 4).toNatClampNeg = x4) {K : zz_H → Nat → Prop} (hK : ∀ h n, K h n → ∀ {H : Heap} {locs : List Loc} {ls : Array Slot}, zz_R D dA base h n s H locs → lv_has ls 9 [(5, .int i), (4, .ref ad), (3, .ref ao), (2, .ref am), (1, .ref ax), (0, .ref b)] → W p l e R s m args below meth c H locs (cs + 20) (ss + 253) Q (F0 m 3298 ls [])) {h : zz_H} {n : Nat} {H : Heap} {locs : List Loc} {ls : Array Slot} (hR : zz_R D dA base h n s H locs) (hl : lv_has ls 9 [(5, .int i), (4, .ref ad), (3, .ref ao), (2, .ref am), (1, .ref ax), (0, .ref b)]) (hf : w_19 t0 ax am ao ad x1 x2 x3 x4 h n K) : W p l e R s m args below meth c H locs cs ss Q (F0 m 1612 ls []) := by
  have hx := X.1
  have hb := X.2.1
  have hown := X.2.2.2.2.1
  unfold w_19 at hf
  refine lv_aload_n hx hb dL_law_1612 rfl (lv_at hl 4 rfl) ?_
  refine lv_aload_n hx hb dL_law_1613 rfl (lv_at hl 5 rfl) ?_
  refine lv_iload hx hb dL_law_1614 (lv_at hl 0 rfl) ?_
  refine lv_iconst (v := (1 : Int32)) hx hb dL_law_1616 (by decide) ?_
  refine lv_iadd hx hb dL_law_1617 ?_
  refine zl_ld hx hb hX hbl hbA hR.2 hi1 hq1 dL_law_1618 ?_
  refine lv_aload_n hx hb dL_law_1619 rfl (lv_at hl 5 rfl) ?_
  refine lv_iload hx hb dL_law_1620 (lv_at hl 0 rfl) ?_
  refine lv_iconst (v := (2 : Int32)) hx hb dL_law_1622 (by decide) ?_
  refine lv_iadd hx hb dL_law_1623 ?_
  refine zl_ld hx hb hX hbl hbA hR.2 hi2 hq2 dL_law_1624 ?_
  refine lv_if_eq (tgt := 1632) hx hb dL_law_1625 (by decide) (fun c1625 => ?_) (fun c1625 => ?_)
  · replace hf := hf.1 c1625
    refine lv_iconst (v := (0 : Int32)) hx hb dL_law_1632 (by decide) ?_
    refine lv_aload_n hx hb dL_law_1633 rfl (lv_at hl 2 rfl) ?_
    obtain ⟨v1634, h1634, m1634, hv1634, hf⟩ := hf
    refine zl_cS X hN hR hl.1 (As := [.ref ax, .int x1, .int (0 : Int32), .ref ao]) (rest := []) (mt_L_folds hT ax x1 (0 : Int32) ao h n hv1634) mf_L_folds.1 mf_L_folds.2.1 mf_L_folds.2.2 q_944 q_945 ⟨Nat.le_trans (Nat.le_of_ble_eq_true rfl) hRf, Nat.le_trans (Nat.le_of_ble_eq_true rfl) hRl⟩ ⟨Nat.le_trans (Nat.add_le_add_left (Nat.le_of_ble_eq_true rfl) cs) hc, Nat.le_trans (Nat.add_le_add_left (Nat.le_of_ble_eq_true rfl) ss) hs⟩ rfl (Nat.le_of_ble_eq_true rfl) dL_law_1634 (fun n1634 H locs hn1634 hR => ?_)
    replace hf := hf n1634 hn1634
    refine W.eq (g2 := F0 m 1637 ls [.int v1634]) rfl ?_
    refine W.widen (k := cs + 20) (n := ss + 253) (Nat.add_le_add_left (Nat.le_of_ble_eq_true rfl) cs) (Nat.add_le_add_left (Nat.le_of_ble_eq_true rfl) ss) ?_
    refine lv_istore (i := 6) (lv' := [(6, .int v1634), (5, .int i), (4, .ref ad), (3, .ref ao), (2, .ref am), (1, .ref ax), (0, .ref b)]) hx hb dL_law_1637 hl (by decide) rfl (fun ls hl => ?_)
    refine lv_aload_n hx hb dL_law_1639 rfl (lv_at hl 4 rfl) ?_
    refine lv_aload_n hx hb dL_law_1640 rfl (lv_at hl 6 rfl) ?_
    refine lv_iload hx hb dL_law_1641 (lv_at hl 1 rfl) ?_
    refine lv_iconst (v := (1 : Int32)) hx hb dL_law_1643 (by decide) ?_
    refine lv_iadd hx hb dL_law_1644 ?_
    refine zl_ld hx hb hX hbl hbA hR.2 hi1 hq1 dL_law_1645 ?_
    refine lv_aload_n hx hb dL_law_1646 rfl (lv_at hl 6 rfl) ?_
    refine lv_iload hx hb dL_law_1647 (lv_at hl 1 rfl) ?_
    refine lv_iconst (v := (2 : Int32)) hx hb dL_law_1649 (by decide) ?_
    refine lv_iadd hx hb dL_law_1650 ?_
    refine zl_ld hx hb hX hbl hbA hR.2 hi2 hq2 dL_law_1651 ?_
    refine lv_if_eq (tgt := 1659) hx hb dL_law_1652 (by decide) (fun c1652 => ?_) (fun c1652 => ?_)
    · replace hf := hf.1 c1652
      refine lv_iconst (v := (0 : Int32)) hx hb dL_law_1659 (by decide) ?_
      obtain ⟨⟨fs1660, ho1660⟩, hf⟩ := hf
      obtain ⟨v1660, h1660, hv1660, hf⟩ := hf
      refine zr_cV X hR hl.1 (As := [.int x1, .int (0 : Int32)]) (rest := []) (C := RX10) (T := TX10) (N := 34) (mt_X10_folds hT am x1 (0 : Int32) h1634 n1634 hv1660) rfl ho1660 mf_X10_folds q_1531 q_1532 q_1533 ⟨Nat.le_trans (Nat.le_of_ble_eq_true rfl) hRf, Nat.le_trans (Nat.le_of_ble_eq_true rfl) hRl⟩ ⟨hc, hs⟩ rfl (Nat.le_of_ble_eq_true rfl) dL_law_1660 (fun H locs hR => ?_)
      refine W.eq (g2 := F0 m 1663 ls [.int v1660]) rfl ?_
      refine W.widen (k := cs + 20) (n := ss + 253) (Nat.le_refl _) (Nat.le_refl _) ?_
      refine lv_istore (i := 7) (lv' := [(7, .int v1660), (6, .int v1634), (5, .int i), (4, .ref ad), (3, .ref ao), (2, .ref am), (1, .ref ax), (0, .ref b)]) hx hb dL_law_1663 hl (by decide) rfl (fun ls hl => ?_)
      refine lv_aload_n hx hb dL_law_1665 rfl (lv_at hl 5 rfl) ?_
      obtain ⟨⟨fs1666, ho1666⟩, hf⟩ := hf
      obtain ⟨v1666, hv1666, hf⟩ := hf
      refine zr_cV X hR hl.1 (As := []) (rest := []) (C := RX10) (T := TX10) (N := 34) (mt_X10_thrown hT am h1660 n1634 hv1666) rfl ho1666 mf_X10_thrown q_1359 q_1360 q_1361 ⟨Nat.le_trans (Nat.le_of_ble_eq_true rfl) hRf, Nat.le_trans (Nat.le_of_ble_eq_true rfl) hRl⟩ ⟨hc, hs⟩ rfl (Nat.le_of_ble_eq_true rfl) dL_law_1666 (fun H locs hR => ?_)
      refine W.eq (g2 := F0 m 1669 ls [.int v1666]) rfl ?_
      refine W.widen (k := cs + 20) (n := ss + 253) (Nat.le_refl _) (Nat.le_refl _) ?_
      refine lv_iload hx hb dL_law_1669 (lv_at hl 1 rfl) ?_
      refine lv_icmp_eq (tgt := 1676) hx hb dL_law_1671 (by decide) (fun c1671 => ?_) (fun c1671 => ?_)
      · replace hf := hf.1 c1671
        refine lv_iload hx hb dL_law_1676 (lv_at hl 1 rfl) ?_
        refine lv_if_ne (tgt := 1693) hx hb dL_law_1678 (by decide) (fun c1678 => ?_) (fun c1678 => ?_)
        · replace hf := hf.2 c1678
          refine lv_goto (tgt := 3298) hx hb dL_law_1693 (by decide) ?_
          exact hK _ _ hf hR (lv_sub hl [2, 3, 4, 5, 6, 7] rfl)
        · replace hf := hf.1 c1678
          refine lv_aload_n hx hb dL_law_1681 rfl (lv_at hl 4 rfl) ?_
          refine lv_iconst (v := (0 : Int32)) hx hb dL_law_1682 (by decide) ?_
          obtain ⟨v1683, hv1683, hf⟩ := hf
          refine zr_lald X hR (r := some ao) dL_law_1683 hv1683 (fun vv hvv => ?_)
          cases hvv
          refine lv_iload hx hb dL_law_1684 (lv_at hl 0 rfl) ?_
          refine lv_i2l hx hb dL_law_1686 rfl ?_
          refine W.lcmp hx hb dL_law_1687 ?_
          refine lv_if_eq (tgt := 1693) hx hb dL_law_1688 (by decide) (fun c1688 => ?_) (fun c1688 => ?_)
          · replace hf := hf.1 c1688
            refine lv_goto (tgt := 3298) hx hb dL_law_1693 (by decide) ?_
            exact hK _ _ hf hR (lv_sub hl [2, 3, 4, 5, 6, 7] rfl)
          · replace hf := hf.2 c1688
            refine lv_iconst (v := (0 : Int32)) hx hb dL_law_1691 (by decide) ?_
            exact hf.elim
      · replace hf := hf.2 c1671
        refine lv_iconst (v := (0 : Int32)) hx hb dL_law_1674 (by decide) ?_
        exact hf.elim
    · replace hf := hf.2 c1652
      refine lv_iconst (v := (1 : Int32)) hx hb dL_law_1655 (by decide) ?_
      refine lv_goto (tgt := 1660) hx hb dL_law_1656 (by decide) ?_
      obtain ⟨⟨fs1660, ho1660⟩, hf⟩ := hf
      obtain ⟨v1660, h1660, hv1660, hf⟩ := hf
      refine zr_cV X hR hl.1 (As := [.int x1, .int (1 : Int32)]) (rest := []) (C := RX10) (T := TX10) (N := 34) (mt_X10_folds hT am x1 (1 : Int32) h1634 n1634 hv1660) rfl ho1660 mf_X10_folds q_1531 q_1532 q_1533 ⟨Nat.le_trans (Nat.le_of_ble_eq_true rfl) hRf, Nat.le_trans (Nat.le_of_ble_eq_true rfl) hRl⟩ ⟨hc, hs⟩ rfl (Nat.le_of_ble_eq_true rfl) dL_law_1660 (fun H locs hR => ?_)
      refine W.eq (g2 := F0 m 1663 ls [.int v1660]) rfl ?_
      refine W.widen (k := cs + 20) (n := ss + 253) (Nat.le_refl _) (Nat.le_refl _) ?_
      refine lv_istore (i := 7) (lv' := [(7, .int v1660), (6, .int v1634), (5, .int i), (4, .ref ad), (3, .ref ao), (2, .ref am), (1, .ref ax), (0, .ref b)]) hx hb dL_law_1663 hl (by decide) rfl (fun ls hl => ?_)
      refine lv_aload_n hx hb dL_law_1665 rfl (lv_at hl 5 rfl) ?_
      obtain ⟨⟨fs1666, ho1666⟩, hf⟩ := hf
      obtain ⟨v1666, hv1666, hf⟩ := hf
      refine zr_cV X hR hl.1 (As := []) (rest := []) (C := RX10) (T := TX10) (N := 34) (mt_X10_thrown hT am h1660 n1634 hv1666) rfl ho1666 mf_X10_thrown q_1359 q_1360 q_1361 ⟨Nat.le_trans (Nat.le_of_ble_eq_true rfl) hRf, Nat.le_trans (Nat.le_of_ble_eq_true rfl) hRl⟩ ⟨hc, hs⟩ rfl (Nat.le_of_ble_eq_true rfl) dL_law_1666 (fun H locs hR => ?_)
      refine W.eq (g2 := F0 m 1669 ls [.int v1666]) rfl ?_
      refine W.widen (k := cs + 20) (n := ss + 253) (Nat.le_refl _) (Nat.le_refl _) ?_
      refine lv_iload hx hb dL_law_1669 (lv_at hl 1 rfl) ?_
      refine lv_icmp_eq (tgt := 1676) hx hb dL_law_1671 (by decide) (fun c1671 => ?_) (fun c1671 => ?_)
      · replace hf := hf.1 c1671
        refine lv_iload hx hb dL_law_1676 (lv_at hl 1 rfl) ?_
        refine lv_if_ne (tgt := 1693) hx hb dL_law_1678 (by decide) (fun c1678 => ?_) (fun c1678 => ?_)
        · replace hf := hf.2 c1678
          refine lv_goto (tgt := 3298) hx hb dL_law_1693 (by decide) ?_
          exact hK _ _ hf hR (lv_sub hl [2, 3, 4, 5, 6, 7] rfl)
        · replace hf := hf.1 c1678
          refine lv_aload_n hx hb dL_law_1681 rfl (lv_at hl 4 rfl) ?_
          refine lv_iconst (v := (0 : Int32)) hx hb dL_law_1682 (by decide) ?_
          obtain ⟨v1683, hv1683, hf⟩ := hf
          refine zr_lald X hR (r := some ao) dL_law_1683 hv1683 (fun vv hvv => ?_)
          cases hvv
          refine lv_iload hx hb dL_law_1684 (lv_at hl 0 rfl) ?_
          refine lv_i2l hx hb dL_law_1686 rfl ?_
          refine W.lcmp hx hb dL_law_1687 ?_
          refine lv_if_eq (tgt := 1693) hx hb dL_law_1688 (by decide) (fun c1688 => ?_) (fun c1688 => ?_)
          · replace hf := hf.1 c1688
            refine lv_goto (tgt := 3298) hx hb dL_law_1693 (by decide) ?_
            exact hK _ _ hf hR (lv_sub hl [2, 3, 4, 5, 6, 7] rfl)
          · replace hf := hf.2 c1688
            refine lv_iconst (v := (0 : Int32)) hx hb dL_law_1691 (by decide) ?_
            exact hf.elim
      · replace hf := hf.2 c1671
        refine lv_iconst (v := (0 : Int32)) hx hb dL_law_1674 (by decide) ?_
        exact hf.elim
  · replace hf := hf.2 c1625
    refine lv_iconst (v := (1 : Int32)) hx hb dL_law_1628 (by decide) ?_
    refine lv_goto (tgt := 1633) hx hb dL_law_1629 (by decide) ?_
    refine lv_aload_n hx hb dL_law_1633 rfl (lv_at hl 2 rfl) ?_
    obtain ⟨v1634, h1634, m1634, hv1634, hf⟩ := hf
    refine zl_cS X hN hR hl.1 (As := [.ref ax, .int x1, .int (1 : Int32), .ref ao]) (rest := []) (mt_L_folds hT ax x1 (1 : Int32) ao h n hv1634) mf_L_folds.1 mf_L_folds.2.1 mf_L_folds.2.2 q_944 q_945 ⟨Nat.le_trans (Nat.le_of_ble_eq_true rfl) hRf, Nat.le_trans (Nat.le_of_ble_eq_true rfl) hRl⟩ ⟨Nat.le_trans (Nat.add_le_add_left (Nat.le_of_ble_eq_true rfl) cs) hc, Nat.le_trans (Nat.add_le_add_left (Nat.le_of_ble_eq_true rfl) ss) hs⟩ rfl (Nat.le_of_ble_eq_true rfl) dL_law_1634 (fun n1634 H locs hn1634 hR => ?_)
    replace hf := hf n1634 hn1634
    refine W.eq (g2 := F0 m 1637 ls [.int v1634]) rfl ?_
    refine W.widen (k := cs + 20) (n := ss + 253) (Nat.add_le_add_left (Nat.le_of_ble_eq_true rfl) cs) (Nat.add_le_add_left (Nat.le_of_ble_eq_true rfl) ss) ?_
    refine lv_istore (i := 6) (lv' := [(6, .int v1634), (5, .int i), (4, .ref ad), (3, .ref ao), (2, .ref am), (1, .ref ax), (0, .ref b)]) hx hb dL_law_1637 hl (by decide) rfl (fun ls hl => ?_)
    refine lv_aload_n hx hb dL_law_1639 rfl (lv_at hl 4 rfl) ?_
    refine lv_aload_n hx hb dL_law_1640 rfl (lv_at hl 6 rfl) ?_
    refine lv_iload hx hb dL_law_1641 (lv_at hl 1 rfl) ?_
    refine lv_iconst (v := (1 : Int32)) hx hb dL_law_1643 (by decide) ?_
    refine lv_iadd hx hb dL_law_1644 ?_
    refine zl_ld hx hb hX hbl hbA hR.2 hi1 hq1 dL_law_1645 ?_
    refine lv_aload_n hx hb dL_law_1646 rfl (lv_at hl 6 rfl) ?_
    refine lv_iload hx hb dL_law_1647 (lv_at hl 1 rfl) ?_
    refine lv_iconst (v := (2 : Int32)) hx hb dL_law_1649 (by decide) ?_
    refine lv_iadd hx hb dL_law_1650 ?_
    refine zl_ld hx hb hX hbl hbA hR.2 hi2 hq2 dL_law_1651 ?_
    refine lv_if_eq (tgt := 1659) hx hb dL_law_1652 (by decide) (fun c1652 => ?_) (fun c1652 => ?_)
    · replace hf := hf.1 c1652
      refine lv_iconst (v := (0 : Int32)) hx hb dL_law_1659 (by decide) ?_
      obtain ⟨⟨fs1660, ho1660⟩, hf⟩ := hf
      obtain ⟨v1660, h1660, hv1660, hf⟩ := hf
      refine zr_cV X hR hl.1 (As := [.int x1, .int (0 : Int32)]) (rest := []) (C := RX10) (T := TX10) (N := 34) (mt_X10_folds hT am x1 (0 : Int32) h1634 n1634 hv1660) rfl ho1660 mf_X10_folds q_1531 q_1532 q_1533 ⟨Nat.le_trans (Nat.le_of_ble_eq_true rfl) hRf, Nat.le_trans (Nat.le_of_ble_eq_true rfl) hRl⟩ ⟨hc, hs⟩ rfl (Nat.le_of_ble_eq_true rfl) dL_law_1660 (fun H locs hR => ?_)
      refine W.eq (g2 := F0 m 1663 ls [.int v1660]) rfl ?_
      refine W.widen (k := cs + 20) (n := ss + 253) (Nat.le_refl _) (Nat.le_refl _) ?_
      refine lv_istore (i := 7) (lv' := [(7, .int v1660), (6, .int v1634), (5, .int i), (4, .ref ad), (3, .ref ao), (2, .ref am), (1, .ref ax), (0, .ref b)]) hx hb dL_law_1663 hl (by decide) rfl (fun ls hl => ?_)
      refine lv_aload_n hx hb dL_law_1665 rfl (lv_at hl 5 rfl) ?_
      obtain ⟨⟨fs1666, ho1666⟩, hf⟩ := hf
      obtain ⟨v1666, hv1666, hf⟩ := hf
      refine zr_cV X hR hl.1 (As := []) (rest := []) (C := RX10) (T := TX10) (N := 34) (mt_X10_thrown hT am h1660 n1634 hv1666) rfl ho1666 mf_X10_thrown q_1359 q_1360 q_1361 ⟨Nat.le_trans (Nat.le_of_ble_eq_true rfl) hRf, Nat.le_trans (Nat.le_of_ble_eq_true rfl) hRl⟩ ⟨hc, hs⟩ rfl (Nat.le_of_ble_eq_true rfl) dL_law_1666 (fun H locs hR => ?_)
      refine W.eq (g2 := F0 m 1669 ls [.int v1666]) rfl ?_
      refine W.widen (k := cs + 20) (n := ss + 253) (Nat.le_refl _) (Nat.le_refl _) ?_
      refine lv_iload hx hb dL_law_1669 (lv_at hl 1 rfl) ?_
      refine lv_icmp_eq (tgt := 1676) hx hb dL_law_1671 (by decide) (fun c1671 => ?_) (fun c1671 => ?_)
      · replace hf := hf.1 c1671
        refine lv_iload hx hb dL_law_1676 (lv_at hl 1 rfl) ?_
        refine lv_if_ne (tgt := 1693) hx hb dL_law_1678 (by decide) (fun c1678 => ?_) (fun c1678 => ?_)
        · replace hf := hf.2 c1678
          refine lv_goto (tgt := 3298) hx hb dL_law_1693 (by decide) ?_
          exact hK _ _ hf hR (lv_sub hl [2, 3, 4, 5, 6, 7] rfl)
        · replace hf := hf.1 c1678
          refine lv_aload_n hx hb dL_law_1681 rfl (lv_at hl 4 rfl) ?_
          refine lv_iconst (v := (0 : Int32)) hx hb dL_law_1682 (by decide) ?_
          obtain ⟨v1683, hv1683, hf⟩ := hf
          refine zr_lald X hR (r := some ao) dL_law_1683 hv1683 (fun vv hvv => ?_)
          cases hvv
          refine lv_iload hx hb dL_law_1684 (lv_at hl 0 rfl) ?_
          refine lv_i2l hx hb dL_law_1686 rfl ?_
          refine W.lcmp hx hb dL_law_1687 ?_
          refine lv_if_eq (tgt := 1693) hx hb dL_law_1688 (by decide) (fun c1688 => ?_) (fun c1688 => ?_)
          · replace hf := hf.1 c1688
            refine lv_goto (tgt := 3298) hx hb dL_law_1693 (by decide) ?_
            exact hK _ _ hf hR (lv_sub hl [2, 3, 4, 5, 6, 7] rfl)
          · replace hf := hf.2 c1688
            refine lv_iconst (v := (0 : Int32)) hx hb dL_law_1691 (by decide) ?_
            exact hf.elim
      · replace hf := hf.2 c1671
        refine lv_iconst (v := (0 : Int32)) hx hb dL_law_1674 (by decide) ?_
        exact hf.elim
    · replace hf := hf.2 c1652
      refine lv_iconst (v := (1 : Int32)) hx hb dL_law_1655 (by decide) ?_
      refine lv_goto (tgt := 1660) hx hb dL_law_1656 (by decide) ?_
      obtain ⟨⟨fs1660, ho1660⟩, hf⟩ := hf
      obtain ⟨v1660, h1660, hv1660, hf⟩ := hf
      refine zr_cV X hR hl.1 (As := [.int x1, .int (1 : Int32)]) (rest := []) (C := RX10) (T := TX10) (N := 34) (mt_X10_folds hT am x1 (1 : Int32) h1634 n1634 hv1660) rfl ho1660 mf_X10_folds q_1531 q_1532 q_1533 ⟨Nat.le_trans (Nat.le_of_ble_eq_true rfl) hRf, Nat.le_trans (Nat.le_of_ble_eq_true rfl) hRl⟩ ⟨hc, hs⟩ rfl (Nat.le_of_ble_eq_true rfl) dL_law_1660 (fun H locs hR => ?_)
      refine W.eq (g2 := F0 m 1663 ls [.int v1660]) rfl ?_
      refine W.widen (k := cs + 20) (n := ss + 253) (Nat.le_refl _) (Nat.le_refl _) ?_
      refine lv_istore (i := 7) (lv' := [(7, .int v1660), (6, .int v1634), (5, .int i), (4, .ref ad), (3, .ref ao), (2, .ref am), (1, .ref ax), (0, .ref b)]) hx hb dL_law_1663 hl (by decide) rfl (fun ls hl => ?_)
      refine lv_aload_n hx hb dL_law_1665 rfl (lv_at hl 5 rfl) ?_
      obtain ⟨⟨fs1666, ho1666⟩, hf⟩ := hf
      obtain ⟨v1666, hv1666, hf⟩ := hf
      refine zr_cV X hR hl.1 (As := []) (rest := []) (C := RX10) (T := TX10) (N := 34) (mt_X10_thrown hT am h1660 n1634 hv1666) rfl ho1666 mf_X10_thrown q_1359 q_1360 q_1361 ⟨Nat.le_trans (Nat.le_of_ble_eq_true rfl) hRf, Nat.le_trans (Nat.le_of_ble_eq_true rfl) hRl⟩ ⟨hc, hs⟩ rfl (Nat.le_of_ble_eq_true rfl) dL_law_1666 (fun H locs hR => ?_)
      refine W.eq (g2 := F0 m 1669 ls [.int v1666]) rfl ?_
      refine W.widen (k := cs + 20) (n := ss + 253) (Nat.le_refl _) (Nat.le_refl _) ?_
      refine lv_iload hx hb dL_law_1669 (lv_at hl 1 rfl) ?_
      refine lv_icmp_eq (tgt := 1676) hx hb dL_law_1671 (by decide) (fun c1671 => ?_) (fun c1671 => ?_)
      · replace hf := hf.1 c1671
        refine lv_iload hx hb dL_law_1676 (lv_at hl 1 rfl) ?_
        refine lv_if_ne (tgt := 1693) hx hb dL_law_1678 (by decide) (fun c1678 => ?_) (fun c1678 => ?_)
        · replace hf := hf.2 c1678
          refine lv_goto (tgt := 3298) hx hb dL_law_1693 (by decide) ?_
          exact hK _ _ hf hR (lv_sub hl [2, 3, 4, 5, 6, 7] rfl)
        · replace hf := hf.1 c1678
          refine lv_aload_n hx hb dL_law_1681 rfl (lv_at hl 4 rfl) ?_
          refine lv_iconst (v := (0 : Int32)) hx hb dL_law_1682 (by decide) ?_
          obtain ⟨v1683, hv1683, hf⟩ := hf
          refine zr_lald X hR (r := some ao) dL_law_1683 hv1683 (fun vv hvv => ?_)
          cases hvv
          refine lv_iload hx hb dL_law_1684 (lv_at hl 0 rfl) ?_
          refine lv_i2l hx hb dL_law_1686 rfl ?_
          refine W.lcmp hx hb dL_law_1687 ?_
          refine lv_if_eq (tgt := 1693) hx hb dL_law_1688 (by decide) (fun c1688 => ?_) (fun c1688 => ?_)
          · replace hf := hf.1 c1688
            refine lv_goto (tgt := 3298) hx hb dL_law_1693 (by decide) ?_
            exact hK _ _ hf hR (lv_sub hl [2, 3, 4, 5, 6, 7] rfl)
          · replace hf := hf.2 c1688
            refine lv_iconst (v := (0 : Int32)) hx hb dL_law_1691 (by decide) ?_
            exact hf.elim
      · replace hf := hf.2 c1671
        refine lv_iconst (v := (0 : Int32)) hx hb dL_law_1674 (by decide) ?_
        exact hf.elim
set_option maxHeartbeats 4000000 in
set_option maxRecDepth 100000 in
theorem lc_20 {D : va_G} {dA : Nat → ClassId} {base t0 : Nat} {l : Launch} {p : Program} {e : Env} {R : Room} {s : State} {m : MethodId} {args : Array Value} {below : List Frame} {meth : Method} {c : Code} {Q : State → Prop} (X : zz_X D dA base t0 "SpringseatLaw" cL_law 9 (some .boolean) l p s m meth c) (hT : l.stackTraces = false) (hN : zz_N s) {b L : Nat} {xs : Nat → Int32} (hX : va_X b L xs s s.heap) (hbl : b < s.heap.size) (hbA : ¬ base ≤ b) (hRf : 13 ≤ R.frames) (hRl : 482 ≤ R.locals) {cs ss : Nat} (hc : cs + 20 ≤ R.cells) (hs : ss + 253 ≤ R.slots) {ax am ao ad : Nat} {i x1 x2 x3 x4 : Int32} (hi1 : vp_in (i + 1) L) (hi2 : vp_in (i + 2) L) (hi3 : vp_in (i + 3) L) (hi4 : vp_in (i + 4) L) (hq1 : xs (i + 1).toNatClampNeg = x1) (hq2 : xs (i + 2).toNatClampNeg = x2) (hq3 : xs (i + 3).toNatClampNeg = x3) (hq4 : xs (i + 4).toNatClampNeg = x4) {K : zz_H → Nat → Prop} (hK : ∀ h n, K h n → ∀ {H : Heap} {locs : List Loc} {ls : Array Slot}, zz_R D dA base h n s H locs → lv_has ls 9 [(5, .int i), (4, .ref ad), (3, .ref ao), (2, .ref am), (1, .ref ax), (0, .ref b)] → W p l e R s m args below meth c H locs (cs + 20) (ss + 253) Q (F0 m 3298 ls [])) {h : zz_H} {n : Nat} {H : Heap} {locs : List Loc} {ls : Array Slot} (hR : zz_R D dA base h n s H locs) (hl : lv_has ls 9 [(5, .int i), (4, .ref ad), (3, .ref ao), (2, .ref am), (1, .ref ax), (0, .ref b)]) (hf : w_20 t0 ax am ao ad x1 x2 x3 x4 h n K) : W p l e R s m args below meth c H locs cs ss Q (F0 m 1696 ls []) := by
  have hx := X.1
  have hb := X.2.1
  have hown := X.2.2.2.2.1
  unfold w_20 at hf
  refine lv_aload_n hx hb dL_law_1696 rfl (lv_at hl 4 rfl) ?_
  refine lv_aload_n hx hb dL_law_1697 rfl (lv_at hl 5 rfl) ?_
  refine lv_iload hx hb dL_law_1698 (lv_at hl 0 rfl) ?_
  refine lv_iconst (v := (1 : Int32)) hx hb dL_law_1700 (by decide) ?_
  refine lv_iadd hx hb dL_law_1701 ?_
  refine zl_ld hx hb hX hbl hbA hR.2 hi1 hq1 dL_law_1702 ?_
  refine lv_aload_n hx hb dL_law_1703 rfl (lv_at hl 5 rfl) ?_
  refine lv_iload hx hb dL_law_1704 (lv_at hl 0 rfl) ?_
  refine lv_iconst (v := (2 : Int32)) hx hb dL_law_1706 (by decide) ?_
  refine lv_iadd hx hb dL_law_1707 ?_
  refine zl_ld hx hb hX hbl hbA hR.2 hi2 hq2 dL_law_1708 ?_
  refine lv_aload_n hx hb dL_law_1709 rfl (lv_at hl 2 rfl) ?_
  obtain ⟨v1710, h1710, m1710, hv1710, hf⟩ := hf
  refine zl_cS X hN hR hl.1 (As := [.ref ax, .int x1, .int x2, .ref ao]) (rest := []) (mt_L_buttonAt hT ax x1 x2 ao h n hv1710) mf_L_buttonAt.1 mf_L_buttonAt.2.1 mf_L_buttonAt.2.2 q_959 q_960 ⟨Nat.le_trans (Nat.le_of_ble_eq_true rfl) hRf, Nat.le_trans (Nat.le_of_ble_eq_true rfl) hRl⟩ ⟨Nat.le_trans (Nat.add_le_add_left (Nat.le_of_ble_eq_true rfl) cs) hc, Nat.le_trans (Nat.add_le_add_left (Nat.le_of_ble_eq_true rfl) ss) hs⟩ rfl (Nat.le_of_ble_eq_true rfl) dL_law_1710 (fun n1710 H locs hn1710 hR => ?_)
  replace hf := hf n1710 hn1710
  refine W.eq (g2 := F0 m 1713 ls [.int v1710]) rfl ?_
  refine W.widen (k := cs + 20) (n := ss + 253) (Nat.add_le_add_left (Nat.le_of_ble_eq_true rfl) cs) (Nat.add_le_add_left (Nat.le_of_ble_eq_true rfl) ss) ?_
  refine lv_istore (i := 6) (lv' := [(6, .int v1710), (5, .int i), (4, .ref ad), (3, .ref ao), (2, .ref am), (1, .ref ax), (0, .ref b)]) hx hb dL_law_1713 hl (by decide) rfl (fun ls hl => ?_)
  refine lv_aload_n hx hb dL_law_1715 rfl (lv_at hl 4 rfl) ?_
  refine lv_aload_n hx hb dL_law_1716 rfl (lv_at hl 6 rfl) ?_
  refine lv_iload hx hb dL_law_1717 (lv_at hl 1 rfl) ?_
  refine lv_iconst (v := (1 : Int32)) hx hb dL_law_1719 (by decide) ?_
  refine lv_iadd hx hb dL_law_1720 ?_
  refine zl_ld hx hb hX hbl hbA hR.2 hi1 hq1 dL_law_1721 ?_
  refine lv_aload_n hx hb dL_law_1722 rfl (lv_at hl 6 rfl) ?_
  refine lv_iload hx hb dL_law_1723 (lv_at hl 1 rfl) ?_
  refine lv_iconst (v := (2 : Int32)) hx hb dL_law_1725 (by decide) ?_
  refine lv_iadd hx hb dL_law_1726 ?_
  refine zl_ld hx hb hX hbl hbA hR.2 hi2 hq2 dL_law_1727 ?_
  obtain ⟨⟨fs1728, ho1728⟩, hf⟩ := hf
  obtain ⟨v1728, h1728, hv1728, hf⟩ := hf
  refine zr_cV X hR hl.1 (As := [.int x1, .int x2]) (rest := []) (C := RX10) (T := TX10) (N := 34) (mt_X10_buttonAt hT am x1 x2 h1710 n1710 hv1728) rfl ho1728 mf_X10_buttonAt q_1539 q_1540 q_1541 ⟨Nat.le_trans (Nat.le_of_ble_eq_true rfl) hRf, Nat.le_trans (Nat.le_of_ble_eq_true rfl) hRl⟩ ⟨hc, hs⟩ rfl (Nat.le_of_ble_eq_true rfl) dL_law_1728 (fun H locs hR => ?_)
  refine W.eq (g2 := F0 m 1731 ls [.int v1728]) rfl ?_
  refine W.widen (k := cs + 20) (n := ss + 253) (Nat.le_refl _) (Nat.le_refl _) ?_
  refine lv_istore (i := 7) (lv' := [(7, .int v1728), (6, .int v1710), (5, .int i), (4, .ref ad), (3, .ref ao), (2, .ref am), (1, .ref ax), (0, .ref b)]) hx hb dL_law_1731 hl (by decide) rfl (fun ls hl => ?_)
  refine lv_aload_n hx hb dL_law_1733 rfl (lv_at hl 5 rfl) ?_
  obtain ⟨⟨fs1734, ho1734⟩, hf⟩ := hf
  obtain ⟨v1734, hv1734, hf⟩ := hf
  refine zr_cV X hR hl.1 (As := []) (rest := []) (C := RX10) (T := TX10) (N := 34) (mt_X10_thrown hT am h1728 n1710 hv1734) rfl ho1734 mf_X10_thrown q_1359 q_1360 q_1361 ⟨Nat.le_trans (Nat.le_of_ble_eq_true rfl) hRf, Nat.le_trans (Nat.le_of_ble_eq_true rfl) hRl⟩ ⟨hc, hs⟩ rfl (Nat.le_of_ble_eq_true rfl) dL_law_1734 (fun H locs hR => ?_)
  refine W.eq (g2 := F0 m 1737 ls [.int v1734]) rfl ?_
  refine W.widen (k := cs + 20) (n := ss + 253) (Nat.le_refl _) (Nat.le_refl _) ?_
  refine lv_iload hx hb dL_law_1737 (lv_at hl 1 rfl) ?_
  refine lv_icmp_eq (tgt := 1744) hx hb dL_law_1739 (by decide) (fun c1739 => ?_) (fun c1739 => ?_)
  · replace hf := hf.1 c1739
    refine lv_iload hx hb dL_law_1744 (lv_at hl 1 rfl) ?_
    refine lv_if_ne (tgt := 1761) hx hb dL_law_1746 (by decide) (fun c1746 => ?_) (fun c1746 => ?_)
    · replace hf := hf.2 c1746
      refine lv_goto (tgt := 3298) hx hb dL_law_1761 (by decide) ?_
      exact hK _ _ hf hR (lv_sub hl [2, 3, 4, 5, 6, 7] rfl)
    · replace hf := hf.1 c1746
      refine lv_aload_n hx hb dL_law_1749 rfl (lv_at hl 4 rfl) ?_
      refine lv_iconst (v := (0 : Int32)) hx hb dL_law_1750 (by decide) ?_
      obtain ⟨v1751, hv1751, hf⟩ := hf
      refine zr_lald X hR (r := some ao) dL_law_1751 hv1751 (fun vv hvv => ?_)
      cases hvv
      refine lv_iload hx hb dL_law_1752 (lv_at hl 0 rfl) ?_
      refine lv_i2l hx hb dL_law_1754 rfl ?_
      refine W.lcmp hx hb dL_law_1755 ?_
      refine lv_if_eq (tgt := 1761) hx hb dL_law_1756 (by decide) (fun c1756 => ?_) (fun c1756 => ?_)
      · replace hf := hf.1 c1756
        refine lv_goto (tgt := 3298) hx hb dL_law_1761 (by decide) ?_
        exact hK _ _ hf hR (lv_sub hl [2, 3, 4, 5, 6, 7] rfl)
      · replace hf := hf.2 c1756
        refine lv_iconst (v := (0 : Int32)) hx hb dL_law_1759 (by decide) ?_
        exact hf.elim
  · replace hf := hf.2 c1739
    refine lv_iconst (v := (0 : Int32)) hx hb dL_law_1742 (by decide) ?_
    exact hf.elim
set_option maxHeartbeats 4000000 in
set_option maxRecDepth 100000 in
theorem lc_21 {D : va_G} {dA : Nat → ClassId} {base t0 : Nat} {l : Launch} {p : Program} {e : Env} {R : Room} {s : State} {m : MethodId} {args : Array Value} {below : List Frame} {meth : Method} {c : Code} {Q : State → Prop} (X : zz_X D dA base t0 "SpringseatLaw" cL_law 9 (some .boolean) l p s m meth c) (hT : l.stackTraces = false) (hN : zz_N s) {b L : Nat} {xs : Nat → Int32} (hX : va_X b L xs s s.heap) (hbl : b < s.heap.size) (hbA : ¬ base ≤ b) (hRf : 13 ≤ R.frames) (hRl : 482 ≤ R.locals) {cs ss : Nat} (hc : cs + 20 ≤ R.cells) (hs : ss + 253 ≤ R.slots) {ax am ao ad : Nat} {i x1 x2 x3 x4 : Int32} (hi1 : vp_in (i + 1) L) (hi2 : vp_in (i + 2) L) (hi3 : vp_in (i + 3) L) (hi4 : vp_in (i + 4) L) (hq1 : xs (i + 1).toNatClampNeg = x1) (hq2 : xs (i + 2).toNatClampNeg = x2) (hq3 : xs (i + 3).toNatClampNeg = x3) (hq4 : xs (i + 4).toNatClampNeg = x4) {K : zz_H → Nat → Prop} (hK : ∀ h n, K h n → ∀ {H : Heap} {locs : List Loc} {ls : Array Slot}, zz_R D dA base h n s H locs → lv_has ls 9 [(5, .int i), (4, .ref ad), (3, .ref ao), (2, .ref am), (1, .ref ax), (0, .ref b)] → W p l e R s m args below meth c H locs (cs + 20) (ss + 253) Q (F0 m 3298 ls [])) {h : zz_H} {n : Nat} {H : Heap} {locs : List Loc} {ls : Array Slot} (hR : zz_R D dA base h n s H locs) (hl : lv_has ls 9 [(5, .int i), (4, .ref ad), (3, .ref ao), (2, .ref am), (1, .ref ax), (0, .ref b)]) (hf : w_21 t0 ax am ao ad x1 x2 x3 x4 h n K) : W p l e R s m args below meth c H locs cs ss Q (F0 m 1764 ls []) := by
  have hx := X.1
  have hb := X.2.1
  have hown := X.2.2.2.2.1
  unfold w_21 at hf
  refine lv_aload_n hx hb dL_law_1764 rfl (lv_at hl 4 rfl) ?_
  refine lv_aload_n hx hb dL_law_1765 rfl (lv_at hl 2 rfl) ?_
  obtain ⟨v1766, h1766, m1766, hv1766, hf⟩ := hf
  refine zl_cS X hN hR hl.1 (As := [.ref ax, .ref ao]) (rest := []) (mt_L_body hT ax ao h n hv1766) mf_L_body.1 mf_L_body.2.1 mf_L_body.2.2 q_967 q_968 ⟨Nat.le_trans (Nat.le_of_ble_eq_true rfl) hRf, Nat.le_trans (Nat.le_of_ble_eq_true rfl) hRl⟩ ⟨Nat.le_trans (Nat.add_le_add_left (Nat.le_of_ble_eq_true rfl) cs) hc, Nat.le_trans (Nat.add_le_add_left (Nat.le_of_ble_eq_true rfl) ss) hs⟩ rfl (Nat.le_of_ble_eq_true rfl) dL_law_1766 (fun n1766 H locs hn1766 hR => ?_)
  replace hf := hf n1766 hn1766
  refine W.eq (g2 := F0 m 1769 ls [.int v1766]) rfl ?_
  refine W.widen (k := cs + 20) (n := ss + 253) (Nat.add_le_add_left (Nat.le_of_ble_eq_true rfl) cs) (Nat.add_le_add_left (Nat.le_of_ble_eq_true rfl) ss) ?_
  refine lv_istore (i := 6) (lv' := [(6, .int v1766), (5, .int i), (4, .ref ad), (3, .ref ao), (2, .ref am), (1, .ref ax), (0, .ref b)]) hx hb dL_law_1769 hl (by decide) rfl (fun ls hl => ?_)
  refine lv_aload_n hx hb dL_law_1771 rfl (lv_at hl 4 rfl) ?_
  obtain ⟨⟨fs1772, ho1772⟩, hf⟩ := hf
  obtain ⟨v1772, h1772, hv1772, hf⟩ := hf
  refine zr_cV X hR hl.1 (As := []) (rest := []) (C := RX10) (T := TX10) (N := 34) (mt_X10_body hT am h1766 n1766 hv1772) rfl ho1772 mf_X10_body q_1543 q_1544 q_1545 ⟨Nat.le_trans (Nat.le_of_ble_eq_true rfl) hRf, Nat.le_trans (Nat.le_of_ble_eq_true rfl) hRl⟩ ⟨hc, hs⟩ rfl (Nat.le_of_ble_eq_true rfl) dL_law_1772 (fun H locs hR => ?_)
  refine W.eq (g2 := F0 m 1775 ls [.int v1772]) rfl ?_
  refine W.widen (k := cs + 20) (n := ss + 253) (Nat.le_refl _) (Nat.le_refl _) ?_
  refine lv_istore (i := 7) (lv' := [(7, .int v1772), (6, .int v1766), (5, .int i), (4, .ref ad), (3, .ref ao), (2, .ref am), (1, .ref ax), (0, .ref b)]) hx hb dL_law_1775 hl (by decide) rfl (fun ls hl => ?_)
  refine lv_aload_n hx hb dL_law_1777 rfl (lv_at hl 5 rfl) ?_
  obtain ⟨⟨fs1778, ho1778⟩, hf⟩ := hf
  obtain ⟨v1778, hv1778, hf⟩ := hf
  refine zr_cV X hR hl.1 (As := []) (rest := []) (C := RX10) (T := TX10) (N := 34) (mt_X10_thrown hT am h1772 n1766 hv1778) rfl ho1778 mf_X10_thrown q_1359 q_1360 q_1361 ⟨Nat.le_trans (Nat.le_of_ble_eq_true rfl) hRf, Nat.le_trans (Nat.le_of_ble_eq_true rfl) hRl⟩ ⟨hc, hs⟩ rfl (Nat.le_of_ble_eq_true rfl) dL_law_1778 (fun H locs hR => ?_)
  refine W.eq (g2 := F0 m 1781 ls [.int v1778]) rfl ?_
  refine W.widen (k := cs + 20) (n := ss + 253) (Nat.le_refl _) (Nat.le_refl _) ?_
  refine lv_iload hx hb dL_law_1781 (lv_at hl 1 rfl) ?_
  refine lv_icmp_eq (tgt := 1788) hx hb dL_law_1783 (by decide) (fun c1783 => ?_) (fun c1783 => ?_)
  · replace hf := hf.1 c1783
    refine lv_iload hx hb dL_law_1788 (lv_at hl 1 rfl) ?_
    refine lv_if_ne (tgt := 1805) hx hb dL_law_1790 (by decide) (fun c1790 => ?_) (fun c1790 => ?_)
    · replace hf := hf.2 c1790
      refine lv_goto (tgt := 3298) hx hb dL_law_1805 (by decide) ?_
      exact hK _ _ hf hR (lv_sub hl [2, 3, 4, 5, 6, 7] rfl)
    · replace hf := hf.1 c1790
      refine lv_aload_n hx hb dL_law_1793 rfl (lv_at hl 4 rfl) ?_
      refine lv_iconst (v := (0 : Int32)) hx hb dL_law_1794 (by decide) ?_
      obtain ⟨v1795, hv1795, hf⟩ := hf
      refine zr_lald X hR (r := some ao) dL_law_1795 hv1795 (fun vv hvv => ?_)
      cases hvv
      refine lv_iload hx hb dL_law_1796 (lv_at hl 0 rfl) ?_
      refine lv_i2l hx hb dL_law_1798 rfl ?_
      refine W.lcmp hx hb dL_law_1799 ?_
      refine lv_if_eq (tgt := 1805) hx hb dL_law_1800 (by decide) (fun c1800 => ?_) (fun c1800 => ?_)
      · replace hf := hf.1 c1800
        refine lv_goto (tgt := 3298) hx hb dL_law_1805 (by decide) ?_
        exact hK _ _ hf hR (lv_sub hl [2, 3, 4, 5, 6, 7] rfl)
      · replace hf := hf.2 c1800
        refine lv_iconst (v := (0 : Int32)) hx hb dL_law_1803 (by decide) ?_
        exact hf.elim
  · replace hf := hf.2 c1783
    refine lv_iconst (v := (0 : Int32)) hx hb dL_law_1786 (by decide) ?_
    exact hf.elim
set_option maxHeartbeats 4000000 in
set_option maxRecDepth 100000 in
theorem lc_22 {D : va_G} {dA : Nat → ClassId} {base t0 : Nat} {l : Launch} {p : Program} {e : Env} {R : Room} {s : State} {m : MethodId} {args : Array Value} {below : List Frame} {meth : Method} {c : Code} {Q : State → Prop} (X : zz_X D dA base t0 "SpringseatLaw" cL_law 9 (some .boolean) l p s m meth c) (hT : l.stackTraces = false) (hN : zz_N s) {b L : Nat} {xs : Nat → Int32} (hX : va_X b L xs s s.heap) (hbl : b < s.heap.size) (hbA : ¬ base ≤ b) (hRf : 13 ≤ R.frames) (hRl : 482 ≤ R.locals) {cs ss : Nat} (hc : cs + 20 ≤ R.cells) (hs : ss + 253 ≤ R.slots) {ax am ao ad : Nat} {i x1 x2 x3 x4 : Int32} (hi1 : vp_in (i + 1) L) (hi2 : vp_in (i + 2) L) (hi3 : vp_in (i + 3) L) (hi4 : vp_in (i + 4) L) (hq1 : xs (i + 1).toNatClampNeg = x1) (hq2 : xs (i + 2).toNatClampNeg = x2) (hq3 : xs (i + 3).toNatClampNeg = x3) (hq4 : xs (i + 4).toNatClampNeg = x4) {K : zz_H → Nat → Prop} (hK : ∀ h n, K h n → ∀ {H : Heap} {locs : List Loc} {ls : Array Slot}, zz_R D dA base h n s H locs → lv_has ls 9 [(5, .int i), (4, .ref ad), (3, .ref ao), (2, .ref am), (1, .ref ax), (0, .ref b)] → W p l e R s m args below meth c H locs (cs + 20) (ss + 253) Q (F0 m 3298 ls [])) {h : zz_H} {n : Nat} {H : Heap} {locs : List Loc} {ls : Array Slot} (hR : zz_R D dA base h n s H locs) (hl : lv_has ls 9 [(5, .int i), (4, .ref ad), (3, .ref ao), (2, .ref am), (1, .ref ax), (0, .ref b)]) (hf : w_22 t0 ax am ao ad x1 x2 x3 x4 h n K) : W p l e R s m args below meth c H locs cs ss Q (F0 m 1808 ls []) := by
  have hx := X.1
  have hb := X.2.1
  have hown := X.2.2.2.2.1
  unfold w_22 at hf
  refine lv_aload_n hx hb dL_law_1808 rfl (lv_at hl 4 rfl) ?_
  refine lv_aload_n hx hb dL_law_1809 rfl (lv_at hl 5 rfl) ?_
  refine lv_iload hx hb dL_law_1810 (lv_at hl 0 rfl) ?_
  refine lv_iconst (v := (1 : Int32)) hx hb dL_law_1812 (by decide) ?_
  refine lv_iadd hx hb dL_law_1813 ?_
  refine zl_ld hx hb hX hbl hbA hR.2 hi1 hq1 dL_law_1814 ?_
  refine lv_aload_n hx hb dL_law_1815 rfl (lv_at hl 5 rfl) ?_
  refine lv_iload hx hb dL_law_1816 (lv_at hl 0 rfl) ?_
  refine lv_iconst (v := (2 : Int32)) hx hb dL_law_1818 (by decide) ?_
  refine lv_iadd hx hb dL_law_1819 ?_
  refine zl_ld hx hb hX hbl hbA hR.2 hi2 hq2 dL_law_1820 ?_
  refine lv_aload_n hx hb dL_law_1821 rfl (lv_at hl 5 rfl) ?_
  refine lv_iload hx hb dL_law_1822 (lv_at hl 0 rfl) ?_
  refine lv_iconst (v := (3 : Int32)) hx hb dL_law_1824 (by decide) ?_
  refine lv_iadd hx hb dL_law_1825 ?_
  refine zl_ld hx hb hX hbl hbA hR.2 hi3 hq3 dL_law_1826 ?_
  refine lv_aload_n hx hb dL_law_1827 rfl (lv_at hl 2 rfl) ?_
  obtain ⟨v1828, h1828, m1828, hv1828, hf⟩ := hf
  refine zl_cS X hN hR hl.1 (As := [.ref ax, .int x1, .int x2, .int x3, .ref ao]) (rest := []) (mt_L_mass hT ax x1 x2 x3 ao h n hv1828) mf_L_mass.1 mf_L_mass.2.1 mf_L_mass.2.2 q_974 q_975 ⟨Nat.le_trans (Nat.le_of_ble_eq_true rfl) hRf, Nat.le_trans (Nat.le_of_ble_eq_true rfl) hRl⟩ ⟨Nat.le_trans (Nat.add_le_add_left (Nat.le_of_ble_eq_true rfl) cs) hc, Nat.le_trans (Nat.add_le_add_left (Nat.le_of_ble_eq_true rfl) ss) hs⟩ rfl (Nat.le_of_ble_eq_true rfl) dL_law_1828 (fun n1828 H locs hn1828 hR => ?_)
  replace hf := hf n1828 hn1828
  refine W.eq (g2 := F0 m 1831 ls [.int v1828]) rfl ?_
  refine W.widen (k := cs + 20) (n := ss + 253) (Nat.add_le_add_left (Nat.le_of_ble_eq_true rfl) cs) (Nat.add_le_add_left (Nat.le_of_ble_eq_true rfl) ss) ?_
  refine lv_istore (i := 6) (lv' := [(6, .int v1828), (5, .int i), (4, .ref ad), (3, .ref ao), (2, .ref am), (1, .ref ax), (0, .ref b)]) hx hb dL_law_1831 hl (by decide) rfl (fun ls hl => ?_)
  refine lv_aload_n hx hb dL_law_1833 rfl (lv_at hl 4 rfl) ?_
  refine lv_aload_n hx hb dL_law_1834 rfl (lv_at hl 6 rfl) ?_
  refine lv_iload hx hb dL_law_1835 (lv_at hl 1 rfl) ?_
  refine lv_iconst (v := (1 : Int32)) hx hb dL_law_1837 (by decide) ?_
  refine lv_iadd hx hb dL_law_1838 ?_
  refine zl_ld hx hb hX hbl hbA hR.2 hi1 hq1 dL_law_1839 ?_
  refine lv_aload_n hx hb dL_law_1840 rfl (lv_at hl 6 rfl) ?_
  refine lv_iload hx hb dL_law_1841 (lv_at hl 1 rfl) ?_
  refine lv_iconst (v := (2 : Int32)) hx hb dL_law_1843 (by decide) ?_
  refine lv_iadd hx hb dL_law_1844 ?_
  refine zl_ld hx hb hX hbl hbA hR.2 hi2 hq2 dL_law_1845 ?_
  refine lv_aload_n hx hb dL_law_1846 rfl (lv_at hl 6 rfl) ?_
  refine lv_iload hx hb dL_law_1847 (lv_at hl 1 rfl) ?_
  refine lv_iconst (v := (3 : Int32)) hx hb dL_law_1849 (by decide) ?_
  refine lv_iadd hx hb dL_law_1850 ?_
  refine zl_ld hx hb hX hbl hbA hR.2 hi3 hq3 dL_law_1851 ?_
  obtain ⟨⟨fs1852, ho1852⟩, hf⟩ := hf
  obtain ⟨v1852, h1852, hv1852, hf⟩ := hf
  refine zr_cV X hR hl.1 (As := [.int x1, .int x2, .int x3]) (rest := []) (C := RX10) (T := TX10) (N := 34) (mt_X10_mass hT am x1 x2 x3 h1828 n1828 hv1852) rfl ho1852 mf_X10_mass q_1547 q_1548 q_1549 ⟨Nat.le_trans (Nat.le_of_ble_eq_true rfl) hRf, Nat.le_trans (Nat.le_of_ble_eq_true rfl) hRl⟩ ⟨hc, hs⟩ rfl (Nat.le_of_ble_eq_true rfl) dL_law_1852 (fun H locs hR => ?_)
  refine W.eq (g2 := F0 m 1855 ls [.int v1852]) rfl ?_
  refine W.widen (k := cs + 20) (n := ss + 253) (Nat.le_refl _) (Nat.le_refl _) ?_
  refine lv_istore (i := 7) (lv' := [(7, .int v1852), (6, .int v1828), (5, .int i), (4, .ref ad), (3, .ref ao), (2, .ref am), (1, .ref ax), (0, .ref b)]) hx hb dL_law_1855 hl (by decide) rfl (fun ls hl => ?_)
  refine lv_aload_n hx hb dL_law_1857 rfl (lv_at hl 5 rfl) ?_
  obtain ⟨⟨fs1858, ho1858⟩, hf⟩ := hf
  obtain ⟨v1858, hv1858, hf⟩ := hf
  refine zr_cV X hR hl.1 (As := []) (rest := []) (C := RX10) (T := TX10) (N := 34) (mt_X10_thrown hT am h1852 n1828 hv1858) rfl ho1858 mf_X10_thrown q_1359 q_1360 q_1361 ⟨Nat.le_trans (Nat.le_of_ble_eq_true rfl) hRf, Nat.le_trans (Nat.le_of_ble_eq_true rfl) hRl⟩ ⟨hc, hs⟩ rfl (Nat.le_of_ble_eq_true rfl) dL_law_1858 (fun H locs hR => ?_)
  refine W.eq (g2 := F0 m 1861 ls [.int v1858]) rfl ?_
  refine W.widen (k := cs + 20) (n := ss + 253) (Nat.le_refl _) (Nat.le_refl _) ?_
  refine lv_iload hx hb dL_law_1861 (lv_at hl 1 rfl) ?_
  refine lv_icmp_eq (tgt := 1868) hx hb dL_law_1863 (by decide) (fun c1863 => ?_) (fun c1863 => ?_)
  · replace hf := hf.1 c1863
    refine lv_iload hx hb dL_law_1868 (lv_at hl 1 rfl) ?_
    refine lv_if_ne (tgt := 1885) hx hb dL_law_1870 (by decide) (fun c1870 => ?_) (fun c1870 => ?_)
    · replace hf := hf.2 c1870
      refine lv_goto (tgt := 3298) hx hb dL_law_1885 (by decide) ?_
      exact hK _ _ hf hR (lv_sub hl [2, 3, 4, 5, 6, 7] rfl)
    · replace hf := hf.1 c1870
      refine lv_aload_n hx hb dL_law_1873 rfl (lv_at hl 4 rfl) ?_
      refine lv_iconst (v := (0 : Int32)) hx hb dL_law_1874 (by decide) ?_
      obtain ⟨v1875, hv1875, hf⟩ := hf
      refine zr_lald X hR (r := some ao) dL_law_1875 hv1875 (fun vv hvv => ?_)
      cases hvv
      refine lv_iload hx hb dL_law_1876 (lv_at hl 0 rfl) ?_
      refine lv_i2l hx hb dL_law_1878 rfl ?_
      refine W.lcmp hx hb dL_law_1879 ?_
      refine lv_if_eq (tgt := 1885) hx hb dL_law_1880 (by decide) (fun c1880 => ?_) (fun c1880 => ?_)
      · replace hf := hf.1 c1880
        refine lv_goto (tgt := 3298) hx hb dL_law_1885 (by decide) ?_
        exact hK _ _ hf hR (lv_sub hl [2, 3, 4, 5, 6, 7] rfl)
      · replace hf := hf.2 c1880
        refine lv_iconst (v := (0 : Int32)) hx hb dL_law_1883 (by decide) ?_
        exact hf.elim
  · replace hf := hf.2 c1863
    refine lv_iconst (v := (0 : Int32)) hx hb dL_law_1866 (by decide) ?_
    exact hf.elim
set_option maxHeartbeats 4000000 in
set_option maxRecDepth 100000 in
theorem lc_23 {D : va_G} {dA : Nat → ClassId} {base t0 : Nat} {l : Launch} {p : Program} {e : Env} {R : Room} {s : State} {m : MethodId} {args : Array Value} {below : List Frame} {meth : Method} {c : Code} {Q : State → Prop} (X : zz_X D dA base t0 "SpringseatLaw" cL_law 9 (some .boolean) l p s m meth c) (hT : l.stackTraces = false) (hN : zz_N s) {b L : Nat} {xs : Nat → Int32} (hX : va_X b L xs s s.heap) (hbl : b < s.heap.size) (hbA : ¬ base ≤ b) (hRf : 13 ≤ R.frames) (hRl : 482 ≤ R.locals) {cs ss : Nat} (hc : cs + 20 ≤ R.cells) (hs : ss + 253 ≤ R.slots) {ax am ao ad : Nat} {i x1 x2 x3 x4 : Int32} (hi1 : vp_in (i + 1) L) (hi2 : vp_in (i + 2) L) (hi3 : vp_in (i + 3) L) (hi4 : vp_in (i + 4) L) (hq1 : xs (i + 1).toNatClampNeg = x1) (hq2 : xs (i + 2).toNatClampNeg = x2) (hq3 : xs (i + 3).toNatClampNeg = x3) (hq4 : xs (i + 4).toNatClampNeg = x4) {K : zz_H → Nat → Prop} (hK : ∀ h n, K h n → ∀ {H : Heap} {locs : List Loc} {ls : Array Slot}, zz_R D dA base h n s H locs → lv_has ls 9 [(5, .int i), (4, .ref ad), (3, .ref ao), (2, .ref am), (1, .ref ax), (0, .ref b)] → W p l e R s m args below meth c H locs (cs + 20) (ss + 253) Q (F0 m 3298 ls [])) {h : zz_H} {n : Nat} {H : Heap} {locs : List Loc} {ls : Array Slot} (hR : zz_R D dA base h n s H locs) (hl : lv_has ls 9 [(5, .int i), (4, .ref ad), (3, .ref ao), (2, .ref am), (1, .ref ax), (0, .ref b)]) (hf : w_23 t0 ax am ao ad x1 x2 x3 x4 h n K) : W p l e R s m args below meth c H locs cs ss Q (F0 m 1888 ls []) := by
  have hx := X.1
  have hb := X.2.1
  have hown := X.2.2.2.2.1
  unfold w_23 at hf
  refine lv_aload_n hx hb dL_law_1888 rfl (lv_at hl 4 rfl) ?_
  refine lv_aload_n hx hb dL_law_1889 rfl (lv_at hl 5 rfl) ?_
  refine lv_iload hx hb dL_law_1890 (lv_at hl 0 rfl) ?_
  refine lv_iconst (v := (1 : Int32)) hx hb dL_law_1892 (by decide) ?_
  refine lv_iadd hx hb dL_law_1893 ?_
  refine zl_ld hx hb hX hbl hbA hR.2 hi1 hq1 dL_law_1894 ?_
  refine lv_aload_n hx hb dL_law_1895 rfl (lv_at hl 5 rfl) ?_
  refine lv_iload hx hb dL_law_1896 (lv_at hl 0 rfl) ?_
  refine lv_iconst (v := (2 : Int32)) hx hb dL_law_1898 (by decide) ?_
  refine lv_iadd hx hb dL_law_1899 ?_
  refine zl_ld hx hb hX hbl hbA hR.2 hi2 hq2 dL_law_1900 ?_
  refine lv_aload_n hx hb dL_law_1901 rfl (lv_at hl 5 rfl) ?_
  refine lv_iload hx hb dL_law_1902 (lv_at hl 0 rfl) ?_
  refine lv_iconst (v := (3 : Int32)) hx hb dL_law_1904 (by decide) ?_
  refine lv_iadd hx hb dL_law_1905 ?_
  refine zl_ld hx hb hX hbl hbA hR.2 hi3 hq3 dL_law_1906 ?_
  refine lv_aload_n hx hb dL_law_1907 rfl (lv_at hl 2 rfl) ?_
  obtain ⟨v1908, h1908, m1908, hv1908, hf⟩ := hf
  refine zl_cS X hN hR hl.1 (As := [.ref ax, .int x1, .int x2, .int x3, .ref ao]) (rest := []) (mt_L_sinks hT ax x1 x2 x3 ao h n hv1908) mf_L_sinks.1 mf_L_sinks.2.1 mf_L_sinks.2.2 q_985 q_986 ⟨Nat.le_trans (Nat.le_of_ble_eq_true rfl) hRf, Nat.le_trans (Nat.le_of_ble_eq_true rfl) hRl⟩ ⟨Nat.le_trans (Nat.add_le_add_left (Nat.le_of_ble_eq_true rfl) cs) hc, Nat.le_trans (Nat.add_le_add_left (Nat.le_of_ble_eq_true rfl) ss) hs⟩ rfl (Nat.le_of_ble_eq_true rfl) dL_law_1908 (fun n1908 H locs hn1908 hR => ?_)
  replace hf := hf n1908 hn1908
  refine W.eq (g2 := F0 m 1911 ls [.int v1908]) rfl ?_
  refine W.widen (k := cs + 20) (n := ss + 253) (Nat.add_le_add_left (Nat.le_of_ble_eq_true rfl) cs) (Nat.add_le_add_left (Nat.le_of_ble_eq_true rfl) ss) ?_
  refine lv_istore (i := 6) (lv' := [(6, .int v1908), (5, .int i), (4, .ref ad), (3, .ref ao), (2, .ref am), (1, .ref ax), (0, .ref b)]) hx hb dL_law_1911 hl (by decide) rfl (fun ls hl => ?_)
  refine lv_aload_n hx hb dL_law_1913 rfl (lv_at hl 4 rfl) ?_
  refine lv_aload_n hx hb dL_law_1914 rfl (lv_at hl 6 rfl) ?_
  refine lv_iload hx hb dL_law_1915 (lv_at hl 1 rfl) ?_
  refine lv_iconst (v := (1 : Int32)) hx hb dL_law_1917 (by decide) ?_
  refine lv_iadd hx hb dL_law_1918 ?_
  refine zl_ld hx hb hX hbl hbA hR.2 hi1 hq1 dL_law_1919 ?_
  refine lv_aload_n hx hb dL_law_1920 rfl (lv_at hl 6 rfl) ?_
  refine lv_iload hx hb dL_law_1921 (lv_at hl 1 rfl) ?_
  refine lv_iconst (v := (2 : Int32)) hx hb dL_law_1923 (by decide) ?_
  refine lv_iadd hx hb dL_law_1924 ?_
  refine zl_ld hx hb hX hbl hbA hR.2 hi2 hq2 dL_law_1925 ?_
  refine lv_aload_n hx hb dL_law_1926 rfl (lv_at hl 6 rfl) ?_
  refine lv_iload hx hb dL_law_1927 (lv_at hl 1 rfl) ?_
  refine lv_iconst (v := (3 : Int32)) hx hb dL_law_1929 (by decide) ?_
  refine lv_iadd hx hb dL_law_1930 ?_
  refine zl_ld hx hb hX hbl hbA hR.2 hi3 hq3 dL_law_1931 ?_
  obtain ⟨⟨fs1932, ho1932⟩, hf⟩ := hf
  obtain ⟨v1932, h1932, hv1932, hf⟩ := hf
  refine zr_cV X hR hl.1 (As := [.int x1, .int x2, .int x3]) (rest := []) (C := RX10) (T := TX10) (N := 34) (mt_X10_sinks hT am x1 x2 x3 h1908 n1908 hv1932) rfl ho1932 mf_X10_sinks q_1555 q_1556 q_1557 ⟨Nat.le_trans (Nat.le_of_ble_eq_true rfl) hRf, Nat.le_trans (Nat.le_of_ble_eq_true rfl) hRl⟩ ⟨hc, hs⟩ rfl (Nat.le_of_ble_eq_true rfl) dL_law_1932 (fun H locs hR => ?_)
  refine W.eq (g2 := F0 m 1935 ls [.int v1932]) rfl ?_
  refine W.widen (k := cs + 20) (n := ss + 253) (Nat.le_refl _) (Nat.le_refl _) ?_
  refine lv_istore (i := 7) (lv' := [(7, .int v1932), (6, .int v1908), (5, .int i), (4, .ref ad), (3, .ref ao), (2, .ref am), (1, .ref ax), (0, .ref b)]) hx hb dL_law_1935 hl (by decide) rfl (fun ls hl => ?_)
  refine lv_aload_n hx hb dL_law_1937 rfl (lv_at hl 5 rfl) ?_
  obtain ⟨⟨fs1938, ho1938⟩, hf⟩ := hf
  obtain ⟨v1938, hv1938, hf⟩ := hf
  refine zr_cV X hR hl.1 (As := []) (rest := []) (C := RX10) (T := TX10) (N := 34) (mt_X10_thrown hT am h1932 n1908 hv1938) rfl ho1938 mf_X10_thrown q_1359 q_1360 q_1361 ⟨Nat.le_trans (Nat.le_of_ble_eq_true rfl) hRf, Nat.le_trans (Nat.le_of_ble_eq_true rfl) hRl⟩ ⟨hc, hs⟩ rfl (Nat.le_of_ble_eq_true rfl) dL_law_1938 (fun H locs hR => ?_)
  refine W.eq (g2 := F0 m 1941 ls [.int v1938]) rfl ?_
  refine W.widen (k := cs + 20) (n := ss + 253) (Nat.le_refl _) (Nat.le_refl _) ?_
  refine lv_iload hx hb dL_law_1941 (lv_at hl 1 rfl) ?_
  refine lv_icmp_eq (tgt := 1948) hx hb dL_law_1943 (by decide) (fun c1943 => ?_) (fun c1943 => ?_)
  · replace hf := hf.1 c1943
    refine lv_iload hx hb dL_law_1948 (lv_at hl 1 rfl) ?_
    refine lv_if_ne (tgt := 1965) hx hb dL_law_1950 (by decide) (fun c1950 => ?_) (fun c1950 => ?_)
    · replace hf := hf.2 c1950
      refine lv_goto (tgt := 3298) hx hb dL_law_1965 (by decide) ?_
      exact hK _ _ hf hR (lv_sub hl [2, 3, 4, 5, 6, 7] rfl)
    · replace hf := hf.1 c1950
      refine lv_aload_n hx hb dL_law_1953 rfl (lv_at hl 4 rfl) ?_
      refine lv_iconst (v := (0 : Int32)) hx hb dL_law_1954 (by decide) ?_
      obtain ⟨v1955, hv1955, hf⟩ := hf
      refine zr_lald X hR (r := some ao) dL_law_1955 hv1955 (fun vv hvv => ?_)
      cases hvv
      refine lv_iload hx hb dL_law_1956 (lv_at hl 0 rfl) ?_
      refine lv_i2l hx hb dL_law_1958 rfl ?_
      refine W.lcmp hx hb dL_law_1959 ?_
      refine lv_if_eq (tgt := 1965) hx hb dL_law_1960 (by decide) (fun c1960 => ?_) (fun c1960 => ?_)
      · replace hf := hf.1 c1960
        refine lv_goto (tgt := 3298) hx hb dL_law_1965 (by decide) ?_
        exact hK _ _ hf hR (lv_sub hl [2, 3, 4, 5, 6, 7] rfl)
      · replace hf := hf.2 c1960
        refine lv_iconst (v := (0 : Int32)) hx hb dL_law_1963 (by decide) ?_
        exact hf.elim
  · replace hf := hf.2 c1943
    refine lv_iconst (v := (0 : Int32)) hx hb dL_law_1946 (by decide) ?_
    exact hf.elim
set_option maxHeartbeats 4000000 in
set_option maxRecDepth 100000 in
theorem lc_24 {D : va_G} {dA : Nat → ClassId} {base t0 : Nat} {l : Launch} {p : Program} {e : Env} {R : Room} {s : State} {m : MethodId} {args : Array Value} {below : List Frame} {meth : Method} {c : Code} {Q : State → Prop} (X : zz_X D dA base t0 "SpringseatLaw" cL_law 9 (some .boolean) l p s m meth c) (hT : l.stackTraces = false) (hN : zz_N s) {b L : Nat} {xs : Nat → Int32} (hX : va_X b L xs s s.heap) (hbl : b < s.heap.size) (hbA : ¬ base ≤ b) (hRf : 13 ≤ R.frames) (hRl : 482 ≤ R.locals) {cs ss : Nat} (hc : cs + 20 ≤ R.cells) (hs : ss + 253 ≤ R.slots) {ax am ao ad : Nat} {i x1 x2 x3 x4 : Int32} (hi1 : vp_in (i + 1) L) (hi2 : vp_in (i + 2) L) (hi3 : vp_in (i + 3) L) (hi4 : vp_in (i + 4) L) (hq1 : xs (i + 1).toNatClampNeg = x1) (hq2 : xs (i + 2).toNatClampNeg = x2) (hq3 : xs (i + 3).toNatClampNeg = x3) (hq4 : xs (i + 4).toNatClampNeg = x4) {K : zz_H → Nat → Prop} (hK : ∀ h n, K h n → ∀ {H : Heap} {locs : List Loc} {ls : Array Slot}, zz_R D dA base h n s H locs → lv_has ls 9 [(5, .int i), (4, .ref ad), (3, .ref ao), (2, .ref am), (1, .ref ax), (0, .ref b)] → W p l e R s m args below meth c H locs (cs + 20) (ss + 253) Q (F0 m 3298 ls [])) {h : zz_H} {n : Nat} {H : Heap} {locs : List Loc} {ls : Array Slot} (hR : zz_R D dA base h n s H locs) (hl : lv_has ls 9 [(5, .int i), (4, .ref ad), (3, .ref ao), (2, .ref am), (1, .ref ax), (0, .ref b)]) (hf : w_24 t0 ax am ao ad x1 x2 x3 x4 h n K) : W p l e R s m args below meth c H locs cs ss Q (F0 m 1968 ls []) := by
  have hx := X.1
  have hb := X.2.1
  have hown := X.2.2.2.2.1
  unfold w_24 at hf
  refine lv_aload_n hx hb dL_law_1968 rfl (lv_at hl 4 rfl) ?_
  refine lv_aload_n hx hb dL_law_1969 rfl (lv_at hl 5 rfl) ?_
  refine lv_iload hx hb dL_law_1970 (lv_at hl 0 rfl) ?_
  refine lv_iconst (v := (1 : Int32)) hx hb dL_law_1972 (by decide) ?_
  refine lv_iadd hx hb dL_law_1973 ?_
  refine zl_ld hx hb hX hbl hbA hR.2 hi1 hq1 dL_law_1974 ?_
  refine lv_aload_n hx hb dL_law_1975 rfl (lv_at hl 5 rfl) ?_
  refine lv_iload hx hb dL_law_1976 (lv_at hl 0 rfl) ?_
  refine lv_iconst (v := (2 : Int32)) hx hb dL_law_1978 (by decide) ?_
  refine lv_iadd hx hb dL_law_1979 ?_
  refine zl_ld hx hb hX hbl hbA hR.2 hi2 hq2 dL_law_1980 ?_
  refine lv_aload_n hx hb dL_law_1981 rfl (lv_at hl 5 rfl) ?_
  refine lv_iload hx hb dL_law_1982 (lv_at hl 0 rfl) ?_
  refine lv_iconst (v := (3 : Int32)) hx hb dL_law_1984 (by decide) ?_
  refine lv_iadd hx hb dL_law_1985 ?_
  refine zl_ld hx hb hX hbl hbA hR.2 hi3 hq3 dL_law_1986 ?_
  refine lv_aload_n hx hb dL_law_1987 rfl (lv_at hl 2 rfl) ?_
  obtain ⟨v1988, h1988, m1988, hv1988, hf⟩ := hf
  refine zl_cS X hN hR hl.1 (As := [.ref ax, .int x1, .int x2, .int x3, .ref ao]) (rest := []) (mt_L_pressure hT ax x1 x2 x3 ao h n hv1988) mf_L_pressure.1 mf_L_pressure.2.1 mf_L_pressure.2.2 q_1000 q_1001 ⟨Nat.le_trans (Nat.le_of_ble_eq_true rfl) hRf, Nat.le_trans (Nat.le_of_ble_eq_true rfl) hRl⟩ ⟨Nat.le_trans (Nat.add_le_add_left (Nat.le_of_ble_eq_true rfl) cs) hc, Nat.le_trans (Nat.add_le_add_left (Nat.le_of_ble_eq_true rfl) ss) hs⟩ rfl (Nat.le_of_ble_eq_true rfl) dL_law_1988 (fun n1988 H locs hn1988 hR => ?_)
  replace hf := hf n1988 hn1988
  refine W.eq (g2 := F0 m 1991 ls [.int v1988]) rfl ?_
  refine W.widen (k := cs + 20) (n := ss + 253) (Nat.add_le_add_left (Nat.le_of_ble_eq_true rfl) cs) (Nat.add_le_add_left (Nat.le_of_ble_eq_true rfl) ss) ?_
  refine lv_istore (i := 6) (lv' := [(6, .int v1988), (5, .int i), (4, .ref ad), (3, .ref ao), (2, .ref am), (1, .ref ax), (0, .ref b)]) hx hb dL_law_1991 hl (by decide) rfl (fun ls hl => ?_)
  refine lv_aload_n hx hb dL_law_1993 rfl (lv_at hl 4 rfl) ?_
  refine lv_aload_n hx hb dL_law_1994 rfl (lv_at hl 6 rfl) ?_
  refine lv_iload hx hb dL_law_1995 (lv_at hl 1 rfl) ?_
  refine lv_iconst (v := (1 : Int32)) hx hb dL_law_1997 (by decide) ?_
  refine lv_iadd hx hb dL_law_1998 ?_
  refine zl_ld hx hb hX hbl hbA hR.2 hi1 hq1 dL_law_1999 ?_
  refine lv_aload_n hx hb dL_law_2000 rfl (lv_at hl 6 rfl) ?_
  refine lv_iload hx hb dL_law_2001 (lv_at hl 1 rfl) ?_
  refine lv_iconst (v := (2 : Int32)) hx hb dL_law_2003 (by decide) ?_
  refine lv_iadd hx hb dL_law_2004 ?_
  refine zl_ld hx hb hX hbl hbA hR.2 hi2 hq2 dL_law_2005 ?_
  refine lv_aload_n hx hb dL_law_2006 rfl (lv_at hl 6 rfl) ?_
  refine lv_iload hx hb dL_law_2007 (lv_at hl 1 rfl) ?_
  refine lv_iconst (v := (3 : Int32)) hx hb dL_law_2009 (by decide) ?_
  refine lv_iadd hx hb dL_law_2010 ?_
  refine zl_ld hx hb hX hbl hbA hR.2 hi3 hq3 dL_law_2011 ?_
  obtain ⟨⟨fs2012, ho2012⟩, hf⟩ := hf
  obtain ⟨v2012, h2012, hv2012, hf⟩ := hf
  refine zr_cV X hR hl.1 (As := [.int x1, .int x2, .int x3]) (rest := []) (C := RX10) (T := TX10) (N := 34) (mt_X10_pressure hT am x1 x2 x3 h1988 n1988 hv2012) rfl ho2012 mf_X10_pressure q_1567 q_1568 q_1569 ⟨Nat.le_trans (Nat.le_of_ble_eq_true rfl) hRf, Nat.le_trans (Nat.le_of_ble_eq_true rfl) hRl⟩ ⟨hc, hs⟩ rfl (Nat.le_of_ble_eq_true rfl) dL_law_2012 (fun H locs hR => ?_)
  refine W.eq (g2 := F0 m 2015 ls [.int v2012]) rfl ?_
  refine W.widen (k := cs + 20) (n := ss + 253) (Nat.le_refl _) (Nat.le_refl _) ?_
  refine lv_istore (i := 7) (lv' := [(7, .int v2012), (6, .int v1988), (5, .int i), (4, .ref ad), (3, .ref ao), (2, .ref am), (1, .ref ax), (0, .ref b)]) hx hb dL_law_2015 hl (by decide) rfl (fun ls hl => ?_)
  refine lv_aload_n hx hb dL_law_2017 rfl (lv_at hl 5 rfl) ?_
  obtain ⟨⟨fs2018, ho2018⟩, hf⟩ := hf
  obtain ⟨v2018, hv2018, hf⟩ := hf
  refine zr_cV X hR hl.1 (As := []) (rest := []) (C := RX10) (T := TX10) (N := 34) (mt_X10_thrown hT am h2012 n1988 hv2018) rfl ho2018 mf_X10_thrown q_1359 q_1360 q_1361 ⟨Nat.le_trans (Nat.le_of_ble_eq_true rfl) hRf, Nat.le_trans (Nat.le_of_ble_eq_true rfl) hRl⟩ ⟨hc, hs⟩ rfl (Nat.le_of_ble_eq_true rfl) dL_law_2018 (fun H locs hR => ?_)
  refine W.eq (g2 := F0 m 2021 ls [.int v2018]) rfl ?_
  refine W.widen (k := cs + 20) (n := ss + 253) (Nat.le_refl _) (Nat.le_refl _) ?_
  refine lv_iload hx hb dL_law_2021 (lv_at hl 1 rfl) ?_
  refine lv_icmp_eq (tgt := 2028) hx hb dL_law_2023 (by decide) (fun c2023 => ?_) (fun c2023 => ?_)
  · replace hf := hf.1 c2023
    refine lv_iload hx hb dL_law_2028 (lv_at hl 1 rfl) ?_
    refine lv_if_ne (tgt := 2045) hx hb dL_law_2030 (by decide) (fun c2030 => ?_) (fun c2030 => ?_)
    · replace hf := hf.2 c2030
      refine lv_goto (tgt := 3298) hx hb dL_law_2045 (by decide) ?_
      exact hK _ _ hf hR (lv_sub hl [2, 3, 4, 5, 6, 7] rfl)
    · replace hf := hf.1 c2030
      refine lv_aload_n hx hb dL_law_2033 rfl (lv_at hl 4 rfl) ?_
      refine lv_iconst (v := (0 : Int32)) hx hb dL_law_2034 (by decide) ?_
      obtain ⟨v2035, hv2035, hf⟩ := hf
      refine zr_lald X hR (r := some ao) dL_law_2035 hv2035 (fun vv hvv => ?_)
      cases hvv
      refine lv_iload hx hb dL_law_2036 (lv_at hl 0 rfl) ?_
      refine lv_i2l hx hb dL_law_2038 rfl ?_
      refine W.lcmp hx hb dL_law_2039 ?_
      refine lv_if_eq (tgt := 2045) hx hb dL_law_2040 (by decide) (fun c2040 => ?_) (fun c2040 => ?_)
      · replace hf := hf.1 c2040
        refine lv_goto (tgt := 3298) hx hb dL_law_2045 (by decide) ?_
        exact hK _ _ hf hR (lv_sub hl [2, 3, 4, 5, 6, 7] rfl)
      · replace hf := hf.2 c2040
        refine lv_iconst (v := (0 : Int32)) hx hb dL_law_2043 (by decide) ?_
        exact hf.elim
  · replace hf := hf.2 c2023
    refine lv_iconst (v := (0 : Int32)) hx hb dL_law_2026 (by decide) ?_
    exact hf.elim
set_option maxHeartbeats 4000000 in
set_option maxRecDepth 100000 in
theorem lc_25 {D : va_G} {dA : Nat → ClassId} {base t0 : Nat} {l : Launch} {p : Program} {e : Env} {R : Room} {s : State} {m : MethodId} {args : Array Value} {below : List Frame} {meth : Method} {c : Code} {Q : State → Prop} (X : zz_X D dA base t0 "SpringseatLaw" cL_law 9 (some .boolean) l p s m meth c) (hT : l.stackTraces = false) (hN : zz_N s) {b L : Nat} {xs : Nat → Int32} (hX : va_X b L xs s s.heap) (hbl : b < s.heap.size) (hbA : ¬ base ≤ b) (hRf : 13 ≤ R.frames) (hRl : 482 ≤ R.locals) {cs ss : Nat} (hc : cs + 20 ≤ R.cells) (hs : ss + 253 ≤ R.slots) {ax am ao ad : Nat} {i x1 x2 x3 x4 : Int32} (hi1 : vp_in (i + 1) L) (hi2 : vp_in (i + 2) L) (hi3 : vp_in (i + 3) L) (hi4 : vp_in (i + 4) L) (hq1 : xs (i + 1).toNatClampNeg = x1) (hq2 : xs (i + 2).toNatClampNeg = x2) (hq3 : xs (i + 3).toNatClampNeg = x3) (hq4 : xs (i + 4).toNatClampNeg = x4) {K : zz_H → Nat → Prop} (hK : ∀ h n, K h n → ∀ {H : Heap} {locs : List Loc} {ls : Array Slot}, zz_R D dA base h n s H locs → lv_has ls 9 [(5, .int i), (4, .ref ad), (3, .ref ao), (2, .ref am), (1, .ref ax), (0, .ref b)] → W p l e R s m args below meth c H locs (cs + 20) (ss + 253) Q (F0 m 3298 ls [])) {h : zz_H} {n : Nat} {H : Heap} {locs : List Loc} {ls : Array Slot} (hR : zz_R D dA base h n s H locs) (hl : lv_has ls 9 [(5, .int i), (4, .ref ad), (3, .ref ao), (2, .ref am), (1, .ref ax), (0, .ref b)]) (hf : w_25 t0 ax am ao ad x1 x2 x3 x4 h n K) : W p l e R s m args below meth c H locs cs ss Q (F0 m 2048 ls []) := by
  have hx := X.1
  have hb := X.2.1
  have hown := X.2.2.2.2.1
  unfold w_25 at hf
  refine lv_aload_n hx hb dL_law_2048 rfl (lv_at hl 4 rfl) ?_
  refine lv_aload_n hx hb dL_law_2049 rfl (lv_at hl 5 rfl) ?_
  refine lv_iload hx hb dL_law_2050 (lv_at hl 0 rfl) ?_
  refine lv_iconst (v := (1 : Int32)) hx hb dL_law_2052 (by decide) ?_
  refine lv_iadd hx hb dL_law_2053 ?_
  refine zl_ld hx hb hX hbl hbA hR.2 hi1 hq1 dL_law_2054 ?_
  refine lv_aload_n hx hb dL_law_2055 rfl (lv_at hl 5 rfl) ?_
  refine lv_iload hx hb dL_law_2056 (lv_at hl 0 rfl) ?_
  refine lv_iconst (v := (2 : Int32)) hx hb dL_law_2058 (by decide) ?_
  refine lv_iadd hx hb dL_law_2059 ?_
  refine zl_ld hx hb hX hbl hbA hR.2 hi2 hq2 dL_law_2060 ?_
  refine lv_aload_n hx hb dL_law_2061 rfl (lv_at hl 2 rfl) ?_
  obtain ⟨v2062, h2062, m2062, hv2062, hf⟩ := hf
  refine zl_cS X hN hR hl.1 (As := [.ref ax, .int x1, .int x2, .ref ao]) (rest := []) (mt_L_comfort hT ax x1 x2 ao h n hv2062) mf_L_comfort.1 mf_L_comfort.2.1 mf_L_comfort.2.2 q_1011 q_1012 ⟨Nat.le_trans (Nat.le_of_ble_eq_true rfl) hRf, Nat.le_trans (Nat.le_of_ble_eq_true rfl) hRl⟩ ⟨Nat.le_trans (Nat.add_le_add_left (Nat.le_of_ble_eq_true rfl) cs) hc, Nat.le_trans (Nat.add_le_add_left (Nat.le_of_ble_eq_true rfl) ss) hs⟩ rfl (Nat.le_of_ble_eq_true rfl) dL_law_2062 (fun n2062 H locs hn2062 hR => ?_)
  replace hf := hf n2062 hn2062
  refine W.eq (g2 := F0 m 2065 ls [.int v2062]) rfl ?_
  refine W.widen (k := cs + 20) (n := ss + 253) (Nat.add_le_add_left (Nat.le_of_ble_eq_true rfl) cs) (Nat.add_le_add_left (Nat.le_of_ble_eq_true rfl) ss) ?_
  refine lv_istore (i := 6) (lv' := [(6, .int v2062), (5, .int i), (4, .ref ad), (3, .ref ao), (2, .ref am), (1, .ref ax), (0, .ref b)]) hx hb dL_law_2065 hl (by decide) rfl (fun ls hl => ?_)
  refine lv_aload_n hx hb dL_law_2067 rfl (lv_at hl 4 rfl) ?_
  refine lv_aload_n hx hb dL_law_2068 rfl (lv_at hl 6 rfl) ?_
  refine lv_iload hx hb dL_law_2069 (lv_at hl 1 rfl) ?_
  refine lv_iconst (v := (1 : Int32)) hx hb dL_law_2071 (by decide) ?_
  refine lv_iadd hx hb dL_law_2072 ?_
  refine zl_ld hx hb hX hbl hbA hR.2 hi1 hq1 dL_law_2073 ?_
  refine lv_aload_n hx hb dL_law_2074 rfl (lv_at hl 6 rfl) ?_
  refine lv_iload hx hb dL_law_2075 (lv_at hl 1 rfl) ?_
  refine lv_iconst (v := (2 : Int32)) hx hb dL_law_2077 (by decide) ?_
  refine lv_iadd hx hb dL_law_2078 ?_
  refine zl_ld hx hb hX hbl hbA hR.2 hi2 hq2 dL_law_2079 ?_
  obtain ⟨⟨fs2080, ho2080⟩, hf⟩ := hf
  obtain ⟨v2080, h2080, hv2080, hf⟩ := hf
  refine zr_cV X hR hl.1 (As := [.int x1, .int x2]) (rest := []) (C := RX10) (T := TX10) (N := 34) (mt_X10_comfort hT am x1 x2 h2062 n2062 hv2080) rfl ho2080 mf_X10_comfort q_1575 q_1576 q_1577 ⟨Nat.le_trans (Nat.le_of_ble_eq_true rfl) hRf, Nat.le_trans (Nat.le_of_ble_eq_true rfl) hRl⟩ ⟨hc, hs⟩ rfl (Nat.le_of_ble_eq_true rfl) dL_law_2080 (fun H locs hR => ?_)
  refine W.eq (g2 := F0 m 2083 ls [.int v2080]) rfl ?_
  refine W.widen (k := cs + 20) (n := ss + 253) (Nat.le_refl _) (Nat.le_refl _) ?_
  refine lv_istore (i := 7) (lv' := [(7, .int v2080), (6, .int v2062), (5, .int i), (4, .ref ad), (3, .ref ao), (2, .ref am), (1, .ref ax), (0, .ref b)]) hx hb dL_law_2083 hl (by decide) rfl (fun ls hl => ?_)
  refine lv_aload_n hx hb dL_law_2085 rfl (lv_at hl 5 rfl) ?_
  obtain ⟨⟨fs2086, ho2086⟩, hf⟩ := hf
  obtain ⟨v2086, hv2086, hf⟩ := hf
  refine zr_cV X hR hl.1 (As := []) (rest := []) (C := RX10) (T := TX10) (N := 34) (mt_X10_thrown hT am h2080 n2062 hv2086) rfl ho2086 mf_X10_thrown q_1359 q_1360 q_1361 ⟨Nat.le_trans (Nat.le_of_ble_eq_true rfl) hRf, Nat.le_trans (Nat.le_of_ble_eq_true rfl) hRl⟩ ⟨hc, hs⟩ rfl (Nat.le_of_ble_eq_true rfl) dL_law_2086 (fun H locs hR => ?_)
  refine W.eq (g2 := F0 m 2089 ls [.int v2086]) rfl ?_
  refine W.widen (k := cs + 20) (n := ss + 253) (Nat.le_refl _) (Nat.le_refl _) ?_
  refine lv_iload hx hb dL_law_2089 (lv_at hl 1 rfl) ?_
  refine lv_icmp_eq (tgt := 2096) hx hb dL_law_2091 (by decide) (fun c2091 => ?_) (fun c2091 => ?_)
  · replace hf := hf.1 c2091
    refine lv_iload hx hb dL_law_2096 (lv_at hl 1 rfl) ?_
    refine lv_if_ne (tgt := 2113) hx hb dL_law_2098 (by decide) (fun c2098 => ?_) (fun c2098 => ?_)
    · replace hf := hf.2 c2098
      refine lv_goto (tgt := 3298) hx hb dL_law_2113 (by decide) ?_
      exact hK _ _ hf hR (lv_sub hl [2, 3, 4, 5, 6, 7] rfl)
    · replace hf := hf.1 c2098
      refine lv_aload_n hx hb dL_law_2101 rfl (lv_at hl 4 rfl) ?_
      refine lv_iconst (v := (0 : Int32)) hx hb dL_law_2102 (by decide) ?_
      obtain ⟨v2103, hv2103, hf⟩ := hf
      refine zr_lald X hR (r := some ao) dL_law_2103 hv2103 (fun vv hvv => ?_)
      cases hvv
      refine lv_iload hx hb dL_law_2104 (lv_at hl 0 rfl) ?_
      refine lv_i2l hx hb dL_law_2106 rfl ?_
      refine W.lcmp hx hb dL_law_2107 ?_
      refine lv_if_eq (tgt := 2113) hx hb dL_law_2108 (by decide) (fun c2108 => ?_) (fun c2108 => ?_)
      · replace hf := hf.1 c2108
        refine lv_goto (tgt := 3298) hx hb dL_law_2113 (by decide) ?_
        exact hK _ _ hf hR (lv_sub hl [2, 3, 4, 5, 6, 7] rfl)
      · replace hf := hf.2 c2108
        refine lv_iconst (v := (0 : Int32)) hx hb dL_law_2111 (by decide) ?_
        exact hf.elim
  · replace hf := hf.2 c2091
    refine lv_iconst (v := (0 : Int32)) hx hb dL_law_2094 (by decide) ?_
    exact hf.elim
set_option maxHeartbeats 4000000 in
set_option maxRecDepth 100000 in
theorem lc_26 {D : va_G} {dA : Nat → ClassId} {base t0 : Nat} {l : Launch} {p : Program} {e : Env} {R : Room} {s : State} {m : MethodId} {args : Array Value} {below : List Frame} {meth : Method} {c : Code} {Q : State → Prop} (X : zz_X D dA base t0 "SpringseatLaw" cL_law 9 (some .boolean) l p s m meth c) (hT : l.stackTraces = false) (hN : zz_N s) {b L : Nat} {xs : Nat → Int32} (hX : va_X b L xs s s.heap) (hbl : b < s.heap.size) (hbA : ¬ base ≤ b) (hRf : 13 ≤ R.frames) (hRl : 482 ≤ R.locals) {cs ss : Nat} (hc : cs + 20 ≤ R.cells) (hs : ss + 253 ≤ R.slots) {ax am ao ad : Nat} {i x1 x2 x3 x4 : Int32} (hi1 : vp_in (i + 1) L) (hi2 : vp_in (i + 2) L) (hi3 : vp_in (i + 3) L) (hi4 : vp_in (i + 4) L) (hq1 : xs (i + 1).toNatClampNeg = x1) (hq2 : xs (i + 2).toNatClampNeg = x2) (hq3 : xs (i + 3).toNatClampNeg = x3) (hq4 : xs (i + 4).toNatClampNeg = x4) {K : zz_H → Nat → Prop} (hK : ∀ h n, K h n → ∀ {H : Heap} {locs : List Loc} {ls : Array Slot}, zz_R D dA base h n s H locs → lv_has ls 9 [(5, .int i), (4, .ref ad), (3, .ref ao), (2, .ref am), (1, .ref ax), (0, .ref b)] → W p l e R s m args below meth c H locs (cs + 20) (ss + 253) Q (F0 m 3298 ls [])) {h : zz_H} {n : Nat} {H : Heap} {locs : List Loc} {ls : Array Slot} (hR : zz_R D dA base h n s H locs) (hl : lv_has ls 9 [(5, .int i), (4, .ref ad), (3, .ref ao), (2, .ref am), (1, .ref ax), (0, .ref b)]) (hf : w_26 t0 ax am ao ad x1 x2 x3 x4 h n K) : W p l e R s m args below meth c H locs cs ss Q (F0 m 2116 ls []) := by
  have hx := X.1
  have hb := X.2.1
  have hown := X.2.2.2.2.1
  unfold w_26 at hf
  refine lv_aload_n hx hb dL_law_2116 rfl (lv_at hl 4 rfl) ?_
  refine lv_aload_n hx hb dL_law_2117 rfl (lv_at hl 5 rfl) ?_
  refine lv_iload hx hb dL_law_2118 (lv_at hl 0 rfl) ?_
  refine lv_iconst (v := (1 : Int32)) hx hb dL_law_2120 (by decide) ?_
  refine lv_iadd hx hb dL_law_2121 ?_
  refine zl_ld hx hb hX hbl hbA hR.2 hi1 hq1 dL_law_2122 ?_
  refine lv_aload_n hx hb dL_law_2123 rfl (lv_at hl 5 rfl) ?_
  refine lv_iload hx hb dL_law_2124 (lv_at hl 0 rfl) ?_
  refine lv_iconst (v := (2 : Int32)) hx hb dL_law_2126 (by decide) ?_
  refine lv_iadd hx hb dL_law_2127 ?_
  refine zl_ld hx hb hX hbl hbA hR.2 hi2 hq2 dL_law_2128 ?_
  refine lv_aload_n hx hb dL_law_2129 rfl (lv_at hl 5 rfl) ?_
  refine lv_iload hx hb dL_law_2130 (lv_at hl 0 rfl) ?_
  refine lv_iconst (v := (3 : Int32)) hx hb dL_law_2132 (by decide) ?_
  refine lv_iadd hx hb dL_law_2133 ?_
  refine zl_ld hx hb hX hbl hbA hR.2 hi3 hq3 dL_law_2134 ?_
  refine lv_aload_n hx hb dL_law_2135 rfl (lv_at hl 2 rfl) ?_
  obtain ⟨v2136, h2136, m2136, hv2136, hf⟩ := hf
  refine zl_cS X hN hR hl.1 (As := [.ref ax, .int x1, .int x2, .int x3, .ref ao]) (rest := []) (mt_L_fit hT ax x1 x2 x3 ao h n hv2136) mf_L_fit.1 mf_L_fit.2.1 mf_L_fit.2.2 q_1018 q_1019 ⟨Nat.le_trans (Nat.le_of_ble_eq_true rfl) hRf, Nat.le_trans (Nat.le_of_ble_eq_true rfl) hRl⟩ ⟨Nat.le_trans (Nat.add_le_add_left (Nat.le_of_ble_eq_true rfl) cs) hc, Nat.le_trans (Nat.add_le_add_left (Nat.le_of_ble_eq_true rfl) ss) hs⟩ rfl (Nat.le_of_ble_eq_true rfl) dL_law_2136 (fun n2136 H locs hn2136 hR => ?_)
  replace hf := hf n2136 hn2136
  refine W.eq (g2 := F0 m 2139 ls [.int v2136]) rfl ?_
  refine W.widen (k := cs + 20) (n := ss + 253) (Nat.add_le_add_left (Nat.le_of_ble_eq_true rfl) cs) (Nat.add_le_add_left (Nat.le_of_ble_eq_true rfl) ss) ?_
  refine lv_istore (i := 6) (lv' := [(6, .int v2136), (5, .int i), (4, .ref ad), (3, .ref ao), (2, .ref am), (1, .ref ax), (0, .ref b)]) hx hb dL_law_2139 hl (by decide) rfl (fun ls hl => ?_)
  refine lv_aload_n hx hb dL_law_2141 rfl (lv_at hl 4 rfl) ?_
  refine lv_aload_n hx hb dL_law_2142 rfl (lv_at hl 6 rfl) ?_
  refine lv_iload hx hb dL_law_2143 (lv_at hl 1 rfl) ?_
  refine lv_iconst (v := (1 : Int32)) hx hb dL_law_2145 (by decide) ?_
  refine lv_iadd hx hb dL_law_2146 ?_
  refine zl_ld hx hb hX hbl hbA hR.2 hi1 hq1 dL_law_2147 ?_
  refine lv_aload_n hx hb dL_law_2148 rfl (lv_at hl 6 rfl) ?_
  refine lv_iload hx hb dL_law_2149 (lv_at hl 1 rfl) ?_
  refine lv_iconst (v := (2 : Int32)) hx hb dL_law_2151 (by decide) ?_
  refine lv_iadd hx hb dL_law_2152 ?_
  refine zl_ld hx hb hX hbl hbA hR.2 hi2 hq2 dL_law_2153 ?_
  refine lv_aload_n hx hb dL_law_2154 rfl (lv_at hl 6 rfl) ?_
  refine lv_iload hx hb dL_law_2155 (lv_at hl 1 rfl) ?_
  refine lv_iconst (v := (3 : Int32)) hx hb dL_law_2157 (by decide) ?_
  refine lv_iadd hx hb dL_law_2158 ?_
  refine zl_ld hx hb hX hbl hbA hR.2 hi3 hq3 dL_law_2159 ?_
  obtain ⟨⟨fs2160, ho2160⟩, hf⟩ := hf
  obtain ⟨v2160, h2160, hv2160, hf⟩ := hf
  refine zr_cV X hR hl.1 (As := [.int x1, .int x2, .int x3]) (rest := []) (C := RX10) (T := TX10) (N := 34) (mt_X10_fit hT am x1 x2 x3 h2136 n2136 hv2160) rfl ho2160 mf_X10_fit q_1579 q_1580 q_1581 ⟨Nat.le_trans (Nat.le_of_ble_eq_true rfl) hRf, Nat.le_trans (Nat.le_of_ble_eq_true rfl) hRl⟩ ⟨hc, hs⟩ rfl (Nat.le_of_ble_eq_true rfl) dL_law_2160 (fun H locs hR => ?_)
  refine W.eq (g2 := F0 m 2163 ls [.int v2160]) rfl ?_
  refine W.widen (k := cs + 20) (n := ss + 253) (Nat.le_refl _) (Nat.le_refl _) ?_
  refine lv_istore (i := 7) (lv' := [(7, .int v2160), (6, .int v2136), (5, .int i), (4, .ref ad), (3, .ref ao), (2, .ref am), (1, .ref ax), (0, .ref b)]) hx hb dL_law_2163 hl (by decide) rfl (fun ls hl => ?_)
  refine lv_aload_n hx hb dL_law_2165 rfl (lv_at hl 5 rfl) ?_
  obtain ⟨⟨fs2166, ho2166⟩, hf⟩ := hf
  obtain ⟨v2166, hv2166, hf⟩ := hf
  refine zr_cV X hR hl.1 (As := []) (rest := []) (C := RX10) (T := TX10) (N := 34) (mt_X10_thrown hT am h2160 n2136 hv2166) rfl ho2166 mf_X10_thrown q_1359 q_1360 q_1361 ⟨Nat.le_trans (Nat.le_of_ble_eq_true rfl) hRf, Nat.le_trans (Nat.le_of_ble_eq_true rfl) hRl⟩ ⟨hc, hs⟩ rfl (Nat.le_of_ble_eq_true rfl) dL_law_2166 (fun H locs hR => ?_)
  refine W.eq (g2 := F0 m 2169 ls [.int v2166]) rfl ?_
  refine W.widen (k := cs + 20) (n := ss + 253) (Nat.le_refl _) (Nat.le_refl _) ?_
  refine lv_iload hx hb dL_law_2169 (lv_at hl 1 rfl) ?_
  refine lv_icmp_eq (tgt := 2176) hx hb dL_law_2171 (by decide) (fun c2171 => ?_) (fun c2171 => ?_)
  · replace hf := hf.1 c2171
    refine lv_iload hx hb dL_law_2176 (lv_at hl 1 rfl) ?_
    refine lv_if_ne (tgt := 2193) hx hb dL_law_2178 (by decide) (fun c2178 => ?_) (fun c2178 => ?_)
    · replace hf := hf.2 c2178
      refine lv_goto (tgt := 3298) hx hb dL_law_2193 (by decide) ?_
      exact hK _ _ hf hR (lv_sub hl [2, 3, 4, 5, 6, 7] rfl)
    · replace hf := hf.1 c2178
      refine lv_aload_n hx hb dL_law_2181 rfl (lv_at hl 4 rfl) ?_
      refine lv_iconst (v := (0 : Int32)) hx hb dL_law_2182 (by decide) ?_
      obtain ⟨v2183, hv2183, hf⟩ := hf
      refine zr_lald X hR (r := some ao) dL_law_2183 hv2183 (fun vv hvv => ?_)
      cases hvv
      refine lv_iload hx hb dL_law_2184 (lv_at hl 0 rfl) ?_
      refine lv_i2l hx hb dL_law_2186 rfl ?_
      refine W.lcmp hx hb dL_law_2187 ?_
      refine lv_if_eq (tgt := 2193) hx hb dL_law_2188 (by decide) (fun c2188 => ?_) (fun c2188 => ?_)
      · replace hf := hf.1 c2188
        refine lv_goto (tgt := 3298) hx hb dL_law_2193 (by decide) ?_
        exact hK _ _ hf hR (lv_sub hl [2, 3, 4, 5, 6, 7] rfl)
      · replace hf := hf.2 c2188
        refine lv_iconst (v := (0 : Int32)) hx hb dL_law_2191 (by decide) ?_
        exact hf.elim
  · replace hf := hf.2 c2171
    refine lv_iconst (v := (0 : Int32)) hx hb dL_law_2174 (by decide) ?_
    exact hf.elim
set_option maxHeartbeats 4000000 in
set_option maxRecDepth 100000 in
theorem lc_27 {D : va_G} {dA : Nat → ClassId} {base t0 : Nat} {l : Launch} {p : Program} {e : Env} {R : Room} {s : State} {m : MethodId} {args : Array Value} {below : List Frame} {meth : Method} {c : Code} {Q : State → Prop} (X : zz_X D dA base t0 "SpringseatLaw" cL_law 9 (some .boolean) l p s m meth c) (hT : l.stackTraces = false) (hN : zz_N s) {b L : Nat} {xs : Nat → Int32} (hX : va_X b L xs s s.heap) (hbl : b < s.heap.size) (hbA : ¬ base ≤ b) (hRf : 13 ≤ R.frames) (hRl : 482 ≤ R.locals) {cs ss : Nat} (hc : cs + 20 ≤ R.cells) (hs : ss + 253 ≤ R.slots) {ax am ao ad : Nat} {i x1 x2 x3 x4 : Int32} (hi1 : vp_in (i + 1) L) (hi2 : vp_in (i + 2) L) (hi3 : vp_in (i + 3) L) (hi4 : vp_in (i + 4) L) (hq1 : xs (i + 1).toNatClampNeg = x1) (hq2 : xs (i + 2).toNatClampNeg = x2) (hq3 : xs (i + 3).toNatClampNeg = x3) (hq4 : xs (i + 4).toNatClampNeg = x4) {K : zz_H → Nat → Prop} (hK : ∀ h n, K h n → ∀ {H : Heap} {locs : List Loc} {ls : Array Slot}, zz_R D dA base h n s H locs → lv_has ls 9 [(5, .int i), (4, .ref ad), (3, .ref ao), (2, .ref am), (1, .ref ax), (0, .ref b)] → W p l e R s m args below meth c H locs (cs + 20) (ss + 253) Q (F0 m 3298 ls [])) {h : zz_H} {n : Nat} {H : Heap} {locs : List Loc} {ls : Array Slot} (hR : zz_R D dA base h n s H locs) (hl : lv_has ls 9 [(5, .int i), (4, .ref ad), (3, .ref ao), (2, .ref am), (1, .ref ax), (0, .ref b)]) (hf : w_27 t0 ax am ao ad x1 x2 x3 x4 h n K) : W p l e R s m args below meth c H locs cs ss Q (F0 m 2196 ls []) := by
  have hx := X.1
  have hb := X.2.1
  have hown := X.2.2.2.2.1
  unfold w_27 at hf
  refine lv_aload_n hx hb dL_law_2196 rfl (lv_at hl 4 rfl) ?_
  refine lv_aload_n hx hb dL_law_2197 rfl (lv_at hl 5 rfl) ?_
  refine lv_iload hx hb dL_law_2198 (lv_at hl 0 rfl) ?_
  refine lv_iconst (v := (1 : Int32)) hx hb dL_law_2200 (by decide) ?_
  refine lv_iadd hx hb dL_law_2201 ?_
  refine zl_ld hx hb hX hbl hbA hR.2 hi1 hq1 dL_law_2202 ?_
  refine lv_aload_n hx hb dL_law_2203 rfl (lv_at hl 5 rfl) ?_
  refine lv_iload hx hb dL_law_2204 (lv_at hl 0 rfl) ?_
  refine lv_iconst (v := (2 : Int32)) hx hb dL_law_2206 (by decide) ?_
  refine lv_iadd hx hb dL_law_2207 ?_
  refine zl_ld hx hb hX hbl hbA hR.2 hi2 hq2 dL_law_2208 ?_
  refine lv_aload_n hx hb dL_law_2209 rfl (lv_at hl 2 rfl) ?_
  obtain ⟨v2210, h2210, m2210, hv2210, hf⟩ := hf
  refine zl_cS X hN hR hl.1 (As := [.ref ax, .int x1, .int x2, .ref ao]) (rest := []) (mt_L_cloth hT ax x1 x2 ao h n hv2210) mf_L_cloth.1 mf_L_cloth.2.1 mf_L_cloth.2.2 q_1025 q_1026 ⟨Nat.le_trans (Nat.le_of_ble_eq_true rfl) hRf, Nat.le_trans (Nat.le_of_ble_eq_true rfl) hRl⟩ ⟨Nat.le_trans (Nat.add_le_add_left (Nat.le_of_ble_eq_true rfl) cs) hc, Nat.le_trans (Nat.add_le_add_left (Nat.le_of_ble_eq_true rfl) ss) hs⟩ rfl (Nat.le_of_ble_eq_true rfl) dL_law_2210 (fun n2210 H locs hn2210 hR => ?_)
  replace hf := hf n2210 hn2210
  refine W.eq (g2 := F0 m 2213 ls [.int v2210]) rfl ?_
  refine W.widen (k := cs + 20) (n := ss + 253) (Nat.add_le_add_left (Nat.le_of_ble_eq_true rfl) cs) (Nat.add_le_add_left (Nat.le_of_ble_eq_true rfl) ss) ?_
  refine lv_istore (i := 6) (lv' := [(6, .int v2210), (5, .int i), (4, .ref ad), (3, .ref ao), (2, .ref am), (1, .ref ax), (0, .ref b)]) hx hb dL_law_2213 hl (by decide) rfl (fun ls hl => ?_)
  refine lv_aload_n hx hb dL_law_2215 rfl (lv_at hl 4 rfl) ?_
  refine lv_aload_n hx hb dL_law_2216 rfl (lv_at hl 6 rfl) ?_
  refine lv_iload hx hb dL_law_2217 (lv_at hl 1 rfl) ?_
  refine lv_iconst (v := (1 : Int32)) hx hb dL_law_2219 (by decide) ?_
  refine lv_iadd hx hb dL_law_2220 ?_
  refine zl_ld hx hb hX hbl hbA hR.2 hi1 hq1 dL_law_2221 ?_
  refine lv_aload_n hx hb dL_law_2222 rfl (lv_at hl 6 rfl) ?_
  refine lv_iload hx hb dL_law_2223 (lv_at hl 1 rfl) ?_
  refine lv_iconst (v := (2 : Int32)) hx hb dL_law_2225 (by decide) ?_
  refine lv_iadd hx hb dL_law_2226 ?_
  refine zl_ld hx hb hX hbl hbA hR.2 hi2 hq2 dL_law_2227 ?_
  obtain ⟨⟨fs2228, ho2228⟩, hf⟩ := hf
  obtain ⟨v2228, h2228, hv2228, hf⟩ := hf
  refine zr_cV X hR hl.1 (As := [.int x1, .int x2]) (rest := []) (C := RX10) (T := TX10) (N := 34) (mt_X10_cloth hT am x1 x2 h2210 n2210 hv2228) rfl ho2228 mf_X10_cloth q_1583 q_1584 q_1585 ⟨Nat.le_trans (Nat.le_of_ble_eq_true rfl) hRf, Nat.le_trans (Nat.le_of_ble_eq_true rfl) hRl⟩ ⟨hc, hs⟩ rfl (Nat.le_of_ble_eq_true rfl) dL_law_2228 (fun H locs hR => ?_)
  refine W.eq (g2 := F0 m 2231 ls [.int v2228]) rfl ?_
  refine W.widen (k := cs + 20) (n := ss + 253) (Nat.le_refl _) (Nat.le_refl _) ?_
  refine lv_istore (i := 7) (lv' := [(7, .int v2228), (6, .int v2210), (5, .int i), (4, .ref ad), (3, .ref ao), (2, .ref am), (1, .ref ax), (0, .ref b)]) hx hb dL_law_2231 hl (by decide) rfl (fun ls hl => ?_)
  refine lv_aload_n hx hb dL_law_2233 rfl (lv_at hl 5 rfl) ?_
  obtain ⟨⟨fs2234, ho2234⟩, hf⟩ := hf
  obtain ⟨v2234, hv2234, hf⟩ := hf
  refine zr_cV X hR hl.1 (As := []) (rest := []) (C := RX10) (T := TX10) (N := 34) (mt_X10_thrown hT am h2228 n2210 hv2234) rfl ho2234 mf_X10_thrown q_1359 q_1360 q_1361 ⟨Nat.le_trans (Nat.le_of_ble_eq_true rfl) hRf, Nat.le_trans (Nat.le_of_ble_eq_true rfl) hRl⟩ ⟨hc, hs⟩ rfl (Nat.le_of_ble_eq_true rfl) dL_law_2234 (fun H locs hR => ?_)
  refine W.eq (g2 := F0 m 2237 ls [.int v2234]) rfl ?_
  refine W.widen (k := cs + 20) (n := ss + 253) (Nat.le_refl _) (Nat.le_refl _) ?_
  refine lv_iload hx hb dL_law_2237 (lv_at hl 1 rfl) ?_
  refine lv_icmp_eq (tgt := 2244) hx hb dL_law_2239 (by decide) (fun c2239 => ?_) (fun c2239 => ?_)
  · replace hf := hf.1 c2239
    refine lv_iload hx hb dL_law_2244 (lv_at hl 1 rfl) ?_
    refine lv_if_ne (tgt := 2261) hx hb dL_law_2246 (by decide) (fun c2246 => ?_) (fun c2246 => ?_)
    · replace hf := hf.2 c2246
      refine lv_goto (tgt := 3298) hx hb dL_law_2261 (by decide) ?_
      exact hK _ _ hf hR (lv_sub hl [2, 3, 4, 5, 6, 7] rfl)
    · replace hf := hf.1 c2246
      refine lv_aload_n hx hb dL_law_2249 rfl (lv_at hl 4 rfl) ?_
      refine lv_iconst (v := (0 : Int32)) hx hb dL_law_2250 (by decide) ?_
      obtain ⟨v2251, hv2251, hf⟩ := hf
      refine zr_lald X hR (r := some ao) dL_law_2251 hv2251 (fun vv hvv => ?_)
      cases hvv
      refine lv_iload hx hb dL_law_2252 (lv_at hl 0 rfl) ?_
      refine lv_i2l hx hb dL_law_2254 rfl ?_
      refine W.lcmp hx hb dL_law_2255 ?_
      refine lv_if_eq (tgt := 2261) hx hb dL_law_2256 (by decide) (fun c2256 => ?_) (fun c2256 => ?_)
      · replace hf := hf.1 c2256
        refine lv_goto (tgt := 3298) hx hb dL_law_2261 (by decide) ?_
        exact hK _ _ hf hR (lv_sub hl [2, 3, 4, 5, 6, 7] rfl)
      · replace hf := hf.2 c2256
        refine lv_iconst (v := (0 : Int32)) hx hb dL_law_2259 (by decide) ?_
        exact hf.elim
  · replace hf := hf.2 c2239
    refine lv_iconst (v := (0 : Int32)) hx hb dL_law_2242 (by decide) ?_
    exact hf.elim
set_option maxHeartbeats 4000000 in
set_option maxRecDepth 100000 in
theorem lc_28 {D : va_G} {dA : Nat → ClassId} {base t0 : Nat} {l : Launch} {p : Program} {e : Env} {R : Room} {s : State} {m : MethodId} {args : Array Value} {below : List Frame} {meth : Method} {c : Code} {Q : State → Prop} (X : zz_X D dA base t0 "SpringseatLaw" cL_law 9 (some .boolean) l p s m meth c) (hT : l.stackTraces = false) (hN : zz_N s) {b L : Nat} {xs : Nat → Int32} (hX : va_X b L xs s s.heap) (hbl : b < s.heap.size) (hbA : ¬ base ≤ b) (hRf : 13 ≤ R.frames) (hRl : 482 ≤ R.locals) {cs ss : Nat} (hc : cs + 20 ≤ R.cells) (hs : ss + 253 ≤ R.slots) {ax am ao ad : Nat} {i x1 x2 x3 x4 : Int32} (hi1 : vp_in (i + 1) L) (hi2 : vp_in (i + 2) L) (hi3 : vp_in (i + 3) L) (hi4 : vp_in (i + 4) L) (hq1 : xs (i + 1).toNatClampNeg = x1) (hq2 : xs (i + 2).toNatClampNeg = x2) (hq3 : xs (i + 3).toNatClampNeg = x3) (hq4 : xs (i + 4).toNatClampNeg = x4) {K : zz_H → Nat → Prop} (hK : ∀ h n, K h n → ∀ {H : Heap} {locs : List Loc} {ls : Array Slot}, zz_R D dA base h n s H locs → lv_has ls 9 [(5, .int i), (4, .ref ad), (3, .ref ao), (2, .ref am), (1, .ref ax), (0, .ref b)] → W p l e R s m args below meth c H locs (cs + 20) (ss + 253) Q (F0 m 3298 ls [])) {h : zz_H} {n : Nat} {H : Heap} {locs : List Loc} {ls : Array Slot} (hR : zz_R D dA base h n s H locs) (hl : lv_has ls 9 [(5, .int i), (4, .ref ad), (3, .ref ao), (2, .ref am), (1, .ref ax), (0, .ref b)]) (hf : w_28 t0 ax am ao ad x1 x2 x3 x4 h n K) : W p l e R s m args below meth c H locs cs ss Q (F0 m 2264 ls []) := by
  have hx := X.1
  have hb := X.2.1
  have hown := X.2.2.2.2.1
  unfold w_28 at hf
  refine lv_aload_n hx hb dL_law_2264 rfl (lv_at hl 4 rfl) ?_
  refine lv_aload_n hx hb dL_law_2265 rfl (lv_at hl 5 rfl) ?_
  refine lv_iload hx hb dL_law_2266 (lv_at hl 0 rfl) ?_
  refine lv_iconst (v := (1 : Int32)) hx hb dL_law_2268 (by decide) ?_
  refine lv_iadd hx hb dL_law_2269 ?_
  refine zl_ld hx hb hX hbl hbA hR.2 hi1 hq1 dL_law_2270 ?_
  refine lv_aload_n hx hb dL_law_2271 rfl (lv_at hl 5 rfl) ?_
  refine lv_iload hx hb dL_law_2272 (lv_at hl 0 rfl) ?_
  refine lv_iconst (v := (2 : Int32)) hx hb dL_law_2274 (by decide) ?_
  refine lv_iadd hx hb dL_law_2275 ?_
  refine zl_ld hx hb hX hbl hbA hR.2 hi2 hq2 dL_law_2276 ?_
  refine lv_aload_n hx hb dL_law_2277 rfl (lv_at hl 2 rfl) ?_
  obtain ⟨v2278, h2278, m2278, hv2278, hf⟩ := hf
  refine zl_cS X hN hR hl.1 (As := [.ref ax, .int x1, .int x2, .ref ao]) (rest := []) (mt_L_flaw hT ax x1 x2 ao h n hv2278) mf_L_flaw.1 mf_L_flaw.2.1 mf_L_flaw.2.2 q_1056 q_1057 ⟨Nat.le_trans (Nat.le_of_ble_eq_true rfl) hRf, Nat.le_trans (Nat.le_of_ble_eq_true rfl) hRl⟩ ⟨Nat.le_trans (Nat.add_le_add_left (Nat.le_of_ble_eq_true rfl) cs) hc, Nat.le_trans (Nat.add_le_add_left (Nat.le_of_ble_eq_true rfl) ss) hs⟩ rfl (Nat.le_of_ble_eq_true rfl) dL_law_2278 (fun n2278 H locs hn2278 hR => ?_)
  replace hf := hf n2278 hn2278
  refine W.eq (g2 := F0 m 2281 ls [.int v2278]) rfl ?_
  refine W.widen (k := cs + 20) (n := ss + 253) (Nat.add_le_add_left (Nat.le_of_ble_eq_true rfl) cs) (Nat.add_le_add_left (Nat.le_of_ble_eq_true rfl) ss) ?_
  refine lv_istore (i := 6) (lv' := [(6, .int v2278), (5, .int i), (4, .ref ad), (3, .ref ao), (2, .ref am), (1, .ref ax), (0, .ref b)]) hx hb dL_law_2281 hl (by decide) rfl (fun ls hl => ?_)
  refine lv_aload_n hx hb dL_law_2283 rfl (lv_at hl 4 rfl) ?_
  refine lv_aload_n hx hb dL_law_2284 rfl (lv_at hl 6 rfl) ?_
  refine lv_iload hx hb dL_law_2285 (lv_at hl 1 rfl) ?_
  refine lv_iconst (v := (1 : Int32)) hx hb dL_law_2287 (by decide) ?_
  refine lv_iadd hx hb dL_law_2288 ?_
  refine zl_ld hx hb hX hbl hbA hR.2 hi1 hq1 dL_law_2289 ?_
  refine lv_aload_n hx hb dL_law_2290 rfl (lv_at hl 6 rfl) ?_
  refine lv_iload hx hb dL_law_2291 (lv_at hl 1 rfl) ?_
  refine lv_iconst (v := (2 : Int32)) hx hb dL_law_2293 (by decide) ?_
  refine lv_iadd hx hb dL_law_2294 ?_
  refine zl_ld hx hb hX hbl hbA hR.2 hi2 hq2 dL_law_2295 ?_
  obtain ⟨⟨fs2296, ho2296⟩, hf⟩ := hf
  obtain ⟨v2296, h2296, hv2296, hf⟩ := hf
  refine zr_cV X hR hl.1 (As := [.int x1, .int x2]) (rest := []) (C := RX10) (T := TX10) (N := 34) (mt_X10_flaw hT am x1 x2 h2278 n2278 hv2296) rfl ho2296 mf_X10_flaw q_1587 q_1588 q_1589 ⟨Nat.le_trans (Nat.le_of_ble_eq_true rfl) hRf, Nat.le_trans (Nat.le_of_ble_eq_true rfl) hRl⟩ ⟨hc, hs⟩ rfl (Nat.le_of_ble_eq_true rfl) dL_law_2296 (fun H locs hR => ?_)
  refine W.eq (g2 := F0 m 2299 ls [.int v2296]) rfl ?_
  refine W.widen (k := cs + 20) (n := ss + 253) (Nat.le_refl _) (Nat.le_refl _) ?_
  refine lv_istore (i := 7) (lv' := [(7, .int v2296), (6, .int v2278), (5, .int i), (4, .ref ad), (3, .ref ao), (2, .ref am), (1, .ref ax), (0, .ref b)]) hx hb dL_law_2299 hl (by decide) rfl (fun ls hl => ?_)
  refine lv_aload_n hx hb dL_law_2301 rfl (lv_at hl 5 rfl) ?_
  obtain ⟨⟨fs2302, ho2302⟩, hf⟩ := hf
  obtain ⟨v2302, hv2302, hf⟩ := hf
  refine zr_cV X hR hl.1 (As := []) (rest := []) (C := RX10) (T := TX10) (N := 34) (mt_X10_thrown hT am h2296 n2278 hv2302) rfl ho2302 mf_X10_thrown q_1359 q_1360 q_1361 ⟨Nat.le_trans (Nat.le_of_ble_eq_true rfl) hRf, Nat.le_trans (Nat.le_of_ble_eq_true rfl) hRl⟩ ⟨hc, hs⟩ rfl (Nat.le_of_ble_eq_true rfl) dL_law_2302 (fun H locs hR => ?_)
  refine W.eq (g2 := F0 m 2305 ls [.int v2302]) rfl ?_
  refine W.widen (k := cs + 20) (n := ss + 253) (Nat.le_refl _) (Nat.le_refl _) ?_
  refine lv_iload hx hb dL_law_2305 (lv_at hl 1 rfl) ?_
  refine lv_icmp_eq (tgt := 2312) hx hb dL_law_2307 (by decide) (fun c2307 => ?_) (fun c2307 => ?_)
  · replace hf := hf.1 c2307
    refine lv_iload hx hb dL_law_2312 (lv_at hl 1 rfl) ?_
    refine lv_if_ne (tgt := 2329) hx hb dL_law_2314 (by decide) (fun c2314 => ?_) (fun c2314 => ?_)
    · replace hf := hf.2 c2314
      refine lv_goto (tgt := 3298) hx hb dL_law_2329 (by decide) ?_
      exact hK _ _ hf hR (lv_sub hl [2, 3, 4, 5, 6, 7] rfl)
    · replace hf := hf.1 c2314
      refine lv_aload_n hx hb dL_law_2317 rfl (lv_at hl 4 rfl) ?_
      refine lv_iconst (v := (0 : Int32)) hx hb dL_law_2318 (by decide) ?_
      obtain ⟨v2319, hv2319, hf⟩ := hf
      refine zr_lald X hR (r := some ao) dL_law_2319 hv2319 (fun vv hvv => ?_)
      cases hvv
      refine lv_iload hx hb dL_law_2320 (lv_at hl 0 rfl) ?_
      refine lv_i2l hx hb dL_law_2322 rfl ?_
      refine W.lcmp hx hb dL_law_2323 ?_
      refine lv_if_eq (tgt := 2329) hx hb dL_law_2324 (by decide) (fun c2324 => ?_) (fun c2324 => ?_)
      · replace hf := hf.1 c2324
        refine lv_goto (tgt := 3298) hx hb dL_law_2329 (by decide) ?_
        exact hK _ _ hf hR (lv_sub hl [2, 3, 4, 5, 6, 7] rfl)
      · replace hf := hf.2 c2324
        refine lv_iconst (v := (0 : Int32)) hx hb dL_law_2327 (by decide) ?_
        exact hf.elim
  · replace hf := hf.2 c2307
    refine lv_iconst (v := (0 : Int32)) hx hb dL_law_2310 (by decide) ?_
    exact hf.elim
set_option maxHeartbeats 4000000 in
set_option maxRecDepth 100000 in
theorem lc_29 {D : va_G} {dA : Nat → ClassId} {base t0 : Nat} {l : Launch} {p : Program} {e : Env} {R : Room} {s : State} {m : MethodId} {args : Array Value} {below : List Frame} {meth : Method} {c : Code} {Q : State → Prop} (X : zz_X D dA base t0 "SpringseatLaw" cL_law 9 (some .boolean) l p s m meth c) (hT : l.stackTraces = false) (hN : zz_N s) {b L : Nat} {xs : Nat → Int32} (hX : va_X b L xs s s.heap) (hbl : b < s.heap.size) (hbA : ¬ base ≤ b) (hRf : 13 ≤ R.frames) (hRl : 482 ≤ R.locals) {cs ss : Nat} (hc : cs + 20 ≤ R.cells) (hs : ss + 253 ≤ R.slots) {ax am ao ad : Nat} {i x1 x2 x3 x4 : Int32} (hi1 : vp_in (i + 1) L) (hi2 : vp_in (i + 2) L) (hi3 : vp_in (i + 3) L) (hi4 : vp_in (i + 4) L) (hq1 : xs (i + 1).toNatClampNeg = x1) (hq2 : xs (i + 2).toNatClampNeg = x2) (hq3 : xs (i + 3).toNatClampNeg = x3) (hq4 : xs (i + 4).toNatClampNeg = x4) {K : zz_H → Nat → Prop} (hK : ∀ h n, K h n → ∀ {H : Heap} {locs : List Loc} {ls : Array Slot}, zz_R D dA base h n s H locs → lv_has ls 9 [(5, .int i), (4, .ref ad), (3, .ref ao), (2, .ref am), (1, .ref ax), (0, .ref b)] → W p l e R s m args below meth c H locs (cs + 20) (ss + 253) Q (F0 m 3298 ls [])) {h : zz_H} {n : Nat} {H : Heap} {locs : List Loc} {ls : Array Slot} (hR : zz_R D dA base h n s H locs) (hl : lv_has ls 9 [(5, .int i), (4, .ref ad), (3, .ref ao), (2, .ref am), (1, .ref ax), (0, .ref b)]) (hf : w_29 t0 ax am ao ad x1 x2 x3 x4 h n K) : W p l e R s m args below meth c H locs cs ss Q (F0 m 2332 ls []) := by
  have hx := X.1
  have hb := X.2.1
  have hown := X.2.2.2.2.1
  unfold w_29 at hf
  refine lv_aload_n hx hb dL_law_2332 rfl (lv_at hl 4 rfl) ?_
  refine lv_aload_n hx hb dL_law_2333 rfl (lv_at hl 5 rfl) ?_
  refine lv_iload hx hb dL_law_2334 (lv_at hl 0 rfl) ?_
  refine lv_iconst (v := (1 : Int32)) hx hb dL_law_2336 (by decide) ?_
  refine lv_iadd hx hb dL_law_2337 ?_
  refine zl_ld hx hb hX hbl hbA hR.2 hi1 hq1 dL_law_2338 ?_
  refine lv_aload_n hx hb dL_law_2339 rfl (lv_at hl 2 rfl) ?_
  obtain ⟨v2340, h2340, m2340, hv2340, hf⟩ := hf
  refine zl_cS X hN hR hl.1 (As := [.ref ax, .int x1, .ref ao]) (rest := []) (mt_L_left hT ax x1 ao h n hv2340) mf_L_left.1 mf_L_left.2.1 mf_L_left.2.2 q_1069 q_1070 ⟨Nat.le_trans (Nat.le_of_ble_eq_true rfl) hRf, Nat.le_trans (Nat.le_of_ble_eq_true rfl) hRl⟩ ⟨Nat.le_trans (Nat.add_le_add_left (Nat.le_of_ble_eq_true rfl) cs) hc, Nat.le_trans (Nat.add_le_add_left (Nat.le_of_ble_eq_true rfl) ss) hs⟩ rfl (Nat.le_of_ble_eq_true rfl) dL_law_2340 (fun n2340 H locs hn2340 hR => ?_)
  replace hf := hf n2340 hn2340
  refine W.eq (g2 := F0 m 2343 ls [.int v2340]) rfl ?_
  refine W.widen (k := cs + 20) (n := ss + 253) (Nat.add_le_add_left (Nat.le_of_ble_eq_true rfl) cs) (Nat.add_le_add_left (Nat.le_of_ble_eq_true rfl) ss) ?_
  refine lv_istore (i := 6) (lv' := [(6, .int v2340), (5, .int i), (4, .ref ad), (3, .ref ao), (2, .ref am), (1, .ref ax), (0, .ref b)]) hx hb dL_law_2343 hl (by decide) rfl (fun ls hl => ?_)
  refine lv_aload_n hx hb dL_law_2345 rfl (lv_at hl 4 rfl) ?_
  refine lv_aload_n hx hb dL_law_2346 rfl (lv_at hl 6 rfl) ?_
  refine lv_iload hx hb dL_law_2347 (lv_at hl 1 rfl) ?_
  refine lv_iconst (v := (1 : Int32)) hx hb dL_law_2349 (by decide) ?_
  refine lv_iadd hx hb dL_law_2350 ?_
  refine zl_ld hx hb hX hbl hbA hR.2 hi1 hq1 dL_law_2351 ?_
  obtain ⟨⟨fs2352, ho2352⟩, hf⟩ := hf
  obtain ⟨v2352, h2352, hv2352, hf⟩ := hf
  refine zr_cV X hR hl.1 (As := [.int x1]) (rest := []) (C := RX10) (T := TX10) (N := 34) (mt_X10_left hT am x1 h2340 n2340 hv2352) rfl ho2352 mf_X10_left q_1591 q_1592 q_1593 ⟨Nat.le_trans (Nat.le_of_ble_eq_true rfl) hRf, Nat.le_trans (Nat.le_of_ble_eq_true rfl) hRl⟩ ⟨hc, hs⟩ rfl (Nat.le_of_ble_eq_true rfl) dL_law_2352 (fun H locs hR => ?_)
  refine W.eq (g2 := F0 m 2355 ls [.int v2352]) rfl ?_
  refine W.widen (k := cs + 20) (n := ss + 253) (Nat.le_refl _) (Nat.le_refl _) ?_
  refine lv_istore (i := 7) (lv' := [(7, .int v2352), (6, .int v2340), (5, .int i), (4, .ref ad), (3, .ref ao), (2, .ref am), (1, .ref ax), (0, .ref b)]) hx hb dL_law_2355 hl (by decide) rfl (fun ls hl => ?_)
  refine lv_aload_n hx hb dL_law_2357 rfl (lv_at hl 5 rfl) ?_
  obtain ⟨⟨fs2358, ho2358⟩, hf⟩ := hf
  obtain ⟨v2358, hv2358, hf⟩ := hf
  refine zr_cV X hR hl.1 (As := []) (rest := []) (C := RX10) (T := TX10) (N := 34) (mt_X10_thrown hT am h2352 n2340 hv2358) rfl ho2358 mf_X10_thrown q_1359 q_1360 q_1361 ⟨Nat.le_trans (Nat.le_of_ble_eq_true rfl) hRf, Nat.le_trans (Nat.le_of_ble_eq_true rfl) hRl⟩ ⟨hc, hs⟩ rfl (Nat.le_of_ble_eq_true rfl) dL_law_2358 (fun H locs hR => ?_)
  refine W.eq (g2 := F0 m 2361 ls [.int v2358]) rfl ?_
  refine W.widen (k := cs + 20) (n := ss + 253) (Nat.le_refl _) (Nat.le_refl _) ?_
  refine lv_iload hx hb dL_law_2361 (lv_at hl 1 rfl) ?_
  refine lv_icmp_eq (tgt := 2368) hx hb dL_law_2363 (by decide) (fun c2363 => ?_) (fun c2363 => ?_)
  · replace hf := hf.1 c2363
    refine lv_iload hx hb dL_law_2368 (lv_at hl 1 rfl) ?_
    refine lv_if_ne (tgt := 2385) hx hb dL_law_2370 (by decide) (fun c2370 => ?_) (fun c2370 => ?_)
    · replace hf := hf.2 c2370
      refine lv_goto (tgt := 3298) hx hb dL_law_2385 (by decide) ?_
      exact hK _ _ hf hR (lv_sub hl [2, 3, 4, 5, 6, 7] rfl)
    · replace hf := hf.1 c2370
      refine lv_aload_n hx hb dL_law_2373 rfl (lv_at hl 4 rfl) ?_
      refine lv_iconst (v := (0 : Int32)) hx hb dL_law_2374 (by decide) ?_
      obtain ⟨v2375, hv2375, hf⟩ := hf
      refine zr_lald X hR (r := some ao) dL_law_2375 hv2375 (fun vv hvv => ?_)
      cases hvv
      refine lv_iload hx hb dL_law_2376 (lv_at hl 0 rfl) ?_
      refine lv_i2l hx hb dL_law_2378 rfl ?_
      refine W.lcmp hx hb dL_law_2379 ?_
      refine lv_if_eq (tgt := 2385) hx hb dL_law_2380 (by decide) (fun c2380 => ?_) (fun c2380 => ?_)
      · replace hf := hf.1 c2380
        refine lv_goto (tgt := 3298) hx hb dL_law_2385 (by decide) ?_
        exact hK _ _ hf hR (lv_sub hl [2, 3, 4, 5, 6, 7] rfl)
      · replace hf := hf.2 c2380
        refine lv_iconst (v := (0 : Int32)) hx hb dL_law_2383 (by decide) ?_
        exact hf.elim
  · replace hf := hf.2 c2363
    refine lv_iconst (v := (0 : Int32)) hx hb dL_law_2366 (by decide) ?_
    exact hf.elim
set_option maxHeartbeats 4000000 in
set_option maxRecDepth 100000 in
theorem lc_30 {D : va_G} {dA : Nat → ClassId} {base t0 : Nat} {l : Launch} {p : Program} {e : Env} {R : Room} {s : State} {m : MethodId} {args : Array Value} {below : List Frame} {meth : Method} {c : Code} {Q : State → Prop} (X : zz_X D dA base t0 "SpringseatLaw" cL_law 9 (some .boolean) l p s m meth c) (hT : l.stackTraces = false) (hN : zz_N s) {b L : Nat} {xs : Nat → Int32} (hX : va_X b L xs s s.heap) (hbl : b < s.heap.size) (hbA : ¬ base ≤ b) (hRf : 13 ≤ R.frames) (hRl : 482 ≤ R.locals) {cs ss : Nat} (hc : cs + 20 ≤ R.cells) (hs : ss + 253 ≤ R.slots) {ax am ao ad : Nat} {i x1 x2 x3 x4 : Int32} (hi1 : vp_in (i + 1) L) (hi2 : vp_in (i + 2) L) (hi3 : vp_in (i + 3) L) (hi4 : vp_in (i + 4) L) (hq1 : xs (i + 1).toNatClampNeg = x1) (hq2 : xs (i + 2).toNatClampNeg = x2) (hq3 : xs (i + 3).toNatClampNeg = x3) (hq4 : xs (i + 4).toNatClampNeg = x4) {K : zz_H → Nat → Prop} (hK : ∀ h n, K h n → ∀ {H : Heap} {locs : List Loc} {ls : Array Slot}, zz_R D dA base h n s H locs → lv_has ls 9 [(5, .int i), (4, .ref ad), (3, .ref ao), (2, .ref am), (1, .ref ax), (0, .ref b)] → W p l e R s m args below meth c H locs (cs + 20) (ss + 253) Q (F0 m 3298 ls [])) {h : zz_H} {n : Nat} {H : Heap} {locs : List Loc} {ls : Array Slot} (hR : zz_R D dA base h n s H locs) (hl : lv_has ls 9 [(5, .int i), (4, .ref ad), (3, .ref ao), (2, .ref am), (1, .ref ax), (0, .ref b)]) (hf : w_30 t0 ax am ao ad x1 x2 x3 x4 h n K) : W p l e R s m args below meth c H locs cs ss Q (F0 m 2388 ls []) := by
  have hx := X.1
  have hb := X.2.1
  have hown := X.2.2.2.2.1
  unfold w_30 at hf
  refine lv_aload_n hx hb dL_law_2388 rfl (lv_at hl 4 rfl) ?_
  refine lv_aload_n hx hb dL_law_2389 rfl (lv_at hl 5 rfl) ?_
  refine lv_iload hx hb dL_law_2390 (lv_at hl 0 rfl) ?_
  refine lv_iconst (v := (1 : Int32)) hx hb dL_law_2392 (by decide) ?_
  refine lv_iadd hx hb dL_law_2393 ?_
  refine zl_ld hx hb hX hbl hbA hR.2 hi1 hq1 dL_law_2394 ?_
  refine lv_aload_n hx hb dL_law_2395 rfl (lv_at hl 5 rfl) ?_
  refine lv_iload hx hb dL_law_2396 (lv_at hl 0 rfl) ?_
  refine lv_iconst (v := (2 : Int32)) hx hb dL_law_2398 (by decide) ?_
  refine lv_iadd hx hb dL_law_2399 ?_
  refine zl_ld hx hb hX hbl hbA hR.2 hi2 hq2 dL_law_2400 ?_
  refine lv_aload_n hx hb dL_law_2401 rfl (lv_at hl 2 rfl) ?_
  obtain ⟨v2402, h2402, m2402, hv2402, hf⟩ := hf
  refine zl_cS X hN hR hl.1 (As := [.ref ax, .int x1, .int x2, .ref ao]) (rest := []) (mt_L_panel hT ax x1 x2 ao h n hv2402) mf_L_panel.1 mf_L_panel.2.1 mf_L_panel.2.2 q_1076 q_1077 ⟨Nat.le_trans (Nat.le_of_ble_eq_true rfl) hRf, Nat.le_trans (Nat.le_of_ble_eq_true rfl) hRl⟩ ⟨Nat.le_trans (Nat.add_le_add_left (Nat.le_of_ble_eq_true rfl) cs) hc, Nat.le_trans (Nat.add_le_add_left (Nat.le_of_ble_eq_true rfl) ss) hs⟩ rfl (Nat.le_of_ble_eq_true rfl) dL_law_2402 (fun n2402 H locs hn2402 hR => ?_)
  replace hf := hf n2402 hn2402
  refine W.eq (g2 := F0 m 2405 ls [.int v2402]) rfl ?_
  refine W.widen (k := cs + 20) (n := ss + 253) (Nat.add_le_add_left (Nat.le_of_ble_eq_true rfl) cs) (Nat.add_le_add_left (Nat.le_of_ble_eq_true rfl) ss) ?_
  refine lv_istore (i := 6) (lv' := [(6, .int v2402), (5, .int i), (4, .ref ad), (3, .ref ao), (2, .ref am), (1, .ref ax), (0, .ref b)]) hx hb dL_law_2405 hl (by decide) rfl (fun ls hl => ?_)
  refine lv_aload_n hx hb dL_law_2407 rfl (lv_at hl 4 rfl) ?_
  refine lv_aload_n hx hb dL_law_2408 rfl (lv_at hl 6 rfl) ?_
  refine lv_iload hx hb dL_law_2409 (lv_at hl 1 rfl) ?_
  refine lv_iconst (v := (1 : Int32)) hx hb dL_law_2411 (by decide) ?_
  refine lv_iadd hx hb dL_law_2412 ?_
  refine zl_ld hx hb hX hbl hbA hR.2 hi1 hq1 dL_law_2413 ?_
  refine lv_aload_n hx hb dL_law_2414 rfl (lv_at hl 6 rfl) ?_
  refine lv_iload hx hb dL_law_2415 (lv_at hl 1 rfl) ?_
  refine lv_iconst (v := (2 : Int32)) hx hb dL_law_2417 (by decide) ?_
  refine lv_iadd hx hb dL_law_2418 ?_
  refine zl_ld hx hb hX hbl hbA hR.2 hi2 hq2 dL_law_2419 ?_
  obtain ⟨⟨fs2420, ho2420⟩, hf⟩ := hf
  obtain ⟨v2420, h2420, hv2420, hf⟩ := hf
  refine zr_cV X hR hl.1 (As := [.int x1, .int x2]) (rest := []) (C := RX10) (T := TX10) (N := 34) (mt_X10_panel hT am x1 x2 h2402 n2402 hv2420) rfl ho2420 mf_X10_panel q_1595 q_1596 q_1597 ⟨Nat.le_trans (Nat.le_of_ble_eq_true rfl) hRf, Nat.le_trans (Nat.le_of_ble_eq_true rfl) hRl⟩ ⟨hc, hs⟩ rfl (Nat.le_of_ble_eq_true rfl) dL_law_2420 (fun H locs hR => ?_)
  refine W.eq (g2 := F0 m 2423 ls [.int v2420]) rfl ?_
  refine W.widen (k := cs + 20) (n := ss + 253) (Nat.le_refl _) (Nat.le_refl _) ?_
  refine lv_istore (i := 7) (lv' := [(7, .int v2420), (6, .int v2402), (5, .int i), (4, .ref ad), (3, .ref ao), (2, .ref am), (1, .ref ax), (0, .ref b)]) hx hb dL_law_2423 hl (by decide) rfl (fun ls hl => ?_)
  refine lv_aload_n hx hb dL_law_2425 rfl (lv_at hl 5 rfl) ?_
  obtain ⟨⟨fs2426, ho2426⟩, hf⟩ := hf
  obtain ⟨v2426, hv2426, hf⟩ := hf
  refine zr_cV X hR hl.1 (As := []) (rest := []) (C := RX10) (T := TX10) (N := 34) (mt_X10_thrown hT am h2420 n2402 hv2426) rfl ho2426 mf_X10_thrown q_1359 q_1360 q_1361 ⟨Nat.le_trans (Nat.le_of_ble_eq_true rfl) hRf, Nat.le_trans (Nat.le_of_ble_eq_true rfl) hRl⟩ ⟨hc, hs⟩ rfl (Nat.le_of_ble_eq_true rfl) dL_law_2426 (fun H locs hR => ?_)
  refine W.eq (g2 := F0 m 2429 ls [.int v2426]) rfl ?_
  refine W.widen (k := cs + 20) (n := ss + 253) (Nat.le_refl _) (Nat.le_refl _) ?_
  refine lv_iload hx hb dL_law_2429 (lv_at hl 1 rfl) ?_
  refine lv_icmp_eq (tgt := 2436) hx hb dL_law_2431 (by decide) (fun c2431 => ?_) (fun c2431 => ?_)
  · replace hf := hf.1 c2431
    refine lv_iload hx hb dL_law_2436 (lv_at hl 1 rfl) ?_
    refine lv_if_ne (tgt := 2453) hx hb dL_law_2438 (by decide) (fun c2438 => ?_) (fun c2438 => ?_)
    · replace hf := hf.2 c2438
      refine lv_goto (tgt := 3298) hx hb dL_law_2453 (by decide) ?_
      exact hK _ _ hf hR (lv_sub hl [2, 3, 4, 5, 6, 7] rfl)
    · replace hf := hf.1 c2438
      refine lv_aload_n hx hb dL_law_2441 rfl (lv_at hl 4 rfl) ?_
      refine lv_iconst (v := (0 : Int32)) hx hb dL_law_2442 (by decide) ?_
      obtain ⟨v2443, hv2443, hf⟩ := hf
      refine zr_lald X hR (r := some ao) dL_law_2443 hv2443 (fun vv hvv => ?_)
      cases hvv
      refine lv_iload hx hb dL_law_2444 (lv_at hl 0 rfl) ?_
      refine lv_i2l hx hb dL_law_2446 rfl ?_
      refine W.lcmp hx hb dL_law_2447 ?_
      refine lv_if_eq (tgt := 2453) hx hb dL_law_2448 (by decide) (fun c2448 => ?_) (fun c2448 => ?_)
      · replace hf := hf.1 c2448
        refine lv_goto (tgt := 3298) hx hb dL_law_2453 (by decide) ?_
        exact hK _ _ hf hR (lv_sub hl [2, 3, 4, 5, 6, 7] rfl)
      · replace hf := hf.2 c2448
        refine lv_iconst (v := (0 : Int32)) hx hb dL_law_2451 (by decide) ?_
        exact hf.elim
  · replace hf := hf.2 c2431
    refine lv_iconst (v := (0 : Int32)) hx hb dL_law_2434 (by decide) ?_
    exact hf.elim
set_option maxHeartbeats 4000000 in
set_option maxRecDepth 100000 in
theorem lc_31 {D : va_G} {dA : Nat → ClassId} {base t0 : Nat} {l : Launch} {p : Program} {e : Env} {R : Room} {s : State} {m : MethodId} {args : Array Value} {below : List Frame} {meth : Method} {c : Code} {Q : State → Prop} (X : zz_X D dA base t0 "SpringseatLaw" cL_law 9 (some .boolean) l p s m meth c) (hT : l.stackTraces = false) (hN : zz_N s) {b L : Nat} {xs : Nat → Int32} (hX : va_X b L xs s s.heap) (hbl : b < s.heap.size) (hbA : ¬ base ≤ b) (hRf : 13 ≤ R.frames) (hRl : 482 ≤ R.locals) {cs ss : Nat} (hc : cs + 20 ≤ R.cells) (hs : ss + 253 ≤ R.slots) {ax am ao ad : Nat} {i x1 x2 x3 x4 : Int32} (hi1 : vp_in (i + 1) L) (hi2 : vp_in (i + 2) L) (hi3 : vp_in (i + 3) L) (hi4 : vp_in (i + 4) L) (hq1 : xs (i + 1).toNatClampNeg = x1) (hq2 : xs (i + 2).toNatClampNeg = x2) (hq3 : xs (i + 3).toNatClampNeg = x3) (hq4 : xs (i + 4).toNatClampNeg = x4) {K : zz_H → Nat → Prop} (hK : ∀ h n, K h n → ∀ {H : Heap} {locs : List Loc} {ls : Array Slot}, zz_R D dA base h n s H locs → lv_has ls 9 [(5, .int i), (4, .ref ad), (3, .ref ao), (2, .ref am), (1, .ref ax), (0, .ref b)] → W p l e R s m args below meth c H locs (cs + 20) (ss + 253) Q (F0 m 3298 ls [])) {h : zz_H} {n : Nat} {H : Heap} {locs : List Loc} {ls : Array Slot} (hR : zz_R D dA base h n s H locs) (hl : lv_has ls 9 [(5, .int i), (4, .ref ad), (3, .ref ao), (2, .ref am), (1, .ref ax), (0, .ref b)]) (hf : w_31 t0 ax am ao ad x1 x2 x3 x4 h n K) : W p l e R s m args below meth c H locs cs ss Q (F0 m 2456 ls []) := by
  have hx := X.1
  have hb := X.2.1
  have hown := X.2.2.2.2.1
  unfold w_31 at hf
  refine lv_aload_n hx hb dL_law_2456 rfl (lv_at hl 4 rfl) ?_
  refine lv_aload_n hx hb dL_law_2457 rfl (lv_at hl 5 rfl) ?_
  refine lv_iload hx hb dL_law_2458 (lv_at hl 0 rfl) ?_
  refine lv_iconst (v := (1 : Int32)) hx hb dL_law_2460 (by decide) ?_
  refine lv_iadd hx hb dL_law_2461 ?_
  refine zl_ld hx hb hX hbl hbA hR.2 hi1 hq1 dL_law_2462 ?_
  refine lv_aload_n hx hb dL_law_2463 rfl (lv_at hl 5 rfl) ?_
  refine lv_iload hx hb dL_law_2464 (lv_at hl 0 rfl) ?_
  refine lv_iconst (v := (2 : Int32)) hx hb dL_law_2466 (by decide) ?_
  refine lv_iadd hx hb dL_law_2467 ?_
  refine zl_ld hx hb hX hbl hbA hR.2 hi2 hq2 dL_law_2468 ?_
  refine lv_aload_n hx hb dL_law_2469 rfl (lv_at hl 2 rfl) ?_
  obtain ⟨v2470, h2470, m2470, hv2470, hf⟩ := hf
  refine zl_cS X hN hR hl.1 (As := [.ref ax, .int x1, .int x2, .ref ao]) (rest := []) (mt_L_use hT ax x1 x2 ao h n hv2470) mf_L_use.1 mf_L_use.2.1 mf_L_use.2.2 q_1084 q_1085 ⟨Nat.le_trans (Nat.le_of_ble_eq_true rfl) hRf, Nat.le_trans (Nat.le_of_ble_eq_true rfl) hRl⟩ ⟨Nat.le_trans (Nat.add_le_add_left (Nat.le_of_ble_eq_true rfl) cs) hc, Nat.le_trans (Nat.add_le_add_left (Nat.le_of_ble_eq_true rfl) ss) hs⟩ rfl (Nat.le_of_ble_eq_true rfl) dL_law_2470 (fun n2470 H locs hn2470 hR => ?_)
  replace hf := hf n2470 hn2470
  refine W.eq (g2 := F0 m 2473 ls [.int v2470]) rfl ?_
  refine W.widen (k := cs + 20) (n := ss + 253) (Nat.add_le_add_left (Nat.le_of_ble_eq_true rfl) cs) (Nat.add_le_add_left (Nat.le_of_ble_eq_true rfl) ss) ?_
  refine lv_istore (i := 6) (lv' := [(6, .int v2470), (5, .int i), (4, .ref ad), (3, .ref ao), (2, .ref am), (1, .ref ax), (0, .ref b)]) hx hb dL_law_2473 hl (by decide) rfl (fun ls hl => ?_)
  refine lv_aload_n hx hb dL_law_2475 rfl (lv_at hl 4 rfl) ?_
  refine lv_aload_n hx hb dL_law_2476 rfl (lv_at hl 6 rfl) ?_
  refine lv_iload hx hb dL_law_2477 (lv_at hl 1 rfl) ?_
  refine lv_iconst (v := (1 : Int32)) hx hb dL_law_2479 (by decide) ?_
  refine lv_iadd hx hb dL_law_2480 ?_
  refine zl_ld hx hb hX hbl hbA hR.2 hi1 hq1 dL_law_2481 ?_
  refine lv_aload_n hx hb dL_law_2482 rfl (lv_at hl 6 rfl) ?_
  refine lv_iload hx hb dL_law_2483 (lv_at hl 1 rfl) ?_
  refine lv_iconst (v := (2 : Int32)) hx hb dL_law_2485 (by decide) ?_
  refine lv_iadd hx hb dL_law_2486 ?_
  refine zl_ld hx hb hX hbl hbA hR.2 hi2 hq2 dL_law_2487 ?_
  obtain ⟨⟨fs2488, ho2488⟩, hf⟩ := hf
  obtain ⟨v2488, h2488, hv2488, hf⟩ := hf
  refine zr_cV X hR hl.1 (As := [.int x1, .int x2]) (rest := []) (C := RX10) (T := TX10) (N := 34) (mt_X10_use hT am x1 x2 h2470 n2470 hv2488) rfl ho2488 mf_X10_use q_1599 q_1600 q_1601 ⟨Nat.le_trans (Nat.le_of_ble_eq_true rfl) hRf, Nat.le_trans (Nat.le_of_ble_eq_true rfl) hRl⟩ ⟨hc, hs⟩ rfl (Nat.le_of_ble_eq_true rfl) dL_law_2488 (fun H locs hR => ?_)
  refine W.eq (g2 := F0 m 2491 ls [.int v2488]) rfl ?_
  refine W.widen (k := cs + 20) (n := ss + 253) (Nat.le_refl _) (Nat.le_refl _) ?_
  refine lv_istore (i := 7) (lv' := [(7, .int v2488), (6, .int v2470), (5, .int i), (4, .ref ad), (3, .ref ao), (2, .ref am), (1, .ref ax), (0, .ref b)]) hx hb dL_law_2491 hl (by decide) rfl (fun ls hl => ?_)
  refine lv_aload_n hx hb dL_law_2493 rfl (lv_at hl 5 rfl) ?_
  obtain ⟨⟨fs2494, ho2494⟩, hf⟩ := hf
  obtain ⟨v2494, hv2494, hf⟩ := hf
  refine zr_cV X hR hl.1 (As := []) (rest := []) (C := RX10) (T := TX10) (N := 34) (mt_X10_thrown hT am h2488 n2470 hv2494) rfl ho2494 mf_X10_thrown q_1359 q_1360 q_1361 ⟨Nat.le_trans (Nat.le_of_ble_eq_true rfl) hRf, Nat.le_trans (Nat.le_of_ble_eq_true rfl) hRl⟩ ⟨hc, hs⟩ rfl (Nat.le_of_ble_eq_true rfl) dL_law_2494 (fun H locs hR => ?_)
  refine W.eq (g2 := F0 m 2497 ls [.int v2494]) rfl ?_
  refine W.widen (k := cs + 20) (n := ss + 253) (Nat.le_refl _) (Nat.le_refl _) ?_
  refine lv_iload hx hb dL_law_2497 (lv_at hl 1 rfl) ?_
  refine lv_icmp_eq (tgt := 2504) hx hb dL_law_2499 (by decide) (fun c2499 => ?_) (fun c2499 => ?_)
  · replace hf := hf.1 c2499
    refine lv_iload hx hb dL_law_2504 (lv_at hl 1 rfl) ?_
    refine lv_if_ne (tgt := 2521) hx hb dL_law_2506 (by decide) (fun c2506 => ?_) (fun c2506 => ?_)
    · replace hf := hf.2 c2506
      refine lv_goto (tgt := 3298) hx hb dL_law_2521 (by decide) ?_
      exact hK _ _ hf hR (lv_sub hl [2, 3, 4, 5, 6, 7] rfl)
    · replace hf := hf.1 c2506
      refine lv_aload_n hx hb dL_law_2509 rfl (lv_at hl 4 rfl) ?_
      refine lv_iconst (v := (0 : Int32)) hx hb dL_law_2510 (by decide) ?_
      obtain ⟨v2511, hv2511, hf⟩ := hf
      refine zr_lald X hR (r := some ao) dL_law_2511 hv2511 (fun vv hvv => ?_)
      cases hvv
      refine lv_iload hx hb dL_law_2512 (lv_at hl 0 rfl) ?_
      refine lv_i2l hx hb dL_law_2514 rfl ?_
      refine W.lcmp hx hb dL_law_2515 ?_
      refine lv_if_eq (tgt := 2521) hx hb dL_law_2516 (by decide) (fun c2516 => ?_) (fun c2516 => ?_)
      · replace hf := hf.1 c2516
        refine lv_goto (tgt := 3298) hx hb dL_law_2521 (by decide) ?_
        exact hK _ _ hf hR (lv_sub hl [2, 3, 4, 5, 6, 7] rfl)
      · replace hf := hf.2 c2516
        refine lv_iconst (v := (0 : Int32)) hx hb dL_law_2519 (by decide) ?_
        exact hf.elim
  · replace hf := hf.2 c2499
    refine lv_iconst (v := (0 : Int32)) hx hb dL_law_2502 (by decide) ?_
    exact hf.elim
set_option maxHeartbeats 4000000 in
set_option maxRecDepth 100000 in
theorem lc_32 {D : va_G} {dA : Nat → ClassId} {base t0 : Nat} {l : Launch} {p : Program} {e : Env} {R : Room} {s : State} {m : MethodId} {args : Array Value} {below : List Frame} {meth : Method} {c : Code} {Q : State → Prop} (X : zz_X D dA base t0 "SpringseatLaw" cL_law 9 (some .boolean) l p s m meth c) (hT : l.stackTraces = false) (hN : zz_N s) {b L : Nat} {xs : Nat → Int32} (hX : va_X b L xs s s.heap) (hbl : b < s.heap.size) (hbA : ¬ base ≤ b) (hRf : 13 ≤ R.frames) (hRl : 482 ≤ R.locals) {cs ss : Nat} (hc : cs + 20 ≤ R.cells) (hs : ss + 253 ≤ R.slots) {ax am ao ad : Nat} {i x1 x2 x3 x4 : Int32} (hi1 : vp_in (i + 1) L) (hi2 : vp_in (i + 2) L) (hi3 : vp_in (i + 3) L) (hi4 : vp_in (i + 4) L) (hq1 : xs (i + 1).toNatClampNeg = x1) (hq2 : xs (i + 2).toNatClampNeg = x2) (hq3 : xs (i + 3).toNatClampNeg = x3) (hq4 : xs (i + 4).toNatClampNeg = x4) {K : zz_H → Nat → Prop} (hK : ∀ h n, K h n → ∀ {H : Heap} {locs : List Loc} {ls : Array Slot}, zz_R D dA base h n s H locs → lv_has ls 9 [(5, .int i), (4, .ref ad), (3, .ref ao), (2, .ref am), (1, .ref ax), (0, .ref b)] → W p l e R s m args below meth c H locs (cs + 20) (ss + 253) Q (F0 m 3298 ls [])) {h : zz_H} {n : Nat} {H : Heap} {locs : List Loc} {ls : Array Slot} (hR : zz_R D dA base h n s H locs) (hl : lv_has ls 9 [(5, .int i), (4, .ref ad), (3, .ref ao), (2, .ref am), (1, .ref ax), (0, .ref b)]) (hf : w_32 t0 ax am ao ad x1 x2 x3 x4 h n K) : W p l e R s m args below meth c H locs cs ss Q (F0 m 2524 ls []) := by
  have hx := X.1
  have hb := X.2.1
  have hown := X.2.2.2.2.1
  unfold w_32 at hf
  refine lv_aload_n hx hb dL_law_2524 rfl (lv_at hl 4 rfl) ?_
  refine lv_aload_n hx hb dL_law_2525 rfl (lv_at hl 5 rfl) ?_
  refine lv_iload hx hb dL_law_2526 (lv_at hl 0 rfl) ?_
  refine lv_iconst (v := (1 : Int32)) hx hb dL_law_2528 (by decide) ?_
  refine lv_iadd hx hb dL_law_2529 ?_
  refine zl_ld hx hb hX hbl hbA hR.2 hi1 hq1 dL_law_2530 ?_
  refine lv_aload_n hx hb dL_law_2531 rfl (lv_at hl 5 rfl) ?_
  refine lv_iload hx hb dL_law_2532 (lv_at hl 0 rfl) ?_
  refine lv_iconst (v := (2 : Int32)) hx hb dL_law_2534 (by decide) ?_
  refine lv_iadd hx hb dL_law_2535 ?_
  refine zl_ld hx hb hX hbl hbA hR.2 hi2 hq2 dL_law_2536 ?_
  refine lv_aload_n hx hb dL_law_2537 rfl (lv_at hl 2 rfl) ?_
  obtain ⟨v2538, h2538, m2538, hv2538, hf⟩ := hf
  refine zl_cS X hN hR hl.1 (As := [.ref ax, .int x1, .int x2, .ref ao]) (rest := []) (mt_L_pound hT ax x1 x2 ao h n hv2538) mf_L_pound.1 mf_L_pound.2.1 mf_L_pound.2.2 q_1113 q_1114 ⟨Nat.le_trans (Nat.le_of_ble_eq_true rfl) hRf, Nat.le_trans (Nat.le_of_ble_eq_true rfl) hRl⟩ ⟨Nat.le_trans (Nat.add_le_add_left (Nat.le_of_ble_eq_true rfl) cs) hc, Nat.le_trans (Nat.add_le_add_left (Nat.le_of_ble_eq_true rfl) ss) hs⟩ rfl (Nat.le_of_ble_eq_true rfl) dL_law_2538 (fun n2538 H locs hn2538 hR => ?_)
  replace hf := hf n2538 hn2538
  refine W.eq (g2 := F0 m 2541 ls [.int v2538]) rfl ?_
  refine W.widen (k := cs + 20) (n := ss + 253) (Nat.add_le_add_left (Nat.le_of_ble_eq_true rfl) cs) (Nat.add_le_add_left (Nat.le_of_ble_eq_true rfl) ss) ?_
  refine lv_istore (i := 6) (lv' := [(6, .int v2538), (5, .int i), (4, .ref ad), (3, .ref ao), (2, .ref am), (1, .ref ax), (0, .ref b)]) hx hb dL_law_2541 hl (by decide) rfl (fun ls hl => ?_)
  refine lv_aload_n hx hb dL_law_2543 rfl (lv_at hl 4 rfl) ?_
  refine lv_aload_n hx hb dL_law_2544 rfl (lv_at hl 6 rfl) ?_
  refine lv_iload hx hb dL_law_2545 (lv_at hl 1 rfl) ?_
  refine lv_iconst (v := (1 : Int32)) hx hb dL_law_2547 (by decide) ?_
  refine lv_iadd hx hb dL_law_2548 ?_
  refine zl_ld hx hb hX hbl hbA hR.2 hi1 hq1 dL_law_2549 ?_
  refine lv_aload_n hx hb dL_law_2550 rfl (lv_at hl 6 rfl) ?_
  refine lv_iload hx hb dL_law_2551 (lv_at hl 1 rfl) ?_
  refine lv_iconst (v := (2 : Int32)) hx hb dL_law_2553 (by decide) ?_
  refine lv_iadd hx hb dL_law_2554 ?_
  refine zl_ld hx hb hX hbl hbA hR.2 hi2 hq2 dL_law_2555 ?_
  obtain ⟨⟨fs2556, ho2556⟩, hf⟩ := hf
  obtain ⟨v2556, h2556, hv2556, hf⟩ := hf
  refine zr_cV X hR hl.1 (As := [.int x1, .int x2]) (rest := []) (C := RX10) (T := TX10) (N := 34) (mt_X10_pound hT am x1 x2 h2538 n2538 hv2556) rfl ho2556 mf_X10_pound q_1608 q_1609 q_1610 ⟨Nat.le_trans (Nat.le_of_ble_eq_true rfl) hRf, Nat.le_trans (Nat.le_of_ble_eq_true rfl) hRl⟩ ⟨hc, hs⟩ rfl (Nat.le_of_ble_eq_true rfl) dL_law_2556 (fun H locs hR => ?_)
  refine W.eq (g2 := F0 m 2559 ls [.int v2556]) rfl ?_
  refine W.widen (k := cs + 20) (n := ss + 253) (Nat.le_refl _) (Nat.le_refl _) ?_
  refine lv_istore (i := 7) (lv' := [(7, .int v2556), (6, .int v2538), (5, .int i), (4, .ref ad), (3, .ref ao), (2, .ref am), (1, .ref ax), (0, .ref b)]) hx hb dL_law_2559 hl (by decide) rfl (fun ls hl => ?_)
  refine lv_aload_n hx hb dL_law_2561 rfl (lv_at hl 5 rfl) ?_
  obtain ⟨⟨fs2562, ho2562⟩, hf⟩ := hf
  obtain ⟨v2562, hv2562, hf⟩ := hf
  refine zr_cV X hR hl.1 (As := []) (rest := []) (C := RX10) (T := TX10) (N := 34) (mt_X10_thrown hT am h2556 n2538 hv2562) rfl ho2562 mf_X10_thrown q_1359 q_1360 q_1361 ⟨Nat.le_trans (Nat.le_of_ble_eq_true rfl) hRf, Nat.le_trans (Nat.le_of_ble_eq_true rfl) hRl⟩ ⟨hc, hs⟩ rfl (Nat.le_of_ble_eq_true rfl) dL_law_2562 (fun H locs hR => ?_)
  refine W.eq (g2 := F0 m 2565 ls [.int v2562]) rfl ?_
  refine W.widen (k := cs + 20) (n := ss + 253) (Nat.le_refl _) (Nat.le_refl _) ?_
  refine lv_iload hx hb dL_law_2565 (lv_at hl 1 rfl) ?_
  refine lv_icmp_eq (tgt := 2572) hx hb dL_law_2567 (by decide) (fun c2567 => ?_) (fun c2567 => ?_)
  · replace hf := hf.1 c2567
    refine lv_iload hx hb dL_law_2572 (lv_at hl 1 rfl) ?_
    refine lv_if_ne (tgt := 2589) hx hb dL_law_2574 (by decide) (fun c2574 => ?_) (fun c2574 => ?_)
    · replace hf := hf.2 c2574
      refine lv_goto (tgt := 3298) hx hb dL_law_2589 (by decide) ?_
      exact hK _ _ hf hR (lv_sub hl [2, 3, 4, 5, 6, 7] rfl)
    · replace hf := hf.1 c2574
      refine lv_aload_n hx hb dL_law_2577 rfl (lv_at hl 4 rfl) ?_
      refine lv_iconst (v := (0 : Int32)) hx hb dL_law_2578 (by decide) ?_
      obtain ⟨v2579, hv2579, hf⟩ := hf
      refine zr_lald X hR (r := some ao) dL_law_2579 hv2579 (fun vv hvv => ?_)
      cases hvv
      refine lv_iload hx hb dL_law_2580 (lv_at hl 0 rfl) ?_
      refine lv_i2l hx hb dL_law_2582 rfl ?_
      refine W.lcmp hx hb dL_law_2583 ?_
      refine lv_if_eq (tgt := 2589) hx hb dL_law_2584 (by decide) (fun c2584 => ?_) (fun c2584 => ?_)
      · replace hf := hf.1 c2584
        refine lv_goto (tgt := 3298) hx hb dL_law_2589 (by decide) ?_
        exact hK _ _ hf hR (lv_sub hl [2, 3, 4, 5, 6, 7] rfl)
      · replace hf := hf.2 c2584
        refine lv_iconst (v := (0 : Int32)) hx hb dL_law_2587 (by decide) ?_
        exact hf.elim
  · replace hf := hf.2 c2567
    refine lv_iconst (v := (0 : Int32)) hx hb dL_law_2570 (by decide) ?_
    exact hf.elim
set_option maxHeartbeats 4000000 in
set_option maxRecDepth 100000 in
theorem lc_33 {D : va_G} {dA : Nat → ClassId} {base t0 : Nat} {l : Launch} {p : Program} {e : Env} {R : Room} {s : State} {m : MethodId} {args : Array Value} {below : List Frame} {meth : Method} {c : Code} {Q : State → Prop} (X : zz_X D dA base t0 "SpringseatLaw" cL_law 9 (some .boolean) l p s m meth c) (hT : l.stackTraces = false) (hN : zz_N s) {b L : Nat} {xs : Nat → Int32} (hX : va_X b L xs s s.heap) (hbl : b < s.heap.size) (hbA : ¬ base ≤ b) (hRf : 13 ≤ R.frames) (hRl : 482 ≤ R.locals) {cs ss : Nat} (hc : cs + 20 ≤ R.cells) (hs : ss + 253 ≤ R.slots) {ax am ao ad : Nat} {i x1 x2 x3 x4 : Int32} (hi1 : vp_in (i + 1) L) (hi2 : vp_in (i + 2) L) (hi3 : vp_in (i + 3) L) (hi4 : vp_in (i + 4) L) (hq1 : xs (i + 1).toNatClampNeg = x1) (hq2 : xs (i + 2).toNatClampNeg = x2) (hq3 : xs (i + 3).toNatClampNeg = x3) (hq4 : xs (i + 4).toNatClampNeg = x4) {K : zz_H → Nat → Prop} (hK : ∀ h n, K h n → ∀ {H : Heap} {locs : List Loc} {ls : Array Slot}, zz_R D dA base h n s H locs → lv_has ls 9 [(5, .int i), (4, .ref ad), (3, .ref ao), (2, .ref am), (1, .ref ax), (0, .ref b)] → W p l e R s m args below meth c H locs (cs + 20) (ss + 253) Q (F0 m 3298 ls [])) {h : zz_H} {n : Nat} {H : Heap} {locs : List Loc} {ls : Array Slot} (hR : zz_R D dA base h n s H locs) (hl : lv_has ls 9 [(5, .int i), (4, .ref ad), (3, .ref ao), (2, .ref am), (1, .ref ax), (0, .ref b)]) (hf : w_33 t0 ax am ao ad x1 x2 x3 x4 h n K) : W p l e R s m args below meth c H locs cs ss Q (F0 m 2592 ls []) := by
  have hx := X.1
  have hb := X.2.1
  have hown := X.2.2.2.2.1
  unfold w_33 at hf
  refine lv_aload_n hx hb dL_law_2592 rfl (lv_at hl 4 rfl) ?_
  refine lv_aload_n hx hb dL_law_2593 rfl (lv_at hl 5 rfl) ?_
  refine lv_iload hx hb dL_law_2594 (lv_at hl 0 rfl) ?_
  refine lv_iconst (v := (1 : Int32)) hx hb dL_law_2596 (by decide) ?_
  refine lv_iadd hx hb dL_law_2597 ?_
  refine zl_ld hx hb hX hbl hbA hR.2 hi1 hq1 dL_law_2598 ?_
  refine lv_aload_n hx hb dL_law_2599 rfl (lv_at hl 2 rfl) ?_
  obtain ⟨v2600, h2600, m2600, hv2600, hf⟩ := hf
  refine zl_cS X hN hR hl.1 (As := [.ref ax, .int x1, .ref ao]) (rest := []) (mt_L_hours hT ax x1 ao h n hv2600) mf_L_hours.1 mf_L_hours.2.1 mf_L_hours.2.2 q_1120 q_1121 ⟨Nat.le_trans (Nat.le_of_ble_eq_true rfl) hRf, Nat.le_trans (Nat.le_of_ble_eq_true rfl) hRl⟩ ⟨Nat.le_trans (Nat.add_le_add_left (Nat.le_of_ble_eq_true rfl) cs) hc, Nat.le_trans (Nat.add_le_add_left (Nat.le_of_ble_eq_true rfl) ss) hs⟩ rfl (Nat.le_of_ble_eq_true rfl) dL_law_2600 (fun n2600 H locs hn2600 hR => ?_)
  replace hf := hf n2600 hn2600
  refine W.eq (g2 := F0 m 2603 ls [.int v2600]) rfl ?_
  refine W.widen (k := cs + 20) (n := ss + 253) (Nat.add_le_add_left (Nat.le_of_ble_eq_true rfl) cs) (Nat.add_le_add_left (Nat.le_of_ble_eq_true rfl) ss) ?_
  refine lv_istore (i := 6) (lv' := [(6, .int v2600), (5, .int i), (4, .ref ad), (3, .ref ao), (2, .ref am), (1, .ref ax), (0, .ref b)]) hx hb dL_law_2603 hl (by decide) rfl (fun ls hl => ?_)
  refine lv_aload_n hx hb dL_law_2605 rfl (lv_at hl 4 rfl) ?_
  refine lv_aload_n hx hb dL_law_2606 rfl (lv_at hl 6 rfl) ?_
  refine lv_iload hx hb dL_law_2607 (lv_at hl 1 rfl) ?_
  refine lv_iconst (v := (1 : Int32)) hx hb dL_law_2609 (by decide) ?_
  refine lv_iadd hx hb dL_law_2610 ?_
  refine zl_ld hx hb hX hbl hbA hR.2 hi1 hq1 dL_law_2611 ?_
  obtain ⟨⟨fs2612, ho2612⟩, hf⟩ := hf
  obtain ⟨v2612, h2612, hv2612, hf⟩ := hf
  refine zr_cV X hR hl.1 (As := [.int x1]) (rest := []) (C := RX10) (T := TX10) (N := 34) (mt_X10_hours hT am x1 h2600 n2600 hv2612) rfl ho2612 mf_X10_hours q_1612 q_1613 q_1614 ⟨Nat.le_trans (Nat.le_of_ble_eq_true rfl) hRf, Nat.le_trans (Nat.le_of_ble_eq_true rfl) hRl⟩ ⟨hc, hs⟩ rfl (Nat.le_of_ble_eq_true rfl) dL_law_2612 (fun H locs hR => ?_)
  refine W.eq (g2 := F0 m 2615 ls [.int v2612]) rfl ?_
  refine W.widen (k := cs + 20) (n := ss + 253) (Nat.le_refl _) (Nat.le_refl _) ?_
  refine lv_istore (i := 7) (lv' := [(7, .int v2612), (6, .int v2600), (5, .int i), (4, .ref ad), (3, .ref ao), (2, .ref am), (1, .ref ax), (0, .ref b)]) hx hb dL_law_2615 hl (by decide) rfl (fun ls hl => ?_)
  refine lv_aload_n hx hb dL_law_2617 rfl (lv_at hl 5 rfl) ?_
  obtain ⟨⟨fs2618, ho2618⟩, hf⟩ := hf
  obtain ⟨v2618, hv2618, hf⟩ := hf
  refine zr_cV X hR hl.1 (As := []) (rest := []) (C := RX10) (T := TX10) (N := 34) (mt_X10_thrown hT am h2612 n2600 hv2618) rfl ho2618 mf_X10_thrown q_1359 q_1360 q_1361 ⟨Nat.le_trans (Nat.le_of_ble_eq_true rfl) hRf, Nat.le_trans (Nat.le_of_ble_eq_true rfl) hRl⟩ ⟨hc, hs⟩ rfl (Nat.le_of_ble_eq_true rfl) dL_law_2618 (fun H locs hR => ?_)
  refine W.eq (g2 := F0 m 2621 ls [.int v2618]) rfl ?_
  refine W.widen (k := cs + 20) (n := ss + 253) (Nat.le_refl _) (Nat.le_refl _) ?_
  refine lv_iload hx hb dL_law_2621 (lv_at hl 1 rfl) ?_
  refine lv_icmp_eq (tgt := 2628) hx hb dL_law_2623 (by decide) (fun c2623 => ?_) (fun c2623 => ?_)
  · replace hf := hf.1 c2623
    refine lv_iload hx hb dL_law_2628 (lv_at hl 1 rfl) ?_
    refine lv_if_ne (tgt := 2645) hx hb dL_law_2630 (by decide) (fun c2630 => ?_) (fun c2630 => ?_)
    · replace hf := hf.2 c2630
      refine lv_goto (tgt := 3298) hx hb dL_law_2645 (by decide) ?_
      exact hK _ _ hf hR (lv_sub hl [2, 3, 4, 5, 6, 7] rfl)
    · replace hf := hf.1 c2630
      refine lv_aload_n hx hb dL_law_2633 rfl (lv_at hl 4 rfl) ?_
      refine lv_iconst (v := (0 : Int32)) hx hb dL_law_2634 (by decide) ?_
      obtain ⟨v2635, hv2635, hf⟩ := hf
      refine zr_lald X hR (r := some ao) dL_law_2635 hv2635 (fun vv hvv => ?_)
      cases hvv
      refine lv_iload hx hb dL_law_2636 (lv_at hl 0 rfl) ?_
      refine lv_i2l hx hb dL_law_2638 rfl ?_
      refine W.lcmp hx hb dL_law_2639 ?_
      refine lv_if_eq (tgt := 2645) hx hb dL_law_2640 (by decide) (fun c2640 => ?_) (fun c2640 => ?_)
      · replace hf := hf.1 c2640
        refine lv_goto (tgt := 3298) hx hb dL_law_2645 (by decide) ?_
        exact hK _ _ hf hR (lv_sub hl [2, 3, 4, 5, 6, 7] rfl)
      · replace hf := hf.2 c2640
        refine lv_iconst (v := (0 : Int32)) hx hb dL_law_2643 (by decide) ?_
        exact hf.elim
  · replace hf := hf.2 c2623
    refine lv_iconst (v := (0 : Int32)) hx hb dL_law_2626 (by decide) ?_
    exact hf.elim
set_option maxHeartbeats 4000000 in
set_option maxRecDepth 100000 in
theorem lc_34 {D : va_G} {dA : Nat → ClassId} {base t0 : Nat} {l : Launch} {p : Program} {e : Env} {R : Room} {s : State} {m : MethodId} {args : Array Value} {below : List Frame} {meth : Method} {c : Code} {Q : State → Prop} (X : zz_X D dA base t0 "SpringseatLaw" cL_law 9 (some .boolean) l p s m meth c) (hT : l.stackTraces = false) (hN : zz_N s) {b L : Nat} {xs : Nat → Int32} (hX : va_X b L xs s s.heap) (hbl : b < s.heap.size) (hbA : ¬ base ≤ b) (hRf : 13 ≤ R.frames) (hRl : 482 ≤ R.locals) {cs ss : Nat} (hc : cs + 20 ≤ R.cells) (hs : ss + 253 ≤ R.slots) {ax am ao ad : Nat} {i x1 x2 x3 x4 : Int32} (hi1 : vp_in (i + 1) L) (hi2 : vp_in (i + 2) L) (hi3 : vp_in (i + 3) L) (hi4 : vp_in (i + 4) L) (hq1 : xs (i + 1).toNatClampNeg = x1) (hq2 : xs (i + 2).toNatClampNeg = x2) (hq3 : xs (i + 3).toNatClampNeg = x3) (hq4 : xs (i + 4).toNatClampNeg = x4) {K : zz_H → Nat → Prop} (hK : ∀ h n, K h n → ∀ {H : Heap} {locs : List Loc} {ls : Array Slot}, zz_R D dA base h n s H locs → lv_has ls 9 [(5, .int i), (4, .ref ad), (3, .ref ao), (2, .ref am), (1, .ref ax), (0, .ref b)] → W p l e R s m args below meth c H locs (cs + 20) (ss + 253) Q (F0 m 3298 ls [])) {h : zz_H} {n : Nat} {H : Heap} {locs : List Loc} {ls : Array Slot} (hR : zz_R D dA base h n s H locs) (hl : lv_has ls 9 [(5, .int i), (4, .ref ad), (3, .ref ao), (2, .ref am), (1, .ref ax), (0, .ref b)]) (hf : w_34 t0 ax am ao ad x1 x2 x3 x4 h n K) : W p l e R s m args below meth c H locs cs ss Q (F0 m 2648 ls []) := by
  have hx := X.1
  have hb := X.2.1
  have hown := X.2.2.2.2.1
  unfold w_34 at hf
  refine lv_aload_n hx hb dL_law_2648 rfl (lv_at hl 4 rfl) ?_
  refine lv_aload_n hx hb dL_law_2649 rfl (lv_at hl 5 rfl) ?_
  refine lv_iload hx hb dL_law_2650 (lv_at hl 0 rfl) ?_
  refine lv_iconst (v := (1 : Int32)) hx hb dL_law_2652 (by decide) ?_
  refine lv_iadd hx hb dL_law_2653 ?_
  refine zl_ld hx hb hX hbl hbA hR.2 hi1 hq1 dL_law_2654 ?_
  refine lv_aload_n hx hb dL_law_2655 rfl (lv_at hl 5 rfl) ?_
  refine lv_iload hx hb dL_law_2656 (lv_at hl 0 rfl) ?_
  refine lv_iconst (v := (2 : Int32)) hx hb dL_law_2658 (by decide) ?_
  refine lv_iadd hx hb dL_law_2659 ?_
  refine zl_ld hx hb hX hbl hbA hR.2 hi2 hq2 dL_law_2660 ?_
  refine lv_i2c hx hb dL_law_2661 rfl ?_
  refine lv_aload_n hx hb dL_law_2662 rfl (lv_at hl 5 rfl) ?_
  refine lv_iload hx hb dL_law_2663 (lv_at hl 0 rfl) ?_
  refine lv_iconst (v := (3 : Int32)) hx hb dL_law_2665 (by decide) ?_
  refine lv_iadd hx hb dL_law_2666 ?_
  refine zl_ld hx hb hX hbl hbA hR.2 hi3 hq3 dL_law_2667 ?_
  refine lv_aload_n hx hb dL_law_2668 rfl (lv_at hl 2 rfl) ?_
  obtain ⟨v2669, h2669, m2669, hv2669, hf⟩ := hf
  refine zl_cS X hN hR hl.1 (As := [.ref ax, .int x1, .int ((x2).toUInt32 % 65536).toInt32, .int x3, .ref ao]) (rest := []) (mt_L_land hT ax x1 (((x2).toUInt32 % 65536).toInt32) x3 ao h n hv2669) mf_L_land.1 mf_L_land.2.1 mf_L_land.2.2 q_1127 q_1128 ⟨Nat.le_trans (Nat.le_of_ble_eq_true rfl) hRf, Nat.le_trans (Nat.le_of_ble_eq_true rfl) hRl⟩ ⟨Nat.le_trans (Nat.add_le_add_left (Nat.le_of_ble_eq_true rfl) cs) hc, Nat.le_trans (Nat.add_le_add_left (Nat.le_of_ble_eq_true rfl) ss) hs⟩ rfl (Nat.le_of_ble_eq_true rfl) dL_law_2669 (fun n2669 H locs hn2669 hR => ?_)
  replace hf := hf n2669 hn2669
  refine W.eq (g2 := F0 m 2672 ls [.int v2669]) rfl ?_
  refine W.widen (k := cs + 20) (n := ss + 253) (Nat.add_le_add_left (Nat.le_of_ble_eq_true rfl) cs) (Nat.add_le_add_left (Nat.le_of_ble_eq_true rfl) ss) ?_
  refine lv_istore (i := 6) (lv' := [(6, .int v2669), (5, .int i), (4, .ref ad), (3, .ref ao), (2, .ref am), (1, .ref ax), (0, .ref b)]) hx hb dL_law_2672 hl (by decide) rfl (fun ls hl => ?_)
  refine lv_aload_n hx hb dL_law_2674 rfl (lv_at hl 4 rfl) ?_
  refine lv_aload_n hx hb dL_law_2675 rfl (lv_at hl 6 rfl) ?_
  refine lv_iload hx hb dL_law_2676 (lv_at hl 1 rfl) ?_
  refine lv_iconst (v := (1 : Int32)) hx hb dL_law_2678 (by decide) ?_
  refine lv_iadd hx hb dL_law_2679 ?_
  refine zl_ld hx hb hX hbl hbA hR.2 hi1 hq1 dL_law_2680 ?_
  refine lv_aload_n hx hb dL_law_2681 rfl (lv_at hl 6 rfl) ?_
  refine lv_iload hx hb dL_law_2682 (lv_at hl 1 rfl) ?_
  refine lv_iconst (v := (2 : Int32)) hx hb dL_law_2684 (by decide) ?_
  refine lv_iadd hx hb dL_law_2685 ?_
  refine zl_ld hx hb hX hbl hbA hR.2 hi2 hq2 dL_law_2686 ?_
  refine lv_i2c hx hb dL_law_2687 rfl ?_
  refine lv_aload_n hx hb dL_law_2688 rfl (lv_at hl 6 rfl) ?_
  refine lv_iload hx hb dL_law_2689 (lv_at hl 1 rfl) ?_
  refine lv_iconst (v := (3 : Int32)) hx hb dL_law_2691 (by decide) ?_
  refine lv_iadd hx hb dL_law_2692 ?_
  refine zl_ld hx hb hX hbl hbA hR.2 hi3 hq3 dL_law_2693 ?_
  obtain ⟨⟨fs2694, ho2694⟩, hf⟩ := hf
  obtain ⟨v2694, h2694, hv2694, hf⟩ := hf
  refine zr_cV X hR hl.1 (As := [.int x1, .int ((x2).toUInt32 % 65536).toInt32, .int x3]) (rest := []) (C := RX10) (T := TX10) (N := 34) (mt_X10_land hT am x1 (((x2).toUInt32 % 65536).toInt32) x3 h2669 n2669 hv2694) rfl ho2694 mf_X10_land q_1616 q_1617 q_1618 ⟨Nat.le_trans (Nat.le_of_ble_eq_true rfl) hRf, Nat.le_trans (Nat.le_of_ble_eq_true rfl) hRl⟩ ⟨hc, hs⟩ rfl (Nat.le_of_ble_eq_true rfl) dL_law_2694 (fun H locs hR => ?_)
  refine W.eq (g2 := F0 m 2697 ls [.int v2694]) rfl ?_
  refine W.widen (k := cs + 20) (n := ss + 253) (Nat.le_refl _) (Nat.le_refl _) ?_
  refine lv_istore (i := 7) (lv' := [(7, .int v2694), (6, .int v2669), (5, .int i), (4, .ref ad), (3, .ref ao), (2, .ref am), (1, .ref ax), (0, .ref b)]) hx hb dL_law_2697 hl (by decide) rfl (fun ls hl => ?_)
  refine lv_aload_n hx hb dL_law_2699 rfl (lv_at hl 5 rfl) ?_
  obtain ⟨⟨fs2700, ho2700⟩, hf⟩ := hf
  obtain ⟨v2700, hv2700, hf⟩ := hf
  refine zr_cV X hR hl.1 (As := []) (rest := []) (C := RX10) (T := TX10) (N := 34) (mt_X10_thrown hT am h2694 n2669 hv2700) rfl ho2700 mf_X10_thrown q_1359 q_1360 q_1361 ⟨Nat.le_trans (Nat.le_of_ble_eq_true rfl) hRf, Nat.le_trans (Nat.le_of_ble_eq_true rfl) hRl⟩ ⟨hc, hs⟩ rfl (Nat.le_of_ble_eq_true rfl) dL_law_2700 (fun H locs hR => ?_)
  refine W.eq (g2 := F0 m 2703 ls [.int v2700]) rfl ?_
  refine W.widen (k := cs + 20) (n := ss + 253) (Nat.le_refl _) (Nat.le_refl _) ?_
  refine lv_iload hx hb dL_law_2703 (lv_at hl 1 rfl) ?_
  refine lv_icmp_eq (tgt := 2710) hx hb dL_law_2705 (by decide) (fun c2705 => ?_) (fun c2705 => ?_)
  · replace hf := hf.1 c2705
    refine lv_iload hx hb dL_law_2710 (lv_at hl 1 rfl) ?_
    refine lv_if_ne (tgt := 2727) hx hb dL_law_2712 (by decide) (fun c2712 => ?_) (fun c2712 => ?_)
    · replace hf := hf.2 c2712
      refine lv_goto (tgt := 3298) hx hb dL_law_2727 (by decide) ?_
      exact hK _ _ hf hR (lv_sub hl [2, 3, 4, 5, 6, 7] rfl)
    · replace hf := hf.1 c2712
      refine lv_aload_n hx hb dL_law_2715 rfl (lv_at hl 4 rfl) ?_
      refine lv_iconst (v := (0 : Int32)) hx hb dL_law_2716 (by decide) ?_
      obtain ⟨v2717, hv2717, hf⟩ := hf
      refine zr_lald X hR (r := some ao) dL_law_2717 hv2717 (fun vv hvv => ?_)
      cases hvv
      refine lv_iload hx hb dL_law_2718 (lv_at hl 0 rfl) ?_
      refine lv_i2l hx hb dL_law_2720 rfl ?_
      refine W.lcmp hx hb dL_law_2721 ?_
      refine lv_if_eq (tgt := 2727) hx hb dL_law_2722 (by decide) (fun c2722 => ?_) (fun c2722 => ?_)
      · replace hf := hf.1 c2722
        refine lv_goto (tgt := 3298) hx hb dL_law_2727 (by decide) ?_
        exact hK _ _ hf hR (lv_sub hl [2, 3, 4, 5, 6, 7] rfl)
      · replace hf := hf.2 c2722
        refine lv_iconst (v := (0 : Int32)) hx hb dL_law_2725 (by decide) ?_
        exact hf.elim
  · replace hf := hf.2 c2705
    refine lv_iconst (v := (0 : Int32)) hx hb dL_law_2708 (by decide) ?_
    exact hf.elim
set_option maxHeartbeats 4000000 in
set_option maxRecDepth 100000 in
theorem lc_35 {D : va_G} {dA : Nat → ClassId} {base t0 : Nat} {l : Launch} {p : Program} {e : Env} {R : Room} {s : State} {m : MethodId} {args : Array Value} {below : List Frame} {meth : Method} {c : Code} {Q : State → Prop} (X : zz_X D dA base t0 "SpringseatLaw" cL_law 9 (some .boolean) l p s m meth c) (hT : l.stackTraces = false) (hN : zz_N s) {b L : Nat} {xs : Nat → Int32} (hX : va_X b L xs s s.heap) (hbl : b < s.heap.size) (hbA : ¬ base ≤ b) (hRf : 13 ≤ R.frames) (hRl : 482 ≤ R.locals) {cs ss : Nat} (hc : cs + 20 ≤ R.cells) (hs : ss + 253 ≤ R.slots) {ax am ao ad : Nat} {i x1 x2 x3 x4 : Int32} (hi1 : vp_in (i + 1) L) (hi2 : vp_in (i + 2) L) (hi3 : vp_in (i + 3) L) (hi4 : vp_in (i + 4) L) (hq1 : xs (i + 1).toNatClampNeg = x1) (hq2 : xs (i + 2).toNatClampNeg = x2) (hq3 : xs (i + 3).toNatClampNeg = x3) (hq4 : xs (i + 4).toNatClampNeg = x4) {K : zz_H → Nat → Prop} (hK : ∀ h n, K h n → ∀ {H : Heap} {locs : List Loc} {ls : Array Slot}, zz_R D dA base h n s H locs → lv_has ls 9 [(5, .int i), (4, .ref ad), (3, .ref ao), (2, .ref am), (1, .ref ax), (0, .ref b)] → W p l e R s m args below meth c H locs (cs + 20) (ss + 253) Q (F0 m 3298 ls [])) {h : zz_H} {n : Nat} {H : Heap} {locs : List Loc} {ls : Array Slot} (hR : zz_R D dA base h n s H locs) (hl : lv_has ls 9 [(5, .int i), (4, .ref ad), (3, .ref ao), (2, .ref am), (1, .ref ax), (0, .ref b)]) (hf : w_35 t0 ax am ao ad x1 x2 x3 x4 h n K) : W p l e R s m args below meth c H locs cs ss Q (F0 m 2730 ls []) := by
  have hx := X.1
  have hb := X.2.1
  have hown := X.2.2.2.2.1
  unfold w_35 at hf
  refine lv_aload_n hx hb dL_law_2730 rfl (lv_at hl 4 rfl) ?_
  refine lv_aload_n hx hb dL_law_2731 rfl (lv_at hl 5 rfl) ?_
  refine lv_iload hx hb dL_law_2732 (lv_at hl 0 rfl) ?_
  refine lv_iconst (v := (1 : Int32)) hx hb dL_law_2734 (by decide) ?_
  refine lv_iadd hx hb dL_law_2735 ?_
  refine zl_ld hx hb hX hbl hbA hR.2 hi1 hq1 dL_law_2736 ?_
  refine lv_aload_n hx hb dL_law_2737 rfl (lv_at hl 5 rfl) ?_
  refine lv_iload hx hb dL_law_2738 (lv_at hl 0 rfl) ?_
  refine lv_iconst (v := (2 : Int32)) hx hb dL_law_2740 (by decide) ?_
  refine lv_iadd hx hb dL_law_2741 ?_
  refine zl_ld hx hb hX hbl hbA hR.2 hi2 hq2 dL_law_2742 ?_
  refine lv_aload_n hx hb dL_law_2743 rfl (lv_at hl 2 rfl) ?_
  obtain ⟨v2744, h2744, m2744, hv2744, hf⟩ := hf
  refine zl_cS X hN hR hl.1 (As := [.ref ax, .int x1, .int x2, .ref ao]) (rest := []) (mt_L_burns hT ax x1 x2 ao h n hv2744) mf_L_burns.1 mf_L_burns.2.1 mf_L_burns.2.2 q_1138 q_1139 ⟨Nat.le_trans (Nat.le_of_ble_eq_true rfl) hRf, Nat.le_trans (Nat.le_of_ble_eq_true rfl) hRl⟩ ⟨Nat.le_trans (Nat.add_le_add_left (Nat.le_of_ble_eq_true rfl) cs) hc, Nat.le_trans (Nat.add_le_add_left (Nat.le_of_ble_eq_true rfl) ss) hs⟩ rfl (Nat.le_of_ble_eq_true rfl) dL_law_2744 (fun n2744 H locs hn2744 hR => ?_)
  replace hf := hf n2744 hn2744
  refine W.eq (g2 := F0 m 2747 ls [.int v2744]) rfl ?_
  refine W.widen (k := cs + 20) (n := ss + 253) (Nat.add_le_add_left (Nat.le_of_ble_eq_true rfl) cs) (Nat.add_le_add_left (Nat.le_of_ble_eq_true rfl) ss) ?_
  refine lv_istore (i := 6) (lv' := [(6, .int v2744), (5, .int i), (4, .ref ad), (3, .ref ao), (2, .ref am), (1, .ref ax), (0, .ref b)]) hx hb dL_law_2747 hl (by decide) rfl (fun ls hl => ?_)
  refine lv_aload_n hx hb dL_law_2749 rfl (lv_at hl 4 rfl) ?_
  refine lv_aload_n hx hb dL_law_2750 rfl (lv_at hl 6 rfl) ?_
  refine lv_iload hx hb dL_law_2751 (lv_at hl 1 rfl) ?_
  refine lv_iconst (v := (1 : Int32)) hx hb dL_law_2753 (by decide) ?_
  refine lv_iadd hx hb dL_law_2754 ?_
  refine zl_ld hx hb hX hbl hbA hR.2 hi1 hq1 dL_law_2755 ?_
  refine lv_aload_n hx hb dL_law_2756 rfl (lv_at hl 6 rfl) ?_
  refine lv_iload hx hb dL_law_2757 (lv_at hl 1 rfl) ?_
  refine lv_iconst (v := (2 : Int32)) hx hb dL_law_2759 (by decide) ?_
  refine lv_iadd hx hb dL_law_2760 ?_
  refine zl_ld hx hb hX hbl hbA hR.2 hi2 hq2 dL_law_2761 ?_
  obtain ⟨⟨fs2762, ho2762⟩, hf⟩ := hf
  obtain ⟨v2762, h2762, hv2762, hf⟩ := hf
  refine zr_cV X hR hl.1 (As := [.int x1, .int x2]) (rest := []) (C := RX10) (T := TX10) (N := 34) (mt_X10_burns hT am x1 x2 h2744 n2744 hv2762) rfl ho2762 mf_X10_burns q_1620 q_1621 q_1622 ⟨Nat.le_trans (Nat.le_of_ble_eq_true rfl) hRf, Nat.le_trans (Nat.le_of_ble_eq_true rfl) hRl⟩ ⟨hc, hs⟩ rfl (Nat.le_of_ble_eq_true rfl) dL_law_2762 (fun H locs hR => ?_)
  refine W.eq (g2 := F0 m 2765 ls [.int v2762]) rfl ?_
  refine W.widen (k := cs + 20) (n := ss + 253) (Nat.le_refl _) (Nat.le_refl _) ?_
  refine lv_istore (i := 7) (lv' := [(7, .int v2762), (6, .int v2744), (5, .int i), (4, .ref ad), (3, .ref ao), (2, .ref am), (1, .ref ax), (0, .ref b)]) hx hb dL_law_2765 hl (by decide) rfl (fun ls hl => ?_)
  refine lv_aload_n hx hb dL_law_2767 rfl (lv_at hl 5 rfl) ?_
  obtain ⟨⟨fs2768, ho2768⟩, hf⟩ := hf
  obtain ⟨v2768, hv2768, hf⟩ := hf
  refine zr_cV X hR hl.1 (As := []) (rest := []) (C := RX10) (T := TX10) (N := 34) (mt_X10_thrown hT am h2762 n2744 hv2768) rfl ho2768 mf_X10_thrown q_1359 q_1360 q_1361 ⟨Nat.le_trans (Nat.le_of_ble_eq_true rfl) hRf, Nat.le_trans (Nat.le_of_ble_eq_true rfl) hRl⟩ ⟨hc, hs⟩ rfl (Nat.le_of_ble_eq_true rfl) dL_law_2768 (fun H locs hR => ?_)
  refine W.eq (g2 := F0 m 2771 ls [.int v2768]) rfl ?_
  refine W.widen (k := cs + 20) (n := ss + 253) (Nat.le_refl _) (Nat.le_refl _) ?_
  refine lv_iload hx hb dL_law_2771 (lv_at hl 1 rfl) ?_
  refine lv_icmp_eq (tgt := 2778) hx hb dL_law_2773 (by decide) (fun c2773 => ?_) (fun c2773 => ?_)
  · replace hf := hf.1 c2773
    refine lv_iload hx hb dL_law_2778 (lv_at hl 1 rfl) ?_
    refine lv_if_ne (tgt := 2802) hx hb dL_law_2780 (by decide) (fun c2780 => ?_) (fun c2780 => ?_)
    · replace hf := hf.2 c2780
      refine lv_goto (tgt := 3298) hx hb dL_law_2802 (by decide) ?_
      exact hK _ _ hf hR (lv_sub hl [2, 3, 4, 5, 6, 7] rfl)
    · replace hf := hf.1 c2780
      refine lv_aload_n hx hb dL_law_2783 rfl (lv_at hl 4 rfl) ?_
      refine lv_iconst (v := (0 : Int32)) hx hb dL_law_2784 (by decide) ?_
      obtain ⟨v2785, hv2785, hf⟩ := hf
      refine zr_lald X hR (r := some ao) dL_law_2785 hv2785 (fun vv hvv => ?_)
      cases hvv
      refine lv_iload hx hb dL_law_2786 (lv_at hl 0 rfl) ?_
      refine lv_if_eq (tgt := 2795) hx hb dL_law_2788 (by decide) (fun c2788 => ?_) (fun c2788 => ?_)
      · replace hf := hf.1 c2788
        refine lv_lconst (v := (0 : Int64)) hx hb dL_law_2795 (by decide) ?_
        refine W.lcmp hx hb dL_law_2796 ?_
        refine lv_if_eq (tgt := 2802) hx hb dL_law_2797 (by decide) (fun c2797 => ?_) (fun c2797 => ?_)
        · replace hf := hf.1 c2797
          refine lv_goto (tgt := 3298) hx hb dL_law_2802 (by decide) ?_
          exact hK _ _ hf hR (lv_sub hl [2, 3, 4, 5, 6, 7] rfl)
        · replace hf := hf.2 c2797
          refine lv_iconst (v := (0 : Int32)) hx hb dL_law_2800 (by decide) ?_
          exact hf.elim
      · replace hf := hf.2 c2788
        refine lv_lconst (v := (1 : Int64)) hx hb dL_law_2791 (by decide) ?_
        refine lv_goto (tgt := 2796) hx hb dL_law_2792 (by decide) ?_
        refine W.lcmp hx hb dL_law_2796 ?_
        refine lv_if_eq (tgt := 2802) hx hb dL_law_2797 (by decide) (fun c2797 => ?_) (fun c2797 => ?_)
        · replace hf := hf.1 c2797
          refine lv_goto (tgt := 3298) hx hb dL_law_2802 (by decide) ?_
          exact hK _ _ hf hR (lv_sub hl [2, 3, 4, 5, 6, 7] rfl)
        · replace hf := hf.2 c2797
          refine lv_iconst (v := (0 : Int32)) hx hb dL_law_2800 (by decide) ?_
          exact hf.elim
  · replace hf := hf.2 c2773
    refine lv_iconst (v := (0 : Int32)) hx hb dL_law_2776 (by decide) ?_
    exact hf.elim
set_option maxHeartbeats 4000000 in
set_option maxRecDepth 100000 in
theorem lc_36 {D : va_G} {dA : Nat → ClassId} {base t0 : Nat} {l : Launch} {p : Program} {e : Env} {R : Room} {s : State} {m : MethodId} {args : Array Value} {below : List Frame} {meth : Method} {c : Code} {Q : State → Prop} (X : zz_X D dA base t0 "SpringseatLaw" cL_law 9 (some .boolean) l p s m meth c) (hT : l.stackTraces = false) (hN : zz_N s) {b L : Nat} {xs : Nat → Int32} (hX : va_X b L xs s s.heap) (hbl : b < s.heap.size) (hbA : ¬ base ≤ b) (hRf : 13 ≤ R.frames) (hRl : 482 ≤ R.locals) {cs ss : Nat} (hc : cs + 20 ≤ R.cells) (hs : ss + 253 ≤ R.slots) {ax am ao ad : Nat} {i x1 x2 x3 x4 : Int32} (hi1 : vp_in (i + 1) L) (hi2 : vp_in (i + 2) L) (hi3 : vp_in (i + 3) L) (hi4 : vp_in (i + 4) L) (hq1 : xs (i + 1).toNatClampNeg = x1) (hq2 : xs (i + 2).toNatClampNeg = x2) (hq3 : xs (i + 3).toNatClampNeg = x3) (hq4 : xs (i + 4).toNatClampNeg = x4) {K : zz_H → Nat → Prop} (hK : ∀ h n, K h n → ∀ {H : Heap} {locs : List Loc} {ls : Array Slot}, zz_R D dA base h n s H locs → lv_has ls 9 [(5, .int i), (4, .ref ad), (3, .ref ao), (2, .ref am), (1, .ref ax), (0, .ref b)] → W p l e R s m args below meth c H locs (cs + 20) (ss + 253) Q (F0 m 3298 ls [])) {h : zz_H} {n : Nat} {H : Heap} {locs : List Loc} {ls : Array Slot} (hR : zz_R D dA base h n s H locs) (hl : lv_has ls 9 [(5, .int i), (4, .ref ad), (3, .ref ao), (2, .ref am), (1, .ref ax), (0, .ref b)]) (hf : w_36 t0 ax am ao ad x1 x2 x3 x4 h n K) : W p l e R s m args below meth c H locs cs ss Q (F0 m 2805 ls []) := by
  have hx := X.1
  have hb := X.2.1
  have hown := X.2.2.2.2.1
  unfold w_36 at hf
  refine lv_aload_n hx hb dL_law_2805 rfl (lv_at hl 4 rfl) ?_
  refine lv_aload_n hx hb dL_law_2806 rfl (lv_at hl 5 rfl) ?_
  refine lv_iload hx hb dL_law_2807 (lv_at hl 0 rfl) ?_
  refine lv_iconst (v := (1 : Int32)) hx hb dL_law_2809 (by decide) ?_
  refine lv_iadd hx hb dL_law_2810 ?_
  refine zl_ld hx hb hX hbl hbA hR.2 hi1 hq1 dL_law_2811 ?_
  refine lv_aload_n hx hb dL_law_2812 rfl (lv_at hl 5 rfl) ?_
  refine lv_iload hx hb dL_law_2813 (lv_at hl 0 rfl) ?_
  refine lv_iconst (v := (2 : Int32)) hx hb dL_law_2815 (by decide) ?_
  refine lv_iadd hx hb dL_law_2816 ?_
  refine zl_ld hx hb hX hbl hbA hR.2 hi2 hq2 dL_law_2817 ?_
  refine lv_aload_n hx hb dL_law_2818 rfl (lv_at hl 5 rfl) ?_
  refine lv_iload hx hb dL_law_2819 (lv_at hl 0 rfl) ?_
  refine lv_iconst (v := (3 : Int32)) hx hb dL_law_2821 (by decide) ?_
  refine lv_iadd hx hb dL_law_2822 ?_
  refine zl_ld hx hb hX hbl hbA hR.2 hi3 hq3 dL_law_2823 ?_
  refine lv_aload_n hx hb dL_law_2824 rfl (lv_at hl 2 rfl) ?_
  obtain ⟨v2825, h2825, m2825, hv2825, hf⟩ := hf
  refine zl_cS X hN hR hl.1 (As := [.ref ax, .int x1, .int x2, .int x3, .ref ao]) (rest := []) (mt_L_tack hT ax x1 x2 x3 ao h n hv2825) mf_L_tack.1 mf_L_tack.2.1 mf_L_tack.2.2 q_1153 q_1154 ⟨Nat.le_trans (Nat.le_of_ble_eq_true rfl) hRf, Nat.le_trans (Nat.le_of_ble_eq_true rfl) hRl⟩ ⟨Nat.le_trans (Nat.add_le_add_left (Nat.le_of_ble_eq_true rfl) cs) hc, Nat.le_trans (Nat.add_le_add_left (Nat.le_of_ble_eq_true rfl) ss) hs⟩ rfl (Nat.le_of_ble_eq_true rfl) dL_law_2825 (fun n2825 H locs hn2825 hR => ?_)
  replace hf := hf n2825 hn2825
  refine W.eq (g2 := F0 m 2828 ls [.int v2825]) rfl ?_
  refine W.widen (k := cs + 20) (n := ss + 253) (Nat.add_le_add_left (Nat.le_of_ble_eq_true rfl) cs) (Nat.add_le_add_left (Nat.le_of_ble_eq_true rfl) ss) ?_
  refine lv_istore (i := 6) (lv' := [(6, .int v2825), (5, .int i), (4, .ref ad), (3, .ref ao), (2, .ref am), (1, .ref ax), (0, .ref b)]) hx hb dL_law_2828 hl (by decide) rfl (fun ls hl => ?_)
  refine lv_aload_n hx hb dL_law_2830 rfl (lv_at hl 4 rfl) ?_
  refine lv_aload_n hx hb dL_law_2831 rfl (lv_at hl 6 rfl) ?_
  refine lv_iload hx hb dL_law_2832 (lv_at hl 1 rfl) ?_
  refine lv_iconst (v := (1 : Int32)) hx hb dL_law_2834 (by decide) ?_
  refine lv_iadd hx hb dL_law_2835 ?_
  refine zl_ld hx hb hX hbl hbA hR.2 hi1 hq1 dL_law_2836 ?_
  refine lv_aload_n hx hb dL_law_2837 rfl (lv_at hl 6 rfl) ?_
  refine lv_iload hx hb dL_law_2838 (lv_at hl 1 rfl) ?_
  refine lv_iconst (v := (2 : Int32)) hx hb dL_law_2840 (by decide) ?_
  refine lv_iadd hx hb dL_law_2841 ?_
  refine zl_ld hx hb hX hbl hbA hR.2 hi2 hq2 dL_law_2842 ?_
  refine lv_aload_n hx hb dL_law_2843 rfl (lv_at hl 6 rfl) ?_
  refine lv_iload hx hb dL_law_2844 (lv_at hl 1 rfl) ?_
  refine lv_iconst (v := (3 : Int32)) hx hb dL_law_2846 (by decide) ?_
  refine lv_iadd hx hb dL_law_2847 ?_
  refine zl_ld hx hb hX hbl hbA hR.2 hi3 hq3 dL_law_2848 ?_
  obtain ⟨⟨fs2849, ho2849⟩, hf⟩ := hf
  obtain ⟨v2849, h2849, hv2849, hf⟩ := hf
  refine zr_cV X hR hl.1 (As := [.int x1, .int x2, .int x3]) (rest := []) (C := RX10) (T := TX10) (N := 34) (mt_X10_tack hT am x1 x2 x3 h2825 n2825 hv2849) rfl ho2849 mf_X10_tack q_1624 q_1625 q_1626 ⟨Nat.le_trans (Nat.le_of_ble_eq_true rfl) hRf, Nat.le_trans (Nat.le_of_ble_eq_true rfl) hRl⟩ ⟨hc, hs⟩ rfl (Nat.le_of_ble_eq_true rfl) dL_law_2849 (fun H locs hR => ?_)
  refine W.eq (g2 := F0 m 2852 ls [.int v2849]) rfl ?_
  refine W.widen (k := cs + 20) (n := ss + 253) (Nat.le_refl _) (Nat.le_refl _) ?_
  refine lv_istore (i := 7) (lv' := [(7, .int v2849), (6, .int v2825), (5, .int i), (4, .ref ad), (3, .ref ao), (2, .ref am), (1, .ref ax), (0, .ref b)]) hx hb dL_law_2852 hl (by decide) rfl (fun ls hl => ?_)
  refine lv_aload_n hx hb dL_law_2854 rfl (lv_at hl 5 rfl) ?_
  obtain ⟨⟨fs2855, ho2855⟩, hf⟩ := hf
  obtain ⟨v2855, hv2855, hf⟩ := hf
  refine zr_cV X hR hl.1 (As := []) (rest := []) (C := RX10) (T := TX10) (N := 34) (mt_X10_thrown hT am h2849 n2825 hv2855) rfl ho2855 mf_X10_thrown q_1359 q_1360 q_1361 ⟨Nat.le_trans (Nat.le_of_ble_eq_true rfl) hRf, Nat.le_trans (Nat.le_of_ble_eq_true rfl) hRl⟩ ⟨hc, hs⟩ rfl (Nat.le_of_ble_eq_true rfl) dL_law_2855 (fun H locs hR => ?_)
  refine W.eq (g2 := F0 m 2858 ls [.int v2855]) rfl ?_
  refine W.widen (k := cs + 20) (n := ss + 253) (Nat.le_refl _) (Nat.le_refl _) ?_
  refine lv_iload hx hb dL_law_2858 (lv_at hl 1 rfl) ?_
  refine lv_icmp_eq (tgt := 2865) hx hb dL_law_2860 (by decide) (fun c2860 => ?_) (fun c2860 => ?_)
  · replace hf := hf.1 c2860
    refine lv_iload hx hb dL_law_2865 (lv_at hl 1 rfl) ?_
    refine lv_if_ne (tgt := 2882) hx hb dL_law_2867 (by decide) (fun c2867 => ?_) (fun c2867 => ?_)
    · replace hf := hf.2 c2867
      refine lv_goto (tgt := 3298) hx hb dL_law_2882 (by decide) ?_
      exact hK _ _ hf hR (lv_sub hl [2, 3, 4, 5, 6, 7] rfl)
    · replace hf := hf.1 c2867
      refine lv_aload_n hx hb dL_law_2870 rfl (lv_at hl 4 rfl) ?_
      refine lv_iconst (v := (0 : Int32)) hx hb dL_law_2871 (by decide) ?_
      obtain ⟨v2872, hv2872, hf⟩ := hf
      refine zr_lald X hR (r := some ao) dL_law_2872 hv2872 (fun vv hvv => ?_)
      cases hvv
      refine lv_iload hx hb dL_law_2873 (lv_at hl 0 rfl) ?_
      refine lv_i2l hx hb dL_law_2875 rfl ?_
      refine W.lcmp hx hb dL_law_2876 ?_
      refine lv_if_eq (tgt := 2882) hx hb dL_law_2877 (by decide) (fun c2877 => ?_) (fun c2877 => ?_)
      · replace hf := hf.1 c2877
        refine lv_goto (tgt := 3298) hx hb dL_law_2882 (by decide) ?_
        exact hK _ _ hf hR (lv_sub hl [2, 3, 4, 5, 6, 7] rfl)
      · replace hf := hf.2 c2877
        refine lv_iconst (v := (0 : Int32)) hx hb dL_law_2880 (by decide) ?_
        exact hf.elim
  · replace hf := hf.2 c2860
    refine lv_iconst (v := (0 : Int32)) hx hb dL_law_2863 (by decide) ?_
    exact hf.elim
set_option maxHeartbeats 4000000 in
set_option maxRecDepth 100000 in
theorem lc_37 {D : va_G} {dA : Nat → ClassId} {base t0 : Nat} {l : Launch} {p : Program} {e : Env} {R : Room} {s : State} {m : MethodId} {args : Array Value} {below : List Frame} {meth : Method} {c : Code} {Q : State → Prop} (X : zz_X D dA base t0 "SpringseatLaw" cL_law 9 (some .boolean) l p s m meth c) (hT : l.stackTraces = false) (hN : zz_N s) {b L : Nat} {xs : Nat → Int32} (hX : va_X b L xs s s.heap) (hbl : b < s.heap.size) (hbA : ¬ base ≤ b) (hRf : 13 ≤ R.frames) (hRl : 482 ≤ R.locals) {cs ss : Nat} (hc : cs + 20 ≤ R.cells) (hs : ss + 253 ≤ R.slots) {ax am ao ad : Nat} {i x1 x2 x3 x4 : Int32} (hi1 : vp_in (i + 1) L) (hi2 : vp_in (i + 2) L) (hi3 : vp_in (i + 3) L) (hi4 : vp_in (i + 4) L) (hq1 : xs (i + 1).toNatClampNeg = x1) (hq2 : xs (i + 2).toNatClampNeg = x2) (hq3 : xs (i + 3).toNatClampNeg = x3) (hq4 : xs (i + 4).toNatClampNeg = x4) {K : zz_H → Nat → Prop} (hK : ∀ h n, K h n → ∀ {H : Heap} {locs : List Loc} {ls : Array Slot}, zz_R D dA base h n s H locs → lv_has ls 9 [(5, .int i), (4, .ref ad), (3, .ref ao), (2, .ref am), (1, .ref ax), (0, .ref b)] → W p l e R s m args below meth c H locs (cs + 20) (ss + 253) Q (F0 m 3298 ls [])) {h : zz_H} {n : Nat} {H : Heap} {locs : List Loc} {ls : Array Slot} (hR : zz_R D dA base h n s H locs) (hl : lv_has ls 9 [(5, .int i), (4, .ref ad), (3, .ref ao), (2, .ref am), (1, .ref ax), (0, .ref b)]) (hf : w_37 t0 ax am ao ad x1 x2 x3 x4 h n K) : W p l e R s m args below meth c H locs cs ss Q (F0 m 2885 ls []) := by
  have hx := X.1
  have hb := X.2.1
  have hown := X.2.2.2.2.1
  unfold w_37 at hf
  refine lv_aload_n hx hb dL_law_2885 rfl (lv_at hl 4 rfl) ?_
  refine lv_aload_n hx hb dL_law_2886 rfl (lv_at hl 5 rfl) ?_
  refine lv_iload hx hb dL_law_2887 (lv_at hl 0 rfl) ?_
  refine lv_iconst (v := (1 : Int32)) hx hb dL_law_2889 (by decide) ?_
  refine lv_iadd hx hb dL_law_2890 ?_
  refine zl_ld hx hb hX hbl hbA hR.2 hi1 hq1 dL_law_2891 ?_
  refine lv_aload_n hx hb dL_law_2892 rfl (lv_at hl 2 rfl) ?_
  obtain ⟨v2893, h2893, m2893, hv2893, hf⟩ := hf
  refine zl_cS X hN hR hl.1 (As := [.ref ax, .int x1, .ref ao]) (rest := []) (mt_L_quarrels hT ax x1 ao h n hv2893) mf_L_quarrels.1 mf_L_quarrels.2.1 mf_L_quarrels.2.2 q_1160 q_1161 ⟨Nat.le_trans (Nat.le_of_ble_eq_true rfl) hRf, Nat.le_trans (Nat.le_of_ble_eq_true rfl) hRl⟩ ⟨Nat.le_trans (Nat.add_le_add_left (Nat.le_of_ble_eq_true rfl) cs) hc, Nat.le_trans (Nat.add_le_add_left (Nat.le_of_ble_eq_true rfl) ss) hs⟩ rfl (Nat.le_of_ble_eq_true rfl) dL_law_2893 (fun n2893 H locs hn2893 hR => ?_)
  replace hf := hf n2893 hn2893
  refine W.eq (g2 := F0 m 2896 ls [.int v2893]) rfl ?_
  refine W.widen (k := cs + 20) (n := ss + 253) (Nat.add_le_add_left (Nat.le_of_ble_eq_true rfl) cs) (Nat.add_le_add_left (Nat.le_of_ble_eq_true rfl) ss) ?_
  refine lv_istore (i := 6) (lv' := [(6, .int v2893), (5, .int i), (4, .ref ad), (3, .ref ao), (2, .ref am), (1, .ref ax), (0, .ref b)]) hx hb dL_law_2896 hl (by decide) rfl (fun ls hl => ?_)
  refine lv_aload_n hx hb dL_law_2898 rfl (lv_at hl 4 rfl) ?_
  refine lv_aload_n hx hb dL_law_2899 rfl (lv_at hl 6 rfl) ?_
  refine lv_iload hx hb dL_law_2900 (lv_at hl 1 rfl) ?_
  refine lv_iconst (v := (1 : Int32)) hx hb dL_law_2902 (by decide) ?_
  refine lv_iadd hx hb dL_law_2903 ?_
  refine zl_ld hx hb hX hbl hbA hR.2 hi1 hq1 dL_law_2904 ?_
  obtain ⟨⟨fs2905, ho2905⟩, hf⟩ := hf
  obtain ⟨v2905, h2905, hv2905, hf⟩ := hf
  refine zr_cV X hR hl.1 (As := [.int x1]) (rest := []) (C := RX10) (T := TX10) (N := 34) (mt_X10_quarrels hT am x1 h2893 n2893 hv2905) rfl ho2905 mf_X10_quarrels q_1628 q_1629 q_1630 ⟨Nat.le_trans (Nat.le_of_ble_eq_true rfl) hRf, Nat.le_trans (Nat.le_of_ble_eq_true rfl) hRl⟩ ⟨hc, hs⟩ rfl (Nat.le_of_ble_eq_true rfl) dL_law_2905 (fun H locs hR => ?_)
  refine W.eq (g2 := F0 m 2908 ls [.int v2905]) rfl ?_
  refine W.widen (k := cs + 20) (n := ss + 253) (Nat.le_refl _) (Nat.le_refl _) ?_
  refine lv_istore (i := 7) (lv' := [(7, .int v2905), (6, .int v2893), (5, .int i), (4, .ref ad), (3, .ref ao), (2, .ref am), (1, .ref ax), (0, .ref b)]) hx hb dL_law_2908 hl (by decide) rfl (fun ls hl => ?_)
  refine lv_aload_n hx hb dL_law_2910 rfl (lv_at hl 5 rfl) ?_
  obtain ⟨⟨fs2911, ho2911⟩, hf⟩ := hf
  obtain ⟨v2911, hv2911, hf⟩ := hf
  refine zr_cV X hR hl.1 (As := []) (rest := []) (C := RX10) (T := TX10) (N := 34) (mt_X10_thrown hT am h2905 n2893 hv2911) rfl ho2911 mf_X10_thrown q_1359 q_1360 q_1361 ⟨Nat.le_trans (Nat.le_of_ble_eq_true rfl) hRf, Nat.le_trans (Nat.le_of_ble_eq_true rfl) hRl⟩ ⟨hc, hs⟩ rfl (Nat.le_of_ble_eq_true rfl) dL_law_2911 (fun H locs hR => ?_)
  refine W.eq (g2 := F0 m 2914 ls [.int v2911]) rfl ?_
  refine W.widen (k := cs + 20) (n := ss + 253) (Nat.le_refl _) (Nat.le_refl _) ?_
  refine lv_iload hx hb dL_law_2914 (lv_at hl 1 rfl) ?_
  refine lv_icmp_eq (tgt := 2921) hx hb dL_law_2916 (by decide) (fun c2916 => ?_) (fun c2916 => ?_)
  · replace hf := hf.1 c2916
    refine lv_iload hx hb dL_law_2921 (lv_at hl 1 rfl) ?_
    refine lv_if_ne (tgt := 2938) hx hb dL_law_2923 (by decide) (fun c2923 => ?_) (fun c2923 => ?_)
    · replace hf := hf.2 c2923
      refine lv_goto (tgt := 3298) hx hb dL_law_2938 (by decide) ?_
      exact hK _ _ hf hR (lv_sub hl [2, 3, 4, 5, 6, 7] rfl)
    · replace hf := hf.1 c2923
      refine lv_aload_n hx hb dL_law_2926 rfl (lv_at hl 4 rfl) ?_
      refine lv_iconst (v := (0 : Int32)) hx hb dL_law_2927 (by decide) ?_
      obtain ⟨v2928, hv2928, hf⟩ := hf
      refine zr_lald X hR (r := some ao) dL_law_2928 hv2928 (fun vv hvv => ?_)
      cases hvv
      refine lv_iload hx hb dL_law_2929 (lv_at hl 0 rfl) ?_
      refine lv_i2l hx hb dL_law_2931 rfl ?_
      refine W.lcmp hx hb dL_law_2932 ?_
      refine lv_if_eq (tgt := 2938) hx hb dL_law_2933 (by decide) (fun c2933 => ?_) (fun c2933 => ?_)
      · replace hf := hf.1 c2933
        refine lv_goto (tgt := 3298) hx hb dL_law_2938 (by decide) ?_
        exact hK _ _ hf hR (lv_sub hl [2, 3, 4, 5, 6, 7] rfl)
      · replace hf := hf.2 c2933
        refine lv_iconst (v := (0 : Int32)) hx hb dL_law_2936 (by decide) ?_
        exact hf.elim
  · replace hf := hf.2 c2916
    refine lv_iconst (v := (0 : Int32)) hx hb dL_law_2919 (by decide) ?_
    exact hf.elim
set_option maxHeartbeats 4000000 in
set_option maxRecDepth 100000 in
theorem lc_38 {D : va_G} {dA : Nat → ClassId} {base t0 : Nat} {l : Launch} {p : Program} {e : Env} {R : Room} {s : State} {m : MethodId} {args : Array Value} {below : List Frame} {meth : Method} {c : Code} {Q : State → Prop} (X : zz_X D dA base t0 "SpringseatLaw" cL_law 9 (some .boolean) l p s m meth c) (hT : l.stackTraces = false) (hN : zz_N s) {b L : Nat} {xs : Nat → Int32} (hX : va_X b L xs s s.heap) (hbl : b < s.heap.size) (hbA : ¬ base ≤ b) (hRf : 13 ≤ R.frames) (hRl : 482 ≤ R.locals) {cs ss : Nat} (hc : cs + 20 ≤ R.cells) (hs : ss + 253 ≤ R.slots) {ax am ao ad : Nat} {i x1 x2 x3 x4 : Int32} (hi1 : vp_in (i + 1) L) (hi2 : vp_in (i + 2) L) (hi3 : vp_in (i + 3) L) (hi4 : vp_in (i + 4) L) (hq1 : xs (i + 1).toNatClampNeg = x1) (hq2 : xs (i + 2).toNatClampNeg = x2) (hq3 : xs (i + 3).toNatClampNeg = x3) (hq4 : xs (i + 4).toNatClampNeg = x4) {K : zz_H → Nat → Prop} (hK : ∀ h n, K h n → ∀ {H : Heap} {locs : List Loc} {ls : Array Slot}, zz_R D dA base h n s H locs → lv_has ls 9 [(5, .int i), (4, .ref ad), (3, .ref ao), (2, .ref am), (1, .ref ax), (0, .ref b)] → W p l e R s m args below meth c H locs (cs + 20) (ss + 253) Q (F0 m 3298 ls [])) {h : zz_H} {n : Nat} {H : Heap} {locs : List Loc} {ls : Array Slot} (hR : zz_R D dA base h n s H locs) (hl : lv_has ls 9 [(5, .int i), (4, .ref ad), (3, .ref ao), (2, .ref am), (1, .ref ax), (0, .ref b)]) (hf : w_38 t0 ax am ao ad x1 x2 x3 x4 h n K) : W p l e R s m args below meth c H locs cs ss Q (F0 m 2941 ls []) := by
  have hx := X.1
  have hb := X.2.1
  have hown := X.2.2.2.2.1
  unfold w_38 at hf
  refine lv_aload_n hx hb dL_law_2941 rfl (lv_at hl 4 rfl) ?_
  refine lv_aload_n hx hb dL_law_2942 rfl (lv_at hl 5 rfl) ?_
  refine lv_iload hx hb dL_law_2943 (lv_at hl 0 rfl) ?_
  refine lv_iconst (v := (1 : Int32)) hx hb dL_law_2945 (by decide) ?_
  refine lv_iadd hx hb dL_law_2946 ?_
  refine zl_ld hx hb hX hbl hbA hR.2 hi1 hq1 dL_law_2947 ?_
  refine lv_aload_n hx hb dL_law_2948 rfl (lv_at hl 5 rfl) ?_
  refine lv_iload hx hb dL_law_2949 (lv_at hl 0 rfl) ?_
  refine lv_iconst (v := (2 : Int32)) hx hb dL_law_2951 (by decide) ?_
  refine lv_iadd hx hb dL_law_2952 ?_
  refine zl_ld hx hb hX hbl hbA hR.2 hi2 hq2 dL_law_2953 ?_
  refine lv_aload_n hx hb dL_law_2954 rfl (lv_at hl 2 rfl) ?_
  obtain ⟨v2955, h2955, m2955, hv2955, hf⟩ := hf
  refine zl_cS X hN hR hl.1 (As := [.ref ax, .int x1, .int x2, .ref ao]) (rest := []) (mt_L_promise hT ax x1 x2 ao h n hv2955) mf_L_promise.1 mf_L_promise.2.1 mf_L_promise.2.2 q_1175 q_1176 ⟨Nat.le_trans (Nat.le_of_ble_eq_true rfl) hRf, Nat.le_trans (Nat.le_of_ble_eq_true rfl) hRl⟩ ⟨Nat.le_trans (Nat.add_le_add_left (Nat.le_of_ble_eq_true rfl) cs) hc, Nat.le_trans (Nat.add_le_add_left (Nat.le_of_ble_eq_true rfl) ss) hs⟩ rfl (Nat.le_of_ble_eq_true rfl) dL_law_2955 (fun n2955 H locs hn2955 hR => ?_)
  replace hf := hf n2955 hn2955
  refine W.eq (g2 := F0 m 2958 ls [.int v2955]) rfl ?_
  refine W.widen (k := cs + 20) (n := ss + 253) (Nat.add_le_add_left (Nat.le_of_ble_eq_true rfl) cs) (Nat.add_le_add_left (Nat.le_of_ble_eq_true rfl) ss) ?_
  refine lv_istore (i := 6) (lv' := [(6, .int v2955), (5, .int i), (4, .ref ad), (3, .ref ao), (2, .ref am), (1, .ref ax), (0, .ref b)]) hx hb dL_law_2958 hl (by decide) rfl (fun ls hl => ?_)
  refine lv_aload_n hx hb dL_law_2960 rfl (lv_at hl 4 rfl) ?_
  refine lv_aload_n hx hb dL_law_2961 rfl (lv_at hl 6 rfl) ?_
  refine lv_iload hx hb dL_law_2962 (lv_at hl 1 rfl) ?_
  refine lv_iconst (v := (1 : Int32)) hx hb dL_law_2964 (by decide) ?_
  refine lv_iadd hx hb dL_law_2965 ?_
  refine zl_ld hx hb hX hbl hbA hR.2 hi1 hq1 dL_law_2966 ?_
  refine lv_aload_n hx hb dL_law_2967 rfl (lv_at hl 6 rfl) ?_
  refine lv_iload hx hb dL_law_2968 (lv_at hl 1 rfl) ?_
  refine lv_iconst (v := (2 : Int32)) hx hb dL_law_2970 (by decide) ?_
  refine lv_iadd hx hb dL_law_2971 ?_
  refine zl_ld hx hb hX hbl hbA hR.2 hi2 hq2 dL_law_2972 ?_
  obtain ⟨⟨fs2973, ho2973⟩, hf⟩ := hf
  obtain ⟨v2973, h2973, hv2973, hf⟩ := hf
  refine zr_cV X hR hl.1 (As := [.int x1, .int x2]) (rest := []) (C := RX10) (T := TX10) (N := 34) (mt_X10_promise hT am x1 x2 h2955 n2955 hv2973) rfl ho2973 mf_X10_promise q_1632 q_1633 q_1634 ⟨Nat.le_trans (Nat.le_of_ble_eq_true rfl) hRf, Nat.le_trans (Nat.le_of_ble_eq_true rfl) hRl⟩ ⟨hc, hs⟩ rfl (Nat.le_of_ble_eq_true rfl) dL_law_2973 (fun H locs hR => ?_)
  refine W.eq (g2 := F0 m 2976 ls [.int v2973]) rfl ?_
  refine W.widen (k := cs + 20) (n := ss + 253) (Nat.le_refl _) (Nat.le_refl _) ?_
  refine lv_istore (i := 7) (lv' := [(7, .int v2973), (6, .int v2955), (5, .int i), (4, .ref ad), (3, .ref ao), (2, .ref am), (1, .ref ax), (0, .ref b)]) hx hb dL_law_2976 hl (by decide) rfl (fun ls hl => ?_)
  refine lv_aload_n hx hb dL_law_2978 rfl (lv_at hl 5 rfl) ?_
  obtain ⟨⟨fs2979, ho2979⟩, hf⟩ := hf
  obtain ⟨v2979, hv2979, hf⟩ := hf
  refine zr_cV X hR hl.1 (As := []) (rest := []) (C := RX10) (T := TX10) (N := 34) (mt_X10_thrown hT am h2973 n2955 hv2979) rfl ho2979 mf_X10_thrown q_1359 q_1360 q_1361 ⟨Nat.le_trans (Nat.le_of_ble_eq_true rfl) hRf, Nat.le_trans (Nat.le_of_ble_eq_true rfl) hRl⟩ ⟨hc, hs⟩ rfl (Nat.le_of_ble_eq_true rfl) dL_law_2979 (fun H locs hR => ?_)
  refine W.eq (g2 := F0 m 2982 ls [.int v2979]) rfl ?_
  refine W.widen (k := cs + 20) (n := ss + 253) (Nat.le_refl _) (Nat.le_refl _) ?_
  refine lv_iload hx hb dL_law_2982 (lv_at hl 1 rfl) ?_
  refine lv_icmp_eq (tgt := 2989) hx hb dL_law_2984 (by decide) (fun c2984 => ?_) (fun c2984 => ?_)
  · replace hf := hf.1 c2984
    refine lv_iload hx hb dL_law_2989 (lv_at hl 1 rfl) ?_
    refine lv_if_ne (tgt := 3006) hx hb dL_law_2991 (by decide) (fun c2991 => ?_) (fun c2991 => ?_)
    · replace hf := hf.2 c2991
      refine lv_goto (tgt := 3298) hx hb dL_law_3006 (by decide) ?_
      exact hK _ _ hf hR (lv_sub hl [2, 3, 4, 5, 6, 7] rfl)
    · replace hf := hf.1 c2991
      refine lv_aload_n hx hb dL_law_2994 rfl (lv_at hl 4 rfl) ?_
      refine lv_iconst (v := (0 : Int32)) hx hb dL_law_2995 (by decide) ?_
      obtain ⟨v2996, hv2996, hf⟩ := hf
      refine zr_lald X hR (r := some ao) dL_law_2996 hv2996 (fun vv hvv => ?_)
      cases hvv
      refine lv_iload hx hb dL_law_2997 (lv_at hl 0 rfl) ?_
      refine lv_i2l hx hb dL_law_2999 rfl ?_
      refine W.lcmp hx hb dL_law_3000 ?_
      refine lv_if_eq (tgt := 3006) hx hb dL_law_3001 (by decide) (fun c3001 => ?_) (fun c3001 => ?_)
      · replace hf := hf.1 c3001
        refine lv_goto (tgt := 3298) hx hb dL_law_3006 (by decide) ?_
        exact hK _ _ hf hR (lv_sub hl [2, 3, 4, 5, 6, 7] rfl)
      · replace hf := hf.2 c3001
        refine lv_iconst (v := (0 : Int32)) hx hb dL_law_3004 (by decide) ?_
        exact hf.elim
  · replace hf := hf.2 c2984
    refine lv_iconst (v := (0 : Int32)) hx hb dL_law_2987 (by decide) ?_
    exact hf.elim
set_option maxHeartbeats 4000000 in
set_option maxRecDepth 100000 in
theorem lc_39 {D : va_G} {dA : Nat → ClassId} {base t0 : Nat} {l : Launch} {p : Program} {e : Env} {R : Room} {s : State} {m : MethodId} {args : Array Value} {below : List Frame} {meth : Method} {c : Code} {Q : State → Prop} (X : zz_X D dA base t0 "SpringseatLaw" cL_law 9 (some .boolean) l p s m meth c) (hT : l.stackTraces = false) (hN : zz_N s) {b L : Nat} {xs : Nat → Int32} (hX : va_X b L xs s s.heap) (hbl : b < s.heap.size) (hbA : ¬ base ≤ b) (hRf : 13 ≤ R.frames) (hRl : 482 ≤ R.locals) {cs ss : Nat} (hc : cs + 20 ≤ R.cells) (hs : ss + 253 ≤ R.slots) {ax am ao ad : Nat} {i x1 x2 x3 x4 : Int32} (hi1 : vp_in (i + 1) L) (hi2 : vp_in (i + 2) L) (hi3 : vp_in (i + 3) L) (hi4 : vp_in (i + 4) L) (hq1 : xs (i + 1).toNatClampNeg = x1) (hq2 : xs (i + 2).toNatClampNeg = x2) (hq3 : xs (i + 3).toNatClampNeg = x3) (hq4 : xs (i + 4).toNatClampNeg = x4) {K : zz_H → Nat → Prop} (hK : ∀ h n, K h n → ∀ {H : Heap} {locs : List Loc} {ls : Array Slot}, zz_R D dA base h n s H locs → lv_has ls 9 [(5, .int i), (4, .ref ad), (3, .ref ao), (2, .ref am), (1, .ref ax), (0, .ref b)] → W p l e R s m args below meth c H locs (cs + 20) (ss + 253) Q (F0 m 3298 ls [])) {h : zz_H} {n : Nat} {H : Heap} {locs : List Loc} {ls : Array Slot} (hR : zz_R D dA base h n s H locs) (hl : lv_has ls 9 [(5, .int i), (4, .ref ad), (3, .ref ao), (2, .ref am), (1, .ref ax), (0, .ref b)]) (hf : w_39 t0 ax am ao ad x1 x2 x3 x4 h n K) : W p l e R s m args below meth c H locs cs ss Q (F0 m 3009 ls []) := by
  have hx := X.1
  have hb := X.2.1
  have hown := X.2.2.2.2.1
  unfold w_39 at hf
  refine lv_aload_n hx hb dL_law_3009 rfl (lv_at hl 4 rfl) ?_
  refine lv_aload_n hx hb dL_law_3010 rfl (lv_at hl 5 rfl) ?_
  refine lv_iload hx hb dL_law_3011 (lv_at hl 0 rfl) ?_
  refine lv_iconst (v := (1 : Int32)) hx hb dL_law_3013 (by decide) ?_
  refine lv_iadd hx hb dL_law_3014 ?_
  refine zl_ld hx hb hX hbl hbA hR.2 hi1 hq1 dL_law_3015 ?_
  refine lv_aload_n hx hb dL_law_3016 rfl (lv_at hl 2 rfl) ?_
  obtain ⟨v3017, h3017, m3017, hv3017, hf⟩ := hf
  refine zl_cS X hN hR hl.1 (As := [.ref ax, .int x1, .ref ao]) (rest := []) (mt_L_holds hT ax x1 ao h n hv3017) mf_L_holds.1 mf_L_holds.2.1 mf_L_holds.2.2 q_1182 q_1183 ⟨Nat.le_trans (Nat.le_of_ble_eq_true rfl) hRf, Nat.le_trans (Nat.le_of_ble_eq_true rfl) hRl⟩ ⟨Nat.le_trans (Nat.add_le_add_left (Nat.le_of_ble_eq_true rfl) cs) hc, Nat.le_trans (Nat.add_le_add_left (Nat.le_of_ble_eq_true rfl) ss) hs⟩ rfl (Nat.le_of_ble_eq_true rfl) dL_law_3017 (fun n3017 H locs hn3017 hR => ?_)
  replace hf := hf n3017 hn3017
  refine W.eq (g2 := F0 m 3020 ls [.int v3017]) rfl ?_
  refine W.widen (k := cs + 20) (n := ss + 253) (Nat.add_le_add_left (Nat.le_of_ble_eq_true rfl) cs) (Nat.add_le_add_left (Nat.le_of_ble_eq_true rfl) ss) ?_
  refine lv_istore (i := 6) (lv' := [(6, .int v3017), (5, .int i), (4, .ref ad), (3, .ref ao), (2, .ref am), (1, .ref ax), (0, .ref b)]) hx hb dL_law_3020 hl (by decide) rfl (fun ls hl => ?_)
  refine lv_aload_n hx hb dL_law_3022 rfl (lv_at hl 4 rfl) ?_
  refine lv_aload_n hx hb dL_law_3023 rfl (lv_at hl 6 rfl) ?_
  refine lv_iload hx hb dL_law_3024 (lv_at hl 1 rfl) ?_
  refine lv_iconst (v := (1 : Int32)) hx hb dL_law_3026 (by decide) ?_
  refine lv_iadd hx hb dL_law_3027 ?_
  refine zl_ld hx hb hX hbl hbA hR.2 hi1 hq1 dL_law_3028 ?_
  obtain ⟨⟨fs3029, ho3029⟩, hf⟩ := hf
  obtain ⟨v3029, h3029, hv3029, hf⟩ := hf
  refine zr_cV X hR hl.1 (As := [.int x1]) (rest := []) (C := RX10) (T := TX10) (N := 34) (mt_X10_holds hT am x1 h3017 n3017 hv3029) rfl ho3029 mf_X10_holds q_1636 q_1637 q_1638 ⟨Nat.le_trans (Nat.le_of_ble_eq_true rfl) hRf, Nat.le_trans (Nat.le_of_ble_eq_true rfl) hRl⟩ ⟨hc, hs⟩ rfl (Nat.le_of_ble_eq_true rfl) dL_law_3029 (fun H locs hR => ?_)
  refine W.eq (g2 := F0 m 3032 ls [.int v3029]) rfl ?_
  refine W.widen (k := cs + 20) (n := ss + 253) (Nat.le_refl _) (Nat.le_refl _) ?_
  refine lv_istore (i := 7) (lv' := [(7, .int v3029), (6, .int v3017), (5, .int i), (4, .ref ad), (3, .ref ao), (2, .ref am), (1, .ref ax), (0, .ref b)]) hx hb dL_law_3032 hl (by decide) rfl (fun ls hl => ?_)
  refine lv_aload_n hx hb dL_law_3034 rfl (lv_at hl 5 rfl) ?_
  obtain ⟨⟨fs3035, ho3035⟩, hf⟩ := hf
  obtain ⟨v3035, hv3035, hf⟩ := hf
  refine zr_cV X hR hl.1 (As := []) (rest := []) (C := RX10) (T := TX10) (N := 34) (mt_X10_thrown hT am h3029 n3017 hv3035) rfl ho3035 mf_X10_thrown q_1359 q_1360 q_1361 ⟨Nat.le_trans (Nat.le_of_ble_eq_true rfl) hRf, Nat.le_trans (Nat.le_of_ble_eq_true rfl) hRl⟩ ⟨hc, hs⟩ rfl (Nat.le_of_ble_eq_true rfl) dL_law_3035 (fun H locs hR => ?_)
  refine W.eq (g2 := F0 m 3038 ls [.int v3035]) rfl ?_
  refine W.widen (k := cs + 20) (n := ss + 253) (Nat.le_refl _) (Nat.le_refl _) ?_
  refine lv_iload hx hb dL_law_3038 (lv_at hl 1 rfl) ?_
  refine lv_icmp_eq (tgt := 3045) hx hb dL_law_3040 (by decide) (fun c3040 => ?_) (fun c3040 => ?_)
  · replace hf := hf.1 c3040
    refine lv_iload hx hb dL_law_3045 (lv_at hl 1 rfl) ?_
    refine lv_if_ne (tgt := 3069) hx hb dL_law_3047 (by decide) (fun c3047 => ?_) (fun c3047 => ?_)
    · replace hf := hf.2 c3047
      refine lv_goto (tgt := 3298) hx hb dL_law_3069 (by decide) ?_
      exact hK _ _ hf hR (lv_sub hl [2, 3, 4, 5, 6, 7] rfl)
    · replace hf := hf.1 c3047
      refine lv_aload_n hx hb dL_law_3050 rfl (lv_at hl 4 rfl) ?_
      refine lv_iconst (v := (0 : Int32)) hx hb dL_law_3051 (by decide) ?_
      obtain ⟨v3052, hv3052, hf⟩ := hf
      refine zr_lald X hR (r := some ao) dL_law_3052 hv3052 (fun vv hvv => ?_)
      cases hvv
      refine lv_iload hx hb dL_law_3053 (lv_at hl 0 rfl) ?_
      refine lv_if_eq (tgt := 3062) hx hb dL_law_3055 (by decide) (fun c3055 => ?_) (fun c3055 => ?_)
      · replace hf := hf.1 c3055
        refine lv_lconst (v := (0 : Int64)) hx hb dL_law_3062 (by decide) ?_
        refine W.lcmp hx hb dL_law_3063 ?_
        refine lv_if_eq (tgt := 3069) hx hb dL_law_3064 (by decide) (fun c3064 => ?_) (fun c3064 => ?_)
        · replace hf := hf.1 c3064
          refine lv_goto (tgt := 3298) hx hb dL_law_3069 (by decide) ?_
          exact hK _ _ hf hR (lv_sub hl [2, 3, 4, 5, 6, 7] rfl)
        · replace hf := hf.2 c3064
          refine lv_iconst (v := (0 : Int32)) hx hb dL_law_3067 (by decide) ?_
          exact hf.elim
      · replace hf := hf.2 c3055
        refine lv_lconst (v := (1 : Int64)) hx hb dL_law_3058 (by decide) ?_
        refine lv_goto (tgt := 3063) hx hb dL_law_3059 (by decide) ?_
        refine W.lcmp hx hb dL_law_3063 ?_
        refine lv_if_eq (tgt := 3069) hx hb dL_law_3064 (by decide) (fun c3064 => ?_) (fun c3064 => ?_)
        · replace hf := hf.1 c3064
          refine lv_goto (tgt := 3298) hx hb dL_law_3069 (by decide) ?_
          exact hK _ _ hf hR (lv_sub hl [2, 3, 4, 5, 6, 7] rfl)
        · replace hf := hf.2 c3064
          refine lv_iconst (v := (0 : Int32)) hx hb dL_law_3067 (by decide) ?_
          exact hf.elim
  · replace hf := hf.2 c3040
    refine lv_iconst (v := (0 : Int32)) hx hb dL_law_3043 (by decide) ?_
    exact hf.elim
set_option maxHeartbeats 4000000 in
set_option maxRecDepth 100000 in
theorem lc_40 {D : va_G} {dA : Nat → ClassId} {base t0 : Nat} {l : Launch} {p : Program} {e : Env} {R : Room} {s : State} {m : MethodId} {args : Array Value} {below : List Frame} {meth : Method} {c : Code} {Q : State → Prop} (X : zz_X D dA base t0 "SpringseatLaw" cL_law 9 (some .boolean) l p s m meth c) (hT : l.stackTraces = false) (hN : zz_N s) {b L : Nat} {xs : Nat → Int32} (hX : va_X b L xs s s.heap) (hbl : b < s.heap.size) (hbA : ¬ base ≤ b) (hRf : 13 ≤ R.frames) (hRl : 482 ≤ R.locals) {cs ss : Nat} (hc : cs + 20 ≤ R.cells) (hs : ss + 253 ≤ R.slots) {ax am ao ad : Nat} {i x1 x2 x3 x4 : Int32} (hi1 : vp_in (i + 1) L) (hi2 : vp_in (i + 2) L) (hi3 : vp_in (i + 3) L) (hi4 : vp_in (i + 4) L) (hq1 : xs (i + 1).toNatClampNeg = x1) (hq2 : xs (i + 2).toNatClampNeg = x2) (hq3 : xs (i + 3).toNatClampNeg = x3) (hq4 : xs (i + 4).toNatClampNeg = x4) {K : zz_H → Nat → Prop} (hK : ∀ h n, K h n → ∀ {H : Heap} {locs : List Loc} {ls : Array Slot}, zz_R D dA base h n s H locs → lv_has ls 9 [(5, .int i), (4, .ref ad), (3, .ref ao), (2, .ref am), (1, .ref ax), (0, .ref b)] → W p l e R s m args below meth c H locs (cs + 20) (ss + 253) Q (F0 m 3298 ls [])) {h : zz_H} {n : Nat} {H : Heap} {locs : List Loc} {ls : Array Slot} (hR : zz_R D dA base h n s H locs) (hl : lv_has ls 9 [(5, .int i), (4, .ref ad), (3, .ref ao), (2, .ref am), (1, .ref ax), (0, .ref b)]) (hf : w_40 t0 ax am ao ad x1 x2 x3 x4 h n K) : W p l e R s m args below meth c H locs cs ss Q (F0 m 3072 ls []) := by
  have hx := X.1
  have hb := X.2.1
  have hown := X.2.2.2.2.1
  unfold w_40 at hf
  refine lv_aload_n hx hb dL_law_3072 rfl (lv_at hl 4 rfl) ?_
  refine lv_aload_n hx hb dL_law_3073 rfl (lv_at hl 5 rfl) ?_
  refine lv_iload hx hb dL_law_3074 (lv_at hl 0 rfl) ?_
  refine lv_iconst (v := (1 : Int32)) hx hb dL_law_3076 (by decide) ?_
  refine lv_iadd hx hb dL_law_3077 ?_
  refine zl_ld hx hb hX hbl hbA hR.2 hi1 hq1 dL_law_3078 ?_
  refine lv_aload_n hx hb dL_law_3079 rfl (lv_at hl 2 rfl) ?_
  obtain ⟨v3080, h3080, m3080, hv3080, hf⟩ := hf
  refine zl_cS X hN hR hl.1 (As := [.ref ax, .int x1, .ref ao]) (rest := []) (mt_L_quote hT ax x1 ao h n hv3080) mf_L_quote.1 mf_L_quote.2.1 mf_L_quote.2.2 q_1190 q_1191 ⟨Nat.le_trans (Nat.le_of_ble_eq_true rfl) hRf, Nat.le_trans (Nat.le_of_ble_eq_true rfl) hRl⟩ ⟨Nat.le_trans (Nat.add_le_add_left (Nat.le_of_ble_eq_true rfl) cs) hc, Nat.le_trans (Nat.add_le_add_left (Nat.le_of_ble_eq_true rfl) ss) hs⟩ rfl (Nat.le_of_ble_eq_true rfl) dL_law_3080 (fun n3080 H locs hn3080 hR => ?_)
  replace hf := hf n3080 hn3080
  refine W.eq (g2 := F0 m 3083 ls [.int v3080]) rfl ?_
  refine W.widen (k := cs + 20) (n := ss + 253) (Nat.add_le_add_left (Nat.le_of_ble_eq_true rfl) cs) (Nat.add_le_add_left (Nat.le_of_ble_eq_true rfl) ss) ?_
  refine lv_istore (i := 6) (lv' := [(6, .int v3080), (5, .int i), (4, .ref ad), (3, .ref ao), (2, .ref am), (1, .ref ax), (0, .ref b)]) hx hb dL_law_3083 hl (by decide) rfl (fun ls hl => ?_)
  refine lv_aload_n hx hb dL_law_3085 rfl (lv_at hl 4 rfl) ?_
  refine lv_aload_n hx hb dL_law_3086 rfl (lv_at hl 6 rfl) ?_
  refine lv_iload hx hb dL_law_3087 (lv_at hl 1 rfl) ?_
  refine lv_iconst (v := (1 : Int32)) hx hb dL_law_3089 (by decide) ?_
  refine lv_iadd hx hb dL_law_3090 ?_
  refine zl_ld hx hb hX hbl hbA hR.2 hi1 hq1 dL_law_3091 ?_
  obtain ⟨⟨fs3092, ho3092⟩, hf⟩ := hf
  obtain ⟨v3092, h3092, hv3092, hf⟩ := hf
  refine zr_cV X hR hl.1 (As := [.int x1]) (rest := []) (C := RX10) (T := TX10) (N := 34) (mt_X10_quote hT am x1 h3080 n3080 hv3092) rfl ho3092 mf_X10_quote q_1640 q_1641 q_1642 ⟨Nat.le_trans (Nat.le_of_ble_eq_true rfl) hRf, Nat.le_trans (Nat.le_of_ble_eq_true rfl) hRl⟩ ⟨hc, hs⟩ rfl (Nat.le_of_ble_eq_true rfl) dL_law_3092 (fun H locs hR => ?_)
  refine W.eq (g2 := F0 m 3095 ls [.int v3092]) rfl ?_
  refine W.widen (k := cs + 20) (n := ss + 253) (Nat.le_refl _) (Nat.le_refl _) ?_
  refine lv_istore (i := 7) (lv' := [(7, .int v3092), (6, .int v3080), (5, .int i), (4, .ref ad), (3, .ref ao), (2, .ref am), (1, .ref ax), (0, .ref b)]) hx hb dL_law_3095 hl (by decide) rfl (fun ls hl => ?_)
  refine lv_aload_n hx hb dL_law_3097 rfl (lv_at hl 5 rfl) ?_
  obtain ⟨⟨fs3098, ho3098⟩, hf⟩ := hf
  obtain ⟨v3098, hv3098, hf⟩ := hf
  refine zr_cV X hR hl.1 (As := []) (rest := []) (C := RX10) (T := TX10) (N := 34) (mt_X10_thrown hT am h3092 n3080 hv3098) rfl ho3098 mf_X10_thrown q_1359 q_1360 q_1361 ⟨Nat.le_trans (Nat.le_of_ble_eq_true rfl) hRf, Nat.le_trans (Nat.le_of_ble_eq_true rfl) hRl⟩ ⟨hc, hs⟩ rfl (Nat.le_of_ble_eq_true rfl) dL_law_3098 (fun H locs hR => ?_)
  refine W.eq (g2 := F0 m 3101 ls [.int v3098]) rfl ?_
  refine W.widen (k := cs + 20) (n := ss + 253) (Nat.le_refl _) (Nat.le_refl _) ?_
  refine lv_iload hx hb dL_law_3101 (lv_at hl 1 rfl) ?_
  refine lv_icmp_eq (tgt := 3108) hx hb dL_law_3103 (by decide) (fun c3103 => ?_) (fun c3103 => ?_)
  · replace hf := hf.1 c3103
    refine lv_iload hx hb dL_law_3108 (lv_at hl 1 rfl) ?_
    refine lv_if_ne (tgt := 3125) hx hb dL_law_3110 (by decide) (fun c3110 => ?_) (fun c3110 => ?_)
    · replace hf := hf.2 c3110
      refine lv_goto (tgt := 3298) hx hb dL_law_3125 (by decide) ?_
      exact hK _ _ hf hR (lv_sub hl [2, 3, 4, 5, 6, 7] rfl)
    · replace hf := hf.1 c3110
      refine lv_aload_n hx hb dL_law_3113 rfl (lv_at hl 4 rfl) ?_
      refine lv_iconst (v := (0 : Int32)) hx hb dL_law_3114 (by decide) ?_
      obtain ⟨v3115, hv3115, hf⟩ := hf
      refine zr_lald X hR (r := some ao) dL_law_3115 hv3115 (fun vv hvv => ?_)
      cases hvv
      refine lv_iload hx hb dL_law_3116 (lv_at hl 0 rfl) ?_
      refine lv_i2l hx hb dL_law_3118 rfl ?_
      refine W.lcmp hx hb dL_law_3119 ?_
      refine lv_if_eq (tgt := 3125) hx hb dL_law_3120 (by decide) (fun c3120 => ?_) (fun c3120 => ?_)
      · replace hf := hf.1 c3120
        refine lv_goto (tgt := 3298) hx hb dL_law_3125 (by decide) ?_
        exact hK _ _ hf hR (lv_sub hl [2, 3, 4, 5, 6, 7] rfl)
      · replace hf := hf.2 c3120
        refine lv_iconst (v := (0 : Int32)) hx hb dL_law_3123 (by decide) ?_
        exact hf.elim
  · replace hf := hf.2 c3103
    refine lv_iconst (v := (0 : Int32)) hx hb dL_law_3106 (by decide) ?_
    exact hf.elim
set_option maxHeartbeats 4000000 in
set_option maxRecDepth 100000 in
theorem lc_41 {D : va_G} {dA : Nat → ClassId} {base t0 : Nat} {l : Launch} {p : Program} {e : Env} {R : Room} {s : State} {m : MethodId} {args : Array Value} {below : List Frame} {meth : Method} {c : Code} {Q : State → Prop} (X : zz_X D dA base t0 "SpringseatLaw" cL_law 9 (some .boolean) l p s m meth c) (hT : l.stackTraces = false) (hN : zz_N s) {b L : Nat} {xs : Nat → Int32} (hX : va_X b L xs s s.heap) (hbl : b < s.heap.size) (hbA : ¬ base ≤ b) (hRf : 13 ≤ R.frames) (hRl : 482 ≤ R.locals) {cs ss : Nat} (hc : cs + 20 ≤ R.cells) (hs : ss + 253 ≤ R.slots) {ax am ao ad : Nat} {i x1 x2 x3 x4 : Int32} (hi1 : vp_in (i + 1) L) (hi2 : vp_in (i + 2) L) (hi3 : vp_in (i + 3) L) (hi4 : vp_in (i + 4) L) (hq1 : xs (i + 1).toNatClampNeg = x1) (hq2 : xs (i + 2).toNatClampNeg = x2) (hq3 : xs (i + 3).toNatClampNeg = x3) (hq4 : xs (i + 4).toNatClampNeg = x4) {K : zz_H → Nat → Prop} (hK : ∀ h n, K h n → ∀ {H : Heap} {locs : List Loc} {ls : Array Slot}, zz_R D dA base h n s H locs → lv_has ls 9 [(5, .int i), (4, .ref ad), (3, .ref ao), (2, .ref am), (1, .ref ax), (0, .ref b)] → W p l e R s m args below meth c H locs (cs + 20) (ss + 253) Q (F0 m 3298 ls [])) {h : zz_H} {n : Nat} {H : Heap} {locs : List Loc} {ls : Array Slot} (hR : zz_R D dA base h n s H locs) (hl : lv_has ls 9 [(5, .int i), (4, .ref ad), (3, .ref ao), (2, .ref am), (1, .ref ax), (0, .ref b)]) (hf : w_41 t0 ax am ao ad x1 x2 x3 x4 h n K) : W p l e R s m args below meth c H locs cs ss Q (F0 m 3128 ls []) := by
  have hx := X.1
  have hb := X.2.1
  have hown := X.2.2.2.2.1
  unfold w_41 at hf
  refine lv_aload_n hx hb dL_law_3128 rfl (lv_at hl 4 rfl) ?_
  obtain ⟨⟨fs3129, ho3129⟩, hf⟩ := hf
  obtain ⟨v3129, hv3129, hf⟩ := hf
  refine zr_cV X hR hl.1 (As := []) (rest := []) (C := RX9) (T := TX9) (N := 6) (mt_X9_checksum hT ax h n hv3129) rfl ho3129 mf_X9_checksum q_172 q_173 q_174 ⟨Nat.le_trans (Nat.le_of_ble_eq_true rfl) hRf, Nat.le_trans (Nat.le_of_ble_eq_true rfl) hRl⟩ ⟨Nat.le_trans (Nat.le_add_right cs 20) hc, Nat.le_trans (Nat.le_add_right ss 253) hs⟩ rfl (Nat.le_of_ble_eq_true rfl) dL_law_3129 (fun H locs hR => ?_)
  refine W.eq (g2 := F0 m 3132 ls [.long v3129]) rfl ?_
  refine W.widen (k := cs) (n := ss) (Nat.le_refl _) (Nat.le_refl _) ?_
  refine lv_aload_n hx hb dL_law_3132 rfl (lv_at hl 3 rfl) ?_
  obtain ⟨⟨fs3133, ho3133⟩, hf⟩ := hf
  obtain ⟨v3133, h3133, hv3133, hf⟩ := hf
  refine zr_cV X hR hl.1 (As := []) (rest := [.long v3129]) (C := RX10) (T := TX10) (N := 34) (mt_X10_checksum hT am h n hv3133) rfl ho3133 mf_X10_checksum q_1644 q_1645 q_1646 ⟨Nat.le_trans (Nat.le_of_ble_eq_true rfl) hRf, Nat.le_trans (Nat.le_of_ble_eq_true rfl) hRl⟩ ⟨Nat.le_trans (Nat.le_add_right cs 20) hc, Nat.le_trans (Nat.le_add_right ss 253) hs⟩ rfl (Nat.le_of_ble_eq_true rfl) dL_law_3133 (fun H locs hR => ?_)
  refine W.eq (g2 := F0 m 3136 ls [.long v3133, .long v3129]) rfl ?_
  refine W.widen (k := cs) (n := ss) (Nat.le_refl _) (Nat.le_refl _) ?_
  refine W.lcmp hx hb dL_law_3136 ?_
  refine lv_if_eq (tgt := 3298) hx hb dL_law_3137 (by decide) (fun c3137 => ?_) (fun c3137 => ?_)
  · replace hf := hf.1 c3137
    refine W.widen (k := cs + 20) (n := ss + 253) (Nat.le_add_right cs 20) (Nat.le_add_right ss 253) ?_
    exact hK _ _ hf hR (lv_sub hl [0, 1, 2, 3, 4, 5] rfl)
  · replace hf := hf.2 c3137
    refine lv_iconst (v := (0 : Int32)) hx hb dL_law_3140 (by decide) ?_
    exact hf.elim
set_option maxHeartbeats 4000000 in
set_option maxRecDepth 100000 in
theorem lc_42 {D : va_G} {dA : Nat → ClassId} {base t0 : Nat} {l : Launch} {p : Program} {e : Env} {R : Room} {s : State} {m : MethodId} {args : Array Value} {below : List Frame} {meth : Method} {c : Code} {Q : State → Prop} (X : zz_X D dA base t0 "SpringseatLaw" cL_law 9 (some .boolean) l p s m meth c) (hT : l.stackTraces = false) (hN : zz_N s) {b L : Nat} {xs : Nat → Int32} (hX : va_X b L xs s s.heap) (hbl : b < s.heap.size) (hbA : ¬ base ≤ b) (hRf : 13 ≤ R.frames) (hRl : 482 ≤ R.locals) {cs ss : Nat} (hc : cs + 20 ≤ R.cells) (hs : ss + 253 ≤ R.slots) {ax am ao ad : Nat} {i x1 x2 x3 x4 : Int32} (hi1 : vp_in (i + 1) L) (hi2 : vp_in (i + 2) L) (hi3 : vp_in (i + 3) L) (hi4 : vp_in (i + 4) L) (hq1 : xs (i + 1).toNatClampNeg = x1) (hq2 : xs (i + 2).toNatClampNeg = x2) (hq3 : xs (i + 3).toNatClampNeg = x3) (hq4 : xs (i + 4).toNatClampNeg = x4) {K : zz_H → Nat → Prop} (hK : ∀ h n, K h n → ∀ {H : Heap} {locs : List Loc} {ls : Array Slot}, zz_R D dA base h n s H locs → lv_has ls 9 [(5, .int i), (4, .ref ad), (3, .ref ao), (2, .ref am), (1, .ref ax), (0, .ref b)] → W p l e R s m args below meth c H locs (cs + 20) (ss + 253) Q (F0 m 3298 ls [])) {h : zz_H} {n : Nat} {H : Heap} {locs : List Loc} {ls : Array Slot} (hR : zz_R D dA base h n s H locs) (hl : lv_has ls 9 [(5, .int i), (4, .ref ad), (3, .ref ao), (2, .ref am), (1, .ref ax), (0, .ref b)]) (hf : w_42 t0 ax am ao ad x1 x2 x3 x4 h n K) : W p l e R s m args below meth c H locs cs ss Q (F0 m 3142 ls []) := by
  have hx := X.1
  have hb := X.2.1
  have hown := X.2.2.2.2.1
  unfold w_42 at hf
  refine lv_aload_n hx hb dL_law_3142 rfl (lv_at hl 4 rfl) ?_
  refine lv_aload hx hb dL_law_3143 (lv_at hl 1 rfl) ?_
  obtain ⟨v3145, h3145, m3145, hv3145, hf⟩ := hf
  refine zl_cS X hN hR hl.1 (As := [.ref ax, .ref ad]) (rest := []) (mt_L_closedShare hT ax ad h n hv3145) mf_L_closedShare.1 mf_L_closedShare.2.1 mf_L_closedShare.2.2 q_1222 q_1223 ⟨Nat.le_trans (Nat.le_of_ble_eq_true rfl) hRf, Nat.le_trans (Nat.le_of_ble_eq_true rfl) hRl⟩ ⟨Nat.le_trans (Nat.add_le_add_left (Nat.le_of_ble_eq_true rfl) cs) hc, Nat.le_trans (Nat.add_le_add_left (Nat.le_of_ble_eq_true rfl) ss) hs⟩ rfl (Nat.le_of_ble_eq_true rfl) dL_law_3145 (fun n3145 H locs hn3145 hR => ?_)
  replace hf := hf n3145 hn3145
  refine W.eq (g2 := F0 m 3148 ls [.int v3145]) rfl ?_
  refine W.widen (k := cs + 20) (n := ss + 253) (Nat.add_le_add_left (Nat.le_of_ble_eq_true rfl) cs) (Nat.add_le_add_left (Nat.le_of_ble_eq_true rfl) ss) ?_
  refine lv_istore (i := 6) (lv' := [(6, .int v3145), (5, .int i), (4, .ref ad), (3, .ref ao), (2, .ref am), (1, .ref ax), (0, .ref b)]) hx hb dL_law_3148 hl (by decide) rfl (fun ls hl => ?_)
  refine lv_aload_n hx hb dL_law_3150 rfl (lv_at hl 4 rfl) ?_
  obtain ⟨⟨fs3151, ho3151⟩, hf⟩ := hf
  obtain ⟨v3151, h3151, hv3151, hf⟩ := hf
  refine zr_cV X hR hl.1 (As := []) (rest := []) (C := RX10) (T := TX10) (N := 34) (mt_X10_closedShare hT am h3145 n3145 hv3151) rfl ho3151 mf_X10_closedShare q_1650 q_1651 q_1652 ⟨Nat.le_trans (Nat.le_of_ble_eq_true rfl) hRf, Nat.le_trans (Nat.le_of_ble_eq_true rfl) hRl⟩ ⟨hc, hs⟩ rfl (Nat.le_of_ble_eq_true rfl) dL_law_3151 (fun H locs hR => ?_)
  refine W.eq (g2 := F0 m 3154 ls [.float v3151]) rfl ?_
  refine W.widen (k := cs + 20) (n := ss + 253) (Nat.le_refl _) (Nat.le_refl _) ?_
  refine lv_fstore (i := 7) (lv' := [(7, .float v3151), (6, .int v3145), (5, .int i), (4, .ref ad), (3, .ref ao), (2, .ref am), (1, .ref ax), (0, .ref b)]) hx hb dL_law_3154 hl (by decide) rfl (fun ls hl => ?_)
  refine lv_aload_n hx hb dL_law_3156 rfl (lv_at hl 5 rfl) ?_
  obtain ⟨⟨fs3157, ho3157⟩, hf⟩ := hf
  obtain ⟨v3157, hv3157, hf⟩ := hf
  refine zr_cV X hR hl.1 (As := []) (rest := []) (C := RX10) (T := TX10) (N := 34) (mt_X10_thrown hT am h3151 n3145 hv3157) rfl ho3157 mf_X10_thrown q_1359 q_1360 q_1361 ⟨Nat.le_trans (Nat.le_of_ble_eq_true rfl) hRf, Nat.le_trans (Nat.le_of_ble_eq_true rfl) hRl⟩ ⟨hc, hs⟩ rfl (Nat.le_of_ble_eq_true rfl) dL_law_3157 (fun H locs hR => ?_)
  refine W.eq (g2 := F0 m 3160 ls [.int v3157]) rfl ?_
  refine W.widen (k := cs + 20) (n := ss + 253) (Nat.le_refl _) (Nat.le_refl _) ?_
  refine lv_iload hx hb dL_law_3160 (lv_at hl 1 rfl) ?_
  refine lv_icmp_eq (tgt := 3167) hx hb dL_law_3162 (by decide) (fun c3162 => ?_) (fun c3162 => ?_)
  · replace hf := hf.1 c3162
    refine lv_iload hx hb dL_law_3167 (lv_at hl 1 rfl) ?_
    refine lv_if_ne (tgt := 3205) hx hb dL_law_3169 (by decide) (fun c3169 => ?_) (fun c3169 => ?_)
    · replace hf := hf.2 c3169
      refine lv_goto (tgt := 3298) hx hb dL_law_3205 (by decide) ?_
      exact hK _ _ hf hR (lv_sub hl [2, 3, 4, 5, 6, 7] rfl)
    · replace hf := hf.1 c3169
      refine lv_aload hx hb dL_law_3172 (lv_at hl 3 rfl) ?_
      refine lv_iconst (v := (0 : Int32)) hx hb dL_law_3174 (by decide) ?_
      obtain ⟨v3175, hv3175, hf⟩ := hf
      refine zr_dald X hR (r := some ad) dL_law_3175 hv3175 (fun vv hvv => ?_)
      cases hvv
      refine lv_fload hx hb dL_law_3176 (lv_at hl 0 rfl) ?_
      obtain ⟨hne, hf⟩ := hf
      refine lv_f2d hx hb dL_law_3178 hne ?_
      refine lv_dcmp hx hb dL_law_3179 ?_
      refine lv_if_eq (tgt := 3205) hx hb dL_law_3180 (by decide) (fun c3180 => ?_) (fun c3180 => ?_)
      · replace hf := hf.1 c3180
        refine lv_goto (tgt := 3298) hx hb dL_law_3205 (by decide) ?_
        exact hK _ _ hf hR (lv_sub hl [2, 3, 4, 5, 6, 7] rfl)
      · replace hf := hf.2 c3180
        refine lv_aload hx hb dL_law_3183 (lv_at hl 3 rfl) ?_
        refine lv_iconst (v := (0 : Int32)) hx hb dL_law_3185 (by decide) ?_
        obtain ⟨v3186, hv3186, hf⟩ := hf
        refine zr_dald X hR (r := some ad) dL_law_3186 hv3186 (fun vv hvv => ?_)
        cases hvv
        refine lv_aload hx hb dL_law_3187 (lv_at hl 3 rfl) ?_
        refine lv_iconst (v := (0 : Int32)) hx hb dL_law_3189 (by decide) ?_
        obtain ⟨v3190, hv3190, hf⟩ := hf
        refine zr_dald X hR (r := some ad) dL_law_3190 hv3190 (fun vv hvv => ?_)
        cases hvv
        refine lv_dcmp hx hb dL_law_3191 ?_
        refine lv_if_eq (tgt := 3203) hx hb dL_law_3192 (by decide) (fun c3192 => ?_) (fun c3192 => ?_)
        · replace hf := hf.1 c3192
          refine lv_iconst (v := (0 : Int32)) hx hb dL_law_3203 (by decide) ?_
          exact hf.elim
        · replace hf := hf.2 c3192
          refine lv_fload hx hb dL_law_3195 (lv_at hl 0 rfl) ?_
          refine lv_fload hx hb dL_law_3197 (lv_at hl 0 rfl) ?_
          refine lv_fcmp hx hb dL_law_3199 ?_
          refine lv_if_ne (tgt := 3205) hx hb dL_law_3200 (by decide) (fun c3200 => ?_) (fun c3200 => ?_)
          · replace hf := hf.2 c3200
            refine lv_goto (tgt := 3298) hx hb dL_law_3205 (by decide) ?_
            exact hK _ _ hf hR (lv_sub hl [2, 3, 4, 5, 6, 7] rfl)
          · replace hf := hf.1 c3200
            refine lv_iconst (v := (0 : Int32)) hx hb dL_law_3203 (by decide) ?_
            exact hf.elim
  · replace hf := hf.2 c3162
    refine lv_iconst (v := (0 : Int32)) hx hb dL_law_3165 (by decide) ?_
    exact hf.elim
set_option maxHeartbeats 4000000 in
set_option maxRecDepth 100000 in
theorem lc_43 {D : va_G} {dA : Nat → ClassId} {base t0 : Nat} {l : Launch} {p : Program} {e : Env} {R : Room} {s : State} {m : MethodId} {args : Array Value} {below : List Frame} {meth : Method} {c : Code} {Q : State → Prop} (X : zz_X D dA base t0 "SpringseatLaw" cL_law 9 (some .boolean) l p s m meth c) (hT : l.stackTraces = false) (hN : zz_N s) {b L : Nat} {xs : Nat → Int32} (hX : va_X b L xs s s.heap) (hbl : b < s.heap.size) (hbA : ¬ base ≤ b) (hRf : 13 ≤ R.frames) (hRl : 482 ≤ R.locals) {cs ss : Nat} (hc : cs + 20 ≤ R.cells) (hs : ss + 253 ≤ R.slots) {ax am ao ad : Nat} {i x1 x2 x3 x4 : Int32} (hi1 : vp_in (i + 1) L) (hi2 : vp_in (i + 2) L) (hi3 : vp_in (i + 3) L) (hi4 : vp_in (i + 4) L) (hq1 : xs (i + 1).toNatClampNeg = x1) (hq2 : xs (i + 2).toNatClampNeg = x2) (hq3 : xs (i + 3).toNatClampNeg = x3) (hq4 : xs (i + 4).toNatClampNeg = x4) {K : zz_H → Nat → Prop} (hK : ∀ h n, K h n → ∀ {H : Heap} {locs : List Loc} {ls : Array Slot}, zz_R D dA base h n s H locs → lv_has ls 9 [(5, .int i), (4, .ref ad), (3, .ref ao), (2, .ref am), (1, .ref ax), (0, .ref b)] → W p l e R s m args below meth c H locs (cs + 20) (ss + 253) Q (F0 m 3298 ls [])) {h : zz_H} {n : Nat} {H : Heap} {locs : List Loc} {ls : Array Slot} (hR : zz_R D dA base h n s H locs) (hl : lv_has ls 9 [(5, .int i), (4, .ref ad), (3, .ref ao), (2, .ref am), (1, .ref ax), (0, .ref b)]) (hf : w_43 t0 ax am ao ad x1 x2 x3 x4 h n K) : W p l e R s m args below meth c H locs cs ss Q (F0 m 3208 ls []) := by
  have hx := X.1
  have hb := X.2.1
  have hown := X.2.2.2.2.1
  unfold w_43 at hf
  refine lv_aload_n hx hb dL_law_3208 rfl (lv_at hl 4 rfl) ?_
  refine lv_aload_n hx hb dL_law_3209 rfl (lv_at hl 5 rfl) ?_
  refine lv_iload hx hb dL_law_3210 (lv_at hl 0 rfl) ?_
  refine lv_iconst (v := (1 : Int32)) hx hb dL_law_3212 (by decide) ?_
  refine lv_iadd hx hb dL_law_3213 ?_
  refine zl_ld hx hb hX hbl hbA hR.2 hi1 hq1 dL_law_3214 ?_
  refine lv_aload hx hb dL_law_3215 (lv_at hl 1 rfl) ?_
  obtain ⟨v3217, h3217, m3217, hv3217, hf⟩ := hf
  refine zl_cS X hN hR hl.1 (As := [.ref ax, .int x1, .ref ad]) (rest := []) (mt_L_meanTop hT ax x1 ad h n hv3217) mf_L_meanTop.1 mf_L_meanTop.2.1 mf_L_meanTop.2.2 q_1231 q_1232 ⟨Nat.le_trans (Nat.le_of_ble_eq_true rfl) hRf, Nat.le_trans (Nat.le_of_ble_eq_true rfl) hRl⟩ ⟨Nat.le_trans (Nat.add_le_add_left (Nat.le_of_ble_eq_true rfl) cs) hc, Nat.le_trans (Nat.add_le_add_left (Nat.le_of_ble_eq_true rfl) ss) hs⟩ rfl (Nat.le_of_ble_eq_true rfl) dL_law_3217 (fun n3217 H locs hn3217 hR => ?_)
  replace hf := hf n3217 hn3217
  refine W.eq (g2 := F0 m 3220 ls [.int v3217]) rfl ?_
  refine W.widen (k := cs + 20) (n := ss + 253) (Nat.add_le_add_left (Nat.le_of_ble_eq_true rfl) cs) (Nat.add_le_add_left (Nat.le_of_ble_eq_true rfl) ss) ?_
  refine lv_istore (i := 6) (lv' := [(6, .int v3217), (5, .int i), (4, .ref ad), (3, .ref ao), (2, .ref am), (1, .ref ax), (0, .ref b)]) hx hb dL_law_3220 hl (by decide) rfl (fun ls hl => ?_)
  refine lv_aload_n hx hb dL_law_3222 rfl (lv_at hl 4 rfl) ?_
  refine lv_aload_n hx hb dL_law_3223 rfl (lv_at hl 6 rfl) ?_
  refine lv_iload hx hb dL_law_3224 (lv_at hl 1 rfl) ?_
  refine lv_iconst (v := (1 : Int32)) hx hb dL_law_3226 (by decide) ?_
  refine lv_iadd hx hb dL_law_3227 ?_
  refine zl_ld hx hb hX hbl hbA hR.2 hi1 hq1 dL_law_3228 ?_
  obtain ⟨⟨fs3229, ho3229⟩, hf⟩ := hf
  obtain ⟨v3229, h3229, hv3229, hf⟩ := hf
  refine zr_cV X hR hl.1 (As := [.int x1]) (rest := []) (C := RX10) (T := TX10) (N := 34) (mt_X10_meanTop hT am x1 h3217 n3217 hv3229) rfl ho3229 mf_X10_meanTop q_1654 q_1655 q_1656 ⟨Nat.le_trans (Nat.le_of_ble_eq_true rfl) hRf, Nat.le_trans (Nat.le_of_ble_eq_true rfl) hRl⟩ ⟨hc, hs⟩ rfl (Nat.le_of_ble_eq_true rfl) dL_law_3229 (fun H locs hR => ?_)
  refine W.eq (g2 := F0 m 3232 ls [.double v3229]) rfl ?_
  refine W.widen (k := cs + 20) (n := ss + 253) (Nat.le_refl _) (Nat.le_refl _) ?_
  refine lv_dstore (i := 7) (lv' := [(7, .double v3229), (6, .int v3217), (5, .int i), (4, .ref ad), (3, .ref ao), (2, .ref am), (1, .ref ax), (0, .ref b)]) hx hb dL_law_3232 hl (by decide) rfl (fun ls hl => ?_)
  refine lv_aload_n hx hb dL_law_3234 rfl (lv_at hl 5 rfl) ?_
  obtain ⟨⟨fs3235, ho3235⟩, hf⟩ := hf
  obtain ⟨v3235, hv3235, hf⟩ := hf
  refine zr_cV X hR hl.1 (As := []) (rest := []) (C := RX10) (T := TX10) (N := 34) (mt_X10_thrown hT am h3229 n3217 hv3235) rfl ho3235 mf_X10_thrown q_1359 q_1360 q_1361 ⟨Nat.le_trans (Nat.le_of_ble_eq_true rfl) hRf, Nat.le_trans (Nat.le_of_ble_eq_true rfl) hRl⟩ ⟨hc, hs⟩ rfl (Nat.le_of_ble_eq_true rfl) dL_law_3235 (fun H locs hR => ?_)
  refine W.eq (g2 := F0 m 3238 ls [.int v3235]) rfl ?_
  refine W.widen (k := cs + 20) (n := ss + 253) (Nat.le_refl _) (Nat.le_refl _) ?_
  refine lv_iload hx hb dL_law_3238 (lv_at hl 1 rfl) ?_
  refine lv_icmp_eq (tgt := 3245) hx hb dL_law_3240 (by decide) (fun c3240 => ?_) (fun c3240 => ?_)
  · replace hf := hf.1 c3240
    refine lv_iload hx hb dL_law_3245 (lv_at hl 1 rfl) ?_
    refine lv_if_ne (tgt := 3282) hx hb dL_law_3247 (by decide) (fun c3247 => ?_) (fun c3247 => ?_)
    · replace hf := hf.2 c3247
      refine lv_goto (tgt := 3298) hx hb dL_law_3282 (by decide) ?_
      exact hK _ _ hf hR (lv_sub hl [2, 3, 4, 5, 6, 7] rfl)
    · replace hf := hf.1 c3247
      refine lv_aload hx hb dL_law_3250 (lv_at hl 3 rfl) ?_
      refine lv_iconst (v := (0 : Int32)) hx hb dL_law_3252 (by decide) ?_
      obtain ⟨v3253, hv3253, hf⟩ := hf
      refine zr_dald X hR (r := some ad) dL_law_3253 hv3253 (fun vv hvv => ?_)
      cases hvv
      refine lv_dload hx hb dL_law_3254 (lv_at hl 0 rfl) ?_
      refine lv_dcmp hx hb dL_law_3256 ?_
      refine lv_if_eq (tgt := 3282) hx hb dL_law_3257 (by decide) (fun c3257 => ?_) (fun c3257 => ?_)
      · replace hf := hf.1 c3257
        refine lv_goto (tgt := 3298) hx hb dL_law_3282 (by decide) ?_
        exact hK _ _ hf hR (lv_sub hl [2, 3, 4, 5, 6, 7] rfl)
      · replace hf := hf.2 c3257
        refine lv_aload hx hb dL_law_3260 (lv_at hl 3 rfl) ?_
        refine lv_iconst (v := (0 : Int32)) hx hb dL_law_3262 (by decide) ?_
        obtain ⟨v3263, hv3263, hf⟩ := hf
        refine zr_dald X hR (r := some ad) dL_law_3263 hv3263 (fun vv hvv => ?_)
        cases hvv
        refine lv_aload hx hb dL_law_3264 (lv_at hl 3 rfl) ?_
        refine lv_iconst (v := (0 : Int32)) hx hb dL_law_3266 (by decide) ?_
        obtain ⟨v3267, hv3267, hf⟩ := hf
        refine zr_dald X hR (r := some ad) dL_law_3267 hv3267 (fun vv hvv => ?_)
        cases hvv
        refine lv_dcmp hx hb dL_law_3268 ?_
        refine lv_if_eq (tgt := 3280) hx hb dL_law_3269 (by decide) (fun c3269 => ?_) (fun c3269 => ?_)
        · replace hf := hf.1 c3269
          refine lv_iconst (v := (0 : Int32)) hx hb dL_law_3280 (by decide) ?_
          exact hf.elim
        · replace hf := hf.2 c3269
          refine lv_dload hx hb dL_law_3272 (lv_at hl 0 rfl) ?_
          refine lv_dload hx hb dL_law_3274 (lv_at hl 0 rfl) ?_
          refine lv_dcmp hx hb dL_law_3276 ?_
          refine lv_if_ne (tgt := 3282) hx hb dL_law_3277 (by decide) (fun c3277 => ?_) (fun c3277 => ?_)
          · replace hf := hf.2 c3277
            refine lv_goto (tgt := 3298) hx hb dL_law_3282 (by decide) ?_
            exact hK _ _ hf hR (lv_sub hl [2, 3, 4, 5, 6, 7] rfl)
          · replace hf := hf.1 c3277
            refine lv_iconst (v := (0 : Int32)) hx hb dL_law_3280 (by decide) ?_
            exact hf.elim
  · replace hf := hf.2 c3240
    refine lv_iconst (v := (0 : Int32)) hx hb dL_law_3243 (by decide) ?_
    exact hf.elim
set_option maxHeartbeats 4000000 in
set_option maxRecDepth 100000 in
theorem lc_44 {D : va_G} {dA : Nat → ClassId} {base t0 : Nat} {l : Launch} {p : Program} {e : Env} {R : Room} {s : State} {m : MethodId} {args : Array Value} {below : List Frame} {meth : Method} {c : Code} {Q : State → Prop} (X : zz_X D dA base t0 "SpringseatLaw" cL_law 9 (some .boolean) l p s m meth c) (hT : l.stackTraces = false) (hN : zz_N s) {b L : Nat} {xs : Nat → Int32} (hX : va_X b L xs s s.heap) (hbl : b < s.heap.size) (hbA : ¬ base ≤ b) (hRf : 13 ≤ R.frames) (hRl : 482 ≤ R.locals) {cs ss : Nat} (hc : cs + 20 ≤ R.cells) (hs : ss + 253 ≤ R.slots) {ax am ao ad : Nat} {i x1 x2 x3 x4 : Int32} (hi1 : vp_in (i + 1) L) (hi2 : vp_in (i + 2) L) (hi3 : vp_in (i + 3) L) (hi4 : vp_in (i + 4) L) (hq1 : xs (i + 1).toNatClampNeg = x1) (hq2 : xs (i + 2).toNatClampNeg = x2) (hq3 : xs (i + 3).toNatClampNeg = x3) (hq4 : xs (i + 4).toNatClampNeg = x4) {K : zz_H → Nat → Prop} (hK : ∀ h n, K h n → ∀ {H : Heap} {locs : List Loc} {ls : Array Slot}, zz_R D dA base h n s H locs → lv_has ls 9 [(5, .int i), (4, .ref ad), (3, .ref ao), (2, .ref am), (1, .ref ax), (0, .ref b)] → W p l e R s m args below meth c H locs (cs + 20) (ss + 253) Q (F0 m 3298 ls [])) {h : zz_H} {n : Nat} {H : Heap} {locs : List Loc} {ls : Array Slot} (hR : zz_R D dA base h n s H locs) (hl : lv_has ls 9 [(5, .int i), (4, .ref ad), (3, .ref ao), (2, .ref am), (1, .ref ax), (0, .ref b)]) (hf : w_44 t0 ax am ao ad x1 x2 x3 x4 h n K) : W p l e R s m args below meth c H locs cs ss Q (F0 m 3285 ls []) := by
  have hx := X.1
  have hb := X.2.1
  have hown := X.2.2.2.2.1
  unfold w_44 at hf
  refine lv_aload_n hx hb dL_law_3285 rfl (lv_at hl 4 rfl) ?_
  obtain ⟨⟨fs3286, ho3286⟩, hf⟩ := hf
  obtain ⟨v3286, h3286, hv3286, hf⟩ := hf
  refine zr_cV X hR hl.1 (As := []) (rest := []) (C := RX9) (T := TX9) (N := 6) (mt_X9_isSound hT ax h n hv3286) rfl ho3286 mf_X9_isSound q_230 q_231 q_232 ⟨Nat.le_trans (Nat.le_of_ble_eq_true rfl) hRf, Nat.le_trans (Nat.le_of_ble_eq_true rfl) hRl⟩ ⟨Nat.le_trans (Nat.le_add_right cs 20) hc, Nat.le_trans (Nat.le_add_right ss 253) hs⟩ rfl (Nat.le_of_ble_eq_true rfl) dL_law_3286 (fun H locs hR => ?_)
  refine W.eq (g2 := F0 m 3289 ls [.int v3286]) rfl ?_
  refine W.widen (k := cs) (n := ss) (Nat.le_refl _) (Nat.le_refl _) ?_
  refine lv_aload_n hx hb dL_law_3289 rfl (lv_at hl 3 rfl) ?_
  obtain ⟨⟨fs3290, ho3290⟩, hf⟩ := hf
  obtain ⟨v3290, h3290, hv3290, hf⟩ := hf
  refine zr_cV X hR hl.1 (As := []) (rest := [.int v3286]) (C := RX10) (T := TX10) (N := 34) (mt_X10_isSound hT am h3286 n hv3290) rfl ho3290 mf_X10_isSound q_1658 q_1659 q_1660 ⟨Nat.le_trans (Nat.le_of_ble_eq_true rfl) hRf, Nat.le_trans (Nat.le_of_ble_eq_true rfl) hRl⟩ ⟨Nat.le_trans (Nat.le_add_right cs 20) hc, Nat.le_trans (Nat.le_add_right ss 253) hs⟩ rfl (Nat.le_of_ble_eq_true rfl) dL_law_3290 (fun H locs hR => ?_)
  refine W.eq (g2 := F0 m 3293 ls [.int v3290, .int v3286]) rfl ?_
  refine W.widen (k := cs) (n := ss) (Nat.le_refl _) (Nat.le_refl _) ?_
  refine lv_icmp_eq (tgt := 3298) hx hb dL_law_3293 (by decide) (fun c3293 => ?_) (fun c3293 => ?_)
  · replace hf := hf.1 c3293
    refine W.widen (k := cs + 20) (n := ss + 253) (Nat.le_add_right cs 20) (Nat.le_add_right ss 253) ?_
    exact hK _ _ hf hR (lv_sub hl [0, 1, 2, 3, 4, 5] rfl)
  · replace hf := hf.2 c3293
    refine lv_iconst (v := (0 : Int32)) hx hb dL_law_3296 (by decide) ?_
    exact hf.elim
end ZZT
