section ZZT
def w_0 (t0 : Nat) (x0 : Nat) (h : zz_H) (n : Nat) (K_210 : Nat → Nat → Int32 → Int32 → Int32 → Nat → Nat → Nat → Int32 → zz_H → Nat → Prop) : Prop := ∃ h4 n4, f_X9_init t0 n (zz_u h n (.inr (10, [.null, .null, .null, .null, .null, .null]))) (n + 1) = some ((), h4, n4) ∧ (zp (f_L_in x0 (0 : Int32) (4 : Int32) h4) fun v12 => zp (f_L_in x0 (1 : Int32) (4 : Int32) h4) fun v21 => zl_w (f_L_seat t0 n (7 : Int32) (1 : Int32) h4 n4) fun v30 h30 n30 => v30 = (-900001 : Int32) ∧ (zl_w (f_L_seat t0 n ((1 : Int32) + v12) ((1 : Int32) + v21) h30 n30) fun v41 h41 n41 => v41 = (0 : Int32) ∧ (zl_w (f_L_stands t0 n (0 : Int32) (0 : Int32) h41 n41) fun v50 h50 n50 => v50 = (0 : Int32) ∧ (zl_w (f_L_stands t0 n (0 : Int32) (((1 : Int32) + v12) * (10 : Int32)) h50 n50) fun v62 h62 n62 => v62 = (-900001 : Int32) ∧ (zl_w (f_L_sign t0 n (0 : Int32) h62 n62) fun v72 h72 n72 => v72 = (-900002 : Int32) ∧ (zl_w (f_L_spring t0 n (0 : Int32) (50 : Int32) (5 : Int32) h72 n72) fun v85 h85 n85 => v85 = (-900003 : Int32) ∧ (zl_w (f_L_quote t0 n (0 : Int32) h85 n85) fun v95 h95 n95 => v95 = (0 : Int32) ∧ (zp (f_L_in x0 (2 : Int32) (80 : Int32) h95) fun v114 => zl_w (f_L_web t0 n (0 : Int32) (10 : Int32) h95 n95) fun v126 h126 n126 => v126 = (-900002 : Int32) ∧ (zp (f_L_in x0 (3 : Int32) (9 : Int32) h126) fun v142 => zl_w (f_L_web t0 n (0 : Int32) ((1 : Int32) + v142) h126 n126) fun v146 h146 n146 => zl_w (f_L_isDone t0 n v146 (0 : Int32) h146 n146) fun v150 h150 n150 => ¬ v150 = (0 : Int32) ∧ (zl_w (f_L_spring t0 n (0 : Int32) (19 : Int32) (5 : Int32) h150 n150) fun v161 h161 n161 => v161 = (-900002 : Int32) ∧ (zl_w (f_L_spring t0 n (0 : Int32) ((20 : Int32) + v114) (5 : Int32) h161 n161) fun v174 h174 n174 => v174 = (1 : Int32) ∧ (znw ((1 : Int32) + v12) fun N191 => znw ((1 : Int32) + v21) fun M191 => znw ((1 : Int32) + v12) fun N198 => znw ((1 : Int32) + v21) fun N203 => K_210 x0 n ((1 : Int32) + v12) ((1 : Int32) + v21) ((20 : Int32) + v114) n174 (n174 + 1 + N191) ((n174 + 1 + N191) + 1) (0 : Int32) (zz_u (zz_u (zz_M2 h174 n174 6 N191 0 (M191, .inl (fun _ => 0))) (n174 + 1 + N191) (.inl (0, (N198, .inl (fun _ => 0))))) ((n174 + 1 + N191) + 1) (.inl (0, (N203, .inl (fun _ => 0))))) (((n174 + 1 + N191) + 1) + 1)))))))))))))
def w_210 (t0 : Nat) (x0 : Nat) (x1 : Nat) (x2 : Int32) (x3 : Int32) (x5 : Int32) (x6 : Nat) (x7 : Nat) (x8 : Nat) (x9 : Int32) (h : zz_H) (n : Nat) (K_226 : Nat → Nat → Int32 → Int32 → Int32 → Nat → Nat → Nat → Int32 → Int32 → zz_H → Nat → Prop) (K_360 : Nat → Nat → Int32 → Int32 → Nat → Nat → Nat → zz_H → Nat → Prop) : Prop := (x2 ≤ x9 → (K_360 x0 x1 x2 x3 x6 x7 x8 h n)) ∧ (¬ x2 ≤ x9 → (zp (zz_si 0 h (some x7) x9 (99 : Int32) some) fun h222 => K_226 x0 x1 x2 x3 x5 x6 x7 x8 x9 (0 : Int32) h222 n))
def w_226 (t0 : Nat) (x0 : Nat) (x1 : Nat) (x2 : Int32) (x3 : Int32) (x5 : Int32) (x6 : Nat) (x7 : Nat) (x8 : Nat) (x9 : Int32) (x10 : Int32) (h : zz_H) (n : Nat) (K_210 : Nat → Nat → Int32 → Int32 → Int32 → Nat → Nat → Nat → Int32 → zz_H → Nat → Prop) (K_226 : Nat → Nat → Int32 → Int32 → Int32 → Nat → Nat → Nat → Int32 → Int32 → zz_H → Nat → Prop) : Prop := (x3 ≤ x10 → (K_210 x0 x1 x2 x3 x5 x6 x7 x8 (x9 + (1 : Int32)) h n)) ∧ (¬ x3 ≤ x10 → (zp (zz_si 0 h (some x8) x10 (99 : Int32) some) fun h238 => zp (zz_aq 6 h238 (some x6) x9 some) fun v243 => zp (zz_si 0 h238 v243 x10 x5 some) fun h248 => zp (f_L_in x0 (((10 : Int32) + ((4 : Int32) * x9)) + x10) (2 : Int32) h248) fun v261 => (v261 = (0 : Int32) → (zp (zz_aq 6 h248 (some x6) x9 some) fun v271 => zp (f_L_in x0 (((30 : Int32) + ((4 : Int32) * x9)) + x10) (80 : Int32) h248) fun v289 => zp (zz_si 0 h248 v271 x10 ((20 : Int32) + v289) some) fun h293 => zp (zz_aq 6 h293 (some x6) x9 some) fun v310 => zp (zz_ai 0 h293 v310 x10 some) fun v313 => zp (f_L_in x0 (((50 : Int32) + ((4 : Int32) * x9)) + x10) (9 : Int32) h293) fun v328 => zl_w (f_L_change t0 x1 (0 : Int32) (((10 : Int32) * x9) + x10) v313 ((1 : Int32) + v328) h293 n) fun v332 h332 n332 => v332 = x5 ∧ (K_226 x0 x1 x2 x3 x5 x6 x7 x8 x9 (x10 + (1 : Int32)) h332 n332))) ∧ (¬ v261 = (0 : Int32) → (K_226 x0 x1 x2 x3 x5 x6 x7 x8 x9 (x10 + (1 : Int32)) h248 n))))
def w_360 (t0 : Nat) (x0 : Nat) (x1 : Nat) (x2 : Int32) (x3 : Int32) (x6 : Nat) (x7 : Nat) (x8 : Nat) (h : zz_H) (n : Nat) (K_446 : Nat → Nat → Int32 → Int32 → Nat → Nat → Nat → Int32 → Int32 → zz_H → Nat → Prop) (K_836 : Nat → Nat → Int32 → Int32 → Nat → Nat → Nat → Int32 → Int32 → zz_H → Nat → Prop) : Prop := zl_w (f_L_sign t0 x1 (0 : Int32) h n) fun v364 h364 n364 => v364 = (2 : Int32) ∧ (zl_w (f_L_change t0 x1 (0 : Int32) (0 : Int32) (50 : Int32) (5 : Int32) h364 n364) fun v377 h377 n377 => v377 = (-900003 : Int32) ∧ (∃ w403_11 : Int32, f_L_law_403 x0 x1 x2 x3 x6 x7 x8 (((5 : Int32) * x2) * x3) (2 : Int32) h377 = some (.inl w403_11) ∧ ((w403_11 = (0 : Int32) → (K_836 x0 x1 x2 x3 x6 x7 x8 (((5 : Int32) * x2) * x3) (2 : Int32) h377 n377)) ∧ (¬ w403_11 = (0 : Int32) → (zl_w (f_L_tie t0 x1 (0 : Int32) h377 n377) fun v428 h428 n428 => v428 = (2 : Int32) ∧ (K_446 x0 x1 x2 x3 x6 x7 x8 (((5 : Int32) * x2) * x3) (0 : Int32) h428 n428))))))
def w_446 (t0 : Nat) (x0 : Nat) (x1 : Nat) (x2 : Int32) (x3 : Int32) (x6 : Nat) (x7 : Nat) (x8 : Nat) (x9 : Int32) (x12 : Int32) (h : zz_H) (n : Nat) (K_446 : Nat → Nat → Int32 → Int32 → Nat → Nat → Nat → Int32 → Int32 → zz_H → Nat → Prop) (K_786 : Nat → Nat → Int32 → Int32 → Nat → Nat → Nat → Int32 → zz_H → Nat → Prop) : Prop := ((4 : Int32) ≤ x12 → (K_786 x0 x1 x2 x3 x6 x7 x8 x9 h n)) ∧ (¬ (4 : Int32) ≤ x12 → (∃ w452_13 w452_14 w452_15 w452_16 : Int32, f_L_law_452 x0 x1 x2 x3 x6 x7 x8 x9 x12 h = some (.inl (w452_13, w452_14, w452_15, w452_16)) ∧ (∀ w691 : Int32, w691 = (if w452_13 = (0 : Int32) then (0 : Int32) else w452_14) → (zp (zz_ai 0 h (some x7) (0 : Int32) some) fun v713 => ∀ w702 : Int32, w702 = (if w452_13 = (0 : Int32) then v713 else w452_15) → (zp (zz_si 0 h (some x7) w691 w702 some) fun h714 => ∀ w719 : Int32, w719 = (if w452_13 = (0 : Int32) then w452_14 else (0 : Int32)) → (zp (zz_ai 0 h714 (some x8) (0 : Int32) some) fun v736 => ∀ w730 : Int32, w730 = (if w452_13 = (0 : Int32) then w452_15 else v736) → (zp (zz_si 0 h714 (some x8) w719 w730 some) fun h742 => zl_w (f_L_pull t0 x1 (0 : Int32) w452_13 w452_14 w452_15 h742 n) fun v753 h753 n753 => ∀ w758 : Int32, w758 = (if (0 : Int32) ≤ w452_16 then w452_16 else (-w452_16)) → (v753 = w758 ∧ (K_446 x0 x1 x2 x3 x6 x7 x8 x9 (x12 + (1 : Int32)) h753 n753)))))))))
def w_786 (t0 : Nat) (x0 : Nat) (x1 : Nat) (x2 : Int32) (x3 : Int32) (x6 : Nat) (x7 : Nat) (x8 : Nat) (x9 : Int32) (h : zz_H) (n : Nat) (K_836 : Nat → Nat → Int32 → Int32 → Nat → Nat → Nat → Int32 → Int32 → zz_H → Nat → Prop) : Prop := zl_w (f_L_pull t0 x1 (0 : Int32) (1 : Int32) x2 (50 : Int32) h n) fun v794 h794 n794 => v794 = (-900001 : Int32) ∧ (zl_w (f_L_sign t0 x1 (0 : Int32) h794 n794) fun v804 h804 n804 => v804 = (3 : Int32) ∧ (zl_w (f_L_pull t0 x1 (0 : Int32) (1 : Int32) (0 : Int32) (50 : Int32) h804 n804) fun v817 h817 n817 => v817 = (-900003 : Int32) ∧ (K_836 x0 x1 x2 x3 x6 x7 x8 x9 (3 : Int32) h817 n817)))
def w_836 (t0 : Nat) (x0 : Nat) (x1 : Nat) (x2 : Int32) (x3 : Int32) (x6 : Nat) (x7 : Nat) (x8 : Nat) (x9 : Int32) (x10 : Int32) (h : zz_H) (n : Nat) (K_969 : Nat → Nat → Int32 → Int32 → Nat → Nat → Nat → Int32 → Int32 → Int32 → Nat → Nat → Nat → Int32 → zz_H → Nat → Prop) : Prop := ∃ w836_9 : Int32, f_L_law_836 x0 x1 x2 x3 x6 x7 x8 x9 x10 h = some (.inl w836_9) ∧ (zp (f_L_in x0 (5 : Int32) (4 : Int32) h) fun v910 => znw ((1 : Int32) + v910) fun N918 => znw ((1 : Int32) + v910) fun N924 => znw ((1 : Int32) + v910) fun N930 => zl_w (f_L_cover t0 x1 (0 : Int32) (0 : Int32) (0 : Int32) (zz_u (zz_u (zz_u h n (.inl (1, (N918, .inl (fun _ => 0))))) (n + 1) (.inl (0, (N924, .inl (fun _ => 0))))) ((n + 1) + 1) (.inl (0, (N930, .inl (fun _ => 0))))) (((n + 1) + 1) + 1)) fun v940 h940 n940 => v940 = (-900001 : Int32) ∧ (zl_w (f_L_buttons t0 x1 (0 : Int32) h940 n940) fun v950 h950 n950 => v950 = (-900002 : Int32) ∧ (K_969 x0 x1 x2 x3 x6 x7 x8 w836_9 x10 ((1 : Int32) + v910) n (n + 1) ((n + 1) + 1) (0 : Int32) h950 n950)))
def w_969 (t0 : Nat) (x0 : Nat) (x1 : Nat) (x2 : Int32) (x3 : Int32) (x6 : Nat) (x7 : Nat) (x8 : Nat) (x9 : Int32) (x10 : Int32) (x12 : Int32) (x13 : Nat) (x14 : Nat) (x15 : Nat) (x16 : Int32) (h : zz_H) (n : Nat) (K_969 : Nat → Nat → Int32 → Int32 → Nat → Nat → Nat → Int32 → Int32 → Int32 → Nat → Nat → Nat → Int32 → zz_H → Nat → Prop) (K_1130 : Nat → Nat → Int32 → Int32 → Nat → Nat → Nat → Int32 → Int32 → Int32 → Nat → Nat → Nat → zz_H → Nat → Prop) : Prop := (x12 ≤ x16 → (K_1130 x0 x1 x2 x3 x6 x7 x8 x9 x10 x12 x13 x14 x15 h n)) ∧ (¬ x12 ≤ x16 → (zp (f_L_in x0 ((90 : Int32) + x16) (3 : Int32) h) fun v983 => ∀ w994 : Int32, w994 = (if v983 = (0 : Int32) then (104 : Int32) else (if v983 = (1 : Int32) then (102 : Int32) else (100 : Int32))) → (zp (zz_si 1 h (some x13) x16 (vp_nar .char w994) some) fun h1015 => zp (f_L_in x0 ((94 : Int32) + x16) (56 : Int32) h1015) fun v1029 => zp (zz_si 0 h1015 (some x14) x16 ((5 : Int32) + v1029) some) fun h1033 => zp (f_L_in x0 ((98 : Int32) + x16) (9 : Int32) h1033) fun v1047 => zp (zz_si 0 h1033 (some x15) x16 ((1 : Int32) + v1047) some) fun h1051 => zp (zz_ai 0 h1051 (some x14) x16 some) fun v1058 => zp (zz_ai 1 h1051 (some x13) x16 some) fun v1076 => zp (zz_ai 0 h1051 (some x14) x16 some) fun v1081 => zp (zz_ai 0 h1051 (some x15) x16 some) fun v1086 => zl_w (f_L_layer t0 x1 (0 : Int32) v1076 v1081 v1086 h1051 n) fun v1087 h1087 n1087 => zl_w (f_L_isDone t0 x1 v1087 x10 h1087 n1087) fun v1092 h1092 n1092 => ¬ v1092 = (0 : Int32) ∧ (zl_w (f_L_thick t0 x1 (0 : Int32) x16 h1092 n1092) fun v1102 h1102 n1102 => zp (zz_ai 0 h1102 (some x14) x16 some) fun v1109 => v1102 = v1109 ∧ (K_969 x0 x1 x2 x3 x6 x7 x8 (x9 + (v1058 * ((3 : Int32) - v983))) (x10 + (1 : Int32)) x12 x13 x14 x15 (x16 + (1 : Int32)) h1102 n1102)))))
def w_1130 (t0 : Nat) (x0 : Nat) (x1 : Nat) (x2 : Int32) (x3 : Int32) (x6 : Nat) (x7 : Nat) (x8 : Nat) (x9 : Int32) (x10 : Int32) (x12 : Int32) (x13 : Nat) (x14 : Nat) (x15 : Nat) (h : zz_H) (n : Nat) (K_1196 : Nat → Nat → Int32 → Int32 → Nat → Nat → Nat → Int32 → Int32 → Int32 → Nat → Nat → Nat → Nat → Int32 → Int32 → zz_H → Nat → Prop) : Prop := zl_w (f_L_thick t0 x1 (0 : Int32) x12 h n) fun v1136 h1136 n1136 => v1136 = (-900002 : Int32) ∧ ((x12 < (4 : Int32) → (zl_w (f_L_buttons t0 x1 (0 : Int32) h1136 n1136) fun v1166 h1166 n1166 => v1166 = x10 ∧ (znw x2 fun N1184 => znw x3 fun M1184 => K_1196 x0 x1 x2 x3 x6 x7 x8 x9 x10 x12 x13 x14 x15 n1166 (0 : Int32) (0 : Int32) (zz_M2 h1166 n1166 6 N1184 0 (M1184, .inl (fun _ => 0))) (n1166 + 1 + N1184)))) ∧ (¬ x12 < (4 : Int32) → (zl_w (f_L_layer t0 x1 (0 : Int32) (104 : Int32) (5 : Int32) (1 : Int32) h1136 n1136) fun v1156 h1156 n1156 => v1156 = (-900003 : Int32) ∧ (zl_w (f_L_buttons t0 x1 (0 : Int32) h1156 n1156) fun v1166 h1166 n1166 => v1166 = x10 ∧ (znw x2 fun N1184 => znw x3 fun M1184 => K_1196 x0 x1 x2 x3 x6 x7 x8 x9 x10 x12 x13 x14 x15 n1166 (0 : Int32) (0 : Int32) (zz_M2 h1166 n1166 6 N1184 0 (M1184, .inl (fun _ => 0))) (n1166 + 1 + N1184))))))
def w_1196 (t0 : Nat) (x0 : Nat) (x1 : Nat) (x2 : Int32) (x3 : Int32) (x6 : Nat) (x7 : Nat) (x8 : Nat) (x9 : Int32) (x10 : Int32) (x12 : Int32) (x13 : Nat) (x14 : Nat) (x15 : Nat) (x16 : Nat) (x17 : Int32) (x18 : Int32) (h : zz_H) (n : Nat) (K_1196 : Nat → Nat → Int32 → Int32 → Nat → Nat → Nat → Int32 → Int32 → Int32 → Nat → Nat → Nat → Nat → Int32 → Int32 → zz_H → Nat → Prop) (K_1311 : Nat → Nat → Int32 → Int32 → Nat → Nat → Nat → Int32 → Int32 → Int32 → Nat → Nat → Nat → Nat → Int32 → zz_H → Nat → Prop) : Prop := ((6 : Int32) ≤ x18 → (K_1311 x0 x1 x2 x3 x6 x7 x8 x9 x10 x12 x13 x14 x15 x16 x17 h n)) ∧ (¬ (6 : Int32) ≤ x18 → (zp (f_L_in x0 ((102 : Int32) + x18) x2 h) fun v1210 => zp (f_L_in x0 ((108 : Int32) + x18) x3 h) fun v1222 => zp (zz_aq 6 h (some x16) v1210 some) fun v1233 => zp (zz_ai 0 h v1233 v1222 some) fun v1236 => ∀ w1237 : Int32, w1237 = (if v1236 = (0 : Int32) then (1 : Int32) else (0 : Int32)) → (zp (zz_aq 6 h (some x16) v1210 some) fun v1252 => zp (f_L_in x0 ((114 : Int32) + x18) (30 : Int32) h) fun v1264 => zp (zz_si 0 h v1252 v1222 ((1 : Int32) + v1264) some) fun h1268 => zp (zz_aq 6 h1268 (some x16) v1210 some) fun v1285 => zp (zz_ai 0 h1268 v1285 v1222 some) fun v1288 => zl_w (f_L_draw t0 x1 (0 : Int32) (((10 : Int32) * v1210) + v1222) v1288 h1268 n) fun v1289 h1289 n1289 => v1289 = (x17 + w1237) ∧ (K_1196 x0 x1 x2 x3 x6 x7 x8 x9 x10 x12 x13 x14 x15 x16 (x17 + w1237) (x18 + (1 : Int32)) h1289 n1289))))
def w_1311 (t0 : Nat) (x0 : Nat) (x1 : Nat) (x2 : Int32) (x3 : Int32) (x6 : Nat) (x7 : Nat) (x8 : Nat) (x9 : Int32) (x10 : Int32) (x12 : Int32) (x13 : Nat) (x14 : Nat) (x15 : Nat) (x16 : Nat) (x17 : Int32) (h : zz_H) (n : Nat) (K_1597 : Nat → Nat → Int32 → Int32 → Nat → Nat → Nat → Int32 → Int32 → Nat → Nat → Nat → Nat → Int32 → Int32 → Int32 → Int32 → zz_H → Nat → Prop) : Prop := ∃ w1320_18 w1320_19 : Int32, f_L_law_1320 x0 x1 x2 x3 x6 x7 x8 (x9 + ((4 : Int32) * x17)) x10 x12 x13 x14 x15 x16 h = some (.inl (w1320_18, w1320_19)) ∧ (zo h x1 10 (zpl (f_X9_folds x1 (0 : Int32) (0 : Int32) h) fun v1497 => v1497 = w1320_18 ∧ (zo h x1 10 (zpl (f_X9_folds x1 (0 : Int32) (1 : Int32) h) fun v1508 => v1508 = w1320_19 ∧ (zl_w (f_L_sign t0 x1 (0 : Int32) h n) fun v1518 h1518 n1518 => v1518 = (x10 + (1 : Int32)) ∧ (zl_w (f_L_quote t0 x1 (0 : Int32) h1518 n1518) fun v1530 h1530 n1530 => v1530 = (x9 + ((4 : Int32) * x17)) ∧ (zl_w (f_L_use t0 x1 (0 : Int32) (1 : Int32) h1530 n1530) fun v1541 h1541 n1541 => v1541 = (-900003 : Int32) ∧ (zl_w (f_L_hours t0 x1 (0 : Int32) h1541 n1541) fun v1551 h1551 n1551 => v1551 = (-900002 : Int32) ∧ (zl_w (f_L_cloth t0 x1 (2000 : Int32) (1 : Int32) h1551 n1551) fun v1564 h1564 n1564 => v1564 = (0 : Int32) ∧ (zp (f_L_in x0 (6 : Int32) (30 : Int32) h1564) fun v1589 => K_1597 x0 x1 x2 x3 x6 x7 x8 (x9 + ((4 : Int32) * x17)) x12 x13 x14 x15 x16 (0 : Int32) (0 : Int32) v1589 (0 : Int32) h1564 n1564))))))))))
def w_1597 (t0 : Nat) (x0 : Nat) (x1 : Nat) (x2 : Int32) (x3 : Int32) (x6 : Nat) (x7 : Nat) (x8 : Nat) (x9 : Int32) (x12 : Int32) (x13 : Nat) (x14 : Nat) (x15 : Nat) (x16 : Nat) (x20 : Int32) (x21 : Int32) (x22 : Int32) (x23 : Int32) (h : zz_H) (n : Nat) (K_1612 : Nat → Nat → Int32 → Int32 → Nat → Nat → Nat → Int32 → Int32 → Nat → Nat → Nat → Nat → Int32 → Int32 → Int32 → Int32 → Int32 → Int32 → Int32 → zz_H → Nat → Prop) (K_2277 : Nat → zz_H → Nat → Prop) : Prop := ((4 : Int32) ≤ x23 → (K_2277 x1 h n)) ∧ (¬ (4 : Int32) ≤ x23 → (K_1612 x0 x1 x2 x3 x6 x7 x8 x9 x12 x13 x14 x15 x16 x20 x21 x22 x23 (0 : Int32) (0 : Int32) (0 : Int32) h n))
def w_1612 (t0 : Nat) (x0 : Nat) (x1 : Nat) (x2 : Int32) (x3 : Int32) (x6 : Nat) (x7 : Nat) (x8 : Nat) (x9 : Int32) (x12 : Int32) (x13 : Nat) (x14 : Nat) (x15 : Nat) (x16 : Nat) (x20 : Int32) (x21 : Int32) (x22 : Int32) (x23 : Int32) (x24 : Int32) (x25 : Int32) (x26 : Int32) (h : zz_H) (n : Nat) (K_1621 : Nat → Nat → Int32 → Int32 → Nat → Nat → Nat → Int32 → Int32 → Nat → Nat → Nat → Nat → Int32 → Int32 → Int32 → Int32 → Int32 → Int32 → Int32 → Int32 → zz_H → Nat → Prop) (K_1831 : Nat → Nat → Int32 → Int32 → Nat → Nat → Nat → Int32 → Int32 → Nat → Nat → Nat → Nat → Int32 → Int32 → Int32 → Int32 → Int32 → Int32 → zz_H → Nat → Prop) : Prop := (x2 ≤ x26 → (K_1831 x0 x1 x2 x3 x6 x7 x8 x9 x12 x13 x14 x15 x16 x20 x21 x22 x23 x24 x25 h n)) ∧ (¬ x2 ≤ x26 → (K_1621 x0 x1 x2 x3 x6 x7 x8 x9 x12 x13 x14 x15 x16 x20 x21 x22 x23 x24 x25 x26 (0 : Int32) h n))
def w_1621 (t0 : Nat) (x0 : Nat) (x1 : Nat) (x2 : Int32) (x3 : Int32) (x6 : Nat) (x7 : Nat) (x8 : Nat) (x9 : Int32) (x12 : Int32) (x13 : Nat) (x14 : Nat) (x15 : Nat) (x16 : Nat) (x20 : Int32) (x21 : Int32) (x22 : Int32) (x23 : Int32) (x24 : Int32) (x25 : Int32) (x26 : Int32) (x27 : Int32) (h : zz_H) (n : Nat) (K_1612 : Nat → Nat → Int32 → Int32 → Nat → Nat → Nat → Int32 → Int32 → Nat → Nat → Nat → Nat → Int32 → Int32 → Int32 → Int32 → Int32 → Int32 → Int32 → zz_H → Nat → Prop) (K_1621 : Nat → Nat → Int32 → Int32 → Nat → Nat → Nat → Int32 → Int32 → Nat → Nat → Nat → Nat → Int32 → Int32 → Int32 → Int32 → Int32 → Int32 → Int32 → Int32 → zz_H → Nat → Prop) : Prop := (x3 ≤ x27 → (K_1612 x0 x1 x2 x3 x6 x7 x8 x9 x12 x13 x14 x15 x16 x20 x21 x22 x23 x24 x25 (x26 + (1 : Int32)) h n)) ∧ (¬ x3 ≤ x27 → (∃ w1627_28 w1627_29 : Int32, f_L_law_1627 x0 x1 x2 x3 x6 x7 x8 x9 x12 x13 x14 x15 x16 x20 x21 x22 x23 x24 x25 x26 x27 h = some (.inl (w1627_28, w1627_29)) ∧ (zl_w (f_L_stands t0 x1 (0 : Int32) (((10 : Int32) * x26) + x27) h n) fun v1762 h1762 n1762 => v1762 = w1627_28 ∧ (zl_w (f_L_top t0 x1 (0 : Int32) (((10 : Int32) * x26) + x27) h1762 n1762) fun v1780 h1780 n1780 => v1780 = w1627_29 ∧ (∃ w1796_24 w1796_25 : Int32, f_L_law_1796 x0 x1 x2 x3 x6 x7 x8 x9 x12 x13 x14 x15 x16 x20 x21 x22 x23 x24 x25 x26 x27 w1627_29 h1780 = some (.inl (w1796_24, w1796_25)) ∧ (K_1621 x0 x1 x2 x3 x6 x7 x8 x9 x12 x13 x14 x15 x16 x20 x21 x22 x23 w1796_24 w1796_25 x26 (x27 + (1 : Int32)) h1780 n1780))))))
def w_1831 (t0 : Nat) (x0 : Nat) (x1 : Nat) (x2 : Int32) (x3 : Int32) (x6 : Nat) (x7 : Nat) (x8 : Nat) (x9 : Int32) (x12 : Int32) (x13 : Nat) (x14 : Nat) (x15 : Nat) (x16 : Nat) (x20 : Int32) (x21 : Int32) (x22 : Int32) (x23 : Int32) (x24 : Int32) (x25 : Int32) (h : zz_H) (n : Nat) (K_1935 : Nat → Nat → Int32 → Int32 → Nat → Nat → Nat → Int32 → Int32 → Nat → Nat → Nat → Nat → Int32 → Int32 → Int32 → Int32 → Int32 → zz_H → Nat → Prop) : Prop := zo h x1 10 (zpl (f_X9_meanTop x1 (0 : Int32) h) fun v1835 => vf_n64 (FP.ddiv (FP.i2d x24) (FP.i2d (x2 * x3))) ∧ ((Op.cmpValue (FP.dcmp v1835 (FP.ddiv (FP.i2d x24) (FP.i2d (x2 * x3)))) CmpOp.l) = (0 : Int32) ∧ ((x23 = (0 : Int32) → (zl_w (f_L_cover t0 x1 (0 : Int32) (0 : Int32) (0 : Int32) h n) fun v1882 h1882 n1882 => v1882 = (x2 * (((10 : Int32) * x3) + x25)) ∧ (zl_w (f_L_promise t0 x1 (0 : Int32) x22 h1882 n1882) fun v1896 h1896 n1896 => v1896 = (20 : Int32) ∧ (zl_w (f_L_quote t0 x1 (0 : Int32) h1896 n1896) fun v1906 h1906 n1906 => v1906 = (x9 + (x2 * (((10 : Int32) * x3) + x25))) ∧ (zo h1906 x1 10 (zpl (f_X9_isClosed x1 (0 : Int32) h1906) fun v1921 => ¬ v1921 = (0 : Int32) ∧ (K_1935 x0 x1 x2 x3 x6 x7 x8 x9 x12 x13 x14 x15 x16 x20 x24 x22 x23 x24 h1906 n1906))))))) ∧ (¬ x23 = (0 : Int32) → (K_1935 x0 x1 x2 x3 x6 x7 x8 x9 x12 x13 x14 x15 x16 x20 x21 x22 x23 x24 h n)))))
def w_1935 (t0 : Nat) (x0 : Nat) (x1 : Nat) (x2 : Int32) (x3 : Int32) (x6 : Nat) (x7 : Nat) (x8 : Nat) (x9 : Int32) (x12 : Int32) (x13 : Nat) (x14 : Nat) (x15 : Nat) (x16 : Nat) (x20 : Int32) (x21 : Int32) (x22 : Int32) (x23 : Int32) (x24 : Int32) (h : zz_H) (n : Nat) (K_1597 : Nat → Nat → Int32 → Int32 → Nat → Nat → Nat → Int32 → Int32 → Nat → Nat → Nat → Nat → Int32 → Int32 → Int32 → Int32 → zz_H → Nat → Prop) : Prop := zo h x1 10 (zpl (f_X9_holds x1 (0 : Int32) h) fun v1939 => ∀ w1955 : Int32, w1955 = (if ((x21 * x22) / (100 : Int32)) < (x21 - x24) then (0 : Int32) else (1 : Int32)) → (v1939 = w1955 ∧ (∃ w1978_20 w1978_27 w1978_28 w1978_29 : Int32, f_L_law_1978 x0 x1 x2 x3 x6 x7 x8 x9 x12 x13 x14 x15 x16 x20 x21 x22 x23 x24 h = some (.inl (w1978_20, w1978_27, w1978_28, w1978_29)) ∧ ((w1978_28 = (0 : Int32) → (zl_w (f_L_use t0 x1 (0 : Int32) w1978_27 h n) fun v2242 h2242 n2242 => v2242 = (x24 - w1978_29) ∧ (zl_w (f_L_hours t0 x1 (0 : Int32) h2242 n2242) fun v2255 h2255 n2255 => v2255 = w1978_20 ∧ (K_1597 x0 x1 x2 x3 x6 x7 x8 x9 x12 x13 x14 x15 x16 w1978_20 x21 x22 (x23 + (1 : Int32)) h2255 n2255)))) ∧ (¬ w1978_28 = (0 : Int32) → (zl_w (f_L_pound t0 x1 (0 : Int32) (w1978_27 / (3 : Int32)) h n) fun v2232 h2232 n2232 => v2232 = (x24 - w1978_29) ∧ (zl_w (f_L_hours t0 x1 (0 : Int32) h2232 n2232) fun v2255 h2255 n2255 => v2255 = w1978_20 ∧ (K_1597 x0 x1 x2 x3 x6 x7 x8 x9 x12 x13 x14 x15 x16 w1978_20 x21 x22 (x23 + (1 : Int32)) h2255 n2255))))))))
def w_2277 (t0 : Nat) (x1 : Nat) (h : zz_H) (n : Nat) (K_2303 : zz_H → Nat → Prop) : Prop := ¬ (1 : Int32) = (0 : Int32) ∧ (zo h x1 10 (zpl (f_X9_closedShare x1 h) fun v2283 => (Op.cmpValue (FP.fcmp v2283 (0x3f800000 : UInt32)) CmpOp.l) = (0 : Int32) ∧ (zo h x1 10 (zp1 (f_X9_isSound x1 h) fun v2292 h2292 => ¬ v2292 = (0 : Int32) ∧ (K_2303 h2292 n)))))
set_option maxHeartbeats 4000000 in
set_option maxRecDepth 100000 in
theorem lc_0 {D : va_G} {dA : Nat → ClassId} {base t0 : Nat} {l : Launch} {p : Program} {e : Env} {s : State} {m : MethodId} {args : Array Value} {below : List Frame} {meth : Method} {c : Code} {Q : State → Prop} {cs ss : Nat} (X : zz_X D dA base t0 "SpringseatLaw" cL_law 35 (some .boolean) l p s m meth c) (hT : l.stackTraces = false) (hN : zz_N s) (hc : cs + 200 ≤ 600104) (hs : ss + 2000 ≤ 7301313) {x0 : Nat} {K_210 : Nat → Nat → Int32 → Int32 → Int32 → Nat → Nat → Nat → Int32 → zz_H → Nat → Prop} (kk_210 : ∀ (x0 : Nat) (x1 : Nat) (x2 : Int32) (x3 : Int32) (x5 : Int32) (x6 : Nat) (x7 : Nat) (x8 : Nat) (x9 : Int32) (h : zz_H) (n : Nat), K_210 x0 x1 x2 x3 x5 x6 x7 x8 x9 h n → ∀ {H : Heap} {locs : List Loc} {ls : Array Slot}, zz_R D dA base h n s H locs → lv_has ls 35 [(0, .ref x0), (1, .ref x1), (2, .int x2), (3, .int x3), (4, .int (1 : Int32)), (5, .int x5), (6, .ref x6), (7, .ref x7), (8, .ref x8), (9, .int x9)] → W p l e room_1 s m args below meth c H locs (cs + 200) (ss + 2000) Q (F0 m 210 ls [])) {h : zz_H} {n : Nat} {H : Heap} {locs : List Loc} {ls : Array Slot} (hR : zz_R D dA base h n s H locs) (hl : lv_has ls 35 [(0, .ref x0)]) (hf : w_0 t0 x0 h n K_210) : W p l e room_1 s m args below meth c H locs cs ss Q (F0 m 0 ls []) := by
  have hx := X.1
  have hb := X.2.1
  have hown := X.2.2.2.2.1
  unfold w_0 at hf
  refine zr_new X hR (fs := [.null, .null, .null, .null, .null, .null]) zc10 q_28 q_29 q_1 (fun j hj => by rcases (show j = 0 ∨ j = 1 ∨ j = 2 ∨ j = 3 ∨ j = 4 ∨ j = 5 by omega) with rfl | rfl | rfl | rfl | rfl | rfl <;> rfl) (by show _ ≤ 600104; omega) (by show _ ≤ 7301313; omega) dL_law_0 (fun H hR => ?_)
  refine W.widen (k := cs + 1) (n := ss + 6) (by omega) (by omega) ?_
  refine lv_dup hx hb dL_law_3 rfl ?_
  obtain ⟨h4, n4, hv4, hf⟩ := hf
  refine zr_cI X hR hl.1 (b := n) (As := []) (rest := [.ref n]) (mt_X9_init hT n (zz_u h n (.inr (10, [.null, .null, .null, .null, .null, .null]))) (n + 1) hv4) mf_X9_init rfl q_30 q_31 ⟨Nat.le_of_ble_eq_true rfl, Nat.le_of_ble_eq_true rfl⟩ ⟨by show cs + 1 + 20 ≤ 600104; omega, by show ss + 6 + 198 ≤ 7301313; omega⟩ rfl (Nat.le_of_ble_eq_true rfl) dL_law_4 (fun H locs hR => ?_)
  refine W.eq (g2 := F0 m 7 ls [.ref n]) rfl ?_
  refine W.widen (k := cs + 21) (n := ss + 204) (by show cs + 1 + 20 ≤ _; omega) (by show ss + 6 + 198 ≤ _; omega) ?_
  refine lv_astore_n (i := 1) (lv' := [(1, .ref n), (0, .ref x0)]) hx hb dL_law_7 rfl hl (by decide) rfl (fun ls hl => ?_)
  refine lv_iconst (v := (1 : Int32)) hx hb dL_law_8 (by decide) ?_
  refine lv_aload_n hx hb dL_law_9 rfl (lv_at hl 1 rfl) ?_
  refine lv_iconst (v := (0 : Int32)) hx hb dL_law_10 (by decide) ?_
  refine lv_iconst (v := (4 : Int32)) hx hb dL_law_11 (by decide) ?_
  obtain ⟨v12, hv12, hf⟩ := hf
  refine zr_cS X hR hl.1 (As := [.ref x0, .int (0 : Int32), .int (4 : Int32)]) (rest := [.int (1 : Int32)]) (mt_L_in hT x0 (0 : Int32) (4 : Int32) h4 n4 hv12) mf_L_in q_1000 q_1001 ⟨Nat.le_of_ble_eq_true rfl, Nat.le_of_ble_eq_true rfl⟩ ⟨by show cs + 21 + 0 ≤ 600104; omega, by show ss + 204 + 0 ≤ 7301313; omega⟩ rfl (Nat.le_of_ble_eq_true rfl) dL_law_12 (fun H locs hR => ?_)
  refine W.eq (g2 := F0 m 15 ls [.int v12, .int (1 : Int32)]) rfl ?_
  refine W.widen (k := cs + 21) (n := ss + 204) (Nat.le_refl _) (Nat.le_refl _) ?_
  refine lv_iadd hx hb dL_law_15 ?_
  refine lv_istore_n (i := 2) (lv' := [(2, .int ((1 : Int32) + v12)), (1, .ref n), (0, .ref x0)]) hx hb dL_law_16 rfl hl (by decide) rfl (fun ls hl => ?_)
  refine lv_iconst (v := (1 : Int32)) hx hb dL_law_17 (by decide) ?_
  refine lv_aload_n hx hb dL_law_18 rfl (lv_at hl 2 rfl) ?_
  refine lv_iconst (v := (1 : Int32)) hx hb dL_law_19 (by decide) ?_
  refine lv_iconst (v := (4 : Int32)) hx hb dL_law_20 (by decide) ?_
  obtain ⟨v21, hv21, hf⟩ := hf
  refine zr_cS X hR hl.1 (As := [.ref x0, .int (1 : Int32), .int (4 : Int32)]) (rest := [.int (1 : Int32)]) (mt_L_in hT x0 (1 : Int32) (4 : Int32) h4 n4 hv21) mf_L_in q_1000 q_1001 ⟨Nat.le_of_ble_eq_true rfl, Nat.le_of_ble_eq_true rfl⟩ ⟨by show cs + 21 + 0 ≤ 600104; omega, by show ss + 204 + 0 ≤ 7301313; omega⟩ rfl (Nat.le_of_ble_eq_true rfl) dL_law_21 (fun H locs hR => ?_)
  refine W.eq (g2 := F0 m 24 ls [.int v21, .int (1 : Int32)]) rfl ?_
  refine W.widen (k := cs + 21) (n := ss + 204) (Nat.le_refl _) (Nat.le_refl _) ?_
  refine lv_iadd hx hb dL_law_24 ?_
  refine lv_istore_n (i := 3) (lv' := [(3, .int ((1 : Int32) + v21)), (2, .int ((1 : Int32) + v12)), (1, .ref n), (0, .ref x0)]) hx hb dL_law_25 rfl hl (by decide) rfl (fun ls hl => ?_)
  refine lv_aload_n hx hb dL_law_26 rfl (lv_at hl 2 rfl) ?_
  refine lv_bipush (v := (7 : Int32)) hx hb dL_law_27 (by decide) ?_
  refine lv_iconst (v := (1 : Int32)) hx hb dL_law_29 (by decide) ?_
  obtain ⟨v30, h30, m30, hv30, hf⟩ := hf
  refine zl_cS X hN hR hl.1 (As := [.ref n, .int (7 : Int32), .int (1 : Int32)]) (rest := []) (mt_L_seat hT n (7 : Int32) (1 : Int32) h4 n4 hv30) mf_L_seat.1 mf_L_seat.2.1 mf_L_seat.2.2 q_480 q_481 ⟨Nat.le_of_ble_eq_true rfl, Nat.le_of_ble_eq_true rfl⟩ ⟨by show cs + 21 + 20 ≤ 600104; omega, by show ss + 204 + 253 ≤ 7301313; omega⟩ rfl (Nat.le_of_ble_eq_true rfl) dL_law_30 (fun n30 H locs hn30 hR => ?_)
  replace hf := hf n30 hn30
  refine W.eq (g2 := F0 m 33 ls [.int v30]) rfl ?_
  refine W.widen (k := cs + 41) (n := ss + 457) (by show cs + 21 + 20 ≤ _; omega) (by show ss + 204 + 253 ≤ _; omega) ?_
  refine lv_ldc hx hb hown (zz_w X q_659) dL_law_33 ?_
  obtain ⟨hc35, hf⟩ := hf
  refine lv_icmp_ne (tgt := 105) hx hb dL_law_35 (by decide) (fun c35 => ?_) (fun c35 => ?_)
  · exact absurd hc35 c35
  refine lv_aload_n hx hb dL_law_38 rfl (lv_at hl 2 rfl) ?_
  refine lv_iload_n hx hb dL_law_39 rfl (lv_at hl 1 rfl) ?_
  refine lv_iload_n hx hb dL_law_40 rfl (lv_at hl 0 rfl) ?_
  obtain ⟨v41, h41, m41, hv41, hf⟩ := hf
  refine zl_cS X hN hR hl.1 (As := [.ref n, .int ((1 : Int32) + v12), .int ((1 : Int32) + v21)]) (rest := []) (mt_L_seat hT n ((1 : Int32) + v12) ((1 : Int32) + v21) h30 n30 hv41) mf_L_seat.1 mf_L_seat.2.1 mf_L_seat.2.2 q_480 q_481 ⟨Nat.le_of_ble_eq_true rfl, Nat.le_of_ble_eq_true rfl⟩ ⟨by show cs + 41 + 20 ≤ 600104; omega, by show ss + 457 + 253 ≤ 7301313; omega⟩ rfl (Nat.le_of_ble_eq_true rfl) dL_law_41 (fun n41 H locs hn41 hR => ?_)
  replace hf := hf n41 hn41
  refine W.eq (g2 := F0 m 44 ls [.int v41]) rfl ?_
  refine W.widen (k := cs + 61) (n := ss + 710) (by show cs + 41 + 20 ≤ _; omega) (by show ss + 457 + 253 ≤ _; omega) ?_
  obtain ⟨hc44, hf⟩ := hf
  refine lv_if_ne (tgt := 105) hx hb dL_law_44 (by decide) (fun c44 => ?_) (fun c44 => ?_)
  · exact absurd hc44 c44
  refine lv_aload_n hx hb dL_law_47 rfl (lv_at hl 2 rfl) ?_
  refine lv_iconst (v := (0 : Int32)) hx hb dL_law_48 (by decide) ?_
  refine lv_iconst (v := (0 : Int32)) hx hb dL_law_49 (by decide) ?_
  obtain ⟨v50, h50, m50, hv50, hf⟩ := hf
  refine zl_cS X hN hR hl.1 (As := [.ref n, .int (0 : Int32), .int (0 : Int32)]) (rest := []) (mt_L_stands hT n (0 : Int32) (0 : Int32) h41 n41 hv50) mf_L_stands.1 mf_L_stands.2.1 mf_L_stands.2.2 q_856 q_857 ⟨Nat.le_of_ble_eq_true rfl, Nat.le_of_ble_eq_true rfl⟩ ⟨by show cs + 61 + 3 ≤ 600104; omega, by show ss + 710 + 18 ≤ 7301313; omega⟩ rfl (Nat.le_of_ble_eq_true rfl) dL_law_50 (fun n50 H locs hn50 hR => ?_)
  replace hf := hf n50 hn50
  refine W.eq (g2 := F0 m 53 ls [.int v50]) rfl ?_
  refine W.widen (k := cs + 64) (n := ss + 728) (by show cs + 61 + 3 ≤ _; omega) (by show ss + 710 + 18 ≤ _; omega) ?_
  obtain ⟨hc53, hf⟩ := hf
  refine lv_if_ne (tgt := 105) hx hb dL_law_53 (by decide) (fun c53 => ?_) (fun c53 => ?_)
  · exact absurd hc53 c53
  refine lv_aload_n hx hb dL_law_56 rfl (lv_at hl 2 rfl) ?_
  refine lv_iconst (v := (0 : Int32)) hx hb dL_law_57 (by decide) ?_
  refine lv_iload_n hx hb dL_law_58 rfl (lv_at hl 1 rfl) ?_
  refine lv_bipush (v := (10 : Int32)) hx hb dL_law_59 (by decide) ?_
  refine lv_imul hx hb dL_law_61 ?_
  obtain ⟨v62, h62, m62, hv62, hf⟩ := hf
  refine zl_cS X hN hR hl.1 (As := [.ref n, .int (0 : Int32), .int (((1 : Int32) + v12) * (10 : Int32))]) (rest := []) (mt_L_stands hT n (0 : Int32) (((1 : Int32) + v12) * (10 : Int32)) h50 n50 hv62) mf_L_stands.1 mf_L_stands.2.1 mf_L_stands.2.2 q_856 q_857 ⟨Nat.le_of_ble_eq_true rfl, Nat.le_of_ble_eq_true rfl⟩ ⟨by show cs + 64 + 3 ≤ 600104; omega, by show ss + 728 + 18 ≤ 7301313; omega⟩ rfl (Nat.le_of_ble_eq_true rfl) dL_law_62 (fun n62 H locs hn62 hR => ?_)
  replace hf := hf n62 hn62
  refine W.eq (g2 := F0 m 65 ls [.int v62]) rfl ?_
  refine W.widen (k := cs + 67) (n := ss + 746) (by show cs + 64 + 3 ≤ _; omega) (by show ss + 728 + 18 ≤ _; omega) ?_
  refine lv_ldc hx hb hown (zz_w X q_659) dL_law_65 ?_
  obtain ⟨hc67, hf⟩ := hf
  refine lv_icmp_ne (tgt := 105) hx hb dL_law_67 (by decide) (fun c67 => ?_) (fun c67 => ?_)
  · exact absurd hc67 c67
  refine lv_aload_n hx hb dL_law_70 rfl (lv_at hl 2 rfl) ?_
  refine lv_iconst (v := (0 : Int32)) hx hb dL_law_71 (by decide) ?_
  obtain ⟨v72, h72, m72, hv72, hf⟩ := hf
  refine zl_cS X hN hR hl.1 (As := [.ref n, .int (0 : Int32)]) (rest := []) (mt_L_sign hT n (0 : Int32) h62 n62 hv72) mf_L_sign.1 mf_L_sign.2.1 mf_L_sign.2.2 q_844 q_845 ⟨Nat.le_of_ble_eq_true rfl, Nat.le_of_ble_eq_true rfl⟩ ⟨by show cs + 67 + 2 ≤ 600104; omega, by show ss + 746 + 12 ≤ 7301313; omega⟩ rfl (Nat.le_of_ble_eq_true rfl) dL_law_72 (fun n72 H locs hn72 hR => ?_)
  replace hf := hf n72 hn72
  refine W.eq (g2 := F0 m 75 ls [.int v72]) rfl ?_
  refine W.widen (k := cs + 69) (n := ss + 758) (by show cs + 67 + 2 ≤ _; omega) (by show ss + 746 + 12 ≤ _; omega) ?_
  refine lv_ldc hx hb hown (zz_w X q_660) dL_law_75 ?_
  obtain ⟨hc77, hf⟩ := hf
  refine lv_icmp_ne (tgt := 105) hx hb dL_law_77 (by decide) (fun c77 => ?_) (fun c77 => ?_)
  · exact absurd hc77 c77
  refine lv_aload_n hx hb dL_law_80 rfl (lv_at hl 2 rfl) ?_
  refine lv_iconst (v := (0 : Int32)) hx hb dL_law_81 (by decide) ?_
  refine lv_bipush (v := (50 : Int32)) hx hb dL_law_82 (by decide) ?_
  refine lv_iconst (v := (5 : Int32)) hx hb dL_law_84 (by decide) ?_
  obtain ⟨v85, h85, m85, hv85, hf⟩ := hf
  refine zl_cS X hN hR hl.1 (As := [.ref n, .int (0 : Int32), .int (50 : Int32), .int (5 : Int32)]) (rest := []) (mt_L_spring hT n (0 : Int32) (50 : Int32) (5 : Int32) h72 n72 hv85) mf_L_spring.1 mf_L_spring.2.1 mf_L_spring.2.2 q_687 q_688 ⟨Nat.le_of_ble_eq_true rfl, Nat.le_of_ble_eq_true rfl⟩ ⟨by show cs + 69 + 4 ≤ 600104; omega, by show ss + 758 + 24 ≤ 7301313; omega⟩ rfl (Nat.le_of_ble_eq_true rfl) dL_law_85 (fun n85 H locs hn85 hR => ?_)
  replace hf := hf n85 hn85
  refine W.eq (g2 := F0 m 88 ls [.int v85]) rfl ?_
  refine W.widen (k := cs + 73) (n := ss + 782) (by show cs + 69 + 4 ≤ _; omega) (by show ss + 758 + 24 ≤ _; omega) ?_
  refine lv_ldc hx hb hown (zz_w X q_686) dL_law_88 ?_
  obtain ⟨hc90, hf⟩ := hf
  refine lv_icmp_ne (tgt := 105) hx hb dL_law_90 (by decide) (fun c90 => ?_) (fun c90 => ?_)
  · exact absurd hc90 c90
  refine lv_aload_n hx hb dL_law_93 rfl (lv_at hl 2 rfl) ?_
  refine lv_iconst (v := (0 : Int32)) hx hb dL_law_94 (by decide) ?_
  obtain ⟨v95, h95, m95, hv95, hf⟩ := hf
  refine zl_cS X hN hR hl.1 (As := [.ref n, .int (0 : Int32)]) (rest := []) (mt_L_quote hT n (0 : Int32) h85 n85 hv95) mf_L_quote.1 mf_L_quote.2.1 mf_L_quote.2.2 q_965 q_966 ⟨Nat.le_of_ble_eq_true rfl, Nat.le_of_ble_eq_true rfl⟩ ⟨by show cs + 73 + 1 ≤ 600104; omega, by show ss + 782 + 6 ≤ 7301313; omega⟩ rfl (Nat.le_of_ble_eq_true rfl) dL_law_95 (fun n95 H locs hn95 hR => ?_)
  replace hf := hf n95 hn95
  refine W.eq (g2 := F0 m 98 ls [.int v95]) rfl ?_
  refine W.widen (k := cs + 74) (n := ss + 788) (by show cs + 73 + 1 ≤ _; omega) (by show ss + 782 + 6 ≤ _; omega) ?_
  obtain ⟨hc98, hf⟩ := hf
  refine lv_if_ne (tgt := 105) hx hb dL_law_98 (by decide) (fun c98 => ?_) (fun c98 => ?_)
  · exact absurd hc98 c98
  refine lv_iconst (v := (1 : Int32)) hx hb dL_law_101 (by decide) ?_
  refine lv_goto (tgt := 106) hx hb dL_law_102 (by decide) ?_
  refine lv_istore (i := 4) (lv' := [(4, .int (1 : Int32)), (3, .int ((1 : Int32) + v21)), (2, .int ((1 : Int32) + v12)), (1, .ref n), (0, .ref x0)]) hx hb dL_law_106 hl (by decide) rfl (fun ls hl => ?_)
  refine lv_bipush (v := (20 : Int32)) hx hb dL_law_108 (by decide) ?_
  refine lv_aload_n hx hb dL_law_110 rfl (lv_at hl 4 rfl) ?_
  refine lv_iconst (v := (2 : Int32)) hx hb dL_law_111 (by decide) ?_
  refine lv_bipush (v := (80 : Int32)) hx hb dL_law_112 (by decide) ?_
  obtain ⟨v114, hv114, hf⟩ := hf
  refine zr_cS X hR hl.1 (As := [.ref x0, .int (2 : Int32), .int (80 : Int32)]) (rest := [.int (20 : Int32)]) (mt_L_in hT x0 (2 : Int32) (80 : Int32) h95 n95 hv114) mf_L_in q_1000 q_1001 ⟨Nat.le_of_ble_eq_true rfl, Nat.le_of_ble_eq_true rfl⟩ ⟨by show cs + 74 + 0 ≤ 600104; omega, by show ss + 788 + 0 ≤ 7301313; omega⟩ rfl (Nat.le_of_ble_eq_true rfl) dL_law_114 (fun H locs hR => ?_)
  refine W.eq (g2 := F0 m 117 ls [.int v114, .int (20 : Int32)]) rfl ?_
  refine W.widen (k := cs + 74) (n := ss + 788) (Nat.le_refl _) (Nat.le_refl _) ?_
  refine lv_iadd hx hb dL_law_117 ?_
  refine lv_istore (i := 5) (lv' := [(5, .int ((20 : Int32) + v114)), (4, .int (1 : Int32)), (3, .int ((1 : Int32) + v21)), (2, .int ((1 : Int32) + v12)), (1, .ref n), (0, .ref x0)]) hx hb dL_law_118 hl (by decide) rfl (fun ls hl => ?_)
  refine lv_iload hx hb dL_law_120 (lv_at hl 1 rfl) ?_
  refine lv_aload_n hx hb dL_law_122 rfl (lv_at hl 4 rfl) ?_
  refine lv_iconst (v := (0 : Int32)) hx hb dL_law_123 (by decide) ?_
  refine lv_bipush (v := (10 : Int32)) hx hb dL_law_124 (by decide) ?_
  obtain ⟨v126, h126, m126, hv126, hf⟩ := hf
  refine zl_cS X hN hR hl.1 (As := [.ref n, .int (0 : Int32), .int (10 : Int32)]) (rest := [.int (1 : Int32)]) (mt_L_web hT n (0 : Int32) (10 : Int32) h95 n95 hv126) mf_L_web.1 mf_L_web.2.1 mf_L_web.2.2 q_661 q_662 ⟨Nat.le_of_ble_eq_true rfl, Nat.le_of_ble_eq_true rfl⟩ ⟨by show cs + 74 + 3 ≤ 600104; omega, by show ss + 788 + 18 ≤ 7301313; omega⟩ rfl (Nat.le_of_ble_eq_true rfl) dL_law_126 (fun n126 H locs hn126 hR => ?_)
  replace hf := hf n126 hn126
  refine W.eq (g2 := F0 m 129 ls [.int v126, .int (1 : Int32)]) rfl ?_
  refine W.widen (k := cs + 77) (n := ss + 806) (by show cs + 74 + 3 ≤ _; omega) (by show ss + 788 + 18 ≤ _; omega) ?_
  refine lv_ldc hx hb hown (zz_w X q_660) dL_law_129 ?_
  obtain ⟨hc131, hf⟩ := hf
  refine lv_icmp_ne (tgt := 185) hx hb dL_law_131 (by decide) (fun c131 => ?_) (fun c131 => ?_)
  · exact absurd hc131 c131
  refine lv_aload_n hx hb dL_law_134 rfl (lv_at hl 4 rfl) ?_
  refine lv_aload_n hx hb dL_law_135 rfl (lv_at hl 4 rfl) ?_
  refine lv_iconst (v := (0 : Int32)) hx hb dL_law_136 (by decide) ?_
  refine lv_iconst (v := (1 : Int32)) hx hb dL_law_137 (by decide) ?_
  refine lv_aload_n hx hb dL_law_138 rfl (lv_at hl 5 rfl) ?_
  refine lv_iconst (v := (3 : Int32)) hx hb dL_law_139 (by decide) ?_
  refine lv_bipush (v := (9 : Int32)) hx hb dL_law_140 (by decide) ?_
  obtain ⟨v142, hv142, hf⟩ := hf
  refine zr_cSw X hR hl.1 (As := [.ref x0, .int (3 : Int32), .int (9 : Int32)]) (rest := [.int (1 : Int32), .int (0 : Int32), .ref n, .ref n, .int (1 : Int32)]) (mt_L_in hT x0 (3 : Int32) (9 : Int32) h126 n126 hv142) mf_L_in q_1000 q_1001 ⟨Nat.le_of_ble_eq_true rfl, Nat.le_of_ble_eq_true rfl⟩ ⟨by show cs + 77 + 0 ≤ 600104; omega, by show ss + 806 + 0 ≤ 7301313; omega⟩ rfl (Nat.le_of_ble_eq_true rfl) dL_law_142 (fun H locs hR => ?_)
  refine W.eq (g2 := F0 m 145 ls [.int v142, .int (1 : Int32), .int (0 : Int32), .ref n, .ref n, .int (1 : Int32)]) rfl ?_
  refine W.widen (k := cs + 77) (n := ss + 806) (Nat.le_refl _) (Nat.le_refl _) ?_
  refine lv_iadd hx hb dL_law_145 ?_
  obtain ⟨v146, h146, m146, hv146, hf⟩ := hf
  refine zl_cS X hN hR hl.1 (As := [.ref n, .int (0 : Int32), .int ((1 : Int32) + v142)]) (rest := [.ref n, .int (1 : Int32)]) (mt_L_web hT n (0 : Int32) ((1 : Int32) + v142) h126 n126 hv146) mf_L_web.1 mf_L_web.2.1 mf_L_web.2.2 q_661 q_662 ⟨Nat.le_of_ble_eq_true rfl, Nat.le_of_ble_eq_true rfl⟩ ⟨by show cs + 77 + 3 ≤ 600104; omega, by show ss + 806 + 18 ≤ 7301313; omega⟩ rfl (Nat.le_of_ble_eq_true rfl) dL_law_146 (fun n146 H locs hn146 hR => ?_)
  replace hf := hf n146 hn146
  refine W.eq (g2 := F0 m 149 ls [.int v146, .ref n, .int (1 : Int32)]) rfl ?_
  refine W.widen (k := cs + 80) (n := ss + 824) (by show cs + 77 + 3 ≤ _; omega) (by show ss + 806 + 18 ≤ _; omega) ?_
  refine lv_iconst (v := (0 : Int32)) hx hb dL_law_149 (by decide) ?_
  obtain ⟨v150, h150, m150, hv150, hf⟩ := hf
  refine zl_cD X hN hR hl.1 (As := [.ref n, .int v146, .int (0 : Int32)]) (rest := [.int (1 : Int32)]) (mt_L_isDone hT n v146 (0 : Int32) h146 n146 hv150) mf_L_isDone.1 mf_L_isDone.2.1 mf_L_isDone.2.2 q_1009 q_1010 ⟨Nat.le_of_ble_eq_true rfl, Nat.le_of_ble_eq_true rfl⟩ ⟨by show cs + 80 + 2 ≤ 600104; omega, by show ss + 824 + 12 ≤ 7301313; omega⟩ rfl (Nat.le_of_ble_eq_true rfl) dL_law_150 (fun n150 H locs hn150 hR => ?_)
  replace hf := hf n150 hn150
  refine W.eq (g2 := F0 m 153 ls [.int v150, .int (1 : Int32)]) rfl ?_
  refine W.widen (k := cs + 82) (n := ss + 836) (by show cs + 80 + 2 ≤ _; omega) (by show ss + 824 + 12 ≤ _; omega) ?_
  obtain ⟨hc153, hf⟩ := hf
  refine lv_if_eq (tgt := 185) hx hb dL_law_153 (by decide) (fun c153 => ?_) (fun c153 => ?_)
  · exact absurd c153 hc153
  refine lv_aload_n hx hb dL_law_156 rfl (lv_at hl 4 rfl) ?_
  refine lv_iconst (v := (0 : Int32)) hx hb dL_law_157 (by decide) ?_
  refine lv_bipush (v := (19 : Int32)) hx hb dL_law_158 (by decide) ?_
  refine lv_iconst (v := (5 : Int32)) hx hb dL_law_160 (by decide) ?_
  obtain ⟨v161, h161, m161, hv161, hf⟩ := hf
  refine zl_cS X hN hR hl.1 (As := [.ref n, .int (0 : Int32), .int (19 : Int32), .int (5 : Int32)]) (rest := [.int (1 : Int32)]) (mt_L_spring hT n (0 : Int32) (19 : Int32) (5 : Int32) h150 n150 hv161) mf_L_spring.1 mf_L_spring.2.1 mf_L_spring.2.2 q_687 q_688 ⟨Nat.le_of_ble_eq_true rfl, Nat.le_of_ble_eq_true rfl⟩ ⟨by show cs + 82 + 4 ≤ 600104; omega, by show ss + 836 + 24 ≤ 7301313; omega⟩ rfl (Nat.le_of_ble_eq_true rfl) dL_law_161 (fun n161 H locs hn161 hR => ?_)
  replace hf := hf n161 hn161
  refine W.eq (g2 := F0 m 164 ls [.int v161, .int (1 : Int32)]) rfl ?_
  refine W.widen (k := cs + 86) (n := ss + 860) (by show cs + 82 + 4 ≤ _; omega) (by show ss + 836 + 24 ≤ _; omega) ?_
  refine lv_ldc hx hb hown (zz_w X q_660) dL_law_164 ?_
  obtain ⟨hc166, hf⟩ := hf
  refine lv_icmp_ne (tgt := 185) hx hb dL_law_166 (by decide) (fun c166 => ?_) (fun c166 => ?_)
  · exact absurd hc166 c166
  refine lv_aload_n hx hb dL_law_169 rfl (lv_at hl 4 rfl) ?_
  refine lv_iconst (v := (0 : Int32)) hx hb dL_law_170 (by decide) ?_
  refine lv_iload hx hb dL_law_171 (lv_at hl 0 rfl) ?_
  refine lv_iconst (v := (5 : Int32)) hx hb dL_law_173 (by decide) ?_
  obtain ⟨v174, h174, m174, hv174, hf⟩ := hf
  refine zl_cS X hN hR hl.1 (As := [.ref n, .int (0 : Int32), .int ((20 : Int32) + v114), .int (5 : Int32)]) (rest := [.int (1 : Int32)]) (mt_L_spring hT n (0 : Int32) ((20 : Int32) + v114) (5 : Int32) h161 n161 hv174) mf_L_spring.1 mf_L_spring.2.1 mf_L_spring.2.2 q_687 q_688 ⟨Nat.le_of_ble_eq_true rfl, Nat.le_of_ble_eq_true rfl⟩ ⟨by show cs + 86 + 4 ≤ 600104; omega, by show ss + 860 + 24 ≤ 7301313; omega⟩ rfl (Nat.le_of_ble_eq_true rfl) dL_law_174 (fun n174 H locs hn174 hR => ?_)
  replace hf := hf n174 hn174
  refine W.eq (g2 := F0 m 177 ls [.int v174, .int (1 : Int32)]) rfl ?_
  refine W.widen (k := cs + 90) (n := ss + 884) (by show cs + 86 + 4 ≤ _; omega) (by show ss + 860 + 24 ≤ _; omega) ?_
  refine lv_iconst (v := (1 : Int32)) hx hb dL_law_177 (by decide) ?_
  obtain ⟨hc178, hf⟩ := hf
  refine lv_icmp_ne (tgt := 185) hx hb dL_law_178 (by decide) (fun c178 => ?_) (fun c178 => ?_)
  · exact absurd hc178 c178
  refine lv_iconst (v := (1 : Int32)) hx hb dL_law_181 (by decide) ?_
  refine lv_goto (tgt := 186) hx hb dL_law_182 (by decide) ?_
  refine lv_iand hx hb dL_law_186 ?_
  refine W.eq (g2 := F0 m 187 ls [.int (1 : Int32)]) rfl ?_
  refine lv_istore (i := 4) (lv' := [(4, .int (1 : Int32)), (5, .int ((20 : Int32) + v114)), (3, .int ((1 : Int32) + v21)), (2, .int ((1 : Int32) + v12)), (1, .ref n), (0, .ref x0)]) hx hb dL_law_187 hl (by decide) rfl (fun ls hl => ?_)
  refine lv_iload_n hx hb dL_law_189 rfl (lv_at hl 3 rfl) ?_
  refine lv_iload_n hx hb dL_law_190 rfl (lv_at hl 2 rfl) ?_
  obtain ⟨N191, hnn191, hnN191, hn4191, M191, hmn191, hmN191, hm4191, hf⟩ := hf
  have hNM191 : N191 * M191 ≤ 16 := Nat.mul_le_mul hn4191 hm4191
  refine zr_mna2 X hR (ta := 0) (tb := 6) (N := N191) (M := M191) (ty := .int) (a0 := (M191, .inl (fun _ => 0))) (by decide) (by decide) rfl rfl q_1016 (by decide) q_72 (fun _ z => z) (fun _ z => z) rfl hnn191 hmn191 hnN191 hmN191 (by omega) (by show M191 * 4 ≤ _; omega) (by omega) rfl rfl (fun cA => rfl) (by show _ ≤ 600104; omega) (by show _ ≤ 7301313; omega) dL_law_191 (fun H hR => ?_)
  refine W.widen (k := cs + 95) (n := ss + 904) (by omega) (by omega) ?_
  refine lv_astore (i := 6) (lv' := [(6, .ref n174), (4, .int (1 : Int32)), (5, .int ((20 : Int32) + v114)), (3, .int ((1 : Int32) + v21)), (2, .int ((1 : Int32) + v12)), (1, .ref n), (0, .ref x0)]) hx hb dL_law_195 hl (by decide) rfl (fun ls hl => ?_)
  refine lv_iload_n hx hb dL_law_197 rfl (lv_at hl 4 rfl) ?_
  obtain ⟨N198, hnn198, hnN198, hn4198, hf⟩ := hf
  refine zr_newa X hR (t := 0) (N := N198) (a0 := (N198, .inl (fun _ => 0))) (by decide) rfl q_72 (fun _ z => z) (fun cA => rfl) hnn198 hnN198 (by show N198 * 4 ≤ _; omega) (by show _ ≤ 600104; omega) (by show _ ≤ 7301313; omega) dL_law_198 (fun H hR => ?_)
  refine W.widen (k := cs + 96) (n := ss + 908) (by omega) (by omega) ?_
  refine lv_astore (i := 7) (lv' := [(7, .ref (n174 + 1 + N191)), (6, .ref n174), (4, .int (1 : Int32)), (5, .int ((20 : Int32) + v114)), (3, .int ((1 : Int32) + v21)), (2, .int ((1 : Int32) + v12)), (1, .ref n), (0, .ref x0)]) hx hb dL_law_200 hl (by decide) rfl (fun ls hl => ?_)
  refine lv_iload_n hx hb dL_law_202 rfl (lv_at hl 4 rfl) ?_
  obtain ⟨N203, hnn203, hnN203, hn4203, hf⟩ := hf
  refine zr_newa X hR (t := 0) (N := N203) (a0 := (N203, .inl (fun _ => 0))) (by decide) rfl q_72 (fun _ z => z) (fun cA => rfl) hnn203 hnN203 (by show N203 * 4 ≤ _; omega) (by show _ ≤ 600104; omega) (by show _ ≤ 7301313; omega) dL_law_203 (fun H hR => ?_)
  refine W.widen (k := cs + 97) (n := ss + 912) (by omega) (by omega) ?_
  refine lv_astore (i := 8) (lv' := [(8, .ref ((n174 + 1 + N191) + 1)), (7, .ref (n174 + 1 + N191)), (6, .ref n174), (4, .int (1 : Int32)), (5, .int ((20 : Int32) + v114)), (3, .int ((1 : Int32) + v21)), (2, .int ((1 : Int32) + v12)), (1, .ref n), (0, .ref x0)]) hx hb dL_law_205 hl (by decide) rfl (fun ls hl => ?_)
  refine lv_iconst (v := (0 : Int32)) hx hb dL_law_207 (by decide) ?_
  refine lv_istore (i := 9) (lv' := [(9, .int (0 : Int32)), (8, .ref ((n174 + 1 + N191) + 1)), (7, .ref (n174 + 1 + N191)), (6, .ref n174), (4, .int (1 : Int32)), (5, .int ((20 : Int32) + v114)), (3, .int ((1 : Int32) + v21)), (2, .int ((1 : Int32) + v12)), (1, .ref n), (0, .ref x0)]) hx hb dL_law_208 hl (by decide) rfl (fun ls hl => ?_)
  refine W.widen (k := cs + 200) (n := ss + 2000) (by omega) (by omega) ?_
  exact kk_210 _ _ _ _ _ _ _ _ _ _ _ hf hR (lv_sub hl [9, 8, 7, 6, 4, 5, 3, 2, 1, 0] rfl)
set_option maxHeartbeats 4000000 in
set_option maxRecDepth 100000 in
theorem lc_210 {D : va_G} {dA : Nat → ClassId} {base t0 : Nat} {l : Launch} {p : Program} {e : Env} {s : State} {m : MethodId} {args : Array Value} {below : List Frame} {meth : Method} {c : Code} {Q : State → Prop} {cs ss : Nat} (X : zz_X D dA base t0 "SpringseatLaw" cL_law 35 (some .boolean) l p s m meth c) (hT : l.stackTraces = false) (hN : zz_N s) (hc : cs + 200 ≤ 600104) (hs : ss + 2000 ≤ 7301313) {x0 : Nat} {x1 : Nat} {x2 : Int32} {x3 : Int32} {x5 : Int32} {x6 : Nat} {x7 : Nat} {x8 : Nat} {x9 : Int32} {K_226 : Nat → Nat → Int32 → Int32 → Int32 → Nat → Nat → Nat → Int32 → Int32 → zz_H → Nat → Prop} {K_360 : Nat → Nat → Int32 → Int32 → Nat → Nat → Nat → zz_H → Nat → Prop} (kk_226 : ∀ (x0 : Nat) (x1 : Nat) (x2 : Int32) (x3 : Int32) (x5 : Int32) (x6 : Nat) (x7 : Nat) (x8 : Nat) (x9 : Int32) (x10 : Int32) (h : zz_H) (n : Nat), K_226 x0 x1 x2 x3 x5 x6 x7 x8 x9 x10 h n → ∀ {H : Heap} {locs : List Loc} {ls : Array Slot}, zz_R D dA base h n s H locs → lv_has ls 35 [(0, .ref x0), (1, .ref x1), (2, .int x2), (3, .int x3), (4, .int (1 : Int32)), (5, .int x5), (6, .ref x6), (7, .ref x7), (8, .ref x8), (9, .int x9), (10, .int x10)] → W p l e room_1 s m args below meth c H locs (cs + 200) (ss + 2000) Q (F0 m 226 ls [])) (kk_360 : ∀ (x0 : Nat) (x1 : Nat) (x2 : Int32) (x3 : Int32) (x6 : Nat) (x7 : Nat) (x8 : Nat) (h : zz_H) (n : Nat), K_360 x0 x1 x2 x3 x6 x7 x8 h n → ∀ {H : Heap} {locs : List Loc} {ls : Array Slot}, zz_R D dA base h n s H locs → lv_has ls 35 [(0, .ref x0), (1, .ref x1), (2, .int x2), (3, .int x3), (4, .int (1 : Int32)), (6, .ref x6), (7, .ref x7), (8, .ref x8)] → W p l e room_1 s m args below meth c H locs (cs + 200) (ss + 2000) Q (F0 m 360 ls [])) {h : zz_H} {n : Nat} {H : Heap} {locs : List Loc} {ls : Array Slot} (hR : zz_R D dA base h n s H locs) (hl : lv_has ls 35 [(0, .ref x0), (1, .ref x1), (2, .int x2), (3, .int x3), (4, .int (1 : Int32)), (5, .int x5), (6, .ref x6), (7, .ref x7), (8, .ref x8), (9, .int x9)]) (hf : w_210 t0 x0 x1 x2 x3 x5 x6 x7 x8 x9 h n K_226 K_360) : W p l e room_1 s m args below meth c H locs cs ss Q (F0 m 210 ls []) := by
  have hx := X.1
  have hb := X.2.1
  have hown := X.2.2.2.2.1
  unfold w_210 at hf
  refine lv_iload hx hb dL_law_210 (lv_at hl 9 rfl) ?_
  refine lv_iload_n hx hb dL_law_212 rfl (lv_at hl 2 rfl) ?_
  refine lv_icmp_ge (tgt := 360) hx hb dL_law_213 (by decide) (fun c213 => ?_) (fun c213 => ?_)
  · replace hf := hf.1 c213
    refine W.widen (k := cs + 200) (n := ss + 2000) (by omega) (by omega) ?_
    exact kk_360 _ _ _ _ _ _ _ _ _ hf hR (lv_sub hl [0, 1, 2, 3, 4, 6, 7, 8] rfl)
  · replace hf := hf.2 c213
    refine lv_aload hx hb dL_law_216 (lv_at hl 7 rfl) ?_
    refine lv_iload hx hb dL_law_218 (lv_at hl 9 rfl) ?_
    refine lv_bipush (v := (99 : Int32)) hx hb dL_law_220 (by decide) ?_
    obtain ⟨h222q, hv222, hf⟩ := hf
    refine zr_iast X hR (r := (some x7)) dL_law_222 hv222 (fun h222 H locs hvv hR => ?_)
    have hvv := Option.some.inj hvv
    subst hvv
    refine lv_iconst (v := (0 : Int32)) hx hb dL_law_223 (by decide) ?_
    refine lv_istore (i := 10) (lv' := [(10, .int (0 : Int32)), (0, .ref x0), (1, .ref x1), (2, .int x2), (3, .int x3), (4, .int (1 : Int32)), (5, .int x5), (6, .ref x6), (7, .ref x7), (8, .ref x8), (9, .int x9)]) hx hb dL_law_224 hl (by decide) rfl (fun ls hl => ?_)
    refine W.widen (k := cs + 200) (n := ss + 2000) (by omega) (by omega) ?_
    exact kk_226 _ _ _ _ _ _ _ _ _ _ _ _ hf hR (lv_sub hl [1, 2, 3, 4, 5, 6, 7, 8, 9, 10, 0] rfl)
set_option maxHeartbeats 4000000 in
set_option maxRecDepth 100000 in
theorem lc_226 {D : va_G} {dA : Nat → ClassId} {base t0 : Nat} {l : Launch} {p : Program} {e : Env} {s : State} {m : MethodId} {args : Array Value} {below : List Frame} {meth : Method} {c : Code} {Q : State → Prop} {cs ss : Nat} (X : zz_X D dA base t0 "SpringseatLaw" cL_law 35 (some .boolean) l p s m meth c) (hT : l.stackTraces = false) (hN : zz_N s) (hc : cs + 200 ≤ 600104) (hs : ss + 2000 ≤ 7301313) {x0 : Nat} {x1 : Nat} {x2 : Int32} {x3 : Int32} {x5 : Int32} {x6 : Nat} {x7 : Nat} {x8 : Nat} {x9 : Int32} {x10 : Int32} {K_210 : Nat → Nat → Int32 → Int32 → Int32 → Nat → Nat → Nat → Int32 → zz_H → Nat → Prop} {K_226 : Nat → Nat → Int32 → Int32 → Int32 → Nat → Nat → Nat → Int32 → Int32 → zz_H → Nat → Prop} (kk_210 : ∀ (x0 : Nat) (x1 : Nat) (x2 : Int32) (x3 : Int32) (x5 : Int32) (x6 : Nat) (x7 : Nat) (x8 : Nat) (x9 : Int32) (h : zz_H) (n : Nat), K_210 x0 x1 x2 x3 x5 x6 x7 x8 x9 h n → ∀ {H : Heap} {locs : List Loc} {ls : Array Slot}, zz_R D dA base h n s H locs → lv_has ls 35 [(0, .ref x0), (1, .ref x1), (2, .int x2), (3, .int x3), (4, .int (1 : Int32)), (5, .int x5), (6, .ref x6), (7, .ref x7), (8, .ref x8), (9, .int x9)] → W p l e room_1 s m args below meth c H locs (cs + 200) (ss + 2000) Q (F0 m 210 ls [])) (kk_226 : ∀ (x0 : Nat) (x1 : Nat) (x2 : Int32) (x3 : Int32) (x5 : Int32) (x6 : Nat) (x7 : Nat) (x8 : Nat) (x9 : Int32) (x10 : Int32) (h : zz_H) (n : Nat), K_226 x0 x1 x2 x3 x5 x6 x7 x8 x9 x10 h n → ∀ {H : Heap} {locs : List Loc} {ls : Array Slot}, zz_R D dA base h n s H locs → lv_has ls 35 [(0, .ref x0), (1, .ref x1), (2, .int x2), (3, .int x3), (4, .int (1 : Int32)), (5, .int x5), (6, .ref x6), (7, .ref x7), (8, .ref x8), (9, .int x9), (10, .int x10)] → W p l e room_1 s m args below meth c H locs (cs + 200) (ss + 2000) Q (F0 m 226 ls [])) {h : zz_H} {n : Nat} {H : Heap} {locs : List Loc} {ls : Array Slot} (hR : zz_R D dA base h n s H locs) (hl : lv_has ls 35 [(0, .ref x0), (1, .ref x1), (2, .int x2), (3, .int x3), (4, .int (1 : Int32)), (5, .int x5), (6, .ref x6), (7, .ref x7), (8, .ref x8), (9, .int x9), (10, .int x10)]) (hf : w_226 t0 x0 x1 x2 x3 x5 x6 x7 x8 x9 x10 h n K_210 K_226) : W p l e room_1 s m args below meth c H locs cs ss Q (F0 m 226 ls []) := by
  have hx := X.1
  have hb := X.2.1
  have hown := X.2.2.2.2.1
  unfold w_226 at hf
  refine lv_iload hx hb dL_law_226 (lv_at hl 10 rfl) ?_
  refine lv_iload_n hx hb dL_law_228 rfl (lv_at hl 3 rfl) ?_
  refine lv_icmp_ge (tgt := 354) hx hb dL_law_229 (by decide) (fun c229 => ?_) (fun c229 => ?_)
  · replace hf := hf.1 c229
    refine lv_iinc (i := 9) (v := (x9 + (1 : Int32))) (lv' := [(9, .int (x9 + (1 : Int32))), (0, .ref x0), (1, .ref x1), (2, .int x2), (3, .int x3), (4, .int (1 : Int32)), (5, .int x5), (6, .ref x6), (7, .ref x7), (8, .ref x8), (10, .int x10)]) hx hb dL_law_354 hl (k := 9) rfl rfl (by decide) rfl (fun ls hl => ?_)
    refine lv_goto (tgt := 210) hx hb dL_law_357 (by decide) ?_
    refine W.widen (k := cs + 200) (n := ss + 2000) (by omega) (by omega) ?_
    exact kk_210 _ _ _ _ _ _ _ _ _ _ _ hf hR (lv_sub hl [1, 2, 3, 4, 5, 6, 7, 8, 9, 0] rfl)
  · replace hf := hf.2 c229
    refine lv_aload hx hb dL_law_232 (lv_at hl 8 rfl) ?_
    refine lv_iload hx hb dL_law_234 (lv_at hl 10 rfl) ?_
    refine lv_bipush (v := (99 : Int32)) hx hb dL_law_236 (by decide) ?_
    obtain ⟨h238q, hv238, hf⟩ := hf
    refine zr_iast X hR (r := (some x8)) dL_law_238 hv238 (fun h238 H locs hvv hR => ?_)
    have hvv := Option.some.inj hvv
    subst hvv
    refine lv_aload hx hb dL_law_239 (lv_at hl 6 rfl) ?_
    refine lv_iload hx hb dL_law_241 (lv_at hl 9 rfl) ?_
    obtain ⟨v243q, hv243, hf⟩ := hf
    refine zr_aald X hR (t := 6) (r := (some x6)) (by decide) rfl dL_law_243 hv243 (fun v243 hvv => ?_)
    have hvv := Option.some.inj hvv
    subst hvv
    refine lv_iload hx hb dL_law_244 (lv_at hl 10 rfl) ?_
    refine lv_iload hx hb dL_law_246 (lv_at hl 5 rfl) ?_
    obtain ⟨h248q, hv248, hf⟩ := hf
    refine zr_iast X hR (r := v243) dL_law_248 hv248 (fun h248 H locs hvv hR => ?_)
    have hvv := Option.some.inj hvv
    subst hvv
    refine lv_aload_n hx hb dL_law_249 rfl (lv_at hl 0 rfl) ?_
    refine lv_bipush (v := (10 : Int32)) hx hb dL_law_250 (by decide) ?_
    refine lv_iconst (v := (4 : Int32)) hx hb dL_law_252 (by decide) ?_
    refine lv_iload hx hb dL_law_253 (lv_at hl 9 rfl) ?_
    refine lv_imul hx hb dL_law_255 ?_
    refine lv_iadd hx hb dL_law_256 ?_
    refine lv_iload hx hb dL_law_257 (lv_at hl 10 rfl) ?_
    refine lv_iadd hx hb dL_law_259 ?_
    refine lv_iconst (v := (2 : Int32)) hx hb dL_law_260 (by decide) ?_
    obtain ⟨v261, hv261, hf⟩ := hf
    refine zr_cS X hR hl.1 (As := [.ref x0, .int (((10 : Int32) + ((4 : Int32) * x9)) + x10), .int (2 : Int32)]) (rest := []) (mt_L_in hT x0 (((10 : Int32) + ((4 : Int32) * x9)) + x10) (2 : Int32) h248 n hv261) mf_L_in q_1000 q_1001 ⟨Nat.le_of_ble_eq_true rfl, Nat.le_of_ble_eq_true rfl⟩ ⟨by show cs + 0 ≤ 600104; omega, by show ss + 0 ≤ 7301313; omega⟩ rfl (Nat.le_of_ble_eq_true rfl) dL_law_261 (fun H locs hR => ?_)
    refine W.eq (g2 := F0 m 264 ls [.int v261]) rfl ?_
    refine W.widen (k := cs) (n := ss) (Nat.le_refl _) (Nat.le_refl _) ?_
    refine lv_if_ne (tgt := 348) hx hb dL_law_264 (by decide) (fun c264 => ?_) (fun c264 => ?_)
    · replace hf := hf.2 c264
      refine lv_iinc (i := 10) (v := (x10 + (1 : Int32))) (lv' := [(10, .int (x10 + (1 : Int32))), (0, .ref x0), (1, .ref x1), (2, .int x2), (3, .int x3), (4, .int (1 : Int32)), (5, .int x5), (6, .ref x6), (7, .ref x7), (8, .ref x8), (9, .int x9)]) hx hb dL_law_348 hl (k := 10) rfl rfl (by decide) rfl (fun ls hl => ?_)
      refine lv_goto (tgt := 226) hx hb dL_law_351 (by decide) ?_
      refine W.widen (k := cs + 200) (n := ss + 2000) (by omega) (by omega) ?_
      exact kk_226 _ _ _ _ _ _ _ _ _ _ _ _ hf hR (lv_sub hl [1, 2, 3, 4, 5, 6, 7, 8, 9, 10, 0] rfl)
    · replace hf := hf.1 c264
      refine lv_aload hx hb dL_law_267 (lv_at hl 6 rfl) ?_
      refine lv_iload hx hb dL_law_269 (lv_at hl 9 rfl) ?_
      obtain ⟨v271q, hv271, hf⟩ := hf
      refine zr_aald X hR (t := 6) (r := (some x6)) (by decide) rfl dL_law_271 hv271 (fun v271 hvv => ?_)
      have hvv := Option.some.inj hvv
      subst hvv
      refine lv_iload hx hb dL_law_272 (lv_at hl 10 rfl) ?_
      refine lv_bipush (v := (20 : Int32)) hx hb dL_law_274 (by decide) ?_
      refine lv_aload_n hx hb dL_law_276 rfl (lv_at hl 0 rfl) ?_
      refine lv_bipush (v := (30 : Int32)) hx hb dL_law_277 (by decide) ?_
      refine lv_iconst (v := (4 : Int32)) hx hb dL_law_279 (by decide) ?_
      refine lv_iload hx hb dL_law_280 (lv_at hl 9 rfl) ?_
      refine lv_imul hx hb dL_law_282 ?_
      refine lv_iadd hx hb dL_law_283 ?_
      refine lv_iload hx hb dL_law_284 (lv_at hl 10 rfl) ?_
      refine lv_iadd hx hb dL_law_286 ?_
      refine lv_bipush (v := (80 : Int32)) hx hb dL_law_287 (by decide) ?_
      obtain ⟨v289, hv289, hf⟩ := hf
      refine zr_cS X hR hl.1 (As := [.ref x0, .int (((30 : Int32) + ((4 : Int32) * x9)) + x10), .int (80 : Int32)]) (rest := [.int (20 : Int32), .int x10, va_rf v271]) (mt_L_in hT x0 (((30 : Int32) + ((4 : Int32) * x9)) + x10) (80 : Int32) h248 n hv289) mf_L_in q_1000 q_1001 ⟨Nat.le_of_ble_eq_true rfl, Nat.le_of_ble_eq_true rfl⟩ ⟨by show cs + 0 ≤ 600104; omega, by show ss + 0 ≤ 7301313; omega⟩ rfl (Nat.le_of_ble_eq_true rfl) dL_law_289 (fun H locs hR => ?_)
      refine W.eq (g2 := F0 m 292 ls [.int v289, .int (20 : Int32), .int x10, va_rf v271]) rfl ?_
      refine W.widen (k := cs) (n := ss) (Nat.le_refl _) (Nat.le_refl _) ?_
      refine lv_iadd hx hb dL_law_292 ?_
      obtain ⟨h293q, hv293, hf⟩ := hf
      refine zr_iast X hR (r := v271) dL_law_293 hv293 (fun h293 H locs hvv hR => ?_)
      have hvv := Option.some.inj hvv
      subst hvv
      refine lv_iload hx hb dL_law_294 (lv_at hl 4 rfl) ?_
      refine lv_aload_n hx hb dL_law_296 rfl (lv_at hl 1 rfl) ?_
      refine lv_iconst (v := (0 : Int32)) hx hb dL_law_297 (by decide) ?_
      refine lv_bipush (v := (10 : Int32)) hx hb dL_law_298 (by decide) ?_
      refine lv_iload hx hb dL_law_300 (lv_at hl 9 rfl) ?_
      refine lv_imul hx hb dL_law_302 ?_
      refine lv_iload hx hb dL_law_303 (lv_at hl 10 rfl) ?_
      refine lv_iadd hx hb dL_law_305 ?_
      refine lv_aload hx hb dL_law_306 (lv_at hl 6 rfl) ?_
      refine lv_iload hx hb dL_law_308 (lv_at hl 9 rfl) ?_
      obtain ⟨v310q, hv310, hf⟩ := hf
      refine zr_aald X hR (t := 6) (r := (some x6)) (by decide) rfl dL_law_310 hv310 (fun v310 hvv => ?_)
      have hvv := Option.some.inj hvv
      subst hvv
      refine lv_iload hx hb dL_law_311 (lv_at hl 10 rfl) ?_
      obtain ⟨v313q, hv313, hf⟩ := hf
      refine zr_iald X hR (r := v310) dL_law_313 hv313 (fun v313 hvv => ?_)
      have hvv := Option.some.inj hvv
      subst hvv
      refine lv_iconst (v := (1 : Int32)) hx hb dL_law_314 (by decide) ?_
      refine lv_aload_n hx hb dL_law_315 rfl (lv_at hl 0 rfl) ?_
      refine lv_bipush (v := (50 : Int32)) hx hb dL_law_316 (by decide) ?_
      refine lv_iconst (v := (4 : Int32)) hx hb dL_law_318 (by decide) ?_
      refine lv_iload hx hb dL_law_319 (lv_at hl 9 rfl) ?_
      refine lv_imul hx hb dL_law_321 ?_
      refine lv_iadd hx hb dL_law_322 ?_
      refine lv_iload hx hb dL_law_323 (lv_at hl 10 rfl) ?_
      refine lv_iadd hx hb dL_law_325 ?_
      refine lv_bipush (v := (9 : Int32)) hx hb dL_law_326 (by decide) ?_
      obtain ⟨v328, hv328, hf⟩ := hf
      refine zr_cSw X hR hl.1 (As := [.ref x0, .int (((50 : Int32) + ((4 : Int32) * x9)) + x10), .int (9 : Int32)]) (rest := [.int (1 : Int32), .int v313, .int (((10 : Int32) * x9) + x10), .int (0 : Int32), .ref x1, .int (1 : Int32)]) (mt_L_in hT x0 (((50 : Int32) + ((4 : Int32) * x9)) + x10) (9 : Int32) h293 n hv328) mf_L_in q_1000 q_1001 ⟨Nat.le_of_ble_eq_true rfl, Nat.le_of_ble_eq_true rfl⟩ ⟨by show cs + 0 ≤ 600104; omega, by show ss + 0 ≤ 7301313; omega⟩ rfl (Nat.le_of_ble_eq_true rfl) dL_law_328 (fun H locs hR => ?_)
      refine W.eq (g2 := F0 m 331 ls [.int v328, .int (1 : Int32), .int v313, .int (((10 : Int32) * x9) + x10), .int (0 : Int32), .ref x1, .int (1 : Int32)]) rfl ?_
      refine W.widen (k := cs) (n := ss) (Nat.le_refl _) (Nat.le_refl _) ?_
      refine lv_iadd hx hb dL_law_331 ?_
      obtain ⟨v332, h332, m332, hv332, hf⟩ := hf
      refine zl_cS X hN hR hl.1 (As := [.ref x1, .int (0 : Int32), .int (((10 : Int32) * x9) + x10), .int v313, .int ((1 : Int32) + v328)]) (rest := [.int (1 : Int32)]) (mt_L_change hT x1 (0 : Int32) (((10 : Int32) * x9) + x10) v313 ((1 : Int32) + v328) h293 n hv332) mf_L_change.1 mf_L_change.2.1 mf_L_change.2.2 q_705 q_706 ⟨Nat.le_of_ble_eq_true rfl, Nat.le_of_ble_eq_true rfl⟩ ⟨by show cs + 6 ≤ 600104; omega, by show ss + 36 ≤ 7301313; omega⟩ rfl (Nat.le_of_ble_eq_true rfl) dL_law_332 (fun n332 H locs hn332 hR => ?_)
      replace hf := hf n332 hn332
      refine W.eq (g2 := F0 m 335 ls [.int v332, .int (1 : Int32)]) rfl ?_
      refine W.widen (k := cs + 6) (n := ss + 36) (by show cs + 6 ≤ _; omega) (by show ss + 36 ≤ _; omega) ?_
      refine lv_iload hx hb dL_law_335 (lv_at hl 5 rfl) ?_
      obtain ⟨hc337, hf⟩ := hf
      refine lv_icmp_ne (tgt := 344) hx hb dL_law_337 (by decide) (fun c337 => ?_) (fun c337 => ?_)
      · exact absurd hc337 c337
      refine lv_iconst (v := (1 : Int32)) hx hb dL_law_340 (by decide) ?_
      refine lv_goto (tgt := 345) hx hb dL_law_341 (by decide) ?_
      refine lv_iand hx hb dL_law_345 ?_
      refine W.eq (g2 := F0 m 346 ls [.int (1 : Int32)]) rfl ?_
      refine lv_istore (i := 4) (lv' := [(4, .int (1 : Int32)), (0, .ref x0), (1, .ref x1), (2, .int x2), (3, .int x3), (5, .int x5), (6, .ref x6), (7, .ref x7), (8, .ref x8), (9, .int x9), (10, .int x10)]) hx hb dL_law_346 hl (by decide) rfl (fun ls hl => ?_)
      refine lv_iinc (i := 10) (v := (x10 + (1 : Int32))) (lv' := [(10, .int (x10 + (1 : Int32))), (4, .int (1 : Int32)), (0, .ref x0), (1, .ref x1), (2, .int x2), (3, .int x3), (5, .int x5), (6, .ref x6), (7, .ref x7), (8, .ref x8), (9, .int x9)]) hx hb dL_law_348 hl (k := 10) rfl rfl (by decide) rfl (fun ls hl => ?_)
      refine lv_goto (tgt := 226) hx hb dL_law_351 (by decide) ?_
      refine W.widen (k := cs + 200) (n := ss + 2000) (by omega) (by omega) ?_
      exact kk_226 _ _ _ _ _ _ _ _ _ _ _ _ hf hR (lv_sub hl [2, 3, 4, 5, 1, 6, 7, 8, 9, 10, 0] rfl)
set_option maxHeartbeats 4000000 in
set_option maxRecDepth 100000 in
theorem lc_360 {D : va_G} {dA : Nat → ClassId} {base t0 : Nat} {l : Launch} {p : Program} {e : Env} {s : State} {m : MethodId} {args : Array Value} {below : List Frame} {meth : Method} {c : Code} {Q : State → Prop} {cs ss : Nat} (X : zz_X D dA base t0 "SpringseatLaw" cL_law 35 (some .boolean) l p s m meth c) (hT : l.stackTraces = false) (hN : zz_N s) (hc : cs + 200 ≤ 600104) (hs : ss + 2000 ≤ 7301313) {x0 : Nat} {x1 : Nat} {x2 : Int32} {x3 : Int32} {x6 : Nat} {x7 : Nat} {x8 : Nat} {K_446 : Nat → Nat → Int32 → Int32 → Nat → Nat → Nat → Int32 → Int32 → zz_H → Nat → Prop} {K_836 : Nat → Nat → Int32 → Int32 → Nat → Nat → Nat → Int32 → Int32 → zz_H → Nat → Prop} (kk_446 : ∀ (x0 : Nat) (x1 : Nat) (x2 : Int32) (x3 : Int32) (x6 : Nat) (x7 : Nat) (x8 : Nat) (x9 : Int32) (x12 : Int32) (h : zz_H) (n : Nat), K_446 x0 x1 x2 x3 x6 x7 x8 x9 x12 h n → ∀ {H : Heap} {locs : List Loc} {ls : Array Slot}, zz_R D dA base h n s H locs → lv_has ls 35 [(0, .ref x0), (1, .ref x1), (2, .int x2), (3, .int x3), (4, .int (1 : Int32)), (6, .ref x6), (7, .ref x7), (8, .ref x8), (9, .int x9), (12, .int x12)] → W p l e room_1 s m args below meth c H locs (cs + 200) (ss + 2000) Q (F0 m 446 ls [])) (kk_836 : ∀ (x0 : Nat) (x1 : Nat) (x2 : Int32) (x3 : Int32) (x6 : Nat) (x7 : Nat) (x8 : Nat) (x9 : Int32) (x10 : Int32) (h : zz_H) (n : Nat), K_836 x0 x1 x2 x3 x6 x7 x8 x9 x10 h n → ∀ {H : Heap} {locs : List Loc} {ls : Array Slot}, zz_R D dA base h n s H locs → lv_has ls 35 [(0, .ref x0), (1, .ref x1), (2, .int x2), (3, .int x3), (4, .int (1 : Int32)), (6, .ref x6), (7, .ref x7), (8, .ref x8), (9, .int x9), (10, .int x10)] → W p l e room_1 s m args below meth c H locs (cs + 200) (ss + 2000) Q (F0 m 836 ls [])) {h : zz_H} {n : Nat} {H : Heap} {locs : List Loc} {ls : Array Slot} (hR : zz_R D dA base h n s H locs) (hl : lv_has ls 35 [(0, .ref x0), (1, .ref x1), (2, .int x2), (3, .int x3), (4, .int (1 : Int32)), (6, .ref x6), (7, .ref x7), (8, .ref x8)]) (hf : w_360 t0 x0 x1 x2 x3 x6 x7 x8 h n K_446 K_836) : W p l e room_1 s m args below meth c H locs cs ss Q (F0 m 360 ls []) := by
  have hx := X.1
  have hb := X.2.1
  have hown := X.2.2.2.2.1
  unfold w_360 at hf
  refine lv_iload hx hb dL_law_360 (lv_at hl 4 rfl) ?_
  refine lv_aload_n hx hb dL_law_362 rfl (lv_at hl 1 rfl) ?_
  refine lv_iconst (v := (0 : Int32)) hx hb dL_law_363 (by decide) ?_
  obtain ⟨v364, h364, m364, hv364, hf⟩ := hf
  refine zl_cS X hN hR hl.1 (As := [.ref x1, .int (0 : Int32)]) (rest := [.int (1 : Int32)]) (mt_L_sign hT x1 (0 : Int32) h n hv364) mf_L_sign.1 mf_L_sign.2.1 mf_L_sign.2.2 q_844 q_845 ⟨Nat.le_of_ble_eq_true rfl, Nat.le_of_ble_eq_true rfl⟩ ⟨by show cs + 2 ≤ 600104; omega, by show ss + 12 ≤ 7301313; omega⟩ rfl (Nat.le_of_ble_eq_true rfl) dL_law_364 (fun n364 H locs hn364 hR => ?_)
  replace hf := hf n364 hn364
  refine W.eq (g2 := F0 m 367 ls [.int v364, .int (1 : Int32)]) rfl ?_
  refine W.widen (k := cs + 2) (n := ss + 12) (by show cs + 2 ≤ _; omega) (by show ss + 12 ≤ _; omega) ?_
  refine lv_iconst (v := (2 : Int32)) hx hb dL_law_367 (by decide) ?_
  obtain ⟨hc368, hf⟩ := hf
  refine lv_icmp_ne (tgt := 389) hx hb dL_law_368 (by decide) (fun c368 => ?_) (fun c368 => ?_)
  · exact absurd hc368 c368
  refine lv_aload_n hx hb dL_law_371 rfl (lv_at hl 1 rfl) ?_
  refine lv_iconst (v := (0 : Int32)) hx hb dL_law_372 (by decide) ?_
  refine lv_iconst (v := (0 : Int32)) hx hb dL_law_373 (by decide) ?_
  refine lv_bipush (v := (50 : Int32)) hx hb dL_law_374 (by decide) ?_
  refine lv_iconst (v := (5 : Int32)) hx hb dL_law_376 (by decide) ?_
  obtain ⟨v377, h377, m377, hv377, hf⟩ := hf
  refine zl_cS X hN hR hl.1 (As := [.ref x1, .int (0 : Int32), .int (0 : Int32), .int (50 : Int32), .int (5 : Int32)]) (rest := [.int (1 : Int32)]) (mt_L_change hT x1 (0 : Int32) (0 : Int32) (50 : Int32) (5 : Int32) h364 n364 hv377) mf_L_change.1 mf_L_change.2.1 mf_L_change.2.2 q_705 q_706 ⟨Nat.le_of_ble_eq_true rfl, Nat.le_of_ble_eq_true rfl⟩ ⟨by show cs + 2 + 6 ≤ 600104; omega, by show ss + 12 + 36 ≤ 7301313; omega⟩ rfl (Nat.le_of_ble_eq_true rfl) dL_law_377 (fun n377 H locs hn377 hR => ?_)
  replace hf := hf n377 hn377
  refine W.eq (g2 := F0 m 380 ls [.int v377, .int (1 : Int32)]) rfl ?_
  refine W.widen (k := cs + 8) (n := ss + 48) (by show cs + 2 + 6 ≤ _; omega) (by show ss + 12 + 36 ≤ _; omega) ?_
  refine lv_ldc hx hb hown (zz_w X q_686) dL_law_380 ?_
  obtain ⟨hc382, hf⟩ := hf
  refine lv_icmp_ne (tgt := 389) hx hb dL_law_382 (by decide) (fun c382 => ?_) (fun c382 => ?_)
  · exact absurd hc382 c382
  refine lv_iconst (v := (1 : Int32)) hx hb dL_law_385 (by decide) ?_
  refine lv_goto (tgt := 390) hx hb dL_law_386 (by decide) ?_
  refine lv_iand hx hb dL_law_390 ?_
  refine W.eq (g2 := F0 m 391 ls [.int (1 : Int32)]) rfl ?_
  refine lv_istore (i := 4) (lv' := [(4, .int (1 : Int32)), (0, .ref x0), (1, .ref x1), (2, .int x2), (3, .int x3), (6, .ref x6), (7, .ref x7), (8, .ref x8)]) hx hb dL_law_391 hl (by decide) rfl (fun ls hl => ?_)
  refine lv_iconst (v := (5 : Int32)) hx hb dL_law_393 (by decide) ?_
  refine lv_iload_n hx hb dL_law_394 rfl (lv_at hl 3 rfl) ?_
  refine lv_imul hx hb dL_law_395 ?_
  refine lv_iload_n hx hb dL_law_396 rfl (lv_at hl 4 rfl) ?_
  refine lv_imul hx hb dL_law_397 ?_
  refine lv_istore (i := 9) (lv' := [(9, .int (((5 : Int32) * x2) * x3)), (4, .int (1 : Int32)), (0, .ref x0), (1, .ref x1), (2, .int x2), (3, .int x3), (6, .ref x6), (7, .ref x7), (8, .ref x8)]) hx hb dL_law_398 hl (by decide) rfl (fun ls hl => ?_)
  refine lv_iconst (v := (2 : Int32)) hx hb dL_law_400 (by decide) ?_
  refine lv_istore (i := 10) (lv' := [(10, .int (2 : Int32)), (9, .int (((5 : Int32) * x2) * x3)), (4, .int (1 : Int32)), (0, .ref x0), (1, .ref x1), (2, .int x2), (3, .int x3), (6, .ref x6), (7, .ref x7), (8, .ref x8)]) hx hb dL_law_401 hl (by decide) rfl (fun ls hl => ?_)
  obtain ⟨w403_11, hg403, hf⟩ := hf
  refine bk_L_law_403 (r0 := 0) (cs := cs + 8) (ss := ss + 48) (n := n377) X hT (by omega) (by omega) hR (lv_sub hl [3, 4, 5, 6, 2, 7, 8, 9, 1, 0] rfl) hg403 (fun y403_11 e H locs ls hR hl => ?_) (fun r e => by cases e)
  cases e
  refine lv_iload hx hb dL_law_419 (lv_at hl 10 rfl) ?_
  refine lv_if_eq (tgt := 836) hx hb dL_law_421 (by decide) (fun c421 => ?_) (fun c421 => ?_)
  · replace hf := hf.1 c421
    refine W.widen (k := cs + 200) (n := ss + 2000) (by omega) (by omega) ?_
    exact kk_836 _ _ _ _ _ _ _ _ _ _ _ hf hR (lv_sub hl [0, 1, 2, 3, 4, 5, 6, 7, 8, 9] rfl)
  · replace hf := hf.2 c421
    refine lv_iload hx hb dL_law_424 (lv_at hl 4 rfl) ?_
    refine lv_aload_n hx hb dL_law_426 rfl (lv_at hl 1 rfl) ?_
    refine lv_iconst (v := (0 : Int32)) hx hb dL_law_427 (by decide) ?_
    obtain ⟨v428, h428, m428, hv428, hf⟩ := hf
    refine zl_cS X hN hR hl.1 (As := [.ref x1, .int (0 : Int32)]) (rest := [.int (1 : Int32)]) (mt_L_tie hT x1 (0 : Int32) h377 n377 hv428) mf_L_tie.1 mf_L_tie.2.1 mf_L_tie.2.2 q_726 q_727 ⟨Nat.le_of_ble_eq_true rfl, Nat.le_of_ble_eq_true rfl⟩ ⟨by show cs + 8 + 2 ≤ 600104; omega, by show ss + 48 + 12 ≤ 7301313; omega⟩ rfl (Nat.le_of_ble_eq_true rfl) dL_law_428 (fun n428 H locs hn428 hR => ?_)
    replace hf := hf n428 hn428
    refine W.eq (g2 := F0 m 431 ls [.int v428, .int (1 : Int32)]) rfl ?_
    refine W.widen (k := cs + 10) (n := ss + 60) (by show cs + 8 + 2 ≤ _; omega) (by show ss + 48 + 12 ≤ _; omega) ?_
    refine lv_iconst (v := (2 : Int32)) hx hb dL_law_431 (by decide) ?_
    obtain ⟨hc432, hf⟩ := hf
    refine lv_icmp_ne (tgt := 439) hx hb dL_law_432 (by decide) (fun c432 => ?_) (fun c432 => ?_)
    · exact absurd hc432 c432
    refine lv_iconst (v := (1 : Int32)) hx hb dL_law_435 (by decide) ?_
    refine lv_goto (tgt := 440) hx hb dL_law_436 (by decide) ?_
    refine lv_iand hx hb dL_law_440 ?_
    refine W.eq (g2 := F0 m 441 ls [.int (1 : Int32)]) rfl ?_
    refine lv_istore (i := 4) (lv' := [(4, .int (1 : Int32)), (0, .ref x0), (1, .ref x1), (2, .int x2), (3, .int x3), (6, .ref x6), (7, .ref x7), (8, .ref x8), (9, .int (((5 : Int32) * x2) * x3)), (10, .int (2 : Int32)), (11, .int w403_11)]) hx hb dL_law_441 hl (by decide) rfl (fun ls hl => ?_)
    refine lv_iconst (v := (0 : Int32)) hx hb dL_law_443 (by decide) ?_
    refine lv_istore (i := 12) (lv' := [(12, .int (0 : Int32)), (4, .int (1 : Int32)), (0, .ref x0), (1, .ref x1), (2, .int x2), (3, .int x3), (6, .ref x6), (7, .ref x7), (8, .ref x8), (9, .int (((5 : Int32) * x2) * x3)), (10, .int (2 : Int32)), (11, .int w403_11)]) hx hb dL_law_444 hl (by decide) rfl (fun ls hl => ?_)
    refine W.widen (k := cs + 200) (n := ss + 2000) (by omega) (by omega) ?_
    exact kk_446 _ _ _ _ _ _ _ _ _ _ _ hf hR (lv_sub hl [2, 3, 4, 5, 1, 6, 7, 8, 9, 0] rfl)
set_option maxHeartbeats 4000000 in
set_option maxRecDepth 100000 in
theorem lc_446 {D : va_G} {dA : Nat → ClassId} {base t0 : Nat} {l : Launch} {p : Program} {e : Env} {s : State} {m : MethodId} {args : Array Value} {below : List Frame} {meth : Method} {c : Code} {Q : State → Prop} {cs ss : Nat} (X : zz_X D dA base t0 "SpringseatLaw" cL_law 35 (some .boolean) l p s m meth c) (hT : l.stackTraces = false) (hN : zz_N s) (hc : cs + 200 ≤ 600104) (hs : ss + 2000 ≤ 7301313) {x0 : Nat} {x1 : Nat} {x2 : Int32} {x3 : Int32} {x6 : Nat} {x7 : Nat} {x8 : Nat} {x9 : Int32} {x12 : Int32} {K_446 : Nat → Nat → Int32 → Int32 → Nat → Nat → Nat → Int32 → Int32 → zz_H → Nat → Prop} {K_786 : Nat → Nat → Int32 → Int32 → Nat → Nat → Nat → Int32 → zz_H → Nat → Prop} (kk_446 : ∀ (x0 : Nat) (x1 : Nat) (x2 : Int32) (x3 : Int32) (x6 : Nat) (x7 : Nat) (x8 : Nat) (x9 : Int32) (x12 : Int32) (h : zz_H) (n : Nat), K_446 x0 x1 x2 x3 x6 x7 x8 x9 x12 h n → ∀ {H : Heap} {locs : List Loc} {ls : Array Slot}, zz_R D dA base h n s H locs → lv_has ls 35 [(0, .ref x0), (1, .ref x1), (2, .int x2), (3, .int x3), (4, .int (1 : Int32)), (6, .ref x6), (7, .ref x7), (8, .ref x8), (9, .int x9), (12, .int x12)] → W p l e room_1 s m args below meth c H locs (cs + 200) (ss + 2000) Q (F0 m 446 ls [])) (kk_786 : ∀ (x0 : Nat) (x1 : Nat) (x2 : Int32) (x3 : Int32) (x6 : Nat) (x7 : Nat) (x8 : Nat) (x9 : Int32) (h : zz_H) (n : Nat), K_786 x0 x1 x2 x3 x6 x7 x8 x9 h n → ∀ {H : Heap} {locs : List Loc} {ls : Array Slot}, zz_R D dA base h n s H locs → lv_has ls 35 [(0, .ref x0), (1, .ref x1), (2, .int x2), (3, .int x3), (4, .int (1 : Int32)), (6, .ref x6), (7, .ref x7), (8, .ref x8), (9, .int x9)] → W p l e room_1 s m args below meth c H locs (cs + 200) (ss + 2000) Q (F0 m 786 ls [])) {h : zz_H} {n : Nat} {H : Heap} {locs : List Loc} {ls : Array Slot} (hR : zz_R D dA base h n s H locs) (hl : lv_has ls 35 [(0, .ref x0), (1, .ref x1), (2, .int x2), (3, .int x3), (4, .int (1 : Int32)), (6, .ref x6), (7, .ref x7), (8, .ref x8), (9, .int x9), (12, .int x12)]) (hf : w_446 t0 x0 x1 x2 x3 x6 x7 x8 x9 x12 h n K_446 K_786) : W p l e room_1 s m args below meth c H locs cs ss Q (F0 m 446 ls []) := by
  have hx := X.1
  have hb := X.2.1
  have hown := X.2.2.2.2.1
  unfold w_446 at hf
  refine lv_iload hx hb dL_law_446 (lv_at hl 9 rfl) ?_
  refine lv_iconst (v := (4 : Int32)) hx hb dL_law_448 (by decide) ?_
  refine lv_icmp_ge (tgt := 786) hx hb dL_law_449 (by decide) (fun c449 => ?_) (fun c449 => ?_)
  · replace hf := hf.1 c449
    refine W.widen (k := cs + 200) (n := ss + 2000) (by omega) (by omega) ?_
    exact kk_786 _ _ _ _ _ _ _ _ _ _ hf hR (lv_sub hl [0, 1, 2, 3, 4, 5, 6, 7, 8] rfl)
  · replace hf := hf.2 c449
    obtain ⟨w452_13, w452_14, w452_15, w452_16, hg452, hf⟩ := hf
    refine bk_L_law_452 (r0 := 0) (cs := cs) (ss := ss) (n := n) X hT (by omega) (by omega) hR (lv_sub hl [0, 1, 2, 3, 4, 5, 6, 7, 8, 9] rfl) hg452 (fun y452_13 y452_14 y452_15 y452_16 e H locs ls hR hl => ?_) (fun r e => by cases e)
    cases e
    refine lv_aload hx hb dL_law_687 (lv_at hl 6 rfl) ?_
    refine lv_iload hx hb dL_law_689 (lv_at hl 10 rfl) ?_
    have kJ : ∀ w691 : Int32, w691 = (if w452_13 = (0 : Int32) then (0 : Int32) else w452_14) → W p l e room_1 s m args below meth c H locs cs ss Q (F0 m 700 ls [.int w691, .ref x7]) := by
      intro w691 hw691
      replace hf := hf w691 hw691
      refine lv_iload hx hb dL_law_700 (lv_at hl 10 rfl) ?_
      obtain ⟨v713, hv713, hf⟩ := hf
      have kJ : ∀ w702 : Int32, w702 = (if w452_13 = (0 : Int32) then v713 else w452_15) → W p l e room_1 s m args below meth c H locs cs ss Q (F0 m 714 ls [.int w702, .int w691, .ref x7]) := by
        intro w702 hw702
        replace hf := hf w702 hw702
        obtain ⟨h714q, hv714, hf⟩ := hf
        refine zr_iast X hR (r := (some x7)) dL_law_714 hv714 (fun h714 H locs hvv hR => ?_)
        have hvv := Option.some.inj hvv
        subst hvv
        refine lv_aload hx hb dL_law_715 (lv_at hl 7 rfl) ?_
        refine lv_iload hx hb dL_law_717 (lv_at hl 10 rfl) ?_
        have kJ : ∀ w719 : Int32, w719 = (if w452_13 = (0 : Int32) then w452_14 else (0 : Int32)) → W p l e room_1 s m args below meth c H locs cs ss Q (F0 m 728 ls [.int w719, .ref x8]) := by
          intro w719 hw719
          replace hf := hf w719 hw719
          refine lv_iload hx hb dL_law_728 (lv_at hl 10 rfl) ?_
          obtain ⟨v736, hv736, hf⟩ := hf
          have kJ : ∀ w730 : Int32, w730 = (if w452_13 = (0 : Int32) then w452_15 else v736) → W p l e room_1 s m args below meth c H locs cs ss Q (F0 m 742 ls [.int w730, .int w719, .ref x8]) := by
            intro w730 hw730
            replace hf := hf w730 hw730
            obtain ⟨h742q, hv742, hf⟩ := hf
            refine zr_iast X hR (r := (some x8)) dL_law_742 hv742 (fun h742 H locs hvv hR => ?_)
            have hvv := Option.some.inj hvv
            subst hvv
            refine lv_iload hx hb dL_law_743 (lv_at hl 4 rfl) ?_
            refine lv_aload_n hx hb dL_law_745 rfl (lv_at hl 1 rfl) ?_
            refine lv_iconst (v := (0 : Int32)) hx hb dL_law_746 (by decide) ?_
            refine lv_iload hx hb dL_law_747 (lv_at hl 10 rfl) ?_
            refine lv_iload hx hb dL_law_749 (lv_at hl 11 rfl) ?_
            refine lv_iload hx hb dL_law_751 (lv_at hl 12 rfl) ?_
            obtain ⟨v753, h753, m753, hv753, hf⟩ := hf
            refine zl_cS X hN hR hl.1 (As := [.ref x1, .int (0 : Int32), .int w452_13, .int w452_14, .int w452_15]) (rest := [.int (1 : Int32)]) (mt_L_pull hT x1 (0 : Int32) w452_13 w452_14 w452_15 h742 n hv753) mf_L_pull.1 mf_L_pull.2.1 mf_L_pull.2.2 q_733 q_734 ⟨Nat.le_of_ble_eq_true rfl, Nat.le_of_ble_eq_true rfl⟩ ⟨by show cs + 4 ≤ 600104; omega, by show ss + 24 ≤ 7301313; omega⟩ rfl (Nat.le_of_ble_eq_true rfl) dL_law_753 (fun n753 H locs hn753 hR => ?_)
            replace hf := hf n753 hn753
            refine W.eq (g2 := F0 m 756 ls [.int v753, .int (1 : Int32)]) rfl ?_
            refine W.widen (k := cs + 4) (n := ss + 24) (by show cs + 4 ≤ _; omega) (by show ss + 24 ≤ _; omega) ?_
            refine lv_iload hx hb dL_law_756 (lv_at hl 13 rfl) ?_
            have kJ : ∀ w758 : Int32, w758 = (if (0 : Int32) ≤ w452_16 then w452_16 else (-w452_16)) → W p l e room_1 s m args below meth c H locs (cs + 4) (ss + 24) Q (F0 m 769 ls [.int w758, .int v753, .int (1 : Int32)]) := by
              intro w758 hw758
              replace hf := hf w758 hw758
              obtain ⟨hc769, hf⟩ := hf
              refine lv_icmp_ne (tgt := 776) hx hb dL_law_769 (by decide) (fun c769 => ?_) (fun c769 => ?_)
              · exact absurd hc769 c769
              refine lv_iconst (v := (1 : Int32)) hx hb dL_law_772 (by decide) ?_
              refine lv_goto (tgt := 777) hx hb dL_law_773 (by decide) ?_
              refine lv_iand hx hb dL_law_777 ?_
              refine W.eq (g2 := F0 m 778 ls [.int (1 : Int32)]) rfl ?_
              refine lv_istore (i := 4) (lv' := [(4, .int (1 : Int32)), (0, .ref x0), (1, .ref x1), (2, .int x2), (3, .int x3), (6, .ref x6), (7, .ref x7), (8, .ref x8), (9, .int x9), (12, .int x12), (13, .int w452_13), (14, .int w452_14), (15, .int w452_15), (16, .int w452_16)]) hx hb dL_law_778 hl (by decide) rfl (fun ls hl => ?_)
              refine lv_iinc (i := 12) (v := (x12 + (1 : Int32))) (lv' := [(12, .int (x12 + (1 : Int32))), (4, .int (1 : Int32)), (0, .ref x0), (1, .ref x1), (2, .int x2), (3, .int x3), (6, .ref x6), (7, .ref x7), (8, .ref x8), (9, .int x9), (13, .int w452_13), (14, .int w452_14), (15, .int w452_15), (16, .int w452_16)]) hx hb dL_law_780 hl (k := 9) rfl rfl (by decide) rfl (fun ls hl => ?_)
              refine lv_goto (tgt := 446) hx hb dL_law_783 (by decide) ?_
              refine W.widen (k := cs + 200) (n := ss + 2000) (by omega) (by omega) ?_
              exact kk_446 _ _ _ _ _ _ _ _ _ _ _ hf hR (lv_sub hl [2, 3, 4, 5, 1, 6, 7, 8, 9, 0] rfl)
            refine lv_if_ge (tgt := 767) hx hb dL_law_758 (by decide) (fun c758 => ?_) (fun c758 => ?_)
            · refine lv_iload hx hb dL_law_767 (lv_at hl 13 rfl) ?_
              exact kJ _ (by rw [if_pos c758])
            · refine lv_iload hx hb dL_law_761 (lv_at hl 13 rfl) ?_
              refine lv_ineg hx hb dL_law_763 ?_
              refine lv_goto (tgt := 769) hx hb dL_law_764 (by decide) ?_
              exact kJ _ (by rw [if_neg c758])
          refine lv_if_eq (tgt := 740) hx hb dL_law_730 (by decide) (fun c730 => ?_) (fun c730 => ?_)
          · refine lv_iload hx hb dL_law_740 (lv_at hl 12 rfl) ?_
            exact kJ _ (by rw [if_pos c730])
          · refine lv_aload hx hb dL_law_733 (lv_at hl 7 rfl) ?_
            refine lv_iconst (v := (0 : Int32)) hx hb dL_law_735 (by decide) ?_
            refine zr_iald X hR (r := (some x8)) dL_law_736 hv736 (fun v736q hvv => ?_)
            have hvv := Option.some.inj hvv
            rw [hvv]
            refine lv_goto (tgt := 742) hx hb dL_law_737 (by decide) ?_
            exact kJ _ (by rw [if_neg c730])
        refine lv_if_eq (tgt := 726) hx hb dL_law_719 (by decide) (fun c719 => ?_) (fun c719 => ?_)
        · refine lv_iload hx hb dL_law_726 (lv_at hl 11 rfl) ?_
          exact kJ _ (by rw [if_pos c719])
        · refine lv_iconst (v := (0 : Int32)) hx hb dL_law_722 (by decide) ?_
          refine lv_goto (tgt := 728) hx hb dL_law_723 (by decide) ?_
          exact kJ _ (by rw [if_neg c719])
      refine lv_if_eq (tgt := 710) hx hb dL_law_702 (by decide) (fun c702 => ?_) (fun c702 => ?_)
      · refine lv_aload hx hb dL_law_710 (lv_at hl 6 rfl) ?_
        refine lv_iconst (v := (0 : Int32)) hx hb dL_law_712 (by decide) ?_
        refine zr_iald X hR (r := (some x7)) dL_law_713 hv713 (fun v713q hvv => ?_)
        have hvv := Option.some.inj hvv
        rw [hvv]
        exact kJ _ (by rw [if_pos c702])
      · refine lv_iload hx hb dL_law_705 (lv_at hl 12 rfl) ?_
        refine lv_goto (tgt := 714) hx hb dL_law_707 (by decide) ?_
        exact kJ _ (by rw [if_neg c702])
    refine lv_if_eq (tgt := 699) hx hb dL_law_691 (by decide) (fun c691 => ?_) (fun c691 => ?_)
    · refine lv_iconst (v := (0 : Int32)) hx hb dL_law_699 (by decide) ?_
      exact kJ _ (by rw [if_pos c691])
    · refine lv_iload hx hb dL_law_694 (lv_at hl 11 rfl) ?_
      refine lv_goto (tgt := 700) hx hb dL_law_696 (by decide) ?_
      exact kJ _ (by rw [if_neg c691])
set_option maxHeartbeats 4000000 in
set_option maxRecDepth 100000 in
theorem lc_786 {D : va_G} {dA : Nat → ClassId} {base t0 : Nat} {l : Launch} {p : Program} {e : Env} {s : State} {m : MethodId} {args : Array Value} {below : List Frame} {meth : Method} {c : Code} {Q : State → Prop} {cs ss : Nat} (X : zz_X D dA base t0 "SpringseatLaw" cL_law 35 (some .boolean) l p s m meth c) (hT : l.stackTraces = false) (hN : zz_N s) (hc : cs + 200 ≤ 600104) (hs : ss + 2000 ≤ 7301313) {x0 : Nat} {x1 : Nat} {x2 : Int32} {x3 : Int32} {x6 : Nat} {x7 : Nat} {x8 : Nat} {x9 : Int32} {K_836 : Nat → Nat → Int32 → Int32 → Nat → Nat → Nat → Int32 → Int32 → zz_H → Nat → Prop} (kk_836 : ∀ (x0 : Nat) (x1 : Nat) (x2 : Int32) (x3 : Int32) (x6 : Nat) (x7 : Nat) (x8 : Nat) (x9 : Int32) (x10 : Int32) (h : zz_H) (n : Nat), K_836 x0 x1 x2 x3 x6 x7 x8 x9 x10 h n → ∀ {H : Heap} {locs : List Loc} {ls : Array Slot}, zz_R D dA base h n s H locs → lv_has ls 35 [(0, .ref x0), (1, .ref x1), (2, .int x2), (3, .int x3), (4, .int (1 : Int32)), (6, .ref x6), (7, .ref x7), (8, .ref x8), (9, .int x9), (10, .int x10)] → W p l e room_1 s m args below meth c H locs (cs + 200) (ss + 2000) Q (F0 m 836 ls [])) {h : zz_H} {n : Nat} {H : Heap} {locs : List Loc} {ls : Array Slot} (hR : zz_R D dA base h n s H locs) (hl : lv_has ls 35 [(0, .ref x0), (1, .ref x1), (2, .int x2), (3, .int x3), (4, .int (1 : Int32)), (6, .ref x6), (7, .ref x7), (8, .ref x8), (9, .int x9)]) (hf : w_786 t0 x0 x1 x2 x3 x6 x7 x8 x9 h n K_836) : W p l e room_1 s m args below meth c H locs cs ss Q (F0 m 786 ls []) := by
  have hx := X.1
  have hb := X.2.1
  have hown := X.2.2.2.2.1
  unfold w_786 at hf
  refine lv_iload hx hb dL_law_786 (lv_at hl 4 rfl) ?_
  refine lv_aload_n hx hb dL_law_788 rfl (lv_at hl 1 rfl) ?_
  refine lv_iconst (v := (0 : Int32)) hx hb dL_law_789 (by decide) ?_
  refine lv_iconst (v := (1 : Int32)) hx hb dL_law_790 (by decide) ?_
  refine lv_iload_n hx hb dL_law_791 rfl (lv_at hl 2 rfl) ?_
  refine lv_bipush (v := (50 : Int32)) hx hb dL_law_792 (by decide) ?_
  obtain ⟨v794, h794, m794, hv794, hf⟩ := hf
  refine zl_cS X hN hR hl.1 (As := [.ref x1, .int (0 : Int32), .int (1 : Int32), .int x2, .int (50 : Int32)]) (rest := [.int (1 : Int32)]) (mt_L_pull hT x1 (0 : Int32) (1 : Int32) x2 (50 : Int32) h n hv794) mf_L_pull.1 mf_L_pull.2.1 mf_L_pull.2.2 q_733 q_734 ⟨Nat.le_of_ble_eq_true rfl, Nat.le_of_ble_eq_true rfl⟩ ⟨by show cs + 4 ≤ 600104; omega, by show ss + 24 ≤ 7301313; omega⟩ rfl (Nat.le_of_ble_eq_true rfl) dL_law_794 (fun n794 H locs hn794 hR => ?_)
  replace hf := hf n794 hn794
  refine W.eq (g2 := F0 m 797 ls [.int v794, .int (1 : Int32)]) rfl ?_
  refine W.widen (k := cs + 4) (n := ss + 24) (by show cs + 4 ≤ _; omega) (by show ss + 24 ≤ _; omega) ?_
  refine lv_ldc hx hb hown (zz_w X q_659) dL_law_797 ?_
  obtain ⟨hc799, hf⟩ := hf
  refine lv_icmp_ne (tgt := 829) hx hb dL_law_799 (by decide) (fun c799 => ?_) (fun c799 => ?_)
  · exact absurd hc799 c799
  refine lv_aload_n hx hb dL_law_802 rfl (lv_at hl 1 rfl) ?_
  refine lv_iconst (v := (0 : Int32)) hx hb dL_law_803 (by decide) ?_
  obtain ⟨v804, h804, m804, hv804, hf⟩ := hf
  refine zl_cS X hN hR hl.1 (As := [.ref x1, .int (0 : Int32)]) (rest := [.int (1 : Int32)]) (mt_L_sign hT x1 (0 : Int32) h794 n794 hv804) mf_L_sign.1 mf_L_sign.2.1 mf_L_sign.2.2 q_844 q_845 ⟨Nat.le_of_ble_eq_true rfl, Nat.le_of_ble_eq_true rfl⟩ ⟨by show cs + 4 + 2 ≤ 600104; omega, by show ss + 24 + 12 ≤ 7301313; omega⟩ rfl (Nat.le_of_ble_eq_true rfl) dL_law_804 (fun n804 H locs hn804 hR => ?_)
  replace hf := hf n804 hn804
  refine W.eq (g2 := F0 m 807 ls [.int v804, .int (1 : Int32)]) rfl ?_
  refine W.widen (k := cs + 6) (n := ss + 36) (by show cs + 4 + 2 ≤ _; omega) (by show ss + 24 + 12 ≤ _; omega) ?_
  refine lv_iconst (v := (3 : Int32)) hx hb dL_law_807 (by decide) ?_
  obtain ⟨hc808, hf⟩ := hf
  refine lv_icmp_ne (tgt := 829) hx hb dL_law_808 (by decide) (fun c808 => ?_) (fun c808 => ?_)
  · exact absurd hc808 c808
  refine lv_aload_n hx hb dL_law_811 rfl (lv_at hl 1 rfl) ?_
  refine lv_iconst (v := (0 : Int32)) hx hb dL_law_812 (by decide) ?_
  refine lv_iconst (v := (1 : Int32)) hx hb dL_law_813 (by decide) ?_
  refine lv_iconst (v := (0 : Int32)) hx hb dL_law_814 (by decide) ?_
  refine lv_bipush (v := (50 : Int32)) hx hb dL_law_815 (by decide) ?_
  obtain ⟨v817, h817, m817, hv817, hf⟩ := hf
  refine zl_cS X hN hR hl.1 (As := [.ref x1, .int (0 : Int32), .int (1 : Int32), .int (0 : Int32), .int (50 : Int32)]) (rest := [.int (1 : Int32)]) (mt_L_pull hT x1 (0 : Int32) (1 : Int32) (0 : Int32) (50 : Int32) h804 n804 hv817) mf_L_pull.1 mf_L_pull.2.1 mf_L_pull.2.2 q_733 q_734 ⟨Nat.le_of_ble_eq_true rfl, Nat.le_of_ble_eq_true rfl⟩ ⟨by show cs + 6 + 4 ≤ 600104; omega, by show ss + 36 + 24 ≤ 7301313; omega⟩ rfl (Nat.le_of_ble_eq_true rfl) dL_law_817 (fun n817 H locs hn817 hR => ?_)
  replace hf := hf n817 hn817
  refine W.eq (g2 := F0 m 820 ls [.int v817, .int (1 : Int32)]) rfl ?_
  refine W.widen (k := cs + 10) (n := ss + 60) (by show cs + 6 + 4 ≤ _; omega) (by show ss + 36 + 24 ≤ _; omega) ?_
  refine lv_ldc hx hb hown (zz_w X q_686) dL_law_820 ?_
  obtain ⟨hc822, hf⟩ := hf
  refine lv_icmp_ne (tgt := 829) hx hb dL_law_822 (by decide) (fun c822 => ?_) (fun c822 => ?_)
  · exact absurd hc822 c822
  refine lv_iconst (v := (1 : Int32)) hx hb dL_law_825 (by decide) ?_
  refine lv_goto (tgt := 830) hx hb dL_law_826 (by decide) ?_
  refine lv_iand hx hb dL_law_830 ?_
  refine W.eq (g2 := F0 m 831 ls [.int (1 : Int32)]) rfl ?_
  refine lv_istore (i := 4) (lv' := [(4, .int (1 : Int32)), (0, .ref x0), (1, .ref x1), (2, .int x2), (3, .int x3), (6, .ref x6), (7, .ref x7), (8, .ref x8), (9, .int x9)]) hx hb dL_law_831 hl (by decide) rfl (fun ls hl => ?_)
  refine lv_iconst (v := (3 : Int32)) hx hb dL_law_833 (by decide) ?_
  refine lv_istore (i := 10) (lv' := [(10, .int (3 : Int32)), (4, .int (1 : Int32)), (0, .ref x0), (1, .ref x1), (2, .int x2), (3, .int x3), (6, .ref x6), (7, .ref x7), (8, .ref x8), (9, .int x9)]) hx hb dL_law_834 hl (by decide) rfl (fun ls hl => ?_)
  refine W.widen (k := cs + 200) (n := ss + 2000) (by omega) (by omega) ?_
  exact kk_836 _ _ _ _ _ _ _ _ _ _ _ hf hR (lv_sub hl [2, 3, 4, 5, 1, 6, 7, 8, 9, 0] rfl)
set_option maxHeartbeats 4000000 in
set_option maxRecDepth 100000 in
theorem lc_836 {D : va_G} {dA : Nat → ClassId} {base t0 : Nat} {l : Launch} {p : Program} {e : Env} {s : State} {m : MethodId} {args : Array Value} {below : List Frame} {meth : Method} {c : Code} {Q : State → Prop} {cs ss : Nat} (X : zz_X D dA base t0 "SpringseatLaw" cL_law 35 (some .boolean) l p s m meth c) (hT : l.stackTraces = false) (hN : zz_N s) (hc : cs + 200 ≤ 600104) (hs : ss + 2000 ≤ 7301313) {x0 : Nat} {x1 : Nat} {x2 : Int32} {x3 : Int32} {x6 : Nat} {x7 : Nat} {x8 : Nat} {x9 : Int32} {x10 : Int32} {K_969 : Nat → Nat → Int32 → Int32 → Nat → Nat → Nat → Int32 → Int32 → Int32 → Nat → Nat → Nat → Int32 → zz_H → Nat → Prop} (kk_969 : ∀ (x0 : Nat) (x1 : Nat) (x2 : Int32) (x3 : Int32) (x6 : Nat) (x7 : Nat) (x8 : Nat) (x9 : Int32) (x10 : Int32) (x12 : Int32) (x13 : Nat) (x14 : Nat) (x15 : Nat) (x16 : Int32) (h : zz_H) (n : Nat), K_969 x0 x1 x2 x3 x6 x7 x8 x9 x10 x12 x13 x14 x15 x16 h n → ∀ {H : Heap} {locs : List Loc} {ls : Array Slot}, zz_R D dA base h n s H locs → lv_has ls 35 [(0, .ref x0), (1, .ref x1), (2, .int x2), (3, .int x3), (4, .int (1 : Int32)), (6, .ref x6), (7, .ref x7), (8, .ref x8), (9, .int x9), (10, .int x10), (12, .int x12), (13, .ref x13), (14, .ref x14), (15, .ref x15), (16, .int x16)] → W p l e room_1 s m args below meth c H locs (cs + 200) (ss + 2000) Q (F0 m 969 ls [])) {h : zz_H} {n : Nat} {H : Heap} {locs : List Loc} {ls : Array Slot} (hR : zz_R D dA base h n s H locs) (hl : lv_has ls 35 [(0, .ref x0), (1, .ref x1), (2, .int x2), (3, .int x3), (4, .int (1 : Int32)), (6, .ref x6), (7, .ref x7), (8, .ref x8), (9, .int x9), (10, .int x10)]) (hf : w_836 t0 x0 x1 x2 x3 x6 x7 x8 x9 x10 h n K_969) : W p l e room_1 s m args below meth c H locs cs ss Q (F0 m 836 ls []) := by
  have hx := X.1
  have hb := X.2.1
  have hown := X.2.2.2.2.1
  unfold w_836 at hf
  obtain ⟨w836_9, hg836, hf⟩ := hf
  refine bk_L_law_836 (r0 := 0) (cs := cs) (ss := ss) (n := n) X hT (by omega) (by omega) hR (lv_sub hl [0, 1, 2, 3, 4, 5, 6, 7, 8, 9] rfl) hg836 (fun y836_9 e H locs ls hR hl => ?_) (fun r e => by cases e)
  cases e
  refine lv_iconst (v := (1 : Int32)) hx hb dL_law_906 (by decide) ?_
  refine lv_aload_n hx hb dL_law_907 rfl (lv_at hl 0 rfl) ?_
  refine lv_iconst (v := (5 : Int32)) hx hb dL_law_908 (by decide) ?_
  refine lv_iconst (v := (4 : Int32)) hx hb dL_law_909 (by decide) ?_
  obtain ⟨v910, hv910, hf⟩ := hf
  refine zr_cS X hR hl.1 (As := [.ref x0, .int (5 : Int32), .int (4 : Int32)]) (rest := [.int (1 : Int32)]) (mt_L_in hT x0 (5 : Int32) (4 : Int32) h n hv910) mf_L_in q_1000 q_1001 ⟨Nat.le_of_ble_eq_true rfl, Nat.le_of_ble_eq_true rfl⟩ ⟨by show cs + 0 ≤ 600104; omega, by show ss + 0 ≤ 7301313; omega⟩ rfl (Nat.le_of_ble_eq_true rfl) dL_law_910 (fun H locs hR => ?_)
  refine W.eq (g2 := F0 m 913 ls [.int v910, .int (1 : Int32)]) rfl ?_
  refine W.widen (k := cs) (n := ss) (Nat.le_refl _) (Nat.le_refl _) ?_
  refine lv_iadd hx hb dL_law_913 ?_
  refine lv_istore (i := 12) (lv' := [(12, .int ((1 : Int32) + v910)), (0, .ref x0), (1, .ref x1), (2, .int x2), (3, .int x3), (4, .int (1 : Int32)), (6, .ref x6), (7, .ref x7), (8, .ref x8), (9, .int w836_9), (10, .int x10)]) hx hb dL_law_914 hl (by decide) rfl (fun ls hl => ?_)
  refine lv_iload hx hb dL_law_916 (lv_at hl 0 rfl) ?_
  obtain ⟨N918, hnn918, hnN918, hn4918, hf⟩ := hf
  refine zr_newa X hR (t := 1) (N := N918) (a0 := (N918, .inl (fun _ => 0))) (by decide) rfl q_547 (fun _ z => z) (fun cA => rfl) hnn918 hnN918 (by show N918 * 2 ≤ _; omega) (by show _ ≤ 600104; omega) (by show _ ≤ 7301313; omega) dL_law_918 (fun H hR => ?_)
  refine W.widen (k := cs + 1) (n := ss + 4) (by omega) (by omega) ?_
  refine lv_astore (i := 13) (lv' := [(13, .ref n), (12, .int ((1 : Int32) + v910)), (0, .ref x0), (1, .ref x1), (2, .int x2), (3, .int x3), (4, .int (1 : Int32)), (6, .ref x6), (7, .ref x7), (8, .ref x8), (9, .int w836_9), (10, .int x10)]) hx hb dL_law_920 hl (by decide) rfl (fun ls hl => ?_)
  refine lv_iload hx hb dL_law_922 (lv_at hl 1 rfl) ?_
  obtain ⟨N924, hnn924, hnN924, hn4924, hf⟩ := hf
  refine zr_newa X hR (t := 0) (N := N924) (a0 := (N924, .inl (fun _ => 0))) (by decide) rfl q_72 (fun _ z => z) (fun cA => rfl) hnn924 hnN924 (by show N924 * 4 ≤ _; omega) (by show _ ≤ 600104; omega) (by show _ ≤ 7301313; omega) dL_law_924 (fun H hR => ?_)
  refine W.widen (k := cs + 2) (n := ss + 8) (by omega) (by omega) ?_
  refine lv_astore (i := 14) (lv' := [(14, .ref (n + 1)), (13, .ref n), (12, .int ((1 : Int32) + v910)), (0, .ref x0), (1, .ref x1), (2, .int x2), (3, .int x3), (4, .int (1 : Int32)), (6, .ref x6), (7, .ref x7), (8, .ref x8), (9, .int w836_9), (10, .int x10)]) hx hb dL_law_926 hl (by decide) rfl (fun ls hl => ?_)
  refine lv_iload hx hb dL_law_928 (lv_at hl 2 rfl) ?_
  obtain ⟨N930, hnn930, hnN930, hn4930, hf⟩ := hf
  refine zr_newa X hR (t := 0) (N := N930) (a0 := (N930, .inl (fun _ => 0))) (by decide) rfl q_72 (fun _ z => z) (fun cA => rfl) hnn930 hnN930 (by show N930 * 4 ≤ _; omega) (by show _ ≤ 600104; omega) (by show _ ≤ 7301313; omega) dL_law_930 (fun H hR => ?_)
  refine W.widen (k := cs + 3) (n := ss + 12) (by omega) (by omega) ?_
  refine lv_astore (i := 15) (lv' := [(15, .ref ((n + 1) + 1)), (14, .ref (n + 1)), (13, .ref n), (12, .int ((1 : Int32) + v910)), (0, .ref x0), (1, .ref x1), (2, .int x2), (3, .int x3), (4, .int (1 : Int32)), (6, .ref x6), (7, .ref x7), (8, .ref x8), (9, .int w836_9), (10, .int x10)]) hx hb dL_law_932 hl (by decide) rfl (fun ls hl => ?_)
  refine lv_iload hx hb dL_law_934 (lv_at hl 8 rfl) ?_
  refine lv_aload_n hx hb dL_law_936 rfl (lv_at hl 5 rfl) ?_
  refine lv_iconst (v := (0 : Int32)) hx hb dL_law_937 (by decide) ?_
  refine lv_iconst (v := (0 : Int32)) hx hb dL_law_938 (by decide) ?_
  refine lv_iconst (v := (0 : Int32)) hx hb dL_law_939 (by decide) ?_
  obtain ⟨v940, h940, m940, hv940, hf⟩ := hf
  refine zl_cS X hN hR hl.1 (As := [.ref x1, .int (0 : Int32), .int (0 : Int32), .int (0 : Int32)]) (rest := [.int (1 : Int32)]) (mt_L_cover hT x1 (0 : Int32) (0 : Int32) (0 : Int32) (zz_u (zz_u (zz_u h n (.inl (1, (N918, .inl (fun _ => 0))))) (n + 1) (.inl (0, (N924, .inl (fun _ => 0))))) ((n + 1) + 1) (.inl (0, (N930, .inl (fun _ => 0))))) (((n + 1) + 1) + 1) hv940) mf_L_cover.1 mf_L_cover.2.1 mf_L_cover.2.2 q_811 q_812 ⟨Nat.le_of_ble_eq_true rfl, Nat.le_of_ble_eq_true rfl⟩ ⟨by show cs + 3 + 5 ≤ 600104; omega, by show ss + 12 + 30 ≤ 7301313; omega⟩ rfl (Nat.le_of_ble_eq_true rfl) dL_law_940 (fun n940 H locs hn940 hR => ?_)
  replace hf := hf n940 hn940
  refine W.eq (g2 := F0 m 943 ls [.int v940, .int (1 : Int32)]) rfl ?_
  refine W.widen (k := cs + 8) (n := ss + 42) (by show cs + 3 + 5 ≤ _; omega) (by show ss + 12 + 30 ≤ _; omega) ?_
  refine lv_ldc hx hb hown (zz_w X q_659) dL_law_943 ?_
  obtain ⟨hc945, hf⟩ := hf
  refine lv_icmp_ne (tgt := 962) hx hb dL_law_945 (by decide) (fun c945 => ?_) (fun c945 => ?_)
  · exact absurd hc945 c945
  refine lv_aload_n hx hb dL_law_948 rfl (lv_at hl 5 rfl) ?_
  refine lv_iconst (v := (0 : Int32)) hx hb dL_law_949 (by decide) ?_
  obtain ⟨v950, h950, m950, hv950, hf⟩ := hf
  refine zl_cS X hN hR hl.1 (As := [.ref x1, .int (0 : Int32)]) (rest := [.int (1 : Int32)]) (mt_L_buttons hT x1 (0 : Int32) h940 n940 hv950) mf_L_buttons.1 mf_L_buttons.2.1 mf_L_buttons.2.2 q_791 q_792 ⟨Nat.le_of_ble_eq_true rfl, Nat.le_of_ble_eq_true rfl⟩ ⟨by show cs + 8 + 2 ≤ 600104; omega, by show ss + 42 + 12 ≤ 7301313; omega⟩ rfl (Nat.le_of_ble_eq_true rfl) dL_law_950 (fun n950 H locs hn950 hR => ?_)
  replace hf := hf n950 hn950
  refine W.eq (g2 := F0 m 953 ls [.int v950, .int (1 : Int32)]) rfl ?_
  refine W.widen (k := cs + 10) (n := ss + 54) (by show cs + 8 + 2 ≤ _; omega) (by show ss + 42 + 12 ≤ _; omega) ?_
  refine lv_ldc hx hb hown (zz_w X q_660) dL_law_953 ?_
  obtain ⟨hc955, hf⟩ := hf
  refine lv_icmp_ne (tgt := 962) hx hb dL_law_955 (by decide) (fun c955 => ?_) (fun c955 => ?_)
  · exact absurd hc955 c955
  refine lv_iconst (v := (1 : Int32)) hx hb dL_law_958 (by decide) ?_
  refine lv_goto (tgt := 963) hx hb dL_law_959 (by decide) ?_
  refine lv_iand hx hb dL_law_963 ?_
  refine W.eq (g2 := F0 m 964 ls [.int (1 : Int32)]) rfl ?_
  refine lv_istore (i := 4) (lv' := [(4, .int (1 : Int32)), (15, .ref ((n + 1) + 1)), (14, .ref (n + 1)), (13, .ref n), (12, .int ((1 : Int32) + v910)), (0, .ref x0), (1, .ref x1), (2, .int x2), (3, .int x3), (6, .ref x6), (7, .ref x7), (8, .ref x8), (9, .int w836_9), (10, .int x10)]) hx hb dL_law_964 hl (by decide) rfl (fun ls hl => ?_)
  refine lv_iconst (v := (0 : Int32)) hx hb dL_law_966 (by decide) ?_
  refine lv_istore (i := 16) (lv' := [(16, .int (0 : Int32)), (4, .int (1 : Int32)), (15, .ref ((n + 1) + 1)), (14, .ref (n + 1)), (13, .ref n), (12, .int ((1 : Int32) + v910)), (0, .ref x0), (1, .ref x1), (2, .int x2), (3, .int x3), (6, .ref x6), (7, .ref x7), (8, .ref x8), (9, .int w836_9), (10, .int x10)]) hx hb dL_law_967 hl (by decide) rfl (fun ls hl => ?_)
  refine W.widen (k := cs + 200) (n := ss + 2000) (by omega) (by omega) ?_
  exact kk_969 _ _ _ _ _ _ _ _ _ _ _ _ _ _ _ _ hf hR (lv_sub hl [6, 7, 8, 9, 1, 10, 11, 12, 13, 14, 5, 4, 3, 2, 0] rfl)
set_option maxHeartbeats 4000000 in
set_option maxRecDepth 100000 in
theorem lc_969 {D : va_G} {dA : Nat → ClassId} {base t0 : Nat} {l : Launch} {p : Program} {e : Env} {s : State} {m : MethodId} {args : Array Value} {below : List Frame} {meth : Method} {c : Code} {Q : State → Prop} {cs ss : Nat} (X : zz_X D dA base t0 "SpringseatLaw" cL_law 35 (some .boolean) l p s m meth c) (hT : l.stackTraces = false) (hN : zz_N s) (hc : cs + 200 ≤ 600104) (hs : ss + 2000 ≤ 7301313) {x0 : Nat} {x1 : Nat} {x2 : Int32} {x3 : Int32} {x6 : Nat} {x7 : Nat} {x8 : Nat} {x9 : Int32} {x10 : Int32} {x12 : Int32} {x13 : Nat} {x14 : Nat} {x15 : Nat} {x16 : Int32} {K_969 : Nat → Nat → Int32 → Int32 → Nat → Nat → Nat → Int32 → Int32 → Int32 → Nat → Nat → Nat → Int32 → zz_H → Nat → Prop} {K_1130 : Nat → Nat → Int32 → Int32 → Nat → Nat → Nat → Int32 → Int32 → Int32 → Nat → Nat → Nat → zz_H → Nat → Prop} (kk_969 : ∀ (x0 : Nat) (x1 : Nat) (x2 : Int32) (x3 : Int32) (x6 : Nat) (x7 : Nat) (x8 : Nat) (x9 : Int32) (x10 : Int32) (x12 : Int32) (x13 : Nat) (x14 : Nat) (x15 : Nat) (x16 : Int32) (h : zz_H) (n : Nat), K_969 x0 x1 x2 x3 x6 x7 x8 x9 x10 x12 x13 x14 x15 x16 h n → ∀ {H : Heap} {locs : List Loc} {ls : Array Slot}, zz_R D dA base h n s H locs → lv_has ls 35 [(0, .ref x0), (1, .ref x1), (2, .int x2), (3, .int x3), (4, .int (1 : Int32)), (6, .ref x6), (7, .ref x7), (8, .ref x8), (9, .int x9), (10, .int x10), (12, .int x12), (13, .ref x13), (14, .ref x14), (15, .ref x15), (16, .int x16)] → W p l e room_1 s m args below meth c H locs (cs + 200) (ss + 2000) Q (F0 m 969 ls [])) (kk_1130 : ∀ (x0 : Nat) (x1 : Nat) (x2 : Int32) (x3 : Int32) (x6 : Nat) (x7 : Nat) (x8 : Nat) (x9 : Int32) (x10 : Int32) (x12 : Int32) (x13 : Nat) (x14 : Nat) (x15 : Nat) (h : zz_H) (n : Nat), K_1130 x0 x1 x2 x3 x6 x7 x8 x9 x10 x12 x13 x14 x15 h n → ∀ {H : Heap} {locs : List Loc} {ls : Array Slot}, zz_R D dA base h n s H locs → lv_has ls 35 [(0, .ref x0), (1, .ref x1), (2, .int x2), (3, .int x3), (4, .int (1 : Int32)), (6, .ref x6), (7, .ref x7), (8, .ref x8), (9, .int x9), (10, .int x10), (12, .int x12), (13, .ref x13), (14, .ref x14), (15, .ref x15)] → W p l e room_1 s m args below meth c H locs (cs + 200) (ss + 2000) Q (F0 m 1130 ls [])) {h : zz_H} {n : Nat} {H : Heap} {locs : List Loc} {ls : Array Slot} (hR : zz_R D dA base h n s H locs) (hl : lv_has ls 35 [(0, .ref x0), (1, .ref x1), (2, .int x2), (3, .int x3), (4, .int (1 : Int32)), (6, .ref x6), (7, .ref x7), (8, .ref x8), (9, .int x9), (10, .int x10), (12, .int x12), (13, .ref x13), (14, .ref x14), (15, .ref x15), (16, .int x16)]) (hf : w_969 t0 x0 x1 x2 x3 x6 x7 x8 x9 x10 x12 x13 x14 x15 x16 h n K_969 K_1130) : W p l e room_1 s m args below meth c H locs cs ss Q (F0 m 969 ls []) := by
  have hx := X.1
  have hb := X.2.1
  have hown := X.2.2.2.2.1
  unfold w_969 at hf
  refine lv_iload hx hb dL_law_969 (lv_at hl 14 rfl) ?_
  refine lv_iload hx hb dL_law_971 (lv_at hl 10 rfl) ?_
  refine lv_icmp_ge (tgt := 1130) hx hb dL_law_973 (by decide) (fun c973 => ?_) (fun c973 => ?_)
  · replace hf := hf.1 c973
    refine W.widen (k := cs + 200) (n := ss + 2000) (by omega) (by omega) ?_
    exact kk_1130 _ _ _ _ _ _ _ _ _ _ _ _ _ _ _ hf hR (lv_sub hl [0, 1, 2, 3, 4, 5, 6, 7, 8, 9, 10, 11, 12, 13] rfl)
  · replace hf := hf.2 c973
    refine lv_aload_n hx hb dL_law_976 rfl (lv_at hl 0 rfl) ?_
    refine lv_bipush (v := (90 : Int32)) hx hb dL_law_977 (by decide) ?_
    refine lv_iload hx hb dL_law_979 (lv_at hl 14 rfl) ?_
    refine lv_iadd hx hb dL_law_981 ?_
    refine lv_iconst (v := (3 : Int32)) hx hb dL_law_982 (by decide) ?_
    obtain ⟨v983, hv983, hf⟩ := hf
    refine zr_cS X hR hl.1 (As := [.ref x0, .int ((90 : Int32) + x16), .int (3 : Int32)]) (rest := []) (mt_L_in hT x0 ((90 : Int32) + x16) (3 : Int32) h n hv983) mf_L_in q_1000 q_1001 ⟨Nat.le_of_ble_eq_true rfl, Nat.le_of_ble_eq_true rfl⟩ ⟨by show cs + 0 ≤ 600104; omega, by show ss + 0 ≤ 7301313; omega⟩ rfl (Nat.le_of_ble_eq_true rfl) dL_law_983 (fun H locs hR => ?_)
    refine W.eq (g2 := F0 m 986 ls [.int v983]) rfl ?_
    refine W.widen (k := cs) (n := ss) (Nat.le_refl _) (Nat.le_refl _) ?_
    refine lv_istore (i := 17) (lv' := [(17, .int v983), (0, .ref x0), (1, .ref x1), (2, .int x2), (3, .int x3), (4, .int (1 : Int32)), (6, .ref x6), (7, .ref x7), (8, .ref x8), (9, .int x9), (10, .int x10), (12, .int x12), (13, .ref x13), (14, .ref x14), (15, .ref x15), (16, .int x16)]) hx hb dL_law_986 hl (by decide) rfl (fun ls hl => ?_)
    refine lv_aload hx hb dL_law_988 (lv_at hl 12 rfl) ?_
    refine lv_iload hx hb dL_law_990 (lv_at hl 15 rfl) ?_
    refine lv_iload hx hb dL_law_992 (lv_at hl 0 rfl) ?_
    have kJ : ∀ w994 : Int32, w994 = (if v983 = (0 : Int32) then (104 : Int32) else (if v983 = (1 : Int32) then (102 : Int32) else (100 : Int32))) → W p l e room_1 s m args below meth c H locs cs ss Q (F0 m 1015 ls [.int w994, .int x16, .ref x13]) := by
      intro w994 hw994
      replace hf := hf w994 hw994
      obtain ⟨h1015q, hv1015, hf⟩ := hf
      refine zr_cast X hR (r := (some x13)) dL_law_1015 hv1015 (fun h1015 H locs hvv hR => ?_)
      have hvv := Option.some.inj hvv
      subst hvv
      refine lv_aload hx hb dL_law_1016 (lv_at hl 13 rfl) ?_
      refine lv_iload hx hb dL_law_1018 (lv_at hl 15 rfl) ?_
      refine lv_iconst (v := (5 : Int32)) hx hb dL_law_1020 (by decide) ?_
      refine lv_aload_n hx hb dL_law_1021 rfl (lv_at hl 1 rfl) ?_
      refine lv_bipush (v := (94 : Int32)) hx hb dL_law_1022 (by decide) ?_
      refine lv_iload hx hb dL_law_1024 (lv_at hl 15 rfl) ?_
      refine lv_iadd hx hb dL_law_1026 ?_
      refine lv_bipush (v := (56 : Int32)) hx hb dL_law_1027 (by decide) ?_
      obtain ⟨v1029, hv1029, hf⟩ := hf
      refine zr_cS X hR hl.1 (As := [.ref x0, .int ((94 : Int32) + x16), .int (56 : Int32)]) (rest := [.int (5 : Int32), .int x16, .ref x14]) (mt_L_in hT x0 ((94 : Int32) + x16) (56 : Int32) h1015 n hv1029) mf_L_in q_1000 q_1001 ⟨Nat.le_of_ble_eq_true rfl, Nat.le_of_ble_eq_true rfl⟩ ⟨by show cs + 0 ≤ 600104; omega, by show ss + 0 ≤ 7301313; omega⟩ rfl (Nat.le_of_ble_eq_true rfl) dL_law_1029 (fun H locs hR => ?_)
      refine W.eq (g2 := F0 m 1032 ls [.int v1029, .int (5 : Int32), .int x16, .ref x14]) rfl ?_
      refine W.widen (k := cs) (n := ss) (Nat.le_refl _) (Nat.le_refl _) ?_
      refine lv_iadd hx hb dL_law_1032 ?_
      obtain ⟨h1033q, hv1033, hf⟩ := hf
      refine zr_iast X hR (r := (some x14)) dL_law_1033 hv1033 (fun h1033 H locs hvv hR => ?_)
      have hvv := Option.some.inj hvv
      subst hvv
      refine lv_aload hx hb dL_law_1034 (lv_at hl 14 rfl) ?_
      refine lv_iload hx hb dL_law_1036 (lv_at hl 15 rfl) ?_
      refine lv_iconst (v := (1 : Int32)) hx hb dL_law_1038 (by decide) ?_
      refine lv_aload_n hx hb dL_law_1039 rfl (lv_at hl 1 rfl) ?_
      refine lv_bipush (v := (98 : Int32)) hx hb dL_law_1040 (by decide) ?_
      refine lv_iload hx hb dL_law_1042 (lv_at hl 15 rfl) ?_
      refine lv_iadd hx hb dL_law_1044 ?_
      refine lv_bipush (v := (9 : Int32)) hx hb dL_law_1045 (by decide) ?_
      obtain ⟨v1047, hv1047, hf⟩ := hf
      refine zr_cS X hR hl.1 (As := [.ref x0, .int ((98 : Int32) + x16), .int (9 : Int32)]) (rest := [.int (1 : Int32), .int x16, .ref x15]) (mt_L_in hT x0 ((98 : Int32) + x16) (9 : Int32) h1033 n hv1047) mf_L_in q_1000 q_1001 ⟨Nat.le_of_ble_eq_true rfl, Nat.le_of_ble_eq_true rfl⟩ ⟨by show cs + 0 ≤ 600104; omega, by show ss + 0 ≤ 7301313; omega⟩ rfl (Nat.le_of_ble_eq_true rfl) dL_law_1047 (fun H locs hR => ?_)
      refine W.eq (g2 := F0 m 1050 ls [.int v1047, .int (1 : Int32), .int x16, .ref x15]) rfl ?_
      refine W.widen (k := cs) (n := ss) (Nat.le_refl _) (Nat.le_refl _) ?_
      refine lv_iadd hx hb dL_law_1050 ?_
      obtain ⟨h1051q, hv1051, hf⟩ := hf
      refine zr_iast X hR (r := (some x15)) dL_law_1051 hv1051 (fun h1051 H locs hvv hR => ?_)
      have hvv := Option.some.inj hvv
      subst hvv
      refine lv_iload hx hb dL_law_1052 (lv_at hl 9 rfl) ?_
      refine lv_aload hx hb dL_law_1054 (lv_at hl 13 rfl) ?_
      refine lv_iload hx hb dL_law_1056 (lv_at hl 15 rfl) ?_
      obtain ⟨v1058q, hv1058, hf⟩ := hf
      refine zr_iald X hR (r := (some x14)) dL_law_1058 hv1058 (fun v1058 hvv => ?_)
      have hvv := Option.some.inj hvv
      subst hvv
      refine lv_iconst (v := (3 : Int32)) hx hb dL_law_1059 (by decide) ?_
      refine lv_iload hx hb dL_law_1060 (lv_at hl 0 rfl) ?_
      refine lv_isub hx hb dL_law_1062 ?_
      refine lv_imul hx hb dL_law_1063 ?_
      refine lv_iadd hx hb dL_law_1064 ?_
      refine lv_istore (i := 9) (lv' := [(9, .int (x9 + (v1058 * ((3 : Int32) - v983)))), (17, .int v983), (0, .ref x0), (1, .ref x1), (2, .int x2), (3, .int x3), (4, .int (1 : Int32)), (6, .ref x6), (7, .ref x7), (8, .ref x8), (10, .int x10), (12, .int x12), (13, .ref x13), (14, .ref x14), (15, .ref x15), (16, .int x16)]) hx hb dL_law_1065 hl (by decide) rfl (fun ls hl => ?_)
      refine lv_iload hx hb dL_law_1067 (lv_at hl 6 rfl) ?_
      refine lv_aload_n hx hb dL_law_1069 rfl (lv_at hl 3 rfl) ?_
      refine lv_aload_n hx hb dL_law_1070 rfl (lv_at hl 3 rfl) ?_
      refine lv_iconst (v := (0 : Int32)) hx hb dL_law_1071 (by decide) ?_
      refine lv_aload hx hb dL_law_1072 (lv_at hl 12 rfl) ?_
      refine lv_iload hx hb dL_law_1074 (lv_at hl 15 rfl) ?_
      obtain ⟨v1076q, hv1076, hf⟩ := hf
      refine zr_cald X hR (r := (some x13)) dL_law_1076 hv1076 (fun v1076 hvv => ?_)
      have hvv := Option.some.inj hvv
      subst hvv
      refine lv_aload hx hb dL_law_1077 (lv_at hl 13 rfl) ?_
      refine lv_iload hx hb dL_law_1079 (lv_at hl 15 rfl) ?_
      obtain ⟨v1081q, hv1081, hf⟩ := hf
      refine zr_iald X hR (r := (some x14)) dL_law_1081 hv1081 (fun v1081 hvv => ?_)
      have hvv := Option.some.inj hvv
      subst hvv
      refine lv_aload hx hb dL_law_1082 (lv_at hl 14 rfl) ?_
      refine lv_iload hx hb dL_law_1084 (lv_at hl 15 rfl) ?_
      obtain ⟨v1086q, hv1086, hf⟩ := hf
      refine zr_iald X hR (r := (some x15)) dL_law_1086 hv1086 (fun v1086 hvv => ?_)
      have hvv := Option.some.inj hvv
      subst hvv
      obtain ⟨v1087, h1087, m1087, hv1087, hf⟩ := hf
      refine zl_cS X hN hR hl.1 (As := [.ref x1, .int (0 : Int32), .int v1076, .int v1081, .int v1086]) (rest := [.ref x1, .int (1 : Int32)]) (mt_L_layer hT x1 (0 : Int32) v1076 v1081 v1086 h1051 n hv1087) mf_L_layer.1 mf_L_layer.2.1 mf_L_layer.2.2 q_749 q_750 ⟨Nat.le_of_ble_eq_true rfl, Nat.le_of_ble_eq_true rfl⟩ ⟨by show cs + 7 ≤ 600104; omega, by show ss + 46 ≤ 7301313; omega⟩ rfl (Nat.le_of_ble_eq_true rfl) dL_law_1087 (fun n1087 H locs hn1087 hR => ?_)
      replace hf := hf n1087 hn1087
      refine W.eq (g2 := F0 m 1090 ls [.int v1087, .ref x1, .int (1 : Int32)]) rfl ?_
      refine W.widen (k := cs + 7) (n := ss + 46) (by show cs + 7 ≤ _; omega) (by show ss + 46 ≤ _; omega) ?_
      refine lv_iload hx hb dL_law_1090 (lv_at hl 10 rfl) ?_
      obtain ⟨v1092, h1092, m1092, hv1092, hf⟩ := hf
      refine zl_cD X hN hR hl.1 (As := [.ref x1, .int v1087, .int x10]) (rest := [.int (1 : Int32)]) (mt_L_isDone hT x1 v1087 x10 h1087 n1087 hv1092) mf_L_isDone.1 mf_L_isDone.2.1 mf_L_isDone.2.2 q_1009 q_1010 ⟨Nat.le_of_ble_eq_true rfl, Nat.le_of_ble_eq_true rfl⟩ ⟨by show cs + 7 + 2 ≤ 600104; omega, by show ss + 46 + 12 ≤ 7301313; omega⟩ rfl (Nat.le_of_ble_eq_true rfl) dL_law_1092 (fun n1092 H locs hn1092 hR => ?_)
      replace hf := hf n1092 hn1092
      refine W.eq (g2 := F0 m 1095 ls [.int v1092, .int (1 : Int32)]) rfl ?_
      refine W.widen (k := cs + 9) (n := ss + 58) (by show cs + 7 + 2 ≤ _; omega) (by show ss + 46 + 12 ≤ _; omega) ?_
      obtain ⟨hc1095, hf⟩ := hf
      refine lv_if_eq (tgt := 1117) hx hb dL_law_1095 (by decide) (fun c1095 => ?_) (fun c1095 => ?_)
      · exact absurd c1095 hc1095
      refine lv_aload_n hx hb dL_law_1098 rfl (lv_at hl 3 rfl) ?_
      refine lv_iconst (v := (0 : Int32)) hx hb dL_law_1099 (by decide) ?_
      refine lv_iload hx hb dL_law_1100 (lv_at hl 15 rfl) ?_
      obtain ⟨v1102, h1102, m1102, hv1102, hf⟩ := hf
      refine zl_cS X hN hR hl.1 (As := [.ref x1, .int (0 : Int32), .int x16]) (rest := [.int (1 : Int32)]) (mt_L_thick hT x1 (0 : Int32) x16 h1092 n1092 hv1102) mf_L_thick.1 mf_L_thick.2.1 mf_L_thick.2.2 q_864 q_865 ⟨Nat.le_of_ble_eq_true rfl, Nat.le_of_ble_eq_true rfl⟩ ⟨by show cs + 9 + 2 ≤ 600104; omega, by show ss + 58 + 12 ≤ 7301313; omega⟩ rfl (Nat.le_of_ble_eq_true rfl) dL_law_1102 (fun n1102 H locs hn1102 hR => ?_)
      replace hf := hf n1102 hn1102
      refine W.eq (g2 := F0 m 1105 ls [.int v1102, .int (1 : Int32)]) rfl ?_
      refine W.widen (k := cs + 11) (n := ss + 70) (by show cs + 9 + 2 ≤ _; omega) (by show ss + 58 + 12 ≤ _; omega) ?_
      refine lv_aload hx hb dL_law_1105 (lv_at hl 13 rfl) ?_
      refine lv_iload hx hb dL_law_1107 (lv_at hl 15 rfl) ?_
      obtain ⟨v1109q, hv1109, hf⟩ := hf
      refine zr_iald X hR (r := (some x14)) dL_law_1109 hv1109 (fun v1109 hvv => ?_)
      have hvv := Option.some.inj hvv
      subst hvv
      obtain ⟨hc1110, hf⟩ := hf
      refine lv_icmp_ne (tgt := 1117) hx hb dL_law_1110 (by decide) (fun c1110 => ?_) (fun c1110 => ?_)
      · exact absurd hc1110 c1110
      refine lv_iconst (v := (1 : Int32)) hx hb dL_law_1113 (by decide) ?_
      refine lv_goto (tgt := 1118) hx hb dL_law_1114 (by decide) ?_
      refine lv_iand hx hb dL_law_1118 ?_
      refine W.eq (g2 := F0 m 1119 ls [.int (1 : Int32)]) rfl ?_
      refine lv_istore (i := 4) (lv' := [(4, .int (1 : Int32)), (9, .int (x9 + (v1058 * ((3 : Int32) - v983)))), (17, .int v983), (0, .ref x0), (1, .ref x1), (2, .int x2), (3, .int x3), (6, .ref x6), (7, .ref x7), (8, .ref x8), (10, .int x10), (12, .int x12), (13, .ref x13), (14, .ref x14), (15, .ref x15), (16, .int x16)]) hx hb dL_law_1119 hl (by decide) rfl (fun ls hl => ?_)
      refine lv_iinc (i := 10) (v := (x10 + (1 : Int32))) (lv' := [(10, .int (x10 + (1 : Int32))), (4, .int (1 : Int32)), (9, .int (x9 + (v1058 * ((3 : Int32) - v983)))), (17, .int v983), (0, .ref x0), (1, .ref x1), (2, .int x2), (3, .int x3), (6, .ref x6), (7, .ref x7), (8, .ref x8), (12, .int x12), (13, .ref x13), (14, .ref x14), (15, .ref x15), (16, .int x16)]) hx hb dL_law_1121 hl (k := 10) rfl rfl (by decide) rfl (fun ls hl => ?_)
      refine lv_iinc (i := 16) (v := (x16 + (1 : Int32))) (lv' := [(16, .int (x16 + (1 : Int32))), (10, .int (x10 + (1 : Int32))), (4, .int (1 : Int32)), (9, .int (x9 + (v1058 * ((3 : Int32) - v983)))), (17, .int v983), (0, .ref x0), (1, .ref x1), (2, .int x2), (3, .int x3), (6, .ref x6), (7, .ref x7), (8, .ref x8), (12, .int x12), (13, .ref x13), (14, .ref x14), (15, .ref x15)]) hx hb dL_law_1124 hl (k := 15) rfl rfl (by decide) rfl (fun ls hl => ?_)
      refine lv_goto (tgt := 969) hx hb dL_law_1127 (by decide) ?_
      refine W.widen (k := cs + 200) (n := ss + 2000) (by omega) (by omega) ?_
      exact kk_969 _ _ _ _ _ _ _ _ _ _ _ _ _ _ _ _ hf hR (lv_sub hl [5, 6, 7, 8, 2, 9, 10, 11, 3, 1, 12, 13, 14, 15, 0] rfl)
    refine lv_if_ne (tgt := 1002) hx hb dL_law_994 (by decide) (fun c994 => ?_) (fun c994 => ?_)
    · refine lv_iload hx hb dL_law_1002 (lv_at hl 0 rfl) ?_
      refine lv_iconst (v := (1 : Int32)) hx hb dL_law_1004 (by decide) ?_
      refine lv_icmp_ne (tgt := 1013) hx hb dL_law_1005 (by decide) (fun c1005 => ?_) (fun c1005 => ?_)
      · refine lv_bipush (v := (100 : Int32)) hx hb dL_law_1013 (by decide) ?_
        exact kJ _ (by rw [if_neg c994, if_neg c1005])
      · refine lv_bipush (v := (102 : Int32)) hx hb dL_law_1008 (by decide) ?_
        refine lv_goto (tgt := 1015) hx hb dL_law_1010 (by decide) ?_
        exact kJ _ (by rw [if_neg c994, if_pos c1005])
    · refine lv_bipush (v := (104 : Int32)) hx hb dL_law_997 (by decide) ?_
      refine lv_goto (tgt := 1015) hx hb dL_law_999 (by decide) ?_
      exact kJ _ (by rw [if_pos c994])
set_option maxHeartbeats 4000000 in
set_option maxRecDepth 100000 in
theorem lc_1130 {D : va_G} {dA : Nat → ClassId} {base t0 : Nat} {l : Launch} {p : Program} {e : Env} {s : State} {m : MethodId} {args : Array Value} {below : List Frame} {meth : Method} {c : Code} {Q : State → Prop} {cs ss : Nat} (X : zz_X D dA base t0 "SpringseatLaw" cL_law 35 (some .boolean) l p s m meth c) (hT : l.stackTraces = false) (hN : zz_N s) (hc : cs + 200 ≤ 600104) (hs : ss + 2000 ≤ 7301313) {x0 : Nat} {x1 : Nat} {x2 : Int32} {x3 : Int32} {x6 : Nat} {x7 : Nat} {x8 : Nat} {x9 : Int32} {x10 : Int32} {x12 : Int32} {x13 : Nat} {x14 : Nat} {x15 : Nat} {K_1196 : Nat → Nat → Int32 → Int32 → Nat → Nat → Nat → Int32 → Int32 → Int32 → Nat → Nat → Nat → Nat → Int32 → Int32 → zz_H → Nat → Prop} (kk_1196 : ∀ (x0 : Nat) (x1 : Nat) (x2 : Int32) (x3 : Int32) (x6 : Nat) (x7 : Nat) (x8 : Nat) (x9 : Int32) (x10 : Int32) (x12 : Int32) (x13 : Nat) (x14 : Nat) (x15 : Nat) (x16 : Nat) (x17 : Int32) (x18 : Int32) (h : zz_H) (n : Nat), K_1196 x0 x1 x2 x3 x6 x7 x8 x9 x10 x12 x13 x14 x15 x16 x17 x18 h n → ∀ {H : Heap} {locs : List Loc} {ls : Array Slot}, zz_R D dA base h n s H locs → lv_has ls 35 [(0, .ref x0), (1, .ref x1), (2, .int x2), (3, .int x3), (4, .int (1 : Int32)), (6, .ref x6), (7, .ref x7), (8, .ref x8), (9, .int x9), (10, .int x10), (12, .int x12), (13, .ref x13), (14, .ref x14), (15, .ref x15), (16, .ref x16), (17, .int x17), (18, .int x18)] → W p l e room_1 s m args below meth c H locs (cs + 200) (ss + 2000) Q (F0 m 1196 ls [])) {h : zz_H} {n : Nat} {H : Heap} {locs : List Loc} {ls : Array Slot} (hR : zz_R D dA base h n s H locs) (hl : lv_has ls 35 [(0, .ref x0), (1, .ref x1), (2, .int x2), (3, .int x3), (4, .int (1 : Int32)), (6, .ref x6), (7, .ref x7), (8, .ref x8), (9, .int x9), (10, .int x10), (12, .int x12), (13, .ref x13), (14, .ref x14), (15, .ref x15)]) (hf : w_1130 t0 x0 x1 x2 x3 x6 x7 x8 x9 x10 x12 x13 x14 x15 h n K_1196) : W p l e room_1 s m args below meth c H locs cs ss Q (F0 m 1130 ls []) := by
  have hx := X.1
  have hb := X.2.1
  have hown := X.2.2.2.2.1
  unfold w_1130 at hf
  refine lv_iload hx hb dL_law_1130 (lv_at hl 4 rfl) ?_
  refine lv_aload_n hx hb dL_law_1132 rfl (lv_at hl 1 rfl) ?_
  refine lv_iconst (v := (0 : Int32)) hx hb dL_law_1133 (by decide) ?_
  refine lv_iload hx hb dL_law_1134 (lv_at hl 10 rfl) ?_
  obtain ⟨v1136, h1136, m1136, hv1136, hf⟩ := hf
  refine zl_cS X hN hR hl.1 (As := [.ref x1, .int (0 : Int32), .int x12]) (rest := [.int (1 : Int32)]) (mt_L_thick hT x1 (0 : Int32) x12 h n hv1136) mf_L_thick.1 mf_L_thick.2.1 mf_L_thick.2.2 q_864 q_865 ⟨Nat.le_of_ble_eq_true rfl, Nat.le_of_ble_eq_true rfl⟩ ⟨by show cs + 2 ≤ 600104; omega, by show ss + 12 ≤ 7301313; omega⟩ rfl (Nat.le_of_ble_eq_true rfl) dL_law_1136 (fun n1136 H locs hn1136 hR => ?_)
  replace hf := hf n1136 hn1136
  refine W.eq (g2 := F0 m 1139 ls [.int v1136, .int (1 : Int32)]) rfl ?_
  refine W.widen (k := cs + 2) (n := ss + 12) (by show cs + 2 ≤ _; omega) (by show ss + 12 ≤ _; omega) ?_
  refine lv_ldc hx hb hown (zz_w X q_660) dL_law_1139 ?_
  obtain ⟨hc1141, hf⟩ := hf
  refine lv_icmp_ne (tgt := 1178) hx hb dL_law_1141 (by decide) (fun c1141 => ?_) (fun c1141 => ?_)
  · exact absurd hc1141 c1141
  refine lv_iload hx hb dL_law_1144 (lv_at hl 10 rfl) ?_
  refine lv_iconst (v := (4 : Int32)) hx hb dL_law_1146 (by decide) ?_
  refine lv_icmp_lt (tgt := 1164) hx hb dL_law_1147 (by decide) (fun c1147 => ?_) (fun c1147 => ?_)
  · replace hf := hf.1 c1147
    refine lv_aload_n hx hb dL_law_1164 rfl (lv_at hl 1 rfl) ?_
    refine lv_iconst (v := (0 : Int32)) hx hb dL_law_1165 (by decide) ?_
    obtain ⟨v1166, h1166, m1166, hv1166, hf⟩ := hf
    refine zl_cS X hN hR hl.1 (As := [.ref x1, .int (0 : Int32)]) (rest := [.int (1 : Int32)]) (mt_L_buttons hT x1 (0 : Int32) h1136 n1136 hv1166) mf_L_buttons.1 mf_L_buttons.2.1 mf_L_buttons.2.2 q_791 q_792 ⟨Nat.le_of_ble_eq_true rfl, Nat.le_of_ble_eq_true rfl⟩ ⟨by show cs + 2 + 2 ≤ 600104; omega, by show ss + 12 + 12 ≤ 7301313; omega⟩ rfl (Nat.le_of_ble_eq_true rfl) dL_law_1166 (fun n1166 H locs hn1166 hR => ?_)
    replace hf := hf n1166 hn1166
    refine W.eq (g2 := F0 m 1169 ls [.int v1166, .int (1 : Int32)]) rfl ?_
    refine W.widen (k := cs + 4) (n := ss + 24) (by show cs + 2 + 2 ≤ _; omega) (by show ss + 12 + 12 ≤ _; omega) ?_
    refine lv_iload hx hb dL_law_1169 (lv_at hl 9 rfl) ?_
    obtain ⟨hc1171, hf⟩ := hf
    refine lv_icmp_ne (tgt := 1178) hx hb dL_law_1171 (by decide) (fun c1171 => ?_) (fun c1171 => ?_)
    · exact absurd hc1171 c1171
    refine lv_iconst (v := (1 : Int32)) hx hb dL_law_1174 (by decide) ?_
    refine lv_goto (tgt := 1179) hx hb dL_law_1175 (by decide) ?_
    refine lv_iand hx hb dL_law_1179 ?_
    refine W.eq (g2 := F0 m 1180 ls [.int (1 : Int32)]) rfl ?_
    refine lv_istore (i := 4) (lv' := [(4, .int (1 : Int32)), (0, .ref x0), (1, .ref x1), (2, .int x2), (3, .int x3), (6, .ref x6), (7, .ref x7), (8, .ref x8), (9, .int x9), (10, .int x10), (12, .int x12), (13, .ref x13), (14, .ref x14), (15, .ref x15)]) hx hb dL_law_1180 hl (by decide) rfl (fun ls hl => ?_)
    refine lv_iload_n hx hb dL_law_1182 rfl (lv_at hl 3 rfl) ?_
    refine lv_iload_n hx hb dL_law_1183 rfl (lv_at hl 4 rfl) ?_
    obtain ⟨N1184, hnn1184, hnN1184, hn41184, M1184, hmn1184, hmN1184, hm41184, hf⟩ := hf
    have hNM1184 : N1184 * M1184 ≤ 16 := Nat.mul_le_mul hn41184 hm41184
    refine zr_mna2 X hR (ta := 0) (tb := 6) (N := N1184) (M := M1184) (ty := .int) (a0 := (M1184, .inl (fun _ => 0))) (by decide) (by decide) rfl rfl q_1016 (by decide) q_72 (fun _ z => z) (fun _ z => z) rfl hnn1184 hmn1184 hnN1184 hmN1184 (by omega) (by show M1184 * 4 ≤ _; omega) (by omega) rfl rfl (fun cA => rfl) (by show _ ≤ 600104; omega) (by show _ ≤ 7301313; omega) dL_law_1184 (fun H hR => ?_)
    refine W.widen (k := cs + 9) (n := ss + 44) (by omega) (by omega) ?_
    refine lv_astore (i := 16) (lv' := [(16, .ref n1166), (4, .int (1 : Int32)), (0, .ref x0), (1, .ref x1), (2, .int x2), (3, .int x3), (6, .ref x6), (7, .ref x7), (8, .ref x8), (9, .int x9), (10, .int x10), (12, .int x12), (13, .ref x13), (14, .ref x14), (15, .ref x15)]) hx hb dL_law_1188 hl (by decide) rfl (fun ls hl => ?_)
    refine lv_iconst (v := (0 : Int32)) hx hb dL_law_1190 (by decide) ?_
    refine lv_istore (i := 17) (lv' := [(17, .int (0 : Int32)), (16, .ref n1166), (4, .int (1 : Int32)), (0, .ref x0), (1, .ref x1), (2, .int x2), (3, .int x3), (6, .ref x6), (7, .ref x7), (8, .ref x8), (9, .int x9), (10, .int x10), (12, .int x12), (13, .ref x13), (14, .ref x14), (15, .ref x15)]) hx hb dL_law_1191 hl (by decide) rfl (fun ls hl => ?_)
    refine lv_iconst (v := (0 : Int32)) hx hb dL_law_1193 (by decide) ?_
    refine lv_istore (i := 18) (lv' := [(18, .int (0 : Int32)), (17, .int (0 : Int32)), (16, .ref n1166), (4, .int (1 : Int32)), (0, .ref x0), (1, .ref x1), (2, .int x2), (3, .int x3), (6, .ref x6), (7, .ref x7), (8, .ref x8), (9, .int x9), (10, .int x10), (12, .int x12), (13, .ref x13), (14, .ref x14), (15, .ref x15)]) hx hb dL_law_1194 hl (by decide) rfl (fun ls hl => ?_)
    refine W.widen (k := cs + 200) (n := ss + 2000) (by omega) (by omega) ?_
    exact kk_1196 _ _ _ _ _ _ _ _ _ _ _ _ _ _ _ _ _ _ hf hR (lv_sub hl [4, 5, 6, 7, 3, 8, 9, 10, 11, 12, 13, 14, 15, 16, 2, 1, 0] rfl)
  · replace hf := hf.2 c1147
    refine lv_aload_n hx hb dL_law_1150 rfl (lv_at hl 1 rfl) ?_
    refine lv_iconst (v := (0 : Int32)) hx hb dL_law_1151 (by decide) ?_
    refine lv_bipush (v := (104 : Int32)) hx hb dL_law_1152 (by decide) ?_
    refine lv_iconst (v := (5 : Int32)) hx hb dL_law_1154 (by decide) ?_
    refine lv_iconst (v := (1 : Int32)) hx hb dL_law_1155 (by decide) ?_
    obtain ⟨v1156, h1156, m1156, hv1156, hf⟩ := hf
    refine zl_cS X hN hR hl.1 (As := [.ref x1, .int (0 : Int32), .int (104 : Int32), .int (5 : Int32), .int (1 : Int32)]) (rest := [.int (1 : Int32)]) (mt_L_layer hT x1 (0 : Int32) (104 : Int32) (5 : Int32) (1 : Int32) h1136 n1136 hv1156) mf_L_layer.1 mf_L_layer.2.1 mf_L_layer.2.2 q_749 q_750 ⟨Nat.le_of_ble_eq_true rfl, Nat.le_of_ble_eq_true rfl⟩ ⟨by show cs + 2 + 7 ≤ 600104; omega, by show ss + 12 + 46 ≤ 7301313; omega⟩ rfl (Nat.le_of_ble_eq_true rfl) dL_law_1156 (fun n1156 H locs hn1156 hR => ?_)
    replace hf := hf n1156 hn1156
    refine W.eq (g2 := F0 m 1159 ls [.int v1156, .int (1 : Int32)]) rfl ?_
    refine W.widen (k := cs + 9) (n := ss + 58) (by show cs + 2 + 7 ≤ _; omega) (by show ss + 12 + 46 ≤ _; omega) ?_
    refine lv_ldc hx hb hown (zz_w X q_686) dL_law_1159 ?_
    obtain ⟨hc1161, hf⟩ := hf
    refine lv_icmp_ne (tgt := 1178) hx hb dL_law_1161 (by decide) (fun c1161 => ?_) (fun c1161 => ?_)
    · exact absurd hc1161 c1161
    refine lv_aload_n hx hb dL_law_1164 rfl (lv_at hl 1 rfl) ?_
    refine lv_iconst (v := (0 : Int32)) hx hb dL_law_1165 (by decide) ?_
    obtain ⟨v1166, h1166, m1166, hv1166, hf⟩ := hf
    refine zl_cS X hN hR hl.1 (As := [.ref x1, .int (0 : Int32)]) (rest := [.int (1 : Int32)]) (mt_L_buttons hT x1 (0 : Int32) h1156 n1156 hv1166) mf_L_buttons.1 mf_L_buttons.2.1 mf_L_buttons.2.2 q_791 q_792 ⟨Nat.le_of_ble_eq_true rfl, Nat.le_of_ble_eq_true rfl⟩ ⟨by show cs + 9 + 2 ≤ 600104; omega, by show ss + 58 + 12 ≤ 7301313; omega⟩ rfl (Nat.le_of_ble_eq_true rfl) dL_law_1166 (fun n1166 H locs hn1166 hR => ?_)
    replace hf := hf n1166 hn1166
    refine W.eq (g2 := F0 m 1169 ls [.int v1166, .int (1 : Int32)]) rfl ?_
    refine W.widen (k := cs + 11) (n := ss + 70) (by show cs + 9 + 2 ≤ _; omega) (by show ss + 58 + 12 ≤ _; omega) ?_
    refine lv_iload hx hb dL_law_1169 (lv_at hl 9 rfl) ?_
    obtain ⟨hc1171, hf⟩ := hf
    refine lv_icmp_ne (tgt := 1178) hx hb dL_law_1171 (by decide) (fun c1171 => ?_) (fun c1171 => ?_)
    · exact absurd hc1171 c1171
    refine lv_iconst (v := (1 : Int32)) hx hb dL_law_1174 (by decide) ?_
    refine lv_goto (tgt := 1179) hx hb dL_law_1175 (by decide) ?_
    refine lv_iand hx hb dL_law_1179 ?_
    refine W.eq (g2 := F0 m 1180 ls [.int (1 : Int32)]) rfl ?_
    refine lv_istore (i := 4) (lv' := [(4, .int (1 : Int32)), (0, .ref x0), (1, .ref x1), (2, .int x2), (3, .int x3), (6, .ref x6), (7, .ref x7), (8, .ref x8), (9, .int x9), (10, .int x10), (12, .int x12), (13, .ref x13), (14, .ref x14), (15, .ref x15)]) hx hb dL_law_1180 hl (by decide) rfl (fun ls hl => ?_)
    refine lv_iload_n hx hb dL_law_1182 rfl (lv_at hl 3 rfl) ?_
    refine lv_iload_n hx hb dL_law_1183 rfl (lv_at hl 4 rfl) ?_
    obtain ⟨N1184, hnn1184, hnN1184, hn41184, M1184, hmn1184, hmN1184, hm41184, hf⟩ := hf
    have hNM1184 : N1184 * M1184 ≤ 16 := Nat.mul_le_mul hn41184 hm41184
    refine zr_mna2 X hR (ta := 0) (tb := 6) (N := N1184) (M := M1184) (ty := .int) (a0 := (M1184, .inl (fun _ => 0))) (by decide) (by decide) rfl rfl q_1016 (by decide) q_72 (fun _ z => z) (fun _ z => z) rfl hnn1184 hmn1184 hnN1184 hmN1184 (by omega) (by show M1184 * 4 ≤ _; omega) (by omega) rfl rfl (fun cA => rfl) (by show _ ≤ 600104; omega) (by show _ ≤ 7301313; omega) dL_law_1184 (fun H hR => ?_)
    refine W.widen (k := cs + 16) (n := ss + 90) (by omega) (by omega) ?_
    refine lv_astore (i := 16) (lv' := [(16, .ref n1166), (4, .int (1 : Int32)), (0, .ref x0), (1, .ref x1), (2, .int x2), (3, .int x3), (6, .ref x6), (7, .ref x7), (8, .ref x8), (9, .int x9), (10, .int x10), (12, .int x12), (13, .ref x13), (14, .ref x14), (15, .ref x15)]) hx hb dL_law_1188 hl (by decide) rfl (fun ls hl => ?_)
    refine lv_iconst (v := (0 : Int32)) hx hb dL_law_1190 (by decide) ?_
    refine lv_istore (i := 17) (lv' := [(17, .int (0 : Int32)), (16, .ref n1166), (4, .int (1 : Int32)), (0, .ref x0), (1, .ref x1), (2, .int x2), (3, .int x3), (6, .ref x6), (7, .ref x7), (8, .ref x8), (9, .int x9), (10, .int x10), (12, .int x12), (13, .ref x13), (14, .ref x14), (15, .ref x15)]) hx hb dL_law_1191 hl (by decide) rfl (fun ls hl => ?_)
    refine lv_iconst (v := (0 : Int32)) hx hb dL_law_1193 (by decide) ?_
    refine lv_istore (i := 18) (lv' := [(18, .int (0 : Int32)), (17, .int (0 : Int32)), (16, .ref n1166), (4, .int (1 : Int32)), (0, .ref x0), (1, .ref x1), (2, .int x2), (3, .int x3), (6, .ref x6), (7, .ref x7), (8, .ref x8), (9, .int x9), (10, .int x10), (12, .int x12), (13, .ref x13), (14, .ref x14), (15, .ref x15)]) hx hb dL_law_1194 hl (by decide) rfl (fun ls hl => ?_)
    refine W.widen (k := cs + 200) (n := ss + 2000) (by omega) (by omega) ?_
    exact kk_1196 _ _ _ _ _ _ _ _ _ _ _ _ _ _ _ _ _ _ hf hR (lv_sub hl [4, 5, 6, 7, 3, 8, 9, 10, 11, 12, 13, 14, 15, 16, 2, 1, 0] rfl)
set_option maxHeartbeats 4000000 in
set_option maxRecDepth 100000 in
theorem lc_1196 {D : va_G} {dA : Nat → ClassId} {base t0 : Nat} {l : Launch} {p : Program} {e : Env} {s : State} {m : MethodId} {args : Array Value} {below : List Frame} {meth : Method} {c : Code} {Q : State → Prop} {cs ss : Nat} (X : zz_X D dA base t0 "SpringseatLaw" cL_law 35 (some .boolean) l p s m meth c) (hT : l.stackTraces = false) (hN : zz_N s) (hc : cs + 200 ≤ 600104) (hs : ss + 2000 ≤ 7301313) {x0 : Nat} {x1 : Nat} {x2 : Int32} {x3 : Int32} {x6 : Nat} {x7 : Nat} {x8 : Nat} {x9 : Int32} {x10 : Int32} {x12 : Int32} {x13 : Nat} {x14 : Nat} {x15 : Nat} {x16 : Nat} {x17 : Int32} {x18 : Int32} {K_1196 : Nat → Nat → Int32 → Int32 → Nat → Nat → Nat → Int32 → Int32 → Int32 → Nat → Nat → Nat → Nat → Int32 → Int32 → zz_H → Nat → Prop} {K_1311 : Nat → Nat → Int32 → Int32 → Nat → Nat → Nat → Int32 → Int32 → Int32 → Nat → Nat → Nat → Nat → Int32 → zz_H → Nat → Prop} (kk_1196 : ∀ (x0 : Nat) (x1 : Nat) (x2 : Int32) (x3 : Int32) (x6 : Nat) (x7 : Nat) (x8 : Nat) (x9 : Int32) (x10 : Int32) (x12 : Int32) (x13 : Nat) (x14 : Nat) (x15 : Nat) (x16 : Nat) (x17 : Int32) (x18 : Int32) (h : zz_H) (n : Nat), K_1196 x0 x1 x2 x3 x6 x7 x8 x9 x10 x12 x13 x14 x15 x16 x17 x18 h n → ∀ {H : Heap} {locs : List Loc} {ls : Array Slot}, zz_R D dA base h n s H locs → lv_has ls 35 [(0, .ref x0), (1, .ref x1), (2, .int x2), (3, .int x3), (4, .int (1 : Int32)), (6, .ref x6), (7, .ref x7), (8, .ref x8), (9, .int x9), (10, .int x10), (12, .int x12), (13, .ref x13), (14, .ref x14), (15, .ref x15), (16, .ref x16), (17, .int x17), (18, .int x18)] → W p l e room_1 s m args below meth c H locs (cs + 200) (ss + 2000) Q (F0 m 1196 ls [])) (kk_1311 : ∀ (x0 : Nat) (x1 : Nat) (x2 : Int32) (x3 : Int32) (x6 : Nat) (x7 : Nat) (x8 : Nat) (x9 : Int32) (x10 : Int32) (x12 : Int32) (x13 : Nat) (x14 : Nat) (x15 : Nat) (x16 : Nat) (x17 : Int32) (h : zz_H) (n : Nat), K_1311 x0 x1 x2 x3 x6 x7 x8 x9 x10 x12 x13 x14 x15 x16 x17 h n → ∀ {H : Heap} {locs : List Loc} {ls : Array Slot}, zz_R D dA base h n s H locs → lv_has ls 35 [(0, .ref x0), (1, .ref x1), (2, .int x2), (3, .int x3), (4, .int (1 : Int32)), (6, .ref x6), (7, .ref x7), (8, .ref x8), (9, .int x9), (10, .int x10), (12, .int x12), (13, .ref x13), (14, .ref x14), (15, .ref x15), (16, .ref x16), (17, .int x17)] → W p l e room_1 s m args below meth c H locs (cs + 200) (ss + 2000) Q (F0 m 1311 ls [])) {h : zz_H} {n : Nat} {H : Heap} {locs : List Loc} {ls : Array Slot} (hR : zz_R D dA base h n s H locs) (hl : lv_has ls 35 [(0, .ref x0), (1, .ref x1), (2, .int x2), (3, .int x3), (4, .int (1 : Int32)), (6, .ref x6), (7, .ref x7), (8, .ref x8), (9, .int x9), (10, .int x10), (12, .int x12), (13, .ref x13), (14, .ref x14), (15, .ref x15), (16, .ref x16), (17, .int x17), (18, .int x18)]) (hf : w_1196 t0 x0 x1 x2 x3 x6 x7 x8 x9 x10 x12 x13 x14 x15 x16 x17 x18 h n K_1196 K_1311) : W p l e room_1 s m args below meth c H locs cs ss Q (F0 m 1196 ls []) := by
  have hx := X.1
  have hb := X.2.1
  have hown := X.2.2.2.2.1
  unfold w_1196 at hf
  refine lv_iload hx hb dL_law_1196 (lv_at hl 16 rfl) ?_
  refine lv_bipush (v := (6 : Int32)) hx hb dL_law_1198 (by decide) ?_
  refine lv_icmp_ge (tgt := 1311) hx hb dL_law_1200 (by decide) (fun c1200 => ?_) (fun c1200 => ?_)
  · replace hf := hf.1 c1200
    refine W.widen (k := cs + 200) (n := ss + 2000) (by omega) (by omega) ?_
    exact kk_1311 _ _ _ _ _ _ _ _ _ _ _ _ _ _ _ _ _ hf hR (lv_sub hl [0, 1, 2, 3, 4, 5, 6, 7, 8, 9, 10, 11, 12, 13, 14, 15] rfl)
  · replace hf := hf.2 c1200
    refine lv_aload_n hx hb dL_law_1203 rfl (lv_at hl 0 rfl) ?_
    refine lv_bipush (v := (102 : Int32)) hx hb dL_law_1204 (by decide) ?_
    refine lv_iload hx hb dL_law_1206 (lv_at hl 16 rfl) ?_
    refine lv_iadd hx hb dL_law_1208 ?_
    refine lv_iload_n hx hb dL_law_1209 rfl (lv_at hl 2 rfl) ?_
    obtain ⟨v1210, hv1210, hf⟩ := hf
    refine zr_cS X hR hl.1 (As := [.ref x0, .int ((102 : Int32) + x18), .int x2]) (rest := []) (mt_L_in hT x0 ((102 : Int32) + x18) x2 h n hv1210) mf_L_in q_1000 q_1001 ⟨Nat.le_of_ble_eq_true rfl, Nat.le_of_ble_eq_true rfl⟩ ⟨by show cs + 0 ≤ 600104; omega, by show ss + 0 ≤ 7301313; omega⟩ rfl (Nat.le_of_ble_eq_true rfl) dL_law_1210 (fun H locs hR => ?_)
    refine W.eq (g2 := F0 m 1213 ls [.int v1210]) rfl ?_
    refine W.widen (k := cs) (n := ss) (Nat.le_refl _) (Nat.le_refl _) ?_
    refine lv_istore (i := 19) (lv' := [(19, .int v1210), (0, .ref x0), (1, .ref x1), (2, .int x2), (3, .int x3), (4, .int (1 : Int32)), (6, .ref x6), (7, .ref x7), (8, .ref x8), (9, .int x9), (10, .int x10), (12, .int x12), (13, .ref x13), (14, .ref x14), (15, .ref x15), (16, .ref x16), (17, .int x17), (18, .int x18)]) hx hb dL_law_1213 hl (by decide) rfl (fun ls hl => ?_)
    refine lv_aload_n hx hb dL_law_1215 rfl (lv_at hl 1 rfl) ?_
    refine lv_bipush (v := (108 : Int32)) hx hb dL_law_1216 (by decide) ?_
    refine lv_iload hx hb dL_law_1218 (lv_at hl 17 rfl) ?_
    refine lv_iadd hx hb dL_law_1220 ?_
    refine lv_iload_n hx hb dL_law_1221 rfl (lv_at hl 4 rfl) ?_
    obtain ⟨v1222, hv1222, hf⟩ := hf
    refine zr_cS X hR hl.1 (As := [.ref x0, .int ((108 : Int32) + x18), .int x3]) (rest := []) (mt_L_in hT x0 ((108 : Int32) + x18) x3 h n hv1222) mf_L_in q_1000 q_1001 ⟨Nat.le_of_ble_eq_true rfl, Nat.le_of_ble_eq_true rfl⟩ ⟨by show cs + 0 ≤ 600104; omega, by show ss + 0 ≤ 7301313; omega⟩ rfl (Nat.le_of_ble_eq_true rfl) dL_law_1222 (fun H locs hR => ?_)
    refine W.eq (g2 := F0 m 1225 ls [.int v1222]) rfl ?_
    refine W.widen (k := cs) (n := ss) (Nat.le_refl _) (Nat.le_refl _) ?_
    refine lv_istore (i := 20) (lv' := [(20, .int v1222), (19, .int v1210), (0, .ref x0), (1, .ref x1), (2, .int x2), (3, .int x3), (4, .int (1 : Int32)), (6, .ref x6), (7, .ref x7), (8, .ref x8), (9, .int x9), (10, .int x10), (12, .int x12), (13, .ref x13), (14, .ref x14), (15, .ref x15), (16, .ref x16), (17, .int x17), (18, .int x18)]) hx hb dL_law_1225 hl (by decide) rfl (fun ls hl => ?_)
    refine lv_iload hx hb dL_law_1227 (lv_at hl 17 rfl) ?_
    refine lv_aload hx hb dL_law_1229 (lv_at hl 16 rfl) ?_
    refine lv_iload hx hb dL_law_1231 (lv_at hl 1 rfl) ?_
    obtain ⟨v1233q, hv1233, hf⟩ := hf
    refine zr_aald X hR (t := 6) (r := (some x16)) (by decide) rfl dL_law_1233 hv1233 (fun v1233 hvv => ?_)
    have hvv := Option.some.inj hvv
    subst hvv
    refine lv_iload hx hb dL_law_1234 (lv_at hl 0 rfl) ?_
    obtain ⟨v1236q, hv1236, hf⟩ := hf
    refine zr_iald X hR (r := v1233) dL_law_1236 hv1236 (fun v1236 hvv => ?_)
    have hvv := Option.some.inj hvv
    subst hvv
    have kJ : ∀ w1237 : Int32, w1237 = (if v1236 = (0 : Int32) then (1 : Int32) else (0 : Int32)) → W p l e room_1 s m args below meth c H locs cs ss Q (F0 m 1245 ls [.int w1237, .int x17]) := by
      intro w1237 hw1237
      replace hf := hf w1237 hw1237
      refine lv_iadd hx hb dL_law_1245 ?_
      refine lv_istore (i := 17) (lv' := [(17, .int (x17 + w1237)), (20, .int v1222), (19, .int v1210), (0, .ref x0), (1, .ref x1), (2, .int x2), (3, .int x3), (4, .int (1 : Int32)), (6, .ref x6), (7, .ref x7), (8, .ref x8), (9, .int x9), (10, .int x10), (12, .int x12), (13, .ref x13), (14, .ref x14), (15, .ref x15), (16, .ref x16), (18, .int x18)]) hx hb dL_law_1246 hl (by decide) rfl (fun ls hl => ?_)
      refine lv_aload hx hb dL_law_1248 (lv_at hl 17 rfl) ?_
      refine lv_iload hx hb dL_law_1250 (lv_at hl 2 rfl) ?_
      obtain ⟨v1252q, hv1252, hf⟩ := hf
      refine zr_aald X hR (t := 6) (r := (some x16)) (by decide) rfl dL_law_1252 hv1252 (fun v1252 hvv => ?_)
      have hvv := Option.some.inj hvv
      subst hvv
      refine lv_iload hx hb dL_law_1253 (lv_at hl 1 rfl) ?_
      refine lv_iconst (v := (1 : Int32)) hx hb dL_law_1255 (by decide) ?_
      refine lv_aload_n hx hb dL_law_1256 rfl (lv_at hl 3 rfl) ?_
      refine lv_bipush (v := (114 : Int32)) hx hb dL_law_1257 (by decide) ?_
      refine lv_iload hx hb dL_law_1259 (lv_at hl 18 rfl) ?_
      refine lv_iadd hx hb dL_law_1261 ?_
      refine lv_bipush (v := (30 : Int32)) hx hb dL_law_1262 (by decide) ?_
      obtain ⟨v1264, hv1264, hf⟩ := hf
      refine zr_cS X hR hl.1 (As := [.ref x0, .int ((114 : Int32) + x18), .int (30 : Int32)]) (rest := [.int (1 : Int32), .int v1222, va_rf v1252]) (mt_L_in hT x0 ((114 : Int32) + x18) (30 : Int32) h n hv1264) mf_L_in q_1000 q_1001 ⟨Nat.le_of_ble_eq_true rfl, Nat.le_of_ble_eq_true rfl⟩ ⟨by show cs + 0 ≤ 600104; omega, by show ss + 0 ≤ 7301313; omega⟩ rfl (Nat.le_of_ble_eq_true rfl) dL_law_1264 (fun H locs hR => ?_)
      refine W.eq (g2 := F0 m 1267 ls [.int v1264, .int (1 : Int32), .int v1222, va_rf v1252]) rfl ?_
      refine W.widen (k := cs) (n := ss) (Nat.le_refl _) (Nat.le_refl _) ?_
      refine lv_iadd hx hb dL_law_1267 ?_
      obtain ⟨h1268q, hv1268, hf⟩ := hf
      refine zr_iast X hR (r := v1252) dL_law_1268 hv1268 (fun h1268 H locs hvv hR => ?_)
      have hvv := Option.some.inj hvv
      subst hvv
      refine lv_iload hx hb dL_law_1269 (lv_at hl 7 rfl) ?_
      refine lv_aload_n hx hb dL_law_1271 rfl (lv_at hl 4 rfl) ?_
      refine lv_iconst (v := (0 : Int32)) hx hb dL_law_1272 (by decide) ?_
      refine lv_bipush (v := (10 : Int32)) hx hb dL_law_1273 (by decide) ?_
      refine lv_iload hx hb dL_law_1275 (lv_at hl 2 rfl) ?_
      refine lv_imul hx hb dL_law_1277 ?_
      refine lv_iload hx hb dL_law_1278 (lv_at hl 1 rfl) ?_
      refine lv_iadd hx hb dL_law_1280 ?_
      refine lv_aload hx hb dL_law_1281 (lv_at hl 17 rfl) ?_
      refine lv_iload hx hb dL_law_1283 (lv_at hl 2 rfl) ?_
      obtain ⟨v1285q, hv1285, hf⟩ := hf
      refine zr_aald X hR (t := 6) (r := (some x16)) (by decide) rfl dL_law_1285 hv1285 (fun v1285 hvv => ?_)
      have hvv := Option.some.inj hvv
      subst hvv
      refine lv_iload hx hb dL_law_1286 (lv_at hl 1 rfl) ?_
      obtain ⟨v1288q, hv1288, hf⟩ := hf
      refine zr_iald X hR (r := v1285) dL_law_1288 hv1288 (fun v1288 hvv => ?_)
      have hvv := Option.some.inj hvv
      subst hvv
      obtain ⟨v1289, h1289, m1289, hv1289, hf⟩ := hf
      refine zl_cS X hN hR hl.1 (As := [.ref x1, .int (0 : Int32), .int (((10 : Int32) * v1210) + v1222), .int v1288]) (rest := [.int (1 : Int32)]) (mt_L_draw hT x1 (0 : Int32) (((10 : Int32) * v1210) + v1222) v1288 h1268 n hv1289) mf_L_draw.1 mf_L_draw.2.1 mf_L_draw.2.2 q_798 q_799 ⟨Nat.le_of_ble_eq_true rfl, Nat.le_of_ble_eq_true rfl⟩ ⟨by show cs + 6 ≤ 600104; omega, by show ss + 36 ≤ 7301313; omega⟩ rfl (Nat.le_of_ble_eq_true rfl) dL_law_1289 (fun n1289 H locs hn1289 hR => ?_)
      replace hf := hf n1289 hn1289
      refine W.eq (g2 := F0 m 1292 ls [.int v1289, .int (1 : Int32)]) rfl ?_
      refine W.widen (k := cs + 6) (n := ss + 36) (by show cs + 6 ≤ _; omega) (by show ss + 36 ≤ _; omega) ?_
      refine lv_iload hx hb dL_law_1292 (lv_at hl 0 rfl) ?_
      obtain ⟨hc1294, hf⟩ := hf
      refine lv_icmp_ne (tgt := 1301) hx hb dL_law_1294 (by decide) (fun c1294 => ?_) (fun c1294 => ?_)
      · exact absurd hc1294 c1294
      refine lv_iconst (v := (1 : Int32)) hx hb dL_law_1297 (by decide) ?_
      refine lv_goto (tgt := 1302) hx hb dL_law_1298 (by decide) ?_
      refine lv_iand hx hb dL_law_1302 ?_
      refine W.eq (g2 := F0 m 1303 ls [.int (1 : Int32)]) rfl ?_
      refine lv_istore (i := 4) (lv' := [(4, .int (1 : Int32)), (17, .int (x17 + w1237)), (20, .int v1222), (19, .int v1210), (0, .ref x0), (1, .ref x1), (2, .int x2), (3, .int x3), (6, .ref x6), (7, .ref x7), (8, .ref x8), (9, .int x9), (10, .int x10), (12, .int x12), (13, .ref x13), (14, .ref x14), (15, .ref x15), (16, .ref x16), (18, .int x18)]) hx hb dL_law_1303 hl (by decide) rfl (fun ls hl => ?_)
      refine lv_iinc (i := 18) (v := (x18 + (1 : Int32))) (lv' := [(18, .int (x18 + (1 : Int32))), (4, .int (1 : Int32)), (17, .int (x17 + w1237)), (20, .int v1222), (19, .int v1210), (0, .ref x0), (1, .ref x1), (2, .int x2), (3, .int x3), (6, .ref x6), (7, .ref x7), (8, .ref x8), (9, .int x9), (10, .int x10), (12, .int x12), (13, .ref x13), (14, .ref x14), (15, .ref x15), (16, .ref x16)]) hx hb dL_law_1305 hl (k := 18) rfl rfl (by decide) rfl (fun ls hl => ?_)
      refine lv_goto (tgt := 1196) hx hb dL_law_1308 (by decide) ?_
      refine W.widen (k := cs + 200) (n := ss + 2000) (by omega) (by omega) ?_
      exact kk_1196 _ _ _ _ _ _ _ _ _ _ _ _ _ _ _ _ _ _ hf hR (lv_sub hl [5, 6, 7, 8, 1, 9, 10, 11, 12, 13, 14, 15, 16, 17, 18, 2, 0] rfl)
    refine lv_if_ne (tgt := 1244) hx hb dL_law_1237 (by decide) (fun c1237 => ?_) (fun c1237 => ?_)
    · refine lv_iconst (v := (0 : Int32)) hx hb dL_law_1244 (by decide) ?_
      exact kJ _ (by rw [if_neg c1237])
    · refine lv_iconst (v := (1 : Int32)) hx hb dL_law_1240 (by decide) ?_
      refine lv_goto (tgt := 1245) hx hb dL_law_1241 (by decide) ?_
      exact kJ _ (by rw [if_pos c1237])
set_option maxHeartbeats 4000000 in
set_option maxRecDepth 100000 in
theorem lc_1311 {D : va_G} {dA : Nat → ClassId} {base t0 : Nat} {l : Launch} {p : Program} {e : Env} {s : State} {m : MethodId} {args : Array Value} {below : List Frame} {meth : Method} {c : Code} {Q : State → Prop} {cs ss : Nat} (X : zz_X D dA base t0 "SpringseatLaw" cL_law 35 (some .boolean) l p s m meth c) (hT : l.stackTraces = false) (hN : zz_N s) (hc : cs + 200 ≤ 600104) (hs : ss + 2000 ≤ 7301313) {x0 : Nat} {x1 : Nat} {x2 : Int32} {x3 : Int32} {x6 : Nat} {x7 : Nat} {x8 : Nat} {x9 : Int32} {x10 : Int32} {x12 : Int32} {x13 : Nat} {x14 : Nat} {x15 : Nat} {x16 : Nat} {x17 : Int32} {K_1597 : Nat → Nat → Int32 → Int32 → Nat → Nat → Nat → Int32 → Int32 → Nat → Nat → Nat → Nat → Int32 → Int32 → Int32 → Int32 → zz_H → Nat → Prop} (kk_1597 : ∀ (x0 : Nat) (x1 : Nat) (x2 : Int32) (x3 : Int32) (x6 : Nat) (x7 : Nat) (x8 : Nat) (x9 : Int32) (x12 : Int32) (x13 : Nat) (x14 : Nat) (x15 : Nat) (x16 : Nat) (x20 : Int32) (x21 : Int32) (x22 : Int32) (x23 : Int32) (h : zz_H) (n : Nat), K_1597 x0 x1 x2 x3 x6 x7 x8 x9 x12 x13 x14 x15 x16 x20 x21 x22 x23 h n → ∀ {H : Heap} {locs : List Loc} {ls : Array Slot}, zz_R D dA base h n s H locs → lv_has ls 35 [(0, .ref x0), (1, .ref x1), (2, .int x2), (3, .int x3), (4, .int (1 : Int32)), (6, .ref x6), (7, .ref x7), (8, .ref x8), (9, .int x9), (12, .int x12), (13, .ref x13), (14, .ref x14), (15, .ref x15), (16, .ref x16), (20, .int x20), (21, .int x21), (22, .int x22), (23, .int x23)] → W p l e room_1 s m args below meth c H locs (cs + 200) (ss + 2000) Q (F0 m 1597 ls [])) {h : zz_H} {n : Nat} {H : Heap} {locs : List Loc} {ls : Array Slot} (hR : zz_R D dA base h n s H locs) (hl : lv_has ls 35 [(0, .ref x0), (1, .ref x1), (2, .int x2), (3, .int x3), (4, .int (1 : Int32)), (6, .ref x6), (7, .ref x7), (8, .ref x8), (9, .int x9), (10, .int x10), (12, .int x12), (13, .ref x13), (14, .ref x14), (15, .ref x15), (16, .ref x16), (17, .int x17)]) (hf : w_1311 t0 x0 x1 x2 x3 x6 x7 x8 x9 x10 x12 x13 x14 x15 x16 x17 h n K_1597) : W p l e room_1 s m args below meth c H locs cs ss Q (F0 m 1311 ls []) := by
  have hx := X.1
  have hb := X.2.1
  have hown := X.2.2.2.2.1
  unfold w_1311 at hf
  refine lv_iload hx hb dL_law_1311 (lv_at hl 8 rfl) ?_
  refine lv_iconst (v := (4 : Int32)) hx hb dL_law_1313 (by decide) ?_
  refine lv_iload hx hb dL_law_1314 (lv_at hl 15 rfl) ?_
  refine lv_imul hx hb dL_law_1316 ?_
  refine lv_iadd hx hb dL_law_1317 ?_
  refine lv_istore (i := 9) (lv' := [(9, .int (x9 + ((4 : Int32) * x17))), (0, .ref x0), (1, .ref x1), (2, .int x2), (3, .int x3), (4, .int (1 : Int32)), (6, .ref x6), (7, .ref x7), (8, .ref x8), (10, .int x10), (12, .int x12), (13, .ref x13), (14, .ref x14), (15, .ref x15), (16, .ref x16), (17, .int x17)]) hx hb dL_law_1318 hl (by decide) rfl (fun ls hl => ?_)
  obtain ⟨w1320_18, w1320_19, hg1320, hf⟩ := hf
  refine bk_L_law_1320 (r0 := 0) (cs := cs) (ss := ss) (n := n) X hT (by omega) (by omega) hR (lv_sub hl [1, 2, 3, 4, 5, 6, 7, 8, 0, 9, 10, 11, 12, 13, 14] rfl) hg1320 (fun y1320_18 y1320_19 e H locs ls hR hl => ?_) (fun r e => by cases e)
  cases e
  refine lv_iload hx hb dL_law_1492 (lv_at hl 4 rfl) ?_
  refine lv_aload_n hx hb dL_law_1494 rfl (lv_at hl 1 rfl) ?_
  refine lv_iconst (v := (0 : Int32)) hx hb dL_law_1495 (by decide) ?_
  refine lv_iconst (v := (0 : Int32)) hx hb dL_law_1496 (by decide) ?_
  obtain ⟨⟨fs1497, ho1497⟩, hf⟩ := hf
  obtain ⟨v1497, hv1497, hf⟩ := hf
  refine zl_V X hR hl.1 (As := [.int (0 : Int32), .int (0 : Int32)]) (rest := [.int (1 : Int32)]) (C := RX9) (T := TX9) (N := 6) (ro := (fun v : Int32 => some (Value.int v)) v1497) (mt_X9_folds hT x1 (0 : Int32) (0 : Int32) h n hv1497) rfl ho1497 mf_X9_folds q_280 q_281 q_282 ⟨Nat.le_of_ble_eq_true rfl, Nat.le_of_ble_eq_true rfl⟩ ⟨by show cs + 1 ≤ 600104; omega, by show ss + 6 ≤ 7301313; omega⟩ rfl (Nat.le_of_ble_eq_true rfl) dL_law_1497 (fun H locs hR => ?_)
  refine W.eq (g2 := F0 m 1500 ls [.int v1497, .int (1 : Int32)]) rfl ?_
  refine W.widen (k := cs + 1) (n := ss + 6) (by show cs + 1 ≤ _; omega) (by show ss + 6 ≤ _; omega) ?_
  refine lv_iload hx hb dL_law_1500 (lv_at hl 15 rfl) ?_
  obtain ⟨hc1502, hf⟩ := hf
  refine lv_icmp_ne (tgt := 1574) hx hb dL_law_1502 (by decide) (fun c1502 => ?_) (fun c1502 => ?_)
  · exact absurd hc1502 c1502
  refine lv_aload_n hx hb dL_law_1505 rfl (lv_at hl 1 rfl) ?_
  refine lv_iconst (v := (0 : Int32)) hx hb dL_law_1506 (by decide) ?_
  refine lv_iconst (v := (1 : Int32)) hx hb dL_law_1507 (by decide) ?_
  obtain ⟨⟨fs1508, ho1508⟩, hf⟩ := hf
  obtain ⟨v1508, hv1508, hf⟩ := hf
  refine zl_V X hR hl.1 (As := [.int (0 : Int32), .int (1 : Int32)]) (rest := [.int (1 : Int32)]) (C := RX9) (T := TX9) (N := 6) (ro := (fun v : Int32 => some (Value.int v)) v1508) (mt_X9_folds hT x1 (0 : Int32) (1 : Int32) h n hv1508) rfl ho1508 mf_X9_folds q_280 q_281 q_282 ⟨Nat.le_of_ble_eq_true rfl, Nat.le_of_ble_eq_true rfl⟩ ⟨by show cs + 1 + 1 ≤ 600104; omega, by show ss + 6 + 6 ≤ 7301313; omega⟩ rfl (Nat.le_of_ble_eq_true rfl) dL_law_1508 (fun H locs hR => ?_)
  refine W.eq (g2 := F0 m 1511 ls [.int v1508, .int (1 : Int32)]) rfl ?_
  refine W.widen (k := cs + 2) (n := ss + 12) (by show cs + 1 + 1 ≤ _; omega) (by show ss + 6 + 6 ≤ _; omega) ?_
  refine lv_iload hx hb dL_law_1511 (lv_at hl 16 rfl) ?_
  obtain ⟨hc1513, hf⟩ := hf
  refine lv_icmp_ne (tgt := 1574) hx hb dL_law_1513 (by decide) (fun c1513 => ?_) (fun c1513 => ?_)
  · exact absurd hc1513 c1513
  refine lv_aload_n hx hb dL_law_1516 rfl (lv_at hl 1 rfl) ?_
  refine lv_iconst (v := (0 : Int32)) hx hb dL_law_1517 (by decide) ?_
  obtain ⟨v1518, h1518, m1518, hv1518, hf⟩ := hf
  refine zl_cS X hN hR hl.1 (As := [.ref x1, .int (0 : Int32)]) (rest := [.int (1 : Int32)]) (mt_L_sign hT x1 (0 : Int32) h n hv1518) mf_L_sign.1 mf_L_sign.2.1 mf_L_sign.2.2 q_844 q_845 ⟨Nat.le_of_ble_eq_true rfl, Nat.le_of_ble_eq_true rfl⟩ ⟨by show cs + 2 + 2 ≤ 600104; omega, by show ss + 12 + 12 ≤ 7301313; omega⟩ rfl (Nat.le_of_ble_eq_true rfl) dL_law_1518 (fun n1518 H locs hn1518 hR => ?_)
  replace hf := hf n1518 hn1518
  refine W.eq (g2 := F0 m 1521 ls [.int v1518, .int (1 : Int32)]) rfl ?_
  refine W.widen (k := cs + 4) (n := ss + 24) (by show cs + 2 + 2 ≤ _; omega) (by show ss + 12 + 12 ≤ _; omega) ?_
  refine lv_iload hx hb dL_law_1521 (lv_at hl 9 rfl) ?_
  refine lv_iconst (v := (1 : Int32)) hx hb dL_law_1523 (by decide) ?_
  refine lv_iadd hx hb dL_law_1524 ?_
  obtain ⟨hc1525, hf⟩ := hf
  refine lv_icmp_ne (tgt := 1574) hx hb dL_law_1525 (by decide) (fun c1525 => ?_) (fun c1525 => ?_)
  · exact absurd hc1525 c1525
  refine lv_aload_n hx hb dL_law_1528 rfl (lv_at hl 1 rfl) ?_
  refine lv_iconst (v := (0 : Int32)) hx hb dL_law_1529 (by decide) ?_
  obtain ⟨v1530, h1530, m1530, hv1530, hf⟩ := hf
  refine zl_cS X hN hR hl.1 (As := [.ref x1, .int (0 : Int32)]) (rest := [.int (1 : Int32)]) (mt_L_quote hT x1 (0 : Int32) h1518 n1518 hv1530) mf_L_quote.1 mf_L_quote.2.1 mf_L_quote.2.2 q_965 q_966 ⟨Nat.le_of_ble_eq_true rfl, Nat.le_of_ble_eq_true rfl⟩ ⟨by show cs + 4 + 1 ≤ 600104; omega, by show ss + 24 + 6 ≤ 7301313; omega⟩ rfl (Nat.le_of_ble_eq_true rfl) dL_law_1530 (fun n1530 H locs hn1530 hR => ?_)
  replace hf := hf n1530 hn1530
  refine W.eq (g2 := F0 m 1533 ls [.int v1530, .int (1 : Int32)]) rfl ?_
  refine W.widen (k := cs + 5) (n := ss + 30) (by show cs + 4 + 1 ≤ _; omega) (by show ss + 24 + 6 ≤ _; omega) ?_
  refine lv_iload hx hb dL_law_1533 (lv_at hl 8 rfl) ?_
  obtain ⟨hc1535, hf⟩ := hf
  refine lv_icmp_ne (tgt := 1574) hx hb dL_law_1535 (by decide) (fun c1535 => ?_) (fun c1535 => ?_)
  · exact absurd hc1535 c1535
  refine lv_aload_n hx hb dL_law_1538 rfl (lv_at hl 1 rfl) ?_
  refine lv_iconst (v := (0 : Int32)) hx hb dL_law_1539 (by decide) ?_
  refine lv_iconst (v := (1 : Int32)) hx hb dL_law_1540 (by decide) ?_
  obtain ⟨v1541, h1541, m1541, hv1541, hf⟩ := hf
  refine zl_cS X hN hR hl.1 (As := [.ref x1, .int (0 : Int32), .int (1 : Int32)]) (rest := [.int (1 : Int32)]) (mt_L_use hT x1 (0 : Int32) (1 : Int32) h1530 n1530 hv1541) mf_L_use.1 mf_L_use.2.1 mf_L_use.2.2 q_919 q_920 ⟨Nat.le_of_ble_eq_true rfl, Nat.le_of_ble_eq_true rfl⟩ ⟨by show cs + 5 + 4 ≤ 600104; omega, by show ss + 30 + 24 ≤ 7301313; omega⟩ rfl (Nat.le_of_ble_eq_true rfl) dL_law_1541 (fun n1541 H locs hn1541 hR => ?_)
  replace hf := hf n1541 hn1541
  refine W.eq (g2 := F0 m 1544 ls [.int v1541, .int (1 : Int32)]) rfl ?_
  refine W.widen (k := cs + 9) (n := ss + 54) (by show cs + 5 + 4 ≤ _; omega) (by show ss + 30 + 24 ≤ _; omega) ?_
  refine lv_ldc hx hb hown (zz_w X q_686) dL_law_1544 ?_
  obtain ⟨hc1546, hf⟩ := hf
  refine lv_icmp_ne (tgt := 1574) hx hb dL_law_1546 (by decide) (fun c1546 => ?_) (fun c1546 => ?_)
  · exact absurd hc1546 c1546
  refine lv_aload_n hx hb dL_law_1549 rfl (lv_at hl 1 rfl) ?_
  refine lv_iconst (v := (0 : Int32)) hx hb dL_law_1550 (by decide) ?_
  obtain ⟨v1551, h1551, m1551, hv1551, hf⟩ := hf
  refine zl_cS X hN hR hl.1 (As := [.ref x1, .int (0 : Int32)]) (rest := [.int (1 : Int32)]) (mt_L_hours hT x1 (0 : Int32) h1541 n1541 hv1551) mf_L_hours.1 mf_L_hours.2.1 mf_L_hours.2.2 q_951 q_952 ⟨Nat.le_of_ble_eq_true rfl, Nat.le_of_ble_eq_true rfl⟩ ⟨by show cs + 9 + 2 ≤ 600104; omega, by show ss + 54 + 12 ≤ 7301313; omega⟩ rfl (Nat.le_of_ble_eq_true rfl) dL_law_1551 (fun n1551 H locs hn1551 hR => ?_)
  replace hf := hf n1551 hn1551
  refine W.eq (g2 := F0 m 1554 ls [.int v1551, .int (1 : Int32)]) rfl ?_
  refine W.widen (k := cs + 11) (n := ss + 66) (by show cs + 9 + 2 ≤ _; omega) (by show ss + 54 + 12 ≤ _; omega) ?_
  refine lv_ldc hx hb hown (zz_w X q_660) dL_law_1554 ?_
  obtain ⟨hc1556, hf⟩ := hf
  refine lv_icmp_ne (tgt := 1574) hx hb dL_law_1556 (by decide) (fun c1556 => ?_) (fun c1556 => ?_)
  · exact absurd hc1556 c1556
  refine lv_aload_n hx hb dL_law_1559 rfl (lv_at hl 1 rfl) ?_
  refine lv_sipush (v := (2000 : Int32)) hx hb dL_law_1560 (by decide) ?_
  refine lv_iconst (v := (1 : Int32)) hx hb dL_law_1563 (by decide) ?_
  obtain ⟨v1564, h1564, m1564, hv1564, hf⟩ := hf
  refine zl_cS X hN hR hl.1 (As := [.ref x1, .int (2000 : Int32), .int (1 : Int32)]) (rest := [.int (1 : Int32)]) (mt_L_cloth hT x1 (2000 : Int32) (1 : Int32) h1551 n1551 hv1564) mf_L_cloth.1 mf_L_cloth.2.1 mf_L_cloth.2.2 q_890 q_891 ⟨Nat.le_of_ble_eq_true rfl, Nat.le_of_ble_eq_true rfl⟩ ⟨by show cs + 11 + 6 ≤ 600104; omega, by show ss + 66 + 43 ≤ 7301313; omega⟩ rfl (Nat.le_of_ble_eq_true rfl) dL_law_1564 (fun n1564 H locs hn1564 hR => ?_)
  replace hf := hf n1564 hn1564
  refine W.eq (g2 := F0 m 1567 ls [.int v1564, .int (1 : Int32)]) rfl ?_
  refine W.widen (k := cs + 17) (n := ss + 109) (by show cs + 11 + 6 ≤ _; omega) (by show ss + 66 + 43 ≤ _; omega) ?_
  obtain ⟨hc1567, hf⟩ := hf
  refine lv_if_ne (tgt := 1574) hx hb dL_law_1567 (by decide) (fun c1567 => ?_) (fun c1567 => ?_)
  · exact absurd hc1567 c1567
  refine lv_iconst (v := (1 : Int32)) hx hb dL_law_1570 (by decide) ?_
  refine lv_goto (tgt := 1575) hx hb dL_law_1571 (by decide) ?_
  refine lv_iand hx hb dL_law_1575 ?_
  refine W.eq (g2 := F0 m 1576 ls [.int (1 : Int32)]) rfl ?_
  refine lv_istore (i := 4) (lv' := [(4, .int (1 : Int32)), (0, .ref x0), (1, .ref x1), (2, .int x2), (3, .int x3), (6, .ref x6), (7, .ref x7), (8, .ref x8), (9, .int (x9 + ((4 : Int32) * x17))), (10, .int x10), (12, .int x12), (13, .ref x13), (14, .ref x14), (15, .ref x15), (16, .ref x16), (18, .int w1320_18), (19, .int w1320_19)]) hx hb dL_law_1576 hl (by decide) rfl (fun ls hl => ?_)
  refine lv_iconst (v := (0 : Int32)) hx hb dL_law_1578 (by decide) ?_
  refine lv_istore (i := 20) (lv' := [(20, .int (0 : Int32)), (4, .int (1 : Int32)), (0, .ref x0), (1, .ref x1), (2, .int x2), (3, .int x3), (6, .ref x6), (7, .ref x7), (8, .ref x8), (9, .int (x9 + ((4 : Int32) * x17))), (10, .int x10), (12, .int x12), (13, .ref x13), (14, .ref x14), (15, .ref x15), (16, .ref x16), (18, .int w1320_18), (19, .int w1320_19)]) hx hb dL_law_1579 hl (by decide) rfl (fun ls hl => ?_)
  refine lv_iconst (v := (0 : Int32)) hx hb dL_law_1581 (by decide) ?_
  refine lv_istore (i := 21) (lv' := [(21, .int (0 : Int32)), (20, .int (0 : Int32)), (4, .int (1 : Int32)), (0, .ref x0), (1, .ref x1), (2, .int x2), (3, .int x3), (6, .ref x6), (7, .ref x7), (8, .ref x8), (9, .int (x9 + ((4 : Int32) * x17))), (10, .int x10), (12, .int x12), (13, .ref x13), (14, .ref x14), (15, .ref x15), (16, .ref x16), (18, .int w1320_18), (19, .int w1320_19)]) hx hb dL_law_1582 hl (by decide) rfl (fun ls hl => ?_)
  refine lv_aload_n hx hb dL_law_1584 rfl (lv_at hl 3 rfl) ?_
  refine lv_bipush (v := (6 : Int32)) hx hb dL_law_1585 (by decide) ?_
  refine lv_bipush (v := (30 : Int32)) hx hb dL_law_1587 (by decide) ?_
  obtain ⟨v1589, hv1589, hf⟩ := hf
  refine zr_cS X hR hl.1 (As := [.ref x0, .int (6 : Int32), .int (30 : Int32)]) (rest := []) (mt_L_in hT x0 (6 : Int32) (30 : Int32) h1564 n1564 hv1589) mf_L_in q_1000 q_1001 ⟨Nat.le_of_ble_eq_true rfl, Nat.le_of_ble_eq_true rfl⟩ ⟨by show cs + 17 + 0 ≤ 600104; omega, by show ss + 109 + 0 ≤ 7301313; omega⟩ rfl (Nat.le_of_ble_eq_true rfl) dL_law_1589 (fun H locs hR => ?_)
  refine W.eq (g2 := F0 m 1592 ls [.int v1589]) rfl ?_
  refine W.widen (k := cs + 17) (n := ss + 109) (Nat.le_refl _) (Nat.le_refl _) ?_
  refine lv_istore (i := 22) (lv' := [(22, .int v1589), (21, .int (0 : Int32)), (20, .int (0 : Int32)), (4, .int (1 : Int32)), (0, .ref x0), (1, .ref x1), (2, .int x2), (3, .int x3), (6, .ref x6), (7, .ref x7), (8, .ref x8), (9, .int (x9 + ((4 : Int32) * x17))), (10, .int x10), (12, .int x12), (13, .ref x13), (14, .ref x14), (15, .ref x15), (16, .ref x16), (18, .int w1320_18), (19, .int w1320_19)]) hx hb dL_law_1592 hl (by decide) rfl (fun ls hl => ?_)
  refine lv_iconst (v := (0 : Int32)) hx hb dL_law_1594 (by decide) ?_
  refine lv_istore (i := 23) (lv' := [(23, .int (0 : Int32)), (22, .int v1589), (21, .int (0 : Int32)), (20, .int (0 : Int32)), (4, .int (1 : Int32)), (0, .ref x0), (1, .ref x1), (2, .int x2), (3, .int x3), (6, .ref x6), (7, .ref x7), (8, .ref x8), (9, .int (x9 + ((4 : Int32) * x17))), (10, .int x10), (12, .int x12), (13, .ref x13), (14, .ref x14), (15, .ref x15), (16, .ref x16), (18, .int w1320_18), (19, .int w1320_19)]) hx hb dL_law_1595 hl (by decide) rfl (fun ls hl => ?_)
  refine W.widen (k := cs + 200) (n := ss + 2000) (by omega) (by omega) ?_
  exact kk_1597 _ _ _ _ _ _ _ _ _ _ _ _ _ _ _ _ _ _ _ hf hR (lv_sub hl [5, 6, 7, 8, 4, 9, 10, 11, 12, 14, 15, 16, 17, 18, 3, 2, 1, 0] rfl)
set_option maxHeartbeats 4000000 in
set_option maxRecDepth 100000 in
theorem lc_1597 {D : va_G} {dA : Nat → ClassId} {base t0 : Nat} {l : Launch} {p : Program} {e : Env} {s : State} {m : MethodId} {args : Array Value} {below : List Frame} {meth : Method} {c : Code} {Q : State → Prop} {cs ss : Nat} (X : zz_X D dA base t0 "SpringseatLaw" cL_law 35 (some .boolean) l p s m meth c) (hT : l.stackTraces = false) (hN : zz_N s) (hc : cs + 200 ≤ 600104) (hs : ss + 2000 ≤ 7301313) {x0 : Nat} {x1 : Nat} {x2 : Int32} {x3 : Int32} {x6 : Nat} {x7 : Nat} {x8 : Nat} {x9 : Int32} {x12 : Int32} {x13 : Nat} {x14 : Nat} {x15 : Nat} {x16 : Nat} {x20 : Int32} {x21 : Int32} {x22 : Int32} {x23 : Int32} {K_1612 : Nat → Nat → Int32 → Int32 → Nat → Nat → Nat → Int32 → Int32 → Nat → Nat → Nat → Nat → Int32 → Int32 → Int32 → Int32 → Int32 → Int32 → Int32 → zz_H → Nat → Prop} {K_2277 : Nat → zz_H → Nat → Prop} (kk_1612 : ∀ (x0 : Nat) (x1 : Nat) (x2 : Int32) (x3 : Int32) (x6 : Nat) (x7 : Nat) (x8 : Nat) (x9 : Int32) (x12 : Int32) (x13 : Nat) (x14 : Nat) (x15 : Nat) (x16 : Nat) (x20 : Int32) (x21 : Int32) (x22 : Int32) (x23 : Int32) (x24 : Int32) (x25 : Int32) (x26 : Int32) (h : zz_H) (n : Nat), K_1612 x0 x1 x2 x3 x6 x7 x8 x9 x12 x13 x14 x15 x16 x20 x21 x22 x23 x24 x25 x26 h n → ∀ {H : Heap} {locs : List Loc} {ls : Array Slot}, zz_R D dA base h n s H locs → lv_has ls 35 [(0, .ref x0), (1, .ref x1), (2, .int x2), (3, .int x3), (4, .int (1 : Int32)), (6, .ref x6), (7, .ref x7), (8, .ref x8), (9, .int x9), (12, .int x12), (13, .ref x13), (14, .ref x14), (15, .ref x15), (16, .ref x16), (20, .int x20), (21, .int x21), (22, .int x22), (23, .int x23), (24, .int x24), (25, .int x25), (26, .int x26)] → W p l e room_1 s m args below meth c H locs (cs + 200) (ss + 2000) Q (F0 m 1612 ls [])) (kk_2277 : ∀ (x1 : Nat) (h : zz_H) (n : Nat), K_2277 x1 h n → ∀ {H : Heap} {locs : List Loc} {ls : Array Slot}, zz_R D dA base h n s H locs → lv_has ls 35 [(1, .ref x1), (4, .int (1 : Int32))] → W p l e room_1 s m args below meth c H locs (cs + 200) (ss + 2000) Q (F0 m 2277 ls [])) {h : zz_H} {n : Nat} {H : Heap} {locs : List Loc} {ls : Array Slot} (hR : zz_R D dA base h n s H locs) (hl : lv_has ls 35 [(0, .ref x0), (1, .ref x1), (2, .int x2), (3, .int x3), (4, .int (1 : Int32)), (6, .ref x6), (7, .ref x7), (8, .ref x8), (9, .int x9), (12, .int x12), (13, .ref x13), (14, .ref x14), (15, .ref x15), (16, .ref x16), (20, .int x20), (21, .int x21), (22, .int x22), (23, .int x23)]) (hf : w_1597 t0 x0 x1 x2 x3 x6 x7 x8 x9 x12 x13 x14 x15 x16 x20 x21 x22 x23 h n K_1612 K_2277) : W p l e room_1 s m args below meth c H locs cs ss Q (F0 m 1597 ls []) := by
  have hx := X.1
  have hb := X.2.1
  have hown := X.2.2.2.2.1
  unfold w_1597 at hf
  refine lv_iload hx hb dL_law_1597 (lv_at hl 17 rfl) ?_
  refine lv_iconst (v := (4 : Int32)) hx hb dL_law_1599 (by decide) ?_
  refine lv_icmp_ge (tgt := 2277) hx hb dL_law_1600 (by decide) (fun c1600 => ?_) (fun c1600 => ?_)
  · replace hf := hf.1 c1600
    refine W.widen (k := cs + 200) (n := ss + 2000) (by omega) (by omega) ?_
    exact kk_2277 _ _ _ hf hR (lv_sub hl [1, 4] rfl)
  · replace hf := hf.2 c1600
    refine lv_iconst (v := (0 : Int32)) hx hb dL_law_1603 (by decide) ?_
    refine lv_istore (i := 24) (lv' := [(24, .int (0 : Int32)), (0, .ref x0), (1, .ref x1), (2, .int x2), (3, .int x3), (4, .int (1 : Int32)), (6, .ref x6), (7, .ref x7), (8, .ref x8), (9, .int x9), (12, .int x12), (13, .ref x13), (14, .ref x14), (15, .ref x15), (16, .ref x16), (20, .int x20), (21, .int x21), (22, .int x22), (23, .int x23)]) hx hb dL_law_1604 hl (by decide) rfl (fun ls hl => ?_)
    refine lv_iconst (v := (0 : Int32)) hx hb dL_law_1606 (by decide) ?_
    refine lv_istore (i := 25) (lv' := [(25, .int (0 : Int32)), (24, .int (0 : Int32)), (0, .ref x0), (1, .ref x1), (2, .int x2), (3, .int x3), (4, .int (1 : Int32)), (6, .ref x6), (7, .ref x7), (8, .ref x8), (9, .int x9), (12, .int x12), (13, .ref x13), (14, .ref x14), (15, .ref x15), (16, .ref x16), (20, .int x20), (21, .int x21), (22, .int x22), (23, .int x23)]) hx hb dL_law_1607 hl (by decide) rfl (fun ls hl => ?_)
    refine lv_iconst (v := (0 : Int32)) hx hb dL_law_1609 (by decide) ?_
    refine lv_istore (i := 26) (lv' := [(26, .int (0 : Int32)), (25, .int (0 : Int32)), (24, .int (0 : Int32)), (0, .ref x0), (1, .ref x1), (2, .int x2), (3, .int x3), (4, .int (1 : Int32)), (6, .ref x6), (7, .ref x7), (8, .ref x8), (9, .int x9), (12, .int x12), (13, .ref x13), (14, .ref x14), (15, .ref x15), (16, .ref x16), (20, .int x20), (21, .int x21), (22, .int x22), (23, .int x23)]) hx hb dL_law_1610 hl (by decide) rfl (fun ls hl => ?_)
    refine W.widen (k := cs + 200) (n := ss + 2000) (by omega) (by omega) ?_
    exact kk_1612 _ _ _ _ _ _ _ _ _ _ _ _ _ _ _ _ _ _ _ _ _ _ hf hR (lv_sub hl [3, 4, 5, 6, 7, 8, 9, 10, 11, 12, 13, 14, 15, 16, 17, 18, 19, 20, 2, 1, 0] rfl)
set_option maxHeartbeats 4000000 in
set_option maxRecDepth 100000 in
theorem lc_1612 {D : va_G} {dA : Nat → ClassId} {base t0 : Nat} {l : Launch} {p : Program} {e : Env} {s : State} {m : MethodId} {args : Array Value} {below : List Frame} {meth : Method} {c : Code} {Q : State → Prop} {cs ss : Nat} (X : zz_X D dA base t0 "SpringseatLaw" cL_law 35 (some .boolean) l p s m meth c) (hT : l.stackTraces = false) (hN : zz_N s) (hc : cs + 200 ≤ 600104) (hs : ss + 2000 ≤ 7301313) {x0 : Nat} {x1 : Nat} {x2 : Int32} {x3 : Int32} {x6 : Nat} {x7 : Nat} {x8 : Nat} {x9 : Int32} {x12 : Int32} {x13 : Nat} {x14 : Nat} {x15 : Nat} {x16 : Nat} {x20 : Int32} {x21 : Int32} {x22 : Int32} {x23 : Int32} {x24 : Int32} {x25 : Int32} {x26 : Int32} {K_1621 : Nat → Nat → Int32 → Int32 → Nat → Nat → Nat → Int32 → Int32 → Nat → Nat → Nat → Nat → Int32 → Int32 → Int32 → Int32 → Int32 → Int32 → Int32 → Int32 → zz_H → Nat → Prop} {K_1831 : Nat → Nat → Int32 → Int32 → Nat → Nat → Nat → Int32 → Int32 → Nat → Nat → Nat → Nat → Int32 → Int32 → Int32 → Int32 → Int32 → Int32 → zz_H → Nat → Prop} (kk_1621 : ∀ (x0 : Nat) (x1 : Nat) (x2 : Int32) (x3 : Int32) (x6 : Nat) (x7 : Nat) (x8 : Nat) (x9 : Int32) (x12 : Int32) (x13 : Nat) (x14 : Nat) (x15 : Nat) (x16 : Nat) (x20 : Int32) (x21 : Int32) (x22 : Int32) (x23 : Int32) (x24 : Int32) (x25 : Int32) (x26 : Int32) (x27 : Int32) (h : zz_H) (n : Nat), K_1621 x0 x1 x2 x3 x6 x7 x8 x9 x12 x13 x14 x15 x16 x20 x21 x22 x23 x24 x25 x26 x27 h n → ∀ {H : Heap} {locs : List Loc} {ls : Array Slot}, zz_R D dA base h n s H locs → lv_has ls 35 [(0, .ref x0), (1, .ref x1), (2, .int x2), (3, .int x3), (4, .int (1 : Int32)), (6, .ref x6), (7, .ref x7), (8, .ref x8), (9, .int x9), (12, .int x12), (13, .ref x13), (14, .ref x14), (15, .ref x15), (16, .ref x16), (20, .int x20), (21, .int x21), (22, .int x22), (23, .int x23), (24, .int x24), (25, .int x25), (26, .int x26), (27, .int x27)] → W p l e room_1 s m args below meth c H locs (cs + 200) (ss + 2000) Q (F0 m 1621 ls [])) (kk_1831 : ∀ (x0 : Nat) (x1 : Nat) (x2 : Int32) (x3 : Int32) (x6 : Nat) (x7 : Nat) (x8 : Nat) (x9 : Int32) (x12 : Int32) (x13 : Nat) (x14 : Nat) (x15 : Nat) (x16 : Nat) (x20 : Int32) (x21 : Int32) (x22 : Int32) (x23 : Int32) (x24 : Int32) (x25 : Int32) (h : zz_H) (n : Nat), K_1831 x0 x1 x2 x3 x6 x7 x8 x9 x12 x13 x14 x15 x16 x20 x21 x22 x23 x24 x25 h n → ∀ {H : Heap} {locs : List Loc} {ls : Array Slot}, zz_R D dA base h n s H locs → lv_has ls 35 [(0, .ref x0), (1, .ref x1), (2, .int x2), (3, .int x3), (4, .int (1 : Int32)), (6, .ref x6), (7, .ref x7), (8, .ref x8), (9, .int x9), (12, .int x12), (13, .ref x13), (14, .ref x14), (15, .ref x15), (16, .ref x16), (20, .int x20), (21, .int x21), (22, .int x22), (23, .int x23), (24, .int x24), (25, .int x25)] → W p l e room_1 s m args below meth c H locs (cs + 200) (ss + 2000) Q (F0 m 1831 ls [])) {h : zz_H} {n : Nat} {H : Heap} {locs : List Loc} {ls : Array Slot} (hR : zz_R D dA base h n s H locs) (hl : lv_has ls 35 [(0, .ref x0), (1, .ref x1), (2, .int x2), (3, .int x3), (4, .int (1 : Int32)), (6, .ref x6), (7, .ref x7), (8, .ref x8), (9, .int x9), (12, .int x12), (13, .ref x13), (14, .ref x14), (15, .ref x15), (16, .ref x16), (20, .int x20), (21, .int x21), (22, .int x22), (23, .int x23), (24, .int x24), (25, .int x25), (26, .int x26)]) (hf : w_1612 t0 x0 x1 x2 x3 x6 x7 x8 x9 x12 x13 x14 x15 x16 x20 x21 x22 x23 x24 x25 x26 h n K_1621 K_1831) : W p l e room_1 s m args below meth c H locs cs ss Q (F0 m 1612 ls []) := by
  have hx := X.1
  have hb := X.2.1
  have hown := X.2.2.2.2.1
  unfold w_1612 at hf
  refine lv_iload hx hb dL_law_1612 (lv_at hl 20 rfl) ?_
  refine lv_iload_n hx hb dL_law_1614 rfl (lv_at hl 2 rfl) ?_
  refine lv_icmp_ge (tgt := 1831) hx hb dL_law_1615 (by decide) (fun c1615 => ?_) (fun c1615 => ?_)
  · replace hf := hf.1 c1615
    refine W.widen (k := cs + 200) (n := ss + 2000) (by omega) (by omega) ?_
    exact kk_1831 _ _ _ _ _ _ _ _ _ _ _ _ _ _ _ _ _ _ _ _ _ hf hR (lv_sub hl [0, 1, 2, 3, 4, 5, 6, 7, 8, 9, 10, 11, 12, 13, 14, 15, 16, 17, 18, 19] rfl)
  · replace hf := hf.2 c1615
    refine lv_iconst (v := (0 : Int32)) hx hb dL_law_1618 (by decide) ?_
    refine lv_istore (i := 27) (lv' := [(27, .int (0 : Int32)), (0, .ref x0), (1, .ref x1), (2, .int x2), (3, .int x3), (4, .int (1 : Int32)), (6, .ref x6), (7, .ref x7), (8, .ref x8), (9, .int x9), (12, .int x12), (13, .ref x13), (14, .ref x14), (15, .ref x15), (16, .ref x16), (20, .int x20), (21, .int x21), (22, .int x22), (23, .int x23), (24, .int x24), (25, .int x25), (26, .int x26)]) hx hb dL_law_1619 hl (by decide) rfl (fun ls hl => ?_)
    refine W.widen (k := cs + 200) (n := ss + 2000) (by omega) (by omega) ?_
    exact kk_1621 _ _ _ _ _ _ _ _ _ _ _ _ _ _ _ _ _ _ _ _ _ _ _ hf hR (lv_sub hl [1, 2, 3, 4, 5, 6, 7, 8, 9, 10, 11, 12, 13, 14, 15, 16, 17, 18, 19, 20, 21, 0] rfl)
set_option maxHeartbeats 4000000 in
set_option maxRecDepth 100000 in
theorem lc_1621 {D : va_G} {dA : Nat → ClassId} {base t0 : Nat} {l : Launch} {p : Program} {e : Env} {s : State} {m : MethodId} {args : Array Value} {below : List Frame} {meth : Method} {c : Code} {Q : State → Prop} {cs ss : Nat} (X : zz_X D dA base t0 "SpringseatLaw" cL_law 35 (some .boolean) l p s m meth c) (hT : l.stackTraces = false) (hN : zz_N s) (hc : cs + 200 ≤ 600104) (hs : ss + 2000 ≤ 7301313) {x0 : Nat} {x1 : Nat} {x2 : Int32} {x3 : Int32} {x6 : Nat} {x7 : Nat} {x8 : Nat} {x9 : Int32} {x12 : Int32} {x13 : Nat} {x14 : Nat} {x15 : Nat} {x16 : Nat} {x20 : Int32} {x21 : Int32} {x22 : Int32} {x23 : Int32} {x24 : Int32} {x25 : Int32} {x26 : Int32} {x27 : Int32} {K_1612 : Nat → Nat → Int32 → Int32 → Nat → Nat → Nat → Int32 → Int32 → Nat → Nat → Nat → Nat → Int32 → Int32 → Int32 → Int32 → Int32 → Int32 → Int32 → zz_H → Nat → Prop} {K_1621 : Nat → Nat → Int32 → Int32 → Nat → Nat → Nat → Int32 → Int32 → Nat → Nat → Nat → Nat → Int32 → Int32 → Int32 → Int32 → Int32 → Int32 → Int32 → Int32 → zz_H → Nat → Prop} (kk_1612 : ∀ (x0 : Nat) (x1 : Nat) (x2 : Int32) (x3 : Int32) (x6 : Nat) (x7 : Nat) (x8 : Nat) (x9 : Int32) (x12 : Int32) (x13 : Nat) (x14 : Nat) (x15 : Nat) (x16 : Nat) (x20 : Int32) (x21 : Int32) (x22 : Int32) (x23 : Int32) (x24 : Int32) (x25 : Int32) (x26 : Int32) (h : zz_H) (n : Nat), K_1612 x0 x1 x2 x3 x6 x7 x8 x9 x12 x13 x14 x15 x16 x20 x21 x22 x23 x24 x25 x26 h n → ∀ {H : Heap} {locs : List Loc} {ls : Array Slot}, zz_R D dA base h n s H locs → lv_has ls 35 [(0, .ref x0), (1, .ref x1), (2, .int x2), (3, .int x3), (4, .int (1 : Int32)), (6, .ref x6), (7, .ref x7), (8, .ref x8), (9, .int x9), (12, .int x12), (13, .ref x13), (14, .ref x14), (15, .ref x15), (16, .ref x16), (20, .int x20), (21, .int x21), (22, .int x22), (23, .int x23), (24, .int x24), (25, .int x25), (26, .int x26)] → W p l e room_1 s m args below meth c H locs (cs + 200) (ss + 2000) Q (F0 m 1612 ls [])) (kk_1621 : ∀ (x0 : Nat) (x1 : Nat) (x2 : Int32) (x3 : Int32) (x6 : Nat) (x7 : Nat) (x8 : Nat) (x9 : Int32) (x12 : Int32) (x13 : Nat) (x14 : Nat) (x15 : Nat) (x16 : Nat) (x20 : Int32) (x21 : Int32) (x22 : Int32) (x23 : Int32) (x24 : Int32) (x25 : Int32) (x26 : Int32) (x27 : Int32) (h : zz_H) (n : Nat), K_1621 x0 x1 x2 x3 x6 x7 x8 x9 x12 x13 x14 x15 x16 x20 x21 x22 x23 x24 x25 x26 x27 h n → ∀ {H : Heap} {locs : List Loc} {ls : Array Slot}, zz_R D dA base h n s H locs → lv_has ls 35 [(0, .ref x0), (1, .ref x1), (2, .int x2), (3, .int x3), (4, .int (1 : Int32)), (6, .ref x6), (7, .ref x7), (8, .ref x8), (9, .int x9), (12, .int x12), (13, .ref x13), (14, .ref x14), (15, .ref x15), (16, .ref x16), (20, .int x20), (21, .int x21), (22, .int x22), (23, .int x23), (24, .int x24), (25, .int x25), (26, .int x26), (27, .int x27)] → W p l e room_1 s m args below meth c H locs (cs + 200) (ss + 2000) Q (F0 m 1621 ls [])) {h : zz_H} {n : Nat} {H : Heap} {locs : List Loc} {ls : Array Slot} (hR : zz_R D dA base h n s H locs) (hl : lv_has ls 35 [(0, .ref x0), (1, .ref x1), (2, .int x2), (3, .int x3), (4, .int (1 : Int32)), (6, .ref x6), (7, .ref x7), (8, .ref x8), (9, .int x9), (12, .int x12), (13, .ref x13), (14, .ref x14), (15, .ref x15), (16, .ref x16), (20, .int x20), (21, .int x21), (22, .int x22), (23, .int x23), (24, .int x24), (25, .int x25), (26, .int x26), (27, .int x27)]) (hf : w_1621 t0 x0 x1 x2 x3 x6 x7 x8 x9 x12 x13 x14 x15 x16 x20 x21 x22 x23 x24 x25 x26 x27 h n K_1612 K_1621) : W p l e room_1 s m args below meth c H locs cs ss Q (F0 m 1621 ls []) := by
  have hx := X.1
  have hb := X.2.1
  have hown := X.2.2.2.2.1
  unfold w_1621 at hf
  refine lv_iload hx hb dL_law_1621 (lv_at hl 21 rfl) ?_
  refine lv_iload_n hx hb dL_law_1623 rfl (lv_at hl 3 rfl) ?_
  refine lv_icmp_ge (tgt := 1825) hx hb dL_law_1624 (by decide) (fun c1624 => ?_) (fun c1624 => ?_)
  · replace hf := hf.1 c1624
    refine lv_iinc (i := 26) (v := (x26 + (1 : Int32))) (lv' := [(26, .int (x26 + (1 : Int32))), (0, .ref x0), (1, .ref x1), (2, .int x2), (3, .int x3), (4, .int (1 : Int32)), (6, .ref x6), (7, .ref x7), (8, .ref x8), (9, .int x9), (12, .int x12), (13, .ref x13), (14, .ref x14), (15, .ref x15), (16, .ref x16), (20, .int x20), (21, .int x21), (22, .int x22), (23, .int x23), (24, .int x24), (25, .int x25), (27, .int x27)]) hx hb dL_law_1825 hl (k := 20) rfl rfl (by decide) rfl (fun ls hl => ?_)
    refine lv_goto (tgt := 1612) hx hb dL_law_1828 (by decide) ?_
    refine W.widen (k := cs + 200) (n := ss + 2000) (by omega) (by omega) ?_
    exact kk_1612 _ _ _ _ _ _ _ _ _ _ _ _ _ _ _ _ _ _ _ _ _ _ hf hR (lv_sub hl [1, 2, 3, 4, 5, 6, 7, 8, 9, 10, 11, 12, 13, 14, 15, 16, 17, 18, 19, 20, 0] rfl)
  · replace hf := hf.2 c1624
    obtain ⟨w1627_28, w1627_29, hg1627, hf⟩ := hf
    refine bk_L_law_1627 (r0 := 0) (cs := cs) (ss := ss) (n := n) X hT (by omega) (by omega) hR (lv_sub hl [0, 1, 2, 3, 4, 5, 6, 7, 8, 9, 10, 11, 12, 13, 14, 15, 16, 17, 18, 19, 20, 21] rfl) hg1627 (fun y1627_28 y1627_29 e H locs ls hR hl => ?_) (fun r e => by cases e)
    cases e
    refine lv_iload hx hb dL_law_1750 (lv_at hl 4 rfl) ?_
    refine lv_aload_n hx hb dL_law_1752 rfl (lv_at hl 1 rfl) ?_
    refine lv_iconst (v := (0 : Int32)) hx hb dL_law_1753 (by decide) ?_
    refine lv_bipush (v := (10 : Int32)) hx hb dL_law_1754 (by decide) ?_
    refine lv_iload hx hb dL_law_1756 (lv_at hl 20 rfl) ?_
    refine lv_imul hx hb dL_law_1758 ?_
    refine lv_iload hx hb dL_law_1759 (lv_at hl 21 rfl) ?_
    refine lv_iadd hx hb dL_law_1761 ?_
    obtain ⟨v1762, h1762, m1762, hv1762, hf⟩ := hf
    refine zl_cS X hN hR hl.1 (As := [.ref x1, .int (0 : Int32), .int (((10 : Int32) * x26) + x27)]) (rest := [.int (1 : Int32)]) (mt_L_stands hT x1 (0 : Int32) (((10 : Int32) * x26) + x27) h n hv1762) mf_L_stands.1 mf_L_stands.2.1 mf_L_stands.2.2 q_856 q_857 ⟨Nat.le_of_ble_eq_true rfl, Nat.le_of_ble_eq_true rfl⟩ ⟨by show cs + 3 ≤ 600104; omega, by show ss + 18 ≤ 7301313; omega⟩ rfl (Nat.le_of_ble_eq_true rfl) dL_law_1762 (fun n1762 H locs hn1762 hR => ?_)
    replace hf := hf n1762 hn1762
    refine W.eq (g2 := F0 m 1765 ls [.int v1762, .int (1 : Int32)]) rfl ?_
    refine W.widen (k := cs + 3) (n := ss + 18) (by show cs + 3 ≤ _; omega) (by show ss + 18 ≤ _; omega) ?_
    refine lv_iload hx hb dL_law_1765 (lv_at hl 22 rfl) ?_
    obtain ⟨hc1767, hf⟩ := hf
    refine lv_icmp_ne (tgt := 1792) hx hb dL_law_1767 (by decide) (fun c1767 => ?_) (fun c1767 => ?_)
    · exact absurd hc1767 c1767
    refine lv_aload_n hx hb dL_law_1770 rfl (lv_at hl 1 rfl) ?_
    refine lv_iconst (v := (0 : Int32)) hx hb dL_law_1771 (by decide) ?_
    refine lv_bipush (v := (10 : Int32)) hx hb dL_law_1772 (by decide) ?_
    refine lv_iload hx hb dL_law_1774 (lv_at hl 20 rfl) ?_
    refine lv_imul hx hb dL_law_1776 ?_
    refine lv_iload hx hb dL_law_1777 (lv_at hl 21 rfl) ?_
    refine lv_iadd hx hb dL_law_1779 ?_
    obtain ⟨v1780, h1780, m1780, hv1780, hf⟩ := hf
    refine zl_cS X hN hR hl.1 (As := [.ref x1, .int (0 : Int32), .int (((10 : Int32) * x26) + x27)]) (rest := [.int (1 : Int32)]) (mt_L_top hT x1 (0 : Int32) (((10 : Int32) * x26) + x27) h1762 n1762 hv1780) mf_L_top.1 mf_L_top.2.1 mf_L_top.2.2 q_882 q_883 ⟨Nat.le_of_ble_eq_true rfl, Nat.le_of_ble_eq_true rfl⟩ ⟨by show cs + 3 + 3 ≤ 600104; omega, by show ss + 18 + 18 ≤ 7301313; omega⟩ rfl (Nat.le_of_ble_eq_true rfl) dL_law_1780 (fun n1780 H locs hn1780 hR => ?_)
    replace hf := hf n1780 hn1780
    refine W.eq (g2 := F0 m 1783 ls [.int v1780, .int (1 : Int32)]) rfl ?_
    refine W.widen (k := cs + 6) (n := ss + 36) (by show cs + 3 + 3 ≤ _; omega) (by show ss + 18 + 18 ≤ _; omega) ?_
    refine lv_iload hx hb dL_law_1783 (lv_at hl 23 rfl) ?_
    obtain ⟨hc1785, hf⟩ := hf
    refine lv_icmp_ne (tgt := 1792) hx hb dL_law_1785 (by decide) (fun c1785 => ?_) (fun c1785 => ?_)
    · exact absurd hc1785 c1785
    refine lv_iconst (v := (1 : Int32)) hx hb dL_law_1788 (by decide) ?_
    refine lv_goto (tgt := 1793) hx hb dL_law_1789 (by decide) ?_
    refine lv_iand hx hb dL_law_1793 ?_
    refine W.eq (g2 := F0 m 1794 ls [.int (1 : Int32)]) rfl ?_
    refine lv_istore (i := 4) (lv' := [(4, .int (1 : Int32)), (0, .ref x0), (1, .ref x1), (2, .int x2), (3, .int x3), (6, .ref x6), (7, .ref x7), (8, .ref x8), (9, .int x9), (12, .int x12), (13, .ref x13), (14, .ref x14), (15, .ref x15), (16, .ref x16), (20, .int x20), (21, .int x21), (22, .int x22), (23, .int x23), (24, .int x24), (25, .int x25), (26, .int x26), (27, .int x27), (28, .int w1627_28), (29, .int w1627_29)]) hx hb dL_law_1794 hl (by decide) rfl (fun ls hl => ?_)
    obtain ⟨w1796_24, w1796_25, hg1796, hf⟩ := hf
    refine bk_L_law_1796 (r0 := 0) (cs := cs + 6) (ss := ss + 36) (n := n1780) X hT (by omega) (by omega) hR (lv_sub hl [1, 2, 3, 4, 0, 5, 6, 7, 8, 9, 10, 11, 12, 13, 14, 15, 16, 17, 18, 19, 20, 21, 23] rfl) hg1796 (fun y1796_24 y1796_25 e H locs ls hR hl => ?_) (fun r e => by cases e)
    cases e
    refine lv_iinc (i := 27) (v := (x27 + (1 : Int32))) (lv' := [(27, .int (x27 + (1 : Int32))), (0, .ref x0), (1, .ref x1), (2, .int x2), (3, .int x3), (4, .int (1 : Int32)), (6, .ref x6), (7, .ref x7), (8, .ref x8), (9, .int x9), (12, .int x12), (13, .ref x13), (14, .ref x14), (15, .ref x15), (16, .ref x16), (20, .int x20), (21, .int x21), (22, .int x22), (23, .int x23), (24, .int w1796_24), (25, .int w1796_25), (26, .int x26)]) hx hb dL_law_1819 hl (k := 21) rfl rfl (by decide) rfl (fun ls hl => ?_)
    refine lv_goto (tgt := 1621) hx hb dL_law_1822 (by decide) ?_
    refine W.widen (k := cs + 200) (n := ss + 2000) (by omega) (by omega) ?_
    exact kk_1621 _ _ _ _ _ _ _ _ _ _ _ _ _ _ _ _ _ _ _ _ _ _ _ hf hR (lv_sub hl [1, 2, 3, 4, 5, 6, 7, 8, 9, 10, 11, 12, 13, 14, 15, 16, 17, 18, 19, 20, 21, 0] rfl)
set_option maxHeartbeats 4000000 in
set_option maxRecDepth 100000 in
theorem lc_1831 {D : va_G} {dA : Nat → ClassId} {base t0 : Nat} {l : Launch} {p : Program} {e : Env} {s : State} {m : MethodId} {args : Array Value} {below : List Frame} {meth : Method} {c : Code} {Q : State → Prop} {cs ss : Nat} (X : zz_X D dA base t0 "SpringseatLaw" cL_law 35 (some .boolean) l p s m meth c) (hT : l.stackTraces = false) (hN : zz_N s) (hc : cs + 200 ≤ 600104) (hs : ss + 2000 ≤ 7301313) {x0 : Nat} {x1 : Nat} {x2 : Int32} {x3 : Int32} {x6 : Nat} {x7 : Nat} {x8 : Nat} {x9 : Int32} {x12 : Int32} {x13 : Nat} {x14 : Nat} {x15 : Nat} {x16 : Nat} {x20 : Int32} {x21 : Int32} {x22 : Int32} {x23 : Int32} {x24 : Int32} {x25 : Int32} {K_1935 : Nat → Nat → Int32 → Int32 → Nat → Nat → Nat → Int32 → Int32 → Nat → Nat → Nat → Nat → Int32 → Int32 → Int32 → Int32 → Int32 → zz_H → Nat → Prop} (kk_1935 : ∀ (x0 : Nat) (x1 : Nat) (x2 : Int32) (x3 : Int32) (x6 : Nat) (x7 : Nat) (x8 : Nat) (x9 : Int32) (x12 : Int32) (x13 : Nat) (x14 : Nat) (x15 : Nat) (x16 : Nat) (x20 : Int32) (x21 : Int32) (x22 : Int32) (x23 : Int32) (x24 : Int32) (h : zz_H) (n : Nat), K_1935 x0 x1 x2 x3 x6 x7 x8 x9 x12 x13 x14 x15 x16 x20 x21 x22 x23 x24 h n → ∀ {H : Heap} {locs : List Loc} {ls : Array Slot}, zz_R D dA base h n s H locs → lv_has ls 35 [(0, .ref x0), (1, .ref x1), (2, .int x2), (3, .int x3), (4, .int (1 : Int32)), (6, .ref x6), (7, .ref x7), (8, .ref x8), (9, .int x9), (12, .int x12), (13, .ref x13), (14, .ref x14), (15, .ref x15), (16, .ref x16), (20, .int x20), (21, .int x21), (22, .int x22), (23, .int x23), (24, .int x24)] → W p l e room_1 s m args below meth c H locs (cs + 200) (ss + 2000) Q (F0 m 1935 ls [])) {h : zz_H} {n : Nat} {H : Heap} {locs : List Loc} {ls : Array Slot} (hR : zz_R D dA base h n s H locs) (hl : lv_has ls 35 [(0, .ref x0), (1, .ref x1), (2, .int x2), (3, .int x3), (4, .int (1 : Int32)), (6, .ref x6), (7, .ref x7), (8, .ref x8), (9, .int x9), (12, .int x12), (13, .ref x13), (14, .ref x14), (15, .ref x15), (16, .ref x16), (20, .int x20), (21, .int x21), (22, .int x22), (23, .int x23), (24, .int x24), (25, .int x25)]) (hf : w_1831 t0 x0 x1 x2 x3 x6 x7 x8 x9 x12 x13 x14 x15 x16 x20 x21 x22 x23 x24 x25 h n K_1935) : W p l e room_1 s m args below meth c H locs cs ss Q (F0 m 1831 ls []) := by
  have hx := X.1
  have hb := X.2.1
  have hown := X.2.2.2.2.1
  unfold w_1831 at hf
  refine lv_iload hx hb dL_law_1831 (lv_at hl 4 rfl) ?_
  refine lv_aload_n hx hb dL_law_1833 rfl (lv_at hl 1 rfl) ?_
  refine lv_iconst (v := (0 : Int32)) hx hb dL_law_1834 (by decide) ?_
  obtain ⟨⟨fs1835, ho1835⟩, hf⟩ := hf
  obtain ⟨v1835, hv1835, hf⟩ := hf
  refine zl_V X hR hl.1 (As := [.int (0 : Int32)]) (rest := [.int (1 : Int32)]) (C := RX9) (T := TX9) (N := 6) (ro := (fun v : UInt64 => some (Value.double v)) v1835) (mt_X9_meanTop hT x1 (0 : Int32) h n hv1835) rfl ho1835 mf_X9_meanTop q_380 q_381 q_382 ⟨Nat.le_of_ble_eq_true rfl, Nat.le_of_ble_eq_true rfl⟩ ⟨by show cs + 1 ≤ 600104; omega, by show ss + 6 ≤ 7301313; omega⟩ rfl (Nat.le_of_ble_eq_true rfl) dL_law_1835 (fun H locs hR => ?_)
  refine W.eq (g2 := F0 m 1838 ls [.double v1835, .int (1 : Int32)]) rfl ?_
  refine W.widen (k := cs + 1) (n := ss + 6) (by show cs + 1 ≤ _; omega) (by show ss + 6 ≤ _; omega) ?_
  refine lv_iload hx hb dL_law_1838 (lv_at hl 18 rfl) ?_
  refine lv_i2d hx hb dL_law_1840 ?_
  refine lv_iload_n hx hb dL_law_1841 rfl (lv_at hl 2 rfl) ?_
  refine lv_iload_n hx hb dL_law_1842 rfl (lv_at hl 3 rfl) ?_
  refine lv_imul hx hb dL_law_1843 ?_
  refine lv_i2d hx hb dL_law_1844 ?_
  obtain ⟨hne1845, hf⟩ := hf
  refine lv_ddiv hx hb dL_law_1845 hne1845 ?_
  refine lv_dcmp hx hb dL_law_1846 ?_
  obtain ⟨hc1847, hf⟩ := hf
  refine lv_if_ne (tgt := 1854) hx hb dL_law_1847 (by decide) (fun c1847 => ?_) (fun c1847 => ?_)
  · exact absurd hc1847 c1847
  refine lv_iconst (v := (1 : Int32)) hx hb dL_law_1850 (by decide) ?_
  refine lv_goto (tgt := 1855) hx hb dL_law_1851 (by decide) ?_
  refine lv_iand hx hb dL_law_1855 ?_
  refine W.eq (g2 := F0 m 1856 ls [.int (1 : Int32)]) rfl ?_
  refine lv_istore (i := 4) (lv' := [(4, .int (1 : Int32)), (0, .ref x0), (1, .ref x1), (2, .int x2), (3, .int x3), (6, .ref x6), (7, .ref x7), (8, .ref x8), (9, .int x9), (12, .int x12), (13, .ref x13), (14, .ref x14), (15, .ref x15), (16, .ref x16), (20, .int x20), (21, .int x21), (22, .int x22), (23, .int x23), (24, .int x24), (25, .int x25)]) hx hb dL_law_1856 hl (by decide) rfl (fun ls hl => ?_)
  refine lv_iload hx hb dL_law_1858 (lv_at hl 17 rfl) ?_
  refine lv_if_ne (tgt := 1935) hx hb dL_law_1860 (by decide) (fun c1860 => ?_) (fun c1860 => ?_)
  · replace hf := hf.2 c1860
    refine W.widen (k := cs + 200) (n := ss + 2000) (by omega) (by omega) ?_
    exact kk_1935 _ _ _ _ _ _ _ _ _ _ _ _ _ _ _ _ _ _ _ _ hf hR (lv_sub hl [1, 2, 3, 4, 0, 5, 6, 7, 8, 9, 10, 11, 12, 13, 14, 15, 16, 17, 18] rfl)
  · replace hf := hf.1 c1860
    refine lv_iload hx hb dL_law_1863 (lv_at hl 18 rfl) ?_
    refine lv_istore (i := 21) (lv' := [(21, .int x24), (4, .int (1 : Int32)), (0, .ref x0), (1, .ref x1), (2, .int x2), (3, .int x3), (6, .ref x6), (7, .ref x7), (8, .ref x8), (9, .int x9), (12, .int x12), (13, .ref x13), (14, .ref x14), (15, .ref x15), (16, .ref x16), (20, .int x20), (22, .int x22), (23, .int x23), (24, .int x24), (25, .int x25)]) hx hb dL_law_1865 hl (by decide) rfl (fun ls hl => ?_)
    refine lv_bipush (v := (10 : Int32)) hx hb dL_law_1867 (by decide) ?_
    refine lv_iload_n hx hb dL_law_1869 rfl (lv_at hl 5 rfl) ?_
    refine lv_imul hx hb dL_law_1870 ?_
    refine lv_iload hx hb dL_law_1871 (lv_at hl 19 rfl) ?_
    refine lv_iadd hx hb dL_law_1873 ?_
    refine lv_istore (i := 26) (lv' := [(26, .int (((10 : Int32) * x3) + x25)), (21, .int x24), (4, .int (1 : Int32)), (0, .ref x0), (1, .ref x1), (2, .int x2), (3, .int x3), (6, .ref x6), (7, .ref x7), (8, .ref x8), (9, .int x9), (12, .int x12), (13, .ref x13), (14, .ref x14), (15, .ref x15), (16, .ref x16), (20, .int x20), (22, .int x22), (23, .int x23), (24, .int x24), (25, .int x25)]) hx hb dL_law_1874 hl (by decide) rfl (fun ls hl => ?_)
    refine lv_iload hx hb dL_law_1876 (lv_at hl 2 rfl) ?_
    refine lv_aload_n hx hb dL_law_1878 rfl (lv_at hl 4 rfl) ?_
    refine lv_iconst (v := (0 : Int32)) hx hb dL_law_1879 (by decide) ?_
    refine lv_iconst (v := (0 : Int32)) hx hb dL_law_1880 (by decide) ?_
    refine lv_iconst (v := (0 : Int32)) hx hb dL_law_1881 (by decide) ?_
    obtain ⟨v1882, h1882, m1882, hv1882, hf⟩ := hf
    refine zl_cS X hN hR hl.1 (As := [.ref x1, .int (0 : Int32), .int (0 : Int32), .int (0 : Int32)]) (rest := [.int (1 : Int32)]) (mt_L_cover hT x1 (0 : Int32) (0 : Int32) (0 : Int32) h n hv1882) mf_L_cover.1 mf_L_cover.2.1 mf_L_cover.2.2 q_811 q_812 ⟨Nat.le_of_ble_eq_true rfl, Nat.le_of_ble_eq_true rfl⟩ ⟨by show cs + 1 + 5 ≤ 600104; omega, by show ss + 6 + 30 ≤ 7301313; omega⟩ rfl (Nat.le_of_ble_eq_true rfl) dL_law_1882 (fun n1882 H locs hn1882 hR => ?_)
    replace hf := hf n1882 hn1882
    refine W.eq (g2 := F0 m 1885 ls [.int v1882, .int (1 : Int32)]) rfl ?_
    refine W.widen (k := cs + 6) (n := ss + 36) (by show cs + 1 + 5 ≤ _; omega) (by show ss + 6 + 30 ≤ _; omega) ?_
    refine lv_iload_n hx hb dL_law_1885 rfl (lv_at hl 5 rfl) ?_
    refine lv_iload hx hb dL_law_1886 (lv_at hl 0 rfl) ?_
    refine lv_imul hx hb dL_law_1888 ?_
    obtain ⟨hc1889, hf⟩ := hf
    refine lv_icmp_ne (tgt := 1931) hx hb dL_law_1889 (by decide) (fun c1889 => ?_) (fun c1889 => ?_)
    · exact absurd hc1889 c1889
    refine lv_aload_n hx hb dL_law_1892 rfl (lv_at hl 4 rfl) ?_
    refine lv_iconst (v := (0 : Int32)) hx hb dL_law_1893 (by decide) ?_
    refine lv_iload hx hb dL_law_1894 (lv_at hl 17 rfl) ?_
    obtain ⟨v1896, h1896, m1896, hv1896, hf⟩ := hf
    refine zl_cS X hN hR hl.1 (As := [.ref x1, .int (0 : Int32), .int x22]) (rest := [.int (1 : Int32)]) (mt_L_promise hT x1 (0 : Int32) x22 h1882 n1882 hv1896) mf_L_promise.1 mf_L_promise.2.1 mf_L_promise.2.2 q_958 q_959 ⟨Nat.le_of_ble_eq_true rfl, Nat.le_of_ble_eq_true rfl⟩ ⟨by show cs + 6 + 2 ≤ 600104; omega, by show ss + 36 + 12 ≤ 7301313; omega⟩ rfl (Nat.le_of_ble_eq_true rfl) dL_law_1896 (fun n1896 H locs hn1896 hR => ?_)
    replace hf := hf n1896 hn1896
    refine W.eq (g2 := F0 m 1899 ls [.int v1896, .int (1 : Int32)]) rfl ?_
    refine W.widen (k := cs + 8) (n := ss + 48) (by show cs + 6 + 2 ≤ _; omega) (by show ss + 36 + 12 ≤ _; omega) ?_
    refine lv_bipush (v := (20 : Int32)) hx hb dL_law_1899 (by decide) ?_
    obtain ⟨hc1901, hf⟩ := hf
    refine lv_icmp_ne (tgt := 1931) hx hb dL_law_1901 (by decide) (fun c1901 => ?_) (fun c1901 => ?_)
    · exact absurd hc1901 c1901
    refine lv_aload_n hx hb dL_law_1904 rfl (lv_at hl 4 rfl) ?_
    refine lv_iconst (v := (0 : Int32)) hx hb dL_law_1905 (by decide) ?_
    obtain ⟨v1906, h1906, m1906, hv1906, hf⟩ := hf
    refine zl_cS X hN hR hl.1 (As := [.ref x1, .int (0 : Int32)]) (rest := [.int (1 : Int32)]) (mt_L_quote hT x1 (0 : Int32) h1896 n1896 hv1906) mf_L_quote.1 mf_L_quote.2.1 mf_L_quote.2.2 q_965 q_966 ⟨Nat.le_of_ble_eq_true rfl, Nat.le_of_ble_eq_true rfl⟩ ⟨by show cs + 8 + 1 ≤ 600104; omega, by show ss + 48 + 6 ≤ 7301313; omega⟩ rfl (Nat.le_of_ble_eq_true rfl) dL_law_1906 (fun n1906 H locs hn1906 hR => ?_)
    replace hf := hf n1906 hn1906
    refine W.eq (g2 := F0 m 1909 ls [.int v1906, .int (1 : Int32)]) rfl ?_
    refine W.widen (k := cs + 9) (n := ss + 54) (by show cs + 8 + 1 ≤ _; omega) (by show ss + 48 + 6 ≤ _; omega) ?_
    refine lv_iload hx hb dL_law_1909 (lv_at hl 10 rfl) ?_
    refine lv_iload_n hx hb dL_law_1911 rfl (lv_at hl 5 rfl) ?_
    refine lv_iload hx hb dL_law_1912 (lv_at hl 0 rfl) ?_
    refine lv_imul hx hb dL_law_1914 ?_
    refine lv_iadd hx hb dL_law_1915 ?_
    obtain ⟨hc1916, hf⟩ := hf
    refine lv_icmp_ne (tgt := 1931) hx hb dL_law_1916 (by decide) (fun c1916 => ?_) (fun c1916 => ?_)
    · exact absurd hc1916 c1916
    refine lv_aload_n hx hb dL_law_1919 rfl (lv_at hl 4 rfl) ?_
    refine lv_iconst (v := (0 : Int32)) hx hb dL_law_1920 (by decide) ?_
    obtain ⟨⟨fs1921, ho1921⟩, hf⟩ := hf
    obtain ⟨v1921, hv1921, hf⟩ := hf
    refine zl_V X hR hl.1 (As := [.int (0 : Int32)]) (rest := [.int (1 : Int32)]) (C := RX9) (T := TX9) (N := 6) (ro := (fun v : Int32 => some (Value.int v)) v1921) (mt_X9_isClosed hT x1 (0 : Int32) h1906 n1906 hv1921) rfl ho1921 mf_X9_isClosed q_168 q_169 q_170 ⟨Nat.le_of_ble_eq_true rfl, Nat.le_of_ble_eq_true rfl⟩ ⟨by show cs + 9 + 1 ≤ 600104; omega, by show ss + 54 + 6 ≤ 7301313; omega⟩ rfl (Nat.le_of_ble_eq_true rfl) dL_law_1921 (fun H locs hR => ?_)
    refine W.eq (g2 := F0 m 1924 ls [.int v1921, .int (1 : Int32)]) rfl ?_
    refine W.widen (k := cs + 10) (n := ss + 60) (by show cs + 9 + 1 ≤ _; omega) (by show ss + 54 + 6 ≤ _; omega) ?_
    obtain ⟨hc1924, hf⟩ := hf
    refine lv_if_eq (tgt := 1931) hx hb dL_law_1924 (by decide) (fun c1924 => ?_) (fun c1924 => ?_)
    · exact absurd c1924 hc1924
    refine lv_iconst (v := (1 : Int32)) hx hb dL_law_1927 (by decide) ?_
    refine lv_goto (tgt := 1932) hx hb dL_law_1928 (by decide) ?_
    refine lv_iand hx hb dL_law_1932 ?_
    refine W.eq (g2 := F0 m 1933 ls [.int (1 : Int32)]) rfl ?_
    refine lv_istore (i := 4) (lv' := [(4, .int (1 : Int32)), (26, .int (((10 : Int32) * x3) + x25)), (21, .int x24), (0, .ref x0), (1, .ref x1), (2, .int x2), (3, .int x3), (6, .ref x6), (7, .ref x7), (8, .ref x8), (9, .int x9), (12, .int x12), (13, .ref x13), (14, .ref x14), (15, .ref x15), (16, .ref x16), (20, .int x20), (22, .int x22), (23, .int x23), (24, .int x24), (25, .int x25)]) hx hb dL_law_1933 hl (by decide) rfl (fun ls hl => ?_)
    refine W.widen (k := cs + 200) (n := ss + 2000) (by omega) (by omega) ?_
    exact kk_1935 _ _ _ _ _ _ _ _ _ _ _ _ _ _ _ _ _ _ _ _ hf hR (lv_sub hl [3, 4, 5, 6, 0, 7, 8, 9, 10, 11, 12, 13, 14, 15, 16, 2, 17, 18, 19] rfl)
set_option maxHeartbeats 4000000 in
set_option maxRecDepth 100000 in
theorem lc_1935 {D : va_G} {dA : Nat → ClassId} {base t0 : Nat} {l : Launch} {p : Program} {e : Env} {s : State} {m : MethodId} {args : Array Value} {below : List Frame} {meth : Method} {c : Code} {Q : State → Prop} {cs ss : Nat} (X : zz_X D dA base t0 "SpringseatLaw" cL_law 35 (some .boolean) l p s m meth c) (hT : l.stackTraces = false) (hN : zz_N s) (hc : cs + 200 ≤ 600104) (hs : ss + 2000 ≤ 7301313) {x0 : Nat} {x1 : Nat} {x2 : Int32} {x3 : Int32} {x6 : Nat} {x7 : Nat} {x8 : Nat} {x9 : Int32} {x12 : Int32} {x13 : Nat} {x14 : Nat} {x15 : Nat} {x16 : Nat} {x20 : Int32} {x21 : Int32} {x22 : Int32} {x23 : Int32} {x24 : Int32} {K_1597 : Nat → Nat → Int32 → Int32 → Nat → Nat → Nat → Int32 → Int32 → Nat → Nat → Nat → Nat → Int32 → Int32 → Int32 → Int32 → zz_H → Nat → Prop} (kk_1597 : ∀ (x0 : Nat) (x1 : Nat) (x2 : Int32) (x3 : Int32) (x6 : Nat) (x7 : Nat) (x8 : Nat) (x9 : Int32) (x12 : Int32) (x13 : Nat) (x14 : Nat) (x15 : Nat) (x16 : Nat) (x20 : Int32) (x21 : Int32) (x22 : Int32) (x23 : Int32) (h : zz_H) (n : Nat), K_1597 x0 x1 x2 x3 x6 x7 x8 x9 x12 x13 x14 x15 x16 x20 x21 x22 x23 h n → ∀ {H : Heap} {locs : List Loc} {ls : Array Slot}, zz_R D dA base h n s H locs → lv_has ls 35 [(0, .ref x0), (1, .ref x1), (2, .int x2), (3, .int x3), (4, .int (1 : Int32)), (6, .ref x6), (7, .ref x7), (8, .ref x8), (9, .int x9), (12, .int x12), (13, .ref x13), (14, .ref x14), (15, .ref x15), (16, .ref x16), (20, .int x20), (21, .int x21), (22, .int x22), (23, .int x23)] → W p l e room_1 s m args below meth c H locs (cs + 200) (ss + 2000) Q (F0 m 1597 ls [])) {h : zz_H} {n : Nat} {H : Heap} {locs : List Loc} {ls : Array Slot} (hR : zz_R D dA base h n s H locs) (hl : lv_has ls 35 [(0, .ref x0), (1, .ref x1), (2, .int x2), (3, .int x3), (4, .int (1 : Int32)), (6, .ref x6), (7, .ref x7), (8, .ref x8), (9, .int x9), (12, .int x12), (13, .ref x13), (14, .ref x14), (15, .ref x15), (16, .ref x16), (20, .int x20), (21, .int x21), (22, .int x22), (23, .int x23), (24, .int x24)]) (hf : w_1935 t0 x0 x1 x2 x3 x6 x7 x8 x9 x12 x13 x14 x15 x16 x20 x21 x22 x23 x24 h n K_1597) : W p l e room_1 s m args below meth c H locs cs ss Q (F0 m 1935 ls []) := by
  have hx := X.1
  have hb := X.2.1
  have hown := X.2.2.2.2.1
  unfold w_1935 at hf
  refine lv_iload hx hb dL_law_1935 (lv_at hl 4 rfl) ?_
  refine lv_aload_n hx hb dL_law_1937 rfl (lv_at hl 1 rfl) ?_
  refine lv_iconst (v := (0 : Int32)) hx hb dL_law_1938 (by decide) ?_
  obtain ⟨⟨fs1939, ho1939⟩, hf⟩ := hf
  obtain ⟨v1939, hv1939, hf⟩ := hf
  refine zl_V X hR hl.1 (As := [.int (0 : Int32)]) (rest := [.int (1 : Int32)]) (C := RX9) (T := TX9) (N := 6) (ro := (fun v : Int32 => some (Value.int v)) v1939) (mt_X9_holds hT x1 (0 : Int32) h n hv1939) rfl ho1939 mf_X9_holds q_308 q_309 q_310 ⟨Nat.le_of_ble_eq_true rfl, Nat.le_of_ble_eq_true rfl⟩ ⟨by show cs + 2 ≤ 600104; omega, by show ss + 12 ≤ 7301313; omega⟩ rfl (Nat.le_of_ble_eq_true rfl) dL_law_1939 (fun H locs hR => ?_)
  refine W.eq (g2 := F0 m 1942 ls [.int v1939, .int (1 : Int32)]) rfl ?_
  refine W.widen (k := cs + 2) (n := ss + 12) (by show cs + 2 ≤ _; omega) (by show ss + 12 ≤ _; omega) ?_
  refine lv_iload hx hb dL_law_1942 (lv_at hl 15 rfl) ?_
  refine lv_iload hx hb dL_law_1944 (lv_at hl 18 rfl) ?_
  refine lv_isub hx hb dL_law_1946 ?_
  refine lv_iload hx hb dL_law_1947 (lv_at hl 15 rfl) ?_
  refine lv_iload hx hb dL_law_1949 (lv_at hl 16 rfl) ?_
  refine lv_imul hx hb dL_law_1951 ?_
  refine lv_bipush (v := (100 : Int32)) hx hb dL_law_1952 (by decide) ?_
  refine lv_idiv hx hb dL_law_1954 (by decide) ?_
  have kJ : ∀ w1955 : Int32, w1955 = (if ((x21 * x22) / (100 : Int32)) < (x21 - x24) then (0 : Int32) else (1 : Int32)) → W p l e room_1 s m args below meth c H locs (cs + 2) (ss + 12) Q (F0 m 1963 ls [.int w1955, .int v1939, .int (1 : Int32)]) := by
    intro w1955 hw1955
    replace hf := hf w1955 hw1955
    obtain ⟨hc1963, hf⟩ := hf
    refine lv_icmp_ne (tgt := 1970) hx hb dL_law_1963 (by decide) (fun c1963 => ?_) (fun c1963 => ?_)
    · exact absurd hc1963 c1963
    refine lv_iconst (v := (1 : Int32)) hx hb dL_law_1966 (by decide) ?_
    refine lv_goto (tgt := 1971) hx hb dL_law_1967 (by decide) ?_
    refine lv_iand hx hb dL_law_1971 ?_
    refine W.eq (g2 := F0 m 1972 ls [.int (1 : Int32)]) rfl ?_
    refine lv_istore (i := 4) (lv' := [(4, .int (1 : Int32)), (0, .ref x0), (1, .ref x1), (2, .int x2), (3, .int x3), (6, .ref x6), (7, .ref x7), (8, .ref x8), (9, .int x9), (12, .int x12), (13, .ref x13), (14, .ref x14), (15, .ref x15), (16, .ref x16), (20, .int x20), (21, .int x21), (22, .int x22), (23, .int x23), (24, .int x24)]) hx hb dL_law_1972 hl (by decide) rfl (fun ls hl => ?_)
    refine lv_iload hx hb dL_law_1974 (lv_at hl 18 rfl) ?_
    refine lv_istore (i := 26) (lv' := [(26, .int x24), (4, .int (1 : Int32)), (0, .ref x0), (1, .ref x1), (2, .int x2), (3, .int x3), (6, .ref x6), (7, .ref x7), (8, .ref x8), (9, .int x9), (12, .int x12), (13, .ref x13), (14, .ref x14), (15, .ref x15), (16, .ref x16), (20, .int x20), (21, .int x21), (22, .int x22), (23, .int x23), (24, .int x24)]) hx hb dL_law_1976 hl (by decide) rfl (fun ls hl => ?_)
    obtain ⟨w1978_20, w1978_27, w1978_28, w1978_29, hg1978, hf⟩ := hf
    refine bk_L_law_1978 (r0 := 0) (cs := cs + 2) (ss := ss + 12) (n := n) X hT (by omega) (by omega) hR (lv_sub hl [2, 3, 4, 5, 1, 6, 7, 8, 9, 10, 11, 12, 13, 14, 15, 16, 17, 18, 0] rfl) hg1978 (fun y1978_20 y1978_27 y1978_28 y1978_29 e H locs ls hR hl => ?_) (fun r e => by cases e)
    cases e
    refine lv_iload hx hb dL_law_2219 (lv_at hl 4 rfl) ?_
    refine lv_iload hx hb dL_law_2221 (lv_at hl 20 rfl) ?_
    refine lv_if_eq (tgt := 2238) hx hb dL_law_2223 (by decide) (fun c2223 => ?_) (fun c2223 => ?_)
    · replace hf := hf.1 c2223
      refine lv_aload_n hx hb dL_law_2238 rfl (lv_at hl 1 rfl) ?_
      refine lv_iconst (v := (0 : Int32)) hx hb dL_law_2239 (by decide) ?_
      refine lv_iload hx hb dL_law_2240 (lv_at hl 19 rfl) ?_
      obtain ⟨v2242, h2242, m2242, hv2242, hf⟩ := hf
      refine zl_cS X hN hR hl.1 (As := [.ref x1, .int (0 : Int32), .int w1978_27]) (rest := [.int (1 : Int32)]) (mt_L_use hT x1 (0 : Int32) w1978_27 h n hv2242) mf_L_use.1 mf_L_use.2.1 mf_L_use.2.2 q_919 q_920 ⟨Nat.le_of_ble_eq_true rfl, Nat.le_of_ble_eq_true rfl⟩ ⟨by show cs + 2 + 4 ≤ 600104; omega, by show ss + 12 + 24 ≤ 7301313; omega⟩ rfl (Nat.le_of_ble_eq_true rfl) dL_law_2242 (fun n2242 H locs hn2242 hR => ?_)
      replace hf := hf n2242 hn2242
      refine W.eq (g2 := F0 m 2245 ls [.int v2242, .int (1 : Int32)]) rfl ?_
      refine W.widen (k := cs + 6) (n := ss + 36) (by show cs + 2 + 4 ≤ _; omega) (by show ss + 12 + 24 ≤ _; omega) ?_
      refine lv_iload hx hb dL_law_2245 (lv_at hl 18 rfl) ?_
      refine lv_iload hx hb dL_law_2247 (lv_at hl 21 rfl) ?_
      refine lv_isub hx hb dL_law_2249 ?_
      obtain ⟨hc2250, hf⟩ := hf
      refine lv_icmp_ne (tgt := 2267) hx hb dL_law_2250 (by decide) (fun c2250 => ?_) (fun c2250 => ?_)
      · exact absurd hc2250 c2250
      refine lv_aload_n hx hb dL_law_2253 rfl (lv_at hl 1 rfl) ?_
      refine lv_iconst (v := (0 : Int32)) hx hb dL_law_2254 (by decide) ?_
      obtain ⟨v2255, h2255, m2255, hv2255, hf⟩ := hf
      refine zl_cS X hN hR hl.1 (As := [.ref x1, .int (0 : Int32)]) (rest := [.int (1 : Int32)]) (mt_L_hours hT x1 (0 : Int32) h2242 n2242 hv2255) mf_L_hours.1 mf_L_hours.2.1 mf_L_hours.2.2 q_951 q_952 ⟨Nat.le_of_ble_eq_true rfl, Nat.le_of_ble_eq_true rfl⟩ ⟨by show cs + 6 + 2 ≤ 600104; omega, by show ss + 36 + 12 ≤ 7301313; omega⟩ rfl (Nat.le_of_ble_eq_true rfl) dL_law_2255 (fun n2255 H locs hn2255 hR => ?_)
      replace hf := hf n2255 hn2255
      refine W.eq (g2 := F0 m 2258 ls [.int v2255, .int (1 : Int32)]) rfl ?_
      refine W.widen (k := cs + 8) (n := ss + 48) (by show cs + 6 + 2 ≤ _; omega) (by show ss + 36 + 12 ≤ _; omega) ?_
      refine lv_iload hx hb dL_law_2258 (lv_at hl 14 rfl) ?_
      obtain ⟨hc2260, hf⟩ := hf
      refine lv_icmp_ne (tgt := 2267) hx hb dL_law_2260 (by decide) (fun c2260 => ?_) (fun c2260 => ?_)
      · exact absurd hc2260 c2260
      refine lv_iconst (v := (1 : Int32)) hx hb dL_law_2263 (by decide) ?_
      refine lv_goto (tgt := 2268) hx hb dL_law_2264 (by decide) ?_
      refine lv_iand hx hb dL_law_2268 ?_
      refine W.eq (g2 := F0 m 2269 ls [.int (1 : Int32)]) rfl ?_
      refine lv_istore (i := 4) (lv' := [(4, .int (1 : Int32)), (0, .ref x0), (1, .ref x1), (2, .int x2), (3, .int x3), (6, .ref x6), (7, .ref x7), (8, .ref x8), (9, .int x9), (12, .int x12), (13, .ref x13), (14, .ref x14), (15, .ref x15), (16, .ref x16), (20, .int w1978_20), (21, .int x21), (22, .int x22), (23, .int x23), (26, .int x24), (27, .int w1978_27), (28, .int w1978_28), (29, .int w1978_29)]) hx hb dL_law_2269 hl (by decide) rfl (fun ls hl => ?_)
      refine lv_iinc (i := 23) (v := (x23 + (1 : Int32))) (lv' := [(23, .int (x23 + (1 : Int32))), (4, .int (1 : Int32)), (0, .ref x0), (1, .ref x1), (2, .int x2), (3, .int x3), (6, .ref x6), (7, .ref x7), (8, .ref x8), (9, .int x9), (12, .int x12), (13, .ref x13), (14, .ref x14), (15, .ref x15), (16, .ref x16), (20, .int w1978_20), (21, .int x21), (22, .int x22), (26, .int x24), (27, .int w1978_27), (28, .int w1978_28), (29, .int w1978_29)]) hx hb dL_law_2271 hl (k := 17) rfl rfl (by decide) rfl (fun ls hl => ?_)
      refine lv_goto (tgt := 1597) hx hb dL_law_2274 (by decide) ?_
      refine W.widen (k := cs + 200) (n := ss + 2000) (by omega) (by omega) ?_
      exact kk_1597 _ _ _ _ _ _ _ _ _ _ _ _ _ _ _ _ _ _ _ hf hR (lv_sub hl [2, 3, 4, 5, 1, 6, 7, 8, 9, 10, 11, 12, 13, 14, 15, 16, 17, 0] rfl)
    · replace hf := hf.2 c2223
      refine lv_aload_n hx hb dL_law_2226 rfl (lv_at hl 1 rfl) ?_
      refine lv_iconst (v := (0 : Int32)) hx hb dL_law_2227 (by decide) ?_
      refine lv_iload hx hb dL_law_2228 (lv_at hl 19 rfl) ?_
      refine lv_iconst (v := (3 : Int32)) hx hb dL_law_2230 (by decide) ?_
      refine lv_idiv hx hb dL_law_2231 (by decide) ?_
      obtain ⟨v2232, h2232, m2232, hv2232, hf⟩ := hf
      refine zl_cS X hN hR hl.1 (As := [.ref x1, .int (0 : Int32), .int (w1978_27 / (3 : Int32))]) (rest := [.int (1 : Int32)]) (mt_L_pound hT x1 (0 : Int32) (w1978_27 / (3 : Int32)) h n hv2232) mf_L_pound.1 mf_L_pound.2.1 mf_L_pound.2.2 q_944 q_945 ⟨Nat.le_of_ble_eq_true rfl, Nat.le_of_ble_eq_true rfl⟩ ⟨by show cs + 2 + 4 ≤ 600104; omega, by show ss + 12 + 24 ≤ 7301313; omega⟩ rfl (Nat.le_of_ble_eq_true rfl) dL_law_2232 (fun n2232 H locs hn2232 hR => ?_)
      replace hf := hf n2232 hn2232
      refine W.eq (g2 := F0 m 2235 ls [.int v2232, .int (1 : Int32)]) rfl ?_
      refine W.widen (k := cs + 6) (n := ss + 36) (by show cs + 2 + 4 ≤ _; omega) (by show ss + 12 + 24 ≤ _; omega) ?_
      refine lv_goto (tgt := 2245) hx hb dL_law_2235 (by decide) ?_
      refine lv_iload hx hb dL_law_2245 (lv_at hl 18 rfl) ?_
      refine lv_iload hx hb dL_law_2247 (lv_at hl 21 rfl) ?_
      refine lv_isub hx hb dL_law_2249 ?_
      obtain ⟨hc2250, hf⟩ := hf
      refine lv_icmp_ne (tgt := 2267) hx hb dL_law_2250 (by decide) (fun c2250 => ?_) (fun c2250 => ?_)
      · exact absurd hc2250 c2250
      refine lv_aload_n hx hb dL_law_2253 rfl (lv_at hl 1 rfl) ?_
      refine lv_iconst (v := (0 : Int32)) hx hb dL_law_2254 (by decide) ?_
      obtain ⟨v2255, h2255, m2255, hv2255, hf⟩ := hf
      refine zl_cS X hN hR hl.1 (As := [.ref x1, .int (0 : Int32)]) (rest := [.int (1 : Int32)]) (mt_L_hours hT x1 (0 : Int32) h2232 n2232 hv2255) mf_L_hours.1 mf_L_hours.2.1 mf_L_hours.2.2 q_951 q_952 ⟨Nat.le_of_ble_eq_true rfl, Nat.le_of_ble_eq_true rfl⟩ ⟨by show cs + 6 + 2 ≤ 600104; omega, by show ss + 36 + 12 ≤ 7301313; omega⟩ rfl (Nat.le_of_ble_eq_true rfl) dL_law_2255 (fun n2255 H locs hn2255 hR => ?_)
      replace hf := hf n2255 hn2255
      refine W.eq (g2 := F0 m 2258 ls [.int v2255, .int (1 : Int32)]) rfl ?_
      refine W.widen (k := cs + 8) (n := ss + 48) (by show cs + 6 + 2 ≤ _; omega) (by show ss + 36 + 12 ≤ _; omega) ?_
      refine lv_iload hx hb dL_law_2258 (lv_at hl 14 rfl) ?_
      obtain ⟨hc2260, hf⟩ := hf
      refine lv_icmp_ne (tgt := 2267) hx hb dL_law_2260 (by decide) (fun c2260 => ?_) (fun c2260 => ?_)
      · exact absurd hc2260 c2260
      refine lv_iconst (v := (1 : Int32)) hx hb dL_law_2263 (by decide) ?_
      refine lv_goto (tgt := 2268) hx hb dL_law_2264 (by decide) ?_
      refine lv_iand hx hb dL_law_2268 ?_
      refine W.eq (g2 := F0 m 2269 ls [.int (1 : Int32)]) rfl ?_
      refine lv_istore (i := 4) (lv' := [(4, .int (1 : Int32)), (0, .ref x0), (1, .ref x1), (2, .int x2), (3, .int x3), (6, .ref x6), (7, .ref x7), (8, .ref x8), (9, .int x9), (12, .int x12), (13, .ref x13), (14, .ref x14), (15, .ref x15), (16, .ref x16), (20, .int w1978_20), (21, .int x21), (22, .int x22), (23, .int x23), (26, .int x24), (27, .int w1978_27), (28, .int w1978_28), (29, .int w1978_29)]) hx hb dL_law_2269 hl (by decide) rfl (fun ls hl => ?_)
      refine lv_iinc (i := 23) (v := (x23 + (1 : Int32))) (lv' := [(23, .int (x23 + (1 : Int32))), (4, .int (1 : Int32)), (0, .ref x0), (1, .ref x1), (2, .int x2), (3, .int x3), (6, .ref x6), (7, .ref x7), (8, .ref x8), (9, .int x9), (12, .int x12), (13, .ref x13), (14, .ref x14), (15, .ref x15), (16, .ref x16), (20, .int w1978_20), (21, .int x21), (22, .int x22), (26, .int x24), (27, .int w1978_27), (28, .int w1978_28), (29, .int w1978_29)]) hx hb dL_law_2271 hl (k := 17) rfl rfl (by decide) rfl (fun ls hl => ?_)
      refine lv_goto (tgt := 1597) hx hb dL_law_2274 (by decide) ?_
      refine W.widen (k := cs + 200) (n := ss + 2000) (by omega) (by omega) ?_
      exact kk_1597 _ _ _ _ _ _ _ _ _ _ _ _ _ _ _ _ _ _ _ hf hR (lv_sub hl [2, 3, 4, 5, 1, 6, 7, 8, 9, 10, 11, 12, 13, 14, 15, 16, 17, 0] rfl)
  refine lv_icmp_gt (tgt := 1962) hx hb dL_law_1955 (by decide) (fun c1955 => ?_) (fun c1955 => ?_)
  · refine lv_iconst (v := (0 : Int32)) hx hb dL_law_1962 (by decide) ?_
    exact kJ _ (by rw [if_pos c1955])
  · refine lv_iconst (v := (1 : Int32)) hx hb dL_law_1958 (by decide) ?_
    refine lv_goto (tgt := 1963) hx hb dL_law_1959 (by decide) ?_
    exact kJ _ (by rw [if_neg c1955])
set_option maxHeartbeats 4000000 in
set_option maxRecDepth 100000 in
theorem lc_2277 {D : va_G} {dA : Nat → ClassId} {base t0 : Nat} {l : Launch} {p : Program} {e : Env} {s : State} {m : MethodId} {args : Array Value} {below : List Frame} {meth : Method} {c : Code} {Q : State → Prop} {cs ss : Nat} (X : zz_X D dA base t0 "SpringseatLaw" cL_law 35 (some .boolean) l p s m meth c) (hT : l.stackTraces = false) (hN : zz_N s) (hc : cs + 200 ≤ 600104) (hs : ss + 2000 ≤ 7301313) {x1 : Nat} {K_2303 : zz_H → Nat → Prop} (kk_2303 : ∀ (h : zz_H) (n : Nat), K_2303 h n → ∀ {H : Heap} {locs : List Loc} {ls : Array Slot}, zz_R D dA base h n s H locs → lv_has ls 35 [] → W p l e room_1 s m args below meth c H locs (cs + 200) (ss + 2000) Q (F0 m 2303 ls [.int 1])) {h : zz_H} {n : Nat} {H : Heap} {locs : List Loc} {ls : Array Slot} (hR : zz_R D dA base h n s H locs) (hl : lv_has ls 35 [(1, .ref x1), (4, .int (1 : Int32))]) (hf : w_2277 t0 x1 h n K_2303) : W p l e room_1 s m args below meth c H locs cs ss Q (F0 m 2277 ls []) := by
  have hx := X.1
  have hb := X.2.1
  have hown := X.2.2.2.2.1
  unfold w_2277 at hf
  refine lv_iload hx hb dL_law_2277 (lv_at hl 1 rfl) ?_
  obtain ⟨hc2279, hf⟩ := hf
  refine lv_if_eq (tgt := 2302) hx hb dL_law_2279 (by decide) (fun c2279 => ?_) (fun c2279 => ?_)
  · exact absurd c2279 hc2279
  refine lv_aload_n hx hb dL_law_2282 rfl (lv_at hl 0 rfl) ?_
  obtain ⟨⟨fs2283, ho2283⟩, hf⟩ := hf
  obtain ⟨v2283, hv2283, hf⟩ := hf
  refine zl_V X hR hl.1 (As := []) (rest := []) (C := RX9) (T := TX9) (N := 6) (ro := (fun v : UInt32 => some (Value.float v)) v2283) (mt_X9_closedShare hT x1 h n hv2283) rfl ho2283 mf_X9_closedShare q_356 q_357 q_358 ⟨Nat.le_of_ble_eq_true rfl, Nat.le_of_ble_eq_true rfl⟩ ⟨by show cs + 1 ≤ 600104; omega, by show ss + 6 ≤ 7301313; omega⟩ rfl (Nat.le_of_ble_eq_true rfl) dL_law_2283 (fun H locs hR => ?_)
  refine W.eq (g2 := F0 m 2286 ls [.float v2283]) rfl ?_
  refine W.widen (k := cs + 1) (n := ss + 6) (by show cs + 1 ≤ _; omega) (by show ss + 6 ≤ _; omega) ?_
  refine lv_fconst1 hx hb dL_law_2286 ?_
  refine lv_fcmp hx hb dL_law_2287 ?_
  obtain ⟨hc2288, hf⟩ := hf
  refine lv_if_ne (tgt := 2302) hx hb dL_law_2288 (by decide) (fun c2288 => ?_) (fun c2288 => ?_)
  · exact absurd hc2288 c2288
  refine lv_aload_n hx hb dL_law_2291 rfl (lv_at hl 0 rfl) ?_
  obtain ⟨⟨fs2292, ho2292⟩, hf⟩ := hf
  obtain ⟨v2292, h2292, hv2292, hf⟩ := hf
  refine zr_cV X hR hl.1 (As := []) (rest := []) (C := RX9) (T := TX9) (N := 6) (mt_X9_isSound hT x1 h n hv2292) rfl ho2292 mf_X9_isSound q_385 q_386 q_387 ⟨Nat.le_of_ble_eq_true rfl, Nat.le_of_ble_eq_true rfl⟩ ⟨by show cs + 1 + 0 ≤ 600104; omega, by show ss + 6 + 0 ≤ 7301313; omega⟩ rfl (Nat.le_of_ble_eq_true rfl) dL_law_2292 (fun H locs hR => ?_)
  refine W.eq (g2 := F0 m 2295 ls [.int v2292]) rfl ?_
  refine W.widen (k := cs + 1) (n := ss + 6) (Nat.le_refl _) (Nat.le_refl _) ?_
  obtain ⟨hc2295, hf⟩ := hf
  refine lv_if_eq (tgt := 2302) hx hb dL_law_2295 (by decide) (fun c2295 => ?_) (fun c2295 => ?_)
  · exact absurd c2295 hc2295
  refine lv_iconst (v := (1 : Int32)) hx hb dL_law_2298 (by decide) ?_
  refine lv_goto (tgt := 2303) hx hb dL_law_2299 (by decide) ?_
  refine W.widen (k := cs + 200) (n := ss + 2000) (by omega) (by omega) ?_
  exact kk_2303 _ _ hf hR (lv_sub hl [] rfl)
end ZZT
