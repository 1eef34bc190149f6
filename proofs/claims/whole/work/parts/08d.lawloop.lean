section ZLL
/-! the law's loop: what is kept from call to call is a premise, J -/
def w_at (k t0 ax am ao ad : Nat) (x1 x2 x3 x4 : Int32) (h : zz_H) (n : Nat) (K : zz_H → Nat → Prop) : Prop := match k with
  | 0 => w_0 t0 ax am ao ad x1 x2 x3 x4 h n K
  | 1 => w_1 t0 ax am ao ad x1 x2 x3 x4 h n K
  | 2 => w_2 t0 ax am ao ad x1 x2 x3 x4 h n K
  | 3 => w_3 t0 ax am ao ad x1 x2 x3 x4 h n K
  | 4 => w_4 t0 ax am ao ad x1 x2 x3 x4 h n K
  | 5 => w_5 t0 ax am ao ad x1 x2 x3 x4 h n K
  | 6 => w_6 t0 ax am ao ad x1 x2 x3 x4 h n K
  | 7 => w_7 t0 ax am ao ad x1 x2 x3 x4 h n K
  | 8 => w_8 t0 ax am ao ad x1 x2 x3 x4 h n K
  | 9 => w_9 t0 ax am ao ad x1 x2 x3 x4 h n K
  | 10 => w_10 t0 ax am ao ad x1 x2 x3 x4 h n K
  | 11 => w_11 t0 ax am ao ad x1 x2 x3 x4 h n K
  | 12 => w_12 t0 ax am ao ad x1 x2 x3 x4 h n K
  | 13 => w_13 t0 ax am ao ad x1 x2 x3 x4 h n K
  | 14 => w_14 t0 ax am ao ad x1 x2 x3 x4 h n K
  | 15 => w_15 t0 ax am ao ad x1 x2 x3 x4 h n K
  | 16 => w_16 t0 ax am ao ad x1 x2 x3 x4 h n K
  | 17 => w_17 t0 ax am ao ad x1 x2 x3 x4 h n K
  | 18 => w_18 t0 ax am ao ad x1 x2 x3 x4 h n K
  | 19 => w_19 t0 ax am ao ad x1 x2 x3 x4 h n K
  | 20 => w_20 t0 ax am ao ad x1 x2 x3 x4 h n K
  | 21 => w_21 t0 ax am ao ad x1 x2 x3 x4 h n K
  | 22 => w_22 t0 ax am ao ad x1 x2 x3 x4 h n K
  | 23 => w_23 t0 ax am ao ad x1 x2 x3 x4 h n K
  | 24 => w_24 t0 ax am ao ad x1 x2 x3 x4 h n K
  | 25 => w_25 t0 ax am ao ad x1 x2 x3 x4 h n K
  | 26 => w_26 t0 ax am ao ad x1 x2 x3 x4 h n K
  | 27 => w_27 t0 ax am ao ad x1 x2 x3 x4 h n K
  | 28 => w_28 t0 ax am ao ad x1 x2 x3 x4 h n K
  | 29 => w_29 t0 ax am ao ad x1 x2 x3 x4 h n K
  | 30 => w_30 t0 ax am ao ad x1 x2 x3 x4 h n K
  | 31 => w_31 t0 ax am ao ad x1 x2 x3 x4 h n K
  | 32 => w_32 t0 ax am ao ad x1 x2 x3 x4 h n K
  | 33 => w_33 t0 ax am ao ad x1 x2 x3 x4 h n K
  | 34 => w_34 t0 ax am ao ad x1 x2 x3 x4 h n K
  | 35 => w_35 t0 ax am ao ad x1 x2 x3 x4 h n K
  | 36 => w_36 t0 ax am ao ad x1 x2 x3 x4 h n K
  | 37 => w_37 t0 ax am ao ad x1 x2 x3 x4 h n K
  | 38 => w_38 t0 ax am ao ad x1 x2 x3 x4 h n K
  | 39 => w_39 t0 ax am ao ad x1 x2 x3 x4 h n K
  | 40 => w_40 t0 ax am ao ad x1 x2 x3 x4 h n K
  | 41 => w_41 t0 ax am ao ad x1 x2 x3 x4 h n K
  | 42 => w_42 t0 ax am ao ad x1 x2 x3 x4 h n K
  | 43 => w_43 t0 ax am ao ad x1 x2 x3 x4 h n K
  | 44 => w_44 t0 ax am ao ad x1 x2 x3 x4 h n K
  | _ => K h n
def lw_o : List Int := [196, 264, 332, 412, 504, 560, 668, 762, 818, 898, 978, 1034, 1102, 1158, 1226, 1301, 1364, 1432, 1500, 1568, 1652, 1720, 1764, 1844, 1924, 2004, 2072, 2152, 2220, 2288, 2344, 2412, 2480, 2548, 2604, 2686, 2761, 2841, 2897, 2965, 3028, 3084, 3098, 3164, 3241]
def lw_t (k : Nat) : Nat := 44 + (lw_o.getD k 0).toNat
theorem zi_and63 (v : Int32) : ∃ k : Nat, k < 64 ∧ (v &&& 63).toInt = (k : Int) := by
  have h1 : (v &&& 63).toBitVec.toNat < 64 := by
    have h2 : (v &&& 63).toBitVec.toNat = v.toBitVec.toNat &&& 63 := rfl
    rw [h2]
    exact Nat.lt_of_le_of_lt Nat.and_le_right (by decide)
  refine ⟨(v &&& 63).toBitVec.toNat, h1, ?_⟩
  show (v &&& 63).toBitVec.toInt = _
  exact BitVec.toInt_eq_toNat_of_lt (by omega)
theorem zi_sub5 {L : Nat} (hL : L ≤ 2560) : (Int32.ofNat L - 5).toInt = (L : Int) - 5 := by
  have h5 : (5 : Int32).toInt = 5 := rfl
  rw [Int32.toInt_sub, Int32.toInt_ofNat_of_lt (by omega), h5]
  exact Int.bmod_eq_of_le (by omega) (by omega)
theorem zi_in {L j c : Nat} (hL : L ≤ 2560) (h : 5 * j + c < L) : vp_in (Int32.ofNat (5 * j) + Int32.ofNat c) L := by
  rw [← Int32.ofNat_add]
  rintro (q | q)
  · rw [Int32.lt_iff_toInt_lt, Int32.toInt_ofNat_of_lt (by omega)] at q
    have : (0 : Int32).toInt = 0 := rfl
    omega
  · rw [Int32.toNatClampNeg_ofNat_of_lt (by omega)] at q
    omega
set_option maxHeartbeats 4000000 in
set_option maxRecDepth 100000 in
theorem lc_at {D : va_G} {dA : Nat → ClassId} {base t0 : Nat} {l : Launch} {p : Program} {e : Env} {R : Room} {s : State} {m : MethodId} {args : Array Value} {below : List Frame} {meth : Method} {c : Code} {Q : State → Prop} (X : zz_X D dA base t0 "SpringseatLaw" cL_law 9 (some .boolean) l p s m meth c) (hT : l.stackTraces = false) (hN : zz_N s) {b L : Nat} {xs : Nat → Int32} (hX : va_X b L xs s s.heap) (hbl : b < s.heap.size) (hbA : ¬ base ≤ b) (hRf : 13 ≤ R.frames) (hRl : 482 ≤ R.locals) {cs ss : Nat} (hc : cs + 20 ≤ R.cells) (hs : ss + 253 ≤ R.slots) {ax am ao ad : Nat} {i x1 x2 x3 x4 : Int32} (hi1 : vp_in (i + 1) L) (hi2 : vp_in (i + 2) L) (hi3 : vp_in (i + 3) L) (hi4 : vp_in (i + 4) L) (hq1 : xs (i + 1).toNatClampNeg = x1) (hq2 : xs (i + 2).toNatClampNeg = x2) (hq3 : xs (i + 3).toNatClampNeg = x3) (hq4 : xs (i + 4).toNatClampNeg = x4) {K : zz_H → Nat → Prop} (hK : ∀ h n, K h n → ∀ {H : Heap} {locs : List Loc} {ls : Array Slot}, zz_R D dA base h n s H locs → lv_has ls 9 [(5, .int i), (4, .ref ad), (3, .ref ao), (2, .ref am), (1, .ref ax), (0, .ref b)] → W p l e R s m args below meth c H locs (cs + 20) (ss + 253) Q (F0 m 3298 ls [])) {h : zz_H} {n : Nat} {H : Heap} {locs : List Loc} {ls : Array Slot} (hR : zz_R D dA base h n s H locs) (hl : lv_has ls 9 [(5, .int i), (4, .ref ad), (3, .ref ao), (2, .ref am), (1, .ref ax), (0, .ref b)]) {k : Nat} (hk : k < 45) (hf : w_at k t0 ax am ao ad x1 x2 x3 x4 h n K) : W p l e R s m args below meth c H locs cs ss Q (F0 m (lw_t k) ls []) := by
  rcases (show k = 0 ∨ k = 1 ∨ k = 2 ∨ k = 3 ∨ k = 4 ∨ k = 5 ∨ k = 6 ∨ k = 7 ∨ k = 8 ∨ k = 9 ∨ k = 10 ∨ k = 11 ∨ k = 12 ∨ k = 13 ∨ k = 14 ∨ k = 15 ∨ k = 16 ∨ k = 17 ∨ k = 18 ∨ k = 19 ∨ k = 20 ∨ k = 21 ∨ k = 22 ∨ k = 23 ∨ k = 24 ∨ k = 25 ∨ k = 26 ∨ k = 27 ∨ k = 28 ∨ k = 29 ∨ k = 30 ∨ k = 31 ∨ k = 32 ∨ k = 33 ∨ k = 34 ∨ k = 35 ∨ k = 36 ∨ k = 37 ∨ k = 38 ∨ k = 39 ∨ k = 40 ∨ k = 41 ∨ k = 42 ∨ k = 43 ∨ k = 44 by omega) with rfl | rfl | rfl | rfl | rfl | rfl | rfl | rfl | rfl | rfl | rfl | rfl | rfl | rfl | rfl | rfl | rfl | rfl | rfl | rfl | rfl | rfl | rfl | rfl | rfl | rfl | rfl | rfl | rfl | rfl | rfl | rfl | rfl | rfl | rfl | rfl | rfl | rfl | rfl | rfl | rfl | rfl | rfl | rfl | rfl
  · exact lc_0 X hT hN hX hbl hbA hRf hRl hc hs hi1 hi2 hi3 hi4 hq1 hq2 hq3 hq4 hK hR hl hf
  · exact lc_1 X hT hN hX hbl hbA hRf hRl hc hs hi1 hi2 hi3 hi4 hq1 hq2 hq3 hq4 hK hR hl hf
  · exact lc_2 X hT hN hX hbl hbA hRf hRl hc hs hi1 hi2 hi3 hi4 hq1 hq2 hq3 hq4 hK hR hl hf
  · exact lc_3 X hT hN hX hbl hbA hRf hRl hc hs hi1 hi2 hi3 hi4 hq1 hq2 hq3 hq4 hK hR hl hf
  · exact lc_4 X hT hN hX hbl hbA hRf hRl hc hs hi1 hi2 hi3 hi4 hq1 hq2 hq3 hq4 hK hR hl hf
  · exact lc_5 X hT hN hX hbl hbA hRf hRl hc hs hi1 hi2 hi3 hi4 hq1 hq2 hq3 hq4 hK hR hl hf
  · exact lc_6 X hT hN hX hbl hbA hRf hRl hc hs hi1 hi2 hi3 hi4 hq1 hq2 hq3 hq4 hK hR hl hf
  · exact lc_7 X hT hN hX hbl hbA hRf hRl hc hs hi1 hi2 hi3 hi4 hq1 hq2 hq3 hq4 hK hR hl hf
  · exact lc_8 X hT hN hX hbl hbA hRf hRl hc hs hi1 hi2 hi3 hi4 hq1 hq2 hq3 hq4 hK hR hl hf
  · exact lc_9 X hT hN hX hbl hbA hRf hRl hc hs hi1 hi2 hi3 hi4 hq1 hq2 hq3 hq4 hK hR hl hf
  · exact lc_10 X hT hN hX hbl hbA hRf hRl hc hs hi1 hi2 hi3 hi4 hq1 hq2 hq3 hq4 hK hR hl hf
  · exact lc_11 X hT hN hX hbl hbA hRf hRl hc hs hi1 hi2 hi3 hi4 hq1 hq2 hq3 hq4 hK hR hl hf
  · exact lc_12 X hT hN hX hbl hbA hRf hRl hc hs hi1 hi2 hi3 hi4 hq1 hq2 hq3 hq4 hK hR hl hf
  · exact lc_13 X hT hN hX hbl hbA hRf hRl hc hs hi1 hi2 hi3 hi4 hq1 hq2 hq3 hq4 hK hR hl hf
  · exact lc_14 X hT hN hX hbl hbA hRf hRl hc hs hi1 hi2 hi3 hi4 hq1 hq2 hq3 hq4 hK hR hl hf
  · exact lc_15 X hT hN hX hbl hbA hRf hRl hc hs hi1 hi2 hi3 hi4 hq1 hq2 hq3 hq4 hK hR hl hf
  · exact lc_16 X hT hN hX hbl hbA hRf hRl hc hs hi1 hi2 hi3 hi4 hq1 hq2 hq3 hq4 hK hR hl hf
  · exact lc_17 X hT hN hX hbl hbA hRf hRl hc hs hi1 hi2 hi3 hi4 hq1 hq2 hq3 hq4 hK hR hl hf
  · exact lc_18 X hT hN hX hbl hbA hRf hRl hc hs hi1 hi2 hi3 hi4 hq1 hq2 hq3 hq4 hK hR hl hf
  · exact lc_19 X hT hN hX hbl hbA hRf hRl hc hs hi1 hi2 hi3 hi4 hq1 hq2 hq3 hq4 hK hR hl hf
  · exact lc_20 X hT hN hX hbl hbA hRf hRl hc hs hi1 hi2 hi3 hi4 hq1 hq2 hq3 hq4 hK hR hl hf
  · exact lc_21 X hT hN hX hbl hbA hRf hRl hc hs hi1 hi2 hi3 hi4 hq1 hq2 hq3 hq4 hK hR hl hf
  · exact lc_22 X hT hN hX hbl hbA hRf hRl hc hs hi1 hi2 hi3 hi4 hq1 hq2 hq3 hq4 hK hR hl hf
  · exact lc_23 X hT hN hX hbl hbA hRf hRl hc hs hi1 hi2 hi3 hi4 hq1 hq2 hq3 hq4 hK hR hl hf
  · exact lc_24 X hT hN hX hbl hbA hRf hRl hc hs hi1 hi2 hi3 hi4 hq1 hq2 hq3 hq4 hK hR hl hf
  · exact lc_25 X hT hN hX hbl hbA hRf hRl hc hs hi1 hi2 hi3 hi4 hq1 hq2 hq3 hq4 hK hR hl hf
  · exact lc_26 X hT hN hX hbl hbA hRf hRl hc hs hi1 hi2 hi3 hi4 hq1 hq2 hq3 hq4 hK hR hl hf
  · exact lc_27 X hT hN hX hbl hbA hRf hRl hc hs hi1 hi2 hi3 hi4 hq1 hq2 hq3 hq4 hK hR hl hf
  · exact lc_28 X hT hN hX hbl hbA hRf hRl hc hs hi1 hi2 hi3 hi4 hq1 hq2 hq3 hq4 hK hR hl hf
  · exact lc_29 X hT hN hX hbl hbA hRf hRl hc hs hi1 hi2 hi3 hi4 hq1 hq2 hq3 hq4 hK hR hl hf
  · exact lc_30 X hT hN hX hbl hbA hRf hRl hc hs hi1 hi2 hi3 hi4 hq1 hq2 hq3 hq4 hK hR hl hf
  · exact lc_31 X hT hN hX hbl hbA hRf hRl hc hs hi1 hi2 hi3 hi4 hq1 hq2 hq3 hq4 hK hR hl hf
  · exact lc_32 X hT hN hX hbl hbA hRf hRl hc hs hi1 hi2 hi3 hi4 hq1 hq2 hq3 hq4 hK hR hl hf
  · exact lc_33 X hT hN hX hbl hbA hRf hRl hc hs hi1 hi2 hi3 hi4 hq1 hq2 hq3 hq4 hK hR hl hf
  · exact lc_34 X hT hN hX hbl hbA hRf hRl hc hs hi1 hi2 hi3 hi4 hq1 hq2 hq3 hq4 hK hR hl hf
  · exact lc_35 X hT hN hX hbl hbA hRf hRl hc hs hi1 hi2 hi3 hi4 hq1 hq2 hq3 hq4 hK hR hl hf
  · exact lc_36 X hT hN hX hbl hbA hRf hRl hc hs hi1 hi2 hi3 hi4 hq1 hq2 hq3 hq4 hK hR hl hf
  · exact lc_37 X hT hN hX hbl hbA hRf hRl hc hs hi1 hi2 hi3 hi4 hq1 hq2 hq3 hq4 hK hR hl hf
  · exact lc_38 X hT hN hX hbl hbA hRf hRl hc hs hi1 hi2 hi3 hi4 hq1 hq2 hq3 hq4 hK hR hl hf
  · exact lc_39 X hT hN hX hbl hbA hRf hRl hc hs hi1 hi2 hi3 hi4 hq1 hq2 hq3 hq4 hK hR hl hf
  · exact lc_40 X hT hN hX hbl hbA hRf hRl hc hs hi1 hi2 hi3 hi4 hq1 hq2 hq3 hq4 hK hR hl hf
  · exact lc_41 X hT hN hX hbl hbA hRf hRl hc hs hi1 hi2 hi3 hi4 hq1 hq2 hq3 hq4 hK hR hl hf
  · exact lc_42 X hT hN hX hbl hbA hRf hRl hc hs hi1 hi2 hi3 hi4 hq1 hq2 hq3 hq4 hK hR hl hf
  · exact lc_43 X hT hN hX hbl hbA hRf hRl hc hs hi1 hi2 hi3 hi4 hq1 hq2 hq3 hq4 hK hR hl hf
  · exact lc_44 X hT hN hX hbl hbA hRf hRl hc hs hi1 hi2 hi3 hi4 hq1 hq2 hq3 hq4 hK hR hl hf
set_option maxHeartbeats 4000000 in
set_option maxRecDepth 100000 in
theorem lw_loop {D : va_G} {dA : Nat → ClassId} {base t0 : Nat} {l : Launch} {p : Program} {e : Env} {R : Room} {s : State} {m : MethodId} {args : Array Value} {below : List Frame} {meth : Method} {c : Code} {Q : State → Prop} (X : zz_X D dA base t0 "SpringseatLaw" cL_law 9 (some .boolean) l p s m meth c) (hT : l.stackTraces = false) (hN : zz_N s) {b L : Nat} {xs : Nat → Int32} (hX : va_X b L xs s s.heap) (hbl : b < s.heap.size) (hbA : ¬ base ≤ b) (hRf : 13 ≤ R.frames) (hRl : 482 ≤ R.locals) {c0 s0 : Nat} (hc : c0 + 20 * 512 ≤ R.cells) (hs : s0 + 253 * 512 ≤ R.slots) (hL : L ≤ 2560) {ax am ao ad : Nat} {J : Nat → zz_H → Nat → Prop} (hJ : ∀ j, j < 512 → ∀ h n, J j h n → ∀ k x1 x2 x3 x4, w_at k t0 ax am ao ad x1 x2 x3 x4 h n (J (j + 1))) (hend : ∀ {H : Heap} {locs : List Loc} {ls : Array Slot} (h : zz_H) (n cs ss : Nat), zz_R D dA base h n s H locs → cs ≤ c0 + 20 * 512 → ss ≤ s0 + 253 * 512 → W p l e R s m args below meth c H locs cs ss Q (F0 m 3304 ls [])) :
    ∀ (r j : Nat), j + r = 512 → ∀ (h : zz_H) (n : Nat) (H : Heap) (locs : List Loc) (ls : Array Slot), J j h n → zz_R D dA base h n s H locs → lv_has ls 9 [(5, .int (Int32.ofNat (5 * j))), (4, .ref ad), (3, .ref ao), (2, .ref am), (1, .ref ax), (0, .ref b)] → W p l e R s m args below meth c H locs (c0 + 20 * j) (s0 + 253 * j) Q (F0 m 28 ls []) := by
  have hx := X.1
  have hb := X.2.1
  intro r
  induction r with
  | zero =>
    intro j hj h n H locs ls hJj hR hl
    refine lv_iload hx hb dL_law_28 (lv_at hl 0 rfl) ?_
    refine lv_aload_n hx hb dL_law_30 rfl (lv_at hl 5 rfl) ?_
    refine va_slen hx hb hX hbl hbA hR.2 dL_law_31 ?_
    refine lv_iconst (v := (5 : Int32)) hx hb dL_law_32 (by decide) ?_
    refine lv_isub hx hb dL_law_33 ?_
    refine lv_icmp_gt (tgt := 3304) hx hb dL_law_34 (by decide) (fun hc34 => ?_) (fun hc34 => ?_)
    · exact hend h n _ _ hR (by omega) (by omega)
    · exfalso
      apply hc34
      rw [Int32.lt_iff_toInt_lt, zi_sub5 hL, Int32.toInt_ofNat_of_lt (by omega)]
      omega
  | succ r ih =>
    intro j hj h n H locs ls hJj hR hl
    refine lv_iload hx hb dL_law_28 (lv_at hl 0 rfl) ?_
    refine lv_aload_n hx hb dL_law_30 rfl (lv_at hl 5 rfl) ?_
    refine va_slen hx hb hX hbl hbA hR.2 dL_law_31 ?_
    refine lv_iconst (v := (5 : Int32)) hx hb dL_law_32 (by decide) ?_
    refine lv_isub hx hb dL_law_33 ?_
    refine lv_icmp_gt (tgt := 3304) hx hb dL_law_34 (by decide) (fun hc34 => ?_) (fun hc34 => ?_)
    · exact hend h n _ _ hR (by omega) (by omega)
    · have hin : 5 * j + 5 ≤ L := by
        rw [Int32.lt_iff_toInt_lt, zi_sub5 hL, Int32.toInt_ofNat_of_lt (by omega)] at hc34
        omega
      have hi0 : vp_in (Int32.ofNat (5 * j)) L := by
        have := zi_in (j := j) (c := 0) hL (by omega)
        rwa [show Int32.ofNat 0 = 0 from rfl, Int32.add_zero] at this
      refine lv_aload_n hx hb dL_law_37 rfl (lv_at hl 5 rfl) ?_
      refine lv_iload hx hb dL_law_38 (lv_at hl 0 rfl) ?_
      refine va_sld hx hb hX hbl hbA hR.2 hi0 dL_law_40 ?_
      refine lv_bipush (v := (63 : Int32)) hx hb dL_law_41 (by decide) ?_
      refine lv_iand hx hb dL_law_43 ?_
      obtain ⟨k, hk, hkv⟩ := zi_and63 (xs (Int32.ofNat (5 * j)).toNatClampNeg)
      have hcells : c0 + 20 * j + 20 ≤ R.cells := by omega
      have hslots : s0 + 253 * j + 253 ≤ R.slots := by omega
      have hK : ∀ h n, J (j + 1) h n → ∀ {H : Heap} {locs : List Loc} {ls : Array Slot}, zz_R D dA base h n s H locs → lv_has ls 9 [(5, .int (Int32.ofNat (5 * j))), (4, .ref ad), (3, .ref ao), (2, .ref am), (1, .ref ax), (0, .ref b)] → W p l e R s m args below meth c H locs (c0 + 20 * j + 20) (s0 + 253 * j + 253) Q (F0 m 3298 ls []) := by
        intro h n hJ1 H locs ls hR hl
        refine lv_iinc (i := 5) (v := (Int32.ofNat (5 * j) + (5 : Int32))) (lv' := [(5, .int (Int32.ofNat (5 * j) + (5 : Int32))), (4, .ref ad), (3, .ref ao), (2, .ref am), (1, .ref ax), (0, .ref b)]) hx hb dL_law_3298 hl (k := 0) rfl rfl (by decide) rfl (fun ls hl => ?_)
        refine lv_goto (tgt := 28) hx hb dL_law_3301 (by decide) ?_
        have e1 : Int32.ofNat (5 * j) + 5 = Int32.ofNat (5 * (j + 1)) := by
          rw [show 5 * (j + 1) = 5 * j + 5 by omega, Int32.ofNat_add]
          rfl
        rw [e1] at hl
        exact ih (j + 1) (by omega) h n H locs ls hJ1 hR hl
      by_cases hk45 : k < 45
      · refine lv_tableIn (off := lw_o.getD k 0) (tgt := lw_t k) hx hb dL_law_44 (by rw [hkv]; omega) (by rw [hkv]; omega) ?_ ?_ ?_
        · rw [hkv]
          have h1 : ∀ k : Nat, k < 45 → (#[196, 264, 332, 412, 504, 560, 668, 762, 818, 898, 978, 1034, 1102, 1158, 1226, 1301, 1364, 1432, 1500, 1568, 1652, 1720, 1764, 1844, 1924, 2004, 2072, 2152, 2220, 2288, 2344, 2412, 2480, 2548, 2604, 2686, 2761, 2841, 2897, 2965, 3028, 3084, 3098, 3164, 3241] : Array Int)[((k : Int) - 0).toNat]? = some (lw_o.getD k 0) := by decide
          exact h1 k hk45
        · have h2 : ∀ k : Nat, k < 45 → (44 : Int) + lw_o.getD k 0 = (lw_t k : Int) := by decide
          exact h2 k hk45
        · exact lc_at X hT hN hX hbl hbA hRf hRl hcells hslots (zi_in (c := 1) hL (by omega)) (zi_in (c := 2) hL (by omega)) (zi_in (c := 3) hL (by omega)) (zi_in (c := 4) hL (by omega)) rfl rfl rfl rfl hK hR hl hk45 (hJ j (by omega) h n hJj k _ _ _ _)
      · refine lv_tableOut (tgt := 3298) hx hb dL_law_44 (Or.inr (by rw [hkv]; omega)) (by decide) ?_
        refine W.widen (k := c0 + 20 * j + 20) (n := s0 + 253 * j + 253) (by omega) (by omega) ?_
        have hw := hJ j (by omega) h n hJj k 0 0 0 0
        have e2 : w_at k t0 ax am ao ad 0 0 0 0 h n (J (j + 1)) = J (j + 1) h n := by
          rcases (show k = 45 ∨ k = 46 ∨ k = 47 ∨ k = 48 ∨ k = 49 ∨ k = 50 ∨ k = 51 ∨ k = 52 ∨ k = 53 ∨ k = 54 ∨ k = 55 ∨ k = 56 ∨ k = 57 ∨ k = 58 ∨ k = 59 ∨ k = 60 ∨ k = 61 ∨ k = 62 ∨ k = 63 by omega) with rfl | rfl | rfl | rfl | rfl | rfl | rfl | rfl | rfl | rfl | rfl | rfl | rfl | rfl | rfl | rfl | rfl | rfl | rfl <;> rfl
        rw [e2] at hw
        exact hK h n hw hR hl
end ZLL
