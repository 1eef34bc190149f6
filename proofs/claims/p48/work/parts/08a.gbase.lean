section ZGA
/-! the reference's own state: what each of its arrays holds, by the array's offset from the reference's address; 0: its whole numbers -/
abbrev zzM : Type := Nat → Nat → Int32
abbrev zzN : Type := Nat → Nat → Int64
def zset (μ : zzM) (o i : Nat) (x : Int32) : zzM := fun o' i' => if o' = o ∧ i' = i then x else μ o' i'
def zsetN (ν : zzN) (o i : Nat) (x : Int64) : zzN := fun o' i' => if o' = o ∧ i' = i then x else ν o' i'
def mOff : List Nat := [1, 2, 3, 4, 9, 14, 15, 44, 73, 78, 83, 84, 89, 94, 99, 104, 109, 138, 143, 144, 145, 146, 147, 169, 170, 171, 172, 173, 178, 179]
def tR : List (Nat × Nat × Nat × Nat) := [(4, 8, 4, 1), (9, 9, 4, 1), (15, 7, 4, 7), (16, 6, 6, 1), (23, 6, 6, 1), (30, 6, 6, 1), (37, 6, 6, 1), (44, 7, 4, 7), (45, 6, 6, 1), (52, 6, 6, 1), (59, 6, 6, 1), (66, 6, 6, 1), (73, 6, 4, 1), (78, 6, 4, 1), (84, 8, 4, 1), (89, 6, 4, 1), (94, 6, 4, 1), (99, 10, 4, 1), (104, 6, 4, 1), (109, 7, 4, 7), (110, 6, 6, 1), (117, 6, 6, 1), (124, 6, 6, 1), (131, 6, 6, 1), (138, 6, 4, 1), (147, 7, 3, 7), (148, 6, 6, 1), (155, 6, 6, 1), (162, 6, 6, 1), (173, 6, 4, 1)]
def tI : List (Nat × Nat × Nat) := [(1, 0, 4), (2, 0, 4), (3, 0, 4), (5, 1, 9), (6, 1, 9), (7, 1, 9), (8, 1, 9), (10, 2, 9), (11, 2, 9), (12, 2, 9), (13, 2, 9), (14, 0, 4), (17, 0, 6), (18, 0, 6), (19, 0, 6), (20, 0, 6), (21, 0, 6), (22, 0, 6), (24, 0, 6), (25, 0, 6), (26, 0, 6), (27, 0, 6), (28, 0, 6), (29, 0, 6), (31, 0, 6), (32, 0, 6), (33, 0, 6), (34, 0, 6), (35, 0, 6), (36, 0, 6), (38, 0, 6), (39, 0, 6), (40, 0, 6), (41, 0, 6), (42, 0, 6), (43, 0, 6), (46, 0, 6), (47, 0, 6), (48, 0, 6), (49, 0, 6), (50, 0, 6), (51, 0, 6), (53, 0, 6), (54, 0, 6), (55, 0, 6), (56, 0, 6), (57, 0, 6), (58, 0, 6), (60, 0, 6), (61, 0, 6), (62, 0, 6), (63, 0, 6), (64, 0, 6), (65, 0, 6), (67, 0, 6), (68, 0, 6), (69, 0, 6), (70, 0, 6), (71, 0, 6), (72, 0, 6), (74, 0, 6), (75, 0, 6), (76, 0, 6), (77, 0, 6), (79, 0, 6), (80, 0, 6), (81, 0, 6), (82, 0, 6), (83, 0, 4), (85, 1, 4), (86, 1, 4), (87, 1, 4), (88, 1, 4), (90, 0, 4), (91, 0, 4), (92, 0, 4), (93, 0, 4), (95, 0, 4), (96, 0, 4), (97, 0, 4), (98, 0, 4), (105, 0, 4), (106, 0, 4), (107, 0, 4), (108, 0, 4), (111, 0, 6), (112, 0, 6), (113, 0, 6), (114, 0, 6), (115, 0, 6), (116, 0, 6), (118, 0, 6), (119, 0, 6), (120, 0, 6), (121, 0, 6), (122, 0, 6), (123, 0, 6), (125, 0, 6), (126, 0, 6), (127, 0, 6), (128, 0, 6), (129, 0, 6), (130, 0, 6), (132, 0, 6), (133, 0, 6), (134, 0, 6), (135, 0, 6), (136, 0, 6), (137, 0, 6), (139, 0, 6), (140, 0, 6), (141, 0, 6), (142, 0, 6), (143, 0, 4), (144, 0, 4), (145, 0, 4), (146, 0, 4), (149, 0, 6), (150, 0, 6), (151, 0, 6), (152, 0, 6), (153, 0, 6), (154, 0, 6), (156, 0, 6), (157, 0, 6), (158, 0, 6), (159, 0, 6), (160, 0, 6), (161, 0, 6), (163, 0, 6), (164, 0, 6), (165, 0, 6), (166, 0, 6), (167, 0, 6), (168, 0, 6), (169, 0, 4), (170, 0, 4), (171, 0, 4), (172, 0, 4), (174, 0, 10), (175, 0, 10), (176, 0, 10), (177, 0, 10), (178, 1, 4), (179, 0, 4)]
def tJ : List (Nat × Nat) := [(100, 4), (101, 4), (102, 4), (103, 4)]
def mRs (o : Nat) : Option (Nat × Nat × Nat) := (tR.find? (fun r => r.1 == o)).map (fun r => r.2)
def mIs (o : Nat) : Option (Nat × Nat) := (tI.find? (fun r => r.1 == o)).map (fun r => r.2)
def mJs (o : Nat) : Option Nat := (tJ.find? (fun r => r.1 == o)).map (fun r => r.2)
def mObj (am : Nat) (μ : zzM) : List Value := mOff.map (fun o => Value.ref (am + o)) ++ [.int (μ 0 30), .int (μ 0 31), .int (μ 0 32), .int (μ 0 33)]
def mCell (am : Nat) (μ : zzM) (ν : zzN) (o : Nat) : Option zz_C :=
  if o = 0 then some (.inr (11, mObj am μ)) else match mRs o with
  | some (t, n, s) => some (zz_Q t n (fun i => some (am + (o + 1 + i * s))))
  | none => match mIs o with
    | some (t, n) => some (zz_I t n (μ o))
    | none => match mJs o with
      | some n => some (zz_L 3 n (ν o))
      | none => none
def zk (h : zz_H) (am : Nat) (μ : zzM) (ν : zzN) : zz_H := fun q => if am ≤ q ∧ q < am + 180 then mCell am μ ν (q - am) else h q
theorem mRs_i {o : Nat} {r : Nat × Nat × Nat} (e : mRs o = some r) : o < 180 ∧ o ≠ 0 := by
  unfold mRs at e
  obtain ⟨x, hx, -⟩ := Option.map_eq_some_iff.mp e
  have h1 : ∀ r ∈ tR, r.1 < 180 ∧ r.1 ≠ 0 := by decide +kernel
  have h2 := List.find?_some hx
  have h3 := h1 x (List.mem_of_find?_eq_some hx)
  rw [beq_iff_eq.mp h2] at h3
  exact h3
theorem mIs_i {o : Nat} {r : Nat × Nat} (e : mIs o = some r) : o < 180 ∧ o ≠ 0 ∧ mRs o = none := by
  unfold mIs at e
  obtain ⟨x, hx, -⟩ := Option.map_eq_some_iff.mp e
  have h1 : ∀ r ∈ tI, r.1 < 180 ∧ r.1 ≠ 0 ∧ mRs r.1 = none := by decide +kernel
  have h2 := List.find?_some hx
  have h3 := h1 x (List.mem_of_find?_eq_some hx)
  rw [beq_iff_eq.mp h2] at h3
  exact h3
theorem mJs_i {o : Nat} {r : Nat} (e : mJs o = some r) : o < 180 ∧ o ≠ 0 ∧ mRs o = none ∧ mIs o = none := by
  unfold mJs at e
  obtain ⟨x, hx, -⟩ := Option.map_eq_some_iff.mp e
  have h1 : ∀ r ∈ tJ, r.1 < 180 ∧ r.1 ≠ 0 ∧ mRs r.1 = none ∧ mIs r.1 = none := by decide +kernel
  have h2 := List.find?_some hx
  have h3 := h1 x (List.mem_of_find?_eq_some hx)
  rw [beq_iff_eq.mp h2] at h3
  exact h3
theorem zk_at {h : zz_H} {am : Nat} {μ : zzM} {ν : zzN} {o : Nat} (ho : o < 180) : zk h am μ ν (am + o) = mCell am μ ν o := by
  unfold zk
  rw [if_pos ⟨Nat.le_add_right _ _, by omega⟩, Nat.add_sub_cancel_left]
theorem zk_R {h : zz_H} {am : Nat} {μ : zzM} {ν : zzN} {o t n s : Nat} (e : mRs o = some (t, n, s)) : zk h am μ ν (am + o) = some (zz_Q t n (fun i => some (am + (o + 1 + i * s)))) := by
  obtain ⟨h1, h2⟩ := mRs_i e
  rw [zk_at h1]
  unfold mCell
  rw [if_neg h2, e]
theorem zk_I {h : zz_H} {am : Nat} {μ : zzM} {ν : zzN} {o t n : Nat} (e : mIs o = some (t, n)) : zk h am μ ν (am + o) = some (zz_I t n (μ o)) := by
  obtain ⟨h1, h2, h3⟩ := mIs_i e
  rw [zk_at h1]
  unfold mCell
  rw [if_neg h2, h3]
  simp only [e]
theorem zk_J {h : zz_H} {am : Nat} {μ : zzM} {ν : zzN} {o n : Nat} (e : mJs o = some n) : zk h am μ ν (am + o) = some (zz_L 3 n (ν o)) := by
  obtain ⟨h1, h2, h3, h4⟩ := mJs_i e
  rw [zk_at h1]
  unfold mCell
  rw [if_neg h2, h3]
  simp only [h4, e]
theorem zk_0 {h : zz_H} {am : Nat} {μ : zzM} {ν : zzN} : zk h am μ ν am = some (.inr (11, mObj am μ)) := by
  have := zk_at (h := h) (am := am) (μ := μ) (ν := ν) (o := 0) (by decide)
  rw [Nat.add_zero] at this
  rw [this]
  unfold mCell
  rw [if_pos rfl]
theorem zset_o {μ : zzM} {o i : Nat} {x : Int32} {o' : Nat} (h : o' ≠ o) : zset μ o i x o' = μ o' := by
  funext i'
  unfold zset
  rw [if_neg (fun q => h q.1)]
theorem zset_s {μ : zzM} {o i : Nat} {x : Int32} : zset μ o i x o = upd (μ o) i x := by
  funext i'
  unfold zset upd
  by_cases h : i' = i
  · rw [if_pos ⟨rfl, h⟩, if_pos h]
  · rw [if_neg (fun q => h q.2), if_neg h]
theorem zsetN_o {ν : zzN} {o i : Nat} {x : Int64} {o' : Nat} (h : o' ≠ o) : zsetN ν o i x o' = ν o' := by
  funext i'
  unfold zsetN
  rw [if_neg (fun q => h q.1)]
theorem zsetN_s {ν : zzN} {o i : Nat} {x : Int64} : zsetN ν o i x o = vp_updL (ν o) i x := by
  funext i'
  unfold zsetN vp_updL
  by_cases h : i' = i
  · rw [if_pos ⟨rfl, h⟩, if_pos h]
  · rw [if_neg (fun q => h q.2), if_neg h]
theorem zk_set {h : zz_H} {am : Nat} {μ : zzM} {ν : zzN} {o t n i : Nat} {x : Int32} (e : mIs o = some (t, n)) : zz_u (zk h am μ ν) (am + o) (zz_I t n (upd (μ o) i x)) = zk h am (zset μ o i x) ν := by
  obtain ⟨h1, h2, h3⟩ := mIs_i e
  funext q
  by_cases hq : q = am + o
  · subst hq
    rw [zz_us, zk_I e, zset_s]
  · rw [zz_un hq]
    unfold zk
    by_cases hr : am ≤ q ∧ q < am + 180
    · rw [if_pos hr, if_pos hr]
      have hne : q - am ≠ o := by omega
      unfold mCell
      have h0 : mObj am (zset μ o i x) = mObj am μ := by
        unfold mObj
        rw [zset_o (Ne.symm h2)]
      rw [h0, zset_o hne]
    · rw [if_neg hr, if_neg hr]
theorem zk_setN {h : zz_H} {am : Nat} {μ : zzM} {ν : zzN} {o n i : Nat} {x : Int64} (e : mJs o = some n) : zz_u (zk h am μ ν) (am + o) (zz_L 3 n (vp_updL (ν o) i x)) = zk h am μ (zsetN ν o i x) := by
  obtain ⟨h1, h2, h3, h4⟩ := mJs_i e
  funext q
  by_cases hq : q = am + o
  · subst hq
    rw [zz_us, zk_J e, zsetN_s]
  · rw [zz_un hq]
    unfold zk
    by_cases hr : am ≤ q ∧ q < am + 180
    · rw [if_pos hr, if_pos hr]
      have hne : q - am ≠ o := by omega
      unfold mCell
      rw [zsetN_o hne]
    · rw [if_neg hr, if_neg hr]
theorem zk_put {h : zz_H} {am : Nat} {μ : zzM} {ν : zzN} {k : Nat} {x : Int32} (hk : 30 ≤ k ∧ k < 34) : zz_u (zk h am μ ν) am (.inr (11, (mObj am μ).set k (.int x))) = zk h am (zset μ 0 k x) ν := by
  funext q
  by_cases hq : q = am
  · subst hq
    rw [zz_us, zk_0]
    have h1 : k = 30 ∨ k = 31 ∨ k = 32 ∨ k = 33 := by omega
    rcases h1 with rfl | rfl | rfl | rfl <;> rfl
  · rw [zz_un hq]
    unfold zk
    by_cases hr : am ≤ q ∧ q < am + 180
    · rw [if_pos hr, if_pos hr]
      have hne : q - am ≠ 0 := by omega
      unfold mCell
      rw [if_neg hne, if_neg hne, zset_o hne]
    · rw [if_neg hr, if_neg hr]
/-- the operations -/
def gai (t : Nat) (μ : zzM) (o : Nat) (i : Int32) {α : Type} (K : Int32 → Option α) : Option α := match mIs o with
  | some (t', n) => if t' = t ∧ ¬ (i < 0 ∨ n ≤ i.toNatClampNeg) then K (μ o i.toNatClampNeg) else none
  | none => none
def gal (ν : zzN) (o : Nat) (i : Int32) {α : Type} (K : Int64 → Option α) : Option α := match mJs o with
  | some n => if ¬ (i < 0 ∨ n ≤ i.toNatClampNeg) then K (ν o i.toNatClampNeg) else none
  | none => none
def gaq (t : Nat) (o : Nat) (i : Int32) {α : Type} (K : Nat → Option α) : Option α := match mRs o with
  | some (t', n, s) => if t' = t ∧ ¬ (i < 0 ∨ n ≤ i.toNatClampNeg) then K (o + 1 + i.toNatClampNeg * s) else none
  | none => none
def gsi (t : Nat) (μ : zzM) (o : Nat) (i x : Int32) {α : Type} (K : zzM → Option α) : Option α := match mIs o with
  | some (t', n) => if t' = t ∧ ¬ (i < 0 ∨ n ≤ i.toNatClampNeg) then K (zset μ o i.toNatClampNeg x) else none
  | none => none
def gsl (ν : zzN) (o : Nat) (i : Int32) (x : Int64) {α : Type} (K : zzN → Option α) : Option α := match mJs o with
  | some n => if ¬ (i < 0 ∨ n ≤ i.toNatClampNeg) then K (zsetN ν o i.toNatClampNeg x) else none
  | none => none
def glen (o : Nat) {α : Type} (K : Int32 → Option α) : Option α := match mRs o with
  | some (t, n, _) => if t < 12 then K (Int32.ofNat n) else none
  | none => match mIs o with
    | some (t, n) => if t < 12 then K (Int32.ofNat n) else none
    | none => none
def zz_g1 {α β : Type} (x : Option (α × zzM × zzN)) (K : α → zzM → zzN → Option β) : Option β := match x with
  | some (v, μ, ν) => K v μ ν
  | none => none
/-- y follows x -/
def zLe {α β : Type} (cv : α → β) (x : Option α) (y : Option β) : Prop := ∀ r, x = some r → y = some (cv r)
variable {α β : Type} {cv : α → β} {h : zz_H} {am : Nat} {μ : zzM} {ν : zzN}
theorem sm_none {y : Option β} : zLe cv none y := fun _ e => nomatch e
theorem sm_some {x : α} {y : β} (e : y = cv x) : zLe cv (some x) (some y) := fun r q => by cases q; rw [e]
theorem sm_if {c : Prop} [Decidable c] {x x' : Option α} {y y' : Option β} (h1 : c → zLe cv x y) (h2 : ¬ c → zLe cv x' y') : zLe cv (if c then x else x') (if c then y else y') := by
  by_cases e : c
  · rw [if_pos e, if_pos e]; exact h1 e
  · rw [if_neg e, if_neg e]; exact h2 e
theorem sm_dv {w : Int32} {x : Option α} {y : Option β} (k : zLe cv x y) : zLe cv (zz_dv w x) (zz_dv w y) := by
  unfold zz_dv
  split
  · exact sm_none
  · exact k
theorem sm_dl {w : Int64} {x : Option α} {y : Option β} (k : zLe cv x y) : zLe cv (zz_dl w x) (zz_dl w y) := by
  unfold zz_dl
  split
  · exact sm_none
  · exact k
theorem sm_gz {w : Int32} {x : Option α} {y : Option β} (k : zLe cv x y) : zLe cv (zz_gz w x) (zz_gz w y) := by
  unfold zz_gz
  split
  · exact k
  · exact sm_none
theorem sm_gc {w : Int32} {x : Option α} {y : Option β} (k : zLe cv x y) : zLe cv (zz_gc w x) (zz_gc w y) := by
  unfold zz_gc
  split
  · exact k
  · exact sm_none
theorem sm_nf {w : UInt32} {x : Option α} {y : Option β} (k : zLe cv x y) : zLe cv (zz_nf w x) (zz_nf w y) := by
  unfold zz_nf
  split
  · exact k
  · exact sm_none
theorem sm_nd {w : UInt64} {x : Option α} {y : Option β} (k : zLe cv x y) : zLe cv (zz_nd w x) (zz_nd w y) := by
  unfold zz_nd
  split
  · exact k
  · exact sm_none
theorem sm_ob {x : Option α} {K : Nat → Option β} (k : zLe cv x (K am)) : zLe cv x (zz_ob (zk h am μ ν) (some am) 11 K) := by
  intro r e
  unfold zz_ob
  simp only [zk_0, if_true]
  exact k r e
theorem sm_gq {k off : Nat} {x : Option α} {K : Option Nat → Option β} (hk : mOff[k]? = some off) (kk : zLe cv x (K (some (am + off)))) : zLe cv x (zz_gq (zk h am μ ν) (some am) 11 k K) := by
  intro r e
  have h1 : (mObj am μ)[k]? = some (.ref (am + off)) := by
    unfold mObj
    rw [List.getElem?_append_left (by rw [List.length_map]; exact (List.getElem?_eq_some_iff.mp hk).1), List.getElem?_map, hk]
    rfl
  unfold zz_gq
  simp only [zk_0, if_true, h1]
  exact kk r e
theorem sm_gi {k : Nat} {x : Option α} {K : Int32 → Option β} (hk : 30 ≤ k ∧ k < 34) (kk : zLe cv x (K (μ 0 k))) : zLe cv x (zz_gi (zk h am μ ν) (some am) 11 k K) := by
  intro r e
  have h1 : (mObj am μ)[k]? = some (.int (μ 0 k)) := by
    have h1 : k = 30 ∨ k = 31 ∨ k = 32 ∨ k = 33 := by omega
    rcases h1 with rfl | rfl | rfl | rfl <;> rfl
  unfold zz_gi
  simp only [zk_0, if_true, h1]
  exact kk r e
theorem sm_p {k : Nat} {v : Int32} {x : Option α} {K : zz_H → Option β} (hk : 30 ≤ k ∧ k < 34) (kk : zLe cv x (K (zk h am (zset μ 0 k v) ν))) : zLe cv x (zz_p (zk h am μ ν) (some am) 11 k (.int v) K) := by
  intro r e
  have h1 : k < (mObj am μ).length := by
    have h2 : (mObj am μ).length = 34 := rfl
    omega
  unfold zz_p
  simp only [zk_0, true_and, if_pos h1, zk_put hk]
  exact kk r e
theorem sm_ai {t o : Nat} {i : Int32} {K' : Int32 → Option α} {K : Int32 → Option β} (kk : ∀ v, zLe cv (K' v) (K v)) : zLe cv (gai t μ o i K') (zz_ai t (zk h am μ ν) (some (am + o)) i K) := by
  intro r e
  unfold gai at e
  split at e
  · next t' n hI =>
    split at e
    · next hc =>
      unfold zz_ai
      simp only [zk_I hI]
      rw [if_pos hc]
      exact kk _ r e
    · cases e
  · cases e
theorem sm_al {o : Nat} {i : Int32} {K' : Int64 → Option α} {K : Int64 → Option β} (kk : ∀ v, zLe cv (K' v) (K v)) : zLe cv (gal ν o i K') (zz_al 3 (zk h am μ ν) (some (am + o)) i K) := by
  intro r e
  unfold gal at e
  split at e
  · next n hI =>
    split at e
    · next hc =>
      unfold zz_al
      simp only [zk_J hI]
      rw [if_pos ⟨trivial, hc⟩]
      exact kk _ r e
    · cases e
  · cases e
theorem sm_aq {t o : Nat} {i : Int32} {K' : Nat → Option α} {K : Option Nat → Option β} (kk : ∀ v, zLe cv (K' v) (K (some (am + v)))) : zLe cv (gaq t o i K') (zz_aq t (zk h am μ ν) (some (am + o)) i K) := by
  intro r e
  unfold gaq at e
  split at e
  · next t' n s hI =>
    split at e
    · next hc =>
      unfold zz_aq
      simp only [zk_R hI]
      rw [if_pos hc]
      exact kk _ r e
    · cases e
  · cases e
theorem sm_si {t o : Nat} {i x : Int32} {K' : zzM → Option α} {K : zz_H → Option β} (kk : ∀ μ', zLe cv (K' μ') (K (zk h am μ' ν))) : zLe cv (gsi t μ o i x K') (zz_si t (zk h am μ ν) (some (am + o)) i x K) := by
  intro r e
  unfold gsi at e
  split at e
  · next t' n hI =>
    split at e
    · next hc =>
      unfold zz_si
      simp only [zk_I hI]
      rw [if_pos hc]
      obtain ⟨rfl, -⟩ := hc
      rw [zk_set hI]
      exact kk _ r e
    · cases e
  · cases e
theorem sm_sl {o : Nat} {i : Int32} {x : Int64} {K' : zzN → Option α} {K : zz_H → Option β} (kk : ∀ ν', zLe cv (K' ν') (K (zk h am μ ν'))) : zLe cv (gsl ν o i x K') (zz_sl 3 (zk h am μ ν) (some (am + o)) i x K) := by
  intro r e
  unfold gsl at e
  split at e
  · next n hI =>
    split at e
    · next hc =>
      unfold zz_sl
      simp only [zk_J hI]
      rw [if_pos ⟨trivial, hc⟩, zk_setN hI]
      exact kk _ r e
    · cases e
  · cases e
theorem sm_len {o : Nat} {K' : Int32 → Option α} {K : Int32 → Option β} (kk : ∀ v, zLe cv (K' v) (K v)) : zLe cv (glen o K') (zz_len (zk h am μ ν) (some (am + o)) K) := by
  intro r e
  unfold glen at e
  split at e
  · next t n s hI =>
    unfold zz_len
    simp only [zk_R hI]
    split at e
    · next hc => rw [if_pos (by omega)]; exact kk _ r e
    · cases e
  · split at e
    · next t n hI =>
      unfold zz_len
      simp only [zk_I hI]
      split at e
      · next hc => rw [if_pos (by omega)]; exact kk _ r e
      · cases e
    · cases e
theorem sm_b {γ : Type} {x y : Option γ} {K' : γ → Option α} {K : γ → Option β} (hx : zLe id x y) (kk : ∀ v, zLe cv (K' v) (K v)) : zLe cv (zz_b x K') (zz_b y K) := by
  intro r e
  obtain ⟨v, h1, h2⟩ := zz_b_i e
  rw [hx v h1]
  exact kk v r h2
theorem sm_b1 {γ : Type} {x : Option (γ × zzM × zzN)} {y : Option (γ × zz_H)} {K' : γ → zzM → zzN → Option α} {K : γ → zz_H → Option β} (hx : zLe (fun r : γ × zzM × zzN => (r.1, zk h am r.2.1 r.2.2)) x y) (kk : ∀ v μ' ν', zLe cv (K' v μ' ν') (K v (zk h am μ' ν'))) : zLe cv (zz_g1 x K') (zz_b1 y K) := by
  intro r e
  unfold zz_g1 at e
  split at e
  · rw [hx _ rfl]
    exact kk _ _ _ r e
  · cases e
theorem sm_map01 {γ δ : Type} {x y : Option γ} (hx : zLe id x y) : zLe id (Option.map (fun z => (Sum.inr z : δ ⊕ γ)) x) (Option.map (fun z => (Sum.inr z : δ ⊕ γ)) y) := by
  intro r e
  obtain ⟨v, h1, h2⟩ := Option.map_eq_some_iff.mp e
  rw [hx v h1, ← h2]
  rfl
theorem sm_map02 {γ δ δ' : Type} {x y : Option γ} (hx : zLe id x y) : zLe id (Option.map (fun z => (Sum.inr (Sum.inr z) : δ ⊕ (δ' ⊕ γ))) x) (Option.map (fun z => (Sum.inr (Sum.inr z) : δ ⊕ (δ' ⊕ γ))) y) := by
  intro r e
  obtain ⟨v, h1, h2⟩ := Option.map_eq_some_iff.mp e
  rw [hx v h1, ← h2]
  rfl
theorem sm_mapw1 {γ γ' δ δ' : Type} {cs : δ → δ'} {cr : γ → γ'} {x : Option γ} {y : Option γ'} (hx : zLe cr x y) : zLe (Sum.map cs cr) (Option.map (fun z => (Sum.inr z : δ ⊕ γ)) x) (Option.map (fun z => (Sum.inr z : δ' ⊕ γ')) y) := by
  intro r e
  obtain ⟨v, h1, h2⟩ := Option.map_eq_some_iff.mp e
  rw [hx v h1, ← h2]
  rfl
theorem sm_mapw2 {γ γ' δ δ' ε ε' : Type} {cs : δ → δ'} {ct : ε → ε'} {cr : γ → γ'} {x : Option γ} {y : Option γ'} (hx : zLe cr x y) : zLe (Sum.map cs (Sum.map ct cr)) (Option.map (fun z => (Sum.inr (Sum.inr z) : δ ⊕ (ε ⊕ γ))) x) (Option.map (fun z => (Sum.inr (Sum.inr z) : δ' ⊕ (ε' ⊕ γ'))) y) := by
  intro r e
  obtain ⟨v, h1, h2⟩ := Option.map_eq_some_iff.mp e
  rw [hx v h1, ← h2]
  rfl
theorem sm_itk {σ σ' : Type} {cs : σ → σ'} {bg : σ → Option (σ ⊕ α)} {bf : σ' → Option (σ' ⊕ β)} (hb : ∀ s, zLe (Sum.map cs cv) (bg s) (bf (cs s))) : ∀ (k : Nat) (s0 : σ), zLe cv (zz_it bg k s0) (zz_it bf k (cs s0))
  | 0, s0 => fun r e => by cases e
  | k + 1, s0 => fun r e => by
    rcases zz_it_s e with ⟨s1, h1, h2⟩ | h1
    · have h3 := hb s0 _ h1
      unfold zz_it
      rw [h3]
      exact sm_itk hb k s1 r h2
    · have h3 := hb s0 _ h1
      unfold zz_it
      rw [h3]
      rfl
theorem sm_it {σ σ' : Type} {cs : σ → σ'} {bg : σ → Option (σ ⊕ α)} {bf : σ' → Option (σ' ⊕ β)} {s0 : σ} (hb : ∀ s, zLe (Sum.map cs cv) (bg s) (bf (cs s))) : zLe cv (zz_it bg zz_F s0) (zz_it bf zz_F (cs s0)) := sm_itk hb zz_F s0
theorem sm_it0 {γ σ : Type} {bg bf : σ → Option (σ ⊕ γ)} {s0 : σ} (hb : ∀ s, zLe id (bg s) (bf s)) : zLe id (zz_it bg zz_F s0) (zz_it bf zz_F s0) :=
  sm_itk (cs := id) (fun s r e => by
    have h1 := hb s r e
    show bf s = _
    rw [h1]
    cases r <;> rfl) zz_F s0
end ZGA
