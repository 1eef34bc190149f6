section ZXW
/-! layer: the heap behind it -/
variable {ad : Nat → Nat} {iv : Nat → Option Nat} {lv : Nat → Bool} {t0 base : Nat} {ow : zz_H} {κ : zzM} {νc : zzN} {μ μr : zzM} {ν νr : zzN} {H : Int} {nS nB nK : Nat} {h : zz_H} {n a : Nat}
theorem mk6 {k t f : Int32} {x0 x1 x2 x3 x4 x5 : Value} (hk : CH k) (ea : h a = some (.inr (7, [x0, x1, x2, x3, x4, x5]))) : ∃ h', f_X6_init a k t f h = some ((), h') ∧ (∀ q, q ≠ a → h' q = h q) ∧ h' a = some (.inr (7, [.int k, .int t, .int f, .int t, x4, x5])) := by
  refine ⟨zz_u (zz_u (zz_u (zz_u h a (.inr (7, [.int k, x1, x2, x3, x4, x5]))) a (.inr (7, [.int k, .int t, x2, x3, x4, x5]))) a (.inr (7, [.int k, .int t, .int f, x3, x4, x5]))) a (.inr (7, [.int k, .int t, .int f, .int t, x4, x5])), ?_, fun q hq => by rw [zz_un hq, zz_un hq, zz_un hq, zz_un hq], zz_us⟩
  unfold f_X6_init
  rw [zgc_p hk, zp_r (fs' := [.int k, x1, x2, x3, x4, x5]) ea (by simp) rfl, zp_r (fs := [.int k, x1, x2, x3, x4, x5]) (fs' := [.int k, .int t, x2, x3, x4, x5]) zz_us (by simp) rfl, zp_r (fs := [.int k, .int t, x2, x3, x4, x5]) (fs' := [.int k, .int t, .int f, x3, x4, x5]) zz_us (by simp) rfl, zp_r (fs := [.int k, .int t, .int f, x3, x4, x5]) (fs' := [.int k, .int t, .int f, .int t, x4, x5]) zz_us (by simp) rfl]
theorem f_layer1 (S : S0 ad iv lv t0 base ow κ νc h n) (R : RR lv κ νc μr νr H nS nB nK) {s : Nat} (hs : s < nS) {k t f : Int32} (hk : CH k) (c1 : f_X9_seatOf base (Int32.ofNat s) h = some (.inl (some (ad (100 * (s + 1)))))) (c2 : f_X9_needKind k h = some (.inl ())) (c3 : f_X9_needRange t 5 60 h = some (.inl ())) (c4 : f_X9_needRange f 1 9 h = some (.inl ())) (c5 : f_X9_needNext (some (ad (100 * (s + 1)))) 108 h = some (.inl ())) : ∃ (h2 : zz_H) (w : Nat), f_X9_layer t0 base (Int32.ofNat s) k t f h n = zz_b1 (f_X8_add (ad (100 * (s + 1) + 4)) 108 h2) (fun v59 h59 => some (.inl v59, h59, if κ (100 * (s + 1) + 5 + 1) 3 = 0 then n + 1 + 1 else n + 1)) ∧ w = (if κ (100 * (s + 1) + 5 + 1) 3 = 0 then n + 1 else ad (100 * (s + 1) + 5 + 1 + 1000)) ∧ (∀ q, q ≠ ad (100 * (s + 1) + 5 + 1) → q ≠ w → q ≠ n → h2 q = h q) ∧ h2 (ad (100 * (s + 1) + 5 + 1)) = some (.inr (0, [.int (κ (100 * (s + 1) + 5 + 1) 0 + 1), .ref w, .int (Int32.ofNat (nL μr s + 1))])) ∧ h2 w = some (zz_Q 5 10 (fun i => if i < nL μr s then some (ad (child (100 * (s + 1) + 5 + 1) i)) else if i = nL μr s then some n else none)) ∧ h2 n = some (.inr (7, [.int k, .int t, .int f, .int t, .long 0, .int 0])) := by
  obtain ⟨A, hB, -, -, -, -, -, -, -, -, -, hA, -⟩ := R.2.2.1 s hs
  have hl2 := hB.2.2.2.2
  have r0 := R.1.1
  have lb := S0_lt S r0.1
  rw [S.2.2.2.2.2.2.2.2.1] at lb
  have ht := S.2.2.2.2.2.2.2.1
  obtain ⟨a8, a4, ah, af, a9, a3, a0, -⟩ := A
  obtain ⟨S', hS'⟩ : ∃ S', S' = 100 * (s + 1) := ⟨_, rfl⟩
  rw [← hS'] at a8 a4 ah af a9 a3 a0 c1 c5 hA ⊢
  have w8 := S0_lt S a8.1
  have w9 := S0_lt S a9.1
  have w3 := S0_lt S a3.1
  have w0 := S0_lt S a0.1
  have e8 := S0_cell S a8.1
  rw [s8_cell a8.2] at e8
  have e9 := S0_cell S a9.1
  rw [s9_cell a9.2] at e9
  have e3 := S0_cell S a3.1
  rw [s3_cell a3.2] at e3
  have e0 := S0_cell S a0.1
  obtain ⟨g1, f1, o1, y1⟩ := mk6 (k := k) (t := t) (f := f) (h := zz_u h n (.inr (7, [.int 0, .int 0, .int 0, .int 0, .long 0, .int 0]))) (a := n) hk zz_us
  have og : ∀ q, q ≠ n → g1 q = h q := fun q hq => by rw [o1 q hq, zz_un hq]
  have gr : ¬ κ (S' + 5 + 1) 3 = 0 → lv (S' + 5 + 1 + 1000) = true := hA.2.2.2
  have e0' : h (ad (S' + 5 + 1)) = some (.inr (0, [.int (κ (S' + 5 + 1) 0), .ref (if κ (S' + 5 + 1) 3 = 0 then t0 else ad (S' + 5 + 1 + 1000)), .int (κ (S' + 5 + 1) 2)])) := by rw [e0, li_cell a0.2]
  obtain ⟨h2, w, f2, f3, f4, f5, f6⟩ := li_add (κ := κ) (νc := νc) (ad := ad) (t0 := t0) (L := S' + 5 + 1) (c := nL μr s) (v := n) (n := n + 1) (h := g1) (ci := 7) (fs := [.int k, .int t, .int f, .int t, .long 0, .int 0]) a0.2 (hA.2.2.1.trans hl2.1) (by omega) (by rw [og _ (by omega)]; exact e0) (fun g => by
    have l1 := S0_lt S (gr g)
    rw [og _ (by omega)]
    exact S0_cell S (gr g)) (fun g => ⟨by
    rcases Nat.eq_zero_or_pos (nL μr s) with q | q
    · exact q
    · exact absurd g (hA.2.1 q).2, by rw [og _ (by omega)]; exact S.2.2.2.2.2.2.2.2.2.1, by omega, by omega, by omega⟩) y1 (by decide)
  have wne : ∀ o, lv o = true → o ≠ S' + 5 + 1 + 1000 → ad o ≠ w := fun o ho hne => by
    have lo := S0_lt S ho
    rw [f3]
    by_cases g : κ (S' + 5 + 1) 3 = 0
    · rw [if_pos g]; omega
    · rw [if_neg g]; exact S0_ne S ho (gr g) hne
  have wn : w ≠ n := by
    rw [f3]
    by_cases g : κ (S' + 5 + 1) 3 = 0
    · rw [if_pos g]; omega
    · rw [if_neg g]; have := S0_lt S (gr g); omega
  have k8 : h2 (ad S') = h (ad S') := by
    rw [f4 _ (S0_ne S a8.1 a0.1 (by omega)) (wne _ a8.1 (by omega)), og _ (by omega)]
  have k9 : h2 (ad (S' + 4)) = h (ad (S' + 4)) := by
    rw [f4 _ (S0_ne S a9.1 a0.1 (by omega)) (wne _ a9.1 (by omega)), og _ (by omega)]
  refine ⟨h2, w, ?_, f3, fun q h1 h3 h4 => by rw [f4 q h1 h3, og q h4], f5, f6, ?_⟩
  · unfold f_X9_layer f_X2_add
    rw [(S0_ax S r0).2, c1, zth_l, c2, zth_l, c3, zth_l, c4, zth_l, c5, zth_l, zgq_r e8 rfl, f1, zb1_s, zob_r (by rw [og _ (by omega)]; exact e3), zgq_r (by rw [og _ (by omega)]; exact e3) rfl, zob_r (by rw [og _ (by omega)]; exact e0'), f2, zb2_s, zb2_s, zgq_r (by rw [k8]; exact e8) rfl, zob_r (by rw [k9]; exact e9)]
  · rw [f4 n (by omega) wn.symm]
    exact y1
def nwY (κ : zzM) (s l x : Nat) : Bool := decide (x = 100 * (s + 1) + 20 + l ∨ (x = 100 * (s + 1) + 5 + 1 + 1000 ∧ κ (100 * (s + 1) + 5 + 1) 3 = 0))
def adY (n s l x : Nat) : Nat := if x = 100 * (s + 1) + 20 + l then n else n + 1
def ivY (κ : zzM) (n s l q : Nat) : Option Nat := if q = n then some (100 * (s + 1) + 20 + l) else if q = n + 1 ∧ κ (100 * (s + 1) + 5 + 1) 3 = 0 then some (100 * (s + 1) + 5 + 1 + 1000) else none
theorem nwY_f {s l x : Nat} (h : ¬ (x = 100 * (s + 1) + 20 + l ∨ (x = 100 * (s + 1) + 5 + 1 + 1000 ∧ κ (100 * (s + 1) + 5 + 1) 3 = 0))) : nwY κ s l x = false := decide_eq_false h
theorem nwY_t {s l x : Nat} (h : x = 100 * (s + 1) + 20 + l ∨ (x = 100 * (s + 1) + 5 + 1 + 1000 ∧ κ (100 * (s + 1) + 5 + 1) 3 = 0)) : nwY κ s l x = true := decide_eq_true h
theorem nwY_n {s l x : Nat} (h1 : x ≠ 100 * (s + 1) + 20 + l) (h2 : x ≠ 100 * (s + 1) + 5 + 1 + 1000) : nwY κ s l x = false := nwY_f (fun q => by
  rcases q with q | q
  · exact h1 q
  · exact h2 q.1)
theorem adY_0 {s l : Nat} : adY n s l (100 * (s + 1) + 20 + l) = n := if_pos rfl
theorem adY_1 {s l : Nat} (hl : l < 4) : adY n s l (100 * (s + 1) + 5 + 1 + 1000) = n + 1 := if_neg (by omega)
theorem ivY_0 {s l : Nat} : ivY κ n s l n = some (100 * (s + 1) + 20 + l) := if_pos rfl
theorem ivY_1 {s l : Nat} (g : κ (100 * (s + 1) + 5 + 1) 3 = 0) : ivY κ n s l (n + 1) = some (100 * (s + 1) + 5 + 1 + 1000) := by
  unfold ivY
  rw [if_neg (by omega), if_pos ⟨rfl, g⟩]
theorem S0_layer (S : S0 ad iv lv t0 base ow κ νc h n) (R : RR lv κ νc μr νr H nS nB nK) (V : LV lv nS) {s : Nat} (hs : s < nS) (hl4 : nL μr s < 4) {k t f : Int32} (hk : CH k) (c1 : f_X9_seatOf base (Int32.ofNat s) h = some (.inl (some (ad (100 * (s + 1)))))) (c2 : f_X9_needKind k h = some (.inl ())) (c3 : f_X9_needRange t 5 60 h = some (.inl ())) (c4 : f_X9_needRange f 1 9 h = some (.inl ())) (c5 : f_X9_needNext (some (ad (100 * (s + 1)))) 108 h = some (.inl ())) : ∃ (h2 : zz_H), f_X9_layer t0 base (Int32.ofNat s) k t f h n = zz_b1 (f_X8_add (ad (100 * (s + 1) + 4)) 108 h2) (fun v59 h59 => some (.inl v59, h59, if κ (100 * (s + 1) + 5 + 1) 3 = 0 then n + 1 + 1 else n + 1)) ∧ S0 (adN (nwY κ s (nL μr s)) (adY n s (nL μr s)) ad) (ivN n (nwY κ s (nL μr s)) (ivY κ n s (nL μr s)) iv) (lvN (nwY κ s (nL μr s)) lv) t0 base ow (kY κ k t f s (nL μr s)) (zsetN νc (100 * (s + 1) + 20 + nL μr s) 4 0) h2 (if κ (100 * (s + 1) + 5 + 1) 3 = 0 then n + 1 + 1 else n + 1) := by
  obtain ⟨h2, w, e1, e2, e3, e4, e5, e6⟩ := f_layer1 S R hs hk c1 c2 c3 c4 c5
  refine ⟨h2, e1, ?_⟩
  obtain ⟨A, hB, -, -, -, -, -, -, -, -, -, hA, -⟩ := R.2.2.1 s hs
  have a0 := A.2.2.2.2.2.2.1
  have b4 := R.1.2.1
  have l2 := S0_lt S a0.1
  have hs4 : s < 4 := by omega
  have k4 := R.1.2.2.2.1
  have gr : ¬ κ (100 * (s + 1) + 5 + 1) 3 = 0 → lv (100 * (s + 1) + 5 + 1 + 1000) = true := hA.2.2.2
  generalize nL μr s = l at hl4 e4 e5 ⊢
  have wn : w ≠ n := by
    rw [e2]
    by_cases g : κ (100 * (s + 1) + 5 + 1) 3 = 0
    · rw [if_pos g]; omega
    · rw [if_neg g]; have := S0_lt S (gr g); omega
  have co7 : co (100 * (s + 1) + 20 + l) = 7 := (by decide +kernel : ∀ s, s < 4 → ∀ l, l < 4 → co (100 * (s + 1) + 20 + l) = 7) s hs4 l hl4
  obtain ⟨q1, q2, q3⟩ := kLi_h (κ := κ) (L := 100 * (s + 1) + 5 + 1) (c := l)
  have aL : adN (nwY κ s l) (adY n s l) ad (100 * (s + 1) + 5 + 1 + 1000) = w := by
    rw [e2]
    by_cases g : κ (100 * (s + 1) + 5 + 1) 3 = 0
    · rw [if_pos g, adN_t (nwY_t (Or.inr ⟨rfl, g⟩)), adY_1 hl4]
    · rw [if_neg g, adN_f (nwY_f (fun q => by
        rcases q with q | q
        · omega
        · exact g q.2))]
  have arr : h2 w = cCell (adN (nwY κ s l) (adY n s l) ad) t0 (kY κ k t f s l) (zsetN νc (100 * (s + 1) + 20 + l) 4 0) (100 * (s + 1) + 5 + 1 + 1000) := by
    rw [la_cell a0.2, e5, kY_l, q2, on_n _ (by omega)]
    have e : (fun i => if i < l then some (ad (child (100 * (s + 1) + 5 + 1) i)) else if i = l then some n else none) = (fun i => if i < l + 1 then some (adN (nwY κ s l) (adY n s l) ad (child (100 * (s + 1) + 5 + 1) i)) else none) := by
      funext i
      rw [child_ly (by omega)]
      by_cases g3 : i < l
      · rw [if_pos g3, if_pos (show i < l + 1 by omega), adN_f (nwY_n (by omega) (by omega))]
      · rw [if_neg g3]
        by_cases g4 : i = l
        · subst g4
          rw [if_pos rfl, if_pos (show i < i + 1 by omega), adN_t (nwY_t (Or.inl rfl)), adY_0]
        · rw [if_neg g4, if_neg (show ¬ i < l + 1 by omega)]
    rw [e]
  refine S0_new S (by split <;> omega) (fun o ho => ?_) (fun q o ho hq => ?_) (fun q hq hq2 => ?_) (fun o ho => ?_) (fun o ho hn => ?_) (nwY_n (by omega) (by omega))
  · have ho := of_decide_eq_true ho
    rcases ho with rfl | ⟨rfl, g⟩
    · rw [adY_0, ivY_0]
      exact ⟨rfl, Nat.le_refl _⟩
    · rw [adY_1 hl4, ivY_1 g]
      exact ⟨rfl, by omega⟩
  · unfold ivY at ho
    by_cases c1 : q = n
    · rw [if_pos c1] at ho
      cases ho
      exact ⟨nwY_t (Or.inl rfl), by rw [adY_0, c1], by split <;> omega⟩
    · rw [if_neg c1] at ho
      by_cases c3 : q = n + 1 ∧ κ (100 * (s + 1) + 5 + 1) 3 = 0
      · rw [if_pos c3] at ho
        cases ho
        exact ⟨nwY_t (Or.inr ⟨rfl, c3.2⟩), by rw [adY_1 hl4, c3.1], by rw [if_pos c3.2]; omega⟩
      · rw [if_neg c3] at ho
        cases ho
  · have h2a : q ≠ ad (100 * (s + 1) + 5 + 1) := fun e => hq2 _ (by rw [e]; exact S.1 _ a0.1)
    have hw : q ≠ w := fun e => by
      rw [e2] at e
      by_cases g : κ (100 * (s + 1) + 5 + 1) 3 = 0
      · rw [if_pos g] at e; omega
      · rw [if_neg g] at e
        exact hq2 _ (by rw [e]; exact S.1 _ (gr g))
    exact e3 q h2a hw (by omega)
  · have ho := of_decide_eq_true ho
    rcases ho with rfl | ⟨rfl, g⟩
    · rw [adY_0, e6, s7_cell co7, kY_h, zsetN_h]
      rfl
    · have : adY n s l (100 * (s + 1) + 5 + 1 + 1000) = w := by
        rw [e2, if_pos g, adY_1 hl4]
      rw [this]
      exact arr
  · have hl := S.2.2.2.2.2.2.2.2.2.2 _ _ ho
    have hn := of_decide_eq_false hn
    have hno : o ≠ 100 * (s + 1) + 20 + l := fun q => hn (Or.inl q)
    by_cases c2 : o = 100 * (s + 1) + 5 + 1
    · subst c2
      rw [li_cell a0.2, e4, kY_l, q1, q2, q3, if_neg (by decide), aL]
    · by_cases c3 : o = 100 * (s + 1) + 5 + 1 + 1000
      · subst c3
        have g : ¬ κ (100 * (s + 1) + 5 + 1) 3 = 0 := fun q => hn (Or.inr ⟨rfl, q⟩)
        have : ad (100 * (s + 1) + 5 + 1 + 1000) = w := by rw [e2, if_neg g]
        rw [this]
        exact arr
      · have x1 : ad o ≠ ad (100 * (s + 1) + 5 + 1) := S0_ne S hl a0.1 c2
        have lo := S0_lt S hl
        have x2 : ad o ≠ w := by
          rw [e2]
          by_cases g : κ (100 * (s + 1) + 5 + 1) 3 = 0
          · rw [if_pos g]; omega
          · rw [if_neg g]; exact S0_ne S hl (gr g) c3
        rw [e3 _ x1 x2 (by omega), S0_cell S hl]
        refine (old_c R V hl (kY_o hno c2) (zsetN_o hno) (fun L2 e hL => ?_) (fun L2 i e hL hi => ?_) (fun a1 x hx hcl => ?_)).symm
        · have hL2 := (co_loc (o := L2)).2.2.2.2.2.2.2.2 hL
          rw [kY_o (by omega) (by omega)]
        · have hL2 := (co_loc (o := L2)).2.2.2.2.2.2.2.2 hL
          refine nwY_n ?_ ?_
          · unfold child
            split
            · omega
            · split
              · omega
              · split
                · omega
                · split <;> omega
          · unfold child
            split
            · omega
            · split
              · omega
              · split
                · omega
                · split <;> omega
        · have cl := co_loc (o := o)
          obtain ⟨y1, y2, y3, y4, y5, y6, y7, y8, y9⟩ := cl
          have key : x ≠ 100 * (s + 1) + 20 + l ∧ x ≠ 100 * (s + 1) + 5 + 1 + 1000 := by
            unfold subs at hx
            rcases hx with ⟨z, z2⟩ | ⟨z, z2⟩ | ⟨z, z2⟩ | ⟨z, z2⟩ | ⟨z, z2⟩ | ⟨z, z2⟩ | ⟨z, z2, z3⟩
            · have := y1 z; omega
            · have := y2 z; omega
            · have := y3 z; omega
            · rcases z with z | z | z | z
              · have := y4 z; omega
              · have := y6 z; omega
              · have := y7 z; omega
              · have := y8 z; omega
            · have := y5 z; omega
            · have := y7 z
              by_cases c5 : x = o + 1000
              · omega
              · have := hcl z c5; omega
            · have := y9 z; omega
          exact nwY_n key.1 key.2
end ZXW
