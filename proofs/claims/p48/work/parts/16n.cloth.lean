section ZXN
/-! cloth: the heap behind it -/
variable {ad : Nat → Nat} {iv : Nat → Option Nat} {lv : Nat → Bool} {t0 base : Nat} {ow : zz_H} {κ : zzM} {νc : zzN} {μ : zzM} {ν : zzN} {H : Int} {nS nB nK : Nat} {h : zz_H} {n : Nat}
theorem co_cloth {b : Nat} (hb : b < 4) : co (700 + b) = 1 ∧ cIs (700 + b + 1000) = some (0, 10) := by
  rcases (show b = 0 ∨ b = 1 ∨ b = 2 ∨ b = 3 by omega) with rfl | rfl | rfl | rfl <;> decide
theorem cl_cell {o : Nat} (ho : co o = 1) : cCell ad t0 κ νc o = some (.inr (1, [.int (κ o 0), .int (κ o 1), .ref (ad (o + 1000)), .int (κ o 3), .int (κ o 4)])) := by
  have := co_lt (o := o) (by rw [ho]; decide)
  unfold cCell
  rw [if_pos (by omega), ho, if_neg (by decide)]
  rfl
theorem f_cloth1 (S : S0 ad iv lv t0 base ow κ νc h n) (R : RR lv κ νc μ ν H nS nB nK) (hb : nK < 4) {L r : Nat} (hr1 : f_X9_needRange (Int32.ofNat L) 50 2000 h = some (.inl ())) (hr2 : f_X9_needRange (Int32.ofNat r) 1 60 h = some (.inl ())) : ∃ (h2 : zz_H) (w : Nat) (g1 : zz_H), f_X9_cloth t0 base (Int32.ofNat L) (Int32.ofNat r) h n = some (.inl (Int32.ofNat nK), h2, if κ 3 3 = 0 then n + 3 else n + 2) ∧ w = (if κ 3 3 = 0 then n + 2 else ad 1003) ∧ (∀ q, q ≠ ad 3 → q ≠ w → h2 q = g1 q) ∧ h2 (ad 3) = some (.inr (0, [.int (κ 3 0 + 1), .ref w, .int (Int32.ofNat (nK + 1))])) ∧ h2 w = some (zz_Q 5 10 (fun i => if i < nK then some (ad (child 3 i)) else if i = nK then some n else none)) ∧ (∀ q, q ≠ n → q ≠ n + 1 → g1 q = h q) ∧ g1 n = some (.inr (1, [.int (Int32.ofNat L), .int (Int32.ofNat r), .ref (n + 1), .int 0, .int 0])) ∧ g1 (n + 1) = some (zz_I 0 10 (fun _ => 0)) := by
  have g2 := R.2.1.2.2.1
  have e2 := S0_cell S g2.1.1
  have e2' := e2
  rw [li_cell g2.1.2, g2.2.1] at e2
  have hr : f_X9_needRoom (Int32.ofNat nK) 4 h = some (.inl ()) := by
    unfold f_X9_needRoom
    rw [if_pos (show Int32.ofNat nK < 4 from plt (b := 4) (by omega))]
  have l2 := S0_lt S g2.1.1
  have lb := S0_lt S R.1.1.1
  rw [S.2.2.2.2.2.2.2.2.1] at lb
  have ht := S.2.2.2.2.2.2.2.1
  obtain ⟨g1, e1, o1, y1, y2⟩ := mk0 (t0 := t0) (p := Int32.ofNat L) (q := Int32.ofNat r) (h := zz_u h n (.inr (1, [.int 0, .int 0, .null, .int 0, .int 0]))) (a := n) (n := n + 1) zz_us (by omega)
  have og : ∀ q, q ≠ n → q ≠ n + 1 → g1 q = h q := fun q h1 h2 => by rw [o1 q h1 h2, zz_un h1]
  have gr : ¬ κ 3 3 = 0 → lv 1003 = true := fun g => (g2.2.2.1 (by
    rcases Nat.eq_zero_or_pos nK with q | q
    · exact absurd (g2.2.2.2 q) g
    · exact q)).1
  obtain ⟨h2, w, f1, f2, f3, f4, f5⟩ := li_add (κ := κ) (νc := νc) (ad := ad) (t0 := t0) (L := 3) (c := nK) (v := n) (n := n + 2) (h := g1) (ci := 1) (fs := [.int (Int32.ofNat L), .int (Int32.ofNat r), .ref (n + 1), .int 0, .int 0]) (by decide) g2.2.1 (by omega) (by rw [og _ (by omega) (by omega)]; exact e2') (fun g => by
    have l1 := S0_lt S (gr g)
    show g1 (ad 1003) = cCell ad t0 κ νc 1003
    rw [og _ (by omega) (by omega)]
    exact S0_cell S (gr g)) (fun g => ⟨by
    rcases Nat.eq_zero_or_pos nK with q | q
    · exact q
    · exact absurd g (g2.2.2.1 q).2, by rw [og _ (by omega) (by omega)]; exact S.2.2.2.2.2.2.2.2.2.1, by omega, by omega, by omega⟩) y1 (by decide)
  refine ⟨h2, w, g1, ?_, f2, f3, f4, f5, og, y1, y2⟩
  have eb : g1 base = some (.inr (10, [.ref (ad 1), .ref (ad 2), .ref (ad 3), .ref (ad 4), .ref (ad 5), .ref (ad 6)])) := by rw [og _ (by omega) (by omega)]; exact S0_root S R.1.1
  unfold f_X9_cloth f_Jx4a65c_size_8abf5
  rw [hr1, zth_l, hr2, zth_l, zgq_r (S0_root S R.1.1) rfl, zob_r e2, zgi_r e2 rfl, zb_s, hr, zth_l, zgq_r (S0_root S R.1.1) rfl, e1, zb2_s, show n + 1 + 1 = n + 2 by omega, zob_r (by rw [og (ad 3) (by omega) (by omega)]; exact e2), f1, zb2_s]
  have nw2 : w ≠ base ∧ ad 3 ≠ base := by
    have q0 := S.2.2.2.2.2.2.2.2.1
    refine ⟨?_, ?_⟩
    · rw [f2]
      by_cases g : κ 3 3 = 0
      · rw [if_pos g]; omega
      · rw [if_neg g, ← q0]; exact S0_ne S (gr g) R.1.1.1 (by decide)
    · rw [← q0]; exact S0_ne S g2.1.1 R.1.1.1 (by decide)
  have eb2 : h2 base = some (.inr (10, [.ref (ad 1), .ref (ad 2), .ref (ad 3), .ref (ad 4), .ref (ad 5), .ref (ad 6)])) := by rw [f3 _ nw2.2.symm nw2.1.symm]; exact eb
  rw [zgq_r eb2 rfl, zob_r f4, zgi_r f4 rfl, zb_s, on_p _ (by omega), Nat.add_sub_cancel]
def nwC (κ : zzM) (b x : Nat) : Bool := decide (x = 700 + b ∨ x = 700 + b + 1000 ∨ (x = 1003 ∧ κ 3 3 = 0))
def adC (n b x : Nat) : Nat := if x = 700 + b then n else if x = 700 + b + 1000 then n + 1 else n + 2
def ivC (κ : zzM) (n b q : Nat) : Option Nat := if q = n then some (700 + b) else if q = n + 1 then some (700 + b + 1000) else if q = n + 2 ∧ κ 3 3 = 0 then some 1003 else none
def kC (κ : zzM) (L r b : Nat) : zzM := fun o => if o = 700 + b + 1000 then (fun _ => 0) else if o = 700 + b then (fun i => if i = 0 then Int32.ofNat L else if i = 1 then Int32.ofNat r else 0) else kLi κ 3 b o
theorem nwC_f {b x : Nat} (h : ¬ (x = 700 + b ∨ x = 700 + b + 1000 ∨ (x = 1003 ∧ κ 3 3 = 0))) : nwC κ b x = false := decide_eq_false h
theorem nwC_t {b x : Nat} (h : x = 700 + b ∨ x = 700 + b + 1000 ∨ (x = 1003 ∧ κ 3 3 = 0)) : nwC κ b x = true := decide_eq_true h
theorem adC_0 {b : Nat} : adC n b (700 + b) = n := if_pos rfl
theorem adC_1 {b : Nat} : adC n b (700 + b + 1000) = n + 1 := by
  unfold adC
  rw [if_neg (show ¬ 700 + b + 1000 = 700 + b by omega), if_pos rfl]
theorem adC_2 {b : Nat} (hb : b < 4) : adC n b 1003 = n + 2 := by
  unfold adC
  rw [if_neg (show ¬ 1003 = 700 + b by omega), if_neg (show ¬ 1003 = 700 + b + 1000 by omega)]
theorem ivC_0 {b : Nat} : ivC κ n b n = some (700 + b) := if_pos rfl
theorem ivC_1 {b : Nat} : ivC κ n b (n + 1) = some (700 + b + 1000) := by
  unfold ivC
  rw [if_neg (show ¬ n + 1 = n by omega), if_pos rfl]
theorem ivC_2 {b : Nat} (g : κ 3 3 = 0) : ivC κ n b (n + 2) = some 1003 := by
  unfold ivC
  rw [if_neg (show ¬ n + 2 = n by omega), if_neg (show ¬ n + 2 = n + 1 by omega), if_pos ⟨rfl, g⟩]
theorem S0_cloth (S : S0 ad iv lv t0 base ow κ νc h n) (R : RR lv κ νc μ ν H nS nB nK) (V : LV lv nS) (hb : nK < 4) {L r : Nat} (hr1 : f_X9_needRange (Int32.ofNat L) 50 2000 h = some (.inl ())) (hr2 : f_X9_needRange (Int32.ofNat r) 1 60 h = some (.inl ())) : ∃ (h2 : zz_H), f_X9_cloth t0 base (Int32.ofNat L) (Int32.ofNat r) h n = some (.inl (Int32.ofNat nK), h2, if κ 3 3 = 0 then n + 3 else n + 2) ∧ S0 (adN (nwC κ nK) (adC n nK) ad) (ivN n (nwC κ nK) (ivC κ n nK) iv) (lvN (nwC κ nK) lv) t0 base ow (kC κ L r nK) νc h2 (if κ 3 3 = 0 then n + 3 else n + 2) := by
  obtain ⟨h2, w, g1, e1, e2, e3, e4, e5, e6, e7, e8⟩ := f_cloth1 S R hb hr1 hr2
  refine ⟨h2, e1, ?_⟩
  have g2 := R.2.1.2.2.1
  have l2 := S0_lt S g2.1.1
  have b4 := R.1.2.1
  have k4 := R.1.2.2.2.1
  have gr : ¬ κ 3 3 = 0 → lv 1003 = true := fun g => (g2.2.2.1 (by
    rcases Nat.eq_zero_or_pos nK with q | q
    · exact absurd (g2.2.2.2 q) g
    · exact q)).1
  have wn : w ≠ n ∧ w ≠ n + 1 := by
    rw [e2]
    by_cases g : κ 3 3 = 0
    · rw [if_pos g]; omega
    · rw [if_neg g]; have := S0_lt S (gr g); omega
  have kb2 : kC κ L r nK 3 = kLi κ 3 nK 3 := by
    unfold kC
    rw [if_neg (by omega), if_neg (by omega)]
  have kbo : ∀ o, o ≠ 3 → o ≠ 700 + nK + 1000 → o ≠ 700 + nK → kC κ L r nK o = κ o := fun o h1 h2 h3 => by
    unfold kC
    rw [if_neg h2, if_neg h3, kLi_o h1]
  obtain ⟨q1, q2, q3⟩ := kLi_h (κ := κ) (L := 3) (c := nK)
  have a1003 : adN (nwC κ nK) (adC n nK) ad 1003 = w := by
    rw [e2]
    by_cases g : κ 3 3 = 0
    · rw [if_pos g, adN_t (nwC_t (Or.inr (Or.inr ⟨rfl, g⟩))), adC_2 hb]
    · rw [if_neg g, adN_f (nwC_f (fun q => by
        rcases q with q | q | q
        · omega
        · omega
        · exact g q.2))]
  have arr : h2 w = cCell (adN (nwC κ nK) (adC n nK) ad) t0 (kC κ L r nK) νc (3 + 1000) := by
    rw [la_cell (by decide), e5, kb2, q2, on_n _ (by omega)]
    have e : (fun i => if i < nK then some (ad (child 3 i)) else if i = nK then some n else none) = (fun i => if i < nK + 1 then some (adN (nwC κ nK) (adC n nK) ad (child 3 i)) else none) := by
      funext i
      have ch : child 3 i = 700 + i := rfl
      rw [ch]
      by_cases g3 : i < nK
      · rw [if_pos g3, if_pos (show i < nK + 1 by omega), adN_f (nwC_f (by omega))]
      · rw [if_neg g3]
        by_cases g4 : i = nK
        · subst g4
          rw [if_pos rfl, if_pos (show i < i + 1 by omega), adN_t (nwC_t (Or.inl rfl)), adC_0]
        · rw [if_neg g4, if_neg (show ¬ i < nK + 1 by omega)]
    rw [e]
  refine S0_new S (by split <;> omega) (fun o ho => ?_) (fun q o ho hq => ?_) (fun q hq hq2 => ?_) (fun o ho => ?_) (fun o ho hn => ?_) (nwC_f (by omega))
  · have ho := of_decide_eq_true ho
    rcases ho with rfl | rfl | ⟨rfl, g⟩
    · rw [adC_0, ivC_0]
      exact ⟨rfl, Nat.le_refl _⟩
    · rw [adC_1, ivC_1]
      exact ⟨rfl, by omega⟩
    · rw [adC_2 hb, ivC_2 g]
      exact ⟨rfl, by omega⟩
  · unfold ivC at ho
    by_cases c1 : q = n
    · rw [if_pos c1] at ho
      cases ho
      exact ⟨nwC_t (Or.inl rfl), by rw [adC_0, c1], by split <;> omega⟩
    · rw [if_neg c1] at ho
      by_cases c2 : q = n + 1
      · rw [if_pos c2] at ho
        cases ho
        exact ⟨nwC_t (Or.inr (Or.inl rfl)), by rw [adC_1, c2], by split <;> omega⟩
      · rw [if_neg c2] at ho
        by_cases c3 : q = n + 2 ∧ κ 3 3 = 0
        · rw [if_pos c3] at ho
          cases ho
          exact ⟨nwC_t (Or.inr (Or.inr ⟨rfl, c3.2⟩)), by rw [adC_2 hb, c3.1], by rw [if_pos c3.2]; omega⟩
        · rw [if_neg c3] at ho
          cases ho
  · have h2a : q ≠ ad 3 := fun e => hq2 3 (by rw [e]; exact S.1 3 g2.1.1)
    have hw : q ≠ w := fun e => by
      rw [e2] at e
      by_cases g : κ 3 3 = 0
      · rw [if_pos g] at e; omega
      · rw [if_neg g] at e
        exact hq2 1003 (by rw [e]; exact S.1 1003 (gr g))
    rw [e3 q h2a hw, e6 q (by omega) (by omega)]
  · have ho := of_decide_eq_true ho
    rcases ho with rfl | rfl | ⟨rfl, g⟩
    · have ea : adN (nwC κ nK) (adC n nK) ad (700 + nK + 1000) = n + 1 := by
        rw [adN_t (nwC_t (Or.inr (Or.inl rfl))), adC_1]
      have kz : kC κ L r nK (700 + nK) = fun i => if i = 0 then Int32.ofNat L else if i = 1 then Int32.ofNat r else 0 := by
        unfold kC
        rw [if_neg (by omega), if_pos rfl]
      rw [cl_cell (co_cloth hb).1, ea, kz, adC_0, e3 n (by omega) wn.1.symm]
      exact e7
    · rw [ar_cell (by omega) (co_cloth hb).2]
      have kz : kC κ L r nK (700 + nK + 1000) = fun _ => 0 := if_pos rfl
      rw [kz, adC_1, e3 (n + 1) (by omega) wn.2.symm]
      exact e8
    · have : adC n nK 1003 = w := by
        rw [e2, if_pos g, adC_2 hb]
      rw [this]
      exact arr
  · have hl := S.2.2.2.2.2.2.2.2.2.2 _ _ ho
    have hn := of_decide_eq_false hn
    by_cases c2 : o = 3
    · subst c2
      rw [li_cell (by decide), e4, kb2, q1, q2, q3, if_neg (by decide), a1003]
    · by_cases c3 : o = 1003
      · subst c3
        have g : ¬ κ 3 3 = 0 := fun q => hn (Or.inr (Or.inr ⟨rfl, q⟩))
        have : ad 1003 = w := by rw [e2, if_neg g]
        rw [this]
        exact arr
      · have x1 : ad o ≠ ad 3 := S0_ne S hl g2.1.1 c2
        have lo := S0_lt S hl
        have x2 : ad o ≠ w := by
          rw [e2]
          by_cases g : κ 3 3 = 0
          · rw [if_pos g]; omega
          · rw [if_neg g]; exact S0_ne S hl (gr g) c3
        rw [e3 _ x1 x2, e6 _ (by omega) (by omega), S0_cell S hl]
        refine (old_c R V hl (kbo o c2 (by omega) (by omega)) rfl (fun L2 e hL => ?_) (fun L2 i e hL hi => ?_) (fun a1 x hx hcl => ?_)).symm
        · have := (co_loc (o := L2)).2.2.2.2.2.2.2.2 hL
          rw [kbo L2 (by omega) (by omega) (by omega)]
        · have hL2 := (co_loc (o := L2)).2.2.2.2.2.2.2.2 hL
          refine nwC_f ?_
          unfold child
          split
          · omega
          · split
            · omega
            · split
              · omega
              · split <;> omega
        · refine nwC_f ?_
          have cl := co_loc (o := o)
          obtain ⟨y1, y2, y3, y4, y5, y6, y7, y8, y9⟩ := cl
          unfold subs at hx
          rcases hx with ⟨z, z2⟩ | ⟨z, z2⟩ | ⟨z, z2⟩ | ⟨z, z2⟩ | ⟨z, z2⟩ | ⟨z, z2⟩ | ⟨z, z2, z3⟩
          · have := y1 z; omega
          · have := y2 z; omega
          · have := y3 z; omega
          · rcases z with z | z | z | z
            · have := y4 z; omega
            · have := y6 z; omega
            · have := y7 z; omega
            · have := y8 z; omega
          · have := y5 z; omega
          · have := y7 z
            by_cases c5 : x = o + 1000
            · omega
            · have := hcl z c5; omega
          · have := y9 z; omega
end ZXN
