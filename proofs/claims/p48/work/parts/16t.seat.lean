section ZXT
/-! seat: the heap behind it -/
variable {ad : Nat → Nat} {iv : Nat → Option Nat} {lv : Nat → Bool} {t0 base : Nat} {ow : zz_H} {κ : zzM} {νc : zzN} {μ : zzM} {ν : zzN} {H : Int} {nS nB nK : Nat} {h : zz_H} {n : Nat}
theorem nwS_t {b x : Nat} (h : (100 * (b + 1) ≤ x ∧ soff (x - 100 * (b + 1)) < 16) ∨ (x = 1001 ∧ κ 1 3 = 0)) : nwS κ b x = true := decide_eq_true h
theorem nwS_f {b x : Nat} (h : ¬ ((100 * (b + 1) ≤ x ∧ soff (x - 100 * (b + 1)) < 16) ∨ (x = 1001 ∧ κ 1 3 = 0))) : nwS κ b x = false := decide_eq_false h
theorem soff_FK {b x : Nat} (h1 : 100 * (b + 1) ≤ x) (h2 : soff (x - 100 * (b + 1)) < 16) : FK (100 * (b + 1)) x := by
  have e := sid_soff h2
  generalize soff (x - 100 * (b + 1)) = k at h2 e
  have key : ∀ k, k < 16 → sid k < 100 ∨ (1000 ≤ sid k ∧ sid k < 1100) ∨ (2000 ≤ sid k ∧ sid k < 2100) := by decide +kernel
  have := key k h2
  unfold FK
  omega
theorem nwS_n {b x : Nat} (h : ¬ FK (100 * (b + 1)) x) (h2 : x ≠ 1001) : nwS κ b x = false := nwS_f (fun q => by
  rcases q with q | q
  · exact h (soff_FK q.1 q.2)
  · exact h2 q.1)
theorem adS_k {b k : Nat} (hb : b < 4) (hk : k < 16) : adS n b (100 * (b + 1) + sid k) = n + k ∧ nwS κ b (100 * (b + 1) + sid k) = true := by
  have e := (soff_sid hk).1
  have h1 : 100 * (b + 1) + sid k ≠ 1001 := fun q => by
    have e1 : sid k = 901 - 100 * b := by omega
    rw [e1] at e
    rcases (show b = 0 ∨ b = 1 ∨ b = 2 ∨ b = 3 by omega) with rfl | rfl | rfl | rfl
    · have : soff (901 - 100 * 0) = 99 := rfl
      omega
    · have : soff (901 - 100 * 1) = 99 := rfl
      omega
    · have : soff (901 - 100 * 2) = 99 := rfl
      omega
    · have : soff (901 - 100 * 3) = 99 := rfl
      omega
  refine ⟨?_, nwS_t (Or.inl ⟨Nat.le_add_right _ _, by rw [Nat.add_sub_cancel_left, e]; exact hk⟩)⟩
  unfold adS
  rw [if_neg h1, Nat.add_sub_cancel_left, e]
theorem nwS_c {b o : Nat} (h : nwS κ b o = true) : (∃ k, k < 16 ∧ o = 100 * (b + 1) + sid k) ∨ (o = 1001 ∧ κ 1 3 = 0) := by
  rcases of_decide_eq_true h with ⟨h1, h2⟩ | h1
  · exact Or.inl ⟨_, h2, by rw [sid_soff h2]; omega⟩
  · exact Or.inr h1
theorem S0_seat (S : S0 ad iv lv t0 base ow κ νc h n) (R : RR lv κ νc μ ν H nS nB nK) (V : LV lv nS) (hb : nS < 4) {p q : Int32} (hr1 : f_X9_needRange p 1 6 h = some (.inl ())) (hr2 : f_X9_needRange q 1 6 h = some (.inl ())) : ∃ (h2 : zz_H), f_X9_seat t0 base p q h n = some (.inl (Int32.ofNat nS), h2, if κ 1 3 = 0 then n + 17 else n + 16) ∧ S0 (adN (nwS κ nS) (adS n nS) ad) (ivN n (nwS κ nS) (ivS κ n nS) iv) (lvN (nwS κ nS) lv) t0 base ow (kS κ p q nS) νc h2 (if κ 1 3 = 0 then n + 17 else n + 16) := by
  obtain ⟨h2, w, g1, e1, e2, e3, e4, e5, e6, c0, c1, c2, c3, c4, c5, c6, c7, c8, c9, c10, c11, c12, c13, c14, c15⟩ := f_seat1 S R hb hr1 hr2
  refine ⟨h2, e1, ?_⟩
  have g2 := R.2.1.1
  have l2 := S0_lt S g2.1.1
  have k4 := R.1.2.2.2.1
  have gr : ¬ κ 1 3 = 0 → lv 1001 = true := fun g => (g2.2.2.1 (by
    rcases Nat.eq_zero_or_pos nS with q | q
    · exact absurd (g2.2.2.2 q) g
    · exact q)).1
  have wn : w < n ∨ w = n + 16 := by
    rw [e2]
    by_cases g : κ 1 3 = 0
    · rw [if_pos g]; omega
    · rw [if_neg g]; have := S0_lt S (gr g); omega
  have kno : ∀ o, ¬ FK (100 * (nS + 1)) o → kS κ p q nS o = kLi κ 1 nS o := fun o ho => by
    unfold kS
    rw [if_neg (fun q => ho (soff_FK q.1 q.2))]
  have kb2 : kS κ p q nS 1 = kLi κ 1 nS 1 := kno 1 (by unfold FK; omega)
  have kbo : ∀ o, o ≠ 1 → nwS κ nS o = false → kS κ p q nS o = κ o := fun o h1 h2 => by
    have := of_decide_eq_false h2
    unfold kS
    rw [if_neg (fun q => this (Or.inl q)), kLi_o h1]
  obtain ⟨q1, q2, q3⟩ := kLi_h (κ := κ) (L := 1) (c := nS)
  have n1001 : ¬ κ 1 3 = 0 → nwS κ nS 1001 = false := fun g => nwS_f (fun q => by
    rcases q with q | q
    · have := soff_FK q.1 q.2
      unfold FK at this
      omega
    · exact g q.2)
  have a1002 : adN (nwS κ nS) (adS n nS) ad 1001 = w := by
    rw [e2]
    by_cases g : κ 1 3 = 0
    · rw [if_pos g, adN_t (nwS_t (Or.inr ⟨rfl, g⟩))]
      exact if_pos rfl
    · rw [if_neg g, adN_f (n1001 g)]
  have arr : h2 w = cCell (adN (nwS κ nS) (adS n nS) ad) t0 (kS κ p q nS) νc (1 + 1000) := by
    rw [la_cell (by decide), e5, kb2, q2, on_n _ (by omega)]
    have e : (fun i => if i < nS then some (ad (child 1 i)) else if i = nS then some n else none) = (fun i => if i < nS + 1 then some (adN (nwS κ nS) (adS n nS) ad (child 1 i)) else none) := by
      funext i
      have ch : child 1 i = 100 * (i + 1) := rfl
      rw [ch]
      by_cases g3 : i < nS
      · rw [if_pos g3, if_pos (show i < nS + 1 by omega), adN_f (nwS_n (by unfold FK; omega) (by omega))]
      · rw [if_neg g3]
        by_cases g4 : i = nS
        · subst g4
          have ak := adS_k (κ := κ) (n := n) (b := i) (k := 0) hb (by decide)
          have e0 : 100 * (i + 1) + sid 0 = 100 * (i + 1) := rfl
          rw [e0] at ak
          rw [if_pos rfl, if_pos (show i < i + 1 by omega), adN_t ak.2, ak.1]
          rfl
        · rw [if_neg g4, if_neg (show ¬ i < nS + 1 by omega)]
    rw [e]
  have new : ∀ k, k < 16 → h2 (n + k) = g1 (n + k) := fun k hk => e3 _ (by omega) (by omega)
  refine S0_new S (by split <;> omega) (fun o ho => ?_) (fun q o ho hq => ?_) (fun q hq hq2 => ?_) (fun o ho => ?_) (fun o ho hn => ?_) (nwS_n (by unfold FK; omega) (by omega))
  · rcases nwS_c ho with ⟨k, hk, rfl⟩ | ⟨rfl, g⟩
    · rw [(adS_k (κ := κ) hb hk).1]
      refine ⟨?_, by omega⟩
      unfold ivS
      rw [if_pos (by omega), Nat.add_sub_cancel_left]
    · have e0 : adS n nS 1001 = n + 16 := if_pos rfl
      rw [e0]
      refine ⟨?_, by omega⟩
      unfold ivS
      rw [if_neg (by omega), if_pos ⟨rfl, g⟩]
  · unfold ivS at ho
    by_cases c1 : n ≤ q ∧ q < n + 16
    · rw [if_pos c1] at ho
      cases ho
      have ak := adS_k (κ := κ) (n := n) (k := q - n) hb (by omega)
      exact ⟨ak.2, by rw [ak.1]; omega, by split <;> omega⟩
    · rw [if_neg c1] at ho
      by_cases c3 : q = n + 16 ∧ κ 1 3 = 0
      · rw [if_pos c3] at ho
        cases ho
        exact ⟨nwS_t (Or.inr ⟨rfl, c3.2⟩), by rw [c3.1]; exact if_pos rfl, by rw [if_pos c3.2]; omega⟩
      · rw [if_neg c3] at ho
        cases ho
  · have h2a : q ≠ ad 1 := fun e => hq2 1 (by rw [e]; exact S.1 1 g2.1.1)
    have hw : q ≠ w := fun e => by
      rw [e2] at e
      by_cases g : κ 1 3 = 0
      · rw [if_pos g] at e; omega
      · rw [if_neg g] at e
        exact hq2 1001 (by rw [e]; exact S.1 1001 (gr g))
    rw [e3 q h2a hw, e6 q (by omega)]
  · rcases nwS_c ho with ⟨k, hk, rfl⟩ | ⟨rfl, g⟩
    · rw [(adS_k (κ := κ) hb hk).1, new k hk]
      rcases (show k = 0 ∨ k = 1 ∨ k = 2 ∨ k = 3 ∨ k = 4 ∨ k = 5 ∨ k = 6 ∨ k = 7 ∨ k = 8 ∨ k = 9 ∨ k = 10 ∨ k = 11 ∨ k = 12 ∨ k = 13 ∨ k = 14 ∨ k = 15 by omega) with rfl | rfl | rfl | rfl | rfl | rfl | rfl | rfl | rfl | rfl | rfl | rfl | rfl | rfl | rfl | rfl
      · exact c0.trans (ns_0 hb).symm
      · exact c1.trans (ns_1 hb).symm
      · exact c2.trans (ns_2 hb).symm
      · exact c3.trans (ns_3 hb).symm
      · exact c4.trans (ns_4 hb).symm
      · exact c5.trans (ns_5 hb).symm
      · exact c6.trans (ns_6 hb).symm
      · exact c7.trans (ns_7 hb).symm
      · exact c8.trans (ns_8 hb).symm
      · exact c9.trans (ns_9 hb).symm
      · exact c10.trans (ns_10 hb).symm
      · exact c11.trans (ns_11 hb).symm
      · exact c12.trans (ns_12 hb).symm
      · exact c13.trans (ns_13 hb).symm
      · exact c14.trans (ns_14 hb).symm
      · exact c15.trans (ns_15 hb).symm
    · have : adS n nS 1001 = w := by
        rw [e2, if_pos g]
        exact if_pos rfl
      rw [this]
      exact arr
  · have hl := S.2.2.2.2.2.2.2.2.2.2 _ _ ho
    by_cases c2 : o = 1
    · subst c2
      rw [li_cell (by decide), e4, kb2, q1, q2, q3, if_neg (by decide), a1002]
    · by_cases c3 : o = 1001
      · subst c3
        have g : ¬ κ 1 3 = 0 := fun q => by
          rw [nwS_t (Or.inr ⟨rfl, q⟩)] at hn
          cases hn
        have : ad 1001 = w := by rw [e2, if_neg g]
        rw [this]
        exact arr
      · have x1 : ad o ≠ ad 1 := S0_ne S hl g2.1.1 c2
        have lo := S0_lt S hl
        have x2 : ad o ≠ w := by
          rw [e2]
          by_cases g : κ 1 3 = 0
          · rw [if_pos g]; omega
          · rw [if_neg g]; exact S0_ne S hl (gr g) c3
        have nf : ¬ FK (100 * (nS + 1)) o := fun q => by
          rw [V nS (Nat.le_refl _) hb o q] at hl
          cases hl
        rw [e3 _ x1 x2, e6 _ (by omega), S0_cell S hl]
        refine (old_c R V hl (kbo o c2 hn) rfl (fun L2 e hL => ?_) (fun L2 i e hL hi => ?_) (fun a1 x hx hcl => ?_)).symm
        · have hL2 := (co_loc (o := L2)).2.2.2.2.2.2.2.2 hL
          rw [kno L2 (by unfold FK at nf ⊢; omega), kLi_o (by omega)]
        · have hL2 := (co_loc (o := L2)).2.2.2.2.2.2.2.2 hL
          unfold FK at nf
          refine nwS_n ?_ ?_
          · unfold child FK
            split
            · omega
            · split
              · omega
              · split
                · omega
                · split <;> omega
          · unfold child
            split
            · omega
            · split
              · omega
              · split
                · omega
                · split <;> omega
        · unfold FK at nf
          have cl := co_loc (o := o)
          obtain ⟨y1, y2, y3, y4, y5, y6, y7, y8, y9⟩ := cl
          have key : ¬ ((100 * (nS + 1) ≤ x ∧ x < 100 * (nS + 1) + 100) ∨ (100 * (nS + 1) + 1000 ≤ x ∧ x < 100 * (nS + 1) + 1100) ∨ (100 * (nS + 1) + 2000 ≤ x ∧ x < 100 * (nS + 1) + 2100)) ∧ x ≠ 1001 := by
            unfold subs at hx
            rcases hx with ⟨z, z2⟩ | ⟨z, z2⟩ | ⟨z, z2⟩ | ⟨z, z2⟩ | ⟨z, z2⟩ | ⟨z, z2⟩ | ⟨z, z2, z3⟩
            · have := y1 z; omega
            · have := y2 z; omega
            · have := y3 z; omega
            · rcases z with z | z | z | z
              · have := y4 z; omega
              · have := y6 z; omega
              · have := y7 z; omega
              · have := y8 z; omega
            · have := y5 z; omega
            · have := y7 z
              by_cases c5 : x = o + 1000
              · omega
              · have := hcl z c5; omega
            · have := y9 z; omega
          exact nwS_n key.1 key.2
end ZXT
