section ZXL
/-! body: the whole case -/
variable {ad : Nat → Nat} {iv : Nat → Option Nat} {lv : Nat → Bool} {t0 base am ao an : Nat} {κ : zzM} {νc : zzN} {μ : zzM} {ν : zzN} {H : Int} {nS nB nK : Nat} {h : zz_H} {n : Nat}
def nwB (κ : zzM) (b x : Nat) : Bool := decide (x = 600 + b ∨ x = 600 + b + 1000 ∨ (x = 1002 ∧ κ 2 3 = 0))
def adB (n b x : Nat) : Nat := if x = 600 + b then n else if x = 600 + b + 1000 then n + 1 else n + 2
def ivB (κ : zzM) (n b q : Nat) : Option Nat := if q = n then some (600 + b) else if q = n + 1 then some (600 + b + 1000) else if q = n + 2 ∧ κ 2 3 = 0 then some 1002 else none
def kB (κ : zzM) (b : Nat) : zzM := fun o => if o = 600 + b + 1000 then (fun _ => 0) else kLi κ 2 b o
theorem nwB_f {b x : Nat} (h : ¬ (x = 600 + b ∨ x = 600 + b + 1000 ∨ (x = 1002 ∧ κ 2 3 = 0))) : nwB κ b x = false := decide_eq_false h
theorem nwB_t {b x : Nat} (h : x = 600 + b ∨ x = 600 + b + 1000 ∨ (x = 1002 ∧ κ 2 3 = 0)) : nwB κ b x = true := decide_eq_true h
theorem adB_0 {b : Nat} : adB n b (600 + b) = n := if_pos rfl
theorem adB_1 {b : Nat} : adB n b (600 + b + 1000) = n + 1 := by
  unfold adB
  rw [if_neg (show ¬ 600 + b + 1000 = 600 + b by omega), if_pos rfl]
theorem adB_2 {b : Nat} (hb : b < 3) : adB n b 1002 = n + 2 := by
  unfold adB
  rw [if_neg (show ¬ 1002 = 600 + b by omega), if_neg (show ¬ 1002 = 600 + b + 1000 by omega)]
theorem ivB_0 {b : Nat} : ivB κ n b n = some (600 + b) := if_pos rfl
theorem ivB_1 {b : Nat} : ivB κ n b (n + 1) = some (600 + b + 1000) := by
  unfold ivB
  rw [if_neg (show ¬ n + 1 = n by omega), if_pos rfl]
theorem ivB_2 {b : Nat} (g : κ 2 3 = 0) : ivB κ n b (n + 2) = some 1002 := by
  unfold ivB
  rw [if_neg (show ¬ n + 2 = n by omega), if_neg (show ¬ n + 2 = n + 1 by omega), if_pos ⟨rfl, g⟩]
theorem adN_t {nw : Nat → Bool} {ad2 ad : Nat → Nat} {x : Nat} (h : nw x = true) : adN nw ad2 ad x = ad2 x := if_pos h
theorem adN_f {nw : Nat → Bool} {ad2 ad : Nat → Nat} {x : Nat} (h : nw x = false) : adN nw ad2 ad x = ad x := if_neg (by rw [h]; decide)
theorem S0_body (S : S0 ad iv lv t0 base am ao an κ νc μ ν h n) (R : RR lv κ νc μ ν H nS nB nK) (V : LV lv nS) (hb : nB < 3) : ∃ (h2 : zz_H), f_X9_body t0 base h n = some (.inl (Int32.ofNat nB), h2, if κ 2 3 = 0 then n + 3 else n + 2) ∧ S0 (adN (nwB κ nB) (adB n nB) ad) (ivN n (nwB κ nB) (ivB κ n nB) iv) (lvN (nwB κ nB) lv) t0 base am ao an (kB κ nB) νc μ ν h2 (if κ 2 3 = 0 then n + 3 else n + 2) := by
  obtain ⟨h2, w, g1, e1, e2, e3, e4, e5, e6, e7, e8⟩ := f_body1 S R hb
  refine ⟨h2, e1, ?_⟩
  have g2 := R.2.1.2.1
  have l2 := S0_lt S g2.1.1
  have b4 := R.1.2.1
  have k4 := R.1.2.2.2.1
  have gr : ¬ κ 2 3 = 0 → lv 1002 = true := fun g => (g2.2.2.1 (by
    rcases Nat.eq_zero_or_pos nB with q | q
    · exact absurd (g2.2.2.2 q) g
    · exact q)).1
  have wn : w ≠ n ∧ w ≠ n + 1 := by
    rw [e2]
    by_cases g : κ 2 3 = 0
    · rw [if_pos g]; omega
    · rw [if_neg g]; have := S0_lt S (gr g); omega
  have kb2 : kB κ nB 2 = kLi κ 2 nB 2 := if_neg (by omega)
  have kbo : ∀ o, o ≠ 2 → o ≠ 600 + nB + 1000 → kB κ nB o = κ o := fun o h1 h2 => by
    show (if o = 600 + nB + 1000 then (fun _ => 0) else kLi κ 2 nB o) = κ o
    rw [if_neg h2, kLi_o h1]
  obtain ⟨q1, q2, q3⟩ := kLi_h (κ := κ) (L := 2) (c := nB)
  have a1002 : adN (nwB κ nB) (adB n nB) ad 1002 = w := by
    rw [e2]
    by_cases g : κ 2 3 = 0
    · rw [if_pos g, adN_t (nwB_t (Or.inr (Or.inr ⟨rfl, g⟩))), adB_2 hb]
    · rw [if_neg g, adN_f (nwB_f (fun q => by
        rcases q with q | q | q
        · omega
        · omega
        · exact g q.2))]
  have arr : h2 w = cCell (adN (nwB κ nB) (adB n nB) ad) t0 (kB κ nB) νc (2 + 1000) := by
    rw [la_cell (by decide), e5, kb2, q2, on_n _ (by omega)]
    have e : (fun i => if i < nB then some (ad (child 2 i)) else if i = nB then some n else none) = (fun i => if i < nB + 1 then some (adN (nwB κ nB) (adB n nB) ad (child 2 i)) else none) := by
      funext i
      have ch : child 2 i = 600 + i := rfl
      rw [ch]
      by_cases g3 : i < nB
      · rw [if_pos g3, if_pos (show i < nB + 1 by omega), adN_f (nwB_f (by omega))]
      · rw [if_neg g3]
        by_cases g4 : i = nB
        · subst g4
          rw [if_pos rfl, if_pos (show i < i + 1 by omega), adN_t (nwB_t (Or.inl rfl)), adB_0]
        · rw [if_neg g4, if_neg (show ¬ i < nB + 1 by omega)]
    rw [e]
  refine S0_new S (by split <;> omega) (fun o ho => ?_) (fun q o ho hq => ?_) (fun q hq hq2 => ?_) (fun o ho => ?_) (fun o ho hn => ?_) (nwB_f (by omega))
  · have ho := of_decide_eq_true ho
    rcases ho with rfl | rfl | ⟨rfl, g⟩
    · rw [adB_0, ivB_0]
      exact ⟨rfl, Nat.le_refl _⟩
    · rw [adB_1, ivB_1]
      exact ⟨rfl, by omega⟩
    · rw [adB_2 hb, ivB_2 g]
      exact ⟨rfl, by omega⟩
  · unfold ivB at ho
    by_cases c1 : q = n
    · rw [if_pos c1] at ho
      cases ho
      exact ⟨nwB_t (Or.inl rfl), by rw [adB_0, c1], by split <;> omega⟩
    · rw [if_neg c1] at ho
      by_cases c2 : q = n + 1
      · rw [if_pos c2] at ho
        cases ho
        exact ⟨nwB_t (Or.inr (Or.inl rfl)), by rw [adB_1, c2], by split <;> omega⟩
      · rw [if_neg c2] at ho
        by_cases c3 : q = n + 2 ∧ κ 2 3 = 0
        · rw [if_pos c3] at ho
          cases ho
          exact ⟨nwB_t (Or.inr (Or.inr ⟨rfl, c3.2⟩)), by rw [adB_2 hb, c3.1], by rw [if_pos c3.2]; omega⟩
        · rw [if_neg c3] at ho
          cases ho
  · have h2a : q ≠ ad 2 := fun e => hq2 2 (by rw [e]; exact S.1 2 g2.1.1)
    have hw : q ≠ w := fun e => by
      rw [e2] at e
      by_cases g : κ 2 3 = 0
      · rw [if_pos g] at e; omega
      · rw [if_neg g] at e
        exact hq2 1002 (by rw [e]; exact S.1 1002 (gr g))
    rw [e3 q h2a hw, e6 q (by omega) (by omega)]
  · have ho := of_decide_eq_true ho
    rcases ho with rfl | rfl | ⟨rfl, g⟩
    · have ea : adN (nwB κ nB) (adB n nB) ad (600 + nB + 1000) = n + 1 := by
        rw [adN_t (nwB_t (Or.inr (Or.inl rfl))), adB_1]
      rw [gr_cell (co_body hb).1, ea, adB_0, e3 n (by omega) wn.1.symm]
      exact e7
    · rw [ar_cell (by omega) (co_body hb).2]
      have kz : kB κ nB (600 + nB + 1000) = fun _ => 0 := if_pos rfl
      rw [kz, adB_1, e3 (n + 1) (by omega) wn.2.symm]
      exact e8
    · have : adB n nB 1002 = w := by
        rw [e2, if_pos g, adB_2 hb]
      rw [this]
      exact arr
  · have hl := S.2.2.2.2.2.2.2.2.2.2 _ _ ho
    have hn := of_decide_eq_false hn
    by_cases c2 : o = 2
    · subst c2
      rw [li_cell (by decide), e4, kb2, q1, q2, q3, if_neg (by decide), a1002]
    · by_cases c3 : o = 1002
      · subst c3
        have g : ¬ κ 2 3 = 0 := fun q => hn (Or.inr (Or.inr ⟨rfl, q⟩))
        have : ad 1002 = w := by rw [e2, if_neg g]
        rw [this]
        exact arr
      · have x1 : ad o ≠ ad 2 := S0_ne S hl g2.1.1 c2
        have lo := S0_lt S hl
        have x2 : ad o ≠ w := by
          rw [e2]
          by_cases g : κ 2 3 = 0
          · rw [if_pos g]; omega
          · rw [if_neg g]; exact S0_ne S hl (gr g) c3
        rw [e3 _ x1 x2, e6 _ (by omega) (by omega), S0_cell S hl]
        refine (old_c R V hl (kbo o c2 (by omega)) rfl (fun L e hL => ?_) (fun L i e hL hi => ?_) (fun a1 x hx hcl => ?_)).symm
        · have := (co_loc (o := L)).2.2.2.2.2.2.2.2 hL
          rw [kbo L (by omega) (by omega)]
        · have hL2 := (co_loc (o := L)).2.2.2.2.2.2.2.2 hL
          refine nwB_f ?_
          unfold child
          split
          · omega
          · split
            · omega
            · split
              · omega
              · split <;> omega
        · refine nwB_f ?_
          have cl := co_loc (o := o)
          obtain ⟨y1, y2, y3, y4, y5, y6, y7, y8, y9⟩ := cl
          unfold subs at hx
          rcases hx with ⟨z, z2⟩ | ⟨z, z2⟩ | ⟨z, z2⟩ | ⟨z, z2⟩ | ⟨z, z2⟩ | ⟨z, z2⟩ | ⟨z, z2, z3⟩
          · have := y1 z; omega
          · have := y2 z; omega
          · have := y3 z; omega
          · rcases z with z | z | z | z
            · have := y4 z; omega
            · have := y6 z; omega
            · have := y7 z; omega
            · have := y8 z; omega
          · have := y5 z; omega
          · have := y7 z
            by_cases c5 : x = o + 1000
            · omega
            · have := hcl z c5; omega
          · have := y9 z; omega
end ZXL
