section ZXJ
/-! body: a call that makes an object -/
variable {ad : Nat → Nat} {iv : Nat → Option Nat} {lv : Nat → Bool} {t0 base am ao an : Nat} {κ κ' : zzM} {νc νc' : zzN} {μ μ' : zzM} {ν ν' : zzN} {H : Int} {nS nB nK : Nat} {h h1 : zz_H} {n n1 : Nat}
def L2 (h : zz_H) (base ao : Nat) (fx : Option ((Int32 ⊕ Nat) × zz_H × Nat)) (X : Nat → zz_H → Nat → Option (Int32 × zz_H × Nat)) : Option (Int32 × zz_H × Nat) := zz_ob h (some base) 10 fun _ => zz_th2 fx (fun v h' n' => zz_sl 3 h' (some ao) (0 : Int32) v.toInt64 fun h9 => some ((0 : Int32), h9, n')) X
theorem wrap2_v {ad' : Nat → Nat} {iv' : Nat → Option Nat} {lv' : Nat → Bool} {nS' nB' nK' : Nat} {w : Int32} {fx : Option ((Int32 ⊕ Nat) × zz_H × Nat)} {X : Nat → zz_H → Nat → Option (Int32 × zz_H × Nat)} {fm : zz_H → Option (Int32 × zz_H)} (S : S0 ad iv lv t0 base am ao an κ νc μ ν h n) (r0 : lv 0 = true ∧ co 0 = 10) (hfx : fx = some (.inl w, h1, n1)) (S1 : S0 ad' iv' lv' t0 base am ao an κ' νc' μ ν h1 n1) (R1 : RR lv' κ' νc' μ' ν' H nS' nB' nK' ∧ LV lv' nS') (z : μ' 0 33 = 0) (hm : ∀ h', zk h' am μ ν = h' → fm h' = some (w, zk h' am μ' ν')) : Ww (L2 h base ao fx X) fm am ao (Jx t0 base am ao an H) := by
  obtain ⟨f, ef⟩ := sl_w S1 (v := w.toInt64) (K := fun h9 => some ((0 : Int32), h9, n1))
  refine wrap_v (f := f) S1 R1 z ?_ hm
  unfold L2
  rw [(S0_ax S r0).2, hfx]
  exact ef
theorem wrap2_e {e : Nat} {t v : Int32} {fx : Option ((Int32 ⊕ Nat) × zz_H × Nat)} {X : Nat → zz_H → Nat → Option (Int32 × zz_H × Nat)} {fm : zz_H → Option (Int32 × zz_H)} (S : S0 ad iv lv t0 base am ao an κ νc μ ν h n) (R : RR lv κ νc μ ν H nS nB nK) (V : LV lv nS) (hfx : fx = some (.inr e, h, n)) (hX : X e h n = some (t, h, n)) (ht : ¬ t = 0) (hm : ∀ h', zk h' am μ ν = h' → fm h' = some (v, zk h' am (zset μ 0 33 t) ν)) : Ww (L2 h base ao fx X) fm am ao (Jx t0 base am ao an H) := by
  refine (wrap_e (t := 0) S ⟨RR_t t R, V⟩ (by rw [zset_h]; exact ht) ?_ hm).1
  unfold L2
  rw [(S0_ax S R.1.1).2, hfx, zset_h]
  exact hX
/-- the root's cell, a live list's -/
theorem S0_root (S : S0 ad iv lv t0 base am ao an κ νc μ ν h n) (r0 : lv 0 = true ∧ co 0 = 10) : h base = some (.inr (10, [.ref (ad 1), .ref (ad 2), .ref (ad 3), .ref (ad 4), .ref (ad 5), .ref (ad 6)])) := by
  have e := S.2.2.1 (ad 0) 0 (S.1 0 r0.1)
  rw [S.2.2.2.2.2.2.2.2.1] at e
  exact e
theorem S0_cell (S : S0 ad iv lv t0 base am ao an κ νc μ ν h n) {o : Nat} (hl : lv o = true) : h (ad o) = cCell ad t0 κ νc o := S.2.2.1 _ _ (S.1 o hl)
theorem S0_lt (S : S0 ad iv lv t0 base am ao an κ νc μ ν h n) {o : Nat} (hl : lv o = true) : ad o < n ∧ ad o ≠ t0 := by
  have := S.2.2.2.2.2.2.1 _ _ (S.1 o hl)
  omega
theorem S0_ne (S : S0 ad iv lv t0 base am ao an κ νc μ ν h n) {o p : Nat} (hl : lv o = true) (hp : lv p = true) (hne : o ≠ p) : ad o ≠ ad p := fun q => by
  have e1 := S.1 o hl
  have e2 := S.1 p hp
  rw [q, e2] at e1
  cases e1
  exact hne rfl
theorem co_body {b : Nat} (hb : b < 3) : co (600 + b) = 5 ∧ cIs (600 + b + 1000) = some (0, 56) := by
  rcases (show b = 0 ∨ b = 1 ∨ b = 2 by omega) with rfl | rfl | rfl <;> decide
theorem f_body0 (S : S0 ad iv lv t0 base am ao an κ νc μ ν h n) (R : RR lv κ νc μ ν H nS nB nK) (hb : ¬ nB < 3) : f_X9_body t0 base h n = some (.inr 1, h, n) := by
  have g2 := R.2.1.2.1
  have e2 := S0_cell S g2.1.1
  rw [li_cell g2.1.2, g2.2.1] at e2
  have b3 := R.1.2.2.1
  have hr : f_X9_needRoom (Int32.ofNat nB) 3 h = some (.inr 1) := by
    unfold f_X9_needRoom
    rw [if_neg (show ¬ Int32.ofNat nB < 3 from nlt (b := 3) (by omega))]
  unfold f_X9_body f_Jx4a65c_size_8abf5
  rw [zgq_r (S0_root S R.1.1) rfl, zob_r e2, zgi_r e2 rfl, zb_s, hr, zth_r]
theorem f_body1 (S : S0 ad iv lv t0 base am ao an κ νc μ ν h n) (R : RR lv κ νc μ ν H nS nB nK) (hb : nB < 3) : ∃ (h2 : zz_H) (w : Nat) (g1 : zz_H), f_X9_body t0 base h n = some (.inl (Int32.ofNat nB), h2, if κ 2 3 = 0 then n + 3 else n + 2) ∧ w = (if κ 2 3 = 0 then n + 2 else ad 1002) ∧ (∀ q, q ≠ ad 2 → q ≠ w → h2 q = g1 q) ∧ h2 (ad 2) = some (.inr (0, [.int (κ 2 0 + 1), .ref w, .int (Int32.ofNat (nB + 1))])) ∧ h2 w = some (zz_Q 5 10 (fun i => if i < nB then some (ad (child 2 i)) else if i = nB then some n else none)) ∧ (∀ q, q ≠ n → q ≠ n + 1 → g1 q = h q) ∧ g1 n = some (.inr (5, [.ref (n + 1)])) ∧ g1 (n + 1) = some (zz_I 0 56 (fun _ => 0)) := by
  have g2 := R.2.1.2.1
  have e2 := S0_cell S g2.1.1
  have e2' := e2
  rw [li_cell g2.1.2, g2.2.1] at e2
  have hr : f_X9_needRoom (Int32.ofNat nB) 3 h = some (.inl ()) := by
    unfold f_X9_needRoom
    rw [if_pos (show Int32.ofNat nB < 3 from plt (b := 3) (by omega))]
  have l2 := S0_lt S g2.1.1
  have lb := S0_lt S R.1.1.1
  rw [S.2.2.2.2.2.2.2.2.1] at lb
  have ht := S.2.2.2.2.2.2.2.1
  obtain ⟨g1, e1, o1, y1, y2⟩ := mk4 (t0 := t0) (h := zz_u h n (.inr (5, [.null]))) (a := n) (n := n + 1) zz_us (by omega)
  have og : ∀ q, q ≠ n → q ≠ n + 1 → g1 q = h q := fun q h1 h2 => by rw [o1 q h1 h2, zz_un h1]
  have gr : ¬ κ 2 3 = 0 → lv 1002 = true := fun g => (g2.2.2.1 (by
    rcases Nat.eq_zero_or_pos nB with q | q
    · exact absurd (g2.2.2.2 q) g
    · exact q)).1
  obtain ⟨h2, w, f1, f2, f3, f4, f5⟩ := li_add (κ := κ) (νc := νc) (ad := ad) (t0 := t0) (L := 2) (c := nB) (v := n) (n := n + 2) (h := g1) (ci := 5) (fs := [.ref (n + 1)]) (by decide) g2.2.1 (by omega) (by rw [og _ (by omega) (by omega)]; exact e2') (fun g => by
    have l1 := S0_lt S (gr g)
    show g1 (ad 1002) = cCell ad t0 κ νc 1002
    rw [og _ (by omega) (by omega)]
    exact S0_cell S (gr g)) (fun g => ⟨by
    rcases Nat.eq_zero_or_pos nB with q | q
    · exact q
    · exact absurd g (g2.2.2.1 q).2, by rw [og _ (by omega) (by omega)]; exact S.2.2.2.2.2.2.2.2.2.1, by omega, by omega, by omega⟩) y1 (by decide)
  refine ⟨h2, w, g1, ?_, f2, f3, f4, f5, og, y1, y2⟩
  have eb : g1 base = some (.inr (10, [.ref (ad 1), .ref (ad 2), .ref (ad 3), .ref (ad 4), .ref (ad 5), .ref (ad 6)])) := by rw [og _ (by omega) (by omega)]; exact S0_root S R.1.1
  have nw : n + 2 ≠ base := by omega
  unfold f_X9_body f_Jx4a65c_size_8abf5
  rw [zgq_r (S0_root S R.1.1) rfl, zob_r e2, zgi_r e2 rfl, zb_s, hr, zth_l, zgq_r (S0_root S R.1.1) rfl, e1, zb2_s, show n + 1 + 1 = n + 2 by omega, zob_r (by rw [og (ad 2) (by omega) (by omega)]; exact e2), f1, zb2_s]
  have nw2 : w ≠ base ∧ ad 2 ≠ base := by
    have q0 := S.2.2.2.2.2.2.2.2.1
    refine ⟨?_, ?_⟩
    · rw [f2]
      by_cases g : κ 2 3 = 0
      · rw [if_pos g]; omega
      · rw [if_neg g, ← q0]; exact S0_ne S (gr g) R.1.1.1 (by decide)
    · rw [← q0]; exact S0_ne S g2.1.1 R.1.1.1 (by decide)
  have eb2 : h2 base = some (.inr (10, [.ref (ad 1), .ref (ad 2), .ref (ad 3), .ref (ad 4), .ref (ad 5), .ref (ad 6)])) := by rw [f3 _ nw2.2.symm nw2.1.symm]; exact eb
  rw [zgq_r eb2 rfl, zob_r f4, zgi_r f4 rfl, zb_s, on_p _ (by omega), Nat.add_sub_cancel]
end ZXJ
