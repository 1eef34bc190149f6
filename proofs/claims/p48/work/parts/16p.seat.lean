section ZXP
/-! seat: what it leaves in the heap -/
variable {ad : Nat → Nat} {iv : Nat → Option Nat} {lv : Nat → Bool} {t0 base : Nat} {ow : zz_H} {κ : zzM} {νc : zzN} {μ : zzM} {ν : zzN} {H : Int} {nS nB nK : Nat} {h : zz_H} {n : Nat}
theorem f_seat1 (S : S0 ad iv lv t0 base ow κ νc h n) (R : RR lv κ νc μ ν H nS nB nK) (hb : nS < 4) {p q : Int32} (hr1 : f_X9_needRange p 1 6 h = some (.inl ())) (hr2 : f_X9_needRange q 1 6 h = some (.inl ())) : ∃ (h2 : zz_H) (w : Nat) (g1 : zz_H), f_X9_seat t0 base p q h n = some (.inl (Int32.ofNat nS), h2, if κ 1 3 = 0 then n + 17 else n + 16) ∧ w = (if κ 1 3 = 0 then n + 16 else ad 1001) ∧ (∀ r, r ≠ ad 1 → r ≠ w → h2 r = g1 r) ∧ h2 (ad 1) = some (.inr (0, [.int (κ 1 0 + 1), .ref w, .int (Int32.ofNat (nS + 1))])) ∧ h2 w = some (zz_Q 5 10 (fun i => if i < nS then some (ad (child 1 i)) else if i = nS then some n else none)) ∧ (∀ r, (r < n ∨ n + 16 ≤ r) → g1 r = h r) ∧ g1 n = some (.inr (8, [.ref (n + 9), .ref (n + 1), .ref (n + 3), .ref (n + 5), .ref (n + 7), .int 20])) ∧ g1 (n + 1) = some (.inr (9, [.ref (n + 2), .int 0, .int 0])) ∧ g1 (n + 2) = some (zz_I 1 9 (fun _ => 0)) ∧ g1 (n + 3) = some (.inr (3, [.ref (n + 4)])) ∧ g1 (n + 4) = some (.inr (0, [.int 0, .ref t0, .int 0])) ∧ g1 (n + 5) = some (.inr (5, [.ref (n + 6)])) ∧ g1 (n + 6) = some (zz_I 0 56 (fun _ => 0)) ∧ g1 (n + 7) = some (.inr (2, [.ref (n + 8), .int 0, .int 0, .null, .int 0, .int 0, .int 0])) ∧ g1 (n + 8) = some (zz_I 0 6 (fun _ => 0)) ∧ g1 (n + 9) = some (.inr (4, [.int p, .int q, .int 0, .ref (n + 10), .ref (n + 12), .ref (n + 14), .ref (n + 15)])) ∧ g1 (n + 10) = some (.inr (5, [.ref (n + 11)])) ∧ g1 (n + 11) = some (zz_I 0 56 (fun _ => 0)) ∧ g1 (n + 12) = some (.inr (5, [.ref (n + 13)])) ∧ g1 (n + 13) = some (zz_I 0 56 (fun _ => 0)) ∧ g1 (n + 14) = some (zz_I 0 6 tie99) ∧ g1 (n + 15) = some (zz_I 0 6 tie99) := by
  have g2 := R.2.1.1
  have e2 := S0_cell S g2.1.1
  have e2' := e2
  rw [li_cell g2.1.2, g2.2.1] at e2
  have hr : f_X9_needRoom (Int32.ofNat nS) 4 h = some (.inl ()) := by
    unfold f_X9_needRoom
    rw [if_pos (show Int32.ofNat nS < 4 from plt (b := 4) (by omega))]
  have l2 := S0_lt S g2.1.1
  have lb := S0_lt S R.1.1.1
  rw [S.2.2.2.2.2.2.2.2.1] at lb
  have ht := S.2.2.2.2.2.2.2.1
  obtain ⟨g1, e1, o1, y0, y1, y2, y3, y4, y5, y6, y7, y8, y9, y10, y11, y12, y13, y14, y15⟩ := mk7 (t0 := t0) (p := p) (q := q) (h := zz_u h n (.inr (8, [.null, .null, .null, .null, .null, .int 0]))) (a := n) (n := n + 1) zz_us (by omega)
  have og : ∀ r, (r < n ∨ n + 16 ≤ r) → g1 r = h r := fun r h1 => by rw [o1 r (by omega) (by omega), zz_un (by omega)]
  have gr : ¬ κ 1 3 = 0 → lv 1001 = true := fun g => (g2.2.2.1 (by
    rcases Nat.eq_zero_or_pos nS with q | q
    · exact absurd (g2.2.2.2 q) g
    · exact q)).1
  obtain ⟨h2, w, f1, f2, f3, f4, f5⟩ := li_add (κ := κ) (νc := νc) (ad := ad) (t0 := t0) (L := 1) (c := nS) (v := n) (n := n + 16) (h := g1) (ci := 8) (fs := [.ref (n + 1 + 8), .ref (n + 1), .ref (n + 1 + 2), .ref (n + 1 + 4), .ref (n + 1 + 6), .int 20]) (by decide) g2.2.1 (by omega) (by rw [og _ (by omega)]; exact e2') (fun g => by
    have l1 := S0_lt S (gr g)
    show g1 (ad 1001) = cCell ad t0 κ νc 1001
    rw [og _ (by omega)]
    exact S0_cell S (gr g)) (fun g => ⟨by
    rcases Nat.eq_zero_or_pos nS with q | q
    · exact q
    · exact absurd g (g2.2.2.1 q).2, by rw [og _ (by omega)]; exact S.2.2.2.2.2.2.2.2.2.1, by omega, by omega, by omega⟩) y0 (by decide)
  refine ⟨h2, w, g1, ?_, f2, f3, f4, f5, og, y0, y1, y2, y3, y4, y5, y6, y7, y8, y9, y10, y11, y12, y13, y14, y15⟩
  have eb : g1 base = some (.inr (10, [.ref (ad 1), .ref (ad 2), .ref (ad 3), .ref (ad 4), .ref (ad 5), .ref (ad 6)])) := by rw [og _ (by omega)]; exact S0_root S R.1.1
  unfold f_X9_seat f_Jx4a65c_size_8abf5
  rw [hr1, zth_l, hr2, zth_l, zgq_r (S0_root S R.1.1) rfl, zob_r e2, zgi_r e2 rfl, zb_s, hr, zth_l, zgq_r (S0_root S R.1.1) rfl, e1, zb2_s, show n + 1 + 15 = n + 16 by omega, zob_r (by rw [og (ad 1) (by omega)]; exact e2), f1, zb2_s]
  have nw2 : w ≠ base ∧ ad 1 ≠ base := by
    have q0 := S.2.2.2.2.2.2.2.2.1
    refine ⟨?_, ?_⟩
    · rw [f2]
      by_cases g : κ 1 3 = 0
      · rw [if_pos g]; omega
      · rw [if_neg g, ← q0]; exact S0_ne S (gr g) R.1.1.1 (by decide)
    · rw [← q0]; exact S0_ne S g2.1.1 R.1.1.1 (by decide)
  have eb2 : h2 base = some (.inr (10, [.ref (ad 1), .ref (ad 2), .ref (ad 3), .ref (ad 4), .ref (ad 5), .ref (ad 6)])) := by rw [f3 _ nw2.2.symm nw2.1.symm]; exact eb
  rw [zgq_r eb2 rfl, zob_r f4, zgi_r f4 rfl, zb_s, on_p _ (by omega), Nat.add_sub_cancel]
end ZXP
