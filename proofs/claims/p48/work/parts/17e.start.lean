section ZST
/-! the start: what the Statement gives of it, in the words of the state -/
theorem zs_tbl {w : Cond} (h : w ∈ zz_G) : w ∈ lw_tbl := (List.mem_filter.mp h).1
theorem zs_D {s : State} {args : Array Value} (hG : ∀ w ∈ zz_G, w.before args s = true) : ∃ D : va_G, va_K D vwCl [] s := by
  obtain ⟨c0, i0, h0⟩ := u_known (C := RJx4a65c) (T := TJx4a65c) (N := 3) (n := 3) hG zc0.2.1 (hG _ q_37)
  obtain ⟨c1, i1, h1⟩ := u_known (C := RX0) (T := TX0) (N := 5) (n := 5) hG zc1.2.1 (hG _ q_428)
  obtain ⟨c2, i2, h2⟩ := u_known (C := RX1) (T := TX1) (N := 7) (n := 7) hG zc2.2.1 (hG _ q_564)
  obtain ⟨c3, i3, h3⟩ := u_known (C := RX2) (T := TX2) (N := 1) (n := 1) hG zc3.2.1 (hG _ q_549)
  obtain ⟨c4, i4, h4⟩ := u_known (C := RX3) (T := TX3) (N := 7) (n := 7) hG zc4.2.1 (hG _ q_594)
  obtain ⟨c5, i5, h5⟩ := u_known (C := RX4) (T := TX4) (N := 1) (n := 1) hG zc5.2.1 (hG _ q_63)
  obtain ⟨c6, i6, h6⟩ := u_known (C := RX5) (T := TX5) (N := 2) (n := 2) hG zc6.2.1 (hG _ q_74)
  obtain ⟨c7, i7, h7⟩ := u_known (C := RX6) (T := TX6) (N := 6) (n := 6) hG zc7.2.1 (hG _ q_761)
  obtain ⟨c8, i8, h8⟩ := u_known (C := RX7) (T := TX7) (N := 6) (n := 6) hG zc8.2.1 (hG _ q_299)
  obtain ⟨c9, i9, h9⟩ := u_known (C := RX8) (T := TX8) (N := 3) (n := 3) hG zc9.2.1 (hG _ q_396)
  obtain ⟨c10, i10, h10⟩ := u_known (C := RX9) (T := TX9) (N := 6) (n := 6) hG zc10.2.1 (hG _ q_29)
  refine ⟨(fun k => [c0, c1, c2, c3, c4, c5, c6, c7, c8, c9, c10].getD k c0, fun k => [i0, i1, i2, i3, i4, i5, i6, i7, i8, i9, i10].getD k i0), fun c q hq => ?_, fun k q hq => ?_⟩
  · have hc : c < 11 := (List.getElem?_eq_some_iff.mp hq).1
    rcases (show c = 0 ∨ c = 1 ∨ c = 2 ∨ c = 3 ∨ c = 4 ∨ c = 5 ∨ c = 6 ∨ c = 7 ∨ c = 8 ∨ c = 9 ∨ c = 10 by omega) with rfl | rfl | rfl | rfl | rfl | rfl | rfl | rfl | rfl | rfl | rfl
    · cases hq; exact h0
    · cases hq; exact h1
    · cases hq; exact h2
    · cases hq; exact h3
    · cases hq; exact h4
    · cases hq; exact h5
    · cases hq; exact h6
    · cases hq; exact h7
    · cases hq; exact h8
    · cases hq; exact h9
    · cases hq; exact h10
  · cases hq
theorem zs_arr {s : State} {args : Array Value} {ty : FieldType} (h : (Cond.arrayClass ty).before args s = true) (hn : ∀ cA, s.vm.findClass ("[" ++ ty.toString) = some cA → va_RA s cA ty) : ∃ cA, ArrOfT s cA ty ∧ va_RA s cA ty := by
  obtain ⟨c, k, comp, h1, h2, h3⟩ := Cond.arrayClass_spec h
  exact ⟨c, fun n z => ⟨fun x => by simp [arrV], k, h2, comp, h3⟩, hn c h1⟩
theorem zs_arrA {s : State} {args : Array Value} {ty : FieldType} (h : (Cond.arrayOver (.array ty)).before args s = true) : ∃ cA, ArrOfT s cA (.array ty) ∧ va_RA s cA (.array ty) := by
  obtain ⟨comp, c, k, h1, h2, h3, h4⟩ := Cond.arrayOver_specA h
  exact ⟨c, fun n z => ⟨fun x => by simp [arrV], k, h2, comp, h3⟩, h4⟩
theorem zs_arrO {s : State} {args : Array Value} {C : String} (h : (Cond.arrayOver (.object C)).before args s = true) : ∃ cA, ArrOfT s cA (.object C) ∧ va_RA s cA (.object C) ∧ s.vm.findClass ("[" ++ (FieldType.object C).toString) = some cA := by
  obtain ⟨comp, c, k, h1, h2, h3, h4, h5⟩ := Cond.arrayOver_spec h
  exact ⟨c, fun n z => ⟨fun x => by simp [arrV], k, h3, comp, h4⟩, ⟨k, comp, h3, h4, h1, h5⟩, h5⟩
theorem zs_dA {s : State} {args : Array Value} (hG : ∀ w ∈ zz_G, w.before args s = true) (hov : ∀ ty ∈ zz_O6, (Cond.arrayOver ty).before args s = true) : ∃ dA : Nat → ClassId, (∀ t, t < 12 → ArrOfT s (dA t) (zz_T t) ∧ va_RA s (dA t) (zz_T t)) ∧ s.vm.findClass ("[" ++ (FieldType.object "java/lang/Object").toString) = some (dA 11) := by
  obtain ⟨d0, h0⟩ := zs_arr (ty := .int) (hG _ q_72) (fun _ z => z)
  obtain ⟨d1, h1⟩ := zs_arr (ty := .char) (hG _ q_547) (fun _ z => z)
  obtain ⟨d5, h5, h5b, h5c⟩ := zs_arrO (C := "java/lang/Object") (hov (.object "java/lang/Object") (by decide))
  obtain ⟨d6, h6⟩ := zs_arrA (ty := .int) (hov (.array .int) (by decide))
  refine ⟨fun k => [d0, d1, d0, d0, d0, d5, d6, d0, d0, d0, d0, d5].getD k d0, fun t ht => ?_, h5c⟩
  rcases (show t = 0 ∨ t = 1 ∨ t = 2 ∨ t = 3 ∨ t = 4 ∨ t = 5 ∨ t = 6 ∨ t = 7 ∨ t = 8 ∨ t = 9 ∨ t = 10 ∨ t = 11 by omega) with rfl | rfl | rfl | rfl | rfl | rfl | rfl | rfl | rfl | rfl | rfl | rfl
  · exact h0
  · exact h1
  · exact h0
  · exact h0
  · exact h0
  · exact ⟨h5, h5b⟩
  · exact h6
  · exact h0
  · exact h0
  · exact h0
  · exact h0
  · exact ⟨h5, h5b⟩
theorem zs_str {s : State} {b : Nat} (hts : ∀ w ∈ lw_tbl, w.before #[Value.ref b] s = true) (hq : ∀ c ∈ flatC (Jvm.Cond.and given_1 narrow_1), c.before #[Value.ref b] s = true) : ∀ z ∈ zz_S, ∃ sa, vk_R z.1 z.2.1 z.2.2 sa s := by
  have h1 : ∀ z ∈ zz_S, Cond.stringRef z.1 z.2.1 z.2.2 ∈ lw_tbl ∧ Cond.exactly (.string z.1 z.2.1) "java/lang/String" ∈ flatC (Jvm.Cond.and given_1 narrow_1) := by decide +kernel
  intro z hz
  obtain ⟨g1, g2⟩ := h1 z hz
  obtain ⟨a, c, cell, k, e1, -⟩ := Cond.exactly_spec (hq _ g2)
  exact ⟨a, vk_R.of (hts _ g1) e1⟩
theorem zs_N {s : State} {b : Nat} (hq : ∀ c ∈ flatC (Jvm.Cond.and given_1 narrow_1), c.before #[Value.ref b] s = true) : zz_N s := by
  have h1 : ∀ i, i < 5 → ∀ j, j < 5 → i ≠ j → Cond.not (.castable (zz_E i) (zz_E j)) ∈ flatC (Jvm.Cond.and given_1 narrow_1) := by decide +kernel
  exact fun i j hi hj hne => va_Nc.of (hq _ (h1 i hi j hj hne))
theorem zs_K {s : State} {b L : Nat} {xs : Nat → Int32} (hX : va_X b L xs s s.heap) (hts : ∀ w ∈ lw_tbl, w.before #[Value.ref b] s = true) (hgv : (Jvm.Cond.and given_1 narrow_1).before #[Value.ref b] s = true) : ∃ (D : va_G) (dA : Nat → ClassId) (t0 : Nat), zz_K D dA s.heap.size t0 s ∧ zz_N s ∧ t0 < s.heap.size ∧ t0 ≠ b ∧ zz_P D dA s.heap.size (zs_h t0 b L xs) s.heap.size s.heap := by
  have hq := flat_of_before _ hgv
  have hG : ∀ w ∈ zz_G, w.before #[Value.ref b] s = true := fun w hw => hts w (zs_tbl hw)
  have hov : ∀ ty ∈ zz_O6, (Cond.arrayOver ty).before #[Value.ref b] s = true := fun ty hty => hts _ ((by decide +kernel : ∀ ty ∈ zz_O6, Cond.arrayOver ty ∈ lw_tbl) ty hty)
  obtain ⟨D, hD⟩ := zs_D hG
  obtain ⟨dA0, hA0, hA011⟩ := zs_dA hG hov
  obtain ⟨scr, x1, ⟨x2, kx, x3, cx, x4⟩, x5, x6, x7⟩ := hX
  obtain ⟨dA, hdA⟩ : ∃ dA : Nat → ClassId, dA = fun k => if k = 12 then scr.cls else dA0 k := ⟨_, rfl⟩
  have hd : ∀ t, t < 12 → dA t = dA0 t := fun t ht => by rw [hdA]; exact if_neg (by omega)
  have hd12 : dA 12 = scr.cls := by rw [hdA]; exact if_pos rfl
  have hA : ∀ t, t < 12 → ArrOfT s (dA t) (zz_T t) ∧ va_RA s (dA t) (zz_T t) := fun t ht => by rw [hd t ht]; exact hA0 t ht
  have hA11 : s.vm.findClass ("[" ++ (FieldType.object "java/lang/Object").toString) = some (dA 11) := by rw [hd 11 (by decide)]; exact hA011
  have hA12 : ArrOfT s (dA 12) .int := by rw [hd12]; exact fun n z => ⟨fun x => by simp [arrV], kx, x3, cx, x4⟩
  obtain ⟨t0, c0, cell, k0, e1, e2, e3, e4, e5, e6, -⟩ := Cond.exactly_spec (hq (.exactly (.static "java/util/ArrayList" "DEFAULTCAPACITY_EMPTY_ELEMENTDATA" "[Ljava/lang/Object;") "[Ljava/lang/Object;") (by decide +kernel))
  obtain ⟨g1, g2⟩ := Cond.arrayOf_spec (hq (.arrayOf (.static "java/util/ArrayList" "DEFAULTCAPACITY_EMPTY_ELEMENTDATA" "[Ljava/lang/Object;") (.object "java/lang/Object")) (by decide +kernel)) e1 e3
  have hlen : Int32.ofNat cell.slots.size = 0 := by
    have h1 := hq (.eq (.length (.static "java/util/ArrayList" "DEFAULTCAPACITY_EMPTY_ELEMENTDATA" "[Ljava/lang/Object;")) (.int 0)) (by decide +kernel)
    cases hv : (Term.length (.static "java/util/ArrayList" "DEFAULTCAPACITY_EMPTY_ELEMENTDATA" "[Ljava/lang/Object;")).eval #[Value.ref b] s none [] s with
    | none => simp [Cond.before, Cond.holds, Cond.value, hv] at h1
    | some v =>
    obtain ⟨a9, cell9, f1, f2, rfl⟩ := Term.length_spec hv
    cases Option.some.inj (f1.symm.trans e1)
    have f3 := (State.arrayAt?_spec f2).1
    cases Option.some.inj (f3.symm.trans e3)
    have h2 := hv
    have h4 := Cond.eq_ints h2 (show (Term.int 0).eval #[Value.ref b] s none [] s = some (.int 0) from rfl)
    simpa [Cond.before, Cond.holds, h4] using h1
  have hlt : t0 < s.heap.size := (Array.getElem?_eq_some_iff.mp e3).1
  have hnA : ∀ a : Nat, a < s.heap.size → ¬ s.heap.size ≤ a := fun a ha => Nat.not_le.mpr ha
  have hbt : t0 ≠ b := fun e => by
    subst e
    cases Option.some.inj (e3.symm.trans x1)
    obtain ⟨-, ky, y3, cy, y4⟩ := g1
    cases Option.some.inj (y3.symm.trans x3)
    rw [x4] at y4
    cases y4
  refine ⟨D, dA, t0, ⟨hD, hA, fun w hw => zz_of (zz_G_ok hw) (hG w hw), va_Zof (hts _ (by decide +kernel)) (hts _ (by decide +kernel)) e1 hnA, vx_Zqof (hts _ (by decide +kernel)) (hts _ (by decide +kernel)) (hq _ (by decide +kernel)) hnA, vx_Zqof (hts _ (by decide +kernel)) (hts _ (by decide +kernel)) (hq _ (by decide +kernel)) hnA, zs_str hts hq, fun ty hty => ?_, hA12⟩, zs_N hq, hlt, hbt, rfl, Nat.le_refl _, fun a x e => ?_⟩
  · have h1 := hov ty hty
    exact h1
  · unfold zs_h at e
    split at e
    · next ea =>
      subst ea
      cases e
      refine ⟨⟨fun q => absurd q (by decide), fun _ => ⟨cell, e3, ?_, (fun k hk => by rw [hk] at e5; cases e5), hlen, fun q => absurd q (by show ¬ (11 : Nat) = 12; decide)⟩⟩, Or.inr ⟨_, rfl, Nat.le_refl _⟩⟩
      rw [e6]
      exact Option.some.inj (e2.symm.trans hA11)
    · unfold zs_o at e
      split at e
      · next _ eb =>
        subst eb
        cases e
        exact ⟨⟨fun q => absurd q (by show ¬ (12 : Nat) < 11; decide), fun _ => ⟨scr, x1, hd12.symm, x2, by rw [x6], fun _ => ⟨x5, x6, fun f hf j hj => by cases hf; exact x7 j hj⟩⟩⟩, Or.inr ⟨_, rfl, by show 11 ≤ (12 : Nat); decide⟩⟩
      · cases e
end ZST
