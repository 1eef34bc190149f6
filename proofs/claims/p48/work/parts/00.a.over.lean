theorem zz_over {ty : FieldType} {s U : State} (hW : s.WarmedH U.vm) (h : (Cond.arrayOver ty).before #[] s = true) : (Cond.arrayOver ty).before #[] U = true := by
  have h1 := Cond.before_shiftedOver (args := #[]) (State.Shifted.of_warmed hW) (.arrayOver ty) rfl h
  exact h1
