section ZZN
theorem zz_fz {x : Int32} (h : x = 0 ∨ x = 1) : fits .boolean (.int x) = true := by
  rcases h with rfl | rfl <;> rfl
theorem zz_fc {x : Int32} (h : (x.toUInt32 % 65536).toInt32 = x) : fits .char (.int x) = true := by
  have h1 : (x.toUInt32 % 65536).toNat < 65536 := by
    rw [UInt32.toNat_mod]
    exact Nat.mod_lt _ (by decide)
  have h2 : ((x.toUInt32 % 65536).toInt32).toInt = ((x.toUInt32 % 65536).toNat : Int) := by
    show (x.toUInt32 % 65536).toBitVec.toInt = _
    rw [BitVec.toInt_eq_toNat_of_lt (by show 2 * (x.toUInt32 % 65536).toNat < 2 ^ 32; omega)]
    rfl
  rw [h] at h2
  have h3 : (0 : Int32) ≤ x := by rw [Int32.le_iff_toInt_le, h2]; exact Int.natCast_nonneg _
  have h4 : x ≤ (65535 : Int32) := by rw [Int32.le_iff_toInt_le, h2]; show _ ≤ (65535 : Int); omega
  show (decide ((0 : Int32) ≤ x) && decide (x ≤ (65535 : Int32))) = true
  rw [decide_eq_true h3, decide_eq_true h4]
  rfl
end ZZN
