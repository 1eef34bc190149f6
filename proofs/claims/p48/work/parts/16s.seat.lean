section ZXS
/-! seat: its new cells -/
variable {ad : Nat → Nat} {t0 : Nat} {κ : zzM} {νc : zzN} {nS : Nat} {n : Nat} {p q : Int32}
theorem ns_0 (hb : nS < 4) : cCell (adN (nwS κ nS) (adS n nS) ad) t0 (kS κ p q nS) νc (100 * (nS + 1) + 0) = some (.inr (8, [.ref (n + 9), .ref (n + 1), .ref (n + 3), .ref (n + 5), .ref (n + 7), .int 20])) := by
  rw [s8_cell ((by decide +kernel : ∀ b, b < 4 → co (100 * (b + 1) + 0) = 8) nS hb), adS_d (d := 1) hb (by omega) (by decide), adS_d (d := 4) hb (by omega) (by decide), adS_d (d := 5) hb (by omega) (by decide), adS_d (d := 7) hb (by omega) (by decide), adS_d (d := 8) hb (by omega) (by decide), kS_d (d := 0) rfl (by decide)]
  rfl
theorem ns_1 (hb : nS < 4) : cCell (adN (nwS κ nS) (adS n nS) ad) t0 (kS κ p q nS) νc (100 * (nS + 1) + 4) = some (.inr (9, [.ref (n + 2), .int 0, .int 0])) := by
  rw [s9_cell ((by decide +kernel : ∀ b, b < 4 → co (100 * (b + 1) + 4) = 9) nS hb), adS_d (d := 1004) hb (by omega) (by decide), kS_d (d := 4) rfl (by decide)]
  rfl
theorem ns_2 (hb : nS < 4) : cCell (adN (nwS κ nS) (adS n nS) ad) t0 (kS κ p q nS) νc (100 * (nS + 1) + 1004) = some (zz_I 1 9 (fun _ => 0)) := by
  rw [ar_cell (by omega) ((by decide +kernel : ∀ b, b < 4 → cIs (100 * (b + 1) + 1004) = some (1, 9)) nS hb), kS_d (d := 1004) rfl (by decide)]
  rfl
theorem ns_3 (hb : nS < 4) : cCell (adN (nwS κ nS) (adS n nS) ad) t0 (kS κ p q nS) νc (100 * (nS + 1) + 5) = some (.inr (3, [.ref (n + 4)])) := by
  rw [s3_cell ((by decide +kernel : ∀ b, b < 4 → co (100 * (b + 1) + 5) = 3) nS hb), adS_d (d := 6) hb (by omega) (by decide)]
  rfl
theorem ns_4 (hb : nS < 4) : cCell (adN (nwS κ nS) (adS n nS) ad) t0 (kS κ p q nS) νc (100 * (nS + 1) + 6) = some (.inr (0, [.int 0, .ref t0, .int 0])) := by
  rw [li_cell ((by decide +kernel : ∀ b, b < 4 → co (100 * (b + 1) + 6) = 0) nS hb), kS_d (d := 6) rfl (by decide)]
  rfl
theorem ns_5 (hb : nS < 4) : cCell (adN (nwS κ nS) (adS n nS) ad) t0 (kS κ p q nS) νc (100 * (nS + 1) + 7) = some (.inr (5, [.ref (n + 6)])) := by
  rw [gr_cell ((by decide +kernel : ∀ b, b < 4 → co (100 * (b + 1) + 7) = 5) nS hb), adS_d (d := 1007) hb (by omega) (by decide)]
  rfl
theorem ns_6 (hb : nS < 4) : cCell (adN (nwS κ nS) (adS n nS) ad) t0 (kS κ p q nS) νc (100 * (nS + 1) + 1007) = some (zz_I 0 56 (fun _ => 0)) := by
  rw [ar_cell (by omega) ((by decide +kernel : ∀ b, b < 4 → cIs (100 * (b + 1) + 1007) = some (0, 56)) nS hb), kS_d (d := 1007) rfl (by decide)]
  rfl
theorem ns_7 (hb : nS < 4) : cCell (adN (nwS κ nS) (adS n nS) ad) t0 (kS κ p q nS) νc (100 * (nS + 1) + 8) = some (.inr (2, [.ref (n + 8), .int 0, .int 0, .null, .int 0, .int 0, .int 0])) := by
  rw [s2_cell ((by decide +kernel : ∀ b, b < 4 → co (100 * (b + 1) + 8) = 2) nS hb), adS_d (d := 1008) hb (by omega) (by decide), kS_d (d := 8) rfl (by decide)]
  rfl
theorem ns_8 (hb : nS < 4) : cCell (adN (nwS κ nS) (adS n nS) ad) t0 (kS κ p q nS) νc (100 * (nS + 1) + 1008) = some (zz_I 0 6 (fun _ => 0)) := by
  rw [ar_cell (by omega) ((by decide +kernel : ∀ b, b < 4 → cIs (100 * (b + 1) + 1008) = some (0, 6)) nS hb), kS_d (d := 1008) rfl (by decide)]
  rfl
theorem ns_9 (hb : nS < 4) : cCell (adN (nwS κ nS) (adS n nS) ad) t0 (kS κ p q nS) νc (100 * (nS + 1) + 1) = some (.inr (4, [.int p, .int q, .int 0, .ref (n + 10), .ref (n + 12), .ref (n + 14), .ref (n + 15)])) := by
  rw [s4_cell ((by decide +kernel : ∀ b, b < 4 → co (100 * (b + 1) + 1) = 4) nS hb), adS_d (d := 2) hb (by omega) (by decide), adS_d (d := 3) hb (by omega) (by decide), adS_d (d := 1001) hb (by omega) (by decide), adS_d (d := 2001) hb (by omega) (by decide), kS_d (d := 1) rfl (by decide)]
  rfl
theorem ns_10 (hb : nS < 4) : cCell (adN (nwS κ nS) (adS n nS) ad) t0 (kS κ p q nS) νc (100 * (nS + 1) + 2) = some (.inr (5, [.ref (n + 11)])) := by
  rw [gr_cell ((by decide +kernel : ∀ b, b < 4 → co (100 * (b + 1) + 2) = 5) nS hb), adS_d (d := 1002) hb (by omega) (by decide)]
  rfl
theorem ns_11 (hb : nS < 4) : cCell (adN (nwS κ nS) (adS n nS) ad) t0 (kS κ p q nS) νc (100 * (nS + 1) + 1002) = some (zz_I 0 56 (fun _ => 0)) := by
  rw [ar_cell (by omega) ((by decide +kernel : ∀ b, b < 4 → cIs (100 * (b + 1) + 1002) = some (0, 56)) nS hb), kS_d (d := 1002) rfl (by decide)]
  rfl
theorem ns_12 (hb : nS < 4) : cCell (adN (nwS κ nS) (adS n nS) ad) t0 (kS κ p q nS) νc (100 * (nS + 1) + 3) = some (.inr (5, [.ref (n + 13)])) := by
  rw [gr_cell ((by decide +kernel : ∀ b, b < 4 → co (100 * (b + 1) + 3) = 5) nS hb), adS_d (d := 1003) hb (by omega) (by decide)]
  rfl
theorem ns_13 (hb : nS < 4) : cCell (adN (nwS κ nS) (adS n nS) ad) t0 (kS κ p q nS) νc (100 * (nS + 1) + 1003) = some (zz_I 0 56 (fun _ => 0)) := by
  rw [ar_cell (by omega) ((by decide +kernel : ∀ b, b < 4 → cIs (100 * (b + 1) + 1003) = some (0, 56)) nS hb), kS_d (d := 1003) rfl (by decide)]
  rfl
theorem ns_14 (hb : nS < 4) : cCell (adN (nwS κ nS) (adS n nS) ad) t0 (kS κ p q nS) νc (100 * (nS + 1) + 1001) = some (zz_I 0 6 tie99) := by
  rw [ar_cell (by omega) ((by decide +kernel : ∀ b, b < 4 → cIs (100 * (b + 1) + 1001) = some (0, 6)) nS hb), kS_d (d := 1001) rfl (by decide)]
  rfl
theorem ns_15 (hb : nS < 4) : cCell (adN (nwS κ nS) (adS n nS) ad) t0 (kS κ p q nS) νc (100 * (nS + 1) + 2001) = some (zz_I 0 6 tie99) := by
  rw [ar_cell (by omega) ((by decide +kernel : ∀ b, b < 4 → cIs (100 * (b + 1) + 2001) = some (0, 6)) nS hb), kS_d (d := 2001) rfl (by decide)]
  rfl
end ZXS
