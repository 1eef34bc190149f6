section ZXQ
/-! seat: the reference's side; the new ids' table -/
variable {μ : zzM} {ν : zzN} {nS : Nat}
theorem em_seat1 {c r : Nat} (hb : nS < 4) (e : μ 0 30 = Int32.ofNat nS) (h1 : g_X10_isIn (Int32.ofNat c) 1 6 μ ν = some 1) (h2 : g_X10_isIn (Int32.ofNat r) 1 6 μ ν = some 1) : g_X10_seat (Int32.ofNat c) (Int32.ofNat r) μ ν = some (Int32.ofNat nS, zset (zset (zset (zset (zset μ 0 33 0) 1 nS (Int32.ofNat c)) 2 nS (Int32.ofNat r)) 146 nS 20) 0 30 (Int32.ofNat (nS + 1)), ν) := by
  have e0 : zset μ 0 33 0 0 30 = Int32.ofNat nS := by rw [zset_e (by omega)]; exact e
  have z0 : zset μ 0 33 0 0 33 = 0 := zset_h
  unfold g_X10_seat g_X10_seat_26 g_X10_seat_47
  rw [h1, zb_s, if_neg (by decide), h2, zb_s, if_neg (by decide), em_th0, zg1_s, if_pos rfl]
  generalize zset μ 0 33 0 = m at e0 z0 ⊢
  have a1 : zset m 1 nS (Int32.ofNat c) 0 30 = Int32.ofNat nS := by rw [zset_e (by omega)]; exact e0
  have a2 : zset (zset m 1 nS (Int32.ofNat c)) 2 nS (Int32.ofNat r) 0 30 = Int32.ofNat nS := by rw [zset_e (by omega)]; exact a1
  have a3 : zset (zset (zset m 1 nS (Int32.ofNat c)) 2 nS (Int32.ofNat r)) 146 nS 20 0 30 = Int32.ofNat nS := by rw [zset_e (by omega)]; exact a2
  rw [e0, if_neg (show ¬ Int32.ofNat nS = 4 from pne (b := 4) (by omega)), em_thz _ z0, zg1_s, if_pos rfl, e0, gs1 hb, a1, gs2 hb, a2, gs146 hb, zset_h, a3, on_s, on_p _ (by omega), Nat.add_sub_cancel]
theorem em_seat0 {x1 x2 : Int32} (h : g_X10_isIn x1 1 6 μ ν = some 0 ∨ (g_X10_isIn x1 1 6 μ ν = some 1 ∧ g_X10_isIn x2 1 6 μ ν = some 0)) : g_X10_seat x1 x2 μ ν = some (0, zset μ 0 33 1, ν) := by
  unfold g_X10_seat g_X10_seat_21 g_X10_seat_26 g_X10_seat_54
  rcases h with h | ⟨h, h2⟩
  · rw [h, zb_s, if_pos rfl, em_th1, zg1_s, if_neg (by decide)]
  · rw [h, zb_s, if_neg (by decide), h2, zb_s, if_pos rfl, em_th1, zg1_s, if_neg (by decide)]
theorem em_seat4 {x1 x2 : Int32} (e : μ 0 30 = 4) (h1 : g_X10_isIn x1 1 6 μ ν = some 1) (h2 : g_X10_isIn x2 1 6 μ ν = some 1) : g_X10_seat x1 x2 μ ν = some (0, zset μ 0 33 2, ν) := by
  have e0 : zset μ 0 33 0 0 30 = 4 := by rw [zset_e (by omega)]; exact e
  unfold g_X10_seat g_X10_seat_26 g_X10_seat_47 g_X10_seat_54
  rw [h1, zb_s, if_neg (by decide), h2, zb_s, if_neg (by decide), em_th0, zg1_s, if_pos rfl, e0, if_pos rfl, em_th1, zg1_s, if_neg (by decide), zset_tt]
/-- a new seat's ids in the order of their addresses -/
def soff (d : Nat) : Nat := if d = 0 then 0 else if d = 4 then 1 else if d = 1004 then 2 else if d = 5 then 3 else if d = 6 then 4 else if d = 7 then 5 else if d = 1007 then 6 else if d = 8 then 7 else if d = 1008 then 8 else if d = 1 then 9 else if d = 2 then 10 else if d = 1002 then 11 else if d = 3 then 12 else if d = 1003 then 13 else if d = 1001 then 14 else if d = 2001 then 15 else 99
def sid (k : Nat) : Nat := [0, 4, 1004, 5, 6, 7, 1007, 8, 1008, 1, 2, 1002, 3, 1003, 1001, 2001].getD k 0
theorem soff_sid {k : Nat} (hk : k < 16) : soff (sid k) = k ∧ sid k ≤ 2001 := by
  have key : ∀ k, k < 16 → soff (sid k) = k ∧ sid k ≤ 2001 := by decide +kernel
  exact key k hk
theorem sid_soff {d : Nat} (h : soff d < 16) : sid (soff d) = d := by
  by_cases g : d < 2100
  · have key : ∀ d, d < 2100 → soff d < 16 → sid (soff d) = d := by decide +kernel
    exact key d g h
  · exfalso
    unfold soff at h
    rw [if_neg (by omega), if_neg (by omega), if_neg (by omega), if_neg (by omega), if_neg (by omega), if_neg (by omega), if_neg (by omega), if_neg (by omega), if_neg (by omega), if_neg (by omega), if_neg (by omega), if_neg (by omega), if_neg (by omega), if_neg (by omega), if_neg (by omega), if_neg (by omega)] at h
    omega
end ZXQ
