section ZNC
/-! .. array by array -/
variable {α : Type} {μ : zzM} {ν : zzN}
theorem gi1 {i : Nat} {K : Int32 → Option α} (h : i < 4) : gai 0 μ 1 (Int32.ofNat i) K = K (μ 1 i) := gai_p (n := 4) rfl h
theorem gs1 {i : Nat} {x : Int32} {K : zzM → Option α} (h : i < 4) : gsi 0 μ 1 (Int32.ofNat i) x K = K (zset μ 1 i x) := gsi_p (n := 4) rfl h
theorem gi2 {i : Nat} {K : Int32 → Option α} (h : i < 4) : gai 0 μ 2 (Int32.ofNat i) K = K (μ 2 i) := gai_p (n := 4) rfl h
theorem gs2 {i : Nat} {x : Int32} {K : zzM → Option α} (h : i < 4) : gsi 0 μ 2 (Int32.ofNat i) x K = K (zset μ 2 i x) := gsi_p (n := 4) rfl h
theorem gi3 {i : Nat} {K : Int32 → Option α} (h : i < 4) : gai 0 μ 3 (Int32.ofNat i) K = K (μ 3 i) := gai_p (n := 4) rfl h
theorem gs3 {i : Nat} {x : Int32} {K : zzM → Option α} (h : i < 4) : gsi 0 μ 3 (Int32.ofNat i) x K = K (zset μ 3 i x) := gsi_p (n := 4) rfl h
theorem gi14 {i : Nat} {K : Int32 → Option α} (h : i < 4) : gai 0 μ 14 (Int32.ofNat i) K = K (μ 14 i) := gai_p (n := 4) rfl h
theorem gs14 {i : Nat} {x : Int32} {K : zzM → Option α} (h : i < 4) : gsi 0 μ 14 (Int32.ofNat i) x K = K (zset μ 14 i x) := gsi_p (n := 4) rfl h
theorem gi83 {i : Nat} {K : Int32 → Option α} (h : i < 4) : gai 0 μ 83 (Int32.ofNat i) K = K (μ 83 i) := gai_p (n := 4) rfl h
theorem gs83 {i : Nat} {x : Int32} {K : zzM → Option α} (h : i < 4) : gsi 0 μ 83 (Int32.ofNat i) x K = K (zset μ 83 i x) := gsi_p (n := 4) rfl h
theorem gi143 {i : Nat} {K : Int32 → Option α} (h : i < 4) : gai 0 μ 143 (Int32.ofNat i) K = K (μ 143 i) := gai_p (n := 4) rfl h
theorem gs143 {i : Nat} {x : Int32} {K : zzM → Option α} (h : i < 4) : gsi 0 μ 143 (Int32.ofNat i) x K = K (zset μ 143 i x) := gsi_p (n := 4) rfl h
theorem gi144 {i : Nat} {K : Int32 → Option α} (h : i < 4) : gai 0 μ 144 (Int32.ofNat i) K = K (μ 144 i) := gai_p (n := 4) rfl h
theorem gs144 {i : Nat} {x : Int32} {K : zzM → Option α} (h : i < 4) : gsi 0 μ 144 (Int32.ofNat i) x K = K (zset μ 144 i x) := gsi_p (n := 4) rfl h
theorem gi145 {i : Nat} {K : Int32 → Option α} (h : i < 4) : gai 0 μ 145 (Int32.ofNat i) K = K (μ 145 i) := gai_p (n := 4) rfl h
theorem gs145 {i : Nat} {x : Int32} {K : zzM → Option α} (h : i < 4) : gsi 0 μ 145 (Int32.ofNat i) x K = K (zset μ 145 i x) := gsi_p (n := 4) rfl h
theorem gi146 {i : Nat} {K : Int32 → Option α} (h : i < 4) : gai 0 μ 146 (Int32.ofNat i) K = K (μ 146 i) := gai_p (n := 4) rfl h
theorem gs146 {i : Nat} {x : Int32} {K : zzM → Option α} (h : i < 4) : gsi 0 μ 146 (Int32.ofNat i) x K = K (zset μ 146 i x) := gsi_p (n := 4) rfl h
theorem gi169 {i : Nat} {K : Int32 → Option α} (h : i < 4) : gai 0 μ 169 (Int32.ofNat i) K = K (μ 169 i) := gai_p (n := 4) rfl h
theorem gs169 {i : Nat} {x : Int32} {K : zzM → Option α} (h : i < 4) : gsi 0 μ 169 (Int32.ofNat i) x K = K (zset μ 169 i x) := gsi_p (n := 4) rfl h
theorem gi170 {i : Nat} {K : Int32 → Option α} (h : i < 4) : gai 0 μ 170 (Int32.ofNat i) K = K (μ 170 i) := gai_p (n := 4) rfl h
theorem gs170 {i : Nat} {x : Int32} {K : zzM → Option α} (h : i < 4) : gsi 0 μ 170 (Int32.ofNat i) x K = K (zset μ 170 i x) := gsi_p (n := 4) rfl h
theorem gi171 {i : Nat} {K : Int32 → Option α} (h : i < 4) : gai 0 μ 171 (Int32.ofNat i) K = K (μ 171 i) := gai_p (n := 4) rfl h
theorem gs171 {i : Nat} {x : Int32} {K : zzM → Option α} (h : i < 4) : gsi 0 μ 171 (Int32.ofNat i) x K = K (zset μ 171 i x) := gsi_p (n := 4) rfl h
theorem gi172 {i : Nat} {K : Int32 → Option α} (h : i < 4) : gai 0 μ 172 (Int32.ofNat i) K = K (μ 172 i) := gai_p (n := 4) rfl h
theorem gs172 {i : Nat} {x : Int32} {K : zzM → Option α} (h : i < 4) : gsi 0 μ 172 (Int32.ofNat i) x K = K (zset μ 172 i x) := gsi_p (n := 4) rfl h
theorem gi178 {i : Nat} {K : Int32 → Option α} (h : i < 4) : gai 1 μ 178 (Int32.ofNat i) K = K (μ 178 i) := gai_p (n := 4) rfl h
theorem gs178 {i : Nat} {x : Int32} {K : zzM → Option α} (h : i < 4) : gsi 1 μ 178 (Int32.ofNat i) x K = K (zset μ 178 i x) := gsi_p (n := 4) rfl h
theorem gi179 {i : Nat} {K : Int32 → Option α} (h : i < 4) : gai 0 μ 179 (Int32.ofNat i) K = K (μ 179 i) := gai_p (n := 4) rfl h
theorem gs179 {i : Nat} {x : Int32} {K : zzM → Option α} (h : i < 4) : gsi 0 μ 179 (Int32.ofNat i) x K = K (zset μ 179 i x) := gsi_p (n := 4) rfl h
theorem gq4 {i : Nat} {K : Nat → Option α} (h : i < 4) : gaq 8 4 (Int32.ofNat i) K = K (5 + i) := by rw [gaq_p (n := 4) (s := 1) rfl h, Nat.mul_one]
theorem gI4 : ∀ s, s < 4 → mIs (5 + s) = some (1, 9) := by decide +kernel
theorem gi4 {s i : Nat} {K : Int32 → Option α} (hs : s < 4) (h : i < 9) : gai 1 μ (5 + s) (Int32.ofNat i) K = K (μ (5 + s) i) := gai_p (gI4 s hs) h
theorem gs4 {s i : Nat} {x : Int32} {K : zzM → Option α} (hs : s < 4) (h : i < 9) : gsi 1 μ (5 + s) (Int32.ofNat i) x K = K (zset μ (5 + s) i x) := gsi_p (gI4 s hs) h
theorem gq9 {i : Nat} {K : Nat → Option α} (h : i < 4) : gaq 9 9 (Int32.ofNat i) K = K (10 + i) := by rw [gaq_p (n := 4) (s := 1) rfl h, Nat.mul_one]
theorem gI9 : ∀ s, s < 4 → mIs (10 + s) = some (2, 9) := by decide +kernel
theorem gi9 {s i : Nat} {K : Int32 → Option α} (hs : s < 4) (h : i < 9) : gai 2 μ (10 + s) (Int32.ofNat i) K = K (μ (10 + s) i) := gai_p (gI9 s hs) h
theorem gs9 {s i : Nat} {x : Int32} {K : zzM → Option α} (hs : s < 4) (h : i < 9) : gsi 2 μ (10 + s) (Int32.ofNat i) x K = K (zset μ (10 + s) i x) := gsi_p (gI9 s hs) h
theorem gq73 {i : Nat} {K : Nat → Option α} (h : i < 4) : gaq 6 73 (Int32.ofNat i) K = K (74 + i) := by rw [gaq_p (n := 4) (s := 1) rfl h, Nat.mul_one]
theorem gI73 : ∀ s, s < 4 → mIs (74 + s) = some (0, 6) := by decide +kernel
theorem gi73 {s i : Nat} {K : Int32 → Option α} (hs : s < 4) (h : i < 6) : gai 0 μ (74 + s) (Int32.ofNat i) K = K (μ (74 + s) i) := gai_p (gI73 s hs) h
theorem gs73 {s i : Nat} {x : Int32} {K : zzM → Option α} (hs : s < 4) (h : i < 6) : gsi 0 μ (74 + s) (Int32.ofNat i) x K = K (zset μ (74 + s) i x) := gsi_p (gI73 s hs) h
theorem gq78 {i : Nat} {K : Nat → Option α} (h : i < 4) : gaq 6 78 (Int32.ofNat i) K = K (79 + i) := by rw [gaq_p (n := 4) (s := 1) rfl h, Nat.mul_one]
theorem gI78 : ∀ s, s < 4 → mIs (79 + s) = some (0, 6) := by decide +kernel
theorem gi78 {s i : Nat} {K : Int32 → Option α} (hs : s < 4) (h : i < 6) : gai 0 μ (79 + s) (Int32.ofNat i) K = K (μ (79 + s) i) := gai_p (gI78 s hs) h
theorem gs78 {s i : Nat} {x : Int32} {K : zzM → Option α} (hs : s < 4) (h : i < 6) : gsi 0 μ (79 + s) (Int32.ofNat i) x K = K (zset μ (79 + s) i x) := gsi_p (gI78 s hs) h
theorem gq84 {i : Nat} {K : Nat → Option α} (h : i < 4) : gaq 8 84 (Int32.ofNat i) K = K (85 + i) := by rw [gaq_p (n := 4) (s := 1) rfl h, Nat.mul_one]
theorem gI84 : ∀ s, s < 4 → mIs (85 + s) = some (1, 4) := by decide +kernel
theorem gi84 {s i : Nat} {K : Int32 → Option α} (hs : s < 4) (h : i < 4) : gai 1 μ (85 + s) (Int32.ofNat i) K = K (μ (85 + s) i) := gai_p (gI84 s hs) h
theorem gs84 {s i : Nat} {x : Int32} {K : zzM → Option α} (hs : s < 4) (h : i < 4) : gsi 1 μ (85 + s) (Int32.ofNat i) x K = K (zset μ (85 + s) i x) := gsi_p (gI84 s hs) h
theorem gq89 {i : Nat} {K : Nat → Option α} (h : i < 4) : gaq 6 89 (Int32.ofNat i) K = K (90 + i) := by rw [gaq_p (n := 4) (s := 1) rfl h, Nat.mul_one]
theorem gI89 : ∀ s, s < 4 → mIs (90 + s) = some (0, 4) := by decide +kernel
theorem gi89 {s i : Nat} {K : Int32 → Option α} (hs : s < 4) (h : i < 4) : gai 0 μ (90 + s) (Int32.ofNat i) K = K (μ (90 + s) i) := gai_p (gI89 s hs) h
theorem gs89 {s i : Nat} {x : Int32} {K : zzM → Option α} (hs : s < 4) (h : i < 4) : gsi 0 μ (90 + s) (Int32.ofNat i) x K = K (zset μ (90 + s) i x) := gsi_p (gI89 s hs) h
theorem gq94 {i : Nat} {K : Nat → Option α} (h : i < 4) : gaq 6 94 (Int32.ofNat i) K = K (95 + i) := by rw [gaq_p (n := 4) (s := 1) rfl h, Nat.mul_one]
theorem gI94 : ∀ s, s < 4 → mIs (95 + s) = some (0, 4) := by decide +kernel
theorem gi94 {s i : Nat} {K : Int32 → Option α} (hs : s < 4) (h : i < 4) : gai 0 μ (95 + s) (Int32.ofNat i) K = K (μ (95 + s) i) := gai_p (gI94 s hs) h
theorem gs94 {s i : Nat} {x : Int32} {K : zzM → Option α} (hs : s < 4) (h : i < 4) : gsi 0 μ (95 + s) (Int32.ofNat i) x K = K (zset μ (95 + s) i x) := gsi_p (gI94 s hs) h
theorem gq104 {i : Nat} {K : Nat → Option α} (h : i < 4) : gaq 6 104 (Int32.ofNat i) K = K (105 + i) := by rw [gaq_p (n := 4) (s := 1) rfl h, Nat.mul_one]
theorem gI104 : ∀ s, s < 4 → mIs (105 + s) = some (0, 4) := by decide +kernel
theorem gi104 {s i : Nat} {K : Int32 → Option α} (hs : s < 4) (h : i < 4) : gai 0 μ (105 + s) (Int32.ofNat i) K = K (μ (105 + s) i) := gai_p (gI104 s hs) h
theorem gs104 {s i : Nat} {x : Int32} {K : zzM → Option α} (hs : s < 4) (h : i < 4) : gsi 0 μ (105 + s) (Int32.ofNat i) x K = K (zset μ (105 + s) i x) := gsi_p (gI104 s hs) h
theorem gq138 {i : Nat} {K : Nat → Option α} (h : i < 4) : gaq 6 138 (Int32.ofNat i) K = K (139 + i) := by rw [gaq_p (n := 4) (s := 1) rfl h, Nat.mul_one]
theorem gI138 : ∀ s, s < 4 → mIs (139 + s) = some (0, 6) := by decide +kernel
theorem gi138 {s i : Nat} {K : Int32 → Option α} (hs : s < 4) (h : i < 6) : gai 0 μ (139 + s) (Int32.ofNat i) K = K (μ (139 + s) i) := gai_p (gI138 s hs) h
theorem gs138 {s i : Nat} {x : Int32} {K : zzM → Option α} (hs : s < 4) (h : i < 6) : gsi 0 μ (139 + s) (Int32.ofNat i) x K = K (zset μ (139 + s) i x) := gsi_p (gI138 s hs) h
theorem gq173 {i : Nat} {K : Nat → Option α} (h : i < 4) : gaq 6 173 (Int32.ofNat i) K = K (174 + i) := by rw [gaq_p (n := 4) (s := 1) rfl h, Nat.mul_one]
theorem gI173 : ∀ s, s < 4 → mIs (174 + s) = some (0, 10) := by decide +kernel
theorem gi173 {s i : Nat} {K : Int32 → Option α} (hs : s < 4) (h : i < 10) : gai 0 μ (174 + s) (Int32.ofNat i) K = K (μ (174 + s) i) := gai_p (gI173 s hs) h
theorem gs173 {s i : Nat} {x : Int32} {K : zzM → Option α} (hs : s < 4) (h : i < 10) : gsi 0 μ (174 + s) (Int32.ofNat i) x K = K (zset μ (174 + s) i x) := gsi_p (gI173 s hs) h
theorem gq99 {i : Nat} {K : Nat → Option α} (h : i < 4) : gaq 10 99 (Int32.ofNat i) K = K (100 + i) := by rw [gaq_p (n := 4) (s := 1) rfl h, Nat.mul_one]
theorem gJ99 : ∀ s, s < 4 → mJs (100 + s) = some 4 := by decide +kernel
theorem gl99 {s i : Nat} {K : Int64 → Option α} (hs : s < 4) (h : i < 4) : gal ν (100 + s) (Int32.ofNat i) K = K (ν (100 + s) i) := gal_p (gJ99 s hs) h
theorem gsl99 {s i : Nat} {x : Int64} {K : zzN → Option α} (hs : s < 4) (h : i < 4) : gsl ν (100 + s) (Int32.ofNat i) x K = K (zsetN ν (100 + s) i x) := gsl_p (gJ99 s hs) h
theorem gq15 {i : Nat} {K : Nat → Option α} (h : i < 4) : gaq 7 15 (Int32.ofNat i) K = K (16 + 7 * i) := by rw [gaq_p (n := 4) (s := 7) rfl h, Nat.mul_comm]
theorem gR15 : ∀ s, s < 4 → mRs (16 + 7 * s) = some (6, 6, 1) := by decide +kernel
theorem gI15 : ∀ s, s < 4 → ∀ x, x < 6 → mIs (17 + 7 * s + x) = some (0, 6) := by decide +kernel
theorem gQ15 {s i : Nat} {K : Nat → Option α} (hs : s < 4) (h : i < 6) : gaq 6 (16 + 7 * s) (Int32.ofNat i) K = K (17 + 7 * s + i) := by rw [gaq_p (n := 6) (gR15 s hs) h, Nat.mul_one]; congr 1; omega
theorem gi15 {s x i : Nat} {K : Int32 → Option α} (hs : s < 4) (hx : x < 6) (h : i < 6) : gai 0 μ (17 + 7 * s + x) (Int32.ofNat i) K = K (μ (17 + 7 * s + x) i) := gai_p (gI15 s hs x hx) h
theorem gs15 {s x i : Nat} {v : Int32} {K : zzM → Option α} (hs : s < 4) (hx : x < 6) (h : i < 6) : gsi 0 μ (17 + 7 * s + x) (Int32.ofNat i) v K = K (zset μ (17 + 7 * s + x) i v) := gsi_p (gI15 s hs x hx) h
theorem gn15 {s : Nat} {K : Int32 → Option α} (hs : s < 4) : glen (16 + 7 * s) K = K (Int32.ofNat 6) := by unfold glen; rw [gR15 s hs]; rfl
theorem gm15 {s x : Nat} {K : Int32 → Option α} (hs : s < 4) (hx : x < 6) : glen (17 + 7 * s + x) K = K (Int32.ofNat 6) := by unfold glen; rw [(mIs_i (gI15 s hs x hx)).2.2]; simp only [gI15 s hs x hx]; rfl
theorem gq44 {i : Nat} {K : Nat → Option α} (h : i < 4) : gaq 7 44 (Int32.ofNat i) K = K (45 + 7 * i) := by rw [gaq_p (n := 4) (s := 7) rfl h, Nat.mul_comm]
theorem gR44 : ∀ s, s < 4 → mRs (45 + 7 * s) = some (6, 6, 1) := by decide +kernel
theorem gI44 : ∀ s, s < 4 → ∀ x, x < 6 → mIs (46 + 7 * s + x) = some (0, 6) := by decide +kernel
theorem gQ44 {s i : Nat} {K : Nat → Option α} (hs : s < 4) (h : i < 6) : gaq 6 (45 + 7 * s) (Int32.ofNat i) K = K (46 + 7 * s + i) := by rw [gaq_p (n := 6) (gR44 s hs) h, Nat.mul_one]; congr 1; omega
theorem gi44 {s x i : Nat} {K : Int32 → Option α} (hs : s < 4) (hx : x < 6) (h : i < 6) : gai 0 μ (46 + 7 * s + x) (Int32.ofNat i) K = K (μ (46 + 7 * s + x) i) := gai_p (gI44 s hs x hx) h
theorem gs44 {s x i : Nat} {v : Int32} {K : zzM → Option α} (hs : s < 4) (hx : x < 6) (h : i < 6) : gsi 0 μ (46 + 7 * s + x) (Int32.ofNat i) v K = K (zset μ (46 + 7 * s + x) i v) := gsi_p (gI44 s hs x hx) h
theorem gn44 {s : Nat} {K : Int32 → Option α} (hs : s < 4) : glen (45 + 7 * s) K = K (Int32.ofNat 6) := by unfold glen; rw [gR44 s hs]; rfl
theorem gm44 {s x : Nat} {K : Int32 → Option α} (hs : s < 4) (hx : x < 6) : glen (46 + 7 * s + x) K = K (Int32.ofNat 6) := by unfold glen; rw [(mIs_i (gI44 s hs x hx)).2.2]; simp only [gI44 s hs x hx]; rfl
theorem gq109 {i : Nat} {K : Nat → Option α} (h : i < 4) : gaq 7 109 (Int32.ofNat i) K = K (110 + 7 * i) := by rw [gaq_p (n := 4) (s := 7) rfl h, Nat.mul_comm]
theorem gR109 : ∀ s, s < 4 → mRs (110 + 7 * s) = some (6, 6, 1) := by decide +kernel
theorem gI109 : ∀ s, s < 4 → ∀ x, x < 6 → mIs (111 + 7 * s + x) = some (0, 6) := by decide +kernel
theorem gQ109 {s i : Nat} {K : Nat → Option α} (hs : s < 4) (h : i < 6) : gaq 6 (110 + 7 * s) (Int32.ofNat i) K = K (111 + 7 * s + i) := by rw [gaq_p (n := 6) (gR109 s hs) h, Nat.mul_one]; congr 1; omega
theorem gi109 {s x i : Nat} {K : Int32 → Option α} (hs : s < 4) (hx : x < 6) (h : i < 6) : gai 0 μ (111 + 7 * s + x) (Int32.ofNat i) K = K (μ (111 + 7 * s + x) i) := gai_p (gI109 s hs x hx) h
theorem gs109 {s x i : Nat} {v : Int32} {K : zzM → Option α} (hs : s < 4) (hx : x < 6) (h : i < 6) : gsi 0 μ (111 + 7 * s + x) (Int32.ofNat i) v K = K (zset μ (111 + 7 * s + x) i v) := gsi_p (gI109 s hs x hx) h
theorem gn109 {s : Nat} {K : Int32 → Option α} (hs : s < 4) : glen (110 + 7 * s) K = K (Int32.ofNat 6) := by unfold glen; rw [gR109 s hs]; rfl
theorem gm109 {s x : Nat} {K : Int32 → Option α} (hs : s < 4) (hx : x < 6) : glen (111 + 7 * s + x) K = K (Int32.ofNat 6) := by unfold glen; rw [(mIs_i (gI109 s hs x hx)).2.2]; simp only [gI109 s hs x hx]; rfl
theorem gq147 {i : Nat} {K : Nat → Option α} (h : i < 3) : gaq 7 147 (Int32.ofNat i) K = K (148 + 7 * i) := by rw [gaq_p (n := 3) (s := 7) rfl h, Nat.mul_comm]
theorem gR147 : ∀ s, s < 3 → mRs (148 + 7 * s) = some (6, 6, 1) := by decide +kernel
theorem gI147 : ∀ s, s < 3 → ∀ x, x < 6 → mIs (149 + 7 * s + x) = some (0, 6) := by decide +kernel
theorem gQ147 {s i : Nat} {K : Nat → Option α} (hs : s < 3) (h : i < 6) : gaq 6 (148 + 7 * s) (Int32.ofNat i) K = K (149 + 7 * s + i) := by rw [gaq_p (n := 6) (gR147 s hs) h, Nat.mul_one]; congr 1; omega
theorem gi147 {s x i : Nat} {K : Int32 → Option α} (hs : s < 3) (hx : x < 6) (h : i < 6) : gai 0 μ (149 + 7 * s + x) (Int32.ofNat i) K = K (μ (149 + 7 * s + x) i) := gai_p (gI147 s hs x hx) h
theorem gs147 {s x i : Nat} {v : Int32} {K : zzM → Option α} (hs : s < 3) (hx : x < 6) (h : i < 6) : gsi 0 μ (149 + 7 * s + x) (Int32.ofNat i) v K = K (zset μ (149 + 7 * s + x) i v) := gsi_p (gI147 s hs x hx) h
theorem gn147 {s : Nat} {K : Int32 → Option α} (hs : s < 3) : glen (148 + 7 * s) K = K (Int32.ofNat 6) := by unfold glen; rw [gR147 s hs]; rfl
theorem gm147 {s x : Nat} {K : Int32 → Option α} (hs : s < 3) (hx : x < 6) : glen (149 + 7 * s + x) K = K (Int32.ofNat 6) := by unfold glen; rw [(mIs_i (gI147 s hs x hx)).2.2]; simp only [gI147 s hs x hx]; rfl
end ZNC
