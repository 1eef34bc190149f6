section ZCS
set_option maxHeartbeats 4000000 in
set_option maxRecDepth 100000 in
theorem sc_X0_lastFlaw_64 {h : zz_H} {ad : Nat → Nat} {iv : Nat → Option Nat} {t0 : Nat} {lv : Nat → Bool} (hl : ∀ o, lv o = true → iv (ad o) = some o) (hI : ∀ q o, iv q = some o → ad o = q) {x3 : Int32} {κ : zzM} {ν : zzN} : zLe id (g_X0_lastFlaw_64 lv x3 κ ν) (f_X0_lastFlaw_64 x3 (zc h ad iv t0 κ ν)) := by
  unfold g_X0_lastFlaw_64 f_X0_lastFlaw_64
  exact sm_some rfl
set_option maxHeartbeats 4000000 in
set_option maxRecDepth 100000 in
theorem sc_X0_lastFlaw_58 {h : zz_H} {ad : Nat → Nat} {iv : Nat → Option Nat} {t0 : Nat} {lv : Nat → Bool} (hl : ∀ o, lv o = true → iv (ad o) = some o) (hI : ∀ q o, iv q = some o → ad o = q) {a0 : Nat} {x1 : Int32} {x2 : Int32} {x3 : Int32} {x4 : Int32} {κ : zzM} {ν : zzN} : zLe id (g_X0_lastFlaw_58 lv a0 x1 x2 x3 x4 κ ν) (f_X0_lastFlaw_58 (ad a0) x1 x2 x3 x4 (zc h ad iv t0 κ ν)) := by
  unfold g_X0_lastFlaw_58 f_X0_lastFlaw_58
  exact sm_some rfl
set_option maxHeartbeats 4000000 in
set_option maxRecDepth 100000 in
theorem sc_X0_lastFlaw_5 {h : zz_H} {ad : Nat → Nat} {iv : Nat → Option Nat} {t0 : Nat} {lv : Nat → Bool} (hl : ∀ o, lv o = true → iv (ad o) = some o) (hI : ∀ q o, iv q = some o → ad o = q) {a0 : Nat} {x1 : Int32} {x2 : Int32} {x3 : Int32} {x4 : Int32} {κ : zzM} {ν : zzN} : zLe id (g_X0_lastFlaw_5 lv a0 x1 x2 x3 x4 κ ν) (f_X0_lastFlaw_5 (ad a0) x1 x2 x3 x4 (zc h ad iv t0 κ ν)) := by
  unfold g_X0_lastFlaw_5 f_X0_lastFlaw_5
  refine sc_gi hl hI (fun _ _ _ _ _ => rfl) ?_
  refine sm_if (fun c => ?_) (fun c => ?_)
  · refine sm_map01 ?_
    exact sc_X0_lastFlaw_64 hl hI
  · refine sc_gq hl hI (δ := 1000) (fun _ _ _ _ _ => rfl) ?_
    refine sc_len hl hI (fun v20 => ?_)
    refine sm_if (fun c => ?_) (fun c => ?_)
    · refine sm_map01 ?_
      exact sc_X0_lastFlaw_64 hl hI
    · refine sc_gq hl hI (δ := 1000) (fun _ _ _ _ _ => rfl) ?_
      refine sc_ai hl hI (fun v30 => ?_)
      refine sm_if (fun c => ?_) (fun c => ?_)
      · exact sc_X0_lastFlaw_58 hl hI
      · refine sc_gq hl hI (δ := 1000) (fun _ _ _ _ _ => rfl) ?_
        refine sc_ai hl hI (fun v41 => ?_)
        refine sm_if (fun c => ?_) (fun c => ?_)
        · exact sc_X0_lastFlaw_58 hl hI
        · refine sc_gq hl hI (δ := 1000) (fun _ _ _ _ _ => rfl) ?_
          refine sc_ai hl hI (fun v53 => ?_)
          exact sc_X0_lastFlaw_58 hl hI
set_option maxHeartbeats 4000000 in
set_option maxRecDepth 100000 in
theorem sc_X0_lastFlaw {h : zz_H} {ad : Nat → Nat} {iv : Nat → Option Nat} {t0 : Nat} {lv : Nat → Bool} (hl : ∀ o, lv o = true → iv (ad o) = some o) (hI : ∀ q o, iv q = some o → ad o = q) {a0 : Nat} {x1 : Int32} {x2 : Int32} {κ : zzM} {ν : zzN} : zLe id (g_X0_lastFlaw lv a0 x1 x2 κ ν) (f_X0_lastFlaw (ad a0) x1 x2 (zc h ad iv t0 κ ν)) := by
  unfold g_X0_lastFlaw f_X0_lastFlaw
  refine sm_it0 (fun s => ?_)
  exact sc_X0_lastFlaw_5 hl hI
set_option maxHeartbeats 4000000 in
set_option maxRecDepth 100000 in
theorem sc_X0_hasFlaw_14 {h : zz_H} {ad : Nat → Nat} {iv : Nat → Option Nat} {t0 : Nat} {lv : Nat → Bool} (hl : ∀ o, lv o = true → iv (ad o) = some o) (hI : ∀ q o, iv q = some o → ad o = q) {s0 : Int32} {κ : zzM} {ν : zzN} : zLe id (g_X0_hasFlaw_14 lv s0 κ ν) (f_X0_hasFlaw_14 s0 (zc h ad iv t0 κ ν)) := by
  unfold g_X0_hasFlaw_14 f_X0_hasFlaw_14
  refine sm_gz ?_
  exact sm_some rfl
set_option maxHeartbeats 4000000 in
set_option maxRecDepth 100000 in
theorem sc_X0_hasFlaw {h : zz_H} {ad : Nat → Nat} {iv : Nat → Option Nat} {t0 : Nat} {lv : Nat → Bool} (hl : ∀ o, lv o = true → iv (ad o) = some o) (hI : ∀ q o, iv q = some o → ad o = q) {a0 : Nat} {x1 : Int32} {x2 : Int32} {κ : zzM} {ν : zzN} : zLe id (g_X0_hasFlaw lv a0 x1 x2 κ ν) (f_X0_hasFlaw (ad a0) x1 x2 (zc h ad iv t0 κ ν)) := by
  unfold g_X0_hasFlaw f_X0_hasFlaw
  refine sc_ob hl hI ?_
  refine sc_b (sc_X0_lastFlaw hl hI) (fun v3 => ?_)
  refine sm_if (fun c => ?_) (fun c => ?_)
  · exact sc_X0_hasFlaw_14 hl hI
  · exact sc_X0_hasFlaw_14 hl hI
set_option maxHeartbeats 4000000 in
set_option maxRecDepth 100000 in
theorem sc_J9_floorMod_7cf53_18 {h : zz_H} {ad : Nat → Nat} {iv : Nat → Option Nat} {t0 : Nat} {lv : Nat → Bool} (hl : ∀ o, lv o = true → iv (ad o) = some o) (hI : ∀ q o, iv q = some o → ad o = q) {x2 : Int32} {κ : zzM} {ν : zzN} : zLe id (g_J9_floorMod_7cf53_18 lv x2 κ ν) (f_J9_floorMod_7cf53_18 x2 (zc h ad iv t0 κ ν)) := by
  unfold g_J9_floorMod_7cf53_18 f_J9_floorMod_7cf53_18
  exact sm_some rfl
set_option maxHeartbeats 4000000 in
set_option maxRecDepth 100000 in
theorem sc_J9_floorMod_7cf53 {h : zz_H} {ad : Nat → Nat} {iv : Nat → Option Nat} {t0 : Nat} {lv : Nat → Bool} (hl : ∀ o, lv o = true → iv (ad o) = some o) (hI : ∀ q o, iv q = some o → ad o = q) {x0 : Int32} {x1 : Int32} {κ : zzM} {ν : zzN} : zLe id (g_J9_floorMod_7cf53 lv x0 x1 κ ν) (f_J9_floorMod_7cf53 x0 x1 (zc h ad iv t0 κ ν)) := by
  unfold g_J9_floorMod_7cf53 f_J9_floorMod_7cf53
  refine sm_dv ?_
  refine sm_if (fun c => ?_) (fun c => ?_)
  · exact sc_J9_floorMod_7cf53_18 hl hI
  · refine sm_if (fun c => ?_) (fun c => ?_)
    · exact sc_J9_floorMod_7cf53_18 hl hI
    · exact sm_some rfl
set_option maxHeartbeats 4000000 in
set_option maxRecDepth 100000 in
theorem sc_X0_nextMatch_24 {h : zz_H} {ad : Nat → Nat} {iv : Nat → Option Nat} {t0 : Nat} {lv : Nat → Bool} (hl : ∀ o, lv o = true → iv (ad o) = some o) (hI : ∀ q o, iv q = some o → ad o = q) {s0 : Int32} {κ : zzM} {ν : zzN} : zLe id (g_X0_nextMatch_24 lv s0 κ ν) (f_X0_nextMatch_24 s0 (zc h ad iv t0 κ ν)) := by
  unfold g_X0_nextMatch_24 f_X0_nextMatch_24
  exact sm_some rfl
set_option maxHeartbeats 4000000 in
set_option maxRecDepth 100000 in
theorem sc_X0_nextMatch {h : zz_H} {ad : Nat → Nat} {iv : Nat → Option Nat} {t0 : Nat} {lv : Nat → Bool} (hl : ∀ o, lv o = true → iv (ad o) = some o) (hI : ∀ q o, iv q = some o → ad o = q) {a0 : Nat} {x1 : Int32} {x2 : Int32} {κ : zzM} {ν : zzN} : zLe id (g_X0_nextMatch lv a0 x1 x2 κ ν) (f_X0_nextMatch (ad a0) x1 x2 (zc h ad iv t0 κ ν)) := by
  unfold g_X0_nextMatch f_X0_nextMatch
  refine sc_gi hl hI (fun _ _ _ _ _ => rfl) ?_
  refine sm_if (fun c => ?_) (fun c => ?_)
  · refine sc_gi hl hI (fun _ _ _ _ _ => rfl) ?_
    refine sc_b (sc_J9_floorMod_7cf53 hl hI) (fun v20 => ?_)
    exact sc_X0_nextMatch_24 hl hI
  · exact sc_X0_nextMatch_24 hl hI
set_option maxHeartbeats 4000000 in
set_option maxRecDepth 100000 in
theorem sc_X0_firstPlace_74 {h : zz_H} {ad : Nat → Nat} {iv : Nat → Option Nat} {t0 : Nat} {lv : Nat → Bool} (hl : ∀ o, lv o = true → iv (ad o) = some o) (hI : ∀ q o, iv q = some o → ad o = q) {s0 : Int32} {κ : zzM} {ν : zzN} : zLe id (g_X0_firstPlace_74 lv s0 κ ν) (f_X0_firstPlace_74 s0 (zc h ad iv t0 κ ν)) := by
  unfold g_X0_firstPlace_74 f_X0_firstPlace_74
  exact sm_some rfl
set_option maxHeartbeats 4000000 in
set_option maxRecDepth 100000 in
theorem sc_X0_firstPlace_57 {h : zz_H} {ad : Nat → Nat} {iv : Nat → Option Nat} {t0 : Nat} {lv : Nat → Bool} (hl : ∀ o, lv o = true → iv (ad o) = some o) (hI : ∀ q o, iv q = some o → ad o = q) {a0 : Nat} {x2 : Int32} {x4 : Int32} {κ : zzM} {ν : zzN} : zLe id (g_X0_firstPlace_57 lv a0 x2 x4 κ ν) (f_X0_firstPlace_57 (ad a0) x2 x4 (zc h ad iv t0 κ ν)) := by
  unfold g_X0_firstPlace_57 f_X0_firstPlace_57
  refine sc_gi hl hI (fun _ _ _ _ _ => rfl) ?_
  refine sm_if (fun c => ?_) (fun c => ?_)
  · exact sc_X0_firstPlace_74 hl hI
  · exact sc_X0_firstPlace_74 hl hI
set_option maxHeartbeats 4000000 in
set_option maxRecDepth 100000 in
theorem sc_X0_firstPlace_11 {h : zz_H} {ad : Nat → Nat} {iv : Nat → Option Nat} {t0 : Nat} {lv : Nat → Bool} (hl : ∀ o, lv o = true → iv (ad o) = some o) (hI : ∀ q o, iv q = some o → ad o = q) {a0 : Nat} {x2 : Int32} {x3 : Int32} {x4 : Int32} {x5 : Int32} {κ : zzM} {ν : zzN} : zLe id (g_X0_firstPlace_11 lv a0 x2 x3 x4 x5 κ ν) (f_X0_firstPlace_11 (ad a0) x2 x3 x4 x5 (zc h ad iv t0 κ ν)) := by
  unfold g_X0_firstPlace_11 f_X0_firstPlace_11
  refine sc_gi hl hI (fun _ _ _ _ _ => rfl) ?_
  refine sm_if (fun c => ?_) (fun c => ?_)
  · refine sm_map01 ?_
    exact sc_X0_firstPlace_57 hl hI
  · refine sc_ob hl hI ?_
    refine sc_b (sc_X0_lastFlaw hl hI) (fun v27 => ?_)
    refine sm_if (fun c => ?_) (fun c => ?_)
    · refine sc_ob hl hI ?_
      refine sc_b (sc_X0_nextMatch hl hI) (fun v46 => ?_)
      exact sm_some rfl
    · refine sm_map01 ?_
      exact sc_X0_firstPlace_57 hl hI
set_option maxHeartbeats 4000000 in
set_option maxRecDepth 100000 in
theorem sc_X0_firstPlace {h : zz_H} {ad : Nat → Nat} {iv : Nat → Option Nat} {t0 : Nat} {lv : Nat → Bool} (hl : ∀ o, lv o = true → iv (ad o) = some o) (hI : ∀ q o, iv q = some o → ad o = q) {a0 : Nat} {x1 : Int32} {x2 : Int32} {x3 : Int32} {κ : zzM} {ν : zzN} : zLe id (g_X0_firstPlace lv a0 x1 x2 x3 κ ν) (f_X0_firstPlace (ad a0) x1 x2 x3 (zc h ad iv t0 κ ν)) := by
  unfold g_X0_firstPlace f_X0_firstPlace
  refine sc_ob hl hI ?_
  refine sc_b (sc_X0_nextMatch hl hI) (fun v3 => ?_)
  refine sm_it0 (fun s => ?_)
  exact sc_X0_firstPlace_11 hl hI
set_option maxHeartbeats 4000000 in
set_option maxRecDepth 100000 in
theorem sc_X1_cut_65 {h : zz_H} {ad : Nat → Nat} {iv : Nat → Option Nat} {t0 : Nat} {lv : Nat → Bool} (hl : ∀ o, lv o = true → iv (ad o) = some o) (hI : ∀ q o, iv q = some o → ad o = q) {a0 : Nat} {x1 : Nat} {x2 : Int32} {x3 : Int32} {x4 : Int32} {x5 : Int32} {κ : zzM} {ν : zzN} : zLe (fun r : (Int32 × zzM × zzN) => (r.1, zc h ad iv t0 r.2.1 r.2.2)) (g_X1_cut_65 lv a0 x1 x2 x3 x4 x5 κ ν) (f_X1_cut_65 (ad a0) (some (ad x1)) x2 x3 x4 x5 (zc h ad iv t0 κ ν)) := by
  unfold g_X1_cut_65 f_X1_cut_65
  refine sc_p hl hI (fun _ _ _ _ _ _ => ⟨rfl, Nat.le_of_ble_eq_true rfl⟩) ?_
  refine sc_pn hl hI ?_
  refine sc_p hl hI (fun _ _ _ _ _ _ => ⟨rfl, Nat.le_of_ble_eq_true rfl⟩) ?_
  refine sc_p hl hI (fun _ _ _ _ _ _ => ⟨rfl, Nat.le_of_ble_eq_true rfl⟩) ?_
  refine sc_p hl hI (fun _ _ _ _ _ _ => ⟨rfl, Nat.le_of_ble_eq_true rfl⟩) ?_
  exact sm_some rfl
set_option maxHeartbeats 4000000 in
set_option maxRecDepth 100000 in
theorem sc_X1_cut_9 {h : zz_H} {ad : Nat → Nat} {iv : Nat → Option Nat} {t0 : Nat} {lv : Nat → Bool} (hl : ∀ o, lv o = true → iv (ad o) = some o) (hI : ∀ q o, iv q = some o → ad o = q) {a0 : Nat} {x1 : Nat} {x2 : Int32} {x3 : Int32} {x4 : Int32} {x5 : Int32} {x6 : Int32} {κ : zzM} {ν : zzN} : zLe (Sum.map (fun s : (Int32 × Int32 × zzM × zzN) => (s.1, s.2.1, zc h ad iv t0 s.2.2.1 s.2.2.2)) (fun r : (Int32 × zzM × zzN) => (r.1, zc h ad iv t0 r.2.1 r.2.2))) (g_X1_cut_9 lv a0 x1 x2 x3 x4 x5 x6 κ ν) (f_X1_cut_9 (ad a0) (some (ad x1)) x2 x3 x4 x5 x6 (zc h ad iv t0 κ ν)) := by
  unfold g_X1_cut_9 f_X1_cut_9
  refine sm_if (fun c => ?_) (fun c => ?_)
  · refine sm_mapw1 ?_
    exact sc_X1_cut_65 hl hI
  · refine sc_gq hl hI (δ := 1000) (fun _ _ _ _ _ => rfl) ?_
    refine sc_len hl hI (fun v21 => ?_)
    refine sm_if (fun c => ?_) (fun c => ?_)
    · refine sm_mapw1 ?_
      exact sc_X1_cut_65 hl hI
    · refine sc_ob hl hI ?_
      refine sc_b (sc_X0_firstPlace hl hI) (fun v31 => ?_)
      refine sm_if (fun c => ?_) (fun c => ?_)
      · refine sc_gq hl hI (δ := 1000) (fun _ _ _ _ _ => rfl) ?_
        refine sc_si hl hI (fun m51 => ?_)
        exact sm_some rfl
      · exact sm_some rfl
set_option maxHeartbeats 4000000 in
set_option maxRecDepth 100000 in
theorem sc_X1_cut {h : zz_H} {ad : Nat → Nat} {iv : Nat → Option Nat} {t0 : Nat} {lv : Nat → Bool} (hl : ∀ o, lv o = true → iv (ad o) = some o) (hI : ∀ q o, iv q = some o → ad o = q) {a0 : Nat} {x1 : Nat} {x2 : Int32} {x3 : Int32} {x4 : Int32} {κ : zzM} {ν : zzN} : zLe (fun r : (Int32 × zzM × zzN) => (r.1, zc h ad iv t0 r.2.1 r.2.2)) (g_X1_cut lv a0 x1 x2 x3 x4 κ ν) (f_X1_cut (ad a0) (some (ad x1)) x2 x3 x4 (zc h ad iv t0 κ ν)) := by
  unfold g_X1_cut f_X1_cut
  refine sc_gi hl hI (fun _ _ _ _ _ => rfl) ?_
  refine sm_it (cs := (fun s : (Int32 × Int32 × zzM × zzN) => (s.1, s.2.1, zc h ad iv t0 s.2.2.1 s.2.2.2))) (fun s => ?_)
  exact sc_X1_cut_9 hl hI
set_option maxHeartbeats 4000000 in
set_option maxRecDepth 100000 in
theorem sc_X1_placeAt_23 {h : zz_H} {ad : Nat → Nat} {iv : Nat → Option Nat} {t0 : Nat} {lv : Nat → Bool} (hl : ∀ o, lv o = true → iv (ad o) = some o) (hI : ∀ q o, iv q = some o → ad o = q) {s0 : Int32} {κ : zzM} {ν : zzN} : zLe id (g_X1_placeAt_23 lv s0 κ ν) (f_X1_placeAt_23 s0 (zc h ad iv t0 κ ν)) := by
  unfold g_X1_placeAt_23 f_X1_placeAt_23
  exact sm_some rfl
set_option maxHeartbeats 4000000 in
set_option maxRecDepth 100000 in
theorem sc_X1_placeAt_22 {h : zz_H} {ad : Nat → Nat} {iv : Nat → Option Nat} {t0 : Nat} {lv : Nat → Bool} (hl : ∀ o, lv o = true → iv (ad o) = some o) (hI : ∀ q o, iv q = some o → ad o = q) {κ : zzM} {ν : zzN} : zLe id (g_X1_placeAt_22 lv κ ν) (f_X1_placeAt_22  (zc h ad iv t0 κ ν)) := by
  unfold g_X1_placeAt_22 f_X1_placeAt_22
  exact sc_X1_placeAt_23 hl hI
set_option maxHeartbeats 4000000 in
set_option maxRecDepth 100000 in
theorem sc_X1_placeAt {h : zz_H} {ad : Nat → Nat} {iv : Nat → Option Nat} {t0 : Nat} {lv : Nat → Bool} (hl : ∀ o, lv o = true → iv (ad o) = some o) (hI : ∀ q o, iv q = some o → ad o = q) {a0 : Nat} {x1 : Int32} {κ : zzM} {ν : zzN} : zLe id (g_X1_placeAt lv a0 x1 κ ν) (f_X1_placeAt (ad a0) x1 (zc h ad iv t0 κ ν)) := by
  unfold g_X1_placeAt f_X1_placeAt
  refine sm_if (fun c => ?_) (fun c => ?_)
  · exact sc_X1_placeAt_22 hl hI
  · refine sc_gq hl hI (δ := 1000) (fun _ _ _ _ _ => rfl) ?_
    refine sc_len hl hI (fun v9 => ?_)
    refine sm_if (fun c => ?_) (fun c => ?_)
    · exact sc_X1_placeAt_22 hl hI
    · refine sc_gq hl hI (δ := 1000) (fun _ _ _ _ _ => rfl) ?_
      refine sc_ai hl hI (fun v18 => ?_)
      exact sc_X1_placeAt_23 hl hI
set_option maxHeartbeats 4000000 in
set_option maxRecDepth 100000 in
theorem sc_X1_lengthInAll {h : zz_H} {ad : Nat → Nat} {iv : Nat → Option Nat} {t0 : Nat} {lv : Nat → Bool} (hl : ∀ o, lv o = true → iv (ad o) = some o) (hI : ∀ q o, iv q = some o → ad o = q) {a0 : Nat} {κ : zzM} {ν : zzN} : zLe id (g_X1_lengthInAll lv a0 κ ν) (f_X1_lengthInAll (ad a0) (zc h ad iv t0 κ ν)) := by
  unfold g_X1_lengthInAll f_X1_lengthInAll
  refine sc_gi hl hI (fun _ _ _ _ _ => rfl) ?_
  refine sc_gi hl hI (fun _ _ _ _ _ => rfl) ?_
  exact sm_some rfl
set_option maxHeartbeats 4000000 in
set_option maxRecDepth 100000 in
theorem sc_X1_fitsItsCloth_69 {h : zz_H} {ad : Nat → Nat} {iv : Nat → Option Nat} {t0 : Nat} {lv : Nat → Bool} (hl : ∀ o, lv o = true → iv (ad o) = some o) (hI : ∀ q o, iv q = some o → ad o = q) {κ : zzM} {ν : zzN} : zLe id (g_X1_fitsItsCloth_69 lv κ ν) (f_X1_fitsItsCloth_69  (zc h ad iv t0 κ ν)) := by
  unfold g_X1_fitsItsCloth_69 f_X1_fitsItsCloth_69
  exact sm_some rfl
set_option maxHeartbeats 4000000 in
set_option maxRecDepth 100000 in
theorem sc_X1_fitsItsCloth_22 {h : zz_H} {ad : Nat → Nat} {iv : Nat → Option Nat} {t0 : Nat} {lv : Nat → Bool} (hl : ∀ o, lv o = true → iv (ad o) = some o) (hI : ∀ q o, iv q = some o → ad o = q) {a0 : Nat} {x1 : Int32} {κ : zzM} {ν : zzN} : zLe id (g_X1_fitsItsCloth_22 lv a0 x1 κ ν) (f_X1_fitsItsCloth_22 (ad a0) x1 (zc h ad iv t0 κ ν)) := by
  unfold g_X1_fitsItsCloth_22 f_X1_fitsItsCloth_22
  refine sc_gi hl hI (fun _ _ _ _ _ => rfl) ?_
  refine sm_if (fun c => ?_) (fun c => ?_)
  · exact sm_some rfl
  · refine sc_ob hl hI ?_
    refine sc_b (sc_X1_placeAt hl hI) (fun v32 => ?_)
    refine sc_gn hl hI ?_
    refine sc_gi hl hI (fun _ _ _ _ _ => rfl) ?_
    refine sc_obn hl hI (fun b46 => ?_)
    refine sc_b (sc_X0_nextMatch hl hI) (fun v46 => ?_)
    refine sm_if (fun c => ?_) (fun c => ?_)
    · refine sc_gn hl hI ?_
      refine sc_gi hl hI (fun _ _ _ _ _ => rfl) ?_
      refine sc_obn hl hI (fun b63 => ?_)
      refine sc_b (sc_X0_hasFlaw hl hI) (fun v63 => ?_)
      refine sm_if (fun c => ?_) (fun c => ?_)
      · exact sm_some rfl
      · refine sm_map01 ?_
        exact sc_X1_fitsItsCloth_69 hl hI
    · refine sm_map01 ?_
      exact sc_X1_fitsItsCloth_69 hl hI
set_option maxHeartbeats 4000000 in
set_option maxRecDepth 100000 in
theorem sc_X1_fitsItsCloth_19 {h : zz_H} {ad : Nat → Nat} {iv : Nat → Option Nat} {t0 : Nat} {lv : Nat → Bool} (hl : ∀ o, lv o = true → iv (ad o) = some o) (hI : ∀ q o, iv q = some o → ad o = q) {s0 : Int32} {κ : zzM} {ν : zzN} : zLe id (g_X1_fitsItsCloth_19 lv s0 κ ν) (f_X1_fitsItsCloth_19 s0 (zc h ad iv t0 κ ν)) := by
  unfold g_X1_fitsItsCloth_19 f_X1_fitsItsCloth_19
  refine sm_gz ?_
  exact sm_some rfl
set_option maxHeartbeats 4000000 in
set_option maxRecDepth 100000 in
theorem sc_X1_fitsItsCloth {h : zz_H} {ad : Nat → Nat} {iv : Nat → Option Nat} {t0 : Nat} {lv : Nat → Bool} (hl : ∀ o, lv o = true → iv (ad o) = some o) (hI : ∀ q o, iv q = some o → ad o = q) {a0 : Nat} {κ : zzM} {ν : zzN} : zLe id (g_X1_fitsItsCloth lv a0 κ ν) (f_X1_fitsItsCloth (ad a0) (zc h ad iv t0 κ ν)) := by
  unfold g_X1_fitsItsCloth f_X1_fitsItsCloth
  refine sc_gn hl hI ?_
  refine sc_null (fun c => ?_) (fun c => ?_)
  · refine sc_gi hl hI (fun _ _ _ _ _ => rfl) ?_
    refine sm_if (fun c => ?_) (fun c => ?_)
    · exact sc_X1_fitsItsCloth_19 hl hI
    · exact sc_X1_fitsItsCloth_19 hl hI
  · refine sm_it0 (fun s => ?_)
    exact sc_X1_fitsItsCloth_22 hl hI
set_option maxHeartbeats 4000000 in
set_option maxRecDepth 100000 in
theorem sc_X1_overlaps_100 {h : zz_H} {ad : Nat → Nat} {iv : Nat → Option Nat} {t0 : Nat} {lv : Nat → Bool} (hl : ∀ o, lv o = true → iv (ad o) = some o) (hI : ∀ q o, iv q = some o → ad o = q) {a0 : Nat} {x1 : Nat} {x2 : Int32} {x3 : Int32} {κ : zzM} {ν : zzN} : zLe id (g_X1_overlaps_100 lv a0 x1 x2 x3 κ ν) (f_X1_overlaps_100 (ad a0) (some (ad x1)) x2 x3 (zc h ad iv t0 κ ν)) := by
  unfold g_X1_overlaps_100 f_X1_overlaps_100
  exact sm_some rfl
set_option maxHeartbeats 4000000 in
set_option maxRecDepth 100000 in
theorem sc_X1_overlaps_55 {h : zz_H} {ad : Nat → Nat} {iv : Nat → Option Nat} {t0 : Nat} {lv : Nat → Bool} (hl : ∀ o, lv o = true → iv (ad o) = some o) (hI : ∀ q o, iv q = some o → ad o = q) {a0 : Nat} {x1 : Nat} {x2 : Int32} {x3 : Int32} {s0 : Int32} {κ : zzM} {ν : zzN} : zLe id (g_X1_overlaps_55 lv a0 x1 x2 x3 s0 κ ν) (f_X1_overlaps_55 (ad a0) (some (ad x1)) x2 x3 s0 (zc h ad iv t0 κ ν)) := by
  unfold g_X1_overlaps_55 f_X1_overlaps_55
  refine sm_if (fun c => ?_) (fun c => ?_)
  · refine sc_ob hl hI ?_
    refine sc_b (sc_X1_placeAt hl hI) (fun v64 => ?_)
    refine sc_ob hl hI ?_
    refine sc_b (sc_X1_placeAt hl hI) (fun v69 => ?_)
    refine sc_gi hl hI (fun _ _ _ _ _ => rfl) ?_
    refine sm_if (fun c => ?_) (fun c => ?_)
    · exact sc_X1_overlaps_100 hl hI
    · refine sc_ob hl hI ?_
      refine sc_b (sc_X1_placeAt hl hI) (fun v82 => ?_)
      refine sc_ob hl hI ?_
      refine sc_b (sc_X1_placeAt hl hI) (fun v87 => ?_)
      refine sc_gi hl hI (fun _ _ _ _ _ => rfl) ?_
      refine sm_if (fun c => ?_) (fun c => ?_)
      · exact sc_X1_overlaps_100 hl hI
      · exact sm_some rfl
  · exact sc_X1_overlaps_100 hl hI
set_option maxHeartbeats 4000000 in
set_option maxRecDepth 100000 in
theorem sc_X1_overlaps_54 {h : zz_H} {ad : Nat → Nat} {iv : Nat → Option Nat} {t0 : Nat} {lv : Nat → Bool} (hl : ∀ o, lv o = true → iv (ad o) = some o) (hI : ∀ q o, iv q = some o → ad o = q) {a0 : Nat} {x1 : Nat} {x2 : Int32} {x3 : Int32} {κ : zzM} {ν : zzN} : zLe id (g_X1_overlaps_54 lv a0 x1 x2 x3 κ ν) (f_X1_overlaps_54 (ad a0) (some (ad x1)) x2 x3 (zc h ad iv t0 κ ν)) := by
  unfold g_X1_overlaps_54 f_X1_overlaps_54
  exact sc_X1_overlaps_55 hl hI
set_option maxHeartbeats 4000000 in
set_option maxRecDepth 100000 in
theorem sc_X1_overlaps_32 {h : zz_H} {ad : Nat → Nat} {iv : Nat → Option Nat} {t0 : Nat} {lv : Nat → Bool} (hl : ∀ o, lv o = true → iv (ad o) = some o) (hI : ∀ q o, iv q = some o → ad o = q) {a0 : Nat} {x1 : Nat} {x2 : Int32} {x3 : Int32} {κ : zzM} {ν : zzN} : zLe id (g_X1_overlaps_32 lv a0 x1 x2 x3 κ ν) (f_X1_overlaps_32 (ad a0) (some (ad x1)) x2 x3 (zc h ad iv t0 κ ν)) := by
  unfold g_X1_overlaps_32 f_X1_overlaps_32
  refine sc_gi hl hI (fun _ _ _ _ _ => rfl) ?_
  refine sm_if (fun c => ?_) (fun c => ?_)
  · exact sm_some rfl
  · refine sc_acmp hl hI (fun c => ?_) (fun c => ?_)
    · refine sm_if (fun c => ?_) (fun c => ?_)
      · exact sc_X1_overlaps_55 hl hI
      · exact sc_X1_overlaps_54 hl hI
    · exact sc_X1_overlaps_54 hl hI
set_option maxHeartbeats 4000000 in
set_option maxRecDepth 100000 in
theorem sc_X1_overlaps_22 {h : zz_H} {ad : Nat → Nat} {iv : Nat → Option Nat} {t0 : Nat} {lv : Nat → Bool} (hl : ∀ o, lv o = true → iv (ad o) = some o) (hI : ∀ q o, iv q = some o → ad o = q) {a0 : Nat} {x1 : Nat} {x2 : Int32} {κ : zzM} {ν : zzN} : zLe id (g_X1_overlaps_22 lv a0 x1 x2 κ ν) (f_X1_overlaps_22 (ad a0) (some (ad x1)) x2 (zc h ad iv t0 κ ν)) := by
  unfold g_X1_overlaps_22 f_X1_overlaps_22
  refine sc_gi hl hI (fun _ _ _ _ _ => rfl) ?_
  refine sm_if (fun c => ?_) (fun c => ?_)
  · exact sm_some rfl
  · refine sm_it0 (fun s => ?_)
    exact sc_X1_overlaps_32 hl hI
set_option maxHeartbeats 4000000 in
set_option maxRecDepth 100000 in
theorem sc_X1_overlaps_18 {h : zz_H} {ad : Nat → Nat} {iv : Nat → Option Nat} {t0 : Nat} {lv : Nat → Bool} (hl : ∀ o, lv o = true → iv (ad o) = some o) (hI : ∀ q o, iv q = some o → ad o = q) {κ : zzM} {ν : zzN} : zLe id (g_X1_overlaps_18 lv κ ν) (f_X1_overlaps_18  (zc h ad iv t0 κ ν)) := by
  unfold g_X1_overlaps_18 f_X1_overlaps_18
  exact sm_some rfl
set_option maxHeartbeats 4000000 in
set_option maxRecDepth 100000 in
theorem sc_X1_overlaps {h : zz_H} {ad : Nat → Nat} {iv : Nat → Option Nat} {t0 : Nat} {lv : Nat → Bool} (hl : ∀ o, lv o = true → iv (ad o) = some o) (hI : ∀ q o, iv q = some o → ad o = q) {a0 : Nat} {x1 : Nat} {κ : zzM} {ν : zzN} : zLe id (g_X1_overlaps lv a0 x1 κ ν) (f_X1_overlaps (ad a0) (some (ad x1)) (zc h ad iv t0 κ ν)) := by
  unfold g_X1_overlaps f_X1_overlaps
  refine sc_gn hl hI ?_
  refine sc_null (fun c => ?_) (fun c => ?_)
  · exact sc_X1_overlaps_18 hl hI
  · refine sc_gn hl hI ?_
    refine sc_gn hl hI ?_
    refine sc_acmp hl hI (fun c => ?_) (fun c => ?_)
    · refine sm_it0 (fun s => ?_)
      exact sc_X1_overlaps_22 hl hI
    · exact sc_X1_overlaps_18 hl hI
set_option maxHeartbeats 4000000 in
set_option maxRecDepth 100000 in
theorem sc_X2_count {h : zz_H} {ad : Nat → Nat} {iv : Nat → Option Nat} {t0 : Nat} {lv : Nat → Bool} (hl : ∀ o, lv o = true → iv (ad o) = some o) (hI : ∀ q o, iv q = some o → ad o = q) {a0 : Nat} {κ : zzM} {ν : zzN} : zLe id (g_X2_count lv a0 κ ν) (f_X2_count (ad a0) (zc h ad iv t0 κ ν)) := by
  unfold g_X2_count f_X2_count
  refine sc_gq hl hI (δ := 1) (fun _ _ _ _ _ => rfl) ?_
  refine sc_ob hl hI ?_
  refine sc_size hl hI ?_
  exact sm_some rfl
set_option maxHeartbeats 4000000 in
set_option maxRecDepth 100000 in
theorem sc_X9_quotient_14 {h : zz_H} {ad : Nat → Nat} {iv : Nat → Option Nat} {t0 : Nat} {lv : Nat → Bool} (hl : ∀ o, lv o = true → iv (ad o) = some o) (hI : ∀ q o, iv q = some o → ad o = q) {s0 : Int32} {κ : zzM} {ν : zzN} : zLe id (g_X9_quotient_14 lv s0 κ ν) (f_X9_quotient_14 s0 (zc h ad iv t0 κ ν)) := by
  unfold g_X9_quotient_14 f_X9_quotient_14
  exact sm_some rfl
set_option maxHeartbeats 4000000 in
set_option maxRecDepth 100000 in
theorem sc_X9_quotient {h : zz_H} {ad : Nat → Nat} {iv : Nat → Option Nat} {t0 : Nat} {lv : Nat → Bool} (hl : ∀ o, lv o = true → iv (ad o) = some o) (hI : ∀ q o, iv q = some o → ad o = q) {x0 : Int64} {x2 : Int64} {κ : zzM} {ν : zzN} : zLe id (g_X9_quotient lv x0 x2 κ ν) (f_X9_quotient x0 x2 (zc h ad iv t0 κ ν)) := by
  unfold g_X9_quotient f_X9_quotient
  refine sm_if (fun c => ?_) (fun c => ?_)
  · exact sc_X9_quotient_14 hl hI
  · refine sm_dl ?_
    exact sc_X9_quotient_14 hl hI
set_option maxHeartbeats 4000000 in
set_option maxRecDepth 100000 in
theorem sc_X6_settle_48 {h : zz_H} {ad : Nat → Nat} {iv : Nat → Option Nat} {t0 : Nat} {lv : Nat → Bool} (hl : ∀ o, lv o = true → iv (ad o) = some o) (hI : ∀ q o, iv q = some o → ad o = q) {a0 : Nat} {s0 : Int32} {s1 : Int64} {κ : zzM} {ν : zzN} : zLe (fun r : (Unit × zzM × zzN) => (r.1, zc h ad iv t0 r.2.1 r.2.2)) (g_X6_settle_48 lv a0 s0 s1 κ ν) (f_X6_settle_48 (ad a0) s0 s1 (zc h ad iv t0 κ ν)) := by
  unfold g_X6_settle_48 f_X6_settle_48
  refine sc_gi hl hI (fun _ _ _ _ _ => rfl) ?_
  refine sc_gi hl hI (fun _ _ _ _ _ => rfl) ?_
  refine sc_gl hl hI (fun _ _ _ _ _ => rfl) ?_
  refine sc_gl hl hI (fun _ _ _ _ _ => rfl) ?_
  refine sc_b (sc_X9_quotient hl hI) (fun v76 => ?_)
  refine sc_p hl hI (fun _ _ _ _ _ _ => ⟨rfl, Nat.le_of_ble_eq_true rfl⟩) ?_
  exact sm_some rfl
set_option maxHeartbeats 4000000 in
set_option maxRecDepth 100000 in
theorem sc_X6_settle {h : zz_H} {ad : Nat → Nat} {iv : Nat → Option Nat} {t0 : Nat} {lv : Nat → Bool} (hl : ∀ o, lv o = true → iv (ad o) = some o) (hI : ∀ q o, iv q = some o → ad o = q) {a0 : Nat} {x1 : Int32} {κ : zzM} {ν : zzN} : zLe (fun r : (Unit × zzM × zzN) => (r.1, zc h ad iv t0 r.2.1 r.2.2)) (g_X6_settle lv a0 x1 κ ν) (f_X6_settle (ad a0) x1 (zc h ad iv t0 κ ν)) := by
  unfold g_X6_settle f_X6_settle
  refine sc_gl hl hI (fun _ _ _ _ _ => rfl) ?_
  refine sc_pl hl hI (fun _ _ _ _ _ _ => ⟨rfl, Nat.le_of_ble_eq_true rfl⟩) ?_
  refine sc_gi hl hI (fun _ _ _ _ _ => rfl) ?_
  refine sc_gi hl hI (fun _ _ _ _ _ => rfl) ?_
  refine sm_if (fun c => ?_) (fun c => ?_)
  · exact sc_X6_settle_48 hl hI
  · refine sc_gi hl hI (fun _ _ _ _ _ => rfl) ?_
    refine sm_if (fun c => ?_) (fun c => ?_)
    · exact sc_X6_settle_48 hl hI
    · exact sc_X6_settle_48 hl hI
set_option maxHeartbeats 4000000 in
set_option maxRecDepth 100000 in
theorem sc_X2_settle_2 {h : zz_H} {ad : Nat → Nat} {iv : Nat → Option Nat} {t0 : Nat} {lv : Nat → Bool} (hl : ∀ o, lv o = true → iv (ad o) = some o) (hI : ∀ q o, iv q = some o → ad o = q) {a0 : Nat} {x1 : Int32} {x2 : Int32} {κ : zzM} {ν : zzN} : zLe (Sum.map (fun s : (Int32 × zzM × zzN) => (s.1, zc h ad iv t0 s.2.1 s.2.2)) (fun r : (Unit × zzM × zzN) => (r.1, zc h ad iv t0 r.2.1 r.2.2))) (g_X2_settle_2 lv a0 x1 x2 κ ν) (f_X2_settle_2 (ad a0) x1 x2 (zc h ad iv t0 κ ν)) := by
  unfold g_X2_settle_2 f_X2_settle_2
  refine sc_gq hl hI (δ := 1) (fun _ _ _ _ _ => rfl) ?_
  refine sc_ob hl hI ?_
  refine sc_size hl hI ?_
  refine sm_if (fun c => ?_) (fun c => ?_)
  · exact sm_some rfl
  · refine sc_gq hl hI (δ := 1) (fun _ _ _ _ _ => rfl) ?_
    refine sc_ob hl hI ?_
    refine sc_get hl hI (fun v18 => ?_)
    refine sc_cc hl hI ?_
    refine sc_ob hl hI ?_
    refine sc_b1 (sc_X6_settle hl hI) (fun u25 m25 q25 => ?_)
    exact sm_some rfl
set_option maxHeartbeats 4000000 in
set_option maxRecDepth 100000 in
theorem sc_X2_settle {h : zz_H} {ad : Nat → Nat} {iv : Nat → Option Nat} {t0 : Nat} {lv : Nat → Bool} (hl : ∀ o, lv o = true → iv (ad o) = some o) (hI : ∀ q o, iv q = some o → ad o = q) {a0 : Nat} {x1 : Int32} {κ : zzM} {ν : zzN} : zLe (fun r : (Unit × zzM × zzN) => (r.1, zc h ad iv t0 r.2.1 r.2.2)) (g_X2_settle lv a0 x1 κ ν) (f_X2_settle (ad a0) x1 (zc h ad iv t0 κ ν)) := by
  unfold g_X2_settle f_X2_settle
  refine sm_it (cs := (fun s : (Int32 × zzM × zzN) => (s.1, zc h ad iv t0 s.2.1 s.2.2))) (fun s => ?_)
  exact sc_X2_settle_2 hl hI
set_option maxHeartbeats 4000000 in
set_option maxRecDepth 100000 in
theorem sc_X2_thicknessInAll_4 {h : zz_H} {ad : Nat → Nat} {iv : Nat → Option Nat} {t0 : Nat} {lv : Nat → Bool} (hl : ∀ o, lv o = true → iv (ad o) = some o) (hI : ∀ q o, iv q = some o → ad o = q) {a0 : Nat} {x1 : Int32} {x2 : Int32} {κ : zzM} {ν : zzN} : zLe id (g_X2_thicknessInAll_4 lv a0 x1 x2 κ ν) (f_X2_thicknessInAll_4 (ad a0) x1 x2 (zc h ad iv t0 κ ν)) := by
  unfold g_X2_thicknessInAll_4 f_X2_thicknessInAll_4
  refine sc_gq hl hI (δ := 1) (fun _ _ _ _ _ => rfl) ?_
  refine sc_ob hl hI ?_
  refine sc_size hl hI ?_
  refine sm_if (fun c => ?_) (fun c => ?_)
  · exact sm_some rfl
  · refine sc_gq hl hI (δ := 1) (fun _ _ _ _ _ => rfl) ?_
    refine sc_ob hl hI ?_
    refine sc_get hl hI (fun v21 => ?_)
    refine sc_cc hl hI ?_
    refine sc_gi hl hI (fun _ _ _ _ _ => rfl) ?_
    exact sm_some rfl
set_option maxHeartbeats 4000000 in
set_option maxRecDepth 100000 in
theorem sc_X2_thicknessInAll {h : zz_H} {ad : Nat → Nat} {iv : Nat → Option Nat} {t0 : Nat} {lv : Nat → Bool} (hl : ∀ o, lv o = true → iv (ad o) = some o) (hI : ∀ q o, iv q = some o → ad o = q) {a0 : Nat} {κ : zzM} {ν : zzN} : zLe id (g_X2_thicknessInAll lv a0 κ ν) (f_X2_thicknessInAll (ad a0) (zc h ad iv t0 κ ν)) := by
  unfold g_X2_thicknessInAll f_X2_thicknessInAll
  refine sm_it0 (fun s => ?_)
  exact sc_X2_thicknessInAll_4 hl hI
set_option maxHeartbeats 4000000 in
set_option maxRecDepth 100000 in
theorem sc_X6_sinkingUnder {h : zz_H} {ad : Nat → Nat} {iv : Nat → Option Nat} {t0 : Nat} {lv : Nat → Bool} (hl : ∀ o, lv o = true → iv (ad o) = some o) (hI : ∀ q o, iv q = some o → ad o = q) {a0 : Nat} {x1 : Int32} {κ : zzM} {ν : zzN} : zLe id (g_X6_sinkingUnder lv a0 x1 κ ν) (f_X6_sinkingUnder (ad a0) x1 (zc h ad iv t0 κ ν)) := by
  unfold g_X6_sinkingUnder f_X6_sinkingUnder
  refine sc_gi hl hI (fun _ _ _ _ _ => rfl) ?_
  refine sc_gi hl hI (fun _ _ _ _ _ => rfl) ?_
  refine sc_gi hl hI (fun _ _ _ _ _ => rfl) ?_
  refine sc_b (sc_X9_quotient hl hI) (fun v19 => ?_)
  exact sm_some rfl
set_option maxHeartbeats 4000000 in
set_option maxRecDepth 100000 in
theorem sc_X2_sinkingUnder_4 {h : zz_H} {ad : Nat → Nat} {iv : Nat → Option Nat} {t0 : Nat} {lv : Nat → Bool} (hl : ∀ o, lv o = true → iv (ad o) = some o) (hI : ∀ q o, iv q = some o → ad o = q) {a0 : Nat} {x1 : Int32} {x2 : Int32} {x3 : Int32} {κ : zzM} {ν : zzN} : zLe id (g_X2_sinkingUnder_4 lv a0 x1 x2 x3 κ ν) (f_X2_sinkingUnder_4 (ad a0) x1 x2 x3 (zc h ad iv t0 κ ν)) := by
  unfold g_X2_sinkingUnder_4 f_X2_sinkingUnder_4
  refine sc_gq hl hI (δ := 1) (fun _ _ _ _ _ => rfl) ?_
  refine sc_ob hl hI ?_
  refine sc_size hl hI ?_
  refine sm_if (fun c => ?_) (fun c => ?_)
  · exact sm_some rfl
  · refine sc_gq hl hI (δ := 1) (fun _ _ _ _ _ => rfl) ?_
    refine sc_ob hl hI ?_
    refine sc_get hl hI (fun v21 => ?_)
    refine sc_cc hl hI ?_
    refine sc_ob hl hI ?_
    refine sc_b (sc_X6_sinkingUnder hl hI) (fun v28 => ?_)
    exact sm_some rfl
set_option maxHeartbeats 4000000 in
set_option maxRecDepth 100000 in
theorem sc_X2_sinkingUnder {h : zz_H} {ad : Nat → Nat} {iv : Nat → Option Nat} {t0 : Nat} {lv : Nat → Bool} (hl : ∀ o, lv o = true → iv (ad o) = some o) (hI : ∀ q o, iv q = some o → ad o = q) {a0 : Nat} {x1 : Int32} {κ : zzM} {ν : zzN} : zLe id (g_X2_sinkingUnder lv a0 x1 κ ν) (f_X2_sinkingUnder (ad a0) x1 (zc h ad iv t0 κ ν)) := by
  unfold g_X2_sinkingUnder f_X2_sinkingUnder
  refine sm_it0 (fun s => ?_)
  exact sc_X2_sinkingUnder_4 hl hI
set_option maxHeartbeats 4000000 in
set_option maxRecDepth 100000 in
theorem sc_X6_price_31 {h : zz_H} {ad : Nat → Nat} {iv : Nat → Option Nat} {t0 : Nat} {lv : Nat → Bool} (hl : ∀ o, lv o = true → iv (ad o) = some o) (hI : ∀ q o, iv q = some o → ad o = q) {s0 : Int32} {s1 : Int32} {κ : zzM} {ν : zzN} : zLe id (g_X6_price_31 lv s0 s1 κ ν) (f_X6_price_31 s0 s1 (zc h ad iv t0 κ ν)) := by
  unfold g_X6_price_31 f_X6_price_31
  exact sm_some rfl
set_option maxHeartbeats 4000000 in
set_option maxRecDepth 100000 in
theorem sc_X6_price {h : zz_H} {ad : Nat → Nat} {iv : Nat → Option Nat} {t0 : Nat} {lv : Nat → Bool} (hl : ∀ o, lv o = true → iv (ad o) = some o) (hI : ∀ q o, iv q = some o → ad o = q) {a0 : Nat} {κ : zzM} {ν : zzN} : zLe id (g_X6_price lv a0 κ ν) (f_X6_price (ad a0) (zc h ad iv t0 κ ν)) := by
  unfold g_X6_price f_X6_price
  refine sc_gi hl hI (fun _ _ _ _ _ => rfl) ?_
  refine sc_gi hl hI (fun _ _ _ _ _ => rfl) ?_
  refine sm_if (fun c => ?_) (fun c => ?_)
  · exact sc_X6_price_31 hl hI
  · refine sc_gi hl hI (fun _ _ _ _ _ => rfl) ?_
    refine sm_if (fun c => ?_) (fun c => ?_)
    · exact sc_X6_price_31 hl hI
    · exact sc_X6_price_31 hl hI
set_option maxHeartbeats 4000000 in
set_option maxRecDepth 100000 in
theorem sc_X2_price_4 {h : zz_H} {ad : Nat → Nat} {iv : Nat → Option Nat} {t0 : Nat} {lv : Nat → Bool} (hl : ∀ o, lv o = true → iv (ad o) = some o) (hI : ∀ q o, iv q = some o → ad o = q) {a0 : Nat} {x1 : Int32} {x2 : Int32} {κ : zzM} {ν : zzN} : zLe id (g_X2_price_4 lv a0 x1 x2 κ ν) (f_X2_price_4 (ad a0) x1 x2 (zc h ad iv t0 κ ν)) := by
  unfold g_X2_price_4 f_X2_price_4
  refine sc_gq hl hI (δ := 1) (fun _ _ _ _ _ => rfl) ?_
  refine sc_ob hl hI ?_
  refine sc_size hl hI ?_
  refine sm_if (fun c => ?_) (fun c => ?_)
  · exact sm_some rfl
  · refine sc_gq hl hI (δ := 1) (fun _ _ _ _ _ => rfl) ?_
    refine sc_ob hl hI ?_
    refine sc_get hl hI (fun v21 => ?_)
    refine sc_cc hl hI ?_
    refine sc_ob hl hI ?_
    refine sc_b (sc_X6_price hl hI) (fun v27 => ?_)
    exact sm_some rfl
set_option maxHeartbeats 4000000 in
set_option maxRecDepth 100000 in
theorem sc_X2_price {h : zz_H} {ad : Nat → Nat} {iv : Nat → Option Nat} {t0 : Nat} {lv : Nat → Bool} (hl : ∀ o, lv o = true → iv (ad o) = some o) (hI : ∀ q o, iv q = some o → ad o = q) {a0 : Nat} {κ : zzM} {ν : zzN} : zLe id (g_X2_price lv a0 κ ν) (f_X2_price (ad a0) (zc h ad iv t0 κ ν)) := by
  unfold g_X2_price f_X2_price
  refine sm_it0 (fun s => ?_)
  exact sc_X2_price_4 hl hI
set_option maxHeartbeats 4000000 in
set_option maxRecDepth 100000 in
theorem sc_X3_loosenTies {h : zz_H} {ad : Nat → Nat} {iv : Nat → Option Nat} {t0 : Nat} {lv : Nat → Bool} (hl : ∀ o, lv o = true → iv (ad o) = some o) (hI : ∀ q o, iv q = some o → ad o = q) {a0 : Nat} {κ : zzM} {ν : zzN} : zLe (fun r : (Unit × zzM × zzN) => (r.1, zc h ad iv t0 r.2.1 r.2.2)) (g_X3_loosenTies lv a0 κ ν) (f_X3_loosenTies (ad a0) (zc h ad iv t0 κ ν)) := by
  unfold g_X3_loosenTies f_X3_loosenTies
  refine sc_gq hl hI (δ := 1000) (fun _ _ _ _ _ => rfl) ?_
  refine sc_fil hl hI (fun m6 => ?_)
  refine sc_gq hl hI (δ := 2000) (fun _ _ _ _ _ => rfl) ?_
  refine sc_fil hl hI (fun m15 => ?_)
  exact sm_some rfl
set_option maxHeartbeats 4000000 in
set_option maxRecDepth 100000 in
theorem sc_X3_cellCount {h : zz_H} {ad : Nat → Nat} {iv : Nat → Option Nat} {t0 : Nat} {lv : Nat → Bool} (hl : ∀ o, lv o = true → iv (ad o) = some o) (hI : ∀ q o, iv q = some o → ad o = q) {a0 : Nat} {κ : zzM} {ν : zzN} : zLe id (g_X3_cellCount lv a0 κ ν) (f_X3_cellCount (ad a0) (zc h ad iv t0 κ ν)) := by
  unfold g_X3_cellCount f_X3_cellCount
  refine sc_gi hl hI (fun _ _ _ _ _ => rfl) ?_
  refine sc_gi hl hI (fun _ _ _ _ _ => rfl) ?_
  exact sm_some rfl
set_option maxHeartbeats 4000000 in
set_option maxRecDepth 100000 in
theorem sc_X3_cellAt_28 {h : zz_H} {ad : Nat → Nat} {iv : Nat → Option Nat} {t0 : Nat} {lv : Nat → Bool} (hl : ∀ o, lv o = true → iv (ad o) = some o) (hI : ∀ q o, iv q = some o → ad o = q) {s0 : Int32} {κ : zzM} {ν : zzN} : zLe id (g_X3_cellAt_28 lv s0 κ ν) (f_X3_cellAt_28 s0 (zc h ad iv t0 κ ν)) := by
  unfold g_X3_cellAt_28 f_X3_cellAt_28
  exact sm_some rfl
set_option maxHeartbeats 4000000 in
set_option maxRecDepth 100000 in
theorem sc_X3_cellAt {h : zz_H} {ad : Nat → Nat} {iv : Nat → Option Nat} {t0 : Nat} {lv : Nat → Bool} (hl : ∀ o, lv o = true → iv (ad o) = some o) (hI : ∀ q o, iv q = some o → ad o = q) {a0 : Nat} {x1 : Int32} {κ : zzM} {ν : zzN} : zLe id (g_X3_cellAt lv a0 x1 κ ν) (f_X3_cellAt (ad a0) x1 (zc h ad iv t0 κ ν)) := by
  unfold g_X3_cellAt f_X3_cellAt
  refine sc_gi hl hI (fun _ _ _ _ _ => rfl) ?_
  refine sm_if (fun c => ?_) (fun c => ?_)
  · refine sc_gi hl hI (fun _ _ _ _ _ => rfl) ?_
    refine sm_dv ?_
    refine sc_gi hl hI (fun _ _ _ _ _ => rfl) ?_
    refine sm_dv ?_
    exact sc_X3_cellAt_28 hl hI
  · exact sc_X3_cellAt_28 hl hI
set_option maxHeartbeats 4000000 in
set_option maxRecDepth 100000 in
theorem sc_X4_put_20 {h : zz_H} {ad : Nat → Nat} {iv : Nat → Option Nat} {t0 : Nat} {lv : Nat → Bool} (hl : ∀ o, lv o = true → iv (ad o) = some o) (hI : ∀ q o, iv q = some o → ad o = q) {κ : zzM} {ν : zzN} : zLe (fun r : (Unit × zzM × zzN) => (r.1, zc h ad iv t0 r.2.1 r.2.2)) (g_X4_put_20 lv κ ν) (f_X4_put_20  (zc h ad iv t0 κ ν)) := by
  unfold g_X4_put_20 f_X4_put_20
  exact sm_some rfl
set_option maxHeartbeats 4000000 in
set_option maxRecDepth 100000 in
theorem sc_X4_put {h : zz_H} {ad : Nat → Nat} {iv : Nat → Option Nat} {t0 : Nat} {lv : Nat → Bool} (hl : ∀ o, lv o = true → iv (ad o) = some o) (hI : ∀ q o, iv q = some o → ad o = q) {a0 : Nat} {x1 : Int32} {x2 : Int32} {κ : zzM} {ν : zzN} : zLe (fun r : (Unit × zzM × zzN) => (r.1, zc h ad iv t0 r.2.1 r.2.2)) (g_X4_put lv a0 x1 x2 κ ν) (f_X4_put (ad a0) x1 x2 (zc h ad iv t0 κ ν)) := by
  unfold g_X4_put f_X4_put
  refine sm_if (fun c => ?_) (fun c => ?_)
  · exact sc_X4_put_20 hl hI
  · refine sc_gq hl hI (δ := 1000) (fun _ _ _ _ _ => rfl) ?_
    refine sc_len hl hI (fun v9 => ?_)
    refine sm_if (fun c => ?_) (fun c => ?_)
    · exact sc_X4_put_20 hl hI
    · refine sc_gq hl hI (δ := 1000) (fun _ _ _ _ _ => rfl) ?_
      refine sc_si hl hI (fun m19 => ?_)
      exact sc_X4_put_20 hl hI
set_option maxHeartbeats 4000000 in
set_option maxRecDepth 100000 in
theorem sc_X3_putSpring {h : zz_H} {ad : Nat → Nat} {iv : Nat → Option Nat} {t0 : Nat} {lv : Nat → Bool} (hl : ∀ o, lv o = true → iv (ad o) = some o) (hI : ∀ q o, iv q = some o → ad o = q) {a0 : Nat} {x1 : Int32} {x2 : Int32} {x3 : Int32} {κ : zzM} {ν : zzN} : zLe (fun r : (Unit × zzM × zzN) => (r.1, zc h ad iv t0 r.2.1 r.2.2)) (g_X3_putSpring lv a0 x1 x2 x3 κ ν) (f_X3_putSpring (ad a0) x1 x2 x3 (zc h ad iv t0 κ ν)) := by
  unfold g_X3_putSpring f_X3_putSpring
  refine sc_gq hl hI (δ := 1) (fun _ _ _ _ _ => rfl) ?_
  refine sc_ob hl hI ?_
  refine sc_b1 (sc_X4_put hl hI) (fun u6 m6 q6 => ?_)
  refine sc_gq hl hI (δ := 2) (fun _ _ _ _ _ => rfl) ?_
  refine sc_ob hl hI ?_
  refine sc_b1 (sc_X4_put hl hI) (fun u15 m15 q15 => ?_)
  exact sm_some rfl
set_option maxHeartbeats 4000000 in
set_option maxRecDepth 100000 in
theorem sc_X3_putSprings_2 {h : zz_H} {ad : Nat → Nat} {iv : Nat → Option Nat} {t0 : Nat} {lv : Nat → Bool} (hl : ∀ o, lv o = true → iv (ad o) = some o) (hI : ∀ q o, iv q = some o → ad o = q) {a0 : Nat} {x1 : Int32} {x2 : Int32} {x3 : Int32} {κ : zzM} {ν : zzN} : zLe (Sum.map (fun s : (Int32 × zzM × zzN) => (s.1, zc h ad iv t0 s.2.1 s.2.2)) (fun r : (Unit × zzM × zzN) => (r.1, zc h ad iv t0 r.2.1 r.2.2))) (g_X3_putSprings_2 lv a0 x1 x2 x3 κ ν) (f_X3_putSprings_2 (ad a0) x1 x2 x3 (zc h ad iv t0 κ ν)) := by
  unfold g_X3_putSprings_2 f_X3_putSprings_2
  refine sc_ob hl hI ?_
  refine sc_b (sc_X3_cellCount hl hI) (fun v4 => ?_)
  refine sm_if (fun c => ?_) (fun c => ?_)
  · exact sm_some rfl
  · refine sc_ob hl hI ?_
    refine sc_b (sc_X3_cellAt hl hI) (fun v13 => ?_)
    refine sc_ob hl hI ?_
    refine sc_b1 (sc_X3_putSpring hl hI) (fun u18 m18 q18 => ?_)
    exact sm_some rfl
set_option maxHeartbeats 4000000 in
set_option maxRecDepth 100000 in
theorem sc_X3_putSprings {h : zz_H} {ad : Nat → Nat} {iv : Nat → Option Nat} {t0 : Nat} {lv : Nat → Bool} (hl : ∀ o, lv o = true → iv (ad o) = some o) (hI : ∀ q o, iv q = some o → ad o = q) {a0 : Nat} {x1 : Int32} {x2 : Int32} {κ : zzM} {ν : zzN} : zLe (fun r : (Unit × zzM × zzN) => (r.1, zc h ad iv t0 r.2.1 r.2.2)) (g_X3_putSprings lv a0 x1 x2 κ ν) (f_X3_putSprings (ad a0) x1 x2 (zc h ad iv t0 κ ν)) := by
  unfold g_X3_putSprings f_X3_putSprings
  refine sm_it (cs := (fun s : (Int32 × zzM × zzN) => (s.1, zc h ad iv t0 s.2.1 s.2.2))) (fun s => ?_)
  exact sc_X3_putSprings_2 hl hI
set_option maxHeartbeats 4000000 in
set_option maxRecDepth 100000 in
theorem sc_X3_setTie_33 {h : zz_H} {ad : Nat → Nat} {iv : Nat → Option Nat} {t0 : Nat} {lv : Nat → Bool} (hl : ∀ o, lv o = true → iv (ad o) = some o) (hI : ∀ q o, iv q = some o → ad o = q) {κ : zzM} {ν : zzN} : zLe (fun r : (Unit × zzM × zzN) => (r.1, zc h ad iv t0 r.2.1 r.2.2)) (g_X3_setTie_33 lv κ ν) (f_X3_setTie_33  (zc h ad iv t0 κ ν)) := by
  unfold g_X3_setTie_33 f_X3_setTie_33
  exact sm_some rfl
set_option maxHeartbeats 4000000 in
set_option maxRecDepth 100000 in
theorem sc_X3_setTie_15 {h : zz_H} {ad : Nat → Nat} {iv : Nat → Option Nat} {t0 : Nat} {lv : Nat → Bool} (hl : ∀ o, lv o = true → iv (ad o) = some o) (hI : ∀ q o, iv q = some o → ad o = q) {x2 : Int32} {x3 : Int32} {s0 : Nat} {κ : zzM} {ν : zzN} : zLe (fun r : (Unit × zzM × zzN) => (r.1, zc h ad iv t0 r.2.1 r.2.2)) (g_X3_setTie_15 lv x2 x3 s0 κ ν) (f_X3_setTie_15 x2 x3 (some (ad s0)) (zc h ad iv t0 κ ν)) := by
  unfold g_X3_setTie_15 f_X3_setTie_15
  refine sm_if (fun c => ?_) (fun c => ?_)
  · exact sc_X3_setTie_33 hl hI
  · refine sc_len hl hI (fun v24 => ?_)
    refine sm_if (fun c => ?_) (fun c => ?_)
    · exact sc_X3_setTie_33 hl hI
    · refine sc_si hl hI (fun m32 => ?_)
      exact sc_X3_setTie_33 hl hI
set_option maxHeartbeats 4000000 in
set_option maxRecDepth 100000 in
theorem sc_X3_setTie {h : zz_H} {ad : Nat → Nat} {iv : Nat → Option Nat} {t0 : Nat} {lv : Nat → Bool} (hl : ∀ o, lv o = true → iv (ad o) = some o) (hI : ∀ q o, iv q = some o → ad o = q) {a0 : Nat} {x1 : Int32} {x2 : Int32} {x3 : Int32} {κ : zzM} {ν : zzN} : zLe (fun r : (Unit × zzM × zzN) => (r.1, zc h ad iv t0 r.2.1 r.2.2)) (g_X3_setTie lv a0 x1 x2 x3 κ ν) (f_X3_setTie (ad a0) x1 x2 x3 (zc h ad iv t0 κ ν)) := by
  unfold g_X3_setTie f_X3_setTie
  refine sm_if (fun c => ?_) (fun c => ?_)
  · refine sc_gq hl hI (δ := 2000) (fun _ _ _ _ _ => rfl) ?_
    exact sc_X3_setTie_15 hl hI
  · refine sc_gq hl hI (δ := 1000) (fun _ _ _ _ _ => rfl) ?_
    exact sc_X3_setTie_15 hl hI
set_option maxHeartbeats 4000000 in
set_option maxRecDepth 100000 in
theorem sc_X3_tieAt_18 {h : zz_H} {ad : Nat → Nat} {iv : Nat → Option Nat} {t0 : Nat} {lv : Nat → Bool} (hl : ∀ o, lv o = true → iv (ad o) = some o) (hI : ∀ q o, iv q = some o → ad o = q) {s0 : Int32} {κ : zzM} {ν : zzN} : zLe id (g_X3_tieAt_18 lv s0 κ ν) (f_X3_tieAt_18 s0 (zc h ad iv t0 κ ν)) := by
  unfold g_X3_tieAt_18 f_X3_tieAt_18
  exact sm_some rfl
set_option maxHeartbeats 4000000 in
set_option maxRecDepth 100000 in
theorem sc_X3_tieAt_16 {h : zz_H} {ad : Nat → Nat} {iv : Nat → Option Nat} {t0 : Nat} {lv : Nat → Bool} (hl : ∀ o, lv o = true → iv (ad o) = some o) (hI : ∀ q o, iv q = some o → ad o = q) {κ : zzM} {ν : zzN} : zLe id (g_X3_tieAt_16 lv κ ν) (f_X3_tieAt_16  (zc h ad iv t0 κ ν)) := by
  unfold g_X3_tieAt_16 f_X3_tieAt_16
  exact sc_X3_tieAt_18 hl hI
set_option maxHeartbeats 4000000 in
set_option maxRecDepth 100000 in
theorem sc_X3_tieAt {h : zz_H} {ad : Nat → Nat} {iv : Nat → Option Nat} {t0 : Nat} {lv : Nat → Bool} (hl : ∀ o, lv o = true → iv (ad o) = some o) (hI : ∀ q o, iv q = some o → ad o = q) {x0 : Nat} {x1 : Int32} {κ : zzM} {ν : zzN} : zLe id (g_X3_tieAt lv x0 x1 κ ν) (f_X3_tieAt (some (ad x0)) x1 (zc h ad iv t0 κ ν)) := by
  unfold g_X3_tieAt f_X3_tieAt
  refine sm_if (fun c => ?_) (fun c => ?_)
  · exact sc_X3_tieAt_16 hl hI
  · refine sc_len hl hI (fun v6 => ?_)
    refine sm_if (fun c => ?_) (fun c => ?_)
    · exact sc_X3_tieAt_16 hl hI
    · refine sc_ai hl hI (fun v12 => ?_)
      exact sc_X3_tieAt_18 hl hI
set_option maxHeartbeats 4000000 in
set_option maxRecDepth 100000 in
theorem sc_X4_at_23 {h : zz_H} {ad : Nat → Nat} {iv : Nat → Option Nat} {t0 : Nat} {lv : Nat → Bool} (hl : ∀ o, lv o = true → iv (ad o) = some o) (hI : ∀ q o, iv q = some o → ad o = q) {s0 : Int32} {κ : zzM} {ν : zzN} : zLe id (g_X4_at_23 lv s0 κ ν) (f_X4_at_23 s0 (zc h ad iv t0 κ ν)) := by
  unfold g_X4_at_23 f_X4_at_23
  exact sm_some rfl
set_option maxHeartbeats 4000000 in
set_option maxRecDepth 100000 in
theorem sc_X4_at_22 {h : zz_H} {ad : Nat → Nat} {iv : Nat → Option Nat} {t0 : Nat} {lv : Nat → Bool} (hl : ∀ o, lv o = true → iv (ad o) = some o) (hI : ∀ q o, iv q = some o → ad o = q) {κ : zzM} {ν : zzN} : zLe id (g_X4_at_22 lv κ ν) (f_X4_at_22  (zc h ad iv t0 κ ν)) := by
  unfold g_X4_at_22 f_X4_at_22
  exact sc_X4_at_23 hl hI
set_option maxHeartbeats 4000000 in
set_option maxRecDepth 100000 in
theorem sc_X4_at {h : zz_H} {ad : Nat → Nat} {iv : Nat → Option Nat} {t0 : Nat} {lv : Nat → Bool} (hl : ∀ o, lv o = true → iv (ad o) = some o) (hI : ∀ q o, iv q = some o → ad o = q) {a0 : Nat} {x1 : Int32} {κ : zzM} {ν : zzN} : zLe id (g_X4_at lv a0 x1 κ ν) (f_X4_at (ad a0) x1 (zc h ad iv t0 κ ν)) := by
  unfold g_X4_at f_X4_at
  refine sm_if (fun c => ?_) (fun c => ?_)
  · exact sc_X4_at_22 hl hI
  · refine sc_gq hl hI (δ := 1000) (fun _ _ _ _ _ => rfl) ?_
    refine sc_len hl hI (fun v9 => ?_)
    refine sm_if (fun c => ?_) (fun c => ?_)
    · exact sc_X4_at_22 hl hI
    · refine sc_gq hl hI (δ := 1000) (fun _ _ _ _ _ => rfl) ?_
      refine sc_ai hl hI (fun v18 => ?_)
      exact sc_X4_at_23 hl hI
set_option maxHeartbeats 4000000 in
set_option maxRecDepth 100000 in
theorem sc_X3_heightAt {h : zz_H} {ad : Nat → Nat} {iv : Nat → Option Nat} {t0 : Nat} {lv : Nat → Bool} (hl : ∀ o, lv o = true → iv (ad o) = some o) (hI : ∀ q o, iv q = some o → ad o = q) {a0 : Nat} {x1 : Int32} {κ : zzM} {ν : zzN} : zLe id (g_X3_heightAt lv a0 x1 κ ν) (f_X3_heightAt (ad a0) x1 (zc h ad iv t0 κ ν)) := by
  unfold g_X3_heightAt f_X3_heightAt
  refine sc_gq hl hI (δ := 1000) (fun _ _ _ _ _ => rfl) ?_
  refine sm_dv ?_
  refine sc_b (sc_X3_tieAt hl hI) (fun v8 => ?_)
  refine sc_gq hl hI (δ := 2000) (fun _ _ _ _ _ => rfl) ?_
  refine sm_dv ?_
  refine sc_b (sc_X3_tieAt hl hI) (fun v19 => ?_)
  refine sc_gq hl hI (δ := 1) (fun _ _ _ _ _ => rfl) ?_
  refine sc_ob hl hI ?_
  refine sc_b (sc_X4_at hl hI) (fun v31 => ?_)
  exact sm_some rfl
set_option maxHeartbeats 4000000 in
set_option maxRecDepth 100000 in
theorem sc_X3_heightInAll_4 {h : zz_H} {ad : Nat → Nat} {iv : Nat → Option Nat} {t0 : Nat} {lv : Nat → Bool} (hl : ∀ o, lv o = true → iv (ad o) = some o) (hI : ∀ q o, iv q = some o → ad o = q) {a0 : Nat} {x1 : Int32} {x2 : Int32} {κ : zzM} {ν : zzN} : zLe id (g_X3_heightInAll_4 lv a0 x1 x2 κ ν) (f_X3_heightInAll_4 (ad a0) x1 x2 (zc h ad iv t0 κ ν)) := by
  unfold g_X3_heightInAll_4 f_X3_heightInAll_4
  refine sc_ob hl hI ?_
  refine sc_b (sc_X3_cellCount hl hI) (fun v6 => ?_)
  refine sm_if (fun c => ?_) (fun c => ?_)
  · exact sm_some rfl
  · refine sc_ob hl hI ?_
    refine sc_b (sc_X3_cellAt hl hI) (fun v16 => ?_)
    refine sc_ob hl hI ?_
    refine sc_b (sc_X3_heightAt hl hI) (fun v19 => ?_)
    exact sm_some rfl
set_option maxHeartbeats 4000000 in
set_option maxRecDepth 100000 in
theorem sc_X3_heightInAll {h : zz_H} {ad : Nat → Nat} {iv : Nat → Option Nat} {t0 : Nat} {lv : Nat → Bool} (hl : ∀ o, lv o = true → iv (ad o) = some o) (hI : ∀ q o, iv q = some o → ad o = q) {a0 : Nat} {κ : zzM} {ν : zzN} : zLe id (g_X3_heightInAll lv a0 κ ν) (f_X3_heightInAll (ad a0) (zc h ad iv t0 κ ν)) := by
  unfold g_X3_heightInAll f_X3_heightInAll
  refine sm_it0 (fun s => ?_)
  exact sc_X3_heightInAll_4 hl hI
set_option maxHeartbeats 4000000 in
set_option maxRecDepth 100000 in
theorem sc_X3_sinkingUnder {h : zz_H} {ad : Nat → Nat} {iv : Nat → Option Nat} {t0 : Nat} {lv : Nat → Bool} (hl : ∀ o, lv o = true → iv (ad o) = some o) (hI : ∀ q o, iv q = some o → ad o = q) {a0 : Nat} {x1 : Int32} {x2 : Int32} {κ : zzM} {ν : zzN} : zLe id (g_X3_sinkingUnder lv a0 x1 x2 κ ν) (f_X3_sinkingUnder (ad a0) x1 x2 (zc h ad iv t0 κ ν)) := by
  unfold g_X3_sinkingUnder f_X3_sinkingUnder
  refine sc_ob hl hI ?_
  refine sc_b (sc_X3_heightAt hl hI) (fun v2 => ?_)
  refine sc_gq hl hI (δ := 2) (fun _ _ _ _ _ => rfl) ?_
  refine sc_ob hl hI ?_
  refine sc_b (sc_X4_at hl hI) (fun v15 => ?_)
  refine sc_gi hl hI (fun _ _ _ _ _ => rfl) ?_
  refine sc_b (sc_X9_quotient hl hI) (fun v24 => ?_)
  exact sm_some rfl
set_option maxHeartbeats 4000000 in
set_option maxRecDepth 100000 in
theorem sc_X3_pulledIn_21 {h : zz_H} {ad : Nat → Nat} {iv : Nat → Option Nat} {t0 : Nat} {lv : Nat → Bool} (hl : ∀ o, lv o = true → iv (ad o) = some o) (hI : ∀ q o, iv q = some o → ad o = q) {x0 : Nat} {x1 : Int32} {x2 : Int32} {κ : zzM} {ν : zzN} : zLe id (g_X3_pulledIn_21 lv x0 x1 x2 κ ν) (f_X3_pulledIn_21 (some (ad x0)) x1 x2 (zc h ad iv t0 κ ν)) := by
  unfold g_X3_pulledIn_21 f_X3_pulledIn_21
  exact sm_some rfl
set_option maxHeartbeats 4000000 in
set_option maxRecDepth 100000 in
theorem sc_X3_pulledIn_4 {h : zz_H} {ad : Nat → Nat} {iv : Nat → Option Nat} {t0 : Nat} {lv : Nat → Bool} (hl : ∀ o, lv o = true → iv (ad o) = some o) (hI : ∀ q o, iv q = some o → ad o = q) {x0 : Nat} {x1 : Int32} {x2 : Int32} {κ : zzM} {ν : zzN} : zLe id (g_X3_pulledIn_4 lv x0 x1 x2 κ ν) (f_X3_pulledIn_4 (some (ad x0)) x1 x2 (zc h ad iv t0 κ ν)) := by
  unfold g_X3_pulledIn_4 f_X3_pulledIn_4
  refine sc_len hl hI (fun v6 => ?_)
  refine sm_if (fun c => ?_) (fun c => ?_)
  · exact sm_some rfl
  · refine sc_ai hl hI (fun v12 => ?_)
    refine sm_if (fun c => ?_) (fun c => ?_)
    · exact sc_X3_pulledIn_21 hl hI
    · exact sc_X3_pulledIn_21 hl hI
set_option maxHeartbeats 4000000 in
set_option maxRecDepth 100000 in
theorem sc_X3_pulledIn {h : zz_H} {ad : Nat → Nat} {iv : Nat → Option Nat} {t0 : Nat} {lv : Nat → Bool} (hl : ∀ o, lv o = true → iv (ad o) = some o) (hI : ∀ q o, iv q = some o → ad o = q) {x0 : Nat} {κ : zzM} {ν : zzN} : zLe id (g_X3_pulledIn lv x0 κ ν) (f_X3_pulledIn (some (ad x0)) (zc h ad iv t0 κ ν)) := by
  unfold g_X3_pulledIn f_X3_pulledIn
  refine sm_it0 (fun s => ?_)
  exact sc_X3_pulledIn_4 hl hI
set_option maxHeartbeats 4000000 in
set_option maxRecDepth 100000 in
theorem sc_X3_pulledTies {h : zz_H} {ad : Nat → Nat} {iv : Nat → Option Nat} {t0 : Nat} {lv : Nat → Bool} (hl : ∀ o, lv o = true → iv (ad o) = some o) (hI : ∀ q o, iv q = some o → ad o = q) {a0 : Nat} {κ : zzM} {ν : zzN} : zLe id (g_X3_pulledTies lv a0 κ ν) (f_X3_pulledTies (ad a0) (zc h ad iv t0 κ ν)) := by
  unfold g_X3_pulledTies f_X3_pulledTies
  refine sc_gq hl hI (δ := 1000) (fun _ _ _ _ _ => rfl) ?_
  refine sc_b (sc_X3_pulledIn hl hI) (fun v4 => ?_)
  refine sc_gq hl hI (δ := 2000) (fun _ _ _ _ _ => rfl) ?_
  refine sc_b (sc_X3_pulledIn hl hI) (fun v11 => ?_)
  exact sm_some rfl
set_option maxHeartbeats 4000000 in
set_option maxRecDepth 100000 in
theorem sc_X4_clear {h : zz_H} {ad : Nat → Nat} {iv : Nat → Option Nat} {t0 : Nat} {lv : Nat → Bool} (hl : ∀ o, lv o = true → iv (ad o) = some o) (hI : ∀ q o, iv q = some o → ad o = q) {a0 : Nat} {κ : zzM} {ν : zzN} : zLe (fun r : (Unit × zzM × zzN) => (r.1, zc h ad iv t0 r.2.1 r.2.2)) (g_X4_clear lv a0 κ ν) (f_X4_clear (ad a0) (zc h ad iv t0 κ ν)) := by
  unfold g_X4_clear f_X4_clear
  refine sc_gq hl hI (δ := 1000) (fun _ _ _ _ _ => rfl) ?_
  refine sc_fil hl hI (fun m5 => ?_)
  exact sm_some rfl
set_option maxHeartbeats 4000000 in
set_option maxRecDepth 100000 in
theorem sc_X7_hasSprings_16 {h : zz_H} {ad : Nat → Nat} {iv : Nat → Option Nat} {t0 : Nat} {lv : Nat → Bool} (hl : ∀ o, lv o = true → iv (ad o) = some o) (hI : ∀ q o, iv q = some o → ad o = q) {s0 : Int32} {κ : zzM} {ν : zzN} : zLe id (g_X7_hasSprings_16 lv s0 κ ν) (f_X7_hasSprings_16 s0 (zc h ad iv t0 κ ν)) := by
  unfold g_X7_hasSprings_16 f_X7_hasSprings_16
  refine sm_gz ?_
  exact sm_some rfl
set_option maxHeartbeats 4000000 in
set_option maxRecDepth 100000 in
theorem sc_X7_hasSprings {h : zz_H} {ad : Nat → Nat} {iv : Nat → Option Nat} {t0 : Nat} {lv : Nat → Bool} (hl : ∀ o, lv o = true → iv (ad o) = some o) (hI : ∀ q o, iv q = some o → ad o = q) {a0 : Nat} {κ : zzM} {ν : zzN} : zLe id (g_X7_hasSprings lv a0 κ ν) (f_X7_hasSprings (ad a0) (zc h ad iv t0 κ ν)) := by
  unfold g_X7_hasSprings f_X7_hasSprings
  refine sc_gq hl hI (δ := 4) (fun _ _ _ _ _ => rfl) ?_
  refine sc_gi hl hI (fun _ _ _ _ _ => rfl) ?_
  refine sm_if (fun c => ?_) (fun c => ?_)
  · exact sc_X7_hasSprings_16 hl hI
  · exact sc_X7_hasSprings_16 hl hI
set_option maxHeartbeats 4000000 in
set_option maxRecDepth 100000 in
theorem sc_X8_letterAt_32 {h : zz_H} {ad : Nat → Nat} {iv : Nat → Option Nat} {t0 : Nat} {lv : Nat → Bool} (hl : ∀ o, lv o = true → iv (ad o) = some o) (hI : ∀ q o, iv q = some o → ad o = q) {s0 : Int32} {κ : zzM} {ν : zzN} : zLe id (g_X8_letterAt_32 lv s0 κ ν) (f_X8_letterAt_32 s0 (zc h ad iv t0 κ ν)) := by
  unfold g_X8_letterAt_32 f_X8_letterAt_32
  refine sm_gc ?_
  exact sm_some rfl
set_option maxHeartbeats 4000000 in
set_option maxRecDepth 100000 in
theorem sc_X8_letterAt_30 {h : zz_H} {ad : Nat → Nat} {iv : Nat → Option Nat} {t0 : Nat} {lv : Nat → Bool} (hl : ∀ o, lv o = true → iv (ad o) = some o) (hI : ∀ q o, iv q = some o → ad o = q) {κ : zzM} {ν : zzN} : zLe id (g_X8_letterAt_30 lv κ ν) (f_X8_letterAt_30  (zc h ad iv t0 κ ν)) := by
  unfold g_X8_letterAt_30 f_X8_letterAt_30
  exact sc_X8_letterAt_32 hl hI
set_option maxHeartbeats 4000000 in
set_option maxRecDepth 100000 in
theorem sc_X8_letterAt {h : zz_H} {ad : Nat → Nat} {iv : Nat → Option Nat} {t0 : Nat} {lv : Nat → Bool} (hl : ∀ o, lv o = true → iv (ad o) = some o) (hI : ∀ q o, iv q = some o → ad o = q) {a0 : Nat} {x1 : Int32} {κ : zzM} {ν : zzN} : zLe id (g_X8_letterAt lv a0 x1 κ ν) (f_X8_letterAt (ad a0) x1 (zc h ad iv t0 κ ν)) := by
  unfold g_X8_letterAt f_X8_letterAt
  refine sm_if (fun c => ?_) (fun c => ?_)
  · exact sc_X8_letterAt_30 hl hI
  · refine sc_gi hl hI (fun _ _ _ _ _ => rfl) ?_
    refine sm_if (fun c => ?_) (fun c => ?_)
    · exact sc_X8_letterAt_30 hl hI
    · refine sc_gq hl hI (δ := 1000) (fun _ _ _ _ _ => rfl) ?_
      refine sc_len hl hI (fun v17 => ?_)
      refine sm_if (fun c => ?_) (fun c => ?_)
      · exact sc_X8_letterAt_30 hl hI
      · refine sc_gq hl hI (δ := 1000) (fun _ _ _ _ _ => rfl) ?_
        refine sc_ai hl hI (fun v26 => ?_)
        exact sc_X8_letterAt_32 hl hI
set_option maxHeartbeats 4000000 in
set_option maxRecDepth 100000 in
theorem sc_X8_last {h : zz_H} {ad : Nat → Nat} {iv : Nat → Option Nat} {t0 : Nat} {lv : Nat → Bool} (hl : ∀ o, lv o = true → iv (ad o) = some o) (hI : ∀ q o, iv q = some o → ad o = q) {a0 : Nat} {κ : zzM} {ν : zzN} : zLe id (g_X8_last lv a0 κ ν) (f_X8_last (ad a0) (zc h ad iv t0 κ ν)) := by
  unfold g_X8_last f_X8_last
  refine sc_gi hl hI (fun _ _ _ _ _ => rfl) ?_
  refine sc_ob hl hI ?_
  refine sc_b (sc_X8_letterAt hl hI) (fun v7 => ?_)
  refine sm_gc ?_
  exact sm_some rfl
set_option maxHeartbeats 4000000 in
set_option maxRecDepth 100000 in
theorem sc_X7_hasCover_17 {h : zz_H} {ad : Nat → Nat} {iv : Nat → Option Nat} {t0 : Nat} {lv : Nat → Bool} (hl : ∀ o, lv o = true → iv (ad o) = some o) (hI : ∀ q o, iv q = some o → ad o = q) {s0 : Int32} {κ : zzM} {ν : zzN} : zLe id (g_X7_hasCover_17 lv s0 κ ν) (f_X7_hasCover_17 s0 (zc h ad iv t0 κ ν)) := by
  unfold g_X7_hasCover_17 f_X7_hasCover_17
  refine sm_gz ?_
  exact sm_some rfl
set_option maxHeartbeats 4000000 in
set_option maxRecDepth 100000 in
theorem sc_X7_hasCover {h : zz_H} {ad : Nat → Nat} {iv : Nat → Option Nat} {t0 : Nat} {lv : Nat → Bool} (hl : ∀ o, lv o = true → iv (ad o) = some o) (hI : ∀ q o, iv q = some o → ad o = q) {a0 : Nat} {κ : zzM} {ν : zzN} : zLe id (g_X7_hasCover lv a0 κ ν) (f_X7_hasCover (ad a0) (zc h ad iv t0 κ ν)) := by
  unfold g_X7_hasCover f_X7_hasCover
  refine sc_gq hl hI (δ := 4) (fun _ _ _ _ _ => rfl) ?_
  refine sc_ob hl hI ?_
  refine sc_b (sc_X8_last hl hI) (fun v4 => ?_)
  refine sm_if (fun c => ?_) (fun c => ?_)
  · exact sc_X7_hasCover_17 hl hI
  · exact sc_X7_hasCover_17 hl hI
set_option maxHeartbeats 4000000 in
set_option maxRecDepth 100000 in
theorem sc_X7_topOf {h : zz_H} {ad : Nat → Nat} {iv : Nat → Option Nat} {t0 : Nat} {lv : Nat → Bool} (hl : ∀ o, lv o = true → iv (ad o) = some o) (hI : ∀ q o, iv q = some o → ad o = q) {a0 : Nat} {x1 : Int32} {κ : zzM} {ν : zzN} : zLe id (g_X7_topOf lv a0 x1 κ ν) (f_X7_topOf (ad a0) x1 (zc h ad iv t0 κ ν)) := by
  unfold g_X7_topOf f_X7_topOf
  refine sc_gq hl hI (δ := 1) (fun _ _ _ _ _ => rfl) ?_
  refine sc_ob hl hI ?_
  refine sc_b (sc_X3_heightAt hl hI) (fun v6 => ?_)
  refine sc_gq hl hI (δ := 5) (fun _ _ _ _ _ => rfl) ?_
  refine sc_ob hl hI ?_
  refine sc_b (sc_X2_thicknessInAll hl hI) (fun v13 => ?_)
  refine sc_gq hl hI (δ := 7) (fun _ _ _ _ _ => rfl) ?_
  refine sc_ob hl hI ?_
  refine sc_b (sc_X4_at hl hI) (fun v22 => ?_)
  exact sm_some rfl
set_option maxHeartbeats 4000000 in
set_option maxRecDepth 100000 in
theorem sc_X7_greatestTop_4 {h : zz_H} {ad : Nat → Nat} {iv : Nat → Option Nat} {t0 : Nat} {lv : Nat → Bool} (hl : ∀ o, lv o = true → iv (ad o) = some o) (hI : ∀ q o, iv q = some o → ad o = q) {a0 : Nat} {x1 : Int32} {x2 : Int32} {κ : zzM} {ν : zzN} : zLe id (g_X7_greatestTop_4 lv a0 x1 x2 κ ν) (f_X7_greatestTop_4 (ad a0) x1 x2 (zc h ad iv t0 κ ν)) := by
  unfold g_X7_greatestTop_4 f_X7_greatestTop_4
  refine sc_gq hl hI (δ := 1) (fun _ _ _ _ _ => rfl) ?_
  refine sc_ob hl hI ?_
  refine sc_b (sc_X3_cellCount hl hI) (fun v9 => ?_)
  refine sm_if (fun c => ?_) (fun c => ?_)
  · exact sm_some rfl
  · refine sc_gq hl hI (δ := 1) (fun _ _ _ _ _ => rfl) ?_
    refine sc_ob hl hI ?_
    refine sc_b (sc_X3_cellAt hl hI) (fun v22 => ?_)
    refine sc_ob hl hI ?_
    refine sc_b (sc_X7_topOf hl hI) (fun v25 => ?_)
    exact sm_some rfl
set_option maxHeartbeats 4000000 in
set_option maxRecDepth 100000 in
theorem sc_X7_greatestTop {h : zz_H} {ad : Nat → Nat} {iv : Nat → Option Nat} {t0 : Nat} {lv : Nat → Bool} (hl : ∀ o, lv o = true → iv (ad o) = some o) (hI : ∀ q o, iv q = some o → ad o = q) {a0 : Nat} {κ : zzM} {ν : zzN} : zLe id (g_X7_greatestTop lv a0 κ ν) (f_X7_greatestTop (ad a0) (zc h ad iv t0 κ ν)) := by
  unfold g_X7_greatestTop f_X7_greatestTop
  refine sm_it0 (fun s => ?_)
  exact sc_X7_greatestTop_4 hl hI
set_option maxHeartbeats 4000000 in
set_option maxRecDepth 100000 in
theorem sc_X7_topsInAll_4 {h : zz_H} {ad : Nat → Nat} {iv : Nat → Option Nat} {t0 : Nat} {lv : Nat → Bool} (hl : ∀ o, lv o = true → iv (ad o) = some o) (hI : ∀ q o, iv q = some o → ad o = q) {a0 : Nat} {x1 : Int32} {x2 : Int32} {κ : zzM} {ν : zzN} : zLe id (g_X7_topsInAll_4 lv a0 x1 x2 κ ν) (f_X7_topsInAll_4 (ad a0) x1 x2 (zc h ad iv t0 κ ν)) := by
  unfold g_X7_topsInAll_4 f_X7_topsInAll_4
  refine sc_gq hl hI (δ := 1) (fun _ _ _ _ _ => rfl) ?_
  refine sc_ob hl hI ?_
  refine sc_b (sc_X3_cellCount hl hI) (fun v9 => ?_)
  refine sm_if (fun c => ?_) (fun c => ?_)
  · exact sm_some rfl
  · refine sc_gq hl hI (δ := 1) (fun _ _ _ _ _ => rfl) ?_
    refine sc_ob hl hI ?_
    refine sc_b (sc_X3_cellAt hl hI) (fun v22 => ?_)
    refine sc_ob hl hI ?_
    refine sc_b (sc_X7_topOf hl hI) (fun v25 => ?_)
    exact sm_some rfl
set_option maxHeartbeats 4000000 in
set_option maxRecDepth 100000 in
theorem sc_X7_topsInAll {h : zz_H} {ad : Nat → Nat} {iv : Nat → Option Nat} {t0 : Nat} {lv : Nat → Bool} (hl : ∀ o, lv o = true → iv (ad o) = some o) (hI : ∀ q o, iv q = some o → ad o = q) {a0 : Nat} {κ : zzM} {ν : zzN} : zLe id (g_X7_topsInAll lv a0 κ ν) (f_X7_topsInAll (ad a0) (zc h ad iv t0 κ ν)) := by
  unfold g_X7_topsInAll f_X7_topsInAll
  refine sm_it0 (fun s => ?_)
  exact sc_X7_topsInAll_4 hl hI
set_option maxHeartbeats 4000000 in
set_option maxRecDepth 100000 in
theorem sc_X8_add_32 {h : zz_H} {ad : Nat → Nat} {iv : Nat → Option Nat} {t0 : Nat} {lv : Nat → Bool} (hl : ∀ o, lv o = true → iv (ad o) = some o) (hI : ∀ q o, iv q = some o → ad o = q) {a0 : Nat} {κ : zzM} {ν : zzN} : zLe (fun r : (Int32 × zzM × zzN) => (r.1, zc h ad iv t0 r.2.1 r.2.2)) (g_X8_add_32 lv a0 κ ν) (f_X8_add_32 (ad a0) (zc h ad iv t0 κ ν)) := by
  unfold g_X8_add_32 f_X8_add_32
  refine sc_gi hl hI (fun _ _ _ _ _ => rfl) ?_
  exact sm_some rfl
set_option maxHeartbeats 4000000 in
set_option maxRecDepth 100000 in
theorem sc_X8_add {h : zz_H} {ad : Nat → Nat} {iv : Nat → Option Nat} {t0 : Nat} {lv : Nat → Bool} (hl : ∀ o, lv o = true → iv (ad o) = some o) (hI : ∀ q o, iv q = some o → ad o = q) {a0 : Nat} {x1 : Int32} {κ : zzM} {ν : zzN} : zLe (fun r : (Int32 × zzM × zzN) => (r.1, zc h ad iv t0 r.2.1 r.2.2)) (g_X8_add lv a0 x1 κ ν) (f_X8_add (ad a0) x1 (zc h ad iv t0 κ ν)) := by
  unfold g_X8_add f_X8_add
  refine sc_gi hl hI (fun _ _ _ _ _ => rfl) ?_
  refine sc_gq hl hI (δ := 1000) (fun _ _ _ _ _ => rfl) ?_
  refine sc_len hl hI (fun v8 => ?_)
  refine sm_if (fun c => ?_) (fun c => ?_)
  · exact sc_X8_add_32 hl hI
  · refine sc_gq hl hI (δ := 1000) (fun _ _ _ _ _ => rfl) ?_
    refine sc_gi hl hI (fun _ _ _ _ _ => rfl) ?_
    refine sc_si hl hI (fun m21 => ?_)
    refine sc_gi hl hI (fun _ _ _ _ _ => rfl) ?_
    refine sc_p hl hI (fun _ _ _ _ _ _ => ⟨rfl, Nat.le_of_ble_eq_true rfl⟩) ?_
    exact sc_X8_add_32 hl hI
set_option maxHeartbeats 4000000 in
set_option maxRecDepth 100000 in
theorem sc_X7_close {h : zz_H} {ad : Nat → Nat} {iv : Nat → Option Nat} {t0 : Nat} {lv : Nat → Bool} (hl : ∀ o, lv o = true → iv (ad o) = some o) (hI : ∀ q o, iv q = some o → ad o = q) {a0 : Nat} {x1 : Nat} {x2 : Int32} {κ : zzM} {ν : zzN} : zLe (fun r : (Int32 × zzM × zzN) => (r.1, zc h ad iv t0 r.2.1 r.2.2)) (g_X7_close lv a0 x1 x2 κ ν) (f_X7_close (ad a0) (some (ad x1)) x2 (zc h ad iv t0 κ ν)) := by
  unfold g_X7_close f_X7_close
  refine sc_gq hl hI (δ := 1) (fun _ _ _ _ _ => rfl) ?_
  refine sc_gi hl hI (fun _ _ _ _ _ => rfl) ?_
  refine sc_ob hl hI ?_
  refine sc_b (sc_X7_greatestTop hl hI) (fun v11 => ?_)
  refine sc_gq hl hI (δ := 8) (fun _ _ _ _ _ => rfl) ?_
  refine sc_gq hl hI (δ := 1) (fun _ _ _ _ _ => rfl) ?_
  refine sc_gi hl hI (fun _ _ _ _ _ => rfl) ?_
  refine sc_ob hl hI ?_
  refine sc_b1 (sc_X1_cut hl hI) (fun v30 m30 q30 => ?_)
  refine sm_if (fun c => ?_) (fun c => ?_)
  · exact sm_some rfl
  · refine sc_gq hl hI (δ := 8) (fun _ _ _ _ _ => rfl) ?_
    refine sc_ob hl hI ?_
    refine sc_b (sc_X7_topsInAll hl hI) (fun v43 => ?_)
    refine sc_p hl hI (fun _ _ _ _ _ _ => ⟨rfl, Nat.le_of_ble_eq_true rfl⟩) ?_
    refine sc_gq hl hI (δ := 8) (fun _ _ _ _ _ => rfl) ?_
    refine sc_p hl hI (fun _ _ _ _ _ _ => ⟨rfl, Nat.le_of_ble_eq_true rfl⟩) ?_
    refine sc_gq hl hI (δ := 4) (fun _ _ _ _ _ => rfl) ?_
    refine sc_ob hl hI ?_
    refine sc_b1 (sc_X8_add hl hI) (fun v63 m63 q63 => ?_)
    exact sm_some rfl
set_option maxHeartbeats 4000000 in
set_option maxRecDepth 100000 in
theorem sc_X7_hasSoundTops_2 {h : zz_H} {ad : Nat → Nat} {iv : Nat → Option Nat} {t0 : Nat} {lv : Nat → Bool} (hl : ∀ o, lv o = true → iv (ad o) = some o) (hI : ∀ q o, iv q = some o → ad o = q) {a0 : Nat} {x1 : Int32} {κ : zzM} {ν : zzN} : zLe id (g_X7_hasSoundTops_2 lv a0 x1 κ ν) (f_X7_hasSoundTops_2 (ad a0) x1 (zc h ad iv t0 κ ν)) := by
  unfold g_X7_hasSoundTops_2 f_X7_hasSoundTops_2
  refine sc_gq hl hI (δ := 1) (fun _ _ _ _ _ => rfl) ?_
  refine sc_ob hl hI ?_
  refine sc_b (sc_X3_cellCount hl hI) (fun v7 => ?_)
  refine sm_if (fun c => ?_) (fun c => ?_)
  · exact sm_some rfl
  · refine sc_gq hl hI (δ := 1) (fun _ _ _ _ _ => rfl) ?_
    refine sc_ob hl hI ?_
    refine sc_b (sc_X3_cellAt hl hI) (fun v19 => ?_)
    refine sc_ob hl hI ?_
    refine sc_b (sc_X7_topOf hl hI) (fun v22 => ?_)
    refine sm_if (fun c => ?_) (fun c => ?_)
    · exact sm_some rfl
    · exact sm_some rfl
set_option maxHeartbeats 4000000 in
set_option maxRecDepth 100000 in
theorem sc_X7_hasSoundTops {h : zz_H} {ad : Nat → Nat} {iv : Nat → Option Nat} {t0 : Nat} {lv : Nat → Bool} (hl : ∀ o, lv o = true → iv (ad o) = some o) (hI : ∀ q o, iv q = some o → ad o = q) {a0 : Nat} {κ : zzM} {ν : zzN} : zLe id (g_X7_hasSoundTops lv a0 κ ν) (f_X7_hasSoundTops (ad a0) (zc h ad iv t0 κ ν)) := by
  unfold g_X7_hasSoundTops f_X7_hasSoundTops
  refine sm_it0 (fun s => ?_)
  exact sc_X7_hasSoundTops_2 hl hI
set_option maxHeartbeats 4000000 in
set_option maxRecDepth 100000 in
theorem sc_X7_buttonCount_36 {h : zz_H} {ad : Nat → Nat} {iv : Nat → Option Nat} {t0 : Nat} {lv : Nat → Bool} (hl : ∀ o, lv o = true → iv (ad o) = some o) (hI : ∀ q o, iv q = some o → ad o = q) {a0 : Nat} {x1 : Int32} {x2 : Int32} {κ : zzM} {ν : zzN} : zLe id (g_X7_buttonCount_36 lv a0 x1 x2 κ ν) (f_X7_buttonCount_36 (ad a0) x1 x2 (zc h ad iv t0 κ ν)) := by
  unfold g_X7_buttonCount_36 f_X7_buttonCount_36
  exact sm_some rfl
set_option maxHeartbeats 4000000 in
set_option maxRecDepth 100000 in
theorem sc_X7_buttonCount_4 {h : zz_H} {ad : Nat → Nat} {iv : Nat → Option Nat} {t0 : Nat} {lv : Nat → Bool} (hl : ∀ o, lv o = true → iv (ad o) = some o) (hI : ∀ q o, iv q = some o → ad o = q) {a0 : Nat} {x1 : Int32} {x2 : Int32} {κ : zzM} {ν : zzN} : zLe id (g_X7_buttonCount_4 lv a0 x1 x2 κ ν) (f_X7_buttonCount_4 (ad a0) x1 x2 (zc h ad iv t0 κ ν)) := by
  unfold g_X7_buttonCount_4 f_X7_buttonCount_4
  refine sc_gq hl hI (δ := 1) (fun _ _ _ _ _ => rfl) ?_
  refine sc_ob hl hI ?_
  refine sc_b (sc_X3_cellCount hl hI) (fun v9 => ?_)
  refine sm_if (fun c => ?_) (fun c => ?_)
  · exact sm_some rfl
  · refine sc_gq hl hI (δ := 7) (fun _ _ _ _ _ => rfl) ?_
    refine sc_gq hl hI (δ := 1) (fun _ _ _ _ _ => rfl) ?_
    refine sc_ob hl hI ?_
    refine sc_b (sc_X3_cellAt hl hI) (fun v24 => ?_)
    refine sc_ob hl hI ?_
    refine sc_b (sc_X4_at hl hI) (fun v27 => ?_)
    refine sm_if (fun c => ?_) (fun c => ?_)
    · exact sc_X7_buttonCount_36 hl hI
    · exact sc_X7_buttonCount_36 hl hI
set_option maxHeartbeats 4000000 in
set_option maxRecDepth 100000 in
theorem sc_X7_buttonCount {h : zz_H} {ad : Nat → Nat} {iv : Nat → Option Nat} {t0 : Nat} {lv : Nat → Bool} (hl : ∀ o, lv o = true → iv (ad o) = some o) (hI : ∀ q o, iv q = some o → ad o = q) {a0 : Nat} {κ : zzM} {ν : zzN} : zLe id (g_X7_buttonCount lv a0 κ ν) (f_X7_buttonCount (ad a0) (zc h ad iv t0 κ ν)) := by
  unfold g_X7_buttonCount f_X7_buttonCount
  refine sm_it0 (fun s => ?_)
  exact sc_X7_buttonCount_4 hl hI
set_option maxHeartbeats 4000000 in
set_option maxRecDepth 100000 in
theorem sc_X7_foldBetween_63 {h : zz_H} {ad : Nat → Nat} {iv : Nat → Option Nat} {t0 : Nat} {lv : Nat → Bool} (hl : ∀ o, lv o = true → iv (ad o) = some o) (hI : ∀ q o, iv q = some o → ad o = q) {s0 : Int32} {κ : zzM} {ν : zzN} : zLe id (g_X7_foldBetween_63 lv s0 κ ν) (f_X7_foldBetween_63 s0 (zc h ad iv t0 κ ν)) := by
  unfold g_X7_foldBetween_63 f_X7_foldBetween_63
  exact sm_some rfl
set_option maxHeartbeats 4000000 in
set_option maxRecDepth 100000 in
theorem sc_X7_foldBetween_62 {h : zz_H} {ad : Nat → Nat} {iv : Nat → Option Nat} {t0 : Nat} {lv : Nat → Bool} (hl : ∀ o, lv o = true → iv (ad o) = some o) (hI : ∀ q o, iv q = some o → ad o = q) {κ : zzM} {ν : zzN} : zLe id (g_X7_foldBetween_62 lv κ ν) (f_X7_foldBetween_62  (zc h ad iv t0 κ ν)) := by
  unfold g_X7_foldBetween_62 f_X7_foldBetween_62
  exact sc_X7_foldBetween_63 hl hI
set_option maxHeartbeats 4000000 in
set_option maxRecDepth 100000 in
theorem sc_X7_foldBetween_58 {h : zz_H} {ad : Nat → Nat} {iv : Nat → Option Nat} {t0 : Nat} {lv : Nat → Bool} (hl : ∀ o, lv o = true → iv (ad o) = some o) (hI : ∀ q o, iv q = some o → ad o = q) {κ : zzM} {ν : zzN} : zLe id (g_X7_foldBetween_58 lv κ ν) (f_X7_foldBetween_58  (zc h ad iv t0 κ ν)) := by
  unfold g_X7_foldBetween_58 f_X7_foldBetween_58
  exact sc_X7_foldBetween_63 hl hI
set_option maxHeartbeats 4000000 in
set_option maxRecDepth 100000 in
theorem sc_X7_foldBetween_35 {h : zz_H} {ad : Nat → Nat} {iv : Nat → Option Nat} {t0 : Nat} {lv : Nat → Bool} (hl : ∀ o, lv o = true → iv (ad o) = some o) (hI : ∀ q o, iv q = some o → ad o = q) {x3 : Int32} {x4 : Int32} {x5 : Int32} {s0 : Int32} {κ : zzM} {ν : zzN} : zLe id (g_X7_foldBetween_35 lv x3 x4 x5 s0 κ ν) (f_X7_foldBetween_35 x3 x4 x5 s0 (zc h ad iv t0 κ ν)) := by
  unfold g_X7_foldBetween_35 f_X7_foldBetween_35
  refine sm_if (fun c => ?_) (fun c => ?_)
  · exact sc_X7_foldBetween_62 hl hI
  · refine sm_if (fun c => ?_) (fun c => ?_)
    · exact sc_X7_foldBetween_58 hl hI
    · refine sm_if (fun c => ?_) (fun c => ?_)
      · exact sc_X7_foldBetween_62 hl hI
      · exact sc_X7_foldBetween_58 hl hI
set_option maxHeartbeats 4000000 in
set_option maxRecDepth 100000 in
theorem sc_X7_foldBetween_34 {h : zz_H} {ad : Nat → Nat} {iv : Nat → Option Nat} {t0 : Nat} {lv : Nat → Bool} (hl : ∀ o, lv o = true → iv (ad o) = some o) (hI : ∀ q o, iv q = some o → ad o = q) {x3 : Int32} {x4 : Int32} {x5 : Int32} {κ : zzM} {ν : zzN} : zLe id (g_X7_foldBetween_34 lv x3 x4 x5 κ ν) (f_X7_foldBetween_34 x3 x4 x5 (zc h ad iv t0 κ ν)) := by
  unfold g_X7_foldBetween_34 f_X7_foldBetween_34
  exact sc_X7_foldBetween_35 hl hI
set_option maxHeartbeats 4000000 in
set_option maxRecDepth 100000 in
theorem sc_X7_foldBetween {h : zz_H} {ad : Nat → Nat} {iv : Nat → Option Nat} {t0 : Nat} {lv : Nat → Bool} (hl : ∀ o, lv o = true → iv (ad o) = some o) (hI : ∀ q o, iv q = some o → ad o = q) {a0 : Nat} {x1 : Int32} {x2 : Int32} {x3 : Int32} {κ : zzM} {ν : zzN} : zLe id (g_X7_foldBetween lv a0 x1 x2 x3 κ ν) (f_X7_foldBetween (ad a0) x1 x2 x3 (zc h ad iv t0 κ ν)) := by
  unfold g_X7_foldBetween f_X7_foldBetween
  refine sc_gq hl hI (δ := 7) (fun _ _ _ _ _ => rfl) ?_
  refine sc_ob hl hI ?_
  refine sc_b (sc_X4_at hl hI) (fun v5 => ?_)
  refine sc_gq hl hI (δ := 7) (fun _ _ _ _ _ => rfl) ?_
  refine sc_ob hl hI ?_
  refine sc_b (sc_X4_at hl hI) (fun v15 => ?_)
  refine sm_if (fun c => ?_) (fun c => ?_)
  · exact sc_X7_foldBetween_34 hl hI
  · refine sm_if (fun c => ?_) (fun c => ?_)
    · exact sc_X7_foldBetween_34 hl hI
    · exact sc_X7_foldBetween_35 hl hI
set_option maxHeartbeats 4000000 in
set_option maxRecDepth 100000 in
theorem sc_X7_foldCount_4 {h : zz_H} {ad : Nat → Nat} {iv : Nat → Option Nat} {t0 : Nat} {lv : Nat → Bool} (hl : ∀ o, lv o = true → iv (ad o) = some o) (hI : ∀ q o, iv q = some o → ad o = q) {a0 : Nat} {x1 : Int32} {x2 : Int32} {x3 : Int32} {κ : zzM} {ν : zzN} : zLe id (g_X7_foldCount_4 lv a0 x1 x2 x3 κ ν) (f_X7_foldCount_4 (ad a0) x1 x2 x3 (zc h ad iv t0 κ ν)) := by
  unfold g_X7_foldCount_4 f_X7_foldCount_4
  refine sc_gq hl hI (δ := 1) (fun _ _ _ _ _ => rfl) ?_
  refine sc_ob hl hI ?_
  refine sc_b (sc_X3_cellCount hl hI) (fun v9 => ?_)
  refine sm_if (fun c => ?_) (fun c => ?_)
  · exact sm_some rfl
  · refine sc_gq hl hI (δ := 1) (fun _ _ _ _ _ => rfl) ?_
    refine sc_ob hl hI ?_
    refine sc_b (sc_X3_cellAt hl hI) (fun v20 => ?_)
    refine sc_ob hl hI ?_
    refine sc_b (sc_X7_foldBetween hl hI) (fun v37 => ?_)
    refine sc_ob hl hI ?_
    refine sc_b (sc_X7_foldBetween hl hI) (fun v54 => ?_)
    exact sm_some rfl
set_option maxHeartbeats 4000000 in
set_option maxRecDepth 100000 in
theorem sc_X7_foldCount {h : zz_H} {ad : Nat → Nat} {iv : Nat → Option Nat} {t0 : Nat} {lv : Nat → Bool} (hl : ∀ o, lv o = true → iv (ad o) = some o) (hI : ∀ q o, iv q = some o → ad o = q) {a0 : Nat} {x1 : Int32} {κ : zzM} {ν : zzN} : zLe id (g_X7_foldCount lv a0 x1 κ ν) (f_X7_foldCount (ad a0) x1 (zc h ad iv t0 κ ν)) := by
  unfold g_X7_foldCount f_X7_foldCount
  refine sm_it0 (fun s => ?_)
  exact sc_X7_foldCount_4 hl hI
set_option maxHeartbeats 4000000 in
set_option maxRecDepth 100000 in
theorem sc_X7_wear {h : zz_H} {ad : Nat → Nat} {iv : Nat → Option Nat} {t0 : Nat} {lv : Nat → Bool} (hl : ∀ o, lv o = true → iv (ad o) = some o) (hI : ∀ q o, iv q = some o → ad o = q) {a0 : Nat} {x1 : Int32} {κ : zzM} {ν : zzN} : zLe (fun r : (Int32 × zzM × zzN) => (r.1, zc h ad iv t0 r.2.1 r.2.2)) (g_X7_wear lv a0 x1 κ ν) (f_X7_wear (ad a0) x1 (zc h ad iv t0 κ ν)) := by
  unfold g_X7_wear f_X7_wear
  refine sc_ob hl hI ?_
  refine sc_b (sc_X7_topsInAll hl hI) (fun v1 => ?_)
  refine sc_gq hl hI (δ := 8) (fun _ _ _ _ _ => rfl) ?_
  refine sc_gi hl hI (fun _ _ _ _ _ => rfl) ?_
  refine sc_p hl hI (fun _ _ _ _ _ _ => ⟨rfl, Nat.le_of_ble_eq_true rfl⟩) ?_
  refine sc_gq hl hI (δ := 5) (fun _ _ _ _ _ => rfl) ?_
  refine sc_ob hl hI ?_
  refine sc_b1 (sc_X2_settle hl hI) (fun u23 m23 q23 => ?_)
  refine sc_ob hl hI ?_
  refine sc_b (sc_X7_topsInAll hl hI) (fun v28 => ?_)
  exact sm_some rfl
set_option maxHeartbeats 4000000 in
set_option maxRecDepth 100000 in
theorem sc_X7_price_18 {h : zz_H} {ad : Nat → Nat} {iv : Nat → Option Nat} {t0 : Nat} {lv : Nat → Bool} (hl : ∀ o, lv o = true → iv (ad o) = some o) (hI : ∀ q o, iv q = some o → ad o = q) {a0 : Nat} {s0 : Int32} {κ : zzM} {ν : zzN} : zLe id (g_X7_price_18 lv a0 s0 κ ν) (f_X7_price_18 (ad a0) s0 (zc h ad iv t0 κ ν)) := by
  unfold g_X7_price_18 f_X7_price_18
  refine sc_gq hl hI (δ := 1) (fun _ _ _ _ _ => rfl) ?_
  refine sc_ob hl hI ?_
  refine sc_b (sc_X3_pulledTies hl hI) (fun v27 => ?_)
  refine sc_gq hl hI (δ := 5) (fun _ _ _ _ _ => rfl) ?_
  refine sc_ob hl hI ?_
  refine sc_b (sc_X2_price hl hI) (fun v36 => ?_)
  refine sc_ob hl hI ?_
  refine sc_b (sc_X7_buttonCount hl hI) (fun v42 => ?_)
  refine sc_gq hl hI (δ := 8) (fun _ _ _ _ _ => rfl) ?_
  refine sc_ob hl hI ?_
  refine sc_b (sc_X1_lengthInAll hl hI) (fun v51 => ?_)
  exact sm_some rfl
set_option maxHeartbeats 4000000 in
set_option maxRecDepth 100000 in
theorem sc_X7_price {h : zz_H} {ad : Nat → Nat} {iv : Nat → Option Nat} {t0 : Nat} {lv : Nat → Bool} (hl : ∀ o, lv o = true → iv (ad o) = some o) (hI : ∀ q o, iv q = some o → ad o = q) {a0 : Nat} {κ : zzM} {ν : zzN} : zLe id (g_X7_price lv a0 κ ν) (f_X7_price (ad a0) (zc h ad iv t0 κ ν)) := by
  unfold g_X7_price f_X7_price
  refine sc_ob hl hI ?_
  refine sc_b (sc_X7_hasSprings hl hI) (fun v1 => ?_)
  refine sm_if (fun c => ?_) (fun c => ?_)
  · exact sc_X7_price_18 hl hI
  · refine sc_gq hl hI (δ := 1) (fun _ _ _ _ _ => rfl) ?_
    refine sc_ob hl hI ?_
    refine sc_b (sc_X3_cellCount hl hI) (fun v11 => ?_)
    exact sc_X7_price_18 hl hI
set_option maxHeartbeats 4000000 in
set_option maxRecDepth 100000 in
theorem sc_X7_tellSinking_112 {h : zz_H} {ad : Nat → Nat} {iv : Nat → Option Nat} {t0 : Nat} {lv : Nat → Bool} (hl : ∀ o, lv o = true → iv (ad o) = some o) (hI : ∀ q o, iv q = some o → ad o = q) {a0 : Nat} {x2 : Nat} {x4 : Int32} {κ : zzM} {ν : zzN} : zLe (Sum.map (fun s : (Int32 × zzM × zzN) => (s.1, zc h ad iv t0 s.2.1 s.2.2)) (fun r : (Unit × zzM × zzN) => (r.1, zc h ad iv t0 r.2.1 r.2.2))) (g_X7_tellSinking_112 lv a0 x2 x4 κ ν) (f_X7_tellSinking_112 (ad a0) (some (ad x2)) x4 (zc h ad iv t0 κ ν)) := by
  unfold g_X7_tellSinking_112 f_X7_tellSinking_112
  refine sm_if (fun c => ?_) (fun c => ?_)
  · exact sm_some rfl
  · refine sc_gq hl hI (δ := 1) (fun _ _ _ _ _ => rfl) ?_
    refine sc_ob hl hI ?_
    refine sc_b (sc_X3_cellAt hl hI) (fun v123 => ?_)
    refine sc_ob hl hI ?_
    refine sc_b (sc_X4_at hl hI) (fun v134 => ?_)
    refine sc_ob hl hI ?_
    refine sc_b (sc_X4_at hl hI) (fun v142 => ?_)
    refine sc_ob hl hI ?_
    refine sc_b (sc_X4_at hl hI) (fun v156 => ?_)
    refine sc_ob hl hI ?_
    refine sc_b1 (sc_X4_put hl hI) (fun u167 m167 q167 => ?_)
    exact sm_some rfl
set_option maxHeartbeats 4000000 in
set_option maxRecDepth 100000 in
theorem sc_X7_tellSinking_15 {h : zz_H} {ad : Nat → Nat} {iv : Nat → Option Nat} {t0 : Nat} {lv : Nat → Bool} (hl : ∀ o, lv o = true → iv (ad o) = some o) (hI : ∀ q o, iv q = some o → ad o = q) {a0 : Nat} {x1 : Nat} {x2 : Nat} {x3 : Int32} {x4 : Int32} {κ : zzM} {ν : zzN} : zLe (Sum.map (fun s : (Int32 × zzM × zzN) => (s.1, zc h ad iv t0 s.2.1 s.2.2)) (fun r : (Unit × zzM × zzN) => (r.1, zc h ad iv t0 r.2.1 r.2.2))) (g_X7_tellSinking_15 lv a0 x1 x2 x3 x4 κ ν) (f_X7_tellSinking_15 (ad a0) (some (ad x1)) (some (ad x2)) x3 x4 (zc h ad iv t0 κ ν)) := by
  unfold g_X7_tellSinking_15 f_X7_tellSinking_15
  refine sm_if (fun c => ?_) (fun c => ?_)
  · refine sm_mapw1 ?_
    refine sm_it (cs := (fun s : (Int32 × zzM × zzN) => (s.1, zc h ad iv t0 s.2.1 s.2.2))) (fun s => ?_)
    exact sc_X7_tellSinking_112 hl hI
  · refine sc_gq hl hI (δ := 1) (fun _ _ _ _ _ => rfl) ?_
    refine sc_ob hl hI ?_
    refine sc_b (sc_X3_cellAt hl hI) (fun v27 => ?_)
    refine sc_ob hl hI ?_
    refine sc_b (sc_X4_at hl hI) (fun v35 => ?_)
    refine sc_gq hl hI (δ := 1) (fun _ _ _ _ _ => rfl) ?_
    refine sc_ob hl hI ?_
    refine sc_b (sc_X3_sinkingUnder hl hI) (fun v48 => ?_)
    refine sc_gq hl hI (δ := 5) (fun _ _ _ _ _ => rfl) ?_
    refine sc_ob hl hI ?_
    refine sc_b (sc_X2_sinkingUnder hl hI) (fun v57 => ?_)
    refine sc_ob hl hI ?_
    refine sc_b (sc_X4_at hl hI) (fun v69 => ?_)
    refine sc_ob hl hI ?_
    refine sc_b (sc_X4_at hl hI) (fun v77 => ?_)
    refine sc_ob hl hI ?_
    refine sc_b1 (sc_X4_put hl hI) (fun u98 m98 q98 => ?_)
    exact sm_some rfl
set_option maxHeartbeats 4000000 in
set_option maxRecDepth 100000 in
theorem sc_X7_tellSinking {h : zz_H} {ad : Nat → Nat} {iv : Nat → Option Nat} {t0 : Nat} {lv : Nat → Bool} (hl : ∀ o, lv o = true → iv (ad o) = some o) (hI : ∀ q o, iv q = some o → ad o = q) {a0 : Nat} {x1 : Nat} {x2 : Nat} {κ : zzM} {ν : zzN} : zLe (fun r : (Unit × zzM × zzN) => (r.1, zc h ad iv t0 r.2.1 r.2.2)) (g_X7_tellSinking lv a0 x1 x2 κ ν) (f_X7_tellSinking (ad a0) (some (ad x1)) (some (ad x2)) (zc h ad iv t0 κ ν)) := by
  unfold g_X7_tellSinking f_X7_tellSinking
  refine sc_ob hl hI ?_
  refine sc_b1 (sc_X4_clear hl hI) (fun u1 m1 q1 => ?_)
  refine sc_gq hl hI (δ := 1) (fun _ _ _ _ _ => rfl) ?_
  refine sc_ob hl hI ?_
  refine sc_b (sc_X3_cellCount hl hI) (fun v8 => ?_)
  refine sm_it (cs := (fun s : (Int32 × zzM × zzN) => (s.1, zc h ad iv t0 s.2.1 s.2.2))) (fun s => ?_)
  exact sc_X7_tellSinking_15 hl hI
set_option maxHeartbeats 4000000 in
set_option maxRecDepth 100000 in
theorem sc_X7_slopesGently_86 {h : zz_H} {ad : Nat → Nat} {iv : Nat → Option Nat} {t0 : Nat} {lv : Nat → Bool} (hl : ∀ o, lv o = true → iv (ad o) = some o) (hI : ∀ q o, iv q = some o → ad o = q) {a0 : Nat} {x1 : Nat} {x2 : Int32} {κ : zzM} {ν : zzN} : zLe id (g_X7_slopesGently_86 lv a0 x1 x2 κ ν) (f_X7_slopesGently_86 (ad a0) (some (ad x1)) x2 (zc h ad iv t0 κ ν)) := by
  unfold g_X7_slopesGently_86 f_X7_slopesGently_86
  exact sm_some rfl
set_option maxHeartbeats 4000000 in
set_option maxRecDepth 100000 in
theorem sc_X7_slopesGently_56 {h : zz_H} {ad : Nat → Nat} {iv : Nat → Option Nat} {t0 : Nat} {lv : Nat → Bool} (hl : ∀ o, lv o = true → iv (ad o) = some o) (hI : ∀ q o, iv q = some o → ad o = q) {a0 : Nat} {x1 : Nat} {x2 : Int32} {x3 : Int32} {κ : zzM} {ν : zzN} : zLe id (g_X7_slopesGently_56 lv a0 x1 x2 x3 κ ν) (f_X7_slopesGently_56 (ad a0) (some (ad x1)) x2 x3 (zc h ad iv t0 κ ν)) := by
  unfold g_X7_slopesGently_56 f_X7_slopesGently_56
  refine sm_if (fun c => ?_) (fun c => ?_)
  · exact sc_X7_slopesGently_86 hl hI
  · refine sc_ob hl hI ?_
    refine sc_b (sc_X4_at hl hI) (fun v64 => ?_)
    refine sc_ob hl hI ?_
    refine sc_b (sc_X4_at hl hI) (fun v72 => ?_)
    refine sm_if (fun c => ?_) (fun c => ?_)
    · exact sc_X7_slopesGently_86 hl hI
    · exact sm_some rfl
set_option maxHeartbeats 4000000 in
set_option maxRecDepth 100000 in
theorem sc_X7_slopesGently_2 {h : zz_H} {ad : Nat → Nat} {iv : Nat → Option Nat} {t0 : Nat} {lv : Nat → Bool} (hl : ∀ o, lv o = true → iv (ad o) = some o) (hI : ∀ q o, iv q = some o → ad o = q) {a0 : Nat} {x1 : Nat} {x2 : Int32} {κ : zzM} {ν : zzN} : zLe id (g_X7_slopesGently_2 lv a0 x1 x2 κ ν) (f_X7_slopesGently_2 (ad a0) (some (ad x1)) x2 (zc h ad iv t0 κ ν)) := by
  unfold g_X7_slopesGently_2 f_X7_slopesGently_2
  refine sc_gq hl hI (δ := 1) (fun _ _ _ _ _ => rfl) ?_
  refine sc_ob hl hI ?_
  refine sc_b (sc_X3_cellCount hl hI) (fun v7 => ?_)
  refine sm_if (fun c => ?_) (fun c => ?_)
  · exact sm_some rfl
  · refine sc_gq hl hI (δ := 1) (fun _ _ _ _ _ => rfl) ?_
    refine sc_ob hl hI ?_
    refine sc_b (sc_X3_cellAt hl hI) (fun v18 => ?_)
    refine sm_dv ?_
    refine sm_if (fun c => ?_) (fun c => ?_)
    · exact sc_X7_slopesGently_56 hl hI
    · refine sc_ob hl hI ?_
      refine sc_b (sc_X4_at hl hI) (fun v35 => ?_)
      refine sc_ob hl hI ?_
      refine sc_b (sc_X4_at hl hI) (fun v42 => ?_)
      refine sm_if (fun c => ?_) (fun c => ?_)
      · exact sc_X7_slopesGently_56 hl hI
      · exact sm_some rfl
set_option maxHeartbeats 4000000 in
set_option maxRecDepth 100000 in
theorem sc_X7_slopesGently {h : zz_H} {ad : Nat → Nat} {iv : Nat → Option Nat} {t0 : Nat} {lv : Nat → Bool} (hl : ∀ o, lv o = true → iv (ad o) = some o) (hI : ∀ q o, iv q = some o → ad o = q) {a0 : Nat} {x1 : Nat} {κ : zzM} {ν : zzN} : zLe id (g_X7_slopesGently lv a0 x1 κ ν) (f_X7_slopesGently (ad a0) (some (ad x1)) (zc h ad iv t0 κ ν)) := by
  unfold g_X7_slopesGently f_X7_slopesGently
  refine sm_it0 (fun s => ?_)
  exact sc_X7_slopesGently_2 hl hI
set_option maxHeartbeats 4000000 in
set_option maxRecDepth 100000 in
theorem sc_X8_allSigned_16 {h : zz_H} {ad : Nat → Nat} {iv : Nat → Option Nat} {t0 : Nat} {lv : Nat → Bool} (hl : ∀ o, lv o = true → iv (ad o) = some o) (hI : ∀ q o, iv q = some o → ad o = q) {s0 : Int32} {κ : zzM} {ν : zzN} : zLe id (g_X8_allSigned_16 lv s0 κ ν) (f_X8_allSigned_16 s0 (zc h ad iv t0 κ ν)) := by
  unfold g_X8_allSigned_16 f_X8_allSigned_16
  refine sm_gz ?_
  exact sm_some rfl
set_option maxHeartbeats 4000000 in
set_option maxRecDepth 100000 in
theorem sc_X8_allSigned {h : zz_H} {ad : Nat → Nat} {iv : Nat → Option Nat} {t0 : Nat} {lv : Nat → Bool} (hl : ∀ o, lv o = true → iv (ad o) = some o) (hI : ∀ q o, iv q = some o → ad o = q) {a0 : Nat} {κ : zzM} {ν : zzN} : zLe id (g_X8_allSigned lv a0 κ ν) (f_X8_allSigned (ad a0) (zc h ad iv t0 κ ν)) := by
  unfold g_X8_allSigned f_X8_allSigned
  refine sc_gi hl hI (fun _ _ _ _ _ => rfl) ?_
  refine sc_gi hl hI (fun _ _ _ _ _ => rfl) ?_
  refine sm_if (fun c => ?_) (fun c => ?_)
  · exact sc_X8_allSigned_16 hl hI
  · exact sc_X8_allSigned_16 hl hI
set_option maxHeartbeats 4000000 in
set_option maxRecDepth 100000 in
theorem sc_X8_layersAhead_22 {h : zz_H} {ad : Nat → Nat} {iv : Nat → Option Nat} {t0 : Nat} {lv : Nat → Bool} (hl : ∀ o, lv o = true → iv (ad o) = some o) (hI : ∀ q o, iv q = some o → ad o = q) {a0 : Nat} {x1 : Int32} {x2 : Int32} {x3 : Int32} {κ : zzM} {ν : zzN} : zLe id (g_X8_layersAhead_22 lv a0 x1 x2 x3 κ ν) (f_X8_layersAhead_22 (ad a0) x1 x2 x3 (zc h ad iv t0 κ ν)) := by
  unfold g_X8_layersAhead_22 f_X8_layersAhead_22
  exact sm_some rfl
set_option maxHeartbeats 4000000 in
set_option maxRecDepth 100000 in
theorem sc_X8_layersAhead_4 {h : zz_H} {ad : Nat → Nat} {iv : Nat → Option Nat} {t0 : Nat} {lv : Nat → Bool} (hl : ∀ o, lv o = true → iv (ad o) = some o) (hI : ∀ q o, iv q = some o → ad o = q) {a0 : Nat} {x1 : Int32} {x2 : Int32} {x3 : Int32} {κ : zzM} {ν : zzN} : zLe id (g_X8_layersAhead_4 lv a0 x1 x2 x3 κ ν) (f_X8_layersAhead_4 (ad a0) x1 x2 x3 (zc h ad iv t0 κ ν)) := by
  unfold g_X8_layersAhead_4 f_X8_layersAhead_4
  refine sm_if (fun c => ?_) (fun c => ?_)
  · exact sm_some rfl
  · refine sc_ob hl hI ?_
    refine sc_b (sc_X8_letterAt hl hI) (fun v11 => ?_)
    refine sm_if (fun c => ?_) (fun c => ?_)
    · exact sc_X8_layersAhead_22 hl hI
    · exact sc_X8_layersAhead_22 hl hI
set_option maxHeartbeats 4000000 in
set_option maxRecDepth 100000 in
theorem sc_X8_layersAhead {h : zz_H} {ad : Nat → Nat} {iv : Nat → Option Nat} {t0 : Nat} {lv : Nat → Bool} (hl : ∀ o, lv o = true → iv (ad o) = some o) (hI : ∀ q o, iv q = some o → ad o = q) {a0 : Nat} {x1 : Int32} {κ : zzM} {ν : zzN} : zLe id (g_X8_layersAhead lv a0 x1 κ ν) (f_X8_layersAhead (ad a0) x1 (zc h ad iv t0 κ ν)) := by
  unfold g_X8_layersAhead f_X8_layersAhead
  refine sm_it0 (fun s => ?_)
  exact sc_X8_layersAhead_4 hl hI
set_option maxHeartbeats 4000000 in
set_option maxRecDepth 100000 in
theorem sc_X8_mayFollow_140 {h : zz_H} {ad : Nat → Nat} {iv : Nat → Option Nat} {t0 : Nat} {lv : Nat → Bool} (hl : ∀ o, lv o = true → iv (ad o) = some o) (hI : ∀ q o, iv q = some o → ad o = q) {s0 : Int32} {κ : zzM} {ν : zzN} : zLe id (g_X8_mayFollow_140 lv s0 κ ν) (f_X8_mayFollow_140 s0 (zc h ad iv t0 κ ν)) := by
  unfold g_X8_mayFollow_140 f_X8_mayFollow_140
  refine sm_gz ?_
  exact sm_some rfl
set_option maxHeartbeats 4000000 in
set_option maxRecDepth 100000 in
theorem sc_X8_mayFollow_139 {h : zz_H} {ad : Nat → Nat} {iv : Nat → Option Nat} {t0 : Nat} {lv : Nat → Bool} (hl : ∀ o, lv o = true → iv (ad o) = some o) (hI : ∀ q o, iv q = some o → ad o = q) {κ : zzM} {ν : zzN} : zLe id (g_X8_mayFollow_139 lv κ ν) (f_X8_mayFollow_139  (zc h ad iv t0 κ ν)) := by
  unfold g_X8_mayFollow_139 f_X8_mayFollow_139
  exact sc_X8_mayFollow_140 hl hI
set_option maxHeartbeats 4000000 in
set_option maxRecDepth 100000 in
theorem sc_X8_mayFollow_135 {h : zz_H} {ad : Nat → Nat} {iv : Nat → Option Nat} {t0 : Nat} {lv : Nat → Bool} (hl : ∀ o, lv o = true → iv (ad o) = some o) (hI : ∀ q o, iv q = some o → ad o = q) {κ : zzM} {ν : zzN} : zLe id (g_X8_mayFollow_135 lv κ ν) (f_X8_mayFollow_135  (zc h ad iv t0 κ ν)) := by
  unfold g_X8_mayFollow_135 f_X8_mayFollow_135
  exact sc_X8_mayFollow_140 hl hI
set_option maxHeartbeats 4000000 in
set_option maxRecDepth 100000 in
theorem sc_X8_mayFollow_116 {h : zz_H} {ad : Nat → Nat} {iv : Nat → Option Nat} {t0 : Nat} {lv : Nat → Bool} (hl : ∀ o, lv o = true → iv (ad o) = some o) (hI : ∀ q o, iv q = some o → ad o = q) {s0 : Int32} {κ : zzM} {ν : zzN} : zLe id (g_X8_mayFollow_116 lv s0 κ ν) (f_X8_mayFollow_116 s0 (zc h ad iv t0 κ ν)) := by
  unfold g_X8_mayFollow_116 f_X8_mayFollow_116
  refine sm_gz ?_
  exact sm_some rfl
set_option maxHeartbeats 4000000 in
set_option maxRecDepth 100000 in
theorem sc_X8_mayFollow_98 {h : zz_H} {ad : Nat → Nat} {iv : Nat → Option Nat} {t0 : Nat} {lv : Nat → Bool} (hl : ∀ o, lv o = true → iv (ad o) = some o) (hI : ∀ q o, iv q = some o → ad o = q) {s0 : Int32} {κ : zzM} {ν : zzN} : zLe id (g_X8_mayFollow_98 lv s0 κ ν) (f_X8_mayFollow_98 s0 (zc h ad iv t0 κ ν)) := by
  unfold g_X8_mayFollow_98 f_X8_mayFollow_98
  refine sm_gz ?_
  exact sm_some rfl
set_option maxHeartbeats 4000000 in
set_option maxRecDepth 100000 in
theorem sc_X8_mayFollow_97 {h : zz_H} {ad : Nat → Nat} {iv : Nat → Option Nat} {t0 : Nat} {lv : Nat → Bool} (hl : ∀ o, lv o = true → iv (ad o) = some o) (hI : ∀ q o, iv q = some o → ad o = q) {κ : zzM} {ν : zzN} : zLe id (g_X8_mayFollow_97 lv κ ν) (f_X8_mayFollow_97  (zc h ad iv t0 κ ν)) := by
  unfold g_X8_mayFollow_97 f_X8_mayFollow_97
  exact sc_X8_mayFollow_98 hl hI
set_option maxHeartbeats 4000000 in
set_option maxRecDepth 100000 in
theorem sc_X8_mayFollow_84 {h : zz_H} {ad : Nat → Nat} {iv : Nat → Option Nat} {t0 : Nat} {lv : Nat → Bool} (hl : ∀ o, lv o = true → iv (ad o) = some o) (hI : ∀ q o, iv q = some o → ad o = q) {a0 : Nat} {x1 : Int32} {κ : zzM} {ν : zzN} : zLe id (g_X8_mayFollow_84 lv a0 x1 κ ν) (f_X8_mayFollow_84 (ad a0) x1 (zc h ad iv t0 κ ν)) := by
  unfold g_X8_mayFollow_84 f_X8_mayFollow_84
  refine sc_ob hl hI ?_
  refine sc_b (sc_X8_layersAhead hl hI) (fun v86 => ?_)
  refine sm_if (fun c => ?_) (fun c => ?_)
  · exact sc_X8_mayFollow_97 hl hI
  · exact sc_X8_mayFollow_98 hl hI
set_option maxHeartbeats 4000000 in
set_option maxRecDepth 100000 in
theorem sc_X8_mayFollow_59 {h : zz_H} {ad : Nat → Nat} {iv : Nat → Option Nat} {t0 : Nat} {lv : Nat → Bool} (hl : ∀ o, lv o = true → iv (ad o) = some o) (hI : ∀ q o, iv q = some o → ad o = q) {s0 : Int32} {κ : zzM} {ν : zzN} : zLe id (g_X8_mayFollow_59 lv s0 κ ν) (f_X8_mayFollow_59 s0 (zc h ad iv t0 κ ν)) := by
  unfold g_X8_mayFollow_59 f_X8_mayFollow_59
  refine sm_gz ?_
  exact sm_some rfl
set_option maxHeartbeats 4000000 in
set_option maxRecDepth 100000 in
theorem sc_X8_mayFollow_41 {h : zz_H} {ad : Nat → Nat} {iv : Nat → Option Nat} {t0 : Nat} {lv : Nat → Bool} (hl : ∀ o, lv o = true → iv (ad o) = some o) (hI : ∀ q o, iv q = some o → ad o = q) {s0 : Int32} {κ : zzM} {ν : zzN} : zLe id (g_X8_mayFollow_41 lv s0 κ ν) (f_X8_mayFollow_41 s0 (zc h ad iv t0 κ ν)) := by
  unfold g_X8_mayFollow_41 f_X8_mayFollow_41
  refine sm_gz ?_
  exact sm_some rfl
set_option maxHeartbeats 4000000 in
set_option maxRecDepth 100000 in
theorem sc_X8_mayFollow_23 {h : zz_H} {ad : Nat → Nat} {iv : Nat → Option Nat} {t0 : Nat} {lv : Nat → Bool} (hl : ∀ o, lv o = true → iv (ad o) = some o) (hI : ∀ q o, iv q = some o → ad o = q) {s0 : Int32} {κ : zzM} {ν : zzN} : zLe id (g_X8_mayFollow_23 lv s0 κ ν) (f_X8_mayFollow_23 s0 (zc h ad iv t0 κ ν)) := by
  unfold g_X8_mayFollow_23 f_X8_mayFollow_23
  refine sm_gz ?_
  exact sm_some rfl
set_option maxHeartbeats 4000000 in
set_option maxRecDepth 100000 in
theorem sc_X8_mayFollow {h : zz_H} {ad : Nat → Nat} {iv : Nat → Option Nat} {t0 : Nat} {lv : Nat → Bool} (hl : ∀ o, lv o = true → iv (ad o) = some o) (hI : ∀ q o, iv q = some o → ad o = q) {a0 : Nat} {x1 : Int32} {x2 : Int32} {κ : zzM} {ν : zzN} : zLe id (g_X8_mayFollow lv a0 x1 x2 κ ν) (f_X8_mayFollow (ad a0) x1 x2 (zc h ad iv t0 κ ν)) := by
  unfold g_X8_mayFollow f_X8_mayFollow
  refine sc_ob hl hI ?_
  refine sc_b (sc_X8_letterAt hl hI) (fun v4 => ?_)
  refine sm_if (fun c => ?_) (fun c => ?_)
  · refine sm_if (fun c => ?_) (fun c => ?_)
    · exact sc_X8_mayFollow_23 hl hI
    · exact sc_X8_mayFollow_23 hl hI
  · refine sm_if (fun c => ?_) (fun c => ?_)
    · refine sm_if (fun c => ?_) (fun c => ?_)
      · exact sc_X8_mayFollow_41 hl hI
      · exact sc_X8_mayFollow_41 hl hI
    · refine sm_if (fun c => ?_) (fun c => ?_)
      · refine sm_if (fun c => ?_) (fun c => ?_)
        · exact sc_X8_mayFollow_59 hl hI
        · exact sc_X8_mayFollow_59 hl hI
      · refine sm_if (fun c => ?_) (fun c => ?_)
        · refine sm_if (fun c => ?_) (fun c => ?_)
          · exact sc_X8_mayFollow_84 hl hI
          · refine sm_if (fun c => ?_) (fun c => ?_)
            · exact sc_X8_mayFollow_84 hl hI
            · refine sm_if (fun c => ?_) (fun c => ?_)
              · exact sc_X8_mayFollow_84 hl hI
              · exact sc_X8_mayFollow_97 hl hI
        · refine sm_if (fun c => ?_) (fun c => ?_)
          · refine sm_if (fun c => ?_) (fun c => ?_)
            · exact sc_X8_mayFollow_116 hl hI
            · exact sc_X8_mayFollow_116 hl hI
          · refine sm_if (fun c => ?_) (fun c => ?_)
            · refine sm_if (fun c => ?_) (fun c => ?_)
              · exact sc_X8_mayFollow_135 hl hI
              · refine sm_if (fun c => ?_) (fun c => ?_)
                · exact sc_X8_mayFollow_135 hl hI
                · exact sc_X8_mayFollow_139 hl hI
            · exact sc_X8_mayFollow_139 hl hI
set_option maxHeartbeats 4000000 in
set_option maxRecDepth 100000 in
theorem sc_X8_mayCome_24 {h : zz_H} {ad : Nat → Nat} {iv : Nat → Option Nat} {t0 : Nat} {lv : Nat → Bool} (hl : ∀ o, lv o = true → iv (ad o) = some o) (hI : ∀ q o, iv q = some o → ad o = q) {s0 : Int32} {κ : zzM} {ν : zzN} : zLe id (g_X8_mayCome_24 lv s0 κ ν) (f_X8_mayCome_24 s0 (zc h ad iv t0 κ ν)) := by
  unfold g_X8_mayCome_24 f_X8_mayCome_24
  refine sm_gz ?_
  exact sm_some rfl
set_option maxHeartbeats 4000000 in
set_option maxRecDepth 100000 in
theorem sc_X8_mayCome_23 {h : zz_H} {ad : Nat → Nat} {iv : Nat → Option Nat} {t0 : Nat} {lv : Nat → Bool} (hl : ∀ o, lv o = true → iv (ad o) = some o) (hI : ∀ q o, iv q = some o → ad o = q) {κ : zzM} {ν : zzN} : zLe id (g_X8_mayCome_23 lv κ ν) (f_X8_mayCome_23  (zc h ad iv t0 κ ν)) := by
  unfold g_X8_mayCome_23 f_X8_mayCome_23
  exact sc_X8_mayCome_24 hl hI
set_option maxHeartbeats 4000000 in
set_option maxRecDepth 100000 in
theorem sc_X8_mayCome {h : zz_H} {ad : Nat → Nat} {iv : Nat → Option Nat} {t0 : Nat} {lv : Nat → Bool} (hl : ∀ o, lv o = true → iv (ad o) = some o) (hI : ∀ q o, iv q = some o → ad o = q) {a0 : Nat} {x1 : Int32} {κ : zzM} {ν : zzN} : zLe id (g_X8_mayCome lv a0 x1 κ ν) (f_X8_mayCome (ad a0) x1 (zc h ad iv t0 κ ν)) := by
  unfold g_X8_mayCome f_X8_mayCome
  refine sc_ob hl hI ?_
  refine sc_b (sc_X8_allSigned hl hI) (fun v1 => ?_)
  refine sm_if (fun c => ?_) (fun c => ?_)
  · exact sc_X8_mayCome_23 hl hI
  · refine sc_gi hl hI (fun _ _ _ _ _ => rfl) ?_
    refine sc_ob hl hI ?_
    refine sc_b (sc_X8_mayFollow hl hI) (fun v13 => ?_)
    refine sm_if (fun c => ?_) (fun c => ?_)
    · exact sc_X8_mayCome_23 hl hI
    · exact sc_X8_mayCome_24 hl hI
set_option maxHeartbeats 4000000 in
set_option maxRecDepth 100000 in
theorem sc_X8_signLast {h : zz_H} {ad : Nat → Nat} {iv : Nat → Option Nat} {t0 : Nat} {lv : Nat → Bool} (hl : ∀ o, lv o = true → iv (ad o) = some o) (hI : ∀ q o, iv q = some o → ad o = q) {a0 : Nat} {κ : zzM} {ν : zzN} : zLe (fun r : (Int32 × zzM × zzN) => (r.1, zc h ad iv t0 r.2.1 r.2.2)) (g_X8_signLast lv a0 κ ν) (f_X8_signLast (ad a0) (zc h ad iv t0 κ ν)) := by
  unfold g_X8_signLast f_X8_signLast
  refine sc_gi hl hI (fun _ _ _ _ _ => rfl) ?_
  refine sc_p hl hI (fun _ _ _ _ _ _ => ⟨rfl, Nat.le_of_ble_eq_true rfl⟩) ?_
  refine sc_gi hl hI (fun _ _ _ _ _ => rfl) ?_
  exact sm_some rfl
set_option maxHeartbeats 4000000 in
set_option maxRecDepth 100000 in
theorem sc_X8_areInOrder_60 {h : zz_H} {ad : Nat → Nat} {iv : Nat → Option Nat} {t0 : Nat} {lv : Nat → Bool} (hl : ∀ o, lv o = true → iv (ad o) = some o) (hI : ∀ q o, iv q = some o → ad o = q) {s0 : Int32} {κ : zzM} {ν : zzN} : zLe id (g_X8_areInOrder_60 lv s0 κ ν) (f_X8_areInOrder_60 s0 (zc h ad iv t0 κ ν)) := by
  unfold g_X8_areInOrder_60 f_X8_areInOrder_60
  refine sm_gz ?_
  exact sm_some rfl
set_option maxHeartbeats 4000000 in
set_option maxRecDepth 100000 in
theorem sc_X8_areInOrder_55 {h : zz_H} {ad : Nat → Nat} {iv : Nat → Option Nat} {t0 : Nat} {lv : Nat → Bool} (hl : ∀ o, lv o = true → iv (ad o) = some o) (hI : ∀ q o, iv q = some o → ad o = q) {κ : zzM} {ν : zzN} : zLe id (g_X8_areInOrder_55 lv κ ν) (f_X8_areInOrder_55  (zc h ad iv t0 κ ν)) := by
  unfold g_X8_areInOrder_55 f_X8_areInOrder_55
  exact sc_X8_areInOrder_60 hl hI
set_option maxHeartbeats 4000000 in
set_option maxRecDepth 100000 in
theorem sc_X8_areInOrder_2 {h : zz_H} {ad : Nat → Nat} {iv : Nat → Option Nat} {t0 : Nat} {lv : Nat → Bool} (hl : ∀ o, lv o = true → iv (ad o) = some o) (hI : ∀ q o, iv q = some o → ad o = q) {a0 : Nat} {x1 : Int32} {κ : zzM} {ν : zzN} : zLe id (g_X8_areInOrder_2 lv a0 x1 κ ν) (f_X8_areInOrder_2 (ad a0) x1 (zc h ad iv t0 κ ν)) := by
  unfold g_X8_areInOrder_2 f_X8_areInOrder_2
  refine sc_gi hl hI (fun _ _ _ _ _ => rfl) ?_
  refine sm_if (fun c => ?_) (fun c => ?_)
  · refine sc_gi hl hI (fun _ _ _ _ _ => rfl) ?_
    refine sc_gi hl hI (fun _ _ _ _ _ => rfl) ?_
    refine sm_if (fun c => ?_) (fun c => ?_)
    · refine sm_map01 ?_
      exact sc_X8_areInOrder_55 hl hI
    · refine sc_gi hl hI (fun _ _ _ _ _ => rfl) ?_
      refine sc_gi hl hI (fun _ _ _ _ _ => rfl) ?_
      refine sm_if (fun c => ?_) (fun c => ?_)
      · refine sm_map01 ?_
        exact sc_X8_areInOrder_55 hl hI
      · refine sm_map01 ?_
        exact sc_X8_areInOrder_60 hl hI
  · refine sc_ob hl hI ?_
    refine sc_b (sc_X8_letterAt hl hI) (fun v14 => ?_)
    refine sc_ob hl hI ?_
    refine sc_b (sc_X8_mayFollow hl hI) (fun v17 => ?_)
    refine sm_if (fun c => ?_) (fun c => ?_)
    · exact sm_some rfl
    · exact sm_some rfl
set_option maxHeartbeats 4000000 in
set_option maxRecDepth 100000 in
theorem sc_X8_areInOrder {h : zz_H} {ad : Nat → Nat} {iv : Nat → Option Nat} {t0 : Nat} {lv : Nat → Bool} (hl : ∀ o, lv o = true → iv (ad o) = some o) (hI : ∀ q o, iv q = some o → ad o = q) {a0 : Nat} {κ : zzM} {ν : zzN} : zLe id (g_X8_areInOrder lv a0 κ ν) (f_X8_areInOrder (ad a0) (zc h ad iv t0 κ ν)) := by
  unfold g_X8_areInOrder f_X8_areInOrder
  refine sm_it0 (fun s => ?_)
  exact sc_X8_areInOrder_2 hl hI
set_option maxHeartbeats 4000000 in
set_option maxRecDepth 100000 in
theorem sc_X9_needRange_10 {h : zz_H} {ad : Nat → Nat} {iv : Nat → Option Nat} {t0 : Nat} {lv : Nat → Bool} (hl : ∀ o, lv o = true → iv (ad o) = some o) (hI : ∀ q o, iv q = some o → ad o = q) {κ : zzM} {ν : zzN} : zLe id (g_X9_needRange_10 lv κ ν) (f_X9_needRange_10  (zc h ad iv t0 κ ν)) := by
  unfold g_X9_needRange_10 f_X9_needRange_10
  exact sm_some rfl
set_option maxHeartbeats 4000000 in
set_option maxRecDepth 100000 in
theorem sc_X9_needRange {h : zz_H} {ad : Nat → Nat} {iv : Nat → Option Nat} {t0 : Nat} {lv : Nat → Bool} (hl : ∀ o, lv o = true → iv (ad o) = some o) (hI : ∀ q o, iv q = some o → ad o = q) {x0 : Int32} {x1 : Int32} {x2 : Int32} {κ : zzM} {ν : zzN} : zLe id (g_X9_needRange lv x0 x1 x2 κ ν) (f_X9_needRange x0 x1 x2 (zc h ad iv t0 κ ν)) := by
  unfold g_X9_needRange f_X9_needRange
  refine sm_if (fun c => ?_) (fun c => ?_)
  · exact sc_X9_needRange_10 hl hI
  · refine sm_if (fun c => ?_) (fun c => ?_)
    · exact sm_some rfl
    · exact sc_X9_needRange_10 hl hI
set_option maxHeartbeats 4000000 in
set_option maxRecDepth 100000 in
theorem sc_X9_needRoom {h : zz_H} {ad : Nat → Nat} {iv : Nat → Option Nat} {t0 : Nat} {lv : Nat → Bool} (hl : ∀ o, lv o = true → iv (ad o) = some o) (hI : ∀ q o, iv q = some o → ad o = q) {x0 : Int32} {x1 : Int32} {κ : zzM} {ν : zzN} : zLe id (g_X9_needRoom lv x0 x1 κ ν) (f_X9_needRoom x0 x1 (zc h ad iv t0 κ ν)) := by
  unfold g_X9_needRoom f_X9_needRoom
  refine sm_if (fun c => ?_) (fun c => ?_)
  · exact sm_some rfl
  · exact sm_some rfl
set_option maxHeartbeats 4000000 in
set_option maxRecDepth 100000 in
theorem sc_X9_needIndex_9 {h : zz_H} {ad : Nat → Nat} {iv : Nat → Option Nat} {t0 : Nat} {lv : Nat → Bool} (hl : ∀ o, lv o = true → iv (ad o) = some o) (hI : ∀ q o, iv q = some o → ad o = q) {κ : zzM} {ν : zzN} : zLe id (g_X9_needIndex_9 lv κ ν) (f_X9_needIndex_9  (zc h ad iv t0 κ ν)) := by
  unfold g_X9_needIndex_9 f_X9_needIndex_9
  exact sm_some rfl
set_option maxHeartbeats 4000000 in
set_option maxRecDepth 100000 in
theorem sc_X9_needIndex {h : zz_H} {ad : Nat → Nat} {iv : Nat → Option Nat} {t0 : Nat} {lv : Nat → Bool} (hl : ∀ o, lv o = true → iv (ad o) = some o) (hI : ∀ q o, iv q = some o → ad o = q) {x0 : Int32} {x1 : Int32} {κ : zzM} {ν : zzN} : zLe id (g_X9_needIndex lv x0 x1 κ ν) (f_X9_needIndex x0 x1 (zc h ad iv t0 κ ν)) := by
  unfold g_X9_needIndex f_X9_needIndex
  refine sm_if (fun c => ?_) (fun c => ?_)
  · exact sc_X9_needIndex_9 hl hI
  · refine sm_if (fun c => ?_) (fun c => ?_)
    · exact sm_some rfl
    · exact sc_X9_needIndex_9 hl hI
set_option maxHeartbeats 4000000 in
set_option maxRecDepth 100000 in
theorem sc_X9_seatOf {h : zz_H} {ad : Nat → Nat} {iv : Nat → Option Nat} {t0 : Nat} {lv : Nat → Bool} (hl : ∀ o, lv o = true → iv (ad o) = some o) (hI : ∀ q o, iv q = some o → ad o = q) {a0 : Nat} {x1 : Int32} {κ : zzM} {ν : zzN} : zLe (Sum.map (fun o : Nat => some (ad o)) id) (g_X9_seatOf lv a0 x1 κ ν) (f_X9_seatOf (ad a0) x1 (zc h ad iv t0 κ ν)) := by
  unfold g_X9_seatOf f_X9_seatOf
  refine sc_gq hl hI (δ := 1) (fun _ _ _ _ _ => rfl) ?_
  refine sc_ob hl hI ?_
  refine sc_size hl hI ?_
  refine sc_th0 (sc_X9_needIndex hl hI) (fun u8 => ?_) (fun e => sm_some rfl)
  refine sc_gq hl hI (δ := 1) (fun _ _ _ _ _ => rfl) ?_
  refine sc_ob hl hI ?_
  refine sc_get hl hI (fun v16 => ?_)
  refine sc_cc hl hI ?_
  exact sm_some rfl
set_option maxHeartbeats 4000000 in
set_option maxRecDepth 100000 in
theorem sc_X9_needNext {h : zz_H} {ad : Nat → Nat} {iv : Nat → Option Nat} {t0 : Nat} {lv : Nat → Bool} (hl : ∀ o, lv o = true → iv (ad o) = some o) (hI : ∀ q o, iv q = some o → ad o = q) {x0 : Nat} {x1 : Int32} {κ : zzM} {ν : zzN} : zLe id (g_X9_needNext lv x0 x1 κ ν) (f_X9_needNext (some (ad x0)) x1 (zc h ad iv t0 κ ν)) := by
  unfold g_X9_needNext f_X9_needNext
  refine sc_gq hl hI (δ := 4) (fun _ _ _ _ _ => rfl) ?_
  refine sc_ob hl hI ?_
  refine sc_b (sc_X8_mayCome hl hI) (fun v5 => ?_)
  refine sm_if (fun c => ?_) (fun c => ?_)
  · exact sm_some rfl
  · exact sm_some rfl
set_option maxHeartbeats 4000000 in
set_option maxRecDepth 100000 in
theorem sc_X9_web {h : zz_H} {ad : Nat → Nat} {iv : Nat → Option Nat} {t0 : Nat} {lv : Nat → Bool} (hl : ∀ o, lv o = true → iv (ad o) = some o) (hI : ∀ q o, iv q = some o → ad o = q) {a0 : Nat} {x1 : Int32} {x2 : Int32} {κ : zzM} {ν : zzN} : zLe (fun r : ((Int32 ⊕ Nat) × zzM × zzN) => (r.1, zc h ad iv t0 r.2.1 r.2.2)) (g_X9_web lv a0 x1 x2 κ ν) (f_X9_web (ad a0) x1 x2 (zc h ad iv t0 κ ν)) := by
  unfold g_X9_web f_X9_web
  refine sc_ob hl hI ?_
  refine sc_th (sc_X9_seatOf hl hI) (fun v2 => ?_) (fun e => sm_some rfl)
  refine sc_th0 (sc_X9_needRange hl hI) (fun u10 => ?_) (fun e => sm_some rfl)
  refine sc_th0 (sc_X9_needNext hl hI) (fun u16 => ?_) (fun e => sm_some rfl)
  refine sc_gq hl hI (δ := 1) (fun _ _ _ _ _ => rfl) ?_
  refine sc_p hl hI (fun _ _ _ _ _ _ => ⟨rfl, Nat.le_of_ble_eq_true rfl⟩) ?_
  refine sc_gq hl hI (δ := 4) (fun _ _ _ _ _ => rfl) ?_
  refine sc_ob hl hI ?_
  refine sc_b1 (sc_X8_add hl hI) (fun v33 m33 q33 => ?_)
  exact sm_some rfl
set_option maxHeartbeats 4000000 in
set_option maxRecDepth 100000 in
theorem sc_X9_spring {h : zz_H} {ad : Nat → Nat} {iv : Nat → Option Nat} {t0 : Nat} {lv : Nat → Bool} (hl : ∀ o, lv o = true → iv (ad o) = some o) (hI : ∀ q o, iv q = some o → ad o = q) {a0 : Nat} {x1 : Int32} {x2 : Int32} {x3 : Int32} {κ : zzM} {ν : zzN} : zLe (fun r : ((Int32 ⊕ Nat) × zzM × zzN) => (r.1, zc h ad iv t0 r.2.1 r.2.2)) (g_X9_spring lv a0 x1 x2 x3 κ ν) (f_X9_spring (ad a0) x1 x2 x3 (zc h ad iv t0 κ ν)) := by
  unfold g_X9_spring f_X9_spring
  refine sc_ob hl hI ?_
  refine sc_th (sc_X9_seatOf hl hI) (fun v2 => ?_) (fun e => sm_some rfl)
  refine sc_th0 (sc_X9_needRange hl hI) (fun u12 => ?_) (fun e => sm_some rfl)
  refine sc_th0 (sc_X9_needRange hl hI) (fun u19 => ?_) (fun e => sm_some rfl)
  refine sc_th0 (sc_X9_needNext hl hI) (fun u26 => ?_) (fun e => sm_some rfl)
  refine sc_gq hl hI (δ := 1) (fun _ _ _ _ _ => rfl) ?_
  refine sc_ob hl hI ?_
  refine sc_b1 (sc_X3_putSprings hl hI) (fun u36 m36 q36 => ?_)
  refine sc_gq hl hI (δ := 4) (fun _ _ _ _ _ => rfl) ?_
  refine sc_ob hl hI ?_
  refine sc_b1 (sc_X8_add hl hI) (fun v46 m46 q46 => ?_)
  exact sm_some rfl
set_option maxHeartbeats 4000000 in
set_option maxRecDepth 100000 in
theorem sc_X9_needCellIn {h : zz_H} {ad : Nat → Nat} {iv : Nat → Option Nat} {t0 : Nat} {lv : Nat → Bool} (hl : ∀ o, lv o = true → iv (ad o) = some o) (hI : ∀ q o, iv q = some o → ad o = q) {x0 : Int32} {x1 : Int32} {x2 : Int32} {κ : zzM} {ν : zzN} : zLe id (g_X9_needCellIn lv x0 x1 x2 κ ν) (f_X9_needCellIn x0 x1 x2 (zc h ad iv t0 κ ν)) := by
  unfold g_X9_needCellIn f_X9_needCellIn
  refine sm_dv ?_
  refine sc_th0 (sc_X9_needIndex hl hI) (fun u5 => ?_) (fun e => sm_some rfl)
  refine sm_dv ?_
  refine sc_th0 (sc_X9_needIndex hl hI) (fun u13 => ?_) (fun e => sm_some rfl)
  exact sm_some rfl
set_option maxHeartbeats 4000000 in
set_option maxRecDepth 100000 in
theorem sc_X9_needCell {h : zz_H} {ad : Nat → Nat} {iv : Nat → Option Nat} {t0 : Nat} {lv : Nat → Bool} (hl : ∀ o, lv o = true → iv (ad o) = some o) (hI : ∀ q o, iv q = some o → ad o = q) {x0 : Nat} {x1 : Int32} {κ : zzM} {ν : zzN} : zLe id (g_X9_needCell lv x0 x1 κ ν) (f_X9_needCell (some (ad x0)) x1 (zc h ad iv t0 κ ν)) := by
  unfold g_X9_needCell f_X9_needCell
  refine sc_gq hl hI (δ := 1) (fun _ _ _ _ _ => rfl) ?_
  refine sc_gi hl hI (fun _ _ _ _ _ => rfl) ?_
  refine sc_gq hl hI (δ := 1) (fun _ _ _ _ _ => rfl) ?_
  refine sc_gi hl hI (fun _ _ _ _ _ => rfl) ?_
  refine sc_th0 (sc_X9_needCellIn hl hI) (fun u15 => ?_) (fun e => sm_some rfl)
  exact sm_some rfl
set_option maxHeartbeats 4000000 in
set_option maxRecDepth 100000 in
theorem sc_X9_needInWork_21 {h : zz_H} {ad : Nat → Nat} {iv : Nat → Option Nat} {t0 : Nat} {lv : Nat → Bool} (hl : ∀ o, lv o = true → iv (ad o) = some o) (hI : ∀ q o, iv q = some o → ad o = q) {κ : zzM} {ν : zzN} : zLe id (g_X9_needInWork_21 lv κ ν) (f_X9_needInWork_21  (zc h ad iv t0 κ ν)) := by
  unfold g_X9_needInWork_21 f_X9_needInWork_21
  exact sm_some rfl
set_option maxHeartbeats 4000000 in
set_option maxRecDepth 100000 in
theorem sc_X9_needInWork {h : zz_H} {ad : Nat → Nat} {iv : Nat → Option Nat} {t0 : Nat} {lv : Nat → Bool} (hl : ∀ o, lv o = true → iv (ad o) = some o) (hI : ∀ q o, iv q = some o → ad o = q) {x0 : Nat} {x1 : Int32} {κ : zzM} {ν : zzN} : zLe id (g_X9_needInWork lv x0 x1 κ ν) (f_X9_needInWork (some (ad x0)) x1 (zc h ad iv t0 κ ν)) := by
  unfold g_X9_needInWork f_X9_needInWork
  refine sc_gq hl hI (δ := 4) (fun _ _ _ _ _ => rfl) ?_
  refine sc_ob hl hI ?_
  refine sc_b (sc_X8_last hl hI) (fun v4 => ?_)
  refine sm_if (fun c => ?_) (fun c => ?_)
  · refine sc_gq hl hI (δ := 4) (fun _ _ _ _ _ => rfl) ?_
    refine sc_ob hl hI ?_
    refine sc_b (sc_X8_allSigned hl hI) (fun v15 => ?_)
    refine sm_if (fun c => ?_) (fun c => ?_)
    · exact sm_some rfl
    · exact sc_X9_needInWork_21 hl hI
  · exact sc_X9_needInWork_21 hl hI
set_option maxHeartbeats 4000000 in
set_option maxRecDepth 100000 in
theorem sc_X9_change {h : zz_H} {ad : Nat → Nat} {iv : Nat → Option Nat} {t0 : Nat} {lv : Nat → Bool} (hl : ∀ o, lv o = true → iv (ad o) = some o) (hI : ∀ q o, iv q = some o → ad o = q) {a0 : Nat} {x1 : Int32} {x2 : Int32} {x3 : Int32} {x4 : Int32} {κ : zzM} {ν : zzN} : zLe (fun r : ((Int32 ⊕ Nat) × zzM × zzN) => (r.1, zc h ad iv t0 r.2.1 r.2.2)) (g_X9_change lv a0 x1 x2 x3 x4 κ ν) (f_X9_change (ad a0) x1 x2 x3 x4 (zc h ad iv t0 κ ν)) := by
  unfold g_X9_change f_X9_change
  refine sc_ob hl hI ?_
  refine sc_th (sc_X9_seatOf hl hI) (fun v2 => ?_) (fun e => sm_some rfl)
  refine sc_th0 (sc_X9_needCell hl hI) (fun u10 => ?_) (fun e => sm_some rfl)
  refine sc_th0 (sc_X9_needRange hl hI) (fun u18 => ?_) (fun e => sm_some rfl)
  refine sc_th0 (sc_X9_needRange hl hI) (fun u26 => ?_) (fun e => sm_some rfl)
  refine sc_th0 (sc_X9_needInWork hl hI) (fun u33 => ?_) (fun e => sm_some rfl)
  refine sc_gq hl hI (δ := 1) (fun _ _ _ _ _ => rfl) ?_
  refine sc_gq hl hI (δ := 1) (fun _ _ _ _ _ => rfl) ?_
  refine sc_ob hl hI ?_
  refine sc_b (sc_X4_at hl hI) (fun v45 => ?_)
  refine sc_gq hl hI (δ := 1) (fun _ _ _ _ _ => rfl) ?_
  refine sc_ob hl hI ?_
  refine sc_b1 (sc_X3_putSpring hl hI) (fun u59 m59 q59 => ?_)
  exact sm_some rfl
set_option maxHeartbeats 4000000 in
set_option maxRecDepth 100000 in
theorem sc_X9_tie {h : zz_H} {ad : Nat → Nat} {iv : Nat → Option Nat} {t0 : Nat} {lv : Nat → Bool} (hl : ∀ o, lv o = true → iv (ad o) = some o) (hI : ∀ q o, iv q = some o → ad o = q) {a0 : Nat} {x1 : Int32} {κ : zzM} {ν : zzN} : zLe (fun r : ((Int32 ⊕ Nat) × zzM × zzN) => (r.1, zc h ad iv t0 r.2.1 r.2.2)) (g_X9_tie lv a0 x1 κ ν) (f_X9_tie (ad a0) x1 (zc h ad iv t0 κ ν)) := by
  unfold g_X9_tie f_X9_tie
  refine sc_ob hl hI ?_
  refine sc_th (sc_X9_seatOf hl hI) (fun v2 => ?_) (fun e => sm_some rfl)
  refine sc_th0 (sc_X9_needNext hl hI) (fun u9 => ?_) (fun e => sm_some rfl)
  refine sc_gq hl hI (δ := 4) (fun _ _ _ _ _ => rfl) ?_
  refine sc_ob hl hI ?_
  refine sc_b1 (sc_X8_add hl hI) (fun v18 m18 q18 => ?_)
  exact sm_some rfl
set_option maxHeartbeats 4000000 in
set_option maxRecDepth 100000 in
theorem sc_X9_pull_31 {h : zz_H} {ad : Nat → Nat} {iv : Nat → Option Nat} {t0 : Nat} {lv : Nat → Bool} (hl : ∀ o, lv o = true → iv (ad o) = some o) (hI : ∀ q o, iv q = some o → ad o = q) {x2 : Int32} {x3 : Int32} {x4 : Int32} {x5 : Nat} {s0 : Int32} {s1 : Int32} {κ : zzM} {ν : zzN} : zLe (fun r : ((Int32 ⊕ Nat) × zzM × zzN) => (r.1, zc h ad iv t0 r.2.1 r.2.2)) (g_X9_pull_31 lv x2 x3 x4 x5 s0 s1 κ ν) (f_X9_pull_31 x2 x3 x4 (some (ad x5)) s0 s1 (zc h ad iv t0 κ ν)) := by
  unfold g_X9_pull_31 f_X9_pull_31
  refine sc_th0 (sc_X9_needIndex hl hI) (fun u31 => ?_) (fun e => sm_some rfl)
  refine sc_th0 (sc_X9_needRange hl hI) (fun u40 => ?_) (fun e => sm_some rfl)
  refine sc_th0 (sc_X9_needInWork hl hI) (fun u47 => ?_) (fun e => sm_some rfl)
  refine sc_gq hl hI (δ := 1) (fun _ _ _ _ _ => rfl) ?_
  refine sc_ob hl hI ?_
  refine sc_b (sc_X3_heightInAll hl hI) (fun v55 => ?_)
  refine sc_gq hl hI (δ := 1) (fun _ _ _ _ _ => rfl) ?_
  refine sc_ob hl hI ?_
  refine sc_b1 (sc_X3_setTie hl hI) (fun u69 m69 q69 => ?_)
  refine sc_gq hl hI (δ := 1) (fun _ _ _ _ _ => rfl) ?_
  refine sc_ob hl hI ?_
  refine sc_b (sc_X3_heightInAll hl hI) (fun v79 => ?_)
  exact sm_some rfl
set_option maxHeartbeats 4000000 in
set_option maxRecDepth 100000 in
theorem sc_X9_pull {h : zz_H} {ad : Nat → Nat} {iv : Nat → Option Nat} {t0 : Nat} {lv : Nat → Bool} (hl : ∀ o, lv o = true → iv (ad o) = some o) (hI : ∀ q o, iv q = some o → ad o = q) {a0 : Nat} {x1 : Int32} {x2 : Int32} {x3 : Int32} {x4 : Int32} {κ : zzM} {ν : zzN} : zLe (fun r : ((Int32 ⊕ Nat) × zzM × zzN) => (r.1, zc h ad iv t0 r.2.1 r.2.2)) (g_X9_pull lv a0 x1 x2 x3 x4 κ ν) (f_X9_pull (ad a0) x1 x2 x3 x4 (zc h ad iv t0 κ ν)) := by
  unfold g_X9_pull f_X9_pull
  refine sc_ob hl hI ?_
  refine sc_th (sc_X9_seatOf hl hI) (fun v2 => ?_) (fun e => sm_some rfl)
  refine sm_if (fun c => ?_) (fun c => ?_)
  · refine sc_gq hl hI (δ := 1) (fun _ _ _ _ _ => rfl) ?_
    refine sc_gi hl hI (fun _ _ _ _ _ => rfl) ?_
    exact sc_X9_pull_31 hl hI
  · refine sc_gq hl hI (δ := 1) (fun _ _ _ _ _ => rfl) ?_
    refine sc_gi hl hI (fun _ _ _ _ _ => rfl) ?_
    exact sc_X9_pull_31 hl hI
set_option maxHeartbeats 4000000 in
set_option maxRecDepth 100000 in
theorem sc_X9_needKind_29 {h : zz_H} {ad : Nat → Nat} {iv : Nat → Option Nat} {t0 : Nat} {lv : Nat → Bool} (hl : ∀ o, lv o = true → iv (ad o) = some o) (hI : ∀ q o, iv q = some o → ad o = q) {κ : zzM} {ν : zzN} : zLe id (g_X9_needKind_29 lv κ ν) (f_X9_needKind_29  (zc h ad iv t0 κ ν)) := by
  unfold g_X9_needKind_29 f_X9_needKind_29
  exact sm_some rfl
set_option maxHeartbeats 4000000 in
set_option maxRecDepth 100000 in
theorem sc_X9_needKind {h : zz_H} {ad : Nat → Nat} {iv : Nat → Option Nat} {t0 : Nat} {lv : Nat → Bool} (hl : ∀ o, lv o = true → iv (ad o) = some o) (hI : ∀ q o, iv q = some o → ad o = q) {x0 : Int32} {κ : zzM} {ν : zzN} : zLe id (g_X9_needKind lv x0 κ ν) (f_X9_needKind x0 (zc h ad iv t0 κ ν)) := by
  unfold g_X9_needKind f_X9_needKind
  refine sm_if (fun c => ?_) (fun c => ?_)
  · exact sc_X9_needKind_29 hl hI
  · refine sm_if (fun c => ?_) (fun c => ?_)
    · exact sc_X9_needKind_29 hl hI
    · refine sm_if (fun c => ?_) (fun c => ?_)
      · exact sc_X9_needKind_29 hl hI
      · exact sm_some rfl
set_option maxHeartbeats 4000000 in
set_option maxRecDepth 100000 in
theorem sc_X9_buttons {h : zz_H} {ad : Nat → Nat} {iv : Nat → Option Nat} {t0 : Nat} {lv : Nat → Bool} (hl : ∀ o, lv o = true → iv (ad o) = some o) (hI : ∀ q o, iv q = some o → ad o = q) {a0 : Nat} {x1 : Int32} {κ : zzM} {ν : zzN} : zLe (fun r : ((Int32 ⊕ Nat) × zzM × zzN) => (r.1, zc h ad iv t0 r.2.1 r.2.2)) (g_X9_buttons lv a0 x1 κ ν) (f_X9_buttons (ad a0) x1 (zc h ad iv t0 κ ν)) := by
  unfold g_X9_buttons f_X9_buttons
  refine sc_ob hl hI ?_
  refine sc_th (sc_X9_seatOf hl hI) (fun v2 => ?_) (fun e => sm_some rfl)
  refine sc_th0 (sc_X9_needNext hl hI) (fun u9 => ?_) (fun e => sm_some rfl)
  refine sc_gq hl hI (δ := 4) (fun _ _ _ _ _ => rfl) ?_
  refine sc_ob hl hI ?_
  refine sc_b1 (sc_X8_add hl hI) (fun v18 m18 q18 => ?_)
  exact sm_some rfl
set_option maxHeartbeats 4000000 in
set_option maxRecDepth 100000 in
theorem sc_X9_draw_49 {h : zz_H} {ad : Nat → Nat} {iv : Nat → Option Nat} {t0 : Nat} {lv : Nat → Bool} (hl : ∀ o, lv o = true → iv (ad o) = some o) (hI : ∀ q o, iv q = some o → ad o = q) {x2 : Int32} {x3 : Int32} {x4 : Nat} {κ : zzM} {ν : zzN} : zLe (fun r : ((Int32 ⊕ Nat) × zzM × zzN) => (r.1, zc h ad iv t0 r.2.1 r.2.2)) (g_X9_draw_49 lv x2 x3 x4 κ ν) (f_X9_draw_49 x2 x3 (some (ad x4)) (zc h ad iv t0 κ ν)) := by
  unfold g_X9_draw_49 f_X9_draw_49
  refine sc_gq hl hI (δ := 7) (fun _ _ _ _ _ => rfl) ?_
  refine sc_ob hl hI ?_
  refine sc_b1 (sc_X4_put hl hI) (fun u56 m56 q56 => ?_)
  refine sc_ob hl hI ?_
  refine sc_b (sc_X7_buttonCount hl hI) (fun v61 => ?_)
  exact sm_some rfl
set_option maxHeartbeats 4000000 in
set_option maxRecDepth 100000 in
theorem sc_X9_draw {h : zz_H} {ad : Nat → Nat} {iv : Nat → Option Nat} {t0 : Nat} {lv : Nat → Bool} (hl : ∀ o, lv o = true → iv (ad o) = some o) (hI : ∀ q o, iv q = some o → ad o = q) {a0 : Nat} {x1 : Int32} {x2 : Int32} {x3 : Int32} {κ : zzM} {ν : zzN} : zLe (fun r : ((Int32 ⊕ Nat) × zzM × zzN) => (r.1, zc h ad iv t0 r.2.1 r.2.2)) (g_X9_draw lv a0 x1 x2 x3 κ ν) (f_X9_draw (ad a0) x1 x2 x3 (zc h ad iv t0 κ ν)) := by
  unfold g_X9_draw f_X9_draw
  refine sc_ob hl hI ?_
  refine sc_th (sc_X9_seatOf hl hI) (fun v2 => ?_) (fun e => sm_some rfl)
  refine sc_th0 (sc_X9_needCell hl hI) (fun u10 => ?_) (fun e => sm_some rfl)
  refine sc_th0 (sc_X9_needRange hl hI) (fun u17 => ?_) (fun e => sm_some rfl)
  refine sc_th0 (sc_X9_needInWork hl hI) (fun u24 => ?_) (fun e => sm_some rfl)
  refine sc_gq hl hI (δ := 7) (fun _ _ _ _ _ => rfl) ?_
  refine sc_ob hl hI ?_
  refine sc_b (sc_X4_at hl hI) (fun v33 => ?_)
  refine sm_if (fun c => ?_) (fun c => ?_)
  · refine sc_ob hl hI ?_
    refine sc_b (sc_X7_buttonCount hl hI) (fun v41 => ?_)
    refine sc_th0 (sc_X9_needRoom hl hI) (fun u46 => ?_) (fun e => sm_some rfl)
    exact sc_X9_draw_49 hl hI
  · exact sc_X9_draw_49 hl hI
set_option maxHeartbeats 4000000 in
set_option maxRecDepth 100000 in
theorem sc_X9_clothOf {h : zz_H} {ad : Nat → Nat} {iv : Nat → Option Nat} {t0 : Nat} {lv : Nat → Bool} (hl : ∀ o, lv o = true → iv (ad o) = some o) (hI : ∀ q o, iv q = some o → ad o = q) {a0 : Nat} {x1 : Int32} {κ : zzM} {ν : zzN} : zLe (Sum.map (fun o : Nat => some (ad o)) id) (g_X9_clothOf lv a0 x1 κ ν) (f_X9_clothOf (ad a0) x1 (zc h ad iv t0 κ ν)) := by
  unfold g_X9_clothOf f_X9_clothOf
  refine sc_gq hl hI (δ := 3) (fun _ _ _ _ _ => rfl) ?_
  refine sc_ob hl hI ?_
  refine sc_size hl hI ?_
  refine sc_th0 (sc_X9_needIndex hl hI) (fun u8 => ?_) (fun e => sm_some rfl)
  refine sc_gq hl hI (δ := 3) (fun _ _ _ _ _ => rfl) ?_
  refine sc_ob hl hI ?_
  refine sc_get hl hI (fun v16 => ?_)
  refine sc_cc hl hI ?_
  exact sm_some rfl
set_option maxHeartbeats 4000000 in
set_option maxRecDepth 100000 in
theorem sc_X9_cover {h : zz_H} {ad : Nat → Nat} {iv : Nat → Option Nat} {t0 : Nat} {lv : Nat → Bool} (hl : ∀ o, lv o = true → iv (ad o) = some o) (hI : ∀ q o, iv q = some o → ad o = q) {a0 : Nat} {x1 : Int32} {x2 : Int32} {x3 : Int32} {κ : zzM} {ν : zzN} : zLe (fun r : ((Int32 ⊕ Nat) × zzM × zzN) => (r.1, zc h ad iv t0 r.2.1 r.2.2)) (g_X9_cover lv a0 x1 x2 x3 κ ν) (f_X9_cover (ad a0) x1 x2 x3 (zc h ad iv t0 κ ν)) := by
  unfold g_X9_cover f_X9_cover
  refine sc_ob hl hI ?_
  refine sc_th (sc_X9_seatOf hl hI) (fun v2 => ?_) (fun e => sm_some rfl)
  refine sc_ob hl hI ?_
  refine sc_th (sc_X9_clothOf hl hI) (fun v9 => ?_) (fun e => sm_some rfl)
  refine sc_gi hl hI (fun _ _ _ _ _ => rfl) ?_
  refine sc_th0 (sc_X9_needRange hl hI) (fun u23 => ?_) (fun e => sm_some rfl)
  refine sc_th0 (sc_X9_needNext hl hI) (fun u30 => ?_) (fun e => sm_some rfl)
  refine sc_ob hl hI ?_
  refine sc_b1 (sc_X7_close hl hI) (fun v38 m38 q38 => ?_)
  refine sm_if (fun c => ?_) (fun c => ?_)
  · exact sm_some rfl
  · refine sc_gi hl hI (fun _ _ _ _ _ => rfl) ?_
    exact sm_some rfl
set_option maxHeartbeats 4000000 in
set_option maxRecDepth 100000 in
theorem sc_X9_sign {h : zz_H} {ad : Nat → Nat} {iv : Nat → Option Nat} {t0 : Nat} {lv : Nat → Bool} (hl : ∀ o, lv o = true → iv (ad o) = some o) (hI : ∀ q o, iv q = some o → ad o = q) {a0 : Nat} {x1 : Int32} {κ : zzM} {ν : zzN} : zLe (fun r : ((Int32 ⊕ Nat) × zzM × zzN) => (r.1, zc h ad iv t0 r.2.1 r.2.2)) (g_X9_sign lv a0 x1 κ ν) (f_X9_sign (ad a0) x1 (zc h ad iv t0 κ ν)) := by
  unfold g_X9_sign f_X9_sign
  refine sc_ob hl hI ?_
  refine sc_th (sc_X9_seatOf hl hI) (fun v2 => ?_) (fun e => sm_some rfl)
  refine sc_gq hl hI (δ := 4) (fun _ _ _ _ _ => rfl) ?_
  refine sc_ob hl hI ?_
  refine sc_b (sc_X8_allSigned hl hI) (fun v10 => ?_)
  refine sm_if (fun c => ?_) (fun c => ?_)
  · refine sc_gq hl hI (δ := 4) (fun _ _ _ _ _ => rfl) ?_
    refine sc_ob hl hI ?_
    refine sc_b1 (sc_X8_signLast hl hI) (fun v30 m30 q30 => ?_)
    exact sm_some rfl
  · exact sm_some rfl
set_option maxHeartbeats 4000000 in
set_option maxRecDepth 100000 in
theorem sc_X9_isClosed {h : zz_H} {ad : Nat → Nat} {iv : Nat → Option Nat} {t0 : Nat} {lv : Nat → Bool} (hl : ∀ o, lv o = true → iv (ad o) = some o) (hI : ∀ q o, iv q = some o → ad o = q) {a0 : Nat} {x1 : Int32} {κ : zzM} {ν : zzN} : zLe id (g_X9_isClosed lv a0 x1 κ ν) (f_X9_isClosed (ad a0) x1 (zc h ad iv t0 κ ν)) := by
  unfold g_X9_isClosed f_X9_isClosed
  refine sc_ob hl hI ?_
  refine sc_th (sc_X9_seatOf hl hI) (fun v2 => ?_) (fun e => sm_some rfl)
  refine sc_ob hl hI ?_
  refine sc_b (sc_X7_hasCover hl hI) (fun v5 => ?_)
  refine sm_gz ?_
  exact sm_some rfl
set_option maxHeartbeats 4000000 in
set_option maxRecDepth 100000 in
theorem sc_X9_stands {h : zz_H} {ad : Nat → Nat} {iv : Nat → Option Nat} {t0 : Nat} {lv : Nat → Bool} (hl : ∀ o, lv o = true → iv (ad o) = some o) (hI : ∀ q o, iv q = some o → ad o = q) {a0 : Nat} {x1 : Int32} {x2 : Int32} {κ : zzM} {ν : zzN} : zLe id (g_X9_stands lv a0 x1 x2 κ ν) (f_X9_stands (ad a0) x1 x2 (zc h ad iv t0 κ ν)) := by
  unfold g_X9_stands f_X9_stands
  refine sc_ob hl hI ?_
  refine sc_th (sc_X9_seatOf hl hI) (fun v2 => ?_) (fun e => sm_some rfl)
  refine sc_th0 (sc_X9_needCell hl hI) (fun u8 => ?_) (fun e => sm_some rfl)
  refine sc_gq hl hI (δ := 1) (fun _ _ _ _ _ => rfl) ?_
  refine sc_ob hl hI ?_
  refine sc_b (sc_X3_heightAt hl hI) (fun v16 => ?_)
  exact sm_some rfl
set_option maxHeartbeats 4000000 in
set_option maxRecDepth 100000 in
theorem sc_X9_needElement_9 {h : zz_H} {ad : Nat → Nat} {iv : Nat → Option Nat} {t0 : Nat} {lv : Nat → Bool} (hl : ∀ o, lv o = true → iv (ad o) = some o) (hI : ∀ q o, iv q = some o → ad o = q) {κ : zzM} {ν : zzN} : zLe id (g_X9_needElement_9 lv κ ν) (f_X9_needElement_9  (zc h ad iv t0 κ ν)) := by
  unfold g_X9_needElement_9 f_X9_needElement_9
  exact sm_some rfl
set_option maxHeartbeats 4000000 in
set_option maxRecDepth 100000 in
theorem sc_X9_needElement {h : zz_H} {ad : Nat → Nat} {iv : Nat → Option Nat} {t0 : Nat} {lv : Nat → Bool} (hl : ∀ o, lv o = true → iv (ad o) = some o) (hI : ∀ q o, iv q = some o → ad o = q) {x0 : Int32} {x1 : Int32} {κ : zzM} {ν : zzN} : zLe id (g_X9_needElement lv x0 x1 κ ν) (f_X9_needElement x0 x1 (zc h ad iv t0 κ ν)) := by
  unfold g_X9_needElement f_X9_needElement
  refine sm_if (fun c => ?_) (fun c => ?_)
  · exact sc_X9_needElement_9 hl hI
  · refine sm_if (fun c => ?_) (fun c => ?_)
    · exact sm_some rfl
    · exact sc_X9_needElement_9 hl hI
set_option maxHeartbeats 4000000 in
set_option maxRecDepth 100000 in
theorem sc_X9_layerOf {h : zz_H} {ad : Nat → Nat} {iv : Nat → Option Nat} {t0 : Nat} {lv : Nat → Bool} (hl : ∀ o, lv o = true → iv (ad o) = some o) (hI : ∀ q o, iv q = some o → ad o = q) {x0 : Nat} {x1 : Int32} {κ : zzM} {ν : zzN} : zLe (Sum.map (fun o : Nat => some (ad o)) id) (g_X9_layerOf lv x0 x1 κ ν) (f_X9_layerOf (some (ad x0)) x1 (zc h ad iv t0 κ ν)) := by
  unfold g_X9_layerOf f_X9_layerOf
  refine sc_gq hl hI (δ := 5) (fun _ _ _ _ _ => rfl) ?_
  refine sc_ob hl hI ?_
  refine sc_b (sc_X2_count hl hI) (fun v5 => ?_)
  refine sc_th0 (sc_X9_needElement hl hI) (fun u8 => ?_) (fun e => sm_some rfl)
  refine sc_gq hl hI (δ := 5) (fun _ _ _ _ _ => rfl) ?_
  refine sc_gq hl hI (δ := 1) (fun _ _ _ _ _ => rfl) ?_
  refine sc_ob hl hI ?_
  refine sc_get hl hI (fun v19 => ?_)
  refine sc_cc hl hI ?_
  exact sm_some rfl
set_option maxHeartbeats 4000000 in
set_option maxRecDepth 100000 in
theorem sc_X9_thick {h : zz_H} {ad : Nat → Nat} {iv : Nat → Option Nat} {t0 : Nat} {lv : Nat → Bool} (hl : ∀ o, lv o = true → iv (ad o) = some o) (hI : ∀ q o, iv q = some o → ad o = q) {a0 : Nat} {x1 : Int32} {x2 : Int32} {κ : zzM} {ν : zzN} : zLe id (g_X9_thick lv a0 x1 x2 κ ν) (f_X9_thick (ad a0) x1 x2 (zc h ad iv t0 κ ν)) := by
  unfold g_X9_thick f_X9_thick
  refine sc_ob hl hI ?_
  refine sc_th (sc_X9_seatOf hl hI) (fun v2 => ?_) (fun e => sm_some rfl)
  refine sc_th (sc_X9_layerOf hl hI) (fun v6 => ?_) (fun e => sm_some rfl)
  refine sc_gi hl hI (fun _ _ _ _ _ => rfl) ?_
  exact sm_some rfl
set_option maxHeartbeats 4000000 in
set_option maxRecDepth 100000 in
theorem sc_X9_top {h : zz_H} {ad : Nat → Nat} {iv : Nat → Option Nat} {t0 : Nat} {lv : Nat → Bool} (hl : ∀ o, lv o = true → iv (ad o) = some o) (hI : ∀ q o, iv q = some o → ad o = q) {a0 : Nat} {x1 : Int32} {x2 : Int32} {κ : zzM} {ν : zzN} : zLe id (g_X9_top lv a0 x1 x2 κ ν) (f_X9_top (ad a0) x1 x2 (zc h ad iv t0 κ ν)) := by
  unfold g_X9_top f_X9_top
  refine sc_ob hl hI ?_
  refine sc_th (sc_X9_seatOf hl hI) (fun v2 => ?_) (fun e => sm_some rfl)
  refine sc_th0 (sc_X9_needCell hl hI) (fun u8 => ?_) (fun e => sm_some rfl)
  refine sc_ob hl hI ?_
  refine sc_b (sc_X7_topOf hl hI) (fun v13 => ?_)
  exact sm_some rfl
set_option maxHeartbeats 4000000 in
set_option maxRecDepth 100000 in
theorem sc_X9_folds {h : zz_H} {ad : Nat → Nat} {iv : Nat → Option Nat} {t0 : Nat} {lv : Nat → Bool} (hl : ∀ o, lv o = true → iv (ad o) = some o) (hI : ∀ q o, iv q = some o → ad o = q) {a0 : Nat} {x1 : Int32} {x2 : Int32} {κ : zzM} {ν : zzN} : zLe id (g_X9_folds lv a0 x1 x2 κ ν) (f_X9_folds (ad a0) x1 x2 (zc h ad iv t0 κ ν)) := by
  unfold g_X9_folds f_X9_folds
  refine sc_ob hl hI ?_
  refine sc_th (sc_X9_seatOf hl hI) (fun v2 => ?_) (fun e => sm_some rfl)
  refine sc_ob hl hI ?_
  refine sc_b (sc_X7_foldCount hl hI) (fun v6 => ?_)
  exact sm_some rfl
set_option maxHeartbeats 4000000 in
set_option maxRecDepth 100000 in
theorem sc_X9_needClosed {h : zz_H} {ad : Nat → Nat} {iv : Nat → Option Nat} {t0 : Nat} {lv : Nat → Bool} (hl : ∀ o, lv o = true → iv (ad o) = some o) (hI : ∀ q o, iv q = some o → ad o = q) {x0 : Nat} {κ : zzM} {ν : zzN} : zLe id (g_X9_needClosed lv x0 κ ν) (f_X9_needClosed (some (ad x0)) (zc h ad iv t0 κ ν)) := by
  unfold g_X9_needClosed f_X9_needClosed
  refine sc_ob hl hI ?_
  refine sc_b (sc_X7_hasCover hl hI) (fun v1 => ?_)
  refine sm_if (fun c => ?_) (fun c => ?_)
  · exact sm_some rfl
  · exact sm_some rfl
set_option maxHeartbeats 4000000 in
set_option maxRecDepth 100000 in
theorem sc_X9_needHoursLeft {h : zz_H} {ad : Nat → Nat} {iv : Nat → Option Nat} {t0 : Nat} {lv : Nat → Bool} (hl : ∀ o, lv o = true → iv (ad o) = some o) (hI : ∀ q o, iv q = some o → ad o = q) {x0 : Nat} {x1 : Int32} {κ : zzM} {ν : zzN} : zLe id (g_X9_needHoursLeft lv x0 x1 κ ν) (f_X9_needHoursLeft (some (ad x0)) x1 (zc h ad iv t0 κ ν)) := by
  unfold g_X9_needHoursLeft f_X9_needHoursLeft
  refine sc_th0 (sc_X9_needClosed hl hI) (fun u1 => ?_) (fun e => sm_some rfl)
  refine sc_gq hl hI (δ := 8) (fun _ _ _ _ _ => rfl) ?_
  refine sc_gi hl hI (fun _ _ _ _ _ => rfl) ?_
  refine sm_if (fun c => ?_) (fun c => ?_)
  · exact sm_some rfl
  · exact sm_some rfl
set_option maxHeartbeats 4000000 in
set_option maxRecDepth 100000 in
theorem sc_X9_use {h : zz_H} {ad : Nat → Nat} {iv : Nat → Option Nat} {t0 : Nat} {lv : Nat → Bool} (hl : ∀ o, lv o = true → iv (ad o) = some o) (hI : ∀ q o, iv q = some o → ad o = q) {a0 : Nat} {x1 : Int32} {x2 : Int32} {κ : zzM} {ν : zzN} : zLe (fun r : ((Int32 ⊕ Nat) × zzM × zzN) => (r.1, zc h ad iv t0 r.2.1 r.2.2)) (g_X9_use lv a0 x1 x2 κ ν) (f_X9_use (ad a0) x1 x2 (zc h ad iv t0 κ ν)) := by
  unfold g_X9_use f_X9_use
  refine sc_ob hl hI ?_
  refine sc_th (sc_X9_seatOf hl hI) (fun v2 => ?_) (fun e => sm_some rfl)
  refine sc_th0 (sc_X9_needRange hl hI) (fun u11 => ?_) (fun e => sm_some rfl)
  refine sc_th0 (sc_X9_needHoursLeft hl hI) (fun u16 => ?_) (fun e => sm_some rfl)
  refine sc_ob hl hI ?_
  refine sc_b1 (sc_X7_wear hl hI) (fun v21 m21 q21 => ?_)
  exact sm_some rfl
set_option maxHeartbeats 4000000 in
set_option maxRecDepth 100000 in
theorem sc_X9_pound {h : zz_H} {ad : Nat → Nat} {iv : Nat → Option Nat} {t0 : Nat} {lv : Nat → Bool} (hl : ∀ o, lv o = true → iv (ad o) = some o) (hI : ∀ q o, iv q = some o → ad o = q) {a0 : Nat} {x1 : Int32} {x2 : Int32} {κ : zzM} {ν : zzN} : zLe (fun r : ((Int32 ⊕ Nat) × zzM × zzN) => (r.1, zc h ad iv t0 r.2.1 r.2.2)) (g_X9_pound lv a0 x1 x2 κ ν) (f_X9_pound (ad a0) x1 x2 (zc h ad iv t0 κ ν)) := by
  unfold g_X9_pound f_X9_pound
  refine sc_ob hl hI ?_
  refine sc_th (sc_X9_seatOf hl hI) (fun v2 => ?_) (fun e => sm_some rfl)
  refine sc_th0 (sc_X9_needRange hl hI) (fun u11 => ?_) (fun e => sm_some rfl)
  refine sc_th0 (sc_X9_needHoursLeft hl hI) (fun u18 => ?_) (fun e => sm_some rfl)
  refine sc_ob hl hI ?_
  refine sc_b1 (sc_X7_wear hl hI) (fun v25 m25 q25 => ?_)
  exact sm_some rfl
set_option maxHeartbeats 4000000 in
set_option maxRecDepth 100000 in
theorem sc_X9_hours {h : zz_H} {ad : Nat → Nat} {iv : Nat → Option Nat} {t0 : Nat} {lv : Nat → Bool} (hl : ∀ o, lv o = true → iv (ad o) = some o) (hI : ∀ q o, iv q = some o → ad o = q) {a0 : Nat} {x1 : Int32} {κ : zzM} {ν : zzN} : zLe id (g_X9_hours lv a0 x1 κ ν) (f_X9_hours (ad a0) x1 (zc h ad iv t0 κ ν)) := by
  unfold g_X9_hours f_X9_hours
  refine sc_ob hl hI ?_
  refine sc_th (sc_X9_seatOf hl hI) (fun v2 => ?_) (fun e => sm_some rfl)
  refine sc_th0 (sc_X9_needClosed hl hI) (fun u7 => ?_) (fun e => sm_some rfl)
  refine sc_gq hl hI (δ := 8) (fun _ _ _ _ _ => rfl) ?_
  refine sc_gi hl hI (fun _ _ _ _ _ => rfl) ?_
  exact sm_some rfl
set_option maxHeartbeats 4000000 in
set_option maxRecDepth 100000 in
theorem sc_X9_promise {h : zz_H} {ad : Nat → Nat} {iv : Nat → Option Nat} {t0 : Nat} {lv : Nat → Bool} (hl : ∀ o, lv o = true → iv (ad o) = some o) (hI : ∀ q o, iv q = some o → ad o = q) {a0 : Nat} {x1 : Int32} {x2 : Int32} {κ : zzM} {ν : zzN} : zLe (fun r : ((Int32 ⊕ Nat) × zzM × zzN) => (r.1, zc h ad iv t0 r.2.1 r.2.2)) (g_X9_promise lv a0 x1 x2 κ ν) (f_X9_promise (ad a0) x1 x2 (zc h ad iv t0 κ ν)) := by
  unfold g_X9_promise f_X9_promise
  refine sc_ob hl hI ?_
  refine sc_th (sc_X9_seatOf hl hI) (fun v2 => ?_) (fun e => sm_some rfl)
  refine sc_th0 (sc_X9_needRange hl hI) (fun u10 => ?_) (fun e => sm_some rfl)
  refine sc_gi hl hI (fun _ _ _ _ _ => rfl) ?_
  refine sc_p hl hI (fun _ _ _ _ _ _ => ⟨rfl, Nat.le_of_ble_eq_true rfl⟩) ?_
  exact sm_some rfl
set_option maxHeartbeats 4000000 in
set_option maxRecDepth 100000 in
theorem sc_X9_holds_47 {h : zz_H} {ad : Nat → Nat} {iv : Nat → Option Nat} {t0 : Nat} {lv : Nat → Bool} (hl : ∀ o, lv o = true → iv (ad o) = some o) (hI : ∀ q o, iv q = some o → ad o = q) {s0 : Int32} {κ : zzM} {ν : zzN} : zLe id (g_X9_holds_47 lv s0 κ ν) (f_X9_holds_47 s0 (zc h ad iv t0 κ ν)) := by
  unfold g_X9_holds_47 f_X9_holds_47
  refine sm_gz ?_
  exact sm_some rfl
set_option maxHeartbeats 4000000 in
set_option maxRecDepth 100000 in
theorem sc_X9_holds {h : zz_H} {ad : Nat → Nat} {iv : Nat → Option Nat} {t0 : Nat} {lv : Nat → Bool} (hl : ∀ o, lv o = true → iv (ad o) = some o) (hI : ∀ q o, iv q = some o → ad o = q) {a0 : Nat} {x1 : Int32} {κ : zzM} {ν : zzN} : zLe id (g_X9_holds lv a0 x1 κ ν) (f_X9_holds (ad a0) x1 (zc h ad iv t0 κ ν)) := by
  unfold g_X9_holds f_X9_holds
  refine sc_ob hl hI ?_
  refine sc_th (sc_X9_seatOf hl hI) (fun v2 => ?_) (fun e => sm_some rfl)
  refine sc_th0 (sc_X9_needClosed hl hI) (fun u7 => ?_) (fun e => sm_some rfl)
  refine sc_gq hl hI (δ := 8) (fun _ _ _ _ _ => rfl) ?_
  refine sc_gi hl hI (fun _ _ _ _ _ => rfl) ?_
  refine sc_ob hl hI ?_
  refine sc_b (sc_X7_topsInAll hl hI) (fun v18 => ?_)
  refine sc_gq hl hI (δ := 8) (fun _ _ _ _ _ => rfl) ?_
  refine sc_gi hl hI (fun _ _ _ _ _ => rfl) ?_
  refine sc_gi hl hI (fun _ _ _ _ _ => rfl) ?_
  refine sm_dv ?_
  refine sm_if (fun c => ?_) (fun c => ?_)
  · exact sc_X9_holds_47 hl hI
  · exact sc_X9_holds_47 hl hI
set_option maxHeartbeats 4000000 in
set_option maxRecDepth 100000 in
theorem sc_X9_quote {h : zz_H} {ad : Nat → Nat} {iv : Nat → Option Nat} {t0 : Nat} {lv : Nat → Bool} (hl : ∀ o, lv o = true → iv (ad o) = some o) (hI : ∀ q o, iv q = some o → ad o = q) {a0 : Nat} {x1 : Int32} {κ : zzM} {ν : zzN} : zLe id (g_X9_quote lv a0 x1 κ ν) (f_X9_quote (ad a0) x1 (zc h ad iv t0 κ ν)) := by
  unfold g_X9_quote f_X9_quote
  refine sc_ob hl hI ?_
  refine sc_th (sc_X9_seatOf hl hI) (fun v2 => ?_) (fun e => sm_some rfl)
  refine sc_ob hl hI ?_
  refine sc_b (sc_X7_price hl hI) (fun v5 => ?_)
  exact sm_some rfl
set_option maxHeartbeats 4000000 in
set_option maxRecDepth 100000 in
theorem sc_X9_closedShare_56 {h : zz_H} {ad : Nat → Nat} {iv : Nat → Option Nat} {t0 : Nat} {lv : Nat → Bool} (hl : ∀ o, lv o = true → iv (ad o) = some o) (hI : ∀ q o, iv q = some o → ad o = q) {a0 : Nat} {x1 : Int32} {x2 : Int32} {κ : zzM} {ν : zzN} : zLe id (g_X9_closedShare_56 lv a0 x1 x2 κ ν) (f_X9_closedShare_56 (ad a0) x1 x2 (zc h ad iv t0 κ ν)) := by
  unfold g_X9_closedShare_56 f_X9_closedShare_56
  exact sm_some rfl
set_option maxHeartbeats 4000000 in
set_option maxRecDepth 100000 in
theorem sc_X9_closedShare_25 {h : zz_H} {ad : Nat → Nat} {iv : Nat → Option Nat} {t0 : Nat} {lv : Nat → Bool} (hl : ∀ o, lv o = true → iv (ad o) = some o) (hI : ∀ q o, iv q = some o → ad o = q) {a0 : Nat} {x1 : Int32} {x2 : Int32} {κ : zzM} {ν : zzN} : zLe id (g_X9_closedShare_25 lv a0 x1 x2 κ ν) (f_X9_closedShare_25 (ad a0) x1 x2 (zc h ad iv t0 κ ν)) := by
  unfold g_X9_closedShare_25 f_X9_closedShare_25
  refine sc_gq hl hI (δ := 1) (fun _ _ _ _ _ => rfl) ?_
  refine sc_ob hl hI ?_
  refine sc_size hl hI ?_
  refine sm_if (fun c => ?_) (fun c => ?_)
  · refine sc_gq hl hI (δ := 1) (fun _ _ _ _ _ => rfl) ?_
    refine sc_ob hl hI ?_
    refine sc_size hl hI ?_
    refine sm_nf ?_
    exact sm_some rfl
  · refine sc_gq hl hI (δ := 1) (fun _ _ _ _ _ => rfl) ?_
    refine sc_ob hl hI ?_
    refine sc_get hl hI (fun v41 => ?_)
    refine sc_cc hl hI ?_
    refine sc_ob hl hI ?_
    refine sc_b (sc_X7_hasCover hl hI) (fun v47 => ?_)
    refine sm_if (fun c => ?_) (fun c => ?_)
    · exact sc_X9_closedShare_56 hl hI
    · exact sc_X9_closedShare_56 hl hI
set_option maxHeartbeats 4000000 in
set_option maxRecDepth 100000 in
theorem sc_X9_closedShare {h : zz_H} {ad : Nat → Nat} {iv : Nat → Option Nat} {t0 : Nat} {lv : Nat → Bool} (hl : ∀ o, lv o = true → iv (ad o) = some o) (hI : ∀ q o, iv q = some o → ad o = q) {a0 : Nat} {κ : zzM} {ν : zzN} : zLe id (g_X9_closedShare lv a0 κ ν) (f_X9_closedShare (ad a0) (zc h ad iv t0 κ ν)) := by
  unfold g_X9_closedShare f_X9_closedShare
  refine sc_gq hl hI (δ := 1) (fun _ _ _ _ _ => rfl) ?_
  refine sc_ob hl hI ?_
  refine sc_empty hl hI ?_
  refine sm_if (fun c => ?_) (fun c => ?_)
  · refine sm_it0 (fun s => ?_)
    exact sc_X9_closedShare_25 hl hI
  · exact sm_some rfl
set_option maxHeartbeats 4000000 in
set_option maxRecDepth 100000 in
theorem sc_X9_meanTop {h : zz_H} {ad : Nat → Nat} {iv : Nat → Option Nat} {t0 : Nat} {lv : Nat → Bool} (hl : ∀ o, lv o = true → iv (ad o) = some o) (hI : ∀ q o, iv q = some o → ad o = q) {a0 : Nat} {x1 : Int32} {κ : zzM} {ν : zzN} : zLe id (g_X9_meanTop lv a0 x1 κ ν) (f_X9_meanTop (ad a0) x1 (zc h ad iv t0 κ ν)) := by
  unfold g_X9_meanTop f_X9_meanTop
  refine sc_ob hl hI ?_
  refine sc_th (sc_X9_seatOf hl hI) (fun v2 => ?_) (fun e => sm_some rfl)
  refine sc_ob hl hI ?_
  refine sc_b (sc_X7_topsInAll hl hI) (fun v7 => ?_)
  refine sc_gq hl hI (δ := 1) (fun _ _ _ _ _ => rfl) ?_
  refine sc_ob hl hI ?_
  refine sc_b (sc_X3_cellCount hl hI) (fun v15 => ?_)
  refine sm_nd ?_
  exact sm_some rfl
set_option maxHeartbeats 4000000 in
set_option maxRecDepth 100000 in
theorem sc_X9_liesApart_2 {h : zz_H} {ad : Nat → Nat} {iv : Nat → Option Nat} {t0 : Nat} {lv : Nat → Bool} (hl : ∀ o, lv o = true → iv (ad o) = some o) (hI : ∀ q o, iv q = some o → ad o = q) {a0 : Nat} {x1 : Nat} {x2 : Int32} {κ : zzM} {ν : zzN} : zLe id (g_X9_liesApart_2 lv a0 x1 x2 κ ν) (f_X9_liesApart_2 (ad a0) (some (ad x1)) x2 (zc h ad iv t0 κ ν)) := by
  unfold g_X9_liesApart_2 f_X9_liesApart_2
  refine sc_gq hl hI (δ := 1) (fun _ _ _ _ _ => rfl) ?_
  refine sc_ob hl hI ?_
  refine sc_size hl hI ?_
  refine sm_if (fun c => ?_) (fun c => ?_)
  · exact sm_some rfl
  · refine sc_gq hl hI (δ := 1) (fun _ _ _ _ _ => rfl) ?_
    refine sc_ob hl hI ?_
    refine sc_get hl hI (fun v19 => ?_)
    refine sc_cc hl hI ?_
    refine sc_gq hl hI (δ := 8) (fun _ _ _ _ _ => rfl) ?_
    refine sc_ob hl hI ?_
    refine sc_b (sc_X1_overlaps hl hI) (fun v28 => ?_)
    refine sm_if (fun c => ?_) (fun c => ?_)
    · exact sm_some rfl
    · exact sm_some rfl
set_option maxHeartbeats 4000000 in
set_option maxRecDepth 100000 in
theorem sc_X9_liesApart {h : zz_H} {ad : Nat → Nat} {iv : Nat → Option Nat} {t0 : Nat} {lv : Nat → Bool} (hl : ∀ o, lv o = true → iv (ad o) = some o) (hI : ∀ q o, iv q = some o → ad o = q) {a0 : Nat} {x1 : Nat} {κ : zzM} {ν : zzN} : zLe id (g_X9_liesApart lv a0 x1 κ ν) (f_X9_liesApart (ad a0) (some (ad x1)) (zc h ad iv t0 κ ν)) := by
  unfold g_X9_liesApart f_X9_liesApart
  refine sm_it0 (fun s => ?_)
  exact sc_X9_liesApart_2 hl hI
set_option maxHeartbeats 4000000 in
set_option maxRecDepth 100000 in
theorem sc_X9_sinksSoundly_2 {h : zz_H} {ad : Nat → Nat} {iv : Nat → Option Nat} {t0 : Nat} {lv : Nat → Bool} (hl : ∀ o, lv o = true → iv (ad o) = some o) (hI : ∀ q o, iv q = some o → ad o = q) {a0 : Nat} {x1 : Nat} {x2 : Int32} {κ : zzM} {ν : zzN} : zLe (Sum.map (fun s : (Int32 × zzM × zzN) => (s.1, zc h ad iv t0 s.2.1 s.2.2)) (fun r : (Int32 × zzM × zzN) => (r.1, zc h ad iv t0 r.2.1 r.2.2))) (g_X9_sinksSoundly_2 lv a0 x1 x2 κ ν) (f_X9_sinksSoundly_2 (ad a0) (some (ad x1)) x2 (zc h ad iv t0 κ ν)) := by
  unfold g_X9_sinksSoundly_2 f_X9_sinksSoundly_2
  refine sc_gq hl hI (δ := 2) (fun _ _ _ _ _ => rfl) ?_
  refine sc_ob hl hI ?_
  refine sc_size hl hI ?_
  refine sm_if (fun c => ?_) (fun c => ?_)
  · exact sm_some rfl
  · refine sc_gq hl hI (δ := 2) (fun _ _ _ _ _ => rfl) ?_
    refine sc_ob hl hI ?_
    refine sc_get hl hI (fun v19 => ?_)
    refine sc_cc hl hI ?_
    refine sc_gq hl hI (δ := 5) (fun _ _ _ _ _ => rfl) ?_
    refine sc_ob hl hI ?_
    refine sc_b1 (sc_X7_tellSinking hl hI) (fun u29 m29 q29 => ?_)
    refine sc_gq hl hI (δ := 5) (fun _ _ _ _ _ => rfl) ?_
    refine sc_ob hl hI ?_
    refine sc_b (sc_X7_slopesGently hl hI) (fun v37 => ?_)
    refine sm_if (fun c => ?_) (fun c => ?_)
    · exact sm_some rfl
    · exact sm_some rfl
set_option maxHeartbeats 4000000 in
set_option maxRecDepth 100000 in
theorem sc_X9_sinksSoundly {h : zz_H} {ad : Nat → Nat} {iv : Nat → Option Nat} {t0 : Nat} {lv : Nat → Bool} (hl : ∀ o, lv o = true → iv (ad o) = some o) (hI : ∀ q o, iv q = some o → ad o = q) {a0 : Nat} {x1 : Nat} {κ : zzM} {ν : zzN} : zLe (fun r : (Int32 × zzM × zzN) => (r.1, zc h ad iv t0 r.2.1 r.2.2)) (g_X9_sinksSoundly lv a0 x1 κ ν) (f_X9_sinksSoundly (ad a0) (some (ad x1)) (zc h ad iv t0 κ ν)) := by
  unfold g_X9_sinksSoundly f_X9_sinksSoundly
  refine sm_it (cs := (fun s : (Int32 × zzM × zzN) => (s.1, zc h ad iv t0 s.2.1 s.2.2))) (fun s => ?_)
  exact sc_X9_sinksSoundly_2 hl hI
set_option maxHeartbeats 4000000 in
set_option maxRecDepth 100000 in
theorem sc_X9_isSound_71 {h : zz_H} {ad : Nat → Nat} {iv : Nat → Option Nat} {t0 : Nat} {lv : Nat → Bool} (hl : ∀ o, lv o = true → iv (ad o) = some o) (hI : ∀ q o, iv q = some o → ad o = q) {κ : zzM} {ν : zzN} : zLe (fun r : (Int32 × zzM × zzN) => (r.1, zc h ad iv t0 r.2.1 r.2.2)) (g_X9_isSound_71 lv κ ν) (f_X9_isSound_71  (zc h ad iv t0 κ ν)) := by
  unfold g_X9_isSound_71 f_X9_isSound_71
  exact sm_some rfl
set_option maxHeartbeats 4000000 in
set_option maxRecDepth 100000 in
theorem sc_X9_isSound_2 {h : zz_H} {ad : Nat → Nat} {iv : Nat → Option Nat} {t0 : Nat} {lv : Nat → Bool} (hl : ∀ o, lv o = true → iv (ad o) = some o) (hI : ∀ q o, iv q = some o → ad o = q) {a0 : Nat} {x1 : Int32} {κ : zzM} {ν : zzN} : zLe (Sum.map (fun s : (Int32 × zzM × zzN) => (s.1, zc h ad iv t0 s.2.1 s.2.2)) (fun r : (Int32 × zzM × zzN) => (r.1, zc h ad iv t0 r.2.1 r.2.2))) (g_X9_isSound_2 lv a0 x1 κ ν) (f_X9_isSound_2 (ad a0) x1 (zc h ad iv t0 κ ν)) := by
  unfold g_X9_isSound_2 f_X9_isSound_2
  refine sc_gq hl hI (δ := 1) (fun _ _ _ _ _ => rfl) ?_
  refine sc_ob hl hI ?_
  refine sc_size hl hI ?_
  refine sm_if (fun c => ?_) (fun c => ?_)
  · exact sm_some rfl
  · refine sc_gq hl hI (δ := 1) (fun _ _ _ _ _ => rfl) ?_
    refine sc_ob hl hI ?_
    refine sc_get hl hI (fun v18 => ?_)
    refine sc_cc hl hI ?_
    refine sc_gq hl hI (δ := 4) (fun _ _ _ _ _ => rfl) ?_
    refine sc_ob hl hI ?_
    refine sc_b (sc_X8_areInOrder hl hI) (fun v29 => ?_)
    refine sm_if (fun c => ?_) (fun c => ?_)
    · refine sm_mapw1 ?_
      exact sc_X9_isSound_71 hl hI
    · refine sc_ob hl hI ?_
      refine sc_b (sc_X7_hasSoundTops hl hI) (fun v36 => ?_)
      refine sm_if (fun c => ?_) (fun c => ?_)
      · refine sm_mapw1 ?_
        exact sc_X9_isSound_71 hl hI
      · refine sc_gq hl hI (δ := 8) (fun _ _ _ _ _ => rfl) ?_
        refine sc_ob hl hI ?_
        refine sc_b (sc_X1_fitsItsCloth hl hI) (fun v46 => ?_)
        refine sm_if (fun c => ?_) (fun c => ?_)
        · refine sm_mapw1 ?_
          exact sc_X9_isSound_71 hl hI
        · refine sc_gq hl hI (δ := 8) (fun _ _ _ _ _ => rfl) ?_
          refine sc_ob hl hI ?_
          refine sc_b (sc_X9_liesApart hl hI) (fun v57 => ?_)
          refine sm_if (fun c => ?_) (fun c => ?_)
          · refine sm_mapw1 ?_
            exact sc_X9_isSound_71 hl hI
          · refine sc_ob hl hI ?_
            refine sc_b1 (sc_X9_sinksSoundly hl hI) (fun v65 m65 q65 => ?_)
            refine sm_if (fun c => ?_) (fun c => ?_)
            · refine sm_mapw1 ?_
              exact sc_X9_isSound_71 hl hI
            · exact sm_some rfl
set_option maxHeartbeats 4000000 in
set_option maxRecDepth 100000 in
theorem sc_X9_isSound {h : zz_H} {ad : Nat → Nat} {iv : Nat → Option Nat} {t0 : Nat} {lv : Nat → Bool} (hl : ∀ o, lv o = true → iv (ad o) = some o) (hI : ∀ q o, iv q = some o → ad o = q) {a0 : Nat} {κ : zzM} {ν : zzN} : zLe (fun r : (Int32 × zzM × zzN) => (r.1, zc h ad iv t0 r.2.1 r.2.2)) (g_X9_isSound lv a0 κ ν) (f_X9_isSound (ad a0) (zc h ad iv t0 κ ν)) := by
  unfold g_X9_isSound f_X9_isSound
  refine sm_it (cs := (fun s : (Int32 × zzM × zzN) => (s.1, zc h ad iv t0 s.2.1 s.2.2))) (fun s => ?_)
  exact sc_X9_isSound_2 hl hI
end ZCS
