section ZGS
set_option maxHeartbeats 4000000 in
set_option maxRecDepth 100000 in
theorem sm_X10_thrown {h : zz_H} {am : Nat} {μ : zzM} {ν : zzN} : zLe id (g_X10_thrown μ ν) (f_X10_thrown am (zk h am μ ν)) := by
  unfold g_X10_thrown f_X10_thrown
  refine sm_gi (by decide) ?_
  exact sm_some rfl
set_option maxHeartbeats 4000000 in
set_option maxRecDepth 100000 in
theorem sm_X10_isThrown_10 {h : zz_H} {am : Nat} {x1 : Int32} {s0 : Int32} {μ : zzM} {ν : zzN} : zLe (fun r : (Int32 × zzM × zzN) => (r.1, zk h am r.2.1 r.2.2)) (g_X10_isThrown_10 x1 s0 μ ν) (f_X10_isThrown_10 x1 s0 (some am) (zk h am μ ν)) := by
  unfold g_X10_isThrown_10 f_X10_isThrown_10
  refine sm_p (by decide) ?_
  refine sm_gz ?_
  exact sm_some rfl
set_option maxHeartbeats 4000000 in
set_option maxRecDepth 100000 in
theorem sm_X10_isThrown {h : zz_H} {am : Nat} {x1 : Int32} {x2 : Int32} {μ : zzM} {ν : zzN} : zLe (fun r : (Int32 × zzM × zzN) => (r.1, zk h am r.2.1 r.2.2)) (g_X10_isThrown x1 x2 μ ν) (f_X10_isThrown am x1 x2 (zk h am μ ν)) := by
  unfold g_X10_isThrown f_X10_isThrown
  refine sm_if (fun c => ?_) (fun c => ?_)
  · exact sm_X10_isThrown_10
  · exact sm_X10_isThrown_10
set_option maxHeartbeats 4000000 in
set_option maxRecDepth 100000 in
theorem sm_X10_isIn_15 {h : zz_H} {am : Nat} {s0 : Int32} {μ : zzM} {ν : zzN} : zLe id (g_X10_isIn_15 s0 μ ν) (f_X10_isIn_15 s0 (zk h am μ ν)) := by
  unfold g_X10_isIn_15 f_X10_isIn_15
  refine sm_gz ?_
  exact sm_some rfl
set_option maxHeartbeats 4000000 in
set_option maxRecDepth 100000 in
theorem sm_X10_isIn_14 {h : zz_H} {am : Nat} {μ : zzM} {ν : zzN} : zLe id (g_X10_isIn_14 μ ν) (f_X10_isIn_14  (zk h am μ ν)) := by
  unfold g_X10_isIn_14 f_X10_isIn_14
  exact sm_X10_isIn_15
set_option maxHeartbeats 4000000 in
set_option maxRecDepth 100000 in
theorem sm_X10_isIn {h : zz_H} {am : Nat} {x0 : Int32} {x1 : Int32} {x2 : Int32} {μ : zzM} {ν : zzN} : zLe id (g_X10_isIn x0 x1 x2 μ ν) (f_X10_isIn x0 x1 x2 (zk h am μ ν)) := by
  unfold g_X10_isIn f_X10_isIn
  refine sm_if (fun c => ?_) (fun c => ?_)
  · exact sm_X10_isIn_14
  · refine sm_if (fun c => ?_) (fun c => ?_)
    · exact sm_X10_isIn_14
    · exact sm_X10_isIn_15
set_option maxHeartbeats 4000000 in
set_option maxRecDepth 100000 in
theorem sm_X10_isNoSeat_19 {h : zz_H} {am : Nat} {s0 : Int32} {μ : zzM} {ν : zzN} : zLe id (g_X10_isNoSeat_19 s0 μ ν) (f_X10_isNoSeat_19 s0 (zk h am μ ν)) := by
  unfold g_X10_isNoSeat_19 f_X10_isNoSeat_19
  refine sm_gz ?_
  exact sm_some rfl
set_option maxHeartbeats 4000000 in
set_option maxRecDepth 100000 in
theorem sm_X10_isNoSeat {h : zz_H} {am : Nat} {x1 : Int32} {μ : zzM} {ν : zzN} : zLe id (g_X10_isNoSeat x1 μ ν) (f_X10_isNoSeat am x1 (zk h am μ ν)) := by
  unfold g_X10_isNoSeat f_X10_isNoSeat
  refine sm_gi (by decide) ?_
  refine sm_b sm_X10_isIn (fun v8 => ?_)
  refine sm_if (fun c => ?_) (fun c => ?_)
  · exact sm_X10_isNoSeat_19
  · exact sm_X10_isNoSeat_19
set_option maxHeartbeats 4000000 in
set_option maxRecDepth 100000 in
theorem sm_X10_isNoCell_43 {h : zz_H} {am : Nat} {s0 : Int32} {μ : zzM} {ν : zzN} : zLe id (g_X10_isNoCell_43 s0 μ ν) (f_X10_isNoCell_43 s0 (zk h am μ ν)) := by
  unfold g_X10_isNoCell_43 f_X10_isNoCell_43
  refine sm_gz ?_
  exact sm_some rfl
set_option maxHeartbeats 4000000 in
set_option maxRecDepth 100000 in
theorem sm_X10_isNoCell_38 {h : zz_H} {am : Nat} {μ : zzM} {ν : zzN} : zLe id (g_X10_isNoCell_38 μ ν) (f_X10_isNoCell_38  (zk h am μ ν)) := by
  unfold g_X10_isNoCell_38 f_X10_isNoCell_38
  exact sm_X10_isNoCell_43
set_option maxHeartbeats 4000000 in
set_option maxRecDepth 100000 in
theorem sm_X10_isNoCell {h : zz_H} {am : Nat} {x1 : Int32} {x2 : Int32} {μ : zzM} {ν : zzN} : zLe id (g_X10_isNoCell x1 x2 μ ν) (f_X10_isNoCell am x1 x2 (zk h am μ ν)) := by
  unfold g_X10_isNoCell f_X10_isNoCell
  refine sm_ob ?_
  refine sm_b sm_X10_isNoSeat (fun v2 => ?_)
  refine sm_if (fun c => ?_) (fun c => ?_)
  · refine sm_if (fun c => ?_) (fun c => ?_)
    · exact sm_X10_isNoCell_38
    · refine sm_dv ?_
      refine sm_gq (off := 1) rfl ?_
      refine sm_ai (fun v21 => ?_)
      refine sm_if (fun c => ?_) (fun c => ?_)
      · exact sm_X10_isNoCell_38
      · refine sm_dv ?_
        refine sm_gq (off := 2) rfl ?_
        refine sm_ai (fun v34 => ?_)
        refine sm_if (fun c => ?_) (fun c => ?_)
        · exact sm_X10_isNoCell_43
        · exact sm_X10_isNoCell_38
  · exact sm_X10_isNoCell_38
set_option maxHeartbeats 4000000 in
set_option maxRecDepth 100000 in
theorem sm_X10_seat_54 {h : zz_H} {am : Nat} {μ : zzM} {ν : zzN} : zLe (fun r : (Int32 × zzM × zzN) => (r.1, zk h am r.2.1 r.2.2)) (g_X10_seat_54 μ ν) (f_X10_seat_54  (zk h am μ ν)) := by
  unfold g_X10_seat_54 f_X10_seat_54
  exact sm_some rfl
set_option maxHeartbeats 4000000 in
set_option maxRecDepth 100000 in
theorem sm_X10_seat_47 {h : zz_H} {am : Nat} {x1 : Int32} {x2 : Int32} {s0 : Int32} {μ : zzM} {ν : zzN} : zLe (fun r : (Int32 × zzM × zzN) => (r.1, zk h am r.2.1 r.2.2)) (g_X10_seat_47 x1 x2 s0 μ ν) (f_X10_seat_47 am x1 x2 s0 (some am) (zk h am μ ν)) := by
  unfold g_X10_seat_47 f_X10_seat_47
  refine sm_ob ?_
  refine sm_b1 sm_X10_isThrown (fun v48 m48 q48 => ?_)
  refine sm_if (fun c => ?_) (fun c => ?_)
  · refine sm_gq (off := 1) rfl ?_
    refine sm_gi (by decide) ?_
    refine sm_si (fun m65 => ?_)
    refine sm_gq (off := 2) rfl ?_
    refine sm_gi (by decide) ?_
    refine sm_si (fun m75 => ?_)
    refine sm_gq (off := 146) rfl ?_
    refine sm_gi (by decide) ?_
    refine sm_si (fun m86 => ?_)
    refine sm_gi (by decide) ?_
    refine sm_p (by decide) ?_
    refine sm_gi (by decide) ?_
    exact sm_some rfl
  · exact sm_X10_seat_54
set_option maxHeartbeats 4000000 in
set_option maxRecDepth 100000 in
theorem sm_X10_seat_26 {h : zz_H} {am : Nat} {x1 : Int32} {x2 : Int32} {s0 : Int32} {μ : zzM} {ν : zzN} : zLe (fun r : (Int32 × zzM × zzN) => (r.1, zk h am r.2.1 r.2.2)) (g_X10_seat_26 x1 x2 s0 μ ν) (f_X10_seat_26 am x1 x2 s0 (some am) (zk h am μ ν)) := by
  unfold g_X10_seat_26 f_X10_seat_26
  refine sm_ob ?_
  refine sm_b1 sm_X10_isThrown (fun v27 m27 q27 => ?_)
  refine sm_if (fun c => ?_) (fun c => ?_)
  · refine sm_gi (by decide) ?_
    refine sm_if (fun c => ?_) (fun c => ?_)
    · exact sm_X10_seat_47
    · exact sm_X10_seat_47
  · exact sm_X10_seat_54
set_option maxHeartbeats 4000000 in
set_option maxRecDepth 100000 in
theorem sm_X10_seat_21 {h : zz_H} {am : Nat} {x1 : Int32} {x2 : Int32} {μ : zzM} {ν : zzN} : zLe (fun r : (Int32 × zzM × zzN) => (r.1, zk h am r.2.1 r.2.2)) (g_X10_seat_21 x1 x2 μ ν) (f_X10_seat_21 am x1 x2 (some am) (zk h am μ ν)) := by
  unfold g_X10_seat_21 f_X10_seat_21
  exact sm_X10_seat_26
set_option maxHeartbeats 4000000 in
set_option maxRecDepth 100000 in
theorem sm_X10_seat {h : zz_H} {am : Nat} {x1 : Int32} {x2 : Int32} {μ : zzM} {ν : zzN} : zLe (fun r : (Int32 × zzM × zzN) => (r.1, zk h am r.2.1 r.2.2)) (g_X10_seat x1 x2 μ ν) (f_X10_seat am x1 x2 (zk h am μ ν)) := by
  unfold g_X10_seat f_X10_seat
  refine sm_b sm_X10_isIn (fun v5 => ?_)
  refine sm_if (fun c => ?_) (fun c => ?_)
  · exact sm_X10_seat_21
  · refine sm_b sm_X10_isIn (fun v15 => ?_)
    refine sm_if (fun c => ?_) (fun c => ?_)
    · exact sm_X10_seat_21
    · exact sm_X10_seat_26
set_option maxHeartbeats 4000000 in
set_option maxRecDepth 100000 in
theorem sm_X10_last_29 {h : zz_H} {am : Nat} {s0 : Int32} {μ : zzM} {ν : zzN} : zLe id (g_X10_last_29 s0 μ ν) (f_X10_last_29 s0 (zk h am μ ν)) := by
  unfold g_X10_last_29 f_X10_last_29
  refine sm_gc ?_
  exact sm_some rfl
set_option maxHeartbeats 4000000 in
set_option maxRecDepth 100000 in
theorem sm_X10_last {h : zz_H} {am : Nat} {x1 : Int32} {μ : zzM} {ν : zzN} : zLe id (g_X10_last x1 μ ν) (f_X10_last am x1 (zk h am μ ν)) := by
  unfold g_X10_last f_X10_last
  refine sm_gq (off := 3) rfl ?_
  refine sm_ai (fun v5 => ?_)
  refine sm_if (fun c => ?_) (fun c => ?_)
  · exact sm_X10_last_29
  · refine sm_gq (off := 4) rfl ?_
    refine sm_aq (fun o19 => ?_)
    refine sm_gq (off := 3) rfl ?_
    refine sm_ai (fun v25 => ?_)
    refine sm_ai (fun v28 => ?_)
    exact sm_X10_last_29
set_option maxHeartbeats 4000000 in
set_option maxRecDepth 100000 in
theorem sm_X10_isLastSigned_32 {h : zz_H} {am : Nat} {s0 : Int32} {μ : zzM} {ν : zzN} : zLe id (g_X10_isLastSigned_32 s0 μ ν) (f_X10_isLastSigned_32 s0 (zk h am μ ν)) := by
  unfold g_X10_isLastSigned_32 f_X10_isLastSigned_32
  refine sm_gz ?_
  exact sm_some rfl
set_option maxHeartbeats 4000000 in
set_option maxRecDepth 100000 in
theorem sm_X10_isLastSigned_27 {h : zz_H} {am : Nat} {μ : zzM} {ν : zzN} : zLe id (g_X10_isLastSigned_27 μ ν) (f_X10_isLastSigned_27  (zk h am μ ν)) := by
  unfold g_X10_isLastSigned_27 f_X10_isLastSigned_27
  exact sm_X10_isLastSigned_32
set_option maxHeartbeats 4000000 in
set_option maxRecDepth 100000 in
theorem sm_X10_isLastSigned {h : zz_H} {am : Nat} {x1 : Int32} {μ : zzM} {ν : zzN} : zLe id (g_X10_isLastSigned x1 μ ν) (f_X10_isLastSigned am x1 (zk h am μ ν)) := by
  unfold g_X10_isLastSigned f_X10_isLastSigned
  refine sm_gq (off := 3) rfl ?_
  refine sm_ai (fun v5 => ?_)
  refine sm_if (fun c => ?_) (fun c => ?_)
  · exact sm_X10_isLastSigned_27
  · refine sm_gq (off := 9) rfl ?_
    refine sm_aq (fun o14 => ?_)
    refine sm_gq (off := 3) rfl ?_
    refine sm_ai (fun v20 => ?_)
    refine sm_ai (fun v23 => ?_)
    refine sm_if (fun c => ?_) (fun c => ?_)
    · exact sm_X10_isLastSigned_32
    · exact sm_X10_isLastSigned_27
set_option maxHeartbeats 4000000 in
set_option maxRecDepth 100000 in
theorem sm_X10_isLastOpen_22 {h : zz_H} {am : Nat} {s0 : Int32} {μ : zzM} {ν : zzN} : zLe id (g_X10_isLastOpen_22 s0 μ ν) (f_X10_isLastOpen_22 s0 (zk h am μ ν)) := by
  unfold g_X10_isLastOpen_22 f_X10_isLastOpen_22
  refine sm_gz ?_
  exact sm_some rfl
set_option maxHeartbeats 4000000 in
set_option maxRecDepth 100000 in
theorem sm_X10_isLastOpen_21 {h : zz_H} {am : Nat} {μ : zzM} {ν : zzN} : zLe id (g_X10_isLastOpen_21 μ ν) (f_X10_isLastOpen_21  (zk h am μ ν)) := by
  unfold g_X10_isLastOpen_21 f_X10_isLastOpen_21
  exact sm_X10_isLastOpen_22
set_option maxHeartbeats 4000000 in
set_option maxRecDepth 100000 in
theorem sm_X10_isLastOpen {h : zz_H} {am : Nat} {x1 : Int32} {x2 : Int32} {μ : zzM} {ν : zzN} : zLe id (g_X10_isLastOpen x1 x2 μ ν) (f_X10_isLastOpen am x1 x2 (zk h am μ ν)) := by
  unfold g_X10_isLastOpen f_X10_isLastOpen
  refine sm_ob ?_
  refine sm_b sm_X10_last (fun v2 => ?_)
  refine sm_if (fun c => ?_) (fun c => ?_)
  · refine sm_ob ?_
    refine sm_b sm_X10_isLastSigned (fun v11 => ?_)
    refine sm_if (fun c => ?_) (fun c => ?_)
    · exact sm_X10_isLastOpen_22
    · exact sm_X10_isLastOpen_21
  · exact sm_X10_isLastOpen_21
set_option maxHeartbeats 4000000 in
set_option maxRecDepth 100000 in
theorem sm_X10_mayCome_195 {h : zz_H} {am : Nat} {s0 : Int32} {μ : zzM} {ν : zzN} : zLe id (g_X10_mayCome_195 s0 μ ν) (f_X10_mayCome_195 s0 (zk h am μ ν)) := by
  unfold g_X10_mayCome_195 f_X10_mayCome_195
  refine sm_gz ?_
  exact sm_some rfl
set_option maxHeartbeats 4000000 in
set_option maxRecDepth 100000 in
theorem sm_X10_mayCome_194 {h : zz_H} {am : Nat} {μ : zzM} {ν : zzN} : zLe id (g_X10_mayCome_194 μ ν) (f_X10_mayCome_194  (zk h am μ ν)) := by
  unfold g_X10_mayCome_194 f_X10_mayCome_194
  exact sm_X10_mayCome_195
set_option maxHeartbeats 4000000 in
set_option maxRecDepth 100000 in
theorem sm_X10_mayCome_177 {h : zz_H} {am : Nat} {x1 : Int32} {x4 : Int32} {μ : zzM} {ν : zzN} : zLe id (g_X10_mayCome_177 x1 x4 μ ν) (f_X10_mayCome_177 am x1 x4 (zk h am μ ν)) := by
  unfold g_X10_mayCome_177 f_X10_mayCome_177
  refine sm_if (fun c => ?_) (fun c => ?_)
  · exact sm_X10_mayCome_194
  · refine sm_ob ?_
    refine sm_b sm_X10_isLastSigned (fun v184 => ?_)
    refine sm_if (fun c => ?_) (fun c => ?_)
    · exact sm_X10_mayCome_194
    · exact sm_X10_mayCome_195
set_option maxHeartbeats 4000000 in
set_option maxRecDepth 100000 in
theorem sm_X10_mayCome_175 {h : zz_H} {am : Nat} {x1 : Int32} {s0 : Int32} {μ : zzM} {ν : zzN} : zLe id (g_X10_mayCome_175 x1 s0 μ ν) (f_X10_mayCome_175 am x1 s0 (zk h am μ ν)) := by
  unfold g_X10_mayCome_175 f_X10_mayCome_175
  exact sm_X10_mayCome_177
set_option maxHeartbeats 4000000 in
set_option maxRecDepth 100000 in
theorem sm_X10_mayCome_170 {h : zz_H} {am : Nat} {x1 : Int32} {μ : zzM} {ν : zzN} : zLe id (g_X10_mayCome_170 x1 μ ν) (f_X10_mayCome_170 am x1 (zk h am μ ν)) := by
  unfold g_X10_mayCome_170 f_X10_mayCome_170
  exact sm_X10_mayCome_175
set_option maxHeartbeats 4000000 in
set_option maxRecDepth 100000 in
theorem sm_X10_mayCome_153 {h : zz_H} {am : Nat} {x1 : Int32} {s0 : Int32} {μ : zzM} {ν : zzN} : zLe id (g_X10_mayCome_153 x1 s0 μ ν) (f_X10_mayCome_153 am x1 s0 (zk h am μ ν)) := by
  unfold g_X10_mayCome_153 f_X10_mayCome_153
  exact sm_X10_mayCome_177
set_option maxHeartbeats 4000000 in
set_option maxRecDepth 100000 in
theorem sm_X10_mayCome_137 {h : zz_H} {am : Nat} {x1 : Int32} {s0 : Int32} {μ : zzM} {ν : zzN} : zLe id (g_X10_mayCome_137 x1 s0 μ ν) (f_X10_mayCome_137 am x1 s0 (zk h am μ ν)) := by
  unfold g_X10_mayCome_137 f_X10_mayCome_137
  exact sm_X10_mayCome_177
set_option maxHeartbeats 4000000 in
set_option maxRecDepth 100000 in
theorem sm_X10_mayCome_136 {h : zz_H} {am : Nat} {x1 : Int32} {μ : zzM} {ν : zzN} : zLe id (g_X10_mayCome_136 x1 μ ν) (f_X10_mayCome_136 am x1 (zk h am μ ν)) := by
  unfold g_X10_mayCome_136 f_X10_mayCome_136
  exact sm_X10_mayCome_137
set_option maxHeartbeats 4000000 in
set_option maxRecDepth 100000 in
theorem sm_X10_mayCome_132 {h : zz_H} {am : Nat} {x1 : Int32} {μ : zzM} {ν : zzN} : zLe id (g_X10_mayCome_132 x1 μ ν) (f_X10_mayCome_132 am x1 (zk h am μ ν)) := by
  unfold g_X10_mayCome_132 f_X10_mayCome_132
  exact sm_X10_mayCome_137
set_option maxHeartbeats 4000000 in
set_option maxRecDepth 100000 in
theorem sm_X10_mayCome_99 {h : zz_H} {am : Nat} {x1 : Int32} {s0 : Int32} {μ : zzM} {ν : zzN} : zLe id (g_X10_mayCome_99 x1 s0 μ ν) (f_X10_mayCome_99 am x1 s0 (zk h am μ ν)) := by
  unfold g_X10_mayCome_99 f_X10_mayCome_99
  exact sm_X10_mayCome_177
set_option maxHeartbeats 4000000 in
set_option maxRecDepth 100000 in
theorem sm_X10_mayCome_83 {h : zz_H} {am : Nat} {x1 : Int32} {s0 : Int32} {μ : zzM} {ν : zzN} : zLe id (g_X10_mayCome_83 x1 s0 μ ν) (f_X10_mayCome_83 am x1 s0 (zk h am μ ν)) := by
  unfold g_X10_mayCome_83 f_X10_mayCome_83
  exact sm_X10_mayCome_177
set_option maxHeartbeats 4000000 in
set_option maxRecDepth 100000 in
theorem sm_X10_mayCome_67 {h : zz_H} {am : Nat} {x1 : Int32} {s0 : Int32} {μ : zzM} {ν : zzN} : zLe id (g_X10_mayCome_67 x1 s0 μ ν) (f_X10_mayCome_67 am x1 s0 (zk h am μ ν)) := by
  unfold g_X10_mayCome_67 f_X10_mayCome_67
  exact sm_X10_mayCome_177
set_option maxHeartbeats 4000000 in
set_option maxRecDepth 100000 in
theorem sm_X10_mayCome {h : zz_H} {am : Nat} {x1 : Int32} {x2 : Int32} {μ : zzM} {ν : zzN} : zLe id (g_X10_mayCome x1 x2 μ ν) (f_X10_mayCome am x1 x2 (zk h am μ ν)) := by
  unfold g_X10_mayCome f_X10_mayCome
  refine sm_ob ?_
  refine sm_b sm_X10_last (fun v2 => ?_)
  refine sm_if (fun c => ?_) (fun c => ?_)
  · refine sm_if (fun c => ?_) (fun c => ?_)
    · exact sm_X10_mayCome_153
    · exact sm_X10_mayCome_153
  refine sm_if (fun c => ?_) (fun c => ?_)
  · refine sm_if (fun c => ?_) (fun c => ?_)
    · exact sm_X10_mayCome_132
    · refine sm_if (fun c => ?_) (fun c => ?_)
      · exact sm_X10_mayCome_132
      · refine sm_if (fun c => ?_) (fun c => ?_)
        · refine sm_gq (off := 83) rfl ?_
          refine sm_ai (fun v127 => ?_)
          refine sm_if (fun c => ?_) (fun c => ?_)
          · exact sm_X10_mayCome_136
          · exact sm_X10_mayCome_132
        · exact sm_X10_mayCome_136
  refine sm_if (fun c => ?_) (fun c => ?_)
  · refine sm_if (fun c => ?_) (fun c => ?_)
    · exact sm_X10_mayCome_83
    · exact sm_X10_mayCome_83
  refine sm_if (fun c => ?_) (fun c => ?_)
  · refine sm_if (fun c => ?_) (fun c => ?_)
    · exact sm_X10_mayCome_99
    · exact sm_X10_mayCome_99
  refine sm_if (fun c => ?_) (fun c => ?_)
  · refine sm_if (fun c => ?_) (fun c => ?_)
    · exact sm_X10_mayCome_67
    · exact sm_X10_mayCome_67
  refine sm_if (fun c => ?_) (fun c => ?_)
  · exact sm_X10_mayCome_170
  · refine sm_if (fun c => ?_) (fun c => ?_)
    · exact sm_X10_mayCome_170
    · exact sm_X10_mayCome_175
set_option maxHeartbeats 4000000 in
set_option maxRecDepth 100000 in
theorem sm_X10_done {h : zz_H} {am : Nat} {x1 : Int32} {x2 : Int32} {μ : zzM} {ν : zzN} : zLe (fun r : (Int32 × zzM × zzN) => (r.1, zk h am r.2.1 r.2.2)) (g_X10_done x1 x2 μ ν) (f_X10_done am x1 x2 (zk h am μ ν)) := by
  unfold g_X10_done f_X10_done
  refine sm_gq (off := 4) rfl ?_
  refine sm_aq (fun o5 => ?_)
  refine sm_gq (off := 3) rfl ?_
  refine sm_ai (fun v11 => ?_)
  refine sm_si (fun m13 => ?_)
  refine sm_gq (off := 9) rfl ?_
  refine sm_aq (fun o19 => ?_)
  refine sm_gq (off := 3) rfl ?_
  refine sm_ai (fun v25 => ?_)
  refine sm_si (fun m27 => ?_)
  refine sm_gq (off := 3) rfl ?_
  refine sm_ai (fun v34 => ?_)
  refine sm_si (fun m37 => ?_)
  refine sm_gq (off := 3) rfl ?_
  refine sm_ai (fun v43 => ?_)
  exact sm_some rfl
set_option maxHeartbeats 4000000 in
set_option maxRecDepth 100000 in
theorem sm_X10_web_59 {h : zz_H} {am : Nat} {μ : zzM} {ν : zzN} : zLe (fun r : (Int32 × zzM × zzN) => (r.1, zk h am r.2.1 r.2.2)) (g_X10_web_59 μ ν) (f_X10_web_59  (zk h am μ ν)) := by
  unfold g_X10_web_59 f_X10_web_59
  exact sm_some rfl
set_option maxHeartbeats 4000000 in
set_option maxRecDepth 100000 in
theorem sm_X10_web_52 {h : zz_H} {am : Nat} {x1 : Int32} {x2 : Int32} {s0 : Int32} {μ : zzM} {ν : zzN} : zLe (fun r : (Int32 × zzM × zzN) => (r.1, zk h am r.2.1 r.2.2)) (g_X10_web_52 x1 x2 s0 μ ν) (f_X10_web_52 am x1 x2 s0 (some am) (zk h am μ ν)) := by
  unfold g_X10_web_52 f_X10_web_52
  refine sm_ob ?_
  refine sm_b1 sm_X10_isThrown (fun v53 m53 q53 => ?_)
  refine sm_if (fun c => ?_) (fun c => ?_)
  · refine sm_gq (off := 14) rfl ?_
    refine sm_si (fun m67 => ?_)
    refine sm_ob ?_
    refine sm_b1 sm_X10_done (fun v72 m72 q72 => ?_)
    exact sm_some rfl
  · exact sm_X10_web_59
set_option maxHeartbeats 4000000 in
set_option maxRecDepth 100000 in
theorem sm_X10_web_29 {h : zz_H} {am : Nat} {x1 : Int32} {x2 : Int32} {s0 : Int32} {μ : zzM} {ν : zzN} : zLe (fun r : (Int32 × zzM × zzN) => (r.1, zk h am r.2.1 r.2.2)) (g_X10_web_29 x1 x2 s0 μ ν) (f_X10_web_29 am x1 x2 s0 (some am) (zk h am μ ν)) := by
  unfold g_X10_web_29 f_X10_web_29
  refine sm_ob ?_
  refine sm_b1 sm_X10_isThrown (fun v30 m30 q30 => ?_)
  refine sm_if (fun c => ?_) (fun c => ?_)
  · refine sm_ob ?_
    refine sm_b sm_X10_mayCome (fun v41 => ?_)
    refine sm_if (fun c => ?_) (fun c => ?_)
    · exact sm_X10_web_52
    · exact sm_X10_web_52
  · exact sm_X10_web_59
set_option maxHeartbeats 4000000 in
set_option maxRecDepth 100000 in
theorem sm_X10_web {h : zz_H} {am : Nat} {x1 : Int32} {x2 : Int32} {μ : zzM} {ν : zzN} : zLe (fun r : (Int32 × zzM × zzN) => (r.1, zk h am r.2.1 r.2.2)) (g_X10_web x1 x2 μ ν) (f_X10_web am x1 x2 (zk h am μ ν)) := by
  unfold g_X10_web f_X10_web
  refine sm_ob ?_
  refine sm_b sm_X10_isNoSeat (fun v3 => ?_)
  refine sm_ob ?_
  refine sm_b1 sm_X10_isThrown (fun v7 m7 q7 => ?_)
  refine sm_if (fun c => ?_) (fun c => ?_)
  · refine sm_b sm_X10_isIn (fun v18 => ?_)
    refine sm_if (fun c => ?_) (fun c => ?_)
    · exact sm_X10_web_29
    · exact sm_X10_web_29
  · exact sm_X10_web_59
set_option maxHeartbeats 4000000 in
set_option maxRecDepth 100000 in
theorem sm_X10_isSpring_26 {h : zz_H} {am : Nat} {s0 : Int32} {μ : zzM} {ν : zzN} : zLe id (g_X10_isSpring_26 s0 μ ν) (f_X10_isSpring_26 s0 (zk h am μ ν)) := by
  unfold g_X10_isSpring_26 f_X10_isSpring_26
  refine sm_gz ?_
  exact sm_some rfl
set_option maxHeartbeats 4000000 in
set_option maxRecDepth 100000 in
theorem sm_X10_isSpring_25 {h : zz_H} {am : Nat} {μ : zzM} {ν : zzN} : zLe id (g_X10_isSpring_25 μ ν) (f_X10_isSpring_25  (zk h am μ ν)) := by
  unfold g_X10_isSpring_25 f_X10_isSpring_25
  exact sm_X10_isSpring_26
set_option maxHeartbeats 4000000 in
set_option maxRecDepth 100000 in
theorem sm_X10_isSpring {h : zz_H} {am : Nat} {x0 : Int32} {x1 : Int32} {μ : zzM} {ν : zzN} : zLe id (g_X10_isSpring x0 x1 μ ν) (f_X10_isSpring x0 x1 (zk h am μ ν)) := by
  unfold g_X10_isSpring f_X10_isSpring
  refine sm_b sm_X10_isIn (fun v5 => ?_)
  refine sm_if (fun c => ?_) (fun c => ?_)
  · exact sm_X10_isSpring_25
  · refine sm_b sm_X10_isIn (fun v15 => ?_)
    refine sm_if (fun c => ?_) (fun c => ?_)
    · exact sm_X10_isSpring_25
    · exact sm_X10_isSpring_26
set_option maxHeartbeats 4000000 in
set_option maxRecDepth 100000 in
theorem sm_X10_loosen_2 {h : zz_H} {am : Nat} {x1 : Int32} {x2 : Int32} {μ : zzM} {ν : zzN} : zLe (Sum.map (fun s : (Int32 × zzM × zzN) => (s.1, zk h am s.2.1 s.2.2)) (fun r : (Unit × zzM × zzN) => (r.1, zk h am r.2.1 r.2.2))) (g_X10_loosen_2 x1 x2 μ ν) (f_X10_loosen_2 am x1 x2 (zk h am μ ν)) := by
  unfold g_X10_loosen_2 f_X10_loosen_2
  refine sm_if (fun c => ?_) (fun c => ?_)
  · exact sm_some rfl
  · refine sm_gq (off := 73) rfl ?_
    refine sm_aq (fun o13 => ?_)
    refine sm_si (fun m17 => ?_)
    refine sm_gq (off := 78) rfl ?_
    refine sm_aq (fun o23 => ?_)
    refine sm_si (fun m27 => ?_)
    exact sm_some rfl
set_option maxHeartbeats 4000000 in
set_option maxRecDepth 100000 in
theorem sm_X10_loosen {h : zz_H} {am : Nat} {x1 : Int32} {μ : zzM} {ν : zzN} : zLe (fun r : (Unit × zzM × zzN) => (r.1, zk h am r.2.1 r.2.2)) (g_X10_loosen x1 μ ν) (f_X10_loosen am x1 (zk h am μ ν)) := by
  unfold g_X10_loosen f_X10_loosen
  refine sm_it (cs := (fun s : (Int32 × zzM × zzN) => (s.1, zk h am s.2.1 s.2.2))) (fun s => ?_)
  exact sm_X10_loosen_2
set_option maxHeartbeats 4000000 in
set_option maxRecDepth 100000 in
theorem sm_X10_spring_72 {h : zz_H} {am : Nat} {x1 : Int32} {x2 : Int32} {x3 : Int32} {x4 : Int32} {x5 : Int32} {μ : zzM} {ν : zzN} : zLe (Sum.map (fun s : (Int32 × zzM × zzN) => (s.1, zk h am s.2.1 s.2.2)) (Sum.map (fun s : (Int32 × zzM × zzN) => (s.1, zk h am s.2.1 s.2.2)) (fun r : (Int32 × zzM × zzN) => (r.1, zk h am r.2.1 r.2.2)))) (g_X10_spring_72 x1 x2 x3 x4 x5 μ ν) (f_X10_spring_72 am x1 x2 x3 x4 x5 (zk h am μ ν)) := by
  unfold g_X10_spring_72 f_X10_spring_72
  refine sm_if (fun c => ?_) (fun c => ?_)
  · exact sm_some rfl
  · refine sm_gq (off := 15) rfl ?_
    refine sm_aq (fun o84 => ?_)
    refine sm_aq (fun o87 => ?_)
    refine sm_si (fun m91 => ?_)
    refine sm_gq (off := 44) rfl ?_
    refine sm_aq (fun o97 => ?_)
    refine sm_aq (fun o100 => ?_)
    refine sm_si (fun m104 => ?_)
    exact sm_some rfl
set_option maxHeartbeats 4000000 in
set_option maxRecDepth 100000 in
theorem sm_X10_spring_62 {h : zz_H} {am : Nat} {x1 : Int32} {x2 : Int32} {x3 : Int32} {x4 : Int32} {μ : zzM} {ν : zzN} : zLe (Sum.map (fun s : (Int32 × zzM × zzN) => (s.1, zk h am s.2.1 s.2.2)) (fun r : (Int32 × zzM × zzN) => (r.1, zk h am r.2.1 r.2.2))) (g_X10_spring_62 x1 x2 x3 x4 μ ν) (f_X10_spring_62 am x1 x2 x3 x4 (zk h am μ ν)) := by
  unfold g_X10_spring_62 f_X10_spring_62
  refine sm_if (fun c => ?_) (fun c => ?_)
  · refine sm_ob ?_
    refine sm_b1 sm_X10_loosen (fun u119 m119 q119 => ?_)
    refine sm_ob ?_
    refine sm_b1 sm_X10_done (fun v126 m126 q126 => ?_)
    exact sm_some rfl
  · refine sm_it (cs := (fun s : (Int32 × zzM × zzN) => (s.1, zk h am s.2.1 s.2.2))) (fun s => ?_)
    exact sm_X10_spring_72
set_option maxHeartbeats 4000000 in
set_option maxRecDepth 100000 in
theorem sm_X10_spring_57 {h : zz_H} {am : Nat} {μ : zzM} {ν : zzN} : zLe (fun r : (Int32 × zzM × zzN) => (r.1, zk h am r.2.1 r.2.2)) (g_X10_spring_57 μ ν) (f_X10_spring_57  (zk h am μ ν)) := by
  unfold g_X10_spring_57 f_X10_spring_57
  exact sm_some rfl
set_option maxHeartbeats 4000000 in
set_option maxRecDepth 100000 in
theorem sm_X10_spring_50 {h : zz_H} {am : Nat} {x1 : Int32} {x2 : Int32} {x3 : Int32} {s0 : Int32} {μ : zzM} {ν : zzN} : zLe (fun r : (Int32 × zzM × zzN) => (r.1, zk h am r.2.1 r.2.2)) (g_X10_spring_50 x1 x2 x3 s0 μ ν) (f_X10_spring_50 am x1 x2 x3 s0 (some am) (zk h am μ ν)) := by
  unfold g_X10_spring_50 f_X10_spring_50
  refine sm_ob ?_
  refine sm_b1 sm_X10_isThrown (fun v51 m51 q51 => ?_)
  refine sm_if (fun c => ?_) (fun c => ?_)
  · refine sm_it (cs := (fun s : (Int32 × zzM × zzN) => (s.1, zk h am s.2.1 s.2.2))) (fun s => ?_)
    exact sm_X10_spring_62
  · exact sm_X10_spring_57
set_option maxHeartbeats 4000000 in
set_option maxRecDepth 100000 in
theorem sm_X10_spring_27 {h : zz_H} {am : Nat} {x1 : Int32} {x2 : Int32} {x3 : Int32} {s0 : Int32} {μ : zzM} {ν : zzN} : zLe (fun r : (Int32 × zzM × zzN) => (r.1, zk h am r.2.1 r.2.2)) (g_X10_spring_27 x1 x2 x3 s0 μ ν) (f_X10_spring_27 am x1 x2 x3 s0 (some am) (zk h am μ ν)) := by
  unfold g_X10_spring_27 f_X10_spring_27
  refine sm_ob ?_
  refine sm_b1 sm_X10_isThrown (fun v28 m28 q28 => ?_)
  refine sm_if (fun c => ?_) (fun c => ?_)
  · refine sm_ob ?_
    refine sm_b sm_X10_mayCome (fun v39 => ?_)
    refine sm_if (fun c => ?_) (fun c => ?_)
    · exact sm_X10_spring_50
    · exact sm_X10_spring_50
  · exact sm_X10_spring_57
set_option maxHeartbeats 4000000 in
set_option maxRecDepth 100000 in
theorem sm_X10_spring {h : zz_H} {am : Nat} {x1 : Int32} {x2 : Int32} {x3 : Int32} {μ : zzM} {ν : zzN} : zLe (fun r : (Int32 × zzM × zzN) => (r.1, zk h am r.2.1 r.2.2)) (g_X10_spring x1 x2 x3 μ ν) (f_X10_spring am x1 x2 x3 (zk h am μ ν)) := by
  unfold g_X10_spring f_X10_spring
  refine sm_ob ?_
  refine sm_b sm_X10_isNoSeat (fun v3 => ?_)
  refine sm_ob ?_
  refine sm_b1 sm_X10_isThrown (fun v7 m7 q7 => ?_)
  refine sm_if (fun c => ?_) (fun c => ?_)
  · refine sm_b sm_X10_isSpring (fun v16 => ?_)
    refine sm_if (fun c => ?_) (fun c => ?_)
    · exact sm_X10_spring_27
    · exact sm_X10_spring_27
  · exact sm_X10_spring_57
set_option maxHeartbeats 4000000 in
set_option maxRecDepth 100000 in
theorem sm_X10_change_59 {h : zz_H} {am : Nat} {μ : zzM} {ν : zzN} : zLe (fun r : (Int32 × zzM × zzN) => (r.1, zk h am r.2.1 r.2.2)) (g_X10_change_59 μ ν) (f_X10_change_59  (zk h am μ ν)) := by
  unfold g_X10_change_59 f_X10_change_59
  exact sm_some rfl
set_option maxHeartbeats 4000000 in
set_option maxRecDepth 100000 in
theorem sm_X10_change_52 {h : zz_H} {am : Nat} {x1 : Int32} {x2 : Int32} {x3 : Int32} {x4 : Int32} {s0 : Int32} {μ : zzM} {ν : zzN} : zLe (fun r : (Int32 × zzM × zzN) => (r.1, zk h am r.2.1 r.2.2)) (g_X10_change_52 x1 x2 x3 x4 s0 μ ν) (f_X10_change_52 am x1 x2 x3 x4 s0 (some am) (zk h am μ ν)) := by
  unfold g_X10_change_52 f_X10_change_52
  refine sm_ob ?_
  refine sm_b1 sm_X10_isThrown (fun v53 m53 q53 => ?_)
  refine sm_if (fun c => ?_) (fun c => ?_)
  · refine sm_gq (off := 15) rfl ?_
    refine sm_aq (fun o66 => ?_)
    refine sm_dv ?_
    refine sm_aq (fun o71 => ?_)
    refine sm_dv ?_
    refine sm_ai (fun v76 => ?_)
    refine sm_gq (off := 15) rfl ?_
    refine sm_aq (fun o84 => ?_)
    refine sm_dv ?_
    refine sm_aq (fun o89 => ?_)
    refine sm_dv ?_
    refine sm_si (fun m95 => ?_)
    refine sm_gq (off := 44) rfl ?_
    refine sm_aq (fun o101 => ?_)
    refine sm_dv ?_
    refine sm_aq (fun o106 => ?_)
    refine sm_dv ?_
    refine sm_si (fun m113 => ?_)
    exact sm_some rfl
  · exact sm_X10_change_59
set_option maxHeartbeats 4000000 in
set_option maxRecDepth 100000 in
theorem sm_X10_change_29 {h : zz_H} {am : Nat} {x1 : Int32} {x2 : Int32} {x3 : Int32} {x4 : Int32} {s0 : Int32} {μ : zzM} {ν : zzN} : zLe (fun r : (Int32 × zzM × zzN) => (r.1, zk h am r.2.1 r.2.2)) (g_X10_change_29 x1 x2 x3 x4 s0 μ ν) (f_X10_change_29 am x1 x2 x3 x4 s0 (some am) (zk h am μ ν)) := by
  unfold g_X10_change_29 f_X10_change_29
  refine sm_ob ?_
  refine sm_b1 sm_X10_isThrown (fun v30 m30 q30 => ?_)
  refine sm_if (fun c => ?_) (fun c => ?_)
  · refine sm_ob ?_
    refine sm_b sm_X10_isLastOpen (fun v41 => ?_)
    refine sm_if (fun c => ?_) (fun c => ?_)
    · exact sm_X10_change_52
    · exact sm_X10_change_52
  · exact sm_X10_change_59
set_option maxHeartbeats 4000000 in
set_option maxRecDepth 100000 in
theorem sm_X10_change {h : zz_H} {am : Nat} {x1 : Int32} {x2 : Int32} {x3 : Int32} {x4 : Int32} {μ : zzM} {ν : zzN} : zLe (fun r : (Int32 × zzM × zzN) => (r.1, zk h am r.2.1 r.2.2)) (g_X10_change x1 x2 x3 x4 μ ν) (f_X10_change am x1 x2 x3 x4 (zk h am μ ν)) := by
  unfold g_X10_change f_X10_change
  refine sm_ob ?_
  refine sm_b sm_X10_isNoCell (fun v4 => ?_)
  refine sm_ob ?_
  refine sm_b1 sm_X10_isThrown (fun v8 m8 q8 => ?_)
  refine sm_if (fun c => ?_) (fun c => ?_)
  · refine sm_b sm_X10_isSpring (fun v18 => ?_)
    refine sm_if (fun c => ?_) (fun c => ?_)
    · exact sm_X10_change_29
    · exact sm_X10_change_29
  · exact sm_X10_change_59
set_option maxHeartbeats 4000000 in
set_option maxRecDepth 100000 in
theorem sm_X10_tie_36 {h : zz_H} {am : Nat} {μ : zzM} {ν : zzN} : zLe (fun r : (Int32 × zzM × zzN) => (r.1, zk h am r.2.1 r.2.2)) (g_X10_tie_36 μ ν) (f_X10_tie_36  (zk h am μ ν)) := by
  unfold g_X10_tie_36 f_X10_tie_36
  exact sm_some rfl
set_option maxHeartbeats 4000000 in
set_option maxRecDepth 100000 in
theorem sm_X10_tie_29 {h : zz_H} {am : Nat} {x1 : Int32} {s0 : Int32} {μ : zzM} {ν : zzN} : zLe (fun r : (Int32 × zzM × zzN) => (r.1, zk h am r.2.1 r.2.2)) (g_X10_tie_29 x1 s0 μ ν) (f_X10_tie_29 am x1 s0 (some am) (zk h am μ ν)) := by
  unfold g_X10_tie_29 f_X10_tie_29
  refine sm_ob ?_
  refine sm_b1 sm_X10_isThrown (fun v30 m30 q30 => ?_)
  refine sm_if (fun c => ?_) (fun c => ?_)
  · refine sm_ob ?_
    refine sm_b1 sm_X10_loosen (fun u40 m40 q40 => ?_)
    refine sm_ob ?_
    refine sm_b1 sm_X10_done (fun v47 m47 q47 => ?_)
    exact sm_some rfl
  · exact sm_X10_tie_36
set_option maxHeartbeats 4000000 in
set_option maxRecDepth 100000 in
theorem sm_X10_tie {h : zz_H} {am : Nat} {x1 : Int32} {μ : zzM} {ν : zzN} : zLe (fun r : (Int32 × zzM × zzN) => (r.1, zk h am r.2.1 r.2.2)) (g_X10_tie x1 μ ν) (f_X10_tie am x1 (zk h am μ ν)) := by
  unfold g_X10_tie f_X10_tie
  refine sm_ob ?_
  refine sm_b sm_X10_isNoSeat (fun v3 => ?_)
  refine sm_ob ?_
  refine sm_b1 sm_X10_isThrown (fun v7 m7 q7 => ?_)
  refine sm_if (fun c => ?_) (fun c => ?_)
  · refine sm_ob ?_
    refine sm_b sm_X10_mayCome (fun v18 => ?_)
    refine sm_if (fun c => ?_) (fun c => ?_)
    · exact sm_X10_tie_29
    · exact sm_X10_tie_29
  · exact sm_X10_tie_36
set_option maxHeartbeats 4000000 in
set_option maxRecDepth 100000 in
theorem sm_X10_hasSprings_15 {h : zz_H} {am : Nat} {s0 : Int32} {μ : zzM} {ν : zzN} : zLe id (g_X10_hasSprings_15 s0 μ ν) (f_X10_hasSprings_15 s0 (zk h am μ ν)) := by
  unfold g_X10_hasSprings_15 f_X10_hasSprings_15
  refine sm_gz ?_
  exact sm_some rfl
set_option maxHeartbeats 4000000 in
set_option maxRecDepth 100000 in
theorem sm_X10_hasSprings {h : zz_H} {am : Nat} {x1 : Int32} {μ : zzM} {ν : zzN} : zLe id (g_X10_hasSprings x1 μ ν) (f_X10_hasSprings am x1 (zk h am μ ν)) := by
  unfold g_X10_hasSprings f_X10_hasSprings
  refine sm_gq (off := 3) rfl ?_
  refine sm_ai (fun v5 => ?_)
  refine sm_if (fun c => ?_) (fun c => ?_)
  · exact sm_X10_hasSprings_15
  · exact sm_X10_hasSprings_15
set_option maxHeartbeats 4000000 in
set_option maxRecDepth 100000 in
theorem sm_X10_standsAt_44 {h : zz_H} {am : Nat} {s0 : Int32} {μ : zzM} {ν : zzN} : zLe id (g_X10_standsAt_44 s0 μ ν) (f_X10_standsAt_44 s0 (zk h am μ ν)) := by
  unfold g_X10_standsAt_44 f_X10_standsAt_44
  exact sm_some rfl
set_option maxHeartbeats 4000000 in
set_option maxRecDepth 100000 in
theorem sm_X10_standsAt {h : zz_H} {am : Nat} {x1 : Int32} {x2 : Int32} {x3 : Int32} {μ : zzM} {ν : zzN} : zLe id (g_X10_standsAt x1 x2 x3 μ ν) (f_X10_standsAt am x1 x2 x3 (zk h am μ ν)) := by
  unfold g_X10_standsAt f_X10_standsAt
  refine sm_ob ?_
  refine sm_b sm_X10_hasSprings (fun v2 => ?_)
  refine sm_if (fun c => ?_) (fun c => ?_)
  · exact sm_X10_standsAt_44
  · refine sm_gq (off := 15) rfl ?_
    refine sm_aq (fun o13 => ?_)
    refine sm_aq (fun o15 => ?_)
    refine sm_ai (fun v17 => ?_)
    refine sm_gq (off := 73) rfl ?_
    refine sm_aq (fun o23 => ?_)
    refine sm_ai (fun v25 => ?_)
    refine sm_gq (off := 78) rfl ?_
    refine sm_aq (fun o31 => ?_)
    refine sm_ai (fun v33 => ?_)
    exact sm_X10_standsAt_44
set_option maxHeartbeats 4000000 in
set_option maxRecDepth 100000 in
theorem sm_X10_standing_17 {h : zz_H} {am : Nat} {x1 : Int32} {x2 : Int32} {x3 : Int32} {x4 : Int32} {μ : zzM} {ν : zzN} : zLe id (g_X10_standing_17 x1 x2 x3 x4 μ ν) (f_X10_standing_17 am x1 x2 x3 x4 (zk h am μ ν)) := by
  unfold g_X10_standing_17 f_X10_standing_17
  refine sm_gq (off := 2) rfl ?_
  refine sm_ai (fun v24 => ?_)
  refine sm_if (fun c => ?_) (fun c => ?_)
  · exact sm_some rfl
  · refine sm_ob ?_
    refine sm_b sm_X10_standsAt (fun v34 => ?_)
    exact sm_some rfl
set_option maxHeartbeats 4000000 in
set_option maxRecDepth 100000 in
theorem sm_X10_standing_4 {h : zz_H} {am : Nat} {x1 : Int32} {x2 : Int32} {x3 : Int32} {μ : zzM} {ν : zzN} : zLe id (g_X10_standing_4 x1 x2 x3 μ ν) (f_X10_standing_4 am x1 x2 x3 (zk h am μ ν)) := by
  unfold g_X10_standing_4 f_X10_standing_4
  refine sm_gq (off := 1) rfl ?_
  refine sm_ai (fun v10 => ?_)
  refine sm_if (fun c => ?_) (fun c => ?_)
  · exact sm_some rfl
  · refine sm_it0 (fun s => ?_)
    exact sm_X10_standing_17
set_option maxHeartbeats 4000000 in
set_option maxRecDepth 100000 in
theorem sm_X10_standing {h : zz_H} {am : Nat} {x1 : Int32} {μ : zzM} {ν : zzN} : zLe id (g_X10_standing x1 μ ν) (f_X10_standing am x1 (zk h am μ ν)) := by
  unfold g_X10_standing f_X10_standing
  refine sm_it0 (fun s => ?_)
  exact sm_X10_standing_4
set_option maxHeartbeats 4000000 in
set_option maxRecDepth 100000 in
theorem sm_X10_pull_136 {h : zz_H} {am : Nat} {x1 : Int32} {x5 : Int32} {μ : zzM} {ν : zzN} : zLe (fun r : (Int32 × zzM × zzN) => (r.1, zk h am r.2.1 r.2.2)) (g_X10_pull_136 x1 x5 μ ν) (f_X10_pull_136 am x1 x5 (zk h am μ ν)) := by
  unfold g_X10_pull_136 f_X10_pull_136
  refine sm_ob ?_
  refine sm_b sm_X10_standing (fun v140 => ?_)
  exact sm_some rfl
set_option maxHeartbeats 4000000 in
set_option maxRecDepth 100000 in
theorem sm_X10_pull_93 {h : zz_H} {am : Nat} {x1 : Int32} {x2 : Int32} {x3 : Int32} {x4 : Int32} {s0 : Int32} {μ : zzM} {ν : zzN} : zLe (fun r : (Int32 × zzM × zzN) => (r.1, zk h am r.2.1 r.2.2)) (g_X10_pull_93 x1 x2 x3 x4 s0 μ ν) (f_X10_pull_93 am x1 x2 x3 x4 s0 (some am) (zk h am μ ν)) := by
  unfold g_X10_pull_93 f_X10_pull_93
  refine sm_ob ?_
  refine sm_b1 sm_X10_isThrown (fun v94 m94 q94 => ?_)
  refine sm_if (fun c => ?_) (fun c => ?_)
  · refine sm_ob ?_
    refine sm_b sm_X10_standing (fun v104 => ?_)
    refine sm_if (fun c => ?_) (fun c => ?_)
    · refine sm_gq (off := 78) rfl ?_
      refine sm_aq (fun o131 => ?_)
      refine sm_si (fun m135 => ?_)
      exact sm_X10_pull_136
    · refine sm_gq (off := 73) rfl ?_
      refine sm_aq (fun o118 => ?_)
      refine sm_si (fun m122 => ?_)
      exact sm_X10_pull_136
  · exact sm_some rfl
set_option maxHeartbeats 4000000 in
set_option maxRecDepth 100000 in
theorem sm_X10_pull_75 {h : zz_H} {am : Nat} {μ : zzM} {ν : zzN} : zLe (fun r : (Int32 × zzM × zzN) => (r.1, zk h am r.2.1 r.2.2)) (g_X10_pull_75 μ ν) (f_X10_pull_75  (zk h am μ ν)) := by
  unfold g_X10_pull_75 f_X10_pull_75
  exact sm_some rfl
set_option maxHeartbeats 4000000 in
set_option maxRecDepth 100000 in
theorem sm_X10_pull_68 {h : zz_H} {am : Nat} {x1 : Int32} {x2 : Int32} {x3 : Int32} {x4 : Int32} {s0 : Int32} {μ : zzM} {ν : zzN} : zLe (fun r : (Int32 × zzM × zzN) => (r.1, zk h am r.2.1 r.2.2)) (g_X10_pull_68 x1 x2 x3 x4 s0 μ ν) (f_X10_pull_68 am x1 x2 x3 x4 s0 (some am) (zk h am μ ν)) := by
  unfold g_X10_pull_68 f_X10_pull_68
  refine sm_ob ?_
  refine sm_b1 sm_X10_isThrown (fun v69 m69 q69 => ?_)
  refine sm_if (fun c => ?_) (fun c => ?_)
  · refine sm_ob ?_
    refine sm_b sm_X10_isLastOpen (fun v82 => ?_)
    refine sm_if (fun c => ?_) (fun c => ?_)
    · exact sm_X10_pull_93
    · exact sm_X10_pull_93
  · exact sm_X10_pull_75
set_option maxHeartbeats 4000000 in
set_option maxRecDepth 100000 in
theorem sm_X10_pull_43 {h : zz_H} {am : Nat} {x1 : Int32} {x2 : Int32} {x3 : Int32} {x4 : Int32} {s0 : Int32} {μ : zzM} {ν : zzN} : zLe (fun r : (Int32 × zzM × zzN) => (r.1, zk h am r.2.1 r.2.2)) (g_X10_pull_43 x1 x2 x3 x4 s0 μ ν) (f_X10_pull_43 am x1 x2 x3 x4 s0 (some am) (zk h am μ ν)) := by
  unfold g_X10_pull_43 f_X10_pull_43
  refine sm_ob ?_
  refine sm_b1 sm_X10_isThrown (fun v44 m44 q44 => ?_)
  refine sm_if (fun c => ?_) (fun c => ?_)
  · refine sm_b sm_X10_isIn (fun v57 => ?_)
    refine sm_if (fun c => ?_) (fun c => ?_)
    · exact sm_X10_pull_68
    · exact sm_X10_pull_68
  · exact sm_X10_pull_75
set_option maxHeartbeats 4000000 in
set_option maxRecDepth 100000 in
theorem sm_X10_pull_38 {h : zz_H} {am : Nat} {x1 : Int32} {x2 : Int32} {x3 : Int32} {x4 : Int32} {μ : zzM} {ν : zzN} : zLe (fun r : (Int32 × zzM × zzN) => (r.1, zk h am r.2.1 r.2.2)) (g_X10_pull_38 x1 x2 x3 x4 μ ν) (f_X10_pull_38 am x1 x2 x3 x4 (some am) (zk h am μ ν)) := by
  unfold g_X10_pull_38 f_X10_pull_38
  exact sm_X10_pull_43
set_option maxHeartbeats 4000000 in
set_option maxRecDepth 100000 in
theorem sm_X10_pull_30 {h : zz_H} {am : Nat} {x1 : Int32} {x2 : Int32} {x3 : Int32} {x4 : Int32} {s0 : Int32} {s1 : Int32} {s2 : Int32} {μ : zzM} {ν : zzN} : zLe (fun r : (Int32 × zzM × zzN) => (r.1, zk h am r.2.1 r.2.2)) (g_X10_pull_30 x1 x2 x3 x4 s0 s1 s2 μ ν) (f_X10_pull_30 am x1 x2 x3 x4 s0 s1 s2 (some am) (zk h am μ ν)) := by
  unfold g_X10_pull_30 f_X10_pull_30
  refine sm_b sm_X10_isIn (fun v32 => ?_)
  refine sm_if (fun c => ?_) (fun c => ?_)
  · exact sm_X10_pull_38
  · exact sm_X10_pull_43
set_option maxHeartbeats 4000000 in
set_option maxRecDepth 100000 in
theorem sm_X10_pull {h : zz_H} {am : Nat} {x1 : Int32} {x2 : Int32} {x3 : Int32} {x4 : Int32} {μ : zzM} {ν : zzN} : zLe (fun r : (Int32 × zzM × zzN) => (r.1, zk h am r.2.1 r.2.2)) (g_X10_pull x1 x2 x3 x4 μ ν) (f_X10_pull am x1 x2 x3 x4 (zk h am μ ν)) := by
  unfold g_X10_pull f_X10_pull
  refine sm_ob ?_
  refine sm_b sm_X10_isNoSeat (fun v3 => ?_)
  refine sm_if (fun c => ?_) (fun c => ?_)
  · refine sm_if (fun c => ?_) (fun c => ?_)
    · refine sm_gq (off := 2) rfl ?_
      refine sm_ai (fun v29 => ?_)
      exact sm_X10_pull_30
    · refine sm_gq (off := 1) rfl ?_
      refine sm_ai (fun v20 => ?_)
      exact sm_X10_pull_30
  · exact sm_X10_pull_38
set_option maxHeartbeats 4000000 in
set_option maxRecDepth 100000 in
theorem sm_X10_isKind_23 {h : zz_H} {am : Nat} {s0 : Int32} {μ : zzM} {ν : zzN} : zLe id (g_X10_isKind_23 s0 μ ν) (f_X10_isKind_23 s0 (zk h am μ ν)) := by
  unfold g_X10_isKind_23 f_X10_isKind_23
  refine sm_gz ?_
  exact sm_some rfl
set_option maxHeartbeats 4000000 in
set_option maxRecDepth 100000 in
theorem sm_X10_isKind_18 {h : zz_H} {am : Nat} {μ : zzM} {ν : zzN} : zLe id (g_X10_isKind_18 μ ν) (f_X10_isKind_18  (zk h am μ ν)) := by
  unfold g_X10_isKind_18 f_X10_isKind_18
  exact sm_X10_isKind_23
set_option maxHeartbeats 4000000 in
set_option maxRecDepth 100000 in
theorem sm_X10_isKind {h : zz_H} {am : Nat} {x0 : Int32} {μ : zzM} {ν : zzN} : zLe id (g_X10_isKind x0 μ ν) (f_X10_isKind x0 (zk h am μ ν)) := by
  unfold g_X10_isKind f_X10_isKind
  refine sm_if (fun c => ?_) (fun c => ?_)
  · exact sm_X10_isKind_18
  · refine sm_if (fun c => ?_) (fun c => ?_)
    · exact sm_X10_isKind_18
    · refine sm_if (fun c => ?_) (fun c => ?_)
      · exact sm_X10_isKind_18
      · exact sm_X10_isKind_23
set_option maxHeartbeats 4000000 in
set_option maxRecDepth 100000 in
theorem sm_X10_layer_89 {h : zz_H} {am : Nat} {μ : zzM} {ν : zzN} : zLe (fun r : (Int32 × zzM × zzN) => (r.1, zk h am r.2.1 r.2.2)) (g_X10_layer_89 μ ν) (f_X10_layer_89  (zk h am μ ν)) := by
  unfold g_X10_layer_89 f_X10_layer_89
  exact sm_some rfl
set_option maxHeartbeats 4000000 in
set_option maxRecDepth 100000 in
theorem sm_X10_layer_82 {h : zz_H} {am : Nat} {x1 : Int32} {x2 : Int32} {x3 : Int32} {x4 : Int32} {s0 : Int32} {μ : zzM} {ν : zzN} : zLe (fun r : (Int32 × zzM × zzN) => (r.1, zk h am r.2.1 r.2.2)) (g_X10_layer_82 x1 x2 x3 x4 s0 μ ν) (f_X10_layer_82 am x1 x2 x3 x4 s0 (some am) (zk h am μ ν)) := by
  unfold g_X10_layer_82 f_X10_layer_82
  refine sm_ob ?_
  refine sm_b1 sm_X10_isThrown (fun v83 m83 q83 => ?_)
  refine sm_if (fun c => ?_) (fun c => ?_)
  · refine sm_gq (off := 83) rfl ?_
    refine sm_ai (fun v96 => ?_)
    refine sm_gq (off := 84) rfl ?_
    refine sm_aq (fun o104 => ?_)
    refine sm_si (fun m108 => ?_)
    refine sm_gq (off := 89) rfl ?_
    refine sm_aq (fun o114 => ?_)
    refine sm_si (fun m118 => ?_)
    refine sm_gq (off := 94) rfl ?_
    refine sm_aq (fun o124 => ?_)
    refine sm_si (fun m129 => ?_)
    refine sm_gq (off := 99) rfl ?_
    refine sm_aq (fun o135 => ?_)
    refine sm_sl (fun m139 => ?_)
    refine sm_gq (off := 104) rfl ?_
    refine sm_aq (fun o145 => ?_)
    refine sm_si (fun m149 => ?_)
    refine sm_gq (off := 83) rfl ?_
    refine sm_ai (fun v156 => ?_)
    refine sm_si (fun m159 => ?_)
    refine sm_ob ?_
    refine sm_b1 sm_X10_done (fun v164 m164 q164 => ?_)
    exact sm_some rfl
  · exact sm_X10_layer_89
set_option maxHeartbeats 4000000 in
set_option maxRecDepth 100000 in
theorem sm_X10_layer_59 {h : zz_H} {am : Nat} {x1 : Int32} {x2 : Int32} {x3 : Int32} {x4 : Int32} {s0 : Int32} {μ : zzM} {ν : zzN} : zLe (fun r : (Int32 × zzM × zzN) => (r.1, zk h am r.2.1 r.2.2)) (g_X10_layer_59 x1 x2 x3 x4 s0 μ ν) (f_X10_layer_59 am x1 x2 x3 x4 s0 (some am) (zk h am μ ν)) := by
  unfold g_X10_layer_59 f_X10_layer_59
  refine sm_ob ?_
  refine sm_b1 sm_X10_isThrown (fun v60 m60 q60 => ?_)
  refine sm_if (fun c => ?_) (fun c => ?_)
  · refine sm_ob ?_
    refine sm_b sm_X10_mayCome (fun v71 => ?_)
    refine sm_if (fun c => ?_) (fun c => ?_)
    · exact sm_X10_layer_82
    · exact sm_X10_layer_82
  · exact sm_X10_layer_89
set_option maxHeartbeats 4000000 in
set_option maxRecDepth 100000 in
theorem sm_X10_layer_33 {h : zz_H} {am : Nat} {x1 : Int32} {x2 : Int32} {x3 : Int32} {x4 : Int32} {s0 : Int32} {μ : zzM} {ν : zzN} : zLe (fun r : (Int32 × zzM × zzN) => (r.1, zk h am r.2.1 r.2.2)) (g_X10_layer_33 x1 x2 x3 x4 s0 μ ν) (f_X10_layer_33 am x1 x2 x3 x4 s0 (zk h am μ ν)) := by
  unfold g_X10_layer_33 f_X10_layer_33
  refine sm_ob ?_
  refine sm_b sm_X10_isNoSeat (fun v38 => ?_)
  refine sm_ob ?_
  refine sm_b1 sm_X10_isThrown (fun v42 m42 q42 => ?_)
  refine sm_if (fun c => ?_) (fun c => ?_)
  · refine sm_if (fun c => ?_) (fun c => ?_)
    · exact sm_X10_layer_59
    · exact sm_X10_layer_59
  · exact sm_X10_layer_89
set_option maxHeartbeats 4000000 in
set_option maxRecDepth 100000 in
theorem sm_X10_layer_32 {h : zz_H} {am : Nat} {x1 : Int32} {x2 : Int32} {x3 : Int32} {x4 : Int32} {μ : zzM} {ν : zzN} : zLe (fun r : (Int32 × zzM × zzN) => (r.1, zk h am r.2.1 r.2.2)) (g_X10_layer_32 x1 x2 x3 x4 μ ν) (f_X10_layer_32 am x1 x2 x3 x4 (zk h am μ ν)) := by
  unfold g_X10_layer_32 f_X10_layer_32
  exact sm_X10_layer_33
set_option maxHeartbeats 4000000 in
set_option maxRecDepth 100000 in
theorem sm_X10_layer {h : zz_H} {am : Nat} {x1 : Int32} {x2 : Int32} {x3 : Int32} {x4 : Int32} {μ : zzM} {ν : zzN} : zLe (fun r : (Int32 × zzM × zzN) => (r.1, zk h am r.2.1 r.2.2)) (g_X10_layer x1 x2 x3 x4 μ ν) (f_X10_layer am x1 x2 x3 x4 (zk h am μ ν)) := by
  unfold g_X10_layer f_X10_layer
  refine sm_b sm_X10_isKind (fun v1 => ?_)
  refine sm_if (fun c => ?_) (fun c => ?_)
  · exact sm_X10_layer_32
  · refine sm_b sm_X10_isIn (fun v11 => ?_)
    refine sm_if (fun c => ?_) (fun c => ?_)
    · exact sm_X10_layer_32
    · refine sm_b sm_X10_isIn (fun v22 => ?_)
      refine sm_if (fun c => ?_) (fun c => ?_)
      · exact sm_X10_layer_32
      · exact sm_X10_layer_33
set_option maxHeartbeats 4000000 in
set_option maxRecDepth 100000 in
theorem sm_X10_buttons_47 {h : zz_H} {am : Nat} {s0 : Int32} {μ : zzM} {ν : zzN} : zLe (fun r : (Int32 × zzM × zzN) => (r.1, zk h am r.2.1 r.2.2)) (g_X10_buttons_47 s0 μ ν) (f_X10_buttons_47 s0 (zk h am μ ν)) := by
  unfold g_X10_buttons_47 f_X10_buttons_47
  exact sm_some rfl
set_option maxHeartbeats 4000000 in
set_option maxRecDepth 100000 in
theorem sm_X10_buttons_36 {h : zz_H} {am : Nat} {μ : zzM} {ν : zzN} : zLe (fun r : (Int32 × zzM × zzN) => (r.1, zk h am r.2.1 r.2.2)) (g_X10_buttons_36 μ ν) (f_X10_buttons_36  (zk h am μ ν)) := by
  unfold g_X10_buttons_36 f_X10_buttons_36
  exact sm_X10_buttons_47
set_option maxHeartbeats 4000000 in
set_option maxRecDepth 100000 in
theorem sm_X10_buttons_29 {h : zz_H} {am : Nat} {x1 : Int32} {s0 : Int32} {μ : zzM} {ν : zzN} : zLe (fun r : (Int32 × zzM × zzN) => (r.1, zk h am r.2.1 r.2.2)) (g_X10_buttons_29 x1 s0 μ ν) (f_X10_buttons_29 am x1 s0 (some am) (zk h am μ ν)) := by
  unfold g_X10_buttons_29 f_X10_buttons_29
  refine sm_ob ?_
  refine sm_b1 sm_X10_isThrown (fun v30 m30 q30 => ?_)
  refine sm_if (fun c => ?_) (fun c => ?_)
  · refine sm_ob ?_
    refine sm_b1 sm_X10_done (fun v44 m44 q44 => ?_)
    exact sm_X10_buttons_47
  · exact sm_X10_buttons_36
set_option maxHeartbeats 4000000 in
set_option maxRecDepth 100000 in
theorem sm_X10_buttons {h : zz_H} {am : Nat} {x1 : Int32} {μ : zzM} {ν : zzN} : zLe (fun r : (Int32 × zzM × zzN) => (r.1, zk h am r.2.1 r.2.2)) (g_X10_buttons x1 μ ν) (f_X10_buttons am x1 (zk h am μ ν)) := by
  unfold g_X10_buttons f_X10_buttons
  refine sm_ob ?_
  refine sm_b sm_X10_isNoSeat (fun v3 => ?_)
  refine sm_ob ?_
  refine sm_b1 sm_X10_isThrown (fun v7 m7 q7 => ?_)
  refine sm_if (fun c => ?_) (fun c => ?_)
  · refine sm_ob ?_
    refine sm_b sm_X10_mayCome (fun v18 => ?_)
    refine sm_if (fun c => ?_) (fun c => ?_)
    · exact sm_X10_buttons_29
    · exact sm_X10_buttons_29
  · exact sm_X10_buttons_36
set_option maxHeartbeats 4000000 in
set_option maxRecDepth 100000 in
theorem sm_X10_drawn_66 {h : zz_H} {am : Nat} {x3 : Nat} {x4 : Int32} {x5 : Int32} {x7 : Nat} {x8 : Int32} {x9 : Int32} {s0 : Int32} {s1 : Int32} {μ : zzM} {ν : zzN} : zLe id (g_X10_drawn_66 x3 x4 x5 x7 x8 x9 s0 s1 μ ν) (f_X10_drawn_66 (some (am + x3)) x4 x5 (some (am + x7)) x8 x9 s0 s1 (zk h am μ ν)) := by
  unfold g_X10_drawn_66 f_X10_drawn_66
  exact sm_some rfl
set_option maxHeartbeats 4000000 in
set_option maxRecDepth 100000 in
theorem sm_X10_drawn_41 {h : zz_H} {am : Nat} {x2 : Int32} {x3 : Nat} {x4 : Int32} {x5 : Int32} {x7 : Nat} {x8 : Int32} {x9 : Int32} {μ : zzM} {ν : zzN} : zLe id (g_X10_drawn_41 x2 x3 x4 x5 x7 x8 x9 μ ν) (f_X10_drawn_41 x2 (some (am + x3)) x4 x5 (some (am + x7)) x8 x9 (zk h am μ ν)) := by
  unfold g_X10_drawn_41 f_X10_drawn_41
  refine sm_if (fun c => ?_) (fun c => ?_)
  · exact sm_some rfl
  · refine sm_ai (fun v52 => ?_)
    refine sm_if (fun c => ?_) (fun c => ?_)
    · exact sm_X10_drawn_66
    · exact sm_X10_drawn_66
set_option maxHeartbeats 4000000 in
set_option maxRecDepth 100000 in
theorem sm_X10_drawn_16 {h : zz_H} {am : Nat} {x2 : Int32} {x3 : Nat} {x4 : Int32} {x5 : Int32} {μ : zzM} {ν : zzN} : zLe id (g_X10_drawn_16 x2 x3 x4 x5 μ ν) (f_X10_drawn_16 x2 (some (am + x3)) x4 x5 (zk h am μ ν)) := by
  unfold g_X10_drawn_16 f_X10_drawn_16
  refine sm_if (fun c => ?_) (fun c => ?_)
  · exact sm_some rfl
  · refine sm_aq (fun o26 => ?_)
    refine sm_len (fun v35 => ?_)
    refine sm_it0 (fun s => ?_)
    exact sm_X10_drawn_41
set_option maxHeartbeats 4000000 in
set_option maxRecDepth 100000 in
theorem sm_X10_drawn {h : zz_H} {am : Nat} {x1 : Int32} {μ : zzM} {ν : zzN} : zLe id (g_X10_drawn x1 μ ν) (f_X10_drawn am x1 (zk h am μ ν)) := by
  unfold g_X10_drawn f_X10_drawn
  refine sm_gq (off := 109) rfl ?_
  refine sm_aq (fun o7 => ?_)
  refine sm_len (fun v10 => ?_)
  refine sm_it0 (fun s => ?_)
  exact sm_X10_drawn_16
set_option maxHeartbeats 4000000 in
set_option maxRecDepth 100000 in
theorem sm_X10_draw_97 {h : zz_H} {am : Nat} {x1 : Int32} {x2 : Int32} {x3 : Int32} {s0 : Int32} {μ : zzM} {ν : zzN} : zLe (fun r : (Int32 × zzM × zzN) => (r.1, zk h am r.2.1 r.2.2)) (g_X10_draw_97 x1 x2 x3 s0 μ ν) (f_X10_draw_97 am x1 x2 x3 s0 (some am) (zk h am μ ν)) := by
  unfold g_X10_draw_97 f_X10_draw_97
  refine sm_ob ?_
  refine sm_b1 sm_X10_isThrown (fun v98 m98 q98 => ?_)
  refine sm_if (fun c => ?_) (fun c => ?_)
  · refine sm_gq (off := 109) rfl ?_
    refine sm_aq (fun o111 => ?_)
    refine sm_dv ?_
    refine sm_aq (fun o116 => ?_)
    refine sm_dv ?_
    refine sm_si (fun m122 => ?_)
    refine sm_ob ?_
    refine sm_b sm_X10_drawn (fun v125 => ?_)
    exact sm_some rfl
  · exact sm_some rfl
set_option maxHeartbeats 4000000 in
set_option maxRecDepth 100000 in
theorem sm_X10_draw_96 {h : zz_H} {am : Nat} {x1 : Int32} {x2 : Int32} {x3 : Int32} {μ : zzM} {ν : zzN} : zLe (fun r : (Int32 × zzM × zzN) => (r.1, zk h am r.2.1 r.2.2)) (g_X10_draw_96 x1 x2 x3 μ ν) (f_X10_draw_96 am x1 x2 x3 (some am) (zk h am μ ν)) := by
  unfold g_X10_draw_96 f_X10_draw_96
  exact sm_X10_draw_97
set_option maxHeartbeats 4000000 in
set_option maxRecDepth 100000 in
theorem sm_X10_draw_60 {h : zz_H} {am : Nat} {μ : zzM} {ν : zzN} : zLe (fun r : (Int32 × zzM × zzN) => (r.1, zk h am r.2.1 r.2.2)) (g_X10_draw_60 μ ν) (f_X10_draw_60  (zk h am μ ν)) := by
  unfold g_X10_draw_60 f_X10_draw_60
  exact sm_some rfl
set_option maxHeartbeats 4000000 in
set_option maxRecDepth 100000 in
theorem sm_X10_draw_53 {h : zz_H} {am : Nat} {x1 : Int32} {x2 : Int32} {x3 : Int32} {s0 : Int32} {μ : zzM} {ν : zzN} : zLe (fun r : (Int32 × zzM × zzN) => (r.1, zk h am r.2.1 r.2.2)) (g_X10_draw_53 x1 x2 x3 s0 μ ν) (f_X10_draw_53 am x1 x2 x3 s0 (some am) (zk h am μ ν)) := by
  unfold g_X10_draw_53 f_X10_draw_53
  refine sm_ob ?_
  refine sm_b1 sm_X10_isThrown (fun v54 m54 q54 => ?_)
  refine sm_if (fun c => ?_) (fun c => ?_)
  · refine sm_ob ?_
    refine sm_b sm_X10_drawn (fun v65 => ?_)
    refine sm_if (fun c => ?_) (fun c => ?_)
    · refine sm_gq (off := 109) rfl ?_
      refine sm_aq (fun o78 => ?_)
      refine sm_dv ?_
      refine sm_aq (fun o83 => ?_)
      refine sm_dv ?_
      refine sm_ai (fun v88 => ?_)
      refine sm_if (fun c => ?_) (fun c => ?_)
      · exact sm_X10_draw_97
      · exact sm_X10_draw_96
    · exact sm_X10_draw_96
  · exact sm_X10_draw_60
set_option maxHeartbeats 4000000 in
set_option maxRecDepth 100000 in
theorem sm_X10_draw_30 {h : zz_H} {am : Nat} {x1 : Int32} {x2 : Int32} {x3 : Int32} {s0 : Int32} {μ : zzM} {ν : zzN} : zLe (fun r : (Int32 × zzM × zzN) => (r.1, zk h am r.2.1 r.2.2)) (g_X10_draw_30 x1 x2 x3 s0 μ ν) (f_X10_draw_30 am x1 x2 x3 s0 (some am) (zk h am μ ν)) := by
  unfold g_X10_draw_30 f_X10_draw_30
  refine sm_ob ?_
  refine sm_b1 sm_X10_isThrown (fun v31 m31 q31 => ?_)
  refine sm_if (fun c => ?_) (fun c => ?_)
  · refine sm_ob ?_
    refine sm_b sm_X10_isLastOpen (fun v42 => ?_)
    refine sm_if (fun c => ?_) (fun c => ?_)
    · exact sm_X10_draw_53
    · exact sm_X10_draw_53
  · exact sm_X10_draw_60
set_option maxHeartbeats 4000000 in
set_option maxRecDepth 100000 in
theorem sm_X10_draw {h : zz_H} {am : Nat} {x1 : Int32} {x2 : Int32} {x3 : Int32} {μ : zzM} {ν : zzN} : zLe (fun r : (Int32 × zzM × zzN) => (r.1, zk h am r.2.1 r.2.2)) (g_X10_draw x1 x2 x3 μ ν) (f_X10_draw am x1 x2 x3 (zk h am μ ν)) := by
  unfold g_X10_draw f_X10_draw
  refine sm_ob ?_
  refine sm_b sm_X10_isNoCell (fun v4 => ?_)
  refine sm_ob ?_
  refine sm_b1 sm_X10_isThrown (fun v8 m8 q8 => ?_)
  refine sm_if (fun c => ?_) (fun c => ?_)
  · refine sm_b sm_X10_isIn (fun v19 => ?_)
    refine sm_if (fun c => ?_) (fun c => ?_)
    · exact sm_X10_draw_30
    · exact sm_X10_draw_30
  · exact sm_X10_draw_60
set_option maxHeartbeats 4000000 in
set_option maxRecDepth 100000 in
theorem sm_X10_placeFor_92 {h : zz_H} {am : Nat} {x1 : Int32} {x3 : Int32} {x4 : Int32} {x5 : Int32} {x6 : Int32} {μ : zzM} {ν : zzN} : zLe id (g_X10_placeFor_92 x1 x3 x4 x5 x6 μ ν) (f_X10_placeFor_92 am x1 x3 x4 x5 x6 (zk h am μ ν)) := by
  unfold g_X10_placeFor_92 f_X10_placeFor_92
  refine sm_if (fun c => ?_) (fun c => ?_)
  · exact sm_some rfl
  · exact sm_some rfl
set_option maxHeartbeats 4000000 in
set_option maxRecDepth 100000 in
theorem sm_X10_placeFor_84 {h : zz_H} {am : Nat} {x1 : Int32} {x3 : Int32} {x4 : Int32} {x5 : Int32} {x7 : Int32} {s0 : Int32} {μ : zzM} {ν : zzN} : zLe id (g_X10_placeFor_84 x1 x3 x4 x5 x7 s0 μ ν) (f_X10_placeFor_84 am x1 x3 x4 x5 x7 s0 (zk h am μ ν)) := by
  unfold g_X10_placeFor_84 f_X10_placeFor_84
  exact sm_some rfl
set_option maxHeartbeats 4000000 in
set_option maxRecDepth 100000 in
theorem sm_X10_placeFor_40 {h : zz_H} {am : Nat} {x1 : Int32} {x3 : Int32} {x4 : Int32} {x5 : Int32} {x6 : Int32} {x7 : Int32} {μ : zzM} {ν : zzN} : zLe id (g_X10_placeFor_40 x1 x3 x4 x5 x6 x7 μ ν) (f_X10_placeFor_40 am x1 x3 x4 x5 x6 x7 (zk h am μ ν)) := by
  unfold g_X10_placeFor_40 f_X10_placeFor_40
  refine sm_gq (off := 172) rfl ?_
  refine sm_ai (fun v47 => ?_)
  refine sm_if (fun c => ?_) (fun c => ?_)
  · refine sm_map01 ?_
    exact sm_X10_placeFor_92
  · refine sm_if (fun c => ?_) (fun c => ?_)
    · refine sm_map01 ?_
      exact sm_X10_placeFor_92
    · refine sm_gq (off := 173) rfl ?_
      refine sm_aq (fun o61 => ?_)
      refine sm_ai (fun v64 => ?_)
      refine sm_b sm_X10_isIn (fun v73 => ?_)
      refine sm_if (fun c => ?_) (fun c => ?_)
      · exact sm_X10_placeFor_84
      · exact sm_X10_placeFor_84
set_option maxHeartbeats 4000000 in
set_option maxRecDepth 100000 in
theorem sm_X10_placeFor_35 {h : zz_H} {am : Nat} {x1 : Int32} {x3 : Int32} {x4 : Int32} {x5 : Int32} {s0 : Int32} {μ : zzM} {ν : zzN} : zLe id (g_X10_placeFor_35 x1 x3 x4 x5 s0 μ ν) (f_X10_placeFor_35 am x1 x3 x4 x5 s0 (zk h am μ ν)) := by
  unfold g_X10_placeFor_35 f_X10_placeFor_35
  refine sm_it0 (fun s => ?_)
  exact sm_X10_placeFor_40
set_option maxHeartbeats 4000000 in
set_option maxRecDepth 100000 in
theorem sm_X10_placeFor_3 {h : zz_H} {am : Nat} {x1 : Int32} {x3 : Int32} {x4 : Int32} {x5 : Int32} {μ : zzM} {ν : zzN} : zLe id (g_X10_placeFor_3 x1 x3 x4 x5 μ ν) (f_X10_placeFor_3 am x1 x3 x4 x5 (zk h am μ ν)) := by
  unfold g_X10_placeFor_3 f_X10_placeFor_3
  refine sm_gq (off := 169) rfl ?_
  refine sm_ai (fun v12 => ?_)
  refine sm_if (fun c => ?_) (fun c => ?_)
  · exact sm_some rfl
  · refine sm_gq (off := 170) rfl ?_
    refine sm_ai (fun v23 => ?_)
    refine sm_dv ?_
    refine sm_if (fun c => ?_) (fun c => ?_)
    · exact sm_X10_placeFor_35
    · exact sm_X10_placeFor_35
set_option maxHeartbeats 4000000 in
set_option maxRecDepth 100000 in
theorem sm_X10_placeFor {h : zz_H} {am : Nat} {x1 : Int32} {x2 : Int32} {x3 : Int32} {x4 : Int32} {μ : zzM} {ν : zzN} : zLe id (g_X10_placeFor x1 x2 x3 x4 μ ν) (f_X10_placeFor am x1 x2 x3 x4 (zk h am μ ν)) := by
  unfold g_X10_placeFor f_X10_placeFor
  refine sm_it0 (fun s => ?_)
  exact sm_X10_placeFor_3
set_option maxHeartbeats 4000000 in
set_option maxRecDepth 100000 in
theorem sm_X10_thickNow_50 {h : zz_H} {am : Nat} {x1 : Int32} {x2 : Int32} {x3 : Int64} {s0 : Int64} {μ : zzM} {ν : zzN} : zLe id (g_X10_thickNow_50 x1 x2 x3 s0 μ ν) (f_X10_thickNow_50 am x1 x2 x3 s0 (zk h am μ ν)) := by
  unfold g_X10_thickNow_50 f_X10_thickNow_50
  refine sm_gq (off := 89) rfl ?_
  refine sm_aq (fun o57 => ?_)
  refine sm_ai (fun v59 => ?_)
  refine sm_gq (off := 94) rfl ?_
  refine sm_aq (fun o74 => ?_)
  refine sm_ai (fun v76 => ?_)
  refine sm_dl ?_
  refine sm_gq (off := 89) rfl ?_
  refine sm_aq (fun o89 => ?_)
  refine sm_ai (fun v91 => ?_)
  exact sm_some rfl
set_option maxHeartbeats 4000000 in
set_option maxRecDepth 100000 in
theorem sm_X10_thickNow {h : zz_H} {am : Nat} {x1 : Int32} {x2 : Int32} {μ : zzM} {ν : zzN} : zLe id (g_X10_thickNow x1 x2 μ ν) (f_X10_thickNow am x1 x2 (zk h am μ ν)) := by
  unfold g_X10_thickNow f_X10_thickNow
  refine sm_gq (off := 99) rfl ?_
  refine sm_aq (fun o5 => ?_)
  refine sm_al (fun v7 => ?_)
  refine sm_gq (off := 84) rfl ?_
  refine sm_aq (fun o14 => ?_)
  refine sm_ai (fun v16 => ?_)
  refine sm_if (fun c => ?_) (fun c => ?_)
  · exact sm_X10_thickNow_50
  · refine sm_gq (off := 84) rfl ?_
    refine sm_aq (fun o33 => ?_)
    refine sm_ai (fun v35 => ?_)
    refine sm_if (fun c => ?_) (fun c => ?_)
    · exact sm_X10_thickNow_50
    · exact sm_X10_thickNow_50
set_option maxHeartbeats 4000000 in
set_option maxRecDepth 100000 in
theorem sm_X10_topAt_23 {h : zz_H} {am : Nat} {x1 : Int32} {x4 : Int32} {x5 : Int32} {μ : zzM} {ν : zzN} : zLe id (g_X10_topAt_23 x1 x4 x5 μ ν) (f_X10_topAt_23 am x1 x4 x5 (zk h am μ ν)) := by
  unfold g_X10_topAt_23 f_X10_topAt_23
  refine sm_gq (off := 83) rfl ?_
  refine sm_ai (fun v30 => ?_)
  refine sm_if (fun c => ?_) (fun c => ?_)
  · exact sm_some rfl
  · refine sm_ob ?_
    refine sm_b sm_X10_thickNow (fun v40 => ?_)
    exact sm_some rfl
set_option maxHeartbeats 4000000 in
set_option maxRecDepth 100000 in
theorem sm_X10_topAt {h : zz_H} {am : Nat} {x1 : Int32} {x2 : Int32} {x3 : Int32} {μ : zzM} {ν : zzN} : zLe id (g_X10_topAt x1 x2 x3 μ ν) (f_X10_topAt am x1 x2 x3 (zk h am μ ν)) := by
  unfold g_X10_topAt f_X10_topAt
  refine sm_ob ?_
  refine sm_b sm_X10_standsAt (fun v4 => ?_)
  refine sm_gq (off := 109) rfl ?_
  refine sm_aq (fun o12 => ?_)
  refine sm_aq (fun o14 => ?_)
  refine sm_ai (fun v16 => ?_)
  refine sm_it0 (fun s => ?_)
  exact sm_X10_topAt_23
set_option maxHeartbeats 4000000 in
set_option maxRecDepth 100000 in
theorem sm_X10_tops_17 {h : zz_H} {am : Nat} {x1 : Int32} {x2 : Int32} {x3 : Int32} {x4 : Int32} {μ : zzM} {ν : zzN} : zLe id (g_X10_tops_17 x1 x2 x3 x4 μ ν) (f_X10_tops_17 am x1 x2 x3 x4 (zk h am μ ν)) := by
  unfold g_X10_tops_17 f_X10_tops_17
  refine sm_gq (off := 2) rfl ?_
  refine sm_ai (fun v24 => ?_)
  refine sm_if (fun c => ?_) (fun c => ?_)
  · exact sm_some rfl
  · refine sm_ob ?_
    refine sm_b sm_X10_topAt (fun v34 => ?_)
    exact sm_some rfl
set_option maxHeartbeats 4000000 in
set_option maxRecDepth 100000 in
theorem sm_X10_tops_4 {h : zz_H} {am : Nat} {x1 : Int32} {x2 : Int32} {x3 : Int32} {μ : zzM} {ν : zzN} : zLe id (g_X10_tops_4 x1 x2 x3 μ ν) (f_X10_tops_4 am x1 x2 x3 (zk h am μ ν)) := by
  unfold g_X10_tops_4 f_X10_tops_4
  refine sm_gq (off := 1) rfl ?_
  refine sm_ai (fun v10 => ?_)
  refine sm_if (fun c => ?_) (fun c => ?_)
  · exact sm_some rfl
  · refine sm_it0 (fun s => ?_)
    exact sm_X10_tops_17
set_option maxHeartbeats 4000000 in
set_option maxRecDepth 100000 in
theorem sm_X10_tops {h : zz_H} {am : Nat} {x1 : Int32} {μ : zzM} {ν : zzN} : zLe id (g_X10_tops x1 μ ν) (f_X10_tops am x1 (zk h am μ ν)) := by
  unfold g_X10_tops f_X10_tops
  refine sm_it0 (fun s => ?_)
  exact sm_X10_tops_4
set_option maxHeartbeats 4000000 in
set_option maxRecDepth 100000 in
theorem sm_X10_cover_207 {h : zz_H} {am : Nat} {x1 : Int32} {x2 : Int32} {x3 : Int32} {x4 : Int32} {x6 : Int32} {x7 : Int32} {s0 : Int32} {μ : zzM} {ν : zzN} : zLe (Sum.map (fun s : (Int32 × Int32 × zzM × zzN) => (s.1, s.2.1, zk h am s.2.2.1 s.2.2.2)) (fun r : (Int32 × zzM × zzN) => (r.1, zk h am r.2.1 r.2.2))) (g_X10_cover_207 x1 x2 x3 x4 x6 x7 s0 μ ν) (f_X10_cover_207 am x1 x2 x3 x4 x6 x7 s0 (some am) (zk h am μ ν)) := by
  unfold g_X10_cover_207 f_X10_cover_207
  refine sm_ob ?_
  refine sm_b1 sm_X10_isThrown (fun v208 m208 q208 => ?_)
  refine sm_if (fun c => ?_) (fun c => ?_)
  · refine sm_gq (off := 138) rfl ?_
    refine sm_aq (fun o221 => ?_)
    refine sm_si (fun m226 => ?_)
    exact sm_some rfl
  · exact sm_some rfl
set_option maxHeartbeats 4000000 in
set_option maxRecDepth 100000 in
theorem sm_X10_cover_173 {h : zz_H} {am : Nat} {x1 : Int32} {x2 : Int32} {x3 : Int32} {x4 : Int32} {x5 : Int32} {x6 : Int32} {μ : zzM} {ν : zzN} : zLe (Sum.map (fun s : (Int32 × Int32 × zzM × zzN) => (s.1, s.2.1, zk h am s.2.2.1 s.2.2.2)) (fun r : (Int32 × zzM × zzN) => (r.1, zk h am r.2.1 r.2.2))) (g_X10_cover_173 x1 x2 x3 x4 x5 x6 μ ν) (f_X10_cover_173 am x1 x2 x3 x4 x5 x6 (zk h am μ ν)) := by
  unfold g_X10_cover_173 f_X10_cover_173
  refine sm_gq (off := 1) rfl ?_
  refine sm_ai (fun v180 => ?_)
  refine sm_if (fun c => ?_) (fun c => ?_)
  · refine sm_gq (off := 171) rfl ?_
    refine sm_si (fun m247 => ?_)
    refine sm_gq (off := 143) rfl ?_
    refine sm_si (fun m255 => ?_)
    refine sm_gq (off := 144) rfl ?_
    refine sm_si (fun m262 => ?_)
    refine sm_gq (off := 145) rfl ?_
    refine sm_ob ?_
    refine sm_b sm_X10_tops (fun v270 => ?_)
    refine sm_si (fun m273 => ?_)
    refine sm_ob ?_
    refine sm_b1 sm_X10_done (fun v278 m278 q278 => ?_)
    exact sm_some rfl
  · refine sm_ob ?_
    refine sm_b sm_X10_placeFor (fun v191 => ?_)
    refine sm_if (fun c => ?_) (fun c => ?_)
    · exact sm_X10_cover_207
    · exact sm_X10_cover_207
set_option maxHeartbeats 4000000 in
set_option maxRecDepth 100000 in
theorem sm_X10_cover_109 {h : zz_H} {am : Nat} {x1 : Int32} {x2 : Int32} {x3 : Int32} {x4 : Int32} {x5 : Int32} {x6 : Int32} {μ : zzM} {ν : zzN} : zLe (Sum.map id (Sum.map id (fun r : (Int32 × zzM × zzN) => (r.1, zk h am r.2.1 r.2.2)))) (g_X10_cover_109 x1 x2 x3 x4 x5 x6 μ ν) (f_X10_cover_109 am x1 x2 x3 x4 x5 x6 (zk h am μ ν)) := by
  unfold g_X10_cover_109 f_X10_cover_109
  refine sm_gq (off := 2) rfl ?_
  refine sm_ai (fun v116 => ?_)
  refine sm_if (fun c => ?_) (fun c => ?_)
  · exact sm_some rfl
  · refine sm_ob ?_
    refine sm_b sm_X10_topAt (fun v128 => ?_)
    exact sm_some rfl
set_option maxHeartbeats 4000000 in
set_option maxRecDepth 100000 in
theorem sm_X10_cover_95 {h : zz_H} {am : Nat} {x1 : Int32} {x2 : Int32} {x3 : Int32} {x4 : Int32} {x5 : Int32} {μ : zzM} {ν : zzN} : zLe (Sum.map id (fun r : (Int32 × zzM × zzN) => (r.1, zk h am r.2.1 r.2.2))) (g_X10_cover_95 x1 x2 x3 x4 x5 μ ν) (f_X10_cover_95 am x1 x2 x3 x4 x5 (zk h am μ ν)) := by
  unfold g_X10_cover_95 f_X10_cover_95
  refine sm_gq (off := 1) rfl ?_
  refine sm_ai (fun v102 => ?_)
  refine sm_if (fun c => ?_) (fun c => ?_)
  · refine sm_gq (off := 2) rfl ?_
    refine sm_ai (fun v157 => ?_)
    refine sm_gq (off := 171) rfl ?_
    refine sm_ai (fun v167 => ?_)
    refine sm_mapw1 ?_
    refine sm_it (cs := (fun s : (Int32 × Int32 × zzM × zzN) => (s.1, s.2.1, zk h am s.2.2.1 s.2.2.2))) (fun s => ?_)
    exact sm_X10_cover_173
  · refine sm_it (cs := id) (fun s => ?_)
    exact sm_X10_cover_109
set_option maxHeartbeats 4000000 in
set_option maxRecDepth 100000 in
theorem sm_X10_cover_87 {h : zz_H} {am : Nat} {μ : zzM} {ν : zzN} : zLe (fun r : (Int32 × zzM × zzN) => (r.1, zk h am r.2.1 r.2.2)) (g_X10_cover_87 μ ν) (f_X10_cover_87  (zk h am μ ν)) := by
  unfold g_X10_cover_87 f_X10_cover_87
  exact sm_some rfl
set_option maxHeartbeats 4000000 in
set_option maxRecDepth 100000 in
theorem sm_X10_cover_80 {h : zz_H} {am : Nat} {x1 : Int32} {x2 : Int32} {x3 : Int32} {s0 : Int32} {μ : zzM} {ν : zzN} : zLe (fun r : (Int32 × zzM × zzN) => (r.1, zk h am r.2.1 r.2.2)) (g_X10_cover_80 x1 x2 x3 s0 μ ν) (f_X10_cover_80 am x1 x2 x3 s0 (some am) (zk h am μ ν)) := by
  unfold g_X10_cover_80 f_X10_cover_80
  refine sm_ob ?_
  refine sm_b1 sm_X10_isThrown (fun v81 m81 q81 => ?_)
  refine sm_if (fun c => ?_) (fun c => ?_)
  · refine sm_it (cs := id) (fun s => ?_)
    exact sm_X10_cover_95
  · exact sm_X10_cover_87
set_option maxHeartbeats 4000000 in
set_option maxRecDepth 100000 in
theorem sm_X10_cover_57 {h : zz_H} {am : Nat} {x1 : Int32} {x2 : Int32} {x3 : Int32} {s0 : Int32} {μ : zzM} {ν : zzN} : zLe (fun r : (Int32 × zzM × zzN) => (r.1, zk h am r.2.1 r.2.2)) (g_X10_cover_57 x1 x2 x3 s0 μ ν) (f_X10_cover_57 am x1 x2 x3 s0 (some am) (zk h am μ ν)) := by
  unfold g_X10_cover_57 f_X10_cover_57
  refine sm_ob ?_
  refine sm_b1 sm_X10_isThrown (fun v58 m58 q58 => ?_)
  refine sm_if (fun c => ?_) (fun c => ?_)
  · refine sm_ob ?_
    refine sm_b sm_X10_mayCome (fun v69 => ?_)
    refine sm_if (fun c => ?_) (fun c => ?_)
    · exact sm_X10_cover_80
    · exact sm_X10_cover_80
  · exact sm_X10_cover_87
set_option maxHeartbeats 4000000 in
set_option maxRecDepth 100000 in
theorem sm_X10_cover_28 {h : zz_H} {am : Nat} {x1 : Int32} {x2 : Int32} {x3 : Int32} {s0 : Int32} {μ : zzM} {ν : zzN} : zLe (fun r : (Int32 × zzM × zzN) => (r.1, zk h am r.2.1 r.2.2)) (g_X10_cover_28 x1 x2 x3 s0 μ ν) (f_X10_cover_28 am x1 x2 x3 s0 (some am) (zk h am μ ν)) := by
  unfold g_X10_cover_28 f_X10_cover_28
  refine sm_ob ?_
  refine sm_b1 sm_X10_isThrown (fun v29 m29 q29 => ?_)
  refine sm_if (fun c => ?_) (fun c => ?_)
  · refine sm_gq (off := 170) rfl ?_
    refine sm_ai (fun v43 => ?_)
    refine sm_b sm_X10_isIn (fun v46 => ?_)
    refine sm_if (fun c => ?_) (fun c => ?_)
    · exact sm_X10_cover_57
    · exact sm_X10_cover_57
  · exact sm_X10_cover_87
set_option maxHeartbeats 4000000 in
set_option maxRecDepth 100000 in
theorem sm_X10_cover_23 {h : zz_H} {am : Nat} {x1 : Int32} {x2 : Int32} {x3 : Int32} {μ : zzM} {ν : zzN} : zLe (fun r : (Int32 × zzM × zzN) => (r.1, zk h am r.2.1 r.2.2)) (g_X10_cover_23 x1 x2 x3 μ ν) (f_X10_cover_23 am x1 x2 x3 (some am) (zk h am μ ν)) := by
  unfold g_X10_cover_23 f_X10_cover_23
  exact sm_X10_cover_28
set_option maxHeartbeats 4000000 in
set_option maxRecDepth 100000 in
theorem sm_X10_cover {h : zz_H} {am : Nat} {x1 : Int32} {x2 : Int32} {x3 : Int32} {μ : zzM} {ν : zzN} : zLe (fun r : (Int32 × zzM × zzN) => (r.1, zk h am r.2.1 r.2.2)) (g_X10_cover x1 x2 x3 μ ν) (f_X10_cover am x1 x2 x3 (zk h am μ ν)) := by
  unfold g_X10_cover f_X10_cover
  refine sm_ob ?_
  refine sm_b sm_X10_isNoSeat (fun v3 => ?_)
  refine sm_if (fun c => ?_) (fun c => ?_)
  · refine sm_gi (by decide) ?_
    refine sm_b sm_X10_isIn (fun v17 => ?_)
    refine sm_if (fun c => ?_) (fun c => ?_)
    · exact sm_X10_cover_23
    · exact sm_X10_cover_28
  · exact sm_X10_cover_23
set_option maxHeartbeats 4000000 in
set_option maxRecDepth 100000 in
theorem sm_X10_sign_26 {h : zz_H} {am : Nat} {μ : zzM} {ν : zzN} : zLe (fun r : (Int32 × zzM × zzN) => (r.1, zk h am r.2.1 r.2.2)) (g_X10_sign_26 μ ν) (f_X10_sign_26  (zk h am μ ν)) := by
  unfold g_X10_sign_26 f_X10_sign_26
  exact sm_some rfl
set_option maxHeartbeats 4000000 in
set_option maxRecDepth 100000 in
theorem sm_X10_sign {h : zz_H} {am : Nat} {x1 : Int32} {μ : zzM} {ν : zzN} : zLe (fun r : (Int32 × zzM × zzN) => (r.1, zk h am r.2.1 r.2.2)) (g_X10_sign x1 μ ν) (f_X10_sign am x1 (zk h am μ ν)) := by
  unfold g_X10_sign f_X10_sign
  refine sm_ob ?_
  refine sm_b sm_X10_isNoSeat (fun v3 => ?_)
  refine sm_ob ?_
  refine sm_b1 sm_X10_isThrown (fun v7 m7 q7 => ?_)
  refine sm_if (fun c => ?_) (fun c => ?_)
  · refine sm_ob ?_
    refine sm_b sm_X10_isLastSigned (fun v16 => ?_)
    refine sm_ob ?_
    refine sm_b1 sm_X10_isThrown (fun v20 m20 q20 => ?_)
    refine sm_if (fun c => ?_) (fun c => ?_)
    · refine sm_gq (off := 9) rfl ?_
      refine sm_aq (fun o33 => ?_)
      refine sm_gq (off := 3) rfl ?_
      refine sm_ai (fun v39 => ?_)
      refine sm_si (fun m43 => ?_)
      refine sm_gq (off := 3) rfl ?_
      refine sm_ai (fun v49 => ?_)
      exact sm_some rfl
    · exact sm_X10_sign_26
  · exact sm_X10_sign_26
set_option maxHeartbeats 4000000 in
set_option maxRecDepth 100000 in
theorem sm_X10_open_153 {h : zz_H} {am : Nat} {x1 : Int32} {x2 : Int32} {x3 : Int32} {μ : zzM} {ν : zzN} : zLe (Sum.map (fun s : (zzM × zzN) => zk h am s.1 s.2) (fun r : (Int32 × zzM × zzN) => (r.1, zk h am r.2.1 r.2.2))) (g_X10_open_153 x1 x2 x3 μ ν) (f_X10_open_153 am x1 x2 x3 (zk h am μ ν)) := by
  unfold g_X10_open_153 f_X10_open_153
  refine sm_gq (off := 3) rfl ?_
  refine sm_ai (fun v159 => ?_)
  refine sm_si (fun m162 => ?_)
  exact sm_some rfl
set_option maxHeartbeats 4000000 in
set_option maxRecDepth 100000 in
theorem sm_X10_open_121 {h : zz_H} {am : Nat} {x1 : Int32} {x2 : Int32} {x3 : Int32} {x4 : Int32} {x5 : Int32} {x6 : Int32} {μ : zzM} {ν : zzN} : zLe (Sum.map (fun s : (Int32 × zzM × zzN) => (s.1, zk h am s.2.1 s.2.2)) (Sum.map (fun s : (Int32 × zzM × zzN) => (s.1, zk h am s.2.1 s.2.2)) (Sum.map (fun s : (zzM × zzN) => zk h am s.1 s.2) (fun r : (Int32 × zzM × zzN) => (r.1, zk h am r.2.1 r.2.2))))) (g_X10_open_121 x1 x2 x3 x4 x5 x6 μ ν) (f_X10_open_121 am x1 x2 x3 x4 x5 x6 (zk h am μ ν)) := by
  unfold g_X10_open_121 f_X10_open_121
  refine sm_if (fun c => ?_) (fun c => ?_)
  · exact sm_some rfl
  · refine sm_gq (off := 109) rfl ?_
    refine sm_aq (fun o133 => ?_)
    refine sm_aq (fun o136 => ?_)
    refine sm_si (fun m140 => ?_)
    exact sm_some rfl
set_option maxHeartbeats 4000000 in
set_option maxRecDepth 100000 in
theorem sm_X10_open_104 {h : zz_H} {am : Nat} {x1 : Int32} {x2 : Int32} {x3 : Int32} {x4 : Int32} {x5 : Int32} {μ : zzM} {ν : zzN} : zLe (Sum.map (fun s : (Int32 × zzM × zzN) => (s.1, zk h am s.2.1 s.2.2)) (Sum.map (fun s : (zzM × zzN) => zk h am s.1 s.2) (fun r : (Int32 × zzM × zzN) => (r.1, zk h am r.2.1 r.2.2)))) (g_X10_open_104 x1 x2 x3 x4 x5 μ ν) (f_X10_open_104 am x1 x2 x3 x4 x5 (zk h am μ ν)) := by
  unfold g_X10_open_104 f_X10_open_104
  refine sm_if (fun c => ?_) (fun c => ?_)
  · refine sm_mapw1 ?_
    exact sm_X10_open_153
  · refine sm_if (fun c => ?_) (fun c => ?_)
    · refine sm_it (cs := (fun s : (Int32 × zzM × zzN) => (s.1, zk h am s.2.1 s.2.2))) (fun s => ?_)
      exact sm_X10_open_121
    · refine sm_mapw1 ?_
      exact sm_X10_open_153
set_option maxHeartbeats 4000000 in
set_option maxRecDepth 100000 in
theorem sm_X10_open_101 {h : zz_H} {am : Nat} {x1 : Int32} {x2 : Int32} {x3 : Int32} {x4 : Int32} {μ : zzM} {ν : zzN} : zLe (Sum.map (fun s : (zzM × zzN) => zk h am s.1 s.2) (fun r : (Int32 × zzM × zzN) => (r.1, zk h am r.2.1 r.2.2))) (g_X10_open_101 x1 x2 x3 x4 μ ν) (f_X10_open_101 am x1 x2 x3 x4 (zk h am μ ν)) := by
  unfold g_X10_open_101 f_X10_open_101
  refine sm_it (cs := (fun s : (Int32 × zzM × zzN) => (s.1, zk h am s.2.1 s.2.2))) (fun s => ?_)
  exact sm_X10_open_104
set_option maxHeartbeats 4000000 in
set_option maxRecDepth 100000 in
theorem sm_X10_open_87 {h : zz_H} {am : Nat} {x1 : Int32} {x2 : Int32} {x3 : Int32} {x4 : Int32} {s0 : Int32} {s1 : Int32} {s2 : Int32} {s3 : Nat} {μ : zzM} {ν : zzN} : zLe (Sum.map (fun s : (zzM × zzN) => zk h am s.1 s.2) (fun r : (Int32 × zzM × zzN) => (r.1, zk h am r.2.1 r.2.2))) (g_X10_open_87 x1 x2 x3 x4 s0 s1 s2 s3 μ ν) (f_X10_open_87 am x1 x2 x3 x4 s0 s1 s2 (some (am + s3)) (zk h am μ ν)) := by
  unfold g_X10_open_87 f_X10_open_87
  refine sm_si (fun m88 => ?_)
  refine sm_if (fun c => ?_) (fun c => ?_)
  · refine sm_ob ?_
    refine sm_b1 sm_X10_loosen (fun u98 m98 q98 => ?_)
    exact sm_X10_open_101
  · exact sm_X10_open_101
set_option maxHeartbeats 4000000 in
set_option maxRecDepth 100000 in
theorem sm_X10_open_51 {h : zz_H} {am : Nat} {x1 : Int32} {x2 : Int32} {x3 : Int32} {μ : zzM} {ν : zzN} : zLe (Sum.map (fun s : (zzM × zzN) => zk h am s.1 s.2) (fun r : (Int32 × zzM × zzN) => (r.1, zk h am r.2.1 r.2.2))) (g_X10_open_51 x1 x2 x3 μ ν) (f_X10_open_51 am x1 x2 x3 (zk h am μ ν)) := by
  unfold g_X10_open_51 f_X10_open_51
  refine sm_gq (off := 3) rfl ?_
  refine sm_ai (fun v56 => ?_)
  refine sm_if (fun c => ?_) (fun c => ?_)
  · exact sm_some rfl
  · refine sm_ob ?_
    refine sm_b sm_X10_last (fun v63 => ?_)
    refine sm_gq (off := 83) rfl ?_
    refine sm_ai (fun v74 => ?_)
    refine sm_if (fun c => ?_) (fun c => ?_)
    · exact sm_X10_open_87
    · exact sm_X10_open_87
set_option maxHeartbeats 4000000 in
set_option maxRecDepth 100000 in
theorem sm_X10_open_40 {h : zz_H} {am : Nat} {μ : zzM} {ν : zzN} : zLe (fun r : (Int32 × zzM × zzN) => (r.1, zk h am r.2.1 r.2.2)) (g_X10_open_40 μ ν) (f_X10_open_40  (zk h am μ ν)) := by
  unfold g_X10_open_40 f_X10_open_40
  exact sm_some rfl
set_option maxHeartbeats 4000000 in
set_option maxRecDepth 100000 in
theorem sm_X10_open_33 {h : zz_H} {am : Nat} {x1 : Int32} {x2 : Int32} {s0 : Int32} {μ : zzM} {ν : zzN} : zLe (fun r : (Int32 × zzM × zzN) => (r.1, zk h am r.2.1 r.2.2)) (g_X10_open_33 x1 x2 s0 μ ν) (f_X10_open_33 am x1 x2 s0 (some am) (zk h am μ ν)) := by
  unfold g_X10_open_33 f_X10_open_33
  refine sm_ob ?_
  refine sm_b1 sm_X10_isThrown (fun v34 m34 q34 => ?_)
  refine sm_if (fun c => ?_) (fun c => ?_)
  · refine sm_gq (off := 3) rfl ?_
    refine sm_ai (fun v47 => ?_)
    refine sm_it (cs := (fun s : (zzM × zzN) => zk h am s.1 s.2)) (fun s => ?_)
    exact sm_X10_open_51
  · exact sm_X10_open_40
set_option maxHeartbeats 4000000 in
set_option maxRecDepth 100000 in
theorem sm_X10_open {h : zz_H} {am : Nat} {x1 : Int32} {x2 : Int32} {μ : zzM} {ν : zzN} : zLe (fun r : (Int32 × zzM × zzN) => (r.1, zk h am r.2.1 r.2.2)) (g_X10_open x1 x2 μ ν) (f_X10_open am x1 x2 (zk h am μ ν)) := by
  unfold g_X10_open f_X10_open
  refine sm_ob ?_
  refine sm_b sm_X10_isNoSeat (fun v3 => ?_)
  refine sm_ob ?_
  refine sm_b1 sm_X10_isThrown (fun v7 m7 q7 => ?_)
  refine sm_if (fun c => ?_) (fun c => ?_)
  · refine sm_gq (off := 3) rfl ?_
    refine sm_ai (fun v21 => ?_)
    refine sm_b sm_X10_isIn (fun v22 => ?_)
    refine sm_if (fun c => ?_) (fun c => ?_)
    · exact sm_X10_open_33
    · exact sm_X10_open_33
  · exact sm_X10_open_40
set_option maxHeartbeats 4000000 in
set_option maxRecDepth 100000 in
theorem sm_X10_steps_23 {h : zz_H} {am : Nat} {s0 : Int32} {μ : zzM} {ν : zzN} : zLe (fun r : (Int32 × zzM × zzN) => (r.1, zk h am r.2.1 r.2.2)) (g_X10_steps_23 s0 μ ν) (f_X10_steps_23 s0 (zk h am μ ν)) := by
  unfold g_X10_steps_23 f_X10_steps_23
  exact sm_some rfl
set_option maxHeartbeats 4000000 in
set_option maxRecDepth 100000 in
theorem sm_X10_steps {h : zz_H} {am : Nat} {x1 : Int32} {μ : zzM} {ν : zzN} : zLe (fun r : (Int32 × zzM × zzN) => (r.1, zk h am r.2.1 r.2.2)) (g_X10_steps x1 μ ν) (f_X10_steps am x1 (zk h am μ ν)) := by
  unfold g_X10_steps f_X10_steps
  refine sm_ob ?_
  refine sm_b sm_X10_isNoSeat (fun v3 => ?_)
  refine sm_ob ?_
  refine sm_b1 sm_X10_isThrown (fun v7 m7 q7 => ?_)
  refine sm_if (fun c => ?_) (fun c => ?_)
  · refine sm_gq (off := 3) rfl ?_
    refine sm_ai (fun v22 => ?_)
    exact sm_X10_steps_23
  · exact sm_X10_steps_23
set_option maxHeartbeats 4000000 in
set_option maxRecDepth 100000 in
theorem sm_X10_isNoStep_47 {h : zz_H} {am : Nat} {s0 : Int32} {μ : zzM} {ν : zzN} : zLe (fun r : (Int32 × zzM × zzN) => (r.1, zk h am r.2.1 r.2.2)) (g_X10_isNoStep_47 s0 μ ν) (f_X10_isNoStep_47 s0 (zk h am μ ν)) := by
  unfold g_X10_isNoStep_47 f_X10_isNoStep_47
  refine sm_gz ?_
  exact sm_some rfl
set_option maxHeartbeats 4000000 in
set_option maxRecDepth 100000 in
theorem sm_X10_isNoStep_42 {h : zz_H} {am : Nat} {μ : zzM} {ν : zzN} : zLe (fun r : (Int32 × zzM × zzN) => (r.1, zk h am r.2.1 r.2.2)) (g_X10_isNoStep_42 μ ν) (f_X10_isNoStep_42  (zk h am μ ν)) := by
  unfold g_X10_isNoStep_42 f_X10_isNoStep_42
  exact sm_X10_isNoStep_47
set_option maxHeartbeats 4000000 in
set_option maxRecDepth 100000 in
theorem sm_X10_isNoStep_35 {h : zz_H} {am : Nat} {s0 : Int32} {μ : zzM} {ν : zzN} : zLe (fun r : (Int32 × zzM × zzN) => (r.1, zk h am r.2.1 r.2.2)) (g_X10_isNoStep_35 s0 μ ν) (f_X10_isNoStep_35 s0 (some am) (zk h am μ ν)) := by
  unfold g_X10_isNoStep_35 f_X10_isNoStep_35
  refine sm_ob ?_
  refine sm_b1 sm_X10_isThrown (fun v36 m36 q36 => ?_)
  refine sm_if (fun c => ?_) (fun c => ?_)
  · exact sm_X10_isNoStep_47
  · exact sm_X10_isNoStep_42
set_option maxHeartbeats 4000000 in
set_option maxRecDepth 100000 in
theorem sm_X10_isNoStep {h : zz_H} {am : Nat} {x1 : Int32} {x2 : Int32} {μ : zzM} {ν : zzN} : zLe (fun r : (Int32 × zzM × zzN) => (r.1, zk h am r.2.1 r.2.2)) (g_X10_isNoStep x1 x2 μ ν) (f_X10_isNoStep am x1 x2 (zk h am μ ν)) := by
  unfold g_X10_isNoStep f_X10_isNoStep
  refine sm_ob ?_
  refine sm_b sm_X10_isNoSeat (fun v3 => ?_)
  refine sm_ob ?_
  refine sm_b1 sm_X10_isThrown (fun v7 m7 q7 => ?_)
  refine sm_if (fun c => ?_) (fun c => ?_)
  · refine sm_gq (off := 3) rfl ?_
    refine sm_ai (fun v21 => ?_)
    refine sm_b sm_X10_isIn (fun v24 => ?_)
    refine sm_if (fun c => ?_) (fun c => ?_)
    · exact sm_X10_isNoStep_35
    · exact sm_X10_isNoStep_35
  · exact sm_X10_isNoStep_42
set_option maxHeartbeats 4000000 in
set_option maxRecDepth 100000 in
theorem sm_X10_step_22 {h : zz_H} {am : Nat} {s0 : Int32} {μ : zzM} {ν : zzN} : zLe (fun r : (Int32 × zzM × zzN) => (r.1, zk h am r.2.1 r.2.2)) (g_X10_step_22 s0 μ ν) (f_X10_step_22 s0 (zk h am μ ν)) := by
  unfold g_X10_step_22 f_X10_step_22
  refine sm_gc ?_
  exact sm_some rfl
set_option maxHeartbeats 4000000 in
set_option maxRecDepth 100000 in
theorem sm_X10_step {h : zz_H} {am : Nat} {x1 : Int32} {x2 : Int32} {μ : zzM} {ν : zzN} : zLe (fun r : (Int32 × zzM × zzN) => (r.1, zk h am r.2.1 r.2.2)) (g_X10_step x1 x2 μ ν) (f_X10_step am x1 x2 (zk h am μ ν)) := by
  unfold g_X10_step f_X10_step
  refine sm_ob ?_
  refine sm_b1 sm_X10_isNoStep (fun v3 m3 q3 => ?_)
  refine sm_if (fun c => ?_) (fun c => ?_)
  · refine sm_gq (off := 4) rfl ?_
    refine sm_aq (fun o19 => ?_)
    refine sm_ai (fun v21 => ?_)
    exact sm_X10_step_22
  · exact sm_X10_step_22
set_option maxHeartbeats 4000000 in
set_option maxRecDepth 100000 in
theorem sm_X10_isSigned_25 {h : zz_H} {am : Nat} {s0 : Int32} {μ : zzM} {ν : zzN} : zLe (fun r : (Int32 × zzM × zzN) => (r.1, zk h am r.2.1 r.2.2)) (g_X10_isSigned_25 s0 μ ν) (f_X10_isSigned_25 s0 (zk h am μ ν)) := by
  unfold g_X10_isSigned_25 f_X10_isSigned_25
  refine sm_gz ?_
  exact sm_some rfl
set_option maxHeartbeats 4000000 in
set_option maxRecDepth 100000 in
theorem sm_X10_isSigned_24 {h : zz_H} {am : Nat} {μ : zzM} {ν : zzN} : zLe (fun r : (Int32 × zzM × zzN) => (r.1, zk h am r.2.1 r.2.2)) (g_X10_isSigned_24 μ ν) (f_X10_isSigned_24  (zk h am μ ν)) := by
  unfold g_X10_isSigned_24 f_X10_isSigned_24
  exact sm_X10_isSigned_25
set_option maxHeartbeats 4000000 in
set_option maxRecDepth 100000 in
theorem sm_X10_isSigned {h : zz_H} {am : Nat} {x1 : Int32} {x2 : Int32} {μ : zzM} {ν : zzN} : zLe (fun r : (Int32 × zzM × zzN) => (r.1, zk h am r.2.1 r.2.2)) (g_X10_isSigned x1 x2 μ ν) (f_X10_isSigned am x1 x2 (zk h am μ ν)) := by
  unfold g_X10_isSigned f_X10_isSigned
  refine sm_ob ?_
  refine sm_b1 sm_X10_isNoStep (fun v3 m3 q3 => ?_)
  refine sm_if (fun c => ?_) (fun c => ?_)
  · refine sm_gq (off := 9) rfl ?_
    refine sm_aq (fun o14 => ?_)
    refine sm_ai (fun v16 => ?_)
    refine sm_if (fun c => ?_) (fun c => ?_)
    · exact sm_X10_isSigned_24
    · exact sm_X10_isSigned_25
  · exact sm_X10_isSigned_24
set_option maxHeartbeats 4000000 in
set_option maxRecDepth 100000 in
theorem sm_X10_isClosed_28 {h : zz_H} {am : Nat} {s0 : Int32} {μ : zzM} {ν : zzN} : zLe (fun r : (Int32 × zzM × zzN) => (r.1, zk h am r.2.1 r.2.2)) (g_X10_isClosed_28 s0 μ ν) (f_X10_isClosed_28 s0 (zk h am μ ν)) := by
  unfold g_X10_isClosed_28 f_X10_isClosed_28
  refine sm_gz ?_
  exact sm_some rfl
set_option maxHeartbeats 4000000 in
set_option maxRecDepth 100000 in
theorem sm_X10_isClosed_27 {h : zz_H} {am : Nat} {μ : zzM} {ν : zzN} : zLe (fun r : (Int32 × zzM × zzN) => (r.1, zk h am r.2.1 r.2.2)) (g_X10_isClosed_27 μ ν) (f_X10_isClosed_27  (zk h am μ ν)) := by
  unfold g_X10_isClosed_27 f_X10_isClosed_27
  exact sm_X10_isClosed_28
set_option maxHeartbeats 4000000 in
set_option maxRecDepth 100000 in
theorem sm_X10_isClosed {h : zz_H} {am : Nat} {x1 : Int32} {μ : zzM} {ν : zzN} : zLe (fun r : (Int32 × zzM × zzN) => (r.1, zk h am r.2.1 r.2.2)) (g_X10_isClosed x1 μ ν) (f_X10_isClosed am x1 (zk h am μ ν)) := by
  unfold g_X10_isClosed f_X10_isClosed
  refine sm_ob ?_
  refine sm_b sm_X10_isNoSeat (fun v3 => ?_)
  refine sm_ob ?_
  refine sm_b1 sm_X10_isThrown (fun v7 m7 q7 => ?_)
  refine sm_if (fun c => ?_) (fun c => ?_)
  · refine sm_ob ?_
    refine sm_b sm_X10_last (fun v15 => ?_)
    refine sm_if (fun c => ?_) (fun c => ?_)
    · exact sm_X10_isClosed_28
    · exact sm_X10_isClosed_27
  · exact sm_X10_isClosed_27
set_option maxHeartbeats 4000000 in
set_option maxRecDepth 100000 in
theorem sm_X10_stands_31 {h : zz_H} {am : Nat} {s0 : Int32} {μ : zzM} {ν : zzN} : zLe (fun r : (Int32 × zzM × zzN) => (r.1, zk h am r.2.1 r.2.2)) (g_X10_stands_31 s0 μ ν) (f_X10_stands_31 s0 (zk h am μ ν)) := by
  unfold g_X10_stands_31 f_X10_stands_31
  exact sm_some rfl
set_option maxHeartbeats 4000000 in
set_option maxRecDepth 100000 in
theorem sm_X10_stands {h : zz_H} {am : Nat} {x1 : Int32} {x2 : Int32} {μ : zzM} {ν : zzN} : zLe (fun r : (Int32 × zzM × zzN) => (r.1, zk h am r.2.1 r.2.2)) (g_X10_stands x1 x2 μ ν) (f_X10_stands am x1 x2 (zk h am μ ν)) := by
  unfold g_X10_stands f_X10_stands
  refine sm_ob ?_
  refine sm_b sm_X10_isNoCell (fun v4 => ?_)
  refine sm_ob ?_
  refine sm_b1 sm_X10_isThrown (fun v8 m8 q8 => ?_)
  refine sm_if (fun c => ?_) (fun c => ?_)
  · refine sm_dv ?_
    refine sm_dv ?_
    refine sm_ob ?_
    refine sm_b sm_X10_standsAt (fun v28 => ?_)
    exact sm_X10_stands_31
  · exact sm_X10_stands_31
set_option maxHeartbeats 4000000 in
set_option maxRecDepth 100000 in
theorem sm_X10_isNoLayer_47 {h : zz_H} {am : Nat} {s0 : Int32} {μ : zzM} {ν : zzN} : zLe (fun r : (Int32 × zzM × zzN) => (r.1, zk h am r.2.1 r.2.2)) (g_X10_isNoLayer_47 s0 μ ν) (f_X10_isNoLayer_47 s0 (zk h am μ ν)) := by
  unfold g_X10_isNoLayer_47 f_X10_isNoLayer_47
  refine sm_gz ?_
  exact sm_some rfl
set_option maxHeartbeats 4000000 in
set_option maxRecDepth 100000 in
theorem sm_X10_isNoLayer_42 {h : zz_H} {am : Nat} {μ : zzM} {ν : zzN} : zLe (fun r : (Int32 × zzM × zzN) => (r.1, zk h am r.2.1 r.2.2)) (g_X10_isNoLayer_42 μ ν) (f_X10_isNoLayer_42  (zk h am μ ν)) := by
  unfold g_X10_isNoLayer_42 f_X10_isNoLayer_42
  exact sm_X10_isNoLayer_47
set_option maxHeartbeats 4000000 in
set_option maxRecDepth 100000 in
theorem sm_X10_isNoLayer_35 {h : zz_H} {am : Nat} {s0 : Int32} {μ : zzM} {ν : zzN} : zLe (fun r : (Int32 × zzM × zzN) => (r.1, zk h am r.2.1 r.2.2)) (g_X10_isNoLayer_35 s0 μ ν) (f_X10_isNoLayer_35 s0 (some am) (zk h am μ ν)) := by
  unfold g_X10_isNoLayer_35 f_X10_isNoLayer_35
  refine sm_ob ?_
  refine sm_b1 sm_X10_isThrown (fun v36 m36 q36 => ?_)
  refine sm_if (fun c => ?_) (fun c => ?_)
  · exact sm_X10_isNoLayer_47
  · exact sm_X10_isNoLayer_42
set_option maxHeartbeats 4000000 in
set_option maxRecDepth 100000 in
theorem sm_X10_isNoLayer {h : zz_H} {am : Nat} {x1 : Int32} {x2 : Int32} {μ : zzM} {ν : zzN} : zLe (fun r : (Int32 × zzM × zzN) => (r.1, zk h am r.2.1 r.2.2)) (g_X10_isNoLayer x1 x2 μ ν) (f_X10_isNoLayer am x1 x2 (zk h am μ ν)) := by
  unfold g_X10_isNoLayer f_X10_isNoLayer
  refine sm_ob ?_
  refine sm_b sm_X10_isNoSeat (fun v3 => ?_)
  refine sm_ob ?_
  refine sm_b1 sm_X10_isThrown (fun v7 m7 q7 => ?_)
  refine sm_if (fun c => ?_) (fun c => ?_)
  · refine sm_gq (off := 83) rfl ?_
    refine sm_ai (fun v21 => ?_)
    refine sm_b sm_X10_isIn (fun v24 => ?_)
    refine sm_if (fun c => ?_) (fun c => ?_)
    · exact sm_X10_isNoLayer_35
    · exact sm_X10_isNoLayer_35
  · exact sm_X10_isNoLayer_42
set_option maxHeartbeats 4000000 in
set_option maxRecDepth 100000 in
theorem sm_X10_thick_19 {h : zz_H} {am : Nat} {s0 : Int32} {μ : zzM} {ν : zzN} : zLe (fun r : (Int32 × zzM × zzN) => (r.1, zk h am r.2.1 r.2.2)) (g_X10_thick_19 s0 μ ν) (f_X10_thick_19 s0 (zk h am μ ν)) := by
  unfold g_X10_thick_19 f_X10_thick_19
  exact sm_some rfl
set_option maxHeartbeats 4000000 in
set_option maxRecDepth 100000 in
theorem sm_X10_thick {h : zz_H} {am : Nat} {x1 : Int32} {x2 : Int32} {μ : zzM} {ν : zzN} : zLe (fun r : (Int32 × zzM × zzN) => (r.1, zk h am r.2.1 r.2.2)) (g_X10_thick x1 x2 μ ν) (f_X10_thick am x1 x2 (zk h am μ ν)) := by
  unfold g_X10_thick f_X10_thick
  refine sm_ob ?_
  refine sm_b1 sm_X10_isNoLayer (fun v3 m3 q3 => ?_)
  refine sm_if (fun c => ?_) (fun c => ?_)
  · refine sm_ob ?_
    refine sm_b sm_X10_thickNow (fun v16 => ?_)
    exact sm_X10_thick_19
  · exact sm_X10_thick_19
set_option maxHeartbeats 4000000 in
set_option maxRecDepth 100000 in
theorem sm_X10_top_31 {h : zz_H} {am : Nat} {s0 : Int32} {μ : zzM} {ν : zzN} : zLe (fun r : (Int32 × zzM × zzN) => (r.1, zk h am r.2.1 r.2.2)) (g_X10_top_31 s0 μ ν) (f_X10_top_31 s0 (zk h am μ ν)) := by
  unfold g_X10_top_31 f_X10_top_31
  exact sm_some rfl
set_option maxHeartbeats 4000000 in
set_option maxRecDepth 100000 in
theorem sm_X10_top {h : zz_H} {am : Nat} {x1 : Int32} {x2 : Int32} {μ : zzM} {ν : zzN} : zLe (fun r : (Int32 × zzM × zzN) => (r.1, zk h am r.2.1 r.2.2)) (g_X10_top x1 x2 μ ν) (f_X10_top am x1 x2 (zk h am μ ν)) := by
  unfold g_X10_top f_X10_top
  refine sm_ob ?_
  refine sm_b sm_X10_isNoCell (fun v4 => ?_)
  refine sm_ob ?_
  refine sm_b1 sm_X10_isThrown (fun v8 m8 q8 => ?_)
  refine sm_if (fun c => ?_) (fun c => ?_)
  · refine sm_dv ?_
    refine sm_dv ?_
    refine sm_ob ?_
    refine sm_b sm_X10_topAt (fun v28 => ?_)
    exact sm_X10_top_31
  · exact sm_X10_top_31
set_option maxHeartbeats 4000000 in
set_option maxRecDepth 100000 in
theorem sm_X10_foldsBy_106 {h : zz_H} {am : Nat} {x1 : Int32} {x2 : Int32} {x3 : Int32} {x5 : Int32} {x6 : Int32} {s0 : Int32} {s1 : Int32} {μ : zzM} {ν : zzN} : zLe id (g_X10_foldsBy_106 x1 x2 x3 x5 x6 s0 s1 μ ν) (f_X10_foldsBy_106 am x1 x2 x3 x5 x6 s0 s1 (zk h am μ ν)) := by
  unfold g_X10_foldsBy_106 f_X10_foldsBy_106
  exact sm_some rfl
set_option maxHeartbeats 4000000 in
set_option maxRecDepth 100000 in
theorem sm_X10_foldsBy_105 {h : zz_H} {am : Nat} {x1 : Int32} {x2 : Int32} {x3 : Int32} {x5 : Int32} {x6 : Int32} {s0 : Int32} {μ : zzM} {ν : zzN} : zLe id (g_X10_foldsBy_105 x1 x2 x3 x5 x6 s0 μ ν) (f_X10_foldsBy_105 am x1 x2 x3 x5 x6 s0 (zk h am μ ν)) := by
  unfold g_X10_foldsBy_105 f_X10_foldsBy_105
  exact sm_X10_foldsBy_106
set_option maxHeartbeats 4000000 in
set_option maxRecDepth 100000 in
theorem sm_X10_foldsBy_101 {h : zz_H} {am : Nat} {x1 : Int32} {x2 : Int32} {x3 : Int32} {x5 : Int32} {x6 : Int32} {s0 : Int32} {μ : zzM} {ν : zzN} : zLe id (g_X10_foldsBy_101 x1 x2 x3 x5 x6 s0 μ ν) (f_X10_foldsBy_101 am x1 x2 x3 x5 x6 s0 (zk h am μ ν)) := by
  unfold g_X10_foldsBy_101 f_X10_foldsBy_101
  exact sm_X10_foldsBy_106
set_option maxHeartbeats 4000000 in
set_option maxRecDepth 100000 in
theorem sm_X10_foldsBy_71 {h : zz_H} {am : Nat} {x1 : Int32} {x2 : Int32} {x3 : Int32} {x4 : Int32} {x5 : Int32} {x6 : Int32} {x7 : Int32} {s0 : Int32} {μ : zzM} {ν : zzN} : zLe id (g_X10_foldsBy_71 x1 x2 x3 x4 x5 x6 x7 s0 μ ν) (f_X10_foldsBy_71 am x1 x2 x3 x4 x5 x6 x7 s0 (zk h am μ ν)) := by
  unfold g_X10_foldsBy_71 f_X10_foldsBy_71
  refine sm_if (fun c => ?_) (fun c => ?_)
  · exact sm_X10_foldsBy_105
  · refine sm_if (fun c => ?_) (fun c => ?_)
    · exact sm_X10_foldsBy_105
    · refine sm_if (fun c => ?_) (fun c => ?_)
      · exact sm_X10_foldsBy_101
      · refine sm_if (fun c => ?_) (fun c => ?_)
        · exact sm_X10_foldsBy_105
        · exact sm_X10_foldsBy_101
set_option maxHeartbeats 4000000 in
set_option maxRecDepth 100000 in
theorem sm_X10_foldsBy_18 {h : zz_H} {am : Nat} {x1 : Int32} {x2 : Int32} {x3 : Int32} {x4 : Int32} {x5 : Int32} {x6 : Int32} {μ : zzM} {ν : zzN} : zLe id (g_X10_foldsBy_18 x1 x2 x3 x4 x5 x6 μ ν) (f_X10_foldsBy_18 am x1 x2 x3 x4 x5 x6 (zk h am μ ν)) := by
  unfold g_X10_foldsBy_18 f_X10_foldsBy_18
  refine sm_if (fun c => ?_) (fun c => ?_)
  · exact sm_some rfl
  · refine sm_gq (off := 109) rfl ?_
    refine sm_aq (fun o30 => ?_)
    refine sm_aq (fun o33 => ?_)
    refine sm_ai (fun v36 => ?_)
    refine sm_b sm_X10_isIn (fun v45 => ?_)
    refine sm_if (fun c => ?_) (fun c => ?_)
    · exact sm_X10_foldsBy_71
    · refine sm_gq (off := 109) rfl ?_
      refine sm_aq (fun o56 => ?_)
      refine sm_aq (fun o61 => ?_)
      refine sm_ai (fun v66 => ?_)
      exact sm_X10_foldsBy_71
set_option maxHeartbeats 4000000 in
set_option maxRecDepth 100000 in
theorem sm_X10_foldsBy_6 {h : zz_H} {am : Nat} {x1 : Int32} {x2 : Int32} {x3 : Int32} {x4 : Int32} {x5 : Int32} {μ : zzM} {ν : zzN} : zLe id (g_X10_foldsBy_6 x1 x2 x3 x4 x5 μ ν) (f_X10_foldsBy_6 am x1 x2 x3 x4 x5 (zk h am μ ν)) := by
  unfold g_X10_foldsBy_6 f_X10_foldsBy_6
  refine sm_if (fun c => ?_) (fun c => ?_)
  · exact sm_some rfl
  · refine sm_it0 (fun s => ?_)
    exact sm_X10_foldsBy_18
set_option maxHeartbeats 4000000 in
set_option maxRecDepth 100000 in
theorem sm_X10_foldsBy {h : zz_H} {am : Nat} {x1 : Int32} {x2 : Int32} {x3 : Int32} {μ : zzM} {ν : zzN} : zLe id (g_X10_foldsBy x1 x2 x3 μ ν) (f_X10_foldsBy am x1 x2 x3 (zk h am μ ν)) := by
  unfold g_X10_foldsBy f_X10_foldsBy
  refine sm_it0 (fun s => ?_)
  exact sm_X10_foldsBy_6
set_option maxHeartbeats 4000000 in
set_option maxRecDepth 100000 in
theorem sm_X10_folds_32 {h : zz_H} {am : Nat} {s0 : Int32} {μ : zzM} {ν : zzN} : zLe (fun r : (Int32 × zzM × zzN) => (r.1, zk h am r.2.1 r.2.2)) (g_X10_folds_32 s0 μ ν) (f_X10_folds_32 s0 (zk h am μ ν)) := by
  unfold g_X10_folds_32 f_X10_folds_32
  exact sm_some rfl
set_option maxHeartbeats 4000000 in
set_option maxRecDepth 100000 in
theorem sm_X10_folds {h : zz_H} {am : Nat} {x1 : Int32} {x2 : Int32} {μ : zzM} {ν : zzN} : zLe (fun r : (Int32 × zzM × zzN) => (r.1, zk h am r.2.1 r.2.2)) (g_X10_folds x1 x2 μ ν) (f_X10_folds am x1 x2 (zk h am μ ν)) := by
  unfold g_X10_folds f_X10_folds
  refine sm_ob ?_
  refine sm_b sm_X10_isNoSeat (fun v3 => ?_)
  refine sm_ob ?_
  refine sm_b1 sm_X10_isThrown (fun v7 m7 q7 => ?_)
  refine sm_if (fun c => ?_) (fun c => ?_)
  · refine sm_ob ?_
    refine sm_b sm_X10_foldsBy (fun v21 => ?_)
    refine sm_ob ?_
    refine sm_b sm_X10_foldsBy (fun v28 => ?_)
    exact sm_X10_folds_32
  · exact sm_X10_folds_32
set_option maxHeartbeats 4000000 in
set_option maxRecDepth 100000 in
theorem sm_X10_buttonAt_55 {h : zz_H} {am : Nat} {s0 : Int32} {μ : zzM} {ν : zzN} : zLe (fun r : (Int32 × zzM × zzN) => (r.1, zk h am r.2.1 r.2.2)) (g_X10_buttonAt_55 s0 μ ν) (f_X10_buttonAt_55 s0 (zk h am μ ν)) := by
  unfold g_X10_buttonAt_55 f_X10_buttonAt_55
  exact sm_some rfl
set_option maxHeartbeats 4000000 in
set_option maxRecDepth 100000 in
theorem sm_X10_buttonAt_43 {h : zz_H} {am : Nat} {x3 : Int32} {s0 : Int32} {μ : zzM} {ν : zzN} : zLe (fun r : (Int32 × zzM × zzN) => (r.1, zk h am r.2.1 r.2.2)) (g_X10_buttonAt_43 x3 s0 μ ν) (f_X10_buttonAt_43 x3 s0 (some am) (zk h am μ ν)) := by
  unfold g_X10_buttonAt_43 f_X10_buttonAt_43
  refine sm_ob ?_
  refine sm_b1 sm_X10_isThrown (fun v44 m44 q44 => ?_)
  refine sm_if (fun c => ?_) (fun c => ?_)
  · exact sm_X10_buttonAt_55
  · exact sm_X10_buttonAt_55
set_option maxHeartbeats 4000000 in
set_option maxRecDepth 100000 in
theorem sm_X10_buttonAt {h : zz_H} {am : Nat} {x1 : Int32} {x2 : Int32} {μ : zzM} {ν : zzN} : zLe (fun r : (Int32 × zzM × zzN) => (r.1, zk h am r.2.1 r.2.2)) (g_X10_buttonAt x1 x2 μ ν) (f_X10_buttonAt am x1 x2 (zk h am μ ν)) := by
  unfold g_X10_buttonAt f_X10_buttonAt
  refine sm_ob ?_
  refine sm_b sm_X10_isNoCell (fun v4 => ?_)
  refine sm_ob ?_
  refine sm_b1 sm_X10_isThrown (fun v8 m8 q8 => ?_)
  refine sm_if (fun c => ?_) (fun c => ?_)
  · refine sm_gq (off := 109) rfl ?_
    refine sm_aq (fun o21 => ?_)
    refine sm_dv ?_
    refine sm_aq (fun o26 => ?_)
    refine sm_dv ?_
    refine sm_ai (fun v31 => ?_)
    refine sm_if (fun c => ?_) (fun c => ?_)
    · exact sm_X10_buttonAt_43
    · exact sm_X10_buttonAt_43
  · exact sm_some rfl
set_option maxHeartbeats 4000000 in
set_option maxRecDepth 100000 in
theorem sm_X10_body_14 {h : zz_H} {am : Nat} {s0 : Int32} {μ : zzM} {ν : zzN} : zLe (fun r : (Int32 × zzM × zzN) => (r.1, zk h am r.2.1 r.2.2)) (g_X10_body_14 s0 μ ν) (f_X10_body_14 am s0 (some am) (zk h am μ ν)) := by
  unfold g_X10_body_14 f_X10_body_14
  refine sm_ob ?_
  refine sm_b1 sm_X10_isThrown (fun v15 m15 q15 => ?_)
  refine sm_if (fun c => ?_) (fun c => ?_)
  · refine sm_gi (by decide) ?_
    refine sm_p (by decide) ?_
    refine sm_gi (by decide) ?_
    exact sm_some rfl
  · exact sm_some rfl
set_option maxHeartbeats 4000000 in
set_option maxRecDepth 100000 in
theorem sm_X10_body {h : zz_H} {am : Nat} {μ : zzM} {ν : zzN} : zLe (fun r : (Int32 × zzM × zzN) => (r.1, zk h am r.2.1 r.2.2)) (g_X10_body μ ν) (f_X10_body am (zk h am μ ν)) := by
  unfold g_X10_body f_X10_body
  refine sm_gi (by decide) ?_
  refine sm_if (fun c => ?_) (fun c => ?_)
  · exact sm_X10_body_14
  · exact sm_X10_body_14
set_option maxHeartbeats 4000000 in
set_option maxRecDepth 100000 in
theorem sm_X10_isNoBody_19 {h : zz_H} {am : Nat} {s0 : Int32} {μ : zzM} {ν : zzN} : zLe id (g_X10_isNoBody_19 s0 μ ν) (f_X10_isNoBody_19 s0 (zk h am μ ν)) := by
  unfold g_X10_isNoBody_19 f_X10_isNoBody_19
  refine sm_gz ?_
  exact sm_some rfl
set_option maxHeartbeats 4000000 in
set_option maxRecDepth 100000 in
theorem sm_X10_isNoBody {h : zz_H} {am : Nat} {x1 : Int32} {μ : zzM} {ν : zzN} : zLe id (g_X10_isNoBody x1 μ ν) (f_X10_isNoBody am x1 (zk h am μ ν)) := by
  unfold g_X10_isNoBody f_X10_isNoBody
  refine sm_gi (by decide) ?_
  refine sm_b sm_X10_isIn (fun v8 => ?_)
  refine sm_if (fun c => ?_) (fun c => ?_)
  · exact sm_X10_isNoBody_19
  · exact sm_X10_isNoBody_19
set_option maxHeartbeats 4000000 in
set_option maxRecDepth 100000 in
theorem sm_X10_mass_78 {h : zz_H} {am : Nat} {μ : zzM} {ν : zzN} : zLe (fun r : (Int32 × zzM × zzN) => (r.1, zk h am r.2.1 r.2.2)) (g_X10_mass_78 μ ν) (f_X10_mass_78  (zk h am μ ν)) := by
  unfold g_X10_mass_78 f_X10_mass_78
  exact sm_some rfl
set_option maxHeartbeats 4000000 in
set_option maxRecDepth 100000 in
theorem sm_X10_mass_71 {h : zz_H} {am : Nat} {x1 : Int32} {x2 : Int32} {x3 : Int32} {s0 : Int32} {μ : zzM} {ν : zzN} : zLe (fun r : (Int32 × zzM × zzN) => (r.1, zk h am r.2.1 r.2.2)) (g_X10_mass_71 x1 x2 x3 s0 μ ν) (f_X10_mass_71 am x1 x2 x3 s0 (some am) (zk h am μ ν)) := by
  unfold g_X10_mass_71 f_X10_mass_71
  refine sm_ob ?_
  refine sm_b1 sm_X10_isThrown (fun v72 m72 q72 => ?_)
  refine sm_if (fun c => ?_) (fun c => ?_)
  · refine sm_gq (off := 147) rfl ?_
    refine sm_aq (fun o85 => ?_)
    refine sm_dv ?_
    refine sm_aq (fun o90 => ?_)
    refine sm_dv ?_
    refine sm_ai (fun v95 => ?_)
    refine sm_gq (off := 147) rfl ?_
    refine sm_aq (fun o103 => ?_)
    refine sm_dv ?_
    refine sm_aq (fun o108 => ?_)
    refine sm_dv ?_
    refine sm_si (fun m114 => ?_)
    exact sm_some rfl
  · exact sm_X10_mass_78
set_option maxHeartbeats 4000000 in
set_option maxRecDepth 100000 in
theorem sm_X10_mass_48 {h : zz_H} {am : Nat} {x1 : Int32} {x2 : Int32} {x3 : Int32} {s0 : Int32} {μ : zzM} {ν : zzN} : zLe (fun r : (Int32 × zzM × zzN) => (r.1, zk h am r.2.1 r.2.2)) (g_X10_mass_48 x1 x2 x3 s0 μ ν) (f_X10_mass_48 am x1 x2 x3 s0 (some am) (zk h am μ ν)) := by
  unfold g_X10_mass_48 f_X10_mass_48
  refine sm_ob ?_
  refine sm_b1 sm_X10_isThrown (fun v49 m49 q49 => ?_)
  refine sm_if (fun c => ?_) (fun c => ?_)
  · refine sm_b sm_X10_isIn (fun v60 => ?_)
    refine sm_if (fun c => ?_) (fun c => ?_)
    · exact sm_X10_mass_71
    · exact sm_X10_mass_71
  · exact sm_X10_mass_78
set_option maxHeartbeats 4000000 in
set_option maxRecDepth 100000 in
theorem sm_X10_mass_43 {h : zz_H} {am : Nat} {x1 : Int32} {x2 : Int32} {x3 : Int32} {μ : zzM} {ν : zzN} : zLe (fun r : (Int32 × zzM × zzN) => (r.1, zk h am r.2.1 r.2.2)) (g_X10_mass_43 x1 x2 x3 μ ν) (f_X10_mass_43 am x1 x2 x3 (some am) (zk h am μ ν)) := by
  unfold g_X10_mass_43 f_X10_mass_43
  exact sm_X10_mass_48
set_option maxHeartbeats 4000000 in
set_option maxRecDepth 100000 in
theorem sm_X10_mass_27 {h : zz_H} {am : Nat} {x1 : Int32} {x2 : Int32} {x3 : Int32} {s0 : Int32} {μ : zzM} {ν : zzN} : zLe (fun r : (Int32 × zzM × zzN) => (r.1, zk h am r.2.1 r.2.2)) (g_X10_mass_27 x1 x2 x3 s0 μ ν) (f_X10_mass_27 am x1 x2 x3 s0 (zk h am μ ν)) := by
  unfold g_X10_mass_27 f_X10_mass_27
  refine sm_ob ?_
  refine sm_b sm_X10_isNoBody (fun v32 => ?_)
  refine sm_if (fun c => ?_) (fun c => ?_)
  · refine sm_if (fun c => ?_) (fun c => ?_)
    · exact sm_X10_mass_43
    · exact sm_X10_mass_48
  · exact sm_X10_mass_43
set_option maxHeartbeats 4000000 in
set_option maxRecDepth 100000 in
theorem sm_X10_mass_26 {h : zz_H} {am : Nat} {x1 : Int32} {x2 : Int32} {x3 : Int32} {μ : zzM} {ν : zzN} : zLe (fun r : (Int32 × zzM × zzN) => (r.1, zk h am r.2.1 r.2.2)) (g_X10_mass_26 x1 x2 x3 μ ν) (f_X10_mass_26 am x1 x2 x3 (zk h am μ ν)) := by
  unfold g_X10_mass_26 f_X10_mass_26
  exact sm_X10_mass_27
set_option maxHeartbeats 4000000 in
set_option maxRecDepth 100000 in
theorem sm_X10_mass {h : zz_H} {am : Nat} {x1 : Int32} {x2 : Int32} {x3 : Int32} {μ : zzM} {ν : zzN} : zLe (fun r : (Int32 × zzM × zzN) => (r.1, zk h am r.2.1 r.2.2)) (g_X10_mass x1 x2 x3 μ ν) (f_X10_mass am x1 x2 x3 (zk h am μ ν)) := by
  unfold g_X10_mass f_X10_mass
  refine sm_if (fun c => ?_) (fun c => ?_)
  · exact sm_X10_mass_26
  · refine sm_dv ?_
    refine sm_if (fun c => ?_) (fun c => ?_)
    · exact sm_X10_mass_26
    · refine sm_dv ?_
      refine sm_if (fun c => ?_) (fun c => ?_)
      · exact sm_X10_mass_26
      · exact sm_X10_mass_27
set_option maxHeartbeats 4000000 in
set_option maxRecDepth 100000 in
theorem sm_X10_own_53 {h : zz_H} {am : Nat} {x2 : Int32} {x5 : Int32} {x6 : Int32} {x7 : Int32} {μ : zzM} {ν : zzN} : zLe id (g_X10_own_53 x2 x5 x6 x7 μ ν) (f_X10_own_53 am x2 x5 x6 x7 (zk h am μ ν)) := by
  unfold g_X10_own_53 f_X10_own_53
  refine sm_gq (off := 83) rfl ?_
  refine sm_ai (fun v60 => ?_)
  refine sm_if (fun c => ?_) (fun c => ?_)
  · exact sm_some rfl
  · refine sm_ob ?_
    refine sm_b sm_X10_thickNow (fun v68 => ?_)
    refine sm_gq (off := 94) rfl ?_
    refine sm_aq (fun o89 => ?_)
    refine sm_ai (fun v92 => ?_)
    refine sm_dv ?_
    exact sm_some rfl
set_option maxHeartbeats 4000000 in
set_option maxRecDepth 100000 in
theorem sm_X10_own {h : zz_H} {am : Nat} {x1 : Int32} {x2 : Int32} {x3 : Int32} {x4 : Int32} {μ : zzM} {ν : zzN} : zLe id (g_X10_own x1 x2 x3 x4 μ ν) (f_X10_own am x1 x2 x3 x4 (zk h am μ ν)) := by
  unfold g_X10_own f_X10_own
  refine sm_gq (off := 147) rfl ?_
  refine sm_aq (fun o5 => ?_)
  refine sm_aq (fun o7 => ?_)
  refine sm_ai (fun v10 => ?_)
  refine sm_ob ?_
  refine sm_b sm_X10_standsAt (fun v18 => ?_)
  refine sm_gq (off := 44) rfl ?_
  refine sm_aq (fun o31 => ?_)
  refine sm_aq (fun o33 => ?_)
  refine sm_ai (fun v36 => ?_)
  refine sm_gq (off := 14) rfl ?_
  refine sm_ai (fun v42 => ?_)
  refine sm_dv ?_
  refine sm_it0 (fun s => ?_)
  exact sm_X10_own_53
set_option maxHeartbeats 4000000 in
set_option maxRecDepth 100000 in
theorem sm_X10_sinking_20 {h : zz_H} {am : Nat} {x1 : Int32} {x2 : Int32} {x3 : Int32} {x4 : Int32} {x5 : Int32} {x6 : Int32} {x7 : Int32} {μ : zzM} {ν : zzN} : zLe id (g_X10_sinking_20 x1 x2 x3 x4 x5 x6 x7 μ ν) (f_X10_sinking_20 am x1 x2 x3 x4 x5 x6 x7 (zk h am μ ν)) := by
  unfold g_X10_sinking_20 f_X10_sinking_20
  refine sm_gq (off := 2) rfl ?_
  refine sm_ai (fun v27 => ?_)
  refine sm_if (fun c => ?_) (fun c => ?_)
  · exact sm_some rfl
  · refine sm_ob ?_
    refine sm_b sm_X10_own (fun v40 => ?_)
    exact sm_some rfl
set_option maxHeartbeats 4000000 in
set_option maxRecDepth 100000 in
theorem sm_X10_sinking_6 {h : zz_H} {am : Nat} {x1 : Int32} {x2 : Int32} {x3 : Int32} {x4 : Int32} {x5 : Int32} {x6 : Int32} {μ : zzM} {ν : zzN} : zLe id (g_X10_sinking_6 x1 x2 x3 x4 x5 x6 μ ν) (f_X10_sinking_6 am x1 x2 x3 x4 x5 x6 (zk h am μ ν)) := by
  unfold g_X10_sinking_6 f_X10_sinking_6
  refine sm_gq (off := 1) rfl ?_
  refine sm_ai (fun v13 => ?_)
  refine sm_if (fun c => ?_) (fun c => ?_)
  · exact sm_some rfl
  · refine sm_it0 (fun s => ?_)
    exact sm_X10_sinking_20
set_option maxHeartbeats 4000000 in
set_option maxRecDepth 100000 in
theorem sm_X10_sinking {h : zz_H} {am : Nat} {x1 : Int32} {x2 : Int32} {x3 : Int32} {x4 : Int32} {μ : zzM} {ν : zzN} : zLe id (g_X10_sinking x1 x2 x3 x4 μ ν) (f_X10_sinking am x1 x2 x3 x4 (zk h am μ ν)) := by
  unfold g_X10_sinking f_X10_sinking
  refine sm_it0 (fun s => ?_)
  exact sm_X10_sinking_6
set_option maxHeartbeats 4000000 in
set_option maxRecDepth 100000 in
theorem sm_X10_pressing {h : zz_H} {am : Nat} {x1 : Int32} {x2 : Int32} {x3 : Int32} {x4 : Int32} {μ : zzM} {ν : zzN} : zLe id (g_X10_pressing x1 x2 x3 x4 μ ν) (f_X10_pressing am x1 x2 x3 x4 (zk h am μ ν)) := by
  unfold g_X10_pressing f_X10_pressing
  refine sm_gq (off := 147) rfl ?_
  refine sm_aq (fun o7 => ?_)
  refine sm_aq (fun o9 => ?_)
  refine sm_ai (fun v12 => ?_)
  refine sm_ob ?_
  refine sm_b sm_X10_sinking (fun v22 => ?_)
  refine sm_dv ?_
  exact sm_some rfl
set_option maxHeartbeats 4000000 in
set_option maxRecDepth 100000 in
theorem sm_X10_sinks_69 {h : zz_H} {am : Nat} {s0 : Int32} {μ : zzM} {ν : zzN} : zLe (fun r : (Int32 × zzM × zzN) => (r.1, zk h am r.2.1 r.2.2)) (g_X10_sinks_69 s0 μ ν) (f_X10_sinks_69 s0 (zk h am μ ν)) := by
  unfold g_X10_sinks_69 f_X10_sinks_69
  exact sm_some rfl
set_option maxHeartbeats 4000000 in
set_option maxRecDepth 100000 in
theorem sm_X10_sinks_51 {h : zz_H} {am : Nat} {μ : zzM} {ν : zzN} : zLe (fun r : (Int32 × zzM × zzN) => (r.1, zk h am r.2.1 r.2.2)) (g_X10_sinks_51 μ ν) (f_X10_sinks_51  (zk h am μ ν)) := by
  unfold g_X10_sinks_51 f_X10_sinks_51
  exact sm_X10_sinks_69
set_option maxHeartbeats 4000000 in
set_option maxRecDepth 100000 in
theorem sm_X10_sinks_44 {h : zz_H} {am : Nat} {x1 : Int32} {x2 : Int32} {x3 : Int32} {s0 : Int32} {μ : zzM} {ν : zzN} : zLe (fun r : (Int32 × zzM × zzN) => (r.1, zk h am r.2.1 r.2.2)) (g_X10_sinks_44 x1 x2 x3 s0 μ ν) (f_X10_sinks_44 am x1 x2 x3 s0 (some am) (zk h am μ ν)) := by
  unfold g_X10_sinks_44 f_X10_sinks_44
  refine sm_ob ?_
  refine sm_b1 sm_X10_isThrown (fun v45 m45 q45 => ?_)
  refine sm_if (fun c => ?_) (fun c => ?_)
  · refine sm_dv ?_
    refine sm_dv ?_
    refine sm_ob ?_
    refine sm_b sm_X10_sinking (fun v66 => ?_)
    exact sm_X10_sinks_69
  · exact sm_X10_sinks_51
set_option maxHeartbeats 4000000 in
set_option maxRecDepth 100000 in
theorem sm_X10_sinks_23 {h : zz_H} {am : Nat} {x1 : Int32} {x2 : Int32} {x3 : Int32} {s0 : Int32} {μ : zzM} {ν : zzN} : zLe (fun r : (Int32 × zzM × zzN) => (r.1, zk h am r.2.1 r.2.2)) (g_X10_sinks_23 x1 x2 x3 s0 μ ν) (f_X10_sinks_23 am x1 x2 x3 s0 (some am) (zk h am μ ν)) := by
  unfold g_X10_sinks_23 f_X10_sinks_23
  refine sm_ob ?_
  refine sm_b1 sm_X10_isThrown (fun v24 m24 q24 => ?_)
  refine sm_if (fun c => ?_) (fun c => ?_)
  · refine sm_ob ?_
    refine sm_b sm_X10_hasSprings (fun v33 => ?_)
    refine sm_if (fun c => ?_) (fun c => ?_)
    · exact sm_X10_sinks_44
    · exact sm_X10_sinks_44
  · exact sm_X10_sinks_51
set_option maxHeartbeats 4000000 in
set_option maxRecDepth 100000 in
theorem sm_X10_sinks_18 {h : zz_H} {am : Nat} {x1 : Int32} {x2 : Int32} {x3 : Int32} {μ : zzM} {ν : zzN} : zLe (fun r : (Int32 × zzM × zzN) => (r.1, zk h am r.2.1 r.2.2)) (g_X10_sinks_18 x1 x2 x3 μ ν) (f_X10_sinks_18 am x1 x2 x3 (some am) (zk h am μ ν)) := by
  unfold g_X10_sinks_18 f_X10_sinks_18
  exact sm_X10_sinks_23
set_option maxHeartbeats 4000000 in
set_option maxRecDepth 100000 in
theorem sm_X10_sinks {h : zz_H} {am : Nat} {x1 : Int32} {x2 : Int32} {x3 : Int32} {μ : zzM} {ν : zzN} : zLe (fun r : (Int32 × zzM × zzN) => (r.1, zk h am r.2.1 r.2.2)) (g_X10_sinks x1 x2 x3 μ ν) (f_X10_sinks am x1 x2 x3 (zk h am μ ν)) := by
  unfold g_X10_sinks f_X10_sinks
  refine sm_ob ?_
  refine sm_b sm_X10_isNoBody (fun v3 => ?_)
  refine sm_if (fun c => ?_) (fun c => ?_)
  · refine sm_ob ?_
    refine sm_b sm_X10_isNoCell (fun v12 => ?_)
    refine sm_if (fun c => ?_) (fun c => ?_)
    · exact sm_X10_sinks_23
    · exact sm_X10_sinks_18
  · exact sm_X10_sinks_18
set_option maxHeartbeats 4000000 in
set_option maxRecDepth 100000 in
theorem sm_X10_pressure_69 {h : zz_H} {am : Nat} {s0 : Int32} {μ : zzM} {ν : zzN} : zLe (fun r : (Int32 × zzM × zzN) => (r.1, zk h am r.2.1 r.2.2)) (g_X10_pressure_69 s0 μ ν) (f_X10_pressure_69 s0 (zk h am μ ν)) := by
  unfold g_X10_pressure_69 f_X10_pressure_69
  exact sm_some rfl
set_option maxHeartbeats 4000000 in
set_option maxRecDepth 100000 in
theorem sm_X10_pressure_51 {h : zz_H} {am : Nat} {μ : zzM} {ν : zzN} : zLe (fun r : (Int32 × zzM × zzN) => (r.1, zk h am r.2.1 r.2.2)) (g_X10_pressure_51 μ ν) (f_X10_pressure_51  (zk h am μ ν)) := by
  unfold g_X10_pressure_51 f_X10_pressure_51
  exact sm_X10_pressure_69
set_option maxHeartbeats 4000000 in
set_option maxRecDepth 100000 in
theorem sm_X10_pressure_44 {h : zz_H} {am : Nat} {x1 : Int32} {x2 : Int32} {x3 : Int32} {s0 : Int32} {μ : zzM} {ν : zzN} : zLe (fun r : (Int32 × zzM × zzN) => (r.1, zk h am r.2.1 r.2.2)) (g_X10_pressure_44 x1 x2 x3 s0 μ ν) (f_X10_pressure_44 am x1 x2 x3 s0 (some am) (zk h am μ ν)) := by
  unfold g_X10_pressure_44 f_X10_pressure_44
  refine sm_ob ?_
  refine sm_b1 sm_X10_isThrown (fun v45 m45 q45 => ?_)
  refine sm_if (fun c => ?_) (fun c => ?_)
  · refine sm_dv ?_
    refine sm_dv ?_
    refine sm_ob ?_
    refine sm_b sm_X10_pressing (fun v66 => ?_)
    exact sm_X10_pressure_69
  · exact sm_X10_pressure_51
set_option maxHeartbeats 4000000 in
set_option maxRecDepth 100000 in
theorem sm_X10_pressure_23 {h : zz_H} {am : Nat} {x1 : Int32} {x2 : Int32} {x3 : Int32} {s0 : Int32} {μ : zzM} {ν : zzN} : zLe (fun r : (Int32 × zzM × zzN) => (r.1, zk h am r.2.1 r.2.2)) (g_X10_pressure_23 x1 x2 x3 s0 μ ν) (f_X10_pressure_23 am x1 x2 x3 s0 (some am) (zk h am μ ν)) := by
  unfold g_X10_pressure_23 f_X10_pressure_23
  refine sm_ob ?_
  refine sm_b1 sm_X10_isThrown (fun v24 m24 q24 => ?_)
  refine sm_if (fun c => ?_) (fun c => ?_)
  · refine sm_ob ?_
    refine sm_b sm_X10_hasSprings (fun v33 => ?_)
    refine sm_if (fun c => ?_) (fun c => ?_)
    · exact sm_X10_pressure_44
    · exact sm_X10_pressure_44
  · exact sm_X10_pressure_51
set_option maxHeartbeats 4000000 in
set_option maxRecDepth 100000 in
theorem sm_X10_pressure_18 {h : zz_H} {am : Nat} {x1 : Int32} {x2 : Int32} {x3 : Int32} {μ : zzM} {ν : zzN} : zLe (fun r : (Int32 × zzM × zzN) => (r.1, zk h am r.2.1 r.2.2)) (g_X10_pressure_18 x1 x2 x3 μ ν) (f_X10_pressure_18 am x1 x2 x3 (some am) (zk h am μ ν)) := by
  unfold g_X10_pressure_18 f_X10_pressure_18
  exact sm_X10_pressure_23
set_option maxHeartbeats 4000000 in
set_option maxRecDepth 100000 in
theorem sm_X10_pressure {h : zz_H} {am : Nat} {x1 : Int32} {x2 : Int32} {x3 : Int32} {μ : zzM} {ν : zzN} : zLe (fun r : (Int32 × zzM × zzN) => (r.1, zk h am r.2.1 r.2.2)) (g_X10_pressure x1 x2 x3 μ ν) (f_X10_pressure am x1 x2 x3 (zk h am μ ν)) := by
  unfold g_X10_pressure f_X10_pressure
  refine sm_ob ?_
  refine sm_b sm_X10_isNoBody (fun v3 => ?_)
  refine sm_if (fun c => ?_) (fun c => ?_)
  · refine sm_ob ?_
    refine sm_b sm_X10_isNoCell (fun v12 => ?_)
    refine sm_if (fun c => ?_) (fun c => ?_)
    · exact sm_X10_pressure_23
    · exact sm_X10_pressure_18
  · exact sm_X10_pressure_18
set_option maxHeartbeats 4000000 in
set_option maxRecDepth 100000 in
theorem sm_X10_comfort_118 {h : zz_H} {am : Nat} {x1 : Int32} {x2 : Int32} {x4 : Int32} {x5 : Int32} {s0 : Int32} {s1 : Int32} {μ : zzM} {ν : zzN} : zLe (Sum.map id (Sum.map id (fun r : (Int32 × zzM × zzN) => (r.1, zk h am r.2.1 r.2.2)))) (g_X10_comfort_118 x1 x2 x4 x5 s0 s1 μ ν) (f_X10_comfort_118 am x1 x2 x4 x5 s0 s1 (zk h am μ ν)) := by
  unfold g_X10_comfort_118 f_X10_comfort_118
  exact sm_some rfl
set_option maxHeartbeats 4000000 in
set_option maxRecDepth 100000 in
theorem sm_X10_comfort_117 {h : zz_H} {am : Nat} {x1 : Int32} {x2 : Int32} {x4 : Int32} {x5 : Int32} {s0 : Int32} {μ : zzM} {ν : zzN} : zLe (Sum.map id (Sum.map id (fun r : (Int32 × zzM × zzN) => (r.1, zk h am r.2.1 r.2.2)))) (g_X10_comfort_117 x1 x2 x4 x5 s0 μ ν) (f_X10_comfort_117 am x1 x2 x4 x5 s0 (zk h am μ ν)) := by
  unfold g_X10_comfort_117 f_X10_comfort_117
  exact sm_X10_comfort_118
set_option maxHeartbeats 4000000 in
set_option maxRecDepth 100000 in
theorem sm_X10_comfort_71 {h : zz_H} {am : Nat} {x1 : Int32} {x2 : Int32} {x3 : Int32} {x4 : Int32} {x5 : Int32} {μ : zzM} {ν : zzN} : zLe (Sum.map id (Sum.map id (fun r : (Int32 × zzM × zzN) => (r.1, zk h am r.2.1 r.2.2)))) (g_X10_comfort_71 x1 x2 x3 x4 x5 μ ν) (f_X10_comfort_71 am x1 x2 x3 x4 x5 (zk h am μ ν)) := by
  unfold g_X10_comfort_71 f_X10_comfort_71
  refine sm_gq (off := 2) rfl ?_
  refine sm_ai (fun v78 => ?_)
  refine sm_if (fun c => ?_) (fun c => ?_)
  · exact sm_some rfl
  · refine sm_gq (off := 147) rfl ?_
    refine sm_aq (fun o88 => ?_)
    refine sm_aq (fun o91 => ?_)
    refine sm_ai (fun v94 => ?_)
    refine sm_if (fun c => ?_) (fun c => ?_)
    · exact sm_X10_comfort_117
    · refine sm_ob ?_
      refine sm_b sm_X10_pressing (fun v105 => ?_)
      refine sm_if (fun c => ?_) (fun c => ?_)
      · exact sm_X10_comfort_117
      · exact sm_X10_comfort_118
set_option maxHeartbeats 4000000 in
set_option maxRecDepth 100000 in
theorem sm_X10_comfort_57 {h : zz_H} {am : Nat} {x1 : Int32} {x2 : Int32} {x3 : Int32} {x4 : Int32} {μ : zzM} {ν : zzN} : zLe (Sum.map id (fun r : (Int32 × zzM × zzN) => (r.1, zk h am r.2.1 r.2.2))) (g_X10_comfort_57 x1 x2 x3 x4 μ ν) (f_X10_comfort_57 am x1 x2 x3 x4 (zk h am μ ν)) := by
  unfold g_X10_comfort_57 f_X10_comfort_57
  refine sm_gq (off := 1) rfl ?_
  refine sm_ai (fun v64 => ?_)
  refine sm_if (fun c => ?_) (fun c => ?_)
  · exact sm_some rfl
  · refine sm_it (cs := id) (fun s => ?_)
    exact sm_X10_comfort_71
set_option maxHeartbeats 4000000 in
set_option maxRecDepth 100000 in
theorem sm_X10_comfort_50 {h : zz_H} {am : Nat} {μ : zzM} {ν : zzN} : zLe (fun r : (Int32 × zzM × zzN) => (r.1, zk h am r.2.1 r.2.2)) (g_X10_comfort_50 μ ν) (f_X10_comfort_50  (zk h am μ ν)) := by
  unfold g_X10_comfort_50 f_X10_comfort_50
  exact sm_some rfl
set_option maxHeartbeats 4000000 in
set_option maxRecDepth 100000 in
theorem sm_X10_comfort_43 {h : zz_H} {am : Nat} {x1 : Int32} {x2 : Int32} {s0 : Int32} {μ : zzM} {ν : zzN} : zLe (fun r : (Int32 × zzM × zzN) => (r.1, zk h am r.2.1 r.2.2)) (g_X10_comfort_43 x1 x2 s0 μ ν) (f_X10_comfort_43 am x1 x2 s0 (some am) (zk h am μ ν)) := by
  unfold g_X10_comfort_43 f_X10_comfort_43
  refine sm_ob ?_
  refine sm_b1 sm_X10_isThrown (fun v44 m44 q44 => ?_)
  refine sm_if (fun c => ?_) (fun c => ?_)
  · refine sm_it (cs := id) (fun s => ?_)
    exact sm_X10_comfort_57
  · exact sm_X10_comfort_50
set_option maxHeartbeats 4000000 in
set_option maxRecDepth 100000 in
theorem sm_X10_comfort_22 {h : zz_H} {am : Nat} {x1 : Int32} {x2 : Int32} {s0 : Int32} {μ : zzM} {ν : zzN} : zLe (fun r : (Int32 × zzM × zzN) => (r.1, zk h am r.2.1 r.2.2)) (g_X10_comfort_22 x1 x2 s0 μ ν) (f_X10_comfort_22 am x1 x2 s0 (some am) (zk h am μ ν)) := by
  unfold g_X10_comfort_22 f_X10_comfort_22
  refine sm_ob ?_
  refine sm_b1 sm_X10_isThrown (fun v23 m23 q23 => ?_)
  refine sm_if (fun c => ?_) (fun c => ?_)
  · refine sm_ob ?_
    refine sm_b sm_X10_hasSprings (fun v32 => ?_)
    refine sm_if (fun c => ?_) (fun c => ?_)
    · exact sm_X10_comfort_43
    · exact sm_X10_comfort_43
  · exact sm_X10_comfort_50
set_option maxHeartbeats 4000000 in
set_option maxRecDepth 100000 in
theorem sm_X10_comfort_17 {h : zz_H} {am : Nat} {x1 : Int32} {x2 : Int32} {μ : zzM} {ν : zzN} : zLe (fun r : (Int32 × zzM × zzN) => (r.1, zk h am r.2.1 r.2.2)) (g_X10_comfort_17 x1 x2 μ ν) (f_X10_comfort_17 am x1 x2 (some am) (zk h am μ ν)) := by
  unfold g_X10_comfort_17 f_X10_comfort_17
  exact sm_X10_comfort_22
set_option maxHeartbeats 4000000 in
set_option maxRecDepth 100000 in
theorem sm_X10_comfort {h : zz_H} {am : Nat} {x1 : Int32} {x2 : Int32} {μ : zzM} {ν : zzN} : zLe (fun r : (Int32 × zzM × zzN) => (r.1, zk h am r.2.1 r.2.2)) (g_X10_comfort x1 x2 μ ν) (f_X10_comfort am x1 x2 (zk h am μ ν)) := by
  unfold g_X10_comfort f_X10_comfort
  refine sm_ob ?_
  refine sm_b sm_X10_isNoBody (fun v3 => ?_)
  refine sm_if (fun c => ?_) (fun c => ?_)
  · refine sm_ob ?_
    refine sm_b sm_X10_isNoSeat (fun v11 => ?_)
    refine sm_if (fun c => ?_) (fun c => ?_)
    · exact sm_X10_comfort_22
    · exact sm_X10_comfort_17
  · exact sm_X10_comfort_17
set_option maxHeartbeats 4000000 in
set_option maxRecDepth 100000 in
theorem sm_X10_fit_80 {h : zz_H} {am : Nat} {x1 : Int32} {x2 : Int32} {x3 : Int32} {x4 : Int32} {x5 : Int32} {x6 : Int32} {μ : zzM} {ν : zzN} : zLe (Sum.map id (Sum.map id (fun r : (Int32 × zzM × zzN) => (r.1, zk h am r.2.1 r.2.2)))) (g_X10_fit_80 x1 x2 x3 x4 x5 x6 μ ν) (f_X10_fit_80 am x1 x2 x3 x4 x5 x6 (zk h am μ ν)) := by
  unfold g_X10_fit_80 f_X10_fit_80
  refine sm_gq (off := 2) rfl ?_
  refine sm_ai (fun v87 => ?_)
  refine sm_if (fun c => ?_) (fun c => ?_)
  · exact sm_some rfl
  · refine sm_ob ?_
    refine sm_b sm_X10_sinking (fun v100 => ?_)
    refine sm_ob ?_
    refine sm_b sm_X10_sinking (fun v110 => ?_)
    exact sm_some rfl
set_option maxHeartbeats 4000000 in
set_option maxRecDepth 100000 in
theorem sm_X10_fit_66 {h : zz_H} {am : Nat} {x1 : Int32} {x2 : Int32} {x3 : Int32} {x4 : Int32} {x5 : Int32} {μ : zzM} {ν : zzN} : zLe (Sum.map id (fun r : (Int32 × zzM × zzN) => (r.1, zk h am r.2.1 r.2.2))) (g_X10_fit_66 x1 x2 x3 x4 x5 μ ν) (f_X10_fit_66 am x1 x2 x3 x4 x5 (zk h am μ ν)) := by
  unfold g_X10_fit_66 f_X10_fit_66
  refine sm_gq (off := 1) rfl ?_
  refine sm_ai (fun v73 => ?_)
  refine sm_if (fun c => ?_) (fun c => ?_)
  · exact sm_some rfl
  · refine sm_it (cs := id) (fun s => ?_)
    exact sm_X10_fit_80
set_option maxHeartbeats 4000000 in
set_option maxRecDepth 100000 in
theorem sm_X10_fit_58 {h : zz_H} {am : Nat} {μ : zzM} {ν : zzN} : zLe (fun r : (Int32 × zzM × zzN) => (r.1, zk h am r.2.1 r.2.2)) (g_X10_fit_58 μ ν) (f_X10_fit_58  (zk h am μ ν)) := by
  unfold g_X10_fit_58 f_X10_fit_58
  exact sm_some rfl
set_option maxHeartbeats 4000000 in
set_option maxRecDepth 100000 in
theorem sm_X10_fit_51 {h : zz_H} {am : Nat} {x1 : Int32} {x2 : Int32} {x3 : Int32} {s0 : Int32} {μ : zzM} {ν : zzN} : zLe (fun r : (Int32 × zzM × zzN) => (r.1, zk h am r.2.1 r.2.2)) (g_X10_fit_51 x1 x2 x3 s0 μ ν) (f_X10_fit_51 am x1 x2 x3 s0 (some am) (zk h am μ ν)) := by
  unfold g_X10_fit_51 f_X10_fit_51
  refine sm_ob ?_
  refine sm_b1 sm_X10_isThrown (fun v52 m52 q52 => ?_)
  refine sm_if (fun c => ?_) (fun c => ?_)
  · refine sm_it (cs := id) (fun s => ?_)
    exact sm_X10_fit_66
  · exact sm_X10_fit_58
set_option maxHeartbeats 4000000 in
set_option maxRecDepth 100000 in
theorem sm_X10_fit_30 {h : zz_H} {am : Nat} {x1 : Int32} {x2 : Int32} {x3 : Int32} {s0 : Int32} {μ : zzM} {ν : zzN} : zLe (fun r : (Int32 × zzM × zzN) => (r.1, zk h am r.2.1 r.2.2)) (g_X10_fit_30 x1 x2 x3 s0 μ ν) (f_X10_fit_30 am x1 x2 x3 s0 (some am) (zk h am μ ν)) := by
  unfold g_X10_fit_30 f_X10_fit_30
  refine sm_ob ?_
  refine sm_b1 sm_X10_isThrown (fun v31 m31 q31 => ?_)
  refine sm_if (fun c => ?_) (fun c => ?_)
  · refine sm_ob ?_
    refine sm_b sm_X10_hasSprings (fun v40 => ?_)
    refine sm_if (fun c => ?_) (fun c => ?_)
    · exact sm_X10_fit_51
    · exact sm_X10_fit_51
  · exact sm_X10_fit_58
set_option maxHeartbeats 4000000 in
set_option maxRecDepth 100000 in
theorem sm_X10_fit_25 {h : zz_H} {am : Nat} {x1 : Int32} {x2 : Int32} {x3 : Int32} {μ : zzM} {ν : zzN} : zLe (fun r : (Int32 × zzM × zzN) => (r.1, zk h am r.2.1 r.2.2)) (g_X10_fit_25 x1 x2 x3 μ ν) (f_X10_fit_25 am x1 x2 x3 (some am) (zk h am μ ν)) := by
  unfold g_X10_fit_25 f_X10_fit_25
  exact sm_X10_fit_30
set_option maxHeartbeats 4000000 in
set_option maxRecDepth 100000 in
theorem sm_X10_fit {h : zz_H} {am : Nat} {x1 : Int32} {x2 : Int32} {x3 : Int32} {μ : zzM} {ν : zzN} : zLe (fun r : (Int32 × zzM × zzN) => (r.1, zk h am r.2.1 r.2.2)) (g_X10_fit x1 x2 x3 μ ν) (f_X10_fit am x1 x2 x3 (zk h am μ ν)) := by
  unfold g_X10_fit f_X10_fit
  refine sm_ob ?_
  refine sm_b sm_X10_isNoBody (fun v3 => ?_)
  refine sm_if (fun c => ?_) (fun c => ?_)
  · refine sm_ob ?_
    refine sm_b sm_X10_isNoBody (fun v11 => ?_)
    refine sm_if (fun c => ?_) (fun c => ?_)
    · refine sm_ob ?_
      refine sm_b sm_X10_isNoSeat (fun v19 => ?_)
      refine sm_if (fun c => ?_) (fun c => ?_)
      · exact sm_X10_fit_30
      · exact sm_X10_fit_25
    · exact sm_X10_fit_25
  · exact sm_X10_fit_25
set_option maxHeartbeats 4000000 in
set_option maxRecDepth 100000 in
theorem sm_X10_cloth_56 {h : zz_H} {am : Nat} {μ : zzM} {ν : zzN} : zLe (fun r : (Int32 × zzM × zzN) => (r.1, zk h am r.2.1 r.2.2)) (g_X10_cloth_56 μ ν) (f_X10_cloth_56  (zk h am μ ν)) := by
  unfold g_X10_cloth_56 f_X10_cloth_56
  exact sm_some rfl
set_option maxHeartbeats 4000000 in
set_option maxRecDepth 100000 in
theorem sm_X10_cloth_49 {h : zz_H} {am : Nat} {x1 : Int32} {x2 : Int32} {s0 : Int32} {μ : zzM} {ν : zzN} : zLe (fun r : (Int32 × zzM × zzN) => (r.1, zk h am r.2.1 r.2.2)) (g_X10_cloth_49 x1 x2 s0 μ ν) (f_X10_cloth_49 am x1 x2 s0 (some am) (zk h am μ ν)) := by
  unfold g_X10_cloth_49 f_X10_cloth_49
  refine sm_ob ?_
  refine sm_b1 sm_X10_isThrown (fun v50 m50 q50 => ?_)
  refine sm_if (fun c => ?_) (fun c => ?_)
  · refine sm_gq (off := 169) rfl ?_
    refine sm_gi (by decide) ?_
    refine sm_si (fun m67 => ?_)
    refine sm_gq (off := 170) rfl ?_
    refine sm_gi (by decide) ?_
    refine sm_si (fun m77 => ?_)
    refine sm_gi (by decide) ?_
    refine sm_p (by decide) ?_
    refine sm_gi (by decide) ?_
    exact sm_some rfl
  · exact sm_X10_cloth_56
set_option maxHeartbeats 4000000 in
set_option maxRecDepth 100000 in
theorem sm_X10_cloth_28 {h : zz_H} {am : Nat} {x1 : Int32} {x2 : Int32} {s0 : Int32} {μ : zzM} {ν : zzN} : zLe (fun r : (Int32 × zzM × zzN) => (r.1, zk h am r.2.1 r.2.2)) (g_X10_cloth_28 x1 x2 s0 μ ν) (f_X10_cloth_28 am x1 x2 s0 (some am) (zk h am μ ν)) := by
  unfold g_X10_cloth_28 f_X10_cloth_28
  refine sm_ob ?_
  refine sm_b1 sm_X10_isThrown (fun v29 m29 q29 => ?_)
  refine sm_if (fun c => ?_) (fun c => ?_)
  · refine sm_gi (by decide) ?_
    refine sm_if (fun c => ?_) (fun c => ?_)
    · exact sm_X10_cloth_49
    · exact sm_X10_cloth_49
  · exact sm_X10_cloth_56
set_option maxHeartbeats 4000000 in
set_option maxRecDepth 100000 in
theorem sm_X10_cloth_23 {h : zz_H} {am : Nat} {x1 : Int32} {x2 : Int32} {μ : zzM} {ν : zzN} : zLe (fun r : (Int32 × zzM × zzN) => (r.1, zk h am r.2.1 r.2.2)) (g_X10_cloth_23 x1 x2 μ ν) (f_X10_cloth_23 am x1 x2 (some am) (zk h am μ ν)) := by
  unfold g_X10_cloth_23 f_X10_cloth_23
  exact sm_X10_cloth_28
set_option maxHeartbeats 4000000 in
set_option maxRecDepth 100000 in
theorem sm_X10_cloth {h : zz_H} {am : Nat} {x1 : Int32} {x2 : Int32} {μ : zzM} {ν : zzN} : zLe (fun r : (Int32 × zzM × zzN) => (r.1, zk h am r.2.1 r.2.2)) (g_X10_cloth x1 x2 μ ν) (f_X10_cloth am x1 x2 (zk h am μ ν)) := by
  unfold g_X10_cloth f_X10_cloth
  refine sm_b sm_X10_isIn (fun v7 => ?_)
  refine sm_if (fun c => ?_) (fun c => ?_)
  · exact sm_X10_cloth_23
  · refine sm_b sm_X10_isIn (fun v17 => ?_)
    refine sm_if (fun c => ?_) (fun c => ?_)
    · exact sm_X10_cloth_23
    · exact sm_X10_cloth_28
set_option maxHeartbeats 4000000 in
set_option maxRecDepth 100000 in
theorem sm_X10_flaw_135 {h : zz_H} {am : Nat} {μ : zzM} {ν : zzN} : zLe (fun r : (Int32 × zzM × zzN) => (r.1, zk h am r.2.1 r.2.2)) (g_X10_flaw_135 μ ν) (f_X10_flaw_135  (zk h am μ ν)) := by
  unfold g_X10_flaw_135 f_X10_flaw_135
  exact sm_some rfl
set_option maxHeartbeats 4000000 in
set_option maxRecDepth 100000 in
theorem sm_X10_flaw_128 {h : zz_H} {am : Nat} {x1 : Int32} {x2 : Int32} {s0 : Int32} {μ : zzM} {ν : zzN} : zLe (fun r : (Int32 × zzM × zzN) => (r.1, zk h am r.2.1 r.2.2)) (g_X10_flaw_128 x1 x2 s0 μ ν) (f_X10_flaw_128 am x1 x2 s0 (some am) (zk h am μ ν)) := by
  unfold g_X10_flaw_128 f_X10_flaw_128
  refine sm_ob ?_
  refine sm_b1 sm_X10_isThrown (fun v129 m129 q129 => ?_)
  refine sm_if (fun c => ?_) (fun c => ?_)
  · refine sm_gq (off := 173) rfl ?_
    refine sm_aq (fun o142 => ?_)
    refine sm_gq (off := 172) rfl ?_
    refine sm_ai (fun v148 => ?_)
    refine sm_si (fun m150 => ?_)
    refine sm_gq (off := 172) rfl ?_
    refine sm_ai (fun v157 => ?_)
    refine sm_si (fun m160 => ?_)
    refine sm_gq (off := 172) rfl ?_
    refine sm_ai (fun v166 => ?_)
    exact sm_some rfl
  · exact sm_X10_flaw_135
set_option maxHeartbeats 4000000 in
set_option maxRecDepth 100000 in
theorem sm_X10_flaw_94 {h : zz_H} {am : Nat} {x1 : Int32} {x2 : Int32} {x4 : Int32} {s0 : Int32} {s1 : Int32} {μ : zzM} {ν : zzN} : zLe (Sum.map id (fun r : (Int32 × zzM × zzN) => (r.1, zk h am r.2.1 r.2.2))) (g_X10_flaw_94 x1 x2 x4 s0 s1 μ ν) (f_X10_flaw_94 am x1 x2 x4 s0 s1 (zk h am μ ν)) := by
  unfold g_X10_flaw_94 f_X10_flaw_94
  exact sm_some rfl
set_option maxHeartbeats 4000000 in
set_option maxRecDepth 100000 in
theorem sm_X10_flaw_64 {h : zz_H} {am : Nat} {x1 : Int32} {x2 : Int32} {x3 : Int32} {x4 : Int32} {μ : zzM} {ν : zzN} : zLe (Sum.map id (fun r : (Int32 × zzM × zzN) => (r.1, zk h am r.2.1 r.2.2))) (g_X10_flaw_64 x1 x2 x3 x4 μ ν) (f_X10_flaw_64 am x1 x2 x3 x4 (zk h am μ ν)) := by
  unfold g_X10_flaw_64 f_X10_flaw_64
  refine sm_gq (off := 172) rfl ?_
  refine sm_ai (fun v71 => ?_)
  refine sm_if (fun c => ?_) (fun c => ?_)
  · refine sm_ob ?_
    refine sm_b1 sm_X10_isThrown (fun v105 m105 q105 => ?_)
    refine sm_if (fun c => ?_) (fun c => ?_)
    · refine sm_gq (off := 172) rfl ?_
      refine sm_ai (fun v117 => ?_)
      refine sm_if (fun c => ?_) (fun c => ?_)
      · refine sm_mapw1 ?_
        exact sm_X10_flaw_128
      · refine sm_mapw1 ?_
        exact sm_X10_flaw_128
    · refine sm_mapw1 ?_
      exact sm_X10_flaw_135
  · refine sm_gq (off := 173) rfl ?_
    refine sm_aq (fun o81 => ?_)
    refine sm_ai (fun v84 => ?_)
    refine sm_if (fun c => ?_) (fun c => ?_)
    · exact sm_X10_flaw_94
    · exact sm_X10_flaw_94
set_option maxHeartbeats 4000000 in
set_option maxRecDepth 100000 in
theorem sm_X10_flaw_60 {h : zz_H} {am : Nat} {x1 : Int32} {x2 : Int32} {s0 : Int32} {μ : zzM} {ν : zzN} : zLe (fun r : (Int32 × zzM × zzN) => (r.1, zk h am r.2.1 r.2.2)) (g_X10_flaw_60 x1 x2 s0 μ ν) (f_X10_flaw_60 am x1 x2 s0 (zk h am μ ν)) := by
  unfold g_X10_flaw_60 f_X10_flaw_60
  refine sm_it (cs := id) (fun s => ?_)
  exact sm_X10_flaw_64
set_option maxHeartbeats 4000000 in
set_option maxRecDepth 100000 in
theorem sm_X10_flaw_36 {h : zz_H} {am : Nat} {x1 : Int32} {x2 : Int32} {s0 : Int32} {μ : zzM} {ν : zzN} : zLe (fun r : (Int32 × zzM × zzN) => (r.1, zk h am r.2.1 r.2.2)) (g_X10_flaw_36 x1 x2 s0 μ ν) (f_X10_flaw_36 am x1 x2 s0 (some am) (zk h am μ ν)) := by
  unfold g_X10_flaw_36 f_X10_flaw_36
  refine sm_ob ?_
  refine sm_b1 sm_X10_isThrown (fun v37 m37 q37 => ?_)
  refine sm_if (fun c => ?_) (fun c => ?_)
  · refine sm_gq (off := 171) rfl ?_
    refine sm_ai (fun v51 => ?_)
    refine sm_if (fun c => ?_) (fun c => ?_)
    · exact sm_X10_flaw_60
    · exact sm_X10_flaw_60
  · exact sm_some rfl
set_option maxHeartbeats 4000000 in
set_option maxRecDepth 100000 in
theorem sm_X10_flaw_31 {h : zz_H} {am : Nat} {x1 : Int32} {x2 : Int32} {μ : zzM} {ν : zzN} : zLe (fun r : (Int32 × zzM × zzN) => (r.1, zk h am r.2.1 r.2.2)) (g_X10_flaw_31 x1 x2 μ ν) (f_X10_flaw_31 am x1 x2 (some am) (zk h am μ ν)) := by
  unfold g_X10_flaw_31 f_X10_flaw_31
  exact sm_X10_flaw_36
set_option maxHeartbeats 4000000 in
set_option maxRecDepth 100000 in
theorem sm_X10_flaw {h : zz_H} {am : Nat} {x1 : Int32} {x2 : Int32} {μ : zzM} {ν : zzN} : zLe (fun r : (Int32 × zzM × zzN) => (r.1, zk h am r.2.1 r.2.2)) (g_X10_flaw x1 x2 μ ν) (f_X10_flaw am x1 x2 (zk h am μ ν)) := by
  unfold g_X10_flaw f_X10_flaw
  refine sm_gi (by decide) ?_
  refine sm_b sm_X10_isIn (fun v9 => ?_)
  refine sm_if (fun c => ?_) (fun c => ?_)
  · exact sm_X10_flaw_31
  · refine sm_gq (off := 169) rfl ?_
    refine sm_ai (fun v22 => ?_)
    refine sm_b sm_X10_isIn (fun v25 => ?_)
    refine sm_if (fun c => ?_) (fun c => ?_)
    · exact sm_X10_flaw_31
    · exact sm_X10_flaw_36
set_option maxHeartbeats 4000000 in
set_option maxRecDepth 100000 in
theorem sm_X10_left_44 {h : zz_H} {am : Nat} {s0 : Int32} {μ : zzM} {ν : zzN} : zLe (fun r : (Int32 × zzM × zzN) => (r.1, zk h am r.2.1 r.2.2)) (g_X10_left_44 s0 μ ν) (f_X10_left_44 s0 (zk h am μ ν)) := by
  unfold g_X10_left_44 f_X10_left_44
  exact sm_some rfl
set_option maxHeartbeats 4000000 in
set_option maxRecDepth 100000 in
theorem sm_X10_left_20 {h : zz_H} {am : Nat} {x1 : Int32} {s0 : Int32} {μ : zzM} {ν : zzN} : zLe (fun r : (Int32 × zzM × zzN) => (r.1, zk h am r.2.1 r.2.2)) (g_X10_left_20 x1 s0 μ ν) (f_X10_left_20 am x1 s0 (some am) (zk h am μ ν)) := by
  unfold g_X10_left_20 f_X10_left_20
  refine sm_ob ?_
  refine sm_b1 sm_X10_isThrown (fun v21 m21 q21 => ?_)
  refine sm_if (fun c => ?_) (fun c => ?_)
  · refine sm_gq (off := 169) rfl ?_
    refine sm_ai (fun v36 => ?_)
    refine sm_gq (off := 171) rfl ?_
    refine sm_ai (fun v42 => ?_)
    exact sm_X10_left_44
  · exact sm_X10_left_44
set_option maxHeartbeats 4000000 in
set_option maxRecDepth 100000 in
theorem sm_X10_left {h : zz_H} {am : Nat} {x1 : Int32} {μ : zzM} {ν : zzN} : zLe (fun r : (Int32 × zzM × zzN) => (r.1, zk h am r.2.1 r.2.2)) (g_X10_left x1 μ ν) (f_X10_left am x1 (zk h am μ ν)) := by
  unfold g_X10_left f_X10_left
  refine sm_gi (by decide) ?_
  refine sm_b sm_X10_isIn (fun v9 => ?_)
  refine sm_if (fun c => ?_) (fun c => ?_)
  · exact sm_X10_left_20
  · exact sm_X10_left_20
set_option maxHeartbeats 4000000 in
set_option maxRecDepth 100000 in
theorem sm_X10_panel_52 {h : zz_H} {am : Nat} {μ : zzM} {ν : zzN} : zLe (fun r : (Int32 × zzM × zzN) => (r.1, zk h am r.2.1 r.2.2)) (g_X10_panel_52 μ ν) (f_X10_panel_52  (zk h am μ ν)) := by
  unfold g_X10_panel_52 f_X10_panel_52
  exact sm_some rfl
set_option maxHeartbeats 4000000 in
set_option maxRecDepth 100000 in
theorem sm_X10_panel_45 {h : zz_H} {am : Nat} {x1 : Int32} {x2 : Int32} {s0 : Int32} {μ : zzM} {ν : zzN} : zLe (fun r : (Int32 × zzM × zzN) => (r.1, zk h am r.2.1 r.2.2)) (g_X10_panel_45 x1 x2 s0 μ ν) (f_X10_panel_45 am x1 x2 s0 (some am) (zk h am μ ν)) := by
  unfold g_X10_panel_45 f_X10_panel_45
  refine sm_ob ?_
  refine sm_b1 sm_X10_isThrown (fun v46 m46 q46 => ?_)
  refine sm_if (fun c => ?_) (fun c => ?_)
  · refine sm_gq (off := 138) rfl ?_
    refine sm_aq (fun o59 => ?_)
    refine sm_ai (fun v61 => ?_)
    exact sm_some rfl
  · exact sm_X10_panel_52
set_option maxHeartbeats 4000000 in
set_option maxRecDepth 100000 in
theorem sm_X10_panel_40 {h : zz_H} {am : Nat} {x1 : Int32} {x2 : Int32} {μ : zzM} {ν : zzN} : zLe (fun r : (Int32 × zzM × zzN) => (r.1, zk h am r.2.1 r.2.2)) (g_X10_panel_40 x1 x2 μ ν) (f_X10_panel_40 am x1 x2 (some am) (zk h am μ ν)) := by
  unfold g_X10_panel_40 f_X10_panel_40
  exact sm_X10_panel_45
set_option maxHeartbeats 4000000 in
set_option maxRecDepth 100000 in
theorem sm_X10_panel {h : zz_H} {am : Nat} {x1 : Int32} {x2 : Int32} {μ : zzM} {ν : zzN} : zLe (fun r : (Int32 × zzM × zzN) => (r.1, zk h am r.2.1 r.2.2)) (g_X10_panel x1 x2 μ ν) (f_X10_panel am x1 x2 (zk h am μ ν)) := by
  unfold g_X10_panel f_X10_panel
  refine sm_ob ?_
  refine sm_b sm_X10_isNoSeat (fun v3 => ?_)
  refine sm_ob ?_
  refine sm_b1 sm_X10_isThrown (fun v7 m7 q7 => ?_)
  refine sm_if (fun c => ?_) (fun c => ?_)
  · refine sm_ob ?_
    refine sm_b sm_X10_last (fun v16 => ?_)
    refine sm_if (fun c => ?_) (fun c => ?_)
    · refine sm_gq (off := 1) rfl ?_
      refine sm_ai (fun v31 => ?_)
      refine sm_b sm_X10_isIn (fun v34 => ?_)
      refine sm_if (fun c => ?_) (fun c => ?_)
      · exact sm_X10_panel_40
      · exact sm_X10_panel_45
    · exact sm_X10_panel_40
  · exact sm_X10_panel_52
set_option maxHeartbeats 4000000 in
set_option maxRecDepth 100000 in
theorem sm_X10_uses_19 {h : zz_H} {am : Nat} {x1 : Int32} {x2 : Int32} {x3 : Int32} {x4 : Int32} {μ : zzM} {ν : zzN} : zLe (Sum.map (fun s : (Int32 × zzM × zzN) => (s.1, zk h am s.2.1 s.2.2)) (fun r : (Int32 × zzM × zzN) => (r.1, zk h am r.2.1 r.2.2))) (g_X10_uses_19 x1 x2 x3 x4 μ ν) (f_X10_uses_19 am x1 x2 x3 x4 (zk h am μ ν)) := by
  unfold g_X10_uses_19 f_X10_uses_19
  refine sm_gq (off := 83) rfl ?_
  refine sm_ai (fun v26 => ?_)
  refine sm_if (fun c => ?_) (fun c => ?_)
  · refine sm_ob ?_
    refine sm_b sm_X10_tops (fun v53 => ?_)
    exact sm_some rfl
  · refine sm_gq (off := 99) rfl ?_
    refine sm_aq (fun o35 => ?_)
    refine sm_al (fun v39 => ?_)
    refine sm_sl (fun m43 => ?_)
    exact sm_some rfl
set_option maxHeartbeats 4000000 in
set_option maxRecDepth 100000 in
theorem sm_X10_uses {h : zz_H} {am : Nat} {x1 : Int32} {x2 : Int32} {μ : zzM} {ν : zzN} : zLe (fun r : (Int32 × zzM × zzN) => (r.1, zk h am r.2.1 r.2.2)) (g_X10_uses x1 x2 μ ν) (f_X10_uses am x1 x2 (zk h am μ ν)) := by
  unfold g_X10_uses f_X10_uses
  refine sm_ob ?_
  refine sm_b sm_X10_tops (fun v2 => ?_)
  refine sm_gq (off := 144) rfl ?_
  refine sm_ai (fun v12 => ?_)
  refine sm_si (fun m15 => ?_)
  refine sm_it (cs := (fun s : (Int32 × zzM × zzN) => (s.1, zk h am s.2.1 s.2.2))) (fun s => ?_)
  exact sm_X10_uses_19
set_option maxHeartbeats 4000000 in
set_option maxRecDepth 100000 in
theorem sm_X10_use_73 {h : zz_H} {am : Nat} {μ : zzM} {ν : zzN} : zLe (fun r : (Int32 × zzM × zzN) => (r.1, zk h am r.2.1 r.2.2)) (g_X10_use_73 μ ν) (f_X10_use_73  (zk h am μ ν)) := by
  unfold g_X10_use_73 f_X10_use_73
  exact sm_some rfl
set_option maxHeartbeats 4000000 in
set_option maxRecDepth 100000 in
theorem sm_X10_use_66 {h : zz_H} {am : Nat} {x1 : Int32} {x2 : Int32} {s0 : Int32} {μ : zzM} {ν : zzN} : zLe (fun r : (Int32 × zzM × zzN) => (r.1, zk h am r.2.1 r.2.2)) (g_X10_use_66 x1 x2 s0 μ ν) (f_X10_use_66 am x1 x2 s0 (some am) (zk h am μ ν)) := by
  unfold g_X10_use_66 f_X10_use_66
  refine sm_ob ?_
  refine sm_b1 sm_X10_isThrown (fun v67 m67 q67 => ?_)
  refine sm_if (fun c => ?_) (fun c => ?_)
  · refine sm_ob ?_
    refine sm_b1 sm_X10_uses (fun v78 m78 q78 => ?_)
    exact sm_some rfl
  · exact sm_X10_use_73
set_option maxHeartbeats 4000000 in
set_option maxRecDepth 100000 in
theorem sm_X10_use_61 {h : zz_H} {am : Nat} {x1 : Int32} {x2 : Int32} {μ : zzM} {ν : zzN} : zLe (fun r : (Int32 × zzM × zzN) => (r.1, zk h am r.2.1 r.2.2)) (g_X10_use_61 x1 x2 μ ν) (f_X10_use_61 am x1 x2 (some am) (zk h am μ ν)) := by
  unfold g_X10_use_61 f_X10_use_61
  exact sm_X10_use_66
set_option maxHeartbeats 4000000 in
set_option maxRecDepth 100000 in
theorem sm_X10_use_30 {h : zz_H} {am : Nat} {x1 : Int32} {x2 : Int32} {s0 : Int32} {μ : zzM} {ν : zzN} : zLe (fun r : (Int32 × zzM × zzN) => (r.1, zk h am r.2.1 r.2.2)) (g_X10_use_30 x1 x2 s0 μ ν) (f_X10_use_30 am x1 x2 s0 (some am) (zk h am μ ν)) := by
  unfold g_X10_use_30 f_X10_use_30
  refine sm_ob ?_
  refine sm_b1 sm_X10_isThrown (fun v31 m31 q31 => ?_)
  refine sm_if (fun c => ?_) (fun c => ?_)
  · refine sm_ob ?_
    refine sm_b sm_X10_last (fun v40 => ?_)
    refine sm_if (fun c => ?_) (fun c => ?_)
    · refine sm_gq (off := 144) rfl ?_
      refine sm_ai (fun v53 => ?_)
      refine sm_if (fun c => ?_) (fun c => ?_)
      · exact sm_X10_use_66
      · exact sm_X10_use_61
    · exact sm_X10_use_61
  · exact sm_X10_use_73
set_option maxHeartbeats 4000000 in
set_option maxRecDepth 100000 in
theorem sm_X10_use {h : zz_H} {am : Nat} {x1 : Int32} {x2 : Int32} {μ : zzM} {ν : zzN} : zLe (fun r : (Int32 × zzM × zzN) => (r.1, zk h am r.2.1 r.2.2)) (g_X10_use x1 x2 μ ν) (f_X10_use am x1 x2 (zk h am μ ν)) := by
  unfold g_X10_use f_X10_use
  refine sm_ob ?_
  refine sm_b sm_X10_isNoSeat (fun v3 => ?_)
  refine sm_ob ?_
  refine sm_b1 sm_X10_isThrown (fun v7 m7 q7 => ?_)
  refine sm_if (fun c => ?_) (fun c => ?_)
  · refine sm_b sm_X10_isIn (fun v19 => ?_)
    refine sm_if (fun c => ?_) (fun c => ?_)
    · exact sm_X10_use_30
    · exact sm_X10_use_30
  · exact sm_X10_use_73
set_option maxHeartbeats 4000000 in
set_option maxRecDepth 100000 in
theorem sm_X10_pound_75 {h : zz_H} {am : Nat} {μ : zzM} {ν : zzN} : zLe (fun r : (Int32 × zzM × zzN) => (r.1, zk h am r.2.1 r.2.2)) (g_X10_pound_75 μ ν) (f_X10_pound_75  (zk h am μ ν)) := by
  unfold g_X10_pound_75 f_X10_pound_75
  exact sm_some rfl
set_option maxHeartbeats 4000000 in
set_option maxRecDepth 100000 in
theorem sm_X10_pound_68 {h : zz_H} {am : Nat} {x1 : Int32} {x2 : Int32} {s0 : Int32} {μ : zzM} {ν : zzN} : zLe (fun r : (Int32 × zzM × zzN) => (r.1, zk h am r.2.1 r.2.2)) (g_X10_pound_68 x1 x2 s0 μ ν) (f_X10_pound_68 am x1 x2 s0 (some am) (zk h am μ ν)) := by
  unfold g_X10_pound_68 f_X10_pound_68
  refine sm_ob ?_
  refine sm_b1 sm_X10_isThrown (fun v69 m69 q69 => ?_)
  refine sm_if (fun c => ?_) (fun c => ?_)
  · refine sm_ob ?_
    refine sm_b1 sm_X10_uses (fun v82 m82 q82 => ?_)
    exact sm_some rfl
  · exact sm_X10_pound_75
set_option maxHeartbeats 4000000 in
set_option maxRecDepth 100000 in
theorem sm_X10_pound_63 {h : zz_H} {am : Nat} {x1 : Int32} {x2 : Int32} {μ : zzM} {ν : zzN} : zLe (fun r : (Int32 × zzM × zzN) => (r.1, zk h am r.2.1 r.2.2)) (g_X10_pound_63 x1 x2 μ ν) (f_X10_pound_63 am x1 x2 (some am) (zk h am μ ν)) := by
  unfold g_X10_pound_63 f_X10_pound_63
  exact sm_X10_pound_68
set_option maxHeartbeats 4000000 in
set_option maxRecDepth 100000 in
theorem sm_X10_pound_30 {h : zz_H} {am : Nat} {x1 : Int32} {x2 : Int32} {s0 : Int32} {μ : zzM} {ν : zzN} : zLe (fun r : (Int32 × zzM × zzN) => (r.1, zk h am r.2.1 r.2.2)) (g_X10_pound_30 x1 x2 s0 μ ν) (f_X10_pound_30 am x1 x2 s0 (some am) (zk h am μ ν)) := by
  unfold g_X10_pound_30 f_X10_pound_30
  refine sm_ob ?_
  refine sm_b1 sm_X10_isThrown (fun v31 m31 q31 => ?_)
  refine sm_if (fun c => ?_) (fun c => ?_)
  · refine sm_ob ?_
    refine sm_b sm_X10_last (fun v40 => ?_)
    refine sm_if (fun c => ?_) (fun c => ?_)
    · refine sm_gq (off := 144) rfl ?_
      refine sm_ai (fun v53 => ?_)
      refine sm_if (fun c => ?_) (fun c => ?_)
      · exact sm_X10_pound_68
      · exact sm_X10_pound_63
    · exact sm_X10_pound_63
  · exact sm_X10_pound_75
set_option maxHeartbeats 4000000 in
set_option maxRecDepth 100000 in
theorem sm_X10_pound {h : zz_H} {am : Nat} {x1 : Int32} {x2 : Int32} {μ : zzM} {ν : zzN} : zLe (fun r : (Int32 × zzM × zzN) => (r.1, zk h am r.2.1 r.2.2)) (g_X10_pound x1 x2 μ ν) (f_X10_pound am x1 x2 (zk h am μ ν)) := by
  unfold g_X10_pound f_X10_pound
  refine sm_ob ?_
  refine sm_b sm_X10_isNoSeat (fun v3 => ?_)
  refine sm_ob ?_
  refine sm_b1 sm_X10_isThrown (fun v7 m7 q7 => ?_)
  refine sm_if (fun c => ?_) (fun c => ?_)
  · refine sm_b sm_X10_isIn (fun v19 => ?_)
    refine sm_if (fun c => ?_) (fun c => ?_)
    · exact sm_X10_pound_30
    · exact sm_X10_pound_30
  · exact sm_X10_pound_75
set_option maxHeartbeats 4000000 in
set_option maxRecDepth 100000 in
theorem sm_X10_hours_46 {h : zz_H} {am : Nat} {s0 : Int32} {μ : zzM} {ν : zzN} : zLe (fun r : (Int32 × zzM × zzN) => (r.1, zk h am r.2.1 r.2.2)) (g_X10_hours_46 s0 μ ν) (f_X10_hours_46 s0 (zk h am μ ν)) := by
  unfold g_X10_hours_46 f_X10_hours_46
  exact sm_some rfl
set_option maxHeartbeats 4000000 in
set_option maxRecDepth 100000 in
theorem sm_X10_hours_36 {h : zz_H} {am : Nat} {μ : zzM} {ν : zzN} : zLe (fun r : (Int32 × zzM × zzN) => (r.1, zk h am r.2.1 r.2.2)) (g_X10_hours_36 μ ν) (f_X10_hours_36  (zk h am μ ν)) := by
  unfold g_X10_hours_36 f_X10_hours_36
  exact sm_X10_hours_46
set_option maxHeartbeats 4000000 in
set_option maxRecDepth 100000 in
theorem sm_X10_hours_29 {h : zz_H} {am : Nat} {x1 : Int32} {s0 : Int32} {μ : zzM} {ν : zzN} : zLe (fun r : (Int32 × zzM × zzN) => (r.1, zk h am r.2.1 r.2.2)) (g_X10_hours_29 x1 s0 μ ν) (f_X10_hours_29 am x1 s0 (some am) (zk h am μ ν)) := by
  unfold g_X10_hours_29 f_X10_hours_29
  refine sm_ob ?_
  refine sm_b1 sm_X10_isThrown (fun v30 m30 q30 => ?_)
  refine sm_if (fun c => ?_) (fun c => ?_)
  · refine sm_gq (off := 144) rfl ?_
    refine sm_ai (fun v45 => ?_)
    exact sm_X10_hours_46
  · exact sm_X10_hours_36
set_option maxHeartbeats 4000000 in
set_option maxRecDepth 100000 in
theorem sm_X10_hours {h : zz_H} {am : Nat} {x1 : Int32} {μ : zzM} {ν : zzN} : zLe (fun r : (Int32 × zzM × zzN) => (r.1, zk h am r.2.1 r.2.2)) (g_X10_hours x1 μ ν) (f_X10_hours am x1 (zk h am μ ν)) := by
  unfold g_X10_hours f_X10_hours
  refine sm_ob ?_
  refine sm_b sm_X10_isNoSeat (fun v3 => ?_)
  refine sm_ob ?_
  refine sm_b1 sm_X10_isThrown (fun v7 m7 q7 => ?_)
  refine sm_if (fun c => ?_) (fun c => ?_)
  · refine sm_ob ?_
    refine sm_b sm_X10_last (fun v16 => ?_)
    refine sm_if (fun c => ?_) (fun c => ?_)
    · exact sm_X10_hours_29
    · exact sm_X10_hours_29
  · exact sm_X10_hours_36
set_option maxHeartbeats 4000000 in
set_option maxRecDepth 100000 in
theorem sm_X10_land_57 {h : zz_H} {am : Nat} {μ : zzM} {ν : zzN} : zLe (fun r : (Int32 × zzM × zzN) => (r.1, zk h am r.2.1 r.2.2)) (g_X10_land_57 μ ν) (f_X10_land_57  (zk h am μ ν)) := by
  unfold g_X10_land_57 f_X10_land_57
  exact sm_some rfl
set_option maxHeartbeats 4000000 in
set_option maxRecDepth 100000 in
theorem sm_X10_land_50 {h : zz_H} {am : Nat} {x1 : Int32} {x2 : Int32} {x3 : Int32} {s0 : Int32} {μ : zzM} {ν : zzN} : zLe (fun r : (Int32 × zzM × zzN) => (r.1, zk h am r.2.1 r.2.2)) (g_X10_land_50 x1 x2 x3 s0 μ ν) (f_X10_land_50 am x1 x2 x3 s0 (some am) (zk h am μ ν)) := by
  unfold g_X10_land_50 f_X10_land_50
  refine sm_ob ?_
  refine sm_b1 sm_X10_isThrown (fun v51 m51 q51 => ?_)
  refine sm_if (fun c => ?_) (fun c => ?_)
  · refine sm_gq (off := 179) rfl ?_
    refine sm_ai (fun v64 => ?_)
    refine sm_gq (off := 178) rfl ?_
    refine sm_si (fun m73 => ?_)
    refine sm_gq (off := 179) rfl ?_
    refine sm_si (fun m80 => ?_)
    exact sm_some rfl
  · exact sm_X10_land_57
set_option maxHeartbeats 4000000 in
set_option maxRecDepth 100000 in
theorem sm_X10_land_45 {h : zz_H} {am : Nat} {x1 : Int32} {x2 : Int32} {x3 : Int32} {μ : zzM} {ν : zzN} : zLe (fun r : (Int32 × zzM × zzN) => (r.1, zk h am r.2.1 r.2.2)) (g_X10_land_45 x1 x2 x3 μ ν) (f_X10_land_45 am x1 x2 x3 (some am) (zk h am μ ν)) := by
  unfold g_X10_land_45 f_X10_land_45
  exact sm_X10_land_50
set_option maxHeartbeats 4000000 in
set_option maxRecDepth 100000 in
theorem sm_X10_land_36 {h : zz_H} {am : Nat} {x1 : Int32} {x2 : Int32} {x3 : Int32} {μ : zzM} {ν : zzN} : zLe (fun r : (Int32 × zzM × zzN) => (r.1, zk h am r.2.1 r.2.2)) (g_X10_land_36 x1 x2 x3 μ ν) (f_X10_land_36 am x1 x2 x3 (some am) (zk h am μ ν)) := by
  unfold g_X10_land_36 f_X10_land_36
  refine sm_b sm_X10_isIn (fun v39 => ?_)
  refine sm_if (fun c => ?_) (fun c => ?_)
  · exact sm_X10_land_45
  · exact sm_X10_land_50
set_option maxHeartbeats 4000000 in
set_option maxRecDepth 100000 in
theorem sm_X10_land_15 {h : zz_H} {am : Nat} {x1 : Int32} {x2 : Int32} {x3 : Int32} {s0 : Int32} {μ : zzM} {ν : zzN} : zLe (fun r : (Int32 × zzM × zzN) => (r.1, zk h am r.2.1 r.2.2)) (g_X10_land_15 x1 x2 x3 s0 μ ν) (f_X10_land_15 am x1 x2 x3 s0 (some am) (zk h am μ ν)) := by
  unfold g_X10_land_15 f_X10_land_15
  refine sm_ob ?_
  refine sm_b1 sm_X10_isThrown (fun v16 m16 q16 => ?_)
  refine sm_if (fun c => ?_) (fun c => ?_)
  · refine sm_b sm_X10_isKind (fun v24 => ?_)
    refine sm_if (fun c => ?_) (fun c => ?_)
    · refine sm_if (fun c => ?_) (fun c => ?_)
      · exact sm_X10_land_36
      · exact sm_X10_land_45
    · exact sm_X10_land_36
  · exact sm_X10_land_57
set_option maxHeartbeats 4000000 in
set_option maxRecDepth 100000 in
theorem sm_X10_land {h : zz_H} {am : Nat} {x1 : Int32} {x2 : Int32} {x3 : Int32} {μ : zzM} {ν : zzN} : zLe (fun r : (Int32 × zzM × zzN) => (r.1, zk h am r.2.1 r.2.2)) (g_X10_land x1 x2 x3 μ ν) (f_X10_land am x1 x2 x3 (zk h am μ ν)) := by
  unfold g_X10_land f_X10_land
  refine sm_b sm_X10_isIn (fun v4 => ?_)
  refine sm_if (fun c => ?_) (fun c => ?_)
  · exact sm_X10_land_15
  · exact sm_X10_land_15
set_option maxHeartbeats 4000000 in
set_option maxRecDepth 100000 in
theorem sm_X10_burns_124 {h : zz_H} {am : Nat} {s0 : Int32} {μ : zzM} {ν : zzN} : zLe (fun r : (Int32 × zzM × zzN) => (r.1, zk h am r.2.1 r.2.2)) (g_X10_burns_124 s0 μ ν) (f_X10_burns_124 s0 (zk h am μ ν)) := by
  unfold g_X10_burns_124 f_X10_burns_124
  refine sm_gz ?_
  exact sm_some rfl
set_option maxHeartbeats 4000000 in
set_option maxRecDepth 100000 in
theorem sm_X10_burns_119 {h : zz_H} {am : Nat} {μ : zzM} {ν : zzN} : zLe (fun r : (Int32 × zzM × zzN) => (r.1, zk h am r.2.1 r.2.2)) (g_X10_burns_119 μ ν) (f_X10_burns_119  (zk h am μ ν)) := by
  unfold g_X10_burns_119 f_X10_burns_119
  exact sm_X10_burns_124
set_option maxHeartbeats 4000000 in
set_option maxRecDepth 100000 in
theorem sm_X10_burns_77 {h : zz_H} {am : Nat} {x1 : Int32} {x2 : Int32} {x4 : Int32} {s0 : Int32} {s1 : Int32} {μ : zzM} {ν : zzN} : zLe (Sum.map id (fun r : (Int32 × zzM × zzN) => (r.1, zk h am r.2.1 r.2.2))) (g_X10_burns_77 x1 x2 x4 s0 s1 μ ν) (f_X10_burns_77 am x1 x2 x4 s0 s1 (zk h am μ ν)) := by
  unfold g_X10_burns_77 f_X10_burns_77
  exact sm_some rfl
set_option maxHeartbeats 4000000 in
set_option maxRecDepth 100000 in
theorem sm_X10_burns_46 {h : zz_H} {am : Nat} {x1 : Int32} {x2 : Int32} {x3 : Int32} {x4 : Int32} {μ : zzM} {ν : zzN} : zLe (Sum.map id (fun r : (Int32 × zzM × zzN) => (r.1, zk h am r.2.1 r.2.2))) (g_X10_burns_46 x1 x2 x3 x4 μ ν) (f_X10_burns_46 am x1 x2 x3 x4 (zk h am μ ν)) := by
  unfold g_X10_burns_46 f_X10_burns_46
  refine sm_gq (off := 83) rfl ?_
  refine sm_ai (fun v53 => ?_)
  refine sm_if (fun c => ?_) (fun c => ?_)
  · refine sm_gq (off := 84) rfl ?_
    refine sm_aq (fun o90 => ?_)
    refine sm_gq (off := 83) rfl ?_
    refine sm_ai (fun v96 => ?_)
    refine sm_ai (fun v99 => ?_)
    refine sm_gq (off := 178) rfl ?_
    refine sm_ai (fun v105 => ?_)
    refine sm_if (fun c => ?_) (fun c => ?_)
    · refine sm_mapw1 ?_
      exact sm_X10_burns_119
    · refine sm_gq (off := 179) rfl ?_
      refine sm_ai (fun v115 => ?_)
      refine sm_if (fun c => ?_) (fun c => ?_)
      · refine sm_mapw1 ?_
        exact sm_X10_burns_124
      · refine sm_mapw1 ?_
        exact sm_X10_burns_119
  · refine sm_gq (off := 84) rfl ?_
    refine sm_aq (fun o63 => ?_)
    refine sm_ai (fun v66 => ?_)
    refine sm_if (fun c => ?_) (fun c => ?_)
    · exact sm_X10_burns_77
    · exact sm_X10_burns_77
set_option maxHeartbeats 4000000 in
set_option maxRecDepth 100000 in
theorem sm_X10_burns_39 {h : zz_H} {am : Nat} {μ : zzM} {ν : zzN} : zLe (fun r : (Int32 × zzM × zzN) => (r.1, zk h am r.2.1 r.2.2)) (g_X10_burns_39 μ ν) (f_X10_burns_39  (zk h am μ ν)) := by
  unfold g_X10_burns_39 f_X10_burns_39
  exact sm_some rfl
set_option maxHeartbeats 4000000 in
set_option maxRecDepth 100000 in
theorem sm_X10_burns_23 {h : zz_H} {am : Nat} {x1 : Int32} {x2 : Int32} {s0 : Int32} {μ : zzM} {ν : zzN} : zLe (fun r : (Int32 × zzM × zzN) => (r.1, zk h am r.2.1 r.2.2)) (g_X10_burns_23 x1 x2 s0 μ ν) (f_X10_burns_23 am x1 x2 s0 (some am) (zk h am μ ν)) := by
  unfold g_X10_burns_23 f_X10_burns_23
  refine sm_ob ?_
  refine sm_b1 sm_X10_isThrown (fun v24 m24 q24 => ?_)
  refine sm_if (fun c => ?_) (fun c => ?_)
  · refine sm_gq (off := 83) rfl ?_
    refine sm_ai (fun v35 => ?_)
    refine sm_if (fun c => ?_) (fun c => ?_)
    · exact sm_X10_burns_39
    · refine sm_it (cs := id) (fun s => ?_)
      exact sm_X10_burns_46
  · exact sm_X10_burns_39
set_option maxHeartbeats 4000000 in
set_option maxRecDepth 100000 in
theorem sm_X10_burns_18 {h : zz_H} {am : Nat} {x1 : Int32} {x2 : Int32} {μ : zzM} {ν : zzN} : zLe (fun r : (Int32 × zzM × zzN) => (r.1, zk h am r.2.1 r.2.2)) (g_X10_burns_18 x1 x2 μ ν) (f_X10_burns_18 am x1 x2 (some am) (zk h am μ ν)) := by
  unfold g_X10_burns_18 f_X10_burns_18
  exact sm_X10_burns_23
set_option maxHeartbeats 4000000 in
set_option maxRecDepth 100000 in
theorem sm_X10_burns {h : zz_H} {am : Nat} {x1 : Int32} {x2 : Int32} {μ : zzM} {ν : zzN} : zLe (fun r : (Int32 × zzM × zzN) => (r.1, zk h am r.2.1 r.2.2)) (g_X10_burns x1 x2 μ ν) (f_X10_burns am x1 x2 (zk h am μ ν)) := by
  unfold g_X10_burns f_X10_burns
  refine sm_ob ?_
  refine sm_b sm_X10_isNoSeat (fun v3 => ?_)
  refine sm_if (fun c => ?_) (fun c => ?_)
  · refine sm_b sm_X10_isIn (fun v12 => ?_)
    refine sm_if (fun c => ?_) (fun c => ?_)
    · exact sm_X10_burns_18
    · exact sm_X10_burns_23
  · exact sm_X10_burns_18
set_option maxHeartbeats 4000000 in
set_option maxRecDepth 100000 in
theorem sm_X10_tack_35 {h : zz_H} {am : Nat} {μ : zzM} {ν : zzN} : zLe (fun r : (Int32 × zzM × zzN) => (r.1, zk h am r.2.1 r.2.2)) (g_X10_tack_35 μ ν) (f_X10_tack_35  (zk h am μ ν)) := by
  unfold g_X10_tack_35 f_X10_tack_35
  exact sm_some rfl
set_option maxHeartbeats 4000000 in
set_option maxRecDepth 100000 in
theorem sm_X10_tack_28 {h : zz_H} {am : Nat} {x1 : Int32} {x2 : Int32} {x3 : Int32} {s0 : Int32} {μ : zzM} {ν : zzN} : zLe (fun r : (Int32 × zzM × zzN) => (r.1, zk h am r.2.1 r.2.2)) (g_X10_tack_28 x1 x2 x3 s0 μ ν) (f_X10_tack_28 am x1 x2 x3 s0 (some am) (zk h am μ ν)) := by
  unfold g_X10_tack_28 f_X10_tack_28
  refine sm_ob ?_
  refine sm_b1 sm_X10_isThrown (fun v29 m29 q29 => ?_)
  refine sm_if (fun c => ?_) (fun c => ?_)
  · refine sm_gq (off := 104) rfl ?_
    refine sm_aq (fun o42 => ?_)
    refine sm_ai (fun v44 => ?_)
    refine sm_gq (off := 104) rfl ?_
    refine sm_aq (fun o52 => ?_)
    refine sm_si (fun m55 => ?_)
    exact sm_some rfl
  · exact sm_X10_tack_35
set_option maxHeartbeats 4000000 in
set_option maxRecDepth 100000 in
theorem sm_X10_tack {h : zz_H} {am : Nat} {x1 : Int32} {x2 : Int32} {x3 : Int32} {μ : zzM} {ν : zzN} : zLe (fun r : (Int32 × zzM × zzN) => (r.1, zk h am r.2.1 r.2.2)) (g_X10_tack x1 x2 x3 μ ν) (f_X10_tack am x1 x2 x3 (zk h am μ ν)) := by
  unfold g_X10_tack f_X10_tack
  refine sm_ob ?_
  refine sm_b1 sm_X10_isNoLayer (fun v3 m3 q3 => ?_)
  refine sm_if (fun c => ?_) (fun c => ?_)
  · refine sm_b sm_X10_isIn (fun v17 => ?_)
    refine sm_if (fun c => ?_) (fun c => ?_)
    · exact sm_X10_tack_28
    · exact sm_X10_tack_28
  · exact sm_X10_tack_35
set_option maxHeartbeats 4000000 in
set_option maxRecDepth 100000 in
theorem sm_X10_quarrels_75 {h : zz_H} {am : Nat} {x1 : Int32} {x3 : Int32} {x4 : Int32} {s0 : Int32} {s1 : Int32} {μ : zzM} {ν : zzN} : zLe (Sum.map id (Sum.map id (fun r : (Int32 × zzM × zzN) => (r.1, zk h am r.2.1 r.2.2)))) (g_X10_quarrels_75 x1 x3 x4 s0 s1 μ ν) (f_X10_quarrels_75 am x1 x3 x4 s0 s1 (zk h am μ ν)) := by
  unfold g_X10_quarrels_75 f_X10_quarrels_75
  exact sm_some rfl
set_option maxHeartbeats 4000000 in
set_option maxRecDepth 100000 in
theorem sm_X10_quarrels_74 {h : zz_H} {am : Nat} {x1 : Int32} {x3 : Int32} {x4 : Int32} {s0 : Int32} {μ : zzM} {ν : zzN} : zLe (Sum.map id (Sum.map id (fun r : (Int32 × zzM × zzN) => (r.1, zk h am r.2.1 r.2.2)))) (g_X10_quarrels_74 x1 x3 x4 s0 μ ν) (f_X10_quarrels_74 am x1 x3 x4 s0 (zk h am μ ν)) := by
  unfold g_X10_quarrels_74 f_X10_quarrels_74
  exact sm_X10_quarrels_75
set_option maxHeartbeats 4000000 in
set_option maxRecDepth 100000 in
theorem sm_X10_quarrels_32 {h : zz_H} {am : Nat} {x1 : Int32} {x2 : Int32} {x3 : Int32} {x4 : Int32} {μ : zzM} {ν : zzN} : zLe (Sum.map id (Sum.map id (fun r : (Int32 × zzM × zzN) => (r.1, zk h am r.2.1 r.2.2)))) (g_X10_quarrels_32 x1 x2 x3 x4 μ ν) (f_X10_quarrels_32 am x1 x2 x3 x4 (zk h am μ ν)) := by
  unfold g_X10_quarrels_32 f_X10_quarrels_32
  refine sm_if (fun c => ?_) (fun c => ?_)
  · exact sm_some rfl
  · refine sm_gq (off := 104) rfl ?_
    refine sm_aq (fun o44 => ?_)
    refine sm_ai (fun v46 => ?_)
    refine sm_if (fun c => ?_) (fun c => ?_)
    · exact sm_X10_quarrels_74
    · refine sm_gq (off := 104) rfl ?_
      refine sm_aq (fun o55 => ?_)
      refine sm_ai (fun v57 => ?_)
      refine sm_gq (off := 104) rfl ?_
      refine sm_aq (fun o63 => ?_)
      refine sm_ai (fun v66 => ?_)
      refine sm_if (fun c => ?_) (fun c => ?_)
      · exact sm_X10_quarrels_74
      · exact sm_X10_quarrels_75
set_option maxHeartbeats 4000000 in
set_option maxRecDepth 100000 in
theorem sm_X10_quarrels_19 {h : zz_H} {am : Nat} {x1 : Int32} {x2 : Int32} {x3 : Int32} {μ : zzM} {ν : zzN} : zLe (Sum.map id (fun r : (Int32 × zzM × zzN) => (r.1, zk h am r.2.1 r.2.2))) (g_X10_quarrels_19 x1 x2 x3 μ ν) (f_X10_quarrels_19 am x1 x2 x3 (zk h am μ ν)) := by
  unfold g_X10_quarrels_19 f_X10_quarrels_19
  refine sm_gq (off := 83) rfl ?_
  refine sm_ai (fun v25 => ?_)
  refine sm_if (fun c => ?_) (fun c => ?_)
  · exact sm_some rfl
  · refine sm_it (cs := id) (fun s => ?_)
    exact sm_X10_quarrels_32
set_option maxHeartbeats 4000000 in
set_option maxRecDepth 100000 in
theorem sm_X10_quarrels {h : zz_H} {am : Nat} {x1 : Int32} {μ : zzM} {ν : zzN} : zLe (fun r : (Int32 × zzM × zzN) => (r.1, zk h am r.2.1 r.2.2)) (g_X10_quarrels x1 μ ν) (f_X10_quarrels am x1 (zk h am μ ν)) := by
  unfold g_X10_quarrels f_X10_quarrels
  refine sm_ob ?_
  refine sm_b sm_X10_isNoSeat (fun v3 => ?_)
  refine sm_ob ?_
  refine sm_b1 sm_X10_isThrown (fun v7 m7 q7 => ?_)
  refine sm_if (fun c => ?_) (fun c => ?_)
  · refine sm_it (cs := id) (fun s => ?_)
    exact sm_X10_quarrels_19
  · exact sm_some rfl
set_option maxHeartbeats 4000000 in
set_option maxRecDepth 100000 in
theorem sm_X10_promise_36 {h : zz_H} {am : Nat} {μ : zzM} {ν : zzN} : zLe (fun r : (Int32 × zzM × zzN) => (r.1, zk h am r.2.1 r.2.2)) (g_X10_promise_36 μ ν) (f_X10_promise_36  (zk h am μ ν)) := by
  unfold g_X10_promise_36 f_X10_promise_36
  exact sm_some rfl
set_option maxHeartbeats 4000000 in
set_option maxRecDepth 100000 in
theorem sm_X10_promise_29 {h : zz_H} {am : Nat} {x1 : Int32} {x2 : Int32} {s0 : Int32} {μ : zzM} {ν : zzN} : zLe (fun r : (Int32 × zzM × zzN) => (r.1, zk h am r.2.1 r.2.2)) (g_X10_promise_29 x1 x2 s0 μ ν) (f_X10_promise_29 am x1 x2 s0 (some am) (zk h am μ ν)) := by
  unfold g_X10_promise_29 f_X10_promise_29
  refine sm_ob ?_
  refine sm_b1 sm_X10_isThrown (fun v30 m30 q30 => ?_)
  refine sm_if (fun c => ?_) (fun c => ?_)
  · refine sm_gq (off := 146) rfl ?_
    refine sm_ai (fun v43 => ?_)
    refine sm_gq (off := 146) rfl ?_
    refine sm_si (fun m51 => ?_)
    exact sm_some rfl
  · exact sm_X10_promise_36
set_option maxHeartbeats 4000000 in
set_option maxRecDepth 100000 in
theorem sm_X10_promise {h : zz_H} {am : Nat} {x1 : Int32} {x2 : Int32} {μ : zzM} {ν : zzN} : zLe (fun r : (Int32 × zzM × zzN) => (r.1, zk h am r.2.1 r.2.2)) (g_X10_promise x1 x2 μ ν) (f_X10_promise am x1 x2 (zk h am μ ν)) := by
  unfold g_X10_promise f_X10_promise
  refine sm_ob ?_
  refine sm_b sm_X10_isNoSeat (fun v3 => ?_)
  refine sm_ob ?_
  refine sm_b1 sm_X10_isThrown (fun v7 m7 q7 => ?_)
  refine sm_if (fun c => ?_) (fun c => ?_)
  · refine sm_b sm_X10_isIn (fun v18 => ?_)
    refine sm_if (fun c => ?_) (fun c => ?_)
    · exact sm_X10_promise_29
    · exact sm_X10_promise_29
  · exact sm_X10_promise_36
set_option maxHeartbeats 4000000 in
set_option maxRecDepth 100000 in
theorem sm_X10_holds_74 {h : zz_H} {am : Nat} {s0 : Int32} {μ : zzM} {ν : zzN} : zLe (fun r : (Int32 × zzM × zzN) => (r.1, zk h am r.2.1 r.2.2)) (g_X10_holds_74 s0 μ ν) (f_X10_holds_74 s0 (zk h am μ ν)) := by
  unfold g_X10_holds_74 f_X10_holds_74
  refine sm_gz ?_
  exact sm_some rfl
set_option maxHeartbeats 4000000 in
set_option maxRecDepth 100000 in
theorem sm_X10_holds_36 {h : zz_H} {am : Nat} {μ : zzM} {ν : zzN} : zLe (fun r : (Int32 × zzM × zzN) => (r.1, zk h am r.2.1 r.2.2)) (g_X10_holds_36 μ ν) (f_X10_holds_36  (zk h am μ ν)) := by
  unfold g_X10_holds_36 f_X10_holds_36
  exact sm_some rfl
set_option maxHeartbeats 4000000 in
set_option maxRecDepth 100000 in
theorem sm_X10_holds_29 {h : zz_H} {am : Nat} {x1 : Int32} {s0 : Int32} {μ : zzM} {ν : zzN} : zLe (fun r : (Int32 × zzM × zzN) => (r.1, zk h am r.2.1 r.2.2)) (g_X10_holds_29 x1 s0 μ ν) (f_X10_holds_29 am x1 s0 (some am) (zk h am μ ν)) := by
  unfold g_X10_holds_29 f_X10_holds_29
  refine sm_ob ?_
  refine sm_b1 sm_X10_isThrown (fun v30 m30 q30 => ?_)
  refine sm_if (fun c => ?_) (fun c => ?_)
  · refine sm_gq (off := 145) rfl ?_
    refine sm_ai (fun v43 => ?_)
    refine sm_ob ?_
    refine sm_b sm_X10_tops (fun v46 => ?_)
    refine sm_gq (off := 145) rfl ?_
    refine sm_ai (fun v55 => ?_)
    refine sm_gq (off := 146) rfl ?_
    refine sm_ai (fun v61 => ?_)
    refine sm_dv ?_
    refine sm_if (fun c => ?_) (fun c => ?_)
    · exact sm_X10_holds_74
    · exact sm_X10_holds_74
  · exact sm_X10_holds_36
set_option maxHeartbeats 4000000 in
set_option maxRecDepth 100000 in
theorem sm_X10_holds {h : zz_H} {am : Nat} {x1 : Int32} {μ : zzM} {ν : zzN} : zLe (fun r : (Int32 × zzM × zzN) => (r.1, zk h am r.2.1 r.2.2)) (g_X10_holds x1 μ ν) (f_X10_holds am x1 (zk h am μ ν)) := by
  unfold g_X10_holds f_X10_holds
  refine sm_ob ?_
  refine sm_b sm_X10_isNoSeat (fun v3 => ?_)
  refine sm_ob ?_
  refine sm_b1 sm_X10_isThrown (fun v7 m7 q7 => ?_)
  refine sm_if (fun c => ?_) (fun c => ?_)
  · refine sm_ob ?_
    refine sm_b sm_X10_last (fun v16 => ?_)
    refine sm_if (fun c => ?_) (fun c => ?_)
    · exact sm_X10_holds_29
    · exact sm_X10_holds_29
  · exact sm_X10_holds_36
set_option maxHeartbeats 4000000 in
set_option maxRecDepth 100000 in
theorem sm_X10_quote_240 {h : zz_H} {am : Nat} {s0 : Int32} {s1 : Int32} {μ : zzM} {ν : zzN} : zLe (fun r : (Int32 × zzM × zzN) => (r.1, zk h am r.2.1 r.2.2)) (g_X10_quote_240 s0 s1 μ ν) (f_X10_quote_240 s0 s1 (zk h am μ ν)) := by
  unfold g_X10_quote_240 f_X10_quote_240
  exact sm_some rfl
set_option maxHeartbeats 4000000 in
set_option maxRecDepth 100000 in
theorem sm_X10_quote_193 {h : zz_H} {am : Nat} {x1 : Int32} {x3 : Int32} {s0 : Int32} {s1 : Int32} {s2 : Int32} {μ : zzM} {ν : zzN} : zLe (Sum.map id (fun r : (Int32 × zzM × zzN) => (r.1, zk h am r.2.1 r.2.2))) (g_X10_quote_193 x1 x3 s0 s1 s2 μ ν) (f_X10_quote_193 am x1 x3 s0 s1 s2 (zk h am μ ν)) := by
  unfold g_X10_quote_193 f_X10_quote_193
  exact sm_some rfl
set_option maxHeartbeats 4000000 in
set_option maxRecDepth 100000 in
theorem sm_X10_quote_139 {h : zz_H} {am : Nat} {x1 : Int32} {x2 : Int32} {x3 : Int32} {μ : zzM} {ν : zzN} : zLe (Sum.map id (fun r : (Int32 × zzM × zzN) => (r.1, zk h am r.2.1 r.2.2))) (g_X10_quote_139 x1 x2 x3 μ ν) (f_X10_quote_139 am x1 x2 x3 (zk h am μ ν)) := by
  unfold g_X10_quote_139 f_X10_quote_139
  refine sm_gq (off := 83) rfl ?_
  refine sm_ai (fun v145 => ?_)
  refine sm_if (fun c => ?_) (fun c => ?_)
  · refine sm_ob ?_
    refine sm_b sm_X10_drawn (fun v206 => ?_)
    refine sm_ob ?_
    refine sm_b sm_X10_last (fun v215 => ?_)
    refine sm_if (fun c => ?_) (fun c => ?_)
    · refine sm_gq (off := 1) rfl ?_
      refine sm_ai (fun v228 => ?_)
      refine sm_gq (off := 143) rfl ?_
      refine sm_ai (fun v234 => ?_)
      refine sm_mapw1 ?_
      exact sm_X10_quote_240
    · refine sm_mapw1 ?_
      exact sm_X10_quote_240
  · refine sm_gq (off := 89) rfl ?_
    refine sm_aq (fun o155 => ?_)
    refine sm_ai (fun v157 => ?_)
    refine sm_gq (off := 84) rfl ?_
    refine sm_aq (fun o163 => ?_)
    refine sm_ai (fun v165 => ?_)
    refine sm_if (fun c => ?_) (fun c => ?_)
    · exact sm_X10_quote_193
    · refine sm_gq (off := 84) rfl ?_
      refine sm_aq (fun o180 => ?_)
      refine sm_ai (fun v182 => ?_)
      refine sm_if (fun c => ?_) (fun c => ?_)
      · exact sm_X10_quote_193
      · exact sm_X10_quote_193
set_option maxHeartbeats 4000000 in
set_option maxRecDepth 100000 in
theorem sm_X10_quote_137 {h : zz_H} {am : Nat} {x1 : Int32} {x2 : Int32} {μ : zzM} {ν : zzN} : zLe (fun r : (Int32 × zzM × zzN) => (r.1, zk h am r.2.1 r.2.2)) (g_X10_quote_137 x1 x2 μ ν) (f_X10_quote_137 am x1 x2 (zk h am μ ν)) := by
  unfold g_X10_quote_137 f_X10_quote_137
  refine sm_it (cs := id) (fun s => ?_)
  exact sm_X10_quote_139
set_option maxHeartbeats 4000000 in
set_option maxRecDepth 100000 in
theorem sm_X10_quote_129 {h : zz_H} {am : Nat} {x1 : Int32} {x3 : Int32} {s0 : Int32} {s1 : Int32} {μ : zzM} {ν : zzN} : zLe (Sum.map id (fun r : (Int32 × zzM × zzN) => (r.1, zk h am r.2.1 r.2.2))) (g_X10_quote_129 x1 x3 s0 s1 μ ν) (f_X10_quote_129 am x1 x3 s0 s1 (zk h am μ ν)) := by
  unfold g_X10_quote_129 f_X10_quote_129
  exact sm_some rfl
set_option maxHeartbeats 4000000 in
set_option maxRecDepth 100000 in
theorem sm_X10_quote_92 {h : zz_H} {am : Nat} {x1 : Int32} {x2 : Int32} {x3 : Int32} {μ : zzM} {ν : zzN} : zLe (Sum.map id (fun r : (Int32 × zzM × zzN) => (r.1, zk h am r.2.1 r.2.2))) (g_X10_quote_92 x1 x2 x3 μ ν) (f_X10_quote_92 am x1 x2 x3 (zk h am μ ν)) := by
  unfold g_X10_quote_92 f_X10_quote_92
  refine sm_gq (off := 2) rfl ?_
  refine sm_ai (fun v98 => ?_)
  refine sm_if (fun c => ?_) (fun c => ?_)
  · refine sm_mapw1 ?_
    exact sm_X10_quote_137
  · refine sm_ob ?_
    refine sm_b sm_X10_hasSprings (fun v104 => ?_)
    refine sm_if (fun c => ?_) (fun c => ?_)
    · refine sm_mapw1 ?_
      exact sm_X10_quote_137
    · refine sm_gq (off := 78) rfl ?_
      refine sm_aq (fun o116 => ?_)
      refine sm_ai (fun v118 => ?_)
      refine sm_if (fun c => ?_) (fun c => ?_)
      · exact sm_X10_quote_129
      · exact sm_X10_quote_129
set_option maxHeartbeats 4000000 in
set_option maxRecDepth 100000 in
theorem sm_X10_quote_90 {h : zz_H} {am : Nat} {x1 : Int32} {x2 : Int32} {μ : zzM} {ν : zzN} : zLe (fun r : (Int32 × zzM × zzN) => (r.1, zk h am r.2.1 r.2.2)) (g_X10_quote_90 x1 x2 μ ν) (f_X10_quote_90 am x1 x2 (zk h am μ ν)) := by
  unfold g_X10_quote_90 f_X10_quote_90
  refine sm_it (cs := id) (fun s => ?_)
  exact sm_X10_quote_92
set_option maxHeartbeats 4000000 in
set_option maxRecDepth 100000 in
theorem sm_X10_quote_82 {h : zz_H} {am : Nat} {x1 : Int32} {x3 : Int32} {s0 : Int32} {s1 : Int32} {μ : zzM} {ν : zzN} : zLe (Sum.map id (fun r : (Int32 × zzM × zzN) => (r.1, zk h am r.2.1 r.2.2))) (g_X10_quote_82 x1 x3 s0 s1 μ ν) (f_X10_quote_82 am x1 x3 s0 s1 (zk h am μ ν)) := by
  unfold g_X10_quote_82 f_X10_quote_82
  exact sm_some rfl
set_option maxHeartbeats 4000000 in
set_option maxRecDepth 100000 in
theorem sm_X10_quote_45 {h : zz_H} {am : Nat} {x1 : Int32} {x2 : Int32} {x3 : Int32} {μ : zzM} {ν : zzN} : zLe (Sum.map id (fun r : (Int32 × zzM × zzN) => (r.1, zk h am r.2.1 r.2.2))) (g_X10_quote_45 x1 x2 x3 μ ν) (f_X10_quote_45 am x1 x2 x3 (zk h am μ ν)) := by
  unfold g_X10_quote_45 f_X10_quote_45
  refine sm_gq (off := 1) rfl ?_
  refine sm_ai (fun v51 => ?_)
  refine sm_if (fun c => ?_) (fun c => ?_)
  · refine sm_mapw1 ?_
    exact sm_X10_quote_90
  · refine sm_ob ?_
    refine sm_b sm_X10_hasSprings (fun v57 => ?_)
    refine sm_if (fun c => ?_) (fun c => ?_)
    · refine sm_mapw1 ?_
      exact sm_X10_quote_90
    · refine sm_gq (off := 73) rfl ?_
      refine sm_aq (fun o69 => ?_)
      refine sm_ai (fun v71 => ?_)
      refine sm_if (fun c => ?_) (fun c => ?_)
      · exact sm_X10_quote_82
      · exact sm_X10_quote_82
set_option maxHeartbeats 4000000 in
set_option maxRecDepth 100000 in
theorem sm_X10_quote_42 {h : zz_H} {am : Nat} {x1 : Int32} {s0 : Int32} {μ : zzM} {ν : zzN} : zLe (fun r : (Int32 × zzM × zzN) => (r.1, zk h am r.2.1 r.2.2)) (g_X10_quote_42 x1 s0 μ ν) (f_X10_quote_42 am x1 s0 (zk h am μ ν)) := by
  unfold g_X10_quote_42 f_X10_quote_42
  refine sm_it (cs := id) (fun s => ?_)
  exact sm_X10_quote_45
set_option maxHeartbeats 4000000 in
set_option maxRecDepth 100000 in
theorem sm_X10_quote {h : zz_H} {am : Nat} {x1 : Int32} {μ : zzM} {ν : zzN} : zLe (fun r : (Int32 × zzM × zzN) => (r.1, zk h am r.2.1 r.2.2)) (g_X10_quote x1 μ ν) (f_X10_quote am x1 (zk h am μ ν)) := by
  unfold g_X10_quote f_X10_quote
  refine sm_ob ?_
  refine sm_b sm_X10_isNoSeat (fun v3 => ?_)
  refine sm_ob ?_
  refine sm_b1 sm_X10_isThrown (fun v7 m7 q7 => ?_)
  refine sm_if (fun c => ?_) (fun c => ?_)
  · refine sm_ob ?_
    refine sm_b sm_X10_hasSprings (fun v17 => ?_)
    refine sm_if (fun c => ?_) (fun c => ?_)
    · exact sm_X10_quote_42
    · refine sm_gq (off := 1) rfl ?_
      refine sm_ai (fun v29 => ?_)
      refine sm_gq (off := 2) rfl ?_
      refine sm_ai (fun v36 => ?_)
      exact sm_X10_quote_42
  · exact sm_some rfl
set_option maxHeartbeats 4000000 in
set_option maxRecDepth 100000 in
theorem sm_X10_checksum_50 {h : zz_H} {am : Nat} {x1 : Int64} {x3 : Int32} {x4 : Int32} {x5 : Int32} {μ : zzM} {ν : zzN} : zLe (Sum.map id (Sum.map id (Sum.map id (fun r : (Int64 × zzM × zzN) => (r.1, zk h am r.2.1 r.2.2))))) (g_X10_checksum_50 x1 x3 x4 x5 μ ν) (f_X10_checksum_50 am x1 x3 x4 x5 (zk h am μ ν)) := by
  unfold g_X10_checksum_50 f_X10_checksum_50
  refine sm_gq (off := 2) rfl ?_
  refine sm_ai (fun v57 => ?_)
  refine sm_if (fun c => ?_) (fun c => ?_)
  · exact sm_some rfl
  · refine sm_ob ?_
    refine sm_b sm_X10_topAt (fun v72 => ?_)
    exact sm_some rfl
set_option maxHeartbeats 4000000 in
set_option maxRecDepth 100000 in
theorem sm_X10_checksum_36 {h : zz_H} {am : Nat} {x1 : Int64} {x3 : Int32} {x4 : Int32} {μ : zzM} {ν : zzN} : zLe (Sum.map id (Sum.map id (fun r : (Int64 × zzM × zzN) => (r.1, zk h am r.2.1 r.2.2)))) (g_X10_checksum_36 x1 x3 x4 μ ν) (f_X10_checksum_36 am x1 x3 x4 (zk h am μ ν)) := by
  unfold g_X10_checksum_36 f_X10_checksum_36
  refine sm_gq (off := 1) rfl ?_
  refine sm_ai (fun v43 => ?_)
  refine sm_if (fun c => ?_) (fun c => ?_)
  · exact sm_some rfl
  · refine sm_it (cs := id) (fun s => ?_)
    exact sm_X10_checksum_50
set_option maxHeartbeats 4000000 in
set_option maxRecDepth 100000 in
theorem sm_X10_checksum_11 {h : zz_H} {am : Nat} {x1 : Int64} {x3 : Int32} {μ : zzM} {ν : zzN} : zLe (Sum.map id (fun r : (Int64 × zzM × zzN) => (r.1, zk h am r.2.1 r.2.2))) (g_X10_checksum_11 x1 x3 μ ν) (f_X10_checksum_11 am x1 x3 (zk h am μ ν)) := by
  unfold g_X10_checksum_11 f_X10_checksum_11
  refine sm_gi (by decide) ?_
  refine sm_if (fun c => ?_) (fun c => ?_)
  · exact sm_some rfl
  · refine sm_gq (off := 3) rfl ?_
    refine sm_ai (fun v29 => ?_)
    refine sm_it (cs := id) (fun s => ?_)
    exact sm_X10_checksum_36
set_option maxHeartbeats 4000000 in
set_option maxRecDepth 100000 in
theorem sm_X10_checksum {h : zz_H} {am : Nat} {μ : zzM} {ν : zzN} : zLe (fun r : (Int64 × zzM × zzN) => (r.1, zk h am r.2.1 r.2.2)) (g_X10_checksum μ ν) (f_X10_checksum am (zk h am μ ν)) := by
  unfold g_X10_checksum f_X10_checksum
  refine sm_p (by decide) ?_
  refine sm_it (cs := id) (fun s => ?_)
  exact sm_X10_checksum_11
set_option maxHeartbeats 4000000 in
set_option maxRecDepth 100000 in
theorem sm_X10_closedShare_50 {h : zz_H} {am : Nat} {x2 : Int32} {s0 : Int32} {s1 : Int32} {μ : zzM} {ν : zzN} : zLe (Sum.map id (fun r : (UInt32 × zzM × zzN) => (r.1, zk h am r.2.1 r.2.2))) (g_X10_closedShare_50 x2 s0 s1 μ ν) (f_X10_closedShare_50 am x2 s0 s1 (zk h am μ ν)) := by
  unfold g_X10_closedShare_50 f_X10_closedShare_50
  exact sm_some rfl
set_option maxHeartbeats 4000000 in
set_option maxRecDepth 100000 in
theorem sm_X10_closedShare_26 {h : zz_H} {am : Nat} {x1 : Int32} {x2 : Int32} {μ : zzM} {ν : zzN} : zLe (Sum.map id (fun r : (UInt32 × zzM × zzN) => (r.1, zk h am r.2.1 r.2.2))) (g_X10_closedShare_26 x1 x2 μ ν) (f_X10_closedShare_26 am x1 x2 (zk h am μ ν)) := by
  unfold g_X10_closedShare_26 f_X10_closedShare_26
  refine sm_gi (by decide) ?_
  refine sm_if (fun c => ?_) (fun c => ?_)
  · refine sm_gi (by decide) ?_
    refine sm_nf ?_
    exact sm_some rfl
  · refine sm_ob ?_
    refine sm_b sm_X10_last (fun v37 => ?_)
    refine sm_if (fun c => ?_) (fun c => ?_)
    · exact sm_X10_closedShare_50
    · exact sm_X10_closedShare_50
set_option maxHeartbeats 4000000 in
set_option maxRecDepth 100000 in
theorem sm_X10_closedShare_13 {h : zz_H} {am : Nat} {s0 : Int32} {μ : zzM} {ν : zzN} : zLe (fun r : (UInt32 × zzM × zzN) => (r.1, zk h am r.2.1 r.2.2)) (g_X10_closedShare_13 s0 μ ν) (f_X10_closedShare_13 am s0 (some am) (zk h am μ ν)) := by
  unfold g_X10_closedShare_13 f_X10_closedShare_13
  refine sm_ob ?_
  refine sm_b1 sm_X10_isThrown (fun v14 m14 q14 => ?_)
  refine sm_if (fun c => ?_) (fun c => ?_)
  · refine sm_it (cs := id) (fun s => ?_)
    exact sm_X10_closedShare_26
  · exact sm_some rfl
set_option maxHeartbeats 4000000 in
set_option maxRecDepth 100000 in
theorem sm_X10_closedShare {h : zz_H} {am : Nat} {μ : zzM} {ν : zzN} : zLe (fun r : (UInt32 × zzM × zzN) => (r.1, zk h am r.2.1 r.2.2)) (g_X10_closedShare μ ν) (f_X10_closedShare am (zk h am μ ν)) := by
  unfold g_X10_closedShare f_X10_closedShare
  refine sm_gi (by decide) ?_
  refine sm_if (fun c => ?_) (fun c => ?_)
  · exact sm_X10_closedShare_13
  · exact sm_X10_closedShare_13
set_option maxHeartbeats 4000000 in
set_option maxRecDepth 100000 in
theorem sm_X10_meanTop_38 {h : zz_H} {am : Nat} {s0 : UInt64} {μ : zzM} {ν : zzN} : zLe (fun r : (UInt64 × zzM × zzN) => (r.1, zk h am r.2.1 r.2.2)) (g_X10_meanTop_38 s0 μ ν) (f_X10_meanTop_38 s0 (zk h am μ ν)) := by
  unfold g_X10_meanTop_38 f_X10_meanTop_38
  exact sm_some rfl
set_option maxHeartbeats 4000000 in
set_option maxRecDepth 100000 in
theorem sm_X10_meanTop {h : zz_H} {am : Nat} {x1 : Int32} {μ : zzM} {ν : zzN} : zLe (fun r : (UInt64 × zzM × zzN) => (r.1, zk h am r.2.1 r.2.2)) (g_X10_meanTop x1 μ ν) (f_X10_meanTop am x1 (zk h am μ ν)) := by
  unfold g_X10_meanTop f_X10_meanTop
  refine sm_ob ?_
  refine sm_b sm_X10_isNoSeat (fun v3 => ?_)
  refine sm_ob ?_
  refine sm_b1 sm_X10_isThrown (fun v7 m7 q7 => ?_)
  refine sm_if (fun c => ?_) (fun c => ?_)
  · refine sm_ob ?_
    refine sm_b sm_X10_tops (fun v19 => ?_)
    refine sm_gq (off := 1) rfl ?_
    refine sm_ai (fun v28 => ?_)
    refine sm_gq (off := 2) rfl ?_
    refine sm_ai (fun v34 => ?_)
    refine sm_nd ?_
    exact sm_X10_meanTop_38
  · exact sm_X10_meanTop_38
set_option maxHeartbeats 4000000 in
set_option maxRecDepth 100000 in
theorem sm_X10_isSound {h : zz_H} {am : Nat} {μ : zzM} {ν : zzN} : zLe (fun r : (Int32 × zzM × zzN) => (r.1, zk h am r.2.1 r.2.2)) (g_X10_isSound μ ν) (f_X10_isSound am (zk h am μ ν)) := by
  unfold g_X10_isSound f_X10_isSound
  refine sm_p (by decide) ?_
  exact sm_some rfl
end ZGS
