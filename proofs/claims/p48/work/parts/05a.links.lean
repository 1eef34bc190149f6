section ZZL
theorem zc0 : zz_Cl 0 RJx4a65c TJx4a65c 3 tyJx4a65c := ⟨rfl, (fun w hw => zz_inws [59, 55, 57] (by decide +kernel) w hw), tyJx4a65c_ok, nmJx4a65c⟩
theorem zc1 : zz_Cl 1 RX0 TX0 5 tyX0 := ⟨rfl, (fun w hw => zz_inws [908, 910, 912, 914, 916] (by decide +kernel) w hw), tyX0_ok, nmX0⟩
theorem zc2 : zz_Cl 2 RX1 TX1 7 tyX1 := ⟨rfl, (fun w hw => zz_inws [578, 580, 582, 584, 586, 588, 590] (by decide +kernel) w hw), tyX1_ok, nmX1⟩
theorem zc3 : zz_Cl 3 RX2 TX2 1 tyX2 := ⟨rfl, (fun w hw => zz_inws [558] (by decide +kernel) w hw), tyX2_ok, nmX2⟩
theorem zc4 : zz_Cl 4 RX3 TX3 7 tyX3 := ⟨rfl, (fun w hw => zz_inws [619, 621, 623, 625, 627, 629, 631] (by decide +kernel) w hw), tyX3_ok, nmX3⟩
theorem zc5 : zz_Cl 5 RX4 TX4 1 tyX4 := ⟨rfl, (fun w hw => zz_inws [69] (by decide +kernel) w hw), tyX4_ok, nmX4⟩
theorem zc6 : zz_Cl 6 RX5 TX5 2 tyX5 := ⟨rfl, (fun w hw => zz_inws [81, 83] (by decide +kernel) w hw), tyX5_ok, nmX5⟩
theorem zc7 : zz_Cl 7 RX6 TX6 6 tyX6 := ⟨rfl, (fun w hw => zz_inws [773, 775, 777, 779, 781, 783] (by decide +kernel) w hw), tyX6_ok, nmX6⟩
theorem zc8 : zz_Cl 8 RX7 TX7 6 tyX7 := ⟨rfl, (fun w hw => zz_inws [646, 648, 650, 652, 654, 656] (by decide +kernel) w hw), tyX7_ok, nmX7⟩
theorem zc9 : zz_Cl 9 RX8 TX8 3 tyX8 := ⟨rfl, (fun w hw => zz_inws [540, 542, 544] (by decide +kernel) w hw), tyX8_ok, nmX8⟩
theorem zc10 : zz_Cl 10 RX9 TX9 6 tyX9 := ⟨rfl, (fun w hw => zz_inws [155, 157, 159, 161, 163, 165] (by decide +kernel) w hw), tyX9_ok, nmX9⟩
theorem fl_X9_10 : zz_Fl "Springseat" 10 10 0 RX9 TX9 6 tyX9 "Springseat" := ⟨zc10, by decide, q_149, Or.inl rfl⟩
theorem fl_X9_16 : zz_Fl "Springseat" 16 10 1 RX9 TX9 6 tyX9 "Springseat" := ⟨zc10, by decide, q_150, Or.inl rfl⟩
theorem fl_X9_19 : zz_Fl "Springseat" 19 10 2 RX9 TX9 6 tyX9 "Springseat" := ⟨zc10, by decide, q_151, Or.inl rfl⟩
theorem fl_X9_22 : zz_Fl "Springseat" 22 10 3 RX9 TX9 6 tyX9 "Springseat" := ⟨zc10, by decide, q_152, Or.inl rfl⟩
theorem fl_X9_28 : zz_Fl "Springseat" 28 10 4 RX9 TX9 6 tyX9 "Springseat" := ⟨zc10, by decide, q_153, Or.inl rfl⟩
theorem fl_X9_32 : zz_Fl "Springseat" 32 10 5 RX9 TX9 6 tyX9 "Springseat" := ⟨zc10, by decide, q_154, Or.inl rfl⟩
theorem fn_X9_66 : zz_Fn "Springseat" 66 8 0 RX7 TX7 6 tyX7 "Springseat" := ⟨zc8, by decide, q_635⟩
theorem fn_X9_70 : zz_Fn "Springseat" 70 4 2 RX3 TX3 7 tyX3 "Springseat" := ⟨zc4, by decide, q_612⟩
theorem fn_X9_76 : zz_Fn "Springseat" 76 8 1 RX7 TX7 6 tyX7 "Springseat" := ⟨zc8, by decide, q_637⟩
theorem fn_X9_95 : zz_Fn "Springseat" 95 4 3 RX3 TX3 7 tyX3 "Springseat" := ⟨zc4, by decide, q_615⟩
theorem fn_X9_105 : zz_Fn "Springseat" 105 4 0 RX3 TX3 7 tyX3 "Springseat" := ⟨zc4, by decide, q_608⟩
theorem fn_X9_108 : zz_Fn "Springseat" 108 4 1 RX3 TX3 7 tyX3 "Springseat" := ⟨zc4, by decide, q_611⟩
theorem fn_X9_130 : zz_Fn "Springseat" 130 8 2 RX7 TX7 6 tyX7 "Springseat" := ⟨zc8, by decide, q_639⟩
theorem fn_X9_144 : zz_Fn "Springseat" 144 8 3 RX7 TX7 6 tyX7 "Springseat" := ⟨zc8, by decide, q_641⟩
theorem fn_X9_157 : zz_Fn "Springseat" 157 1 1 RX0 TX0 5 tyX0 "Springseat" := ⟨zc1, by decide, q_903⟩
theorem fn_X9_173 : zz_Fn "Springseat" 173 1 4 RX0 TX0 5 tyX0 "Springseat" := ⟨zc1, by decide, q_907⟩
theorem fn_X9_214 : zz_Fn "Springseat" 214 7 3 RX6 TX6 6 tyX6 "Springseat" := ⟨zc7, by decide, q_771⟩
theorem fn_X9_267 : zz_Fn "Springseat" 267 8 4 RX7 TX7 6 tyX7 "Springseat" := ⟨zc8, by decide, q_643⟩
theorem fn_X9_288 : zz_Fn "Springseat" 288 2 6 RX1 TX1 7 tyX1 "Springseat" := ⟨zc2, by decide, q_577⟩
theorem fn_X9_318 : zz_Fn "Springseat" 318 8 5 RX7 TX7 6 tyX7 "Springseat" := ⟨zc8, by decide, q_645⟩
theorem fn_X9_321 : zz_Fn "Springseat" 321 2 5 RX1 TX1 7 tyX1 "Springseat" := ⟨zc2, by decide, q_575⟩
theorem fn_X9_371 : zz_Fn "Springseat" 371 3 0 RX2 TX2 1 tyX2 "Springseat" := ⟨zc3, by decide, q_557⟩
theorem fl_X0_9 : zz_Fl "Springseat$Cloth" 9 1 2 RX0 TX0 5 tyX0 "Springseat$Cloth" := ⟨zc1, by decide, q_904, Or.inl rfl⟩
theorem fl_X0_15 : zz_Fl "Springseat$Cloth" 15 1 0 RX0 TX0 5 tyX0 "Springseat$Cloth" := ⟨zc1, by decide, q_901, Or.inl rfl⟩
theorem fl_X0_19 : zz_Fl "Springseat$Cloth" 19 1 1 RX0 TX0 5 tyX0 "Springseat$Cloth" := ⟨zc1, by decide, q_902, Or.inl rfl⟩
theorem fl_X0_22 : zz_Fl "Springseat$Cloth" 22 1 3 RX0 TX0 5 tyX0 "Springseat$Cloth" := ⟨zc1, by decide, q_905, Or.inl rfl⟩
theorem fl_X1_9 : zz_Fl "Springseat$Cover" 9 2 0 RX1 TX1 7 tyX1 "Springseat$Cover" := ⟨zc2, by decide, q_569, Or.inl rfl⟩
theorem fn_X1_15 : zz_Fn "Springseat$Cover" 15 1 4 RX0 TX0 5 tyX0 "Springseat" := ⟨zc1, by decide, q_906⟩
theorem fl_X1_25 : zz_Fl "Springseat$Cover" 25 2 3 RX1 TX1 7 tyX1 "Springseat$Cover" := ⟨zc2, by decide, q_572, Or.inl rfl⟩
theorem fl_X1_29 : zz_Fl "Springseat$Cover" 29 2 4 RX1 TX1 7 tyX1 "Springseat$Cover" := ⟨zc2, by decide, q_573, Or.inl rfl⟩
theorem fl_X1_32 : zz_Fl "Springseat$Cover" 32 2 1 RX1 TX1 7 tyX1 "Springseat$Cover" := ⟨zc2, by decide, q_570, Or.inl rfl⟩
theorem fl_X1_35 : zz_Fl "Springseat$Cover" 35 2 2 RX1 TX1 7 tyX1 "Springseat$Cover" := ⟨zc2, by decide, q_571, Or.inl rfl⟩
theorem fl_X2_12 : zz_Fl "Springseat$Filling" 12 3 0 RX2 TX2 1 tyX2 "Springseat$Filling" := ⟨zc3, by decide, q_556, Or.inl rfl⟩
theorem fn_X2_43 : zz_Fn "Springseat$Filling" 43 7 3 RX6 TX6 6 tyX6 "Springseat" := ⟨zc7, by decide, q_770⟩
theorem fl_X3_12 : zz_Fl "Springseat$Frame" 12 4 3 RX3 TX3 7 tyX3 "Springseat$Frame" := ⟨zc4, by decide, q_614, Or.inl rfl⟩
theorem fl_X3_18 : zz_Fl "Springseat$Frame" 18 4 4 RX3 TX3 7 tyX3 "Springseat$Frame" := ⟨zc4, by decide, q_616, Or.inl rfl⟩
theorem fl_X3_21 : zz_Fl "Springseat$Frame" 21 4 5 RX3 TX3 7 tyX3 "Springseat$Frame" := ⟨zc4, by decide, q_617, Or.inl rfl⟩
theorem fl_X3_25 : zz_Fl "Springseat$Frame" 25 4 6 RX3 TX3 7 tyX3 "Springseat$Frame" := ⟨zc4, by decide, q_618, Or.inl rfl⟩
theorem fl_X3_28 : zz_Fl "Springseat$Frame" 28 4 0 RX3 TX3 7 tyX3 "Springseat$Frame" := ⟨zc4, by decide, q_606, Or.inl rfl⟩
theorem fl_X3_32 : zz_Fl "Springseat$Frame" 32 4 1 RX3 TX3 7 tyX3 "Springseat$Frame" := ⟨zc4, by decide, q_609, Or.inl rfl⟩
theorem fl_X3_79 : zz_Fl "Springseat$Frame" 79 4 2 RX3 TX3 7 tyX3 "Springseat$Frame" := ⟨zc4, by decide, q_613, Or.inl rfl⟩
theorem fl_X4_9 : zz_Fl "Springseat$Grid" 9 5 0 RX4 TX4 1 tyX4 "Springseat$Grid" := ⟨zc5, by decide, q_68, Or.inl rfl⟩
theorem fl_X5_9 : zz_Fl "Springseat$Land" 9 6 0 RX5 TX5 2 tyX5 "Springseat$Land" := ⟨zc6, by decide, q_79, Or.inl rfl⟩
theorem fl_X5_15 : zz_Fl "Springseat$Land" 15 6 1 RX5 TX5 2 tyX5 "Springseat$Land" := ⟨zc6, by decide, q_80, Or.inl rfl⟩
theorem fl_X6_9 : zz_Fl "Springseat$Layer" 9 7 0 RX6 TX6 6 tyX6 "Springseat$Layer" := ⟨zc7, by decide, q_766, Or.inl rfl⟩
theorem fl_X6_15 : zz_Fl "Springseat$Layer" 15 7 1 RX6 TX6 6 tyX6 "Springseat$Layer" := ⟨zc7, by decide, q_767, Or.inl rfl⟩
theorem fl_X6_19 : zz_Fl "Springseat$Layer" 19 7 2 RX6 TX6 6 tyX6 "Springseat$Layer" := ⟨zc7, by decide, q_768, Or.inl rfl⟩
theorem fl_X6_22 : zz_Fl "Springseat$Layer" 22 7 3 RX6 TX6 6 tyX6 "Springseat$Layer" := ⟨zc7, by decide, q_769, Or.inl rfl⟩
theorem fl_X6_25 : zz_Fl "Springseat$Layer" 25 7 4 RX6 TX6 6 tyX6 "Springseat$Layer" := ⟨zc7, by decide, q_772, Or.inl rfl⟩
theorem fl_X7_12 : zz_Fl "Springseat$Seat" 12 8 1 RX7 TX7 6 tyX7 "Springseat$Seat" := ⟨zc8, by decide, q_636, Or.inl rfl⟩
theorem fl_X7_21 : zz_Fl "Springseat$Seat" 21 8 2 RX7 TX7 6 tyX7 "Springseat$Seat" := ⟨zc8, by decide, q_638, Or.inl rfl⟩
theorem fl_X7_28 : zz_Fl "Springseat$Seat" 28 8 3 RX7 TX7 6 tyX7 "Springseat$Seat" := ⟨zc8, by decide, q_640, Or.inl rfl⟩
theorem fl_X7_35 : zz_Fl "Springseat$Seat" 35 8 4 RX7 TX7 6 tyX7 "Springseat$Seat" := ⟨zc8, by decide, q_642, Or.inl rfl⟩
theorem fl_X7_39 : zz_Fl "Springseat$Seat" 39 8 5 RX7 TX7 6 tyX7 "Springseat$Seat" := ⟨zc8, by decide, q_644, Or.inl rfl⟩
theorem fl_X7_48 : zz_Fl "Springseat$Seat" 48 8 0 RX7 TX7 6 tyX7 "Springseat$Seat" := ⟨zc8, by decide, q_634, Or.inl rfl⟩
theorem fn_X7_52 : zz_Fn "Springseat$Seat" 52 9 1 RX8 TX8 3 tyX8 "Springseat" := ⟨zc9, by decide, q_537⟩
theorem fn_X7_59 : zz_Fn "Springseat$Seat" 59 4 1 RX3 TX3 7 tyX3 "Springseat" := ⟨zc4, by decide, q_610⟩
theorem fn_X7_66 : zz_Fn "Springseat$Seat" 66 4 0 RX3 TX3 7 tyX3 "Springseat" := ⟨zc4, by decide, q_607⟩
theorem fn_X7_76 : zz_Fn "Springseat$Seat" 76 2 5 RX1 TX1 7 tyX1 "Springseat" := ⟨zc2, by decide, q_574⟩
theorem fn_X7_79 : zz_Fn "Springseat$Seat" 79 2 6 RX1 TX1 7 tyX1 "Springseat" := ⟨zc2, by decide, q_576⟩
theorem fl_X8_9 : zz_Fl "Springseat$Steps" 9 9 0 RX8 TX8 3 tyX8 "Springseat$Steps" := ⟨zc9, by decide, q_536, Or.inl rfl⟩
theorem fl_X8_15 : zz_Fl "Springseat$Steps" 15 9 1 RX8 TX8 3 tyX8 "Springseat$Steps" := ⟨zc9, by decide, q_538, Or.inl rfl⟩
theorem fl_X8_23 : zz_Fl "Springseat$Steps" 23 9 2 RX8 TX8 3 tyX8 "Springseat$Steps" := ⟨zc9, by decide, q_539, Or.inl rfl⟩
theorem fl_Jxc12de_7 : zz_Fl "java/util/AbstractList" 7 0 0 RJx4a65c TJx4a65c 3 tyJx4a65c "java/util/AbstractList" := ⟨zc0, by decide, q_52, Or.inl rfl⟩
theorem fl_Jx4a65c_9 : zz_Fl "java/util/ArrayList" 9 0 1 RJx4a65c TJx4a65c 3 tyJx4a65c "java/util/ArrayList" := ⟨zc0, by decide, q_50, Or.inl rfl⟩
theorem fl_Jx4a65c_48 : zz_Fl "java/util/ArrayList" 48 0 2 RJx4a65c TJx4a65c 3 tyJx4a65c "java/util/ArrayList" := ⟨zc0, by decide, q_51, Or.inl rfl⟩
theorem fl_Jx4a65c_63 : zz_Fl "java/util/ArrayList" 63 0 0 RJx4a65c TJx4a65c 3 tyJx4a65c "java/util/ArrayList" := ⟨zc0, by decide, q_53, Or.inr q_54⟩
theorem nse_0 : decode prog_32_method_4_code 0 = .ok (.aload_n 0, 1) := by decide +kernel
theorem nse_1 : decode prog_32_method_4_code 1 = .ok (.aload_n 1, 1) := by decide +kernel
theorem nse_2 : decode prog_32_method_4_code 2 = .ok (.invokespecial 13, 3) := by decide +kernel
theorem nse_5 : decode prog_32_method_4_code 5 = .ok (.return_, 1) := by decide +kernel
theorem tw_10_170 : Bundle.fit (zz_E 4) = true ∧ (∀ n ∈ (["java/lang/RuntimeException", "java/lang/Exception"] : List String), Bundle.fit n = true) ∧ (∀ w ∈ (Bundle.ownAtomsX "Springseat" 170 (zz_E 4) 13 prog_32_method_4_code ["java/lang/RuntimeException", "java/lang/Exception"]).filter vx_no, w ∈ zz_G) ∧ (∀ w ∈ Cond.classLink "Springseat" 166 (zz_E 4) :: Cond.initialized (zz_E 4) :: ((Bundle.ownAtomsX "Springseat" 170 (zz_E 4) 13 prog_32_method_4_code ["java/lang/RuntimeException", "java/lang/Exception"]).filter vx_no), vx_ot w = true) := ⟨by decide +kernel, by decide +kernel, by decide +kernel, by decide +kernel⟩
theorem tw_10_184 : Bundle.fit (zz_E 3) = true ∧ (∀ n ∈ (["java/lang/RuntimeException", "java/lang/Exception"] : List String), Bundle.fit n = true) ∧ (∀ w ∈ vx_atS "Springseat" 184 (zz_E 3) ["java/lang/RuntimeException", "java/lang/Exception"], w ∈ zz_G) ∧ (∀ w ∈ Cond.classLink "Springseat" 180 (zz_E 3) :: Cond.initialized (zz_E 3) :: (vx_atS "Springseat" 184 (zz_E 3) ["java/lang/RuntimeException", "java/lang/Exception"]), vx_ot w = true) := ⟨by decide +kernel, by decide +kernel, by decide +kernel, by decide +kernel⟩
theorem tw_10_378 : Bundle.fit (zz_E 2) = true ∧ (∀ n ∈ (["java/lang/RuntimeException", "java/lang/Exception"] : List String), Bundle.fit n = true) ∧ (∀ w ∈ vx_atS "Springseat" 378 (zz_E 2) ["java/lang/RuntimeException", "java/lang/Exception"], w ∈ zz_G) ∧ (∀ w ∈ Cond.classLink "Springseat" 374 (zz_E 2) :: Cond.initialized (zz_E 2) :: (vx_atS "Springseat" 378 (zz_E 2) ["java/lang/RuntimeException", "java/lang/Exception"]), vx_ot w = true) := ⟨by decide +kernel, by decide +kernel, by decide +kernel, by decide +kernel⟩
theorem tw_10_385 : Bundle.fit (zz_E 0) = true ∧ (∀ n ∈ (["java/lang/RuntimeException", "java/lang/Exception"] : List String), Bundle.fit n = true) ∧ (∀ w ∈ vx_atS "Springseat" 385 (zz_E 0) ["java/lang/RuntimeException", "java/lang/Exception"], w ∈ zz_G) ∧ (∀ w ∈ Cond.classLink "Springseat" 381 (zz_E 0) :: Cond.initialized (zz_E 0) :: (vx_atS "Springseat" 385 (zz_E 0) ["java/lang/RuntimeException", "java/lang/Exception"]), vx_ot w = true) := ⟨by decide +kernel, by decide +kernel, by decide +kernel, by decide +kernel⟩
theorem tw_10_392 : Bundle.fit (zz_E 1) = true ∧ (∀ n ∈ (["java/lang/RuntimeException", "java/lang/Exception"] : List String), Bundle.fit n = true) ∧ (∀ w ∈ vx_atS "Springseat" 392 (zz_E 1) ["java/lang/RuntimeException", "java/lang/Exception"], w ∈ zz_G) ∧ (∀ w ∈ Cond.classLink "Springseat" 388 (zz_E 1) :: Cond.initialized (zz_E 1) :: (vx_atS "Springseat" 392 (zz_E 1) ["java/lang/RuntimeException", "java/lang/Exception"]), vx_ot w = true) := ⟨by decide +kernel, by decide +kernel, by decide +kernel, by decide +kernel⟩
end ZZL
